/-! profile -/
section PRF
variable {G : Nat → ClassId} {N b p kl sz kc n : Nat}
/-- one part: carried out on both sides, or bad on both -/
theorem part1 {e k : Nat} {S : mw_M} {M : mm_M} (h : RC G b p kl sz kc n S M) (hke : k ≤ e) (he : e ≤ n) (hb : e = n ∨ M.2 0 e = 124) (hN : 700 ≤ N) (y2 y3 : Int32) : ∃ S' M' z2 z3, RC G b p kl sz kc n S' M' ∧ fm [] [19, 20] M M' ∧ sm_p (cl_X b p kl) S S' ∧ (∀ K, pf_X8_profile_47 G N K b y2 y3 (nI k) (nI e) S = K b z2 z3 (nI (e + 1)) (nI (e + 1)) S') ∧ (∀ K, pf_X9_profile_56 G N K (nI n) y2 y3 (nI k) (nI e) M = K (nI n) z2 z3 (nI (e + 1)) M') := by
  have rc0 := h
  obtain ⟨bf, ch, h1, h2, h3, h4, h5, h6, h7, h8, h9, h10, h11, h12, h13⟩ := h
  obtain ⟨t1, t2, nt, hnt6, e7, t3⟩ := h5
  obtain ⟨h6a, ⟨nr, hnr4, e29⟩, h6c⟩ := h6
  have hn := h2.2.2.1
  have h1' := h1
  rw [e7] at h1'
  have h1r := h1
  rw [e29] at h1r
  have e1 : nI k + 1 = nI (k + 1) := nI_1 k
  have ee1 : nI e + 1 = nI (e + 1) := nI_1 e
  have e2 : nI k + 2 = nI (k + 2) := by rw [show (2 : Int32) = nI 2 from rfl, nI_add]
  -- a bad one
  have hbad : pf_X8_carryOutPart G N S b (nI k) (nI e) = some (0, S) → (∀ K, ∃ y6, pf_X9_profile_56 G N K (nI n) y2 y3 (nI k) (nI e) M = pf_X9_profile_158 G N K (nI n) y2 y3 (nI k) (nI e) y6 M) → ∃ S' M' z2 z3, RC G b p kl sz kc n S' M' ∧ fm [] [19, 20] M M' ∧ sm_p (cl_X b p kl) S S' ∧ (∀ K, pf_X8_profile_47 G N K b y2 y3 (nI k) (nI e) S = K b z2 z3 (nI (e + 1)) (nI (e + 1)) S') ∧ (∀ K, pf_X9_profile_56 G N K (nI n) y2 y3 (nI k) (nI e) M = K (nI n) z2 z3 (nI (e + 1)) M') := by
    intro q1 q2
    refine ⟨S, M, y2, y3 + 1, rc0, fm.rf _ _ M, sm_p.rf _ S, fun K => ?_, fun K => ?_⟩
    · unfold pf_X8_profile_47
      simp only [v_q _ h1, q1, mw_b2]
      rw [if_pos trivial, pf_X8_profile_66, ee1]
    · obtain ⟨y6, q3⟩ := q2 K
      rw [q3, pf_X9_profile_158, pf_X9_profile_159, if_pos rfl, pf_X9_profile_178, if_pos rfl, pf_X9_profile_190, if_pos rfl, pf_X9_profile_203, ee1]
  by_cases hd : dgp (M.2 0) e k
  · obtain ⟨d, d1, d2, d3⟩ := dg_val (h2.2.2.2 _ (by have := hd.1; omega)) hd
    have hlt := hd.1
    have htd := td_1 hn he hd
    rw [d3] at htd
    have hm56 : ∀ K, pf_X9_profile_56 G N K (nI n) y2 y3 (nI k) (nI e) M = pf_X9_profile_81 G N K (nI n) y2 y3 (nI k) (nI e) (nI d) M := by
      intro K
      unfold pf_X9_profile_56
      rw [(md_dig (G := G) (N := N) (M := M) rfl (by omega) (by omega)).1 hd]
      dsimp only [mw_b2]
      rw [if_neg (show ¬ (1 : Int32) = 0 by decide)]
      simp only [aim (M := M) (k := 0) (j := k) (show k < 40 by omega) (by decide), Option.bind_some, d3]
    by_cases hdr : d < nr
    · have hd4 : d < 4 := by omega
      have ii := isRec_in (G := G) (N := N) (M := M) h1r hdr hnr4 e29
      obtain ⟨la, f, g, r1, r2, r3, r4, r5⟩ := h6c d hd4
      obtain ⟨ga, a1, a2⟩ := h6a
      have hm113 : ∀ K, pf_X9_profile_56 G N K (nI n) y2 y3 (nI k) (nI e) M = pf_X9_profile_113 G N K (nI n) y2 y3 (nI k) (nI e) (nI d) (nI d) M := by
        intro K
        rw [hm56, pf_X9_profile_81, ii.2]
        dsimp only [mw_b2]
        rw [if_neg (show ¬ (1 : Int32) = 0 by decide), if_neg (show ¬ nI d < 0 from nI_pos (by omega)), if_pos (show nI d ≤ 3 from nI_le (b := 3) (by omega) (by decide))]
      -- the class up to the colon
      have hcl : pf_X8_carryOutPart G N S b (nI k) (nI e) = if M.2 18 d = 3 then some (0, S) else if tc n (M.2 0) (nI (k + 1)) = 58 then mw_b2 (pf_X8_countItems G N S b (nI (k + 2)) (nI e)) fun v9 S9 => if ¬ v9 = -1 then (mw_gr S9 b 8 7).bind fun v10 => (mw_aq S9 v10 (G 5) (nI d)).bind fun v11 => (mw_v S9 b 8 (pf_X8_applyItems G N S9 b v11 (nI (k + 2)) v9)).bind fun S12 => if vp_nar .boolean 1 = 1 then some (1, S12) else none else if vp_nar .boolean 0 = 0 then some (0, S9) else none else some (0, S) := by
        unfold pf_X8_carryOutPart
        simp only [gr_q (k := 1) h1 rfl, Option.bind_some, v_q _ h2.1, tx_dig h2, tx_at h2, mw_b2, v_q _ h1, htd, ii.1, e1, e2]
        rw [if_neg (show ¬ (1 : Int32) = 0 by decide)]
        simp only [gr_q (k := 7) h1 rfl, aq_q a1 hd4 (by decide) (a2 d hd4), Option.bind_some, v_q _ r1.1, rec_is r1, gr_q (k := 1) h1 rfl, v_q _ h2.1, tx_at h2, v_q _ h1, if_pos z0]
        by_cases h3c : M.2 18 d = 3
        · rw [if_pos h3c, if_pos h3c, if_pos (show ¬ (1 : Int32) = 0 by decide)]
        · rw [if_neg h3c, if_neg h3c, if_neg (fun z => z rfl)]
      by_cases h3c : M.2 18 d = 3
      · rw [if_pos h3c] at hcl
        refine hbad hcl (fun K => ⟨nI d, ?_⟩)
        rw [hm113, pf_X9_profile_113]
        simp only [aim (M := M) (k := 18) (j := d) (show d < 4 from hd4) (by decide), Option.bind_some]
        rw [if_pos h3c]
      rw [if_neg h3c] at hcl
      by_cases hk1 : k + 1 < e
      · rw [tc_in (show k + 1 < n by omega) (by omega)] at hcl
        by_cases h58 : M.2 0 (k + 1) = 58
        · rw [if_pos h58] at hcl
          have hm113' : ∀ K, pf_X9_profile_56 G N K (nI n) y2 y3 (nI k) (nI e) M = mw_b2 (pf_X9_items G N M (nI (k + 2)) (nI e)) fun v3 S3 => if v3 ≤ 0 then pf_X9_profile_158 G N K (nI n) y2 y3 (nI k) (nI e) (nI d) S3 else pf_X9_profile_159 G N K (nI n) y2 y3 (nI k) (nI e) (nI d) 1 S3 := by
            intro K
            rw [hm113, pf_X9_profile_113]
            simp only [aim (M := M) (k := 18) (j := d) (show d < 4 from hd4) (by decide), Option.bind_some, e1, e2, aim (M := M) (k := 0) (j := k + 1) (show k + 1 < 40 by omega) (by decide)]
            rw [if_neg h3c, if_neg (nI_ge hk1 (by omega)), if_neg (fun z => z h58)]
          have hcnt := cnt (G := G) (N := N) (M := M) (e := e) h1' e7 hnt6 rfl h2 he hb hN N 0 (k + 2) (by omega) (by omega) (by omega)
          have c1 : pf_X8_countItems G N S b (nI (k + 2)) (nI e) = pf_X8_countItems_5 G N N b (nI e) (nI (k + 2)) (nI (0 + 1)) S := rfl
          have c2 : pf_X9_items G N M (nI (k + 2)) (nI e) = pf_X9_items_5 G N N (nI e) (nI 0) (nI (k + 2)) M := rfl
          rw [c1] at hcl
          rcases hcnt with ⟨w1, w2⟩ | ⟨c, w1, w2, w3, w4⟩
          · rw [w1] at hcl
            dsimp only [mw_b2] at hcl
            rw [if_neg (show ¬ ¬ (-1 : Int32) = -1 from fun z => z rfl), if_pos z0] at hcl
            refine hbad hcl (fun K => ⟨nI d, ?_⟩)
            rw [hm113', c2, w2]
            dsimp only [mw_b2]
            rw [if_pos (show (-1 : Int32) ≤ 0 by decide)]
          · rw [show 0 + c = c from Nat.zero_add c] at w2 w3 w4
            have hc1 : 1 ≤ c := by
              cases c with
              | zero => exact absurd w1 (fun z => z)
              | succ c => omega
            obtain ⟨S2, M2, b1, b2, b3, b4, b5⟩ := ap_l (G := G) (N := N) (e := e) hd4 hnt6 he hN c N 0 (k + 2) S M rc0 e7 hb w1 (by omega) (by omega)
            rw [Nat.zero_add] at b1
            have b1' : pf_X8_applyItems G N S b (b + 22 + 3 * d) (nI (k + 2)) (nI c) = some S2 := b1
            have b2' : pf_X9_set G N M (nI d) (nI (k + 2)) (nI e) = some M2 := b2
            rw [w3] at hcl
            dsimp only [mw_b2] at hcl
            rw [if_pos (show ¬ nI c = -1 from nI_m1 (by omega))] at hcl
            simp only [gr_q (k := 7) h1 rfl, aq_q a1 hd4 (by decide) (a2 d hd4), Option.bind_some, v_q _ h1, b1', if_pos z1] at hcl
            refine ⟨S2, M2, y2 + 1, y3, b3, b4, b5, fun K => ?_, fun K => ?_⟩
            · unfold pf_X8_profile_47
              simp only [v_q _ h1, hcl, mw_b2]
              rw [if_neg (show ¬ (1 : Int32) = 0 by decide), pf_X8_profile_66, ee1]
            · rw [hm113', c2, w4]
              dsimp only [mw_b2]
              rw [if_neg (show ¬ nI c ≤ 0 from nI_ge (a := 0) (by omega) (by omega)), pf_X9_profile_159, if_neg (show ¬ (1 : Int32) = 0 by decide), e2, b2']
              simp only [Option.bind_some]
              rw [pf_X9_profile_178, if_neg (show ¬ (1 : Int32) = 0 by decide), pf_X9_profile_190, if_neg (show ¬ (1 : Int32) = 0 by decide), pf_X9_profile_203, ee1]
        · rw [if_neg h58] at hcl
          refine hbad hcl (fun K => ⟨nI d, ?_⟩)
          rw [hm113, pf_X9_profile_113]
          simp only [aim (M := M) (k := 18) (j := d) (show d < 4 from hd4) (by decide), Option.bind_some, e1, e2, aim (M := M) (k := 0) (j := k + 1) (show k + 1 < 40 by omega) (by decide)]
          rw [if_neg h3c, if_neg (nI_ge hk1 (by omega)), if_pos h58]
      · have hk1e : k + 1 = e := by omega
        have htc : ¬ tc n (M.2 0) (nI (k + 1)) = 58 := by
          rw [hk1e]
          rcases Nat.lt_or_ge e n with w | w
          · rw [tc_in w (by omega), hb.resolve_left (by omega)]; decide
          · rw [tc_out w (by omega)]; decide
        rw [if_neg htc] at hcl
        refine hbad hcl (fun K => ⟨nI d, ?_⟩)
        rw [hm113, pf_X9_profile_113]
        simp only [aim (M := M) (k := 18) (j := d) (show d < 4 from hd4) (by decide), Option.bind_some, e1]
        rw [if_neg h3c, if_pos (nI_le (by omega) (by omega))]
    · have io := isRec_out (G := G) (N := N) (M := M) h1r (x := nI d) (Or.inr (nI_le (by omega) (by omega))) e29
      refine hbad ?_ (fun K => ⟨nI d, ?_⟩)
      · unfold pf_X8_carryOutPart
        simp only [gr_q (k := 1) h1 rfl, Option.bind_some, v_q _ h2.1, tx_dig h2, mw_b2, v_q _ h1, htd, io.1]
        rw [if_pos trivial, if_pos z0]
      · rw [hm56, pf_X9_profile_81, io.2]
        dsimp only [mw_b2]
        rw [if_pos rfl]
  · have htd := td_0 hn he hb hke hd
    have io := isRec_out (G := G) (N := N) (M := M) h1r (x := -1) (Or.inl (by decide)) e29
    refine hbad ?_ (fun K => ⟨-1, ?_⟩)
    · unfold pf_X8_carryOutPart
      simp only [gr_q (k := 1) h1 rfl, Option.bind_some, v_q _ h2.1, tx_dig h2, mw_b2, v_q _ h1, htd, io.1]
      rw [if_pos trivial, if_pos z0]
    · unfold pf_X9_profile_56
      rw [(md_dig (G := G) (N := N) (M := M) rfl (by omega) (by omega)).2 hd]
      dsimp only [mw_b2]
      rw [if_pos rfl, pf_X9_profile_81, io.2]
      dsimp only [mw_b2]
      rw [if_pos rfl]
theorem prf_l (hN : 700 ≤ N) : ∀ (dd fr k m m1 m2 : Nat) (y2 y3 : Int32) (S : mw_M) (M : mm_M), RC G b p kl sz kc n S M → M.1 5 = nI 0 → fr ≤ k → k ≤ n → n - k < dd → dd < m → dd ≤ m1 → dd ≤ m2 → dd ≤ 100 → ∃ v S' M', pf_X8_profile_9 G N m b y2 y3 (nI fr) (nI k) S = some (v, S') ∧ pf_X9_profile_32 G N (pf_X9_profile_22 G N m2) m1 (nI n) y2 y3 (nI fr) (nI k) M = some (v, M') ∧ RR G b p kl sz kc S' M' ∧ sm_p (cl_X b p kl) S S' := by
  intro dd
  induction dd with
  | zero => intro fr k m m1 m2 y2 y3 S M _ _ _ _ h; exact absurd h (Nat.not_lt_zero _)
  | succ dd ih =>
    intro fr k m m1 m2 y2 y3 S M rc h5 hfk hkn hd hm hm1 hm2 h100
    obtain ⟨m, rfl⟩ : ∃ m', m = m' + 1 := ⟨m - 1, by omega⟩
    obtain ⟨m1, rfl⟩ : ∃ m', m1 = m' + 1 := ⟨m1 - 1, by omega⟩
    obtain ⟨m2, rfl⟩ : ∃ m', m2 = m' + 1 := ⟨m2 - 1, by omega⟩
    have rc' := rc
    obtain ⟨bf, ch, h1, h2, -⟩ := rc'
    have hn := h2.2.2.1
    have hkk : nI k + 1 = nI (k + 1) := nI_1 k
    rw [pf_X8_profile_9, pf_X9_profile_32]
    simp only [gr_q (k := 1) h1 rfl, Option.bind_some, v_q _ h2.1, tx_len h2, mw_b2]
    rw [if_neg (show ¬ nI n < nI k from Int32.not_lt.mpr (nI_le hkn (by omega)))]
    by_cases hend : k = n ∨ M.2 0 k = 124
    · -- a part ends here
      obtain ⟨S1, M1, z2, z3, a1, a2, a3, a4, a5⟩ := part1 (N := N) rc hfk hkn hend hN y2 y3
      have hC : (if nI k = nI n then pf_X8_profile_47 G N (pf_X8_profile_9 G N m) b y2 y3 (nI fr) (nI k) S else mw_b2 (pf_X7_at G N S (b + 1) (nI k)) fun v8 S8 => if ¬ v8 = 124 then pf_X8_profile_9 G N m b y2 y3 (nI fr) (nI k + 1) S8 else pf_X8_profile_47 G N (pf_X8_profile_9 G N m) b y2 y3 (nI fr) (nI k) S8) = pf_X8_profile_9 G N m b z2 z3 (nI (k + 1)) (nI (k + 1)) S1 := by
        rw [← a4 (pf_X8_profile_9 G N m)]
        by_cases hk : k = n
        · rw [if_pos (by rw [hk])]
        · rw [if_neg (fun z => hk ((nI_eq (by omega) (by omega)).mp z))]
          simp only [tx_at h2, mw_b2]
          rw [tc_in (show k < n by omega) (by omega), if_neg (fun z => z (hend.resolve_left hk))]
      have hM : (if nI n ≤ nI k then pf_X9_profile_56 G N (pf_X9_profile_22 G N (m2 + 1)) (nI n) y2 y3 (nI fr) (nI k) M else (mm_ai M 0 (nI k)).bind fun v1 => if v1 = 124 then pf_X9_profile_56 G N (pf_X9_profile_22 G N (m2 + 1)) (nI n) y2 y3 (nI fr) (nI k) M else pf_X9_profile_32 G N (pf_X9_profile_22 G N (m2 + 1)) m1 (nI n) y2 y3 (nI fr) (nI k + 1) M) = pf_X9_profile_22 G N (m2 + 1) (nI n) z2 z3 (nI (k + 1)) M1 := by
        rw [← a5 (pf_X9_profile_22 G N (m2 + 1))]
        by_cases hk : k = n
        · rw [if_pos (nI_le (by omega) (by omega))]
        · rw [if_neg (nI_ge (by omega) (by omega))]
          simp only [aim (M := M) (k := 0) (j := k) (show k < 40 by omega) (by decide), Option.bind_some]
          rw [if_pos (hend.resolve_left hk)]
      simp only [mw_b2] at hC
      rw [hC, hM, pf_X9_profile_22]
      have a1' := a1
      obtain ⟨bf1, ch1, g1, g2, -⟩ := a1'
      have h51 : M1.1 5 = nI 0 := (a2.1 5 (by simp)).trans h5
      by_cases hk : k = n
      · subst hk
        obtain ⟨m, rfl⟩ : ∃ m', m = m' + 1 := ⟨m - 1, by omega⟩
        obtain ⟨S2, ⟨fs, k1⟩, k2, k3, k4⟩ := a1.clear (N := N)
        rw [pf_X8_profile_9]
        simp only [gr_q (k := 1) g1 rfl, Option.bind_some, v_q _ g2.1, tx_len g2, mw_b2, k2]
        rw [if_pos (nI_lt (by omega) (by omega)), if_pos (nI_lt (by omega) (by omega))]
        exact ⟨_, S2, M1, rfl, rfl, k3.rr h51, a3.tr k4⟩
      · rw [if_neg (show ¬ nI n < nI (k + 1) from Int32.not_lt.mpr (nI_le (by omega) (by omega)))]
        obtain ⟨v, S2, M2, b1, b2, b3, b4⟩ := ih (k + 1) (k + 1) m N m2 z2 z3 S1 M1 a1 h51 (Nat.le_refl _) (by omega) (by omega) (by omega) (by omega) (by omega) (by omega)
        exact ⟨v, S2, M2, b1, b2, b3, a3.tr b4⟩
    · have hk : k ≠ n := fun z => hend (Or.inl z)
      rw [if_neg (show ¬ nI k = nI n from fun z => hk ((nI_eq (by omega) (by omega)).mp z)), if_neg (show ¬ nI n ≤ nI k from nI_ge (by omega) (by omega))]
      simp only [tx_at h2, aim (M := M) (k := 0) (j := k) (show k < 40 by omega) (by decide), Option.bind_some, tc_in (show k < n by omega) (show n < 2 ^ 31 by omega), hkk]
      rw [if_pos (show ¬ M.2 0 k = 124 from fun z => hend (Or.inr z)), if_neg (show ¬ M.2 0 k = 124 from fun z => hend (Or.inr z))]
      exact ih fr (k + 1) m m1 (m2 + 1) y2 y3 S M rc h5 (by omega) (by omega) (by omega) (by omega) (by omega) (by omega) (by omega)
theorem op_profile {S : mw_M} {M : mm_M} (h : RR G b p kl sz kc S M) (hN : 700 ≤ N) : OPi G b p kl sz kc S (pf_X8_profile G N S b) (pf_X9_profile G N M) := by
  have h' := h.t (m4_f M 0)
  obtain ⟨n, hn, e5, rc⟩ := h'.rcx
  unfold pf_X8_profile pf_X9_profile
  simp only [mm_pf, Option.bind_some]
  have e5' : (va_up M.1 4 0) 5 = nI n := e5
  rw [e5']
  obtain ⟨m, rfl⟩ : ∃ m', N = m' + 1 := ⟨N - 1, by omega⟩
  obtain ⟨v, S', M', a1, a2, a3, a4⟩ := prf_l (G := G) (N := m + 1) hN 50 0 0 (m + 1) (m + 1) m 0 0 S _ rc rfl (Nat.le_refl _) (by omega) (by omega) (by omega) (by omega) (by omega) (by omega)
  refine ⟨v, S', M', a1, ?_, a3, a4⟩
  rw [pf_X9_profile_22, if_neg (show ¬ nI n < 0 from nI_pos (by omega))]
  exact a2
end PRF
