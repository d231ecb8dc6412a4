/-! dump -/
theorem i_max : ∀ x : Int32, ¬ (2147483647 : Int32) < x := fun x h => by
  have h1 := Int32.lt_iff_toInt_lt.mp h
  have h2 := Int32.toInt_lt x
  have h3 : (2147483647 : Int32).toInt = 2147483647 := by decide
  omega
section DM3
variable {G : Nat → ClassId} {N b p kl sz kc : Nat}
theorem dmp_l {S0 : mw_M} {M0 : mm_M} {c kp ns r W cap : Nat} {ev fst lst : Int32} {f g : Nat → Int32} {ad : Nat → Nat} {L ch : Nat → List Int32} {X Y Z : Nat → Int32} {U : Nat → Nat → Int32} (hkp : kp < kl + 1) (hkl : kl ≤ 5) (hc6 : c ≤ 594) (hW : W = b + 36 + 2 * p + 4 * kl + 8) (hcap : cap = kl * (c + 258)) (hr : r < 4) (h19 : M0.1 19 = nI kp) (hold : ∀ i, i < kp → L i = ch i ∧ X i = M0.2 12 i ∧ Y i = M0.2 13 i ∧ Z i = M0.2 14 i ∧ ∀ s, s < 24 → uok (M0.1 10) (U i s) (M0.2 15 i) s) (hD : mds M0 ch) (hb : ∀ i, i < kp → bts (ch i)) (h10 : M0.1 10 = nI ns) (hf : M0.2 3 = f) (hg : M0.2 4 = g) (hK : st_K ns f g) (hfst : M0.2 21 r = fst) (hst : (M0.2 18 r = 1 ∧ lst = 2147483647) ∨ (¬ M0.2 18 r = 1 ∧ lst = M0.2 22 r)) (hN : 700 ≤ N) : ∀ m i (S : mw_M) (M : mm_M) (out : List Int32), cs_R G S (b + 36 + 2 * p) kl c kp ev ad L X Y Z U → st_R G S (b + 3) ns f g → br_R G S W cap out → sm_p (br_X W) S0 S → fm [36, 38] [23, 24] M0 M → mo M out → bts out → out.length ≤ i * (c + 258) → i ≤ kp → kp - i < m → ∃ S' M' out', pf_X2_writeKept_3 G N m (b + 36 + 2 * p) W (b + 3) fst lst (nI i) S = some S' ∧ pf_X9_dump_70 G N m (nI r) (nI i) M = some (nI out'.length, M') ∧ br_R G S' W cap out' ∧ mo M' out' ∧ bts out' ∧ sm_p (br_X W) S0 S' ∧ fm [36, 38] [23, 24] M0 M' := by
  intro m
  induction m with
  | zero => intro i S M out _ _ _ _ _ _ _ _ _ h; exact absurd h (Nat.not_lt_zero _)
  | succ m ih =>
    intro i S M out cs st hw hs fm0 ho hbo hlen hi hm
    have wT : ∀ q, q < W → ¬ br_X W q := fun q a w => by rcases w with w | w <;> omega
    rw [pf_X2_writeKept_3, pf_X9_dump_70, fm0.1 19 (by decide), h19]
    simp only [gi_q (k := 1) cs.1 rfl, Option.bind_some]
    by_cases hik : i = kp
    · subst hik
      rw [if_pos (Int32.le_refl _), if_pos (Int32.le_refl _), ho.1]
      exact ⟨S, M, out, rfl, rfl, hw, ho, hbo, hs, fm0⟩
    have hlt : i < kp := by omega
    rw [if_neg (nI_ge hlt (by omega)), if_neg (nI_ge hlt (by omega))]
    obtain ⟨o1, o2, o3, o4, o5⟩ := hold i hlt
    have ck := cs.2.2.2.2 i (by omega)
    obtain ⟨jA, hjA, hA⟩ := cs.2.2.1 i (by omega)
    have cs' := cs
    obtain ⟨-, ⟨ga, a1, a2⟩, -⟩ := cs'
    have hXM : M.2 12 i = X i := by rw [fm0.2 12 (by decide), o2]
    simp only [gr_q (k := 0) cs.1 rfl, aq_q a1 (show i < kl + 1 by omega) (by omega) (a2 i (by omega)), Option.bind_some, v_q _ ck.1, ck_num ck, mw_b2, aim (M := M) (k := 12) (j := i) (show i < 7 by omega) (by decide), aim (M := M) (k := 21) (j := r) (show r < 4 from hr) (by decide), aim (M := M) (k := 18) (j := r) (show r < 4 from hr) (by decide), aim (M := M) (k := 22) (j := r) (show r < 4 from hr) (by decide), fm0.2 21 (by decide), fm0.2 18 (by decide), fm0.2 22 (by decide), hfst, hXM, nI_1]
    have hskip := ih (i + 1) S M out cs st hw hs fm0 ho hbo (Nat.le_trans hlen (Nat.mul_le_mul_right _ (Nat.le_succ i))) (by omega) (by omega)
    by_cases hx1 : X i < fst
    · rw [if_pos hx1, if_pos hx1]
      exact hskip
    rw [if_neg hx1, if_neg hx1]
    -- it is written
    have hwr : ∃ S' M' out', ((mw_v S (ad i) 1 (pf_X1_writeTo G N S (ad i) W (b + 3))).bind fun S10 => pf_X2_writeKept_3 G N m (b + 36 + 2 * p) W (b + 3) fst lst (nI (i + 1)) S10) = some S' ∧ pf_X9_dump_118 G N (pf_X9_dump_70 G N m) (nI r) (nI i) M = some (nI out'.length, M') ∧ br_R G S' W cap out' ∧ mo M' out' ∧ bts out' ∧ sm_p (br_X W) S0 S' ∧ fm [36, 38] [23, 24] M0 M' := by
      have hus : ∀ s, s < 24 → U i s = 0 ∨ s < ns := fun s hs => by
        rcases (o5 s hs).2 with w | ⟨n1, w1, w2, w3⟩
        · exact Or.inl w
        · have : n1 = ns := (nI_eq (by omega) (by have := hK.1; omega)).mp (w1.symm.trans h10)
          exact Or.inr (by omega)
      have hl : (L i).length ≤ c := ck.2.2.2.1
      have hmul : (i + 1) * (c + 258) ≤ cap := by rw [hcap]; exact Nat.mul_le_mul_right _ (by omega)
      have hcap2 : cap ≤ 4260 := by
        rw [hcap]
        exact Nat.le_trans (Nat.mul_le_mul hkl (show c + 258 ≤ 852 by omega)) (by decide)
      have hmul2 : (i + 1) * (c + 258) = i * (c + 258) + (c + 258) := Nat.succ_mul i (c + 258)
      rw [hmul2] at hmul
      have hblL : bts (L i) := by rw [o1]; exact hb i hlt
      obtain ⟨k1, k2⟩ := ckB_len (x := X i) (y := Y i) (z := Z i) hK hus hblL
      obtain ⟨S1, e1, b1, s1⟩ := ck_wr (N := N) (A := ad i) (T := b + 3) (by omega) (by omega) hK hus (by omega) hN S out ck st hw (by omega)
      have hDi : md M i (L i) := by
        obtain ⟨d1, d2, d3⟩ := hD i (by omega)
        rw [o1]
        exact ⟨by rw [fm0.2 11 (by decide)]; exact d1, d2, by rw [fm0.2 10 (by decide)]; exact d3⟩
      obtain ⟨M1, e2, m1, f1⟩ := md_wr (G := G) (N := N) (M := M) (out := out) (u := U i) (show i < 7 by omega) ((fm0.2 3 (by decide)).trans hf) ((fm0.2 4 (by decide)).trans hg) hK (fun s hs => ⟨by rw [fm0.2 15 (by decide)]; exact (o5 s hs).1, hus s hs⟩) hDi ho (by omega) hN
      rw [fm0.2 12 (by decide), fm0.2 13 (by decide), fm0.2 14 (by decide), ← o2, ← o3, ← o4] at m1
      have cs1 := cs.sm s1 (fun q z1 z2 => wT q (by omega))
      have st1 := st.sm s1 (wT _ (by omega)) (wT _ (by omega)) (wT _ (by omega))
      obtain ⟨S2, M2, out2, r1, r2, r3⟩ := ih (i + 1) S1 M1 _ cs1 st1 b1 (hs.tr s1) (fm0.tr f1) m1 (bts_app hbo k2) (by rw [List.length_append, hmul2]; omega) (by omega) (by omega)
      refine ⟨S2, M2, out2, ?_, ?_, r3⟩
      · simp only [v_q _ ck.1, e1, Option.bind_some]; exact r1
      · unfold pf_X9_dump_118
        simp only [e2, Option.bind_some, nI_1]; exact r2
    obtain ⟨S2, M2, out2, r1, r2, r3⟩ := hwr
    simp only [v_q _ ck.1] at r1
    rcases hst with ⟨c1, c2⟩ | ⟨c1, c2⟩
    · rw [if_pos c1, c2, if_neg (i_max _)]
      rw [c2] at r1
      exact ⟨S2, M2, out2, r1, r2, r3⟩
    · rw [if_neg c1, ← c2]
      by_cases hx2 : lst < X i
      · rw [if_pos hx2, if_pos hx2]; exact hskip
      · rw [if_neg hx2, if_neg hx2]
        exact ⟨S2, M2, out2, r1, r2, r3⟩
theorem dmp63 {S : mw_M} {M : mm_M} {r : Nat} (h : RR G b p kl sz kc S M) (hr : r < 4) (hst : M.2 18 r = 1 ∨ M.2 18 r = 2) (hN : 700 ≤ N) : ∃ v S' M', pf_X8_dump_63 G N b (b + 22 + 3 * r) S = some (0, v, S') ∧ pf_X9_dump_70 G N N (nI r) 0 (va_up M.1 36 0, M.2) = some (v, M') ∧ RR G b p kl sz kc S' M' ∧ M'.1 4 = M.1 4 ∧ sm_p (cl_X b p kl) S S' := by
  obtain ⟨bf, ch, h1, h2, h3, h4, h5, h6, h7, h8, h9, h10, h11, h12, h13⟩ := h
  have h3' := h3
  have h8' := h8
  have h6' := h6
  have h11' := h11
  obtain ⟨wr, w1, w2, w3, w4⟩ := h10
  obtain ⟨ns, e10, hst', hK⟩ := h3
  obtain ⟨kp, ad, L, X, Y, Z, U, cs, e19, hkp, hold, -⟩ := h8
  obtain ⟨hB, hD, m012, hbl, ⟨u1, u2, u3, u4, u5, u6⟩, hbb, hcb, hlo⟩ := h11
  obtain ⟨la, f, g, r1, r2, r3, r4, r5⟩ := h6.2.2 r hr
  generalize hW : b + 36 + 2 * p + 4 * kl + 8 = W at w1
  have wT : ∀ q, q < W → ¬ br_X W q := fun q a w => by rcases w with w | w <;> omega
  obtain ⟨S1, e1, b1, s1⟩ := br_clear (N := N) w1
  have g1 := h1.k s1 (wT _ (by omega))
  have rec1 := r1.sm s1 (wT _ (by omega)) (wT _ (by omega)) (wT _ (by omega))
  have cs1 := cs.sm s1 (fun q z1 z2 => wT q (by omega))
  have st1 := hst'.sm s1 (wT _ (by omega)) (wT _ (by omega)) (wT _ (by omega))
  have f0 : fm [36, 38] [23, 24] M (va_up M.1 36 0, M.2) := (fm.rf _ _ M).pf (j := 36) (by decide) 0
  obtain ⟨S2, M2, out, q1, q2, q3, q4, q5, q6, q7⟩ := dmp_l (G := G) (N := N) (M0 := M) (S0 := S) hkp u3 (cbs_le u1 u5) hW.symm rfl hr e19 hold hD (hcb.1 kp e19 (by omega)) e10 rfl rfl hK rfl (lst := la) (by
    rcases hst with c | c
    · exact Or.inl ⟨c, r3 (Or.inr c)⟩
    · exact Or.inr ⟨by rw [c]; decide, r4 c⟩) hN N 0 S1 (va_up M.1 36 0, M.2) [] cs1 st1 b1 s1 f0 ⟨rfl, sg_nil _ _⟩ bts_nil (Nat.zero_le _) (Nat.zero_le _) (by omega)
  have hs : sm_p (fun q => b + 36 + 2 * p + 4 * kl + 8 ≤ q ∧ q < b + 36 + 2 * p + 4 * kl + 10) S S2 := q6.wd (fun q hq => by rcases hq with z | z <;> constructor <;> omega)
  have g2 := h1.k q6 (wT _ (by omega))
  have h3 := h3'
  have h8 := h8'
  have h6 := h6'
  have h11 := h11'
  refine ⟨nI out.length, S2, M2, ?_, q2, ⟨bf, ch, (by rw [q7.1 7 (by decide), q7.1 29 (by decide), q7.1 3 (by decide)]; exact h1.k hs (by intro w; obtain ⟨w1, w2⟩ := w; omega)), h2.k hs (fun q z1 z2 w => by obtain ⟨w1, w2⟩ := w; omega) q7 (by decide) (by decide), h3.k hs (fun q z1 z2 w => by obtain ⟨w1, w2⟩ := w; omega) q7 (by decide) (by decide) (by decide), h4.k hs (fun q z1 z2 w => by obtain ⟨w1, w2⟩ := w; omega) q7 (by decide) (by decide) (by decide) (by decide), h5.k hs (fun q z1 z2 w => by obtain ⟨w1, w2⟩ := w; omega) q7 (by decide) (by decide) (by decide), h6.k hs (fun q z1 z2 w => by obtain ⟨w1, w2⟩ := w; omega) q7 (by decide) (by decide) (by decide) (by decide) (by decide) (by decide), h7.k hs (fun q z1 z2 w => by obtain ⟨w1, w2⟩ := w; omega) q7 (by decide) (by decide), h8.k hs (fun q z1 z2 w => by obtain ⟨w1, w2⟩ := w; omega) q7 (by decide) (by decide) (by decide) (by decide) (by decide) (by decide) (by decide) (by decide), h9.k hs (fun q z1 z2 w => by obtain ⟨w1, w2⟩ := w; omega), ?g_wri, h11.k q7 (by decide) (by decide) (by decide) (by decide) (by decide) (by decide) (by decide) (by decide) (by decide), h12.k q7 (by decide), h13⟩, q7.1 4 (by decide), hs.wd (fun q hq => by constructor <;> omega)⟩
  · unfold pf_X8_dump_63
    have q1' : pf_X2_writeKept G N S1 (b + 36 + 2 * p) W (b + 3) (M.2 21 r) la = some S2 := q1
    simp only [gr_q (k := 12) h1 rfl, hW, Option.bind_some, v_q _ w1.1, e1, gr_q (k := 10) g1 rfl, gr_q (k := 12) g1 rfl, gr_q (k := 2) g1 rfl, v_q _ rec1.1, rec_first rec1, rec_last rec1, mw_b2, v_q _ cs1.1, q1', gr_q (k := 12) g2 rfl, v_q _ q3.1, br_length q3]
  case g_wri => exact ⟨out, by rw [hW]; exact q3, q4.1, q4.2, q5⟩
theorem op_dump {S : mw_M} {M : mm_M} (h : RR G b p kl sz kc S M) (x : Int32) (hN : 700 ≤ N) : OPt G b p kl sz kc S (pf_X8_dump G N S b x) (pf_X9_dump G N M x) := by
  have h0 := h
  obtain ⟨bf, ch, h1, h2, h3, h4, h5, h6, h7, h8, h9, h10, h11, h12, h13⟩ := h
  obtain ⟨h6a, ⟨nr, hnr4, e29⟩, h6c⟩ := h6
  have h1r := h1
  rw [e29] at h1r
  have hthr : ∀ w : Int32, ¬ w ≤ 0 → pf_X9_dump_37 G N x w M = some (0, (va_up M.1 4 w, M.2)) := fun w hw => by
    unfold pf_X9_dump_37
    simp only [mm_pf, Option.bind_some]
    rw [if_neg (show ¬ (va_up M.1 4 w) 4 ≤ 0 from hw)]
  unfold pf_X8_dump pf_X9_dump
  simp only [v_q _ h1]
  rcases ix x (n := nr) (by omega) with hx | ⟨r, hr, rfl⟩
  · have io := isRec_out (G := G) (N := N) (M := M) h1r hx e29
    rw [io.1, io.2]
    dsimp only [mw_b2]
    rw [if_neg (show ¬ ¬ (0 : Int32) = 0 by decide), if_neg (show ¬ ¬ (0 : Int32) = 0 by decide), hthr 1 (by decide)]
    exact ⟨1, 0, 0, S, _, rfl, rfl, by omega, rfl, fun z => absurd z (by decide), h0.t (m4_f M 1), sm_p.rf _ S⟩
  have hr4 : r < 4 := by omega
  have ii := isRec_in (G := G) (N := N) (M := M) h1r hr hnr4 e29
  obtain ⟨la, f, g, r1, r2, r3, r4, r5⟩ := h6c r hr4
  obtain ⟨ga, a1, a2⟩ := h6a
  rw [ii.1, ii.2]
  dsimp only [mw_b2]
  rw [if_pos (show ¬ (1 : Int32) = 0 by decide), if_pos (show ¬ (1 : Int32) = 0 by decide)]
  simp only [gr_q (k := 7) h1 rfl, aq_q a1 hr4 (by decide) (a2 r hr4), Option.bind_some, v_q _ r1.1, rec_is r1, mw_b2, aim (M := M) (k := 18) (j := r) (show r < 4 from hr4) (by decide)]
  have h2thr : OPt G b p kl sz kc S (some (2, 0, S)) (some (0, (va_up M.1 4 2, M.2))) := ⟨2, 0, 0, S, _, rfl, rfl, by omega, rfl, fun z => absurd z (by decide), h0.t (m4_f M 2), sm_p.rf _ S⟩
  rcases r5 with w | w | w | w
  · rw [w, if_pos rfl, if_pos (show ¬ (1 : Int32) = 0 by decide), if_pos rfl, pf_X9_dump_32, hthr 2 (by decide), pf_X8_dump_41]
    exact h2thr
  · -- it runs
    rw [w, if_neg (show ¬ (1 : Int32) = 0 by decide), if_neg (show ¬ ¬ (0 : Int32) = 0 by decide), if_neg (show ¬ (1 : Int32) = 3 by decide), if_pos rfl, if_pos rfl, if_neg (show ¬ (1 : Int32) = 0 by decide), if_neg (show ¬ (1 : Int32) = 0 by decide), if_pos (show ¬ (1 : Int32) = 3 by decide)]
    have R0 := h0.t (m4_f M 0)
    obtain ⟨S1, M1, e1, e2, R1, hn, s1, f1⟩ := RR_rot (N := N) R0 hN
    obtain ⟨v, S2, M2, q1, q2, q3, q4, q5⟩ := dmp63 (N := N) R1 hr4 (Or.inl (by rw [f1.2 18 (by decide)]; exact w)) hN
    refine ⟨0, v, v, S2, M2, ?_, ?_, by omega, ?_, fun _ => rfl, q3, (rot_cl s1).tr q5⟩
    · simp only [v_q _ h1, e1, Option.bind_some]; exact q1
    · unfold pf_X9_dump_37
      simp only [mm_pf, Option.bind_some]
      rw [if_pos (show (va_up M.1 4 0) 4 ≤ 0 from (show (0 : Int32) ≤ 0 by decide))]
      simp only [aim (k := 18) (j := r) (show r < 4 from hr4) (by decide), Option.bind_some]
      rw [if_neg (fun z => z w), e2]
      simp only [Option.bind_some]
      exact q2
    · rw [q4, f1.1 4 (by decide)]; rfl
  · rw [w, if_neg (show ¬ (2 : Int32) = 0 by decide), if_neg (show ¬ ¬ (0 : Int32) = 0 by decide), if_neg (show ¬ (2 : Int32) = 3 by decide), if_pos rfl, if_neg (show ¬ (2 : Int32) = 1 by decide), if_pos rfl, if_neg (show ¬ (2 : Int32) = 0 by decide), if_pos (show ¬ (2 : Int32) = 3 by decide)]
    have R0 := h0.t (m4_f M 0)
    obtain ⟨v, S2, M2, q1, q2, q3, q4, q5⟩ := dmp63 (N := N) R0 hr4 (Or.inr w) hN
    refine ⟨0, v, v, S2, M2, q1, ?_, by omega, ?_, fun _ => rfl, q3, q5⟩
    · unfold pf_X9_dump_37
      simp only [mm_pf, Option.bind_some]
      rw [if_pos (show (va_up M.1 4 0) 4 ≤ 0 from (show (0 : Int32) ≤ 0 by decide))]
      simp only [aim (k := 18) (j := r) (show r < 4 from hr4) (by decide), Option.bind_some]
      rw [if_pos (show ¬ M.2 18 r = 1 by rw [w]; decide)]
      exact q2
    · rw [q4]; rfl
  · rw [w, if_neg (show ¬ (3 : Int32) = 0 by decide), if_neg (show ¬ ¬ (0 : Int32) = 0 by decide), if_pos rfl, if_neg (show ¬ (1 : Int32) = 0 by decide), if_neg (show ¬ (3 : Int32) = 0 by decide), if_neg (show ¬ ¬ (3 : Int32) = 3 by decide), pf_X9_dump_32, hthr 2 (by decide), pf_X8_dump_41]
    exact h2thr
end DM3
