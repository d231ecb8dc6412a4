/-! settings and profile -/
section STG
variable {G : Nat → ClassId} {N b p kl sz kc n : Nat} {S : mw_M} {M : mm_M}
theorem RC.t4 (h : RC G b p kl sz kc n S M) (v : Int32) : RC G b p kl sz kc n S (va_up M.1 4 v, M.2) := by
  obtain ⟨bf, ch, h1, h2, h3, h4, h5, h6, h7, h8, h9, h10, h11, h12, h13⟩ := h
  have hs := sm_p.rf (fun _ => False) S
  have hf : fm [4] [] M (va_up M.1 4 v, M.2) := (fm.rf [4] [] M).pf (j := 4) (by decide) v
  refine ⟨bf, ch, (by rw [hf.1 7 (by decide), hf.1 29 (by decide), hf.1 3 (by decide)]; exact h1.k hs (by intro w; exact w)), ?g_txt, h3.k hs (fun q z1 z2 w => by exact w) hf (by decide) (by decide) (by decide), h4.k hs (fun q z1 z2 w => by exact w) hf (by decide) (by decide) (by decide) (by decide), h5.k hs (fun q z1 z2 w => by exact w) hf (by decide) (by decide) (by decide), h6.k hs (fun q z1 z2 w => by exact w) hf (by decide) (by decide) (by decide) (by decide) (by decide) (by decide), h7.k hs (fun q z1 z2 w => by exact w) hf (by decide) (by decide), h8.k hs (fun q z1 z2 w => by exact w) hf (by decide) (by decide) (by decide) (by decide) (by decide) (by decide) (by decide) (by decide), h9.k hs (fun q z1 z2 w => by exact w), h10.k hs (fun q z1 z2 w => by exact w) hf (by decide) (by decide), h11.k hf (by decide) (by decide) (by decide) (by decide) (by decide) (by decide) (by decide) (by decide) (by decide), h12.k hf (by decide), h13⟩
  case g_txt => exact h2
theorem RR.rcx (h : RR G b p kl sz kc S M) : ∃ n, n ≤ 40 ∧ M.1 5 = nI n ∧ RC G b p kl sz kc n S (va_up M.1 5 0, M.2) := by
  obtain ⟨bf, ch, h1, ⟨n, e5, ht⟩, h3, h4, h5, h6, h7, h8, h9, h10, h11, h12, h13⟩ := h
  have hs := sm_p.rf (fun _ => False) S
  have hf : fm [5] [] M (va_up M.1 5 0, M.2) := (fm.rf [5] [] M).pf (j := 5) (by decide) 0
  refine ⟨n, ht.2.2.1, e5, bf, ch, (by rw [hf.1 7 (by decide), hf.1 29 (by decide), hf.1 3 (by decide)]; exact h1.k hs (by intro w; exact w)), ?g_txt, h3.k hs (fun q z1 z2 w => by exact w) hf (by decide) (by decide) (by decide), h4.k hs (fun q z1 z2 w => by exact w) hf (by decide) (by decide) (by decide) (by decide), h5.k hs (fun q z1 z2 w => by exact w) hf (by decide) (by decide) (by decide), h6.k hs (fun q z1 z2 w => by exact w) hf (by decide) (by decide) (by decide) (by decide) (by decide) (by decide), h7.k hs (fun q z1 z2 w => by exact w) hf (by decide) (by decide), h8.k hs (fun q z1 z2 w => by exact w) hf (by decide) (by decide) (by decide) (by decide) (by decide) (by decide) (by decide) (by decide), h9.k hs (fun q z1 z2 w => by exact w), h10.k hs (fun q z1 z2 w => by exact w) hf (by decide) (by decide), h11.k hf (by decide) (by decide) (by decide) (by decide) (by decide) (by decide) (by decide) (by decide) (by decide), h12.k hf (by decide), h13⟩
  case g_txt => exact ht
theorem op_settings (h : RR G b p kl sz kc S M) (x : Int32) (hN : 700 ≤ N) : OPt G b p kl sz kc S (pf_X8_settings G N S b x) (pf_X9_settings G N M x) := by
  obtain ⟨n, hn, e5, rc⟩ := h.rcx
  unfold pf_X8_settings pf_X9_settings
  simp only [mm_pf, Option.bind_some, e5]
  have e50 : ((va_up M.1 5 0, M.2) : mm_M).1 5 = nI 0 := rfl
  generalize ((va_up M.1 5 0, M.2) : mm_M) = M1 at *
  have rc0 := rc
  obtain ⟨bf, ch, h1, h2, h3, h4, h5, h6, h7, h8, h9, h10, h11, h12, h13⟩ := rc
  obtain ⟨t1, t2, nt, hnt6, e7, t3⟩ := h5
  obtain ⟨h6a, ⟨nr, hnr4, e29⟩, h6c⟩ := h6
  have h1' := h1
  rw [e7] at h1'
  have h1r := h1
  rw [e29] at h1r
  simp only [gr_q (k := 1) h1 rfl, Option.bind_some, v_q _ h2.1, tx_len h2, mw_b2, v_q _ h1]
  -- the ends
  have hend : ∀ (w : Nat) (r y2 y3 y4 : Int32) (S2 : mw_M) (M2 : mm_M), RC G b p kl sz kc n S2 M2 → M2.1 5 = nI 0 → sm_p (cl_X b p kl) S S2 → M2.1 4 = nI w → w ≤ 2 → ((w = 1 ∧ y3 = 0) ∨ (w = 2 ∧ ¬ y3 = 0 ∧ ¬ y4 = 0) ∨ (w = 0 ∧ ¬ y3 = 0 ∧ y4 = 0 ∧ r = y2)) → ∀ A B, A = pf_X8_settings_77 G N b y2 y3 y4 S2 → B = some (r, M2) → OPt G b p kl sz kc S A B := by
    intro w r y2 y3 y4 S2 M2 q1 q2 q3 q4 q5 q6 A B hA hB
    obtain ⟨S3, ⟨fs, k1⟩, k2, k3, k4⟩ := q1.clear (N := N)
    have hm : g_main S2 b p kl sz (M2.1 7) (M2.1 29) (M2.1 3) := by obtain ⟨bf, ch, z, -⟩ := q1; exact z
    rw [hA, hB, pf_X8_settings_77]
    simp only [gr_q (k := 1) hm rfl, Option.bind_some, v_q _ k1, k2]
    rcases q6 with ⟨rfl, w2⟩ | ⟨rfl, w2, w3⟩ | ⟨rfl, w2, w3, w4⟩
    · rw [if_neg (fun z => z w2)]
      exact ⟨1, 0, r, S3, M2, rfl, rfl, by omega, q4, fun z => absurd z (by decide), k3.rr q2, q3.tr k4⟩
    · rw [if_pos w2, if_neg w3]
      exact ⟨2, 0, r, S3, M2, rfl, rfl, by omega, q4, fun z => absurd z (by decide), k3.rr q2, q3.tr k4⟩
    · rw [if_pos w2, if_pos w3]
      exact ⟨0, y2, r, S3, M2, rfl, rfl, by omega, q4, fun _ => w4.symm, k3.rr q2, q3.tr k4⟩
  have hbad : ∀ (y2 y3 : Int32), OPt G b p kl sz kc S (pf_X8_settings_30 G N b x y2 S) (pf_X9_settings_30 G N x (nI n) y3 M1) := by
    intro y2 y3
    refine hend 1 0 y2 0 0 S (va_up M1.1 4 1, M1.2) (rc0.t4 1) e50 (sm_p.rf _ S) rfl (by omega) (Or.inl ⟨rfl, rfl⟩) _ _ ?_ ?_
    · rw [pf_X8_settings_30, pf_X8_settings_31, if_pos rfl, pf_X8_settings_53, pf_X8_settings_54, if_pos rfl]
    · rw [pf_X9_settings_30, pf_X9_settings_49]
      simp only [mm_pf, Option.bind_some]
      rw [if_neg (show ¬ (va_up M1.1 4 1) 4 ≤ 0 from (show ¬ (1 : Int32) ≤ 0 by decide))]
  have hcnt := cnt (G := G) (N := N) (M := M1) (e := n) h1' e7 hnt6 rfl h2 (Nat.le_refl _) (Or.inl rfl) hN N 0 0 (Nat.zero_le _) (by omega) (Nat.zero_le _)
  have c1 : pf_X8_countItems G N S b 0 (nI n) = pf_X8_countItems_5 G N N b (nI n) (nI 0) (nI (0 + 1)) S := rfl
  have c2 : pf_X9_items G N M1 0 (nI n) = pf_X9_items_5 G N N (nI n) (nI 0) (nI 0) M1 := rfl
  rw [c1, c2]
  rcases ix x (n := nr) (by omega) with hx | ⟨r, hr, rfl⟩
  · have io := isRec_out (G := G) (N := N) (M := M1) h1r hx e29
    rcases hcnt with ⟨w1, w2⟩ | ⟨c, w1, w2, w3, w4⟩
    · rw [w1, w2]
      dsimp only
      simp only [v_q _ h1]
      rw [io.1, io.2]
      dsimp only
      rw [if_pos rfl, if_pos rfl]
      exact hbad _ _
    · rw [w3, w4]
      dsimp only
      simp only [v_q _ h1]
      rw [io.1, io.2]
      dsimp only
      rw [if_pos rfl, if_pos rfl]
      exact hbad _ _
  have ii := isRec_in (G := G) (N := N) (M := M1) h1r hr hnr4 e29
  have hr4 : r < 4 := by omega
  rcases hcnt with ⟨w1, w2⟩ | ⟨c, w1, w2, w3, w4⟩
  · rw [w1, w2]
    dsimp only
    simp only [v_q _ h1]
    rw [ii.1, ii.2]
    dsimp only
    rw [if_neg (show ¬ (1 : Int32) = 0 by decide), if_neg (show ¬ (1 : Int32) = 0 by decide), if_pos trivial, if_neg (show ¬ (0 : Int32) ≤ -1 by decide)]
    exact hbad _ _
  rw [Nat.zero_add] at w2 w4
  rw [show 0 + c = c from Nat.zero_add c] at w3
  rw [w3, w4]
  dsimp only
  simp only [v_q _ h1]
  rw [ii.1, ii.2]
  dsimp only
  rw [if_neg (show ¬ (1 : Int32) = 0 by decide), if_neg (show ¬ (1 : Int32) = 0 by decide), if_neg (show ¬ nI c = -1 from nI_m1 (by omega)), if_pos (show (0 : Int32) ≤ nI c from nI_le (a := 0) (Nat.zero_le _) (by omega))]
  obtain ⟨la, f, g, r1, r2, r3, r4, r5⟩ := h6c r hr4
  obtain ⟨ga, a1, a2⟩ := h6a
  simp only [aim (M := M1) (k := 18) (j := r) (show r < 4 from hr4) (by decide), Option.bind_some, pf_X8_settings_31]
  rw [if_neg (show ¬ (1 : Int32) = 0 by decide)]
  simp only [gr_q (k := 7) h1 rfl, aq_q a1 hr4 (by decide) (a2 r hr4), Option.bind_some, v_q _ r1.1, rec_is r1, mw_b2]
  by_cases h3c : M1.2 18 r = 3
  · rw [if_pos h3c, if_neg (show ¬ (1 : Int32) = 0 by decide), if_neg (fun z => z h3c)]
    refine hend 2 0 (nI c) 1 1 S (va_up M1.1 4 2, M1.2) (rc0.t4 2) e50 (sm_p.rf _ S) rfl (by omega) (Or.inr (Or.inl ⟨rfl, by decide, by decide⟩)) _ _ ?_ ?_
    · rw [pf_X8_settings_54, if_neg (show ¬ (1 : Int32) = 0 by decide), if_pos (show ¬ (1 : Int32) = 0 by decide)]
    · rw [pf_X9_settings_49]
      simp only [mm_pf, Option.bind_some]
      rw [if_neg (show ¬ (va_up M1.1 4 2) 4 ≤ 0 from (show ¬ (2 : Int32) ≤ 0 by decide))]
  · rw [if_neg h3c, if_pos rfl, if_pos h3c]
    obtain ⟨S2, M2, b1, b2, b3, b4, b5⟩ := ap_l (G := G) (N := N) (e := n) hr4 hnt6 (Nat.le_refl _) hN c N 0 0 S (va_up M1.1 4 0, M1.2) (rc0.t4 0) e7 (Or.inl rfl) w1 (by omega) (by omega)
    rw [Nat.zero_add] at b1
    refine hend 0 (nI c) (nI c) 1 0 S2 M2 b3 ((b4.1 5 (by simp)).trans e50) b5 ((b4.1 4 (by simp)).trans rfl) (by omega) (Or.inr (Or.inr ⟨rfl, by decide, rfl, rfl⟩)) _ _ ?_ ?_
    · rw [pf_X8_settings_53, pf_X8_settings_54, if_neg (show ¬ (1 : Int32) = 0 by decide), if_neg (fun z => z rfl)]
      have b1' : pf_X8_applyItems G N S b (b + 22 + 3 * r) 0 (nI c) = some S2 := b1
      simp only [gr_q (k := 7) h1 rfl, aq_q a1 hr4 (by decide) (a2 r hr4), Option.bind_some, v_q _ h1, b1']
    · rw [pf_X9_settings_49]
      have b2' : pf_X9_set G N (va_up M1.1 4 0, M1.2) (nI r) 0 (nI n) = some M2 := b2
      simp only [mm_pf, Option.bind_some, b2']
      rw [if_pos (show (va_up M1.1 4 0) 4 ≤ 0 from (show (0 : Int32) ≤ 0 by decide))]
end STG
