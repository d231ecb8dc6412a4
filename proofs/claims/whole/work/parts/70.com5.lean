/-! commit -/
section COM
variable {G : Nat → ClassId} {N b p kl sz kc n : Nat} {S : mw_M} {M : mm_M}
theorem RC.rr (h : RC G b p kl sz kc n S M) (h5 : M.1 5 = nI n) : RR G b p kl sz kc S M := by
  obtain ⟨bf, ch, q1, q2, q3, q4, q5, q6, q7, q8, q9, q10, q11, q12, q13⟩ := h
  exact ⟨bf, ch, q1, ⟨n, h5, q2⟩, q3, q4, q5, q6, q7, q8, q9, q10, q11, q12, q13⟩
theorem RC.clear (h : RC G b p kl sz kc n S M) : ∃ S', (∃ fs, S.1 (b + 1) = some (.inr (7, fs))) ∧ pf_X7_clear G N S (b + 1) = some S' ∧ RC G b p kl sz kc 0 S' M ∧ sm_p (cl_X b p kl) S S' := by
  obtain ⟨bf, ch, h1, h2, h3, h4, h5, h6, h7, h8, h9, h10, h11, h12, h13⟩ := h
  obtain ⟨S', e, q1, q2⟩ := tx_clear (N := N) h2
  have hf := fm.rf [] [] M
  have hs : sm_p (fun q => b + 1 ≤ q ∧ q < b + 3) S S' := q2.wd (fun q hq => by rcases hq with z | z <;> constructor <;> omega)
  refine ⟨S', ⟨_, h2.1⟩, e, ⟨bf, ch, (by rw [hf.1 7 (by decide), hf.1 29 (by decide), hf.1 3 (by decide)]; exact h1.k hs (by intro w; obtain ⟨w1, w2⟩ := w; omega)), ?g_txt, h3.k hs (fun q z1 z2 w => by obtain ⟨w1, w2⟩ := w; omega) hf (by decide) (by decide) (by decide), h4.k hs (fun q z1 z2 w => by obtain ⟨w1, w2⟩ := w; omega) hf (by decide) (by decide) (by decide) (by decide), h5.k hs (fun q z1 z2 w => by obtain ⟨w1, w2⟩ := w; omega) hf (by decide) (by decide) (by decide), h6.k hs (fun q z1 z2 w => by obtain ⟨w1, w2⟩ := w; omega) hf (by decide) (by decide) (by decide) (by decide) (by decide) (by decide), h7.k hs (fun q z1 z2 w => by obtain ⟨w1, w2⟩ := w; omega) hf (by decide) (by decide), h8.k hs (fun q z1 z2 w => by obtain ⟨w1, w2⟩ := w; omega) hf (by decide) (by decide) (by decide) (by decide) (by decide) (by decide) (by decide) (by decide), h9.k hs (fun q z1 z2 w => by obtain ⟨w1, w2⟩ := w; omega), h10.k hs (fun q z1 z2 w => by obtain ⟨w1, w2⟩ := w; omega) hf (by decide) (by decide), h11.k hf (by decide) (by decide) (by decide) (by decide) (by decide) (by decide) (by decide) (by decide) (by decide), h12.k hf (by decide), h13⟩, hs.wd (fun q hq => by constructor <;> omega)⟩
  case g_txt => exact q1
theorem isTy_in {ty nt : Nat} {x29 x3 : Int32} (hm : g_main S b p kl sz (nI nt) x29 x3) (hr : ty < nt) (hn : nt ≤ 6) : pf_X8_isType G N S b (nI ty) = some (1, S) := by
  unfold pf_X8_isType
  rw [if_neg (show ¬ nI ty < 0 from nI_pos (by omega))]
  simp only [gi_q (k := 6) hm rfl, Option.bind_some]
  rw [if_neg (nI_ge hr (by omega)), if_pos z1]
theorem isTy_out {nt : Nat} {x x29 x3 : Int32} (hm : g_main S b p kl sz (nI nt) x29 x3) (h : x < 0 ∨ nI nt ≤ x) : pf_X8_isType G N S b x = some (0, S) := by
  unfold pf_X8_isType
  by_cases hx : x < 0
  · rw [if_pos hx, if_pos z0]
  · rw [if_neg hx]
    simp only [gi_q (k := 6) hm rfl, Option.bind_some]
    rw [if_pos (h.resolve_left hx), if_pos z0]
theorem ev_68 {t ty : Nat} {M2 : mm_M} {w1 : Int32} (hM2 : ((va_up M.1 5 w1, M.2) : mm_M) = M2) (h : RC G b p kl sz kc n S M2) (ht : t < 3) (hty : ∀ nt, M2.1 7 = nI nt → nt ≤ 6 → ty < nt) (hkc : kc + 1 < 100000) (hN : 700 ≤ N) (x y z y7 : Int32) (hy7 : y7 = M2.2 2 ty) : ∃ v S' M', pf_X8_endEvent G N S b (b + 7 + 4 * t) (nI ty) x y z = some (v, S') ∧ pf_X9_commit_68 G N (nI t) (nI ty) x y z (nI (min n 8)) y7 w1 M = some (v, M') ∧ RC G b p kl sz (kc + 1) n S' M' ∧ fm [10, 18, 38] [3, 4, 5, 7, 8, 9, 15, 16, 17, 24] M2 M' ∧ sm_p (cl_X b p kl) S S' := by
  have h0 := h
  obtain ⟨bf, ch, h1, h2, h3, h4, h5, h6, h7, h8, h9, h10, h11, h12, h13⟩ := h
  obtain ⟨k, hk3, e5⟩ := h12 t ht
  obtain ⟨f, q1, q2⟩ := h4.2 t ht
  have q1' := q1
  rw [e5] at q1
  unfold pf_X8_endEvent pf_X9_commit_68
  simp only [mm_pf, Option.bind_some, hM2, v_q _ q1.1, th_has q1 (show k < 2 ^ 31 by omega), mw_b2, aim (M := M2) (k := 5) (j := t) (show t < 3 from ht) (by decide), e5]
  cases k with
  | zero =>
    rw [if_pos rfl, if_neg (show ¬ ¬ (0 : Int32) = 0 by decide), if_neg (show ¬ ¬ nI 0 = 0 by decide)]
    exact ⟨1, S, M2, rfl, rfl, h0.mono (by omega) hkc, fm.rf _ _ _, sm_p.rf _ _⟩
  | succ k =>
    rw [if_neg (show ¬ k + 1 = 0 by omega), if_pos (show ¬ (1 : Int32) = 0 by decide), if_pos (show ¬ nI (k + 1) = 0 from nI_ne0 (by omega) (by omega))]
    obtain ⟨S1, w1', w2, w3⟩ := th_end (N := N) q1 (show k < 3 by omega)
    have hs : sm_p (fun q => b + 7 + 4 * t ≤ q ∧ q < b + 11 + 4 * t) S S1 := w3.wd (fun q hq => by rcases hq with z | z <;> constructor <;> omega)
    simp only [w1', sim (M := M2) (k := 5) (j := t) _ (show t < 3 from ht) (by decide), Option.bind_some, nI_pred]
    generalize hM3 : ((M2.1, va_up M2.2 5 (upd (M2.2 5) t (nI k))) : mm_M) = M3
    have hf : fm [] [5] M2 M3 := by rw [← hM3]; exact (fm.rf [] [5] M2).si (k := 5) (by decide) _
    have x5 : M3.2 5 = upd (M2.2 5) t (nI k) := by rw [← hM3]; rfl
    have rc : RC G b p kl sz kc n S1 M3 := by
      refine ⟨bf, ch, (by rw [hf.1 7 (by decide), hf.1 29 (by decide), hf.1 3 (by decide)]; exact h1.k hs (by intro w; obtain ⟨w1, w2⟩ := w; omega)), ?g_txt, h3.k hs (fun q z1 z2 w => by obtain ⟨w1, w2⟩ := w; omega) hf (by decide) (by decide) (by decide), ?g_ths, h5.k hs (fun q z1 z2 w => by obtain ⟨w1, w2⟩ := w; omega) hf (by decide) (by decide) (by decide), h6.k hs (fun q z1 z2 w => by obtain ⟨w1, w2⟩ := w; omega) hf (by decide) (by decide) (by decide) (by decide) (by decide) (by decide), h7.k hs (fun q z1 z2 w => by obtain ⟨w1, w2⟩ := w; omega) hf (by decide) (by decide), h8.k hs (fun q z1 z2 w => by obtain ⟨w1, w2⟩ := w; omega) hf (by decide) (by decide) (by decide) (by decide) (by decide) (by decide) (by decide) (by decide), h9.k hs (fun q z1 z2 w => by obtain ⟨w1, w2⟩ := w; omega), h10.k hs (fun q z1 z2 w => by obtain ⟨w1, w2⟩ := w; omega) hf (by decide) (by decide), h11.k hf (by decide) (by decide) (by decide) (by decide) (by decide) (by decide) (by decide) (by decide) (by decide), ?g_beg, h13⟩
      case g_txt => rw [hf.2 0 (by decide)]; exact h2.sm hs (by intro w; omega) (by intro w; omega)
      case g_ths =>
        refine g_ths.set (bf := bf) (t := t) (f := f) h4 hs (fun q z1 z2 z3 w => z3 w) ht ?_ (fun i hi => ?_) (fun u hu hut => ⟨?_, ?_, ?_, rfl, fun i hi => ?_⟩)
        · rw [x5, pk_us, hf.2 16 (by decide), hf.2 17 (by decide)]; exact w2
        · rw [hf.2 6 (by decide)]; exact q2 i hi
        · rw [x5, pk_un hut]
        · rw [hf.2 16 (by decide)]
        · rw [hf.2 17 (by decide)]
        · rw [hf.2 6 (by decide)]
      case g_beg =>
        intro u hu
        rw [x5]
        by_cases hut : u = t
        · subst hut; exact ⟨k, by omega, pk_us⟩
        · rw [pk_un hut]; exact h12 u hu
    have hcl : sm_p (cl_X b p kl) S S1 := hs.wd (fun q hq => by constructor <;> omega)
    have hf' : fm [10, 18, 38] [3, 4, 5, 7, 8, 9, 15, 16, 17, 24] M2 M3 := hf.wd (by simp) (by decide)
    have h2n : M3.2 5 t = nI k := by rw [x5, pk_us]
    have h6n : M3.2 6 (3 * t + k) = f k := by rw [hf.2 6 (by decide)]; exact (q2 k (by omega)).symm
    have rc' := rc
    obtain ⟨bf1, ch1, g1, g2, g3, g4, g5, g6, g7, g8, g9, g10, g11, g12, g13⟩ := rc'
    obtain ⟨g6a, ⟨nr, hnr4, e29⟩, g6c⟩ := g6
    obtain ⟨t1, t2, nt, hnt6, e7, t3⟩ := g5
    have e7' : M2.1 7 = nI nt := (hf.1 7 (by simp)).symm.trans e7
    have htn := hty nt e7' hnt6
    obtain ⟨ns, e10, gst, gK⟩ := g3
    simp only [gi_q (k := 13) g1 rfl, Option.bind_some, v_q _ g1, aim (M := M3) (k := 5) (j := t) (show t < 3 from ht) (by decide), h2n, i3k, aim (M := M3) (k := 6) (j := 3 * t + k) (show 3 * t + k < 9 by omega) (by decide), h6n]
    obtain ⟨v, i1, i2, i3⟩ := int_l (G := G) (N := N) (M := M3) g1 ⟨g6a, ⟨nr, hnr4, e29⟩, g6c⟩ e29 hnr4 (show ty < 6 by omega) (M3.1 3 - f k) N 0 2 0 (Nat.zero_le _) (by omega) (Or.inl ⟨rfl, rfl⟩)
    have i1' : pf_X8_interestIn G N S1 b (nI ty) (M3.1 3 - f k) = some (v, S1) := i1
    have i2' : pf_X9_unwanted G N M3 (nI ty) (M2.1 3 - f k) = some (v, M3) := by rw [← hf.1 3 (by simp)]; exact i2
    rw [i1', i2']
    dsimp only
    have hmono := rc.mono (kc' := kc + 1) (by omega) hkc
    rcases i3 with rfl | rfl | rfl
    · rw [if_pos rfl, if_pos (show (0 : Int32) ≤ 0 by decide)]
      have hy : y7 = M3.2 2 ty := by rw [hf.2 2 (by decide)]; exact hy7
      simp only [gr_q (k := 5) g1 rfl, ai_q t2 (show ty < 6 by omega) (by decide), Option.bind_some, ← hy]
      have hfin : ∀ (w y10 y11 : Int32), ((y7 = 0 ∧ w = -1 ∧ y10 = 0) ∨ (¬ y7 = 0 ∧ ∃ s, s ≤ ns ∧ w = nI s ∧ y11 = nI s ∧ y10 = if s < ns then nI s else -1)) → ∃ v S' M', pf_X8_endEvent_61 G N b (b + 7 + 4 * t) (nI ty) x y z (f k) w S1 = some (v, S') ∧ pf_X9_commit_162 G N (nI t) (nI ty) x y z (nI (min n 8)) y7 (f k) y10 y11 M3 = some (v, M') ∧ RC G b p kl sz (kc + 1) n S' M' ∧ fm [10, 18, 38] [3, 4, 5, 7, 8, 9, 15, 16, 17, 24] M2 M' ∧ sm_p (cl_X b p kl) S S' := by
        intro w y10 y11 hc
        obtain ⟨v, S', M', r1, r2, r3, r4, r5⟩ := ev_61 (N := N) rc ht (ty := ty) (fun nt' a1 a2 => hty nt' ((hf.1 7 (by simp)).symm.trans a1) a2) e10 gK.1 hkc hN (f k) x y z y7 w y10 y11 hc
        exact ⟨v, S', M', r1, r2, r3, hf'.tr (r4.wd (by decide) (by decide)), hcl.tr r5⟩
      by_cases h70 : y7 = 0
      · rw [if_pos h70, if_pos h70, pf_X9_commit_146, if_pos (show (0 : Int32) ≤ 0 by decide)]
        exact hfin (-1) 0 0 (Or.inl ⟨h70, rfl, rfl⟩)
      · rw [if_neg h70, if_neg h70]
        have hle := (fst_k_le (sam (M3.2 3) (M3.2 4) (M3.2 0) (min n 8)) ns 0).2
        simp only [gr_q (k := 2) g1 rfl, gr_q (k := 1) g1 rfl, Option.bind_some, v_q _ gst.1, st_num gst gK g2 (show 30 ≤ N by omega), md_str (G := G) (N := N) (M := M3) (m := min n 8) (Nat.min_le_right _ _) gK.1 e10 (by omega)]
        generalize fst_k (sam (M3.2 3) (M3.2 4) (M3.2 0) (min n 8)) ns 0 = s at *
        rw [pf_X9_commit_146]
        by_cases hsn : s < ns
        · rw [if_pos hsn, if_pos (show (0 : Int32) ≤ nI s from nI_le (a := 0) (Nat.zero_le _) (by have := gK.1; omega))]
          exact hfin (nI s) (nI s) (nI s) (Or.inr ⟨h70, s, by omega, rfl, rfl, by rw [if_pos hsn]⟩)
        · rw [if_neg hsn, if_neg (show ¬ (0 : Int32) ≤ -1 by decide), e10, show ns = s by omega]
          exact hfin (nI s) (-1) (nI s) (Or.inr ⟨h70, s, by omega, rfl, rfl, by rw [if_neg hsn]⟩)
    · rw [if_neg (show ¬ (2 : Int32) = 0 by decide), if_neg (show ¬ (2 : Int32) ≤ 0 by decide)]
      exact ⟨2, S1, M3, rfl, rfl, hmono, hf', hcl⟩
    · rw [if_neg (show ¬ (3 : Int32) = 0 by decide), if_neg (show ¬ (3 : Int32) ≤ 0 by decide)]
      exact ⟨3, S1, M3, rfl, rfl, hmono, hf', hcl⟩
theorem op_commit (h : RR G b p kl sz kc S M) (x1 x2 x3 x4 x5 : Int32) (hkc : kc + 1 < 100000) (hN : 700 ≤ N) : OPi G b p kl sz (kc + 1) S (pf_X8_commit G N S b x1 x2 x3 x4 x5) (pf_X9_commit G N M x1 x2 x3 x4 x5) := by
  have h0 := (h.mono (Nat.le_succ kc) hkc).t (m4_f M 0)
  obtain ⟨bf, ch, h1, ⟨n, e5, ht⟩, h3, h4, h5, h6, h7, h8, h9, h10, h11, h12, h13⟩ := h
  have hn40 := ht.2.2.1
  have h5' := h5
  obtain ⟨t1, t2, nt, hnt6, e7, t3⟩ := h5
  have h1' := h1
  rw [e7] at h1'
  unfold pf_X8_commit pf_X9_commit
  simp only [mm_pf, Option.bind_some]
  rcases ix x1 (n := 3) (by decide) with hx | ⟨t, htt, rfl⟩
  · rw [(isTh_out (S := S) (M := (va_up M.1 4 0, M.2)) hx).1, (isTh_out (S := S) (M := (va_up M.1 4 0, M.2)) hx).2]
    simp only [mw_b2]
    rw [if_pos trivial, if_pos trivial]
    exact ⟨-1, S, _, rfl, rfl, h0, sm_p.rf _ S⟩
  rw [(isTh_in (S := S) (M := (va_up M.1 4 0, M.2)) htt).1, (isTh_in (S := S) (M := (va_up M.1 4 0, M.2)) htt).2]
  simp only [mw_b2]
  rw [if_neg (show ¬ (1 : Int32) = 0 by decide), if_neg (show ¬ (1 : Int32) = 0 by decide)]
  simp only [v_q _ h1]
  have y7 : (va_up M.1 4 0) 7 = nI nt := e7
  have y5 : (va_up M.1 4 0) 5 = nI n := e5
  rw [y7, y5]
  rcases ix x2 (n := nt) (by omega) with hx | ⟨ty, hty, rfl⟩
  · rw [isTy_out h1' hx]
    dsimp only
    rw [if_neg (show ¬ ¬ (0 : Int32) = 0 by decide)]
    refine ⟨-1, S, _, rfl, ?_, h0, sm_p.rf _ S⟩
    by_cases hx0 : x2 < 0
    · rw [if_pos hx0]
    · rw [if_neg hx0, if_neg (Int32.not_lt.mpr (hx.resolve_left hx0))]
  rw [isTy_in h1' hty hnt6]
  dsimp only
  rw [if_pos (show ¬ (1 : Int32) = 0 by decide), if_neg (show ¬ nI ty < 0 from nI_pos (by omega)), if_pos (nI_lt hty (by omega))]
  have hmin : (if (8 : Int32) ≤ nI n then pf_X9_commit_44 G N (nI t) (nI ty) x3 x4 x5 8 (va_up M.1 4 0, M.2) else pf_X9_commit_44 G N (nI t) (nI ty) x3 x4 x5 (nI n) (va_up M.1 4 0, M.2)) = pf_X9_commit_44 G N (nI t) (nI ty) x3 x4 x5 (nI (min n 8)) (va_up M.1 4 0, M.2) := by
    by_cases h8 : 8 ≤ n
    · rw [if_pos (show (8 : Int32) ≤ nI n from nI_le (a := 8) h8 (by omega)), Nat.min_eq_right h8]; rfl
    · rw [if_neg (show ¬ (8 : Int32) ≤ nI n from nI_ge (b := 8) (by omega) (by decide)), Nat.min_eq_left (by omega)]
  rw [hmin, pf_X9_commit_44]
  simp only [aim (k := 2) (j := ty) (show ty < 6 by omega) (by decide), Option.bind_some, y5]
  have hw1 : (if M.2 2 ty = 0 then pf_X9_commit_68 G N (nI t) (nI ty) x3 x4 x5 (nI (min n 8)) (M.2 2 ty) (nI n) (va_up M.1 4 0, M.2) else pf_X9_commit_68 G N (nI t) (nI ty) x3 x4 x5 (nI (min n 8)) (M.2 2 ty) 0 (va_up M.1 4 0, M.2)) = pf_X9_commit_68 G N (nI t) (nI ty) x3 x4 x5 (nI (min n 8)) (M.2 2 ty) (nI (if M.2 2 ty = 0 then n else 0)) (va_up M.1 4 0, M.2) := by
    by_cases hz : M.2 2 ty = 0
    · rw [if_pos hz, if_pos hz]
    · rw [if_neg hz, if_neg hz]; rfl
  rw [hw1]
  generalize hM2 : ((va_up (va_up M.1 4 0) 5 (nI (if M.2 2 ty = 0 then n else 0)), M.2) : mm_M) = M2
  have hf : fm [4, 5] [] M M2 := by rw [← hM2]; exact ((fm.rf [4, 5] [] M).pf (j := 4) (by decide) 0).pf (j := 5) (by decide) _
  have hs := sm_p.rf (fun _ => False) S
  have rc : RC G b p kl sz kc n S M2 := by
    have h5 := h5'
    refine ⟨bf, ch, (by rw [hf.1 7 (by decide), hf.1 29 (by decide), hf.1 3 (by decide)]; exact h1.k hs (by intro w; exact w)), ?g_txt, h3.k hs (fun q z1 z2 w => by exact w) hf (by decide) (by decide) (by decide), h4.k hs (fun q z1 z2 w => by exact w) hf (by decide) (by decide) (by decide) (by decide), h5.k hs (fun q z1 z2 w => by exact w) hf (by decide) (by decide) (by decide), h6.k hs (fun q z1 z2 w => by exact w) hf (by decide) (by decide) (by decide) (by decide) (by decide) (by decide), h7.k hs (fun q z1 z2 w => by exact w) hf (by decide) (by decide), h8.k hs (fun q z1 z2 w => by exact w) hf (by decide) (by decide) (by decide) (by decide) (by decide) (by decide) (by decide) (by decide), h9.k hs (fun q z1 z2 w => by exact w), h10.k hs (fun q z1 z2 w => by exact w) hf (by decide) (by decide), h11.k hf (by decide) (by decide) (by decide) (by decide) (by decide) (by decide) (by decide) (by decide) (by decide), h12.k hf (by decide), h13⟩
    case g_txt => rw [hf.2 0 (by simp)]; exact ht
  obtain ⟨v, S', M', r1, r2, r3, r4, r5⟩ := ev_68 (N := N) (M := (va_up M.1 4 0, M.2)) hM2 rc htt (ty := ty) (fun nt' a1 a2 => by
    have : nI nt = nI nt' := e7.symm.trans ((hf.1 7 (by decide)).symm.trans a1)
    have := (nI_eq (by omega) (by omega)).mp this
    omega) hkc hN x3 x4 x5 (M.2 2 ty) (by rw [hf.2 2 (by simp)])
  obtain ⟨⟨g, a1, a2⟩, hth⟩ := h4
  simp only [gr_q (k := 3) h1 rfl, aq_q a1 htt (by decide) (a2 t htt), Option.bind_some, v_q _ h1, r1, r2]
  have r3' := r3
  obtain ⟨bf1, ch1, g1, g2, g3, g4, ⟨gt1, gt2, -⟩, g6, g7, g8, g9, g10, g11, g12, g13⟩ := r3'
  have e22 : M'.2 2 = M.2 2 := (r4.2 2 (by decide)).trans (hf.2 2 (by simp))
  have e55 : M'.1 5 = nI (if M.2 2 ty = 0 then n else 0) := (r4.1 5 (by decide)).trans (by rw [← hM2]; rfl)
  simp only [gr_q (k := 5) g1 rfl, ai_q gt2 (show ty < 6 by omega) (by decide), Option.bind_some, e22]
  by_cases hz : M.2 2 ty = 0
  · rw [if_pos hz]
    rw [if_pos hz] at e55
    exact ⟨v, S', M', rfl, rfl, r3.rr e55, r5⟩
  · rw [if_neg hz]
    rw [if_neg hz] at e55
    obtain ⟨S'', ⟨fs, k1⟩, k2, k3, k4⟩ := r3.clear (N := N)
    simp only [gr_q (k := 1) g1 rfl, Option.bind_some, v_q _ k1, k2]
    exact ⟨v, S'', M', rfl, rfl, k3.rr e55, r5.tr k4⟩
end COM
