/-! commit: all of it -/
def RC (G : Nat → ClassId) (b p kl sz kc n : Nat) (S : mw_M) (M : mm_M) : Prop := ∃ bf ch : Nat → List Int32, g_main S b p kl sz (M.1 7) (M.1 29) (M.1 3) ∧ tx_R G S (b + 1) n (M.2 0) ∧ g_str G S b M ∧ g_ths G S b sz M bf ∧ g_typ G S b M ∧ g_rec G S b M ∧ g_pool G S b p sz M bf ∧ g_chs G S b p kl sz M ch ∧ g_pay G S b p kl ∧ g_wri G S b p kl sz M ∧ g_mod p kl sz kc M bf ch ∧ g_beg M ∧ (ch 6).length ≤ 150
section COM
variable {G : Nat → ClassId} {N b p kl sz kc n : Nat} {S : mw_M} {M : mm_M}
theorem RC.mono {kc' : Nat} (h : RC G b p kl sz kc n S M) (h1 : kc ≤ kc') (h2 : kc' < 100000) : RC G b p kl sz kc' n S M := by
  obtain ⟨bf, ch, q1, q2, q3, q4, q5, q6, q7, q8, q9, q10, q11, q12, q13⟩ := h
  exact ⟨bf, ch, q1, q2, q3, q4, q5, q6, q7, q8, q9, q10, q11.mono h1 h2, q12, q13⟩
theorem RC.pay {S' : mw_M} {P : Nat} {l : List Int32} (hP : P = b + 36 + 2 * p + 4 * kl + 6) (h : RC G b p kl sz kc n S M) (hs : sm_p (br_X P) S S') (hb : br_R G S' P 27 l) : RC G b p kl sz kc n S' M := by
  obtain ⟨bf, ch, h1, h2, h3, h4, h5, h6, h7, h8, h9, h10, h11, h12, h13⟩ := h
  have hf := fm.rf [] [] M
  have hs2 : sm_p (fun q => b + 36 + 2 * p + 4 * kl + 6 ≤ q ∧ q < b + 36 + 2 * p + 4 * kl + 8) S S' := hs.wd (fun q hq => by rcases hq with z | z <;> constructor <;> omega)
  refine ⟨bf, ch, (by rw [hf.1 7 (by decide), hf.1 29 (by decide), hf.1 3 (by decide)]; exact h1.k hs2 (by intro w; obtain ⟨w1, w2⟩ := w; omega)), ?g_txt, h3.k hs2 (fun q z1 z2 w => by obtain ⟨w1, w2⟩ := w; omega) hf (by decide) (by decide) (by decide), h4.k hs2 (fun q z1 z2 w => by obtain ⟨w1, w2⟩ := w; omega) hf (by decide) (by decide) (by decide) (by decide), h5.k hs2 (fun q z1 z2 w => by obtain ⟨w1, w2⟩ := w; omega) hf (by decide) (by decide) (by decide), h6.k hs2 (fun q z1 z2 w => by obtain ⟨w1, w2⟩ := w; omega) hf (by decide) (by decide) (by decide) (by decide) (by decide) (by decide), h7.k hs2 (fun q z1 z2 w => by obtain ⟨w1, w2⟩ := w; omega) hf (by decide) (by decide), h8.k hs2 (fun q z1 z2 w => by obtain ⟨w1, w2⟩ := w; omega) hf (by decide) (by decide) (by decide) (by decide) (by decide) (by decide) (by decide) (by decide), ?g_pay, h10.k hs2 (fun q z1 z2 w => by obtain ⟨w1, w2⟩ := w; omega) hf (by decide) (by decide), h11.k hf (by decide) (by decide) (by decide) (by decide) (by decide) (by decide) (by decide) (by decide) (by decide), h12.k hf (by decide), h13⟩
  case g_txt => exact h2.sm hs (by intro w; rcases w with w | w <;> omega) (by intro w; rcases w with w | w <;> omega)
  case g_pay => exact ⟨l, by rw [← hP]; exact hb⟩
theorem ev_lost {t : Nat} (h : RC G b p kl sz kc n S M) (ht : t < 3) (hkc : kc + 1 < 100000) : ∃ S' M', pf_X8_endEvent_95 G N (b + 7 + 4 * t) S = some (4, S') ∧ pf_X9_commit_327 G N (nI t) M = some (4, M') ∧ RC G b p kl sz (kc + 1) n S' M' ∧ fm [] [16, 17] M M' ∧ sm_p (cl_X b p kl) S S' := by
  obtain ⟨bf, ch, h1, h2, h3, h4, h5, h6, h7, h8, h9, h10, h11, h12, h13⟩ := h
  obtain ⟨f, q1, q2⟩ := h4.2 t ht
  obtain ⟨S', w1, w2, w3⟩ := th_lose (N := N) q1
  have hs : sm_p (fun q => b + 7 + 4 * t ≤ q ∧ q < b + 11 + 4 * t) S S' := w3.wd (fun q hq => by rcases hq with z | z <;> constructor <;> omega)
  generalize hM' : ((M.1, va_up (va_up M.2 16 (upd (M.2 16) t (M.2 16 t + 1))) 17 (upd (va_up M.2 16 (upd (M.2 16) t (M.2 16 t + 1)) 17) t (va_up M.2 16 (upd (M.2 16) t (M.2 16 t + 1)) 17 t + 1))) : mm_M) = M'
  have hf : fm [] [16, 17] M M' := by rw [← hM']; exact ((fm.rf [] [16, 17] M).si (k := 16) (by decide) _).si (k := 17) (by decide) _
  have x16 : M'.2 16 = upd (M.2 16) t (M.2 16 t + 1) := by rw [← hM']; rfl
  have x17 : M'.2 17 = upd (M.2 17) t (M.2 17 t + 1) := by rw [← hM']; rfl
  refine ⟨S', M', ?_, ?_, ⟨bf, ch, (by rw [hf.1 7 (by decide), hf.1 29 (by decide), hf.1 3 (by decide)]; exact h1.k hs (by intro w; obtain ⟨w1, w2⟩ := w; omega)), ?g_txt, h3.k hs (fun q z1 z2 w => by obtain ⟨w1, w2⟩ := w; omega) hf (by decide) (by decide) (by decide), ?g_ths, h5.k hs (fun q z1 z2 w => by obtain ⟨w1, w2⟩ := w; omega) hf (by decide) (by decide) (by decide), h6.k hs (fun q z1 z2 w => by obtain ⟨w1, w2⟩ := w; omega) hf (by decide) (by decide) (by decide) (by decide) (by decide) (by decide), h7.k hs (fun q z1 z2 w => by obtain ⟨w1, w2⟩ := w; omega) hf (by decide) (by decide), h8.k hs (fun q z1 z2 w => by obtain ⟨w1, w2⟩ := w; omega) hf (by decide) (by decide) (by decide) (by decide) (by decide) (by decide) (by decide) (by decide), h9.k hs (fun q z1 z2 w => by obtain ⟨w1, w2⟩ := w; omega), h10.k hs (fun q z1 z2 w => by obtain ⟨w1, w2⟩ := w; omega) hf (by decide) (by decide), ?g_mod, h12.k hf (by decide), h13⟩, hf, hs.wd (fun q hq => by constructor <;> omega)⟩
  · unfold pf_X8_endEvent_95
    simp only [v_q _ q1.1, w1, Option.bind_some]
  · unfold pf_X9_commit_327
    simp only [aim (k := 16) (j := t) (show t < 3 from ht) (by decide), sim (k := 16) (j := t) _ (show t < 3 from ht) (by decide), aim (k := 17) (j := t) (show t < 3 from ht) (by decide), sim (k := 17) (j := t) _ (show t < 3 from ht) (by decide), Option.bind_some]
    rw [← hM']
  case g_txt => rw [hf.2 0 (by decide)]; exact h2.sm hs (by intro w; omega) (by intro w; omega)
  case g_ths =>
    refine g_ths.set (bf := bf) (t := t) (f := f) h4 hs (fun q z1 z2 z3 w => z3 w) ht ?_ (fun i hi => ?_) (fun u hu hut => ⟨?_, ?_, ?_, rfl, fun i hi => ?_⟩)
    · rw [x16, x17, pk_us, pk_us, hf.2 5 (by decide)]; exact w2
    · rw [hf.2 6 (by decide)]; exact q2 i hi
    · rw [hf.2 5 (by decide)]
    · rw [x16, pk_un hut]
    · rw [x17, pk_un hut]
    · rw [hf.2 6 (by decide)]
  case g_mod =>
    obtain ⟨hB, hD, m, hbl, ⟨u1, u2, u3, u4, u5, u6⟩, hbb, hcb, hlo⟩ := h11
    refine ⟨fun i hi => ?_, fun i hi => ?_, ⟨(hf.1 0 (by simp)).trans m.1, (hf.1 1 (by simp)).trans m.2.1, (hf.1 2 (by simp)).trans m.2.2⟩, hbl, ⟨u1, u2, u3, u4, u5, hkc⟩, hbb, ⟨fun k hk => hcb.1 k ((hf.1 19 (by simp)).symm.trans hk), hcb.2⟩, fun u hu => ?_⟩
    · obtain ⟨r1, r2, r3⟩ := hB i hi
      exact ⟨by rw [hf.2 8 (by decide)]; exact r1, r2, by rw [hf.2 7 (by decide)]; exact r3⟩
    · obtain ⟨r1, r2, r3⟩ := hD i hi
      exact ⟨by rw [hf.2 11 (by decide)]; exact r1, r2, by rw [hf.2 10 (by decide)]; exact r3⟩
    · obtain ⟨m, r1, r2⟩ := hlo u hu
      rw [x16]
      by_cases hut : u = t
      · subst hut; exact ⟨m + 1, by omega, by rw [pk_us, r2, nI_1]⟩
      · exact ⟨m, by omega, by rw [pk_un hut]; exact r2⟩
theorem ev_61 {t ty ns : Nat} (h : RC G b p kl sz kc n S M) (ht : t < 3) (hty : ∀ nt, M.1 7 = nI nt → nt ≤ 6 → ty < nt) (h10n : M.1 10 = nI ns) (hns : ns ≤ 24) (hkc : kc + 1 < 100000) (hN : 700 ≤ N) (tick x y z y7 w y10 y11 : Int32) (hcase : (y7 = 0 ∧ w = -1 ∧ y10 = 0) ∨ (¬ y7 = 0 ∧ ∃ s, s ≤ ns ∧ w = nI s ∧ y11 = nI s ∧ y10 = if s < ns then nI s else -1)) : ∃ v S' M', pf_X8_endEvent_61 G N b (b + 7 + 4 * t) (nI ty) x y z tick w S = some (v, S') ∧ pf_X9_commit_162 G N (nI t) (nI ty) x y z (nI (min n 8)) y7 tick y10 y11 M = some (v, M') ∧ RC G b p kl sz (kc + 1) n S' M' ∧ fm [10, 18, 38] [3, 4, 7, 8, 9, 15, 16, 17, 24] M M' ∧ sm_p (cl_X b p kl) S S' := by
  have h0 := h
  obtain ⟨bf, ch, h1, h2, h3, h4, h5, h6, h7, h8, h9, h10, h11, h12, h13⟩ := h
  have h5' := h5
  have h11' := h11
  obtain ⟨t1, t2, nt, hnt6, e7, t3⟩ := h5
  have htn := hty nt e7 hnt6
  obtain ⟨⟨k, hk3, hk⟩, -⟩ := t3 ty htn
  have hty6 : ty < 6 := by omega
  obtain ⟨hB, hD, ⟨m0, m1, m2⟩, hbl, ⟨u1, u2, u3, u4, u5, u6⟩, hbb, hcb, hlo⟩ := h11
  obtain ⟨l0, h9⟩ := h9
  generalize hP : b + 36 + 2 * p + 4 * kl + 6 = P at h9
  have hsB1 : (sB w).length ≤ 1 := by
    rcases hcase with ⟨-, c2, -⟩ | ⟨-, s, c1, c2, -⟩
    · rw [sB, if_pos c2]; exact Nat.zero_le _
    · unfold sB
      split
      · exact Nat.zero_le _
      · rw [c2, vb_len, vl_nI (by omega)]; exact Nat.le_refl _
  obtain ⟨S2, e2, p2, s2⟩ := cmp (N := N) hP.symm h1 t1 h9 hty6 hk3 hk tick w x y z hsB1 (by omega)
  have hpl27 := p2.2.1
  generalize hpl : vb (nI ty) ++ vb tick ++ vb (M.1 3 - tick) ++ zzs x y z k ++ sB w = pl at p2 hpl27
  have rc2 : RC G b p kl sz kc n S2 M := h0.pay hP.symm s2 p2
  have hW : pl.length = (vb (nI ty) ++ vb tick ++ vb (M.1 3 - tick)).length + (sB w).length + (zzs x y z k).length := by
    rw [← hpl]; simp only [List.length_append]; omega
  obtain ⟨S3, M3, l1, l2, l3, l4, l5⟩ := ev_lost (N := N) rc2 ht hkc
  have hs2cl : sm_p (cl_X b p kl) S S2 := s2.wd (fun q hq => by rcases hq with z | z <;> constructor <;> omega)
  have hlost : ∀ A B : Option (Int32 × _), A = pf_X8_endEvent_95 G N (b + 7 + 4 * t) S2 → B = pf_X9_commit_327 G N (nI t) M → ∃ v S' M', A = some (v, S') ∧ B = some (v, M') ∧ RC G b p kl sz (kc + 1) n S' M' ∧ fm [10, 18, 38] [3, 4, 7, 8, 9, 15, 16, 17, 24] M M' ∧ sm_p (cl_X b p kl) S S' := fun A B hA hB => ⟨4, S3, M3, hA.trans l1, hB.trans l2, l3, l4.wd (by simp) (by decide), hs2cl.tr l5⟩
  -- the groups on S2
  clear l1 l2 l3 l4 l5
  obtain ⟨fi, fu, pb, po, e18, hfp, hfi, hring, hfree, hfb⟩ := h7
  have g1 := h1.k s2 (by intro w; rcases w with w | w <;> omega)
  have po2 := po.sm s2 (fun q z1 z2 w => by rcases w with w | w <;> omega)
  obtain ⟨f, q1, q2⟩ := h4.2 t ht
  have th2 := q1.sm s2 (by intro w; rcases w with w | w <;> omega) (by intro w; rcases w with w | w <;> omega) (by intro w; rcases w with w | w <;> omega) (by intro w; rcases w with w | w <;> omega)
  -- the reference up to the decision
  generalize hy14 : (if (bf t).length + (pl.length + 1) ≤ sz then (0 : Int32) else 1) = y14
  have hmod : pf_X9_commit_162 G N (nI t) (nI ty) x y z (nI (min n 8)) y7 tick y10 y11 M = pf_X9_commit_286 G N (nI t) (nI ty) x y z (nI (min n 8)) y7 tick y10 y11 (nI pl.length) (nI (1 + pl.length)) y14 M := by
    have hBN : ∀ j, pf_X9_commit_205 G N N (nI t) (nI ty) x y z (nI (min n 8)) y7 tick y10 y11 (nI ((vb (nI ty) ++ vb tick ++ vb (M.1 3 - tick)).length + (sB w).length)) j M = pf_X9_commit_205 G N (k + (N - k)) (nI t) (nI ty) x y z (nI (min n 8)) y7 tick y10 y11 (nI ((vb (nI ty) ++ vb tick ++ vb (M.1 3 - tick)).length + (sB w).length)) j M := fun j => by rw [show k + (N - k) = N by omega]
    have hgo : pf_X9_commit_205 G N N (nI t) (nI ty) x y z (nI (min n 8)) y7 tick y10 y11 (nI ((vb (nI ty) ++ vb tick ++ vb (M.1 3 - tick)).length + (sB w).length)) 0 M = pf_X9_commit_286 G N (nI t) (nI ty) x y z (nI (min n 8)) y7 tick y10 y11 (nI pl.length) (nI (1 + pl.length)) y14 M := by
      rw [hBN, md_w hty6 hk3 hk (by omega) _ _ _ _ _ _ _ _ _ (N - k) _ k (Nat.le_refl _), ← hW, show k - k + (N - k) = (N - k - 1) + 1 by omega, pf_X9_commit_205]
      simp only [aim (M := M) (k := 1) (j := ty) hty6 (by decide), aim (M := M) (k := 8) (j := t) (show t < 7 by omega) (by decide), Option.bind_some, hk, md_wid _ (show 7 ≤ N by omega), mw_b2, vl_nI (show pl.length < 128 by omega), (hB t (by omega)).1, nI_add, m0]
      rw [if_pos (Int32.le_refl _), ← hy14]
      by_cases hc : (bf t).length + (pl.length + 1) ≤ sz
      · rw [if_pos hc, if_pos (nI_le (by omega) (by omega))]
      · rw [if_neg hc, if_neg (nI_ge (by omega) (by have := hbl t (by omega); omega))]
    rw [← hgo]
    unfold pf_X9_commit_162
    simp only [md_wid _ (show 7 ≤ N by omega), mw_b2, nI_add]
    rcases hcase with ⟨c1, c2, -⟩ | ⟨c1, s, c2, c3, c4, -⟩
    · rw [if_pos c1, sB, if_pos c2]
      simp only [List.length_append, vb_len, List.length_nil, Nat.add_zero, Int32.add_zero]
    · have hw1 : ¬ w = -1 := by
        rw [c3]
        have : ∀ s, s < 25 → nI s ≠ -1 := by decide
        exact this s (by omega)
      rw [if_neg c1, sB, if_neg hw1, c4, c3]
      simp only [List.length_append, vb_len]
  rw [hmod]
  unfold pf_X8_endEvent_61
  simp only [v_q _ h1, e2, Option.bind_some]
  by_cases h24 : ∃ s, s ≤ ns ∧ w = nI s ∧ y11 = nI s ∧ s = 24 ∧ (y10 = if s < ns then nI s else -1)
  · obtain ⟨s, c2, c3, c4, c5, c6⟩ := h24
    have hns24 : ns = 24 := by omega
    subst c5
    rw [if_neg (by omega)] at c6
    refine hlost _ _ ?_ ?_
    · rw [c3, if_pos (show (24 : Int32) ≤ nI 24 by decide)]
    · rw [pf_X9_commit_286, c6, if_neg (show ¬ (0 : Int32) ≤ -1 by decide), h10n, hns24, if_pos (show nI 24 = 24 from rfl)]
  have hw24 : ¬ (24 : Int32) ≤ w := by
    rcases hcase with ⟨c1, c2, -⟩ | ⟨c1, s, c2, c3, c4, c5⟩
    · rw [c2]; decide
    · rw [c3]
      exact nI_ge (b := 24) (by
        rcases Nat.lt_or_ge s 24 with q | q
        · exact q
        · exact absurd ⟨s, c2, c3, c4, by omega, c5⟩ h24) (by decide)
  have h286 : pf_X9_commit_286 G N (nI t) (nI ty) x y z (nI (min n 8)) y7 tick y10 y11 (nI pl.length) (nI (1 + pl.length)) y14 M = pf_X9_commit_302 G N (nI t) (nI ty) x y z (nI (min n 8)) y7 tick y10 y11 (nI pl.length) (nI (1 + pl.length)) y14 M := by
    unfold pf_X9_commit_286
    rcases hcase with ⟨c1, c2, c3⟩ | ⟨c1, s, c2, c3, c4, c5⟩
    · rw [c3, if_pos (show (0 : Int32) ≤ 0 by decide)]
    · by_cases hsn : s < ns
      · rw [if_pos hsn] at c5
        rw [c5, if_pos (show (0 : Int32) ≤ nI s from nI_le (a := 0) (Nat.zero_le _) (by omega))]
      · rw [if_neg hsn] at c5
        rw [c5, if_neg (show ¬ (0 : Int32) ≤ -1 by decide), h10n, if_neg (fun q => h24 ⟨s, c2, c3, c4, by have := (nI_eq (b := 24) (by omega) (by decide)).mp q; omega, by rw [if_neg hsn]; exact c5⟩)]
  rw [h286, if_neg hw24]
  unfold pf_X9_commit_302
  simp only [m0, m1, e18]
  obtain ⟨k1, -, k3, -⟩ := mkr (N := N) hP.symm g1 p2 th2.2.2 po2 (by omega) u1 hfp hfi u5 (fun w => hfree fu (Nat.le_refl _) w) (by omega)
  simp only [v_q _ th2.1, th_buf th2, mw_b2, v_q _ g1]
  by_cases hbig : sz < pl.length + 1
  · rw [k1 hbig]
    refine hlost _ _ ?_ ?_
    · rfl
    · rw [if_pos (nI_lt (by omega) (by omega))]
  rw [if_neg (show ¬ nI sz < nI (1 + pl.length) from Int32.not_lt.mpr (nI_le (by omega) (by omega)))]
  by_cases hfull : sz < (bf t).length + (pl.length + 1) ∧ fu = p
  · rw [k3 (by omega) hfull.1 hfull.2]
    refine hlost _ _ ?_ ?_
    · rfl
    · rw [← hy14, if_neg (show ¬ (bf t).length + (pl.length + 1) ≤ sz by omega), if_neg (show ¬ (1 : Int32) = 0 by decide), hfull.2, if_neg (fun q => q rfl)]
  have h302 : (if y14 = 0 then pf_X9_commit_349 G N (nI t) (nI ty) x y z (nI (min n 8)) y7 tick y10 y11 (nI pl.length) y14 M else if ¬ nI fu = nI p then pf_X9_commit_349 G N (nI t) (nI ty) x y z (nI (min n 8)) y7 tick y10 y11 (nI pl.length) y14 M else pf_X9_commit_327 G N (nI t) M) = pf_X9_commit_349 G N (nI t) (nI ty) x y z (nI (min n 8)) y7 tick y10 y11 (nI pl.length) y14 M := by
    by_cases hy0 : y14 = 0
    · rw [if_pos hy0]
    · rw [if_neg hy0, if_pos (show ¬ nI fu = nI p from fun q => hfull ⟨by
        rcases Nat.lt_or_ge sz ((bf t).length + (pl.length + 1)) with r | r
        · exact r
        · exact absurd (by rw [← hy14, if_pos r]) hy0, (nI_eq (by omega) (by omega)).mp q⟩)]
  rw [h302]
  clear h302 h286 hmod hlost k1 k3
  obtain ⟨S4, fu', pb', bf', r1, r2, r3, r4, r5, r6, r7, r8, r9, r10, r11⟩ := com_room (N := N) hP.symm g1 p2 ht th2.2.2 po2 u1 hfp hfi u5 hring hfree hbl hbb (by omega) (by omega) (by omega) y14 hy14.symm
  -- the class
  have w10 : ∀ q, ¬ (b + 7 + 4 * t + 2 ≤ q ∧ q < b + 7 + 4 * t + 4) → ¬ (b + 34 ≤ q ∧ q < b + 36 + 2 * p) → ¬ (po_X (b + 34) p q ∨ br_X (b + 7 + 4 * t + 2) q) := fun q a1 a2 w => by
    rcases w with w | (w | w) <;> omega
  have g4 := g1.k r10 (w10 _ (by omega) (by omega))
  have p4 := p2.sm r10 (w10 _ (by omega) (by omega)) (w10 _ (by omega) (by omega))
  have th4 : th_R G S4 (b + 7 + 4 * t) (M.2 5 t) (M.2 16 t) (M.2 17 t) f sz (bf' t) := ⟨by rw [r10.1 _ (w10 _ (by omega) (by omega))]; exact th2.1, by rw [r10.1 _ (w10 _ (by omega) (by omega))]; exact th2.2.1, r3⟩
  have hvl1 : vl (un (nI pl.length)) = 1 := vl_nI (by omega)
  obtain ⟨S5, e5, b5, s5⟩ := br_addV (N := N) r3 (nI pl.length) (by rw [hvl1]; omega) (by omega)
  have wb : ∀ q, ¬ (b + 7 + 4 * t + 2 ≤ q ∧ q < b + 7 + 4 * t + 4) → ¬ br_X (b + 7 + 4 * t + 2) q := fun q a1 w => by
    rcases w with w | w <;> omega
  have g5 := g4.k s5 (wb _ (by omega))
  have p5 := p4.sm s5 (wb _ (by omega)) (wb _ (by omega))
  have th5 : th_R G S5 (b + 7 + 4 * t) (M.2 5 t) (M.2 16 t) (M.2 17 t) f sz (bf' t ++ vb (nI pl.length)) := ⟨by rw [s5.1 _ (wb _ (by omega))]; exact th4.1, by rw [s5.1 _ (wb _ (by omega))]; exact th4.2.1, b5⟩
  have hlv : (vb (nI pl.length)).length = 1 := by rw [vb_len, hvl1]
  obtain ⟨S6, e6, b6, s6⟩ := br_addRow (N := N) b5 p5 (by omega) (by rw [List.length_append, hlv]; omega) (by omega)
  have g6 := g5.k s6 (wb _ (by omega))
  have p6 := p5.sm s6 (wb _ (by omega)) (wb _ (by omega))
  have th6 : th_R G S6 (b + 7 + 4 * t) (M.2 5 t) (M.2 16 t) (M.2 17 t) f sz (bf' t ++ vb (nI pl.length) ++ pl) := ⟨by rw [s6.1 _ (wb _ (by omega))]; exact th5.1, by rw [s6.1 _ (wb _ (by omega))]; exact th5.2.1, b6⟩
  have S26 : sm_p (fun q => (b + 7 + 4 * t + 2 ≤ q ∧ q < b + 7 + 4 * t + 4) ∨ (b + 34 ≤ q ∧ q < b + 36 + 2 * p)) S2 S6 := ((r10.wd (fun q w => by
    rcases w with w | (w | w)
    · right; constructor <;> omega
    · left; constructor <;> omega
    · left; constructor <;> omega)).tr (s5.wd (fun q w => by left; rcases w with w | w <;> constructor <;> omega))).tr (s6.wd (fun q w => by left; rcases w with w | w <;> constructor <;> omega))
  have po6 : po_R G S6 (b + 34) p fi fu' sz pb' := (r2.sm s5 (fun q z1 z2 => wb q (by omega))).sm s6 (fun q z1 z2 => wb q (by omega))
  have S06 : sm_p (fun q => (b + 7 + 4 * t + 2 ≤ q ∧ q < b + 7 + 4 * t + 4) ∨ (b + 34 ≤ q ∧ q < b + 36 + 2 * p) ∨ (P ≤ q ∧ q < P + 2)) S S6 := (s2.wd (fun q w => by right; right; rcases w with w | w <;> constructor <;> omega)).tr (S26.wd (fun q w => by
    rcases w with w | w
    · left; exact w
    · right; left; exact w))
  obtain ⟨kp, ad, L, X, Y, Z, U, cs, e19, hkp, hold, hL, hX, hY, hZ, hU⟩ := h8
  have cs6 := cs.sm S06 (fun q z1 z2 w => by rcases w with ⟨w1, w2⟩ | ⟨w1, w2⟩ | ⟨w1, w2⟩ <;> omega)
  have hc6 := cs6.2.2.2.2 kp hkp
  obtain ⟨jA, hjA, hA⟩ := cs.2.2.1 kp hkp
  obtain ⟨S7, e7', c7, s7⟩ := ck_count (N := N) hc6
  have cs7 := (cs_set cs6 hkp c7 s7).1
  rw [va_up_id, va_up_id, va_up_id, va_up_id] at cs7
  have wk : ∀ q, q < b + 36 + 2 * p + 2 → ¬ ck_X (ad kp) q := fun q a1 w => by omega
  have g7 := g6.k s7 (wk _ (by omega))
  have p7 := p6.sm s7 (by intro w; omega) (by intro w; omega)
  have th7 := th6.sm s7 (wk _ (by omega)) (wk _ (by omega)) (wk _ (by omega)) (wk _ (by omega))
  have po7 := po6.sm s7 (fun q z1 z2 => wk q (by omega))
  have S07 : sm_p (fun q => (b + 7 + 4 * t + 2 ≤ q ∧ q < b + 7 + 4 * t + 4) ∨ (b + 34 ≤ q ∧ q < b + 36 + 2 * p + 4 * kl + 8)) S S7 := (S06.wd (fun q w => by
    rcases w with w | ⟨w1, w2⟩ | ⟨w1, w2⟩
    · left; exact w
    · right; constructor <;> omega
    · right; constructor <;> omega)).tr (s7.wd (fun q w => by right; constructor <;> omega))
  have w07 : ∀ q, q < b + 34 → ¬ (b + 7 + 4 * t + 2 ≤ q ∧ q < b + 7 + 4 * t + 4) → ¬ ((b + 7 + 4 * t + 2 ≤ q ∧ q < b + 7 + 4 * t + 4) ∨ (b + 34 ≤ q ∧ q < b + 36 + 2 * p + 4 * kl + 8)) := fun q a1 a2 w => by
    rcases w with w | w <;> omega
  obtain ⟨ns0, y10', hst, hK⟩ := h3
  have hnn : ns0 = ns := (nI_eq (by have := hK.1; omega) (by omega)).mp (y10'.symm.trans h10n)
  subst hnn
  have st7 := hst.sm S07 (w07 _ (by omega) (by omega)) (w07 _ (by omega) (by omega)) (w07 _ (by omega) (by omega))
  have tx7 := h2.sm S07 (w07 _ (by omega) (by omega)) (w07 _ (by omega) (by omega))
  obtain ⟨S8, ns', f3', f4', u', e8, st8, K8, cs8, s8, hns8, hu8, hmod⟩ := com_str (N := N) (k := k) g7 st7 hK tx7 cs7 hkp (by omega) hty6 y7 w y10 y11 (by
    rcases hcase with ⟨c1, c2, c3⟩ | ⟨c1, s, c2, c3, c4, c5⟩
    · exact Or.inl ⟨c1, c2⟩
    · refine Or.inr ⟨c1, s, c2, ?_, c3, c4, c5⟩
      rcases Nat.lt_or_ge s 24 with q | q
      · exact q
      · exact absurd ⟨s, c2, c3, c4, by omega, c5⟩ h24) (by omega)
  have w8 : ∀ q, ¬ (b + 3 ≤ q ∧ q < b + 6) → ¬ (ad kp ≤ q ∧ q < ad kp + 4) → ¬ (st_X (b + 3) q ∨ ck_X (ad kp) q) := fun q a1 a2 w => by
    rcases w with (w | w | w) | w <;> omega
  have p8 := p7.sm s8 (w8 _ (by omega) (by omega)) (w8 _ (by omega) (by omega))
  have th8 := th7.sm s8 (w8 _ (by omega) (by omega)) (w8 _ (by omega) (by omega)) (w8 _ (by omega) (by omega)) (w8 _ (by omega) (by omega))
  have po8 := po7.sm s8 (fun q z1 z2 => w8 _ (by omega) (by omega))
  have tx8 := tx7.sm s8 (w8 _ (by omega) (by omega)) (w8 _ (by omega) (by omega))
  have S08 : sm_p (fun q => (b + 3 ≤ q ∧ q < b + 6) ∨ (b + 7 + 4 * t + 2 ≤ q ∧ q < b + 7 + 4 * t + 4) ∨ (b + 34 ≤ q ∧ q < b + 36 + 2 * p + 4 * kl + 8)) S S8 := (S07.wd (fun q w => Or.inr w)).tr (s8.wd (fun q w => by
    rcases w with (w | w | w) | w
    · left; constructor <;> omega
    · left; constructor <;> omega
    · left; constructor <;> omega
    · right; right; constructor <;> omega))
  -- the reference
  generalize hMz : ((va_up M.1 38 0, M.2) : mm_M) = Mz
  have fz : fm [38] [24] M Mz := by rw [← hMz]; exact (fm.rf [38] [24] M).pf (j := 38) (by decide) 0
  have l1 : (vb (nI ty)).length = 1 := by rw [vb_len, vl_nI (by omega)]
  have l2 : (vb tick).length ≤ 5 := by rw [vb_len]; exact (vl_le _).2
  have l3 : (vb (M.1 3 - tick)).length ≤ 5 := by rw [vb_len]; exact (vl_le _).2
  obtain ⟨Ma, ea, a1, a2, a3⟩ := md_var (G := G) (N := N) (M := Mz) (ev := []) (nI pl.length) (by rw [← hMz]; rfl) (sg_nil _ _) (by rw [hvl1]; decide) (by omega)
  rw [List.nil_append] at a1 a2
  obtain ⟨Mb, eb, b1, b2, b3⟩ := md_var (G := G) (N := N) (nI ty) a1 a2 (by rw [← vb_len]; omega) (by omega)
  obtain ⟨Mc, ec, c1, c2, c3⟩ := md_var (G := G) (N := N) tick b1 b2 (by rw [← vb_len, List.length_append]; omega) (by omega)
  have i3 : Mc.1 3 = M.1 3 := ((fz.tr a3).tr (b3.tr c3)).1 3 (by decide)
  obtain ⟨Md, ed, d1, d2, d3⟩ := md_var (G := G) (N := N) (M.1 3 - tick) c1 c2 (by rw [← vb_len, List.length_append, List.length_append]; omega) (by omega)
  have fd : fm [38] [24] M Md := ((fz.tr a3).tr (b3.tr c3)).tr d3
  obtain ⟨Me, ee, f1, f2, f3⟩ := md_z (G := G) (N := N) (M := Md) (k := k) hty6 hk3 (by rw [fd.2 1 (by decide)]; exact hk) (by omega) (nI t) x y z (nI (min n 8)) y7 y10 y11 y14 (N - k) d1 d2 (by simp only [List.length_append]; omega) k (Nat.le_refl _)
  rw [show k + (N - k) = N by omega, show k - k + (N - k) = (N - k - 1) + 1 by omega] at ee
  have fe := fd.tr f3
  have hz15 := zzs_len x y z k
  obtain ⟨Mf, ef, v10, v3, v4, v15, v15', v38, v24, vf⟩ := hmod Me _ (nI t) x y z y14 (N - k - 1) ((fe.1 10 (by decide)).trans h10n) (fe.2 3 (by decide)) (fe.2 4 (by decide)) (fe.2 0 (by decide)) (fun s hs => by rw [fe.2 15 (by decide)]; exact (hU s hs).1) f1 f2 (by simp only [List.length_append]; omega) (by rw [fe.2 1 (by decide)]; exact hk)
  have hEV : vb (nI pl.length) ++ vb (nI ty) ++ vb tick ++ vb (M.1 3 - tick) ++ zzs x y z k ++ sB w = vb (nI pl.length) ++ pl := by
    rw [← hpl]; simp only [List.append_assoc]
  rw [hEV] at v38 v24
  have ff : fm [10, 38] [3, 4, 15, 24] M Mf := (fe.wd (by decide) (by decide)).tr vf
  have hBf : mbs Mf bf := fun i hi => by
    obtain ⟨r1, r2, r3⟩ := hB i hi
    exact ⟨by rw [ff.2 8 (by decide)]; exact r1, r2, by rw [ff.2 7 (by decide)]; exact r3⟩
  obtain ⟨Mg, eg, x1, x2, x3, x4, x5⟩ := r11 Mf hBf ((ff.1 18 (by decide)).trans e18) (fun i z1 z2 => by rw [ff.2 9 (by decide)]; exact hfb i z1 z2)
  have hEl : (vb (nI pl.length) ++ pl).length = 1 + pl.length := by rw [List.length_append, hlv]
  obtain ⟨Mh, eh, o1, o2, o3⟩ := md_lay (G := G) (N := N) (M := Mg) x1 ht (by rw [hEl]; omega) ((x5.1 38 (by decide)).trans v38) (by rw [x5.2 24 (by decide)]; exact v24) (by omega)
  have F : fm [10, 18, 38] [3, 4, 7, 8, 9, 15, 24] M Mh := ((ff.wd (by decide) (by decide)).tr (x5.wd (by decide) (by decide))).tr (o3.wd (by simp) (by decide))
  have i10 : Mh.1 10 = nI ns' := ((o3.1 10 (by simp)).trans (x5.1 10 (by decide))).trans v10
  have hgrow : ∀ (v : Int32) (s : Nat), (v = 0 ∨ ∃ ns, M.1 10 = nI ns ∧ s < ns ∧ ns ≤ 24) → (v = 0 ∨ ∃ ns, Mh.1 10 = nI ns ∧ s < ns ∧ ns ≤ 24) := fun v s w => by
    rcases w with w | ⟨n1, w1, w2, w3⟩
    · exact Or.inl w
    · have : n1 = ns0 := (nI_eq (by omega) (by have := hK.1; omega)).mp (w1.symm.trans h10n)
      exact Or.inr ⟨ns', i10, by omega, K8.1⟩
  have i3' : Mh.2 3 = f3' := ((o3.2 3 (by decide)).trans (x5.2 3 (by decide))).trans v3
  have i4' : Mh.2 4 = f4' := ((o3.2 4 (by decide)).trans (x5.2 4 (by decide))).trans v4
  have i15 : Mh.2 15 = Mf.2 15 := (o3.2 15 (by decide)).trans (x5.2 15 (by decide))
  have i18 : Mh.1 18 = nI fu' := (o3.1 18 (by simp)).trans x2
  have hsum : esum (Mh.2 9) = esum (M.2 9) + 1 := by
    rw [o2, esum_up _ (by omega), x3, ff.2 9 (by decide)]
  have hbb2 : ∀ i, i < 7 → (va_up bf' t (bf' t ++ (vb (nI pl.length) ++ pl)) i).length ≤ sz ∧ bts (va_up bf' t (bf' t ++ (vb (nI pl.length) ++ pl)) i) := fun i hi => by
    by_cases hit : i = t
    · subst hit
      rw [va_up_self]
      refine ⟨by rw [List.length_append, hEl]; omega, bts_app (r8 i hi).2 (bts_app (vb_isb _) ?_)⟩
      rw [← hpl]
      refine bts_app (bts_app (bts_app (bts_app (vb_isb _) (vb_isb _)) (vb_isb _)) (zzs_b _ _ _ _)) ?_
      unfold sB
      split
      · exact bts_nil
      · exact vb_isb _
    · rw [va_up_ne _ _ hit]; exact r8 i hi
  have h5 := h5'
  have F' : fm [10, 18, 38] [3, 4, 7, 8, 9, 15, 16, 17, 24] M Mh := F.wd (by decide) (by decide)
  refine ⟨0, S8, Mh, ?_, ?_, ⟨va_up bf' t (bf' t ++ (vb (nI pl.length) ++ pl)), ch, (by rw [F.1 7 (by decide), F.1 29 (by decide), F.1 3 (by decide)]; exact h1.k S08 (by intro w; rcases w with ⟨w1, w2⟩ | ⟨w1, w2⟩ | ⟨w1, w2⟩ <;> omega)), ?g_txt, ?g_str, ?g_ths, h5.k S08 (fun q z1 z2 w => by rcases w with ⟨w1, w2⟩ | ⟨w1, w2⟩ | ⟨w1, w2⟩ <;> omega) F (by decide) (by decide) (by decide), h6.k S08 (fun q z1 z2 w => by rcases w with ⟨w1, w2⟩ | ⟨w1, w2⟩ | ⟨w1, w2⟩ <;> omega) F (by decide) (by decide) (by decide) (by decide) (by decide) (by decide), ?g_pool, ?g_chs, ?g_pay, h10.k S08 (fun q z1 z2 w => by rcases w with ⟨w1, w2⟩ | ⟨w1, w2⟩ | ⟨w1, w2⟩ <;> omega) F (by decide) (by decide), ?g_mod, h12.k F (by decide), h13⟩, F', S08.wd (fun q w => by rcases w with w | w | w <;> constructor <;> omega)⟩
  · rw [r1]
    dsimp only
    rw [if_pos (show ¬ (1 : Int32) = 0 by decide)]
    simp only [v_q _ th4.1, th_buf th4, gr_q (k := 11) g4 rfl, hP, v_q _ p4.1, br_length p4, v_q _ r3.1, e5, Option.bind_some, v_q _ th5.1, th_buf th5, gr_q (k := 11) g5 rfl, v_q _ b5.1, e6, gr_q (k := 10) g6 rfl, v_q _ cs6.1, cs_open cs6 hkp (by omega), v_q _ hc6.1, e7']
    exact e8
  · unfold pf_X9_commit_349
    simp only [mm_pf, Option.bind_some, hMz, ea, eb, ec, i3, ed, ee, ef, eg, eh]
  case g_txt => rw [F.2 0 (by decide)]; exact tx8
  case g_str => exact ⟨ns', i10, by rw [i3', i4']; exact st8, by rw [i3', i4']; exact K8⟩
  case g_ths =>
    refine g_ths.set (bf := bf) (t := t) (f := f) h4 S08 (fun q z1 z2 z3 w => by rcases w with ⟨w1, w2⟩ | ⟨w1, w2⟩ | ⟨w1, w2⟩ <;> omega) ht ?_ (fun i hi => ?_) (fun u hu hut => ⟨?_, ?_, ?_, ?_, fun i hi => ?_⟩)
    · rw [F.2 5 (by decide), F.2 16 (by decide), F.2 17 (by decide), va_up_self, ← List.append_assoc]; exact th8
    · rw [F.2 6 (by decide)]; exact q2 i hi
    · rw [F.2 5 (by decide)]
    · rw [F.2 16 (by decide)]
    · rw [F.2 17 (by decide)]
    · rw [va_up_ne _ _ hut]; exact r9 u hu hut
    · rw [F.2 6 (by decide)]
  case g_pool =>
    refine ⟨fi, fu', pb', po8, i18, r5, hfi, fun k hk => ?_, r7, fun i z1 z2 => ?_⟩
    · rw [va_up_ne _ _ (by omega)]; exact r6 k hk
    · rw [va_up_ne _ _ (by omega), o2, pk_un (by omega)]; exact x4 i z1 z2
  case g_chs =>
    refine ⟨kp, ad, L, X, Y, _, _, by rw [F.1 20 (by decide)]; exact cs8, (F.1 19 (by decide)).trans e19, hkp, fun i hi => ?_, hL, ?_, ?_, ?_, fun s hs => ?_⟩
    · rw [va_up_ne _ _ (show i ≠ kp by omega), va_up_ne _ _ (show i ≠ kp by omega), F.2 12 (by decide), F.2 13 (by decide), F.2 14 (by decide), i15, v15' i (by omega), fe.2 15 (by decide)]
      obtain ⟨d1, d2, d3, d4, d5⟩ := hold i hi
      exact ⟨d1, d2, d3, d4, fun s hs => ⟨(d5 s hs).1, hgrow _ _ (d5 s hs).2⟩⟩
    · rw [F.2 12 (by decide)]; exact hX
    · rw [F.2 13 (by decide)]; exact hY
    · rw [va_up_self, F.2 14 (by decide), hsum, hZ, Int32.add_assoc]
    · rw [va_up_self, i15]
      refine ⟨v15 s hs, ?_⟩
      rcases hu8 s with w | w
      · rw [w]; exact hgrow _ _ (hU s hs).2
      · exact Or.inr ⟨ns', i10, w, K8.1⟩
  case g_pay => exact ⟨pl, by rw [hP]; exact p8⟩
  case g_mod =>
    refine ⟨o1, fun i hi => ?_, ⟨(F.1 0 (by decide)).trans m0, (F.1 1 (by decide)).trans m1, (F.1 2 (by decide)).trans m2⟩, fun i hi => (hbb2 i hi).1, ⟨u1, u2, u3, u4, u5, hkc⟩, fun i hi => (hbb2 i hi).2, ⟨fun k hk => hcb.1 k ((F.1 19 (by decide)).symm.trans hk), hcb.2⟩, fun u hu => ?_⟩
    · obtain ⟨r1, r2, r3⟩ := hD i hi
      exact ⟨by rw [F.2 11 (by decide)]; exact r1, r2, by rw [F.2 10 (by decide)]; exact r3⟩
    · obtain ⟨m, r1, r2⟩ := hlo u hu
      exact ⟨m, by omega, by rw [F.2 16 (by decide)]; exact r2⟩
end COM
