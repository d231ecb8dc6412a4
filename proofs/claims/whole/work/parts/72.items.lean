/-! items are carried out -/
section ITM
variable {G : Nat → ClassId} {N b p kl sz kc n e : Nat} {S : mw_M} {M : mm_M}
theorem RC.rc {S' : mw_M} {M' : mm_M} {r : Nat} (h : RC G b p kl sz kc n S M) (hs : sm_p (st_X (b + 22 + 3 * r)) S S') (hf : fm [] [19, 20] M M') (h19 : ∀ u t, u < 4 → u ≠ r → t < 6 → M'.2 19 (6 * u + t) = M.2 19 (6 * u + t) ∧ M'.2 20 (6 * u + t) = M.2 20 (6 * u + t)) (hr : r < 4) (hrc : g_rc G S' b M' r) : RC G b p kl sz kc n S' M' := by
  obtain ⟨bf, ch, h1, h2, h3, h4, h5, h6, h7, h8, h9, h10, h11, h12, h13⟩ := h
  have hs1 : sm_p (fun q => b + 22 + 3 * r ≤ q ∧ q < b + 25 + 3 * r) S S' := hs.wd (fun q hq => by rcases hq with z | z | z <;> constructor <;> omega)
  refine ⟨bf, ch, (by rw [hf.1 7 (by decide), hf.1 29 (by decide), hf.1 3 (by decide)]; exact h1.k hs1 (by intro w; obtain ⟨w1, w2⟩ := w; omega)), ?g_txt, h3.k hs1 (fun q z1 z2 w => by obtain ⟨w1, w2⟩ := w; omega) hf (by decide) (by decide) (by decide), h4.k hs1 (fun q z1 z2 w => by obtain ⟨w1, w2⟩ := w; omega) hf (by decide) (by decide) (by decide) (by decide), h5.k hs1 (fun q z1 z2 w => by obtain ⟨w1, w2⟩ := w; omega) hf (by decide) (by decide) (by decide), ?g_rec, h7.k hs1 (fun q z1 z2 w => by obtain ⟨w1, w2⟩ := w; omega) hf (by decide) (by decide), h8.k hs1 (fun q z1 z2 w => by obtain ⟨w1, w2⟩ := w; omega) hf (by decide) (by decide) (by decide) (by decide) (by decide) (by decide) (by decide) (by decide), h9.k hs1 (fun q z1 z2 w => by obtain ⟨w1, w2⟩ := w; omega), h10.k hs1 (fun q z1 z2 w => by obtain ⟨w1, w2⟩ := w; omega) hf (by decide) (by decide), h11.k hf (by decide) (by decide) (by decide) (by decide) (by decide) (by decide) (by decide) (by decide) (by decide), h12.k hf (by decide), h13⟩
  case g_txt => rw [hf.2 0 (by decide)]; exact h2.sm hs1 (by intro w; omega) (by intro w; omega)
  case g_rec =>
    obtain ⟨e1, ⟨nr, e2, e3⟩, e4⟩ := h6
    refine ⟨e1.sm hs1 (by rintro ⟨w1, w2⟩; omega), ⟨nr, e2, (hf.1 29 (by simp)).trans e3⟩, fun u hu => ?_⟩
    by_cases hur : u = r
    · subst hur; exact hrc
    · exact (e4 u hu).k hs1 (fun q z1 z2 w => by obtain ⟨w1, w2⟩ := w; omega) (by rw [hf.2 18 (by decide)]) (fun t ht => h19 u t hu hur ht) (by rw [hf.2 21 (by decide)]) (by rw [hf.2 22 (by decide)])
theorem ie_y {f : Nat → Int32} {x29 x3 : Int32} {k q nt : Nat} (h1 : g_main S b p kl sz (nI nt) x29 x3) (h7 : M.1 7 = nI nt) (hnt : nt ≤ 6) (hf : M.2 0 = f) (ht : tx_R G S (b + 1) n f) (he : e ≤ n) (hb : e = n ∨ f e = 124) (hit : IT f nt e k q) (h5 : q ≤ k + 5) (hN : 700 ≤ N) : pf_X8_itemEnd G N S b (nI k) = some (nI q, S) ∧ pf_X9_itemEnd G N M (nI k) (nI e) = some (nI q, M) := by
  have hn := ht.2.2.1
  have e1 : nI k + 1 = nI (k + 1) := nI_1 k
  have e2 : nI k + 2 = nI (k + 2) := by rw [show (2 : Int32) = nI 2 from rfl, nI_add]
  obtain ⟨hd, ⟨d, hdn, d2⟩, hk1, hc, q1, q2, q3, q4⟩ := hit
  have d3 : f k - 48 = nI d := by rw [d2, show (48 : Int32) = nI 48 from rfl, nI_sb (by omega), show 48 + d - 48 = d by omega]
  unfold pf_X8_itemEnd pf_X9_itemEnd
  simp only [gr_q (k := 1) h1 rfl, Option.bind_some, v_q _ ht.1, tx_dig ht, mw_b2, v_q _ h1]
  rw [td_1 hn he hd, (md_dig hf (by omega) (by omega)).1 hd, d3, isTy_in h1 hdn hnt]
  dsimp only
  rw [if_neg (show ¬ (1 : Int32) = 0 by decide), if_pos (show ¬ (1 : Int32) = 0 by decide)]
  simp only [gr_q (k := 1) h1 rfl, v_q _ ht.1, tx_at ht, aim (M := M) (k := 0) (j := k) (show k < 40 by omega) (by decide), Option.bind_some, hf, d3, h7, e1, e2, tc_in (show k + 1 < n by omega) (show n < 2 ^ 31 by omega)]
  rw [if_neg (nI_ge hdn (by omega)), if_neg (nI_ge hk1 (by omega))]
  simp only [aim (M := M) (k := 0) (j := k + 1) (show k + 1 < 40 by omega) (by decide), Option.bind_some, hf]
  have r1 := ie_51 (N := N) h1 ht he hb q2 q3 q4 N 0 (by omega) (by omega) (by omega)
  have r2 := ie_64 (G := G) (N := N) (M := M) hf (show e ≤ 40 by omega) q2 q3 q4 N (k + 2) (Nat.le_refl _) q1 (by omega)
  rw [Nat.min_eq_left h5] at r1
  rw [if_pos h5] at r2
  have r1' : pf_X8_itemEnd_51 G N N b (nI k) 0 S = some (nI q, S) := r1
  by_cases c1 : f (k + 1) = 43
  · rw [if_pos c1, if_pos c1, r1', r2]; exact ⟨rfl, rfl⟩
  · rw [if_neg c1, if_neg c1, if_pos (hc.resolve_left c1), if_pos (hc.resolve_left c1), r1', r2]; exact ⟨rfl, rfl⟩
/-- the number of an item -/
theorem num_l {f : Nat → Int32} {x7 x29 x3 : Int32} {k q A d : Nat} (h1 : g_main S b p kl sz x7 x29 x3) (ht : tx_R G S (b + 1) n f) (hf : M.2 0 = f) (he : e ≤ n) (hq : q ≤ e) (hr : ∀ i, k + 2 ≤ i → i < q → dgp f e i) (y1 y3 : Int32) : ∀ m j (y : Int32), k + 2 ≤ j → j ≤ q → q - j < m → ∃ v, pf_X8_applyItem_44 G N m b A (nI k) (nI q) (nI d) y (nI j) S = (if q = k + 2 then some S else (mw_v S A 5 (pf_X5_limit G N S A (nI d) v)).bind fun S1 => some S1) ∧ ∀ K : Int32 → Int32 → Int32 → mm_M → Option mm_M, pf_X9_set_70 G N K m y1 y3 (nI k) (nI d) (nI q) y (nI j) M = (if q = k + 2 then (mm_ai M 20 ((6 * y1) + nI d)).bind fun v1 => pf_X9_set_138 G N K y1 y3 (nI q) ((6 * y1) + nI d) v1 M else pf_X9_set_138 G N K y1 y3 (nI q) ((6 * y1) + nI d) v M) := by
  have hn := ht.2.2.1
  have e2 : nI k + 2 = nI (k + 2) := by rw [show (2 : Int32) = nI 2 from rfl, nI_add]
  intro m
  induction m with
  | zero => intro j y _ _ h; exact absurd h (Nat.not_lt_zero _)
  | succ m ih =>
    intro j y hj hjq hm
    rw [pf_X8_applyItem_44]
    by_cases hlt : j < q
    · rw [if_neg (nI_ge hlt (by omega))]
      simp only [gr_q (k := 1) h1 rfl, Option.bind_some, v_q _ ht.1, tx_dig ht, mw_b2, nI_1]
      rw [td_1 hn he (hr j hj hlt)]
      obtain ⟨v, w1, w2⟩ := ih (j + 1) (10 * y + (f j - 48)) (by omega) (by omega) (by omega)
      refine ⟨v, w1, fun K => ?_⟩
      rw [pf_X9_set_70, if_neg (nI_ge hlt (by omega))]
      simp only [Option.bind_some, aim (M := M) (k := 0) (j := j) (show j < 40 by omega) (by decide), hf, nI_1]
      have : (10 * y + f j) - 48 = 10 * y + (f j - 48) := by rw [Int32.sub_eq_add_neg, Int32.sub_eq_add_neg, Int32.add_assoc]
      rw [this]
      exact w2 K
    · have : j = q := by omega
      subst this
      refine ⟨y, ?_, fun K => ?_⟩
      · rw [if_pos (Int32.le_refl _), e2]
        by_cases h2 : j = k + 2
        · rw [if_pos h2, if_pos (nI_le (by omega) (by omega))]
        · rw [if_neg h2, if_neg (nI_ge (by omega) (by omega))]
      · rw [pf_X9_set_70, if_pos (Int32.le_refl _), e2]
        by_cases h2 : j = k + 2
        · rw [if_pos h2, if_pos (nI_le (by omega) (by omega))]
        · rw [if_neg h2, if_neg (nI_ge (by omega) (by omega))]
/-- one item -/
theorem it_ap {r k q nt : Nat} (h : RC G b p kl sz kc n S M) (hr : r < 4) (h7 : M.1 7 = nI nt) (hnt : nt ≤ 6) (he : e ≤ n) (hb : e = n ∨ M.2 0 e = 124) (hit : IT (M.2 0) nt e k q) (h5 : q ≤ k + 5) (hN : 700 ≤ N) : ∃ S' M', pf_X8_applyItem G N S b (b + 22 + 3 * r) (nI k) (nI q) = some S' ∧ (∀ m, pf_X9_set_3 G N (m + 1) (nI r) (nI e) (nI k) M = pf_X9_set_3 G N m (nI r) (nI e) (nI (q + 1)) M') ∧ RC G b p kl sz kc n S' M' ∧ fm [] [19, 20] M M' ∧ sm_p (st_X (b + 22 + 3 * r)) S S' := by
  have h0 := h
  obtain ⟨bf, ch, h1, h2, h3, h4, h5', h6, h7', h8, h9, h10, h11, h12, h13⟩ := h
  have hn := h2.2.2.1
  have h1' := h1
  rw [h7] at h1'
  have hie := ie_y (N := N) h1' h7 hnt rfl h2 he hb hit h5 hN
  have hit' := hit
  obtain ⟨hd, ⟨d, hdn, d2⟩, hk1, hc, q1, q2, q3, q4⟩ := hit
  have d3 : M.2 0 k - 48 = nI d := by rw [d2, show (48 : Int32) = nI 48 from rfl, nI_sb (by omega), show 48 + d - 48 = d by omega]
  have e1 : nI k + 1 = nI (k + 1) := nI_1 k
  have e2 : nI k + 2 = nI (k + 2) := by rw [show (2 : Int32) = nI 2 from rfl, nI_add]
  obtain ⟨la, f, g, r1, r2, r3, r4, r5⟩ := h6.2.2 r hr
  -- w: on or off
  obtain ⟨w, o, hw1, hw2, hwo, hob⟩ : ∃ w o : Int32, (if ¬ M.2 0 (k + 1) = 43 then (0 : Int32) else 1) = w ∧ (if ¬ M.2 0 (k + 1) = 45 then (0 : Int32) else 1) = o ∧ (if w = 0 then (1 : Int32) else 0) = o ∧ vp_nar .boolean o = o := by
    rcases hc with c | c
    · refine ⟨1, 0, ?_, ?_, ?_, z0⟩
      · rw [if_neg (fun z => z c)]
      · rw [if_pos (by rw [c]; decide)]
      · rw [if_neg (by decide)]
    · refine ⟨0, 1, ?_, ?_, ?_, z1⟩
      · rw [if_pos (by rw [c]; decide)]
      · rw [if_neg (fun z => z c)]
      · rw [if_pos rfl]
  obtain ⟨S1, t1, t2, t3⟩ := rec_turn (N := N) r1 (show d < 6 by omega) w
  rw [hwo] at t2
  have g1 := h1.k t3 (by intro w; rcases w with w | w | w <;> omega)
  have tx1 := h2.sm t3 (by intro w; rcases w with w | w | w <;> omega) (by intro w; rcases w with w | w | w <;> omega)
  generalize hM1 : ((M.1, va_up M.2 19 (upd (M.2 19) (6 * r + d) o)) : mm_M) = M1
  have f1 : fm [] [19, 20] M M1 := by rw [← hM1]; exact (fm.rf [] [19, 20] M).si (k := 19) (by decide) _
  have hx19 : M1.2 19 = upd (M.2 19) (6 * r + d) o := by rw [← hM1]; rfl
  have hx20 : M1.2 20 = M.2 20 := by rw [← hM1]; rfl
  -- what both do behind the switch
  obtain ⟨v, hv1, hv2⟩ := num_l (N := N) (M := M1) (A := b + 22 + 3 * r) (d := d) g1 tx1 (f1.2 0 (by decide)) he q2 q3 (nI r) (nI e) N (k + 2) 0 (Nat.le_refl _) q1 (by omega)
  have hcls : ∀ S', (if q = k + 2 then some S1 else (mw_v S1 (b + 22 + 3 * r) 5 (pf_X5_limit G N S1 (b + 22 + 3 * r) (nI d) v)).bind fun S1 => some S1) = some S' → pf_X8_applyItem G N S b (b + 22 + 3 * r) (nI k) (nI q) = some S' := by
    intro S' a1
    unfold pf_X8_applyItem
    simp only [gr_q (k := 1) h1 rfl, Option.bind_some, v_q _ h2.1, tx_dig h2, tx_at h2, mw_b2, e1, tc_in (show k + 1 < n by omega) (show n < 2 ^ 31 by omega), td_1 hn he hd, d3]
    have : (if ¬ M.2 0 (k + 1) = 43 then pf_X8_applyItem_33 G N b (b + 22 + 3 * r) (nI k) (nI q) (nI d) (b + 22 + 3 * r) (nI d) 0 S else pf_X8_applyItem_33 G N b (b + 22 + 3 * r) (nI k) (nI q) (nI d) (b + 22 + 3 * r) (nI d) 1 S) = pf_X8_applyItem_33 G N b (b + 22 + 3 * r) (nI k) (nI q) (nI d) (b + 22 + 3 * r) (nI d) w S := by
      rw [← hw1]
      split <;> rfl
    rw [this, pf_X8_applyItem_33]
    simp only [v_q _ r1.1, t1, Option.bind_some, e2]
    rw [hv1, a1]
  have hmdl : ∀ (m : Nat) (M' : mm_M), (pf_X9_set_70 G N (pf_X9_set_3 G N m) N (nI r) (nI e) (nI k) (nI d) (nI q) 0 (nI (k + 2)) M1 = pf_X9_set_3 G N m (nI r) (nI e) (nI (q + 1)) M') → pf_X9_set_3 G N (m + 1) (nI r) (nI e) (nI k) M = pf_X9_set_3 G N m (nI r) (nI e) (nI (q + 1)) M' := by
    intro m M' a1
    rw [pf_X9_set_3, if_neg (nI_ge hd.1 (by omega))]
    simp only [aim (M := M) (k := 0) (j := k) (show k < 40 by omega) (by decide), Option.bind_some, hie.2, mw_b2, e1, aim (M := M) (k := 0) (j := k + 1) (show k + 1 < 40 by omega) (by decide), d3, i6k]
    have : (if ¬ M.2 0 (k + 1) = 45 then pf_X9_set_60 G N (pf_X9_set_3 G N m) (nI r) (nI e) (nI k) (nI d) (nI q) (nI (6 * r + d)) 0 M else pf_X9_set_60 G N (pf_X9_set_3 G N m) (nI r) (nI e) (nI k) (nI d) (nI q) (nI (6 * r + d)) 1 M) = pf_X9_set_60 G N (pf_X9_set_3 G N m) (nI r) (nI e) (nI k) (nI d) (nI q) (nI (6 * r + d)) o M := by
      rw [← hw2]
      split <;> rfl
    rw [this, pf_X9_set_60, hob]
    simp only [sim (M := M) (k := 19) (j := 6 * r + d) _ (show 6 * r + d < 24 by omega) (by decide), Option.bind_some, e2, hM1]
    exact a1
  have hother : ∀ (x : Int32) (F : Nat → Int32) (u t : Nat), u < 4 → u ≠ r → t < 6 → upd F (6 * r + d) x (6 * u + t) = F (6 * u + t) := fun x F u t a1 a2 a3 => pk_un (by omega)
  by_cases h2q : q = k + 2
  · -- no number
    generalize hM2 : ((M1.1, va_up M1.2 20 (upd (M1.2 20) (6 * r + d) (M1.2 20 (6 * r + d)))) : mm_M) = M2
    have f2 : fm [] [19, 20] M M2 := by rw [← hM2]; exact f1.si (k := 20) (by decide) _
    have y19 : M2.2 19 = upd (M.2 19) (6 * r + d) o := by rw [← hM2]; exact hx19
    have y20 : ∀ i, M2.2 20 i = M.2 20 i := fun i => by
      rw [← hM2]
      show upd (M1.2 20) (6 * r + d) (M1.2 20 (6 * r + d)) i = _
      by_cases hi : i = 6 * r + d
      · subst hi; rw [pk_us, hx20]
      · rw [pk_un hi, hx20]
    refine ⟨S1, M2, ?_, fun m => ?_, h0.rc t3 f2 (fun u t a1 a2 a3 => ⟨by rw [y19]; exact hother _ _ u t a1 a2 a3, y20 _⟩) hr ?_, f2, t3⟩
    · exact hcls S1 (by rw [if_pos h2q])
    · refine hmdl m M2 ?_
      rw [hv2, if_pos h2q, i6k]
      simp only [aim (M := M1) (k := 20) (j := 6 * r + d) (show 6 * r + d < 24 by omega) (by decide), Option.bind_some, pf_X9_set_138, sim (M := M1) (k := 20) (j := 6 * r + d) _ (show 6 * r + d < 24 by omega) (by decide), nI_1, hM2]
    · refine ⟨la, upd f d o, g, ?_, fun t ht => ⟨?_, ?_⟩, ?_, ?_, ?_⟩
      · rw [f2.2 18 (by decide), f2.2 21 (by decide)]; exact t2
      · rw [y19]
        by_cases htd : t = d
        · subst htd; rw [pk_us, pk_us]
        · rw [pk_un htd, pk_un (by omega)]; exact (r2 t ht).1
      · rw [y20]; exact (r2 t ht).2
      · rw [f2.2 18 (by decide)]; exact r3
      · rw [f2.2 18 (by decide), f2.2 22 (by decide)]; exact r4
      · rw [f2.2 18 (by decide)]; exact r5
  · -- with a number
    obtain ⟨S2, l1, l2, l3⟩ := rec_limit (N := N) t2 (show d < 6 by omega) v
    have s02 := t3.tr l3
    generalize hM2 : ((M1.1, va_up M1.2 20 (upd (M1.2 20) (6 * r + d) v)) : mm_M) = M2
    have f2 : fm [] [19, 20] M M2 := by rw [← hM2]; exact f1.si (k := 20) (by decide) _
    have y19 : M2.2 19 = upd (M.2 19) (6 * r + d) o := by rw [← hM2]; exact hx19
    have y20 : M2.2 20 = upd (M.2 20) (6 * r + d) v := by
      rw [← hM2, ← hx20]; rfl
    refine ⟨S2, M2, ?_, fun m => ?_, h0.rc s02 f2 (fun u t a1 a2 a3 => ⟨by rw [y19]; exact hother _ _ u t a1 a2 a3, by rw [y20]; exact hother _ _ u t a1 a2 a3⟩) hr ?_, f2, s02⟩
    · refine hcls S2 ?_
      rw [if_neg h2q]
      simp only [v_q _ t2.1, l1, Option.bind_some]
    · refine hmdl m M2 ?_
      rw [hv2, if_neg h2q, i6k]
      simp only [Option.bind_some, pf_X9_set_138, sim (M := M1) (k := 20) (j := 6 * r + d) _ (show 6 * r + d < 24 by omega) (by decide), nI_1, hM2]
    · refine ⟨la, upd f d o, upd g d v, ?_, fun t ht => ⟨?_, ?_⟩, ?_, ?_, ?_⟩
      · rw [f2.2 18 (by decide), f2.2 21 (by decide)]; exact l2
      · rw [y19]
        by_cases htd : t = d
        · subst htd; rw [pk_us, pk_us]
        · rw [pk_un htd, pk_un (by omega)]; exact (r2 t ht).1
      · rw [y20]
        by_cases htd : t = d
        · subst htd; rw [pk_us, pk_us]
        · rw [pk_un htd, pk_un (by omega)]; exact (r2 t ht).2
      · rw [f2.2 18 (by decide)]; exact r3
      · rw [f2.2 18 (by decide), f2.2 22 (by decide)]; exact r4
      · rw [f2.2 18 (by decide)]; exact r5
/-- all items of a list -/
theorem ap_l {r nt : Nat} (hr : r < 4) (hnt : nt ≤ 6) (he : e ≤ n) (hN : 700 ≤ N) : ∀ (c m j k : Nat) (S : mw_M) (M : mm_M), RC G b p kl sz kc n S M → M.1 7 = nI nt → (e = n ∨ M.2 0 e = 124) → VL (M.2 0) nt e c k → c < m → j + c < 100 → ∃ S' M', pf_X8_applyItems_6 G N m b (b + 22 + 3 * r) (nI (j + c)) (nI k) (nI j) S = some S' ∧ pf_X9_set_3 G N m (nI r) (nI e) (nI k) M = some M' ∧ RC G b p kl sz kc n S' M' ∧ fm [] [19, 20] M M' ∧ sm_p (cl_X b p kl) S S' := by
  intro c
  induction c with
  | zero => intro m j k S M _ _ _ h; exact absurd h (fun z => z)
  | succ c ih =>
    intro m j k S M h h7 hb hv hm hj
    obtain ⟨m, rfl⟩ : ∃ m', m = m' + 1 := ⟨m - 1, by omega⟩
    obtain ⟨q, hit, h5, hor⟩ := hv
    obtain ⟨S1, M1, a1, a2, a3, a4, a5⟩ := it_ap (N := N) h hr h7 hnt he hb hit h5 hN
    have h' := h
    obtain ⟨bf, ch, h1, h2, -⟩ := h'
    have hn := h2.2.2.1
    have h1' := h1
    rw [h7] at h1'
    have hie := ie_y (N := N) h1' h7 hnt rfl h2 he hb hit h5 hN
    have g1 := h1.k a5 (by intro w; rcases w with w | w | w <;> omega)
    have hcl := st_cl (p := p) (kl := kl) hr a5
    obtain ⟨i1, i2, i3, i4, i5, i6, i7, i8⟩ := hit
    rw [pf_X8_applyItems_6, if_neg (nI_ge (by omega) (by omega)), a2 m]
    simp only [v_q _ h1, hie.1, mw_b2, a1, Option.bind_some, nI_1]
    have z0 : M1.2 0 = M.2 0 := a4.2 0 (by decide)
    rcases hor with ⟨c0, hqe⟩ | ⟨hqe, h44, hv⟩
    · subst c0
      obtain ⟨m, rfl⟩ : ∃ m', m = m' + 1 := ⟨m - 1, by omega⟩
      rw [pf_X8_applyItems_6, if_pos (show nI (j + (0 + 1)) ≤ nI (j + 1) from Int32.le_refl _), pf_X9_set_3, if_pos (nI_le (by omega) (by omega))]
      exact ⟨S1, M1, rfl, rfl, a3, a4, hcl⟩
    · obtain ⟨S2, M2, b1, b2, b3, b4, b5⟩ := ih m (j + 1) (q + 1) S1 M1 a3 ((a4.1 7 (by simp)).trans h7) (by rw [z0]; exact hb) (by rw [z0]; exact hv) (by omega) (by omega)
      rw [show j + 1 + c = j + (c + 1) by omega] at b1
      exact ⟨S2, M2, b1, b2, b3, a4.tr b4, hcl.tr b5⟩
end ITM
