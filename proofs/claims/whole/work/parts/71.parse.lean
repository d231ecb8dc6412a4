/-! the language of settings -/
def dgp (f : Nat → Int32) (e k : Nat) : Prop := k < e ∧ ¬ f k < 48 ∧ ¬ 57 < f k
def IT (f : Nat → Int32) (nt e k q : Nat) : Prop := dgp f e k ∧ (∃ d, d < nt ∧ f k = nI (48 + d)) ∧ k + 1 < e ∧ (f (k + 1) = 43 ∨ f (k + 1) = 45) ∧ k + 2 ≤ q ∧ q ≤ e ∧ (∀ i, k + 2 ≤ i → i < q → dgp f e i) ∧ ¬ dgp f e q
theorem dg_run (f : Nat → Int32) (e : Nat) : ∀ m p, p ≤ e → e - p ≤ m → ∃ q, p ≤ q ∧ q ≤ e ∧ (∀ i, p ≤ i → i < q → dgp f e i) ∧ ¬ dgp f e q := by
  intro m
  induction m with
  | zero => intro p h1 h2; exact ⟨p, Nat.le_refl _, h1, fun i w1 w2 => by omega, fun w => by have := w.1; omega⟩
  | succ m ih =>
    intro p h1 h2
    by_cases hd : dgp f e p
    · obtain ⟨q, q1, q2, q3, q4⟩ := ih (p + 1) hd.1 (by omega)
      refine ⟨q, by omega, q2, fun i w1 w2 => ?_, q4⟩
      by_cases hi : i = p
      · subst hi; exact hd
      · exact q3 i (by omega) w2
    · exact ⟨p, Nat.le_refl _, h1, fun i w1 w2 => by omega, hd⟩
section PRS
variable {G : Nat → ClassId} {N b p kl sz kc n e : Nat} {S : mw_M} {M : mm_M} {f : Nat → Int32}
theorem td_1 {k : Nat} (hn : n ≤ 40) (he : e ≤ n) (hk : dgp f e k) : td n f (nI k) = f k - 48 := by
  obtain ⟨h1, h2, h3⟩ := hk
  unfold td
  rw [tc_in (by omega) (by omega), if_neg h2, if_neg h3]
theorem td_0 {k : Nat} (hn : n ≤ 40) (he : e ≤ n) (hb : e = n ∨ f e = 124) (hk : k ≤ e) (hd : ¬ dgp f e k) : td n f (nI k) = -1 := by
  unfold td
  by_cases hke : k = e
  · subst hke
    rcases Nat.lt_or_ge k n with h | h
    · have h124 : f k = 124 := hb.resolve_left (by omega)
      rw [tc_in h (by omega), h124, if_neg (by decide), if_pos (by decide)]
    · rw [tc_out h (by omega), if_pos (by decide)]
  · rw [tc_in (by omega) (by omega)]
    by_cases h48 : f k < 48
    · rw [if_pos h48]
    · rw [if_neg h48, if_pos (Classical.not_not.mp (fun z => hd ⟨by omega, h48, z⟩))]
theorem dg_val {k : Nat} (hok : okc (f k)) (h : dgp f e k) : ∃ d, d < 10 ∧ f k = nI (48 + d) ∧ f k - 48 = nI d := by
  obtain ⟨c, c1, c2, c3⟩ := hok
  obtain ⟨h1, h2, h3⟩ := h
  rw [c3] at h2 h3
  have a1 : 48 ≤ c := by
    rcases Nat.lt_or_ge c 48 with w | w
    · exact absurd (nI_lt (b := 48) w (by decide)) h2
    · exact w
  have a2 : c ≤ 57 := by
    rcases Nat.lt_or_ge 57 c with w | w
    · exact absurd (nI_lt (a := 57) w (by omega)) h3
    · exact w
  refine ⟨c - 48, by omega, by rw [c3, show 48 + (c - 48) = c by omega], ?_⟩
  rw [c3, show (48 : Int32) = nI 48 from rfl, nI_sb a1]
theorem nI_m1 {d : Nat} (h : d < 100) : ¬ nI d = -1 := by
  have : ∀ d, d < 100 → nI d ≠ -1 := by decide
  exact this d h
theorem md_dig {k : Nat} (hf : M.2 0 = f) (he : e ≤ 40) (hk : k < 100) : (dgp f e k → pf_X9_digit G N M (nI k) (nI e) = some (1, M)) ∧ (¬ dgp f e k → pf_X9_digit G N M (nI k) (nI e) = some (0, M)) := by
  unfold pf_X9_digit
  by_cases hke : k < e
  · rw [if_neg (nI_ge hke (by omega))]
    simp only [aim (M := M) (k := 0) (j := k) (show k < 40 by omega) (by decide), Option.bind_some, hf, if_pos z0, if_pos z1]
    refine ⟨fun h => by rw [if_neg h.2.1, if_neg h.2.2], fun h => ?_⟩
    by_cases h48 : f k < 48
    · rw [if_pos h48]
    · rw [if_neg h48, if_pos (Classical.not_not.mp (fun z => h ⟨hke, h48, z⟩))]
  · rw [if_pos (nI_le (by omega) (by omega)), if_pos z0]
    exact ⟨fun h => absurd h.1 hke, fun _ => rfl⟩
theorem ie_51 {x7 x29 x3 : Int32} {k q : Nat} (h1 : g_main S b p kl sz x7 x29 x3) (ht : tx_R G S (b + 1) n f) (he : e ≤ n) (hb : e = n ∨ f e = 124) (hq : q ≤ e) (hr : ∀ i, k + 2 ≤ i → i < q → dgp f e i) (hq2 : ¬ dgp f e q) : ∀ m j, j ≤ 3 → 3 - j < m → k + 2 + j ≤ q → pf_X8_itemEnd_51 G N m b (nI k) (nI j) S = some (nI (min q (k + 5)), S) := by
  have hn := ht.2.2.1
  intro m
  induction m with
  | zero => intro j _ h; exact absurd h (Nat.not_lt_zero _)
  | succ m ih =>
    intro j hj hm hjq
    have e2 : nI k + 2 + nI j = nI (k + 2 + j) := by rw [show (2 : Int32) = nI 2 from rfl, nI_add, nI_add]
    rw [pf_X8_itemEnd_51]
    by_cases h3 : j = 3
    · subst h3
      rw [if_pos (show (3 : Int32) ≤ nI 3 by decide), pf_X8_itemEnd_78, e2, Nat.min_eq_right (by omega)]
    · rw [if_neg (show ¬ (3 : Int32) ≤ nI j from nI_ge (b := 3) (by omega) (by decide))]
      simp only [gr_q (k := 1) h1 rfl, Option.bind_some, v_q _ ht.1, tx_dig ht, mw_b2, e2]
      by_cases hlt : k + 2 + j < q
      · have hd := hr (k + 2 + j) (by omega) hlt
        obtain ⟨d, d1, d2, d3⟩ := dg_val (ht.2.2.2 _ (by omega)) hd
        rw [td_1 hn he hd, d3, if_neg (nI_m1 (by omega)), nI_1]
        exact ih (j + 1) (by omega) (by omega) (by omega)
      · have hqe : k + 2 + j = q := by omega
        rw [td_0 hn he hb (by omega) (by rw [hqe]; exact hq2), if_pos rfl, pf_X8_itemEnd_78, e2, hqe, Nat.min_eq_left (by omega)]
theorem ie_64 {k q : Nat} (hf : M.2 0 = f) (he : e ≤ 40) (hq : q ≤ e) (hr : ∀ i, k + 2 ≤ i → i < q → dgp f e i) (hq2 : ¬ dgp f e q) : ∀ m j, k + 2 ≤ j → j ≤ q → q - j < m → pf_X9_itemEnd_64 G N m (nI k) (nI e) (nI j) M = some (if q ≤ k + 5 then nI q else -1, M) := by
  intro m
  induction m with
  | zero => intro j _ _ h; exact absurd h (Nat.not_lt_zero _)
  | succ m ih =>
    intro j hj hjq hm
    rw [pf_X9_itemEnd_64]
    by_cases hlt : j < q
    · rw [(md_dig hf he (by omega)).1 (hr j hj hlt)]
      simp only [mw_b2, nI_1]
      rw [if_neg (show ¬ (1 : Int32) = 0 by decide)]
      exact ih (j + 1) (by omega) (by omega) (by omega)
    · have hqe : j = q := by omega
      subst hqe
      rw [(md_dig hf he (by omega)).2 hq2]
      simp only [mw_b2]
      rw [if_pos trivial]
      by_cases h5 : j ≤ k + 5
      · rw [if_pos (show nI j ≤ nI k + 5 by rw [show (5 : Int32) = nI 5 from rfl, nI_add]; exact nI_le h5 (by omega)), if_pos h5]
      · rw [if_neg (show ¬ nI j ≤ nI k + 5 by rw [show (5 : Int32) = nI 5 from rfl, nI_add]; exact nI_ge (by omega) (by omega)), if_neg h5]
/-- an item, or none: both sides -/
theorem ie_c {x29 x3 : Int32} {k nt : Nat} (h1 : g_main S b p kl sz (nI nt) x29 x3) (h7 : M.1 7 = nI nt) (hnt : nt ≤ 6) (hf : M.2 0 = f) (ht : tx_R G S (b + 1) n f) (he : e ≤ n) (hb : e = n ∨ f e = 124) (hk : k ≤ e) (hN : 700 ≤ N) : (pf_X8_itemEnd G N S b (nI k) = some (-1, S) ∧ pf_X9_itemEnd G N M (nI k) (nI e) = some (-1, M)) ∨ ∃ q, IT f nt e k q ∧ pf_X8_itemEnd G N S b (nI k) = some (nI (min q (k + 5)), S) ∧ pf_X9_itemEnd G N M (nI k) (nI e) = some (if q ≤ k + 5 then nI q else -1, M) := by
  have hn := ht.2.2.1
  have e1 : nI k + 1 = nI (k + 1) := nI_1 k
  have e2 : nI k + 2 = nI (k + 2) := by rw [show (2 : Int32) = nI 2 from rfl, nI_add]
  unfold pf_X8_itemEnd pf_X9_itemEnd
  simp only [gr_q (k := 1) h1 rfl, Option.bind_some, v_q _ ht.1, tx_dig ht, tx_at ht, mw_b2, v_q _ h1]
  by_cases hd : dgp f e k
  · obtain ⟨d, d1, d2, d3⟩ := dg_val (ht.2.2.2 _ (by have := hd.1; omega)) hd
    have hke := hd.1
    rw [td_1 hn he hd, (md_dig hf (by omega) (by omega)).1 hd, d3]
    dsimp only
    rw [if_neg (show ¬ (1 : Int32) = 0 by decide)]
    simp only [aim (M := M) (k := 0) (j := k) (show k < 40 by omega) (by decide), Option.bind_some, hf, d3, h7, e1, e2]
    by_cases hdn : d < nt
    · rw [isTy_in h1 hdn hnt]
      dsimp only
      rw [if_pos (show ¬ (1 : Int32) = 0 by decide), if_neg (nI_ge hdn (by omega))]
      simp only [gr_q (k := 1) h1 rfl, Option.bind_some, v_q _ ht.1, tx_at ht]
      by_cases hk1 : k + 1 < e
      · rw [if_neg (nI_ge hk1 (by omega)), tc_in (show k + 1 < n by omega) (by omega)]
        simp only [aim (M := M) (k := 0) (j := k + 1) (show k + 1 < 40 by omega) (by decide), Option.bind_some, hf]
        obtain ⟨q, q1, q2, q3, q4⟩ := dg_run f e (e - (k + 2)) (k + 2) (by omega) (Nat.le_refl _)
        have r1 := ie_51 (N := N) h1 ht he hb q2 q3 q4 N 0 (by omega) (by omega) (by omega)
        have r2 := ie_64 (G := G) (N := N) (M := M) hf (show e ≤ 40 by omega) q2 q3 q4 N (k + 2) (Nat.le_refl _) q1 (by omega)
        have r1' : pf_X8_itemEnd_51 G N N b (nI k) 0 S = some (nI (min q (k + 5)), S) := r1
        by_cases c1 : f (k + 1) = 43
        · rw [if_pos c1, if_pos c1, r1', r2]
          exact Or.inr ⟨q, ⟨hd, ⟨d, hdn, d2⟩, hk1, Or.inl c1, q1, q2, q3, q4⟩, rfl, rfl⟩
        · rw [if_neg c1, if_neg c1]
          by_cases c2 : f (k + 1) = 45
          · rw [if_pos c2, if_pos c2, r1', r2]
            exact Or.inr ⟨q, ⟨hd, ⟨d, hdn, d2⟩, hk1, Or.inr c2, q1, q2, q3, q4⟩, rfl, rfl⟩
          · rw [if_neg c2, if_neg c2]
            exact Or.inl ⟨rfl, rfl⟩
      · rw [if_pos (nI_le (by omega) (by omega))]
        have hk1e : k + 1 = e := by omega
        have htc : tc n f (nI (k + 1)) = 0 ∨ tc n f (nI (k + 1)) = 124 := by
          rw [hk1e]
          rcases Nat.lt_or_ge e n with w | w
          · right; rw [tc_in w (by omega)]; exact hb.resolve_left (by omega)
          · left; exact tc_out w (by omega)
        rcases htc with w | w
        · rw [w, if_neg (by decide), if_neg (by decide)]
          exact Or.inl ⟨rfl, rfl⟩
        · rw [w, if_neg (by decide), if_neg (by decide)]
          exact Or.inl ⟨rfl, rfl⟩
    · rw [isTy_out h1 (Or.inr (nI_le (by omega) (by omega))), if_pos (nI_le (by omega) (by omega))]
      dsimp only
      rw [if_neg (show ¬ ¬ (0 : Int32) = 0 by decide)]
      exact Or.inl ⟨rfl, rfl⟩
  · rw [td_0 hn he hb hk hd, (md_dig hf (by omega) (by omega)).2 hd, isTy_out h1 (Or.inl (by decide))]
    dsimp only
    rw [if_neg (show ¬ ¬ (0 : Int32) = 0 by decide), if_pos rfl]
    exact Or.inl ⟨rfl, rfl⟩
/-- a list of items from k on to the end -/
def VL (f : Nat → Int32) (nt e : Nat) : Nat → Nat → Prop
  | 0, _ => False
  | m + 1, k => ∃ q, IT f nt e k q ∧ q ≤ k + 5 ∧ ((m = 0 ∧ q = e) ∨ (q < e ∧ f q = 44 ∧ VL f nt e m (q + 1)))
theorem cnt {x29 x3 : Int32} {nt : Nat} (h1 : g_main S b p kl sz (nI nt) x29 x3) (h7 : M.1 7 = nI nt) (hnt : nt ≤ 6) (hf : M.2 0 = f) (ht : tx_R G S (b + 1) n f) (he : e ≤ n) (hb : e = n ∨ f e = 124) (hN : 700 ≤ N) : ∀ m i k, k ≤ e → e - k + 1 < m → 3 * i ≤ k → (pf_X8_countItems_5 G N m b (nI e) (nI k) (nI (i + 1)) S = some (-1, S) ∧ pf_X9_items_5 G N m (nI e) (nI i) (nI k) M = some (-1, M)) ∨ ∃ c, VL f nt e c k ∧ 3 * (i + c) ≤ e + 1 ∧ pf_X8_countItems_5 G N m b (nI e) (nI k) (nI (i + 1)) S = some (nI (i + c), S) ∧ pf_X9_items_5 G N m (nI e) (nI i) (nI k) M = some (nI (i + c), M) := by
  have hn := ht.2.2.1
  intro m
  induction m with
  | zero => intro i k _ h; exact absurd h (Nat.not_lt_zero _)
  | succ m ih =>
    intro i k hk hm hi
    rw [pf_X8_countItems_5, pf_X9_items_5, if_neg (show ¬ (40 : Int32) < nI (i + 1) from Int32.not_lt.mpr (nI_le (b := 40) (by omega) (by decide))), if_neg (show ¬ nI e < nI k from Int32.not_lt.mpr (nI_le hk (by omega)))]
    simp only [v_q _ h1]
    rcases ie_c (N := N) h1 h7 hnt hf ht he hb hk hN with ⟨c1, c2⟩ | ⟨q, hit, c1, c2⟩
    · rw [c1, c2]
      simp only [mw_b2, pf_X8_countItems_34]
      rw [if_pos trivial, if_pos trivial, if_pos (show (-1 : Int32) < 0 by decide)]
      exact Or.inl ⟨rfl, rfl⟩
    · rw [c1, c2]
      have hit' := hit
      obtain ⟨i1, i2, i3, i4, i5, i6, i7, i8⟩ := hit
      have hmin : min q (k + 5) ≤ q := Nat.min_le_left _ _
      have hm1 : ¬ nI (min q (k + 5)) = -1 := nI_m1 (by omega)
      simp only [mw_b2, pf_X8_countItems_34]
      by_cases h5 : q ≤ k + 5
      · rw [if_pos h5, Nat.min_eq_left h5, if_neg (show ¬ nI q = -1 from nI_m1 (by omega)), if_neg (show ¬ nI q = -1 from nI_m1 (by omega)), if_neg (show ¬ nI q < 0 from nI_pos (by omega))]
        by_cases hqe : q = e
        · subst hqe
          rw [if_neg (show ¬ ¬ nI q = nI q from fun z => z rfl), if_pos (Int32.le_refl _), nI_1, nI_1]
          refine Or.inr ⟨1, ⟨q, hit', h5, Or.inl ⟨rfl, rfl⟩⟩, by omega, rfl, ?_⟩
          obtain ⟨m', rfl⟩ : ∃ m', m = m' + 1 := ⟨m - 1, by omega⟩
          rw [pf_X9_items_5, if_pos (nI_lt (by omega) (by omega))]
        · rw [if_pos (show ¬ nI q = nI e from fun z => hqe ((nI_eq (by omega) (by omega)).mp z)), if_neg (show ¬ nI e ≤ nI q from nI_ge (by omega) (by omega))]
          simp only [gr_q (k := 1) h1 rfl, Option.bind_some, v_q _ ht.1, tx_at ht, aim (M := M) (k := 0) (j := q) (show q < 40 by omega) (by decide), hf, tc_in (show q < n by omega) (show n < 2 ^ 31 by omega), nI_1]
          by_cases h44 : f q = 44
          · rw [if_pos h44, if_pos h44]
            rcases ih (i + 1) (q + 1) (by omega) (by omega) (by omega) with ⟨w1, w2⟩ | ⟨c, w1, w2, w3, w4⟩
            · exact Or.inl ⟨w1, w2⟩
            · refine Or.inr ⟨c + 1, ⟨q, hit', h5, Or.inr ⟨by omega, h44, w1⟩⟩, by omega, ?_, ?_⟩
              · rw [w3, show i + 1 + c = i + (c + 1) by omega]
              · rw [w4, show i + 1 + c = i + (c + 1) by omega]
          · rw [if_neg h44, if_neg h44]
            exact Or.inl ⟨rfl, rfl⟩
      · rw [if_neg h5, Nat.min_eq_right (by omega), if_neg (show ¬ nI (k + 5) = -1 from nI_m1 (by omega)), if_neg (show ¬ nI (k + 5) = -1 from nI_m1 (by omega)), if_pos (show ¬ nI (k + 5) = nI e from fun z => by have := (nI_eq (by omega) (by omega)).mp z; omega), if_pos (show (-1 : Int32) < 0 by decide)]
        simp only [gr_q (k := 1) h1 rfl, Option.bind_some, v_q _ ht.1, tx_at ht, tc_in (show k + 5 < n by omega) (show n < 2 ^ 31 by omega)]
        obtain ⟨d, d1, d2, d3⟩ := dg_val (ht.2.2.2 _ (by omega)) (i7 (k + 5) (by omega) (by omega))
        have : ¬ f (k + 5) = 44 := by
          rw [d2]
          have : ∀ d, d < 10 → nI (48 + d) ≠ 44 := by decide
          exact this d d1
        rw [if_neg this]
        exact Or.inl ⟨rfl, trivial⟩
end PRS
