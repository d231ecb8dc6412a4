/-! the text, and the strings that have numbers -/
theorem z0 : vp_nar .boolean 0 = 0 := by decide
theorem z1 : vp_nar .boolean 1 = 1 := by decide
theorem c0 : vp_nar .char 0 = 0 := by decide
theorem nar_c {c : Nat} (h : c < 65536) : vp_nar .char (nI c) = nI c := Value.int.inj (pk_charN h).1
def okc (x : Int32) : Prop := ∃ c : Nat, 32 ≤ c ∧ c ≤ 126 ∧ x = nI c
theorem okc.nar {x : Int32} (h : okc x) : vp_nar .char x = x := by
  obtain ⟨c, h1, h2, rfl⟩ := h
  exact nar_c (by omega)
theorem okc_of {x : Int32} (h1 : ¬ x < 32) (h2 : x ≤ 126) : okc x := by
  obtain ⟨j, hj, rfl⟩ := nI_of (x := x) (fun h => h1 (Int32.lt_of_lt_of_le h (by decide)))
  have h3 : 32 ≤ j := Nat.not_lt.mp (fun h => h1 (nI_lt (b := 32) h (by decide)))
  have h4 : j ≤ 126 := Nat.not_lt.mp (fun h => nI_ge (b := j) (a := 126) h hj h2)
  exact ⟨j, h3, h4, rfl⟩
def tx_R (G : Nat → ClassId) (S : mw_M) (a n : Nat) (f : Nat → Int32) : Prop := S.1 a = some (.inr (7, [.ref (a + 1), .int (nI n)])) ∧ S.1 (a + 1) = some (.inl (G 2, 40, .inl f)) ∧ n ≤ 40 ∧ ∀ i, i < n → okc (f i)
theorem tx_R.sm {G : Nat → ClassId} {S S' : mw_M} {a n : Nat} {f : Nat → Int32} {X : Nat → Prop} (h : tx_R G S a n f) (hs : sm_p X S S') (h0 : ¬ X a) (h1 : ¬ X (a + 1)) : tx_R G S' a n f := ⟨by rw [hs.1 a h0]; exact h.1, by rw [hs.1 _ h1]; exact h.2.1, h.2.2⟩
/-- the character at a place, 0 where there is none -/
def tc (n : Nat) (f : Nat → Int32) (k : Int32) : Int32 := if k < 0 ∨ nI n ≤ k then 0 else f k.toNatClampNeg
theorem tc_in {n k : Nat} {f : Nat → Int32} (h : k < n) (hn : n < 2 ^ 31) : tc n f (nI k) = f k := by
  unfold tc
  rw [if_neg (fun z => z.elim (nI_pos (by omega)) (nI_ge h hn)), nI_clamp (by omega)]
theorem tc_out {n k : Nat} {f : Nat → Int32} (h : n ≤ k) (hk : k < 2 ^ 31) : tc n f (nI k) = 0 := if_pos (Or.inr (nI_le h hk))
def td (n : Nat) (f : Nat → Int32) (k : Int32) : Int32 := if tc n f k < 48 then -1 else if 57 < tc n f k then -1 else tc n f k - 48
section TXS
variable {G : Nat → ClassId} {N : Nat} {S : mw_M} {a n : Nat} {f : Nat → Int32}
theorem tx_at (h : tx_R G S a n f) (x : Int32) : pf_X7_at G N S a x = some (tc n f x, S) := by
  obtain ⟨e1, e2, e3, e4⟩ := h
  unfold pf_X7_at tc
  by_cases h0 : x < 0
  · rw [if_pos h0, if_pos c0, if_pos (Or.inl h0)]
  rw [if_neg h0]
  simp only [gi_q (k := 1) e1 rfl, Option.bind_some]
  by_cases h1 : nI n ≤ x
  · rw [if_pos h1, if_pos c0, if_pos (Or.inr h1)]
  rw [if_neg h1, if_neg (fun z => z.elim h0 h1)]
  obtain ⟨j, hj, rfl, -, hc, -⟩ := pk_mu h0 h1 (by omega)
  simp only [gr_q (k := 0) e1 rfl, ai_q e2 (show j < 40 by omega) (by decide), Option.bind_some]
  rw [if_pos (e4 j hj).nar, hc]
theorem tx_dig (h : tx_R G S a n f) (x : Int32) : pf_X7_digitAt G N S a x = some (td n f x, S) := by
  unfold pf_X7_digitAt td
  rw [v_q _ h.1, tx_at h x]
  simp only [mw_b2]
  split
  · rfl
  · split <;> rfl
theorem tx_len (h : tx_R G S a n f) : pf_X7_length G N S a = some (nI n, S) := by
  unfold pf_X7_length
  simp only [gi_q (k := 1) h.1 rfl, Option.bind_some]
theorem tx_clear (h : tx_R G S a n f) : ∃ S', pf_X7_clear G N S a = some S' ∧ tx_R G S' a 0 f ∧ sm_p (br_X a) S S' := by
  obtain ⟨e1, e2, e3, e4⟩ := h
  refine ⟨mw_up S a (.inr (7, [.ref (a + 1), .int 0])), ?_, ⟨?_, ?_, Nat.zero_le _, fun i hi => absurd hi (Nat.not_lt_zero i)⟩, (sm_p.rf _ S).up _ (Or.inl rfl)⟩
  · unfold pf_X7_clear
    simp only [pf_q _ e1 (k := 1) (Nat.le_of_ble_eq_true rfl), Option.bind_some]
    rfl
  · rw [up_s]; rfl
  · rw [up_n _ _ (by omega)]; exact e2
theorem tx_app (h : tx_R G S a n f) (x : Int32) (hc : n < 40) (h1 : ¬ x < 32) (h2 : x ≤ 126) : ∃ S', pf_X7_append G N S a x = some (1, S') ∧ tx_R G S' a (n + 1) (upd f n (vp_nar .char x)) ∧ sm_p (br_X a) S S' := by
  obtain ⟨e1, e2, e3, e4⟩ := h
  generalize hS1 : mw_up S (a + 1) (.inl (G 2, 40, .inl (upd f n (vp_nar .char x)))) = S1
  have g1 : S1.1 a = some (.inr (7, [.ref (a + 1), .int (nI n)])) := by rw [← hS1, up_n _ _ (by omega)]; exact e1
  have g2 : S1.1 (a + 1) = some (.inl (G 2, 40, .inl (upd f n (vp_nar .char x)))) := by rw [← hS1]; exact up_s _ _ _
  refine ⟨mw_up S1 a (.inr (7, [.ref (a + 1), .int (nI n + 1)])), ?_, ⟨?_, ?_, hc, fun i hi => ?_⟩, ?_⟩
  · unfold pf_X7_append
    simp only [gi_q (k := 1) e1 rfl, Option.bind_some]
    rw [if_neg (show ¬ (40 : Int32) ≤ nI n from nI_ge (b := 40) hc (by decide)), if_neg h1, if_pos h2]
    simp only [gr_q (k := 0) e1 rfl, si_q _ e2 hc (by decide), hS1, Option.bind_some, gi_q (k := 1) g1 rfl, pf_q _ g1 (k := 1) (Nat.le_of_ble_eq_true rfl), if_pos z1]
    rfl
  · rw [up_s, ← nI_1]
  · rw [up_n _ _ (by omega)]; exact g2
  · by_cases h9 : i = n
    · subst h9
      rw [pk_us]
      have := okc_of h1 h2
      rw [this.nar]
      exact this
    · rw [pk_un h9]
      exact e4 i (by omega)
  · rw [← hS1]
    exact ((sm_p.rf _ S).up _ (Or.inr rfl)).up _ (Or.inl rfl)
theorem tx_app0 (h : tx_R G S a n f) (x : Int32) (hc : n = 40 ∨ x < 32 ∨ ¬ x ≤ 126) : pf_X7_append G N S a x = some (0, S) := by
  obtain ⟨e1, e2, e3, e4⟩ := h
  unfold pf_X7_append
  simp only [gi_q (k := 1) e1 rfl, Option.bind_some]
  by_cases h1 : n = 40
  · rw [if_pos (show (40 : Int32) ≤ nI n from nI_le (a := 40) (by omega) (by omega)), if_pos z0]
  rw [if_neg (show ¬ (40 : Int32) ≤ nI n from nI_ge (b := 40) (by omega) (by decide))]
  by_cases h2 : x < 32
  · rw [if_pos h2, if_pos z0]
  rw [if_neg h2]
  rcases hc with hc | hc | hc
  · exact absurd hc h1
  · exact absurd hc h2
  · rw [if_neg hc, if_pos z0]
end TXS
/-! strings -/
def st_R (G : Nat → ClassId) (S : mw_M) (a ns : Nat) (f g : Nat → Int32) : Prop := S.1 a = some (.inr (6, [.ref (a + 1), .ref (a + 2), .int (nI ns)])) ∧ S.1 (a + 1) = some (.inl (G 2, 192, .inl f)) ∧ S.1 (a + 2) = some (.inl (G 0, 24, .inl g))
/-- what is known of the strings themselves -/
def st_K (ns : Nat) (f g : Nat → Int32) : Prop := ns ≤ 24 ∧ ∀ k, k < ns → ∃ l : Nat, l ≤ 8 ∧ g k = nI l ∧ ∀ j, j < l → okc (f (8 * k + j))
abbrev st_X (a : Nat) : Nat → Prop := fun q => q = a ∨ q = a + 1 ∨ q = a + 2
theorem st_R.sm {G : Nat → ClassId} {S S' : mw_M} {a ns : Nat} {f g : Nat → Int32} {X : Nat → Prop} (h : st_R G S a ns f g) (hs : sm_p X S S') (h0 : ¬ X a) (h1 : ¬ X (a + 1)) (h2 : ¬ X (a + 2)) : st_R G S' a ns f g := ⟨by rw [hs.1 a h0]; exact h.1, by rw [hs.1 _ h1]; exact h.2.1, by rw [hs.1 _ h2]; exact h.2.2⟩
/-- the places j, j + 1 .. of a stretch of one row and of another are alike -/
def eqs (f t : Nat → Int32) (o : Nat) : Nat → Nat → Bool
  | 0, _ => true
  | n + 1, j => if f (o + j) = t j then eqs f t o n (j + 1) else false
/-- the first place from k on, of n, where P holds; behind the last if there is none -/
def fst_k (P : Nat → Bool) : Nat → Nat → Nat
  | 0, k => k
  | n + 1, k => if P k = true then k else fst_k P n (k + 1)
theorem fst_k_le (P : Nat → Bool) : ∀ n k, k ≤ fst_k P n k ∧ fst_k P n k ≤ k + n := by
  intro n
  induction n with
  | zero => intro k; exact ⟨Nat.le_refl _, Nat.le_refl _⟩
  | succ n ih =>
    intro k
    unfold fst_k
    have := ih (k + 1)
    split <;> omega
/-- string k is the text's beginning of m characters -/
def sam (f g t : Nat → Int32) (m k : Nat) : Bool := if g k = nI m then eqs f t (8 * k) m 0 else false
section STS
variable {G : Nat → ClassId} {N : Nat} {S : mw_M} {a ns b n : Nat} {f g t : Nat → Int32}
theorem st_ul (h : tx_R G S b n t) : pf_X6_usedLength G N S b = some (nI (min n 8), S) := by
  unfold pf_X6_usedLength
  rw [v_q _ h.1, tx_len h]
  simp only [mw_b2]
  have h2 := h.2.2.1
  by_cases h8 : 8 < n
  · rw [if_pos (show (8 : Int32) < nI n from nI_lt (a := 8) h8 (by omega)), Nat.min_eq_right (by omega)]
    rfl
  · rw [if_neg (show ¬ (8 : Int32) < nI n from nI_nlt (b := n) (a := 8) (by omega) (by decide)), Nat.min_eq_left (by omega)]
theorem mul8 {k j : Nat} : nI k * 8 + nI j = nI (8 * k + j) := by
  rw [show (8 : Int32) = nI 8 from rfl, pk_mul, nI_add, Nat.mul_comm]
theorem st_is_l {k l : Nat} (h : st_R G S a ns f g) (ht : tx_R G S b n t) (hk : k < 24) (hl : g k = nI l) (hl8 : l ≤ 8) (hln : l ≤ n) : ∀ (m j : Nat), j ≤ l → l - j < m → pf_X6_isSame_17 G N m a (nI k) b (nI j) S = some (if eqs f t (8 * k) (l - j) j = true then 1 else 0, S) := by
  obtain ⟨e1, e2, e3⟩ := h
  intro m
  induction m with
  | zero => intro j _ hm; exact absurd hm (Nat.not_lt_zero _)
  | succ m ih =>
    intro j hj hm
    rw [pf_X6_isSame_17]
    simp only [gr_q (k := 1) e1 rfl, ai_q e3 hk (by decide), Option.bind_some, hl]
    by_cases hlt : j < l
    · rw [if_neg (nI_ge hlt (by omega))]
      simp only [gr_q (k := 0) e1 rfl, mul8, ai_q e2 (show 8 * k + j < 192 by omega) (by decide), Option.bind_some, v_q _ ht.1, tx_at ht, mw_b2, tc_in (show j < n by omega) (by have := ht.2.2.1; omega)]
      rw [show l - j = (l - (j + 1)) + 1 by omega, eqs]
      by_cases hq : f (8 * k + j) = t j
      · rw [if_pos hq, if_pos hq, nI_1]
        exact ih (j + 1) hlt (by omega)
      · rw [if_neg hq, if_neg hq, if_pos z0]
        rfl
    · rw [if_pos (nI_le (by omega) (by omega)), show l - j = 0 by omega, eqs, if_pos z1, if_pos rfl]
theorem st_is {k : Nat} (h : st_R G S a ns f g) (hK : st_K ns f g) (ht : tx_R G S b n t) (hk : k < ns) (hN : 10 ≤ N) : pf_X6_isSame G N S a (nI k) b = some (if sam f g t (min n 8) k = true then 1 else 0, S) := by
  obtain ⟨l, hl8, hl, -⟩ := hK.2 k hk
  have hns := hK.1
  have h3 := h
  obtain ⟨e1, e2, e3⟩ := h
  unfold pf_X6_isSame
  simp only [gr_q (k := 1) e1 rfl, ai_q e3 (show k < 24 by omega) (by decide), Option.bind_some, st_ul ht, mw_b2]
  unfold sam
  by_cases hq : g k = nI (min n 8)
  · rw [if_pos hq, if_pos hq]
    have h8 : min n 8 ≤ 8 := Nat.min_le_right _ _
    have hn : min n 8 ≤ n := Nat.min_le_left _ _
    exact st_is_l (N := N) h3 ht (by omega) hq h8 hn N 0 (Nat.zero_le _) (by omega)
  · rw [if_neg hq, if_neg hq, if_pos z0]
    rfl
theorem st_num_l (h : st_R G S a ns f g) (hK : st_K ns f g) (ht : tx_R G S b n t) (hN : 10 ≤ N) : ∀ (m k : Nat), k ≤ ns → ns - k < m → pf_X6_numberFor_2 G N m a b (nI k) S = some (nI (fst_k (sam f g t (min n 8)) (ns - k) k), S) := by
  have hns := hK.1
  intro m
  induction m with
  | zero => intro k _ hm; exact absurd hm (Nat.not_lt_zero _)
  | succ m ih =>
    intro k hk hm
    rw [pf_X6_numberFor_2]
    simp only [gi_q (k := 2) h.1 rfl, Option.bind_some]
    by_cases hlt : k < ns
    · rw [if_neg (nI_ge hlt (by omega)), v_q _ h.1, st_is h hK ht hlt hN]
      simp only [mw_b2]
      rw [show ns - k = (ns - (k + 1)) + 1 by omega, fst_k]
      by_cases hs : sam f g t (min n 8) k = true
      · rw [if_pos hs, if_pos hs, if_neg (show ¬ (1 : Int32) = 0 by decide)]
      · rw [if_neg hs, if_neg hs, if_pos rfl, nI_1]
        exact ih (k + 1) hlt (by omega)
    · rw [if_pos (nI_le (by omega) (by omega)), show ns - k = 0 by omega, fst_k, show k = ns by omega]
theorem st_num (h : st_R G S a ns f g) (hK : st_K ns f g) (ht : tx_R G S b n t) (hN : 30 ≤ N) : pf_X6_numberFor G N S a b = some (nI (fst_k (sam f g t (min n 8)) ns 0), S) := by
  have hns := hK.1
  exact st_num_l h hK ht (by omega) N 0 (Nat.zero_le _) (by omega)
end STS
