/-! strings: the reference finds and keeps them as the class does -/
def kpf (f t : Nat → Int32) (o : Nat) : Nat → Nat → Int32
  | 0 => f
  | m + 1 => upd (kpf f t o m) (o + m) (t m)
section MST
variable {G : Nat → ClassId} {N : Nat}
theorem md_str_0 {K : Int32 → Int32 → mm_M → Option (Int32 × mm_M)} {M : mm_M} (n : Nat) (y1 y2 y4 : Int32) : pf_X9_stringOf_29 G N K (n + 1) y1 y2 0 y4 M = pf_X9_stringOf_73 G N K y1 y2 0 M := by
  rw [pf_X9_stringOf_29]
  split
  · rfl
  · rw [if_pos rfl]
theorem md_str_in {K : Int32 → Int32 → mm_M → Option (Int32 × mm_M)} {M : mm_M} {m k : Nat} (hm : m ≤ 8) (hk : k < 24) : ∀ (n j : Nat), j ≤ m → m - j + 1 < n → pf_X9_stringOf_29 G N K n (nI m) (nI k) 1 (nI j) M = pf_X9_stringOf_73 G N K (nI m) (nI k) (if eqs (M.2 3) (M.2 0) (8 * k) (m - j) j = true then 1 else 0) M := by
  intro n
  induction n with
  | zero => intro j _ h; exact absurd h (Nat.not_lt_zero _)
  | succ n ih =>
    intro j hj hn
    rw [pf_X9_stringOf_29]
    by_cases hlt : j < m
    · rw [if_neg (nI_ge hlt (by omega)), if_neg (show ¬ (1 : Int32) = 0 by decide), i8k]
      simp only [aim (M := M) (k := 3) (j := 8 * k + j) (show _ < 192 by omega) (by decide), aim (M := M) (k := 0) (j := j) (show _ < 40 by omega) (by decide), Option.bind_some, nI_1]
      rw [show m - j = (m - (j + 1)) + 1 by omega, eqs]
      by_cases hq : M.2 3 (8 * k + j) = M.2 0 j
      · rw [if_neg (fun z => z hq), if_pos hq]
        exact ih (j + 1) hlt (by omega)
      · rw [if_pos hq, if_neg hq]
        obtain ⟨n', rfl⟩ : ∃ n', n = n' + 1 := ⟨n - 1, by omega⟩
        exact md_str_0 n' _ _ _
    · rw [if_pos (nI_le (by omega) (by omega)), show m - j = 0 by omega, eqs, if_pos rfl]
theorem md_str_l {M : mm_M} {m ns : Nat} (hm : m ≤ 8) (hns : ns ≤ 24) (h10 : M.1 10 = nI ns) (hN : 12 ≤ N) : ∀ (n k : Nat), k ≤ ns → ns - k < n → pf_X9_stringOf_2 G N n (nI m) (nI k) M = some (if fst_k (sam (M.2 3) (M.2 4) (M.2 0) m) (ns - k) k < ns then nI (fst_k (sam (M.2 3) (M.2 4) (M.2 0) m) (ns - k) k) else -1, M) := by
  intro n
  induction n with
  | zero => intro k _ h; exact absurd h (Nat.not_lt_zero _)
  | succ n ih =>
    intro k hk hn
    rw [pf_X9_stringOf_2, h10]
    by_cases hlt : k < ns
    · rw [if_neg (nI_ge hlt (by omega))]
      simp only [aim (M := M) (k := 4) (j := k) (show _ < 24 by omega) (by decide), Option.bind_some]
      obtain ⟨N', hN'⟩ : ∃ N', N = N' + 1 := ⟨N - 1, by omega⟩
      have key : pf_X9_stringOf_29 G N (pf_X9_stringOf_2 G N n) N (nI m) (nI k) (if M.2 4 k = nI m then 1 else 0) 0 M = pf_X9_stringOf_73 G N (pf_X9_stringOf_2 G N n) (nI m) (nI k) (if sam (M.2 3) (M.2 4) (M.2 0) m k = true then 1 else 0) M := by
        unfold sam
        by_cases hq : M.2 4 k = nI m
        · rw [if_pos hq, if_pos hq]
          exact md_str_in hm (by omega) N 0 (Nat.zero_le _) (by omega)
        · rw [if_neg hq, if_neg hq]
          have := md_str_0 (G := G) (N := N) (K := pf_X9_stringOf_2 G N n) (M := M) N' (nI m) (nI k) 0
          rw [← hN'] at this
          exact this
      have key2 : pf_X9_stringOf_73 G N (pf_X9_stringOf_2 G N n) (nI m) (nI k) (if sam (M.2 3) (M.2 4) (M.2 0) m k = true then 1 else 0) M = some (if fst_k (sam (M.2 3) (M.2 4) (M.2 0) m) (ns - k) k < ns then nI (fst_k (sam (M.2 3) (M.2 4) (M.2 0) m) (ns - k) k) else -1, M) := by
        rw [show ns - k = (ns - (k + 1)) + 1 by omega, fst_k]
        unfold pf_X9_stringOf_73
        by_cases hs : sam (M.2 3) (M.2 4) (M.2 0) m k = true
        · simp only [if_pos hs]
          rw [if_neg (show ¬ (1 : Int32) = 0 by decide), if_pos hlt]
        · simp only [if_neg hs]
          rw [if_pos trivial, nI_1]
          exact ih (k + 1) hlt (by omega)
      by_cases hq : M.2 4 k = nI m
      · rw [if_neg (fun z => z hq)]
        rw [if_pos hq] at key
        rw [key, key2]
      · rw [if_pos hq]
        rw [if_neg hq] at key
        rw [key, key2]
    · rw [if_pos (nI_le (by omega) (by omega)), show ns - k = 0 by omega, fst_k, if_neg (by omega)]
theorem md_str {M : mm_M} {m ns : Nat} (hm : m ≤ 8) (hns : ns ≤ 24) (h10 : M.1 10 = nI ns) (hN : 30 ≤ N) : pf_X9_stringOf G N M (nI m) = some (if fst_k (sam (M.2 3) (M.2 4) (M.2 0) m) ns 0 < ns then nI (fst_k (sam (M.2 3) (M.2 4) (M.2 0) m) ns 0) else -1, M) :=
  md_str_l hm hns h10 (by omega) N 0 (Nat.zero_le _) (by omega)
theorem md_keep_l {M : mm_M} {m ns : Nat} (hm : m ≤ 8) (hns : ns < 24) (h10 : M.1 10 = nI ns) (hc : ∀ i, i < m → okc (M.2 0 i)) : ∀ (n k : Nat) (Mk : mm_M), fm [] [3] M Mk → Mk.2 3 = kpf (M.2 3) (M.2 0) (8 * ns) k → k ≤ m → m - k < n → ∃ M', pf_X9_keepString_7 G N n (nI m) (nI k) Mk = some M' ∧ M'.2 3 = kpf (M.2 3) (M.2 0) (8 * ns) m ∧ M'.2 4 = upd (M.2 4) ns (nI m) ∧ M'.1 10 = nI (ns + 1) ∧ fm [10] [3, 4] M M' := by
  intro n
  induction n with
  | zero => intro k Mk _ _ _ h; exact absurd h (Nat.not_lt_zero _)
  | succ n ih =>
    intro k Mk hf h3 hk hn
    have e10 : Mk.1 10 = nI ns := (hf.1 10 (by decide)).trans h10
    have e0 : Mk.2 0 = M.2 0 := hf.2 0 (by decide)
    have e4 : Mk.2 4 = M.2 4 := hf.2 4 (by decide)
    rw [pf_X9_keepString_7]
    by_cases hlt : k < m
    · rw [if_neg (nI_ge hlt (by omega)), e10, i8k]
      simp only [aim (M := Mk) (k := 0) (j := k) (show _ < 40 by omega) (by decide), sim (M := Mk) (k := 3) (j := 8 * ns + k) _ (show _ < 192 by omega) (by decide), Option.bind_some, nI_1]
      rw [e0, (hc k hlt).nar]
      refine ih (k + 1) _ (hf.si (k := 3) (by decide) _) ?_ hlt (by omega)
      show upd (Mk.2 3) _ _ = _
      rw [h3]
      rfl
    · have hke : k = m := by omega
      rw [if_pos (nI_le (by omega) (by omega)), e10]
      simp only [sim (k := 4) (j := ns) _ hns (by decide), Option.bind_some, mm_pf, e10]
      refine ⟨_, rfl, ?_, ?_, ?_, ((hf.wd (X' := [10]) (Y' := [3, 4]) (by decide) (by decide)).si (k := 4) (by decide) _).pf (j := 10) (by decide) _⟩
      · show Mk.2 3 = _
        rw [h3, hke]
      · show upd (Mk.2 4) ns (nI m) = _
        rw [e4]
      · show nI ns + 1 = _
        rw [nI_1]
theorem md_keep {M : mm_M} {m ns : Nat} (hm : m ≤ 8) (hns : ns < 24) (h10 : M.1 10 = nI ns) (hc : ∀ i, i < m → okc (M.2 0 i)) (hN : 10 ≤ N) : ∃ M', pf_X9_keepString G N M (-1) (nI m) = some M' ∧ M'.2 3 = kpf (M.2 3) (M.2 0) (8 * ns) m ∧ M'.2 4 = upd (M.2 4) ns (nI m) ∧ M'.1 10 = nI (ns + 1) ∧ fm [10] [3, 4] M M' := by
  unfold pf_X9_keepString
  rw [if_pos (show (-1 : Int32) < 0 by decide)]
  exact md_keep_l hm hns h10 hc N 0 M (fm.rf _ _ M) rfl (Nat.zero_le _) (by omega)
theorem md_keep0 {M : mm_M} {k m : Nat} (hk : k < 2 ^ 31) : pf_X9_keepString G N M (nI k) (nI m) = some M := by
  unfold pf_X9_keepString
  rw [if_neg (nI_pos hk)]
/-- the class keeps the same -/
theorem st_keep_l {S0 : mw_M} {a ns b nn : Nat} {f g t : Nat → Int32} {m : Nat} (hm : m ≤ 8) (hns : ns < 24) (hmn : m ≤ nn) (hg : g ns = nI m) (hab : b + 1 < a ∨ a + 2 < b) : ∀ (n k : Nat) (S : mw_M), st_R G S a ns (kpf f t (8 * ns) k) g → tx_R G S b nn t → sm_p (st_X a) S0 S → k ≤ m → m - k < n → ∃ S', pf_X6_keep_33 G N n a b (nI k) S = some S' ∧ st_R G S' a (ns + 1) (kpf f t (8 * ns) m) g ∧ sm_p (st_X a) S0 S' := by
  intro n
  induction n with
  | zero => intro k S _ _ _ _ h; exact absurd h (Nat.not_lt_zero _)
  | succ n ih =>
    intro k S h ht hs hk hn
    obtain ⟨e1, e2, e3⟩ := h
    have hnn := ht.2.2.1
    rw [pf_X6_keep_33]
    simp only [gr_q (k := 1) e1 rfl, gi_q (k := 2) e1 rfl, ai_q e3 hns (by decide), Option.bind_some, hg]
    by_cases hlt : k < m
    · rw [if_neg (nI_ge hlt (by omega))]
      simp only [gr_q (k := 0) e1 rfl, v_q _ ht.1, tx_at ht, mw_b2, tc_in (show k < nn by omega) (by omega), mul8, (ht.2.2.2 k (by omega)).nar, si_q _ e2 (show 8 * ns + k < 192 by omega) (by decide), Option.bind_some, nI_1]
      refine ih (k + 1) _ ⟨?_, ?_, ?_⟩ ?_ (hs.up _ (Or.inr (Or.inl rfl))) hlt (by omega)
      · rw [up_n _ _ (by omega)]; exact e1
      · exact up_s _ _ _
      · rw [up_n _ _ (by omega)]; exact e3
      · exact ht.sm ((sm_p.rf (fun q => q = a + 1) S).up _ rfl) (by omega) (by omega)
    · have hke : k = m := by omega
      rw [if_pos (nI_le (by omega) (by omega))]
      simp only [pf_q _ e1 (k := 2) (Nat.le_of_ble_eq_true rfl), Option.bind_some]
      refine ⟨_, rfl, ⟨?_, ?_, ?_⟩, hs.up _ (Or.inl rfl)⟩
      · rw [up_s, ← nI_1]; rfl
      · rw [up_n _ _ (by omega), e2, hke]
      · rw [up_n _ _ (by omega)]; exact e3
theorem st_keep {S : mw_M} {a ns b nn : Nat} {f g t : Nat → Int32} (h : st_R G S a ns f g) (ht : tx_R G S b nn t) (hns : ns < 24) (hab : b + 1 < a ∨ a + 2 < b) (hN : 10 ≤ N) : ∃ S', pf_X6_keep G N S a (nI ns) b = some S' ∧ st_R G S' a (ns + 1) (kpf f t (8 * ns) (min nn 8)) (upd g ns (nI (min nn 8))) ∧ sm_p (st_X a) S S' := by
  obtain ⟨e1, e2, e3⟩ := h
  have h8 : min nn 8 ≤ 8 := Nat.min_le_right _ _
  have hn8 : min nn 8 ≤ nn := Nat.min_le_left _ _
  unfold pf_X6_keep
  simp only [gi_q (k := 2) e1 rfl, Option.bind_some]
  rw [if_neg (fun z => z trivial), if_pos (show nI ns < 24 from nI_lt (b := 24) hns (by decide))]
  simp only [gr_q (k := 1) e1 rfl, st_ul ht, mw_b2, si_q _ e3 hns (by decide), Option.bind_some]
  refine st_keep_l (G := G) (N := N) (S0 := S) (f := f) h8 hns hn8 pk_us hab N 0 _ ⟨?_, ?_, up_s _ _ _⟩ ?_ ((sm_p.rf _ S).up _ (Or.inr (Or.inr rfl))) (Nat.zero_le _) (by omega)
  · rw [up_n _ _ (by omega)]; exact e1
  · rw [up_n _ _ (by omega)]; exact e2
  · exact ht.sm ((sm_p.rf (fun q => q = a + 2) S).up _ rfl) (by omega) (by omega)
theorem st_keep0 {S : mw_M} {a ns b k : Nat} {f g : Nat → Int32} (h : st_R G S a ns f g) (hk : k < ns) (hns : ns ≤ 24) : pf_X6_keep G N S a (nI k) b = some S := by
  unfold pf_X6_keep
  simp only [gi_q (k := 2) h.1 rfl, Option.bind_some]
  rw [if_pos (fun z => by have := (nI_eq (by omega) (by omega)).mp z; omega)]
end MST
