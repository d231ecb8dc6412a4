/-! the reference's buffers and chunks as lists -/
def mb (M : mm_M) (i : Nat) (l : List Int32) : Prop := M.2 8 i = nI l.length ∧ l.length ≤ 60 ∧ sg_at (M.2 7) (60 * i) l
def mbs (M : mm_M) (bf : Nat → List Int32) : Prop := ∀ i, i < 7 → mb M i (bf i)
def md (M : mm_M) (i : Nat) (l : List Int32) : Prop := M.2 11 i = nI l.length ∧ l.length ≤ 600 ∧ sg_at (M.2 10) (600 * i) l
def mds (M : mm_M) (ch : Nat → List Int32) : Prop := ∀ i, i < 7 → md M i (ch i)
theorem i60 (a k : Nat) : (60 : Int32) * nI a + nI k = nI (60 * a + k) := by
  rw [show (60 : Int32) = nI 60 from rfl, pk_mul, nI_add]
theorem i600 (a k : Nat) : (600 : Int32) * nI a + nI k = nI (600 * a + k) := by
  rw [show (600 : Int32) = nI 600 from rfl, pk_mul, nI_add]
theorem i8k (a k : Nat) : (8 : Int32) * nI a + nI k = nI (8 * a + k) := by
  rw [show (8 : Int32) = nI 8 from rfl, pk_mul, nI_add]
theorem i6k (a k : Nat) : (6 : Int32) * nI a + nI k = nI (6 * a + k) := by
  rw [show (6 : Int32) = nI 6 from rfl, pk_mul, nI_add]
theorem i3k (a k : Nat) : (3 : Int32) * nI a + nI k = nI (3 * a + k) := by
  rw [show (3 : Int32) = nI 3 from rfl, pk_mul, nI_add]
theorem tk_s {l : List Int32} {k : Nat} (h : k < l.length) : l.take (k + 1) = l.take k ++ [l.getD k 0] := by
  rw [List.take_succ, List.getD_eq_getElem?_getD, List.getElem?_eq_getElem h]
  rfl
theorem tk_len {l : List Int32} {k : Nat} (h : k ≤ l.length) : (l.take k).length = k := by
  rw [List.length_take]
  omega
theorem sg_take {f : Nat → Int32} {o k : Nat} {l : List Int32} (h : sg_at f o (l.take k)) (hk : k < l.length) : sg_at (upd f (o + k) (l.getD k 0)) o (l.take (k + 1)) := by
  rw [tk_s hk]
  have := sg_snoc (l.getD k 0) h
  rw [tk_len (by omega)] at this
  exact this
theorem sg_cong {f g : Nat → Int32} {o : Nat} {l : List Int32} (h : sg_at f o l) (hq : ∀ q, o ≤ q → q < o + l.length → g q = f q) : sg_at g o l := fun i hi => by
  rw [hq (o + i) (by omega) (by omega)]
  exact h i hi
theorem sg_app {f : Nat → Int32} {o : Nat} {l m : List Int32} (h : sg_at f o l) (h2 : sg_at f (o + l.length) m) : sg_at f o (l ++ m) := fun i hi => by
  rw [List.length_append] at hi
  by_cases h9 : i < l.length
  · rw [gd_l h9]; exact h i h9
  · rw [gd_r (by omega)]
    have := h2 (i - l.length) (by omega)
    rw [show o + l.length + (i - l.length) = o + i by omega] at this
    exact this
section MDB
variable {G : Nat → ClassId} {N : Nat}
theorem md_move_l {M : mm_M} {bf : Nat → List Int32} {a b : Nat} (hB : mbs M bf) (ha : a < 7) (hb : b < 7) (hab : a ≠ b) : ∀ (n k : Nat) (Mk : mm_M), fm [] [7] M Mk → (∀ q, q < 60 * b ∨ 60 * b + 60 ≤ q → Mk.2 7 q = M.2 7 q) → sg_at (Mk.2 7) (60 * b) ((bf a).take k) → k ≤ (bf a).length → (bf a).length - k < n → ∃ M', pf_X9_move_2 G N n (nI a) (nI b) (nI k) Mk = some M' ∧ M'.2 8 = upd (upd (M.2 8) b (nI (bf a).length)) a 0 ∧ M'.2 9 = upd (upd (M.2 9) b (M.2 9 a)) a 0 ∧ (∀ q, q < 60 * b ∨ 60 * b + 60 ≤ q → M'.2 7 q = M.2 7 q) ∧ sg_at (M'.2 7) (60 * b) (bf a) ∧ fm [] [7, 8, 9] M M' := by
  obtain ⟨q1, q2, q3⟩ := hB a ha
  intro n
  induction n with
  | zero => intro k Mk _ _ _ _ h; exact absurd h (Nat.not_lt_zero _)
  | succ n ih =>
    intro k Mk hf ho hs hk hn
    have e8 : Mk.2 8 = M.2 8 := hf.2 8 (by decide)
    have e9 : Mk.2 9 = M.2 9 := hf.2 9 (by decide)
    rw [pf_X9_move_2]
    simp only [aim (M := Mk) (k := 8) (j := a) ha (by decide), Option.bind_some]
    rw [e8, q1]
    by_cases hlt : k < (bf a).length
    · rw [if_neg (nI_ge hlt (by omega)), i60, i60]
      simp only [aim (M := Mk) (k := 7) (j := 60 * a + k) (show _ < 420 by omega) (by decide), sim (M := Mk) (k := 7) (j := 60 * b + k) _ (show _ < 420 by omega) (by decide), Option.bind_some, nI_1]
      have hv : Mk.2 7 (60 * a + k) = (bf a).getD k 0 := by
        rw [ho _ (by omega)]
        exact q3 k hlt
      rw [hv]
      refine ih (k + 1) _ (hf.si (k := 7) (by decide) _) (fun q hq => ?_) ?_ hlt (by omega)
      · show upd (Mk.2 7) (60 * b + k) _ q = _
        rw [pk_un (by omega)]
        exact ho q hq
      · exact sg_take hs hlt
    · have hke : k = (bf a).length := by omega
      rw [if_pos (nI_le (by omega) (by omega))]
      simp only [sim (k := 8) (j := b) _ hb (by decide), sim (k := 8) (j := a) _ ha (by decide), sim (k := 9) (j := b) _ hb (by decide), sim (k := 9) (j := a) _ ha (by decide), aim (k := 9) (j := a) ha (by decide), Option.bind_some]
      refine ⟨_, rfl, ?_, ?_, ho, ?_, ((((hf.wd (Y' := [7, 8, 9]) (fun j h => h) (by decide)).si (k := 8) (by decide) _).si (k := 9) (by decide) _).si (k := 8) (by decide) _).si (k := 9) (by decide) _⟩
      · show upd (upd (Mk.2 8) b _) a 0 = _
        rw [e8]
      · show upd (upd (Mk.2 9) b (Mk.2 9 a)) a 0 = _
        rw [e9]
      · rw [hke, List.take_length] at hs
        exact hs
theorem md_move {M : mm_M} {bf : Nat → List Int32} {a b : Nat} (hB : mbs M bf) (ha : a < 7) (hb : b < 7) (hab : a ≠ b) (hN : 61 ≤ N) : ∃ M', pf_X9_move G N M (nI a) (nI b) = some M' ∧ mbs M' (va_up (va_up bf b (bf a)) a []) ∧ M'.2 9 = upd (upd (M.2 9) b (M.2 9 a)) a 0 ∧ fm [] [7, 8, 9] M M' := by
  have h60 := (hB a ha).2.1
  obtain ⟨M', e, g8, g9, go, gs, gf⟩ := md_move_l (G := G) (N := N) hB ha hb hab N 0 M (fm.rf _ _ M) (fun _ _ => rfl) (sg_nil _ _) (Nat.zero_le _) (by omega)
  refine ⟨M', e, fun i hi => ?_, g9, gf⟩
  by_cases hia : i = a
  · subst hia
    rw [va_up_self]
    refine ⟨by rw [g8, pk_us]; rfl, Nat.zero_le _, sg_nil _ _⟩
  · rw [va_up_ne _ _ hia]
    by_cases hib : i = b
    · subst hib
      rw [va_up_self]
      exact ⟨by rw [g8, pk_un hia, pk_us], h60, gs⟩
    · rw [va_up_ne _ _ hib]
      obtain ⟨r1, r2, r3⟩ := hB i hi
      exact ⟨by rw [g8, pk_un hia, pk_un hib]; exact r1, r2, sg_cong r3 (fun q h1 h2 => go q (by omega))⟩
theorem md_drain_l {M : mm_M} {bf ch : Nat → List Int32} {a : Nat} (hB : mbs M bf) (hD : mds M ch) (ha : a < 7) (hr : (ch 6).length + (bf a).length ≤ 600) : ∀ (n k : Nat) (Mk : mm_M), fm [] [10] M Mk → (∀ q, q < 3600 → Mk.2 10 q = M.2 10 q) → sg_at (Mk.2 10) 3600 (ch 6 ++ (bf a).take k) → k ≤ (bf a).length → (bf a).length - k < n → ∃ M', pf_X9_drain_9 G N n (nI a) (nI (bf a).length) (nI k) Mk = some (nI (bf a).length, M') ∧ M'.2 8 = upd (M.2 8) a 0 ∧ M'.2 9 = upd (M.2 9) a 0 ∧ M'.2 11 = upd (M.2 11) 6 (nI (ch 6 ++ bf a).length) ∧ M'.2 14 = upd (M.2 14) 6 (M.2 14 6 + M.2 9 a) ∧ (∀ q, q < 3600 → M'.2 10 q = M.2 10 q) ∧ sg_at (M'.2 10) 3600 (ch 6 ++ bf a) ∧ fm [] [8, 9, 10, 11, 14] M M' := by
  obtain ⟨q1, q2, q3⟩ := hB a ha
  obtain ⟨d1, d2, d3⟩ := hD 6 (by decide)
  intro n
  induction n with
  | zero => intro k Mk _ _ _ _ h; exact absurd h (Nat.not_lt_zero _)
  | succ n ih =>
    intro k Mk hf ho hs hk hn
    have e7 : Mk.2 7 = M.2 7 := hf.2 7 (by decide)
    have e8 : Mk.2 8 = M.2 8 := hf.2 8 (by decide)
    have e9 : Mk.2 9 = M.2 9 := hf.2 9 (by decide)
    have e11 : Mk.2 11 = M.2 11 := hf.2 11 (by decide)
    have e14 : Mk.2 14 = M.2 14 := hf.2 14 (by decide)
    have a11 : ∀ M : mm_M, mm_ai M 11 6 = some (M.2 11 6) := fun M => aim (M := M) (k := 11) (j := 6) (by decide) (by decide)
    have a14 : ∀ M : mm_M, mm_ai M 14 6 = some (M.2 14 6) := fun M => aim (M := M) (k := 14) (j := 6) (by decide) (by decide)
    have s11 : ∀ (M : mm_M) (x : Int32), mm_si M 11 6 x = some (M.1, va_up M.2 11 (upd (M.2 11) 6 x)) := fun M x => sim (M := M) (k := 11) (j := 6) x (by decide) (by decide)
    have s14 : ∀ (M : mm_M) (x : Int32), mm_si M 14 6 x = some (M.1, va_up M.2 14 (upd (M.2 14) 6 x)) := fun M x => sim (M := M) (k := 14) (j := 6) x (by decide) (by decide)
    rw [pf_X9_drain_9]
    by_cases hlt : k < (bf a).length
    · rw [if_neg (nI_ge hlt (by omega)), i60]
      simp only [a11, Option.bind_some]
      rw [e11, d1, show (3600 : Int32) + nI (ch 6).length + nI k = nI (3600 + (ch 6).length + k) by rw [show (3600 : Int32) = nI 3600 from rfl, nI_add, nI_add]]
      simp only [aim (M := Mk) (k := 7) (j := 60 * a + k) (show _ < 420 by omega) (by decide), sim (M := Mk) (k := 10) (j := 3600 + (ch 6).length + k) _ (show _ < 4200 by omega) (by decide), Option.bind_some, nI_1]
      have hv : Mk.2 7 (60 * a + k) = (bf a).getD k 0 := by
        rw [e7]
        exact q3 k hlt
      rw [hv]
      refine ih (k + 1) _ (hf.si (k := 10) (by decide) _) (fun q hq => ?_) ?_ hlt (by omega)
      · show upd (Mk.2 10) _ _ q = _
        rw [pk_un (by omega)]
        exact ho q hq
      · show sg_at (upd (Mk.2 10) _ _) 3600 _
        rw [tk_s hlt, ← List.append_assoc]
        have := sg_snoc ((bf a).getD k 0) hs
        rw [List.length_append, tk_len (by omega), ← Nat.add_assoc] at this
        exact this
    · have hke : k = (bf a).length := by omega
      rw [if_pos (nI_le (by omega) (by omega))]
      simp only [a11, a14, s11, s14, sim (k := 8) (j := a) _ ha (by decide), sim (k := 9) (j := a) _ ha (by decide), aim (k := 9) (j := a) ha (by decide), Option.bind_some]
      refine ⟨_, rfl, ?_, ?_, ?_, ?_, ho, ?_, ((((hf.wd (Y' := [8, 9, 10, 11, 14]) (fun j h => h) (by decide)).si (k := 11) (by decide) _).si (k := 14) (by decide) _).si (k := 8) (by decide) _).si (k := 9) (by decide) _⟩
      · show upd (Mk.2 8) a 0 = _
        rw [e8]
      · show upd (Mk.2 9) a 0 = _
        rw [e9]
      · show upd (Mk.2 11) 6 (Mk.2 11 6 + nI (bf a).length) = _
        rw [e11, d1, nI_add, List.length_append]
      · show upd (Mk.2 14) 6 (Mk.2 14 6 + Mk.2 9 a) = _
        rw [e14, e9]
      · rw [hke, List.take_length] at hs
        exact hs
theorem md_drain {M : mm_M} {bf ch : Nat → List Int32} {a : Nat} (hB : mbs M bf) (hD : mds M ch) (ha : a < 7) (hr : (ch 6).length + (bf a).length ≤ 600) (hN : 61 ≤ N) : ∃ M', pf_X9_drain G N M (nI a) = some (nI (bf a).length, M') ∧ mbs M' (va_up bf a []) ∧ mds M' (va_up ch 6 (ch 6 ++ bf a)) ∧ M'.2 9 = upd (M.2 9) a 0 ∧ M'.2 14 = upd (M.2 14) 6 (M.2 14 6 + M.2 9 a) ∧ fm [] [8, 9, 10, 11, 14] M M' := by
  have h60 := (hB a ha).2.1
  have h6 := hD 6 (by decide)
  obtain ⟨M', e, g8, g9, g11, g14, go, gs, gf⟩ := md_drain_l (G := G) (N := N) hB hD ha hr N 0 M (fm.rf _ _ M) (fun _ _ => rfl) (by rw [List.take_zero, List.append_nil]; exact h6.2.2) (Nat.zero_le _) (by omega)
  refine ⟨M', ?_, fun i hi => ?_, fun i hi => ?_, g9, g14, gf⟩
  · unfold pf_X9_drain
    simp only [aim (M := M) (k := 8) (j := a) ha (by decide), Option.bind_some, (hB a ha).1]
    exact e
  · obtain ⟨r1, r2, r3⟩ := hB i hi
    have e7 : M'.2 7 = M.2 7 := gf.2 7 (by decide)
    by_cases hia : i = a
    · subst hia
      rw [va_up_self]
      exact ⟨by rw [g8, pk_us]; rfl, Nat.zero_le _, sg_nil _ _⟩
    · rw [va_up_ne _ _ hia]
      exact ⟨by rw [g8, pk_un hia]; exact r1, r2, by rw [e7]; exact r3⟩
  · obtain ⟨r1, r2, r3⟩ := hD i hi
    by_cases hi6 : i = 6
    · subst hi6
      rw [va_up_self]
      exact ⟨by rw [g11, pk_us], by rw [List.length_append]; exact hr, gs⟩
    · rw [va_up_ne _ _ hi6]
      exact ⟨by rw [g11, pk_un hi6]; exact r1, r2, sg_cong r3 (fun q h1 h2 => go q (by omega))⟩
end MDB
