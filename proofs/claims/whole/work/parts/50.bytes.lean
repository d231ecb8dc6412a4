/-! reading and writing a map of cells -/
theorem up_s (S : mw_M) (a : Nat) (e : va_E) : (mw_up S a e).1 a = some e := if_pos rfl
theorem up_n (S : mw_M) {a q : Nat} (e : va_E) (h : q ≠ a) : (mw_up S a e).1 q = S.1 q := if_neg h
theorem gi_q {S : mw_M} {a ci k : Nat} {fs : List Value} {v : Int32} (h : S.1 a = some (.inr (ci, fs))) (hk : fs[k]? = some (.int v)) : mw_gi S a ci k = some v := by
  simp [mw_gi, mw_gv, h, hk]
theorem gr_q {S : mw_M} {a ci k : Nat} {fs : List Value} {v : Nat} (h : S.1 a = some (.inr (ci, fs))) (hk : fs[k]? = some (.ref v)) : mw_gr S a ci k = some v := by
  simp [mw_gr, mw_gv, h, hk]
theorem pf_q {S : mw_M} {a ci k : Nat} {fs : List Value} (v : Value) (h : S.1 a = some (.inr (ci, fs))) (hk : k < fs.length) : mw_pf S a ci k v = some (mw_up S a (.inr (ci, fs.set k v))) := by
  simp [mw_pf, h, hk]
theorem ai_q {S : mw_M} {a n j : Nat} {cA : ClassId} {f : Nat → Int32} (h : S.1 a = some (.inl (cA, n, .inl f))) (hj : j < n) (hn : n < 2 ^ 31) : mw_ai S a cA (nI j) = some (f j) := by
  unfold mw_ai
  rw [h]
  show (if _ then _ else _) = _
  rw [if_pos ⟨rfl, nI_in hj hn⟩, nI_clamp (by omega)]
theorem si_q {S : mw_M} {a n j : Nat} {cA : ClassId} {f : Nat → Int32} (x : Int32) (h : S.1 a = some (.inl (cA, n, .inl f))) (hj : j < n) (hn : n < 2 ^ 31) : mw_si S a cA (nI j) x = some (mw_up S a (.inl (cA, n, .inl (upd f j x)))) := by
  unfold mw_si
  rw [h]
  show (if _ then _ else _) = _
  rw [if_pos ⟨rfl, nI_in hj hn⟩, nI_clamp (by omega)]
theorem al_q {S : mw_M} {a : Nat} {cA : ClassId} {x : vp_A} (h : S.1 a = some (.inl (cA, x))) : mw_al S a cA = some (nI x.1) := by
  unfold mw_al
  rw [h]
  exact if_pos rfl
theorem aq_q {S : mw_M} {a n j v : Nat} {cA : ClassId} {f : Nat → Option Nat} (h : S.1 a = some (.inl (cA, n, .inr (.inr (.inr (.inr f)))))) (hj : j < n) (hn : n < 2 ^ 31) (hv : f j = some v) : mw_aq S a cA (nI j) = some v := by
  unfold mw_aq
  rw [h]
  show (if _ then _ else _) = _
  rw [if_pos ⟨rfl, nI_in hj hn⟩, nI_clamp (by omega)]
  exact hv
theorem ob_q {S : mw_M} {a ci : Nat} {fs : List Value} (h : S.1 a = some (.inr (ci, fs))) : mw_ob S a ci = true := by
  simp [mw_ob, h]
theorem sq_q {S : mw_M} {a n j v ci : Nat} {cA : ClassId} {f : Nat → Option Nat} {fs : List Value} (h : S.1 a = some (.inl (cA, n, .inr (.inr (.inr (.inr f)))))) (hj : j < n) (hn : n < 2 ^ 31) (hv : S.1 v = some (.inr (ci, fs))) : mw_sq S a cA ci (nI j) v = some (mw_up S a (.inl (cA, n, .inr (.inr (.inr (.inr (va_up f j (some v)))))))) := by
  unfold mw_sq
  rw [h]
  show (if _ then _ else _) = _
  rw [if_pos ⟨⟨rfl, nI_in hj hn⟩, ob_q hv⟩, nI_clamp (by omega)]
theorem v_q {α : Type} {S : mw_M} {a ci : Nat} {fs : List Value} (o : Option α) (h : S.1 a = some (.inr (ci, fs))) : mw_v S a ci o = o := by
  unfold mw_v
  exact if_pos (ob_q h)
def sm_p (X : Nat → Prop) (S S' : mw_M) : Prop := (∀ q, ¬ X q → S'.1 q = S.1 q) ∧ S'.2 = S.2
theorem sm_p.rf (X : Nat → Prop) (S : mw_M) : sm_p X S S := ⟨fun _ _ => rfl, rfl⟩
theorem sm_p.tr {X : Nat → Prop} {S S' S'' : mw_M} (h : sm_p X S S') (h' : sm_p X S' S'') : sm_p X S S'' := ⟨fun q hq => (h'.1 q hq).trans (h.1 q hq), h'.2.trans h.2⟩
theorem sm_p.wd {X Y : Nat → Prop} {S S' : mw_M} (h : sm_p X S S') (hXY : ∀ q, X q → Y q) : sm_p Y S S' := ⟨fun q hq => h.1 q (fun hx => hq (hXY q hx)), h.2⟩
theorem sm_p.up {X : Nat → Prop} {S S' : mw_M} {a : Nat} (e : va_E) (h : sm_p X S S') (ha : X a) : sm_p X S (mw_up S' a e) := ⟨fun q hq => (up_n S' e (fun z => hq (by rw [z]; exact ha))).trans (h.1 q hq), h.2⟩
theorem gd_l {l m : List Int32} {i : Nat} (h : i < l.length) : (l ++ m).getD i 0 = l.getD i 0 := by
  rw [List.getD_eq_getElem?_getD, List.getD_eq_getElem?_getD, List.getElem?_append_left h]
theorem gd_r {l m : List Int32} {i : Nat} (h : l.length ≤ i) : (l ++ m).getD i 0 = m.getD (i - l.length) 0 := by
  rw [List.getD_eq_getElem?_getD, List.getD_eq_getElem?_getD, List.getElem?_append_right h]
theorem gd_s {l : List Int32} {x : Int32} : (l ++ [x]).getD l.length 0 = x := by
  rw [gd_r (Nat.le_refl _), Nat.sub_self]
  rfl
theorem i2b_2 (x : Int32) : vp_nar .byte (mw_i2b x) = mw_i2b x := pk_vb x
theorem i2b_3 (x : Int32) : mw_i2b (mw_i2b x) = mw_i2b x := (vp_nar_byte (mw_i2b x)).symm.trans (pk_vb x)
/-! a row of bytes -/
def br_R (G : Nat → ClassId) (S : mw_M) (a c : Nat) (l : List Int32) : Prop := S.1 a = some (.inr (0, [.ref (a + 1), .int (nI l.length)])) ∧ l.length ≤ c ∧ c < 1000000 ∧ ∃ f : Nat → Int32, S.1 (a + 1) = some (.inl (G 1, c, .inl f)) ∧ ∀ i, i < l.length → f i = mw_i2b (l.getD i 0)
abbrev br_X (a : Nat) : Nat → Prop := fun q => q = a ∨ q = a + 1
theorem br_R.kp {G : Nat → ClassId} {S S' : mw_M} {a c : Nat} {l : List Int32} (h : br_R G S a c l) (h0 : S'.1 a = S.1 a) (h1 : S'.1 (a + 1) = S.1 (a + 1)) : br_R G S' a c l := by
  obtain ⟨e1, e2, e3, f, e4, e5⟩ := h
  exact ⟨by rw [h0]; exact e1, e2, e3, f, by rw [h1]; exact e4, e5⟩
theorem br_R.sm {G : Nat → ClassId} {S S' : mw_M} {a c : Nat} {l : List Int32} {X : Nat → Prop} (h : br_R G S a c l) (hs : sm_p X S S') (h0 : ¬ X a) (h1 : ¬ X (a + 1)) : br_R G S' a c l := h.kp (hs.1 a h0) (hs.1 (a + 1) h1)
section BRS
variable {G : Nat → ClassId} {N : Nat} {S : mw_M} {a c : Nat} {l : List Int32}
theorem br_add (h : br_R G S a c l) (hl : l.length < c) (x : Int32) : ∃ S', pf_X0_add G N S a x = some S' ∧ br_R G S' a c (l ++ [x]) ∧ sm_p (br_X a) S S' := by
  obtain ⟨e1, e2, e3, f, e4, e5⟩ := h
  have hne : a ≠ a + 1 := by omega
  generalize hS1 : mw_up S (a + 1) (.inl (G 1, c, .inl (upd f l.length (vp_nar .byte (mw_i2b x))))) = S1
  have g1 : S1.1 a = some (.inr (0, [.ref (a + 1), .int (nI l.length)])) := by rw [← hS1, up_n _ _ hne]; exact e1
  have g2 : S1.1 (a + 1) = some (.inl (G 1, c, .inl (upd f l.length (vp_nar .byte (mw_i2b x))))) := by rw [← hS1]; exact up_s _ _ _
  refine ⟨mw_up S1 a (.inr (0, [.ref (a + 1), .int (nI l.length + 1)])), ?_, ⟨?_, ?_, e3, upd f l.length (vp_nar .byte (mw_i2b x)), ?_, ?_⟩, ⟨fun q hq => ?_, ?_⟩⟩
  · unfold pf_X0_add
    simp only [gi_q (k := 1) e1 rfl, gr_q (k := 0) e1 rfl, al_q e4, Option.bind_some]
    rw [if_neg (nI_ge hl (by omega))]
    simp only [si_q _ e4 hl (by omega), hS1, Option.bind_some, gi_q (k := 1) g1 rfl, pf_q _ g1 (k := 1) (Nat.le_of_ble_eq_true rfl)]
    rfl
  · rw [up_s, List.length_append, List.length_singleton, ← nI_1]
  · rw [List.length_append, List.length_singleton]; omega
  · rw [up_n _ _ (by omega)]; exact g2
  · intro i hi
    rw [List.length_append, List.length_singleton] at hi
    by_cases h9 : i = l.length
    · subst h9
      rw [pk_us, gd_s, i2b_2]
    · rw [pk_un h9, gd_l (by omega)]
      exact e5 i (by omega)
  · rw [up_n _ _ (fun z => hq (Or.inl z)), ← hS1, up_n _ _ (fun z => hq (Or.inr z))]
  · rw [← hS1]; rfl
theorem br_clear (h : br_R G S a c l) : ∃ S', pf_X0_clear G N S a = some S' ∧ br_R G S' a c [] ∧ sm_p (br_X a) S S' := by
  obtain ⟨e1, e2, e3, f, e4, e5⟩ := h
  refine ⟨mw_up S a (.inr (0, [.ref (a + 1), .int 0])), ?_, ⟨?_, Nat.zero_le _, e3, f, ?_, fun i hi => absurd hi (Nat.not_lt_zero i)⟩, (sm_p.rf _ S).up _ (Or.inl rfl)⟩
  · unfold pf_X0_clear
    simp only [pf_q _ e1 (k := 1) (Nat.le_of_ble_eq_true rfl), Option.bind_some]
    rfl
  · rw [up_s]; rfl
  · rw [up_n _ _ (by omega)]; exact e4
theorem br_length (h : br_R G S a c l) : pf_X0_length G N S a = some (nI l.length, S) := by
  unfold pf_X0_length
  simp only [gi_q (k := 1) h.1 rfl, Option.bind_some]
theorem br_room (h : br_R G S a c l) : pf_X0_room G N S a = some (nI c - nI l.length, S) := by
  obtain ⟨e1, e2, e3, f, e4, e5⟩ := h
  unfold pf_X0_room
  simp only [gi_q (k := 1) e1 rfl, gr_q (k := 0) e1 rfl, al_q e4, Option.bind_some]
theorem br_at (h : br_R G S a c l) (x : Int32) : pf_X0_at G N S a x = some (if x < 0 ∨ nI l.length ≤ x then -1 else mw_i2b (l.getD x.toNatClampNeg 0) &&& 255, S) := by
  obtain ⟨e1, e2, e3, f, e4, e5⟩ := h
  unfold pf_X0_at
  by_cases h0 : x < 0
  · rw [if_pos h0, if_pos (Or.inl h0)]
  rw [if_neg h0]
  simp only [gi_q (k := 1) e1 rfl, Option.bind_some]
  by_cases h1 : nI l.length ≤ x
  · rw [if_pos h1, if_pos (Or.inr h1)]
  rw [if_neg h1, if_neg (fun z => z.elim h0 h1)]
  obtain ⟨j, hj, rfl, -, hc, -⟩ := pk_mu h0 h1 (by omega)
  simp only [gr_q (k := 0) e1 rfl, ai_q e4 (show j < c by omega) (by omega), Option.bind_some]
  rw [hc, e5 j hj]
theorem br_addRow_l : ∀ (n : Nat) {r c2 : Nat} {l2 : List Int32} (k : Nat) (S : mw_M) (l : List Int32), br_R G S a c l → br_R G S r c2 l2 → (r ≠ a ∧ r ≠ a + 1 ∧ r + 1 ≠ a) → l.length + (l2.length - k) ≤ c → k ≤ l2.length → l2.length - k < n → ∃ S', pf_X0_addRow_2 G N n a r (nI k) S = some S' ∧ br_R G S' a c (l ++ l2.drop k) ∧ sm_p (br_X a) S S' := by
  intro n
  induction n with
  | zero => intro r c2 l2 k S l _ _ _ _ _ h; exact absurd h (Nat.not_lt_zero _)
  | succ n ih =>
    intro r c2 l2 k S l h1 h2 hd hc hk hn
    obtain ⟨d1, d2, d3, f, d4, d5⟩ := h2
    rw [pf_X0_addRow_2]
    simp only [gi_q (k := 1) d1 rfl, Option.bind_some]
    by_cases hlt : k < l2.length
    · rw [if_neg (nI_ge hlt (by omega))]
      simp only [gr_q (k := 0) d1 rfl, ai_q d4 (show k < c2 by omega) (by omega), Option.bind_some, v_q _ h1.1]
      obtain ⟨S1, e1, b1, s1⟩ := br_add (N := N) h1 (by omega) (f k)
      simp only [e1, Option.bind_some, nI_1]
      have b2 : br_R G S1 r c2 l2 := br_R.sm ⟨d1, d2, d3, f, d4, d5⟩ s1 (fun z => by rcases z with z | z <;> omega) (fun z => by rcases z with z | z <;> omega)
      obtain ⟨S2, e2, b3, s2⟩ := ih (k + 1) S1 (l ++ [f k]) b1 b2 hd (by rw [List.length_append, List.length_singleton]; omega) hlt (by omega)
      refine ⟨S2, e2, ?_, s1.tr s2⟩
      obtain ⟨g1, g2, g3, f2, g4, g5⟩ := b3
      have hlen : (l ++ l2.drop k).length = (l ++ [f k] ++ l2.drop (k + 1)).length := by
        simp only [List.length_append, List.length_drop, List.length_singleton]; omega
      refine ⟨by rw [hlen]; exact g1, by rw [hlen]; exact g2, g3, f2, g4, fun i hi => ?_⟩
      rw [g5 i (by rw [← hlen]; exact hi)]
      by_cases i1 : i < l.length
      · rw [gd_l (show i < (l ++ [f k]).length by rw [List.length_append]; omega), gd_l i1, gd_l i1]
      · by_cases i2 : i = l.length
        · subst i2
          rw [gd_l (show l.length < (l ++ [f k]).length by rw [List.length_append, List.length_singleton]; omega), gd_s, gd_r (Nat.le_refl _), Nat.sub_self, d5 k hlt, i2b_3]
          congr 1
          simp [List.getD_eq_getElem?_getD]
        · rw [gd_r (show (l ++ [f k]).length ≤ i by rw [List.length_append, List.length_singleton]; omega), gd_r (show l.length ≤ i by omega)]
          simp only [List.getD_eq_getElem?_getD, List.getElem?_drop, List.length_append, List.length_singleton]
          congr 3
          omega
    · rw [if_pos (nI_le (by omega) (by omega))]
      refine ⟨S, rfl, ?_, sm_p.rf _ S⟩
      rw [List.drop_eq_nil_of_le (by omega), List.append_nil]
      exact h1
theorem br_addRow {r c2 : Nat} {l2 : List Int32} (h1 : br_R G S a c l) (h2 : br_R G S r c2 l2) (hd : r ≠ a ∧ r ≠ a + 1 ∧ r + 1 ≠ a) (hc : l.length + l2.length ≤ c) (hN : l2.length < N) : ∃ S', pf_X0_addRow G N S a r = some S' ∧ br_R G S' a c (l ++ l2) ∧ sm_p (br_X a) S S' := by
  obtain ⟨S', e1, b1, s1⟩ := br_addRow_l (N := N) N 0 S l h1 h2 hd (by omega) (Nat.zero_le _) (by omega)
  exact ⟨S', e1, b1, s1⟩
theorem br_moveTo {r c2 : Nat} {l2 : List Int32} (h1 : br_R G S a c l) (h2 : br_R G S r c2 l2) (hd : r ≠ a ∧ r ≠ a + 1 ∧ r + 1 ≠ a) (hc : l.length + l2.length ≤ c) (hN : l2.length < N) : ∃ S', pf_X0_moveTo G N S r a = some S' ∧ br_R G S' a c (l ++ l2) ∧ br_R G S' r c2 [] ∧ sm_p (fun q => br_X a q ∨ br_X r q) S S' := by
  obtain ⟨S1, e1, b1, s1⟩ := br_addRow h1 h2 hd hc hN
  have b2 : br_R G S1 r c2 l2 := h2.sm s1 (fun z => by rcases z with z | z <;> omega) (fun z => by rcases z with z | z <;> omega)
  obtain ⟨S2, e2, b3, s2⟩ := br_clear (N := N) b2
  refine ⟨S2, ?_, b1.sm s2 (fun z => by rcases z with z | z <;> omega) (fun z => by rcases z with z | z <;> omega), b3, (s1.wd (fun q h => Or.inl h)).tr (s2.wd (fun q h => Or.inr h))⟩
  unfold pf_X0_moveTo
  simp only [v_q _ h1.1, e1, Option.bind_some, v_q _ b2.1, e2]
end BRS
