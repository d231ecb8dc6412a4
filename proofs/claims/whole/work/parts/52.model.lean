/-! the reference's state: what stays, stretches of its arrays -/
def fm (X Y : List Nat) (M M' : mm_M) : Prop := (∀ j, j ∉ X → M'.1 j = M.1 j) ∧ ∀ k, k ∉ Y → M'.2 k = M.2 k
theorem fm.rf (X Y : List Nat) (M : mm_M) : fm X Y M M := ⟨fun _ _ => rfl, fun _ _ => rfl⟩
theorem fm.tr {X Y : List Nat} {M M' M'' : mm_M} (h : fm X Y M M') (h' : fm X Y M' M'') : fm X Y M M'' := ⟨fun j hj => (h'.1 j hj).trans (h.1 j hj), fun k hk => (h'.2 k hk).trans (h.2 k hk)⟩
theorem fm.wd {X Y X' Y' : List Nat} {M M' : mm_M} (h : fm X Y M M') (hX : ∀ j ∈ X, j ∈ X') (hY : ∀ j ∈ Y, j ∈ Y') : fm X' Y' M M' := ⟨fun j hj => h.1 j (fun z => hj (hX j z)), fun k hk => h.2 k (fun z => hk (hY k z))⟩
theorem fm.pf {X Y : List Nat} {M M' : mm_M} (h : fm X Y M M') {j : Nat} (hj : j ∈ X) (v : Int32) : fm X Y M (va_up M'.1 j v, M'.2) := ⟨fun i hi => (va_up_ne M'.1 v (fun z => hi (by rw [z]; exact hj))).trans (h.1 i hi), h.2⟩
theorem fm.si {X Y : List Nat} {M M' : mm_M} (h : fm X Y M M') {k : Nat} (hk : k ∈ Y) (f : Nat → Int32) : fm X Y M (M'.1, va_up M'.2 k f) := ⟨h.1, fun i hi => (va_up_ne M'.2 f (fun z => hi (by rw [z]; exact hk))).trans (h.2 i hi)⟩
theorem aim {M : mm_M} {k j : Nat} (hj : j < mm_ln k) (hn : mm_ln k < 2 ^ 31) : mm_ai M k (nI j) = some (M.2 k j) := by
  unfold mm_ai
  rw [if_pos (nI_in hj hn), nI_clamp (by omega)]
theorem sim {M : mm_M} {k j : Nat} (x : Int32) (hj : j < mm_ln k) (hn : mm_ln k < 2 ^ 31) : mm_si M k (nI j) x = some (M.1, va_up M.2 k (upd (M.2 k) j x)) := by
  unfold mm_si
  rw [if_pos (nI_in hj hn), nI_clamp (by omega)]
def sg_at (f : Nat → Int32) (o : Nat) (l : List Int32) : Prop := ∀ i, i < l.length → f (o + i) = l.getD i 0
theorem sg_nil (f : Nat → Int32) (o : Nat) : sg_at f o [] := fun i h => absurd h (Nat.not_lt_zero i)
theorem sg_snoc {f : Nat → Int32} {o : Nat} {l : List Int32} (x : Int32) (h : sg_at f o l) : sg_at (upd f (o + l.length) x) o (l ++ [x]) := by
  intro i hi
  rw [List.length_append, List.length_singleton] at hi
  by_cases h9 : i = l.length
  · subst h9
    rw [pk_us, gd_s]
  · rw [pk_un (by omega), gd_l (by omega)]
    exact h i (by omega)
theorem sg_keep {f : Nat → Int32} {o k : Nat} {l : List Int32} (x : Int32) (h : sg_at f o l) (hk : k < o ∨ o + l.length ≤ k) : sg_at (upd f k x) o l := fun i hi => by
  rw [pk_un (by omega)]
  exact h i hi
section MDV
variable {G : Nat → ClassId} {N : Nat}
theorem md_v39 {K : Int32 → Int32 → mm_M → Option mm_M} {M : mm_M} {ev : List Int32} {y3 y4 w2 w3 x : Int32} (h38 : M.1 38 = nI ev.length) (hs : sg_at (M.2 24) 0 ev) (hl : ev.length < 64) (hx : w2 + w3 = x) : ∃ M', fm [38] [24] M M' ∧ M'.1 38 = nI (ev ++ [x]).length ∧ sg_at (M'.2 24) 0 (ev ++ [x]) ∧ pf_X9_variable_39 G N K y3 y4 (M.1 38) w2 w3 M = if ¬ y4 = 0 then K y4 (y3 + 1) M' else some M' := by
  refine ⟨(va_up M.1 38 (nI ev.length + 1), va_up M.2 24 (upd (M.2 24) ev.length x)), ((fm.rf [38] [24] M).si (k := 24) (by decide) _).pf (j := 38) (by decide) _, ?_, ?_, ?_⟩
  · rw [List.length_append, List.length_singleton, ← nI_1]
    exact va_up_self M.1 38 (nI ev.length + 1)
  · show sg_at (va_up M.2 24 _ 24) 0 _
    rw [va_up_self]
    have := sg_snoc x hs
    rw [Nat.zero_add] at this
    exact this
  · unfold pf_X9_variable_39
    rw [h38, hx]
    simp only [sim (M := M) (k := 24) (j := ev.length) x hl (by decide), Option.bind_some, mm_pf, h38]
theorem md_var_l : ∀ (n kk : Nat) (M : mm_M) (ev : List Int32) (v : Int32), M.1 38 = nI ev.length → sg_at (M.2 24) 0 ev → ev.length + vl (un v) ≤ 64 → kk + vl (un v) ≤ 5 → vl (un v) ≤ n → ∃ M', pf_X9_variable_4 G N n v (nI kk) M = some M' ∧ M'.1 38 = nI (ev ++ vb v).length ∧ sg_at (M'.2 24) 0 (ev ++ vb v) ∧ fm [38] [24] M M' := by
  intro n
  induction n with
  | zero => intro kk M ev v _ _ _ _ h; have := vl_le (un v); omega
  | succ n ih =>
    intro kk M ev v h38 hs hl hk hn
    have hv := vl_le (un v)
    rw [pf_X9_variable_4, if_neg (show ¬ (5 : Int32) ≤ nI kk from nI_ge (b := 5) (by omega) (by omega))]
    by_cases hu : un v < 128
    · have h0 := (sh7_0 v).mpr hu
      obtain ⟨M1, f1, g1, g2, g3⟩ := md_v39 (G := G) (N := N) (K := pf_X9_variable_4 G N n) (M := M) (ev := ev) (y3 := nI kk) (y4 := mw_ushr v 7) (w2 := v &&& 127) (w3 := 0) h38 hs (by omega) (Int32.add_zero _)
      rw [if_pos h0, g3, if_neg (fun z => z h0)]
      exact ⟨M1, rfl, by rw [vb_1 hu]; exact g1, by rw [vb_1 hu]; exact g2, f1⟩
    · have h0 : ¬ mw_ushr v 7 = 0 := fun z => hu ((sh7_0 v).mp z)
      have h3 := vl_s hu (un_lt v)
      obtain ⟨M1, f1, g1, g2, g3⟩ := md_v39 (G := G) (N := N) (K := pf_X9_variable_4 G N n) (M := M) (ev := ev) (y3 := nI kk) (y4 := mw_ushr v 7) (w2 := v &&& 127) (w3 := 128) h38 hs (by omega) rfl
      rw [if_neg h0, g3, if_pos h0, nI_1]
      obtain ⟨M2, e2, q1, q2, f2⟩ := ih (kk + 1) M1 _ (mw_ushr v 7) g1 g2 (by rw [List.length_append, List.length_singleton, u7]; omega) (by rw [u7]; omega) (by rw [u7]; omega)
      refine ⟨M2, e2, ?_, ?_, f1.tr f2⟩
      · rw [vb_s hu]
        rw [List.append_assoc] at q1
        exact q1
      · rw [vb_s hu]
        rw [List.append_assoc] at q2
        exact q2
theorem md_var {M : mm_M} {ev : List Int32} (v : Int32) (h38 : M.1 38 = nI ev.length) (hs : sg_at (M.2 24) 0 ev) (hl : ev.length + vl (un v) ≤ 64) (hN : 5 ≤ N) : ∃ M', pf_X9_variable G N M v = some M' ∧ M'.1 38 = nI (ev ++ vb v).length ∧ sg_at (M'.2 24) 0 (ev ++ vb v) ∧ fm [38] [24] M M' := by
  have hv := vl_le (un v)
  exact md_var_l N 0 M ev v h38 hs hl (by omega) (by omega)
theorem md_wid_l : ∀ (n k : Nat) (M : mm_M) (v : Int32), vl (un v) < n + 1 → pf_X9_width_7 G N (n + 1) (nI k) (mw_ushr v 7) M = some (nI (k + vl (un v) - 1), M) := by
  intro n
  induction n with
  | zero => intro k M v h; have := vl_le (un v); omega
  | succ n ih =>
    intro k M v h
    have hv := vl_le (un v)
    rw [pf_X9_width_7]
    by_cases hu : un v < 128
    · rw [if_pos ((sh7_0 v).mpr hu), vl_1 hu]
      rfl
    · have h3 := vl_s hu (un_lt v)
      rw [if_neg (fun z => hu ((sh7_0 v).mp z)), nI_1, ih (k + 1) M (mw_ushr v 7) (by rw [u7]; omega), u7, h3]
      congr 3
      omega
theorem md_wid {M : mm_M} (v : Int32) (hN : 7 ≤ N) : pf_X9_width G N M v = some (nI (vl (un v)), M) := by
  have hv := vl_le (un v)
  unfold pf_X9_width
  have h := md_wid_l (G := G) (N := N) (N - 1) 1 M v (by omega)
  rw [show N - 1 + 1 = N by omega, show 1 + vl (un v) - 1 = vl (un v) by omega] at h
  exact h
end MDV
