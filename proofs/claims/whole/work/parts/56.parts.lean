/-! a thread -/
def th_R (G : Nat → ClassId) (S : mw_M) (a : Nat) (x y z : Int32) (f : Nat → Int32) (c : Nat) (l : List Int32) : Prop := S.1 a = some (.inr (3, [.ref (a + 1), .ref (a + 2), .int x, .int y, .int z])) ∧ S.1 (a + 1) = some (.inl (G 0, 3, .inl f)) ∧ br_R G S (a + 2) c l
theorem th_R.sm {G : Nat → ClassId} {S S' : mw_M} {a c : Nat} {x y z : Int32} {f : Nat → Int32} {l : List Int32} {X : Nat → Prop} (h : th_R G S a x y z f c l) (hs : sm_p X S S') (h0 : ¬ X a) (h1 : ¬ X (a + 1)) (h2 : ¬ X (a + 2)) (h3 : ¬ X (a + 3)) : th_R G S' a x y z f c l := ⟨by rw [hs.1 a h0]; exact h.1, by rw [hs.1 _ h1]; exact h.2.1, h.2.2.sm hs h2 h3⟩
section THS
variable {G : Nat → ClassId} {N : Nat} {S : mw_M} {a c : Nat} {x y z : Int32} {f : Nat → Int32} {l : List Int32}
theorem th_up (h : th_R G S a x y z f c l) (x' y' z' : Int32) : th_R G (mw_up S a (.inr (3, [.ref (a + 1), .ref (a + 2), .int x', .int y', .int z']))) a x' y' z' f c l := ⟨up_s _ _ _, by rw [up_n _ _ (by omega)]; exact h.2.1, h.2.2.kp (up_n _ _ (by omega)) (up_n _ _ (by omega))⟩
theorem th_beg {k : Nat} (h : th_R G S a (nI k) y z f c l) (hk : k < 3) (t : Int32) : ∃ S', pf_X3_beginAt G N S a t = some (1, S') ∧ th_R G S' a (nI (k + 1)) y z (upd f k t) c l ∧ sm_p (br_X a) S S' := by
  have h9 := h
  obtain ⟨e1, e2, e3⟩ := h
  generalize hS1 : mw_up S (a + 1) (.inl (G 0, 3, .inl (upd f k t))) = S1
  have g : th_R G S1 a (nI k) y z (upd f k t) c l := by
    rw [← hS1]
    exact ⟨by rw [up_n _ _ (by omega)]; exact e1, up_s _ _ _, e3.kp (up_n _ _ (by omega)) (up_n _ _ (by omega))⟩
  refine ⟨_, ?_, th_up g (nI (k + 1)) y z, ?_⟩
  · unfold pf_X3_beginAt
    simp only [gi_q (k := 2) e1 rfl, Option.bind_some]
    rw [if_pos (show nI k < 3 from nI_lt (b := 3) hk (by decide))]
    simp only [gr_q (k := 0) e1 rfl, si_q _ e2 hk (by decide), hS1, Option.bind_some, gi_q (k := 2) g.1 rfl, pf_q _ g.1 (k := 2) (Nat.le_of_ble_eq_true rfl), if_pos z1, nI_1]
    rfl
  · rw [← hS1]
    exact ((sm_p.rf _ S).up _ (Or.inr rfl)).up _ (Or.inl rfl)
theorem th_beg0 {k : Nat} (h : th_R G S a (nI k) y z f c l) (hk : 3 ≤ k) (hk2 : k < 2 ^ 31) (t : Int32) : pf_X3_beginAt G N S a t = some (0, S) := by
  unfold pf_X3_beginAt
  simp only [gi_q (k := 2) h.1 rfl, Option.bind_some]
  rw [if_neg (show ¬ nI k < 3 from nI_nlt (b := 3) hk hk2), if_pos z0]
theorem th_has {k : Nat} (h : th_R G S a (nI k) y z f c l) (hk : k < 2 ^ 31) : pf_X3_hasBegun G N S a = some (if k = 0 then 0 else 1, S) := by
  unfold pf_X3_hasBegun
  simp only [gi_q (k := 2) h.1 rfl, Option.bind_some]
  by_cases h0 : k = 0
  · subst h0
    rw [if_pos (show nI 0 ≤ 0 from by decide), if_pos z0, if_pos rfl]
  · rw [if_neg (nI_nle (by omega) hk), if_pos z1, if_neg h0]
theorem th_end {k : Nat} (h : th_R G S a (nI (k + 1)) y z f c l) (hk : k < 3) : ∃ S', pf_X3_endLatest G N S a = some (f k, S') ∧ th_R G S' a (nI k) y z f c l ∧ sm_p (br_X a) S S' := by
  have g := th_up h (nI k) y z
  refine ⟨_, ?_, g, (sm_p.rf _ S).up _ (Or.inl rfl)⟩
  unfold pf_X3_endLatest
  simp only [gi_q (k := 2) h.1 rfl, Option.bind_some]
  rw [if_pos (show 0 < nI (k + 1) from nI_lt (a := 0) (by omega) (by omega))]
  simp only [pf_q _ h.1 (k := 2) (Nat.le_of_ble_eq_true rfl), Option.bind_some, nI_pred]
  have g' : (mw_up S a (.inr (3, List.set [.ref (a + 1), .ref (a + 2), .int (nI (k + 1)), .int y, .int z] 2 (.int (nI k))))).1 a = some (.inr (3, [.ref (a + 1), .ref (a + 2), .int (nI k), .int y, .int z])) := g.1
  have g2 : (mw_up S a (.inr (3, List.set [.ref (a + 1), .ref (a + 2), .int (nI (k + 1)), .int y, .int z] 2 (.int (nI k))))).1 (a + 1) = some (.inl (G 0, 3, .inl f)) := g.2.1
  simp only [gr_q (k := 0) g' rfl, gi_q (k := 2) g' rfl, ai_q g2 hk (by decide), Option.bind_some]
  rfl
theorem th_buf (h : th_R G S a x y z f c l) : pf_X3_buffer G N S a = some (a + 2, S) := by
  unfold pf_X3_buffer
  simp only [gr_q (k := 1) h.1 rfl, Option.bind_some]
theorem th_lose (h : th_R G S a x y z f c l) : ∃ S', pf_X3_lose G N S a = some S' ∧ th_R G S' a x (y + 1) (z + 1) f c l ∧ sm_p (br_X a) S S' := by
  have g1 := th_up h x (y + 1) z
  have g2 := th_up g1 x (y + 1) (z + 1)
  refine ⟨_, ?_, g2, ((sm_p.rf _ S).up _ (Or.inl rfl)).up _ (Or.inl rfl)⟩
  unfold pf_X3_lose
  have g' : (mw_up S a (.inr (3, List.set [.ref (a + 1), .ref (a + 2), .int x, .int y, .int z] 3 (.int (y + 1))))).1 a = some (.inr (3, [.ref (a + 1), .ref (a + 2), .int x, .int (y + 1), .int z])) := g1.1
  simp only [gi_q (k := 3) h.1 rfl, pf_q _ h.1 (k := 3) (Nat.le_of_ble_eq_true rfl), Option.bind_some, gi_q (k := 4) g' rfl, pf_q _ g' (k := 4) (Nat.le_of_ble_eq_true rfl)]
  rfl
theorem th_take (h : th_R G S a x y z f c l) : ∃ S', pf_X3_takeLostInChunk G N S a = some (y, S') ∧ th_R G S' a x 0 z f c l ∧ sm_p (br_X a) S S' := by
  refine ⟨_, ?_, th_up h x 0 z, (sm_p.rf _ S).up _ (Or.inl rfl)⟩
  unfold pf_X3_takeLostInChunk
  simp only [gi_q (k := 3) h.1 rfl, pf_q _ h.1 (k := 3) (Nat.le_of_ble_eq_true rfl), Option.bind_some]
  rfl
theorem th_all (h : th_R G S a x y z f c l) : pf_X3_lostInAll G N S a = some (z, S) := by
  unfold pf_X3_lostInAll
  simp only [gi_q (k := 4) h.1 rfl, Option.bind_some]
end THS
/-! a recording -/
def rec_R (G : Nat → ClassId) (S : mw_M) (a : Nat) (x y z : Int32) (f g : Nat → Int32) : Prop := S.1 a = some (.inr (5, [.ref (a + 1), .ref (a + 2), .int x, .int y, .int z])) ∧ S.1 (a + 1) = some (.inl (G 3, 6, .inl f)) ∧ S.1 (a + 2) = some (.inl (G 0, 6, .inl g))
theorem rec_R.sm {G : Nat → ClassId} {S S' : mw_M} {a : Nat} {x y z : Int32} {f g : Nat → Int32} {X : Nat → Prop} (h : rec_R G S a x y z f g) (hs : sm_p X S S') (h0 : ¬ X a) (h1 : ¬ X (a + 1)) (h2 : ¬ X (a + 2)) : rec_R G S' a x y z f g := ⟨by rw [hs.1 a h0]; exact h.1, by rw [hs.1 _ h1]; exact h.2.1, by rw [hs.1 _ h2]; exact h.2.2⟩
section RCS
variable {G : Nat → ClassId} {N : Nat} {S : mw_M} {a : Nat} {x y z : Int32} {f g : Nat → Int32}
theorem rec_up (h : rec_R G S a x y z f g) (x' y' z' : Int32) : rec_R G (mw_up S a (.inr (5, [.ref (a + 1), .ref (a + 2), .int x', .int y', .int z']))) a x' y' z' f g := ⟨up_s _ _ _, by rw [up_n _ _ (by omega)]; exact h.2.1, by rw [up_n _ _ (by omega)]; exact h.2.2⟩
theorem rec_is (h : rec_R G S a x y z f g) (w : Int32) : pf_X5_is G N S a w = some (if x = w then 1 else 0, S) := by
  unfold pf_X5_is
  simp only [gi_q (k := 2) h.1 rfl, Option.bind_some]
  by_cases hw : x = w
  · rw [if_neg (fun q => q hw), if_pos z1, if_pos hw]
  · rw [if_pos hw, if_pos z0, if_neg hw]
theorem rec_isOn {t : Nat} (h : rec_R G S a x y z f g) (ht : t < 6) : pf_X5_isOn G N S a (nI t) = some (if f t = 0 then 1 else 0, S) := by
  unfold pf_X5_isOn
  rw [if_neg (nI_pos (by omega)), if_neg (show ¬ (6 : Int32) ≤ nI t from nI_ge (b := 6) ht (by decide))]
  simp only [gr_q (k := 0) h.1 rfl, ai_q h.2.1 ht (by decide), Option.bind_some]
  by_cases hw : f t = 0
  · rw [if_neg (fun q => q hw), if_pos z1, if_pos hw]
  · rw [if_pos hw, if_pos z0, if_neg hw]
theorem rec_ld {t : Nat} (h : rec_R G S a x y z f g) (ht : t < 6) : pf_X5_leastDuration G N S a (nI t) = some (g t, S) := by
  unfold pf_X5_leastDuration
  rw [if_neg (nI_pos (by omega)), if_neg (show ¬ (6 : Int32) ≤ nI t from nI_ge (b := 6) ht (by decide))]
  simp only [gr_q (k := 1) h.1 rfl, ai_q h.2.2 ht (by decide), Option.bind_some]
theorem rec_turn {t : Nat} (h : rec_R G S a x y z f g) (ht : t < 6) (w : Int32) : ∃ S', pf_X5_turn G N S a (nI t) w = some S' ∧ rec_R G S' a x y z (upd f t (if w = 0 then 1 else 0)) g ∧ sm_p (st_X a) S S' := by
  refine ⟨mw_up S (a + 1) (.inl (G 3, 6, .inl (upd f t (if w = 0 then 1 else 0)))), ?_, ⟨by rw [up_n _ _ (by omega)]; exact h.1, up_s _ _ _, by rw [up_n _ _ (by omega)]; exact h.2.2⟩, (sm_p.rf _ S).up _ (Or.inr (Or.inl rfl))⟩
  unfold pf_X5_turn
  rw [if_neg (nI_pos (by omega)), if_neg (show ¬ (6 : Int32) ≤ nI t from nI_ge (b := 6) ht (by decide))]
  simp only [gr_q (k := 0) h.1 rfl, si_q _ h.2.1 ht (by decide), Option.bind_some, z0, z1]
  by_cases hw : w = 0
  · rw [if_neg (fun q => q hw), if_pos hw]
  · rw [if_pos hw, if_neg hw]
theorem rec_limit {t : Nat} (h : rec_R G S a x y z f g) (ht : t < 6) (w : Int32) : ∃ S', pf_X5_limit G N S a (nI t) w = some S' ∧ rec_R G S' a x y z f (upd g t w) ∧ sm_p (st_X a) S S' := by
  refine ⟨mw_up S (a + 2) (.inl (G 0, 6, .inl (upd g t w))), ?_, ⟨by rw [up_n _ _ (by omega)]; exact h.1, by rw [up_n _ _ (by omega)]; exact h.2.1, up_s _ _ _⟩, (sm_p.rf _ S).up _ (Or.inr (Or.inr rfl))⟩
  unfold pf_X5_limit
  rw [if_neg (nI_pos (by omega)), if_neg (show ¬ (6 : Int32) ≤ nI t from nI_ge (b := 6) ht (by decide))]
  simp only [gr_q (k := 1) h.1 rfl, si_q _ h.2.2 ht (by decide), Option.bind_some]
theorem rec_run (h : rec_R G S a x y z f g) (w : Int32) : ∃ S', pf_X5_runFrom G N S a w = some S' ∧ rec_R G S' a 1 w z f g ∧ sm_p (st_X a) S S' := by
  have g1 := rec_up h 1 y z
  have g2 := rec_up g1 1 w z
  refine ⟨_, ?_, g2, ((sm_p.rf _ S).up _ (Or.inl rfl)).up _ (Or.inl rfl)⟩
  unfold pf_X5_runFrom
  have g' : (mw_up S a (.inr (5, List.set [.ref (a + 1), .ref (a + 2), .int x, .int y, .int z] 2 (.int 1)))).1 a = some (.inr (5, [.ref (a + 1), .ref (a + 2), .int 1, .int y, .int z])) := g1.1
  simp only [pf_q _ h.1 (k := 2) (Nat.le_of_ble_eq_true rfl), Option.bind_some, pf_q _ g' (k := 3) (Nat.le_of_ble_eq_true rfl)]
  rfl
theorem rec_endw (h : rec_R G S a x y z f g) (w : Int32) : ∃ S', pf_X5_endWith G N S a w = some S' ∧ rec_R G S' a 2 y w f g ∧ sm_p (st_X a) S S' := by
  have g1 := rec_up h 2 y z
  have g2 := rec_up g1 2 y w
  refine ⟨_, ?_, g2, ((sm_p.rf _ S).up _ (Or.inl rfl)).up _ (Or.inl rfl)⟩
  unfold pf_X5_endWith
  have g' : (mw_up S a (.inr (5, List.set [.ref (a + 1), .ref (a + 2), .int x, .int y, .int z] 2 (.int 2)))).1 a = some (.inr (5, [.ref (a + 1), .ref (a + 2), .int 2, .int y, .int z])) := g1.1
  simp only [pf_q _ h.1 (k := 2) (Nat.le_of_ble_eq_true rfl), Option.bind_some, pf_q _ g' (k := 4) (Nat.le_of_ble_eq_true rfl)]
  rfl
theorem rec_shut (h : rec_R G S a x y z f g) : ∃ S', pf_X5_shut G N S a = some S' ∧ rec_R G S' a 3 y z f g ∧ sm_p (st_X a) S S' := by
  refine ⟨_, ?_, rec_up h 3 y z, (sm_p.rf _ S).up _ (Or.inl rfl)⟩
  unfold pf_X5_shut
  simp only [pf_q _ h.1 (k := 2) (Nat.le_of_ble_eq_true rfl), Option.bind_some]
  rfl
theorem rec_phase (h : rec_R G S a x y z f g) : pf_X5_phase G N S a = some (x, S) := by
  unfold pf_X5_phase
  simp only [gi_q (k := 2) h.1 rfl, Option.bind_some]
theorem rec_first (h : rec_R G S a x y z f g) : pf_X5_firstChunk G N S a = some (y, S) := by
  unfold pf_X5_firstChunk
  simp only [gi_q (k := 3) h.1 rfl, Option.bind_some]
theorem rec_last (h : rec_R G S a x y z f g) : pf_X5_lastChunk G N S a = some (z, S) := by
  unfold pf_X5_lastChunk
  simp only [gi_q (k := 4) h.1 rfl, Option.bind_some]
end RCS
/-! the pool -/
def po_R (G : Nat → ClassId) (S : mw_M) (a p fi fu sz : Nat) (pb : Nat → List Int32) : Prop := S.1 a = some (.inr (4, [.ref (a + 1), .int (nI fi), .int (nI fu)])) ∧ (∃ g : Nat → Option Nat, S.1 (a + 1) = some (.inl (G 6, p, .inr (.inr (.inr (.inr g))))) ∧ ∀ i, i < p → g i = some (a + 2 + 2 * i)) ∧ ∀ i, i < p → br_R G S (a + 2 + 2 * i) sz (pb i)
abbrev po_X (a p : Nat) : Nat → Prop := fun q => a ≤ q ∧ q < a + 2 + 2 * p
theorem po_R.sm {G : Nat → ClassId} {S S' : mw_M} {a p fi fu sz : Nat} {pb : Nat → List Int32} {X : Nat → Prop} (h : po_R G S a p fi fu sz pb) (hs : sm_p X S S') (h0 : ∀ q, a ≤ q → q < a + 2 + 2 * p → ¬ X q) : po_R G S' a p fi fu sz pb := by
  obtain ⟨e1, ⟨g, e2, e3⟩, e4⟩ := h
  exact ⟨by rw [hs.1 a (h0 a (by omega) (by omega))]; exact e1, ⟨g, by rw [hs.1 _ (h0 (a + 1) (by omega) (by omega))]; exact e2, e3⟩, fun i hi => (e4 i hi).sm hs (h0 _ (by omega) (by omega)) (h0 _ (by omega) (by omega))⟩
section POS
variable {G : Nat → ClassId} {N : Nat} {S : mw_M} {a p fi fu sz : Nat} {pb : Nat → List Int32}
theorem po_up (h : po_R G S a p fi fu sz pb) (fi' fu' : Nat) : po_R G (mw_up S a (.inr (4, [.ref (a + 1), .int (nI fi'), .int (nI fu')]))) a p fi' fu' sz pb := by
  obtain ⟨e1, ⟨g, e2, e3⟩, e4⟩ := h
  exact ⟨up_s _ _ _, ⟨g, by rw [up_n _ _ (by omega)]; exact e2, e3⟩, fun i hi => (e4 i hi).kp (up_n _ _ (by omega)) (up_n _ _ (by omega))⟩
theorem po_full (h : po_R G S a p fi fu sz pb) : pf_X4_full G N S a = some (nI fu, S) := by
  unfold pf_X4_full
  simp only [gi_q (k := 2) h.1 rfl, Option.bind_some]
theorem po_take {r : Nat} {l : List Int32} (h : po_R G S a p fi fu sz pb) (hr : br_R G S r sz l) (hfu : fu < p) (hp : p ≤ 4) (hfi : fi < p) (hd : r + 1 < a ∨ a + 2 + 2 * p ≤ r) (hl : pb ((fi + fu) % p) = []) (hN : l.length < N) : ∃ S', pf_X4_takeOver G N S a r = some (1, S') ∧ po_R G S' a p fi (fu + 1) sz (va_up pb ((fi + fu) % p) l) ∧ br_R G S' r sz [] ∧ sm_p (fun q => po_X a p q ∨ br_X r q) S S' := by
  have h9 := h
  obtain ⟨e1, ⟨g, e2, e3⟩, e4⟩ := h
  have hm : (fi + fu) % p < p := Nat.mod_lt _ (by omega)
  obtain ⟨S1, m1, m2, m3, m4⟩ := br_moveTo (N := N) (e4 _ hm) hr (by omega) (by rw [hl]; have := hr.2.1; simp only [List.length_nil]; omega) hN
  have q1 : po_R G S1 a p fi fu sz (va_up pb ((fi + fu) % p) l) := by
    refine ⟨by rw [m4.1 a (by intro z; rcases z with (z | z) | (z | z) <;> omega)]; exact e1, ⟨g, by rw [m4.1 _ (by intro z; rcases z with (z | z) | (z | z) <;> omega)]; exact e2, e3⟩, fun i hi => ?_⟩
    by_cases hi2 : i = (fi + fu) % p
    · subst hi2
      rw [va_up_self]
      rw [hl, List.nil_append] at m2
      exact m2
    · rw [va_up_ne _ _ hi2]
      exact (e4 i hi).sm m4 (by intro z; rcases z with (z | z) | (z | z) <;> omega) (by intro z; rcases z with (z | z) | (z | z) <;> omega)
  refine ⟨_, ?_, po_up q1 fi (fu + 1), m3.kp (up_n _ _ (by omega)) (up_n _ _ (by omega)), ((m4.wd (fun q z => ?_)).up _ (Or.inl (by constructor <;> omega)))⟩
  · unfold pf_X4_takeOver
    simp only [gi_q (k := 2) e1 rfl, gi_q (k := 1) e1 rfl, gr_q (k := 0) e1 rfl, al_q e2, Option.bind_some]
    rw [if_pos (nI_lt hfu (by omega)), if_neg (nI_ne0 (by omega) (by omega))]
    rw [nI_add, pk_rem (by omega) (by omega) (by omega), aq_q e2 hm (by omega) (e3 _ hm)]
    simp only [Option.bind_some, v_q _ hr.1, m1, gi_q (k := 2) q1.1 rfl, pf_q _ q1.1 (k := 2) (Nat.le_of_ble_eq_true rfl), if_pos z1, nI_1]
    rfl
  · rcases z with (z | z) | z
    · left; constructor <;> omega
    · left; constructor <;> omega
    · right; exact z
theorem po_take0 {r : Nat} (h : po_R G S a p fi fu sz pb) (hfu : p ≤ fu) (hp : fu < 2 ^ 31) : pf_X4_takeOver G N S a r = some (0, S) := by
  obtain ⟨e1, ⟨g, e2, e3⟩, e4⟩ := h
  unfold pf_X4_takeOver
  simp only [gi_q (k := 2) e1 rfl, gr_q (k := 0) e1 rfl, al_q e2, Option.bind_some]
  rw [if_neg (nI_nlt hfu hp), if_pos z0]
theorem po_move {r c : Nat} {l : List Int32} (h : po_R G S a p fi (fu + 1) sz pb) (hr : br_R G S r c l) (hfu : fu < p) (hp : p ≤ 4) (hfi : fi < p) (hd : r + 1 < a ∨ a + 2 + 2 * p ≤ r) (hc : l.length + (pb fi).length ≤ c) (hN : (pb fi).length < N) : ∃ S', pf_X4_moveFirstTo G N S a r = some (nI (pb fi).length, S') ∧ po_R G S' a p ((fi + 1) % p) fu sz (va_up pb fi []) ∧ br_R G S' r c (l ++ pb fi) ∧ sm_p (fun q => po_X a p q ∨ br_X r q) S S' := by
  obtain ⟨e1, ⟨g, e2, e3⟩, e4⟩ := h
  obtain ⟨S1, m1, m2, m3, m4⟩ := br_moveTo (N := N) hr (e4 fi hfi) (by omega) hc hN
  have q1 : po_R G S1 a p fi (fu + 1) sz (va_up pb fi []) := by
    refine ⟨by rw [m4.1 a (by intro z; rcases z with (z | z) | (z | z) <;> omega)]; exact e1, ⟨g, by rw [m4.1 _ (by intro z; rcases z with (z | z) | (z | z) <;> omega)]; exact e2, e3⟩, fun i hi => ?_⟩
    by_cases hi2 : i = fi
    · subst hi2
      rw [va_up_self]
      exact m3
    · rw [va_up_ne _ _ hi2]
      exact (e4 i hi).sm m4 (by intro z; rcases z with (z | z) | (z | z) <;> omega) (by intro z; rcases z with (z | z) | (z | z) <;> omega)
  have q2 := po_up q1 ((fi + 1) % p) (fu + 1)
  have q3 := po_up q2 ((fi + 1) % p) fu
  refine ⟨_, ?_, q3, (m2.kp (up_n _ _ (by omega)) (up_n _ _ (by omega))).kp (up_n _ _ (by omega)) (up_n _ _ (by omega)), ((m4.wd (fun q z => ?_)).up _ (Or.inl (by constructor <;> omega))).up _ (Or.inl (by constructor <;> omega))⟩
  · unfold pf_X4_moveFirstTo
    obtain ⟨w1, ⟨g', w2, w3⟩, w4⟩ := q1
    have w1' : (mw_up S1 a (.inr (4, List.set [.ref (a + 1), .int (nI fi), .int (nI (fu + 1))] 1 (.int (nI ((fi + 1) % p)))))).1 a = some (.inr (4, [.ref (a + 1), .int (nI ((fi + 1) % p)), .int (nI (fu + 1))])) := q2.1
    simp only [gi_q (k := 2) e1 rfl, Option.bind_some]
    rw [if_pos (show 0 < nI (fu + 1) from nI_lt (a := 0) (by omega) (by omega))]
    simp only [gi_q (k := 1) e1 rfl, gr_q (k := 0) e1 rfl, aq_q e2 hfi (by omega) (e3 _ hfi), Option.bind_some, v_q _ (e4 fi hfi).1, br_length (e4 fi hfi), mw_b2, m1, gi_q (k := 1) w1 rfl, gr_q (k := 0) w1 rfl, al_q w2]
    rw [if_neg (nI_ne0 (by omega) (by omega)), nI_1, pk_rem (by omega) (by omega) (by omega)]
    simp only [pf_q _ w1 (k := 1) (Nat.le_of_ble_eq_true rfl), Option.bind_some, gi_q (k := 2) w1' rfl, pf_q _ w1' (k := 2) (Nat.le_of_ble_eq_true rfl), nI_pred]
    rfl
  · rcases z with z | (z | z)
    · right; exact z
    · left; constructor <;> omega
    · left; constructor <;> omega
theorem po_move0 {r : Nat} (h : po_R G S a p fi 0 sz pb) : pf_X4_moveFirstTo G N S a r = some (0, S) := by
  unfold pf_X4_moveFirstTo
  simp only [gi_q (k := 2) h.1 rfl, Option.bind_some]
  rw [if_neg (show ¬ 0 < nI 0 by decide)]
end POS
