/-! a chunk -/
def ck_R (G : Nat → ClassId) (S : mw_M) (a c : Nat) (l : List Int32) (x y z : Int32) (u : Nat → Int32) : Prop := S.1 a = some (.inr (1, [.ref (a + 1), .ref (a + 3), .int x, .int y, .int z])) ∧ S.1 (a + 3) = some (.inl (G 3, 24, .inl u)) ∧ br_R G S (a + 1) c l
abbrev ck_X (a : Nat) : Nat → Prop := fun q => a ≤ q ∧ q < a + 4
theorem ck_R.sm {G : Nat → ClassId} {S S' : mw_M} {a c : Nat} {x y z : Int32} {u : Nat → Int32} {l : List Int32} {X : Nat → Prop} (h : ck_R G S a c l x y z u) (hs : sm_p X S S') (h0 : ∀ q, a ≤ q → q < a + 4 → ¬ X q) : ck_R G S' a c l x y z u := ⟨by rw [hs.1 a (h0 _ (by omega) (by omega))]; exact h.1, by rw [hs.1 _ (h0 _ (by omega) (by omega))]; exact h.2.1, h.2.2.sm hs (h0 _ (by omega) (by omega)) (h0 _ (by omega) (by omega))⟩
section CKS
variable {G : Nat → ClassId} {N : Nat} {S : mw_M} {a c : Nat} {x y z : Int32} {u : Nat → Int32} {l : List Int32}
theorem ck_up (h : ck_R G S a c l x y z u) (x' y' z' : Int32) : ck_R G (mw_up S a (.inr (1, [.ref (a + 1), .ref (a + 3), .int x', .int y', .int z']))) a c l x' y' z' u := ⟨up_s _ _ _, by rw [up_n _ _ (by omega)]; exact h.2.1, h.2.2.kp (up_n _ _ (by omega)) (up_n _ _ (by omega))⟩
theorem ck_br {S' : mw_M} {l' : List Int32} (h : ck_R G S a c l x y z u) (hb : br_R G S' (a + 1) c l') (hs : sm_p (br_X (a + 1)) S S') : ck_R G S' a c l' x y z u := ⟨by rw [hs.1 a (by intro q; rcases q with q | q <;> omega)]; exact h.1, by rw [hs.1 _ (by intro q; rcases q with q | q <;> omega)]; exact h.2.1, hb⟩
theorem ck_num (h : ck_R G S a c l x y z u) : pf_X1_number G N S a = some (x, S) := by
  unfold pf_X1_number
  simp only [gi_q (k := 2) h.1 rfl, Option.bind_some]
theorem ck_body (h : ck_R G S a c l x y z u) : pf_X1_body G N S a = some (a + 1, S) := by
  unfold pf_X1_body
  simp only [gr_q (k := 0) h.1 rfl, Option.bind_some]
theorem ck_count (h : ck_R G S a c l x y z u) : ∃ S', pf_X1_countEvent G N S a = some S' ∧ ck_R G S' a c l x y (z + 1) u ∧ sm_p (ck_X a) S S' := by
  refine ⟨_, ?_, ck_up h x y (z + 1), (sm_p.rf _ S).up _ (by constructor <;> omega)⟩
  unfold pf_X1_countEvent
  simp only [gi_q (k := 4) h.1 rfl, pf_q _ h.1 (k := 4) (Nat.le_of_ble_eq_true rfl), Option.bind_some]
  rfl
theorem ck_use {k : Nat} (h : ck_R G S a c l x y z u) (hk : k < 24) : ∃ S', pf_X1_use G N S a (nI k) = some S' ∧ ck_R G S' a c l x y z (upd u k 1) ∧ sm_p (ck_X a) S S' := by
  refine ⟨mw_up S (a + 3) (.inl (G 3, 24, .inl (upd u k 1))), ?_, ⟨by rw [up_n _ _ (by omega)]; exact h.1, up_s _ _ _, h.2.2.kp (up_n _ _ (by omega)) (up_n _ _ (by omega))⟩, (sm_p.rf _ S).up _ (by constructor <;> omega)⟩
  unfold pf_X1_use
  rw [if_neg (nI_pos (by omega)), if_neg (show ¬ (24 : Int32) ≤ nI k from nI_ge (b := 24) hk (by decide))]
  simp only [gr_q (k := 1) h.1 rfl, si_q _ h.2.1 hk (by decide), Option.bind_some, z1]
/-- what a loss is in bytes -/
def lossB (t n : Int32) : List Int32 := vb (2 + nI (vl (un n))) ++ [63] ++ vb t ++ vb n
theorem ck_loss (h : ck_R G S a c l x y z u) (t n : Int32) (ht : vl (un t) = 1) (hn : vl (un (2 + nI (vl (un n)))) = 1) (hc : l.length + 3 + vl (un n) ≤ c) (hN : 6 ≤ N) : ∃ S', pf_X1_addLoss G N S a t n = some S' ∧ ck_R G S' a c (l ++ lossB t n) x y z u ∧ sm_p (ck_X a) S S' := by
  obtain ⟨S1, e1, b1, s1⟩ := br_addV (N := N) h.2.2 (2 + nI (vl (un n))) (by omega) hN
  have k1 := ck_br h b1 s1
  have l1 : (l ++ vb (2 + nI (vl (un n)))).length = l.length + 1 := by rw [List.length_append, vb_len, hn]
  obtain ⟨S2, e2, b2, s2⟩ := br_add (N := N) b1 (by omega) 63
  have k2 := ck_br k1 b2 s2
  have l2 : (l ++ vb (2 + nI (vl (un n))) ++ [63]).length = l.length + 2 := by rw [List.length_append, l1]; rfl
  obtain ⟨S3, e3, b3, s3⟩ := br_addV (N := N) b2 t (by omega) hN
  have k3 := ck_br k2 b3 s3
  have l3 : (l ++ vb (2 + nI (vl (un n))) ++ [63] ++ vb t).length = l.length + 3 := by rw [List.length_append, l2, vb_len, ht]
  obtain ⟨S4, e4, b4, s4⟩ := br_addV (N := N) b3 n (by omega) hN
  have k4 := ck_br k3 b4 s4
  refine ⟨S4, ?_, ?_, (((s1.tr s2).tr s3).tr s4).wd (fun q hq => by rcases hq with q1 | q1 <;> constructor <;> omega)⟩
  · unfold pf_X1_addLoss
    simp only [gr_q (k := 0) h.1 rfl, Option.bind_some, br_vl n hN, mw_b2, v_q _ h.2.2.1, e1, gr_q (k := 0) k1.1 rfl, v_q _ b1.1, e2, gr_q (k := 0) k2.1 rfl, v_q _ b2.1, e3, gr_q (k := 0) k3.1 rfl, v_q _ b3.1, e4]
  · unfold lossB
    rw [← List.append_assoc, ← List.append_assoc, ← List.append_assoc]
    exact k4
theorem ck_open_l {S0 : mw_M} (nw ti : Int32) : ∀ (n k : Nat) (S : mw_M) (u : Nat → Int32), ck_R G S a c l x y z u → sm_p (ck_X a) S0 S → (∀ i, i < k → u i = 0) → k ≤ 24 → 24 - k < n → ∃ S' u', pf_X1_openAs_9 G N n a nw ti (nI k) S = some S' ∧ ck_R G S' a c l nw ti 0 u' ∧ (∀ i, i < 24 → u' i = 0) ∧ sm_p (ck_X a) S0 S' := by
  intro n
  induction n with
  | zero => intro k S u _ _ _ _ h; exact absurd h (Nat.not_lt_zero _)
  | succ n ih =>
    intro k S u h hs hu hk hn
    rw [pf_X1_openAs_9]
    by_cases hlt : k < 24
    · rw [if_neg (show ¬ (24 : Int32) ≤ nI k from nI_ge (b := 24) hlt (by decide))]
      simp only [gr_q (k := 1) h.1 rfl, si_q _ h.2.1 hlt (by decide), Option.bind_some, z0, nI_1]
      refine ih (k + 1) _ (upd u k 0) ⟨by rw [up_n _ _ (by omega)]; exact h.1, up_s _ _ _, h.2.2.kp (up_n _ _ (by omega)) (up_n _ _ (by omega))⟩ (hs.up _ (by constructor <;> omega)) (fun i hi => ?_) hlt (by omega)
      by_cases h9 : i = k
      · subst h9; exact pk_us
      · rw [pk_un h9]; exact hu i (by omega)
    · rw [if_pos (show (24 : Int32) ≤ nI k from nI_le (a := 24) (by omega) (by omega))]
      have g1 := ck_up h nw y z
      have g2 := ck_up g1 nw ti z
      have g3 := ck_up g2 nw ti 0
      have w1 : (mw_up S a (.inr (1, List.set [.ref (a + 1), .ref (a + 3), .int x, .int y, .int z] 2 (.int nw)))).1 a = some (.inr (1, [.ref (a + 1), .ref (a + 3), .int nw, .int y, .int z])) := g1.1
      simp only [pf_q _ h.1 (k := 2) (Nat.le_of_ble_eq_true rfl), Option.bind_some, pf_q _ w1 (k := 3) (Nat.le_of_ble_eq_true rfl)]
      have w2 : (mw_up (mw_up S a (.inr (1, List.set [.ref (a + 1), .ref (a + 3), .int x, .int y, .int z] 2 (.int nw)))) a (.inr (1, List.set [.ref (a + 1), .ref (a + 3), .int nw, .int y, .int z] 3 (.int ti)))).1 a = some (.inr (1, [.ref (a + 1), .ref (a + 3), .int nw, .int ti, .int z])) := g2.1
      simp only [pf_q _ w2 (k := 4) (Nat.le_of_ble_eq_true rfl), Option.bind_some]
      exact ⟨_, u, rfl, g3, fun i hi => hu i (by omega), ((hs.up _ (by constructor <;> omega)).up _ (by constructor <;> omega)).up _ (by constructor <;> omega)⟩
theorem ck_openAs (h : ck_R G S a c l x y z u) (nw ti : Int32) (hN : 25 ≤ N) : ∃ S' u', pf_X1_openAs G N S a nw ti = some S' ∧ ck_R G S' a c [] nw ti 0 u' ∧ (∀ i, i < 24 → u' i = 0) ∧ sm_p (ck_X a) S S' := by
  obtain ⟨S1, e1, b1, s1⟩ := br_clear (N := N) h.2.2
  have k1 := ck_br h b1 s1
  obtain ⟨S', u', e2, k2, hu, s2⟩ := ck_open_l (G := G) (N := N) (S0 := S) nw ti N 0 S1 u k1 (s1.wd (fun q hq => by rcases hq with q1 | q1 <;> constructor <;> omega)) (fun i hi => absurd hi (Nat.not_lt_zero i)) (by omega) (by omega)
  refine ⟨S', u', ?_, k2, hu, s2⟩
  unfold pf_X1_openAs
  simp only [gr_q (k := 0) h.1 rfl, Option.bind_some, v_q _ h.2.2.1, e1]
  exact e2
end CKS
/-! the chunks -/
def cs_R (G : Nat → ClassId) (S : mw_M) (a kl c kp : Nat) (ev : Int32) (ad : Nat → Nat) (L : Nat → List Int32) (X Y Z : Nat → Int32) (U : Nat → Nat → Int32) : Prop := S.1 a = some (.inr (2, [.ref (a + 1), .int (nI kp), .int ev])) ∧ (∃ g : Nat → Option Nat, S.1 (a + 1) = some (.inl (G 7, kl + 1, .inr (.inr (.inr (.inr g))))) ∧ ∀ i, i < kl + 1 → g i = some (ad i)) ∧ (∀ i, i < kl + 1 → ∃ j, j < kl + 1 ∧ ad i = a + 2 + 4 * j) ∧ (∀ i j, i < kl + 1 → j < kl + 1 → ad i = ad j → i = j) ∧ ∀ i, i < kl + 1 → ck_R G S (ad i) c (L i) (X i) (Y i) (Z i) (U i)
abbrev cs_X (a kl : Nat) : Nat → Prop := fun q => a ≤ q ∧ q < a + 2 + 4 * (kl + 1)
section CSS
variable {G : Nat → ClassId} {N : Nat} {S : mw_M} {a kl c kp : Nat} {ev : Int32} {ad : Nat → Nat} {L : Nat → List Int32} {X Y Z : Nat → Int32} {U : Nat → Nat → Int32}
theorem cs_R.sm {S' : mw_M} {W : Nat → Prop} (h : cs_R G S a kl c kp ev ad L X Y Z U) (hs : sm_p W S S') (h0 : ∀ q, a ≤ q → q < a + 2 + 4 * (kl + 1) → ¬ W q) : cs_R G S' a kl c kp ev ad L X Y Z U := by
  obtain ⟨e1, ⟨g, e2, e3⟩, e4, e5, e6⟩ := h
  refine ⟨by rw [hs.1 a (h0 a (by omega) (by omega))]; exact e1, ⟨g, by rw [hs.1 _ (h0 (a + 1) (by omega) (by omega))]; exact e2, e3⟩, e4, e5, fun i hi => (e6 i hi).sm hs (fun q h1 h2 => ?_)⟩
  obtain ⟨j, hj, hj2⟩ := e4 i hi
  exact h0 q (by omega) (by omega)
theorem cs_up (h : cs_R G S a kl c kp ev ad L X Y Z U) (kp' : Nat) (ev' : Int32) : cs_R G (mw_up S a (.inr (2, [.ref (a + 1), .int (nI kp'), .int ev']))) a kl c kp' ev' ad L X Y Z U := by
  obtain ⟨e1, ⟨g, e2, e3⟩, e4, e5, e6⟩ := h
  refine ⟨up_s _ _ _, ⟨g, by rw [up_n _ _ (by omega)]; exact e2, e3⟩, e4, e5, fun i hi => ?_⟩
  obtain ⟨j, hj, hj2⟩ := e4 i hi
  exact (e6 i hi).sm ((sm_p.rf (fun q => q = a) S).up _ rfl) (fun q h1 h2 => by omega)
/-- one chunk is changed -/
theorem cs_set {S' : mw_M} {k : Nat} {l : List Int32} {x y z : Int32} {u : Nat → Int32} (h : cs_R G S a kl c kp ev ad L X Y Z U) (hk : k < kl + 1) (hc : ck_R G S' (ad k) c l x y z u) (hs : sm_p (ck_X (ad k)) S S') : cs_R G S' a kl c kp ev ad (va_up L k l) (va_up X k x) (va_up Y k y) (va_up Z k z) (va_up U k u) ∧ sm_p (cs_X a kl) S S' := by
  obtain ⟨e1, ⟨g, e2, e3⟩, e4, e5, e6⟩ := h
  obtain ⟨j, hj, hj2⟩ := e4 k hk
  refine ⟨⟨by rw [hs.1 a (by omega)]; exact e1, ⟨g, by rw [hs.1 _ (by omega)]; exact e2, e3⟩, e4, e5, fun i hi => ?_⟩, hs.wd (fun q hq => by constructor <;> omega)⟩
  by_cases hik : i = k
  · subst hik
    rw [va_up_self, va_up_self, va_up_self, va_up_self, va_up_self]
    exact hc
  · rw [va_up_ne _ _ hik, va_up_ne _ _ hik, va_up_ne _ _ hik, va_up_ne _ _ hik, va_up_ne _ _ hik]
    obtain ⟨j', hj', hj2'⟩ := e4 i hi
    have hne : ad i ≠ ad k := fun z => hik (e5 i k hi hk z)
    exact (e6 i hi).sm hs (fun q h1 h2 => by omega)
theorem cs_open (h : cs_R G S a kl c kp ev ad L X Y Z U) (hk : kp < kl + 1) (hl : kl < 10) : pf_X2_open G N S a = some (ad kp, S) := by
  obtain ⟨e1, ⟨g, e2, e3⟩, -⟩ := h
  unfold pf_X2_open
  simp only [gr_q (k := 0) e1 rfl, gi_q (k := 1) e1 rfl, aq_q e2 hk (by omega) (e3 _ hk), Option.bind_some]
theorem cs_kept (h : cs_R G S a kl c kp ev ad L X Y Z U) : pf_X2_kept G N S a = some (nI kp, S) := by
  unfold pf_X2_kept
  simp only [gi_q (k := 1) h.1 rfl, Option.bind_some]
theorem cs_evd (h : cs_R G S a kl c kp ev ad L X Y Z U) : pf_X2_evicted G N S a = some (ev, S) := by
  unfold pf_X2_evicted
  simp only [gi_q (k := 2) h.1 rfl, Option.bind_some]
/-- the oldest behind all others -/
def shf {α : Type} (kl : Nat) (f : Nat → α) : Nat → α := fun i => if i < kl then f (i + 1) else f 0
theorem cs_ev_l {S0 : mw_M} (hl : kl < 10) : ∀ (n k : Nat) (S : mw_M) (g : Nat → Option Nat), 1 ≤ k → k ≤ kl + 1 → kl + 1 - k < n → S.1 a = some (.inr (2, [.ref (a + 1), .int (nI kp), .int ev])) → S.1 (a + 1) = some (.inl (G 7, kl + 1, .inr (.inr (.inr (.inr g))))) → (∀ i, i < kl + 1 → k - 1 ≤ i → 1 ≤ i → g i = some (ad i)) → (∀ i, i < k - 1 → g i = some (ad (i + 1))) → (∀ i, i < kl + 1 → ∃ fs, S.1 (ad i) = some (.inr (1, fs))) → (∀ i, i < kl + 1 → a + 2 ≤ ad i) → sm_p (fun q => q = a ∨ q = a + 1) S0 S → ∃ S' g', pf_X2_evictOldest_9 G N n a (ad 0) (nI k) S = some S' ∧ S'.1 a = some (.inr (2, [.ref (a + 1), .int (nI kp - 1), .int (ev + 1)])) ∧ S'.1 (a + 1) = some (.inl (G 7, kl + 1, .inr (.inr (.inr (.inr g'))))) ∧ (∀ i, i < kl + 1 → g' i = some (shf kl ad i)) ∧ sm_p (fun q => q = a ∨ q = a + 1) S0 S' := by
  intro n
  induction n with
  | zero => intro k S g _ _ h; exact absurd h (Nat.not_lt_zero _)
  | succ n ih =>
    intro k S g hk1 hk hn e1 e2 e3 e4 e5 e6 hs
    rw [pf_X2_evictOldest_9]
    simp only [gr_q (k := 0) e1 rfl, al_q e2, Option.bind_some]
    by_cases hlt : k < kl + 1
    · rw [if_neg (nI_ge hlt (by omega))]
      obtain ⟨fs, hfs⟩ := e5 k hlt
      obtain ⟨k', rfl⟩ : ∃ k', k = k' + 1 := ⟨k - 1, by omega⟩
      simp only [aq_q e2 hlt (by omega) (e3 _ hlt (by omega) (by omega)), Option.bind_some, nI_pred, nI_1]
      rw [sq_q e2 (show k' < kl + 1 by omega) (by omega) hfs]
      simp only [Option.bind_some]
      refine ih (k' + 1 + 1) _ (va_up g k' (some (ad (k' + 1)))) (by omega) (by omega) (by omega) ?_ (up_s _ _ _) (fun i h1 h2 h3 => ?_) (fun i h1 => ?_) (fun i hi => ?_) e6 (hs.up _ (Or.inr rfl))
      · rw [up_n _ _ (by omega)]; exact e1
      · rw [va_up_ne _ _ (by omega)]; exact e3 i h1 (by omega) h3
      · by_cases h9 : i = k'
        · subst h9; rw [va_up_self]
        · rw [va_up_ne _ _ h9]; exact e4 i (by omega)
      · obtain ⟨fs', hfs'⟩ := e5 i hi
        exact ⟨fs', by rw [up_n _ _ (by have := e6 i hi; omega)]; exact hfs'⟩
    · have hke : k = kl + 1 := by omega
      subst hke
      rw [if_pos (nI_le (by omega) (by omega))]
      obtain ⟨fs, hfs⟩ := e5 0 (by omega)
      simp only [nI_pred]
      rw [sq_q e2 (show kl < kl + 1 by omega) (by omega) hfs]
      simp only [Option.bind_some]
      have w1 : (mw_up S (a + 1) (.inl (G 7, kl + 1, .inr (.inr (.inr (.inr (va_up g kl (some (ad 0))))))))).1 a = some (.inr (2, [.ref (a + 1), .int (nI kp), .int ev])) := by rw [up_n _ _ (by omega)]; exact e1
      simp only [gi_q (k := 1) w1 rfl, pf_q _ w1 (k := 1) (Nat.le_of_ble_eq_true rfl), Option.bind_some]
      have w2 : (mw_up (mw_up S (a + 1) (.inl (G 7, kl + 1, .inr (.inr (.inr (.inr (va_up g kl (some (ad 0))))))))) a (.inr (2, List.set [.ref (a + 1), .int (nI kp), .int ev] 1 (.int (nI kp - 1))))).1 a = some (.inr (2, [.ref (a + 1), .int (nI kp - 1), .int ev])) := up_s _ _ _
      simp only [gi_q (k := 2) w2 rfl, pf_q _ w2 (k := 2) (Nat.le_of_ble_eq_true rfl), Option.bind_some]
      refine ⟨_, va_up g kl (some (ad 0)), rfl, up_s _ _ _, ?_, fun i hi => ?_, ((hs.up _ (Or.inr rfl)).up _ (Or.inl rfl)).up _ (Or.inl rfl)⟩
      · rw [up_n _ _ (by omega), up_n _ _ (by omega)]; exact up_s _ _ _
      · unfold shf
        by_cases h9 : i = kl
        · subst h9; rw [va_up_self, if_neg (Nat.lt_irrefl _)]
        · rw [va_up_ne _ _ h9, if_pos (by omega)]; exact e4 i (by omega)
theorem cs_evict (h : cs_R G S a kl c (kp + 1) ev ad L X Y Z U) (hl : kl < 10) (hN : 12 ≤ N) : ∃ S', pf_X2_evictOldest G N S a = some S' ∧ cs_R G S' a kl c kp (ev + 1) (shf kl ad) (shf kl L) (shf kl X) (shf kl Y) (shf kl Z) (shf kl U) ∧ sm_p (cs_X a kl) S S' := by
  have hh := h
  obtain ⟨e1, ⟨g, e2, e3⟩, e4, e5, e6⟩ := h
  obtain ⟨S', g', q1, q2, q3, q4, q5⟩ := cs_ev_l (G := G) (N := N) (a := a) (kl := kl) (kp := kp + 1) (ev := ev) (ad := ad) (S0 := S) hl N 1 S g (by omega) (by omega) (by omega) e1 e2 (fun i h1 _ _ => e3 i h1) (fun i h1 => absurd h1 (by omega)) (fun i hi => ⟨_, (e6 i hi).1⟩) (fun i hi => by obtain ⟨j, hj, hj2⟩ := e4 i hi; omega) (sm_p.rf _ S)
  refine ⟨S', ?_, ⟨by rw [nI_pred] at q2; exact q2, ⟨g', q3, q4⟩, fun i hi => ?_, fun i j hi hj hij => ?_, fun i hi => ?_⟩, q5.wd (fun q hq => by rcases hq with z | z <;> constructor <;> omega)⟩
  · unfold pf_X2_evictOldest
    have := aq_q e2 (show 0 < kl + 1 by omega) (by omega) (e3 0 (by omega))
    rw [nI_0] at this
    simp only [gr_q (k := 0) e1 rfl, this, Option.bind_some]
    exact q1
  · unfold shf
    split
    · exact e4 (i + 1) (by omega)
    · exact e4 0 (by omega)
  · unfold shf at hij
    split at hij <;> split at hij
    · have := e5 _ _ (by omega) (by omega) hij; omega
    · have := e5 _ _ (by omega) (by omega) hij; omega
    · have := e5 _ _ (by omega) (by omega) hij; omega
    · omega
  · have key : ∀ k, k < kl + 1 → ck_R G S' (ad k) c (L k) (X k) (Y k) (Z k) (U k) := fun k hk => by
      obtain ⟨j, hj, hj2⟩ := e4 k hk
      exact (e6 k hk).sm q5 (fun q h1 h2 => by omega)
    unfold shf
    by_cases h9 : i < kl
    · simp only [if_pos h9]; exact key (i + 1) (by omega)
    · simp only [if_neg h9]; exact key 0 (by omega)
end CSS
