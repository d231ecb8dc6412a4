/-! the reference's constructor -/
def mBl : List Value := [.int 0, .int 0, .int 0, .int 0, .int 0, .int 0, .null, .int 0, .null, .null, .int 0, .null, .null, .null, .null, .null, .null, .null, .int 0, .int 0, .int 0, .null, .null, .null, .null, .null, .null, .null, .null, .int 0, .null, .null, .null, .null, .null, .null, .int 0, .null, .int 0]
def mi (G : Nat → ClassId) (h k : Nat) (L : List Value) (S : mw_M) : Prop := S.1 h = some (.inr (9, L)) ∧ S.2 = h + 1 + k ∧ ∀ j, j < k → S.1 (h + 1 + j) = some (.inl (G (mm_ty j), mm_ln j, .inl (fun _ => 0)))
section MNW
variable {G : Nat → ClassId} {N : Nat} {S : mw_M} {h : Nat}
theorem ms {k : Nat} {L : List Value} (hi : mi G h k L S) (slot t n : Nat) (x : Int32) (hx : x = nI n) (ht : t = mm_ty k) (hn : n = mm_ln k) (hn5 : n < 5000) (hs : slot < L.length) : ∃ S2, (∀ {α : Type} (F : mw_M → Option α), (mw_b2 (mw_na S (G t) n x) fun v S1 => (mw_pf S1 h 9 slot (.ref v)).bind F) = F S2) ∧ mi G h (k + 1) (L.set slot (.ref (h + 1 + k))) S2 ∧ (∀ q, q < h → S2.1 q = S.1 q) := by
  obtain ⟨i1, i2, i3⟩ := hi
  have e : mw_na S (G t) n x = some (S.2, mw_ad S (.inl (G t, n, .inl (fun _ => 0)))) := by rw [hx]; exact na_q (S := S) (cA := G t) (c := n) (cap := n) (Nat.le_refl _) (by omega)
  have a1 : (mw_ad S (.inl (G t, n, .inl (fun _ => 0)))).1 h = some (.inr (9, L)) := by rw [ad_n _ _ (by omega)]; exact i1
  refine ⟨mw_up (mw_ad S (.inl (G t, n, .inl (fun _ => 0)))) h (.inr (9, L.set slot (.ref (h + 1 + k)))), fun F => ?_, ⟨up_s _ _ _, ?_, fun j hj => ?_⟩, fun q hq => ?_⟩
  · simp only [e, mw_b2, pf_q _ a1 hs, Option.bind_some, i2]
  · show S.2 + 1 = _
    omega
  · rw [up_n _ _ (by omega)]
    by_cases hjk : j = k
    · subst hjk
      rw [← i2, ad_s, ht, hn]
    · rw [ad_n _ _ (by omega)]; exact i3 j (by omega)
  · rw [up_n _ _ (by omega), ad_n _ _ (by omega)]
theorem model_25 (h0 : S.1 h = some (.inr (9, mBl))) (h1 : S.2 = h + 1) (x1 x2 x3 : Int32) : ∃ S25, pf_X9_init G N S h x1 x2 x3 = (if (16 : Int32) ≤ x1 then (if x1 ≤ 60 then pf_X9_init_226 G N h x2 x3 h x1 S25 else pf_X9_init_226 G N h x2 x3 h 60 S25) else pf_X9_init_226 G N h x2 x3 h 16 S25) ∧ mi G h 25 (mm_fs h (fun _ => 0)) S25 ∧ (∀ q, q < h → S25.1 q = S.1 q) := by
  have i0 : mi G h 0 [.int 0, .int 0, .int 0, .int 0, .int 0, .int 0, .null, .int 0, .null, .null, .int 0, .null, .null, .null, .null, .null, .null, .null, .int 0, .int 0, .int 0, .null, .null, .null, .null, .null, .null, .null, .null, .int 0, .null, .null, .null, .null, .null, .null, .int 0, .null, .int 0] S := ⟨h0, h1, fun j hj => absurd hj (Nat.not_lt_zero j)⟩
  obtain ⟨S1, e1, j1, k1⟩ := ms i0 6 2 40 40 rfl rfl rfl (by omega) (Nat.le_of_ble_eq_true rfl)
  have i1 : mi G h 1 [.int 0, .int 0, .int 0, .int 0, .int 0, .int 0, .ref (h + 1 + 0), .int 0, .null, .null, .int 0, .null, .null, .null, .null, .null, .null, .null, .int 0, .int 0, .int 0, .null, .null, .null, .null, .null, .null, .null, .null, .int 0, .null, .null, .null, .null, .null, .null, .int 0, .null, .int 0] S1 := j1
  clear j1
  obtain ⟨S2, e2, j2, k2⟩ := ms i1 8 0 6 6 rfl rfl rfl (by omega) (Nat.le_of_ble_eq_true rfl)
  have i2 : mi G h 2 [.int 0, .int 0, .int 0, .int 0, .int 0, .int 0, .ref (h + 1 + 0), .int 0, .ref (h + 1 + 1), .null, .int 0, .null, .null, .null, .null, .null, .null, .null, .int 0, .int 0, .int 0, .null, .null, .null, .null, .null, .null, .null, .null, .int 0, .null, .null, .null, .null, .null, .null, .int 0, .null, .int 0] S2 := j2
  clear j2
  obtain ⟨S3, e3, j3, k3⟩ := ms i2 9 3 6 6 rfl rfl rfl (by omega) (Nat.le_of_ble_eq_true rfl)
  have i3 : mi G h 3 [.int 0, .int 0, .int 0, .int 0, .int 0, .int 0, .ref (h + 1 + 0), .int 0, .ref (h + 1 + 1), .ref (h + 1 + 2), .int 0, .null, .null, .null, .null, .null, .null, .null, .int 0, .int 0, .int 0, .null, .null, .null, .null, .null, .null, .null, .null, .int 0, .null, .null, .null, .null, .null, .null, .int 0, .null, .int 0] S3 := j3
  clear j3
  obtain ⟨S4, e4, j4, k4⟩ := ms i3 11 2 192 192 rfl rfl rfl (by omega) (Nat.le_of_ble_eq_true rfl)
  have i4 : mi G h 4 [.int 0, .int 0, .int 0, .int 0, .int 0, .int 0, .ref (h + 1 + 0), .int 0, .ref (h + 1 + 1), .ref (h + 1 + 2), .int 0, .ref (h + 1 + 3), .null, .null, .null, .null, .null, .null, .int 0, .int 0, .int 0, .null, .null, .null, .null, .null, .null, .null, .null, .int 0, .null, .null, .null, .null, .null, .null, .int 0, .null, .int 0] S4 := j4
  clear j4
  obtain ⟨S5, e5, j5, k5⟩ := ms i4 12 0 24 24 rfl rfl rfl (by omega) (Nat.le_of_ble_eq_true rfl)
  have i5 : mi G h 5 [.int 0, .int 0, .int 0, .int 0, .int 0, .int 0, .ref (h + 1 + 0), .int 0, .ref (h + 1 + 1), .ref (h + 1 + 2), .int 0, .ref (h + 1 + 3), .ref (h + 1 + 4), .null, .null, .null, .null, .null, .int 0, .int 0, .int 0, .null, .null, .null, .null, .null, .null, .null, .null, .int 0, .null, .null, .null, .null, .null, .null, .int 0, .null, .int 0] S5 := j5
  clear j5
  obtain ⟨S6, e6, j6, k6⟩ := ms i5 13 0 3 3 rfl rfl rfl (by omega) (Nat.le_of_ble_eq_true rfl)
  have i6 : mi G h 6 [.int 0, .int 0, .int 0, .int 0, .int 0, .int 0, .ref (h + 1 + 0), .int 0, .ref (h + 1 + 1), .ref (h + 1 + 2), .int 0, .ref (h + 1 + 3), .ref (h + 1 + 4), .ref (h + 1 + 5), .null, .null, .null, .null, .int 0, .int 0, .int 0, .null, .null, .null, .null, .null, .null, .null, .null, .int 0, .null, .null, .null, .null, .null, .null, .int 0, .null, .int 0] S6 := j6
  clear j6
  obtain ⟨S7, e7, j7, k7⟩ := ms i6 14 0 9 9 rfl rfl rfl (by omega) (Nat.le_of_ble_eq_true rfl)
  have i7 : mi G h 7 [.int 0, .int 0, .int 0, .int 0, .int 0, .int 0, .ref (h + 1 + 0), .int 0, .ref (h + 1 + 1), .ref (h + 1 + 2), .int 0, .ref (h + 1 + 3), .ref (h + 1 + 4), .ref (h + 1 + 5), .ref (h + 1 + 6), .null, .null, .null, .int 0, .int 0, .int 0, .null, .null, .null, .null, .null, .null, .null, .null, .int 0, .null, .null, .null, .null, .null, .null, .int 0, .null, .int 0] S7 := j7
  clear j7
  obtain ⟨S8, e8, j8, k8⟩ := ms i7 15 0 420 420 rfl rfl rfl (by omega) (Nat.le_of_ble_eq_true rfl)
  have i8 : mi G h 8 [.int 0, .int 0, .int 0, .int 0, .int 0, .int 0, .ref (h + 1 + 0), .int 0, .ref (h + 1 + 1), .ref (h + 1 + 2), .int 0, .ref (h + 1 + 3), .ref (h + 1 + 4), .ref (h + 1 + 5), .ref (h + 1 + 6), .ref (h + 1 + 7), .null, .null, .int 0, .int 0, .int 0, .null, .null, .null, .null, .null, .null, .null, .null, .int 0, .null, .null, .null, .null, .null, .null, .int 0, .null, .int 0] S8 := j8
  clear j8
  obtain ⟨S9, e9, j9, k9⟩ := ms i8 16 0 7 7 rfl rfl rfl (by omega) (Nat.le_of_ble_eq_true rfl)
  have i9 : mi G h 9 [.int 0, .int 0, .int 0, .int 0, .int 0, .int 0, .ref (h + 1 + 0), .int 0, .ref (h + 1 + 1), .ref (h + 1 + 2), .int 0, .ref (h + 1 + 3), .ref (h + 1 + 4), .ref (h + 1 + 5), .ref (h + 1 + 6), .ref (h + 1 + 7), .ref (h + 1 + 8), .null, .int 0, .int 0, .int 0, .null, .null, .null, .null, .null, .null, .null, .null, .int 0, .null, .null, .null, .null, .null, .null, .int 0, .null, .int 0] S9 := j9
  clear j9
  obtain ⟨S10, e10, j10, k10⟩ := ms i9 17 0 7 7 rfl rfl rfl (by omega) (Nat.le_of_ble_eq_true rfl)
  have i10 : mi G h 10 [.int 0, .int 0, .int 0, .int 0, .int 0, .int 0, .ref (h + 1 + 0), .int 0, .ref (h + 1 + 1), .ref (h + 1 + 2), .int 0, .ref (h + 1 + 3), .ref (h + 1 + 4), .ref (h + 1 + 5), .ref (h + 1 + 6), .ref (h + 1 + 7), .ref (h + 1 + 8), .ref (h + 1 + 9), .int 0, .int 0, .int 0, .null, .null, .null, .null, .null, .null, .null, .null, .int 0, .null, .null, .null, .null, .null, .null, .int 0, .null, .int 0] S10 := j10
  clear j10
  obtain ⟨S11, e11, j11, k11⟩ := ms i10 21 0 4200 4200 rfl rfl rfl (by omega) (Nat.le_of_ble_eq_true rfl)
  have i11 : mi G h 11 [.int 0, .int 0, .int 0, .int 0, .int 0, .int 0, .ref (h + 1 + 0), .int 0, .ref (h + 1 + 1), .ref (h + 1 + 2), .int 0, .ref (h + 1 + 3), .ref (h + 1 + 4), .ref (h + 1 + 5), .ref (h + 1 + 6), .ref (h + 1 + 7), .ref (h + 1 + 8), .ref (h + 1 + 9), .int 0, .int 0, .int 0, .ref (h + 1 + 10), .null, .null, .null, .null, .null, .null, .null, .int 0, .null, .null, .null, .null, .null, .null, .int 0, .null, .int 0] S11 := j11
  clear j11
  obtain ⟨S12, e12, j12, k12⟩ := ms i11 22 0 7 7 rfl rfl rfl (by omega) (Nat.le_of_ble_eq_true rfl)
  have i12 : mi G h 12 [.int 0, .int 0, .int 0, .int 0, .int 0, .int 0, .ref (h + 1 + 0), .int 0, .ref (h + 1 + 1), .ref (h + 1 + 2), .int 0, .ref (h + 1 + 3), .ref (h + 1 + 4), .ref (h + 1 + 5), .ref (h + 1 + 6), .ref (h + 1 + 7), .ref (h + 1 + 8), .ref (h + 1 + 9), .int 0, .int 0, .int 0, .ref (h + 1 + 10), .ref (h + 1 + 11), .null, .null, .null, .null, .null, .null, .int 0, .null, .null, .null, .null, .null, .null, .int 0, .null, .int 0] S12 := j12
  clear j12
  obtain ⟨S13, e13, j13, k13⟩ := ms i12 23 0 7 7 rfl rfl rfl (by omega) (Nat.le_of_ble_eq_true rfl)
  have i13 : mi G h 13 [.int 0, .int 0, .int 0, .int 0, .int 0, .int 0, .ref (h + 1 + 0), .int 0, .ref (h + 1 + 1), .ref (h + 1 + 2), .int 0, .ref (h + 1 + 3), .ref (h + 1 + 4), .ref (h + 1 + 5), .ref (h + 1 + 6), .ref (h + 1 + 7), .ref (h + 1 + 8), .ref (h + 1 + 9), .int 0, .int 0, .int 0, .ref (h + 1 + 10), .ref (h + 1 + 11), .ref (h + 1 + 12), .null, .null, .null, .null, .null, .int 0, .null, .null, .null, .null, .null, .null, .int 0, .null, .int 0] S13 := j13
  clear j13
  obtain ⟨S14, e14, j14, k14⟩ := ms i13 24 0 7 7 rfl rfl rfl (by omega) (Nat.le_of_ble_eq_true rfl)
  have i14 : mi G h 14 [.int 0, .int 0, .int 0, .int 0, .int 0, .int 0, .ref (h + 1 + 0), .int 0, .ref (h + 1 + 1), .ref (h + 1 + 2), .int 0, .ref (h + 1 + 3), .ref (h + 1 + 4), .ref (h + 1 + 5), .ref (h + 1 + 6), .ref (h + 1 + 7), .ref (h + 1 + 8), .ref (h + 1 + 9), .int 0, .int 0, .int 0, .ref (h + 1 + 10), .ref (h + 1 + 11), .ref (h + 1 + 12), .ref (h + 1 + 13), .null, .null, .null, .null, .int 0, .null, .null, .null, .null, .null, .null, .int 0, .null, .int 0] S14 := j14
  clear j14
  obtain ⟨S15, e15, j15, k15⟩ := ms i14 25 0 7 7 rfl rfl rfl (by omega) (Nat.le_of_ble_eq_true rfl)
  have i15 : mi G h 15 [.int 0, .int 0, .int 0, .int 0, .int 0, .int 0, .ref (h + 1 + 0), .int 0, .ref (h + 1 + 1), .ref (h + 1 + 2), .int 0, .ref (h + 1 + 3), .ref (h + 1 + 4), .ref (h + 1 + 5), .ref (h + 1 + 6), .ref (h + 1 + 7), .ref (h + 1 + 8), .ref (h + 1 + 9), .int 0, .int 0, .int 0, .ref (h + 1 + 10), .ref (h + 1 + 11), .ref (h + 1 + 12), .ref (h + 1 + 13), .ref (h + 1 + 14), .null, .null, .null, .int 0, .null, .null, .null, .null, .null, .null, .int 0, .null, .int 0] S15 := j15
  clear j15
  obtain ⟨S16, e16, j16, k16⟩ := ms i15 26 0 7 7 rfl rfl rfl (by omega) (Nat.le_of_ble_eq_true rfl)
  have i16 : mi G h 16 [.int 0, .int 0, .int 0, .int 0, .int 0, .int 0, .ref (h + 1 + 0), .int 0, .ref (h + 1 + 1), .ref (h + 1 + 2), .int 0, .ref (h + 1 + 3), .ref (h + 1 + 4), .ref (h + 1 + 5), .ref (h + 1 + 6), .ref (h + 1 + 7), .ref (h + 1 + 8), .ref (h + 1 + 9), .int 0, .int 0, .int 0, .ref (h + 1 + 10), .ref (h + 1 + 11), .ref (h + 1 + 12), .ref (h + 1 + 13), .ref (h + 1 + 14), .ref (h + 1 + 15), .null, .null, .int 0, .null, .null, .null, .null, .null, .null, .int 0, .null, .int 0] S16 := j16
  clear j16
  obtain ⟨S17, e17, j17, k17⟩ := ms i16 27 0 3 3 rfl rfl rfl (by omega) (Nat.le_of_ble_eq_true rfl)
  have i17 : mi G h 17 [.int 0, .int 0, .int 0, .int 0, .int 0, .int 0, .ref (h + 1 + 0), .int 0, .ref (h + 1 + 1), .ref (h + 1 + 2), .int 0, .ref (h + 1 + 3), .ref (h + 1 + 4), .ref (h + 1 + 5), .ref (h + 1 + 6), .ref (h + 1 + 7), .ref (h + 1 + 8), .ref (h + 1 + 9), .int 0, .int 0, .int 0, .ref (h + 1 + 10), .ref (h + 1 + 11), .ref (h + 1 + 12), .ref (h + 1 + 13), .ref (h + 1 + 14), .ref (h + 1 + 15), .ref (h + 1 + 16), .null, .int 0, .null, .null, .null, .null, .null, .null, .int 0, .null, .int 0] S17 := j17
  clear j17
  obtain ⟨S18, e18, j18, k18⟩ := ms i17 28 0 3 3 rfl rfl rfl (by omega) (Nat.le_of_ble_eq_true rfl)
  have i18 : mi G h 18 [.int 0, .int 0, .int 0, .int 0, .int 0, .int 0, .ref (h + 1 + 0), .int 0, .ref (h + 1 + 1), .ref (h + 1 + 2), .int 0, .ref (h + 1 + 3), .ref (h + 1 + 4), .ref (h + 1 + 5), .ref (h + 1 + 6), .ref (h + 1 + 7), .ref (h + 1 + 8), .ref (h + 1 + 9), .int 0, .int 0, .int 0, .ref (h + 1 + 10), .ref (h + 1 + 11), .ref (h + 1 + 12), .ref (h + 1 + 13), .ref (h + 1 + 14), .ref (h + 1 + 15), .ref (h + 1 + 16), .ref (h + 1 + 17), .int 0, .null, .null, .null, .null, .null, .null, .int 0, .null, .int 0] S18 := j18
  clear j18
  obtain ⟨S19, e19, j19, k19⟩ := ms i18 30 0 4 4 rfl rfl rfl (by omega) (Nat.le_of_ble_eq_true rfl)
  have i19 : mi G h 19 [.int 0, .int 0, .int 0, .int 0, .int 0, .int 0, .ref (h + 1 + 0), .int 0, .ref (h + 1 + 1), .ref (h + 1 + 2), .int 0, .ref (h + 1 + 3), .ref (h + 1 + 4), .ref (h + 1 + 5), .ref (h + 1 + 6), .ref (h + 1 + 7), .ref (h + 1 + 8), .ref (h + 1 + 9), .int 0, .int 0, .int 0, .ref (h + 1 + 10), .ref (h + 1 + 11), .ref (h + 1 + 12), .ref (h + 1 + 13), .ref (h + 1 + 14), .ref (h + 1 + 15), .ref (h + 1 + 16), .ref (h + 1 + 17), .int 0, .ref (h + 1 + 18), .null, .null, .null, .null, .null, .int 0, .null, .int 0] S19 := j19
  clear j19
  obtain ⟨S20, e20, j20, k20⟩ := ms i19 31 3 24 24 rfl rfl rfl (by omega) (Nat.le_of_ble_eq_true rfl)
  have i20 : mi G h 20 [.int 0, .int 0, .int 0, .int 0, .int 0, .int 0, .ref (h + 1 + 0), .int 0, .ref (h + 1 + 1), .ref (h + 1 + 2), .int 0, .ref (h + 1 + 3), .ref (h + 1 + 4), .ref (h + 1 + 5), .ref (h + 1 + 6), .ref (h + 1 + 7), .ref (h + 1 + 8), .ref (h + 1 + 9), .int 0, .int 0, .int 0, .ref (h + 1 + 10), .ref (h + 1 + 11), .ref (h + 1 + 12), .ref (h + 1 + 13), .ref (h + 1 + 14), .ref (h + 1 + 15), .ref (h + 1 + 16), .ref (h + 1 + 17), .int 0, .ref (h + 1 + 18), .ref (h + 1 + 19), .null, .null, .null, .null, .int 0, .null, .int 0] S20 := j20
  clear j20
  obtain ⟨S21, e21, j21, k21⟩ := ms i20 32 0 24 24 rfl rfl rfl (by omega) (Nat.le_of_ble_eq_true rfl)
  have i21 : mi G h 21 [.int 0, .int 0, .int 0, .int 0, .int 0, .int 0, .ref (h + 1 + 0), .int 0, .ref (h + 1 + 1), .ref (h + 1 + 2), .int 0, .ref (h + 1 + 3), .ref (h + 1 + 4), .ref (h + 1 + 5), .ref (h + 1 + 6), .ref (h + 1 + 7), .ref (h + 1 + 8), .ref (h + 1 + 9), .int 0, .int 0, .int 0, .ref (h + 1 + 10), .ref (h + 1 + 11), .ref (h + 1 + 12), .ref (h + 1 + 13), .ref (h + 1 + 14), .ref (h + 1 + 15), .ref (h + 1 + 16), .ref (h + 1 + 17), .int 0, .ref (h + 1 + 18), .ref (h + 1 + 19), .ref (h + 1 + 20), .null, .null, .null, .int 0, .null, .int 0] S21 := j21
  clear j21
  obtain ⟨S22, e22, j22, k22⟩ := ms i21 33 0 4 4 rfl rfl rfl (by omega) (Nat.le_of_ble_eq_true rfl)
  have i22 : mi G h 22 [.int 0, .int 0, .int 0, .int 0, .int 0, .int 0, .ref (h + 1 + 0), .int 0, .ref (h + 1 + 1), .ref (h + 1 + 2), .int 0, .ref (h + 1 + 3), .ref (h + 1 + 4), .ref (h + 1 + 5), .ref (h + 1 + 6), .ref (h + 1 + 7), .ref (h + 1 + 8), .ref (h + 1 + 9), .int 0, .int 0, .int 0, .ref (h + 1 + 10), .ref (h + 1 + 11), .ref (h + 1 + 12), .ref (h + 1 + 13), .ref (h + 1 + 14), .ref (h + 1 + 15), .ref (h + 1 + 16), .ref (h + 1 + 17), .int 0, .ref (h + 1 + 18), .ref (h + 1 + 19), .ref (h + 1 + 20), .ref (h + 1 + 21), .null, .null, .int 0, .null, .int 0] S22 := j22
  clear j22
  obtain ⟨S23, e23, j23, k23⟩ := ms i22 34 0 4 4 rfl rfl rfl (by omega) (Nat.le_of_ble_eq_true rfl)
  have i23 : mi G h 23 [.int 0, .int 0, .int 0, .int 0, .int 0, .int 0, .ref (h + 1 + 0), .int 0, .ref (h + 1 + 1), .ref (h + 1 + 2), .int 0, .ref (h + 1 + 3), .ref (h + 1 + 4), .ref (h + 1 + 5), .ref (h + 1 + 6), .ref (h + 1 + 7), .ref (h + 1 + 8), .ref (h + 1 + 9), .int 0, .int 0, .int 0, .ref (h + 1 + 10), .ref (h + 1 + 11), .ref (h + 1 + 12), .ref (h + 1 + 13), .ref (h + 1 + 14), .ref (h + 1 + 15), .ref (h + 1 + 16), .ref (h + 1 + 17), .int 0, .ref (h + 1 + 18), .ref (h + 1 + 19), .ref (h + 1 + 20), .ref (h + 1 + 21), .ref (h + 1 + 22), .null, .int 0, .null, .int 0] S23 := j23
  clear j23
  obtain ⟨S24, e24, j24, k24⟩ := ms i23 35 0 4400 4400 rfl rfl rfl (by omega) (Nat.le_of_ble_eq_true rfl)
  have i24 : mi G h 24 [.int 0, .int 0, .int 0, .int 0, .int 0, .int 0, .ref (h + 1 + 0), .int 0, .ref (h + 1 + 1), .ref (h + 1 + 2), .int 0, .ref (h + 1 + 3), .ref (h + 1 + 4), .ref (h + 1 + 5), .ref (h + 1 + 6), .ref (h + 1 + 7), .ref (h + 1 + 8), .ref (h + 1 + 9), .int 0, .int 0, .int 0, .ref (h + 1 + 10), .ref (h + 1 + 11), .ref (h + 1 + 12), .ref (h + 1 + 13), .ref (h + 1 + 14), .ref (h + 1 + 15), .ref (h + 1 + 16), .ref (h + 1 + 17), .int 0, .ref (h + 1 + 18), .ref (h + 1 + 19), .ref (h + 1 + 20), .ref (h + 1 + 21), .ref (h + 1 + 22), .ref (h + 1 + 23), .int 0, .null, .int 0] S24 := j24
  clear j24
  obtain ⟨S25, e25, j25, k25⟩ := ms i24 37 0 64 64 rfl rfl rfl (by omega) (Nat.le_of_ble_eq_true rfl)
  have i25 : mi G h 25 [.int 0, .int 0, .int 0, .int 0, .int 0, .int 0, .ref (h + 1 + 0), .int 0, .ref (h + 1 + 1), .ref (h + 1 + 2), .int 0, .ref (h + 1 + 3), .ref (h + 1 + 4), .ref (h + 1 + 5), .ref (h + 1 + 6), .ref (h + 1 + 7), .ref (h + 1 + 8), .ref (h + 1 + 9), .int 0, .int 0, .int 0, .ref (h + 1 + 10), .ref (h + 1 + 11), .ref (h + 1 + 12), .ref (h + 1 + 13), .ref (h + 1 + 14), .ref (h + 1 + 15), .ref (h + 1 + 16), .ref (h + 1 + 17), .int 0, .ref (h + 1 + 18), .ref (h + 1 + 19), .ref (h + 1 + 20), .ref (h + 1 + 21), .ref (h + 1 + 22), .ref (h + 1 + 23), .int 0, .ref (h + 1 + 24), .int 0] S25 := j25
  clear j25
  refine ⟨S25, ?_, i25, fun q hq => by rw [k25 q hq, k24 q hq, k23 q hq, k22 q hq, k21 q hq, k20 q hq, k19 q hq, k18 q hq, k17 q hq, k16 q hq, k15 q hq, k14 q hq, k13 q hq, k12 q hq, k11 q hq, k10 q hq, k9 q hq, k8 q hq, k7 q hq, k6 q hq, k5 q hq, k4 q hq, k3 q hq, k2 q hq, k1 q hq]⟩
  unfold pf_X9_init
  refine (e1 _).trans ?_
  refine (e2 _).trans ?_
  refine (e3 _).trans ?_
  refine (e4 _).trans ?_
  refine (e5 _).trans ?_
  refine (e6 _).trans ?_
  refine (e7 _).trans ?_
  refine (e8 _).trans ?_
  refine (e9 _).trans ?_
  refine (e10 _).trans ?_
  refine (e11 _).trans ?_
  refine (e12 _).trans ?_
  refine (e13 _).trans ?_
  refine (e14 _).trans ?_
  refine (e15 _).trans ?_
  refine (e16 _).trans ?_
  refine (e17 _).trans ?_
  refine (e18 _).trans ?_
  refine (e19 _).trans ?_
  refine (e20 _).trans ?_
  refine (e21 _).trans ?_
  refine (e22 _).trans ?_
  refine (e23 _).trans ?_
  refine (e24 _).trans ?_
  exact e25 _
theorem model_new {x1 x2 x3 : Int32} {sz p kl : Nat} (h0 : S.1 h = some (.inr (9, mBl))) (h1 : S.2 = h + 1) (a1 : x1 < nI 16 → nI sz = nI 16) (a2 : ¬ x1 < nI 16 → nI 60 < x1 → nI sz = nI 60) (a3 : ¬ x1 < nI 16 → ¬ nI 60 < x1 → nI sz = x1) (b1 : x2 < nI 0 → nI p = nI 0) (b2 : ¬ x2 < nI 0 → nI 4 < x2 → nI p = nI 4) (b3 : ¬ x2 < nI 0 → ¬ nI 4 < x2 → nI p = x2) (c1 : x3 < nI 1 → nI kl = nI 1) (c2 : ¬ x3 < nI 1 → nI 5 < x3 → nI kl = nI 5) (c3 : ¬ x3 < nI 1 → ¬ nI 5 < x3 → nI kl = x3) : ∃ S', pf_X9_init G N S h x1 x2 x3 = some S' ∧ mm_R G h S' (mIni p kl sz) ∧ nx h (h + 26) S S' := by
  obtain ⟨S25, E, i25, kk⟩ := model_25 (G := G) (N := N) h0 h1 x1 x2 x3
  rw [E]
  have f0 : S25.1 h = some (.inr (9, mm_fs h (fun _ => 0))) := i25.1
  have e226 : (if (16 : Int32) ≤ x1 then (if x1 ≤ 60 then pf_X9_init_226 G N h x2 x3 h x1 S25 else pf_X9_init_226 G N h x2 x3 h 60 S25) else pf_X9_init_226 G N h x2 x3 h 16 S25) = pf_X9_init_226 G N h x2 x3 h (nI sz) S25 := by
    by_cases q1 : x1 < nI 16
    · rw [if_neg (show ¬ (16 : Int32) ≤ x1 from fun z => absurd q1 (Int32.not_lt.mpr z)), a1 q1]; rfl
    · rw [if_pos (show (16 : Int32) ≤ x1 from Int32.not_lt.mp q1)]
      by_cases q2 : nI 60 < x1
      · rw [if_neg (show ¬ x1 ≤ (60 : Int32) from fun z => absurd q2 (Int32.not_lt.mpr z)), a2 q1 q2]; rfl
      · rw [if_pos (show x1 ≤ 60 from Int32.not_lt.mp q2), a3 q1 q2]
  rw [e226, pf_X9_init_226]
  simp only [pf_q _ f0 (k := 0) (Nat.le_of_ble_eq_true rfl), Option.bind_some]
  generalize hA : mw_up S25 h (.inr (9, (mm_fs h (fun _ => 0)).set 0 (.int (nI sz)))) = A
  have A0 : A.1 h = some (.inr (9, (mm_fs h (fun _ => 0)).set 0 (.int (nI sz)))) := by rw [← hA]; exact up_s _ _ _
  have e248 : (if (0 : Int32) ≤ x2 then (if x2 ≤ 4 then pf_X9_init_248 G N h x3 h x2 A else pf_X9_init_248 G N h x3 h 4 A) else pf_X9_init_248 G N h x3 h 0 A) = pf_X9_init_248 G N h x3 h (nI p) A := by
    by_cases q1 : x2 < nI 0
    · rw [if_neg (show ¬ (0 : Int32) ≤ x2 from fun z => absurd q1 (Int32.not_lt.mpr z)), b1 q1]; rfl
    · rw [if_pos (show (0 : Int32) ≤ x2 from Int32.not_lt.mp q1)]
      by_cases q2 : nI 4 < x2
      · rw [if_neg (show ¬ x2 ≤ (4 : Int32) from fun z => absurd q2 (Int32.not_lt.mpr z)), b2 q1 q2]; rfl
      · rw [if_pos (show x2 ≤ 4 from Int32.not_lt.mp q2), b3 q1 q2]
  rw [e248, pf_X9_init_248]
  simp only [pf_q _ A0 (k := 1) (Nat.le_of_ble_eq_true rfl), Option.bind_some]
  generalize hB : mw_up A h (.inr (9, ((mm_fs h (fun _ => 0)).set 0 (.int (nI sz))).set 1 (.int (nI p)))) = B
  have B0 : B.1 h = some (.inr (9, ((mm_fs h (fun _ => 0)).set 0 (.int (nI sz))).set 1 (.int (nI p)))) := by rw [← hB]; exact up_s _ _ _
  have e271 : (if (1 : Int32) ≤ x3 then (if x3 ≤ 5 then pf_X9_init_271 G N h h x3 B else pf_X9_init_271 G N h h 5 B) else pf_X9_init_271 G N h h 1 B) = pf_X9_init_271 G N h h (nI kl) B := by
    by_cases q1 : x3 < nI 1
    · rw [if_neg (show ¬ (1 : Int32) ≤ x3 from fun z => absurd q1 (Int32.not_lt.mpr z)), c1 q1]; rfl
    · rw [if_pos (show (1 : Int32) ≤ x3 from Int32.not_lt.mp q1)]
      by_cases q2 : nI 5 < x3
      · rw [if_neg (show ¬ x3 ≤ (5 : Int32) from fun z => absurd q2 (Int32.not_lt.mpr z)), c2 q1 q2]; rfl
      · rw [if_pos (show x3 ≤ 5 from Int32.not_lt.mp q2), c3 q1 q2]
  rw [e271, pf_X9_init_271]
  simp only [pf_q _ B0 (k := 2) (Nat.le_of_ble_eq_true rfl), Option.bind_some]
  generalize hC : mw_up B h (.inr (9, (((mm_fs h (fun _ => 0)).set 0 (.int (nI sz))).set 1 (.int (nI p))).set 2 (.int (nI kl)))) = C
  have C0 : C.1 h = some (.inr (9, (((mm_fs h (fun _ => 0)).set 0 (.int (nI sz))).set 1 (.int (nI p))).set 2 (.int (nI kl)))) := by rw [← hC]; exact up_s _ _ _
  have Cn : ∀ q, q ≠ h → C.1 q = S25.1 q := fun q hq => by rw [← hC, up_n _ _ hq, ← hB, up_n _ _ hq, ← hA, up_n _ _ hq]
  have C2 : C.2 = h + 26 := by rw [← hC, ← hB, ← hA]; exact i25.2.1
  have c12 : C.1 (h + 1 + 12) = some (.inl (G 0, 7, .inl (fun _ => 0))) := by rw [Cn _ (by omega)]; exact i25.2.2 12 (by omega)
  have s6 : mw_si C (h + 1 + 12) (G 0) 6 1 = some (mw_up C (h + 1 + 12) (.inl (G 0, 7, .inl (upd (fun _ => 0) 6 1)))) := si_q (j := 6) 1 c12 (by omega) (by omega)
  simp only [gr_q (k := 23) C0 rfl, Option.bind_some, s6]
  refine ⟨_, rfl, ⟨?_, fun k hk => ?_⟩, ⟨fun q hq => ?_, C2⟩⟩
  · rw [up_n _ _ (by omega)]; exact C0
  · by_cases h12 : k = 12
    · subst h12; rw [up_s]; rfl
    · rw [up_n _ _ (by omega), Cn _ (by omega), i25.2.2 k hk]
      show _ = some (Sum.inl (_, _, Sum.inl (if k = 12 then _ else _)))
      rw [if_neg h12]
  · rw [up_n _ _ (by omega), Cn _ (by omega)]; exact kk q hq
end MNW
