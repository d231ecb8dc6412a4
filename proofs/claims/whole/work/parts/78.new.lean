/-! what the constructors lay -/
theorem ad_s (S : mw_M) (e : va_E) : (mw_ad S e).1 S.2 = some e := if_pos rfl
theorem ad_n (S : mw_M) {q : Nat} (e : va_E) (h : q ≠ S.2) : (mw_ad S e).1 q = S.1 q := if_neg h
/-- below lo nothing is changed; the heap's end is hi -/
def nx (lo hi : Nat) (S S' : mw_M) : Prop := (∀ q, q < lo → S'.1 q = S.1 q) ∧ S'.2 = hi
theorem nx.sm {lo hi : Nat} {S S' : mw_M} (h : nx lo hi S S') : sm_p (fun q => lo ≤ q) S (S'.1, S.2) := ⟨fun q hq => h.1 q (by omega), rfl⟩
theorem nx.tr {lo lo2 hi hi2 : Nat} {S S' S'' : mw_M} (h : nx lo hi S S') (h' : nx lo2 hi2 S' S'') (hl : lo ≤ lo2) : nx lo hi2 S S'' := ⟨fun q hq => (h'.1 q (by omega)).trans (h.1 q hq), h'.2⟩
theorem nx.ad {lo hi : Nat} {S : mw_M} (e : va_E) (h : lo ≤ S.2) (h2 : S.2 + 1 = hi) : nx lo hi S (mw_ad S e) := ⟨fun q hq => ad_n S e (by omega), h2⟩
theorem nx.up {lo a : Nat} {S : mw_M} (e : va_E) (h : lo ≤ a) : nx lo S.2 S (mw_up S a e) := ⟨fun q hq => up_n S e (by omega), rfl⟩
theorem na_q {S : mw_M} {cA : ClassId} {cap c : Nat} (h : c ≤ cap) (hc : c < 2 ^ 31) : mw_na S cA cap (nI c) = some (S.2, mw_ad S (.inl (cA, c, .inl (fun _ => 0)))) := by
  unfold mw_na
  rw [nI_clamp hc, if_pos ⟨nI_pos hc, h⟩]
theorem nq_q {S : mw_M} {cA : ClassId} {cap c : Nat} (h : c ≤ cap) (hc : c < 2 ^ 31) : mw_nq S cA cap (nI c) = some (S.2, mw_ad S (.inl (cA, c, .inr (.inr (.inr (.inr (fun _ => none))))))) := by
  unfold mw_nq
  rw [nI_clamp hc, if_pos ⟨nI_pos hc, h⟩]
section NEW
variable {G : Nat → ClassId} {N : Nat} {S : mw_M} {h : Nat}
theorem br_new {c : Nat} (h0 : S.1 h = some (.inr (0, [.null, .int 0]))) (h1 : S.2 = h + 1) (hc : c ≤ 5000) : ∃ S', pf_X0_init G N S h (nI c) = some S' ∧ br_R G S' h c [] ∧ nx h (h + 2) S S' := by
  unfold pf_X0_init
  simp only [na_q (S := S) (cA := G 1) hc (by omega), mw_b2]
  generalize hS1 : mw_ad S (.inl (G 1, c, .inl (fun _ => 0))) = S1
  have n1 : nx (h + 1) (h + 2) S S1 := by rw [← hS1]; exact nx.ad _ (by omega) (by omega)
  have a1 : S1.1 (h + 1) = some (.inl (G 1, c, .inl (fun _ => 0))) := by rw [← hS1, ← h1]; exact ad_s _ _
  have b1 : S1.1 h = some (.inr (0, [.null, .int 0])) := (n1.1 h (by omega)).trans h0
  simp only [pf_q _ b1 (k := 0) (Nat.le_of_ble_eq_true rfl), Option.bind_some, h1]
  refine ⟨_, rfl, ⟨up_s _ _ _, Nat.zero_le _, by omega, fun _ => 0, ?_, fun i hi => absurd hi (Nat.not_lt_zero i)⟩, ⟨fun q hq => (up_n _ _ (by omega)).trans (n1.1 q (by omega)), n1.2⟩⟩
  rw [up_n _ _ (by omega)]; exact a1
theorem tx_new (h0 : S.1 h = some (.inr (7, [.null, .int 0]))) (h1 : S.2 = h + 1) : ∃ S', pf_X7_init G N S h = some S' ∧ tx_R G S' h 0 (fun _ => 0) ∧ nx h (h + 2) S S' := by
  unfold pf_X7_init
  have e : mw_na S (G 2) 40 40 = _ := na_q (S := S) (cA := G 2) (c := 40) (cap := 40) (by omega) (by omega)
  simp only [e, mw_b2]
  generalize hS1 : mw_ad S (.inl (G 2, 40, .inl (fun _ => 0))) = S1
  have n1 : nx (h + 1) (h + 2) S S1 := by rw [← hS1]; exact nx.ad _ (by omega) (by omega)
  have a1 : S1.1 (h + 1) = some (.inl (G 2, 40, .inl (fun _ => 0))) := by rw [← hS1, ← h1]; exact ad_s _ _
  have b1 : S1.1 h = some (.inr (7, [.null, .int 0])) := (n1.1 h (by omega)).trans h0
  simp only [pf_q _ b1 (k := 0) (Nat.le_of_ble_eq_true rfl), Option.bind_some, h1]
  refine ⟨_, rfl, ⟨up_s _ _ _, ?_, Nat.zero_le _, fun i hi => absurd hi (Nat.not_lt_zero i)⟩, ⟨fun q hq => (up_n _ _ (by omega)).trans (n1.1 q (by omega)), n1.2⟩⟩
  rw [up_n _ _ (by omega)]; exact a1
theorem st_new (h0 : S.1 h = some (.inr (6, [.null, .null, .int 0]))) (h1 : S.2 = h + 1) : ∃ S', pf_X6_init G N S h = some S' ∧ st_R G S' h 0 (fun _ => 0) (fun _ => 0) ∧ nx h (h + 3) S S' := by
  unfold pf_X6_init
  have e : mw_na S (G 2) 192 192 = _ := na_q (S := S) (cA := G 2) (c := 192) (cap := 192) (by omega) (by omega)
  simp only [e, mw_b2]
  generalize hS1 : mw_ad S (.inl (G 2, 192, .inl (fun _ => 0))) = S1
  have n1 : nx (h + 1) (h + 2) S S1 := by rw [← hS1]; exact nx.ad _ (by omega) (by omega)
  have a1 : S1.1 (h + 1) = some (.inl (G 2, 192, .inl (fun _ => 0))) := by rw [← hS1, ← h1]; exact ad_s _ _
  have b1 : S1.1 h = some (.inr (6, [.null, .null, .int 0])) := (n1.1 h (by omega)).trans h0
  simp only [pf_q _ b1 (k := 0) (Nat.le_of_ble_eq_true rfl), Option.bind_some, h1]
  generalize hS2 : mw_up S1 h (.inr (6, [Value.null, .null, .int 0].set 0 (.ref (h + 1)))) = S2
  have b2 : S2.1 h = some (.inr (6, [.ref (h + 1), .null, .int 0])) := by rw [← hS2]; exact up_s _ _ _
  have a2 : S2.1 (h + 1) = some (.inl (G 2, 192, .inl (fun _ => 0))) := by rw [← hS2, up_n _ _ (by omega)]; exact a1
  have z2 : S2.2 = h + 2 := by rw [← hS2]; exact n1.2
  have k2 : ∀ q, q < h → S2.1 q = S.1 q := fun q hq => by rw [← hS2, up_n _ _ (by omega)]; exact n1.1 q (by omega)
  have e2 : mw_na S2 (G 0) 24 24 = _ := na_q (S := S2) (cA := G 0) (c := 24) (cap := 24) (by omega) (by omega)
  simp only [e2]
  generalize hS3 : mw_ad S2 (.inl (G 0, 24, .inl (fun _ => 0))) = S3
  have n3 : nx (h + 2) (h + 3) S2 S3 := by rw [← hS3]; exact nx.ad _ (by omega) (by omega)
  have a3 : S3.1 (h + 2) = some (.inl (G 0, 24, .inl (fun _ => 0))) := by rw [← hS3, ← z2]; exact ad_s _ _
  have b3 := (n3.1 h (by omega)).trans b2
  simp only [pf_q _ b3 (k := 1) (Nat.le_of_ble_eq_true rfl), Option.bind_some, z2]
  refine ⟨_, rfl, ⟨up_s _ _ _, ?_, ?_⟩, ⟨fun q hq => ?_, n3.2⟩⟩
  · rw [up_n _ _ (by omega), n3.1 _ (by omega)]; exact a2
  · rw [up_n _ _ (by omega)]; exact a3
  · rw [up_n _ _ (by omega), n3.1 _ (by omega)]; exact k2 q hq
theorem th_new {c : Nat} (h0 : S.1 h = some (.inr (3, [.null, .null, .int 0, .int 0, .int 0]))) (h1 : S.2 = h + 1) (hc : c ≤ 5000) : ∃ S', pf_X3_init G N S h (nI c) = some S' ∧ th_R G S' h 0 0 0 (fun _ => 0) c [] ∧ nx h (h + 4) S S' := by
  unfold pf_X3_init
  have e : mw_na S (G 0) 3 3 = _ := na_q (S := S) (cA := G 0) (c := 3) (cap := 3) (by omega) (by omega)
  simp only [e, mw_b2]
  generalize hS1 : mw_ad S (.inl (G 0, 3, .inl (fun _ => 0))) = S1
  have n1 : nx (h + 1) (h + 2) S S1 := by rw [← hS1]; exact nx.ad _ (by omega) (by omega)
  have a1 : S1.1 (h + 1) = some (.inl (G 0, 3, .inl (fun _ => 0))) := by rw [← hS1, ← h1]; exact ad_s _ _
  have b1 := (n1.1 h (by omega)).trans h0
  simp only [pf_q _ b1 (k := 0) (Nat.le_of_ble_eq_true rfl), Option.bind_some, h1]
  generalize hS2 : mw_up S1 h (.inr (3, [Value.null, .null, .int 0, .int 0, .int 0].set 0 (.ref (h + 1)))) = S2
  have b2 : S2.1 h = some (.inr (3, [.ref (h + 1), .null, .int 0, .int 0, .int 0])) := by rw [← hS2]; exact up_s _ _ _
  have a2 : S2.1 (h + 1) = some (.inl (G 0, 3, .inl (fun _ => 0))) := by rw [← hS2, up_n _ _ (by omega)]; exact a1
  have z2 : S2.2 = h + 2 := by rw [← hS2]; exact n1.2
  have k2 : ∀ q, q < h → S2.1 q = S.1 q := fun q hq => by rw [← hS2, up_n _ _ (by omega)]; exact n1.1 q (by omega)
  simp only [mw_no, z2]
  generalize hS3 : mw_ad S2 (.inr (0, [.null, .int 0])) = S3
  have n3 : nx (h + 2) (h + 3) S2 S3 := by rw [← hS3]; exact nx.ad _ (by omega) (by omega)
  have a3 : S3.1 (h + 2) = some (.inr (0, [.null, .int 0])) := by rw [← hS3, ← z2]; exact ad_s _ _
  obtain ⟨S4, e4, r4, n4⟩ := br_new (G := G) (N := N) a3 n3.2 hc
  have b4 := (n4.1 h (by omega)).trans ((n3.1 h (by omega)).trans b2)
  simp only [e4, Option.bind_some, pf_q _ b4 (k := 1) (Nat.le_of_ble_eq_true rfl)]
  refine ⟨_, rfl, ⟨up_s _ _ _, ?_, r4.kp (up_n _ _ (by omega)) (up_n _ _ (by omega))⟩, ⟨fun q hq => ?_, n4.2⟩⟩
  · rw [up_n _ _ (by omega), n4.1 _ (by omega), n3.1 _ (by omega)]; exact a2
  · rw [up_n _ _ (by omega), n4.1 _ (by omega), n3.1 _ (by omega)]; exact k2 q hq
theorem rec_new (h0 : S.1 h = some (.inr (5, [.null, .null, .int 0, .int 0, .int 0]))) (h1 : S.2 = h + 1) : ∃ S', pf_X5_init G N S h = some S' ∧ rec_R G S' h 0 0 2147483647 (fun _ => 0) (fun _ => 0) ∧ nx h (h + 3) S S' := by
  unfold pf_X5_init
  have e : mw_na S (G 3) 6 6 = _ := na_q (S := S) (cA := G 3) (c := 6) (cap := 6) (by omega) (by omega)
  simp only [e, mw_b2]
  generalize hS1 : mw_ad S (.inl (G 3, 6, .inl (fun _ => 0))) = S1
  have n1 : nx (h + 1) (h + 2) S S1 := by rw [← hS1]; exact nx.ad _ (by omega) (by omega)
  have a1 : S1.1 (h + 1) = some (.inl (G 3, 6, .inl (fun _ => 0))) := by rw [← hS1, ← h1]; exact ad_s _ _
  have b1 := (n1.1 h (by omega)).trans h0
  simp only [pf_q _ b1 (k := 0) (Nat.le_of_ble_eq_true rfl), Option.bind_some, h1]
  generalize hS2 : mw_up S1 h (.inr (5, [Value.null, .null, .int 0, .int 0, .int 0].set 0 (.ref (h + 1)))) = S2
  have b2 : S2.1 h = some (.inr (5, [.ref (h + 1), .null, .int 0, .int 0, .int 0])) := by rw [← hS2]; exact up_s _ _ _
  have a2 : S2.1 (h + 1) = some (.inl (G 3, 6, .inl (fun _ => 0))) := by rw [← hS2, up_n _ _ (by omega)]; exact a1
  have z2 : S2.2 = h + 2 := by rw [← hS2]; exact n1.2
  have k2 : ∀ q, q < h → S2.1 q = S.1 q := fun q hq => by rw [← hS2, up_n _ _ (by omega)]; exact n1.1 q (by omega)
  have e2 : mw_na S2 (G 0) 6 6 = _ := na_q (S := S2) (cA := G 0) (c := 6) (cap := 6) (by omega) (by omega)
  simp only [e2]
  generalize hS3 : mw_ad S2 (.inl (G 0, 6, .inl (fun _ => 0))) = S3
  have n3 : nx (h + 2) (h + 3) S2 S3 := by rw [← hS3]; exact nx.ad _ (by omega) (by omega)
  have a3 : S3.1 (h + 2) = some (.inl (G 0, 6, .inl (fun _ => 0))) := by rw [← hS3, ← z2]; exact ad_s _ _
  have b3 := (n3.1 h (by omega)).trans b2
  simp only [pf_q _ b3 (k := 1) (Nat.le_of_ble_eq_true rfl), Option.bind_some, z2]
  have b4 := up_s S3 h (.inr (5, [Value.ref (h + 1), .null, .int 0, .int 0, .int 0].set 1 (.ref (h + 2))))
  rw [pf_q _ b4 (k := 2) (Nat.le_of_ble_eq_true rfl)]
  simp only [Option.bind_some]
  have b5 := up_s (mw_up S3 h (.inr (5, [Value.ref (h + 1), .null, .int 0, .int 0, .int 0].set 1 (.ref (h + 2))))) h (.inr (5, ([Value.ref (h + 1), .null, .int 0, .int 0, .int 0].set 1 (.ref (h + 2))).set 2 (.int 0)))
  rw [pf_q _ b5 (k := 4) (Nat.le_of_ble_eq_true rfl)]
  refine ⟨_, rfl, ⟨up_s _ _ _, ?_, ?_⟩, ⟨fun q hq => ?_, n3.2⟩⟩
  · rw [up_n _ _ (by omega), up_n _ _ (by omega), up_n _ _ (by omega), n3.1 _ (by omega)]; exact a2
  · rw [up_n _ _ (by omega), up_n _ _ (by omega), up_n _ _ (by omega)]; exact a3
  · rw [up_n _ _ (by omega), up_n _ _ (by omega), up_n _ _ (by omega), n3.1 _ (by omega)]; exact k2 q hq
theorem ck_new {c : Nat} (h0 : S.1 h = some (.inr (1, [.null, .null, .int 0, .int 0, .int 0]))) (h1 : S.2 = h + 1) (hc : c ≤ 5000) : ∃ S', pf_X1_init G N S h (nI c) = some S' ∧ ck_R G S' h c [] 0 0 0 (fun _ => 0) ∧ nx h (h + 4) S S' := by
  unfold pf_X1_init
  simp only [mw_no, mw_b2, h1]
  generalize hS1 : mw_ad S (.inr (0, [.null, .int 0])) = S1
  have n1 : nx (h + 1) (h + 2) S S1 := by rw [← hS1]; exact nx.ad _ (by omega) (by omega)
  have a1 : S1.1 (h + 1) = some (.inr (0, [.null, .int 0])) := by rw [← hS1, ← h1]; exact ad_s _ _
  obtain ⟨S2, e2, r2, n2⟩ := br_new (G := G) (N := N) a1 n1.2 hc
  have b2 := (n2.1 h (by omega)).trans ((n1.1 h (by omega)).trans h0)
  simp only [e2, Option.bind_some, pf_q _ b2 (k := 0) (Nat.le_of_ble_eq_true rfl)]
  generalize hS3 : mw_up S2 h (.inr (1, [Value.null, .null, .int 0, .int 0, .int 0].set 0 (.ref (h + 1)))) = S3
  have b3 : S3.1 h = some (.inr (1, [.ref (h + 1), .null, .int 0, .int 0, .int 0])) := by rw [← hS3]; exact up_s _ _ _
  have r3 : br_R G S3 (h + 1) c [] := r2.kp (by rw [← hS3]; exact up_n _ _ (by omega)) (by rw [← hS3]; exact up_n _ _ (by omega))
  have z3 : S3.2 = h + 3 := by rw [← hS3]; exact n2.2
  have k3 : ∀ q, q < h → S3.1 q = S.1 q := fun q hq => by rw [← hS3, up_n _ _ (by omega), n2.1 q (by omega)]; exact n1.1 q (by omega)
  have e3 : mw_na S3 (G 3) 24 24 = _ := na_q (S := S3) (cA := G 3) (c := 24) (cap := 24) (by omega) (by omega)
  simp only [e3]
  generalize hS4 : mw_ad S3 (.inl (G 3, 24, .inl (fun _ => 0))) = S4
  have n4 : nx (h + 3) (h + 4) S3 S4 := by rw [← hS4]; exact nx.ad _ (by omega) (by omega)
  have a4 : S4.1 (h + 3) = some (.inl (G 3, 24, .inl (fun _ => 0))) := by rw [← hS4, ← z3]; exact ad_s _ _
  have b4 := (n4.1 h (by omega)).trans b3
  simp only [pf_q _ b4 (k := 1) (Nat.le_of_ble_eq_true rfl), Option.bind_some, z3]
  refine ⟨_, rfl, ⟨up_s _ _ _, ?_, (r3.kp (n4.1 _ (by omega)) (n4.1 _ (by omega))).kp (up_n _ _ (by omega)) (up_n _ _ (by omega))⟩, ⟨fun q hq => ?_, n4.2⟩⟩
  · rw [up_n _ _ (by omega)]; exact a4
  · rw [up_n _ _ (by omega), n4.1 _ (by omega)]; exact k3 q hq
end NEW
