/-! both constructors: class and reference belong together -/
def mIni (p kl sz : Nat) : mm_M := (fun j => if j = 0 then nI sz else if j = 1 then nI p else if j = 2 then nI kl else 0, fun k => if k = 12 then upd (fun _ => 0) 6 1 else fun _ => 0)
theorem clp {lo hi : Nat} (h : lo ≤ hi) (hh : hi < 1000) (x : Int32) : ∃ n, lo ≤ n ∧ n ≤ hi ∧ (if nI lo < (if nI hi < x then nI hi else x) then (if nI hi < x then nI hi else x) else nI lo) = nI n ∧ (x < nI lo → nI n = nI lo) ∧ (¬ x < nI lo → nI hi < x → nI n = nI hi) ∧ (¬ x < nI lo → ¬ nI hi < x → nI n = x) := by
  rcases pk_ix x (n := hi + 1) (by omega) with hx | hx | ⟨j, hj, rfl⟩
  · have h1 : ¬ nI hi < x := fun z => absurd (Int32.lt_trans z hx) (nI_pos (by omega))
    have h2 : x < nI lo := by
      rcases Nat.eq_zero_or_pos lo with w | w
      · rw [w]; exact hx
      · exact Int32.lt_trans hx (nI_lt (a := 0) w (by omega))
    refine ⟨lo, Nat.le_refl _, h, ?_, fun _ => rfl, fun z => absurd h2 z, fun z => absurd h2 z⟩
    rw [if_neg h1, if_neg (fun z => Int32.lt_irrefl (Int32.lt_trans z h2))]
  · have h1 : nI hi < x := Int32.lt_of_lt_of_le (nI_lt (by omega) (by omega)) hx
    have h2 : ¬ x < nI lo := fun z => Int32.lt_irrefl (Int32.lt_of_lt_of_le (Int32.lt_trans h1 z) (nI_le h (by omega)))
    refine ⟨hi, h, Nat.le_refl _, ?_, fun z => absurd z h2, fun _ _ => rfl, fun _ z => absurd h1 z⟩
    rw [if_pos h1]
    by_cases hl : lo < hi
    · rw [if_pos (nI_lt hl (by omega))]
    · rw [if_neg (Int32.not_lt.mpr (nI_le (by omega) (by omega))), show lo = hi by omega]
  · have h1 : ¬ nI hi < nI j := Int32.not_lt.mpr (nI_le (by omega) (by omega))
    rw [if_neg h1]
    by_cases hl : lo < j
    · refine ⟨j, by omega, by omega, by rw [if_pos (nI_lt hl (by omega))], fun z => absurd z (Int32.not_lt.mpr (nI_le (by omega) (by omega))), fun _ z => absurd z h1, fun _ _ => rfl⟩
    · refine ⟨lo, Nat.le_refl _, h, by rw [if_neg (Int32.not_lt.mpr (nI_le (by omega) (by omega)))], fun _ => rfl, fun _ z => absurd z h1, fun z _ => ?_⟩
      have : ¬ j < lo := fun w => z (nI_lt w (by omega))
      rw [show j = lo by omega]
/-- all cells between b and the old end stay -/
def kb (b : Nat) (S S' : mw_M) : Prop := (∀ q, b < q → q < S.2 → S'.1 q = S.1 q) ∧ S.2 ≤ S'.2
theorem kb.tr {b : Nat} {S S' S'' : mw_M} (h : kb b S S') (h' : kb b S' S'') : kb b S S'' := ⟨fun q a1 a2 => (h'.1 q a1 (Nat.lt_of_lt_of_le a2 h.2)).trans (h.1 q a1 a2), Nat.le_trans h.2 h'.2⟩
theorem kb.sm {b : Nat} {S S' : mw_M} (h : kb b S S') : sm_p (fun q => ¬ (b < q ∧ q < S.2)) S (S'.1, S.2) := ⟨fun q hq => by
  have := Classical.not_not.mp hq
  exact h.1 q this.1 this.2, rfl⟩
section NW3
variable {G : Nat → ClassId} {N : Nat} {S : mw_M} {b : Nat}
theorem main_new {x1 x2 x3 : Int32} {sz p kl : Nat} (h0 : S.1 b = some (.inr (8, [.int 0, .null, .null, .null, .null, .null, .int 0, .null, .int 0, .null, .null, .null, .null, .int 0]))) (h1 : S.2 = b + 1) (hsz : 16 ≤ sz ∧ sz ≤ 60) (hp : p ≤ 4) (hkl : 1 ≤ kl ∧ kl ≤ 5) (e1 : (if 16 < (if 60 < x1 then 60 else x1) then (if 60 < x1 then 60 else x1) else 16) = nI sz) (e2 : (if 0 < (if 4 < x2 then 4 else x2) then (if 4 < x2 then 4 else x2) else 0) = nI p) (e3 : (if 1 < (if 5 < x3 then 5 else x3) then (if 5 < x3 then 5 else x3) else 1) = nI kl) (hN : 700 ≤ N) : ∃ S', pf_X8_init G N S b x1 x2 x3 = some S' ∧ RR G b p kl sz 0 S' (mIni p kl sz) ∧ nx b (b + 36 + 2 * p + 4 * kl + 10) S S' := by
  have hcbs := cbs_le hp hsz.2
  have ecb : ((150 + ((nI p + 3) * nI sz)) + 24 : Int32) = nI (cbs p sz) := by
    rw [show (150 : Int32) = nI 150 from rfl, show (3 : Int32) = nI 3 from rfl, show (24 : Int32) = nI 24 from rfl, nI_add, pk_mul, nI_add, nI_add]; rfl
  have hwb : kl * (cbs p sz + 258) ≤ 5000 := Nat.le_trans (Nat.mul_le_mul hkl.2 (show cbs p sz + 258 ≤ 852 by omega)) (by decide)
  have ewr : nI kl * (nI (cbs p sz) + 258) = nI (kl * (cbs p sz + 258)) := by
    rw [show (258 : Int32) = nI 258 from rfl, nI_add, pk_mul]
  unfold pf_X8_init
  rw [e1, e2, e3]
  simp only [pf_q _ h0 (k := 0) (Nat.le_of_ble_eq_true rfl), Option.bind_some]
  generalize hA : mw_up S b (.inr (8, [Value.int 0, .null, .null, .null, .null, .null, .int 0, .null, .int 0, .null, .null, .null, .null, .int 0].set 0 (.int (nI sz)))) = A
  have A0 : A.1 b = some (.inr (8, [.int (nI sz), .null, .null, .null, .null, .null, .int 0, .null, .int 0, .null, .null, .null, .null, .int 0])) := by rw [← hA]; exact up_s _ _ _
  have A2 : A.2 = b + 1 := by rw [← hA]; exact h1
  have Ak : ∀ q, q < b → A.1 q = S.1 q := fun q hq => by rw [← hA]; exact up_n _ _ (by omega)
  simp only [gi_q (k := 0) A0 rfl, Option.bind_some, mw_no, mw_b2, A2]
  -- the text
  generalize hB : mw_ad A (.inr (7, [.null, .int 0])) = B
  have nB : nx (b + 1) (b + 2) A B := by rw [← hB]; exact nx.ad _ (by omega) (by omega)
  have aB : B.1 (b + 1) = some (.inr (7, [.null, .int 0])) := by rw [← hB, ← A2]; exact ad_s _ _
  obtain ⟨C, eC, rC, nC⟩ := tx_new (G := G) (N := N) aB nB.2
  have C0 := (nC.1 b (by omega)).trans ((nB.1 b (by omega)).trans A0)
  simp only [eC, Option.bind_some, pf_q _ C0 (k := 1) (Nat.le_of_ble_eq_true rfl)]
  generalize hD : mw_up C b (.inr (8, [Value.int (nI sz), .null, .null, .null, .null, .null, .int 0, .null, .int 0, .null, .null, .null, .null, .int 0].set 1 (.ref (b + 1)))) = D
  have D0 : D.1 b = some (.inr (8, [.int (nI sz), .ref (b + 1), .null, .null, .null, .null, .int 0, .null, .int 0, .null, .null, .null, .null, .int 0])) := by rw [← hD]; exact up_s _ _ _
  have D2 : D.2 = b + 3 := by rw [← hD]; exact nC.2
  have Dn : ∀ q, q ≠ b → D.1 q = C.1 q := fun q hq => by rw [← hD]; exact up_n _ _ hq
  have Dt : tx_R G D (b + 1) 0 (fun _ => 0) := ⟨by rw [Dn _ (by omega)]; exact rC.1, by rw [Dn _ (by omega)]; exact rC.2.1, rC.2.2⟩
  have Dk : ∀ q, q < b → D.1 q = S.1 q := fun q hq => by rw [Dn q (by omega), nC.1 q (by omega), nB.1 q (by omega)]; exact Ak q hq
  simp only [D2]
  -- the strings
  generalize hE : mw_ad D (.inr (6, [.null, .null, .int 0])) = E
  have nE : nx (b + 3) (b + 4) D E := by rw [← hE]; exact nx.ad _ (by omega) (by omega)
  have aE : E.1 (b + 3) = some (.inr (6, [.null, .null, .int 0])) := by rw [← hE, ← D2]; exact ad_s _ _
  obtain ⟨F, eF, rF, nF⟩ := st_new (G := G) (N := N) aE nE.2
  have F0 := (nF.1 b (by omega)).trans ((nE.1 b (by omega)).trans D0)
  simp only [eF, Option.bind_some, pf_q _ F0 (k := 2) (Nat.le_of_ble_eq_true rfl)]
  generalize hH : mw_up F b (.inr (8, [Value.int (nI sz), .ref (b + 1), .null, .null, .null, .null, .int 0, .null, .int 0, .null, .null, .null, .null, .int 0].set 2 (.ref (b + 3)))) = H
  have H0 : H.1 b = some (.inr (8, [.int (nI sz), .ref (b + 1), .ref (b + 3), .null, .null, .null, .int 0, .null, .int 0, .null, .null, .null, .null, .int 0])) := by rw [← hH]; exact up_s _ _ _
  have H2 : H.2 = b + 6 := by rw [← hH]; exact nF.2
  have Hn : ∀ q, q ≠ b → H.1 q = F.1 q := fun q hq => by rw [← hH]; exact up_n _ _ hq
  have Hs : st_R G H (b + 3) 0 (fun _ => 0) (fun _ => 0) := ⟨by rw [Hn _ (by omega)]; exact rF.1, by rw [Hn _ (by omega)]; exact rF.2.1, by rw [Hn _ (by omega)]; exact rF.2.2⟩
  have Hk : ∀ q, q < b → H.1 q = S.1 q := fun q hq => by rw [Hn q (by omega), nF.1 q (by omega), nE.1 q (by omega)]; exact Dk q hq
  have kDH : kb b D H := ⟨fun q a1 a2 => by rw [Hn q (by omega), nF.1 q (by omega)]; exact nE.1 q (by omega), by omega⟩
  -- the threads
  have eI : mw_nq H (G 4) 3 3 = _ := nq_q (S := H) (cA := G 4) (c := 3) (cap := 3) (by omega) (by omega)
  simp only [eI, H2]
  generalize hI : mw_ad H (.inl (G 4, 3, .inr (.inr (.inr (.inr (fun _ => none)))))) = I
  have nI' : nx (b + 6) (b + 7) H I := by rw [← hI]; exact nx.ad _ (by omega) (by omega)
  have aI : I.1 (b + 6) = some (.inl (G 4, 3, .inr (.inr (.inr (.inr (fun _ => none)))))) := by rw [← hI, ← H2]; exact ad_s _ _
  have I0 := (nI'.1 b (by omega)).trans H0
  simp only [pf_q _ I0 (k := 3) (Nat.le_of_ble_eq_true rfl), Option.bind_some]
  generalize hJ : mw_up I b (.inr (8, [Value.int (nI sz), .ref (b + 1), .ref (b + 3), .null, .null, .null, .int 0, .null, .int 0, .null, .null, .null, .null, .int 0].set 3 (.ref (b + 6)))) = J
  have J0 : J.1 b = some (.inr (8, [.int (nI sz), .ref (b + 1), .ref (b + 3), .ref (b + 6), .null, .null, .int 0, .null, .int 0, .null, .null, .null, .null, .int 0])) := by rw [← hJ]; exact up_s _ _ _
  have Jn : ∀ q, q ≠ b → J.1 q = I.1 q := fun q hq => by rw [← hJ]; exact up_n _ _ hq
  obtain ⟨K, gK, eK, aK, gK3, tK, K2, Kk⟩ := mi_th (G := G) (N := N) (b := b) (sz := sz) (by omega) rfl rfl (nI p) (nI kl) (nI (cbs p sz)) 3 0 5 J (fun _ => none) (by omega) J0 (by rw [Jn _ (by omega)]; exact aI) (fun i hi => absurd hi (Nat.not_lt_zero i)) (fun i hi => absurd hi (Nat.not_lt_zero i)) (by rw [← hJ]; exact nI'.2)
  rw [ecb]
  have eK' : pf_X8_init_92 G N 8 b (nI p) (nI kl) (nI (cbs p sz)) 0 J = pf_X8_init_92 G N 5 b (nI p) (nI kl) (nI (cbs p sz)) 3 K := eK
  rw [eK', pf_X8_init_92, if_pos (show (3 : Int32) ≤ 3 by decide)]
  have K0 := (Kk b (by omega)).trans J0
  have Kk2 : ∀ q, q ≠ b → q < b + 6 → K.1 q = H.1 q := fun q a1 a2 => by rw [Kk q a2, Jn q a1]; exact nI'.1 q a2
  have kHK : kb b H K := ⟨fun q a1 a2 => Kk2 q (by omega) (by omega), by omega⟩
  -- the types
  have eL : mw_na K (G 0) 6 6 = _ := na_q (S := K) (cA := G 0) (c := 6) (cap := 6) (by omega) (by omega)
  simp only [eL, K2, mw_b2]
  generalize hL : mw_ad K (.inl (G 0, 6, .inl (fun _ => 0))) = L
  have nL : nx (b + 19) (b + 20) K L := by rw [← hL]; exact nx.ad _ (by omega) (by omega)
  have aL : L.1 (b + 19) = some (.inl (G 0, 6, .inl (fun _ => 0))) := by rw [← hL, ← K2]; exact ad_s _ _
  have L0 := (nL.1 b (by omega)).trans K0
  simp only [pf_q _ L0 (k := 4) (Nat.le_of_ble_eq_true rfl), Option.bind_some]
  generalize hO : mw_up L b (.inr (8, [Value.int (nI sz), .ref (b + 1), .ref (b + 3), .ref (b + 6), .null, .null, .int 0, .null, .int 0, .null, .null, .null, .null, .int 0].set 4 (.ref (b + 19)))) = O
  have O0 : O.1 b = some (.inr (8, [.int (nI sz), .ref (b + 1), .ref (b + 3), .ref (b + 6), .ref (b + 19), .null, .int 0, .null, .int 0, .null, .null, .null, .null, .int 0])) := by rw [← hO]; exact up_s _ _ _
  have On : ∀ q, q ≠ b → O.1 q = L.1 q := fun q hq => by rw [← hO]; exact up_n _ _ hq
  have O2 : O.2 = b + 20 := by rw [← hO]; exact nL.2
  have aO : O.1 (b + 19) = some (.inl (G 0, 6, .inl (fun _ => 0))) := (On _ (by omega)).trans aL
  have kKO : kb b K O := ⟨fun q a1 a2 => by rw [On q (by omega)]; exact nL.1 q (by omega), by omega⟩
  have eP : mw_na O (G 3) 6 6 = _ := na_q (S := O) (cA := G 3) (c := 6) (cap := 6) (by omega) (by omega)
  simp only [eP, O2]
  generalize hP : mw_ad O (.inl (G 3, 6, .inl (fun _ => 0))) = P
  have nP : nx (b + 20) (b + 21) O P := by rw [← hP]; exact nx.ad _ (by omega) (by omega)
  have aP : P.1 (b + 20) = some (.inl (G 3, 6, .inl (fun _ => 0))) := by rw [← hP, ← O2]; exact ad_s _ _
  have P0 := (nP.1 b (by omega)).trans O0
  simp only [pf_q _ P0 (k := 5) (Nat.le_of_ble_eq_true rfl), Option.bind_some]
  generalize hQ : mw_up P b (.inr (8, [Value.int (nI sz), .ref (b + 1), .ref (b + 3), .ref (b + 6), .ref (b + 19), .null, .int 0, .null, .int 0, .null, .null, .null, .null, .int 0].set 5 (.ref (b + 20)))) = Q
  have Q0 : Q.1 b = some (.inr (8, [.int (nI sz), .ref (b + 1), .ref (b + 3), .ref (b + 6), .ref (b + 19), .ref (b + 20), .int 0, .null, .int 0, .null, .null, .null, .null, .int 0])) := by rw [← hQ]; exact up_s _ _ _
  have Qn : ∀ q, q ≠ b → Q.1 q = P.1 q := fun q hq => by rw [← hQ]; exact up_n _ _ hq
  have Q2 : Q.2 = b + 21 := by rw [← hQ]; exact nP.2
  have aQ : Q.1 (b + 20) = some (.inl (G 3, 6, .inl (fun _ => 0))) := (Qn _ (by omega)).trans aP
  have kOQ : kb b O Q := ⟨fun q a1 a2 => by rw [Qn q (by omega)]; exact nP.1 q (by omega), by omega⟩
  -- the recordings
  have eR : mw_nq Q (G 5) 4 4 = _ := nq_q (S := Q) (cA := G 5) (c := 4) (cap := 4) (by omega) (by omega)
  simp only [eR, Q2]
  generalize hR : mw_ad Q (.inl (G 5, 4, .inr (.inr (.inr (.inr (fun _ => none)))))) = R
  have nR : nx (b + 21) (b + 22) Q R := by rw [← hR]; exact nx.ad _ (by omega) (by omega)
  have aR : R.1 (b + 21) = some (.inl (G 5, 4, .inr (.inr (.inr (.inr (fun _ => none)))))) := by rw [← hR, ← Q2]; exact ad_s _ _
  have R0 := (nR.1 b (by omega)).trans Q0
  simp only [pf_q _ R0 (k := 7) (Nat.le_of_ble_eq_true rfl), Option.bind_some]
  generalize hT : mw_up R b (.inr (8, [Value.int (nI sz), .ref (b + 1), .ref (b + 3), .ref (b + 6), .ref (b + 19), .ref (b + 20), .int 0, .null, .int 0, .null, .null, .null, .null, .int 0].set 7 (.ref (b + 21)))) = T
  have T0 : T.1 b = some (.inr (8, [.int (nI sz), .ref (b + 1), .ref (b + 3), .ref (b + 6), .ref (b + 19), .ref (b + 20), .int 0, .ref (b + 21), .int 0, .null, .null, .null, .null, .int 0])) := by rw [← hT]; exact up_s _ _ _
  have Tn : ∀ q, q ≠ b → T.1 q = R.1 q := fun q hq => by rw [← hT]; exact up_n _ _ hq
  obtain ⟨V, gV, eV, aV, gV4, rV, V2, Vk⟩ := mi_rc (G := G) (N := N) (b := b) rfl (nI p) (nI kl) (nI (cbs p sz)) 4 0 4 T (fun _ => none) (by omega) T0 (by rw [Tn _ (by omega)]; exact aR) (fun i hi => absurd hi (Nat.not_lt_zero i)) (fun i hi => absurd hi (Nat.not_lt_zero i)) (by rw [← hT]; exact nR.2)
  have eV' : pf_X8_init_149 G N 8 b (nI p) (nI kl) (nI (cbs p sz)) 0 T = pf_X8_init_149 G N 4 b (nI p) (nI kl) (nI (cbs p sz)) 4 V := eV
  rw [eV', pf_X8_init_149, if_pos (show (4 : Int32) ≤ 4 by decide)]
  have V0 := (Vk b (by omega)).trans T0
  have kQV : kb b Q V := ⟨fun q a1 a2 => by rw [Vk q (by omega), Tn q (by omega)]; exact nR.1 q (by omega), by omega⟩
  -- the pool
  simp only [mw_no, mw_b2, V2]
  generalize hW : mw_ad V (.inr (4, [.null, .int 0, .int 0])) = W
  have nW : nx (b + 34) (b + 35) V W := by rw [← hW]; exact nx.ad _ (by omega) (by omega)
  have aW : W.1 (b + 34) = some (.inr (4, [.null, .int 0, .int 0])) := by rw [← hW, ← V2]; exact ad_s _ _
  have W0 := (nW.1 b (by omega)).trans V0
  simp only [gi_q (k := 0) W0 rfl, Option.bind_some]
  obtain ⟨X, eX, rX, nX⟩ := po_new (G := G) (N := N) (p := p) (sz := sz) hp (by omega) aW nW.2
  have X0 := (nX.1 b (by omega)).trans W0
  simp only [eX, Option.bind_some, pf_q _ X0 (k := 9) (Nat.le_of_ble_eq_true rfl)]
  generalize hY : mw_up X b (.inr (8, [Value.int (nI sz), .ref (b + 1), .ref (b + 3), .ref (b + 6), .ref (b + 19), .ref (b + 20), .int 0, .ref (b + 21), .int 0, .null, .null, .null, .null, .int 0].set 9 (.ref (b + 34)))) = Y
  have Y0 : Y.1 b = some (.inr (8, [.int (nI sz), .ref (b + 1), .ref (b + 3), .ref (b + 6), .ref (b + 19), .ref (b + 20), .int 0, .ref (b + 21), .int 0, .ref (b + 34), .null, .null, .null, .int 0])) := by rw [← hY]; exact up_s _ _ _
  have Yn : ∀ q, q ≠ b → Y.1 q = X.1 q := fun q hq => by rw [← hY]; exact up_n _ _ hq
  have Y2 : Y.2 = b + 36 + 2 * p := by rw [← hY]; show X.2 = _; rw [nX.2]
  have kVY : kb b V Y := ⟨fun q a1 a2 => by rw [Yn q (by omega), nX.1 q (by omega)]; exact nW.1 q (by omega), by omega⟩
  simp only [Y2]
  -- the chunks
  generalize hq : b + 36 + 2 * p = c at *
  generalize hZ : mw_ad Y (.inr (2, [.null, .int 0, .int 0])) = Z
  have nZ : nx c (c + 1) Y Z := by rw [← hZ]; exact nx.ad _ (by omega) (by omega)
  have aZ : Z.1 c = some (.inr (2, [.null, .int 0, .int 0])) := by rw [← hZ, ← Y2]; exact ad_s _ _
  obtain ⟨X1, XX, UU, eX1, rX1, XX0, UU0, nX1⟩ := cs_new (G := G) (N := N) (kl := kl) (c := cbs p sz) hkl.2 (by omega) hN aZ nZ.2
  have X10 := (nX1.1 b (by omega)).trans ((nZ.1 b (by omega)).trans Y0)
  simp only [eX1, Option.bind_some, pf_q _ X10 (k := 10) (Nat.le_of_ble_eq_true rfl)]
  generalize hY1 : mw_up X1 b (.inr (8, [Value.int (nI sz), .ref (b + 1), .ref (b + 3), .ref (b + 6), .ref (b + 19), .ref (b + 20), .int 0, .ref (b + 21), .int 0, .ref (b + 34), .null, .null, .null, .int 0].set 10 (.ref c))) = Y1
  have Y10 : Y1.1 b = some (.inr (8, [.int (nI sz), .ref (b + 1), .ref (b + 3), .ref (b + 6), .ref (b + 19), .ref (b + 20), .int 0, .ref (b + 21), .int 0, .ref (b + 34), .ref c, .null, .null, .int 0])) := by rw [← hY1]; exact up_s _ _ _
  have Y1n : ∀ q, q ≠ b → Y1.1 q = X1.1 q := fun q hq => by rw [← hY1]; exact up_n _ _ hq
  have Y12 : Y1.2 = c + 4 * kl + 6 := by rw [← hY1]; show X1.2 = _; rw [nX1.2]; omega
  have kYY1 : kb b Y Y1 := ⟨fun q a1 a2 => by rw [Y1n q (by omega), nX1.1 q (by omega)]; exact nZ.1 q (by omega), by omega⟩
  simp only [Y12]
  -- the payload
  generalize hZ1 : mw_ad Y1 (.inr (0, [.null, .int 0])) = Z1
  have nZ1 : nx (c + 4 * kl + 6) (c + 4 * kl + 7) Y1 Z1 := by rw [← hZ1]; exact nx.ad _ (by omega) (by omega)
  have aZ1 : Z1.1 (c + 4 * kl + 6) = some (.inr (0, [.null, .int 0])) := by rw [← hZ1, ← Y12]; exact ad_s _ _
  obtain ⟨X3, eX3, rX3, nX3⟩ := br_new (G := G) (N := N) (c := 27) aZ1 nZ1.2 (by omega)
  have eX3' : pf_X0_init G N Z1 (c + 4 * kl + 6) 27 = some X3 := eX3
  have X30 := (nX3.1 b (by omega)).trans ((nZ1.1 b (by omega)).trans Y10)
  simp only [eX3', Option.bind_some, pf_q _ X30 (k := 11) (Nat.le_of_ble_eq_true rfl)]
  generalize hY3 : mw_up X3 b (.inr (8, [Value.int (nI sz), .ref (b + 1), .ref (b + 3), .ref (b + 6), .ref (b + 19), .ref (b + 20), .int 0, .ref (b + 21), .int 0, .ref (b + 34), .ref c, .null, .null, .int 0].set 11 (.ref (c + 4 * kl + 6)))) = Y3
  have Y30 : Y3.1 b = some (.inr (8, [.int (nI sz), .ref (b + 1), .ref (b + 3), .ref (b + 6), .ref (b + 19), .ref (b + 20), .int 0, .ref (b + 21), .int 0, .ref (b + 34), .ref c, .ref (c + 4 * kl + 6), .null, .int 0])) := by rw [← hY3]; exact up_s _ _ _
  have Y3n : ∀ q, q ≠ b → Y3.1 q = X3.1 q := fun q hq => by rw [← hY3]; exact up_n _ _ hq
  have Y32 : Y3.2 = c + 4 * kl + 8 := by rw [← hY3]; show X3.2 = _; rw [nX3.2]
  have kY1Y3 : kb b Y1 Y3 := ⟨fun q a1 a2 => by rw [Y3n q (by omega), nX3.1 q (by omega)]; exact nZ1.1 q (by omega), by omega⟩
  simp only [Y32]
  -- what is written
  generalize hZ3 : mw_ad Y3 (.inr (0, [.null, .int 0])) = Z3
  have nZ3 : nx (c + 4 * kl + 8) (c + 4 * kl + 9) Y3 Z3 := by rw [← hZ3]; exact nx.ad _ (by omega) (by omega)
  have aZ3 : Z3.1 (c + 4 * kl + 8) = some (.inr (0, [.null, .int 0])) := by rw [← hZ3, ← Y32]; exact ad_s _ _
  obtain ⟨X5, eX5, rX5, nX5⟩ := br_new (G := G) (N := N) (c := kl * (cbs p sz + 258)) aZ3 nZ3.2 hwb
  have X50 := (nX5.1 b (by omega)).trans ((nZ3.1 b (by omega)).trans Y30)
  rw [ewr]
  simp only [eX5, Option.bind_some, pf_q _ X50 (k := 12) (Nat.le_of_ble_eq_true rfl)]
  generalize hY5 : mw_up X5 b (.inr (8, [Value.int (nI sz), .ref (b + 1), .ref (b + 3), .ref (b + 6), .ref (b + 19), .ref (b + 20), .int 0, .ref (b + 21), .int 0, .ref (b + 34), .ref c, .ref (c + 4 * kl + 6), .null, .int 0].set 12 (.ref (c + 4 * kl + 8)))) = Y5
  have Y50 : Y5.1 b = some (.inr (8, [.int (nI sz), .ref (b + 1), .ref (b + 3), .ref (b + 6), .ref (b + 19), .ref (b + 20), .int 0, .ref (b + 21), .int 0, .ref (b + 34), .ref c, .ref (c + 4 * kl + 6), .ref (c + 4 * kl + 8), .int 0])) := by rw [← hY5]; exact up_s _ _ _
  have Y5n : ∀ q, q ≠ b → Y5.1 q = X5.1 q := fun q hq => by rw [← hY5]; exact up_n _ _ hq
  have Y52 : Y5.2 = c + 4 * kl + 10 := by rw [← hY5]; show X5.2 = _; rw [nX5.2]
  have kY3Y5 : kb b Y3 Y5 := ⟨fun q a1 a2 => by rw [Y5n q (by omega), nX5.1 q (by omega)]; exact nZ3.1 q (by omega), by omega⟩
  have q1 := kY1Y3.tr kY3Y5
  have q2 := kYY1.tr q1
  have q3 := kVY.tr q2
  have q4 := kQV.tr q3
  have q5 := kOQ.tr q4
  have q6 := kKO.tr q5
  have q7 := kHK.tr q6
  have q8 := kDH.tr q7
  refine ⟨Y5, rfl, ⟨fun _ => [], fun _ => [], ?_, ⟨0, rfl, ?_⟩, ⟨0, rfl, ?_, Nat.zero_le _, fun k hk => absurd hk (Nat.not_lt_zero k)⟩, ⟨⟨gK, ?_, gK3⟩, fun t ht => ⟨fun _ => 0, ?_, fun i hi => rfl⟩⟩, ⟨?_, ?_, 0, Nat.zero_le _, rfl, fun t ht => absurd ht (Nat.not_lt_zero t)⟩, ⟨⟨gV, ?_, gV4⟩, ⟨0, Nat.zero_le _, rfl⟩, fun r hr => ⟨2147483647, fun _ => 0, fun _ => 0, ?_, fun t ht => ⟨rfl, rfl⟩, fun _ => rfl, fun z => absurd z (show ¬ (0 : Int32) = 2 by decide), Or.inl rfl⟩⟩, ⟨0, 0, fun _ => [], ?_, rfl, Nat.zero_le _, by omega, fun k hk => absurd hk (Nat.not_lt_zero k), fun _ _ _ => rfl, fun i a1 a2 => ⟨rfl, rfl⟩⟩, ⟨0, fun i => b + 36 + 2 * p + 2 + 4 * i, fun _ => [], XX, fun _ => 0, fun _ => 0, UU, ?_, rfl, by omega, fun i hi => absurd hi (Nat.not_lt_zero i), rfl, XX0, rfl, rfl, fun s hs => ⟨?_, Or.inl (UU0 s hs)⟩⟩, ⟨[], ?_⟩, ⟨[], ?_, rfl, sg_nil _ _, bts_nil⟩, ⟨fun i hi => ⟨rfl, Nat.zero_le _, sg_nil _ _⟩, fun i hi => ⟨rfl, Nat.zero_le _, sg_nil _ _⟩, ⟨rfl, rfl, rfl⟩, fun i hi => Nat.zero_le _, ⟨hp, hkl.1, hkl.2, hsz.1, hsz.2, by omega⟩, fun i hi => bts_nil, ⟨fun k a1 a2 i hi => bts_nil, bts_nil⟩, fun t ht => ⟨0, Nat.le_refl _, rfl⟩⟩, fun t ht => ⟨0, by omega, rfl⟩, Nat.zero_le _⟩, ⟨fun q hq => ?_, ?_⟩⟩
  · unfold g_main mainL
    rw [hq]; exact Y50
  · exact ⟨(q8.1 _ (by omega) (by omega)).trans Dt.1, (q8.1 _ (by omega) (by omega)).trans Dt.2.1, Dt.2.2⟩
  · exact ⟨(q7.1 _ (by omega) (by omega)).trans Hs.1, (q7.1 _ (by omega) (by omega)).trans Hs.2.1, (q7.1 _ (by omega) (by omega)).trans Hs.2.2⟩
  · exact (q6.1 _ (by omega) (by omega)).trans aK
  · exact (tK t ht).kp (fun q a1 a2 => q6.1 q (by omega) (by omega))
  · exact (q5.1 _ (by omega) (by omega)).trans aO
  · exact (q4.1 _ (by omega) (by omega)).trans aQ
  · exact (q3.1 _ (by omega) (by omega)).trans aV
  · exact (rV r hr).kp (fun q a1 a2 => q3.1 q (by omega) (by omega))
  · refine ⟨?_, ?_, fun i hi => ?_⟩
    · rw [q2.1 _ (by omega) (by omega), Yn _ (by omega)]; exact rX.1
    · obtain ⟨g, g1, g2⟩ := rX.2.1
      exact ⟨g, by rw [q2.1 _ (by omega) (by omega), Yn _ (by omega)]; exact g1, g2⟩
    · exact (rX.2.2 i hi).kp ((q2.1 _ (by omega) (by omega)).trans (Yn _ (by omega))) ((q2.1 _ (by omega) (by omega)).trans (Yn _ (by omega)))
  · rw [hq]
    refine ⟨?_, ?_, rX1.2.2.1, rX1.2.2.2.1, fun i hi => ?_⟩
    · rw [q1.1 _ (by omega) (by omega), Y1n _ (by omega)]; exact rX1.1
    · obtain ⟨g, g1, g2⟩ := rX1.2.1
      exact ⟨g, by rw [q1.1 _ (by omega) (by omega), Y1n _ (by omega)]; exact g1, g2⟩
    · have := rX1.2.2.2.2 i hi
      dsimp only at this ⊢
      exact this.kp (fun q a1 a2 => (q1.1 _ (by omega) (by omega)).trans (Y1n _ (by omega)))
  · rw [UU0 s hs]; exact (ubit_0 s hs).symm
  · rw [hq]
    exact (rX3.kp (Y3n _ (by omega)) (Y3n _ (by omega))).kp (kY3Y5.1 _ (by omega) (by omega)) (kY3Y5.1 _ (by omega) (by omega))
  · rw [hq]
    exact rX5.kp (Y5n _ (by omega)) (Y5n _ (by omega))
  · rw [Y5n q (by omega), nX5.1 q (by omega), nZ3.1 q (by omega), Y3n q (by omega), nX3.1 q (by omega), nZ1.1 q (by omega), Y1n q (by omega), nX1.1 q (by omega), nZ.1 q (by omega), Yn q (by omega), nX.1 q (by omega), nW.1 q (by omega), Vk q (by omega), Tn q (by omega), nR.1 q (by omega), Qn q (by omega), nP.1 q (by omega), On q (by omega), nL.1 q (by omega), Kk2 q (by omega) (by omega)]
    exact Hk q hq
  · rw [Y52]
end NW3
