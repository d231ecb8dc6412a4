/-! numbers of variable length -/
def un (v : Int32) : Nat := v.toBitVec.toNat
theorem un_lt (v : Int32) : un v < 4294967296 := v.toBitVec.isLt
theorem un_0 {v : Int32} : v = 0 ↔ un v = 0 := ⟨fun h => by rw [h]; rfl, fun h => Int32.toBitVec_inj.mp (BitVec.eq_of_toNat_eq h)⟩
theorem u7 (v : Int32) : un (mw_ushr v 7) = un v / 128 := pk_ushr v 7 7 (by decide)
theorem u14 (v : Int32) : un (mw_ushr v 14) = un v / 16384 := pk_ushr v 14 14 (by decide)
theorem u21 (v : Int32) : un (mw_ushr v 21) = un v / 2097152 := pk_ushr v 21 21 (by decide)
theorem u28 (v : Int32) : un (mw_ushr v 28) = un v / 268435456 := pk_ushr v 28 28 (by decide)
theorem sh7_0 (v : Int32) : mw_ushr v 7 = 0 ↔ un v < 128 := by
  rw [un_0, u7]
  omega
theorem un_n {n : Nat} (h : n < 2 ^ 32) : un (nI n) = n := pk_tn h
theorem un_and (v : Int32) : v &&& 127 = nI (un v % 128) := pk_and v 7 (by decide)
theorem un_e {v w : Int32} (h : un v = un w) : v = w := Int32.toBitVec_inj.mp (BitVec.eq_of_toNat_eq h)
theorem and127 {v : Int32} (h : un v < 128) : v &&& 127 = v := by
  rw [un_and]
  refine un_e ?_
  rw [un_n (by omega)]
  omega
def vl (u : Nat) : Nat := if u < 128 then 1 else if u < 16384 then 2 else if u < 2097152 then 3 else if u < 268435456 then 4 else 5
theorem vl_1 {u : Nat} (h : u < 128) : vl u = 1 := if_pos h
theorem vl_s {u : Nat} (h : ¬ u < 128) (hu : u < 4294967296) : vl u = vl (u / 128) + 1 := by
  unfold vl
  repeat' (first | omega | split)
theorem vl_le (u : Nat) : 1 ≤ vl u ∧ vl u ≤ 5 := by
  unfold vl
  repeat' (first | omega | split)
theorem vl_2 {u : Nat} (h : ¬ u < 128) : 2 ≤ vl u := by
  unfold vl
  repeat' (first | omega | split)
def vb_k : Nat → Int32 → List Int32
  | 0, _ => []
  | k + 1, v => if mw_ushr v 7 = 0 then [v &&& 127] else ((v &&& 127) + 128) :: vb_k k (mw_ushr v 7)
def vb (v : Int32) : List Int32 := vb_k (vl (un v)) v
theorem vb_1 {v : Int32} (h : un v < 128) : vb v = [v &&& 127] := by
  unfold vb
  rw [vl_1 h, vb_k, if_pos ((sh7_0 v).mpr h)]
theorem vb_s {v : Int32} (h : ¬ un v < 128) : vb v = ((v &&& 127) + 128) :: vb (mw_ushr v 7) := by
  unfold vb
  rw [vl_s h (un_lt v), vb_k, if_neg (fun z => h ((sh7_0 v).mp z)), u7]
theorem vb_len (v : Int32) : (vb v).length = vl (un v) := by
  have key : ∀ (k : Nat) (v : Int32), vl (un v) ≤ k → (vb v).length = vl (un v) := by
    intro k
    induction k with
    | zero => intro v h; have := vl_le (un v); omega
    | succ k ih =>
      intro v h
      by_cases hu : un v < 128
      · rw [vb_1 hu, vl_1 hu]; rfl
      · have h1 := vl_s hu (un_lt v)
        rw [vb_s hu, List.length_cons, ih (mw_ushr v 7) (by rw [u7]; omega), u7, h1]
  exact key _ v (Nat.le_refl _)
/-- a byte that an int holds -/
def isb (x : Int32) : Prop := x &&& 255 = x
theorem isb_n {n : Nat} (h : n < 256) : isb (nI n) := by
  unfold isb
  rw [pk_andN (by omega) 8 (by decide)]
  congr 1
  omega
theorem vb_isb (v : Int32) : ∀ x ∈ vb v, isb x := by
  have key : ∀ (k : Nat) (v : Int32), vl (un v) ≤ k → ∀ x ∈ vb v, isb x := by
    intro k
    induction k with
    | zero => intro v h; have := vl_le (un v); omega
    | succ k ih =>
      intro v h x hx
      by_cases hu : un v < 128
      · rw [vb_1 hu] at hx
        rw [List.mem_singleton.mp hx, un_and]
        exact isb_n (by omega)
      · have h1 := vl_s hu (un_lt v)
        rw [vb_s hu] at hx
        rcases List.mem_cons.mp hx with rfl | hx
        · rw [un_and, show (128 : Int32) = nI 128 from by decide, nI_add]
          exact isb_n (by omega)
        · exact ih (mw_ushr v 7) (by rw [u7]; omega) x hx
  exact key _ v (Nat.le_refl _)
section VLS
variable {G : Nat → ClassId} {N : Nat} {S : mw_M} {a c : Nat} {l : List Int32}
theorem vl_step (n : Nat) (y0 y1 y2 : Int32) (h : ¬ 32 ≤ y2) : pf_X0_variableLength_5 G N (n + 1) y0 y1 y2 S = pf_X0_variableLength_5 G N n y0 (if mw_ushr y0 y2 = 0 then y1 else y1 + 1) (y2 + 7) S := by
  rw [pf_X0_variableLength_5, if_neg h]
  split <;> rfl
theorem br_vl (v : Int32) (hN : 6 ≤ N) : pf_X0_variableLength G N S v = some (nI (vl (un v)), S) := by
  unfold pf_X0_variableLength
  have key : ∀ n : Nat, pf_X0_variableLength_5 G N (n + 5) v 1 7 S = some (nI (vl (un v)), S) := by
    intro n
    rw [vl_step (n + 4) v 1 7 (by decide), show (7 : Int32) + 7 = 14 from by decide, vl_step (n + 3) v _ 14 (by decide), show (14 : Int32) + 7 = 21 from by decide, vl_step (n + 2) v _ 21 (by decide), show (21 : Int32) + 7 = 28 from by decide, vl_step (n + 1) v _ 28 (by decide), show (28 : Int32) + 7 = 35 from by decide, pf_X0_variableLength_5, if_pos (by decide)]
    simp only [un_0, u7, u14, u21, u28]
    have hv := un_lt v
    unfold vl
    by_cases h1 : un v < 128
    · rw [if_pos (show un v / 268435456 = 0 by omega), if_pos (show un v / 2097152 = 0 by omega), if_pos (show un v / 16384 = 0 by omega), if_pos (show un v / 128 = 0 by omega), if_pos h1]
      rfl
    by_cases h2 : un v < 16384
    · rw [if_pos (show un v / 268435456 = 0 by omega), if_pos (show un v / 2097152 = 0 by omega), if_pos (show un v / 16384 = 0 by omega), if_neg (show ¬ un v / 128 = 0 by omega), if_neg h1, if_pos h2]
      rfl
    by_cases h3 : un v < 2097152
    · rw [if_pos (show un v / 268435456 = 0 by omega), if_pos (show un v / 2097152 = 0 by omega), if_neg (show ¬ un v / 16384 = 0 by omega), if_neg (show ¬ un v / 128 = 0 by omega), if_neg h1, if_neg h2, if_pos h3]
      rfl
    by_cases h4 : un v < 268435456
    · rw [if_pos (show un v / 268435456 = 0 by omega), if_neg (show ¬ un v / 2097152 = 0 by omega), if_neg (show ¬ un v / 16384 = 0 by omega), if_neg (show ¬ un v / 128 = 0 by omega), if_neg h1, if_neg h2, if_neg h3, if_pos h4]
      rfl
    · rw [if_neg (show ¬ un v / 268435456 = 0 by omega), if_neg (show ¬ un v / 2097152 = 0 by omega), if_neg (show ¬ un v / 16384 = 0 by omega), if_neg (show ¬ un v / 128 = 0 by omega), if_neg h1, if_neg h2, if_neg h3, if_neg h4]
      rfl
  rw [show N = (N - 5) + 5 by omega]
  rw [show N - 5 + 5 = N by omega]
  have := key (N - 5)
  rw [show N - 5 + 5 = N by omega] at this
  exact this
theorem br_addV_l : ∀ (n : Nat) (S : mw_M) (l : List Int32) (v : Int32), br_R G S a c l → l.length + vl (un v) ≤ c → vl (un v) ≤ n → ∃ S', pf_X0_addVariable_7 G N n a v (nI (vl (un v))) S = some S' ∧ br_R G S' a c (l ++ vb v) ∧ sm_p (br_X a) S S' := by
  intro n
  induction n with
  | zero => intro S l v _ _ h; have := vl_le (un v); omega
  | succ n ih =>
    intro S l v h hc hn
    have hv := vl_le (un v)
    rw [pf_X0_addVariable_7]
    by_cases hu : un v < 128
    · rw [vl_1 hu, if_pos (show nI 1 ≤ 1 from by decide)]
      obtain ⟨S1, e1, b1, s1⟩ := br_add (N := N) h (by omega) v
      simp only [v_q _ h.1, e1, Option.bind_some]
      refine ⟨S1, rfl, ?_, s1⟩
      rw [vb_1 hu, and127 hu]
      exact b1
    · have h2 := vl_2 hu
      have h3 := vl_s hu (un_lt v)
      rw [if_neg (show ¬ nI (vl (un v)) ≤ 1 from nI_ge (a := 1) (by omega) (by omega))]
      obtain ⟨S1, e1, b1, s1⟩ := br_add (N := N) h (by omega) ((v &&& 127) + 128)
      simp only [v_q _ h.1, e1, Option.bind_some]
      rw [show nI (vl (un v)) + (-1) = nI (vl (un (mw_ushr v 7))) by rw [u7, h3, pk_m1]]
      obtain ⟨S2, e2, b2, s2⟩ := ih S1 _ (mw_ushr v 7) b1 (by rw [List.length_append, List.length_singleton, u7]; omega) (by rw [u7]; omega)
      refine ⟨S2, e2, ?_, s1.tr s2⟩
      rw [vb_s hu]
      rw [List.append_assoc] at b2
      exact b2
theorem br_addV (h : br_R G S a c l) (v : Int32) (hc : l.length + vl (un v) ≤ c) (hN : 6 ≤ N) : ∃ S', pf_X0_addVariable G N S a v = some S' ∧ br_R G S' a c (l ++ vb v) ∧ sm_p (br_X a) S S' := by
  unfold pf_X0_addVariable
  have hv := vl_le (un v)
  rw [br_vl v hN]
  exact br_addV_l N S l v h hc (by omega)
end VLS
