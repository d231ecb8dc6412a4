/-! commit: room, the reference's loops, the bit of a string -/
theorem b_one : ∀ i, i < 32 → bt 1 i = decide (i = 0) := by decide
theorem ubit_s (w : Int32) {s i : Nat} (hs : s < 24) (hi : i < 24) : ubit (w ||| ((1 : Int32) <<< (nI s &&& 31))) i = if i = s then 1 else ubit w i := by
  unfold ubit
  by_cases h : i = s
  · rw [if_pos h]
    subst h
    refine b_ext (fun j hj => ?_)
    rw [b_and, b_1 j hj]
    by_cases hj0 : j = 0
    · subst hj0
      rw [b_sshr i (by omega) _ (by omega), if_pos (by omega), b_or, Nat.add_zero, b_shl i (by omega) _ (by omega), Nat.sub_self, b_1 0 (by omega)]
      simp
    · rw [decide_eq_false hj0, Bool.and_false]
  · rw [if_neg h]
    refine b_ext (fun j hj => ?_)
    rw [b_and, b_and, b_1 j hj]
    by_cases hj0 : j = 0
    · subst hj0
      rw [b_sshr i (by omega) _ (by omega), if_pos (by omega), b_or, Nat.add_zero, b_shl s (by omega) _ (by omega), b_sshr i (by omega) _ (by omega), if_pos (by omega), Nat.add_zero]
      by_cases hsi : s ≤ i
      · rw [b_1 (i - s) (by omega), decide_eq_false (show ¬ i - s = 0 by omega), Bool.and_false, Bool.or_false]
      · rw [decide_eq_false hsi, Bool.false_and, Bool.or_false]
    · rw [decide_eq_false hj0, Bool.and_false, Bool.and_false]
theorem nI_sb {a b : Nat} (h : b ≤ a) : nI a - nI b = nI (a - b) := by
  rw [show nI a = nI (a - b) + nI b by rw [nI_add, Nat.sub_add_cancel h]]; exact Int32.add_sub_cancel _ _
theorem esum_up (e : Nat → Int32) {t : Nat} (h : t < 7) (x : Int32) : esum (upd e t (e t + x)) = esum e + x := by
  have : t = 0 ∨ t = 1 ∨ t = 2 ∨ t = 3 ∨ t = 4 ∨ t = 5 ∨ t = 6 := by omega
  rcases this with rfl | rfl | rfl | rfl | rfl | rfl | rfl <;> simp [esum, upd] <;> ac_rfl
theorem esum_mv2 (e : Nat → Int32) {t c : Nat} (ht : t < 3) (h3 : 3 ≤ c) (h6 : c < 7) (h0 : e c = 0) : esum (upd (upd e c (e t)) t 0) = esum e := by
  have q : t = 0 ∨ t = 1 ∨ t = 2 := by omega
  have : c = 3 ∨ c = 4 ∨ c = 5 ∨ c = 6 := by omega
  rcases q with rfl | rfl | rfl <;> rcases this with rfl | rfl | rfl | rfl <;> simp [esum, upd, h0] <;> ac_rfl
section COM
variable {G : Nat → ClassId} {N b p kl sz kc : Nat} {S : mw_M} {M : mm_M}
/-- room for the event -/
theorem mkr {x7 x29 x3 : Int32} {P A fi fu : Nat} {pl l : List Int32} {pb : Nat → List Int32} (hP : P = b + 36 + 2 * p + 4 * kl + 6) (h1 : g_main S b p kl sz x7 x29 x3) (hpl : br_R G S P 27 pl) (hl : br_R G S A sz l) (po : po_R G S (b + 34) p fi fu sz pb) (hA : A + 1 < b + 34) (hp : p ≤ 4) (hfu : fu ≤ p) (hfi : p = 0 ∨ fi < p) (hs : sz ≤ 60) (hfr : fu < p → pb ((fi + fu) % p) = []) (hN : 61 ≤ N) :
    (sz < pl.length + 1 → pf_X8_makeRoom G N S b A = some (0, S)) ∧
    (pl.length + 1 ≤ sz → l.length + (pl.length + 1) ≤ sz → pf_X8_makeRoom G N S b A = some (1, S)) ∧
    (pl.length + 1 ≤ sz → sz < l.length + (pl.length + 1) → fu = p → pf_X8_makeRoom G N S b A = some (0, S)) ∧
    (pl.length + 1 ≤ sz → sz < l.length + (pl.length + 1) → fu < p → ∃ S', pf_X8_makeRoom G N S b A = some (1, S') ∧ po_R G S' (b + 34) p fi (fu + 1) sz (va_up pb ((fi + fu) % p) l) ∧ br_R G S' A sz [] ∧ sm_p (fun q => po_X (b + 34) p q ∨ br_X A q) S S') := by
  have hpn : pl.length ≤ 27 := hpl.2.1
  have hln : l.length ≤ sz := hl.2.1
  have hvl : vl (un (nI pl.length)) = 1 := vl_nI (by omega)
  have hroom : nI sz - nI l.length = nI (sz - l.length) := nI_sb hln
  unfold pf_X8_makeRoom
  simp only [gr_q (k := 11) h1 rfl, gr_q (k := 9) h1 rfl, gi_q (k := 0) h1 rfl, ← hP, Option.bind_some, v_q _ hpl.1, br_length hpl, mw_b2, br_vl _ (show 6 ≤ N by omega), hvl, nI_add, v_q _ hl.1, br_room hl, hroom, v_q _ po.1, if_pos z0, if_pos z1]
  refine ⟨fun w => ?_, fun w w2 => ?_, fun w w2 w3 => ?_, fun w w2 w3 => ?_⟩
  · rw [if_neg (nI_ge (by omega) (by omega))]
  · rw [if_pos (nI_le (by omega) (by omega)), if_pos (nI_le (by omega) (by omega))]
  · rw [if_pos (nI_le (by omega) (by omega)), if_neg (nI_ge (by omega) (by omega)), po_take0 po (by omega) (by omega)]
    rfl
  · rw [if_pos (nI_le (by omega) (by omega)), if_neg (nI_ge (by omega) (by omega))]
    obtain ⟨S', q1, q2, q3, q4⟩ := po_take (N := N) po hl w3 hp (by omega) (Or.inl hA) (hfr w3) (by omega)
    rw [q1]
    exact ⟨S', by rfl, q2, q3, q4⟩
/-- the reference counts the width -/
theorem md_w {t k : Nat} (ht : t < 6) (hk : k ≤ 3) (he : M.2 1 t = nI k) (hN : 7 ≤ N) (y1 x y z y6 y7 y8 y10 y11 : Int32) (f w : Nat) : ∀ j, j ≤ k → pf_X9_commit_205 G N (k + f) y1 (nI t) x y z y6 y7 y8 y10 y11 (nI w) 0 M = pf_X9_commit_205 G N (k - j + f) y1 (nI t) x y z y6 y7 y8 y10 y11 (nI (w + (zzs x y z j).length)) (nI j) M := by
  intro j
  induction j with
  | zero => intro _; rfl
  | succ j ih =>
    intro hj
    rw [ih (by omega), show k - j + f = (k - (j + 1) + f) + 1 by omega, pf_X9_commit_205]
    simp only [aim (M := M) (k := 1) (j := t) ht (by decide), Option.bind_some, he]
    rw [if_neg (nI_ge (by omega) (by omega))]
    have e : ∀ v, sel x y z j = v → pf_X9_commit_240 G N (pf_X9_commit_205 G N (k - (j + 1) + f)) y1 (nI t) x y z y6 y7 y8 y10 y11 (nI j) (nI (w + (zzs x y z j).length)) v M = pf_X9_commit_205 G N (k - (j + 1) + f) y1 (nI t) x y z y6 y7 y8 y10 y11 (nI (w + (zzs x y z (j + 1)).length)) (nI (j + 1)) M := by
      intro v hv
      unfold pf_X9_commit_240
      simp only [zz_m, mw_b2, md_wid _ hN, nI_add, nI_1]
      rw [zzs, List.length_append, vb_len, hv, Nat.add_assoc]
    by_cases h0 : j = 0
    · subst h0
      rw [if_neg (show ¬ ¬ nI 0 = 0 by decide)]
      exact e x rfl
    · rw [if_pos (show ¬ nI j = 0 from nI_ne0 (by omega) (by omega))]
      by_cases h2 : j = 1
      · subst h2
        rw [if_neg (show ¬ ¬ nI 1 = 1 by decide)]
        exact e y rfl
      · rw [if_pos (show ¬ nI j = 1 from fun z => h2 ((nI_eq (b := 1) (by omega) (by decide)).mp z))]
        exact e z (by rw [sel, if_neg h0, if_neg h2])
/-- and writes the ints -/
theorem md_z {t k : Nat} (ht : t < 6) (hk : k ≤ 3) (he : M.2 1 t = nI k) (hN : 7 ≤ N) (y1 x y z y6 y7 y10 y11 y14 : Int32) (f : Nat) {ev : List Int32} (h38 : M.1 38 = nI ev.length) (hs : sg_at (M.2 24) 0 ev) (hl : ev.length + 15 ≤ 64) : ∀ j, j ≤ k → ∃ M', pf_X9_commit_385 G N (k + f) y1 (nI t) x y z y6 y7 y10 y11 y14 0 M = pf_X9_commit_385 G N (k - j + f) y1 (nI t) x y z y6 y7 y10 y11 y14 (nI j) M' ∧ M'.1 38 = nI (ev ++ zzs x y z j).length ∧ sg_at (M'.2 24) 0 (ev ++ zzs x y z j) ∧ fm [38] [24] M M' := by
  intro j
  induction j with
  | zero => intro _; exact ⟨M, rfl, by rw [zzs, List.append_nil]; exact h38, by rw [zzs, List.append_nil]; exact hs, fm.rf _ _ M⟩
  | succ j ih =>
    intro hj
    obtain ⟨M1, e1, a1, a2, a3⟩ := ih (by omega)
    have hz := zzs_len x y z j
    have h5 := (vl_le (un (zz (sel x y z j)))).2
    have he1 : M1.2 1 t = nI k := by rw [a3.2 1 (by decide)]; exact he
    obtain ⟨M2, e2, c1, c2, c3⟩ := md_var (G := G) (N := N) (zz (sel x y z j)) a1 a2 (by rw [List.length_append]; omega) (by omega)
    refine ⟨M2, ?_, by rw [zzs, ← List.append_assoc]; exact c1, by rw [zzs, ← List.append_assoc]; exact c2, a3.tr c3⟩
    rw [e1, show k - j + f = (k - (j + 1) + f) + 1 by omega, pf_X9_commit_385]
    simp only [aim (M := M1) (k := 1) (j := t) ht (by decide), Option.bind_some, he1]
    rw [if_neg (nI_ge (by omega) (by omega))]
    have e : ∀ v, sel x y z j = v → pf_X9_commit_419 G N (pf_X9_commit_385 G N (k - (j + 1) + f)) y1 (nI t) x y z y6 y7 y10 y11 y14 (nI j) v M1 = pf_X9_commit_385 G N (k - (j + 1) + f) y1 (nI t) x y z y6 y7 y10 y11 y14 (nI (j + 1)) M2 := by
      intro v hv
      unfold pf_X9_commit_419
      simp only [zz_m, mw_b2, nI_1, ← hv, e2, Option.bind_some]
    by_cases h0 : j = 0
    · subst h0
      rw [if_neg (show ¬ ¬ nI 0 = 0 by decide)]
      exact e x rfl
    · rw [if_pos (show ¬ nI j = 0 from nI_ne0 (by omega) (by omega))]
      by_cases h2 : j = 1
      · subst h2
        rw [if_neg (show ¬ ¬ nI 1 = 1 by decide)]
        exact e y rfl
      · rw [if_pos (show ¬ nI j = 1 from fun z => h2 ((nI_eq (b := 1) (by omega) (by decide)).mp z))]
        exact e z (by rw [sel, if_neg h0, if_neg h2])
/-- and lays the event into the thread's buffer -/
theorem md_lay_l {bf : Nat → List Int32} {a : Nat} {ev : List Int32} (hB : mbs M bf) (ha : a < 3) (hr : (bf a).length + ev.length ≤ 60) (h38 : M.1 38 = nI ev.length) (hev : sg_at (M.2 24) 0 ev) : ∀ (n k : Nat) (Mk : mm_M), fm [] [7] M Mk → (∀ q, q < 60 * a ∨ 60 * a + 60 ≤ q → Mk.2 7 q = M.2 7 q) → sg_at (Mk.2 7) (60 * a) (bf a ++ ev.take k) → k ≤ ev.length → ev.length - k < n → ∃ M', pf_X9_commit_498 G N n (nI a) (nI k) Mk = some (0, M') ∧ M'.2 8 = upd (M.2 8) a (nI (bf a ++ ev).length) ∧ M'.2 9 = upd (M.2 9) a (M.2 9 a + 1) ∧ (∀ q, q < 60 * a ∨ 60 * a + 60 ≤ q → M'.2 7 q = M.2 7 q) ∧ sg_at (M'.2 7) (60 * a) (bf a ++ ev) ∧ fm [] [7, 8, 9] M M' := by
  obtain ⟨q1, q2, q3⟩ := hB a (by omega)
  intro n
  induction n with
  | zero => intro k Mk _ _ _ _ h; exact absurd h (Nat.not_lt_zero _)
  | succ n ih =>
    intro k Mk hf ho hs hk hn
    have e38 : Mk.1 38 = nI ev.length := (hf.1 38 (by simp)).trans h38
    have e24 : Mk.2 24 = M.2 24 := hf.2 24 (by decide)
    have e8 : Mk.2 8 = M.2 8 := hf.2 8 (by decide)
    have e9 : Mk.2 9 = M.2 9 := hf.2 9 (by decide)
    rw [pf_X9_commit_498, e38]
    by_cases hlt : k < ev.length
    · rw [if_neg (nI_ge hlt (by omega))]
      simp only [aim (M := Mk) (k := 8) (j := a) (show a < 7 by omega) (by decide), aim (M := Mk) (k := 24) (j := k) (show k < 64 by omega) (by decide), Option.bind_some, e8, q1, i60]
      rw [nI_add]
      simp only [sim (M := Mk) (k := 7) (j := 60 * a + (bf a).length + k) _ (show _ < 420 by omega) (by decide), Option.bind_some, nI_1]
      have hv : Mk.2 24 k = ev.getD k 0 := by
        rw [e24]
        have := hev k hlt
        rw [Nat.zero_add] at this
        exact this
      rw [hv]
      refine ih (k + 1) _ (hf.si (k := 7) (by decide) _) (fun q hq => ?_) ?_ hlt (by omega)
      · show upd (Mk.2 7) _ _ q = _
        rw [pk_un (by omega)]
        exact ho q hq
      · show sg_at (upd (Mk.2 7) _ _) (60 * a) _
        rw [tk_s hlt, ← List.append_assoc]
        have := sg_snoc (ev.getD k 0) hs
        rw [List.length_append, tk_len (by omega), ← Nat.add_assoc] at this
        exact this
    · have hke : k = ev.length := by omega
      rw [if_pos (nI_le (by omega) (by omega))]
      simp only [aim (k := 8) (j := a) (show a < 7 by omega) (by decide), sim (k := 8) (j := a) _ (show a < 7 by omega) (by decide), sim (k := 9) (j := a) _ (show a < 7 by omega) (by decide), aim (k := 9) (j := a) (show a < 7 by omega) (by decide), Option.bind_some]
      refine ⟨_, rfl, ?_, ?_, ho, ?_, ((hf.wd (Y' := [7, 8, 9]) (fun j h => h) (by decide)).si (k := 8) (by decide) _).si (k := 9) (by decide) _⟩
      · show upd (Mk.2 8) a (Mk.2 8 a + nI ev.length) = _
        rw [e8, q1, nI_add, List.length_append]
      · show upd (Mk.2 9) a (Mk.2 9 a + 1) = _
        rw [e9]
      · rw [hke, List.take_length] at hs
        exact hs
theorem md_lay {bf : Nat → List Int32} {a : Nat} {ev : List Int32} (hB : mbs M bf) (ha : a < 3) (hr : (bf a).length + ev.length ≤ 60) (h38 : M.1 38 = nI ev.length) (hev : sg_at (M.2 24) 0 ev) (hN : 65 ≤ N) : ∃ M', pf_X9_commit_498 G N N (nI a) 0 M = some (0, M') ∧ mbs M' (va_up bf a (bf a ++ ev)) ∧ M'.2 9 = upd (M.2 9) a (M.2 9 a + 1) ∧ fm [] [7, 8, 9] M M' := by
  obtain ⟨M', e, g8, g9, go, gs, gf⟩ := md_lay_l (G := G) (N := N) hB ha hr h38 hev N 0 M (fm.rf _ _ M) (fun _ _ => rfl) (by rw [List.take_zero, List.append_nil]; exact (hB a (by omega)).2.2) (Nat.zero_le _) (by omega)
  refine ⟨M', e, fun i hi => ?_, g9, gf⟩
  obtain ⟨r1, r2, r3⟩ := hB i hi
  by_cases hia : i = a
  · subst hia
    rw [va_up_self]
    exact ⟨by rw [g8, pk_us], by rw [List.length_append]; omega, gs⟩
  · rw [va_up_ne _ _ hia]
    exact ⟨by rw [g8, pk_un hia]; exact r1, r2, sg_cong r3 (fun q h1 h2 => go q (by omega))⟩
end COM
