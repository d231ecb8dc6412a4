/-! an open chunk is finished: the class -/
section CSF
variable {G : Nat → ClassId} {N : Nat} {S : mw_M} {a kl c kp : Nat} {ev : Int32} {ad : Nat → Nat} {L : Nat → List Int32} {X Y Z : Nat → Int32} {U : Nat → Nat → Int32}
/-- how many are pushed out, and how many come -/
def fin_d (kl kp n : Nat) : Nat := if n = 0 then 0 else if kp = kl then 1 else 0
def fin_e (n : Nat) : Nat := if n = 0 then 0 else 1
theorem cs_fin49 (h : cs_R G S a kl c kp ev ad L X Y Z U) (hk : kp < kl + 1) (hl : kl < 10) (nw ti : Int32) (hN : 25 ≤ N) : ∃ S' u', pf_X2_finishOpen_49 G N a ti nw S = some S' ∧ cs_R G S' a kl c kp ev ad (va_up L kp []) (va_up X kp nw) (va_up Y kp ti) (va_up Z kp 0) (va_up U kp u') ∧ (∀ i, i < 24 → u' i = 0) ∧ sm_p (cs_X a kl) S S' := by
  have ho := cs_open (N := N) h hk hl
  have hc := h.2.2.2.2 kp hk
  obtain ⟨S', u', e1, k1, hu, s1⟩ := ck_openAs (N := N) hc nw ti hN
  obtain ⟨r1, r2⟩ := cs_set h hk k1 s1
  refine ⟨S', u', ?_, r1, hu, r2⟩
  unfold pf_X2_finishOpen_49
  simp only [v_q _ h.1, ho, mw_b2, v_q _ hc.1, e1, Option.bind_some]
theorem cs_fin (h : cs_R G S a kl c kp ev ad L X Y Z U) (hk : kp < kl + 1) (hl : kl < 10) (ti : Int32) (hN : 25 ≤ N) : ∃ S' kp' ad' L' X' Y' Z' U', pf_X2_finishOpen G N S a ti = some S' ∧ cs_R G S' a kl c kp' (ev + nI (fin_d kl kp (L kp).length)) ad' L' X' Y' Z' U' ∧ sm_p (cs_X a kl) S S' ∧ kp' < kl + 1 ∧ kp' + fin_d kl kp (L kp).length = kp + fin_e (L kp).length ∧ (∀ i, i < kp' → L' i = L (i + fin_d kl kp (L kp).length) ∧ X' i = X (i + fin_d kl kp (L kp).length) ∧ Y' i = Y (i + fin_d kl kp (L kp).length) ∧ Z' i = Z (i + fin_d kl kp (L kp).length) ∧ U' i = U (i + fin_d kl kp (L kp).length)) ∧ L' kp' = [] ∧ X' kp' = X kp + 1 ∧ Y' kp' = ti ∧ Z' kp' = 0 ∧ ∀ s, s < 24 → U' kp' s = 0 := by
  have ho := cs_open (N := N) h hk hl
  have hc := h.2.2.2.2 kp hk
  have hlen := hc.2.2.2.2.1
  have hb := hc.2.2
  have h2 := h
  have hle := hc.2.2.2.1
  unfold pf_X2_finishOpen
  simp only [v_q _ h.1, ho, mw_b2, v_q _ hc.1, ck_num hc, ck_body hc, v_q _ hb.1, br_length hb, Option.bind_some]
  unfold fin_d fin_e
  by_cases h0 : (L kp).length = 0
  · simp only [if_pos h0, Nat.add_zero]
    rw [h0, if_pos (show nI 0 ≤ 0 by decide)]
    obtain ⟨S', u', e1, r1, hu, r2⟩ := cs_fin49 (N := N) h hk hl (X kp + 1) ti hN
    obtain ⟨f1, ⟨g, f2, f3⟩, -⟩ := h
    unfold pf_X2_finishOpen_33
    simp only [gi_q (k := 1) f1 rfl, gr_q (k := 0) f1 rfl, al_q f2, Option.bind_some]
    rw [if_pos (nI_lt hk (by omega))]
    refine ⟨S', kp, ad, _, _, _, _, _, e1, by rw [show ev + nI 0 = ev from Int32.add_zero ev]; exact r1, r2, hk, rfl, fun i hi => ⟨va_up_ne _ _ (by omega), va_up_ne _ _ (by omega), va_up_ne _ _ (by omega), va_up_ne _ _ (by omega), va_up_ne _ _ (by omega)⟩, va_up_self _ _ _, va_up_self _ _ _, va_up_self _ _ _, va_up_self _ _ _, fun s hs => ?_⟩
    rw [va_up_self]; exact hu s hs
  · simp only [if_neg h0]
    rw [if_neg (nI_nle (by omega) (by omega))]
    have c1 := cs_up h (kp + 1) ev
    generalize hS1 : mw_up S a (.inr (2, [.ref (a + 1), .int (nI (kp + 1)), .int ev])) = S1 at c1
    have s1 : sm_p (cs_X a kl) S S1 := by rw [← hS1]; exact (sm_p.rf _ S).up _ (by constructor <;> omega)
    have hS1' : mw_up S a (.inr (2, List.set [.ref (a + 1), .int (nI kp), .int ev] 1 (.int (nI (kp + 1))))) = S1 := hS1
    simp only [gi_q (k := 1) h.1 rfl, pf_q _ h.1 (k := 1) (Nat.le_of_ble_eq_true rfl), Option.bind_some, nI_1, hS1']
    have c2 := c1
    obtain ⟨f1, ⟨g, f2, f3⟩, -⟩ := c1
    unfold pf_X2_finishOpen_33
    simp only [gi_q (k := 1) f1 rfl, gr_q (k := 0) f1 rfl, al_q f2, Option.bind_some]
    by_cases hkl : kp = kl
    · rw [if_pos hkl, if_neg (nI_nlt (by omega) (by omega)), v_q _ f1]
      obtain ⟨S2, e2, c3, s2⟩ := cs_evict (N := N) c2 hl (by omega)
      simp only [e2, Option.bind_some]
      obtain ⟨S', u', e1, r1, hu, r2⟩ := cs_fin49 (N := N) c3 hk hl (X kp + 1) ti hN
      refine ⟨S', kp, shf kl ad, _, _, _, _, _, e1, by rw [show ev + nI 1 = ev + 1 from rfl]; exact r1, (s1.tr s2).tr r2, hk, rfl, fun i hi => ?_, va_up_self _ _ _, va_up_self _ _ _, va_up_self _ _ _, va_up_self _ _ _, fun s hs => ?_⟩
      · rw [va_up_ne _ _ (show i ≠ kp by omega), va_up_ne _ _ (show i ≠ kp by omega), va_up_ne _ _ (show i ≠ kp by omega), va_up_ne _ _ (show i ≠ kp by omega), va_up_ne _ _ (show i ≠ kp by omega)]
        simp [shf, show i < kl by omega]
      · rw [va_up_self]; exact hu s hs
    · rw [if_neg hkl, if_pos (nI_lt (show kp + 1 < kl + 1 by omega) (by omega))]
      obtain ⟨S', u', e1, r1, hu, r2⟩ := cs_fin49 (N := N) c2 (show kp + 1 < kl + 1 by omega) hl (X kp + 1) ti hN
      refine ⟨S', kp + 1, ad, _, _, _, _, _, e1, by rw [show ev + nI 0 = ev from Int32.add_zero ev]; exact r1, s1.tr r2, by omega, rfl, fun i hi => ⟨va_up_ne _ _ (by omega), va_up_ne _ _ (by omega), va_up_ne _ _ (by omega), va_up_ne _ _ (by omega), va_up_ne _ _ (by omega)⟩, va_up_self _ _ _, va_up_self _ _ _, va_up_self _ _ _, va_up_self _ _ _, fun s hs => ?_⟩
      rw [va_up_self]; exact hu s hs
end CSF
/-! the same of the reference -/
section MDF
variable {G : Nat → ClassId} {N : Nat}
theorem md_copy_l {M : mm_M} {ch : Nat → List Int32} {a b : Nat} (hD : mds M ch) (ha : a < 7) (hb : b < 7) (hab : a ≠ b) : ∀ (n k : Nat) (Mk : mm_M), fm [] [10] M Mk → (∀ q, q < 600 * b ∨ 600 * b + 600 ≤ q → Mk.2 10 q = M.2 10 q) → sg_at (Mk.2 10) (600 * b) ((ch a).take k) → k ≤ (ch a).length → (ch a).length - k < n → ∃ M', pf_X9_copyChunk_2 G N n (nI a) (nI b) (nI k) Mk = some M' ∧ M'.2 11 = upd (M.2 11) b (nI (ch a).length) ∧ M'.2 12 = upd (M.2 12) b (M.2 12 a) ∧ M'.2 13 = upd (M.2 13) b (M.2 13 a) ∧ M'.2 14 = upd (M.2 14) b (M.2 14 a) ∧ M'.2 15 = upd (M.2 15) b (M.2 15 a) ∧ (∀ q, q < 600 * b ∨ 600 * b + 600 ≤ q → M'.2 10 q = M.2 10 q) ∧ sg_at (M'.2 10) (600 * b) (ch a) ∧ fm [] [10, 11, 12, 13, 14, 15] M M' := by
  obtain ⟨q1, q2, q3⟩ := hD a ha
  intro n
  induction n with
  | zero => intro k Mk _ _ _ _ h; exact absurd h (Nat.not_lt_zero _)
  | succ n ih =>
    intro k Mk hf ho hs hk hn
    have e11 : Mk.2 11 = M.2 11 := hf.2 11 (by decide)
    have e12 : Mk.2 12 = M.2 12 := hf.2 12 (by decide)
    have e13 : Mk.2 13 = M.2 13 := hf.2 13 (by decide)
    have e14 : Mk.2 14 = M.2 14 := hf.2 14 (by decide)
    have e15 : Mk.2 15 = M.2 15 := hf.2 15 (by decide)
    rw [pf_X9_copyChunk_2]
    simp only [aim (M := Mk) (k := 11) (j := a) ha (by decide), Option.bind_some]
    rw [e11, q1]
    by_cases hlt : k < (ch a).length
    · rw [if_neg (nI_ge hlt (by omega)), i600, i600]
      simp only [aim (M := Mk) (k := 10) (j := 600 * a + k) (show _ < 4200 by omega) (by decide), sim (M := Mk) (k := 10) (j := 600 * b + k) _ (show _ < 4200 by omega) (by decide), Option.bind_some, nI_1]
      have hv : Mk.2 10 (600 * a + k) = (ch a).getD k 0 := by
        rw [ho _ (by omega)]
        exact q3 k hlt
      rw [hv]
      refine ih (k + 1) _ (hf.si (k := 10) (by decide) _) (fun q hq => ?_) ?_ hlt (by omega)
      · show upd (Mk.2 10) (600 * b + k) _ q = _
        rw [pk_un (by omega)]
        exact ho q hq
      · exact sg_take hs hlt
    · have hke : k = (ch a).length := by omega
      rw [if_pos (nI_le (by omega) (by omega))]
      simp only [sim (k := 11) (j := b) _ hb (by decide), sim (k := 12) (j := b) _ hb (by decide), sim (k := 13) (j := b) _ hb (by decide), sim (k := 14) (j := b) _ hb (by decide), sim (k := 15) (j := b) _ hb (by decide), aim (k := 12) (j := a) ha (by decide), aim (k := 13) (j := a) ha (by decide), aim (k := 14) (j := a) ha (by decide), aim (k := 15) (j := a) ha (by decide), Option.bind_some]
      refine ⟨_, rfl, ?_, ?_, ?_, ?_, ?_, ho, ?_, (((((hf.wd (Y' := [10, 11, 12, 13, 14, 15]) (fun j h => h) (by decide)).si (k := 11) (by decide) _).si (k := 12) (by decide) _).si (k := 13) (by decide) _).si (k := 14) (by decide) _).si (k := 15) (by decide) _⟩
      · show upd (Mk.2 11) b _ = _
        rw [e11]
      · show upd (Mk.2 12) b (Mk.2 12 a) = _
        rw [e12]
      · show upd (Mk.2 13) b (Mk.2 13 a) = _
        rw [e13]
      · show upd (Mk.2 14) b (Mk.2 14 a) = _
        rw [e14]
      · show upd (Mk.2 15) b (Mk.2 15 a) = _
        rw [e15]
      · rw [hke, List.take_length] at hs
        exact hs
theorem md_copy {M : mm_M} {ch : Nat → List Int32} {a b : Nat} (hD : mds M ch) (ha : a < 7) (hb : b < 7) (hab : a ≠ b) (hN : 601 ≤ N) : ∃ M', pf_X9_copyChunk G N M (nI a) (nI b) = some M' ∧ mds M' (va_up ch b (ch a)) ∧ M'.2 12 = upd (M.2 12) b (M.2 12 a) ∧ M'.2 13 = upd (M.2 13) b (M.2 13 a) ∧ M'.2 14 = upd (M.2 14) b (M.2 14 a) ∧ M'.2 15 = upd (M.2 15) b (M.2 15 a) ∧ fm [] [10, 11, 12, 13, 14, 15] M M' := by
  have h6 := (hD a ha).2.1
  obtain ⟨M', e, g11, g12, g13, g14, g15, go, gs, gf⟩ := md_copy_l (G := G) (N := N) hD ha hb hab N 0 M (fm.rf _ _ M) (fun _ _ => rfl) (sg_nil _ _) (Nat.zero_le _) (by omega)
  refine ⟨M', e, fun i hi => ?_, g12, g13, g14, g15, gf⟩
  by_cases hib : i = b
  · subst hib
    rw [va_up_self]
    exact ⟨by rw [g11, pk_us], h6, gs⟩
  · rw [va_up_ne _ _ hib]
    obtain ⟨r1, r2, r3⟩ := hD i hi
    exact ⟨by rw [g11, pk_un hib]; exact r1, r2, sg_cong r3 (fun q h1 h2 => go q (by omega))⟩
/-- the open chunk begins anew -/
theorem md_162 {M : mm_M} {ch : Nat → List Int32} (hD : mds M ch) : ∃ M', pf_X9_rotate_162 G N M = some M' ∧ mds M' (va_up ch 6 []) ∧ M'.2 12 = upd (M.2 12) 6 (M.2 12 6 + 1) ∧ M'.2 13 = upd (M.2 13) 6 (M.1 3) ∧ M'.2 14 = upd (M.2 14) 6 0 ∧ M'.2 15 = upd (M.2 15) 6 0 ∧ fm [] [11, 12, 13, 14, 15] M M' := by
  have a12 : ∀ M : mm_M, mm_ai M 12 6 = some (M.2 12 6) := fun M => aim (M := M) (k := 12) (j := 6) (by decide) (by decide)
  have s11 : ∀ (M : mm_M) (x : Int32), mm_si M 11 6 x = some (M.1, va_up M.2 11 (upd (M.2 11) 6 x)) := fun M x => sim (M := M) (k := 11) (j := 6) x (by decide) (by decide)
  have s12 : ∀ (M : mm_M) (x : Int32), mm_si M 12 6 x = some (M.1, va_up M.2 12 (upd (M.2 12) 6 x)) := fun M x => sim (M := M) (k := 12) (j := 6) x (by decide) (by decide)
  have s13 : ∀ (M : mm_M) (x : Int32), mm_si M 13 6 x = some (M.1, va_up M.2 13 (upd (M.2 13) 6 x)) := fun M x => sim (M := M) (k := 13) (j := 6) x (by decide) (by decide)
  have s14 : ∀ (M : mm_M) (x : Int32), mm_si M 14 6 x = some (M.1, va_up M.2 14 (upd (M.2 14) 6 x)) := fun M x => sim (M := M) (k := 14) (j := 6) x (by decide) (by decide)
  have s15 : ∀ (M : mm_M) (x : Int32), mm_si M 15 6 x = some (M.1, va_up M.2 15 (upd (M.2 15) 6 x)) := fun M x => sim (M := M) (k := 15) (j := 6) x (by decide) (by decide)
  unfold pf_X9_rotate_162
  simp only [a12, s11, s12, s13, s14, s15, Option.bind_some]
  refine ⟨_, rfl, fun i hi => ?_, rfl, rfl, rfl, rfl, (((((fm.rf [] [11, 12, 13, 14, 15] M).si (k := 12) (by decide) _).si (k := 13) (by decide) _).si (k := 11) (by decide) _).si (k := 14) (by decide) _).si (k := 15) (by decide) _⟩
  obtain ⟨r1, r2, r3⟩ := hD i hi
  by_cases hi6 : i = 6
  · subst hi6
    rw [va_up_self]
    exact ⟨show upd (M.2 11) 6 0 6 = _ from pk_us.trans rfl, Nat.zero_le _, sg_nil _ _⟩
  · rw [va_up_ne _ _ hi6]
    exact ⟨show upd (M.2 11) 6 0 i = _ from (pk_un hi6).trans r1, r2, r3⟩
theorem md_118 {M : mm_M} {ch : Nat → List Int32} {kl : Nat} (hkl : kl < 6) (h19 : M.1 19 = nI (kl + 1)) (hN : 601 ≤ N) : ∀ (n k : Nat) (Mk : mm_M) (c2 : Nat → List Int32), fm [] [10, 11, 12, 13, 14, 15] M Mk → mds Mk c2 → (∀ i, i < k → c2 i = ch (i + 1) ∧ Mk.2 12 i = M.2 12 (i + 1) ∧ Mk.2 13 i = M.2 13 (i + 1) ∧ Mk.2 14 i = M.2 14 (i + 1) ∧ Mk.2 15 i = M.2 15 (i + 1)) → (∀ i, k ≤ i → c2 i = ch i ∧ Mk.2 12 i = M.2 12 i ∧ Mk.2 13 i = M.2 13 i ∧ Mk.2 14 i = M.2 14 i ∧ Mk.2 15 i = M.2 15 i) → k ≤ kl → kl - k < n → ∃ M' c', pf_X9_rotate_118 G N n (nI k) Mk = some M' ∧ mds M' c' ∧ M'.1 19 = nI kl ∧ M'.1 20 = M.1 20 + 1 ∧ (∀ i, i < kl → c' i = ch (i + 1) ∧ M'.2 12 i = M.2 12 (i + 1) ∧ M'.2 13 i = M.2 13 (i + 1) ∧ M'.2 14 i = M.2 14 (i + 1) ∧ M'.2 15 i = M.2 15 (i + 1)) ∧ c' 6 = [] ∧ M'.2 12 6 = M.2 12 6 + 1 ∧ M'.2 13 6 = M.1 3 ∧ M'.2 14 6 = 0 ∧ M'.2 15 6 = 0 ∧ fm [19, 20] [10, 11, 12, 13, 14, 15] M M' := by
  intro n
  induction n with
  | zero => intro k Mk c2 _ _ _ _ _ h; exact absurd h (Nat.not_lt_zero _)
  | succ n ih =>
    intro k Mk c2 hf hD h1 h2 hk hn
    have e19 : Mk.1 19 = nI (kl + 1) := (hf.1 19 (by decide)).trans h19
    have e20 : Mk.1 20 = M.1 20 := hf.1 20 (by decide)
    have e3 : Mk.1 3 = M.1 3 := hf.1 3 (by decide)
    rw [pf_X9_rotate_118, e19, nI_1]
    by_cases hlt : k < kl
    · rw [if_neg (nI_ge (by omega) (by omega))]
      obtain ⟨M1, e1, d1, g12, g13, g14, g15, f1⟩ := md_copy (G := G) (N := N) hD (show k + 1 < 7 by omega) (show k < 7 by omega) (by omega) hN
      rw [e1]
      simp only [Option.bind_some]
      obtain ⟨p1, p2, p3, p4, p5⟩ := h2 (k + 1) (by omega)
      refine ih (k + 1) M1 _ (hf.tr f1) d1 (fun i hi => ?_) (fun i hi => ?_) hlt (by omega)
      · by_cases h9 : i = k
        · subst h9
          rw [va_up_self, g12, g13, g14, g15, pk_us, pk_us, pk_us, pk_us]
          exact ⟨p1, p2, p3, p4, p5⟩
        · rw [va_up_ne _ _ h9, g12, g13, g14, g15, pk_un h9, pk_un h9, pk_un h9, pk_un h9]
          exact h1 i (by omega)
      · rw [va_up_ne _ _ (show i ≠ k by omega), g12, g13, g14, g15, pk_un (show i ≠ k by omega), pk_un (show i ≠ k by omega), pk_un (show i ≠ k by omega), pk_un (show i ≠ k by omega)]
        exact h2 i (by omega)
    · have hke : k = kl := by omega
      rw [if_pos (nI_le (by omega) (by omega))]
      simp only [mm_pf, Option.bind_some, nI_pred]
      have hD2 : mds (va_up (va_up Mk.1 19 (nI kl)) 20 (va_up Mk.1 19 (nI kl) 20 + 1), Mk.2) c2 := hD
      obtain ⟨M1, e1, d1, g12, g13, g14, g15, f1⟩ := md_162 (G := G) (N := N) hD2
      obtain ⟨p1, p2, p3, p4, p5⟩ := h2 6 (by omega)
      refine ⟨M1, _, e1, d1, ?_, ?_, fun i hi => ?_, va_up_self _ _ _, ?_, ?_, ?_, ?_, ?_⟩
      · rw [f1.1 19 (by decide)]; rfl
      · rw [f1.1 20 (by decide)]
        show Mk.1 20 + 1 = _
        rw [e20]
      · rw [va_up_ne _ _ (show i ≠ 6 by omega), g12, g13, g14, g15, pk_un (show i ≠ 6 by omega), pk_un (show i ≠ 6 by omega), pk_un (show i ≠ 6 by omega), pk_un (show i ≠ 6 by omega)]
        exact h1 i (by omega)
      · rw [g12, pk_us]
        show Mk.2 12 6 + 1 = _
        rw [p2]
      · rw [g13, pk_us]
        show Mk.1 3 = _
        rw [e3]
      · rw [g14, pk_us]
      · rw [g15, pk_us]
      · refine ⟨fun j hj => ?_, fun j hj => ?_⟩
        · rw [f1.1 j (by simp)]
          show va_up (va_up Mk.1 19 (nI kl)) 20 _ j = _
          rw [va_up_ne _ _ (fun z => hj (by rw [z]; decide)), va_up_ne _ _ (fun z => hj (by rw [z]; decide))]
          exact hf.1 j (by simp)
        · rw [f1.2 j (fun z => hj (by revert z; simp; intro z; rcases z with z | z | z | z | z <;> simp [z]))]
          exact hf.2 j hj
/-- from the losses on: the reference's end of a rotation -/
theorem md_tail {M : mm_M} {ch : Nat → List Int32} {kl kp : Nat} (hD : mds M ch) (hkl : kl < 6) (hk : kp < kl + 1) (h19 : M.1 19 = nI kp) (h2 : M.1 2 = nI kl) (hN : 601 ≤ N) : ∀ f : Nat, ∃ M' c' kp', pf_X9_rotate_50 G N (f + 1) 3 M = some M' ∧ mds M' c' ∧ M'.1 19 = nI kp' ∧ kp' < kl + 1 ∧ kp' + fin_d kl kp (ch 6).length = kp + fin_e (ch 6).length ∧ M'.1 20 = M.1 20 + nI (fin_d kl kp (ch 6).length) ∧ (∀ i, i < kp' → c' i = va_up ch kp (ch 6) (i + fin_d kl kp (ch 6).length) ∧ M'.2 12 i = upd (M.2 12) kp (M.2 12 6) (i + fin_d kl kp (ch 6).length) ∧ M'.2 13 i = upd (M.2 13) kp (M.2 13 6) (i + fin_d kl kp (ch 6).length) ∧ M'.2 14 i = upd (M.2 14) kp (M.2 14 6) (i + fin_d kl kp (ch 6).length) ∧ M'.2 15 i = upd (M.2 15) kp (M.2 15 6) (i + fin_d kl kp (ch 6).length)) ∧ c' 6 = [] ∧ M'.2 12 6 = M.2 12 6 + 1 ∧ M'.2 13 6 = M.1 3 ∧ M'.2 14 6 = 0 ∧ M'.2 15 6 = 0 ∧ fm [19, 20] [10, 11, 12, 13, 14, 15] M M' := by
  intro f
  have h6 := hD 6 (by decide)
  have h600 := h6.2.1
  rw [pf_X9_rotate_50, if_pos (show (3 : Int32) ≤ 3 by decide)]
  have a11 : mm_ai M 11 6 = some (M.2 11 6) := aim (M := M) (k := 11) (j := 6) (by decide) (by decide)
  simp only [a11, Option.bind_some]
  rw [h6.1]
  unfold fin_d fin_e
  by_cases h0 : (ch 6).length = 0
  · simp only [if_pos h0, Nat.add_zero]
    rw [h0, if_pos (show nI 0 ≤ 0 by decide)]
    unfold pf_X9_rotate_105
    rw [h19, h2, if_pos (nI_le (by omega) (by omega))]
    obtain ⟨M1, e1, d1, g12, g13, g14, g15, f1⟩ := md_162 (G := G) (N := N) hD
    refine ⟨M1, _, kp, e1, d1, (f1.1 19 (by simp)).trans h19, hk, rfl, (f1.1 20 (by simp)).trans (Int32.add_zero _).symm, fun i hi => ?_, va_up_self _ _ _, by rw [g12, pk_us], by rw [g13, pk_us], by rw [g14, pk_us], by rw [g15, pk_us], f1.wd (by simp) (by decide)⟩
    rw [va_up_ne _ _ (show i ≠ 6 by omega), va_up_ne _ _ (show i ≠ kp by omega), g12, g13, g14, g15, pk_un (show i ≠ 6 by omega), pk_un (show i ≠ 6 by omega), pk_un (show i ≠ 6 by omega), pk_un (show i ≠ 6 by omega), pk_un (show i ≠ kp by omega), pk_un (show i ≠ kp by omega), pk_un (show i ≠ kp by omega), pk_un (show i ≠ kp by omega)]
    exact ⟨rfl, rfl, rfl, rfl, rfl⟩
  · simp only [if_neg h0]
    rw [if_neg (nI_nle (by omega) (by omega)), h19]
    obtain ⟨M1, e1, d1, g12, g13, g14, g15, f1⟩ := md_copy (G := G) (N := N) hD (show 6 < 7 by decide) (show kp < 7 by omega) (by omega) hN
    have e1' : pf_X9_copyChunk G N M 6 (nI kp) = some M1 := e1
    have q19 : M1.1 19 = nI kp := (f1.1 19 (by simp)).trans h19
    simp only [e1', Option.bind_some, mm_pf, q19, nI_1]
    generalize hM2 : ((va_up M1.1 19 (nI (kp + 1)), M1.2) : mm_M) = M2
    have d2 : mds M2 (va_up ch kp (ch 6)) := by rw [← hM2]; exact d1
    have w19 : M2.1 19 = nI (kp + 1) := by rw [← hM2]; rfl
    have w2 : M2.1 2 = nI kl := by rw [← hM2]; exact (f1.1 2 (by simp)).trans h2
    have w20 : M2.1 20 = M.1 20 := by rw [← hM2]; exact f1.1 20 (by simp)
    have w3 : M2.1 3 = M.1 3 := by rw [← hM2]; exact f1.1 3 (by simp)
    have w12 : M2.2 12 = upd (M.2 12) kp (M.2 12 6) := by rw [← hM2]; exact g12
    have w13 : M2.2 13 = upd (M.2 13) kp (M.2 13 6) := by rw [← hM2]; exact g13
    have w14 : M2.2 14 = upd (M.2 14) kp (M.2 14 6) := by rw [← hM2]; exact g14
    have w15 : M2.2 15 = upd (M.2 15) kp (M.2 15 6) := by rw [← hM2]; exact g15
    have f2 : fm [19, 20] [10, 11, 12, 13, 14, 15] M M2 := by rw [← hM2]; exact (f1.wd (X' := [19, 20]) (by simp) (fun j h => h)).pf (j := 19) (by decide) _
    have n6 : kp ≠ 6 := by omega
    unfold pf_X9_rotate_105
    rw [w19, w2]
    by_cases hkl2 : kp = kl
    · rw [if_neg (nI_ge (by omega) (by omega))]
      simp only [if_pos hkl2]
      obtain ⟨M3, c3, e3, d3, v19, v20, v1, v6, v12, v13, v14, v15, f3⟩ := md_118 (G := G) (N := N) (M := M2) (ch := va_up ch kp (ch 6)) (kl := kl) hkl (by rw [w19, hkl2]) hN N 0 M2 _ (fm.rf _ _ M2) d2 (fun i hi => absurd hi (Nat.not_lt_zero i)) (fun i _ => ⟨rfl, rfl, rfl, rfl, rfl⟩) (Nat.zero_le _) (by omega)
      refine ⟨M3, c3, kl, e3, d3, v19, by omega, by omega, by rw [v20, w20]; rfl, fun i hi => ?_, v6, ?_, ?_, v14, v15, f2.tr f3⟩
      · have := v1 i hi
        rw [w12, w13, w14, w15] at this
        exact this
      · rw [v12, w12, pk_un (Ne.symm n6)]
      · rw [v13, w3]
    · rw [if_pos (nI_le (by omega) (by omega))]
      simp only [if_neg hkl2, Nat.add_zero]
      obtain ⟨M3, e3, d3, g12', g13', g14', g15', f3⟩ := md_162 (G := G) (N := N) d2
      refine ⟨M3, _, kp + 1, e3, d3, (f3.1 19 (by simp)).trans w19, by omega, rfl, ((f3.1 20 (by simp)).trans w20).trans (Int32.add_zero _).symm, fun i hi => ?_, va_up_self _ _ _, ?_, ?_, ?_, ?_, f2.tr (f3.wd (by simp) (by decide))⟩
      · rw [va_up_ne _ _ (show i ≠ 6 by omega), g12', g13', g14', g15', pk_un (show i ≠ 6 by omega), pk_un (show i ≠ 6 by omega), pk_un (show i ≠ 6 by omega), pk_un (show i ≠ 6 by omega), w12, w13, w14, w15]
        exact ⟨rfl, rfl, rfl, rfl, rfl⟩
      · rw [g12', pk_us, w12, pk_un (Ne.symm n6)]
      · rw [g13', pk_us, w3]
      · rw [g14', pk_us]
      · rw [g15', pk_us]
end MDF
