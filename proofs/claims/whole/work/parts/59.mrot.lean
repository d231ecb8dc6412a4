/-! the reference's rotation -/
def cat (B : Nat → List Int32) : Nat → List Int32
  | 0 => []
  | n + 1 => B 0 ++ cat (fun k => B (k + 1)) n
theorem cat_s (B : Nat → List Int32) : ∀ n, cat B (n + 1) = cat B n ++ B n := by
  intro n
  induction n generalizing B with
  | zero => simp [cat]
  | succ n ih =>
    rw [cat, ih (fun k => B (k + 1)), cat, List.append_assoc]
theorem cat_len {B : Nat → List Int32} {sz : Nat} : ∀ n, (∀ k, k < n → (B k).length ≤ sz) → (cat B n).length ≤ n * sz := by
  intro n
  induction n with
  | zero => intro _; simp [cat]
  | succ n ih =>
    intro h
    rw [cat_s, List.length_append, Nat.succ_mul]
    have := ih (fun k hk => h k (by omega))
    have := h n (by omega)
    omega
theorem vb63 : vb 63 = [63] := by
  rw [vb_1 (by decide)]
  rfl
theorem vl_nI {n : Nat} (h : n < 128) : vl (un (nI n)) = 1 := by
  rw [un_n (by omega)]
  exact vl_1 h
theorem vl_2n (n : Int32) : vl (un (2 + nI (vl (un n)))) = 1 := by
  have := vl_le (un n)
  rw [show (2 : Int32) = nI 2 from rfl, nI_add]
  exact vl_nI (by omega)
theorem lossB_len (t n : Int32) (ht : vl (un t) = 1) : (lossB t n).length = 3 + vl (un n) := by
  unfold lossB
  rw [List.length_append, List.length_append, List.length_append, vb_len, vb_len, vb_len, ht, vl_2n]
  rfl
theorem va_up_id {α : Type} (f : Nat → α) (k : Nat) : va_up f k (f k) = f := by
  funext j
  by_cases h : j = k
  · rw [h, va_up_self]
  · rw [va_up_ne _ _ h]
section MRT
variable {G : Nat → ClassId} {N : Nat}
theorem md_put {M : mm_M} {ch : Nat → List Int32} (x : Int32) (hD : mds M ch) (hr : (ch 6).length < 600) : ∃ M', pf_X9_put G N M x = some M' ∧ mds M' (va_up ch 6 (ch 6 ++ [x])) ∧ fm [] [10, 11] M M' := by
  obtain ⟨d1, d2, d3⟩ := hD 6 (by decide)
  have a11 : ∀ M : mm_M, mm_ai M 11 6 = some (M.2 11 6) := fun M => aim (M := M) (k := 11) (j := 6) (by decide) (by decide)
  have s11 : ∀ (M : mm_M) (x : Int32), mm_si M 11 6 x = some (M.1, va_up M.2 11 (upd (M.2 11) 6 x)) := fun M x => sim (M := M) (k := 11) (j := 6) x (by decide) (by decide)
  unfold pf_X9_put
  simp only [a11, Option.bind_some]
  rw [d1, show (3600 : Int32) + nI (ch 6).length = nI (3600 + (ch 6).length) by rw [show (3600 : Int32) = nI 3600 from rfl, nI_add]]
  simp only [sim (M := M) (k := 10) (j := 3600 + (ch 6).length) x (show _ < 4200 by omega) (by decide), a11, s11, Option.bind_some]
  refine ⟨_, rfl, fun i hi => ?_, ((fm.rf [] [10, 11] M).si (k := 10) (by decide) _).si (k := 11) (by decide) _⟩
  obtain ⟨r1, r2, r3⟩ := hD i hi
  by_cases hi6 : i = 6
  · subst hi6
    rw [va_up_self]
    refine ⟨?_, by rw [List.length_append]; exact hr, ?_⟩
    · show upd (M.2 11) 6 (M.2 11 6 + 1) 6 = _
      rw [pk_us, d1, nI_1, List.length_append, List.length_singleton]
    · exact sg_snoc x d3
  · rw [va_up_ne _ _ hi6]
    refine ⟨?_, r2, ?_⟩
    · show upd (M.2 11) 6 (M.2 11 6 + 1) i = _
      rw [pk_un hi6]; exact r1
    · show sg_at (upd (M.2 10) (3600 + (ch 6).length) x) _ _
      exact sg_keep x r3 (Or.inr (by omega))
theorem md_loss_l {M : mm_M} {ch : Nat → List Int32} {ev : List Int32} {t : Nat} (ht : t < 3) (h38 : M.1 38 = nI ev.length) (hs : sg_at (M.2 24) 0 ev) (he : ev.length ≤ 64) (hr : (ch 6).length + ev.length ≤ 600) : ∀ (n k : Nat) (Mk : mm_M), fm [] [10, 11] M Mk → mds Mk (va_up ch 6 (ch 6 ++ ev.take k)) → k ≤ ev.length → ev.length - k < n → ∃ M', pf_X9_loss_43 G N n (nI t) (nI k) Mk = some M' ∧ mds M' (va_up ch 6 (ch 6 ++ ev)) ∧ M'.2 16 = upd (M.2 16) t 0 ∧ fm [] [10, 11, 16] M M' := by
  intro n
  induction n with
  | zero => intro k Mk _ _ _ h; exact absurd h (Nat.not_lt_zero _)
  | succ n ih =>
    intro k Mk hf hD hk hn
    have e38 : Mk.1 38 = nI ev.length := (hf.1 38 (by simp)).trans h38
    have e24 : Mk.2 24 = M.2 24 := hf.2 24 (by decide)
    have e16 : Mk.2 16 = M.2 16 := hf.2 16 (by decide)
    rw [pf_X9_loss_43, e38]
    by_cases hlt : k < ev.length
    · rw [if_neg (nI_ge hlt (by omega))]
      simp only [aim (M := Mk) (k := 24) (j := k) (show _ < 64 by omega) (by decide), Option.bind_some, nI_1]
      have hv : Mk.2 24 k = ev.getD k 0 := by
        rw [e24]
        have := hs k hlt
        rw [Nat.zero_add] at this
        exact this
      obtain ⟨M1, e1, d1, f1⟩ := md_put (G := G) (N := N) (Mk.2 24 k) hD (by rw [va_up_self, List.length_append, tk_len (by omega)]; omega)
      simp only [e1, Option.bind_some]
      refine ih (k + 1) M1 (hf.tr f1) ?_ hlt (by omega)
      rw [hv, va_up_self, bx_uu, List.append_assoc, ← tk_s hlt] at d1
      exact d1
    · have hke : k = ev.length := by omega
      rw [if_pos (nI_le (by omega) (by omega))]
      simp only [sim (k := 16) (j := t) _ ht (by decide), Option.bind_some]
      refine ⟨_, rfl, ?_, ?_, (hf.wd (Y' := [10, 11, 16]) (fun j h => h) (by decide)).si (k := 16) (by decide) _⟩
      · rw [hke, List.take_length] at hD
        exact hD
      · show upd (Mk.2 16) t 0 = _
        rw [e16]
theorem md_loss {M : mm_M} {ch : Nat → List Int32} {t : Nat} (ht : t < 3) (hD : mds M ch) (hr : (ch 6).length + 8 ≤ 600) (hN : 65 ≤ N) : ∃ M', pf_X9_loss G N M (nI t) = some M' ∧ mds M' (va_up ch 6 (ch 6 ++ lossB (nI t) (M.2 16 t))) ∧ M'.2 16 = upd (M.2 16) t 0 ∧ fm [38] [10, 11, 16, 24] M M' := by
  have hv := vl_le (un (M.2 16 t))
  have h1 := vl_2n (M.2 16 t)
  have h2 : vl (un (nI t)) = 1 := vl_nI (by omega)
  have h3 : vl (un 63) = 1 := vl_nI (n := 63) (by omega)
  unfold pf_X9_loss
  simp only [mm_pf, Option.bind_some, aim (k := 16) (j := t) ht (by decide), md_wid (M.2 16 t) (show 7 ≤ N by omega), mw_b2]
  generalize hM0 : ((va_up M.1 38 0, M.2) : mm_M) = M0
  have f0 : fm [38] [24] M M0 := by rw [← hM0]; exact (fm.rf [38] [24] M).pf (j := 38) (by decide) _
  have z38 : M0.1 38 = nI ([] : List Int32).length := by rw [← hM0]; rfl
  obtain ⟨M1, e1, g1, s1, f1⟩ := md_var (G := G) (N := N) (2 + nI (vl (un (M.2 16 t)))) z38 (sg_nil _ _) (by simp only [List.length_nil]; omega) (by omega)
  simp only [e1, Option.bind_some]
  obtain ⟨M2, e2, g2, s2, f2⟩ := md_var (G := G) (N := N) 63 g1 s1 (by simp only [List.length_append, List.length_nil, vb_len]; omega) (by omega)
  simp only [e2, Option.bind_some]
  obtain ⟨M3, e3, g3, s3, f3⟩ := md_var (G := G) (N := N) (nI t) g2 s2 (by simp only [List.length_append, List.length_nil, vb_len]; omega) (by omega)
  have q16 : M3.2 16 = M.2 16 := ((((f0.tr f1).tr f2).tr f3)).2 16 (by decide)
  simp only [e3, Option.bind_some, aim (M := M3) (k := 16) (j := t) ht (by decide), q16]
  obtain ⟨M4, e4, g4, s4, f4⟩ := md_var (G := G) (N := N) (M.2 16 t) g3 s3 (by simp only [List.length_append, List.length_nil, vb_len]; omega) (by omega)
  simp only [e4, Option.bind_some]
  have ff := (((f0.tr f1).tr f2).tr f3).tr f4
  have hev : [] ++ vb (2 + nI (vl (un (M.2 16 t)))) ++ vb 63 ++ vb (nI t) ++ vb (M.2 16 t) = lossB (nI t) (M.2 16 t) := by
    unfold lossB
    rw [vb63, List.nil_append]
  rw [hev] at g4 s4
  have hlen := lossB_len (nI t) (M.2 16 t) h2
  have hD4 : mds M4 ch := fun i hi => by
    obtain ⟨r1, r2, r3⟩ := hD i hi
    exact ⟨by rw [ff.2 11 (by decide)]; exact r1, r2, by rw [ff.2 10 (by decide)]; exact r3⟩
  obtain ⟨M', e5, d5, g16, f5⟩ := md_loss_l (G := G) (N := N) (M := M4) (ch := ch) (ev := lossB (nI t) (M.2 16 t)) ht g4 s4 (by omega) (by omega) N 0 M4 (fm.rf _ _ M4) (by rw [List.take_zero, List.append_nil, va_up_id]; exact hD4) (Nat.zero_le _) (by omega)
  exact ⟨M', e5, d5, by rw [g16, ff.2 16 (by decide)], (ff.wd (X' := [38]) (Y' := [10, 11, 16, 24]) (fun j h => h) (by decide)).tr (f5.wd (by simp) (by decide))⟩
/-- the bytes of the losses of the threads from t on -/
def losses (e : Nat → Int32) : Nat → Nat → List Int32
  | 0, _ => []
  | n + 1, t => (if e t ≤ 0 then [] else lossB (nI t) (e t)) ++ losses e n (t + 1)
theorem losses_len (e : Nat → Int32) : ∀ n t, t + n ≤ 3 → (losses e n t).length ≤ 8 * n := by
  intro n
  induction n with
  | zero => intro t _; simp [losses]
  | succ n ih =>
    intro t ht
    rw [losses, List.length_append]
    have := ih (t + 1) (by omega)
    have h2 : (if e t ≤ 0 then [] else lossB (nI t) (e t)).length ≤ 8 := by
      split
      · simp
      · rw [lossB_len _ _ (vl_nI (by omega))]
        have := vl_le (un (e t))
        omega
    omega
theorem losses_c {e e' : Nat → Int32} : ∀ n t, (∀ i, t ≤ i → e i = e' i) → losses e n t = losses e' n t := by
  intro n
  induction n with
  | zero => intro t _; rfl
  | succ n ih =>
    intro t h
    rw [losses, losses, h t (Nat.le_refl _), ih (t + 1) (fun i hi => h i (by omega))]
theorem md_los (hN : 65 ≤ N) : ∀ (n t f : Nat) (Mk : mm_M) (ck : Nat → List Int32), t + n = 3 → mds Mk ck → (ck 6).length + 8 * n ≤ 600 → ∃ M', pf_X9_rotate_50 G N (n + f) (nI t) Mk = pf_X9_rotate_50 G N f 3 M' ∧ mds M' (va_up ck 6 (ck 6 ++ losses (Mk.2 16) n t)) ∧ (∀ i, M'.2 16 i = if t ≤ i ∧ i < 3 ∧ ¬ Mk.2 16 i ≤ 0 then 0 else Mk.2 16 i) ∧ fm [38] [10, 11, 16, 24] Mk M' := by
  intro n
  induction n with
  | zero =>
    intro t f Mk ck ht hD hr
    have : t = 3 := by omega
    subst this
    refine ⟨Mk, by rw [Nat.zero_add]; rfl, by rw [losses, List.append_nil, va_up_id]; exact hD, fun i => ?_, fm.rf _ _ Mk⟩
    rw [if_neg (by omega)]
  | succ n ih =>
    intro t f Mk ck ht hD hr
    rw [show n + 1 + f = (n + f) + 1 by omega, pf_X9_rotate_50, if_neg (show ¬ (3 : Int32) ≤ nI t from nI_ge (b := 3) (by omega) (by decide))]
    simp only [aim (M := Mk) (k := 16) (j := t) (show _ < 3 by omega) (by decide), Option.bind_some, nI_1]
    by_cases h0 : Mk.2 16 t ≤ 0
    · rw [if_pos h0]
      obtain ⟨M', e1, d1, g1, f1⟩ := ih (t + 1) f Mk ck (by omega) hD (by omega)
      refine ⟨M', e1, by rw [losses, if_pos h0, List.nil_append]; exact d1, fun i => ?_, f1⟩
      rw [g1 i]
      by_cases h9 : i = t
      · subst h9
        rw [if_neg (by omega), if_neg (fun z => z.2.2 h0)]
      · by_cases hc : t + 1 ≤ i ∧ i < 3 ∧ ¬ Mk.2 16 i ≤ 0
        · rw [if_pos hc, if_pos ⟨by omega, hc.2⟩]
        · rw [if_neg hc, if_neg (fun z => hc ⟨by omega, z.2⟩)]
    · rw [if_neg h0]
      obtain ⟨M1, e1, d1, g16, f1⟩ := md_loss (G := G) (N := N) (show t < 3 by omega) hD (by omega) hN
      simp only [e1, Option.bind_some]
      have hv := vl_le (un (Mk.2 16 t))
      have hll := lossB_len (nI t) (Mk.2 16 t) (vl_nI (by omega))
      obtain ⟨M', e2, d2, g2, f2⟩ := ih (t + 1) f M1 _ (by omega) d1 (by rw [va_up_self, List.length_append, hll]; omega)
      refine ⟨M', e2, ?_, fun i => ?_, f1.tr f2⟩
      · rw [va_up_self, bx_uu, List.append_assoc] at d2
        rw [losses, if_neg h0, losses_c (e := Mk.2 16) (e' := M1.2 16) n (t + 1) (fun i hi => by rw [g16, pk_un (by omega)])]
        exact d2
      · rw [g2 i, g16]
        by_cases h9 : i = t
        · subst h9
          rw [pk_us, if_neg (by omega), if_pos ⟨Nat.le_refl _, by omega, h0⟩]
        · rw [pk_un h9]
          by_cases hc : t + 1 ≤ i ∧ i < 3 ∧ ¬ Mk.2 16 i ≤ 0
          · rw [if_pos hc, if_pos ⟨by omega, hc.2⟩]
          · rw [if_neg hc, if_neg (fun z => hc ⟨by omega, z.2⟩)]
/-- all events that wait in buffers -/
def esum (e : Nat → Int32) : Int32 := e 0 + (e 1 + (e 2 + (e 3 + (e 4 + (e 5 + e 6)))))
theorem esum_dr (e : Nat → Int32) (x : Int32) : ∀ a, a < 7 → x + e a + esum (upd e a 0) = x + esum e := by
  intro a ha
  have h7 : a = 0 ∨ a = 1 ∨ a = 2 ∨ a = 3 ∨ a = 4 ∨ a = 5 ∨ a = 6 := by omega
  rcases h7 with rfl | rfl | rfl | rfl | rfl | rfl | rfl <;> simp [esum, upd] <;> ac_rfl
theorem md_ph2 (hN : 65 ≤ N) : ∀ (n t f : Nat) (Mk : mm_M) (bk ck : Nat → List Int32), t + n = 3 → mbs Mk bk → mds Mk ck → (ck 6).length + (cat (fun k => bk (t + k)) n).length ≤ 600 → ∃ M', pf_X9_rotate_31 G N (n + f) (nI t) Mk = pf_X9_rotate_31 G N f 3 M' ∧ mbs M' (fun i => if t ≤ i ∧ i < 3 then [] else bk i) ∧ mds M' (va_up ck 6 (ck 6 ++ cat (fun k => bk (t + k)) n)) ∧ (∀ i, M'.2 9 i = if t ≤ i ∧ i < 3 then 0 else Mk.2 9 i) ∧ M'.2 14 6 + esum (M'.2 9) = Mk.2 14 6 + esum (Mk.2 9) ∧ (∀ i, i ≠ 6 → M'.2 14 i = Mk.2 14 i) ∧ fm [] [8, 9, 10, 11, 14] Mk M' := by
  intro n
  induction n with
  | zero =>
    intro t f Mk bk ck ht hB hD hr
    have : t = 3 := by omega
    subst this
    refine ⟨Mk, by rw [Nat.zero_add]; rfl, fun i hi => ?_, by rw [cat, List.append_nil, va_up_id]; exact hD, fun i => ?_, rfl, fun _ _ => rfl, fm.rf _ _ Mk⟩
    · dsimp only
      rw [if_neg (by omega)]; exact hB i hi
    · rw [if_neg (by omega)]
  | succ n ih =>
    intro t f Mk bk ck ht hB hD hr
    rw [show n + 1 + f = (n + f) + 1 by omega, pf_X9_rotate_31, if_neg (show ¬ (3 : Int32) ≤ nI t from nI_ge (b := 3) (by omega) (by decide))]
    rw [cat, List.length_append] at hr
    simp only [Nat.add_zero] at hr
    obtain ⟨M1, e1, b1, d1, g9, g14, f1⟩ := md_drain (G := G) (N := N) hB hD (show t < 7 by omega) (by omega) (by omega)
    simp only [e1, mw_b2, nI_1]
    have hfun : (fun k => va_up bk t [] (t + 1 + k)) = fun k => bk (t + (k + 1)) := by
      funext k
      rw [va_up_ne _ _ (by omega), show t + 1 + k = t + (k + 1) by omega]
    obtain ⟨M', e2, b2, d2, q9, q14, q14', f2⟩ := ih (t + 1) f M1 _ _ (by omega) b1 d1 (by rw [va_up_self, List.length_append, hfun]; omega)
    refine ⟨M', e2, fun i hi => ?_, ?_, fun i => ?_, ?_, fun i hi => ?_, f1.tr f2⟩
    · have := b2 i hi
      dsimp only at this ⊢
      by_cases h9 : i = t
      · subst h9
        rw [if_neg (by omega), va_up_self] at this
        rw [if_pos (by omega)]
        exact this
      · rw [va_up_ne _ _ h9] at this
        by_cases hc : t + 1 ≤ i ∧ i < 3
        · rw [if_pos hc] at this; rw [if_pos (by omega)]; exact this
        · rw [if_neg hc] at this; rw [if_neg (by omega)]; exact this
    · rw [va_up_self, bx_uu, hfun, List.append_assoc] at d2
      rw [cat]
      exact d2
    · rw [q9 i, g9]
      by_cases h9 : i = t
      · subst h9
        rw [if_neg (by omega), pk_us, if_pos (by omega)]
      · rw [pk_un h9]
        by_cases hc : t + 1 ≤ i ∧ i < 3
        · rw [if_pos hc, if_pos (by omega)]
        · rw [if_neg hc, if_neg (by omega)]
    · rw [q14, g14, g9, pk_us]
      exact esum_dr (Mk.2 9) (Mk.2 14 6) t (by omega)
    · rw [q14' i hi, g14, pk_un hi]
theorem md_ph1 (hN : 65 ≤ N) {fu : Nat} (hfu : fu ≤ 4) : ∀ (n k f : Nat) (Mk : mm_M) (bk ck : Nat → List Int32), k + n = fu → Mk.1 18 = nI fu → mbs Mk bk → mds Mk ck → (ck 6).length + (cat (fun j => bk (3 + (k + j))) n).length ≤ 600 → ∃ M', pf_X9_rotate_2 G N (n + f + 1) (nI k) Mk = pf_X9_rotate_31 G N N 0 M' ∧ mbs M' (fun i => if 3 + k ≤ i ∧ i < 3 + fu then [] else bk i) ∧ mds M' (va_up ck 6 (ck 6 ++ cat (fun j => bk (3 + (k + j))) n)) ∧ (∀ i, M'.2 9 i = if 3 + k ≤ i ∧ i < 3 + fu then 0 else Mk.2 9 i) ∧ M'.2 14 6 + esum (M'.2 9) = Mk.2 14 6 + esum (Mk.2 9) ∧ (∀ i, i ≠ 6 → M'.2 14 i = Mk.2 14 i) ∧ M'.1 18 = 0 ∧ fm [18] [8, 9, 10, 11, 14] Mk M' := by
  intro n
  induction n with
  | zero =>
    intro k f Mk bk ck hk h18 hB hD hr
    have : k = fu := by omega
    subst this
    rw [Nat.zero_add, pf_X9_rotate_2, h18, if_pos (Int32.le_refl _)]
    simp only [mm_pf, Option.bind_some]
    refine ⟨_, rfl, fun i hi => ?_, by rw [cat, List.append_nil, va_up_id]; exact hD, fun i => ?_, rfl, fun _ _ => rfl, rfl, (fm.rf _ _ Mk).pf (j := 18) (by decide) _⟩
    · dsimp only
      rw [if_neg (by omega)]; exact hB i hi
    · rw [if_neg (by omega)]
  | succ n ih =>
    intro k f Mk bk ck hk h18 hB hD hr
    rw [show n + 1 + f + 1 = (n + f + 1) + 1 by omega, pf_X9_rotate_2, h18, if_neg (nI_ge (by omega) (by omega)), show (3 : Int32) + nI k = nI (3 + k) by rw [show (3 : Int32) = nI 3 from rfl, nI_add]]
    rw [cat, List.length_append] at hr
    simp only [Nat.add_zero] at hr
    obtain ⟨M1, e1, b1, d1, g9, g14, f1⟩ := md_drain (G := G) (N := N) hB hD (show 3 + k < 7 by omega) (by omega) (by omega)
    simp only [e1, mw_b2, nI_1]
    have hfun : (fun j => va_up bk (3 + k) [] (3 + (k + 1 + j))) = fun j => bk (3 + (k + (j + 1))) := by
      funext j
      rw [va_up_ne _ _ (by omega), show 3 + (k + 1 + j) = 3 + (k + (j + 1)) by omega]
    obtain ⟨M', e2, b2, d2, q9, q14, q14', q18, f2⟩ := ih (k + 1) f M1 _ _ (by omega) ((f1.1 18 (by simp)).trans h18) b1 d1 (by rw [va_up_self, List.length_append, hfun]; omega)
    refine ⟨M', e2, fun i hi => ?_, ?_, fun i => ?_, ?_, fun i hi => ?_, q18, (f1.wd (X' := [18]) (by simp) (fun j h => h)).tr f2⟩
    · have := b2 i hi
      dsimp only at this ⊢
      by_cases h9 : i = 3 + k
      · subst h9
        rw [if_neg (by omega), va_up_self] at this
        rw [if_pos (by omega)]
        exact this
      · rw [va_up_ne _ _ h9] at this
        by_cases hc : 3 + (k + 1) ≤ i ∧ i < 3 + fu
        · rw [if_pos hc] at this; rw [if_pos (by omega)]; exact this
        · rw [if_neg hc] at this; rw [if_neg (by omega)]; exact this
    · rw [va_up_self, bx_uu, hfun, List.append_assoc] at d2
      rw [cat]
      exact d2
    · rw [q9 i, g9]
      by_cases h9 : i = 3 + k
      · subst h9
        rw [if_neg (by omega), pk_us, if_pos (by omega)]
      · rw [pk_un h9]
        by_cases hc : 3 + (k + 1) ≤ i ∧ i < 3 + fu
        · rw [if_pos hc, if_pos (by omega)]
        · rw [if_neg hc, if_neg (by omega)]
    · rw [q14, g14, g9, pk_us]
      exact esum_dr (Mk.2 9) (Mk.2 14 6) (3 + k) (by omega)
    · rw [q14' i hi, g14, pk_un hi]
end MRT
