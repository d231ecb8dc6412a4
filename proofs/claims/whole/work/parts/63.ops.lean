/-! small calls -/
section OPA
variable {G : Nat → ClassId} {N b p kl sz kc : Nat} {S : mw_M} {M : mm_M}
theorem isTh_in {t : Nat} (h : t < 3) : pf_X8_isThread G N S (nI t) = some (1, S) ∧ pf_X9_isThread G N M (nI t) = some (1, M) := by
  unfold pf_X8_isThread pf_X9_isThread
  rw [if_neg (nI_pos (by omega)), if_neg (nI_pos (by omega)), if_neg (show ¬ (3 : Int32) ≤ nI t from nI_ge (b := 3) h (by decide)), if_neg (show ¬ (2 : Int32) < nI t from nI_nlt (a := 2) (by omega) (by decide)), if_pos z1]
  exact ⟨rfl, rfl⟩
theorem isTh_out {x : Int32} (h : x < 0 ∨ nI 3 ≤ x) : pf_X8_isThread G N S x = some (0, S) ∧ pf_X9_isThread G N M x = some (0, M) := by
  unfold pf_X8_isThread pf_X9_isThread
  by_cases h0 : x < 0
  · rw [if_pos h0, if_pos h0, if_pos z0]; exact ⟨rfl, rfl⟩
  rw [if_neg h0, if_neg h0]
  have h3 : nI 3 ≤ x := h.resolve_left h0
  rw [if_pos (show (3 : Int32) ≤ x from h3), if_pos (show (2 : Int32) < x from Int32.lt_of_lt_of_le (show (2 : Int32) < 3 by decide) h3), if_pos z0]
  exact ⟨rfl, rfl⟩
theorem isRec_in {r nr : Nat} {x7 x3 : Int32} (hm : g_main S b p kl sz x7 (nI nr) x3) (hr : r < nr) (hn : nr ≤ 4) (h29 : M.1 29 = nI nr) : pf_X8_isRecording G N S b (nI r) = some (1, S) ∧ pf_X9_isRecording G N M (nI r) = some (1, M) := by
  unfold pf_X8_isRecording pf_X9_isRecording
  simp only [gi_q (k := 8) hm rfl, Option.bind_some]
  rw [if_neg (nI_pos (by omega)), if_neg (nI_pos (by omega)), h29, if_neg (nI_ge hr (by omega)), if_neg (nI_ge hr (by omega)), if_pos z1]
  exact ⟨rfl, rfl⟩
theorem isRec_out {nr : Nat} {x x7 x3 : Int32} (hm : g_main S b p kl sz x7 (nI nr) x3) (h : x < 0 ∨ nI nr ≤ x) (h29 : M.1 29 = nI nr) : pf_X8_isRecording G N S b x = some (0, S) ∧ pf_X9_isRecording G N M x = some (0, M) := by
  unfold pf_X8_isRecording pf_X9_isRecording
  simp only [gi_q (k := 8) hm rfl, Option.bind_some]
  by_cases h0 : x < 0
  · rw [if_pos h0, if_pos h0, if_pos z0]; exact ⟨rfl, rfl⟩
  rw [if_neg h0, if_neg h0, h29, if_pos (h.resolve_left h0), if_pos (h.resolve_left h0), if_pos z0]
  exact ⟨rfl, rfl⟩
theorem ix (x : Int32) {n : Nat} (hn : n < 2 ^ 31) : (x < 0 ∨ nI n ≤ x) ∨ ∃ j : Nat, j < n ∧ x = nI j := by
  rcases pk_ix x hn with h | h | h
  · exact Or.inl (Or.inl h)
  · exact Or.inl (Or.inr h)
  · exact Or.inr h
/-- one thread is changed -/
theorem g_ths.set {S' : mw_M} {M' : mm_M} {bf bf' : Nat → List Int32} {t : Nat} {f : Nat → Int32} {W : Nat → Prop} (h : g_ths G S b sz M bf) (hs : sm_p W S S') (hW : ∀ q, b + 6 ≤ q → q < b + 19 → ¬ (b + 7 + 4 * t ≤ q ∧ q < b + 11 + 4 * t) → ¬ W q) (ht : t < 3) (h1 : th_R G S' (b + 7 + 4 * t) (M'.2 5 t) (M'.2 16 t) (M'.2 17 t) f sz (bf' t)) (h2 : ∀ i, i < 3 → f i = M'.2 6 (3 * t + i)) (h3 : ∀ u, u < 3 → u ≠ t → M'.2 5 u = M.2 5 u ∧ M'.2 16 u = M.2 16 u ∧ M'.2 17 u = M.2 17 u ∧ bf' u = bf u ∧ ∀ i, i < 3 → M'.2 6 (3 * u + i) = M.2 6 (3 * u + i)) : g_ths G S' b sz M' bf' := by
  obtain ⟨e1, e2⟩ := h
  refine ⟨e1.sm hs (hW _ (by omega) (by omega) (by omega)), fun u hu => ?_⟩
  by_cases h9 : u = t
  · subst h9
    exact ⟨f, h1, h2⟩
  · obtain ⟨g, q1, q2⟩ := e2 u hu
    obtain ⟨y1, y2, y3, y4, y5⟩ := h3 u hu h9
    refine ⟨g, ?_, fun i hi => by rw [y5 i hi]; exact q2 i hi⟩
    rw [y1, y2, y3, y4]
    exact q1.sm hs (hW _ (by omega) (by omega) (by omega)) (hW _ (by omega) (by omega) (by omega)) (hW _ (by omega) (by omega) (by omega)) (hW _ (by omega) (by omega) (by omega))
theorem op_begin (h : RR G b p kl sz kc S M) (x : Int32) : OPi G b p kl sz kc S (pf_X8_begin G N S b x) (pf_X9_begin G N M x) := by
  have h0 := h
  obtain ⟨bf, ch, h1, h2, h3, h4, h5, h6, h7, h8, h9, h10, h11, h12, h13⟩ := h
  unfold pf_X8_begin pf_X9_begin
  simp only [mm_pf, Option.bind_some]
  rcases ix x (n := 3) (by decide) with hx | ⟨t, ht, rfl⟩
  · rw [(isTh_out (S := S) (M := (va_up M.1 4 0, M.2)) hx).1, (isTh_out (S := S) (M := (va_up M.1 4 0, M.2)) hx).2]
    simp only [mw_b2, if_pos rfl, if_pos z0]
    exact ⟨0, S, _, rfl, rfl, h0.t (m4_f M 0), sm_p.rf _ S⟩
  · rw [(isTh_in (S := S) (M := (va_up M.1 4 0, M.2)) ht).1, (isTh_in (S := S) (M := (va_up M.1 4 0, M.2)) ht).2]
    simp only [mw_b2]
    rw [if_neg (show ¬ (1 : Int32) = 0 by decide), if_neg (show ¬ (1 : Int32) = 0 by decide)]
    obtain ⟨⟨g, a1, a2⟩, hth⟩ := h4
    obtain ⟨f, q1, q2⟩ := hth t ht
    obtain ⟨k, hk, e5⟩ := h12 t ht
    rw [e5] at q1
    simp only [gr_q (k := 3) h1 rfl, gi_q (k := 13) h1 rfl, aq_q a1 ht (by decide) (a2 t ht), Option.bind_some, v_q _ q1.1, aim (k := 5) (j := t) ht (by decide), e5]
    by_cases hk3 : k = 3
    · subst hk3
      rw [th_beg0 q1 (by omega) (by decide), if_neg (show ¬ ¬ nI 3 = 3 by decide)]
      simp only [mw_b2, if_pos rfl, if_pos z0]
      exact ⟨0, S, _, rfl, rfl, h0.t (m4_f M 0), sm_p.rf _ S⟩
    · obtain ⟨S', w1, w2, w3⟩ := th_beg (N := N) q1 (show k < 3 by omega) (M.1 3)
      rw [w1, if_pos (show ¬ nI k = 3 from fun z => hk3 ((nI_eq (b := 3) (by omega) (by decide)).mp z)), i3k]
      simp only [mw_b2, sim (k := 6) (j := 3 * t + k) _ (show _ < 9 by omega) (by decide), Option.bind_some, aim (k := 5) (j := t) ht (by decide), sim (k := 5) (j := t) _ ht (by decide), if_pos z1]
      rw [if_neg (show ¬ (1 : Int32) = 0 by decide)]
      have hs : sm_p (fun q => b + 7 + 4 * t ≤ q ∧ q < b + 11 + 4 * t) S S' := w3.wd (fun q hq => by rcases hq with z | z <;> constructor <;> omega)
      generalize hM' : ((va_up M.1 4 0, va_up (va_up M.2 6 (upd (M.2 6) (3 * t + k) (va_up M.1 4 0 3))) 5 (upd (va_up M.2 6 (upd (M.2 6) (3 * t + k) (va_up M.1 4 0 3)) 5) t (va_up M.2 6 (upd (M.2 6) (3 * t + k) (va_up M.1 4 0 3)) 5 t + 1))) : mm_M) = M'
      have hf : fm [4] [5, 6] M M' := by rw [← hM']; exact (((fm.rf [4] [5, 6] M).pf (j := 4) (by decide) 0).si (k := 6) (by decide) _).si (k := 5) (by decide) _
      have x6 : M'.2 6 = upd (M.2 6) (3 * t + k) (M.1 3) := by rw [← hM']; rfl
      have x5 : M'.2 5 = upd (M.2 5) t (nI (k + 1)) := by
        rw [← hM', ← nI_1, ← e5]; rfl
      refine ⟨1, S', M', rfl, rfl, ⟨bf, ch, (by rw [hf.1 7 (by decide), hf.1 29 (by decide), hf.1 3 (by decide)]; exact h1.k hs (by intro w; obtain ⟨w1, w2⟩ := w; omega)), h2.k hs (fun q z1 z2 w => by obtain ⟨w1, w2⟩ := w; omega) hf (by decide) (by decide), h3.k hs (fun q z1 z2 w => by obtain ⟨w1, w2⟩ := w; omega) hf (by decide) (by decide) (by decide), ?g_ths, h5.k hs (fun q z1 z2 w => by obtain ⟨w1, w2⟩ := w; omega) hf (by decide) (by decide) (by decide), h6.k hs (fun q z1 z2 w => by obtain ⟨w1, w2⟩ := w; omega) hf (by decide) (by decide) (by decide) (by decide) (by decide) (by decide), h7.k hs (fun q z1 z2 w => by obtain ⟨w1, w2⟩ := w; omega) hf (by decide) (by decide), h8.k hs (fun q z1 z2 w => by obtain ⟨w1, w2⟩ := w; omega) hf (by decide) (by decide) (by decide) (by decide) (by decide) (by decide) (by decide) (by decide), h9.k hs (fun q z1 z2 w => by obtain ⟨w1, w2⟩ := w; omega), h10.k hs (fun q z1 z2 w => by obtain ⟨w1, w2⟩ := w; omega) hf (by decide) (by decide), h11.k hf (by decide) (by decide) (by decide) (by decide) (by decide) (by decide) (by decide) (by decide) (by decide), ?g_beg, h13⟩, hs.wd (fun q hq => by constructor <;> omega)⟩
      case g_ths =>
        refine g_ths.set (bf := bf) (t := t) (f := upd f k (M.1 3)) ⟨⟨g, a1, a2⟩, hth⟩ hs (fun q z1 z2 z3 w => z3 w) ht ?_ (fun i hi => ?_) (fun u hu hut => ⟨?_, by rw [hf.2 16 (by decide)], by rw [hf.2 17 (by decide)], rfl, fun i hi => ?_⟩)
        · rw [x5, pk_us, hf.2 16 (by decide), hf.2 17 (by decide)]; exact w2
        · rw [x6]
          by_cases hik : i = k
          · subst hik; rw [pk_us, pk_us]
          · rw [pk_un hik, pk_un (by omega)]; exact q2 i hi
        · rw [x5, pk_un hut]
        · rw [x6, pk_un (by omega)]
      case g_beg =>
        intro u hu
        rw [x5]
        by_cases hut : u = t
        · subst hut; exact ⟨k + 1, by omega, pk_us⟩
        · rw [pk_un hut]; exact h12 u hu
theorem op_lost (h : RR G b p kl sz kc S M) (x : Int32) : OPi G b p kl sz kc S (pf_X8_lost G N S b x) (pf_X9_lost G N M x) := by
  have h0 := h
  obtain ⟨bf, ch, h1, h2, h3, h4, h5, h6, h7, h8, h9, h10, h11, h12, h13⟩ := h
  unfold pf_X8_lost pf_X9_lost
  simp only [mm_pf, Option.bind_some]
  rcases ix x (n := 3) (by decide) with hx | ⟨t, ht, rfl⟩
  · rw [(isTh_out (S := S) (M := (va_up M.1 4 0, M.2)) hx).1, (isTh_out (S := S) (M := (va_up M.1 4 0, M.2)) hx).2]
    simp only [mw_b2, if_pos rfl]
    exact ⟨-1, S, _, rfl, rfl, h0.t (m4_f M 0), sm_p.rf _ S⟩
  · rw [(isTh_in (S := S) (M := (va_up M.1 4 0, M.2)) ht).1, (isTh_in (S := S) (M := (va_up M.1 4 0, M.2)) ht).2]
    simp only [mw_b2]
    rw [if_neg (show ¬ (1 : Int32) = 0 by decide), if_neg (show ¬ (1 : Int32) = 0 by decide)]
    obtain ⟨⟨g, a1, a2⟩, hth⟩ := h4
    obtain ⟨f, q1, q2⟩ := hth t ht
    simp only [gr_q (k := 3) h1 rfl, aq_q a1 ht (by decide) (a2 t ht), Option.bind_some, v_q _ q1.1, th_all q1, mw_b2, aim (k := 17) (j := t) ht (by decide)]
    exact ⟨_, S, _, rfl, rfl, h0.t (m4_f M 0), sm_p.rf _ S⟩
theorem op_buffered (h : RR G b p kl sz kc S M) (x : Int32) : OPi G b p kl sz kc S (pf_X8_buffered G N S b x) (pf_X9_buffered G N M x) := by
  have h0 := h
  obtain ⟨bf, ch, h1, h2, h3, h4, h5, h6, h7, h8, h9, h10, h11, h12, h13⟩ := h
  unfold pf_X8_buffered pf_X9_buffered
  simp only [mm_pf, Option.bind_some]
  rcases ix x (n := 3) (by decide) with hx | ⟨t, ht, rfl⟩
  · rw [(isTh_out (S := S) (M := (va_up M.1 4 0, M.2)) hx).1, (isTh_out (S := S) (M := (va_up M.1 4 0, M.2)) hx).2]
    simp only [mw_b2, if_pos rfl]
    exact ⟨-1, S, _, rfl, rfl, h0.t (m4_f M 0), sm_p.rf _ S⟩
  · rw [(isTh_in (S := S) (M := (va_up M.1 4 0, M.2)) ht).1, (isTh_in (S := S) (M := (va_up M.1 4 0, M.2)) ht).2]
    simp only [mw_b2]
    rw [if_neg (show ¬ (1 : Int32) = 0 by decide), if_neg (show ¬ (1 : Int32) = 0 by decide)]
    obtain ⟨⟨g, a1, a2⟩, hth⟩ := h4
    obtain ⟨f, q1, q2⟩ := hth t ht
    simp only [gr_q (k := 3) h1 rfl, aq_q a1 ht (by decide) (a2 t ht), Option.bind_some, v_q _ q1.1, th_buf q1, mw_b2, v_q _ q1.2.2.1, br_length q1.2.2, aim (k := 8) (j := t) (show t < 7 by omega) (by decide)]
    refine ⟨_, S, _, rfl, ?_, h0.t (m4_f M 0), sm_p.rf _ S⟩
    rw [(h11.1 t (by omega)).1]
theorem op_state (h : RR G b p kl sz kc S M) (x : Int32) : OPi G b p kl sz kc S (pf_X8_state G N S b x) (pf_X9_state G N M x) := by
  have h0 := h
  obtain ⟨bf, ch, h1, h2, h3, h4, h5, h6, h7, h8, h9, h10, h11, h12, h13⟩ := h
  obtain ⟨⟨g, a1, a2⟩, ⟨nr, hnr, e29⟩, hrc⟩ := h6
  rw [e29] at h1
  have e29' : (va_up M.1 4 0) 29 = nI nr := e29
  unfold pf_X8_state pf_X9_state
  simp only [mm_pf, Option.bind_some, v_q _ h1]
  rcases ix x (n := nr) (by omega) with hx | ⟨r, hr, rfl⟩
  · rw [(isRec_out (M := (va_up M.1 4 0, M.2)) h1 hx e29').1, (isRec_out (M := (va_up M.1 4 0, M.2)) h1 hx e29').2]
    simp only [mw_b2, if_pos rfl]
    exact ⟨-1, S, _, rfl, rfl, h0.t (m4_f M 0), sm_p.rf _ S⟩
  · rw [(isRec_in (M := (va_up M.1 4 0, M.2)) h1 hr hnr e29').1, (isRec_in (M := (va_up M.1 4 0, M.2)) h1 hr hnr e29').2]
    obtain ⟨la, f, g', q1, -⟩ := hrc r (by omega)
    simp only [mw_b2]
    rw [if_neg (show ¬ (1 : Int32) = 0 by decide), if_neg (show ¬ (1 : Int32) = 0 by decide)]
    simp only [gr_q (k := 7) h1 rfl, aq_q a1 (show r < 4 by omega) (by decide) (a2 r (by omega)), Option.bind_some, v_q _ q1.1, rec_phase q1, mw_b2, aim (k := 18) (j := r) (show r < 4 by omega) (by decide)]
    exact ⟨_, S, _, rfl, rfl, h0.t (m4_f M 0), sm_p.rf _ S⟩
theorem op_threshold (h : RR G b p kl sz kc S M) (x y : Int32) : OPi G b p kl sz kc S (pf_X8_threshold G N S b x y) (pf_X9_threshold G N M x y) := by
  have h0 := h
  obtain ⟨bf, ch, h1, h2, h3, h4, h5, h6, h7, h8, h9, h10, h11, h12, h13⟩ := h
  obtain ⟨⟨g, a1, a2⟩, ⟨nr, hnr, e29⟩, hrc⟩ := h6
  obtain ⟨-, -, nt, hnt, e7, -⟩ := h5
  rw [e29] at h1
  have h1' := h1
  rw [e7] at h1'
  have e29' : (va_up M.1 4 0) 29 = nI nr := e29
  have e7' : (va_up M.1 4 0) 7 = nI nt := e7
  unfold pf_X8_threshold pf_X9_threshold
  simp only [mm_pf, Option.bind_some, v_q _ h1]
  rcases ix x (n := nr) (by omega) with hx | ⟨r, hr, rfl⟩
  · rw [(isRec_out (M := (va_up M.1 4 0, M.2)) h1 hx e29').1, (isRec_out (M := (va_up M.1 4 0, M.2)) h1 hx e29').2]
    simp only [mw_b2, if_pos rfl]
    exact ⟨-1, S, _, rfl, rfl, h0.t (m4_f M 0), sm_p.rf _ S⟩
  · rw [(isRec_in (M := (va_up M.1 4 0, M.2)) h1 hr hnr e29').1, (isRec_in (M := (va_up M.1 4 0, M.2)) h1 hr hnr e29').2]
    obtain ⟨la, f, g', q1, q2, -⟩ := hrc r (by omega)
    simp only [mw_b2]
    rw [if_neg (show ¬ (1 : Int32) = 0 by decide), if_neg (show ¬ (1 : Int32) = 0 by decide), v_q _ h1]
    unfold pf_X8_isType
    simp only [gi_q (k := 6) h1' rfl, Option.bind_some, e7']
    by_cases hy : y < 0
    · rw [if_pos hy, if_pos hy, if_pos z0]
      simp only [mw_b2, if_pos rfl]
      exact ⟨-1, S, _, rfl, rfl, h0.t (m4_f M 0), sm_p.rf _ S⟩
    rw [if_neg hy, if_neg hy]
    by_cases hy2 : nI nt ≤ y
    · rw [if_pos hy2, if_pos hy2, if_pos z0]
      simp only [mw_b2, if_pos rfl]
      exact ⟨-1, S, _, rfl, rfl, h0.t (m4_f M 0), sm_p.rf _ S⟩
    rw [if_neg hy2, if_neg hy2, if_pos z1]
    obtain ⟨t, ht, rfl, -⟩ := pk_mu hy hy2 (by omega)
    simp only [mw_b2]
    rw [if_neg (show ¬ (1 : Int32) = 0 by decide), i6k]
    simp only [gr_q (k := 7) h1 rfl, aq_q a1 (show r < 4 by omega) (by decide) (a2 r (by omega)), Option.bind_some, v_q _ q1.1, rec_isOn q1 (show t < 6 by omega), rec_ld q1 (show t < 6 by omega), mw_b2, aim (k := 19) (j := 6 * r + t) (show _ < 24 by omega) (by decide), aim (k := 20) (j := 6 * r + t) (show _ < 24 by omega) (by decide)]
    rw [(q2 t (by omega)).1, (q2 t (by omega)).2]
    by_cases ho : M.2 19 (6 * r + t) = 0
    · rw [if_pos ho, if_pos (show ¬ (1 : Int32) = 0 by decide), if_neg (fun z => z ho)]
      exact ⟨_, S, _, rfl, rfl, h0.t (m4_f M 0), sm_p.rf _ S⟩
    · rw [if_neg ho, if_neg (show ¬ ¬ (0 : Int32) = 0 by decide), if_pos ho]
      exact ⟨_, S, _, rfl, rfl, h0.t (m4_f M 0), sm_p.rf _ S⟩
theorem op_output (h : RR G b p kl sz kc S M) (x : Int32) : OPi G b p kl sz kc S (pf_X8_output G N S b x) (pf_X9_output G N M x) := by
  have h0 := h
  obtain ⟨bf, ch, h1, h2, h3, h4, h5, h6, h7, h8, h9, ⟨wr, w1, w2, w3, w4⟩, h11, h12, h13⟩ := h
  have hlen := w1.2.1
  have hcap : kl * (cbs p sz + 258) ≤ 5 * 852 := by
    obtain ⟨-, -, -, -, ⟨u1, u2, u3, u4, u5, u6⟩, -⟩ := h11
    have := cbs_le u1 u5
    exact Nat.mul_le_mul u3 (by omega)
  have e36 : (va_up M.1 4 0) 36 = nI wr.length := w2
  unfold pf_X8_output pf_X9_output
  simp only [gr_q (k := 12) h1 rfl, mm_pf, Option.bind_some, v_q _ w1.1, br_at w1, mw_b2, e36]
  by_cases hx : x < 0
  · rw [if_pos hx, if_pos (Or.inl hx)]
    exact ⟨-1, S, _, rfl, rfl, h0.t (m4_f M 0), sm_p.rf _ S⟩
  by_cases hx2 : nI wr.length ≤ x
  · rw [if_neg hx, if_pos hx2, if_pos (Or.inr hx2)]
    exact ⟨-1, S, _, rfl, rfl, h0.t (m4_f M 0), sm_p.rf _ S⟩
  rw [if_neg hx, if_neg hx2, if_neg (fun z => z.elim hx hx2)]
  obtain ⟨j, hj, rfl, -, hc, -⟩ := pk_mu hx hx2 (by omega)
  simp only [aim (k := 23) (j := j) (show j < 4400 by omega) (by decide), Option.bind_some, hc]
  refine ⟨_, S, _, rfl, ?_, h0.t (m4_f M 0), sm_p.rf _ S⟩
  have h23 := w3 j hj
  rw [Nat.zero_add] at h23
  show some (M.2 23 j, _) = _
  have hb := w4 (wr.getD j 0) (by rw [List.getD_eq_getElem?_getD, List.getElem?_eq_getElem hj]; exact List.getElem_mem hj)
  rw [h23, bp_b2, hb]
end OPA
