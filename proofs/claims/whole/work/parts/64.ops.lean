/-! calls that rotate -/
section OPR
variable {G : Nat → ClassId} {N b p kl sz kc : Nat} {S : mw_M} {M : mm_M}
abbrev rot_X (b p kl : Nat) : Nat → Prop := fun q => (b + 7 ≤ q ∧ q < b + 19) ∨ (b + 34 ≤ q ∧ q < b + 36 + 2 * p + 2 + 4 * (kl + 1))
theorem RR_rot (h : RR G b p kl sz kc S M) (hN : 700 ≤ N) : ∃ S' M', pf_X8_rotate G N S b = some S' ∧ pf_X9_rotate G N M = some M' ∧ RR G b p kl sz kc S' M' ∧ M'.2 12 6 = M.2 12 6 + 1 ∧ sm_p (rot_X b p kl) S S' ∧ fm [18, 19, 20, 38] [8, 9, 10, 11, 12, 13, 14, 15, 16, 24] M M' := by
  obtain ⟨bf, ch, h1, h2, h3, h4, h5, h6, h7, h8, h9, h10, h11, h12, h13⟩ := h
  obtain ⟨S', M', ch', e1, e2, g4, g7, g8, g11, g6, gn, hs, hf⟩ := rotate2 (N := N) h1 h4 h7 h8 h11 (fun fu _ hfu => by have := Nat.mul_le_mul_right sz hfu; omega) hN
  refine ⟨S', M', e1, e2, ⟨fun _ => [], ch', (by rw [hf.1 7 (by decide), hf.1 29 (by decide), hf.1 3 (by decide)]; exact h1.k hs (by intro w; rcases w with ⟨w1, w2⟩ | ⟨w1, w2⟩ <;> omega)), h2.k hs (fun q z1 z2 w => by rcases w with ⟨w1, w2⟩ | ⟨w1, w2⟩ <;> omega) hf (by decide) (by decide), h3.k hs (fun q z1 z2 w => by rcases w with ⟨w1, w2⟩ | ⟨w1, w2⟩ <;> omega) hf (by decide) (by decide) (by decide), ?g_ths, h5.k hs (fun q z1 z2 w => by rcases w with ⟨w1, w2⟩ | ⟨w1, w2⟩ <;> omega) hf (by decide) (by decide) (by decide), h6.k hs (fun q z1 z2 w => by rcases w with ⟨w1, w2⟩ | ⟨w1, w2⟩ <;> omega) hf (by decide) (by decide) (by decide) (by decide) (by decide) (by decide), ?g_pool, ?g_chs, h9.k hs (fun q z1 z2 w => by rcases w with ⟨w1, w2⟩ | ⟨w1, w2⟩ <;> omega), h10.k hs (fun q z1 z2 w => by rcases w with ⟨w1, w2⟩ | ⟨w1, w2⟩ <;> omega) hf (by decide) (by decide), ?g_mod, h12.k hf (by decide), ?g_len⟩, gn, hs, hf⟩
  case g_ths => exact g4
  case g_pool => exact g7
  case g_chs => exact g8
  case g_mod => exact g11
  case g_len => rw [g6]; exact Nat.zero_le _
theorem rot_cl {S S' : mw_M} (h : sm_p (rot_X b p kl) S S') : sm_p (cl_X b p kl) S S' := h.wd (fun q hq => by rcases hq with ⟨w1, w2⟩ | ⟨w1, w2⟩ <;> constructor <;> omega)
/-- the open chunk's number -/
theorem RR_num (h : RR G b p kl sz kc S M) : ∃ A, (∃ fs, S.1 (b + 36 + 2 * p) = some (.inr (2, fs))) ∧ (∃ fs, S.1 A = some (.inr (1, fs))) ∧ pf_X2_open G N S (b + 36 + 2 * p) = some (A, S) ∧ pf_X1_number G N S A = some (M.2 12 6, S) := by
  obtain ⟨bf, ch, h1, h2, h3, h4, h5, h6, h7, h8, h9, h10, h11, h12, h13⟩ := h
  obtain ⟨kp, ad, L, X, Y, Z, U, cs, e19, hkp, hold, hL, hX, hrest⟩ := h8
  obtain ⟨-, -, -, -, ⟨u1, u2, u3, u4, u5, u6⟩, -⟩ := h11
  have hc := cs.2.2.2.2 kp hkp
  refine ⟨ad kp, ⟨_, cs.1⟩, ⟨_, hc.1⟩, cs_open cs hkp (by omega), ?_⟩
  rw [ck_num hc, hX]
/-- one recording is changed -/
theorem RR.rc {S' : mw_M} {M' : mm_M} {r : Nat} (h : RR G b p kl sz kc S M) (hr : r < 4) (hs : sm_p (st_X (b + 22 + 3 * r)) S S') (hf : fm [4] [18, 19, 20, 21, 22] M M') (h18 : ∀ u, u ≠ r → M'.2 18 u = M.2 18 u ∧ M'.2 21 u = M.2 21 u ∧ M'.2 22 u = M.2 22 u) (h19 : ∀ u t, u < 4 → u ≠ r → t < 6 → M'.2 19 (6 * u + t) = M.2 19 (6 * u + t) ∧ M'.2 20 (6 * u + t) = M.2 20 (6 * u + t)) (hrc : g_rc G S' b M' r) : RR G b p kl sz kc S' M' := by
  obtain ⟨bf, ch, h1, h2, h3, h4, h5, h6, h7, h8, h9, h10, h11, h12, h13⟩ := h
  have hs1 : sm_p (fun q => b + 22 + 3 * r ≤ q ∧ q < b + 25 + 3 * r) S S' := hs.wd (fun q hq => by rcases hq with z | z | z <;> constructor <;> omega)
  refine ⟨bf, ch, (by rw [hf.1 7 (by decide), hf.1 29 (by decide), hf.1 3 (by decide)]; exact h1.k hs1 (by intro w; obtain ⟨w1, w2⟩ := w; omega)), h2.k hs1 (fun q z1 z2 w => by obtain ⟨w1, w2⟩ := w; omega) hf (by decide) (by decide), h3.k hs1 (fun q z1 z2 w => by obtain ⟨w1, w2⟩ := w; omega) hf (by decide) (by decide) (by decide), h4.k hs1 (fun q z1 z2 w => by obtain ⟨w1, w2⟩ := w; omega) hf (by decide) (by decide) (by decide) (by decide), h5.k hs1 (fun q z1 z2 w => by obtain ⟨w1, w2⟩ := w; omega) hf (by decide) (by decide) (by decide), ?g_rec, h7.k hs1 (fun q z1 z2 w => by obtain ⟨w1, w2⟩ := w; omega) hf (by decide) (by decide), h8.k hs1 (fun q z1 z2 w => by obtain ⟨w1, w2⟩ := w; omega) hf (by decide) (by decide) (by decide) (by decide) (by decide) (by decide) (by decide) (by decide), h9.k hs1 (fun q z1 z2 w => by obtain ⟨w1, w2⟩ := w; omega), h10.k hs1 (fun q z1 z2 w => by obtain ⟨w1, w2⟩ := w; omega) hf (by decide) (by decide), h11.k hf (by decide) (by decide) (by decide) (by decide) (by decide) (by decide) (by decide) (by decide) (by decide), h12.k hf (by decide), h13⟩
  case g_rec =>
    obtain ⟨e1, ⟨nr, e2, e3⟩, e4⟩ := h6
    refine ⟨e1.sm hs1 (by rintro ⟨w1, w2⟩; omega), ⟨nr, e2, (hf.1 29 (by decide)).trans e3⟩, fun u hu => ?_⟩
    by_cases hur : u = r
    · subst hur; exact hrc
    · exact (e4 u hu).k hs1 (fun q z1 z2 w => by obtain ⟨w1, w2⟩ := w; omega) (h18 u hur).1 (fun t ht => h19 u t hu hur ht) (h18 u hur).2.1 (h18 u hur).2.2
theorem st_cl {S S' : mw_M} {r : Nat} (hr : r < 4) (h : sm_p (st_X (b + 22 + 3 * r)) S S') : sm_p (cl_X b p kl) S S' := h.wd (fun q hq => by rcases hq with z | z | z <;> constructor <;> omega)
theorem op_start (h : RR G b p kl sz kc S M) (x : Int32) (hN : 700 ≤ N) : OPt G b p kl sz kc S (pf_X8_start G N S b x) (pf_X9_start G N M x) := by
  have h0 := h
  obtain ⟨bf, ch, h1, h2, h3, h4, h5, h6, h7, h8, h9, h10, h11, h12, h13⟩ := h
  obtain ⟨⟨g, a1, a2⟩, ⟨nr, hnr, e29⟩, hrc⟩ := h6
  rw [e29] at h1
  unfold pf_X8_start pf_X9_start
  simp only [v_q _ h1]
  rcases ix x (n := nr) (by omega) with hx | ⟨r, hr, rfl⟩
  · rw [(isRec_out (M := M) h1 hx e29).1, (isRec_out (M := M) h1 hx e29).2]
    simp only [mw_b2]
    rw [if_neg (show ¬ ¬ True from fun z => z trivial), if_neg (show ¬ ¬ True from fun z => z trivial)]
    unfold pf_X9_start_27
    simp only [mm_pf, Option.bind_some]
    rw [if_neg (show ¬ (va_up M.1 4 1) 4 ≤ 0 from (show ¬ (1 : Int32) ≤ 0 by decide))]
    exact ⟨1, 0, 0, S, _, rfl, rfl, by decide, rfl, fun z => absurd z (by decide), h0.t (m4_f M 1), sm_p.rf _ S⟩
  · rw [(isRec_in (M := M) h1 hr hnr e29).1, (isRec_in (M := M) h1 hr hnr e29).2]
    obtain ⟨la, f, g', q1, q2, q3, q4, q5⟩ := hrc r (by omega)
    simp only [mw_b2]
    rw [if_pos (show ¬ (1 : Int32) = 0 by decide), if_pos (show ¬ (1 : Int32) = 0 by decide)]
    simp only [gr_q (k := 7) h1 rfl, aq_q a1 (show r < 4 by omega) (by decide) (a2 r (by omega)), Option.bind_some, v_q _ q1.1, rec_is q1, mw_b2, aim (k := 18) (j := r) (show r < 4 by omega) (by decide)]
    by_cases hst : M.2 18 r = 0
    · rw [if_pos hst, if_pos hst, if_pos (show ¬ (1 : Int32) = 0 by decide)]
      unfold pf_X9_start_27
      simp only [mm_pf, Option.bind_some]
      rw [if_pos (show (va_up M.1 4 0) 4 ≤ 0 from (show (0 : Int32) ≤ 0 by decide))]
      obtain ⟨S1, M1, e1, e2, R1, hn, s1, f1⟩ := RR_rot (N := N) (h0.t (m4_f M 0)) hN
      rw [v_q _ h1, e1, e2]
      have R1' := R1
      obtain ⟨A, ⟨fs1, hfs1⟩, ⟨fs2, hfs2⟩, o1, o2⟩ := RR_num (N := N) R1
      obtain ⟨bf', ch', k1, k2, k3, k4, k5, ⟨⟨gg, b1, b2⟩, k6b, krc⟩, k7⟩ := R1
      obtain ⟨la', f', g'', w1, w2, w3, w4, w5⟩ := krc r (by omega)
      have x18 : M1.2 18 = M.2 18 := f1.2 18 (by decide)
      have x21 : M1.2 21 = M.2 21 := f1.2 21 (by decide)
      have x22 : M1.2 22 = M.2 22 := f1.2 22 (by decide)
      have x12 : M1.2 12 6 = M.2 12 6 + 1 := hn
      obtain ⟨S2, y1, y2, y3⟩ := rec_run (N := N) w1 (M1.2 12 6)
      have a12 : ∀ M : mm_M, mm_ai M 12 6 = some (M.2 12 6) := fun M => aim (M := M) (k := 12) (j := 6) (by decide) (by decide)
      simp only [Option.bind_some, gr_q (k := 10) k1 rfl, v_q _ hfs1, o1, mw_b2, v_q _ hfs2, o2, gr_q (k := 7) k1 rfl, aq_q b1 (show r < 4 by omega) (by decide) (b2 r (by omega)), v_q _ w1.1, y1, sim (k := 18) (j := r) _ (show r < 4 by omega) (by decide), sim (k := 21) (j := r) _ (show r < 4 by omega) (by decide), a12]
      generalize hM' : ((M1.1, va_up (va_up M1.2 18 (upd (M1.2 18) r 1)) 21 (upd (va_up M1.2 18 (upd (M1.2 18) r 1) 21) r (va_up M1.2 18 (upd (M1.2 18) r 1) 12 6))) : mm_M) = M'
      have hf : fm [4] [18, 19, 20, 21, 22] M1 M' := by rw [← hM']; exact ((fm.rf [4] [18, 19, 20, 21, 22] M1).si (k := 18) (by decide) _).si (k := 21) (by decide) _
      have v18 : M'.2 18 = upd (M1.2 18) r 1 := by rw [← hM']; rfl
      have v21 : M'.2 21 = upd (M1.2 21) r (M1.2 12 6) := by rw [← hM']; rfl
      have v12 : M'.2 12 = M1.2 12 := by rw [← hM']; rfl
      have v22 : M'.2 22 = M1.2 22 := by rw [← hM']; rfl
      have v19 : M'.2 19 = M1.2 19 := by rw [← hM']; rfl
      have v20 : M'.2 20 = M1.2 20 := by rw [← hM']; rfl
      have v4 : M'.1 4 = 0 := by rw [← hM']; exact f1.1 4 (by decide)
      refine ⟨0, M1.2 12 6, M1.2 12 6, S2, M', rfl, by rw [← hM']; rfl, by decide, v4, fun _ => rfl, R1'.rc (show r < 4 by omega) y3 hf (fun u hu => ⟨by rw [v18, pk_un hu], by rw [v21, pk_un hu], by rw [v22]⟩) (fun u t _ hu ht => ⟨by rw [v19], by rw [v20]⟩) ⟨la', f', g'', ?_, ?_, ?_, ?_, ?_⟩, (rot_cl s1).tr (st_cl (by omega) y3)⟩
      · rw [v18, v21, pk_us, pk_us]; exact y2
      · intro t ht; rw [v19, v20]; exact w2 t ht
      · intro _; exact w3 (Or.inl (by rw [x18]; exact hst))
      · intro z; rw [v18, pk_us] at z; exact absurd z (by decide)
      · rw [v18, pk_us]; exact Or.inr (Or.inl rfl)
    · rw [if_neg hst, if_neg hst, if_neg (show ¬ ¬ (0 : Int32) = 0 by decide)]
      unfold pf_X9_start_27
      simp only [mm_pf, Option.bind_some]
      rw [if_neg (show ¬ (va_up M.1 4 2) 4 ≤ 0 from (show ¬ (2 : Int32) ≤ 0 by decide))]
      exact ⟨2, 0, 0, S, _, rfl, rfl, by decide, rfl, fun z => absurd z (by decide), h0.t (m4_f M 2), sm_p.rf _ S⟩
/-- a recording ends, on both sides -/
theorem RR_end (h : RR G b p kl sz kc S M) {r : Nat} (hr : r < 4) (hst : M.2 18 r = 1) (hN : 700 ≤ N) : ∃ v S' M', pf_X8_endRecording G N S b (b + 22 + 3 * r) = some (v, S') ∧ pf_X9_end G N M (nI r) = some (v, M') ∧ RR G b p kl sz kc S' M' ∧ M'.2 18 r = 2 ∧ M'.1 4 = M.1 4 ∧ M'.1 29 = M.1 29 ∧ sm_p (cl_X b p kl) S S' := by
  obtain ⟨A, ⟨fs1, hfs1⟩, ⟨fs2, hfs2⟩, o1, o2⟩ := RR_num (N := N) h
  have h0 := h
  obtain ⟨bf, ch, h1, h2, h3, h4, h5, h6, h7, h8, h9, h10, h11, h12, h13⟩ := h
  obtain ⟨⟨g, a1, a2⟩, ⟨nr, hnr, e29⟩, hrc⟩ := h6
  have a12 : mm_ai M 12 6 = some (M.2 12 6) := aim (M := M) (k := 12) (j := 6) (by decide) (by decide)
  unfold pf_X8_endRecording pf_X9_end
  simp only [gr_q (k := 10) h1 rfl, Option.bind_some, v_q _ hfs1, o1, mw_b2, v_q _ hfs2, o2, v_q _ h1, a12, sim (k := 22) (j := r) _ (show r < 4 by omega) (by decide)]
  generalize hM0 : ((M.1, va_up M.2 22 (upd (M.2 22) r (M.2 12 6))) : mm_M) = M0
  have hf0 : fm [4] [18, 19, 20, 21, 22] M M0 := by rw [← hM0]; exact (fm.rf [4] [18, 19, 20, 21, 22] M).si (k := 22) (by decide) _
  have t18 : M0.2 18 = M.2 18 := by rw [← hM0]; rfl
  have t21 : M0.2 21 = M.2 21 := by rw [← hM0]; rfl
  have t19 : M0.2 19 = M.2 19 := by rw [← hM0]; rfl
  have t20 : M0.2 20 = M.2 20 := by rw [← hM0]; rfl
  have t22 : M0.2 22 = upd (M.2 22) r (M.2 12 6) := by rw [← hM0]; rfl
  have R0 : RR G b p kl sz kc S M0 := by
    refine h0.rc (r := r) (by omega) (sm_p.rf _ S) hf0 (fun u hu => ⟨by rw [t18], by rw [t21], by rw [t22, pk_un hu]⟩) (fun u t _ _ _ => ⟨by rw [t19], by rw [t20]⟩) ?_
    obtain ⟨la, f, g', q1, q2, q3, q4, q5⟩ := hrc r hr
    refine ⟨la, f, g', by rw [t18, t21]; exact q1, fun t ht => by rw [t19, t20]; exact q2 t ht, by rw [t18]; exact q3, fun z => ?_, by rw [t18]; exact q5⟩
    rw [t18, hst] at z; exact absurd z (by decide)
  obtain ⟨S1, M1, e1, e2, R1, hn, s1, f1⟩ := RR_rot (N := N) R0 hN
  rw [e1, e2]
  have R1' := R1
  obtain ⟨bf', ch', k1, k2, k3, k4, k5, ⟨⟨gg, b1, b2⟩, k6b, krc⟩, k7⟩ := R1
  obtain ⟨la', f', g'', w1, w2, w3, w4, w5⟩ := krc r hr
  have x18 : M1.2 18 = M.2 18 := (f1.2 18 (by decide)).trans t18
  have x22 : M1.2 22 = upd (M.2 22) r (M.2 12 6) := (f1.2 22 (by decide)).trans t22
  obtain ⟨S2, y1, y2, y3⟩ := rec_endw (N := N) w1 (M.2 12 6)
  simp only [Option.bind_some, v_q _ w1.1, y1, sim (k := 18) (j := r) _ (show r < 4 by omega) (by decide), aim (k := 22) (j := r) (show r < 4 by omega) (by decide)]
  generalize hM' : ((M1.1, va_up M1.2 18 (upd (M1.2 18) r 2)) : mm_M) = M'
  have hf : fm [4] [18, 19, 20, 21, 22] M1 M' := by rw [← hM']; exact (fm.rf [4] [18, 19, 20, 21, 22] M1).si (k := 18) (by decide) _
  have v18 : M'.2 18 = upd (M1.2 18) r 2 := by rw [← hM']; rfl
  have v21 : M'.2 21 = M1.2 21 := by rw [← hM']; rfl
  have v22 : M'.2 22 = M1.2 22 := by rw [← hM']; rfl
  have v19 : M'.2 19 = M1.2 19 := by rw [← hM']; rfl
  have v20 : M'.2 20 = M1.2 20 := by rw [← hM']; rfl
  have vv : M'.2 22 r = M.2 12 6 := by rw [v22, x22, pk_us]
  refine ⟨M.2 12 6, S2, M', rfl, ?_, R1'.rc hr y3 hf (fun u hu => ⟨by rw [v18, pk_un hu], by rw [v21], by rw [v22]⟩) (fun u t _ hu ht => ⟨by rw [v19], by rw [v20]⟩) ⟨M.2 12 6, f', g'', ?_, ?_, ?_, ?_, ?_⟩, by rw [v18, pk_us], ?_, ?_, (rot_cl s1).tr (st_cl hr y3)⟩
  · rw [show va_up M1.2 18 (upd (M1.2 18) r 2) 22 r = M.2 12 6 from (show M1.2 22 r = _ by rw [x22, pk_us])]
  · rw [v18, v21, pk_us]; exact y2
  · intro t ht; rw [v19, v20]; exact w2 t ht
  · intro z; rw [v18, pk_us] at z; exact absurd z (by decide)
  · intro _; exact vv.symm
  · rw [v18, pk_us]; exact Or.inr (Or.inr (Or.inl rfl))
  · rw [← hM']; exact (f1.1 4 (by decide)).trans (by rw [← hM0])
  · rw [← hM']; exact (f1.1 29 (by decide)).trans (by rw [← hM0])
theorem op_stop (h : RR G b p kl sz kc S M) (x : Int32) (hN : 700 ≤ N) : OPt G b p kl sz kc S (pf_X8_stop G N S b x) (pf_X9_stop G N M x) := by
  have h0 := h
  obtain ⟨bf, ch, h1, h2, h3, h4, h5, h6, h7, h8, h9, h10, h11, h12, h13⟩ := h
  obtain ⟨⟨g, a1, a2⟩, ⟨nr, hnr, e29⟩, hrc⟩ := h6
  rw [e29] at h1
  unfold pf_X8_stop pf_X9_stop
  simp only [v_q _ h1]
  rcases ix x (n := nr) (by omega) with hx | ⟨r, hr, rfl⟩
  · rw [(isRec_out (M := M) h1 hx e29).1, (isRec_out (M := M) h1 hx e29).2]
    simp only [mw_b2]
    rw [if_neg (show ¬ ¬ True from fun z => z trivial), if_neg (show ¬ ¬ True from fun z => z trivial)]
    unfold pf_X9_stop_28
    simp only [mm_pf, Option.bind_some]
    rw [if_neg (show ¬ (va_up M.1 4 1) 4 ≤ 0 from (show ¬ (1 : Int32) ≤ 0 by decide))]
    exact ⟨1, 0, 0, S, _, rfl, rfl, by decide, rfl, fun z => absurd z (by decide), h0.t (m4_f M 1), sm_p.rf _ S⟩
  · rw [(isRec_in (M := M) h1 hr hnr e29).1, (isRec_in (M := M) h1 hr hnr e29).2]
    obtain ⟨la, f, g', q1, q2, q3, q4, q5⟩ := hrc r (by omega)
    simp only [mw_b2]
    rw [if_pos (show ¬ (1 : Int32) = 0 by decide), if_pos (show ¬ (1 : Int32) = 0 by decide)]
    simp only [gr_q (k := 7) h1 rfl, aq_q a1 (show r < 4 by omega) (by decide) (a2 r (by omega)), Option.bind_some, v_q _ q1.1, rec_is q1, mw_b2, aim (k := 18) (j := r) (show r < 4 by omega) (by decide)]
    by_cases hst : M.2 18 r = 1
    · rw [if_pos hst, if_pos hst, if_pos (show ¬ (1 : Int32) = 0 by decide)]
      unfold pf_X9_stop_28
      simp only [mm_pf, Option.bind_some]
      rw [if_pos (show (va_up M.1 4 0) 4 ≤ 0 from (show (0 : Int32) ≤ 0 by decide))]
      obtain ⟨v, S', M', e1, e2, R', -, e4, -, s'⟩ := RR_end (N := N) (h0.t (m4_f M 0)) (show r < 4 by omega) hst hN
      rw [v_q _ h1, e1, e2]
      exact ⟨0, v, v, S', M', rfl, rfl, by decide, e4, fun _ => rfl, R', s'⟩
    · rw [if_neg hst, if_neg hst, if_neg (show ¬ ¬ (0 : Int32) = 0 by decide)]
      unfold pf_X9_stop_28
      simp only [mm_pf, Option.bind_some]
      rw [if_neg (show ¬ (va_up M.1 4 2) 4 ≤ 0 from (show ¬ (2 : Int32) ≤ 0 by decide))]
      exact ⟨2, 0, 0, S, _, rfl, rfl, by decide, rfl, fun z => absurd z (by decide), h0.t (m4_f M 2), sm_p.rf _ S⟩
/-- a recording is shut, on both sides -/
theorem RR_shut (h : RR G b p kl sz kc S M) {r : Nat} (hr : r < 4) : ∃ S' M', pf_X5_shut G N S (b + 22 + 3 * r) = some S' ∧ mm_si M 18 (nI r) 3 = some M' ∧ RR G b p kl sz kc S' M' ∧ M'.1 = M.1 ∧ (∃ fs, S.1 (b + 22 + 3 * r) = some (.inr (5, fs))) ∧ sm_p (cl_X b p kl) S S' := by
  have h0 := h
  obtain ⟨bf, ch, h1, h2, h3, h4, h5, h6, h7, h8, h9, h10, h11, h12, h13⟩ := h
  obtain ⟨la, f, g', q1, q2, q3, q4, q5⟩ := h6.2.2 r hr
  obtain ⟨S', y1, y2, y3⟩ := rec_shut (N := N) q1
  have hf : fm [4] [18, 19, 20, 21, 22] M (M.1, va_up M.2 18 (upd (M.2 18) r 3)) := (fm.rf [4] [18, 19, 20, 21, 22] M).si (k := 18) (by decide) _
  have v18 : ((M.1, va_up M.2 18 (upd (M.2 18) r 3)) : mm_M).2 18 = upd (M.2 18) r 3 := rfl
  refine ⟨S', _, y1, sim (k := 18) (j := r) _ hr (by decide), h0.rc hr y3 hf (fun u hu => ⟨by rw [v18, pk_un hu], rfl, rfl⟩) (fun u t _ hu ht => ⟨rfl, rfl⟩) ⟨la, f, g', ?_, q2, ?_, ?_, ?_⟩, rfl, ⟨_, q1.1⟩, st_cl hr y3⟩
  · rw [v18, pk_us]; exact y2
  · intro z; rw [v18, pk_us] at z; rcases z with z | z <;> exact absurd z (by decide)
  · intro z; rw [v18, pk_us] at z; exact absurd z (by decide)
  · rw [v18, pk_us]; exact Or.inr (Or.inr (Or.inr rfl))
theorem op_close (h : RR G b p kl sz kc S M) (x : Int32) (hN : 700 ≤ N) : OPt G b p kl sz kc S (pf_X8_close G N S b x) (pf_X9_close G N M x) := by
  have h0 := h
  obtain ⟨bf, ch, h1, h2, h3, h4, h5, h6, h7, h8, h9, h10, h11, h12, h13⟩ := h
  obtain ⟨⟨g, a1, a2⟩, ⟨nr, hnr, e29⟩, hrc⟩ := h6
  rw [e29] at h1
  unfold pf_X8_close pf_X9_close
  simp only [v_q _ h1]
  rcases ix x (n := nr) (by omega) with hx | ⟨r, hr, rfl⟩
  · rw [(isRec_out (M := M) h1 hx e29).1, (isRec_out (M := M) h1 hx e29).2]
    simp only [mw_b2]
    rw [if_neg (show ¬ ¬ True from fun z => z trivial), if_neg (show ¬ ¬ True from fun z => z trivial)]
    unfold pf_X9_close_28
    simp only [mm_pf, Option.bind_some]
    rw [if_neg (show ¬ (va_up M.1 4 1) 4 ≤ 0 from (show ¬ (1 : Int32) ≤ 0 by decide)), if_pos z0]
    exact ⟨1, 0, 0, S, _, rfl, rfl, by decide, rfl, fun z => absurd z (by decide), h0.t (m4_f M 1), sm_p.rf _ S⟩
  · rw [(isRec_in (M := M) h1 hr hnr e29).1, (isRec_in (M := M) h1 hr hnr e29).2]
    obtain ⟨la, f, g', q1, q2, q3, q4, q5⟩ := hrc r (by omega)
    simp only [mw_b2]
    rw [if_pos (show ¬ (1 : Int32) = 0 by decide), if_pos (show ¬ (1 : Int32) = 0 by decide)]
    simp only [gr_q (k := 7) h1 rfl, aq_q a1 (show r < 4 by omega) (by decide) (a2 r (by omega)), Option.bind_some, v_q _ q1.1, rec_is q1, mw_b2, aim (k := 18) (j := r) (show r < 4 by omega) (by decide)]
    by_cases hst : M.2 18 r = 3
    · rw [if_pos hst, if_neg (show ¬ (1 : Int32) = 0 by decide), if_neg (fun z => z hst)]
      unfold pf_X9_close_28
      simp only [mm_pf, Option.bind_some]
      rw [if_neg (show ¬ (va_up M.1 4 2) 4 ≤ 0 from (show ¬ (2 : Int32) ≤ 0 by decide)), if_pos z0]
      exact ⟨2, 0, 0, S, _, rfl, rfl, by decide, rfl, fun z => absurd z (by decide), h0.t (m4_f M 2), sm_p.rf _ S⟩
    · rw [if_neg hst, if_pos rfl, if_pos hst]
      unfold pf_X9_close_28
      simp only [mm_pf, Option.bind_some]
      rw [if_pos (show (va_up M.1 4 0) 4 ≤ 0 from (show (0 : Int32) ≤ 0 by decide))]
      simp only [aim (k := 18) (j := r) (show r < 4 by omega) (by decide), Option.bind_some]
      unfold pf_X8_close_59 pf_X9_close_55 pf_X9_close_66
      have Rm := h0.t (m4_f M 0)
      by_cases hs1 : M.2 18 r = 1
      · rw [if_pos hs1, if_neg (show ¬ (1 : Int32) = 0 by decide), if_neg (fun z => z hs1), if_neg (show ¬ (1 : Int32) = 0 by decide)]
        obtain ⟨v, S1, M1, e1, e2, R1, -, e4, -, s1⟩ := RR_end (N := N) Rm (show r < 4 by omega) hs1 hN
        obtain ⟨S2, M2, y1, y2, R2, y3, ⟨fs, hfs⟩, s2⟩ := RR_shut (N := N) R1 (show r < 4 by omega)
        simp only [v_q _ h1, e1, e2, mw_b2, v_q _ hfs, y1, y2, Option.bind_some, if_pos z1]
        exact ⟨0, 1, 1, S2, M2, rfl, rfl, by decide, by rw [y3]; exact e4, fun _ => rfl, R2, s1.tr s2⟩
      · rw [if_neg hs1, if_pos rfl, if_pos hs1, if_pos rfl]
        obtain ⟨S2, M2, y1, y2, R2, y3, ⟨fs, hfs⟩, s2⟩ := RR_shut (N := N) Rm (show r < 4 by omega)
        simp only [v_q _ hfs, y1, y2, Option.bind_some, if_pos z0]
        exact ⟨0, 0, 0, S2, M2, rfl, rfl, by decide, by rw [y3]; rfl, fun _ => rfl, R2, s2⟩
end OPR
