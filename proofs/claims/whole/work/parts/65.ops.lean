/-! count, type, record, flush -/
section OPC
variable {G : Nat → ClassId} {N b p kl sz kc : Nat} {S : mw_M} {M : mm_M}
theorem b_1 : ∀ i, i < 32 → bt 1 i = decide (i = 0) := by decide
theorem nar_b (y : Int32) : vp_nar .boolean y = 0 ∨ vp_nar .boolean y = 1 := by
  have e : vp_nar .boolean y = y &&& 1 := rfl
  rw [e]
  cases hy : bt y 0
  · left
    refine b_ext (fun i hi => ?_)
    rw [b_and, b_1 i hi, b_0]
    by_cases h0 : i = 0
    · subst h0; rw [hy]; rfl
    · rw [decide_eq_false h0, Bool.and_false]
  · right
    refine b_ext (fun i hi => ?_)
    rw [b_and, b_1 i hi]
    by_cases h0 : i = 0
    · subst h0; rw [hy]; rfl
    · rw [decide_eq_false h0, Bool.and_false]
theorem op_count (h : RR G b p kl sz kc S M) (x : Int32) : OPi G b p kl sz kc S (pf_X8_count G N S b x) (pf_X9_count G N M x) := by
  have h0 := h
  obtain ⟨A, ⟨fs1, hfs1⟩, ⟨fs2, hfs2⟩, o1, o2⟩ := RR_num (N := N) h
  obtain ⟨bf, ch, h1, h2, h3, h4, h5, h6, h7, h8, h9, h10, h11, h12, h13⟩ := h
  obtain ⟨kp, ad, L, X, Y, Z, U, cs, e19, hkp, hold, hL, hX, hrest⟩ := h8
  obtain ⟨-, hD, -, -, ⟨u1, u2, u3, u4, u5, u6⟩, -⟩ := h11
  obtain ⟨fi, fu, pb, po, e18, -⟩ := h7
  obtain ⟨ns, e10, st, -⟩ := h3
  have hc := cs.2.2.2.2 kp hkp
  have co := cs_open (N := N) cs hkp (by omega)
  have a11 : ∀ M : mm_M, mm_ai M 11 6 = some (M.2 11 6) := fun M => aim (M := M) (k := 11) (j := 6) (by decide) (by decide)
  have a12 : ∀ M : mm_M, mm_ai M 12 6 = some (M.2 12 6) := fun M => aim (M := M) (k := 12) (j := 6) (by decide) (by decide)
  have fin : ∀ v : Int32, OPi G b p kl sz kc S (some (v, S)) (some (v, (va_up M.1 4 0, M.2))) := fun v => ⟨v, S, _, rfl, rfl, h0.t (m4_f M 0), sm_p.rf _ S⟩
  unfold pf_X8_count pf_X9_count
  simp only [mm_pf, Option.bind_some]
  by_cases x0 : x = 0
  · subst x0
    rw [if_pos rfl, if_neg (show ¬ (3 : Int32) ≤ 0 by decide), if_neg (show ¬ ¬ (0 : Int32) = 0 by decide)]
    simp only [gr_q (k := 9) h1 rfl, Option.bind_some, v_q _ po.1, po_full po, mw_b2]
    rw [← e18]
    exact fin _
  by_cases x1 : x = 1
  · subst x1
    rw [if_neg x0, if_pos rfl, if_neg (show ¬ (3 : Int32) ≤ 1 by decide), if_pos x0, if_neg (show ¬ ¬ (1 : Int32) = 1 by decide)]
    simp only [gr_q (k := 10) h1 rfl, Option.bind_some, v_q _ cs.1, co, mw_b2, v_q _ hc.1, ck_num hc, a12, hX]
    exact fin _
  by_cases x2 : x = 2
  · subst x2
    rw [if_neg x0, if_neg x1, if_pos rfl, if_neg (show ¬ (3 : Int32) ≤ 2 by decide), if_pos x0, if_pos x1, if_neg (show ¬ ¬ (2 : Int32) = 2 by decide)]
    simp only [gr_q (k := 10) h1 rfl, Option.bind_some, v_q _ cs.1, co, mw_b2, v_q _ hc.1, ck_body hc, v_q _ hc.2.2.1, br_length hc.2.2, a11, hL, (hD 6 (by decide)).1]
    exact fin _
  by_cases x3 : x = 3
  · subst x3
    rw [if_neg x0, if_neg x1, if_neg x2, if_pos rfl, if_pos (show (3 : Int32) ≤ 3 by decide), if_neg (show ¬ ¬ (3 : Int32) = 3 by decide)]
    simp only [gr_q (k := 10) h1 rfl, Option.bind_some, v_q _ cs.1, cs_kept cs, mw_b2]
    rw [← e19]
    exact fin _
  by_cases x4 : x = 4
  · subst x4
    rw [if_neg x0, if_neg x1, if_neg x2, if_neg x3, if_pos rfl, if_pos (show (3 : Int32) ≤ 4 by decide), if_pos x3, if_neg (show ¬ ¬ (4 : Int32) = 4 by decide)]
    simp only [gr_q (k := 10) h1 rfl, Option.bind_some, v_q _ cs.1, cs_evd cs, mw_b2]
    exact fin _
  by_cases x5 : x = 5
  · subst x5
    rw [if_neg x0, if_neg x1, if_neg x2, if_neg x3, if_neg x4, if_pos rfl, if_pos (show (3 : Int32) ≤ 5 by decide), if_pos x3, if_pos x4, if_neg (show ¬ ¬ (5 : Int32) = 5 by decide)]
    unfold pf_X6_used
    simp only [gr_q (k := 2) h1 rfl, Option.bind_some, v_q _ st.1, gi_q (k := 2) st.1 rfl, mw_b2]
    rw [← e10]
    exact fin _
  rw [if_neg x0, if_neg x1, if_neg x2, if_neg x3, if_neg x4, if_neg x5]
  by_cases h3x : (3 : Int32) ≤ x
  · rw [if_pos h3x, if_pos x3, if_pos x4, if_pos x5]; exact fin _
  · rw [if_neg h3x, if_pos x0, if_pos x1, if_pos x2]; exact fin _
theorem op_type (h : RR G b p kl sz kc S M) (x y : Int32) : OPt G b p kl sz kc S (pf_X8_type G N S b x y) (pf_X9_type G N M x y) := by
  have h0 := h
  obtain ⟨bf, ch, h1, h2, h3, h4, h5, h6, h7, h8, h9, h10, h11, h12, h13⟩ := h
  obtain ⟨t1, t2, nt, hnt, e7, t3⟩ := h5
  have bad : ∀ (k : Nat), k = 1 ∨ k = 2 → OPt G b p kl sz kc S (some (k, 0, S)) (some (0, (va_up M.1 4 (nI k), M.2))) := fun k hk => ⟨k, 0, 0, S, _, rfl, rfl, by omega, rfl, fun z => by omega, h0.t (m4_f M _), sm_p.rf _ S⟩
  unfold pf_X8_type pf_X9_type pf_X8_type_9 pf_X9_type_10
  have bm : ∀ (k : Nat) (hk : k = 1 ∨ k = 2), pf_X9_type_28 G N x y (nI k) M = some (0, (va_up M.1 4 (nI k), M.2)) := fun k hk => by
    unfold pf_X9_type_28
    simp only [mm_pf, Option.bind_some]
    rw [if_neg (show ¬ (va_up M.1 4 (nI k)) 4 ≤ 0 from (show ¬ nI k ≤ 0 from nI_nle (by omega) (by omega)))]
  by_cases hx : x < 0
  · rw [if_pos hx, if_pos hx]
    have := bm 1 (Or.inl rfl)
    rw [show nI 1 = 1 from rfl] at this
    rw [this]
    exact bad 1 (Or.inl rfl)
  rw [if_neg hx, if_neg hx]
  by_cases hx3 : x ≤ 3
  · rw [if_pos hx3, if_pos hx3]
    rw [e7] at h1
    simp only [gi_q (k := 6) h1 rfl, Option.bind_some]
    by_cases hn6 : nt = 6
    · subst hn6
      rw [if_neg (show ¬ nI 6 < 6 by decide), e7, if_neg (show ¬ ¬ nI 6 = 6 by decide)]
      have := bm 2 (Or.inr rfl)
      rw [show nI 2 = 2 from rfl] at this
      rw [this]
      exact bad 2 (Or.inr rfl)
    · rw [if_pos (show nI nt < 6 from nI_lt (b := 6) (by omega) (by decide)), e7, if_pos (show ¬ nI nt = 6 from fun z => hn6 ((nI_eq (b := 6) (by omega) (by decide)).mp z))]
      have hnt6 : nt < 6 := by omega
      generalize hS1 : mw_up S (b + 19) (.inl (G 0, 6, .inl (upd (M.2 1) nt x))) = S1
      have g1 : g_main S1 b p kl sz (nI nt) (M.1 29) (M.1 3) := by rw [← hS1]; exact (up_n _ _ (by omega)).trans h1
      have g2 : S1.1 (b + 20) = some (.inl (G 3, 6, .inl (M.2 2))) := by rw [← hS1]; exact (up_n _ _ (by omega)).trans t2
      have g3 : S1.1 (b + 19) = some (.inl (G 0, 6, .inl (upd (M.2 1) nt x))) := by rw [← hS1]; exact up_s _ _ _
      generalize hS2 : mw_up S1 (b + 20) (.inl (G 3, 6, .inl (upd (M.2 2) nt (vp_nar .boolean y)))) = S2
      have k1 : g_main S2 b p kl sz (nI nt) (M.1 29) (M.1 3) := by rw [← hS2]; exact (up_n _ _ (by omega)).trans g1
      have k2 : S2.1 (b + 20) = some (.inl (G 3, 6, .inl (upd (M.2 2) nt (vp_nar .boolean y)))) := by rw [← hS2]; exact up_s _ _ _
      have k3 : S2.1 (b + 19) = some (.inl (G 0, 6, .inl (upd (M.2 1) nt x))) := by rw [← hS2]; exact (up_n _ _ (by omega)).trans g3
      generalize hS3 : mw_up S2 b (.inr (8, (mainL b p kl sz (nI nt) (M.1 29) (M.1 3)).set 6 (.int (nI (nt + 1))))) = S3
      have m1 : g_main S3 b p kl sz (nI (nt + 1)) (M.1 29) (M.1 3) := by rw [← hS3]; exact up_s _ _ _
      have m2 : S3.1 (b + 20) = some (.inl (G 3, 6, .inl (upd (M.2 2) nt (vp_nar .boolean y)))) := by rw [← hS3]; exact (up_n _ _ (by omega)).trans k2
      have m3 : S3.1 (b + 19) = some (.inl (G 0, 6, .inl (upd (M.2 1) nt x))) := by rw [← hS3]; exact (up_n _ _ (by omega)).trans k3
      have hs : sm_p (fun q => (b ≤ q ∧ q < b + 1) ∨ (b + 19 ≤ q ∧ q < b + 21)) S S3 := by
        rw [← hS3, ← hS2, ← hS1]
        exact (((sm_p.rf _ S).up _ (Or.inr (by constructor <;> omega))).up _ (Or.inr (by constructor <;> omega))).up _ (Or.inl (by constructor <;> omega))
      have p1 := pf_q (.int (nI (nt + 1))) k1 (k := 6) (Nat.le_of_ble_eq_true rfl)
      rw [hS3] at p1
      unfold pf_X9_type_28
      simp only [gr_q (k := 4) h1 rfl, si_q _ t1 hnt6 (by decide), hS1, Option.bind_some, gr_q (k := 5) g1 rfl, gi_q (k := 6) g1 rfl, si_q _ g2 hnt6 (by decide), hS2, gi_q (k := 6) k1 rfl, nI_1, p1, gi_q (k := 6) m1 rfl, nI_pred, mm_pf]
      rw [if_pos (show (va_up M.1 4 0) 4 ≤ 0 from (show (0 : Int32) ≤ 0 by decide))]
      have e7' : (va_up M.1 4 0) 7 = nI nt := e7
      simp only [e7', sim (k := 1) (j := nt) _ (show nt < 6 by omega) (by decide), sim (k := 2) (j := nt) _ (show nt < 6 by omega) (by decide), Option.bind_some, nI_1]
      generalize hM' : ((va_up (va_up M.1 4 0) 7 (nI (nt + 1)), va_up (va_up M.2 1 (upd (M.2 1) nt x)) 2 (upd (va_up M.2 1 (upd (M.2 1) nt x) 2) nt (vp_nar .boolean y))) : mm_M) = M'
      have hf : fm [4, 7] [1, 2] M M' := by rw [← hM']; exact ((((fm.rf [4, 7] [1, 2] M).pf (j := 4) (by decide) 0).si (k := 1) (by decide) _).si (k := 2) (by decide) _).pf (j := 7) (by decide) _
      have v7 : M'.1 7 = nI (nt + 1) := by rw [← hM']; rfl
      have v1 : M'.2 1 = upd (M.2 1) nt x := by rw [← hM']; rfl
      have v2 : M'.2 2 = upd (M.2 2) nt (vp_nar .boolean y) := by rw [← hM']; rfl
      have v4 : M'.1 4 = 0 := by rw [← hM']; rfl
      refine ⟨0, nI nt, nI nt, S3, M', rfl, ?_, by decide, v4, fun _ => rfl, ⟨bf, ch, ?g_main, h2.k hs (fun q z1 z2 w => by rcases w with ⟨w1, w2⟩ | ⟨w1, w2⟩ <;> omega) hf (by decide) (by decide), h3.k hs (fun q z1 z2 w => by rcases w with ⟨w1, w2⟩ | ⟨w1, w2⟩ <;> omega) hf (by decide) (by decide) (by decide), h4.k hs (fun q z1 z2 w => by rcases w with ⟨w1, w2⟩ | ⟨w1, w2⟩ <;> omega) hf (by decide) (by decide) (by decide) (by decide), ?g_typ, h6.k hs (fun q z1 z2 w => by rcases w with ⟨w1, w2⟩ | ⟨w1, w2⟩ <;> omega) hf (by decide) (by decide) (by decide) (by decide) (by decide) (by decide), h7.k hs (fun q z1 z2 w => by rcases w with ⟨w1, w2⟩ | ⟨w1, w2⟩ <;> omega) hf (by decide) (by decide), h8.k hs (fun q z1 z2 w => by rcases w with ⟨w1, w2⟩ | ⟨w1, w2⟩ <;> omega) hf (by decide) (by decide) (by decide) (by decide) (by decide) (by decide) (by decide) (by decide), h9.k hs (fun q z1 z2 w => by rcases w with ⟨w1, w2⟩ | ⟨w1, w2⟩ <;> omega), h10.k hs (fun q z1 z2 w => by rcases w with ⟨w1, w2⟩ | ⟨w1, w2⟩ <;> omega) hf (by decide) (by decide), h11.k hf (by decide) (by decide) (by decide) (by decide) (by decide) (by decide) (by decide) (by decide) (by decide), h12.k hf (by decide), h13⟩, hs.wd (fun q hq => by rcases hq with ⟨w1, w2⟩ | ⟨w1, w2⟩ <;> constructor <;> omega)⟩
      · rw [show (va_up (va_up M.1 4 0) 7 (nI (nt + 1))) 7 - 1 = nI nt from (show nI (nt + 1) - 1 = nI nt from nI_pred nt)]
      case g_main => rw [v7, hf.1 29 (by decide), hf.1 3 (by decide)]; exact m1
      case g_typ =>
        refine ⟨by rw [v1]; exact m3, by rw [v2]; exact m2, nt + 1, by omega, v7, fun t ht => ?_⟩
        rw [v1, v2]
        by_cases htn : t = nt
        · subst htn
          rw [pk_us, pk_us]
          obtain ⟨j, hj, rfl⟩ := nI_of2 (x := x) (M := 3) (n := 3) (by decide) hx hx3
          refine ⟨⟨j, hj, rfl⟩, ?_⟩
          exact nar_b y
        · rw [pk_un htn, pk_un htn]
          exact t3 t (by omega)
  · rw [if_neg hx3, if_neg hx3]
    have := bm 1 (Or.inl rfl)
    rw [show nI 1 = 1 from rfl] at this
    rw [this]
    exact bad 1 (Or.inl rfl)
/-- record: the class's exception is of the second kind, the reference's number 1 -/
theorem op_record (h : RR G b p kl sz kc S M) : (∃ r S' M', pf_X8_record G N S b = some (0, r, S') ∧ pf_X9_record G N M = some (r, M') ∧ M'.1 4 = 0 ∧ RR G b p kl sz kc S' M' ∧ sm_p (cl_X b p kl) S S') ∨ (∃ M', pf_X8_record G N S b = some (2, 0, S) ∧ pf_X9_record G N M = some (0, M') ∧ M'.1 4 = 1 ∧ RR G b p kl sz kc S M') := by
  have h0 := h
  obtain ⟨bf, ch, h1, h2, h3, h4, h5, h6, h7, h8, h9, h10, h11, h12, h13⟩ := h
  obtain ⟨ra, ⟨nr, hnr, e29⟩, hrc⟩ := h6
  rw [e29] at h1
  unfold pf_X8_record pf_X9_record pf_X9_record_14
  simp only [gi_q (k := 8) h1 rfl, Option.bind_some, e29, mm_pf]
  by_cases hn : nr = 4
  · subst hn
    right
    rw [if_neg (show ¬ nI 4 < 4 by decide), if_neg (show ¬ ¬ nI 4 = 4 by decide), if_neg (show ¬ (va_up M.1 4 1) 4 ≤ 0 from (show ¬ (1 : Int32) ≤ 0 by decide))]
    exact ⟨_, rfl, rfl, rfl, h0.t (m4_f M 1)⟩
  · left
    rw [if_pos (show nI nr < 4 from nI_lt (b := 4) (by omega) (by decide)), if_pos (show ¬ nI nr = 4 from fun z => hn ((nI_eq (b := 4) (by omega) (by decide)).mp z)), if_pos (show (va_up M.1 4 0) 4 ≤ 0 from (show (0 : Int32) ≤ 0 by decide))]
    generalize hS' : mw_up S b (.inr (8, (mainL b p kl sz (M.1 7) (nI nr) (M.1 3)).set 8 (.int (nI (nr + 1))))) = S'
    have g1 : g_main S' b p kl sz (M.1 7) (nI (nr + 1)) (M.1 3) := by rw [← hS']; exact up_s _ _ _
    have hs : sm_p (fun q => b ≤ q ∧ q < b + 1) S S' := by rw [← hS']; exact (sm_p.rf _ S).up _ (by constructor <;> omega)
    have p1 := pf_q (.int (nI (nr + 1))) h1 (k := 8) (Nat.le_of_ble_eq_true rfl)
    rw [hS'] at p1
    have e29' : (va_up M.1 4 0) 29 = nI nr := e29
    simp only [nI_1, p1, Option.bind_some, gi_q (k := 8) g1 rfl, nI_pred, e29']
    generalize hM' : ((va_up (va_up M.1 4 0) 29 (nI (nr + 1)), M.2) : mm_M) = M'
    have hf : fm [4, 29] [] M M' := by rw [← hM']; exact ((fm.rf [4, 29] [] M).pf (j := 4) (by decide) 0).pf (j := 29) (by decide) _
    have v29 : M'.1 29 = nI (nr + 1) := by rw [← hM']; rfl
    refine ⟨nI nr, S', M', rfl, ?_, by rw [← hM']; rfl, ⟨bf, ch, ?g_main, h2.k hs (fun q z1 z2 w => by obtain ⟨w1, w2⟩ := w; omega) hf (by decide) (by decide), h3.k hs (fun q z1 z2 w => by obtain ⟨w1, w2⟩ := w; omega) hf (by decide) (by decide) (by decide), h4.k hs (fun q z1 z2 w => by obtain ⟨w1, w2⟩ := w; omega) hf (by decide) (by decide) (by decide) (by decide), h5.k hs (fun q z1 z2 w => by obtain ⟨w1, w2⟩ := w; omega) hf (by decide) (by decide) (by decide), ?g_rec, h7.k hs (fun q z1 z2 w => by obtain ⟨w1, w2⟩ := w; omega) hf (by decide) (by decide), h8.k hs (fun q z1 z2 w => by obtain ⟨w1, w2⟩ := w; omega) hf (by decide) (by decide) (by decide) (by decide) (by decide) (by decide) (by decide) (by decide), h9.k hs (fun q z1 z2 w => by obtain ⟨w1, w2⟩ := w; omega), h10.k hs (fun q z1 z2 w => by obtain ⟨w1, w2⟩ := w; omega) hf (by decide) (by decide), h11.k hf (by decide) (by decide) (by decide) (by decide) (by decide) (by decide) (by decide) (by decide) (by decide), h12.k hf (by decide), h13⟩, hs.wd (fun q hq => by obtain ⟨w1, w2⟩ := hq; constructor <;> omega)⟩
    · rw [show (va_up (va_up M.1 4 0) 29 (nI (nr + 1))) 29 - 1 = nI nr from (show nI (nr + 1) - 1 = nI nr from nI_pred nr)]
    case g_main => rw [v29, hf.1 7 (by decide), hf.1 3 (by decide)]; exact g1
    case g_rec =>
      refine ⟨ra.sm hs (by rintro ⟨w1, w2⟩; omega), ⟨nr + 1, by omega, v29⟩, fun r hr => (hrc r hr).k hs (fun q z1 z2 w => by obtain ⟨w1, w2⟩ := w; omega) (by rw [hf.2 18 (by decide)]) (fun t ht => ⟨by rw [hf.2 19 (by decide)], by rw [hf.2 20 (by decide)]⟩) (by rw [hf.2 21 (by decide)]) (by rw [hf.2 22 (by decide)])⟩
theorem esum_mv (e : Nat → Int32) {c : Nat} (h3 : 3 ≤ c) (h6 : c < 6) (h0 : e c = 0) : esum (upd (upd e c (e (c + 1))) (c + 1) 0) = esum e := by
  have h : c = 3 ∨ c = 4 ∨ c = 5 := by omega
  rcases h with rfl | rfl | rfl <;> simp [esum, upd, h0]
theorem md_shift {fu : Nat} (hfu : fu ≤ 4) (y : Int32) (f : Nat) (hN : 61 ≤ N) : ∀ (n k : Nat) (Mk : mm_M) (bk : Nat → List Int32), 1 ≤ k → k + n = fu → Mk.1 18 = nI fu → mbs Mk bk → bk (2 + k) = [] → Mk.2 9 (2 + k) = 0 → ∃ M' bk', pf_X9_flush_22 G N (n + f + 1) y (nI k) Mk = pf_X9_flush_22 G N (f + 1) y (nI fu) M' ∧ mbs M' bk' ∧ (∀ i, 2 + k ≤ i → i < 2 + fu → bk' i = bk (i + 1) ∧ M'.2 9 i = Mk.2 9 (i + 1)) ∧ bk' (2 + fu) = [] ∧ M'.2 9 (2 + fu) = 0 ∧ (∀ i, i < 2 + k ∨ 2 + fu < i → bk' i = bk i ∧ M'.2 9 i = Mk.2 9 i) ∧ esum (M'.2 9) = esum (Mk.2 9) ∧ fm [] [7, 8, 9] Mk M' := by
  intro n
  induction n with
  | zero =>
    intro k Mk bk hk1 hk h18 hB h0 h9
    have : k = fu := by omega
    subst this
    exact ⟨Mk, bk, by rw [Nat.zero_add], hB, fun i h1 h2 => absurd h2 (by omega), h0, h9, fun i _ => ⟨rfl, rfl⟩, rfl, fm.rf _ _ Mk⟩
  | succ n ih =>
    intro k Mk bk hk1 hk h18 hB h0 h9
    rw [show n + 1 + f + 1 = (n + f + 1) + 1 by omega, pf_X9_flush_22, h18, if_neg (nI_ge (by omega) (by omega)), show (3 : Int32) + nI k = nI (3 + k) by rw [show (3 : Int32) = nI 3 from rfl, nI_add], show (2 : Int32) + nI k = nI (2 + k) by rw [show (2 : Int32) = nI 2 from rfl, nI_add]]
    obtain ⟨M1, e1, b1, g9, f1⟩ := md_move (G := G) (N := N) hB (show 3 + k < 7 by omega) (show 2 + k < 7 by omega) (by omega) hN
    simp only [e1, Option.bind_some, nI_1]
    have hk3 : 3 + k = 2 + k + 1 := by omega
    obtain ⟨M', bk', e2, b2, c1, c2, c3, c4, c5, f2⟩ := ih (k + 1) M1 _ (by omega) (by omega) ((f1.1 18 (by simp)).trans h18) b1 (by rw [show 2 + (k + 1) = 3 + k by omega, va_up_self]) (by rw [g9, show 2 + (k + 1) = 3 + k by omega, pk_us])
    refine ⟨M', bk', e2, b2, fun i h1 h2 => ?_, c2, c3, fun i hi => ?_, ?_, f1.tr f2⟩
    · by_cases hi : i = 2 + k
      · subst hi
        have := c4 (2 + k) (Or.inl (by omega))
        rw [va_up_ne _ _ (by omega), va_up_self, g9, pk_un (by omega), pk_us] at this
        rw [← hk3]
        exact this
      · have := c1 i (by omega) h2
        rw [va_up_ne _ _ (by omega), va_up_ne _ _ (by omega), g9, pk_un (by omega), pk_un (by omega)] at this
        exact this
    · have := c4 i (by omega)
      rw [va_up_ne _ _ (by omega), va_up_ne _ _ (by omega), g9, pk_un (by omega), pk_un (by omega)] at this
      exact this
    · rw [c5, g9, hk3]
      exact esum_mv (Mk.2 9) (by omega) (by omega) h9
theorem op_flush (h : RR G b p kl sz kc S M) (hN : 700 ≤ N) : OPi G b p kl sz kc S (pf_X8_flush G N S b) (pf_X9_flush G N M) := by
  have h0 := h
  obtain ⟨bf, ch, h1, h2, h3, h4, h5, h6, h7, h8, h9, h10, h11, h12, h13⟩ := h
  obtain ⟨kp, ad, L, X, Y, Z, U, cs, e19, hkp, hold, hL, hX, hY, hZ, hU⟩ := h8
  have h11' := h11
  obtain ⟨hB, hD, ⟨m0, m1, m2⟩, hbl, ⟨u1, u2, u3, u4, u5, u6⟩, hbb, hcb, hlo⟩ := h11
  obtain ⟨fi, fu, pb, po, e18, hfp, hfi, hring, hfree, hfb⟩ := h7
  have hc := cs.2.2.2.2 kp hkp
  have co := cs_open (N := N) cs hkp (by omega)
  obtain ⟨jA, hjA, hA⟩ := cs.2.2.1 kp hkp
  have hcb594 := cbs_le u1 u5
  have e18' : (va_up M.1 4 0) 18 = nI fu := e18
  unfold pf_X8_flush pf_X9_flush
  simp only [gr_q (k := 10) h1 rfl, gr_q (k := 9) h1 rfl, Option.bind_some, v_q _ cs.1, co, mw_b2, v_q _ hc.1, ck_body hc, v_q _ po.1, mm_pf, e18']
  cases fu with
  | zero =>
    rw [po_move0 po, if_neg (show ¬ ¬ nI 0 = 0 by decide)]
    simp only [v_q _ hc.1, ck_body hc, v_q _ hc.2.2.1, br_length hc.2.2, hL]
    rw [if_pos (show nI (ch 6).length ≤ 150 from nI_le (b := 150) h13 (by decide))]
    exact ⟨0, S, _, rfl, rfl, h0.t (m4_f M 0), sm_p.rf _ S⟩
  | succ fu =>
    have hfi' : fi < p := by omega
    have hb0 : pb fi = bf 3 := by
      have := hring 0 (by omega)
      rw [Nat.add_zero, Nat.mod_eq_of_lt hfi'] at this
      exact this
    have hl3 : (bf 3).length ≤ sz := hbl 3 (by omega)
    rw [hL] at hc
    have hcbs : 150 + (p + 3) * sz + 24 = cbs p sz := rfl
    have hsz3 : sz ≤ (p + 3) * sz := Nat.le_mul_of_pos_left sz (by omega)
    obtain ⟨S1, e1, p1, r1, s1⟩ := po_move (N := N) po hc.2.2 (by omega) u1 hfi' (by omega) (by rw [hb0]; omega) (by rw [hb0]; omega)
    rw [hb0] at e1 r1
    have ck1 : ck_R G S1 (ad kp) (cbs p sz) (ch 6 ++ bf 3) (X kp) (Y kp) (Z kp) (U kp) := ⟨by rw [s1.1 _ (by intro w; rcases w with w | (w | w) <;> omega)]; exact hc.1, by rw [s1.1 _ (by intro w; rcases w with w | (w | w) <;> omega)]; exact hc.2.1, r1⟩
    have cs1 := cs_set2 cs hkp ck1 s1 (fun q z1 z2 w => by
      rcases w with w | (w | w)
      · omega
      · constructor <;> omega
      · constructor <;> omega)
    have hs1 : sm_p (rot_X b p kl) S S1 := s1.wd (fun q hq => by
      rcases hq with hq | (hq | hq)
      · right; constructor <;> omega
      · right; constructor <;> omega
      · right; constructor <;> omega)
    -- the reference
    generalize hM0 : ((va_up M.1 4 0, M.2) : mm_M) = M0
    have f0 : fm [4, 38] [24] M M0 := by rw [← hM0]; exact m4_f M 0
    have B0 : mbs M0 bf := by rw [← hM0]; exact hB
    have D0 : mds M0 ch := by rw [← hM0]; exact hD
    obtain ⟨M1, y1, B1, D1, g9, g14, f1⟩ := md_drain (G := G) (N := N) B0 D0 (show 3 < 7 by omega) (by omega) (by omega)
    have y1' : pf_X9_drain G N M0 3 = some (nI (bf 3).length, M1) := y1
    have q18 : M1.1 18 = nI (fu + 1) := (f1.1 18 (by simp)).trans ((f0.1 18 (by decide)).trans e18)
    obtain ⟨M2, bk, y2, B2, c1, c2, c3, c4, c5, f2⟩ := md_shift (G := G) (N := N) (show fu + 1 ≤ 4 by omega) (nI (bf 3).length) (N - fu - 1) (by omega) fu 1 M1 _ (Nat.le_refl _) (by omega) q18 B1 (va_up_self _ _ _) (by rw [g9, pk_us])
    rw [show fu + (N - fu - 1) + 1 = N by omega] at y2
    have q18' : M2.1 18 = nI (fu + 1) := (f2.1 18 (by simp)).trans q18
    have z9 : M0.2 9 = M.2 9 := f0.2 9 (by decide)
    have z14 : M0.2 14 = M.2 14 := f0.2 14 (by decide)
    have D2 : mds M2 (va_up ch 6 (ch 6 ++ bf 3)) := fun i hi => by
      obtain ⟨r1, r2, r3⟩ := D1 i hi
      exact ⟨by rw [f2.2 11 (by decide)]; exact r1, r2, by rw [f2.2 10 (by decide)]; exact r3⟩
    rw [if_pos (show ¬ nI (fu + 1) = 0 from nI_ne0 (by omega) (by omega)), e1, y1']
    simp only [v_q _ ck1.1, ck_body ck1, v_q _ r1.1, br_length r1]
    rw [show (1 : Int32) = nI 1 from rfl, y2, show N - fu - 1 + 1 = (N - fu - 1) + 1 from rfl, pf_X9_flush_22, q18', if_pos (Int32.le_refl _)]
    have a11 : ∀ M : mm_M, mm_ai M 11 6 = some (M.2 11 6) := fun M => aim (M := M) (k := 11) (j := 6) (by decide) (by decide)
    simp only [mm_pf, Option.bind_some, a11, nI_pred]
    have hd6 : M2.2 11 6 = nI (ch 6 ++ bf 3).length := by have := (D2 6 (by decide)).1; rw [va_up_self] at this; exact this
    rw [hd6]
    generalize hM3 : ((va_up M2.1 18 (nI fu), M2.2) : mm_M) = M3
    have F : fm [4, 38, 18] [7, 8, 9, 10, 11, 14, 24] M M3 := by
      rw [← hM3]
      exact (((f0.wd (X' := [4, 38, 18]) (Y' := [7, 8, 9, 10, 11, 14, 24]) (by decide) (by decide)).tr (f1.wd (by simp) (by decide))).tr (f2.wd (by simp) (by decide))).pf (j := 18) (by decide) _
    have v18 : M3.1 18 = nI fu := by rw [← hM3]; rfl
    have v2 : M3.2 = M2.2 := by rw [← hM3]
    have hbk : ∀ i, i < 7 → (3 ≤ i → i < 3 + fu → bk i = bf (i + 1) ∧ M3.2 9 i = M.2 9 (i + 1)) ∧ (3 + fu ≤ i → bk i = [] ∧ M3.2 9 i = 0) ∧ (i < 3 → bk i = bf i ∧ M3.2 9 i = M.2 9 i) := fun i hi => by
      rw [v2]
      refine ⟨fun w1 w2 => ?_, fun w1 => ?_, fun w1 => ?_⟩
      · have := c1 i (by omega) (by omega)
        rw [va_up_ne _ _ (by omega), g9, z9, pk_un (by omega)] at this
        exact this
      · by_cases hi2 : i = 2 + (fu + 1)
        · rw [hi2]; exact ⟨c2, c3⟩
        · have := c4 i (Or.inr (by omega))
          rw [va_up_ne _ _ (by omega), g9, z9, pk_un (by omega)] at this
          rw [this.1, this.2]
          exact hfb i (by omega) hi
      · have := c4 i (Or.inl (by omega))
        rw [va_up_ne _ _ (by omega), g9, z9, pk_un (by omega)] at this
        exact this
    have hblk : ∀ i, i < 7 → (bk i).length ≤ sz ∧ bts (bk i) := fun i hi => by
      obtain ⟨w1, w2, w3⟩ := hbk i hi
      by_cases i3 : i < 3
      · rw [(w3 i3).1]; exact ⟨hbl i hi, hbb i hi⟩
      · by_cases i4 : i < 3 + fu
        · rw [(w1 (by omega) i4).1]; exact ⟨hbl (i + 1) (by omega), hbb (i + 1) (by omega)⟩
        · rw [(w2 (by omega)).1]; exact ⟨Nat.zero_le _, bts_nil⟩
    have hes : M3.2 14 6 + esum (M3.2 9) = M.2 14 6 + esum (M.2 9) := by
      rw [v2, c5, f2.2 14 (by decide), g14, g9, z9, z14, pk_us]
      exact esum_dr (M.2 9) (M.2 14 6) 3 (by omega)
    have h14 : ∀ i, i ≠ 6 → M3.2 14 i = M.2 14 i := fun i hi => by rw [v2, f2.2 14 (by decide), g14, pk_un hi, z14]
    -- the groups behind it
    have G1 : g_main S1 b p kl sz (M3.1 7) (M3.1 29) (M3.1 3) := by
      rw [F.1 7 (by decide), F.1 29 (by decide), F.1 3 (by decide)]
      exact h1.k hs1 (by intro w; rcases w with ⟨w1, w2⟩ | ⟨w1, w2⟩ <;> omega)
    have G4 : g_ths G S1 b sz M3 bk := by
      obtain ⟨ta, th⟩ := h4
      refine ⟨ta.sm s1 (by intro w; rcases w with w | (w | w) <;> omega), fun t ht => ?_⟩
      obtain ⟨f, w1, w2⟩ := th t ht
      refine ⟨f, ?_, fun i hi => by rw [F.2 6 (by decide)]; exact w2 i hi⟩
      rw [F.2 5 (by decide), F.2 16 (by decide), F.2 17 (by decide), ((hbk t (by omega)).2.2 ht).1]
      exact w1.sm s1 (by intro w; rcases w with w | (w | w) <;> omega) (by intro w; rcases w with w | (w | w) <;> omega) (by intro w; rcases w with w | (w | w) <;> omega) (by intro w; rcases w with w | (w | w) <;> omega)
    have hstep : ∀ j, j + 1 < p → va_up pb fi [] (((fi + 1) % p + j) % p) = pb ((fi + (j + 1)) % p) := fun j w => by
      rw [Nat.mod_add_mod, show fi + 1 + j = fi + (j + 1) by omega, va_up_ne _ _ (md_ne hfi' (by omega) w)]
    have hlast : va_up pb fi [] (((fi + 1) % p + (p - 1)) % p) = [] := by
      rw [Nat.mod_add_mod, show fi + 1 + (p - 1) = fi + p by omega, Nat.add_mod_right, Nat.mod_eq_of_lt hfi', va_up_self]
    have G7 : g_pool G S1 b p sz M3 bk := by
      refine ⟨(fi + 1) % p, fu, va_up pb fi [], p1, v18, by omega, Or.inr (Nat.mod_lt _ (by omega)), fun k hk => ?_, fun k w1 w2 => ?_, fun i w1 w2 => (hbk i w2).2.1 w1⟩
      · rw [hstep k (by omega), hring (k + 1) (by omega), ((hbk (3 + k) (by omega)).1 (by omega) (by omega)).1, show 3 + (k + 1) = 3 + k + 1 by omega]
      · by_cases hkp2 : k = p - 1
        · rw [hkp2]; exact hlast
        · rw [hstep k (by omega)]; exact hfree (k + 1) (by omega) (by omega)
    have G8 : g_chs G S1 b p kl sz M3 (va_up ch 6 (ch 6 ++ bf 3)) := by
      refine ⟨kp, ad, _, _, _, _, _, by rw [F.1 20 (by decide)]; exact cs1, (F.1 19 (by decide)).trans e19, hkp, fun i hi => ?_, ?_, ?_, ?_, ?_, fun s hs => ?_⟩
      · rw [va_up_ne _ _ (show i ≠ kp by omega), va_up_ne _ _ (show i ≠ kp by omega), va_up_ne _ _ (show i ≠ kp by omega), va_up_ne _ _ (show i ≠ kp by omega), va_up_ne _ _ (show i ≠ kp by omega), va_up_ne _ _ (show i ≠ 6 by omega), F.2 12 (by decide), F.2 13 (by decide), F.2 15 (by decide), F.1 10 (by decide), h14 i (by omega)]
        exact hold i hi
      · rw [va_up_self, va_up_self]
      · rw [va_up_self, F.2 12 (by decide)]; exact hX
      · rw [va_up_self, F.2 13 (by decide)]; exact hY
      · rw [va_up_self, hes]; exact hZ
      · rw [va_up_self, F.2 15 (by decide), F.1 10 (by decide)]; exact hU s hs
    have G11 : g_mod p kl sz kc M3 bk (va_up ch 6 (ch 6 ++ bf 3)) := by
      refine ⟨by rw [← hM3]; exact B2, by rw [← hM3]; exact D2, ⟨(F.1 0 (by decide)).trans m0, (F.1 1 (by decide)).trans m1, (F.1 2 (by decide)).trans m2⟩, fun i hi => (hblk i hi).1, ⟨u1, u2, u3, u4, u5, u6⟩, fun i hi => (hblk i hi).2, ⟨fun k w1 w2 i hi => ?_, ?_⟩, by rw [F.2 16 (by decide)]; exact hlo⟩
      · rw [va_up_ne _ _ (by omega)]
        exact hcb.1 k ((F.1 19 (by decide)).symm.trans w1) w2 i hi
      · rw [va_up_self]; exact bts_app hcb.2 (hbb 3 (by omega))
    have FF : fm [4, 38, 18] [7, 8, 9, 10, 11, 14, 24] M M3 := F
    by_cases hgt : (ch 6 ++ bf 3).length ≤ 150
    · rw [if_pos (show nI (ch 6 ++ bf 3).length ≤ 150 from nI_le (b := 150) hgt (by decide)), if_pos (show nI (ch 6 ++ bf 3).length ≤ 150 from nI_le (b := 150) hgt (by decide))]
      refine ⟨_, S1, M3, rfl, rfl, ⟨bk, va_up ch 6 (ch 6 ++ bf 3), ?g_main, h2.k hs1 (fun q z1 z2 w => by rcases w with ⟨w1, w2⟩ | ⟨w1, w2⟩ <;> omega) FF (by decide) (by decide), h3.k hs1 (fun q z1 z2 w => by rcases w with ⟨w1, w2⟩ | ⟨w1, w2⟩ <;> omega) FF (by decide) (by decide) (by decide), ?g_ths, h5.k hs1 (fun q z1 z2 w => by rcases w with ⟨w1, w2⟩ | ⟨w1, w2⟩ <;> omega) FF (by decide) (by decide) (by decide), h6.k hs1 (fun q z1 z2 w => by rcases w with ⟨w1, w2⟩ | ⟨w1, w2⟩ <;> omega) FF (by decide) (by decide) (by decide) (by decide) (by decide) (by decide), ?g_pool, ?g_chs, h9.k hs1 (fun q z1 z2 w => by rcases w with ⟨w1, w2⟩ | ⟨w1, w2⟩ <;> omega), h10.k hs1 (fun q z1 z2 w => by rcases w with ⟨w1, w2⟩ | ⟨w1, w2⟩ <;> omega) FF (by decide) (by decide), ?g_mod, h12.k FF (by decide), ?g_len⟩, rot_cl hs1⟩
      case g_main => exact G1
      case g_ths => exact G4
      case g_pool => exact G7
      case g_chs => exact G8
      case g_mod => exact G11
      case g_len => rw [va_up_self]; exact hgt
    · have hlen : (ch 6 ++ bf 3).length = (ch 6).length + (bf 3).length := List.length_append
      rw [if_neg (show ¬ nI (ch 6 ++ bf 3).length ≤ 150 from nI_ge (a := 150) (by omega) (by omega)), if_neg (show ¬ nI (ch 6 ++ bf 3).length ≤ 150 from nI_ge (a := 150) (by omega) (by omega))]
      obtain ⟨S4, M4, ch4, z1, z2, k4, k7, k8, k11, k6, kn, ks, kf⟩ := rotate2 (N := N) G1 G4 G7 G8 G11 (fun fu' w1 w2 => by
        have hff : fu' = fu := (nI_eq (by omega) (by omega)).mp (w1.symm.trans v18)
        subst hff
        rw [va_up_self]
        have := Nat.mul_le_mul_right sz hfp
        rw [Nat.add_mul] at this
        omega) hN
      rw [v_q _ G1, z1, z2]
      simp only [Option.bind_some]
      have hs4 := hs1.tr ks
      have F4 : fm [4, 38, 18, 19, 20] [7, 8, 9, 10, 11, 12, 13, 14, 15, 16, 24] M M4 := (F.wd (by decide) (by decide)).tr (kf.wd (by decide) (by decide))
      refine ⟨_, S4, M4, rfl, rfl, ⟨fun _ => [], ch4, (by rw [F4.1 7 (by decide), F4.1 29 (by decide), F4.1 3 (by decide)]; exact h1.k hs4 (by intro w; rcases w with ⟨w1, w2⟩ | ⟨w1, w2⟩ <;> omega)), h2.k hs4 (fun q z1 z2 w => by rcases w with ⟨w1, w2⟩ | ⟨w1, w2⟩ <;> omega) F4 (by decide) (by decide), h3.k hs4 (fun q z1 z2 w => by rcases w with ⟨w1, w2⟩ | ⟨w1, w2⟩ <;> omega) F4 (by decide) (by decide) (by decide), ?g_ths, h5.k hs4 (fun q z1 z2 w => by rcases w with ⟨w1, w2⟩ | ⟨w1, w2⟩ <;> omega) F4 (by decide) (by decide) (by decide), h6.k hs4 (fun q z1 z2 w => by rcases w with ⟨w1, w2⟩ | ⟨w1, w2⟩ <;> omega) F4 (by decide) (by decide) (by decide) (by decide) (by decide) (by decide), ?g_pool, ?g_chs, h9.k hs4 (fun q z1 z2 w => by rcases w with ⟨w1, w2⟩ | ⟨w1, w2⟩ <;> omega), h10.k hs4 (fun q z1 z2 w => by rcases w with ⟨w1, w2⟩ | ⟨w1, w2⟩ <;> omega) F4 (by decide) (by decide), ?g_mod, h12.k F4 (by decide), ?g_len⟩, rot_cl hs4⟩
      case g_ths => exact k4
      case g_pool => exact k7
      case g_chs => exact k8
      case g_mod => exact k11
      case g_len => rw [k6]; exact Nat.zero_le _
end OPC
