/-! the whole relation -/
def g_txt (G : Nat → ClassId) (S : mw_M) (b : Nat) (M : mm_M) : Prop := ∃ n, M.1 5 = nI n ∧ tx_R G S (b + 1) n (M.2 0)
def g_str (G : Nat → ClassId) (S : mw_M) (b : Nat) (M : mm_M) : Prop := ∃ ns, M.1 10 = nI ns ∧ st_R G S (b + 3) ns (M.2 3) (M.2 4) ∧ st_K ns (M.2 3) (M.2 4)
def g_typ (G : Nat → ClassId) (S : mw_M) (b : Nat) (M : mm_M) : Prop := S.1 (b + 19) = some (.inl (G 0, 6, .inl (M.2 1))) ∧ S.1 (b + 20) = some (.inl (G 3, 6, .inl (M.2 2))) ∧ ∃ nt, nt ≤ 6 ∧ M.1 7 = nI nt ∧ ∀ t, t < nt → (∃ k : Nat, k ≤ 3 ∧ M.2 1 t = nI k) ∧ (M.2 2 t = 0 ∨ M.2 2 t = 1)
def g_rca (G : Nat → ClassId) (S : mw_M) (b : Nat) : Prop := ∃ g : Nat → Option Nat, S.1 (b + 21) = some (.inl (G 5, 4, .inr (.inr (.inr (.inr g))))) ∧ ∀ i, i < 4 → g i = some (b + 22 + 3 * i)
def g_rc (G : Nat → ClassId) (S : mw_M) (b : Nat) (M : mm_M) (r : Nat) : Prop := ∃ (la : Int32) (f g : Nat → Int32), rec_R G S (b + 22 + 3 * r) (M.2 18 r) (M.2 21 r) la f g ∧ (∀ t, t < 6 → f t = M.2 19 (6 * r + t) ∧ g t = M.2 20 (6 * r + t)) ∧ ((M.2 18 r = 0 ∨ M.2 18 r = 1) → la = 2147483647) ∧ (M.2 18 r = 2 → la = M.2 22 r) ∧ (M.2 18 r = 0 ∨ M.2 18 r = 1 ∨ M.2 18 r = 2 ∨ M.2 18 r = 3)
def g_rec (G : Nat → ClassId) (S : mw_M) (b : Nat) (M : mm_M) : Prop := g_rca G S b ∧ (∃ nr, nr ≤ 4 ∧ M.1 29 = nI nr) ∧ ∀ r, r < 4 → g_rc G S b M r
def g_pay (G : Nat → ClassId) (S : mw_M) (b p kl : Nat) : Prop := ∃ l, br_R G S (b + 36 + 2 * p + 4 * kl + 6) 27 l
def g_wri (G : Nat → ClassId) (S : mw_M) (b p kl sz : Nat) (M : mm_M) : Prop := ∃ wr, br_R G S (b + 36 + 2 * p + 4 * kl + 8) (kl * (cbs p sz + 258)) wr ∧ M.1 36 = nI wr.length ∧ sg_at (M.2 23) 0 wr ∧ bts wr
def g_beg (M : mm_M) : Prop := ∀ t, t < 3 → ∃ k : Nat, k ≤ 3 ∧ M.2 5 t = nI k
section KEEP
variable {G : Nat → ClassId} {S S' : mw_M} {b p kl sz kc : Nat} {M M' : mm_M} {W : Nat → Prop} {bf ch : Nat → List Int32} {XI YA : List Nat}
theorem g_main.k {x7 x29 x3 : Int32} (h : g_main S b p kl sz x7 x29 x3) (hs : sm_p W S S') (hW : ¬ W b) : g_main S' b p kl sz x7 x29 x3 := (hs.1 b hW).trans h
theorem g_txt.k (h : g_txt G S b M) (hs : sm_p W S S') (hW : ∀ q, b + 1 ≤ q → q < b + 3 → ¬ W q) (hf : fm XI YA M M') (h5 : 5 ∉ XI) (h0 : 0 ∉ YA) : g_txt G S' b M' := by
  obtain ⟨n, e1, e2⟩ := h
  refine ⟨n, (hf.1 5 h5).trans e1, ?_⟩
  rw [hf.2 0 h0]
  exact e2.sm hs (hW _ (by omega) (by omega)) (hW _ (by omega) (by omega))
theorem g_str.k (h : g_str G S b M) (hs : sm_p W S S') (hW : ∀ q, b + 3 ≤ q → q < b + 6 → ¬ W q) (hf : fm XI YA M M') (h10 : 10 ∉ XI) (h3 : 3 ∉ YA) (h4 : 4 ∉ YA) : g_str G S' b M' := by
  obtain ⟨n, e1, e2, e3⟩ := h
  refine ⟨n, (hf.1 10 h10).trans e1, ?_, ?_⟩
  · rw [hf.2 3 h3, hf.2 4 h4]
    exact e2.sm hs (hW _ (by omega) (by omega)) (hW _ (by omega) (by omega)) (hW _ (by omega) (by omega))
  · rw [hf.2 3 h3, hf.2 4 h4]; exact e3
theorem g_ths.k (h : g_ths G S b sz M bf) (hs : sm_p W S S') (hW : ∀ q, b + 6 ≤ q → q < b + 19 → ¬ W q) (hf : fm XI YA M M') (h5 : 5 ∉ YA) (h6 : 6 ∉ YA) (h16 : 16 ∉ YA) (h17 : 17 ∉ YA) : g_ths G S' b sz M' bf := by
  obtain ⟨e1, e2⟩ := h
  refine ⟨e1.sm hs (hW _ (by omega) (by omega)), fun t ht => ?_⟩
  obtain ⟨f, q1, q2⟩ := e2 t ht
  refine ⟨f, ?_, fun i hi => ?_⟩
  · rw [hf.2 5 h5, hf.2 16 h16, hf.2 17 h17]
    exact q1.sm hs (hW _ (by omega) (by omega)) (hW _ (by omega) (by omega)) (hW _ (by omega) (by omega)) (hW _ (by omega) (by omega))
  · rw [hf.2 6 h6]; exact q2 i hi
theorem g_typ.k (h : g_typ G S b M) (hs : sm_p W S S') (hW : ∀ q, b + 19 ≤ q → q < b + 21 → ¬ W q) (hf : fm XI YA M M') (h7 : 7 ∉ XI) (h1 : 1 ∉ YA) (h2 : 2 ∉ YA) : g_typ G S' b M' := by
  obtain ⟨e1, e2, nt, e3, e4, e5⟩ := h
  refine ⟨?_, ?_, nt, e3, (hf.1 7 h7).trans e4, ?_⟩
  · rw [hs.1 _ (hW _ (by omega) (by omega)), hf.2 1 h1]; exact e1
  · rw [hs.1 _ (hW _ (by omega) (by omega)), hf.2 2 h2]; exact e2
  · rw [hf.2 1 h1, hf.2 2 h2]; exact e5
theorem g_rca.sm (h : g_rca G S b) (hs : sm_p W S S') (h0 : ¬ W (b + 21)) : g_rca G S' b := by
  obtain ⟨g, e1, e2⟩ := h
  exact ⟨g, by rw [hs.1 _ h0]; exact e1, e2⟩
theorem g_rc.k {r : Nat} (h : g_rc G S b M r) (hs : sm_p W S S') (hW : ∀ q, b + 22 + 3 * r ≤ q → q < b + 25 + 3 * r → ¬ W q) (h18 : M'.2 18 r = M.2 18 r) (h19 : ∀ t, t < 6 → M'.2 19 (6 * r + t) = M.2 19 (6 * r + t) ∧ M'.2 20 (6 * r + t) = M.2 20 (6 * r + t)) (h21 : M'.2 21 r = M.2 21 r) (h22 : M'.2 22 r = M.2 22 r) : g_rc G S' b M' r := by
  obtain ⟨la, f, g, q1, q2, q3, q4, q5⟩ := h
  refine ⟨la, f, g, ?_, fun t ht => ?_, ?_, ?_, ?_⟩
  · rw [h18, h21]
    exact q1.sm hs (hW _ (by omega) (by omega)) (hW _ (by omega) (by omega)) (hW _ (by omega) (by omega))
  · rw [(h19 t ht).1, (h19 t ht).2]; exact q2 t ht
  · rw [h18]; exact q3
  · rw [h18, h22]; exact q4
  · rw [h18]; exact q5
theorem g_rec.k (h : g_rec G S b M) (hs : sm_p W S S') (hW : ∀ q, b + 21 ≤ q → q < b + 34 → ¬ W q) (hf : fm XI YA M M') (h29 : 29 ∉ XI) (h18 : 18 ∉ YA) (h19 : 19 ∉ YA) (h20 : 20 ∉ YA) (h21 : 21 ∉ YA) (h22 : 22 ∉ YA) : g_rec G S' b M' := by
  obtain ⟨e1, ⟨nr, e2, e3⟩, e4⟩ := h
  refine ⟨e1.sm hs (hW _ (by omega) (by omega)), ⟨nr, e2, (hf.1 29 h29).trans e3⟩, fun r hr => (e4 r hr).k hs (fun q h1 h2 => hW q (by omega) (by omega)) (by rw [hf.2 18 h18]) (fun t ht => ⟨by rw [hf.2 19 h19], by rw [hf.2 20 h20]⟩) (by rw [hf.2 21 h21]) (by rw [hf.2 22 h22])⟩
theorem g_pool.k (h : g_pool G S b p sz M bf) (hs : sm_p W S S') (hW : ∀ q, b + 34 ≤ q → q < b + 36 + 2 * p → ¬ W q) (hf : fm XI YA M M') (h18 : 18 ∉ XI) (h9 : 9 ∉ YA) : g_pool G S' b p sz M' bf := by
  obtain ⟨fi, fu, pb, e1, e2, e3, e4, e5, e6, e7⟩ := h
  exact ⟨fi, fu, pb, e1.sm hs (fun q h1 h2 => hW q (by omega) (by omega)), (hf.1 18 h18).trans e2, e3, e4, e5, e6, by rw [hf.2 9 h9]; exact e7⟩
theorem g_chs.k (h : g_chs G S b p kl sz M ch) (hs : sm_p W S S') (hW : ∀ q, b + 36 + 2 * p ≤ q → q < b + 36 + 2 * p + 2 + 4 * (kl + 1) → ¬ W q) (hf : fm XI YA M M') (h19 : 19 ∉ XI) (h20 : 20 ∉ XI) (h9 : 9 ∉ YA) (h12 : 12 ∉ YA) (h13 : 13 ∉ YA) (h14 : 14 ∉ YA) (h15 : 15 ∉ YA) (h10 : 10 ∉ XI) : g_chs G S' b p kl sz M' ch := by
  obtain ⟨kp, ad, L, X, Y, Z, U, e1, e2, e3, e4⟩ := h
  refine ⟨kp, ad, L, X, Y, Z, U, ?_, (hf.1 19 h19).trans e2, e3, ?_⟩
  · rw [hf.1 20 h20]; exact e1.sm hs (fun q h1 h2 => hW q h1 h2)
  · rw [hf.2 9 h9, hf.2 12 h12, hf.2 13 h13, hf.2 14 h14, hf.2 15 h15, hf.1 10 h10]; exact e4
theorem g_pay.k (h : g_pay G S b p kl) (hs : sm_p W S S') (hW : ∀ q, b + 36 + 2 * p + 4 * kl + 6 ≤ q → q < b + 36 + 2 * p + 4 * kl + 8 → ¬ W q) : g_pay G S' b p kl := by
  obtain ⟨l, h⟩ := h
  exact ⟨l, h.sm hs (hW _ (by omega) (by omega)) (hW _ (by omega) (by omega))⟩
theorem g_wri.k (h : g_wri G S b p kl sz M) (hs : sm_p W S S') (hW : ∀ q, b + 36 + 2 * p + 4 * kl + 8 ≤ q → q < b + 36 + 2 * p + 4 * kl + 10 → ¬ W q) (hf : fm XI YA M M') (h36 : 36 ∉ XI) (h23 : 23 ∉ YA) : g_wri G S' b p kl sz M' := by
  obtain ⟨wr, e1, e2, e3, e4⟩ := h
  exact ⟨wr, e1.sm hs (hW _ (by omega) (by omega)) (hW _ (by omega) (by omega)), (hf.1 36 h36).trans e2, by rw [hf.2 23 h23]; exact e3, e4⟩
theorem g_mod.k (h : g_mod p kl sz kc M bf ch) (hf : fm XI YA M M') (h0 : 0 ∉ XI) (h1 : 1 ∉ XI) (h2 : 2 ∉ XI) (h19 : 19 ∉ XI) (h7 : 7 ∉ YA) (h8 : 8 ∉ YA) (h10 : 10 ∉ YA) (h11 : 11 ∉ YA) (h16 : 16 ∉ YA) : g_mod p kl sz kc M' bf ch := by
  obtain ⟨e1, e2, ⟨e3, e4, e5⟩, e6, e7, e8, e9, e10⟩ := h
  refine ⟨fun i hi => ?_, fun i hi => ?_, ⟨(hf.1 0 h0).trans e3, (hf.1 1 h1).trans e4, (hf.1 2 h2).trans e5⟩, e6, e7, e8, ⟨fun k hk => e9.1 k ((hf.1 19 h19).symm.trans hk), e9.2⟩, by rw [hf.2 16 h16]; exact e10⟩
  · obtain ⟨q1, q2, q3⟩ := e1 i hi
    exact ⟨by rw [hf.2 8 h8]; exact q1, q2, by rw [hf.2 7 h7]; exact q3⟩
  · obtain ⟨q1, q2, q3⟩ := e2 i hi
    exact ⟨by rw [hf.2 11 h11]; exact q1, q2, by rw [hf.2 10 h10]; exact q3⟩
theorem g_mod.mono {kc' : Nat} (h : g_mod p kl sz kc M bf ch) (h1 : kc ≤ kc') (h2 : kc' < 100000) : g_mod p kl sz kc' M bf ch := by
  obtain ⟨e1, e2, e3, e6, ⟨u1, u2, u3, u4, u5, u6⟩, e8, e9, e10⟩ := h
  exact ⟨e1, e2, e3, e6, ⟨u1, u2, u3, u4, u5, h2⟩, e8, e9, fun t ht => by obtain ⟨n, q1, q2⟩ := e10 t ht; exact ⟨n, by omega, q2⟩⟩
theorem g_beg.k (h : g_beg M) (hf : fm XI YA M M') (h5 : 5 ∉ YA) : g_beg M' := by
  unfold g_beg
  rw [hf.2 5 h5]; exact h
end KEEP
def RR (G : Nat → ClassId) (b p kl sz kc : Nat) (S : mw_M) (M : mm_M) : Prop := ∃ bf ch : Nat → List Int32, g_main S b p kl sz (M.1 7) (M.1 29) (M.1 3) ∧ g_txt G S b M ∧ g_str G S b M ∧ g_ths G S b sz M bf ∧ g_typ G S b M ∧ g_rec G S b M ∧ g_pool G S b p sz M bf ∧ g_chs G S b p kl sz M ch ∧ g_pay G S b p kl ∧ g_wri G S b p kl sz M ∧ g_mod p kl sz kc M bf ch ∧ g_beg M ∧ (ch 6).length ≤ 150
abbrev cl_X (b p kl : Nat) : Nat → Prop := fun q => b ≤ q ∧ q < b + 36 + 2 * p + 4 * kl + 10
theorem RR.t {G : Nat → ClassId} {b p kl sz kc : Nat} {S : mw_M} {M M' : mm_M} (h : RR G b p kl sz kc S M) (hf : fm [4, 38] [24] M M') : RR G b p kl sz kc S M' := by
  obtain ⟨bf, ch, h1, h2, h3, h4, h5, h6, h7, h8, h9, h10, h11, h12, h13⟩ := h
  have hs := sm_p.rf (fun _ => False) S
  have hW : ∀ (lo hi q : Nat), lo ≤ q → q < hi → ¬ (fun _ : Nat => False) q := fun _ _ _ _ _ w => w
  exact ⟨bf, ch, by rw [hf.1 7 (by decide), hf.1 29 (by decide), hf.1 3 (by decide)]; exact h1, h2.k hs (hW _ _) hf (by decide) (by decide), h3.k hs (hW _ _) hf (by decide) (by decide) (by decide), h4.k hs (hW _ _) hf (by decide) (by decide) (by decide) (by decide), h5.k hs (hW _ _) hf (by decide) (by decide) (by decide), h6.k hs (hW _ _) hf (by decide) (by decide) (by decide) (by decide) (by decide) (by decide), h7.k hs (hW _ _) hf (by decide) (by decide), h8.k hs (hW _ _) hf (by decide) (by decide) (by decide) (by decide) (by decide) (by decide) (by decide) (by decide), h9, h10.k hs (hW _ _) hf (by decide) (by decide), h11.k hf (by decide) (by decide) (by decide) (by decide) (by decide) (by decide) (by decide) (by decide) (by decide), h12.k hf (by decide), h13⟩
theorem RR.mono {G : Nat → ClassId} {b p kl sz kc kc' : Nat} {S : mw_M} {M : mm_M} (h : RR G b p kl sz kc S M) (h1 : kc ≤ kc') (h2 : kc' < 100000) : RR G b p kl sz kc' S M := by
  obtain ⟨bf, ch, q1, q2, q3, q4, q5, q6, q7, q8, q9, q10, q11, q12, q13⟩ := h
  exact ⟨bf, ch, q1, q2, q3, q4, q5, q6, q7, q8, q9, q10, q11.mono h1 h2, q12, q13⟩
/-- a call that does not throw: class and reference answer alike, and belong together behind it -/
def OPi (G : Nat → ClassId) (b p kl sz kc : Nat) (S : mw_M) (x : Option (Int32 × mw_M)) (y : Option (Int32 × mm_M)) : Prop := ∃ r S' M', x = some (r, S') ∧ y = some (r, M') ∧ RR G b p kl sz kc S' M' ∧ sm_p (cl_X b p kl) S S'
/-- one that may throw: its number of the exception is the reference's -/
def OPt (G : Nat → ClassId) (b p kl sz kc : Nat) (S : mw_M) (x : Option (Nat × Int32 × mw_M)) (y : Option (Int32 × mm_M)) : Prop := ∃ (c : Nat) (r r' : Int32) (S' : mw_M) (M' : mm_M), x = some (c, r, S') ∧ y = some (r', M') ∧ c ≤ 2 ∧ M'.1 4 = nI c ∧ (c = 0 → r = r') ∧ RR G b p kl sz kc S' M' ∧ sm_p (cl_X b p kl) S S'
section OPS
variable {G : Nat → ClassId} {N b p kl sz kc : Nat} {S : mw_M} {M : mm_M}
theorem m4_f (M : mm_M) (v : Int32) : fm [4, 38] [24] M (va_up M.1 4 v, M.2) := (fm.rf [4, 38] [24] M).pf (j := 4) (by decide) v
theorem op_write (h : RR G b p kl sz kc S M) (c : Int32) : OPi G b p kl sz kc S (pf_X8_write G N S b c) (pf_X9_write G N M c) := by
  have h0 := h
  obtain ⟨bf, ch, h1, ⟨n, e5, ht⟩, h3, h4, h5, h6, h7, h8, h9, h10, h11, h12, h13⟩ := h
  have hn := ht.2.2.1
  have x5 : (va_up M.1 4 0) 5 = nI n := e5
  unfold pf_X8_write pf_X9_write
  simp only [gr_q (k := 1) h1 rfl, Option.bind_some, v_q _ ht.1, mm_pf, x5]
  by_cases hc : n = 40 ∨ c < 32 ∨ ¬ c ≤ 126
  · rw [tx_app0 ht c hc]
    simp only [mw_b2, if_pos z0]
    refine ⟨0, S, _, rfl, ?_, h0.t (m4_f M 0), sm_p.rf _ S⟩
    by_cases hn40 : n = 40
    · rw [if_pos (show (40 : Int32) ≤ nI n from nI_le (a := 40) (by omega) (by omega))]
    rw [if_neg (show ¬ (40 : Int32) ≤ nI n from nI_ge (b := 40) (by omega) (by decide))]
    by_cases hc32 : c < 32
    · rw [if_pos hc32]
    rw [if_neg hc32]
    rcases hc with hc | hc | hc
    · exact absurd hc hn40
    · exact absurd hc hc32
    · rw [if_neg hc]
  · have hn40 : n < 40 := by
      rcases Nat.lt_or_ge n 40 with h | h
      · exact h
      · exact absurd (Or.inl (by omega)) hc
    have hc32 : ¬ c < 32 := fun z => hc (Or.inr (Or.inl z))
    have hc126 : c ≤ 126 := Classical.not_not.mp (fun z => hc (Or.inr (Or.inr z)))
    obtain ⟨S', w1, w2, w3⟩ := tx_app (N := N) ht c hn40 hc32 hc126
    rw [w1, if_neg (show ¬ (40 : Int32) ≤ nI n from nI_ge (b := 40) (by omega) (by decide)), if_neg hc32, if_pos hc126]
    simp only [mw_b2, if_pos z1, sim (k := 0) (j := n) _ (show n < 40 from hn40) (by decide), Option.bind_some, x5]
    have hs : sm_p (fun q => b + 1 ≤ q ∧ q < b + 3) S S' := w3.wd (fun q hq => by rcases hq with z | z <;> constructor <;> omega)
    generalize hM' : ((va_up (va_up M.1 4 0) 5 (nI n + 1), va_up M.2 0 (upd (M.2 0) n (vp_nar .char c))) : mm_M) = M'
    have hf : fm [4, 5] [0] M M' := by rw [← hM']; exact (((fm.rf [4, 5] [0] M).pf (j := 4) (by decide) 0).si (k := 0) (by decide) _).pf (j := 5) (by decide) _
    refine ⟨1, S', M', rfl, rfl, ⟨bf, ch, ?_, ⟨n + 1, ?_, ?_⟩, h3.k hs ?_ hf (by decide) (by decide) (by decide), h4.k hs ?_ hf (by decide) (by decide) (by decide) (by decide), h5.k hs ?_ hf (by decide) (by decide) (by decide), h6.k hs ?_ hf (by decide) (by decide) (by decide) (by decide) (by decide) (by decide), h7.k hs ?_ hf (by decide) (by decide), h8.k hs ?_ hf (by decide) (by decide) (by decide) (by decide) (by decide) (by decide) (by decide) (by decide), h9.k hs ?_, h10.k hs ?_ hf (by decide) (by decide), h11.k hf (by decide) (by decide) (by decide) (by decide) (by decide) (by decide) (by decide) (by decide) (by decide), h12.k hf (by decide), h13⟩, hs.wd (fun q hq => by constructor <;> omega)⟩
    · rw [hf.1 7 (by decide), hf.1 29 (by decide), hf.1 3 (by decide)]; exact h1.k hs (by rintro ⟨w, -⟩; omega)
    · rw [← hM', ← nI_1]; rfl
    · rw [← hM']; exact w2
    all_goals (rintro q z1 z2 ⟨w1, w2⟩; omega)
theorem op_advance (h : RR G b p kl sz kc S M) (x : Int32) : OPi G b p kl sz kc S (pf_X8_advance G N S b x) (pf_X9_advance G N M x) := by
  have h0 := h
  obtain ⟨bf, ch, h1, h2, h3, h4, h5, h6, h7, h8, h9, h10, h11, h12, h13⟩ := h
  have x3 : (va_up M.1 4 0) 3 = M.1 3 := rfl
  have f3 : fm [4, 38] [24] M (va_up (va_up M.1 4 0) 3 (M.1 3), M.2) := by
    have : va_up (va_up M.1 4 0) 3 (M.1 3) = va_up M.1 4 0 := va_up_id (va_up M.1 4 0) 3
    rw [this]; exact m4_f M 0
  unfold pf_X8_advance pf_X9_advance
  simp only [gi_q (k := 13) h1 rfl, Option.bind_some, mm_pf, x3]
  by_cases hx : x < 0
  · rw [if_pos hx, if_pos hx]
    unfold pf_X9_advance_26
    simp only [mm_pf, Option.bind_some, x3]
    exact ⟨_, S, _, rfl, rfl, h0.t f3, sm_p.rf _ S⟩
  rw [if_neg hx, if_neg hx]
  by_cases hx2 : 1000 < x
  · rw [if_pos hx2, if_pos hx2]
    unfold pf_X9_advance_26
    simp only [mm_pf, Option.bind_some, x3]
    exact ⟨_, S, _, rfl, rfl, h0.t f3, sm_p.rf _ S⟩
  rw [if_neg hx2, if_neg hx2]
  simp only [pf_q _ h1 (k := 13) (Nat.le_of_ble_eq_true rfl), Option.bind_some]
  generalize hS' : mw_up S b (.inr (8, (mainL b p kl sz (M.1 7) (M.1 29) (M.1 3)).set 13 (.int (M.1 3 + x)))) = S'
  have g1 : g_main S' b p kl sz (M.1 7) (M.1 29) (M.1 3 + x) := by rw [← hS']; exact up_s _ _ _
  have hs : sm_p (fun q => q = b) S S' := by rw [← hS']; exact (sm_p.rf _ S).up _ rfl
  simp only [gi_q (k := 13) g1 rfl, Option.bind_some]
  generalize hM' : ((va_up (va_up M.1 4 0) 3 (M.1 3 + x), M.2) : mm_M) = M'
  have hf : fm [4, 3] [] M M' := by rw [← hM']; exact ((fm.rf [4, 3] [] M).pf (j := 4) (by decide) 0).pf (j := 3) (by decide) _
  have e3 : M'.1 3 = M.1 3 + x := by rw [← hM']; rfl
  refine ⟨M.1 3 + x, S', M', rfl, by rw [← hM']; rfl, ⟨bf, ch, ?_, h2.k hs ?_ hf (by decide) (by decide), h3.k hs ?_ hf (by decide) (by decide) (by decide), h4.k hs ?_ hf (by decide) (by decide) (by decide) (by decide), h5.k hs ?_ hf (by decide) (by decide) (by decide), h6.k hs ?_ hf (by decide) (by decide) (by decide) (by decide) (by decide) (by decide), h7.k hs ?_ hf (by decide) (by decide), h8.k hs ?_ hf (by decide) (by decide) (by decide) (by decide) (by decide) (by decide) (by decide) (by decide), h9.k hs ?_, h10.k hs ?_ hf (by decide) (by decide), h11.k hf (by decide) (by decide) (by decide) (by decide) (by decide) (by decide) (by decide) (by decide) (by decide), h12.k hf (by decide), h13⟩, hs.wd (fun q hq => by constructor <;> omega)⟩
  · rw [hf.1 7 (by decide), hf.1 29 (by decide), e3]; exact g1
  all_goals (intro q z1 z2 w; omega)
end OPS
