/-! what a dump writes -/
theorem ubit_01 (w : Int32) (s : Nat) : ubit w s = 0 ∨ ubit w s = 1 := nar_b (w >>> (nI s &&& 31))
def cnu (u : Nat → Int32) : Nat → Nat
  | 0 => 0
  | k + 1 => if u k = 0 then cnu u k else cnu u k + 1
def chs (f : Nat → Int32) (o : Nat) : Nat → List Int32
  | 0 => []
  | j + 1 => chs f o j ++ [f (o + j)]
def st1 (f g : Nat → Int32) (k : Nat) : List Int32 := vb (nI k) ++ vb (g k) ++ chs f (8 * k) (un (g k))
def sbs (u f g : Nat → Int32) : Nat → List Int32
  | 0 => []
  | k + 1 => if u k = 0 then sbs u f g k else sbs u f g k ++ st1 f g k
def ckB (l : List Int32) (x y z : Int32) (u f g : Nat → Int32) : List Int32 := [70] ++ vb x ++ vb y ++ vb z ++ l ++ [0] ++ vb (nI (cnu u 24)) ++ sbs u f g 24
theorem chs_len (f : Nat → Int32) (o : Nat) : ∀ j, (chs f o j).length = j := by
  intro j
  induction j with
  | zero => rfl
  | succ j ih => rw [chs, List.length_append, ih]; rfl
theorem cnu_le (u : Nat → Int32) : ∀ k, cnu u k ≤ k := by
  intro k
  induction k with
  | zero => exact Nat.le_refl _
  | succ k ih => rw [cnu]; split <;> omega
theorem sbs_len {u f g : Nat → Int32} {ns : Nat} (hK : st_K ns f g) (hu : ∀ s, s < 24 → u s = 0 ∨ s < ns) : ∀ k, k ≤ 24 → (sbs u f g k).length ≤ 10 * k ∧ bts (sbs u f g k) := by
  intro k
  induction k with
  | zero => intro _; exact ⟨Nat.le_refl _, bts_nil⟩
  | succ k ih =>
    intro hk
    obtain ⟨i1, i2⟩ := ih (by omega)
    rw [sbs]
    by_cases h0 : u k = 0
    · rw [if_pos h0]; exact ⟨by omega, i2⟩
    · rw [if_neg h0]
      obtain ⟨l, q1, q2, q3⟩ := hK.2 k ((hu k (by omega)).resolve_left h0)
      have hun : un (g k) = l := by rw [q2, un_n (by omega)]
      have hb : ∀ j, j ≤ l → bts (chs f (8 * k) j) := by
        intro j
        induction j with
        | zero => intro _; exact bts_nil
        | succ j ih2 =>
          intro hj
          rw [chs]
          refine bts_app (ih2 (by omega)) (fun x hx => ?_)
          rw [List.mem_singleton.mp hx]
          obtain ⟨c, c1, c2, c3⟩ := q3 j (by omega)
          rw [c3]; exact isb_n (by omega)
      refine ⟨?_, bts_app i2 (bts_app (bts_app (vb_isb _) (vb_isb _)) (by rw [hun]; exact hb l (Nat.le_refl _)))⟩
      unfold st1
      simp only [List.length_append, vb_len, chs_len, hun]
      rw [vl_nI (show k < 128 by omega), vl_1 (show l < 128 by omega)]
      omega
theorem ckB_len {l : List Int32} {x y z : Int32} {u f g : Nat → Int32} {ns : Nat} (hK : st_K ns f g) (hu : ∀ s, s < 24 → u s = 0 ∨ s < ns) (hl : bts l) : (ckB l x y z u f g).length ≤ 258 + l.length ∧ bts (ckB l x y z u f g) := by
  obtain ⟨i1, i2⟩ := sbs_len hK hu 24 (Nat.le_refl _)
  have hc := cnu_le u 24
  refine ⟨?_, ?_⟩
  · unfold ckB
    simp only [List.length_append, vb_len, List.length_cons, List.length_nil]
    rw [vl_nI (show cnu u 24 < 128 by omega)]
    have h1 := (vl_le (un x)).2
    have h2 := (vl_le (un y)).2
    have h3 := (vl_le (un z)).2
    omega
  · exact bts_app (bts_app (bts_app (bts_app (bts_app (bts_app (bts_app (fun a ha => by rw [List.mem_singleton.mp ha]; exact isb_n (n := 70) (by omega)) (vb_isb _)) (vb_isb _)) (vb_isb _)) hl) (fun a ha => by rw [List.mem_singleton.mp ha]; exact isb_n (n := 0) (by omega))) (vb_isb _)) i2
section DMP
variable {G : Nat → ClassId} {N : Nat}
/-! the class -/
theorem ck_cs {S : mw_M} {A c : Nat} {l : List Int32} {x y z : Int32} {u : Nat → Int32} (h : ck_R G S A c l x y z u) : ∀ m k, k ≤ 24 → 24 - k < m → pf_X1_countStrings_4 G N m A (nI (cnu u k)) (nI k) S = some (nI (cnu u 24), S) := by
  intro m
  induction m with
  | zero => intro k _ h; exact absurd h (Nat.not_lt_zero _)
  | succ m ih =>
    intro k hk hm
    have hc := cnu_le u k
    rw [pf_X1_countStrings_4]
    by_cases h24 : k = 24
    · subst h24
      rw [if_pos (show (24 : Int32) ≤ nI 24 by decide)]
    · rw [if_neg (show ¬ (24 : Int32) ≤ nI k from nI_ge (b := 24) (by omega) (by decide))]
      simp only [gr_q (k := 1) h.1 rfl, ai_q h.2.1 (show k < 24 by omega) (by decide), Option.bind_some, nI_1]
      have := ih (k + 1) (by omega) (by omega)
      rw [cnu] at this
      by_cases h0 : u k = 0
      · rw [if_pos h0] at this
        rw [if_pos h0]; exact this
      · rw [if_neg h0] at this
        rw [if_neg h0]; exact this
theorem st_wr {T W cap ns : Nat} {f g : Nat → Int32} {k : Nat} (hd : T + 2 < W) (hK : st_K ns f g) (hk : k < ns) (hN : 30 ≤ N) (S : mw_M) (out : List Int32) (hst : st_R G S T ns f g) (hw : br_R G S W cap out) (hr : out.length + 10 ≤ cap) : ∃ S', pf_X6_writeTo G N S T W (nI k) = some S' ∧ br_R G S' W cap (out ++ st1 f g k) ∧ sm_p (br_X W) S S' := by
  obtain ⟨l, q1, q2, q3⟩ := hK.2 k hk
  have hns := hK.1
  have hun : un (g k) = l := by rw [q2, un_n (by omega)]
  have wT : ∀ q, q < W → ¬ br_X W q := fun q a w => by rcases w with w | w <;> omega
  have v1 : vl (un (nI k)) = 1 := vl_nI (by omega)
  have v2 : vl (un (g k)) = 1 := by rw [q2]; exact vl_nI (by omega)
  obtain ⟨S1, e1, b1, s1⟩ := br_addV (N := N) hw (nI k) (by rw [v1]; omega) (by omega)
  have t1 := hst.sm s1 (wT _ (by omega)) (wT _ (by omega)) (wT _ (by omega))
  obtain ⟨S2, e2, b2, s2⟩ := br_addV (N := N) b1 (g k) (by rw [v2, List.length_append, vb_len, v1]; omega) (by omega)
  have t2 := t1.sm s2 (wT _ (by omega)) (wT _ (by omega)) (wT _ (by omega))
  have hl2 : (out ++ vb (nI k) ++ vb (g k)).length = out.length + 2 := by simp only [List.length_append, vb_len, v1, v2]
  generalize hB0 : out ++ vb (nI k) ++ vb (g k) = B0 at *
  have loop : ∀ m j (Sj : mw_M), st_R G Sj T ns f g → br_R G Sj W cap (B0 ++ chs f (8 * k) j) → sm_p (br_X W) S Sj → j ≤ l → l - j < m → ∃ S', pf_X6_writeTo_30 G N m T W (nI k) (nI j) Sj = some S' ∧ br_R G S' W cap (B0 ++ chs f (8 * k) l) ∧ sm_p (br_X W) S S' := by
    intro m
    induction m with
    | zero => intro j Sj _ _ _ _ h; exact absurd h (Nat.not_lt_zero _)
    | succ m ih =>
      intro j Sj tj bj sj hj hm
      rw [pf_X6_writeTo_30]
      simp only [gr_q (k := 1) tj.1 rfl, ai_q tj.2.2 (show k < 24 by omega) (by decide), Option.bind_some, q2]
      by_cases hjl : j = l
      · subst hjl
        rw [if_pos (Int32.le_refl _)]
        exact ⟨Sj, rfl, bj, sj⟩
      · rw [if_neg (nI_ge (by omega) (by omega)), mul8]
        simp only [gr_q (k := 0) tj.1 rfl, ai_q tj.2.1 (show 8 * k + j < 192 by omega) (by decide), Option.bind_some]
        obtain ⟨S', r1, r2, r3⟩ := br_add (N := N) bj (by rw [List.length_append, hl2, chs_len]; omega) (f (8 * k + j))
        simp only [v_q _ bj.1, r1, Option.bind_some, nI_1]
        exact ih (j + 1) S' (tj.sm r3 (wT _ (by omega)) (wT _ (by omega)) (wT _ (by omega))) (by rw [chs, ← List.append_assoc]; exact r2) (sj.tr r3) (by omega) (by omega)
  obtain ⟨S3, e3, b3, s3⟩ := loop N 0 S2 t2 (by rw [chs, List.append_nil]; exact b2) (s1.tr s2) (Nat.zero_le _) (by omega)
  refine ⟨S3, ?_, ?_, s3⟩
  · unfold pf_X6_writeTo
    rw [if_neg (show ¬ nI k < 0 from nI_pos (by omega))]
    simp only [gi_q (k := 2) hst.1 rfl, Option.bind_some]
    rw [if_pos (nI_lt hk (by omega))]
    simp only [v_q _ hw.1, e1, Option.bind_some, gr_q (k := 1) t1.1 rfl, ai_q t1.2.2 (show k < 24 by omega) (by decide), v_q _ b1.1, e2]
    exact e3
  · unfold st1
    rw [hun, ← List.append_assoc, ← List.append_assoc, hB0]; exact b3
theorem ck_wr {A T W cap c ns : Nat} {l : List Int32} {x y z : Int32} {u f g : Nat → Int32} (hT : T + 2 < A) (hd : A + 3 < W) (hK : st_K ns f g) (hu : ∀ s, s < 24 → u s = 0 ∨ s < ns) (hl6 : l.length ≤ 600) (hN : 700 ≤ N) (S : mw_M) (out : List Int32) (hc : ck_R G S A c l x y z u) (hst : st_R G S T ns f g) (hw : br_R G S W cap out) (hr : out.length + (258 + l.length) ≤ cap) : ∃ S', pf_X1_writeTo G N S A W T = some S' ∧ br_R G S' W cap (out ++ ckB l x y z u f g) ∧ sm_p (br_X W) S S' := by
  have wT : ∀ q, q < W → ¬ br_X W q := fun q a w => by rcases w with w | w <;> omega
  have h1 := (vl_le (un x)).2
  have h2 := (vl_le (un y)).2
  have h3 := (vl_le (un z)).2
  have hcn := cnu_le u 24
  obtain ⟨S1, e1, b1, s1⟩ := br_add (N := N) hw (by omega) 70
  have c1 := hc.sm s1 (fun q _ _ => wT q (by omega))
  obtain ⟨S2, e2, b2, s2⟩ := br_addV (N := N) b1 x (by simp only [List.length_append, List.length_cons, List.length_nil]; omega) (by omega)
  have c2 := c1.sm s2 (fun q _ _ => wT q (by omega))
  obtain ⟨S3, e3, b3, s3⟩ := br_addV (N := N) b2 y (by simp only [List.length_append, List.length_cons, List.length_nil, vb_len]; omega) (by omega)
  have c3 := c2.sm s3 (fun q _ _ => wT q (by omega))
  obtain ⟨S4, e4, b4, s4⟩ := br_addV (N := N) b3 z (by simp only [List.length_append, List.length_cons, List.length_nil, vb_len]; omega) (by omega)
  have c4 := c3.sm s4 (fun q _ _ => wT q (by omega))
  obtain ⟨S5, e5, b5, s5⟩ := br_addRow (N := N) b4 c4.2.2 (by omega) (by simp only [List.length_append, List.length_cons, List.length_nil, vb_len]; omega) (by omega)
  have c5 := c4.sm s5 (fun q _ _ => wT q (by omega))
  obtain ⟨S6, e6, b6, s6⟩ := br_add (N := N) b5 (by simp only [List.length_append, List.length_cons, List.length_nil, vb_len]; omega) 0
  have c6 := c5.sm s6 (fun q _ _ => wT q (by omega))
  have v24 : vl (un (nI (cnu u 24))) = 1 := vl_nI (by omega)
  obtain ⟨S7, e7, b7, s7⟩ := br_addV (N := N) b6 (nI (cnu u 24)) (by simp only [List.length_append, List.length_cons, List.length_nil, vb_len, v24]; omega) (by omega)
  have c7 := c6.sm s7 (fun q _ _ => wT q (by omega))
  have s07 := (((((s1.tr s2).tr s3).tr s4).tr s5).tr s6).tr s7
  have t7 := hst.sm s07 (wT _ (by omega)) (wT _ (by omega)) (wT _ (by omega))
  have hB : (out ++ [70] ++ vb x ++ vb y ++ vb z ++ l ++ [0] ++ vb (nI (cnu u 24))).length ≤ out.length + 18 + l.length := by
    simp only [List.length_append, List.length_cons, List.length_nil, vb_len, v24]; omega
  generalize hBB : out ++ [70] ++ vb x ++ vb y ++ vb z ++ l ++ [0] ++ vb (nI (cnu u 24)) = B at *
  have loop : ∀ m k (Sj : mw_M), ck_R G Sj A c l x y z u → st_R G Sj T ns f g → br_R G Sj W cap (B ++ sbs u f g k) → sm_p (br_X W) S Sj → k ≤ 24 → 24 - k < m → ∃ S', pf_X1_writeTo_53 G N m A W T (nI k) Sj = some S' ∧ br_R G S' W cap (B ++ sbs u f g 24) ∧ sm_p (br_X W) S S' := by
    intro m
    induction m with
    | zero => intro k Sj _ _ _ _ _ h; exact absurd h (Nat.not_lt_zero _)
    | succ m ih =>
      intro k Sj cj tj bj sj hk hm
      rw [pf_X1_writeTo_53]
      by_cases h24 : k = 24
      · subst h24
        rw [if_pos (show (24 : Int32) ≤ nI 24 by decide)]
        exact ⟨Sj, rfl, bj, sj⟩
      · rw [if_neg (show ¬ (24 : Int32) ≤ nI k from nI_ge (b := 24) (by omega) (by decide))]
        simp only [gr_q (k := 1) cj.1 rfl, ai_q cj.2.1 (show k < 24 by omega) (by decide), Option.bind_some, nI_1]
        by_cases h0 : u k = 0
        · rw [if_pos h0]
          exact ih (k + 1) Sj cj tj (by rw [sbs, if_pos h0]; exact bj) sj (by omega) (by omega)
        · rw [if_neg h0]
          have hsl := (sbs_len hK hu k (by omega)).1
          obtain ⟨S', r1, r2, r3⟩ := st_wr (N := N) (T := T) (by omega) hK ((hu k (by omega)).resolve_left h0) (by omega) Sj _ tj bj (by rw [List.length_append]; omega)
          simp only [v_q _ tj.1, r1, Option.bind_some]
          exact ih (k + 1) S' (cj.sm r3 (fun q _ _ => wT q (by omega))) (tj.sm r3 (wT _ (by omega)) (wT _ (by omega)) (wT _ (by omega))) (by rw [sbs, if_neg h0, ← List.append_assoc]; exact r2) (sj.tr r3) (by omega) (by omega)
  obtain ⟨S8, e8, b8, s8⟩ := loop N 0 S7 c7 t7 (by rw [sbs, List.append_nil]; exact b7) s07 (Nat.zero_le _) (by omega)
  refine ⟨S8, ?_, ?_, s8⟩
  · unfold pf_X1_writeTo
    have cs : pf_X1_countStrings G N S6 A = some (nI (cnu u 24), S6) := ck_cs c6 N 0 (Nat.zero_le _) (by omega)
    simp only [v_q _ hw.1, e1, Option.bind_some, gi_q (k := 2) c1.1 rfl, v_q _ b1.1, e2, gi_q (k := 3) c2.1 rfl, v_q _ b2.1, e3, gi_q (k := 4) c3.1 rfl, v_q _ b3.1, e4, gr_q (k := 0) c4.1 rfl, v_q _ b4.1, e5, v_q _ b5.1, e6, v_q _ c6.1, cs, mw_b2, v_q _ b6.1, e7]
    exact e8
  · have : out ++ ckB l x y z u f g = B ++ sbs u f g 24 := by rw [← hBB]; unfold ckB; simp only [List.append_assoc]
    rw [this]; exact b8
end DMP
