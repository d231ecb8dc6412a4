/-! the reference writes the same -/
def mo (M : mm_M) (l : List Int32) : Prop := M.1 36 = nI l.length ∧ sg_at (M.2 23) 0 l
section DM2
variable {G : Nat → ClassId} {N : Nat} {M : mm_M} {out : List Int32}
theorem md_out (h : mo M out) (x : Int32) (hl : out.length < 4400) : ∃ M', pf_X9_out G N M x = some M' ∧ mo M' (out ++ [x]) ∧ fm [36] [23] M M' := by
  obtain ⟨h1, h2⟩ := h
  have := sg_snoc x h2
  rw [Nat.zero_add] at this
  unfold pf_X9_out
  rw [h1]
  simp only [sim (M := M) (k := 23) (j := out.length) x (show out.length < 4400 from hl) (by decide), Option.bind_some, mm_pf, h1, nI_1]
  refine ⟨_, rfl, ⟨?_, ?_⟩, ((fm.rf [36] [23] M).si (k := 23) (by decide) _).pf (j := 36) (by decide) _⟩
  · show nI (out.length + 1) = _
    rw [List.length_append]; rfl
  · show sg_at (upd (M.2 23) out.length x) 0 (out ++ [x])
    exact this
theorem md_ov (h : mo M out) (v : Int32) (hl : out.length + 5 ≤ 4400) (hN : 70 ≤ N) : ∃ M', pf_X9_outVariable G N M v = some M' ∧ mo M' (out ++ vb v) ∧ fm [36, 38] [23, 24] M M' := by
  have h5 := (vl_le (un v)).2
  unfold pf_X9_outVariable
  simp only [mm_pf, Option.bind_some]
  generalize hM0 : ((va_up M.1 38 0, M.2) : mm_M) = M0
  have f0 : fm [36, 38] [23, 24] M M0 := by rw [← hM0]; exact (fm.rf _ _ M).pf (j := 38) (by decide) 0
  have o0 : mo M0 out := by rw [← hM0]; exact h
  obtain ⟨M1, e1, a1, a2, a3⟩ := md_var (G := G) (N := N) (M := M0) (ev := []) v (by rw [← hM0]; rfl) (sg_nil _ _) (by rw [List.length_nil]; omega) (by omega)
  rw [List.nil_append] at a1 a2
  have o1 : mo M1 out := ⟨(a3.1 36 (by decide)).trans o0.1, by rw [a3.2 23 (by decide)]; exact o0.2⟩
  have hvl := vb_len v
  have loop : ∀ m k (Mk : mm_M), fm [36] [23] M1 Mk → mo Mk (out ++ (vb v).take k) → k ≤ (vb v).length → (vb v).length - k < m → ∃ M', pf_X9_outVariable_12 G N m (nI k) Mk = some M' ∧ mo M' (out ++ vb v) ∧ fm [36] [23] M1 M' := by
    intro m
    induction m with
    | zero => intro k Mk _ _ _ h; exact absurd h (Nat.not_lt_zero _)
    | succ m ih =>
      intro k Mk fk ok hk hm
      have e38 : Mk.1 38 = nI (vb v).length := (fk.1 38 (by decide)).trans a1
      rw [pf_X9_outVariable_12, e38]
      by_cases hlt : k < (vb v).length
      · rw [if_neg (nI_ge hlt (by omega))]
        have hv : Mk.2 24 k = (vb v).getD k 0 := by
          rw [fk.2 24 (by decide)]
          have := a2 k hlt
          rw [Nat.zero_add] at this
          exact this
        simp only [aim (M := Mk) (k := 24) (j := k) (show k < 64 by omega) (by decide), Option.bind_some, hv]
        obtain ⟨M2, r1, r2, r3⟩ := md_out (G := G) (N := N) ok ((vb v).getD k 0) (by rw [List.length_append, tk_len (by omega)]; omega)
        simp only [r1, Option.bind_some, nI_1]
        exact ih (k + 1) M2 (fk.tr r3) (by rw [tk_s hlt, ← List.append_assoc]; exact r2) (by omega) (by omega)
      · rw [if_pos (nI_le (by omega) (by omega))]
        have hke : k = (vb v).length := by omega
        rw [hke, List.take_length] at ok
        exact ⟨Mk, rfl, ok, fk⟩
  obtain ⟨M2, e2, o2, f2⟩ := loop N 0 M1 (fm.rf _ _ _) (by rw [List.take_zero, List.append_nil]; exact o1) (Nat.zero_le _) (by omega)
  refine ⟨M2, ?_, o2, (f0.tr (a3.wd (by decide) (by decide))).tr (f2.wd (by decide) (by decide))⟩
  rw [e1]
  simp only [Option.bind_some]
  exact e2
theorem md_wr {ns i : Nat} {l : List Int32} {u f g : Nat → Int32} (hi : i < 7) (hf : M.2 3 = f) (hg : M.2 4 = g) (hK : st_K ns f g) (hu : ∀ s, s < 24 → u s = ubit (M.2 15 i) s ∧ (u s = 0 ∨ s < ns)) (hD : md M i l) (ho : mo M out) (hr : out.length + (258 + l.length) ≤ 4400) (hN : 700 ≤ N) : ∃ M', pf_X9_writeOut G N M (nI i) = some M' ∧ mo M' (out ++ ckB l (M.2 12 i) (M.2 13 i) (M.2 14 i) u f g) ∧ fm [36, 38] [23, 24] M M' := by
  obtain ⟨d1, d2, d3⟩ := hD
  have h1 := (vl_le (un (M.2 12 i))).2
  have h2 := (vl_le (un (M.2 13 i))).2
  have h3 := (vl_le (un (M.2 14 i))).2
  have hcn := cnu_le u 24
  have v24 : vl (un (nI (cnu u 24))) = 1 := vl_nI (by omega)
  have hu2 : ∀ s, s < 24 → u s = 0 ∨ s < ns := fun s hs => (hu s hs).2
  obtain ⟨M1, e1, o1, f1'⟩ := md_out (G := G) (N := N) ho 70 (by omega)
  have f1 : fm [36, 38] [23, 24] M M1 := f1'.wd (by decide) (by decide)
  obtain ⟨M2, e2, o2, f2'⟩ := md_ov (G := G) (N := N) o1 (M.2 12 i) (by simp only [List.length_append, List.length_cons, List.length_nil]; omega) (by omega)
  have f2 := f1.tr f2'
  obtain ⟨M3, e3, o3, f3'⟩ := md_ov (G := G) (N := N) o2 (M.2 13 i) (by simp only [List.length_append, List.length_cons, List.length_nil, vb_len]; omega) (by omega)
  have f3 := f2.tr f3'
  obtain ⟨M4, e4, o4, f4'⟩ := md_ov (G := G) (N := N) o3 (M.2 14 i) (by simp only [List.length_append, List.length_cons, List.length_nil, vb_len]; omega) (by omega)
  have f4 := f3.tr f4'
  have hB4 : (out ++ [70] ++ vb (M.2 12 i) ++ vb (M.2 13 i) ++ vb (M.2 14 i)).length ≤ out.length + 16 := by simp only [List.length_append, List.length_cons, List.length_nil, vb_len]; omega
  -- the strings
  have hstr : ∀ B : List Int32, B.length + 240 ≤ 4400 → ∀ m k (Mk : mm_M), fm [36, 38] [23, 24] M Mk → mo Mk (B ++ sbs u f g k) → k ≤ 24 → 24 - k < m → ∃ M', pf_X9_writeOut_111 G N m (nI i) (nI k) Mk = some M' ∧ mo M' (B ++ sbs u f g 24) ∧ fm [36, 38] [23, 24] M M' := by
    intro B hB m
    induction m with
    | zero => intro k Mk _ _ _ h; exact absurd h (Nat.not_lt_zero _)
    | succ m ih =>
      intro k Mk fk ok hk hm
      rw [pf_X9_writeOut_111]
      by_cases h24 : k = 24
      · subst h24
        rw [if_pos (show (24 : Int32) ≤ nI 24 by decide)]
        exact ⟨Mk, rfl, ok, fk⟩
      · rw [if_neg (show ¬ (24 : Int32) ≤ nI k from nI_ge (b := 24) (by omega) (by decide))]
        have huk := hu k (by omega)
        have hub : (Mk.2 15 i >>> (nI k &&& 31)) &&& 1 = u k := by rw [fk.2 15 (by decide)]; exact huk.1.symm
        simp only [aim (M := Mk) (k := 15) (j := i) hi (by decide), Option.bind_some, hub, nI_1]
        by_cases h0 : u k = 0
        · rw [if_pos (show ¬ u k = 1 by rw [h0]; decide)]
          exact ih (k + 1) Mk fk (by rw [sbs, if_pos h0]; exact ok) (by omega) (by omega)
        · have hu1 : u k = 1 := by
            rw [huk.1] at h0 ⊢
            exact (ubit_01 _ _).resolve_left h0
          rw [if_neg (fun z => z hu1)]
          obtain ⟨ln, q1, q2, q3⟩ := hK.2 k (huk.2.resolve_left h0)
          have hun : un (g k) = ln := by rw [q2, un_n (by omega)]
          have hsl := (sbs_len hK hu2 k (by omega)).1
          obtain ⟨Ma, a1, a2, a3⟩ := md_ov (G := G) (N := N) ok (nI k) (by rw [List.length_append]; omega) (by omega)
          have fa := fk.tr a3
          have ga : Ma.2 4 k = g k := by rw [fa.2 4 (by decide), hg]
          have v1 : vl (un (nI k)) = 1 := vl_nI (by omega)
          have v2 : vl (un (g k)) = 1 := by rw [q2]; exact vl_nI (by omega)
          obtain ⟨Mb, b1, b2, b3⟩ := md_ov (G := G) (N := N) a2 (g k) (by rw [List.length_append, List.length_append, vb_len, v1]; omega) (by omega)
          have fb := fa.tr b3
          simp only [a1, Option.bind_some, aim (M := Ma) (k := 4) (j := k) (show k < 24 by omega) (by decide), ga, b1]
          have hl0 : (B ++ sbs u f g k ++ vb (nI k) ++ vb (g k)).length ≤ B.length + 10 * k + 2 := by simp only [List.length_append, vb_len, v1, v2]; omega
          have hst1 : B ++ sbs u f g k ++ vb (nI k) ++ vb (g k) ++ chs f (8 * k) ln = B ++ sbs u f g (k + 1) := by
            rw [sbs, if_neg h0]; unfold st1; rw [hun]; simp only [List.append_assoc]
          generalize B ++ sbs u f g k ++ vb (nI k) ++ vb (g k) = B0 at *
          have loop : ∀ m2 j (Mj : mm_M), fm [36, 38] [23, 24] M Mj → mo Mj (B0 ++ chs f (8 * k) j) → j ≤ ln → ln - j < m2 → ∃ M', pf_X9_writeOut_149 G N (pf_X9_writeOut_111 G N m) m2 (nI i) (nI k) (nI j) Mj = pf_X9_writeOut_111 G N m (nI i) (nI (k + 1)) M' ∧ mo M' (B0 ++ chs f (8 * k) ln) ∧ fm [36, 38] [23, 24] M M' := by
            intro m2
            induction m2 with
            | zero => intro j Mj _ _ _ h; exact absurd h (Nat.not_lt_zero _)
            | succ m2 ih2 =>
              intro j Mj fj oj hj hm2
              rw [pf_X9_writeOut_149]
              have gj : Mj.2 4 k = nI ln := by rw [fj.2 4 (by decide), hg]; exact q2
              simp only [aim (M := Mj) (k := 4) (j := k) (show k < 24 by omega) (by decide), Option.bind_some, gj, i8k]
              by_cases hjl : j = ln
              · subst hjl
                rw [if_pos (Int32.le_refl _), nI_1]
                exact ⟨Mj, rfl, oj, fj⟩
              · rw [if_neg (nI_ge (by omega) (by omega))]
                have hv : Mj.2 3 (8 * k + j) = f (8 * k + j) := by rw [fj.2 3 (by decide), hf]
                obtain ⟨Mc, c1, c2, c3⟩ := md_out (G := G) (N := N) oj (f (8 * k + j)) (by rw [List.length_append, chs_len]; omega)
                simp only [aim (M := Mj) (k := 3) (j := 8 * k + j) (show 8 * k + j < 192 by omega) (by decide), Option.bind_some, hv, c1, nI_1]
                exact ih2 (j + 1) Mc (fj.tr (c3.wd (by decide) (by decide))) (by rw [chs, ← List.append_assoc]; exact c2) (by omega) (by omega)
          obtain ⟨Mc, c1, c2, c3⟩ := loop N 0 Mb fb (by rw [chs, List.append_nil]; exact b2) (Nat.zero_le _) (by omega)
          have c1' : pf_X9_writeOut_149 G N (pf_X9_writeOut_111 G N m) N (nI i) (nI k) 0 Mb = pf_X9_writeOut_111 G N m (nI i) (nI (k + 1)) Mc := c1
          rw [c1']
          rw [hst1] at c2
          exact ih (k + 1) Mc c3 c2 (by omega) (by omega)
  -- how many
  have hcnt : ∀ m k (Mk : mm_M), fm [36, 38] [23, 24] M Mk → k ≤ 24 → 24 - k < m → pf_X9_writeOut_79 G N m (nI i) (nI (cnu u k)) (nI k) Mk = (pf_X9_outVariable G N Mk (nI (cnu u 24))).bind fun S1 => pf_X9_writeOut_111 G N N (nI i) 0 S1 := by
    intro m
    induction m with
    | zero => intro k Mk _ _ h; exact absurd h (Nat.not_lt_zero _)
    | succ m ih =>
      intro k Mk fk hk hm
      rw [pf_X9_writeOut_79]
      by_cases h24 : k = 24
      · subst h24
        rw [if_pos (show (24 : Int32) ≤ nI 24 by decide)]
      · rw [if_neg (show ¬ (24 : Int32) ≤ nI k from nI_ge (b := 24) (by omega) (by decide))]
        have huk := hu k (by omega)
        have hub : (Mk.2 15 i >>> (nI k &&& 31)) &&& 1 = u k := by rw [fk.2 15 (by decide)]; exact huk.1.symm
        simp only [aim (M := Mk) (k := 15) (j := i) hi (by decide), Option.bind_some, hub, nI_1]
        have e : nI (cnu u k) + u k = nI (cnu u (k + 1)) := by
          rw [cnu]
          by_cases h0 : u k = 0
          · rw [if_pos h0, h0, Int32.add_zero]
          · have hu1 : u k = 1 := by
              rw [huk.1] at h0 ⊢
              exact (ubit_01 _ _).resolve_left h0
            rw [if_neg h0, hu1, nI_1]
        rw [e]
        exact ih (k + 1) Mk fk (by omega) (by omega)
  -- the bytes
  generalize hB0 : out ++ [70] ++ vb (M.2 12 i) ++ vb (M.2 13 i) ++ vb (M.2 14 i) = B0 at *
  have hdat : ∀ m k (Mk : mm_M), fm [36, 38] [23, 24] M Mk → mo Mk (B0 ++ l.take k) → k ≤ l.length → l.length - k < m → ∃ M', pf_X9_writeOut_38 G N m (nI i) (nI k) Mk = some M' ∧ mo M' (B0 ++ l ++ [0] ++ vb (nI (cnu u 24)) ++ sbs u f g 24) ∧ fm [36, 38] [23, 24] M M' := by
    intro m
    induction m with
    | zero => intro k Mk _ _ _ h; exact absurd h (Nat.not_lt_zero _)
    | succ m ih =>
      intro k Mk fk ok hk hm
      have e11 : Mk.2 11 i = nI l.length := by rw [fk.2 11 (by decide)]; exact d1
      rw [pf_X9_writeOut_38]
      simp only [aim (M := Mk) (k := 11) (j := i) hi (by decide), Option.bind_some, e11, i600]
      by_cases hlt : k < l.length
      · rw [if_neg (nI_ge hlt (by omega))]
        have hv : Mk.2 10 (600 * i + k) = l.getD k 0 := by rw [fk.2 10 (by decide)]; exact d3 k hlt
        obtain ⟨Mc, c1, c2, c3⟩ := md_out (G := G) (N := N) ok (l.getD k 0) (by rw [List.length_append, tk_len (by omega)]; omega)
        simp only [aim (M := Mk) (k := 10) (j := 600 * i + k) (show 600 * i + k < 4200 by omega) (by decide), Option.bind_some, hv, c1, nI_1]
        exact ih (k + 1) Mc (fk.tr (c3.wd (by decide) (by decide))) (by rw [tk_s hlt, ← List.append_assoc]; exact c2) (by omega) (by omega)
      · rw [if_pos (nI_le (by omega) (by omega))]
        have hke : k = l.length := by omega
        rw [hke, List.take_length] at ok
        obtain ⟨Ma, a1, a2, a3⟩ := md_out (G := G) (N := N) ok 0 (by rw [List.length_append]; omega)
        have fa := fk.tr (a3.wd (X' := [36, 38]) (Y' := [23, 24]) (by decide) (by decide))
        simp only [a1, Option.bind_some]
        obtain ⟨Mb, b1, b2, b3⟩ := md_ov (G := G) (N := N) a2 (nI (cnu u 24)) (by simp only [List.length_append, List.length_cons, List.length_nil]; omega) (by omega)
        have hc79 : pf_X9_writeOut_79 G N N (nI i) 0 0 Ma = _ := hcnt N 0 Ma fa (Nat.zero_le _) (by omega)
        rw [hc79, b1]
        simp only [Option.bind_some]
        obtain ⟨Mc, c1, c2, c3⟩ := hstr (B0 ++ l ++ [0] ++ vb (nI (cnu u 24))) (by simp only [List.length_append, List.length_cons, List.length_nil, vb_len, v24]; omega) N 0 Mb (fa.tr b3) (by rw [sbs, List.append_nil]; exact b2) (Nat.zero_le _) (by omega)
        exact ⟨Mc, c1, c2, c3⟩
  obtain ⟨M5, e5, o5, f5⟩ := hdat N 0 M4 f4 (by rw [List.take_zero, List.append_nil]; exact o4) (Nat.zero_le _) (by omega)
  refine ⟨M5, ?_, ?_, f5⟩
  · unfold pf_X9_writeOut
    simp only [e1, Option.bind_some, aim (k := 12) (j := i) (show i < 7 from hi) (by decide), f1.2 12 (by decide), e2, aim (k := 13) (j := i) (show i < 7 from hi) (by decide), f2.2 13 (by decide), e3, aim (k := 14) (j := i) (show i < 7 from hi) (by decide), f3.2 14 (by decide), e4]
    exact e5
  · have : out ++ ckB l (M.2 12 i) (M.2 13 i) (M.2 14 i) u f g = B0 ++ l ++ [0] ++ vb (nI (cnu u 24)) ++ sbs u f g 24 := by rw [← hB0]; unfold ckB; simp only [List.append_assoc]
    rw [this]; exact o5
end DM2
