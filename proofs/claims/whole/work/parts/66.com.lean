/-! commit: its pieces -/
def zz (v : Int32) : Int32 := if v < 0 then (-2) * v - 1 else 2 * v
def sel (a b c : Int32) (j : Nat) : Int32 := if j = 0 then a else if j = 1 then b else c
def zzs (a b c : Int32) : Nat → List Int32
  | 0 => []
  | j + 1 => zzs a b c j ++ vb (zz (sel a b c j))
theorem zzs_len (a b c : Int32) : ∀ j, (zzs a b c j).length ≤ 5 * j := by
  intro j
  induction j with
  | zero => exact Nat.le_refl _
  | succ j ih =>
    have := (vl_le (un (zz (sel a b c j)))).2
    rw [zzs, List.length_append, vb_len]; omega
theorem zzs_b (a b c : Int32) : ∀ j, bts (zzs a b c j) := by
  intro j
  induction j with
  | zero => exact bts_nil
  | succ j ih => rw [zzs]; exact bts_app ih (vb_isb _)
theorem zzs_min (a b c : Int32) (k j : Nat) : zzs a b c (min k (j + 1)) = if k ≤ j then zzs a b c (min k j) else zzs a b c (min k j) ++ vb (zz (sel a b c j)) := by
  by_cases h : k ≤ j
  · rw [if_pos h, Nat.min_eq_left h, Nat.min_eq_left (by omega)]
  · rw [if_neg h, Nat.min_eq_right (show j + 1 ≤ k by omega), Nat.min_eq_right (show j ≤ k by omega), zzs]
def sB (w : Int32) : List Int32 := if w = -1 then [] else vb w
section COM
variable {G : Nat → ClassId} {N b p kl sz kc : Nat} {S : mw_M} {M : mm_M}
theorem zz_c (v : Int32) : pf_X8_zigzag G N S v = some (zz v, S) := by
  unfold pf_X8_zigzag zz
  by_cases h : v < 0
  · rw [if_pos h, if_pos h]
  · rw [if_neg h, if_neg h]
theorem zz_m (v : Int32) : pf_X9_zigzag G N M v = some (zz v, M) := by
  unfold pf_X9_zigzag zz
  by_cases h : v < 0
  · rw [if_neg (fun z => absurd h (Int32.not_lt.mpr z)), if_pos h]
  · rw [if_pos (Int32.not_lt.mp h), if_neg h]
/-- whom the event interests -/
theorem int_l {x7 x3 : Int32} {nr t : Nat} (h1 : g_main S b p kl sz x7 (M.1 29) x3) (h6 : g_rec G S b M) (hnr : M.1 29 = nI nr) (hn4 : nr ≤ 4) (ht : t < 6) (d : Int32) : ∀ (n r : Nat) (y y' : Int32), r ≤ nr → nr - r < n → (y' = 0 ∧ y = 2 ∨ y' = 1 ∧ y = 3) → ∃ v, pf_X8_interestIn_5 G N n b (nI t) d y (nI r) S = some (v, S) ∧ pf_X9_unwanted_5 G N n (nI t) d y' (nI r) M = some (v, M) ∧ (v = 0 ∨ v = 2 ∨ v = 3) := by
  obtain ⟨⟨g, a1, a2⟩, -, e4⟩ := h6
  intro n
  induction n with
  | zero => intro r y y' _ h; exact absurd h (Nat.not_lt_zero _)
  | succ n ih =>
    intro r y y' hr hn hy
    rw [pf_X8_interestIn_5, pf_X9_unwanted_5]
    rw [hnr] at h1 ⊢
    simp only [gi_q (k := 8) h1 rfl, gr_q (k := 7) h1 rfl, Option.bind_some]
    by_cases hlt : r < nr
    · rw [if_neg (nI_ge hlt (by omega)), if_neg (nI_ge hlt (by omega)), i6k]
      obtain ⟨la, f, w, q1, q2, -⟩ := e4 r (by omega)
      simp only [aq_q a1 (show r < 4 by omega) (by decide) (a2 r (by omega)), Option.bind_some, v_q _ q1.1, rec_is q1, rec_isOn q1 ht, rec_ld q1 ht, mw_b2, aim (M := M) (k := 18) (j := r) (show r < 4 by omega) (by decide), aim (M := M) (k := 19) (j := 6 * r + t) (show _ < 24 by omega) (by decide), aim (M := M) (k := 20) (j := 6 * r + t) (show _ < 24 by omega) (by decide), nI_1]
      rw [(q2 t ht).1, (q2 t ht).2]
      by_cases c1 : M.2 18 r = 1
      · rw [if_pos c1, if_neg (show ¬ (1 : Int32) = 0 by decide), if_neg (show ¬ ¬ M.2 18 r = 1 from fun z => z c1)]
        by_cases c2 : M.2 19 (6 * r + t) = 0
        · rw [if_pos c2, if_neg (show ¬ (1 : Int32) = 0 by decide), if_neg (show ¬ ¬ M.2 19 (6 * r + t) = 0 from fun z => z c2)]
          by_cases c3 : d < M.2 20 (6 * r + t)
          · rw [if_pos c3, if_pos c3]
            exact ih (r + 1) 3 1 hlt (by omega) (Or.inr ⟨rfl, rfl⟩)
          · rw [if_neg c3, if_neg c3]
            exact ⟨0, rfl, rfl, Or.inl rfl⟩
        · rw [if_neg c2, if_pos (show (0 : Int32) = 0 from rfl), if_pos (show ¬ M.2 19 (6 * r + t) = 0 from c2)]
          exact ih (r + 1) y y' hlt (by omega) hy
      · rw [if_neg c1, if_pos (show (0 : Int32) = 0 from rfl), if_pos (show ¬ M.2 18 r = 1 from c1)]
        exact ih (r + 1) y y' hlt (by omega) hy
    · rw [if_pos (nI_le (by omega) (by omega)), if_pos (nI_le (by omega) (by omega))]
      rcases hy with ⟨rfl, rfl⟩ | ⟨rfl, rfl⟩
      · rw [if_pos rfl]; exact ⟨2, rfl, rfl, Or.inr (Or.inl rfl)⟩
      · rw [if_neg (show ¬ (1 : Int32) = 0 by decide)]; exact ⟨3, rfl, rfl, Or.inr (Or.inr rfl)⟩
/-- the payload -/
theorem cmp {x7 x29 x3 : Int32} {e : Nat → Int32} {P t k : Nat} {l : List Int32} (hP : P = b + 36 + 2 * p + 4 * kl + 6) (h1 : g_main S b p kl sz x7 x29 x3) (hi : S.1 (b + 19) = some (.inl (G 0, 6, .inl e))) (h9 : br_R G S P 27 l) (ht : t < 6) (hk : k ≤ 3) (he : e t = nI k) (tick w x y z : Int32) (hw : (sB w).length ≤ 1) (hN : 6 ≤ N) : ∃ S', pf_X8_compose G N S b (nI t) tick w x y z = some S' ∧ br_R G S' P 27 (vb (nI t) ++ vb tick ++ vb (x3 - tick) ++ zzs x y z k ++ sB w) ∧ sm_p (br_X P) S S' := by
  have hb : ¬ br_X P b := by intro w; rcases w with w | w <;> omega
  have hb' : ¬ br_X P (b + 19) := by intro w; rcases w with w | w <;> omega
  have l1 : (vb (nI t)).length = 1 := by rw [vb_len, vl_nI (by omega)]
  have l2 : (vb tick).length ≤ 5 := by rw [vb_len]; exact (vl_le _).2
  have l3 : (vb (x3 - tick)).length ≤ 5 := by rw [vb_len]; exact (vl_le _).2
  obtain ⟨S0, e0, b0, s0⟩ := br_clear (N := N) h9
  have m0 := h1.k s0 hb
  obtain ⟨S1, e1, b1, s1⟩ := br_addV (N := N) b0 (nI t) (by rw [vl_nI (by omega)]; decide) hN
  have m1 := m0.k s1 hb
  rw [List.nil_append] at b1
  obtain ⟨S2, e2, b2, s2⟩ := br_addV (N := N) b1 tick (by rw [← vb_len]; omega) hN
  have m2 := m1.k s2 hb
  obtain ⟨S3, e3, b3, s3⟩ := br_addV (N := N) b2 (x3 - tick) (by rw [← vb_len, List.length_append]; omega) hN
  have m3 := m2.k s3 hb
  have s03 := ((s0.tr s1).tr s2).tr s3
  have i3 : S3.1 (b + 19) = some (.inl (G 0, 6, .inl e)) := (s03.1 _ hb').trans hi
  generalize hB : vb (nI t) ++ vb tick ++ vb (x3 - tick) = B at *
  have lB : B.length ≤ 11 := by rw [← hB, List.length_append, List.length_append]; omega
  have hst : ∀ (j : Nat) (v : Int32) (Sj : mw_M), j < 3 → sel x y z j = v → br_R G Sj P 27 (B ++ zzs x y z (min k j)) → ¬ k ≤ j → ∃ S', pf_X0_addVariable G N Sj P (zz v) = some S' ∧ br_R G S' P 27 (B ++ zzs x y z (min k (j + 1))) ∧ sm_p (br_X P) Sj S' := by
    intro j v Sj hj hv hb hkj
    have := zzs_len x y z (min k j)
    have h5 := (vl_le (un (zz v))).2
    have hm : min k j = j := Nat.min_eq_right (by omega)
    obtain ⟨S', q1, q2, q3⟩ := br_addV (N := N) hb (zz v) (by rw [List.length_append, hm]; rw [hm] at this; omega) hN
    refine ⟨S', q1, ?_, q3⟩
    rw [zzs_min, if_neg hkj, hv, ← List.append_assoc]; exact q2
  have hfin : ∀ (Sj : mw_M), g_main Sj b p kl sz x7 x29 x3 → br_R G Sj P 27 (B ++ zzs x y z (min k 3)) → sm_p (br_X P) S Sj → ∃ S', pf_X8_compose_101 G N b w Sj = some S' ∧ br_R G S' P 27 (B ++ zzs x y z k ++ sB w) ∧ sm_p (br_X P) S S' := by
    intro Sj mj bj sj
    have hk3 : min k 3 = k := Nat.min_eq_left hk
    rw [hk3] at bj
    unfold pf_X8_compose_101
    unfold sB at hw ⊢
    by_cases hw1 : w = -1
    · rw [if_pos hw1, if_pos hw1]
      exact ⟨Sj, rfl, by rw [List.append_nil]; exact bj, sj⟩
    · rw [if_neg hw1] at hw ⊢
      rw [if_neg hw1]
      have hz := zzs_len x y z k
      obtain ⟨S', q1, q2, q3⟩ := br_addV (N := N) bj w (by rw [← vb_len, List.length_append]; omega) hN
      simp only [gr_q (k := 11) mj rfl, ← hP, Option.bind_some, v_q _ bj.1, q1]
      exact ⟨S', rfl, q2, sj.tr q3⟩
  have h79 : ∀ (Sj : mw_M), g_main Sj b p kl sz x7 x29 x3 → br_R G Sj P 27 (B ++ zzs x y z (min k 2)) → sm_p (br_X P) S Sj → ∃ S', pf_X8_compose_79 G N b (nI t) w z Sj = some S' ∧ br_R G S' P 27 (B ++ zzs x y z k ++ sB w) ∧ sm_p (br_X P) S S' := by
    intro Sj mj bj sj
    have ij : Sj.1 (b + 19) = some (.inl (G 0, 6, .inl e)) := (sj.1 _ hb').trans hi
    unfold pf_X8_compose_79
    simp only [gr_q (k := 4) mj rfl, Option.bind_some, ai_q ij ht (by decide), he]
    by_cases hc : k ≤ 2
    · rw [if_pos (show nI k ≤ 2 from nI_le (b := 2) hc (by decide))]
      refine hfin Sj mj ?_ sj
      rw [zzs_min, if_pos hc]; exact bj
    · rw [if_neg (show ¬ nI k ≤ 2 from nI_ge (a := 2) (by omega) (by omega))]
      obtain ⟨S', q1, q2, q3⟩ := hst 2 z Sj (by omega) rfl bj hc
      simp only [gr_q (k := 11) mj rfl, ← hP, Option.bind_some, v_q _ bj.1, zz_c, mw_b2, q1]
      exact hfin S' (mj.k q3 hb) q2 (sj.tr q3)
  have h57 : ∀ (Sj : mw_M), g_main Sj b p kl sz x7 x29 x3 → br_R G Sj P 27 (B ++ zzs x y z (min k 1)) → sm_p (br_X P) S Sj → ∃ S', pf_X8_compose_57 G N b (nI t) w y z Sj = some S' ∧ br_R G S' P 27 (B ++ zzs x y z k ++ sB w) ∧ sm_p (br_X P) S S' := by
    intro Sj mj bj sj
    have ij : Sj.1 (b + 19) = some (.inl (G 0, 6, .inl e)) := (sj.1 _ hb').trans hi
    unfold pf_X8_compose_57
    simp only [gr_q (k := 4) mj rfl, Option.bind_some, ai_q ij ht (by decide), he]
    by_cases hc : k ≤ 1
    · rw [if_pos (show nI k ≤ 1 from nI_le (b := 1) hc (by decide))]
      refine h79 Sj mj ?_ sj
      rw [zzs_min, if_pos hc]; exact bj
    · rw [if_neg (show ¬ nI k ≤ 1 from nI_ge (a := 1) (by omega) (by omega))]
      obtain ⟨S', q1, q2, q3⟩ := hst 1 y Sj (by omega) rfl bj hc
      simp only [gr_q (k := 11) mj rfl, ← hP, Option.bind_some, v_q _ bj.1, zz_c, mw_b2, q1]
      exact h79 S' (mj.k q3 hb) q2 (sj.tr q3)
  unfold pf_X8_compose
  simp only [gr_q (k := 11) h1 rfl, ← hP, Option.bind_some, v_q _ h9.1, e0, gr_q (k := 11) m0 rfl, v_q _ b0.1, e1, gr_q (k := 11) m1 rfl, v_q _ b1.1, e2, gr_q (k := 11) m2 rfl, gi_q (k := 13) m2 rfl, v_q _ b2.1, e3, gr_q (k := 4) m3 rfl, ai_q i3 ht (by decide), he]
  by_cases hc : k ≤ 0
  · rw [if_pos (show nI k ≤ 0 from nI_le (b := 0) hc (by decide))]
    refine h57 S3 m3 ?_ s03
    rw [zzs_min, if_pos hc, Nat.min_eq_right (Nat.zero_le _), zzs, List.append_nil]; exact b3
  · rw [if_neg (show ¬ nI k ≤ 0 from nI_ge (a := 0) (by omega) (by omega))]
    obtain ⟨S', q1, q2, q3⟩ := hst 0 x S3 (by omega) rfl (by rw [Nat.min_eq_right (Nat.zero_le _), zzs, List.append_nil]; exact b3) hc
    simp only [gr_q (k := 11) m3 rfl, ← hP, Option.bind_some, v_q _ b3.1, zz_c, mw_b2, q1]
    exact h57 S' (m3.k q3 hb) q2 (s03.tr q3)
end COM
