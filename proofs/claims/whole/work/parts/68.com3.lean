/-! commit: room and string on both sides -/
theorem rg_ne {p fi i j : Nat} (h : fi < p) (hi : i < p) (hj : j < p) (hij : i ≠ j) : (fi + i) % p ≠ (fi + j) % p := by
  by_cases h1 : fi + i < p
  · rw [Nat.mod_eq_of_lt h1]
    by_cases h2 : fi + j < p
    · rw [Nat.mod_eq_of_lt h2]; omega
    · rw [Nat.mod_eq_sub_mod (by omega), Nat.mod_eq_of_lt (by omega)]; omega
  · rw [Nat.mod_eq_sub_mod (by omega), Nat.mod_eq_of_lt (by omega)]
    by_cases h2 : fi + j < p
    · rw [Nat.mod_eq_of_lt h2]; omega
    · rw [Nat.mod_eq_sub_mod (by omega), Nat.mod_eq_of_lt (by omega)]; omega
theorem kpf_out (f t : Nat → Int32) (o : Nat) : ∀ m q, (q < o ∨ o + m ≤ q) → kpf f t o m q = f q := by
  intro m
  induction m with
  | zero => intro q _; rfl
  | succ m ih => intro q hq; rw [kpf, pk_un (by omega)]; exact ih q (by omega)
theorem kpf_in (f t : Nat → Int32) (o : Nat) : ∀ m j, j < m → kpf f t o m (o + j) = t j := by
  intro m
  induction m with
  | zero => intro j h; exact absurd h (Nat.not_lt_zero _)
  | succ m ih =>
    intro j hj
    rw [kpf]
    by_cases h : j = m
    · subst h; rw [pk_us]
    · rw [pk_un (by omega)]; exact ih j (by omega)
theorem st_K.kp {ns n : Nat} {f g t : Nat → Int32} (h : st_K ns f g) (hns : ns < 24) (ht : ∀ i, i < n → okc (t i)) : st_K (ns + 1) (kpf f t (8 * ns) (min n 8)) (upd g ns (nI (min n 8))) := by
  refine ⟨hns, fun k hk => ?_⟩
  by_cases hkn : k = ns
  · subst hkn
    exact ⟨min n 8, Nat.min_le_right _ _, pk_us, fun j hj => by rw [kpf_in _ _ _ _ _ hj]; exact ht j (by omega)⟩
  · obtain ⟨l, q1, q2, q3⟩ := h.2 k (by omega)
    exact ⟨l, q1, by rw [pk_un hkn]; exact q2, fun j hj => by rw [kpf_out _ _ _ _ _ (by omega)]; exact q3 j hj⟩
section COM
variable {G : Nat → ClassId} {N b p kl sz kc : Nat} {S : mw_M} {M : mm_M}
theorem com_room {x7 x29 x3 : Int32} {P t fi fu : Nat} {pl : List Int32} {pb bf : Nat → List Int32} (hP : P = b + 36 + 2 * p + 4 * kl + 6) (h1 : g_main S b p kl sz x7 x29 x3) (hpl : br_R G S P 27 pl) (ht : t < 3) (hl : br_R G S (b + 7 + 4 * t + 2) sz (bf t)) (po : po_R G S (b + 34) p fi fu sz pb) (hp : p ≤ 4) (hfu : fu ≤ p) (hfi : p = 0 ∨ fi < p) (hs : sz ≤ 60) (hring : ∀ k, k < fu → pb ((fi + k) % p) = bf (3 + k)) (hfree : ∀ k, fu ≤ k → k < p → pb ((fi + k) % p) = []) (hbl : ∀ i, i < 7 → (bf i).length ≤ sz) (hbb : ∀ i, i < 7 → bts (bf i)) (hfit : pl.length + 1 ≤ sz) (hor : (bf t).length + (pl.length + 1) ≤ sz ∨ fu < p) (hN : 61 ≤ N) (y14 : Int32) (hy : y14 = if (bf t).length + (pl.length + 1) ≤ sz then 0 else 1) : ∃ S' fu' pb' bf', pf_X8_makeRoom G N S b (b + 7 + 4 * t + 2) = some (1, S') ∧ po_R G S' (b + 34) p fi fu' sz pb' ∧ br_R G S' (b + 7 + 4 * t + 2) sz (bf' t) ∧ (bf' t).length + (pl.length + 1) ≤ sz ∧ fu' ≤ p ∧ (∀ k, k < fu' → pb' ((fi + k) % p) = bf' (3 + k)) ∧ (∀ k, fu' ≤ k → k < p → pb' ((fi + k) % p) = []) ∧ (∀ i, i < 7 → (bf' i).length ≤ sz ∧ bts (bf' i)) ∧ (∀ u, u < 3 → u ≠ t → bf' u = bf u) ∧ sm_p (fun q => po_X (b + 34) p q ∨ br_X (b + 7 + 4 * t + 2) q) S S' ∧ ∀ Mb : mm_M, mbs Mb bf → Mb.1 18 = nI fu → (∀ i, 3 + fu ≤ i → i < 7 → bf i = [] ∧ Mb.2 9 i = 0) → ∃ Mc, pf_X9_commit_469 G N (nI t) y14 Mb = pf_X9_commit_498 G N N (nI t) 0 Mc ∧ mbs Mc bf' ∧ Mc.1 18 = nI fu' ∧ esum (Mc.2 9) = esum (Mb.2 9) ∧ (∀ i, 3 + fu' ≤ i → i < 7 → bf' i = [] ∧ Mc.2 9 i = 0) ∧ fm [18] [7, 8, 9] Mb Mc := by
  obtain ⟨-, r2, -, r4⟩ := mkr (N := N) hP h1 hpl hl po (by omega) hp hfu hfi hs (fun w => hfree fu (Nat.le_refl _) w) hN
  by_cases hc : (bf t).length + (pl.length + 1) ≤ sz
  · rw [if_pos hc] at hy
    refine ⟨S, fu, pb, bf, r2 hfit hc, po, hl, hc, hfu, hring, hfree, fun i hi => ⟨hbl i hi, hbb i hi⟩, fun _ _ _ => rfl, sm_p.rf _ S, fun Mb hB h18 h9 => ⟨Mb, ?_, hB, h18, rfl, h9, fm.rf _ _ Mb⟩⟩
    rw [pf_X9_commit_469, if_pos hy]
  · rw [if_neg hc] at hy
    have hfp : fu < p := by omega
    have hfi' : fi < p := by omega
    obtain ⟨S', q1, q2, q3, q4⟩ := r4 hfit (by omega) hfp
    refine ⟨S', fu + 1, va_up pb ((fi + fu) % p) (bf t), va_up (va_up bf (3 + fu) (bf t)) t [], q1, q2, by rw [va_up_self]; exact q3, by rw [va_up_self, List.length_nil]; omega, by omega, fun k hk => ?_, fun k hk hkp => ?_, fun i hi => ?_, fun u hu hut => ?_, q4, fun Mb hB h18 h9 => ?_⟩
    · by_cases hkf : k = fu
      · subst hkf
        rw [va_up_self, va_up_ne _ _ (by omega), va_up_self]
      · rw [va_up_ne _ _ (rg_ne hfi' (by omega) (by omega) hkf), va_up_ne _ _ (by omega), va_up_ne _ _ (by omega)]
        exact hring k (by omega)
    · rw [va_up_ne _ _ (rg_ne hfi' hkp (by omega) (by omega))]
      exact hfree k (by omega) hkp
    · by_cases hit : i = t
      · subst hit; rw [va_up_self]; exact ⟨Nat.zero_le _, bts_nil⟩
      · rw [va_up_ne _ _ hit]
        by_cases hif : i = 3 + fu
        · subst hif; rw [va_up_self]; exact ⟨hbl t (by omega), hbb t (by omega)⟩
        · rw [va_up_ne _ _ hif]; exact ⟨hbl i hi, hbb i hi⟩
    · rw [va_up_ne _ _ hut, va_up_ne _ _ (by omega)]
    · obtain ⟨M1, e1, b1, g9, f1⟩ := md_move (G := G) (N := N) hB (show t < 7 by omega) (show 3 + fu < 7 by omega) (by omega) hN
      refine ⟨(va_up M1.1 18 (nI (fu + 1)), M1.2), ?_, b1, rfl, ?_, fun i w1 w2 => ⟨?_, ?_⟩, (f1.wd (X' := [18]) (by simp) (by decide)).pf (j := 18) (by decide) _⟩
      · rw [pf_X9_commit_469, hy, if_neg (show ¬ (1 : Int32) = 0 by decide), h18, show (3 : Int32) + nI fu = nI (3 + fu) from (nI_add (a := 3) (b := fu)), e1]
        simp only [Option.bind_some, mm_pf, f1.1 18 (by simp), h18, nI_1]
      · show esum (M1.2 9) = _
        rw [g9]
        exact esum_mv2 (Mb.2 9) ht (by omega) (by omega) (h9 (3 + fu) (by omega) (by omega)).2
      · rw [va_up_ne _ _ (by omega), va_up_ne _ _ (by omega)]; exact (h9 i (by omega) w2).1
      · show M1.2 9 i = 0
        rw [g9, pk_un (by omega), pk_un (by omega)]; exact (h9 i (by omega) w2).2
def ctail (G : Nat → ClassId) (N y0 : Nat) (w0 : Int32) (S13 : mw_M) : Option (Int32 × mw_M) :=
  if w0 = (-1) then
    some (0, S13)
  else
    (mw_gr S13 y0 8 2).bind fun v14 =>
    (mw_gr S13 y0 8 1).bind fun v15 =>
    (mw_v S13 v14 6 (pf_X6_keep G N S13 v14 w0 v15)).bind fun S16 =>
    (mw_gr S16 y0 8 10).bind fun v17 =>
    mw_b2 (mw_v S16 v17 2 (pf_X2_open G N S16 v17)) fun v18 S18 =>
    (mw_v S18 v18 1 (pf_X1_use G N S18 v18 w0)).bind fun S19 =>
    some (0, S19)
theorem com_str {x7 x29 x3 ev : Int32} {n ns c kp ty k : Nat} {tx f3 f4 : Nat → Int32} {ad : Nat → Nat} {L : Nat → List Int32} {X Y Z : Nat → Int32} {U : Nat → Nat → Int32} (h1 : g_main S b p kl sz x7 x29 x3) (hst : st_R G S (b + 3) ns f3 f4) (hK : st_K ns f3 f4) (htx : tx_R G S (b + 1) n tx) (cs : cs_R G S (b + 36 + 2 * p) kl c kp ev ad L X Y Z U) (hkp : kp < kl + 1) (hkl : kl < 10) (hty : ty < 6) (y7 w y10 y11 : Int32) (hcase : (y7 = 0 ∧ w = -1) ∨ (¬ y7 = 0 ∧ ∃ s, s ≤ ns ∧ s < 24 ∧ w = nI s ∧ y11 = nI s ∧ y10 = if s < ns then nI s else -1)) (hN : 30 ≤ N) : ∃ S' ns' f3' f4' u', ctail G N b w S = some (0, S') ∧ st_R G S' (b + 3) ns' f3' f4' ∧ st_K ns' f3' f4' ∧ cs_R G S' (b + 36 + 2 * p) kl c kp ev ad L X Y Z (va_up U kp u') ∧ sm_p (fun q => st_X (b + 3) q ∨ ck_X (ad kp) q) S S' ∧ ns ≤ ns' ∧ (∀ i, u' i = U kp i ∨ i < ns') ∧ ∀ (Ma : mm_M) (e : List Int32) (y1 y2 y3 y4 y14 : Int32) (fuel : Nat), Ma.1 10 = nI ns → Ma.2 3 = f3 → Ma.2 4 = f4 → Ma.2 0 = tx → (∀ s, s < 24 → U kp s = ubit (Ma.2 15 6) s) → Ma.1 38 = nI e.length → sg_at (Ma.2 24) 0 e → e.length + 1 ≤ 64 → Ma.2 1 ty = nI k → ∃ Mb, pf_X9_commit_385 G N (fuel + 1) y1 (nI ty) y2 y3 y4 (nI (min n 8)) y7 y10 y11 y14 (nI k) Ma = pf_X9_commit_469 G N y1 y14 Mb ∧ Mb.1 10 = nI ns' ∧ Mb.2 3 = f3' ∧ Mb.2 4 = f4' ∧ (∀ s, s < 24 → u' s = ubit (Mb.2 15 6) s) ∧ (∀ i, i ≠ 6 → Mb.2 15 i = Ma.2 15 i) ∧ Mb.1 38 = nI (e ++ sB w).length ∧ sg_at (Mb.2 24) 0 (e ++ sB w) ∧ fm [10, 38] [3, 4, 15, 24] Ma Mb := by
  have a15 : ∀ M : mm_M, mm_ai M 15 6 = some (M.2 15 6) := fun M => aim (M := M) (k := 15) (j := 6) (by decide) (by decide)
  have s15 : ∀ (M : mm_M) (x : Int32), mm_si M 15 6 x = some (M.1, va_up M.2 15 (upd (M.2 15) 6 x)) := fun M x => sim (M := M) (k := 15) (j := 6) x (by decide) (by decide)
  rcases hcase with ⟨hy7, hw⟩ | ⟨hy7, s, hsn, hs24, hw, hy11, hy10⟩
  · refine ⟨S, ns, f3, f4, U kp, ?_, hst, hK, by rw [va_up_id]; exact cs, sm_p.rf _ S, Nat.le_refl _, fun _ => Or.inl rfl, fun Ma e y1 y2 y3 y4 y14 fuel m10 m3 m4 m0 mU m38 m24 me m1 => ⟨Ma, ?_, m10, m3, m4, mU, fun _ _ => rfl, ?_, ?_, fm.rf _ _ Ma⟩⟩
    · rw [ctail, if_pos hw]
    · rw [pf_X9_commit_385]
      simp only [aim (M := Ma) (k := 1) (j := ty) hty (by decide), Option.bind_some, m1]
      rw [if_pos (Int32.le_refl _), if_pos hy7]
    · rw [sB, if_pos hw, List.append_nil]; exact m38
    · rw [sB, if_pos hw, List.append_nil]; exact m24
  · have hw1 : ¬ w = -1 := by
      rw [hw]
      intro z
      have : s < 24 → nI s ≠ -1 := by
        have : ∀ s, s < 24 → nI s ≠ -1 := by decide
        exact this s
      exact this hs24 z
    have hsB : sB w = vb (nI s) := by rw [sB, if_neg hw1, hw]
    have hlen1 : vl (un (nI s)) = 1 := vl_nI (by omega)
    -- the reference's end is alike in both cases
    have hmod : ∀ (ns' : Nat) (f3' f4' : Nat → Int32), (∀ Mx : mm_M, Mx.1 10 = nI ns → Mx.2 3 = f3 → Mx.2 4 = f4 → Mx.2 0 = tx → ∃ My, pf_X9_keepString G N Mx y10 (nI (min n 8)) = some My ∧ My.1 10 = nI ns' ∧ My.2 3 = f3' ∧ My.2 4 = f4' ∧ fm [10] [3, 4] Mx My) → ∀ (Ma : mm_M) (e : List Int32) (y1 y2 y3 y4 y14 : Int32) (fuel : Nat), Ma.1 10 = nI ns → Ma.2 3 = f3 → Ma.2 4 = f4 → Ma.2 0 = tx → (∀ s, s < 24 → U kp s = ubit (Ma.2 15 6) s) → Ma.1 38 = nI e.length → sg_at (Ma.2 24) 0 e → e.length + 1 ≤ 64 → Ma.2 1 ty = nI k → ∃ Mb, pf_X9_commit_385 G N (fuel + 1) y1 (nI ty) y2 y3 y4 (nI (min n 8)) y7 y10 y11 y14 (nI k) Ma = pf_X9_commit_469 G N y1 y14 Mb ∧ Mb.1 10 = nI ns' ∧ Mb.2 3 = f3' ∧ Mb.2 4 = f4' ∧ (∀ i, i < 24 → upd (U kp) s 1 i = ubit (Mb.2 15 6) i) ∧ (∀ i, i ≠ 6 → Mb.2 15 i = Ma.2 15 i) ∧ Mb.1 38 = nI (e ++ sB w).length ∧ sg_at (Mb.2 24) 0 (e ++ sB w) ∧ fm [10, 38] [3, 4, 15, 24] Ma Mb := by
      intro ns' f3' f4' hkeep Ma e y1 y2 y3 y4 y14 fuel m10 m3 m4 m0 mU m38 m24 me m1
      obtain ⟨M1, e1, c1, c2, c3⟩ := md_var (G := G) (N := N) (nI s) m38 m24 (by rw [hlen1]; exact me) (by omega)
      obtain ⟨M2, e2, d1, d2, d3, d4⟩ := hkeep M1 ((c3.1 10 (by decide)).trans m10) ((c3.2 3 (by decide)).trans m3) ((c3.2 4 (by decide)).trans m4) ((c3.2 0 (by decide)).trans m0)
      have u15 : M2.2 15 = Ma.2 15 := (d4.2 15 (by decide)).trans (c3.2 15 (by decide))
      refine ⟨(M2.1, va_up M2.2 15 (upd (M2.2 15) 6 (M2.2 15 6 ||| ((1 : Int32) <<< (nI s &&& 31))))), ?_, d1, d2, d3, fun i hi => ?_, fun i hi => ?_, ?_, ?_, ?_⟩
      · rw [pf_X9_commit_385]
        simp only [aim (M := Ma) (k := 1) (j := ty) hty (by decide), Option.bind_some, m1]
        rw [if_pos (Int32.le_refl _), if_neg hy7, hy11, e1]
        simp only [Option.bind_some, e2, a15, s15]
      · show upd (U kp) s 1 i = ubit (upd (M2.2 15) 6 (M2.2 15 6 ||| ((1 : Int32) <<< (nI s &&& 31))) 6) i
        rw [pk_us, ubit_s _ hs24 hi, u15]
        by_cases his : i = s
        · subst his; rw [pk_us, if_pos rfl]
        · rw [pk_un his, if_neg his]; exact mU i hi
      · show upd (M2.2 15) 6 _ i = _
        rw [pk_un hi, u15]
      · rw [hsB]; exact (d4.1 38 (by decide)).trans c1
      · rw [hsB]
        show sg_at (M2.2 24) 0 _
        rw [d4.2 24 (by decide)]; exact c2
      · exact ((c3.wd (X' := [10, 38]) (Y' := [3, 4, 15, 24]) (by decide) (by decide)).tr (d4.wd (by decide) (by decide))).si (k := 15) (by decide) _
    obtain ⟨jA, hjA, hA⟩ := cs.2.2.1 kp hkp
    -- the class: use, behind keep
    have huse : ∀ S1 : mw_M, sm_p (st_X (b + 3)) S S1 → ∃ S', ((mw_gr S1 b 8 10).bind fun v17 => mw_b2 (mw_v S1 v17 2 (pf_X2_open G N S1 v17)) fun v18 S18 => (mw_v S18 v18 1 (pf_X1_use G N S18 v18 (nI s))).bind fun S19 => some ((0 : Int32), S19)) = some (0, S') ∧ cs_R G S' (b + 36 + 2 * p) kl c kp ev ad L X Y Z (va_up U kp (upd (U kp) s 1)) ∧ sm_p (ck_X (ad kp)) S1 S' := by
      intro S1 s1
      have m1 := h1.k s1 (by intro w; rcases w with w | w | w <;> omega)
      have cs1 := cs.sm s1 (fun q z1 z2 w => by rcases w with w | w | w <;> omega)
      have hc := cs1.2.2.2.2 kp hkp
      obtain ⟨S', q1, q2, q3⟩ := ck_use (N := N) hc hs24
      have cs2 := (cs_set cs1 hkp q2 q3).1
      rw [va_up_id, va_up_id, va_up_id, va_up_id] at cs2
      refine ⟨S', ?_, cs2, q3⟩
      simp only [gr_q (k := 10) m1 rfl, Option.bind_some, v_q _ cs1.1, cs_open cs1 hkp hkl, mw_b2, v_q _ hc.1, q1]
    have hup : ∀ n', s < n' → ∀ i, upd (U kp) s 1 i = U kp i ∨ i < n' := fun n' hn i => by
      by_cases hi : i = s
      · right; omega
      · left; exact pk_un hi
    by_cases hlt : s < ns
    · rw [if_pos hlt] at hy10
      obtain ⟨S', q1, q2, q3⟩ := huse S (sm_p.rf _ S)
      refine ⟨S', ns, f3, f4, upd (U kp) s 1, ?_, hst.sm q3 (by intro w; omega) (by intro w; omega) (by intro w; omega), hK, q2, q3.wd (fun q w => Or.inr w), Nat.le_refl _, hup ns hlt, hmod ns f3 f4 (fun Mx m10 m3 m4 m0 => ⟨Mx, by rw [hy10]; exact md_keep0 (by omega), m10, m3, m4, fm.rf _ _ Mx⟩)⟩
      rw [ctail, if_neg hw1, hw]
      simp only [gr_q (k := 2) h1 rfl, gr_q (k := 1) h1 rfl, Option.bind_some, v_q _ hst.1, st_keep0 hst hlt hK.1]
      exact q1
    · have hsn' : s = ns := by omega
      subst hsn'
      rw [if_neg hlt] at hy10
      obtain ⟨S1, w1, w2, w3⟩ := st_keep (N := N) hst htx hs24 (Or.inl (by omega)) (by omega)
      obtain ⟨S', q1, q2, q3⟩ := huse S1 w3
      refine ⟨S', s + 1, _, _, upd (U kp) s 1, ?_, w2.sm q3 (by intro w; omega) (by intro w; omega) (by intro w; omega), hK.kp hs24 htx.2.2.2, q2, (w3.wd (fun q w => Or.inl w)).tr (q3.wd (fun q w => Or.inr w)), Nat.le_succ _, hup (s + 1) (by omega), hmod (s + 1) _ _ (fun Mx m10 m3 m4 m0 => ?_)⟩
      · rw [ctail, if_neg hw1, hw]
        simp only [gr_q (k := 2) h1 rfl, gr_q (k := 1) h1 rfl, Option.bind_some, v_q _ hst.1, w1]
        exact q1
      · obtain ⟨My, r1, r2, r3, r4, r5⟩ := md_keep (G := G) (N := N) (M := Mx) (show min n 8 ≤ 8 from Nat.min_le_right _ _) hs24 m10 (fun i hi => by rw [m0]; exact htx.2.2.2 i (by omega)) (by omega)
        rw [m3, m0] at r2
        rw [m4] at r3
        exact ⟨My, by rw [hy10]; exact r1, r4, r2, r3, r5⟩
end COM
