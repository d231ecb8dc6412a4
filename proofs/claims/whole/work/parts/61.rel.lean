/-! how the class's cells and the reference's numbers belong together -/
def cbs (p sz : Nat) : Nat := 150 + (p + 3) * sz + 24
def ubit (w : Int32) (s : Nat) : Int32 := (w >>> (nI s &&& 31)) &&& 1
theorem ubit_0 : ∀ s, s < 24 → ubit 0 s = 0 := by decide +kernel
/-- a string's mark: the reference's bit, and only of a string that is kept -/
def uok (n10 v w : Int32) (s : Nat) : Prop := v = ubit w s ∧ (v = 0 ∨ ∃ ns, n10 = nI ns ∧ s < ns ∧ ns ≤ 24)
def bts (l : List Int32) : Prop := ∀ x ∈ l, isb x
theorem bts_nil : bts [] := fun x h => absurd h List.not_mem_nil
theorem bts_app {l m : List Int32} (h : bts l) (h2 : bts m) : bts (l ++ m) := fun x hx => (List.mem_append.mp hx).elim (h x) (h2 x)
theorem bts_cat {B : Nat → List Int32} : ∀ n, (∀ k, k < n → bts (B k)) → bts (cat B n) := by
  intro n
  induction n generalizing B with
  | zero => intro _; exact bts_nil
  | succ n ih => intro h; exact bts_app (h 0 (by omega)) (ih (fun k hk => h (k + 1) (by omega)))
theorem bts_loss (t n : Int32) : bts (lossB t n) := bts_app (bts_app (bts_app (vb_isb _) (fun x hx => by rw [List.mem_singleton.mp hx]; exact isb_n (n := 63) (by omega))) (vb_isb _)) (vb_isb _)
theorem bts_losses (e : Nat → Int32) : ∀ n t, bts (losses e n t) := by
  intro n
  induction n with
  | zero => intro t; exact bts_nil
  | succ n ih =>
    intro t
    rw [losses]
    refine bts_app ?_ (ih (t + 1))
    split
    · exact bts_nil
    · exact bts_loss _ _
def g_ths (G : Nat → ClassId) (S : mw_M) (b sz : Nat) (M : mm_M) (bf : Nat → List Int32) : Prop := g_tha G S b ∧ ∀ t, t < 3 → ∃ f : Nat → Int32, th_R G S (b + 7 + 4 * t) (M.2 5 t) (M.2 16 t) (M.2 17 t) f sz (bf t) ∧ ∀ i, i < 3 → f i = M.2 6 (3 * t + i)
def g_pool (G : Nat → ClassId) (S : mw_M) (b p sz : Nat) (M : mm_M) (bf : Nat → List Int32) : Prop := ∃ fi fu pb, po_R G S (b + 34) p fi fu sz pb ∧ M.1 18 = nI fu ∧ fu ≤ p ∧ (p = 0 ∨ fi < p) ∧ (∀ k, k < fu → pb ((fi + k) % p) = bf (3 + k)) ∧ (∀ k, fu ≤ k → k < p → pb ((fi + k) % p) = []) ∧ ∀ i, 3 + fu ≤ i → i < 7 → bf i = [] ∧ M.2 9 i = 0
def g_chs (G : Nat → ClassId) (S : mw_M) (b p kl sz : Nat) (M : mm_M) (ch : Nat → List Int32) : Prop := ∃ kp ad L X Y Z U, cs_R G S (b + 36 + 2 * p) kl (cbs p sz) kp (M.1 20) ad L X Y Z U ∧ M.1 19 = nI kp ∧ kp < kl + 1 ∧ (∀ i, i < kp → L i = ch i ∧ X i = M.2 12 i ∧ Y i = M.2 13 i ∧ Z i = M.2 14 i ∧ ∀ s, s < 24 → uok (M.1 10) (U i s) (M.2 15 i) s) ∧ L kp = ch 6 ∧ X kp = M.2 12 6 ∧ Y kp = M.2 13 6 ∧ Z kp = M.2 14 6 + esum (M.2 9) ∧ ∀ s, s < 24 → uok (M.1 10) (U kp s) (M.2 15 6) s
/-- the reference by itself -/
def g_mod (p kl sz kc : Nat) (M : mm_M) (bf ch : Nat → List Int32) : Prop := mbs M bf ∧ mds M ch ∧ (M.1 0 = nI sz ∧ M.1 1 = nI p ∧ M.1 2 = nI kl) ∧ (∀ i, i < 7 → (bf i).length ≤ sz) ∧ (p ≤ 4 ∧ 1 ≤ kl ∧ kl ≤ 5 ∧ 16 ≤ sz ∧ sz ≤ 60 ∧ kc < 100000) ∧ (∀ i, i < 7 → bts (bf i)) ∧ ((∀ k, M.1 19 = nI k → k ≤ 6 → ∀ i, i < k → bts (ch i)) ∧ bts (ch 6)) ∧ ∀ t, t < 3 → ∃ n : Nat, n ≤ kc ∧ M.2 16 t = nI n
theorem cbs_le {p sz : Nat} (hp : p ≤ 4) (hs : sz ≤ 60) : cbs p sz ≤ 594 := by
  unfold cbs
  have : (p + 3) * sz ≤ 7 * 60 := Nat.mul_le_mul (by omega) hs
  omega
section ROT
variable {G : Nat → ClassId} {N : Nat} {b p kl sz A kc : Nat} {x7 x29 : Int32}
theorem rc_10e {S : mw_M} (f : Nat) : pf_X8_rotate_10 G N (f + 1) b A 4 S = pf_X8_rotate_35 G N N b A 0 S := by
  rw [pf_X8_rotate_10, if_pos (show (4 : Int32) ≤ 4 by decide)]
theorem rc_35e {S : mw_M} (f : Nat) : pf_X8_rotate_35 G N (f + 1) b A 3 S = pf_X8_rotate_64 G N N b A 0 S := by
  rw [pf_X8_rotate_35, if_pos (show (3 : Int32) ≤ 3 by decide)]
theorem md_31e {M : mm_M} (f : Nat) : pf_X9_rotate_31 G N (f + 1) 3 M = pf_X9_rotate_50 G N N 0 M := by
  rw [pf_X9_rotate_31, if_pos (show (3 : Int32) ≤ 3 by decide)]
/-- all of a rotation -/
theorem rotate2 {S : mw_M} {M : mm_M} {bf ch : Nat → List Int32} (hm : g_main S b p kl sz x7 x29 (M.1 3)) (ht : g_ths G S b sz M bf) (hpo : g_pool G S b p sz M bf) (hcs : g_chs G S b p kl sz M ch) (hmo : g_mod p kl sz kc M bf ch) (hroom : ∀ fu, M.1 18 = nI fu → fu ≤ p → (ch 6).length + fu * sz ≤ 150 + p * sz) (hN : 700 ≤ N) : ∃ S' M' ch', pf_X8_rotate G N S b = some S' ∧ pf_X9_rotate G N M = some M' ∧ g_ths G S' b sz M' (fun _ => []) ∧ g_pool G S' b p sz M' (fun _ => []) ∧ g_chs G S' b p kl sz M' ch' ∧ g_mod p kl sz kc M' (fun _ => []) ch' ∧ ch' 6 = [] ∧ M'.2 12 6 = M.2 12 6 + 1 ∧ sm_p (fun q => (b + 7 ≤ q ∧ q < b + 19) ∨ (b + 34 ≤ q ∧ q < b + 36 + 2 * p + 2 + 4 * (kl + 1))) S S' ∧ fm [18, 19, 20, 38] [8, 9, 10, 11, 12, 13, 14, 15, 16, 24] M M' := by
  obtain ⟨hB, hD, ⟨m0, m1, m2⟩, hbl, ⟨hp4, hk1, hk5, hs16, hs60, hkc⟩, hbb, hcb, hlo⟩ := hmo
  obtain ⟨fi, fu, pb, po, h18, hfp, hfi, hring, hfree, hfb⟩ := hpo
  obtain ⟨kp, ad, L, X, Y, Z, U, cs, h19, hkp, hold, hL, hX, hY, hZ, hU⟩ := hcs
  obtain ⟨hta, hth⟩ := ht
  have hroom := hroom fu h18 hfp
  have hcb594 := cbs_le hp4 hs60
  obtain ⟨F, hF⟩ : ∃ F : Nat → Nat → Int32, ∀ t, t < 3 → th_R G S (b + 7 + 4 * t) (M.2 5 t) (M.2 16 t) (M.2 17 t) (F t) sz (bf t) ∧ ∀ i, i < 3 → F t i = M.2 6 (3 * t + i) := by
    obtain ⟨f0, h0⟩ := hth 0 (by omega)
    obtain ⟨f1, h1⟩ := hth 1 (by omega)
    obtain ⟨f2, h2⟩ := hth 2 (by omega)
    refine ⟨fun t => if t = 0 then f0 else if t = 1 then f1 else f2, fun t ht => ?_⟩
    have : t = 0 ∨ t = 1 ∨ t = 2 := by omega
    rcases this with rfl | rfl | rfl
    · exact h0
    · exact h1
    · exact h2
  -- lengths
  have hl1 : (cat (fun j => bf (3 + (0 + j))) fu).length ≤ fu * sz := cat_len fu (fun k hk => hbl _ (by omega))
  have hl2 : (cat (fun k => bf (0 + k)) 3).length ≤ 3 * sz := cat_len 3 (fun k hk => hbl _ (by omega))
  have hl3 : (losses (M.2 16) 3 0).length ≤ 24 := losses_len (M.2 16) 3 0 (by omega)
  have hcbs : 150 + p * sz + 3 * sz + 24 = cbs p sz := by unfold cbs; rw [Nat.add_mul]; omega
  -- the class
  have ck := cs.2.2.2.2 kp hkp
  rw [hL] at ck
  obtain ⟨jA, hjA, hA⟩ := cs.2.2.1 kp hkp
  obtain ⟨S1, fi1, e1, hfi1, po1, ck1, s1⟩ := rc_ph1 (G := G) (N := N) (b := b) (p := p) (kl := kl) (sz := sz) (A := ad kp) (x7 := x7) (x29 := x29) (x3 := M.1 3) hp4 (by omega) (by omega) hs60 4 0 (N - 4) fi fu pb (fun j => bf (3 + (0 + j))) S (ch 6) (by omega) (by omega) hfp hfi hm po ck (fun j hj => by rw [hring j hj, Nat.zero_add]) hfree (by omega)
  rw [show 4 + (N - 4) = N by omega, show N - 4 = (N - 5) + 1 by omega, rc_10e] at e1
  have hm1 : g_main S1 b p kl sz x7 x29 (M.1 3) := by
    unfold g_main
    rw [s1.1 b (by intro w; rcases w with w | w <;> omega)]
    exact hm
  have hta1 := hta.sm s1 (by intro w; rcases w with w | w <;> omega)
  have hth1 : ∀ i, i < 3 → th_R G S1 (b + 7 + 4 * i) (M.2 5 i) (M.2 16 i) (M.2 17 i) (F i) sz (bf i) := fun i hi => (hF i hi).1.sm s1 (by intro w; rcases w with w | w <;> omega) (by intro w; rcases w with w | w <;> omega) (by intro w; rcases w with w | w <;> omega) (by intro w; rcases w with w | w <;> omega)
  obtain ⟨S2, e2, th2, ck2, s2⟩ := rc_ph2 (G := G) (N := N) (b := b) (p := p) (kl := kl) (sz := sz) (A := ad kp) (x7 := x7) (x29 := x29) (x3 := M.1 3) (by omega) (by omega) hs60 3 0 (N - 3) (M.2 5) (M.2 16) (M.2 17) F bf S1 _ (by omega) hm1 hta1 hth1 ck1 (by rw [List.length_append]; omega)
  rw [show 3 + (N - 3) = N by omega, show N - 3 = (N - 4) + 1 by omega, rc_35e] at e2
  have hm2 : g_main S2 b p kl sz x7 x29 (M.1 3) := by
    unfold g_main
    rw [s2.1 b (by intro w; rcases w with w | w <;> omega)]
    exact hm1
  have hta2 := hta1.sm s2 (by intro w; rcases w with w | w <;> omega)
  simp only [Nat.zero_le, if_true] at th2
  obtain ⟨S3, e3, th3, ck3, s3⟩ := rc_ph3 (G := G) (N := N) (b := b) (p := p) (kl := kl) (sz := sz) (A := ad kp) (x7 := x7) (x29 := x29) (x3 := M.1 3) (by omega) (by omega) 3 0 (N - 3) (M.2 5) (M.2 16) (M.2 17) F (fun _ => []) S2 _ (by omega) hm2 hta2 th2 ck2 (by rw [List.length_append, List.length_append]; omega)
  rw [show 3 + (N - 3) = N by omega, show N - 3 = (N - 4) + 1 by omega] at e3
  simp only [Nat.zero_le, if_true] at th3
  have hm3 : g_main S3 b p kl sz x7 x29 (M.1 3) := by
    unfold g_main
    rw [s3.1 b (by intro w; rcases w with w | w <;> omega)]
    exact hm2
  have s123 : sm_p (fun q => (b + 7 ≤ q ∧ q < b + 19) ∨ po_X (b + 34) p q ∨ ck_X (ad kp) q) S S3 := ((s1.wd (fun q hq => Or.inr hq)).tr (s2.wd (fun q hq => hq.elim Or.inl (fun z => Or.inr (Or.inr z))))).tr (s3.wd (fun q hq => hq.elim Or.inl (fun z => Or.inr (Or.inr z))))
  have cs3 := cs_set2 cs hkp ck3 s123 (fun q h1 h2 w => by
    rcases w with w | w | w
    · omega
    · omega
    · exact w)
  generalize hDD : ch 6 ++ cat (fun j => bf (3 + (0 + j))) fu ++ cat (fun k => bf (0 + k)) 3 ++ losses (M.2 16) 3 0 = DD at ck3 cs3
  obtain ⟨S4, kp', ad', L', X', Y', Z', U', e4, cs4, s4, hkp', hkd, hrest, o1, o2, o3, o4, o5⟩ := cs_fin (N := N) cs3 hkp (by omega) (M.1 3) (by omega)
  simp only [va_up_self] at cs4 hkd hrest o2
  have eC : pf_X8_rotate G N S b = some S4 := by
    unfold pf_X8_rotate
    simp only [gr_q (k := 10) hm rfl, Option.bind_some, v_q _ cs.1, cs_open cs hkp (by omega), mw_b2]
    rw [show (0 : Int32) = nI 0 from rfl, e1, show (0 : Int32) = nI 0 from rfl, e2, show (0 : Int32) = nI 0 from rfl, e3, pf_X8_rotate_64, if_pos (show (3 : Int32) ≤ 3 by decide)]
    simp only [gr_q (k := 10) hm3 rfl, gi_q (k := 13) hm3 rfl, Option.bind_some, v_q _ cs3.1, e4]
  -- the reference
  obtain ⟨M1, f1, b1, d1, q9, q14, q14', q18, fm1⟩ := md_ph1 (G := G) (N := N) (by omega) (show fu ≤ 4 by omega) fu 0 (N - fu - 1) M bf ch (by omega) h18 hB hD (by omega)
  rw [show fu + (N - fu - 1) + 1 = N by omega] at f1
  have hb1 : (fun k => (fun i => if 3 + 0 ≤ i ∧ i < 3 + fu then [] else bf i) (0 + k)) = fun k => if 3 + 0 ≤ 0 + k ∧ 0 + k < 3 + fu then [] else bf (0 + k) := rfl
  have hc3 : cat (fun k => (fun i => if 3 + 0 ≤ i ∧ i < 3 + fu then [] else bf i) (0 + k)) 3 = cat (fun k => bf (0 + k)) 3 := by
    simp [cat]
  obtain ⟨M2, f2, b2, d2, r9, r14, r14', fm2⟩ := md_ph2 (G := G) (N := N) (by omega) 3 0 (N - 3) M1 _ _ (by omega) b1 d1 (by rw [hc3, va_up_self, List.length_append]; omega)
  rw [show 3 + (N - 3) = N by omega, show N - 3 = (N - 4) + 1 by omega, md_31e] at f2
  rw [hc3, va_up_self, bx_uu] at d2
  obtain ⟨M3, f3, d3, g16, fm3⟩ := md_los (G := G) (N := N) (by omega) 3 0 (N - 3) M2 _ (by omega) d2 (by rw [va_up_self, List.length_append, List.length_append]; omega)
  rw [show 3 + (N - 3) = N by omega, show N - 3 = (N - 4) + 1 by omega] at f3
  have e16 : M2.2 16 = M.2 16 := (fm2.2 16 (by decide)).trans (fm1.2 16 (by decide))
  rw [va_up_self, bx_uu, e16, hDD] at d3
  have F123 : fm [18, 38] [8, 9, 10, 11, 14, 16, 24] M M3 := ((fm1.wd (X' := [18, 38]) (Y' := [8, 9, 10, 11, 14, 16, 24]) (by decide) (by decide)).tr (fm2.wd (by simp) (by decide))).tr (fm3.wd (by decide) (by decide))
  obtain ⟨M4, c4, kp2, f4, d4, v19, vk, vkd, v20, vold, w1, w2, w3, w4, w5, fm4⟩ := md_tail (G := G) (N := N) d3 (show kl < 6 by omega) hkp ((F123.1 19 (by decide)).trans h19) ((F123.1 2 (by decide)).trans m2) (by omega) (N - 4)
  rw [va_up_self] at vkd v20 vold
  have hkk : kp2 = kp' := by omega
  subst hkk
  have eM : pf_X9_rotate G N M = some M4 := by
    unfold pf_X9_rotate
    rw [show (0 : Int32) = nI 0 from rfl, f1, show (0 : Int32) = nI 0 from rfl, f2, show (0 : Int32) = nI 0 from rfl, f3, f4]
  -- numbers that are the same
  have i12 : M3.2 12 = M.2 12 := F123.2 12 (by decide)
  have i13 : M3.2 13 = M.2 13 := F123.2 13 (by decide)
  have i15 : M3.2 15 = M.2 15 := F123.2 15 (by decide)
  have i14 : M3.2 14 = M2.2 14 := fm3.2 14 (by decide)
  have i20 : M3.1 20 = M.1 20 := F123.1 20 (by decide)
  have i3 : M3.1 3 = M.1 3 := F123.1 3 (by decide)
  have all9 : ∀ i, i < 7 → M2.2 9 i = 0 := fun i hi => by
    rw [r9 i]
    by_cases h3 : i < 3
    · rw [if_pos (by omega)]
    · rw [if_neg (by omega), q9 i]
      by_cases h4 : i < 3 + fu
      · rw [if_pos (by omega)]
      · rw [if_neg (by omega)]
        exact (hfb i (by omega) hi).2
  have es0 : esum (M2.2 9) = 0 := by
    unfold esum
    rw [all9 0 (by omega), all9 1 (by omega), all9 2 (by omega), all9 3 (by omega), all9 4 (by omega), all9 5 (by omega), all9 6 (by omega)]
    rfl
  have h14 : M2.2 14 6 = M.2 14 6 + esum (M.2 9) := by
    have := r14.trans q14
    rw [es0, Int32.add_zero] at this
    exact this
  have h14' : ∀ i, i ≠ 6 → M2.2 14 i = M.2 14 i := fun i hi => (r14' i hi).trans (q14' i hi)
  have z16 : ∀ t, t < 3 → M4.2 16 t = 0 := fun t ht => by
    obtain ⟨n, hn, he⟩ := hlo t ht
    rw [fm4.2 16 (by decide), g16 t, e16]
    by_cases h0 : M.2 16 t ≤ 0
    · rw [if_neg (fun z => z.2.2 h0), he]
      rw [he] at h0
      have : n = 0 := by
        by_cases h9 : n = 0
        · exact h9
        · exact absurd h0 (nI_nle (by omega) (by omega))
      rw [this]; rfl
    · rw [if_pos ⟨by omega, ht, h0⟩]
  have FF : fm [18, 19, 20, 38] [8, 9, 10, 11, 12, 13, 14, 15, 16, 24] M M4 := (F123.wd (X' := [18, 19, 20, 38]) (Y' := [8, 9, 10, 11, 12, 13, 14, 15, 16, 24]) (by decide) (by decide)).tr (fm4.wd (by decide) (by decide))
  have i9 : M4.2 9 = M2.2 9 := (fm4.2 9 (by decide)).trans (fm3.2 9 (by decide))
  have i8 : M4.2 8 = M2.2 8 := (fm4.2 8 (by decide)).trans (fm3.2 8 (by decide))
  have sall : sm_p (fun q => (b + 7 ≤ q ∧ q < b + 19) ∨ (b + 34 ≤ q ∧ q < b + 36 + 2 * p + 2 + 4 * (kl + 1))) S S4 := (s123.wd (fun q hq => by
    rcases hq with hq | hq | hq
    · exact Or.inl hq
    · right; constructor <;> omega
    · right; constructor <;> omega)).tr (s4.wd (fun q hq => Or.inr (by constructor <;> omega)))
  refine ⟨S4, M4, c4, eC, eM, ⟨?_, fun t ht => ⟨F t, ?_, fun i hi => ?_⟩⟩, ⟨fi1, 0, fun _ => [], ?_, ?_, Nat.zero_le _, hfi1, fun k hk => absurd hk (Nat.not_lt_zero k), fun _ _ _ => rfl, fun i _ hi => ⟨rfl, ?_⟩⟩, ⟨kp2, ad', L', X', Y', Z', U', ?_, v19, hkp', fun i hi => ?_, ?_, ?_, ?_, ?_, fun s hs => ?_⟩, ⟨fun i hi => ?_, d4, ⟨?_, ?_, ?_⟩, fun i hi => ?_, ⟨hp4, hk1, hk5, hs16, hs60, hkc⟩, fun i hi => bts_nil, ⟨fun k hk1 hk6 i hi => ?_, ?_⟩, fun t ht => ⟨0, Nat.zero_le _, ?_⟩⟩, w1, ?_, sall, FF⟩
  · exact (hta2.sm s3 (by intro w; rcases w with w | w <;> omega)).sm s4 (by intro w; omega)
  · have := (th3 t ht).sm s4 (by intro w; omega) (by intro w; omega) (by intro w; omega) (by intro w; omega)
    rw [FF.2 5 (by decide), FF.2 17 (by decide), z16 t ht]
    exact this
  · rw [FF.2 6 (by decide)]; exact (hF t ht).2 i hi
  · exact ((po1.sm s2 (fun q h1 h2 w => by rcases w with w | w <;> omega)).sm s3 (fun q h1 h2 w => by rcases w with w | w <;> omega)).sm s4 (fun q h1 h2 w => by omega)
  · rw [fm4.1 18 (by decide), fm3.1 18 (by decide), fm2.1 18 (by simp), q18]; rfl
  · rw [i9]; exact all9 i hi
  · rw [v20, i20]; exact cs4
  · obtain ⟨y1, y2, y3, y4, y5⟩ := hrest i hi
    obtain ⟨m1', m2', m3', m4', m5'⟩ := vold i hi
    rw [y1, y2, y3, y4, y5, m1', m2', m3', m4', m5', i12, i13, i14, i15, FF.1 10 (by decide)]
    by_cases h9 : i + fin_d kl kp DD.length = kp
    · rw [h9, va_up_self, va_up_self, va_up_self, va_up_self, va_up_self, va_up_self, pk_us, pk_us, pk_us, pk_us]
      exact ⟨rfl, hX, hY, by rw [hZ, h14], hU⟩
    · have hlt : i + fin_d kl kp DD.length < kp := by
        have : fin_e DD.length ≤ 1 := by unfold fin_e; split <;> omega
        omega
      have := hold _ hlt
      rw [va_up_ne _ _ h9, va_up_ne _ _ h9, va_up_ne _ _ h9, va_up_ne _ _ h9, va_up_ne _ _ h9, va_up_ne _ _ h9, pk_un h9, pk_un h9, pk_un h9, pk_un h9, va_up_ne _ _ (by omega), h14' _ (by omega)]
      exact this
  · rw [o1, w1]
  · rw [o2, w2, i12, hX]
  · rw [o3, w3, i3]
  · rw [o4, w4, i9, es0]; rfl
  · exact ⟨by rw [o5 s hs, w5, ubit_0 s hs], Or.inl (o5 s hs)⟩
  · have := b2 i hi
    dsimp only at this
    refine ⟨?_, Nat.zero_le _, sg_nil _ _⟩
    rw [i8, this.1]
    by_cases h3 : i < 3
    · rw [if_pos (by omega)]
    · rw [if_neg (by omega)]
      by_cases h4 : i < 3 + fu
      · rw [if_pos (by omega)]
      · rw [if_neg (by omega), (hfb i (by omega) hi).1]
  · rw [FF.1 0 (by decide)]; exact m0
  · rw [FF.1 1 (by decide)]; exact m1
  · rw [FF.1 2 (by decide)]; exact m2
  · exact Nat.zero_le _
  · have hkk2 : k = kp2 := (nI_eq (by omega) (by omega)).mp (hk1.symm.trans v19)
    subst hkk2
    have bDD : bts DD := by
      rw [← hDD]
      exact bts_app (bts_app (bts_app hcb.2 (bts_cat fu (fun k hk => hbb _ (by omega)))) (bts_cat 3 (fun k hk => hbb _ (by omega)))) (bts_losses _ _ _)
    rw [(vold i hi).1]
    by_cases h9 : i + fin_d kl kp DD.length = kp
    · rw [h9, va_up_self]; exact bDD
    · have hlt : i + fin_d kl kp DD.length < kp := by
        have : fin_e DD.length ≤ 1 := by unfold fin_e; split <;> omega
        omega
      rw [va_up_ne _ _ h9, va_up_ne _ _ (by omega)]
      exact hcb.1 kp h19 (by omega) _ hlt
  · rw [w1]; exact bts_nil
  · rw [z16 t ht]; rfl
  · rw [w2, i12]
end ROT
