/-! constructors with loops -/
section NW2
variable {G : Nat → ClassId} {N : Nat} {h : Nat}
theorem th_R.kp {S S' : mw_M} {a c : Nat} {x y z : Int32} {f : Nat → Int32} {l : List Int32} (q : th_R G S a x y z f c l) (hk : ∀ i, a ≤ i → i < a + 4 → S'.1 i = S.1 i) : th_R G S' a x y z f c l := ⟨by rw [hk a (by omega) (by omega)]; exact q.1, by rw [hk _ (by omega) (by omega)]; exact q.2.1, q.2.2.kp (hk _ (by omega) (by omega)) (hk _ (by omega) (by omega))⟩
theorem rec_R.kp {S S' : mw_M} {a : Nat} {x y z : Int32} {f g : Nat → Int32} (q : rec_R G S a x y z f g) (hk : ∀ i, a ≤ i → i < a + 3 → S'.1 i = S.1 i) : rec_R G S' a x y z f g := ⟨by rw [hk a (by omega) (by omega)]; exact q.1, by rw [hk _ (by omega) (by omega)]; exact q.2.1, by rw [hk _ (by omega) (by omega)]; exact q.2.2⟩
theorem ck_R.kp {S S' : mw_M} {a c : Nat} {x y z : Int32} {u : Nat → Int32} {l : List Int32} (q : ck_R G S a c l x y z u) (hk : ∀ i, a ≤ i → i < a + 4 → S'.1 i = S.1 i) : ck_R G S' a c l x y z u := ⟨by rw [hk a (by omega) (by omega)]; exact q.1, by rw [hk _ (by omega) (by omega)]; exact q.2.1, q.2.2.kp (hk _ (by omega) (by omega)) (hk _ (by omega) (by omega))⟩
theorem po_l {p sz : Nat} (hp : p ≤ 4) (hsz : sz ≤ 5000) : ∀ m k (S : mw_M) (g : Nat → Option Nat), S.1 h = some (.inr (4, [.ref (h + 1), .int (nI 0), .int (nI 0)])) → S.1 (h + 1) = some (.inl (G 6, p, .inr (.inr (.inr (.inr g))))) → (∀ i, i < k → g i = some (h + 2 + 2 * i)) → (∀ i, i < k → br_R G S (h + 2 + 2 * i) sz []) → S.2 = h + 2 + 2 * k → k ≤ p → p - k < m → ∃ S', pf_X4_init_14 G N m h (nI p) (nI sz) (nI k) S = some S' ∧ po_R G S' h p 0 0 sz (fun _ => []) ∧ nx h (h + 2 + 2 * p) S S' := by
  intro m
  induction m with
  | zero => intro k S g _ _ _ _ _ _ h; exact absurd h (Nat.not_lt_zero _)
  | succ m ih =>
    intro k S g h0 h1 hg hb hS hk hm
    rw [pf_X4_init_14]
    by_cases hkp : k = p
    · subst hkp
      rw [if_pos (Int32.le_refl _)]
      exact ⟨S, rfl, ⟨h0, ⟨g, h1, hg⟩, hb⟩, ⟨fun _ _ => rfl, hS⟩⟩
    · rw [if_neg (nI_ge (by omega) (by omega))]
      simp only [gr_q (k := 0) h0 rfl, Option.bind_some, mw_no, mw_b2, hS]
      generalize hS1 : mw_ad S (.inr (0, [.null, .int 0])) = S1
      have n1 : nx (h + 2 + 2 * k) (h + 2 + 2 * k + 1) S S1 := by rw [← hS1]; exact nx.ad _ (by omega) (by omega)
      have a1 : S1.1 (h + 2 + 2 * k) = some (.inr (0, [.null, .int 0])) := by rw [← hS1, ← hS]; exact ad_s _ _
      obtain ⟨S2, e2, r2, n2⟩ := br_new (G := G) (N := N) a1 n1.2 hsz
      have k2 : ∀ q, q < h + 2 + 2 * k → S2.1 q = S.1 q := fun q hq => (n2.1 q hq).trans (n1.1 q hq)
      have c2 := (k2 (h + 1) (by omega)).trans h1
      simp only [e2, Option.bind_some, sq_q c2 (show k < p by omega) (by omega) r2.1, nI_1]
      generalize hS3 : mw_up S2 (h + 1) (.inl (G 6, p, .inr (.inr (.inr (.inr (va_up g k (some (h + 2 + 2 * k)))))))) = S3
      have k3 : ∀ q, q ≠ h + 1 → S3.1 q = S2.1 q := fun q hq => by rw [← hS3]; exact up_n _ _ hq
      have a3 : S3.1 (h + 1) = some (.inl (G 6, p, .inr (.inr (.inr (.inr (va_up g k (some (h + 2 + 2 * k)))))))) := by rw [← hS3]; exact up_s _ _ _
      obtain ⟨S4, e4, r4, n4⟩ := ih (k + 1) S3 _ (by rw [k3 h (by omega), k2 h (by omega)]; exact h0) a3 (fun i hi => by
        by_cases hik : i = k
        · subst hik; rw [va_up_self]
        · rw [va_up_ne _ _ hik]; exact hg i (by omega)) (fun i hi => by
        by_cases hik : i = k
        · subst hik; exact r2.kp (k3 _ (by omega)) (k3 _ (by omega))
        · exact (hb i (by omega)).kp ((k3 _ (by omega)).trans (k2 _ (by omega))) ((k3 _ (by omega)).trans (k2 _ (by omega)))) (by rw [← hS3]; show S2.2 = _; rw [n2.2]; omega) (by omega) (by omega)
      exact ⟨S4, e4, r4, ⟨fun q hq => (n4.1 q hq).trans ((k3 q (by omega)).trans (k2 q (by omega))), n4.2⟩⟩
theorem po_new {p sz : Nat} {S : mw_M} (hp : p ≤ 4) (hsz : sz ≤ 5000) (h0 : S.1 h = some (.inr (4, [.null, .int 0, .int 0]))) (h1 : S.2 = h + 1) : ∃ S', pf_X4_init G N S h (nI p) (nI sz) = some S' ∧ po_R G S' h p 0 0 sz (fun _ => []) ∧ nx h (h + 2 + 2 * p) S S' := by
  unfold pf_X4_init
  simp only [nq_q (S := S) (cA := G 6) (c := p) (cap := 5000) (by omega) (by omega), mw_b2]
  generalize hS1 : mw_ad S (.inl (G 6, p, .inr (.inr (.inr (.inr (fun _ => none)))))) = S1
  have n1 : nx (h + 1) (h + 2) S S1 := by rw [← hS1]; exact nx.ad _ (by omega) (by omega)
  have a1 : S1.1 (h + 1) = some (.inl (G 6, p, .inr (.inr (.inr (.inr (fun _ => none)))))) := by rw [← hS1, ← h1]; exact ad_s _ _
  have b1 := (n1.1 h (by omega)).trans h0
  simp only [pf_q _ b1 (k := 0) (Nat.le_of_ble_eq_true rfl), Option.bind_some, h1]
  generalize hS2 : mw_up S1 h (.inr (4, [Value.null, .int 0, .int 0].set 0 (.ref (h + 1)))) = S2
  obtain ⟨S3, e3, r3, n3⟩ := po_l (G := G) (N := N) (h := h) hp hsz 8 0 S2 (fun _ => none) (by rw [← hS2]; exact up_s _ _ _) (by rw [← hS2, up_n _ _ (by omega)]; exact a1) (fun i hi => absurd hi (Nat.not_lt_zero i)) (fun i hi => absurd hi (Nat.not_lt_zero i)) (by rw [← hS2]; exact n1.2) (Nat.zero_le _) (by omega)
  refine ⟨S3, e3, r3, ⟨fun q hq => (n3.1 q hq).trans ?_, n3.2⟩⟩
  rw [← hS2, up_n _ _ (by omega)]; exact n1.1 q (by omega)
theorem cs_l {kl c : Nat} (hkl : kl ≤ 5) (hc : c ≤ 5000) (hN : 700 ≤ N) : ∀ m k (S : mw_M) (g : Nat → Option Nat), S.1 h = some (.inr (2, [.ref (h + 1), .int (nI 0), .int 0])) → S.1 (h + 1) = some (.inl (G 7, kl + 1, .inr (.inr (.inr (.inr g))))) → (∀ i, i < k → g i = some (h + 2 + 4 * i)) → (∀ i, i < k → ck_R G S (h + 2 + 4 * i) c [] 0 0 0 (fun _ => 0)) → S.2 = h + 2 + 4 * k → k ≤ kl + 1 → kl + 1 - k < m → ∃ S' X U, pf_X2_init_16 G N m h (nI kl) (nI c) (nI k) S = some S' ∧ cs_R G S' h kl c 0 0 (fun i => h + 2 + 4 * i) (fun _ => []) X (fun _ => 0) (fun _ => 0) U ∧ X 0 = 1 ∧ (∀ s, s < 24 → U 0 s = 0) ∧ nx h (h + 2 + 4 * (kl + 1)) S S' := by
  intro m
  induction m with
  | zero => intro k S g _ _ _ _ _ _ h; exact absurd h (Nat.not_lt_zero _)
  | succ m ih =>
    intro k S g h0 h1 hg hb hS hk hm
    rw [pf_X2_init_16]
    by_cases hkp : k = kl + 1
    · subst hkp
      rw [if_pos (nI_lt (by omega) (by omega))]
      have q0 : mw_aq S (h + 1) (G 7) 0 = some (h + 2) := aq_q (j := 0) h1 (by omega) (by omega) (hg 0 (by omega))
      have c0 := hb 0 (by omega)
      obtain ⟨S1, u', e1, r1, r2, r3⟩ := ck_openAs (N := N) c0 1 0 (by omega)
      have r1' : ck_R G S1 (h + 2 + 4 * 0) c [] 1 0 0 u' := r1
      simp only [gr_q (k := 0) h0 rfl, Option.bind_some, q0]
      have e1' : pf_X1_openAs G N S (h + 2) 1 0 = some S1 := e1
      have c0' : S.1 (h + 2) = _ := c0.1
      rw [v_q _ c0', e1']
      have w : ∀ q, ¬ (h + 2 ≤ q ∧ q < h + 6) → S1.1 q = S.1 q := fun q hq => r3.1 q (by intro z; omega)
      refine ⟨S1, fun i => if i = 0 then 1 else 0, fun i => if i = 0 then u' else fun _ => 0, rfl, ⟨?_, ⟨g, ?_, hg⟩, fun i hi => ⟨i, hi, rfl⟩, fun i j hi hj hij => by dsimp only at hij; omega, fun i hi => ?_⟩, rfl, fun s hs => r2 s hs, ⟨fun q hq => w q (by omega), by rw [r3.2]; exact hS⟩⟩
      · rw [w h (by omega)]; exact h0
      · rw [w _ (by omega)]; exact h1
      · by_cases hi0 : i = 0
        · subst hi0; exact r1'
        · dsimp only
          rw [if_neg hi0, if_neg hi0]
          exact (hb i hi).kp (fun q a1 a2 => w q (by omega))
    · rw [if_neg (Int32.not_lt.mpr (nI_le (by omega) (by omega)))]
      simp only [gr_q (k := 0) h0 rfl, Option.bind_some, mw_no, mw_b2, hS]
      generalize hS1 : mw_ad S (.inr (1, [.null, .null, .int 0, .int 0, .int 0])) = S1
      have n1 : nx (h + 2 + 4 * k) (h + 2 + 4 * k + 1) S S1 := by rw [← hS1]; exact nx.ad _ (by omega) (by omega)
      have a1 : S1.1 (h + 2 + 4 * k) = some (.inr (1, [.null, .null, .int 0, .int 0, .int 0])) := by rw [← hS1, ← hS]; exact ad_s _ _
      obtain ⟨S2, e2, r2, n2⟩ := ck_new (G := G) (N := N) a1 n1.2 hc
      have k2 : ∀ q, q < h + 2 + 4 * k → S2.1 q = S.1 q := fun q hq => (n2.1 q hq).trans (n1.1 q hq)
      have c2 := (k2 (h + 1) (by omega)).trans h1
      simp only [e2, Option.bind_some, sq_q c2 (show k < kl + 1 by omega) (by omega) r2.1, nI_1]
      generalize hS3 : mw_up S2 (h + 1) (.inl (G 7, kl + 1, .inr (.inr (.inr (.inr (va_up g k (some (h + 2 + 4 * k)))))))) = S3
      have k3 : ∀ q, q ≠ h + 1 → S3.1 q = S2.1 q := fun q hq => by rw [← hS3]; exact up_n _ _ hq
      have a3 : S3.1 (h + 1) = some (.inl (G 7, kl + 1, .inr (.inr (.inr (.inr (va_up g k (some (h + 2 + 4 * k)))))))) := by rw [← hS3]; exact up_s _ _ _
      obtain ⟨S4, X, U, e4, r4, r5, r6, n4⟩ := ih (k + 1) S3 _ (by rw [k3 h (by omega), k2 h (by omega)]; exact h0) a3 (fun i hi => by
        by_cases hik : i = k
        · subst hik; rw [va_up_self]
        · rw [va_up_ne _ _ hik]; exact hg i (by omega)) (fun i hi => by
        by_cases hik : i = k
        · subst hik; exact r2.kp (fun q a1 a2 => k3 _ (by omega))
        · exact (hb i (by omega)).kp (fun q a1 a2 => (k3 _ (by omega)).trans (k2 _ (by omega)))) (by rw [← hS3]; show S2.2 = _; rw [n2.2]; omega) (by omega) (by omega)
      exact ⟨S4, X, U, e4, r4, r5, r6, ⟨fun q hq => (n4.1 q hq).trans ((k3 q (by omega)).trans (k2 q (by omega))), n4.2⟩⟩
theorem cs_new {kl c : Nat} {S : mw_M} (hkl : kl ≤ 5) (hc : c ≤ 5000) (hN : 700 ≤ N) (h0 : S.1 h = some (.inr (2, [.null, .int 0, .int 0]))) (h1 : S.2 = h + 1) : ∃ S' X U, pf_X2_init G N S h (nI kl) (nI c) = some S' ∧ cs_R G S' h kl c 0 0 (fun i => h + 2 + 4 * i) (fun _ => []) X (fun _ => 0) (fun _ => 0) U ∧ X 0 = 1 ∧ (∀ s, s < 24 → U 0 s = 0) ∧ nx h (h + 2 + 4 * (kl + 1)) S S' := by
  unfold pf_X2_init
  rw [nI_1]
  simp only [nq_q (S := S) (cA := G 7) (c := kl + 1) (cap := 5000) (by omega) (by omega), mw_b2]
  generalize hS1 : mw_ad S (.inl (G 7, kl + 1, .inr (.inr (.inr (.inr (fun _ => none)))))) = S1
  have n1 : nx (h + 1) (h + 2) S S1 := by rw [← hS1]; exact nx.ad _ (by omega) (by omega)
  have a1 : S1.1 (h + 1) = some (.inl (G 7, kl + 1, .inr (.inr (.inr (.inr (fun _ => none)))))) := by rw [← hS1, ← h1]; exact ad_s _ _
  have b1 := (n1.1 h (by omega)).trans h0
  simp only [pf_q _ b1 (k := 0) (Nat.le_of_ble_eq_true rfl), Option.bind_some, h1]
  generalize hS2 : mw_up S1 h (.inr (2, [Value.null, .int 0, .int 0].set 0 (.ref (h + 1)))) = S2
  obtain ⟨S3, X, U, e3, r3, r4, r5, n3⟩ := cs_l (G := G) (N := N) (h := h) hkl hc hN 8 0 S2 (fun _ => none) (by rw [← hS2]; exact up_s _ _ _) (by rw [← hS2, up_n _ _ (by omega)]; exact a1) (fun i hi => absurd hi (Nat.not_lt_zero i)) (fun i hi => absurd hi (Nat.not_lt_zero i)) (by rw [← hS2]; exact n1.2) (Nat.zero_le _) (by omega)
  refine ⟨S3, X, U, e3, r3, r4, r5, ⟨fun q hq => (n3.1 q hq).trans ?_, n3.2⟩⟩
  rw [← hS2, up_n _ _ (by omega)]; exact n1.1 q (by omega)
theorem mi_th {b sz : Nat} {fs : List Value} (hsz : sz ≤ 5000) (h3 : fs[3]? = some (.ref (b + 6))) (h0 : fs[0]? = some (.int (nI sz))) (y4 y5 y6 : Int32) : ∀ n k f (S : mw_M) (g : Nat → Option Nat), k + n = 3 → S.1 b = some (.inr (8, fs)) → S.1 (b + 6) = some (.inl (G 4, 3, .inr (.inr (.inr (.inr g))))) → (∀ i, i < k → g i = some (b + 7 + 4 * i)) → (∀ i, i < k → th_R G S (b + 7 + 4 * i) 0 0 0 (fun _ => 0) sz []) → S.2 = b + 7 + 4 * k → ∃ S' g', pf_X8_init_92 G N (n + f) b y4 y5 y6 (nI k) S = pf_X8_init_92 G N f b y4 y5 y6 3 S' ∧ S'.1 (b + 6) = some (.inl (G 4, 3, .inr (.inr (.inr (.inr g'))))) ∧ (∀ i, i < 3 → g' i = some (b + 7 + 4 * i)) ∧ (∀ i, i < 3 → th_R G S' (b + 7 + 4 * i) 0 0 0 (fun _ => 0) sz []) ∧ S'.2 = b + 19 ∧ ∀ q, q < b + 6 → S'.1 q = S.1 q := by
  intro n
  induction n with
  | zero =>
    intro k f S g hk hb h6 hg ht hS
    have : k = 3 := by omega
    subst this
    exact ⟨S, g, by rw [Nat.zero_add]; rfl, h6, hg, ht, by omega, fun _ _ => rfl⟩
  | succ n ih =>
    intro k f S g hk hb h6 hg ht hS
    rw [show n + 1 + f = (n + f) + 1 by omega, pf_X8_init_92, if_neg (show ¬ (3 : Int32) ≤ nI k from nI_ge (b := 3) (by omega) (by decide))]
    simp only [gr_q (k := 3) hb h3, Option.bind_some, mw_no, mw_b2, hS]
    generalize hS1 : mw_ad S (.inr (3, [.null, .null, .int 0, .int 0, .int 0])) = S1
    have n1 : nx (b + 7 + 4 * k) (b + 7 + 4 * k + 1) S S1 := by rw [← hS1]; exact nx.ad _ (by omega) (by omega)
    have a1 : S1.1 (b + 7 + 4 * k) = some (.inr (3, [.null, .null, .int 0, .int 0, .int 0])) := by rw [← hS1, ← hS]; exact ad_s _ _
    have b1 := (n1.1 b (by omega)).trans hb
    obtain ⟨S2, e2, r2, n2⟩ := th_new (G := G) (N := N) a1 n1.2 hsz
    have k2 : ∀ q, q < b + 7 + 4 * k → S2.1 q = S.1 q := fun q hq => (n2.1 q hq).trans (n1.1 q hq)
    have c2 := (k2 (b + 6) (by omega)).trans h6
    simp only [gi_q (k := 0) b1 h0, e2, Option.bind_some, sq_q c2 (show k < 3 by omega) (by omega) r2.1, nI_1]
    generalize hS3 : mw_up S2 (b + 6) (.inl (G 4, 3, .inr (.inr (.inr (.inr (va_up g k (some (b + 7 + 4 * k)))))))) = S3
    have k3 : ∀ q, q ≠ b + 6 → S3.1 q = S2.1 q := fun q hq => by rw [← hS3]; exact up_n _ _ hq
    have a3 : S3.1 (b + 6) = some (.inl (G 4, 3, .inr (.inr (.inr (.inr (va_up g k (some (b + 7 + 4 * k)))))))) := by rw [← hS3]; exact up_s _ _ _
    obtain ⟨S4, g4, e4, r4, r5, r6, r7, r8⟩ := ih (k + 1) f S3 _ (by omega) (by rw [k3 b (by omega), k2 b (by omega)]; exact hb) a3 (fun i hi => by
      by_cases hik : i = k
      · subst hik; rw [va_up_self]
      · rw [va_up_ne _ _ hik]; exact hg i (by omega)) (fun i hi => by
      by_cases hik : i = k
      · subst hik; exact r2.kp (fun q a1 a2 => k3 _ (by omega))
      · exact (ht i (by omega)).kp (fun q a1 a2 => (k3 _ (by omega)).trans (k2 _ (by omega)))) (by rw [← hS3]; show S2.2 = _; rw [n2.2]; omega)
    exact ⟨S4, g4, e4, r4, r5, r6, r7, fun q hq => (r8 q hq).trans ((k3 q (by omega)).trans (k2 q (by omega)))⟩
theorem mi_rc {b : Nat} {fs : List Value} (h3 : fs[7]? = some (.ref (b + 21))) (y4 y5 y6 : Int32) : ∀ n k f (S : mw_M) (g : Nat → Option Nat), k + n = 4 → S.1 b = some (.inr (8, fs)) → S.1 (b + 21) = some (.inl (G 5, 4, .inr (.inr (.inr (.inr g))))) → (∀ i, i < k → g i = some (b + 22 + 3 * i)) → (∀ i, i < k → rec_R G S (b + 22 + 3 * i) 0 0 2147483647 (fun _ => 0) (fun _ => 0)) → S.2 = b + 22 + 3 * k → ∃ S' g', pf_X8_init_149 G N (n + f) b y4 y5 y6 (nI k) S = pf_X8_init_149 G N f b y4 y5 y6 4 S' ∧ S'.1 (b + 21) = some (.inl (G 5, 4, .inr (.inr (.inr (.inr g'))))) ∧ (∀ i, i < 4 → g' i = some (b + 22 + 3 * i)) ∧ (∀ i, i < 4 → rec_R G S' (b + 22 + 3 * i) 0 0 2147483647 (fun _ => 0) (fun _ => 0)) ∧ S'.2 = b + 34 ∧ ∀ q, q < b + 21 → S'.1 q = S.1 q := by
  intro n
  induction n with
  | zero =>
    intro k f S g hk hb h6 hg ht hS
    have : k = 4 := by omega
    subst this
    exact ⟨S, g, by rw [Nat.zero_add]; rfl, h6, hg, ht, by omega, fun _ _ => rfl⟩
  | succ n ih =>
    intro k f S g hk hb h6 hg ht hS
    rw [show n + 1 + f = (n + f) + 1 by omega, pf_X8_init_149, if_neg (show ¬ (4 : Int32) ≤ nI k from nI_ge (b := 4) (by omega) (by decide))]
    simp only [gr_q (k := 7) hb h3, Option.bind_some, mw_no, mw_b2, hS]
    generalize hS1 : mw_ad S (.inr (5, [.null, .null, .int 0, .int 0, .int 0])) = S1
    have n1 : nx (b + 22 + 3 * k) (b + 22 + 3 * k + 1) S S1 := by rw [← hS1]; exact nx.ad _ (by omega) (by omega)
    have a1 : S1.1 (b + 22 + 3 * k) = some (.inr (5, [.null, .null, .int 0, .int 0, .int 0])) := by rw [← hS1, ← hS]; exact ad_s _ _
    obtain ⟨S2, e2, r2, n2⟩ := rec_new (G := G) (N := N) a1 n1.2
    have k2 : ∀ q, q < b + 22 + 3 * k → S2.1 q = S.1 q := fun q hq => (n2.1 q hq).trans (n1.1 q hq)
    have c2 := (k2 (b + 21) (by omega)).trans h6
    simp only [e2, Option.bind_some, sq_q c2 (show k < 4 by omega) (by omega) r2.1, nI_1]
    generalize hS3 : mw_up S2 (b + 21) (.inl (G 5, 4, .inr (.inr (.inr (.inr (va_up g k (some (b + 22 + 3 * k)))))))) = S3
    have k3 : ∀ q, q ≠ b + 21 → S3.1 q = S2.1 q := fun q hq => by rw [← hS3]; exact up_n _ _ hq
    have a3 : S3.1 (b + 21) = some (.inl (G 5, 4, .inr (.inr (.inr (.inr (va_up g k (some (b + 22 + 3 * k)))))))) := by rw [← hS3]; exact up_s _ _ _
    obtain ⟨S4, g4, e4, r4, r5, r6, r7, r8⟩ := ih (k + 1) f S3 _ (by omega) (by rw [k3 b (by omega), k2 b (by omega)]; exact hb) a3 (fun i hi => by
      by_cases hik : i = k
      · subst hik; rw [va_up_self]
      · rw [va_up_ne _ _ hik]; exact hg i (by omega)) (fun i hi => by
      by_cases hik : i = k
      · subst hik; exact r2.kp (fun q a1 a2 => k3 _ (by omega))
      · exact (ht i (by omega)).kp (fun q a1 a2 => (k3 _ (by omega)).trans (k2 _ (by omega)))) (by rw [← hS3]; show S2.2 = _; rw [n2.2]; omega)
    exact ⟨S4, g4, e4, r4, r5, r6, r7, fun q hq => (r8 q hq).trans ((k3 q (by omega)).trans (k2 q (by omega)))⟩
end NW2
