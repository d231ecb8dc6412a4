/-! the class's rotation -/
def mainL (b p kl sz : Nat) (x7 x29 x3 : Int32) : List Value := [.int (nI sz), .ref (b + 1), .ref (b + 3), .ref (b + 6), .ref (b + 19), .ref (b + 20), .int x7, .ref (b + 21), .int x29, .ref (b + 34), .ref (b + 36 + 2 * p), .ref (b + 36 + 2 * p + 4 * kl + 6), .ref (b + 36 + 2 * p + 4 * kl + 8), .int x3]
def g_main (S : mw_M) (b p kl sz : Nat) (x7 x29 x3 : Int32) : Prop := S.1 b = some (.inr (8, mainL b p kl sz x7 x29 x3))
theorem md_ne {p fi m : Nat} (h1 : fi < p) (h2 : 1 ≤ m) (h3 : m < p) : (fi + m) % p ≠ fi := by
  by_cases h : fi + m < p
  · rw [Nat.mod_eq_of_lt h]; omega
  · rw [Nat.mod_eq_sub_mod (by omega), Nat.mod_eq_of_lt (by omega)]; omega
theorem md_sur {p fi i : Nat} (h1 : fi < p) (h2 : i < p) : ∃ j, j < p ∧ (fi + j) % p = i := by
  by_cases h : fi ≤ i
  · exact ⟨i - fi, by omega, by rw [show fi + (i - fi) = i by omega, Nat.mod_eq_of_lt h2]⟩
  · exact ⟨i + p - fi, by omega, by rw [show fi + (i + p - fi) = i + p by omega, Nat.add_mod_right, Nat.mod_eq_of_lt h2]⟩
theorem po_R.cg {G : Nat → ClassId} {S : mw_M} {a p fi fu sz : Nat} {pb pb' : Nat → List Int32} (h : po_R G S a p fi fu sz pb) (he : ∀ i, i < p → pb i = pb' i) : po_R G S a p fi fu sz pb' := ⟨h.1, h.2.1, fun i hi => by rw [← he i hi]; exact h.2.2 i hi⟩
theorem cs_set2 {G : Nat → ClassId} {S S' : mw_M} {a kl c kp : Nat} {ev : Int32} {ad : Nat → Nat} {L : Nat → List Int32} {X Y Z : Nat → Int32} {U : Nat → Nat → Int32} {k : Nat} {l : List Int32} {x y z : Int32} {u : Nat → Int32} {W : Nat → Prop} (h : cs_R G S a kl c kp ev ad L X Y Z U) (hk : k < kl + 1) (hc : ck_R G S' (ad k) c l x y z u) (hs : sm_p W S S') (hW : ∀ q, a ≤ q → q < a + 2 + 4 * (kl + 1) → W q → ck_X (ad k) q) : cs_R G S' a kl c kp ev ad (va_up L k l) (va_up X k x) (va_up Y k y) (va_up Z k z) (va_up U k u) := by
  obtain ⟨e1, ⟨g, e2, e3⟩, e4, e5, e6⟩ := h
  obtain ⟨j, hj, hj2⟩ := e4 k hk
  refine ⟨by rw [hs.1 a (fun w => by have := hW a (by omega) (by omega) w; omega)]; exact e1, ⟨g, by rw [hs.1 _ (fun w => by have := hW (a + 1) (by omega) (by omega) w; omega)]; exact e2, e3⟩, e4, e5, fun i hi => ?_⟩
  by_cases hik : i = k
  · subst hik
    rw [va_up_self, va_up_self, va_up_self, va_up_self, va_up_self]
    exact hc
  · rw [va_up_ne _ _ hik, va_up_ne _ _ hik, va_up_ne _ _ hik, va_up_ne _ _ hik, va_up_ne _ _ hik]
    obtain ⟨j', hj', hj2'⟩ := e4 i hi
    have hne : ad i ≠ ad k := fun z => hik (e5 i k hi hk z)
    exact (e6 i hi).sm hs (fun q h1 h2 w => by have := hW q (by omega) (by omega) w; omega)
section CRT
variable {G : Nat → ClassId} {N : Nat} {b p kl sz A c : Nat} {x7 x29 x3 x y z : Int32} {u : Nat → Int32}
theorem rc_ph1 (hp : p ≤ 4) (hA : b + 36 + 2 * p ≤ A) (hN : 61 ≤ N) (hsz : sz ≤ 60) : ∀ (n k f fi fu : Nat) (pb B : Nat → List Int32) (S : mw_M) (D : List Int32), k + n = 4 → fu ≤ n → fu ≤ p → (p = 0 ∨ fi < p) → g_main S b p kl sz x7 x29 x3 → po_R G S (b + 34) p fi fu sz pb → ck_R G S A c D x y z u → (∀ j, j < fu → pb ((fi + j) % p) = B j) → (∀ j, fu ≤ j → j < p → pb ((fi + j) % p) = []) → D.length + (cat B fu).length ≤ c → ∃ S' fi', pf_X8_rotate_10 G N (n + f) b A (nI k) S = pf_X8_rotate_10 G N f b A 4 S' ∧ (p = 0 ∨ fi' < p) ∧ po_R G S' (b + 34) p fi' 0 sz (fun _ => []) ∧ ck_R G S' A c (D ++ cat B fu) x y z u ∧ sm_p (fun q => po_X (b + 34) p q ∨ ck_X A q) S S' := by
  intro n
  induction n with
  | zero =>
    intro k f fi fu pb B S D hk hfn hfp hfi hm hpo hck hB hE hc
    have hk4 : k = 4 := by omega
    have hf0 : fu = 0 := by omega
    subst hk4; subst hf0
    refine ⟨S, fi, by rw [Nat.zero_add]; rfl, hfi, hpo.cg (fun i hi => ?_), by rw [cat, List.append_nil]; exact hck, sm_p.rf _ S⟩
    rcases hfi with h0 | hfi
    · omega
    · obtain ⟨j, hj, he⟩ := md_sur hfi hi
      rw [← he]
      exact hE j (Nat.zero_le _) hj
  | succ n ih =>
    intro k f fi fu pb B S D hk hfn hfp hfi hm hpo hck hB hE hc
    rw [show n + 1 + f = (n + f) + 1 by omega, pf_X8_rotate_10, if_neg (show ¬ (4 : Int32) ≤ nI k from nI_ge (b := 4) (by omega) (by decide))]
    simp only [gr_q (k := 9) hm rfl, Option.bind_some, v_q _ hck.1, ck_body hck, mw_b2, v_q _ hpo.1, nI_1]
    cases fu with
    | zero =>
      rw [po_move0 hpo]
      obtain ⟨S', fi', e1, e2, e3, e4, e5⟩ := ih (k + 1) f fi 0 pb B S D (by omega) (Nat.zero_le _) (Nat.zero_le _) hfi hm hpo hck hB hE hc
      exact ⟨S', fi', e1, e2, e3, e4, e5⟩
    | succ fu =>
      have hfi' : fi < p := by omega
      have hb0 : pb fi = B 0 := by
        have := hB 0 (by omega)
        rw [Nat.add_zero, Nat.mod_eq_of_lt hfi'] at this
        exact this
      have hl60 := (hpo.2.2 fi hfi').2.1
      rw [cat, List.length_append] at hc
      obtain ⟨S1, e1, p1, r1, s1⟩ := po_move (N := N) hpo hck.2.2 (by omega) hp hfi' (by omega) (by rw [hb0]; omega) (by omega)
      rw [e1]
      have s1' : sm_p (fun q => po_X (b + 34) p q ∨ ck_X A q) S S1 := s1.wd (fun q hq => by
        rcases hq with hq | hq
        · exact Or.inl hq
        · right; rcases hq with hq | hq <;> constructor <;> omega)
      have hm1 : g_main S1 b p kl sz x7 x29 x3 := by
        unfold g_main
        rw [s1.1 b (by intro w; rcases w with w | (w | w) <;> omega)]
        exact hm
      have hck1 : ck_R G S1 A c (D ++ B 0) x y z u := by
        rw [hb0] at r1
        exact ⟨by rw [s1.1 A (by intro w; rcases w with w | (w | w) <;> omega)]; exact hck.1, by rw [s1.1 _ (by intro w; rcases w with w | (w | w) <;> omega)]; exact hck.2.1, r1⟩
      have hstep : ∀ j, j < p → j + 1 < p → va_up pb fi [] (((fi + 1) % p + j) % p) = pb ((fi + (j + 1)) % p) := fun j h1 h2 => by
        rw [Nat.mod_add_mod, show fi + 1 + j = fi + (j + 1) by omega, va_up_ne _ _ (md_ne hfi' (by omega) h2)]
      have hlast : va_up pb fi [] (((fi + 1) % p + (p - 1)) % p) = [] := by
        rw [Nat.mod_add_mod, show fi + 1 + (p - 1) = fi + p by omega, Nat.add_mod_right, Nat.mod_eq_of_lt hfi', va_up_self]
      obtain ⟨S', fi', e2, e3, e4, e5, e6⟩ := ih (k + 1) f ((fi + 1) % p) fu (va_up pb fi []) (fun j => B (j + 1)) S1 (D ++ B 0) (by omega) (by omega) (by omega) (Or.inr (Nat.mod_lt _ (by omega))) hm1 p1 hck1 (fun j hj => by rw [hstep j (by omega) (by omega)]; exact hB (j + 1) (by omega)) (fun j h1 h2 => by
        by_cases h9 : j = p - 1
        · rw [h9]; exact hlast
        · rw [hstep j h2 (by omega)]; exact hE (j + 1) (by omega) (by omega)) (by rw [List.length_append]; omega)
      refine ⟨S', fi', e2, e3, e4, ?_, s1'.tr e6⟩
      rw [cat, ← List.append_assoc]
      exact e5
/-- the threads, as the class holds them -/
def g_tha (G : Nat → ClassId) (S : mw_M) (b : Nat) : Prop := ∃ g : Nat → Option Nat, S.1 (b + 6) = some (.inl (G 4, 3, .inr (.inr (.inr (.inr g))))) ∧ ∀ i, i < 3 → g i = some (b + 7 + 4 * i)
theorem g_tha.sm {S S' : mw_M} {W : Nat → Prop} (h : g_tha G S b) (hs : sm_p W S S') (h0 : ¬ W (b + 6)) : g_tha G S' b := by
  obtain ⟨g, e1, e2⟩ := h
  exact ⟨g, by rw [hs.1 _ h0]; exact e1, e2⟩
theorem rc_ph2 (hA : b + 36 + 2 * p ≤ A) (hN : 61 ≤ N) (hsz : sz ≤ 60) : ∀ (n t f : Nat) (X Y Z : Nat → Int32) (F : Nat → Nat → Int32) (bk : Nat → List Int32) (S : mw_M) (D : List Int32), t + n = 3 → g_main S b p kl sz x7 x29 x3 → g_tha G S b → (∀ i, i < 3 → th_R G S (b + 7 + 4 * i) (X i) (Y i) (Z i) (F i) sz (bk i)) → ck_R G S A c D x y z u → D.length + (cat (fun k => bk (t + k)) n).length ≤ c → ∃ S', pf_X8_rotate_35 G N (n + f) b A (nI t) S = pf_X8_rotate_35 G N f b A 3 S' ∧ (∀ i, i < 3 → th_R G S' (b + 7 + 4 * i) (X i) (Y i) (Z i) (F i) sz (if t ≤ i then [] else bk i)) ∧ ck_R G S' A c (D ++ cat (fun k => bk (t + k)) n) x y z u ∧ sm_p (fun q => (b + 7 ≤ q ∧ q < b + 19) ∨ ck_X A q) S S' := by
  intro n
  induction n with
  | zero =>
    intro t f X Y Z F bk S D ht hm ha hth hck hc
    have : t = 3 := by omega
    subst this
    refine ⟨S, by rw [Nat.zero_add]; rfl, fun i hi => ?_, by rw [cat, List.append_nil]; exact hck, sm_p.rf _ S⟩
    rw [if_neg (by omega)]; exact hth i hi
  | succ n ih =>
    intro t f X Y Z F bk S D ht hm ha hth hck hc
    rw [show n + 1 + f = (n + f) + 1 by omega, pf_X8_rotate_35, if_neg (show ¬ (3 : Int32) ≤ nI t from nI_ge (b := 3) (by omega) (by decide))]
    have ha2 := ha
    obtain ⟨g, a1, a2⟩ := ha
    have hti := hth t (by omega)
    have hl60 := hti.2.2.2.1
    rw [cat, List.length_append] at hc
    simp only [Nat.add_zero] at hc
    obtain ⟨S1, e1, r1, r2, s1⟩ := br_moveTo (N := N) hck.2.2 hti.2.2 (by omega) (by omega) (by omega)
    simp only [gr_q (k := 3) hm rfl, aq_q a1 (show t < 3 by omega) (by decide) (a2 t (by omega)), Option.bind_some, v_q _ hti.1, th_buf hti, mw_b2, v_q _ hck.1, ck_body hck, v_q _ hti.2.2.1, e1, nI_1]
    have s1' : sm_p (fun q => (b + 7 ≤ q ∧ q < b + 19) ∨ ck_X A q) S S1 := s1.wd (fun q hq => by
      rcases hq with (hq | hq) | (hq | hq)
      · right; constructor <;> omega
      · right; constructor <;> omega
      · left; constructor <;> omega
      · left; constructor <;> omega)
    have hm1 : g_main S1 b p kl sz x7 x29 x3 := by
      unfold g_main
      rw [s1'.1 b (by intro w; rcases w with w | w <;> omega)]
      exact hm
    have ha1 : g_tha G S1 b := ha2.sm s1' (by intro w; rcases w with w | w <;> omega)
    have hck1 : ck_R G S1 A c (D ++ bk t) x y z u := ⟨by rw [s1.1 A (by intro w; rcases w with (w | w) | (w | w) <;> omega)]; exact hck.1, by rw [s1.1 _ (by intro w; rcases w with (w | w) | (w | w) <;> omega)]; exact hck.2.1, r1⟩
    have hth1 : ∀ i, i < 3 → th_R G S1 (b + 7 + 4 * i) (X i) (Y i) (Z i) (F i) sz (va_up bk t [] i) := fun i hi => by
      by_cases h9 : i = t
      · subst h9
        rw [va_up_self]
        exact ⟨by rw [s1.1 _ (by intro w; rcases w with (w | w) | (w | w) <;> omega)]; exact hti.1, by rw [s1.1 _ (by intro w; rcases w with (w | w) | (w | w) <;> omega)]; exact hti.2.1, r2⟩
      · rw [va_up_ne _ _ h9]
        exact (hth i hi).sm s1 (by intro w; rcases w with (w | w) | (w | w) <;> omega) (by intro w; rcases w with (w | w) | (w | w) <;> omega) (by intro w; rcases w with (w | w) | (w | w) <;> omega) (by intro w; rcases w with (w | w) | (w | w) <;> omega)
    have hfun : (fun k => va_up bk t [] (t + 1 + k)) = fun k => bk (t + (k + 1)) := by
      funext k
      rw [va_up_ne _ _ (by omega), show t + 1 + k = t + (k + 1) by omega]
    obtain ⟨S', e2, q1, q2, q3⟩ := ih (t + 1) f X Y Z F _ S1 _ (by omega) hm1 ha1 hth1 hck1 (by rw [hfun, List.length_append]; omega)
    refine ⟨S', e2, fun i hi => ?_, ?_, s1'.tr q3⟩
    · have := q1 i hi
      by_cases h9 : i = t
      · subst h9
        rw [if_neg (by omega), va_up_self] at this
        rw [if_pos (by omega)]
        exact this
      · rw [va_up_ne _ _ h9] at this
        by_cases hc2 : t + 1 ≤ i
        · rw [if_pos hc2] at this; rw [if_pos (by omega)]; exact this
        · rw [if_neg hc2] at this; rw [if_neg (by omega)]; exact this
    · rw [hfun, List.append_assoc] at q2
      rw [cat]
      exact q2
theorem rc_ph3 (hA : b + 36 + 2 * p ≤ A) (hN : 61 ≤ N) : ∀ (n t f : Nat) (X Y Z : Nat → Int32) (F : Nat → Nat → Int32) (bk : Nat → List Int32) (S : mw_M) (D : List Int32), t + n = 3 → g_main S b p kl sz x7 x29 x3 → g_tha G S b → (∀ i, i < 3 → th_R G S (b + 7 + 4 * i) (X i) (Y i) (Z i) (F i) sz (bk i)) → ck_R G S A c D x y z u → D.length + 8 * n ≤ c → ∃ S', pf_X8_rotate_64 G N (n + f) b A (nI t) S = pf_X8_rotate_64 G N f b A 3 S' ∧ (∀ i, i < 3 → th_R G S' (b + 7 + 4 * i) (X i) (if t ≤ i then 0 else Y i) (Z i) (F i) sz (bk i)) ∧ ck_R G S' A c (D ++ losses Y n t) x y z u ∧ sm_p (fun q => (b + 7 ≤ q ∧ q < b + 19) ∨ ck_X A q) S S' := by
  intro n
  induction n with
  | zero =>
    intro t f X Y Z F bk S D ht hm ha hth hck hc
    have : t = 3 := by omega
    subst this
    refine ⟨S, by rw [Nat.zero_add]; rfl, fun i hi => ?_, by rw [losses, List.append_nil]; exact hck, sm_p.rf _ S⟩
    rw [if_neg (by omega)]; exact hth i hi
  | succ n ih =>
    intro t f X Y Z F bk S D ht hm ha hth hck hc
    rw [show n + 1 + f = (n + f) + 1 by omega, pf_X8_rotate_64, if_neg (show ¬ (3 : Int32) ≤ nI t from nI_ge (b := 3) (by omega) (by decide))]
    have ha2 := ha
    obtain ⟨g, a1, a2⟩ := ha
    have hti := hth t (by omega)
    obtain ⟨S1, e1, t1, s1⟩ := th_take (N := N) hti
    simp only [gr_q (k := 3) hm rfl, aq_q a1 (show t < 3 by omega) (by decide) (a2 t (by omega)), Option.bind_some, v_q _ hti.1, e1, mw_b2, nI_1]
    have s1' : sm_p (fun q => (b + 7 ≤ q ∧ q < b + 19) ∨ ck_X A q) S S1 := s1.wd (fun q hq => by
      left; rcases hq with hq | hq <;> constructor <;> omega)
    have hm1 : g_main S1 b p kl sz x7 x29 x3 := by
      unfold g_main
      rw [s1'.1 b (by intro w; rcases w with w | w <;> omega)]
      exact hm
    have ha1 : g_tha G S1 b := ha2.sm s1' (by intro w; rcases w with w | w <;> omega)
    have hck1 : ck_R G S1 A c D x y z u := hck.sm s1 (fun q h1 h2 w => by rcases w with w | w <;> omega)
    have hth1 : ∀ i, i < 3 → th_R G S1 (b + 7 + 4 * i) (X i) (upd Y t 0 i) (Z i) (F i) sz (bk i) := fun i hi => by
      by_cases h9 : i = t
      · subst h9
        rw [pk_us]; exact t1
      · rw [pk_un h9]
        exact (hth i hi).sm s1 (by intro w; rcases w with w | w <;> omega) (by intro w; rcases w with w | w <;> omega) (by intro w; rcases w with w | w <;> omega) (by intro w; rcases w with w | w <;> omega)
    have fin : ∀ (S' : mw_M) (D' : List Int32), (∀ i, i < 3 → th_R G S' (b + 7 + 4 * i) (X i) (if t + 1 ≤ i then 0 else upd Y t 0 i) (Z i) (F i) sz (bk i)) → ∀ i, i < 3 → th_R G S' (b + 7 + 4 * i) (X i) (if t ≤ i then 0 else Y i) (Z i) (F i) sz (bk i) := fun S' D' q i hi => by
      have := q i hi
      by_cases h9 : i = t
      · subst h9
        rw [if_neg (by omega), pk_us] at this
        rw [if_pos (by omega)]
        exact this
      · rw [pk_un h9] at this
        by_cases hc2 : t + 1 ≤ i
        · rw [if_pos hc2] at this; rw [if_pos (by omega)]; exact this
        · rw [if_neg hc2] at this; rw [if_neg (by omega)]; exact this
    have hlc : losses (upd Y t 0) n (t + 1) = losses Y n (t + 1) := losses_c n (t + 1) (fun i hi => pk_un (by omega))
    by_cases h0 : Y t ≤ 0
    · rw [if_pos h0]
      obtain ⟨S', e2, q1, q2, q3⟩ := ih (t + 1) f X _ Z F bk S1 D (by omega) hm1 ha1 hth1 hck1 (by omega)
      refine ⟨S', e2, fin S' D q1, ?_, s1'.tr q3⟩
      rw [losses, if_pos h0, List.nil_append, ← hlc]
      exact q2
    · rw [if_neg h0, v_q _ hck1.1]
      have hv := vl_le (un (Y t))
      obtain ⟨S2, e3, k2, s2⟩ := ck_loss (N := N) hck1 (nI t) (Y t) (vl_nI (by omega)) (vl_2n _) (by omega) (by omega)
      simp only [e3, Option.bind_some]
      have s2' : sm_p (fun q => (b + 7 ≤ q ∧ q < b + 19) ∨ ck_X A q) S1 S2 := s2.wd (fun q hq => Or.inr hq)
      have hm2 : g_main S2 b p kl sz x7 x29 x3 := by
        unfold g_main
        rw [s2.1 b (by intro w; omega)]
        exact hm1
      have ha2' : g_tha G S2 b := ha1.sm s2 (by intro w; omega)
      have hth2 : ∀ i, i < 3 → th_R G S2 (b + 7 + 4 * i) (X i) (upd Y t 0 i) (Z i) (F i) sz (bk i) := fun i hi => (hth1 i hi).sm s2 (by intro w; omega) (by intro w; omega) (by intro w; omega) (by intro w; omega)
      have hll := lossB_len (nI t) (Y t) (vl_nI (by omega))
      obtain ⟨S', e2, q1, q2, q3⟩ := ih (t + 1) f X _ Z F bk S2 _ (by omega) hm2 ha2' hth2 k2 (by rw [List.length_append, hll]; omega)
      refine ⟨S', e2, fin S' D q1, ?_, (s1'.tr s2').tr q3⟩
      rw [losses, if_neg h0, ← hlc, ← List.append_assoc]
      exact q2
end CRT
