/-! the law: what holds at its loop's head -/
theorem RR.fr {G : Nat → ClassId} {b p kl sz kc : Nat} {S S1 : mw_M} {M : mm_M} (h : RR G b p kl sz kc S M) (hq : ∀ q, cl_X b p kl q → S1.1 q = S.1 q) : RR G b p kl sz kc S1 M := by
  have hs : sm_p (fun q => ¬ cl_X b p kl q) S (S1.1, S.2) := ⟨fun q w => hq q (Classical.not_not.mp w), rfl⟩
  have hf := fm.rf [] [] M
  obtain ⟨bf, ch, h1, h2, h3, h4, h5, h6, h7, h8, h9, h10, h11, h12, h13⟩ := h
  have r : RR G b p kl sz kc (S1.1, S.2) M := ⟨bf, ch, (by rw [hf.1 7 (by decide), hf.1 29 (by decide), hf.1 3 (by decide)]; exact h1.k hs (by intro w; exact w ⟨by omega, by omega⟩)), h2.k hs (fun q z1 z2 w => by exact w ⟨by omega, by omega⟩) hf (by decide) (by decide), h3.k hs (fun q z1 z2 w => by exact w ⟨by omega, by omega⟩) hf (by decide) (by decide) (by decide), h4.k hs (fun q z1 z2 w => by exact w ⟨by omega, by omega⟩) hf (by decide) (by decide) (by decide) (by decide), h5.k hs (fun q z1 z2 w => by exact w ⟨by omega, by omega⟩) hf (by decide) (by decide) (by decide), h6.k hs (fun q z1 z2 w => by exact w ⟨by omega, by omega⟩) hf (by decide) (by decide) (by decide) (by decide) (by decide) (by decide), h7.k hs (fun q z1 z2 w => by exact w ⟨by omega, by omega⟩) hf (by decide) (by decide), h8.k hs (fun q z1 z2 w => by exact w ⟨by omega, by omega⟩) hf (by decide) (by decide) (by decide) (by decide) (by decide) (by decide) (by decide) (by decide), h9.k hs (fun q z1 z2 w => by exact w ⟨by omega, by omega⟩), h10.k hs (fun q z1 z2 w => by exact w ⟨by omega, by omega⟩) hf (by decide) (by decide), h11.k hf (by decide) (by decide) (by decide) (by decide) (by decide) (by decide) (by decide) (by decide) (by decide), h12.k hf (by decide), h13⟩
  exact r
theorem mm_R.fr {G : Nat → ClassId} {h : Nat} {S S1 : mw_M} {M : mm_M} (hR : mm_R G h S M) (hq : ∀ q, h ≤ q → q ≤ h + 25 → S1.1 q = S.1 q) : mm_R G h S1 M := ⟨by rw [hq h (by omega) (by omega)]; exact hR.1, fun k hk => by rw [hq _ (by omega) (by omega)]; exact hR.2 k hk⟩
def LW (G : Nat → ClassId) (X pn kl sz kc : Nat) (S : mw_M) (M : mm_M) : Prop := RR G X pn kl sz kc S M ∧ mm_R G (X + 36 + 2 * pn + 4 * kl + 10) S M ∧ (∃ f, S.1 (X + 36 + 2 * pn + 4 * kl + 36) = some (.inl (G 8, 1, .inr (.inl f)))) ∧ X + 36 + 2 * pn + 4 * kl + 36 < S.2
/-- a call that may throw, as the law's helper answers it -/
def OPk (k : Nat → Int32) (G : Nat → ClassId) (b p kl sz kc : Nat) (S : mw_M) (x : Option (Nat × Int32 × mw_M)) (y : Option (Int32 × mm_M)) : Prop := ∃ (c : Nat) (r r' : Int32) (S' : mw_M) (M' : mm_M), x = some (c, r, S') ∧ y = some (r', M') ∧ c ≤ 2 ∧ M'.1 4 = k c ∧ (c = 0 → r = r') ∧ RR G b p kl sz kc S' M' ∧ sm_p (cl_X b p kl) S S'
section LWL
variable {G : Nat → ClassId} {N X pn kl sz kc kc' : Nat} {S S' : mw_M} {M M' : mm_M}
theorem LW.oX (h : LW G X pn kl sz kc S M) : ∃ fs, S.1 X = some (.inr (8, fs)) := by
  obtain ⟨⟨bf, ch, h1, -⟩, -⟩ := h
  exact ⟨_, h1⟩
theorem LW.opi (h : LW G X pn kl sz kc S M) {x : Option (Int32 × mw_M)} {y : Option (Int32 × mm_M)} (hq : OPi G X pn kl sz kc' S x y) : ∃ r S' M', x = some (r, S') ∧ y = some (r, M') ∧ mm_R G (X + 36 + 2 * pn + 4 * kl + 10) S' M ∧ ∀ S1, mm_R G (X + 36 + 2 * pn + 4 * kl + 10) S1 M' → mm_sm (X + 36 + 2 * pn + 4 * kl + 10) S' S1 → LW G X pn kl sz kc' S1 M' := by
  obtain ⟨r, S', M', e1, e2, hRR, hs⟩ := hq
  obtain ⟨-, hR, ⟨f, hf⟩, hz⟩ := h
  refine ⟨r, S', M', e1, e2, hR.fr (fun q q1 q2 => hs.1 q (fun w => by obtain ⟨w1, w2⟩ := w; omega)), fun S1 hR1 hsm => ⟨hRR.fr (fun q w => hsm.1 q (Or.inl (by obtain ⟨w1, w2⟩ := w; omega))), hR1, ⟨f, ?_⟩, ?_⟩⟩
  · rw [hsm.1 _ (Or.inr (by omega)), hs.1 _ (fun w => by obtain ⟨w1, w2⟩ := w; omega)]
    exact hf
  · rw [hsm.2, hs.2]
    exact hz
theorem LW.mono (h : LW G X pn kl sz kc S M) (h1 : kc ≤ kc') (h2 : kc' < 100000) : LW G X pn kl sz kc' S M := ⟨h.1.mono h1 h2, h.2⟩
theorem OPk.of {x : Option (Nat × Int32 × mw_M)} {y : Option (Int32 × mm_M)} (h : OPt G X pn kl sz kc S x y) : OPk nI G X pn kl sz kc S x y := h
theorem sj_o {f : Nat → Int64} {o : Nat} (h : S.1 o = some (.inl (G 8, 1, .inr (.inl f)))) (w : Int64) : mw_sj S o (G 8) 0 w = some (mw_up S o (.inl (G 8, 1, .inr (.inl (vp_updL f (0 : Int32).toNatClampNeg w))))) := by
  unfold mw_sj
  rw [h]
  exact if_pos ⟨rfl, by decide⟩
/-- before the helper's call: its row of one long -/
theorem LW.ho (h : LW G X pn kl sz kc S M) (hs : sm_p (cl_X X pn kl) S S') (w : Int64) : ∃ u, mw_sj S' (X + 36 + 2 * pn + 4 * kl + 36) (G 8) 0 w = some u := by
  obtain ⟨-, -, ⟨f, hf⟩, -⟩ := h
  exact ⟨_, sj_o (f := f) (by rw [hs.1 _ (fun w => by obtain ⟨w1, w2⟩ := w; omega)]; exact hf) w⟩
/-- behind the helper's call -/
theorem LW.u (h : LW G X pn kl sz kc S M) (hs : sm_p (cl_X X pn kl) S S') (hRR : RR G X pn kl sz kc' S' M') {k : Nat → Int32} {w : Int64} {c : Nat} {r rr : Int32} {u : mw_M} (hp : hl_P G (X + 36 + 2 * pn + 4 * kl + 36) k w (c, r, S') rr u) : mm_R G (X + 36 + 2 * pn + 4 * kl + 10) u M ∧ ∀ S1 S2, mm_R G (X + 36 + 2 * pn + 4 * kl + 10) S2 M' → mm_sm (X + 36 + 2 * pn + 4 * kl + 10) u S1 → mm_sm (X + 36 + 2 * pn + 4 * kl + 10) S1 S2 → LW G X pn kl sz kc' S2 M' ∧ (c = 0 → mw_aj S2 (X + 36 + 2 * pn + 4 * kl + 36) (G 8) 0 = some w) := by
  obtain ⟨-, hR, ⟨f, hf⟩, hz⟩ := h
  obtain ⟨-, hp0, hp1⟩ := hp
  have hf' : S'.1 (X + 36 + 2 * pn + 4 * kl + 36) = some (.inl (G 8, 1, .inr (.inl f))) := by rw [hs.1 _ (fun w => by obtain ⟨w1, w2⟩ := w; omega)]; exact hf
  have hu : (∀ q, q ≠ X + 36 + 2 * pn + 4 * kl + 36 → u.1 q = S'.1 q) ∧ S'.2 ≤ u.2 ∧ ∃ f', u.1 (X + 36 + 2 * pn + 4 * kl + 36) = some (.inl (G 8, 1, .inr (.inl f'))) ∧ (c = 0 → f' 0 = w) := by
    by_cases hc : c = 0
    · have h1 := (sj_o hf' w).symm.trans (hp0 hc)
      cases h1
      exact ⟨fun q hq => up_n S' _ hq, Nat.le_refl _, _, up_s S' _ _, fun _ => by simp [vp_updL]⟩
    · obtain ⟨h1, h2⟩ := hp1 hc
      exact ⟨fun q hq => by rw [h1], h2, f, by rw [h1]; exact hf', fun h => absurd h hc⟩
  obtain ⟨u1, u2, f', u3, u4⟩ := hu
  refine ⟨hR.fr (fun q q1 q2 => (u1 q (by omega)).trans (hs.1 q (fun w => by obtain ⟨w1, w2⟩ := w; omega))), fun S1 S2 hR2 m1 m2 => ?_⟩
  have ho : S2.1 (X + 36 + 2 * pn + 4 * kl + 36) = some (.inl (G 8, 1, .inr (.inl f'))) := by rw [m2.1 _ (Or.inr (by omega)), m1.1 _ (Or.inr (by omega))]; exact u3
  refine ⟨⟨hRR.fr (fun q w => ?_), hR2, ⟨f', ho⟩, ?_⟩, fun hc => ?_⟩
  · obtain ⟨w1, w2⟩ := w
    exact ((m2.1 q (Or.inl (by omega))).trans (m1.1 q (Or.inl (by omega)))).trans (u1 q (by omega))
  · rw [m2.2, m1.2]
    have := hs.2
    omega
  · unfold mw_aj
    rw [ho]
    show (if _ then some (f' (0 : Int32).toNatClampNeg) else none) = some w
    rw [if_pos ⟨rfl, by decide⟩]
    exact congrArg some (u4 hc)
theorem sx {i j L : Nat} (h : i + 6 ≤ L) (hL : L ≤ 3075) (hj : j < 6) : vp_in (nI i + nI j) L := by
  rw [nI_add]
  exact vp_in_nI (by omega) (by omega)
end LWL
section LWR
variable {p : Program} {l : Launch} {e : Env} {R : Room} {s : State} {m : MethodId} {args : Array Value} {below : List Frame} {meth : Method} {c : Code} {H : Heap} {locs : List Loc} {cells slots : Nat} {Q : State → Prop}
variable {pc : Nat} {ls : Array Slot} {rest st0 : List Value} {D : va_G} {cl : List vw_C} {A : Nat → Prop} {tys : List (ClassId × FieldType)} {aos : List String} {S : mw_M} {mc ms h : Nat} {av : Array Value} {G : Nat → ClassId} {M M1 : mm_M}
theorem mx_calli {r : Int32} (hr : va_Run p l e R s m args below meth c H locs cells slots mc ms (F0 m pc ls st0) rest ((mm_Qi D cl tys aos G h S (r, M1)) av) (mm_A h S)) (hw : mw_W D cl tys aos A s S H locs) (hA : ∀ q, h ≤ q → q ≤ h + 25 → A q) (kk : ∀ (S1 : mw_M) (H1 : Heap) (locs1 : List Loc), mm_R G h S1 M1 → mm_sm h S S1 → mw_W D cl tys aos A s S1 H1 locs1 → W p l e R s m args below meth c H1 locs1 (cells + mc) (slots + ms) Q (F0 m (pc + 3) ls (.int r :: rest))) : W p l e R s m args below meth c H locs cells slots Q (F0 m pc ls st0) := by
  have hin : ∀ q, mm_A h S q → A q := fun q z => z.elim (mw_in hw q) (fun z => hA q z.1 z.2)
  exact va_calli hr hw.2.2.1 (fun q _ h => hin q h) hin (fun r' u t H1 locs1 ht hvm hp hB hz hk hS => by
    cases hp
    obtain ⟨S1, hE, hR, hsm⟩ := hB
    exact kk S1 H1 locs1 hR hsm ⟨by rw [← ht]; exact hE.1.wk hin, hE.2.moved hvm.symm, hS, hw.2.2.2⟩)
theorem mx_preV {q : vw_C} {As : List Value} (hw : mw_W D cl tys aos A s S H locs) (hc : cl[9]? = some q) (hR : mm_R G h S M) : PreV s H q.1 h (va_Pc (.ref h :: As) (mm_B D cl tys aos G h S M)) As := ⟨mm_blind D cl tys aos G h S M _, mw_recv hw hc ⟨_, hR.1⟩, fun U hU hW => ⟨rfl, S, (mw_pre hw [] U hU hW).2, hR, fun _ _ => rfl, rfl⟩⟩
end LWR
/-! cell -/
abbrev rmL_cell : Room := { frames := 0, cells := 0, slots := 0, locals := 0 }
abbrev wsL_cell : List Cond := Cond.code yL_cell cL_cell 2 (some .int) :: lw_good
abbrev cellv (L : Nat) (xs : Nat → Int32) (k : Nat) : Int32 := if k < L then xs k else 0
theorem cell_blind (D : va_G) (cl : List vw_C) (tys : List (ClassId × FieldType)) (aos : List String) (S : mw_M) (b L : Nat) (xs : Nat → Int32) (av : List Value) : FrameBlind (va_Pc av (fun U => mw_B D cl tys aos S U ∧ va_X b L xs U U.heap)) := fun a U g mk q => ⟨q.1, ⟨q.2.1.1, q.2.1.2.moved (u := U) (U := U.calling g mk a) (Vm.Alike.refl U.vm)⟩, va_X.moved (u := U) (U := U.calling g mk a) (Vm.Alike.refl U.vm) q.2.2⟩
set_option maxHeartbeats 4000000 in
set_option maxRecDepth 100000 in
theorem cm_L_cell (l : Launch) (D : va_G) (G : Nat → ClassId) (S : mw_M) (b L k : Nat) (xs : Nat → Int32) (hk : k < 10) (hL : L ≤ 3075) (hbA : ¬ mw_A S b) : Met l yL_cell wsL_cell rmL_cell (va_Pc [.ref b, .int (nI k)] (fun U => mw_B D vwCl (mw_tys G) mw_aos S U ∧ va_X b L xs U U.heap)) (mw_Qi D vwCl (mw_tys G) mw_aos (mw_A S) (cellv L xs k, S)) 0 0 (mw_A S) := by
  refine Met.ofW (cc := cL_cell) (maxL := 2) (ret := (some .int)) (by decide) rfl ?_
  intro p e s m args below meth c s₁ B hml hv
  obtain ⟨rfl, hB, hXs⟩ := hv
  have hw := mw_begin hB
  have hx := B.exec
  have hb := B.bytes
  have hr := B.returns
  have hlocks := B.notSynchronized
  have hbl : b < s.heap.size := Nat.lt_of_not_le (fun z => hbA (Or.inr (by rw [← hB.1.2]; exact z)))
  have hl := lv_entry ([.ref b, .int (nI k)]) (n := 2) (Nat.le_of_ble_eq_true rfl)
  rw [lg_entry_eq]
  generalize (lg_sl ([.ref b, .int (nI k)]) ++ List.replicate (2 - (lg_sl ([.ref b, .int (nI k)])).length) Slot.unset).toArray = ls at hl ⊢
  have hl : lv_has ls 2 [(0, .ref b), (1, .int (nI k))] := hl
  refine lv_iload_n hx hb dL_cell_0 rfl (lv_at hl 1 rfl) ?_
  refine lv_aload_n hx hb dL_cell_1 rfl (lv_at hl 0 rfl) ?_
  refine va_slen hx hb hXs hbl hbA hw.2.2.1 dL_cell_2 ?_
  refine lv_icmp_ge hx hb dL_cell_3 (tgt := 12) (by decide) (fun hc => ?_) (fun hc => ?_)
  · refine lv_iconst (v := 0) hx hb dL_cell_12 (by decide) ?_
    have hk2 : ¬ k < L := fun q => (Int32.not_lt.mpr hc) (nI_lt q (by omega))
    exact mw_iret hx hb hr hlocks hw (by rw [cellv, if_neg hk2]) dL_cell_13
  · have hk2 : k < L := Nat.lt_of_not_le (fun q => hc (nI_le q (by omega)))
    refine lv_aload_n hx hb dL_cell_6 rfl (lv_at hl 0 rfl) ?_
    refine lv_iload_n hx hb dL_cell_7 rfl (lv_at hl 1 rfl) ?_
    refine va_sld hx hb hXs hbl hbA hw.2.2.1 (vp_in_nI hk2 (by omega)) dL_cell_8 ?_
    refine lv_goto hx hb dL_cell_9 (tgt := 13) (by decide) ?_
    exact mw_iret hx hb hr hlocks hw (by rw [cellv, if_pos hk2, nI_clamp (by omega)]) dL_cell_13
