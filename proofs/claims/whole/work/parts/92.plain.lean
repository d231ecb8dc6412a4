/-! the cases of the law's loop -/
abbrev LA (s : State) : Nat → Prop := fun q => s.heap.size ≤ q
abbrev LV (b X pn kl i : Nat) : List (Nat × Value) := [(0, .ref b), (1, .ref X), (2, .ref (X + 36 + 2 * pn + 4 * kl + 10)), (3, .ref (X + 36 + 2 * pn + 4 * kl + 36)), (4, .int (nI i))]
def LC (p : Program) (l : Launch) (s : State) (m : MethodId) (c : Code) (b L : Nat) (xs : Nat → Int32) : Prop := p.tables.exec = Jvm.exec ∧ c.code = cL_law ∧ c.maxLocals = 7 ∧ s.vm.findClass RL = some m.cls ∧ (∀ w ∈ lw_good, w.before #[Value.ref b] s = true) ∧ va_X b L xs s s.heap ∧ b < s.heap.size ∧ mw_T s ∧ mw_X s ∧ l.stackTraces = false ∧ L ≤ 3075
def LK (p : Program) (l : Launch) (e : Env) (s : State) (m : MethodId) (below : List Frame) (meth : Method) (c : Code) (Q : State → Prop) (b : Nat) (D : va_G) (G : Nat → ClassId) (X pn kl sz kc i cells slots : Nat) : Prop := ∀ (S1 : mw_M) (M1 : mm_M) (H1 : Heap) (locs1 : List Loc) (ls1 : Array Slot) (c1 s1 : Nat), c1 ≤ cells + 1 → s1 ≤ slots + 6 → LW G X pn kl sz kc S1 M1 → lv_has ls1 7 (LV b X pn kl i) → mw_W D vwCl (mw_tys G) mw_aos (LA s) s S1 H1 locs1 → W p l e room_1 s m #[Value.ref b] below meth c H1 locs1 c1 s1 Q (F0 m 913 ls1 [])
theorem k0_n {c : Nat} (h : c ≤ 2) (hk : nI c = 0) : c = 0 := by
  rcases (show c = 0 ∨ c = 1 ∨ c = 2 by omega) with rfl | rfl | rfl
  · rfl
  · exact absurd hk (by decide)
  · exact absurd hk (by decide)
theorem k0_r {c : Nat} (_ : c ≤ 2) (hk : (fun c => if c = 0 then (0 : Int32) else 1) c = 0) : c = 0 := by
  by_cases h : c = 0
  · exact h
  · exact absurd ((if_neg h).symm.trans hk) (by decide)
theorem opk_record_ne {G : Nat → ClassId} {N b p kl sz kc : Nat} {S : mw_M} {M : mm_M} (h : RR G b p kl sz kc S M) : OPk (fun c => if c = 0 then 0 else 1) G b p kl sz kc S (pf_X8_record G N S b) (pf_X9_record G N M) ∧ ∀ c r S', pf_X8_record G N S b = some (c, r, S') → ¬ c = 1 := by
  rcases op_record (N := N) h with ⟨r, S', M', e1, e2, e3, e4, e5⟩ | ⟨M', e1, e2, e3, e4⟩
  · exact ⟨⟨0, r, r, S', M', e1, e2, by omega, e3, fun _ => rfl, e4, e5⟩, fun c r S' h => by rw [e1] at h; cases h; decide⟩
  · exact ⟨⟨2, 0, 0, S, M', e1, e2, by omega, e3, fun _ => rfl, e4, sm_p.rf _ S⟩, fun c r S' h => by rw [e1] at h; cases h; decide⟩
section LCS
variable {p : Program} {l : Launch} {e : Env} {s : State} {m : MethodId} {below : List Frame} {meth : Method} {c : Code} {Q : State → Prop} {b L : Nat} {xs : Nat → Int32} {D : va_G} {G : Nat → ClassId} {X pn kl sz kc i : Nat} {S : mw_M} {M : mm_M} {H : Heap} {locs : List Loc} {ls : Array Slot} {cells slots : Nat}
set_option maxHeartbeats 4000000 in
set_option maxRecDepth 100000 in
theorem lc_write (hC : LC p l s m c b L xs) (hi : i + 6 ≤ L) (hX : s.heap.size ≤ X) (hLW : LW G X pn kl sz kc S M) (hl : lv_has ls 7 (LV b X pn kl i)) (hw : mw_W D vwCl (mw_tys G) mw_aos (LA s) s S H locs) (hc1 : cells + 1 ≤ 601024) (hs6 : slots + 6 ≤ 7293000) (hkc : kc + 1 < 100000) (kk : LK p l e s m below meth c Q b D G X pn kl sz (kc + 1) i cells slots) : W p l e room_1 s m #[Value.ref b] below meth c H locs cells slots Q (F0 m 160 ls []) := by
  obtain ⟨hx, hb, hml, hown, hts, hXs, hbl, hTT, hXX, htr, hL⟩ := hC
  have hbA : ¬ LA s b := Nat.not_le.mpr hbl
  have hA : ∀ q, X + 36 + 2 * pn + 4 * kl + 10 ≤ q → q ≤ X + 36 + 2 * pn + 4 * kl + 10 + 25 → LA s q := fun q h1 _ => by show s.heap.size ≤ q; omega
  obtain ⟨r, S', M', e1, e2, hR, hk⟩ := hLW.opi (op_write (N := 10000) hLW.1 (mw_i2c (xs (nI i + 1).toNatClampNeg)))
  refine lv_aload_n hx hb dL_law_160 rfl (lv_at hl 1 rfl) ?_
  refine lv_aload_n hx hb dL_law_161 rfl (lv_at hl 0 rfl) ?_
  refine lv_iload hx hb dL_law_162 (lv_at hl 4 rfl) ?_
  refine lv_iconst (v := 1) hx hb dL_law_164 (by decide) ?_
  refine lv_iadd hx hb dL_law_165 ?_
  refine va_sld hx hb hXs hbl hbA hw.2.2.1 (sx (j := 1) hi hL (by decide)) dL_law_166 ?_
  refine lv_i2c (v := mw_i2c (xs (nI i + 1).toNatClampNeg)) hx hb dL_law_167 rfl ?_
  refine mw_calli (va_runV (As := [.int (mw_i2c (xs (nI i + 1).toNatClampNeg))]) (rest := []) ⟨hx, hb, hml, hown, hts⟩ (cm_X8_write l D G 10000 S X (mw_i2c (xs (nI i + 1).toNatClampNeg)) (r, S') e1) (cwV 1 hts (mw_gV tw_237 tw_238 tw_239 tw_1 tw_240) rfl rfl rfl (by decide +kernel) ⟨Nat.le_of_ble_eq_true rfl, Nat.le_of_ble_eq_true rfl⟩) (mw_preV hw (ci := 8) rfl hLW.oX) rfl rfl hl.1 rfl (lv_room (Nat.le_of_ble_eq_true rfl)) dL_law_168 ⟨by show _ ≤ (601024 : Nat); omega, by show _ ≤ (7293000 : Nat); omega⟩) hw (fun H locs hw => ?_)
  refine lv_aload_n hx hb dL_law_171 rfl (lv_at hl 2 rfl) ?_
  refine lv_aload_n hx hb dL_law_172 rfl (lv_at hl 0 rfl) ?_
  refine lv_iload hx hb dL_law_173 (lv_at hl 4 rfl) ?_
  refine lv_iconst (v := 1) hx hb dL_law_175 (by decide) ?_
  refine lv_iadd hx hb dL_law_176 ?_
  refine va_sld hx hb hXs hbl hbA hw.2.2.1 (sx (j := 1) hi hL (by decide)) dL_law_177 ?_
  refine lv_i2c (v := mw_i2c (xs (nI i + 1).toNatClampNeg)) hx hb dL_law_178 rfl ?_
  refine mx_calli (va_runV (As := [.int (mw_i2c (xs (nI i + 1).toNatClampNeg))]) (rest := [.int r]) ⟨hx, hb, hml, hown, hts⟩ (cm_X9_write l D G 10000 (X + 36 + 2 * pn + 4 * kl + 10) S' M (mw_i2c (xs (nI i + 1).toNatClampNeg)) (r, M') e2) (cwV 1 hts (mw_gV tw_845 tw_846 tw_847 tw_11 tw_848) rfl rfl rfl (by decide +kernel) ⟨Nat.le_of_ble_eq_true rfl, Nat.le_of_ble_eq_true rfl⟩) (mx_preV hw rfl hR) rfl rfl hl.1 rfl (lv_room (Nat.le_of_ble_eq_true rfl)) dL_law_179 ⟨by show _ ≤ (601024 : Nat); omega, by show _ ≤ (7293000 : Nat); omega⟩) hw hA (fun S1 H locs hR1 hm1 hw => ?_)
  refine lv_icmp_eq hx hb dL_law_182 (tgt := 913) (by decide) (fun _ => ?_) (fun h => absurd rfl h)
  exact kk S1 M' H locs ls _ _ (by omega) (by omega) ((hk S1 hR1 hm1).mono (by omega) hkc) hl hw

set_option maxHeartbeats 4000000 in
set_option maxRecDepth 100000 in
theorem lc_advance (hC : LC p l s m c b L xs) (hi : i + 6 ≤ L) (hX : s.heap.size ≤ X) (hLW : LW G X pn kl sz kc S M) (hl : lv_has ls 7 (LV b X pn kl i)) (hw : mw_W D vwCl (mw_tys G) mw_aos (LA s) s S H locs) (hc1 : cells + 1 ≤ 601024) (hs6 : slots + 6 ≤ 7293000) (hkc : kc + 1 < 100000) (kk : LK p l e s m below meth c Q b D G X pn kl sz (kc + 1) i cells slots) : W p l e room_1 s m #[Value.ref b] below meth c H locs cells slots Q (F0 m 187 ls []) := by
  obtain ⟨hx, hb, hml, hown, hts, hXs, hbl, hTT, hXX, htr, hL⟩ := hC
  have hbA : ¬ LA s b := Nat.not_le.mpr hbl
  have hA : ∀ q, X + 36 + 2 * pn + 4 * kl + 10 ≤ q → q ≤ X + 36 + 2 * pn + 4 * kl + 10 + 25 → LA s q := fun q h1 _ => by show s.heap.size ≤ q; omega
  obtain ⟨r, S', M', e1, e2, hR, hk⟩ := hLW.opi (op_advance (N := 10000) hLW.1 (xs (nI i + 1).toNatClampNeg))
  refine lv_aload_n hx hb dL_law_187 rfl (lv_at hl 1 rfl) ?_
  refine lv_aload_n hx hb dL_law_188 rfl (lv_at hl 0 rfl) ?_
  refine lv_iload hx hb dL_law_189 (lv_at hl 4 rfl) ?_
  refine lv_iconst (v := 1) hx hb dL_law_191 (by decide) ?_
  refine lv_iadd hx hb dL_law_192 ?_
  refine va_sld hx hb hXs hbl hbA hw.2.2.1 (sx (j := 1) hi hL (by decide)) dL_law_193 ?_
  refine mw_calli (va_runV (As := [.int (xs (nI i + 1).toNatClampNeg)]) (rest := []) ⟨hx, hb, hml, hown, hts⟩ (cm_X8_advance l D G 10000 S X (xs (nI i + 1).toNatClampNeg) (r, S') e1) (cwV 1 hts (mw_gV tw_245 tw_246 tw_247 tw_1 tw_248) rfl rfl rfl (by decide +kernel) ⟨Nat.le_of_ble_eq_true rfl, Nat.le_of_ble_eq_true rfl⟩) (mw_preV hw (ci := 8) rfl hLW.oX) rfl rfl hl.1 rfl (lv_room (Nat.le_of_ble_eq_true rfl)) dL_law_194 ⟨by show _ ≤ (601024 : Nat); omega, by show _ ≤ (7293000 : Nat); omega⟩) hw (fun H locs hw => ?_)
  refine lv_aload_n hx hb dL_law_197 rfl (lv_at hl 2 rfl) ?_
  refine lv_aload_n hx hb dL_law_198 rfl (lv_at hl 0 rfl) ?_
  refine lv_iload hx hb dL_law_199 (lv_at hl 4 rfl) ?_
  refine lv_iconst (v := 1) hx hb dL_law_201 (by decide) ?_
  refine lv_iadd hx hb dL_law_202 ?_
  refine va_sld hx hb hXs hbl hbA hw.2.2.1 (sx (j := 1) hi hL (by decide)) dL_law_203 ?_
  refine mx_calli (va_runV (As := [.int (xs (nI i + 1).toNatClampNeg)]) (rest := [.int r]) ⟨hx, hb, hml, hown, hts⟩ (cm_X9_advance l D G 10000 (X + 36 + 2 * pn + 4 * kl + 10) S' M (xs (nI i + 1).toNatClampNeg) (r, M') e2) (cwV 1 hts (mw_gV tw_849 tw_850 tw_851 tw_11 tw_852) rfl rfl rfl (by decide +kernel) ⟨Nat.le_of_ble_eq_true rfl, Nat.le_of_ble_eq_true rfl⟩) (mx_preV hw rfl hR) rfl rfl hl.1 rfl (lv_room (Nat.le_of_ble_eq_true rfl)) dL_law_204 ⟨by show _ ≤ (601024 : Nat); omega, by show _ ≤ (7293000 : Nat); omega⟩) hw hA (fun S1 H locs hR1 hm1 hw => ?_)
  refine lv_icmp_eq hx hb dL_law_207 (tgt := 913) (by decide) (fun _ => ?_) (fun h => absurd rfl h)
  exact kk S1 M' H locs ls _ _ (by omega) (by omega) ((hk S1 hR1 hm1).mono (by omega) hkc) hl hw

set_option maxHeartbeats 4000000 in
set_option maxRecDepth 100000 in
theorem lc_begin (hC : LC p l s m c b L xs) (hi : i + 6 ≤ L) (hX : s.heap.size ≤ X) (hLW : LW G X pn kl sz kc S M) (hl : lv_has ls 7 (LV b X pn kl i)) (hw : mw_W D vwCl (mw_tys G) mw_aos (LA s) s S H locs) (hc1 : cells + 1 ≤ 601024) (hs6 : slots + 6 ≤ 7293000) (hkc : kc + 1 < 100000) (kk : LK p l e s m below meth c Q b D G X pn kl sz (kc + 1) i cells slots) : W p l e room_1 s m #[Value.ref b] below meth c H locs cells slots Q (F0 m 296 ls []) := by
  obtain ⟨hx, hb, hml, hown, hts, hXs, hbl, hTT, hXX, htr, hL⟩ := hC
  have hbA : ¬ LA s b := Nat.not_le.mpr hbl
  have hA : ∀ q, X + 36 + 2 * pn + 4 * kl + 10 ≤ q → q ≤ X + 36 + 2 * pn + 4 * kl + 10 + 25 → LA s q := fun q h1 _ => by show s.heap.size ≤ q; omega
  obtain ⟨r, S', M', e1, e2, hR, hk⟩ := hLW.opi (op_begin (N := 10000) hLW.1 (xs (nI i + 1).toNatClampNeg))
  refine lv_aload_n hx hb dL_law_296 rfl (lv_at hl 1 rfl) ?_
  refine lv_aload_n hx hb dL_law_297 rfl (lv_at hl 0 rfl) ?_
  refine lv_iload hx hb dL_law_298 (lv_at hl 4 rfl) ?_
  refine lv_iconst (v := 1) hx hb dL_law_300 (by decide) ?_
  refine lv_iadd hx hb dL_law_301 ?_
  refine va_sld hx hb hXs hbl hbA hw.2.2.1 (sx (j := 1) hi hL (by decide)) dL_law_302 ?_
  refine mw_calli (va_runV (As := [.int (xs (nI i + 1).toNatClampNeg)]) (rest := []) ⟨hx, hb, hml, hown, hts⟩ (cm_X8_begin l D G 10000 S X (xs (nI i + 1).toNatClampNeg) (r, S') e1) (cwV 1 hts (mw_gV tw_249 tw_250 tw_251 tw_1 tw_252) rfl rfl rfl (by decide +kernel) ⟨Nat.le_of_ble_eq_true rfl, Nat.le_of_ble_eq_true rfl⟩) (mw_preV hw (ci := 8) rfl hLW.oX) rfl rfl hl.1 rfl (lv_room (Nat.le_of_ble_eq_true rfl)) dL_law_303 ⟨by show _ ≤ (601024 : Nat); omega, by show _ ≤ (7293000 : Nat); omega⟩) hw (fun H locs hw => ?_)
  refine lv_aload_n hx hb dL_law_306 rfl (lv_at hl 2 rfl) ?_
  refine lv_aload_n hx hb dL_law_307 rfl (lv_at hl 0 rfl) ?_
  refine lv_iload hx hb dL_law_308 (lv_at hl 4 rfl) ?_
  refine lv_iconst (v := 1) hx hb dL_law_310 (by decide) ?_
  refine lv_iadd hx hb dL_law_311 ?_
  refine va_sld hx hb hXs hbl hbA hw.2.2.1 (sx (j := 1) hi hL (by decide)) dL_law_312 ?_
  refine mx_calli (va_runV (As := [.int (xs (nI i + 1).toNatClampNeg)]) (rest := [.int r]) ⟨hx, hb, hml, hown, hts⟩ (cm_X9_begin l D G 10000 (X + 36 + 2 * pn + 4 * kl + 10) S' M (xs (nI i + 1).toNatClampNeg) (r, M') e2) (cwV 1 hts (mw_gV tw_857 tw_858 tw_859 tw_11 tw_860) rfl rfl rfl (by decide +kernel) ⟨Nat.le_of_ble_eq_true rfl, Nat.le_of_ble_eq_true rfl⟩) (mx_preV hw rfl hR) rfl rfl hl.1 rfl (lv_room (Nat.le_of_ble_eq_true rfl)) dL_law_313 ⟨by show _ ≤ (601024 : Nat); omega, by show _ ≤ (7293000 : Nat); omega⟩) hw hA (fun S1 H locs hR1 hm1 hw => ?_)
  refine lv_icmp_eq hx hb dL_law_316 (tgt := 913) (by decide) (fun _ => ?_) (fun h => absurd rfl h)
  exact kk S1 M' H locs ls _ _ (by omega) (by omega) ((hk S1 hR1 hm1).mono (by omega) hkc) hl hw

set_option maxHeartbeats 4000000 in
set_option maxRecDepth 100000 in
theorem lc_commit (hC : LC p l s m c b L xs) (hi : i + 6 ≤ L) (hX : s.heap.size ≤ X) (hLW : LW G X pn kl sz kc S M) (hl : lv_has ls 7 (LV b X pn kl i)) (hw : mw_W D vwCl (mw_tys G) mw_aos (LA s) s S H locs) (hc1 : cells + 1 ≤ 601024) (hs6 : slots + 6 ≤ 7293000) (hkc : kc + 1 < 100000) (kk : LK p l e s m below meth c Q b D G X pn kl sz (kc + 1) i cells slots) : W p l e room_1 s m #[Value.ref b] below meth c H locs cells slots Q (F0 m 321 ls []) := by
  obtain ⟨hx, hb, hml, hown, hts, hXs, hbl, hTT, hXX, htr, hL⟩ := hC
  have hbA : ¬ LA s b := Nat.not_le.mpr hbl
  have hA : ∀ q, X + 36 + 2 * pn + 4 * kl + 10 ≤ q → q ≤ X + 36 + 2 * pn + 4 * kl + 10 + 25 → LA s q := fun q h1 _ => by show s.heap.size ≤ q; omega
  obtain ⟨r, S', M', e1, e2, hR, hk⟩ := hLW.opi (op_commit (N := 10000) hLW.1 (xs (nI i + 1).toNatClampNeg) (xs (nI i + 2).toNatClampNeg) (xs (nI i + 3).toNatClampNeg) (xs (nI i + 4).toNatClampNeg) (xs (nI i + 5).toNatClampNeg) hkc (by decide))
  refine lv_aload_n hx hb dL_law_321 rfl (lv_at hl 1 rfl) ?_
  refine lv_aload_n hx hb dL_law_322 rfl (lv_at hl 0 rfl) ?_
  refine lv_iload hx hb dL_law_323 (lv_at hl 4 rfl) ?_
  refine lv_iconst (v := 1) hx hb dL_law_325 (by decide) ?_
  refine lv_iadd hx hb dL_law_326 ?_
  refine va_sld hx hb hXs hbl hbA hw.2.2.1 (sx (j := 1) hi hL (by decide)) dL_law_327 ?_
  refine lv_aload_n hx hb dL_law_328 rfl (lv_at hl 0 rfl) ?_
  refine lv_iload hx hb dL_law_329 (lv_at hl 4 rfl) ?_
  refine lv_iconst (v := 2) hx hb dL_law_331 (by decide) ?_
  refine lv_iadd hx hb dL_law_332 ?_
  refine va_sld hx hb hXs hbl hbA hw.2.2.1 (sx (j := 2) hi hL (by decide)) dL_law_333 ?_
  refine lv_aload_n hx hb dL_law_334 rfl (lv_at hl 0 rfl) ?_
  refine lv_iload hx hb dL_law_335 (lv_at hl 4 rfl) ?_
  refine lv_iconst (v := 3) hx hb dL_law_337 (by decide) ?_
  refine lv_iadd hx hb dL_law_338 ?_
  refine va_sld hx hb hXs hbl hbA hw.2.2.1 (sx (j := 3) hi hL (by decide)) dL_law_339 ?_
  refine lv_aload_n hx hb dL_law_340 rfl (lv_at hl 0 rfl) ?_
  refine lv_iload hx hb dL_law_341 (lv_at hl 4 rfl) ?_
  refine lv_iconst (v := 4) hx hb dL_law_343 (by decide) ?_
  refine lv_iadd hx hb dL_law_344 ?_
  refine va_sld hx hb hXs hbl hbA hw.2.2.1 (sx (j := 4) hi hL (by decide)) dL_law_345 ?_
  refine lv_aload_n hx hb dL_law_346 rfl (lv_at hl 0 rfl) ?_
  refine lv_iload hx hb dL_law_347 (lv_at hl 4 rfl) ?_
  refine lv_iconst (v := 5) hx hb dL_law_349 (by decide) ?_
  refine lv_iadd hx hb dL_law_350 ?_
  refine va_sld hx hb hXs hbl hbA hw.2.2.1 (sx (j := 5) hi hL (by decide)) dL_law_351 ?_
  refine mw_calli (va_runV (As := [.int (xs (nI i + 1).toNatClampNeg), .int (xs (nI i + 2).toNatClampNeg), .int (xs (nI i + 3).toNatClampNeg), .int (xs (nI i + 4).toNatClampNeg), .int (xs (nI i + 5).toNatClampNeg)]) (rest := []) ⟨hx, hb, hml, hown, hts⟩ (cm_X8_commit l D G 10000 S X (xs (nI i + 1).toNatClampNeg) (xs (nI i + 2).toNatClampNeg) (xs (nI i + 3).toNatClampNeg) (xs (nI i + 4).toNatClampNeg) (xs (nI i + 5).toNatClampNeg) (r, S') e1) (cwV 5 hts (mw_gV tw_260 tw_261 tw_262 tw_1 tw_263) rfl rfl rfl (by decide +kernel) ⟨Nat.le_of_ble_eq_true rfl, Nat.le_of_ble_eq_true rfl⟩) (mw_preV hw (ci := 8) rfl hLW.oX) rfl rfl hl.1 rfl (lv_room (Nat.le_of_ble_eq_true rfl)) dL_law_352 ⟨by show _ ≤ (601024 : Nat); omega, by show _ ≤ (7293000 : Nat); omega⟩) hw (fun H locs hw => ?_)
  refine lv_aload_n hx hb dL_law_355 rfl (lv_at hl 2 rfl) ?_
  refine lv_aload_n hx hb dL_law_356 rfl (lv_at hl 0 rfl) ?_
  refine lv_iload hx hb dL_law_357 (lv_at hl 4 rfl) ?_
  refine lv_iconst (v := 1) hx hb dL_law_359 (by decide) ?_
  refine lv_iadd hx hb dL_law_360 ?_
  refine va_sld hx hb hXs hbl hbA hw.2.2.1 (sx (j := 1) hi hL (by decide)) dL_law_361 ?_
  refine lv_aload_n hx hb dL_law_362 rfl (lv_at hl 0 rfl) ?_
  refine lv_iload hx hb dL_law_363 (lv_at hl 4 rfl) ?_
  refine lv_iconst (v := 2) hx hb dL_law_365 (by decide) ?_
  refine lv_iadd hx hb dL_law_366 ?_
  refine va_sld hx hb hXs hbl hbA hw.2.2.1 (sx (j := 2) hi hL (by decide)) dL_law_367 ?_
  refine lv_aload_n hx hb dL_law_368 rfl (lv_at hl 0 rfl) ?_
  refine lv_iload hx hb dL_law_369 (lv_at hl 4 rfl) ?_
  refine lv_iconst (v := 3) hx hb dL_law_371 (by decide) ?_
  refine lv_iadd hx hb dL_law_372 ?_
  refine va_sld hx hb hXs hbl hbA hw.2.2.1 (sx (j := 3) hi hL (by decide)) dL_law_373 ?_
  refine lv_aload_n hx hb dL_law_374 rfl (lv_at hl 0 rfl) ?_
  refine lv_iload hx hb dL_law_375 (lv_at hl 4 rfl) ?_
  refine lv_iconst (v := 4) hx hb dL_law_377 (by decide) ?_
  refine lv_iadd hx hb dL_law_378 ?_
  refine va_sld hx hb hXs hbl hbA hw.2.2.1 (sx (j := 4) hi hL (by decide)) dL_law_379 ?_
  refine lv_aload_n hx hb dL_law_380 rfl (lv_at hl 0 rfl) ?_
  refine lv_iload hx hb dL_law_381 (lv_at hl 4 rfl) ?_
  refine lv_iconst (v := 5) hx hb dL_law_383 (by decide) ?_
  refine lv_iadd hx hb dL_law_384 ?_
  refine va_sld hx hb hXs hbl hbA hw.2.2.1 (sx (j := 5) hi hL (by decide)) dL_law_385 ?_
  refine mx_calli (va_runV (As := [.int (xs (nI i + 1).toNatClampNeg), .int (xs (nI i + 2).toNatClampNeg), .int (xs (nI i + 3).toNatClampNeg), .int (xs (nI i + 4).toNatClampNeg), .int (xs (nI i + 5).toNatClampNeg)]) (rest := [.int r]) ⟨hx, hb, hml, hown, hts⟩ (cm_X9_commit l D G 10000 (X + 36 + 2 * pn + 4 * kl + 10) S' M (xs (nI i + 1).toNatClampNeg) (xs (nI i + 2).toNatClampNeg) (xs (nI i + 3).toNatClampNeg) (xs (nI i + 4).toNatClampNeg) (xs (nI i + 5).toNatClampNeg) (r, M') e2) (cwV 5 hts (mw_gV tw_864 tw_865 tw_866 tw_11 tw_867) rfl rfl rfl (by decide +kernel) ⟨Nat.le_of_ble_eq_true rfl, Nat.le_of_ble_eq_true rfl⟩) (mx_preV hw rfl hR) rfl rfl hl.1 rfl (lv_room (Nat.le_of_ble_eq_true rfl)) dL_law_386 ⟨by show _ ≤ (601024 : Nat); omega, by show _ ≤ (7293000 : Nat); omega⟩) hw hA (fun S1 H locs hR1 hm1 hw => ?_)
  refine lv_icmp_eq hx hb dL_law_389 (tgt := 913) (by decide) (fun _ => ?_) (fun h => absurd rfl h)
  exact kk S1 M' H locs ls _ _ (by omega) (by omega) (hk S1 hR1 hm1) hl hw

set_option maxHeartbeats 4000000 in
set_option maxRecDepth 100000 in
theorem lc_flush (hC : LC p l s m c b L xs) (hi : i + 6 ≤ L) (hX : s.heap.size ≤ X) (hLW : LW G X pn kl sz kc S M) (hl : lv_has ls 7 (LV b X pn kl i)) (hw : mw_W D vwCl (mw_tys G) mw_aos (LA s) s S H locs) (hc1 : cells + 1 ≤ 601024) (hs6 : slots + 6 ≤ 7293000) (hkc : kc + 1 < 100000) (kk : LK p l e s m below meth c Q b D G X pn kl sz (kc + 1) i cells slots) : W p l e room_1 s m #[Value.ref b] below meth c H locs cells slots Q (F0 m 394 ls []) := by
  obtain ⟨hx, hb, hml, hown, hts, hXs, hbl, hTT, hXX, htr, hL⟩ := hC
  have hbA : ¬ LA s b := Nat.not_le.mpr hbl
  have hA : ∀ q, X + 36 + 2 * pn + 4 * kl + 10 ≤ q → q ≤ X + 36 + 2 * pn + 4 * kl + 10 + 25 → LA s q := fun q h1 _ => by show s.heap.size ≤ q; omega
  obtain ⟨r, S', M', e1, e2, hR, hk⟩ := hLW.opi (op_flush (N := 10000) hLW.1 (by decide))
  refine lv_aload_n hx hb dL_law_394 rfl (lv_at hl 1 rfl) ?_
  refine mw_calli (va_runV (As := []) (rest := []) ⟨hx, hb, hml, hown, hts⟩ (cm_X8_flush l D G 10000 S X (r, S') e1) (cwV 0 hts (mw_gV tw_390 tw_391 tw_392 tw_1 tw_393) rfl rfl rfl (by decide +kernel) ⟨Nat.le_of_ble_eq_true rfl, Nat.le_of_ble_eq_true rfl⟩) (mw_preV hw (ci := 8) rfl hLW.oX) rfl rfl hl.1 rfl (lv_room (Nat.le_of_ble_eq_true rfl)) dL_law_395 ⟨by show _ ≤ (601024 : Nat); omega, by show _ ≤ (7293000 : Nat); omega⟩) hw (fun H locs hw => ?_)
  refine lv_aload_n hx hb dL_law_398 rfl (lv_at hl 2 rfl) ?_
  refine mx_calli (va_runV (As := []) (rest := [.int r]) ⟨hx, hb, hml, hown, hts⟩ (cm_X9_flush l D G 10000 (X + 36 + 2 * pn + 4 * kl + 10) S' M (r, M') e2) (cwV 0 hts (mw_gV tw_894 tw_895 tw_896 tw_11 tw_897) rfl rfl rfl (by decide +kernel) ⟨Nat.le_of_ble_eq_true rfl, Nat.le_of_ble_eq_true rfl⟩) (mx_preV hw rfl hR) rfl rfl hl.1 rfl (lv_room (Nat.le_of_ble_eq_true rfl)) dL_law_399 ⟨by show _ ≤ (601024 : Nat); omega, by show _ ≤ (7293000 : Nat); omega⟩) hw hA (fun S1 H locs hR1 hm1 hw => ?_)
  refine lv_icmp_eq hx hb dL_law_402 (tgt := 913) (by decide) (fun _ => ?_) (fun h => absurd rfl h)
  exact kk S1 M' H locs ls _ _ (by omega) (by omega) ((hk S1 hR1 hm1).mono (by omega) hkc) hl hw

set_option maxHeartbeats 4000000 in
set_option maxRecDepth 100000 in
theorem lc_profile (hC : LC p l s m c b L xs) (hi : i + 6 ≤ L) (hX : s.heap.size ≤ X) (hLW : LW G X pn kl sz kc S M) (hl : lv_has ls 7 (LV b X pn kl i)) (hw : mw_W D vwCl (mw_tys G) mw_aos (LA s) s S H locs) (hc1 : cells + 1 ≤ 601024) (hs6 : slots + 6 ≤ 7293000) (hkc : kc + 1 < 100000) (kk : LK p l e s m below meth c Q b D G X pn kl sz (kc + 1) i cells slots) : W p l e room_1 s m #[Value.ref b] below meth c H locs cells slots Q (F0 m 507 ls []) := by
  obtain ⟨hx, hb, hml, hown, hts, hXs, hbl, hTT, hXX, htr, hL⟩ := hC
  have hbA : ¬ LA s b := Nat.not_le.mpr hbl
  have hA : ∀ q, X + 36 + 2 * pn + 4 * kl + 10 ≤ q → q ≤ X + 36 + 2 * pn + 4 * kl + 10 + 25 → LA s q := fun q h1 _ => by show s.heap.size ≤ q; omega
  obtain ⟨r, S', M', e1, e2, hR, hk⟩ := hLW.opi (op_profile (N := 10000) hLW.1 (by decide))
  refine lv_aload_n hx hb dL_law_507 rfl (lv_at hl 1 rfl) ?_
  refine mw_calli (va_runV (As := []) (rest := []) ⟨hx, hb, hml, hown, hts⟩ (cm_X8_profile l D G 10000 S X (r, S') e1) (cwV 0 hts (mw_gV tw_434 tw_435 tw_436 tw_1 tw_437) rfl rfl rfl (by decide +kernel) ⟨Nat.le_of_ble_eq_true rfl, Nat.le_of_ble_eq_true rfl⟩) (mw_preV hw (ci := 8) rfl hLW.oX) rfl rfl hl.1 rfl (lv_room (Nat.le_of_ble_eq_true rfl)) dL_law_508 ⟨by show _ ≤ (601024 : Nat); omega, by show _ ≤ (7293000 : Nat); omega⟩) hw (fun H locs hw => ?_)
  refine lv_aload_n hx hb dL_law_511 rfl (lv_at hl 2 rfl) ?_
  refine mx_calli (va_runV (As := []) (rest := [.int r]) ⟨hx, hb, hml, hown, hts⟩ (cm_X9_profile l D G 10000 (X + 36 + 2 * pn + 4 * kl + 10) S' M (r, M') e2) (cwV 0 hts (mw_gV tw_946 tw_947 tw_948 tw_11 tw_949) rfl rfl rfl (by decide +kernel) ⟨Nat.le_of_ble_eq_true rfl, Nat.le_of_ble_eq_true rfl⟩) (mx_preV hw rfl hR) rfl rfl hl.1 rfl (lv_room (Nat.le_of_ble_eq_true rfl)) dL_law_512 ⟨by show _ ≤ (601024 : Nat); omega, by show _ ≤ (7293000 : Nat); omega⟩) hw hA (fun S1 H locs hR1 hm1 hw => ?_)
  refine lv_icmp_eq hx hb dL_law_515 (tgt := 913) (by decide) (fun _ => ?_) (fun h => absurd rfl h)
  exact kk S1 M' H locs ls _ _ (by omega) (by omega) ((hk S1 hR1 hm1).mono (by omega) hkc) hl hw

set_option maxHeartbeats 4000000 in
set_option maxRecDepth 100000 in
theorem lc_output (hC : LC p l s m c b L xs) (hi : i + 6 ≤ L) (hX : s.heap.size ≤ X) (hLW : LW G X pn kl sz kc S M) (hl : lv_has ls 7 (LV b X pn kl i)) (hw : mw_W D vwCl (mw_tys G) mw_aos (LA s) s S H locs) (hc1 : cells + 1 ≤ 601024) (hs6 : slots + 6 ≤ 7293000) (hkc : kc + 1 < 100000) (kk : LK p l e s m below meth c Q b D G X pn kl sz (kc + 1) i cells slots) : W p l e room_1 s m #[Value.ref b] below meth c H locs cells slots Q (F0 m 751 ls []) := by
  obtain ⟨hx, hb, hml, hown, hts, hXs, hbl, hTT, hXX, htr, hL⟩ := hC
  have hbA : ¬ LA s b := Nat.not_le.mpr hbl
  have hA : ∀ q, X + 36 + 2 * pn + 4 * kl + 10 ≤ q → q ≤ X + 36 + 2 * pn + 4 * kl + 10 + 25 → LA s q := fun q h1 _ => by show s.heap.size ≤ q; omega
  obtain ⟨r, S', M', e1, e2, hR, hk⟩ := hLW.opi (op_output (N := 10000) hLW.1 (xs (nI i + 1).toNatClampNeg))
  refine lv_aload_n hx hb dL_law_751 rfl (lv_at hl 1 rfl) ?_
  refine lv_aload_n hx hb dL_law_752 rfl (lv_at hl 0 rfl) ?_
  refine lv_iload hx hb dL_law_753 (lv_at hl 4 rfl) ?_
  refine lv_iconst (v := 1) hx hb dL_law_755 (by decide) ?_
  refine lv_iadd hx hb dL_law_756 ?_
  refine va_sld hx hb hXs hbl hbA hw.2.2.1 (sx (j := 1) hi hL (by decide)) dL_law_757 ?_
  refine mw_calli (va_runV (As := [.int (xs (nI i + 1).toNatClampNeg)]) (rest := []) ⟨hx, hb, hml, hown, hts⟩ (cm_X8_output l D G 10000 S X (xs (nI i + 1).toNatClampNeg) (r, S') e1) (cwV 1 hts (mw_gV tw_477 tw_478 tw_479 tw_1 tw_480) rfl rfl rfl (by decide +kernel) ⟨Nat.le_of_ble_eq_true rfl, Nat.le_of_ble_eq_true rfl⟩) (mw_preV hw (ci := 8) rfl hLW.oX) rfl rfl hl.1 rfl (lv_room (Nat.le_of_ble_eq_true rfl)) dL_law_758 ⟨by show _ ≤ (601024 : Nat); omega, by show _ ≤ (7293000 : Nat); omega⟩) hw (fun H locs hw => ?_)
  refine lv_aload_n hx hb dL_law_761 rfl (lv_at hl 2 rfl) ?_
  refine lv_aload_n hx hb dL_law_762 rfl (lv_at hl 0 rfl) ?_
  refine lv_iload hx hb dL_law_763 (lv_at hl 4 rfl) ?_
  refine lv_iconst (v := 1) hx hb dL_law_765 (by decide) ?_
  refine lv_iadd hx hb dL_law_766 ?_
  refine va_sld hx hb hXs hbl hbA hw.2.2.1 (sx (j := 1) hi hL (by decide)) dL_law_767 ?_
  refine mx_calli (va_runV (As := [.int (xs (nI i + 1).toNatClampNeg)]) (rest := [.int r]) ⟨hx, hb, hml, hown, hts⟩ (cm_X9_output l D G 10000 (X + 36 + 2 * pn + 4 * kl + 10) S' M (xs (nI i + 1).toNatClampNeg) (r, M') e2) (cwV 1 hts (mw_gV tw_982 tw_983 tw_984 tw_11 tw_985) rfl rfl rfl (by decide +kernel) ⟨Nat.le_of_ble_eq_true rfl, Nat.le_of_ble_eq_true rfl⟩) (mx_preV hw rfl hR) rfl rfl hl.1 rfl (lv_room (Nat.le_of_ble_eq_true rfl)) dL_law_768 ⟨by show _ ≤ (601024 : Nat); omega, by show _ ≤ (7293000 : Nat); omega⟩) hw hA (fun S1 H locs hR1 hm1 hw => ?_)
  refine lv_icmp_eq hx hb dL_law_771 (tgt := 913) (by decide) (fun _ => ?_) (fun h => absurd rfl h)
  exact kk S1 M' H locs ls _ _ (by omega) (by omega) ((hk S1 hR1 hm1).mono (by omega) hkc) hl hw

set_option maxHeartbeats 4000000 in
set_option maxRecDepth 100000 in
theorem lc_state (hC : LC p l s m c b L xs) (hi : i + 6 ≤ L) (hX : s.heap.size ≤ X) (hLW : LW G X pn kl sz kc S M) (hl : lv_has ls 7 (LV b X pn kl i)) (hw : mw_W D vwCl (mw_tys G) mw_aos (LA s) s S H locs) (hc1 : cells + 1 ≤ 601024) (hs6 : slots + 6 ≤ 7293000) (hkc : kc + 1 < 100000) (kk : LK p l e s m below meth c Q b D G X pn kl sz (kc + 1) i cells slots) : W p l e room_1 s m #[Value.ref b] below meth c H locs cells slots Q (F0 m 776 ls []) := by
  obtain ⟨hx, hb, hml, hown, hts, hXs, hbl, hTT, hXX, htr, hL⟩ := hC
  have hbA : ¬ LA s b := Nat.not_le.mpr hbl
  have hA : ∀ q, X + 36 + 2 * pn + 4 * kl + 10 ≤ q → q ≤ X + 36 + 2 * pn + 4 * kl + 10 + 25 → LA s q := fun q h1 _ => by show s.heap.size ≤ q; omega
  obtain ⟨r, S', M', e1, e2, hR, hk⟩ := hLW.opi (op_state (N := 10000) hLW.1 (xs (nI i + 1).toNatClampNeg))
  refine lv_aload_n hx hb dL_law_776 rfl (lv_at hl 1 rfl) ?_
  refine lv_aload_n hx hb dL_law_777 rfl (lv_at hl 0 rfl) ?_
  refine lv_iload hx hb dL_law_778 (lv_at hl 4 rfl) ?_
  refine lv_iconst (v := 1) hx hb dL_law_780 (by decide) ?_
  refine lv_iadd hx hb dL_law_781 ?_
  refine va_sld hx hb hXs hbl hbA hw.2.2.1 (sx (j := 1) hi hL (by decide)) dL_law_782 ?_
  refine mw_calli (va_runV (As := [.int (xs (nI i + 1).toNatClampNeg)]) (rest := []) ⟨hx, hb, hml, hown, hts⟩ (cm_X8_state l D G 10000 S X (xs (nI i + 1).toNatClampNeg) (r, S') e1) (cwV 1 hts (mw_gV tw_485 tw_486 tw_487 tw_1 tw_488) rfl rfl rfl (by decide +kernel) ⟨Nat.le_of_ble_eq_true rfl, Nat.le_of_ble_eq_true rfl⟩) (mw_preV hw (ci := 8) rfl hLW.oX) rfl rfl hl.1 rfl (lv_room (Nat.le_of_ble_eq_true rfl)) dL_law_783 ⟨by show _ ≤ (601024 : Nat); omega, by show _ ≤ (7293000 : Nat); omega⟩) hw (fun H locs hw => ?_)
  refine lv_aload_n hx hb dL_law_786 rfl (lv_at hl 2 rfl) ?_
  refine lv_aload_n hx hb dL_law_787 rfl (lv_at hl 0 rfl) ?_
  refine lv_iload hx hb dL_law_788 (lv_at hl 4 rfl) ?_
  refine lv_iconst (v := 1) hx hb dL_law_790 (by decide) ?_
  refine lv_iadd hx hb dL_law_791 ?_
  refine va_sld hx hb hXs hbl hbA hw.2.2.1 (sx (j := 1) hi hL (by decide)) dL_law_792 ?_
  refine mx_calli (va_runV (As := [.int (xs (nI i + 1).toNatClampNeg)]) (rest := [.int r]) ⟨hx, hb, hml, hown, hts⟩ (cm_X9_state l D G 10000 (X + 36 + 2 * pn + 4 * kl + 10) S' M (xs (nI i + 1).toNatClampNeg) (r, M') e2) (cwV 1 hts (mw_gV tw_986 tw_987 tw_988 tw_11 tw_989) rfl rfl rfl (by decide +kernel) ⟨Nat.le_of_ble_eq_true rfl, Nat.le_of_ble_eq_true rfl⟩) (mx_preV hw rfl hR) rfl rfl hl.1 rfl (lv_room (Nat.le_of_ble_eq_true rfl)) dL_law_793 ⟨by show _ ≤ (601024 : Nat); omega, by show _ ≤ (7293000 : Nat); omega⟩) hw hA (fun S1 H locs hR1 hm1 hw => ?_)
  refine lv_icmp_eq hx hb dL_law_796 (tgt := 913) (by decide) (fun _ => ?_) (fun h => absurd rfl h)
  exact kk S1 M' H locs ls _ _ (by omega) (by omega) ((hk S1 hR1 hm1).mono (by omega) hkc) hl hw

set_option maxHeartbeats 4000000 in
set_option maxRecDepth 100000 in
theorem lc_threshold (hC : LC p l s m c b L xs) (hi : i + 6 ≤ L) (hX : s.heap.size ≤ X) (hLW : LW G X pn kl sz kc S M) (hl : lv_has ls 7 (LV b X pn kl i)) (hw : mw_W D vwCl (mw_tys G) mw_aos (LA s) s S H locs) (hc1 : cells + 1 ≤ 601024) (hs6 : slots + 6 ≤ 7293000) (hkc : kc + 1 < 100000) (kk : LK p l e s m below meth c Q b D G X pn kl sz (kc + 1) i cells slots) : W p l e room_1 s m #[Value.ref b] below meth c H locs cells slots Q (F0 m 801 ls []) := by
  obtain ⟨hx, hb, hml, hown, hts, hXs, hbl, hTT, hXX, htr, hL⟩ := hC
  have hbA : ¬ LA s b := Nat.not_le.mpr hbl
  have hA : ∀ q, X + 36 + 2 * pn + 4 * kl + 10 ≤ q → q ≤ X + 36 + 2 * pn + 4 * kl + 10 + 25 → LA s q := fun q h1 _ => by show s.heap.size ≤ q; omega
  obtain ⟨r, S', M', e1, e2, hR, hk⟩ := hLW.opi (op_threshold (N := 10000) hLW.1 (xs (nI i + 1).toNatClampNeg) (xs (nI i + 2).toNatClampNeg))
  refine lv_aload_n hx hb dL_law_801 rfl (lv_at hl 1 rfl) ?_
  refine lv_aload_n hx hb dL_law_802 rfl (lv_at hl 0 rfl) ?_
  refine lv_iload hx hb dL_law_803 (lv_at hl 4 rfl) ?_
  refine lv_iconst (v := 1) hx hb dL_law_805 (by decide) ?_
  refine lv_iadd hx hb dL_law_806 ?_
  refine va_sld hx hb hXs hbl hbA hw.2.2.1 (sx (j := 1) hi hL (by decide)) dL_law_807 ?_
  refine lv_aload_n hx hb dL_law_808 rfl (lv_at hl 0 rfl) ?_
  refine lv_iload hx hb dL_law_809 (lv_at hl 4 rfl) ?_
  refine lv_iconst (v := 2) hx hb dL_law_811 (by decide) ?_
  refine lv_iadd hx hb dL_law_812 ?_
  refine va_sld hx hb hXs hbl hbA hw.2.2.1 (sx (j := 2) hi hL (by decide)) dL_law_813 ?_
  refine mw_calli (va_runV (As := [.int (xs (nI i + 1).toNatClampNeg), .int (xs (nI i + 2).toNatClampNeg)]) (rest := []) ⟨hx, hb, hml, hown, hts⟩ (cm_X8_threshold l D G 10000 S X (xs (nI i + 1).toNatClampNeg) (xs (nI i + 2).toNatClampNeg) (r, S') e1) (cwV 2 hts (mw_gV tw_493 tw_494 tw_495 tw_1 tw_496) rfl rfl rfl (by decide +kernel) ⟨Nat.le_of_ble_eq_true rfl, Nat.le_of_ble_eq_true rfl⟩) (mw_preV hw (ci := 8) rfl hLW.oX) rfl rfl hl.1 rfl (lv_room (Nat.le_of_ble_eq_true rfl)) dL_law_814 ⟨by show _ ≤ (601024 : Nat); omega, by show _ ≤ (7293000 : Nat); omega⟩) hw (fun H locs hw => ?_)
  refine lv_aload_n hx hb dL_law_817 rfl (lv_at hl 2 rfl) ?_
  refine lv_aload_n hx hb dL_law_818 rfl (lv_at hl 0 rfl) ?_
  refine lv_iload hx hb dL_law_819 (lv_at hl 4 rfl) ?_
  refine lv_iconst (v := 1) hx hb dL_law_821 (by decide) ?_
  refine lv_iadd hx hb dL_law_822 ?_
  refine va_sld hx hb hXs hbl hbA hw.2.2.1 (sx (j := 1) hi hL (by decide)) dL_law_823 ?_
  refine lv_aload_n hx hb dL_law_824 rfl (lv_at hl 0 rfl) ?_
  refine lv_iload hx hb dL_law_825 (lv_at hl 4 rfl) ?_
  refine lv_iconst (v := 2) hx hb dL_law_827 (by decide) ?_
  refine lv_iadd hx hb dL_law_828 ?_
  refine va_sld hx hb hXs hbl hbA hw.2.2.1 (sx (j := 2) hi hL (by decide)) dL_law_829 ?_
  refine mx_calli (va_runV (As := [.int (xs (nI i + 1).toNatClampNeg), .int (xs (nI i + 2).toNatClampNeg)]) (rest := [.int r]) ⟨hx, hb, hml, hown, hts⟩ (cm_X9_threshold l D G 10000 (X + 36 + 2 * pn + 4 * kl + 10) S' M (xs (nI i + 1).toNatClampNeg) (xs (nI i + 2).toNatClampNeg) (r, M') e2) (cwV 2 hts (mw_gV tw_990 tw_991 tw_992 tw_11 tw_993) rfl rfl rfl (by decide +kernel) ⟨Nat.le_of_ble_eq_true rfl, Nat.le_of_ble_eq_true rfl⟩) (mx_preV hw rfl hR) rfl rfl hl.1 rfl (lv_room (Nat.le_of_ble_eq_true rfl)) dL_law_830 ⟨by show _ ≤ (601024 : Nat); omega, by show _ ≤ (7293000 : Nat); omega⟩) hw hA (fun S1 H locs hR1 hm1 hw => ?_)
  refine lv_icmp_eq hx hb dL_law_833 (tgt := 913) (by decide) (fun _ => ?_) (fun h => absurd rfl h)
  exact kk S1 M' H locs ls _ _ (by omega) (by omega) ((hk S1 hR1 hm1).mono (by omega) hkc) hl hw

set_option maxHeartbeats 4000000 in
set_option maxRecDepth 100000 in
theorem lc_buffered (hC : LC p l s m c b L xs) (hi : i + 6 ≤ L) (hX : s.heap.size ≤ X) (hLW : LW G X pn kl sz kc S M) (hl : lv_has ls 7 (LV b X pn kl i)) (hw : mw_W D vwCl (mw_tys G) mw_aos (LA s) s S H locs) (hc1 : cells + 1 ≤ 601024) (hs6 : slots + 6 ≤ 7293000) (hkc : kc + 1 < 100000) (kk : LK p l e s m below meth c Q b D G X pn kl sz (kc + 1) i cells slots) : W p l e room_1 s m #[Value.ref b] below meth c H locs cells slots Q (F0 m 838 ls []) := by
  obtain ⟨hx, hb, hml, hown, hts, hXs, hbl, hTT, hXX, htr, hL⟩ := hC
  have hbA : ¬ LA s b := Nat.not_le.mpr hbl
  have hA : ∀ q, X + 36 + 2 * pn + 4 * kl + 10 ≤ q → q ≤ X + 36 + 2 * pn + 4 * kl + 10 + 25 → LA s q := fun q h1 _ => by show s.heap.size ≤ q; omega
  obtain ⟨r, S', M', e1, e2, hR, hk⟩ := hLW.opi (op_buffered (N := 10000) hLW.1 (xs (nI i + 1).toNatClampNeg))
  refine lv_aload_n hx hb dL_law_838 rfl (lv_at hl 1 rfl) ?_
  refine lv_aload_n hx hb dL_law_839 rfl (lv_at hl 0 rfl) ?_
  refine lv_iload hx hb dL_law_840 (lv_at hl 4 rfl) ?_
  refine lv_iconst (v := 1) hx hb dL_law_842 (by decide) ?_
  refine lv_iadd hx hb dL_law_843 ?_
  refine va_sld hx hb hXs hbl hbA hw.2.2.1 (sx (j := 1) hi hL (by decide)) dL_law_844 ?_
  refine mw_calli (va_runV (As := [.int (xs (nI i + 1).toNatClampNeg)]) (rest := []) ⟨hx, hb, hml, hown, hts⟩ (cm_X8_buffered l D G 10000 S X (xs (nI i + 1).toNatClampNeg) (r, S') e1) (cwV 1 hts (mw_gV tw_497 tw_498 tw_499 tw_1 tw_500) rfl rfl rfl (by decide +kernel) ⟨Nat.le_of_ble_eq_true rfl, Nat.le_of_ble_eq_true rfl⟩) (mw_preV hw (ci := 8) rfl hLW.oX) rfl rfl hl.1 rfl (lv_room (Nat.le_of_ble_eq_true rfl)) dL_law_845 ⟨by show _ ≤ (601024 : Nat); omega, by show _ ≤ (7293000 : Nat); omega⟩) hw (fun H locs hw => ?_)
  refine lv_aload_n hx hb dL_law_848 rfl (lv_at hl 2 rfl) ?_
  refine lv_aload_n hx hb dL_law_849 rfl (lv_at hl 0 rfl) ?_
  refine lv_iload hx hb dL_law_850 (lv_at hl 4 rfl) ?_
  refine lv_iconst (v := 1) hx hb dL_law_852 (by decide) ?_
  refine lv_iadd hx hb dL_law_853 ?_
  refine va_sld hx hb hXs hbl hbA hw.2.2.1 (sx (j := 1) hi hL (by decide)) dL_law_854 ?_
  refine mx_calli (va_runV (As := [.int (xs (nI i + 1).toNatClampNeg)]) (rest := [.int r]) ⟨hx, hb, hml, hown, hts⟩ (cm_X9_buffered l D G 10000 (X + 36 + 2 * pn + 4 * kl + 10) S' M (xs (nI i + 1).toNatClampNeg) (r, M') e2) (cwV 1 hts (mw_gV tw_994 tw_995 tw_996 tw_11 tw_997) rfl rfl rfl (by decide +kernel) ⟨Nat.le_of_ble_eq_true rfl, Nat.le_of_ble_eq_true rfl⟩) (mx_preV hw rfl hR) rfl rfl hl.1 rfl (lv_room (Nat.le_of_ble_eq_true rfl)) dL_law_855 ⟨by show _ ≤ (601024 : Nat); omega, by show _ ≤ (7293000 : Nat); omega⟩) hw hA (fun S1 H locs hR1 hm1 hw => ?_)
  refine lv_icmp_eq hx hb dL_law_858 (tgt := 913) (by decide) (fun _ => ?_) (fun h => absurd rfl h)
  exact kk S1 M' H locs ls _ _ (by omega) (by omega) ((hk S1 hR1 hm1).mono (by omega) hkc) hl hw

set_option maxHeartbeats 4000000 in
set_option maxRecDepth 100000 in
theorem lc_count (hC : LC p l s m c b L xs) (hi : i + 6 ≤ L) (hX : s.heap.size ≤ X) (hLW : LW G X pn kl sz kc S M) (hl : lv_has ls 7 (LV b X pn kl i)) (hw : mw_W D vwCl (mw_tys G) mw_aos (LA s) s S H locs) (hc1 : cells + 1 ≤ 601024) (hs6 : slots + 6 ≤ 7293000) (hkc : kc + 1 < 100000) (kk : LK p l e s m below meth c Q b D G X pn kl sz (kc + 1) i cells slots) : W p l e room_1 s m #[Value.ref b] below meth c H locs cells slots Q (F0 m 863 ls []) := by
  obtain ⟨hx, hb, hml, hown, hts, hXs, hbl, hTT, hXX, htr, hL⟩ := hC
  have hbA : ¬ LA s b := Nat.not_le.mpr hbl
  have hA : ∀ q, X + 36 + 2 * pn + 4 * kl + 10 ≤ q → q ≤ X + 36 + 2 * pn + 4 * kl + 10 + 25 → LA s q := fun q h1 _ => by show s.heap.size ≤ q; omega
  obtain ⟨r, S', M', e1, e2, hR, hk⟩ := hLW.opi (op_count (N := 10000) hLW.1 (xs (nI i + 1).toNatClampNeg))
  refine lv_aload_n hx hb dL_law_863 rfl (lv_at hl 1 rfl) ?_
  refine lv_aload_n hx hb dL_law_864 rfl (lv_at hl 0 rfl) ?_
  refine lv_iload hx hb dL_law_865 (lv_at hl 4 rfl) ?_
  refine lv_iconst (v := 1) hx hb dL_law_867 (by decide) ?_
  refine lv_iadd hx hb dL_law_868 ?_
  refine va_sld hx hb hXs hbl hbA hw.2.2.1 (sx (j := 1) hi hL (by decide)) dL_law_869 ?_
  refine mw_calli (va_runV (As := [.int (xs (nI i + 1).toNatClampNeg)]) (rest := []) ⟨hx, hb, hml, hown, hts⟩ (cm_X8_count l D G 10000 S X (xs (nI i + 1).toNatClampNeg) (r, S') e1) (cwV 1 hts (mw_gV tw_501 tw_502 tw_503 tw_1 tw_504) rfl rfl rfl (by decide +kernel) ⟨Nat.le_of_ble_eq_true rfl, Nat.le_of_ble_eq_true rfl⟩) (mw_preV hw (ci := 8) rfl hLW.oX) rfl rfl hl.1 rfl (lv_room (Nat.le_of_ble_eq_true rfl)) dL_law_870 ⟨by show _ ≤ (601024 : Nat); omega, by show _ ≤ (7293000 : Nat); omega⟩) hw (fun H locs hw => ?_)
  refine lv_aload_n hx hb dL_law_873 rfl (lv_at hl 2 rfl) ?_
  refine lv_aload_n hx hb dL_law_874 rfl (lv_at hl 0 rfl) ?_
  refine lv_iload hx hb dL_law_875 (lv_at hl 4 rfl) ?_
  refine lv_iconst (v := 1) hx hb dL_law_877 (by decide) ?_
  refine lv_iadd hx hb dL_law_878 ?_
  refine va_sld hx hb hXs hbl hbA hw.2.2.1 (sx (j := 1) hi hL (by decide)) dL_law_879 ?_
  refine mx_calli (va_runV (As := [.int (xs (nI i + 1).toNatClampNeg)]) (rest := [.int r]) ⟨hx, hb, hml, hown, hts⟩ (cm_X9_count l D G 10000 (X + 36 + 2 * pn + 4 * kl + 10) S' M (xs (nI i + 1).toNatClampNeg) (r, M') e2) (cwV 1 hts (mw_gV tw_998 tw_999 tw_1000 tw_11 tw_1001) rfl rfl rfl (by decide +kernel) ⟨Nat.le_of_ble_eq_true rfl, Nat.le_of_ble_eq_true rfl⟩) (mx_preV hw rfl hR) rfl rfl hl.1 rfl (lv_room (Nat.le_of_ble_eq_true rfl)) dL_law_880 ⟨by show _ ≤ (601024 : Nat); omega, by show _ ≤ (7293000 : Nat); omega⟩) hw hA (fun S1 H locs hR1 hm1 hw => ?_)
  refine lv_icmp_eq hx hb dL_law_883 (tgt := 913) (by decide) (fun _ => ?_) (fun h => absurd rfl h)
  exact kk S1 M' H locs ls _ _ (by omega) (by omega) ((hk S1 hR1 hm1).mono (by omega) hkc) hl hw

set_option maxHeartbeats 4000000 in
set_option maxRecDepth 100000 in
theorem lc_lost (hC : LC p l s m c b L xs) (hi : i + 6 ≤ L) (hX : s.heap.size ≤ X) (hLW : LW G X pn kl sz kc S M) (hl : lv_has ls 7 (LV b X pn kl i)) (hw : mw_W D vwCl (mw_tys G) mw_aos (LA s) s S H locs) (hc1 : cells + 1 ≤ 601024) (hs6 : slots + 6 ≤ 7293000) (hkc : kc + 1 < 100000) (kk : LK p l e s m below meth c Q b D G X pn kl sz (kc + 1) i cells slots) : W p l e room_1 s m #[Value.ref b] below meth c H locs cells slots Q (F0 m 888 ls []) := by
  obtain ⟨hx, hb, hml, hown, hts, hXs, hbl, hTT, hXX, htr, hL⟩ := hC
  have hbA : ¬ LA s b := Nat.not_le.mpr hbl
  have hA : ∀ q, X + 36 + 2 * pn + 4 * kl + 10 ≤ q → q ≤ X + 36 + 2 * pn + 4 * kl + 10 + 25 → LA s q := fun q h1 _ => by show s.heap.size ≤ q; omega
  obtain ⟨r, S', M', e1, e2, hR, hk⟩ := hLW.opi (op_lost (N := 10000) hLW.1 (xs (nI i + 1).toNatClampNeg))
  refine lv_aload_n hx hb dL_law_888 rfl (lv_at hl 1 rfl) ?_
  refine lv_aload_n hx hb dL_law_889 rfl (lv_at hl 0 rfl) ?_
  refine lv_iload hx hb dL_law_890 (lv_at hl 4 rfl) ?_
  refine lv_iconst (v := 1) hx hb dL_law_892 (by decide) ?_
  refine lv_iadd hx hb dL_law_893 ?_
  refine va_sld hx hb hXs hbl hbA hw.2.2.1 (sx (j := 1) hi hL (by decide)) dL_law_894 ?_
  refine mw_calli (va_runV (As := [.int (xs (nI i + 1).toNatClampNeg)]) (rest := []) ⟨hx, hb, hml, hown, hts⟩ (cm_X8_lost l D G 10000 S X (xs (nI i + 1).toNatClampNeg) (r, S') e1) (cwV 1 hts (mw_gV tw_522 tw_523 tw_524 tw_1 tw_525) rfl rfl rfl (by decide +kernel) ⟨Nat.le_of_ble_eq_true rfl, Nat.le_of_ble_eq_true rfl⟩) (mw_preV hw (ci := 8) rfl hLW.oX) rfl rfl hl.1 rfl (lv_room (Nat.le_of_ble_eq_true rfl)) dL_law_895 ⟨by show _ ≤ (601024 : Nat); omega, by show _ ≤ (7293000 : Nat); omega⟩) hw (fun H locs hw => ?_)
  refine lv_aload_n hx hb dL_law_898 rfl (lv_at hl 2 rfl) ?_
  refine lv_aload_n hx hb dL_law_899 rfl (lv_at hl 0 rfl) ?_
  refine lv_iload hx hb dL_law_900 (lv_at hl 4 rfl) ?_
  refine lv_iconst (v := 1) hx hb dL_law_902 (by decide) ?_
  refine lv_iadd hx hb dL_law_903 ?_
  refine va_sld hx hb hXs hbl hbA hw.2.2.1 (sx (j := 1) hi hL (by decide)) dL_law_904 ?_
  refine mx_calli (va_runV (As := [.int (xs (nI i + 1).toNatClampNeg)]) (rest := [.int r]) ⟨hx, hb, hml, hown, hts⟩ (cm_X9_lost l D G 10000 (X + 36 + 2 * pn + 4 * kl + 10) S' M (xs (nI i + 1).toNatClampNeg) (r, M') e2) (cwV 1 hts (mw_gV tw_1002 tw_1003 tw_1004 tw_11 tw_1005) rfl rfl rfl (by decide +kernel) ⟨Nat.le_of_ble_eq_true rfl, Nat.le_of_ble_eq_true rfl⟩) (mx_preV hw rfl hR) rfl rfl hl.1 rfl (lv_room (Nat.le_of_ble_eq_true rfl)) dL_law_905 ⟨by show _ ≤ (601024 : Nat); omega, by show _ ≤ (7293000 : Nat); omega⟩) hw hA (fun S1 H locs hR1 hm1 hw => ?_)
  refine lv_icmp_eq hx hb dL_law_908 (tgt := 913) (by decide) (fun _ => ?_) (fun h => absurd rfl h)
  exact kk S1 M' H locs ls _ _ (by omega) (by omega) ((hk S1 hR1 hm1).mono (by omega) hkc) hl hw
end LCS
