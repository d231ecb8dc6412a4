section LCS
variable {p : Program} {l : Launch} {e : Env} {s : State} {m : MethodId} {below : List Frame} {meth : Method} {c : Code} {Q : State → Prop} {b L : Nat} {xs : Nat → Int32} {D : va_G} {G : Nat → ClassId} {X pn kl sz kc i : Nat} {S : mw_M} {M : mm_M} {H : Heap} {locs : List Loc} {ls : Array Slot} {cells slots : Nat}
set_option maxHeartbeats 4000000 in
set_option maxRecDepth 100000 in
theorem lc_type_b {y : Int32} (hy : (xs (nI i + 2).toNatClampNeg) = 0 ∧ y = 0 ∨ ¬ (xs (nI i + 2).toNatClampNeg) = 0 ∧ y = 1) (hC : LC p l s m c b L xs) (hi : i + 6 ≤ L) (hX : s.heap.size ≤ X) (hLW : LW G X pn kl sz kc S M) (hl : lv_has ls 7 (LV b X pn kl i)) (hw : mw_W D vwCl (mw_tys G) mw_aos (LA s) s S H locs) (hc1 : cells + 1 ≤ 601024) (hs6 : slots + 6 ≤ 7293000) (hkc : kc + 1 < 100000) (kk : LK p l e s m below meth c Q b D G X pn kl sz (kc + 1) i cells slots) : W p l e room_1 s m #[Value.ref b] below meth c H locs cells slots Q (F0 m 233 ls [.int y, .int (xs (nI i + 1).toNatClampNeg), .ref X]) := by
  obtain ⟨hx, hb, hml, hown, hts, hXs, hbl, hTT, hXX, htr, hL⟩ := hC
  have hbA : ¬ LA s b := Nat.not_le.mpr hbl
  have hA : ∀ q, X + 36 + 2 * pn + 4 * kl + 10 ≤ q → q ≤ X + 36 + 2 * pn + 4 * kl + 10 + 25 → LA s q := fun q h1 _ => by show s.heap.size ≤ q; omega
  obtain ⟨c0, r, r', S', M', e1, e2, hc2, h4, hrr, hRR, hs⟩ := OPk.of (op_type (N := 10000) hLW.1 (xs (nI i + 1).toNatClampNeg) y)
  have hnA : ∀ (y : Addr) (cy : Cell), s.heap[y]? = some cy → cy.vm.isStatics = true → ¬ LA s y := fun y cy hy _ q => by
    have h1 := (Array.getElem?_eq_some_iff.mp hy).1
    have h2 : s.heap.size ≤ y := q
    omega
  refine lv_aload_n hx hb dL_law_233 rfl (lv_at hl 3 rfl) ?_
  refine va_calli (hl_runS (As := [.ref X, .int (xs (nI i + 1).toNatClampNeg), .int y, .ref (X + 36 + 2 * pn + 4 * kl + 36)]) (rest := []) hx hb hml hown (cm_L_type l D G 10000 S X (xs (nI i + 1).toNatClampNeg) y (X + 36 + 2 * pn + 4 * kl + 36) (c0, r, S') e1 hc2 htr hLW.oX (fun _ => hLW.ho hs _)) (hl_blind D vwCl (mw_tys G) mw_aos S _) (pay_in hts (mw_gI tw_535)) List.mem_cons_self (hts _ tw_535) (hts _ tw_533) (hts _ tw_534) (hts _ tw_0) (by decide +kernel) (show (parseMethodDescriptor yL_type.desc).map (fun d => d.parameters.length) = some 4 from by decide +kernel) rfl rfl ⟨Nat.le_of_ble_eq_true rfl, Nat.le_of_ble_eq_true rfl⟩ (fun U hU hW => ⟨rfl, (mw_pre hw [] U hU hW).2, mw_Tat hw hTT hnA U hU hW, mw_X.moved hW.alike hXX⟩) hl.1 (lv_room (Nat.le_of_ble_eq_true rfl)) dL_law_234 ⟨by show _ ≤ (601024 : Nat); omega, by show _ ≤ (7293000 : Nat); omega⟩) hw.2.2.1 (fun q _ h => mw_in hw q h) (mw_in hw) (fun rr u t H locs ht hvm hp hB hz0 hk0 hS => ?_)
  have hw := mw_back hw ht hvm hB hS
  obtain ⟨hRu, hku⟩ := hLW.u hs hRR hp
  have hp1 : rr = nI c0 := hp.1
  refine lv_istore hx hb dL_law_237 hl (by decide) rfl (fun ls hl => ?_)
  refine lv_aload_n hx hb dL_law_239 rfl (lv_at hl 3 rfl) ?_
  refine lv_aload_n hx hb dL_law_240 rfl (lv_at hl 1 rfl) ?_
  refine lv_iload hx hb dL_law_241 (lv_at hl 5 rfl) ?_
  refine lv_iconst (v := 1) hx hb dL_law_243 (by decide) ?_
  refine lv_iadd hx hb dL_law_244 ?_
  refine va_sld hx hb hXs hbl hbA hw.2.2.1 (sx (j := 1) hi hL (by decide)) dL_law_245 ?_
  refine lv_aload_n hx hb dL_law_246 rfl (lv_at hl 1 rfl) ?_
  refine lv_iload hx hb dL_law_247 (lv_at hl 5 rfl) ?_
  refine lv_iconst (v := 2) hx hb dL_law_249 (by decide) ?_
  refine lv_iadd hx hb dL_law_250 ?_
  refine va_sld hx hb hXs hbl hbA hw.2.2.1 (sx (j := 2) hi hL (by decide)) dL_law_251 ?_
  have key : W p l e room_1 s m #[Value.ref b] below meth c H locs (cells + 1) (slots + 6) Q (F0 m 260 ls [.int y, .int (xs (nI i + 1).toNatClampNeg), .ref (X + 36 + 2 * pn + 4 * kl + 10)]) := by
    refine mx_calli (va_runV (As := [.int (xs (nI i + 1).toNatClampNeg), .int y]) (rest := []) ⟨hx, hb, hml, hown, hts⟩ (cm_X9_type l D G 10000 (X + 36 + 2 * pn + 4 * kl + 10) u M (xs (nI i + 1).toNatClampNeg) y (r', M') e2) (cwV 2 hts (mw_gV tw_853 tw_854 tw_855 tw_11 tw_856) rfl rfl rfl (by decide +kernel) ⟨Nat.le_of_ble_eq_true rfl, Nat.le_of_ble_eq_true rfl⟩) (mx_preV hw rfl hRu) rfl rfl hl.1 rfl (lv_room (Nat.le_of_ble_eq_true rfl)) dL_law_260 ⟨by show _ ≤ (601024 : Nat); omega, by show _ ≤ (7293000 : Nat); omega⟩) hw hA (fun S1 H locs hR1 hm1 hw => ?_)
    refine lv_istore hx hb dL_law_263 hl (by decide) rfl (fun ls hl => ?_)
    refine lv_aload_n hx hb dL_law_265 rfl (lv_at hl 4 rfl) ?_
    refine mx_calli (va_runV (As := []) (rest := []) ⟨hx, hb, hml, hown, hts⟩ (cm_X9_thrown l D G 10000 (X + 36 + 2 * pn + 4 * kl + 10) S1 M' (M'.1 4, M') rfl) (cwV 0 hts (mw_gV tw_841 tw_842 tw_843 tw_11 tw_844) rfl rfl rfl (by decide +kernel) ⟨Nat.le_of_ble_eq_true rfl, Nat.le_of_ble_eq_true rfl⟩) (mx_preV hw rfl hR1) rfl rfl hl.1 rfl (lv_room (Nat.le_of_ble_eq_true rfl)) dL_law_266 ⟨by show _ ≤ (601024 : Nat); omega, by show _ ≤ (7293000 : Nat); omega⟩) hw hA (fun S2 H locs hR2 hm2 hw => ?_)
    obtain ⟨hLW2, hv⟩ := hku S1 S2 hR2 hm1 hm2
    refine lv_iload hx hb dL_law_269 (lv_at hl 1 rfl) ?_
    refine lv_icmp_eq hx hb dL_law_271 (tgt := 276) (by decide) (fun _ => ?_) (fun h => absurd (h4.trans hp1.symm) h)
    refine lv_iload hx hb dL_law_276 (lv_at hl 1 rfl) ?_
    have fin : W p l e room_1 s m #[Value.ref b] below meth c H locs (cells + 1 + 0 + 0) (slots + 6 + 0 + 0) Q (F0 m 293 ls []) := by
      refine lv_goto hx hb dL_law_293 (tgt := 913) (by decide) ?_
      exact kk S2 M' H locs ls _ _ (by omega) (by omega) (hLW2.mono (by omega) hkc) (lv_sub hl [2, 3, 4, 5, 6] rfl) hw
    refine lv_if_ne hx hb dL_law_278 (tgt := 293) (by decide) (fun _ => fin) (fun hz => ?_)
    have hc : c0 = 0 := k0_n hc2 (hp1.symm.trans hz)
    have hv := hv hc
    have hrr := hrr hc
    subst hrr
    refine lv_aload_n hx hb dL_law_281 rfl (lv_at hl 5 rfl) ?_
    refine lv_iconst (v := 0) hx hb dL_law_282 (by decide) ?_
    refine mw_lald hx hb hw 8 rfl hv dL_law_283 ?_
    refine lv_iload hx hb dL_law_284 (lv_at hl 0 rfl) ?_
    refine lv_i2l hx hb dL_law_286 rfl ?_
    refine lv_lcmpE hx hb dL_law_287 ?_
    exact lv_if_eq hx hb dL_law_288 (tgt := 293) (by decide) (fun _ => fin) (fun h => absurd rfl h)
  refine lv_if_eq hx hb dL_law_252 (tgt := 259) (by decide) (fun h => ?_) (fun h => ?_)
  · refine lv_iconst (v := 0) hx hb dL_law_259 (by decide) ?_
    rcases hy with ⟨-, rfl⟩ | ⟨h2, -⟩
    · exact key
    · exact absurd h h2
  · refine lv_iconst (v := 1) hx hb dL_law_255 (by decide) ?_
    refine lv_goto hx hb dL_law_256 (tgt := 260) (by decide) ?_
    rcases hy with ⟨h2, -⟩ | ⟨-, rfl⟩
    · exact absurd h2 h
    · exact key
set_option maxHeartbeats 4000000 in
set_option maxRecDepth 100000 in
theorem lc_type (hC : LC p l s m c b L xs) (hi : i + 6 ≤ L) (hX : s.heap.size ≤ X) (hLW : LW G X pn kl sz kc S M) (hl : lv_has ls 7 (LV b X pn kl i)) (hw : mw_W D vwCl (mw_tys G) mw_aos (LA s) s S H locs) (hc1 : cells + 1 ≤ 601024) (hs6 : slots + 6 ≤ 7293000) (hkc : kc + 1 < 100000) (kk : LK p l e s m below meth c Q b D G X pn kl sz (kc + 1) i cells slots) : W p l e room_1 s m #[Value.ref b] below meth c H locs cells slots Q (F0 m 212 ls []) := by
  obtain ⟨hx, hb, hml, hown, hts, hXs, hbl, hTT, hXX, htr, hL⟩ := hC
  have hbA : ¬ LA s b := Nat.not_le.mpr hbl
  have hA : ∀ q, X + 36 + 2 * pn + 4 * kl + 10 ≤ q → q ≤ X + 36 + 2 * pn + 4 * kl + 10 + 25 → LA s q := fun q h1 _ => by show s.heap.size ≤ q; omega
  refine lv_aload_n hx hb dL_law_212 rfl (lv_at hl 1 rfl) ?_
  refine lv_aload_n hx hb dL_law_213 rfl (lv_at hl 0 rfl) ?_
  refine lv_iload hx hb dL_law_214 (lv_at hl 4 rfl) ?_
  refine lv_iconst (v := 1) hx hb dL_law_216 (by decide) ?_
  refine lv_iadd hx hb dL_law_217 ?_
  refine va_sld hx hb hXs hbl hbA hw.2.2.1 (sx (j := 1) hi hL (by decide)) dL_law_218 ?_
  refine lv_aload_n hx hb dL_law_219 rfl (lv_at hl 0 rfl) ?_
  refine lv_iload hx hb dL_law_220 (lv_at hl 4 rfl) ?_
  refine lv_iconst (v := 2) hx hb dL_law_222 (by decide) ?_
  refine lv_iadd hx hb dL_law_223 ?_
  refine va_sld hx hb hXs hbl hbA hw.2.2.1 (sx (j := 2) hi hL (by decide)) dL_law_224 ?_
  refine lv_if_eq hx hb dL_law_225 (tgt := 232) (by decide) (fun hy => ?_) (fun hy => ?_)
  · refine lv_iconst (v := 0) hx hb dL_law_232 (by decide) ?_
    exact lc_type_b (Or.inl ⟨hy, rfl⟩) ⟨hx, hb, hml, hown, hts, hXs, hbl, hTT, hXX, htr, hL⟩ hi hX hLW hl hw hc1 hs6 hkc kk
  · refine lv_iconst (v := 1) hx hb dL_law_228 (by decide) ?_
    refine lv_goto hx hb dL_law_229 (tgt := 233) (by decide) ?_
    exact lc_type_b (Or.inr ⟨hy, rfl⟩) ⟨hx, hb, hml, hown, hts, hXs, hbl, hTT, hXX, htr, hL⟩ hi hX hLW hl hw hc1 hs6 hkc kk

set_option maxHeartbeats 4000000 in
set_option maxRecDepth 100000 in
theorem lc_record (hC : LC p l s m c b L xs) (hi : i + 6 ≤ L) (hX : s.heap.size ≤ X) (hLW : LW G X pn kl sz kc S M) (hl : lv_has ls 7 (LV b X pn kl i)) (hw : mw_W D vwCl (mw_tys G) mw_aos (LA s) s S H locs) (hc1 : cells + 1 ≤ 601024) (hs6 : slots + 6 ≤ 7293000) (hkc : kc + 1 < 100000) (kk : LK p l e s m below meth c Q b D G X pn kl sz (kc + 1) i cells slots) : W p l e room_1 s m #[Value.ref b] below meth c H locs cells slots Q (F0 m 407 ls []) := by
  obtain ⟨hx, hb, hml, hown, hts, hXs, hbl, hTT, hXX, htr, hL⟩ := hC
  have hbA : ¬ LA s b := Nat.not_le.mpr hbl
  have hA : ∀ q, X + 36 + 2 * pn + 4 * kl + 10 ≤ q → q ≤ X + 36 + 2 * pn + 4 * kl + 10 + 25 → LA s q := fun q h1 _ => by show s.heap.size ≤ q; omega
  obtain ⟨⟨c0, r, r', S', M', e1, e2, hc2, h4, hrr, hRR, hs⟩, hn1⟩ := opk_record_ne (N := 10000) hLW.1
  have hnA : ∀ (y : Addr) (cy : Cell), s.heap[y]? = some cy → cy.vm.isStatics = true → ¬ LA s y := fun y cy hy _ q => by
    have h1 := (Array.getElem?_eq_some_iff.mp hy).1
    have h2 : s.heap.size ≤ y := q
    omega
  refine lv_aload_n hx hb dL_law_407 rfl (lv_at hl 1 rfl) ?_
  refine lv_aload_n hx hb dL_law_408 rfl (lv_at hl 3 rfl) ?_
  refine va_calli (hl_runS (As := [.ref X, .ref (X + 36 + 2 * pn + 4 * kl + 36)]) (rest := []) hx hb hml hown (cm_L_record l D G 10000 S X (X + 36 + 2 * pn + 4 * kl + 36) (c0, r, S') e1 hc2 htr hLW.oX (fun _ => hLW.ho hs _) (hn1 c0 r S' e1)) (hl_blind D vwCl (mw_tys G) mw_aos S _) (pay_in hts (mw_gI tw_626)) List.mem_cons_self (hts _ tw_626) (hts _ tw_624) (hts _ tw_625) (hts _ tw_0) (by decide +kernel) (show (parseMethodDescriptor yL_record.desc).map (fun d => d.parameters.length) = some 2 from by decide +kernel) rfl rfl ⟨Nat.le_of_ble_eq_true rfl, Nat.le_of_ble_eq_true rfl⟩ (fun U hU hW => ⟨rfl, (mw_pre hw [] U hU hW).2, mw_Tat hw hTT hnA U hU hW, mw_X.moved hW.alike hXX⟩) hl.1 (lv_room (Nat.le_of_ble_eq_true rfl)) dL_law_409 ⟨by show _ ≤ (601024 : Nat); omega, by show _ ≤ (7293000 : Nat); omega⟩) hw.2.2.1 (fun q _ h => mw_in hw q h) (mw_in hw) (fun rr u t H locs ht hvm hp hB hz0 hk0 hS => ?_)
  have hw := mw_back hw ht hvm hB hS
  obtain ⟨hRu, hku⟩ := hLW.u hs hRR hp
  have hp1 : rr = (fun c => if c = 0 then 0 else 1) c0 := hp.1
  refine lv_istore hx hb dL_law_412 hl (by decide) rfl (fun ls hl => ?_)
  refine lv_aload_n hx hb dL_law_414 rfl (lv_at hl 3 rfl) ?_
  refine mx_calli (va_runV (As := []) (rest := []) ⟨hx, hb, hml, hown, hts⟩ (cm_X9_record l D G 10000 (X + 36 + 2 * pn + 4 * kl + 10) u M (r', M') e2) (cwV 0 hts (mw_gV tw_918 tw_919 tw_920 tw_11 tw_921) rfl rfl rfl (by decide +kernel) ⟨Nat.le_of_ble_eq_true rfl, Nat.le_of_ble_eq_true rfl⟩) (mx_preV hw rfl hRu) rfl rfl hl.1 rfl (lv_room (Nat.le_of_ble_eq_true rfl)) dL_law_415 ⟨by show _ ≤ (601024 : Nat); omega, by show _ ≤ (7293000 : Nat); omega⟩) hw hA (fun S1 H locs hR1 hm1 hw => ?_)
  refine lv_istore hx hb dL_law_418 hl (by decide) rfl (fun ls hl => ?_)
  refine lv_aload_n hx hb dL_law_420 rfl (lv_at hl 4 rfl) ?_
  refine mx_calli (va_runV (As := []) (rest := []) ⟨hx, hb, hml, hown, hts⟩ (cm_X9_thrown l D G 10000 (X + 36 + 2 * pn + 4 * kl + 10) S1 M' (M'.1 4, M') rfl) (cwV 0 hts (mw_gV tw_841 tw_842 tw_843 tw_11 tw_844) rfl rfl rfl (by decide +kernel) ⟨Nat.le_of_ble_eq_true rfl, Nat.le_of_ble_eq_true rfl⟩) (mx_preV hw rfl hR1) rfl rfl hl.1 rfl (lv_room (Nat.le_of_ble_eq_true rfl)) dL_law_421 ⟨by show _ ≤ (601024 : Nat); omega, by show _ ≤ (7293000 : Nat); omega⟩) hw hA (fun S2 H locs hR2 hm2 hw => ?_)
  obtain ⟨hLW2, hv⟩ := hku S1 S2 hR2 hm1 hm2
  refine lv_iload hx hb dL_law_424 (lv_at hl 1 rfl) ?_
  refine lv_icmp_eq hx hb dL_law_426 (tgt := 431) (by decide) (fun _ => ?_) (fun h => absurd (h4.trans hp1.symm) h)
  refine lv_iload hx hb dL_law_431 (lv_at hl 1 rfl) ?_
  have fin : W p l e room_1 s m #[Value.ref b] below meth c H locs (cells + 1 + 0 + 0) (slots + 6 + 0 + 0) Q (F0 m 448 ls []) := by
    refine lv_goto hx hb dL_law_448 (tgt := 913) (by decide) ?_
    exact kk S2 M' H locs ls _ _ (by omega) (by omega) (hLW2.mono (by omega) hkc) (lv_sub hl [2, 3, 4, 5, 6] rfl) hw
  refine lv_if_ne hx hb dL_law_433 (tgt := 448) (by decide) (fun _ => fin) (fun hz => ?_)
  have hc : c0 = 0 := k0_r hc2 (hp1.symm.trans hz)
  have hv := hv hc
  have hrr := hrr hc
  subst hrr
  refine lv_aload_n hx hb dL_law_436 rfl (lv_at hl 5 rfl) ?_
  refine lv_iconst (v := 0) hx hb dL_law_437 (by decide) ?_
  refine mw_lald hx hb hw 8 rfl hv dL_law_438 ?_
  refine lv_iload hx hb dL_law_439 (lv_at hl 0 rfl) ?_
  refine lv_i2l hx hb dL_law_441 rfl ?_
  refine lv_lcmpE hx hb dL_law_442 ?_
  exact lv_if_eq hx hb dL_law_443 (tgt := 448) (by decide) (fun _ => fin) (fun h => absurd rfl h)

set_option maxHeartbeats 4000000 in
set_option maxRecDepth 100000 in
theorem lc_settings (hC : LC p l s m c b L xs) (hi : i + 6 ≤ L) (hX : s.heap.size ≤ X) (hLW : LW G X pn kl sz kc S M) (hl : lv_has ls 7 (LV b X pn kl i)) (hw : mw_W D vwCl (mw_tys G) mw_aos (LA s) s S H locs) (hc1 : cells + 1 ≤ 601024) (hs6 : slots + 6 ≤ 7293000) (hkc : kc + 1 < 100000) (kk : LK p l e s m below meth c Q b D G X pn kl sz (kc + 1) i cells slots) : W p l e room_1 s m #[Value.ref b] below meth c H locs cells slots Q (F0 m 451 ls []) := by
  obtain ⟨hx, hb, hml, hown, hts, hXs, hbl, hTT, hXX, htr, hL⟩ := hC
  have hbA : ¬ LA s b := Nat.not_le.mpr hbl
  have hA : ∀ q, X + 36 + 2 * pn + 4 * kl + 10 ≤ q → q ≤ X + 36 + 2 * pn + 4 * kl + 10 + 25 → LA s q := fun q h1 _ => by show s.heap.size ≤ q; omega
  obtain ⟨c0, r, r', S', M', e1, e2, hc2, h4, hrr, hRR, hs⟩ := OPk.of (op_settings (N := 10000) hLW.1 (xs (nI i + 1).toNatClampNeg) (by decide))
  have hnA : ∀ (y : Addr) (cy : Cell), s.heap[y]? = some cy → cy.vm.isStatics = true → ¬ LA s y := fun y cy hy _ q => by
    have h1 := (Array.getElem?_eq_some_iff.mp hy).1
    have h2 : s.heap.size ≤ y := q
    omega
  refine lv_aload_n hx hb dL_law_451 rfl (lv_at hl 1 rfl) ?_
  refine lv_aload_n hx hb dL_law_452 rfl (lv_at hl 0 rfl) ?_
  refine lv_iload hx hb dL_law_453 (lv_at hl 4 rfl) ?_
  refine lv_iconst (v := 1) hx hb dL_law_455 (by decide) ?_
  refine lv_iadd hx hb dL_law_456 ?_
  refine va_sld hx hb hXs hbl hbA hw.2.2.1 (sx (j := 1) hi hL (by decide)) dL_law_457 ?_
  refine lv_aload_n hx hb dL_law_458 rfl (lv_at hl 3 rfl) ?_
  refine va_calli (hl_runS (As := [.ref X, .int (xs (nI i + 1).toNatClampNeg), .ref (X + 36 + 2 * pn + 4 * kl + 36)]) (rest := []) hx hb hml hown (cm_L_settings l D G 10000 S X (xs (nI i + 1).toNatClampNeg) (X + 36 + 2 * pn + 4 * kl + 36) (c0, r, S') e1 hc2 htr hLW.oX (fun _ => hLW.ho hs _)) (hl_blind D vwCl (mw_tys G) mw_aos S _) (pay_in hts (mw_gI tw_634)) List.mem_cons_self (hts _ tw_634) (hts _ tw_632) (hts _ tw_633) (hts _ tw_0) (by decide +kernel) (show (parseMethodDescriptor yL_settings.desc).map (fun d => d.parameters.length) = some 3 from by decide +kernel) rfl rfl ⟨Nat.le_of_ble_eq_true rfl, Nat.le_of_ble_eq_true rfl⟩ (fun U hU hW => ⟨rfl, (mw_pre hw [] U hU hW).2, mw_Tat hw hTT hnA U hU hW, mw_X.moved hW.alike hXX⟩) hl.1 (lv_room (Nat.le_of_ble_eq_true rfl)) dL_law_459 ⟨by show _ ≤ (601024 : Nat); omega, by show _ ≤ (7293000 : Nat); omega⟩) hw.2.2.1 (fun q _ h => mw_in hw q h) (mw_in hw) (fun rr u t H locs ht hvm hp hB hz0 hk0 hS => ?_)
  have hw := mw_back hw ht hvm hB hS
  obtain ⟨hRu, hku⟩ := hLW.u hs hRR hp
  have hp1 : rr = nI c0 := hp.1
  refine lv_istore hx hb dL_law_462 hl (by decide) rfl (fun ls hl => ?_)
  refine lv_aload_n hx hb dL_law_464 rfl (lv_at hl 3 rfl) ?_
  refine lv_aload_n hx hb dL_law_465 rfl (lv_at hl 1 rfl) ?_
  refine lv_iload hx hb dL_law_466 (lv_at hl 5 rfl) ?_
  refine lv_iconst (v := 1) hx hb dL_law_468 (by decide) ?_
  refine lv_iadd hx hb dL_law_469 ?_
  refine va_sld hx hb hXs hbl hbA hw.2.2.1 (sx (j := 1) hi hL (by decide)) dL_law_470 ?_
  refine mx_calli (va_runV (As := [.int (xs (nI i + 1).toNatClampNeg)]) (rest := []) ⟨hx, hb, hml, hown, hts⟩ (cm_X9_settings l D G 10000 (X + 36 + 2 * pn + 4 * kl + 10) u M (xs (nI i + 1).toNatClampNeg) (r', M') e2) (cwV 1 hts (mw_gV tw_922 tw_923 tw_924 tw_11 tw_925) rfl rfl rfl (by decide +kernel) ⟨Nat.le_of_ble_eq_true rfl, Nat.le_of_ble_eq_true rfl⟩) (mx_preV hw rfl hRu) rfl rfl hl.1 rfl (lv_room (Nat.le_of_ble_eq_true rfl)) dL_law_471 ⟨by show _ ≤ (601024 : Nat); omega, by show _ ≤ (7293000 : Nat); omega⟩) hw hA (fun S1 H locs hR1 hm1 hw => ?_)
  refine lv_istore hx hb dL_law_474 hl (by decide) rfl (fun ls hl => ?_)
  refine lv_aload_n hx hb dL_law_476 rfl (lv_at hl 4 rfl) ?_
  refine mx_calli (va_runV (As := []) (rest := []) ⟨hx, hb, hml, hown, hts⟩ (cm_X9_thrown l D G 10000 (X + 36 + 2 * pn + 4 * kl + 10) S1 M' (M'.1 4, M') rfl) (cwV 0 hts (mw_gV tw_841 tw_842 tw_843 tw_11 tw_844) rfl rfl rfl (by decide +kernel) ⟨Nat.le_of_ble_eq_true rfl, Nat.le_of_ble_eq_true rfl⟩) (mx_preV hw rfl hR1) rfl rfl hl.1 rfl (lv_room (Nat.le_of_ble_eq_true rfl)) dL_law_477 ⟨by show _ ≤ (601024 : Nat); omega, by show _ ≤ (7293000 : Nat); omega⟩) hw hA (fun S2 H locs hR2 hm2 hw => ?_)
  obtain ⟨hLW2, hv⟩ := hku S1 S2 hR2 hm1 hm2
  refine lv_iload hx hb dL_law_480 (lv_at hl 1 rfl) ?_
  refine lv_icmp_eq hx hb dL_law_482 (tgt := 487) (by decide) (fun _ => ?_) (fun h => absurd (h4.trans hp1.symm) h)
  refine lv_iload hx hb dL_law_487 (lv_at hl 1 rfl) ?_
  have fin : W p l e room_1 s m #[Value.ref b] below meth c H locs (cells + 1 + 0 + 0) (slots + 6 + 0 + 0) Q (F0 m 504 ls []) := by
    refine lv_goto hx hb dL_law_504 (tgt := 913) (by decide) ?_
    exact kk S2 M' H locs ls _ _ (by omega) (by omega) (hLW2.mono (by omega) hkc) (lv_sub hl [2, 3, 4, 5, 6] rfl) hw
  refine lv_if_ne hx hb dL_law_489 (tgt := 504) (by decide) (fun _ => fin) (fun hz => ?_)
  have hc : c0 = 0 := k0_n hc2 (hp1.symm.trans hz)
  have hv := hv hc
  have hrr := hrr hc
  subst hrr
  refine lv_aload_n hx hb dL_law_492 rfl (lv_at hl 5 rfl) ?_
  refine lv_iconst (v := 0) hx hb dL_law_493 (by decide) ?_
  refine mw_lald hx hb hw 8 rfl hv dL_law_494 ?_
  refine lv_iload hx hb dL_law_495 (lv_at hl 0 rfl) ?_
  refine lv_i2l hx hb dL_law_497 rfl ?_
  refine lv_lcmpE hx hb dL_law_498 ?_
  exact lv_if_eq hx hb dL_law_499 (tgt := 504) (by decide) (fun _ => fin) (fun h => absurd rfl h)

set_option maxHeartbeats 4000000 in
set_option maxRecDepth 100000 in
theorem lc_start (hC : LC p l s m c b L xs) (hi : i + 6 ≤ L) (hX : s.heap.size ≤ X) (hLW : LW G X pn kl sz kc S M) (hl : lv_has ls 7 (LV b X pn kl i)) (hw : mw_W D vwCl (mw_tys G) mw_aos (LA s) s S H locs) (hc1 : cells + 1 ≤ 601024) (hs6 : slots + 6 ≤ 7293000) (hkc : kc + 1 < 100000) (kk : LK p l e s m below meth c Q b D G X pn kl sz (kc + 1) i cells slots) : W p l e room_1 s m #[Value.ref b] below meth c H locs cells slots Q (F0 m 520 ls []) := by
  obtain ⟨hx, hb, hml, hown, hts, hXs, hbl, hTT, hXX, htr, hL⟩ := hC
  have hbA : ¬ LA s b := Nat.not_le.mpr hbl
  have hA : ∀ q, X + 36 + 2 * pn + 4 * kl + 10 ≤ q → q ≤ X + 36 + 2 * pn + 4 * kl + 10 + 25 → LA s q := fun q h1 _ => by show s.heap.size ≤ q; omega
  obtain ⟨c0, r, r', S', M', e1, e2, hc2, h4, hrr, hRR, hs⟩ := OPk.of (op_start (N := 10000) hLW.1 (xs (nI i + 1).toNatClampNeg) (by decide))
  have hnA : ∀ (y : Addr) (cy : Cell), s.heap[y]? = some cy → cy.vm.isStatics = true → ¬ LA s y := fun y cy hy _ q => by
    have h1 := (Array.getElem?_eq_some_iff.mp hy).1
    have h2 : s.heap.size ≤ y := q
    omega
  refine lv_aload_n hx hb dL_law_520 rfl (lv_at hl 1 rfl) ?_
  refine lv_aload_n hx hb dL_law_521 rfl (lv_at hl 0 rfl) ?_
  refine lv_iload hx hb dL_law_522 (lv_at hl 4 rfl) ?_
  refine lv_iconst (v := 1) hx hb dL_law_524 (by decide) ?_
  refine lv_iadd hx hb dL_law_525 ?_
  refine va_sld hx hb hXs hbl hbA hw.2.2.1 (sx (j := 1) hi hL (by decide)) dL_law_526 ?_
  refine lv_aload_n hx hb dL_law_527 rfl (lv_at hl 3 rfl) ?_
  refine va_calli (hl_runS (As := [.ref X, .int (xs (nI i + 1).toNatClampNeg), .ref (X + 36 + 2 * pn + 4 * kl + 36)]) (rest := []) hx hb hml hown (cm_L_start l D G 10000 S X (xs (nI i + 1).toNatClampNeg) (X + 36 + 2 * pn + 4 * kl + 36) (c0, r, S') e1 hc2 htr hLW.oX (fun _ => hLW.ho hs _)) (hl_blind D vwCl (mw_tys G) mw_aos S _) (pay_in hts (mw_gI tw_643)) List.mem_cons_self (hts _ tw_643) (hts _ tw_641) (hts _ tw_642) (hts _ tw_0) (by decide +kernel) (show (parseMethodDescriptor yL_start.desc).map (fun d => d.parameters.length) = some 3 from by decide +kernel) rfl rfl ⟨Nat.le_of_ble_eq_true rfl, Nat.le_of_ble_eq_true rfl⟩ (fun U hU hW => ⟨rfl, (mw_pre hw [] U hU hW).2, mw_Tat hw hTT hnA U hU hW, mw_X.moved hW.alike hXX⟩) hl.1 (lv_room (Nat.le_of_ble_eq_true rfl)) dL_law_528 ⟨by show _ ≤ (601024 : Nat); omega, by show _ ≤ (7293000 : Nat); omega⟩) hw.2.2.1 (fun q _ h => mw_in hw q h) (mw_in hw) (fun rr u t H locs ht hvm hp hB hz0 hk0 hS => ?_)
  have hw := mw_back hw ht hvm hB hS
  obtain ⟨hRu, hku⟩ := hLW.u hs hRR hp
  have hp1 : rr = nI c0 := hp.1
  refine lv_istore hx hb dL_law_531 hl (by decide) rfl (fun ls hl => ?_)
  refine lv_aload_n hx hb dL_law_533 rfl (lv_at hl 3 rfl) ?_
  refine lv_aload_n hx hb dL_law_534 rfl (lv_at hl 1 rfl) ?_
  refine lv_iload hx hb dL_law_535 (lv_at hl 5 rfl) ?_
  refine lv_iconst (v := 1) hx hb dL_law_537 (by decide) ?_
  refine lv_iadd hx hb dL_law_538 ?_
  refine va_sld hx hb hXs hbl hbA hw.2.2.1 (sx (j := 1) hi hL (by decide)) dL_law_539 ?_
  refine mx_calli (va_runV (As := [.int (xs (nI i + 1).toNatClampNeg)]) (rest := []) ⟨hx, hb, hml, hown, hts⟩ (cm_X9_start l D G 10000 (X + 36 + 2 * pn + 4 * kl + 10) u M (xs (nI i + 1).toNatClampNeg) (r', M') e2) (cwV 1 hts (mw_gV tw_950 tw_951 tw_952 tw_11 tw_953) rfl rfl rfl (by decide +kernel) ⟨Nat.le_of_ble_eq_true rfl, Nat.le_of_ble_eq_true rfl⟩) (mx_preV hw rfl hRu) rfl rfl hl.1 rfl (lv_room (Nat.le_of_ble_eq_true rfl)) dL_law_540 ⟨by show _ ≤ (601024 : Nat); omega, by show _ ≤ (7293000 : Nat); omega⟩) hw hA (fun S1 H locs hR1 hm1 hw => ?_)
  refine lv_istore hx hb dL_law_543 hl (by decide) rfl (fun ls hl => ?_)
  refine lv_aload_n hx hb dL_law_545 rfl (lv_at hl 4 rfl) ?_
  refine mx_calli (va_runV (As := []) (rest := []) ⟨hx, hb, hml, hown, hts⟩ (cm_X9_thrown l D G 10000 (X + 36 + 2 * pn + 4 * kl + 10) S1 M' (M'.1 4, M') rfl) (cwV 0 hts (mw_gV tw_841 tw_842 tw_843 tw_11 tw_844) rfl rfl rfl (by decide +kernel) ⟨Nat.le_of_ble_eq_true rfl, Nat.le_of_ble_eq_true rfl⟩) (mx_preV hw rfl hR1) rfl rfl hl.1 rfl (lv_room (Nat.le_of_ble_eq_true rfl)) dL_law_546 ⟨by show _ ≤ (601024 : Nat); omega, by show _ ≤ (7293000 : Nat); omega⟩) hw hA (fun S2 H locs hR2 hm2 hw => ?_)
  obtain ⟨hLW2, hv⟩ := hku S1 S2 hR2 hm1 hm2
  refine lv_iload hx hb dL_law_549 (lv_at hl 1 rfl) ?_
  refine lv_icmp_eq hx hb dL_law_551 (tgt := 556) (by decide) (fun _ => ?_) (fun h => absurd (h4.trans hp1.symm) h)
  refine lv_iload hx hb dL_law_556 (lv_at hl 1 rfl) ?_
  have fin : W p l e room_1 s m #[Value.ref b] below meth c H locs (cells + 1 + 0 + 0) (slots + 6 + 0 + 0) Q (F0 m 573 ls []) := by
    refine lv_goto hx hb dL_law_573 (tgt := 913) (by decide) ?_
    exact kk S2 M' H locs ls _ _ (by omega) (by omega) (hLW2.mono (by omega) hkc) (lv_sub hl [2, 3, 4, 5, 6] rfl) hw
  refine lv_if_ne hx hb dL_law_558 (tgt := 573) (by decide) (fun _ => fin) (fun hz => ?_)
  have hc : c0 = 0 := k0_n hc2 (hp1.symm.trans hz)
  have hv := hv hc
  have hrr := hrr hc
  subst hrr
  refine lv_aload_n hx hb dL_law_561 rfl (lv_at hl 5 rfl) ?_
  refine lv_iconst (v := 0) hx hb dL_law_562 (by decide) ?_
  refine mw_lald hx hb hw 8 rfl hv dL_law_563 ?_
  refine lv_iload hx hb dL_law_564 (lv_at hl 0 rfl) ?_
  refine lv_i2l hx hb dL_law_566 rfl ?_
  refine lv_lcmpE hx hb dL_law_567 ?_
  exact lv_if_eq hx hb dL_law_568 (tgt := 573) (by decide) (fun _ => fin) (fun h => absurd rfl h)

set_option maxHeartbeats 4000000 in
set_option maxRecDepth 100000 in
theorem lc_stop (hC : LC p l s m c b L xs) (hi : i + 6 ≤ L) (hX : s.heap.size ≤ X) (hLW : LW G X pn kl sz kc S M) (hl : lv_has ls 7 (LV b X pn kl i)) (hw : mw_W D vwCl (mw_tys G) mw_aos (LA s) s S H locs) (hc1 : cells + 1 ≤ 601024) (hs6 : slots + 6 ≤ 7293000) (hkc : kc + 1 < 100000) (kk : LK p l e s m below meth c Q b D G X pn kl sz (kc + 1) i cells slots) : W p l e room_1 s m #[Value.ref b] below meth c H locs cells slots Q (F0 m 576 ls []) := by
  obtain ⟨hx, hb, hml, hown, hts, hXs, hbl, hTT, hXX, htr, hL⟩ := hC
  have hbA : ¬ LA s b := Nat.not_le.mpr hbl
  have hA : ∀ q, X + 36 + 2 * pn + 4 * kl + 10 ≤ q → q ≤ X + 36 + 2 * pn + 4 * kl + 10 + 25 → LA s q := fun q h1 _ => by show s.heap.size ≤ q; omega
  obtain ⟨c0, r, r', S', M', e1, e2, hc2, h4, hrr, hRR, hs⟩ := OPk.of (op_stop (N := 10000) hLW.1 (xs (nI i + 1).toNatClampNeg) (by decide))
  have hnA : ∀ (y : Addr) (cy : Cell), s.heap[y]? = some cy → cy.vm.isStatics = true → ¬ LA s y := fun y cy hy _ q => by
    have h1 := (Array.getElem?_eq_some_iff.mp hy).1
    have h2 : s.heap.size ≤ y := q
    omega
  refine lv_aload_n hx hb dL_law_576 rfl (lv_at hl 1 rfl) ?_
  refine lv_aload_n hx hb dL_law_577 rfl (lv_at hl 0 rfl) ?_
  refine lv_iload hx hb dL_law_578 (lv_at hl 4 rfl) ?_
  refine lv_iconst (v := 1) hx hb dL_law_580 (by decide) ?_
  refine lv_iadd hx hb dL_law_581 ?_
  refine va_sld hx hb hXs hbl hbA hw.2.2.1 (sx (j := 1) hi hL (by decide)) dL_law_582 ?_
  refine lv_aload_n hx hb dL_law_583 rfl (lv_at hl 3 rfl) ?_
  refine va_calli (hl_runS (As := [.ref X, .int (xs (nI i + 1).toNatClampNeg), .ref (X + 36 + 2 * pn + 4 * kl + 36)]) (rest := []) hx hb hml hown (cm_L_stop l D G 10000 S X (xs (nI i + 1).toNatClampNeg) (X + 36 + 2 * pn + 4 * kl + 36) (c0, r, S') e1 hc2 htr hLW.oX (fun _ => hLW.ho hs _)) (hl_blind D vwCl (mw_tys G) mw_aos S _) (pay_in hts (mw_gI tw_656)) List.mem_cons_self (hts _ tw_656) (hts _ tw_654) (hts _ tw_655) (hts _ tw_0) (by decide +kernel) (show (parseMethodDescriptor yL_stop.desc).map (fun d => d.parameters.length) = some 3 from by decide +kernel) rfl rfl ⟨Nat.le_of_ble_eq_true rfl, Nat.le_of_ble_eq_true rfl⟩ (fun U hU hW => ⟨rfl, (mw_pre hw [] U hU hW).2, mw_Tat hw hTT hnA U hU hW, mw_X.moved hW.alike hXX⟩) hl.1 (lv_room (Nat.le_of_ble_eq_true rfl)) dL_law_584 ⟨by show _ ≤ (601024 : Nat); omega, by show _ ≤ (7293000 : Nat); omega⟩) hw.2.2.1 (fun q _ h => mw_in hw q h) (mw_in hw) (fun rr u t H locs ht hvm hp hB hz0 hk0 hS => ?_)
  have hw := mw_back hw ht hvm hB hS
  obtain ⟨hRu, hku⟩ := hLW.u hs hRR hp
  have hp1 : rr = nI c0 := hp.1
  refine lv_istore hx hb dL_law_587 hl (by decide) rfl (fun ls hl => ?_)
  refine lv_aload_n hx hb dL_law_589 rfl (lv_at hl 3 rfl) ?_
  refine lv_aload_n hx hb dL_law_590 rfl (lv_at hl 1 rfl) ?_
  refine lv_iload hx hb dL_law_591 (lv_at hl 5 rfl) ?_
  refine lv_iconst (v := 1) hx hb dL_law_593 (by decide) ?_
  refine lv_iadd hx hb dL_law_594 ?_
  refine va_sld hx hb hXs hbl hbA hw.2.2.1 (sx (j := 1) hi hL (by decide)) dL_law_595 ?_
  refine mx_calli (va_runV (As := [.int (xs (nI i + 1).toNatClampNeg)]) (rest := []) ⟨hx, hb, hml, hown, hts⟩ (cm_X9_stop l D G 10000 (X + 36 + 2 * pn + 4 * kl + 10) u M (xs (nI i + 1).toNatClampNeg) (r', M') e2) (cwV 1 hts (mw_gV tw_954 tw_955 tw_956 tw_11 tw_957) rfl rfl rfl (by decide +kernel) ⟨Nat.le_of_ble_eq_true rfl, Nat.le_of_ble_eq_true rfl⟩) (mx_preV hw rfl hRu) rfl rfl hl.1 rfl (lv_room (Nat.le_of_ble_eq_true rfl)) dL_law_596 ⟨by show _ ≤ (601024 : Nat); omega, by show _ ≤ (7293000 : Nat); omega⟩) hw hA (fun S1 H locs hR1 hm1 hw => ?_)
  refine lv_istore hx hb dL_law_599 hl (by decide) rfl (fun ls hl => ?_)
  refine lv_aload_n hx hb dL_law_601 rfl (lv_at hl 4 rfl) ?_
  refine mx_calli (va_runV (As := []) (rest := []) ⟨hx, hb, hml, hown, hts⟩ (cm_X9_thrown l D G 10000 (X + 36 + 2 * pn + 4 * kl + 10) S1 M' (M'.1 4, M') rfl) (cwV 0 hts (mw_gV tw_841 tw_842 tw_843 tw_11 tw_844) rfl rfl rfl (by decide +kernel) ⟨Nat.le_of_ble_eq_true rfl, Nat.le_of_ble_eq_true rfl⟩) (mx_preV hw rfl hR1) rfl rfl hl.1 rfl (lv_room (Nat.le_of_ble_eq_true rfl)) dL_law_602 ⟨by show _ ≤ (601024 : Nat); omega, by show _ ≤ (7293000 : Nat); omega⟩) hw hA (fun S2 H locs hR2 hm2 hw => ?_)
  obtain ⟨hLW2, hv⟩ := hku S1 S2 hR2 hm1 hm2
  refine lv_iload hx hb dL_law_605 (lv_at hl 1 rfl) ?_
  refine lv_icmp_eq hx hb dL_law_607 (tgt := 612) (by decide) (fun _ => ?_) (fun h => absurd (h4.trans hp1.symm) h)
  refine lv_iload hx hb dL_law_612 (lv_at hl 1 rfl) ?_
  have fin : W p l e room_1 s m #[Value.ref b] below meth c H locs (cells + 1 + 0 + 0) (slots + 6 + 0 + 0) Q (F0 m 629 ls []) := by
    refine lv_goto hx hb dL_law_629 (tgt := 913) (by decide) ?_
    exact kk S2 M' H locs ls _ _ (by omega) (by omega) (hLW2.mono (by omega) hkc) (lv_sub hl [2, 3, 4, 5, 6] rfl) hw
  refine lv_if_ne hx hb dL_law_614 (tgt := 629) (by decide) (fun _ => fin) (fun hz => ?_)
  have hc : c0 = 0 := k0_n hc2 (hp1.symm.trans hz)
  have hv := hv hc
  have hrr := hrr hc
  subst hrr
  refine lv_aload_n hx hb dL_law_617 rfl (lv_at hl 5 rfl) ?_
  refine lv_iconst (v := 0) hx hb dL_law_618 (by decide) ?_
  refine mw_lald hx hb hw 8 rfl hv dL_law_619 ?_
  refine lv_iload hx hb dL_law_620 (lv_at hl 0 rfl) ?_
  refine lv_i2l hx hb dL_law_622 rfl ?_
  refine lv_lcmpE hx hb dL_law_623 ?_
  exact lv_if_eq hx hb dL_law_624 (tgt := 629) (by decide) (fun _ => fin) (fun h => absurd rfl h)

set_option maxHeartbeats 4000000 in
set_option maxRecDepth 100000 in
theorem lc_close (hC : LC p l s m c b L xs) (hi : i + 6 ≤ L) (hX : s.heap.size ≤ X) (hLW : LW G X pn kl sz kc S M) (hl : lv_has ls 7 (LV b X pn kl i)) (hw : mw_W D vwCl (mw_tys G) mw_aos (LA s) s S H locs) (hc1 : cells + 1 ≤ 601024) (hs6 : slots + 6 ≤ 7293000) (hkc : kc + 1 < 100000) (kk : LK p l e s m below meth c Q b D G X pn kl sz (kc + 1) i cells slots) : W p l e room_1 s m #[Value.ref b] below meth c H locs cells slots Q (F0 m 632 ls []) := by
  obtain ⟨hx, hb, hml, hown, hts, hXs, hbl, hTT, hXX, htr, hL⟩ := hC
  have hbA : ¬ LA s b := Nat.not_le.mpr hbl
  have hA : ∀ q, X + 36 + 2 * pn + 4 * kl + 10 ≤ q → q ≤ X + 36 + 2 * pn + 4 * kl + 10 + 25 → LA s q := fun q h1 _ => by show s.heap.size ≤ q; omega
  obtain ⟨c0, r, r', S', M', e1, e2, hc2, h4, hrr, hRR, hs⟩ := OPk.of (op_close (N := 10000) hLW.1 (xs (nI i + 1).toNatClampNeg) (by decide))
  have hnA : ∀ (y : Addr) (cy : Cell), s.heap[y]? = some cy → cy.vm.isStatics = true → ¬ LA s y := fun y cy hy _ q => by
    have h1 := (Array.getElem?_eq_some_iff.mp hy).1
    have h2 : s.heap.size ≤ y := q
    omega
  refine lv_aload_n hx hb dL_law_632 rfl (lv_at hl 1 rfl) ?_
  refine lv_aload_n hx hb dL_law_633 rfl (lv_at hl 0 rfl) ?_
  refine lv_iload hx hb dL_law_634 (lv_at hl 4 rfl) ?_
  refine lv_iconst (v := 1) hx hb dL_law_636 (by decide) ?_
  refine lv_iadd hx hb dL_law_637 ?_
  refine va_sld hx hb hXs hbl hbA hw.2.2.1 (sx (j := 1) hi hL (by decide)) dL_law_638 ?_
  refine lv_aload_n hx hb dL_law_639 rfl (lv_at hl 3 rfl) ?_
  refine va_calli (hl_runS (As := [.ref X, .int (xs (nI i + 1).toNatClampNeg), .ref (X + 36 + 2 * pn + 4 * kl + 36)]) (rest := []) hx hb hml hown (cm_L_close l D G 10000 S X (xs (nI i + 1).toNatClampNeg) (X + 36 + 2 * pn + 4 * kl + 36) (c0, r, S') e1 hc2 htr hLW.oX (fun _ => hLW.ho hs _)) (hl_blind D vwCl (mw_tys G) mw_aos S _) (pay_in hts (mw_gI tw_672)) List.mem_cons_self (hts _ tw_672) (hts _ tw_670) (hts _ tw_671) (hts _ tw_0) (by decide +kernel) (show (parseMethodDescriptor yL_close.desc).map (fun d => d.parameters.length) = some 3 from by decide +kernel) rfl rfl ⟨Nat.le_of_ble_eq_true rfl, Nat.le_of_ble_eq_true rfl⟩ (fun U hU hW => ⟨rfl, (mw_pre hw [] U hU hW).2, mw_Tat hw hTT hnA U hU hW, mw_X.moved hW.alike hXX⟩) hl.1 (lv_room (Nat.le_of_ble_eq_true rfl)) dL_law_640 ⟨by show _ ≤ (601024 : Nat); omega, by show _ ≤ (7293000 : Nat); omega⟩) hw.2.2.1 (fun q _ h => mw_in hw q h) (mw_in hw) (fun rr u t H locs ht hvm hp hB hz0 hk0 hS => ?_)
  have hw := mw_back hw ht hvm hB hS
  obtain ⟨hRu, hku⟩ := hLW.u hs hRR hp
  have hp1 : rr = nI c0 := hp.1
  refine lv_istore hx hb dL_law_643 hl (by decide) rfl (fun ls hl => ?_)
  refine lv_aload_n hx hb dL_law_645 rfl (lv_at hl 3 rfl) ?_
  refine lv_aload_n hx hb dL_law_646 rfl (lv_at hl 1 rfl) ?_
  refine lv_iload hx hb dL_law_647 (lv_at hl 5 rfl) ?_
  refine lv_iconst (v := 1) hx hb dL_law_649 (by decide) ?_
  refine lv_iadd hx hb dL_law_650 ?_
  refine va_sld hx hb hXs hbl hbA hw.2.2.1 (sx (j := 1) hi hL (by decide)) dL_law_651 ?_
  refine mx_calli (va_runV (As := [.int (xs (nI i + 1).toNatClampNeg)]) (rest := []) ⟨hx, hb, hml, hown, hts⟩ (cm_X9_close l D G 10000 (X + 36 + 2 * pn + 4 * kl + 10) u M (xs (nI i + 1).toNatClampNeg) (r', M') e2) (cwV 1 hts (mw_gV tw_962 tw_963 tw_964 tw_11 tw_965) rfl rfl rfl (by decide +kernel) ⟨Nat.le_of_ble_eq_true rfl, Nat.le_of_ble_eq_true rfl⟩) (mx_preV hw rfl hRu) rfl rfl hl.1 rfl (lv_room (Nat.le_of_ble_eq_true rfl)) dL_law_652 ⟨by show _ ≤ (601024 : Nat); omega, by show _ ≤ (7293000 : Nat); omega⟩) hw hA (fun S1 H locs hR1 hm1 hw => ?_)
  refine lv_istore hx hb dL_law_655 hl (by decide) rfl (fun ls hl => ?_)
  refine lv_aload_n hx hb dL_law_657 rfl (lv_at hl 4 rfl) ?_
  refine mx_calli (va_runV (As := []) (rest := []) ⟨hx, hb, hml, hown, hts⟩ (cm_X9_thrown l D G 10000 (X + 36 + 2 * pn + 4 * kl + 10) S1 M' (M'.1 4, M') rfl) (cwV 0 hts (mw_gV tw_841 tw_842 tw_843 tw_11 tw_844) rfl rfl rfl (by decide +kernel) ⟨Nat.le_of_ble_eq_true rfl, Nat.le_of_ble_eq_true rfl⟩) (mx_preV hw rfl hR1) rfl rfl hl.1 rfl (lv_room (Nat.le_of_ble_eq_true rfl)) dL_law_658 ⟨by show _ ≤ (601024 : Nat); omega, by show _ ≤ (7293000 : Nat); omega⟩) hw hA (fun S2 H locs hR2 hm2 hw => ?_)
  obtain ⟨hLW2, hv⟩ := hku S1 S2 hR2 hm1 hm2
  refine lv_iload hx hb dL_law_661 (lv_at hl 1 rfl) ?_
  refine lv_icmp_eq hx hb dL_law_663 (tgt := 668) (by decide) (fun _ => ?_) (fun h => absurd (h4.trans hp1.symm) h)
  refine lv_iload hx hb dL_law_668 (lv_at hl 1 rfl) ?_
  have fin : W p l e room_1 s m #[Value.ref b] below meth c H locs (cells + 1 + 0 + 0) (slots + 6 + 0 + 0) Q (F0 m 692 ls []) := by
    refine lv_goto hx hb dL_law_692 (tgt := 913) (by decide) ?_
    exact kk S2 M' H locs ls _ _ (by omega) (by omega) (hLW2.mono (by omega) hkc) (lv_sub hl [2, 3, 4, 5, 6] rfl) hw
  refine lv_if_ne hx hb dL_law_670 (tgt := 692) (by decide) (fun _ => fin) (fun hz => ?_)
  have hc : c0 = 0 := k0_n hc2 (hp1.symm.trans hz)
  have hv := hv hc
  have hrr := hrr hc
  rcases Classical.em (r = 0) with h6 | h6
  · have hv2 : mw_aj S2 (X + 36 + 2 * pn + 4 * kl + 36) (G 8) 0 = some (0 : Int64) := hv.trans (congrArg some (if_pos h6))
    refine lv_aload_n hx hb dL_law_673 rfl (lv_at hl 5 rfl) ?_
    refine lv_iconst (v := 0) hx hb dL_law_674 (by decide) ?_
    refine mw_lald hx hb hw 8 rfl hv2 dL_law_675 ?_
    refine lv_iload hx hb dL_law_676 (lv_at hl 0 rfl) ?_
    refine lv_if_eq hx hb dL_law_678 (tgt := 685) (by decide) (fun _ => ?_) (fun h => absurd (hrr.symm.trans h6) h)
    refine lv_lconst (v := 0) hx hb dL_law_685 (by decide) ?_
    refine lv_lcmpE hx hb dL_law_686 ?_
    exact lv_if_eq hx hb dL_law_687 (tgt := 692) (by decide) (fun _ => fin) (fun h => absurd rfl h)
  · have hv2 : mw_aj S2 (X + 36 + 2 * pn + 4 * kl + 36) (G 8) 0 = some (1 : Int64) := hv.trans (congrArg some (if_neg h6))
    refine lv_aload_n hx hb dL_law_673 rfl (lv_at hl 5 rfl) ?_
    refine lv_iconst (v := 0) hx hb dL_law_674 (by decide) ?_
    refine mw_lald hx hb hw 8 rfl hv2 dL_law_675 ?_
    refine lv_iload hx hb dL_law_676 (lv_at hl 0 rfl) ?_
    refine lv_if_eq hx hb dL_law_678 (tgt := 685) (by decide) (fun h => absurd (hrr.trans h) h6) (fun _ => ?_)
    refine lv_lconst (v := 1) hx hb dL_law_681 (by decide) ?_
    refine lv_goto hx hb dL_law_682 (tgt := 686) (by decide) ?_
    refine lv_lcmpE hx hb dL_law_686 ?_
    exact lv_if_eq hx hb dL_law_687 (tgt := 692) (by decide) (fun _ => fin) (fun h => absurd rfl h)

set_option maxHeartbeats 4000000 in
set_option maxRecDepth 100000 in
theorem lc_dump (hC : LC p l s m c b L xs) (hi : i + 6 ≤ L) (hX : s.heap.size ≤ X) (hLW : LW G X pn kl sz kc S M) (hl : lv_has ls 7 (LV b X pn kl i)) (hw : mw_W D vwCl (mw_tys G) mw_aos (LA s) s S H locs) (hc1 : cells + 1 ≤ 601024) (hs6 : slots + 6 ≤ 7293000) (hkc : kc + 1 < 100000) (kk : LK p l e s m below meth c Q b D G X pn kl sz (kc + 1) i cells slots) : W p l e room_1 s m #[Value.ref b] below meth c H locs cells slots Q (F0 m 695 ls []) := by
  obtain ⟨hx, hb, hml, hown, hts, hXs, hbl, hTT, hXX, htr, hL⟩ := hC
  have hbA : ¬ LA s b := Nat.not_le.mpr hbl
  have hA : ∀ q, X + 36 + 2 * pn + 4 * kl + 10 ≤ q → q ≤ X + 36 + 2 * pn + 4 * kl + 10 + 25 → LA s q := fun q h1 _ => by show s.heap.size ≤ q; omega
  obtain ⟨c0, r, r', S', M', e1, e2, hc2, h4, hrr, hRR, hs⟩ := OPk.of (op_dump (N := 10000) hLW.1 (xs (nI i + 1).toNatClampNeg) (by decide))
  have hnA : ∀ (y : Addr) (cy : Cell), s.heap[y]? = some cy → cy.vm.isStatics = true → ¬ LA s y := fun y cy hy _ q => by
    have h1 := (Array.getElem?_eq_some_iff.mp hy).1
    have h2 : s.heap.size ≤ y := q
    omega
  refine lv_aload_n hx hb dL_law_695 rfl (lv_at hl 1 rfl) ?_
  refine lv_aload_n hx hb dL_law_696 rfl (lv_at hl 0 rfl) ?_
  refine lv_iload hx hb dL_law_697 (lv_at hl 4 rfl) ?_
  refine lv_iconst (v := 1) hx hb dL_law_699 (by decide) ?_
  refine lv_iadd hx hb dL_law_700 ?_
  refine va_sld hx hb hXs hbl hbA hw.2.2.1 (sx (j := 1) hi hL (by decide)) dL_law_701 ?_
  refine lv_aload_n hx hb dL_law_702 rfl (lv_at hl 3 rfl) ?_
  refine va_calli (hl_runS (As := [.ref X, .int (xs (nI i + 1).toNatClampNeg), .ref (X + 36 + 2 * pn + 4 * kl + 36)]) (rest := []) hx hb hml hown (cm_L_dump l D G 10000 S X (xs (nI i + 1).toNatClampNeg) (X + 36 + 2 * pn + 4 * kl + 36) (c0, r, S') e1 hc2 htr hLW.oX (fun _ => hLW.ho hs _)) (hl_blind D vwCl (mw_tys G) mw_aos S _) (pay_in hts (mw_gI tw_684)) List.mem_cons_self (hts _ tw_684) (hts _ tw_682) (hts _ tw_683) (hts _ tw_0) (by decide +kernel) (show (parseMethodDescriptor yL_dump.desc).map (fun d => d.parameters.length) = some 3 from by decide +kernel) rfl rfl ⟨Nat.le_of_ble_eq_true rfl, Nat.le_of_ble_eq_true rfl⟩ (fun U hU hW => ⟨rfl, (mw_pre hw [] U hU hW).2, mw_Tat hw hTT hnA U hU hW, mw_X.moved hW.alike hXX⟩) hl.1 (lv_room (Nat.le_of_ble_eq_true rfl)) dL_law_703 ⟨by show _ ≤ (601024 : Nat); omega, by show _ ≤ (7293000 : Nat); omega⟩) hw.2.2.1 (fun q _ h => mw_in hw q h) (mw_in hw) (fun rr u t H locs ht hvm hp hB hz0 hk0 hS => ?_)
  have hw := mw_back hw ht hvm hB hS
  obtain ⟨hRu, hku⟩ := hLW.u hs hRR hp
  have hp1 : rr = nI c0 := hp.1
  refine lv_istore hx hb dL_law_706 hl (by decide) rfl (fun ls hl => ?_)
  refine lv_aload_n hx hb dL_law_708 rfl (lv_at hl 3 rfl) ?_
  refine lv_aload_n hx hb dL_law_709 rfl (lv_at hl 1 rfl) ?_
  refine lv_iload hx hb dL_law_710 (lv_at hl 5 rfl) ?_
  refine lv_iconst (v := 1) hx hb dL_law_712 (by decide) ?_
  refine lv_iadd hx hb dL_law_713 ?_
  refine va_sld hx hb hXs hbl hbA hw.2.2.1 (sx (j := 1) hi hL (by decide)) dL_law_714 ?_
  refine mx_calli (va_runV (As := [.int (xs (nI i + 1).toNatClampNeg)]) (rest := []) ⟨hx, hb, hml, hown, hts⟩ (cm_X9_dump l D G 10000 (X + 36 + 2 * pn + 4 * kl + 10) u M (xs (nI i + 1).toNatClampNeg) (r', M') e2) (cwV 1 hts (mw_gV tw_966 tw_967 tw_968 tw_11 tw_969) rfl rfl rfl (by decide +kernel) ⟨Nat.le_of_ble_eq_true rfl, Nat.le_of_ble_eq_true rfl⟩) (mx_preV hw rfl hRu) rfl rfl hl.1 rfl (lv_room (Nat.le_of_ble_eq_true rfl)) dL_law_715 ⟨by show _ ≤ (601024 : Nat); omega, by show _ ≤ (7293000 : Nat); omega⟩) hw hA (fun S1 H locs hR1 hm1 hw => ?_)
  refine lv_istore hx hb dL_law_718 hl (by decide) rfl (fun ls hl => ?_)
  refine lv_aload_n hx hb dL_law_720 rfl (lv_at hl 4 rfl) ?_
  refine mx_calli (va_runV (As := []) (rest := []) ⟨hx, hb, hml, hown, hts⟩ (cm_X9_thrown l D G 10000 (X + 36 + 2 * pn + 4 * kl + 10) S1 M' (M'.1 4, M') rfl) (cwV 0 hts (mw_gV tw_841 tw_842 tw_843 tw_11 tw_844) rfl rfl rfl (by decide +kernel) ⟨Nat.le_of_ble_eq_true rfl, Nat.le_of_ble_eq_true rfl⟩) (mx_preV hw rfl hR1) rfl rfl hl.1 rfl (lv_room (Nat.le_of_ble_eq_true rfl)) dL_law_721 ⟨by show _ ≤ (601024 : Nat); omega, by show _ ≤ (7293000 : Nat); omega⟩) hw hA (fun S2 H locs hR2 hm2 hw => ?_)
  obtain ⟨hLW2, hv⟩ := hku S1 S2 hR2 hm1 hm2
  refine lv_iload hx hb dL_law_724 (lv_at hl 1 rfl) ?_
  refine lv_icmp_eq hx hb dL_law_726 (tgt := 731) (by decide) (fun _ => ?_) (fun h => absurd (h4.trans hp1.symm) h)
  refine lv_iload hx hb dL_law_731 (lv_at hl 1 rfl) ?_
  have fin : W p l e room_1 s m #[Value.ref b] below meth c H locs (cells + 1 + 0 + 0) (slots + 6 + 0 + 0) Q (F0 m 748 ls []) := by
    refine lv_goto hx hb dL_law_748 (tgt := 913) (by decide) ?_
    exact kk S2 M' H locs ls _ _ (by omega) (by omega) (hLW2.mono (by omega) hkc) (lv_sub hl [2, 3, 4, 5, 6] rfl) hw
  refine lv_if_ne hx hb dL_law_733 (tgt := 748) (by decide) (fun _ => fin) (fun hz => ?_)
  have hc : c0 = 0 := k0_n hc2 (hp1.symm.trans hz)
  have hv := hv hc
  have hrr := hrr hc
  subst hrr
  refine lv_aload_n hx hb dL_law_736 rfl (lv_at hl 5 rfl) ?_
  refine lv_iconst (v := 0) hx hb dL_law_737 (by decide) ?_
  refine mw_lald hx hb hw 8 rfl hv dL_law_738 ?_
  refine lv_iload hx hb dL_law_739 (lv_at hl 0 rfl) ?_
  refine lv_i2l hx hb dL_law_741 rfl ?_
  refine lv_lcmpE hx hb dL_law_742 ?_
  exact lv_if_eq hx hb dL_law_743 (tgt := 748) (by decide) (fun _ => fin) (fun h => absurd rfl h)
end LCS
