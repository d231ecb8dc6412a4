abbrev rmX2_finishOpen : Room := { frames := 2, cells := 0, slots := 0, locals := 43 }
abbrev wsX2_finishOpen : List Cond := Cond.code yX2_finishOpen cX2_finishOpen 3 none :: lw_good
set_option maxHeartbeats 4000000 in
set_option maxRecDepth 100000 in
theorem bX2_finishOpen_49 {p : Program} {l : Launch} {e : Env} {s : State} {m : MethodId} {args : Array Value} {below : List Frame} {meth : Method} {c : Code} (hC : mw_C p s m args meth c cX2_finishOpen RX2 none lw_good 3) (D : va_G) (G : Nat → ClassId) (N : Nat) {A : Nat → Prop} {z : mw_M} : ∀ (y0 : Nat) (y1 : Int32) (y2 : Int32) (S : mw_M) (H : Heap) (locs : List Loc) (ls : Array Slot), pf_X2_finishOpen_49 G N y0 y1 y2 S = some z → lv_has ls 3 [(0, .ref y0), (1, .int y1), (2, .int y2)] → mw_W D vwCl (mw_tys G) mw_aos A s S H locs → W p l e (headSpec wsX2_finishOpen rmX2_finishOpen).room s m args below meth c H locs 0 0 (MQ below (mw_Qv D vwCl (mw_tys G) mw_aos A z) args s 0 0 A) (F0 m 49 ls []) := by
  obtain ⟨hx, hb, hml, hown, hts, hr, hlocks⟩ := hC
  intro y0 y1 y2 S H locs ls hf hl hw
  unfold pf_X2_finishOpen_49 at hf
  refine lv_aload_n hx hb dX2_finishOpen_49 rfl (lv_at hl 0 rfl) ?_
  obtain ⟨v1, S1, e1, hf⟩ := mw_bb hf
  obtain ⟨ho, e1⟩ := mw_v_s e1
  refine mw_callr (va_runV (As := []) (rest := []) ⟨hx, hb, hml, hown, hts⟩ (cm_X2_open l D G N S y0 (v1, S1) e1) (cwV 0 hts (mw_gV tw_423 tw_371 tw_372 tw_9 tw_373) rfl rfl rfl (by decide +kernel) ⟨Nat.le_of_ble_eq_true rfl, Nat.le_of_ble_eq_true rfl⟩) (mw_preV hw (ci := 2) rfl ho) rfl rfl hl.1 rfl (lv_room (Nat.le_of_ble_eq_true rfl)) dX2_finishOpen_50 ⟨(Nat.le_of_ble_eq_true rfl), (Nat.le_of_ble_eq_true rfl)⟩) hw (fun H locs hw => ?_)
  refine lv_iload_n hx hb dX2_finishOpen_53 rfl (lv_at hl 2 rfl) ?_
  refine lv_iload_n hx hb dX2_finishOpen_54 rfl (lv_at hl 1 rfl) ?_
  obtain ⟨S2, e2, hf⟩ := mw_b hf
  obtain ⟨ho, e2⟩ := mw_v_s e2
  refine mw_callv (va_runV (As := [.int y2, .int y1]) (rest := []) ⟨hx, hb, hml, hown, hts⟩ (cm_X1_openAs l D G N S1 v1 y2 y1 S2 e2) (cwV 2 hts (mw_gV tw_174 tw_175 tw_176 tw_10 tw_177) rfl rfl rfl (by decide +kernel) ⟨Nat.le_of_ble_eq_true rfl, Nat.le_of_ble_eq_true rfl⟩) (mw_preV hw (ci := 1) rfl ho) rfl rfl hl.1 rfl (lv_room (Nat.le_of_ble_eq_true rfl)) dX2_finishOpen_55 ⟨(Nat.le_of_ble_eq_true rfl), (Nat.le_of_ble_eq_true rfl)⟩) hw (fun H locs hw => ?_)
  exact mw_vret hx hb hr hlocks hw hf dX2_finishOpen_58
set_option maxHeartbeats 4000000 in
set_option maxRecDepth 100000 in
theorem bX2_finishOpen_33 {p : Program} {l : Launch} {e : Env} {s : State} {m : MethodId} {args : Array Value} {below : List Frame} {meth : Method} {c : Code} (hC : mw_C p s m args meth c cX2_finishOpen RX2 none lw_good 3) (D : va_G) (G : Nat → ClassId) (N : Nat) {A : Nat → Prop} {z : mw_M} : ∀ (y0 : Nat) (y1 : Int32) (y2 : Int32) (S : mw_M) (H : Heap) (locs : List Loc) (ls : Array Slot), pf_X2_finishOpen_33 G N y0 y1 y2 S = some z → lv_has ls 3 [(0, .ref y0), (1, .int y1), (2, .int y2)] → mw_W D vwCl (mw_tys G) mw_aos A s S H locs → W p l e (headSpec wsX2_finishOpen rmX2_finishOpen).room s m args below meth c H locs 0 0 (MQ below (mw_Qv D vwCl (mw_tys G) mw_aos A z) args s 0 0 A) (F0 m 33 ls []) := by
  obtain ⟨hx, hb, hml, hown, hts, hr, hlocks⟩ := hC
  intro y0 y1 y2 S H locs ls hf hl hw
  unfold pf_X2_finishOpen_33 at hf
  refine lv_aload_n hx hb dX2_finishOpen_33 rfl (lv_at hl 0 rfl) ?_
  obtain ⟨v1, e1, hf⟩ := mw_b hf
  refine mw_geti hx hb hts inX2 hown hw (ci := 2) rfl 1 (by decide) (hts _ tw_183) rfl e1 dX2_finishOpen_34 ?_
  refine lv_aload_n hx hb dX2_finishOpen_37 rfl (lv_at hl 0 rfl) ?_
  obtain ⟨v2, e2, hf⟩ := mw_b hf
  refine mw_getr hx hb hts inX2 hown hw (ci := 2) rfl 0 (by decide) (hts _ tw_182) rfl e2 dX2_finishOpen_38 ?_
  obtain ⟨v3, e3, hf⟩ := mw_b hf
  refine mw_alen hx hb hw 7 rfl e3 dX2_finishOpen_41 ?_
  refine lv_icmp_lt hx hb dX2_finishOpen_42 (tgt := 49) (by decide) (fun hc => ?_) (fun hc => ?_)
  · rw [if_pos hc] at hf
    exact bX2_finishOpen_49 ⟨hx, hb, hml, hown, hts, hr, hlocks⟩ D G N _ _ _ _ _ _ _ hf (lv_sub hl [0, 1, 2] rfl) hw
  · rw [if_neg hc] at hf
    refine lv_aload_n hx hb dX2_finishOpen_45 rfl (lv_at hl 0 rfl) ?_
    obtain ⟨S4, e4, hf⟩ := mw_b hf
    obtain ⟨ho, e4⟩ := mw_v_s e4
    refine mw_callv (va_runV (As := []) (rest := []) ⟨hx, hb, hml, hown, hts⟩ (cm_X2_evictOldest l D G N S y0 S4 e4) (cwV 0 hts (mw_gV tw_430 tw_432 tp_7 tw_9 tw_433) rfl rfl rfl (by decide +kernel) ⟨Nat.le_of_ble_eq_true rfl, Nat.le_of_ble_eq_true rfl⟩) (mw_preV hw (ci := 2) rfl ho) rfl rfl hl.1 rfl (lv_room (Nat.le_of_ble_eq_true rfl)) dX2_finishOpen_46 ⟨(Nat.le_of_ble_eq_true rfl), (Nat.le_of_ble_eq_true rfl)⟩) hw (fun H locs hw => ?_)
    exact bX2_finishOpen_49 ⟨hx, hb, hml, hown, hts, hr, hlocks⟩ D G N _ _ _ _ _ _ _ hf (lv_sub hl [0, 1, 2] rfl) hw
set_option maxHeartbeats 4000000 in
set_option maxRecDepth 100000 in
theorem cm_X2_finishOpen (l : Launch) (D : va_G) (G : Nat → ClassId) (N : Nat) (S : mw_M) (h0 : Nat) (x1 : Int32) (z : mw_M) (hf : pf_X2_finishOpen G N S h0 x1 = some z) : Met l yX2_finishOpen wsX2_finishOpen rmX2_finishOpen (va_Pc [.ref h0, .int x1] (mw_B D vwCl (mw_tys G) mw_aos S)) (mw_Qv D vwCl (mw_tys G) mw_aos (mw_A S) z) 0 0 (mw_A S) := by
  refine Met.ofW (cc := cX2_finishOpen) (maxL := 3) (ret := none) (by decide) rfl ?_
  intro p e s m args below meth c s₁ B hml hv
  obtain ⟨rfl, hB⟩ := hv
  have hw := mw_begin hB
  have hx := B.exec
  have hb := B.bytes
  have hr := B.returns
  have hts : ∀ w ∈ lw_good, w.before _ s = true := fun w h => atoms_spec (ws := wsX2_finishOpen) B.pre w (List.mem_cons_of_mem _ h)
  have hown : s.vm.findClass RX2 = some m.cls := findClass_of_methodNamed B.named
  have hlocks := B.notSynchronized
  have hC : mw_C p s m _ meth c cX2_finishOpen RX2 none lw_good 3 := ⟨hx, hb, hml, hown, hts, hr, hlocks⟩
  have hl := lv_entry ([.ref h0, .int x1]) (n := 3) (Nat.le_of_ble_eq_true rfl)
  rw [lg_entry_eq]
  generalize (lg_sl ([.ref h0, .int x1]) ++ List.replicate (3 - (lg_sl ([.ref h0, .int x1])).length) Slot.unset).toArray = ls at hl ⊢
  have hl : lv_has ls 3 [(0, .ref h0), (1, .int x1)] := hl
  unfold pf_X2_finishOpen at hf
  refine lv_aload_n hx hb dX2_finishOpen_0 rfl (lv_at hl 0 rfl) ?_
  obtain ⟨v1, S1, e1, hf⟩ := mw_bb hf
  obtain ⟨ho, e1⟩ := mw_v_s e1
  refine mw_callr (va_runV (As := []) (rest := []) ⟨hx, hb, hml, hown, hts⟩ (cm_X2_open l D G N S h0 (v1, S1) e1) (cwV 0 hts (mw_gV tw_423 tw_371 tw_372 tw_9 tw_373) rfl rfl rfl (by decide +kernel) ⟨Nat.le_of_ble_eq_true rfl, Nat.le_of_ble_eq_true rfl⟩) (mw_preV hw (ci := 2) rfl ho) rfl rfl hl.1 rfl (lv_room (Nat.le_of_ble_eq_true rfl)) dX2_finishOpen_1 ⟨(Nat.le_of_ble_eq_true rfl), (Nat.le_of_ble_eq_true rfl)⟩) hw (fun H locs hw => ?_)
  obtain ⟨v2, S2, e2, hf⟩ := mw_bb hf
  obtain ⟨ho, e2⟩ := mw_v_s e2
  refine mw_calli (va_runV (As := []) (rest := []) ⟨hx, hb, hml, hown, hts⟩ (cm_X1_number l D G N S1 v1 (v2, S2) e2) (cwV 0 hts (mw_gV tw_424 tw_425 tw_426 tw_10 tw_427) rfl rfl rfl (by decide +kernel) ⟨Nat.le_of_ble_eq_true rfl, Nat.le_of_ble_eq_true rfl⟩) (mw_preV hw (ci := 1) rfl ho) rfl rfl hl.1 rfl (lv_room (Nat.le_of_ble_eq_true rfl)) dX2_finishOpen_4 ⟨(Nat.le_of_ble_eq_true rfl), (Nat.le_of_ble_eq_true rfl)⟩) hw (fun H locs hw => ?_)
  refine lv_iconst (v := 1) hx hb dX2_finishOpen_7 (by decide) ?_
  refine lv_iadd hx hb dX2_finishOpen_8 ?_
  refine lv_istore_n hx hb dX2_finishOpen_9 rfl hl (by decide) rfl (fun ls hl => ?_)
  have hl : lv_has ls 3 [(2, .int (v2 + 1)), (0, .ref h0), (1, .int x1)] := hl
  refine lv_aload_n hx hb dX2_finishOpen_10 rfl (lv_at hl 1 rfl) ?_
  obtain ⟨v3, S3, e3, hf⟩ := mw_bb hf
  obtain ⟨ho, e3⟩ := mw_v_s e3
  refine mw_callr (va_runV (As := []) (rest := []) ⟨hx, hb, hml, hown, hts⟩ (cm_X2_open l D G N S2 h0 (v3, S3) e3) (cwV 0 hts (mw_gV tw_423 tw_371 tw_372 tw_9 tw_373) rfl rfl rfl (by decide +kernel) ⟨Nat.le_of_ble_eq_true rfl, Nat.le_of_ble_eq_true rfl⟩) (mw_preV hw (ci := 2) rfl ho) rfl rfl hl.1 rfl (lv_room (Nat.le_of_ble_eq_true rfl)) dX2_finishOpen_11 ⟨(Nat.le_of_ble_eq_true rfl), (Nat.le_of_ble_eq_true rfl)⟩) hw (fun H locs hw => ?_)
  obtain ⟨v4, S4, e4, hf⟩ := mw_bb hf
  obtain ⟨ho, e4⟩ := mw_v_s e4
  refine mw_callr (va_runV (As := []) (rest := []) ⟨hx, hb, hml, hown, hts⟩ (cm_X1_body l D G N S3 v3 (v4, S4) e4) (cwV 0 hts (mw_gV tw_428 tw_395 tw_396 tw_10 tw_397) rfl rfl rfl (by decide +kernel) ⟨Nat.le_of_ble_eq_true rfl, Nat.le_of_ble_eq_true rfl⟩) (mw_preV hw (ci := 1) rfl ho) rfl rfl hl.1 rfl (lv_room (Nat.le_of_ble_eq_true rfl)) dX2_finishOpen_14 ⟨(Nat.le_of_ble_eq_true rfl), (Nat.le_of_ble_eq_true rfl)⟩) hw (fun H locs hw => ?_)
  obtain ⟨v5, S5, e5, hf⟩ := mw_bb hf
  obtain ⟨ho, e5⟩ := mw_v_s e5
  refine mw_calli (va_runV (As := []) (rest := []) ⟨hx, hb, hml, hown, hts⟩ (cm_X0_length l D G N S4 v4 (v5, S5) e5) (cwV 0 hts (mw_gV tw_429 tw_344 tw_345 tw_6 tw_346) rfl rfl rfl (by decide +kernel) ⟨Nat.le_of_ble_eq_true rfl, Nat.le_of_ble_eq_true rfl⟩) (mw_preV hw (ci := 0) rfl ho) rfl rfl hl.1 rfl (lv_room (Nat.le_of_ble_eq_true rfl)) dX2_finishOpen_17 ⟨(Nat.le_of_ble_eq_true rfl), (Nat.le_of_ble_eq_true rfl)⟩) hw (fun H locs hw => ?_)
  refine lv_if_le hx hb dX2_finishOpen_20 (tgt := 33) (by decide) (fun hc => ?_) (fun hc => ?_)
  · rw [if_pos hc] at hf
    exact bX2_finishOpen_33 ⟨hx, hb, hml, hown, hts, hr, hlocks⟩ D G N _ _ _ _ _ _ _ hf (lv_sub hl [1, 2, 0] rfl) hw
  · rw [if_neg hc] at hf
    refine lv_aload_n hx hb dX2_finishOpen_23 rfl (lv_at hl 1 rfl) ?_
    refine lv_dup hx hb dX2_finishOpen_24 rfl ?_
    obtain ⟨v6, e6, hf⟩ := mw_b hf
    refine mw_geti hx hb hts inX2 hown hw (ci := 2) rfl 1 (by decide) (hts _ tw_183) rfl e6 dX2_finishOpen_25 ?_
    refine lv_iconst (v := 1) hx hb dX2_finishOpen_28 (by decide) ?_
    refine lv_iadd hx hb dX2_finishOpen_29 ?_
    obtain ⟨S7, e7, hf⟩ := mw_b hf
    refine mw_put hx hb hts inX2 tyX2 tyX2_ok nX2 hown hw (ci := 2) rfl 1 (by decide) (hts _ tw_183) rfl rfl (ty := .int) (by decide +kernel) rfl rfl e7 dX2_finishOpen_30 (fun H locs hw => ?_)
    exact bX2_finishOpen_33 ⟨hx, hb, hml, hown, hts, hr, hlocks⟩ D G N _ _ _ _ _ _ _ hf (lv_sub hl [1, 2, 0] rfl) hw
abbrev rmX8_rotate : Room := { frames := 4, cells := 0, slots := 0, locals := 86 }
abbrev wsX8_rotate : List Cond := Cond.code yX8_rotate cX8_rotate 4 none :: lw_good
set_option maxHeartbeats 4000000 in
set_option maxRecDepth 100000 in
theorem bX8_rotate_64 {p : Program} {l : Launch} {e : Env} {s : State} {m : MethodId} {args : Array Value} {below : List Frame} {meth : Method} {c : Code} (hC : mw_C p s m args meth c cX8_rotate RX8 none lw_good 4) (D : va_G) (G : Nat → ClassId) (N : Nat) {A : Nat → Prop} {z : mw_M} : ∀ (n : Nat) (y0 : Nat) (y1 : Nat) (y2 : Int32) (S : mw_M) (H : Heap) (locs : List Loc) (ls : Array Slot), pf_X8_rotate_64 G N n y0 y1 y2 S = some z → lv_has ls 4 [(0, .ref y0), (1, .ref y1), (2, .int y2)] → mw_W D vwCl (mw_tys G) mw_aos A s S H locs → W p l e (headSpec wsX8_rotate rmX8_rotate).room s m args below meth c H locs 0 0 (MQ below (mw_Qv D vwCl (mw_tys G) mw_aos A z) args s 0 0 A) (F0 m 64 ls []) := by
  obtain ⟨hx, hb, hml, hown, hts, hr, hlocks⟩ := hC
  intro n
  induction n with
  | zero => intro y0 y1 y2 S H locs ls hf; rw [pf_X8_rotate_64] at hf; cases hf
  | succ n ih =>
    intro y0 y1 y2 S H locs ls hf hl hw
    rw [pf_X8_rotate_64] at hf
    refine lv_iload_n hx hb dX8_rotate_64 rfl (lv_at hl 2 rfl) ?_
    refine lv_iconst (v := 3) hx hb dX8_rotate_65 (by decide) ?_
    refine lv_icmp_ge hx hb dX8_rotate_66 (tgt := 95) (by decide) (fun hc => ?_) (fun hc => ?_)
    · rw [if_pos hc] at hf
      refine lv_aload_n hx hb dX8_rotate_95 rfl (lv_at hl 0 rfl) ?_
      obtain ⟨v1, e1, hf⟩ := mw_b hf
      refine mw_getr hx hb hts inX8 hown hw (ci := 8) rfl 10 (by decide) (hts _ tw_204) rfl e1 dX8_rotate_96 ?_
      refine lv_aload_n hx hb dX8_rotate_99 rfl (lv_at hl 0 rfl) ?_
      obtain ⟨v2, e2, hf⟩ := mw_b hf
      refine mw_geti hx hb hts inX8 hown hw (ci := 8) rfl 13 (by decide) (hts _ tw_207) rfl e2 dX8_rotate_100 ?_
      obtain ⟨S3, e3, hf⟩ := mw_b hf
      obtain ⟨ho, e3⟩ := mw_v_s e3
      refine mw_callv (va_runV (As := [.int v2]) (rest := []) ⟨hx, hb, hml, hown, hts⟩ (cm_X2_finishOpen l D G N S v1 v2 S3 e3) (cwV 1 hts (mw_gV tw_419 tw_420 tw_421 tw_9 tw_422) rfl rfl rfl (by decide +kernel) ⟨Nat.le_of_ble_eq_true rfl, Nat.le_of_ble_eq_true rfl⟩) (mw_preV hw (ci := 2) rfl ho) rfl rfl hl.1 rfl (lv_room (Nat.le_of_ble_eq_true rfl)) dX8_rotate_103 ⟨(Nat.le_of_ble_eq_true rfl), (Nat.le_of_ble_eq_true rfl)⟩) hw (fun H locs hw => ?_)
      exact mw_vret hx hb hr hlocks hw hf dX8_rotate_106
    · rw [if_neg hc] at hf
      refine lv_aload_n hx hb dX8_rotate_69 rfl (lv_at hl 0 rfl) ?_
      obtain ⟨v4, e4, hf⟩ := mw_b hf
      refine mw_getr hx hb hts inX8 hown hw (ci := 8) rfl 3 (by decide) (hts _ tw_197) rfl e4 dX8_rotate_70 ?_
      refine lv_iload_n hx hb dX8_rotate_73 rfl (lv_at hl 2 rfl) ?_
      obtain ⟨v5, e5, hf⟩ := mw_b hf
      refine mw_aald hx hb hw 4 rfl e5 dX8_rotate_74 ?_
      obtain ⟨v6, S6, e6, hf⟩ := mw_bb hf
      obtain ⟨ho, e6⟩ := mw_v_s e6
      refine mw_calli (va_runV (As := []) (rest := []) ⟨hx, hb, hml, hown, hts⟩ (cm_X3_takeLostInChunk l D G N S v5 (v6, S6) e6) (cwV 0 hts (mw_gV tw_408 tw_409 tw_410 tw_5 tw_411) rfl rfl rfl (by decide +kernel) ⟨Nat.le_of_ble_eq_true rfl, Nat.le_of_ble_eq_true rfl⟩) (mw_preV hw (ci := 3) rfl ho) rfl rfl hl.1 rfl (lv_room (Nat.le_of_ble_eq_true rfl)) dX8_rotate_75 ⟨(Nat.le_of_ble_eq_true rfl), (Nat.le_of_ble_eq_true rfl)⟩) hw (fun H locs hw => ?_)
      refine lv_istore_n hx hb dX8_rotate_78 rfl hl (by decide) rfl (fun ls hl => ?_)
      have hl : lv_has ls 4 [(3, .int v6), (0, .ref y0), (1, .ref y1), (2, .int y2)] := hl
      refine lv_iload_n hx hb dX8_rotate_79 rfl (lv_at hl 0 rfl) ?_
      refine lv_if_le hx hb dX8_rotate_80 (tgt := 89) (by decide) (fun hc => ?_) (fun hc => ?_)
      · rw [if_pos hc] at hf
        refine lv_iinc (k := 3) (v := (y2 + 1)) hx hb dX8_rotate_89 hl rfl (congrArg (fun q => y2 + q) (show Int32.ofInt 1 = 1 by decide)) (by decide) rfl (fun ls hl => ?_)
        have hl : lv_has ls 4 [(2, .int (y2 + 1)), (3, .int v6), (0, .ref y0), (1, .ref y1)] := hl
        refine lv_goto hx hb dX8_rotate_92 (tgt := 64) (by decide) ?_
        exact ih _ _ _ _ _ _ _ hf (lv_sub hl [2, 3, 0] rfl) hw
      · rw [if_neg hc] at hf
        refine lv_aload_n hx hb dX8_rotate_83 rfl (lv_at hl 2 rfl) ?_
        refine lv_iload_n hx hb dX8_rotate_84 rfl (lv_at hl 3 rfl) ?_
        refine lv_iload_n hx hb dX8_rotate_85 rfl (lv_at hl 0 rfl) ?_
        obtain ⟨S7, e7, hf⟩ := mw_b hf
        obtain ⟨ho, e7⟩ := mw_v_s e7
        refine mw_callv (va_runV (As := [.int y2, .int v6]) (rest := []) ⟨hx, hb, hml, hown, hts⟩ (cm_X1_addLoss l D G N S6 y1 y2 v6 S7 e7) (cwV 2 hts (mw_gV tw_412 tw_413 tw_414 tw_10 tw_415) rfl rfl rfl (by decide +kernel) ⟨Nat.le_of_ble_eq_true rfl, Nat.le_of_ble_eq_true rfl⟩) (mw_preV hw (ci := 1) rfl ho) rfl rfl hl.1 rfl (lv_room (Nat.le_of_ble_eq_true rfl)) dX8_rotate_86 ⟨(Nat.le_of_ble_eq_true rfl), (Nat.le_of_ble_eq_true rfl)⟩) hw (fun H locs hw => ?_)
        refine lv_iinc (k := 3) (v := (y2 + 1)) hx hb dX8_rotate_89 hl rfl (congrArg (fun q => y2 + q) (show Int32.ofInt 1 = 1 by decide)) (by decide) rfl (fun ls hl => ?_)
        have hl : lv_has ls 4 [(2, .int (y2 + 1)), (3, .int v6), (0, .ref y0), (1, .ref y1)] := hl
        refine lv_goto hx hb dX8_rotate_92 (tgt := 64) (by decide) ?_
        exact ih _ _ _ _ _ _ _ hf (lv_sub hl [2, 3, 0] rfl) hw
set_option maxHeartbeats 4000000 in
set_option maxRecDepth 100000 in
theorem bX8_rotate_35 {p : Program} {l : Launch} {e : Env} {s : State} {m : MethodId} {args : Array Value} {below : List Frame} {meth : Method} {c : Code} (hC : mw_C p s m args meth c cX8_rotate RX8 none lw_good 4) (D : va_G) (G : Nat → ClassId) (N : Nat) {A : Nat → Prop} {z : mw_M} : ∀ (n : Nat) (y0 : Nat) (y1 : Nat) (y2 : Int32) (S : mw_M) (H : Heap) (locs : List Loc) (ls : Array Slot), pf_X8_rotate_35 G N n y0 y1 y2 S = some z → lv_has ls 4 [(0, .ref y0), (1, .ref y1), (2, .int y2)] → mw_W D vwCl (mw_tys G) mw_aos A s S H locs → W p l e (headSpec wsX8_rotate rmX8_rotate).room s m args below meth c H locs 0 0 (MQ below (mw_Qv D vwCl (mw_tys G) mw_aos A z) args s 0 0 A) (F0 m 35 ls []) := by
  obtain ⟨hx, hb, hml, hown, hts, hr, hlocks⟩ := hC
  intro n
  induction n with
  | zero => intro y0 y1 y2 S H locs ls hf; rw [pf_X8_rotate_35] at hf; cases hf
  | succ n ih =>
    intro y0 y1 y2 S H locs ls hf hl hw
    rw [pf_X8_rotate_35] at hf
    refine lv_iload_n hx hb dX8_rotate_35 rfl (lv_at hl 2 rfl) ?_
    refine lv_iconst (v := 3) hx hb dX8_rotate_36 (by decide) ?_
    refine lv_icmp_ge hx hb dX8_rotate_37 (tgt := 62) (by decide) (fun hc => ?_) (fun hc => ?_)
    · rw [if_pos hc] at hf
      refine lv_iconst (v := 0) hx hb dX8_rotate_62 (by decide) ?_
      refine lv_istore_n hx hb dX8_rotate_63 rfl hl (by decide) rfl (fun ls hl => ?_)
      have hl : lv_has ls 4 [(2, .int 0), (0, .ref y0), (1, .ref y1)] := hl
      exact bX8_rotate_64 ⟨hx, hb, hml, hown, hts, hr, hlocks⟩ D G N N _ _ _ _ _ _ _ hf (lv_sub hl [1, 2, 0] rfl) hw
    · rw [if_neg hc] at hf
      refine lv_aload_n hx hb dX8_rotate_40 rfl (lv_at hl 0 rfl) ?_
      obtain ⟨v1, e1, hf⟩ := mw_b hf
      refine mw_getr hx hb hts inX8 hown hw (ci := 8) rfl 3 (by decide) (hts _ tw_197) rfl e1 dX8_rotate_41 ?_
      refine lv_iload_n hx hb dX8_rotate_44 rfl (lv_at hl 2 rfl) ?_
      obtain ⟨v2, e2, hf⟩ := mw_b hf
      refine mw_aald hx hb hw 4 rfl e2 dX8_rotate_45 ?_
      obtain ⟨v3, S3, e3, hf⟩ := mw_bb hf
      obtain ⟨ho, e3⟩ := mw_v_s e3
      refine mw_callr (va_runV (As := []) (rest := []) ⟨hx, hb, hml, hown, hts⟩ (cm_X3_buffer l D G N S v2 (v3, S3) e3) (cwV 0 hts (mw_gV tw_335 tw_336 tw_337 tw_5 tw_338) rfl rfl rfl (by decide +kernel) ⟨Nat.le_of_ble_eq_true rfl, Nat.le_of_ble_eq_true rfl⟩) (mw_preV hw (ci := 3) rfl ho) rfl rfl hl.1 rfl (lv_room (Nat.le_of_ble_eq_true rfl)) dX8_rotate_46 ⟨(Nat.le_of_ble_eq_true rfl), (Nat.le_of_ble_eq_true rfl)⟩) hw (fun H locs hw => ?_)
      refine lv_aload_n hx hb dX8_rotate_49 rfl (lv_at hl 1 rfl) ?_
      obtain ⟨v4, S4, e4, hf⟩ := mw_bb hf
      obtain ⟨ho, e4⟩ := mw_v_s e4
      refine mw_callr (va_runV (As := []) (rest := [.ref v3]) ⟨hx, hb, hml, hown, hts⟩ (cm_X1_body l D G N S3 y1 (v4, S4) e4) (cwV 0 hts (mw_gV tw_394 tw_395 tw_396 tw_10 tw_397) rfl rfl rfl (by decide +kernel) ⟨Nat.le_of_ble_eq_true rfl, Nat.le_of_ble_eq_true rfl⟩) (mw_preV hw (ci := 1) rfl ho) rfl rfl hl.1 rfl (lv_room (Nat.le_of_ble_eq_true rfl)) dX8_rotate_50 ⟨(Nat.le_of_ble_eq_true rfl), (Nat.le_of_ble_eq_true rfl)⟩) hw (fun H locs hw => ?_)
      obtain ⟨S5, e5, hf⟩ := mw_b hf
      obtain ⟨ho, e5⟩ := mw_v_s e5
      refine mw_callv (va_runV (As := [.ref v4]) (rest := []) ⟨hx, hb, hml, hown, hts⟩ (cm_X0_moveTo l D G N S4 v3 v4 S5 e5) (cwV 1 hts (mw_gV tw_407 tw_357 tw_358 tw_6 tw_359) rfl rfl rfl (by decide +kernel) ⟨Nat.le_of_ble_eq_true rfl, Nat.le_of_ble_eq_true rfl⟩) (mw_preV hw (ci := 0) rfl ho) rfl rfl hl.1 rfl (lv_room (Nat.le_of_ble_eq_true rfl)) dX8_rotate_53 ⟨(Nat.le_of_ble_eq_true rfl), (Nat.le_of_ble_eq_true rfl)⟩) hw (fun H locs hw => ?_)
      refine lv_iinc (k := 2) (v := (y2 + 1)) hx hb dX8_rotate_56 hl rfl (congrArg (fun q => y2 + q) (show Int32.ofInt 1 = 1 by decide)) (by decide) rfl (fun ls hl => ?_)
      have hl : lv_has ls 4 [(2, .int (y2 + 1)), (0, .ref y0), (1, .ref y1)] := hl
      refine lv_goto hx hb dX8_rotate_59 (tgt := 35) (by decide) ?_
      exact ih _ _ _ _ _ _ _ hf (lv_sub hl [1, 2, 0] rfl) hw
set_option maxHeartbeats 4000000 in
set_option maxRecDepth 100000 in
theorem bX8_rotate_10 {p : Program} {l : Launch} {e : Env} {s : State} {m : MethodId} {args : Array Value} {below : List Frame} {meth : Method} {c : Code} (hC : mw_C p s m args meth c cX8_rotate RX8 none lw_good 4) (D : va_G) (G : Nat → ClassId) (N : Nat) {A : Nat → Prop} {z : mw_M} : ∀ (n : Nat) (y0 : Nat) (y1 : Nat) (y2 : Int32) (S : mw_M) (H : Heap) (locs : List Loc) (ls : Array Slot), pf_X8_rotate_10 G N n y0 y1 y2 S = some z → lv_has ls 4 [(0, .ref y0), (1, .ref y1), (2, .int y2)] → mw_W D vwCl (mw_tys G) mw_aos A s S H locs → W p l e (headSpec wsX8_rotate rmX8_rotate).room s m args below meth c H locs 0 0 (MQ below (mw_Qv D vwCl (mw_tys G) mw_aos A z) args s 0 0 A) (F0 m 10 ls []) := by
  obtain ⟨hx, hb, hml, hown, hts, hr, hlocks⟩ := hC
  intro n
  induction n with
  | zero => intro y0 y1 y2 S H locs ls hf; rw [pf_X8_rotate_10] at hf; cases hf
  | succ n ih =>
    intro y0 y1 y2 S H locs ls hf hl hw
    rw [pf_X8_rotate_10] at hf
    refine lv_iload_n hx hb dX8_rotate_10 rfl (lv_at hl 2 rfl) ?_
    refine lv_iconst (v := 4) hx hb dX8_rotate_11 (by decide) ?_
    refine lv_icmp_ge hx hb dX8_rotate_12 (tgt := 33) (by decide) (fun hc => ?_) (fun hc => ?_)
    · rw [if_pos hc] at hf
      refine lv_iconst (v := 0) hx hb dX8_rotate_33 (by decide) ?_
      refine lv_istore_n hx hb dX8_rotate_34 rfl hl (by decide) rfl (fun ls hl => ?_)
      have hl : lv_has ls 4 [(2, .int 0), (0, .ref y0), (1, .ref y1)] := hl
      exact bX8_rotate_35 ⟨hx, hb, hml, hown, hts, hr, hlocks⟩ D G N N _ _ _ _ _ _ _ hf (lv_sub hl [1, 2, 0] rfl) hw
    · rw [if_neg hc] at hf
      refine lv_aload_n hx hb dX8_rotate_15 rfl (lv_at hl 0 rfl) ?_
      obtain ⟨v1, e1, hf⟩ := mw_b hf
      refine mw_getr hx hb hts inX8 hown hw (ci := 8) rfl 9 (by decide) (hts _ tw_203) rfl e1 dX8_rotate_16 ?_
      refine lv_aload_n hx hb dX8_rotate_19 rfl (lv_at hl 1 rfl) ?_
      obtain ⟨v2, S2, e2, hf⟩ := mw_bb hf
      obtain ⟨ho, e2⟩ := mw_v_s e2
      refine mw_callr (va_runV (As := []) (rest := [.ref v1]) ⟨hx, hb, hml, hown, hts⟩ (cm_X1_body l D G N S y1 (v2, S2) e2) (cwV 0 hts (mw_gV tw_394 tw_395 tw_396 tw_10 tw_397) rfl rfl rfl (by decide +kernel) ⟨Nat.le_of_ble_eq_true rfl, Nat.le_of_ble_eq_true rfl⟩) (mw_preV hw (ci := 1) rfl ho) rfl rfl hl.1 rfl (lv_room (Nat.le_of_ble_eq_true rfl)) dX8_rotate_20 ⟨(Nat.le_of_ble_eq_true rfl), (Nat.le_of_ble_eq_true rfl)⟩) hw (fun H locs hw => ?_)
      obtain ⟨v3, S3, e3, hf⟩ := mw_bb hf
      obtain ⟨ho, e3⟩ := mw_v_s e3
      refine mw_calli (va_runV (As := [.ref v2]) (rest := []) ⟨hx, hb, hml, hown, hts⟩ (cm_X4_moveFirstTo l D G N S2 v1 v2 (v3, S3) e3) (cwV 1 hts (mw_gV tw_398 tw_399 tw_400 tw_8 tw_401) rfl rfl rfl (by decide +kernel) ⟨Nat.le_of_ble_eq_true rfl, Nat.le_of_ble_eq_true rfl⟩) (mw_preV hw (ci := 4) rfl ho) rfl rfl hl.1 rfl (lv_room (Nat.le_of_ble_eq_true rfl)) dX8_rotate_23 ⟨(Nat.le_of_ble_eq_true rfl), (Nat.le_of_ble_eq_true rfl)⟩) hw (fun H locs hw => ?_)
      refine lv_pop hx hb dX8_rotate_26 rfl ?_
      refine lv_iinc (k := 2) (v := (y2 + 1)) hx hb dX8_rotate_27 hl rfl (congrArg (fun q => y2 + q) (show Int32.ofInt 1 = 1 by decide)) (by decide) rfl (fun ls hl => ?_)
      have hl : lv_has ls 4 [(2, .int (y2 + 1)), (0, .ref y0), (1, .ref y1)] := hl
      refine lv_goto hx hb dX8_rotate_30 (tgt := 10) (by decide) ?_
      exact ih _ _ _ _ _ _ _ hf (lv_sub hl [1, 2, 0] rfl) hw
set_option maxHeartbeats 4000000 in
set_option maxRecDepth 100000 in
theorem cm_X8_rotate (l : Launch) (D : va_G) (G : Nat → ClassId) (N : Nat) (S : mw_M) (h0 : Nat) (z : mw_M) (hf : pf_X8_rotate G N S h0 = some z) : Met l yX8_rotate wsX8_rotate rmX8_rotate (va_Pc [.ref h0] (mw_B D vwCl (mw_tys G) mw_aos S)) (mw_Qv D vwCl (mw_tys G) mw_aos (mw_A S) z) 0 0 (mw_A S) := by
  refine Met.ofW (cc := cX8_rotate) (maxL := 4) (ret := none) (by decide) rfl ?_
  intro p e s m args below meth c s₁ B hml hv
  obtain ⟨rfl, hB⟩ := hv
  have hw := mw_begin hB
  have hx := B.exec
  have hb := B.bytes
  have hr := B.returns
  have hts : ∀ w ∈ lw_good, w.before _ s = true := fun w h => atoms_spec (ws := wsX8_rotate) B.pre w (List.mem_cons_of_mem _ h)
  have hown : s.vm.findClass RX8 = some m.cls := findClass_of_methodNamed B.named
  have hlocks := B.notSynchronized
  have hC : mw_C p s m _ meth c cX8_rotate RX8 none lw_good 4 := ⟨hx, hb, hml, hown, hts, hr, hlocks⟩
  have hl := lv_entry ([.ref h0]) (n := 4) (Nat.le_of_ble_eq_true rfl)
  rw [lg_entry_eq]
  generalize (lg_sl ([.ref h0]) ++ List.replicate (4 - (lg_sl ([.ref h0])).length) Slot.unset).toArray = ls at hl ⊢
  have hl : lv_has ls 4 [(0, .ref h0)] := hl
  unfold pf_X8_rotate at hf
  refine lv_aload_n hx hb dX8_rotate_0 rfl (lv_at hl 0 rfl) ?_
  obtain ⟨v1, e1, hf⟩ := mw_b hf
  refine mw_getr hx hb hts inX8 hown hw (ci := 8) rfl 10 (by decide) (hts _ tw_204) rfl e1 dX8_rotate_1 ?_
  obtain ⟨v2, S2, e2, hf⟩ := mw_bb hf
  obtain ⟨ho, e2⟩ := mw_v_s e2
  refine mw_callr (va_runV (As := []) (rest := []) ⟨hx, hb, hml, hown, hts⟩ (cm_X2_open l D G N S v1 (v2, S2) e2) (cwV 0 hts (mw_gV tw_370 tw_371 tw_372 tw_9 tw_373) rfl rfl rfl (by decide +kernel) ⟨Nat.le_of_ble_eq_true rfl, Nat.le_of_ble_eq_true rfl⟩) (mw_preV hw (ci := 2) rfl ho) rfl rfl hl.1 rfl (lv_room (Nat.le_of_ble_eq_true rfl)) dX8_rotate_4 ⟨(Nat.le_of_ble_eq_true rfl), (Nat.le_of_ble_eq_true rfl)⟩) hw (fun H locs hw => ?_)
  refine lv_astore_n hx hb dX8_rotate_7 rfl hl (by decide) rfl (fun ls hl => ?_)
  have hl : lv_has ls 4 [(1, .ref v2), (0, .ref h0)] := hl
  refine lv_iconst (v := 0) hx hb dX8_rotate_8 (by decide) ?_
  refine lv_istore_n hx hb dX8_rotate_9 rfl hl (by decide) rfl (fun ls hl => ?_)
  have hl : lv_has ls 4 [(2, .int 0), (1, .ref v2), (0, .ref h0)] := hl
  exact bX8_rotate_10 ⟨hx, hb, hml, hown, hts, hr, hlocks⟩ D G N N _ _ _ _ _ _ _ hf (lv_sub hl [2, 1, 0] rfl) hw
abbrev rmX8_flush : Room := { frames := 5, cells := 0, slots := 0, locals := 109 }
abbrev wsX8_flush : List Cond := Cond.code yX8_flush cX8_flush 3 (some .int) :: lw_good
set_option maxHeartbeats 4000000 in
set_option maxRecDepth 100000 in
theorem cm_X8_flush (l : Launch) (D : va_G) (G : Nat → ClassId) (N : Nat) (S : mw_M) (h0 : Nat) (z : Int32 × mw_M) (hf : pf_X8_flush G N S h0 = some z) : Met l yX8_flush wsX8_flush rmX8_flush (va_Pc [.ref h0] (mw_B D vwCl (mw_tys G) mw_aos S)) (mw_Qi D vwCl (mw_tys G) mw_aos (mw_A S) z) 0 0 (mw_A S) := by
  refine Met.ofW (cc := cX8_flush) (maxL := 3) (ret := (some .int)) (by decide) rfl ?_
  intro p e s m args below meth c s₁ B hml hv
  obtain ⟨rfl, hB⟩ := hv
  have hw := mw_begin hB
  have hx := B.exec
  have hb := B.bytes
  have hr := B.returns
  have hts : ∀ w ∈ lw_good, w.before _ s = true := fun w h => atoms_spec (ws := wsX8_flush) B.pre w (List.mem_cons_of_mem _ h)
  have hown : s.vm.findClass RX8 = some m.cls := findClass_of_methodNamed B.named
  have hlocks := B.notSynchronized
  have hC : mw_C p s m _ meth c cX8_flush RX8 (some .int) lw_good 3 := ⟨hx, hb, hml, hown, hts, hr, hlocks⟩
  have hl := lv_entry ([.ref h0]) (n := 3) (Nat.le_of_ble_eq_true rfl)
  rw [lg_entry_eq]
  generalize (lg_sl ([.ref h0]) ++ List.replicate (3 - (lg_sl ([.ref h0])).length) Slot.unset).toArray = ls at hl ⊢
  have hl : lv_has ls 3 [(0, .ref h0)] := hl
  unfold pf_X8_flush at hf
  refine lv_aload_n hx hb dX8_flush_0 rfl (lv_at hl 0 rfl) ?_
  obtain ⟨v1, e1, hf⟩ := mw_b hf
  refine mw_getr hx hb hts inX8 hown hw (ci := 8) rfl 10 (by decide) (hts _ tw_204) rfl e1 dX8_flush_1 ?_
  obtain ⟨v2, S2, e2, hf⟩ := mw_bb hf
  obtain ⟨ho, e2⟩ := mw_v_s e2
  refine mw_callr (va_runV (As := []) (rest := []) ⟨hx, hb, hml, hown, hts⟩ (cm_X2_open l D G N S v1 (v2, S2) e2) (cwV 0 hts (mw_gV tw_370 tw_371 tw_372 tw_9 tw_373) rfl rfl rfl (by decide +kernel) ⟨Nat.le_of_ble_eq_true rfl, Nat.le_of_ble_eq_true rfl⟩) (mw_preV hw (ci := 2) rfl ho) rfl rfl hl.1 rfl (lv_room (Nat.le_of_ble_eq_true rfl)) dX8_flush_4 ⟨(Nat.le_of_ble_eq_true rfl), (Nat.le_of_ble_eq_true rfl)⟩) hw (fun H locs hw => ?_)
  refine lv_astore_n hx hb dX8_flush_7 rfl hl (by decide) rfl (fun ls hl => ?_)
  have hl : lv_has ls 3 [(1, .ref v2), (0, .ref h0)] := hl
  refine lv_aload_n hx hb dX8_flush_8 rfl (lv_at hl 1 rfl) ?_
  obtain ⟨v3, e3, hf⟩ := mw_b hf
  refine mw_getr hx hb hts inX8 hown hw (ci := 8) rfl 9 (by decide) (hts _ tw_203) rfl e3 dX8_flush_9 ?_
  refine lv_aload_n hx hb dX8_flush_12 rfl (lv_at hl 0 rfl) ?_
  obtain ⟨v4, S4, e4, hf⟩ := mw_bb hf
  obtain ⟨ho, e4⟩ := mw_v_s e4
  refine mw_callr (va_runV (As := []) (rest := [.ref v3]) ⟨hx, hb, hml, hown, hts⟩ (cm_X1_body l D G N S2 v2 (v4, S4) e4) (cwV 0 hts (mw_gV tw_394 tw_395 tw_396 tw_10 tw_397) rfl rfl rfl (by decide +kernel) ⟨Nat.le_of_ble_eq_true rfl, Nat.le_of_ble_eq_true rfl⟩) (mw_preV hw (ci := 1) rfl ho) rfl rfl hl.1 rfl (lv_room (Nat.le_of_ble_eq_true rfl)) dX8_flush_13 ⟨(Nat.le_of_ble_eq_true rfl), (Nat.le_of_ble_eq_true rfl)⟩) hw (fun H locs hw => ?_)
  obtain ⟨v5, S5, e5, hf⟩ := mw_bb hf
  obtain ⟨ho, e5⟩ := mw_v_s e5
  refine mw_calli (va_runV (As := [.ref v4]) (rest := []) ⟨hx, hb, hml, hown, hts⟩ (cm_X4_moveFirstTo l D G N S4 v3 v4 (v5, S5) e5) (cwV 1 hts (mw_gV tw_398 tw_399 tw_400 tw_8 tw_401) rfl rfl rfl (by decide +kernel) ⟨Nat.le_of_ble_eq_true rfl, Nat.le_of_ble_eq_true rfl⟩) (mw_preV hw (ci := 4) rfl ho) rfl rfl hl.1 rfl (lv_room (Nat.le_of_ble_eq_true rfl)) dX8_flush_16 ⟨(Nat.le_of_ble_eq_true rfl), (Nat.le_of_ble_eq_true rfl)⟩) hw (fun H locs hw => ?_)
  refine lv_istore_n hx hb dX8_flush_19 rfl hl (by decide) rfl (fun ls hl => ?_)
  have hl : lv_has ls 3 [(2, .int v5), (1, .ref v2), (0, .ref h0)] := hl
  refine lv_aload_n hx hb dX8_flush_20 rfl (lv_at hl 1 rfl) ?_
  obtain ⟨v6, S6, e6, hf⟩ := mw_bb hf
  obtain ⟨ho, e6⟩ := mw_v_s e6
  refine mw_callr (va_runV (As := []) (rest := []) ⟨hx, hb, hml, hown, hts⟩ (cm_X1_body l D G N S5 v2 (v6, S6) e6) (cwV 0 hts (mw_gV tw_394 tw_395 tw_396 tw_10 tw_397) rfl rfl rfl (by decide +kernel) ⟨Nat.le_of_ble_eq_true rfl, Nat.le_of_ble_eq_true rfl⟩) (mw_preV hw (ci := 1) rfl ho) rfl rfl hl.1 rfl (lv_room (Nat.le_of_ble_eq_true rfl)) dX8_flush_21 ⟨(Nat.le_of_ble_eq_true rfl), (Nat.le_of_ble_eq_true rfl)⟩) hw (fun H locs hw => ?_)
  obtain ⟨v7, S7, e7, hf⟩ := mw_bb hf
  obtain ⟨ho, e7⟩ := mw_v_s e7
  refine mw_calli (va_runV (As := []) (rest := []) ⟨hx, hb, hml, hown, hts⟩ (cm_X0_length l D G N S6 v6 (v7, S7) e7) (cwV 0 hts (mw_gV tw_343 tw_344 tw_345 tw_6 tw_346) rfl rfl rfl (by decide +kernel) ⟨Nat.le_of_ble_eq_true rfl, Nat.le_of_ble_eq_true rfl⟩) (mw_preV hw (ci := 0) rfl ho) rfl rfl hl.1 rfl (lv_room (Nat.le_of_ble_eq_true rfl)) dX8_flush_24 ⟨(Nat.le_of_ble_eq_true rfl), (Nat.le_of_ble_eq_true rfl)⟩) hw (fun H locs hw => ?_)
  refine lv_sipush (v := 150) hx hb dX8_flush_27 (by decide) ?_
  refine lv_icmp_le hx hb dX8_flush_30 (tgt := 37) (by decide) (fun hc => ?_) (fun hc => ?_)
  · rw [if_pos hc] at hf
    refine lv_iload_n hx hb dX8_flush_37 rfl (lv_at hl 0 rfl) ?_
    exact mw_iret hx hb hr hlocks hw hf dX8_flush_38
  · rw [if_neg hc] at hf
    refine lv_aload_n hx hb dX8_flush_33 rfl (lv_at hl 2 rfl) ?_
    obtain ⟨S8, e8, hf⟩ := mw_b hf
    obtain ⟨ho, e8⟩ := mw_v_s e8
    refine mw_callv (va_runV (As := []) (rest := []) ⟨hx, hb, hml, hown, hts⟩ (cm_X8_rotate l D G N S7 h0 S8 e8) (cwV 0 hts (mw_gV tw_403 tw_405 tp_6 tw_1 tw_406) rfl rfl rfl (by decide +kernel) ⟨Nat.le_of_ble_eq_true rfl, Nat.le_of_ble_eq_true rfl⟩) (mw_preV hw (ci := 8) rfl ho) rfl rfl hl.1 rfl (lv_room (Nat.le_of_ble_eq_true rfl)) dX8_flush_34 ⟨(Nat.le_of_ble_eq_true rfl), (Nat.le_of_ble_eq_true rfl)⟩) hw (fun H locs hw => ?_)
    refine lv_iload_n hx hb dX8_flush_37 rfl (lv_at hl 0 rfl) ?_
    exact mw_iret hx hb hr hlocks hw hf dX8_flush_38
abbrev rmX7_digitAt : Room := { frames := 1, cells := 0, slots := 0, locals := 21 }
abbrev wsX7_digitAt : List Cond := Cond.code yX7_digitAt cX7_digitAt 3 (some .int) :: lw_good
set_option maxHeartbeats 4000000 in
set_option maxRecDepth 100000 in
theorem cm_X7_digitAt (l : Launch) (D : va_G) (G : Nat → ClassId) (N : Nat) (S : mw_M) (h0 : Nat) (x1 : Int32) (z : Int32 × mw_M) (hf : pf_X7_digitAt G N S h0 x1 = some z) : Met l yX7_digitAt wsX7_digitAt rmX7_digitAt (va_Pc [.ref h0, .int x1] (mw_B D vwCl (mw_tys G) mw_aos S)) (mw_Qi D vwCl (mw_tys G) mw_aos (mw_A S) z) 0 0 (mw_A S) := by
  refine Met.ofW (cc := cX7_digitAt) (maxL := 3) (ret := (some .int)) (by decide) rfl ?_
  intro p e s m args below meth c s₁ B hml hv
  obtain ⟨rfl, hB⟩ := hv
  have hw := mw_begin hB
  have hx := B.exec
  have hb := B.bytes
  have hr := B.returns
  have hts : ∀ w ∈ lw_good, w.before _ s = true := fun w h => atoms_spec (ws := wsX7_digitAt) B.pre w (List.mem_cons_of_mem _ h)
  have hown : s.vm.findClass RX7 = some m.cls := findClass_of_methodNamed B.named
  have hlocks := B.notSynchronized
  have hC : mw_C p s m _ meth c cX7_digitAt RX7 (some .int) lw_good 3 := ⟨hx, hb, hml, hown, hts, hr, hlocks⟩
  have hl := lv_entry ([.ref h0, .int x1]) (n := 3) (Nat.le_of_ble_eq_true rfl)
  rw [lg_entry_eq]
  generalize (lg_sl ([.ref h0, .int x1]) ++ List.replicate (3 - (lg_sl ([.ref h0, .int x1])).length) Slot.unset).toArray = ls at hl ⊢
  have hl : lv_has ls 3 [(0, .ref h0), (1, .int x1)] := hl
  unfold pf_X7_digitAt at hf
  refine lv_aload_n hx hb dX7_digitAt_0 rfl (lv_at hl 0 rfl) ?_
  refine lv_iload_n hx hb dX7_digitAt_1 rfl (lv_at hl 1 rfl) ?_
  obtain ⟨v1, S1, e1, hf⟩ := mw_bb hf
  obtain ⟨ho, e1⟩ := mw_v_s e1
  refine mw_calli (va_runV (As := [.int x1]) (rest := []) ⟨hx, hb, hml, hown, hts⟩ (cm_X7_at l D G N S h0 x1 (v1, S1) e1) (cwV 1 hts (mw_gV tw_448 tw_313 tw_314 tw_3 tw_315) rfl rfl rfl (by decide +kernel) ⟨Nat.le_of_ble_eq_true rfl, Nat.le_of_ble_eq_true rfl⟩) (mw_preV hw (ci := 7) rfl ho) rfl rfl hl.1 rfl (lv_room (Nat.le_of_ble_eq_true rfl)) dX7_digitAt_2 ⟨(Nat.le_of_ble_eq_true rfl), (Nat.le_of_ble_eq_true rfl)⟩) hw (fun H locs hw => ?_)
  refine lv_istore_n hx hb dX7_digitAt_5 rfl hl (by decide) rfl (fun ls hl => ?_)
  have hl : lv_has ls 3 [(2, .int v1), (0, .ref h0), (1, .int x1)] := hl
  refine lv_iload_n hx hb dX7_digitAt_6 rfl (lv_at hl 0 rfl) ?_
  refine lv_bipush (v := 48) hx hb dX7_digitAt_7 (by decide) ?_
  refine lv_icmp_lt hx hb dX7_digitAt_9 (tgt := 25) (by decide) (fun hc => ?_) (fun hc => ?_)
  · rw [if_pos hc] at hf
    refine lv_iconst (v := (-1)) hx hb dX7_digitAt_25 (by decide) ?_
    exact mw_iret hx hb hr hlocks hw hf dX7_digitAt_26
  · rw [if_neg hc] at hf
    refine lv_iload_n hx hb dX7_digitAt_12 rfl (lv_at hl 0 rfl) ?_
    refine lv_bipush (v := 57) hx hb dX7_digitAt_13 (by decide) ?_
    refine lv_icmp_gt hx hb dX7_digitAt_15 (tgt := 25) (by decide) (fun hc => ?_) (fun hc => ?_)
    · rw [if_pos hc] at hf
      refine lv_iconst (v := (-1)) hx hb dX7_digitAt_25 (by decide) ?_
      exact mw_iret hx hb hr hlocks hw hf dX7_digitAt_26
    · rw [if_neg hc] at hf
      refine lv_iload_n hx hb dX7_digitAt_18 rfl (lv_at hl 0 rfl) ?_
      refine lv_bipush (v := 48) hx hb dX7_digitAt_19 (by decide) ?_
      refine lv_isub hx hb dX7_digitAt_21 ?_
      refine lv_goto hx hb dX7_digitAt_22 (tgt := 26) (by decide) ?_
      exact mw_iret hx hb hr hlocks hw hf dX7_digitAt_26
abbrev rmX8_itemEnd : Room := { frames := 2, cells := 0, slots := 0, locals := 43 }
abbrev wsX8_itemEnd : List Cond := Cond.code yX8_itemEnd cX8_itemEnd 3 (some .int) :: lw_good
set_option maxHeartbeats 4000000 in
set_option maxRecDepth 100000 in
theorem bX8_itemEnd_78 {p : Program} {l : Launch} {e : Env} {s : State} {m : MethodId} {args : Array Value} {below : List Frame} {meth : Method} {c : Code} (hC : mw_C p s m args meth c cX8_itemEnd RX8 (some .int) lw_good 3) (D : va_G) (G : Nat → ClassId) (N : Nat) {A : Nat → Prop} {z : Int32 × mw_M} : ∀ (y1 : Int32) (y2 : Int32) (S : mw_M) (H : Heap) (locs : List Loc) (ls : Array Slot), pf_X8_itemEnd_78 G N y1 y2 S = some z → lv_has ls 3 [(1, .int y1), (2, .int y2)] → mw_W D vwCl (mw_tys G) mw_aos A s S H locs → W p l e (headSpec wsX8_itemEnd rmX8_itemEnd).room s m args below meth c H locs 0 0 (MQ below (mw_Qi D vwCl (mw_tys G) mw_aos A z) args s 0 0 A) (F0 m 78 ls []) := by
  obtain ⟨hx, hb, hml, hown, hts, hr, hlocks⟩ := hC
  intro y1 y2 S H locs ls hf hl hw
  unfold pf_X8_itemEnd_78 at hf
  refine lv_iload_n hx hb dX8_itemEnd_78 rfl (lv_at hl 0 rfl) ?_
  refine lv_iconst (v := 2) hx hb dX8_itemEnd_79 (by decide) ?_
  refine lv_iadd hx hb dX8_itemEnd_80 ?_
  refine lv_iload_n hx hb dX8_itemEnd_81 rfl (lv_at hl 1 rfl) ?_
  refine lv_iadd hx hb dX8_itemEnd_82 ?_
  exact mw_iret hx hb hr hlocks hw hf dX8_itemEnd_83
set_option maxHeartbeats 4000000 in
set_option maxRecDepth 100000 in
theorem bX8_itemEnd_51 {p : Program} {l : Launch} {e : Env} {s : State} {m : MethodId} {args : Array Value} {below : List Frame} {meth : Method} {c : Code} (hC : mw_C p s m args meth c cX8_itemEnd RX8 (some .int) lw_good 3) (D : va_G) (G : Nat → ClassId) (N : Nat) {A : Nat → Prop} {z : Int32 × mw_M} : ∀ (n : Nat) (y0 : Nat) (y1 : Int32) (y2 : Int32) (S : mw_M) (H : Heap) (locs : List Loc) (ls : Array Slot), pf_X8_itemEnd_51 G N n y0 y1 y2 S = some z → lv_has ls 3 [(0, .ref y0), (1, .int y1), (2, .int y2)] → mw_W D vwCl (mw_tys G) mw_aos A s S H locs → W p l e (headSpec wsX8_itemEnd rmX8_itemEnd).room s m args below meth c H locs 0 0 (MQ below (mw_Qi D vwCl (mw_tys G) mw_aos A z) args s 0 0 A) (F0 m 51 ls []) := by
  obtain ⟨hx, hb, hml, hown, hts, hr, hlocks⟩ := hC
  intro n
  induction n with
  | zero => intro y0 y1 y2 S H locs ls hf; rw [pf_X8_itemEnd_51] at hf; cases hf
  | succ n ih =>
    intro y0 y1 y2 S H locs ls hf hl hw
    rw [pf_X8_itemEnd_51] at hf
    refine lv_iload_n hx hb dX8_itemEnd_51 rfl (lv_at hl 2 rfl) ?_
    refine lv_iconst (v := 3) hx hb dX8_itemEnd_52 (by decide) ?_
    refine lv_icmp_ge hx hb dX8_itemEnd_53 (tgt := 78) (by decide) (fun hc => ?_) (fun hc => ?_)
    · rw [if_pos hc] at hf
      exact bX8_itemEnd_78 ⟨hx, hb, hml, hown, hts, hr, hlocks⟩ D G N _ _ _ _ _ _ hf (lv_sub hl [1, 2] rfl) hw
    · rw [if_neg hc] at hf
      refine lv_aload_n hx hb dX8_itemEnd_56 rfl (lv_at hl 0 rfl) ?_
      obtain ⟨v1, e1, hf⟩ := mw_b hf
      refine mw_getr hx hb hts inX8 hown hw (ci := 8) rfl 1 (by decide) (hts _ tw_195) rfl e1 dX8_itemEnd_57 ?_
      refine lv_iload_n hx hb dX8_itemEnd_60 rfl (lv_at hl 1 rfl) ?_
      refine lv_iconst (v := 2) hx hb dX8_itemEnd_61 (by decide) ?_
      refine lv_iadd hx hb dX8_itemEnd_62 ?_
      refine lv_iload_n hx hb dX8_itemEnd_63 rfl (lv_at hl 2 rfl) ?_
      refine lv_iadd hx hb dX8_itemEnd_64 ?_
      obtain ⟨v2, S2, e2, hf⟩ := mw_bb hf
      obtain ⟨ho, e2⟩ := mw_v_s e2
      refine mw_calli (va_runV (As := [.int ((y1 + 2) + y2)]) (rest := []) ⟨hx, hb, hml, hown, hts⟩ (cm_X7_digitAt l D G N S v1 ((y1 + 2) + y2) (v2, S2) e2) (cwV 1 hts (mw_gV tw_444 tw_445 tw_446 tw_3 tw_447) rfl rfl rfl (by decide +kernel) ⟨Nat.le_of_ble_eq_true rfl, Nat.le_of_ble_eq_true rfl⟩) (mw_preV hw (ci := 7) rfl ho) rfl rfl hl.1 rfl (lv_room (Nat.le_of_ble_eq_true rfl)) dX8_itemEnd_65 ⟨(Nat.le_of_ble_eq_true rfl), (Nat.le_of_ble_eq_true rfl)⟩) hw (fun H locs hw => ?_)
      refine lv_iconst (v := (-1)) hx hb dX8_itemEnd_68 (by decide) ?_
      refine lv_icmp_eq hx hb dX8_itemEnd_69 (tgt := 78) (by decide) (fun hc => ?_) (fun hc => ?_)
      · rw [if_pos hc] at hf
        exact bX8_itemEnd_78 ⟨hx, hb, hml, hown, hts, hr, hlocks⟩ D G N _ _ _ _ _ _ hf (lv_sub hl [1, 2] rfl) hw
      · rw [if_neg hc] at hf
        refine lv_iinc (k := 2) (v := (y2 + 1)) hx hb dX8_itemEnd_72 hl rfl (congrArg (fun q => y2 + q) (show Int32.ofInt 1 = 1 by decide)) (by decide) rfl (fun ls hl => ?_)
        have hl : lv_has ls 3 [(2, .int (y2 + 1)), (0, .ref y0), (1, .int y1)] := hl
        refine lv_goto hx hb dX8_itemEnd_75 (tgt := 51) (by decide) ?_
        exact ih _ _ _ _ _ _ _ hf (lv_sub hl [1, 2, 0] rfl) hw
set_option maxHeartbeats 4000000 in
set_option maxRecDepth 100000 in
theorem cm_X8_itemEnd (l : Launch) (D : va_G) (G : Nat → ClassId) (N : Nat) (S : mw_M) (h0 : Nat) (x1 : Int32) (z : Int32 × mw_M) (hf : pf_X8_itemEnd G N S h0 x1 = some z) : Met l yX8_itemEnd wsX8_itemEnd rmX8_itemEnd (va_Pc [.ref h0, .int x1] (mw_B D vwCl (mw_tys G) mw_aos S)) (mw_Qi D vwCl (mw_tys G) mw_aos (mw_A S) z) 0 0 (mw_A S) := by
  refine Met.ofW (cc := cX8_itemEnd) (maxL := 3) (ret := (some .int)) (by decide) rfl ?_
  intro p e s m args below meth c s₁ B hml hv
  obtain ⟨rfl, hB⟩ := hv
  have hw := mw_begin hB
  have hx := B.exec
  have hb := B.bytes
  have hr := B.returns
  have hts : ∀ w ∈ lw_good, w.before _ s = true := fun w h => atoms_spec (ws := wsX8_itemEnd) B.pre w (List.mem_cons_of_mem _ h)
  have hown : s.vm.findClass RX8 = some m.cls := findClass_of_methodNamed B.named
  have hlocks := B.notSynchronized
  have hC : mw_C p s m _ meth c cX8_itemEnd RX8 (some .int) lw_good 3 := ⟨hx, hb, hml, hown, hts, hr, hlocks⟩
  have hl := lv_entry ([.ref h0, .int x1]) (n := 3) (Nat.le_of_ble_eq_true rfl)
  rw [lg_entry_eq]
  generalize (lg_sl ([.ref h0, .int x1]) ++ List.replicate (3 - (lg_sl ([.ref h0, .int x1])).length) Slot.unset).toArray = ls at hl ⊢
  have hl : lv_has ls 3 [(0, .ref h0), (1, .int x1)] := hl
  unfold pf_X8_itemEnd at hf
  refine lv_aload_n hx hb dX8_itemEnd_0 rfl (lv_at hl 0 rfl) ?_
  refine lv_aload_n hx hb dX8_itemEnd_1 rfl (lv_at hl 0 rfl) ?_
  obtain ⟨v1, e1, hf⟩ := mw_b hf
  refine mw_getr hx hb hts inX8 hown hw (ci := 8) rfl 1 (by decide) (hts _ tw_195) rfl e1 dX8_itemEnd_2 ?_
  refine lv_iload_n hx hb dX8_itemEnd_5 rfl (lv_at hl 1 rfl) ?_
  obtain ⟨v2, S2, e2, hf⟩ := mw_bb hf
  obtain ⟨ho, e2⟩ := mw_v_s e2
  refine mw_calli (va_runV (As := [.int x1]) (rest := [.ref h0]) ⟨hx, hb, hml, hown, hts⟩ (cm_X7_digitAt l D G N S v1 x1 (v2, S2) e2) (cwV 1 hts (mw_gV tw_444 tw_445 tw_446 tw_3 tw_447) rfl rfl rfl (by decide +kernel) ⟨Nat.le_of_ble_eq_true rfl, Nat.le_of_ble_eq_true rfl⟩) (mw_preV hw (ci := 7) rfl ho) rfl rfl hl.1 rfl (lv_room (Nat.le_of_ble_eq_true rfl)) dX8_itemEnd_6 ⟨(Nat.le_of_ble_eq_true rfl), (Nat.le_of_ble_eq_true rfl)⟩) hw (fun H locs hw => ?_)
  obtain ⟨v3, S3, e3, hf⟩ := mw_bb hf
  obtain ⟨ho, e3⟩ := mw_v_s e3
  refine mw_calli (va_runV (As := [.int v2]) (rest := []) ⟨hx, hb, hml, hown, hts⟩ (cm_X8_isType l D G N S2 h0 v2 (v3, S3) e3) (cwV 1 hts (mw_gV tw_264 tw_266 tp_0 tw_1 tw_267) rfl rfl rfl (by decide +kernel) ⟨Nat.le_of_ble_eq_true rfl, Nat.le_of_ble_eq_true rfl⟩) (mw_preV hw (ci := 8) rfl ho) rfl rfl hl.1 rfl (lv_room (Nat.le_of_ble_eq_true rfl)) dX8_itemEnd_9 ⟨(Nat.le_of_ble_eq_true rfl), (Nat.le_of_ble_eq_true rfl)⟩) hw (fun H locs hw => ?_)
  refine lv_if_ne hx hb dX8_itemEnd_12 (tgt := 17) (by decide) (fun hc => ?_) (fun hc => ?_)
  · rw [if_pos hc] at hf
    refine lv_aload_n hx hb dX8_itemEnd_17 rfl (lv_at hl 0 rfl) ?_
    obtain ⟨v4, e4, hf⟩ := mw_b hf
    refine mw_getr hx hb hts inX8 hown hw (ci := 8) rfl 1 (by decide) (hts _ tw_195) rfl e4 dX8_itemEnd_18 ?_
    refine lv_iload_n hx hb dX8_itemEnd_21 rfl (lv_at hl 1 rfl) ?_
    refine lv_iconst (v := 1) hx hb dX8_itemEnd_22 (by decide) ?_
    refine lv_iadd hx hb dX8_itemEnd_23 ?_
    obtain ⟨v5, S5, e5, hf⟩ := mw_bb hf
    obtain ⟨ho, e5⟩ := mw_v_s e5
    refine mw_calli (va_runV (As := [.int (x1 + 1)]) (rest := []) ⟨hx, hb, hml, hown, hts⟩ (cm_X7_at l D G N S3 v4 (x1 + 1) (v5, S5) e5) (cwV 1 hts (mw_gV tw_439 tw_313 tw_314 tw_3 tw_315) rfl rfl rfl (by decide +kernel) ⟨Nat.le_of_ble_eq_true rfl, Nat.le_of_ble_eq_true rfl⟩) (mw_preV hw (ci := 7) rfl ho) rfl rfl hl.1 rfl (lv_room (Nat.le_of_ble_eq_true rfl)) dX8_itemEnd_24 ⟨(Nat.le_of_ble_eq_true rfl), (Nat.le_of_ble_eq_true rfl)⟩) hw (fun H locs hw => ?_)
    refine lv_bipush (v := 43) hx hb dX8_itemEnd_27 (by decide) ?_
    refine lv_icmp_eq hx hb dX8_itemEnd_29 (tgt := 49) (by decide) (fun hc => ?_) (fun hc => ?_)
    · rw [if_pos hc] at hf
      refine lv_iconst (v := 0) hx hb dX8_itemEnd_49 (by decide) ?_
      refine lv_istore_n hx hb dX8_itemEnd_50 rfl hl (by decide) rfl (fun ls hl => ?_)
      have hl : lv_has ls 3 [(2, .int 0), (0, .ref h0), (1, .int x1)] := hl
      exact bX8_itemEnd_51 ⟨hx, hb, hml, hown, hts, hr, hlocks⟩ D G N N _ _ _ _ _ _ _ hf (lv_sub hl [1, 2, 0] rfl) hw
    · rw [if_neg hc] at hf
      refine lv_aload_n hx hb dX8_itemEnd_32 rfl (lv_at hl 0 rfl) ?_
      obtain ⟨v6, e6, hf⟩ := mw_b hf
      refine mw_getr hx hb hts inX8 hown hw (ci := 8) rfl 1 (by decide) (hts _ tw_195) rfl e6 dX8_itemEnd_33 ?_
      refine lv_iload_n hx hb dX8_itemEnd_36 rfl (lv_at hl 1 rfl) ?_
      refine lv_iconst (v := 1) hx hb dX8_itemEnd_37 (by decide) ?_
      refine lv_iadd hx hb dX8_itemEnd_38 ?_
      obtain ⟨v7, S7, e7, hf⟩ := mw_bb hf
      obtain ⟨ho, e7⟩ := mw_v_s e7
      refine mw_calli (va_runV (As := [.int (x1 + 1)]) (rest := []) ⟨hx, hb, hml, hown, hts⟩ (cm_X7_at l D G N S5 v6 (x1 + 1) (v7, S7) e7) (cwV 1 hts (mw_gV tw_439 tw_313 tw_314 tw_3 tw_315) rfl rfl rfl (by decide +kernel) ⟨Nat.le_of_ble_eq_true rfl, Nat.le_of_ble_eq_true rfl⟩) (mw_preV hw (ci := 7) rfl ho) rfl rfl hl.1 rfl (lv_room (Nat.le_of_ble_eq_true rfl)) dX8_itemEnd_39 ⟨(Nat.le_of_ble_eq_true rfl), (Nat.le_of_ble_eq_true rfl)⟩) hw (fun H locs hw => ?_)
      refine lv_bipush (v := 45) hx hb dX8_itemEnd_42 (by decide) ?_
      refine lv_icmp_eq hx hb dX8_itemEnd_44 (tgt := 49) (by decide) (fun hc => ?_) (fun hc => ?_)
      · rw [if_pos hc] at hf
        refine lv_iconst (v := 0) hx hb dX8_itemEnd_49 (by decide) ?_
        refine lv_istore_n hx hb dX8_itemEnd_50 rfl hl (by decide) rfl (fun ls hl => ?_)
        have hl : lv_has ls 3 [(2, .int 0), (0, .ref h0), (1, .int x1)] := hl
        exact bX8_itemEnd_51 ⟨hx, hb, hml, hown, hts, hr, hlocks⟩ D G N N _ _ _ _ _ _ _ hf (lv_sub hl [1, 2, 0] rfl) hw
      · rw [if_neg hc] at hf
        refine lv_iconst (v := (-1)) hx hb dX8_itemEnd_47 (by decide) ?_
        exact mw_iret hx hb hr hlocks hw hf dX8_itemEnd_48
  · rw [if_neg (fun q => q hc)] at hf
    refine lv_iconst (v := (-1)) hx hb dX8_itemEnd_15 (by decide) ?_
    exact mw_iret hx hb hr hlocks hw hf dX8_itemEnd_16
abbrev rmX8_countItems : Room := { frames := 3, cells := 0, slots := 0, locals := 65 }
abbrev wsX8_countItems : List Cond := Cond.code yX8_countItems cX8_countItems 6 (some .int) :: lw_good
set_option maxHeartbeats 4000000 in
set_option maxRecDepth 100000 in
theorem bX8_countItems_34 {p : Program} {l : Launch} {e : Env} {s : State} {m : MethodId} {args : Array Value} {below : List Frame} {meth : Method} {c : Code} (hC : mw_C p s m args meth c cX8_countItems RX8 (some .int) lw_good 6) (D : va_G) (G : Nat → ClassId) (N : Nat) {A : Nat → Prop} {z : Int32 × mw_M} (k5 : Nat → Int32 → Int32 → Int32 → mw_M → Option (Int32 × mw_M)) (hk5 : ∀ (y0 : Nat) (y2 : Int32) (y3 : Int32) (y4 : Int32) (S : mw_M) (H : Heap) (locs : List Loc) (ls : Array Slot), k5 y0 y2 y3 y4 S = some z → lv_has ls 6 [(0, .ref y0), (2, .int y2), (3, .int y3), (4, .int y4)] → mw_W D vwCl (mw_tys G) mw_aos A s S H locs → W p l e (headSpec wsX8_countItems rmX8_countItems).room s m args below meth c H locs 0 0 (MQ below (mw_Qi D vwCl (mw_tys G) mw_aos A z) args s 0 0 A) (F0 m 5 ls [])) : ∀ (y0 : Nat) (y2 : Int32) (y4 : Int32) (y5 : Int32) (S : mw_M) (H : Heap) (locs : List Loc) (ls : Array Slot), pf_X8_countItems_34 G N k5 y0 y2 y4 y5 S = some z → lv_has ls 6 [(0, .ref y0), (2, .int y2), (4, .int y4), (5, .int y5)] → mw_W D vwCl (mw_tys G) mw_aos A s S H locs → W p l e (headSpec wsX8_countItems rmX8_countItems).room s m args below meth c H locs 0 0 (MQ below (mw_Qi D vwCl (mw_tys G) mw_aos A z) args s 0 0 A) (F0 m 34 ls []) := by
  obtain ⟨hx, hb, hml, hown, hts, hr, hlocks⟩ := hC
  intro y0 y2 y4 y5 S H locs ls hf hl hw
  unfold pf_X8_countItems_34 at hf
  refine lv_iload hx hb dX8_countItems_34 (lv_at hl 3 rfl) ?_
  refine lv_iconst (v := (-1)) hx hb dX8_countItems_36 (by decide) ?_
  refine lv_icmp_eq hx hb dX8_countItems_37 (tgt := 54) (by decide) (fun hc => ?_) (fun hc => ?_)
  · rw [if_pos hc] at hf
    refine lv_iconst (v := (-1)) hx hb dX8_countItems_54 (by decide) ?_
    exact mw_iret hx hb hr hlocks hw hf dX8_countItems_55
  · rw [if_neg hc] at hf
    refine lv_aload_n hx hb dX8_countItems_40 rfl (lv_at hl 0 rfl) ?_
    obtain ⟨v1, e1, hf⟩ := mw_b hf
    refine mw_getr hx hb hts inX8 hown hw (ci := 8) rfl 1 (by decide) (hts _ tw_195) rfl e1 dX8_countItems_41 ?_
    refine lv_iload hx hb dX8_countItems_44 (lv_at hl 3 rfl) ?_
    obtain ⟨v2, S2, e2, hf⟩ := mw_bb hf
    obtain ⟨ho, e2⟩ := mw_v_s e2
    refine mw_calli (va_runV (As := [.int y5]) (rest := []) ⟨hx, hb, hml, hown, hts⟩ (cm_X7_at l D G N S v1 y5 (v2, S2) e2) (cwV 1 hts (mw_gV tw_439 tw_313 tw_314 tw_3 tw_315) rfl rfl rfl (by decide +kernel) ⟨Nat.le_of_ble_eq_true rfl, Nat.le_of_ble_eq_true rfl⟩) (mw_preV hw (ci := 7) rfl ho) rfl rfl hl.1 rfl (lv_room (Nat.le_of_ble_eq_true rfl)) dX8_countItems_46 ⟨(Nat.le_of_ble_eq_true rfl), (Nat.le_of_ble_eq_true rfl)⟩) hw (fun H locs hw => ?_)
    refine lv_bipush (v := 44) hx hb dX8_countItems_49 (by decide) ?_
    refine lv_icmp_eq hx hb dX8_countItems_51 (tgt := 56) (by decide) (fun hc => ?_) (fun hc => ?_)
    · rw [if_pos hc] at hf
      refine lv_iload hx hb dX8_countItems_56 (lv_at hl 3 rfl) ?_
      refine lv_iconst (v := 1) hx hb dX8_countItems_58 (by decide) ?_
      refine lv_iadd hx hb dX8_countItems_59 ?_
      refine lv_istore_n hx hb dX8_countItems_60 rfl hl (by decide) rfl (fun ls hl => ?_)
      have hl : lv_has ls 6 [(3, .int (y5 + 1)), (0, .ref y0), (2, .int y2), (4, .int y4), (5, .int y5)] := hl
      refine lv_iinc (k := 3) (v := (y4 + 1)) hx hb dX8_countItems_61 hl rfl (congrArg (fun q => y4 + q) (show Int32.ofInt 1 = 1 by decide)) (by decide) rfl (fun ls hl => ?_)
      have hl : lv_has ls 6 [(4, .int (y4 + 1)), (3, .int (y5 + 1)), (0, .ref y0), (2, .int y2), (5, .int y5)] := hl
      refine lv_goto hx hb dX8_countItems_64 (tgt := 5) (by decide) ?_
      exact hk5 _ _ _ _ _ _ _ _ hf (lv_sub hl [2, 3, 1, 0] rfl) hw
    · rw [if_neg hc] at hf
      refine lv_iconst (v := (-1)) hx hb dX8_countItems_54 (by decide) ?_
      exact mw_iret hx hb hr hlocks hw hf dX8_countItems_55
set_option maxHeartbeats 4000000 in
set_option maxRecDepth 100000 in
theorem bX8_countItems_5 {p : Program} {l : Launch} {e : Env} {s : State} {m : MethodId} {args : Array Value} {below : List Frame} {meth : Method} {c : Code} (hC : mw_C p s m args meth c cX8_countItems RX8 (some .int) lw_good 6) (D : va_G) (G : Nat → ClassId) (N : Nat) {A : Nat → Prop} {z : Int32 × mw_M} : ∀ (n : Nat) (y0 : Nat) (y2 : Int32) (y3 : Int32) (y4 : Int32) (S : mw_M) (H : Heap) (locs : List Loc) (ls : Array Slot), pf_X8_countItems_5 G N n y0 y2 y3 y4 S = some z → lv_has ls 6 [(0, .ref y0), (2, .int y2), (3, .int y3), (4, .int y4)] → mw_W D vwCl (mw_tys G) mw_aos A s S H locs → W p l e (headSpec wsX8_countItems rmX8_countItems).room s m args below meth c H locs 0 0 (MQ below (mw_Qi D vwCl (mw_tys G) mw_aos A z) args s 0 0 A) (F0 m 5 ls []) := by
  obtain ⟨hx, hb, hml, hown, hts, hr, hlocks⟩ := hC
  intro n
  induction n with
  | zero => intro y0 y2 y3 y4 S H locs ls hf; rw [pf_X8_countItems_5] at hf; cases hf
  | succ n ih =>
    intro y0 y2 y3 y4 S H locs ls hf hl hw
    rw [pf_X8_countItems_5] at hf
    refine lv_iload hx hb dX8_countItems_5 (lv_at hl 3 rfl) ?_
    refine lv_bipush (v := 40) hx hb dX8_countItems_7 (by decide) ?_
    refine lv_icmp_gt hx hb dX8_countItems_9 (tgt := 67) (by decide) (fun hc => ?_) (fun hc => ?_)
    · rw [if_pos hc] at hf
      refine lv_iconst (v := (-1)) hx hb dX8_countItems_67 (by decide) ?_
      exact mw_iret hx hb hr hlocks hw hf dX8_countItems_68
    · rw [if_neg hc] at hf
      refine lv_aload_n hx hb dX8_countItems_12 rfl (lv_at hl 0 rfl) ?_
      refine lv_iload_n hx hb dX8_countItems_13 rfl (lv_at hl 2 rfl) ?_
      obtain ⟨v1, S1, e1, hf⟩ := mw_bb hf
      obtain ⟨ho, e1⟩ := mw_v_s e1
      refine mw_calli (va_runV (As := [.int y3]) (rest := []) ⟨hx, hb, hml, hown, hts⟩ (cm_X8_itemEnd l D G N S y0 y3 (v1, S1) e1) (cwV 1 hts (mw_gV tw_457 tw_459 tp_11 tw_1 tw_460) rfl rfl rfl (by decide +kernel) ⟨Nat.le_of_ble_eq_true rfl, Nat.le_of_ble_eq_true rfl⟩) (mw_preV hw (ci := 8) rfl ho) rfl rfl hl.1 rfl (lv_room (Nat.le_of_ble_eq_true rfl)) dX8_countItems_14 ⟨(Nat.le_of_ble_eq_true rfl), (Nat.le_of_ble_eq_true rfl)⟩) hw (fun H locs hw => ?_)
      refine lv_istore hx hb dX8_countItems_17 hl (by decide) rfl (fun ls hl => ?_)
      have hl : lv_has ls 6 [(5, .int v1), (0, .ref y0), (2, .int y2), (3, .int y3), (4, .int y4)] := hl
      refine lv_iload hx hb dX8_countItems_19 (lv_at hl 0 rfl) ?_
      refine lv_iconst (v := (-1)) hx hb dX8_countItems_21 (by decide) ?_
      refine lv_icmp_eq hx hb dX8_countItems_22 (tgt := 34) (by decide) (fun hc => ?_) (fun hc => ?_)
      · rw [if_pos hc] at hf
        exact bX8_countItems_34 ⟨hx, hb, hml, hown, hts, hr, hlocks⟩ D G N (pf_X8_countItems_5 G N n) ih _ _ _ _ _ _ _ _ hf (lv_sub hl [1, 2, 4, 0] rfl) hw
      · rw [if_neg hc] at hf
        refine lv_iload hx hb dX8_countItems_25 (lv_at hl 0 rfl) ?_
        refine lv_iload_n hx hb dX8_countItems_27 rfl (lv_at hl 2 rfl) ?_
        refine lv_icmp_ne hx hb dX8_countItems_28 (tgt := 34) (by decide) (fun hc => ?_) (fun hc => ?_)
        · rw [if_pos hc] at hf
          exact bX8_countItems_34 ⟨hx, hb, hml, hown, hts, hr, hlocks⟩ D G N (pf_X8_countItems_5 G N n) ih _ _ _ _ _ _ _ _ hf (lv_sub hl [1, 2, 4, 0] rfl) hw
        · rw [if_neg (fun q => q hc)] at hf
          refine lv_iload hx hb dX8_countItems_31 (lv_at hl 4 rfl) ?_
          exact mw_iret hx hb hr hlocks hw hf dX8_countItems_33
set_option maxHeartbeats 4000000 in
set_option maxRecDepth 100000 in
theorem cm_X8_countItems (l : Launch) (D : va_G) (G : Nat → ClassId) (N : Nat) (S : mw_M) (h0 : Nat) (x1 : Int32) (x2 : Int32) (z : Int32 × mw_M) (hf : pf_X8_countItems G N S h0 x1 x2 = some z) : Met l yX8_countItems wsX8_countItems rmX8_countItems (va_Pc [.ref h0, .int x1, .int x2] (mw_B D vwCl (mw_tys G) mw_aos S)) (mw_Qi D vwCl (mw_tys G) mw_aos (mw_A S) z) 0 0 (mw_A S) := by
  refine Met.ofW (cc := cX8_countItems) (maxL := 6) (ret := (some .int)) (by decide) rfl ?_
  intro p e s m args below meth c s₁ B hml hv
  obtain ⟨rfl, hB⟩ := hv
  have hw := mw_begin hB
  have hx := B.exec
  have hb := B.bytes
  have hr := B.returns
  have hts : ∀ w ∈ lw_good, w.before _ s = true := fun w h => atoms_spec (ws := wsX8_countItems) B.pre w (List.mem_cons_of_mem _ h)
  have hown : s.vm.findClass RX8 = some m.cls := findClass_of_methodNamed B.named
  have hlocks := B.notSynchronized
  have hC : mw_C p s m _ meth c cX8_countItems RX8 (some .int) lw_good 6 := ⟨hx, hb, hml, hown, hts, hr, hlocks⟩
  have hl := lv_entry ([.ref h0, .int x1, .int x2]) (n := 6) (Nat.le_of_ble_eq_true rfl)
  rw [lg_entry_eq]
  generalize (lg_sl ([.ref h0, .int x1, .int x2]) ++ List.replicate (6 - (lg_sl ([.ref h0, .int x1, .int x2])).length) Slot.unset).toArray = ls at hl ⊢
  have hl : lv_has ls 6 [(0, .ref h0), (1, .int x1), (2, .int x2)] := hl
  unfold pf_X8_countItems at hf
  refine lv_iload_n hx hb dX8_countItems_0 rfl (lv_at hl 1 rfl) ?_
  refine lv_istore_n hx hb dX8_countItems_1 rfl hl (by decide) rfl (fun ls hl => ?_)
  have hl : lv_has ls 6 [(3, .int x1), (0, .ref h0), (1, .int x1), (2, .int x2)] := hl
  refine lv_iconst (v := 1) hx hb dX8_countItems_2 (by decide) ?_
  refine lv_istore hx hb dX8_countItems_3 hl (by decide) rfl (fun ls hl => ?_)
  have hl : lv_has ls 6 [(4, .int 1), (3, .int x1), (0, .ref h0), (1, .int x1), (2, .int x2)] := hl
  exact bX8_countItems_5 ⟨hx, hb, hml, hown, hts, hr, hlocks⟩ D G N N _ _ _ _ _ _ _ _ hf (lv_sub hl [2, 4, 1, 0] rfl) hw
abbrev rmX8_isRecording : Room := { frames := 0, cells := 0, slots := 0, locals := 0 }
abbrev wsX8_isRecording : List Cond := Cond.code yX8_isRecording cX8_isRecording 2 (some .boolean) :: lw_good
set_option maxHeartbeats 4000000 in
set_option maxRecDepth 100000 in
theorem cm_X8_isRecording (l : Launch) (D : va_G) (G : Nat → ClassId) (N : Nat) (S : mw_M) (h0 : Nat) (x1 : Int32) (z : Int32 × mw_M) (hf : pf_X8_isRecording G N S h0 x1 = some z) : Met l yX8_isRecording wsX8_isRecording rmX8_isRecording (va_Pc [.ref h0, .int x1] (mw_B D vwCl (mw_tys G) mw_aos S)) (mw_Qi D vwCl (mw_tys G) mw_aos (mw_A S) z) 0 0 (mw_A S) := by
  refine Met.ofW (cc := cX8_isRecording) (maxL := 2) (ret := (some .boolean)) (by decide) rfl ?_
  intro p e s m args below meth c s₁ B hml hv
  obtain ⟨rfl, hB⟩ := hv
  have hw := mw_begin hB
  have hx := B.exec
  have hb := B.bytes
  have hr := B.returns
  have hts : ∀ w ∈ lw_good, w.before _ s = true := fun w h => atoms_spec (ws := wsX8_isRecording) B.pre w (List.mem_cons_of_mem _ h)
  have hown : s.vm.findClass RX8 = some m.cls := findClass_of_methodNamed B.named
  have hlocks := B.notSynchronized
  have hC : mw_C p s m _ meth c cX8_isRecording RX8 (some .boolean) lw_good 2 := ⟨hx, hb, hml, hown, hts, hr, hlocks⟩
  have hl := lv_entry ([.ref h0, .int x1]) (n := 2) (Nat.le_of_ble_eq_true rfl)
  rw [lg_entry_eq]
  generalize (lg_sl ([.ref h0, .int x1]) ++ List.replicate (2 - (lg_sl ([.ref h0, .int x1])).length) Slot.unset).toArray = ls at hl ⊢
  have hl : lv_has ls 2 [(0, .ref h0), (1, .int x1)] := hl
  unfold pf_X8_isRecording at hf
  refine lv_iload_n hx hb dX8_isRecording_0 rfl (lv_at hl 1 rfl) ?_
  refine lv_if_lt hx hb dX8_isRecording_1 (tgt := 16) (by decide) (fun hc => ?_) (fun hc => ?_)
  · rw [if_pos hc] at hf
    refine lv_iconst (v := 0) hx hb dX8_isRecording_16 (by decide) ?_
    exact mw_zret hx hb hr hlocks hw rfl hf dX8_isRecording_17
  · rw [if_neg hc] at hf
    refine lv_iload_n hx hb dX8_isRecording_4 rfl (lv_at hl 1 rfl) ?_
    refine lv_aload_n hx hb dX8_isRecording_5 rfl (lv_at hl 0 rfl) ?_
    obtain ⟨v1, e1, hf⟩ := mw_b hf
    refine mw_geti hx hb hts inX8 hown hw (ci := 8) rfl 8 (by decide) (hts _ tw_202) rfl e1 dX8_isRecording_6 ?_
    refine lv_icmp_ge hx hb dX8_isRecording_9 (tgt := 16) (by decide) (fun hc => ?_) (fun hc => ?_)
    · rw [if_pos hc] at hf
      refine lv_iconst (v := 0) hx hb dX8_isRecording_16 (by decide) ?_
      exact mw_zret hx hb hr hlocks hw rfl hf dX8_isRecording_17
    · rw [if_neg hc] at hf
      refine lv_iconst (v := 1) hx hb dX8_isRecording_12 (by decide) ?_
      refine lv_goto hx hb dX8_isRecording_13 (tgt := 17) (by decide) ?_
      exact mw_zret hx hb hr hlocks hw rfl hf dX8_isRecording_17
abbrev rmX5_turn : Room := { frames := 0, cells := 0, slots := 0, locals := 0 }
abbrev wsX5_turn : List Cond := Cond.code yX5_turn cX5_turn 3 none :: lw_good
set_option maxHeartbeats 4000000 in
set_option maxRecDepth 100000 in
theorem cm_X5_turn (l : Launch) (D : va_G) (G : Nat → ClassId) (N : Nat) (S : mw_M) (h0 : Nat) (x1 : Int32) (x2 : Int32) (z : mw_M) (hf : pf_X5_turn G N S h0 x1 x2 = some z) : Met l yX5_turn wsX5_turn rmX5_turn (va_Pc [.ref h0, .int x1, .int x2] (mw_B D vwCl (mw_tys G) mw_aos S)) (mw_Qv D vwCl (mw_tys G) mw_aos (mw_A S) z) 0 0 (mw_A S) := by
  refine Met.ofW (cc := cX5_turn) (maxL := 3) (ret := none) (by decide) rfl ?_
  intro p e s m args below meth c s₁ B hml hv
  obtain ⟨rfl, hB⟩ := hv
  have hw := mw_begin hB
  have hx := B.exec
  have hb := B.bytes
  have hr := B.returns
  have hts : ∀ w ∈ lw_good, w.before _ s = true := fun w h => atoms_spec (ws := wsX5_turn) B.pre w (List.mem_cons_of_mem _ h)
  have hown : s.vm.findClass RX5 = some m.cls := findClass_of_methodNamed B.named
  have hlocks := B.notSynchronized
  have hC : mw_C p s m _ meth c cX5_turn RX5 none lw_good 3 := ⟨hx, hb, hml, hown, hts, hr, hlocks⟩
  have hl := lv_entry ([.ref h0, .int x1, .int x2]) (n := 3) (Nat.le_of_ble_eq_true rfl)
  rw [lg_entry_eq]
  generalize (lg_sl ([.ref h0, .int x1, .int x2]) ++ List.replicate (3 - (lg_sl ([.ref h0, .int x1, .int x2])).length) Slot.unset).toArray = ls at hl ⊢
  have hl : lv_has ls 3 [(0, .ref h0), (1, .int x1), (2, .int x2)] := hl
  unfold pf_X5_turn at hf
  refine lv_iload_n hx hb dX5_turn_0 rfl (lv_at hl 1 rfl) ?_
  refine lv_if_lt hx hb dX5_turn_1 (tgt := 25) (by decide) (fun hc => ?_) (fun hc => ?_)
  · rw [if_pos hc] at hf
    exact mw_vret hx hb hr hlocks hw hf dX5_turn_25
  · rw [if_neg hc] at hf
    refine lv_iload_n hx hb dX5_turn_4 rfl (lv_at hl 1 rfl) ?_
    refine lv_bipush (v := 6) hx hb dX5_turn_5 (by decide) ?_
    refine lv_icmp_ge hx hb dX5_turn_7 (tgt := 25) (by decide) (fun hc => ?_) (fun hc => ?_)
    · rw [if_pos hc] at hf
      exact mw_vret hx hb hr hlocks hw hf dX5_turn_25
    · rw [if_neg hc] at hf
      refine lv_aload_n hx hb dX5_turn_10 rfl (lv_at hl 0 rfl) ?_
      obtain ⟨v1, e1, hf⟩ := mw_b hf
      refine mw_getr hx hb hts inX5 hown hw (ci := 5) rfl 0 (by decide) (hts _ tw_107) rfl e1 dX5_turn_11 ?_
      refine lv_iload_n hx hb dX5_turn_14 rfl (lv_at hl 1 rfl) ?_
      refine lv_iload_n hx hb dX5_turn_15 rfl (lv_at hl 2 rfl) ?_
      refine lv_if_ne hx hb dX5_turn_16 (tgt := 23) (by decide) (fun hc => ?_) (fun hc => ?_)
      · rw [if_pos hc] at hf
        refine lv_iconst (v := 0) hx hb dX5_turn_23 (by decide) ?_
        obtain ⟨S2, e2, hf⟩ := mw_b hf
        refine mw_zast hx hb hw 3 rfl e2 dX5_turn_24 (fun H locs hw => ?_)
        exact mw_vret hx hb hr hlocks hw hf dX5_turn_25
      · rw [if_neg (fun q => q hc)] at hf
        refine lv_iconst (v := 1) hx hb dX5_turn_19 (by decide) ?_
        refine lv_goto hx hb dX5_turn_20 (tgt := 24) (by decide) ?_
        obtain ⟨S3, e3, hf⟩ := mw_b hf
        refine mw_zast hx hb hw 3 rfl e3 dX5_turn_24 (fun H locs hw => ?_)
        exact mw_vret hx hb hr hlocks hw hf dX5_turn_25
abbrev rmX5_limit : Room := { frames := 0, cells := 0, slots := 0, locals := 0 }
abbrev wsX5_limit : List Cond := Cond.code yX5_limit cX5_limit 3 none :: lw_good
set_option maxHeartbeats 4000000 in
set_option maxRecDepth 100000 in
theorem cm_X5_limit (l : Launch) (D : va_G) (G : Nat → ClassId) (N : Nat) (S : mw_M) (h0 : Nat) (x1 : Int32) (x2 : Int32) (z : mw_M) (hf : pf_X5_limit G N S h0 x1 x2 = some z) : Met l yX5_limit wsX5_limit rmX5_limit (va_Pc [.ref h0, .int x1, .int x2] (mw_B D vwCl (mw_tys G) mw_aos S)) (mw_Qv D vwCl (mw_tys G) mw_aos (mw_A S) z) 0 0 (mw_A S) := by
  refine Met.ofW (cc := cX5_limit) (maxL := 3) (ret := none) (by decide) rfl ?_
  intro p e s m args below meth c s₁ B hml hv
  obtain ⟨rfl, hB⟩ := hv
  have hw := mw_begin hB
  have hx := B.exec
  have hb := B.bytes
  have hr := B.returns
  have hts : ∀ w ∈ lw_good, w.before _ s = true := fun w h => atoms_spec (ws := wsX5_limit) B.pre w (List.mem_cons_of_mem _ h)
  have hown : s.vm.findClass RX5 = some m.cls := findClass_of_methodNamed B.named
  have hlocks := B.notSynchronized
  have hC : mw_C p s m _ meth c cX5_limit RX5 none lw_good 3 := ⟨hx, hb, hml, hown, hts, hr, hlocks⟩
  have hl := lv_entry ([.ref h0, .int x1, .int x2]) (n := 3) (Nat.le_of_ble_eq_true rfl)
  rw [lg_entry_eq]
  generalize (lg_sl ([.ref h0, .int x1, .int x2]) ++ List.replicate (3 - (lg_sl ([.ref h0, .int x1, .int x2])).length) Slot.unset).toArray = ls at hl ⊢
  have hl : lv_has ls 3 [(0, .ref h0), (1, .int x1), (2, .int x2)] := hl
  unfold pf_X5_limit at hf
  refine lv_iload_n hx hb dX5_limit_0 rfl (lv_at hl 1 rfl) ?_
  refine lv_if_lt hx hb dX5_limit_1 (tgt := 17) (by decide) (fun hc => ?_) (fun hc => ?_)
  · rw [if_pos hc] at hf
    exact mw_vret hx hb hr hlocks hw hf dX5_limit_17
  · rw [if_neg hc] at hf
    refine lv_iload_n hx hb dX5_limit_4 rfl (lv_at hl 1 rfl) ?_
    refine lv_bipush (v := 6) hx hb dX5_limit_5 (by decide) ?_
    refine lv_icmp_ge hx hb dX5_limit_7 (tgt := 17) (by decide) (fun hc => ?_) (fun hc => ?_)
    · rw [if_pos hc] at hf
      exact mw_vret hx hb hr hlocks hw hf dX5_limit_17
    · rw [if_neg hc] at hf
      refine lv_aload_n hx hb dX5_limit_10 rfl (lv_at hl 0 rfl) ?_
      obtain ⟨v1, e1, hf⟩ := mw_b hf
      refine mw_getr hx hb hts inX5 hown hw (ci := 5) rfl 1 (by decide) (hts _ tw_108) rfl e1 dX5_limit_11 ?_
      refine lv_iload_n hx hb dX5_limit_14 rfl (lv_at hl 1 rfl) ?_
      refine lv_iload_n hx hb dX5_limit_15 rfl (lv_at hl 2 rfl) ?_
      obtain ⟨S2, e2, hf⟩ := mw_b hf
      refine mw_iast hx hb hw 0 rfl e2 dX5_limit_16 (fun H locs hw => ?_)
      exact mw_vret hx hb hr hlocks hw hf dX5_limit_17
abbrev rmX8_applyItem : Room := { frames := 2, cells := 0, slots := 0, locals := 43 }
abbrev wsX8_applyItem : List Cond := Cond.code yX8_applyItem cX8_applyItem 7 none :: lw_good
set_option maxHeartbeats 4000000 in
set_option maxRecDepth 100000 in
theorem bX8_applyItem_44 {p : Program} {l : Launch} {e : Env} {s : State} {m : MethodId} {args : Array Value} {below : List Frame} {meth : Method} {c : Code} (hC : mw_C p s m args meth c cX8_applyItem RX8 none lw_good 7) (D : va_G) (G : Nat → ClassId) (N : Nat) {A : Nat → Prop} {z : mw_M} : ∀ (n : Nat) (y0 : Nat) (y1 : Nat) (y2 : Int32) (y3 : Int32) (y4 : Int32) (y5 : Int32) (y6 : Int32) (S : mw_M) (H : Heap) (locs : List Loc) (ls : Array Slot), pf_X8_applyItem_44 G N n y0 y1 y2 y3 y4 y5 y6 S = some z → lv_has ls 7 [(0, .ref y0), (1, .ref y1), (2, .int y2), (3, .int y3), (4, .int y4), (5, .int y5), (6, .int y6)] → mw_W D vwCl (mw_tys G) mw_aos A s S H locs → W p l e (headSpec wsX8_applyItem rmX8_applyItem).room s m args below meth c H locs 0 0 (MQ below (mw_Qv D vwCl (mw_tys G) mw_aos A z) args s 0 0 A) (F0 m 44 ls []) := by
  obtain ⟨hx, hb, hml, hown, hts, hr, hlocks⟩ := hC
  intro n
  induction n with
  | zero => intro y0 y1 y2 y3 y4 y5 y6 S H locs ls hf; rw [pf_X8_applyItem_44] at hf; cases hf
  | succ n ih =>
    intro y0 y1 y2 y3 y4 y5 y6 S H locs ls hf hl hw
    rw [pf_X8_applyItem_44] at hf
    refine lv_iload hx hb dX8_applyItem_44 (lv_at hl 6 rfl) ?_
    refine lv_iload_n hx hb dX8_applyItem_46 rfl (lv_at hl 3 rfl) ?_
    refine lv_icmp_ge hx hb dX8_applyItem_47 (tgt := 73) (by decide) (fun hc => ?_) (fun hc => ?_)
    · rw [if_pos hc] at hf
      refine lv_iload_n hx hb dX8_applyItem_73 rfl (lv_at hl 3 rfl) ?_
      refine lv_iload_n hx hb dX8_applyItem_74 rfl (lv_at hl 2 rfl) ?_
      refine lv_iconst (v := 2) hx hb dX8_applyItem_75 (by decide) ?_
      refine lv_iadd hx hb dX8_applyItem_76 ?_
      refine lv_icmp_le hx hb dX8_applyItem_77 (tgt := 88) (by decide) (fun hc => ?_) (fun hc => ?_)
      · rw [if_pos hc] at hf
        exact mw_vret hx hb hr hlocks hw hf dX8_applyItem_88
      · rw [if_neg hc] at hf
        refine lv_aload_n hx hb dX8_applyItem_80 rfl (lv_at hl 1 rfl) ?_
        refine lv_iload hx hb dX8_applyItem_81 (lv_at hl 4 rfl) ?_
        refine lv_iload hx hb dX8_applyItem_83 (lv_at hl 5 rfl) ?_
        obtain ⟨S1, e1, hf⟩ := mw_b hf
        obtain ⟨ho, e1⟩ := mw_v_s e1
        refine mw_callv (va_runV (As := [.int y4, .int y5]) (rest := []) ⟨hx, hb, hml, hown, hts⟩ (cm_X5_limit l D G N S y1 y4 y5 S1 e1) (cwV 2 hts (mw_gV tw_473 tw_474 tw_475 tw_7 tw_476) rfl rfl rfl (by decide +kernel) ⟨Nat.le_of_ble_eq_true rfl, Nat.le_of_ble_eq_true rfl⟩) (mw_preV hw (ci := 5) rfl ho) rfl rfl hl.1 rfl (lv_room (Nat.le_of_ble_eq_true rfl)) dX8_applyItem_85 ⟨(Nat.le_of_ble_eq_true rfl), (Nat.le_of_ble_eq_true rfl)⟩) hw (fun H locs hw => ?_)
        exact mw_vret hx hb hr hlocks hw hf dX8_applyItem_88
    · rw [if_neg hc] at hf
      refine lv_bipush (v := 10) hx hb dX8_applyItem_50 (by decide) ?_
      refine lv_iload hx hb dX8_applyItem_52 (lv_at hl 5 rfl) ?_
      refine lv_imul hx hb dX8_applyItem_54 ?_
      refine lv_aload_n hx hb dX8_applyItem_55 rfl (lv_at hl 0 rfl) ?_
      obtain ⟨v2, e2, hf⟩ := mw_b hf
      refine mw_getr hx hb hts inX8 hown hw (ci := 8) rfl 1 (by decide) (hts _ tw_195) rfl e2 dX8_applyItem_56 ?_
      refine lv_iload hx hb dX8_applyItem_59 (lv_at hl 6 rfl) ?_
      obtain ⟨v3, S3, e3, hf⟩ := mw_bb hf
      obtain ⟨ho, e3⟩ := mw_v_s e3
      refine mw_calli (va_runV (As := [.int y6]) (rest := [.int (10 * y5)]) ⟨hx, hb, hml, hown, hts⟩ (cm_X7_digitAt l D G N S v2 y6 (v3, S3) e3) (cwV 1 hts (mw_gV tw_444 tw_445 tw_446 tw_3 tw_447) rfl rfl rfl (by decide +kernel) ⟨Nat.le_of_ble_eq_true rfl, Nat.le_of_ble_eq_true rfl⟩) (mw_preV hw (ci := 7) rfl ho) rfl rfl hl.1 rfl (lv_room (Nat.le_of_ble_eq_true rfl)) dX8_applyItem_61 ⟨(Nat.le_of_ble_eq_true rfl), (Nat.le_of_ble_eq_true rfl)⟩) hw (fun H locs hw => ?_)
      refine lv_iadd hx hb dX8_applyItem_64 ?_
      refine lv_istore hx hb dX8_applyItem_65 hl (by decide) rfl (fun ls hl => ?_)
      have hl : lv_has ls 7 [(5, .int ((10 * y5) + v3)), (0, .ref y0), (1, .ref y1), (2, .int y2), (3, .int y3), (4, .int y4), (6, .int y6)] := hl
      refine lv_iinc (k := 6) (v := (y6 + 1)) hx hb dX8_applyItem_67 hl rfl (congrArg (fun q => y6 + q) (show Int32.ofInt 1 = 1 by decide)) (by decide) rfl (fun ls hl => ?_)
      have hl : lv_has ls 7 [(6, .int (y6 + 1)), (5, .int ((10 * y5) + v3)), (0, .ref y0), (1, .ref y1), (2, .int y2), (3, .int y3), (4, .int y4)] := hl
      refine lv_goto hx hb dX8_applyItem_70 (tgt := 44) (by decide) ?_
      exact ih _ _ _ _ _ _ _ _ _ _ _ hf (lv_sub hl [2, 3, 4, 5, 6, 1, 0] rfl) hw
set_option maxHeartbeats 4000000 in
set_option maxRecDepth 100000 in
theorem bX8_applyItem_33 {p : Program} {l : Launch} {e : Env} {s : State} {m : MethodId} {args : Array Value} {below : List Frame} {meth : Method} {c : Code} (hC : mw_C p s m args meth c cX8_applyItem RX8 none lw_good 7) (D : va_G) (G : Nat → ClassId) (N : Nat) {A : Nat → Prop} {z : mw_M} : ∀ (y0 : Nat) (y1 : Nat) (y2 : Int32) (y3 : Int32) (y4 : Int32) (w0 : Nat) (w1 : Int32) (w2 : Int32) (S : mw_M) (H : Heap) (locs : List Loc) (ls : Array Slot), pf_X8_applyItem_33 G N y0 y1 y2 y3 y4 w0 w1 w2 S = some z → lv_has ls 7 [(0, .ref y0), (1, .ref y1), (2, .int y2), (3, .int y3), (4, .int y4)] → mw_W D vwCl (mw_tys G) mw_aos A s S H locs → W p l e (headSpec wsX8_applyItem rmX8_applyItem).room s m args below meth c H locs 0 0 (MQ below (mw_Qv D vwCl (mw_tys G) mw_aos A z) args s 0 0 A) (F0 m 33 ls [.int w2, .int w1, .ref w0]) := by
  obtain ⟨hx, hb, hml, hown, hts, hr, hlocks⟩ := hC
  intro y0 y1 y2 y3 y4 w0 w1 w2 S H locs ls hf hl hw
  unfold pf_X8_applyItem_33 at hf
  obtain ⟨S1, e1, hf⟩ := mw_b hf
  obtain ⟨ho, e1⟩ := mw_v_s e1
  refine mw_callv (va_runV (As := [.int w1, .int w2]) (rest := []) ⟨hx, hb, hml, hown, hts⟩ (cm_X5_turn l D G N S w0 w1 w2 S1 e1) (cwV 2 hts (mw_gV tw_469 tw_470 tw_471 tw_7 tw_472) rfl rfl rfl (by decide +kernel) ⟨Nat.le_of_ble_eq_true rfl, Nat.le_of_ble_eq_true rfl⟩) (mw_preV hw (ci := 5) rfl ho) rfl rfl hl.1 rfl (lv_room (Nat.le_of_ble_eq_true rfl)) dX8_applyItem_33 ⟨(Nat.le_of_ble_eq_true rfl), (Nat.le_of_ble_eq_true rfl)⟩) hw (fun H locs hw => ?_)
  refine lv_iconst (v := 0) hx hb dX8_applyItem_36 (by decide) ?_
  refine lv_istore hx hb dX8_applyItem_37 hl (by decide) rfl (fun ls hl => ?_)
  have hl : lv_has ls 7 [(5, .int 0), (0, .ref y0), (1, .ref y1), (2, .int y2), (3, .int y3), (4, .int y4)] := hl
  refine lv_iload_n hx hb dX8_applyItem_39 rfl (lv_at hl 3 rfl) ?_
  refine lv_iconst (v := 2) hx hb dX8_applyItem_40 (by decide) ?_
  refine lv_iadd hx hb dX8_applyItem_41 ?_
  refine lv_istore hx hb dX8_applyItem_42 hl (by decide) rfl (fun ls hl => ?_)
  have hl : lv_has ls 7 [(6, .int (y2 + 2)), (5, .int 0), (0, .ref y0), (1, .ref y1), (2, .int y2), (3, .int y3), (4, .int y4)] := hl
  exact bX8_applyItem_44 ⟨hx, hb, hml, hown, hts, hr, hlocks⟩ D G N N _ _ _ _ _ _ _ _ _ _ _ hf (lv_sub hl [2, 3, 4, 5, 6, 1, 0] rfl) hw
set_option maxHeartbeats 4000000 in
set_option maxRecDepth 100000 in
theorem cm_X8_applyItem (l : Launch) (D : va_G) (G : Nat → ClassId) (N : Nat) (S : mw_M) (h0 : Nat) (x1 : Nat) (x2 : Int32) (x3 : Int32) (z : mw_M) (hf : pf_X8_applyItem G N S h0 x1 x2 x3 = some z) : Met l yX8_applyItem wsX8_applyItem rmX8_applyItem (va_Pc [.ref h0, .ref x1, .int x2, .int x3] (mw_B D vwCl (mw_tys G) mw_aos S)) (mw_Qv D vwCl (mw_tys G) mw_aos (mw_A S) z) 0 0 (mw_A S) := by
  refine Met.ofW (cc := cX8_applyItem) (maxL := 7) (ret := none) (by decide) rfl ?_
  intro p e s m args below meth c s₁ B hml hv
  obtain ⟨rfl, hB⟩ := hv
  have hw := mw_begin hB
  have hx := B.exec
  have hb := B.bytes
  have hr := B.returns
  have hts : ∀ w ∈ lw_good, w.before _ s = true := fun w h => atoms_spec (ws := wsX8_applyItem) B.pre w (List.mem_cons_of_mem _ h)
  have hown : s.vm.findClass RX8 = some m.cls := findClass_of_methodNamed B.named
  have hlocks := B.notSynchronized
  have hC : mw_C p s m _ meth c cX8_applyItem RX8 none lw_good 7 := ⟨hx, hb, hml, hown, hts, hr, hlocks⟩
  have hl := lv_entry ([.ref h0, .ref x1, .int x2, .int x3]) (n := 7) (Nat.le_of_ble_eq_true rfl)
  rw [lg_entry_eq]
  generalize (lg_sl ([.ref h0, .ref x1, .int x2, .int x3]) ++ List.replicate (7 - (lg_sl ([.ref h0, .ref x1, .int x2, .int x3])).length) Slot.unset).toArray = ls at hl ⊢
  have hl : lv_has ls 7 [(0, .ref h0), (1, .ref x1), (2, .int x2), (3, .int x3)] := hl
  unfold pf_X8_applyItem at hf
  refine lv_aload_n hx hb dX8_applyItem_0 rfl (lv_at hl 0 rfl) ?_
  obtain ⟨v1, e1, hf⟩ := mw_b hf
  refine mw_getr hx hb hts inX8 hown hw (ci := 8) rfl 1 (by decide) (hts _ tw_195) rfl e1 dX8_applyItem_1 ?_
  refine lv_iload_n hx hb dX8_applyItem_4 rfl (lv_at hl 2 rfl) ?_
  obtain ⟨v2, S2, e2, hf⟩ := mw_bb hf
  obtain ⟨ho, e2⟩ := mw_v_s e2
  refine mw_calli (va_runV (As := [.int x2]) (rest := []) ⟨hx, hb, hml, hown, hts⟩ (cm_X7_digitAt l D G N S v1 x2 (v2, S2) e2) (cwV 1 hts (mw_gV tw_444 tw_445 tw_446 tw_3 tw_447) rfl rfl rfl (by decide +kernel) ⟨Nat.le_of_ble_eq_true rfl, Nat.le_of_ble_eq_true rfl⟩) (mw_preV hw (ci := 7) rfl ho) rfl rfl hl.1 rfl (lv_room (Nat.le_of_ble_eq_true rfl)) dX8_applyItem_5 ⟨(Nat.le_of_ble_eq_true rfl), (Nat.le_of_ble_eq_true rfl)⟩) hw (fun H locs hw => ?_)
  refine lv_istore hx hb dX8_applyItem_8 hl (by decide) rfl (fun ls hl => ?_)
  have hl : lv_has ls 7 [(4, .int v2), (0, .ref h0), (1, .ref x1), (2, .int x2), (3, .int x3)] := hl
  refine lv_aload_n hx hb dX8_applyItem_10 rfl (lv_at hl 2 rfl) ?_
  refine lv_iload hx hb dX8_applyItem_11 (lv_at hl 0 rfl) ?_
  refine lv_aload_n hx hb dX8_applyItem_13 rfl (lv_at hl 1 rfl) ?_
  obtain ⟨v3, e3, hf⟩ := mw_b hf
  refine mw_getr hx hb hts inX8 hown hw (ci := 8) rfl 1 (by decide) (hts _ tw_195) rfl e3 dX8_applyItem_14 ?_
  refine lv_iload_n hx hb dX8_applyItem_17 rfl (lv_at hl 3 rfl) ?_
  refine lv_iconst (v := 1) hx hb dX8_applyItem_18 (by decide) ?_
  refine lv_iadd hx hb dX8_applyItem_19 ?_
  obtain ⟨v4, S4, e4, hf⟩ := mw_bb hf
  obtain ⟨ho, e4⟩ := mw_v_s e4
  refine mw_calli (va_runV (As := [.int (x2 + 1)]) (rest := [.int v2, .ref x1]) ⟨hx, hb, hml, hown, hts⟩ (cm_X7_at l D G N S2 v3 (x2 + 1) (v4, S4) e4) (cwV 1 hts (mw_gV tw_439 tw_313 tw_314 tw_3 tw_315) rfl rfl rfl (by decide +kernel) ⟨Nat.le_of_ble_eq_true rfl, Nat.le_of_ble_eq_true rfl⟩) (mw_preV hw (ci := 7) rfl ho) rfl rfl hl.1 rfl (lv_room (Nat.le_of_ble_eq_true rfl)) dX8_applyItem_20 ⟨(Nat.le_of_ble_eq_true rfl), (Nat.le_of_ble_eq_true rfl)⟩) hw (fun H locs hw => ?_)
  refine lv_bipush (v := 43) hx hb dX8_applyItem_23 (by decide) ?_
  refine lv_icmp_ne hx hb dX8_applyItem_25 (tgt := 32) (by decide) (fun hc => ?_) (fun hc => ?_)
  · rw [if_pos hc] at hf
    refine lv_iconst (v := 0) hx hb dX8_applyItem_32 (by decide) ?_
    exact bX8_applyItem_33 ⟨hx, hb, hml, hown, hts, hr, hlocks⟩ D G N _ _ _ _ _ _ _ _ _ _ _ _ hf (lv_sub hl [1, 2, 3, 4, 0] rfl) hw
  · rw [if_neg (fun q => q hc)] at hf
    refine lv_iconst (v := 1) hx hb dX8_applyItem_28 (by decide) ?_
    refine lv_goto hx hb dX8_applyItem_29 (tgt := 33) (by decide) ?_
    exact bX8_applyItem_33 ⟨hx, hb, hml, hown, hts, hr, hlocks⟩ D G N _ _ _ _ _ _ _ _ _ _ _ _ hf (lv_sub hl [1, 2, 3, 4, 0] rfl) hw
abbrev rmX8_applyItems : Room := { frames := 3, cells := 0, slots := 0, locals := 69 }
abbrev wsX8_applyItems : List Cond := Cond.code yX8_applyItems cX8_applyItems 7 none :: lw_good
set_option maxHeartbeats 4000000 in
set_option maxRecDepth 100000 in
theorem bX8_applyItems_6 {p : Program} {l : Launch} {e : Env} {s : State} {m : MethodId} {args : Array Value} {below : List Frame} {meth : Method} {c : Code} (hC : mw_C p s m args meth c cX8_applyItems RX8 none lw_good 7) (D : va_G) (G : Nat → ClassId) (N : Nat) {A : Nat → Prop} {z : mw_M} : ∀ (n : Nat) (y0 : Nat) (y1 : Nat) (y3 : Int32) (y4 : Int32) (y5 : Int32) (S : mw_M) (H : Heap) (locs : List Loc) (ls : Array Slot), pf_X8_applyItems_6 G N n y0 y1 y3 y4 y5 S = some z → lv_has ls 7 [(0, .ref y0), (1, .ref y1), (3, .int y3), (4, .int y4), (5, .int y5)] → mw_W D vwCl (mw_tys G) mw_aos A s S H locs → W p l e (headSpec wsX8_applyItems rmX8_applyItems).room s m args below meth c H locs 0 0 (MQ below (mw_Qv D vwCl (mw_tys G) mw_aos A z) args s 0 0 A) (F0 m 6 ls []) := by
  obtain ⟨hx, hb, hml, hown, hts, hr, hlocks⟩ := hC
  intro n
  induction n with
  | zero => intro y0 y1 y3 y4 y5 S H locs ls hf; rw [pf_X8_applyItems_6] at hf; cases hf
  | succ n ih =>
    intro y0 y1 y3 y4 y5 S H locs ls hf hl hw
    rw [pf_X8_applyItems_6] at hf
    refine lv_iload hx hb dX8_applyItems_6 (lv_at hl 4 rfl) ?_
    refine lv_iload_n hx hb dX8_applyItems_8 rfl (lv_at hl 2 rfl) ?_
    refine lv_icmp_ge hx hb dX8_applyItems_9 (tgt := 41) (by decide) (fun hc => ?_) (fun hc => ?_)
    · rw [if_pos hc] at hf
      exact mw_vret hx hb hr hlocks hw hf dX8_applyItems_41
    · rw [if_neg hc] at hf
      refine lv_aload_n hx hb dX8_applyItems_12 rfl (lv_at hl 0 rfl) ?_
      refine lv_iload hx hb dX8_applyItems_13 (lv_at hl 3 rfl) ?_
      obtain ⟨v1, S1, e1, hf⟩ := mw_bb hf
      obtain ⟨ho, e1⟩ := mw_v_s e1
      refine mw_calli (va_runV (As := [.int y4]) (rest := []) ⟨hx, hb, hml, hown, hts⟩ (cm_X8_itemEnd l D G N S y0 y4 (v1, S1) e1) (cwV 1 hts (mw_gV tw_457 tw_459 tp_11 tw_1 tw_460) rfl rfl rfl (by decide +kernel) ⟨Nat.le_of_ble_eq_true rfl, Nat.le_of_ble_eq_true rfl⟩) (mw_preV hw (ci := 8) rfl ho) rfl rfl hl.1 rfl (lv_room (Nat.le_of_ble_eq_true rfl)) dX8_applyItems_15 ⟨(Nat.le_of_ble_eq_true rfl), (Nat.le_of_ble_eq_true rfl)⟩) hw (fun H locs hw => ?_)
      refine lv_istore hx hb dX8_applyItems_18 hl (by decide) rfl (fun ls hl => ?_)
      have hl : lv_has ls 7 [(6, .int v1), (0, .ref y0), (1, .ref y1), (3, .int y3), (4, .int y4), (5, .int y5)] := hl
      refine lv_aload_n hx hb dX8_applyItems_20 rfl (lv_at hl 1 rfl) ?_
      refine lv_aload_n hx hb dX8_applyItems_21 rfl (lv_at hl 2 rfl) ?_
      refine lv_iload hx hb dX8_applyItems_22 (lv_at hl 4 rfl) ?_
      refine lv_iload hx hb dX8_applyItems_24 (lv_at hl 0 rfl) ?_
      obtain ⟨S2, e2, hf⟩ := mw_b hf
      obtain ⟨ho, e2⟩ := mw_v_s e2
      refine mw_callv (va_runV (As := [.ref y1, .int y4, .int v1]) (rest := []) ⟨hx, hb, hml, hown, hts⟩ (cm_X8_applyItem l D G N S1 y0 y1 y4 v1 S2 e2) (cwV 3 hts (mw_gV tw_465 tw_467 tp_13 tw_1 tw_468) rfl rfl rfl (by decide +kernel) ⟨Nat.le_of_ble_eq_true rfl, Nat.le_of_ble_eq_true rfl⟩) (mw_preV hw (ci := 8) rfl ho) rfl rfl hl.1 rfl (lv_room (Nat.le_of_ble_eq_true rfl)) dX8_applyItems_26 ⟨(Nat.le_of_ble_eq_true rfl), (Nat.le_of_ble_eq_true rfl)⟩) hw (fun H locs hw => ?_)
      refine lv_iload hx hb dX8_applyItems_29 (lv_at hl 0 rfl) ?_
      refine lv_iconst (v := 1) hx hb dX8_applyItems_31 (by decide) ?_
      refine lv_iadd hx hb dX8_applyItems_32 ?_
      refine lv_istore hx hb dX8_applyItems_33 hl (by decide) rfl (fun ls hl => ?_)
      have hl : lv_has ls 7 [(4, .int (v1 + 1)), (6, .int v1), (0, .ref y0), (1, .ref y1), (3, .int y3), (5, .int y5)] := hl
      refine lv_iinc (k := 5) (v := (y5 + 1)) hx hb dX8_applyItems_35 hl rfl (congrArg (fun q => y5 + q) (show Int32.ofInt 1 = 1 by decide)) (by decide) rfl (fun ls hl => ?_)
      have hl : lv_has ls 7 [(5, .int (y5 + 1)), (4, .int (v1 + 1)), (6, .int v1), (0, .ref y0), (1, .ref y1), (3, .int y3)] := hl
      refine lv_goto hx hb dX8_applyItems_38 (tgt := 6) (by decide) ?_
      exact ih _ _ _ _ _ _ _ _ _ hf (lv_sub hl [3, 4, 5, 1, 0] rfl) hw
set_option maxHeartbeats 4000000 in
set_option maxRecDepth 100000 in
theorem cm_X8_applyItems (l : Launch) (D : va_G) (G : Nat → ClassId) (N : Nat) (S : mw_M) (h0 : Nat) (x1 : Nat) (x2 : Int32) (x3 : Int32) (z : mw_M) (hf : pf_X8_applyItems G N S h0 x1 x2 x3 = some z) : Met l yX8_applyItems wsX8_applyItems rmX8_applyItems (va_Pc [.ref h0, .ref x1, .int x2, .int x3] (mw_B D vwCl (mw_tys G) mw_aos S)) (mw_Qv D vwCl (mw_tys G) mw_aos (mw_A S) z) 0 0 (mw_A S) := by
  refine Met.ofW (cc := cX8_applyItems) (maxL := 7) (ret := none) (by decide) rfl ?_
  intro p e s m args below meth c s₁ B hml hv
  obtain ⟨rfl, hB⟩ := hv
  have hw := mw_begin hB
  have hx := B.exec
  have hb := B.bytes
  have hr := B.returns
  have hts : ∀ w ∈ lw_good, w.before _ s = true := fun w h => atoms_spec (ws := wsX8_applyItems) B.pre w (List.mem_cons_of_mem _ h)
  have hown : s.vm.findClass RX8 = some m.cls := findClass_of_methodNamed B.named
  have hlocks := B.notSynchronized
  have hC : mw_C p s m _ meth c cX8_applyItems RX8 none lw_good 7 := ⟨hx, hb, hml, hown, hts, hr, hlocks⟩
  have hl := lv_entry ([.ref h0, .ref x1, .int x2, .int x3]) (n := 7) (Nat.le_of_ble_eq_true rfl)
  rw [lg_entry_eq]
  generalize (lg_sl ([.ref h0, .ref x1, .int x2, .int x3]) ++ List.replicate (7 - (lg_sl ([.ref h0, .ref x1, .int x2, .int x3])).length) Slot.unset).toArray = ls at hl ⊢
  have hl : lv_has ls 7 [(0, .ref h0), (1, .ref x1), (2, .int x2), (3, .int x3)] := hl
  unfold pf_X8_applyItems at hf
  refine lv_iload_n hx hb dX8_applyItems_0 rfl (lv_at hl 2 rfl) ?_
  refine lv_istore hx hb dX8_applyItems_1 hl (by decide) rfl (fun ls hl => ?_)
  have hl : lv_has ls 7 [(4, .int x2), (0, .ref h0), (1, .ref x1), (2, .int x2), (3, .int x3)] := hl
  refine lv_iconst (v := 0) hx hb dX8_applyItems_3 (by decide) ?_
  refine lv_istore hx hb dX8_applyItems_4 hl (by decide) rfl (fun ls hl => ?_)
  have hl : lv_has ls 7 [(5, .int 0), (4, .int x2), (0, .ref h0), (1, .ref x1), (2, .int x2), (3, .int x3)] := hl
  exact bX8_applyItems_6 ⟨hx, hb, hml, hown, hts, hr, hlocks⟩ D G N N _ _ _ _ _ _ _ _ _ hf (lv_sub hl [2, 3, 5, 1, 0] rfl) hw
abbrev rmX8_carryOutPart : Room := { frames := 4, cells := 0, slots := 0, locals := 95 }
abbrev wsX8_carryOutPart : List Cond := Cond.code yX8_carryOutPart cX8_carryOutPart 5 (some .boolean) :: lw_good
set_option maxHeartbeats 4000000 in
set_option maxRecDepth 100000 in
theorem cm_X8_carryOutPart (l : Launch) (D : va_G) (G : Nat → ClassId) (N : Nat) (S : mw_M) (h0 : Nat) (x1 : Int32) (x2 : Int32) (z : Int32 × mw_M) (hf : pf_X8_carryOutPart G N S h0 x1 x2 = some z) : Met l yX8_carryOutPart wsX8_carryOutPart rmX8_carryOutPart (va_Pc [.ref h0, .int x1, .int x2] (mw_B D vwCl (mw_tys G) mw_aos S)) (mw_Qi D vwCl (mw_tys G) mw_aos (mw_A S) z) 0 0 (mw_A S) := by
  refine Met.ofW (cc := cX8_carryOutPart) (maxL := 5) (ret := (some .boolean)) (by decide) rfl ?_
  intro p e s m args below meth c s₁ B hml hv
  obtain ⟨rfl, hB⟩ := hv
  have hw := mw_begin hB
  have hx := B.exec
  have hb := B.bytes
  have hr := B.returns
  have hts : ∀ w ∈ lw_good, w.before _ s = true := fun w h => atoms_spec (ws := wsX8_carryOutPart) B.pre w (List.mem_cons_of_mem _ h)
  have hown : s.vm.findClass RX8 = some m.cls := findClass_of_methodNamed B.named
  have hlocks := B.notSynchronized
  have hC : mw_C p s m _ meth c cX8_carryOutPart RX8 (some .boolean) lw_good 5 := ⟨hx, hb, hml, hown, hts, hr, hlocks⟩
  have hl := lv_entry ([.ref h0, .int x1, .int x2]) (n := 5) (Nat.le_of_ble_eq_true rfl)
  rw [lg_entry_eq]
  generalize (lg_sl ([.ref h0, .int x1, .int x2]) ++ List.replicate (5 - (lg_sl ([.ref h0, .int x1, .int x2])).length) Slot.unset).toArray = ls at hl ⊢
  have hl : lv_has ls 5 [(0, .ref h0), (1, .int x1), (2, .int x2)] := hl
  unfold pf_X8_carryOutPart at hf
  refine lv_aload_n hx hb dX8_carryOutPart_0 rfl (lv_at hl 0 rfl) ?_
  obtain ⟨v1, e1, hf⟩ := mw_b hf
  refine mw_getr hx hb hts inX8 hown hw (ci := 8) rfl 1 (by decide) (hts _ tw_195) rfl e1 dX8_carryOutPart_1 ?_
  refine lv_iload_n hx hb dX8_carryOutPart_4 rfl (lv_at hl 1 rfl) ?_
  obtain ⟨v2, S2, e2, hf⟩ := mw_bb hf
  obtain ⟨ho, e2⟩ := mw_v_s e2
  refine mw_calli (va_runV (As := [.int x1]) (rest := []) ⟨hx, hb, hml, hown, hts⟩ (cm_X7_digitAt l D G N S v1 x1 (v2, S2) e2) (cwV 1 hts (mw_gV tw_444 tw_445 tw_446 tw_3 tw_447) rfl rfl rfl (by decide +kernel) ⟨Nat.le_of_ble_eq_true rfl, Nat.le_of_ble_eq_true rfl⟩) (mw_preV hw (ci := 7) rfl ho) rfl rfl hl.1 rfl (lv_room (Nat.le_of_ble_eq_true rfl)) dX8_carryOutPart_5 ⟨(Nat.le_of_ble_eq_true rfl), (Nat.le_of_ble_eq_true rfl)⟩) hw (fun H locs hw => ?_)
  refine lv_istore_n hx hb dX8_carryOutPart_8 rfl hl (by decide) rfl (fun ls hl => ?_)
  have hl : lv_has ls 5 [(3, .int v2), (0, .ref h0), (1, .int x1), (2, .int x2)] := hl
  refine lv_aload_n hx hb dX8_carryOutPart_9 rfl (lv_at hl 1 rfl) ?_
  refine lv_iload_n hx hb dX8_carryOutPart_10 rfl (lv_at hl 0 rfl) ?_
  obtain ⟨v3, S3, e3, hf⟩ := mw_bb hf
  obtain ⟨ho, e3⟩ := mw_v_s e3
  refine mw_calli (va_runV (As := [.int v2]) (rest := []) ⟨hx, hb, hml, hown, hts⟩ (cm_X8_isRecording l D G N S2 h0 v2 (v3, S3) e3) (cwV 1 hts (mw_gV tw_449 tw_451 tp_9 tw_1 tw_452) rfl rfl rfl (by decide +kernel) ⟨Nat.le_of_ble_eq_true rfl, Nat.le_of_ble_eq_true rfl⟩) (mw_preV hw (ci := 8) rfl ho) rfl rfl hl.1 rfl (lv_room (Nat.le_of_ble_eq_true rfl)) dX8_carryOutPart_11 ⟨(Nat.le_of_ble_eq_true rfl), (Nat.le_of_ble_eq_true rfl)⟩) hw (fun H locs hw => ?_)
  refine lv_if_eq hx hb dX8_carryOutPart_14 (tgt := 45) (by decide) (fun hc => ?_) (fun hc => ?_)
  · rw [if_pos hc] at hf
    refine lv_iconst (v := 0) hx hb dX8_carryOutPart_45 (by decide) ?_
    exact mw_zret hx hb hr hlocks hw rfl hf dX8_carryOutPart_46
  · rw [if_neg hc] at hf
    refine lv_aload_n hx hb dX8_carryOutPart_17 rfl (lv_at hl 1 rfl) ?_
    obtain ⟨v4, e4, hf⟩ := mw_b hf
    refine mw_getr hx hb hts inX8 hown hw (ci := 8) rfl 7 (by decide) (hts _ tw_201) rfl e4 dX8_carryOutPart_18 ?_
    refine lv_iload_n hx hb dX8_carryOutPart_21 rfl (lv_at hl 0 rfl) ?_
    obtain ⟨v5, e5, hf⟩ := mw_b hf
    refine mw_aald hx hb hw 5 rfl e5 dX8_carryOutPart_22 ?_
    refine lv_iconst (v := 3) hx hb dX8_carryOutPart_23 (by decide) ?_
    obtain ⟨v6, S6, e6, hf⟩ := mw_bb hf
    obtain ⟨ho, e6⟩ := mw_v_s e6
    refine mw_calli (va_runV (As := [.int 3]) (rest := []) ⟨hx, hb, hml, hown, hts⟩ (cm_X5_is l D G N S3 v5 3 (v6, S6) e6) (cwV 1 hts (mw_gV tw_284 tw_285 tw_286 tw_7 tw_287) rfl rfl rfl (by decide +kernel) ⟨Nat.le_of_ble_eq_true rfl, Nat.le_of_ble_eq_true rfl⟩) (mw_preV hw (ci := 5) rfl ho) rfl rfl hl.1 rfl (lv_room (Nat.le_of_ble_eq_true rfl)) dX8_carryOutPart_24 ⟨(Nat.le_of_ble_eq_true rfl), (Nat.le_of_ble_eq_true rfl)⟩) hw (fun H locs hw => ?_)
    refine lv_if_ne hx hb dX8_carryOutPart_27 (tgt := 45) (by decide) (fun hc => ?_) (fun hc => ?_)
    · rw [if_pos hc] at hf
      refine lv_iconst (v := 0) hx hb dX8_carryOutPart_45 (by decide) ?_
      exact mw_zret hx hb hr hlocks hw rfl hf dX8_carryOutPart_46
    · rw [if_neg (fun q => q hc)] at hf
      refine lv_aload_n hx hb dX8_carryOutPart_30 rfl (lv_at hl 1 rfl) ?_
      obtain ⟨v7, e7, hf⟩ := mw_b hf
      refine mw_getr hx hb hts inX8 hown hw (ci := 8) rfl 1 (by decide) (hts _ tw_195) rfl e7 dX8_carryOutPart_31 ?_
      refine lv_iload_n hx hb dX8_carryOutPart_34 rfl (lv_at hl 2 rfl) ?_
      refine lv_iconst (v := 1) hx hb dX8_carryOutPart_35 (by decide) ?_
      refine lv_iadd hx hb dX8_carryOutPart_36 ?_
      obtain ⟨v8, S8, e8, hf⟩ := mw_bb hf
      obtain ⟨ho, e8⟩ := mw_v_s e8
      refine mw_calli (va_runV (As := [.int (x1 + 1)]) (rest := []) ⟨hx, hb, hml, hown, hts⟩ (cm_X7_at l D G N S6 v7 (x1 + 1) (v8, S8) e8) (cwV 1 hts (mw_gV tw_439 tw_313 tw_314 tw_3 tw_315) rfl rfl rfl (by decide +kernel) ⟨Nat.le_of_ble_eq_true rfl, Nat.le_of_ble_eq_true rfl⟩) (mw_preV hw (ci := 7) rfl ho) rfl rfl hl.1 rfl (lv_room (Nat.le_of_ble_eq_true rfl)) dX8_carryOutPart_37 ⟨(Nat.le_of_ble_eq_true rfl), (Nat.le_of_ble_eq_true rfl)⟩) hw (fun H locs hw => ?_)
      refine lv_bipush (v := 58) hx hb dX8_carryOutPart_40 (by decide) ?_
      refine lv_icmp_eq hx hb dX8_carryOutPart_42 (tgt := 47) (by decide) (fun hc => ?_) (fun hc => ?_)
      · rw [if_pos hc] at hf
        refine lv_aload_n hx hb dX8_carryOutPart_47 rfl (lv_at hl 1 rfl) ?_
        refine lv_iload_n hx hb dX8_carryOutPart_48 rfl (lv_at hl 2 rfl) ?_
        refine lv_iconst (v := 2) hx hb dX8_carryOutPart_49 (by decide) ?_
        refine lv_iadd hx hb dX8_carryOutPart_50 ?_
        refine lv_iload_n hx hb dX8_carryOutPart_51 rfl (lv_at hl 3 rfl) ?_
        obtain ⟨v9, S9, e9, hf⟩ := mw_bb hf
        obtain ⟨ho, e9⟩ := mw_v_s e9
        refine mw_calli (va_runV (As := [.int (x1 + 2), .int x2]) (rest := []) ⟨hx, hb, hml, hown, hts⟩ (cm_X8_countItems l D G N S8 h0 (x1 + 2) x2 (v9, S9) e9) (cwV 2 hts (mw_gV tw_453 tw_455 tp_10 tw_1 tw_456) rfl rfl rfl (by decide +kernel) ⟨Nat.le_of_ble_eq_true rfl, Nat.le_of_ble_eq_true rfl⟩) (mw_preV hw (ci := 8) rfl ho) rfl rfl hl.1 rfl (lv_room (Nat.le_of_ble_eq_true rfl)) dX8_carryOutPart_52 ⟨(Nat.le_of_ble_eq_true rfl), (Nat.le_of_ble_eq_true rfl)⟩) hw (fun H locs hw => ?_)
        refine lv_istore hx hb dX8_carryOutPart_55 hl (by decide) rfl (fun ls hl => ?_)
        have hl : lv_has ls 5 [(4, .int v9), (3, .int v2), (0, .ref h0), (1, .int x1), (2, .int x2)] := hl
        refine lv_iload hx hb dX8_carryOutPart_57 (lv_at hl 0 rfl) ?_
        refine lv_iconst (v := (-1)) hx hb dX8_carryOutPart_59 (by decide) ?_
        refine lv_icmp_ne hx hb dX8_carryOutPart_60 (tgt := 65) (by decide) (fun hc => ?_) (fun hc => ?_)
        · rw [if_pos hc] at hf
          refine lv_aload_n hx hb dX8_carryOutPart_65 rfl (lv_at hl 2 rfl) ?_
          refine lv_aload_n hx hb dX8_carryOutPart_66 rfl (lv_at hl 2 rfl) ?_
          obtain ⟨v10, e10, hf⟩ := mw_b hf
          refine mw_getr hx hb hts inX8 hown hw (ci := 8) rfl 7 (by decide) (hts _ tw_201) rfl e10 dX8_carryOutPart_67 ?_
          refine lv_iload_n hx hb dX8_carryOutPart_70 rfl (lv_at hl 1 rfl) ?_
          obtain ⟨v11, e11, hf⟩ := mw_b hf
          refine mw_aald hx hb hw 5 rfl e11 dX8_carryOutPart_71 ?_
          refine lv_iload_n hx hb dX8_carryOutPart_72 rfl (lv_at hl 3 rfl) ?_
          refine lv_iconst (v := 2) hx hb dX8_carryOutPart_73 (by decide) ?_
          refine lv_iadd hx hb dX8_carryOutPart_74 ?_
          refine lv_iload hx hb dX8_carryOutPart_75 (lv_at hl 0 rfl) ?_
          obtain ⟨S12, e12, hf⟩ := mw_b hf
          obtain ⟨ho, e12⟩ := mw_v_s e12
          refine mw_callv (va_runV (As := [.ref v11, .int (x1 + 2), .int v9]) (rest := []) ⟨hx, hb, hml, hown, hts⟩ (cm_X8_applyItems l D G N S9 h0 v11 (x1 + 2) v9 S12 e12) (cwV 3 hts (mw_gV tw_461 tw_463 tp_12 tw_1 tw_464) rfl rfl rfl (by decide +kernel) ⟨Nat.le_of_ble_eq_true rfl, Nat.le_of_ble_eq_true rfl⟩) (mw_preV hw (ci := 8) rfl ho) rfl rfl hl.1 rfl (lv_room (Nat.le_of_ble_eq_true rfl)) dX8_carryOutPart_77 ⟨(Nat.le_of_ble_eq_true rfl), (Nat.le_of_ble_eq_true rfl)⟩) hw (fun H locs hw => ?_)
          refine lv_iconst (v := 1) hx hb dX8_carryOutPart_80 (by decide) ?_
          exact mw_zret hx hb hr hlocks hw rfl hf dX8_carryOutPart_81
        · rw [if_neg (fun q => q hc)] at hf
          refine lv_iconst (v := 0) hx hb dX8_carryOutPart_63 (by decide) ?_
          exact mw_zret hx hb hr hlocks hw rfl hf dX8_carryOutPart_64
      · rw [if_neg hc] at hf
        refine lv_iconst (v := 0) hx hb dX8_carryOutPart_45 (by decide) ?_
        exact mw_zret hx hb hr hlocks hw rfl hf dX8_carryOutPart_46
abbrev rmX8_profile : Room := { frames := 5, cells := 0, slots := 0, locals := 119 }
abbrev wsX8_profile : List Cond := Cond.code yX8_profile cX8_profile 5 (some .int) :: lw_good
set_option maxHeartbeats 4000000 in
set_option maxRecDepth 100000 in
theorem bX8_profile_66 {p : Program} {l : Launch} {e : Env} {s : State} {m : MethodId} {args : Array Value} {below : List Frame} {meth : Method} {c : Code} (hC : mw_C p s m args meth c cX8_profile RX8 (some .int) lw_good 5) (D : va_G) (G : Nat → ClassId) (N : Nat) {A : Nat → Prop} {z : Int32 × mw_M} (k9 : Nat → Int32 → Int32 → Int32 → Int32 → mw_M → Option (Int32 × mw_M)) (hk9 : ∀ (y0 : Nat) (y1 : Int32) (y2 : Int32) (y3 : Int32) (y4 : Int32) (S : mw_M) (H : Heap) (locs : List Loc) (ls : Array Slot), k9 y0 y1 y2 y3 y4 S = some z → lv_has ls 5 [(0, .ref y0), (1, .int y1), (2, .int y2), (3, .int y3), (4, .int y4)] → mw_W D vwCl (mw_tys G) mw_aos A s S H locs → W p l e (headSpec wsX8_profile rmX8_profile).room s m args below meth c H locs 0 0 (MQ below (mw_Qi D vwCl (mw_tys G) mw_aos A z) args s 0 0 A) (F0 m 9 ls [])) : ∀ (y0 : Nat) (y1 : Int32) (y2 : Int32) (y4 : Int32) (S : mw_M) (H : Heap) (locs : List Loc) (ls : Array Slot), pf_X8_profile_66 G N k9 y0 y1 y2 y4 S = some z → lv_has ls 5 [(0, .ref y0), (1, .int y1), (2, .int y2), (4, .int y4)] → mw_W D vwCl (mw_tys G) mw_aos A s S H locs → W p l e (headSpec wsX8_profile rmX8_profile).room s m args below meth c H locs 0 0 (MQ below (mw_Qi D vwCl (mw_tys G) mw_aos A z) args s 0 0 A) (F0 m 66 ls []) := by
  obtain ⟨hx, hb, hml, hown, hts, hr, hlocks⟩ := hC
  intro y0 y1 y2 y4 S H locs ls hf hl hw
  unfold pf_X8_profile_66 at hf
  refine lv_iload hx hb dX8_profile_66 (lv_at hl 3 rfl) ?_
  refine lv_iconst (v := 1) hx hb dX8_profile_68 (by decide) ?_
  refine lv_iadd hx hb dX8_profile_69 ?_
  refine lv_istore_n hx hb dX8_profile_70 rfl hl (by decide) rfl (fun ls hl => ?_)
  have hl : lv_has ls 5 [(3, .int (y4 + 1)), (0, .ref y0), (1, .int y1), (2, .int y2), (4, .int y4)] := hl
  refine lv_iinc (k := 4) (v := (y4 + 1)) hx hb dX8_profile_71 hl rfl (congrArg (fun q => y4 + q) (show Int32.ofInt 1 = 1 by decide)) (by decide) rfl (fun ls hl => ?_)
  have hl : lv_has ls 5 [(4, .int (y4 + 1)), (3, .int (y4 + 1)), (0, .ref y0), (1, .int y1), (2, .int y2)] := hl
  refine lv_goto hx hb dX8_profile_74 (tgt := 9) (by decide) ?_
  exact hk9 _ _ _ _ _ _ _ _ _ hf (lv_sub hl [2, 3, 4, 1, 0] rfl) hw
set_option maxHeartbeats 4000000 in
set_option maxRecDepth 100000 in
theorem bX8_profile_47 {p : Program} {l : Launch} {e : Env} {s : State} {m : MethodId} {args : Array Value} {below : List Frame} {meth : Method} {c : Code} (hC : mw_C p s m args meth c cX8_profile RX8 (some .int) lw_good 5) (D : va_G) (G : Nat → ClassId) (N : Nat) {A : Nat → Prop} {z : Int32 × mw_M} (k9 : Nat → Int32 → Int32 → Int32 → Int32 → mw_M → Option (Int32 × mw_M)) (hk9 : ∀ (y0 : Nat) (y1 : Int32) (y2 : Int32) (y3 : Int32) (y4 : Int32) (S : mw_M) (H : Heap) (locs : List Loc) (ls : Array Slot), k9 y0 y1 y2 y3 y4 S = some z → lv_has ls 5 [(0, .ref y0), (1, .int y1), (2, .int y2), (3, .int y3), (4, .int y4)] → mw_W D vwCl (mw_tys G) mw_aos A s S H locs → W p l e (headSpec wsX8_profile rmX8_profile).room s m args below meth c H locs 0 0 (MQ below (mw_Qi D vwCl (mw_tys G) mw_aos A z) args s 0 0 A) (F0 m 9 ls [])) : ∀ (y0 : Nat) (y1 : Int32) (y2 : Int32) (y3 : Int32) (y4 : Int32) (S : mw_M) (H : Heap) (locs : List Loc) (ls : Array Slot), pf_X8_profile_47 G N k9 y0 y1 y2 y3 y4 S = some z → lv_has ls 5 [(0, .ref y0), (1, .int y1), (2, .int y2), (3, .int y3), (4, .int y4)] → mw_W D vwCl (mw_tys G) mw_aos A s S H locs → W p l e (headSpec wsX8_profile rmX8_profile).room s m args below meth c H locs 0 0 (MQ below (mw_Qi D vwCl (mw_tys G) mw_aos A z) args s 0 0 A) (F0 m 47 ls []) := by
  obtain ⟨hx, hb, hml, hown, hts, hr, hlocks⟩ := hC
  intro y0 y1 y2 y3 y4 S H locs ls hf hl hw
  unfold pf_X8_profile_47 at hf
  refine lv_aload_n hx hb dX8_profile_47 rfl (lv_at hl 0 rfl) ?_
  refine lv_iload_n hx hb dX8_profile_48 rfl (lv_at hl 3 rfl) ?_
  refine lv_iload hx hb dX8_profile_49 (lv_at hl 4 rfl) ?_
  obtain ⟨v1, S1, e1, hf⟩ := mw_bb hf
  obtain ⟨ho, e1⟩ := mw_v_s e1
  refine mw_calli (va_runV (As := [.int y3, .int y4]) (rest := []) ⟨hx, hb, hml, hown, hts⟩ (cm_X8_carryOutPart l D G N S y0 y3 y4 (v1, S1) e1) (cwV 2 hts (mw_gV tw_440 tw_442 tp_8 tw_1 tw_443) rfl rfl rfl (by decide +kernel) ⟨Nat.le_of_ble_eq_true rfl, Nat.le_of_ble_eq_true rfl⟩) (mw_preV hw (ci := 8) rfl ho) rfl rfl hl.1 rfl (lv_room (Nat.le_of_ble_eq_true rfl)) dX8_profile_51 ⟨(Nat.le_of_ble_eq_true rfl), (Nat.le_of_ble_eq_true rfl)⟩) hw (fun H locs hw => ?_)
  refine lv_if_eq hx hb dX8_profile_54 (tgt := 63) (by decide) (fun hc => ?_) (fun hc => ?_)
  · rw [if_pos hc] at hf
    refine lv_iinc (k := 2) (v := (y2 + 1)) hx hb dX8_profile_63 hl rfl (congrArg (fun q => y2 + q) (show Int32.ofInt 1 = 1 by decide)) (by decide) rfl (fun ls hl => ?_)
    have hl : lv_has ls 5 [(2, .int (y2 + 1)), (0, .ref y0), (1, .int y1), (3, .int y3), (4, .int y4)] := hl
    exact bX8_profile_66 ⟨hx, hb, hml, hown, hts, hr, hlocks⟩ D G N k9 hk9 _ _ _ _ _ _ _ _ hf (lv_sub hl [1, 2, 0, 4] rfl) hw
  · rw [if_neg hc] at hf
    refine lv_iinc (k := 1) (v := (y1 + 1)) hx hb dX8_profile_57 hl rfl (congrArg (fun q => y1 + q) (show Int32.ofInt 1 = 1 by decide)) (by decide) rfl (fun ls hl => ?_)
    have hl : lv_has ls 5 [(1, .int (y1 + 1)), (0, .ref y0), (2, .int y2), (3, .int y3), (4, .int y4)] := hl
    refine lv_goto hx hb dX8_profile_60 (tgt := 66) (by decide) ?_
    exact bX8_profile_66 ⟨hx, hb, hml, hown, hts, hr, hlocks⟩ D G N k9 hk9 _ _ _ _ _ _ _ _ hf (lv_sub hl [1, 0, 2, 4] rfl) hw
set_option maxHeartbeats 4000000 in
set_option maxRecDepth 100000 in
theorem bX8_profile_9 {p : Program} {l : Launch} {e : Env} {s : State} {m : MethodId} {args : Array Value} {below : List Frame} {meth : Method} {c : Code} (hC : mw_C p s m args meth c cX8_profile RX8 (some .int) lw_good 5) (D : va_G) (G : Nat → ClassId) (N : Nat) {A : Nat → Prop} {z : Int32 × mw_M} : ∀ (n : Nat) (y0 : Nat) (y1 : Int32) (y2 : Int32) (y3 : Int32) (y4 : Int32) (S : mw_M) (H : Heap) (locs : List Loc) (ls : Array Slot), pf_X8_profile_9 G N n y0 y1 y2 y3 y4 S = some z → lv_has ls 5 [(0, .ref y0), (1, .int y1), (2, .int y2), (3, .int y3), (4, .int y4)] → mw_W D vwCl (mw_tys G) mw_aos A s S H locs → W p l e (headSpec wsX8_profile rmX8_profile).room s m args below meth c H locs 0 0 (MQ below (mw_Qi D vwCl (mw_tys G) mw_aos A z) args s 0 0 A) (F0 m 9 ls []) := by
  obtain ⟨hx, hb, hml, hown, hts, hr, hlocks⟩ := hC
  intro n
  induction n with
  | zero => intro y0 y1 y2 y3 y4 S H locs ls hf; rw [pf_X8_profile_9] at hf; cases hf
  | succ n ih =>
    intro y0 y1 y2 y3 y4 S H locs ls hf hl hw
    rw [pf_X8_profile_9] at hf
    refine lv_iload hx hb dX8_profile_9 (lv_at hl 4 rfl) ?_
    refine lv_aload_n hx hb dX8_profile_11 rfl (lv_at hl 0 rfl) ?_
    obtain ⟨v1, e1, hf⟩ := mw_b hf
    refine mw_getr hx hb hts inX8 hown hw (ci := 8) rfl 1 (by decide) (hts _ tw_195) rfl e1 dX8_profile_12 ?_
    obtain ⟨v2, S2, e2, hf⟩ := mw_bb hf
    obtain ⟨ho, e2⟩ := mw_v_s e2
    refine mw_calli (va_runV (As := []) (rest := [.int y4]) ⟨hx, hb, hml, hown, hts⟩ (cm_X7_length l D G N S v1 (v2, S2) e2) (cwV 0 hts (mw_gV tw_438 tw_308 tw_309 tw_3 tw_310) rfl rfl rfl (by decide +kernel) ⟨Nat.le_of_ble_eq_true rfl, Nat.le_of_ble_eq_true rfl⟩) (mw_preV hw (ci := 7) rfl ho) rfl rfl hl.1 rfl (lv_room (Nat.le_of_ble_eq_true rfl)) dX8_profile_15 ⟨(Nat.le_of_ble_eq_true rfl), (Nat.le_of_ble_eq_true rfl)⟩) hw (fun H locs hw => ?_)
    refine lv_icmp_gt hx hb dX8_profile_18 (tgt := 77) (by decide) (fun hc => ?_) (fun hc => ?_)
    · rw [if_pos hc] at hf
      refine lv_aload_n hx hb dX8_profile_77 rfl (lv_at hl 0 rfl) ?_
      obtain ⟨v3, e3, hf⟩ := mw_b hf
      refine mw_getr hx hb hts inX8 hown hw (ci := 8) rfl 1 (by decide) (hts _ tw_195) rfl e3 dX8_profile_78 ?_
      obtain ⟨S4, e4, hf⟩ := mw_b hf
      obtain ⟨ho, e4⟩ := mw_v_s e4
      refine mw_callv (va_runV (As := []) (rest := []) ⟨hx, hb, hml, hown, hts⟩ (cm_X7_clear l D G N S2 v3 S4 e4) (cwV 0 hts (mw_gV tw_386 tw_387 tw_388 tw_3 tw_389) rfl rfl rfl (by decide +kernel) ⟨Nat.le_of_ble_eq_true rfl, Nat.le_of_ble_eq_true rfl⟩) (mw_preV hw (ci := 7) rfl ho) rfl rfl hl.1 rfl (lv_room (Nat.le_of_ble_eq_true rfl)) dX8_profile_81 ⟨(Nat.le_of_ble_eq_true rfl), (Nat.le_of_ble_eq_true rfl)⟩) hw (fun H locs hw => ?_)
      refine lv_bipush (v := 10) hx hb dX8_profile_84 (by decide) ?_
      refine lv_iload_n hx hb dX8_profile_86 rfl (lv_at hl 1 rfl) ?_
      refine lv_imul hx hb dX8_profile_87 ?_
      refine lv_iload_n hx hb dX8_profile_88 rfl (lv_at hl 2 rfl) ?_
      refine lv_iadd hx hb dX8_profile_89 ?_
      exact mw_iret hx hb hr hlocks hw hf dX8_profile_90
    · rw [if_neg hc] at hf
      refine lv_iload hx hb dX8_profile_21 (lv_at hl 4 rfl) ?_
      refine lv_aload_n hx hb dX8_profile_23 rfl (lv_at hl 0 rfl) ?_
      obtain ⟨v5, e5, hf⟩ := mw_b hf
      refine mw_getr hx hb hts inX8 hown hw (ci := 8) rfl 1 (by decide) (hts _ tw_195) rfl e5 dX8_profile_24 ?_
      obtain ⟨v6, S6, e6, hf⟩ := mw_bb hf
      obtain ⟨ho, e6⟩ := mw_v_s e6
      refine mw_calli (va_runV (As := []) (rest := [.int y4]) ⟨hx, hb, hml, hown, hts⟩ (cm_X7_length l D G N S2 v5 (v6, S6) e6) (cwV 0 hts (mw_gV tw_438 tw_308 tw_309 tw_3 tw_310) rfl rfl rfl (by decide +kernel) ⟨Nat.le_of_ble_eq_true rfl, Nat.le_of_ble_eq_true rfl⟩) (mw_preV hw (ci := 7) rfl ho) rfl rfl hl.1 rfl (lv_room (Nat.le_of_ble_eq_true rfl)) dX8_profile_27 ⟨(Nat.le_of_ble_eq_true rfl), (Nat.le_of_ble_eq_true rfl)⟩) hw (fun H locs hw => ?_)
      refine lv_icmp_eq hx hb dX8_profile_30 (tgt := 47) (by decide) (fun hc => ?_) (fun hc => ?_)
      · rw [if_pos hc] at hf
        exact bX8_profile_47 ⟨hx, hb, hml, hown, hts, hr, hlocks⟩ D G N (pf_X8_profile_9 G N n) ih _ _ _ _ _ _ _ _ _ hf (lv_sub hl [0, 1, 2, 3, 4] rfl) hw
      · rw [if_neg hc] at hf
        refine lv_aload_n hx hb dX8_profile_33 rfl (lv_at hl 0 rfl) ?_
        obtain ⟨v7, e7, hf⟩ := mw_b hf
        refine mw_getr hx hb hts inX8 hown hw (ci := 8) rfl 1 (by decide) (hts _ tw_195) rfl e7 dX8_profile_34 ?_
        refine lv_iload hx hb dX8_profile_37 (lv_at hl 4 rfl) ?_
        obtain ⟨v8, S8, e8, hf⟩ := mw_bb hf
        obtain ⟨ho, e8⟩ := mw_v_s e8
        refine mw_calli (va_runV (As := [.int y4]) (rest := []) ⟨hx, hb, hml, hown, hts⟩ (cm_X7_at l D G N S6 v7 y4 (v8, S8) e8) (cwV 1 hts (mw_gV tw_439 tw_313 tw_314 tw_3 tw_315) rfl rfl rfl (by decide +kernel) ⟨Nat.le_of_ble_eq_true rfl, Nat.le_of_ble_eq_true rfl⟩) (mw_preV hw (ci := 7) rfl ho) rfl rfl hl.1 rfl (lv_room (Nat.le_of_ble_eq_true rfl)) dX8_profile_39 ⟨(Nat.le_of_ble_eq_true rfl), (Nat.le_of_ble_eq_true rfl)⟩) hw (fun H locs hw => ?_)
        refine lv_bipush (v := 124) hx hb dX8_profile_42 (by decide) ?_
        refine lv_icmp_ne hx hb dX8_profile_44 (tgt := 71) (by decide) (fun hc => ?_) (fun hc => ?_)
        · rw [if_pos hc] at hf
          refine lv_iinc (k := 4) (v := (y4 + 1)) hx hb dX8_profile_71 hl rfl (congrArg (fun q => y4 + q) (show Int32.ofInt 1 = 1 by decide)) (by decide) rfl (fun ls hl => ?_)
          have hl : lv_has ls 5 [(4, .int (y4 + 1)), (0, .ref y0), (1, .int y1), (2, .int y2), (3, .int y3)] := hl
          refine lv_goto hx hb dX8_profile_74 (tgt := 9) (by decide) ?_
          exact ih _ _ _ _ _ _ _ _ _ hf (lv_sub hl [1, 2, 3, 4, 0] rfl) hw
        · rw [if_neg (fun q => q hc)] at hf
          exact bX8_profile_47 ⟨hx, hb, hml, hown, hts, hr, hlocks⟩ D G N (pf_X8_profile_9 G N n) ih _ _ _ _ _ _ _ _ _ hf (lv_sub hl [0, 1, 2, 3, 4] rfl) hw
set_option maxHeartbeats 4000000 in
set_option maxRecDepth 100000 in
theorem cm_X8_profile (l : Launch) (D : va_G) (G : Nat → ClassId) (N : Nat) (S : mw_M) (h0 : Nat) (z : Int32 × mw_M) (hf : pf_X8_profile G N S h0 = some z) : Met l yX8_profile wsX8_profile rmX8_profile (va_Pc [.ref h0] (mw_B D vwCl (mw_tys G) mw_aos S)) (mw_Qi D vwCl (mw_tys G) mw_aos (mw_A S) z) 0 0 (mw_A S) := by
  refine Met.ofW (cc := cX8_profile) (maxL := 5) (ret := (some .int)) (by decide) rfl ?_
  intro p e s m args below meth c s₁ B hml hv
  obtain ⟨rfl, hB⟩ := hv
  have hw := mw_begin hB
  have hx := B.exec
  have hb := B.bytes
  have hr := B.returns
  have hts : ∀ w ∈ lw_good, w.before _ s = true := fun w h => atoms_spec (ws := wsX8_profile) B.pre w (List.mem_cons_of_mem _ h)
  have hown : s.vm.findClass RX8 = some m.cls := findClass_of_methodNamed B.named
  have hlocks := B.notSynchronized
  have hC : mw_C p s m _ meth c cX8_profile RX8 (some .int) lw_good 5 := ⟨hx, hb, hml, hown, hts, hr, hlocks⟩
  have hl := lv_entry ([.ref h0]) (n := 5) (Nat.le_of_ble_eq_true rfl)
  rw [lg_entry_eq]
  generalize (lg_sl ([.ref h0]) ++ List.replicate (5 - (lg_sl ([.ref h0])).length) Slot.unset).toArray = ls at hl ⊢
  have hl : lv_has ls 5 [(0, .ref h0)] := hl
  unfold pf_X8_profile at hf
  refine lv_iconst (v := 0) hx hb dX8_profile_0 (by decide) ?_
  refine lv_istore_n hx hb dX8_profile_1 rfl hl (by decide) rfl (fun ls hl => ?_)
  have hl : lv_has ls 5 [(1, .int 0), (0, .ref h0)] := hl
  refine lv_iconst (v := 0) hx hb dX8_profile_2 (by decide) ?_
  refine lv_istore_n hx hb dX8_profile_3 rfl hl (by decide) rfl (fun ls hl => ?_)
  have hl : lv_has ls 5 [(2, .int 0), (1, .int 0), (0, .ref h0)] := hl
  refine lv_iconst (v := 0) hx hb dX8_profile_4 (by decide) ?_
  refine lv_istore_n hx hb dX8_profile_5 rfl hl (by decide) rfl (fun ls hl => ?_)
  have hl : lv_has ls 5 [(3, .int 0), (2, .int 0), (1, .int 0), (0, .ref h0)] := hl
  refine lv_iconst (v := 0) hx hb dX8_profile_6 (by decide) ?_
  refine lv_istore hx hb dX8_profile_7 hl (by decide) rfl (fun ls hl => ?_)
  have hl : lv_has ls 5 [(4, .int 0), (3, .int 0), (2, .int 0), (1, .int 0), (0, .ref h0)] := hl
  exact bX8_profile_9 ⟨hx, hb, hml, hown, hts, hr, hlocks⟩ D G N N _ _ _ _ _ _ _ _ _ hf (lv_sub hl [4, 3, 2, 1, 0] rfl) hw
abbrev rmX5_runFrom : Room := { frames := 0, cells := 0, slots := 0, locals := 0 }
abbrev wsX5_runFrom : List Cond := Cond.code yX5_runFrom cX5_runFrom 2 none :: lw_good
set_option maxHeartbeats 4000000 in
set_option maxRecDepth 100000 in
theorem cm_X5_runFrom (l : Launch) (D : va_G) (G : Nat → ClassId) (N : Nat) (S : mw_M) (h0 : Nat) (x1 : Int32) (z : mw_M) (hf : pf_X5_runFrom G N S h0 x1 = some z) : Met l yX5_runFrom wsX5_runFrom rmX5_runFrom (va_Pc [.ref h0, .int x1] (mw_B D vwCl (mw_tys G) mw_aos S)) (mw_Qv D vwCl (mw_tys G) mw_aos (mw_A S) z) 0 0 (mw_A S) := by
  refine Met.ofW (cc := cX5_runFrom) (maxL := 2) (ret := none) (by decide) rfl ?_
  intro p e s m args below meth c s₁ B hml hv
  obtain ⟨rfl, hB⟩ := hv
  have hw := mw_begin hB
  have hx := B.exec
  have hb := B.bytes
  have hr := B.returns
  have hts : ∀ w ∈ lw_good, w.before _ s = true := fun w h => atoms_spec (ws := wsX5_runFrom) B.pre w (List.mem_cons_of_mem _ h)
  have hown : s.vm.findClass RX5 = some m.cls := findClass_of_methodNamed B.named
  have hlocks := B.notSynchronized
  have hC : mw_C p s m _ meth c cX5_runFrom RX5 none lw_good 2 := ⟨hx, hb, hml, hown, hts, hr, hlocks⟩
  have hl := lv_entry ([.ref h0, .int x1]) (n := 2) (Nat.le_of_ble_eq_true rfl)
  rw [lg_entry_eq]
  generalize (lg_sl ([.ref h0, .int x1]) ++ List.replicate (2 - (lg_sl ([.ref h0, .int x1])).length) Slot.unset).toArray = ls at hl ⊢
  have hl : lv_has ls 2 [(0, .ref h0), (1, .int x1)] := hl
  unfold pf_X5_runFrom at hf
  refine lv_aload_n hx hb dX5_runFrom_0 rfl (lv_at hl 0 rfl) ?_
  refine lv_iconst (v := 1) hx hb dX5_runFrom_1 (by decide) ?_
  obtain ⟨S1, e1, hf⟩ := mw_b hf
  refine mw_put hx hb hts inX5 tyX5 tyX5_ok nX5 hown hw (ci := 5) rfl 2 (by decide) (hts _ tw_109) rfl rfl (ty := .int) (by decide +kernel) rfl rfl e1 dX5_runFrom_2 (fun H locs hw => ?_)
  refine lv_aload_n hx hb dX5_runFrom_5 rfl (lv_at hl 0 rfl) ?_
  refine lv_iload_n hx hb dX5_runFrom_6 rfl (lv_at hl 1 rfl) ?_
  obtain ⟨S2, e2, hf⟩ := mw_b hf
  refine mw_put hx hb hts inX5 tyX5 tyX5_ok nX5 hown hw (ci := 5) rfl 3 (by decide) (hts _ tw_110) rfl rfl (ty := .int) (by decide +kernel) rfl rfl e2 dX5_runFrom_7 (fun H locs hw => ?_)
  exact mw_vret hx hb hr hlocks hw hf dX5_runFrom_10
abbrev rmX5_endWith : Room := { frames := 0, cells := 0, slots := 0, locals := 0 }
abbrev wsX5_endWith : List Cond := Cond.code yX5_endWith cX5_endWith 2 none :: lw_good
set_option maxHeartbeats 4000000 in
set_option maxRecDepth 100000 in
theorem cm_X5_endWith (l : Launch) (D : va_G) (G : Nat → ClassId) (N : Nat) (S : mw_M) (h0 : Nat) (x1 : Int32) (z : mw_M) (hf : pf_X5_endWith G N S h0 x1 = some z) : Met l yX5_endWith wsX5_endWith rmX5_endWith (va_Pc [.ref h0, .int x1] (mw_B D vwCl (mw_tys G) mw_aos S)) (mw_Qv D vwCl (mw_tys G) mw_aos (mw_A S) z) 0 0 (mw_A S) := by
  refine Met.ofW (cc := cX5_endWith) (maxL := 2) (ret := none) (by decide) rfl ?_
  intro p e s m args below meth c s₁ B hml hv
  obtain ⟨rfl, hB⟩ := hv
  have hw := mw_begin hB
  have hx := B.exec
  have hb := B.bytes
  have hr := B.returns
  have hts : ∀ w ∈ lw_good, w.before _ s = true := fun w h => atoms_spec (ws := wsX5_endWith) B.pre w (List.mem_cons_of_mem _ h)
  have hown : s.vm.findClass RX5 = some m.cls := findClass_of_methodNamed B.named
  have hlocks := B.notSynchronized
  have hC : mw_C p s m _ meth c cX5_endWith RX5 none lw_good 2 := ⟨hx, hb, hml, hown, hts, hr, hlocks⟩
  have hl := lv_entry ([.ref h0, .int x1]) (n := 2) (Nat.le_of_ble_eq_true rfl)
  rw [lg_entry_eq]
  generalize (lg_sl ([.ref h0, .int x1]) ++ List.replicate (2 - (lg_sl ([.ref h0, .int x1])).length) Slot.unset).toArray = ls at hl ⊢
  have hl : lv_has ls 2 [(0, .ref h0), (1, .int x1)] := hl
  unfold pf_X5_endWith at hf
  refine lv_aload_n hx hb dX5_endWith_0 rfl (lv_at hl 0 rfl) ?_
  refine lv_iconst (v := 2) hx hb dX5_endWith_1 (by decide) ?_
  obtain ⟨S1, e1, hf⟩ := mw_b hf
  refine mw_put hx hb hts inX5 tyX5 tyX5_ok nX5 hown hw (ci := 5) rfl 2 (by decide) (hts _ tw_109) rfl rfl (ty := .int) (by decide +kernel) rfl rfl e1 dX5_endWith_2 (fun H locs hw => ?_)
  refine lv_aload_n hx hb dX5_endWith_5 rfl (lv_at hl 0 rfl) ?_
  refine lv_iload_n hx hb dX5_endWith_6 rfl (lv_at hl 1 rfl) ?_
  obtain ⟨S2, e2, hf⟩ := mw_b hf
  refine mw_put hx hb hts inX5 tyX5 tyX5_ok nX5 hown hw (ci := 5) rfl 4 (by decide) (hts _ tw_111) rfl rfl (ty := .int) (by decide +kernel) rfl rfl e2 dX5_endWith_7 (fun H locs hw => ?_)
  exact mw_vret hx hb hr hlocks hw hf dX5_endWith_10
abbrev rmX8_endRecording : Room := { frames := 5, cells := 0, slots := 0, locals := 109 }
abbrev wsX8_endRecording : List Cond := Cond.code yX8_endRecording cX8_endRecording 3 (some .int) :: lw_good
set_option maxHeartbeats 4000000 in
set_option maxRecDepth 100000 in
theorem cm_X8_endRecording (l : Launch) (D : va_G) (G : Nat → ClassId) (N : Nat) (S : mw_M) (h0 : Nat) (x1 : Nat) (z : Int32 × mw_M) (hf : pf_X8_endRecording G N S h0 x1 = some z) : Met l yX8_endRecording wsX8_endRecording rmX8_endRecording (va_Pc [.ref h0, .ref x1] (mw_B D vwCl (mw_tys G) mw_aos S)) (mw_Qi D vwCl (mw_tys G) mw_aos (mw_A S) z) 0 0 (mw_A S) := by
  refine Met.ofW (cc := cX8_endRecording) (maxL := 3) (ret := (some .int)) (by decide) rfl ?_
  intro p e s m args below meth c s₁ B hml hv
  obtain ⟨rfl, hB⟩ := hv
  have hw := mw_begin hB
  have hx := B.exec
  have hb := B.bytes
  have hr := B.returns
  have hts : ∀ w ∈ lw_good, w.before _ s = true := fun w h => atoms_spec (ws := wsX8_endRecording) B.pre w (List.mem_cons_of_mem _ h)
  have hown : s.vm.findClass RX8 = some m.cls := findClass_of_methodNamed B.named
  have hlocks := B.notSynchronized
  have hC : mw_C p s m _ meth c cX8_endRecording RX8 (some .int) lw_good 3 := ⟨hx, hb, hml, hown, hts, hr, hlocks⟩
  have hl := lv_entry ([.ref h0, .ref x1]) (n := 3) (Nat.le_of_ble_eq_true rfl)
  rw [lg_entry_eq]
  generalize (lg_sl ([.ref h0, .ref x1]) ++ List.replicate (3 - (lg_sl ([.ref h0, .ref x1])).length) Slot.unset).toArray = ls at hl ⊢
  have hl : lv_has ls 3 [(0, .ref h0), (1, .ref x1)] := hl
  unfold pf_X8_endRecording at hf
  refine lv_aload_n hx hb dX8_endRecording_0 rfl (lv_at hl 0 rfl) ?_
  obtain ⟨v1, e1, hf⟩ := mw_b hf
  refine mw_getr hx hb hts inX8 hown hw (ci := 8) rfl 10 (by decide) (hts _ tw_204) rfl e1 dX8_endRecording_1 ?_
  obtain ⟨v2, S2, e2, hf⟩ := mw_bb hf
  obtain ⟨ho, e2⟩ := mw_v_s e2
  refine mw_callr (va_runV (As := []) (rest := []) ⟨hx, hb, hml, hown, hts⟩ (cm_X2_open l D G N S v1 (v2, S2) e2) (cwV 0 hts (mw_gV tw_370 tw_371 tw_372 tw_9 tw_373) rfl rfl rfl (by decide +kernel) ⟨Nat.le_of_ble_eq_true rfl, Nat.le_of_ble_eq_true rfl⟩) (mw_preV hw (ci := 2) rfl ho) rfl rfl hl.1 rfl (lv_room (Nat.le_of_ble_eq_true rfl)) dX8_endRecording_4 ⟨(Nat.le_of_ble_eq_true rfl), (Nat.le_of_ble_eq_true rfl)⟩) hw (fun H locs hw => ?_)
  obtain ⟨v3, S3, e3, hf⟩ := mw_bb hf
  obtain ⟨ho, e3⟩ := mw_v_s e3
  refine mw_calli (va_runV (As := []) (rest := []) ⟨hx, hb, hml, hown, hts⟩ (cm_X1_number l D G N S2 v2 (v3, S3) e3) (cwV 0 hts (mw_gV tw_509 tw_425 tw_426 tw_10 tw_427) rfl rfl rfl (by decide +kernel) ⟨Nat.le_of_ble_eq_true rfl, Nat.le_of_ble_eq_true rfl⟩) (mw_preV hw (ci := 1) rfl ho) rfl rfl hl.1 rfl (lv_room (Nat.le_of_ble_eq_true rfl)) dX8_endRecording_7 ⟨(Nat.le_of_ble_eq_true rfl), (Nat.le_of_ble_eq_true rfl)⟩) hw (fun H locs hw => ?_)
  refine lv_istore_n hx hb dX8_endRecording_10 rfl hl (by decide) rfl (fun ls hl => ?_)
  have hl : lv_has ls 3 [(2, .int v3), (0, .ref h0), (1, .ref x1)] := hl
  refine lv_aload_n hx hb dX8_endRecording_11 rfl (lv_at hl 1 rfl) ?_
  obtain ⟨S4, e4, hf⟩ := mw_b hf
  obtain ⟨ho, e4⟩ := mw_v_s e4
  refine mw_callv (va_runV (As := []) (rest := []) ⟨hx, hb, hml, hown, hts⟩ (cm_X8_rotate l D G N S3 h0 S4 e4) (cwV 0 hts (mw_gV tw_403 tw_405 tp_6 tw_1 tw_406) rfl rfl rfl (by decide +kernel) ⟨Nat.le_of_ble_eq_true rfl, Nat.le_of_ble_eq_true rfl⟩) (mw_preV hw (ci := 8) rfl ho) rfl rfl hl.1 rfl (lv_room (Nat.le_of_ble_eq_true rfl)) dX8_endRecording_12 ⟨(Nat.le_of_ble_eq_true rfl), (Nat.le_of_ble_eq_true rfl)⟩) hw (fun H locs hw => ?_)
  refine lv_aload_n hx hb dX8_endRecording_15 rfl (lv_at hl 2 rfl) ?_
  refine lv_iload_n hx hb dX8_endRecording_16 rfl (lv_at hl 0 rfl) ?_
  obtain ⟨S5, e5, hf⟩ := mw_b hf
  obtain ⟨ho, e5⟩ := mw_v_s e5
  refine mw_callv (va_runV (As := [.int v3]) (rest := []) ⟨hx, hb, hml, hown, hts⟩ (cm_X5_endWith l D G N S4 x1 v3 S5 e5) (cwV 1 hts (mw_gV tw_666 tw_667 tw_668 tw_7 tw_669) rfl rfl rfl (by decide +kernel) ⟨Nat.le_of_ble_eq_true rfl, Nat.le_of_ble_eq_true rfl⟩) (mw_preV hw (ci := 5) rfl ho) rfl rfl hl.1 rfl (lv_room (Nat.le_of_ble_eq_true rfl)) dX8_endRecording_17 ⟨(Nat.le_of_ble_eq_true rfl), (Nat.le_of_ble_eq_true rfl)⟩) hw (fun H locs hw => ?_)
  refine lv_iload_n hx hb dX8_endRecording_20 rfl (lv_at hl 0 rfl) ?_
  exact mw_iret hx hb hr hlocks hw hf dX8_endRecording_21
abbrev rmX5_shut : Room := { frames := 0, cells := 0, slots := 0, locals := 0 }
abbrev wsX5_shut : List Cond := Cond.code yX5_shut cX5_shut 1 none :: lw_good
set_option maxHeartbeats 4000000 in
set_option maxRecDepth 100000 in
theorem cm_X5_shut (l : Launch) (D : va_G) (G : Nat → ClassId) (N : Nat) (S : mw_M) (h0 : Nat) (z : mw_M) (hf : pf_X5_shut G N S h0 = some z) : Met l yX5_shut wsX5_shut rmX5_shut (va_Pc [.ref h0] (mw_B D vwCl (mw_tys G) mw_aos S)) (mw_Qv D vwCl (mw_tys G) mw_aos (mw_A S) z) 0 0 (mw_A S) := by
  refine Met.ofW (cc := cX5_shut) (maxL := 1) (ret := none) (by decide) rfl ?_
  intro p e s m args below meth c s₁ B hml hv
  obtain ⟨rfl, hB⟩ := hv
  have hw := mw_begin hB
  have hx := B.exec
  have hb := B.bytes
  have hr := B.returns
  have hts : ∀ w ∈ lw_good, w.before _ s = true := fun w h => atoms_spec (ws := wsX5_shut) B.pre w (List.mem_cons_of_mem _ h)
  have hown : s.vm.findClass RX5 = some m.cls := findClass_of_methodNamed B.named
  have hlocks := B.notSynchronized
  have hC : mw_C p s m _ meth c cX5_shut RX5 none lw_good 1 := ⟨hx, hb, hml, hown, hts, hr, hlocks⟩
  have hl := lv_entry ([.ref h0]) (n := 1) (Nat.le_of_ble_eq_true rfl)
  rw [lg_entry_eq]
  generalize (lg_sl ([.ref h0]) ++ List.replicate (1 - (lg_sl ([.ref h0])).length) Slot.unset).toArray = ls at hl ⊢
  have hl : lv_has ls 1 [(0, .ref h0)] := hl
  unfold pf_X5_shut at hf
  refine lv_aload_n hx hb dX5_shut_0 rfl (lv_at hl 0 rfl) ?_
  refine lv_iconst (v := 3) hx hb dX5_shut_1 (by decide) ?_
  obtain ⟨S1, e1, hf⟩ := mw_b hf
  refine mw_put hx hb hts inX5 tyX5 tyX5_ok nX5 hown hw (ci := 5) rfl 2 (by decide) (hts _ tw_109) rfl rfl (ty := .int) (by decide +kernel) rfl rfl e1 dX5_shut_2 (fun H locs hw => ?_)
  exact mw_vret hx hb hr hlocks hw hf dX5_shut_5
abbrev rmX5_firstChunk : Room := { frames := 0, cells := 0, slots := 0, locals := 0 }
abbrev wsX5_firstChunk : List Cond := Cond.code yX5_firstChunk cX5_firstChunk 1 (some .int) :: lw_good
set_option maxHeartbeats 4000000 in
set_option maxRecDepth 100000 in
theorem cm_X5_firstChunk (l : Launch) (D : va_G) (G : Nat → ClassId) (N : Nat) (S : mw_M) (h0 : Nat) (z : Int32 × mw_M) (hf : pf_X5_firstChunk G N S h0 = some z) : Met l yX5_firstChunk wsX5_firstChunk rmX5_firstChunk (va_Pc [.ref h0] (mw_B D vwCl (mw_tys G) mw_aos S)) (mw_Qi D vwCl (mw_tys G) mw_aos (mw_A S) z) 0 0 (mw_A S) := by
  refine Met.ofW (cc := cX5_firstChunk) (maxL := 1) (ret := (some .int)) (by decide) rfl ?_
  intro p e s m args below meth c s₁ B hml hv
  obtain ⟨rfl, hB⟩ := hv
  have hw := mw_begin hB
  have hx := B.exec
  have hb := B.bytes
  have hr := B.returns
  have hts : ∀ w ∈ lw_good, w.before _ s = true := fun w h => atoms_spec (ws := wsX5_firstChunk) B.pre w (List.mem_cons_of_mem _ h)
  have hown : s.vm.findClass RX5 = some m.cls := findClass_of_methodNamed B.named
  have hlocks := B.notSynchronized
  have hC : mw_C p s m _ meth c cX5_firstChunk RX5 (some .int) lw_good 1 := ⟨hx, hb, hml, hown, hts, hr, hlocks⟩
  have hl := lv_entry ([.ref h0]) (n := 1) (Nat.le_of_ble_eq_true rfl)
  rw [lg_entry_eq]
  generalize (lg_sl ([.ref h0]) ++ List.replicate (1 - (lg_sl ([.ref h0])).length) Slot.unset).toArray = ls at hl ⊢
  have hl : lv_has ls 1 [(0, .ref h0)] := hl
  unfold pf_X5_firstChunk at hf
  refine lv_aload_n hx hb dX5_firstChunk_0 rfl (lv_at hl 0 rfl) ?_
  obtain ⟨v1, e1, hf⟩ := mw_b hf
  refine mw_geti hx hb hts inX5 hown hw (ci := 5) rfl 3 (by decide) (hts _ tw_110) rfl e1 dX5_firstChunk_1 ?_
  exact mw_iret hx hb hr hlocks hw hf dX5_firstChunk_4
abbrev rmX5_lastChunk : Room := { frames := 0, cells := 0, slots := 0, locals := 0 }
abbrev wsX5_lastChunk : List Cond := Cond.code yX5_lastChunk cX5_lastChunk 1 (some .int) :: lw_good
set_option maxHeartbeats 4000000 in
set_option maxRecDepth 100000 in
theorem cm_X5_lastChunk (l : Launch) (D : va_G) (G : Nat → ClassId) (N : Nat) (S : mw_M) (h0 : Nat) (z : Int32 × mw_M) (hf : pf_X5_lastChunk G N S h0 = some z) : Met l yX5_lastChunk wsX5_lastChunk rmX5_lastChunk (va_Pc [.ref h0] (mw_B D vwCl (mw_tys G) mw_aos S)) (mw_Qi D vwCl (mw_tys G) mw_aos (mw_A S) z) 0 0 (mw_A S) := by
  refine Met.ofW (cc := cX5_lastChunk) (maxL := 1) (ret := (some .int)) (by decide) rfl ?_
  intro p e s m args below meth c s₁ B hml hv
  obtain ⟨rfl, hB⟩ := hv
  have hw := mw_begin hB
  have hx := B.exec
  have hb := B.bytes
  have hr := B.returns
  have hts : ∀ w ∈ lw_good, w.before _ s = true := fun w h => atoms_spec (ws := wsX5_lastChunk) B.pre w (List.mem_cons_of_mem _ h)
  have hown : s.vm.findClass RX5 = some m.cls := findClass_of_methodNamed B.named
  have hlocks := B.notSynchronized
  have hC : mw_C p s m _ meth c cX5_lastChunk RX5 (some .int) lw_good 1 := ⟨hx, hb, hml, hown, hts, hr, hlocks⟩
  have hl := lv_entry ([.ref h0]) (n := 1) (Nat.le_of_ble_eq_true rfl)
  rw [lg_entry_eq]
  generalize (lg_sl ([.ref h0]) ++ List.replicate (1 - (lg_sl ([.ref h0])).length) Slot.unset).toArray = ls at hl ⊢
  have hl : lv_has ls 1 [(0, .ref h0)] := hl
  unfold pf_X5_lastChunk at hf
  refine lv_aload_n hx hb dX5_lastChunk_0 rfl (lv_at hl 0 rfl) ?_
  obtain ⟨v1, e1, hf⟩ := mw_b hf
  refine mw_geti hx hb hts inX5 hown hw (ci := 5) rfl 4 (by decide) (hts _ tw_111) rfl e1 dX5_lastChunk_1 ?_
  exact mw_iret hx hb hr hlocks hw hf dX5_lastChunk_4
abbrev rmX1_countStrings : Room := { frames := 0, cells := 0, slots := 0, locals := 0 }
abbrev wsX1_countStrings : List Cond := Cond.code yX1_countStrings cX1_countStrings 3 (some .int) :: lw_good
set_option maxHeartbeats 4000000 in
set_option maxRecDepth 100000 in
theorem bX1_countStrings_4 {p : Program} {l : Launch} {e : Env} {s : State} {m : MethodId} {args : Array Value} {below : List Frame} {meth : Method} {c : Code} (hC : mw_C p s m args meth c cX1_countStrings RX1 (some .int) lw_good 3) (D : va_G) (G : Nat → ClassId) (N : Nat) {A : Nat → Prop} {z : Int32 × mw_M} : ∀ (n : Nat) (y0 : Nat) (y1 : Int32) (y2 : Int32) (S : mw_M) (H : Heap) (locs : List Loc) (ls : Array Slot), pf_X1_countStrings_4 G N n y0 y1 y2 S = some z → lv_has ls 3 [(0, .ref y0), (1, .int y1), (2, .int y2)] → mw_W D vwCl (mw_tys G) mw_aos A s S H locs → W p l e (headSpec wsX1_countStrings rmX1_countStrings).room s m args below meth c H locs 0 0 (MQ below (mw_Qi D vwCl (mw_tys G) mw_aos A z) args s 0 0 A) (F0 m 4 ls []) := by
  obtain ⟨hx, hb, hml, hown, hts, hr, hlocks⟩ := hC
  intro n
  induction n with
  | zero => intro y0 y1 y2 S H locs ls hf; rw [pf_X1_countStrings_4] at hf; cases hf
  | succ n ih =>
    intro y0 y1 y2 S H locs ls hf hl hw
    rw [pf_X1_countStrings_4] at hf
    refine lv_iload_n hx hb dX1_countStrings_4 rfl (lv_at hl 2 rfl) ?_
    refine lv_bipush (v := 24) hx hb dX1_countStrings_5 (by decide) ?_
    refine lv_icmp_ge hx hb dX1_countStrings_7 (tgt := 28) (by decide) (fun hc => ?_) (fun hc => ?_)
    · rw [if_pos hc] at hf
      refine lv_iload_n hx hb dX1_countStrings_28 rfl (lv_at hl 1 rfl) ?_
      exact mw_iret hx hb hr hlocks hw hf dX1_countStrings_29
    · rw [if_neg hc] at hf
      refine lv_aload_n hx hb dX1_countStrings_10 rfl (lv_at hl 0 rfl) ?_
      obtain ⟨v1, e1, hf⟩ := mw_b hf
      refine mw_getr hx hb hts inX1 hown hw (ci := 1) rfl 1 (by decide) (hts _ tw_159) rfl e1 dX1_countStrings_11 ?_
      refine lv_iload_n hx hb dX1_countStrings_14 rfl (lv_at hl 2 rfl) ?_
      obtain ⟨v2, e2, hf⟩ := mw_b hf
      refine mw_zald hx hb hw 3 rfl e2 dX1_countStrings_15 ?_
      refine lv_if_eq hx hb dX1_countStrings_16 (tgt := 22) (by decide) (fun hc => ?_) (fun hc => ?_)
      · rw [if_pos hc] at hf
        refine lv_iinc (k := 2) (v := (y2 + 1)) hx hb dX1_countStrings_22 hl rfl (congrArg (fun q => y2 + q) (show Int32.ofInt 1 = 1 by decide)) (by decide) rfl (fun ls hl => ?_)
        have hl : lv_has ls 3 [(2, .int (y2 + 1)), (0, .ref y0), (1, .int y1)] := hl
        refine lv_goto hx hb dX1_countStrings_25 (tgt := 4) (by decide) ?_
        exact ih _ _ _ _ _ _ _ hf (lv_sub hl [1, 2, 0] rfl) hw
      · rw [if_neg hc] at hf
        refine lv_iinc (k := 1) (v := (y1 + 1)) hx hb dX1_countStrings_19 hl rfl (congrArg (fun q => y1 + q) (show Int32.ofInt 1 = 1 by decide)) (by decide) rfl (fun ls hl => ?_)
        have hl : lv_has ls 3 [(1, .int (y1 + 1)), (0, .ref y0), (2, .int y2)] := hl
        refine lv_iinc (k := 2) (v := (y2 + 1)) hx hb dX1_countStrings_22 hl rfl (congrArg (fun q => y2 + q) (show Int32.ofInt 1 = 1 by decide)) (by decide) rfl (fun ls hl => ?_)
        have hl : lv_has ls 3 [(2, .int (y2 + 1)), (1, .int (y1 + 1)), (0, .ref y0)] := hl
        refine lv_goto hx hb dX1_countStrings_25 (tgt := 4) (by decide) ?_
        exact ih _ _ _ _ _ _ _ hf (lv_sub hl [2, 1, 0] rfl) hw
set_option maxHeartbeats 4000000 in
set_option maxRecDepth 100000 in
theorem cm_X1_countStrings (l : Launch) (D : va_G) (G : Nat → ClassId) (N : Nat) (S : mw_M) (h0 : Nat) (z : Int32 × mw_M) (hf : pf_X1_countStrings G N S h0 = some z) : Met l yX1_countStrings wsX1_countStrings rmX1_countStrings (va_Pc [.ref h0] (mw_B D vwCl (mw_tys G) mw_aos S)) (mw_Qi D vwCl (mw_tys G) mw_aos (mw_A S) z) 0 0 (mw_A S) := by
  refine Met.ofW (cc := cX1_countStrings) (maxL := 3) (ret := (some .int)) (by decide) rfl ?_
  intro p e s m args below meth c s₁ B hml hv
  obtain ⟨rfl, hB⟩ := hv
  have hw := mw_begin hB
  have hx := B.exec
  have hb := B.bytes
  have hr := B.returns
  have hts : ∀ w ∈ lw_good, w.before _ s = true := fun w h => atoms_spec (ws := wsX1_countStrings) B.pre w (List.mem_cons_of_mem _ h)
  have hown : s.vm.findClass RX1 = some m.cls := findClass_of_methodNamed B.named
  have hlocks := B.notSynchronized
  have hC : mw_C p s m _ meth c cX1_countStrings RX1 (some .int) lw_good 3 := ⟨hx, hb, hml, hown, hts, hr, hlocks⟩
  have hl := lv_entry ([.ref h0]) (n := 3) (Nat.le_of_ble_eq_true rfl)
  rw [lg_entry_eq]
  generalize (lg_sl ([.ref h0]) ++ List.replicate (3 - (lg_sl ([.ref h0])).length) Slot.unset).toArray = ls at hl ⊢
  have hl : lv_has ls 3 [(0, .ref h0)] := hl
  unfold pf_X1_countStrings at hf
  refine lv_iconst (v := 0) hx hb dX1_countStrings_0 (by decide) ?_
  refine lv_istore_n hx hb dX1_countStrings_1 rfl hl (by decide) rfl (fun ls hl => ?_)
  have hl : lv_has ls 3 [(1, .int 0), (0, .ref h0)] := hl
  refine lv_iconst (v := 0) hx hb dX1_countStrings_2 (by decide) ?_
  refine lv_istore_n hx hb dX1_countStrings_3 rfl hl (by decide) rfl (fun ls hl => ?_)
  have hl : lv_has ls 3 [(2, .int 0), (1, .int 0), (0, .ref h0)] := hl
  exact bX1_countStrings_4 ⟨hx, hb, hml, hown, hts, hr, hlocks⟩ D G N N _ _ _ _ _ _ _ hf (lv_sub hl [2, 1, 0] rfl) hw
