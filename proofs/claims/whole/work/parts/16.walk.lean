abbrev rmX9_start : Room := { frames := 3, cells := 0, slots := 0, locals := 68 }
abbrev wsX9_start : List Cond := Cond.code yX9_start cX9_start 2 (some .int) :: lw_good
set_option maxHeartbeats 4000000 in
set_option maxRecDepth 100000 in
theorem bX9_start_27 {p : Program} {l : Launch} {e : Env} {s : State} {m : MethodId} {args : Array Value} {below : List Frame} {meth : Method} {c : Code} (hC : mw_C p s m args meth c cX9_start RX9 (some .int) lw_good 2) (D : va_G) (G : Nat → ClassId) (N : Nat) {b : Nat} {S0 : mw_M} {z : Int32 × mm_M} : ∀ (y1 : Int32) (w1 : Int32) (S : mm_M) (H : Heap) (locs : List Loc) (ls : Array Slot), pf_X9_start_27 G N y1 w1 S = some z → lv_has ls 2 [(0, .ref b), (1, .int y1)] → mm_W D vwCl (mw_tys G) mw_aos s G b S0 S H locs → W p l e (headSpec wsX9_start rmX9_start).room s m args below meth c H locs 0 0 (MQ below (mm_Qi D vwCl (mw_tys G) mw_aos G b S0 z) args s 0 0 (mm_A b S0)) (F0 m 27 ls [.int w1, .ref b]) := by
  obtain ⟨hx, hb, hml, hown, hts, hr, hlocks⟩ := hC
  intro y1 w1 S H locs ls hf hl hw
  unfold pf_X9_start_27 at hf
  obtain ⟨S1, e1, hf⟩ := mw_b hf
  refine mm_put hx hb hts inX9 tyX9 tyX9_ok nX9 hown hw rfl 4 (by decide) (hts _ tw_727) rfl rfl (by decide +kernel) (by decide) (mm_st4 _) e1 dX9_start_27 (fun H locs hw => ?_)
  refine lv_aload_n hx hb dX9_start_30 rfl (lv_at hl 0 rfl) ?_
  refine mm_geti hx hb hts inX9 hown hw rfl 4 (by decide) (hts _ tw_727) rfl (fun _ _ => rfl) dX9_start_31 ?_
  refine lv_if_le hx hb dX9_start_34 (tgt := 39) (by decide) (fun hc => ?_) (fun hc => ?_)
  · rw [if_pos hc] at hf
    refine lv_aload_n hx hb dX9_start_39 rfl (lv_at hl 0 rfl) ?_
    obtain ⟨S2, e2, hf⟩ := mw_b hf
    refine mm_callv (va_runV (As := []) (rest := []) ⟨hx, hb, hml, hown, hts⟩ (cm_X9_rotate l D G N b S0 S1 S2 e2) (cwV 0 hts (mw_gV tw_902 tw_904 tp_23 tw_11 tw_905) rfl rfl rfl (by decide +kernel) ⟨Nat.le_of_ble_eq_true rfl, Nat.le_of_ble_eq_true rfl⟩) (mm_preV hw rfl) rfl rfl hl.1 rfl (lv_room (Nat.le_of_ble_eq_true rfl)) dX9_start_40 ⟨(Nat.le_of_ble_eq_true rfl), (Nat.le_of_ble_eq_true rfl)⟩) hw (fun H locs hw => ?_)
    refine lv_aload_n hx hb dX9_start_43 rfl (lv_at hl 0 rfl) ?_
    refine mm_getr hx hb hts inX9 hown hw rfl 30 (by decide) (hts _ tw_753) rfl 18 (fun _ _ => rfl) dX9_start_44 ?_
    refine lv_iload_n hx hb dX9_start_47 rfl (lv_at hl 1 rfl) ?_
    refine lv_iconst (v := 1) hx hb dX9_start_48 (by decide) ?_
    obtain ⟨S3, e3, hf⟩ := mw_b hf
    refine mm_iast hx hb hw 18 (by decide) 0 rfl e3 dX9_start_49 (fun H locs hw => ?_)
    refine lv_aload_n hx hb dX9_start_50 rfl (lv_at hl 0 rfl) ?_
    refine mm_getr hx hb hts inX9 hown hw rfl 33 (by decide) (hts _ tw_756) rfl 21 (fun _ _ => rfl) dX9_start_51 ?_
    refine lv_iload_n hx hb dX9_start_54 rfl (lv_at hl 1 rfl) ?_
    refine lv_aload_n hx hb dX9_start_55 rfl (lv_at hl 0 rfl) ?_
    refine mm_getr hx hb hts inX9 hown hw rfl 23 (by decide) (hts _ tw_746) rfl 12 (fun _ _ => rfl) dX9_start_56 ?_
    refine lv_bipush (v := 6) hx hb dX9_start_59 (by decide) ?_
    obtain ⟨v4, e4, hf⟩ := mw_b hf
    refine mm_iald hx hb hw 12 (by decide) 0 rfl e4 dX9_start_61 ?_
    obtain ⟨S5, e5, hf⟩ := mw_b hf
    refine mm_iast hx hb hw 21 (by decide) 0 rfl e5 dX9_start_62 (fun H locs hw => ?_)
    refine lv_aload_n hx hb dX9_start_63 rfl (lv_at hl 0 rfl) ?_
    refine mm_getr hx hb hts inX9 hown hw rfl 23 (by decide) (hts _ tw_746) rfl 12 (fun _ _ => rfl) dX9_start_64 ?_
    refine lv_bipush (v := 6) hx hb dX9_start_67 (by decide) ?_
    obtain ⟨v6, e6, hf⟩ := mw_b hf
    refine mm_iald hx hb hw 12 (by decide) 0 rfl e6 dX9_start_69 ?_
    exact mm_iret hx hb hr hlocks hw hf dX9_start_70
  · rw [if_neg hc] at hf
    refine lv_iconst (v := 0) hx hb dX9_start_37 (by decide) ?_
    exact mm_iret hx hb hr hlocks hw hf dX9_start_38
set_option maxHeartbeats 4000000 in
set_option maxRecDepth 100000 in
theorem cm_X9_start (l : Launch) (D : va_G) (G : Nat → ClassId) (N : Nat) (b : Nat) (S0 : mw_M) (S : mm_M) (x1 : Int32) (z : Int32 × mm_M) (hf : pf_X9_start G N S x1 = some z) : Met l yX9_start wsX9_start rmX9_start (va_Pc [.ref b, .int x1] (mm_B D vwCl (mw_tys G) mw_aos G b S0 S)) (mm_Qi D vwCl (mw_tys G) mw_aos G b S0 z) 0 0 (mm_A b S0) := by
  refine Met.ofW (cc := cX9_start) (maxL := 2) (ret := (some .int)) (by decide) rfl ?_
  intro p e s m args below meth c s₁ B hml hv
  obtain ⟨rfl, hB⟩ := hv
  have hw := mm_begin hB
  have hx := B.exec
  have hb := B.bytes
  have hr := B.returns
  have hts : ∀ w ∈ lw_good, w.before _ s = true := fun w h => atoms_spec (ws := wsX9_start) B.pre w (List.mem_cons_of_mem _ h)
  have hown : s.vm.findClass RX9 = some m.cls := findClass_of_methodNamed B.named
  have hlocks := B.notSynchronized
  have hC : mw_C p s m _ meth c cX9_start RX9 (some .int) lw_good 2 := ⟨hx, hb, hml, hown, hts, hr, hlocks⟩
  have hl := lv_entry ([.ref b, .int x1]) (n := 2) (Nat.le_of_ble_eq_true rfl)
  rw [lg_entry_eq]
  generalize (lg_sl ([.ref b, .int x1]) ++ List.replicate (2 - (lg_sl ([.ref b, .int x1])).length) Slot.unset).toArray = ls at hl ⊢
  have hl : lv_has ls 2 [(0, .ref b), (1, .int x1)] := hl
  unfold pf_X9_start at hf
  refine lv_aload_n hx hb dX9_start_0 rfl (lv_at hl 0 rfl) ?_
  refine lv_aload_n hx hb dX9_start_1 rfl (lv_at hl 0 rfl) ?_
  refine lv_iload_n hx hb dX9_start_2 rfl (lv_at hl 1 rfl) ?_
  obtain ⟨v1, S1, e1, hf⟩ := mw_bb hf
  refine mm_calli (va_runV (As := [.int x1]) (rest := [.ref b]) ⟨hx, hb, hml, hown, hts⟩ (cm_X9_isRecording l D G N b S0 S x1 (v1, S1) e1) (cwV 1 hts (mw_gV tw_938 tw_940 tp_30 tw_11 tw_941) rfl rfl rfl (by decide +kernel) ⟨Nat.le_of_ble_eq_true rfl, Nat.le_of_ble_eq_true rfl⟩) (mm_preV hw rfl) rfl rfl hl.1 rfl (lv_room (Nat.le_of_ble_eq_true rfl)) dX9_start_3 ⟨(Nat.le_of_ble_eq_true rfl), (Nat.le_of_ble_eq_true rfl)⟩) hw (fun H locs hw => ?_)
  refine lv_if_ne hx hb dX9_start_6 (tgt := 13) (by decide) (fun hc => ?_) (fun hc => ?_)
  · rw [if_pos hc] at hf
    refine lv_aload_n hx hb dX9_start_13 rfl (lv_at hl 0 rfl) ?_
    refine mm_getr hx hb hts inX9 hown hw rfl 30 (by decide) (hts _ tw_753) rfl 18 (fun _ _ => rfl) dX9_start_14 ?_
    refine lv_iload_n hx hb dX9_start_17 rfl (lv_at hl 1 rfl) ?_
    obtain ⟨v2, e2, hf⟩ := mw_b hf
    refine mm_iald hx hb hw 18 (by decide) 0 rfl e2 dX9_start_18 ?_
    refine lv_if_eq hx hb dX9_start_19 (tgt := 26) (by decide) (fun hc => ?_) (fun hc => ?_)
    · rw [if_pos hc] at hf
      refine lv_iconst (v := 0) hx hb dX9_start_26 (by decide) ?_
      exact bX9_start_27 ⟨hx, hb, hml, hown, hts, hr, hlocks⟩ D G N _ _ _ _ _ _ hf (lv_sub hl [0, 1] rfl) hw
    · rw [if_neg hc] at hf
      refine lv_iconst (v := 2) hx hb dX9_start_22 (by decide) ?_
      refine lv_goto hx hb dX9_start_23 (tgt := 27) (by decide) ?_
      exact bX9_start_27 ⟨hx, hb, hml, hown, hts, hr, hlocks⟩ D G N _ _ _ _ _ _ hf (lv_sub hl [0, 1] rfl) hw
  · rw [if_neg (fun q => q hc)] at hf
    refine lv_iconst (v := 1) hx hb dX9_start_9 (by decide) ?_
    refine lv_goto hx hb dX9_start_10 (tgt := 27) (by decide) ?_
    exact bX9_start_27 ⟨hx, hb, hml, hown, hts, hr, hlocks⟩ D G N _ _ _ _ _ _ hf (lv_sub hl [0, 1] rfl) hw
abbrev rmX9_end : Room := { frames := 3, cells := 0, slots := 0, locals := 68 }
abbrev wsX9_end : List Cond := Cond.code yX9_end cX9_end 2 (some .int) :: lw_good
set_option maxHeartbeats 4000000 in
set_option maxRecDepth 100000 in
theorem cm_X9_end (l : Launch) (D : va_G) (G : Nat → ClassId) (N : Nat) (b : Nat) (S0 : mw_M) (S : mm_M) (x1 : Int32) (z : Int32 × mm_M) (hf : pf_X9_end G N S x1 = some z) : Met l yX9_end wsX9_end rmX9_end (va_Pc [.ref b, .int x1] (mm_B D vwCl (mw_tys G) mw_aos G b S0 S)) (mm_Qi D vwCl (mw_tys G) mw_aos G b S0 z) 0 0 (mm_A b S0) := by
  refine Met.ofW (cc := cX9_end) (maxL := 2) (ret := (some .int)) (by decide) rfl ?_
  intro p e s m args below meth c s₁ B hml hv
  obtain ⟨rfl, hB⟩ := hv
  have hw := mm_begin hB
  have hx := B.exec
  have hb := B.bytes
  have hr := B.returns
  have hts : ∀ w ∈ lw_good, w.before _ s = true := fun w h => atoms_spec (ws := wsX9_end) B.pre w (List.mem_cons_of_mem _ h)
  have hown : s.vm.findClass RX9 = some m.cls := findClass_of_methodNamed B.named
  have hlocks := B.notSynchronized
  have hC : mw_C p s m _ meth c cX9_end RX9 (some .int) lw_good 2 := ⟨hx, hb, hml, hown, hts, hr, hlocks⟩
  have hl := lv_entry ([.ref b, .int x1]) (n := 2) (Nat.le_of_ble_eq_true rfl)
  rw [lg_entry_eq]
  generalize (lg_sl ([.ref b, .int x1]) ++ List.replicate (2 - (lg_sl ([.ref b, .int x1])).length) Slot.unset).toArray = ls at hl ⊢
  have hl : lv_has ls 2 [(0, .ref b), (1, .int x1)] := hl
  unfold pf_X9_end at hf
  refine lv_aload_n hx hb dX9_end_0 rfl (lv_at hl 0 rfl) ?_
  refine mm_getr hx hb hts inX9 hown hw rfl 34 (by decide) (hts _ tw_757) rfl 22 (fun _ _ => rfl) dX9_end_1 ?_
  refine lv_iload_n hx hb dX9_end_4 rfl (lv_at hl 1 rfl) ?_
  refine lv_aload_n hx hb dX9_end_5 rfl (lv_at hl 0 rfl) ?_
  refine mm_getr hx hb hts inX9 hown hw rfl 23 (by decide) (hts _ tw_746) rfl 12 (fun _ _ => rfl) dX9_end_6 ?_
  refine lv_bipush (v := 6) hx hb dX9_end_9 (by decide) ?_
  obtain ⟨v1, e1, hf⟩ := mw_b hf
  refine mm_iald hx hb hw 12 (by decide) 0 rfl e1 dX9_end_11 ?_
  obtain ⟨S2, e2, hf⟩ := mw_b hf
  refine mm_iast hx hb hw 22 (by decide) 0 rfl e2 dX9_end_12 (fun H locs hw => ?_)
  refine lv_aload_n hx hb dX9_end_13 rfl (lv_at hl 0 rfl) ?_
  obtain ⟨S3, e3, hf⟩ := mw_b hf
  refine mm_callv (va_runV (As := []) (rest := []) ⟨hx, hb, hml, hown, hts⟩ (cm_X9_rotate l D G N b S0 S2 S3 e3) (cwV 0 hts (mw_gV tw_902 tw_904 tp_23 tw_11 tw_905) rfl rfl rfl (by decide +kernel) ⟨Nat.le_of_ble_eq_true rfl, Nat.le_of_ble_eq_true rfl⟩) (mm_preV hw rfl) rfl rfl hl.1 rfl (lv_room (Nat.le_of_ble_eq_true rfl)) dX9_end_14 ⟨(Nat.le_of_ble_eq_true rfl), (Nat.le_of_ble_eq_true rfl)⟩) hw (fun H locs hw => ?_)
  refine lv_aload_n hx hb dX9_end_17 rfl (lv_at hl 0 rfl) ?_
  refine mm_getr hx hb hts inX9 hown hw rfl 30 (by decide) (hts _ tw_753) rfl 18 (fun _ _ => rfl) dX9_end_18 ?_
  refine lv_iload_n hx hb dX9_end_21 rfl (lv_at hl 1 rfl) ?_
  refine lv_iconst (v := 2) hx hb dX9_end_22 (by decide) ?_
  obtain ⟨S4, e4, hf⟩ := mw_b hf
  refine mm_iast hx hb hw 18 (by decide) 0 rfl e4 dX9_end_23 (fun H locs hw => ?_)
  refine lv_aload_n hx hb dX9_end_24 rfl (lv_at hl 0 rfl) ?_
  refine mm_getr hx hb hts inX9 hown hw rfl 34 (by decide) (hts _ tw_757) rfl 22 (fun _ _ => rfl) dX9_end_25 ?_
  refine lv_iload_n hx hb dX9_end_28 rfl (lv_at hl 1 rfl) ?_
  obtain ⟨v5, e5, hf⟩ := mw_b hf
  refine mm_iald hx hb hw 22 (by decide) 0 rfl e5 dX9_end_29 ?_
  exact mm_iret hx hb hr hlocks hw hf dX9_end_30
abbrev rmX9_stop : Room := { frames := 4, cells := 0, slots := 0, locals := 89 }
abbrev wsX9_stop : List Cond := Cond.code yX9_stop cX9_stop 2 (some .int) :: lw_good
set_option maxHeartbeats 4000000 in
set_option maxRecDepth 100000 in
theorem bX9_stop_28 {p : Program} {l : Launch} {e : Env} {s : State} {m : MethodId} {args : Array Value} {below : List Frame} {meth : Method} {c : Code} (hC : mw_C p s m args meth c cX9_stop RX9 (some .int) lw_good 2) (D : va_G) (G : Nat → ClassId) (N : Nat) {b : Nat} {S0 : mw_M} {z : Int32 × mm_M} : ∀ (y1 : Int32) (w1 : Int32) (S : mm_M) (H : Heap) (locs : List Loc) (ls : Array Slot), pf_X9_stop_28 G N y1 w1 S = some z → lv_has ls 2 [(0, .ref b), (1, .int y1)] → mm_W D vwCl (mw_tys G) mw_aos s G b S0 S H locs → W p l e (headSpec wsX9_stop rmX9_stop).room s m args below meth c H locs 0 0 (MQ below (mm_Qi D vwCl (mw_tys G) mw_aos G b S0 z) args s 0 0 (mm_A b S0)) (F0 m 28 ls [.int w1, .ref b]) := by
  obtain ⟨hx, hb, hml, hown, hts, hr, hlocks⟩ := hC
  intro y1 w1 S H locs ls hf hl hw
  unfold pf_X9_stop_28 at hf
  obtain ⟨S1, e1, hf⟩ := mw_b hf
  refine mm_put hx hb hts inX9 tyX9 tyX9_ok nX9 hown hw rfl 4 (by decide) (hts _ tw_727) rfl rfl (by decide +kernel) (by decide) (mm_st4 _) e1 dX9_stop_28 (fun H locs hw => ?_)
  refine lv_aload_n hx hb dX9_stop_31 rfl (lv_at hl 0 rfl) ?_
  refine mm_geti hx hb hts inX9 hown hw rfl 4 (by decide) (hts _ tw_727) rfl (fun _ _ => rfl) dX9_stop_32 ?_
  refine lv_if_le hx hb dX9_stop_35 (tgt := 42) (by decide) (fun hc => ?_) (fun hc => ?_)
  · rw [if_pos hc] at hf
    refine lv_aload_n hx hb dX9_stop_42 rfl (lv_at hl 0 rfl) ?_
    refine lv_iload_n hx hb dX9_stop_43 rfl (lv_at hl 1 rfl) ?_
    obtain ⟨v2, S2, e2, hf⟩ := mw_bb hf
    refine mm_calli (va_runV (As := [.int y1]) (rest := []) ⟨hx, hb, hml, hown, hts⟩ (cm_X9_end l D G N b S0 S1 y1 (v2, S2) e2) (cwV 1 hts (mw_gV tw_958 tw_960 tp_32 tw_11 tw_961) rfl rfl rfl (by decide +kernel) ⟨Nat.le_of_ble_eq_true rfl, Nat.le_of_ble_eq_true rfl⟩) (mm_preV hw rfl) rfl rfl hl.1 rfl (lv_room (Nat.le_of_ble_eq_true rfl)) dX9_stop_44 ⟨(Nat.le_of_ble_eq_true rfl), (Nat.le_of_ble_eq_true rfl)⟩) hw (fun H locs hw => ?_)
    exact mm_iret hx hb hr hlocks hw hf dX9_stop_47
  · rw [if_neg hc] at hf
    refine lv_iconst (v := 0) hx hb dX9_stop_38 (by decide) ?_
    refine lv_goto hx hb dX9_stop_39 (tgt := 47) (by decide) ?_
    exact mm_iret hx hb hr hlocks hw hf dX9_stop_47
set_option maxHeartbeats 4000000 in
set_option maxRecDepth 100000 in
theorem cm_X9_stop (l : Launch) (D : va_G) (G : Nat → ClassId) (N : Nat) (b : Nat) (S0 : mw_M) (S : mm_M) (x1 : Int32) (z : Int32 × mm_M) (hf : pf_X9_stop G N S x1 = some z) : Met l yX9_stop wsX9_stop rmX9_stop (va_Pc [.ref b, .int x1] (mm_B D vwCl (mw_tys G) mw_aos G b S0 S)) (mm_Qi D vwCl (mw_tys G) mw_aos G b S0 z) 0 0 (mm_A b S0) := by
  refine Met.ofW (cc := cX9_stop) (maxL := 2) (ret := (some .int)) (by decide) rfl ?_
  intro p e s m args below meth c s₁ B hml hv
  obtain ⟨rfl, hB⟩ := hv
  have hw := mm_begin hB
  have hx := B.exec
  have hb := B.bytes
  have hr := B.returns
  have hts : ∀ w ∈ lw_good, w.before _ s = true := fun w h => atoms_spec (ws := wsX9_stop) B.pre w (List.mem_cons_of_mem _ h)
  have hown : s.vm.findClass RX9 = some m.cls := findClass_of_methodNamed B.named
  have hlocks := B.notSynchronized
  have hC : mw_C p s m _ meth c cX9_stop RX9 (some .int) lw_good 2 := ⟨hx, hb, hml, hown, hts, hr, hlocks⟩
  have hl := lv_entry ([.ref b, .int x1]) (n := 2) (Nat.le_of_ble_eq_true rfl)
  rw [lg_entry_eq]
  generalize (lg_sl ([.ref b, .int x1]) ++ List.replicate (2 - (lg_sl ([.ref b, .int x1])).length) Slot.unset).toArray = ls at hl ⊢
  have hl : lv_has ls 2 [(0, .ref b), (1, .int x1)] := hl
  unfold pf_X9_stop at hf
  refine lv_aload_n hx hb dX9_stop_0 rfl (lv_at hl 0 rfl) ?_
  refine lv_aload_n hx hb dX9_stop_1 rfl (lv_at hl 0 rfl) ?_
  refine lv_iload_n hx hb dX9_stop_2 rfl (lv_at hl 1 rfl) ?_
  obtain ⟨v1, S1, e1, hf⟩ := mw_bb hf
  refine mm_calli (va_runV (As := [.int x1]) (rest := [.ref b]) ⟨hx, hb, hml, hown, hts⟩ (cm_X9_isRecording l D G N b S0 S x1 (v1, S1) e1) (cwV 1 hts (mw_gV tw_938 tw_940 tp_30 tw_11 tw_941) rfl rfl rfl (by decide +kernel) ⟨Nat.le_of_ble_eq_true rfl, Nat.le_of_ble_eq_true rfl⟩) (mm_preV hw rfl) rfl rfl hl.1 rfl (lv_room (Nat.le_of_ble_eq_true rfl)) dX9_stop_3 ⟨(Nat.le_of_ble_eq_true rfl), (Nat.le_of_ble_eq_true rfl)⟩) hw (fun H locs hw => ?_)
  refine lv_if_ne hx hb dX9_stop_6 (tgt := 13) (by decide) (fun hc => ?_) (fun hc => ?_)
  · rw [if_pos hc] at hf
    refine lv_aload_n hx hb dX9_stop_13 rfl (lv_at hl 0 rfl) ?_
    refine mm_getr hx hb hts inX9 hown hw rfl 30 (by decide) (hts _ tw_753) rfl 18 (fun _ _ => rfl) dX9_stop_14 ?_
    refine lv_iload_n hx hb dX9_stop_17 rfl (lv_at hl 1 rfl) ?_
    obtain ⟨v2, e2, hf⟩ := mw_b hf
    refine mm_iald hx hb hw 18 (by decide) 0 rfl e2 dX9_stop_18 ?_
    refine lv_iconst (v := 1) hx hb dX9_stop_19 (by decide) ?_
    refine lv_icmp_eq hx hb dX9_stop_20 (tgt := 27) (by decide) (fun hc => ?_) (fun hc => ?_)
    · rw [if_pos hc] at hf
      refine lv_iconst (v := 0) hx hb dX9_stop_27 (by decide) ?_
      exact bX9_stop_28 ⟨hx, hb, hml, hown, hts, hr, hlocks⟩ D G N _ _ _ _ _ _ hf (lv_sub hl [0, 1] rfl) hw
    · rw [if_neg hc] at hf
      refine lv_iconst (v := 2) hx hb dX9_stop_23 (by decide) ?_
      refine lv_goto hx hb dX9_stop_24 (tgt := 28) (by decide) ?_
      exact bX9_stop_28 ⟨hx, hb, hml, hown, hts, hr, hlocks⟩ D G N _ _ _ _ _ _ hf (lv_sub hl [0, 1] rfl) hw
  · rw [if_neg (fun q => q hc)] at hf
    refine lv_iconst (v := 1) hx hb dX9_stop_9 (by decide) ?_
    refine lv_goto hx hb dX9_stop_10 (tgt := 28) (by decide) ?_
    exact bX9_stop_28 ⟨hx, hb, hml, hown, hts, hr, hlocks⟩ D G N _ _ _ _ _ _ hf (lv_sub hl [0, 1] rfl) hw
abbrev rmX9_close : Room := { frames := 4, cells := 0, slots := 0, locals := 89 }
abbrev wsX9_close : List Cond := Cond.code yX9_close cX9_close 4 (some .boolean) :: lw_good
set_option maxHeartbeats 4000000 in
set_option maxRecDepth 100000 in
theorem bX9_close_66 {p : Program} {l : Launch} {e : Env} {s : State} {m : MethodId} {args : Array Value} {below : List Frame} {meth : Method} {c : Code} (hC : mw_C p s m args meth c cX9_close RX9 (some .boolean) lw_good 4) (D : va_G) (G : Nat → ClassId) (N : Nat) {b : Nat} {S0 : mw_M} {z : Int32 × mm_M} : ∀ (y1 : Int32) (y2 : Int32) (S : mm_M) (H : Heap) (locs : List Loc) (ls : Array Slot), pf_X9_close_66 G N y1 y2 S = some z → lv_has ls 4 [(0, .ref b), (1, .int y1), (2, .int y2)] → mm_W D vwCl (mw_tys G) mw_aos s G b S0 S H locs → W p l e (headSpec wsX9_close rmX9_close).room s m args below meth c H locs 0 0 (MQ below (mm_Qi D vwCl (mw_tys G) mw_aos G b S0 z) args s 0 0 (mm_A b S0)) (F0 m 66 ls []) := by
  obtain ⟨hx, hb, hml, hown, hts, hr, hlocks⟩ := hC
  intro y1 y2 S H locs ls hf hl hw
  unfold pf_X9_close_66 at hf
  refine lv_aload_n hx hb dX9_close_66 rfl (lv_at hl 0 rfl) ?_
  refine mm_getr hx hb hts inX9 hown hw rfl 30 (by decide) (hts _ tw_753) rfl 18 (fun _ _ => rfl) dX9_close_67 ?_
  refine lv_iload_n hx hb dX9_close_70 rfl (lv_at hl 1 rfl) ?_
  refine lv_iconst (v := 3) hx hb dX9_close_71 (by decide) ?_
  obtain ⟨S1, e1, hf⟩ := mw_b hf
  refine mm_iast hx hb hw 18 (by decide) 0 rfl e1 dX9_close_72 (fun H locs hw => ?_)
  refine lv_iload_n hx hb dX9_close_73 rfl (lv_at hl 2 rfl) ?_
  exact mm_zret hx hb hr hlocks hw rfl hf dX9_close_74
set_option maxHeartbeats 4000000 in
set_option maxRecDepth 100000 in
theorem bX9_close_55 {p : Program} {l : Launch} {e : Env} {s : State} {m : MethodId} {args : Array Value} {below : List Frame} {meth : Method} {c : Code} (hC : mw_C p s m args meth c cX9_close RX9 (some .boolean) lw_good 4) (D : va_G) (G : Nat → ClassId) (N : Nat) {b : Nat} {S0 : mw_M} {z : Int32 × mm_M} : ∀ (y1 : Int32) (w0 : Int32) (S : mm_M) (H : Heap) (locs : List Loc) (ls : Array Slot), pf_X9_close_55 G N y1 w0 S = some z → lv_has ls 4 [(0, .ref b), (1, .int y1)] → mm_W D vwCl (mw_tys G) mw_aos s G b S0 S H locs → W p l e (headSpec wsX9_close rmX9_close).room s m args below meth c H locs 0 0 (MQ below (mm_Qi D vwCl (mw_tys G) mw_aos G b S0 z) args s 0 0 (mm_A b S0)) (F0 m 55 ls [.int w0]) := by
  obtain ⟨hx, hb, hml, hown, hts, hr, hlocks⟩ := hC
  intro y1 w0 S H locs ls hf hl hw
  unfold pf_X9_close_55 at hf
  refine lv_istore_n hx hb dX9_close_55 rfl hl (by decide) rfl (fun ls hl => ?_)
  have hl : lv_has ls 4 [(2, .int w0), (0, .ref b), (1, .int y1)] := hl
  refine lv_iload_n hx hb dX9_close_56 rfl (lv_at hl 0 rfl) ?_
  refine lv_if_eq hx hb dX9_close_57 (tgt := 66) (by decide) (fun hc => ?_) (fun hc => ?_)
  · rw [if_pos hc] at hf
    exact bX9_close_66 ⟨hx, hb, hml, hown, hts, hr, hlocks⟩ D G N _ _ _ _ _ _ hf (lv_sub hl [1, 2, 0] rfl) hw
  · rw [if_neg hc] at hf
    refine lv_aload_n hx hb dX9_close_60 rfl (lv_at hl 1 rfl) ?_
    refine lv_iload_n hx hb dX9_close_61 rfl (lv_at hl 2 rfl) ?_
    obtain ⟨v1, S1, e1, hf⟩ := mw_bb hf
    refine mm_calli (va_runV (As := [.int y1]) (rest := []) ⟨hx, hb, hml, hown, hts⟩ (cm_X9_end l D G N b S0 S y1 (v1, S1) e1) (cwV 1 hts (mw_gV tw_958 tw_960 tp_32 tw_11 tw_961) rfl rfl rfl (by decide +kernel) ⟨Nat.le_of_ble_eq_true rfl, Nat.le_of_ble_eq_true rfl⟩) (mm_preV hw rfl) rfl rfl hl.1 rfl (lv_room (Nat.le_of_ble_eq_true rfl)) dX9_close_62 ⟨(Nat.le_of_ble_eq_true rfl), (Nat.le_of_ble_eq_true rfl)⟩) hw (fun H locs hw => ?_)
    refine lv_istore_n hx hb dX9_close_65 rfl hl (by decide) rfl (fun ls hl => ?_)
    have hl : lv_has ls 4 [(3, .int v1), (2, .int w0), (0, .ref b), (1, .int y1)] := hl
    exact bX9_close_66 ⟨hx, hb, hml, hown, hts, hr, hlocks⟩ D G N _ _ _ _ _ _ hf (lv_sub hl [2, 3, 1] rfl) hw
set_option maxHeartbeats 4000000 in
set_option maxRecDepth 100000 in
theorem bX9_close_28 {p : Program} {l : Launch} {e : Env} {s : State} {m : MethodId} {args : Array Value} {below : List Frame} {meth : Method} {c : Code} (hC : mw_C p s m args meth c cX9_close RX9 (some .boolean) lw_good 4) (D : va_G) (G : Nat → ClassId) (N : Nat) {b : Nat} {S0 : mw_M} {z : Int32 × mm_M} : ∀ (y1 : Int32) (w1 : Int32) (S : mm_M) (H : Heap) (locs : List Loc) (ls : Array Slot), pf_X9_close_28 G N y1 w1 S = some z → lv_has ls 4 [(0, .ref b), (1, .int y1)] → mm_W D vwCl (mw_tys G) mw_aos s G b S0 S H locs → W p l e (headSpec wsX9_close rmX9_close).room s m args below meth c H locs 0 0 (MQ below (mm_Qi D vwCl (mw_tys G) mw_aos G b S0 z) args s 0 0 (mm_A b S0)) (F0 m 28 ls [.int w1, .ref b]) := by
  obtain ⟨hx, hb, hml, hown, hts, hr, hlocks⟩ := hC
  intro y1 w1 S H locs ls hf hl hw
  unfold pf_X9_close_28 at hf
  obtain ⟨S1, e1, hf⟩ := mw_b hf
  refine mm_put hx hb hts inX9 tyX9 tyX9_ok nX9 hown hw rfl 4 (by decide) (hts _ tw_727) rfl rfl (by decide +kernel) (by decide) (mm_st4 _) e1 dX9_close_28 (fun H locs hw => ?_)
  refine lv_aload_n hx hb dX9_close_31 rfl (lv_at hl 0 rfl) ?_
  refine mm_geti hx hb hts inX9 hown hw rfl 4 (by decide) (hts _ tw_727) rfl (fun _ _ => rfl) dX9_close_32 ?_
  refine lv_if_le hx hb dX9_close_35 (tgt := 40) (by decide) (fun hc => ?_) (fun hc => ?_)
  · rw [if_pos hc] at hf
    refine lv_aload_n hx hb dX9_close_40 rfl (lv_at hl 0 rfl) ?_
    refine mm_getr hx hb hts inX9 hown hw rfl 30 (by decide) (hts _ tw_753) rfl 18 (fun _ _ => rfl) dX9_close_41 ?_
    refine lv_iload_n hx hb dX9_close_44 rfl (lv_at hl 1 rfl) ?_
    obtain ⟨v2, e2, hf⟩ := mw_b hf
    refine mm_iald hx hb hw 18 (by decide) 0 rfl e2 dX9_close_45 ?_
    refine lv_iconst (v := 1) hx hb dX9_close_46 (by decide) ?_
    refine lv_icmp_ne hx hb dX9_close_47 (tgt := 54) (by decide) (fun hc => ?_) (fun hc => ?_)
    · rw [if_pos hc] at hf
      refine lv_iconst (v := 0) hx hb dX9_close_54 (by decide) ?_
      exact bX9_close_55 ⟨hx, hb, hml, hown, hts, hr, hlocks⟩ D G N _ _ _ _ _ _ hf (lv_sub hl [0, 1] rfl) hw
    · rw [if_neg (fun q => q hc)] at hf
      refine lv_iconst (v := 1) hx hb dX9_close_50 (by decide) ?_
      refine lv_goto hx hb dX9_close_51 (tgt := 55) (by decide) ?_
      exact bX9_close_55 ⟨hx, hb, hml, hown, hts, hr, hlocks⟩ D G N _ _ _ _ _ _ hf (lv_sub hl [0, 1] rfl) hw
  · rw [if_neg hc] at hf
    refine lv_iconst (v := 0) hx hb dX9_close_38 (by decide) ?_
    exact mm_zret hx hb hr hlocks hw rfl hf dX9_close_39
set_option maxHeartbeats 4000000 in
set_option maxRecDepth 100000 in
theorem cm_X9_close (l : Launch) (D : va_G) (G : Nat → ClassId) (N : Nat) (b : Nat) (S0 : mw_M) (S : mm_M) (x1 : Int32) (z : Int32 × mm_M) (hf : pf_X9_close G N S x1 = some z) : Met l yX9_close wsX9_close rmX9_close (va_Pc [.ref b, .int x1] (mm_B D vwCl (mw_tys G) mw_aos G b S0 S)) (mm_Qi D vwCl (mw_tys G) mw_aos G b S0 z) 0 0 (mm_A b S0) := by
  refine Met.ofW (cc := cX9_close) (maxL := 4) (ret := (some .boolean)) (by decide) rfl ?_
  intro p e s m args below meth c s₁ B hml hv
  obtain ⟨rfl, hB⟩ := hv
  have hw := mm_begin hB
  have hx := B.exec
  have hb := B.bytes
  have hr := B.returns
  have hts : ∀ w ∈ lw_good, w.before _ s = true := fun w h => atoms_spec (ws := wsX9_close) B.pre w (List.mem_cons_of_mem _ h)
  have hown : s.vm.findClass RX9 = some m.cls := findClass_of_methodNamed B.named
  have hlocks := B.notSynchronized
  have hC : mw_C p s m _ meth c cX9_close RX9 (some .boolean) lw_good 4 := ⟨hx, hb, hml, hown, hts, hr, hlocks⟩
  have hl := lv_entry ([.ref b, .int x1]) (n := 4) (Nat.le_of_ble_eq_true rfl)
  rw [lg_entry_eq]
  generalize (lg_sl ([.ref b, .int x1]) ++ List.replicate (4 - (lg_sl ([.ref b, .int x1])).length) Slot.unset).toArray = ls at hl ⊢
  have hl : lv_has ls 4 [(0, .ref b), (1, .int x1)] := hl
  unfold pf_X9_close at hf
  refine lv_aload_n hx hb dX9_close_0 rfl (lv_at hl 0 rfl) ?_
  refine lv_aload_n hx hb dX9_close_1 rfl (lv_at hl 0 rfl) ?_
  refine lv_iload_n hx hb dX9_close_2 rfl (lv_at hl 1 rfl) ?_
  obtain ⟨v1, S1, e1, hf⟩ := mw_bb hf
  refine mm_calli (va_runV (As := [.int x1]) (rest := [.ref b]) ⟨hx, hb, hml, hown, hts⟩ (cm_X9_isRecording l D G N b S0 S x1 (v1, S1) e1) (cwV 1 hts (mw_gV tw_938 tw_940 tp_30 tw_11 tw_941) rfl rfl rfl (by decide +kernel) ⟨Nat.le_of_ble_eq_true rfl, Nat.le_of_ble_eq_true rfl⟩) (mm_preV hw rfl) rfl rfl hl.1 rfl (lv_room (Nat.le_of_ble_eq_true rfl)) dX9_close_3 ⟨(Nat.le_of_ble_eq_true rfl), (Nat.le_of_ble_eq_true rfl)⟩) hw (fun H locs hw => ?_)
  refine lv_if_ne hx hb dX9_close_6 (tgt := 13) (by decide) (fun hc => ?_) (fun hc => ?_)
  · rw [if_pos hc] at hf
    refine lv_aload_n hx hb dX9_close_13 rfl (lv_at hl 0 rfl) ?_
    refine mm_getr hx hb hts inX9 hown hw rfl 30 (by decide) (hts _ tw_753) rfl 18 (fun _ _ => rfl) dX9_close_14 ?_
    refine lv_iload_n hx hb dX9_close_17 rfl (lv_at hl 1 rfl) ?_
    obtain ⟨v2, e2, hf⟩ := mw_b hf
    refine mm_iald hx hb hw 18 (by decide) 0 rfl e2 dX9_close_18 ?_
    refine lv_iconst (v := 3) hx hb dX9_close_19 (by decide) ?_
    refine lv_icmp_ne hx hb dX9_close_20 (tgt := 27) (by decide) (fun hc => ?_) (fun hc => ?_)
    · rw [if_pos hc] at hf
      refine lv_iconst (v := 0) hx hb dX9_close_27 (by decide) ?_
      exact bX9_close_28 ⟨hx, hb, hml, hown, hts, hr, hlocks⟩ D G N _ _ _ _ _ _ hf (lv_sub hl [0, 1] rfl) hw
    · rw [if_neg (fun q => q hc)] at hf
      refine lv_iconst (v := 2) hx hb dX9_close_23 (by decide) ?_
      refine lv_goto hx hb dX9_close_24 (tgt := 28) (by decide) ?_
      exact bX9_close_28 ⟨hx, hb, hml, hown, hts, hr, hlocks⟩ D G N _ _ _ _ _ _ hf (lv_sub hl [0, 1] rfl) hw
  · rw [if_neg (fun q => q hc)] at hf
    refine lv_iconst (v := 1) hx hb dX9_close_9 (by decide) ?_
    refine lv_goto hx hb dX9_close_10 (tgt := 28) (by decide) ?_
    exact bX9_close_28 ⟨hx, hb, hml, hown, hts, hr, hlocks⟩ D G N _ _ _ _ _ _ hf (lv_sub hl [0, 1] rfl) hw
abbrev rmX9_out : Room := { frames := 0, cells := 0, slots := 0, locals := 0 }
abbrev wsX9_out : List Cond := Cond.code yX9_out cX9_out 2 none :: lw_good
set_option maxHeartbeats 4000000 in
set_option maxRecDepth 100000 in
theorem cm_X9_out (l : Launch) (D : va_G) (G : Nat → ClassId) (N : Nat) (b : Nat) (S0 : mw_M) (S : mm_M) (x1 : Int32) (z : mm_M) (hf : pf_X9_out G N S x1 = some z) : Met l yX9_out wsX9_out rmX9_out (va_Pc [.ref b, .int x1] (mm_B D vwCl (mw_tys G) mw_aos G b S0 S)) (mm_Qv D vwCl (mw_tys G) mw_aos G b S0 z) 0 0 (mm_A b S0) := by
  refine Met.ofW (cc := cX9_out) (maxL := 2) (ret := none) (by decide) rfl ?_
  intro p e s m args below meth c s₁ B hml hv
  obtain ⟨rfl, hB⟩ := hv
  have hw := mm_begin hB
  have hx := B.exec
  have hb := B.bytes
  have hr := B.returns
  have hts : ∀ w ∈ lw_good, w.before _ s = true := fun w h => atoms_spec (ws := wsX9_out) B.pre w (List.mem_cons_of_mem _ h)
  have hown : s.vm.findClass RX9 = some m.cls := findClass_of_methodNamed B.named
  have hlocks := B.notSynchronized
  have hC : mw_C p s m _ meth c cX9_out RX9 none lw_good 2 := ⟨hx, hb, hml, hown, hts, hr, hlocks⟩
  have hl := lv_entry ([.ref b, .int x1]) (n := 2) (Nat.le_of_ble_eq_true rfl)
  rw [lg_entry_eq]
  generalize (lg_sl ([.ref b, .int x1]) ++ List.replicate (2 - (lg_sl ([.ref b, .int x1])).length) Slot.unset).toArray = ls at hl ⊢
  have hl : lv_has ls 2 [(0, .ref b), (1, .int x1)] := hl
  unfold pf_X9_out at hf
  refine lv_aload_n hx hb dX9_out_0 rfl (lv_at hl 0 rfl) ?_
  refine mm_getr hx hb hts inX9 hown hw rfl 35 (by decide) (hts _ tw_758) rfl 23 (fun _ _ => rfl) dX9_out_1 ?_
  refine lv_aload_n hx hb dX9_out_4 rfl (lv_at hl 0 rfl) ?_
  refine mm_geti hx hb hts inX9 hown hw rfl 36 (by decide) (hts _ tw_759) rfl (fun _ _ => rfl) dX9_out_5 ?_
  refine lv_iload_n hx hb dX9_out_8 rfl (lv_at hl 1 rfl) ?_
  obtain ⟨S1, e1, hf⟩ := mw_b hf
  refine mm_iast hx hb hw 23 (by decide) 0 rfl e1 dX9_out_9 (fun H locs hw => ?_)
  refine lv_aload_n hx hb dX9_out_10 rfl (lv_at hl 0 rfl) ?_
  refine lv_dup hx hb dX9_out_11 rfl ?_
  refine mm_geti hx hb hts inX9 hown hw rfl 36 (by decide) (hts _ tw_759) rfl (fun _ _ => rfl) dX9_out_12 ?_
  refine lv_iconst (v := 1) hx hb dX9_out_15 (by decide) ?_
  refine lv_iadd hx hb dX9_out_16 ?_
  obtain ⟨S2, e2, hf⟩ := mw_b hf
  refine mm_put hx hb hts inX9 tyX9 tyX9_ok nX9 hown hw rfl 36 (by decide) (hts _ tw_759) rfl rfl (by decide +kernel) (by decide) (mm_st36 _) e2 dX9_out_17 (fun H locs hw => ?_)
  exact mm_vret hx hb hr hlocks hw hf dX9_out_20
abbrev rmX9_outVariable : Room := { frames := 1, cells := 0, slots := 0, locals := 24 }
abbrev wsX9_outVariable : List Cond := Cond.code yX9_outVariable cX9_outVariable 3 none :: lw_good
set_option maxHeartbeats 4000000 in
set_option maxRecDepth 100000 in
theorem bX9_outVariable_12 {p : Program} {l : Launch} {e : Env} {s : State} {m : MethodId} {args : Array Value} {below : List Frame} {meth : Method} {c : Code} (hC : mw_C p s m args meth c cX9_outVariable RX9 none lw_good 3) (D : va_G) (G : Nat → ClassId) (N : Nat) {b : Nat} {S0 : mw_M} {z : mm_M} : ∀ (n : Nat) (y2 : Int32) (S : mm_M) (H : Heap) (locs : List Loc) (ls : Array Slot), pf_X9_outVariable_12 G N n y2 S = some z → lv_has ls 3 [(0, .ref b), (2, .int y2)] → mm_W D vwCl (mw_tys G) mw_aos s G b S0 S H locs → W p l e (headSpec wsX9_outVariable rmX9_outVariable).room s m args below meth c H locs 0 0 (MQ below (mm_Qv D vwCl (mw_tys G) mw_aos G b S0 z) args s 0 0 (mm_A b S0)) (F0 m 12 ls []) := by
  obtain ⟨hx, hb, hml, hown, hts, hr, hlocks⟩ := hC
  intro n
  induction n with
  | zero => intro y2 S H locs ls hf; rw [pf_X9_outVariable_12] at hf; cases hf
  | succ n ih =>
    intro y2 S H locs ls hf hl hw
    rw [pf_X9_outVariable_12] at hf
    refine lv_iload_n hx hb dX9_outVariable_12 rfl (lv_at hl 1 rfl) ?_
    refine lv_aload_n hx hb dX9_outVariable_13 rfl (lv_at hl 0 rfl) ?_
    refine mm_geti hx hb hts inX9 hown hw rfl 38 (by decide) (hts _ tw_761) rfl (fun _ _ => rfl) dX9_outVariable_14 ?_
    refine lv_icmp_ge hx hb dX9_outVariable_17 (tgt := 36) (by decide) (fun hc => ?_) (fun hc => ?_)
    · rw [if_pos hc] at hf
      exact mm_vret hx hb hr hlocks hw hf dX9_outVariable_36
    · rw [if_neg hc] at hf
      refine lv_aload_n hx hb dX9_outVariable_20 rfl (lv_at hl 0 rfl) ?_
      refine lv_aload_n hx hb dX9_outVariable_21 rfl (lv_at hl 0 rfl) ?_
      refine mm_getr hx hb hts inX9 hown hw rfl 37 (by decide) (hts _ tw_760) rfl 24 (fun _ _ => rfl) dX9_outVariable_22 ?_
      refine lv_iload_n hx hb dX9_outVariable_25 rfl (lv_at hl 1 rfl) ?_
      obtain ⟨v1, e1, hf⟩ := mw_b hf
      refine mm_iald hx hb hw 24 (by decide) 0 rfl e1 dX9_outVariable_26 ?_
      obtain ⟨S2, e2, hf⟩ := mw_b hf
      refine mm_callv (va_runV (As := [.int v1]) (rest := []) ⟨hx, hb, hml, hown, hts⟩ (cm_X9_out l D G N b S0 S v1 S2 e2) (cwV 1 hts (mw_gV tw_974 tw_976 tp_34 tw_11 tw_977) rfl rfl rfl (by decide +kernel) ⟨Nat.le_of_ble_eq_true rfl, Nat.le_of_ble_eq_true rfl⟩) (mm_preV hw rfl) rfl rfl hl.1 rfl (lv_room (Nat.le_of_ble_eq_true rfl)) dX9_outVariable_27 ⟨(Nat.le_of_ble_eq_true rfl), (Nat.le_of_ble_eq_true rfl)⟩) hw (fun H locs hw => ?_)
      refine lv_iinc (k := 1) (v := (y2 + 1)) hx hb dX9_outVariable_30 hl rfl (congrArg (fun q => y2 + q) (show Int32.ofInt 1 = 1 by decide)) (by decide) rfl (fun ls hl => ?_)
      have hl : lv_has ls 3 [(2, .int (y2 + 1)), (0, .ref b)] := hl
      refine lv_goto hx hb dX9_outVariable_33 (tgt := 12) (by decide) ?_
      exact ih _ _ _ _ _ hf (lv_sub hl [1, 0] rfl) hw
set_option maxHeartbeats 4000000 in
set_option maxRecDepth 100000 in
theorem cm_X9_outVariable (l : Launch) (D : va_G) (G : Nat → ClassId) (N : Nat) (b : Nat) (S0 : mw_M) (S : mm_M) (x1 : Int32) (z : mm_M) (hf : pf_X9_outVariable G N S x1 = some z) : Met l yX9_outVariable wsX9_outVariable rmX9_outVariable (va_Pc [.ref b, .int x1] (mm_B D vwCl (mw_tys G) mw_aos G b S0 S)) (mm_Qv D vwCl (mw_tys G) mw_aos G b S0 z) 0 0 (mm_A b S0) := by
  refine Met.ofW (cc := cX9_outVariable) (maxL := 3) (ret := none) (by decide) rfl ?_
  intro p e s m args below meth c s₁ B hml hv
  obtain ⟨rfl, hB⟩ := hv
  have hw := mm_begin hB
  have hx := B.exec
  have hb := B.bytes
  have hr := B.returns
  have hts : ∀ w ∈ lw_good, w.before _ s = true := fun w h => atoms_spec (ws := wsX9_outVariable) B.pre w (List.mem_cons_of_mem _ h)
  have hown : s.vm.findClass RX9 = some m.cls := findClass_of_methodNamed B.named
  have hlocks := B.notSynchronized
  have hC : mw_C p s m _ meth c cX9_outVariable RX9 none lw_good 3 := ⟨hx, hb, hml, hown, hts, hr, hlocks⟩
  have hl := lv_entry ([.ref b, .int x1]) (n := 3) (Nat.le_of_ble_eq_true rfl)
  rw [lg_entry_eq]
  generalize (lg_sl ([.ref b, .int x1]) ++ List.replicate (3 - (lg_sl ([.ref b, .int x1])).length) Slot.unset).toArray = ls at hl ⊢
  have hl : lv_has ls 3 [(0, .ref b), (1, .int x1)] := hl
  unfold pf_X9_outVariable at hf
  refine lv_aload_n hx hb dX9_outVariable_0 rfl (lv_at hl 0 rfl) ?_
  refine lv_iconst (v := 0) hx hb dX9_outVariable_1 (by decide) ?_
  obtain ⟨S1, e1, hf⟩ := mw_b hf
  refine mm_put hx hb hts inX9 tyX9 tyX9_ok nX9 hown hw rfl 38 (by decide) (hts _ tw_761) rfl rfl (by decide +kernel) (by decide) (mm_st38 _) e1 dX9_outVariable_2 (fun H locs hw => ?_)
  refine lv_aload_n hx hb dX9_outVariable_5 rfl (lv_at hl 0 rfl) ?_
  refine lv_iload_n hx hb dX9_outVariable_6 rfl (lv_at hl 1 rfl) ?_
  obtain ⟨S2, e2, hf⟩ := mw_b hf
  refine mm_callv (va_runV (As := [.int x1]) (rest := []) ⟨hx, hb, hml, hown, hts⟩ (cm_X9_variable l D G N b S0 S1 x1 S2 e2) (cwV 1 hts (mw_gV tw_882 tw_884 tp_19 tw_11 tw_885) rfl rfl rfl (by decide +kernel) ⟨Nat.le_of_ble_eq_true rfl, Nat.le_of_ble_eq_true rfl⟩) (mm_preV hw rfl) rfl rfl hl.1 rfl (lv_room (Nat.le_of_ble_eq_true rfl)) dX9_outVariable_7 ⟨(Nat.le_of_ble_eq_true rfl), (Nat.le_of_ble_eq_true rfl)⟩) hw (fun H locs hw => ?_)
  refine lv_iconst (v := 0) hx hb dX9_outVariable_10 (by decide) ?_
  refine lv_istore_n hx hb dX9_outVariable_11 rfl hl (by decide) rfl (fun ls hl => ?_)
  have hl : lv_has ls 3 [(2, .int 0), (0, .ref b), (1, .int x1)] := hl
  exact bX9_outVariable_12 ⟨hx, hb, hml, hown, hts, hr, hlocks⟩ D G N N _ _ _ _ _ hf (lv_sub hl [1, 0] rfl) hw
abbrev rmX9_writeOut : Room := { frames := 2, cells := 0, slots := 0, locals := 46 }
abbrev wsX9_writeOut : List Cond := Cond.code yX9_writeOut cX9_writeOut 5 none :: lw_good
set_option maxHeartbeats 4000000 in
set_option maxRecDepth 100000 in
theorem bX9_writeOut_149 {p : Program} {l : Launch} {e : Env} {s : State} {m : MethodId} {args : Array Value} {below : List Frame} {meth : Method} {c : Code} (hC : mw_C p s m args meth c cX9_writeOut RX9 none lw_good 5) (D : va_G) (G : Nat → ClassId) (N : Nat) {b : Nat} {S0 : mw_M} {z : mm_M} (k111 : Int32 → Int32 → mm_M → Option (mm_M)) (hk111 : ∀ (y1 : Int32) (y3 : Int32) (S : mm_M) (H : Heap) (locs : List Loc) (ls : Array Slot), k111 y1 y3 S = some z → lv_has ls 5 [(0, .ref b), (1, .int y1), (3, .int y3)] → mm_W D vwCl (mw_tys G) mw_aos s G b S0 S H locs → W p l e (headSpec wsX9_writeOut rmX9_writeOut).room s m args below meth c H locs 0 0 (MQ below (mm_Qv D vwCl (mw_tys G) mw_aos G b S0 z) args s 0 0 (mm_A b S0)) (F0 m 111 ls [])) : ∀ (n : Nat) (y1 : Int32) (y3 : Int32) (y4 : Int32) (S : mm_M) (H : Heap) (locs : List Loc) (ls : Array Slot), pf_X9_writeOut_149 G N k111 n y1 y3 y4 S = some z → lv_has ls 5 [(0, .ref b), (1, .int y1), (3, .int y3), (4, .int y4)] → mm_W D vwCl (mw_tys G) mw_aos s G b S0 S H locs → W p l e (headSpec wsX9_writeOut rmX9_writeOut).room s m args below meth c H locs 0 0 (MQ below (mm_Qv D vwCl (mw_tys G) mw_aos G b S0 z) args s 0 0 (mm_A b S0)) (F0 m 149 ls []) := by
  obtain ⟨hx, hb, hml, hown, hts, hr, hlocks⟩ := hC
  intro n
  induction n with
  | zero => intro y1 y3 y4 S H locs ls hf; rw [pf_X9_writeOut_149] at hf; cases hf
  | succ n ih =>
    intro y1 y3 y4 S H locs ls hf hl hw
    rw [pf_X9_writeOut_149] at hf
    refine lv_iload hx hb dX9_writeOut_149 (lv_at hl 3 rfl) ?_
    refine lv_aload_n hx hb dX9_writeOut_151 rfl (lv_at hl 0 rfl) ?_
    refine mm_getr hx hb hts inX9 hown hw rfl 12 (by decide) (hts _ tw_735) rfl 4 (fun _ _ => rfl) dX9_writeOut_152 ?_
    refine lv_iload_n hx hb dX9_writeOut_155 rfl (lv_at hl 2 rfl) ?_
    obtain ⟨v1, e1, hf⟩ := mw_b hf
    refine mm_iald hx hb hw 4 (by decide) 0 rfl e1 dX9_writeOut_156 ?_
    refine lv_icmp_ge hx hb dX9_writeOut_157 (tgt := 182) (by decide) (fun hc => ?_) (fun hc => ?_)
    · rw [if_pos hc] at hf
      refine lv_iinc (k := 2) (v := (y3 + 1)) hx hb dX9_writeOut_182 hl rfl (congrArg (fun q => y3 + q) (show Int32.ofInt 1 = 1 by decide)) (by decide) rfl (fun ls hl => ?_)
      have hl : lv_has ls 5 [(3, .int (y3 + 1)), (0, .ref b), (1, .int y1), (4, .int y4)] := hl
      refine lv_goto hx hb dX9_writeOut_185 (tgt := 111) (by decide) ?_
      exact hk111 _ _ _ _ _ _ hf (lv_sub hl [1, 2, 0] rfl) hw
    · rw [if_neg hc] at hf
      refine lv_aload_n hx hb dX9_writeOut_160 rfl (lv_at hl 0 rfl) ?_
      refine lv_aload_n hx hb dX9_writeOut_161 rfl (lv_at hl 0 rfl) ?_
      refine mm_getr hx hb hts inX9 hown hw rfl 11 (by decide) (hts _ tw_734) rfl 3 (fun _ _ => rfl) dX9_writeOut_162 ?_
      refine lv_bipush (v := 8) hx hb dX9_writeOut_165 (by decide) ?_
      refine lv_iload_n hx hb dX9_writeOut_167 rfl (lv_at hl 2 rfl) ?_
      refine lv_imul hx hb dX9_writeOut_168 ?_
      refine lv_iload hx hb dX9_writeOut_169 (lv_at hl 3 rfl) ?_
      refine lv_iadd hx hb dX9_writeOut_171 ?_
      obtain ⟨v2, e2, hf⟩ := mw_b hf
      refine mm_cald hx hb hw 3 (by decide) 2 rfl e2 dX9_writeOut_172 ?_
      obtain ⟨S3, e3, hf⟩ := mw_b hf
      refine mm_callv (va_runV (As := [.int v2]) (rest := []) ⟨hx, hb, hml, hown, hts⟩ (cm_X9_out l D G N b S0 S v2 S3 e3) (cwV 1 hts (mw_gV tw_974 tw_976 tp_34 tw_11 tw_977) rfl rfl rfl (by decide +kernel) ⟨Nat.le_of_ble_eq_true rfl, Nat.le_of_ble_eq_true rfl⟩) (mm_preV hw rfl) rfl rfl hl.1 rfl (lv_room (Nat.le_of_ble_eq_true rfl)) dX9_writeOut_173 ⟨(Nat.le_of_ble_eq_true rfl), (Nat.le_of_ble_eq_true rfl)⟩) hw (fun H locs hw => ?_)
      refine lv_iinc (k := 3) (v := (y4 + 1)) hx hb dX9_writeOut_176 hl rfl (congrArg (fun q => y4 + q) (show Int32.ofInt 1 = 1 by decide)) (by decide) rfl (fun ls hl => ?_)
      have hl : lv_has ls 5 [(4, .int (y4 + 1)), (0, .ref b), (1, .int y1), (3, .int y3)] := hl
      refine lv_goto hx hb dX9_writeOut_179 (tgt := 149) (by decide) ?_
      exact ih _ _ _ _ _ _ _ hf (lv_sub hl [1, 2, 3, 0] rfl) hw
set_option maxHeartbeats 4000000 in
set_option maxRecDepth 100000 in
theorem bX9_writeOut_111 {p : Program} {l : Launch} {e : Env} {s : State} {m : MethodId} {args : Array Value} {below : List Frame} {meth : Method} {c : Code} (hC : mw_C p s m args meth c cX9_writeOut RX9 none lw_good 5) (D : va_G) (G : Nat → ClassId) (N : Nat) {b : Nat} {S0 : mw_M} {z : mm_M} : ∀ (n : Nat) (y1 : Int32) (y3 : Int32) (S : mm_M) (H : Heap) (locs : List Loc) (ls : Array Slot), pf_X9_writeOut_111 G N n y1 y3 S = some z → lv_has ls 5 [(0, .ref b), (1, .int y1), (3, .int y3)] → mm_W D vwCl (mw_tys G) mw_aos s G b S0 S H locs → W p l e (headSpec wsX9_writeOut rmX9_writeOut).room s m args below meth c H locs 0 0 (MQ below (mm_Qv D vwCl (mw_tys G) mw_aos G b S0 z) args s 0 0 (mm_A b S0)) (F0 m 111 ls []) := by
  obtain ⟨hx, hb, hml, hown, hts, hr, hlocks⟩ := hC
  intro n
  induction n with
  | zero => intro y1 y3 S H locs ls hf; rw [pf_X9_writeOut_111] at hf; cases hf
  | succ n ih =>
    intro y1 y3 S H locs ls hf hl hw
    rw [pf_X9_writeOut_111] at hf
    refine lv_iload_n hx hb dX9_writeOut_111 rfl (lv_at hl 2 rfl) ?_
    refine lv_bipush (v := 24) hx hb dX9_writeOut_112 (by decide) ?_
    refine lv_icmp_ge hx hb dX9_writeOut_114 (tgt := 188) (by decide) (fun hc => ?_) (fun hc => ?_)
    · rw [if_pos hc] at hf
      exact mm_vret hx hb hr hlocks hw hf dX9_writeOut_188
    · rw [if_neg hc] at hf
      refine lv_aload_n hx hb dX9_writeOut_117 rfl (lv_at hl 0 rfl) ?_
      refine mm_getr hx hb hts inX9 hown hw rfl 26 (by decide) (hts _ tw_749) rfl 15 (fun _ _ => rfl) dX9_writeOut_118 ?_
      refine lv_iload_n hx hb dX9_writeOut_121 rfl (lv_at hl 1 rfl) ?_
      obtain ⟨v1, e1, hf⟩ := mw_b hf
      refine mm_iald hx hb hw 15 (by decide) 0 rfl e1 dX9_writeOut_122 ?_
      refine lv_iload_n hx hb dX9_writeOut_123 rfl (lv_at hl 2 rfl) ?_
      refine lv_ishr hx hb dX9_writeOut_124 ?_
      refine lv_iconst (v := 1) hx hb dX9_writeOut_125 (by decide) ?_
      refine lv_iand hx hb dX9_writeOut_126 ?_
      refine lv_iconst (v := 1) hx hb dX9_writeOut_127 (by decide) ?_
      refine lv_icmp_ne hx hb dX9_writeOut_128 (tgt := 182) (by decide) (fun hc => ?_) (fun hc => ?_)
      · rw [if_pos hc] at hf
        refine lv_iinc (k := 2) (v := (y3 + 1)) hx hb dX9_writeOut_182 hl rfl (congrArg (fun q => y3 + q) (show Int32.ofInt 1 = 1 by decide)) (by decide) rfl (fun ls hl => ?_)
        have hl : lv_has ls 5 [(3, .int (y3 + 1)), (0, .ref b), (1, .int y1)] := hl
        refine lv_goto hx hb dX9_writeOut_185 (tgt := 111) (by decide) ?_
        exact ih _ _ _ _ _ _ hf (lv_sub hl [1, 2, 0] rfl) hw
      · rw [if_neg (fun q => q hc)] at hf
        refine lv_aload_n hx hb dX9_writeOut_131 rfl (lv_at hl 0 rfl) ?_
        refine lv_iload_n hx hb dX9_writeOut_132 rfl (lv_at hl 2 rfl) ?_
        obtain ⟨S2, e2, hf⟩ := mw_b hf
        refine mm_callv (va_runV (As := [.int y3]) (rest := []) ⟨hx, hb, hml, hown, hts⟩ (cm_X9_outVariable l D G N b S0 S y3 S2 e2) (cwV 1 hts (mw_gV tw_978 tw_980 tp_35 tw_11 tw_981) rfl rfl rfl (by decide +kernel) ⟨Nat.le_of_ble_eq_true rfl, Nat.le_of_ble_eq_true rfl⟩) (mm_preV hw rfl) rfl rfl hl.1 rfl (lv_room (Nat.le_of_ble_eq_true rfl)) dX9_writeOut_133 ⟨(Nat.le_of_ble_eq_true rfl), (Nat.le_of_ble_eq_true rfl)⟩) hw (fun H locs hw => ?_)
        refine lv_aload_n hx hb dX9_writeOut_136 rfl (lv_at hl 0 rfl) ?_
        refine lv_aload_n hx hb dX9_writeOut_137 rfl (lv_at hl 0 rfl) ?_
        refine mm_getr hx hb hts inX9 hown hw rfl 12 (by decide) (hts _ tw_735) rfl 4 (fun _ _ => rfl) dX9_writeOut_138 ?_
        refine lv_iload_n hx hb dX9_writeOut_141 rfl (lv_at hl 2 rfl) ?_
        obtain ⟨v3, e3, hf⟩ := mw_b hf
        refine mm_iald hx hb hw 4 (by decide) 0 rfl e3 dX9_writeOut_142 ?_
        obtain ⟨S4, e4, hf⟩ := mw_b hf
        refine mm_callv (va_runV (As := [.int v3]) (rest := []) ⟨hx, hb, hml, hown, hts⟩ (cm_X9_outVariable l D G N b S0 S2 v3 S4 e4) (cwV 1 hts (mw_gV tw_978 tw_980 tp_35 tw_11 tw_981) rfl rfl rfl (by decide +kernel) ⟨Nat.le_of_ble_eq_true rfl, Nat.le_of_ble_eq_true rfl⟩) (mm_preV hw rfl) rfl rfl hl.1 rfl (lv_room (Nat.le_of_ble_eq_true rfl)) dX9_writeOut_143 ⟨(Nat.le_of_ble_eq_true rfl), (Nat.le_of_ble_eq_true rfl)⟩) hw (fun H locs hw => ?_)
        refine lv_iconst (v := 0) hx hb dX9_writeOut_146 (by decide) ?_
        refine lv_istore hx hb dX9_writeOut_147 hl (by decide) rfl (fun ls hl => ?_)
        have hl : lv_has ls 5 [(4, .int 0), (0, .ref b), (1, .int y1), (3, .int y3)] := hl
        exact bX9_writeOut_149 ⟨hx, hb, hml, hown, hts, hr, hlocks⟩ D G N (pf_X9_writeOut_111 G N n) ih N _ _ _ _ _ _ _ hf (lv_sub hl [1, 2, 3, 0] rfl) hw
set_option maxHeartbeats 4000000 in
set_option maxRecDepth 100000 in
theorem bX9_writeOut_79 {p : Program} {l : Launch} {e : Env} {s : State} {m : MethodId} {args : Array Value} {below : List Frame} {meth : Method} {c : Code} (hC : mw_C p s m args meth c cX9_writeOut RX9 none lw_good 5) (D : va_G) (G : Nat → ClassId) (N : Nat) {b : Nat} {S0 : mw_M} {z : mm_M} : ∀ (n : Nat) (y1 : Int32) (y2 : Int32) (y3 : Int32) (S : mm_M) (H : Heap) (locs : List Loc) (ls : Array Slot), pf_X9_writeOut_79 G N n y1 y2 y3 S = some z → lv_has ls 5 [(0, .ref b), (1, .int y1), (2, .int y2), (3, .int y3)] → mm_W D vwCl (mw_tys G) mw_aos s G b S0 S H locs → W p l e (headSpec wsX9_writeOut rmX9_writeOut).room s m args below meth c H locs 0 0 (MQ below (mm_Qv D vwCl (mw_tys G) mw_aos G b S0 z) args s 0 0 (mm_A b S0)) (F0 m 79 ls []) := by
  obtain ⟨hx, hb, hml, hown, hts, hr, hlocks⟩ := hC
  intro n
  induction n with
  | zero => intro y1 y2 y3 S H locs ls hf; rw [pf_X9_writeOut_79] at hf; cases hf
  | succ n ih =>
    intro y1 y2 y3 S H locs ls hf hl hw
    rw [pf_X9_writeOut_79] at hf
    refine lv_iload_n hx hb dX9_writeOut_79 rfl (lv_at hl 3 rfl) ?_
    refine lv_bipush (v := 24) hx hb dX9_writeOut_80 (by decide) ?_
    refine lv_icmp_ge hx hb dX9_writeOut_82 (tgt := 104) (by decide) (fun hc => ?_) (fun hc => ?_)
    · rw [if_pos hc] at hf
      refine lv_aload_n hx hb dX9_writeOut_104 rfl (lv_at hl 0 rfl) ?_
      refine lv_iload_n hx hb dX9_writeOut_105 rfl (lv_at hl 2 rfl) ?_
      obtain ⟨S1, e1, hf⟩ := mw_b hf
      refine mm_callv (va_runV (As := [.int y2]) (rest := []) ⟨hx, hb, hml, hown, hts⟩ (cm_X9_outVariable l D G N b S0 S y2 S1 e1) (cwV 1 hts (mw_gV tw_978 tw_980 tp_35 tw_11 tw_981) rfl rfl rfl (by decide +kernel) ⟨Nat.le_of_ble_eq_true rfl, Nat.le_of_ble_eq_true rfl⟩) (mm_preV hw rfl) rfl rfl hl.1 rfl (lv_room (Nat.le_of_ble_eq_true rfl)) dX9_writeOut_106 ⟨(Nat.le_of_ble_eq_true rfl), (Nat.le_of_ble_eq_true rfl)⟩) hw (fun H locs hw => ?_)
      refine lv_iconst (v := 0) hx hb dX9_writeOut_109 (by decide) ?_
      refine lv_istore_n hx hb dX9_writeOut_110 rfl hl (by decide) rfl (fun ls hl => ?_)
      have hl : lv_has ls 5 [(3, .int 0), (0, .ref b), (1, .int y1), (2, .int y2)] := hl
      exact bX9_writeOut_111 ⟨hx, hb, hml, hown, hts, hr, hlocks⟩ D G N N _ _ _ _ _ _ hf (lv_sub hl [1, 2, 0] rfl) hw
    · rw [if_neg hc] at hf
      refine lv_iload_n hx hb dX9_writeOut_85 rfl (lv_at hl 2 rfl) ?_
      refine lv_aload_n hx hb dX9_writeOut_86 rfl (lv_at hl 0 rfl) ?_
      refine mm_getr hx hb hts inX9 hown hw rfl 26 (by decide) (hts _ tw_749) rfl 15 (fun _ _ => rfl) dX9_writeOut_87 ?_
      refine lv_iload_n hx hb dX9_writeOut_90 rfl (lv_at hl 1 rfl) ?_
      obtain ⟨v2, e2, hf⟩ := mw_b hf
      refine mm_iald hx hb hw 15 (by decide) 0 rfl e2 dX9_writeOut_91 ?_
      refine lv_iload_n hx hb dX9_writeOut_92 rfl (lv_at hl 3 rfl) ?_
      refine lv_ishr hx hb dX9_writeOut_93 ?_
      refine lv_iconst (v := 1) hx hb dX9_writeOut_94 (by decide) ?_
      refine lv_iand hx hb dX9_writeOut_95 ?_
      refine lv_iadd hx hb dX9_writeOut_96 ?_
      refine lv_istore_n hx hb dX9_writeOut_97 rfl hl (by decide) rfl (fun ls hl => ?_)
      have hl : lv_has ls 5 [(2, .int (y2 + ((v2 >>> (y3 &&& 31)) &&& 1))), (0, .ref b), (1, .int y1), (3, .int y3)] := hl
      refine lv_iinc (k := 3) (v := (y3 + 1)) hx hb dX9_writeOut_98 hl rfl (congrArg (fun q => y3 + q) (show Int32.ofInt 1 = 1 by decide)) (by decide) rfl (fun ls hl => ?_)
      have hl : lv_has ls 5 [(3, .int (y3 + 1)), (2, .int (y2 + ((v2 >>> (y3 &&& 31)) &&& 1))), (0, .ref b), (1, .int y1)] := hl
      refine lv_goto hx hb dX9_writeOut_101 (tgt := 79) (by decide) ?_
      exact ih _ _ _ _ _ _ _ hf (lv_sub hl [2, 3, 1, 0] rfl) hw
set_option maxHeartbeats 4000000 in
set_option maxRecDepth 100000 in
theorem bX9_writeOut_38 {p : Program} {l : Launch} {e : Env} {s : State} {m : MethodId} {args : Array Value} {below : List Frame} {meth : Method} {c : Code} (hC : mw_C p s m args meth c cX9_writeOut RX9 none lw_good 5) (D : va_G) (G : Nat → ClassId) (N : Nat) {b : Nat} {S0 : mw_M} {z : mm_M} : ∀ (n : Nat) (y1 : Int32) (y2 : Int32) (S : mm_M) (H : Heap) (locs : List Loc) (ls : Array Slot), pf_X9_writeOut_38 G N n y1 y2 S = some z → lv_has ls 5 [(0, .ref b), (1, .int y1), (2, .int y2)] → mm_W D vwCl (mw_tys G) mw_aos s G b S0 S H locs → W p l e (headSpec wsX9_writeOut rmX9_writeOut).room s m args below meth c H locs 0 0 (MQ below (mm_Qv D vwCl (mw_tys G) mw_aos G b S0 z) args s 0 0 (mm_A b S0)) (F0 m 38 ls []) := by
  obtain ⟨hx, hb, hml, hown, hts, hr, hlocks⟩ := hC
  intro n
  induction n with
  | zero => intro y1 y2 S H locs ls hf; rw [pf_X9_writeOut_38] at hf; cases hf
  | succ n ih =>
    intro y1 y2 S H locs ls hf hl hw
    rw [pf_X9_writeOut_38] at hf
    refine lv_iload_n hx hb dX9_writeOut_38 rfl (lv_at hl 2 rfl) ?_
    refine lv_aload_n hx hb dX9_writeOut_39 rfl (lv_at hl 0 rfl) ?_
    refine mm_getr hx hb hts inX9 hown hw rfl 22 (by decide) (hts _ tw_745) rfl 11 (fun _ _ => rfl) dX9_writeOut_40 ?_
    refine lv_iload_n hx hb dX9_writeOut_43 rfl (lv_at hl 1 rfl) ?_
    obtain ⟨v1, e1, hf⟩ := mw_b hf
    refine mm_iald hx hb hw 11 (by decide) 0 rfl e1 dX9_writeOut_44 ?_
    refine lv_icmp_ge hx hb dX9_writeOut_45 (tgt := 70) (by decide) (fun hc => ?_) (fun hc => ?_)
    · rw [if_pos hc] at hf
      refine lv_aload_n hx hb dX9_writeOut_70 rfl (lv_at hl 0 rfl) ?_
      refine lv_iconst (v := 0) hx hb dX9_writeOut_71 (by decide) ?_
      obtain ⟨S2, e2, hf⟩ := mw_b hf
      refine mm_callv (va_runV (As := [.int 0]) (rest := []) ⟨hx, hb, hml, hown, hts⟩ (cm_X9_out l D G N b S0 S 0 S2 e2) (cwV 1 hts (mw_gV tw_974 tw_976 tp_34 tw_11 tw_977) rfl rfl rfl (by decide +kernel) ⟨Nat.le_of_ble_eq_true rfl, Nat.le_of_ble_eq_true rfl⟩) (mm_preV hw rfl) rfl rfl hl.1 rfl (lv_room (Nat.le_of_ble_eq_true rfl)) dX9_writeOut_72 ⟨(Nat.le_of_ble_eq_true rfl), (Nat.le_of_ble_eq_true rfl)⟩) hw (fun H locs hw => ?_)
      refine lv_iconst (v := 0) hx hb dX9_writeOut_75 (by decide) ?_
      refine lv_istore_n hx hb dX9_writeOut_76 rfl hl (by decide) rfl (fun ls hl => ?_)
      have hl : lv_has ls 5 [(2, .int 0), (0, .ref b), (1, .int y1)] := hl
      refine lv_iconst (v := 0) hx hb dX9_writeOut_77 (by decide) ?_
      refine lv_istore_n hx hb dX9_writeOut_78 rfl hl (by decide) rfl (fun ls hl => ?_)
      have hl : lv_has ls 5 [(3, .int 0), (2, .int 0), (0, .ref b), (1, .int y1)] := hl
      exact bX9_writeOut_79 ⟨hx, hb, hml, hown, hts, hr, hlocks⟩ D G N N _ _ _ _ _ _ _ hf (lv_sub hl [2, 3, 1, 0] rfl) hw
    · rw [if_neg hc] at hf
      refine lv_aload_n hx hb dX9_writeOut_48 rfl (lv_at hl 0 rfl) ?_
      refine lv_aload_n hx hb dX9_writeOut_49 rfl (lv_at hl 0 rfl) ?_
      refine mm_getr hx hb hts inX9 hown hw rfl 21 (by decide) (hts _ tw_744) rfl 10 (fun _ _ => rfl) dX9_writeOut_50 ?_
      refine lv_sipush (v := 600) hx hb dX9_writeOut_53 (by decide) ?_
      refine lv_iload_n hx hb dX9_writeOut_56 rfl (lv_at hl 1 rfl) ?_
      refine lv_imul hx hb dX9_writeOut_57 ?_
      refine lv_iload_n hx hb dX9_writeOut_58 rfl (lv_at hl 2 rfl) ?_
      refine lv_iadd hx hb dX9_writeOut_59 ?_
      obtain ⟨v3, e3, hf⟩ := mw_b hf
      refine mm_iald hx hb hw 10 (by decide) 0 rfl e3 dX9_writeOut_60 ?_
      obtain ⟨S4, e4, hf⟩ := mw_b hf
      refine mm_callv (va_runV (As := [.int v3]) (rest := []) ⟨hx, hb, hml, hown, hts⟩ (cm_X9_out l D G N b S0 S v3 S4 e4) (cwV 1 hts (mw_gV tw_974 tw_976 tp_34 tw_11 tw_977) rfl rfl rfl (by decide +kernel) ⟨Nat.le_of_ble_eq_true rfl, Nat.le_of_ble_eq_true rfl⟩) (mm_preV hw rfl) rfl rfl hl.1 rfl (lv_room (Nat.le_of_ble_eq_true rfl)) dX9_writeOut_61 ⟨(Nat.le_of_ble_eq_true rfl), (Nat.le_of_ble_eq_true rfl)⟩) hw (fun H locs hw => ?_)
      refine lv_iinc (k := 2) (v := (y2 + 1)) hx hb dX9_writeOut_64 hl rfl (congrArg (fun q => y2 + q) (show Int32.ofInt 1 = 1 by decide)) (by decide) rfl (fun ls hl => ?_)
      have hl : lv_has ls 5 [(2, .int (y2 + 1)), (0, .ref b), (1, .int y1)] := hl
      refine lv_goto hx hb dX9_writeOut_67 (tgt := 38) (by decide) ?_
      exact ih _ _ _ _ _ _ hf (lv_sub hl [1, 2, 0] rfl) hw
set_option maxHeartbeats 4000000 in
set_option maxRecDepth 100000 in
theorem cm_X9_writeOut (l : Launch) (D : va_G) (G : Nat → ClassId) (N : Nat) (b : Nat) (S0 : mw_M) (S : mm_M) (x1 : Int32) (z : mm_M) (hf : pf_X9_writeOut G N S x1 = some z) : Met l yX9_writeOut wsX9_writeOut rmX9_writeOut (va_Pc [.ref b, .int x1] (mm_B D vwCl (mw_tys G) mw_aos G b S0 S)) (mm_Qv D vwCl (mw_tys G) mw_aos G b S0 z) 0 0 (mm_A b S0) := by
  refine Met.ofW (cc := cX9_writeOut) (maxL := 5) (ret := none) (by decide) rfl ?_
  intro p e s m args below meth c s₁ B hml hv
  obtain ⟨rfl, hB⟩ := hv
  have hw := mm_begin hB
  have hx := B.exec
  have hb := B.bytes
  have hr := B.returns
  have hts : ∀ w ∈ lw_good, w.before _ s = true := fun w h => atoms_spec (ws := wsX9_writeOut) B.pre w (List.mem_cons_of_mem _ h)
  have hown : s.vm.findClass RX9 = some m.cls := findClass_of_methodNamed B.named
  have hlocks := B.notSynchronized
  have hC : mw_C p s m _ meth c cX9_writeOut RX9 none lw_good 5 := ⟨hx, hb, hml, hown, hts, hr, hlocks⟩
  have hl := lv_entry ([.ref b, .int x1]) (n := 5) (Nat.le_of_ble_eq_true rfl)
  rw [lg_entry_eq]
  generalize (lg_sl ([.ref b, .int x1]) ++ List.replicate (5 - (lg_sl ([.ref b, .int x1])).length) Slot.unset).toArray = ls at hl ⊢
  have hl : lv_has ls 5 [(0, .ref b), (1, .int x1)] := hl
  unfold pf_X9_writeOut at hf
  refine lv_aload_n hx hb dX9_writeOut_0 rfl (lv_at hl 0 rfl) ?_
  refine lv_bipush (v := 70) hx hb dX9_writeOut_1 (by decide) ?_
  obtain ⟨S1, e1, hf⟩ := mw_b hf
  refine mm_callv (va_runV (As := [.int 70]) (rest := []) ⟨hx, hb, hml, hown, hts⟩ (cm_X9_out l D G N b S0 S 70 S1 e1) (cwV 1 hts (mw_gV tw_974 tw_976 tp_34 tw_11 tw_977) rfl rfl rfl (by decide +kernel) ⟨Nat.le_of_ble_eq_true rfl, Nat.le_of_ble_eq_true rfl⟩) (mm_preV hw rfl) rfl rfl hl.1 rfl (lv_room (Nat.le_of_ble_eq_true rfl)) dX9_writeOut_3 ⟨(Nat.le_of_ble_eq_true rfl), (Nat.le_of_ble_eq_true rfl)⟩) hw (fun H locs hw => ?_)
  refine lv_aload_n hx hb dX9_writeOut_6 rfl (lv_at hl 0 rfl) ?_
  refine lv_aload_n hx hb dX9_writeOut_7 rfl (lv_at hl 0 rfl) ?_
  refine mm_getr hx hb hts inX9 hown hw rfl 23 (by decide) (hts _ tw_746) rfl 12 (fun _ _ => rfl) dX9_writeOut_8 ?_
  refine lv_iload_n hx hb dX9_writeOut_11 rfl (lv_at hl 1 rfl) ?_
  obtain ⟨v2, e2, hf⟩ := mw_b hf
  refine mm_iald hx hb hw 12 (by decide) 0 rfl e2 dX9_writeOut_12 ?_
  obtain ⟨S3, e3, hf⟩ := mw_b hf
  refine mm_callv (va_runV (As := [.int v2]) (rest := []) ⟨hx, hb, hml, hown, hts⟩ (cm_X9_outVariable l D G N b S0 S1 v2 S3 e3) (cwV 1 hts (mw_gV tw_978 tw_980 tp_35 tw_11 tw_981) rfl rfl rfl (by decide +kernel) ⟨Nat.le_of_ble_eq_true rfl, Nat.le_of_ble_eq_true rfl⟩) (mm_preV hw rfl) rfl rfl hl.1 rfl (lv_room (Nat.le_of_ble_eq_true rfl)) dX9_writeOut_13 ⟨(Nat.le_of_ble_eq_true rfl), (Nat.le_of_ble_eq_true rfl)⟩) hw (fun H locs hw => ?_)
  refine lv_aload_n hx hb dX9_writeOut_16 rfl (lv_at hl 0 rfl) ?_
  refine lv_aload_n hx hb dX9_writeOut_17 rfl (lv_at hl 0 rfl) ?_
  refine mm_getr hx hb hts inX9 hown hw rfl 24 (by decide) (hts _ tw_747) rfl 13 (fun _ _ => rfl) dX9_writeOut_18 ?_
  refine lv_iload_n hx hb dX9_writeOut_21 rfl (lv_at hl 1 rfl) ?_
  obtain ⟨v4, e4, hf⟩ := mw_b hf
  refine mm_iald hx hb hw 13 (by decide) 0 rfl e4 dX9_writeOut_22 ?_
  obtain ⟨S5, e5, hf⟩ := mw_b hf
  refine mm_callv (va_runV (As := [.int v4]) (rest := []) ⟨hx, hb, hml, hown, hts⟩ (cm_X9_outVariable l D G N b S0 S3 v4 S5 e5) (cwV 1 hts (mw_gV tw_978 tw_980 tp_35 tw_11 tw_981) rfl rfl rfl (by decide +kernel) ⟨Nat.le_of_ble_eq_true rfl, Nat.le_of_ble_eq_true rfl⟩) (mm_preV hw rfl) rfl rfl hl.1 rfl (lv_room (Nat.le_of_ble_eq_true rfl)) dX9_writeOut_23 ⟨(Nat.le_of_ble_eq_true rfl), (Nat.le_of_ble_eq_true rfl)⟩) hw (fun H locs hw => ?_)
  refine lv_aload_n hx hb dX9_writeOut_26 rfl (lv_at hl 0 rfl) ?_
  refine lv_aload_n hx hb dX9_writeOut_27 rfl (lv_at hl 0 rfl) ?_
  refine mm_getr hx hb hts inX9 hown hw rfl 25 (by decide) (hts _ tw_748) rfl 14 (fun _ _ => rfl) dX9_writeOut_28 ?_
  refine lv_iload_n hx hb dX9_writeOut_31 rfl (lv_at hl 1 rfl) ?_
  obtain ⟨v6, e6, hf⟩ := mw_b hf
  refine mm_iald hx hb hw 14 (by decide) 0 rfl e6 dX9_writeOut_32 ?_
  obtain ⟨S7, e7, hf⟩ := mw_b hf
  refine mm_callv (va_runV (As := [.int v6]) (rest := []) ⟨hx, hb, hml, hown, hts⟩ (cm_X9_outVariable l D G N b S0 S5 v6 S7 e7) (cwV 1 hts (mw_gV tw_978 tw_980 tp_35 tw_11 tw_981) rfl rfl rfl (by decide +kernel) ⟨Nat.le_of_ble_eq_true rfl, Nat.le_of_ble_eq_true rfl⟩) (mm_preV hw rfl) rfl rfl hl.1 rfl (lv_room (Nat.le_of_ble_eq_true rfl)) dX9_writeOut_33 ⟨(Nat.le_of_ble_eq_true rfl), (Nat.le_of_ble_eq_true rfl)⟩) hw (fun H locs hw => ?_)
  refine lv_iconst (v := 0) hx hb dX9_writeOut_36 (by decide) ?_
  refine lv_istore_n hx hb dX9_writeOut_37 rfl hl (by decide) rfl (fun ls hl => ?_)
  have hl : lv_has ls 5 [(2, .int 0), (0, .ref b), (1, .int x1)] := hl
  exact bX9_writeOut_38 ⟨hx, hb, hml, hown, hts, hr, hlocks⟩ D G N N _ _ _ _ _ _ hf (lv_sub hl [1, 2, 0] rfl) hw
abbrev rmX9_dump : Room := { frames := 3, cells := 0, slots := 0, locals := 70 }
abbrev wsX9_dump : List Cond := Cond.code yX9_dump cX9_dump 3 (some .int) :: lw_good
set_option maxHeartbeats 4000000 in
set_option maxRecDepth 100000 in
theorem bX9_dump_118 {p : Program} {l : Launch} {e : Env} {s : State} {m : MethodId} {args : Array Value} {below : List Frame} {meth : Method} {c : Code} (hC : mw_C p s m args meth c cX9_dump RX9 (some .int) lw_good 3) (D : va_G) (G : Nat → ClassId) (N : Nat) {b : Nat} {S0 : mw_M} {z : Int32 × mm_M} (k70 : Int32 → Int32 → mm_M → Option (Int32 × mm_M)) (hk70 : ∀ (y1 : Int32) (y2 : Int32) (S : mm_M) (H : Heap) (locs : List Loc) (ls : Array Slot), k70 y1 y2 S = some z → lv_has ls 3 [(0, .ref b), (1, .int y1), (2, .int y2)] → mm_W D vwCl (mw_tys G) mw_aos s G b S0 S H locs → W p l e (headSpec wsX9_dump rmX9_dump).room s m args below meth c H locs 0 0 (MQ below (mm_Qi D vwCl (mw_tys G) mw_aos G b S0 z) args s 0 0 (mm_A b S0)) (F0 m 70 ls [])) : ∀ (y1 : Int32) (y2 : Int32) (S : mm_M) (H : Heap) (locs : List Loc) (ls : Array Slot), pf_X9_dump_118 G N k70 y1 y2 S = some z → lv_has ls 3 [(0, .ref b), (1, .int y1), (2, .int y2)] → mm_W D vwCl (mw_tys G) mw_aos s G b S0 S H locs → W p l e (headSpec wsX9_dump rmX9_dump).room s m args below meth c H locs 0 0 (MQ below (mm_Qi D vwCl (mw_tys G) mw_aos G b S0 z) args s 0 0 (mm_A b S0)) (F0 m 118 ls []) := by
  obtain ⟨hx, hb, hml, hown, hts, hr, hlocks⟩ := hC
  intro y1 y2 S H locs ls hf hl hw
  unfold pf_X9_dump_118 at hf
  refine lv_aload_n hx hb dX9_dump_118 rfl (lv_at hl 0 rfl) ?_
  refine lv_iload_n hx hb dX9_dump_119 rfl (lv_at hl 2 rfl) ?_
  obtain ⟨S1, e1, hf⟩ := mw_b hf
  refine mm_callv (va_runV (As := [.int y2]) (rest := []) ⟨hx, hb, hml, hown, hts⟩ (cm_X9_writeOut l D G N b S0 S y2 S1 e1) (cwV 1 hts (mw_gV tw_970 tw_972 tp_33 tw_11 tw_973) rfl rfl rfl (by decide +kernel) ⟨Nat.le_of_ble_eq_true rfl, Nat.le_of_ble_eq_true rfl⟩) (mm_preV hw rfl) rfl rfl hl.1 rfl (lv_room (Nat.le_of_ble_eq_true rfl)) dX9_dump_120 ⟨(Nat.le_of_ble_eq_true rfl), (Nat.le_of_ble_eq_true rfl)⟩) hw (fun H locs hw => ?_)
  refine lv_iinc (k := 2) (v := (y2 + 1)) hx hb dX9_dump_123 hl rfl (congrArg (fun q => y2 + q) (show Int32.ofInt 1 = 1 by decide)) (by decide) rfl (fun ls hl => ?_)
  have hl : lv_has ls 3 [(2, .int (y2 + 1)), (0, .ref b), (1, .int y1)] := hl
  refine lv_goto hx hb dX9_dump_126 (tgt := 70) (by decide) ?_
  exact hk70 _ _ _ _ _ _ hf (lv_sub hl [1, 2, 0] rfl) hw
set_option maxHeartbeats 4000000 in
set_option maxRecDepth 100000 in
theorem bX9_dump_70 {p : Program} {l : Launch} {e : Env} {s : State} {m : MethodId} {args : Array Value} {below : List Frame} {meth : Method} {c : Code} (hC : mw_C p s m args meth c cX9_dump RX9 (some .int) lw_good 3) (D : va_G) (G : Nat → ClassId) (N : Nat) {b : Nat} {S0 : mw_M} {z : Int32 × mm_M} : ∀ (n : Nat) (y1 : Int32) (y2 : Int32) (S : mm_M) (H : Heap) (locs : List Loc) (ls : Array Slot), pf_X9_dump_70 G N n y1 y2 S = some z → lv_has ls 3 [(0, .ref b), (1, .int y1), (2, .int y2)] → mm_W D vwCl (mw_tys G) mw_aos s G b S0 S H locs → W p l e (headSpec wsX9_dump rmX9_dump).room s m args below meth c H locs 0 0 (MQ below (mm_Qi D vwCl (mw_tys G) mw_aos G b S0 z) args s 0 0 (mm_A b S0)) (F0 m 70 ls []) := by
  obtain ⟨hx, hb, hml, hown, hts, hr, hlocks⟩ := hC
  intro n
  induction n with
  | zero => intro y1 y2 S H locs ls hf; rw [pf_X9_dump_70] at hf; cases hf
  | succ n ih =>
    intro y1 y2 S H locs ls hf hl hw
    rw [pf_X9_dump_70] at hf
    refine lv_iload_n hx hb dX9_dump_70 rfl (lv_at hl 2 rfl) ?_
    refine lv_aload_n hx hb dX9_dump_71 rfl (lv_at hl 0 rfl) ?_
    refine mm_geti hx hb hts inX9 hown hw rfl 19 (by decide) (hts _ tw_742) rfl (fun _ _ => rfl) dX9_dump_72 ?_
    refine lv_icmp_ge hx hb dX9_dump_75 (tgt := 129) (by decide) (fun hc => ?_) (fun hc => ?_)
    · rw [if_pos hc] at hf
      refine lv_aload_n hx hb dX9_dump_129 rfl (lv_at hl 0 rfl) ?_
      refine mm_geti hx hb hts inX9 hown hw rfl 36 (by decide) (hts _ tw_759) rfl (fun _ _ => rfl) dX9_dump_130 ?_
      exact mm_iret hx hb hr hlocks hw hf dX9_dump_133
    · rw [if_neg hc] at hf
      refine lv_aload_n hx hb dX9_dump_78 rfl (lv_at hl 0 rfl) ?_
      refine mm_getr hx hb hts inX9 hown hw rfl 23 (by decide) (hts _ tw_746) rfl 12 (fun _ _ => rfl) dX9_dump_79 ?_
      refine lv_iload_n hx hb dX9_dump_82 rfl (lv_at hl 2 rfl) ?_
      obtain ⟨v1, e1, hf⟩ := mw_b hf
      refine mm_iald hx hb hw 12 (by decide) 0 rfl e1 dX9_dump_83 ?_
      refine lv_aload_n hx hb dX9_dump_84 rfl (lv_at hl 0 rfl) ?_
      refine mm_getr hx hb hts inX9 hown hw rfl 33 (by decide) (hts _ tw_756) rfl 21 (fun _ _ => rfl) dX9_dump_85 ?_
      refine lv_iload_n hx hb dX9_dump_88 rfl (lv_at hl 1 rfl) ?_
      obtain ⟨v2, e2, hf⟩ := mw_b hf
      refine mm_iald hx hb hw 21 (by decide) 0 rfl e2 dX9_dump_89 ?_
      refine lv_icmp_lt hx hb dX9_dump_90 (tgt := 123) (by decide) (fun hc => ?_) (fun hc => ?_)
      · rw [if_pos hc] at hf
        refine lv_iinc (k := 2) (v := (y2 + 1)) hx hb dX9_dump_123 hl rfl (congrArg (fun q => y2 + q) (show Int32.ofInt 1 = 1 by decide)) (by decide) rfl (fun ls hl => ?_)
        have hl : lv_has ls 3 [(2, .int (y2 + 1)), (0, .ref b), (1, .int y1)] := hl
        refine lv_goto hx hb dX9_dump_126 (tgt := 70) (by decide) ?_
        exact ih _ _ _ _ _ _ hf (lv_sub hl [1, 2, 0] rfl) hw
      · rw [if_neg hc] at hf
        refine lv_aload_n hx hb dX9_dump_93 rfl (lv_at hl 0 rfl) ?_
        refine mm_getr hx hb hts inX9 hown hw rfl 30 (by decide) (hts _ tw_753) rfl 18 (fun _ _ => rfl) dX9_dump_94 ?_
        refine lv_iload_n hx hb dX9_dump_97 rfl (lv_at hl 1 rfl) ?_
        obtain ⟨v3, e3, hf⟩ := mw_b hf
        refine mm_iald hx hb hw 18 (by decide) 0 rfl e3 dX9_dump_98 ?_
        refine lv_iconst (v := 1) hx hb dX9_dump_99 (by decide) ?_
        refine lv_icmp_eq hx hb dX9_dump_100 (tgt := 118) (by decide) (fun hc => ?_) (fun hc => ?_)
        · rw [if_pos hc] at hf
          exact bX9_dump_118 ⟨hx, hb, hml, hown, hts, hr, hlocks⟩ D G N (pf_X9_dump_70 G N n) ih _ _ _ _ _ _ hf (lv_sub hl [0, 1, 2] rfl) hw
        · rw [if_neg hc] at hf
          refine lv_aload_n hx hb dX9_dump_103 rfl (lv_at hl 0 rfl) ?_
          refine mm_getr hx hb hts inX9 hown hw rfl 23 (by decide) (hts _ tw_746) rfl 12 (fun _ _ => rfl) dX9_dump_104 ?_
          refine lv_iload_n hx hb dX9_dump_107 rfl (lv_at hl 2 rfl) ?_
          obtain ⟨v4, e4, hf⟩ := mw_b hf
          refine mm_iald hx hb hw 12 (by decide) 0 rfl e4 dX9_dump_108 ?_
          refine lv_aload_n hx hb dX9_dump_109 rfl (lv_at hl 0 rfl) ?_
          refine mm_getr hx hb hts inX9 hown hw rfl 34 (by decide) (hts _ tw_757) rfl 22 (fun _ _ => rfl) dX9_dump_110 ?_
          refine lv_iload_n hx hb dX9_dump_113 rfl (lv_at hl 1 rfl) ?_
          obtain ⟨v5, e5, hf⟩ := mw_b hf
          refine mm_iald hx hb hw 22 (by decide) 0 rfl e5 dX9_dump_114 ?_
          refine lv_icmp_gt hx hb dX9_dump_115 (tgt := 123) (by decide) (fun hc => ?_) (fun hc => ?_)
          · rw [if_pos hc] at hf
            refine lv_iinc (k := 2) (v := (y2 + 1)) hx hb dX9_dump_123 hl rfl (congrArg (fun q => y2 + q) (show Int32.ofInt 1 = 1 by decide)) (by decide) rfl (fun ls hl => ?_)
            have hl : lv_has ls 3 [(2, .int (y2 + 1)), (0, .ref b), (1, .int y1)] := hl
            refine lv_goto hx hb dX9_dump_126 (tgt := 70) (by decide) ?_
            exact ih _ _ _ _ _ _ hf (lv_sub hl [1, 2, 0] rfl) hw
          · rw [if_neg hc] at hf
            exact bX9_dump_118 ⟨hx, hb, hml, hown, hts, hr, hlocks⟩ D G N (pf_X9_dump_70 G N n) ih _ _ _ _ _ _ hf (lv_sub hl [0, 1, 2] rfl) hw
set_option maxHeartbeats 4000000 in
set_option maxRecDepth 100000 in
theorem bX9_dump_37 {p : Program} {l : Launch} {e : Env} {s : State} {m : MethodId} {args : Array Value} {below : List Frame} {meth : Method} {c : Code} (hC : mw_C p s m args meth c cX9_dump RX9 (some .int) lw_good 3) (D : va_G) (G : Nat → ClassId) (N : Nat) {b : Nat} {S0 : mw_M} {z : Int32 × mm_M} : ∀ (y1 : Int32) (w1 : Int32) (S : mm_M) (H : Heap) (locs : List Loc) (ls : Array Slot), pf_X9_dump_37 G N y1 w1 S = some z → lv_has ls 3 [(0, .ref b), (1, .int y1)] → mm_W D vwCl (mw_tys G) mw_aos s G b S0 S H locs → W p l e (headSpec wsX9_dump rmX9_dump).room s m args below meth c H locs 0 0 (MQ below (mm_Qi D vwCl (mw_tys G) mw_aos G b S0 z) args s 0 0 (mm_A b S0)) (F0 m 37 ls [.int w1, .ref b]) := by
  obtain ⟨hx, hb, hml, hown, hts, hr, hlocks⟩ := hC
  intro y1 w1 S H locs ls hf hl hw
  unfold pf_X9_dump_37 at hf
  obtain ⟨S1, e1, hf⟩ := mw_b hf
  refine mm_put hx hb hts inX9 tyX9 tyX9_ok nX9 hown hw rfl 4 (by decide) (hts _ tw_727) rfl rfl (by decide +kernel) (by decide) (mm_st4 _) e1 dX9_dump_37 (fun H locs hw => ?_)
  refine lv_aload_n hx hb dX9_dump_40 rfl (lv_at hl 0 rfl) ?_
  refine mm_geti hx hb hts inX9 hown hw rfl 4 (by decide) (hts _ tw_727) rfl (fun _ _ => rfl) dX9_dump_41 ?_
  refine lv_if_le hx hb dX9_dump_44 (tgt := 49) (by decide) (fun hc => ?_) (fun hc => ?_)
  · rw [if_pos hc] at hf
    refine lv_aload_n hx hb dX9_dump_49 rfl (lv_at hl 0 rfl) ?_
    refine mm_getr hx hb hts inX9 hown hw rfl 30 (by decide) (hts _ tw_753) rfl 18 (fun _ _ => rfl) dX9_dump_50 ?_
    refine lv_iload_n hx hb dX9_dump_53 rfl (lv_at hl 1 rfl) ?_
    obtain ⟨v2, e2, hf⟩ := mw_b hf
    refine mm_iald hx hb hw 18 (by decide) 0 rfl e2 dX9_dump_54 ?_
    refine lv_iconst (v := 1) hx hb dX9_dump_55 (by decide) ?_
    refine lv_icmp_ne hx hb dX9_dump_56 (tgt := 63) (by decide) (fun hc => ?_) (fun hc => ?_)
    · rw [if_pos hc] at hf
      refine lv_aload_n hx hb dX9_dump_63 rfl (lv_at hl 0 rfl) ?_
      refine lv_iconst (v := 0) hx hb dX9_dump_64 (by decide) ?_
      obtain ⟨S3, e3, hf⟩ := mw_b hf
      refine mm_put hx hb hts inX9 tyX9 tyX9_ok nX9 hown hw rfl 36 (by decide) (hts _ tw_759) rfl rfl (by decide +kernel) (by decide) (mm_st36 _) e3 dX9_dump_65 (fun H locs hw => ?_)
      refine lv_iconst (v := 0) hx hb dX9_dump_68 (by decide) ?_
      refine lv_istore_n hx hb dX9_dump_69 rfl hl (by decide) rfl (fun ls hl => ?_)
      have hl : lv_has ls 3 [(2, .int 0), (0, .ref b), (1, .int y1)] := hl
      exact bX9_dump_70 ⟨hx, hb, hml, hown, hts, hr, hlocks⟩ D G N N _ _ _ _ _ _ hf (lv_sub hl [1, 2, 0] rfl) hw
    · rw [if_neg (fun q => q hc)] at hf
      refine lv_aload_n hx hb dX9_dump_59 rfl (lv_at hl 0 rfl) ?_
      obtain ⟨S4, e4, hf⟩ := mw_b hf
      refine mm_callv (va_runV (As := []) (rest := []) ⟨hx, hb, hml, hown, hts⟩ (cm_X9_rotate l D G N b S0 S1 S4 e4) (cwV 0 hts (mw_gV tw_902 tw_904 tp_23 tw_11 tw_905) rfl rfl rfl (by decide +kernel) ⟨Nat.le_of_ble_eq_true rfl, Nat.le_of_ble_eq_true rfl⟩) (mm_preV hw rfl) rfl rfl hl.1 rfl (lv_room (Nat.le_of_ble_eq_true rfl)) dX9_dump_60 ⟨(Nat.le_of_ble_eq_true rfl), (Nat.le_of_ble_eq_true rfl)⟩) hw (fun H locs hw => ?_)
      refine lv_aload_n hx hb dX9_dump_63 rfl (lv_at hl 0 rfl) ?_
      refine lv_iconst (v := 0) hx hb dX9_dump_64 (by decide) ?_
      obtain ⟨S5, e5, hf⟩ := mw_b hf
      refine mm_put hx hb hts inX9 tyX9 tyX9_ok nX9 hown hw rfl 36 (by decide) (hts _ tw_759) rfl rfl (by decide +kernel) (by decide) (mm_st36 _) e5 dX9_dump_65 (fun H locs hw => ?_)
      refine lv_iconst (v := 0) hx hb dX9_dump_68 (by decide) ?_
      refine lv_istore_n hx hb dX9_dump_69 rfl hl (by decide) rfl (fun ls hl => ?_)
      have hl : lv_has ls 3 [(2, .int 0), (0, .ref b), (1, .int y1)] := hl
      exact bX9_dump_70 ⟨hx, hb, hml, hown, hts, hr, hlocks⟩ D G N N _ _ _ _ _ _ hf (lv_sub hl [1, 2, 0] rfl) hw
  · rw [if_neg hc] at hf
    refine lv_iconst (v := 0) hx hb dX9_dump_47 (by decide) ?_
    exact mm_iret hx hb hr hlocks hw hf dX9_dump_48
set_option maxHeartbeats 4000000 in
set_option maxRecDepth 100000 in
theorem bX9_dump_32 {p : Program} {l : Launch} {e : Env} {s : State} {m : MethodId} {args : Array Value} {below : List Frame} {meth : Method} {c : Code} (hC : mw_C p s m args meth c cX9_dump RX9 (some .int) lw_good 3) (D : va_G) (G : Nat → ClassId) (N : Nat) {b : Nat} {S0 : mw_M} {z : Int32 × mm_M} : ∀ (y1 : Int32) (S : mm_M) (H : Heap) (locs : List Loc) (ls : Array Slot), pf_X9_dump_32 G N y1 S = some z → lv_has ls 3 [(0, .ref b), (1, .int y1)] → mm_W D vwCl (mw_tys G) mw_aos s G b S0 S H locs → W p l e (headSpec wsX9_dump rmX9_dump).room s m args below meth c H locs 0 0 (MQ below (mm_Qi D vwCl (mw_tys G) mw_aos G b S0 z) args s 0 0 (mm_A b S0)) (F0 m 32 ls [.ref b]) := by
  obtain ⟨hx, hb, hml, hown, hts, hr, hlocks⟩ := hC
  intro y1 S H locs ls hf hl hw
  unfold pf_X9_dump_32 at hf
  refine lv_iconst (v := 2) hx hb dX9_dump_32 (by decide) ?_
  refine lv_goto hx hb dX9_dump_33 (tgt := 37) (by decide) ?_
  exact bX9_dump_37 ⟨hx, hb, hml, hown, hts, hr, hlocks⟩ D G N _ _ _ _ _ _ hf (lv_sub hl [0, 1] rfl) hw
set_option maxHeartbeats 4000000 in
set_option maxRecDepth 100000 in
theorem cm_X9_dump (l : Launch) (D : va_G) (G : Nat → ClassId) (N : Nat) (b : Nat) (S0 : mw_M) (S : mm_M) (x1 : Int32) (z : Int32 × mm_M) (hf : pf_X9_dump G N S x1 = some z) : Met l yX9_dump wsX9_dump rmX9_dump (va_Pc [.ref b, .int x1] (mm_B D vwCl (mw_tys G) mw_aos G b S0 S)) (mm_Qi D vwCl (mw_tys G) mw_aos G b S0 z) 0 0 (mm_A b S0) := by
  refine Met.ofW (cc := cX9_dump) (maxL := 3) (ret := (some .int)) (by decide) rfl ?_
  intro p e s m args below meth c s₁ B hml hv
  obtain ⟨rfl, hB⟩ := hv
  have hw := mm_begin hB
  have hx := B.exec
  have hb := B.bytes
  have hr := B.returns
  have hts : ∀ w ∈ lw_good, w.before _ s = true := fun w h => atoms_spec (ws := wsX9_dump) B.pre w (List.mem_cons_of_mem _ h)
  have hown : s.vm.findClass RX9 = some m.cls := findClass_of_methodNamed B.named
  have hlocks := B.notSynchronized
  have hC : mw_C p s m _ meth c cX9_dump RX9 (some .int) lw_good 3 := ⟨hx, hb, hml, hown, hts, hr, hlocks⟩
  have hl := lv_entry ([.ref b, .int x1]) (n := 3) (Nat.le_of_ble_eq_true rfl)
  rw [lg_entry_eq]
  generalize (lg_sl ([.ref b, .int x1]) ++ List.replicate (3 - (lg_sl ([.ref b, .int x1])).length) Slot.unset).toArray = ls at hl ⊢
  have hl : lv_has ls 3 [(0, .ref b), (1, .int x1)] := hl
  unfold pf_X9_dump at hf
  refine lv_aload_n hx hb dX9_dump_0 rfl (lv_at hl 0 rfl) ?_
  refine lv_aload_n hx hb dX9_dump_1 rfl (lv_at hl 0 rfl) ?_
  refine lv_iload_n hx hb dX9_dump_2 rfl (lv_at hl 1 rfl) ?_
  obtain ⟨v1, S1, e1, hf⟩ := mw_bb hf
  refine mm_calli (va_runV (As := [.int x1]) (rest := [.ref b]) ⟨hx, hb, hml, hown, hts⟩ (cm_X9_isRecording l D G N b S0 S x1 (v1, S1) e1) (cwV 1 hts (mw_gV tw_938 tw_940 tp_30 tw_11 tw_941) rfl rfl rfl (by decide +kernel) ⟨Nat.le_of_ble_eq_true rfl, Nat.le_of_ble_eq_true rfl⟩) (mm_preV hw rfl) rfl rfl hl.1 rfl (lv_room (Nat.le_of_ble_eq_true rfl)) dX9_dump_3 ⟨(Nat.le_of_ble_eq_true rfl), (Nat.le_of_ble_eq_true rfl)⟩) hw (fun H locs hw => ?_)
  refine lv_if_ne hx hb dX9_dump_6 (tgt := 13) (by decide) (fun hc => ?_) (fun hc => ?_)
  · rw [if_pos hc] at hf
    refine lv_aload_n hx hb dX9_dump_13 rfl (lv_at hl 0 rfl) ?_
    refine mm_getr hx hb hts inX9 hown hw rfl 30 (by decide) (hts _ tw_753) rfl 18 (fun _ _ => rfl) dX9_dump_14 ?_
    refine lv_iload_n hx hb dX9_dump_17 rfl (lv_at hl 1 rfl) ?_
    obtain ⟨v2, e2, hf⟩ := mw_b hf
    refine mm_iald hx hb hw 18 (by decide) 0 rfl e2 dX9_dump_18 ?_
    refine lv_if_eq hx hb dX9_dump_19 (tgt := 32) (by decide) (fun hc => ?_) (fun hc => ?_)
    · rw [if_pos hc] at hf
      exact bX9_dump_32 ⟨hx, hb, hml, hown, hts, hr, hlocks⟩ D G N _ _ _ _ _ hf (lv_sub hl [0, 1] rfl) hw
    · rw [if_neg hc] at hf
      refine lv_aload_n hx hb dX9_dump_22 rfl (lv_at hl 0 rfl) ?_
      refine mm_getr hx hb hts inX9 hown hw rfl 30 (by decide) (hts _ tw_753) rfl 18 (fun _ _ => rfl) dX9_dump_23 ?_
      refine lv_iload_n hx hb dX9_dump_26 rfl (lv_at hl 1 rfl) ?_
      obtain ⟨v3, e3, hf⟩ := mw_b hf
      refine mm_iald hx hb hw 18 (by decide) 0 rfl e3 dX9_dump_27 ?_
      refine lv_iconst (v := 3) hx hb dX9_dump_28 (by decide) ?_
      refine lv_icmp_ne hx hb dX9_dump_29 (tgt := 36) (by decide) (fun hc => ?_) (fun hc => ?_)
      · rw [if_pos hc] at hf
        refine lv_iconst (v := 0) hx hb dX9_dump_36 (by decide) ?_
        exact bX9_dump_37 ⟨hx, hb, hml, hown, hts, hr, hlocks⟩ D G N _ _ _ _ _ _ hf (lv_sub hl [0, 1] rfl) hw
      · rw [if_neg (fun q => q hc)] at hf
        exact bX9_dump_32 ⟨hx, hb, hml, hown, hts, hr, hlocks⟩ D G N _ _ _ _ _ hf (lv_sub hl [0, 1] rfl) hw
  · rw [if_neg (fun q => q hc)] at hf
    refine lv_iconst (v := 1) hx hb dX9_dump_9 (by decide) ?_
    refine lv_goto hx hb dX9_dump_10 (tgt := 37) (by decide) ?_
    exact bX9_dump_37 ⟨hx, hb, hml, hown, hts, hr, hlocks⟩ D G N _ _ _ _ _ _ hf (lv_sub hl [0, 1] rfl) hw
abbrev rmX9_output : Room := { frames := 0, cells := 0, slots := 0, locals := 0 }
abbrev wsX9_output : List Cond := Cond.code yX9_output cX9_output 2 (some .int) :: lw_good
set_option maxHeartbeats 4000000 in
set_option maxRecDepth 100000 in
theorem cm_X9_output (l : Launch) (D : va_G) (G : Nat → ClassId) (N : Nat) (b : Nat) (S0 : mw_M) (S : mm_M) (x1 : Int32) (z : Int32 × mm_M) (hf : pf_X9_output G N S x1 = some z) : Met l yX9_output wsX9_output rmX9_output (va_Pc [.ref b, .int x1] (mm_B D vwCl (mw_tys G) mw_aos G b S0 S)) (mm_Qi D vwCl (mw_tys G) mw_aos G b S0 z) 0 0 (mm_A b S0) := by
  refine Met.ofW (cc := cX9_output) (maxL := 2) (ret := (some .int)) (by decide) rfl ?_
  intro p e s m args below meth c s₁ B hml hv
  obtain ⟨rfl, hB⟩ := hv
  have hw := mm_begin hB
  have hx := B.exec
  have hb := B.bytes
  have hr := B.returns
  have hts : ∀ w ∈ lw_good, w.before _ s = true := fun w h => atoms_spec (ws := wsX9_output) B.pre w (List.mem_cons_of_mem _ h)
  have hown : s.vm.findClass RX9 = some m.cls := findClass_of_methodNamed B.named
  have hlocks := B.notSynchronized
  have hC : mw_C p s m _ meth c cX9_output RX9 (some .int) lw_good 2 := ⟨hx, hb, hml, hown, hts, hr, hlocks⟩
  have hl := lv_entry ([.ref b, .int x1]) (n := 2) (Nat.le_of_ble_eq_true rfl)
  rw [lg_entry_eq]
  generalize (lg_sl ([.ref b, .int x1]) ++ List.replicate (2 - (lg_sl ([.ref b, .int x1])).length) Slot.unset).toArray = ls at hl ⊢
  have hl : lv_has ls 2 [(0, .ref b), (1, .int x1)] := hl
  unfold pf_X9_output at hf
  refine lv_aload_n hx hb dX9_output_0 rfl (lv_at hl 0 rfl) ?_
  refine lv_iconst (v := 0) hx hb dX9_output_1 (by decide) ?_
  obtain ⟨S1, e1, hf⟩ := mw_b hf
  refine mm_put hx hb hts inX9 tyX9 tyX9_ok nX9 hown hw rfl 4 (by decide) (hts _ tw_727) rfl rfl (by decide +kernel) (by decide) (mm_st4 _) e1 dX9_output_2 (fun H locs hw => ?_)
  refine lv_iload_n hx hb dX9_output_5 rfl (lv_at hl 1 rfl) ?_
  refine lv_if_lt hx hb dX9_output_6 (tgt := 26) (by decide) (fun hc => ?_) (fun hc => ?_)
  · rw [if_pos hc] at hf
    refine lv_iconst (v := (-1)) hx hb dX9_output_26 (by decide) ?_
    exact mm_iret hx hb hr hlocks hw hf dX9_output_27
  · rw [if_neg hc] at hf
    refine lv_iload_n hx hb dX9_output_9 rfl (lv_at hl 1 rfl) ?_
    refine lv_aload_n hx hb dX9_output_10 rfl (lv_at hl 0 rfl) ?_
    refine mm_geti hx hb hts inX9 hown hw rfl 36 (by decide) (hts _ tw_759) rfl (fun _ _ => rfl) dX9_output_11 ?_
    refine lv_icmp_ge hx hb dX9_output_14 (tgt := 26) (by decide) (fun hc => ?_) (fun hc => ?_)
    · rw [if_pos hc] at hf
      refine lv_iconst (v := (-1)) hx hb dX9_output_26 (by decide) ?_
      exact mm_iret hx hb hr hlocks hw hf dX9_output_27
    · rw [if_neg hc] at hf
      refine lv_aload_n hx hb dX9_output_17 rfl (lv_at hl 0 rfl) ?_
      refine mm_getr hx hb hts inX9 hown hw rfl 35 (by decide) (hts _ tw_758) rfl 23 (fun _ _ => rfl) dX9_output_18 ?_
      refine lv_iload_n hx hb dX9_output_21 rfl (lv_at hl 1 rfl) ?_
      obtain ⟨v2, e2, hf⟩ := mw_b hf
      refine mm_iald hx hb hw 23 (by decide) 0 rfl e2 dX9_output_22 ?_
      refine lv_goto hx hb dX9_output_23 (tgt := 27) (by decide) ?_
      exact mm_iret hx hb hr hlocks hw hf dX9_output_27
abbrev rmX9_state : Room := { frames := 1, cells := 0, slots := 0, locals := 21 }
abbrev wsX9_state : List Cond := Cond.code yX9_state cX9_state 2 (some .int) :: lw_good
set_option maxHeartbeats 4000000 in
set_option maxRecDepth 100000 in
theorem cm_X9_state (l : Launch) (D : va_G) (G : Nat → ClassId) (N : Nat) (b : Nat) (S0 : mw_M) (S : mm_M) (x1 : Int32) (z : Int32 × mm_M) (hf : pf_X9_state G N S x1 = some z) : Met l yX9_state wsX9_state rmX9_state (va_Pc [.ref b, .int x1] (mm_B D vwCl (mw_tys G) mw_aos G b S0 S)) (mm_Qi D vwCl (mw_tys G) mw_aos G b S0 z) 0 0 (mm_A b S0) := by
  refine Met.ofW (cc := cX9_state) (maxL := 2) (ret := (some .int)) (by decide) rfl ?_
  intro p e s m args below meth c s₁ B hml hv
  obtain ⟨rfl, hB⟩ := hv
  have hw := mm_begin hB
  have hx := B.exec
  have hb := B.bytes
  have hr := B.returns
  have hts : ∀ w ∈ lw_good, w.before _ s = true := fun w h => atoms_spec (ws := wsX9_state) B.pre w (List.mem_cons_of_mem _ h)
  have hown : s.vm.findClass RX9 = some m.cls := findClass_of_methodNamed B.named
  have hlocks := B.notSynchronized
  have hC : mw_C p s m _ meth c cX9_state RX9 (some .int) lw_good 2 := ⟨hx, hb, hml, hown, hts, hr, hlocks⟩
  have hl := lv_entry ([.ref b, .int x1]) (n := 2) (Nat.le_of_ble_eq_true rfl)
  rw [lg_entry_eq]
  generalize (lg_sl ([.ref b, .int x1]) ++ List.replicate (2 - (lg_sl ([.ref b, .int x1])).length) Slot.unset).toArray = ls at hl ⊢
  have hl : lv_has ls 2 [(0, .ref b), (1, .int x1)] := hl
  unfold pf_X9_state at hf
  refine lv_aload_n hx hb dX9_state_0 rfl (lv_at hl 0 rfl) ?_
  refine lv_iconst (v := 0) hx hb dX9_state_1 (by decide) ?_
  obtain ⟨S1, e1, hf⟩ := mw_b hf
  refine mm_put hx hb hts inX9 tyX9 tyX9_ok nX9 hown hw rfl 4 (by decide) (hts _ tw_727) rfl rfl (by decide +kernel) (by decide) (mm_st4 _) e1 dX9_state_2 (fun H locs hw => ?_)
  refine lv_aload_n hx hb dX9_state_5 rfl (lv_at hl 0 rfl) ?_
  refine lv_iload_n hx hb dX9_state_6 rfl (lv_at hl 1 rfl) ?_
  obtain ⟨v2, S2, e2, hf⟩ := mw_bb hf
  refine mm_calli (va_runV (As := [.int x1]) (rest := []) ⟨hx, hb, hml, hown, hts⟩ (cm_X9_isRecording l D G N b S0 S1 x1 (v2, S2) e2) (cwV 1 hts (mw_gV tw_938 tw_940 tp_30 tw_11 tw_941) rfl rfl rfl (by decide +kernel) ⟨Nat.le_of_ble_eq_true rfl, Nat.le_of_ble_eq_true rfl⟩) (mm_preV hw rfl) rfl rfl hl.1 rfl (lv_room (Nat.le_of_ble_eq_true rfl)) dX9_state_7 ⟨(Nat.le_of_ble_eq_true rfl), (Nat.le_of_ble_eq_true rfl)⟩) hw (fun H locs hw => ?_)
  refine lv_if_eq hx hb dX9_state_10 (tgt := 22) (by decide) (fun hc => ?_) (fun hc => ?_)
  · rw [if_pos hc] at hf
    refine lv_iconst (v := (-1)) hx hb dX9_state_22 (by decide) ?_
    exact mm_iret hx hb hr hlocks hw hf dX9_state_23
  · rw [if_neg hc] at hf
    refine lv_aload_n hx hb dX9_state_13 rfl (lv_at hl 0 rfl) ?_
    refine mm_getr hx hb hts inX9 hown hw rfl 30 (by decide) (hts _ tw_753) rfl 18 (fun _ _ => rfl) dX9_state_14 ?_
    refine lv_iload_n hx hb dX9_state_17 rfl (lv_at hl 1 rfl) ?_
    obtain ⟨v3, e3, hf⟩ := mw_b hf
    refine mm_iald hx hb hw 18 (by decide) 0 rfl e3 dX9_state_18 ?_
    refine lv_goto hx hb dX9_state_19 (tgt := 23) (by decide) ?_
    exact mm_iret hx hb hr hlocks hw hf dX9_state_23
abbrev rmX9_threshold : Room := { frames := 1, cells := 0, slots := 0, locals := 21 }
abbrev wsX9_threshold : List Cond := Cond.code yX9_threshold cX9_threshold 3 (some .int) :: lw_good
set_option maxHeartbeats 4000000 in
set_option maxRecDepth 100000 in
theorem cm_X9_threshold (l : Launch) (D : va_G) (G : Nat → ClassId) (N : Nat) (b : Nat) (S0 : mw_M) (S : mm_M) (x1 : Int32) (x2 : Int32) (z : Int32 × mm_M) (hf : pf_X9_threshold G N S x1 x2 = some z) : Met l yX9_threshold wsX9_threshold rmX9_threshold (va_Pc [.ref b, .int x1, .int x2] (mm_B D vwCl (mw_tys G) mw_aos G b S0 S)) (mm_Qi D vwCl (mw_tys G) mw_aos G b S0 z) 0 0 (mm_A b S0) := by
  refine Met.ofW (cc := cX9_threshold) (maxL := 3) (ret := (some .int)) (by decide) rfl ?_
  intro p e s m args below meth c s₁ B hml hv
  obtain ⟨rfl, hB⟩ := hv
  have hw := mm_begin hB
  have hx := B.exec
  have hb := B.bytes
  have hr := B.returns
  have hts : ∀ w ∈ lw_good, w.before _ s = true := fun w h => atoms_spec (ws := wsX9_threshold) B.pre w (List.mem_cons_of_mem _ h)
  have hown : s.vm.findClass RX9 = some m.cls := findClass_of_methodNamed B.named
  have hlocks := B.notSynchronized
  have hC : mw_C p s m _ meth c cX9_threshold RX9 (some .int) lw_good 3 := ⟨hx, hb, hml, hown, hts, hr, hlocks⟩
  have hl := lv_entry ([.ref b, .int x1, .int x2]) (n := 3) (Nat.le_of_ble_eq_true rfl)
  rw [lg_entry_eq]
  generalize (lg_sl ([.ref b, .int x1, .int x2]) ++ List.replicate (3 - (lg_sl ([.ref b, .int x1, .int x2])).length) Slot.unset).toArray = ls at hl ⊢
  have hl : lv_has ls 3 [(0, .ref b), (1, .int x1), (2, .int x2)] := hl
  unfold pf_X9_threshold at hf
  refine lv_aload_n hx hb dX9_threshold_0 rfl (lv_at hl 0 rfl) ?_
  refine lv_iconst (v := 0) hx hb dX9_threshold_1 (by decide) ?_
  obtain ⟨S1, e1, hf⟩ := mw_b hf
  refine mm_put hx hb hts inX9 tyX9 tyX9_ok nX9 hown hw rfl 4 (by decide) (hts _ tw_727) rfl rfl (by decide +kernel) (by decide) (mm_st4 _) e1 dX9_threshold_2 (fun H locs hw => ?_)
  refine lv_aload_n hx hb dX9_threshold_5 rfl (lv_at hl 0 rfl) ?_
  refine lv_iload_n hx hb dX9_threshold_6 rfl (lv_at hl 1 rfl) ?_
  obtain ⟨v2, S2, e2, hf⟩ := mw_bb hf
  refine mm_calli (va_runV (As := [.int x1]) (rest := []) ⟨hx, hb, hml, hown, hts⟩ (cm_X9_isRecording l D G N b S0 S1 x1 (v2, S2) e2) (cwV 1 hts (mw_gV tw_938 tw_940 tp_30 tw_11 tw_941) rfl rfl rfl (by decide +kernel) ⟨Nat.le_of_ble_eq_true rfl, Nat.le_of_ble_eq_true rfl⟩) (mm_preV hw rfl) rfl rfl hl.1 rfl (lv_room (Nat.le_of_ble_eq_true rfl)) dX9_threshold_7 ⟨(Nat.le_of_ble_eq_true rfl), (Nat.le_of_ble_eq_true rfl)⟩) hw (fun H locs hw => ?_)
  refine lv_if_eq hx hb dX9_threshold_10 (tgt := 53) (by decide) (fun hc => ?_) (fun hc => ?_)
  · rw [if_pos hc] at hf
    refine lv_iconst (v := (-1)) hx hb dX9_threshold_53 (by decide) ?_
    exact mm_iret hx hb hr hlocks hw hf dX9_threshold_54
  · rw [if_neg hc] at hf
    refine lv_iload_n hx hb dX9_threshold_13 rfl (lv_at hl 2 rfl) ?_
    refine lv_if_lt hx hb dX9_threshold_14 (tgt := 53) (by decide) (fun hc => ?_) (fun hc => ?_)
    · rw [if_pos hc] at hf
      refine lv_iconst (v := (-1)) hx hb dX9_threshold_53 (by decide) ?_
      exact mm_iret hx hb hr hlocks hw hf dX9_threshold_54
    · rw [if_neg hc] at hf
      refine lv_iload_n hx hb dX9_threshold_17 rfl (lv_at hl 2 rfl) ?_
      refine lv_aload_n hx hb dX9_threshold_18 rfl (lv_at hl 0 rfl) ?_
      refine mm_geti hx hb hts inX9 hown hw rfl 7 (by decide) (hts _ tw_730) rfl (fun _ _ => rfl) dX9_threshold_19 ?_
      refine lv_icmp_ge hx hb dX9_threshold_22 (tgt := 53) (by decide) (fun hc => ?_) (fun hc => ?_)
      · rw [if_pos hc] at hf
        refine lv_iconst (v := (-1)) hx hb dX9_threshold_53 (by decide) ?_
        exact mm_iret hx hb hr hlocks hw hf dX9_threshold_54
      · rw [if_neg hc] at hf
        refine lv_aload_n hx hb dX9_threshold_25 rfl (lv_at hl 0 rfl) ?_
        refine mm_getr hx hb hts inX9 hown hw rfl 31 (by decide) (hts _ tw_754) rfl 19 (fun _ _ => rfl) dX9_threshold_26 ?_
        refine lv_bipush (v := 6) hx hb dX9_threshold_29 (by decide) ?_
        refine lv_iload_n hx hb dX9_threshold_31 rfl (lv_at hl 1 rfl) ?_
        refine lv_imul hx hb dX9_threshold_32 ?_
        refine lv_iload_n hx hb dX9_threshold_33 rfl (lv_at hl 2 rfl) ?_
        refine lv_iadd hx hb dX9_threshold_34 ?_
        obtain ⟨v3, e3, hf⟩ := mw_b hf
        refine mm_zald hx hb hw 19 (by decide) 3 rfl e3 dX9_threshold_35 ?_
        refine lv_if_ne hx hb dX9_threshold_36 (tgt := 53) (by decide) (fun hc => ?_) (fun hc => ?_)
        · rw [if_pos hc] at hf
          refine lv_iconst (v := (-1)) hx hb dX9_threshold_53 (by decide) ?_
          exact mm_iret hx hb hr hlocks hw hf dX9_threshold_54
        · rw [if_neg (fun q => q hc)] at hf
          refine lv_aload_n hx hb dX9_threshold_39 rfl (lv_at hl 0 rfl) ?_
          refine mm_getr hx hb hts inX9 hown hw rfl 32 (by decide) (hts _ tw_755) rfl 20 (fun _ _ => rfl) dX9_threshold_40 ?_
          refine lv_bipush (v := 6) hx hb dX9_threshold_43 (by decide) ?_
          refine lv_iload_n hx hb dX9_threshold_45 rfl (lv_at hl 1 rfl) ?_
          refine lv_imul hx hb dX9_threshold_46 ?_
          refine lv_iload_n hx hb dX9_threshold_47 rfl (lv_at hl 2 rfl) ?_
          refine lv_iadd hx hb dX9_threshold_48 ?_
          obtain ⟨v4, e4, hf⟩ := mw_b hf
          refine mm_iald hx hb hw 20 (by decide) 0 rfl e4 dX9_threshold_49 ?_
          refine lv_goto hx hb dX9_threshold_50 (tgt := 54) (by decide) ?_
          exact mm_iret hx hb hr hlocks hw hf dX9_threshold_54
abbrev rmX9_buffered : Room := { frames := 1, cells := 0, slots := 0, locals := 20 }
abbrev wsX9_buffered : List Cond := Cond.code yX9_buffered cX9_buffered 2 (some .int) :: lw_good
set_option maxHeartbeats 4000000 in
set_option maxRecDepth 100000 in
theorem cm_X9_buffered (l : Launch) (D : va_G) (G : Nat → ClassId) (N : Nat) (b : Nat) (S0 : mw_M) (S : mm_M) (x1 : Int32) (z : Int32 × mm_M) (hf : pf_X9_buffered G N S x1 = some z) : Met l yX9_buffered wsX9_buffered rmX9_buffered (va_Pc [.ref b, .int x1] (mm_B D vwCl (mw_tys G) mw_aos G b S0 S)) (mm_Qi D vwCl (mw_tys G) mw_aos G b S0 z) 0 0 (mm_A b S0) := by
  refine Met.ofW (cc := cX9_buffered) (maxL := 2) (ret := (some .int)) (by decide) rfl ?_
  intro p e s m args below meth c s₁ B hml hv
  obtain ⟨rfl, hB⟩ := hv
  have hw := mm_begin hB
  have hx := B.exec
  have hb := B.bytes
  have hr := B.returns
  have hts : ∀ w ∈ lw_good, w.before _ s = true := fun w h => atoms_spec (ws := wsX9_buffered) B.pre w (List.mem_cons_of_mem _ h)
  have hown : s.vm.findClass RX9 = some m.cls := findClass_of_methodNamed B.named
  have hlocks := B.notSynchronized
  have hC : mw_C p s m _ meth c cX9_buffered RX9 (some .int) lw_good 2 := ⟨hx, hb, hml, hown, hts, hr, hlocks⟩
  have hl := lv_entry ([.ref b, .int x1]) (n := 2) (Nat.le_of_ble_eq_true rfl)
  rw [lg_entry_eq]
  generalize (lg_sl ([.ref b, .int x1]) ++ List.replicate (2 - (lg_sl ([.ref b, .int x1])).length) Slot.unset).toArray = ls at hl ⊢
  have hl : lv_has ls 2 [(0, .ref b), (1, .int x1)] := hl
  unfold pf_X9_buffered at hf
  refine lv_aload_n hx hb dX9_buffered_0 rfl (lv_at hl 0 rfl) ?_
  refine lv_iconst (v := 0) hx hb dX9_buffered_1 (by decide) ?_
  obtain ⟨S1, e1, hf⟩ := mw_b hf
  refine mm_put hx hb hts inX9 tyX9 tyX9_ok nX9 hown hw rfl 4 (by decide) (hts _ tw_727) rfl rfl (by decide +kernel) (by decide) (mm_st4 _) e1 dX9_buffered_2 (fun H locs hw => ?_)
  refine lv_iload_n hx hb dX9_buffered_5 rfl (lv_at hl 1 rfl) ?_
  obtain ⟨v2, S2, e2, hf⟩ := mw_bb hf
  refine mm_calli (va_runS (As := [.int x1]) (rest := []) ⟨hx, hb, hml, hown, hts⟩ (cm_X9_isThread l D G N b S0 S1 x1 (v2, S2) e2) (cwS 1 hts (mw_gS tw_861 tw_862 tw_11 tw_863) rfl rfl rfl (by decide +kernel) ⟨Nat.le_of_ble_eq_true rfl, Nat.le_of_ble_eq_true rfl⟩) (mm_preS hw) rfl rfl hl.1 rfl (lv_room (Nat.le_of_ble_eq_true rfl)) dX9_buffered_6 ⟨(Nat.le_of_ble_eq_true rfl), (Nat.le_of_ble_eq_true rfl)⟩) hw (fun H locs hw => ?_)
  refine lv_if_eq hx hb dX9_buffered_9 (tgt := 21) (by decide) (fun hc => ?_) (fun hc => ?_)
  · rw [if_pos hc] at hf
    refine lv_iconst (v := (-1)) hx hb dX9_buffered_21 (by decide) ?_
    exact mm_iret hx hb hr hlocks hw hf dX9_buffered_22
  · rw [if_neg hc] at hf
    refine lv_aload_n hx hb dX9_buffered_12 rfl (lv_at hl 0 rfl) ?_
    refine mm_getr hx hb hts inX9 hown hw rfl 16 (by decide) (hts _ tw_739) rfl 8 (fun _ _ => rfl) dX9_buffered_13 ?_
    refine lv_iload_n hx hb dX9_buffered_16 rfl (lv_at hl 1 rfl) ?_
    obtain ⟨v3, e3, hf⟩ := mw_b hf
    refine mm_iald hx hb hw 8 (by decide) 0 rfl e3 dX9_buffered_17 ?_
    refine lv_goto hx hb dX9_buffered_18 (tgt := 22) (by decide) ?_
    exact mm_iret hx hb hr hlocks hw hf dX9_buffered_22
abbrev rmX9_count : Room := { frames := 0, cells := 0, slots := 0, locals := 0 }
abbrev wsX9_count : List Cond := Cond.code yX9_count cX9_count 2 (some .int) :: lw_good
set_option maxHeartbeats 4000000 in
set_option maxRecDepth 100000 in
theorem cm_X9_count (l : Launch) (D : va_G) (G : Nat → ClassId) (N : Nat) (b : Nat) (S0 : mw_M) (S : mm_M) (x1 : Int32) (z : Int32 × mm_M) (hf : pf_X9_count G N S x1 = some z) : Met l yX9_count wsX9_count rmX9_count (va_Pc [.ref b, .int x1] (mm_B D vwCl (mw_tys G) mw_aos G b S0 S)) (mm_Qi D vwCl (mw_tys G) mw_aos G b S0 z) 0 0 (mm_A b S0) := by
  refine Met.ofW (cc := cX9_count) (maxL := 2) (ret := (some .int)) (by decide) rfl ?_
  intro p e s m args below meth c s₁ B hml hv
  obtain ⟨rfl, hB⟩ := hv
  have hw := mm_begin hB
  have hx := B.exec
  have hb := B.bytes
  have hr := B.returns
  have hts : ∀ w ∈ lw_good, w.before _ s = true := fun w h => atoms_spec (ws := wsX9_count) B.pre w (List.mem_cons_of_mem _ h)
  have hown : s.vm.findClass RX9 = some m.cls := findClass_of_methodNamed B.named
  have hlocks := B.notSynchronized
  have hC : mw_C p s m _ meth c cX9_count RX9 (some .int) lw_good 2 := ⟨hx, hb, hml, hown, hts, hr, hlocks⟩
  have hl := lv_entry ([.ref b, .int x1]) (n := 2) (Nat.le_of_ble_eq_true rfl)
  rw [lg_entry_eq]
  generalize (lg_sl ([.ref b, .int x1]) ++ List.replicate (2 - (lg_sl ([.ref b, .int x1])).length) Slot.unset).toArray = ls at hl ⊢
  have hl : lv_has ls 2 [(0, .ref b), (1, .int x1)] := hl
  unfold pf_X9_count at hf
  refine lv_aload_n hx hb dX9_count_0 rfl (lv_at hl 0 rfl) ?_
  refine lv_iconst (v := 0) hx hb dX9_count_1 (by decide) ?_
  obtain ⟨S1, e1, hf⟩ := mw_b hf
  refine mm_put hx hb hts inX9 tyX9 tyX9_ok nX9 hown hw rfl 4 (by decide) (hts _ tw_727) rfl rfl (by decide +kernel) (by decide) (mm_st4 _) e1 dX9_count_2 (fun H locs hw => ?_)
  refine lv_iload_n hx hb dX9_count_5 rfl (lv_at hl 1 rfl) ?_
  refine lv_iconst (v := 3) hx hb dX9_count_6 (by decide) ?_
  refine lv_icmp_ge hx hb dX9_count_7 (tgt := 53) (by decide) (fun hc => ?_) (fun hc => ?_)
  · rw [if_pos hc] at hf
    refine lv_iload_n hx hb dX9_count_53 rfl (lv_at hl 1 rfl) ?_
    refine lv_iconst (v := 3) hx hb dX9_count_54 (by decide) ?_
    refine lv_icmp_ne hx hb dX9_count_55 (tgt := 65) (by decide) (fun hc => ?_) (fun hc => ?_)
    · rw [if_pos hc] at hf
      refine lv_iload_n hx hb dX9_count_65 rfl (lv_at hl 1 rfl) ?_
      refine lv_iconst (v := 4) hx hb dX9_count_66 (by decide) ?_
      refine lv_icmp_ne hx hb dX9_count_67 (tgt := 77) (by decide) (fun hc => ?_) (fun hc => ?_)
      · rw [if_pos hc] at hf
        refine lv_iload_n hx hb dX9_count_77 rfl (lv_at hl 1 rfl) ?_
        refine lv_iconst (v := 5) hx hb dX9_count_78 (by decide) ?_
        refine lv_icmp_ne hx hb dX9_count_79 (tgt := 89) (by decide) (fun hc => ?_) (fun hc => ?_)
        · rw [if_pos hc] at hf
          refine lv_iconst (v := (-1)) hx hb dX9_count_89 (by decide) ?_
          exact mm_iret hx hb hr hlocks hw hf dX9_count_90
        · rw [if_neg (fun q => q hc)] at hf
          refine lv_aload_n hx hb dX9_count_82 rfl (lv_at hl 0 rfl) ?_
          refine mm_geti hx hb hts inX9 hown hw rfl 10 (by decide) (hts _ tw_733) rfl (fun _ _ => rfl) dX9_count_83 ?_
          refine lv_goto hx hb dX9_count_86 (tgt := 90) (by decide) ?_
          exact mm_iret hx hb hr hlocks hw hf dX9_count_90
      · rw [if_neg (fun q => q hc)] at hf
        refine lv_aload_n hx hb dX9_count_70 rfl (lv_at hl 0 rfl) ?_
        refine mm_geti hx hb hts inX9 hown hw rfl 20 (by decide) (hts _ tw_743) rfl (fun _ _ => rfl) dX9_count_71 ?_
        refine lv_goto hx hb dX9_count_74 (tgt := 90) (by decide) ?_
        exact mm_iret hx hb hr hlocks hw hf dX9_count_90
    · rw [if_neg (fun q => q hc)] at hf
      refine lv_aload_n hx hb dX9_count_58 rfl (lv_at hl 0 rfl) ?_
      refine mm_geti hx hb hts inX9 hown hw rfl 19 (by decide) (hts _ tw_742) rfl (fun _ _ => rfl) dX9_count_59 ?_
      refine lv_goto hx hb dX9_count_62 (tgt := 90) (by decide) ?_
      exact mm_iret hx hb hr hlocks hw hf dX9_count_90
  · rw [if_neg hc] at hf
    refine lv_iload_n hx hb dX9_count_10 rfl (lv_at hl 1 rfl) ?_
    refine lv_if_ne hx hb dX9_count_11 (tgt := 21) (by decide) (fun hc => ?_) (fun hc => ?_)
    · rw [if_pos hc] at hf
      refine lv_iload_n hx hb dX9_count_21 rfl (lv_at hl 1 rfl) ?_
      refine lv_iconst (v := 1) hx hb dX9_count_22 (by decide) ?_
      refine lv_icmp_ne hx hb dX9_count_23 (tgt := 36) (by decide) (fun hc => ?_) (fun hc => ?_)
      · rw [if_pos hc] at hf
        refine lv_iload_n hx hb dX9_count_36 rfl (lv_at hl 1 rfl) ?_
        refine lv_iconst (v := 2) hx hb dX9_count_37 (by decide) ?_
        refine lv_icmp_ne hx hb dX9_count_38 (tgt := 51) (by decide) (fun hc => ?_) (fun hc => ?_)
        · rw [if_pos hc] at hf
          refine lv_iconst (v := (-1)) hx hb dX9_count_51 (by decide) ?_
          exact mm_iret hx hb hr hlocks hw hf dX9_count_52
        · rw [if_neg (fun q => q hc)] at hf
          refine lv_aload_n hx hb dX9_count_41 rfl (lv_at hl 0 rfl) ?_
          refine mm_getr hx hb hts inX9 hown hw rfl 22 (by decide) (hts _ tw_745) rfl 11 (fun _ _ => rfl) dX9_count_42 ?_
          refine lv_bipush (v := 6) hx hb dX9_count_45 (by decide) ?_
          obtain ⟨v2, e2, hf⟩ := mw_b hf
          refine mm_iald hx hb hw 11 (by decide) 0 rfl e2 dX9_count_47 ?_
          refine lv_goto hx hb dX9_count_48 (tgt := 52) (by decide) ?_
          exact mm_iret hx hb hr hlocks hw hf dX9_count_52
      · rw [if_neg (fun q => q hc)] at hf
        refine lv_aload_n hx hb dX9_count_26 rfl (lv_at hl 0 rfl) ?_
        refine mm_getr hx hb hts inX9 hown hw rfl 23 (by decide) (hts _ tw_746) rfl 12 (fun _ _ => rfl) dX9_count_27 ?_
        refine lv_bipush (v := 6) hx hb dX9_count_30 (by decide) ?_
        obtain ⟨v3, e3, hf⟩ := mw_b hf
        refine mm_iald hx hb hw 12 (by decide) 0 rfl e3 dX9_count_32 ?_
        refine lv_goto hx hb dX9_count_33 (tgt := 52) (by decide) ?_
        exact mm_iret hx hb hr hlocks hw hf dX9_count_52
    · rw [if_neg (fun q => q hc)] at hf
      refine lv_aload_n hx hb dX9_count_14 rfl (lv_at hl 0 rfl) ?_
      refine mm_geti hx hb hts inX9 hown hw rfl 18 (by decide) (hts _ tw_741) rfl (fun _ _ => rfl) dX9_count_15 ?_
      refine lv_goto hx hb dX9_count_18 (tgt := 52) (by decide) ?_
      exact mm_iret hx hb hr hlocks hw hf dX9_count_52
abbrev rmX9_lost : Room := { frames := 1, cells := 0, slots := 0, locals := 20 }
abbrev wsX9_lost : List Cond := Cond.code yX9_lost cX9_lost 2 (some .int) :: lw_good
set_option maxHeartbeats 4000000 in
set_option maxRecDepth 100000 in
theorem cm_X9_lost (l : Launch) (D : va_G) (G : Nat → ClassId) (N : Nat) (b : Nat) (S0 : mw_M) (S : mm_M) (x1 : Int32) (z : Int32 × mm_M) (hf : pf_X9_lost G N S x1 = some z) : Met l yX9_lost wsX9_lost rmX9_lost (va_Pc [.ref b, .int x1] (mm_B D vwCl (mw_tys G) mw_aos G b S0 S)) (mm_Qi D vwCl (mw_tys G) mw_aos G b S0 z) 0 0 (mm_A b S0) := by
  refine Met.ofW (cc := cX9_lost) (maxL := 2) (ret := (some .int)) (by decide) rfl ?_
  intro p e s m args below meth c s₁ B hml hv
  obtain ⟨rfl, hB⟩ := hv
  have hw := mm_begin hB
  have hx := B.exec
  have hb := B.bytes
  have hr := B.returns
  have hts : ∀ w ∈ lw_good, w.before _ s = true := fun w h => atoms_spec (ws := wsX9_lost) B.pre w (List.mem_cons_of_mem _ h)
  have hown : s.vm.findClass RX9 = some m.cls := findClass_of_methodNamed B.named
  have hlocks := B.notSynchronized
  have hC : mw_C p s m _ meth c cX9_lost RX9 (some .int) lw_good 2 := ⟨hx, hb, hml, hown, hts, hr, hlocks⟩
  have hl := lv_entry ([.ref b, .int x1]) (n := 2) (Nat.le_of_ble_eq_true rfl)
  rw [lg_entry_eq]
  generalize (lg_sl ([.ref b, .int x1]) ++ List.replicate (2 - (lg_sl ([.ref b, .int x1])).length) Slot.unset).toArray = ls at hl ⊢
  have hl : lv_has ls 2 [(0, .ref b), (1, .int x1)] := hl
  unfold pf_X9_lost at hf
  refine lv_aload_n hx hb dX9_lost_0 rfl (lv_at hl 0 rfl) ?_
  refine lv_iconst (v := 0) hx hb dX9_lost_1 (by decide) ?_
  obtain ⟨S1, e1, hf⟩ := mw_b hf
  refine mm_put hx hb hts inX9 tyX9 tyX9_ok nX9 hown hw rfl 4 (by decide) (hts _ tw_727) rfl rfl (by decide +kernel) (by decide) (mm_st4 _) e1 dX9_lost_2 (fun H locs hw => ?_)
  refine lv_iload_n hx hb dX9_lost_5 rfl (lv_at hl 1 rfl) ?_
  obtain ⟨v2, S2, e2, hf⟩ := mw_bb hf
  refine mm_calli (va_runS (As := [.int x1]) (rest := []) ⟨hx, hb, hml, hown, hts⟩ (cm_X9_isThread l D G N b S0 S1 x1 (v2, S2) e2) (cwS 1 hts (mw_gS tw_861 tw_862 tw_11 tw_863) rfl rfl rfl (by decide +kernel) ⟨Nat.le_of_ble_eq_true rfl, Nat.le_of_ble_eq_true rfl⟩) (mm_preS hw) rfl rfl hl.1 rfl (lv_room (Nat.le_of_ble_eq_true rfl)) dX9_lost_6 ⟨(Nat.le_of_ble_eq_true rfl), (Nat.le_of_ble_eq_true rfl)⟩) hw (fun H locs hw => ?_)
  refine lv_if_eq hx hb dX9_lost_9 (tgt := 21) (by decide) (fun hc => ?_) (fun hc => ?_)
  · rw [if_pos hc] at hf
    refine lv_iconst (v := (-1)) hx hb dX9_lost_21 (by decide) ?_
    exact mm_iret hx hb hr hlocks hw hf dX9_lost_22
  · rw [if_neg hc] at hf
    refine lv_aload_n hx hb dX9_lost_12 rfl (lv_at hl 0 rfl) ?_
    refine mm_getr hx hb hts inX9 hown hw rfl 28 (by decide) (hts _ tw_751) rfl 17 (fun _ _ => rfl) dX9_lost_13 ?_
    refine lv_iload_n hx hb dX9_lost_16 rfl (lv_at hl 1 rfl) ?_
    obtain ⟨v3, e3, hf⟩ := mw_b hf
    refine mm_iald hx hb hw 17 (by decide) 0 rfl e3 dX9_lost_17 ?_
    refine lv_goto hx hb dX9_lost_18 (tgt := 22) (by decide) ?_
    exact mm_iret hx hb hr hlocks hw hf dX9_lost_22
