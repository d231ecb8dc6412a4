abbrev rmX0_variableLength : Room := { frames := 0, cells := 0, slots := 0, locals := 0 }
abbrev wsX0_variableLength : List Cond := Cond.code yX0_variableLength cX0_variableLength 3 (some .int) :: lw_good
set_option maxHeartbeats 4000000 in
set_option maxRecDepth 100000 in
theorem bX0_variableLength_5 {p : Program} {l : Launch} {e : Env} {s : State} {m : MethodId} {args : Array Value} {below : List Frame} {meth : Method} {c : Code} (hC : mw_C p s m args meth c cX0_variableLength RX0 (some .int) lw_good 3) (D : va_G) (G : Nat → ClassId) (N : Nat) {A : Nat → Prop} {z : Int32 × mw_M} : ∀ (n : Nat) (y0 : Int32) (y1 : Int32) (y2 : Int32) (S : mw_M) (H : Heap) (locs : List Loc) (ls : Array Slot), pf_X0_variableLength_5 G N n y0 y1 y2 S = some z → lv_has ls 3 [(0, .int y0), (1, .int y1), (2, .int y2)] → mw_W D vwCl (mw_tys G) mw_aos A s S H locs → W p l e (headSpec wsX0_variableLength rmX0_variableLength).room s m args below meth c H locs 0 0 (MQ below (mw_Qi D vwCl (mw_tys G) mw_aos A z) args s 0 0 A) (F0 m 5 ls []) := by
  obtain ⟨hx, hb, hml, hown, hts, hr, hlocks⟩ := hC
  intro n
  induction n with
  | zero => intro y0 y1 y2 S H locs ls hf; rw [pf_X0_variableLength_5] at hf; cases hf
  | succ n ih =>
    intro y0 y1 y2 S H locs ls hf hl hw
    rw [pf_X0_variableLength_5] at hf
    refine lv_iload_n hx hb dX0_variableLength_5 rfl (lv_at hl 2 rfl) ?_
    refine lv_bipush (v := 32) hx hb dX0_variableLength_6 (by decide) ?_
    refine lv_icmp_ge hx hb dX0_variableLength_8 (tgt := 26) (by decide) (fun hc => ?_) (fun hc => ?_)
    · rw [if_pos hc] at hf
      refine lv_iload_n hx hb dX0_variableLength_26 rfl (lv_at hl 1 rfl) ?_
      exact mw_iret hx hb hr hlocks hw hf dX0_variableLength_27
    · rw [if_neg hc] at hf
      refine lv_iload_n hx hb dX0_variableLength_11 rfl (lv_at hl 0 rfl) ?_
      refine lv_iload_n hx hb dX0_variableLength_12 rfl (lv_at hl 2 rfl) ?_
      refine lv_iushr (v := (mw_ushr y0 y2)) hx hb dX0_variableLength_13 rfl ?_
      refine lv_if_eq hx hb dX0_variableLength_14 (tgt := 20) (by decide) (fun hc => ?_) (fun hc => ?_)
      · rw [if_pos hc] at hf
        refine lv_iinc (k := 2) (v := (y2 + 7)) hx hb dX0_variableLength_20 hl rfl (congrArg (fun q => y2 + q) (show Int32.ofInt 7 = 7 by decide)) (by decide) rfl (fun ls hl => ?_)
        have hl : lv_has ls 3 [(2, .int (y2 + 7)), (0, .int y0), (1, .int y1)] := hl
        refine lv_goto hx hb dX0_variableLength_23 (tgt := 5) (by decide) ?_
        exact ih _ _ _ _ _ _ _ hf (lv_sub hl [1, 2, 0] rfl) hw
      · rw [if_neg hc] at hf
        refine lv_iinc (k := 1) (v := (y1 + 1)) hx hb dX0_variableLength_17 hl rfl (congrArg (fun q => y1 + q) (show Int32.ofInt 1 = 1 by decide)) (by decide) rfl (fun ls hl => ?_)
        have hl : lv_has ls 3 [(1, .int (y1 + 1)), (0, .int y0), (2, .int y2)] := hl
        refine lv_iinc (k := 2) (v := (y2 + 7)) hx hb dX0_variableLength_20 hl rfl (congrArg (fun q => y2 + q) (show Int32.ofInt 7 = 7 by decide)) (by decide) rfl (fun ls hl => ?_)
        have hl : lv_has ls 3 [(2, .int (y2 + 7)), (1, .int (y1 + 1)), (0, .int y0)] := hl
        refine lv_goto hx hb dX0_variableLength_23 (tgt := 5) (by decide) ?_
        exact ih _ _ _ _ _ _ _ hf (lv_sub hl [2, 1, 0] rfl) hw
set_option maxHeartbeats 4000000 in
set_option maxRecDepth 100000 in
theorem cm_X0_variableLength (l : Launch) (D : va_G) (G : Nat → ClassId) (N : Nat) (S : mw_M) (x0 : Int32) (z : Int32 × mw_M) (hf : pf_X0_variableLength G N S x0 = some z) : Met l yX0_variableLength wsX0_variableLength rmX0_variableLength (va_Pc [.int x0] (mw_B D vwCl (mw_tys G) mw_aos S)) (mw_Qi D vwCl (mw_tys G) mw_aos (mw_A S) z) 0 0 (mw_A S) := by
  refine Met.ofW (cc := cX0_variableLength) (maxL := 3) (ret := (some .int)) (by decide) rfl ?_
  intro p e s m args below meth c s₁ B hml hv
  obtain ⟨rfl, hB⟩ := hv
  have hw := mw_begin hB
  have hx := B.exec
  have hb := B.bytes
  have hr := B.returns
  have hts : ∀ w ∈ lw_good, w.before _ s = true := fun w h => atoms_spec (ws := wsX0_variableLength) B.pre w (List.mem_cons_of_mem _ h)
  have hown : s.vm.findClass RX0 = some m.cls := findClass_of_methodNamed B.named
  have hlocks := B.notSynchronized
  have hC : mw_C p s m _ meth c cX0_variableLength RX0 (some .int) lw_good 3 := ⟨hx, hb, hml, hown, hts, hr, hlocks⟩
  have hl := lv_entry ([.int x0]) (n := 3) (Nat.le_of_ble_eq_true rfl)
  rw [lg_entry_eq]
  generalize (lg_sl ([.int x0]) ++ List.replicate (3 - (lg_sl ([.int x0])).length) Slot.unset).toArray = ls at hl ⊢
  have hl : lv_has ls 3 [(0, .int x0)] := hl
  unfold pf_X0_variableLength at hf
  refine lv_iconst (v := 1) hx hb dX0_variableLength_0 (by decide) ?_
  refine lv_istore_n hx hb dX0_variableLength_1 rfl hl (by decide) rfl (fun ls hl => ?_)
  have hl : lv_has ls 3 [(1, .int 1), (0, .int x0)] := hl
  refine lv_bipush (v := 7) hx hb dX0_variableLength_2 (by decide) ?_
  refine lv_istore_n hx hb dX0_variableLength_4 rfl hl (by decide) rfl (fun ls hl => ?_)
  have hl : lv_has ls 3 [(2, .int 7), (1, .int 1), (0, .int x0)] := hl
  exact bX0_variableLength_5 ⟨hx, hb, hml, hown, hts, hr, hlocks⟩ D G N N _ _ _ _ _ _ _ hf (lv_sub hl [2, 1, 0] rfl) hw
abbrev rmX0_add : Room := { frames := 0, cells := 0, slots := 0, locals := 0 }
abbrev wsX0_add : List Cond := Cond.code yX0_add cX0_add 2 none :: lw_good
set_option maxHeartbeats 4000000 in
set_option maxRecDepth 100000 in
theorem cm_X0_add (l : Launch) (D : va_G) (G : Nat → ClassId) (N : Nat) (S : mw_M) (h0 : Nat) (x1 : Int32) (z : mw_M) (hf : pf_X0_add G N S h0 x1 = some z) : Met l yX0_add wsX0_add rmX0_add (va_Pc [.ref h0, .int x1] (mw_B D vwCl (mw_tys G) mw_aos S)) (mw_Qv D vwCl (mw_tys G) mw_aos (mw_A S) z) 0 0 (mw_A S) := by
  refine Met.ofW (cc := cX0_add) (maxL := 2) (ret := none) (by decide) rfl ?_
  intro p e s m args below meth c s₁ B hml hv
  obtain ⟨rfl, hB⟩ := hv
  have hw := mw_begin hB
  have hx := B.exec
  have hb := B.bytes
  have hr := B.returns
  have hts : ∀ w ∈ lw_good, w.before _ s = true := fun w h => atoms_spec (ws := wsX0_add) B.pre w (List.mem_cons_of_mem _ h)
  have hown : s.vm.findClass RX0 = some m.cls := findClass_of_methodNamed B.named
  have hlocks := B.notSynchronized
  have hC : mw_C p s m _ meth c cX0_add RX0 none lw_good 2 := ⟨hx, hb, hml, hown, hts, hr, hlocks⟩
  have hl := lv_entry ([.ref h0, .int x1]) (n := 2) (Nat.le_of_ble_eq_true rfl)
  rw [lg_entry_eq]
  generalize (lg_sl ([.ref h0, .int x1]) ++ List.replicate (2 - (lg_sl ([.ref h0, .int x1])).length) Slot.unset).toArray = ls at hl ⊢
  have hl : lv_has ls 2 [(0, .ref h0), (1, .int x1)] := hl
  unfold pf_X0_add at hf
  refine lv_aload_n hx hb dX0_add_0 rfl (lv_at hl 0 rfl) ?_
  obtain ⟨v1, e1, hf⟩ := mw_b hf
  refine mw_geti hx hb hts inX0 hown hw (ci := 0) rfl 1 (by decide) (hts _ tw_76) rfl e1 dX0_add_1 ?_
  refine lv_aload_n hx hb dX0_add_4 rfl (lv_at hl 0 rfl) ?_
  obtain ⟨v2, e2, hf⟩ := mw_b hf
  refine mw_getr hx hb hts inX0 hown hw (ci := 0) rfl 0 (by decide) (hts _ tw_75) rfl e2 dX0_add_5 ?_
  obtain ⟨v3, e3, hf⟩ := mw_b hf
  refine mw_alen hx hb hw 1 rfl e3 dX0_add_8 ?_
  refine lv_icmp_ge hx hb dX0_add_9 (tgt := 33) (by decide) (fun hc => ?_) (fun hc => ?_)
  · rw [if_pos hc] at hf
    exact mw_vret hx hb hr hlocks hw hf dX0_add_33
  · rw [if_neg hc] at hf
    refine lv_aload_n hx hb dX0_add_12 rfl (lv_at hl 0 rfl) ?_
    obtain ⟨v4, e4, hf⟩ := mw_b hf
    refine mw_getr hx hb hts inX0 hown hw (ci := 0) rfl 0 (by decide) (hts _ tw_75) rfl e4 dX0_add_13 ?_
    refine lv_aload_n hx hb dX0_add_16 rfl (lv_at hl 0 rfl) ?_
    obtain ⟨v5, e5, hf⟩ := mw_b hf
    refine mw_geti hx hb hts inX0 hown hw (ci := 0) rfl 1 (by decide) (hts _ tw_76) rfl e5 dX0_add_17 ?_
    refine lv_iload_n hx hb dX0_add_20 rfl (lv_at hl 1 rfl) ?_
    refine lv_i2b (v := (mw_i2b x1)) hx hb dX0_add_21 rfl ?_
    obtain ⟨S6, e6, hf⟩ := mw_b hf
    refine mw_bast hx hb hw 1 rfl e6 dX0_add_22 (fun H locs hw => ?_)
    refine lv_aload_n hx hb dX0_add_23 rfl (lv_at hl 0 rfl) ?_
    refine lv_dup hx hb dX0_add_24 rfl ?_
    obtain ⟨v7, e7, hf⟩ := mw_b hf
    refine mw_geti hx hb hts inX0 hown hw (ci := 0) rfl 1 (by decide) (hts _ tw_76) rfl e7 dX0_add_25 ?_
    refine lv_iconst (v := 1) hx hb dX0_add_28 (by decide) ?_
    refine lv_iadd hx hb dX0_add_29 ?_
    obtain ⟨S8, e8, hf⟩ := mw_b hf
    refine mw_put hx hb hts inX0 tyX0 tyX0_ok nX0 hown hw (ci := 0) rfl 1 (by decide) (hts _ tw_76) rfl rfl (ty := .int) (by decide +kernel) rfl rfl e8 dX0_add_30 (fun H locs hw => ?_)
    exact mw_vret hx hb hr hlocks hw hf dX0_add_33
abbrev rmX0_addVariable : Room := { frames := 1, cells := 0, slots := 0, locals := 22 }
abbrev wsX0_addVariable : List Cond := Cond.code yX0_addVariable cX0_addVariable 4 none :: lw_good
set_option maxHeartbeats 4000000 in
set_option maxRecDepth 100000 in
theorem bX0_addVariable_7 {p : Program} {l : Launch} {e : Env} {s : State} {m : MethodId} {args : Array Value} {below : List Frame} {meth : Method} {c : Code} (hC : mw_C p s m args meth c cX0_addVariable RX0 none lw_good 4) (D : va_G) (G : Nat → ClassId) (N : Nat) {A : Nat → Prop} {z : mw_M} : ∀ (n : Nat) (y0 : Nat) (y2 : Int32) (y3 : Int32) (S : mw_M) (H : Heap) (locs : List Loc) (ls : Array Slot), pf_X0_addVariable_7 G N n y0 y2 y3 S = some z → lv_has ls 4 [(0, .ref y0), (2, .int y2), (3, .int y3)] → mw_W D vwCl (mw_tys G) mw_aos A s S H locs → W p l e (headSpec wsX0_addVariable rmX0_addVariable).room s m args below meth c H locs 0 0 (MQ below (mw_Qv D vwCl (mw_tys G) mw_aos A z) args s 0 0 A) (F0 m 7 ls []) := by
  obtain ⟨hx, hb, hml, hown, hts, hr, hlocks⟩ := hC
  intro n
  induction n with
  | zero => intro y0 y2 y3 S H locs ls hf; rw [pf_X0_addVariable_7] at hf; cases hf
  | succ n ih =>
    intro y0 y2 y3 S H locs ls hf hl hw
    rw [pf_X0_addVariable_7] at hf
    refine lv_iload_n hx hb dX0_addVariable_7 rfl (lv_at hl 2 rfl) ?_
    refine lv_iconst (v := 1) hx hb dX0_addVariable_8 (by decide) ?_
    refine lv_icmp_le hx hb dX0_addVariable_9 (tgt := 35) (by decide) (fun hc => ?_) (fun hc => ?_)
    · rw [if_pos hc] at hf
      refine lv_aload_n hx hb dX0_addVariable_35 rfl (lv_at hl 0 rfl) ?_
      refine lv_iload_n hx hb dX0_addVariable_36 rfl (lv_at hl 1 rfl) ?_
      obtain ⟨S1, e1, hf⟩ := mw_b hf
      obtain ⟨ho, e1⟩ := mw_v_s e1
      refine mw_callv (va_runV (As := [.int y2]) (rest := []) ⟨hx, hb, hml, hown, hts⟩ (cm_X0_add l D G N S y0 y2 S1 e1) (cwV 1 hts (mw_gV tw_328 tw_329 tw_330 tw_6 tw_331) rfl rfl rfl (by decide +kernel) ⟨Nat.le_of_ble_eq_true rfl, Nat.le_of_ble_eq_true rfl⟩) (mw_preV hw (ci := 0) rfl ho) rfl rfl hl.1 rfl (lv_room (Nat.le_of_ble_eq_true rfl)) dX0_addVariable_37 ⟨(Nat.le_of_ble_eq_true rfl), (Nat.le_of_ble_eq_true rfl)⟩) hw (fun H locs hw => ?_)
      exact mw_vret hx hb hr hlocks hw hf dX0_addVariable_40
    · rw [if_neg hc] at hf
      refine lv_aload_n hx hb dX0_addVariable_12 rfl (lv_at hl 0 rfl) ?_
      refine lv_iload_n hx hb dX0_addVariable_13 rfl (lv_at hl 1 rfl) ?_
      refine lv_bipush (v := 127) hx hb dX0_addVariable_14 (by decide) ?_
      refine lv_iand hx hb dX0_addVariable_16 ?_
      refine lv_sipush (v := 128) hx hb dX0_addVariable_17 (by decide) ?_
      refine lv_iadd hx hb dX0_addVariable_20 ?_
      obtain ⟨S2, e2, hf⟩ := mw_b hf
      obtain ⟨ho, e2⟩ := mw_v_s e2
      refine mw_callv (va_runV (As := [.int ((y2 &&& 127) + 128)]) (rest := []) ⟨hx, hb, hml, hown, hts⟩ (cm_X0_add l D G N S y0 ((y2 &&& 127) + 128) S2 e2) (cwV 1 hts (mw_gV tw_328 tw_329 tw_330 tw_6 tw_331) rfl rfl rfl (by decide +kernel) ⟨Nat.le_of_ble_eq_true rfl, Nat.le_of_ble_eq_true rfl⟩) (mw_preV hw (ci := 0) rfl ho) rfl rfl hl.1 rfl (lv_room (Nat.le_of_ble_eq_true rfl)) dX0_addVariable_21 ⟨(Nat.le_of_ble_eq_true rfl), (Nat.le_of_ble_eq_true rfl)⟩) hw (fun H locs hw => ?_)
      refine lv_iload_n hx hb dX0_addVariable_24 rfl (lv_at hl 1 rfl) ?_
      refine lv_bipush (v := 7) hx hb dX0_addVariable_25 (by decide) ?_
      refine lv_iushr (v := (mw_ushr y2 7)) hx hb dX0_addVariable_27 rfl ?_
      refine lv_istore_n hx hb dX0_addVariable_28 rfl hl (by decide) rfl (fun ls hl => ?_)
      have hl : lv_has ls 4 [(2, .int (mw_ushr y2 7)), (0, .ref y0), (3, .int y3)] := hl
      refine lv_iinc (k := 2) (v := (y3 + (-1))) hx hb dX0_addVariable_29 hl rfl (congrArg (fun q => y3 + q) (show Int32.ofInt (-1) = (-1) by decide)) (by decide) rfl (fun ls hl => ?_)
      have hl : lv_has ls 4 [(3, .int (y3 + (-1))), (2, .int (mw_ushr y2 7)), (0, .ref y0)] := hl
      refine lv_goto hx hb dX0_addVariable_32 (tgt := 7) (by decide) ?_
      exact ih _ _ _ _ _ _ _ hf (lv_sub hl [2, 1, 0] rfl) hw
set_option maxHeartbeats 4000000 in
set_option maxRecDepth 100000 in
theorem cm_X0_addVariable (l : Launch) (D : va_G) (G : Nat → ClassId) (N : Nat) (S : mw_M) (h0 : Nat) (x1 : Int32) (z : mw_M) (hf : pf_X0_addVariable G N S h0 x1 = some z) : Met l yX0_addVariable wsX0_addVariable rmX0_addVariable (va_Pc [.ref h0, .int x1] (mw_B D vwCl (mw_tys G) mw_aos S)) (mw_Qv D vwCl (mw_tys G) mw_aos (mw_A S) z) 0 0 (mw_A S) := by
  refine Met.ofW (cc := cX0_addVariable) (maxL := 4) (ret := none) (by decide) rfl ?_
  intro p e s m args below meth c s₁ B hml hv
  obtain ⟨rfl, hB⟩ := hv
  have hw := mw_begin hB
  have hx := B.exec
  have hb := B.bytes
  have hr := B.returns
  have hts : ∀ w ∈ lw_good, w.before _ s = true := fun w h => atoms_spec (ws := wsX0_addVariable) B.pre w (List.mem_cons_of_mem _ h)
  have hown : s.vm.findClass RX0 = some m.cls := findClass_of_methodNamed B.named
  have hlocks := B.notSynchronized
  have hC : mw_C p s m _ meth c cX0_addVariable RX0 none lw_good 4 := ⟨hx, hb, hml, hown, hts, hr, hlocks⟩
  have hl := lv_entry ([.ref h0, .int x1]) (n := 4) (Nat.le_of_ble_eq_true rfl)
  rw [lg_entry_eq]
  generalize (lg_sl ([.ref h0, .int x1]) ++ List.replicate (4 - (lg_sl ([.ref h0, .int x1])).length) Slot.unset).toArray = ls at hl ⊢
  have hl : lv_has ls 4 [(0, .ref h0), (1, .int x1)] := hl
  unfold pf_X0_addVariable at hf
  refine lv_iload_n hx hb dX0_addVariable_0 rfl (lv_at hl 1 rfl) ?_
  refine lv_istore_n hx hb dX0_addVariable_1 rfl hl (by decide) rfl (fun ls hl => ?_)
  have hl : lv_has ls 4 [(2, .int x1), (0, .ref h0), (1, .int x1)] := hl
  refine lv_iload_n hx hb dX0_addVariable_2 rfl (lv_at hl 2 rfl) ?_
  obtain ⟨v1, S1, e1, hf⟩ := mw_bb hf
  refine mw_calli (va_runS (As := [.int x1]) (rest := []) ⟨hx, hb, hml, hown, hts⟩ (cm_X0_variableLength l D G N S x1 (v1, S1) e1) (cwS 1 hts (mw_gS tw_325 tw_326 tw_6 tw_327) rfl rfl rfl (by decide +kernel) ⟨Nat.le_of_ble_eq_true rfl, Nat.le_of_ble_eq_true rfl⟩) (mw_preS hw) rfl rfl hl.1 rfl (lv_room (Nat.le_of_ble_eq_true rfl)) dX0_addVariable_3 ⟨(Nat.le_of_ble_eq_true rfl), (Nat.le_of_ble_eq_true rfl)⟩) hw (fun H locs hw => ?_)
  refine lv_istore_n hx hb dX0_addVariable_6 rfl hl (by decide) rfl (fun ls hl => ?_)
  have hl : lv_has ls 4 [(3, .int v1), (2, .int x1), (0, .ref h0), (1, .int x1)] := hl
  exact bX0_addVariable_7 ⟨hx, hb, hml, hown, hts, hr, hlocks⟩ D G N N _ _ _ _ _ _ _ hf (lv_sub hl [2, 1, 0] rfl) hw
abbrev rmX8_zigzag : Room := { frames := 0, cells := 0, slots := 0, locals := 0 }
abbrev wsX8_zigzag : List Cond := Cond.code yX8_zigzag cX8_zigzag 1 (some .int) :: lw_good
set_option maxHeartbeats 4000000 in
set_option maxRecDepth 100000 in
theorem cm_X8_zigzag (l : Launch) (D : va_G) (G : Nat → ClassId) (N : Nat) (S : mw_M) (x0 : Int32) (z : Int32 × mw_M) (hf : pf_X8_zigzag G N S x0 = some z) : Met l yX8_zigzag wsX8_zigzag rmX8_zigzag (va_Pc [.int x0] (mw_B D vwCl (mw_tys G) mw_aos S)) (mw_Qi D vwCl (mw_tys G) mw_aos (mw_A S) z) 0 0 (mw_A S) := by
  refine Met.ofW (cc := cX8_zigzag) (maxL := 1) (ret := (some .int)) (by decide) rfl ?_
  intro p e s m args below meth c s₁ B hml hv
  obtain ⟨rfl, hB⟩ := hv
  have hw := mw_begin hB
  have hx := B.exec
  have hb := B.bytes
  have hr := B.returns
  have hts : ∀ w ∈ lw_good, w.before _ s = true := fun w h => atoms_spec (ws := wsX8_zigzag) B.pre w (List.mem_cons_of_mem _ h)
  have hown : s.vm.findClass RX8 = some m.cls := findClass_of_methodNamed B.named
  have hlocks := B.notSynchronized
  have hC : mw_C p s m _ meth c cX8_zigzag RX8 (some .int) lw_good 1 := ⟨hx, hb, hml, hown, hts, hr, hlocks⟩
  have hl := lv_entry ([.int x0]) (n := 1) (Nat.le_of_ble_eq_true rfl)
  rw [lg_entry_eq]
  generalize (lg_sl ([.int x0]) ++ List.replicate (1 - (lg_sl ([.int x0])).length) Slot.unset).toArray = ls at hl ⊢
  have hl : lv_has ls 1 [(0, .int x0)] := hl
  unfold pf_X8_zigzag at hf
  refine lv_iload_n hx hb dX8_zigzag_0 rfl (lv_at hl 0 rfl) ?_
  refine lv_if_lt hx hb dX8_zigzag_1 (tgt := 10) (by decide) (fun hc => ?_) (fun hc => ?_)
  · rw [if_pos hc] at hf
    refine lv_bipush (v := (-2)) hx hb dX8_zigzag_10 (by decide) ?_
    refine lv_iload_n hx hb dX8_zigzag_12 rfl (lv_at hl 0 rfl) ?_
    refine lv_imul hx hb dX8_zigzag_13 ?_
    refine lv_iconst (v := 1) hx hb dX8_zigzag_14 (by decide) ?_
    refine lv_isub hx hb dX8_zigzag_15 ?_
    exact mw_iret hx hb hr hlocks hw hf dX8_zigzag_16
  · rw [if_neg hc] at hf
    refine lv_iconst (v := 2) hx hb dX8_zigzag_4 (by decide) ?_
    refine lv_iload_n hx hb dX8_zigzag_5 rfl (lv_at hl 0 rfl) ?_
    refine lv_imul hx hb dX8_zigzag_6 ?_
    refine lv_goto hx hb dX8_zigzag_7 (tgt := 16) (by decide) ?_
    exact mw_iret hx hb hr hlocks hw hf dX8_zigzag_16
abbrev rmX8_compose : Room := { frames := 2, cells := 0, slots := 0, locals := 45 }
abbrev wsX8_compose : List Cond := Cond.code yX8_compose cX8_compose 7 none :: lw_good
set_option maxHeartbeats 4000000 in
set_option maxRecDepth 100000 in
theorem bX8_compose_101 {p : Program} {l : Launch} {e : Env} {s : State} {m : MethodId} {args : Array Value} {below : List Frame} {meth : Method} {c : Code} (hC : mw_C p s m args meth c cX8_compose RX8 none lw_good 7) (D : va_G) (G : Nat → ClassId) (N : Nat) {A : Nat → Prop} {z : mw_M} : ∀ (y0 : Nat) (y3 : Int32) (S : mw_M) (H : Heap) (locs : List Loc) (ls : Array Slot), pf_X8_compose_101 G N y0 y3 S = some z → lv_has ls 7 [(0, .ref y0), (3, .int y3)] → mw_W D vwCl (mw_tys G) mw_aos A s S H locs → W p l e (headSpec wsX8_compose rmX8_compose).room s m args below meth c H locs 0 0 (MQ below (mw_Qv D vwCl (mw_tys G) mw_aos A z) args s 0 0 A) (F0 m 101 ls []) := by
  obtain ⟨hx, hb, hml, hown, hts, hr, hlocks⟩ := hC
  intro y0 y3 S H locs ls hf hl hw
  unfold pf_X8_compose_101 at hf
  refine lv_iload_n hx hb dX8_compose_101 rfl (lv_at hl 1 rfl) ?_
  refine lv_iconst (v := (-1)) hx hb dX8_compose_102 (by decide) ?_
  refine lv_icmp_eq hx hb dX8_compose_103 (tgt := 114) (by decide) (fun hc => ?_) (fun hc => ?_)
  · rw [if_pos hc] at hf
    exact mw_vret hx hb hr hlocks hw hf dX8_compose_114
  · rw [if_neg hc] at hf
    refine lv_aload_n hx hb dX8_compose_106 rfl (lv_at hl 0 rfl) ?_
    obtain ⟨v1, e1, hf⟩ := mw_b hf
    refine mw_getr hx hb hts inX8 hown hw (ci := 8) rfl 11 (by decide) (hts _ tw_205) rfl e1 dX8_compose_107 ?_
    refine lv_iload_n hx hb dX8_compose_110 rfl (lv_at hl 1 rfl) ?_
    obtain ⟨S2, e2, hf⟩ := mw_b hf
    obtain ⟨ho, e2⟩ := mw_v_s e2
    refine mw_callv (va_runV (As := [.int y3]) (rest := []) ⟨hx, hb, hml, hown, hts⟩ (cm_X0_addVariable l D G N S v1 y3 S2 e2) (cwV 1 hts (mw_gV tw_321 tw_322 tw_323 tw_6 tw_324) rfl rfl rfl (by decide +kernel) ⟨Nat.le_of_ble_eq_true rfl, Nat.le_of_ble_eq_true rfl⟩) (mw_preV hw (ci := 0) rfl ho) rfl rfl hl.1 rfl (lv_room (Nat.le_of_ble_eq_true rfl)) dX8_compose_111 ⟨(Nat.le_of_ble_eq_true rfl), (Nat.le_of_ble_eq_true rfl)⟩) hw (fun H locs hw => ?_)
    exact mw_vret hx hb hr hlocks hw hf dX8_compose_114
set_option maxHeartbeats 4000000 in
set_option maxRecDepth 100000 in
theorem bX8_compose_79 {p : Program} {l : Launch} {e : Env} {s : State} {m : MethodId} {args : Array Value} {below : List Frame} {meth : Method} {c : Code} (hC : mw_C p s m args meth c cX8_compose RX8 none lw_good 7) (D : va_G) (G : Nat → ClassId) (N : Nat) {A : Nat → Prop} {z : mw_M} : ∀ (y0 : Nat) (y1 : Int32) (y3 : Int32) (y6 : Int32) (S : mw_M) (H : Heap) (locs : List Loc) (ls : Array Slot), pf_X8_compose_79 G N y0 y1 y3 y6 S = some z → lv_has ls 7 [(0, .ref y0), (1, .int y1), (3, .int y3), (6, .int y6)] → mw_W D vwCl (mw_tys G) mw_aos A s S H locs → W p l e (headSpec wsX8_compose rmX8_compose).room s m args below meth c H locs 0 0 (MQ below (mw_Qv D vwCl (mw_tys G) mw_aos A z) args s 0 0 A) (F0 m 79 ls []) := by
  obtain ⟨hx, hb, hml, hown, hts, hr, hlocks⟩ := hC
  intro y0 y1 y3 y6 S H locs ls hf hl hw
  unfold pf_X8_compose_79 at hf
  refine lv_aload_n hx hb dX8_compose_79 rfl (lv_at hl 0 rfl) ?_
  obtain ⟨v1, e1, hf⟩ := mw_b hf
  refine mw_getr hx hb hts inX8 hown hw (ci := 8) rfl 4 (by decide) (hts _ tw_198) rfl e1 dX8_compose_80 ?_
  refine lv_iload_n hx hb dX8_compose_83 rfl (lv_at hl 1 rfl) ?_
  obtain ⟨v2, e2, hf⟩ := mw_b hf
  refine mw_iald hx hb hw 0 rfl e2 dX8_compose_84 ?_
  refine lv_iconst (v := 2) hx hb dX8_compose_85 (by decide) ?_
  refine lv_icmp_le hx hb dX8_compose_86 (tgt := 101) (by decide) (fun hc => ?_) (fun hc => ?_)
  · rw [if_pos hc] at hf
    exact bX8_compose_101 ⟨hx, hb, hml, hown, hts, hr, hlocks⟩ D G N _ _ _ _ _ _ hf (lv_sub hl [0, 2] rfl) hw
  · rw [if_neg hc] at hf
    refine lv_aload_n hx hb dX8_compose_89 rfl (lv_at hl 0 rfl) ?_
    obtain ⟨v3, e3, hf⟩ := mw_b hf
    refine mw_getr hx hb hts inX8 hown hw (ci := 8) rfl 11 (by decide) (hts _ tw_205) rfl e3 dX8_compose_90 ?_
    refine lv_iload hx hb dX8_compose_93 (lv_at hl 3 rfl) ?_
    obtain ⟨v4, S4, e4, hf⟩ := mw_bb hf
    refine mw_calli (va_runS (As := [.int y6]) (rest := [.ref v3]) ⟨hx, hb, hml, hown, hts⟩ (cm_X8_zigzag l D G N S y6 (v4, S4) e4) (cwS 1 hts (mw_gS tw_332 tw_333 tw_1 tw_334) rfl rfl rfl (by decide +kernel) ⟨Nat.le_of_ble_eq_true rfl, Nat.le_of_ble_eq_true rfl⟩) (mw_preS hw) rfl rfl hl.1 rfl (lv_room (Nat.le_of_ble_eq_true rfl)) dX8_compose_95 ⟨(Nat.le_of_ble_eq_true rfl), (Nat.le_of_ble_eq_true rfl)⟩) hw (fun H locs hw => ?_)
    obtain ⟨S5, e5, hf⟩ := mw_b hf
    obtain ⟨ho, e5⟩ := mw_v_s e5
    refine mw_callv (va_runV (As := [.int v4]) (rest := []) ⟨hx, hb, hml, hown, hts⟩ (cm_X0_addVariable l D G N S4 v3 v4 S5 e5) (cwV 1 hts (mw_gV tw_321 tw_322 tw_323 tw_6 tw_324) rfl rfl rfl (by decide +kernel) ⟨Nat.le_of_ble_eq_true rfl, Nat.le_of_ble_eq_true rfl⟩) (mw_preV hw (ci := 0) rfl ho) rfl rfl hl.1 rfl (lv_room (Nat.le_of_ble_eq_true rfl)) dX8_compose_98 ⟨(Nat.le_of_ble_eq_true rfl), (Nat.le_of_ble_eq_true rfl)⟩) hw (fun H locs hw => ?_)
    exact bX8_compose_101 ⟨hx, hb, hml, hown, hts, hr, hlocks⟩ D G N _ _ _ _ _ _ hf (lv_sub hl [0, 2] rfl) hw
set_option maxHeartbeats 4000000 in
set_option maxRecDepth 100000 in
theorem bX8_compose_57 {p : Program} {l : Launch} {e : Env} {s : State} {m : MethodId} {args : Array Value} {below : List Frame} {meth : Method} {c : Code} (hC : mw_C p s m args meth c cX8_compose RX8 none lw_good 7) (D : va_G) (G : Nat → ClassId) (N : Nat) {A : Nat → Prop} {z : mw_M} : ∀ (y0 : Nat) (y1 : Int32) (y3 : Int32) (y5 : Int32) (y6 : Int32) (S : mw_M) (H : Heap) (locs : List Loc) (ls : Array Slot), pf_X8_compose_57 G N y0 y1 y3 y5 y6 S = some z → lv_has ls 7 [(0, .ref y0), (1, .int y1), (3, .int y3), (5, .int y5), (6, .int y6)] → mw_W D vwCl (mw_tys G) mw_aos A s S H locs → W p l e (headSpec wsX8_compose rmX8_compose).room s m args below meth c H locs 0 0 (MQ below (mw_Qv D vwCl (mw_tys G) mw_aos A z) args s 0 0 A) (F0 m 57 ls []) := by
  obtain ⟨hx, hb, hml, hown, hts, hr, hlocks⟩ := hC
  intro y0 y1 y3 y5 y6 S H locs ls hf hl hw
  unfold pf_X8_compose_57 at hf
  refine lv_aload_n hx hb dX8_compose_57 rfl (lv_at hl 0 rfl) ?_
  obtain ⟨v1, e1, hf⟩ := mw_b hf
  refine mw_getr hx hb hts inX8 hown hw (ci := 8) rfl 4 (by decide) (hts _ tw_198) rfl e1 dX8_compose_58 ?_
  refine lv_iload_n hx hb dX8_compose_61 rfl (lv_at hl 1 rfl) ?_
  obtain ⟨v2, e2, hf⟩ := mw_b hf
  refine mw_iald hx hb hw 0 rfl e2 dX8_compose_62 ?_
  refine lv_iconst (v := 1) hx hb dX8_compose_63 (by decide) ?_
  refine lv_icmp_le hx hb dX8_compose_64 (tgt := 79) (by decide) (fun hc => ?_) (fun hc => ?_)
  · rw [if_pos hc] at hf
    exact bX8_compose_79 ⟨hx, hb, hml, hown, hts, hr, hlocks⟩ D G N _ _ _ _ _ _ _ _ hf (lv_sub hl [0, 1, 2, 4] rfl) hw
  · rw [if_neg hc] at hf
    refine lv_aload_n hx hb dX8_compose_67 rfl (lv_at hl 0 rfl) ?_
    obtain ⟨v3, e3, hf⟩ := mw_b hf
    refine mw_getr hx hb hts inX8 hown hw (ci := 8) rfl 11 (by decide) (hts _ tw_205) rfl e3 dX8_compose_68 ?_
    refine lv_iload hx hb dX8_compose_71 (lv_at hl 3 rfl) ?_
    obtain ⟨v4, S4, e4, hf⟩ := mw_bb hf
    refine mw_calli (va_runS (As := [.int y5]) (rest := [.ref v3]) ⟨hx, hb, hml, hown, hts⟩ (cm_X8_zigzag l D G N S y5 (v4, S4) e4) (cwS 1 hts (mw_gS tw_332 tw_333 tw_1 tw_334) rfl rfl rfl (by decide +kernel) ⟨Nat.le_of_ble_eq_true rfl, Nat.le_of_ble_eq_true rfl⟩) (mw_preS hw) rfl rfl hl.1 rfl (lv_room (Nat.le_of_ble_eq_true rfl)) dX8_compose_73 ⟨(Nat.le_of_ble_eq_true rfl), (Nat.le_of_ble_eq_true rfl)⟩) hw (fun H locs hw => ?_)
    obtain ⟨S5, e5, hf⟩ := mw_b hf
    obtain ⟨ho, e5⟩ := mw_v_s e5
    refine mw_callv (va_runV (As := [.int v4]) (rest := []) ⟨hx, hb, hml, hown, hts⟩ (cm_X0_addVariable l D G N S4 v3 v4 S5 e5) (cwV 1 hts (mw_gV tw_321 tw_322 tw_323 tw_6 tw_324) rfl rfl rfl (by decide +kernel) ⟨Nat.le_of_ble_eq_true rfl, Nat.le_of_ble_eq_true rfl⟩) (mw_preV hw (ci := 0) rfl ho) rfl rfl hl.1 rfl (lv_room (Nat.le_of_ble_eq_true rfl)) dX8_compose_76 ⟨(Nat.le_of_ble_eq_true rfl), (Nat.le_of_ble_eq_true rfl)⟩) hw (fun H locs hw => ?_)
    exact bX8_compose_79 ⟨hx, hb, hml, hown, hts, hr, hlocks⟩ D G N _ _ _ _ _ _ _ _ hf (lv_sub hl [0, 1, 2, 4] rfl) hw
set_option maxHeartbeats 4000000 in
set_option maxRecDepth 100000 in
theorem cm_X8_compose (l : Launch) (D : va_G) (G : Nat → ClassId) (N : Nat) (S : mw_M) (h0 : Nat) (x1 : Int32) (x2 : Int32) (x3 : Int32) (x4 : Int32) (x5 : Int32) (x6 : Int32) (z : mw_M) (hf : pf_X8_compose G N S h0 x1 x2 x3 x4 x5 x6 = some z) : Met l yX8_compose wsX8_compose rmX8_compose (va_Pc [.ref h0, .int x1, .int x2, .int x3, .int x4, .int x5, .int x6] (mw_B D vwCl (mw_tys G) mw_aos S)) (mw_Qv D vwCl (mw_tys G) mw_aos (mw_A S) z) 0 0 (mw_A S) := by
  refine Met.ofW (cc := cX8_compose) (maxL := 7) (ret := none) (by decide) rfl ?_
  intro p e s m args below meth c s₁ B hml hv
  obtain ⟨rfl, hB⟩ := hv
  have hw := mw_begin hB
  have hx := B.exec
  have hb := B.bytes
  have hr := B.returns
  have hts : ∀ w ∈ lw_good, w.before _ s = true := fun w h => atoms_spec (ws := wsX8_compose) B.pre w (List.mem_cons_of_mem _ h)
  have hown : s.vm.findClass RX8 = some m.cls := findClass_of_methodNamed B.named
  have hlocks := B.notSynchronized
  have hC : mw_C p s m _ meth c cX8_compose RX8 none lw_good 7 := ⟨hx, hb, hml, hown, hts, hr, hlocks⟩
  have hl := lv_entry ([.ref h0, .int x1, .int x2, .int x3, .int x4, .int x5, .int x6]) (n := 7) (Nat.le_of_ble_eq_true rfl)
  rw [lg_entry_eq]
  generalize (lg_sl ([.ref h0, .int x1, .int x2, .int x3, .int x4, .int x5, .int x6]) ++ List.replicate (7 - (lg_sl ([.ref h0, .int x1, .int x2, .int x3, .int x4, .int x5, .int x6])).length) Slot.unset).toArray = ls at hl ⊢
  have hl : lv_has ls 7 [(0, .ref h0), (1, .int x1), (2, .int x2), (3, .int x3), (4, .int x4), (5, .int x5), (6, .int x6)] := hl
  unfold pf_X8_compose at hf
  refine lv_aload_n hx hb dX8_compose_0 rfl (lv_at hl 0 rfl) ?_
  obtain ⟨v1, e1, hf⟩ := mw_b hf
  refine mw_getr hx hb hts inX8 hown hw (ci := 8) rfl 11 (by decide) (hts _ tw_205) rfl e1 dX8_compose_1 ?_
  obtain ⟨S2, e2, hf⟩ := mw_b hf
  obtain ⟨ho, e2⟩ := mw_v_s e2
  refine mw_callv (va_runV (As := []) (rest := []) ⟨hx, hb, hml, hown, hts⟩ (cm_X0_clear l D G N S v1 S2 e2) (cwV 0 hts (mw_gV tw_320 tw_179 tw_180 tw_6 tw_181) rfl rfl rfl (by decide +kernel) ⟨Nat.le_of_ble_eq_true rfl, Nat.le_of_ble_eq_true rfl⟩) (mw_preV hw (ci := 0) rfl ho) rfl rfl hl.1 rfl (lv_room (Nat.le_of_ble_eq_true rfl)) dX8_compose_4 ⟨(Nat.le_of_ble_eq_true rfl), (Nat.le_of_ble_eq_true rfl)⟩) hw (fun H locs hw => ?_)
  refine lv_aload_n hx hb dX8_compose_7 rfl (lv_at hl 0 rfl) ?_
  obtain ⟨v3, e3, hf⟩ := mw_b hf
  refine mw_getr hx hb hts inX8 hown hw (ci := 8) rfl 11 (by decide) (hts _ tw_205) rfl e3 dX8_compose_8 ?_
  refine lv_iload_n hx hb dX8_compose_11 rfl (lv_at hl 1 rfl) ?_
  obtain ⟨S4, e4, hf⟩ := mw_b hf
  obtain ⟨ho, e4⟩ := mw_v_s e4
  refine mw_callv (va_runV (As := [.int x1]) (rest := []) ⟨hx, hb, hml, hown, hts⟩ (cm_X0_addVariable l D G N S2 v3 x1 S4 e4) (cwV 1 hts (mw_gV tw_321 tw_322 tw_323 tw_6 tw_324) rfl rfl rfl (by decide +kernel) ⟨Nat.le_of_ble_eq_true rfl, Nat.le_of_ble_eq_true rfl⟩) (mw_preV hw (ci := 0) rfl ho) rfl rfl hl.1 rfl (lv_room (Nat.le_of_ble_eq_true rfl)) dX8_compose_12 ⟨(Nat.le_of_ble_eq_true rfl), (Nat.le_of_ble_eq_true rfl)⟩) hw (fun H locs hw => ?_)
  refine lv_aload_n hx hb dX8_compose_15 rfl (lv_at hl 0 rfl) ?_
  obtain ⟨v5, e5, hf⟩ := mw_b hf
  refine mw_getr hx hb hts inX8 hown hw (ci := 8) rfl 11 (by decide) (hts _ tw_205) rfl e5 dX8_compose_16 ?_
  refine lv_iload_n hx hb dX8_compose_19 rfl (lv_at hl 2 rfl) ?_
  obtain ⟨S6, e6, hf⟩ := mw_b hf
  obtain ⟨ho, e6⟩ := mw_v_s e6
  refine mw_callv (va_runV (As := [.int x2]) (rest := []) ⟨hx, hb, hml, hown, hts⟩ (cm_X0_addVariable l D G N S4 v5 x2 S6 e6) (cwV 1 hts (mw_gV tw_321 tw_322 tw_323 tw_6 tw_324) rfl rfl rfl (by decide +kernel) ⟨Nat.le_of_ble_eq_true rfl, Nat.le_of_ble_eq_true rfl⟩) (mw_preV hw (ci := 0) rfl ho) rfl rfl hl.1 rfl (lv_room (Nat.le_of_ble_eq_true rfl)) dX8_compose_20 ⟨(Nat.le_of_ble_eq_true rfl), (Nat.le_of_ble_eq_true rfl)⟩) hw (fun H locs hw => ?_)
  refine lv_aload_n hx hb dX8_compose_23 rfl (lv_at hl 0 rfl) ?_
  obtain ⟨v7, e7, hf⟩ := mw_b hf
  refine mw_getr hx hb hts inX8 hown hw (ci := 8) rfl 11 (by decide) (hts _ tw_205) rfl e7 dX8_compose_24 ?_
  refine lv_aload_n hx hb dX8_compose_27 rfl (lv_at hl 0 rfl) ?_
  obtain ⟨v8, e8, hf⟩ := mw_b hf
  refine mw_geti hx hb hts inX8 hown hw (ci := 8) rfl 13 (by decide) (hts _ tw_207) rfl e8 dX8_compose_28 ?_
  refine lv_iload_n hx hb dX8_compose_31 rfl (lv_at hl 2 rfl) ?_
  refine lv_isub hx hb dX8_compose_32 ?_
  obtain ⟨S9, e9, hf⟩ := mw_b hf
  obtain ⟨ho, e9⟩ := mw_v_s e9
  refine mw_callv (va_runV (As := [.int (v8 - x2)]) (rest := []) ⟨hx, hb, hml, hown, hts⟩ (cm_X0_addVariable l D G N S6 v7 (v8 - x2) S9 e9) (cwV 1 hts (mw_gV tw_321 tw_322 tw_323 tw_6 tw_324) rfl rfl rfl (by decide +kernel) ⟨Nat.le_of_ble_eq_true rfl, Nat.le_of_ble_eq_true rfl⟩) (mw_preV hw (ci := 0) rfl ho) rfl rfl hl.1 rfl (lv_room (Nat.le_of_ble_eq_true rfl)) dX8_compose_33 ⟨(Nat.le_of_ble_eq_true rfl), (Nat.le_of_ble_eq_true rfl)⟩) hw (fun H locs hw => ?_)
  refine lv_aload_n hx hb dX8_compose_36 rfl (lv_at hl 0 rfl) ?_
  obtain ⟨v10, e10, hf⟩ := mw_b hf
  refine mw_getr hx hb hts inX8 hown hw (ci := 8) rfl 4 (by decide) (hts _ tw_198) rfl e10 dX8_compose_37 ?_
  refine lv_iload_n hx hb dX8_compose_40 rfl (lv_at hl 1 rfl) ?_
  obtain ⟨v11, e11, hf⟩ := mw_b hf
  refine mw_iald hx hb hw 0 rfl e11 dX8_compose_41 ?_
  refine lv_if_le hx hb dX8_compose_42 (tgt := 57) (by decide) (fun hc => ?_) (fun hc => ?_)
  · rw [if_pos hc] at hf
    exact bX8_compose_57 ⟨hx, hb, hml, hown, hts, hr, hlocks⟩ D G N _ _ _ _ _ _ _ _ _ hf (lv_sub hl [0, 1, 3, 5, 6] rfl) hw
  · rw [if_neg hc] at hf
    refine lv_aload_n hx hb dX8_compose_45 rfl (lv_at hl 0 rfl) ?_
    obtain ⟨v12, e12, hf⟩ := mw_b hf
    refine mw_getr hx hb hts inX8 hown hw (ci := 8) rfl 11 (by decide) (hts _ tw_205) rfl e12 dX8_compose_46 ?_
    refine lv_iload hx hb dX8_compose_49 (lv_at hl 4 rfl) ?_
    obtain ⟨v13, S13, e13, hf⟩ := mw_bb hf
    refine mw_calli (va_runS (As := [.int x4]) (rest := [.ref v12]) ⟨hx, hb, hml, hown, hts⟩ (cm_X8_zigzag l D G N S9 x4 (v13, S13) e13) (cwS 1 hts (mw_gS tw_332 tw_333 tw_1 tw_334) rfl rfl rfl (by decide +kernel) ⟨Nat.le_of_ble_eq_true rfl, Nat.le_of_ble_eq_true rfl⟩) (mw_preS hw) rfl rfl hl.1 rfl (lv_room (Nat.le_of_ble_eq_true rfl)) dX8_compose_51 ⟨(Nat.le_of_ble_eq_true rfl), (Nat.le_of_ble_eq_true rfl)⟩) hw (fun H locs hw => ?_)
    obtain ⟨S14, e14, hf⟩ := mw_b hf
    obtain ⟨ho, e14⟩ := mw_v_s e14
    refine mw_callv (va_runV (As := [.int v13]) (rest := []) ⟨hx, hb, hml, hown, hts⟩ (cm_X0_addVariable l D G N S13 v12 v13 S14 e14) (cwV 1 hts (mw_gV tw_321 tw_322 tw_323 tw_6 tw_324) rfl rfl rfl (by decide +kernel) ⟨Nat.le_of_ble_eq_true rfl, Nat.le_of_ble_eq_true rfl⟩) (mw_preV hw (ci := 0) rfl ho) rfl rfl hl.1 rfl (lv_room (Nat.le_of_ble_eq_true rfl)) dX8_compose_54 ⟨(Nat.le_of_ble_eq_true rfl), (Nat.le_of_ble_eq_true rfl)⟩) hw (fun H locs hw => ?_)
    exact bX8_compose_57 ⟨hx, hb, hml, hown, hts, hr, hlocks⟩ D G N _ _ _ _ _ _ _ _ _ hf (lv_sub hl [0, 1, 3, 5, 6] rfl) hw
abbrev rmX3_buffer : Room := { frames := 0, cells := 0, slots := 0, locals := 0 }
abbrev wsX3_buffer : List Cond := Cond.code yX3_buffer cX3_buffer 1 (some (.object "EventRecorder$ByteRow")) :: lw_good
set_option maxHeartbeats 4000000 in
set_option maxRecDepth 100000 in
theorem cm_X3_buffer (l : Launch) (D : va_G) (G : Nat → ClassId) (N : Nat) (S : mw_M) (h0 : Nat) (z : Nat × mw_M) (hf : pf_X3_buffer G N S h0 = some z) : Met l yX3_buffer wsX3_buffer rmX3_buffer (va_Pc [.ref h0] (mw_B D vwCl (mw_tys G) mw_aos S)) (mw_Qr D vwCl (mw_tys G) mw_aos (mw_A S) z) 0 0 (mw_A S) := by
  refine Met.ofW (cc := cX3_buffer) (maxL := 1) (ret := (some (.object "EventRecorder$ByteRow"))) (by decide) rfl ?_
  intro p e s m args below meth c s₁ B hml hv
  obtain ⟨rfl, hB⟩ := hv
  have hw := mw_begin hB
  have hx := B.exec
  have hb := B.bytes
  have hr := B.returns
  have hts : ∀ w ∈ lw_good, w.before _ s = true := fun w h => atoms_spec (ws := wsX3_buffer) B.pre w (List.mem_cons_of_mem _ h)
  have hown : s.vm.findClass RX3 = some m.cls := findClass_of_methodNamed B.named
  have hlocks := B.notSynchronized
  have hC : mw_C p s m _ meth c cX3_buffer RX3 (some (.object "EventRecorder$ByteRow")) lw_good 1 := ⟨hx, hb, hml, hown, hts, hr, hlocks⟩
  have hl := lv_entry ([.ref h0]) (n := 1) (Nat.le_of_ble_eq_true rfl)
  rw [lg_entry_eq]
  generalize (lg_sl ([.ref h0]) ++ List.replicate (1 - (lg_sl ([.ref h0])).length) Slot.unset).toArray = ls at hl ⊢
  have hl : lv_has ls 1 [(0, .ref h0)] := hl
  unfold pf_X3_buffer at hf
  refine lv_aload_n hx hb dX3_buffer_0 rfl (lv_at hl 0 rfl) ?_
  obtain ⟨v1, e1, hf⟩ := mw_b hf
  refine mw_getr hx hb hts inX3 hown hw (ci := 3) rfl 1 (by decide) (hts _ tw_84) rfl e1 dX3_buffer_1 ?_
  exact mw_aret hx hb hr hlocks hw hf dX3_buffer_4
abbrev rmX0_length : Room := { frames := 0, cells := 0, slots := 0, locals := 0 }
abbrev wsX0_length : List Cond := Cond.code yX0_length cX0_length 1 (some .int) :: lw_good
set_option maxHeartbeats 4000000 in
set_option maxRecDepth 100000 in
theorem cm_X0_length (l : Launch) (D : va_G) (G : Nat → ClassId) (N : Nat) (S : mw_M) (h0 : Nat) (z : Int32 × mw_M) (hf : pf_X0_length G N S h0 = some z) : Met l yX0_length wsX0_length rmX0_length (va_Pc [.ref h0] (mw_B D vwCl (mw_tys G) mw_aos S)) (mw_Qi D vwCl (mw_tys G) mw_aos (mw_A S) z) 0 0 (mw_A S) := by
  refine Met.ofW (cc := cX0_length) (maxL := 1) (ret := (some .int)) (by decide) rfl ?_
  intro p e s m args below meth c s₁ B hml hv
  obtain ⟨rfl, hB⟩ := hv
  have hw := mw_begin hB
  have hx := B.exec
  have hb := B.bytes
  have hr := B.returns
  have hts : ∀ w ∈ lw_good, w.before _ s = true := fun w h => atoms_spec (ws := wsX0_length) B.pre w (List.mem_cons_of_mem _ h)
  have hown : s.vm.findClass RX0 = some m.cls := findClass_of_methodNamed B.named
  have hlocks := B.notSynchronized
  have hC : mw_C p s m _ meth c cX0_length RX0 (some .int) lw_good 1 := ⟨hx, hb, hml, hown, hts, hr, hlocks⟩
  have hl := lv_entry ([.ref h0]) (n := 1) (Nat.le_of_ble_eq_true rfl)
  rw [lg_entry_eq]
  generalize (lg_sl ([.ref h0]) ++ List.replicate (1 - (lg_sl ([.ref h0])).length) Slot.unset).toArray = ls at hl ⊢
  have hl : lv_has ls 1 [(0, .ref h0)] := hl
  unfold pf_X0_length at hf
  refine lv_aload_n hx hb dX0_length_0 rfl (lv_at hl 0 rfl) ?_
  obtain ⟨v1, e1, hf⟩ := mw_b hf
  refine mw_geti hx hb hts inX0 hown hw (ci := 0) rfl 1 (by decide) (hts _ tw_76) rfl e1 dX0_length_1 ?_
  exact mw_iret hx hb hr hlocks hw hf dX0_length_4
abbrev rmX0_room : Room := { frames := 0, cells := 0, slots := 0, locals := 0 }
abbrev wsX0_room : List Cond := Cond.code yX0_room cX0_room 1 (some .int) :: lw_good
set_option maxHeartbeats 4000000 in
set_option maxRecDepth 100000 in
theorem cm_X0_room (l : Launch) (D : va_G) (G : Nat → ClassId) (N : Nat) (S : mw_M) (h0 : Nat) (z : Int32 × mw_M) (hf : pf_X0_room G N S h0 = some z) : Met l yX0_room wsX0_room rmX0_room (va_Pc [.ref h0] (mw_B D vwCl (mw_tys G) mw_aos S)) (mw_Qi D vwCl (mw_tys G) mw_aos (mw_A S) z) 0 0 (mw_A S) := by
  refine Met.ofW (cc := cX0_room) (maxL := 1) (ret := (some .int)) (by decide) rfl ?_
  intro p e s m args below meth c s₁ B hml hv
  obtain ⟨rfl, hB⟩ := hv
  have hw := mw_begin hB
  have hx := B.exec
  have hb := B.bytes
  have hr := B.returns
  have hts : ∀ w ∈ lw_good, w.before _ s = true := fun w h => atoms_spec (ws := wsX0_room) B.pre w (List.mem_cons_of_mem _ h)
  have hown : s.vm.findClass RX0 = some m.cls := findClass_of_methodNamed B.named
  have hlocks := B.notSynchronized
  have hC : mw_C p s m _ meth c cX0_room RX0 (some .int) lw_good 1 := ⟨hx, hb, hml, hown, hts, hr, hlocks⟩
  have hl := lv_entry ([.ref h0]) (n := 1) (Nat.le_of_ble_eq_true rfl)
  rw [lg_entry_eq]
  generalize (lg_sl ([.ref h0]) ++ List.replicate (1 - (lg_sl ([.ref h0])).length) Slot.unset).toArray = ls at hl ⊢
  have hl : lv_has ls 1 [(0, .ref h0)] := hl
  unfold pf_X0_room at hf
  refine lv_aload_n hx hb dX0_room_0 rfl (lv_at hl 0 rfl) ?_
  obtain ⟨v1, e1, hf⟩ := mw_b hf
  refine mw_getr hx hb hts inX0 hown hw (ci := 0) rfl 0 (by decide) (hts _ tw_75) rfl e1 dX0_room_1 ?_
  obtain ⟨v2, e2, hf⟩ := mw_b hf
  refine mw_alen hx hb hw 1 rfl e2 dX0_room_4 ?_
  refine lv_aload_n hx hb dX0_room_5 rfl (lv_at hl 0 rfl) ?_
  obtain ⟨v3, e3, hf⟩ := mw_b hf
  refine mw_geti hx hb hts inX0 hown hw (ci := 0) rfl 1 (by decide) (hts _ tw_76) rfl e3 dX0_room_6 ?_
  refine lv_isub hx hb dX0_room_9 ?_
  exact mw_iret hx hb hr hlocks hw hf dX0_room_10
abbrev rmX0_addRow : Room := { frames := 1, cells := 0, slots := 0, locals := 21 }
abbrev wsX0_addRow : List Cond := Cond.code yX0_addRow cX0_addRow 3 none :: lw_good
set_option maxHeartbeats 4000000 in
set_option maxRecDepth 100000 in
theorem bX0_addRow_2 {p : Program} {l : Launch} {e : Env} {s : State} {m : MethodId} {args : Array Value} {below : List Frame} {meth : Method} {c : Code} (hC : mw_C p s m args meth c cX0_addRow RX0 none lw_good 3) (D : va_G) (G : Nat → ClassId) (N : Nat) {A : Nat → Prop} {z : mw_M} : ∀ (n : Nat) (y0 : Nat) (y1 : Nat) (y2 : Int32) (S : mw_M) (H : Heap) (locs : List Loc) (ls : Array Slot), pf_X0_addRow_2 G N n y0 y1 y2 S = some z → lv_has ls 3 [(0, .ref y0), (1, .ref y1), (2, .int y2)] → mw_W D vwCl (mw_tys G) mw_aos A s S H locs → W p l e (headSpec wsX0_addRow rmX0_addRow).room s m args below meth c H locs 0 0 (MQ below (mw_Qv D vwCl (mw_tys G) mw_aos A z) args s 0 0 A) (F0 m 2 ls []) := by
  obtain ⟨hx, hb, hml, hown, hts, hr, hlocks⟩ := hC
  intro n
  induction n with
  | zero => intro y0 y1 y2 S H locs ls hf; rw [pf_X0_addRow_2] at hf; cases hf
  | succ n ih =>
    intro y0 y1 y2 S H locs ls hf hl hw
    rw [pf_X0_addRow_2] at hf
    refine lv_iload_n hx hb dX0_addRow_2 rfl (lv_at hl 2 rfl) ?_
    refine lv_aload_n hx hb dX0_addRow_3 rfl (lv_at hl 1 rfl) ?_
    obtain ⟨v1, e1, hf⟩ := mw_b hf
    refine mw_geti hx hb hts inX0 hown hw (ci := 0) rfl 1 (by decide) (hts _ tw_76) rfl e1 dX0_addRow_4 ?_
    refine lv_icmp_ge hx hb dX0_addRow_7 (tgt := 26) (by decide) (fun hc => ?_) (fun hc => ?_)
    · rw [if_pos hc] at hf
      exact mw_vret hx hb hr hlocks hw hf dX0_addRow_26
    · rw [if_neg hc] at hf
      refine lv_aload_n hx hb dX0_addRow_10 rfl (lv_at hl 0 rfl) ?_
      refine lv_aload_n hx hb dX0_addRow_11 rfl (lv_at hl 1 rfl) ?_
      obtain ⟨v2, e2, hf⟩ := mw_b hf
      refine mw_getr hx hb hts inX0 hown hw (ci := 0) rfl 0 (by decide) (hts _ tw_75) rfl e2 dX0_addRow_12 ?_
      refine lv_iload_n hx hb dX0_addRow_15 rfl (lv_at hl 2 rfl) ?_
      obtain ⟨v3, e3, hf⟩ := mw_b hf
      refine mw_bald hx hb hw 1 rfl e3 dX0_addRow_16 ?_
      obtain ⟨S4, e4, hf⟩ := mw_b hf
      obtain ⟨ho, e4⟩ := mw_v_s e4
      refine mw_callv (va_runV (As := [.int v3]) (rest := []) ⟨hx, hb, hml, hown, hts⟩ (cm_X0_add l D G N S y0 v3 S4 e4) (cwV 1 hts (mw_gV tw_328 tw_329 tw_330 tw_6 tw_331) rfl rfl rfl (by decide +kernel) ⟨Nat.le_of_ble_eq_true rfl, Nat.le_of_ble_eq_true rfl⟩) (mw_preV hw (ci := 0) rfl ho) rfl rfl hl.1 rfl (lv_room (Nat.le_of_ble_eq_true rfl)) dX0_addRow_17 ⟨(Nat.le_of_ble_eq_true rfl), (Nat.le_of_ble_eq_true rfl)⟩) hw (fun H locs hw => ?_)
      refine lv_iinc (k := 2) (v := (y2 + 1)) hx hb dX0_addRow_20 hl rfl (congrArg (fun q => y2 + q) (show Int32.ofInt 1 = 1 by decide)) (by decide) rfl (fun ls hl => ?_)
      have hl : lv_has ls 3 [(2, .int (y2 + 1)), (0, .ref y0), (1, .ref y1)] := hl
      refine lv_goto hx hb dX0_addRow_23 (tgt := 2) (by decide) ?_
      exact ih _ _ _ _ _ _ _ hf (lv_sub hl [1, 2, 0] rfl) hw
set_option maxHeartbeats 4000000 in
set_option maxRecDepth 100000 in
theorem cm_X0_addRow (l : Launch) (D : va_G) (G : Nat → ClassId) (N : Nat) (S : mw_M) (h0 : Nat) (x1 : Nat) (z : mw_M) (hf : pf_X0_addRow G N S h0 x1 = some z) : Met l yX0_addRow wsX0_addRow rmX0_addRow (va_Pc [.ref h0, .ref x1] (mw_B D vwCl (mw_tys G) mw_aos S)) (mw_Qv D vwCl (mw_tys G) mw_aos (mw_A S) z) 0 0 (mw_A S) := by
  refine Met.ofW (cc := cX0_addRow) (maxL := 3) (ret := none) (by decide) rfl ?_
  intro p e s m args below meth c s₁ B hml hv
  obtain ⟨rfl, hB⟩ := hv
  have hw := mw_begin hB
  have hx := B.exec
  have hb := B.bytes
  have hr := B.returns
  have hts : ∀ w ∈ lw_good, w.before _ s = true := fun w h => atoms_spec (ws := wsX0_addRow) B.pre w (List.mem_cons_of_mem _ h)
  have hown : s.vm.findClass RX0 = some m.cls := findClass_of_methodNamed B.named
  have hlocks := B.notSynchronized
  have hC : mw_C p s m _ meth c cX0_addRow RX0 none lw_good 3 := ⟨hx, hb, hml, hown, hts, hr, hlocks⟩
  have hl := lv_entry ([.ref h0, .ref x1]) (n := 3) (Nat.le_of_ble_eq_true rfl)
  rw [lg_entry_eq]
  generalize (lg_sl ([.ref h0, .ref x1]) ++ List.replicate (3 - (lg_sl ([.ref h0, .ref x1])).length) Slot.unset).toArray = ls at hl ⊢
  have hl : lv_has ls 3 [(0, .ref h0), (1, .ref x1)] := hl
  unfold pf_X0_addRow at hf
  refine lv_iconst (v := 0) hx hb dX0_addRow_0 (by decide) ?_
  refine lv_istore_n hx hb dX0_addRow_1 rfl hl (by decide) rfl (fun ls hl => ?_)
  have hl : lv_has ls 3 [(2, .int 0), (0, .ref h0), (1, .ref x1)] := hl
  exact bX0_addRow_2 ⟨hx, hb, hml, hown, hts, hr, hlocks⟩ D G N N _ _ _ _ _ _ _ hf (lv_sub hl [1, 2, 0] rfl) hw
abbrev rmX0_moveTo : Room := { frames := 2, cells := 0, slots := 0, locals := 43 }
abbrev wsX0_moveTo : List Cond := Cond.code yX0_moveTo cX0_moveTo 2 none :: lw_good
set_option maxHeartbeats 4000000 in
set_option maxRecDepth 100000 in
theorem cm_X0_moveTo (l : Launch) (D : va_G) (G : Nat → ClassId) (N : Nat) (S : mw_M) (h0 : Nat) (x1 : Nat) (z : mw_M) (hf : pf_X0_moveTo G N S h0 x1 = some z) : Met l yX0_moveTo wsX0_moveTo rmX0_moveTo (va_Pc [.ref h0, .ref x1] (mw_B D vwCl (mw_tys G) mw_aos S)) (mw_Qv D vwCl (mw_tys G) mw_aos (mw_A S) z) 0 0 (mw_A S) := by
  refine Met.ofW (cc := cX0_moveTo) (maxL := 2) (ret := none) (by decide) rfl ?_
  intro p e s m args below meth c s₁ B hml hv
  obtain ⟨rfl, hB⟩ := hv
  have hw := mw_begin hB
  have hx := B.exec
  have hb := B.bytes
  have hr := B.returns
  have hts : ∀ w ∈ lw_good, w.before _ s = true := fun w h => atoms_spec (ws := wsX0_moveTo) B.pre w (List.mem_cons_of_mem _ h)
  have hown : s.vm.findClass RX0 = some m.cls := findClass_of_methodNamed B.named
  have hlocks := B.notSynchronized
  have hC : mw_C p s m _ meth c cX0_moveTo RX0 none lw_good 2 := ⟨hx, hb, hml, hown, hts, hr, hlocks⟩
  have hl := lv_entry ([.ref h0, .ref x1]) (n := 2) (Nat.le_of_ble_eq_true rfl)
  rw [lg_entry_eq]
  generalize (lg_sl ([.ref h0, .ref x1]) ++ List.replicate (2 - (lg_sl ([.ref h0, .ref x1])).length) Slot.unset).toArray = ls at hl ⊢
  have hl : lv_has ls 2 [(0, .ref h0), (1, .ref x1)] := hl
  unfold pf_X0_moveTo at hf
  refine lv_aload_n hx hb dX0_moveTo_0 rfl (lv_at hl 1 rfl) ?_
  refine lv_aload_n hx hb dX0_moveTo_1 rfl (lv_at hl 0 rfl) ?_
  obtain ⟨S1, e1, hf⟩ := mw_b hf
  obtain ⟨ho, e1⟩ := mw_v_s e1
  refine mw_callv (va_runV (As := [.ref h0]) (rest := []) ⟨hx, hb, hml, hown, hts⟩ (cm_X0_addRow l D G N S x1 h0 S1 e1) (cwV 1 hts (mw_gV tw_360 tw_361 tw_362 tw_6 tw_363) rfl rfl rfl (by decide +kernel) ⟨Nat.le_of_ble_eq_true rfl, Nat.le_of_ble_eq_true rfl⟩) (mw_preV hw (ci := 0) rfl ho) rfl rfl hl.1 rfl (lv_room (Nat.le_of_ble_eq_true rfl)) dX0_moveTo_2 ⟨(Nat.le_of_ble_eq_true rfl), (Nat.le_of_ble_eq_true rfl)⟩) hw (fun H locs hw => ?_)
  refine lv_aload_n hx hb dX0_moveTo_5 rfl (lv_at hl 0 rfl) ?_
  obtain ⟨S2, e2, hf⟩ := mw_b hf
  obtain ⟨ho, e2⟩ := mw_v_s e2
  refine mw_callv (va_runV (As := []) (rest := []) ⟨hx, hb, hml, hown, hts⟩ (cm_X0_clear l D G N S1 h0 S2 e2) (cwV 0 hts (mw_gV tw_364 tw_179 tw_180 tw_6 tw_181) rfl rfl rfl (by decide +kernel) ⟨Nat.le_of_ble_eq_true rfl, Nat.le_of_ble_eq_true rfl⟩) (mw_preV hw (ci := 0) rfl ho) rfl rfl hl.1 rfl (lv_room (Nat.le_of_ble_eq_true rfl)) dX0_moveTo_6 ⟨(Nat.le_of_ble_eq_true rfl), (Nat.le_of_ble_eq_true rfl)⟩) hw (fun H locs hw => ?_)
  exact mw_vret hx hb hr hlocks hw hf dX0_moveTo_9
abbrev rmX4_takeOver : Room := { frames := 3, cells := 0, slots := 0, locals := 64 }
abbrev wsX4_takeOver : List Cond := Cond.code yX4_takeOver cX4_takeOver 2 (some .boolean) :: lw_good
set_option maxHeartbeats 4000000 in
set_option maxRecDepth 100000 in
theorem cm_X4_takeOver (l : Launch) (D : va_G) (G : Nat → ClassId) (N : Nat) (S : mw_M) (h0 : Nat) (x1 : Nat) (z : Int32 × mw_M) (hf : pf_X4_takeOver G N S h0 x1 = some z) : Met l yX4_takeOver wsX4_takeOver rmX4_takeOver (va_Pc [.ref h0, .ref x1] (mw_B D vwCl (mw_tys G) mw_aos S)) (mw_Qi D vwCl (mw_tys G) mw_aos (mw_A S) z) 0 0 (mw_A S) := by
  refine Met.ofW (cc := cX4_takeOver) (maxL := 2) (ret := (some .boolean)) (by decide) rfl ?_
  intro p e s m args below meth c s₁ B hml hv
  obtain ⟨rfl, hB⟩ := hv
  have hw := mw_begin hB
  have hx := B.exec
  have hb := B.bytes
  have hr := B.returns
  have hts : ∀ w ∈ lw_good, w.before _ s = true := fun w h => atoms_spec (ws := wsX4_takeOver) B.pre w (List.mem_cons_of_mem _ h)
  have hown : s.vm.findClass RX4 = some m.cls := findClass_of_methodNamed B.named
  have hlocks := B.notSynchronized
  have hC : mw_C p s m _ meth c cX4_takeOver RX4 (some .boolean) lw_good 2 := ⟨hx, hb, hml, hown, hts, hr, hlocks⟩
  have hl := lv_entry ([.ref h0, .ref x1]) (n := 2) (Nat.le_of_ble_eq_true rfl)
  rw [lg_entry_eq]
  generalize (lg_sl ([.ref h0, .ref x1]) ++ List.replicate (2 - (lg_sl ([.ref h0, .ref x1])).length) Slot.unset).toArray = ls at hl ⊢
  have hl : lv_has ls 2 [(0, .ref h0), (1, .ref x1)] := hl
  unfold pf_X4_takeOver at hf
  refine lv_aload_n hx hb dX4_takeOver_0 rfl (lv_at hl 0 rfl) ?_
  obtain ⟨v1, e1, hf⟩ := mw_b hf
  refine mw_geti hx hb hts inX4 hown hw (ci := 4) rfl 2 (by decide) (hts _ tw_135) rfl e1 dX4_takeOver_1 ?_
  refine lv_aload_n hx hb dX4_takeOver_4 rfl (lv_at hl 0 rfl) ?_
  obtain ⟨v2, e2, hf⟩ := mw_b hf
  refine mw_getr hx hb hts inX4 hown hw (ci := 4) rfl 0 (by decide) (hts _ tw_133) rfl e2 dX4_takeOver_5 ?_
  obtain ⟨v3, e3, hf⟩ := mw_b hf
  refine mw_alen hx hb hw 6 rfl e3 dX4_takeOver_8 ?_
  refine lv_icmp_lt hx hb dX4_takeOver_9 (tgt := 14) (by decide) (fun hc => ?_) (fun hc => ?_)
  · rw [if_pos hc] at hf
    refine lv_aload_n hx hb dX4_takeOver_14 rfl (lv_at hl 1 rfl) ?_
    refine lv_aload_n hx hb dX4_takeOver_15 rfl (lv_at hl 0 rfl) ?_
    obtain ⟨v4, e4, hf⟩ := mw_b hf
    refine mw_getr hx hb hts inX4 hown hw (ci := 4) rfl 0 (by decide) (hts _ tw_133) rfl e4 dX4_takeOver_16 ?_
    refine lv_aload_n hx hb dX4_takeOver_19 rfl (lv_at hl 0 rfl) ?_
    obtain ⟨v5, e5, hf⟩ := mw_b hf
    refine mw_geti hx hb hts inX4 hown hw (ci := 4) rfl 1 (by decide) (hts _ tw_134) rfl e5 dX4_takeOver_20 ?_
    refine lv_aload_n hx hb dX4_takeOver_23 rfl (lv_at hl 0 rfl) ?_
    obtain ⟨v6, e6, hf⟩ := mw_b hf
    refine mw_geti hx hb hts inX4 hown hw (ci := 4) rfl 2 (by decide) (hts _ tw_135) rfl e6 dX4_takeOver_24 ?_
    refine lv_iadd hx hb dX4_takeOver_27 ?_
    refine lv_aload_n hx hb dX4_takeOver_28 rfl (lv_at hl 0 rfl) ?_
    obtain ⟨v7, e7, hf⟩ := mw_b hf
    refine mw_getr hx hb hts inX4 hown hw (ci := 4) rfl 0 (by decide) (hts _ tw_133) rfl e7 dX4_takeOver_29 ?_
    obtain ⟨v8, e8, hf⟩ := mw_b hf
    refine mw_alen hx hb hw 6 rfl e8 dX4_takeOver_32 ?_
    have hne : ¬ v8 = 0 := fun q => by rw [if_pos q] at hf; cases hf
    rw [if_neg hne] at hf
    refine lv_irem hx hb dX4_takeOver_33 hne ?_
    obtain ⟨v9, e9, hf⟩ := mw_b hf
    refine mw_aald hx hb hw 6 rfl e9 dX4_takeOver_34 ?_
    obtain ⟨S10, e10, hf⟩ := mw_b hf
    obtain ⟨ho, e10⟩ := mw_v_s e10
    refine mw_callv (va_runV (As := [.ref v9]) (rest := []) ⟨hx, hb, hml, hown, hts⟩ (cm_X0_moveTo l D G N S x1 v9 S10 e10) (cwV 1 hts (mw_gV tw_356 tw_357 tw_358 tw_6 tw_359) rfl rfl rfl (by decide +kernel) ⟨Nat.le_of_ble_eq_true rfl, Nat.le_of_ble_eq_true rfl⟩) (mw_preV hw (ci := 0) rfl ho) rfl rfl hl.1 rfl (lv_room (Nat.le_of_ble_eq_true rfl)) dX4_takeOver_35 ⟨(Nat.le_of_ble_eq_true rfl), (Nat.le_of_ble_eq_true rfl)⟩) hw (fun H locs hw => ?_)
    refine lv_aload_n hx hb dX4_takeOver_38 rfl (lv_at hl 0 rfl) ?_
    refine lv_dup hx hb dX4_takeOver_39 rfl ?_
    obtain ⟨v11, e11, hf⟩ := mw_b hf
    refine mw_geti hx hb hts inX4 hown hw (ci := 4) rfl 2 (by decide) (hts _ tw_135) rfl e11 dX4_takeOver_40 ?_
    refine lv_iconst (v := 1) hx hb dX4_takeOver_43 (by decide) ?_
    refine lv_iadd hx hb dX4_takeOver_44 ?_
    obtain ⟨S12, e12, hf⟩ := mw_b hf
    refine mw_put hx hb hts inX4 tyX4 tyX4_ok nX4 hown hw (ci := 4) rfl 2 (by decide) (hts _ tw_135) rfl rfl (ty := .int) (by decide +kernel) rfl rfl e12 dX4_takeOver_45 (fun H locs hw => ?_)
    refine lv_iconst (v := 1) hx hb dX4_takeOver_48 (by decide) ?_
    exact mw_zret hx hb hr hlocks hw rfl hf dX4_takeOver_49
  · rw [if_neg hc] at hf
    refine lv_iconst (v := 0) hx hb dX4_takeOver_12 (by decide) ?_
    exact mw_zret hx hb hr hlocks hw rfl hf dX4_takeOver_13
abbrev rmX8_makeRoom : Room := { frames := 4, cells := 0, slots := 0, locals := 85 }
abbrev wsX8_makeRoom : List Cond := Cond.code yX8_makeRoom cX8_makeRoom 3 (some .boolean) :: lw_good
set_option maxHeartbeats 4000000 in
set_option maxRecDepth 100000 in
theorem cm_X8_makeRoom (l : Launch) (D : va_G) (G : Nat → ClassId) (N : Nat) (S : mw_M) (h0 : Nat) (x1 : Nat) (z : Int32 × mw_M) (hf : pf_X8_makeRoom G N S h0 x1 = some z) : Met l yX8_makeRoom wsX8_makeRoom rmX8_makeRoom (va_Pc [.ref h0, .ref x1] (mw_B D vwCl (mw_tys G) mw_aos S)) (mw_Qi D vwCl (mw_tys G) mw_aos (mw_A S) z) 0 0 (mw_A S) := by
  refine Met.ofW (cc := cX8_makeRoom) (maxL := 3) (ret := (some .boolean)) (by decide) rfl ?_
  intro p e s m args below meth c s₁ B hml hv
  obtain ⟨rfl, hB⟩ := hv
  have hw := mw_begin hB
  have hx := B.exec
  have hb := B.bytes
  have hr := B.returns
  have hts : ∀ w ∈ lw_good, w.before _ s = true := fun w h => atoms_spec (ws := wsX8_makeRoom) B.pre w (List.mem_cons_of_mem _ h)
  have hown : s.vm.findClass RX8 = some m.cls := findClass_of_methodNamed B.named
  have hlocks := B.notSynchronized
  have hC : mw_C p s m _ meth c cX8_makeRoom RX8 (some .boolean) lw_good 3 := ⟨hx, hb, hml, hown, hts, hr, hlocks⟩
  have hl := lv_entry ([.ref h0, .ref x1]) (n := 3) (Nat.le_of_ble_eq_true rfl)
  rw [lg_entry_eq]
  generalize (lg_sl ([.ref h0, .ref x1]) ++ List.replicate (3 - (lg_sl ([.ref h0, .ref x1])).length) Slot.unset).toArray = ls at hl ⊢
  have hl : lv_has ls 3 [(0, .ref h0), (1, .ref x1)] := hl
  unfold pf_X8_makeRoom at hf
  refine lv_aload_n hx hb dX8_makeRoom_0 rfl (lv_at hl 0 rfl) ?_
  obtain ⟨v1, e1, hf⟩ := mw_b hf
  refine mw_getr hx hb hts inX8 hown hw (ci := 8) rfl 11 (by decide) (hts _ tw_205) rfl e1 dX8_makeRoom_1 ?_
  obtain ⟨v2, S2, e2, hf⟩ := mw_bb hf
  obtain ⟨ho, e2⟩ := mw_v_s e2
  refine mw_calli (va_runV (As := []) (rest := []) ⟨hx, hb, hml, hown, hts⟩ (cm_X0_length l D G N S v1 (v2, S2) e2) (cwV 0 hts (mw_gV tw_343 tw_344 tw_345 tw_6 tw_346) rfl rfl rfl (by decide +kernel) ⟨Nat.le_of_ble_eq_true rfl, Nat.le_of_ble_eq_true rfl⟩) (mw_preV hw (ci := 0) rfl ho) rfl rfl hl.1 rfl (lv_room (Nat.le_of_ble_eq_true rfl)) dX8_makeRoom_4 ⟨(Nat.le_of_ble_eq_true rfl), (Nat.le_of_ble_eq_true rfl)⟩) hw (fun H locs hw => ?_)
  obtain ⟨v3, S3, e3, hf⟩ := mw_bb hf
  refine mw_calli (va_runS (As := [.int v2]) (rest := []) ⟨hx, hb, hml, hown, hts⟩ (cm_X0_variableLength l D G N S2 v2 (v3, S3) e3) ⟨callB_of 1 hts (mw_gI tw_327) rfl rfl rfl (hts _ tw_6) (hts _ tw_347) (by decide +kernel) ⟨Nat.le_of_ble_eq_true rfl, Nat.le_of_ble_eq_true rfl⟩, hts _ tw_326⟩ (mw_preS hw) rfl rfl hl.1 rfl (lv_room (Nat.le_of_ble_eq_true rfl)) dX8_makeRoom_7 ⟨(Nat.le_of_ble_eq_true rfl), (Nat.le_of_ble_eq_true rfl)⟩) hw (fun H locs hw => ?_)
  refine lv_aload_n hx hb dX8_makeRoom_10 rfl (lv_at hl 0 rfl) ?_
  obtain ⟨v4, e4, hf⟩ := mw_b hf
  refine mw_getr hx hb hts inX8 hown hw (ci := 8) rfl 11 (by decide) (hts _ tw_205) rfl e4 dX8_makeRoom_11 ?_
  obtain ⟨v5, S5, e5, hf⟩ := mw_bb hf
  obtain ⟨ho, e5⟩ := mw_v_s e5
  refine mw_calli (va_runV (As := []) (rest := [.int v3]) ⟨hx, hb, hml, hown, hts⟩ (cm_X0_length l D G N S3 v4 (v5, S5) e5) (cwV 0 hts (mw_gV tw_343 tw_344 tw_345 tw_6 tw_346) rfl rfl rfl (by decide +kernel) ⟨Nat.le_of_ble_eq_true rfl, Nat.le_of_ble_eq_true rfl⟩) (mw_preV hw (ci := 0) rfl ho) rfl rfl hl.1 rfl (lv_room (Nat.le_of_ble_eq_true rfl)) dX8_makeRoom_14 ⟨(Nat.le_of_ble_eq_true rfl), (Nat.le_of_ble_eq_true rfl)⟩) hw (fun H locs hw => ?_)
  refine lv_iadd hx hb dX8_makeRoom_17 ?_
  refine lv_istore_n hx hb dX8_makeRoom_18 rfl hl (by decide) rfl (fun ls hl => ?_)
  have hl : lv_has ls 3 [(2, .int (v3 + v5)), (0, .ref h0), (1, .ref x1)] := hl
  refine lv_iload_n hx hb dX8_makeRoom_19 rfl (lv_at hl 0 rfl) ?_
  refine lv_aload_n hx hb dX8_makeRoom_20 rfl (lv_at hl 1 rfl) ?_
  obtain ⟨v6, e6, hf⟩ := mw_b hf
  refine mw_geti hx hb hts inX8 hown hw (ci := 8) rfl 0 (by decide) (hts _ tw_194) rfl e6 dX8_makeRoom_21 ?_
  refine lv_icmp_le hx hb dX8_makeRoom_24 (tgt := 29) (by decide) (fun hc => ?_) (fun hc => ?_)
  · rw [if_pos hc] at hf
    refine lv_iload_n hx hb dX8_makeRoom_29 rfl (lv_at hl 0 rfl) ?_
    refine lv_aload_n hx hb dX8_makeRoom_30 rfl (lv_at hl 2 rfl) ?_
    obtain ⟨v7, S7, e7, hf⟩ := mw_bb hf
    obtain ⟨ho, e7⟩ := mw_v_s e7
    refine mw_calli (va_runV (As := []) (rest := [.int (v3 + v5)]) ⟨hx, hb, hml, hown, hts⟩ (cm_X0_room l D G N S5 x1 (v7, S7) e7) (cwV 0 hts (mw_gV tw_348 tw_349 tw_350 tw_6 tw_351) rfl rfl rfl (by decide +kernel) ⟨Nat.le_of_ble_eq_true rfl, Nat.le_of_ble_eq_true rfl⟩) (mw_preV hw (ci := 0) rfl ho) rfl rfl hl.1 rfl (lv_room (Nat.le_of_ble_eq_true rfl)) dX8_makeRoom_31 ⟨(Nat.le_of_ble_eq_true rfl), (Nat.le_of_ble_eq_true rfl)⟩) hw (fun H locs hw => ?_)
    refine lv_icmp_le hx hb dX8_makeRoom_34 (tgt := 48) (by decide) (fun hc => ?_) (fun hc => ?_)
    · rw [if_pos hc] at hf
      refine lv_iconst (v := 1) hx hb dX8_makeRoom_48 (by decide) ?_
      refine lv_goto hx hb dX8_makeRoom_49 (tgt := 53) (by decide) ?_
      exact mw_zret hx hb hr hlocks hw rfl hf dX8_makeRoom_53
    · rw [if_neg hc] at hf
      refine lv_aload_n hx hb dX8_makeRoom_37 rfl (lv_at hl 1 rfl) ?_
      obtain ⟨v8, e8, hf⟩ := mw_b hf
      refine mw_getr hx hb hts inX8 hown hw (ci := 8) rfl 9 (by decide) (hts _ tw_203) rfl e8 dX8_makeRoom_38 ?_
      refine lv_aload_n hx hb dX8_makeRoom_41 rfl (lv_at hl 2 rfl) ?_
      obtain ⟨v9, S9, e9, hf⟩ := mw_bb hf
      obtain ⟨ho, e9⟩ := mw_v_s e9
      refine mw_calli (va_runV (As := [.ref x1]) (rest := []) ⟨hx, hb, hml, hown, hts⟩ (cm_X4_takeOver l D G N S7 v8 x1 (v9, S9) e9) (cwV 1 hts (mw_gV tw_352 tw_353 tw_354 tw_8 tw_355) rfl rfl rfl (by decide +kernel) ⟨Nat.le_of_ble_eq_true rfl, Nat.le_of_ble_eq_true rfl⟩) (mw_preV hw (ci := 4) rfl ho) rfl rfl hl.1 rfl (lv_room (Nat.le_of_ble_eq_true rfl)) dX8_makeRoom_42 ⟨(Nat.le_of_ble_eq_true rfl), (Nat.le_of_ble_eq_true rfl)⟩) hw (fun H locs hw => ?_)
      refine lv_if_eq hx hb dX8_makeRoom_45 (tgt := 52) (by decide) (fun hc => ?_) (fun hc => ?_)
      · rw [if_pos hc] at hf
        refine lv_iconst (v := 0) hx hb dX8_makeRoom_52 (by decide) ?_
        exact mw_zret hx hb hr hlocks hw rfl hf dX8_makeRoom_53
      · rw [if_neg hc] at hf
        refine lv_iconst (v := 1) hx hb dX8_makeRoom_48 (by decide) ?_
        refine lv_goto hx hb dX8_makeRoom_49 (tgt := 53) (by decide) ?_
        exact mw_zret hx hb hr hlocks hw rfl hf dX8_makeRoom_53
  · rw [if_neg hc] at hf
    refine lv_iconst (v := 0) hx hb dX8_makeRoom_27 (by decide) ?_
    exact mw_zret hx hb hr hlocks hw rfl hf dX8_makeRoom_28
abbrev rmX3_lose : Room := { frames := 0, cells := 0, slots := 0, locals := 0 }
abbrev wsX3_lose : List Cond := Cond.code yX3_lose cX3_lose 1 none :: lw_good
set_option maxHeartbeats 4000000 in
set_option maxRecDepth 100000 in
theorem cm_X3_lose (l : Launch) (D : va_G) (G : Nat → ClassId) (N : Nat) (S : mw_M) (h0 : Nat) (z : mw_M) (hf : pf_X3_lose G N S h0 = some z) : Met l yX3_lose wsX3_lose rmX3_lose (va_Pc [.ref h0] (mw_B D vwCl (mw_tys G) mw_aos S)) (mw_Qv D vwCl (mw_tys G) mw_aos (mw_A S) z) 0 0 (mw_A S) := by
  refine Met.ofW (cc := cX3_lose) (maxL := 1) (ret := none) (by decide) rfl ?_
  intro p e s m args below meth c s₁ B hml hv
  obtain ⟨rfl, hB⟩ := hv
  have hw := mw_begin hB
  have hx := B.exec
  have hb := B.bytes
  have hr := B.returns
  have hts : ∀ w ∈ lw_good, w.before _ s = true := fun w h => atoms_spec (ws := wsX3_lose) B.pre w (List.mem_cons_of_mem _ h)
  have hown : s.vm.findClass RX3 = some m.cls := findClass_of_methodNamed B.named
  have hlocks := B.notSynchronized
  have hC : mw_C p s m _ meth c cX3_lose RX3 none lw_good 1 := ⟨hx, hb, hml, hown, hts, hr, hlocks⟩
  have hl := lv_entry ([.ref h0]) (n := 1) (Nat.le_of_ble_eq_true rfl)
  rw [lg_entry_eq]
  generalize (lg_sl ([.ref h0]) ++ List.replicate (1 - (lg_sl ([.ref h0])).length) Slot.unset).toArray = ls at hl ⊢
  have hl : lv_has ls 1 [(0, .ref h0)] := hl
  unfold pf_X3_lose at hf
  refine lv_aload_n hx hb dX3_lose_0 rfl (lv_at hl 0 rfl) ?_
  refine lv_dup hx hb dX3_lose_1 rfl ?_
  obtain ⟨v1, e1, hf⟩ := mw_b hf
  refine mw_geti hx hb hts inX3 hown hw (ci := 3) rfl 3 (by decide) (hts _ tw_86) rfl e1 dX3_lose_2 ?_
  refine lv_iconst (v := 1) hx hb dX3_lose_5 (by decide) ?_
  refine lv_iadd hx hb dX3_lose_6 ?_
  obtain ⟨S2, e2, hf⟩ := mw_b hf
  refine mw_put hx hb hts inX3 tyX3 tyX3_ok nX3 hown hw (ci := 3) rfl 3 (by decide) (hts _ tw_86) rfl rfl (ty := .int) (by decide +kernel) rfl rfl e2 dX3_lose_7 (fun H locs hw => ?_)
  refine lv_aload_n hx hb dX3_lose_10 rfl (lv_at hl 0 rfl) ?_
  refine lv_dup hx hb dX3_lose_11 rfl ?_
  obtain ⟨v3, e3, hf⟩ := mw_b hf
  refine mw_geti hx hb hts inX3 hown hw (ci := 3) rfl 4 (by decide) (hts _ tw_87) rfl e3 dX3_lose_12 ?_
  refine lv_iconst (v := 1) hx hb dX3_lose_15 (by decide) ?_
  refine lv_iadd hx hb dX3_lose_16 ?_
  obtain ⟨S4, e4, hf⟩ := mw_b hf
  refine mw_put hx hb hts inX3 tyX3 tyX3_ok nX3 hown hw (ci := 3) rfl 4 (by decide) (hts _ tw_87) rfl rfl (ty := .int) (by decide +kernel) rfl rfl e4 dX3_lose_17 (fun H locs hw => ?_)
  exact mw_vret hx hb hr hlocks hw hf dX3_lose_20
abbrev rmX2_open : Room := { frames := 0, cells := 0, slots := 0, locals := 0 }
abbrev wsX2_open : List Cond := Cond.code yX2_open cX2_open 1 (some (.object "EventRecorder$Chunk")) :: lw_good
set_option maxHeartbeats 4000000 in
set_option maxRecDepth 100000 in
theorem cm_X2_open (l : Launch) (D : va_G) (G : Nat → ClassId) (N : Nat) (S : mw_M) (h0 : Nat) (z : Nat × mw_M) (hf : pf_X2_open G N S h0 = some z) : Met l yX2_open wsX2_open rmX2_open (va_Pc [.ref h0] (mw_B D vwCl (mw_tys G) mw_aos S)) (mw_Qr D vwCl (mw_tys G) mw_aos (mw_A S) z) 0 0 (mw_A S) := by
  refine Met.ofW (cc := cX2_open) (maxL := 1) (ret := (some (.object "EventRecorder$Chunk"))) (by decide) rfl ?_
  intro p e s m args below meth c s₁ B hml hv
  obtain ⟨rfl, hB⟩ := hv
  have hw := mw_begin hB
  have hx := B.exec
  have hb := B.bytes
  have hr := B.returns
  have hts : ∀ w ∈ lw_good, w.before _ s = true := fun w h => atoms_spec (ws := wsX2_open) B.pre w (List.mem_cons_of_mem _ h)
  have hown : s.vm.findClass RX2 = some m.cls := findClass_of_methodNamed B.named
  have hlocks := B.notSynchronized
  have hC : mw_C p s m _ meth c cX2_open RX2 (some (.object "EventRecorder$Chunk")) lw_good 1 := ⟨hx, hb, hml, hown, hts, hr, hlocks⟩
  have hl := lv_entry ([.ref h0]) (n := 1) (Nat.le_of_ble_eq_true rfl)
  rw [lg_entry_eq]
  generalize (lg_sl ([.ref h0]) ++ List.replicate (1 - (lg_sl ([.ref h0])).length) Slot.unset).toArray = ls at hl ⊢
  have hl : lv_has ls 1 [(0, .ref h0)] := hl
  unfold pf_X2_open at hf
  refine lv_aload_n hx hb dX2_open_0 rfl (lv_at hl 0 rfl) ?_
  obtain ⟨v1, e1, hf⟩ := mw_b hf
  refine mw_getr hx hb hts inX2 hown hw (ci := 2) rfl 0 (by decide) (hts _ tw_182) rfl e1 dX2_open_1 ?_
  refine lv_aload_n hx hb dX2_open_4 rfl (lv_at hl 0 rfl) ?_
  obtain ⟨v2, e2, hf⟩ := mw_b hf
  refine mw_geti hx hb hts inX2 hown hw (ci := 2) rfl 1 (by decide) (hts _ tw_183) rfl e2 dX2_open_5 ?_
  obtain ⟨v3, e3, hf⟩ := mw_b hf
  refine mw_aald hx hb hw 7 rfl e3 dX2_open_8 ?_
  exact mw_aret hx hb hr hlocks hw hf dX2_open_9
abbrev rmX1_countEvent : Room := { frames := 0, cells := 0, slots := 0, locals := 0 }
abbrev wsX1_countEvent : List Cond := Cond.code yX1_countEvent cX1_countEvent 1 none :: lw_good
set_option maxHeartbeats 4000000 in
set_option maxRecDepth 100000 in
theorem cm_X1_countEvent (l : Launch) (D : va_G) (G : Nat → ClassId) (N : Nat) (S : mw_M) (h0 : Nat) (z : mw_M) (hf : pf_X1_countEvent G N S h0 = some z) : Met l yX1_countEvent wsX1_countEvent rmX1_countEvent (va_Pc [.ref h0] (mw_B D vwCl (mw_tys G) mw_aos S)) (mw_Qv D vwCl (mw_tys G) mw_aos (mw_A S) z) 0 0 (mw_A S) := by
  refine Met.ofW (cc := cX1_countEvent) (maxL := 1) (ret := none) (by decide) rfl ?_
  intro p e s m args below meth c s₁ B hml hv
  obtain ⟨rfl, hB⟩ := hv
  have hw := mw_begin hB
  have hx := B.exec
  have hb := B.bytes
  have hr := B.returns
  have hts : ∀ w ∈ lw_good, w.before _ s = true := fun w h => atoms_spec (ws := wsX1_countEvent) B.pre w (List.mem_cons_of_mem _ h)
  have hown : s.vm.findClass RX1 = some m.cls := findClass_of_methodNamed B.named
  have hlocks := B.notSynchronized
  have hC : mw_C p s m _ meth c cX1_countEvent RX1 none lw_good 1 := ⟨hx, hb, hml, hown, hts, hr, hlocks⟩
  have hl := lv_entry ([.ref h0]) (n := 1) (Nat.le_of_ble_eq_true rfl)
  rw [lg_entry_eq]
  generalize (lg_sl ([.ref h0]) ++ List.replicate (1 - (lg_sl ([.ref h0])).length) Slot.unset).toArray = ls at hl ⊢
  have hl : lv_has ls 1 [(0, .ref h0)] := hl
  unfold pf_X1_countEvent at hf
  refine lv_aload_n hx hb dX1_countEvent_0 rfl (lv_at hl 0 rfl) ?_
  refine lv_dup hx hb dX1_countEvent_1 rfl ?_
  obtain ⟨v1, e1, hf⟩ := mw_b hf
  refine mw_geti hx hb hts inX1 hown hw (ci := 1) rfl 4 (by decide) (hts _ tw_162) rfl e1 dX1_countEvent_2 ?_
  refine lv_iconst (v := 1) hx hb dX1_countEvent_5 (by decide) ?_
  refine lv_iadd hx hb dX1_countEvent_6 ?_
  obtain ⟨S2, e2, hf⟩ := mw_b hf
  refine mw_put hx hb hts inX1 tyX1 tyX1_ok nX1 hown hw (ci := 1) rfl 4 (by decide) (hts _ tw_162) rfl rfl (ty := .int) (by decide +kernel) rfl rfl e2 dX1_countEvent_7 (fun H locs hw => ?_)
  exact mw_vret hx hb hr hlocks hw hf dX1_countEvent_10
abbrev rmX6_keep : Room := { frames := 2, cells := 0, slots := 0, locals := 40 }
abbrev wsX6_keep : List Cond := Cond.code yX6_keep cX6_keep 4 none :: lw_good
set_option maxHeartbeats 4000000 in
set_option maxRecDepth 100000 in
theorem bX6_keep_33 {p : Program} {l : Launch} {e : Env} {s : State} {m : MethodId} {args : Array Value} {below : List Frame} {meth : Method} {c : Code} (hC : mw_C p s m args meth c cX6_keep RX6 none lw_good 4) (D : va_G) (G : Nat → ClassId) (N : Nat) {A : Nat → Prop} {z : mw_M} : ∀ (n : Nat) (y0 : Nat) (y2 : Nat) (y3 : Int32) (S : mw_M) (H : Heap) (locs : List Loc) (ls : Array Slot), pf_X6_keep_33 G N n y0 y2 y3 S = some z → lv_has ls 4 [(0, .ref y0), (2, .ref y2), (3, .int y3)] → mw_W D vwCl (mw_tys G) mw_aos A s S H locs → W p l e (headSpec wsX6_keep rmX6_keep).room s m args below meth c H locs 0 0 (MQ below (mw_Qv D vwCl (mw_tys G) mw_aos A z) args s 0 0 A) (F0 m 33 ls []) := by
  obtain ⟨hx, hb, hml, hown, hts, hr, hlocks⟩ := hC
  intro n
  induction n with
  | zero => intro y0 y2 y3 S H locs ls hf; rw [pf_X6_keep_33] at hf; cases hf
  | succ n ih =>
    intro y0 y2 y3 S H locs ls hf hl hw
    rw [pf_X6_keep_33] at hf
    refine lv_iload_n hx hb dX6_keep_33 rfl (lv_at hl 2 rfl) ?_
    refine lv_aload_n hx hb dX6_keep_34 rfl (lv_at hl 0 rfl) ?_
    obtain ⟨v1, e1, hf⟩ := mw_b hf
    refine mw_getr hx hb hts inX6 hown hw (ci := 6) rfl 1 (by decide) (hts _ tw_52) rfl e1 dX6_keep_35 ?_
    refine lv_aload_n hx hb dX6_keep_38 rfl (lv_at hl 0 rfl) ?_
    obtain ⟨v2, e2, hf⟩ := mw_b hf
    refine mw_geti hx hb hts inX6 hown hw (ci := 6) rfl 2 (by decide) (hts _ tw_53) rfl e2 dX6_keep_39 ?_
    obtain ⟨v3, e3, hf⟩ := mw_b hf
    refine mw_iald hx hb hw 0 rfl e3 dX6_keep_42 ?_
    refine lv_icmp_ge hx hb dX6_keep_43 (tgt := 71) (by decide) (fun hc => ?_) (fun hc => ?_)
    · rw [if_pos hc] at hf
      refine lv_aload_n hx hb dX6_keep_71 rfl (lv_at hl 0 rfl) ?_
      refine lv_dup hx hb dX6_keep_72 rfl ?_
      obtain ⟨v4, e4, hf⟩ := mw_b hf
      refine mw_geti hx hb hts inX6 hown hw (ci := 6) rfl 2 (by decide) (hts _ tw_53) rfl e4 dX6_keep_73 ?_
      refine lv_iconst (v := 1) hx hb dX6_keep_76 (by decide) ?_
      refine lv_iadd hx hb dX6_keep_77 ?_
      obtain ⟨S5, e5, hf⟩ := mw_b hf
      refine mw_put hx hb hts inX6 tyX6 tyX6_ok nX6 hown hw (ci := 6) rfl 2 (by decide) (hts _ tw_53) rfl rfl (ty := .int) (by decide +kernel) rfl rfl e5 dX6_keep_78 (fun H locs hw => ?_)
      exact mw_vret hx hb hr hlocks hw hf dX6_keep_81
    · rw [if_neg hc] at hf
      refine lv_aload_n hx hb dX6_keep_46 rfl (lv_at hl 0 rfl) ?_
      obtain ⟨v6, e6, hf⟩ := mw_b hf
      refine mw_getr hx hb hts inX6 hown hw (ci := 6) rfl 0 (by decide) (hts _ tw_51) rfl e6 dX6_keep_47 ?_
      refine lv_aload_n hx hb dX6_keep_50 rfl (lv_at hl 0 rfl) ?_
      obtain ⟨v7, e7, hf⟩ := mw_b hf
      refine mw_geti hx hb hts inX6 hown hw (ci := 6) rfl 2 (by decide) (hts _ tw_53) rfl e7 dX6_keep_51 ?_
      refine lv_bipush (v := 8) hx hb dX6_keep_54 (by decide) ?_
      refine lv_imul hx hb dX6_keep_56 ?_
      refine lv_iload_n hx hb dX6_keep_57 rfl (lv_at hl 2 rfl) ?_
      refine lv_iadd hx hb dX6_keep_58 ?_
      refine lv_aload_n hx hb dX6_keep_59 rfl (lv_at hl 1 rfl) ?_
      refine lv_iload_n hx hb dX6_keep_60 rfl (lv_at hl 2 rfl) ?_
      obtain ⟨v8, S8, e8, hf⟩ := mw_bb hf
      obtain ⟨ho, e8⟩ := mw_v_s e8
      refine mw_calli (va_runV (As := [.int y3]) (rest := [.int ((v7 * 8) + y3), .ref v6]) ⟨hx, hb, hml, hown, hts⟩ (cm_X7_at l D G N S y2 y3 (v8, S8) e8) (cwV 1 hts (mw_gV tw_312 tw_313 tw_314 tw_3 tw_315) rfl rfl rfl (by decide +kernel) ⟨Nat.le_of_ble_eq_true rfl, Nat.le_of_ble_eq_true rfl⟩) (mw_preV hw (ci := 7) rfl ho) rfl rfl hl.1 rfl (lv_room (Nat.le_of_ble_eq_true rfl)) dX6_keep_61 ⟨(Nat.le_of_ble_eq_true rfl), (Nat.le_of_ble_eq_true rfl)⟩) hw (fun H locs hw => ?_)
      obtain ⟨S9, e9, hf⟩ := mw_b hf
      refine mw_cast hx hb hw 2 rfl e9 dX6_keep_64 (fun H locs hw => ?_)
      refine lv_iinc (k := 2) (v := (y3 + 1)) hx hb dX6_keep_65 hl rfl (congrArg (fun q => y3 + q) (show Int32.ofInt 1 = 1 by decide)) (by decide) rfl (fun ls hl => ?_)
      have hl : lv_has ls 4 [(3, .int (y3 + 1)), (0, .ref y0), (2, .ref y2)] := hl
      refine lv_goto hx hb dX6_keep_68 (tgt := 33) (by decide) ?_
      exact ih _ _ _ _ _ _ _ hf (lv_sub hl [1, 2, 0] rfl) hw
set_option maxHeartbeats 4000000 in
set_option maxRecDepth 100000 in
theorem cm_X6_keep (l : Launch) (D : va_G) (G : Nat → ClassId) (N : Nat) (S : mw_M) (h0 : Nat) (x1 : Int32) (x2 : Nat) (z : mw_M) (hf : pf_X6_keep G N S h0 x1 x2 = some z) : Met l yX6_keep wsX6_keep rmX6_keep (va_Pc [.ref h0, .int x1, .ref x2] (mw_B D vwCl (mw_tys G) mw_aos S)) (mw_Qv D vwCl (mw_tys G) mw_aos (mw_A S) z) 0 0 (mw_A S) := by
  refine Met.ofW (cc := cX6_keep) (maxL := 4) (ret := none) (by decide) rfl ?_
  intro p e s m args below meth c s₁ B hml hv
  obtain ⟨rfl, hB⟩ := hv
  have hw := mw_begin hB
  have hx := B.exec
  have hb := B.bytes
  have hr := B.returns
  have hts : ∀ w ∈ lw_good, w.before _ s = true := fun w h => atoms_spec (ws := wsX6_keep) B.pre w (List.mem_cons_of_mem _ h)
  have hown : s.vm.findClass RX6 = some m.cls := findClass_of_methodNamed B.named
  have hlocks := B.notSynchronized
  have hC : mw_C p s m _ meth c cX6_keep RX6 none lw_good 4 := ⟨hx, hb, hml, hown, hts, hr, hlocks⟩
  have hl := lv_entry ([.ref h0, .int x1, .ref x2]) (n := 4) (Nat.le_of_ble_eq_true rfl)
  rw [lg_entry_eq]
  generalize (lg_sl ([.ref h0, .int x1, .ref x2]) ++ List.replicate (4 - (lg_sl ([.ref h0, .int x1, .ref x2])).length) Slot.unset).toArray = ls at hl ⊢
  have hl : lv_has ls 4 [(0, .ref h0), (1, .int x1), (2, .ref x2)] := hl
  unfold pf_X6_keep at hf
  refine lv_iload_n hx hb dX6_keep_0 rfl (lv_at hl 1 rfl) ?_
  refine lv_aload_n hx hb dX6_keep_1 rfl (lv_at hl 0 rfl) ?_
  obtain ⟨v1, e1, hf⟩ := mw_b hf
  refine mw_geti hx hb hts inX6 hown hw (ci := 6) rfl 2 (by decide) (hts _ tw_53) rfl e1 dX6_keep_2 ?_
  refine lv_icmp_ne hx hb dX6_keep_5 (tgt := 17) (by decide) (fun hc => ?_) (fun hc => ?_)
  · rw [if_pos hc] at hf
    exact mw_vret hx hb hr hlocks hw hf dX6_keep_17
  · rw [if_neg (fun q => q hc)] at hf
    refine lv_aload_n hx hb dX6_keep_8 rfl (lv_at hl 0 rfl) ?_
    obtain ⟨v2, e2, hf⟩ := mw_b hf
    refine mw_geti hx hb hts inX6 hown hw (ci := 6) rfl 2 (by decide) (hts _ tw_53) rfl e2 dX6_keep_9 ?_
    refine lv_bipush (v := 24) hx hb dX6_keep_12 (by decide) ?_
    refine lv_icmp_lt hx hb dX6_keep_14 (tgt := 18) (by decide) (fun hc => ?_) (fun hc => ?_)
    · rw [if_pos hc] at hf
      refine lv_aload_n hx hb dX6_keep_18 rfl (lv_at hl 0 rfl) ?_
      obtain ⟨v3, e3, hf⟩ := mw_b hf
      refine mw_getr hx hb hts inX6 hown hw (ci := 6) rfl 1 (by decide) (hts _ tw_52) rfl e3 dX6_keep_19 ?_
      refine lv_aload_n hx hb dX6_keep_22 rfl (lv_at hl 0 rfl) ?_
      obtain ⟨v4, e4, hf⟩ := mw_b hf
      refine mw_geti hx hb hts inX6 hown hw (ci := 6) rfl 2 (by decide) (hts _ tw_53) rfl e4 dX6_keep_23 ?_
      refine lv_aload_n hx hb dX6_keep_26 rfl (lv_at hl 2 rfl) ?_
      obtain ⟨v5, S5, e5, hf⟩ := mw_bb hf
      refine mw_calli (va_runS (As := [.ref x2]) (rest := [.int v4, .ref v3]) ⟨hx, hb, hml, hown, hts⟩ (cm_X6_usedLength l D G N S x2 (v5, S5) e5) (cwS 1 hts (mw_gS tw_304 tw_305 tw_4 tw_306) rfl rfl rfl (by decide +kernel) ⟨Nat.le_of_ble_eq_true rfl, Nat.le_of_ble_eq_true rfl⟩) (mw_preS hw) rfl rfl hl.1 rfl (lv_room (Nat.le_of_ble_eq_true rfl)) dX6_keep_27 ⟨(Nat.le_of_ble_eq_true rfl), (Nat.le_of_ble_eq_true rfl)⟩) hw (fun H locs hw => ?_)
      obtain ⟨S6, e6, hf⟩ := mw_b hf
      refine mw_iast hx hb hw 0 rfl e6 dX6_keep_30 (fun H locs hw => ?_)
      refine lv_iconst (v := 0) hx hb dX6_keep_31 (by decide) ?_
      refine lv_istore_n hx hb dX6_keep_32 rfl hl (by decide) rfl (fun ls hl => ?_)
      have hl : lv_has ls 4 [(3, .int 0), (0, .ref h0), (1, .int x1), (2, .ref x2)] := hl
      exact bX6_keep_33 ⟨hx, hb, hml, hown, hts, hr, hlocks⟩ D G N N _ _ _ _ _ _ _ hf (lv_sub hl [1, 3, 0] rfl) hw
    · rw [if_neg hc] at hf
      exact mw_vret hx hb hr hlocks hw hf dX6_keep_17
abbrev rmX1_use : Room := { frames := 0, cells := 0, slots := 0, locals := 0 }
abbrev wsX1_use : List Cond := Cond.code yX1_use cX1_use 2 none :: lw_good
set_option maxHeartbeats 4000000 in
set_option maxRecDepth 100000 in
theorem cm_X1_use (l : Launch) (D : va_G) (G : Nat → ClassId) (N : Nat) (S : mw_M) (h0 : Nat) (x1 : Int32) (z : mw_M) (hf : pf_X1_use G N S h0 x1 = some z) : Met l yX1_use wsX1_use rmX1_use (va_Pc [.ref h0, .int x1] (mw_B D vwCl (mw_tys G) mw_aos S)) (mw_Qv D vwCl (mw_tys G) mw_aos (mw_A S) z) 0 0 (mw_A S) := by
  refine Met.ofW (cc := cX1_use) (maxL := 2) (ret := none) (by decide) rfl ?_
  intro p e s m args below meth c s₁ B hml hv
  obtain ⟨rfl, hB⟩ := hv
  have hw := mw_begin hB
  have hx := B.exec
  have hb := B.bytes
  have hr := B.returns
  have hts : ∀ w ∈ lw_good, w.before _ s = true := fun w h => atoms_spec (ws := wsX1_use) B.pre w (List.mem_cons_of_mem _ h)
  have hown : s.vm.findClass RX1 = some m.cls := findClass_of_methodNamed B.named
  have hlocks := B.notSynchronized
  have hC : mw_C p s m _ meth c cX1_use RX1 none lw_good 2 := ⟨hx, hb, hml, hown, hts, hr, hlocks⟩
  have hl := lv_entry ([.ref h0, .int x1]) (n := 2) (Nat.le_of_ble_eq_true rfl)
  rw [lg_entry_eq]
  generalize (lg_sl ([.ref h0, .int x1]) ++ List.replicate (2 - (lg_sl ([.ref h0, .int x1])).length) Slot.unset).toArray = ls at hl ⊢
  have hl : lv_has ls 2 [(0, .ref h0), (1, .int x1)] := hl
  unfold pf_X1_use at hf
  refine lv_iload_n hx hb dX1_use_0 rfl (lv_at hl 1 rfl) ?_
  refine lv_if_lt hx hb dX1_use_1 (tgt := 17) (by decide) (fun hc => ?_) (fun hc => ?_)
  · rw [if_pos hc] at hf
    exact mw_vret hx hb hr hlocks hw hf dX1_use_17
  · rw [if_neg hc] at hf
    refine lv_iload_n hx hb dX1_use_4 rfl (lv_at hl 1 rfl) ?_
    refine lv_bipush (v := 24) hx hb dX1_use_5 (by decide) ?_
    refine lv_icmp_ge hx hb dX1_use_7 (tgt := 17) (by decide) (fun hc => ?_) (fun hc => ?_)
    · rw [if_pos hc] at hf
      exact mw_vret hx hb hr hlocks hw hf dX1_use_17
    · rw [if_neg hc] at hf
      refine lv_aload_n hx hb dX1_use_10 rfl (lv_at hl 0 rfl) ?_
      obtain ⟨v1, e1, hf⟩ := mw_b hf
      refine mw_getr hx hb hts inX1 hown hw (ci := 1) rfl 1 (by decide) (hts _ tw_159) rfl e1 dX1_use_11 ?_
      refine lv_iload_n hx hb dX1_use_14 rfl (lv_at hl 1 rfl) ?_
      refine lv_iconst (v := 1) hx hb dX1_use_15 (by decide) ?_
      obtain ⟨S2, e2, hf⟩ := mw_b hf
      refine mw_zast hx hb hw 3 rfl e2 dX1_use_16 (fun H locs hw => ?_)
      exact mw_vret hx hb hr hlocks hw hf dX1_use_17
abbrev rmX8_endEvent : Room := { frames := 5, cells := 0, slots := 0, locals := 107 }
abbrev wsX8_endEvent : List Cond := Cond.code yX8_endEvent cX8_endEvent 9 (some .int) :: lw_good
set_option maxHeartbeats 4000000 in
set_option maxRecDepth 100000 in
theorem bX8_endEvent_95 {p : Program} {l : Launch} {e : Env} {s : State} {m : MethodId} {args : Array Value} {below : List Frame} {meth : Method} {c : Code} (hC : mw_C p s m args meth c cX8_endEvent RX8 (some .int) lw_good 9) (D : va_G) (G : Nat → ClassId) (N : Nat) {A : Nat → Prop} {z : Int32 × mw_M} : ∀ (y1 : Nat) (S : mw_M) (H : Heap) (locs : List Loc) (ls : Array Slot), pf_X8_endEvent_95 G N y1 S = some z → lv_has ls 9 [(1, .ref y1)] → mw_W D vwCl (mw_tys G) mw_aos A s S H locs → W p l e (headSpec wsX8_endEvent rmX8_endEvent).room s m args below meth c H locs 0 0 (MQ below (mw_Qi D vwCl (mw_tys G) mw_aos A z) args s 0 0 A) (F0 m 95 ls []) := by
  obtain ⟨hx, hb, hml, hown, hts, hr, hlocks⟩ := hC
  intro y1 S H locs ls hf hl hw
  unfold pf_X8_endEvent_95 at hf
  refine lv_aload_n hx hb dX8_endEvent_95 rfl (lv_at hl 0 rfl) ?_
  obtain ⟨S1, e1, hf⟩ := mw_b hf
  obtain ⟨ho, e1⟩ := mw_v_s e1
  refine mw_callv (va_runV (As := []) (rest := []) ⟨hx, hb, hml, hown, hts⟩ (cm_X3_lose l D G N S y1 S1 e1) (cwV 0 hts (mw_gV tw_365 tw_366 tw_367 tw_5 tw_368) rfl rfl rfl (by decide +kernel) ⟨Nat.le_of_ble_eq_true rfl, Nat.le_of_ble_eq_true rfl⟩) (mw_preV hw (ci := 3) rfl ho) rfl rfl hl.1 rfl (lv_room (Nat.le_of_ble_eq_true rfl)) dX8_endEvent_96 ⟨(Nat.le_of_ble_eq_true rfl), (Nat.le_of_ble_eq_true rfl)⟩) hw (fun H locs hw => ?_)
  refine lv_iconst (v := 4) hx hb dX8_endEvent_99 (by decide) ?_
  exact mw_iret hx hb hr hlocks hw hf dX8_endEvent_100
set_option maxHeartbeats 4000000 in
set_option maxRecDepth 100000 in
theorem bX8_endEvent_61 {p : Program} {l : Launch} {e : Env} {s : State} {m : MethodId} {args : Array Value} {below : List Frame} {meth : Method} {c : Code} (hC : mw_C p s m args meth c cX8_endEvent RX8 (some .int) lw_good 9) (D : va_G) (G : Nat → ClassId) (N : Nat) {A : Nat → Prop} {z : Int32 × mw_M} : ∀ (y0 : Nat) (y1 : Nat) (y2 : Int32) (y3 : Int32) (y4 : Int32) (y5 : Int32) (y6 : Int32) (w0 : Int32) (S : mw_M) (H : Heap) (locs : List Loc) (ls : Array Slot), pf_X8_endEvent_61 G N y0 y1 y2 y3 y4 y5 y6 w0 S = some z → lv_has ls 9 [(0, .ref y0), (1, .ref y1), (2, .int y2), (3, .int y3), (4, .int y4), (5, .int y5), (6, .int y6)] → mw_W D vwCl (mw_tys G) mw_aos A s S H locs → W p l e (headSpec wsX8_endEvent rmX8_endEvent).room s m args below meth c H locs 0 0 (MQ below (mw_Qi D vwCl (mw_tys G) mw_aos A z) args s 0 0 A) (F0 m 61 ls [.int w0]) := by
  obtain ⟨hx, hb, hml, hown, hts, hr, hlocks⟩ := hC
  intro y0 y1 y2 y3 y4 y5 y6 w0 S H locs ls hf hl hw
  unfold pf_X8_endEvent_61 at hf
  refine lv_istore hx hb dX8_endEvent_61 hl (by decide) rfl (fun ls hl => ?_)
  have hl : lv_has ls 9 [(8, .int w0), (0, .ref y0), (1, .ref y1), (2, .int y2), (3, .int y3), (4, .int y4), (5, .int y5), (6, .int y6)] := hl
  refine lv_aload_n hx hb dX8_endEvent_63 rfl (lv_at hl 1 rfl) ?_
  refine lv_iload_n hx hb dX8_endEvent_64 rfl (lv_at hl 3 rfl) ?_
  refine lv_iload hx hb dX8_endEvent_65 (lv_at hl 7 rfl) ?_
  refine lv_iload hx hb dX8_endEvent_67 (lv_at hl 0 rfl) ?_
  refine lv_iload_n hx hb dX8_endEvent_69 rfl (lv_at hl 4 rfl) ?_
  refine lv_iload hx hb dX8_endEvent_70 (lv_at hl 5 rfl) ?_
  refine lv_iload hx hb dX8_endEvent_72 (lv_at hl 6 rfl) ?_
  obtain ⟨S1, e1, hf⟩ := mw_b hf
  obtain ⟨ho, e1⟩ := mw_v_s e1
  refine mw_callv (va_runV (As := [.int y2, .int y6, .int w0, .int y3, .int y4, .int y5]) (rest := []) ⟨hx, hb, hml, hown, hts⟩ (cm_X8_compose l D G N S y0 y2 y6 w0 y3 y4 y5 S1 e1) (cwV 6 hts (mw_gV tw_316 tw_318 tp_4 tw_1 tw_319) rfl rfl rfl (by decide +kernel) ⟨Nat.le_of_ble_eq_true rfl, Nat.le_of_ble_eq_true rfl⟩) (mw_preV hw (ci := 8) rfl ho) rfl rfl hl.1 rfl (lv_room (Nat.le_of_ble_eq_true rfl)) dX8_endEvent_74 ⟨(Nat.le_of_ble_eq_true rfl), (Nat.le_of_ble_eq_true rfl)⟩) hw (fun H locs hw => ?_)
  refine lv_iload hx hb dX8_endEvent_77 (lv_at hl 0 rfl) ?_
  refine lv_bipush (v := 24) hx hb dX8_endEvent_79 (by decide) ?_
  refine lv_icmp_ge hx hb dX8_endEvent_81 (tgt := 95) (by decide) (fun hc => ?_) (fun hc => ?_)
  · rw [if_pos hc] at hf
    exact bX8_endEvent_95 ⟨hx, hb, hml, hown, hts, hr, hlocks⟩ D G N _ _ _ _ _ hf (lv_sub hl [2] rfl) hw
  · rw [if_neg hc] at hf
    refine lv_aload_n hx hb dX8_endEvent_84 rfl (lv_at hl 1 rfl) ?_
    refine lv_aload_n hx hb dX8_endEvent_85 rfl (lv_at hl 2 rfl) ?_
    obtain ⟨v2, S2, e2, hf⟩ := mw_bb hf
    obtain ⟨ho, e2⟩ := mw_v_s e2
    refine mw_callr (va_runV (As := []) (rest := [.ref y0]) ⟨hx, hb, hml, hown, hts⟩ (cm_X3_buffer l D G N S1 y1 (v2, S2) e2) (cwV 0 hts (mw_gV tw_335 tw_336 tw_337 tw_5 tw_338) rfl rfl rfl (by decide +kernel) ⟨Nat.le_of_ble_eq_true rfl, Nat.le_of_ble_eq_true rfl⟩) (mw_preV hw (ci := 3) rfl ho) rfl rfl hl.1 rfl (lv_room (Nat.le_of_ble_eq_true rfl)) dX8_endEvent_86 ⟨(Nat.le_of_ble_eq_true rfl), (Nat.le_of_ble_eq_true rfl)⟩) hw (fun H locs hw => ?_)
    obtain ⟨v3, S3, e3, hf⟩ := mw_bb hf
    obtain ⟨ho, e3⟩ := mw_v_s e3
    refine mw_calli (va_runV (As := [.ref v2]) (rest := []) ⟨hx, hb, hml, hown, hts⟩ (cm_X8_makeRoom l D G N S2 y0 v2 (v3, S3) e3) (cwV 1 hts (mw_gV tw_339 tw_341 tp_5 tw_1 tw_342) rfl rfl rfl (by decide +kernel) ⟨Nat.le_of_ble_eq_true rfl, Nat.le_of_ble_eq_true rfl⟩) (mw_preV hw (ci := 8) rfl ho) rfl rfl hl.1 rfl (lv_room (Nat.le_of_ble_eq_true rfl)) dX8_endEvent_89 ⟨(Nat.le_of_ble_eq_true rfl), (Nat.le_of_ble_eq_true rfl)⟩) hw (fun H locs hw => ?_)
    refine lv_if_ne hx hb dX8_endEvent_92 (tgt := 101) (by decide) (fun hc => ?_) (fun hc => ?_)
    · rw [if_pos hc] at hf
      refine lv_aload_n hx hb dX8_endEvent_101 rfl (lv_at hl 2 rfl) ?_
      obtain ⟨v4, S4, e4, hf⟩ := mw_bb hf
      obtain ⟨ho, e4⟩ := mw_v_s e4
      refine mw_callr (va_runV (As := []) (rest := []) ⟨hx, hb, hml, hown, hts⟩ (cm_X3_buffer l D G N S3 y1 (v4, S4) e4) (cwV 0 hts (mw_gV tw_335 tw_336 tw_337 tw_5 tw_338) rfl rfl rfl (by decide +kernel) ⟨Nat.le_of_ble_eq_true rfl, Nat.le_of_ble_eq_true rfl⟩) (mw_preV hw (ci := 3) rfl ho) rfl rfl hl.1 rfl (lv_room (Nat.le_of_ble_eq_true rfl)) dX8_endEvent_102 ⟨(Nat.le_of_ble_eq_true rfl), (Nat.le_of_ble_eq_true rfl)⟩) hw (fun H locs hw => ?_)
      refine lv_aload_n hx hb dX8_endEvent_105 rfl (lv_at hl 1 rfl) ?_
      obtain ⟨v5, e5, hf⟩ := mw_b hf
      refine mw_getr hx hb hts inX8 hown hw (ci := 8) rfl 11 (by decide) (hts _ tw_205) rfl e5 dX8_endEvent_106 ?_
      obtain ⟨v6, S6, e6, hf⟩ := mw_bb hf
      obtain ⟨ho, e6⟩ := mw_v_s e6
      refine mw_calli (va_runV (As := []) (rest := [.ref v4]) ⟨hx, hb, hml, hown, hts⟩ (cm_X0_length l D G N S4 v5 (v6, S6) e6) (cwV 0 hts (mw_gV tw_343 tw_344 tw_345 tw_6 tw_346) rfl rfl rfl (by decide +kernel) ⟨Nat.le_of_ble_eq_true rfl, Nat.le_of_ble_eq_true rfl⟩) (mw_preV hw (ci := 0) rfl ho) rfl rfl hl.1 rfl (lv_room (Nat.le_of_ble_eq_true rfl)) dX8_endEvent_109 ⟨(Nat.le_of_ble_eq_true rfl), (Nat.le_of_ble_eq_true rfl)⟩) hw (fun H locs hw => ?_)
      obtain ⟨S7, e7, hf⟩ := mw_b hf
      obtain ⟨ho, e7⟩ := mw_v_s e7
      refine mw_callv (va_runV (As := [.int v6]) (rest := []) ⟨hx, hb, hml, hown, hts⟩ (cm_X0_addVariable l D G N S6 v4 v6 S7 e7) (cwV 1 hts (mw_gV tw_321 tw_322 tw_323 tw_6 tw_324) rfl rfl rfl (by decide +kernel) ⟨Nat.le_of_ble_eq_true rfl, Nat.le_of_ble_eq_true rfl⟩) (mw_preV hw (ci := 0) rfl ho) rfl rfl hl.1 rfl (lv_room (Nat.le_of_ble_eq_true rfl)) dX8_endEvent_112 ⟨(Nat.le_of_ble_eq_true rfl), (Nat.le_of_ble_eq_true rfl)⟩) hw (fun H locs hw => ?_)
      refine lv_aload_n hx hb dX8_endEvent_115 rfl (lv_at hl 2 rfl) ?_
      obtain ⟨v8, S8, e8, hf⟩ := mw_bb hf
      obtain ⟨ho, e8⟩ := mw_v_s e8
      refine mw_callr (va_runV (As := []) (rest := []) ⟨hx, hb, hml, hown, hts⟩ (cm_X3_buffer l D G N S7 y1 (v8, S8) e8) (cwV 0 hts (mw_gV tw_335 tw_336 tw_337 tw_5 tw_338) rfl rfl rfl (by decide +kernel) ⟨Nat.le_of_ble_eq_true rfl, Nat.le_of_ble_eq_true rfl⟩) (mw_preV hw (ci := 3) rfl ho) rfl rfl hl.1 rfl (lv_room (Nat.le_of_ble_eq_true rfl)) dX8_endEvent_116 ⟨(Nat.le_of_ble_eq_true rfl), (Nat.le_of_ble_eq_true rfl)⟩) hw (fun H locs hw => ?_)
      refine lv_aload_n hx hb dX8_endEvent_119 rfl (lv_at hl 1 rfl) ?_
      obtain ⟨v9, e9, hf⟩ := mw_b hf
      refine mw_getr hx hb hts inX8 hown hw (ci := 8) rfl 11 (by decide) (hts _ tw_205) rfl e9 dX8_endEvent_120 ?_
      obtain ⟨S10, e10, hf⟩ := mw_b hf
      obtain ⟨ho, e10⟩ := mw_v_s e10
      refine mw_callv (va_runV (As := [.ref v9]) (rest := []) ⟨hx, hb, hml, hown, hts⟩ (cm_X0_addRow l D G N S8 v8 v9 S10 e10) (cwV 1 hts (mw_gV tw_369 tw_361 tw_362 tw_6 tw_363) rfl rfl rfl (by decide +kernel) ⟨Nat.le_of_ble_eq_true rfl, Nat.le_of_ble_eq_true rfl⟩) (mw_preV hw (ci := 0) rfl ho) rfl rfl hl.1 rfl (lv_room (Nat.le_of_ble_eq_true rfl)) dX8_endEvent_123 ⟨(Nat.le_of_ble_eq_true rfl), (Nat.le_of_ble_eq_true rfl)⟩) hw (fun H locs hw => ?_)
      refine lv_aload_n hx hb dX8_endEvent_126 rfl (lv_at hl 1 rfl) ?_
      obtain ⟨v11, e11, hf⟩ := mw_b hf
      refine mw_getr hx hb hts inX8 hown hw (ci := 8) rfl 10 (by decide) (hts _ tw_204) rfl e11 dX8_endEvent_127 ?_
      obtain ⟨v12, S12, e12, hf⟩ := mw_bb hf
      obtain ⟨ho, e12⟩ := mw_v_s e12
      refine mw_callr (va_runV (As := []) (rest := []) ⟨hx, hb, hml, hown, hts⟩ (cm_X2_open l D G N S10 v11 (v12, S12) e12) (cwV 0 hts (mw_gV tw_370 tw_371 tw_372 tw_9 tw_373) rfl rfl rfl (by decide +kernel) ⟨Nat.le_of_ble_eq_true rfl, Nat.le_of_ble_eq_true rfl⟩) (mw_preV hw (ci := 2) rfl ho) rfl rfl hl.1 rfl (lv_room (Nat.le_of_ble_eq_true rfl)) dX8_endEvent_130 ⟨(Nat.le_of_ble_eq_true rfl), (Nat.le_of_ble_eq_true rfl)⟩) hw (fun H locs hw => ?_)
      obtain ⟨S13, e13, hf⟩ := mw_b hf
      obtain ⟨ho, e13⟩ := mw_v_s e13
      refine mw_callv (va_runV (As := []) (rest := []) ⟨hx, hb, hml, hown, hts⟩ (cm_X1_countEvent l D G N S12 v12 S13 e13) (cwV 0 hts (mw_gV tw_374 tw_375 tw_376 tw_10 tw_377) rfl rfl rfl (by decide +kernel) ⟨Nat.le_of_ble_eq_true rfl, Nat.le_of_ble_eq_true rfl⟩) (mw_preV hw (ci := 1) rfl ho) rfl rfl hl.1 rfl (lv_room (Nat.le_of_ble_eq_true rfl)) dX8_endEvent_133 ⟨(Nat.le_of_ble_eq_true rfl), (Nat.le_of_ble_eq_true rfl)⟩) hw (fun H locs hw => ?_)
      refine lv_iload hx hb dX8_endEvent_136 (lv_at hl 0 rfl) ?_
      refine lv_iconst (v := (-1)) hx hb dX8_endEvent_138 (by decide) ?_
      refine lv_icmp_eq hx hb dX8_endEvent_139 (tgt := 167) (by decide) (fun hc => ?_) (fun hc => ?_)
      · rw [if_pos hc] at hf
        refine lv_iconst (v := 0) hx hb dX8_endEvent_167 (by decide) ?_
        exact mw_iret hx hb hr hlocks hw hf dX8_endEvent_168
      · rw [if_neg hc] at hf
        refine lv_aload_n hx hb dX8_endEvent_142 rfl (lv_at hl 1 rfl) ?_
        obtain ⟨v14, e14, hf⟩ := mw_b hf
        refine mw_getr hx hb hts inX8 hown hw (ci := 8) rfl 2 (by decide) (hts _ tw_196) rfl e14 dX8_endEvent_143 ?_
        refine lv_iload hx hb dX8_endEvent_146 (lv_at hl 0 rfl) ?_
        refine lv_aload_n hx hb dX8_endEvent_148 rfl (lv_at hl 1 rfl) ?_
        obtain ⟨v15, e15, hf⟩ := mw_b hf
        refine mw_getr hx hb hts inX8 hown hw (ci := 8) rfl 1 (by decide) (hts _ tw_195) rfl e15 dX8_endEvent_149 ?_
        obtain ⟨S16, e16, hf⟩ := mw_b hf
        obtain ⟨ho, e16⟩ := mw_v_s e16
        refine mw_callv (va_runV (As := [.int w0, .ref v15]) (rest := []) ⟨hx, hb, hml, hown, hts⟩ (cm_X6_keep l D G N S13 v14 w0 v15 S16 e16) (cwV 2 hts (mw_gV tw_378 tw_379 tw_380 tw_4 tw_381) rfl rfl rfl (by decide +kernel) ⟨Nat.le_of_ble_eq_true rfl, Nat.le_of_ble_eq_true rfl⟩) (mw_preV hw (ci := 6) rfl ho) rfl rfl hl.1 rfl (lv_room (Nat.le_of_ble_eq_true rfl)) dX8_endEvent_152 ⟨(Nat.le_of_ble_eq_true rfl), (Nat.le_of_ble_eq_true rfl)⟩) hw (fun H locs hw => ?_)
        refine lv_aload_n hx hb dX8_endEvent_155 rfl (lv_at hl 1 rfl) ?_
        obtain ⟨v17, e17, hf⟩ := mw_b hf
        refine mw_getr hx hb hts inX8 hown hw (ci := 8) rfl 10 (by decide) (hts _ tw_204) rfl e17 dX8_endEvent_156 ?_
        obtain ⟨v18, S18, e18, hf⟩ := mw_bb hf
        obtain ⟨ho, e18⟩ := mw_v_s e18
        refine mw_callr (va_runV (As := []) (rest := []) ⟨hx, hb, hml, hown, hts⟩ (cm_X2_open l D G N S16 v17 (v18, S18) e18) (cwV 0 hts (mw_gV tw_370 tw_371 tw_372 tw_9 tw_373) rfl rfl rfl (by decide +kernel) ⟨Nat.le_of_ble_eq_true rfl, Nat.le_of_ble_eq_true rfl⟩) (mw_preV hw (ci := 2) rfl ho) rfl rfl hl.1 rfl (lv_room (Nat.le_of_ble_eq_true rfl)) dX8_endEvent_159 ⟨(Nat.le_of_ble_eq_true rfl), (Nat.le_of_ble_eq_true rfl)⟩) hw (fun H locs hw => ?_)
        refine lv_iload hx hb dX8_endEvent_162 (lv_at hl 0 rfl) ?_
        obtain ⟨S19, e19, hf⟩ := mw_b hf
        obtain ⟨ho, e19⟩ := mw_v_s e19
        refine mw_callv (va_runV (As := [.int w0]) (rest := []) ⟨hx, hb, hml, hown, hts⟩ (cm_X1_use l D G N S18 v18 w0 S19 e19) (cwV 1 hts (mw_gV tw_382 tw_383 tw_384 tw_10 tw_385) rfl rfl rfl (by decide +kernel) ⟨Nat.le_of_ble_eq_true rfl, Nat.le_of_ble_eq_true rfl⟩) (mw_preV hw (ci := 1) rfl ho) rfl rfl hl.1 rfl (lv_room (Nat.le_of_ble_eq_true rfl)) dX8_endEvent_164 ⟨(Nat.le_of_ble_eq_true rfl), (Nat.le_of_ble_eq_true rfl)⟩) hw (fun H locs hw => ?_)
        refine lv_iconst (v := 0) hx hb dX8_endEvent_167 (by decide) ?_
        exact mw_iret hx hb hr hlocks hw hf dX8_endEvent_168
    · rw [if_neg (fun q => q hc)] at hf
      exact bX8_endEvent_95 ⟨hx, hb, hml, hown, hts, hr, hlocks⟩ D G N _ _ _ _ _ hf (lv_sub hl [2] rfl) hw
set_option maxHeartbeats 4000000 in
set_option maxRecDepth 100000 in
theorem cm_X8_endEvent (l : Launch) (D : va_G) (G : Nat → ClassId) (N : Nat) (S : mw_M) (h0 : Nat) (x1 : Nat) (x2 : Int32) (x3 : Int32) (x4 : Int32) (x5 : Int32) (z : Int32 × mw_M) (hf : pf_X8_endEvent G N S h0 x1 x2 x3 x4 x5 = some z) : Met l yX8_endEvent wsX8_endEvent rmX8_endEvent (va_Pc [.ref h0, .ref x1, .int x2, .int x3, .int x4, .int x5] (mw_B D vwCl (mw_tys G) mw_aos S)) (mw_Qi D vwCl (mw_tys G) mw_aos (mw_A S) z) 0 0 (mw_A S) := by
  refine Met.ofW (cc := cX8_endEvent) (maxL := 9) (ret := (some .int)) (by decide) rfl ?_
  intro p e s m args below meth c s₁ B hml hv
  obtain ⟨rfl, hB⟩ := hv
  have hw := mw_begin hB
  have hx := B.exec
  have hb := B.bytes
  have hr := B.returns
  have hts : ∀ w ∈ lw_good, w.before _ s = true := fun w h => atoms_spec (ws := wsX8_endEvent) B.pre w (List.mem_cons_of_mem _ h)
  have hown : s.vm.findClass RX8 = some m.cls := findClass_of_methodNamed B.named
  have hlocks := B.notSynchronized
  have hC : mw_C p s m _ meth c cX8_endEvent RX8 (some .int) lw_good 9 := ⟨hx, hb, hml, hown, hts, hr, hlocks⟩
  have hl := lv_entry ([.ref h0, .ref x1, .int x2, .int x3, .int x4, .int x5]) (n := 9) (Nat.le_of_ble_eq_true rfl)
  rw [lg_entry_eq]
  generalize (lg_sl ([.ref h0, .ref x1, .int x2, .int x3, .int x4, .int x5]) ++ List.replicate (9 - (lg_sl ([.ref h0, .ref x1, .int x2, .int x3, .int x4, .int x5])).length) Slot.unset).toArray = ls at hl ⊢
  have hl : lv_has ls 9 [(0, .ref h0), (1, .ref x1), (2, .int x2), (3, .int x3), (4, .int x4), (5, .int x5)] := hl
  unfold pf_X8_endEvent at hf
  refine lv_aload_n hx hb dX8_endEvent_0 rfl (lv_at hl 1 rfl) ?_
  obtain ⟨v1, S1, e1, hf⟩ := mw_bb hf
  obtain ⟨ho, e1⟩ := mw_v_s e1
  refine mw_calli (va_runV (As := []) (rest := []) ⟨hx, hb, hml, hown, hts⟩ (cm_X3_hasBegun l D G N S x1 (v1, S1) e1) (cwV 0 hts (mw_gV tw_272 tw_273 tw_274 tw_5 tw_275) rfl rfl rfl (by decide +kernel) ⟨Nat.le_of_ble_eq_true rfl, Nat.le_of_ble_eq_true rfl⟩) (mw_preV hw (ci := 3) rfl ho) rfl rfl hl.1 rfl (lv_room (Nat.le_of_ble_eq_true rfl)) dX8_endEvent_1 ⟨(Nat.le_of_ble_eq_true rfl), (Nat.le_of_ble_eq_true rfl)⟩) hw (fun H locs hw => ?_)
  refine lv_if_ne hx hb dX8_endEvent_4 (tgt := 9) (by decide) (fun hc => ?_) (fun hc => ?_)
  · rw [if_pos hc] at hf
    refine lv_aload_n hx hb dX8_endEvent_9 rfl (lv_at hl 1 rfl) ?_
    obtain ⟨v2, S2, e2, hf⟩ := mw_bb hf
    obtain ⟨ho, e2⟩ := mw_v_s e2
    refine mw_calli (va_runV (As := []) (rest := []) ⟨hx, hb, hml, hown, hts⟩ (cm_X3_endLatest l D G N S1 x1 (v2, S2) e2) (cwV 0 hts (mw_gV tw_276 tw_277 tw_278 tw_5 tw_279) rfl rfl rfl (by decide +kernel) ⟨Nat.le_of_ble_eq_true rfl, Nat.le_of_ble_eq_true rfl⟩) (mw_preV hw (ci := 3) rfl ho) rfl rfl hl.1 rfl (lv_room (Nat.le_of_ble_eq_true rfl)) dX8_endEvent_10 ⟨(Nat.le_of_ble_eq_true rfl), (Nat.le_of_ble_eq_true rfl)⟩) hw (fun H locs hw => ?_)
    refine lv_istore hx hb dX8_endEvent_13 hl (by decide) rfl (fun ls hl => ?_)
    have hl : lv_has ls 9 [(6, .int v2), (0, .ref h0), (1, .ref x1), (2, .int x2), (3, .int x3), (4, .int x4), (5, .int x5)] := hl
    refine lv_aload_n hx hb dX8_endEvent_15 rfl (lv_at hl 1 rfl) ?_
    refine lv_iload_n hx hb dX8_endEvent_16 rfl (lv_at hl 3 rfl) ?_
    refine lv_aload_n hx hb dX8_endEvent_17 rfl (lv_at hl 1 rfl) ?_
    obtain ⟨v3, e3, hf⟩ := mw_b hf
    refine mw_geti hx hb hts inX8 hown hw (ci := 8) rfl 13 (by decide) (hts _ tw_207) rfl e3 dX8_endEvent_18 ?_
    refine lv_iload hx hb dX8_endEvent_21 (lv_at hl 0 rfl) ?_
    refine lv_isub hx hb dX8_endEvent_23 ?_
    obtain ⟨v4, S4, e4, hf⟩ := mw_bb hf
    obtain ⟨ho, e4⟩ := mw_v_s e4
    refine mw_calli (va_runV (As := [.int x2, .int (v3 - v2)]) (rest := []) ⟨hx, hb, hml, hown, hts⟩ (cm_X8_interestIn l D G N S2 h0 x2 (v3 - v2) (v4, S4) e4) (cwV 2 hts (mw_gV tw_280 tw_282 tp_2 tw_1 tw_283) rfl rfl rfl (by decide +kernel) ⟨Nat.le_of_ble_eq_true rfl, Nat.le_of_ble_eq_true rfl⟩) (mw_preV hw (ci := 8) rfl ho) rfl rfl hl.1 rfl (lv_room (Nat.le_of_ble_eq_true rfl)) dX8_endEvent_24 ⟨(Nat.le_of_ble_eq_true rfl), (Nat.le_of_ble_eq_true rfl)⟩) hw (fun H locs hw => ?_)
    refine lv_istore hx hb dX8_endEvent_27 hl (by decide) rfl (fun ls hl => ?_)
    have hl : lv_has ls 9 [(7, .int v4), (6, .int v2), (0, .ref h0), (1, .ref x1), (2, .int x2), (3, .int x3), (4, .int x4), (5, .int x5)] := hl
    refine lv_iload hx hb dX8_endEvent_29 (lv_at hl 0 rfl) ?_
    refine lv_if_eq hx hb dX8_endEvent_31 (tgt := 37) (by decide) (fun hc => ?_) (fun hc => ?_)
    · rw [if_pos hc] at hf
      refine lv_aload_n hx hb dX8_endEvent_37 rfl (lv_at hl 2 rfl) ?_
      obtain ⟨v5, e5, hf⟩ := mw_b hf
      refine mw_getr hx hb hts inX8 hown hw (ci := 8) rfl 5 (by decide) (hts _ tw_199) rfl e5 dX8_endEvent_38 ?_
      refine lv_iload_n hx hb dX8_endEvent_41 rfl (lv_at hl 4 rfl) ?_
      obtain ⟨v6, e6, hf⟩ := mw_b hf
      refine mw_zald hx hb hw 3 rfl e6 dX8_endEvent_42 ?_
      refine lv_if_eq hx hb dX8_endEvent_43 (tgt := 60) (by decide) (fun hc => ?_) (fun hc => ?_)
      · rw [if_pos hc] at hf
        refine lv_iconst (v := (-1)) hx hb dX8_endEvent_60 (by decide) ?_
        exact bX8_endEvent_61 ⟨hx, hb, hml, hown, hts, hr, hlocks⟩ D G N _ _ _ _ _ _ _ _ _ _ _ _ hf (lv_sub hl [2, 3, 4, 5, 6, 7, 1] rfl) hw
      · rw [if_neg hc] at hf
        refine lv_aload_n hx hb dX8_endEvent_46 rfl (lv_at hl 2 rfl) ?_
        obtain ⟨v7, e7, hf⟩ := mw_b hf
        refine mw_getr hx hb hts inX8 hown hw (ci := 8) rfl 2 (by decide) (hts _ tw_196) rfl e7 dX8_endEvent_47 ?_
        refine lv_aload_n hx hb dX8_endEvent_50 rfl (lv_at hl 2 rfl) ?_
        obtain ⟨v8, e8, hf⟩ := mw_b hf
        refine mw_getr hx hb hts inX8 hown hw (ci := 8) rfl 1 (by decide) (hts _ tw_195) rfl e8 dX8_endEvent_51 ?_
        obtain ⟨v9, S9, e9, hf⟩ := mw_bb hf
        obtain ⟨ho, e9⟩ := mw_v_s e9
        refine mw_calli (va_runV (As := [.ref v8]) (rest := []) ⟨hx, hb, hml, hown, hts⟩ (cm_X6_numberFor l D G N S4 v7 v8 (v9, S9) e9) (cwV 1 hts (mw_gV tw_296 tw_297 tw_298 tw_4 tw_299) rfl rfl rfl (by decide +kernel) ⟨Nat.le_of_ble_eq_true rfl, Nat.le_of_ble_eq_true rfl⟩) (mw_preV hw (ci := 6) rfl ho) rfl rfl hl.1 rfl (lv_room (Nat.le_of_ble_eq_true rfl)) dX8_endEvent_54 ⟨(Nat.le_of_ble_eq_true rfl), (Nat.le_of_ble_eq_true rfl)⟩) hw (fun H locs hw => ?_)
        refine lv_goto hx hb dX8_endEvent_57 (tgt := 61) (by decide) ?_
        exact bX8_endEvent_61 ⟨hx, hb, hml, hown, hts, hr, hlocks⟩ D G N _ _ _ _ _ _ _ _ _ _ _ _ hf (lv_sub hl [2, 3, 4, 5, 6, 7, 1] rfl) hw
    · rw [if_neg hc] at hf
      refine lv_iload hx hb dX8_endEvent_34 (lv_at hl 0 rfl) ?_
      exact mw_iret hx hb hr hlocks hw hf dX8_endEvent_36
  · rw [if_neg (fun q => q hc)] at hf
    refine lv_iconst (v := 1) hx hb dX8_endEvent_7 (by decide) ?_
    exact mw_iret hx hb hr hlocks hw hf dX8_endEvent_8
abbrev rmX7_clear : Room := { frames := 0, cells := 0, slots := 0, locals := 0 }
abbrev wsX7_clear : List Cond := Cond.code yX7_clear cX7_clear 1 none :: lw_good
set_option maxHeartbeats 4000000 in
set_option maxRecDepth 100000 in
theorem cm_X7_clear (l : Launch) (D : va_G) (G : Nat → ClassId) (N : Nat) (S : mw_M) (h0 : Nat) (z : mw_M) (hf : pf_X7_clear G N S h0 = some z) : Met l yX7_clear wsX7_clear rmX7_clear (va_Pc [.ref h0] (mw_B D vwCl (mw_tys G) mw_aos S)) (mw_Qv D vwCl (mw_tys G) mw_aos (mw_A S) z) 0 0 (mw_A S) := by
  refine Met.ofW (cc := cX7_clear) (maxL := 1) (ret := none) (by decide) rfl ?_
  intro p e s m args below meth c s₁ B hml hv
  obtain ⟨rfl, hB⟩ := hv
  have hw := mw_begin hB
  have hx := B.exec
  have hb := B.bytes
  have hr := B.returns
  have hts : ∀ w ∈ lw_good, w.before _ s = true := fun w h => atoms_spec (ws := wsX7_clear) B.pre w (List.mem_cons_of_mem _ h)
  have hown : s.vm.findClass RX7 = some m.cls := findClass_of_methodNamed B.named
  have hlocks := B.notSynchronized
  have hC : mw_C p s m _ meth c cX7_clear RX7 none lw_good 1 := ⟨hx, hb, hml, hown, hts, hr, hlocks⟩
  have hl := lv_entry ([.ref h0]) (n := 1) (Nat.le_of_ble_eq_true rfl)
  rw [lg_entry_eq]
  generalize (lg_sl ([.ref h0]) ++ List.replicate (1 - (lg_sl ([.ref h0])).length) Slot.unset).toArray = ls at hl ⊢
  have hl : lv_has ls 1 [(0, .ref h0)] := hl
  unfold pf_X7_clear at hf
  refine lv_aload_n hx hb dX7_clear_0 rfl (lv_at hl 0 rfl) ?_
  refine lv_iconst (v := 0) hx hb dX7_clear_1 (by decide) ?_
  obtain ⟨S1, e1, hf⟩ := mw_b hf
  refine mw_put hx hb hts inX7 tyX7 tyX7_ok nX7 hown hw (ci := 7) rfl 1 (by decide) (hts _ tw_38) rfl rfl (ty := .int) (by decide +kernel) rfl rfl e1 dX7_clear_2 (fun H locs hw => ?_)
  exact mw_vret hx hb hr hlocks hw hf dX7_clear_5
abbrev rmX8_commit : Room := { frames := 6, cells := 0, slots := 0, locals := 135 }
abbrev wsX8_commit : List Cond := Cond.code yX8_commit cX8_commit 7 (some .int) :: lw_good
set_option maxHeartbeats 4000000 in
set_option maxRecDepth 100000 in
theorem cm_X8_commit (l : Launch) (D : va_G) (G : Nat → ClassId) (N : Nat) (S : mw_M) (h0 : Nat) (x1 : Int32) (x2 : Int32) (x3 : Int32) (x4 : Int32) (x5 : Int32) (z : Int32 × mw_M) (hf : pf_X8_commit G N S h0 x1 x2 x3 x4 x5 = some z) : Met l yX8_commit wsX8_commit rmX8_commit (va_Pc [.ref h0, .int x1, .int x2, .int x3, .int x4, .int x5] (mw_B D vwCl (mw_tys G) mw_aos S)) (mw_Qi D vwCl (mw_tys G) mw_aos (mw_A S) z) 0 0 (mw_A S) := by
  refine Met.ofW (cc := cX8_commit) (maxL := 7) (ret := (some .int)) (by decide) rfl ?_
  intro p e s m args below meth c s₁ B hml hv
  obtain ⟨rfl, hB⟩ := hv
  have hw := mw_begin hB
  have hx := B.exec
  have hb := B.bytes
  have hr := B.returns
  have hts : ∀ w ∈ lw_good, w.before _ s = true := fun w h => atoms_spec (ws := wsX8_commit) B.pre w (List.mem_cons_of_mem _ h)
  have hown : s.vm.findClass RX8 = some m.cls := findClass_of_methodNamed B.named
  have hlocks := B.notSynchronized
  have hC : mw_C p s m _ meth c cX8_commit RX8 (some .int) lw_good 7 := ⟨hx, hb, hml, hown, hts, hr, hlocks⟩
  have hl := lv_entry ([.ref h0, .int x1, .int x2, .int x3, .int x4, .int x5]) (n := 7) (Nat.le_of_ble_eq_true rfl)
  rw [lg_entry_eq]
  generalize (lg_sl ([.ref h0, .int x1, .int x2, .int x3, .int x4, .int x5]) ++ List.replicate (7 - (lg_sl ([.ref h0, .int x1, .int x2, .int x3, .int x4, .int x5])).length) Slot.unset).toArray = ls at hl ⊢
  have hl : lv_has ls 7 [(0, .ref h0), (1, .int x1), (2, .int x2), (3, .int x3), (4, .int x4), (5, .int x5)] := hl
  unfold pf_X8_commit at hf
  refine lv_iload_n hx hb dX8_commit_0 rfl (lv_at hl 1 rfl) ?_
  obtain ⟨v1, S1, e1, hf⟩ := mw_bb hf
  refine mw_calli (va_runS (As := [.int x1]) (rest := []) ⟨hx, hb, hml, hown, hts⟩ (cm_X8_isThread l D G N S x1 (v1, S1) e1) (cwS 1 hts (mw_gS tw_253 tw_254 tw_1 tw_255) rfl rfl rfl (by decide +kernel) ⟨Nat.le_of_ble_eq_true rfl, Nat.le_of_ble_eq_true rfl⟩) (mw_preS hw) rfl rfl hl.1 rfl (lv_room (Nat.le_of_ble_eq_true rfl)) dX8_commit_1 ⟨(Nat.le_of_ble_eq_true rfl), (Nat.le_of_ble_eq_true rfl)⟩) hw (fun H locs hw => ?_)
  refine lv_if_eq hx hb dX8_commit_4 (tgt := 15) (by decide) (fun hc => ?_) (fun hc => ?_)
  · rw [if_pos hc] at hf
    refine lv_iconst (v := (-1)) hx hb dX8_commit_15 (by decide) ?_
    exact mw_iret hx hb hr hlocks hw hf dX8_commit_16
  · rw [if_neg hc] at hf
    refine lv_aload_n hx hb dX8_commit_7 rfl (lv_at hl 0 rfl) ?_
    refine lv_iload_n hx hb dX8_commit_8 rfl (lv_at hl 2 rfl) ?_
    obtain ⟨v2, S2, e2, hf⟩ := mw_bb hf
    obtain ⟨ho, e2⟩ := mw_v_s e2
    refine mw_calli (va_runV (As := [.int x2]) (rest := []) ⟨hx, hb, hml, hown, hts⟩ (cm_X8_isType l D G N S1 h0 x2 (v2, S2) e2) (cwV 1 hts (mw_gV tw_264 tw_266 tp_0 tw_1 tw_267) rfl rfl rfl (by decide +kernel) ⟨Nat.le_of_ble_eq_true rfl, Nat.le_of_ble_eq_true rfl⟩) (mw_preV hw (ci := 8) rfl ho) rfl rfl hl.1 rfl (lv_room (Nat.le_of_ble_eq_true rfl)) dX8_commit_9 ⟨(Nat.le_of_ble_eq_true rfl), (Nat.le_of_ble_eq_true rfl)⟩) hw (fun H locs hw => ?_)
    refine lv_if_ne hx hb dX8_commit_12 (tgt := 17) (by decide) (fun hc => ?_) (fun hc => ?_)
    · rw [if_pos hc] at hf
      refine lv_aload_n hx hb dX8_commit_17 rfl (lv_at hl 0 rfl) ?_
      refine lv_aload_n hx hb dX8_commit_18 rfl (lv_at hl 0 rfl) ?_
      obtain ⟨v3, e3, hf⟩ := mw_b hf
      refine mw_getr hx hb hts inX8 hown hw (ci := 8) rfl 3 (by decide) (hts _ tw_197) rfl e3 dX8_commit_19 ?_
      refine lv_iload_n hx hb dX8_commit_22 rfl (lv_at hl 1 rfl) ?_
      obtain ⟨v4, e4, hf⟩ := mw_b hf
      refine mw_aald hx hb hw 4 rfl e4 dX8_commit_23 ?_
      refine lv_iload_n hx hb dX8_commit_24 rfl (lv_at hl 2 rfl) ?_
      refine lv_iload_n hx hb dX8_commit_25 rfl (lv_at hl 3 rfl) ?_
      refine lv_iload hx hb dX8_commit_26 (lv_at hl 4 rfl) ?_
      refine lv_iload hx hb dX8_commit_28 (lv_at hl 5 rfl) ?_
      obtain ⟨v5, S5, e5, hf⟩ := mw_bb hf
      obtain ⟨ho, e5⟩ := mw_v_s e5
      refine mw_calli (va_runV (As := [.ref v4, .int x2, .int x3, .int x4, .int x5]) (rest := []) ⟨hx, hb, hml, hown, hts⟩ (cm_X8_endEvent l D G N S2 h0 v4 x2 x3 x4 x5 (v5, S5) e5) (cwV 5 hts (mw_gV tw_268 tw_270 tp_1 tw_1 tw_271) rfl rfl rfl (by decide +kernel) ⟨Nat.le_of_ble_eq_true rfl, Nat.le_of_ble_eq_true rfl⟩) (mw_preV hw (ci := 8) rfl ho) rfl rfl hl.1 rfl (lv_room (Nat.le_of_ble_eq_true rfl)) dX8_commit_30 ⟨(Nat.le_of_ble_eq_true rfl), (Nat.le_of_ble_eq_true rfl)⟩) hw (fun H locs hw => ?_)
      refine lv_istore hx hb dX8_commit_33 hl (by decide) rfl (fun ls hl => ?_)
      have hl : lv_has ls 7 [(6, .int v5), (0, .ref h0), (1, .int x1), (2, .int x2), (3, .int x3), (4, .int x4), (5, .int x5)] := hl
      refine lv_aload_n hx hb dX8_commit_35 rfl (lv_at hl 1 rfl) ?_
      obtain ⟨v6, e6, hf⟩ := mw_b hf
      refine mw_getr hx hb hts inX8 hown hw (ci := 8) rfl 5 (by decide) (hts _ tw_199) rfl e6 dX8_commit_36 ?_
      refine lv_iload_n hx hb dX8_commit_39 rfl (lv_at hl 3 rfl) ?_
      obtain ⟨v7, e7, hf⟩ := mw_b hf
      refine mw_zald hx hb hw 3 rfl e7 dX8_commit_40 ?_
      refine lv_if_eq hx hb dX8_commit_41 (tgt := 51) (by decide) (fun hc => ?_) (fun hc => ?_)
      · rw [if_pos hc] at hf
        refine lv_iload hx hb dX8_commit_51 (lv_at hl 0 rfl) ?_
        exact mw_iret hx hb hr hlocks hw hf dX8_commit_53
      · rw [if_neg hc] at hf
        refine lv_aload_n hx hb dX8_commit_44 rfl (lv_at hl 1 rfl) ?_
        obtain ⟨v8, e8, hf⟩ := mw_b hf
        refine mw_getr hx hb hts inX8 hown hw (ci := 8) rfl 1 (by decide) (hts _ tw_195) rfl e8 dX8_commit_45 ?_
        obtain ⟨S9, e9, hf⟩ := mw_b hf
        obtain ⟨ho, e9⟩ := mw_v_s e9
        refine mw_callv (va_runV (As := []) (rest := []) ⟨hx, hb, hml, hown, hts⟩ (cm_X7_clear l D G N S5 v8 S9 e9) (cwV 0 hts (mw_gV tw_386 tw_387 tw_388 tw_3 tw_389) rfl rfl rfl (by decide +kernel) ⟨Nat.le_of_ble_eq_true rfl, Nat.le_of_ble_eq_true rfl⟩) (mw_preV hw (ci := 7) rfl ho) rfl rfl hl.1 rfl (lv_room (Nat.le_of_ble_eq_true rfl)) dX8_commit_48 ⟨(Nat.le_of_ble_eq_true rfl), (Nat.le_of_ble_eq_true rfl)⟩) hw (fun H locs hw => ?_)
        refine lv_iload hx hb dX8_commit_51 (lv_at hl 0 rfl) ?_
        exact mw_iret hx hb hr hlocks hw hf dX8_commit_53
    · rw [if_neg (fun q => q hc)] at hf
      refine lv_iconst (v := (-1)) hx hb dX8_commit_15 (by decide) ?_
      exact mw_iret hx hb hr hlocks hw hf dX8_commit_16
abbrev rmX1_body : Room := { frames := 0, cells := 0, slots := 0, locals := 0 }
abbrev wsX1_body : List Cond := Cond.code yX1_body cX1_body 1 (some (.object "EventRecorder$ByteRow")) :: lw_good
set_option maxHeartbeats 4000000 in
set_option maxRecDepth 100000 in
theorem cm_X1_body (l : Launch) (D : va_G) (G : Nat → ClassId) (N : Nat) (S : mw_M) (h0 : Nat) (z : Nat × mw_M) (hf : pf_X1_body G N S h0 = some z) : Met l yX1_body wsX1_body rmX1_body (va_Pc [.ref h0] (mw_B D vwCl (mw_tys G) mw_aos S)) (mw_Qr D vwCl (mw_tys G) mw_aos (mw_A S) z) 0 0 (mw_A S) := by
  refine Met.ofW (cc := cX1_body) (maxL := 1) (ret := (some (.object "EventRecorder$ByteRow"))) (by decide) rfl ?_
  intro p e s m args below meth c s₁ B hml hv
  obtain ⟨rfl, hB⟩ := hv
  have hw := mw_begin hB
  have hx := B.exec
  have hb := B.bytes
  have hr := B.returns
  have hts : ∀ w ∈ lw_good, w.before _ s = true := fun w h => atoms_spec (ws := wsX1_body) B.pre w (List.mem_cons_of_mem _ h)
  have hown : s.vm.findClass RX1 = some m.cls := findClass_of_methodNamed B.named
  have hlocks := B.notSynchronized
  have hC : mw_C p s m _ meth c cX1_body RX1 (some (.object "EventRecorder$ByteRow")) lw_good 1 := ⟨hx, hb, hml, hown, hts, hr, hlocks⟩
  have hl := lv_entry ([.ref h0]) (n := 1) (Nat.le_of_ble_eq_true rfl)
  rw [lg_entry_eq]
  generalize (lg_sl ([.ref h0]) ++ List.replicate (1 - (lg_sl ([.ref h0])).length) Slot.unset).toArray = ls at hl ⊢
  have hl : lv_has ls 1 [(0, .ref h0)] := hl
  unfold pf_X1_body at hf
  refine lv_aload_n hx hb dX1_body_0 rfl (lv_at hl 0 rfl) ?_
  obtain ⟨v1, e1, hf⟩ := mw_b hf
  refine mw_getr hx hb hts inX1 hown hw (ci := 1) rfl 0 (by decide) (hts _ tw_158) rfl e1 dX1_body_1 ?_
  exact mw_aret hx hb hr hlocks hw hf dX1_body_4
abbrev rmX4_moveFirstTo : Room := { frames := 3, cells := 0, slots := 0, locals := 64 }
abbrev wsX4_moveFirstTo : List Cond := Cond.code yX4_moveFirstTo cX4_moveFirstTo 3 (some .int) :: lw_good
set_option maxHeartbeats 4000000 in
set_option maxRecDepth 100000 in
theorem cm_X4_moveFirstTo (l : Launch) (D : va_G) (G : Nat → ClassId) (N : Nat) (S : mw_M) (h0 : Nat) (x1 : Nat) (z : Int32 × mw_M) (hf : pf_X4_moveFirstTo G N S h0 x1 = some z) : Met l yX4_moveFirstTo wsX4_moveFirstTo rmX4_moveFirstTo (va_Pc [.ref h0, .ref x1] (mw_B D vwCl (mw_tys G) mw_aos S)) (mw_Qi D vwCl (mw_tys G) mw_aos (mw_A S) z) 0 0 (mw_A S) := by
  refine Met.ofW (cc := cX4_moveFirstTo) (maxL := 3) (ret := (some .int)) (by decide) rfl ?_
  intro p e s m args below meth c s₁ B hml hv
  obtain ⟨rfl, hB⟩ := hv
  have hw := mw_begin hB
  have hx := B.exec
  have hb := B.bytes
  have hr := B.returns
  have hts : ∀ w ∈ lw_good, w.before _ s = true := fun w h => atoms_spec (ws := wsX4_moveFirstTo) B.pre w (List.mem_cons_of_mem _ h)
  have hown : s.vm.findClass RX4 = some m.cls := findClass_of_methodNamed B.named
  have hlocks := B.notSynchronized
  have hC : mw_C p s m _ meth c cX4_moveFirstTo RX4 (some .int) lw_good 3 := ⟨hx, hb, hml, hown, hts, hr, hlocks⟩
  have hl := lv_entry ([.ref h0, .ref x1]) (n := 3) (Nat.le_of_ble_eq_true rfl)
  rw [lg_entry_eq]
  generalize (lg_sl ([.ref h0, .ref x1]) ++ List.replicate (3 - (lg_sl ([.ref h0, .ref x1])).length) Slot.unset).toArray = ls at hl ⊢
  have hl : lv_has ls 3 [(0, .ref h0), (1, .ref x1)] := hl
  unfold pf_X4_moveFirstTo at hf
  refine lv_aload_n hx hb dX4_moveFirstTo_0 rfl (lv_at hl 0 rfl) ?_
  obtain ⟨v1, e1, hf⟩ := mw_b hf
  refine mw_geti hx hb hts inX4 hown hw (ci := 4) rfl 2 (by decide) (hts _ tw_135) rfl e1 dX4_moveFirstTo_1 ?_
  refine lv_if_gt hx hb dX4_moveFirstTo_4 (tgt := 9) (by decide) (fun hc => ?_) (fun hc => ?_)
  · rw [if_pos hc] at hf
    refine lv_aload_n hx hb dX4_moveFirstTo_9 rfl (lv_at hl 0 rfl) ?_
    obtain ⟨v2, e2, hf⟩ := mw_b hf
    refine mw_getr hx hb hts inX4 hown hw (ci := 4) rfl 0 (by decide) (hts _ tw_133) rfl e2 dX4_moveFirstTo_10 ?_
    refine lv_aload_n hx hb dX4_moveFirstTo_13 rfl (lv_at hl 0 rfl) ?_
    obtain ⟨v3, e3, hf⟩ := mw_b hf
    refine mw_geti hx hb hts inX4 hown hw (ci := 4) rfl 1 (by decide) (hts _ tw_134) rfl e3 dX4_moveFirstTo_14 ?_
    obtain ⟨v4, e4, hf⟩ := mw_b hf
    refine mw_aald hx hb hw 6 rfl e4 dX4_moveFirstTo_17 ?_
    obtain ⟨v5, S5, e5, hf⟩ := mw_bb hf
    obtain ⟨ho, e5⟩ := mw_v_s e5
    refine mw_calli (va_runV (As := []) (rest := []) ⟨hx, hb, hml, hown, hts⟩ (cm_X0_length l D G N S v4 (v5, S5) e5) (cwV 0 hts (mw_gV tw_402 tw_344 tw_345 tw_6 tw_346) rfl rfl rfl (by decide +kernel) ⟨Nat.le_of_ble_eq_true rfl, Nat.le_of_ble_eq_true rfl⟩) (mw_preV hw (ci := 0) rfl ho) rfl rfl hl.1 rfl (lv_room (Nat.le_of_ble_eq_true rfl)) dX4_moveFirstTo_18 ⟨(Nat.le_of_ble_eq_true rfl), (Nat.le_of_ble_eq_true rfl)⟩) hw (fun H locs hw => ?_)
    refine lv_istore_n hx hb dX4_moveFirstTo_21 rfl hl (by decide) rfl (fun ls hl => ?_)
    have hl : lv_has ls 3 [(2, .int v5), (0, .ref h0), (1, .ref x1)] := hl
    refine lv_aload_n hx hb dX4_moveFirstTo_22 rfl (lv_at hl 1 rfl) ?_
    obtain ⟨v6, e6, hf⟩ := mw_b hf
    refine mw_getr hx hb hts inX4 hown hw (ci := 4) rfl 0 (by decide) (hts _ tw_133) rfl e6 dX4_moveFirstTo_23 ?_
    refine lv_aload_n hx hb dX4_moveFirstTo_26 rfl (lv_at hl 1 rfl) ?_
    obtain ⟨v7, e7, hf⟩ := mw_b hf
    refine mw_geti hx hb hts inX4 hown hw (ci := 4) rfl 1 (by decide) (hts _ tw_134) rfl e7 dX4_moveFirstTo_27 ?_
    obtain ⟨v8, e8, hf⟩ := mw_b hf
    refine mw_aald hx hb hw 6 rfl e8 dX4_moveFirstTo_30 ?_
    refine lv_aload_n hx hb dX4_moveFirstTo_31 rfl (lv_at hl 2 rfl) ?_
    obtain ⟨S9, e9, hf⟩ := mw_b hf
    obtain ⟨ho, e9⟩ := mw_v_s e9
    refine mw_callv (va_runV (As := [.ref x1]) (rest := []) ⟨hx, hb, hml, hown, hts⟩ (cm_X0_moveTo l D G N S5 v8 x1 S9 e9) (cwV 1 hts (mw_gV tw_356 tw_357 tw_358 tw_6 tw_359) rfl rfl rfl (by decide +kernel) ⟨Nat.le_of_ble_eq_true rfl, Nat.le_of_ble_eq_true rfl⟩) (mw_preV hw (ci := 0) rfl ho) rfl rfl hl.1 rfl (lv_room (Nat.le_of_ble_eq_true rfl)) dX4_moveFirstTo_32 ⟨(Nat.le_of_ble_eq_true rfl), (Nat.le_of_ble_eq_true rfl)⟩) hw (fun H locs hw => ?_)
    refine lv_aload_n hx hb dX4_moveFirstTo_35 rfl (lv_at hl 1 rfl) ?_
    refine lv_aload_n hx hb dX4_moveFirstTo_36 rfl (lv_at hl 1 rfl) ?_
    obtain ⟨v10, e10, hf⟩ := mw_b hf
    refine mw_geti hx hb hts inX4 hown hw (ci := 4) rfl 1 (by decide) (hts _ tw_134) rfl e10 dX4_moveFirstTo_37 ?_
    refine lv_iconst (v := 1) hx hb dX4_moveFirstTo_40 (by decide) ?_
    refine lv_iadd hx hb dX4_moveFirstTo_41 ?_
    refine lv_aload_n hx hb dX4_moveFirstTo_42 rfl (lv_at hl 1 rfl) ?_
    obtain ⟨v11, e11, hf⟩ := mw_b hf
    refine mw_getr hx hb hts inX4 hown hw (ci := 4) rfl 0 (by decide) (hts _ tw_133) rfl e11 dX4_moveFirstTo_43 ?_
    obtain ⟨v12, e12, hf⟩ := mw_b hf
    refine mw_alen hx hb hw 6 rfl e12 dX4_moveFirstTo_46 ?_
    have hne : ¬ v12 = 0 := fun q => by rw [if_pos q] at hf; cases hf
    rw [if_neg hne] at hf
    refine lv_irem hx hb dX4_moveFirstTo_47 hne ?_
    obtain ⟨S13, e13, hf⟩ := mw_b hf
    refine mw_put hx hb hts inX4 tyX4 tyX4_ok nX4 hown hw (ci := 4) rfl 1 (by decide) (hts _ tw_134) rfl rfl (ty := .int) (by decide +kernel) rfl rfl e13 dX4_moveFirstTo_48 (fun H locs hw => ?_)
    refine lv_aload_n hx hb dX4_moveFirstTo_51 rfl (lv_at hl 1 rfl) ?_
    refine lv_dup hx hb dX4_moveFirstTo_52 rfl ?_
    obtain ⟨v14, e14, hf⟩ := mw_b hf
    refine mw_geti hx hb hts inX4 hown hw (ci := 4) rfl 2 (by decide) (hts _ tw_135) rfl e14 dX4_moveFirstTo_53 ?_
    refine lv_iconst (v := 1) hx hb dX4_moveFirstTo_56 (by decide) ?_
    refine lv_isub hx hb dX4_moveFirstTo_57 ?_
    obtain ⟨S15, e15, hf⟩ := mw_b hf
    refine mw_put hx hb hts inX4 tyX4 tyX4_ok nX4 hown hw (ci := 4) rfl 2 (by decide) (hts _ tw_135) rfl rfl (ty := .int) (by decide +kernel) rfl rfl e15 dX4_moveFirstTo_58 (fun H locs hw => ?_)
    refine lv_iload_n hx hb dX4_moveFirstTo_61 rfl (lv_at hl 0 rfl) ?_
    exact mw_iret hx hb hr hlocks hw hf dX4_moveFirstTo_62
  · rw [if_neg hc] at hf
    refine lv_iconst (v := 0) hx hb dX4_moveFirstTo_7 (by decide) ?_
    exact mw_iret hx hb hr hlocks hw hf dX4_moveFirstTo_8
abbrev rmX3_takeLostInChunk : Room := { frames := 0, cells := 0, slots := 0, locals := 0 }
abbrev wsX3_takeLostInChunk : List Cond := Cond.code yX3_takeLostInChunk cX3_takeLostInChunk 2 (some .int) :: lw_good
set_option maxHeartbeats 4000000 in
set_option maxRecDepth 100000 in
theorem cm_X3_takeLostInChunk (l : Launch) (D : va_G) (G : Nat → ClassId) (N : Nat) (S : mw_M) (h0 : Nat) (z : Int32 × mw_M) (hf : pf_X3_takeLostInChunk G N S h0 = some z) : Met l yX3_takeLostInChunk wsX3_takeLostInChunk rmX3_takeLostInChunk (va_Pc [.ref h0] (mw_B D vwCl (mw_tys G) mw_aos S)) (mw_Qi D vwCl (mw_tys G) mw_aos (mw_A S) z) 0 0 (mw_A S) := by
  refine Met.ofW (cc := cX3_takeLostInChunk) (maxL := 2) (ret := (some .int)) (by decide) rfl ?_
  intro p e s m args below meth c s₁ B hml hv
  obtain ⟨rfl, hB⟩ := hv
  have hw := mw_begin hB
  have hx := B.exec
  have hb := B.bytes
  have hr := B.returns
  have hts : ∀ w ∈ lw_good, w.before _ s = true := fun w h => atoms_spec (ws := wsX3_takeLostInChunk) B.pre w (List.mem_cons_of_mem _ h)
  have hown : s.vm.findClass RX3 = some m.cls := findClass_of_methodNamed B.named
  have hlocks := B.notSynchronized
  have hC : mw_C p s m _ meth c cX3_takeLostInChunk RX3 (some .int) lw_good 2 := ⟨hx, hb, hml, hown, hts, hr, hlocks⟩
  have hl := lv_entry ([.ref h0]) (n := 2) (Nat.le_of_ble_eq_true rfl)
  rw [lg_entry_eq]
  generalize (lg_sl ([.ref h0]) ++ List.replicate (2 - (lg_sl ([.ref h0])).length) Slot.unset).toArray = ls at hl ⊢
  have hl : lv_has ls 2 [(0, .ref h0)] := hl
  unfold pf_X3_takeLostInChunk at hf
  refine lv_aload_n hx hb dX3_takeLostInChunk_0 rfl (lv_at hl 0 rfl) ?_
  obtain ⟨v1, e1, hf⟩ := mw_b hf
  refine mw_geti hx hb hts inX3 hown hw (ci := 3) rfl 3 (by decide) (hts _ tw_86) rfl e1 dX3_takeLostInChunk_1 ?_
  refine lv_istore_n hx hb dX3_takeLostInChunk_4 rfl hl (by decide) rfl (fun ls hl => ?_)
  have hl : lv_has ls 2 [(1, .int v1), (0, .ref h0)] := hl
  refine lv_aload_n hx hb dX3_takeLostInChunk_5 rfl (lv_at hl 1 rfl) ?_
  refine lv_iconst (v := 0) hx hb dX3_takeLostInChunk_6 (by decide) ?_
  obtain ⟨S2, e2, hf⟩ := mw_b hf
  refine mw_put hx hb hts inX3 tyX3 tyX3_ok nX3 hown hw (ci := 3) rfl 3 (by decide) (hts _ tw_86) rfl rfl (ty := .int) (by decide +kernel) rfl rfl e2 dX3_takeLostInChunk_7 (fun H locs hw => ?_)
  refine lv_iload_n hx hb dX3_takeLostInChunk_10 rfl (lv_at hl 0 rfl) ?_
  exact mw_iret hx hb hr hlocks hw hf dX3_takeLostInChunk_11
abbrev rmX1_addLoss : Room := { frames := 2, cells := 0, slots := 0, locals := 45 }
abbrev wsX1_addLoss : List Cond := Cond.code yX1_addLoss cX1_addLoss 3 none :: lw_good
set_option maxHeartbeats 4000000 in
set_option maxRecDepth 100000 in
theorem cm_X1_addLoss (l : Launch) (D : va_G) (G : Nat → ClassId) (N : Nat) (S : mw_M) (h0 : Nat) (x1 : Int32) (x2 : Int32) (z : mw_M) (hf : pf_X1_addLoss G N S h0 x1 x2 = some z) : Met l yX1_addLoss wsX1_addLoss rmX1_addLoss (va_Pc [.ref h0, .int x1, .int x2] (mw_B D vwCl (mw_tys G) mw_aos S)) (mw_Qv D vwCl (mw_tys G) mw_aos (mw_A S) z) 0 0 (mw_A S) := by
  refine Met.ofW (cc := cX1_addLoss) (maxL := 3) (ret := none) (by decide) rfl ?_
  intro p e s m args below meth c s₁ B hml hv
  obtain ⟨rfl, hB⟩ := hv
  have hw := mw_begin hB
  have hx := B.exec
  have hb := B.bytes
  have hr := B.returns
  have hts : ∀ w ∈ lw_good, w.before _ s = true := fun w h => atoms_spec (ws := wsX1_addLoss) B.pre w (List.mem_cons_of_mem _ h)
  have hown : s.vm.findClass RX1 = some m.cls := findClass_of_methodNamed B.named
  have hlocks := B.notSynchronized
  have hC : mw_C p s m _ meth c cX1_addLoss RX1 none lw_good 3 := ⟨hx, hb, hml, hown, hts, hr, hlocks⟩
  have hl := lv_entry ([.ref h0, .int x1, .int x2]) (n := 3) (Nat.le_of_ble_eq_true rfl)
  rw [lg_entry_eq]
  generalize (lg_sl ([.ref h0, .int x1, .int x2]) ++ List.replicate (3 - (lg_sl ([.ref h0, .int x1, .int x2])).length) Slot.unset).toArray = ls at hl ⊢
  have hl : lv_has ls 3 [(0, .ref h0), (1, .int x1), (2, .int x2)] := hl
  unfold pf_X1_addLoss at hf
  refine lv_aload_n hx hb dX1_addLoss_0 rfl (lv_at hl 0 rfl) ?_
  obtain ⟨v1, e1, hf⟩ := mw_b hf
  refine mw_getr hx hb hts inX1 hown hw (ci := 1) rfl 0 (by decide) (hts _ tw_158) rfl e1 dX1_addLoss_1 ?_
  refine lv_iconst (v := 2) hx hb dX1_addLoss_4 (by decide) ?_
  refine lv_iload_n hx hb dX1_addLoss_5 rfl (lv_at hl 2 rfl) ?_
  obtain ⟨v2, S2, e2, hf⟩ := mw_bb hf
  refine mw_calli (va_runS (As := [.int x2]) (rest := [.int 2, .ref v1]) ⟨hx, hb, hml, hown, hts⟩ (cm_X0_variableLength l D G N S x2 (v2, S2) e2) ⟨callB_of 1 hts (mw_gI tw_327) rfl rfl rfl (hts _ tw_6) (hts _ tw_416) (by decide +kernel) ⟨Nat.le_of_ble_eq_true rfl, Nat.le_of_ble_eq_true rfl⟩, hts _ tw_326⟩ (mw_preS hw) rfl rfl hl.1 rfl (lv_room (Nat.le_of_ble_eq_true rfl)) dX1_addLoss_6 ⟨(Nat.le_of_ble_eq_true rfl), (Nat.le_of_ble_eq_true rfl)⟩) hw (fun H locs hw => ?_)
  refine lv_iadd hx hb dX1_addLoss_9 ?_
  obtain ⟨S3, e3, hf⟩ := mw_b hf
  obtain ⟨ho, e3⟩ := mw_v_s e3
  refine mw_callv (va_runV (As := [.int (2 + v2)]) (rest := []) ⟨hx, hb, hml, hown, hts⟩ (cm_X0_addVariable l D G N S2 v1 (2 + v2) S3 e3) (cwV 1 hts (mw_gV tw_417 tw_322 tw_323 tw_6 tw_324) rfl rfl rfl (by decide +kernel) ⟨Nat.le_of_ble_eq_true rfl, Nat.le_of_ble_eq_true rfl⟩) (mw_preV hw (ci := 0) rfl ho) rfl rfl hl.1 rfl (lv_room (Nat.le_of_ble_eq_true rfl)) dX1_addLoss_10 ⟨(Nat.le_of_ble_eq_true rfl), (Nat.le_of_ble_eq_true rfl)⟩) hw (fun H locs hw => ?_)
  refine lv_aload_n hx hb dX1_addLoss_13 rfl (lv_at hl 0 rfl) ?_
  obtain ⟨v4, e4, hf⟩ := mw_b hf
  refine mw_getr hx hb hts inX1 hown hw (ci := 1) rfl 0 (by decide) (hts _ tw_158) rfl e4 dX1_addLoss_14 ?_
  refine lv_bipush (v := 63) hx hb dX1_addLoss_17 (by decide) ?_
  obtain ⟨S5, e5, hf⟩ := mw_b hf
  obtain ⟨ho, e5⟩ := mw_v_s e5
  refine mw_callv (va_runV (As := [.int 63]) (rest := []) ⟨hx, hb, hml, hown, hts⟩ (cm_X0_add l D G N S3 v4 63 S5 e5) (cwV 1 hts (mw_gV tw_418 tw_329 tw_330 tw_6 tw_331) rfl rfl rfl (by decide +kernel) ⟨Nat.le_of_ble_eq_true rfl, Nat.le_of_ble_eq_true rfl⟩) (mw_preV hw (ci := 0) rfl ho) rfl rfl hl.1 rfl (lv_room (Nat.le_of_ble_eq_true rfl)) dX1_addLoss_19 ⟨(Nat.le_of_ble_eq_true rfl), (Nat.le_of_ble_eq_true rfl)⟩) hw (fun H locs hw => ?_)
  refine lv_aload_n hx hb dX1_addLoss_22 rfl (lv_at hl 0 rfl) ?_
  obtain ⟨v6, e6, hf⟩ := mw_b hf
  refine mw_getr hx hb hts inX1 hown hw (ci := 1) rfl 0 (by decide) (hts _ tw_158) rfl e6 dX1_addLoss_23 ?_
  refine lv_iload_n hx hb dX1_addLoss_26 rfl (lv_at hl 1 rfl) ?_
  obtain ⟨S7, e7, hf⟩ := mw_b hf
  obtain ⟨ho, e7⟩ := mw_v_s e7
  refine mw_callv (va_runV (As := [.int x1]) (rest := []) ⟨hx, hb, hml, hown, hts⟩ (cm_X0_addVariable l D G N S5 v6 x1 S7 e7) (cwV 1 hts (mw_gV tw_417 tw_322 tw_323 tw_6 tw_324) rfl rfl rfl (by decide +kernel) ⟨Nat.le_of_ble_eq_true rfl, Nat.le_of_ble_eq_true rfl⟩) (mw_preV hw (ci := 0) rfl ho) rfl rfl hl.1 rfl (lv_room (Nat.le_of_ble_eq_true rfl)) dX1_addLoss_27 ⟨(Nat.le_of_ble_eq_true rfl), (Nat.le_of_ble_eq_true rfl)⟩) hw (fun H locs hw => ?_)
  refine lv_aload_n hx hb dX1_addLoss_30 rfl (lv_at hl 0 rfl) ?_
  obtain ⟨v8, e8, hf⟩ := mw_b hf
  refine mw_getr hx hb hts inX1 hown hw (ci := 1) rfl 0 (by decide) (hts _ tw_158) rfl e8 dX1_addLoss_31 ?_
  refine lv_iload_n hx hb dX1_addLoss_34 rfl (lv_at hl 2 rfl) ?_
  obtain ⟨S9, e9, hf⟩ := mw_b hf
  obtain ⟨ho, e9⟩ := mw_v_s e9
  refine mw_callv (va_runV (As := [.int x2]) (rest := []) ⟨hx, hb, hml, hown, hts⟩ (cm_X0_addVariable l D G N S7 v8 x2 S9 e9) (cwV 1 hts (mw_gV tw_417 tw_322 tw_323 tw_6 tw_324) rfl rfl rfl (by decide +kernel) ⟨Nat.le_of_ble_eq_true rfl, Nat.le_of_ble_eq_true rfl⟩) (mw_preV hw (ci := 0) rfl ho) rfl rfl hl.1 rfl (lv_room (Nat.le_of_ble_eq_true rfl)) dX1_addLoss_35 ⟨(Nat.le_of_ble_eq_true rfl), (Nat.le_of_ble_eq_true rfl)⟩) hw (fun H locs hw => ?_)
  exact mw_vret hx hb hr hlocks hw hf dX1_addLoss_38
abbrev rmX1_number : Room := { frames := 0, cells := 0, slots := 0, locals := 0 }
abbrev wsX1_number : List Cond := Cond.code yX1_number cX1_number 1 (some .int) :: lw_good
set_option maxHeartbeats 4000000 in
set_option maxRecDepth 100000 in
theorem cm_X1_number (l : Launch) (D : va_G) (G : Nat → ClassId) (N : Nat) (S : mw_M) (h0 : Nat) (z : Int32 × mw_M) (hf : pf_X1_number G N S h0 = some z) : Met l yX1_number wsX1_number rmX1_number (va_Pc [.ref h0] (mw_B D vwCl (mw_tys G) mw_aos S)) (mw_Qi D vwCl (mw_tys G) mw_aos (mw_A S) z) 0 0 (mw_A S) := by
  refine Met.ofW (cc := cX1_number) (maxL := 1) (ret := (some .int)) (by decide) rfl ?_
  intro p e s m args below meth c s₁ B hml hv
  obtain ⟨rfl, hB⟩ := hv
  have hw := mw_begin hB
  have hx := B.exec
  have hb := B.bytes
  have hr := B.returns
  have hts : ∀ w ∈ lw_good, w.before _ s = true := fun w h => atoms_spec (ws := wsX1_number) B.pre w (List.mem_cons_of_mem _ h)
  have hown : s.vm.findClass RX1 = some m.cls := findClass_of_methodNamed B.named
  have hlocks := B.notSynchronized
  have hC : mw_C p s m _ meth c cX1_number RX1 (some .int) lw_good 1 := ⟨hx, hb, hml, hown, hts, hr, hlocks⟩
  have hl := lv_entry ([.ref h0]) (n := 1) (Nat.le_of_ble_eq_true rfl)
  rw [lg_entry_eq]
  generalize (lg_sl ([.ref h0]) ++ List.replicate (1 - (lg_sl ([.ref h0])).length) Slot.unset).toArray = ls at hl ⊢
  have hl : lv_has ls 1 [(0, .ref h0)] := hl
  unfold pf_X1_number at hf
  refine lv_aload_n hx hb dX1_number_0 rfl (lv_at hl 0 rfl) ?_
  obtain ⟨v1, e1, hf⟩ := mw_b hf
  refine mw_geti hx hb hts inX1 hown hw (ci := 1) rfl 2 (by decide) (hts _ tw_160) rfl e1 dX1_number_1 ?_
  exact mw_iret hx hb hr hlocks hw hf dX1_number_4
abbrev rmX2_evictOldest : Room := { frames := 0, cells := 0, slots := 0, locals := 0 }
abbrev wsX2_evictOldest : List Cond := Cond.code yX2_evictOldest cX2_evictOldest 3 none :: lw_good
set_option maxHeartbeats 4000000 in
set_option maxRecDepth 100000 in
theorem bX2_evictOldest_9 {p : Program} {l : Launch} {e : Env} {s : State} {m : MethodId} {args : Array Value} {below : List Frame} {meth : Method} {c : Code} (hC : mw_C p s m args meth c cX2_evictOldest RX2 none lw_good 3) (D : va_G) (G : Nat → ClassId) (N : Nat) {A : Nat → Prop} {z : mw_M} : ∀ (n : Nat) (y0 : Nat) (y1 : Nat) (y2 : Int32) (S : mw_M) (H : Heap) (locs : List Loc) (ls : Array Slot), pf_X2_evictOldest_9 G N n y0 y1 y2 S = some z → lv_has ls 3 [(0, .ref y0), (1, .ref y1), (2, .int y2)] → mw_W D vwCl (mw_tys G) mw_aos A s S H locs → W p l e (headSpec wsX2_evictOldest rmX2_evictOldest).room s m args below meth c H locs 0 0 (MQ below (mw_Qv D vwCl (mw_tys G) mw_aos A z) args s 0 0 A) (F0 m 9 ls []) := by
  obtain ⟨hx, hb, hml, hown, hts, hr, hlocks⟩ := hC
  intro n
  induction n with
  | zero => intro y0 y1 y2 S H locs ls hf; rw [pf_X2_evictOldest_9] at hf; cases hf
  | succ n ih =>
    intro y0 y1 y2 S H locs ls hf hl hw
    rw [pf_X2_evictOldest_9] at hf
    refine lv_iload_n hx hb dX2_evictOldest_9 rfl (lv_at hl 2 rfl) ?_
    refine lv_aload_n hx hb dX2_evictOldest_10 rfl (lv_at hl 0 rfl) ?_
    obtain ⟨v1, e1, hf⟩ := mw_b hf
    refine mw_getr hx hb hts inX2 hown hw (ci := 2) rfl 0 (by decide) (hts _ tw_182) rfl e1 dX2_evictOldest_11 ?_
    obtain ⟨v2, e2, hf⟩ := mw_b hf
    refine mw_alen hx hb hw 7 rfl e2 dX2_evictOldest_14 ?_
    refine lv_icmp_ge hx hb dX2_evictOldest_15 (tgt := 38) (by decide) (fun hc => ?_) (fun hc => ?_)
    · rw [if_pos hc] at hf
      refine lv_aload_n hx hb dX2_evictOldest_38 rfl (lv_at hl 0 rfl) ?_
      obtain ⟨v3, e3, hf⟩ := mw_b hf
      refine mw_getr hx hb hts inX2 hown hw (ci := 2) rfl 0 (by decide) (hts _ tw_182) rfl e3 dX2_evictOldest_39 ?_
      refine lv_aload_n hx hb dX2_evictOldest_42 rfl (lv_at hl 0 rfl) ?_
      obtain ⟨v4, e4, hf⟩ := mw_b hf
      refine mw_getr hx hb hts inX2 hown hw (ci := 2) rfl 0 (by decide) (hts _ tw_182) rfl e4 dX2_evictOldest_43 ?_
      obtain ⟨v5, e5, hf⟩ := mw_b hf
      refine mw_alen hx hb hw 7 rfl e5 dX2_evictOldest_46 ?_
      refine lv_iconst (v := 1) hx hb dX2_evictOldest_47 (by decide) ?_
      refine lv_isub hx hb dX2_evictOldest_48 ?_
      refine lv_aload_n hx hb dX2_evictOldest_49 rfl (lv_at hl 1 rfl) ?_
      obtain ⟨S6, e6, hf⟩ := mw_b hf
      refine mw_aast (r := (RX1, TX1, 5)) hx hb hw 7 1 rfl rfl e6 dX2_evictOldest_50 (fun H locs hw => ?_)
      refine lv_aload_n hx hb dX2_evictOldest_51 rfl (lv_at hl 0 rfl) ?_
      refine lv_dup hx hb dX2_evictOldest_52 rfl ?_
      obtain ⟨v7, e7, hf⟩ := mw_b hf
      refine mw_geti hx hb hts inX2 hown hw (ci := 2) rfl 1 (by decide) (hts _ tw_183) rfl e7 dX2_evictOldest_53 ?_
      refine lv_iconst (v := 1) hx hb dX2_evictOldest_56 (by decide) ?_
      refine lv_isub hx hb dX2_evictOldest_57 ?_
      obtain ⟨S8, e8, hf⟩ := mw_b hf
      refine mw_put hx hb hts inX2 tyX2 tyX2_ok nX2 hown hw (ci := 2) rfl 1 (by decide) (hts _ tw_183) rfl rfl (ty := .int) (by decide +kernel) rfl rfl e8 dX2_evictOldest_58 (fun H locs hw => ?_)
      refine lv_aload_n hx hb dX2_evictOldest_61 rfl (lv_at hl 0 rfl) ?_
      refine lv_dup hx hb dX2_evictOldest_62 rfl ?_
      obtain ⟨v9, e9, hf⟩ := mw_b hf
      refine mw_geti hx hb hts inX2 hown hw (ci := 2) rfl 2 (by decide) (hts _ tw_184) rfl e9 dX2_evictOldest_63 ?_
      refine lv_iconst (v := 1) hx hb dX2_evictOldest_66 (by decide) ?_
      refine lv_iadd hx hb dX2_evictOldest_67 ?_
      obtain ⟨S10, e10, hf⟩ := mw_b hf
      refine mw_put hx hb hts inX2 tyX2 tyX2_ok nX2 hown hw (ci := 2) rfl 2 (by decide) (hts _ tw_184) rfl rfl (ty := .int) (by decide +kernel) rfl rfl e10 dX2_evictOldest_68 (fun H locs hw => ?_)
      exact mw_vret hx hb hr hlocks hw hf dX2_evictOldest_71
    · rw [if_neg hc] at hf
      refine lv_aload_n hx hb dX2_evictOldest_18 rfl (lv_at hl 0 rfl) ?_
      obtain ⟨v11, e11, hf⟩ := mw_b hf
      refine mw_getr hx hb hts inX2 hown hw (ci := 2) rfl 0 (by decide) (hts _ tw_182) rfl e11 dX2_evictOldest_19 ?_
      refine lv_iload_n hx hb dX2_evictOldest_22 rfl (lv_at hl 2 rfl) ?_
      refine lv_iconst (v := 1) hx hb dX2_evictOldest_23 (by decide) ?_
      refine lv_isub hx hb dX2_evictOldest_24 ?_
      refine lv_aload_n hx hb dX2_evictOldest_25 rfl (lv_at hl 0 rfl) ?_
      obtain ⟨v12, e12, hf⟩ := mw_b hf
      refine mw_getr hx hb hts inX2 hown hw (ci := 2) rfl 0 (by decide) (hts _ tw_182) rfl e12 dX2_evictOldest_26 ?_
      refine lv_iload_n hx hb dX2_evictOldest_29 rfl (lv_at hl 2 rfl) ?_
      obtain ⟨v13, e13, hf⟩ := mw_b hf
      refine mw_aald hx hb hw 7 rfl e13 dX2_evictOldest_30 ?_
      obtain ⟨S14, e14, hf⟩ := mw_b hf
      refine mw_aast (r := (RX1, TX1, 5)) hx hb hw 7 1 rfl rfl e14 dX2_evictOldest_31 (fun H locs hw => ?_)
      refine lv_iinc (k := 2) (v := (y2 + 1)) hx hb dX2_evictOldest_32 hl rfl (congrArg (fun q => y2 + q) (show Int32.ofInt 1 = 1 by decide)) (by decide) rfl (fun ls hl => ?_)
      have hl : lv_has ls 3 [(2, .int (y2 + 1)), (0, .ref y0), (1, .ref y1)] := hl
      refine lv_goto hx hb dX2_evictOldest_35 (tgt := 9) (by decide) ?_
      exact ih _ _ _ _ _ _ _ hf (lv_sub hl [1, 2, 0] rfl) hw
set_option maxHeartbeats 4000000 in
set_option maxRecDepth 100000 in
theorem cm_X2_evictOldest (l : Launch) (D : va_G) (G : Nat → ClassId) (N : Nat) (S : mw_M) (h0 : Nat) (z : mw_M) (hf : pf_X2_evictOldest G N S h0 = some z) : Met l yX2_evictOldest wsX2_evictOldest rmX2_evictOldest (va_Pc [.ref h0] (mw_B D vwCl (mw_tys G) mw_aos S)) (mw_Qv D vwCl (mw_tys G) mw_aos (mw_A S) z) 0 0 (mw_A S) := by
  refine Met.ofW (cc := cX2_evictOldest) (maxL := 3) (ret := none) (by decide) rfl ?_
  intro p e s m args below meth c s₁ B hml hv
  obtain ⟨rfl, hB⟩ := hv
  have hw := mw_begin hB
  have hx := B.exec
  have hb := B.bytes
  have hr := B.returns
  have hts : ∀ w ∈ lw_good, w.before _ s = true := fun w h => atoms_spec (ws := wsX2_evictOldest) B.pre w (List.mem_cons_of_mem _ h)
  have hown : s.vm.findClass RX2 = some m.cls := findClass_of_methodNamed B.named
  have hlocks := B.notSynchronized
  have hC : mw_C p s m _ meth c cX2_evictOldest RX2 none lw_good 3 := ⟨hx, hb, hml, hown, hts, hr, hlocks⟩
  have hl := lv_entry ([.ref h0]) (n := 3) (Nat.le_of_ble_eq_true rfl)
  rw [lg_entry_eq]
  generalize (lg_sl ([.ref h0]) ++ List.replicate (3 - (lg_sl ([.ref h0])).length) Slot.unset).toArray = ls at hl ⊢
  have hl : lv_has ls 3 [(0, .ref h0)] := hl
  unfold pf_X2_evictOldest at hf
  refine lv_aload_n hx hb dX2_evictOldest_0 rfl (lv_at hl 0 rfl) ?_
  obtain ⟨v1, e1, hf⟩ := mw_b hf
  refine mw_getr hx hb hts inX2 hown hw (ci := 2) rfl 0 (by decide) (hts _ tw_182) rfl e1 dX2_evictOldest_1 ?_
  refine lv_iconst (v := 0) hx hb dX2_evictOldest_4 (by decide) ?_
  obtain ⟨v2, e2, hf⟩ := mw_b hf
  refine mw_aald hx hb hw 7 rfl e2 dX2_evictOldest_5 ?_
  refine lv_astore_n hx hb dX2_evictOldest_6 rfl hl (by decide) rfl (fun ls hl => ?_)
  have hl : lv_has ls 3 [(1, .ref v2), (0, .ref h0)] := hl
  refine lv_iconst (v := 1) hx hb dX2_evictOldest_7 (by decide) ?_
  refine lv_istore_n hx hb dX2_evictOldest_8 rfl hl (by decide) rfl (fun ls hl => ?_)
  have hl : lv_has ls 3 [(2, .int 1), (1, .ref v2), (0, .ref h0)] := hl
  exact bX2_evictOldest_9 ⟨hx, hb, hml, hown, hts, hr, hlocks⟩ D G N N _ _ _ _ _ _ _ hf (lv_sub hl [2, 1, 0] rfl) hw
