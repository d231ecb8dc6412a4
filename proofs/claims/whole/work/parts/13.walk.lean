abbrev rmX6_writeTo : Room := { frames := 2, cells := 0, slots := 0, locals := 45 }
abbrev wsX6_writeTo : List Cond := Cond.code yX6_writeTo cX6_writeTo 4 none :: lw_good
set_option maxHeartbeats 4000000 in
set_option maxRecDepth 100000 in
theorem bX6_writeTo_30 {p : Program} {l : Launch} {e : Env} {s : State} {m : MethodId} {args : Array Value} {below : List Frame} {meth : Method} {c : Code} (hC : mw_C p s m args meth c cX6_writeTo RX6 none lw_good 4) (D : va_G) (G : Nat → ClassId) (N : Nat) {A : Nat → Prop} {z : mw_M} : ∀ (n : Nat) (y0 : Nat) (y1 : Nat) (y2 : Int32) (y3 : Int32) (S : mw_M) (H : Heap) (locs : List Loc) (ls : Array Slot), pf_X6_writeTo_30 G N n y0 y1 y2 y3 S = some z → lv_has ls 4 [(0, .ref y0), (1, .ref y1), (2, .int y2), (3, .int y3)] → mw_W D vwCl (mw_tys G) mw_aos A s S H locs → W p l e (headSpec wsX6_writeTo rmX6_writeTo).room s m args below meth c H locs 0 0 (MQ below (mw_Qv D vwCl (mw_tys G) mw_aos A z) args s 0 0 A) (F0 m 30 ls []) := by
  obtain ⟨hx, hb, hml, hown, hts, hr, hlocks⟩ := hC
  intro n
  induction n with
  | zero => intro y0 y1 y2 y3 S H locs ls hf; rw [pf_X6_writeTo_30] at hf; cases hf
  | succ n ih =>
    intro y0 y1 y2 y3 S H locs ls hf hl hw
    rw [pf_X6_writeTo_30] at hf
    refine lv_iload_n hx hb dX6_writeTo_30 rfl (lv_at hl 3 rfl) ?_
    refine lv_aload_n hx hb dX6_writeTo_31 rfl (lv_at hl 0 rfl) ?_
    obtain ⟨v1, e1, hf⟩ := mw_b hf
    refine mw_getr hx hb hts inX6 hown hw (ci := 6) rfl 1 (by decide) (hts _ tw_52) rfl e1 dX6_writeTo_32 ?_
    refine lv_iload_n hx hb dX6_writeTo_35 rfl (lv_at hl 2 rfl) ?_
    obtain ⟨v2, e2, hf⟩ := mw_b hf
    refine mw_iald hx hb hw 0 rfl e2 dX6_writeTo_36 ?_
    refine lv_icmp_ge hx hb dX6_writeTo_37 (tgt := 61) (by decide) (fun hc => ?_) (fun hc => ?_)
    · rw [if_pos hc] at hf
      exact mw_vret hx hb hr hlocks hw hf dX6_writeTo_61
    · rw [if_neg hc] at hf
      refine lv_aload_n hx hb dX6_writeTo_40 rfl (lv_at hl 1 rfl) ?_
      refine lv_aload_n hx hb dX6_writeTo_41 rfl (lv_at hl 0 rfl) ?_
      obtain ⟨v3, e3, hf⟩ := mw_b hf
      refine mw_getr hx hb hts inX6 hown hw (ci := 6) rfl 0 (by decide) (hts _ tw_51) rfl e3 dX6_writeTo_42 ?_
      refine lv_iload_n hx hb dX6_writeTo_45 rfl (lv_at hl 2 rfl) ?_
      refine lv_bipush (v := 8) hx hb dX6_writeTo_46 (by decide) ?_
      refine lv_imul hx hb dX6_writeTo_48 ?_
      refine lv_iload_n hx hb dX6_writeTo_49 rfl (lv_at hl 3 rfl) ?_
      refine lv_iadd hx hb dX6_writeTo_50 ?_
      obtain ⟨v4, e4, hf⟩ := mw_b hf
      refine mw_cald hx hb hw 2 rfl e4 dX6_writeTo_51 ?_
      obtain ⟨S5, e5, hf⟩ := mw_b hf
      obtain ⟨ho, e5⟩ := mw_v_s e5
      refine mw_callv (va_runV (As := [.int v4]) (rest := []) ⟨hx, hb, hml, hown, hts⟩ (cm_X0_add l D G N S y1 v4 S5 e5) (cwV 1 hts (mw_gV tw_716 tw_329 tw_330 tw_6 tw_331) rfl rfl rfl (by decide +kernel) ⟨Nat.le_of_ble_eq_true rfl, Nat.le_of_ble_eq_true rfl⟩) (mw_preV hw (ci := 0) rfl ho) rfl rfl hl.1 rfl (lv_room (Nat.le_of_ble_eq_true rfl)) dX6_writeTo_52 ⟨(Nat.le_of_ble_eq_true rfl), (Nat.le_of_ble_eq_true rfl)⟩) hw (fun H locs hw => ?_)
      refine lv_iinc (k := 3) (v := (y3 + 1)) hx hb dX6_writeTo_55 hl rfl (congrArg (fun q => y3 + q) (show Int32.ofInt 1 = 1 by decide)) (by decide) rfl (fun ls hl => ?_)
      have hl : lv_has ls 4 [(3, .int (y3 + 1)), (0, .ref y0), (1, .ref y1), (2, .int y2)] := hl
      refine lv_goto hx hb dX6_writeTo_58 (tgt := 30) (by decide) ?_
      exact ih _ _ _ _ _ _ _ _ hf (lv_sub hl [1, 2, 3, 0] rfl) hw
set_option maxHeartbeats 4000000 in
set_option maxRecDepth 100000 in
theorem cm_X6_writeTo (l : Launch) (D : va_G) (G : Nat → ClassId) (N : Nat) (S : mw_M) (h0 : Nat) (x1 : Nat) (x2 : Int32) (z : mw_M) (hf : pf_X6_writeTo G N S h0 x1 x2 = some z) : Met l yX6_writeTo wsX6_writeTo rmX6_writeTo (va_Pc [.ref h0, .ref x1, .int x2] (mw_B D vwCl (mw_tys G) mw_aos S)) (mw_Qv D vwCl (mw_tys G) mw_aos (mw_A S) z) 0 0 (mw_A S) := by
  refine Met.ofW (cc := cX6_writeTo) (maxL := 4) (ret := none) (by decide) rfl ?_
  intro p e s m args below meth c s₁ B hml hv
  obtain ⟨rfl, hB⟩ := hv
  have hw := mw_begin hB
  have hx := B.exec
  have hb := B.bytes
  have hr := B.returns
  have hts : ∀ w ∈ lw_good, w.before _ s = true := fun w h => atoms_spec (ws := wsX6_writeTo) B.pre w (List.mem_cons_of_mem _ h)
  have hown : s.vm.findClass RX6 = some m.cls := findClass_of_methodNamed B.named
  have hlocks := B.notSynchronized
  have hC : mw_C p s m _ meth c cX6_writeTo RX6 none lw_good 4 := ⟨hx, hb, hml, hown, hts, hr, hlocks⟩
  have hl := lv_entry ([.ref h0, .ref x1, .int x2]) (n := 4) (Nat.le_of_ble_eq_true rfl)
  rw [lg_entry_eq]
  generalize (lg_sl ([.ref h0, .ref x1, .int x2]) ++ List.replicate (4 - (lg_sl ([.ref h0, .ref x1, .int x2])).length) Slot.unset).toArray = ls at hl ⊢
  have hl : lv_has ls 4 [(0, .ref h0), (1, .ref x1), (2, .int x2)] := hl
  unfold pf_X6_writeTo at hf
  refine lv_iload_n hx hb dX6_writeTo_0 rfl (lv_at hl 2 rfl) ?_
  refine lv_if_lt hx hb dX6_writeTo_1 (tgt := 12) (by decide) (fun hc => ?_) (fun hc => ?_)
  · rw [if_pos hc] at hf
    exact mw_vret hx hb hr hlocks hw hf dX6_writeTo_12
  · rw [if_neg hc] at hf
    refine lv_iload_n hx hb dX6_writeTo_4 rfl (lv_at hl 2 rfl) ?_
    refine lv_aload_n hx hb dX6_writeTo_5 rfl (lv_at hl 0 rfl) ?_
    obtain ⟨v1, e1, hf⟩ := mw_b hf
    refine mw_geti hx hb hts inX6 hown hw (ci := 6) rfl 2 (by decide) (hts _ tw_53) rfl e1 dX6_writeTo_6 ?_
    refine lv_icmp_lt hx hb dX6_writeTo_9 (tgt := 13) (by decide) (fun hc => ?_) (fun hc => ?_)
    · rw [if_pos hc] at hf
      refine lv_aload_n hx hb dX6_writeTo_13 rfl (lv_at hl 1 rfl) ?_
      refine lv_iload_n hx hb dX6_writeTo_14 rfl (lv_at hl 2 rfl) ?_
      obtain ⟨S2, e2, hf⟩ := mw_b hf
      obtain ⟨ho, e2⟩ := mw_v_s e2
      refine mw_callv (va_runV (As := [.int x2]) (rest := []) ⟨hx, hb, hml, hown, hts⟩ (cm_X0_addVariable l D G N S x1 x2 S2 e2) (cwV 1 hts (mw_gV tw_715 tw_322 tw_323 tw_6 tw_324) rfl rfl rfl (by decide +kernel) ⟨Nat.le_of_ble_eq_true rfl, Nat.le_of_ble_eq_true rfl⟩) (mw_preV hw (ci := 0) rfl ho) rfl rfl hl.1 rfl (lv_room (Nat.le_of_ble_eq_true rfl)) dX6_writeTo_15 ⟨(Nat.le_of_ble_eq_true rfl), (Nat.le_of_ble_eq_true rfl)⟩) hw (fun H locs hw => ?_)
      refine lv_aload_n hx hb dX6_writeTo_18 rfl (lv_at hl 1 rfl) ?_
      refine lv_aload_n hx hb dX6_writeTo_19 rfl (lv_at hl 0 rfl) ?_
      obtain ⟨v3, e3, hf⟩ := mw_b hf
      refine mw_getr hx hb hts inX6 hown hw (ci := 6) rfl 1 (by decide) (hts _ tw_52) rfl e3 dX6_writeTo_20 ?_
      refine lv_iload_n hx hb dX6_writeTo_23 rfl (lv_at hl 2 rfl) ?_
      obtain ⟨v4, e4, hf⟩ := mw_b hf
      refine mw_iald hx hb hw 0 rfl e4 dX6_writeTo_24 ?_
      obtain ⟨S5, e5, hf⟩ := mw_b hf
      obtain ⟨ho, e5⟩ := mw_v_s e5
      refine mw_callv (va_runV (As := [.int v4]) (rest := []) ⟨hx, hb, hml, hown, hts⟩ (cm_X0_addVariable l D G N S2 x1 v4 S5 e5) (cwV 1 hts (mw_gV tw_715 tw_322 tw_323 tw_6 tw_324) rfl rfl rfl (by decide +kernel) ⟨Nat.le_of_ble_eq_true rfl, Nat.le_of_ble_eq_true rfl⟩) (mw_preV hw (ci := 0) rfl ho) rfl rfl hl.1 rfl (lv_room (Nat.le_of_ble_eq_true rfl)) dX6_writeTo_25 ⟨(Nat.le_of_ble_eq_true rfl), (Nat.le_of_ble_eq_true rfl)⟩) hw (fun H locs hw => ?_)
      refine lv_iconst (v := 0) hx hb dX6_writeTo_28 (by decide) ?_
      refine lv_istore_n hx hb dX6_writeTo_29 rfl hl (by decide) rfl (fun ls hl => ?_)
      have hl : lv_has ls 4 [(3, .int 0), (0, .ref h0), (1, .ref x1), (2, .int x2)] := hl
      exact bX6_writeTo_30 ⟨hx, hb, hml, hown, hts, hr, hlocks⟩ D G N N _ _ _ _ _ _ _ _ hf (lv_sub hl [1, 2, 3, 0] rfl) hw
    · rw [if_neg hc] at hf
      exact mw_vret hx hb hr hlocks hw hf dX6_writeTo_12
abbrev rmX1_writeTo : Room := { frames := 3, cells := 0, slots := 0, locals := 68 }
abbrev wsX1_writeTo : List Cond := Cond.code yX1_writeTo cX1_writeTo 4 none :: lw_good
set_option maxHeartbeats 4000000 in
set_option maxRecDepth 100000 in
theorem bX1_writeTo_53 {p : Program} {l : Launch} {e : Env} {s : State} {m : MethodId} {args : Array Value} {below : List Frame} {meth : Method} {c : Code} (hC : mw_C p s m args meth c cX1_writeTo RX1 none lw_good 4) (D : va_G) (G : Nat → ClassId) (N : Nat) {A : Nat → Prop} {z : mw_M} : ∀ (n : Nat) (y0 : Nat) (y1 : Nat) (y2 : Nat) (y3 : Int32) (S : mw_M) (H : Heap) (locs : List Loc) (ls : Array Slot), pf_X1_writeTo_53 G N n y0 y1 y2 y3 S = some z → lv_has ls 4 [(0, .ref y0), (1, .ref y1), (2, .ref y2), (3, .int y3)] → mw_W D vwCl (mw_tys G) mw_aos A s S H locs → W p l e (headSpec wsX1_writeTo rmX1_writeTo).room s m args below meth c H locs 0 0 (MQ below (mw_Qv D vwCl (mw_tys G) mw_aos A z) args s 0 0 A) (F0 m 53 ls []) := by
  obtain ⟨hx, hb, hml, hown, hts, hr, hlocks⟩ := hC
  intro n
  induction n with
  | zero => intro y0 y1 y2 y3 S H locs ls hf; rw [pf_X1_writeTo_53] at hf; cases hf
  | succ n ih =>
    intro y0 y1 y2 y3 S H locs ls hf hl hw
    rw [pf_X1_writeTo_53] at hf
    refine lv_iload_n hx hb dX1_writeTo_53 rfl (lv_at hl 3 rfl) ?_
    refine lv_bipush (v := 24) hx hb dX1_writeTo_54 (by decide) ?_
    refine lv_icmp_ge hx hb dX1_writeTo_56 (tgt := 80) (by decide) (fun hc => ?_) (fun hc => ?_)
    · rw [if_pos hc] at hf
      exact mw_vret hx hb hr hlocks hw hf dX1_writeTo_80
    · rw [if_neg hc] at hf
      refine lv_aload_n hx hb dX1_writeTo_59 rfl (lv_at hl 0 rfl) ?_
      obtain ⟨v1, e1, hf⟩ := mw_b hf
      refine mw_getr hx hb hts inX1 hown hw (ci := 1) rfl 1 (by decide) (hts _ tw_159) rfl e1 dX1_writeTo_60 ?_
      refine lv_iload_n hx hb dX1_writeTo_63 rfl (lv_at hl 3 rfl) ?_
      obtain ⟨v2, e2, hf⟩ := mw_b hf
      refine mw_zald hx hb hw 3 rfl e2 dX1_writeTo_64 ?_
      refine lv_if_eq hx hb dX1_writeTo_65 (tgt := 74) (by decide) (fun hc => ?_) (fun hc => ?_)
      · rw [if_pos hc] at hf
        refine lv_iinc (k := 3) (v := (y3 + 1)) hx hb dX1_writeTo_74 hl rfl (congrArg (fun q => y3 + q) (show Int32.ofInt 1 = 1 by decide)) (by decide) rfl (fun ls hl => ?_)
        have hl : lv_has ls 4 [(3, .int (y3 + 1)), (0, .ref y0), (1, .ref y1), (2, .ref y2)] := hl
        refine lv_goto hx hb dX1_writeTo_77 (tgt := 53) (by decide) ?_
        exact ih _ _ _ _ _ _ _ _ hf (lv_sub hl [1, 2, 3, 0] rfl) hw
      · rw [if_neg hc] at hf
        refine lv_aload_n hx hb dX1_writeTo_68 rfl (lv_at hl 2 rfl) ?_
        refine lv_aload_n hx hb dX1_writeTo_69 rfl (lv_at hl 1 rfl) ?_
        refine lv_iload_n hx hb dX1_writeTo_70 rfl (lv_at hl 3 rfl) ?_
        obtain ⟨S3, e3, hf⟩ := mw_b hf
        obtain ⟨ho, e3⟩ := mw_v_s e3
        refine mw_callv (va_runV (As := [.ref y1, .int y3]) (rest := []) ⟨hx, hb, hml, hown, hts⟩ (cm_X6_writeTo l D G N S y2 y1 y3 S3 e3) (cwV 2 hts (mw_gV tw_711 tw_712 tw_713 tw_4 tw_714) rfl rfl rfl (by decide +kernel) ⟨Nat.le_of_ble_eq_true rfl, Nat.le_of_ble_eq_true rfl⟩) (mw_preV hw (ci := 6) rfl ho) rfl rfl hl.1 rfl (lv_room (Nat.le_of_ble_eq_true rfl)) dX1_writeTo_71 ⟨(Nat.le_of_ble_eq_true rfl), (Nat.le_of_ble_eq_true rfl)⟩) hw (fun H locs hw => ?_)
        refine lv_iinc (k := 3) (v := (y3 + 1)) hx hb dX1_writeTo_74 hl rfl (congrArg (fun q => y3 + q) (show Int32.ofInt 1 = 1 by decide)) (by decide) rfl (fun ls hl => ?_)
        have hl : lv_has ls 4 [(3, .int (y3 + 1)), (0, .ref y0), (1, .ref y1), (2, .ref y2)] := hl
        refine lv_goto hx hb dX1_writeTo_77 (tgt := 53) (by decide) ?_
        exact ih _ _ _ _ _ _ _ _ hf (lv_sub hl [1, 2, 3, 0] rfl) hw
set_option maxHeartbeats 4000000 in
set_option maxRecDepth 100000 in
theorem cm_X1_writeTo (l : Launch) (D : va_G) (G : Nat → ClassId) (N : Nat) (S : mw_M) (h0 : Nat) (x1 : Nat) (x2 : Nat) (z : mw_M) (hf : pf_X1_writeTo G N S h0 x1 x2 = some z) : Met l yX1_writeTo wsX1_writeTo rmX1_writeTo (va_Pc [.ref h0, .ref x1, .ref x2] (mw_B D vwCl (mw_tys G) mw_aos S)) (mw_Qv D vwCl (mw_tys G) mw_aos (mw_A S) z) 0 0 (mw_A S) := by
  refine Met.ofW (cc := cX1_writeTo) (maxL := 4) (ret := none) (by decide) rfl ?_
  intro p e s m args below meth c s₁ B hml hv
  obtain ⟨rfl, hB⟩ := hv
  have hw := mw_begin hB
  have hx := B.exec
  have hb := B.bytes
  have hr := B.returns
  have hts : ∀ w ∈ lw_good, w.before _ s = true := fun w h => atoms_spec (ws := wsX1_writeTo) B.pre w (List.mem_cons_of_mem _ h)
  have hown : s.vm.findClass RX1 = some m.cls := findClass_of_methodNamed B.named
  have hlocks := B.notSynchronized
  have hC : mw_C p s m _ meth c cX1_writeTo RX1 none lw_good 4 := ⟨hx, hb, hml, hown, hts, hr, hlocks⟩
  have hl := lv_entry ([.ref h0, .ref x1, .ref x2]) (n := 4) (Nat.le_of_ble_eq_true rfl)
  rw [lg_entry_eq]
  generalize (lg_sl ([.ref h0, .ref x1, .ref x2]) ++ List.replicate (4 - (lg_sl ([.ref h0, .ref x1, .ref x2])).length) Slot.unset).toArray = ls at hl ⊢
  have hl : lv_has ls 4 [(0, .ref h0), (1, .ref x1), (2, .ref x2)] := hl
  unfold pf_X1_writeTo at hf
  refine lv_aload_n hx hb dX1_writeTo_0 rfl (lv_at hl 1 rfl) ?_
  refine lv_bipush (v := 70) hx hb dX1_writeTo_1 (by decide) ?_
  obtain ⟨S1, e1, hf⟩ := mw_b hf
  obtain ⟨ho, e1⟩ := mw_v_s e1
  refine mw_callv (va_runV (As := [.int 70]) (rest := []) ⟨hx, hb, hml, hown, hts⟩ (cm_X0_add l D G N S x1 70 S1 e1) (cwV 1 hts (mw_gV tw_418 tw_329 tw_330 tw_6 tw_331) rfl rfl rfl (by decide +kernel) ⟨Nat.le_of_ble_eq_true rfl, Nat.le_of_ble_eq_true rfl⟩) (mw_preV hw (ci := 0) rfl ho) rfl rfl hl.1 rfl (lv_room (Nat.le_of_ble_eq_true rfl)) dX1_writeTo_3 ⟨(Nat.le_of_ble_eq_true rfl), (Nat.le_of_ble_eq_true rfl)⟩) hw (fun H locs hw => ?_)
  refine lv_aload_n hx hb dX1_writeTo_6 rfl (lv_at hl 1 rfl) ?_
  refine lv_aload_n hx hb dX1_writeTo_7 rfl (lv_at hl 0 rfl) ?_
  obtain ⟨v2, e2, hf⟩ := mw_b hf
  refine mw_geti hx hb hts inX1 hown hw (ci := 1) rfl 2 (by decide) (hts _ tw_160) rfl e2 dX1_writeTo_8 ?_
  obtain ⟨S3, e3, hf⟩ := mw_b hf
  obtain ⟨ho, e3⟩ := mw_v_s e3
  refine mw_callv (va_runV (As := [.int v2]) (rest := []) ⟨hx, hb, hml, hown, hts⟩ (cm_X0_addVariable l D G N S1 x1 v2 S3 e3) (cwV 1 hts (mw_gV tw_417 tw_322 tw_323 tw_6 tw_324) rfl rfl rfl (by decide +kernel) ⟨Nat.le_of_ble_eq_true rfl, Nat.le_of_ble_eq_true rfl⟩) (mw_preV hw (ci := 0) rfl ho) rfl rfl hl.1 rfl (lv_room (Nat.le_of_ble_eq_true rfl)) dX1_writeTo_11 ⟨(Nat.le_of_ble_eq_true rfl), (Nat.le_of_ble_eq_true rfl)⟩) hw (fun H locs hw => ?_)
  refine lv_aload_n hx hb dX1_writeTo_14 rfl (lv_at hl 1 rfl) ?_
  refine lv_aload_n hx hb dX1_writeTo_15 rfl (lv_at hl 0 rfl) ?_
  obtain ⟨v4, e4, hf⟩ := mw_b hf
  refine mw_geti hx hb hts inX1 hown hw (ci := 1) rfl 3 (by decide) (hts _ tw_161) rfl e4 dX1_writeTo_16 ?_
  obtain ⟨S5, e5, hf⟩ := mw_b hf
  obtain ⟨ho, e5⟩ := mw_v_s e5
  refine mw_callv (va_runV (As := [.int v4]) (rest := []) ⟨hx, hb, hml, hown, hts⟩ (cm_X0_addVariable l D G N S3 x1 v4 S5 e5) (cwV 1 hts (mw_gV tw_417 tw_322 tw_323 tw_6 tw_324) rfl rfl rfl (by decide +kernel) ⟨Nat.le_of_ble_eq_true rfl, Nat.le_of_ble_eq_true rfl⟩) (mw_preV hw (ci := 0) rfl ho) rfl rfl hl.1 rfl (lv_room (Nat.le_of_ble_eq_true rfl)) dX1_writeTo_19 ⟨(Nat.le_of_ble_eq_true rfl), (Nat.le_of_ble_eq_true rfl)⟩) hw (fun H locs hw => ?_)
  refine lv_aload_n hx hb dX1_writeTo_22 rfl (lv_at hl 1 rfl) ?_
  refine lv_aload_n hx hb dX1_writeTo_23 rfl (lv_at hl 0 rfl) ?_
  obtain ⟨v6, e6, hf⟩ := mw_b hf
  refine mw_geti hx hb hts inX1 hown hw (ci := 1) rfl 4 (by decide) (hts _ tw_162) rfl e6 dX1_writeTo_24 ?_
  obtain ⟨S7, e7, hf⟩ := mw_b hf
  obtain ⟨ho, e7⟩ := mw_v_s e7
  refine mw_callv (va_runV (As := [.int v6]) (rest := []) ⟨hx, hb, hml, hown, hts⟩ (cm_X0_addVariable l D G N S5 x1 v6 S7 e7) (cwV 1 hts (mw_gV tw_417 tw_322 tw_323 tw_6 tw_324) rfl rfl rfl (by decide +kernel) ⟨Nat.le_of_ble_eq_true rfl, Nat.le_of_ble_eq_true rfl⟩) (mw_preV hw (ci := 0) rfl ho) rfl rfl hl.1 rfl (lv_room (Nat.le_of_ble_eq_true rfl)) dX1_writeTo_27 ⟨(Nat.le_of_ble_eq_true rfl), (Nat.le_of_ble_eq_true rfl)⟩) hw (fun H locs hw => ?_)
  refine lv_aload_n hx hb dX1_writeTo_30 rfl (lv_at hl 1 rfl) ?_
  refine lv_aload_n hx hb dX1_writeTo_31 rfl (lv_at hl 0 rfl) ?_
  obtain ⟨v8, e8, hf⟩ := mw_b hf
  refine mw_getr hx hb hts inX1 hown hw (ci := 1) rfl 0 (by decide) (hts _ tw_158) rfl e8 dX1_writeTo_32 ?_
  obtain ⟨S9, e9, hf⟩ := mw_b hf
  obtain ⟨ho, e9⟩ := mw_v_s e9
  refine mw_callv (va_runV (As := [.ref v8]) (rest := []) ⟨hx, hb, hml, hown, hts⟩ (cm_X0_addRow l D G N S7 x1 v8 S9 e9) (cwV 1 hts (mw_gV tw_706 tw_361 tw_362 tw_6 tw_363) rfl rfl rfl (by decide +kernel) ⟨Nat.le_of_ble_eq_true rfl, Nat.le_of_ble_eq_true rfl⟩) (mw_preV hw (ci := 0) rfl ho) rfl rfl hl.1 rfl (lv_room (Nat.le_of_ble_eq_true rfl)) dX1_writeTo_35 ⟨(Nat.le_of_ble_eq_true rfl), (Nat.le_of_ble_eq_true rfl)⟩) hw (fun H locs hw => ?_)
  refine lv_aload_n hx hb dX1_writeTo_38 rfl (lv_at hl 1 rfl) ?_
  refine lv_iconst (v := 0) hx hb dX1_writeTo_39 (by decide) ?_
  obtain ⟨S10, e10, hf⟩ := mw_b hf
  obtain ⟨ho, e10⟩ := mw_v_s e10
  refine mw_callv (va_runV (As := [.int 0]) (rest := []) ⟨hx, hb, hml, hown, hts⟩ (cm_X0_add l D G N S9 x1 0 S10 e10) (cwV 1 hts (mw_gV tw_418 tw_329 tw_330 tw_6 tw_331) rfl rfl rfl (by decide +kernel) ⟨Nat.le_of_ble_eq_true rfl, Nat.le_of_ble_eq_true rfl⟩) (mw_preV hw (ci := 0) rfl ho) rfl rfl hl.1 rfl (lv_room (Nat.le_of_ble_eq_true rfl)) dX1_writeTo_40 ⟨(Nat.le_of_ble_eq_true rfl), (Nat.le_of_ble_eq_true rfl)⟩) hw (fun H locs hw => ?_)
  refine lv_aload_n hx hb dX1_writeTo_43 rfl (lv_at hl 1 rfl) ?_
  refine lv_aload_n hx hb dX1_writeTo_44 rfl (lv_at hl 0 rfl) ?_
  obtain ⟨v11, S11, e11, hf⟩ := mw_bb hf
  obtain ⟨ho, e11⟩ := mw_v_s e11
  refine mw_calli (va_runV (As := []) (rest := [.ref x1]) ⟨hx, hb, hml, hown, hts⟩ (cm_X1_countStrings l D G N S10 h0 (v11, S11) e11) (cwV 0 hts (mw_gV tw_707 tw_709 tp_16 tw_10 tw_710) rfl rfl rfl (by decide +kernel) ⟨Nat.le_of_ble_eq_true rfl, Nat.le_of_ble_eq_true rfl⟩) (mw_preV hw (ci := 1) rfl ho) rfl rfl hl.1 rfl (lv_room (Nat.le_of_ble_eq_true rfl)) dX1_writeTo_45 ⟨(Nat.le_of_ble_eq_true rfl), (Nat.le_of_ble_eq_true rfl)⟩) hw (fun H locs hw => ?_)
  obtain ⟨S12, e12, hf⟩ := mw_b hf
  obtain ⟨ho, e12⟩ := mw_v_s e12
  refine mw_callv (va_runV (As := [.int v11]) (rest := []) ⟨hx, hb, hml, hown, hts⟩ (cm_X0_addVariable l D G N S11 x1 v11 S12 e12) (cwV 1 hts (mw_gV tw_417 tw_322 tw_323 tw_6 tw_324) rfl rfl rfl (by decide +kernel) ⟨Nat.le_of_ble_eq_true rfl, Nat.le_of_ble_eq_true rfl⟩) (mw_preV hw (ci := 0) rfl ho) rfl rfl hl.1 rfl (lv_room (Nat.le_of_ble_eq_true rfl)) dX1_writeTo_48 ⟨(Nat.le_of_ble_eq_true rfl), (Nat.le_of_ble_eq_true rfl)⟩) hw (fun H locs hw => ?_)
  refine lv_iconst (v := 0) hx hb dX1_writeTo_51 (by decide) ?_
  refine lv_istore_n hx hb dX1_writeTo_52 rfl hl (by decide) rfl (fun ls hl => ?_)
  have hl : lv_has ls 4 [(3, .int 0), (0, .ref h0), (1, .ref x1), (2, .ref x2)] := hl
  exact bX1_writeTo_53 ⟨hx, hb, hml, hown, hts, hr, hlocks⟩ D G N N _ _ _ _ _ _ _ _ hf (lv_sub hl [1, 2, 3, 0] rfl) hw
abbrev rmX2_writeKept : Room := { frames := 4, cells := 0, slots := 0, locals := 91 }
abbrev wsX2_writeKept : List Cond := Cond.code yX2_writeKept cX2_writeKept 6 none :: lw_good
set_option maxHeartbeats 4000000 in
set_option maxRecDepth 100000 in
theorem bX2_writeKept_3 {p : Program} {l : Launch} {e : Env} {s : State} {m : MethodId} {args : Array Value} {below : List Frame} {meth : Method} {c : Code} (hC : mw_C p s m args meth c cX2_writeKept RX2 none lw_good 6) (D : va_G) (G : Nat → ClassId) (N : Nat) {A : Nat → Prop} {z : mw_M} : ∀ (n : Nat) (y0 : Nat) (y1 : Nat) (y2 : Nat) (y3 : Int32) (y4 : Int32) (y5 : Int32) (S : mw_M) (H : Heap) (locs : List Loc) (ls : Array Slot), pf_X2_writeKept_3 G N n y0 y1 y2 y3 y4 y5 S = some z → lv_has ls 6 [(0, .ref y0), (1, .ref y1), (2, .ref y2), (3, .int y3), (4, .int y4), (5, .int y5)] → mw_W D vwCl (mw_tys G) mw_aos A s S H locs → W p l e (headSpec wsX2_writeKept rmX2_writeKept).room s m args below meth c H locs 0 0 (MQ below (mw_Qv D vwCl (mw_tys G) mw_aos A z) args s 0 0 A) (F0 m 3 ls []) := by
  obtain ⟨hx, hb, hml, hown, hts, hr, hlocks⟩ := hC
  intro n
  induction n with
  | zero => intro y0 y1 y2 y3 y4 y5 S H locs ls hf; rw [pf_X2_writeKept_3] at hf; cases hf
  | succ n ih =>
    intro y0 y1 y2 y3 y4 y5 S H locs ls hf hl hw
    rw [pf_X2_writeKept_3] at hf
    refine lv_iload hx hb dX2_writeKept_3 (lv_at hl 5 rfl) ?_
    refine lv_aload_n hx hb dX2_writeKept_5 rfl (lv_at hl 0 rfl) ?_
    obtain ⟨v1, e1, hf⟩ := mw_b hf
    refine mw_geti hx hb hts inX2 hown hw (ci := 2) rfl 1 (by decide) (hts _ tw_183) rfl e1 dX2_writeKept_6 ?_
    refine lv_icmp_ge hx hb dX2_writeKept_9 (tgt := 59) (by decide) (fun hc => ?_) (fun hc => ?_)
    · rw [if_pos hc] at hf
      exact mw_vret hx hb hr hlocks hw hf dX2_writeKept_59
    · rw [if_neg hc] at hf
      refine lv_aload_n hx hb dX2_writeKept_12 rfl (lv_at hl 0 rfl) ?_
      obtain ⟨v2, e2, hf⟩ := mw_b hf
      refine mw_getr hx hb hts inX2 hown hw (ci := 2) rfl 0 (by decide) (hts _ tw_182) rfl e2 dX2_writeKept_13 ?_
      refine lv_iload hx hb dX2_writeKept_16 (lv_at hl 5 rfl) ?_
      obtain ⟨v3, e3, hf⟩ := mw_b hf
      refine mw_aald hx hb hw 7 rfl e3 dX2_writeKept_18 ?_
      obtain ⟨v4, S4, e4, hf⟩ := mw_bb hf
      obtain ⟨ho, e4⟩ := mw_v_s e4
      refine mw_calli (va_runV (As := []) (rest := []) ⟨hx, hb, hml, hown, hts⟩ (cm_X1_number l D G N S v3 (v4, S4) e4) (cwV 0 hts (mw_gV tw_424 tw_425 tw_426 tw_10 tw_427) rfl rfl rfl (by decide +kernel) ⟨Nat.le_of_ble_eq_true rfl, Nat.le_of_ble_eq_true rfl⟩) (mw_preV hw (ci := 1) rfl ho) rfl rfl hl.1 rfl (lv_room (Nat.le_of_ble_eq_true rfl)) dX2_writeKept_19 ⟨(Nat.le_of_ble_eq_true rfl), (Nat.le_of_ble_eq_true rfl)⟩) hw (fun H locs hw => ?_)
      refine lv_iload_n hx hb dX2_writeKept_22 rfl (lv_at hl 3 rfl) ?_
      refine lv_icmp_lt hx hb dX2_writeKept_23 (tgt := 53) (by decide) (fun hc => ?_) (fun hc => ?_)
      · rw [if_pos hc] at hf
        refine lv_iinc (k := 5) (v := (y5 + 1)) hx hb dX2_writeKept_53 hl rfl (congrArg (fun q => y5 + q) (show Int32.ofInt 1 = 1 by decide)) (by decide) rfl (fun ls hl => ?_)
        have hl : lv_has ls 6 [(5, .int (y5 + 1)), (0, .ref y0), (1, .ref y1), (2, .ref y2), (3, .int y3), (4, .int y4)] := hl
        refine lv_goto hx hb dX2_writeKept_56 (tgt := 3) (by decide) ?_
        exact ih _ _ _ _ _ _ _ _ _ _ hf (lv_sub hl [1, 2, 3, 4, 5, 0] rfl) hw
      · rw [if_neg hc] at hf
        refine lv_aload_n hx hb dX2_writeKept_26 rfl (lv_at hl 0 rfl) ?_
        obtain ⟨v5, e5, hf⟩ := mw_b hf
        refine mw_getr hx hb hts inX2 hown hw (ci := 2) rfl 0 (by decide) (hts _ tw_182) rfl e5 dX2_writeKept_27 ?_
        refine lv_iload hx hb dX2_writeKept_30 (lv_at hl 5 rfl) ?_
        obtain ⟨v6, e6, hf⟩ := mw_b hf
        refine mw_aald hx hb hw 7 rfl e6 dX2_writeKept_32 ?_
        obtain ⟨v7, S7, e7, hf⟩ := mw_bb hf
        obtain ⟨ho, e7⟩ := mw_v_s e7
        refine mw_calli (va_runV (As := []) (rest := []) ⟨hx, hb, hml, hown, hts⟩ (cm_X1_number l D G N S4 v6 (v7, S7) e7) (cwV 0 hts (mw_gV tw_424 tw_425 tw_426 tw_10 tw_427) rfl rfl rfl (by decide +kernel) ⟨Nat.le_of_ble_eq_true rfl, Nat.le_of_ble_eq_true rfl⟩) (mw_preV hw (ci := 1) rfl ho) rfl rfl hl.1 rfl (lv_room (Nat.le_of_ble_eq_true rfl)) dX2_writeKept_33 ⟨(Nat.le_of_ble_eq_true rfl), (Nat.le_of_ble_eq_true rfl)⟩) hw (fun H locs hw => ?_)
        refine lv_iload hx hb dX2_writeKept_36 (lv_at hl 4 rfl) ?_
        refine lv_icmp_gt hx hb dX2_writeKept_38 (tgt := 53) (by decide) (fun hc => ?_) (fun hc => ?_)
        · rw [if_pos hc] at hf
          refine lv_iinc (k := 5) (v := (y5 + 1)) hx hb dX2_writeKept_53 hl rfl (congrArg (fun q => y5 + q) (show Int32.ofInt 1 = 1 by decide)) (by decide) rfl (fun ls hl => ?_)
          have hl : lv_has ls 6 [(5, .int (y5 + 1)), (0, .ref y0), (1, .ref y1), (2, .ref y2), (3, .int y3), (4, .int y4)] := hl
          refine lv_goto hx hb dX2_writeKept_56 (tgt := 3) (by decide) ?_
          exact ih _ _ _ _ _ _ _ _ _ _ hf (lv_sub hl [1, 2, 3, 4, 5, 0] rfl) hw
        · rw [if_neg hc] at hf
          refine lv_aload_n hx hb dX2_writeKept_41 rfl (lv_at hl 0 rfl) ?_
          obtain ⟨v8, e8, hf⟩ := mw_b hf
          refine mw_getr hx hb hts inX2 hown hw (ci := 2) rfl 0 (by decide) (hts _ tw_182) rfl e8 dX2_writeKept_42 ?_
          refine lv_iload hx hb dX2_writeKept_45 (lv_at hl 5 rfl) ?_
          obtain ⟨v9, e9, hf⟩ := mw_b hf
          refine mw_aald hx hb hw 7 rfl e9 dX2_writeKept_47 ?_
          refine lv_aload_n hx hb dX2_writeKept_48 rfl (lv_at hl 1 rfl) ?_
          refine lv_aload_n hx hb dX2_writeKept_49 rfl (lv_at hl 2 rfl) ?_
          obtain ⟨S10, e10, hf⟩ := mw_b hf
          obtain ⟨ho, e10⟩ := mw_v_s e10
          refine mw_callv (va_runV (As := [.ref y1, .ref y2]) (rest := []) ⟨hx, hb, hml, hown, hts⟩ (cm_X1_writeTo l D G N S7 v9 y1 y2 S10 e10) (cwV 2 hts (mw_gV tw_702 tw_703 tw_704 tw_10 tw_705) rfl rfl rfl (by decide +kernel) ⟨Nat.le_of_ble_eq_true rfl, Nat.le_of_ble_eq_true rfl⟩) (mw_preV hw (ci := 1) rfl ho) rfl rfl hl.1 rfl (lv_room (Nat.le_of_ble_eq_true rfl)) dX2_writeKept_50 ⟨(Nat.le_of_ble_eq_true rfl), (Nat.le_of_ble_eq_true rfl)⟩) hw (fun H locs hw => ?_)
          refine lv_iinc (k := 5) (v := (y5 + 1)) hx hb dX2_writeKept_53 hl rfl (congrArg (fun q => y5 + q) (show Int32.ofInt 1 = 1 by decide)) (by decide) rfl (fun ls hl => ?_)
          have hl : lv_has ls 6 [(5, .int (y5 + 1)), (0, .ref y0), (1, .ref y1), (2, .ref y2), (3, .int y3), (4, .int y4)] := hl
          refine lv_goto hx hb dX2_writeKept_56 (tgt := 3) (by decide) ?_
          exact ih _ _ _ _ _ _ _ _ _ _ hf (lv_sub hl [1, 2, 3, 4, 5, 0] rfl) hw
set_option maxHeartbeats 4000000 in
set_option maxRecDepth 100000 in
theorem cm_X2_writeKept (l : Launch) (D : va_G) (G : Nat → ClassId) (N : Nat) (S : mw_M) (h0 : Nat) (x1 : Nat) (x2 : Nat) (x3 : Int32) (x4 : Int32) (z : mw_M) (hf : pf_X2_writeKept G N S h0 x1 x2 x3 x4 = some z) : Met l yX2_writeKept wsX2_writeKept rmX2_writeKept (va_Pc [.ref h0, .ref x1, .ref x2, .int x3, .int x4] (mw_B D vwCl (mw_tys G) mw_aos S)) (mw_Qv D vwCl (mw_tys G) mw_aos (mw_A S) z) 0 0 (mw_A S) := by
  refine Met.ofW (cc := cX2_writeKept) (maxL := 6) (ret := none) (by decide) rfl ?_
  intro p e s m args below meth c s₁ B hml hv
  obtain ⟨rfl, hB⟩ := hv
  have hw := mw_begin hB
  have hx := B.exec
  have hb := B.bytes
  have hr := B.returns
  have hts : ∀ w ∈ lw_good, w.before _ s = true := fun w h => atoms_spec (ws := wsX2_writeKept) B.pre w (List.mem_cons_of_mem _ h)
  have hown : s.vm.findClass RX2 = some m.cls := findClass_of_methodNamed B.named
  have hlocks := B.notSynchronized
  have hC : mw_C p s m _ meth c cX2_writeKept RX2 none lw_good 6 := ⟨hx, hb, hml, hown, hts, hr, hlocks⟩
  have hl := lv_entry ([.ref h0, .ref x1, .ref x2, .int x3, .int x4]) (n := 6) (Nat.le_of_ble_eq_true rfl)
  rw [lg_entry_eq]
  generalize (lg_sl ([.ref h0, .ref x1, .ref x2, .int x3, .int x4]) ++ List.replicate (6 - (lg_sl ([.ref h0, .ref x1, .ref x2, .int x3, .int x4])).length) Slot.unset).toArray = ls at hl ⊢
  have hl : lv_has ls 6 [(0, .ref h0), (1, .ref x1), (2, .ref x2), (3, .int x3), (4, .int x4)] := hl
  unfold pf_X2_writeKept at hf
  refine lv_iconst (v := 0) hx hb dX2_writeKept_0 (by decide) ?_
  refine lv_istore hx hb dX2_writeKept_1 hl (by decide) rfl (fun ls hl => ?_)
  have hl : lv_has ls 6 [(5, .int 0), (0, .ref h0), (1, .ref x1), (2, .ref x2), (3, .int x3), (4, .int x4)] := hl
  exact bX2_writeKept_3 ⟨hx, hb, hml, hown, hts, hr, hlocks⟩ D G N N _ _ _ _ _ _ _ _ _ _ hf (lv_sub hl [1, 2, 3, 4, 5, 0] rfl) hw
abbrev rmX0_at : Room := { frames := 0, cells := 0, slots := 0, locals := 0 }
abbrev wsX0_at : List Cond := Cond.code yX0_at cX0_at 2 (some .int) :: lw_good
set_option maxHeartbeats 4000000 in
set_option maxRecDepth 100000 in
theorem cm_X0_at (l : Launch) (D : va_G) (G : Nat → ClassId) (N : Nat) (S : mw_M) (h0 : Nat) (x1 : Int32) (z : Int32 × mw_M) (hf : pf_X0_at G N S h0 x1 = some z) : Met l yX0_at wsX0_at rmX0_at (va_Pc [.ref h0, .int x1] (mw_B D vwCl (mw_tys G) mw_aos S)) (mw_Qi D vwCl (mw_tys G) mw_aos (mw_A S) z) 0 0 (mw_A S) := by
  refine Met.ofW (cc := cX0_at) (maxL := 2) (ret := (some .int)) (by decide) rfl ?_
  intro p e s m args below meth c s₁ B hml hv
  obtain ⟨rfl, hB⟩ := hv
  have hw := mw_begin hB
  have hx := B.exec
  have hb := B.bytes
  have hr := B.returns
  have hts : ∀ w ∈ lw_good, w.before _ s = true := fun w h => atoms_spec (ws := wsX0_at) B.pre w (List.mem_cons_of_mem _ h)
  have hown : s.vm.findClass RX0 = some m.cls := findClass_of_methodNamed B.named
  have hlocks := B.notSynchronized
  have hC : mw_C p s m _ meth c cX0_at RX0 (some .int) lw_good 2 := ⟨hx, hb, hml, hown, hts, hr, hlocks⟩
  have hl := lv_entry ([.ref h0, .int x1]) (n := 2) (Nat.le_of_ble_eq_true rfl)
  rw [lg_entry_eq]
  generalize (lg_sl ([.ref h0, .int x1]) ++ List.replicate (2 - (lg_sl ([.ref h0, .int x1])).length) Slot.unset).toArray = ls at hl ⊢
  have hl : lv_has ls 2 [(0, .ref h0), (1, .int x1)] := hl
  unfold pf_X0_at at hf
  refine lv_iload_n hx hb dX0_at_0 rfl (lv_at hl 1 rfl) ?_
  refine lv_if_lt hx hb dX0_at_1 (tgt := 25) (by decide) (fun hc => ?_) (fun hc => ?_)
  · rw [if_pos hc] at hf
    refine lv_iconst (v := (-1)) hx hb dX0_at_25 (by decide) ?_
    exact mw_iret hx hb hr hlocks hw hf dX0_at_26
  · rw [if_neg hc] at hf
    refine lv_iload_n hx hb dX0_at_4 rfl (lv_at hl 1 rfl) ?_
    refine lv_aload_n hx hb dX0_at_5 rfl (lv_at hl 0 rfl) ?_
    obtain ⟨v1, e1, hf⟩ := mw_b hf
    refine mw_geti hx hb hts inX0 hown hw (ci := 0) rfl 1 (by decide) (hts _ tw_76) rfl e1 dX0_at_6 ?_
    refine lv_icmp_ge hx hb dX0_at_9 (tgt := 25) (by decide) (fun hc => ?_) (fun hc => ?_)
    · rw [if_pos hc] at hf
      refine lv_iconst (v := (-1)) hx hb dX0_at_25 (by decide) ?_
      exact mw_iret hx hb hr hlocks hw hf dX0_at_26
    · rw [if_neg hc] at hf
      refine lv_aload_n hx hb dX0_at_12 rfl (lv_at hl 0 rfl) ?_
      obtain ⟨v2, e2, hf⟩ := mw_b hf
      refine mw_getr hx hb hts inX0 hown hw (ci := 0) rfl 0 (by decide) (hts _ tw_75) rfl e2 dX0_at_13 ?_
      refine lv_iload_n hx hb dX0_at_16 rfl (lv_at hl 1 rfl) ?_
      obtain ⟨v3, e3, hf⟩ := mw_b hf
      refine mw_bald hx hb hw 1 rfl e3 dX0_at_17 ?_
      refine lv_sipush (v := 255) hx hb dX0_at_18 (by decide) ?_
      refine lv_iand hx hb dX0_at_21 ?_
      refine lv_goto hx hb dX0_at_22 (tgt := 26) (by decide) ?_
      exact mw_iret hx hb hr hlocks hw hf dX0_at_26
abbrev rmX8_output : Room := { frames := 1, cells := 0, slots := 0, locals := 21 }
abbrev wsX8_output : List Cond := Cond.code yX8_output cX8_output 2 (some .int) :: lw_good
set_option maxHeartbeats 4000000 in
set_option maxRecDepth 100000 in
theorem cm_X8_output (l : Launch) (D : va_G) (G : Nat → ClassId) (N : Nat) (S : mw_M) (h0 : Nat) (x1 : Int32) (z : Int32 × mw_M) (hf : pf_X8_output G N S h0 x1 = some z) : Met l yX8_output wsX8_output rmX8_output (va_Pc [.ref h0, .int x1] (mw_B D vwCl (mw_tys G) mw_aos S)) (mw_Qi D vwCl (mw_tys G) mw_aos (mw_A S) z) 0 0 (mw_A S) := by
  refine Met.ofW (cc := cX8_output) (maxL := 2) (ret := (some .int)) (by decide) rfl ?_
  intro p e s m args below meth c s₁ B hml hv
  obtain ⟨rfl, hB⟩ := hv
  have hw := mw_begin hB
  have hx := B.exec
  have hb := B.bytes
  have hr := B.returns
  have hts : ∀ w ∈ lw_good, w.before _ s = true := fun w h => atoms_spec (ws := wsX8_output) B.pre w (List.mem_cons_of_mem _ h)
  have hown : s.vm.findClass RX8 = some m.cls := findClass_of_methodNamed B.named
  have hlocks := B.notSynchronized
  have hC : mw_C p s m _ meth c cX8_output RX8 (some .int) lw_good 2 := ⟨hx, hb, hml, hown, hts, hr, hlocks⟩
  have hl := lv_entry ([.ref h0, .int x1]) (n := 2) (Nat.le_of_ble_eq_true rfl)
  rw [lg_entry_eq]
  generalize (lg_sl ([.ref h0, .int x1]) ++ List.replicate (2 - (lg_sl ([.ref h0, .int x1])).length) Slot.unset).toArray = ls at hl ⊢
  have hl : lv_has ls 2 [(0, .ref h0), (1, .int x1)] := hl
  unfold pf_X8_output at hf
  refine lv_aload_n hx hb dX8_output_0 rfl (lv_at hl 0 rfl) ?_
  obtain ⟨v1, e1, hf⟩ := mw_b hf
  refine mw_getr hx hb hts inX8 hown hw (ci := 8) rfl 12 (by decide) (hts _ tw_206) rfl e1 dX8_output_1 ?_
  refine lv_iload_n hx hb dX8_output_4 rfl (lv_at hl 1 rfl) ?_
  obtain ⟨v2, S2, e2, hf⟩ := mw_bb hf
  obtain ⟨ho, e2⟩ := mw_v_s e2
  refine mw_calli (va_runV (As := [.int x1]) (rest := []) ⟨hx, hb, hml, hown, hts⟩ (cm_X0_at l D G N S v1 x1 (v2, S2) e2) (cwV 1 hts (mw_gV tw_481 tw_482 tw_483 tw_6 tw_484) rfl rfl rfl (by decide +kernel) ⟨Nat.le_of_ble_eq_true rfl, Nat.le_of_ble_eq_true rfl⟩) (mw_preV hw (ci := 0) rfl ho) rfl rfl hl.1 rfl (lv_room (Nat.le_of_ble_eq_true rfl)) dX8_output_5 ⟨(Nat.le_of_ble_eq_true rfl), (Nat.le_of_ble_eq_true rfl)⟩) hw (fun H locs hw => ?_)
  exact mw_iret hx hb hr hlocks hw hf dX8_output_8
abbrev rmX5_phase : Room := { frames := 0, cells := 0, slots := 0, locals := 0 }
abbrev wsX5_phase : List Cond := Cond.code yX5_phase cX5_phase 1 (some .int) :: lw_good
set_option maxHeartbeats 4000000 in
set_option maxRecDepth 100000 in
theorem cm_X5_phase (l : Launch) (D : va_G) (G : Nat → ClassId) (N : Nat) (S : mw_M) (h0 : Nat) (z : Int32 × mw_M) (hf : pf_X5_phase G N S h0 = some z) : Met l yX5_phase wsX5_phase rmX5_phase (va_Pc [.ref h0] (mw_B D vwCl (mw_tys G) mw_aos S)) (mw_Qi D vwCl (mw_tys G) mw_aos (mw_A S) z) 0 0 (mw_A S) := by
  refine Met.ofW (cc := cX5_phase) (maxL := 1) (ret := (some .int)) (by decide) rfl ?_
  intro p e s m args below meth c s₁ B hml hv
  obtain ⟨rfl, hB⟩ := hv
  have hw := mw_begin hB
  have hx := B.exec
  have hb := B.bytes
  have hr := B.returns
  have hts : ∀ w ∈ lw_good, w.before _ s = true := fun w h => atoms_spec (ws := wsX5_phase) B.pre w (List.mem_cons_of_mem _ h)
  have hown : s.vm.findClass RX5 = some m.cls := findClass_of_methodNamed B.named
  have hlocks := B.notSynchronized
  have hC : mw_C p s m _ meth c cX5_phase RX5 (some .int) lw_good 1 := ⟨hx, hb, hml, hown, hts, hr, hlocks⟩
  have hl := lv_entry ([.ref h0]) (n := 1) (Nat.le_of_ble_eq_true rfl)
  rw [lg_entry_eq]
  generalize (lg_sl ([.ref h0]) ++ List.replicate (1 - (lg_sl ([.ref h0])).length) Slot.unset).toArray = ls at hl ⊢
  have hl : lv_has ls 1 [(0, .ref h0)] := hl
  unfold pf_X5_phase at hf
  refine lv_aload_n hx hb dX5_phase_0 rfl (lv_at hl 0 rfl) ?_
  obtain ⟨v1, e1, hf⟩ := mw_b hf
  refine mw_geti hx hb hts inX5 hown hw (ci := 5) rfl 2 (by decide) (hts _ tw_109) rfl e1 dX5_phase_1 ?_
  exact mw_iret hx hb hr hlocks hw hf dX5_phase_4
abbrev rmX8_state : Room := { frames := 1, cells := 0, slots := 0, locals := 21 }
abbrev wsX8_state : List Cond := Cond.code yX8_state cX8_state 2 (some .int) :: lw_good
set_option maxHeartbeats 4000000 in
set_option maxRecDepth 100000 in
theorem cm_X8_state (l : Launch) (D : va_G) (G : Nat → ClassId) (N : Nat) (S : mw_M) (h0 : Nat) (x1 : Int32) (z : Int32 × mw_M) (hf : pf_X8_state G N S h0 x1 = some z) : Met l yX8_state wsX8_state rmX8_state (va_Pc [.ref h0, .int x1] (mw_B D vwCl (mw_tys G) mw_aos S)) (mw_Qi D vwCl (mw_tys G) mw_aos (mw_A S) z) 0 0 (mw_A S) := by
  refine Met.ofW (cc := cX8_state) (maxL := 2) (ret := (some .int)) (by decide) rfl ?_
  intro p e s m args below meth c s₁ B hml hv
  obtain ⟨rfl, hB⟩ := hv
  have hw := mw_begin hB
  have hx := B.exec
  have hb := B.bytes
  have hr := B.returns
  have hts : ∀ w ∈ lw_good, w.before _ s = true := fun w h => atoms_spec (ws := wsX8_state) B.pre w (List.mem_cons_of_mem _ h)
  have hown : s.vm.findClass RX8 = some m.cls := findClass_of_methodNamed B.named
  have hlocks := B.notSynchronized
  have hC : mw_C p s m _ meth c cX8_state RX8 (some .int) lw_good 2 := ⟨hx, hb, hml, hown, hts, hr, hlocks⟩
  have hl := lv_entry ([.ref h0, .int x1]) (n := 2) (Nat.le_of_ble_eq_true rfl)
  rw [lg_entry_eq]
  generalize (lg_sl ([.ref h0, .int x1]) ++ List.replicate (2 - (lg_sl ([.ref h0, .int x1])).length) Slot.unset).toArray = ls at hl ⊢
  have hl : lv_has ls 2 [(0, .ref h0), (1, .int x1)] := hl
  unfold pf_X8_state at hf
  refine lv_aload_n hx hb dX8_state_0 rfl (lv_at hl 0 rfl) ?_
  refine lv_iload_n hx hb dX8_state_1 rfl (lv_at hl 1 rfl) ?_
  obtain ⟨v1, S1, e1, hf⟩ := mw_bb hf
  obtain ⟨ho, e1⟩ := mw_v_s e1
  refine mw_calli (va_runV (As := [.int x1]) (rest := []) ⟨hx, hb, hml, hown, hts⟩ (cm_X8_isRecording l D G N S h0 x1 (v1, S1) e1) (cwV 1 hts (mw_gV tw_449 tw_451 tp_9 tw_1 tw_452) rfl rfl rfl (by decide +kernel) ⟨Nat.le_of_ble_eq_true rfl, Nat.le_of_ble_eq_true rfl⟩) (mw_preV hw (ci := 8) rfl ho) rfl rfl hl.1 rfl (lv_room (Nat.le_of_ble_eq_true rfl)) dX8_state_2 ⟨(Nat.le_of_ble_eq_true rfl), (Nat.le_of_ble_eq_true rfl)⟩) hw (fun H locs hw => ?_)
  refine lv_if_eq hx hb dX8_state_5 (tgt := 20) (by decide) (fun hc => ?_) (fun hc => ?_)
  · rw [if_pos hc] at hf
    refine lv_iconst (v := (-1)) hx hb dX8_state_20 (by decide) ?_
    exact mw_iret hx hb hr hlocks hw hf dX8_state_21
  · rw [if_neg hc] at hf
    refine lv_aload_n hx hb dX8_state_8 rfl (lv_at hl 0 rfl) ?_
    obtain ⟨v2, e2, hf⟩ := mw_b hf
    refine mw_getr hx hb hts inX8 hown hw (ci := 8) rfl 7 (by decide) (hts _ tw_201) rfl e2 dX8_state_9 ?_
    refine lv_iload_n hx hb dX8_state_12 rfl (lv_at hl 1 rfl) ?_
    obtain ⟨v3, e3, hf⟩ := mw_b hf
    refine mw_aald hx hb hw 5 rfl e3 dX8_state_13 ?_
    obtain ⟨v4, S4, e4, hf⟩ := mw_bb hf
    obtain ⟨ho, e4⟩ := mw_v_s e4
    refine mw_calli (va_runV (As := []) (rest := []) ⟨hx, hb, hml, hown, hts⟩ (cm_X5_phase l D G N S1 v3 (v4, S4) e4) (cwV 0 hts (mw_gV tw_489 tw_490 tw_491 tw_7 tw_492) rfl rfl rfl (by decide +kernel) ⟨Nat.le_of_ble_eq_true rfl, Nat.le_of_ble_eq_true rfl⟩) (mw_preV hw (ci := 5) rfl ho) rfl rfl hl.1 rfl (lv_room (Nat.le_of_ble_eq_true rfl)) dX8_state_14 ⟨(Nat.le_of_ble_eq_true rfl), (Nat.le_of_ble_eq_true rfl)⟩) hw (fun H locs hw => ?_)
    refine lv_goto hx hb dX8_state_17 (tgt := 21) (by decide) ?_
    exact mw_iret hx hb hr hlocks hw hf dX8_state_21
abbrev rmX8_threshold : Room := { frames := 1, cells := 0, slots := 0, locals := 21 }
abbrev wsX8_threshold : List Cond := Cond.code yX8_threshold cX8_threshold 3 (some .int) :: lw_good
set_option maxHeartbeats 4000000 in
set_option maxRecDepth 100000 in
theorem cm_X8_threshold (l : Launch) (D : va_G) (G : Nat → ClassId) (N : Nat) (S : mw_M) (h0 : Nat) (x1 : Int32) (x2 : Int32) (z : Int32 × mw_M) (hf : pf_X8_threshold G N S h0 x1 x2 = some z) : Met l yX8_threshold wsX8_threshold rmX8_threshold (va_Pc [.ref h0, .int x1, .int x2] (mw_B D vwCl (mw_tys G) mw_aos S)) (mw_Qi D vwCl (mw_tys G) mw_aos (mw_A S) z) 0 0 (mw_A S) := by
  refine Met.ofW (cc := cX8_threshold) (maxL := 3) (ret := (some .int)) (by decide) rfl ?_
  intro p e s m args below meth c s₁ B hml hv
  obtain ⟨rfl, hB⟩ := hv
  have hw := mw_begin hB
  have hx := B.exec
  have hb := B.bytes
  have hr := B.returns
  have hts : ∀ w ∈ lw_good, w.before _ s = true := fun w h => atoms_spec (ws := wsX8_threshold) B.pre w (List.mem_cons_of_mem _ h)
  have hown : s.vm.findClass RX8 = some m.cls := findClass_of_methodNamed B.named
  have hlocks := B.notSynchronized
  have hC : mw_C p s m _ meth c cX8_threshold RX8 (some .int) lw_good 3 := ⟨hx, hb, hml, hown, hts, hr, hlocks⟩
  have hl := lv_entry ([.ref h0, .int x1, .int x2]) (n := 3) (Nat.le_of_ble_eq_true rfl)
  rw [lg_entry_eq]
  generalize (lg_sl ([.ref h0, .int x1, .int x2]) ++ List.replicate (3 - (lg_sl ([.ref h0, .int x1, .int x2])).length) Slot.unset).toArray = ls at hl ⊢
  have hl : lv_has ls 3 [(0, .ref h0), (1, .int x1), (2, .int x2)] := hl
  unfold pf_X8_threshold at hf
  refine lv_aload_n hx hb dX8_threshold_0 rfl (lv_at hl 0 rfl) ?_
  refine lv_iload_n hx hb dX8_threshold_1 rfl (lv_at hl 1 rfl) ?_
  obtain ⟨v1, S1, e1, hf⟩ := mw_bb hf
  obtain ⟨ho, e1⟩ := mw_v_s e1
  refine mw_calli (va_runV (As := [.int x1]) (rest := []) ⟨hx, hb, hml, hown, hts⟩ (cm_X8_isRecording l D G N S h0 x1 (v1, S1) e1) (cwV 1 hts (mw_gV tw_449 tw_451 tp_9 tw_1 tw_452) rfl rfl rfl (by decide +kernel) ⟨Nat.le_of_ble_eq_true rfl, Nat.le_of_ble_eq_true rfl⟩) (mw_preV hw (ci := 8) rfl ho) rfl rfl hl.1 rfl (lv_room (Nat.le_of_ble_eq_true rfl)) dX8_threshold_2 ⟨(Nat.le_of_ble_eq_true rfl), (Nat.le_of_ble_eq_true rfl)⟩) hw (fun H locs hw => ?_)
  refine lv_if_eq hx hb dX8_threshold_5 (tgt := 29) (by decide) (fun hc => ?_) (fun hc => ?_)
  · rw [if_pos hc] at hf
    refine lv_iconst (v := (-1)) hx hb dX8_threshold_29 (by decide) ?_
    exact mw_iret hx hb hr hlocks hw hf dX8_threshold_30
  · rw [if_neg hc] at hf
    refine lv_aload_n hx hb dX8_threshold_8 rfl (lv_at hl 0 rfl) ?_
    refine lv_iload_n hx hb dX8_threshold_9 rfl (lv_at hl 2 rfl) ?_
    obtain ⟨v2, S2, e2, hf⟩ := mw_bb hf
    obtain ⟨ho, e2⟩ := mw_v_s e2
    refine mw_calli (va_runV (As := [.int x2]) (rest := []) ⟨hx, hb, hml, hown, hts⟩ (cm_X8_isType l D G N S1 h0 x2 (v2, S2) e2) (cwV 1 hts (mw_gV tw_264 tw_266 tp_0 tw_1 tw_267) rfl rfl rfl (by decide +kernel) ⟨Nat.le_of_ble_eq_true rfl, Nat.le_of_ble_eq_true rfl⟩) (mw_preV hw (ci := 8) rfl ho) rfl rfl hl.1 rfl (lv_room (Nat.le_of_ble_eq_true rfl)) dX8_threshold_10 ⟨(Nat.le_of_ble_eq_true rfl), (Nat.le_of_ble_eq_true rfl)⟩) hw (fun H locs hw => ?_)
    refine lv_if_eq hx hb dX8_threshold_13 (tgt := 29) (by decide) (fun hc => ?_) (fun hc => ?_)
    · rw [if_pos hc] at hf
      refine lv_iconst (v := (-1)) hx hb dX8_threshold_29 (by decide) ?_
      exact mw_iret hx hb hr hlocks hw hf dX8_threshold_30
    · rw [if_neg hc] at hf
      refine lv_aload_n hx hb dX8_threshold_16 rfl (lv_at hl 0 rfl) ?_
      obtain ⟨v3, e3, hf⟩ := mw_b hf
      refine mw_getr hx hb hts inX8 hown hw (ci := 8) rfl 7 (by decide) (hts _ tw_201) rfl e3 dX8_threshold_17 ?_
      refine lv_iload_n hx hb dX8_threshold_20 rfl (lv_at hl 1 rfl) ?_
      obtain ⟨v4, e4, hf⟩ := mw_b hf
      refine mw_aald hx hb hw 5 rfl e4 dX8_threshold_21 ?_
      refine lv_iload_n hx hb dX8_threshold_22 rfl (lv_at hl 2 rfl) ?_
      obtain ⟨v5, S5, e5, hf⟩ := mw_bb hf
      obtain ⟨ho, e5⟩ := mw_v_s e5
      refine mw_calli (va_runV (As := [.int x2]) (rest := []) ⟨hx, hb, hml, hown, hts⟩ (cm_X5_isOn l D G N S2 v4 x2 (v5, S5) e5) (cwV 1 hts (mw_gV tw_288 tw_289 tw_290 tw_7 tw_291) rfl rfl rfl (by decide +kernel) ⟨Nat.le_of_ble_eq_true rfl, Nat.le_of_ble_eq_true rfl⟩) (mw_preV hw (ci := 5) rfl ho) rfl rfl hl.1 rfl (lv_room (Nat.le_of_ble_eq_true rfl)) dX8_threshold_23 ⟨(Nat.le_of_ble_eq_true rfl), (Nat.le_of_ble_eq_true rfl)⟩) hw (fun H locs hw => ?_)
      refine lv_if_ne hx hb dX8_threshold_26 (tgt := 31) (by decide) (fun hc => ?_) (fun hc => ?_)
      · rw [if_pos hc] at hf
        refine lv_aload_n hx hb dX8_threshold_31 rfl (lv_at hl 0 rfl) ?_
        obtain ⟨v6, e6, hf⟩ := mw_b hf
        refine mw_getr hx hb hts inX8 hown hw (ci := 8) rfl 7 (by decide) (hts _ tw_201) rfl e6 dX8_threshold_32 ?_
        refine lv_iload_n hx hb dX8_threshold_35 rfl (lv_at hl 1 rfl) ?_
        obtain ⟨v7, e7, hf⟩ := mw_b hf
        refine mw_aald hx hb hw 5 rfl e7 dX8_threshold_36 ?_
        refine lv_iload_n hx hb dX8_threshold_37 rfl (lv_at hl 2 rfl) ?_
        obtain ⟨v8, S8, e8, hf⟩ := mw_bb hf
        obtain ⟨ho, e8⟩ := mw_v_s e8
        refine mw_calli (va_runV (As := [.int x2]) (rest := []) ⟨hx, hb, hml, hown, hts⟩ (cm_X5_leastDuration l D G N S5 v7 x2 (v8, S8) e8) (cwV 1 hts (mw_gV tw_292 tw_293 tw_294 tw_7 tw_295) rfl rfl rfl (by decide +kernel) ⟨Nat.le_of_ble_eq_true rfl, Nat.le_of_ble_eq_true rfl⟩) (mw_preV hw (ci := 5) rfl ho) rfl rfl hl.1 rfl (lv_room (Nat.le_of_ble_eq_true rfl)) dX8_threshold_38 ⟨(Nat.le_of_ble_eq_true rfl), (Nat.le_of_ble_eq_true rfl)⟩) hw (fun H locs hw => ?_)
        exact mw_iret hx hb hr hlocks hw hf dX8_threshold_41
      · rw [if_neg (fun q => q hc)] at hf
        refine lv_iconst (v := (-1)) hx hb dX8_threshold_29 (by decide) ?_
        exact mw_iret hx hb hr hlocks hw hf dX8_threshold_30
abbrev rmX8_buffered : Room := { frames := 1, cells := 0, slots := 0, locals := 20 }
abbrev wsX8_buffered : List Cond := Cond.code yX8_buffered cX8_buffered 2 (some .int) :: lw_good
set_option maxHeartbeats 4000000 in
set_option maxRecDepth 100000 in
theorem cm_X8_buffered (l : Launch) (D : va_G) (G : Nat → ClassId) (N : Nat) (S : mw_M) (h0 : Nat) (x1 : Int32) (z : Int32 × mw_M) (hf : pf_X8_buffered G N S h0 x1 = some z) : Met l yX8_buffered wsX8_buffered rmX8_buffered (va_Pc [.ref h0, .int x1] (mw_B D vwCl (mw_tys G) mw_aos S)) (mw_Qi D vwCl (mw_tys G) mw_aos (mw_A S) z) 0 0 (mw_A S) := by
  refine Met.ofW (cc := cX8_buffered) (maxL := 2) (ret := (some .int)) (by decide) rfl ?_
  intro p e s m args below meth c s₁ B hml hv
  obtain ⟨rfl, hB⟩ := hv
  have hw := mw_begin hB
  have hx := B.exec
  have hb := B.bytes
  have hr := B.returns
  have hts : ∀ w ∈ lw_good, w.before _ s = true := fun w h => atoms_spec (ws := wsX8_buffered) B.pre w (List.mem_cons_of_mem _ h)
  have hown : s.vm.findClass RX8 = some m.cls := findClass_of_methodNamed B.named
  have hlocks := B.notSynchronized
  have hC : mw_C p s m _ meth c cX8_buffered RX8 (some .int) lw_good 2 := ⟨hx, hb, hml, hown, hts, hr, hlocks⟩
  have hl := lv_entry ([.ref h0, .int x1]) (n := 2) (Nat.le_of_ble_eq_true rfl)
  rw [lg_entry_eq]
  generalize (lg_sl ([.ref h0, .int x1]) ++ List.replicate (2 - (lg_sl ([.ref h0, .int x1])).length) Slot.unset).toArray = ls at hl ⊢
  have hl : lv_has ls 2 [(0, .ref h0), (1, .int x1)] := hl
  unfold pf_X8_buffered at hf
  refine lv_iload_n hx hb dX8_buffered_0 rfl (lv_at hl 1 rfl) ?_
  obtain ⟨v1, S1, e1, hf⟩ := mw_bb hf
  refine mw_calli (va_runS (As := [.int x1]) (rest := []) ⟨hx, hb, hml, hown, hts⟩ (cm_X8_isThread l D G N S x1 (v1, S1) e1) (cwS 1 hts (mw_gS tw_253 tw_254 tw_1 tw_255) rfl rfl rfl (by decide +kernel) ⟨Nat.le_of_ble_eq_true rfl, Nat.le_of_ble_eq_true rfl⟩) (mw_preS hw) rfl rfl hl.1 rfl (lv_room (Nat.le_of_ble_eq_true rfl)) dX8_buffered_1 ⟨(Nat.le_of_ble_eq_true rfl), (Nat.le_of_ble_eq_true rfl)⟩) hw (fun H locs hw => ?_)
  refine lv_if_eq hx hb dX8_buffered_4 (tgt := 22) (by decide) (fun hc => ?_) (fun hc => ?_)
  · rw [if_pos hc] at hf
    refine lv_iconst (v := (-1)) hx hb dX8_buffered_22 (by decide) ?_
    exact mw_iret hx hb hr hlocks hw hf dX8_buffered_23
  · rw [if_neg hc] at hf
    refine lv_aload_n hx hb dX8_buffered_7 rfl (lv_at hl 0 rfl) ?_
    obtain ⟨v2, e2, hf⟩ := mw_b hf
    refine mw_getr hx hb hts inX8 hown hw (ci := 8) rfl 3 (by decide) (hts _ tw_197) rfl e2 dX8_buffered_8 ?_
    refine lv_iload_n hx hb dX8_buffered_11 rfl (lv_at hl 1 rfl) ?_
    obtain ⟨v3, e3, hf⟩ := mw_b hf
    refine mw_aald hx hb hw 4 rfl e3 dX8_buffered_12 ?_
    obtain ⟨v4, S4, e4, hf⟩ := mw_bb hf
    obtain ⟨ho, e4⟩ := mw_v_s e4
    refine mw_callr (va_runV (As := []) (rest := []) ⟨hx, hb, hml, hown, hts⟩ (cm_X3_buffer l D G N S1 v3 (v4, S4) e4) (cwV 0 hts (mw_gV tw_335 tw_336 tw_337 tw_5 tw_338) rfl rfl rfl (by decide +kernel) ⟨Nat.le_of_ble_eq_true rfl, Nat.le_of_ble_eq_true rfl⟩) (mw_preV hw (ci := 3) rfl ho) rfl rfl hl.1 rfl (lv_room (Nat.le_of_ble_eq_true rfl)) dX8_buffered_13 ⟨(Nat.le_of_ble_eq_true rfl), (Nat.le_of_ble_eq_true rfl)⟩) hw (fun H locs hw => ?_)
    obtain ⟨v5, S5, e5, hf⟩ := mw_bb hf
    obtain ⟨ho, e5⟩ := mw_v_s e5
    refine mw_calli (va_runV (As := []) (rest := []) ⟨hx, hb, hml, hown, hts⟩ (cm_X0_length l D G N S4 v4 (v5, S5) e5) (cwV 0 hts (mw_gV tw_343 tw_344 tw_345 tw_6 tw_346) rfl rfl rfl (by decide +kernel) ⟨Nat.le_of_ble_eq_true rfl, Nat.le_of_ble_eq_true rfl⟩) (mw_preV hw (ci := 0) rfl ho) rfl rfl hl.1 rfl (lv_room (Nat.le_of_ble_eq_true rfl)) dX8_buffered_16 ⟨(Nat.le_of_ble_eq_true rfl), (Nat.le_of_ble_eq_true rfl)⟩) hw (fun H locs hw => ?_)
    refine lv_goto hx hb dX8_buffered_19 (tgt := 23) (by decide) ?_
    exact mw_iret hx hb hr hlocks hw hf dX8_buffered_23
abbrev rmX4_full : Room := { frames := 0, cells := 0, slots := 0, locals := 0 }
abbrev wsX4_full : List Cond := Cond.code yX4_full cX4_full 1 (some .int) :: lw_good
set_option maxHeartbeats 4000000 in
set_option maxRecDepth 100000 in
theorem cm_X4_full (l : Launch) (D : va_G) (G : Nat → ClassId) (N : Nat) (S : mw_M) (h0 : Nat) (z : Int32 × mw_M) (hf : pf_X4_full G N S h0 = some z) : Met l yX4_full wsX4_full rmX4_full (va_Pc [.ref h0] (mw_B D vwCl (mw_tys G) mw_aos S)) (mw_Qi D vwCl (mw_tys G) mw_aos (mw_A S) z) 0 0 (mw_A S) := by
  refine Met.ofW (cc := cX4_full) (maxL := 1) (ret := (some .int)) (by decide) rfl ?_
  intro p e s m args below meth c s₁ B hml hv
  obtain ⟨rfl, hB⟩ := hv
  have hw := mw_begin hB
  have hx := B.exec
  have hb := B.bytes
  have hr := B.returns
  have hts : ∀ w ∈ lw_good, w.before _ s = true := fun w h => atoms_spec (ws := wsX4_full) B.pre w (List.mem_cons_of_mem _ h)
  have hown : s.vm.findClass RX4 = some m.cls := findClass_of_methodNamed B.named
  have hlocks := B.notSynchronized
  have hC : mw_C p s m _ meth c cX4_full RX4 (some .int) lw_good 1 := ⟨hx, hb, hml, hown, hts, hr, hlocks⟩
  have hl := lv_entry ([.ref h0]) (n := 1) (Nat.le_of_ble_eq_true rfl)
  rw [lg_entry_eq]
  generalize (lg_sl ([.ref h0]) ++ List.replicate (1 - (lg_sl ([.ref h0])).length) Slot.unset).toArray = ls at hl ⊢
  have hl : lv_has ls 1 [(0, .ref h0)] := hl
  unfold pf_X4_full at hf
  refine lv_aload_n hx hb dX4_full_0 rfl (lv_at hl 0 rfl) ?_
  obtain ⟨v1, e1, hf⟩ := mw_b hf
  refine mw_geti hx hb hts inX4 hown hw (ci := 4) rfl 2 (by decide) (hts _ tw_135) rfl e1 dX4_full_1 ?_
  exact mw_iret hx hb hr hlocks hw hf dX4_full_4
abbrev rmX2_kept : Room := { frames := 0, cells := 0, slots := 0, locals := 0 }
abbrev wsX2_kept : List Cond := Cond.code yX2_kept cX2_kept 1 (some .int) :: lw_good
set_option maxHeartbeats 4000000 in
set_option maxRecDepth 100000 in
theorem cm_X2_kept (l : Launch) (D : va_G) (G : Nat → ClassId) (N : Nat) (S : mw_M) (h0 : Nat) (z : Int32 × mw_M) (hf : pf_X2_kept G N S h0 = some z) : Met l yX2_kept wsX2_kept rmX2_kept (va_Pc [.ref h0] (mw_B D vwCl (mw_tys G) mw_aos S)) (mw_Qi D vwCl (mw_tys G) mw_aos (mw_A S) z) 0 0 (mw_A S) := by
  refine Met.ofW (cc := cX2_kept) (maxL := 1) (ret := (some .int)) (by decide) rfl ?_
  intro p e s m args below meth c s₁ B hml hv
  obtain ⟨rfl, hB⟩ := hv
  have hw := mw_begin hB
  have hx := B.exec
  have hb := B.bytes
  have hr := B.returns
  have hts : ∀ w ∈ lw_good, w.before _ s = true := fun w h => atoms_spec (ws := wsX2_kept) B.pre w (List.mem_cons_of_mem _ h)
  have hown : s.vm.findClass RX2 = some m.cls := findClass_of_methodNamed B.named
  have hlocks := B.notSynchronized
  have hC : mw_C p s m _ meth c cX2_kept RX2 (some .int) lw_good 1 := ⟨hx, hb, hml, hown, hts, hr, hlocks⟩
  have hl := lv_entry ([.ref h0]) (n := 1) (Nat.le_of_ble_eq_true rfl)
  rw [lg_entry_eq]
  generalize (lg_sl ([.ref h0]) ++ List.replicate (1 - (lg_sl ([.ref h0])).length) Slot.unset).toArray = ls at hl ⊢
  have hl : lv_has ls 1 [(0, .ref h0)] := hl
  unfold pf_X2_kept at hf
  refine lv_aload_n hx hb dX2_kept_0 rfl (lv_at hl 0 rfl) ?_
  obtain ⟨v1, e1, hf⟩ := mw_b hf
  refine mw_geti hx hb hts inX2 hown hw (ci := 2) rfl 1 (by decide) (hts _ tw_183) rfl e1 dX2_kept_1 ?_
  exact mw_iret hx hb hr hlocks hw hf dX2_kept_4
abbrev rmX2_evicted : Room := { frames := 0, cells := 0, slots := 0, locals := 0 }
abbrev wsX2_evicted : List Cond := Cond.code yX2_evicted cX2_evicted 1 (some .int) :: lw_good
set_option maxHeartbeats 4000000 in
set_option maxRecDepth 100000 in
theorem cm_X2_evicted (l : Launch) (D : va_G) (G : Nat → ClassId) (N : Nat) (S : mw_M) (h0 : Nat) (z : Int32 × mw_M) (hf : pf_X2_evicted G N S h0 = some z) : Met l yX2_evicted wsX2_evicted rmX2_evicted (va_Pc [.ref h0] (mw_B D vwCl (mw_tys G) mw_aos S)) (mw_Qi D vwCl (mw_tys G) mw_aos (mw_A S) z) 0 0 (mw_A S) := by
  refine Met.ofW (cc := cX2_evicted) (maxL := 1) (ret := (some .int)) (by decide) rfl ?_
  intro p e s m args below meth c s₁ B hml hv
  obtain ⟨rfl, hB⟩ := hv
  have hw := mw_begin hB
  have hx := B.exec
  have hb := B.bytes
  have hr := B.returns
  have hts : ∀ w ∈ lw_good, w.before _ s = true := fun w h => atoms_spec (ws := wsX2_evicted) B.pre w (List.mem_cons_of_mem _ h)
  have hown : s.vm.findClass RX2 = some m.cls := findClass_of_methodNamed B.named
  have hlocks := B.notSynchronized
  have hC : mw_C p s m _ meth c cX2_evicted RX2 (some .int) lw_good 1 := ⟨hx, hb, hml, hown, hts, hr, hlocks⟩
  have hl := lv_entry ([.ref h0]) (n := 1) (Nat.le_of_ble_eq_true rfl)
  rw [lg_entry_eq]
  generalize (lg_sl ([.ref h0]) ++ List.replicate (1 - (lg_sl ([.ref h0])).length) Slot.unset).toArray = ls at hl ⊢
  have hl : lv_has ls 1 [(0, .ref h0)] := hl
  unfold pf_X2_evicted at hf
  refine lv_aload_n hx hb dX2_evicted_0 rfl (lv_at hl 0 rfl) ?_
  obtain ⟨v1, e1, hf⟩ := mw_b hf
  refine mw_geti hx hb hts inX2 hown hw (ci := 2) rfl 2 (by decide) (hts _ tw_184) rfl e1 dX2_evicted_1 ?_
  exact mw_iret hx hb hr hlocks hw hf dX2_evicted_4
abbrev rmX6_used : Room := { frames := 0, cells := 0, slots := 0, locals := 0 }
abbrev wsX6_used : List Cond := Cond.code yX6_used cX6_used 1 (some .int) :: lw_good
set_option maxHeartbeats 4000000 in
set_option maxRecDepth 100000 in
theorem cm_X6_used (l : Launch) (D : va_G) (G : Nat → ClassId) (N : Nat) (S : mw_M) (h0 : Nat) (z : Int32 × mw_M) (hf : pf_X6_used G N S h0 = some z) : Met l yX6_used wsX6_used rmX6_used (va_Pc [.ref h0] (mw_B D vwCl (mw_tys G) mw_aos S)) (mw_Qi D vwCl (mw_tys G) mw_aos (mw_A S) z) 0 0 (mw_A S) := by
  refine Met.ofW (cc := cX6_used) (maxL := 1) (ret := (some .int)) (by decide) rfl ?_
  intro p e s m args below meth c s₁ B hml hv
  obtain ⟨rfl, hB⟩ := hv
  have hw := mw_begin hB
  have hx := B.exec
  have hb := B.bytes
  have hr := B.returns
  have hts : ∀ w ∈ lw_good, w.before _ s = true := fun w h => atoms_spec (ws := wsX6_used) B.pre w (List.mem_cons_of_mem _ h)
  have hown : s.vm.findClass RX6 = some m.cls := findClass_of_methodNamed B.named
  have hlocks := B.notSynchronized
  have hC : mw_C p s m _ meth c cX6_used RX6 (some .int) lw_good 1 := ⟨hx, hb, hml, hown, hts, hr, hlocks⟩
  have hl := lv_entry ([.ref h0]) (n := 1) (Nat.le_of_ble_eq_true rfl)
  rw [lg_entry_eq]
  generalize (lg_sl ([.ref h0]) ++ List.replicate (1 - (lg_sl ([.ref h0])).length) Slot.unset).toArray = ls at hl ⊢
  have hl : lv_has ls 1 [(0, .ref h0)] := hl
  unfold pf_X6_used at hf
  refine lv_aload_n hx hb dX6_used_0 rfl (lv_at hl 0 rfl) ?_
  obtain ⟨v1, e1, hf⟩ := mw_b hf
  refine mw_geti hx hb hts inX6 hown hw (ci := 6) rfl 2 (by decide) (hts _ tw_53) rfl e1 dX6_used_1 ?_
  exact mw_iret hx hb hr hlocks hw hf dX6_used_4
abbrev rmX8_count : Room := { frames := 1, cells := 0, slots := 0, locals := 20 }
abbrev wsX8_count : List Cond := Cond.code yX8_count cX8_count 2 (some .int) :: lw_good
set_option maxHeartbeats 4000000 in
set_option maxRecDepth 100000 in
theorem cm_X8_count (l : Launch) (D : va_G) (G : Nat → ClassId) (N : Nat) (S : mw_M) (h0 : Nat) (x1 : Int32) (z : Int32 × mw_M) (hf : pf_X8_count G N S h0 x1 = some z) : Met l yX8_count wsX8_count rmX8_count (va_Pc [.ref h0, .int x1] (mw_B D vwCl (mw_tys G) mw_aos S)) (mw_Qi D vwCl (mw_tys G) mw_aos (mw_A S) z) 0 0 (mw_A S) := by
  refine Met.ofW (cc := cX8_count) (maxL := 2) (ret := (some .int)) (by decide) rfl ?_
  intro p e s m args below meth c s₁ B hml hv
  obtain ⟨rfl, hB⟩ := hv
  have hw := mw_begin hB
  have hx := B.exec
  have hb := B.bytes
  have hr := B.returns
  have hts : ∀ w ∈ lw_good, w.before _ s = true := fun w h => atoms_spec (ws := wsX8_count) B.pre w (List.mem_cons_of_mem _ h)
  have hown : s.vm.findClass RX8 = some m.cls := findClass_of_methodNamed B.named
  have hlocks := B.notSynchronized
  have hC : mw_C p s m _ meth c cX8_count RX8 (some .int) lw_good 2 := ⟨hx, hb, hml, hown, hts, hr, hlocks⟩
  have hl := lv_entry ([.ref h0, .int x1]) (n := 2) (Nat.le_of_ble_eq_true rfl)
  rw [lg_entry_eq]
  generalize (lg_sl ([.ref h0, .int x1]) ++ List.replicate (2 - (lg_sl ([.ref h0, .int x1])).length) Slot.unset).toArray = ls at hl ⊢
  have hl : lv_has ls 2 [(0, .ref h0), (1, .int x1)] := hl
  unfold pf_X8_count at hf
  refine lv_iload_n hx hb dX8_count_0 rfl (lv_at hl 1 rfl) ?_
  rcases Classical.em (x1 = 0) with hc0 | hc0
  · rw [if_pos hc0] at hf
    refine lv_tableIn hx hb dX8_count_1 (off := 39) (tgt := 40) (by rw [hc0]; decide) (by rw [hc0]; decide) (by rw [hc0]; rfl) (by decide) ?_
    refine lv_aload_n hx hb dX8_count_40 rfl (lv_at hl 0 rfl) ?_
    obtain ⟨v1, e1, hf⟩ := mw_b hf
    refine mw_getr hx hb hts inX8 hown hw (ci := 8) rfl 9 (by decide) (hts _ tw_203) rfl e1 dX8_count_41 ?_
    obtain ⟨v2, S2, e2, hf⟩ := mw_bb hf
    obtain ⟨ho, e2⟩ := mw_v_s e2
    refine mw_calli (va_runV (As := []) (rest := []) ⟨hx, hb, hml, hown, hts⟩ (cm_X4_full l D G N S v1 (v2, S2) e2) (cwV 0 hts (mw_gV tw_505 tw_506 tw_507 tw_8 tw_508) rfl rfl rfl (by decide +kernel) ⟨Nat.le_of_ble_eq_true rfl, Nat.le_of_ble_eq_true rfl⟩) (mw_preV hw (ci := 4) rfl ho) rfl rfl hl.1 rfl (lv_room (Nat.le_of_ble_eq_true rfl)) dX8_count_44 ⟨(Nat.le_of_ble_eq_true rfl), (Nat.le_of_ble_eq_true rfl)⟩) hw (fun H locs hw => ?_)
    exact mw_iret hx hb hr hlocks hw hf dX8_count_47
  rw [if_neg hc0] at hf
  rcases Classical.em (x1 = 1) with hc1 | hc1
  · rw [if_pos hc1] at hf
    refine lv_tableIn hx hb dX8_count_1 (off := 47) (tgt := 48) (by rw [hc1]; decide) (by rw [hc1]; decide) (by rw [hc1]; rfl) (by decide) ?_
    refine lv_aload_n hx hb dX8_count_48 rfl (lv_at hl 0 rfl) ?_
    obtain ⟨v3, e3, hf⟩ := mw_b hf
    refine mw_getr hx hb hts inX8 hown hw (ci := 8) rfl 10 (by decide) (hts _ tw_204) rfl e3 dX8_count_49 ?_
    obtain ⟨v4, S4, e4, hf⟩ := mw_bb hf
    obtain ⟨ho, e4⟩ := mw_v_s e4
    refine mw_callr (va_runV (As := []) (rest := []) ⟨hx, hb, hml, hown, hts⟩ (cm_X2_open l D G N S v3 (v4, S4) e4) (cwV 0 hts (mw_gV tw_370 tw_371 tw_372 tw_9 tw_373) rfl rfl rfl (by decide +kernel) ⟨Nat.le_of_ble_eq_true rfl, Nat.le_of_ble_eq_true rfl⟩) (mw_preV hw (ci := 2) rfl ho) rfl rfl hl.1 rfl (lv_room (Nat.le_of_ble_eq_true rfl)) dX8_count_52 ⟨(Nat.le_of_ble_eq_true rfl), (Nat.le_of_ble_eq_true rfl)⟩) hw (fun H locs hw => ?_)
    obtain ⟨v5, S5, e5, hf⟩ := mw_bb hf
    obtain ⟨ho, e5⟩ := mw_v_s e5
    refine mw_calli (va_runV (As := []) (rest := []) ⟨hx, hb, hml, hown, hts⟩ (cm_X1_number l D G N S4 v4 (v5, S5) e5) (cwV 0 hts (mw_gV tw_509 tw_425 tw_426 tw_10 tw_427) rfl rfl rfl (by decide +kernel) ⟨Nat.le_of_ble_eq_true rfl, Nat.le_of_ble_eq_true rfl⟩) (mw_preV hw (ci := 1) rfl ho) rfl rfl hl.1 rfl (lv_room (Nat.le_of_ble_eq_true rfl)) dX8_count_55 ⟨(Nat.le_of_ble_eq_true rfl), (Nat.le_of_ble_eq_true rfl)⟩) hw (fun H locs hw => ?_)
    exact mw_iret hx hb hr hlocks hw hf dX8_count_58
  rw [if_neg hc1] at hf
  rcases Classical.em (x1 = 2) with hc2 | hc2
  · rw [if_pos hc2] at hf
    refine lv_tableIn hx hb dX8_count_1 (off := 58) (tgt := 59) (by rw [hc2]; decide) (by rw [hc2]; decide) (by rw [hc2]; rfl) (by decide) ?_
    refine lv_aload_n hx hb dX8_count_59 rfl (lv_at hl 0 rfl) ?_
    obtain ⟨v6, e6, hf⟩ := mw_b hf
    refine mw_getr hx hb hts inX8 hown hw (ci := 8) rfl 10 (by decide) (hts _ tw_204) rfl e6 dX8_count_60 ?_
    obtain ⟨v7, S7, e7, hf⟩ := mw_bb hf
    obtain ⟨ho, e7⟩ := mw_v_s e7
    refine mw_callr (va_runV (As := []) (rest := []) ⟨hx, hb, hml, hown, hts⟩ (cm_X2_open l D G N S v6 (v7, S7) e7) (cwV 0 hts (mw_gV tw_370 tw_371 tw_372 tw_9 tw_373) rfl rfl rfl (by decide +kernel) ⟨Nat.le_of_ble_eq_true rfl, Nat.le_of_ble_eq_true rfl⟩) (mw_preV hw (ci := 2) rfl ho) rfl rfl hl.1 rfl (lv_room (Nat.le_of_ble_eq_true rfl)) dX8_count_63 ⟨(Nat.le_of_ble_eq_true rfl), (Nat.le_of_ble_eq_true rfl)⟩) hw (fun H locs hw => ?_)
    obtain ⟨v8, S8, e8, hf⟩ := mw_bb hf
    obtain ⟨ho, e8⟩ := mw_v_s e8
    refine mw_callr (va_runV (As := []) (rest := []) ⟨hx, hb, hml, hown, hts⟩ (cm_X1_body l D G N S7 v7 (v8, S8) e8) (cwV 0 hts (mw_gV tw_394 tw_395 tw_396 tw_10 tw_397) rfl rfl rfl (by decide +kernel) ⟨Nat.le_of_ble_eq_true rfl, Nat.le_of_ble_eq_true rfl⟩) (mw_preV hw (ci := 1) rfl ho) rfl rfl hl.1 rfl (lv_room (Nat.le_of_ble_eq_true rfl)) dX8_count_66 ⟨(Nat.le_of_ble_eq_true rfl), (Nat.le_of_ble_eq_true rfl)⟩) hw (fun H locs hw => ?_)
    obtain ⟨v9, S9, e9, hf⟩ := mw_bb hf
    obtain ⟨ho, e9⟩ := mw_v_s e9
    refine mw_calli (va_runV (As := []) (rest := []) ⟨hx, hb, hml, hown, hts⟩ (cm_X0_length l D G N S8 v8 (v9, S9) e9) (cwV 0 hts (mw_gV tw_343 tw_344 tw_345 tw_6 tw_346) rfl rfl rfl (by decide +kernel) ⟨Nat.le_of_ble_eq_true rfl, Nat.le_of_ble_eq_true rfl⟩) (mw_preV hw (ci := 0) rfl ho) rfl rfl hl.1 rfl (lv_room (Nat.le_of_ble_eq_true rfl)) dX8_count_69 ⟨(Nat.le_of_ble_eq_true rfl), (Nat.le_of_ble_eq_true rfl)⟩) hw (fun H locs hw => ?_)
    exact mw_iret hx hb hr hlocks hw hf dX8_count_72
  rw [if_neg hc2] at hf
  rcases Classical.em (x1 = 3) with hc3 | hc3
  · rw [if_pos hc3] at hf
    refine lv_tableIn hx hb dX8_count_1 (off := 72) (tgt := 73) (by rw [hc3]; decide) (by rw [hc3]; decide) (by rw [hc3]; rfl) (by decide) ?_
    refine lv_aload_n hx hb dX8_count_73 rfl (lv_at hl 0 rfl) ?_
    obtain ⟨v10, e10, hf⟩ := mw_b hf
    refine mw_getr hx hb hts inX8 hown hw (ci := 8) rfl 10 (by decide) (hts _ tw_204) rfl e10 dX8_count_74 ?_
    obtain ⟨v11, S11, e11, hf⟩ := mw_bb hf
    obtain ⟨ho, e11⟩ := mw_v_s e11
    refine mw_calli (va_runV (As := []) (rest := []) ⟨hx, hb, hml, hown, hts⟩ (cm_X2_kept l D G N S v10 (v11, S11) e11) (cwV 0 hts (mw_gV tw_510 tw_511 tw_512 tw_9 tw_513) rfl rfl rfl (by decide +kernel) ⟨Nat.le_of_ble_eq_true rfl, Nat.le_of_ble_eq_true rfl⟩) (mw_preV hw (ci := 2) rfl ho) rfl rfl hl.1 rfl (lv_room (Nat.le_of_ble_eq_true rfl)) dX8_count_77 ⟨(Nat.le_of_ble_eq_true rfl), (Nat.le_of_ble_eq_true rfl)⟩) hw (fun H locs hw => ?_)
    exact mw_iret hx hb hr hlocks hw hf dX8_count_80
  rw [if_neg hc3] at hf
  rcases Classical.em (x1 = 4) with hc4 | hc4
  · rw [if_pos hc4] at hf
    refine lv_tableIn hx hb dX8_count_1 (off := 80) (tgt := 81) (by rw [hc4]; decide) (by rw [hc4]; decide) (by rw [hc4]; rfl) (by decide) ?_
    refine lv_aload_n hx hb dX8_count_81 rfl (lv_at hl 0 rfl) ?_
    obtain ⟨v12, e12, hf⟩ := mw_b hf
    refine mw_getr hx hb hts inX8 hown hw (ci := 8) rfl 10 (by decide) (hts _ tw_204) rfl e12 dX8_count_82 ?_
    obtain ⟨v13, S13, e13, hf⟩ := mw_bb hf
    obtain ⟨ho, e13⟩ := mw_v_s e13
    refine mw_calli (va_runV (As := []) (rest := []) ⟨hx, hb, hml, hown, hts⟩ (cm_X2_evicted l D G N S v12 (v13, S13) e13) (cwV 0 hts (mw_gV tw_514 tw_515 tw_516 tw_9 tw_517) rfl rfl rfl (by decide +kernel) ⟨Nat.le_of_ble_eq_true rfl, Nat.le_of_ble_eq_true rfl⟩) (mw_preV hw (ci := 2) rfl ho) rfl rfl hl.1 rfl (lv_room (Nat.le_of_ble_eq_true rfl)) dX8_count_85 ⟨(Nat.le_of_ble_eq_true rfl), (Nat.le_of_ble_eq_true rfl)⟩) hw (fun H locs hw => ?_)
    exact mw_iret hx hb hr hlocks hw hf dX8_count_88
  rw [if_neg hc4] at hf
  rcases Classical.em (x1 = 5) with hc5 | hc5
  · rw [if_pos hc5] at hf
    refine lv_tableIn hx hb dX8_count_1 (off := 88) (tgt := 89) (by rw [hc5]; decide) (by rw [hc5]; decide) (by rw [hc5]; rfl) (by decide) ?_
    refine lv_aload_n hx hb dX8_count_89 rfl (lv_at hl 0 rfl) ?_
    obtain ⟨v14, e14, hf⟩ := mw_b hf
    refine mw_getr hx hb hts inX8 hown hw (ci := 8) rfl 2 (by decide) (hts _ tw_196) rfl e14 dX8_count_90 ?_
    obtain ⟨v15, S15, e15, hf⟩ := mw_bb hf
    obtain ⟨ho, e15⟩ := mw_v_s e15
    refine mw_calli (va_runV (As := []) (rest := []) ⟨hx, hb, hml, hown, hts⟩ (cm_X6_used l D G N S v14 (v15, S15) e15) (cwV 0 hts (mw_gV tw_518 tw_519 tw_520 tw_4 tw_521) rfl rfl rfl (by decide +kernel) ⟨Nat.le_of_ble_eq_true rfl, Nat.le_of_ble_eq_true rfl⟩) (mw_preV hw (ci := 6) rfl ho) rfl rfl hl.1 rfl (lv_room (Nat.le_of_ble_eq_true rfl)) dX8_count_93 ⟨(Nat.le_of_ble_eq_true rfl), (Nat.le_of_ble_eq_true rfl)⟩) hw (fun H locs hw => ?_)
    exact mw_iret hx hb hr hlocks hw hf dX8_count_96
  rw [if_neg hc5] at hf
  refine lv_tableOut hx hb dX8_count_1 (tgt := 97) (mw_tout5 hc0 hc1 hc2 hc3 hc4 hc5) (by decide) ?_
  refine lv_iconst (v := (-1)) hx hb dX8_count_97 (by decide) ?_
  exact mw_iret hx hb hr hlocks hw hf dX8_count_98
abbrev rmX3_lostInAll : Room := { frames := 0, cells := 0, slots := 0, locals := 0 }
abbrev wsX3_lostInAll : List Cond := Cond.code yX3_lostInAll cX3_lostInAll 1 (some .int) :: lw_good
set_option maxHeartbeats 4000000 in
set_option maxRecDepth 100000 in
theorem cm_X3_lostInAll (l : Launch) (D : va_G) (G : Nat → ClassId) (N : Nat) (S : mw_M) (h0 : Nat) (z : Int32 × mw_M) (hf : pf_X3_lostInAll G N S h0 = some z) : Met l yX3_lostInAll wsX3_lostInAll rmX3_lostInAll (va_Pc [.ref h0] (mw_B D vwCl (mw_tys G) mw_aos S)) (mw_Qi D vwCl (mw_tys G) mw_aos (mw_A S) z) 0 0 (mw_A S) := by
  refine Met.ofW (cc := cX3_lostInAll) (maxL := 1) (ret := (some .int)) (by decide) rfl ?_
  intro p e s m args below meth c s₁ B hml hv
  obtain ⟨rfl, hB⟩ := hv
  have hw := mw_begin hB
  have hx := B.exec
  have hb := B.bytes
  have hr := B.returns
  have hts : ∀ w ∈ lw_good, w.before _ s = true := fun w h => atoms_spec (ws := wsX3_lostInAll) B.pre w (List.mem_cons_of_mem _ h)
  have hown : s.vm.findClass RX3 = some m.cls := findClass_of_methodNamed B.named
  have hlocks := B.notSynchronized
  have hC : mw_C p s m _ meth c cX3_lostInAll RX3 (some .int) lw_good 1 := ⟨hx, hb, hml, hown, hts, hr, hlocks⟩
  have hl := lv_entry ([.ref h0]) (n := 1) (Nat.le_of_ble_eq_true rfl)
  rw [lg_entry_eq]
  generalize (lg_sl ([.ref h0]) ++ List.replicate (1 - (lg_sl ([.ref h0])).length) Slot.unset).toArray = ls at hl ⊢
  have hl : lv_has ls 1 [(0, .ref h0)] := hl
  unfold pf_X3_lostInAll at hf
  refine lv_aload_n hx hb dX3_lostInAll_0 rfl (lv_at hl 0 rfl) ?_
  obtain ⟨v1, e1, hf⟩ := mw_b hf
  refine mw_geti hx hb hts inX3 hown hw (ci := 3) rfl 4 (by decide) (hts _ tw_87) rfl e1 dX3_lostInAll_1 ?_
  exact mw_iret hx hb hr hlocks hw hf dX3_lostInAll_4
abbrev rmX8_lost : Room := { frames := 1, cells := 0, slots := 0, locals := 20 }
abbrev wsX8_lost : List Cond := Cond.code yX8_lost cX8_lost 2 (some .int) :: lw_good
set_option maxHeartbeats 4000000 in
set_option maxRecDepth 100000 in
theorem cm_X8_lost (l : Launch) (D : va_G) (G : Nat → ClassId) (N : Nat) (S : mw_M) (h0 : Nat) (x1 : Int32) (z : Int32 × mw_M) (hf : pf_X8_lost G N S h0 x1 = some z) : Met l yX8_lost wsX8_lost rmX8_lost (va_Pc [.ref h0, .int x1] (mw_B D vwCl (mw_tys G) mw_aos S)) (mw_Qi D vwCl (mw_tys G) mw_aos (mw_A S) z) 0 0 (mw_A S) := by
  refine Met.ofW (cc := cX8_lost) (maxL := 2) (ret := (some .int)) (by decide) rfl ?_
  intro p e s m args below meth c s₁ B hml hv
  obtain ⟨rfl, hB⟩ := hv
  have hw := mw_begin hB
  have hx := B.exec
  have hb := B.bytes
  have hr := B.returns
  have hts : ∀ w ∈ lw_good, w.before _ s = true := fun w h => atoms_spec (ws := wsX8_lost) B.pre w (List.mem_cons_of_mem _ h)
  have hown : s.vm.findClass RX8 = some m.cls := findClass_of_methodNamed B.named
  have hlocks := B.notSynchronized
  have hC : mw_C p s m _ meth c cX8_lost RX8 (some .int) lw_good 2 := ⟨hx, hb, hml, hown, hts, hr, hlocks⟩
  have hl := lv_entry ([.ref h0, .int x1]) (n := 2) (Nat.le_of_ble_eq_true rfl)
  rw [lg_entry_eq]
  generalize (lg_sl ([.ref h0, .int x1]) ++ List.replicate (2 - (lg_sl ([.ref h0, .int x1])).length) Slot.unset).toArray = ls at hl ⊢
  have hl : lv_has ls 2 [(0, .ref h0), (1, .int x1)] := hl
  unfold pf_X8_lost at hf
  refine lv_iload_n hx hb dX8_lost_0 rfl (lv_at hl 1 rfl) ?_
  obtain ⟨v1, S1, e1, hf⟩ := mw_bb hf
  refine mw_calli (va_runS (As := [.int x1]) (rest := []) ⟨hx, hb, hml, hown, hts⟩ (cm_X8_isThread l D G N S x1 (v1, S1) e1) (cwS 1 hts (mw_gS tw_253 tw_254 tw_1 tw_255) rfl rfl rfl (by decide +kernel) ⟨Nat.le_of_ble_eq_true rfl, Nat.le_of_ble_eq_true rfl⟩) (mw_preS hw) rfl rfl hl.1 rfl (lv_room (Nat.le_of_ble_eq_true rfl)) dX8_lost_1 ⟨(Nat.le_of_ble_eq_true rfl), (Nat.le_of_ble_eq_true rfl)⟩) hw (fun H locs hw => ?_)
  refine lv_if_eq hx hb dX8_lost_4 (tgt := 19) (by decide) (fun hc => ?_) (fun hc => ?_)
  · rw [if_pos hc] at hf
    refine lv_iconst (v := (-1)) hx hb dX8_lost_19 (by decide) ?_
    exact mw_iret hx hb hr hlocks hw hf dX8_lost_20
  · rw [if_neg hc] at hf
    refine lv_aload_n hx hb dX8_lost_7 rfl (lv_at hl 0 rfl) ?_
    obtain ⟨v2, e2, hf⟩ := mw_b hf
    refine mw_getr hx hb hts inX8 hown hw (ci := 8) rfl 3 (by decide) (hts _ tw_197) rfl e2 dX8_lost_8 ?_
    refine lv_iload_n hx hb dX8_lost_11 rfl (lv_at hl 1 rfl) ?_
    obtain ⟨v3, e3, hf⟩ := mw_b hf
    refine mw_aald hx hb hw 4 rfl e3 dX8_lost_12 ?_
    obtain ⟨v4, S4, e4, hf⟩ := mw_bb hf
    obtain ⟨ho, e4⟩ := mw_v_s e4
    refine mw_calli (va_runV (As := []) (rest := []) ⟨hx, hb, hml, hown, hts⟩ (cm_X3_lostInAll l D G N S1 v3 (v4, S4) e4) (cwV 0 hts (mw_gV tw_526 tw_527 tw_528 tw_5 tw_529) rfl rfl rfl (by decide +kernel) ⟨Nat.le_of_ble_eq_true rfl, Nat.le_of_ble_eq_true rfl⟩) (mw_preV hw (ci := 3) rfl ho) rfl rfl hl.1 rfl (lv_room (Nat.le_of_ble_eq_true rfl)) dX8_lost_13 ⟨(Nat.le_of_ble_eq_true rfl), (Nat.le_of_ble_eq_true rfl)⟩) hw (fun H locs hw => ?_)
    refine lv_goto hx hb dX8_lost_16 (tgt := 20) (by decide) ?_
    exact mw_iret hx hb hr hlocks hw hf dX8_lost_20
abbrev rmX9_init : Room := { frames := 1, cells := 25, slots := 9479, locals := 12 }
abbrev wsX9_init : List Cond := Cond.code yX9_init cX9_init 4 none :: lw_good
set_option maxHeartbeats 4000000 in
set_option maxRecDepth 100000 in
theorem bX9_init_271 {p : Program} {l : Launch} {e : Env} {s : State} {m : MethodId} {args : Array Value} {below : List Frame} {meth : Method} {c : Code} (hC : mw_C p s m args meth c cX9_init RX9 none lw_good 4) (hin : meth.name = "<init>") (D : va_G) (G : Nat → ClassId) (N : Nat) {A : Nat → Prop} {z : mw_M} : ∀ (y0 : Nat) (w0 : Nat) (w1 : Int32) (S : mw_M) (H : Heap) (locs : List Loc) (ls : Array Slot), pf_X9_init_271 G N y0 w0 w1 S = some z → lv_has ls 4 [(0, .ref y0)] → mw_W D vwCl (mw_tys G) mw_aos A s S H locs → W p l e (headSpec wsX9_init rmX9_init).room s m args below meth c H locs 25 9479 (MQ below (mw_Qv D vwCl (mw_tys G) mw_aos A z) args s 25 9479 A) (F0 m 271 ls [.int w1, .ref w0]) := by
  obtain ⟨hx, hb, hml, hown, hts, hr, hlocks⟩ := hC
  intro y0 w0 w1 S H locs ls hf hl hw
  unfold pf_X9_init_271 at hf
  obtain ⟨S1, e1, hf⟩ := mw_b hf
  refine mw_putF hx hb hts inX9 tyX9 tyX9_ok nX9 hown hw (ci := 9) rfl 2 (by decide) (hts _ tw_725) rfl rfl hin rfl (ty := .int) (by decide +kernel) rfl rfl e1 dX9_init_271 (fun H locs hw => ?_)
  refine lv_aload_n hx hb dX9_init_274 rfl (lv_at hl 0 rfl) ?_
  obtain ⟨v2, e2, hf⟩ := mw_b hf
  refine mw_getr hx hb hts inX9 hown hw (ci := 9) rfl 23 (by decide) (hts _ tw_746) rfl e2 dX9_init_275 ?_
  refine lv_bipush (v := 6) hx hb dX9_init_278 (by decide) ?_
  refine lv_iconst (v := 1) hx hb dX9_init_280 (by decide) ?_
  obtain ⟨S3, e3, hf⟩ := mw_b hf
  refine mw_iast hx hb hw 0 rfl e3 dX9_init_281 (fun H locs hw => ?_)
  refine W.widen (k := 25) (n := 9479) (Nat.le_of_ble_eq_true rfl) (Nat.le_of_ble_eq_true rfl) ?_
  exact mw_vret hx hb hr hlocks hw hf dX9_init_282
set_option maxHeartbeats 4000000 in
set_option maxRecDepth 100000 in
theorem bX9_init_248 {p : Program} {l : Launch} {e : Env} {s : State} {m : MethodId} {args : Array Value} {below : List Frame} {meth : Method} {c : Code} (hC : mw_C p s m args meth c cX9_init RX9 none lw_good 4) (hin : meth.name = "<init>") (D : va_G) (G : Nat → ClassId) (N : Nat) {A : Nat → Prop} {z : mw_M} : ∀ (y0 : Nat) (y3 : Int32) (w0 : Nat) (w1 : Int32) (S : mw_M) (H : Heap) (locs : List Loc) (ls : Array Slot), pf_X9_init_248 G N y0 y3 w0 w1 S = some z → lv_has ls 4 [(0, .ref y0), (3, .int y3)] → mw_W D vwCl (mw_tys G) mw_aos A s S H locs → W p l e (headSpec wsX9_init rmX9_init).room s m args below meth c H locs 25 9479 (MQ below (mw_Qv D vwCl (mw_tys G) mw_aos A z) args s 25 9479 A) (F0 m 248 ls [.int w1, .ref w0]) := by
  obtain ⟨hx, hb, hml, hown, hts, hr, hlocks⟩ := hC
  intro y0 y3 w0 w1 S H locs ls hf hl hw
  unfold pf_X9_init_248 at hf
  obtain ⟨S1, e1, hf⟩ := mw_b hf
  refine mw_putF hx hb hts inX9 tyX9 tyX9_ok nX9 hown hw (ci := 9) rfl 1 (by decide) (hts _ tw_724) rfl rfl hin rfl (ty := .int) (by decide +kernel) rfl rfl e1 dX9_init_248 (fun H locs hw => ?_)
  refine lv_aload_n hx hb dX9_init_251 rfl (lv_at hl 0 rfl) ?_
  refine lv_iload_n hx hb dX9_init_252 rfl (lv_at hl 1 rfl) ?_
  refine lv_iconst (v := 1) hx hb dX9_init_253 (by decide) ?_
  refine lv_icmp_ge hx hb dX9_init_254 (tgt := 261) (by decide) (fun hc => ?_) (fun hc => ?_)
  · rw [if_pos hc] at hf
    refine lv_iload_n hx hb dX9_init_261 rfl (lv_at hl 1 rfl) ?_
    refine lv_iconst (v := 5) hx hb dX9_init_262 (by decide) ?_
    refine lv_icmp_le hx hb dX9_init_263 (tgt := 270) (by decide) (fun hc => ?_) (fun hc => ?_)
    · rw [if_pos hc] at hf
      refine lv_iload_n hx hb dX9_init_270 rfl (lv_at hl 1 rfl) ?_
      exact bX9_init_271 ⟨hx, hb, hml, hown, hts, hr, hlocks⟩ hin D G N _ _ _ _ _ _ _ hf (lv_sub hl [0] rfl) hw
    · rw [if_neg hc] at hf
      refine lv_iconst (v := 5) hx hb dX9_init_266 (by decide) ?_
      refine lv_goto hx hb dX9_init_267 (tgt := 271) (by decide) ?_
      exact bX9_init_271 ⟨hx, hb, hml, hown, hts, hr, hlocks⟩ hin D G N _ _ _ _ _ _ _ hf (lv_sub hl [0] rfl) hw
  · rw [if_neg hc] at hf
    refine lv_iconst (v := 1) hx hb dX9_init_257 (by decide) ?_
    refine lv_goto hx hb dX9_init_258 (tgt := 271) (by decide) ?_
    exact bX9_init_271 ⟨hx, hb, hml, hown, hts, hr, hlocks⟩ hin D G N _ _ _ _ _ _ _ hf (lv_sub hl [0] rfl) hw
set_option maxHeartbeats 4000000 in
set_option maxRecDepth 100000 in
theorem bX9_init_226 {p : Program} {l : Launch} {e : Env} {s : State} {m : MethodId} {args : Array Value} {below : List Frame} {meth : Method} {c : Code} (hC : mw_C p s m args meth c cX9_init RX9 none lw_good 4) (hin : meth.name = "<init>") (D : va_G) (G : Nat → ClassId) (N : Nat) {A : Nat → Prop} {z : mw_M} : ∀ (y0 : Nat) (y2 : Int32) (y3 : Int32) (w0 : Nat) (w1 : Int32) (S : mw_M) (H : Heap) (locs : List Loc) (ls : Array Slot), pf_X9_init_226 G N y0 y2 y3 w0 w1 S = some z → lv_has ls 4 [(0, .ref y0), (2, .int y2), (3, .int y3)] → mw_W D vwCl (mw_tys G) mw_aos A s S H locs → W p l e (headSpec wsX9_init rmX9_init).room s m args below meth c H locs 25 9479 (MQ below (mw_Qv D vwCl (mw_tys G) mw_aos A z) args s 25 9479 A) (F0 m 226 ls [.int w1, .ref w0]) := by
  obtain ⟨hx, hb, hml, hown, hts, hr, hlocks⟩ := hC
  intro y0 y2 y3 w0 w1 S H locs ls hf hl hw
  unfold pf_X9_init_226 at hf
  obtain ⟨S1, e1, hf⟩ := mw_b hf
  refine mw_putF hx hb hts inX9 tyX9 tyX9_ok nX9 hown hw (ci := 9) rfl 0 (by decide) (hts _ tw_723) rfl rfl hin rfl (ty := .int) (by decide +kernel) rfl rfl e1 dX9_init_226 (fun H locs hw => ?_)
  refine lv_aload_n hx hb dX9_init_229 rfl (lv_at hl 0 rfl) ?_
  refine lv_iload_n hx hb dX9_init_230 rfl (lv_at hl 1 rfl) ?_
  refine lv_if_ge hx hb dX9_init_231 (tgt := 238) (by decide) (fun hc => ?_) (fun hc => ?_)
  · rw [if_pos hc] at hf
    refine lv_iload_n hx hb dX9_init_238 rfl (lv_at hl 1 rfl) ?_
    refine lv_iconst (v := 4) hx hb dX9_init_239 (by decide) ?_
    refine lv_icmp_le hx hb dX9_init_240 (tgt := 247) (by decide) (fun hc => ?_) (fun hc => ?_)
    · rw [if_pos hc] at hf
      refine lv_iload_n hx hb dX9_init_247 rfl (lv_at hl 1 rfl) ?_
      exact bX9_init_248 ⟨hx, hb, hml, hown, hts, hr, hlocks⟩ hin D G N _ _ _ _ _ _ _ _ hf (lv_sub hl [0, 2] rfl) hw
    · rw [if_neg hc] at hf
      refine lv_iconst (v := 4) hx hb dX9_init_243 (by decide) ?_
      refine lv_goto hx hb dX9_init_244 (tgt := 248) (by decide) ?_
      exact bX9_init_248 ⟨hx, hb, hml, hown, hts, hr, hlocks⟩ hin D G N _ _ _ _ _ _ _ _ hf (lv_sub hl [0, 2] rfl) hw
  · rw [if_neg hc] at hf
    refine lv_iconst (v := 0) hx hb dX9_init_234 (by decide) ?_
    refine lv_goto hx hb dX9_init_235 (tgt := 248) (by decide) ?_
    exact bX9_init_248 ⟨hx, hb, hml, hown, hts, hr, hlocks⟩ hin D G N _ _ _ _ _ _ _ _ hf (lv_sub hl [0, 2] rfl) hw
set_option maxHeartbeats 4000000 in
set_option maxRecDepth 100000 in
theorem cm_X9_init (l : Launch) (D : va_G) (G : Nat → ClassId) (N : Nat) (S : mw_M) (h0 : Nat) (x1 : Int32) (x2 : Int32) (x3 : Int32) (z : mw_M) (hf : pf_X9_init G N S h0 x1 x2 x3 = some z) : Met l yX9_init wsX9_init rmX9_init (va_Pc [.ref h0, .int x1, .int x2, .int x3] (mw_B D vwCl (mw_tys G) mw_aos S)) (mw_Qv D vwCl (mw_tys G) mw_aos (mw_A S) z) 25 9479 (mw_A S) := by
  refine Met.ofW (cc := cX9_init) (maxL := 4) (ret := none) (by decide) rfl ?_
  intro p e s m args below meth c s₁ B hml hv
  obtain ⟨rfl, hB⟩ := hv
  have hw := mw_begin hB
  have hx := B.exec
  have hb := B.bytes
  have hr := B.returns
  have hts : ∀ w ∈ lw_good, w.before _ s = true := fun w h => atoms_spec (ws := wsX9_init) B.pre w (List.mem_cons_of_mem _ h)
  have hown : s.vm.findClass RX9 = some m.cls := findClass_of_methodNamed B.named
  have hlocks := B.notSynchronized
  have hin : meth.name = "<init>" := (name_of_methodNamed B.named B.method).1
  have hC : mw_C p s m _ meth c cX9_init RX9 none lw_good 4 := ⟨hx, hb, hml, hown, hts, hr, hlocks⟩
  have hl := lv_entry ([.ref h0, .int x1, .int x2, .int x3]) (n := 4) (Nat.le_of_ble_eq_true rfl)
  rw [lg_entry_eq]
  generalize (lg_sl ([.ref h0, .int x1, .int x2, .int x3]) ++ List.replicate (4 - (lg_sl ([.ref h0, .int x1, .int x2, .int x3])).length) Slot.unset).toArray = ls at hl ⊢
  have hl : lv_has ls 4 [(0, .ref h0), (1, .int x1), (2, .int x2), (3, .int x3)] := hl
  unfold pf_X9_init at hf
  refine lv_aload_n hx hb dX9_init_0 rfl (lv_at hl 0 rfl) ?_
  refine W.objInit hx hb hown (hts _ tw_722) (hts _ tw_23) (hts _ tw_24) rfl (by rw [hml]; exact hl.1) rfl dX9_init_1 (Nat.le_of_ble_eq_true rfl) (Nat.le_of_ble_eq_true rfl) ?_
  refine W.eq (g2 := F0 m 4 ls []) rfl ?_
  refine lv_aload_n hx hb dX9_init_4 rfl (lv_at hl 0 rfl) ?_
  refine lv_bipush (v := 40) hx hb dX9_init_5 (by decide) ?_
  obtain ⟨v1, S1, e1, hf⟩ := mw_bb hf
  refine mw_newa (atype := .char) hx hb (hts _ tw_44) rfl rfl hw 2 rfl rfl (by decide) (Nat.le_of_ble_eq_true rfl) (Nat.le_of_ble_eq_true rfl) e1 dX9_init_7 (fun H hw => ?_)
  obtain ⟨S2, e2, hf⟩ := mw_b hf
  refine mw_putF hx hb hts inX9 tyX9 tyX9_ok nX9 hown hw (ci := 9) rfl 6 (by decide) (hts _ tw_729) rfl rfl hin rfl (ty := (.array .char)) (by decide +kernel) rfl rfl e2 dX9_init_9 (fun H locs hw => ?_)
  refine lv_aload_n hx hb dX9_init_12 rfl (lv_at hl 0 rfl) ?_
  refine lv_bipush (v := 6) hx hb dX9_init_13 (by decide) ?_
  obtain ⟨v3, S3, e3, hf⟩ := mw_bb hf
  refine mw_newa (atype := .int) hx hb (hts _ tw_61) rfl rfl hw 0 rfl rfl (by decide) (Nat.le_of_ble_eq_true rfl) (Nat.le_of_ble_eq_true rfl) e3 dX9_init_15 (fun H hw => ?_)
  obtain ⟨S4, e4, hf⟩ := mw_b hf
  refine mw_putF hx hb hts inX9 tyX9 tyX9_ok nX9 hown hw (ci := 9) rfl 8 (by decide) (hts _ tw_731) rfl rfl hin rfl (ty := (.array .int)) (by decide +kernel) rfl rfl e4 dX9_init_17 (fun H locs hw => ?_)
  refine lv_aload_n hx hb dX9_init_20 rfl (lv_at hl 0 rfl) ?_
  refine lv_bipush (v := 6) hx hb dX9_init_21 (by decide) ?_
  obtain ⟨v5, S5, e5, hf⟩ := mw_bb hf
  refine mw_newa (atype := .boolean) hx hb (hts _ tw_123) rfl rfl hw 3 rfl rfl (by decide) (Nat.le_of_ble_eq_true rfl) (Nat.le_of_ble_eq_true rfl) e5 dX9_init_23 (fun H hw => ?_)
  obtain ⟨S6, e6, hf⟩ := mw_b hf
  refine mw_putF hx hb hts inX9 tyX9 tyX9_ok nX9 hown hw (ci := 9) rfl 9 (by decide) (hts _ tw_732) rfl rfl hin rfl (ty := (.array .boolean)) (by decide +kernel) rfl rfl e6 dX9_init_25 (fun H locs hw => ?_)
  refine lv_aload_n hx hb dX9_init_28 rfl (lv_at hl 0 rfl) ?_
  refine lv_sipush (v := 192) hx hb dX9_init_29 (by decide) ?_
  obtain ⟨v7, S7, e7, hf⟩ := mw_bb hf
  refine mw_newa (atype := .char) hx hb (hts _ tw_44) rfl rfl hw 2 rfl rfl (by decide) (Nat.le_of_ble_eq_true rfl) (Nat.le_of_ble_eq_true rfl) e7 dX9_init_32 (fun H hw => ?_)
  obtain ⟨S8, e8, hf⟩ := mw_b hf
  refine mw_putF hx hb hts inX9 tyX9 tyX9_ok nX9 hown hw (ci := 9) rfl 11 (by decide) (hts _ tw_734) rfl rfl hin rfl (ty := (.array .char)) (by decide +kernel) rfl rfl e8 dX9_init_34 (fun H locs hw => ?_)
  refine lv_aload_n hx hb dX9_init_37 rfl (lv_at hl 0 rfl) ?_
  refine lv_bipush (v := 24) hx hb dX9_init_38 (by decide) ?_
  obtain ⟨v9, S9, e9, hf⟩ := mw_bb hf
  refine mw_newa (atype := .int) hx hb (hts _ tw_61) rfl rfl hw 0 rfl rfl (by decide) (Nat.le_of_ble_eq_true rfl) (Nat.le_of_ble_eq_true rfl) e9 dX9_init_40 (fun H hw => ?_)
  obtain ⟨S10, e10, hf⟩ := mw_b hf
  refine mw_putF hx hb hts inX9 tyX9 tyX9_ok nX9 hown hw (ci := 9) rfl 12 (by decide) (hts _ tw_735) rfl rfl hin rfl (ty := (.array .int)) (by decide +kernel) rfl rfl e10 dX9_init_42 (fun H locs hw => ?_)
  refine lv_aload_n hx hb dX9_init_45 rfl (lv_at hl 0 rfl) ?_
  refine lv_iconst (v := 3) hx hb dX9_init_46 (by decide) ?_
  obtain ⟨v11, S11, e11, hf⟩ := mw_bb hf
  refine mw_newa (atype := .int) hx hb (hts _ tw_61) rfl rfl hw 0 rfl rfl (by decide) (Nat.le_of_ble_eq_true rfl) (Nat.le_of_ble_eq_true rfl) e11 dX9_init_47 (fun H hw => ?_)
  obtain ⟨S12, e12, hf⟩ := mw_b hf
  refine mw_putF hx hb hts inX9 tyX9 tyX9_ok nX9 hown hw (ci := 9) rfl 13 (by decide) (hts _ tw_736) rfl rfl hin rfl (ty := (.array .int)) (by decide +kernel) rfl rfl e12 dX9_init_49 (fun H locs hw => ?_)
  refine lv_aload_n hx hb dX9_init_52 rfl (lv_at hl 0 rfl) ?_
  refine lv_bipush (v := 9) hx hb dX9_init_53 (by decide) ?_
  obtain ⟨v13, S13, e13, hf⟩ := mw_bb hf
  refine mw_newa (atype := .int) hx hb (hts _ tw_61) rfl rfl hw 0 rfl rfl (by decide) (Nat.le_of_ble_eq_true rfl) (Nat.le_of_ble_eq_true rfl) e13 dX9_init_55 (fun H hw => ?_)
  obtain ⟨S14, e14, hf⟩ := mw_b hf
  refine mw_putF hx hb hts inX9 tyX9 tyX9_ok nX9 hown hw (ci := 9) rfl 14 (by decide) (hts _ tw_737) rfl rfl hin rfl (ty := (.array .int)) (by decide +kernel) rfl rfl e14 dX9_init_57 (fun H locs hw => ?_)
  refine lv_aload_n hx hb dX9_init_60 rfl (lv_at hl 0 rfl) ?_
  refine lv_sipush (v := 420) hx hb dX9_init_61 (by decide) ?_
  obtain ⟨v15, S15, e15, hf⟩ := mw_bb hf
  refine mw_newa (atype := .int) hx hb (hts _ tw_61) rfl rfl hw 0 rfl rfl (by decide) (Nat.le_of_ble_eq_true rfl) (Nat.le_of_ble_eq_true rfl) e15 dX9_init_64 (fun H hw => ?_)
  obtain ⟨S16, e16, hf⟩ := mw_b hf
  refine mw_putF hx hb hts inX9 tyX9 tyX9_ok nX9 hown hw (ci := 9) rfl 15 (by decide) (hts _ tw_738) rfl rfl hin rfl (ty := (.array .int)) (by decide +kernel) rfl rfl e16 dX9_init_66 (fun H locs hw => ?_)
  refine lv_aload_n hx hb dX9_init_69 rfl (lv_at hl 0 rfl) ?_
  refine lv_bipush (v := 7) hx hb dX9_init_70 (by decide) ?_
  obtain ⟨v17, S17, e17, hf⟩ := mw_bb hf
  refine mw_newa (atype := .int) hx hb (hts _ tw_61) rfl rfl hw 0 rfl rfl (by decide) (Nat.le_of_ble_eq_true rfl) (Nat.le_of_ble_eq_true rfl) e17 dX9_init_72 (fun H hw => ?_)
  obtain ⟨S18, e18, hf⟩ := mw_b hf
  refine mw_putF hx hb hts inX9 tyX9 tyX9_ok nX9 hown hw (ci := 9) rfl 16 (by decide) (hts _ tw_739) rfl rfl hin rfl (ty := (.array .int)) (by decide +kernel) rfl rfl e18 dX9_init_74 (fun H locs hw => ?_)
  refine lv_aload_n hx hb dX9_init_77 rfl (lv_at hl 0 rfl) ?_
  refine lv_bipush (v := 7) hx hb dX9_init_78 (by decide) ?_
  obtain ⟨v19, S19, e19, hf⟩ := mw_bb hf
  refine mw_newa (atype := .int) hx hb (hts _ tw_61) rfl rfl hw 0 rfl rfl (by decide) (Nat.le_of_ble_eq_true rfl) (Nat.le_of_ble_eq_true rfl) e19 dX9_init_80 (fun H hw => ?_)
  obtain ⟨S20, e20, hf⟩ := mw_b hf
  refine mw_putF hx hb hts inX9 tyX9 tyX9_ok nX9 hown hw (ci := 9) rfl 17 (by decide) (hts _ tw_740) rfl rfl hin rfl (ty := (.array .int)) (by decide +kernel) rfl rfl e20 dX9_init_82 (fun H locs hw => ?_)
  refine lv_aload_n hx hb dX9_init_85 rfl (lv_at hl 0 rfl) ?_
  refine lv_sipush (v := 4200) hx hb dX9_init_86 (by decide) ?_
  obtain ⟨v21, S21, e21, hf⟩ := mw_bb hf
  refine mw_newa (atype := .int) hx hb (hts _ tw_61) rfl rfl hw 0 rfl rfl (by decide) (Nat.le_of_ble_eq_true rfl) (Nat.le_of_ble_eq_true rfl) e21 dX9_init_89 (fun H hw => ?_)
  obtain ⟨S22, e22, hf⟩ := mw_b hf
  refine mw_putF hx hb hts inX9 tyX9 tyX9_ok nX9 hown hw (ci := 9) rfl 21 (by decide) (hts _ tw_744) rfl rfl hin rfl (ty := (.array .int)) (by decide +kernel) rfl rfl e22 dX9_init_91 (fun H locs hw => ?_)
  refine lv_aload_n hx hb dX9_init_94 rfl (lv_at hl 0 rfl) ?_
  refine lv_bipush (v := 7) hx hb dX9_init_95 (by decide) ?_
  obtain ⟨v23, S23, e23, hf⟩ := mw_bb hf
  refine mw_newa (atype := .int) hx hb (hts _ tw_61) rfl rfl hw 0 rfl rfl (by decide) (Nat.le_of_ble_eq_true rfl) (Nat.le_of_ble_eq_true rfl) e23 dX9_init_97 (fun H hw => ?_)
  obtain ⟨S24, e24, hf⟩ := mw_b hf
  refine mw_putF hx hb hts inX9 tyX9 tyX9_ok nX9 hown hw (ci := 9) rfl 22 (by decide) (hts _ tw_745) rfl rfl hin rfl (ty := (.array .int)) (by decide +kernel) rfl rfl e24 dX9_init_99 (fun H locs hw => ?_)
  refine lv_aload_n hx hb dX9_init_102 rfl (lv_at hl 0 rfl) ?_
  refine lv_bipush (v := 7) hx hb dX9_init_103 (by decide) ?_
  obtain ⟨v25, S25, e25, hf⟩ := mw_bb hf
  refine mw_newa (atype := .int) hx hb (hts _ tw_61) rfl rfl hw 0 rfl rfl (by decide) (Nat.le_of_ble_eq_true rfl) (Nat.le_of_ble_eq_true rfl) e25 dX9_init_105 (fun H hw => ?_)
  obtain ⟨S26, e26, hf⟩ := mw_b hf
  refine mw_putF hx hb hts inX9 tyX9 tyX9_ok nX9 hown hw (ci := 9) rfl 23 (by decide) (hts _ tw_746) rfl rfl hin rfl (ty := (.array .int)) (by decide +kernel) rfl rfl e26 dX9_init_107 (fun H locs hw => ?_)
  refine lv_aload_n hx hb dX9_init_110 rfl (lv_at hl 0 rfl) ?_
  refine lv_bipush (v := 7) hx hb dX9_init_111 (by decide) ?_
  obtain ⟨v27, S27, e27, hf⟩ := mw_bb hf
  refine mw_newa (atype := .int) hx hb (hts _ tw_61) rfl rfl hw 0 rfl rfl (by decide) (Nat.le_of_ble_eq_true rfl) (Nat.le_of_ble_eq_true rfl) e27 dX9_init_113 (fun H hw => ?_)
  obtain ⟨S28, e28, hf⟩ := mw_b hf
  refine mw_putF hx hb hts inX9 tyX9 tyX9_ok nX9 hown hw (ci := 9) rfl 24 (by decide) (hts _ tw_747) rfl rfl hin rfl (ty := (.array .int)) (by decide +kernel) rfl rfl e28 dX9_init_115 (fun H locs hw => ?_)
  refine lv_aload_n hx hb dX9_init_118 rfl (lv_at hl 0 rfl) ?_
  refine lv_bipush (v := 7) hx hb dX9_init_119 (by decide) ?_
  obtain ⟨v29, S29, e29, hf⟩ := mw_bb hf
  refine mw_newa (atype := .int) hx hb (hts _ tw_61) rfl rfl hw 0 rfl rfl (by decide) (Nat.le_of_ble_eq_true rfl) (Nat.le_of_ble_eq_true rfl) e29 dX9_init_121 (fun H hw => ?_)
  obtain ⟨S30, e30, hf⟩ := mw_b hf
  refine mw_putF hx hb hts inX9 tyX9 tyX9_ok nX9 hown hw (ci := 9) rfl 25 (by decide) (hts _ tw_748) rfl rfl hin rfl (ty := (.array .int)) (by decide +kernel) rfl rfl e30 dX9_init_123 (fun H locs hw => ?_)
  refine lv_aload_n hx hb dX9_init_126 rfl (lv_at hl 0 rfl) ?_
  refine lv_bipush (v := 7) hx hb dX9_init_127 (by decide) ?_
  obtain ⟨v31, S31, e31, hf⟩ := mw_bb hf
  refine mw_newa (atype := .int) hx hb (hts _ tw_61) rfl rfl hw 0 rfl rfl (by decide) (Nat.le_of_ble_eq_true rfl) (Nat.le_of_ble_eq_true rfl) e31 dX9_init_129 (fun H hw => ?_)
  obtain ⟨S32, e32, hf⟩ := mw_b hf
  refine mw_putF hx hb hts inX9 tyX9 tyX9_ok nX9 hown hw (ci := 9) rfl 26 (by decide) (hts _ tw_749) rfl rfl hin rfl (ty := (.array .int)) (by decide +kernel) rfl rfl e32 dX9_init_131 (fun H locs hw => ?_)
  refine lv_aload_n hx hb dX9_init_134 rfl (lv_at hl 0 rfl) ?_
  refine lv_iconst (v := 3) hx hb dX9_init_135 (by decide) ?_
  obtain ⟨v33, S33, e33, hf⟩ := mw_bb hf
  refine mw_newa (atype := .int) hx hb (hts _ tw_61) rfl rfl hw 0 rfl rfl (by decide) (Nat.le_of_ble_eq_true rfl) (Nat.le_of_ble_eq_true rfl) e33 dX9_init_136 (fun H hw => ?_)
  obtain ⟨S34, e34, hf⟩ := mw_b hf
  refine mw_putF hx hb hts inX9 tyX9 tyX9_ok nX9 hown hw (ci := 9) rfl 27 (by decide) (hts _ tw_750) rfl rfl hin rfl (ty := (.array .int)) (by decide +kernel) rfl rfl e34 dX9_init_138 (fun H locs hw => ?_)
  refine lv_aload_n hx hb dX9_init_141 rfl (lv_at hl 0 rfl) ?_
  refine lv_iconst (v := 3) hx hb dX9_init_142 (by decide) ?_
  obtain ⟨v35, S35, e35, hf⟩ := mw_bb hf
  refine mw_newa (atype := .int) hx hb (hts _ tw_61) rfl rfl hw 0 rfl rfl (by decide) (Nat.le_of_ble_eq_true rfl) (Nat.le_of_ble_eq_true rfl) e35 dX9_init_143 (fun H hw => ?_)
  obtain ⟨S36, e36, hf⟩ := mw_b hf
  refine mw_putF hx hb hts inX9 tyX9 tyX9_ok nX9 hown hw (ci := 9) rfl 28 (by decide) (hts _ tw_751) rfl rfl hin rfl (ty := (.array .int)) (by decide +kernel) rfl rfl e36 dX9_init_145 (fun H locs hw => ?_)
  refine lv_aload_n hx hb dX9_init_148 rfl (lv_at hl 0 rfl) ?_
  refine lv_iconst (v := 4) hx hb dX9_init_149 (by decide) ?_
  obtain ⟨v37, S37, e37, hf⟩ := mw_bb hf
  refine mw_newa (atype := .int) hx hb (hts _ tw_61) rfl rfl hw 0 rfl rfl (by decide) (Nat.le_of_ble_eq_true rfl) (Nat.le_of_ble_eq_true rfl) e37 dX9_init_150 (fun H hw => ?_)
  obtain ⟨S38, e38, hf⟩ := mw_b hf
  refine mw_putF hx hb hts inX9 tyX9 tyX9_ok nX9 hown hw (ci := 9) rfl 30 (by decide) (hts _ tw_753) rfl rfl hin rfl (ty := (.array .int)) (by decide +kernel) rfl rfl e38 dX9_init_152 (fun H locs hw => ?_)
  refine lv_aload_n hx hb dX9_init_155 rfl (lv_at hl 0 rfl) ?_
  refine lv_bipush (v := 24) hx hb dX9_init_156 (by decide) ?_
  obtain ⟨v39, S39, e39, hf⟩ := mw_bb hf
  refine mw_newa (atype := .boolean) hx hb (hts _ tw_123) rfl rfl hw 3 rfl rfl (by decide) (Nat.le_of_ble_eq_true rfl) (Nat.le_of_ble_eq_true rfl) e39 dX9_init_158 (fun H hw => ?_)
  obtain ⟨S40, e40, hf⟩ := mw_b hf
  refine mw_putF hx hb hts inX9 tyX9 tyX9_ok nX9 hown hw (ci := 9) rfl 31 (by decide) (hts _ tw_754) rfl rfl hin rfl (ty := (.array .boolean)) (by decide +kernel) rfl rfl e40 dX9_init_160 (fun H locs hw => ?_)
  refine lv_aload_n hx hb dX9_init_163 rfl (lv_at hl 0 rfl) ?_
  refine lv_bipush (v := 24) hx hb dX9_init_164 (by decide) ?_
  obtain ⟨v41, S41, e41, hf⟩ := mw_bb hf
  refine mw_newa (atype := .int) hx hb (hts _ tw_61) rfl rfl hw 0 rfl rfl (by decide) (Nat.le_of_ble_eq_true rfl) (Nat.le_of_ble_eq_true rfl) e41 dX9_init_166 (fun H hw => ?_)
  obtain ⟨S42, e42, hf⟩ := mw_b hf
  refine mw_putF hx hb hts inX9 tyX9 tyX9_ok nX9 hown hw (ci := 9) rfl 32 (by decide) (hts _ tw_755) rfl rfl hin rfl (ty := (.array .int)) (by decide +kernel) rfl rfl e42 dX9_init_168 (fun H locs hw => ?_)
  refine lv_aload_n hx hb dX9_init_171 rfl (lv_at hl 0 rfl) ?_
  refine lv_iconst (v := 4) hx hb dX9_init_172 (by decide) ?_
  obtain ⟨v43, S43, e43, hf⟩ := mw_bb hf
  refine mw_newa (atype := .int) hx hb (hts _ tw_61) rfl rfl hw 0 rfl rfl (by decide) (Nat.le_of_ble_eq_true rfl) (Nat.le_of_ble_eq_true rfl) e43 dX9_init_173 (fun H hw => ?_)
  obtain ⟨S44, e44, hf⟩ := mw_b hf
  refine mw_putF hx hb hts inX9 tyX9 tyX9_ok nX9 hown hw (ci := 9) rfl 33 (by decide) (hts _ tw_756) rfl rfl hin rfl (ty := (.array .int)) (by decide +kernel) rfl rfl e44 dX9_init_175 (fun H locs hw => ?_)
  refine lv_aload_n hx hb dX9_init_178 rfl (lv_at hl 0 rfl) ?_
  refine lv_iconst (v := 4) hx hb dX9_init_179 (by decide) ?_
  obtain ⟨v45, S45, e45, hf⟩ := mw_bb hf
  refine mw_newa (atype := .int) hx hb (hts _ tw_61) rfl rfl hw 0 rfl rfl (by decide) (Nat.le_of_ble_eq_true rfl) (Nat.le_of_ble_eq_true rfl) e45 dX9_init_180 (fun H hw => ?_)
  obtain ⟨S46, e46, hf⟩ := mw_b hf
  refine mw_putF hx hb hts inX9 tyX9 tyX9_ok nX9 hown hw (ci := 9) rfl 34 (by decide) (hts _ tw_757) rfl rfl hin rfl (ty := (.array .int)) (by decide +kernel) rfl rfl e46 dX9_init_182 (fun H locs hw => ?_)
  refine lv_aload_n hx hb dX9_init_185 rfl (lv_at hl 0 rfl) ?_
  refine lv_sipush (v := 4400) hx hb dX9_init_186 (by decide) ?_
  obtain ⟨v47, S47, e47, hf⟩ := mw_bb hf
  refine mw_newa (atype := .int) hx hb (hts _ tw_61) rfl rfl hw 0 rfl rfl (by decide) (Nat.le_of_ble_eq_true rfl) (Nat.le_of_ble_eq_true rfl) e47 dX9_init_189 (fun H hw => ?_)
  obtain ⟨S48, e48, hf⟩ := mw_b hf
  refine mw_putF hx hb hts inX9 tyX9 tyX9_ok nX9 hown hw (ci := 9) rfl 35 (by decide) (hts _ tw_758) rfl rfl hin rfl (ty := (.array .int)) (by decide +kernel) rfl rfl e48 dX9_init_191 (fun H locs hw => ?_)
  refine lv_aload_n hx hb dX9_init_194 rfl (lv_at hl 0 rfl) ?_
  refine lv_bipush (v := 64) hx hb dX9_init_195 (by decide) ?_
  obtain ⟨v49, S49, e49, hf⟩ := mw_bb hf
  refine mw_newa (atype := .int) hx hb (hts _ tw_61) rfl rfl hw 0 rfl rfl (by decide) (Nat.le_of_ble_eq_true rfl) (Nat.le_of_ble_eq_true rfl) e49 dX9_init_197 (fun H hw => ?_)
  obtain ⟨S50, e50, hf⟩ := mw_b hf
  refine mw_putF hx hb hts inX9 tyX9 tyX9_ok nX9 hown hw (ci := 9) rfl 37 (by decide) (hts _ tw_760) rfl rfl hin rfl (ty := (.array .int)) (by decide +kernel) rfl rfl e50 dX9_init_199 (fun H locs hw => ?_)
  refine lv_aload_n hx hb dX9_init_202 rfl (lv_at hl 0 rfl) ?_
  refine lv_iload_n hx hb dX9_init_203 rfl (lv_at hl 1 rfl) ?_
  refine lv_bipush (v := 16) hx hb dX9_init_204 (by decide) ?_
  refine lv_icmp_ge hx hb dX9_init_206 (tgt := 214) (by decide) (fun hc => ?_) (fun hc => ?_)
  · rw [if_pos hc] at hf
    refine lv_iload_n hx hb dX9_init_214 rfl (lv_at hl 1 rfl) ?_
    refine lv_bipush (v := 60) hx hb dX9_init_215 (by decide) ?_
    refine lv_icmp_le hx hb dX9_init_217 (tgt := 225) (by decide) (fun hc => ?_) (fun hc => ?_)
    · rw [if_pos hc] at hf
      refine lv_iload_n hx hb dX9_init_225 rfl (lv_at hl 1 rfl) ?_
      exact bX9_init_226 ⟨hx, hb, hml, hown, hts, hr, hlocks⟩ hin D G N _ _ _ _ _ _ _ _ _ hf (lv_sub hl [0, 2, 3] rfl) hw
    · rw [if_neg hc] at hf
      refine lv_bipush (v := 60) hx hb dX9_init_220 (by decide) ?_
      refine lv_goto hx hb dX9_init_222 (tgt := 226) (by decide) ?_
      exact bX9_init_226 ⟨hx, hb, hml, hown, hts, hr, hlocks⟩ hin D G N _ _ _ _ _ _ _ _ _ hf (lv_sub hl [0, 2, 3] rfl) hw
  · rw [if_neg hc] at hf
    refine lv_bipush (v := 16) hx hb dX9_init_209 (by decide) ?_
    refine lv_goto hx hb dX9_init_211 (tgt := 226) (by decide) ?_
    exact bX9_init_226 ⟨hx, hb, hml, hown, hts, hr, hlocks⟩ hin D G N _ _ _ _ _ _ _ _ _ hf (lv_sub hl [0, 2, 3] rfl) hw
abbrev rmX9_thrown : Room := { frames := 0, cells := 0, slots := 0, locals := 0 }
abbrev wsX9_thrown : List Cond := Cond.code yX9_thrown cX9_thrown 1 (some .int) :: lw_good
set_option maxHeartbeats 4000000 in
set_option maxRecDepth 100000 in
theorem cm_X9_thrown (l : Launch) (D : va_G) (G : Nat → ClassId) (N : Nat) (b : Nat) (S0 : mw_M) (S : mm_M) (z : Int32 × mm_M) (hf : pf_X9_thrown G N S = some z) : Met l yX9_thrown wsX9_thrown rmX9_thrown (va_Pc [.ref b] (mm_B D vwCl (mw_tys G) mw_aos G b S0 S)) (mm_Qi D vwCl (mw_tys G) mw_aos G b S0 z) 0 0 (mm_A b S0) := by
  refine Met.ofW (cc := cX9_thrown) (maxL := 1) (ret := (some .int)) (by decide) rfl ?_
  intro p e s m args below meth c s₁ B hml hv
  obtain ⟨rfl, hB⟩ := hv
  have hw := mm_begin hB
  have hx := B.exec
  have hb := B.bytes
  have hr := B.returns
  have hts : ∀ w ∈ lw_good, w.before _ s = true := fun w h => atoms_spec (ws := wsX9_thrown) B.pre w (List.mem_cons_of_mem _ h)
  have hown : s.vm.findClass RX9 = some m.cls := findClass_of_methodNamed B.named
  have hlocks := B.notSynchronized
  have hC : mw_C p s m _ meth c cX9_thrown RX9 (some .int) lw_good 1 := ⟨hx, hb, hml, hown, hts, hr, hlocks⟩
  have hl := lv_entry ([.ref b]) (n := 1) (Nat.le_of_ble_eq_true rfl)
  rw [lg_entry_eq]
  generalize (lg_sl ([.ref b]) ++ List.replicate (1 - (lg_sl ([.ref b])).length) Slot.unset).toArray = ls at hl ⊢
  have hl : lv_has ls 1 [(0, .ref b)] := hl
  unfold pf_X9_thrown at hf
  refine lv_aload_n hx hb dX9_thrown_0 rfl (lv_at hl 0 rfl) ?_
  refine mm_geti hx hb hts inX9 hown hw rfl 4 (by decide) (hts _ tw_727) rfl (fun _ _ => rfl) dX9_thrown_1 ?_
  exact mm_iret hx hb hr hlocks hw hf dX9_thrown_4
abbrev rmX9_isThread : Room := { frames := 0, cells := 0, slots := 0, locals := 0 }
abbrev wsX9_isThread : List Cond := Cond.code yX9_isThread cX9_isThread 1 (some .boolean) :: lw_good
set_option maxHeartbeats 4000000 in
set_option maxRecDepth 100000 in
theorem cm_X9_isThread (l : Launch) (D : va_G) (G : Nat → ClassId) (N : Nat) (b : Nat) (S0 : mw_M) (S : mm_M) (x0 : Int32) (z : Int32 × mm_M) (hf : pf_X9_isThread G N S x0 = some z) : Met l yX9_isThread wsX9_isThread rmX9_isThread (va_Pc [.int x0] (mm_B D vwCl (mw_tys G) mw_aos G b S0 S)) (mm_Qi D vwCl (mw_tys G) mw_aos G b S0 z) 0 0 (mm_A b S0) := by
  refine Met.ofW (cc := cX9_isThread) (maxL := 1) (ret := (some .boolean)) (by decide) rfl ?_
  intro p e s m args below meth c s₁ B hml hv
  obtain ⟨rfl, hB⟩ := hv
  have hw := mm_begin hB
  have hx := B.exec
  have hb := B.bytes
  have hr := B.returns
  have hts : ∀ w ∈ lw_good, w.before _ s = true := fun w h => atoms_spec (ws := wsX9_isThread) B.pre w (List.mem_cons_of_mem _ h)
  have hown : s.vm.findClass RX9 = some m.cls := findClass_of_methodNamed B.named
  have hlocks := B.notSynchronized
  have hC : mw_C p s m _ meth c cX9_isThread RX9 (some .boolean) lw_good 1 := ⟨hx, hb, hml, hown, hts, hr, hlocks⟩
  have hl := lv_entry ([.int x0]) (n := 1) (Nat.le_of_ble_eq_true rfl)
  rw [lg_entry_eq]
  generalize (lg_sl ([.int x0]) ++ List.replicate (1 - (lg_sl ([.int x0])).length) Slot.unset).toArray = ls at hl ⊢
  have hl : lv_has ls 1 [(0, .int x0)] := hl
  unfold pf_X9_isThread at hf
  refine lv_iload_n hx hb dX9_isThread_0 rfl (lv_at hl 0 rfl) ?_
  refine lv_if_lt hx hb dX9_isThread_1 (tgt := 13) (by decide) (fun hc => ?_) (fun hc => ?_)
  · rw [if_pos hc] at hf
    refine lv_iconst (v := 0) hx hb dX9_isThread_13 (by decide) ?_
    exact mm_zret hx hb hr hlocks hw rfl hf dX9_isThread_14
  · rw [if_neg hc] at hf
    refine lv_iload_n hx hb dX9_isThread_4 rfl (lv_at hl 0 rfl) ?_
    refine lv_iconst (v := 2) hx hb dX9_isThread_5 (by decide) ?_
    refine lv_icmp_gt hx hb dX9_isThread_6 (tgt := 13) (by decide) (fun hc => ?_) (fun hc => ?_)
    · rw [if_pos hc] at hf
      refine lv_iconst (v := 0) hx hb dX9_isThread_13 (by decide) ?_
      exact mm_zret hx hb hr hlocks hw rfl hf dX9_isThread_14
    · rw [if_neg hc] at hf
      refine lv_iconst (v := 1) hx hb dX9_isThread_9 (by decide) ?_
      refine lv_goto hx hb dX9_isThread_10 (tgt := 14) (by decide) ?_
      exact mm_zret hx hb hr hlocks hw rfl hf dX9_isThread_14
abbrev rmX9_isRecording : Room := { frames := 0, cells := 0, slots := 0, locals := 0 }
abbrev wsX9_isRecording : List Cond := Cond.code yX9_isRecording cX9_isRecording 2 (some .boolean) :: lw_good
set_option maxHeartbeats 4000000 in
set_option maxRecDepth 100000 in
theorem cm_X9_isRecording (l : Launch) (D : va_G) (G : Nat → ClassId) (N : Nat) (b : Nat) (S0 : mw_M) (S : mm_M) (x1 : Int32) (z : Int32 × mm_M) (hf : pf_X9_isRecording G N S x1 = some z) : Met l yX9_isRecording wsX9_isRecording rmX9_isRecording (va_Pc [.ref b, .int x1] (mm_B D vwCl (mw_tys G) mw_aos G b S0 S)) (mm_Qi D vwCl (mw_tys G) mw_aos G b S0 z) 0 0 (mm_A b S0) := by
  refine Met.ofW (cc := cX9_isRecording) (maxL := 2) (ret := (some .boolean)) (by decide) rfl ?_
  intro p e s m args below meth c s₁ B hml hv
  obtain ⟨rfl, hB⟩ := hv
  have hw := mm_begin hB
  have hx := B.exec
  have hb := B.bytes
  have hr := B.returns
  have hts : ∀ w ∈ lw_good, w.before _ s = true := fun w h => atoms_spec (ws := wsX9_isRecording) B.pre w (List.mem_cons_of_mem _ h)
  have hown : s.vm.findClass RX9 = some m.cls := findClass_of_methodNamed B.named
  have hlocks := B.notSynchronized
  have hC : mw_C p s m _ meth c cX9_isRecording RX9 (some .boolean) lw_good 2 := ⟨hx, hb, hml, hown, hts, hr, hlocks⟩
  have hl := lv_entry ([.ref b, .int x1]) (n := 2) (Nat.le_of_ble_eq_true rfl)
  rw [lg_entry_eq]
  generalize (lg_sl ([.ref b, .int x1]) ++ List.replicate (2 - (lg_sl ([.ref b, .int x1])).length) Slot.unset).toArray = ls at hl ⊢
  have hl : lv_has ls 2 [(0, .ref b), (1, .int x1)] := hl
  unfold pf_X9_isRecording at hf
  refine lv_iload_n hx hb dX9_isRecording_0 rfl (lv_at hl 1 rfl) ?_
  refine lv_if_lt hx hb dX9_isRecording_1 (tgt := 16) (by decide) (fun hc => ?_) (fun hc => ?_)
  · rw [if_pos hc] at hf
    refine lv_iconst (v := 0) hx hb dX9_isRecording_16 (by decide) ?_
    exact mm_zret hx hb hr hlocks hw rfl hf dX9_isRecording_17
  · rw [if_neg hc] at hf
    refine lv_iload_n hx hb dX9_isRecording_4 rfl (lv_at hl 1 rfl) ?_
    refine lv_aload_n hx hb dX9_isRecording_5 rfl (lv_at hl 0 rfl) ?_
    refine mm_geti hx hb hts inX9 hown hw rfl 29 (by decide) (hts _ tw_752) rfl (fun _ _ => rfl) dX9_isRecording_6 ?_
    refine lv_icmp_ge hx hb dX9_isRecording_9 (tgt := 16) (by decide) (fun hc => ?_) (fun hc => ?_)
    · rw [if_pos hc] at hf
      refine lv_iconst (v := 0) hx hb dX9_isRecording_16 (by decide) ?_
      exact mm_zret hx hb hr hlocks hw rfl hf dX9_isRecording_17
    · rw [if_neg hc] at hf
      refine lv_iconst (v := 1) hx hb dX9_isRecording_12 (by decide) ?_
      refine lv_goto hx hb dX9_isRecording_13 (tgt := 17) (by decide) ?_
      exact mm_zret hx hb hr hlocks hw rfl hf dX9_isRecording_17
abbrev rmX9_write : Room := { frames := 0, cells := 0, slots := 0, locals := 0 }
abbrev wsX9_write : List Cond := Cond.code yX9_write cX9_write 2 (some .boolean) :: lw_good
set_option maxHeartbeats 4000000 in
set_option maxRecDepth 100000 in
theorem cm_X9_write (l : Launch) (D : va_G) (G : Nat → ClassId) (N : Nat) (b : Nat) (S0 : mw_M) (S : mm_M) (x1 : Int32) (z : Int32 × mm_M) (hf : pf_X9_write G N S x1 = some z) : Met l yX9_write wsX9_write rmX9_write (va_Pc [.ref b, .int x1] (mm_B D vwCl (mw_tys G) mw_aos G b S0 S)) (mm_Qi D vwCl (mw_tys G) mw_aos G b S0 z) 0 0 (mm_A b S0) := by
  refine Met.ofW (cc := cX9_write) (maxL := 2) (ret := (some .boolean)) (by decide) rfl ?_
  intro p e s m args below meth c s₁ B hml hv
  obtain ⟨rfl, hB⟩ := hv
  have hw := mm_begin hB
  have hx := B.exec
  have hb := B.bytes
  have hr := B.returns
  have hts : ∀ w ∈ lw_good, w.before _ s = true := fun w h => atoms_spec (ws := wsX9_write) B.pre w (List.mem_cons_of_mem _ h)
  have hown : s.vm.findClass RX9 = some m.cls := findClass_of_methodNamed B.named
  have hlocks := B.notSynchronized
  have hC : mw_C p s m _ meth c cX9_write RX9 (some .boolean) lw_good 2 := ⟨hx, hb, hml, hown, hts, hr, hlocks⟩
  have hl := lv_entry ([.ref b, .int x1]) (n := 2) (Nat.le_of_ble_eq_true rfl)
  rw [lg_entry_eq]
  generalize (lg_sl ([.ref b, .int x1]) ++ List.replicate (2 - (lg_sl ([.ref b, .int x1])).length) Slot.unset).toArray = ls at hl ⊢
  have hl : lv_has ls 2 [(0, .ref b), (1, .int x1)] := hl
  unfold pf_X9_write at hf
  refine lv_aload_n hx hb dX9_write_0 rfl (lv_at hl 0 rfl) ?_
  refine lv_iconst (v := 0) hx hb dX9_write_1 (by decide) ?_
  obtain ⟨S1, e1, hf⟩ := mw_b hf
  refine mm_put hx hb hts inX9 tyX9 tyX9_ok nX9 hown hw rfl 4 (by decide) (hts _ tw_727) rfl rfl (by decide +kernel) (by decide) (mm_st4 _) e1 dX9_write_2 (fun H locs hw => ?_)
  refine lv_aload_n hx hb dX9_write_5 rfl (lv_at hl 0 rfl) ?_
  refine mm_geti hx hb hts inX9 hown hw rfl 5 (by decide) (hts _ tw_728) rfl (fun _ _ => rfl) dX9_write_6 ?_
  refine lv_bipush (v := 40) hx hb dX9_write_9 (by decide) ?_
  refine lv_icmp_ge hx hb dX9_write_11 (tgt := 26) (by decide) (fun hc => ?_) (fun hc => ?_)
  · rw [if_pos hc] at hf
    refine lv_iconst (v := 0) hx hb dX9_write_26 (by decide) ?_
    exact mm_zret hx hb hr hlocks hw rfl hf dX9_write_27
  · rw [if_neg hc] at hf
    refine lv_iload_n hx hb dX9_write_14 rfl (lv_at hl 1 rfl) ?_
    refine lv_bipush (v := 32) hx hb dX9_write_15 (by decide) ?_
    refine lv_icmp_lt hx hb dX9_write_17 (tgt := 26) (by decide) (fun hc => ?_) (fun hc => ?_)
    · rw [if_pos hc] at hf
      refine lv_iconst (v := 0) hx hb dX9_write_26 (by decide) ?_
      exact mm_zret hx hb hr hlocks hw rfl hf dX9_write_27
    · rw [if_neg hc] at hf
      refine lv_iload_n hx hb dX9_write_20 rfl (lv_at hl 1 rfl) ?_
      refine lv_bipush (v := 126) hx hb dX9_write_21 (by decide) ?_
      refine lv_icmp_le hx hb dX9_write_23 (tgt := 28) (by decide) (fun hc => ?_) (fun hc => ?_)
      · rw [if_pos hc] at hf
        refine lv_aload_n hx hb dX9_write_28 rfl (lv_at hl 0 rfl) ?_
        refine mm_getr hx hb hts inX9 hown hw rfl 6 (by decide) (hts _ tw_729) rfl 0 (fun _ _ => rfl) dX9_write_29 ?_
        refine lv_aload_n hx hb dX9_write_32 rfl (lv_at hl 0 rfl) ?_
        refine mm_geti hx hb hts inX9 hown hw rfl 5 (by decide) (hts _ tw_728) rfl (fun _ _ => rfl) dX9_write_33 ?_
        refine lv_iload_n hx hb dX9_write_36 rfl (lv_at hl 1 rfl) ?_
        obtain ⟨S2, e2, hf⟩ := mw_b hf
        refine mm_cast hx hb hw 0 (by decide) 2 rfl e2 dX9_write_37 (fun H locs hw => ?_)
        refine lv_aload_n hx hb dX9_write_38 rfl (lv_at hl 0 rfl) ?_
        refine lv_dup hx hb dX9_write_39 rfl ?_
        refine mm_geti hx hb hts inX9 hown hw rfl 5 (by decide) (hts _ tw_728) rfl (fun _ _ => rfl) dX9_write_40 ?_
        refine lv_iconst (v := 1) hx hb dX9_write_43 (by decide) ?_
        refine lv_iadd hx hb dX9_write_44 ?_
        obtain ⟨S3, e3, hf⟩ := mw_b hf
        refine mm_put hx hb hts inX9 tyX9 tyX9_ok nX9 hown hw rfl 5 (by decide) (hts _ tw_728) rfl rfl (by decide +kernel) (by decide) (mm_st5 _) e3 dX9_write_45 (fun H locs hw => ?_)
        refine lv_iconst (v := 1) hx hb dX9_write_48 (by decide) ?_
        exact mm_zret hx hb hr hlocks hw rfl hf dX9_write_49
      · rw [if_neg hc] at hf
        refine lv_iconst (v := 0) hx hb dX9_write_26 (by decide) ?_
        exact mm_zret hx hb hr hlocks hw rfl hf dX9_write_27
abbrev rmX9_advance : Room := { frames := 0, cells := 0, slots := 0, locals := 0 }
abbrev wsX9_advance : List Cond := Cond.code yX9_advance cX9_advance 2 (some .int) :: lw_good
set_option maxHeartbeats 4000000 in
set_option maxRecDepth 100000 in
theorem bX9_advance_26 {p : Program} {l : Launch} {e : Env} {s : State} {m : MethodId} {args : Array Value} {below : List Frame} {meth : Method} {c : Code} (hC : mw_C p s m args meth c cX9_advance RX9 (some .int) lw_good 2) (D : va_G) (G : Nat → ClassId) (N : Nat) {b : Nat} {S0 : mw_M} {z : Int32 × mm_M} : ∀ (S : mm_M) (H : Heap) (locs : List Loc) (ls : Array Slot), pf_X9_advance_26 G N S = some z → lv_has ls 2 [(0, .ref b)] → mm_W D vwCl (mw_tys G) mw_aos s G b S0 S H locs → W p l e (headSpec wsX9_advance rmX9_advance).room s m args below meth c H locs 0 0 (MQ below (mm_Qi D vwCl (mw_tys G) mw_aos G b S0 z) args s 0 0 (mm_A b S0)) (F0 m 26 ls [.ref b]) := by
  obtain ⟨hx, hb, hml, hown, hts, hr, hlocks⟩ := hC
  intro S H locs ls hf hl hw
  unfold pf_X9_advance_26 at hf
  refine lv_aload_n hx hb dX9_advance_26 rfl (lv_at hl 0 rfl) ?_
  refine mm_geti hx hb hts inX9 hown hw rfl 3 (by decide) (hts _ tw_726) rfl (fun _ _ => rfl) dX9_advance_27 ?_
  obtain ⟨S1, e1, hf⟩ := mw_b hf
  refine mm_put hx hb hts inX9 tyX9 tyX9_ok nX9 hown hw rfl 3 (by decide) (hts _ tw_726) rfl rfl (by decide +kernel) (by decide) (mm_st3 _) e1 dX9_advance_30 (fun H locs hw => ?_)
  refine lv_aload_n hx hb dX9_advance_33 rfl (lv_at hl 0 rfl) ?_
  refine mm_geti hx hb hts inX9 hown hw rfl 3 (by decide) (hts _ tw_726) rfl (fun _ _ => rfl) dX9_advance_34 ?_
  exact mm_iret hx hb hr hlocks hw hf dX9_advance_37
set_option maxHeartbeats 4000000 in
set_option maxRecDepth 100000 in
theorem cm_X9_advance (l : Launch) (D : va_G) (G : Nat → ClassId) (N : Nat) (b : Nat) (S0 : mw_M) (S : mm_M) (x1 : Int32) (z : Int32 × mm_M) (hf : pf_X9_advance G N S x1 = some z) : Met l yX9_advance wsX9_advance rmX9_advance (va_Pc [.ref b, .int x1] (mm_B D vwCl (mw_tys G) mw_aos G b S0 S)) (mm_Qi D vwCl (mw_tys G) mw_aos G b S0 z) 0 0 (mm_A b S0) := by
  refine Met.ofW (cc := cX9_advance) (maxL := 2) (ret := (some .int)) (by decide) rfl ?_
  intro p e s m args below meth c s₁ B hml hv
  obtain ⟨rfl, hB⟩ := hv
  have hw := mm_begin hB
  have hx := B.exec
  have hb := B.bytes
  have hr := B.returns
  have hts : ∀ w ∈ lw_good, w.before _ s = true := fun w h => atoms_spec (ws := wsX9_advance) B.pre w (List.mem_cons_of_mem _ h)
  have hown : s.vm.findClass RX9 = some m.cls := findClass_of_methodNamed B.named
  have hlocks := B.notSynchronized
  have hC : mw_C p s m _ meth c cX9_advance RX9 (some .int) lw_good 2 := ⟨hx, hb, hml, hown, hts, hr, hlocks⟩
  have hl := lv_entry ([.ref b, .int x1]) (n := 2) (Nat.le_of_ble_eq_true rfl)
  rw [lg_entry_eq]
  generalize (lg_sl ([.ref b, .int x1]) ++ List.replicate (2 - (lg_sl ([.ref b, .int x1])).length) Slot.unset).toArray = ls at hl ⊢
  have hl : lv_has ls 2 [(0, .ref b), (1, .int x1)] := hl
  unfold pf_X9_advance at hf
  refine lv_aload_n hx hb dX9_advance_0 rfl (lv_at hl 0 rfl) ?_
  refine lv_iconst (v := 0) hx hb dX9_advance_1 (by decide) ?_
  obtain ⟨S1, e1, hf⟩ := mw_b hf
  refine mm_put hx hb hts inX9 tyX9 tyX9_ok nX9 hown hw rfl 4 (by decide) (hts _ tw_727) rfl rfl (by decide +kernel) (by decide) (mm_st4 _) e1 dX9_advance_2 (fun H locs hw => ?_)
  refine lv_aload_n hx hb dX9_advance_5 rfl (lv_at hl 0 rfl) ?_
  refine lv_iload_n hx hb dX9_advance_6 rfl (lv_at hl 1 rfl) ?_
  refine lv_if_lt hx hb dX9_advance_7 (tgt := 26) (by decide) (fun hc => ?_) (fun hc => ?_)
  · rw [if_pos hc] at hf
    exact bX9_advance_26 ⟨hx, hb, hml, hown, hts, hr, hlocks⟩ D G N _ _ _ _ hf (lv_sub hl [0] rfl) hw
  · rw [if_neg hc] at hf
    refine lv_iload_n hx hb dX9_advance_10 rfl (lv_at hl 1 rfl) ?_
    refine lv_sipush (v := 1000) hx hb dX9_advance_11 (by decide) ?_
    refine lv_icmp_gt hx hb dX9_advance_14 (tgt := 26) (by decide) (fun hc => ?_) (fun hc => ?_)
    · rw [if_pos hc] at hf
      exact bX9_advance_26 ⟨hx, hb, hml, hown, hts, hr, hlocks⟩ D G N _ _ _ _ hf (lv_sub hl [0] rfl) hw
    · rw [if_neg hc] at hf
      refine lv_aload_n hx hb dX9_advance_17 rfl (lv_at hl 0 rfl) ?_
      refine mm_geti hx hb hts inX9 hown hw rfl 3 (by decide) (hts _ tw_726) rfl (fun _ _ => rfl) dX9_advance_18 ?_
      refine lv_iload_n hx hb dX9_advance_21 rfl (lv_at hl 1 rfl) ?_
      refine lv_iadd hx hb dX9_advance_22 ?_
      refine lv_goto hx hb dX9_advance_23 (tgt := 30) (by decide) ?_
      obtain ⟨S2, e2, hf⟩ := mw_b hf
      refine mm_put hx hb hts inX9 tyX9 tyX9_ok nX9 hown hw rfl 3 (by decide) (hts _ tw_726) rfl rfl (by decide +kernel) (by decide) (mm_st3 _) e2 dX9_advance_30 (fun H locs hw => ?_)
      refine lv_aload_n hx hb dX9_advance_33 rfl (lv_at hl 0 rfl) ?_
      refine mm_geti hx hb hts inX9 hown hw rfl 3 (by decide) (hts _ tw_726) rfl (fun _ _ => rfl) dX9_advance_34 ?_
      exact mm_iret hx hb hr hlocks hw hf dX9_advance_37
abbrev rmX9_type : Room := { frames := 0, cells := 0, slots := 0, locals := 0 }
abbrev wsX9_type : List Cond := Cond.code yX9_type cX9_type 3 (some .int) :: lw_good
set_option maxHeartbeats 4000000 in
set_option maxRecDepth 100000 in
theorem bX9_type_28 {p : Program} {l : Launch} {e : Env} {s : State} {m : MethodId} {args : Array Value} {below : List Frame} {meth : Method} {c : Code} (hC : mw_C p s m args meth c cX9_type RX9 (some .int) lw_good 3) (D : va_G) (G : Nat → ClassId) (N : Nat) {b : Nat} {S0 : mw_M} {z : Int32 × mm_M} : ∀ (y1 : Int32) (y2 : Int32) (w1 : Int32) (S : mm_M) (H : Heap) (locs : List Loc) (ls : Array Slot), pf_X9_type_28 G N y1 y2 w1 S = some z → lv_has ls 3 [(0, .ref b), (1, .int y1), (2, .int y2)] → mm_W D vwCl (mw_tys G) mw_aos s G b S0 S H locs → W p l e (headSpec wsX9_type rmX9_type).room s m args below meth c H locs 0 0 (MQ below (mm_Qi D vwCl (mw_tys G) mw_aos G b S0 z) args s 0 0 (mm_A b S0)) (F0 m 28 ls [.int w1, .ref b]) := by
  obtain ⟨hx, hb, hml, hown, hts, hr, hlocks⟩ := hC
  intro y1 y2 w1 S H locs ls hf hl hw
  unfold pf_X9_type_28 at hf
  obtain ⟨S1, e1, hf⟩ := mw_b hf
  refine mm_put hx hb hts inX9 tyX9 tyX9_ok nX9 hown hw rfl 4 (by decide) (hts _ tw_727) rfl rfl (by decide +kernel) (by decide) (mm_st4 _) e1 dX9_type_28 (fun H locs hw => ?_)
  refine lv_aload_n hx hb dX9_type_31 rfl (lv_at hl 0 rfl) ?_
  refine mm_geti hx hb hts inX9 hown hw rfl 4 (by decide) (hts _ tw_727) rfl (fun _ _ => rfl) dX9_type_32 ?_
  refine lv_if_le hx hb dX9_type_35 (tgt := 40) (by decide) (fun hc => ?_) (fun hc => ?_)
  · rw [if_pos hc] at hf
    refine lv_aload_n hx hb dX9_type_40 rfl (lv_at hl 0 rfl) ?_
    refine mm_getr hx hb hts inX9 hown hw rfl 8 (by decide) (hts _ tw_731) rfl 1 (fun _ _ => rfl) dX9_type_41 ?_
    refine lv_aload_n hx hb dX9_type_44 rfl (lv_at hl 0 rfl) ?_
    refine mm_geti hx hb hts inX9 hown hw rfl 7 (by decide) (hts _ tw_730) rfl (fun _ _ => rfl) dX9_type_45 ?_
    refine lv_iload_n hx hb dX9_type_48 rfl (lv_at hl 1 rfl) ?_
    obtain ⟨S2, e2, hf⟩ := mw_b hf
    refine mm_iast hx hb hw 1 (by decide) 0 rfl e2 dX9_type_49 (fun H locs hw => ?_)
    refine lv_aload_n hx hb dX9_type_50 rfl (lv_at hl 0 rfl) ?_
    refine mm_getr hx hb hts inX9 hown hw rfl 9 (by decide) (hts _ tw_732) rfl 2 (fun _ _ => rfl) dX9_type_51 ?_
    refine lv_aload_n hx hb dX9_type_54 rfl (lv_at hl 0 rfl) ?_
    refine mm_geti hx hb hts inX9 hown hw rfl 7 (by decide) (hts _ tw_730) rfl (fun _ _ => rfl) dX9_type_55 ?_
    refine lv_iload_n hx hb dX9_type_58 rfl (lv_at hl 2 rfl) ?_
    obtain ⟨S3, e3, hf⟩ := mw_b hf
    refine mm_zast hx hb hw 2 (by decide) 3 rfl e3 dX9_type_59 (fun H locs hw => ?_)
    refine lv_aload_n hx hb dX9_type_60 rfl (lv_at hl 0 rfl) ?_
    refine lv_dup hx hb dX9_type_61 rfl ?_
    refine mm_geti hx hb hts inX9 hown hw rfl 7 (by decide) (hts _ tw_730) rfl (fun _ _ => rfl) dX9_type_62 ?_
    refine lv_iconst (v := 1) hx hb dX9_type_65 (by decide) ?_
    refine lv_iadd hx hb dX9_type_66 ?_
    obtain ⟨S4, e4, hf⟩ := mw_b hf
    refine mm_put hx hb hts inX9 tyX9 tyX9_ok nX9 hown hw rfl 7 (by decide) (hts _ tw_730) rfl rfl (by decide +kernel) (by decide) (mm_st7 _) e4 dX9_type_67 (fun H locs hw => ?_)
    refine lv_aload_n hx hb dX9_type_70 rfl (lv_at hl 0 rfl) ?_
    refine mm_geti hx hb hts inX9 hown hw rfl 7 (by decide) (hts _ tw_730) rfl (fun _ _ => rfl) dX9_type_71 ?_
    refine lv_iconst (v := 1) hx hb dX9_type_74 (by decide) ?_
    refine lv_isub hx hb dX9_type_75 ?_
    exact mm_iret hx hb hr hlocks hw hf dX9_type_76
  · rw [if_neg hc] at hf
    refine lv_iconst (v := 0) hx hb dX9_type_38 (by decide) ?_
    exact mm_iret hx hb hr hlocks hw hf dX9_type_39
set_option maxHeartbeats 4000000 in
set_option maxRecDepth 100000 in
theorem bX9_type_10 {p : Program} {l : Launch} {e : Env} {s : State} {m : MethodId} {args : Array Value} {below : List Frame} {meth : Method} {c : Code} (hC : mw_C p s m args meth c cX9_type RX9 (some .int) lw_good 3) (D : va_G) (G : Nat → ClassId) (N : Nat) {b : Nat} {S0 : mw_M} {z : Int32 × mm_M} : ∀ (y1 : Int32) (y2 : Int32) (S : mm_M) (H : Heap) (locs : List Loc) (ls : Array Slot), pf_X9_type_10 G N y1 y2 S = some z → lv_has ls 3 [(0, .ref b), (1, .int y1), (2, .int y2)] → mm_W D vwCl (mw_tys G) mw_aos s G b S0 S H locs → W p l e (headSpec wsX9_type rmX9_type).room s m args below meth c H locs 0 0 (MQ below (mm_Qi D vwCl (mw_tys G) mw_aos G b S0 z) args s 0 0 (mm_A b S0)) (F0 m 10 ls [.ref b]) := by
  obtain ⟨hx, hb, hml, hown, hts, hr, hlocks⟩ := hC
  intro y1 y2 S H locs ls hf hl hw
  unfold pf_X9_type_10 at hf
  refine lv_iconst (v := 1) hx hb dX9_type_10 (by decide) ?_
  refine lv_goto hx hb dX9_type_11 (tgt := 28) (by decide) ?_
  exact bX9_type_28 ⟨hx, hb, hml, hown, hts, hr, hlocks⟩ D G N _ _ _ _ _ _ _ hf (lv_sub hl [0, 1, 2] rfl) hw
set_option maxHeartbeats 4000000 in
set_option maxRecDepth 100000 in
theorem cm_X9_type (l : Launch) (D : va_G) (G : Nat → ClassId) (N : Nat) (b : Nat) (S0 : mw_M) (S : mm_M) (x1 : Int32) (x2 : Int32) (z : Int32 × mm_M) (hf : pf_X9_type G N S x1 x2 = some z) : Met l yX9_type wsX9_type rmX9_type (va_Pc [.ref b, .int x1, .int x2] (mm_B D vwCl (mw_tys G) mw_aos G b S0 S)) (mm_Qi D vwCl (mw_tys G) mw_aos G b S0 z) 0 0 (mm_A b S0) := by
  refine Met.ofW (cc := cX9_type) (maxL := 3) (ret := (some .int)) (by decide) rfl ?_
  intro p e s m args below meth c s₁ B hml hv
  obtain ⟨rfl, hB⟩ := hv
  have hw := mm_begin hB
  have hx := B.exec
  have hb := B.bytes
  have hr := B.returns
  have hts : ∀ w ∈ lw_good, w.before _ s = true := fun w h => atoms_spec (ws := wsX9_type) B.pre w (List.mem_cons_of_mem _ h)
  have hown : s.vm.findClass RX9 = some m.cls := findClass_of_methodNamed B.named
  have hlocks := B.notSynchronized
  have hC : mw_C p s m _ meth c cX9_type RX9 (some .int) lw_good 3 := ⟨hx, hb, hml, hown, hts, hr, hlocks⟩
  have hl := lv_entry ([.ref b, .int x1, .int x2]) (n := 3) (Nat.le_of_ble_eq_true rfl)
  rw [lg_entry_eq]
  generalize (lg_sl ([.ref b, .int x1, .int x2]) ++ List.replicate (3 - (lg_sl ([.ref b, .int x1, .int x2])).length) Slot.unset).toArray = ls at hl ⊢
  have hl : lv_has ls 3 [(0, .ref b), (1, .int x1), (2, .int x2)] := hl
  unfold pf_X9_type at hf
  refine lv_aload_n hx hb dX9_type_0 rfl (lv_at hl 0 rfl) ?_
  refine lv_iload_n hx hb dX9_type_1 rfl (lv_at hl 1 rfl) ?_
  refine lv_if_lt hx hb dX9_type_2 (tgt := 10) (by decide) (fun hc => ?_) (fun hc => ?_)
  · rw [if_pos hc] at hf
    exact bX9_type_10 ⟨hx, hb, hml, hown, hts, hr, hlocks⟩ D G N _ _ _ _ _ _ hf (lv_sub hl [0, 1, 2] rfl) hw
  · rw [if_neg hc] at hf
    refine lv_iload_n hx hb dX9_type_5 rfl (lv_at hl 1 rfl) ?_
    refine lv_iconst (v := 3) hx hb dX9_type_6 (by decide) ?_
    refine lv_icmp_le hx hb dX9_type_7 (tgt := 14) (by decide) (fun hc => ?_) (fun hc => ?_)
    · rw [if_pos hc] at hf
      refine lv_aload_n hx hb dX9_type_14 rfl (lv_at hl 0 rfl) ?_
      refine mm_geti hx hb hts inX9 hown hw rfl 7 (by decide) (hts _ tw_730) rfl (fun _ _ => rfl) dX9_type_15 ?_
      refine lv_bipush (v := 6) hx hb dX9_type_18 (by decide) ?_
      refine lv_icmp_ne hx hb dX9_type_20 (tgt := 27) (by decide) (fun hc => ?_) (fun hc => ?_)
      · rw [if_pos hc] at hf
        refine lv_iconst (v := 0) hx hb dX9_type_27 (by decide) ?_
        exact bX9_type_28 ⟨hx, hb, hml, hown, hts, hr, hlocks⟩ D G N _ _ _ _ _ _ _ hf (lv_sub hl [0, 1, 2] rfl) hw
      · rw [if_neg (fun q => q hc)] at hf
        refine lv_iconst (v := 2) hx hb dX9_type_23 (by decide) ?_
        refine lv_goto hx hb dX9_type_24 (tgt := 28) (by decide) ?_
        exact bX9_type_28 ⟨hx, hb, hml, hown, hts, hr, hlocks⟩ D G N _ _ _ _ _ _ _ hf (lv_sub hl [0, 1, 2] rfl) hw
    · rw [if_neg hc] at hf
      exact bX9_type_10 ⟨hx, hb, hml, hown, hts, hr, hlocks⟩ D G N _ _ _ _ _ _ hf (lv_sub hl [0, 1, 2] rfl) hw
abbrev rmX9_begin : Room := { frames := 1, cells := 0, slots := 0, locals := 20 }
abbrev wsX9_begin : List Cond := Cond.code yX9_begin cX9_begin 2 (some .boolean) :: lw_good
set_option maxHeartbeats 4000000 in
set_option maxRecDepth 100000 in
theorem cm_X9_begin (l : Launch) (D : va_G) (G : Nat → ClassId) (N : Nat) (b : Nat) (S0 : mw_M) (S : mm_M) (x1 : Int32) (z : Int32 × mm_M) (hf : pf_X9_begin G N S x1 = some z) : Met l yX9_begin wsX9_begin rmX9_begin (va_Pc [.ref b, .int x1] (mm_B D vwCl (mw_tys G) mw_aos G b S0 S)) (mm_Qi D vwCl (mw_tys G) mw_aos G b S0 z) 0 0 (mm_A b S0) := by
  refine Met.ofW (cc := cX9_begin) (maxL := 2) (ret := (some .boolean)) (by decide) rfl ?_
  intro p e s m args below meth c s₁ B hml hv
  obtain ⟨rfl, hB⟩ := hv
  have hw := mm_begin hB
  have hx := B.exec
  have hb := B.bytes
  have hr := B.returns
  have hts : ∀ w ∈ lw_good, w.before _ s = true := fun w h => atoms_spec (ws := wsX9_begin) B.pre w (List.mem_cons_of_mem _ h)
  have hown : s.vm.findClass RX9 = some m.cls := findClass_of_methodNamed B.named
  have hlocks := B.notSynchronized
  have hC : mw_C p s m _ meth c cX9_begin RX9 (some .boolean) lw_good 2 := ⟨hx, hb, hml, hown, hts, hr, hlocks⟩
  have hl := lv_entry ([.ref b, .int x1]) (n := 2) (Nat.le_of_ble_eq_true rfl)
  rw [lg_entry_eq]
  generalize (lg_sl ([.ref b, .int x1]) ++ List.replicate (2 - (lg_sl ([.ref b, .int x1])).length) Slot.unset).toArray = ls at hl ⊢
  have hl : lv_has ls 2 [(0, .ref b), (1, .int x1)] := hl
  unfold pf_X9_begin at hf
  refine lv_aload_n hx hb dX9_begin_0 rfl (lv_at hl 0 rfl) ?_
  refine lv_iconst (v := 0) hx hb dX9_begin_1 (by decide) ?_
  obtain ⟨S1, e1, hf⟩ := mw_b hf
  refine mm_put hx hb hts inX9 tyX9 tyX9_ok nX9 hown hw rfl 4 (by decide) (hts _ tw_727) rfl rfl (by decide +kernel) (by decide) (mm_st4 _) e1 dX9_begin_2 (fun H locs hw => ?_)
  refine lv_iload_n hx hb dX9_begin_5 rfl (lv_at hl 1 rfl) ?_
  obtain ⟨v2, S2, e2, hf⟩ := mw_bb hf
  refine mm_calli (va_runS (As := [.int x1]) (rest := []) ⟨hx, hb, hml, hown, hts⟩ (cm_X9_isThread l D G N b S0 S1 x1 (v2, S2) e2) (cwS 1 hts (mw_gS tw_861 tw_862 tw_11 tw_863) rfl rfl rfl (by decide +kernel) ⟨Nat.le_of_ble_eq_true rfl, Nat.le_of_ble_eq_true rfl⟩) (mm_preS hw) rfl rfl hl.1 rfl (lv_room (Nat.le_of_ble_eq_true rfl)) dX9_begin_6 ⟨(Nat.le_of_ble_eq_true rfl), (Nat.le_of_ble_eq_true rfl)⟩) hw (fun H locs hw => ?_)
  refine lv_if_eq hx hb dX9_begin_9 (tgt := 22) (by decide) (fun hc => ?_) (fun hc => ?_)
  · rw [if_pos hc] at hf
    refine lv_iconst (v := 0) hx hb dX9_begin_22 (by decide) ?_
    exact mm_zret hx hb hr hlocks hw rfl hf dX9_begin_23
  · rw [if_neg hc] at hf
    refine lv_aload_n hx hb dX9_begin_12 rfl (lv_at hl 0 rfl) ?_
    refine mm_getr hx hb hts inX9 hown hw rfl 13 (by decide) (hts _ tw_736) rfl 5 (fun _ _ => rfl) dX9_begin_13 ?_
    refine lv_iload_n hx hb dX9_begin_16 rfl (lv_at hl 1 rfl) ?_
    obtain ⟨v3, e3, hf⟩ := mw_b hf
    refine mm_iald hx hb hw 5 (by decide) 0 rfl e3 dX9_begin_17 ?_
    refine lv_iconst (v := 3) hx hb dX9_begin_18 (by decide) ?_
    refine lv_icmp_ne hx hb dX9_begin_19 (tgt := 24) (by decide) (fun hc => ?_) (fun hc => ?_)
    · rw [if_pos hc] at hf
      refine lv_aload_n hx hb dX9_begin_24 rfl (lv_at hl 0 rfl) ?_
      refine mm_getr hx hb hts inX9 hown hw rfl 14 (by decide) (hts _ tw_737) rfl 6 (fun _ _ => rfl) dX9_begin_25 ?_
      refine lv_iconst (v := 3) hx hb dX9_begin_28 (by decide) ?_
      refine lv_iload_n hx hb dX9_begin_29 rfl (lv_at hl 1 rfl) ?_
      refine lv_imul hx hb dX9_begin_30 ?_
      refine lv_aload_n hx hb dX9_begin_31 rfl (lv_at hl 0 rfl) ?_
      refine mm_getr hx hb hts inX9 hown hw rfl 13 (by decide) (hts _ tw_736) rfl 5 (fun _ _ => rfl) dX9_begin_32 ?_
      refine lv_iload_n hx hb dX9_begin_35 rfl (lv_at hl 1 rfl) ?_
      obtain ⟨v4, e4, hf⟩ := mw_b hf
      refine mm_iald hx hb hw 5 (by decide) 0 rfl e4 dX9_begin_36 ?_
      refine lv_iadd hx hb dX9_begin_37 ?_
      refine lv_aload_n hx hb dX9_begin_38 rfl (lv_at hl 0 rfl) ?_
      refine mm_geti hx hb hts inX9 hown hw rfl 3 (by decide) (hts _ tw_726) rfl (fun _ _ => rfl) dX9_begin_39 ?_
      obtain ⟨S5, e5, hf⟩ := mw_b hf
      refine mm_iast hx hb hw 6 (by decide) 0 rfl e5 dX9_begin_42 (fun H locs hw => ?_)
      refine lv_aload_n hx hb dX9_begin_43 rfl (lv_at hl 0 rfl) ?_
      refine mm_getr hx hb hts inX9 hown hw rfl 13 (by decide) (hts _ tw_736) rfl 5 (fun _ _ => rfl) dX9_begin_44 ?_
      refine lv_iload_n hx hb dX9_begin_47 rfl (lv_at hl 1 rfl) ?_
      refine lv_dup2_11 hx hb dX9_begin_48 rfl rfl ?_
      obtain ⟨v6, e6, hf⟩ := mw_b hf
      refine mm_iald hx hb hw 5 (by decide) 0 rfl e6 dX9_begin_49 ?_
      refine lv_iconst (v := 1) hx hb dX9_begin_50 (by decide) ?_
      refine lv_iadd hx hb dX9_begin_51 ?_
      obtain ⟨S7, e7, hf⟩ := mw_b hf
      refine mm_iast hx hb hw 5 (by decide) 0 rfl e7 dX9_begin_52 (fun H locs hw => ?_)
      refine lv_iconst (v := 1) hx hb dX9_begin_53 (by decide) ?_
      exact mm_zret hx hb hr hlocks hw rfl hf dX9_begin_54
    · rw [if_neg (fun q => q hc)] at hf
      refine lv_iconst (v := 0) hx hb dX9_begin_22 (by decide) ?_
      exact mm_zret hx hb hr hlocks hw rfl hf dX9_begin_23
abbrev rmX9_variable : Room := { frames := 0, cells := 0, slots := 0, locals := 0 }
abbrev wsX9_variable : List Cond := Cond.code yX9_variable cX9_variable 5 none :: lw_good
set_option maxHeartbeats 4000000 in
set_option maxRecDepth 100000 in
theorem bX9_variable_39 {p : Program} {l : Launch} {e : Env} {s : State} {m : MethodId} {args : Array Value} {below : List Frame} {meth : Method} {c : Code} (hC : mw_C p s m args meth c cX9_variable RX9 none lw_good 5) (D : va_G) (G : Nat → ClassId) (N : Nat) {b : Nat} {S0 : mw_M} {z : mm_M} (k4 : Int32 → Int32 → mm_M → Option (mm_M)) (hk4 : ∀ (y2 : Int32) (y3 : Int32) (S : mm_M) (H : Heap) (locs : List Loc) (ls : Array Slot), k4 y2 y3 S = some z → lv_has ls 5 [(0, .ref b), (2, .int y2), (3, .int y3)] → mm_W D vwCl (mw_tys G) mw_aos s G b S0 S H locs → W p l e (headSpec wsX9_variable rmX9_variable).room s m args below meth c H locs 0 0 (MQ below (mm_Qv D vwCl (mw_tys G) mw_aos G b S0 z) args s 0 0 (mm_A b S0)) (F0 m 4 ls [])) : ∀ (y3 : Int32) (y4 : Int32) (w1 : Int32) (w2 : Int32) (w3 : Int32) (S : mm_M) (H : Heap) (locs : List Loc) (ls : Array Slot), pf_X9_variable_39 G N k4 y3 y4 w1 w2 w3 S = some z → lv_has ls 5 [(0, .ref b), (3, .int y3), (4, .int y4)] → mm_W D vwCl (mw_tys G) mw_aos s G b S0 S H locs → W p l e (headSpec wsX9_variable rmX9_variable).room s m args below meth c H locs 0 0 (MQ below (mm_Qv D vwCl (mw_tys G) mw_aos G b S0 z) args s 0 0 (mm_A b S0)) (F0 m 39 ls [.int w3, .int w2, .int w1, .ref (b + 1 + 24)]) := by
  obtain ⟨hx, hb, hml, hown, hts, hr, hlocks⟩ := hC
  intro y3 y4 w1 w2 w3 S H locs ls hf hl hw
  unfold pf_X9_variable_39 at hf
  refine lv_iadd hx hb dX9_variable_39 ?_
  obtain ⟨S1, e1, hf⟩ := mw_b hf
  refine mm_iast hx hb hw 24 (by decide) 0 rfl e1 dX9_variable_40 (fun H locs hw => ?_)
  refine lv_aload_n hx hb dX9_variable_41 rfl (lv_at hl 0 rfl) ?_
  refine lv_dup hx hb dX9_variable_42 rfl ?_
  refine mm_geti hx hb hts inX9 hown hw rfl 38 (by decide) (hts _ tw_761) rfl (fun _ _ => rfl) dX9_variable_43 ?_
  refine lv_iconst (v := 1) hx hb dX9_variable_46 (by decide) ?_
  refine lv_iadd hx hb dX9_variable_47 ?_
  obtain ⟨S2, e2, hf⟩ := mw_b hf
  refine mm_put hx hb hts inX9 tyX9 tyX9_ok nX9 hown hw rfl 38 (by decide) (hts _ tw_761) rfl rfl (by decide +kernel) (by decide) (mm_st38 _) e2 dX9_variable_48 (fun H locs hw => ?_)
  refine lv_iload hx hb dX9_variable_51 (lv_at hl 2 rfl) ?_
  refine lv_istore_n hx hb dX9_variable_53 rfl hl (by decide) rfl (fun ls hl => ?_)
  have hl : lv_has ls 5 [(2, .int y4), (0, .ref b), (3, .int y3), (4, .int y4)] := hl
  refine lv_iload hx hb dX9_variable_54 (lv_at hl 3 rfl) ?_
  refine lv_if_ne hx hb dX9_variable_56 (tgt := 60) (by decide) (fun hc => ?_) (fun hc => ?_)
  · rw [if_pos hc] at hf
    refine lv_iinc (k := 2) (v := (y3 + 1)) hx hb dX9_variable_60 hl rfl (congrArg (fun q => y3 + q) (show Int32.ofInt 1 = 1 by decide)) (by decide) rfl (fun ls hl => ?_)
    have hl : lv_has ls 5 [(3, .int (y3 + 1)), (2, .int y4), (0, .ref b), (4, .int y4)] := hl
    refine lv_goto hx hb dX9_variable_63 (tgt := 4) (by decide) ?_
    exact hk4 _ _ _ _ _ _ hf (lv_sub hl [2, 1, 0] rfl) hw
  · rw [if_neg (fun q => q hc)] at hf
    exact mm_vret hx hb hr hlocks hw hf dX9_variable_59
set_option maxHeartbeats 4000000 in
set_option maxRecDepth 100000 in
theorem bX9_variable_4 {p : Program} {l : Launch} {e : Env} {s : State} {m : MethodId} {args : Array Value} {below : List Frame} {meth : Method} {c : Code} (hC : mw_C p s m args meth c cX9_variable RX9 none lw_good 5) (D : va_G) (G : Nat → ClassId) (N : Nat) {b : Nat} {S0 : mw_M} {z : mm_M} : ∀ (n : Nat) (y2 : Int32) (y3 : Int32) (S : mm_M) (H : Heap) (locs : List Loc) (ls : Array Slot), pf_X9_variable_4 G N n y2 y3 S = some z → lv_has ls 5 [(0, .ref b), (2, .int y2), (3, .int y3)] → mm_W D vwCl (mw_tys G) mw_aos s G b S0 S H locs → W p l e (headSpec wsX9_variable rmX9_variable).room s m args below meth c H locs 0 0 (MQ below (mm_Qv D vwCl (mw_tys G) mw_aos G b S0 z) args s 0 0 (mm_A b S0)) (F0 m 4 ls []) := by
  obtain ⟨hx, hb, hml, hown, hts, hr, hlocks⟩ := hC
  intro n
  induction n with
  | zero => intro y2 y3 S H locs ls hf; rw [pf_X9_variable_4] at hf; cases hf
  | succ n ih =>
    intro y2 y3 S H locs ls hf hl hw
    rw [pf_X9_variable_4] at hf
    refine lv_iload_n hx hb dX9_variable_4 rfl (lv_at hl 2 rfl) ?_
    refine lv_iconst (v := 5) hx hb dX9_variable_5 (by decide) ?_
    refine lv_icmp_ge hx hb dX9_variable_6 (tgt := 66) (by decide) (fun hc => ?_) (fun hc => ?_)
    · rw [if_pos hc] at hf
      exact mm_vret hx hb hr hlocks hw hf dX9_variable_66
    · rw [if_neg hc] at hf
      refine lv_iload_n hx hb dX9_variable_9 rfl (lv_at hl 1 rfl) ?_
      refine lv_bipush (v := 7) hx hb dX9_variable_10 (by decide) ?_
      refine lv_iushr (v := (mw_ushr y2 7)) hx hb dX9_variable_12 rfl ?_
      refine lv_istore hx hb dX9_variable_13 hl (by decide) rfl (fun ls hl => ?_)
      have hl : lv_has ls 5 [(4, .int (mw_ushr y2 7)), (0, .ref b), (2, .int y2), (3, .int y3)] := hl
      refine lv_aload_n hx hb dX9_variable_15 rfl (lv_at hl 1 rfl) ?_
      refine mm_getr hx hb hts inX9 hown hw rfl 37 (by decide) (hts _ tw_760) rfl 24 (fun _ _ => rfl) dX9_variable_16 ?_
      refine lv_aload_n hx hb dX9_variable_19 rfl (lv_at hl 1 rfl) ?_
      refine mm_geti hx hb hts inX9 hown hw rfl 38 (by decide) (hts _ tw_761) rfl (fun _ _ => rfl) dX9_variable_20 ?_
      refine lv_iload_n hx hb dX9_variable_23 rfl (lv_at hl 2 rfl) ?_
      refine lv_bipush (v := 127) hx hb dX9_variable_24 (by decide) ?_
      refine lv_iand hx hb dX9_variable_26 ?_
      refine lv_iload hx hb dX9_variable_27 (lv_at hl 0 rfl) ?_
      refine lv_if_eq hx hb dX9_variable_29 (tgt := 38) (by decide) (fun hc => ?_) (fun hc => ?_)
      · rw [if_pos hc] at hf
        refine lv_iconst (v := 0) hx hb dX9_variable_38 (by decide) ?_
        exact bX9_variable_39 ⟨hx, hb, hml, hown, hts, hr, hlocks⟩ D G N (pf_X9_variable_4 G N n) ih _ _ _ _ _ _ _ _ _ hf (lv_sub hl [1, 3, 0] rfl) hw
      · rw [if_neg hc] at hf
        refine lv_sipush (v := 128) hx hb dX9_variable_32 (by decide) ?_
        refine lv_goto hx hb dX9_variable_35 (tgt := 39) (by decide) ?_
        exact bX9_variable_39 ⟨hx, hb, hml, hown, hts, hr, hlocks⟩ D G N (pf_X9_variable_4 G N n) ih _ _ _ _ _ _ _ _ _ hf (lv_sub hl [1, 3, 0] rfl) hw
set_option maxHeartbeats 4000000 in
set_option maxRecDepth 100000 in
theorem cm_X9_variable (l : Launch) (D : va_G) (G : Nat → ClassId) (N : Nat) (b : Nat) (S0 : mw_M) (S : mm_M) (x1 : Int32) (z : mm_M) (hf : pf_X9_variable G N S x1 = some z) : Met l yX9_variable wsX9_variable rmX9_variable (va_Pc [.ref b, .int x1] (mm_B D vwCl (mw_tys G) mw_aos G b S0 S)) (mm_Qv D vwCl (mw_tys G) mw_aos G b S0 z) 0 0 (mm_A b S0) := by
  refine Met.ofW (cc := cX9_variable) (maxL := 5) (ret := none) (by decide) rfl ?_
  intro p e s m args below meth c s₁ B hml hv
  obtain ⟨rfl, hB⟩ := hv
  have hw := mm_begin hB
  have hx := B.exec
  have hb := B.bytes
  have hr := B.returns
  have hts : ∀ w ∈ lw_good, w.before _ s = true := fun w h => atoms_spec (ws := wsX9_variable) B.pre w (List.mem_cons_of_mem _ h)
  have hown : s.vm.findClass RX9 = some m.cls := findClass_of_methodNamed B.named
  have hlocks := B.notSynchronized
  have hC : mw_C p s m _ meth c cX9_variable RX9 none lw_good 5 := ⟨hx, hb, hml, hown, hts, hr, hlocks⟩
  have hl := lv_entry ([.ref b, .int x1]) (n := 5) (Nat.le_of_ble_eq_true rfl)
  rw [lg_entry_eq]
  generalize (lg_sl ([.ref b, .int x1]) ++ List.replicate (5 - (lg_sl ([.ref b, .int x1])).length) Slot.unset).toArray = ls at hl ⊢
  have hl : lv_has ls 5 [(0, .ref b), (1, .int x1)] := hl
  unfold pf_X9_variable at hf
  refine lv_iload_n hx hb dX9_variable_0 rfl (lv_at hl 1 rfl) ?_
  refine lv_istore_n hx hb dX9_variable_1 rfl hl (by decide) rfl (fun ls hl => ?_)
  have hl : lv_has ls 5 [(2, .int x1), (0, .ref b), (1, .int x1)] := hl
  refine lv_iconst (v := 0) hx hb dX9_variable_2 (by decide) ?_
  refine lv_istore_n hx hb dX9_variable_3 rfl hl (by decide) rfl (fun ls hl => ?_)
  have hl : lv_has ls 5 [(3, .int 0), (2, .int x1), (0, .ref b), (1, .int x1)] := hl
  exact bX9_variable_4 ⟨hx, hb, hml, hown, hts, hr, hlocks⟩ D G N N _ _ _ _ _ _ hf (lv_sub hl [2, 1, 0] rfl) hw
