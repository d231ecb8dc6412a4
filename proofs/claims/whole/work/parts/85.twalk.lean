abbrev rmX8_type : Room := { frames := 6, cells := 1, slots := 6, locals := 82 }
abbrev wsX8_type : List Cond := Cond.code yX8_type cX8_type 3 (some .int) :: lw_good
set_option maxHeartbeats 4000000 in
set_option maxRecDepth 100000 in
theorem bX8_type_9 {p : Program} {l : Launch} {e : Env} {s : State} {m : MethodId} {args : Array Value} {below : List Frame} {meth : Method} {c : Code} {A : Nat → Prop} (hZ : mw_Z s A args c l) (hC : mw_C p s m args meth c cX8_type RX8 (some .int) lw_good 3) (D : va_G) (G : Nat → ClassId) (N : Nat) {z : Nat × Int32 × mw_M} : ∀ (S : mw_M) (H : Heap) (locs : List Loc) (ls : Array Slot), pf_X8_type_9 G N S = some z → lv_has ls 3 [] → mw_W D vwCl (mw_tys G) mw_aos A s S H locs → W p l e (headSpec wsX8_type rmX8_type).room s m args below meth c H locs 0 0 (MZ below D vwCl (mw_tys G) mw_aos A z args s 1 6) (F0 m 9 ls []) := by
  obtain ⟨hx, hb, hml, hown, hts, hr, hlocks⟩ := hC
  intro S H locs ls hf hl hw
  unfold pf_X8_type_9 at hf
  exact mw_thA hx hb hown hZ (hts _ tw_542) (hts _ tw_15) (si := 95) (txt := "an event has 0 to 3 ints") (by decide) hlocks (hl.1.trans hml.symm) hw (Nat.le_of_ble_eq_true rfl) (Nat.le_of_ble_eq_true rfl) (Nat.le_of_ble_eq_true rfl) (Nat.le_of_ble_eq_true rfl) hf dX8_type_9 dX8_type_12 dX8_type_13 dX8_type_15 dX8_type_18
set_option maxHeartbeats 4000000 in
set_option maxRecDepth 100000 in
theorem cm_X8_type (l : Launch) (D : va_G) (G : Nat → ClassId) (N : Nat) (S : mw_M) (h0 : Nat) (x1 : Int32) (x2 : Int32) (z : Nat × Int32 × mw_M) (hf : pf_X8_type G N S h0 x1 x2 = some z) (hz3 : z.1 ≤ 2) (htr : l.stackTraces = false) : MetZ l yX8_type wsX8_type rmX8_type (va_Pc [.ref h0, .int x1, .int x2] (fun U => mw_B D vwCl (mw_tys G) mw_aos S U ∧ mw_T U)) D vwCl (mw_tys G) mw_aos (mw_A S) z 1 6 := by
  refine MetZ.ofW hz3 (cc := cX8_type) (maxL := 3) (ret := (some .int)) (by decide) rfl ?_
  intro p e s m args below meth c s₁ B hml hv hex
  obtain ⟨rfl, hB, hTT⟩ := hv
  have hZ : mw_Z s (mw_A S) ([.ref h0, .int x1, .int x2] : List Value).toArray c l := ⟨mw_nst hB, (hTT.at _).1, (hTT.at _).2.1, (hTT.at _).2.2, hex, htr⟩
  have hw := mw_begin hB
  have hx := B.exec
  have hb := B.bytes
  have hr := B.returns
  have hts : ∀ w ∈ lw_good, w.before _ s = true := fun w h => atoms_spec (ws := wsX8_type) B.pre w (List.mem_cons_of_mem _ h)
  have hown : s.vm.findClass RX8 = some m.cls := findClass_of_methodNamed B.named
  have hlocks := B.notSynchronized
  have hC : mw_C p s m _ meth c cX8_type RX8 (some .int) lw_good 3 := ⟨hx, hb, hml, hown, hts, hr, hlocks⟩
  have hl := lv_entry ([.ref h0, .int x1, .int x2]) (n := 3) (Nat.le_of_ble_eq_true rfl)
  rw [lg_entry_eq]
  generalize (lg_sl ([.ref h0, .int x1, .int x2]) ++ List.replicate (3 - (lg_sl ([.ref h0, .int x1, .int x2])).length) Slot.unset).toArray = ls at hl ⊢
  have hl : lv_has ls 3 [(0, .ref h0), (1, .int x1), (2, .int x2)] := hl
  unfold pf_X8_type at hf
  refine lv_iload_n hx hb dX8_type_0 rfl (lv_at hl 1 rfl) ?_
  refine lv_if_lt hx hb dX8_type_1 (tgt := 9) (by decide) (fun hc => ?_) (fun hc => ?_)
  · rw [if_pos hc] at hf
    exact bX8_type_9 hZ ⟨hx, hb, hml, hown, hts, hr, hlocks⟩ D G N _ _ _ _ hf (lv_sub hl [] rfl) hw
  · rw [if_neg hc] at hf
    refine lv_iload_n hx hb dX8_type_4 rfl (lv_at hl 1 rfl) ?_
    refine lv_iconst (v := 3) hx hb dX8_type_5 (by decide) ?_
    refine lv_icmp_le hx hb dX8_type_6 (tgt := 19) (by decide) (fun hc => ?_) (fun hc => ?_)
    · rw [if_pos hc] at hf
      refine lv_aload_n hx hb dX8_type_19 rfl (lv_at hl 0 rfl) ?_
      obtain ⟨v1, e1, hf⟩ := mw_b hf
      refine mw_geti hx hb hts inX8 hown hw (ci := 8) rfl 6 (by decide) (hts _ tw_200) rfl e1 dX8_type_20 ?_
      refine lv_bipush (v := 6) hx hb dX8_type_23 (by decide) ?_
      refine lv_icmp_lt hx hb dX8_type_25 (tgt := 38) (by decide) (fun hc => ?_) (fun hc => ?_)
      · rw [if_pos hc] at hf
        refine lv_aload_n hx hb dX8_type_38 rfl (lv_at hl 0 rfl) ?_
        obtain ⟨v2, e2, hf⟩ := mw_b hf
        refine mw_getr hx hb hts inX8 hown hw (ci := 8) rfl 4 (by decide) (hts _ tw_198) rfl e2 dX8_type_39 ?_
        refine lv_aload_n hx hb dX8_type_42 rfl (lv_at hl 0 rfl) ?_
        obtain ⟨v3, e3, hf⟩ := mw_b hf
        refine mw_geti hx hb hts inX8 hown hw (ci := 8) rfl 6 (by decide) (hts _ tw_200) rfl e3 dX8_type_43 ?_
        refine lv_iload_n hx hb dX8_type_46 rfl (lv_at hl 1 rfl) ?_
        obtain ⟨S4, e4, hf⟩ := mw_b hf
        refine mw_iast hx hb hw 0 rfl e4 dX8_type_47 (fun H locs hw => ?_)
        refine lv_aload_n hx hb dX8_type_48 rfl (lv_at hl 0 rfl) ?_
        obtain ⟨v5, e5, hf⟩ := mw_b hf
        refine mw_getr hx hb hts inX8 hown hw (ci := 8) rfl 5 (by decide) (hts _ tw_199) rfl e5 dX8_type_49 ?_
        refine lv_aload_n hx hb dX8_type_52 rfl (lv_at hl 0 rfl) ?_
        obtain ⟨v6, e6, hf⟩ := mw_b hf
        refine mw_geti hx hb hts inX8 hown hw (ci := 8) rfl 6 (by decide) (hts _ tw_200) rfl e6 dX8_type_53 ?_
        refine lv_iload_n hx hb dX8_type_56 rfl (lv_at hl 2 rfl) ?_
        obtain ⟨S7, e7, hf⟩ := mw_b hf
        refine mw_zast hx hb hw 3 rfl e7 dX8_type_57 (fun H locs hw => ?_)
        refine lv_aload_n hx hb dX8_type_58 rfl (lv_at hl 0 rfl) ?_
        refine lv_dup hx hb dX8_type_59 rfl ?_
        obtain ⟨v8, e8, hf⟩ := mw_b hf
        refine mw_geti hx hb hts inX8 hown hw (ci := 8) rfl 6 (by decide) (hts _ tw_200) rfl e8 dX8_type_60 ?_
        refine lv_iconst (v := 1) hx hb dX8_type_63 (by decide) ?_
        refine lv_iadd hx hb dX8_type_64 ?_
        obtain ⟨S9, e9, hf⟩ := mw_b hf
        refine mw_put hx hb hts inX8 tyX8 tyX8_ok nX8 hown hw (ci := 8) rfl 6 (by decide) (hts _ tw_200) rfl rfl (ty := .int) (by decide +kernel) rfl rfl e9 dX8_type_65 (fun H locs hw => ?_)
        refine lv_aload_n hx hb dX8_type_68 rfl (lv_at hl 0 rfl) ?_
        obtain ⟨v10, e10, hf⟩ := mw_b hf
        refine mw_geti hx hb hts inX8 hown hw (ci := 8) rfl 6 (by decide) (hts _ tw_200) rfl e10 dX8_type_69 ?_
        refine lv_iconst (v := 1) hx hb dX8_type_72 (by decide) ?_
        refine lv_isub hx hb dX8_type_73 ?_
        refine W.widen (k := 1) (n := 6) (Nat.le_of_ble_eq_true rfl) (Nat.le_of_ble_eq_true rfl) ?_
        exact mw_irett hx hb hr hlocks hw hf dX8_type_74
      · rw [if_neg hc] at hf
        exact mw_thS hx hb hown hZ (hts _ tw_608) (hts _ tw_16) (si := 105) (txt := "all types are declared") (by decide) hlocks (hl.1.trans hml.symm) hw (Nat.le_of_ble_eq_true rfl) (Nat.le_of_ble_eq_true rfl) (Nat.le_of_ble_eq_true rfl) (Nat.le_of_ble_eq_true rfl) hf dX8_type_28 dX8_type_31 dX8_type_32 dX8_type_34 dX8_type_37
    · rw [if_neg hc] at hf
      exact bX8_type_9 hZ ⟨hx, hb, hml, hown, hts, hr, hlocks⟩ D G N _ _ _ _ hf (lv_sub hl [] rfl) hw
abbrev rmX8_record : Room := { frames := 6, cells := 1, slots := 6, locals := 82 }
abbrev wsX8_record : List Cond := Cond.code yX8_record cX8_record 1 (some .int) :: lw_good
set_option maxHeartbeats 4000000 in
set_option maxRecDepth 100000 in
theorem cm_X8_record (l : Launch) (D : va_G) (G : Nat → ClassId) (N : Nat) (S : mw_M) (h0 : Nat) (z : Nat × Int32 × mw_M) (hf : pf_X8_record G N S h0 = some z) (hz3 : z.1 ≤ 2) (htr : l.stackTraces = false) : MetZ l yX8_record wsX8_record rmX8_record (va_Pc [.ref h0] (fun U => mw_B D vwCl (mw_tys G) mw_aos S U ∧ mw_T U)) D vwCl (mw_tys G) mw_aos (mw_A S) z 1 6 := by
  refine MetZ.ofW hz3 (cc := cX8_record) (maxL := 1) (ret := (some .int)) (by decide) rfl ?_
  intro p e s m args below meth c s₁ B hml hv hex
  obtain ⟨rfl, hB, hTT⟩ := hv
  have hZ : mw_Z s (mw_A S) ([.ref h0] : List Value).toArray c l := ⟨mw_nst hB, (hTT.at _).1, (hTT.at _).2.1, (hTT.at _).2.2, hex, htr⟩
  have hw := mw_begin hB
  have hx := B.exec
  have hb := B.bytes
  have hr := B.returns
  have hts : ∀ w ∈ lw_good, w.before _ s = true := fun w h => atoms_spec (ws := wsX8_record) B.pre w (List.mem_cons_of_mem _ h)
  have hown : s.vm.findClass RX8 = some m.cls := findClass_of_methodNamed B.named
  have hlocks := B.notSynchronized
  have hC : mw_C p s m _ meth c cX8_record RX8 (some .int) lw_good 1 := ⟨hx, hb, hml, hown, hts, hr, hlocks⟩
  have hl := lv_entry ([.ref h0]) (n := 1) (Nat.le_of_ble_eq_true rfl)
  rw [lg_entry_eq]
  generalize (lg_sl ([.ref h0]) ++ List.replicate (1 - (lg_sl ([.ref h0])).length) Slot.unset).toArray = ls at hl ⊢
  have hl : lv_has ls 1 [(0, .ref h0)] := hl
  unfold pf_X8_record at hf
  refine lv_aload_n hx hb dX8_record_0 rfl (lv_at hl 0 rfl) ?_
  obtain ⟨v1, e1, hf⟩ := mw_b hf
  refine mw_geti hx hb hts inX8 hown hw (ci := 8) rfl 8 (by decide) (hts _ tw_202) rfl e1 dX8_record_1 ?_
  refine lv_iconst (v := 4) hx hb dX8_record_4 (by decide) ?_
  refine lv_icmp_lt hx hb dX8_record_5 (tgt := 18) (by decide) (fun hc => ?_) (fun hc => ?_)
  · rw [if_pos hc] at hf
    refine lv_aload_n hx hb dX8_record_18 rfl (lv_at hl 0 rfl) ?_
    refine lv_dup hx hb dX8_record_19 rfl ?_
    obtain ⟨v2, e2, hf⟩ := mw_b hf
    refine mw_geti hx hb hts inX8 hown hw (ci := 8) rfl 8 (by decide) (hts _ tw_202) rfl e2 dX8_record_20 ?_
    refine lv_iconst (v := 1) hx hb dX8_record_23 (by decide) ?_
    refine lv_iadd hx hb dX8_record_24 ?_
    obtain ⟨S3, e3, hf⟩ := mw_b hf
    refine mw_put hx hb hts inX8 tyX8 tyX8_ok nX8 hown hw (ci := 8) rfl 8 (by decide) (hts _ tw_202) rfl rfl (ty := .int) (by decide +kernel) rfl rfl e3 dX8_record_25 (fun H locs hw => ?_)
    refine lv_aload_n hx hb dX8_record_28 rfl (lv_at hl 0 rfl) ?_
    obtain ⟨v4, e4, hf⟩ := mw_b hf
    refine mw_geti hx hb hts inX8 hown hw (ci := 8) rfl 8 (by decide) (hts _ tw_202) rfl e4 dX8_record_29 ?_
    refine lv_iconst (v := 1) hx hb dX8_record_32 (by decide) ?_
    refine lv_isub hx hb dX8_record_33 ?_
    refine W.widen (k := 1) (n := 6) (Nat.le_of_ble_eq_true rfl) (Nat.le_of_ble_eq_true rfl) ?_
    exact mw_irett hx hb hr hlocks hw hf dX8_record_34
  · rw [if_neg hc] at hf
    exact mw_thS hx hb hown hZ (hts _ tw_608) (hts _ tw_16) (si := 149) (txt := "all recordings are made") (by decide) hlocks (hl.1.trans hml.symm) hw (Nat.le_of_ble_eq_true rfl) (Nat.le_of_ble_eq_true rfl) (Nat.le_of_ble_eq_true rfl) (Nat.le_of_ble_eq_true rfl) hf dX8_record_8 dX8_record_11 dX8_record_12 dX8_record_14 dX8_record_17
abbrev rmX8_settings : Room := { frames := 6, cells := 1, slots := 6, locals := 95 }
abbrev wsX8_settings : List Cond := Cond.code yX8_settings cX8_settings 5 (some .int) :: lw_good
set_option maxHeartbeats 4000000 in
set_option maxRecDepth 100000 in
theorem bX8_settings_77 {p : Program} {l : Launch} {e : Env} {s : State} {m : MethodId} {args : Array Value} {below : List Frame} {meth : Method} {c : Code} {A : Nat → Prop} (hZ : mw_Z s A args c l) (hC : mw_C p s m args meth c cX8_settings RX8 (some .int) lw_good 5) (D : va_G) (G : Nat → ClassId) (N : Nat) {z : Nat × Int32 × mw_M} : ∀ (y0 : Nat) (y2 : Int32) (y3 : Int32) (y4 : Int32) (S : mw_M) (H : Heap) (locs : List Loc) (ls : Array Slot), pf_X8_settings_77 G N y0 y2 y3 y4 S = some z → lv_has ls 5 [(0, .ref y0), (2, .int y2), (3, .int y3), (4, .int y4)] → mw_W D vwCl (mw_tys G) mw_aos A s S H locs → W p l e (headSpec wsX8_settings rmX8_settings).room s m args below meth c H locs 0 0 (MZ below D vwCl (mw_tys G) mw_aos A z args s 1 6) (F0 m 77 ls []) := by
  obtain ⟨hx, hb, hml, hown, hts, hr, hlocks⟩ := hC
  intro y0 y2 y3 y4 S H locs ls hf hl hw
  unfold pf_X8_settings_77 at hf
  refine lv_aload_n hx hb dX8_settings_77 rfl (lv_at hl 0 rfl) ?_
  obtain ⟨v1, e1, hf⟩ := mw_b hf
  refine mw_getr hx hb hts inX8 hown hw (ci := 8) rfl 1 (by decide) (hts _ tw_195) rfl e1 dX8_settings_78 ?_
  obtain ⟨S2, e2, hf⟩ := mw_b hf
  obtain ⟨ho, e2⟩ := mw_v_s e2
  refine mw_callv (va_runV (As := []) (rest := []) ⟨hx, hb, hml, hown, hts⟩ (cm_X7_clear l D G N S v1 S2 e2) (cwV 0 hts (mw_gV tw_386 tw_387 tw_388 tw_3 tw_389) rfl rfl rfl (by decide +kernel) ⟨Nat.le_of_ble_eq_true rfl, Nat.le_of_ble_eq_true rfl⟩) (mw_preV hw (ci := 7) rfl ho) rfl rfl hl.1 rfl (lv_room (Nat.le_of_ble_eq_true rfl)) dX8_settings_81 ⟨(Nat.le_of_ble_eq_true rfl), (Nat.le_of_ble_eq_true rfl)⟩) hw (fun H locs hw => ?_)
  refine lv_iload_n hx hb dX8_settings_84 rfl (lv_at hl 2 rfl) ?_
  refine lv_if_ne hx hb dX8_settings_85 (tgt := 98) (by decide) (fun hc => ?_) (fun hc => ?_)
  · rw [if_pos hc] at hf
    refine lv_iload hx hb dX8_settings_98 (lv_at hl 3 rfl) ?_
    refine lv_if_eq hx hb dX8_settings_100 (tgt := 113) (by decide) (fun hc => ?_) (fun hc => ?_)
    · rw [if_pos hc] at hf
      refine lv_iload_n hx hb dX8_settings_113 rfl (lv_at hl 1 rfl) ?_
      refine W.widen (k := 1) (n := 6) (Nat.le_of_ble_eq_true rfl) (Nat.le_of_ble_eq_true rfl) ?_
      exact mw_irett hx hb hr hlocks hw hf dX8_settings_114
    · rw [if_neg hc] at hf
      exact mw_thS hx hb hown hZ (hts _ tw_608) (hts _ tw_16) (si := 167) (txt := "the recording is closed") (by decide) hlocks (hl.1.trans hml.symm) hw (Nat.le_of_ble_eq_true rfl) (Nat.le_of_ble_eq_true rfl) (Nat.le_of_ble_eq_true rfl) (Nat.le_of_ble_eq_true rfl) hf dX8_settings_103 dX8_settings_106 dX8_settings_107 dX8_settings_109 dX8_settings_112
  · rw [if_neg (fun q => q hc)] at hf
    exact mw_thA hx hb hown hZ (hts _ tw_542) (hts _ tw_15) (si := 165) (txt := "no such recording, or the text is not settings") (by decide) hlocks (hl.1.trans hml.symm) hw (Nat.le_of_ble_eq_true rfl) (Nat.le_of_ble_eq_true rfl) (Nat.le_of_ble_eq_true rfl) (Nat.le_of_ble_eq_true rfl) hf dX8_settings_88 dX8_settings_91 dX8_settings_92 dX8_settings_94 dX8_settings_97
set_option maxHeartbeats 4000000 in
set_option maxRecDepth 100000 in
theorem bX8_settings_54 {p : Program} {l : Launch} {e : Env} {s : State} {m : MethodId} {args : Array Value} {below : List Frame} {meth : Method} {c : Code} {A : Nat → Prop} (hZ : mw_Z s A args c l) (hC : mw_C p s m args meth c cX8_settings RX8 (some .int) lw_good 5) (D : va_G) (G : Nat → ClassId) (N : Nat) {z : Nat × Int32 × mw_M} : ∀ (y0 : Nat) (y1 : Int32) (y2 : Int32) (y3 : Int32) (w0 : Int32) (S : mw_M) (H : Heap) (locs : List Loc) (ls : Array Slot), pf_X8_settings_54 G N y0 y1 y2 y3 w0 S = some z → lv_has ls 5 [(0, .ref y0), (1, .int y1), (2, .int y2), (3, .int y3)] → mw_W D vwCl (mw_tys G) mw_aos A s S H locs → W p l e (headSpec wsX8_settings rmX8_settings).room s m args below meth c H locs 0 0 (MZ below D vwCl (mw_tys G) mw_aos A z args s 1 6) (F0 m 54 ls [.int w0]) := by
  obtain ⟨hx, hb, hml, hown, hts, hr, hlocks⟩ := hC
  intro y0 y1 y2 y3 w0 S H locs ls hf hl hw
  unfold pf_X8_settings_54 at hf
  refine lv_istore hx hb dX8_settings_54 hl (by decide) rfl (fun ls hl => ?_)
  have hl : lv_has ls 5 [(4, .int w0), (0, .ref y0), (1, .int y1), (2, .int y2), (3, .int y3)] := hl
  refine lv_iload_n hx hb dX8_settings_56 rfl (lv_at hl 4 rfl) ?_
  refine lv_if_eq hx hb dX8_settings_57 (tgt := 77) (by decide) (fun hc => ?_) (fun hc => ?_)
  · rw [if_pos hc] at hf
    exact bX8_settings_77 hZ ⟨hx, hb, hml, hown, hts, hr, hlocks⟩ D G N _ _ _ _ _ _ _ _ hf (lv_sub hl [1, 3, 4, 0] rfl) hw
  · rw [if_neg hc] at hf
    refine lv_iload hx hb dX8_settings_60 (lv_at hl 0 rfl) ?_
    refine lv_if_ne hx hb dX8_settings_62 (tgt := 77) (by decide) (fun hc => ?_) (fun hc => ?_)
    · rw [if_pos hc] at hf
      exact bX8_settings_77 hZ ⟨hx, hb, hml, hown, hts, hr, hlocks⟩ D G N _ _ _ _ _ _ _ _ hf (lv_sub hl [1, 3, 4, 0] rfl) hw
    · rw [if_neg (fun q => q hc)] at hf
      refine lv_aload_n hx hb dX8_settings_65 rfl (lv_at hl 1 rfl) ?_
      refine lv_aload_n hx hb dX8_settings_66 rfl (lv_at hl 1 rfl) ?_
      obtain ⟨v1, e1, hf⟩ := mw_b hf
      refine mw_getr hx hb hts inX8 hown hw (ci := 8) rfl 7 (by decide) (hts _ tw_201) rfl e1 dX8_settings_67 ?_
      refine lv_iload_n hx hb dX8_settings_70 rfl (lv_at hl 2 rfl) ?_
      obtain ⟨v2, e2, hf⟩ := mw_b hf
      refine mw_aald hx hb hw 5 rfl e2 dX8_settings_71 ?_
      refine lv_iconst (v := 0) hx hb dX8_settings_72 (by decide) ?_
      refine lv_iload_n hx hb dX8_settings_73 rfl (lv_at hl 3 rfl) ?_
      obtain ⟨S3, e3, hf⟩ := mw_b hf
      obtain ⟨ho, e3⟩ := mw_v_s e3
      refine mw_callv (va_runV (As := [.ref v2, .int 0, .int y2]) (rest := []) ⟨hx, hb, hml, hown, hts⟩ (cm_X8_applyItems l D G N S y0 v2 0 y2 S3 e3) (cwV 3 hts (mw_gV tw_461 tw_463 tp_12 tw_1 tw_464) rfl rfl rfl (by decide +kernel) ⟨Nat.le_of_ble_eq_true rfl, Nat.le_of_ble_eq_true rfl⟩) (mw_preV hw (ci := 8) rfl ho) rfl rfl hl.1 rfl (lv_room (Nat.le_of_ble_eq_true rfl)) dX8_settings_74 ⟨(Nat.le_of_ble_eq_true rfl), (Nat.le_of_ble_eq_true rfl)⟩) hw (fun H locs hw => ?_)
      exact bX8_settings_77 hZ ⟨hx, hb, hml, hown, hts, hr, hlocks⟩ D G N _ _ _ _ _ _ _ _ hf (lv_sub hl [1, 3, 4, 0] rfl) hw
set_option maxHeartbeats 4000000 in
set_option maxRecDepth 100000 in
theorem bX8_settings_53 {p : Program} {l : Launch} {e : Env} {s : State} {m : MethodId} {args : Array Value} {below : List Frame} {meth : Method} {c : Code} {A : Nat → Prop} (hZ : mw_Z s A args c l) (hC : mw_C p s m args meth c cX8_settings RX8 (some .int) lw_good 5) (D : va_G) (G : Nat → ClassId) (N : Nat) {z : Nat × Int32 × mw_M} : ∀ (y0 : Nat) (y1 : Int32) (y2 : Int32) (y3 : Int32) (S : mw_M) (H : Heap) (locs : List Loc) (ls : Array Slot), pf_X8_settings_53 G N y0 y1 y2 y3 S = some z → lv_has ls 5 [(0, .ref y0), (1, .int y1), (2, .int y2), (3, .int y3)] → mw_W D vwCl (mw_tys G) mw_aos A s S H locs → W p l e (headSpec wsX8_settings rmX8_settings).room s m args below meth c H locs 0 0 (MZ below D vwCl (mw_tys G) mw_aos A z args s 1 6) (F0 m 53 ls []) := by
  obtain ⟨hx, hb, hml, hown, hts, hr, hlocks⟩ := hC
  intro y0 y1 y2 y3 S H locs ls hf hl hw
  unfold pf_X8_settings_53 at hf
  refine lv_iconst (v := 0) hx hb dX8_settings_53 (by decide) ?_
  exact bX8_settings_54 hZ ⟨hx, hb, hml, hown, hts, hr, hlocks⟩ D G N _ _ _ _ _ _ _ _ _ hf (lv_sub hl [0, 1, 2, 3] rfl) hw
set_option maxHeartbeats 4000000 in
set_option maxRecDepth 100000 in
theorem bX8_settings_31 {p : Program} {l : Launch} {e : Env} {s : State} {m : MethodId} {args : Array Value} {below : List Frame} {meth : Method} {c : Code} {A : Nat → Prop} (hZ : mw_Z s A args c l) (hC : mw_C p s m args meth c cX8_settings RX8 (some .int) lw_good 5) (D : va_G) (G : Nat → ClassId) (N : Nat) {z : Nat × Int32 × mw_M} : ∀ (y0 : Nat) (y1 : Int32) (y2 : Int32) (w0 : Int32) (S : mw_M) (H : Heap) (locs : List Loc) (ls : Array Slot), pf_X8_settings_31 G N y0 y1 y2 w0 S = some z → lv_has ls 5 [(0, .ref y0), (1, .int y1), (2, .int y2)] → mw_W D vwCl (mw_tys G) mw_aos A s S H locs → W p l e (headSpec wsX8_settings rmX8_settings).room s m args below meth c H locs 0 0 (MZ below D vwCl (mw_tys G) mw_aos A z args s 1 6) (F0 m 31 ls [.int w0]) := by
  obtain ⟨hx, hb, hml, hown, hts, hr, hlocks⟩ := hC
  intro y0 y1 y2 w0 S H locs ls hf hl hw
  unfold pf_X8_settings_31 at hf
  refine lv_istore_n hx hb dX8_settings_31 rfl hl (by decide) rfl (fun ls hl => ?_)
  have hl : lv_has ls 5 [(3, .int w0), (0, .ref y0), (1, .int y1), (2, .int y2)] := hl
  refine lv_iload_n hx hb dX8_settings_32 rfl (lv_at hl 0 rfl) ?_
  refine lv_if_eq hx hb dX8_settings_33 (tgt := 53) (by decide) (fun hc => ?_) (fun hc => ?_)
  · rw [if_pos hc] at hf
    exact bX8_settings_53 hZ ⟨hx, hb, hml, hown, hts, hr, hlocks⟩ D G N _ _ _ _ _ _ _ _ hf (lv_sub hl [1, 2, 3, 0] rfl) hw
  · rw [if_neg hc] at hf
    refine lv_aload_n hx hb dX8_settings_36 rfl (lv_at hl 1 rfl) ?_
    obtain ⟨v1, e1, hf⟩ := mw_b hf
    refine mw_getr hx hb hts inX8 hown hw (ci := 8) rfl 7 (by decide) (hts _ tw_201) rfl e1 dX8_settings_37 ?_
    refine lv_iload_n hx hb dX8_settings_40 rfl (lv_at hl 2 rfl) ?_
    obtain ⟨v2, e2, hf⟩ := mw_b hf
    refine mw_aald hx hb hw 5 rfl e2 dX8_settings_41 ?_
    refine lv_iconst (v := 3) hx hb dX8_settings_42 (by decide) ?_
    obtain ⟨v3, S3, e3, hf⟩ := mw_bb hf
    obtain ⟨ho, e3⟩ := mw_v_s e3
    refine mw_calli (va_runV (As := [.int 3]) (rest := []) ⟨hx, hb, hml, hown, hts⟩ (cm_X5_is l D G N S v2 3 (v3, S3) e3) (cwV 1 hts (mw_gV tw_284 tw_285 tw_286 tw_7 tw_287) rfl rfl rfl (by decide +kernel) ⟨Nat.le_of_ble_eq_true rfl, Nat.le_of_ble_eq_true rfl⟩) (mw_preV hw (ci := 5) rfl ho) rfl rfl hl.1 rfl (lv_room (Nat.le_of_ble_eq_true rfl)) dX8_settings_43 ⟨(Nat.le_of_ble_eq_true rfl), (Nat.le_of_ble_eq_true rfl)⟩) hw (fun H locs hw => ?_)
    refine lv_if_eq hx hb dX8_settings_46 (tgt := 53) (by decide) (fun hc => ?_) (fun hc => ?_)
    · rw [if_pos hc] at hf
      exact bX8_settings_53 hZ ⟨hx, hb, hml, hown, hts, hr, hlocks⟩ D G N _ _ _ _ _ _ _ _ hf (lv_sub hl [1, 2, 3, 0] rfl) hw
    · rw [if_neg hc] at hf
      refine lv_iconst (v := 1) hx hb dX8_settings_49 (by decide) ?_
      refine lv_goto hx hb dX8_settings_50 (tgt := 54) (by decide) ?_
      exact bX8_settings_54 hZ ⟨hx, hb, hml, hown, hts, hr, hlocks⟩ D G N _ _ _ _ _ _ _ _ _ hf (lv_sub hl [1, 2, 3, 0] rfl) hw
set_option maxHeartbeats 4000000 in
set_option maxRecDepth 100000 in
theorem bX8_settings_30 {p : Program} {l : Launch} {e : Env} {s : State} {m : MethodId} {args : Array Value} {below : List Frame} {meth : Method} {c : Code} {A : Nat → Prop} (hZ : mw_Z s A args c l) (hC : mw_C p s m args meth c cX8_settings RX8 (some .int) lw_good 5) (D : va_G) (G : Nat → ClassId) (N : Nat) {z : Nat × Int32 × mw_M} : ∀ (y0 : Nat) (y1 : Int32) (y2 : Int32) (S : mw_M) (H : Heap) (locs : List Loc) (ls : Array Slot), pf_X8_settings_30 G N y0 y1 y2 S = some z → lv_has ls 5 [(0, .ref y0), (1, .int y1), (2, .int y2)] → mw_W D vwCl (mw_tys G) mw_aos A s S H locs → W p l e (headSpec wsX8_settings rmX8_settings).room s m args below meth c H locs 0 0 (MZ below D vwCl (mw_tys G) mw_aos A z args s 1 6) (F0 m 30 ls []) := by
  obtain ⟨hx, hb, hml, hown, hts, hr, hlocks⟩ := hC
  intro y0 y1 y2 S H locs ls hf hl hw
  unfold pf_X8_settings_30 at hf
  refine lv_iconst (v := 0) hx hb dX8_settings_30 (by decide) ?_
  exact bX8_settings_31 hZ ⟨hx, hb, hml, hown, hts, hr, hlocks⟩ D G N _ _ _ _ _ _ _ _ hf (lv_sub hl [0, 1, 2] rfl) hw
set_option maxHeartbeats 4000000 in
set_option maxRecDepth 100000 in
theorem cm_X8_settings (l : Launch) (D : va_G) (G : Nat → ClassId) (N : Nat) (S : mw_M) (h0 : Nat) (x1 : Int32) (z : Nat × Int32 × mw_M) (hf : pf_X8_settings G N S h0 x1 = some z) (hz3 : z.1 ≤ 2) (htr : l.stackTraces = false) : MetZ l yX8_settings wsX8_settings rmX8_settings (va_Pc [.ref h0, .int x1] (fun U => mw_B D vwCl (mw_tys G) mw_aos S U ∧ mw_T U)) D vwCl (mw_tys G) mw_aos (mw_A S) z 1 6 := by
  refine MetZ.ofW hz3 (cc := cX8_settings) (maxL := 5) (ret := (some .int)) (by decide) rfl ?_
  intro p e s m args below meth c s₁ B hml hv hex
  obtain ⟨rfl, hB, hTT⟩ := hv
  have hZ : mw_Z s (mw_A S) ([.ref h0, .int x1] : List Value).toArray c l := ⟨mw_nst hB, (hTT.at _).1, (hTT.at _).2.1, (hTT.at _).2.2, hex, htr⟩
  have hw := mw_begin hB
  have hx := B.exec
  have hb := B.bytes
  have hr := B.returns
  have hts : ∀ w ∈ lw_good, w.before _ s = true := fun w h => atoms_spec (ws := wsX8_settings) B.pre w (List.mem_cons_of_mem _ h)
  have hown : s.vm.findClass RX8 = some m.cls := findClass_of_methodNamed B.named
  have hlocks := B.notSynchronized
  have hC : mw_C p s m _ meth c cX8_settings RX8 (some .int) lw_good 5 := ⟨hx, hb, hml, hown, hts, hr, hlocks⟩
  have hl := lv_entry ([.ref h0, .int x1]) (n := 5) (Nat.le_of_ble_eq_true rfl)
  rw [lg_entry_eq]
  generalize (lg_sl ([.ref h0, .int x1]) ++ List.replicate (5 - (lg_sl ([.ref h0, .int x1])).length) Slot.unset).toArray = ls at hl ⊢
  have hl : lv_has ls 5 [(0, .ref h0), (1, .int x1)] := hl
  unfold pf_X8_settings at hf
  refine lv_aload_n hx hb dX8_settings_0 rfl (lv_at hl 0 rfl) ?_
  refine lv_iconst (v := 0) hx hb dX8_settings_1 (by decide) ?_
  refine lv_aload_n hx hb dX8_settings_2 rfl (lv_at hl 0 rfl) ?_
  obtain ⟨v1, e1, hf⟩ := mw_b hf
  refine mw_getr hx hb hts inX8 hown hw (ci := 8) rfl 1 (by decide) (hts _ tw_195) rfl e1 dX8_settings_3 ?_
  obtain ⟨v2, S2, e2, hf⟩ := mw_bb hf
  obtain ⟨ho, e2⟩ := mw_v_s e2
  refine mw_calli (va_runV (As := []) (rest := [.int 0, .ref h0]) ⟨hx, hb, hml, hown, hts⟩ (cm_X7_length l D G N S v1 (v2, S2) e2) (cwV 0 hts (mw_gV tw_438 tw_308 tw_309 tw_3 tw_310) rfl rfl rfl (by decide +kernel) ⟨Nat.le_of_ble_eq_true rfl, Nat.le_of_ble_eq_true rfl⟩) (mw_preV hw (ci := 7) rfl ho) rfl rfl hl.1 rfl (lv_room (Nat.le_of_ble_eq_true rfl)) dX8_settings_6 ⟨(Nat.le_of_ble_eq_true rfl), (Nat.le_of_ble_eq_true rfl)⟩) hw (fun H locs hw => ?_)
  obtain ⟨v3, S3, e3, hf⟩ := mw_bb hf
  obtain ⟨ho, e3⟩ := mw_v_s e3
  refine mw_calli (va_runV (As := [.int 0, .int v2]) (rest := []) ⟨hx, hb, hml, hown, hts⟩ (cm_X8_countItems l D G N S2 h0 0 v2 (v3, S3) e3) (cwV 2 hts (mw_gV tw_453 tw_455 tp_10 tw_1 tw_456) rfl rfl rfl (by decide +kernel) ⟨Nat.le_of_ble_eq_true rfl, Nat.le_of_ble_eq_true rfl⟩) (mw_preV hw (ci := 8) rfl ho) rfl rfl hl.1 rfl (lv_room (Nat.le_of_ble_eq_true rfl)) dX8_settings_9 ⟨(Nat.le_of_ble_eq_true rfl), (Nat.le_of_ble_eq_true rfl)⟩) hw (fun H locs hw => ?_)
  refine lv_istore_n hx hb dX8_settings_12 rfl hl (by decide) rfl (fun ls hl => ?_)
  have hl : lv_has ls 5 [(2, .int v3), (0, .ref h0), (1, .int x1)] := hl
  refine lv_aload_n hx hb dX8_settings_13 rfl (lv_at hl 1 rfl) ?_
  refine lv_iload_n hx hb dX8_settings_14 rfl (lv_at hl 2 rfl) ?_
  obtain ⟨v4, S4, e4, hf⟩ := mw_bb hf
  obtain ⟨ho, e4⟩ := mw_v_s e4
  refine mw_calli (va_runV (As := [.int x1]) (rest := []) ⟨hx, hb, hml, hown, hts⟩ (cm_X8_isRecording l D G N S3 h0 x1 (v4, S4) e4) (cwV 1 hts (mw_gV tw_449 tw_451 tp_9 tw_1 tw_452) rfl rfl rfl (by decide +kernel) ⟨Nat.le_of_ble_eq_true rfl, Nat.le_of_ble_eq_true rfl⟩) (mw_preV hw (ci := 8) rfl ho) rfl rfl hl.1 rfl (lv_room (Nat.le_of_ble_eq_true rfl)) dX8_settings_15 ⟨(Nat.le_of_ble_eq_true rfl), (Nat.le_of_ble_eq_true rfl)⟩) hw (fun H locs hw => ?_)
  refine lv_if_eq hx hb dX8_settings_18 (tgt := 30) (by decide) (fun hc => ?_) (fun hc => ?_)
  · rw [if_pos hc] at hf
    exact bX8_settings_30 hZ ⟨hx, hb, hml, hown, hts, hr, hlocks⟩ D G N _ _ _ _ _ _ _ hf (lv_sub hl [1, 2, 0] rfl) hw
  · rw [if_neg hc] at hf
    refine lv_iload_n hx hb dX8_settings_21 rfl (lv_at hl 0 rfl) ?_
    refine lv_iconst (v := (-1)) hx hb dX8_settings_22 (by decide) ?_
    refine lv_icmp_eq hx hb dX8_settings_23 (tgt := 30) (by decide) (fun hc => ?_) (fun hc => ?_)
    · rw [if_pos hc] at hf
      exact bX8_settings_30 hZ ⟨hx, hb, hml, hown, hts, hr, hlocks⟩ D G N _ _ _ _ _ _ _ hf (lv_sub hl [1, 2, 0] rfl) hw
    · rw [if_neg hc] at hf
      refine lv_iconst (v := 1) hx hb dX8_settings_26 (by decide) ?_
      refine lv_goto hx hb dX8_settings_27 (tgt := 31) (by decide) ?_
      exact bX8_settings_31 hZ ⟨hx, hb, hml, hown, hts, hr, hlocks⟩ D G N _ _ _ _ _ _ _ _ hf (lv_sub hl [1, 2, 0] rfl) hw
abbrev rmX8_start : Room := { frames := 6, cells := 1, slots := 6, locals := 109 }
abbrev wsX8_start : List Cond := Cond.code yX8_start cX8_start 3 (some .int) :: lw_good
set_option maxHeartbeats 4000000 in
set_option maxRecDepth 100000 in
theorem cm_X8_start (l : Launch) (D : va_G) (G : Nat → ClassId) (N : Nat) (S : mw_M) (h0 : Nat) (x1 : Int32) (z : Nat × Int32 × mw_M) (hf : pf_X8_start G N S h0 x1 = some z) (hz3 : z.1 ≤ 2) (htr : l.stackTraces = false) : MetZ l yX8_start wsX8_start rmX8_start (va_Pc [.ref h0, .int x1] (fun U => mw_B D vwCl (mw_tys G) mw_aos S U ∧ mw_T U)) D vwCl (mw_tys G) mw_aos (mw_A S) z 1 6 := by
  refine MetZ.ofW hz3 (cc := cX8_start) (maxL := 3) (ret := (some .int)) (by decide) rfl ?_
  intro p e s m args below meth c s₁ B hml hv hex
  obtain ⟨rfl, hB, hTT⟩ := hv
  have hZ : mw_Z s (mw_A S) ([.ref h0, .int x1] : List Value).toArray c l := ⟨mw_nst hB, (hTT.at _).1, (hTT.at _).2.1, (hTT.at _).2.2, hex, htr⟩
  have hw := mw_begin hB
  have hx := B.exec
  have hb := B.bytes
  have hr := B.returns
  have hts : ∀ w ∈ lw_good, w.before _ s = true := fun w h => atoms_spec (ws := wsX8_start) B.pre w (List.mem_cons_of_mem _ h)
  have hown : s.vm.findClass RX8 = some m.cls := findClass_of_methodNamed B.named
  have hlocks := B.notSynchronized
  have hC : mw_C p s m _ meth c cX8_start RX8 (some .int) lw_good 3 := ⟨hx, hb, hml, hown, hts, hr, hlocks⟩
  have hl := lv_entry ([.ref h0, .int x1]) (n := 3) (Nat.le_of_ble_eq_true rfl)
  rw [lg_entry_eq]
  generalize (lg_sl ([.ref h0, .int x1]) ++ List.replicate (3 - (lg_sl ([.ref h0, .int x1])).length) Slot.unset).toArray = ls at hl ⊢
  have hl : lv_has ls 3 [(0, .ref h0), (1, .int x1)] := hl
  unfold pf_X8_start at hf
  refine lv_aload_n hx hb dX8_start_0 rfl (lv_at hl 0 rfl) ?_
  refine lv_iload_n hx hb dX8_start_1 rfl (lv_at hl 1 rfl) ?_
  obtain ⟨v1, S1, e1, hf⟩ := mw_bb hf
  obtain ⟨ho, e1⟩ := mw_v_s e1
  refine mw_calli (va_runV (As := [.int x1]) (rest := []) ⟨hx, hb, hml, hown, hts⟩ (cm_X8_isRecording l D G N S h0 x1 (v1, S1) e1) (cwV 1 hts (mw_gV tw_449 tw_451 tp_9 tw_1 tw_452) rfl rfl rfl (by decide +kernel) ⟨Nat.le_of_ble_eq_true rfl, Nat.le_of_ble_eq_true rfl⟩) (mw_preV hw (ci := 8) rfl ho) rfl rfl hl.1 rfl (lv_room (Nat.le_of_ble_eq_true rfl)) dX8_start_2 ⟨(Nat.le_of_ble_eq_true rfl), (Nat.le_of_ble_eq_true rfl)⟩) hw (fun H locs hw => ?_)
  refine lv_if_ne hx hb dX8_start_5 (tgt := 18) (by decide) (fun hc => ?_) (fun hc => ?_)
  · rw [if_pos hc] at hf
    refine lv_aload_n hx hb dX8_start_18 rfl (lv_at hl 0 rfl) ?_
    obtain ⟨v2, e2, hf⟩ := mw_b hf
    refine mw_getr hx hb hts inX8 hown hw (ci := 8) rfl 7 (by decide) (hts _ tw_201) rfl e2 dX8_start_19 ?_
    refine lv_iload_n hx hb dX8_start_22 rfl (lv_at hl 1 rfl) ?_
    obtain ⟨v3, e3, hf⟩ := mw_b hf
    refine mw_aald hx hb hw 5 rfl e3 dX8_start_23 ?_
    refine lv_iconst (v := 0) hx hb dX8_start_24 (by decide) ?_
    obtain ⟨v4, S4, e4, hf⟩ := mw_bb hf
    obtain ⟨ho, e4⟩ := mw_v_s e4
    refine mw_calli (va_runV (As := [.int 0]) (rest := []) ⟨hx, hb, hml, hown, hts⟩ (cm_X5_is l D G N S1 v3 0 (v4, S4) e4) (cwV 1 hts (mw_gV tw_284 tw_285 tw_286 tw_7 tw_287) rfl rfl rfl (by decide +kernel) ⟨Nat.le_of_ble_eq_true rfl, Nat.le_of_ble_eq_true rfl⟩) (mw_preV hw (ci := 5) rfl ho) rfl rfl hl.1 rfl (lv_room (Nat.le_of_ble_eq_true rfl)) dX8_start_25 ⟨(Nat.le_of_ble_eq_true rfl), (Nat.le_of_ble_eq_true rfl)⟩) hw (fun H locs hw => ?_)
    refine lv_if_ne hx hb dX8_start_28 (tgt := 41) (by decide) (fun hc => ?_) (fun hc => ?_)
    · rw [if_pos hc] at hf
      refine lv_aload_n hx hb dX8_start_41 rfl (lv_at hl 0 rfl) ?_
      obtain ⟨S5, e5, hf⟩ := mw_b hf
      obtain ⟨ho, e5⟩ := mw_v_s e5
      refine mw_callv (va_runV (As := []) (rest := []) ⟨hx, hb, hml, hown, hts⟩ (cm_X8_rotate l D G N S4 h0 S5 e5) (cwV 0 hts (mw_gV tw_403 tw_405 tp_6 tw_1 tw_406) rfl rfl rfl (by decide +kernel) ⟨Nat.le_of_ble_eq_true rfl, Nat.le_of_ble_eq_true rfl⟩) (mw_preV hw (ci := 8) rfl ho) rfl rfl hl.1 rfl (lv_room (Nat.le_of_ble_eq_true rfl)) dX8_start_42 ⟨(Nat.le_of_ble_eq_true rfl), (Nat.le_of_ble_eq_true rfl)⟩) hw (fun H locs hw => ?_)
      refine lv_aload_n hx hb dX8_start_45 rfl (lv_at hl 0 rfl) ?_
      obtain ⟨v6, e6, hf⟩ := mw_b hf
      refine mw_getr hx hb hts inX8 hown hw (ci := 8) rfl 10 (by decide) (hts _ tw_204) rfl e6 dX8_start_46 ?_
      obtain ⟨v7, S7, e7, hf⟩ := mw_bb hf
      obtain ⟨ho, e7⟩ := mw_v_s e7
      refine mw_callr (va_runV (As := []) (rest := []) ⟨hx, hb, hml, hown, hts⟩ (cm_X2_open l D G N S5 v6 (v7, S7) e7) (cwV 0 hts (mw_gV tw_370 tw_371 tw_372 tw_9 tw_373) rfl rfl rfl (by decide +kernel) ⟨Nat.le_of_ble_eq_true rfl, Nat.le_of_ble_eq_true rfl⟩) (mw_preV hw (ci := 2) rfl ho) rfl rfl hl.1 rfl (lv_room (Nat.le_of_ble_eq_true rfl)) dX8_start_49 ⟨(Nat.le_of_ble_eq_true rfl), (Nat.le_of_ble_eq_true rfl)⟩) hw (fun H locs hw => ?_)
      obtain ⟨v8, S8, e8, hf⟩ := mw_bb hf
      obtain ⟨ho, e8⟩ := mw_v_s e8
      refine mw_calli (va_runV (As := []) (rest := []) ⟨hx, hb, hml, hown, hts⟩ (cm_X1_number l D G N S7 v7 (v8, S8) e8) (cwV 0 hts (mw_gV tw_509 tw_425 tw_426 tw_10 tw_427) rfl rfl rfl (by decide +kernel) ⟨Nat.le_of_ble_eq_true rfl, Nat.le_of_ble_eq_true rfl⟩) (mw_preV hw (ci := 1) rfl ho) rfl rfl hl.1 rfl (lv_room (Nat.le_of_ble_eq_true rfl)) dX8_start_52 ⟨(Nat.le_of_ble_eq_true rfl), (Nat.le_of_ble_eq_true rfl)⟩) hw (fun H locs hw => ?_)
      refine lv_istore_n hx hb dX8_start_55 rfl hl (by decide) rfl (fun ls hl => ?_)
      have hl : lv_has ls 3 [(2, .int v8), (0, .ref h0), (1, .int x1)] := hl
      refine lv_aload_n hx hb dX8_start_56 rfl (lv_at hl 1 rfl) ?_
      obtain ⟨v9, e9, hf⟩ := mw_b hf
      refine mw_getr hx hb hts inX8 hown hw (ci := 8) rfl 7 (by decide) (hts _ tw_201) rfl e9 dX8_start_57 ?_
      refine lv_iload_n hx hb dX8_start_60 rfl (lv_at hl 2 rfl) ?_
      obtain ⟨v10, e10, hf⟩ := mw_b hf
      refine mw_aald hx hb hw 5 rfl e10 dX8_start_61 ?_
      refine lv_iload_n hx hb dX8_start_62 rfl (lv_at hl 0 rfl) ?_
      obtain ⟨S11, e11, hf⟩ := mw_b hf
      obtain ⟨ho, e11⟩ := mw_v_s e11
      refine mw_callv (va_runV (As := [.int v8]) (rest := []) ⟨hx, hb, hml, hown, hts⟩ (cm_X5_runFrom l D G N S8 v10 v8 S11 e11) (cwV 1 hts (mw_gV tw_650 tw_651 tw_652 tw_7 tw_653) rfl rfl rfl (by decide +kernel) ⟨Nat.le_of_ble_eq_true rfl, Nat.le_of_ble_eq_true rfl⟩) (mw_preV hw (ci := 5) rfl ho) rfl rfl hl.1 rfl (lv_room (Nat.le_of_ble_eq_true rfl)) dX8_start_63 ⟨(Nat.le_of_ble_eq_true rfl), (Nat.le_of_ble_eq_true rfl)⟩) hw (fun H locs hw => ?_)
      refine lv_iload_n hx hb dX8_start_66 rfl (lv_at hl 0 rfl) ?_
      refine W.widen (k := 1) (n := 6) (Nat.le_of_ble_eq_true rfl) (Nat.le_of_ble_eq_true rfl) ?_
      exact mw_irett hx hb hr hlocks hw hf dX8_start_67
    · rw [if_neg (fun q => q hc)] at hf
      exact mw_thS hx hb hown hZ (hts _ tw_608) (hts _ tw_16) (si := 179) (txt := "the recording is not new") (by decide) hlocks (hl.1.trans hml.symm) hw (Nat.le_of_ble_eq_true rfl) (Nat.le_of_ble_eq_true rfl) (Nat.le_of_ble_eq_true rfl) (Nat.le_of_ble_eq_true rfl) hf dX8_start_31 dX8_start_34 dX8_start_35 dX8_start_37 dX8_start_40
  · rw [if_neg (fun q => q hc)] at hf
    exact mw_thA hx hb hown hZ (hts _ tw_542) (hts _ tw_15) (si := 177) (txt := "no such recording") (by decide) hlocks (hl.1.trans hml.symm) hw (Nat.le_of_ble_eq_true rfl) (Nat.le_of_ble_eq_true rfl) (Nat.le_of_ble_eq_true rfl) (Nat.le_of_ble_eq_true rfl) hf dX8_start_8 dX8_start_11 dX8_start_12 dX8_start_14 dX8_start_17
abbrev rmX8_stop : Room := { frames := 6, cells := 1, slots := 6, locals := 131 }
abbrev wsX8_stop : List Cond := Cond.code yX8_stop cX8_stop 2 (some .int) :: lw_good
set_option maxHeartbeats 4000000 in
set_option maxRecDepth 100000 in
theorem cm_X8_stop (l : Launch) (D : va_G) (G : Nat → ClassId) (N : Nat) (S : mw_M) (h0 : Nat) (x1 : Int32) (z : Nat × Int32 × mw_M) (hf : pf_X8_stop G N S h0 x1 = some z) (hz3 : z.1 ≤ 2) (htr : l.stackTraces = false) : MetZ l yX8_stop wsX8_stop rmX8_stop (va_Pc [.ref h0, .int x1] (fun U => mw_B D vwCl (mw_tys G) mw_aos S U ∧ mw_T U)) D vwCl (mw_tys G) mw_aos (mw_A S) z 1 6 := by
  refine MetZ.ofW hz3 (cc := cX8_stop) (maxL := 2) (ret := (some .int)) (by decide) rfl ?_
  intro p e s m args below meth c s₁ B hml hv hex
  obtain ⟨rfl, hB, hTT⟩ := hv
  have hZ : mw_Z s (mw_A S) ([.ref h0, .int x1] : List Value).toArray c l := ⟨mw_nst hB, (hTT.at _).1, (hTT.at _).2.1, (hTT.at _).2.2, hex, htr⟩
  have hw := mw_begin hB
  have hx := B.exec
  have hb := B.bytes
  have hr := B.returns
  have hts : ∀ w ∈ lw_good, w.before _ s = true := fun w h => atoms_spec (ws := wsX8_stop) B.pre w (List.mem_cons_of_mem _ h)
  have hown : s.vm.findClass RX8 = some m.cls := findClass_of_methodNamed B.named
  have hlocks := B.notSynchronized
  have hC : mw_C p s m _ meth c cX8_stop RX8 (some .int) lw_good 2 := ⟨hx, hb, hml, hown, hts, hr, hlocks⟩
  have hl := lv_entry ([.ref h0, .int x1]) (n := 2) (Nat.le_of_ble_eq_true rfl)
  rw [lg_entry_eq]
  generalize (lg_sl ([.ref h0, .int x1]) ++ List.replicate (2 - (lg_sl ([.ref h0, .int x1])).length) Slot.unset).toArray = ls at hl ⊢
  have hl : lv_has ls 2 [(0, .ref h0), (1, .int x1)] := hl
  unfold pf_X8_stop at hf
  refine lv_aload_n hx hb dX8_stop_0 rfl (lv_at hl 0 rfl) ?_
  refine lv_iload_n hx hb dX8_stop_1 rfl (lv_at hl 1 rfl) ?_
  obtain ⟨v1, S1, e1, hf⟩ := mw_bb hf
  obtain ⟨ho, e1⟩ := mw_v_s e1
  refine mw_calli (va_runV (As := [.int x1]) (rest := []) ⟨hx, hb, hml, hown, hts⟩ (cm_X8_isRecording l D G N S h0 x1 (v1, S1) e1) (cwV 1 hts (mw_gV tw_449 tw_451 tp_9 tw_1 tw_452) rfl rfl rfl (by decide +kernel) ⟨Nat.le_of_ble_eq_true rfl, Nat.le_of_ble_eq_true rfl⟩) (mw_preV hw (ci := 8) rfl ho) rfl rfl hl.1 rfl (lv_room (Nat.le_of_ble_eq_true rfl)) dX8_stop_2 ⟨(Nat.le_of_ble_eq_true rfl), (Nat.le_of_ble_eq_true rfl)⟩) hw (fun H locs hw => ?_)
  refine lv_if_ne hx hb dX8_stop_5 (tgt := 18) (by decide) (fun hc => ?_) (fun hc => ?_)
  · rw [if_pos hc] at hf
    refine lv_aload_n hx hb dX8_stop_18 rfl (lv_at hl 0 rfl) ?_
    obtain ⟨v2, e2, hf⟩ := mw_b hf
    refine mw_getr hx hb hts inX8 hown hw (ci := 8) rfl 7 (by decide) (hts _ tw_201) rfl e2 dX8_stop_19 ?_
    refine lv_iload_n hx hb dX8_stop_22 rfl (lv_at hl 1 rfl) ?_
    obtain ⟨v3, e3, hf⟩ := mw_b hf
    refine mw_aald hx hb hw 5 rfl e3 dX8_stop_23 ?_
    refine lv_iconst (v := 1) hx hb dX8_stop_24 (by decide) ?_
    obtain ⟨v4, S4, e4, hf⟩ := mw_bb hf
    obtain ⟨ho, e4⟩ := mw_v_s e4
    refine mw_calli (va_runV (As := [.int 1]) (rest := []) ⟨hx, hb, hml, hown, hts⟩ (cm_X5_is l D G N S1 v3 1 (v4, S4) e4) (cwV 1 hts (mw_gV tw_284 tw_285 tw_286 tw_7 tw_287) rfl rfl rfl (by decide +kernel) ⟨Nat.le_of_ble_eq_true rfl, Nat.le_of_ble_eq_true rfl⟩) (mw_preV hw (ci := 5) rfl ho) rfl rfl hl.1 rfl (lv_room (Nat.le_of_ble_eq_true rfl)) dX8_stop_25 ⟨(Nat.le_of_ble_eq_true rfl), (Nat.le_of_ble_eq_true rfl)⟩) hw (fun H locs hw => ?_)
    refine lv_if_ne hx hb dX8_stop_28 (tgt := 41) (by decide) (fun hc => ?_) (fun hc => ?_)
    · rw [if_pos hc] at hf
      refine lv_aload_n hx hb dX8_stop_41 rfl (lv_at hl 0 rfl) ?_
      refine lv_aload_n hx hb dX8_stop_42 rfl (lv_at hl 0 rfl) ?_
      obtain ⟨v5, e5, hf⟩ := mw_b hf
      refine mw_getr hx hb hts inX8 hown hw (ci := 8) rfl 7 (by decide) (hts _ tw_201) rfl e5 dX8_stop_43 ?_
      refine lv_iload_n hx hb dX8_stop_46 rfl (lv_at hl 1 rfl) ?_
      obtain ⟨v6, e6, hf⟩ := mw_b hf
      refine mw_aald hx hb hw 5 rfl e6 dX8_stop_47 ?_
      obtain ⟨v7, S7, e7, hf⟩ := mw_bb hf
      obtain ⟨ho, e7⟩ := mw_v_s e7
      refine mw_calli (va_runV (As := [.ref v6]) (rest := []) ⟨hx, hb, hml, hown, hts⟩ (cm_X8_endRecording l D G N S4 h0 v6 (v7, S7) e7) (cwV 1 hts (mw_gV tw_662 tw_664 tp_15 tw_1 tw_665) rfl rfl rfl (by decide +kernel) ⟨Nat.le_of_ble_eq_true rfl, Nat.le_of_ble_eq_true rfl⟩) (mw_preV hw (ci := 8) rfl ho) rfl rfl hl.1 rfl (lv_room (Nat.le_of_ble_eq_true rfl)) dX8_stop_48 ⟨(Nat.le_of_ble_eq_true rfl), (Nat.le_of_ble_eq_true rfl)⟩) hw (fun H locs hw => ?_)
      refine W.widen (k := 1) (n := 6) (Nat.le_of_ble_eq_true rfl) (Nat.le_of_ble_eq_true rfl) ?_
      exact mw_irett hx hb hr hlocks hw hf dX8_stop_51
    · rw [if_neg (fun q => q hc)] at hf
      exact mw_thS hx hb hown hZ (hts _ tw_608) (hts _ tw_16) (si := 187) (txt := "the recording does not run") (by decide) hlocks (hl.1.trans hml.symm) hw (Nat.le_of_ble_eq_true rfl) (Nat.le_of_ble_eq_true rfl) (Nat.le_of_ble_eq_true rfl) (Nat.le_of_ble_eq_true rfl) hf dX8_stop_31 dX8_stop_34 dX8_stop_35 dX8_stop_37 dX8_stop_40
  · rw [if_neg (fun q => q hc)] at hf
    exact mw_thA hx hb hown hZ (hts _ tw_542) (hts _ tw_15) (si := 177) (txt := "no such recording") (by decide) hlocks (hl.1.trans hml.symm) hw (Nat.le_of_ble_eq_true rfl) (Nat.le_of_ble_eq_true rfl) (Nat.le_of_ble_eq_true rfl) (Nat.le_of_ble_eq_true rfl) hf dX8_stop_8 dX8_stop_11 dX8_stop_12 dX8_stop_14 dX8_stop_17
abbrev rmX8_close : Room := { frames := 6, cells := 1, slots := 6, locals := 131 }
abbrev wsX8_close : List Cond := Cond.code yX8_close cX8_close 4 (some .boolean) :: lw_good
set_option maxHeartbeats 4000000 in
set_option maxRecDepth 100000 in
theorem bX8_close_59 {p : Program} {l : Launch} {e : Env} {s : State} {m : MethodId} {args : Array Value} {below : List Frame} {meth : Method} {c : Code} {A : Nat → Prop} (hZ : mw_Z s A args c l) (hC : mw_C p s m args meth c cX8_close RX8 (some .boolean) lw_good 4) (D : va_G) (G : Nat → ClassId) (N : Nat) {z : Nat × Int32 × mw_M} : ∀ (y2 : Nat) (y3 : Int32) (S : mw_M) (H : Heap) (locs : List Loc) (ls : Array Slot), pf_X8_close_59 G N y2 y3 S = some z → lv_has ls 4 [(2, .ref y2), (3, .int y3)] → mw_W D vwCl (mw_tys G) mw_aos A s S H locs → W p l e (headSpec wsX8_close rmX8_close).room s m args below meth c H locs 0 0 (MZ below D vwCl (mw_tys G) mw_aos A z args s 1 6) (F0 m 59 ls []) := by
  obtain ⟨hx, hb, hml, hown, hts, hr, hlocks⟩ := hC
  intro y2 y3 S H locs ls hf hl hw
  unfold pf_X8_close_59 at hf
  refine lv_aload_n hx hb dX8_close_59 rfl (lv_at hl 0 rfl) ?_
  obtain ⟨S1, e1, hf⟩ := mw_b hf
  obtain ⟨ho, e1⟩ := mw_v_s e1
  refine mw_callv (va_runV (As := []) (rest := []) ⟨hx, hb, hml, hown, hts⟩ (cm_X5_shut l D G N S y2 S1 e1) (cwV 0 hts (mw_gV tw_678 tw_679 tw_680 tw_7 tw_681) rfl rfl rfl (by decide +kernel) ⟨Nat.le_of_ble_eq_true rfl, Nat.le_of_ble_eq_true rfl⟩) (mw_preV hw (ci := 5) rfl ho) rfl rfl hl.1 rfl (lv_room (Nat.le_of_ble_eq_true rfl)) dX8_close_60 ⟨(Nat.le_of_ble_eq_true rfl), (Nat.le_of_ble_eq_true rfl)⟩) hw (fun H locs hw => ?_)
  refine lv_iload_n hx hb dX8_close_63 rfl (lv_at hl 1 rfl) ?_
  refine W.widen (k := 1) (n := 6) (Nat.le_of_ble_eq_true rfl) (Nat.le_of_ble_eq_true rfl) ?_
  exact mw_zrett hx hb hr hlocks hw rfl hf dX8_close_64
set_option maxHeartbeats 4000000 in
set_option maxRecDepth 100000 in
theorem cm_X8_close (l : Launch) (D : va_G) (G : Nat → ClassId) (N : Nat) (S : mw_M) (h0 : Nat) (x1 : Int32) (z : Nat × Int32 × mw_M) (hf : pf_X8_close G N S h0 x1 = some z) (hz3 : z.1 ≤ 2) (htr : l.stackTraces = false) : MetZ l yX8_close wsX8_close rmX8_close (va_Pc [.ref h0, .int x1] (fun U => mw_B D vwCl (mw_tys G) mw_aos S U ∧ mw_T U)) D vwCl (mw_tys G) mw_aos (mw_A S) z 1 6 := by
  refine MetZ.ofW hz3 (cc := cX8_close) (maxL := 4) (ret := (some .boolean)) (by decide) rfl ?_
  intro p e s m args below meth c s₁ B hml hv hex
  obtain ⟨rfl, hB, hTT⟩ := hv
  have hZ : mw_Z s (mw_A S) ([.ref h0, .int x1] : List Value).toArray c l := ⟨mw_nst hB, (hTT.at _).1, (hTT.at _).2.1, (hTT.at _).2.2, hex, htr⟩
  have hw := mw_begin hB
  have hx := B.exec
  have hb := B.bytes
  have hr := B.returns
  have hts : ∀ w ∈ lw_good, w.before _ s = true := fun w h => atoms_spec (ws := wsX8_close) B.pre w (List.mem_cons_of_mem _ h)
  have hown : s.vm.findClass RX8 = some m.cls := findClass_of_methodNamed B.named
  have hlocks := B.notSynchronized
  have hC : mw_C p s m _ meth c cX8_close RX8 (some .boolean) lw_good 4 := ⟨hx, hb, hml, hown, hts, hr, hlocks⟩
  have hl := lv_entry ([.ref h0, .int x1]) (n := 4) (Nat.le_of_ble_eq_true rfl)
  rw [lg_entry_eq]
  generalize (lg_sl ([.ref h0, .int x1]) ++ List.replicate (4 - (lg_sl ([.ref h0, .int x1])).length) Slot.unset).toArray = ls at hl ⊢
  have hl : lv_has ls 4 [(0, .ref h0), (1, .int x1)] := hl
  unfold pf_X8_close at hf
  refine lv_aload_n hx hb dX8_close_0 rfl (lv_at hl 0 rfl) ?_
  refine lv_iload_n hx hb dX8_close_1 rfl (lv_at hl 1 rfl) ?_
  obtain ⟨v1, S1, e1, hf⟩ := mw_bb hf
  obtain ⟨ho, e1⟩ := mw_v_s e1
  refine mw_calli (va_runV (As := [.int x1]) (rest := []) ⟨hx, hb, hml, hown, hts⟩ (cm_X8_isRecording l D G N S h0 x1 (v1, S1) e1) (cwV 1 hts (mw_gV tw_449 tw_451 tp_9 tw_1 tw_452) rfl rfl rfl (by decide +kernel) ⟨Nat.le_of_ble_eq_true rfl, Nat.le_of_ble_eq_true rfl⟩) (mw_preV hw (ci := 8) rfl ho) rfl rfl hl.1 rfl (lv_room (Nat.le_of_ble_eq_true rfl)) dX8_close_2 ⟨(Nat.le_of_ble_eq_true rfl), (Nat.le_of_ble_eq_true rfl)⟩) hw (fun H locs hw => ?_)
  refine lv_if_ne hx hb dX8_close_5 (tgt := 18) (by decide) (fun hc => ?_) (fun hc => ?_)
  · rw [if_pos hc] at hf
    refine lv_aload_n hx hb dX8_close_18 rfl (lv_at hl 0 rfl) ?_
    obtain ⟨v2, e2, hf⟩ := mw_b hf
    refine mw_getr hx hb hts inX8 hown hw (ci := 8) rfl 7 (by decide) (hts _ tw_201) rfl e2 dX8_close_19 ?_
    refine lv_iload_n hx hb dX8_close_22 rfl (lv_at hl 1 rfl) ?_
    obtain ⟨v3, e3, hf⟩ := mw_b hf
    refine mw_aald hx hb hw 5 rfl e3 dX8_close_23 ?_
    refine lv_astore_n hx hb dX8_close_24 rfl hl (by decide) rfl (fun ls hl => ?_)
    have hl : lv_has ls 4 [(2, .ref v3), (0, .ref h0), (1, .int x1)] := hl
    refine lv_aload_n hx hb dX8_close_25 rfl (lv_at hl 0 rfl) ?_
    refine lv_iconst (v := 3) hx hb dX8_close_26 (by decide) ?_
    obtain ⟨v4, S4, e4, hf⟩ := mw_bb hf
    obtain ⟨ho, e4⟩ := mw_v_s e4
    refine mw_calli (va_runV (As := [.int 3]) (rest := []) ⟨hx, hb, hml, hown, hts⟩ (cm_X5_is l D G N S1 v3 3 (v4, S4) e4) (cwV 1 hts (mw_gV tw_284 tw_285 tw_286 tw_7 tw_287) rfl rfl rfl (by decide +kernel) ⟨Nat.le_of_ble_eq_true rfl, Nat.le_of_ble_eq_true rfl⟩) (mw_preV hw (ci := 5) rfl ho) rfl rfl hl.1 rfl (lv_room (Nat.le_of_ble_eq_true rfl)) dX8_close_27 ⟨(Nat.le_of_ble_eq_true rfl), (Nat.le_of_ble_eq_true rfl)⟩) hw (fun H locs hw => ?_)
    refine lv_if_eq hx hb dX8_close_30 (tgt := 43) (by decide) (fun hc => ?_) (fun hc => ?_)
    · rw [if_pos hc] at hf
      refine lv_aload_n hx hb dX8_close_43 rfl (lv_at hl 0 rfl) ?_
      refine lv_iconst (v := 1) hx hb dX8_close_44 (by decide) ?_
      obtain ⟨v5, S5, e5, hf⟩ := mw_bb hf
      obtain ⟨ho, e5⟩ := mw_v_s e5
      refine mw_calli (va_runV (As := [.int 1]) (rest := []) ⟨hx, hb, hml, hown, hts⟩ (cm_X5_is l D G N S4 v3 1 (v5, S5) e5) (cwV 1 hts (mw_gV tw_284 tw_285 tw_286 tw_7 tw_287) rfl rfl rfl (by decide +kernel) ⟨Nat.le_of_ble_eq_true rfl, Nat.le_of_ble_eq_true rfl⟩) (mw_preV hw (ci := 5) rfl ho) rfl rfl hl.1 rfl (lv_room (Nat.le_of_ble_eq_true rfl)) dX8_close_45 ⟨(Nat.le_of_ble_eq_true rfl), (Nat.le_of_ble_eq_true rfl)⟩) hw (fun H locs hw => ?_)
      refine lv_istore_n hx hb dX8_close_48 rfl hl (by decide) rfl (fun ls hl => ?_)
      have hl : lv_has ls 4 [(3, .int v5), (2, .ref v3), (0, .ref h0), (1, .int x1)] := hl
      refine lv_iload_n hx hb dX8_close_49 rfl (lv_at hl 0 rfl) ?_
      refine lv_if_eq hx hb dX8_close_50 (tgt := 59) (by decide) (fun hc => ?_) (fun hc => ?_)
      · rw [if_pos hc] at hf
        exact bX8_close_59 hZ ⟨hx, hb, hml, hown, hts, hr, hlocks⟩ D G N _ _ _ _ _ _ hf (lv_sub hl [1, 0] rfl) hw
      · rw [if_neg hc] at hf
        refine lv_aload_n hx hb dX8_close_53 rfl (lv_at hl 2 rfl) ?_
        refine lv_aload_n hx hb dX8_close_54 rfl (lv_at hl 1 rfl) ?_
        obtain ⟨v6, S6, e6, hf⟩ := mw_bb hf
        obtain ⟨ho, e6⟩ := mw_v_s e6
        refine mw_calli (va_runV (As := [.ref v3]) (rest := []) ⟨hx, hb, hml, hown, hts⟩ (cm_X8_endRecording l D G N S5 h0 v3 (v6, S6) e6) (cwV 1 hts (mw_gV tw_662 tw_664 tp_15 tw_1 tw_665) rfl rfl rfl (by decide +kernel) ⟨Nat.le_of_ble_eq_true rfl, Nat.le_of_ble_eq_true rfl⟩) (mw_preV hw (ci := 8) rfl ho) rfl rfl hl.1 rfl (lv_room (Nat.le_of_ble_eq_true rfl)) dX8_close_55 ⟨(Nat.le_of_ble_eq_true rfl), (Nat.le_of_ble_eq_true rfl)⟩) hw (fun H locs hw => ?_)
        refine lv_pop hx hb dX8_close_58 rfl ?_
        exact bX8_close_59 hZ ⟨hx, hb, hml, hown, hts, hr, hlocks⟩ D G N _ _ _ _ _ _ hf (lv_sub hl [1, 0] rfl) hw
    · rw [if_neg hc] at hf
      exact mw_thS hx hb hown hZ (hts _ tw_608) (hts _ tw_16) (si := 193) (txt := "the recording is closed already") (by decide) hlocks (hl.1.trans hml.symm) hw (Nat.le_of_ble_eq_true rfl) (Nat.le_of_ble_eq_true rfl) (Nat.le_of_ble_eq_true rfl) (Nat.le_of_ble_eq_true rfl) hf dX8_close_33 dX8_close_36 dX8_close_37 dX8_close_39 dX8_close_42
  · rw [if_neg (fun q => q hc)] at hf
    exact mw_thA hx hb hown hZ (hts _ tw_542) (hts _ tw_15) (si := 177) (txt := "no such recording") (by decide) hlocks (hl.1.trans hml.symm) hw (Nat.le_of_ble_eq_true rfl) (Nat.le_of_ble_eq_true rfl) (Nat.le_of_ble_eq_true rfl) (Nat.le_of_ble_eq_true rfl) hf dX8_close_8 dX8_close_11 dX8_close_12 dX8_close_14 dX8_close_17
abbrev rmX8_dump : Room := { frames := 6, cells := 1, slots := 6, locals := 116 }
abbrev wsX8_dump : List Cond := Cond.code yX8_dump cX8_dump 3 (some .int) :: lw_good
set_option maxHeartbeats 4000000 in
set_option maxRecDepth 100000 in
theorem bX8_dump_41 {p : Program} {l : Launch} {e : Env} {s : State} {m : MethodId} {args : Array Value} {below : List Frame} {meth : Method} {c : Code} {A : Nat → Prop} (hZ : mw_Z s A args c l) (hC : mw_C p s m args meth c cX8_dump RX8 (some .int) lw_good 3) (D : va_G) (G : Nat → ClassId) (N : Nat) {z : Nat × Int32 × mw_M} : ∀ (S : mw_M) (H : Heap) (locs : List Loc) (ls : Array Slot), pf_X8_dump_41 G N S = some z → lv_has ls 3 [] → mw_W D vwCl (mw_tys G) mw_aos A s S H locs → W p l e (headSpec wsX8_dump rmX8_dump).room s m args below meth c H locs 0 0 (MZ below D vwCl (mw_tys G) mw_aos A z args s 1 6) (F0 m 41 ls []) := by
  obtain ⟨hx, hb, hml, hown, hts, hr, hlocks⟩ := hC
  intro S H locs ls hf hl hw
  unfold pf_X8_dump_41 at hf
  exact mw_thS hx hb hown hZ (hts _ tw_608) (hts _ tw_16) (si := 198) (txt := "the recording is new or closed") (by decide) hlocks (hl.1.trans hml.symm) hw (Nat.le_of_ble_eq_true rfl) (Nat.le_of_ble_eq_true rfl) (Nat.le_of_ble_eq_true rfl) (Nat.le_of_ble_eq_true rfl) hf dX8_dump_41 dX8_dump_44 dX8_dump_45 dX8_dump_47 dX8_dump_50
set_option maxHeartbeats 4000000 in
set_option maxRecDepth 100000 in
theorem bX8_dump_63 {p : Program} {l : Launch} {e : Env} {s : State} {m : MethodId} {args : Array Value} {below : List Frame} {meth : Method} {c : Code} {A : Nat → Prop} (hZ : mw_Z s A args c l) (hC : mw_C p s m args meth c cX8_dump RX8 (some .int) lw_good 3) (D : va_G) (G : Nat → ClassId) (N : Nat) {z : Nat × Int32 × mw_M} : ∀ (y0 : Nat) (y2 : Nat) (S : mw_M) (H : Heap) (locs : List Loc) (ls : Array Slot), pf_X8_dump_63 G N y0 y2 S = some z → lv_has ls 3 [(0, .ref y0), (2, .ref y2)] → mw_W D vwCl (mw_tys G) mw_aos A s S H locs → W p l e (headSpec wsX8_dump rmX8_dump).room s m args below meth c H locs 0 0 (MZ below D vwCl (mw_tys G) mw_aos A z args s 1 6) (F0 m 63 ls []) := by
  obtain ⟨hx, hb, hml, hown, hts, hr, hlocks⟩ := hC
  intro y0 y2 S H locs ls hf hl hw
  unfold pf_X8_dump_63 at hf
  refine lv_aload_n hx hb dX8_dump_63 rfl (lv_at hl 0 rfl) ?_
  obtain ⟨v1, e1, hf⟩ := mw_b hf
  refine mw_getr hx hb hts inX8 hown hw (ci := 8) rfl 12 (by decide) (hts _ tw_206) rfl e1 dX8_dump_64 ?_
  obtain ⟨S2, e2, hf⟩ := mw_b hf
  obtain ⟨ho, e2⟩ := mw_v_s e2
  refine mw_callv (va_runV (As := []) (rest := []) ⟨hx, hb, hml, hown, hts⟩ (cm_X0_clear l D G N S v1 S2 e2) (cwV 0 hts (mw_gV tw_320 tw_179 tw_180 tw_6 tw_181) rfl rfl rfl (by decide +kernel) ⟨Nat.le_of_ble_eq_true rfl, Nat.le_of_ble_eq_true rfl⟩) (mw_preV hw (ci := 0) rfl ho) rfl rfl hl.1 rfl (lv_room (Nat.le_of_ble_eq_true rfl)) dX8_dump_67 ⟨(Nat.le_of_ble_eq_true rfl), (Nat.le_of_ble_eq_true rfl)⟩) hw (fun H locs hw => ?_)
  refine lv_aload_n hx hb dX8_dump_70 rfl (lv_at hl 0 rfl) ?_
  obtain ⟨v3, e3, hf⟩ := mw_b hf
  refine mw_getr hx hb hts inX8 hown hw (ci := 8) rfl 10 (by decide) (hts _ tw_204) rfl e3 dX8_dump_71 ?_
  refine lv_aload_n hx hb dX8_dump_74 rfl (lv_at hl 0 rfl) ?_
  obtain ⟨v4, e4, hf⟩ := mw_b hf
  refine mw_getr hx hb hts inX8 hown hw (ci := 8) rfl 12 (by decide) (hts _ tw_206) rfl e4 dX8_dump_75 ?_
  refine lv_aload_n hx hb dX8_dump_78 rfl (lv_at hl 0 rfl) ?_
  obtain ⟨v5, e5, hf⟩ := mw_b hf
  refine mw_getr hx hb hts inX8 hown hw (ci := 8) rfl 2 (by decide) (hts _ tw_196) rfl e5 dX8_dump_79 ?_
  refine lv_aload_n hx hb dX8_dump_82 rfl (lv_at hl 1 rfl) ?_
  obtain ⟨v6, S6, e6, hf⟩ := mw_bb hf
  obtain ⟨ho, e6⟩ := mw_v_s e6
  refine mw_calli (va_runV (As := []) (rest := [.ref v5, .ref v4, .ref v3]) ⟨hx, hb, hml, hown, hts⟩ (cm_X5_firstChunk l D G N S2 y2 (v6, S6) e6) (cwV 0 hts (mw_gV tw_690 tw_691 tw_692 tw_7 tw_693) rfl rfl rfl (by decide +kernel) ⟨Nat.le_of_ble_eq_true rfl, Nat.le_of_ble_eq_true rfl⟩) (mw_preV hw (ci := 5) rfl ho) rfl rfl hl.1 rfl (lv_room (Nat.le_of_ble_eq_true rfl)) dX8_dump_83 ⟨(Nat.le_of_ble_eq_true rfl), (Nat.le_of_ble_eq_true rfl)⟩) hw (fun H locs hw => ?_)
  refine lv_aload_n hx hb dX8_dump_86 rfl (lv_at hl 1 rfl) ?_
  obtain ⟨v7, S7, e7, hf⟩ := mw_bb hf
  obtain ⟨ho, e7⟩ := mw_v_s e7
  refine mw_calli (va_runV (As := []) (rest := [.int v6, .ref v5, .ref v4, .ref v3]) ⟨hx, hb, hml, hown, hts⟩ (cm_X5_lastChunk l D G N S6 y2 (v7, S7) e7) (cwV 0 hts (mw_gV tw_694 tw_695 tw_696 tw_7 tw_697) rfl rfl rfl (by decide +kernel) ⟨Nat.le_of_ble_eq_true rfl, Nat.le_of_ble_eq_true rfl⟩) (mw_preV hw (ci := 5) rfl ho) rfl rfl hl.1 rfl (lv_room (Nat.le_of_ble_eq_true rfl)) dX8_dump_87 ⟨(Nat.le_of_ble_eq_true rfl), (Nat.le_of_ble_eq_true rfl)⟩) hw (fun H locs hw => ?_)
  obtain ⟨S8, e8, hf⟩ := mw_b hf
  obtain ⟨ho, e8⟩ := mw_v_s e8
  refine mw_callv (va_runV (As := [.ref v4, .ref v5, .int v6, .int v7]) (rest := []) ⟨hx, hb, hml, hown, hts⟩ (cm_X2_writeKept l D G N S7 v3 v4 v5 v6 v7 S8 e8) (cwV 4 hts (mw_gV tw_698 tw_699 tw_700 tw_9 tw_701) rfl rfl rfl (by decide +kernel) ⟨Nat.le_of_ble_eq_true rfl, Nat.le_of_ble_eq_true rfl⟩) (mw_preV hw (ci := 2) rfl ho) rfl rfl hl.1 rfl (lv_room (Nat.le_of_ble_eq_true rfl)) dX8_dump_90 ⟨(Nat.le_of_ble_eq_true rfl), (Nat.le_of_ble_eq_true rfl)⟩) hw (fun H locs hw => ?_)
  refine lv_aload_n hx hb dX8_dump_93 rfl (lv_at hl 0 rfl) ?_
  obtain ⟨v9, e9, hf⟩ := mw_b hf
  refine mw_getr hx hb hts inX8 hown hw (ci := 8) rfl 12 (by decide) (hts _ tw_206) rfl e9 dX8_dump_94 ?_
  obtain ⟨v10, S10, e10, hf⟩ := mw_bb hf
  obtain ⟨ho, e10⟩ := mw_v_s e10
  refine mw_calli (va_runV (As := []) (rest := []) ⟨hx, hb, hml, hown, hts⟩ (cm_X0_length l D G N S8 v9 (v10, S10) e10) (cwV 0 hts (mw_gV tw_343 tw_344 tw_345 tw_6 tw_346) rfl rfl rfl (by decide +kernel) ⟨Nat.le_of_ble_eq_true rfl, Nat.le_of_ble_eq_true rfl⟩) (mw_preV hw (ci := 0) rfl ho) rfl rfl hl.1 rfl (lv_room (Nat.le_of_ble_eq_true rfl)) dX8_dump_97 ⟨(Nat.le_of_ble_eq_true rfl), (Nat.le_of_ble_eq_true rfl)⟩) hw (fun H locs hw => ?_)
  refine W.widen (k := 1) (n := 6) (Nat.le_of_ble_eq_true rfl) (Nat.le_of_ble_eq_true rfl) ?_
  exact mw_irett hx hb hr hlocks hw hf dX8_dump_100
set_option maxHeartbeats 4000000 in
set_option maxRecDepth 100000 in
theorem cm_X8_dump (l : Launch) (D : va_G) (G : Nat → ClassId) (N : Nat) (S : mw_M) (h0 : Nat) (x1 : Int32) (z : Nat × Int32 × mw_M) (hf : pf_X8_dump G N S h0 x1 = some z) (hz3 : z.1 ≤ 2) (htr : l.stackTraces = false) : MetZ l yX8_dump wsX8_dump rmX8_dump (va_Pc [.ref h0, .int x1] (fun U => mw_B D vwCl (mw_tys G) mw_aos S U ∧ mw_T U)) D vwCl (mw_tys G) mw_aos (mw_A S) z 1 6 := by
  refine MetZ.ofW hz3 (cc := cX8_dump) (maxL := 3) (ret := (some .int)) (by decide) rfl ?_
  intro p e s m args below meth c s₁ B hml hv hex
  obtain ⟨rfl, hB, hTT⟩ := hv
  have hZ : mw_Z s (mw_A S) ([.ref h0, .int x1] : List Value).toArray c l := ⟨mw_nst hB, (hTT.at _).1, (hTT.at _).2.1, (hTT.at _).2.2, hex, htr⟩
  have hw := mw_begin hB
  have hx := B.exec
  have hb := B.bytes
  have hr := B.returns
  have hts : ∀ w ∈ lw_good, w.before _ s = true := fun w h => atoms_spec (ws := wsX8_dump) B.pre w (List.mem_cons_of_mem _ h)
  have hown : s.vm.findClass RX8 = some m.cls := findClass_of_methodNamed B.named
  have hlocks := B.notSynchronized
  have hC : mw_C p s m _ meth c cX8_dump RX8 (some .int) lw_good 3 := ⟨hx, hb, hml, hown, hts, hr, hlocks⟩
  have hl := lv_entry ([.ref h0, .int x1]) (n := 3) (Nat.le_of_ble_eq_true rfl)
  rw [lg_entry_eq]
  generalize (lg_sl ([.ref h0, .int x1]) ++ List.replicate (3 - (lg_sl ([.ref h0, .int x1])).length) Slot.unset).toArray = ls at hl ⊢
  have hl : lv_has ls 3 [(0, .ref h0), (1, .int x1)] := hl
  unfold pf_X8_dump at hf
  refine lv_aload_n hx hb dX8_dump_0 rfl (lv_at hl 0 rfl) ?_
  refine lv_iload_n hx hb dX8_dump_1 rfl (lv_at hl 1 rfl) ?_
  obtain ⟨v1, S1, e1, hf⟩ := mw_bb hf
  obtain ⟨ho, e1⟩ := mw_v_s e1
  refine mw_calli (va_runV (As := [.int x1]) (rest := []) ⟨hx, hb, hml, hown, hts⟩ (cm_X8_isRecording l D G N S h0 x1 (v1, S1) e1) (cwV 1 hts (mw_gV tw_449 tw_451 tp_9 tw_1 tw_452) rfl rfl rfl (by decide +kernel) ⟨Nat.le_of_ble_eq_true rfl, Nat.le_of_ble_eq_true rfl⟩) (mw_preV hw (ci := 8) rfl ho) rfl rfl hl.1 rfl (lv_room (Nat.le_of_ble_eq_true rfl)) dX8_dump_2 ⟨(Nat.le_of_ble_eq_true rfl), (Nat.le_of_ble_eq_true rfl)⟩) hw (fun H locs hw => ?_)
  refine lv_if_ne hx hb dX8_dump_5 (tgt := 18) (by decide) (fun hc => ?_) (fun hc => ?_)
  · rw [if_pos hc] at hf
    refine lv_aload_n hx hb dX8_dump_18 rfl (lv_at hl 0 rfl) ?_
    obtain ⟨v2, e2, hf⟩ := mw_b hf
    refine mw_getr hx hb hts inX8 hown hw (ci := 8) rfl 7 (by decide) (hts _ tw_201) rfl e2 dX8_dump_19 ?_
    refine lv_iload_n hx hb dX8_dump_22 rfl (lv_at hl 1 rfl) ?_
    obtain ⟨v3, e3, hf⟩ := mw_b hf
    refine mw_aald hx hb hw 5 rfl e3 dX8_dump_23 ?_
    refine lv_astore_n hx hb dX8_dump_24 rfl hl (by decide) rfl (fun ls hl => ?_)
    have hl : lv_has ls 3 [(2, .ref v3), (0, .ref h0), (1, .int x1)] := hl
    refine lv_aload_n hx hb dX8_dump_25 rfl (lv_at hl 0 rfl) ?_
    refine lv_iconst (v := 0) hx hb dX8_dump_26 (by decide) ?_
    obtain ⟨v4, S4, e4, hf⟩ := mw_bb hf
    obtain ⟨ho, e4⟩ := mw_v_s e4
    refine mw_calli (va_runV (As := [.int 0]) (rest := []) ⟨hx, hb, hml, hown, hts⟩ (cm_X5_is l D G N S1 v3 0 (v4, S4) e4) (cwV 1 hts (mw_gV tw_284 tw_285 tw_286 tw_7 tw_287) rfl rfl rfl (by decide +kernel) ⟨Nat.le_of_ble_eq_true rfl, Nat.le_of_ble_eq_true rfl⟩) (mw_preV hw (ci := 5) rfl ho) rfl rfl hl.1 rfl (lv_room (Nat.le_of_ble_eq_true rfl)) dX8_dump_27 ⟨(Nat.le_of_ble_eq_true rfl), (Nat.le_of_ble_eq_true rfl)⟩) hw (fun H locs hw => ?_)
    refine lv_if_ne hx hb dX8_dump_30 (tgt := 41) (by decide) (fun hc => ?_) (fun hc => ?_)
    · rw [if_pos hc] at hf
      exact bX8_dump_41 hZ ⟨hx, hb, hml, hown, hts, hr, hlocks⟩ D G N _ _ _ _ hf (lv_sub hl [] rfl) hw
    · rw [if_neg (fun q => q hc)] at hf
      refine lv_aload_n hx hb dX8_dump_33 rfl (lv_at hl 0 rfl) ?_
      refine lv_iconst (v := 3) hx hb dX8_dump_34 (by decide) ?_
      obtain ⟨v5, S5, e5, hf⟩ := mw_bb hf
      obtain ⟨ho, e5⟩ := mw_v_s e5
      refine mw_calli (va_runV (As := [.int 3]) (rest := []) ⟨hx, hb, hml, hown, hts⟩ (cm_X5_is l D G N S4 v3 3 (v5, S5) e5) (cwV 1 hts (mw_gV tw_284 tw_285 tw_286 tw_7 tw_287) rfl rfl rfl (by decide +kernel) ⟨Nat.le_of_ble_eq_true rfl, Nat.le_of_ble_eq_true rfl⟩) (mw_preV hw (ci := 5) rfl ho) rfl rfl hl.1 rfl (lv_room (Nat.le_of_ble_eq_true rfl)) dX8_dump_35 ⟨(Nat.le_of_ble_eq_true rfl), (Nat.le_of_ble_eq_true rfl)⟩) hw (fun H locs hw => ?_)
      refine lv_if_eq hx hb dX8_dump_38 (tgt := 51) (by decide) (fun hc => ?_) (fun hc => ?_)
      · rw [if_pos hc] at hf
        refine lv_aload_n hx hb dX8_dump_51 rfl (lv_at hl 0 rfl) ?_
        refine lv_iconst (v := 1) hx hb dX8_dump_52 (by decide) ?_
        obtain ⟨v6, S6, e6, hf⟩ := mw_bb hf
        obtain ⟨ho, e6⟩ := mw_v_s e6
        refine mw_calli (va_runV (As := [.int 1]) (rest := []) ⟨hx, hb, hml, hown, hts⟩ (cm_X5_is l D G N S5 v3 1 (v6, S6) e6) (cwV 1 hts (mw_gV tw_284 tw_285 tw_286 tw_7 tw_287) rfl rfl rfl (by decide +kernel) ⟨Nat.le_of_ble_eq_true rfl, Nat.le_of_ble_eq_true rfl⟩) (mw_preV hw (ci := 5) rfl ho) rfl rfl hl.1 rfl (lv_room (Nat.le_of_ble_eq_true rfl)) dX8_dump_53 ⟨(Nat.le_of_ble_eq_true rfl), (Nat.le_of_ble_eq_true rfl)⟩) hw (fun H locs hw => ?_)
        refine lv_if_eq hx hb dX8_dump_56 (tgt := 63) (by decide) (fun hc => ?_) (fun hc => ?_)
        · rw [if_pos hc] at hf
          exact bX8_dump_63 hZ ⟨hx, hb, hml, hown, hts, hr, hlocks⟩ D G N _ _ _ _ _ _ hf (lv_sub hl [1, 0] rfl) hw
        · rw [if_neg hc] at hf
          refine lv_aload_n hx hb dX8_dump_59 rfl (lv_at hl 1 rfl) ?_
          obtain ⟨S7, e7, hf⟩ := mw_b hf
          obtain ⟨ho, e7⟩ := mw_v_s e7
          refine mw_callv (va_runV (As := []) (rest := []) ⟨hx, hb, hml, hown, hts⟩ (cm_X8_rotate l D G N S6 h0 S7 e7) (cwV 0 hts (mw_gV tw_403 tw_405 tp_6 tw_1 tw_406) rfl rfl rfl (by decide +kernel) ⟨Nat.le_of_ble_eq_true rfl, Nat.le_of_ble_eq_true rfl⟩) (mw_preV hw (ci := 8) rfl ho) rfl rfl hl.1 rfl (lv_room (Nat.le_of_ble_eq_true rfl)) dX8_dump_60 ⟨(Nat.le_of_ble_eq_true rfl), (Nat.le_of_ble_eq_true rfl)⟩) hw (fun H locs hw => ?_)
          exact bX8_dump_63 hZ ⟨hx, hb, hml, hown, hts, hr, hlocks⟩ D G N _ _ _ _ _ _ hf (lv_sub hl [1, 0] rfl) hw
      · rw [if_neg hc] at hf
        exact bX8_dump_41 hZ ⟨hx, hb, hml, hown, hts, hr, hlocks⟩ D G N _ _ _ _ hf (lv_sub hl [] rfl) hw
  · rw [if_neg (fun q => q hc)] at hf
    exact mw_thA hx hb hown hZ (hts _ tw_542) (hts _ tw_15) (si := 177) (txt := "no such recording") (by decide) hlocks (hl.1.trans hml.symm) hw (Nat.le_of_ble_eq_true rfl) (Nat.le_of_ble_eq_true rfl) (Nat.le_of_ble_eq_true rfl) (Nat.le_of_ble_eq_true rfl) hf dX8_dump_8 dX8_dump_11 dX8_dump_12 dX8_dump_14 dX8_dump_17
