abbrev rmX7_init : Room := { frames := 1, cells := 1, slots := 40, locals := 12 }
abbrev wsX7_init : List Cond := Cond.code yX7_init cX7_init 1 none :: lw_good
set_option maxHeartbeats 4000000 in
set_option maxRecDepth 100000 in
theorem cm_X7_init (l : Launch) (D : va_G) (G : Nat → ClassId) (N : Nat) (S : mw_M) (h0 : Nat) (z : mw_M) (hf : pf_X7_init G N S h0 = some z) : Met l yX7_init wsX7_init rmX7_init (va_Pc [.ref h0] (mw_B D vwCl (mw_tys G) mw_aos S)) (mw_Qv D vwCl (mw_tys G) mw_aos (mw_A S) z) 1 40 (mw_A S) := by
  refine Met.ofW (cc := cX7_init) (maxL := 1) (ret := none) (by decide) rfl ?_
  intro p e s m args below meth c s₁ B hml hv
  obtain ⟨rfl, hB⟩ := hv
  have hw := mw_begin hB
  have hx := B.exec
  have hb := B.bytes
  have hr := B.returns
  have hts : ∀ w ∈ lw_good, w.before _ s = true := fun w h => atoms_spec (ws := wsX7_init) B.pre w (List.mem_cons_of_mem _ h)
  have hown : s.vm.findClass RX7 = some m.cls := findClass_of_methodNamed B.named
  have hlocks := B.notSynchronized
  have hin : meth.name = "<init>" := (name_of_methodNamed B.named B.method).1
  have hC : mw_C p s m _ meth c cX7_init RX7 none lw_good 1 := ⟨hx, hb, hml, hown, hts, hr, hlocks⟩
  have hl := lv_entry ([.ref h0]) (n := 1) (Nat.le_of_ble_eq_true rfl)
  rw [lg_entry_eq]
  generalize (lg_sl ([.ref h0]) ++ List.replicate (1 - (lg_sl ([.ref h0])).length) Slot.unset).toArray = ls at hl ⊢
  have hl : lv_has ls 1 [(0, .ref h0)] := hl
  unfold pf_X7_init at hf
  refine lv_aload_n hx hb dX7_init_0 rfl (lv_at hl 0 rfl) ?_
  refine W.objInit hx hb hown (hts _ tw_36) (hts _ tw_23) (hts _ tw_24) rfl (by rw [hml]; exact hl.1) rfl dX7_init_1 (Nat.le_of_ble_eq_true rfl) (Nat.le_of_ble_eq_true rfl) ?_
  refine W.eq (g2 := F0 m 4 ls []) rfl ?_
  refine lv_aload_n hx hb dX7_init_4 rfl (lv_at hl 0 rfl) ?_
  refine lv_bipush (v := 40) hx hb dX7_init_5 (by decide) ?_
  obtain ⟨v1, S1, e1, hf⟩ := mw_bb hf
  refine mw_newa (atype := .char) hx hb (hts _ tw_44) rfl rfl hw 2 rfl rfl (by decide) (Nat.le_of_ble_eq_true rfl) (Nat.le_of_ble_eq_true rfl) e1 dX7_init_7 (fun H hw => ?_)
  obtain ⟨S2, e2, hf⟩ := mw_b hf
  refine mw_putF hx hb hts inX7 tyX7 tyX7_ok nX7 hown hw (ci := 7) rfl 0 (by decide) (hts _ tw_37) rfl rfl hin rfl (ty := (.array .char)) (by decide +kernel) rfl rfl e2 dX7_init_9 (fun H locs hw => ?_)
  refine W.widen (k := 1) (n := 40) (Nat.le_of_ble_eq_true rfl) (Nat.le_of_ble_eq_true rfl) ?_
  exact mw_vret hx hb hr hlocks hw hf dX7_init_12
abbrev rmX6_init : Room := { frames := 1, cells := 2, slots := 216, locals := 12 }
abbrev wsX6_init : List Cond := Cond.code yX6_init cX6_init 1 none :: lw_good
set_option maxHeartbeats 4000000 in
set_option maxRecDepth 100000 in
theorem cm_X6_init (l : Launch) (D : va_G) (G : Nat → ClassId) (N : Nat) (S : mw_M) (h0 : Nat) (z : mw_M) (hf : pf_X6_init G N S h0 = some z) : Met l yX6_init wsX6_init rmX6_init (va_Pc [.ref h0] (mw_B D vwCl (mw_tys G) mw_aos S)) (mw_Qv D vwCl (mw_tys G) mw_aos (mw_A S) z) 2 216 (mw_A S) := by
  refine Met.ofW (cc := cX6_init) (maxL := 1) (ret := none) (by decide) rfl ?_
  intro p e s m args below meth c s₁ B hml hv
  obtain ⟨rfl, hB⟩ := hv
  have hw := mw_begin hB
  have hx := B.exec
  have hb := B.bytes
  have hr := B.returns
  have hts : ∀ w ∈ lw_good, w.before _ s = true := fun w h => atoms_spec (ws := wsX6_init) B.pre w (List.mem_cons_of_mem _ h)
  have hown : s.vm.findClass RX6 = some m.cls := findClass_of_methodNamed B.named
  have hlocks := B.notSynchronized
  have hin : meth.name = "<init>" := (name_of_methodNamed B.named B.method).1
  have hC : mw_C p s m _ meth c cX6_init RX6 none lw_good 1 := ⟨hx, hb, hml, hown, hts, hr, hlocks⟩
  have hl := lv_entry ([.ref h0]) (n := 1) (Nat.le_of_ble_eq_true rfl)
  rw [lg_entry_eq]
  generalize (lg_sl ([.ref h0]) ++ List.replicate (1 - (lg_sl ([.ref h0])).length) Slot.unset).toArray = ls at hl ⊢
  have hl : lv_has ls 1 [(0, .ref h0)] := hl
  unfold pf_X6_init at hf
  refine lv_aload_n hx hb dX6_init_0 rfl (lv_at hl 0 rfl) ?_
  refine W.objInit hx hb hown (hts _ tw_50) (hts _ tw_23) (hts _ tw_24) rfl (by rw [hml]; exact hl.1) rfl dX6_init_1 (Nat.le_of_ble_eq_true rfl) (Nat.le_of_ble_eq_true rfl) ?_
  refine W.eq (g2 := F0 m 4 ls []) rfl ?_
  refine lv_aload_n hx hb dX6_init_4 rfl (lv_at hl 0 rfl) ?_
  refine lv_sipush (v := 192) hx hb dX6_init_5 (by decide) ?_
  obtain ⟨v1, S1, e1, hf⟩ := mw_bb hf
  refine mw_newa (atype := .char) hx hb (hts _ tw_44) rfl rfl hw 2 rfl rfl (by decide) (Nat.le_of_ble_eq_true rfl) (Nat.le_of_ble_eq_true rfl) e1 dX6_init_8 (fun H hw => ?_)
  obtain ⟨S2, e2, hf⟩ := mw_b hf
  refine mw_putF hx hb hts inX6 tyX6 tyX6_ok nX6 hown hw (ci := 6) rfl 0 (by decide) (hts _ tw_51) rfl rfl hin rfl (ty := (.array .char)) (by decide +kernel) rfl rfl e2 dX6_init_10 (fun H locs hw => ?_)
  refine lv_aload_n hx hb dX6_init_13 rfl (lv_at hl 0 rfl) ?_
  refine lv_bipush (v := 24) hx hb dX6_init_14 (by decide) ?_
  obtain ⟨v3, S3, e3, hf⟩ := mw_bb hf
  refine mw_newa (atype := .int) hx hb (hts _ tw_61) rfl rfl hw 0 rfl rfl (by decide) (Nat.le_of_ble_eq_true rfl) (Nat.le_of_ble_eq_true rfl) e3 dX6_init_16 (fun H hw => ?_)
  obtain ⟨S4, e4, hf⟩ := mw_b hf
  refine mw_putF hx hb hts inX6 tyX6 tyX6_ok nX6 hown hw (ci := 6) rfl 1 (by decide) (hts _ tw_52) rfl rfl hin rfl (ty := (.array .int)) (by decide +kernel) rfl rfl e4 dX6_init_18 (fun H locs hw => ?_)
  refine W.widen (k := 2) (n := 216) (Nat.le_of_ble_eq_true rfl) (Nat.le_of_ble_eq_true rfl) ?_
  exact mw_vret hx hb hr hlocks hw hf dX6_init_21
abbrev rmX0_init : Room := { frames := 1, cells := 1, slots := 5000, locals := 12 }
abbrev wsX0_init : List Cond := Cond.code yX0_init cX0_init 2 none :: lw_good
set_option maxHeartbeats 4000000 in
set_option maxRecDepth 100000 in
theorem cm_X0_init (l : Launch) (D : va_G) (G : Nat → ClassId) (N : Nat) (S : mw_M) (h0 : Nat) (x1 : Int32) (z : mw_M) (hf : pf_X0_init G N S h0 x1 = some z) : Met l yX0_init wsX0_init rmX0_init (va_Pc [.ref h0, .int x1] (mw_B D vwCl (mw_tys G) mw_aos S)) (mw_Qv D vwCl (mw_tys G) mw_aos (mw_A S) z) 1 5000 (mw_A S) := by
  refine Met.ofW (cc := cX0_init) (maxL := 2) (ret := none) (by decide) rfl ?_
  intro p e s m args below meth c s₁ B hml hv
  obtain ⟨rfl, hB⟩ := hv
  have hw := mw_begin hB
  have hx := B.exec
  have hb := B.bytes
  have hr := B.returns
  have hts : ∀ w ∈ lw_good, w.before _ s = true := fun w h => atoms_spec (ws := wsX0_init) B.pre w (List.mem_cons_of_mem _ h)
  have hown : s.vm.findClass RX0 = some m.cls := findClass_of_methodNamed B.named
  have hlocks := B.notSynchronized
  have hin : meth.name = "<init>" := (name_of_methodNamed B.named B.method).1
  have hC : mw_C p s m _ meth c cX0_init RX0 none lw_good 2 := ⟨hx, hb, hml, hown, hts, hr, hlocks⟩
  have hl := lv_entry ([.ref h0, .int x1]) (n := 2) (Nat.le_of_ble_eq_true rfl)
  rw [lg_entry_eq]
  generalize (lg_sl ([.ref h0, .int x1]) ++ List.replicate (2 - (lg_sl ([.ref h0, .int x1])).length) Slot.unset).toArray = ls at hl ⊢
  have hl : lv_has ls 2 [(0, .ref h0), (1, .int x1)] := hl
  unfold pf_X0_init at hf
  refine lv_aload_n hx hb dX0_init_0 rfl (lv_at hl 0 rfl) ?_
  refine W.objInit hx hb hown (hts _ tw_74) (hts _ tw_23) (hts _ tw_24) rfl (by rw [hml]; exact hl.1) rfl dX0_init_1 (Nat.le_of_ble_eq_true rfl) (Nat.le_of_ble_eq_true rfl) ?_
  refine W.eq (g2 := F0 m 4 ls []) rfl ?_
  refine lv_aload_n hx hb dX0_init_4 rfl (lv_at hl 0 rfl) ?_
  refine lv_iload_n hx hb dX0_init_5 rfl (lv_at hl 1 rfl) ?_
  obtain ⟨v1, S1, e1, hf⟩ := mw_bb hf
  refine mw_newa (atype := .byte) hx hb (hts _ tw_82) rfl rfl hw 1 rfl rfl (by decide) (Nat.le_of_ble_eq_true rfl) (Nat.le_of_ble_eq_true rfl) e1 dX0_init_6 (fun H hw => ?_)
  obtain ⟨S2, e2, hf⟩ := mw_b hf
  refine mw_putF hx hb hts inX0 tyX0 tyX0_ok nX0 hown hw (ci := 0) rfl 0 (by decide) (hts _ tw_75) rfl rfl hin rfl (ty := (.array .byte)) (by decide +kernel) rfl rfl e2 dX0_init_8 (fun H locs hw => ?_)
  refine W.widen (k := 1) (n := 5000) (Nat.le_of_ble_eq_true rfl) (Nat.le_of_ble_eq_true rfl) ?_
  exact mw_vret hx hb hr hlocks hw hf dX0_init_11
abbrev rmX3_init : Room := { frames := 2, cells := 3, slots := 5005, locals := 33 }
abbrev wsX3_init : List Cond := Cond.code yX3_init cX3_init 2 none :: lw_good
set_option maxHeartbeats 4000000 in
set_option maxRecDepth 100000 in
theorem cm_X3_init (l : Launch) (D : va_G) (G : Nat → ClassId) (N : Nat) (S : mw_M) (h0 : Nat) (x1 : Int32) (z : mw_M) (hf : pf_X3_init G N S h0 x1 = some z) : Met l yX3_init wsX3_init rmX3_init (va_Pc [.ref h0, .int x1] (mw_B D vwCl (mw_tys G) mw_aos S)) (mw_Qv D vwCl (mw_tys G) mw_aos (mw_A S) z) 3 5005 (mw_A S) := by
  refine Met.ofW (cc := cX3_init) (maxL := 2) (ret := none) (by decide) rfl ?_
  intro p e s m args below meth c s₁ B hml hv
  obtain ⟨rfl, hB⟩ := hv
  have hw := mw_begin hB
  have hx := B.exec
  have hb := B.bytes
  have hr := B.returns
  have hts : ∀ w ∈ lw_good, w.before _ s = true := fun w h => atoms_spec (ws := wsX3_init) B.pre w (List.mem_cons_of_mem _ h)
  have hown : s.vm.findClass RX3 = some m.cls := findClass_of_methodNamed B.named
  have hlocks := B.notSynchronized
  have hin : meth.name = "<init>" := (name_of_methodNamed B.named B.method).1
  have hC : mw_C p s m _ meth c cX3_init RX3 none lw_good 2 := ⟨hx, hb, hml, hown, hts, hr, hlocks⟩
  have hl := lv_entry ([.ref h0, .int x1]) (n := 2) (Nat.le_of_ble_eq_true rfl)
  rw [lg_entry_eq]
  generalize (lg_sl ([.ref h0, .int x1]) ++ List.replicate (2 - (lg_sl ([.ref h0, .int x1])).length) Slot.unset).toArray = ls at hl ⊢
  have hl : lv_has ls 2 [(0, .ref h0), (1, .int x1)] := hl
  unfold pf_X3_init at hf
  refine lv_aload_n hx hb dX3_init_0 rfl (lv_at hl 0 rfl) ?_
  refine W.objInit hx hb hown (hts _ tw_68) (hts _ tw_23) (hts _ tw_24) rfl (by rw [hml]; exact hl.1) rfl dX3_init_1 (Nat.le_of_ble_eq_true rfl) (Nat.le_of_ble_eq_true rfl) ?_
  refine W.eq (g2 := F0 m 4 ls []) rfl ?_
  refine lv_aload_n hx hb dX3_init_4 rfl (lv_at hl 0 rfl) ?_
  refine lv_iconst (v := 3) hx hb dX3_init_5 (by decide) ?_
  obtain ⟨v1, S1, e1, hf⟩ := mw_bb hf
  refine mw_newa (atype := .int) hx hb (hts _ tw_61) rfl rfl hw 0 rfl rfl (by decide) (Nat.le_of_ble_eq_true rfl) (Nat.le_of_ble_eq_true rfl) e1 dX3_init_6 (fun H hw => ?_)
  obtain ⟨S2, e2, hf⟩ := mw_b hf
  refine mw_putF hx hb hts inX3 tyX3 tyX3_ok nX3 hown hw (ci := 3) rfl 0 (by decide) (hts _ tw_83) rfl rfl hin rfl (ty := (.array .int)) (by decide +kernel) rfl rfl e2 dX3_init_8 (fun H locs hw => ?_)
  refine lv_aload_n hx hb dX3_init_11 rfl (lv_at hl 0 rfl) ?_
  obtain ⟨v3, S3, e3, hf⟩ := mw_bb hf
  refine mw_newc hx hb hts inX0 tyX0 tyX0_ok hown (hts _ tw_69) (hts _ tw_70) (hts _ tw_6) hw (ci := 0) rfl mw_blX0 (Nat.le_of_ble_eq_true rfl) (Nat.le_of_ble_eq_true rfl) dX3_init_12 e3 (fun H hw => ?_)
  refine lv_dup hx hb dX3_init_15 rfl ?_
  refine lv_iload_n hx hb dX3_init_16 rfl (lv_at hl 1 rfl) ?_
  obtain ⟨S4, e4, hf⟩ := mw_b hf
  refine mw_callv (va_runI (As := [.int x1]) (rest := [.ref v3, .ref h0]) ⟨hx, hb, hml, hown, hts⟩ (cm_X0_init l D G N S3 v3 x1 S4 e4) (cwI 1 hts (mw_gI tw_73) rfl rfl rfl (hts _ tw_6) (hts _ tw_71) (hts _ tw_72) rfl (by decide +kernel) ⟨Nat.le_of_ble_eq_true rfl, Nat.le_of_ble_eq_true rfl⟩) (mw_preS hw) rfl rfl hl.1 rfl (lv_room (Nat.le_of_ble_eq_true rfl)) dX3_init_17 ⟨(Nat.le_of_ble_eq_true rfl), (Nat.le_of_ble_eq_true rfl)⟩) hw (fun H locs hw => ?_)
  obtain ⟨S5, e5, hf⟩ := mw_b hf
  refine mw_putF hx hb hts inX3 tyX3 tyX3_ok nX3 hown hw (ci := 3) rfl 1 (by decide) (hts _ tw_84) rfl rfl hin rfl (ty := (.object "EventRecorder$ByteRow")) (by decide +kernel) rfl rfl e5 dX3_init_20 (fun H locs hw => ?_)
  refine W.widen (k := 3) (n := 5005) (Nat.le_of_ble_eq_true rfl) (Nat.le_of_ble_eq_true rfl) ?_
  exact mw_vret hx hb hr hlocks hw hf dX3_init_23
abbrev rmX5_init : Room := { frames := 1, cells := 2, slots := 12, locals := 12 }
abbrev wsX5_init : List Cond := Cond.code yX5_init cX5_init 1 none :: lw_good
set_option maxHeartbeats 4000000 in
set_option maxRecDepth 100000 in
theorem cm_X5_init (l : Launch) (D : va_G) (G : Nat → ClassId) (N : Nat) (S : mw_M) (h0 : Nat) (z : mw_M) (hf : pf_X5_init G N S h0 = some z) : Met l yX5_init wsX5_init rmX5_init (va_Pc [.ref h0] (mw_B D vwCl (mw_tys G) mw_aos S)) (mw_Qv D vwCl (mw_tys G) mw_aos (mw_A S) z) 2 12 (mw_A S) := by
  refine Met.ofW (cc := cX5_init) (maxL := 1) (ret := none) (by decide) rfl ?_
  intro p e s m args below meth c s₁ B hml hv
  obtain ⟨rfl, hB⟩ := hv
  have hw := mw_begin hB
  have hx := B.exec
  have hb := B.bytes
  have hr := B.returns
  have hts : ∀ w ∈ lw_good, w.before _ s = true := fun w h => atoms_spec (ws := wsX5_init) B.pre w (List.mem_cons_of_mem _ h)
  have hown : s.vm.findClass RX5 = some m.cls := findClass_of_methodNamed B.named
  have hlocks := B.notSynchronized
  have hin : meth.name = "<init>" := (name_of_methodNamed B.named B.method).1
  have hC : mw_C p s m _ meth c cX5_init RX5 none lw_good 1 := ⟨hx, hb, hml, hown, hts, hr, hlocks⟩
  have hl := lv_entry ([.ref h0]) (n := 1) (Nat.le_of_ble_eq_true rfl)
  rw [lg_entry_eq]
  generalize (lg_sl ([.ref h0]) ++ List.replicate (1 - (lg_sl ([.ref h0])).length) Slot.unset).toArray = ls at hl ⊢
  have hl : lv_has ls 1 [(0, .ref h0)] := hl
  unfold pf_X5_init at hf
  refine lv_aload_n hx hb dX5_init_0 rfl (lv_at hl 0 rfl) ?_
  refine W.objInit hx hb hown (hts _ tw_105) (hts _ tw_23) (hts _ tw_24) rfl (by rw [hml]; exact hl.1) rfl dX5_init_1 (Nat.le_of_ble_eq_true rfl) (Nat.le_of_ble_eq_true rfl) ?_
  refine W.eq (g2 := F0 m 4 ls []) rfl ?_
  refine lv_aload_n hx hb dX5_init_4 rfl (lv_at hl 0 rfl) ?_
  refine lv_bipush (v := 6) hx hb dX5_init_5 (by decide) ?_
  obtain ⟨v1, S1, e1, hf⟩ := mw_bb hf
  refine mw_newa (atype := .boolean) hx hb (hts _ tw_123) rfl rfl hw 3 rfl rfl (by decide) (Nat.le_of_ble_eq_true rfl) (Nat.le_of_ble_eq_true rfl) e1 dX5_init_7 (fun H hw => ?_)
  obtain ⟨S2, e2, hf⟩ := mw_b hf
  refine mw_putF hx hb hts inX5 tyX5 tyX5_ok nX5 hown hw (ci := 5) rfl 0 (by decide) (hts _ tw_107) rfl rfl hin rfl (ty := (.array .boolean)) (by decide +kernel) rfl rfl e2 dX5_init_9 (fun H locs hw => ?_)
  refine lv_aload_n hx hb dX5_init_12 rfl (lv_at hl 0 rfl) ?_
  refine lv_bipush (v := 6) hx hb dX5_init_13 (by decide) ?_
  obtain ⟨v3, S3, e3, hf⟩ := mw_bb hf
  refine mw_newa (atype := .int) hx hb (hts _ tw_61) rfl rfl hw 0 rfl rfl (by decide) (Nat.le_of_ble_eq_true rfl) (Nat.le_of_ble_eq_true rfl) e3 dX5_init_15 (fun H hw => ?_)
  obtain ⟨S4, e4, hf⟩ := mw_b hf
  refine mw_putF hx hb hts inX5 tyX5 tyX5_ok nX5 hown hw (ci := 5) rfl 1 (by decide) (hts _ tw_108) rfl rfl hin rfl (ty := (.array .int)) (by decide +kernel) rfl rfl e4 dX5_init_17 (fun H locs hw => ?_)
  refine lv_aload_n hx hb dX5_init_20 rfl (lv_at hl 0 rfl) ?_
  refine lv_iconst (v := 0) hx hb dX5_init_21 (by decide) ?_
  obtain ⟨S5, e5, hf⟩ := mw_b hf
  refine mw_put hx hb hts inX5 tyX5 tyX5_ok nX5 hown hw (ci := 5) rfl 2 (by decide) (hts _ tw_109) rfl rfl (ty := .int) (by decide +kernel) rfl rfl e5 dX5_init_22 (fun H locs hw => ?_)
  refine lv_aload_n hx hb dX5_init_25 rfl (lv_at hl 0 rfl) ?_
  refine lv_ldc hx hb hown (hts _ tw_106) dX5_init_26 ?_
  obtain ⟨S6, e6, hf⟩ := mw_b hf
  refine mw_put hx hb hts inX5 tyX5 tyX5_ok nX5 hown hw (ci := 5) rfl 4 (by decide) (hts _ tw_111) rfl rfl (ty := .int) (by decide +kernel) rfl rfl e6 dX5_init_28 (fun H locs hw => ?_)
  refine W.widen (k := 2) (n := 12) (Nat.le_of_ble_eq_true rfl) (Nat.le_of_ble_eq_true rfl) ?_
  exact mw_vret hx hb hr hlocks hw hf dX5_init_31
abbrev rmX4_init : Room := { frames := 2, cells := 19, slots := 50018, locals := 33 }
abbrev wsX4_init : List Cond := Cond.code yX4_init cX4_init 4 none :: lw_good
set_option maxHeartbeats 4000000 in
set_option maxRecDepth 100000 in
theorem bX4_init_14 {p : Program} {l : Launch} {e : Env} {s : State} {m : MethodId} {args : Array Value} {below : List Frame} {meth : Method} {c : Code} (hC : mw_C p s m args meth c cX4_init RX4 none lw_good 4) (hin : meth.name = "<init>") (D : va_G) (G : Nat → ClassId) (N : Nat) {A : Nat → Prop} {z : mw_M} : ∀ (n : Nat) (y0 : Nat) (y1 : Int32) (y2 : Int32) (y3 : Int32) (S : mw_M) (H : Heap) (locs : List Loc) (ls : Array Slot), n ≤ 8 → pf_X4_init_14 G N n y0 y1 y2 y3 S = some z → lv_has ls 4 [(0, .ref y0), (1, .int y1), (2, .int y2), (3, .int y3)] → mw_W D vwCl (mw_tys G) mw_aos A s S H locs → W p l e (headSpec wsX4_init rmX4_init).room s m args below meth c H locs (1 + (8 - n) * 2) (5000 + (8 - n) * 5002) (MQ below (mw_Qv D vwCl (mw_tys G) mw_aos A z) args s 19 50018 A) (F0 m 14 ls []) := by
  obtain ⟨hx, hb, hml, hown, hts, hr, hlocks⟩ := hC
  intro n
  induction n with
  | zero => intro y0 y1 y2 y3 S H locs ls hn hf; rw [pf_X4_init_14] at hf; cases hf
  | succ n ih =>
    intro y0 y1 y2 y3 S H locs ls hn hf hl hw
    rw [pf_X4_init_14] at hf
    refine lv_iload_n hx hb dX4_init_14 rfl (lv_at hl 3 rfl) ?_
    refine lv_iload_n hx hb dX4_init_15 rfl (lv_at hl 1 rfl) ?_
    refine lv_icmp_ge hx hb dX4_init_16 (tgt := 39) (by decide) (fun hc => ?_) (fun hc => ?_)
    · rw [if_pos hc] at hf
      refine W.widen (k := 17) (n := 45016) (by omega) (by omega) ?_
      refine W.widen (k := 19) (n := 50018) (Nat.le_of_ble_eq_true rfl) (Nat.le_of_ble_eq_true rfl) ?_
      exact mw_vret hx hb hr hlocks hw hf dX4_init_39
    · rw [if_neg hc] at hf
      refine lv_aload_n hx hb dX4_init_19 rfl (lv_at hl 0 rfl) ?_
      obtain ⟨v1, e1, hf⟩ := mw_b hf
      refine mw_getr hx hb hts inX4 hown hw (ci := 4) rfl 0 (by decide) (hts _ tw_133) rfl e1 dX4_init_20 ?_
      refine lv_iload_n hx hb dX4_init_23 rfl (lv_at hl 3 rfl) ?_
      obtain ⟨v2, S2, e2, hf⟩ := mw_bb hf
      refine mw_newc hx hb hts inX0 tyX0 tyX0_ok hown (hts _ tw_130) (hts _ tw_70) (hts _ tw_6) hw (ci := 0) rfl mw_blX0 (by show _ ≤ (19 : Nat); omega) (by show _ ≤ (50018 : Nat); omega) dX4_init_24 e2 (fun H hw => ?_)
      refine lv_dup hx hb dX4_init_27 rfl ?_
      refine lv_iload_n hx hb dX4_init_28 rfl (lv_at hl 2 rfl) ?_
      obtain ⟨S3, e3, hf⟩ := mw_b hf
      refine mw_callv (va_runI (As := [.int y2]) (rest := [.ref v2, .int y3, .ref v1]) ⟨hx, hb, hml, hown, hts⟩ (cm_X0_init l D G N S2 v2 y2 S3 e3) (cwI 1 hts (mw_gI tw_73) rfl rfl rfl (hts _ tw_6) (hts _ tw_132) (hts _ tw_72) rfl (by decide +kernel) ⟨Nat.le_of_ble_eq_true rfl, Nat.le_of_ble_eq_true rfl⟩) (mw_preS hw) rfl rfl hl.1 rfl (lv_room (Nat.le_of_ble_eq_true rfl)) dX4_init_29 ⟨(by show _ ≤ (19 : Nat); omega), (by show _ ≤ (50018 : Nat); omega)⟩) hw (fun H locs hw => ?_)
      obtain ⟨S4, e4, hf⟩ := mw_b hf
      refine mw_aast (r := (RX0, TX0, 2)) hx hb hw 6 0 rfl rfl e4 dX4_init_32 (fun H locs hw => ?_)
      refine lv_iinc (k := 3) (v := (y3 + 1)) hx hb dX4_init_33 hl rfl (congrArg (fun q => y3 + q) (show Int32.ofInt 1 = 1 by decide)) (by decide) rfl (fun ls hl => ?_)
      have hl : lv_has ls 4 [(3, .int (y3 + 1)), (0, .ref y0), (1, .int y1), (2, .int y2)] := hl
      refine lv_goto hx hb dX4_init_36 (tgt := 14) (by decide) ?_
      refine W.widen (k := 1 + (8 - n) * 2) (n := 5000 + (8 - n) * 5002) (by omega) (by omega) ?_
      exact ih _ _ _ _ _ _ _ _ (by omega) hf (lv_sub hl [1, 2, 3, 0] rfl) hw
set_option maxHeartbeats 4000000 in
set_option maxRecDepth 100000 in
theorem cm_X4_init (l : Launch) (D : va_G) (G : Nat → ClassId) (N : Nat) (S : mw_M) (h0 : Nat) (x1 : Int32) (x2 : Int32) (z : mw_M) (hf : pf_X4_init G N S h0 x1 x2 = some z) : Met l yX4_init wsX4_init rmX4_init (va_Pc [.ref h0, .int x1, .int x2] (mw_B D vwCl (mw_tys G) mw_aos S)) (mw_Qv D vwCl (mw_tys G) mw_aos (mw_A S) z) 19 50018 (mw_A S) := by
  refine Met.ofW (cc := cX4_init) (maxL := 4) (ret := none) (by decide) rfl ?_
  intro p e s m args below meth c s₁ B hml hv
  obtain ⟨rfl, hB⟩ := hv
  have hw := mw_begin hB
  have hx := B.exec
  have hb := B.bytes
  have hr := B.returns
  have hts : ∀ w ∈ lw_good, w.before _ s = true := fun w h => atoms_spec (ws := wsX4_init) B.pre w (List.mem_cons_of_mem _ h)
  have hown : s.vm.findClass RX4 = some m.cls := findClass_of_methodNamed B.named
  have hlocks := B.notSynchronized
  have hin : meth.name = "<init>" := (name_of_methodNamed B.named B.method).1
  have hC : mw_C p s m _ meth c cX4_init RX4 none lw_good 4 := ⟨hx, hb, hml, hown, hts, hr, hlocks⟩
  have hl := lv_entry ([.ref h0, .int x1, .int x2]) (n := 4) (Nat.le_of_ble_eq_true rfl)
  rw [lg_entry_eq]
  generalize (lg_sl ([.ref h0, .int x1, .int x2]) ++ List.replicate (4 - (lg_sl ([.ref h0, .int x1, .int x2])).length) Slot.unset).toArray = ls at hl ⊢
  have hl : lv_has ls 4 [(0, .ref h0), (1, .int x1), (2, .int x2)] := hl
  unfold pf_X4_init at hf
  refine lv_aload_n hx hb dX4_init_0 rfl (lv_at hl 0 rfl) ?_
  refine W.objInit hx hb hown (hts _ tw_129) (hts _ tw_23) (hts _ tw_24) rfl (by rw [hml]; exact hl.1) rfl dX4_init_1 (Nat.le_of_ble_eq_true rfl) (Nat.le_of_ble_eq_true rfl) ?_
  refine W.eq (g2 := F0 m 4 ls []) rfl ?_
  refine lv_aload_n hx hb dX4_init_4 rfl (lv_at hl 0 rfl) ?_
  refine lv_iload_n hx hb dX4_init_5 rfl (lv_at hl 1 rfl) ?_
  obtain ⟨v1, S1, e1, hf⟩ := mw_bb hf
  refine mw_newq hx hb hown (hts _ tw_130) (by decide) hw 6 rfl (by decide) (Nat.le_of_ble_eq_true rfl) (Nat.le_of_ble_eq_true rfl) e1 dX4_init_6 (fun H hw => ?_)
  obtain ⟨S2, e2, hf⟩ := mw_b hf
  refine mw_putF hx hb hts inX4 tyX4 tyX4_ok nX4 hown hw (ci := 4) rfl 0 (by decide) (hts _ tw_133) rfl rfl hin rfl (ty := (.array (.object "EventRecorder$ByteRow"))) (by decide +kernel) rfl rfl e2 dX4_init_9 (fun H locs hw => ?_)
  refine lv_iconst (v := 0) hx hb dX4_init_12 (by decide) ?_
  refine lv_istore_n hx hb dX4_init_13 rfl hl (by decide) rfl (fun ls hl => ?_)
  have hl : lv_has ls 4 [(3, .int 0), (0, .ref h0), (1, .int x1), (2, .int x2)] := hl
  exact bX4_init_14 ⟨hx, hb, hml, hown, hts, hr, hlocks⟩ hin D G N 8 _ _ _ _ _ _ _ _ (Nat.le_refl _) hf (lv_sub hl [1, 2, 3, 0] rfl) hw
abbrev rmX1_init : Room := { frames := 2, cells := 3, slots := 5026, locals := 33 }
abbrev wsX1_init : List Cond := Cond.code yX1_init cX1_init 2 none :: lw_good
set_option maxHeartbeats 4000000 in
set_option maxRecDepth 100000 in
theorem cm_X1_init (l : Launch) (D : va_G) (G : Nat → ClassId) (N : Nat) (S : mw_M) (h0 : Nat) (x1 : Int32) (z : mw_M) (hf : pf_X1_init G N S h0 x1 = some z) : Met l yX1_init wsX1_init rmX1_init (va_Pc [.ref h0, .int x1] (mw_B D vwCl (mw_tys G) mw_aos S)) (mw_Qv D vwCl (mw_tys G) mw_aos (mw_A S) z) 3 5026 (mw_A S) := by
  refine Met.ofW (cc := cX1_init) (maxL := 2) (ret := none) (by decide) rfl ?_
  intro p e s m args below meth c s₁ B hml hv
  obtain ⟨rfl, hB⟩ := hv
  have hw := mw_begin hB
  have hx := B.exec
  have hb := B.bytes
  have hr := B.returns
  have hts : ∀ w ∈ lw_good, w.before _ s = true := fun w h => atoms_spec (ws := wsX1_init) B.pre w (List.mem_cons_of_mem _ h)
  have hown : s.vm.findClass RX1 = some m.cls := findClass_of_methodNamed B.named
  have hlocks := B.notSynchronized
  have hin : meth.name = "<init>" := (name_of_methodNamed B.named B.method).1
  have hC : mw_C p s m _ meth c cX1_init RX1 none lw_good 2 := ⟨hx, hb, hml, hown, hts, hr, hlocks⟩
  have hl := lv_entry ([.ref h0, .int x1]) (n := 2) (Nat.le_of_ble_eq_true rfl)
  rw [lg_entry_eq]
  generalize (lg_sl ([.ref h0, .int x1]) ++ List.replicate (2 - (lg_sl ([.ref h0, .int x1])).length) Slot.unset).toArray = ls at hl ⊢
  have hl : lv_has ls 2 [(0, .ref h0), (1, .int x1)] := hl
  unfold pf_X1_init at hf
  refine lv_aload_n hx hb dX1_init_0 rfl (lv_at hl 0 rfl) ?_
  refine W.objInit hx hb hown (hts _ tw_155) (hts _ tw_23) (hts _ tw_24) rfl (by rw [hml]; exact hl.1) rfl dX1_init_1 (Nat.le_of_ble_eq_true rfl) (Nat.le_of_ble_eq_true rfl) ?_
  refine W.eq (g2 := F0 m 4 ls []) rfl ?_
  refine lv_aload_n hx hb dX1_init_4 rfl (lv_at hl 0 rfl) ?_
  obtain ⟨v1, S1, e1, hf⟩ := mw_bb hf
  refine mw_newc hx hb hts inX0 tyX0 tyX0_ok hown (hts _ tw_156) (hts _ tw_70) (hts _ tw_6) hw (ci := 0) rfl mw_blX0 (Nat.le_of_ble_eq_true rfl) (Nat.le_of_ble_eq_true rfl) dX1_init_5 e1 (fun H hw => ?_)
  refine lv_dup hx hb dX1_init_8 rfl ?_
  refine lv_iload_n hx hb dX1_init_9 rfl (lv_at hl 1 rfl) ?_
  obtain ⟨S2, e2, hf⟩ := mw_b hf
  refine mw_callv (va_runI (As := [.int x1]) (rest := [.ref v1, .ref h0]) ⟨hx, hb, hml, hown, hts⟩ (cm_X0_init l D G N S1 v1 x1 S2 e2) (cwI 1 hts (mw_gI tw_73) rfl rfl rfl (hts _ tw_6) (hts _ tw_157) (hts _ tw_72) rfl (by decide +kernel) ⟨Nat.le_of_ble_eq_true rfl, Nat.le_of_ble_eq_true rfl⟩) (mw_preS hw) rfl rfl hl.1 rfl (lv_room (Nat.le_of_ble_eq_true rfl)) dX1_init_10 ⟨(Nat.le_of_ble_eq_true rfl), (Nat.le_of_ble_eq_true rfl)⟩) hw (fun H locs hw => ?_)
  obtain ⟨S3, e3, hf⟩ := mw_b hf
  refine mw_putF hx hb hts inX1 tyX1 tyX1_ok nX1 hown hw (ci := 1) rfl 0 (by decide) (hts _ tw_158) rfl rfl hin rfl (ty := (.object "EventRecorder$ByteRow")) (by decide +kernel) rfl rfl e3 dX1_init_13 (fun H locs hw => ?_)
  refine lv_aload_n hx hb dX1_init_16 rfl (lv_at hl 0 rfl) ?_
  refine lv_bipush (v := 24) hx hb dX1_init_17 (by decide) ?_
  obtain ⟨v4, S4, e4, hf⟩ := mw_bb hf
  refine mw_newa (atype := .boolean) hx hb (hts _ tw_123) rfl rfl hw 3 rfl rfl (by decide) (Nat.le_of_ble_eq_true rfl) (Nat.le_of_ble_eq_true rfl) e4 dX1_init_19 (fun H hw => ?_)
  obtain ⟨S5, e5, hf⟩ := mw_b hf
  refine mw_putF hx hb hts inX1 tyX1 tyX1_ok nX1 hown hw (ci := 1) rfl 1 (by decide) (hts _ tw_159) rfl rfl hin rfl (ty := (.array .boolean)) (by decide +kernel) rfl rfl e5 dX1_init_21 (fun H locs hw => ?_)
  refine W.widen (k := 3) (n := 5026) (Nat.le_of_ble_eq_true rfl) (Nat.le_of_ble_eq_true rfl) ?_
  exact mw_vret hx hb hr hlocks hw hf dX1_init_24
abbrev rmX0_clear : Room := { frames := 0, cells := 0, slots := 0, locals := 0 }
abbrev wsX0_clear : List Cond := Cond.code yX0_clear cX0_clear 1 none :: lw_good
set_option maxHeartbeats 4000000 in
set_option maxRecDepth 100000 in
theorem cm_X0_clear (l : Launch) (D : va_G) (G : Nat → ClassId) (N : Nat) (S : mw_M) (h0 : Nat) (z : mw_M) (hf : pf_X0_clear G N S h0 = some z) : Met l yX0_clear wsX0_clear rmX0_clear (va_Pc [.ref h0] (mw_B D vwCl (mw_tys G) mw_aos S)) (mw_Qv D vwCl (mw_tys G) mw_aos (mw_A S) z) 0 0 (mw_A S) := by
  refine Met.ofW (cc := cX0_clear) (maxL := 1) (ret := none) (by decide) rfl ?_
  intro p e s m args below meth c s₁ B hml hv
  obtain ⟨rfl, hB⟩ := hv
  have hw := mw_begin hB
  have hx := B.exec
  have hb := B.bytes
  have hr := B.returns
  have hts : ∀ w ∈ lw_good, w.before _ s = true := fun w h => atoms_spec (ws := wsX0_clear) B.pre w (List.mem_cons_of_mem _ h)
  have hown : s.vm.findClass RX0 = some m.cls := findClass_of_methodNamed B.named
  have hlocks := B.notSynchronized
  have hC : mw_C p s m _ meth c cX0_clear RX0 none lw_good 1 := ⟨hx, hb, hml, hown, hts, hr, hlocks⟩
  have hl := lv_entry ([.ref h0]) (n := 1) (Nat.le_of_ble_eq_true rfl)
  rw [lg_entry_eq]
  generalize (lg_sl ([.ref h0]) ++ List.replicate (1 - (lg_sl ([.ref h0])).length) Slot.unset).toArray = ls at hl ⊢
  have hl : lv_has ls 1 [(0, .ref h0)] := hl
  unfold pf_X0_clear at hf
  refine lv_aload_n hx hb dX0_clear_0 rfl (lv_at hl 0 rfl) ?_
  refine lv_iconst (v := 0) hx hb dX0_clear_1 (by decide) ?_
  obtain ⟨S1, e1, hf⟩ := mw_b hf
  refine mw_put hx hb hts inX0 tyX0 tyX0_ok nX0 hown hw (ci := 0) rfl 1 (by decide) (hts _ tw_76) rfl rfl (ty := .int) (by decide +kernel) rfl rfl e1 dX0_clear_2 (fun H locs hw => ?_)
  exact mw_vret hx hb hr hlocks hw hf dX0_clear_5
abbrev rmX1_openAs : Room := { frames := 1, cells := 0, slots := 0, locals := 20 }
abbrev wsX1_openAs : List Cond := Cond.code yX1_openAs cX1_openAs 4 none :: lw_good
set_option maxHeartbeats 4000000 in
set_option maxRecDepth 100000 in
theorem bX1_openAs_9 {p : Program} {l : Launch} {e : Env} {s : State} {m : MethodId} {args : Array Value} {below : List Frame} {meth : Method} {c : Code} (hC : mw_C p s m args meth c cX1_openAs RX1 none lw_good 4) (D : va_G) (G : Nat → ClassId) (N : Nat) {A : Nat → Prop} {z : mw_M} : ∀ (n : Nat) (y0 : Nat) (y1 : Int32) (y2 : Int32) (y3 : Int32) (S : mw_M) (H : Heap) (locs : List Loc) (ls : Array Slot), pf_X1_openAs_9 G N n y0 y1 y2 y3 S = some z → lv_has ls 4 [(0, .ref y0), (1, .int y1), (2, .int y2), (3, .int y3)] → mw_W D vwCl (mw_tys G) mw_aos A s S H locs → W p l e (headSpec wsX1_openAs rmX1_openAs).room s m args below meth c H locs 0 0 (MQ below (mw_Qv D vwCl (mw_tys G) mw_aos A z) args s 0 0 A) (F0 m 9 ls []) := by
  obtain ⟨hx, hb, hml, hown, hts, hr, hlocks⟩ := hC
  intro n
  induction n with
  | zero => intro y0 y1 y2 y3 S H locs ls hf; rw [pf_X1_openAs_9] at hf; cases hf
  | succ n ih =>
    intro y0 y1 y2 y3 S H locs ls hf hl hw
    rw [pf_X1_openAs_9] at hf
    refine lv_iload_n hx hb dX1_openAs_9 rfl (lv_at hl 3 rfl) ?_
    refine lv_bipush (v := 24) hx hb dX1_openAs_10 (by decide) ?_
    refine lv_icmp_ge hx hb dX1_openAs_12 (tgt := 28) (by decide) (fun hc => ?_) (fun hc => ?_)
    · rw [if_pos hc] at hf
      refine lv_aload_n hx hb dX1_openAs_28 rfl (lv_at hl 0 rfl) ?_
      refine lv_iload_n hx hb dX1_openAs_29 rfl (lv_at hl 1 rfl) ?_
      obtain ⟨S1, e1, hf⟩ := mw_b hf
      refine mw_put hx hb hts inX1 tyX1 tyX1_ok nX1 hown hw (ci := 1) rfl 2 (by decide) (hts _ tw_160) rfl rfl (ty := .int) (by decide +kernel) rfl rfl e1 dX1_openAs_30 (fun H locs hw => ?_)
      refine lv_aload_n hx hb dX1_openAs_33 rfl (lv_at hl 0 rfl) ?_
      refine lv_iload_n hx hb dX1_openAs_34 rfl (lv_at hl 2 rfl) ?_
      obtain ⟨S2, e2, hf⟩ := mw_b hf
      refine mw_put hx hb hts inX1 tyX1 tyX1_ok nX1 hown hw (ci := 1) rfl 3 (by decide) (hts _ tw_161) rfl rfl (ty := .int) (by decide +kernel) rfl rfl e2 dX1_openAs_35 (fun H locs hw => ?_)
      refine lv_aload_n hx hb dX1_openAs_38 rfl (lv_at hl 0 rfl) ?_
      refine lv_iconst (v := 0) hx hb dX1_openAs_39 (by decide) ?_
      obtain ⟨S3, e3, hf⟩ := mw_b hf
      refine mw_put hx hb hts inX1 tyX1 tyX1_ok nX1 hown hw (ci := 1) rfl 4 (by decide) (hts _ tw_162) rfl rfl (ty := .int) (by decide +kernel) rfl rfl e3 dX1_openAs_40 (fun H locs hw => ?_)
      exact mw_vret hx hb hr hlocks hw hf dX1_openAs_43
    · rw [if_neg hc] at hf
      refine lv_aload_n hx hb dX1_openAs_15 rfl (lv_at hl 0 rfl) ?_
      obtain ⟨v4, e4, hf⟩ := mw_b hf
      refine mw_getr hx hb hts inX1 hown hw (ci := 1) rfl 1 (by decide) (hts _ tw_159) rfl e4 dX1_openAs_16 ?_
      refine lv_iload_n hx hb dX1_openAs_19 rfl (lv_at hl 3 rfl) ?_
      refine lv_iconst (v := 0) hx hb dX1_openAs_20 (by decide) ?_
      obtain ⟨S5, e5, hf⟩ := mw_b hf
      refine mw_zast hx hb hw 3 rfl e5 dX1_openAs_21 (fun H locs hw => ?_)
      refine lv_iinc (k := 3) (v := (y3 + 1)) hx hb dX1_openAs_22 hl rfl (congrArg (fun q => y3 + q) (show Int32.ofInt 1 = 1 by decide)) (by decide) rfl (fun ls hl => ?_)
      have hl : lv_has ls 4 [(3, .int (y3 + 1)), (0, .ref y0), (1, .int y1), (2, .int y2)] := hl
      refine lv_goto hx hb dX1_openAs_25 (tgt := 9) (by decide) ?_
      exact ih _ _ _ _ _ _ _ _ hf (lv_sub hl [1, 2, 3, 0] rfl) hw
set_option maxHeartbeats 4000000 in
set_option maxRecDepth 100000 in
theorem cm_X1_openAs (l : Launch) (D : va_G) (G : Nat → ClassId) (N : Nat) (S : mw_M) (h0 : Nat) (x1 : Int32) (x2 : Int32) (z : mw_M) (hf : pf_X1_openAs G N S h0 x1 x2 = some z) : Met l yX1_openAs wsX1_openAs rmX1_openAs (va_Pc [.ref h0, .int x1, .int x2] (mw_B D vwCl (mw_tys G) mw_aos S)) (mw_Qv D vwCl (mw_tys G) mw_aos (mw_A S) z) 0 0 (mw_A S) := by
  refine Met.ofW (cc := cX1_openAs) (maxL := 4) (ret := none) (by decide) rfl ?_
  intro p e s m args below meth c s₁ B hml hv
  obtain ⟨rfl, hB⟩ := hv
  have hw := mw_begin hB
  have hx := B.exec
  have hb := B.bytes
  have hr := B.returns
  have hts : ∀ w ∈ lw_good, w.before _ s = true := fun w h => atoms_spec (ws := wsX1_openAs) B.pre w (List.mem_cons_of_mem _ h)
  have hown : s.vm.findClass RX1 = some m.cls := findClass_of_methodNamed B.named
  have hlocks := B.notSynchronized
  have hC : mw_C p s m _ meth c cX1_openAs RX1 none lw_good 4 := ⟨hx, hb, hml, hown, hts, hr, hlocks⟩
  have hl := lv_entry ([.ref h0, .int x1, .int x2]) (n := 4) (Nat.le_of_ble_eq_true rfl)
  rw [lg_entry_eq]
  generalize (lg_sl ([.ref h0, .int x1, .int x2]) ++ List.replicate (4 - (lg_sl ([.ref h0, .int x1, .int x2])).length) Slot.unset).toArray = ls at hl ⊢
  have hl : lv_has ls 4 [(0, .ref h0), (1, .int x1), (2, .int x2)] := hl
  unfold pf_X1_openAs at hf
  refine lv_aload_n hx hb dX1_openAs_0 rfl (lv_at hl 0 rfl) ?_
  obtain ⟨v1, e1, hf⟩ := mw_b hf
  refine mw_getr hx hb hts inX1 hown hw (ci := 1) rfl 0 (by decide) (hts _ tw_158) rfl e1 dX1_openAs_1 ?_
  obtain ⟨S2, e2, hf⟩ := mw_b hf
  obtain ⟨ho, e2⟩ := mw_v_s e2
  refine mw_callv (va_runV (As := []) (rest := []) ⟨hx, hb, hml, hown, hts⟩ (cm_X0_clear l D G N S v1 S2 e2) (cwV 0 hts (mw_gV tw_178 tw_179 tw_180 tw_6 tw_181) rfl rfl rfl (by decide +kernel) ⟨Nat.le_of_ble_eq_true rfl, Nat.le_of_ble_eq_true rfl⟩) (mw_preV hw (ci := 0) rfl ho) rfl rfl hl.1 rfl (lv_room (Nat.le_of_ble_eq_true rfl)) dX1_openAs_4 ⟨(Nat.le_of_ble_eq_true rfl), (Nat.le_of_ble_eq_true rfl)⟩) hw (fun H locs hw => ?_)
  refine lv_iconst (v := 0) hx hb dX1_openAs_7 (by decide) ?_
  refine lv_istore_n hx hb dX1_openAs_8 rfl hl (by decide) rfl (fun ls hl => ?_)
  have hl : lv_has ls 4 [(3, .int 0), (0, .ref h0), (1, .int x1), (2, .int x2)] := hl
  exact bX1_openAs_9 ⟨hx, hb, hml, hown, hts, hr, hlocks⟩ D G N N _ _ _ _ _ _ _ _ hf (lv_sub hl [1, 2, 3, 0] rfl) hw
abbrev rmX2_init : Room := { frames := 3, cells := 37, slots := 50279, locals := 54 }
abbrev wsX2_init : List Cond := Cond.code yX2_init cX2_init 4 none :: lw_good
set_option maxHeartbeats 4000000 in
set_option maxRecDepth 100000 in
theorem bX2_init_16 {p : Program} {l : Launch} {e : Env} {s : State} {m : MethodId} {args : Array Value} {below : List Frame} {meth : Method} {c : Code} (hC : mw_C p s m args meth c cX2_init RX2 none lw_good 4) (hin : meth.name = "<init>") (D : va_G) (G : Nat → ClassId) (N : Nat) {A : Nat → Prop} {z : mw_M} : ∀ (n : Nat) (y0 : Nat) (y1 : Int32) (y2 : Int32) (y3 : Int32) (S : mw_M) (H : Heap) (locs : List Loc) (ls : Array Slot), n ≤ 8 → pf_X2_init_16 G N n y0 y1 y2 y3 S = some z → lv_has ls 4 [(0, .ref y0), (1, .int y1), (2, .int y2), (3, .int y3)] → mw_W D vwCl (mw_tys G) mw_aos A s S H locs → W p l e (headSpec wsX2_init rmX2_init).room s m args below meth c H locs (1 + (8 - n) * 4) (5000 + (8 - n) * 5031) (MQ below (mw_Qv D vwCl (mw_tys G) mw_aos A z) args s 37 50279 A) (F0 m 16 ls []) := by
  obtain ⟨hx, hb, hml, hown, hts, hr, hlocks⟩ := hC
  intro n
  induction n with
  | zero => intro y0 y1 y2 y3 S H locs ls hn hf; rw [pf_X2_init_16] at hf; cases hf
  | succ n ih =>
    intro y0 y1 y2 y3 S H locs ls hn hf hl hw
    rw [pf_X2_init_16] at hf
    refine lv_iload_n hx hb dX2_init_16 rfl (lv_at hl 3 rfl) ?_
    refine lv_iload_n hx hb dX2_init_17 rfl (lv_at hl 1 rfl) ?_
    refine lv_icmp_gt hx hb dX2_init_18 (tgt := 41) (by decide) (fun hc => ?_) (fun hc => ?_)
    · rw [if_pos hc] at hf
      refine W.widen (k := 33) (n := 45248) (by omega) (by omega) ?_
      refine lv_aload_n hx hb dX2_init_41 rfl (lv_at hl 0 rfl) ?_
      obtain ⟨v1, e1, hf⟩ := mw_b hf
      refine mw_getr hx hb hts inX2 hown hw (ci := 2) rfl 0 (by decide) (hts _ tw_182) rfl e1 dX2_init_42 ?_
      refine lv_iconst (v := 0) hx hb dX2_init_45 (by decide) ?_
      obtain ⟨v2, e2, hf⟩ := mw_b hf
      refine mw_aald hx hb hw 7 rfl e2 dX2_init_46 ?_
      refine lv_iconst (v := 1) hx hb dX2_init_47 (by decide) ?_
      refine lv_iconst (v := 0) hx hb dX2_init_48 (by decide) ?_
      obtain ⟨S3, e3, hf⟩ := mw_b hf
      obtain ⟨ho, e3⟩ := mw_v_s e3
      refine mw_callv (va_runV (As := [.int 1, .int 0]) (rest := []) ⟨hx, hb, hml, hown, hts⟩ (cm_X1_openAs l D G N S v2 1 0 S3 e3) (cwV 2 hts (mw_gV tw_174 tw_175 tw_176 tw_10 tw_177) rfl rfl rfl (by decide +kernel) ⟨Nat.le_of_ble_eq_true rfl, Nat.le_of_ble_eq_true rfl⟩) (mw_preV hw (ci := 1) rfl ho) rfl rfl hl.1 rfl (lv_room (Nat.le_of_ble_eq_true rfl)) dX2_init_49 ⟨(Nat.le_of_ble_eq_true rfl), (Nat.le_of_ble_eq_true rfl)⟩) hw (fun H locs hw => ?_)
      refine W.widen (k := 37) (n := 50279) (Nat.le_of_ble_eq_true rfl) (Nat.le_of_ble_eq_true rfl) ?_
      exact mw_vret hx hb hr hlocks hw hf dX2_init_52
    · rw [if_neg hc] at hf
      refine lv_aload_n hx hb dX2_init_21 rfl (lv_at hl 0 rfl) ?_
      obtain ⟨v4, e4, hf⟩ := mw_b hf
      refine mw_getr hx hb hts inX2 hown hw (ci := 2) rfl 0 (by decide) (hts _ tw_182) rfl e4 dX2_init_22 ?_
      refine lv_iload_n hx hb dX2_init_25 rfl (lv_at hl 3 rfl) ?_
      obtain ⟨v5, S5, e5, hf⟩ := mw_bb hf
      refine mw_newc hx hb hts inX1 tyX1 tyX1_ok hown (hts _ tw_149) (hts _ tw_151) (hts _ tw_10) hw (ci := 1) rfl mw_blX1 (by show _ ≤ (37 : Nat); omega) (by show _ ≤ (50279 : Nat); omega) dX2_init_26 e5 (fun H hw => ?_)
      refine lv_dup hx hb dX2_init_29 rfl ?_
      refine lv_iload_n hx hb dX2_init_30 rfl (lv_at hl 2 rfl) ?_
      obtain ⟨S6, e6, hf⟩ := mw_b hf
      refine mw_callv (va_runI (As := [.int y2]) (rest := [.ref v5, .int y3, .ref v4]) ⟨hx, hb, hml, hown, hts⟩ (cm_X1_init l D G N S5 v5 y2 S6 e6) (cwI 1 hts (mw_gI tw_154) rfl rfl rfl (hts _ tw_10) (hts _ tw_152) (hts _ tw_153) rfl (by decide +kernel) ⟨Nat.le_of_ble_eq_true rfl, Nat.le_of_ble_eq_true rfl⟩) (mw_preS hw) rfl rfl hl.1 rfl (lv_room (Nat.le_of_ble_eq_true rfl)) dX2_init_31 ⟨(by show _ ≤ (37 : Nat); omega), (by show _ ≤ (50279 : Nat); omega)⟩) hw (fun H locs hw => ?_)
      obtain ⟨S7, e7, hf⟩ := mw_b hf
      refine mw_aast (r := (RX1, TX1, 5)) hx hb hw 7 1 rfl rfl e7 dX2_init_34 (fun H locs hw => ?_)
      refine lv_iinc (k := 3) (v := (y3 + 1)) hx hb dX2_init_35 hl rfl (congrArg (fun q => y3 + q) (show Int32.ofInt 1 = 1 by decide)) (by decide) rfl (fun ls hl => ?_)
      have hl : lv_has ls 4 [(3, .int (y3 + 1)), (0, .ref y0), (1, .int y1), (2, .int y2)] := hl
      refine lv_goto hx hb dX2_init_38 (tgt := 16) (by decide) ?_
      refine W.widen (k := 1 + (8 - n) * 4) (n := 5000 + (8 - n) * 5031) (by omega) (by omega) ?_
      exact ih _ _ _ _ _ _ _ _ (by omega) hf (lv_sub hl [1, 2, 3, 0] rfl) hw
set_option maxHeartbeats 4000000 in
set_option maxRecDepth 100000 in
theorem cm_X2_init (l : Launch) (D : va_G) (G : Nat → ClassId) (N : Nat) (S : mw_M) (h0 : Nat) (x1 : Int32) (x2 : Int32) (z : mw_M) (hf : pf_X2_init G N S h0 x1 x2 = some z) : Met l yX2_init wsX2_init rmX2_init (va_Pc [.ref h0, .int x1, .int x2] (mw_B D vwCl (mw_tys G) mw_aos S)) (mw_Qv D vwCl (mw_tys G) mw_aos (mw_A S) z) 37 50279 (mw_A S) := by
  refine Met.ofW (cc := cX2_init) (maxL := 4) (ret := none) (by decide) rfl ?_
  intro p e s m args below meth c s₁ B hml hv
  obtain ⟨rfl, hB⟩ := hv
  have hw := mw_begin hB
  have hx := B.exec
  have hb := B.bytes
  have hr := B.returns
  have hts : ∀ w ∈ lw_good, w.before _ s = true := fun w h => atoms_spec (ws := wsX2_init) B.pre w (List.mem_cons_of_mem _ h)
  have hown : s.vm.findClass RX2 = some m.cls := findClass_of_methodNamed B.named
  have hlocks := B.notSynchronized
  have hin : meth.name = "<init>" := (name_of_methodNamed B.named B.method).1
  have hC : mw_C p s m _ meth c cX2_init RX2 none lw_good 4 := ⟨hx, hb, hml, hown, hts, hr, hlocks⟩
  have hl := lv_entry ([.ref h0, .int x1, .int x2]) (n := 4) (Nat.le_of_ble_eq_true rfl)
  rw [lg_entry_eq]
  generalize (lg_sl ([.ref h0, .int x1, .int x2]) ++ List.replicate (4 - (lg_sl ([.ref h0, .int x1, .int x2])).length) Slot.unset).toArray = ls at hl ⊢
  have hl : lv_has ls 4 [(0, .ref h0), (1, .int x1), (2, .int x2)] := hl
  unfold pf_X2_init at hf
  refine lv_aload_n hx hb dX2_init_0 rfl (lv_at hl 0 rfl) ?_
  refine W.objInit hx hb hown (hts _ tw_148) (hts _ tw_23) (hts _ tw_24) rfl (by rw [hml]; exact hl.1) rfl dX2_init_1 (Nat.le_of_ble_eq_true rfl) (Nat.le_of_ble_eq_true rfl) ?_
  refine W.eq (g2 := F0 m 4 ls []) rfl ?_
  refine lv_aload_n hx hb dX2_init_4 rfl (lv_at hl 0 rfl) ?_
  refine lv_iload_n hx hb dX2_init_5 rfl (lv_at hl 1 rfl) ?_
  refine lv_iconst (v := 1) hx hb dX2_init_6 (by decide) ?_
  refine lv_iadd hx hb dX2_init_7 ?_
  obtain ⟨v1, S1, e1, hf⟩ := mw_bb hf
  refine mw_newq hx hb hown (hts _ tw_149) (by decide) hw 7 rfl (by decide) (Nat.le_of_ble_eq_true rfl) (Nat.le_of_ble_eq_true rfl) e1 dX2_init_8 (fun H hw => ?_)
  obtain ⟨S2, e2, hf⟩ := mw_b hf
  refine mw_putF hx hb hts inX2 tyX2 tyX2_ok nX2 hown hw (ci := 2) rfl 0 (by decide) (hts _ tw_182) rfl rfl hin rfl (ty := (.array (.object "EventRecorder$Chunk"))) (by decide +kernel) rfl rfl e2 dX2_init_11 (fun H locs hw => ?_)
  refine lv_iconst (v := 0) hx hb dX2_init_14 (by decide) ?_
  refine lv_istore_n hx hb dX2_init_15 rfl hl (by decide) rfl (fun ls hl => ?_)
  have hl : lv_has ls 4 [(3, .int 0), (0, .ref h0), (1, .int x1), (2, .int x2)] := hl
  exact bX2_init_16 ⟨hx, hb, hml, hown, hts, hr, hlocks⟩ hin D G N 8 _ _ _ _ _ _ _ _ (Nat.le_refl _) hf (lv_sub hl [1, 2, 3, 0] rfl) hw
abbrev rmX8_init : Room := { frames := 4, cells := 127, slots := 150803, locals := 77 }
abbrev wsX8_init : List Cond := Cond.code yX8_init cX8_init 8 none :: lw_good
set_option maxHeartbeats 4000000 in
set_option maxRecDepth 100000 in
theorem bX8_init_149 {p : Program} {l : Launch} {e : Env} {s : State} {m : MethodId} {args : Array Value} {below : List Frame} {meth : Method} {c : Code} (hC : mw_C p s m args meth c cX8_init RX8 none lw_good 8) (hin : meth.name = "<init>") (D : va_G) (G : Nat → ClassId) (N : Nat) {A : Nat → Prop} {z : mw_M} : ∀ (n : Nat) (y0 : Nat) (y4 : Int32) (y5 : Int32) (y6 : Int32) (y7 : Int32) (S : mw_M) (H : Heap) (locs : List Loc) (ls : Array Slot), n ≤ 8 → pf_X8_init_149 G N n y0 y4 y5 y6 y7 S = some z → lv_has ls 8 [(0, .ref y0), (4, .int y4), (5, .int y5), (6, .int y6), (7, .int y7)] → mw_W D vwCl (mw_tys G) mw_aos A s S H locs → W p l e (headSpec wsX8_init rmX8_init).room s m args below meth c H locs (41 + (8 - n) * 3) (40360 + (8 - n) * 17) (MQ below (mw_Qv D vwCl (mw_tys G) mw_aos A z) args s 127 150803 A) (F0 m 149 ls []) := by
  obtain ⟨hx, hb, hml, hown, hts, hr, hlocks⟩ := hC
  intro n
  induction n with
  | zero => intro y0 y4 y5 y6 y7 S H locs ls hn hf; rw [pf_X8_init_149] at hf; cases hf
  | succ n ih =>
    intro y0 y4 y5 y6 y7 S H locs ls hn hf hl hw
    rw [pf_X8_init_149] at hf
    refine lv_iload hx hb dX8_init_149 (lv_at hl 4 rfl) ?_
    refine lv_iconst (v := 4) hx hb dX8_init_151 (by decide) ?_
    refine lv_icmp_ge hx hb dX8_init_152 (tgt := 175) (by decide) (fun hc => ?_) (fun hc => ?_)
    · rw [if_pos hc] at hf
      refine W.widen (k := 65) (n := 40496) (by omega) (by omega) ?_
      refine lv_aload_n hx hb dX8_init_175 rfl (lv_at hl 0 rfl) ?_
      obtain ⟨v1, S1, e1, hf⟩ := mw_bb hf
      refine mw_newc hx hb hts inX4 tyX4 tyX4_ok hown (hts _ tw_124) (hts _ tw_125) (hts _ tw_8) hw (ci := 4) rfl mw_blX4 (Nat.le_of_ble_eq_true rfl) (Nat.le_of_ble_eq_true rfl) dX8_init_176 e1 (fun H hw => ?_)
      refine lv_dup hx hb dX8_init_179 rfl ?_
      refine lv_iload hx hb dX8_init_180 (lv_at hl 1 rfl) ?_
      refine lv_aload_n hx hb dX8_init_182 rfl (lv_at hl 0 rfl) ?_
      obtain ⟨v2, e2, hf⟩ := mw_b hf
      refine mw_geti hx hb hts inX8 hown hw (ci := 8) rfl 0 (by decide) (hts _ tw_194) rfl e2 dX8_init_183 ?_
      obtain ⟨S3, e3, hf⟩ := mw_b hf
      refine mw_callv (va_runI (As := [.int y4, .int v2]) (rest := [.ref v1, .ref y0]) ⟨hx, hb, hml, hown, hts⟩ (cm_X4_init l D G N S1 v1 y4 v2 S3 e3) (cwI 2 hts (mw_gI tw_128) rfl rfl rfl (hts _ tw_8) (hts _ tw_126) (hts _ tw_127) rfl (by decide +kernel) ⟨Nat.le_of_ble_eq_true rfl, Nat.le_of_ble_eq_true rfl⟩) (mw_preS hw) rfl rfl hl.1 rfl (lv_room (Nat.le_of_ble_eq_true rfl)) dX8_init_186 ⟨(Nat.le_of_ble_eq_true rfl), (Nat.le_of_ble_eq_true rfl)⟩) hw (fun H locs hw => ?_)
      obtain ⟨S4, e4, hf⟩ := mw_b hf
      refine mw_putF hx hb hts inX8 tyX8 tyX8_ok nX8 hown hw (ci := 8) rfl 9 (by decide) (hts _ tw_203) rfl rfl hin rfl (ty := (.object "EventRecorder$Pool")) (by decide +kernel) rfl rfl e4 dX8_init_189 (fun H locs hw => ?_)
      refine lv_aload_n hx hb dX8_init_192 rfl (lv_at hl 0 rfl) ?_
      obtain ⟨v5, S5, e5, hf⟩ := mw_bb hf
      refine mw_newc hx hb hts inX2 tyX2 tyX2_ok hown (hts _ tw_143) (hts _ tw_144) (hts _ tw_9) hw (ci := 2) rfl mw_blX2 (Nat.le_of_ble_eq_true rfl) (Nat.le_of_ble_eq_true rfl) dX8_init_193 e5 (fun H hw => ?_)
      refine lv_dup hx hb dX8_init_196 rfl ?_
      refine lv_iload hx hb dX8_init_197 (lv_at hl 2 rfl) ?_
      refine lv_iload hx hb dX8_init_199 (lv_at hl 3 rfl) ?_
      obtain ⟨S6, e6, hf⟩ := mw_b hf
      refine mw_callv (va_runI (As := [.int y5, .int y6]) (rest := [.ref v5, .ref y0]) ⟨hx, hb, hml, hown, hts⟩ (cm_X2_init l D G N S5 v5 y5 y6 S6 e6) (cwI 2 hts (mw_gI tw_147) rfl rfl rfl (hts _ tw_9) (hts _ tw_145) (hts _ tw_146) rfl (by decide +kernel) ⟨Nat.le_of_ble_eq_true rfl, Nat.le_of_ble_eq_true rfl⟩) (mw_preS hw) rfl rfl hl.1 rfl (lv_room (Nat.le_of_ble_eq_true rfl)) dX8_init_201 ⟨(Nat.le_of_ble_eq_true rfl), (Nat.le_of_ble_eq_true rfl)⟩) hw (fun H locs hw => ?_)
      obtain ⟨S7, e7, hf⟩ := mw_b hf
      refine mw_putF hx hb hts inX8 tyX8 tyX8_ok nX8 hown hw (ci := 8) rfl 10 (by decide) (hts _ tw_204) rfl rfl hin rfl (ty := (.object "EventRecorder$Chunks")) (by decide +kernel) rfl rfl e7 dX8_init_204 (fun H locs hw => ?_)
      refine lv_aload_n hx hb dX8_init_207 rfl (lv_at hl 0 rfl) ?_
      obtain ⟨v8, S8, e8, hf⟩ := mw_bb hf
      refine mw_newc hx hb hts inX0 tyX0 tyX0_ok hown (hts _ tw_192) (hts _ tw_70) (hts _ tw_6) hw (ci := 0) rfl mw_blX0 (Nat.le_of_ble_eq_true rfl) (Nat.le_of_ble_eq_true rfl) dX8_init_208 e8 (fun H hw => ?_)
      refine lv_dup hx hb dX8_init_211 rfl ?_
      refine lv_bipush (v := 27) hx hb dX8_init_212 (by decide) ?_
      obtain ⟨S9, e9, hf⟩ := mw_b hf
      refine mw_callv (va_runI (As := [.int 27]) (rest := [.ref v8, .ref y0]) ⟨hx, hb, hml, hown, hts⟩ (cm_X0_init l D G N S8 v8 27 S9 e9) (cwI 1 hts (mw_gI tw_73) rfl rfl rfl (hts _ tw_6) (hts _ tw_193) (hts _ tw_72) rfl (by decide +kernel) ⟨Nat.le_of_ble_eq_true rfl, Nat.le_of_ble_eq_true rfl⟩) (mw_preS hw) rfl rfl hl.1 rfl (lv_room (Nat.le_of_ble_eq_true rfl)) dX8_init_214 ⟨(Nat.le_of_ble_eq_true rfl), (Nat.le_of_ble_eq_true rfl)⟩) hw (fun H locs hw => ?_)
      obtain ⟨S10, e10, hf⟩ := mw_b hf
      refine mw_putF hx hb hts inX8 tyX8 tyX8_ok nX8 hown hw (ci := 8) rfl 11 (by decide) (hts _ tw_205) rfl rfl hin rfl (ty := (.object "EventRecorder$ByteRow")) (by decide +kernel) rfl rfl e10 dX8_init_217 (fun H locs hw => ?_)
      refine lv_aload_n hx hb dX8_init_220 rfl (lv_at hl 0 rfl) ?_
      obtain ⟨v11, S11, e11, hf⟩ := mw_bb hf
      refine mw_newc hx hb hts inX0 tyX0 tyX0_ok hown (hts _ tw_192) (hts _ tw_70) (hts _ tw_6) hw (ci := 0) rfl mw_blX0 (Nat.le_of_ble_eq_true rfl) (Nat.le_of_ble_eq_true rfl) dX8_init_221 e11 (fun H hw => ?_)
      refine lv_dup hx hb dX8_init_224 rfl ?_
      refine lv_iload hx hb dX8_init_225 (lv_at hl 2 rfl) ?_
      refine lv_iload hx hb dX8_init_227 (lv_at hl 3 rfl) ?_
      refine lv_sipush (v := 258) hx hb dX8_init_229 (by decide) ?_
      refine lv_iadd hx hb dX8_init_232 ?_
      refine lv_imul hx hb dX8_init_233 ?_
      obtain ⟨S12, e12, hf⟩ := mw_b hf
      refine mw_callv (va_runI (As := [.int (y5 * (y6 + 258))]) (rest := [.ref v11, .ref y0]) ⟨hx, hb, hml, hown, hts⟩ (cm_X0_init l D G N S11 v11 (y5 * (y6 + 258)) S12 e12) (cwI 1 hts (mw_gI tw_73) rfl rfl rfl (hts _ tw_6) (hts _ tw_193) (hts _ tw_72) rfl (by decide +kernel) ⟨Nat.le_of_ble_eq_true rfl, Nat.le_of_ble_eq_true rfl⟩) (mw_preS hw) rfl rfl hl.1 rfl (lv_room (Nat.le_of_ble_eq_true rfl)) dX8_init_234 ⟨(Nat.le_of_ble_eq_true rfl), (Nat.le_of_ble_eq_true rfl)⟩) hw (fun H locs hw => ?_)
      obtain ⟨S13, e13, hf⟩ := mw_b hf
      refine mw_putF hx hb hts inX8 tyX8 tyX8_ok nX8 hown hw (ci := 8) rfl 12 (by decide) (hts _ tw_206) rfl rfl hin rfl (ty := (.object "EventRecorder$ByteRow")) (by decide +kernel) rfl rfl e13 dX8_init_237 (fun H locs hw => ?_)
      refine W.widen (k := 127) (n := 150803) (Nat.le_of_ble_eq_true rfl) (Nat.le_of_ble_eq_true rfl) ?_
      exact mw_vret hx hb hr hlocks hw hf dX8_init_240
    · rw [if_neg hc] at hf
      refine lv_aload_n hx hb dX8_init_155 rfl (lv_at hl 0 rfl) ?_
      obtain ⟨v14, e14, hf⟩ := mw_b hf
      refine mw_getr hx hb hts inX8 hown hw (ci := 8) rfl 7 (by decide) (hts _ tw_201) rfl e14 dX8_init_156 ?_
      refine lv_iload hx hb dX8_init_159 (lv_at hl 4 rfl) ?_
      obtain ⟨v15, S15, e15, hf⟩ := mw_bb hf
      refine mw_newc hx hb hts inX5 tyX5 tyX5_ok hown (hts _ tw_99) (hts _ tw_101) (hts _ tw_7) hw (ci := 5) rfl mw_blX5 (by show _ ≤ (127 : Nat); omega) (by show _ ≤ (150803 : Nat); omega) dX8_init_161 e15 (fun H hw => ?_)
      refine lv_dup hx hb dX8_init_164 rfl ?_
      obtain ⟨S16, e16, hf⟩ := mw_b hf
      refine mw_callv (va_runI (As := []) (rest := [.ref v15, .int y7, .ref v14]) ⟨hx, hb, hml, hown, hts⟩ (cm_X5_init l D G N S15 v15 S16 e16) (cwI 0 hts (mw_gI tw_104) rfl rfl rfl (hts _ tw_7) (hts _ tw_102) (hts _ tw_103) rfl (by decide +kernel) ⟨Nat.le_of_ble_eq_true rfl, Nat.le_of_ble_eq_true rfl⟩) (mw_preS hw) rfl rfl hl.1 rfl (lv_room (Nat.le_of_ble_eq_true rfl)) dX8_init_165 ⟨(by show _ ≤ (127 : Nat); omega), (by show _ ≤ (150803 : Nat); omega)⟩) hw (fun H locs hw => ?_)
      obtain ⟨S17, e17, hf⟩ := mw_b hf
      refine mw_aast (r := (RX5, TX5, 5)) hx hb hw 5 5 rfl rfl e17 dX8_init_168 (fun H locs hw => ?_)
      refine lv_iinc (k := 4) (v := (y7 + 1)) hx hb dX8_init_169 hl rfl (congrArg (fun q => y7 + q) (show Int32.ofInt 1 = 1 by decide)) (by decide) rfl (fun ls hl => ?_)
      have hl : lv_has ls 8 [(7, .int (y7 + 1)), (0, .ref y0), (4, .int y4), (5, .int y5), (6, .int y6)] := hl
      refine lv_goto hx hb dX8_init_172 (tgt := 149) (by decide) ?_
      refine W.widen (k := 41 + (8 - n) * 3) (n := 40360 + (8 - n) * 17) (by omega) (by omega) ?_
      exact ih _ _ _ _ _ _ _ _ _ (by omega) hf (lv_sub hl [1, 2, 3, 4, 0] rfl) hw
set_option maxHeartbeats 4000000 in
set_option maxRecDepth 100000 in
theorem bX8_init_92 {p : Program} {l : Launch} {e : Env} {s : State} {m : MethodId} {args : Array Value} {below : List Frame} {meth : Method} {c : Code} (hC : mw_C p s m args meth c cX8_init RX8 none lw_good 8) (hin : meth.name = "<init>") (D : va_G) (G : Nat → ClassId) (N : Nat) {A : Nat → Prop} {z : mw_M} : ∀ (n : Nat) (y0 : Nat) (y4 : Int32) (y5 : Int32) (y6 : Int32) (y7 : Int32) (S : mw_M) (H : Heap) (locs : List Loc) (ls : Array Slot), n ≤ 8 → pf_X8_init_92 G N n y0 y4 y5 y6 y7 S = some z → lv_has ls 8 [(0, .ref y0), (4, .int y4), (5, .int y5), (6, .int y6), (7, .int y7)] → mw_W D vwCl (mw_tys G) mw_aos A s S H locs → W p l e (headSpec wsX8_init rmX8_init).room s m args below meth c H locs (6 + (8 - n) * 4) (264 + (8 - n) * 5010) (MQ below (mw_Qv D vwCl (mw_tys G) mw_aos A z) args s 127 150803 A) (F0 m 92 ls []) := by
  obtain ⟨hx, hb, hml, hown, hts, hr, hlocks⟩ := hC
  intro n
  induction n with
  | zero => intro y0 y4 y5 y6 y7 S H locs ls hn hf; rw [pf_X8_init_92] at hf; cases hf
  | succ n ih =>
    intro y0 y4 y5 y6 y7 S H locs ls hn hf hl hw
    rw [pf_X8_init_92] at hf
    refine lv_iload hx hb dX8_init_92 (lv_at hl 4 rfl) ?_
    refine lv_iconst (v := 3) hx hb dX8_init_94 (by decide) ?_
    refine lv_icmp_ge hx hb dX8_init_95 (tgt := 122) (by decide) (fun hc => ?_) (fun hc => ?_)
    · rw [if_pos hc] at hf
      refine W.widen (k := 38) (n := 40344) (by omega) (by omega) ?_
      refine lv_aload_n hx hb dX8_init_122 rfl (lv_at hl 0 rfl) ?_
      refine lv_bipush (v := 6) hx hb dX8_init_123 (by decide) ?_
      obtain ⟨v1, S1, e1, hf⟩ := mw_bb hf
      refine mw_newa (atype := .int) hx hb (hts _ tw_61) rfl rfl hw 0 rfl rfl (by decide) (Nat.le_of_ble_eq_true rfl) (Nat.le_of_ble_eq_true rfl) e1 dX8_init_125 (fun H hw => ?_)
      obtain ⟨S2, e2, hf⟩ := mw_b hf
      refine mw_putF hx hb hts inX8 tyX8 tyX8_ok nX8 hown hw (ci := 8) rfl 4 (by decide) (hts _ tw_198) rfl rfl hin rfl (ty := (.array .int)) (by decide +kernel) rfl rfl e2 dX8_init_127 (fun H locs hw => ?_)
      refine lv_aload_n hx hb dX8_init_130 rfl (lv_at hl 0 rfl) ?_
      refine lv_bipush (v := 6) hx hb dX8_init_131 (by decide) ?_
      obtain ⟨v3, S3, e3, hf⟩ := mw_bb hf
      refine mw_newa (atype := .boolean) hx hb (hts _ tw_123) rfl rfl hw 3 rfl rfl (by decide) (Nat.le_of_ble_eq_true rfl) (Nat.le_of_ble_eq_true rfl) e3 dX8_init_133 (fun H hw => ?_)
      obtain ⟨S4, e4, hf⟩ := mw_b hf
      refine mw_putF hx hb hts inX8 tyX8 tyX8_ok nX8 hown hw (ci := 8) rfl 5 (by decide) (hts _ tw_199) rfl rfl hin rfl (ty := (.array .boolean)) (by decide +kernel) rfl rfl e4 dX8_init_135 (fun H locs hw => ?_)
      refine lv_aload_n hx hb dX8_init_138 rfl (lv_at hl 0 rfl) ?_
      refine lv_iconst (v := 4) hx hb dX8_init_139 (by decide) ?_
      obtain ⟨v5, S5, e5, hf⟩ := mw_bb hf
      refine mw_newq hx hb hown (hts _ tw_99) (by decide) hw 5 rfl (by decide) (Nat.le_of_ble_eq_true rfl) (Nat.le_of_ble_eq_true rfl) e5 dX8_init_140 (fun H hw => ?_)
      obtain ⟨S6, e6, hf⟩ := mw_b hf
      refine mw_putF hx hb hts inX8 tyX8 tyX8_ok nX8 hown hw (ci := 8) rfl 7 (by decide) (hts _ tw_201) rfl rfl hin rfl (ty := (.array (.object "EventRecorder$Recording"))) (by decide +kernel) rfl rfl e6 dX8_init_143 (fun H locs hw => ?_)
      refine lv_iconst (v := 0) hx hb dX8_init_146 (by decide) ?_
      refine lv_istore hx hb dX8_init_147 hl (by decide) rfl (fun ls hl => ?_)
      have hl : lv_has ls 8 [(7, .int 0), (0, .ref y0), (4, .int y4), (5, .int y5), (6, .int y6)] := hl
      exact bX8_init_149 ⟨hx, hb, hml, hown, hts, hr, hlocks⟩ hin D G N 8 _ _ _ _ _ _ _ _ _ (Nat.le_refl _) hf (lv_sub hl [1, 2, 3, 4, 0] rfl) hw
    · rw [if_neg hc] at hf
      refine lv_aload_n hx hb dX8_init_98 rfl (lv_at hl 0 rfl) ?_
      obtain ⟨v7, e7, hf⟩ := mw_b hf
      refine mw_getr hx hb hts inX8 hown hw (ci := 8) rfl 3 (by decide) (hts _ tw_197) rfl e7 dX8_init_99 ?_
      refine lv_iload hx hb dX8_init_102 (lv_at hl 4 rfl) ?_
      obtain ⟨v8, S8, e8, hf⟩ := mw_bb hf
      refine mw_newc hx hb hts inX3 tyX3 tyX3_ok hown (hts _ tw_62) (hts _ tw_64) (hts _ tw_5) hw (ci := 3) rfl mw_blX3 (by show _ ≤ (127 : Nat); omega) (by show _ ≤ (150803 : Nat); omega) dX8_init_104 e8 (fun H hw => ?_)
      refine lv_dup hx hb dX8_init_107 rfl ?_
      refine lv_aload_n hx hb dX8_init_108 rfl (lv_at hl 0 rfl) ?_
      obtain ⟨v9, e9, hf⟩ := mw_b hf
      refine mw_geti hx hb hts inX8 hown hw (ci := 8) rfl 0 (by decide) (hts _ tw_194) rfl e9 dX8_init_109 ?_
      obtain ⟨S10, e10, hf⟩ := mw_b hf
      refine mw_callv (va_runI (As := [.int v9]) (rest := [.ref v8, .int y7, .ref v7]) ⟨hx, hb, hml, hown, hts⟩ (cm_X3_init l D G N S8 v8 v9 S10 e10) (cwI 1 hts (mw_gI tw_67) rfl rfl rfl (hts _ tw_5) (hts _ tw_65) (hts _ tw_66) rfl (by decide +kernel) ⟨Nat.le_of_ble_eq_true rfl, Nat.le_of_ble_eq_true rfl⟩) (mw_preS hw) rfl rfl hl.1 rfl (lv_room (Nat.le_of_ble_eq_true rfl)) dX8_init_112 ⟨(by show _ ≤ (127 : Nat); omega), (by show _ ≤ (150803 : Nat); omega)⟩) hw (fun H locs hw => ?_)
      obtain ⟨S11, e11, hf⟩ := mw_b hf
      refine mw_aast (r := (RX3, TX3, 5)) hx hb hw 4 3 rfl rfl e11 dX8_init_115 (fun H locs hw => ?_)
      refine lv_iinc (k := 4) (v := (y7 + 1)) hx hb dX8_init_116 hl rfl (congrArg (fun q => y7 + q) (show Int32.ofInt 1 = 1 by decide)) (by decide) rfl (fun ls hl => ?_)
      have hl : lv_has ls 8 [(7, .int (y7 + 1)), (0, .ref y0), (4, .int y4), (5, .int y5), (6, .int y6)] := hl
      refine lv_goto hx hb dX8_init_119 (tgt := 92) (by decide) ?_
      refine W.widen (k := 6 + (8 - n) * 4) (n := 264 + (8 - n) * 5010) (by omega) (by omega) ?_
      exact ih _ _ _ _ _ _ _ _ _ (by omega) hf (lv_sub hl [1, 2, 3, 4, 0] rfl) hw
set_option maxHeartbeats 4000000 in
set_option maxRecDepth 100000 in
theorem cm_X8_init (l : Launch) (D : va_G) (G : Nat → ClassId) (N : Nat) (S : mw_M) (h0 : Nat) (x1 : Int32) (x2 : Int32) (x3 : Int32) (z : mw_M) (hf : pf_X8_init G N S h0 x1 x2 x3 = some z) : Met l yX8_init wsX8_init rmX8_init (va_Pc [.ref h0, .int x1, .int x2, .int x3] (mw_B D vwCl (mw_tys G) mw_aos S)) (mw_Qv D vwCl (mw_tys G) mw_aos (mw_A S) z) 127 150803 (mw_A S) := by
  refine Met.ofW (cc := cX8_init) (maxL := 8) (ret := none) (by decide) rfl ?_
  intro p e s m args below meth c s₁ B hml hv
  obtain ⟨rfl, hB⟩ := hv
  have hw := mw_begin hB
  have hx := B.exec
  have hb := B.bytes
  have hr := B.returns
  have hts : ∀ w ∈ lw_good, w.before _ s = true := fun w h => atoms_spec (ws := wsX8_init) B.pre w (List.mem_cons_of_mem _ h)
  have hown : s.vm.findClass RX8 = some m.cls := findClass_of_methodNamed B.named
  have hlocks := B.notSynchronized
  have hin : meth.name = "<init>" := (name_of_methodNamed B.named B.method).1
  have hC : mw_C p s m _ meth c cX8_init RX8 none lw_good 8 := ⟨hx, hb, hml, hown, hts, hr, hlocks⟩
  have hl := lv_entry ([.ref h0, .int x1, .int x2, .int x3]) (n := 8) (Nat.le_of_ble_eq_true rfl)
  rw [lg_entry_eq]
  generalize (lg_sl ([.ref h0, .int x1, .int x2, .int x3]) ++ List.replicate (8 - (lg_sl ([.ref h0, .int x1, .int x2, .int x3])).length) Slot.unset).toArray = ls at hl ⊢
  have hl : lv_has ls 8 [(0, .ref h0), (1, .int x1), (2, .int x2), (3, .int x3)] := hl
  unfold pf_X8_init at hf
  refine lv_aload_n hx hb dX8_init_0 rfl (lv_at hl 0 rfl) ?_
  refine W.objInit hx hb hown (hts _ tw_22) (hts _ tw_23) (hts _ tw_24) rfl (by rw [hml]; exact hl.1) rfl dX8_init_1 (Nat.le_of_ble_eq_true rfl) (Nat.le_of_ble_eq_true rfl) ?_
  refine W.eq (g2 := F0 m 4 ls []) rfl ?_
  refine lv_aload_n hx hb dX8_init_4 rfl (lv_at hl 0 rfl) ?_
  refine lv_bipush (v := 16) hx hb dX8_init_5 (by decide) ?_
  refine lv_iload_n hx hb dX8_init_7 rfl (lv_at hl 1 rfl) ?_
  refine lv_bipush (v := 60) hx hb dX8_init_8 (by decide) ?_
  refine va_mmin hx hb (by rw [hml]; exact hl.1.symm) hown (hts _ tw_25) (hts _ tw_26) (hts _ tw_2) (hts _ tw_27) (Nat.le_of_ble_eq_true rfl) (Nat.le_of_ble_eq_true rfl) (Nat.le_of_ble_eq_true rfl) (Nat.le_of_ble_eq_true rfl) dX8_init_10 ?_
  refine va_mmax hx hb (by rw [hml]; exact hl.1.symm) hown (hts _ tw_28) (hts _ tw_29) (hts _ tw_2) (hts _ tw_30) (Nat.le_of_ble_eq_true rfl) (Nat.le_of_ble_eq_true rfl) (Nat.le_of_ble_eq_true rfl) (Nat.le_of_ble_eq_true rfl) dX8_init_13 ?_
  obtain ⟨S1, e1, hf⟩ := mw_b hf
  refine mw_putF hx hb hts inX8 tyX8 tyX8_ok nX8 hown hw (ci := 8) rfl 0 (by decide) (hts _ tw_194) rfl rfl hin rfl (ty := .int) (by decide +kernel) rfl rfl e1 dX8_init_16 (fun H locs hw => ?_)
  refine lv_iconst (v := 0) hx hb dX8_init_19 (by decide) ?_
  refine lv_iload_n hx hb dX8_init_20 rfl (lv_at hl 2 rfl) ?_
  refine lv_iconst (v := 4) hx hb dX8_init_21 (by decide) ?_
  refine va_mmin hx hb (by rw [hml]; exact hl.1.symm) hown (hts _ tw_25) (hts _ tw_26) (hts _ tw_2) (hts _ tw_27) (Nat.le_of_ble_eq_true rfl) (Nat.le_of_ble_eq_true rfl) (Nat.le_of_ble_eq_true rfl) (Nat.le_of_ble_eq_true rfl) dX8_init_22 ?_
  refine va_mmax hx hb (by rw [hml]; exact hl.1.symm) hown (hts _ tw_28) (hts _ tw_29) (hts _ tw_2) (hts _ tw_30) (Nat.le_of_ble_eq_true rfl) (Nat.le_of_ble_eq_true rfl) (Nat.le_of_ble_eq_true rfl) (Nat.le_of_ble_eq_true rfl) dX8_init_25 ?_
  refine lv_istore hx hb dX8_init_28 hl (by decide) rfl (fun ls hl => ?_)
  have hl : lv_has ls 8 [(4, .int (if 0 < (if 4 < x2 then 4 else x2) then (if 4 < x2 then 4 else x2) else 0)), (0, .ref h0), (1, .int x1), (2, .int x2), (3, .int x3)] := hl
  refine lv_iconst (v := 1) hx hb dX8_init_30 (by decide) ?_
  refine lv_iload_n hx hb dX8_init_31 rfl (lv_at hl 4 rfl) ?_
  refine lv_iconst (v := 5) hx hb dX8_init_32 (by decide) ?_
  refine va_mmin hx hb (by rw [hml]; exact hl.1.symm) hown (hts _ tw_25) (hts _ tw_26) (hts _ tw_2) (hts _ tw_27) (Nat.le_of_ble_eq_true rfl) (Nat.le_of_ble_eq_true rfl) (Nat.le_of_ble_eq_true rfl) (Nat.le_of_ble_eq_true rfl) dX8_init_33 ?_
  refine va_mmax hx hb (by rw [hml]; exact hl.1.symm) hown (hts _ tw_28) (hts _ tw_29) (hts _ tw_2) (hts _ tw_30) (Nat.le_of_ble_eq_true rfl) (Nat.le_of_ble_eq_true rfl) (Nat.le_of_ble_eq_true rfl) (Nat.le_of_ble_eq_true rfl) dX8_init_36 ?_
  refine lv_istore hx hb dX8_init_39 hl (by decide) rfl (fun ls hl => ?_)
  have hl : lv_has ls 8 [(5, .int (if 1 < (if 5 < x3 then 5 else x3) then (if 5 < x3 then 5 else x3) else 1)), (4, .int (if 0 < (if 4 < x2 then 4 else x2) then (if 4 < x2 then 4 else x2) else 0)), (0, .ref h0), (1, .int x1), (2, .int x2), (3, .int x3)] := hl
  refine lv_sipush (v := 150) hx hb dX8_init_41 (by decide) ?_
  refine lv_iload hx hb dX8_init_44 (lv_at hl 1 rfl) ?_
  refine lv_iconst (v := 3) hx hb dX8_init_46 (by decide) ?_
  refine lv_iadd hx hb dX8_init_47 ?_
  refine lv_aload_n hx hb dX8_init_48 rfl (lv_at hl 2 rfl) ?_
  obtain ⟨v2, e2, hf⟩ := mw_b hf
  refine mw_geti hx hb hts inX8 hown hw (ci := 8) rfl 0 (by decide) (hts _ tw_194) rfl e2 dX8_init_49 ?_
  refine lv_imul hx hb dX8_init_52 ?_
  refine lv_iadd hx hb dX8_init_53 ?_
  refine lv_bipush (v := 24) hx hb dX8_init_54 (by decide) ?_
  refine lv_iadd hx hb dX8_init_56 ?_
  refine lv_istore hx hb dX8_init_57 hl (by decide) rfl (fun ls hl => ?_)
  have hl : lv_has ls 8 [(6, .int ((150 + (((if 0 < (if 4 < x2 then 4 else x2) then (if 4 < x2 then 4 else x2) else 0) + 3) * v2)) + 24)), (5, .int (if 1 < (if 5 < x3 then 5 else x3) then (if 5 < x3 then 5 else x3) else 1)), (4, .int (if 0 < (if 4 < x2 then 4 else x2) then (if 4 < x2 then 4 else x2) else 0)), (0, .ref h0), (1, .int x1), (2, .int x2), (3, .int x3)] := hl
  refine lv_aload_n hx hb dX8_init_59 rfl (lv_at hl 3 rfl) ?_
  obtain ⟨v3, S3, e3, hf⟩ := mw_bb hf
  refine mw_newc hx hb hts inX7 tyX7 tyX7_ok hown (hts _ tw_31) (hts _ tw_32) (hts _ tw_3) hw (ci := 7) rfl mw_blX7 (Nat.le_of_ble_eq_true rfl) (Nat.le_of_ble_eq_true rfl) dX8_init_60 e3 (fun H hw => ?_)
  refine lv_dup hx hb dX8_init_63 rfl ?_
  obtain ⟨S4, e4, hf⟩ := mw_b hf
  refine mw_callv (va_runI (As := []) (rest := [.ref v3, .ref h0]) ⟨hx, hb, hml, hown, hts⟩ (cm_X7_init l D G N S3 v3 S4 e4) (cwI 0 hts (mw_gI tw_35) rfl rfl rfl (hts _ tw_3) (hts _ tw_33) (hts _ tw_34) rfl (by decide +kernel) ⟨Nat.le_of_ble_eq_true rfl, Nat.le_of_ble_eq_true rfl⟩) (mw_preS hw) rfl rfl hl.1 rfl (lv_room (Nat.le_of_ble_eq_true rfl)) dX8_init_64 ⟨(Nat.le_of_ble_eq_true rfl), (Nat.le_of_ble_eq_true rfl)⟩) hw (fun H locs hw => ?_)
  obtain ⟨S5, e5, hf⟩ := mw_b hf
  refine mw_putF hx hb hts inX8 tyX8 tyX8_ok nX8 hown hw (ci := 8) rfl 1 (by decide) (hts _ tw_195) rfl rfl hin rfl (ty := (.object "EventRecorder$Text")) (by decide +kernel) rfl rfl e5 dX8_init_67 (fun H locs hw => ?_)
  refine lv_aload_n hx hb dX8_init_70 rfl (lv_at hl 3 rfl) ?_
  obtain ⟨v6, S6, e6, hf⟩ := mw_bb hf
  refine mw_newc hx hb hts inX6 tyX6 tyX6_ok hown (hts _ tw_45) (hts _ tw_46) (hts _ tw_4) hw (ci := 6) rfl mw_blX6 (Nat.le_of_ble_eq_true rfl) (Nat.le_of_ble_eq_true rfl) dX8_init_71 e6 (fun H hw => ?_)
  refine lv_dup hx hb dX8_init_74 rfl ?_
  obtain ⟨S7, e7, hf⟩ := mw_b hf
  refine mw_callv (va_runI (As := []) (rest := [.ref v6, .ref h0]) ⟨hx, hb, hml, hown, hts⟩ (cm_X6_init l D G N S6 v6 S7 e7) (cwI 0 hts (mw_gI tw_49) rfl rfl rfl (hts _ tw_4) (hts _ tw_47) (hts _ tw_48) rfl (by decide +kernel) ⟨Nat.le_of_ble_eq_true rfl, Nat.le_of_ble_eq_true rfl⟩) (mw_preS hw) rfl rfl hl.1 rfl (lv_room (Nat.le_of_ble_eq_true rfl)) dX8_init_75 ⟨(Nat.le_of_ble_eq_true rfl), (Nat.le_of_ble_eq_true rfl)⟩) hw (fun H locs hw => ?_)
  obtain ⟨S8, e8, hf⟩ := mw_b hf
  refine mw_putF hx hb hts inX8 tyX8 tyX8_ok nX8 hown hw (ci := 8) rfl 2 (by decide) (hts _ tw_196) rfl rfl hin rfl (ty := (.object "EventRecorder$StringTable")) (by decide +kernel) rfl rfl e8 dX8_init_78 (fun H locs hw => ?_)
  refine lv_aload_n hx hb dX8_init_81 rfl (lv_at hl 3 rfl) ?_
  refine lv_iconst (v := 3) hx hb dX8_init_82 (by decide) ?_
  obtain ⟨v9, S9, e9, hf⟩ := mw_bb hf
  refine mw_newq hx hb hown (hts _ tw_62) (by decide) hw 4 rfl (by decide) (Nat.le_of_ble_eq_true rfl) (Nat.le_of_ble_eq_true rfl) e9 dX8_init_83 (fun H hw => ?_)
  obtain ⟨S10, e10, hf⟩ := mw_b hf
  refine mw_putF hx hb hts inX8 tyX8 tyX8_ok nX8 hown hw (ci := 8) rfl 3 (by decide) (hts _ tw_197) rfl rfl hin rfl (ty := (.array (.object "EventRecorder$EventThread"))) (by decide +kernel) rfl rfl e10 dX8_init_86 (fun H locs hw => ?_)
  refine lv_iconst (v := 0) hx hb dX8_init_89 (by decide) ?_
  refine lv_istore hx hb dX8_init_90 hl (by decide) rfl (fun ls hl => ?_)
  have hl : lv_has ls 8 [(7, .int 0), (6, .int ((150 + (((if 0 < (if 4 < x2 then 4 else x2) then (if 4 < x2 then 4 else x2) else 0) + 3) * v2)) + 24)), (5, .int (if 1 < (if 5 < x3 then 5 else x3) then (if 5 < x3 then 5 else x3) else 1)), (4, .int (if 0 < (if 4 < x2 then 4 else x2) then (if 4 < x2 then 4 else x2) else 0)), (0, .ref h0), (1, .int x1), (2, .int x2), (3, .int x3)] := hl
  exact bX8_init_92 ⟨hx, hb, hml, hown, hts, hr, hlocks⟩ hin D G N 8 _ _ _ _ _ _ _ _ _ (Nat.le_refl _) hf (lv_sub hl [4, 3, 2, 1, 0] rfl) hw
abbrev rmX7_append : Room := { frames := 0, cells := 0, slots := 0, locals := 0 }
abbrev wsX7_append : List Cond := Cond.code yX7_append cX7_append 2 (some .boolean) :: lw_good
set_option maxHeartbeats 4000000 in
set_option maxRecDepth 100000 in
theorem cm_X7_append (l : Launch) (D : va_G) (G : Nat → ClassId) (N : Nat) (S : mw_M) (h0 : Nat) (x1 : Int32) (z : Int32 × mw_M) (hf : pf_X7_append G N S h0 x1 = some z) : Met l yX7_append wsX7_append rmX7_append (va_Pc [.ref h0, .int x1] (mw_B D vwCl (mw_tys G) mw_aos S)) (mw_Qi D vwCl (mw_tys G) mw_aos (mw_A S) z) 0 0 (mw_A S) := by
  refine Met.ofW (cc := cX7_append) (maxL := 2) (ret := (some .boolean)) (by decide) rfl ?_
  intro p e s m args below meth c s₁ B hml hv
  obtain ⟨rfl, hB⟩ := hv
  have hw := mw_begin hB
  have hx := B.exec
  have hb := B.bytes
  have hr := B.returns
  have hts : ∀ w ∈ lw_good, w.before _ s = true := fun w h => atoms_spec (ws := wsX7_append) B.pre w (List.mem_cons_of_mem _ h)
  have hown : s.vm.findClass RX7 = some m.cls := findClass_of_methodNamed B.named
  have hlocks := B.notSynchronized
  have hC : mw_C p s m _ meth c cX7_append RX7 (some .boolean) lw_good 2 := ⟨hx, hb, hml, hown, hts, hr, hlocks⟩
  have hl := lv_entry ([.ref h0, .int x1]) (n := 2) (Nat.le_of_ble_eq_true rfl)
  rw [lg_entry_eq]
  generalize (lg_sl ([.ref h0, .int x1]) ++ List.replicate (2 - (lg_sl ([.ref h0, .int x1])).length) Slot.unset).toArray = ls at hl ⊢
  have hl : lv_has ls 2 [(0, .ref h0), (1, .int x1)] := hl
  unfold pf_X7_append at hf
  refine lv_aload_n hx hb dX7_append_0 rfl (lv_at hl 0 rfl) ?_
  obtain ⟨v1, e1, hf⟩ := mw_b hf
  refine mw_geti hx hb hts inX7 hown hw (ci := 7) rfl 1 (by decide) (hts _ tw_38) rfl e1 dX7_append_1 ?_
  refine lv_bipush (v := 40) hx hb dX7_append_4 (by decide) ?_
  refine lv_icmp_ge hx hb dX7_append_6 (tgt := 21) (by decide) (fun hc => ?_) (fun hc => ?_)
  · rw [if_pos hc] at hf
    refine lv_iconst (v := 0) hx hb dX7_append_21 (by decide) ?_
    exact mw_zret hx hb hr hlocks hw rfl hf dX7_append_22
  · rw [if_neg hc] at hf
    refine lv_iload_n hx hb dX7_append_9 rfl (lv_at hl 1 rfl) ?_
    refine lv_bipush (v := 32) hx hb dX7_append_10 (by decide) ?_
    refine lv_icmp_lt hx hb dX7_append_12 (tgt := 21) (by decide) (fun hc => ?_) (fun hc => ?_)
    · rw [if_pos hc] at hf
      refine lv_iconst (v := 0) hx hb dX7_append_21 (by decide) ?_
      exact mw_zret hx hb hr hlocks hw rfl hf dX7_append_22
    · rw [if_neg hc] at hf
      refine lv_iload_n hx hb dX7_append_15 rfl (lv_at hl 1 rfl) ?_
      refine lv_bipush (v := 126) hx hb dX7_append_16 (by decide) ?_
      refine lv_icmp_le hx hb dX7_append_18 (tgt := 23) (by decide) (fun hc => ?_) (fun hc => ?_)
      · rw [if_pos hc] at hf
        refine lv_aload_n hx hb dX7_append_23 rfl (lv_at hl 0 rfl) ?_
        obtain ⟨v2, e2, hf⟩ := mw_b hf
        refine mw_getr hx hb hts inX7 hown hw (ci := 7) rfl 0 (by decide) (hts _ tw_37) rfl e2 dX7_append_24 ?_
        refine lv_aload_n hx hb dX7_append_27 rfl (lv_at hl 0 rfl) ?_
        obtain ⟨v3, e3, hf⟩ := mw_b hf
        refine mw_geti hx hb hts inX7 hown hw (ci := 7) rfl 1 (by decide) (hts _ tw_38) rfl e3 dX7_append_28 ?_
        refine lv_iload_n hx hb dX7_append_31 rfl (lv_at hl 1 rfl) ?_
        obtain ⟨S4, e4, hf⟩ := mw_b hf
        refine mw_cast hx hb hw 2 rfl e4 dX7_append_32 (fun H locs hw => ?_)
        refine lv_aload_n hx hb dX7_append_33 rfl (lv_at hl 0 rfl) ?_
        refine lv_dup hx hb dX7_append_34 rfl ?_
        obtain ⟨v5, e5, hf⟩ := mw_b hf
        refine mw_geti hx hb hts inX7 hown hw (ci := 7) rfl 1 (by decide) (hts _ tw_38) rfl e5 dX7_append_35 ?_
        refine lv_iconst (v := 1) hx hb dX7_append_38 (by decide) ?_
        refine lv_iadd hx hb dX7_append_39 ?_
        obtain ⟨S6, e6, hf⟩ := mw_b hf
        refine mw_put hx hb hts inX7 tyX7 tyX7_ok nX7 hown hw (ci := 7) rfl 1 (by decide) (hts _ tw_38) rfl rfl (ty := .int) (by decide +kernel) rfl rfl e6 dX7_append_40 (fun H locs hw => ?_)
        refine lv_iconst (v := 1) hx hb dX7_append_43 (by decide) ?_
        exact mw_zret hx hb hr hlocks hw rfl hf dX7_append_44
      · rw [if_neg hc] at hf
        refine lv_iconst (v := 0) hx hb dX7_append_21 (by decide) ?_
        exact mw_zret hx hb hr hlocks hw rfl hf dX7_append_22
abbrev rmX8_write : Room := { frames := 1, cells := 0, slots := 0, locals := 21 }
abbrev wsX8_write : List Cond := Cond.code yX8_write cX8_write 2 (some .boolean) :: lw_good
set_option maxHeartbeats 4000000 in
set_option maxRecDepth 100000 in
theorem cm_X8_write (l : Launch) (D : va_G) (G : Nat → ClassId) (N : Nat) (S : mw_M) (h0 : Nat) (x1 : Int32) (z : Int32 × mw_M) (hf : pf_X8_write G N S h0 x1 = some z) : Met l yX8_write wsX8_write rmX8_write (va_Pc [.ref h0, .int x1] (mw_B D vwCl (mw_tys G) mw_aos S)) (mw_Qi D vwCl (mw_tys G) mw_aos (mw_A S) z) 0 0 (mw_A S) := by
  refine Met.ofW (cc := cX8_write) (maxL := 2) (ret := (some .boolean)) (by decide) rfl ?_
  intro p e s m args below meth c s₁ B hml hv
  obtain ⟨rfl, hB⟩ := hv
  have hw := mw_begin hB
  have hx := B.exec
  have hb := B.bytes
  have hr := B.returns
  have hts : ∀ w ∈ lw_good, w.before _ s = true := fun w h => atoms_spec (ws := wsX8_write) B.pre w (List.mem_cons_of_mem _ h)
  have hown : s.vm.findClass RX8 = some m.cls := findClass_of_methodNamed B.named
  have hlocks := B.notSynchronized
  have hC : mw_C p s m _ meth c cX8_write RX8 (some .boolean) lw_good 2 := ⟨hx, hb, hml, hown, hts, hr, hlocks⟩
  have hl := lv_entry ([.ref h0, .int x1]) (n := 2) (Nat.le_of_ble_eq_true rfl)
  rw [lg_entry_eq]
  generalize (lg_sl ([.ref h0, .int x1]) ++ List.replicate (2 - (lg_sl ([.ref h0, .int x1])).length) Slot.unset).toArray = ls at hl ⊢
  have hl : lv_has ls 2 [(0, .ref h0), (1, .int x1)] := hl
  unfold pf_X8_write at hf
  refine lv_aload_n hx hb dX8_write_0 rfl (lv_at hl 0 rfl) ?_
  obtain ⟨v1, e1, hf⟩ := mw_b hf
  refine mw_getr hx hb hts inX8 hown hw (ci := 8) rfl 1 (by decide) (hts _ tw_195) rfl e1 dX8_write_1 ?_
  refine lv_iload_n hx hb dX8_write_4 rfl (lv_at hl 1 rfl) ?_
  obtain ⟨v2, S2, e2, hf⟩ := mw_bb hf
  obtain ⟨ho, e2⟩ := mw_v_s e2
  refine mw_calli (va_runV (As := [.int x1]) (rest := []) ⟨hx, hb, hml, hown, hts⟩ (cm_X7_append l D G N S v1 x1 (v2, S2) e2) (cwV 1 hts (mw_gV tw_241 tw_242 tw_243 tw_3 tw_244) rfl rfl rfl (by decide +kernel) ⟨Nat.le_of_ble_eq_true rfl, Nat.le_of_ble_eq_true rfl⟩) (mw_preV hw (ci := 7) rfl ho) rfl rfl hl.1 rfl (lv_room (Nat.le_of_ble_eq_true rfl)) dX8_write_5 ⟨(Nat.le_of_ble_eq_true rfl), (Nat.le_of_ble_eq_true rfl)⟩) hw (fun H locs hw => ?_)
  exact mw_zret hx hb hr hlocks hw rfl hf dX8_write_8
abbrev rmX8_advance : Room := { frames := 0, cells := 0, slots := 0, locals := 0 }
abbrev wsX8_advance : List Cond := Cond.code yX8_advance cX8_advance 2 (some .int) :: lw_good
set_option maxHeartbeats 4000000 in
set_option maxRecDepth 100000 in
theorem cm_X8_advance (l : Launch) (D : va_G) (G : Nat → ClassId) (N : Nat) (S : mw_M) (h0 : Nat) (x1 : Int32) (z : Int32 × mw_M) (hf : pf_X8_advance G N S h0 x1 = some z) : Met l yX8_advance wsX8_advance rmX8_advance (va_Pc [.ref h0, .int x1] (mw_B D vwCl (mw_tys G) mw_aos S)) (mw_Qi D vwCl (mw_tys G) mw_aos (mw_A S) z) 0 0 (mw_A S) := by
  refine Met.ofW (cc := cX8_advance) (maxL := 2) (ret := (some .int)) (by decide) rfl ?_
  intro p e s m args below meth c s₁ B hml hv
  obtain ⟨rfl, hB⟩ := hv
  have hw := mw_begin hB
  have hx := B.exec
  have hb := B.bytes
  have hr := B.returns
  have hts : ∀ w ∈ lw_good, w.before _ s = true := fun w h => atoms_spec (ws := wsX8_advance) B.pre w (List.mem_cons_of_mem _ h)
  have hown : s.vm.findClass RX8 = some m.cls := findClass_of_methodNamed B.named
  have hlocks := B.notSynchronized
  have hC : mw_C p s m _ meth c cX8_advance RX8 (some .int) lw_good 2 := ⟨hx, hb, hml, hown, hts, hr, hlocks⟩
  have hl := lv_entry ([.ref h0, .int x1]) (n := 2) (Nat.le_of_ble_eq_true rfl)
  rw [lg_entry_eq]
  generalize (lg_sl ([.ref h0, .int x1]) ++ List.replicate (2 - (lg_sl ([.ref h0, .int x1])).length) Slot.unset).toArray = ls at hl ⊢
  have hl : lv_has ls 2 [(0, .ref h0), (1, .int x1)] := hl
  unfold pf_X8_advance at hf
  refine lv_iload_n hx hb dX8_advance_0 rfl (lv_at hl 1 rfl) ?_
  refine lv_if_lt hx hb dX8_advance_1 (tgt := 21) (by decide) (fun hc => ?_) (fun hc => ?_)
  · rw [if_pos hc] at hf
    refine lv_aload_n hx hb dX8_advance_21 rfl (lv_at hl 0 rfl) ?_
    obtain ⟨v1, e1, hf⟩ := mw_b hf
    refine mw_geti hx hb hts inX8 hown hw (ci := 8) rfl 13 (by decide) (hts _ tw_207) rfl e1 dX8_advance_22 ?_
    exact mw_iret hx hb hr hlocks hw hf dX8_advance_25
  · rw [if_neg hc] at hf
    refine lv_iload_n hx hb dX8_advance_4 rfl (lv_at hl 1 rfl) ?_
    refine lv_sipush (v := 1000) hx hb dX8_advance_5 (by decide) ?_
    refine lv_icmp_gt hx hb dX8_advance_8 (tgt := 21) (by decide) (fun hc => ?_) (fun hc => ?_)
    · rw [if_pos hc] at hf
      refine lv_aload_n hx hb dX8_advance_21 rfl (lv_at hl 0 rfl) ?_
      obtain ⟨v2, e2, hf⟩ := mw_b hf
      refine mw_geti hx hb hts inX8 hown hw (ci := 8) rfl 13 (by decide) (hts _ tw_207) rfl e2 dX8_advance_22 ?_
      exact mw_iret hx hb hr hlocks hw hf dX8_advance_25
    · rw [if_neg hc] at hf
      refine lv_aload_n hx hb dX8_advance_11 rfl (lv_at hl 0 rfl) ?_
      refine lv_dup hx hb dX8_advance_12 rfl ?_
      obtain ⟨v3, e3, hf⟩ := mw_b hf
      refine mw_geti hx hb hts inX8 hown hw (ci := 8) rfl 13 (by decide) (hts _ tw_207) rfl e3 dX8_advance_13 ?_
      refine lv_iload_n hx hb dX8_advance_16 rfl (lv_at hl 1 rfl) ?_
      refine lv_iadd hx hb dX8_advance_17 ?_
      obtain ⟨S4, e4, hf⟩ := mw_b hf
      refine mw_put hx hb hts inX8 tyX8 tyX8_ok nX8 hown hw (ci := 8) rfl 13 (by decide) (hts _ tw_207) rfl rfl (ty := .int) (by decide +kernel) rfl rfl e4 dX8_advance_18 (fun H locs hw => ?_)
      refine lv_aload_n hx hb dX8_advance_21 rfl (lv_at hl 0 rfl) ?_
      obtain ⟨v5, e5, hf⟩ := mw_b hf
      refine mw_geti hx hb hts inX8 hown hw (ci := 8) rfl 13 (by decide) (hts _ tw_207) rfl e5 dX8_advance_22 ?_
      exact mw_iret hx hb hr hlocks hw hf dX8_advance_25
abbrev rmX8_isThread : Room := { frames := 0, cells := 0, slots := 0, locals := 0 }
abbrev wsX8_isThread : List Cond := Cond.code yX8_isThread cX8_isThread 1 (some .boolean) :: lw_good
set_option maxHeartbeats 4000000 in
set_option maxRecDepth 100000 in
theorem cm_X8_isThread (l : Launch) (D : va_G) (G : Nat → ClassId) (N : Nat) (S : mw_M) (x0 : Int32) (z : Int32 × mw_M) (hf : pf_X8_isThread G N S x0 = some z) : Met l yX8_isThread wsX8_isThread rmX8_isThread (va_Pc [.int x0] (mw_B D vwCl (mw_tys G) mw_aos S)) (mw_Qi D vwCl (mw_tys G) mw_aos (mw_A S) z) 0 0 (mw_A S) := by
  refine Met.ofW (cc := cX8_isThread) (maxL := 1) (ret := (some .boolean)) (by decide) rfl ?_
  intro p e s m args below meth c s₁ B hml hv
  obtain ⟨rfl, hB⟩ := hv
  have hw := mw_begin hB
  have hx := B.exec
  have hb := B.bytes
  have hr := B.returns
  have hts : ∀ w ∈ lw_good, w.before _ s = true := fun w h => atoms_spec (ws := wsX8_isThread) B.pre w (List.mem_cons_of_mem _ h)
  have hown : s.vm.findClass RX8 = some m.cls := findClass_of_methodNamed B.named
  have hlocks := B.notSynchronized
  have hC : mw_C p s m _ meth c cX8_isThread RX8 (some .boolean) lw_good 1 := ⟨hx, hb, hml, hown, hts, hr, hlocks⟩
  have hl := lv_entry ([.int x0]) (n := 1) (Nat.le_of_ble_eq_true rfl)
  rw [lg_entry_eq]
  generalize (lg_sl ([.int x0]) ++ List.replicate (1 - (lg_sl ([.int x0])).length) Slot.unset).toArray = ls at hl ⊢
  have hl : lv_has ls 1 [(0, .int x0)] := hl
  unfold pf_X8_isThread at hf
  refine lv_iload_n hx hb dX8_isThread_0 rfl (lv_at hl 0 rfl) ?_
  refine lv_if_lt hx hb dX8_isThread_1 (tgt := 13) (by decide) (fun hc => ?_) (fun hc => ?_)
  · rw [if_pos hc] at hf
    refine lv_iconst (v := 0) hx hb dX8_isThread_13 (by decide) ?_
    exact mw_zret hx hb hr hlocks hw rfl hf dX8_isThread_14
  · rw [if_neg hc] at hf
    refine lv_iload_n hx hb dX8_isThread_4 rfl (lv_at hl 0 rfl) ?_
    refine lv_iconst (v := 3) hx hb dX8_isThread_5 (by decide) ?_
    refine lv_icmp_ge hx hb dX8_isThread_6 (tgt := 13) (by decide) (fun hc => ?_) (fun hc => ?_)
    · rw [if_pos hc] at hf
      refine lv_iconst (v := 0) hx hb dX8_isThread_13 (by decide) ?_
      exact mw_zret hx hb hr hlocks hw rfl hf dX8_isThread_14
    · rw [if_neg hc] at hf
      refine lv_iconst (v := 1) hx hb dX8_isThread_9 (by decide) ?_
      refine lv_goto hx hb dX8_isThread_10 (tgt := 14) (by decide) ?_
      exact mw_zret hx hb hr hlocks hw rfl hf dX8_isThread_14
abbrev rmX3_beginAt : Room := { frames := 0, cells := 0, slots := 0, locals := 0 }
abbrev wsX3_beginAt : List Cond := Cond.code yX3_beginAt cX3_beginAt 2 (some .boolean) :: lw_good
set_option maxHeartbeats 4000000 in
set_option maxRecDepth 100000 in
theorem cm_X3_beginAt (l : Launch) (D : va_G) (G : Nat → ClassId) (N : Nat) (S : mw_M) (h0 : Nat) (x1 : Int32) (z : Int32 × mw_M) (hf : pf_X3_beginAt G N S h0 x1 = some z) : Met l yX3_beginAt wsX3_beginAt rmX3_beginAt (va_Pc [.ref h0, .int x1] (mw_B D vwCl (mw_tys G) mw_aos S)) (mw_Qi D vwCl (mw_tys G) mw_aos (mw_A S) z) 0 0 (mw_A S) := by
  refine Met.ofW (cc := cX3_beginAt) (maxL := 2) (ret := (some .boolean)) (by decide) rfl ?_
  intro p e s m args below meth c s₁ B hml hv
  obtain ⟨rfl, hB⟩ := hv
  have hw := mw_begin hB
  have hx := B.exec
  have hb := B.bytes
  have hr := B.returns
  have hts : ∀ w ∈ lw_good, w.before _ s = true := fun w h => atoms_spec (ws := wsX3_beginAt) B.pre w (List.mem_cons_of_mem _ h)
  have hown : s.vm.findClass RX3 = some m.cls := findClass_of_methodNamed B.named
  have hlocks := B.notSynchronized
  have hC : mw_C p s m _ meth c cX3_beginAt RX3 (some .boolean) lw_good 2 := ⟨hx, hb, hml, hown, hts, hr, hlocks⟩
  have hl := lv_entry ([.ref h0, .int x1]) (n := 2) (Nat.le_of_ble_eq_true rfl)
  rw [lg_entry_eq]
  generalize (lg_sl ([.ref h0, .int x1]) ++ List.replicate (2 - (lg_sl ([.ref h0, .int x1])).length) Slot.unset).toArray = ls at hl ⊢
  have hl : lv_has ls 2 [(0, .ref h0), (1, .int x1)] := hl
  unfold pf_X3_beginAt at hf
  refine lv_aload_n hx hb dX3_beginAt_0 rfl (lv_at hl 0 rfl) ?_
  obtain ⟨v1, e1, hf⟩ := mw_b hf
  refine mw_geti hx hb hts inX3 hown hw (ci := 3) rfl 2 (by decide) (hts _ tw_85) rfl e1 dX3_beginAt_1 ?_
  refine lv_iconst (v := 3) hx hb dX3_beginAt_4 (by decide) ?_
  refine lv_icmp_lt hx hb dX3_beginAt_5 (tgt := 10) (by decide) (fun hc => ?_) (fun hc => ?_)
  · rw [if_pos hc] at hf
    refine lv_aload_n hx hb dX3_beginAt_10 rfl (lv_at hl 0 rfl) ?_
    obtain ⟨v2, e2, hf⟩ := mw_b hf
    refine mw_getr hx hb hts inX3 hown hw (ci := 3) rfl 0 (by decide) (hts _ tw_83) rfl e2 dX3_beginAt_11 ?_
    refine lv_aload_n hx hb dX3_beginAt_14 rfl (lv_at hl 0 rfl) ?_
    obtain ⟨v3, e3, hf⟩ := mw_b hf
    refine mw_geti hx hb hts inX3 hown hw (ci := 3) rfl 2 (by decide) (hts _ tw_85) rfl e3 dX3_beginAt_15 ?_
    refine lv_iload_n hx hb dX3_beginAt_18 rfl (lv_at hl 1 rfl) ?_
    obtain ⟨S4, e4, hf⟩ := mw_b hf
    refine mw_iast hx hb hw 0 rfl e4 dX3_beginAt_19 (fun H locs hw => ?_)
    refine lv_aload_n hx hb dX3_beginAt_20 rfl (lv_at hl 0 rfl) ?_
    refine lv_dup hx hb dX3_beginAt_21 rfl ?_
    obtain ⟨v5, e5, hf⟩ := mw_b hf
    refine mw_geti hx hb hts inX3 hown hw (ci := 3) rfl 2 (by decide) (hts _ tw_85) rfl e5 dX3_beginAt_22 ?_
    refine lv_iconst (v := 1) hx hb dX3_beginAt_25 (by decide) ?_
    refine lv_iadd hx hb dX3_beginAt_26 ?_
    obtain ⟨S6, e6, hf⟩ := mw_b hf
    refine mw_put hx hb hts inX3 tyX3 tyX3_ok nX3 hown hw (ci := 3) rfl 2 (by decide) (hts _ tw_85) rfl rfl (ty := .int) (by decide +kernel) rfl rfl e6 dX3_beginAt_27 (fun H locs hw => ?_)
    refine lv_iconst (v := 1) hx hb dX3_beginAt_30 (by decide) ?_
    exact mw_zret hx hb hr hlocks hw rfl hf dX3_beginAt_31
  · rw [if_neg hc] at hf
    refine lv_iconst (v := 0) hx hb dX3_beginAt_8 (by decide) ?_
    exact mw_zret hx hb hr hlocks hw rfl hf dX3_beginAt_9
abbrev rmX8_begin : Room := { frames := 1, cells := 0, slots := 0, locals := 21 }
abbrev wsX8_begin : List Cond := Cond.code yX8_begin cX8_begin 2 (some .boolean) :: lw_good
set_option maxHeartbeats 4000000 in
set_option maxRecDepth 100000 in
theorem cm_X8_begin (l : Launch) (D : va_G) (G : Nat → ClassId) (N : Nat) (S : mw_M) (h0 : Nat) (x1 : Int32) (z : Int32 × mw_M) (hf : pf_X8_begin G N S h0 x1 = some z) : Met l yX8_begin wsX8_begin rmX8_begin (va_Pc [.ref h0, .int x1] (mw_B D vwCl (mw_tys G) mw_aos S)) (mw_Qi D vwCl (mw_tys G) mw_aos (mw_A S) z) 0 0 (mw_A S) := by
  refine Met.ofW (cc := cX8_begin) (maxL := 2) (ret := (some .boolean)) (by decide) rfl ?_
  intro p e s m args below meth c s₁ B hml hv
  obtain ⟨rfl, hB⟩ := hv
  have hw := mw_begin hB
  have hx := B.exec
  have hb := B.bytes
  have hr := B.returns
  have hts : ∀ w ∈ lw_good, w.before _ s = true := fun w h => atoms_spec (ws := wsX8_begin) B.pre w (List.mem_cons_of_mem _ h)
  have hown : s.vm.findClass RX8 = some m.cls := findClass_of_methodNamed B.named
  have hlocks := B.notSynchronized
  have hC : mw_C p s m _ meth c cX8_begin RX8 (some .boolean) lw_good 2 := ⟨hx, hb, hml, hown, hts, hr, hlocks⟩
  have hl := lv_entry ([.ref h0, .int x1]) (n := 2) (Nat.le_of_ble_eq_true rfl)
  rw [lg_entry_eq]
  generalize (lg_sl ([.ref h0, .int x1]) ++ List.replicate (2 - (lg_sl ([.ref h0, .int x1])).length) Slot.unset).toArray = ls at hl ⊢
  have hl : lv_has ls 2 [(0, .ref h0), (1, .int x1)] := hl
  unfold pf_X8_begin at hf
  refine lv_iload_n hx hb dX8_begin_0 rfl (lv_at hl 1 rfl) ?_
  obtain ⟨v1, S1, e1, hf⟩ := mw_bb hf
  refine mw_calli (va_runS (As := [.int x1]) (rest := []) ⟨hx, hb, hml, hown, hts⟩ (cm_X8_isThread l D G N S x1 (v1, S1) e1) (cwS 1 hts (mw_gS tw_253 tw_254 tw_1 tw_255) rfl rfl rfl (by decide +kernel) ⟨Nat.le_of_ble_eq_true rfl, Nat.le_of_ble_eq_true rfl⟩) (mw_preS hw) rfl rfl hl.1 rfl (lv_room (Nat.le_of_ble_eq_true rfl)) dX8_begin_1 ⟨(Nat.le_of_ble_eq_true rfl), (Nat.le_of_ble_eq_true rfl)⟩) hw (fun H locs hw => ?_)
  refine lv_if_eq hx hb dX8_begin_4 (tgt := 27) (by decide) (fun hc => ?_) (fun hc => ?_)
  · rw [if_pos hc] at hf
    refine lv_iconst (v := 0) hx hb dX8_begin_27 (by decide) ?_
    exact mw_zret hx hb hr hlocks hw rfl hf dX8_begin_28
  · rw [if_neg hc] at hf
    refine lv_aload_n hx hb dX8_begin_7 rfl (lv_at hl 0 rfl) ?_
    obtain ⟨v2, e2, hf⟩ := mw_b hf
    refine mw_getr hx hb hts inX8 hown hw (ci := 8) rfl 3 (by decide) (hts _ tw_197) rfl e2 dX8_begin_8 ?_
    refine lv_iload_n hx hb dX8_begin_11 rfl (lv_at hl 1 rfl) ?_
    obtain ⟨v3, e3, hf⟩ := mw_b hf
    refine mw_aald hx hb hw 4 rfl e3 dX8_begin_12 ?_
    refine lv_aload_n hx hb dX8_begin_13 rfl (lv_at hl 0 rfl) ?_
    obtain ⟨v4, e4, hf⟩ := mw_b hf
    refine mw_geti hx hb hts inX8 hown hw (ci := 8) rfl 13 (by decide) (hts _ tw_207) rfl e4 dX8_begin_14 ?_
    obtain ⟨v5, S5, e5, hf⟩ := mw_bb hf
    obtain ⟨ho, e5⟩ := mw_v_s e5
    refine mw_calli (va_runV (As := [.int v4]) (rest := []) ⟨hx, hb, hml, hown, hts⟩ (cm_X3_beginAt l D G N S1 v3 v4 (v5, S5) e5) (cwV 1 hts (mw_gV tw_256 tw_257 tw_258 tw_5 tw_259) rfl rfl rfl (by decide +kernel) ⟨Nat.le_of_ble_eq_true rfl, Nat.le_of_ble_eq_true rfl⟩) (mw_preV hw (ci := 3) rfl ho) rfl rfl hl.1 rfl (lv_room (Nat.le_of_ble_eq_true rfl)) dX8_begin_17 ⟨(Nat.le_of_ble_eq_true rfl), (Nat.le_of_ble_eq_true rfl)⟩) hw (fun H locs hw => ?_)
    refine lv_if_eq hx hb dX8_begin_20 (tgt := 27) (by decide) (fun hc => ?_) (fun hc => ?_)
    · rw [if_pos hc] at hf
      refine lv_iconst (v := 0) hx hb dX8_begin_27 (by decide) ?_
      exact mw_zret hx hb hr hlocks hw rfl hf dX8_begin_28
    · rw [if_neg hc] at hf
      refine lv_iconst (v := 1) hx hb dX8_begin_23 (by decide) ?_
      refine lv_goto hx hb dX8_begin_24 (tgt := 28) (by decide) ?_
      exact mw_zret hx hb hr hlocks hw rfl hf dX8_begin_28
abbrev rmX8_isType : Room := { frames := 0, cells := 0, slots := 0, locals := 0 }
abbrev wsX8_isType : List Cond := Cond.code yX8_isType cX8_isType 2 (some .boolean) :: lw_good
set_option maxHeartbeats 4000000 in
set_option maxRecDepth 100000 in
theorem cm_X8_isType (l : Launch) (D : va_G) (G : Nat → ClassId) (N : Nat) (S : mw_M) (h0 : Nat) (x1 : Int32) (z : Int32 × mw_M) (hf : pf_X8_isType G N S h0 x1 = some z) : Met l yX8_isType wsX8_isType rmX8_isType (va_Pc [.ref h0, .int x1] (mw_B D vwCl (mw_tys G) mw_aos S)) (mw_Qi D vwCl (mw_tys G) mw_aos (mw_A S) z) 0 0 (mw_A S) := by
  refine Met.ofW (cc := cX8_isType) (maxL := 2) (ret := (some .boolean)) (by decide) rfl ?_
  intro p e s m args below meth c s₁ B hml hv
  obtain ⟨rfl, hB⟩ := hv
  have hw := mw_begin hB
  have hx := B.exec
  have hb := B.bytes
  have hr := B.returns
  have hts : ∀ w ∈ lw_good, w.before _ s = true := fun w h => atoms_spec (ws := wsX8_isType) B.pre w (List.mem_cons_of_mem _ h)
  have hown : s.vm.findClass RX8 = some m.cls := findClass_of_methodNamed B.named
  have hlocks := B.notSynchronized
  have hC : mw_C p s m _ meth c cX8_isType RX8 (some .boolean) lw_good 2 := ⟨hx, hb, hml, hown, hts, hr, hlocks⟩
  have hl := lv_entry ([.ref h0, .int x1]) (n := 2) (Nat.le_of_ble_eq_true rfl)
  rw [lg_entry_eq]
  generalize (lg_sl ([.ref h0, .int x1]) ++ List.replicate (2 - (lg_sl ([.ref h0, .int x1])).length) Slot.unset).toArray = ls at hl ⊢
  have hl : lv_has ls 2 [(0, .ref h0), (1, .int x1)] := hl
  unfold pf_X8_isType at hf
  refine lv_iload_n hx hb dX8_isType_0 rfl (lv_at hl 1 rfl) ?_
  refine lv_if_lt hx hb dX8_isType_1 (tgt := 16) (by decide) (fun hc => ?_) (fun hc => ?_)
  · rw [if_pos hc] at hf
    refine lv_iconst (v := 0) hx hb dX8_isType_16 (by decide) ?_
    exact mw_zret hx hb hr hlocks hw rfl hf dX8_isType_17
  · rw [if_neg hc] at hf
    refine lv_iload_n hx hb dX8_isType_4 rfl (lv_at hl 1 rfl) ?_
    refine lv_aload_n hx hb dX8_isType_5 rfl (lv_at hl 0 rfl) ?_
    obtain ⟨v1, e1, hf⟩ := mw_b hf
    refine mw_geti hx hb hts inX8 hown hw (ci := 8) rfl 6 (by decide) (hts _ tw_200) rfl e1 dX8_isType_6 ?_
    refine lv_icmp_ge hx hb dX8_isType_9 (tgt := 16) (by decide) (fun hc => ?_) (fun hc => ?_)
    · rw [if_pos hc] at hf
      refine lv_iconst (v := 0) hx hb dX8_isType_16 (by decide) ?_
      exact mw_zret hx hb hr hlocks hw rfl hf dX8_isType_17
    · rw [if_neg hc] at hf
      refine lv_iconst (v := 1) hx hb dX8_isType_12 (by decide) ?_
      refine lv_goto hx hb dX8_isType_13 (tgt := 17) (by decide) ?_
      exact mw_zret hx hb hr hlocks hw rfl hf dX8_isType_17
abbrev rmX3_hasBegun : Room := { frames := 0, cells := 0, slots := 0, locals := 0 }
abbrev wsX3_hasBegun : List Cond := Cond.code yX3_hasBegun cX3_hasBegun 1 (some .boolean) :: lw_good
set_option maxHeartbeats 4000000 in
set_option maxRecDepth 100000 in
theorem cm_X3_hasBegun (l : Launch) (D : va_G) (G : Nat → ClassId) (N : Nat) (S : mw_M) (h0 : Nat) (z : Int32 × mw_M) (hf : pf_X3_hasBegun G N S h0 = some z) : Met l yX3_hasBegun wsX3_hasBegun rmX3_hasBegun (va_Pc [.ref h0] (mw_B D vwCl (mw_tys G) mw_aos S)) (mw_Qi D vwCl (mw_tys G) mw_aos (mw_A S) z) 0 0 (mw_A S) := by
  refine Met.ofW (cc := cX3_hasBegun) (maxL := 1) (ret := (some .boolean)) (by decide) rfl ?_
  intro p e s m args below meth c s₁ B hml hv
  obtain ⟨rfl, hB⟩ := hv
  have hw := mw_begin hB
  have hx := B.exec
  have hb := B.bytes
  have hr := B.returns
  have hts : ∀ w ∈ lw_good, w.before _ s = true := fun w h => atoms_spec (ws := wsX3_hasBegun) B.pre w (List.mem_cons_of_mem _ h)
  have hown : s.vm.findClass RX3 = some m.cls := findClass_of_methodNamed B.named
  have hlocks := B.notSynchronized
  have hC : mw_C p s m _ meth c cX3_hasBegun RX3 (some .boolean) lw_good 1 := ⟨hx, hb, hml, hown, hts, hr, hlocks⟩
  have hl := lv_entry ([.ref h0]) (n := 1) (Nat.le_of_ble_eq_true rfl)
  rw [lg_entry_eq]
  generalize (lg_sl ([.ref h0]) ++ List.replicate (1 - (lg_sl ([.ref h0])).length) Slot.unset).toArray = ls at hl ⊢
  have hl : lv_has ls 1 [(0, .ref h0)] := hl
  unfold pf_X3_hasBegun at hf
  refine lv_aload_n hx hb dX3_hasBegun_0 rfl (lv_at hl 0 rfl) ?_
  obtain ⟨v1, e1, hf⟩ := mw_b hf
  refine mw_geti hx hb hts inX3 hown hw (ci := 3) rfl 2 (by decide) (hts _ tw_85) rfl e1 dX3_hasBegun_1 ?_
  refine lv_if_le hx hb dX3_hasBegun_4 (tgt := 11) (by decide) (fun hc => ?_) (fun hc => ?_)
  · rw [if_pos hc] at hf
    refine lv_iconst (v := 0) hx hb dX3_hasBegun_11 (by decide) ?_
    exact mw_zret hx hb hr hlocks hw rfl hf dX3_hasBegun_12
  · rw [if_neg hc] at hf
    refine lv_iconst (v := 1) hx hb dX3_hasBegun_7 (by decide) ?_
    refine lv_goto hx hb dX3_hasBegun_8 (tgt := 12) (by decide) ?_
    exact mw_zret hx hb hr hlocks hw rfl hf dX3_hasBegun_12
abbrev rmX3_endLatest : Room := { frames := 0, cells := 0, slots := 0, locals := 0 }
abbrev wsX3_endLatest : List Cond := Cond.code yX3_endLatest cX3_endLatest 1 (some .int) :: lw_good
set_option maxHeartbeats 4000000 in
set_option maxRecDepth 100000 in
theorem cm_X3_endLatest (l : Launch) (D : va_G) (G : Nat → ClassId) (N : Nat) (S : mw_M) (h0 : Nat) (z : Int32 × mw_M) (hf : pf_X3_endLatest G N S h0 = some z) : Met l yX3_endLatest wsX3_endLatest rmX3_endLatest (va_Pc [.ref h0] (mw_B D vwCl (mw_tys G) mw_aos S)) (mw_Qi D vwCl (mw_tys G) mw_aos (mw_A S) z) 0 0 (mw_A S) := by
  refine Met.ofW (cc := cX3_endLatest) (maxL := 1) (ret := (some .int)) (by decide) rfl ?_
  intro p e s m args below meth c s₁ B hml hv
  obtain ⟨rfl, hB⟩ := hv
  have hw := mw_begin hB
  have hx := B.exec
  have hb := B.bytes
  have hr := B.returns
  have hts : ∀ w ∈ lw_good, w.before _ s = true := fun w h => atoms_spec (ws := wsX3_endLatest) B.pre w (List.mem_cons_of_mem _ h)
  have hown : s.vm.findClass RX3 = some m.cls := findClass_of_methodNamed B.named
  have hlocks := B.notSynchronized
  have hC : mw_C p s m _ meth c cX3_endLatest RX3 (some .int) lw_good 1 := ⟨hx, hb, hml, hown, hts, hr, hlocks⟩
  have hl := lv_entry ([.ref h0]) (n := 1) (Nat.le_of_ble_eq_true rfl)
  rw [lg_entry_eq]
  generalize (lg_sl ([.ref h0]) ++ List.replicate (1 - (lg_sl ([.ref h0])).length) Slot.unset).toArray = ls at hl ⊢
  have hl : lv_has ls 1 [(0, .ref h0)] := hl
  unfold pf_X3_endLatest at hf
  refine lv_aload_n hx hb dX3_endLatest_0 rfl (lv_at hl 0 rfl) ?_
  obtain ⟨v1, e1, hf⟩ := mw_b hf
  refine mw_geti hx hb hts inX3 hown hw (ci := 3) rfl 2 (by decide) (hts _ tw_85) rfl e1 dX3_endLatest_1 ?_
  refine lv_if_gt hx hb dX3_endLatest_4 (tgt := 9) (by decide) (fun hc => ?_) (fun hc => ?_)
  · rw [if_pos hc] at hf
    refine lv_aload_n hx hb dX3_endLatest_9 rfl (lv_at hl 0 rfl) ?_
    refine lv_dup hx hb dX3_endLatest_10 rfl ?_
    obtain ⟨v2, e2, hf⟩ := mw_b hf
    refine mw_geti hx hb hts inX3 hown hw (ci := 3) rfl 2 (by decide) (hts _ tw_85) rfl e2 dX3_endLatest_11 ?_
    refine lv_iconst (v := 1) hx hb dX3_endLatest_14 (by decide) ?_
    refine lv_isub hx hb dX3_endLatest_15 ?_
    obtain ⟨S3, e3, hf⟩ := mw_b hf
    refine mw_put hx hb hts inX3 tyX3 tyX3_ok nX3 hown hw (ci := 3) rfl 2 (by decide) (hts _ tw_85) rfl rfl (ty := .int) (by decide +kernel) rfl rfl e3 dX3_endLatest_16 (fun H locs hw => ?_)
    refine lv_aload_n hx hb dX3_endLatest_19 rfl (lv_at hl 0 rfl) ?_
    obtain ⟨v4, e4, hf⟩ := mw_b hf
    refine mw_getr hx hb hts inX3 hown hw (ci := 3) rfl 0 (by decide) (hts _ tw_83) rfl e4 dX3_endLatest_20 ?_
    refine lv_aload_n hx hb dX3_endLatest_23 rfl (lv_at hl 0 rfl) ?_
    obtain ⟨v5, e5, hf⟩ := mw_b hf
    refine mw_geti hx hb hts inX3 hown hw (ci := 3) rfl 2 (by decide) (hts _ tw_85) rfl e5 dX3_endLatest_24 ?_
    obtain ⟨v6, e6, hf⟩ := mw_b hf
    refine mw_iald hx hb hw 0 rfl e6 dX3_endLatest_27 ?_
    exact mw_iret hx hb hr hlocks hw hf dX3_endLatest_28
  · rw [if_neg hc] at hf
    refine lv_iconst (v := (-1)) hx hb dX3_endLatest_7 (by decide) ?_
    exact mw_iret hx hb hr hlocks hw hf dX3_endLatest_8
abbrev rmX5_is : Room := { frames := 0, cells := 0, slots := 0, locals := 0 }
abbrev wsX5_is : List Cond := Cond.code yX5_is cX5_is 2 (some .boolean) :: lw_good
set_option maxHeartbeats 4000000 in
set_option maxRecDepth 100000 in
theorem cm_X5_is (l : Launch) (D : va_G) (G : Nat → ClassId) (N : Nat) (S : mw_M) (h0 : Nat) (x1 : Int32) (z : Int32 × mw_M) (hf : pf_X5_is G N S h0 x1 = some z) : Met l yX5_is wsX5_is rmX5_is (va_Pc [.ref h0, .int x1] (mw_B D vwCl (mw_tys G) mw_aos S)) (mw_Qi D vwCl (mw_tys G) mw_aos (mw_A S) z) 0 0 (mw_A S) := by
  refine Met.ofW (cc := cX5_is) (maxL := 2) (ret := (some .boolean)) (by decide) rfl ?_
  intro p e s m args below meth c s₁ B hml hv
  obtain ⟨rfl, hB⟩ := hv
  have hw := mw_begin hB
  have hx := B.exec
  have hb := B.bytes
  have hr := B.returns
  have hts : ∀ w ∈ lw_good, w.before _ s = true := fun w h => atoms_spec (ws := wsX5_is) B.pre w (List.mem_cons_of_mem _ h)
  have hown : s.vm.findClass RX5 = some m.cls := findClass_of_methodNamed B.named
  have hlocks := B.notSynchronized
  have hC : mw_C p s m _ meth c cX5_is RX5 (some .boolean) lw_good 2 := ⟨hx, hb, hml, hown, hts, hr, hlocks⟩
  have hl := lv_entry ([.ref h0, .int x1]) (n := 2) (Nat.le_of_ble_eq_true rfl)
  rw [lg_entry_eq]
  generalize (lg_sl ([.ref h0, .int x1]) ++ List.replicate (2 - (lg_sl ([.ref h0, .int x1])).length) Slot.unset).toArray = ls at hl ⊢
  have hl : lv_has ls 2 [(0, .ref h0), (1, .int x1)] := hl
  unfold pf_X5_is at hf
  refine lv_aload_n hx hb dX5_is_0 rfl (lv_at hl 0 rfl) ?_
  obtain ⟨v1, e1, hf⟩ := mw_b hf
  refine mw_geti hx hb hts inX5 hown hw (ci := 5) rfl 2 (by decide) (hts _ tw_109) rfl e1 dX5_is_1 ?_
  refine lv_iload_n hx hb dX5_is_4 rfl (lv_at hl 1 rfl) ?_
  refine lv_icmp_ne hx hb dX5_is_5 (tgt := 12) (by decide) (fun hc => ?_) (fun hc => ?_)
  · rw [if_pos hc] at hf
    refine lv_iconst (v := 0) hx hb dX5_is_12 (by decide) ?_
    exact mw_zret hx hb hr hlocks hw rfl hf dX5_is_13
  · rw [if_neg (fun q => q hc)] at hf
    refine lv_iconst (v := 1) hx hb dX5_is_8 (by decide) ?_
    refine lv_goto hx hb dX5_is_9 (tgt := 13) (by decide) ?_
    exact mw_zret hx hb hr hlocks hw rfl hf dX5_is_13
abbrev rmX5_isOn : Room := { frames := 0, cells := 0, slots := 0, locals := 0 }
abbrev wsX5_isOn : List Cond := Cond.code yX5_isOn cX5_isOn 2 (some .boolean) :: lw_good
set_option maxHeartbeats 4000000 in
set_option maxRecDepth 100000 in
theorem cm_X5_isOn (l : Launch) (D : va_G) (G : Nat → ClassId) (N : Nat) (S : mw_M) (h0 : Nat) (x1 : Int32) (z : Int32 × mw_M) (hf : pf_X5_isOn G N S h0 x1 = some z) : Met l yX5_isOn wsX5_isOn rmX5_isOn (va_Pc [.ref h0, .int x1] (mw_B D vwCl (mw_tys G) mw_aos S)) (mw_Qi D vwCl (mw_tys G) mw_aos (mw_A S) z) 0 0 (mw_A S) := by
  refine Met.ofW (cc := cX5_isOn) (maxL := 2) (ret := (some .boolean)) (by decide) rfl ?_
  intro p e s m args below meth c s₁ B hml hv
  obtain ⟨rfl, hB⟩ := hv
  have hw := mw_begin hB
  have hx := B.exec
  have hb := B.bytes
  have hr := B.returns
  have hts : ∀ w ∈ lw_good, w.before _ s = true := fun w h => atoms_spec (ws := wsX5_isOn) B.pre w (List.mem_cons_of_mem _ h)
  have hown : s.vm.findClass RX5 = some m.cls := findClass_of_methodNamed B.named
  have hlocks := B.notSynchronized
  have hC : mw_C p s m _ meth c cX5_isOn RX5 (some .boolean) lw_good 2 := ⟨hx, hb, hml, hown, hts, hr, hlocks⟩
  have hl := lv_entry ([.ref h0, .int x1]) (n := 2) (Nat.le_of_ble_eq_true rfl)
  rw [lg_entry_eq]
  generalize (lg_sl ([.ref h0, .int x1]) ++ List.replicate (2 - (lg_sl ([.ref h0, .int x1])).length) Slot.unset).toArray = ls at hl ⊢
  have hl : lv_has ls 2 [(0, .ref h0), (1, .int x1)] := hl
  unfold pf_X5_isOn at hf
  refine lv_iload_n hx hb dX5_isOn_0 rfl (lv_at hl 1 rfl) ?_
  refine lv_if_lt hx hb dX5_isOn_1 (tgt := 23) (by decide) (fun hc => ?_) (fun hc => ?_)
  · rw [if_pos hc] at hf
    refine lv_iconst (v := 0) hx hb dX5_isOn_23 (by decide) ?_
    exact mw_zret hx hb hr hlocks hw rfl hf dX5_isOn_24
  · rw [if_neg hc] at hf
    refine lv_iload_n hx hb dX5_isOn_4 rfl (lv_at hl 1 rfl) ?_
    refine lv_bipush (v := 6) hx hb dX5_isOn_5 (by decide) ?_
    refine lv_icmp_ge hx hb dX5_isOn_7 (tgt := 23) (by decide) (fun hc => ?_) (fun hc => ?_)
    · rw [if_pos hc] at hf
      refine lv_iconst (v := 0) hx hb dX5_isOn_23 (by decide) ?_
      exact mw_zret hx hb hr hlocks hw rfl hf dX5_isOn_24
    · rw [if_neg hc] at hf
      refine lv_aload_n hx hb dX5_isOn_10 rfl (lv_at hl 0 rfl) ?_
      obtain ⟨v1, e1, hf⟩ := mw_b hf
      refine mw_getr hx hb hts inX5 hown hw (ci := 5) rfl 0 (by decide) (hts _ tw_107) rfl e1 dX5_isOn_11 ?_
      refine lv_iload_n hx hb dX5_isOn_14 rfl (lv_at hl 1 rfl) ?_
      obtain ⟨v2, e2, hf⟩ := mw_b hf
      refine mw_zald hx hb hw 3 rfl e2 dX5_isOn_15 ?_
      refine lv_if_ne hx hb dX5_isOn_16 (tgt := 23) (by decide) (fun hc => ?_) (fun hc => ?_)
      · rw [if_pos hc] at hf
        refine lv_iconst (v := 0) hx hb dX5_isOn_23 (by decide) ?_
        exact mw_zret hx hb hr hlocks hw rfl hf dX5_isOn_24
      · rw [if_neg (fun q => q hc)] at hf
        refine lv_iconst (v := 1) hx hb dX5_isOn_19 (by decide) ?_
        refine lv_goto hx hb dX5_isOn_20 (tgt := 24) (by decide) ?_
        exact mw_zret hx hb hr hlocks hw rfl hf dX5_isOn_24
abbrev rmX5_leastDuration : Room := { frames := 0, cells := 0, slots := 0, locals := 0 }
abbrev wsX5_leastDuration : List Cond := Cond.code yX5_leastDuration cX5_leastDuration 2 (some .int) :: lw_good
set_option maxHeartbeats 4000000 in
set_option maxRecDepth 100000 in
theorem cm_X5_leastDuration (l : Launch) (D : va_G) (G : Nat → ClassId) (N : Nat) (S : mw_M) (h0 : Nat) (x1 : Int32) (z : Int32 × mw_M) (hf : pf_X5_leastDuration G N S h0 x1 = some z) : Met l yX5_leastDuration wsX5_leastDuration rmX5_leastDuration (va_Pc [.ref h0, .int x1] (mw_B D vwCl (mw_tys G) mw_aos S)) (mw_Qi D vwCl (mw_tys G) mw_aos (mw_A S) z) 0 0 (mw_A S) := by
  refine Met.ofW (cc := cX5_leastDuration) (maxL := 2) (ret := (some .int)) (by decide) rfl ?_
  intro p e s m args below meth c s₁ B hml hv
  obtain ⟨rfl, hB⟩ := hv
  have hw := mw_begin hB
  have hx := B.exec
  have hb := B.bytes
  have hr := B.returns
  have hts : ∀ w ∈ lw_good, w.before _ s = true := fun w h => atoms_spec (ws := wsX5_leastDuration) B.pre w (List.mem_cons_of_mem _ h)
  have hown : s.vm.findClass RX5 = some m.cls := findClass_of_methodNamed B.named
  have hlocks := B.notSynchronized
  have hC : mw_C p s m _ meth c cX5_leastDuration RX5 (some .int) lw_good 2 := ⟨hx, hb, hml, hown, hts, hr, hlocks⟩
  have hl := lv_entry ([.ref h0, .int x1]) (n := 2) (Nat.le_of_ble_eq_true rfl)
  rw [lg_entry_eq]
  generalize (lg_sl ([.ref h0, .int x1]) ++ List.replicate (2 - (lg_sl ([.ref h0, .int x1])).length) Slot.unset).toArray = ls at hl ⊢
  have hl : lv_has ls 2 [(0, .ref h0), (1, .int x1)] := hl
  unfold pf_X5_leastDuration at hf
  refine lv_iload_n hx hb dX5_leastDuration_0 rfl (lv_at hl 1 rfl) ?_
  refine lv_if_lt hx hb dX5_leastDuration_1 (tgt := 19) (by decide) (fun hc => ?_) (fun hc => ?_)
  · rw [if_pos hc] at hf
    refine lv_iconst (v := (-1)) hx hb dX5_leastDuration_19 (by decide) ?_
    exact mw_iret hx hb hr hlocks hw hf dX5_leastDuration_20
  · rw [if_neg hc] at hf
    refine lv_iload_n hx hb dX5_leastDuration_4 rfl (lv_at hl 1 rfl) ?_
    refine lv_bipush (v := 6) hx hb dX5_leastDuration_5 (by decide) ?_
    refine lv_icmp_ge hx hb dX5_leastDuration_7 (tgt := 19) (by decide) (fun hc => ?_) (fun hc => ?_)
    · rw [if_pos hc] at hf
      refine lv_iconst (v := (-1)) hx hb dX5_leastDuration_19 (by decide) ?_
      exact mw_iret hx hb hr hlocks hw hf dX5_leastDuration_20
    · rw [if_neg hc] at hf
      refine lv_aload_n hx hb dX5_leastDuration_10 rfl (lv_at hl 0 rfl) ?_
      obtain ⟨v1, e1, hf⟩ := mw_b hf
      refine mw_getr hx hb hts inX5 hown hw (ci := 5) rfl 1 (by decide) (hts _ tw_108) rfl e1 dX5_leastDuration_11 ?_
      refine lv_iload_n hx hb dX5_leastDuration_14 rfl (lv_at hl 1 rfl) ?_
      obtain ⟨v2, e2, hf⟩ := mw_b hf
      refine mw_iald hx hb hw 0 rfl e2 dX5_leastDuration_15 ?_
      refine lv_goto hx hb dX5_leastDuration_16 (tgt := 20) (by decide) ?_
      exact mw_iret hx hb hr hlocks hw hf dX5_leastDuration_20
abbrev rmX8_interestIn : Room := { frames := 1, cells := 0, slots := 0, locals := 21 }
abbrev wsX8_interestIn : List Cond := Cond.code yX8_interestIn cX8_interestIn 6 (some .int) :: lw_good
set_option maxHeartbeats 4000000 in
set_option maxRecDepth 100000 in
theorem bX8_interestIn_5 {p : Program} {l : Launch} {e : Env} {s : State} {m : MethodId} {args : Array Value} {below : List Frame} {meth : Method} {c : Code} (hC : mw_C p s m args meth c cX8_interestIn RX8 (some .int) lw_good 6) (D : va_G) (G : Nat → ClassId) (N : Nat) {A : Nat → Prop} {z : Int32 × mw_M} : ∀ (n : Nat) (y0 : Nat) (y1 : Int32) (y2 : Int32) (y3 : Int32) (y4 : Int32) (S : mw_M) (H : Heap) (locs : List Loc) (ls : Array Slot), pf_X8_interestIn_5 G N n y0 y1 y2 y3 y4 S = some z → lv_has ls 6 [(0, .ref y0), (1, .int y1), (2, .int y2), (3, .int y3), (4, .int y4)] → mw_W D vwCl (mw_tys G) mw_aos A s S H locs → W p l e (headSpec wsX8_interestIn rmX8_interestIn).room s m args below meth c H locs 0 0 (MQ below (mw_Qi D vwCl (mw_tys G) mw_aos A z) args s 0 0 A) (F0 m 5 ls []) := by
  obtain ⟨hx, hb, hml, hown, hts, hr, hlocks⟩ := hC
  intro n
  induction n with
  | zero => intro y0 y1 y2 y3 y4 S H locs ls hf; rw [pf_X8_interestIn_5] at hf; cases hf
  | succ n ih =>
    intro y0 y1 y2 y3 y4 S H locs ls hf hl hw
    rw [pf_X8_interestIn_5] at hf
    refine lv_iload hx hb dX8_interestIn_5 (lv_at hl 4 rfl) ?_
    refine lv_aload_n hx hb dX8_interestIn_7 rfl (lv_at hl 0 rfl) ?_
    obtain ⟨v1, e1, hf⟩ := mw_b hf
    refine mw_geti hx hb hts inX8 hown hw (ci := 8) rfl 8 (by decide) (hts _ tw_202) rfl e1 dX8_interestIn_8 ?_
    refine lv_icmp_ge hx hb dX8_interestIn_11 (tgt := 61) (by decide) (fun hc => ?_) (fun hc => ?_)
    · rw [if_pos hc] at hf
      refine lv_iload_n hx hb dX8_interestIn_61 rfl (lv_at hl 3 rfl) ?_
      exact mw_iret hx hb hr hlocks hw hf dX8_interestIn_62
    · rw [if_neg hc] at hf
      refine lv_aload_n hx hb dX8_interestIn_14 rfl (lv_at hl 0 rfl) ?_
      obtain ⟨v2, e2, hf⟩ := mw_b hf
      refine mw_getr hx hb hts inX8 hown hw (ci := 8) rfl 7 (by decide) (hts _ tw_201) rfl e2 dX8_interestIn_15 ?_
      refine lv_iload hx hb dX8_interestIn_18 (lv_at hl 4 rfl) ?_
      obtain ⟨v3, e3, hf⟩ := mw_b hf
      refine mw_aald hx hb hw 5 rfl e3 dX8_interestIn_20 ?_
      refine lv_astore hx hb dX8_interestIn_21 hl (by decide) rfl (fun ls hl => ?_)
      have hl : lv_has ls 6 [(5, .ref v3), (0, .ref y0), (1, .int y1), (2, .int y2), (3, .int y3), (4, .int y4)] := hl
      refine lv_aload hx hb dX8_interestIn_23 (lv_at hl 0 rfl) ?_
      refine lv_iconst (v := 1) hx hb dX8_interestIn_25 (by decide) ?_
      obtain ⟨v4, S4, e4, hf⟩ := mw_bb hf
      obtain ⟨ho, e4⟩ := mw_v_s e4
      refine mw_calli (va_runV (As := [.int 1]) (rest := []) ⟨hx, hb, hml, hown, hts⟩ (cm_X5_is l D G N S v3 1 (v4, S4) e4) (cwV 1 hts (mw_gV tw_284 tw_285 tw_286 tw_7 tw_287) rfl rfl rfl (by decide +kernel) ⟨Nat.le_of_ble_eq_true rfl, Nat.le_of_ble_eq_true rfl⟩) (mw_preV hw (ci := 5) rfl ho) rfl rfl hl.1 rfl (lv_room (Nat.le_of_ble_eq_true rfl)) dX8_interestIn_26 ⟨(Nat.le_of_ble_eq_true rfl), (Nat.le_of_ble_eq_true rfl)⟩) hw (fun H locs hw => ?_)
      refine lv_if_eq hx hb dX8_interestIn_29 (tgt := 55) (by decide) (fun hc => ?_) (fun hc => ?_)
      · rw [if_pos hc] at hf
        refine lv_iinc (k := 5) (v := (y4 + 1)) hx hb dX8_interestIn_55 hl rfl (congrArg (fun q => y4 + q) (show Int32.ofInt 1 = 1 by decide)) (by decide) rfl (fun ls hl => ?_)
        have hl : lv_has ls 6 [(4, .int (y4 + 1)), (5, .ref v3), (0, .ref y0), (1, .int y1), (2, .int y2), (3, .int y3)] := hl
        refine lv_goto hx hb dX8_interestIn_58 (tgt := 5) (by decide) ?_
        exact ih _ _ _ _ _ _ _ _ _ hf (lv_sub hl [2, 3, 4, 5, 0] rfl) hw
      · rw [if_neg hc] at hf
        refine lv_aload hx hb dX8_interestIn_32 (lv_at hl 0 rfl) ?_
        refine lv_iload_n hx hb dX8_interestIn_34 rfl (lv_at hl 2 rfl) ?_
        obtain ⟨v5, S5, e5, hf⟩ := mw_bb hf
        obtain ⟨ho, e5⟩ := mw_v_s e5
        refine mw_calli (va_runV (As := [.int y1]) (rest := []) ⟨hx, hb, hml, hown, hts⟩ (cm_X5_isOn l D G N S4 v3 y1 (v5, S5) e5) (cwV 1 hts (mw_gV tw_288 tw_289 tw_290 tw_7 tw_291) rfl rfl rfl (by decide +kernel) ⟨Nat.le_of_ble_eq_true rfl, Nat.le_of_ble_eq_true rfl⟩) (mw_preV hw (ci := 5) rfl ho) rfl rfl hl.1 rfl (lv_room (Nat.le_of_ble_eq_true rfl)) dX8_interestIn_35 ⟨(Nat.le_of_ble_eq_true rfl), (Nat.le_of_ble_eq_true rfl)⟩) hw (fun H locs hw => ?_)
        refine lv_if_eq hx hb dX8_interestIn_38 (tgt := 55) (by decide) (fun hc => ?_) (fun hc => ?_)
        · rw [if_pos hc] at hf
          refine lv_iinc (k := 5) (v := (y4 + 1)) hx hb dX8_interestIn_55 hl rfl (congrArg (fun q => y4 + q) (show Int32.ofInt 1 = 1 by decide)) (by decide) rfl (fun ls hl => ?_)
          have hl : lv_has ls 6 [(4, .int (y4 + 1)), (5, .ref v3), (0, .ref y0), (1, .int y1), (2, .int y2), (3, .int y3)] := hl
          refine lv_goto hx hb dX8_interestIn_58 (tgt := 5) (by decide) ?_
          exact ih _ _ _ _ _ _ _ _ _ hf (lv_sub hl [2, 3, 4, 5, 0] rfl) hw
        · rw [if_neg hc] at hf
          refine lv_iload_n hx hb dX8_interestIn_41 rfl (lv_at hl 3 rfl) ?_
          refine lv_aload hx hb dX8_interestIn_42 (lv_at hl 0 rfl) ?_
          refine lv_iload_n hx hb dX8_interestIn_44 rfl (lv_at hl 2 rfl) ?_
          obtain ⟨v6, S6, e6, hf⟩ := mw_bb hf
          obtain ⟨ho, e6⟩ := mw_v_s e6
          refine mw_calli (va_runV (As := [.int y1]) (rest := [.int y2]) ⟨hx, hb, hml, hown, hts⟩ (cm_X5_leastDuration l D G N S5 v3 y1 (v6, S6) e6) (cwV 1 hts (mw_gV tw_292 tw_293 tw_294 tw_7 tw_295) rfl rfl rfl (by decide +kernel) ⟨Nat.le_of_ble_eq_true rfl, Nat.le_of_ble_eq_true rfl⟩) (mw_preV hw (ci := 5) rfl ho) rfl rfl hl.1 rfl (lv_room (Nat.le_of_ble_eq_true rfl)) dX8_interestIn_45 ⟨(Nat.le_of_ble_eq_true rfl), (Nat.le_of_ble_eq_true rfl)⟩) hw (fun H locs hw => ?_)
          refine lv_icmp_lt hx hb dX8_interestIn_48 (tgt := 53) (by decide) (fun hc => ?_) (fun hc => ?_)
          · rw [if_pos hc] at hf
            refine lv_iconst (v := 3) hx hb dX8_interestIn_53 (by decide) ?_
            refine lv_istore_n hx hb dX8_interestIn_54 rfl hl (by decide) rfl (fun ls hl => ?_)
            have hl : lv_has ls 6 [(3, .int 3), (5, .ref v3), (0, .ref y0), (1, .int y1), (2, .int y2), (4, .int y4)] := hl
            refine lv_iinc (k := 5) (v := (y4 + 1)) hx hb dX8_interestIn_55 hl rfl (congrArg (fun q => y4 + q) (show Int32.ofInt 1 = 1 by decide)) (by decide) rfl (fun ls hl => ?_)
            have hl : lv_has ls 6 [(4, .int (y4 + 1)), (3, .int 3), (5, .ref v3), (0, .ref y0), (1, .int y1), (2, .int y2)] := hl
            refine lv_goto hx hb dX8_interestIn_58 (tgt := 5) (by decide) ?_
            exact ih _ _ _ _ _ _ _ _ _ hf (lv_sub hl [3, 4, 5, 1, 0] rfl) hw
          · rw [if_neg hc] at hf
            refine lv_iconst (v := 0) hx hb dX8_interestIn_51 (by decide) ?_
            exact mw_iret hx hb hr hlocks hw hf dX8_interestIn_52
set_option maxHeartbeats 4000000 in
set_option maxRecDepth 100000 in
theorem cm_X8_interestIn (l : Launch) (D : va_G) (G : Nat → ClassId) (N : Nat) (S : mw_M) (h0 : Nat) (x1 : Int32) (x2 : Int32) (z : Int32 × mw_M) (hf : pf_X8_interestIn G N S h0 x1 x2 = some z) : Met l yX8_interestIn wsX8_interestIn rmX8_interestIn (va_Pc [.ref h0, .int x1, .int x2] (mw_B D vwCl (mw_tys G) mw_aos S)) (mw_Qi D vwCl (mw_tys G) mw_aos (mw_A S) z) 0 0 (mw_A S) := by
  refine Met.ofW (cc := cX8_interestIn) (maxL := 6) (ret := (some .int)) (by decide) rfl ?_
  intro p e s m args below meth c s₁ B hml hv
  obtain ⟨rfl, hB⟩ := hv
  have hw := mw_begin hB
  have hx := B.exec
  have hb := B.bytes
  have hr := B.returns
  have hts : ∀ w ∈ lw_good, w.before _ s = true := fun w h => atoms_spec (ws := wsX8_interestIn) B.pre w (List.mem_cons_of_mem _ h)
  have hown : s.vm.findClass RX8 = some m.cls := findClass_of_methodNamed B.named
  have hlocks := B.notSynchronized
  have hC : mw_C p s m _ meth c cX8_interestIn RX8 (some .int) lw_good 6 := ⟨hx, hb, hml, hown, hts, hr, hlocks⟩
  have hl := lv_entry ([.ref h0, .int x1, .int x2]) (n := 6) (Nat.le_of_ble_eq_true rfl)
  rw [lg_entry_eq]
  generalize (lg_sl ([.ref h0, .int x1, .int x2]) ++ List.replicate (6 - (lg_sl ([.ref h0, .int x1, .int x2])).length) Slot.unset).toArray = ls at hl ⊢
  have hl : lv_has ls 6 [(0, .ref h0), (1, .int x1), (2, .int x2)] := hl
  unfold pf_X8_interestIn at hf
  refine lv_iconst (v := 2) hx hb dX8_interestIn_0 (by decide) ?_
  refine lv_istore_n hx hb dX8_interestIn_1 rfl hl (by decide) rfl (fun ls hl => ?_)
  have hl : lv_has ls 6 [(3, .int 2), (0, .ref h0), (1, .int x1), (2, .int x2)] := hl
  refine lv_iconst (v := 0) hx hb dX8_interestIn_2 (by decide) ?_
  refine lv_istore hx hb dX8_interestIn_3 hl (by decide) rfl (fun ls hl => ?_)
  have hl : lv_has ls 6 [(4, .int 0), (3, .int 2), (0, .ref h0), (1, .int x1), (2, .int x2)] := hl
  exact bX8_interestIn_5 ⟨hx, hb, hml, hown, hts, hr, hlocks⟩ D G N N _ _ _ _ _ _ _ _ _ hf (lv_sub hl [2, 3, 4, 1, 0] rfl) hw
abbrev rmX7_length : Room := { frames := 0, cells := 0, slots := 0, locals := 0 }
abbrev wsX7_length : List Cond := Cond.code yX7_length cX7_length 1 (some .int) :: lw_good
set_option maxHeartbeats 4000000 in
set_option maxRecDepth 100000 in
theorem cm_X7_length (l : Launch) (D : va_G) (G : Nat → ClassId) (N : Nat) (S : mw_M) (h0 : Nat) (z : Int32 × mw_M) (hf : pf_X7_length G N S h0 = some z) : Met l yX7_length wsX7_length rmX7_length (va_Pc [.ref h0] (mw_B D vwCl (mw_tys G) mw_aos S)) (mw_Qi D vwCl (mw_tys G) mw_aos (mw_A S) z) 0 0 (mw_A S) := by
  refine Met.ofW (cc := cX7_length) (maxL := 1) (ret := (some .int)) (by decide) rfl ?_
  intro p e s m args below meth c s₁ B hml hv
  obtain ⟨rfl, hB⟩ := hv
  have hw := mw_begin hB
  have hx := B.exec
  have hb := B.bytes
  have hr := B.returns
  have hts : ∀ w ∈ lw_good, w.before _ s = true := fun w h => atoms_spec (ws := wsX7_length) B.pre w (List.mem_cons_of_mem _ h)
  have hown : s.vm.findClass RX7 = some m.cls := findClass_of_methodNamed B.named
  have hlocks := B.notSynchronized
  have hC : mw_C p s m _ meth c cX7_length RX7 (some .int) lw_good 1 := ⟨hx, hb, hml, hown, hts, hr, hlocks⟩
  have hl := lv_entry ([.ref h0]) (n := 1) (Nat.le_of_ble_eq_true rfl)
  rw [lg_entry_eq]
  generalize (lg_sl ([.ref h0]) ++ List.replicate (1 - (lg_sl ([.ref h0])).length) Slot.unset).toArray = ls at hl ⊢
  have hl : lv_has ls 1 [(0, .ref h0)] := hl
  unfold pf_X7_length at hf
  refine lv_aload_n hx hb dX7_length_0 rfl (lv_at hl 0 rfl) ?_
  obtain ⟨v1, e1, hf⟩ := mw_b hf
  refine mw_geti hx hb hts inX7 hown hw (ci := 7) rfl 1 (by decide) (hts _ tw_38) rfl e1 dX7_length_1 ?_
  exact mw_iret hx hb hr hlocks hw hf dX7_length_4
abbrev rmX6_usedLength : Room := { frames := 1, cells := 0, slots := 0, locals := 20 }
abbrev wsX6_usedLength : List Cond := Cond.code yX6_usedLength cX6_usedLength 1 (some .int) :: lw_good
set_option maxHeartbeats 4000000 in
set_option maxRecDepth 100000 in
theorem cm_X6_usedLength (l : Launch) (D : va_G) (G : Nat → ClassId) (N : Nat) (S : mw_M) (x0 : Nat) (z : Int32 × mw_M) (hf : pf_X6_usedLength G N S x0 = some z) : Met l yX6_usedLength wsX6_usedLength rmX6_usedLength (va_Pc [.ref x0] (mw_B D vwCl (mw_tys G) mw_aos S)) (mw_Qi D vwCl (mw_tys G) mw_aos (mw_A S) z) 0 0 (mw_A S) := by
  refine Met.ofW (cc := cX6_usedLength) (maxL := 1) (ret := (some .int)) (by decide) rfl ?_
  intro p e s m args below meth c s₁ B hml hv
  obtain ⟨rfl, hB⟩ := hv
  have hw := mw_begin hB
  have hx := B.exec
  have hb := B.bytes
  have hr := B.returns
  have hts : ∀ w ∈ lw_good, w.before _ s = true := fun w h => atoms_spec (ws := wsX6_usedLength) B.pre w (List.mem_cons_of_mem _ h)
  have hown : s.vm.findClass RX6 = some m.cls := findClass_of_methodNamed B.named
  have hlocks := B.notSynchronized
  have hC : mw_C p s m _ meth c cX6_usedLength RX6 (some .int) lw_good 1 := ⟨hx, hb, hml, hown, hts, hr, hlocks⟩
  have hl := lv_entry ([.ref x0]) (n := 1) (Nat.le_of_ble_eq_true rfl)
  rw [lg_entry_eq]
  generalize (lg_sl ([.ref x0]) ++ List.replicate (1 - (lg_sl ([.ref x0])).length) Slot.unset).toArray = ls at hl ⊢
  have hl : lv_has ls 1 [(0, .ref x0)] := hl
  unfold pf_X6_usedLength at hf
  refine lv_aload_n hx hb dX6_usedLength_0 rfl (lv_at hl 0 rfl) ?_
  obtain ⟨v1, S1, e1, hf⟩ := mw_bb hf
  obtain ⟨ho, e1⟩ := mw_v_s e1
  refine mw_calli (va_runV (As := []) (rest := []) ⟨hx, hb, hml, hown, hts⟩ (cm_X7_length l D G N S x0 (v1, S1) e1) (cwV 0 hts (mw_gV tw_307 tw_308 tw_309 tw_3 tw_310) rfl rfl rfl (by decide +kernel) ⟨Nat.le_of_ble_eq_true rfl, Nat.le_of_ble_eq_true rfl⟩) (mw_preV hw (ci := 7) rfl ho) rfl rfl hl.1 rfl (lv_room (Nat.le_of_ble_eq_true rfl)) dX6_usedLength_1 ⟨(Nat.le_of_ble_eq_true rfl), (Nat.le_of_ble_eq_true rfl)⟩) hw (fun H locs hw => ?_)
  refine lv_bipush (v := 8) hx hb dX6_usedLength_4 (by decide) ?_
  refine va_mmin hx hb (by rw [hml]; exact hl.1.symm) hown (hts _ tw_311) (hts _ tw_26) (hts _ tw_2) (hts _ tw_27) (Nat.le_of_ble_eq_true rfl) (Nat.le_of_ble_eq_true rfl) (Nat.le_of_ble_eq_true rfl) (Nat.le_of_ble_eq_true rfl) dX6_usedLength_6 ?_
  exact mw_iret hx hb hr hlocks hw hf dX6_usedLength_9
abbrev rmX7_at : Room := { frames := 0, cells := 0, slots := 0, locals := 0 }
abbrev wsX7_at : List Cond := Cond.code yX7_at cX7_at 2 (some .char) :: lw_good
set_option maxHeartbeats 4000000 in
set_option maxRecDepth 100000 in
theorem cm_X7_at (l : Launch) (D : va_G) (G : Nat → ClassId) (N : Nat) (S : mw_M) (h0 : Nat) (x1 : Int32) (z : Int32 × mw_M) (hf : pf_X7_at G N S h0 x1 = some z) : Met l yX7_at wsX7_at rmX7_at (va_Pc [.ref h0, .int x1] (mw_B D vwCl (mw_tys G) mw_aos S)) (mw_Qi D vwCl (mw_tys G) mw_aos (mw_A S) z) 0 0 (mw_A S) := by
  refine Met.ofW (cc := cX7_at) (maxL := 2) (ret := (some .char)) (by decide) rfl ?_
  intro p e s m args below meth c s₁ B hml hv
  obtain ⟨rfl, hB⟩ := hv
  have hw := mw_begin hB
  have hx := B.exec
  have hb := B.bytes
  have hr := B.returns
  have hts : ∀ w ∈ lw_good, w.before _ s = true := fun w h => atoms_spec (ws := wsX7_at) B.pre w (List.mem_cons_of_mem _ h)
  have hown : s.vm.findClass RX7 = some m.cls := findClass_of_methodNamed B.named
  have hlocks := B.notSynchronized
  have hC : mw_C p s m _ meth c cX7_at RX7 (some .char) lw_good 2 := ⟨hx, hb, hml, hown, hts, hr, hlocks⟩
  have hl := lv_entry ([.ref h0, .int x1]) (n := 2) (Nat.le_of_ble_eq_true rfl)
  rw [lg_entry_eq]
  generalize (lg_sl ([.ref h0, .int x1]) ++ List.replicate (2 - (lg_sl ([.ref h0, .int x1])).length) Slot.unset).toArray = ls at hl ⊢
  have hl : lv_has ls 2 [(0, .ref h0), (1, .int x1)] := hl
  unfold pf_X7_at at hf
  refine lv_iload_n hx hb dX7_at_0 rfl (lv_at hl 1 rfl) ?_
  refine lv_if_lt hx hb dX7_at_1 (tgt := 21) (by decide) (fun hc => ?_) (fun hc => ?_)
  · rw [if_pos hc] at hf
    refine lv_iconst (v := 0) hx hb dX7_at_21 (by decide) ?_
    exact mw_zret hx hb hr hlocks hw rfl hf dX7_at_22
  · rw [if_neg hc] at hf
    refine lv_iload_n hx hb dX7_at_4 rfl (lv_at hl 1 rfl) ?_
    refine lv_aload_n hx hb dX7_at_5 rfl (lv_at hl 0 rfl) ?_
    obtain ⟨v1, e1, hf⟩ := mw_b hf
    refine mw_geti hx hb hts inX7 hown hw (ci := 7) rfl 1 (by decide) (hts _ tw_38) rfl e1 dX7_at_6 ?_
    refine lv_icmp_ge hx hb dX7_at_9 (tgt := 21) (by decide) (fun hc => ?_) (fun hc => ?_)
    · rw [if_pos hc] at hf
      refine lv_iconst (v := 0) hx hb dX7_at_21 (by decide) ?_
      exact mw_zret hx hb hr hlocks hw rfl hf dX7_at_22
    · rw [if_neg hc] at hf
      refine lv_aload_n hx hb dX7_at_12 rfl (lv_at hl 0 rfl) ?_
      obtain ⟨v2, e2, hf⟩ := mw_b hf
      refine mw_getr hx hb hts inX7 hown hw (ci := 7) rfl 0 (by decide) (hts _ tw_37) rfl e2 dX7_at_13 ?_
      refine lv_iload_n hx hb dX7_at_16 rfl (lv_at hl 1 rfl) ?_
      obtain ⟨v3, e3, hf⟩ := mw_b hf
      refine mw_cald hx hb hw 2 rfl e3 dX7_at_17 ?_
      refine lv_goto hx hb dX7_at_18 (tgt := 22) (by decide) ?_
      exact mw_zret hx hb hr hlocks hw rfl hf dX7_at_22
abbrev rmX6_isSame : Room := { frames := 2, cells := 0, slots := 0, locals := 40 }
abbrev wsX6_isSame : List Cond := Cond.code yX6_isSame cX6_isSame 4 (some .boolean) :: lw_good
set_option maxHeartbeats 4000000 in
set_option maxRecDepth 100000 in
theorem bX6_isSame_17 {p : Program} {l : Launch} {e : Env} {s : State} {m : MethodId} {args : Array Value} {below : List Frame} {meth : Method} {c : Code} (hC : mw_C p s m args meth c cX6_isSame RX6 (some .boolean) lw_good 4) (D : va_G) (G : Nat → ClassId) (N : Nat) {A : Nat → Prop} {z : Int32 × mw_M} : ∀ (n : Nat) (y0 : Nat) (y1 : Int32) (y2 : Nat) (y3 : Int32) (S : mw_M) (H : Heap) (locs : List Loc) (ls : Array Slot), pf_X6_isSame_17 G N n y0 y1 y2 y3 S = some z → lv_has ls 4 [(0, .ref y0), (1, .int y1), (2, .ref y2), (3, .int y3)] → mw_W D vwCl (mw_tys G) mw_aos A s S H locs → W p l e (headSpec wsX6_isSame rmX6_isSame).room s m args below meth c H locs 0 0 (MQ below (mw_Qi D vwCl (mw_tys G) mw_aos A z) args s 0 0 A) (F0 m 17 ls []) := by
  obtain ⟨hx, hb, hml, hown, hts, hr, hlocks⟩ := hC
  intro n
  induction n with
  | zero => intro y0 y1 y2 y3 S H locs ls hf; rw [pf_X6_isSame_17] at hf; cases hf
  | succ n ih =>
    intro y0 y1 y2 y3 S H locs ls hf hl hw
    rw [pf_X6_isSame_17] at hf
    refine lv_iload_n hx hb dX6_isSame_17 rfl (lv_at hl 3 rfl) ?_
    refine lv_aload_n hx hb dX6_isSame_18 rfl (lv_at hl 0 rfl) ?_
    obtain ⟨v1, e1, hf⟩ := mw_b hf
    refine mw_getr hx hb hts inX6 hown hw (ci := 6) rfl 1 (by decide) (hts _ tw_52) rfl e1 dX6_isSame_19 ?_
    refine lv_iload_n hx hb dX6_isSame_22 rfl (lv_at hl 1 rfl) ?_
    obtain ⟨v2, e2, hf⟩ := mw_b hf
    refine mw_iald hx hb hw 0 rfl e2 dX6_isSame_23 ?_
    refine lv_icmp_ge hx hb dX6_isSame_24 (tgt := 54) (by decide) (fun hc => ?_) (fun hc => ?_)
    · rw [if_pos hc] at hf
      refine lv_iconst (v := 1) hx hb dX6_isSame_54 (by decide) ?_
      exact mw_zret hx hb hr hlocks hw rfl hf dX6_isSame_55
    · rw [if_neg hc] at hf
      refine lv_aload_n hx hb dX6_isSame_27 rfl (lv_at hl 0 rfl) ?_
      obtain ⟨v3, e3, hf⟩ := mw_b hf
      refine mw_getr hx hb hts inX6 hown hw (ci := 6) rfl 0 (by decide) (hts _ tw_51) rfl e3 dX6_isSame_28 ?_
      refine lv_iload_n hx hb dX6_isSame_31 rfl (lv_at hl 1 rfl) ?_
      refine lv_bipush (v := 8) hx hb dX6_isSame_32 (by decide) ?_
      refine lv_imul hx hb dX6_isSame_34 ?_
      refine lv_iload_n hx hb dX6_isSame_35 rfl (lv_at hl 3 rfl) ?_
      refine lv_iadd hx hb dX6_isSame_36 ?_
      obtain ⟨v4, e4, hf⟩ := mw_b hf
      refine mw_cald hx hb hw 2 rfl e4 dX6_isSame_37 ?_
      refine lv_aload_n hx hb dX6_isSame_38 rfl (lv_at hl 2 rfl) ?_
      refine lv_iload_n hx hb dX6_isSame_39 rfl (lv_at hl 3 rfl) ?_
      obtain ⟨v5, S5, e5, hf⟩ := mw_bb hf
      obtain ⟨ho, e5⟩ := mw_v_s e5
      refine mw_calli (va_runV (As := [.int y3]) (rest := [.int v4]) ⟨hx, hb, hml, hown, hts⟩ (cm_X7_at l D G N S y2 y3 (v5, S5) e5) (cwV 1 hts (mw_gV tw_312 tw_313 tw_314 tw_3 tw_315) rfl rfl rfl (by decide +kernel) ⟨Nat.le_of_ble_eq_true rfl, Nat.le_of_ble_eq_true rfl⟩) (mw_preV hw (ci := 7) rfl ho) rfl rfl hl.1 rfl (lv_room (Nat.le_of_ble_eq_true rfl)) dX6_isSame_40 ⟨(Nat.le_of_ble_eq_true rfl), (Nat.le_of_ble_eq_true rfl)⟩) hw (fun H locs hw => ?_)
      refine lv_icmp_eq hx hb dX6_isSame_43 (tgt := 48) (by decide) (fun hc => ?_) (fun hc => ?_)
      · rw [if_pos hc] at hf
        refine lv_iinc (k := 3) (v := (y3 + 1)) hx hb dX6_isSame_48 hl rfl (congrArg (fun q => y3 + q) (show Int32.ofInt 1 = 1 by decide)) (by decide) rfl (fun ls hl => ?_)
        have hl : lv_has ls 4 [(3, .int (y3 + 1)), (0, .ref y0), (1, .int y1), (2, .ref y2)] := hl
        refine lv_goto hx hb dX6_isSame_51 (tgt := 17) (by decide) ?_
        exact ih _ _ _ _ _ _ _ _ hf (lv_sub hl [1, 2, 3, 0] rfl) hw
      · rw [if_neg hc] at hf
        refine lv_iconst (v := 0) hx hb dX6_isSame_46 (by decide) ?_
        exact mw_zret hx hb hr hlocks hw rfl hf dX6_isSame_47
set_option maxHeartbeats 4000000 in
set_option maxRecDepth 100000 in
theorem cm_X6_isSame (l : Launch) (D : va_G) (G : Nat → ClassId) (N : Nat) (S : mw_M) (h0 : Nat) (x1 : Int32) (x2 : Nat) (z : Int32 × mw_M) (hf : pf_X6_isSame G N S h0 x1 x2 = some z) : Met l yX6_isSame wsX6_isSame rmX6_isSame (va_Pc [.ref h0, .int x1, .ref x2] (mw_B D vwCl (mw_tys G) mw_aos S)) (mw_Qi D vwCl (mw_tys G) mw_aos (mw_A S) z) 0 0 (mw_A S) := by
  refine Met.ofW (cc := cX6_isSame) (maxL := 4) (ret := (some .boolean)) (by decide) rfl ?_
  intro p e s m args below meth c s₁ B hml hv
  obtain ⟨rfl, hB⟩ := hv
  have hw := mw_begin hB
  have hx := B.exec
  have hb := B.bytes
  have hr := B.returns
  have hts : ∀ w ∈ lw_good, w.before _ s = true := fun w h => atoms_spec (ws := wsX6_isSame) B.pre w (List.mem_cons_of_mem _ h)
  have hown : s.vm.findClass RX6 = some m.cls := findClass_of_methodNamed B.named
  have hlocks := B.notSynchronized
  have hC : mw_C p s m _ meth c cX6_isSame RX6 (some .boolean) lw_good 4 := ⟨hx, hb, hml, hown, hts, hr, hlocks⟩
  have hl := lv_entry ([.ref h0, .int x1, .ref x2]) (n := 4) (Nat.le_of_ble_eq_true rfl)
  rw [lg_entry_eq]
  generalize (lg_sl ([.ref h0, .int x1, .ref x2]) ++ List.replicate (4 - (lg_sl ([.ref h0, .int x1, .ref x2])).length) Slot.unset).toArray = ls at hl ⊢
  have hl : lv_has ls 4 [(0, .ref h0), (1, .int x1), (2, .ref x2)] := hl
  unfold pf_X6_isSame at hf
  refine lv_aload_n hx hb dX6_isSame_0 rfl (lv_at hl 0 rfl) ?_
  obtain ⟨v1, e1, hf⟩ := mw_b hf
  refine mw_getr hx hb hts inX6 hown hw (ci := 6) rfl 1 (by decide) (hts _ tw_52) rfl e1 dX6_isSame_1 ?_
  refine lv_iload_n hx hb dX6_isSame_4 rfl (lv_at hl 1 rfl) ?_
  obtain ⟨v2, e2, hf⟩ := mw_b hf
  refine mw_iald hx hb hw 0 rfl e2 dX6_isSame_5 ?_
  refine lv_aload_n hx hb dX6_isSame_6 rfl (lv_at hl 2 rfl) ?_
  obtain ⟨v3, S3, e3, hf⟩ := mw_bb hf
  refine mw_calli (va_runS (As := [.ref x2]) (rest := [.int v2]) ⟨hx, hb, hml, hown, hts⟩ (cm_X6_usedLength l D G N S x2 (v3, S3) e3) (cwS 1 hts (mw_gS tw_304 tw_305 tw_4 tw_306) rfl rfl rfl (by decide +kernel) ⟨Nat.le_of_ble_eq_true rfl, Nat.le_of_ble_eq_true rfl⟩) (mw_preS hw) rfl rfl hl.1 rfl (lv_room (Nat.le_of_ble_eq_true rfl)) dX6_isSame_7 ⟨(Nat.le_of_ble_eq_true rfl), (Nat.le_of_ble_eq_true rfl)⟩) hw (fun H locs hw => ?_)
  refine lv_icmp_eq hx hb dX6_isSame_10 (tgt := 15) (by decide) (fun hc => ?_) (fun hc => ?_)
  · rw [if_pos hc] at hf
    refine lv_iconst (v := 0) hx hb dX6_isSame_15 (by decide) ?_
    refine lv_istore_n hx hb dX6_isSame_16 rfl hl (by decide) rfl (fun ls hl => ?_)
    have hl : lv_has ls 4 [(3, .int 0), (0, .ref h0), (1, .int x1), (2, .ref x2)] := hl
    exact bX6_isSame_17 ⟨hx, hb, hml, hown, hts, hr, hlocks⟩ D G N N _ _ _ _ _ _ _ _ hf (lv_sub hl [1, 2, 3, 0] rfl) hw
  · rw [if_neg hc] at hf
    refine lv_iconst (v := 0) hx hb dX6_isSame_13 (by decide) ?_
    exact mw_zret hx hb hr hlocks hw rfl hf dX6_isSame_14
abbrev rmX6_numberFor : Room := { frames := 3, cells := 0, slots := 0, locals := 63 }
abbrev wsX6_numberFor : List Cond := Cond.code yX6_numberFor cX6_numberFor 3 (some .int) :: lw_good
set_option maxHeartbeats 4000000 in
set_option maxRecDepth 100000 in
theorem bX6_numberFor_2 {p : Program} {l : Launch} {e : Env} {s : State} {m : MethodId} {args : Array Value} {below : List Frame} {meth : Method} {c : Code} (hC : mw_C p s m args meth c cX6_numberFor RX6 (some .int) lw_good 3) (D : va_G) (G : Nat → ClassId) (N : Nat) {A : Nat → Prop} {z : Int32 × mw_M} : ∀ (n : Nat) (y0 : Nat) (y1 : Nat) (y2 : Int32) (S : mw_M) (H : Heap) (locs : List Loc) (ls : Array Slot), pf_X6_numberFor_2 G N n y0 y1 y2 S = some z → lv_has ls 3 [(0, .ref y0), (1, .ref y1), (2, .int y2)] → mw_W D vwCl (mw_tys G) mw_aos A s S H locs → W p l e (headSpec wsX6_numberFor rmX6_numberFor).room s m args below meth c H locs 0 0 (MQ below (mw_Qi D vwCl (mw_tys G) mw_aos A z) args s 0 0 A) (F0 m 2 ls []) := by
  obtain ⟨hx, hb, hml, hown, hts, hr, hlocks⟩ := hC
  intro n
  induction n with
  | zero => intro y0 y1 y2 S H locs ls hf; rw [pf_X6_numberFor_2] at hf; cases hf
  | succ n ih =>
    intro y0 y1 y2 S H locs ls hf hl hw
    rw [pf_X6_numberFor_2] at hf
    refine lv_iload_n hx hb dX6_numberFor_2 rfl (lv_at hl 2 rfl) ?_
    refine lv_aload_n hx hb dX6_numberFor_3 rfl (lv_at hl 0 rfl) ?_
    obtain ⟨v1, e1, hf⟩ := mw_b hf
    refine mw_geti hx hb hts inX6 hown hw (ci := 6) rfl 2 (by decide) (hts _ tw_53) rfl e1 dX6_numberFor_4 ?_
    refine lv_icmp_ge hx hb dX6_numberFor_7 (tgt := 27) (by decide) (fun hc => ?_) (fun hc => ?_)
    · rw [if_pos hc] at hf
      refine lv_aload_n hx hb dX6_numberFor_27 rfl (lv_at hl 0 rfl) ?_
      obtain ⟨v2, e2, hf⟩ := mw_b hf
      refine mw_geti hx hb hts inX6 hown hw (ci := 6) rfl 2 (by decide) (hts _ tw_53) rfl e2 dX6_numberFor_28 ?_
      exact mw_iret hx hb hr hlocks hw hf dX6_numberFor_31
    · rw [if_neg hc] at hf
      refine lv_aload_n hx hb dX6_numberFor_10 rfl (lv_at hl 0 rfl) ?_
      refine lv_iload_n hx hb dX6_numberFor_11 rfl (lv_at hl 2 rfl) ?_
      refine lv_aload_n hx hb dX6_numberFor_12 rfl (lv_at hl 1 rfl) ?_
      obtain ⟨v3, S3, e3, hf⟩ := mw_bb hf
      obtain ⟨ho, e3⟩ := mw_v_s e3
      refine mw_calli (va_runV (As := [.int y2, .ref y1]) (rest := []) ⟨hx, hb, hml, hown, hts⟩ (cm_X6_isSame l D G N S y0 y2 y1 (v3, S3) e3) (cwV 2 hts (mw_gV tw_300 tw_302 tp_3 tw_4 tw_303) rfl rfl rfl (by decide +kernel) ⟨Nat.le_of_ble_eq_true rfl, Nat.le_of_ble_eq_true rfl⟩) (mw_preV hw (ci := 6) rfl ho) rfl rfl hl.1 rfl (lv_room (Nat.le_of_ble_eq_true rfl)) dX6_numberFor_13 ⟨(Nat.le_of_ble_eq_true rfl), (Nat.le_of_ble_eq_true rfl)⟩) hw (fun H locs hw => ?_)
      refine lv_if_eq hx hb dX6_numberFor_16 (tgt := 21) (by decide) (fun hc => ?_) (fun hc => ?_)
      · rw [if_pos hc] at hf
        refine lv_iinc (k := 2) (v := (y2 + 1)) hx hb dX6_numberFor_21 hl rfl (congrArg (fun q => y2 + q) (show Int32.ofInt 1 = 1 by decide)) (by decide) rfl (fun ls hl => ?_)
        have hl : lv_has ls 3 [(2, .int (y2 + 1)), (0, .ref y0), (1, .ref y1)] := hl
        refine lv_goto hx hb dX6_numberFor_24 (tgt := 2) (by decide) ?_
        exact ih _ _ _ _ _ _ _ hf (lv_sub hl [1, 2, 0] rfl) hw
      · rw [if_neg hc] at hf
        refine lv_iload_n hx hb dX6_numberFor_19 rfl (lv_at hl 2 rfl) ?_
        exact mw_iret hx hb hr hlocks hw hf dX6_numberFor_20
set_option maxHeartbeats 4000000 in
set_option maxRecDepth 100000 in
theorem cm_X6_numberFor (l : Launch) (D : va_G) (G : Nat → ClassId) (N : Nat) (S : mw_M) (h0 : Nat) (x1 : Nat) (z : Int32 × mw_M) (hf : pf_X6_numberFor G N S h0 x1 = some z) : Met l yX6_numberFor wsX6_numberFor rmX6_numberFor (va_Pc [.ref h0, .ref x1] (mw_B D vwCl (mw_tys G) mw_aos S)) (mw_Qi D vwCl (mw_tys G) mw_aos (mw_A S) z) 0 0 (mw_A S) := by
  refine Met.ofW (cc := cX6_numberFor) (maxL := 3) (ret := (some .int)) (by decide) rfl ?_
  intro p e s m args below meth c s₁ B hml hv
  obtain ⟨rfl, hB⟩ := hv
  have hw := mw_begin hB
  have hx := B.exec
  have hb := B.bytes
  have hr := B.returns
  have hts : ∀ w ∈ lw_good, w.before _ s = true := fun w h => atoms_spec (ws := wsX6_numberFor) B.pre w (List.mem_cons_of_mem _ h)
  have hown : s.vm.findClass RX6 = some m.cls := findClass_of_methodNamed B.named
  have hlocks := B.notSynchronized
  have hC : mw_C p s m _ meth c cX6_numberFor RX6 (some .int) lw_good 3 := ⟨hx, hb, hml, hown, hts, hr, hlocks⟩
  have hl := lv_entry ([.ref h0, .ref x1]) (n := 3) (Nat.le_of_ble_eq_true rfl)
  rw [lg_entry_eq]
  generalize (lg_sl ([.ref h0, .ref x1]) ++ List.replicate (3 - (lg_sl ([.ref h0, .ref x1])).length) Slot.unset).toArray = ls at hl ⊢
  have hl : lv_has ls 3 [(0, .ref h0), (1, .ref x1)] := hl
  unfold pf_X6_numberFor at hf
  refine lv_iconst (v := 0) hx hb dX6_numberFor_0 (by decide) ?_
  refine lv_istore_n hx hb dX6_numberFor_1 rfl hl (by decide) rfl (fun ls hl => ?_)
  have hl : lv_has ls 3 [(2, .int 0), (0, .ref h0), (1, .ref x1)] := hl
  exact bX6_numberFor_2 ⟨hx, hb, hml, hown, hts, hr, hlocks⟩ D G N N _ _ _ _ _ _ _ hf (lv_sub hl [1, 2, 0] rfl) hw
