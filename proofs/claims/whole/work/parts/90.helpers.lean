abbrev rmL_type : Room := { frames := 7, cells := 1, slots := 6, locals := 104 }
abbrev wsL_type : List Cond := Cond.codeWith yL_type cL_type 5 (some .int) [(0, 10, 13, 13), (0, 10, 17, 15)] :: lw_good
set_option maxHeartbeats 4000000 in
set_option maxRecDepth 100000 in
theorem cm_L_type (l : Launch) (D : va_G) (G : Nat → ClassId) (N : Nat) (S : mw_M) (h0 : Nat) (x1 : Int32) (x2 : Int32) (o : Nat) (z : Nat × Int32 × mw_M) (hf : pf_X8_type G N S h0 x1 x2 = some z) (hz3 : z.1 ≤ 2) (htr : l.stackTraces = false) (hob : ∃ fs, S.1 h0 = some (.inr (8, fs))) (ho : z.1 = 0 → ∃ u, mw_sj z.2.2 o (G 8) 0 z.2.1.toInt64 = some u) : Met l yL_type wsL_type rmL_type (va_Pc [.ref h0, .int x1, .int x2, .ref o] (hl_B D vwCl (mw_tys G) mw_aos S)) (hl_Q D G S o nI z.2.1.toInt64 z) 1 6 (mw_A S) := by
  refine va_MetW (hh := [(0, 10, 13, 13), (0, 10, 17, 15)]) (cc := cL_type) (maxL := 5) (ret := (some .int)) (by decide) rfl ?_
  intro p e s m args below meth c s₁ B hml hv
  obtain ⟨rfl, hB, hTT, hXX⟩ := hv
  have hw := mw_begin hB
  have hx := B.exec
  have hb := B.bytes
  have hr := B.returns
  have hts : ∀ w ∈ lw_good, w.before _ s = true := fun w h => atoms_spec (ws := wsL_type) B.pre w (List.mem_cons_of_mem _ h)
  have hown : s.vm.findClass RL = some m.cls := findClass_of_methodNamed B.named
  have hlocks := B.notSynchronized
  obtain ⟨m9, meth9, c9, hn9, h19, h29, -, -, htb, -, -, -⟩ := Cond.codeWith_spec (atoms_spec (ws := wsL_type) B.pre _ List.mem_cons_self)
  cases B.named.symm.trans hn9
  cases B.method.symm.trans h19
  have X9 := Stand.of_body B
  cases X9.code.symm.trans h29
  have hl := lv_entry ([.ref h0, .int x1, .int x2, .ref o]) (n := 5) (Nat.le_of_ble_eq_true rfl)
  rw [lg_entry_eq]
  generalize (lg_sl ([.ref h0, .int x1, .int x2, .ref o]) ++ List.replicate (5 - (lg_sl ([.ref h0, .int x1, .int x2, .ref o])).length) Slot.unset).toArray = ls at hl ⊢
  have hl : lv_has ls 5 [(0, .ref h0), (1, .int x1), (2, .int x2), (3, .ref o)] := hl
  refine lv_aload_n hx hb dL_type_0 rfl (lv_at hl 3 rfl) ?_
  refine lv_iconst (v := 0) hx hb dL_type_1 (by decide) ?_
  refine lv_aload_n hx hb dL_type_2 rfl (lv_at hl 0 rfl) ?_
  refine lv_iload_n hx hb dL_type_3 rfl (lv_at hl 1 rfl) ?_
  refine lv_iload_n hx hb dL_type_4 rfl (lv_at hl 2 rfl) ?_
  refine hl_call (As := [.int x1, .int x2]) (rest := [.int 0, .ref o]) (ci := 8) ⟨hx, hb, hml, hown, hts⟩ (cm_X8_type l D G N S h0 x1 x2 z hf hz3 htr) (cwV 2 hts (mw_gV tw_538 tw_539 tw_540 tw_1 tw_541) rfl rfl rfl (by decide +kernel) ⟨Nat.le_of_ble_eq_true rfl, Nat.le_of_ble_eq_true rfl⟩) rfl hob hw hTT (mw_nst hB) rfl hl.1 (lv_room (Nat.le_of_ble_eq_true rfl)) dL_type_5 ⟨Nat.le_of_ble_eq_true rfl, Nat.le_of_ble_eq_true rfl⟩ (fun h0z H locs hw => ?_) (fun exc x cls H locs nn hexc hpl hcls hnn hw => ?_)
  · obtain ⟨u, hu⟩ := ho h0z
    refine lv_i2l hx hb dL_type_8 rfl ?_
    refine mw_last hx hb hw 8 rfl hu dL_type_9 (fun H locs hw => ?_)
    refine lv_goto hx hb dL_type_10 (tgt := 21) (by decide) ?_
    refine lv_iconst (v := 0) hx hb dL_type_21 (by decide) ?_
    exact W.iret hx hb hr (fun t ht hW => ⟨⟨0, u, rfl, ⟨by rw [h0z]; rfl, fun _ => hu, fun h => absurd h0z h⟩, mw_end hw ht hW⟩, hw.2.2.1.F ht⟩) hw.2.2.1.2.2 dL_type_22 hlocks
  · rcases hexc with ⟨h1, rfl⟩ | ⟨h1, rfl⟩
    · refine ⟨13, hl_c1 hpl htb (by decide) hown (hts _ tw_536) hcls (by decide), ?_⟩
      refine lv_astore hx hb dL_type_13 hl (by decide) rfl (fun ls hl => ?_)
      refine lv_iconst (v := 1) hx hb dL_type_15 (by decide) ?_
      exact W.iret hx hb hr (fun t ht hW => ⟨⟨1, (z.2.2.1, nn), rfl, ⟨by rw [h1]; rfl, fun h => absurd (h1.symm.trans h) (by decide), fun _ => ⟨rfl, hnn⟩⟩, mw_end hw ht hW⟩, hw.2.2.1.F ht⟩) hw.2.2.1.2.2 dL_type_16 hlocks
    · refine ⟨17, hl_c2 hpl htb (by decide) hown (hts _ tw_536) (hts _ tw_537) hXX hcls (by decide) (by decide), ?_⟩
      refine lv_astore hx hb dL_type_17 hl (by decide) rfl (fun ls hl => ?_)
      refine lv_iconst (v := 2) hx hb dL_type_19 (by decide) ?_
      exact W.iret hx hb hr (fun t ht hW => ⟨⟨2, (z.2.2.1, nn), rfl, ⟨by rw [h1]; rfl, fun h => absurd (h1.symm.trans h) (by decide), fun _ => ⟨rfl, hnn⟩⟩, mw_end hw ht hW⟩, hw.2.2.1.F ht⟩) hw.2.2.1.2.2 dL_type_20 hlocks

abbrev rmL_record : Room := { frames := 7, cells := 1, slots := 6, locals := 102 }
abbrev wsL_record : List Cond := Cond.codeWith yL_record cL_record 3 (some .int) [(0, 8, 11, 15)] :: lw_good
set_option maxHeartbeats 4000000 in
set_option maxRecDepth 100000 in
theorem cm_L_record (l : Launch) (D : va_G) (G : Nat → ClassId) (N : Nat) (S : mw_M) (h0 : Nat) (o : Nat) (z : Nat × Int32 × mw_M) (hf : pf_X8_record G N S h0 = some z) (hz3 : z.1 ≤ 2) (htr : l.stackTraces = false) (hob : ∃ fs, S.1 h0 = some (.inr (8, fs))) (ho : z.1 = 0 → ∃ u, mw_sj z.2.2 o (G 8) 0 z.2.1.toInt64 = some u) (h21 : ¬ z.1 = 1) : Met l yL_record wsL_record rmL_record (va_Pc [.ref h0, .ref o] (hl_B D vwCl (mw_tys G) mw_aos S)) (hl_Q D G S o (fun c => if c = 0 then 0 else 1) z.2.1.toInt64 z) 1 6 (mw_A S) := by
  refine va_MetW (hh := [(0, 8, 11, 15)]) (cc := cL_record) (maxL := 3) (ret := (some .int)) (by decide) rfl ?_
  intro p e s m args below meth c s₁ B hml hv
  obtain ⟨rfl, hB, hTT, hXX⟩ := hv
  have hw := mw_begin hB
  have hx := B.exec
  have hb := B.bytes
  have hr := B.returns
  have hts : ∀ w ∈ lw_good, w.before _ s = true := fun w h => atoms_spec (ws := wsL_record) B.pre w (List.mem_cons_of_mem _ h)
  have hown : s.vm.findClass RL = some m.cls := findClass_of_methodNamed B.named
  have hlocks := B.notSynchronized
  obtain ⟨m9, meth9, c9, hn9, h19, h29, -, -, htb, -, -, -⟩ := Cond.codeWith_spec (atoms_spec (ws := wsL_record) B.pre _ List.mem_cons_self)
  cases B.named.symm.trans hn9
  cases B.method.symm.trans h19
  have X9 := Stand.of_body B
  cases X9.code.symm.trans h29
  have hl := lv_entry ([.ref h0, .ref o]) (n := 3) (Nat.le_of_ble_eq_true rfl)
  rw [lg_entry_eq]
  generalize (lg_sl ([.ref h0, .ref o]) ++ List.replicate (3 - (lg_sl ([.ref h0, .ref o])).length) Slot.unset).toArray = ls at hl ⊢
  have hl : lv_has ls 3 [(0, .ref h0), (1, .ref o)] := hl
  refine lv_aload_n hx hb dL_record_0 rfl (lv_at hl 1 rfl) ?_
  refine lv_iconst (v := 0) hx hb dL_record_1 (by decide) ?_
  refine lv_aload_n hx hb dL_record_2 rfl (lv_at hl 0 rfl) ?_
  refine hl_call (As := []) (rest := [.int 0, .ref o]) (ci := 8) ⟨hx, hb, hml, hown, hts⟩ (cm_X8_record l D G N S h0 z hf hz3 htr) (cwV 0 hts (mw_gV tw_627 tw_628 tw_629 tw_1 tw_630) rfl rfl rfl (by decide +kernel) ⟨Nat.le_of_ble_eq_true rfl, Nat.le_of_ble_eq_true rfl⟩) rfl hob hw hTT (mw_nst hB) rfl hl.1 (lv_room (Nat.le_of_ble_eq_true rfl)) dL_record_3 ⟨Nat.le_of_ble_eq_true rfl, Nat.le_of_ble_eq_true rfl⟩ (fun h0z H locs hw => ?_) (fun exc x cls H locs nn hexc hpl hcls hnn hw => ?_)
  · obtain ⟨u, hu⟩ := ho h0z
    refine lv_i2l hx hb dL_record_6 rfl ?_
    refine mw_last hx hb hw 8 rfl hu dL_record_7 (fun H locs hw => ?_)
    refine lv_goto hx hb dL_record_8 (tgt := 14) (by decide) ?_
    refine lv_iconst (v := 0) hx hb dL_record_14 (by decide) ?_
    exact W.iret hx hb hr (fun t ht hW => ⟨⟨0, u, rfl, ⟨by rw [h0z]; rfl, fun _ => hu, fun h => absurd h0z h⟩, mw_end hw ht hW⟩, hw.2.2.1.F ht⟩) hw.2.2.1.2.2 dL_record_15 hlocks
  · rcases hexc with ⟨h1, rfl⟩ | ⟨h1, rfl⟩
    · exact absurd h1 h21
    · refine ⟨11, hl_c1 hpl htb (by decide) hown (hts _ tw_537) hcls (by decide), ?_⟩
      refine lv_astore_n hx hb dL_record_11 rfl hl (by decide) rfl (fun ls hl => ?_)
      refine lv_iconst (v := 1) hx hb dL_record_12 (by decide) ?_
      exact W.iret hx hb hr (fun t ht hW => ⟨⟨1, (z.2.2.1, nn), rfl, ⟨by rw [h1]; rfl, fun h => absurd (h1.symm.trans h) (by decide), fun _ => ⟨rfl, hnn⟩⟩, mw_end hw ht hW⟩, hw.2.2.1.F ht⟩) hw.2.2.1.2.2 dL_record_13 hlocks

abbrev rmL_settings : Room := { frames := 7, cells := 1, slots := 6, locals := 119 }
abbrev wsL_settings : List Cond := Cond.codeWith yL_settings cL_settings 4 (some .int) [(0, 9, 12, 13), (0, 9, 15, 15)] :: lw_good
set_option maxHeartbeats 4000000 in
set_option maxRecDepth 100000 in
theorem cm_L_settings (l : Launch) (D : va_G) (G : Nat → ClassId) (N : Nat) (S : mw_M) (h0 : Nat) (x1 : Int32) (o : Nat) (z : Nat × Int32 × mw_M) (hf : pf_X8_settings G N S h0 x1 = some z) (hz3 : z.1 ≤ 2) (htr : l.stackTraces = false) (hob : ∃ fs, S.1 h0 = some (.inr (8, fs))) (ho : z.1 = 0 → ∃ u, mw_sj z.2.2 o (G 8) 0 z.2.1.toInt64 = some u) : Met l yL_settings wsL_settings rmL_settings (va_Pc [.ref h0, .int x1, .ref o] (hl_B D vwCl (mw_tys G) mw_aos S)) (hl_Q D G S o nI z.2.1.toInt64 z) 1 6 (mw_A S) := by
  refine va_MetW (hh := [(0, 9, 12, 13), (0, 9, 15, 15)]) (cc := cL_settings) (maxL := 4) (ret := (some .int)) (by decide) rfl ?_
  intro p e s m args below meth c s₁ B hml hv
  obtain ⟨rfl, hB, hTT, hXX⟩ := hv
  have hw := mw_begin hB
  have hx := B.exec
  have hb := B.bytes
  have hr := B.returns
  have hts : ∀ w ∈ lw_good, w.before _ s = true := fun w h => atoms_spec (ws := wsL_settings) B.pre w (List.mem_cons_of_mem _ h)
  have hown : s.vm.findClass RL = some m.cls := findClass_of_methodNamed B.named
  have hlocks := B.notSynchronized
  obtain ⟨m9, meth9, c9, hn9, h19, h29, -, -, htb, -, -, -⟩ := Cond.codeWith_spec (atoms_spec (ws := wsL_settings) B.pre _ List.mem_cons_self)
  cases B.named.symm.trans hn9
  cases B.method.symm.trans h19
  have X9 := Stand.of_body B
  cases X9.code.symm.trans h29
  have hl := lv_entry ([.ref h0, .int x1, .ref o]) (n := 4) (Nat.le_of_ble_eq_true rfl)
  rw [lg_entry_eq]
  generalize (lg_sl ([.ref h0, .int x1, .ref o]) ++ List.replicate (4 - (lg_sl ([.ref h0, .int x1, .ref o])).length) Slot.unset).toArray = ls at hl ⊢
  have hl : lv_has ls 4 [(0, .ref h0), (1, .int x1), (2, .ref o)] := hl
  refine lv_aload_n hx hb dL_settings_0 rfl (lv_at hl 2 rfl) ?_
  refine lv_iconst (v := 0) hx hb dL_settings_1 (by decide) ?_
  refine lv_aload_n hx hb dL_settings_2 rfl (lv_at hl 0 rfl) ?_
  refine lv_iload_n hx hb dL_settings_3 rfl (lv_at hl 1 rfl) ?_
  refine hl_call (As := [.int x1]) (rest := [.int 0, .ref o]) (ci := 8) ⟨hx, hb, hml, hown, hts⟩ (cm_X8_settings l D G N S h0 x1 z hf hz3 htr) (cwV 1 hts (mw_gV tw_635 tw_636 tw_637 tw_1 tw_638) rfl rfl rfl (by decide +kernel) ⟨Nat.le_of_ble_eq_true rfl, Nat.le_of_ble_eq_true rfl⟩) rfl hob hw hTT (mw_nst hB) rfl hl.1 (lv_room (Nat.le_of_ble_eq_true rfl)) dL_settings_4 ⟨Nat.le_of_ble_eq_true rfl, Nat.le_of_ble_eq_true rfl⟩ (fun h0z H locs hw => ?_) (fun exc x cls H locs nn hexc hpl hcls hnn hw => ?_)
  · obtain ⟨u, hu⟩ := ho h0z
    refine lv_i2l hx hb dL_settings_7 rfl ?_
    refine mw_last hx hb hw 8 rfl hu dL_settings_8 (fun H locs hw => ?_)
    refine lv_goto hx hb dL_settings_9 (tgt := 18) (by decide) ?_
    refine lv_iconst (v := 0) hx hb dL_settings_18 (by decide) ?_
    exact W.iret hx hb hr (fun t ht hW => ⟨⟨0, u, rfl, ⟨by rw [h0z]; rfl, fun _ => hu, fun h => absurd h0z h⟩, mw_end hw ht hW⟩, hw.2.2.1.F ht⟩) hw.2.2.1.2.2 dL_settings_19 hlocks
  · rcases hexc with ⟨h1, rfl⟩ | ⟨h1, rfl⟩
    · refine ⟨12, hl_c1 hpl htb (by decide) hown (hts _ tw_536) hcls (by decide), ?_⟩
      refine lv_astore_n hx hb dL_settings_12 rfl hl (by decide) rfl (fun ls hl => ?_)
      refine lv_iconst (v := 1) hx hb dL_settings_13 (by decide) ?_
      exact W.iret hx hb hr (fun t ht hW => ⟨⟨1, (z.2.2.1, nn), rfl, ⟨by rw [h1]; rfl, fun h => absurd (h1.symm.trans h) (by decide), fun _ => ⟨rfl, hnn⟩⟩, mw_end hw ht hW⟩, hw.2.2.1.F ht⟩) hw.2.2.1.2.2 dL_settings_14 hlocks
    · refine ⟨15, hl_c2 hpl htb (by decide) hown (hts _ tw_536) (hts _ tw_537) hXX hcls (by decide) (by decide), ?_⟩
      refine lv_astore_n hx hb dL_settings_15 rfl hl (by decide) rfl (fun ls hl => ?_)
      refine lv_iconst (v := 2) hx hb dL_settings_16 (by decide) ?_
      exact W.iret hx hb hr (fun t ht hW => ⟨⟨2, (z.2.2.1, nn), rfl, ⟨by rw [h1]; rfl, fun h => absurd (h1.symm.trans h) (by decide), fun _ => ⟨rfl, hnn⟩⟩, mw_end hw ht hW⟩, hw.2.2.1.F ht⟩) hw.2.2.1.2.2 dL_settings_17 hlocks

abbrev rmL_start : Room := { frames := 7, cells := 1, slots := 6, locals := 131 }
abbrev wsL_start : List Cond := Cond.codeWith yL_start cL_start 4 (some .int) [(0, 9, 12, 13), (0, 9, 15, 15)] :: lw_good
set_option maxHeartbeats 4000000 in
set_option maxRecDepth 100000 in
theorem cm_L_start (l : Launch) (D : va_G) (G : Nat → ClassId) (N : Nat) (S : mw_M) (h0 : Nat) (x1 : Int32) (o : Nat) (z : Nat × Int32 × mw_M) (hf : pf_X8_start G N S h0 x1 = some z) (hz3 : z.1 ≤ 2) (htr : l.stackTraces = false) (hob : ∃ fs, S.1 h0 = some (.inr (8, fs))) (ho : z.1 = 0 → ∃ u, mw_sj z.2.2 o (G 8) 0 z.2.1.toInt64 = some u) : Met l yL_start wsL_start rmL_start (va_Pc [.ref h0, .int x1, .ref o] (hl_B D vwCl (mw_tys G) mw_aos S)) (hl_Q D G S o nI z.2.1.toInt64 z) 1 6 (mw_A S) := by
  refine va_MetW (hh := [(0, 9, 12, 13), (0, 9, 15, 15)]) (cc := cL_start) (maxL := 4) (ret := (some .int)) (by decide) rfl ?_
  intro p e s m args below meth c s₁ B hml hv
  obtain ⟨rfl, hB, hTT, hXX⟩ := hv
  have hw := mw_begin hB
  have hx := B.exec
  have hb := B.bytes
  have hr := B.returns
  have hts : ∀ w ∈ lw_good, w.before _ s = true := fun w h => atoms_spec (ws := wsL_start) B.pre w (List.mem_cons_of_mem _ h)
  have hown : s.vm.findClass RL = some m.cls := findClass_of_methodNamed B.named
  have hlocks := B.notSynchronized
  obtain ⟨m9, meth9, c9, hn9, h19, h29, -, -, htb, -, -, -⟩ := Cond.codeWith_spec (atoms_spec (ws := wsL_start) B.pre _ List.mem_cons_self)
  cases B.named.symm.trans hn9
  cases B.method.symm.trans h19
  have X9 := Stand.of_body B
  cases X9.code.symm.trans h29
  have hl := lv_entry ([.ref h0, .int x1, .ref o]) (n := 4) (Nat.le_of_ble_eq_true rfl)
  rw [lg_entry_eq]
  generalize (lg_sl ([.ref h0, .int x1, .ref o]) ++ List.replicate (4 - (lg_sl ([.ref h0, .int x1, .ref o])).length) Slot.unset).toArray = ls at hl ⊢
  have hl : lv_has ls 4 [(0, .ref h0), (1, .int x1), (2, .ref o)] := hl
  refine lv_aload_n hx hb dL_start_0 rfl (lv_at hl 2 rfl) ?_
  refine lv_iconst (v := 0) hx hb dL_start_1 (by decide) ?_
  refine lv_aload_n hx hb dL_start_2 rfl (lv_at hl 0 rfl) ?_
  refine lv_iload_n hx hb dL_start_3 rfl (lv_at hl 1 rfl) ?_
  refine hl_call (As := [.int x1]) (rest := [.int 0, .ref o]) (ci := 8) ⟨hx, hb, hml, hown, hts⟩ (cm_X8_start l D G N S h0 x1 z hf hz3 htr) (cwV 1 hts (mw_gV tw_644 tw_645 tw_646 tw_1 tw_647) rfl rfl rfl (by decide +kernel) ⟨Nat.le_of_ble_eq_true rfl, Nat.le_of_ble_eq_true rfl⟩) rfl hob hw hTT (mw_nst hB) rfl hl.1 (lv_room (Nat.le_of_ble_eq_true rfl)) dL_start_4 ⟨Nat.le_of_ble_eq_true rfl, Nat.le_of_ble_eq_true rfl⟩ (fun h0z H locs hw => ?_) (fun exc x cls H locs nn hexc hpl hcls hnn hw => ?_)
  · obtain ⟨u, hu⟩ := ho h0z
    refine lv_i2l hx hb dL_start_7 rfl ?_
    refine mw_last hx hb hw 8 rfl hu dL_start_8 (fun H locs hw => ?_)
    refine lv_goto hx hb dL_start_9 (tgt := 18) (by decide) ?_
    refine lv_iconst (v := 0) hx hb dL_start_18 (by decide) ?_
    exact W.iret hx hb hr (fun t ht hW => ⟨⟨0, u, rfl, ⟨by rw [h0z]; rfl, fun _ => hu, fun h => absurd h0z h⟩, mw_end hw ht hW⟩, hw.2.2.1.F ht⟩) hw.2.2.1.2.2 dL_start_19 hlocks
  · rcases hexc with ⟨h1, rfl⟩ | ⟨h1, rfl⟩
    · refine ⟨12, hl_c1 hpl htb (by decide) hown (hts _ tw_536) hcls (by decide), ?_⟩
      refine lv_astore_n hx hb dL_start_12 rfl hl (by decide) rfl (fun ls hl => ?_)
      refine lv_iconst (v := 1) hx hb dL_start_13 (by decide) ?_
      exact W.iret hx hb hr (fun t ht hW => ⟨⟨1, (z.2.2.1, nn), rfl, ⟨by rw [h1]; rfl, fun h => absurd (h1.symm.trans h) (by decide), fun _ => ⟨rfl, hnn⟩⟩, mw_end hw ht hW⟩, hw.2.2.1.F ht⟩) hw.2.2.1.2.2 dL_start_14 hlocks
    · refine ⟨15, hl_c2 hpl htb (by decide) hown (hts _ tw_536) (hts _ tw_537) hXX hcls (by decide) (by decide), ?_⟩
      refine lv_astore_n hx hb dL_start_15 rfl hl (by decide) rfl (fun ls hl => ?_)
      refine lv_iconst (v := 2) hx hb dL_start_16 (by decide) ?_
      exact W.iret hx hb hr (fun t ht hW => ⟨⟨2, (z.2.2.1, nn), rfl, ⟨by rw [h1]; rfl, fun h => absurd (h1.symm.trans h) (by decide), fun _ => ⟨rfl, hnn⟩⟩, mw_end hw ht hW⟩, hw.2.2.1.F ht⟩) hw.2.2.1.2.2 dL_start_17 hlocks

abbrev rmL_stop : Room := { frames := 7, cells := 1, slots := 6, locals := 152 }
abbrev wsL_stop : List Cond := Cond.codeWith yL_stop cL_stop 4 (some .int) [(0, 9, 12, 13), (0, 9, 15, 15)] :: lw_good
set_option maxHeartbeats 4000000 in
set_option maxRecDepth 100000 in
theorem cm_L_stop (l : Launch) (D : va_G) (G : Nat → ClassId) (N : Nat) (S : mw_M) (h0 : Nat) (x1 : Int32) (o : Nat) (z : Nat × Int32 × mw_M) (hf : pf_X8_stop G N S h0 x1 = some z) (hz3 : z.1 ≤ 2) (htr : l.stackTraces = false) (hob : ∃ fs, S.1 h0 = some (.inr (8, fs))) (ho : z.1 = 0 → ∃ u, mw_sj z.2.2 o (G 8) 0 z.2.1.toInt64 = some u) : Met l yL_stop wsL_stop rmL_stop (va_Pc [.ref h0, .int x1, .ref o] (hl_B D vwCl (mw_tys G) mw_aos S)) (hl_Q D G S o nI z.2.1.toInt64 z) 1 6 (mw_A S) := by
  refine va_MetW (hh := [(0, 9, 12, 13), (0, 9, 15, 15)]) (cc := cL_stop) (maxL := 4) (ret := (some .int)) (by decide) rfl ?_
  intro p e s m args below meth c s₁ B hml hv
  obtain ⟨rfl, hB, hTT, hXX⟩ := hv
  have hw := mw_begin hB
  have hx := B.exec
  have hb := B.bytes
  have hr := B.returns
  have hts : ∀ w ∈ lw_good, w.before _ s = true := fun w h => atoms_spec (ws := wsL_stop) B.pre w (List.mem_cons_of_mem _ h)
  have hown : s.vm.findClass RL = some m.cls := findClass_of_methodNamed B.named
  have hlocks := B.notSynchronized
  obtain ⟨m9, meth9, c9, hn9, h19, h29, -, -, htb, -, -, -⟩ := Cond.codeWith_spec (atoms_spec (ws := wsL_stop) B.pre _ List.mem_cons_self)
  cases B.named.symm.trans hn9
  cases B.method.symm.trans h19
  have X9 := Stand.of_body B
  cases X9.code.symm.trans h29
  have hl := lv_entry ([.ref h0, .int x1, .ref o]) (n := 4) (Nat.le_of_ble_eq_true rfl)
  rw [lg_entry_eq]
  generalize (lg_sl ([.ref h0, .int x1, .ref o]) ++ List.replicate (4 - (lg_sl ([.ref h0, .int x1, .ref o])).length) Slot.unset).toArray = ls at hl ⊢
  have hl : lv_has ls 4 [(0, .ref h0), (1, .int x1), (2, .ref o)] := hl
  refine lv_aload_n hx hb dL_stop_0 rfl (lv_at hl 2 rfl) ?_
  refine lv_iconst (v := 0) hx hb dL_stop_1 (by decide) ?_
  refine lv_aload_n hx hb dL_stop_2 rfl (lv_at hl 0 rfl) ?_
  refine lv_iload_n hx hb dL_stop_3 rfl (lv_at hl 1 rfl) ?_
  refine hl_call (As := [.int x1]) (rest := [.int 0, .ref o]) (ci := 8) ⟨hx, hb, hml, hown, hts⟩ (cm_X8_stop l D G N S h0 x1 z hf hz3 htr) (cwV 1 hts (mw_gV tw_657 tw_658 tw_659 tw_1 tw_660) rfl rfl rfl (by decide +kernel) ⟨Nat.le_of_ble_eq_true rfl, Nat.le_of_ble_eq_true rfl⟩) rfl hob hw hTT (mw_nst hB) rfl hl.1 (lv_room (Nat.le_of_ble_eq_true rfl)) dL_stop_4 ⟨Nat.le_of_ble_eq_true rfl, Nat.le_of_ble_eq_true rfl⟩ (fun h0z H locs hw => ?_) (fun exc x cls H locs nn hexc hpl hcls hnn hw => ?_)
  · obtain ⟨u, hu⟩ := ho h0z
    refine lv_i2l hx hb dL_stop_7 rfl ?_
    refine mw_last hx hb hw 8 rfl hu dL_stop_8 (fun H locs hw => ?_)
    refine lv_goto hx hb dL_stop_9 (tgt := 18) (by decide) ?_
    refine lv_iconst (v := 0) hx hb dL_stop_18 (by decide) ?_
    exact W.iret hx hb hr (fun t ht hW => ⟨⟨0, u, rfl, ⟨by rw [h0z]; rfl, fun _ => hu, fun h => absurd h0z h⟩, mw_end hw ht hW⟩, hw.2.2.1.F ht⟩) hw.2.2.1.2.2 dL_stop_19 hlocks
  · rcases hexc with ⟨h1, rfl⟩ | ⟨h1, rfl⟩
    · refine ⟨12, hl_c1 hpl htb (by decide) hown (hts _ tw_536) hcls (by decide), ?_⟩
      refine lv_astore_n hx hb dL_stop_12 rfl hl (by decide) rfl (fun ls hl => ?_)
      refine lv_iconst (v := 1) hx hb dL_stop_13 (by decide) ?_
      exact W.iret hx hb hr (fun t ht hW => ⟨⟨1, (z.2.2.1, nn), rfl, ⟨by rw [h1]; rfl, fun h => absurd (h1.symm.trans h) (by decide), fun _ => ⟨rfl, hnn⟩⟩, mw_end hw ht hW⟩, hw.2.2.1.F ht⟩) hw.2.2.1.2.2 dL_stop_14 hlocks
    · refine ⟨15, hl_c2 hpl htb (by decide) hown (hts _ tw_536) (hts _ tw_537) hXX hcls (by decide) (by decide), ?_⟩
      refine lv_astore_n hx hb dL_stop_15 rfl hl (by decide) rfl (fun ls hl => ?_)
      refine lv_iconst (v := 2) hx hb dL_stop_16 (by decide) ?_
      exact W.iret hx hb hr (fun t ht hW => ⟨⟨2, (z.2.2.1, nn), rfl, ⟨by rw [h1]; rfl, fun h => absurd (h1.symm.trans h) (by decide), fun _ => ⟨rfl, hnn⟩⟩, mw_end hw ht hW⟩, hw.2.2.1.F ht⟩) hw.2.2.1.2.2 dL_stop_17 hlocks

abbrev rmL_close : Room := { frames := 7, cells := 1, slots := 6, locals := 154 }
abbrev wsL_close : List Cond := Cond.codeWith yL_close cL_close 4 (some .int) [(0, 16, 19, 13), (0, 16, 22, 15)] :: lw_good
set_option maxHeartbeats 4000000 in
set_option maxRecDepth 100000 in
theorem cm_L_close (l : Launch) (D : va_G) (G : Nat → ClassId) (N : Nat) (S : mw_M) (h0 : Nat) (x1 : Int32) (o : Nat) (z : Nat × Int32 × mw_M) (hf : pf_X8_close G N S h0 x1 = some z) (hz3 : z.1 ≤ 2) (htr : l.stackTraces = false) (hob : ∃ fs, S.1 h0 = some (.inr (8, fs))) (ho : z.1 = 0 → ∃ u, mw_sj z.2.2 o (G 8) 0 (if z.2.1 = 0 then 0 else 1) = some u) : Met l yL_close wsL_close rmL_close (va_Pc [.ref h0, .int x1, .ref o] (hl_B D vwCl (mw_tys G) mw_aos S)) (hl_Q D G S o nI (if z.2.1 = 0 then 0 else 1) z) 1 6 (mw_A S) := by
  refine va_MetW (hh := [(0, 16, 19, 13), (0, 16, 22, 15)]) (cc := cL_close) (maxL := 4) (ret := (some .int)) (by decide) rfl ?_
  intro p e s m args below meth c s₁ B hml hv
  obtain ⟨rfl, hB, hTT, hXX⟩ := hv
  have hw := mw_begin hB
  have hx := B.exec
  have hb := B.bytes
  have hr := B.returns
  have hts : ∀ w ∈ lw_good, w.before _ s = true := fun w h => atoms_spec (ws := wsL_close) B.pre w (List.mem_cons_of_mem _ h)
  have hown : s.vm.findClass RL = some m.cls := findClass_of_methodNamed B.named
  have hlocks := B.notSynchronized
  obtain ⟨m9, meth9, c9, hn9, h19, h29, -, -, htb, -, -, -⟩ := Cond.codeWith_spec (atoms_spec (ws := wsL_close) B.pre _ List.mem_cons_self)
  cases B.named.symm.trans hn9
  cases B.method.symm.trans h19
  have X9 := Stand.of_body B
  cases X9.code.symm.trans h29
  have hl := lv_entry ([.ref h0, .int x1, .ref o]) (n := 4) (Nat.le_of_ble_eq_true rfl)
  rw [lg_entry_eq]
  generalize (lg_sl ([.ref h0, .int x1, .ref o]) ++ List.replicate (4 - (lg_sl ([.ref h0, .int x1, .ref o])).length) Slot.unset).toArray = ls at hl ⊢
  have hl : lv_has ls 4 [(0, .ref h0), (1, .int x1), (2, .ref o)] := hl
  refine lv_aload_n hx hb dL_close_0 rfl (lv_at hl 2 rfl) ?_
  refine lv_iconst (v := 0) hx hb dL_close_1 (by decide) ?_
  refine lv_aload_n hx hb dL_close_2 rfl (lv_at hl 0 rfl) ?_
  refine lv_iload_n hx hb dL_close_3 rfl (lv_at hl 1 rfl) ?_
  refine hl_call (As := [.int x1]) (rest := [.int 0, .ref o]) (ci := 8) ⟨hx, hb, hml, hown, hts⟩ (cm_X8_close l D G N S h0 x1 z hf hz3 htr) (cwV 1 hts (mw_gV tw_673 tw_674 tw_675 tw_1 tw_676) rfl rfl rfl (by decide +kernel) ⟨Nat.le_of_ble_eq_true rfl, Nat.le_of_ble_eq_true rfl⟩) rfl hob hw hTT (mw_nst hB) rfl hl.1 (lv_room (Nat.le_of_ble_eq_true rfl)) dL_close_4 ⟨Nat.le_of_ble_eq_true rfl, Nat.le_of_ble_eq_true rfl⟩ (fun h0z H locs hw => ?_) (fun exc x cls H locs nn hexc hpl hcls hnn hw => ?_)
  · obtain ⟨u, hu⟩ := ho h0z
    refine lv_if_eq hx hb dL_close_7 (tgt := 14) (by decide) (fun hc => ?_) (fun hc => ?_)
    · have hu2 := hu
      rw [if_pos hc] at hu2
      refine lv_lconst (v := 0) hx hb dL_close_14 (by decide) ?_
      refine mw_last hx hb hw 8 rfl hu2 dL_close_15 (fun H locs hw => ?_)
      refine lv_goto hx hb dL_close_16 (tgt := 25) (by decide) ?_
      refine lv_iconst (v := 0) hx hb dL_close_25 (by decide) ?_
      exact W.iret hx hb hr (fun t ht hW => ⟨⟨0, u, rfl, ⟨by rw [h0z]; rfl, fun _ => hu, fun h => absurd h0z h⟩, mw_end hw ht hW⟩, hw.2.2.1.F ht⟩) hw.2.2.1.2.2 dL_close_26 hlocks
    · have hu2 := hu
      rw [if_neg hc] at hu2
      refine lv_lconst (v := 1) hx hb dL_close_10 (by decide) ?_
      refine lv_goto hx hb dL_close_11 (tgt := 15) (by decide) ?_
      refine mw_last hx hb hw 8 rfl hu2 dL_close_15 (fun H locs hw => ?_)
      refine lv_goto hx hb dL_close_16 (tgt := 25) (by decide) ?_
      refine lv_iconst (v := 0) hx hb dL_close_25 (by decide) ?_
      exact W.iret hx hb hr (fun t ht hW => ⟨⟨0, u, rfl, ⟨by rw [h0z]; rfl, fun _ => hu, fun h => absurd h0z h⟩, mw_end hw ht hW⟩, hw.2.2.1.F ht⟩) hw.2.2.1.2.2 dL_close_26 hlocks
  · rcases hexc with ⟨h1, rfl⟩ | ⟨h1, rfl⟩
    · refine ⟨19, hl_c1 hpl htb (by decide) hown (hts _ tw_536) hcls (by decide), ?_⟩
      refine lv_astore_n hx hb dL_close_19 rfl hl (by decide) rfl (fun ls hl => ?_)
      refine lv_iconst (v := 1) hx hb dL_close_20 (by decide) ?_
      exact W.iret hx hb hr (fun t ht hW => ⟨⟨1, (z.2.2.1, nn), rfl, ⟨by rw [h1]; rfl, fun h => absurd (h1.symm.trans h) (by decide), fun _ => ⟨rfl, hnn⟩⟩, mw_end hw ht hW⟩, hw.2.2.1.F ht⟩) hw.2.2.1.2.2 dL_close_21 hlocks
    · refine ⟨22, hl_c2 hpl htb (by decide) hown (hts _ tw_536) (hts _ tw_537) hXX hcls (by decide) (by decide), ?_⟩
      refine lv_astore_n hx hb dL_close_22 rfl hl (by decide) rfl (fun ls hl => ?_)
      refine lv_iconst (v := 2) hx hb dL_close_23 (by decide) ?_
      exact W.iret hx hb hr (fun t ht hW => ⟨⟨2, (z.2.2.1, nn), rfl, ⟨by rw [h1]; rfl, fun h => absurd (h1.symm.trans h) (by decide), fun _ => ⟨rfl, hnn⟩⟩, mw_end hw ht hW⟩, hw.2.2.1.F ht⟩) hw.2.2.1.2.2 dL_close_24 hlocks

abbrev rmL_dump : Room := { frames := 7, cells := 1, slots := 6, locals := 138 }
abbrev wsL_dump : List Cond := Cond.codeWith yL_dump cL_dump 4 (some .int) [(0, 9, 12, 13), (0, 9, 15, 15)] :: lw_good
set_option maxHeartbeats 4000000 in
set_option maxRecDepth 100000 in
theorem cm_L_dump (l : Launch) (D : va_G) (G : Nat → ClassId) (N : Nat) (S : mw_M) (h0 : Nat) (x1 : Int32) (o : Nat) (z : Nat × Int32 × mw_M) (hf : pf_X8_dump G N S h0 x1 = some z) (hz3 : z.1 ≤ 2) (htr : l.stackTraces = false) (hob : ∃ fs, S.1 h0 = some (.inr (8, fs))) (ho : z.1 = 0 → ∃ u, mw_sj z.2.2 o (G 8) 0 z.2.1.toInt64 = some u) : Met l yL_dump wsL_dump rmL_dump (va_Pc [.ref h0, .int x1, .ref o] (hl_B D vwCl (mw_tys G) mw_aos S)) (hl_Q D G S o nI z.2.1.toInt64 z) 1 6 (mw_A S) := by
  refine va_MetW (hh := [(0, 9, 12, 13), (0, 9, 15, 15)]) (cc := cL_dump) (maxL := 4) (ret := (some .int)) (by decide) rfl ?_
  intro p e s m args below meth c s₁ B hml hv
  obtain ⟨rfl, hB, hTT, hXX⟩ := hv
  have hw := mw_begin hB
  have hx := B.exec
  have hb := B.bytes
  have hr := B.returns
  have hts : ∀ w ∈ lw_good, w.before _ s = true := fun w h => atoms_spec (ws := wsL_dump) B.pre w (List.mem_cons_of_mem _ h)
  have hown : s.vm.findClass RL = some m.cls := findClass_of_methodNamed B.named
  have hlocks := B.notSynchronized
  obtain ⟨m9, meth9, c9, hn9, h19, h29, -, -, htb, -, -, -⟩ := Cond.codeWith_spec (atoms_spec (ws := wsL_dump) B.pre _ List.mem_cons_self)
  cases B.named.symm.trans hn9
  cases B.method.symm.trans h19
  have X9 := Stand.of_body B
  cases X9.code.symm.trans h29
  have hl := lv_entry ([.ref h0, .int x1, .ref o]) (n := 4) (Nat.le_of_ble_eq_true rfl)
  rw [lg_entry_eq]
  generalize (lg_sl ([.ref h0, .int x1, .ref o]) ++ List.replicate (4 - (lg_sl ([.ref h0, .int x1, .ref o])).length) Slot.unset).toArray = ls at hl ⊢
  have hl : lv_has ls 4 [(0, .ref h0), (1, .int x1), (2, .ref o)] := hl
  refine lv_aload_n hx hb dL_dump_0 rfl (lv_at hl 2 rfl) ?_
  refine lv_iconst (v := 0) hx hb dL_dump_1 (by decide) ?_
  refine lv_aload_n hx hb dL_dump_2 rfl (lv_at hl 0 rfl) ?_
  refine lv_iload_n hx hb dL_dump_3 rfl (lv_at hl 1 rfl) ?_
  refine hl_call (As := [.int x1]) (rest := [.int 0, .ref o]) (ci := 8) ⟨hx, hb, hml, hown, hts⟩ (cm_X8_dump l D G N S h0 x1 z hf hz3 htr) (cwV 1 hts (mw_gV tw_685 tw_686 tw_687 tw_1 tw_688) rfl rfl rfl (by decide +kernel) ⟨Nat.le_of_ble_eq_true rfl, Nat.le_of_ble_eq_true rfl⟩) rfl hob hw hTT (mw_nst hB) rfl hl.1 (lv_room (Nat.le_of_ble_eq_true rfl)) dL_dump_4 ⟨Nat.le_of_ble_eq_true rfl, Nat.le_of_ble_eq_true rfl⟩ (fun h0z H locs hw => ?_) (fun exc x cls H locs nn hexc hpl hcls hnn hw => ?_)
  · obtain ⟨u, hu⟩ := ho h0z
    refine lv_i2l hx hb dL_dump_7 rfl ?_
    refine mw_last hx hb hw 8 rfl hu dL_dump_8 (fun H locs hw => ?_)
    refine lv_goto hx hb dL_dump_9 (tgt := 18) (by decide) ?_
    refine lv_iconst (v := 0) hx hb dL_dump_18 (by decide) ?_
    exact W.iret hx hb hr (fun t ht hW => ⟨⟨0, u, rfl, ⟨by rw [h0z]; rfl, fun _ => hu, fun h => absurd h0z h⟩, mw_end hw ht hW⟩, hw.2.2.1.F ht⟩) hw.2.2.1.2.2 dL_dump_19 hlocks
  · rcases hexc with ⟨h1, rfl⟩ | ⟨h1, rfl⟩
    · refine ⟨12, hl_c1 hpl htb (by decide) hown (hts _ tw_536) hcls (by decide), ?_⟩
      refine lv_astore_n hx hb dL_dump_12 rfl hl (by decide) rfl (fun ls hl => ?_)
      refine lv_iconst (v := 1) hx hb dL_dump_13 (by decide) ?_
      exact W.iret hx hb hr (fun t ht hW => ⟨⟨1, (z.2.2.1, nn), rfl, ⟨by rw [h1]; rfl, fun h => absurd (h1.symm.trans h) (by decide), fun _ => ⟨rfl, hnn⟩⟩, mw_end hw ht hW⟩, hw.2.2.1.F ht⟩) hw.2.2.1.2.2 dL_dump_14 hlocks
    · refine ⟨15, hl_c2 hpl htb (by decide) hown (hts _ tw_536) (hts _ tw_537) hXX hcls (by decide) (by decide), ?_⟩
      refine lv_astore_n hx hb dL_dump_15 rfl hl (by decide) rfl (fun ls hl => ?_)
      refine lv_iconst (v := 2) hx hb dL_dump_16 (by decide) ?_
      exact W.iret hx hb hr (fun t ht hW => ⟨⟨2, (z.2.2.1, nn), rfl, ⟨by rw [h1]; rfl, fun h => absurd (h1.symm.trans h) (by decide), fun _ => ⟨rfl, hnn⟩⟩, mw_end hw ht hW⟩, hw.2.2.1.F ht⟩) hw.2.2.1.2.2 dL_dump_17 hlocks
