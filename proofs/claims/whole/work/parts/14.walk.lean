abbrev rmX9_width : Room := { frames := 0, cells := 0, slots := 0, locals := 0 }
abbrev wsX9_width : List Cond := Cond.code yX9_width cX9_width 3 (some .int) :: lw_good
set_option maxHeartbeats 4000000 in
set_option maxRecDepth 100000 in
theorem bX9_width_7 {p : Program} {l : Launch} {e : Env} {s : State} {m : MethodId} {args : Array Value} {below : List Frame} {meth : Method} {c : Code} (hC : mw_C p s m args meth c cX9_width RX9 (some .int) lw_good 3) (D : va_G) (G : Nat → ClassId) (N : Nat) {b : Nat} {S0 : mw_M} {z : Int32 × mm_M} : ∀ (n : Nat) (y1 : Int32) (y2 : Int32) (S : mm_M) (H : Heap) (locs : List Loc) (ls : Array Slot), pf_X9_width_7 G N n y1 y2 S = some z → lv_has ls 3 [(1, .int y1), (2, .int y2)] → mm_W D vwCl (mw_tys G) mw_aos s G b S0 S H locs → W p l e (headSpec wsX9_width rmX9_width).room s m args below meth c H locs 0 0 (MQ below (mm_Qi D vwCl (mw_tys G) mw_aos G b S0 z) args s 0 0 (mm_A b S0)) (F0 m 7 ls []) := by
  obtain ⟨hx, hb, hml, hown, hts, hr, hlocks⟩ := hC
  intro n
  induction n with
  | zero => intro y1 y2 S H locs ls hf; rw [pf_X9_width_7] at hf; cases hf
  | succ n ih =>
    intro y1 y2 S H locs ls hf hl hw
    rw [pf_X9_width_7] at hf
    refine lv_iload_n hx hb dX9_width_7 rfl (lv_at hl 1 rfl) ?_
    refine lv_if_eq hx hb dX9_width_8 (tgt := 22) (by decide) (fun hc => ?_) (fun hc => ?_)
    · rw [if_pos hc] at hf
      refine lv_iload_n hx hb dX9_width_22 rfl (lv_at hl 0 rfl) ?_
      exact mm_iret hx hb hr hlocks hw hf dX9_width_23
    · rw [if_neg hc] at hf
      refine lv_iinc (k := 0) (v := (y1 + 1)) hx hb dX9_width_11 hl rfl (congrArg (fun q => y1 + q) (show Int32.ofInt 1 = 1 by decide)) (by decide) rfl (fun ls hl => ?_)
      have hl : lv_has ls 3 [(1, .int (y1 + 1)), (2, .int y2)] := hl
      refine lv_iload_n hx hb dX9_width_14 rfl (lv_at hl 1 rfl) ?_
      refine lv_bipush (v := 7) hx hb dX9_width_15 (by decide) ?_
      refine lv_iushr (v := (mw_ushr y2 7)) hx hb dX9_width_17 rfl ?_
      refine lv_istore_n hx hb dX9_width_18 rfl hl (by decide) rfl (fun ls hl => ?_)
      have hl : lv_has ls 3 [(2, .int (mw_ushr y2 7)), (1, .int (y1 + 1))] := hl
      refine lv_goto hx hb dX9_width_19 (tgt := 7) (by decide) ?_
      exact ih _ _ _ _ _ _ hf (lv_sub hl [1, 0] rfl) hw
set_option maxHeartbeats 4000000 in
set_option maxRecDepth 100000 in
theorem cm_X9_width (l : Launch) (D : va_G) (G : Nat → ClassId) (N : Nat) (b : Nat) (S0 : mw_M) (S : mm_M) (x0 : Int32) (z : Int32 × mm_M) (hf : pf_X9_width G N S x0 = some z) : Met l yX9_width wsX9_width rmX9_width (va_Pc [.int x0] (mm_B D vwCl (mw_tys G) mw_aos G b S0 S)) (mm_Qi D vwCl (mw_tys G) mw_aos G b S0 z) 0 0 (mm_A b S0) := by
  refine Met.ofW (cc := cX9_width) (maxL := 3) (ret := (some .int)) (by decide) rfl ?_
  intro p e s m args below meth c s₁ B hml hv
  obtain ⟨rfl, hB⟩ := hv
  have hw := mm_begin hB
  have hx := B.exec
  have hb := B.bytes
  have hr := B.returns
  have hts : ∀ w ∈ lw_good, w.before _ s = true := fun w h => atoms_spec (ws := wsX9_width) B.pre w (List.mem_cons_of_mem _ h)
  have hown : s.vm.findClass RX9 = some m.cls := findClass_of_methodNamed B.named
  have hlocks := B.notSynchronized
  have hC : mw_C p s m _ meth c cX9_width RX9 (some .int) lw_good 3 := ⟨hx, hb, hml, hown, hts, hr, hlocks⟩
  have hl := lv_entry ([.int x0]) (n := 3) (Nat.le_of_ble_eq_true rfl)
  rw [lg_entry_eq]
  generalize (lg_sl ([.int x0]) ++ List.replicate (3 - (lg_sl ([.int x0])).length) Slot.unset).toArray = ls at hl ⊢
  have hl : lv_has ls 3 [(0, .int x0)] := hl
  unfold pf_X9_width at hf
  refine lv_iconst (v := 1) hx hb dX9_width_0 (by decide) ?_
  refine lv_istore_n hx hb dX9_width_1 rfl hl (by decide) rfl (fun ls hl => ?_)
  have hl : lv_has ls 3 [(1, .int 1), (0, .int x0)] := hl
  refine lv_iload_n hx hb dX9_width_2 rfl (lv_at hl 1 rfl) ?_
  refine lv_bipush (v := 7) hx hb dX9_width_3 (by decide) ?_
  refine lv_iushr (v := (mw_ushr x0 7)) hx hb dX9_width_5 rfl ?_
  refine lv_istore_n hx hb dX9_width_6 rfl hl (by decide) rfl (fun ls hl => ?_)
  have hl : lv_has ls 3 [(2, .int (mw_ushr x0 7)), (1, .int 1), (0, .int x0)] := hl
  exact bX9_width_7 ⟨hx, hb, hml, hown, hts, hr, hlocks⟩ D G N N _ _ _ _ _ _ hf (lv_sub hl [1, 0] rfl) hw
abbrev rmX9_zigzag : Room := { frames := 0, cells := 0, slots := 0, locals := 0 }
abbrev wsX9_zigzag : List Cond := Cond.code yX9_zigzag cX9_zigzag 1 (some .int) :: lw_good
set_option maxHeartbeats 4000000 in
set_option maxRecDepth 100000 in
theorem cm_X9_zigzag (l : Launch) (D : va_G) (G : Nat → ClassId) (N : Nat) (b : Nat) (S0 : mw_M) (S : mm_M) (x0 : Int32) (z : Int32 × mm_M) (hf : pf_X9_zigzag G N S x0 = some z) : Met l yX9_zigzag wsX9_zigzag rmX9_zigzag (va_Pc [.int x0] (mm_B D vwCl (mw_tys G) mw_aos G b S0 S)) (mm_Qi D vwCl (mw_tys G) mw_aos G b S0 z) 0 0 (mm_A b S0) := by
  refine Met.ofW (cc := cX9_zigzag) (maxL := 1) (ret := (some .int)) (by decide) rfl ?_
  intro p e s m args below meth c s₁ B hml hv
  obtain ⟨rfl, hB⟩ := hv
  have hw := mm_begin hB
  have hx := B.exec
  have hb := B.bytes
  have hr := B.returns
  have hts : ∀ w ∈ lw_good, w.before _ s = true := fun w h => atoms_spec (ws := wsX9_zigzag) B.pre w (List.mem_cons_of_mem _ h)
  have hown : s.vm.findClass RX9 = some m.cls := findClass_of_methodNamed B.named
  have hlocks := B.notSynchronized
  have hC : mw_C p s m _ meth c cX9_zigzag RX9 (some .int) lw_good 1 := ⟨hx, hb, hml, hown, hts, hr, hlocks⟩
  have hl := lv_entry ([.int x0]) (n := 1) (Nat.le_of_ble_eq_true rfl)
  rw [lg_entry_eq]
  generalize (lg_sl ([.int x0]) ++ List.replicate (1 - (lg_sl ([.int x0])).length) Slot.unset).toArray = ls at hl ⊢
  have hl : lv_has ls 1 [(0, .int x0)] := hl
  unfold pf_X9_zigzag at hf
  refine lv_iload_n hx hb dX9_zigzag_0 rfl (lv_at hl 0 rfl) ?_
  refine lv_if_ge hx hb dX9_zigzag_1 (tgt := 13) (by decide) (fun hc => ?_) (fun hc => ?_)
  · rw [if_pos hc] at hf
    refine lv_iconst (v := 2) hx hb dX9_zigzag_13 (by decide) ?_
    refine lv_iload_n hx hb dX9_zigzag_14 rfl (lv_at hl 0 rfl) ?_
    refine lv_imul hx hb dX9_zigzag_15 ?_
    exact mm_iret hx hb hr hlocks hw hf dX9_zigzag_16
  · rw [if_neg hc] at hf
    refine lv_bipush (v := (-2)) hx hb dX9_zigzag_4 (by decide) ?_
    refine lv_iload_n hx hb dX9_zigzag_6 rfl (lv_at hl 0 rfl) ?_
    refine lv_imul hx hb dX9_zigzag_7 ?_
    refine lv_iconst (v := 1) hx hb dX9_zigzag_8 (by decide) ?_
    refine lv_isub hx hb dX9_zigzag_9 ?_
    refine lv_goto hx hb dX9_zigzag_10 (tgt := 16) (by decide) ?_
    exact mm_iret hx hb hr hlocks hw hf dX9_zigzag_16
abbrev rmX9_stringOf : Room := { frames := 0, cells := 0, slots := 0, locals := 0 }
abbrev wsX9_stringOf : List Cond := Cond.code yX9_stringOf cX9_stringOf 5 (some .int) :: lw_good
set_option maxHeartbeats 4000000 in
set_option maxRecDepth 100000 in
theorem bX9_stringOf_73 {p : Program} {l : Launch} {e : Env} {s : State} {m : MethodId} {args : Array Value} {below : List Frame} {meth : Method} {c : Code} (hC : mw_C p s m args meth c cX9_stringOf RX9 (some .int) lw_good 5) (D : va_G) (G : Nat → ClassId) (N : Nat) {b : Nat} {S0 : mw_M} {z : Int32 × mm_M} (k2 : Int32 → Int32 → mm_M → Option (Int32 × mm_M)) (hk2 : ∀ (y1 : Int32) (y2 : Int32) (S : mm_M) (H : Heap) (locs : List Loc) (ls : Array Slot), k2 y1 y2 S = some z → lv_has ls 5 [(0, .ref b), (1, .int y1), (2, .int y2)] → mm_W D vwCl (mw_tys G) mw_aos s G b S0 S H locs → W p l e (headSpec wsX9_stringOf rmX9_stringOf).room s m args below meth c H locs 0 0 (MQ below (mm_Qi D vwCl (mw_tys G) mw_aos G b S0 z) args s 0 0 (mm_A b S0)) (F0 m 2 ls [])) : ∀ (y1 : Int32) (y2 : Int32) (y3 : Int32) (S : mm_M) (H : Heap) (locs : List Loc) (ls : Array Slot), pf_X9_stringOf_73 G N k2 y1 y2 y3 S = some z → lv_has ls 5 [(0, .ref b), (1, .int y1), (2, .int y2), (3, .int y3)] → mm_W D vwCl (mw_tys G) mw_aos s G b S0 S H locs → W p l e (headSpec wsX9_stringOf rmX9_stringOf).room s m args below meth c H locs 0 0 (MQ below (mm_Qi D vwCl (mw_tys G) mw_aos G b S0 z) args s 0 0 (mm_A b S0)) (F0 m 73 ls []) := by
  obtain ⟨hx, hb, hml, hown, hts, hr, hlocks⟩ := hC
  intro y1 y2 y3 S H locs ls hf hl hw
  unfold pf_X9_stringOf_73 at hf
  refine lv_iload_n hx hb dX9_stringOf_73 rfl (lv_at hl 3 rfl) ?_
  refine lv_if_eq hx hb dX9_stringOf_74 (tgt := 79) (by decide) (fun hc => ?_) (fun hc => ?_)
  · rw [if_pos hc] at hf
    refine lv_iinc (k := 2) (v := (y2 + 1)) hx hb dX9_stringOf_79 hl rfl (congrArg (fun q => y2 + q) (show Int32.ofInt 1 = 1 by decide)) (by decide) rfl (fun ls hl => ?_)
    have hl : lv_has ls 5 [(2, .int (y2 + 1)), (0, .ref b), (1, .int y1), (3, .int y3)] := hl
    refine lv_goto hx hb dX9_stringOf_82 (tgt := 2) (by decide) ?_
    exact hk2 _ _ _ _ _ _ hf (lv_sub hl [1, 2, 0] rfl) hw
  · rw [if_neg hc] at hf
    refine lv_iload_n hx hb dX9_stringOf_77 rfl (lv_at hl 2 rfl) ?_
    exact mm_iret hx hb hr hlocks hw hf dX9_stringOf_78
set_option maxHeartbeats 4000000 in
set_option maxRecDepth 100000 in
theorem bX9_stringOf_29 {p : Program} {l : Launch} {e : Env} {s : State} {m : MethodId} {args : Array Value} {below : List Frame} {meth : Method} {c : Code} (hC : mw_C p s m args meth c cX9_stringOf RX9 (some .int) lw_good 5) (D : va_G) (G : Nat → ClassId) (N : Nat) {b : Nat} {S0 : mw_M} {z : Int32 × mm_M} (k2 : Int32 → Int32 → mm_M → Option (Int32 × mm_M)) (hk2 : ∀ (y1 : Int32) (y2 : Int32) (S : mm_M) (H : Heap) (locs : List Loc) (ls : Array Slot), k2 y1 y2 S = some z → lv_has ls 5 [(0, .ref b), (1, .int y1), (2, .int y2)] → mm_W D vwCl (mw_tys G) mw_aos s G b S0 S H locs → W p l e (headSpec wsX9_stringOf rmX9_stringOf).room s m args below meth c H locs 0 0 (MQ below (mm_Qi D vwCl (mw_tys G) mw_aos G b S0 z) args s 0 0 (mm_A b S0)) (F0 m 2 ls [])) : ∀ (n : Nat) (y1 : Int32) (y2 : Int32) (y3 : Int32) (y4 : Int32) (S : mm_M) (H : Heap) (locs : List Loc) (ls : Array Slot), pf_X9_stringOf_29 G N k2 n y1 y2 y3 y4 S = some z → lv_has ls 5 [(0, .ref b), (1, .int y1), (2, .int y2), (3, .int y3), (4, .int y4)] → mm_W D vwCl (mw_tys G) mw_aos s G b S0 S H locs → W p l e (headSpec wsX9_stringOf rmX9_stringOf).room s m args below meth c H locs 0 0 (MQ below (mm_Qi D vwCl (mw_tys G) mw_aos G b S0 z) args s 0 0 (mm_A b S0)) (F0 m 29 ls []) := by
  obtain ⟨hx, hb, hml, hown, hts, hr, hlocks⟩ := hC
  intro n
  induction n with
  | zero => intro y1 y2 y3 y4 S H locs ls hf; rw [pf_X9_stringOf_29] at hf; cases hf
  | succ n ih =>
    intro y1 y2 y3 y4 S H locs ls hf hl hw
    rw [pf_X9_stringOf_29] at hf
    refine lv_iload hx hb dX9_stringOf_29 (lv_at hl 4 rfl) ?_
    refine lv_iload_n hx hb dX9_stringOf_31 rfl (lv_at hl 1 rfl) ?_
    refine lv_icmp_ge hx hb dX9_stringOf_32 (tgt := 73) (by decide) (fun hc => ?_) (fun hc => ?_)
    · rw [if_pos hc] at hf
      exact bX9_stringOf_73 ⟨hx, hb, hml, hown, hts, hr, hlocks⟩ D G N k2 hk2 _ _ _ _ _ _ _ hf (lv_sub hl [0, 1, 2, 3] rfl) hw
    · rw [if_neg hc] at hf
      refine lv_iload_n hx hb dX9_stringOf_35 rfl (lv_at hl 3 rfl) ?_
      refine lv_if_eq hx hb dX9_stringOf_36 (tgt := 73) (by decide) (fun hc => ?_) (fun hc => ?_)
      · rw [if_pos hc] at hf
        exact bX9_stringOf_73 ⟨hx, hb, hml, hown, hts, hr, hlocks⟩ D G N k2 hk2 _ _ _ _ _ _ _ hf (lv_sub hl [0, 1, 2, 3] rfl) hw
      · rw [if_neg hc] at hf
        refine lv_aload_n hx hb dX9_stringOf_39 rfl (lv_at hl 0 rfl) ?_
        refine mm_getr hx hb hts inX9 hown hw rfl 11 (by decide) (hts _ tw_734) rfl 3 (fun _ _ => rfl) dX9_stringOf_40 ?_
        refine lv_bipush (v := 8) hx hb dX9_stringOf_43 (by decide) ?_
        refine lv_iload_n hx hb dX9_stringOf_45 rfl (lv_at hl 2 rfl) ?_
        refine lv_imul hx hb dX9_stringOf_46 ?_
        refine lv_iload hx hb dX9_stringOf_47 (lv_at hl 4 rfl) ?_
        refine lv_iadd hx hb dX9_stringOf_49 ?_
        obtain ⟨v1, e1, hf⟩ := mw_b hf
        refine mm_cald hx hb hw 3 (by decide) 2 rfl e1 dX9_stringOf_50 ?_
        refine lv_aload_n hx hb dX9_stringOf_51 rfl (lv_at hl 0 rfl) ?_
        refine mm_getr hx hb hts inX9 hown hw rfl 6 (by decide) (hts _ tw_729) rfl 0 (fun _ _ => rfl) dX9_stringOf_52 ?_
        refine lv_iload hx hb dX9_stringOf_55 (lv_at hl 4 rfl) ?_
        obtain ⟨v2, e2, hf⟩ := mw_b hf
        refine mm_cald hx hb hw 0 (by decide) 2 rfl e2 dX9_stringOf_57 ?_
        refine lv_icmp_ne hx hb dX9_stringOf_58 (tgt := 65) (by decide) (fun hc => ?_) (fun hc => ?_)
        · rw [if_pos hc] at hf
          refine lv_iconst (v := 0) hx hb dX9_stringOf_65 (by decide) ?_
          refine lv_istore_n hx hb dX9_stringOf_66 rfl hl (by decide) rfl (fun ls hl => ?_)
          have hl : lv_has ls 5 [(3, .int 0), (0, .ref b), (1, .int y1), (2, .int y2), (4, .int y4)] := hl
          refine lv_iinc (k := 4) (v := (y4 + 1)) hx hb dX9_stringOf_67 hl rfl (congrArg (fun q => y4 + q) (show Int32.ofInt 1 = 1 by decide)) (by decide) rfl (fun ls hl => ?_)
          have hl : lv_has ls 5 [(4, .int (y4 + 1)), (3, .int 0), (0, .ref b), (1, .int y1), (2, .int y2)] := hl
          refine lv_goto hx hb dX9_stringOf_70 (tgt := 29) (by decide) ?_
          exact ih _ _ _ _ _ _ _ _ hf (lv_sub hl [2, 3, 4, 1, 0] rfl) hw
        · rw [if_neg (fun q => q hc)] at hf
          refine lv_iconst (v := 1) hx hb dX9_stringOf_61 (by decide) ?_
          refine lv_goto hx hb dX9_stringOf_62 (tgt := 66) (by decide) ?_
          refine lv_istore_n hx hb dX9_stringOf_66 rfl hl (by decide) rfl (fun ls hl => ?_)
          have hl : lv_has ls 5 [(3, .int 1), (0, .ref b), (1, .int y1), (2, .int y2), (4, .int y4)] := hl
          refine lv_iinc (k := 4) (v := (y4 + 1)) hx hb dX9_stringOf_67 hl rfl (congrArg (fun q => y4 + q) (show Int32.ofInt 1 = 1 by decide)) (by decide) rfl (fun ls hl => ?_)
          have hl : lv_has ls 5 [(4, .int (y4 + 1)), (3, .int 1), (0, .ref b), (1, .int y1), (2, .int y2)] := hl
          refine lv_goto hx hb dX9_stringOf_70 (tgt := 29) (by decide) ?_
          exact ih _ _ _ _ _ _ _ _ hf (lv_sub hl [2, 3, 4, 1, 0] rfl) hw
set_option maxHeartbeats 4000000 in
set_option maxRecDepth 100000 in
theorem bX9_stringOf_2 {p : Program} {l : Launch} {e : Env} {s : State} {m : MethodId} {args : Array Value} {below : List Frame} {meth : Method} {c : Code} (hC : mw_C p s m args meth c cX9_stringOf RX9 (some .int) lw_good 5) (D : va_G) (G : Nat → ClassId) (N : Nat) {b : Nat} {S0 : mw_M} {z : Int32 × mm_M} : ∀ (n : Nat) (y1 : Int32) (y2 : Int32) (S : mm_M) (H : Heap) (locs : List Loc) (ls : Array Slot), pf_X9_stringOf_2 G N n y1 y2 S = some z → lv_has ls 5 [(0, .ref b), (1, .int y1), (2, .int y2)] → mm_W D vwCl (mw_tys G) mw_aos s G b S0 S H locs → W p l e (headSpec wsX9_stringOf rmX9_stringOf).room s m args below meth c H locs 0 0 (MQ below (mm_Qi D vwCl (mw_tys G) mw_aos G b S0 z) args s 0 0 (mm_A b S0)) (F0 m 2 ls []) := by
  obtain ⟨hx, hb, hml, hown, hts, hr, hlocks⟩ := hC
  intro n
  induction n with
  | zero => intro y1 y2 S H locs ls hf; rw [pf_X9_stringOf_2] at hf; cases hf
  | succ n ih =>
    intro y1 y2 S H locs ls hf hl hw
    rw [pf_X9_stringOf_2] at hf
    refine lv_iload_n hx hb dX9_stringOf_2 rfl (lv_at hl 2 rfl) ?_
    refine lv_aload_n hx hb dX9_stringOf_3 rfl (lv_at hl 0 rfl) ?_
    refine mm_geti hx hb hts inX9 hown hw rfl 10 (by decide) (hts _ tw_733) rfl (fun _ _ => rfl) dX9_stringOf_4 ?_
    refine lv_icmp_ge hx hb dX9_stringOf_7 (tgt := 85) (by decide) (fun hc => ?_) (fun hc => ?_)
    · rw [if_pos hc] at hf
      refine lv_iconst (v := (-1)) hx hb dX9_stringOf_85 (by decide) ?_
      exact mm_iret hx hb hr hlocks hw hf dX9_stringOf_86
    · rw [if_neg hc] at hf
      refine lv_aload_n hx hb dX9_stringOf_10 rfl (lv_at hl 0 rfl) ?_
      refine mm_getr hx hb hts inX9 hown hw rfl 12 (by decide) (hts _ tw_735) rfl 4 (fun _ _ => rfl) dX9_stringOf_11 ?_
      refine lv_iload_n hx hb dX9_stringOf_14 rfl (lv_at hl 2 rfl) ?_
      obtain ⟨v1, e1, hf⟩ := mw_b hf
      refine mm_iald hx hb hw 4 (by decide) 0 rfl e1 dX9_stringOf_15 ?_
      refine lv_iload_n hx hb dX9_stringOf_16 rfl (lv_at hl 1 rfl) ?_
      refine lv_icmp_ne hx hb dX9_stringOf_17 (tgt := 24) (by decide) (fun hc => ?_) (fun hc => ?_)
      · rw [if_pos hc] at hf
        refine lv_iconst (v := 0) hx hb dX9_stringOf_24 (by decide) ?_
        refine lv_istore_n hx hb dX9_stringOf_25 rfl hl (by decide) rfl (fun ls hl => ?_)
        have hl : lv_has ls 5 [(3, .int 0), (0, .ref b), (1, .int y1), (2, .int y2)] := hl
        refine lv_iconst (v := 0) hx hb dX9_stringOf_26 (by decide) ?_
        refine lv_istore hx hb dX9_stringOf_27 hl (by decide) rfl (fun ls hl => ?_)
        have hl : lv_has ls 5 [(4, .int 0), (3, .int 0), (0, .ref b), (1, .int y1), (2, .int y2)] := hl
        exact bX9_stringOf_29 ⟨hx, hb, hml, hown, hts, hr, hlocks⟩ D G N (pf_X9_stringOf_2 G N n) ih N _ _ _ _ _ _ _ _ hf (lv_sub hl [2, 3, 4, 1, 0] rfl) hw
      · rw [if_neg (fun q => q hc)] at hf
        refine lv_iconst (v := 1) hx hb dX9_stringOf_20 (by decide) ?_
        refine lv_goto hx hb dX9_stringOf_21 (tgt := 25) (by decide) ?_
        refine lv_istore_n hx hb dX9_stringOf_25 rfl hl (by decide) rfl (fun ls hl => ?_)
        have hl : lv_has ls 5 [(3, .int 1), (0, .ref b), (1, .int y1), (2, .int y2)] := hl
        refine lv_iconst (v := 0) hx hb dX9_stringOf_26 (by decide) ?_
        refine lv_istore hx hb dX9_stringOf_27 hl (by decide) rfl (fun ls hl => ?_)
        have hl : lv_has ls 5 [(4, .int 0), (3, .int 1), (0, .ref b), (1, .int y1), (2, .int y2)] := hl
        exact bX9_stringOf_29 ⟨hx, hb, hml, hown, hts, hr, hlocks⟩ D G N (pf_X9_stringOf_2 G N n) ih N _ _ _ _ _ _ _ _ hf (lv_sub hl [2, 3, 4, 1, 0] rfl) hw
set_option maxHeartbeats 4000000 in
set_option maxRecDepth 100000 in
theorem cm_X9_stringOf (l : Launch) (D : va_G) (G : Nat → ClassId) (N : Nat) (b : Nat) (S0 : mw_M) (S : mm_M) (x1 : Int32) (z : Int32 × mm_M) (hf : pf_X9_stringOf G N S x1 = some z) : Met l yX9_stringOf wsX9_stringOf rmX9_stringOf (va_Pc [.ref b, .int x1] (mm_B D vwCl (mw_tys G) mw_aos G b S0 S)) (mm_Qi D vwCl (mw_tys G) mw_aos G b S0 z) 0 0 (mm_A b S0) := by
  refine Met.ofW (cc := cX9_stringOf) (maxL := 5) (ret := (some .int)) (by decide) rfl ?_
  intro p e s m args below meth c s₁ B hml hv
  obtain ⟨rfl, hB⟩ := hv
  have hw := mm_begin hB
  have hx := B.exec
  have hb := B.bytes
  have hr := B.returns
  have hts : ∀ w ∈ lw_good, w.before _ s = true := fun w h => atoms_spec (ws := wsX9_stringOf) B.pre w (List.mem_cons_of_mem _ h)
  have hown : s.vm.findClass RX9 = some m.cls := findClass_of_methodNamed B.named
  have hlocks := B.notSynchronized
  have hC : mw_C p s m _ meth c cX9_stringOf RX9 (some .int) lw_good 5 := ⟨hx, hb, hml, hown, hts, hr, hlocks⟩
  have hl := lv_entry ([.ref b, .int x1]) (n := 5) (Nat.le_of_ble_eq_true rfl)
  rw [lg_entry_eq]
  generalize (lg_sl ([.ref b, .int x1]) ++ List.replicate (5 - (lg_sl ([.ref b, .int x1])).length) Slot.unset).toArray = ls at hl ⊢
  have hl : lv_has ls 5 [(0, .ref b), (1, .int x1)] := hl
  unfold pf_X9_stringOf at hf
  refine lv_iconst (v := 0) hx hb dX9_stringOf_0 (by decide) ?_
  refine lv_istore_n hx hb dX9_stringOf_1 rfl hl (by decide) rfl (fun ls hl => ?_)
  have hl : lv_has ls 5 [(2, .int 0), (0, .ref b), (1, .int x1)] := hl
  exact bX9_stringOf_2 ⟨hx, hb, hml, hown, hts, hr, hlocks⟩ D G N N _ _ _ _ _ _ hf (lv_sub hl [1, 2, 0] rfl) hw
abbrev rmX9_unwanted : Room := { frames := 0, cells := 0, slots := 0, locals := 0 }
abbrev wsX9_unwanted : List Cond := Cond.code yX9_unwanted cX9_unwanted 5 (some .int) :: lw_good
set_option maxHeartbeats 4000000 in
set_option maxRecDepth 100000 in
theorem bX9_unwanted_5 {p : Program} {l : Launch} {e : Env} {s : State} {m : MethodId} {args : Array Value} {below : List Frame} {meth : Method} {c : Code} (hC : mw_C p s m args meth c cX9_unwanted RX9 (some .int) lw_good 5) (D : va_G) (G : Nat → ClassId) (N : Nat) {b : Nat} {S0 : mw_M} {z : Int32 × mm_M} : ∀ (n : Nat) (y1 : Int32) (y2 : Int32) (y3 : Int32) (y4 : Int32) (S : mm_M) (H : Heap) (locs : List Loc) (ls : Array Slot), pf_X9_unwanted_5 G N n y1 y2 y3 y4 S = some z → lv_has ls 5 [(0, .ref b), (1, .int y1), (2, .int y2), (3, .int y3), (4, .int y4)] → mm_W D vwCl (mw_tys G) mw_aos s G b S0 S H locs → W p l e (headSpec wsX9_unwanted rmX9_unwanted).room s m args below meth c H locs 0 0 (MQ below (mm_Qi D vwCl (mw_tys G) mw_aos G b S0 z) args s 0 0 (mm_A b S0)) (F0 m 5 ls []) := by
  obtain ⟨hx, hb, hml, hown, hts, hr, hlocks⟩ := hC
  intro n
  induction n with
  | zero => intro y1 y2 y3 y4 S H locs ls hf; rw [pf_X9_unwanted_5] at hf; cases hf
  | succ n ih =>
    intro y1 y2 y3 y4 S H locs ls hf hl hw
    rw [pf_X9_unwanted_5] at hf
    refine lv_iload hx hb dX9_unwanted_5 (lv_at hl 4 rfl) ?_
    refine lv_aload_n hx hb dX9_unwanted_7 rfl (lv_at hl 0 rfl) ?_
    refine mm_geti hx hb hts inX9 hown hw rfl 29 (by decide) (hts _ tw_752) rfl (fun _ _ => rfl) dX9_unwanted_8 ?_
    refine lv_icmp_ge hx hb dX9_unwanted_11 (tgt := 66) (by decide) (fun hc => ?_) (fun hc => ?_)
    · rw [if_pos hc] at hf
      refine lv_iload_n hx hb dX9_unwanted_66 rfl (lv_at hl 3 rfl) ?_
      refine lv_if_eq hx hb dX9_unwanted_67 (tgt := 74) (by decide) (fun hc => ?_) (fun hc => ?_)
      · rw [if_pos hc] at hf
        refine lv_iconst (v := 2) hx hb dX9_unwanted_74 (by decide) ?_
        exact mm_iret hx hb hr hlocks hw hf dX9_unwanted_75
      · rw [if_neg hc] at hf
        refine lv_iconst (v := 3) hx hb dX9_unwanted_70 (by decide) ?_
        refine lv_goto hx hb dX9_unwanted_71 (tgt := 75) (by decide) ?_
        exact mm_iret hx hb hr hlocks hw hf dX9_unwanted_75
    · rw [if_neg hc] at hf
      refine lv_aload_n hx hb dX9_unwanted_14 rfl (lv_at hl 0 rfl) ?_
      refine mm_getr hx hb hts inX9 hown hw rfl 30 (by decide) (hts _ tw_753) rfl 18 (fun _ _ => rfl) dX9_unwanted_15 ?_
      refine lv_iload hx hb dX9_unwanted_18 (lv_at hl 4 rfl) ?_
      obtain ⟨v1, e1, hf⟩ := mw_b hf
      refine mm_iald hx hb hw 18 (by decide) 0 rfl e1 dX9_unwanted_20 ?_
      refine lv_iconst (v := 1) hx hb dX9_unwanted_21 (by decide) ?_
      refine lv_icmp_ne hx hb dX9_unwanted_22 (tgt := 60) (by decide) (fun hc => ?_) (fun hc => ?_)
      · rw [if_pos hc] at hf
        refine lv_iinc (k := 4) (v := (y4 + 1)) hx hb dX9_unwanted_60 hl rfl (congrArg (fun q => y4 + q) (show Int32.ofInt 1 = 1 by decide)) (by decide) rfl (fun ls hl => ?_)
        have hl : lv_has ls 5 [(4, .int (y4 + 1)), (0, .ref b), (1, .int y1), (2, .int y2), (3, .int y3)] := hl
        refine lv_goto hx hb dX9_unwanted_63 (tgt := 5) (by decide) ?_
        exact ih _ _ _ _ _ _ _ _ hf (lv_sub hl [1, 2, 3, 4, 0] rfl) hw
      · rw [if_neg (fun q => q hc)] at hf
        refine lv_aload_n hx hb dX9_unwanted_25 rfl (lv_at hl 0 rfl) ?_
        refine mm_getr hx hb hts inX9 hown hw rfl 31 (by decide) (hts _ tw_754) rfl 19 (fun _ _ => rfl) dX9_unwanted_26 ?_
        refine lv_bipush (v := 6) hx hb dX9_unwanted_29 (by decide) ?_
        refine lv_iload hx hb dX9_unwanted_31 (lv_at hl 4 rfl) ?_
        refine lv_imul hx hb dX9_unwanted_33 ?_
        refine lv_iload_n hx hb dX9_unwanted_34 rfl (lv_at hl 1 rfl) ?_
        refine lv_iadd hx hb dX9_unwanted_35 ?_
        obtain ⟨v2, e2, hf⟩ := mw_b hf
        refine mm_zald hx hb hw 19 (by decide) 3 rfl e2 dX9_unwanted_36 ?_
        refine lv_if_ne hx hb dX9_unwanted_37 (tgt := 60) (by decide) (fun hc => ?_) (fun hc => ?_)
        · rw [if_pos hc] at hf
          refine lv_iinc (k := 4) (v := (y4 + 1)) hx hb dX9_unwanted_60 hl rfl (congrArg (fun q => y4 + q) (show Int32.ofInt 1 = 1 by decide)) (by decide) rfl (fun ls hl => ?_)
          have hl : lv_has ls 5 [(4, .int (y4 + 1)), (0, .ref b), (1, .int y1), (2, .int y2), (3, .int y3)] := hl
          refine lv_goto hx hb dX9_unwanted_63 (tgt := 5) (by decide) ?_
          exact ih _ _ _ _ _ _ _ _ hf (lv_sub hl [1, 2, 3, 4, 0] rfl) hw
        · rw [if_neg (fun q => q hc)] at hf
          refine lv_iconst (v := 1) hx hb dX9_unwanted_40 (by decide) ?_
          refine lv_istore_n hx hb dX9_unwanted_41 rfl hl (by decide) rfl (fun ls hl => ?_)
          have hl : lv_has ls 5 [(3, .int 1), (0, .ref b), (1, .int y1), (2, .int y2), (4, .int y4)] := hl
          refine lv_iload_n hx hb dX9_unwanted_42 rfl (lv_at hl 3 rfl) ?_
          refine lv_aload_n hx hb dX9_unwanted_43 rfl (lv_at hl 1 rfl) ?_
          refine mm_getr hx hb hts inX9 hown hw rfl 32 (by decide) (hts _ tw_755) rfl 20 (fun _ _ => rfl) dX9_unwanted_44 ?_
          refine lv_bipush (v := 6) hx hb dX9_unwanted_47 (by decide) ?_
          refine lv_iload hx hb dX9_unwanted_49 (lv_at hl 4 rfl) ?_
          refine lv_imul hx hb dX9_unwanted_51 ?_
          refine lv_iload_n hx hb dX9_unwanted_52 rfl (lv_at hl 2 rfl) ?_
          refine lv_iadd hx hb dX9_unwanted_53 ?_
          obtain ⟨v3, e3, hf⟩ := mw_b hf
          refine mm_iald hx hb hw 20 (by decide) 0 rfl e3 dX9_unwanted_54 ?_
          refine lv_icmp_lt hx hb dX9_unwanted_55 (tgt := 60) (by decide) (fun hc => ?_) (fun hc => ?_)
          · rw [if_pos hc] at hf
            refine lv_iinc (k := 4) (v := (y4 + 1)) hx hb dX9_unwanted_60 hl rfl (congrArg (fun q => y4 + q) (show Int32.ofInt 1 = 1 by decide)) (by decide) rfl (fun ls hl => ?_)
            have hl : lv_has ls 5 [(4, .int (y4 + 1)), (3, .int 1), (0, .ref b), (1, .int y1), (2, .int y2)] := hl
            refine lv_goto hx hb dX9_unwanted_63 (tgt := 5) (by decide) ?_
            exact ih _ _ _ _ _ _ _ _ hf (lv_sub hl [2, 3, 4, 1, 0] rfl) hw
          · rw [if_neg hc] at hf
            refine lv_iconst (v := 0) hx hb dX9_unwanted_58 (by decide) ?_
            exact mm_iret hx hb hr hlocks hw hf dX9_unwanted_59
set_option maxHeartbeats 4000000 in
set_option maxRecDepth 100000 in
theorem cm_X9_unwanted (l : Launch) (D : va_G) (G : Nat → ClassId) (N : Nat) (b : Nat) (S0 : mw_M) (S : mm_M) (x1 : Int32) (x2 : Int32) (z : Int32 × mm_M) (hf : pf_X9_unwanted G N S x1 x2 = some z) : Met l yX9_unwanted wsX9_unwanted rmX9_unwanted (va_Pc [.ref b, .int x1, .int x2] (mm_B D vwCl (mw_tys G) mw_aos G b S0 S)) (mm_Qi D vwCl (mw_tys G) mw_aos G b S0 z) 0 0 (mm_A b S0) := by
  refine Met.ofW (cc := cX9_unwanted) (maxL := 5) (ret := (some .int)) (by decide) rfl ?_
  intro p e s m args below meth c s₁ B hml hv
  obtain ⟨rfl, hB⟩ := hv
  have hw := mm_begin hB
  have hx := B.exec
  have hb := B.bytes
  have hr := B.returns
  have hts : ∀ w ∈ lw_good, w.before _ s = true := fun w h => atoms_spec (ws := wsX9_unwanted) B.pre w (List.mem_cons_of_mem _ h)
  have hown : s.vm.findClass RX9 = some m.cls := findClass_of_methodNamed B.named
  have hlocks := B.notSynchronized
  have hC : mw_C p s m _ meth c cX9_unwanted RX9 (some .int) lw_good 5 := ⟨hx, hb, hml, hown, hts, hr, hlocks⟩
  have hl := lv_entry ([.ref b, .int x1, .int x2]) (n := 5) (Nat.le_of_ble_eq_true rfl)
  rw [lg_entry_eq]
  generalize (lg_sl ([.ref b, .int x1, .int x2]) ++ List.replicate (5 - (lg_sl ([.ref b, .int x1, .int x2])).length) Slot.unset).toArray = ls at hl ⊢
  have hl : lv_has ls 5 [(0, .ref b), (1, .int x1), (2, .int x2)] := hl
  unfold pf_X9_unwanted at hf
  refine lv_iconst (v := 0) hx hb dX9_unwanted_0 (by decide) ?_
  refine lv_istore_n hx hb dX9_unwanted_1 rfl hl (by decide) rfl (fun ls hl => ?_)
  have hl : lv_has ls 5 [(3, .int 0), (0, .ref b), (1, .int x1), (2, .int x2)] := hl
  refine lv_iconst (v := 0) hx hb dX9_unwanted_2 (by decide) ?_
  refine lv_istore hx hb dX9_unwanted_3 hl (by decide) rfl (fun ls hl => ?_)
  have hl : lv_has ls 5 [(4, .int 0), (3, .int 0), (0, .ref b), (1, .int x1), (2, .int x2)] := hl
  exact bX9_unwanted_5 ⟨hx, hb, hml, hown, hts, hr, hlocks⟩ D G N N _ _ _ _ _ _ _ _ hf (lv_sub hl [2, 3, 4, 1, 0] rfl) hw
abbrev rmX9_keepString : Room := { frames := 0, cells := 0, slots := 0, locals := 0 }
abbrev wsX9_keepString : List Cond := Cond.code yX9_keepString cX9_keepString 4 none :: lw_good
set_option maxHeartbeats 4000000 in
set_option maxRecDepth 100000 in
theorem bX9_keepString_7 {p : Program} {l : Launch} {e : Env} {s : State} {m : MethodId} {args : Array Value} {below : List Frame} {meth : Method} {c : Code} (hC : mw_C p s m args meth c cX9_keepString RX9 none lw_good 4) (D : va_G) (G : Nat → ClassId) (N : Nat) {b : Nat} {S0 : mw_M} {z : mm_M} : ∀ (n : Nat) (y2 : Int32) (y3 : Int32) (S : mm_M) (H : Heap) (locs : List Loc) (ls : Array Slot), pf_X9_keepString_7 G N n y2 y3 S = some z → lv_has ls 4 [(0, .ref b), (2, .int y2), (3, .int y3)] → mm_W D vwCl (mw_tys G) mw_aos s G b S0 S H locs → W p l e (headSpec wsX9_keepString rmX9_keepString).room s m args below meth c H locs 0 0 (MQ below (mm_Qv D vwCl (mw_tys G) mw_aos G b S0 z) args s 0 0 (mm_A b S0)) (F0 m 7 ls []) := by
  obtain ⟨hx, hb, hml, hown, hts, hr, hlocks⟩ := hC
  intro n
  induction n with
  | zero => intro y2 y3 S H locs ls hf; rw [pf_X9_keepString_7] at hf; cases hf
  | succ n ih =>
    intro y2 y3 S H locs ls hf hl hw
    rw [pf_X9_keepString_7] at hf
    refine lv_iload_n hx hb dX9_keepString_7 rfl (lv_at hl 2 rfl) ?_
    refine lv_iload_n hx hb dX9_keepString_8 rfl (lv_at hl 1 rfl) ?_
    refine lv_icmp_ge hx hb dX9_keepString_9 (tgt := 38) (by decide) (fun hc => ?_) (fun hc => ?_)
    · rw [if_pos hc] at hf
      refine lv_aload_n hx hb dX9_keepString_38 rfl (lv_at hl 0 rfl) ?_
      refine mm_getr hx hb hts inX9 hown hw rfl 12 (by decide) (hts _ tw_735) rfl 4 (fun _ _ => rfl) dX9_keepString_39 ?_
      refine lv_aload_n hx hb dX9_keepString_42 rfl (lv_at hl 0 rfl) ?_
      refine mm_geti hx hb hts inX9 hown hw rfl 10 (by decide) (hts _ tw_733) rfl (fun _ _ => rfl) dX9_keepString_43 ?_
      refine lv_iload_n hx hb dX9_keepString_46 rfl (lv_at hl 1 rfl) ?_
      obtain ⟨S1, e1, hf⟩ := mw_b hf
      refine mm_iast hx hb hw 4 (by decide) 0 rfl e1 dX9_keepString_47 (fun H locs hw => ?_)
      refine lv_aload_n hx hb dX9_keepString_48 rfl (lv_at hl 0 rfl) ?_
      refine lv_dup hx hb dX9_keepString_49 rfl ?_
      refine mm_geti hx hb hts inX9 hown hw rfl 10 (by decide) (hts _ tw_733) rfl (fun _ _ => rfl) dX9_keepString_50 ?_
      refine lv_iconst (v := 1) hx hb dX9_keepString_53 (by decide) ?_
      refine lv_iadd hx hb dX9_keepString_54 ?_
      obtain ⟨S2, e2, hf⟩ := mw_b hf
      refine mm_put hx hb hts inX9 tyX9 tyX9_ok nX9 hown hw rfl 10 (by decide) (hts _ tw_733) rfl rfl (by decide +kernel) (by decide) (mm_st10 _) e2 dX9_keepString_55 (fun H locs hw => ?_)
      exact mm_vret hx hb hr hlocks hw hf dX9_keepString_58
    · rw [if_neg hc] at hf
      refine lv_aload_n hx hb dX9_keepString_12 rfl (lv_at hl 0 rfl) ?_
      refine mm_getr hx hb hts inX9 hown hw rfl 11 (by decide) (hts _ tw_734) rfl 3 (fun _ _ => rfl) dX9_keepString_13 ?_
      refine lv_bipush (v := 8) hx hb dX9_keepString_16 (by decide) ?_
      refine lv_aload_n hx hb dX9_keepString_18 rfl (lv_at hl 0 rfl) ?_
      refine mm_geti hx hb hts inX9 hown hw rfl 10 (by decide) (hts _ tw_733) rfl (fun _ _ => rfl) dX9_keepString_19 ?_
      refine lv_imul hx hb dX9_keepString_22 ?_
      refine lv_iload_n hx hb dX9_keepString_23 rfl (lv_at hl 2 rfl) ?_
      refine lv_iadd hx hb dX9_keepString_24 ?_
      refine lv_aload_n hx hb dX9_keepString_25 rfl (lv_at hl 0 rfl) ?_
      refine mm_getr hx hb hts inX9 hown hw rfl 6 (by decide) (hts _ tw_729) rfl 0 (fun _ _ => rfl) dX9_keepString_26 ?_
      refine lv_iload_n hx hb dX9_keepString_29 rfl (lv_at hl 2 rfl) ?_
      obtain ⟨v3, e3, hf⟩ := mw_b hf
      refine mm_cald hx hb hw 0 (by decide) 2 rfl e3 dX9_keepString_30 ?_
      obtain ⟨S4, e4, hf⟩ := mw_b hf
      refine mm_cast hx hb hw 3 (by decide) 2 rfl e4 dX9_keepString_31 (fun H locs hw => ?_)
      refine lv_iinc (k := 2) (v := (y3 + 1)) hx hb dX9_keepString_32 hl rfl (congrArg (fun q => y3 + q) (show Int32.ofInt 1 = 1 by decide)) (by decide) rfl (fun ls hl => ?_)
      have hl : lv_has ls 4 [(3, .int (y3 + 1)), (0, .ref b), (2, .int y2)] := hl
      refine lv_goto hx hb dX9_keepString_35 (tgt := 7) (by decide) ?_
      exact ih _ _ _ _ _ _ hf (lv_sub hl [1, 2, 0] rfl) hw
set_option maxHeartbeats 4000000 in
set_option maxRecDepth 100000 in
theorem cm_X9_keepString (l : Launch) (D : va_G) (G : Nat → ClassId) (N : Nat) (b : Nat) (S0 : mw_M) (S : mm_M) (x1 : Int32) (x2 : Int32) (z : mm_M) (hf : pf_X9_keepString G N S x1 x2 = some z) : Met l yX9_keepString wsX9_keepString rmX9_keepString (va_Pc [.ref b, .int x1, .int x2] (mm_B D vwCl (mw_tys G) mw_aos G b S0 S)) (mm_Qv D vwCl (mw_tys G) mw_aos G b S0 z) 0 0 (mm_A b S0) := by
  refine Met.ofW (cc := cX9_keepString) (maxL := 4) (ret := none) (by decide) rfl ?_
  intro p e s m args below meth c s₁ B hml hv
  obtain ⟨rfl, hB⟩ := hv
  have hw := mm_begin hB
  have hx := B.exec
  have hb := B.bytes
  have hr := B.returns
  have hts : ∀ w ∈ lw_good, w.before _ s = true := fun w h => atoms_spec (ws := wsX9_keepString) B.pre w (List.mem_cons_of_mem _ h)
  have hown : s.vm.findClass RX9 = some m.cls := findClass_of_methodNamed B.named
  have hlocks := B.notSynchronized
  have hC : mw_C p s m _ meth c cX9_keepString RX9 none lw_good 4 := ⟨hx, hb, hml, hown, hts, hr, hlocks⟩
  have hl := lv_entry ([.ref b, .int x1, .int x2]) (n := 4) (Nat.le_of_ble_eq_true rfl)
  rw [lg_entry_eq]
  generalize (lg_sl ([.ref b, .int x1, .int x2]) ++ List.replicate (4 - (lg_sl ([.ref b, .int x1, .int x2])).length) Slot.unset).toArray = ls at hl ⊢
  have hl : lv_has ls 4 [(0, .ref b), (1, .int x1), (2, .int x2)] := hl
  unfold pf_X9_keepString at hf
  refine lv_iload_n hx hb dX9_keepString_0 rfl (lv_at hl 1 rfl) ?_
  refine lv_if_lt hx hb dX9_keepString_1 (tgt := 5) (by decide) (fun hc => ?_) (fun hc => ?_)
  · rw [if_pos hc] at hf
    refine lv_iconst (v := 0) hx hb dX9_keepString_5 (by decide) ?_
    refine lv_istore_n hx hb dX9_keepString_6 rfl hl (by decide) rfl (fun ls hl => ?_)
    have hl : lv_has ls 4 [(3, .int 0), (0, .ref b), (1, .int x1), (2, .int x2)] := hl
    exact bX9_keepString_7 ⟨hx, hb, hml, hown, hts, hr, hlocks⟩ D G N N _ _ _ _ _ _ hf (lv_sub hl [1, 3, 0] rfl) hw
  · rw [if_neg hc] at hf
    exact mm_vret hx hb hr hlocks hw hf dX9_keepString_4
abbrev rmX9_move : Room := { frames := 0, cells := 0, slots := 0, locals := 0 }
abbrev wsX9_move : List Cond := Cond.code yX9_move cX9_move 4 none :: lw_good
set_option maxHeartbeats 4000000 in
set_option maxRecDepth 100000 in
theorem bX9_move_2 {p : Program} {l : Launch} {e : Env} {s : State} {m : MethodId} {args : Array Value} {below : List Frame} {meth : Method} {c : Code} (hC : mw_C p s m args meth c cX9_move RX9 none lw_good 4) (D : va_G) (G : Nat → ClassId) (N : Nat) {b : Nat} {S0 : mw_M} {z : mm_M} : ∀ (n : Nat) (y1 : Int32) (y2 : Int32) (y3 : Int32) (S : mm_M) (H : Heap) (locs : List Loc) (ls : Array Slot), pf_X9_move_2 G N n y1 y2 y3 S = some z → lv_has ls 4 [(0, .ref b), (1, .int y1), (2, .int y2), (3, .int y3)] → mm_W D vwCl (mw_tys G) mw_aos s G b S0 S H locs → W p l e (headSpec wsX9_move rmX9_move).room s m args below meth c H locs 0 0 (MQ below (mm_Qv D vwCl (mw_tys G) mw_aos G b S0 z) args s 0 0 (mm_A b S0)) (F0 m 2 ls []) := by
  obtain ⟨hx, hb, hml, hown, hts, hr, hlocks⟩ := hC
  intro n
  induction n with
  | zero => intro y1 y2 y3 S H locs ls hf; rw [pf_X9_move_2] at hf; cases hf
  | succ n ih =>
    intro y1 y2 y3 S H locs ls hf hl hw
    rw [pf_X9_move_2] at hf
    refine lv_iload_n hx hb dX9_move_2 rfl (lv_at hl 3 rfl) ?_
    refine lv_aload_n hx hb dX9_move_3 rfl (lv_at hl 0 rfl) ?_
    refine mm_getr hx hb hts inX9 hown hw rfl 16 (by decide) (hts _ tw_739) rfl 8 (fun _ _ => rfl) dX9_move_4 ?_
    refine lv_iload_n hx hb dX9_move_7 rfl (lv_at hl 1 rfl) ?_
    obtain ⟨v1, e1, hf⟩ := mw_b hf
    refine mm_iald hx hb hw 8 (by decide) 0 rfl e1 dX9_move_8 ?_
    refine lv_icmp_ge hx hb dX9_move_9 (tgt := 40) (by decide) (fun hc => ?_) (fun hc => ?_)
    · rw [if_pos hc] at hf
      refine lv_aload_n hx hb dX9_move_40 rfl (lv_at hl 0 rfl) ?_
      refine mm_getr hx hb hts inX9 hown hw rfl 16 (by decide) (hts _ tw_739) rfl 8 (fun _ _ => rfl) dX9_move_41 ?_
      refine lv_iload_n hx hb dX9_move_44 rfl (lv_at hl 2 rfl) ?_
      refine lv_aload_n hx hb dX9_move_45 rfl (lv_at hl 0 rfl) ?_
      refine mm_getr hx hb hts inX9 hown hw rfl 16 (by decide) (hts _ tw_739) rfl 8 (fun _ _ => rfl) dX9_move_46 ?_
      refine lv_iload_n hx hb dX9_move_49 rfl (lv_at hl 1 rfl) ?_
      obtain ⟨v2, e2, hf⟩ := mw_b hf
      refine mm_iald hx hb hw 8 (by decide) 0 rfl e2 dX9_move_50 ?_
      obtain ⟨S3, e3, hf⟩ := mw_b hf
      refine mm_iast hx hb hw 8 (by decide) 0 rfl e3 dX9_move_51 (fun H locs hw => ?_)
      refine lv_aload_n hx hb dX9_move_52 rfl (lv_at hl 0 rfl) ?_
      refine mm_getr hx hb hts inX9 hown hw rfl 17 (by decide) (hts _ tw_740) rfl 9 (fun _ _ => rfl) dX9_move_53 ?_
      refine lv_iload_n hx hb dX9_move_56 rfl (lv_at hl 2 rfl) ?_
      refine lv_aload_n hx hb dX9_move_57 rfl (lv_at hl 0 rfl) ?_
      refine mm_getr hx hb hts inX9 hown hw rfl 17 (by decide) (hts _ tw_740) rfl 9 (fun _ _ => rfl) dX9_move_58 ?_
      refine lv_iload_n hx hb dX9_move_61 rfl (lv_at hl 1 rfl) ?_
      obtain ⟨v4, e4, hf⟩ := mw_b hf
      refine mm_iald hx hb hw 9 (by decide) 0 rfl e4 dX9_move_62 ?_
      obtain ⟨S5, e5, hf⟩ := mw_b hf
      refine mm_iast hx hb hw 9 (by decide) 0 rfl e5 dX9_move_63 (fun H locs hw => ?_)
      refine lv_aload_n hx hb dX9_move_64 rfl (lv_at hl 0 rfl) ?_
      refine mm_getr hx hb hts inX9 hown hw rfl 16 (by decide) (hts _ tw_739) rfl 8 (fun _ _ => rfl) dX9_move_65 ?_
      refine lv_iload_n hx hb dX9_move_68 rfl (lv_at hl 1 rfl) ?_
      refine lv_iconst (v := 0) hx hb dX9_move_69 (by decide) ?_
      obtain ⟨S6, e6, hf⟩ := mw_b hf
      refine mm_iast hx hb hw 8 (by decide) 0 rfl e6 dX9_move_70 (fun H locs hw => ?_)
      refine lv_aload_n hx hb dX9_move_71 rfl (lv_at hl 0 rfl) ?_
      refine mm_getr hx hb hts inX9 hown hw rfl 17 (by decide) (hts _ tw_740) rfl 9 (fun _ _ => rfl) dX9_move_72 ?_
      refine lv_iload_n hx hb dX9_move_75 rfl (lv_at hl 1 rfl) ?_
      refine lv_iconst (v := 0) hx hb dX9_move_76 (by decide) ?_
      obtain ⟨S7, e7, hf⟩ := mw_b hf
      refine mm_iast hx hb hw 9 (by decide) 0 rfl e7 dX9_move_77 (fun H locs hw => ?_)
      exact mm_vret hx hb hr hlocks hw hf dX9_move_78
    · rw [if_neg hc] at hf
      refine lv_aload_n hx hb dX9_move_12 rfl (lv_at hl 0 rfl) ?_
      refine mm_getr hx hb hts inX9 hown hw rfl 15 (by decide) (hts _ tw_738) rfl 7 (fun _ _ => rfl) dX9_move_13 ?_
      refine lv_bipush (v := 60) hx hb dX9_move_16 (by decide) ?_
      refine lv_iload_n hx hb dX9_move_18 rfl (lv_at hl 2 rfl) ?_
      refine lv_imul hx hb dX9_move_19 ?_
      refine lv_iload_n hx hb dX9_move_20 rfl (lv_at hl 3 rfl) ?_
      refine lv_iadd hx hb dX9_move_21 ?_
      refine lv_aload_n hx hb dX9_move_22 rfl (lv_at hl 0 rfl) ?_
      refine mm_getr hx hb hts inX9 hown hw rfl 15 (by decide) (hts _ tw_738) rfl 7 (fun _ _ => rfl) dX9_move_23 ?_
      refine lv_bipush (v := 60) hx hb dX9_move_26 (by decide) ?_
      refine lv_iload_n hx hb dX9_move_28 rfl (lv_at hl 1 rfl) ?_
      refine lv_imul hx hb dX9_move_29 ?_
      refine lv_iload_n hx hb dX9_move_30 rfl (lv_at hl 3 rfl) ?_
      refine lv_iadd hx hb dX9_move_31 ?_
      obtain ⟨v8, e8, hf⟩ := mw_b hf
      refine mm_iald hx hb hw 7 (by decide) 0 rfl e8 dX9_move_32 ?_
      obtain ⟨S9, e9, hf⟩ := mw_b hf
      refine mm_iast hx hb hw 7 (by decide) 0 rfl e9 dX9_move_33 (fun H locs hw => ?_)
      refine lv_iinc (k := 3) (v := (y3 + 1)) hx hb dX9_move_34 hl rfl (congrArg (fun q => y3 + q) (show Int32.ofInt 1 = 1 by decide)) (by decide) rfl (fun ls hl => ?_)
      have hl : lv_has ls 4 [(3, .int (y3 + 1)), (0, .ref b), (1, .int y1), (2, .int y2)] := hl
      refine lv_goto hx hb dX9_move_37 (tgt := 2) (by decide) ?_
      exact ih _ _ _ _ _ _ _ hf (lv_sub hl [1, 2, 3, 0] rfl) hw
set_option maxHeartbeats 4000000 in
set_option maxRecDepth 100000 in
theorem cm_X9_move (l : Launch) (D : va_G) (G : Nat → ClassId) (N : Nat) (b : Nat) (S0 : mw_M) (S : mm_M) (x1 : Int32) (x2 : Int32) (z : mm_M) (hf : pf_X9_move G N S x1 x2 = some z) : Met l yX9_move wsX9_move rmX9_move (va_Pc [.ref b, .int x1, .int x2] (mm_B D vwCl (mw_tys G) mw_aos G b S0 S)) (mm_Qv D vwCl (mw_tys G) mw_aos G b S0 z) 0 0 (mm_A b S0) := by
  refine Met.ofW (cc := cX9_move) (maxL := 4) (ret := none) (by decide) rfl ?_
  intro p e s m args below meth c s₁ B hml hv
  obtain ⟨rfl, hB⟩ := hv
  have hw := mm_begin hB
  have hx := B.exec
  have hb := B.bytes
  have hr := B.returns
  have hts : ∀ w ∈ lw_good, w.before _ s = true := fun w h => atoms_spec (ws := wsX9_move) B.pre w (List.mem_cons_of_mem _ h)
  have hown : s.vm.findClass RX9 = some m.cls := findClass_of_methodNamed B.named
  have hlocks := B.notSynchronized
  have hC : mw_C p s m _ meth c cX9_move RX9 none lw_good 4 := ⟨hx, hb, hml, hown, hts, hr, hlocks⟩
  have hl := lv_entry ([.ref b, .int x1, .int x2]) (n := 4) (Nat.le_of_ble_eq_true rfl)
  rw [lg_entry_eq]
  generalize (lg_sl ([.ref b, .int x1, .int x2]) ++ List.replicate (4 - (lg_sl ([.ref b, .int x1, .int x2])).length) Slot.unset).toArray = ls at hl ⊢
  have hl : lv_has ls 4 [(0, .ref b), (1, .int x1), (2, .int x2)] := hl
  unfold pf_X9_move at hf
  refine lv_iconst (v := 0) hx hb dX9_move_0 (by decide) ?_
  refine lv_istore_n hx hb dX9_move_1 rfl hl (by decide) rfl (fun ls hl => ?_)
  have hl : lv_has ls 4 [(3, .int 0), (0, .ref b), (1, .int x1), (2, .int x2)] := hl
  exact bX9_move_2 ⟨hx, hb, hml, hown, hts, hr, hlocks⟩ D G N N _ _ _ _ _ _ _ hf (lv_sub hl [1, 2, 3, 0] rfl) hw
abbrev rmX9_commit : Room := { frames := 1, cells := 0, slots := 0, locals := 24 }
abbrev wsX9_commit : List Cond := Cond.code yX9_commit cX9_commit 16 (some .int) :: lw_good
set_option maxHeartbeats 4000000 in
set_option maxRecDepth 100000 in
theorem bX9_commit_327 {p : Program} {l : Launch} {e : Env} {s : State} {m : MethodId} {args : Array Value} {below : List Frame} {meth : Method} {c : Code} (hC : mw_C p s m args meth c cX9_commit RX9 (some .int) lw_good 16) (D : va_G) (G : Nat → ClassId) (N : Nat) {b : Nat} {S0 : mw_M} {z : Int32 × mm_M} : ∀ (y1 : Int32) (S : mm_M) (H : Heap) (locs : List Loc) (ls : Array Slot), pf_X9_commit_327 G N y1 S = some z → lv_has ls 16 [(0, .ref b), (1, .int y1)] → mm_W D vwCl (mw_tys G) mw_aos s G b S0 S H locs → W p l e (headSpec wsX9_commit rmX9_commit).room s m args below meth c H locs 0 0 (MQ below (mm_Qi D vwCl (mw_tys G) mw_aos G b S0 z) args s 0 0 (mm_A b S0)) (F0 m 327 ls []) := by
  obtain ⟨hx, hb, hml, hown, hts, hr, hlocks⟩ := hC
  intro y1 S H locs ls hf hl hw
  unfold pf_X9_commit_327 at hf
  refine lv_aload_n hx hb dX9_commit_327 rfl (lv_at hl 0 rfl) ?_
  refine mm_getr hx hb hts inX9 hown hw rfl 27 (by decide) (hts _ tw_750) rfl 16 (fun _ _ => rfl) dX9_commit_328 ?_
  refine lv_iload_n hx hb dX9_commit_331 rfl (lv_at hl 1 rfl) ?_
  refine lv_dup2_11 hx hb dX9_commit_332 rfl rfl ?_
  obtain ⟨v1, e1, hf⟩ := mw_b hf
  refine mm_iald hx hb hw 16 (by decide) 0 rfl e1 dX9_commit_333 ?_
  refine lv_iconst (v := 1) hx hb dX9_commit_334 (by decide) ?_
  refine lv_iadd hx hb dX9_commit_335 ?_
  obtain ⟨S2, e2, hf⟩ := mw_b hf
  refine mm_iast hx hb hw 16 (by decide) 0 rfl e2 dX9_commit_336 (fun H locs hw => ?_)
  refine lv_aload_n hx hb dX9_commit_337 rfl (lv_at hl 0 rfl) ?_
  refine mm_getr hx hb hts inX9 hown hw rfl 28 (by decide) (hts _ tw_751) rfl 17 (fun _ _ => rfl) dX9_commit_338 ?_
  refine lv_iload_n hx hb dX9_commit_341 rfl (lv_at hl 1 rfl) ?_
  refine lv_dup2_11 hx hb dX9_commit_342 rfl rfl ?_
  obtain ⟨v3, e3, hf⟩ := mw_b hf
  refine mm_iald hx hb hw 17 (by decide) 0 rfl e3 dX9_commit_343 ?_
  refine lv_iconst (v := 1) hx hb dX9_commit_344 (by decide) ?_
  refine lv_iadd hx hb dX9_commit_345 ?_
  obtain ⟨S4, e4, hf⟩ := mw_b hf
  refine mm_iast hx hb hw 17 (by decide) 0 rfl e4 dX9_commit_346 (fun H locs hw => ?_)
  refine lv_iconst (v := 4) hx hb dX9_commit_347 (by decide) ?_
  exact mm_iret hx hb hr hlocks hw hf dX9_commit_348
set_option maxHeartbeats 4000000 in
set_option maxRecDepth 100000 in
theorem bX9_commit_498 {p : Program} {l : Launch} {e : Env} {s : State} {m : MethodId} {args : Array Value} {below : List Frame} {meth : Method} {c : Code} (hC : mw_C p s m args meth c cX9_commit RX9 (some .int) lw_good 16) (D : va_G) (G : Nat → ClassId) (N : Nat) {b : Nat} {S0 : mw_M} {z : Int32 × mm_M} : ∀ (n : Nat) (y1 : Int32) (y15 : Int32) (S : mm_M) (H : Heap) (locs : List Loc) (ls : Array Slot), pf_X9_commit_498 G N n y1 y15 S = some z → lv_has ls 16 [(0, .ref b), (1, .int y1), (15, .int y15)] → mm_W D vwCl (mw_tys G) mw_aos s G b S0 S H locs → W p l e (headSpec wsX9_commit rmX9_commit).room s m args below meth c H locs 0 0 (MQ below (mm_Qi D vwCl (mw_tys G) mw_aos G b S0 z) args s 0 0 (mm_A b S0)) (F0 m 498 ls []) := by
  obtain ⟨hx, hb, hml, hown, hts, hr, hlocks⟩ := hC
  intro n
  induction n with
  | zero => intro y1 y15 S H locs ls hf; rw [pf_X9_commit_498] at hf; cases hf
  | succ n ih =>
    intro y1 y15 S H locs ls hf hl hw
    rw [pf_X9_commit_498] at hf
    refine lv_iload hx hb dX9_commit_498 (lv_at hl 2 rfl) ?_
    refine lv_aload_n hx hb dX9_commit_500 rfl (lv_at hl 0 rfl) ?_
    refine mm_geti hx hb hts inX9 hown hw rfl 38 (by decide) (hts _ tw_761) rfl (fun _ _ => rfl) dX9_commit_501 ?_
    refine lv_icmp_ge hx hb dX9_commit_504 (tgt := 539) (by decide) (fun hc => ?_) (fun hc => ?_)
    · rw [if_pos hc] at hf
      refine lv_aload_n hx hb dX9_commit_539 rfl (lv_at hl 0 rfl) ?_
      refine mm_getr hx hb hts inX9 hown hw rfl 16 (by decide) (hts _ tw_739) rfl 8 (fun _ _ => rfl) dX9_commit_540 ?_
      refine lv_iload_n hx hb dX9_commit_543 rfl (lv_at hl 1 rfl) ?_
      refine lv_dup2_11 hx hb dX9_commit_544 rfl rfl ?_
      obtain ⟨v1, e1, hf⟩ := mw_b hf
      refine mm_iald hx hb hw 8 (by decide) 0 rfl e1 dX9_commit_545 ?_
      refine lv_aload_n hx hb dX9_commit_546 rfl (lv_at hl 0 rfl) ?_
      refine mm_geti hx hb hts inX9 hown hw rfl 38 (by decide) (hts _ tw_761) rfl (fun _ _ => rfl) dX9_commit_547 ?_
      refine lv_iadd hx hb dX9_commit_550 ?_
      obtain ⟨S2, e2, hf⟩ := mw_b hf
      refine mm_iast hx hb hw 8 (by decide) 0 rfl e2 dX9_commit_551 (fun H locs hw => ?_)
      refine lv_aload_n hx hb dX9_commit_552 rfl (lv_at hl 0 rfl) ?_
      refine mm_getr hx hb hts inX9 hown hw rfl 17 (by decide) (hts _ tw_740) rfl 9 (fun _ _ => rfl) dX9_commit_553 ?_
      refine lv_iload_n hx hb dX9_commit_556 rfl (lv_at hl 1 rfl) ?_
      refine lv_dup2_11 hx hb dX9_commit_557 rfl rfl ?_
      obtain ⟨v3, e3, hf⟩ := mw_b hf
      refine mm_iald hx hb hw 9 (by decide) 0 rfl e3 dX9_commit_558 ?_
      refine lv_iconst (v := 1) hx hb dX9_commit_559 (by decide) ?_
      refine lv_iadd hx hb dX9_commit_560 ?_
      obtain ⟨S4, e4, hf⟩ := mw_b hf
      refine mm_iast hx hb hw 9 (by decide) 0 rfl e4 dX9_commit_561 (fun H locs hw => ?_)
      refine lv_iconst (v := 0) hx hb dX9_commit_562 (by decide) ?_
      exact mm_iret hx hb hr hlocks hw hf dX9_commit_563
    · rw [if_neg hc] at hf
      refine lv_aload_n hx hb dX9_commit_507 rfl (lv_at hl 0 rfl) ?_
      refine mm_getr hx hb hts inX9 hown hw rfl 15 (by decide) (hts _ tw_738) rfl 7 (fun _ _ => rfl) dX9_commit_508 ?_
      refine lv_bipush (v := 60) hx hb dX9_commit_511 (by decide) ?_
      refine lv_iload_n hx hb dX9_commit_513 rfl (lv_at hl 1 rfl) ?_
      refine lv_imul hx hb dX9_commit_514 ?_
      refine lv_aload_n hx hb dX9_commit_515 rfl (lv_at hl 0 rfl) ?_
      refine mm_getr hx hb hts inX9 hown hw rfl 16 (by decide) (hts _ tw_739) rfl 8 (fun _ _ => rfl) dX9_commit_516 ?_
      refine lv_iload_n hx hb dX9_commit_519 rfl (lv_at hl 1 rfl) ?_
      obtain ⟨v5, e5, hf⟩ := mw_b hf
      refine mm_iald hx hb hw 8 (by decide) 0 rfl e5 dX9_commit_520 ?_
      refine lv_iadd hx hb dX9_commit_521 ?_
      refine lv_iload hx hb dX9_commit_522 (lv_at hl 2 rfl) ?_
      refine lv_iadd hx hb dX9_commit_524 ?_
      refine lv_aload_n hx hb dX9_commit_525 rfl (lv_at hl 0 rfl) ?_
      refine mm_getr hx hb hts inX9 hown hw rfl 37 (by decide) (hts _ tw_760) rfl 24 (fun _ _ => rfl) dX9_commit_526 ?_
      refine lv_iload hx hb dX9_commit_529 (lv_at hl 2 rfl) ?_
      obtain ⟨v6, e6, hf⟩ := mw_b hf
      refine mm_iald hx hb hw 24 (by decide) 0 rfl e6 dX9_commit_531 ?_
      obtain ⟨S7, e7, hf⟩ := mw_b hf
      refine mm_iast hx hb hw 7 (by decide) 0 rfl e7 dX9_commit_532 (fun H locs hw => ?_)
      refine lv_iinc (k := 2) (v := (y15 + 1)) hx hb dX9_commit_533 hl rfl (congrArg (fun q => y15 + q) (show Int32.ofInt 1 = 1 by decide)) (by decide) rfl (fun ls hl => ?_)
      have hl : lv_has ls 16 [(15, .int (y15 + 1)), (0, .ref b), (1, .int y1)] := hl
      refine lv_goto hx hb dX9_commit_536 (tgt := 498) (by decide) ?_
      exact ih _ _ _ _ _ _ hf (lv_sub hl [1, 2, 0] rfl) hw
set_option maxHeartbeats 4000000 in
set_option maxRecDepth 100000 in
theorem bX9_commit_469 {p : Program} {l : Launch} {e : Env} {s : State} {m : MethodId} {args : Array Value} {below : List Frame} {meth : Method} {c : Code} (hC : mw_C p s m args meth c cX9_commit RX9 (some .int) lw_good 16) (D : va_G) (G : Nat → ClassId) (N : Nat) {b : Nat} {S0 : mw_M} {z : Int32 × mm_M} : ∀ (y1 : Int32) (y14 : Int32) (S : mm_M) (H : Heap) (locs : List Loc) (ls : Array Slot), pf_X9_commit_469 G N y1 y14 S = some z → lv_has ls 16 [(0, .ref b), (1, .int y1), (14, .int y14)] → mm_W D vwCl (mw_tys G) mw_aos s G b S0 S H locs → W p l e (headSpec wsX9_commit rmX9_commit).room s m args below meth c H locs 0 0 (MQ below (mm_Qi D vwCl (mw_tys G) mw_aos G b S0 z) args s 0 0 (mm_A b S0)) (F0 m 469 ls []) := by
  obtain ⟨hx, hb, hml, hown, hts, hr, hlocks⟩ := hC
  intro y1 y14 S H locs ls hf hl hw
  unfold pf_X9_commit_469 at hf
  refine lv_iload hx hb dX9_commit_469 (lv_at hl 2 rfl) ?_
  refine lv_if_eq hx hb dX9_commit_471 (tgt := 495) (by decide) (fun hc => ?_) (fun hc => ?_)
  · rw [if_pos hc] at hf
    refine lv_iconst (v := 0) hx hb dX9_commit_495 (by decide) ?_
    refine lv_istore hx hb dX9_commit_496 hl (by decide) rfl (fun ls hl => ?_)
    have hl : lv_has ls 16 [(15, .int 0), (0, .ref b), (1, .int y1), (14, .int y14)] := hl
    exact bX9_commit_498 ⟨hx, hb, hml, hown, hts, hr, hlocks⟩ D G N N _ _ _ _ _ _ hf (lv_sub hl [1, 2, 0] rfl) hw
  · rw [if_neg hc] at hf
    refine lv_aload_n hx hb dX9_commit_474 rfl (lv_at hl 0 rfl) ?_
    refine lv_iload_n hx hb dX9_commit_475 rfl (lv_at hl 1 rfl) ?_
    refine lv_iconst (v := 3) hx hb dX9_commit_476 (by decide) ?_
    refine lv_aload_n hx hb dX9_commit_477 rfl (lv_at hl 0 rfl) ?_
    refine mm_geti hx hb hts inX9 hown hw rfl 18 (by decide) (hts _ tw_741) rfl (fun _ _ => rfl) dX9_commit_478 ?_
    refine lv_iadd hx hb dX9_commit_481 ?_
    obtain ⟨S1, e1, hf⟩ := mw_b hf
    refine mm_callv (va_runV (As := [.int y1, .int (3 + (S.1 18))]) (rest := []) ⟨hx, hb, hml, hown, hts⟩ (cm_X9_move l D G N b S0 S y1 (3 + (S.1 18)) S1 e1) (cwV 2 hts (mw_gV tw_890 tw_892 tp_21 tw_11 tw_893) rfl rfl rfl (by decide +kernel) ⟨Nat.le_of_ble_eq_true rfl, Nat.le_of_ble_eq_true rfl⟩) (mm_preV hw rfl) rfl rfl hl.1 rfl (lv_room (Nat.le_of_ble_eq_true rfl)) dX9_commit_482 ⟨(Nat.le_of_ble_eq_true rfl), (Nat.le_of_ble_eq_true rfl)⟩) hw (fun H locs hw => ?_)
    refine lv_aload_n hx hb dX9_commit_485 rfl (lv_at hl 0 rfl) ?_
    refine lv_dup hx hb dX9_commit_486 rfl ?_
    refine mm_geti hx hb hts inX9 hown hw rfl 18 (by decide) (hts _ tw_741) rfl (fun _ _ => rfl) dX9_commit_487 ?_
    refine lv_iconst (v := 1) hx hb dX9_commit_490 (by decide) ?_
    refine lv_iadd hx hb dX9_commit_491 ?_
    obtain ⟨S2, e2, hf⟩ := mw_b hf
    refine mm_put hx hb hts inX9 tyX9 tyX9_ok nX9 hown hw rfl 18 (by decide) (hts _ tw_741) rfl rfl (by decide +kernel) (by decide) (mm_st18 _) e2 dX9_commit_492 (fun H locs hw => ?_)
    refine lv_iconst (v := 0) hx hb dX9_commit_495 (by decide) ?_
    refine lv_istore hx hb dX9_commit_496 hl (by decide) rfl (fun ls hl => ?_)
    have hl : lv_has ls 16 [(15, .int 0), (0, .ref b), (1, .int y1), (14, .int y14)] := hl
    exact bX9_commit_498 ⟨hx, hb, hml, hown, hts, hr, hlocks⟩ D G N N _ _ _ _ _ _ hf (lv_sub hl [1, 2, 0] rfl) hw
set_option maxHeartbeats 4000000 in
set_option maxRecDepth 100000 in
theorem bX9_commit_419 {p : Program} {l : Launch} {e : Env} {s : State} {m : MethodId} {args : Array Value} {below : List Frame} {meth : Method} {c : Code} (hC : mw_C p s m args meth c cX9_commit RX9 (some .int) lw_good 16) (D : va_G) (G : Nat → ClassId) (N : Nat) {b : Nat} {S0 : mw_M} {z : Int32 × mm_M} (k385 : Int32 → Int32 → Int32 → Int32 → Int32 → Int32 → Int32 → Int32 → Int32 → Int32 → Int32 → mm_M → Option (Int32 × mm_M)) (hk385 : ∀ (y1 : Int32) (y2 : Int32) (y3 : Int32) (y4 : Int32) (y5 : Int32) (y6 : Int32) (y7 : Int32) (y10 : Int32) (y11 : Int32) (y14 : Int32) (y15 : Int32) (S : mm_M) (H : Heap) (locs : List Loc) (ls : Array Slot), k385 y1 y2 y3 y4 y5 y6 y7 y10 y11 y14 y15 S = some z → lv_has ls 16 [(0, .ref b), (1, .int y1), (2, .int y2), (3, .int y3), (4, .int y4), (5, .int y5), (6, .int y6), (7, .int y7), (10, .int y10), (11, .int y11), (14, .int y14), (15, .int y15)] → mm_W D vwCl (mw_tys G) mw_aos s G b S0 S H locs → W p l e (headSpec wsX9_commit rmX9_commit).room s m args below meth c H locs 0 0 (MQ below (mm_Qi D vwCl (mw_tys G) mw_aos G b S0 z) args s 0 0 (mm_A b S0)) (F0 m 385 ls [])) : ∀ (y1 : Int32) (y2 : Int32) (y3 : Int32) (y4 : Int32) (y5 : Int32) (y6 : Int32) (y7 : Int32) (y10 : Int32) (y11 : Int32) (y14 : Int32) (y15 : Int32) (w1 : Int32) (S : mm_M) (H : Heap) (locs : List Loc) (ls : Array Slot), pf_X9_commit_419 G N k385 y1 y2 y3 y4 y5 y6 y7 y10 y11 y14 y15 w1 S = some z → lv_has ls 16 [(0, .ref b), (1, .int y1), (2, .int y2), (3, .int y3), (4, .int y4), (5, .int y5), (6, .int y6), (7, .int y7), (10, .int y10), (11, .int y11), (14, .int y14), (15, .int y15)] → mm_W D vwCl (mw_tys G) mw_aos s G b S0 S H locs → W p l e (headSpec wsX9_commit rmX9_commit).room s m args below meth c H locs 0 0 (MQ below (mm_Qi D vwCl (mw_tys G) mw_aos G b S0 z) args s 0 0 (mm_A b S0)) (F0 m 419 ls [.int w1, .ref b]) := by
  obtain ⟨hx, hb, hml, hown, hts, hr, hlocks⟩ := hC
  intro y1 y2 y3 y4 y5 y6 y7 y10 y11 y14 y15 w1 S H locs ls hf hl hw
  unfold pf_X9_commit_419 at hf
  obtain ⟨v1, S1, e1, hf⟩ := mw_bb hf
  refine mm_calli (va_runS (As := [.int w1]) (rest := [.ref b]) ⟨hx, hb, hml, hown, hts⟩ (cm_X9_zigzag l D G N b S0 S w1 (v1, S1) e1) (cwS 1 hts (mw_gS tw_879 tw_880 tw_11 tw_881) rfl rfl rfl (by decide +kernel) ⟨Nat.le_of_ble_eq_true rfl, Nat.le_of_ble_eq_true rfl⟩) (mm_preS hw) rfl rfl hl.1 rfl (lv_room (Nat.le_of_ble_eq_true rfl)) dX9_commit_419 ⟨(Nat.le_of_ble_eq_true rfl), (Nat.le_of_ble_eq_true rfl)⟩) hw (fun H locs hw => ?_)
  obtain ⟨S2, e2, hf⟩ := mw_b hf
  refine mm_callv (va_runV (As := [.int v1]) (rest := []) ⟨hx, hb, hml, hown, hts⟩ (cm_X9_variable l D G N b S0 S1 v1 S2 e2) (cwV 1 hts (mw_gV tw_882 tw_884 tp_19 tw_11 tw_885) rfl rfl rfl (by decide +kernel) ⟨Nat.le_of_ble_eq_true rfl, Nat.le_of_ble_eq_true rfl⟩) (mm_preV hw rfl) rfl rfl hl.1 rfl (lv_room (Nat.le_of_ble_eq_true rfl)) dX9_commit_422 ⟨(Nat.le_of_ble_eq_true rfl), (Nat.le_of_ble_eq_true rfl)⟩) hw (fun H locs hw => ?_)
  refine lv_iinc (k := 11) (v := (y15 + 1)) hx hb dX9_commit_425 hl rfl (congrArg (fun q => y15 + q) (show Int32.ofInt 1 = 1 by decide)) (by decide) rfl (fun ls hl => ?_)
  have hl : lv_has ls 16 [(15, .int (y15 + 1)), (0, .ref b), (1, .int y1), (2, .int y2), (3, .int y3), (4, .int y4), (5, .int y5), (6, .int y6), (7, .int y7), (10, .int y10), (11, .int y11), (14, .int y14)] := hl
  refine lv_goto hx hb dX9_commit_428 (tgt := 385) (by decide) ?_
  exact hk385 _ _ _ _ _ _ _ _ _ _ _ _ _ _ _ hf (lv_sub hl [1, 2, 3, 4, 5, 6, 7, 8, 9, 10, 11, 0] rfl) hw
set_option maxHeartbeats 4000000 in
set_option maxRecDepth 100000 in
theorem bX9_commit_385 {p : Program} {l : Launch} {e : Env} {s : State} {m : MethodId} {args : Array Value} {below : List Frame} {meth : Method} {c : Code} (hC : mw_C p s m args meth c cX9_commit RX9 (some .int) lw_good 16) (D : va_G) (G : Nat → ClassId) (N : Nat) {b : Nat} {S0 : mw_M} {z : Int32 × mm_M} : ∀ (n : Nat) (y1 : Int32) (y2 : Int32) (y3 : Int32) (y4 : Int32) (y5 : Int32) (y6 : Int32) (y7 : Int32) (y10 : Int32) (y11 : Int32) (y14 : Int32) (y15 : Int32) (S : mm_M) (H : Heap) (locs : List Loc) (ls : Array Slot), pf_X9_commit_385 G N n y1 y2 y3 y4 y5 y6 y7 y10 y11 y14 y15 S = some z → lv_has ls 16 [(0, .ref b), (1, .int y1), (2, .int y2), (3, .int y3), (4, .int y4), (5, .int y5), (6, .int y6), (7, .int y7), (10, .int y10), (11, .int y11), (14, .int y14), (15, .int y15)] → mm_W D vwCl (mw_tys G) mw_aos s G b S0 S H locs → W p l e (headSpec wsX9_commit rmX9_commit).room s m args below meth c H locs 0 0 (MQ below (mm_Qi D vwCl (mw_tys G) mw_aos G b S0 z) args s 0 0 (mm_A b S0)) (F0 m 385 ls []) := by
  obtain ⟨hx, hb, hml, hown, hts, hr, hlocks⟩ := hC
  intro n
  induction n with
  | zero => intro y1 y2 y3 y4 y5 y6 y7 y10 y11 y14 y15 S H locs ls hf; rw [pf_X9_commit_385] at hf; cases hf
  | succ n ih =>
    intro y1 y2 y3 y4 y5 y6 y7 y10 y11 y14 y15 S H locs ls hf hl hw
    rw [pf_X9_commit_385] at hf
    refine lv_iload hx hb dX9_commit_385 (lv_at hl 11 rfl) ?_
    refine lv_aload_n hx hb dX9_commit_387 rfl (lv_at hl 0 rfl) ?_
    refine mm_getr hx hb hts inX9 hown hw rfl 8 (by decide) (hts _ tw_731) rfl 1 (fun _ _ => rfl) dX9_commit_388 ?_
    refine lv_iload_n hx hb dX9_commit_391 rfl (lv_at hl 2 rfl) ?_
    obtain ⟨v1, e1, hf⟩ := mw_b hf
    refine mm_iald hx hb hw 1 (by decide) 0 rfl e1 dX9_commit_392 ?_
    refine lv_icmp_ge hx hb dX9_commit_393 (tgt := 431) (by decide) (fun hc => ?_) (fun hc => ?_)
    · rw [if_pos hc] at hf
      refine lv_iload hx hb dX9_commit_431 (lv_at hl 7 rfl) ?_
      refine lv_if_eq hx hb dX9_commit_433 (tgt := 469) (by decide) (fun hc => ?_) (fun hc => ?_)
      · rw [if_pos hc] at hf
        exact bX9_commit_469 ⟨hx, hb, hml, hown, hts, hr, hlocks⟩ D G N _ _ _ _ _ _ hf (lv_sub hl [0, 1, 10] rfl) hw
      · rw [if_neg hc] at hf
        refine lv_aload_n hx hb dX9_commit_436 rfl (lv_at hl 0 rfl) ?_
        refine lv_iload hx hb dX9_commit_437 (lv_at hl 9 rfl) ?_
        obtain ⟨S2, e2, hf⟩ := mw_b hf
        refine mm_callv (va_runV (As := [.int y11]) (rest := []) ⟨hx, hb, hml, hown, hts⟩ (cm_X9_variable l D G N b S0 S y11 S2 e2) (cwV 1 hts (mw_gV tw_882 tw_884 tp_19 tw_11 tw_885) rfl rfl rfl (by decide +kernel) ⟨Nat.le_of_ble_eq_true rfl, Nat.le_of_ble_eq_true rfl⟩) (mm_preV hw rfl) rfl rfl hl.1 rfl (lv_room (Nat.le_of_ble_eq_true rfl)) dX9_commit_439 ⟨(Nat.le_of_ble_eq_true rfl), (Nat.le_of_ble_eq_true rfl)⟩) hw (fun H locs hw => ?_)
        refine lv_aload_n hx hb dX9_commit_442 rfl (lv_at hl 0 rfl) ?_
        refine lv_iload hx hb dX9_commit_443 (lv_at hl 8 rfl) ?_
        refine lv_iload hx hb dX9_commit_445 (lv_at hl 6 rfl) ?_
        obtain ⟨S3, e3, hf⟩ := mw_b hf
        refine mm_callv (va_runV (As := [.int y10, .int y6]) (rest := []) ⟨hx, hb, hml, hown, hts⟩ (cm_X9_keepString l D G N b S0 S2 y10 y6 S3 e3) (cwV 2 hts (mw_gV tw_886 tw_888 tp_20 tw_11 tw_889) rfl rfl rfl (by decide +kernel) ⟨Nat.le_of_ble_eq_true rfl, Nat.le_of_ble_eq_true rfl⟩) (mm_preV hw rfl) rfl rfl hl.1 rfl (lv_room (Nat.le_of_ble_eq_true rfl)) dX9_commit_447 ⟨(Nat.le_of_ble_eq_true rfl), (Nat.le_of_ble_eq_true rfl)⟩) hw (fun H locs hw => ?_)
        refine lv_aload_n hx hb dX9_commit_450 rfl (lv_at hl 0 rfl) ?_
        refine mm_getr hx hb hts inX9 hown hw rfl 26 (by decide) (hts _ tw_749) rfl 15 (fun _ _ => rfl) dX9_commit_451 ?_
        refine lv_bipush (v := 6) hx hb dX9_commit_454 (by decide) ?_
        refine lv_aload_n hx hb dX9_commit_456 rfl (lv_at hl 0 rfl) ?_
        refine mm_getr hx hb hts inX9 hown hw rfl 26 (by decide) (hts _ tw_749) rfl 15 (fun _ _ => rfl) dX9_commit_457 ?_
        refine lv_bipush (v := 6) hx hb dX9_commit_460 (by decide) ?_
        obtain ⟨v4, e4, hf⟩ := mw_b hf
        refine mm_iald hx hb hw 15 (by decide) 0 rfl e4 dX9_commit_462 ?_
        refine lv_iconst (v := 1) hx hb dX9_commit_463 (by decide) ?_
        refine lv_iload hx hb dX9_commit_464 (lv_at hl 9 rfl) ?_
        refine lv_ishl hx hb dX9_commit_466 ?_
        refine lv_ior hx hb dX9_commit_467 ?_
        obtain ⟨S5, e5, hf⟩ := mw_b hf
        refine mm_iast hx hb hw 15 (by decide) 0 rfl e5 dX9_commit_468 (fun H locs hw => ?_)
        exact bX9_commit_469 ⟨hx, hb, hml, hown, hts, hr, hlocks⟩ D G N _ _ _ _ _ _ hf (lv_sub hl [0, 1, 10] rfl) hw
    · rw [if_neg hc] at hf
      refine lv_aload_n hx hb dX9_commit_396 rfl (lv_at hl 0 rfl) ?_
      refine lv_iload hx hb dX9_commit_397 (lv_at hl 11 rfl) ?_
      refine lv_if_ne hx hb dX9_commit_399 (tgt := 406) (by decide) (fun hc => ?_) (fun hc => ?_)
      · rw [if_pos hc] at hf
        refine lv_iload hx hb dX9_commit_406 (lv_at hl 11 rfl) ?_
        refine lv_iconst (v := 1) hx hb dX9_commit_408 (by decide) ?_
        refine lv_icmp_ne hx hb dX9_commit_409 (tgt := 417) (by decide) (fun hc => ?_) (fun hc => ?_)
        · rw [if_pos hc] at hf
          refine lv_iload hx hb dX9_commit_417 (lv_at hl 5 rfl) ?_
          exact bX9_commit_419 ⟨hx, hb, hml, hown, hts, hr, hlocks⟩ D G N (pf_X9_commit_385 G N n) ih _ _ _ _ _ _ _ _ _ _ _ _ _ _ _ _ hf (lv_sub hl [0, 1, 2, 3, 4, 5, 6, 7, 8, 9, 10, 11] rfl) hw
        · rw [if_neg (fun q => q hc)] at hf
          refine lv_iload hx hb dX9_commit_412 (lv_at hl 4 rfl) ?_
          refine lv_goto hx hb dX9_commit_414 (tgt := 419) (by decide) ?_
          exact bX9_commit_419 ⟨hx, hb, hml, hown, hts, hr, hlocks⟩ D G N (pf_X9_commit_385 G N n) ih _ _ _ _ _ _ _ _ _ _ _ _ _ _ _ _ hf (lv_sub hl [0, 1, 2, 3, 4, 5, 6, 7, 8, 9, 10, 11] rfl) hw
      · rw [if_neg (fun q => q hc)] at hf
        refine lv_iload_n hx hb dX9_commit_402 rfl (lv_at hl 3 rfl) ?_
        refine lv_goto hx hb dX9_commit_403 (tgt := 419) (by decide) ?_
        exact bX9_commit_419 ⟨hx, hb, hml, hown, hts, hr, hlocks⟩ D G N (pf_X9_commit_385 G N n) ih _ _ _ _ _ _ _ _ _ _ _ _ _ _ _ _ hf (lv_sub hl [0, 1, 2, 3, 4, 5, 6, 7, 8, 9, 10, 11] rfl) hw
set_option maxHeartbeats 4000000 in
set_option maxRecDepth 100000 in
theorem bX9_commit_349 {p : Program} {l : Launch} {e : Env} {s : State} {m : MethodId} {args : Array Value} {below : List Frame} {meth : Method} {c : Code} (hC : mw_C p s m args meth c cX9_commit RX9 (some .int) lw_good 16) (D : va_G) (G : Nat → ClassId) (N : Nat) {b : Nat} {S0 : mw_M} {z : Int32 × mm_M} : ∀ (y1 : Int32) (y2 : Int32) (y3 : Int32) (y4 : Int32) (y5 : Int32) (y6 : Int32) (y7 : Int32) (y8 : Int32) (y10 : Int32) (y11 : Int32) (y12 : Int32) (y14 : Int32) (S : mm_M) (H : Heap) (locs : List Loc) (ls : Array Slot), pf_X9_commit_349 G N y1 y2 y3 y4 y5 y6 y7 y8 y10 y11 y12 y14 S = some z → lv_has ls 16 [(0, .ref b), (1, .int y1), (2, .int y2), (3, .int y3), (4, .int y4), (5, .int y5), (6, .int y6), (7, .int y7), (8, .int y8), (10, .int y10), (11, .int y11), (12, .int y12), (14, .int y14)] → mm_W D vwCl (mw_tys G) mw_aos s G b S0 S H locs → W p l e (headSpec wsX9_commit rmX9_commit).room s m args below meth c H locs 0 0 (MQ below (mm_Qi D vwCl (mw_tys G) mw_aos G b S0 z) args s 0 0 (mm_A b S0)) (F0 m 349 ls []) := by
  obtain ⟨hx, hb, hml, hown, hts, hr, hlocks⟩ := hC
  intro y1 y2 y3 y4 y5 y6 y7 y8 y10 y11 y12 y14 S H locs ls hf hl hw
  unfold pf_X9_commit_349 at hf
  refine lv_aload_n hx hb dX9_commit_349 rfl (lv_at hl 0 rfl) ?_
  refine lv_iconst (v := 0) hx hb dX9_commit_350 (by decide) ?_
  obtain ⟨S1, e1, hf⟩ := mw_b hf
  refine mm_put hx hb hts inX9 tyX9 tyX9_ok nX9 hown hw rfl 38 (by decide) (hts _ tw_761) rfl rfl (by decide +kernel) (by decide) (mm_st38 _) e1 dX9_commit_351 (fun H locs hw => ?_)
  refine lv_aload_n hx hb dX9_commit_354 rfl (lv_at hl 0 rfl) ?_
  refine lv_iload hx hb dX9_commit_355 (lv_at hl 11 rfl) ?_
  obtain ⟨S2, e2, hf⟩ := mw_b hf
  refine mm_callv (va_runV (As := [.int y12]) (rest := []) ⟨hx, hb, hml, hown, hts⟩ (cm_X9_variable l D G N b S0 S1 y12 S2 e2) (cwV 1 hts (mw_gV tw_882 tw_884 tp_19 tw_11 tw_885) rfl rfl rfl (by decide +kernel) ⟨Nat.le_of_ble_eq_true rfl, Nat.le_of_ble_eq_true rfl⟩) (mm_preV hw rfl) rfl rfl hl.1 rfl (lv_room (Nat.le_of_ble_eq_true rfl)) dX9_commit_357 ⟨(Nat.le_of_ble_eq_true rfl), (Nat.le_of_ble_eq_true rfl)⟩) hw (fun H locs hw => ?_)
  refine lv_aload_n hx hb dX9_commit_360 rfl (lv_at hl 0 rfl) ?_
  refine lv_iload_n hx hb dX9_commit_361 rfl (lv_at hl 2 rfl) ?_
  obtain ⟨S3, e3, hf⟩ := mw_b hf
  refine mm_callv (va_runV (As := [.int y2]) (rest := []) ⟨hx, hb, hml, hown, hts⟩ (cm_X9_variable l D G N b S0 S2 y2 S3 e3) (cwV 1 hts (mw_gV tw_882 tw_884 tp_19 tw_11 tw_885) rfl rfl rfl (by decide +kernel) ⟨Nat.le_of_ble_eq_true rfl, Nat.le_of_ble_eq_true rfl⟩) (mm_preV hw rfl) rfl rfl hl.1 rfl (lv_room (Nat.le_of_ble_eq_true rfl)) dX9_commit_362 ⟨(Nat.le_of_ble_eq_true rfl), (Nat.le_of_ble_eq_true rfl)⟩) hw (fun H locs hw => ?_)
  refine lv_aload_n hx hb dX9_commit_365 rfl (lv_at hl 0 rfl) ?_
  refine lv_iload hx hb dX9_commit_366 (lv_at hl 8 rfl) ?_
  obtain ⟨S4, e4, hf⟩ := mw_b hf
  refine mm_callv (va_runV (As := [.int y8]) (rest := []) ⟨hx, hb, hml, hown, hts⟩ (cm_X9_variable l D G N b S0 S3 y8 S4 e4) (cwV 1 hts (mw_gV tw_882 tw_884 tp_19 tw_11 tw_885) rfl rfl rfl (by decide +kernel) ⟨Nat.le_of_ble_eq_true rfl, Nat.le_of_ble_eq_true rfl⟩) (mm_preV hw rfl) rfl rfl hl.1 rfl (lv_room (Nat.le_of_ble_eq_true rfl)) dX9_commit_368 ⟨(Nat.le_of_ble_eq_true rfl), (Nat.le_of_ble_eq_true rfl)⟩) hw (fun H locs hw => ?_)
  refine lv_aload_n hx hb dX9_commit_371 rfl (lv_at hl 0 rfl) ?_
  refine lv_aload_n hx hb dX9_commit_372 rfl (lv_at hl 0 rfl) ?_
  refine mm_geti hx hb hts inX9 hown hw rfl 3 (by decide) (hts _ tw_726) rfl (fun _ _ => rfl) dX9_commit_373 ?_
  refine lv_iload hx hb dX9_commit_376 (lv_at hl 8 rfl) ?_
  refine lv_isub hx hb dX9_commit_378 ?_
  obtain ⟨S5, e5, hf⟩ := mw_b hf
  refine mm_callv (va_runV (As := [.int ((S4.1 3) - y8)]) (rest := []) ⟨hx, hb, hml, hown, hts⟩ (cm_X9_variable l D G N b S0 S4 ((S4.1 3) - y8) S5 e5) (cwV 1 hts (mw_gV tw_882 tw_884 tp_19 tw_11 tw_885) rfl rfl rfl (by decide +kernel) ⟨Nat.le_of_ble_eq_true rfl, Nat.le_of_ble_eq_true rfl⟩) (mm_preV hw rfl) rfl rfl hl.1 rfl (lv_room (Nat.le_of_ble_eq_true rfl)) dX9_commit_379 ⟨(Nat.le_of_ble_eq_true rfl), (Nat.le_of_ble_eq_true rfl)⟩) hw (fun H locs hw => ?_)
  refine lv_iconst (v := 0) hx hb dX9_commit_382 (by decide) ?_
  refine lv_istore hx hb dX9_commit_383 hl (by decide) rfl (fun ls hl => ?_)
  have hl : lv_has ls 16 [(15, .int 0), (0, .ref b), (1, .int y1), (2, .int y2), (3, .int y3), (4, .int y4), (5, .int y5), (6, .int y6), (7, .int y7), (8, .int y8), (10, .int y10), (11, .int y11), (12, .int y12), (14, .int y14)] := hl
  exact bX9_commit_385 ⟨hx, hb, hml, hown, hts, hr, hlocks⟩ D G N N _ _ _ _ _ _ _ _ _ _ _ _ _ _ _ hf (lv_sub hl [1, 2, 3, 4, 5, 6, 7, 8, 10, 11, 13, 0] rfl) hw
set_option maxHeartbeats 4000000 in
set_option maxRecDepth 100000 in
theorem bX9_commit_302 {p : Program} {l : Launch} {e : Env} {s : State} {m : MethodId} {args : Array Value} {below : List Frame} {meth : Method} {c : Code} (hC : mw_C p s m args meth c cX9_commit RX9 (some .int) lw_good 16) (D : va_G) (G : Nat → ClassId) (N : Nat) {b : Nat} {S0 : mw_M} {z : Int32 × mm_M} : ∀ (y1 : Int32) (y2 : Int32) (y3 : Int32) (y4 : Int32) (y5 : Int32) (y6 : Int32) (y7 : Int32) (y8 : Int32) (y10 : Int32) (y11 : Int32) (y12 : Int32) (y13 : Int32) (y14 : Int32) (S : mm_M) (H : Heap) (locs : List Loc) (ls : Array Slot), pf_X9_commit_302 G N y1 y2 y3 y4 y5 y6 y7 y8 y10 y11 y12 y13 y14 S = some z → lv_has ls 16 [(0, .ref b), (1, .int y1), (2, .int y2), (3, .int y3), (4, .int y4), (5, .int y5), (6, .int y6), (7, .int y7), (8, .int y8), (10, .int y10), (11, .int y11), (12, .int y12), (13, .int y13), (14, .int y14)] → mm_W D vwCl (mw_tys G) mw_aos s G b S0 S H locs → W p l e (headSpec wsX9_commit rmX9_commit).room s m args below meth c H locs 0 0 (MQ below (mm_Qi D vwCl (mw_tys G) mw_aos G b S0 z) args s 0 0 (mm_A b S0)) (F0 m 302 ls []) := by
  obtain ⟨hx, hb, hml, hown, hts, hr, hlocks⟩ := hC
  intro y1 y2 y3 y4 y5 y6 y7 y8 y10 y11 y12 y13 y14 S H locs ls hf hl hw
  unfold pf_X9_commit_302 at hf
  refine lv_iload hx hb dX9_commit_302 (lv_at hl 12 rfl) ?_
  refine lv_aload_n hx hb dX9_commit_304 rfl (lv_at hl 0 rfl) ?_
  refine mm_geti hx hb hts inX9 hown hw rfl 0 (by decide) (hts _ tw_723) rfl (fun _ _ => rfl) dX9_commit_305 ?_
  refine lv_icmp_gt hx hb dX9_commit_308 (tgt := 327) (by decide) (fun hc => ?_) (fun hc => ?_)
  · rw [if_pos hc] at hf
    exact bX9_commit_327 ⟨hx, hb, hml, hown, hts, hr, hlocks⟩ D G N _ _ _ _ _ hf (lv_sub hl [0, 1] rfl) hw
  · rw [if_neg hc] at hf
    refine lv_iload hx hb dX9_commit_311 (lv_at hl 13 rfl) ?_
    refine lv_if_eq hx hb dX9_commit_313 (tgt := 349) (by decide) (fun hc => ?_) (fun hc => ?_)
    · rw [if_pos hc] at hf
      exact bX9_commit_349 ⟨hx, hb, hml, hown, hts, hr, hlocks⟩ D G N _ _ _ _ _ _ _ _ _ _ _ _ _ _ _ _ hf (lv_sub hl [0, 1, 2, 3, 4, 5, 6, 7, 8, 9, 10, 11, 13] rfl) hw
    · rw [if_neg hc] at hf
      refine lv_aload_n hx hb dX9_commit_316 rfl (lv_at hl 0 rfl) ?_
      refine mm_geti hx hb hts inX9 hown hw rfl 18 (by decide) (hts _ tw_741) rfl (fun _ _ => rfl) dX9_commit_317 ?_
      refine lv_aload_n hx hb dX9_commit_320 rfl (lv_at hl 0 rfl) ?_
      refine mm_geti hx hb hts inX9 hown hw rfl 1 (by decide) (hts _ tw_724) rfl (fun _ _ => rfl) dX9_commit_321 ?_
      refine lv_icmp_ne hx hb dX9_commit_324 (tgt := 349) (by decide) (fun hc => ?_) (fun hc => ?_)
      · rw [if_pos hc] at hf
        exact bX9_commit_349 ⟨hx, hb, hml, hown, hts, hr, hlocks⟩ D G N _ _ _ _ _ _ _ _ _ _ _ _ _ _ _ _ hf (lv_sub hl [0, 1, 2, 3, 4, 5, 6, 7, 8, 9, 10, 11, 13] rfl) hw
      · rw [if_neg (fun q => q hc)] at hf
        exact bX9_commit_327 ⟨hx, hb, hml, hown, hts, hr, hlocks⟩ D G N _ _ _ _ _ hf (lv_sub hl [0, 1] rfl) hw
set_option maxHeartbeats 4000000 in
set_option maxRecDepth 100000 in
theorem bX9_commit_286 {p : Program} {l : Launch} {e : Env} {s : State} {m : MethodId} {args : Array Value} {below : List Frame} {meth : Method} {c : Code} (hC : mw_C p s m args meth c cX9_commit RX9 (some .int) lw_good 16) (D : va_G) (G : Nat → ClassId) (N : Nat) {b : Nat} {S0 : mw_M} {z : Int32 × mm_M} : ∀ (y1 : Int32) (y2 : Int32) (y3 : Int32) (y4 : Int32) (y5 : Int32) (y6 : Int32) (y7 : Int32) (y8 : Int32) (y10 : Int32) (y11 : Int32) (y12 : Int32) (y13 : Int32) (w0 : Int32) (S : mm_M) (H : Heap) (locs : List Loc) (ls : Array Slot), pf_X9_commit_286 G N y1 y2 y3 y4 y5 y6 y7 y8 y10 y11 y12 y13 w0 S = some z → lv_has ls 16 [(0, .ref b), (1, .int y1), (2, .int y2), (3, .int y3), (4, .int y4), (5, .int y5), (6, .int y6), (7, .int y7), (8, .int y8), (10, .int y10), (11, .int y11), (12, .int y12), (13, .int y13)] → mm_W D vwCl (mw_tys G) mw_aos s G b S0 S H locs → W p l e (headSpec wsX9_commit rmX9_commit).room s m args below meth c H locs 0 0 (MQ below (mm_Qi D vwCl (mw_tys G) mw_aos G b S0 z) args s 0 0 (mm_A b S0)) (F0 m 286 ls [.int w0]) := by
  obtain ⟨hx, hb, hml, hown, hts, hr, hlocks⟩ := hC
  intro y1 y2 y3 y4 y5 y6 y7 y8 y10 y11 y12 y13 w0 S H locs ls hf hl hw
  unfold pf_X9_commit_286 at hf
  refine lv_istore hx hb dX9_commit_286 hl (by decide) rfl (fun ls hl => ?_)
  have hl : lv_has ls 16 [(14, .int w0), (0, .ref b), (1, .int y1), (2, .int y2), (3, .int y3), (4, .int y4), (5, .int y5), (6, .int y6), (7, .int y7), (8, .int y8), (10, .int y10), (11, .int y11), (12, .int y12), (13, .int y13)] := hl
  refine lv_iload hx hb dX9_commit_288 (lv_at hl 10 rfl) ?_
  refine lv_if_ge hx hb dX9_commit_290 (tgt := 302) (by decide) (fun hc => ?_) (fun hc => ?_)
  · rw [if_pos hc] at hf
    exact bX9_commit_302 ⟨hx, hb, hml, hown, hts, hr, hlocks⟩ D G N _ _ _ _ _ _ _ _ _ _ _ _ _ _ _ _ _ hf (lv_sub hl [1, 2, 3, 4, 5, 6, 7, 8, 9, 10, 11, 12, 13, 0] rfl) hw
  · rw [if_neg hc] at hf
    refine lv_aload_n hx hb dX9_commit_293 rfl (lv_at hl 1 rfl) ?_
    refine mm_geti hx hb hts inX9 hown hw rfl 10 (by decide) (hts _ tw_733) rfl (fun _ _ => rfl) dX9_commit_294 ?_
    refine lv_bipush (v := 24) hx hb dX9_commit_297 (by decide) ?_
    refine lv_icmp_eq hx hb dX9_commit_299 (tgt := 327) (by decide) (fun hc => ?_) (fun hc => ?_)
    · rw [if_pos hc] at hf
      exact bX9_commit_327 ⟨hx, hb, hml, hown, hts, hr, hlocks⟩ D G N _ _ _ _ _ hf (lv_sub hl [1, 2] rfl) hw
    · rw [if_neg hc] at hf
      exact bX9_commit_302 ⟨hx, hb, hml, hown, hts, hr, hlocks⟩ D G N _ _ _ _ _ _ _ _ _ _ _ _ _ _ _ _ _ hf (lv_sub hl [1, 2, 3, 4, 5, 6, 7, 8, 9, 10, 11, 12, 13, 0] rfl) hw
set_option maxHeartbeats 4000000 in
set_option maxRecDepth 100000 in
theorem bX9_commit_240 {p : Program} {l : Launch} {e : Env} {s : State} {m : MethodId} {args : Array Value} {below : List Frame} {meth : Method} {c : Code} (hC : mw_C p s m args meth c cX9_commit RX9 (some .int) lw_good 16) (D : va_G) (G : Nat → ClassId) (N : Nat) {b : Nat} {S0 : mw_M} {z : Int32 × mm_M} (k205 : Int32 → Int32 → Int32 → Int32 → Int32 → Int32 → Int32 → Int32 → Int32 → Int32 → Int32 → Int32 → mm_M → Option (Int32 × mm_M)) (hk205 : ∀ (y1 : Int32) (y2 : Int32) (y3 : Int32) (y4 : Int32) (y5 : Int32) (y6 : Int32) (y7 : Int32) (y8 : Int32) (y10 : Int32) (y11 : Int32) (y12 : Int32) (y13 : Int32) (S : mm_M) (H : Heap) (locs : List Loc) (ls : Array Slot), k205 y1 y2 y3 y4 y5 y6 y7 y8 y10 y11 y12 y13 S = some z → lv_has ls 16 [(0, .ref b), (1, .int y1), (2, .int y2), (3, .int y3), (4, .int y4), (5, .int y5), (6, .int y6), (7, .int y7), (8, .int y8), (10, .int y10), (11, .int y11), (12, .int y12), (13, .int y13)] → mm_W D vwCl (mw_tys G) mw_aos s G b S0 S H locs → W p l e (headSpec wsX9_commit rmX9_commit).room s m args below meth c H locs 0 0 (MQ below (mm_Qi D vwCl (mw_tys G) mw_aos G b S0 z) args s 0 0 (mm_A b S0)) (F0 m 205 ls [])) : ∀ (y1 : Int32) (y2 : Int32) (y3 : Int32) (y4 : Int32) (y5 : Int32) (y6 : Int32) (y7 : Int32) (y8 : Int32) (y10 : Int32) (y11 : Int32) (y13 : Int32) (w0 : Int32) (w1 : Int32) (S : mm_M) (H : Heap) (locs : List Loc) (ls : Array Slot), pf_X9_commit_240 G N k205 y1 y2 y3 y4 y5 y6 y7 y8 y10 y11 y13 w0 w1 S = some z → lv_has ls 16 [(0, .ref b), (1, .int y1), (2, .int y2), (3, .int y3), (4, .int y4), (5, .int y5), (6, .int y6), (7, .int y7), (8, .int y8), (10, .int y10), (11, .int y11), (13, .int y13)] → mm_W D vwCl (mw_tys G) mw_aos s G b S0 S H locs → W p l e (headSpec wsX9_commit rmX9_commit).room s m args below meth c H locs 0 0 (MQ below (mm_Qi D vwCl (mw_tys G) mw_aos G b S0 z) args s 0 0 (mm_A b S0)) (F0 m 240 ls [.int w1, .int w0]) := by
  obtain ⟨hx, hb, hml, hown, hts, hr, hlocks⟩ := hC
  intro y1 y2 y3 y4 y5 y6 y7 y8 y10 y11 y13 w0 w1 S H locs ls hf hl hw
  unfold pf_X9_commit_240 at hf
  obtain ⟨v1, S1, e1, hf⟩ := mw_bb hf
  refine mm_calli (va_runS (As := [.int w1]) (rest := [.int w0]) ⟨hx, hb, hml, hown, hts⟩ (cm_X9_zigzag l D G N b S0 S w1 (v1, S1) e1) (cwS 1 hts (mw_gS tw_879 tw_880 tw_11 tw_881) rfl rfl rfl (by decide +kernel) ⟨Nat.le_of_ble_eq_true rfl, Nat.le_of_ble_eq_true rfl⟩) (mm_preS hw) rfl rfl hl.1 rfl (lv_room (Nat.le_of_ble_eq_true rfl)) dX9_commit_240 ⟨(Nat.le_of_ble_eq_true rfl), (Nat.le_of_ble_eq_true rfl)⟩) hw (fun H locs hw => ?_)
  obtain ⟨v2, S2, e2, hf⟩ := mw_bb hf
  refine mm_calli (va_runS (As := [.int v1]) (rest := [.int w0]) ⟨hx, hb, hml, hown, hts⟩ (cm_X9_width l D G N b S0 S1 v1 (v2, S2) e2) (cwS 1 hts (mw_gS tw_876 tw_877 tw_11 tw_878) rfl rfl rfl (by decide +kernel) ⟨Nat.le_of_ble_eq_true rfl, Nat.le_of_ble_eq_true rfl⟩) (mm_preS hw) rfl rfl hl.1 rfl (lv_room (Nat.le_of_ble_eq_true rfl)) dX9_commit_243 ⟨(Nat.le_of_ble_eq_true rfl), (Nat.le_of_ble_eq_true rfl)⟩) hw (fun H locs hw => ?_)
  refine lv_iadd hx hb dX9_commit_246 ?_
  refine lv_istore hx hb dX9_commit_247 hl (by decide) rfl (fun ls hl => ?_)
  have hl : lv_has ls 16 [(12, .int (w0 + v2)), (0, .ref b), (1, .int y1), (2, .int y2), (3, .int y3), (4, .int y4), (5, .int y5), (6, .int y6), (7, .int y7), (8, .int y8), (10, .int y10), (11, .int y11), (13, .int y13)] := hl
  refine lv_iinc (k := 12) (v := (y13 + 1)) hx hb dX9_commit_249 hl rfl (congrArg (fun q => y13 + q) (show Int32.ofInt 1 = 1 by decide)) (by decide) rfl (fun ls hl => ?_)
  have hl : lv_has ls 16 [(13, .int (y13 + 1)), (12, .int (w0 + v2)), (0, .ref b), (1, .int y1), (2, .int y2), (3, .int y3), (4, .int y4), (5, .int y5), (6, .int y6), (7, .int y7), (8, .int y8), (10, .int y10), (11, .int y11)] := hl
  refine lv_goto hx hb dX9_commit_252 (tgt := 205) (by decide) ?_
  exact hk205 _ _ _ _ _ _ _ _ _ _ _ _ _ _ _ _ hf (lv_sub hl [2, 3, 4, 5, 6, 7, 8, 9, 10, 11, 12, 1, 0] rfl) hw
set_option maxHeartbeats 4000000 in
set_option maxRecDepth 100000 in
theorem bX9_commit_205 {p : Program} {l : Launch} {e : Env} {s : State} {m : MethodId} {args : Array Value} {below : List Frame} {meth : Method} {c : Code} (hC : mw_C p s m args meth c cX9_commit RX9 (some .int) lw_good 16) (D : va_G) (G : Nat → ClassId) (N : Nat) {b : Nat} {S0 : mw_M} {z : Int32 × mm_M} : ∀ (n : Nat) (y1 : Int32) (y2 : Int32) (y3 : Int32) (y4 : Int32) (y5 : Int32) (y6 : Int32) (y7 : Int32) (y8 : Int32) (y10 : Int32) (y11 : Int32) (y12 : Int32) (y13 : Int32) (S : mm_M) (H : Heap) (locs : List Loc) (ls : Array Slot), pf_X9_commit_205 G N n y1 y2 y3 y4 y5 y6 y7 y8 y10 y11 y12 y13 S = some z → lv_has ls 16 [(0, .ref b), (1, .int y1), (2, .int y2), (3, .int y3), (4, .int y4), (5, .int y5), (6, .int y6), (7, .int y7), (8, .int y8), (10, .int y10), (11, .int y11), (12, .int y12), (13, .int y13)] → mm_W D vwCl (mw_tys G) mw_aos s G b S0 S H locs → W p l e (headSpec wsX9_commit rmX9_commit).room s m args below meth c H locs 0 0 (MQ below (mm_Qi D vwCl (mw_tys G) mw_aos G b S0 z) args s 0 0 (mm_A b S0)) (F0 m 205 ls []) := by
  obtain ⟨hx, hb, hml, hown, hts, hr, hlocks⟩ := hC
  intro n
  induction n with
  | zero => intro y1 y2 y3 y4 y5 y6 y7 y8 y10 y11 y12 y13 S H locs ls hf; rw [pf_X9_commit_205] at hf; cases hf
  | succ n ih =>
    intro y1 y2 y3 y4 y5 y6 y7 y8 y10 y11 y12 y13 S H locs ls hf hl hw
    rw [pf_X9_commit_205] at hf
    refine lv_iload hx hb dX9_commit_205 (lv_at hl 12 rfl) ?_
    refine lv_aload_n hx hb dX9_commit_207 rfl (lv_at hl 0 rfl) ?_
    refine mm_getr hx hb hts inX9 hown hw rfl 8 (by decide) (hts _ tw_731) rfl 1 (fun _ _ => rfl) dX9_commit_208 ?_
    refine lv_iload_n hx hb dX9_commit_211 rfl (lv_at hl 2 rfl) ?_
    obtain ⟨v1, e1, hf⟩ := mw_b hf
    refine mm_iald hx hb hw 1 (by decide) 0 rfl e1 dX9_commit_212 ?_
    refine lv_icmp_ge hx hb dX9_commit_213 (tgt := 255) (by decide) (fun hc => ?_) (fun hc => ?_)
    · rw [if_pos hc] at hf
      refine lv_iload hx hb dX9_commit_255 (lv_at hl 11 rfl) ?_
      obtain ⟨v2, S2, e2, hf⟩ := mw_bb hf
      refine mm_calli (va_runS (As := [.int y12]) (rest := []) ⟨hx, hb, hml, hown, hts⟩ (cm_X9_width l D G N b S0 S y12 (v2, S2) e2) (cwS 1 hts (mw_gS tw_876 tw_877 tw_11 tw_878) rfl rfl rfl (by decide +kernel) ⟨Nat.le_of_ble_eq_true rfl, Nat.le_of_ble_eq_true rfl⟩) (mm_preS hw) rfl rfl hl.1 rfl (lv_room (Nat.le_of_ble_eq_true rfl)) dX9_commit_257 ⟨(Nat.le_of_ble_eq_true rfl), (Nat.le_of_ble_eq_true rfl)⟩) hw (fun H locs hw => ?_)
      refine lv_iload hx hb dX9_commit_260 (lv_at hl 11 rfl) ?_
      refine lv_iadd hx hb dX9_commit_262 ?_
      refine lv_istore hx hb dX9_commit_263 hl (by decide) rfl (fun ls hl => ?_)
      have hl : lv_has ls 16 [(13, .int (v2 + y12)), (0, .ref b), (1, .int y1), (2, .int y2), (3, .int y3), (4, .int y4), (5, .int y5), (6, .int y6), (7, .int y7), (8, .int y8), (10, .int y10), (11, .int y11), (12, .int y12)] := hl
      refine lv_aload_n hx hb dX9_commit_265 rfl (lv_at hl 1 rfl) ?_
      refine mm_getr hx hb hts inX9 hown hw rfl 16 (by decide) (hts _ tw_739) rfl 8 (fun _ _ => rfl) dX9_commit_266 ?_
      refine lv_iload_n hx hb dX9_commit_269 rfl (lv_at hl 2 rfl) ?_
      obtain ⟨v3, e3, hf⟩ := mw_b hf
      refine mm_iald hx hb hw 8 (by decide) 0 rfl e3 dX9_commit_270 ?_
      refine lv_iload hx hb dX9_commit_271 (lv_at hl 0 rfl) ?_
      refine lv_iadd hx hb dX9_commit_273 ?_
      refine lv_aload_n hx hb dX9_commit_274 rfl (lv_at hl 1 rfl) ?_
      refine mm_geti hx hb hts inX9 hown hw rfl 0 (by decide) (hts _ tw_723) rfl (fun _ _ => rfl) dX9_commit_275 ?_
      refine lv_icmp_le hx hb dX9_commit_278 (tgt := 285) (by decide) (fun hc => ?_) (fun hc => ?_)
      · rw [if_pos hc] at hf
        refine lv_iconst (v := 0) hx hb dX9_commit_285 (by decide) ?_
        exact bX9_commit_286 ⟨hx, hb, hml, hown, hts, hr, hlocks⟩ D G N _ _ _ _ _ _ _ _ _ _ _ _ _ _ _ _ _ hf (lv_sub hl [1, 2, 3, 4, 5, 6, 7, 8, 9, 10, 11, 12, 0] rfl) hw
      · rw [if_neg hc] at hf
        refine lv_iconst (v := 1) hx hb dX9_commit_281 (by decide) ?_
        refine lv_goto hx hb dX9_commit_282 (tgt := 286) (by decide) ?_
        exact bX9_commit_286 ⟨hx, hb, hml, hown, hts, hr, hlocks⟩ D G N _ _ _ _ _ _ _ _ _ _ _ _ _ _ _ _ _ hf (lv_sub hl [1, 2, 3, 4, 5, 6, 7, 8, 9, 10, 11, 12, 0] rfl) hw
    · rw [if_neg hc] at hf
      refine lv_iload hx hb dX9_commit_216 (lv_at hl 11 rfl) ?_
      refine lv_iload hx hb dX9_commit_218 (lv_at hl 12 rfl) ?_
      refine lv_if_ne hx hb dX9_commit_220 (tgt := 227) (by decide) (fun hc => ?_) (fun hc => ?_)
      · rw [if_pos hc] at hf
        refine lv_iload hx hb dX9_commit_227 (lv_at hl 12 rfl) ?_
        refine lv_iconst (v := 1) hx hb dX9_commit_229 (by decide) ?_
        refine lv_icmp_ne hx hb dX9_commit_230 (tgt := 238) (by decide) (fun hc => ?_) (fun hc => ?_)
        · rw [if_pos hc] at hf
          refine lv_iload hx hb dX9_commit_238 (lv_at hl 5 rfl) ?_
          exact bX9_commit_240 ⟨hx, hb, hml, hown, hts, hr, hlocks⟩ D G N (pf_X9_commit_205 G N n) ih _ _ _ _ _ _ _ _ _ _ _ _ _ _ _ _ _ hf (lv_sub hl [0, 1, 2, 3, 4, 5, 6, 7, 8, 9, 10, 12] rfl) hw
        · rw [if_neg (fun q => q hc)] at hf
          refine lv_iload hx hb dX9_commit_233 (lv_at hl 4 rfl) ?_
          refine lv_goto hx hb dX9_commit_235 (tgt := 240) (by decide) ?_
          exact bX9_commit_240 ⟨hx, hb, hml, hown, hts, hr, hlocks⟩ D G N (pf_X9_commit_205 G N n) ih _ _ _ _ _ _ _ _ _ _ _ _ _ _ _ _ _ hf (lv_sub hl [0, 1, 2, 3, 4, 5, 6, 7, 8, 9, 10, 12] rfl) hw
      · rw [if_neg (fun q => q hc)] at hf
        refine lv_iload_n hx hb dX9_commit_223 rfl (lv_at hl 3 rfl) ?_
        refine lv_goto hx hb dX9_commit_224 (tgt := 240) (by decide) ?_
        exact bX9_commit_240 ⟨hx, hb, hml, hown, hts, hr, hlocks⟩ D G N (pf_X9_commit_205 G N n) ih _ _ _ _ _ _ _ _ _ _ _ _ _ _ _ _ _ hf (lv_sub hl [0, 1, 2, 3, 4, 5, 6, 7, 8, 9, 10, 12] rfl) hw
set_option maxHeartbeats 4000000 in
set_option maxRecDepth 100000 in
theorem bX9_commit_162 {p : Program} {l : Launch} {e : Env} {s : State} {m : MethodId} {args : Array Value} {below : List Frame} {meth : Method} {c : Code} (hC : mw_C p s m args meth c cX9_commit RX9 (some .int) lw_good 16) (D : va_G) (G : Nat → ClassId) (N : Nat) {b : Nat} {S0 : mw_M} {z : Int32 × mm_M} : ∀ (y1 : Int32) (y2 : Int32) (y3 : Int32) (y4 : Int32) (y5 : Int32) (y6 : Int32) (y7 : Int32) (y8 : Int32) (y10 : Int32) (w0 : Int32) (S : mm_M) (H : Heap) (locs : List Loc) (ls : Array Slot), pf_X9_commit_162 G N y1 y2 y3 y4 y5 y6 y7 y8 y10 w0 S = some z → lv_has ls 16 [(0, .ref b), (1, .int y1), (2, .int y2), (3, .int y3), (4, .int y4), (5, .int y5), (6, .int y6), (7, .int y7), (8, .int y8), (10, .int y10)] → mm_W D vwCl (mw_tys G) mw_aos s G b S0 S H locs → W p l e (headSpec wsX9_commit rmX9_commit).room s m args below meth c H locs 0 0 (MQ below (mm_Qi D vwCl (mw_tys G) mw_aos G b S0 z) args s 0 0 (mm_A b S0)) (F0 m 162 ls [.int w0]) := by
  obtain ⟨hx, hb, hml, hown, hts, hr, hlocks⟩ := hC
  intro y1 y2 y3 y4 y5 y6 y7 y8 y10 w0 S H locs ls hf hl hw
  unfold pf_X9_commit_162 at hf
  refine lv_istore hx hb dX9_commit_162 hl (by decide) rfl (fun ls hl => ?_)
  have hl : lv_has ls 16 [(11, .int w0), (0, .ref b), (1, .int y1), (2, .int y2), (3, .int y3), (4, .int y4), (5, .int y5), (6, .int y6), (7, .int y7), (8, .int y8), (10, .int y10)] := hl
  refine lv_iload_n hx hb dX9_commit_164 rfl (lv_at hl 3 rfl) ?_
  obtain ⟨v1, S1, e1, hf⟩ := mw_bb hf
  refine mm_calli (va_runS (As := [.int y2]) (rest := []) ⟨hx, hb, hml, hown, hts⟩ (cm_X9_width l D G N b S0 S y2 (v1, S1) e1) (cwS 1 hts (mw_gS tw_876 tw_877 tw_11 tw_878) rfl rfl rfl (by decide +kernel) ⟨Nat.le_of_ble_eq_true rfl, Nat.le_of_ble_eq_true rfl⟩) (mm_preS hw) rfl rfl hl.1 rfl (lv_room (Nat.le_of_ble_eq_true rfl)) dX9_commit_165 ⟨(Nat.le_of_ble_eq_true rfl), (Nat.le_of_ble_eq_true rfl)⟩) hw (fun H locs hw => ?_)
  refine lv_iload hx hb dX9_commit_168 (lv_at hl 9 rfl) ?_
  obtain ⟨v2, S2, e2, hf⟩ := mw_bb hf
  refine mm_calli (va_runS (As := [.int y8]) (rest := [.int v1]) ⟨hx, hb, hml, hown, hts⟩ (cm_X9_width l D G N b S0 S1 y8 (v2, S2) e2) (cwS 1 hts (mw_gS tw_876 tw_877 tw_11 tw_878) rfl rfl rfl (by decide +kernel) ⟨Nat.le_of_ble_eq_true rfl, Nat.le_of_ble_eq_true rfl⟩) (mm_preS hw) rfl rfl hl.1 rfl (lv_room (Nat.le_of_ble_eq_true rfl)) dX9_commit_170 ⟨(Nat.le_of_ble_eq_true rfl), (Nat.le_of_ble_eq_true rfl)⟩) hw (fun H locs hw => ?_)
  refine lv_iadd hx hb dX9_commit_173 ?_
  refine lv_aload_n hx hb dX9_commit_174 rfl (lv_at hl 1 rfl) ?_
  refine mm_geti hx hb hts inX9 hown hw rfl 3 (by decide) (hts _ tw_726) rfl (fun _ _ => rfl) dX9_commit_175 ?_
  refine lv_iload hx hb dX9_commit_178 (lv_at hl 9 rfl) ?_
  refine lv_isub hx hb dX9_commit_180 ?_
  obtain ⟨v3, S3, e3, hf⟩ := mw_bb hf
  refine mm_calli (va_runS (As := [.int ((S2.1 3) - y8)]) (rest := [.int (v1 + v2)]) ⟨hx, hb, hml, hown, hts⟩ (cm_X9_width l D G N b S0 S2 ((S2.1 3) - y8) (v3, S3) e3) (cwS 1 hts (mw_gS tw_876 tw_877 tw_11 tw_878) rfl rfl rfl (by decide +kernel) ⟨Nat.le_of_ble_eq_true rfl, Nat.le_of_ble_eq_true rfl⟩) (mm_preS hw) rfl rfl hl.1 rfl (lv_room (Nat.le_of_ble_eq_true rfl)) dX9_commit_181 ⟨(Nat.le_of_ble_eq_true rfl), (Nat.le_of_ble_eq_true rfl)⟩) hw (fun H locs hw => ?_)
  refine lv_iadd hx hb dX9_commit_184 ?_
  refine lv_iload hx hb dX9_commit_185 (lv_at hl 8 rfl) ?_
  refine lv_if_eq hx hb dX9_commit_187 (tgt := 198) (by decide) (fun hc => ?_) (fun hc => ?_)
  · rw [if_pos hc] at hf
    refine lv_iconst (v := 0) hx hb dX9_commit_198 (by decide) ?_
    refine lv_iadd hx hb dX9_commit_199 ?_
    refine lv_istore hx hb dX9_commit_200 hl (by decide) rfl (fun ls hl => ?_)
    have hl : lv_has ls 16 [(12, .int (((v1 + v2) + v3) + 0)), (11, .int w0), (0, .ref b), (1, .int y1), (2, .int y2), (3, .int y3), (4, .int y4), (5, .int y5), (6, .int y6), (7, .int y7), (8, .int y8), (10, .int y10)] := hl
    refine lv_iconst (v := 0) hx hb dX9_commit_202 (by decide) ?_
    refine lv_istore hx hb dX9_commit_203 hl (by decide) rfl (fun ls hl => ?_)
    have hl : lv_has ls 16 [(13, .int 0), (12, .int (((v1 + v2) + v3) + 0)), (11, .int w0), (0, .ref b), (1, .int y1), (2, .int y2), (3, .int y3), (4, .int y4), (5, .int y5), (6, .int y6), (7, .int y7), (8, .int y8), (10, .int y10)] := hl
    exact bX9_commit_205 ⟨hx, hb, hml, hown, hts, hr, hlocks⟩ D G N N _ _ _ _ _ _ _ _ _ _ _ _ _ _ _ _ hf (lv_sub hl [3, 4, 5, 6, 7, 8, 9, 10, 11, 12, 2, 1, 0] rfl) hw
  · rw [if_neg hc] at hf
    refine lv_iload hx hb dX9_commit_190 (lv_at hl 0 rfl) ?_
    obtain ⟨v4, S4, e4, hf⟩ := mw_bb hf
    refine mm_calli (va_runS (As := [.int w0]) (rest := [.int ((v1 + v2) + v3)]) ⟨hx, hb, hml, hown, hts⟩ (cm_X9_width l D G N b S0 S3 w0 (v4, S4) e4) (cwS 1 hts (mw_gS tw_876 tw_877 tw_11 tw_878) rfl rfl rfl (by decide +kernel) ⟨Nat.le_of_ble_eq_true rfl, Nat.le_of_ble_eq_true rfl⟩) (mm_preS hw) rfl rfl hl.1 rfl (lv_room (Nat.le_of_ble_eq_true rfl)) dX9_commit_192 ⟨(Nat.le_of_ble_eq_true rfl), (Nat.le_of_ble_eq_true rfl)⟩) hw (fun H locs hw => ?_)
    refine lv_goto hx hb dX9_commit_195 (tgt := 199) (by decide) ?_
    refine lv_iadd hx hb dX9_commit_199 ?_
    refine lv_istore hx hb dX9_commit_200 hl (by decide) rfl (fun ls hl => ?_)
    have hl : lv_has ls 16 [(12, .int (((v1 + v2) + v3) + v4)), (11, .int w0), (0, .ref b), (1, .int y1), (2, .int y2), (3, .int y3), (4, .int y4), (5, .int y5), (6, .int y6), (7, .int y7), (8, .int y8), (10, .int y10)] := hl
    refine lv_iconst (v := 0) hx hb dX9_commit_202 (by decide) ?_
    refine lv_istore hx hb dX9_commit_203 hl (by decide) rfl (fun ls hl => ?_)
    have hl : lv_has ls 16 [(13, .int 0), (12, .int (((v1 + v2) + v3) + v4)), (11, .int w0), (0, .ref b), (1, .int y1), (2, .int y2), (3, .int y3), (4, .int y4), (5, .int y5), (6, .int y6), (7, .int y7), (8, .int y8), (10, .int y10)] := hl
    exact bX9_commit_205 ⟨hx, hb, hml, hown, hts, hr, hlocks⟩ D G N N _ _ _ _ _ _ _ _ _ _ _ _ _ _ _ _ hf (lv_sub hl [3, 4, 5, 6, 7, 8, 9, 10, 11, 12, 2, 1, 0] rfl) hw
set_option maxHeartbeats 4000000 in
set_option maxRecDepth 100000 in
theorem bX9_commit_146 {p : Program} {l : Launch} {e : Env} {s : State} {m : MethodId} {args : Array Value} {below : List Frame} {meth : Method} {c : Code} (hC : mw_C p s m args meth c cX9_commit RX9 (some .int) lw_good 16) (D : va_G) (G : Nat → ClassId) (N : Nat) {b : Nat} {S0 : mw_M} {z : Int32 × mm_M} : ∀ (y1 : Int32) (y2 : Int32) (y3 : Int32) (y4 : Int32) (y5 : Int32) (y6 : Int32) (y7 : Int32) (y8 : Int32) (w0 : Int32) (S : mm_M) (H : Heap) (locs : List Loc) (ls : Array Slot), pf_X9_commit_146 G N y1 y2 y3 y4 y5 y6 y7 y8 w0 S = some z → lv_has ls 16 [(0, .ref b), (1, .int y1), (2, .int y2), (3, .int y3), (4, .int y4), (5, .int y5), (6, .int y6), (7, .int y7), (8, .int y8)] → mm_W D vwCl (mw_tys G) mw_aos s G b S0 S H locs → W p l e (headSpec wsX9_commit rmX9_commit).room s m args below meth c H locs 0 0 (MQ below (mm_Qi D vwCl (mw_tys G) mw_aos G b S0 z) args s 0 0 (mm_A b S0)) (F0 m 146 ls [.int w0]) := by
  obtain ⟨hx, hb, hml, hown, hts, hr, hlocks⟩ := hC
  intro y1 y2 y3 y4 y5 y6 y7 y8 w0 S H locs ls hf hl hw
  unfold pf_X9_commit_146 at hf
  refine lv_istore hx hb dX9_commit_146 hl (by decide) rfl (fun ls hl => ?_)
  have hl : lv_has ls 16 [(10, .int w0), (0, .ref b), (1, .int y1), (2, .int y2), (3, .int y3), (4, .int y4), (5, .int y5), (6, .int y6), (7, .int y7), (8, .int y8)] := hl
  refine lv_iload hx hb dX9_commit_148 (lv_at hl 0 rfl) ?_
  refine lv_if_ge hx hb dX9_commit_150 (tgt := 160) (by decide) (fun hc => ?_) (fun hc => ?_)
  · rw [if_pos hc] at hf
    refine lv_iload hx hb dX9_commit_160 (lv_at hl 0 rfl) ?_
    exact bX9_commit_162 ⟨hx, hb, hml, hown, hts, hr, hlocks⟩ D G N _ _ _ _ _ _ _ _ _ _ _ _ _ _ hf (lv_sub hl [1, 2, 3, 4, 5, 6, 7, 8, 9, 0] rfl) hw
  · rw [if_neg hc] at hf
    refine lv_aload_n hx hb dX9_commit_153 rfl (lv_at hl 1 rfl) ?_
    refine mm_geti hx hb hts inX9 hown hw rfl 10 (by decide) (hts _ tw_733) rfl (fun _ _ => rfl) dX9_commit_154 ?_
    refine lv_goto hx hb dX9_commit_157 (tgt := 162) (by decide) ?_
    exact bX9_commit_162 ⟨hx, hb, hml, hown, hts, hr, hlocks⟩ D G N _ _ _ _ _ _ _ _ _ _ _ _ _ _ hf (lv_sub hl [1, 2, 3, 4, 5, 6, 7, 8, 9, 0] rfl) hw
set_option maxHeartbeats 4000000 in
set_option maxRecDepth 100000 in
theorem bX9_commit_68 {p : Program} {l : Launch} {e : Env} {s : State} {m : MethodId} {args : Array Value} {below : List Frame} {meth : Method} {c : Code} (hC : mw_C p s m args meth c cX9_commit RX9 (some .int) lw_good 16) (D : va_G) (G : Nat → ClassId) (N : Nat) {b : Nat} {S0 : mw_M} {z : Int32 × mm_M} : ∀ (y1 : Int32) (y2 : Int32) (y3 : Int32) (y4 : Int32) (y5 : Int32) (y6 : Int32) (y7 : Int32) (w1 : Int32) (S : mm_M) (H : Heap) (locs : List Loc) (ls : Array Slot), pf_X9_commit_68 G N y1 y2 y3 y4 y5 y6 y7 w1 S = some z → lv_has ls 16 [(0, .ref b), (1, .int y1), (2, .int y2), (3, .int y3), (4, .int y4), (5, .int y5), (6, .int y6), (7, .int y7)] → mm_W D vwCl (mw_tys G) mw_aos s G b S0 S H locs → W p l e (headSpec wsX9_commit rmX9_commit).room s m args below meth c H locs 0 0 (MQ below (mm_Qi D vwCl (mw_tys G) mw_aos G b S0 z) args s 0 0 (mm_A b S0)) (F0 m 68 ls [.int w1, .ref b]) := by
  obtain ⟨hx, hb, hml, hown, hts, hr, hlocks⟩ := hC
  intro y1 y2 y3 y4 y5 y6 y7 w1 S H locs ls hf hl hw
  unfold pf_X9_commit_68 at hf
  obtain ⟨S1, e1, hf⟩ := mw_b hf
  refine mm_put hx hb hts inX9 tyX9 tyX9_ok nX9 hown hw rfl 5 (by decide) (hts _ tw_728) rfl rfl (by decide +kernel) (by decide) (mm_st5 _) e1 dX9_commit_68 (fun H locs hw => ?_)
  refine lv_aload_n hx hb dX9_commit_71 rfl (lv_at hl 0 rfl) ?_
  refine mm_getr hx hb hts inX9 hown hw rfl 13 (by decide) (hts _ tw_736) rfl 5 (fun _ _ => rfl) dX9_commit_72 ?_
  refine lv_iload_n hx hb dX9_commit_75 rfl (lv_at hl 1 rfl) ?_
  obtain ⟨v2, e2, hf⟩ := mw_b hf
  refine mm_iald hx hb hw 5 (by decide) 0 rfl e2 dX9_commit_76 ?_
  refine lv_if_ne hx hb dX9_commit_77 (tgt := 82) (by decide) (fun hc => ?_) (fun hc => ?_)
  · rw [if_pos hc] at hf
    refine lv_aload_n hx hb dX9_commit_82 rfl (lv_at hl 0 rfl) ?_
    refine mm_getr hx hb hts inX9 hown hw rfl 13 (by decide) (hts _ tw_736) rfl 5 (fun _ _ => rfl) dX9_commit_83 ?_
    refine lv_iload_n hx hb dX9_commit_86 rfl (lv_at hl 1 rfl) ?_
    refine lv_dup2_11 hx hb dX9_commit_87 rfl rfl ?_
    obtain ⟨v3, e3, hf⟩ := mw_b hf
    refine mm_iald hx hb hw 5 (by decide) 0 rfl e3 dX9_commit_88 ?_
    refine lv_iconst (v := 1) hx hb dX9_commit_89 (by decide) ?_
    refine lv_isub hx hb dX9_commit_90 ?_
    obtain ⟨S4, e4, hf⟩ := mw_b hf
    refine mm_iast hx hb hw 5 (by decide) 0 rfl e4 dX9_commit_91 (fun H locs hw => ?_)
    refine lv_aload_n hx hb dX9_commit_92 rfl (lv_at hl 0 rfl) ?_
    refine mm_getr hx hb hts inX9 hown hw rfl 14 (by decide) (hts _ tw_737) rfl 6 (fun _ _ => rfl) dX9_commit_93 ?_
    refine lv_iconst (v := 3) hx hb dX9_commit_96 (by decide) ?_
    refine lv_iload_n hx hb dX9_commit_97 rfl (lv_at hl 1 rfl) ?_
    refine lv_imul hx hb dX9_commit_98 ?_
    refine lv_aload_n hx hb dX9_commit_99 rfl (lv_at hl 0 rfl) ?_
    refine mm_getr hx hb hts inX9 hown hw rfl 13 (by decide) (hts _ tw_736) rfl 5 (fun _ _ => rfl) dX9_commit_100 ?_
    refine lv_iload_n hx hb dX9_commit_103 rfl (lv_at hl 1 rfl) ?_
    obtain ⟨v5, e5, hf⟩ := mw_b hf
    refine mm_iald hx hb hw 5 (by decide) 0 rfl e5 dX9_commit_104 ?_
    refine lv_iadd hx hb dX9_commit_105 ?_
    obtain ⟨v6, e6, hf⟩ := mw_b hf
    refine mm_iald hx hb hw 6 (by decide) 0 rfl e6 dX9_commit_106 ?_
    refine lv_istore hx hb dX9_commit_107 hl (by decide) rfl (fun ls hl => ?_)
    have hl : lv_has ls 16 [(8, .int v6), (0, .ref b), (1, .int y1), (2, .int y2), (3, .int y3), (4, .int y4), (5, .int y5), (6, .int y6), (7, .int y7)] := hl
    refine lv_aload_n hx hb dX9_commit_109 rfl (lv_at hl 1 rfl) ?_
    refine lv_iload_n hx hb dX9_commit_110 rfl (lv_at hl 3 rfl) ?_
    refine lv_aload_n hx hb dX9_commit_111 rfl (lv_at hl 1 rfl) ?_
    refine mm_geti hx hb hts inX9 hown hw rfl 3 (by decide) (hts _ tw_726) rfl (fun _ _ => rfl) dX9_commit_112 ?_
    refine lv_iload hx hb dX9_commit_115 (lv_at hl 0 rfl) ?_
    refine lv_isub hx hb dX9_commit_117 ?_
    obtain ⟨v7, S7, e7, hf⟩ := mw_bb hf
    refine mm_calli (va_runV (As := [.int y2, .int ((S4.1 3) - v6)]) (rest := []) ⟨hx, hb, hml, hown, hts⟩ (cm_X9_unwanted l D G N b S0 S4 y2 ((S4.1 3) - v6) (v7, S7) e7) (cwV 2 hts (mw_gV tw_868 tw_870 tp_17 tw_11 tw_871) rfl rfl rfl (by decide +kernel) ⟨Nat.le_of_ble_eq_true rfl, Nat.le_of_ble_eq_true rfl⟩) (mm_preV hw rfl) rfl rfl hl.1 rfl (lv_room (Nat.le_of_ble_eq_true rfl)) dX9_commit_118 ⟨(Nat.le_of_ble_eq_true rfl), (Nat.le_of_ble_eq_true rfl)⟩) hw (fun H locs hw => ?_)
    refine lv_istore hx hb dX9_commit_121 hl (by decide) rfl (fun ls hl => ?_)
    have hl : lv_has ls 16 [(9, .int v7), (8, .int v6), (0, .ref b), (1, .int y1), (2, .int y2), (3, .int y3), (4, .int y4), (5, .int y5), (6, .int y6), (7, .int y7)] := hl
    refine lv_iload hx hb dX9_commit_123 (lv_at hl 0 rfl) ?_
    refine lv_if_le hx hb dX9_commit_125 (tgt := 131) (by decide) (fun hc => ?_) (fun hc => ?_)
    · rw [if_pos hc] at hf
      refine lv_iload hx hb dX9_commit_131 (lv_at hl 9 rfl) ?_
      refine lv_if_eq hx hb dX9_commit_133 (tgt := 145) (by decide) (fun hc => ?_) (fun hc => ?_)
      · rw [if_pos hc] at hf
        refine lv_iconst (v := 0) hx hb dX9_commit_145 (by decide) ?_
        exact bX9_commit_146 ⟨hx, hb, hml, hown, hts, hr, hlocks⟩ D G N _ _ _ _ _ _ _ _ _ _ _ _ _ hf (lv_sub hl [2, 3, 4, 5, 6, 7, 8, 9, 1] rfl) hw
      · rw [if_neg hc] at hf
        refine lv_aload_n hx hb dX9_commit_136 rfl (lv_at hl 2 rfl) ?_
        refine lv_iload hx hb dX9_commit_137 (lv_at hl 8 rfl) ?_
        obtain ⟨v8, S8, e8, hf⟩ := mw_bb hf
        refine mm_calli (va_runV (As := [.int y6]) (rest := []) ⟨hx, hb, hml, hown, hts⟩ (cm_X9_stringOf l D G N b S0 S7 y6 (v8, S8) e8) (cwV 1 hts (mw_gV tw_872 tw_874 tp_18 tw_11 tw_875) rfl rfl rfl (by decide +kernel) ⟨Nat.le_of_ble_eq_true rfl, Nat.le_of_ble_eq_true rfl⟩) (mm_preV hw rfl) rfl rfl hl.1 rfl (lv_room (Nat.le_of_ble_eq_true rfl)) dX9_commit_139 ⟨(Nat.le_of_ble_eq_true rfl), (Nat.le_of_ble_eq_true rfl)⟩) hw (fun H locs hw => ?_)
        refine lv_goto hx hb dX9_commit_142 (tgt := 146) (by decide) ?_
        exact bX9_commit_146 ⟨hx, hb, hml, hown, hts, hr, hlocks⟩ D G N _ _ _ _ _ _ _ _ _ _ _ _ _ hf (lv_sub hl [2, 3, 4, 5, 6, 7, 8, 9, 1] rfl) hw
    · rw [if_neg hc] at hf
      refine lv_iload hx hb dX9_commit_128 (lv_at hl 0 rfl) ?_
      exact mm_iret hx hb hr hlocks hw hf dX9_commit_130
  · rw [if_neg (fun q => q hc)] at hf
    refine lv_iconst (v := 1) hx hb dX9_commit_80 (by decide) ?_
    exact mm_iret hx hb hr hlocks hw hf dX9_commit_81
set_option maxHeartbeats 4000000 in
set_option maxRecDepth 100000 in
theorem bX9_commit_44 {p : Program} {l : Launch} {e : Env} {s : State} {m : MethodId} {args : Array Value} {below : List Frame} {meth : Method} {c : Code} (hC : mw_C p s m args meth c cX9_commit RX9 (some .int) lw_good 16) (D : va_G) (G : Nat → ClassId) (N : Nat) {b : Nat} {S0 : mw_M} {z : Int32 × mm_M} : ∀ (y1 : Int32) (y2 : Int32) (y3 : Int32) (y4 : Int32) (y5 : Int32) (w0 : Int32) (S : mm_M) (H : Heap) (locs : List Loc) (ls : Array Slot), pf_X9_commit_44 G N y1 y2 y3 y4 y5 w0 S = some z → lv_has ls 16 [(0, .ref b), (1, .int y1), (2, .int y2), (3, .int y3), (4, .int y4), (5, .int y5)] → mm_W D vwCl (mw_tys G) mw_aos s G b S0 S H locs → W p l e (headSpec wsX9_commit rmX9_commit).room s m args below meth c H locs 0 0 (MQ below (mm_Qi D vwCl (mw_tys G) mw_aos G b S0 z) args s 0 0 (mm_A b S0)) (F0 m 44 ls [.int w0]) := by
  obtain ⟨hx, hb, hml, hown, hts, hr, hlocks⟩ := hC
  intro y1 y2 y3 y4 y5 w0 S H locs ls hf hl hw
  unfold pf_X9_commit_44 at hf
  refine lv_istore hx hb dX9_commit_44 hl (by decide) rfl (fun ls hl => ?_)
  have hl : lv_has ls 16 [(6, .int w0), (0, .ref b), (1, .int y1), (2, .int y2), (3, .int y3), (4, .int y4), (5, .int y5)] := hl
  refine lv_aload_n hx hb dX9_commit_46 rfl (lv_at hl 1 rfl) ?_
  refine mm_getr hx hb hts inX9 hown hw rfl 9 (by decide) (hts _ tw_732) rfl 2 (fun _ _ => rfl) dX9_commit_47 ?_
  refine lv_iload_n hx hb dX9_commit_50 rfl (lv_at hl 3 rfl) ?_
  obtain ⟨v1, e1, hf⟩ := mw_b hf
  refine mm_zald hx hb hw 2 (by decide) 3 rfl e1 dX9_commit_51 ?_
  refine lv_istore hx hb dX9_commit_52 hl (by decide) rfl (fun ls hl => ?_)
  have hl : lv_has ls 16 [(7, .int v1), (6, .int w0), (0, .ref b), (1, .int y1), (2, .int y2), (3, .int y3), (4, .int y4), (5, .int y5)] := hl
  refine lv_aload_n hx hb dX9_commit_54 rfl (lv_at hl 2 rfl) ?_
  refine lv_iload hx hb dX9_commit_55 (lv_at hl 0 rfl) ?_
  refine lv_if_eq hx hb dX9_commit_57 (tgt := 64) (by decide) (fun hc => ?_) (fun hc => ?_)
  · rw [if_pos hc] at hf
    refine lv_aload_n hx hb dX9_commit_64 rfl (lv_at hl 2 rfl) ?_
    refine mm_geti hx hb hts inX9 hown hw rfl 5 (by decide) (hts _ tw_728) rfl (fun _ _ => rfl) dX9_commit_65 ?_
    exact bX9_commit_68 ⟨hx, hb, hml, hown, hts, hr, hlocks⟩ D G N _ _ _ _ _ _ _ _ _ _ _ _ hf (lv_sub hl [2, 3, 4, 5, 6, 7, 1, 0] rfl) hw
  · rw [if_neg hc] at hf
    refine lv_iconst (v := 0) hx hb dX9_commit_60 (by decide) ?_
    refine lv_goto hx hb dX9_commit_61 (tgt := 68) (by decide) ?_
    exact bX9_commit_68 ⟨hx, hb, hml, hown, hts, hr, hlocks⟩ D G N _ _ _ _ _ _ _ _ _ _ _ _ hf (lv_sub hl [2, 3, 4, 5, 6, 7, 1, 0] rfl) hw
set_option maxHeartbeats 4000000 in
set_option maxRecDepth 100000 in
theorem cm_X9_commit (l : Launch) (D : va_G) (G : Nat → ClassId) (N : Nat) (b : Nat) (S0 : mw_M) (S : mm_M) (x1 : Int32) (x2 : Int32) (x3 : Int32) (x4 : Int32) (x5 : Int32) (z : Int32 × mm_M) (hf : pf_X9_commit G N S x1 x2 x3 x4 x5 = some z) : Met l yX9_commit wsX9_commit rmX9_commit (va_Pc [.ref b, .int x1, .int x2, .int x3, .int x4, .int x5] (mm_B D vwCl (mw_tys G) mw_aos G b S0 S)) (mm_Qi D vwCl (mw_tys G) mw_aos G b S0 z) 0 0 (mm_A b S0) := by
  refine Met.ofW (cc := cX9_commit) (maxL := 16) (ret := (some .int)) (by decide) rfl ?_
  intro p e s m args below meth c s₁ B hml hv
  obtain ⟨rfl, hB⟩ := hv
  have hw := mm_begin hB
  have hx := B.exec
  have hb := B.bytes
  have hr := B.returns
  have hts : ∀ w ∈ lw_good, w.before _ s = true := fun w h => atoms_spec (ws := wsX9_commit) B.pre w (List.mem_cons_of_mem _ h)
  have hown : s.vm.findClass RX9 = some m.cls := findClass_of_methodNamed B.named
  have hlocks := B.notSynchronized
  have hC : mw_C p s m _ meth c cX9_commit RX9 (some .int) lw_good 16 := ⟨hx, hb, hml, hown, hts, hr, hlocks⟩
  have hl := lv_entry ([.ref b, .int x1, .int x2, .int x3, .int x4, .int x5]) (n := 16) (Nat.le_of_ble_eq_true rfl)
  rw [lg_entry_eq]
  generalize (lg_sl ([.ref b, .int x1, .int x2, .int x3, .int x4, .int x5]) ++ List.replicate (16 - (lg_sl ([.ref b, .int x1, .int x2, .int x3, .int x4, .int x5])).length) Slot.unset).toArray = ls at hl ⊢
  have hl : lv_has ls 16 [(0, .ref b), (1, .int x1), (2, .int x2), (3, .int x3), (4, .int x4), (5, .int x5)] := hl
  unfold pf_X9_commit at hf
  refine lv_aload_n hx hb dX9_commit_0 rfl (lv_at hl 0 rfl) ?_
  refine lv_iconst (v := 0) hx hb dX9_commit_1 (by decide) ?_
  obtain ⟨S1, e1, hf⟩ := mw_b hf
  refine mm_put hx hb hts inX9 tyX9 tyX9_ok nX9 hown hw rfl 4 (by decide) (hts _ tw_727) rfl rfl (by decide +kernel) (by decide) (mm_st4 _) e1 dX9_commit_2 (fun H locs hw => ?_)
  refine lv_iload_n hx hb dX9_commit_5 rfl (lv_at hl 1 rfl) ?_
  obtain ⟨v2, S2, e2, hf⟩ := mw_bb hf
  refine mm_calli (va_runS (As := [.int x1]) (rest := []) ⟨hx, hb, hml, hown, hts⟩ (cm_X9_isThread l D G N b S0 S1 x1 (v2, S2) e2) (cwS 1 hts (mw_gS tw_861 tw_862 tw_11 tw_863) rfl rfl rfl (by decide +kernel) ⟨Nat.le_of_ble_eq_true rfl, Nat.le_of_ble_eq_true rfl⟩) (mm_preS hw) rfl rfl hl.1 rfl (lv_room (Nat.le_of_ble_eq_true rfl)) dX9_commit_6 ⟨(Nat.le_of_ble_eq_true rfl), (Nat.le_of_ble_eq_true rfl)⟩) hw (fun H locs hw => ?_)
  refine lv_if_eq hx hb dX9_commit_9 (tgt := 24) (by decide) (fun hc => ?_) (fun hc => ?_)
  · rw [if_pos hc] at hf
    refine lv_iconst (v := (-1)) hx hb dX9_commit_24 (by decide) ?_
    exact mm_iret hx hb hr hlocks hw hf dX9_commit_25
  · rw [if_neg hc] at hf
    refine lv_iload_n hx hb dX9_commit_12 rfl (lv_at hl 2 rfl) ?_
    refine lv_if_lt hx hb dX9_commit_13 (tgt := 24) (by decide) (fun hc => ?_) (fun hc => ?_)
    · rw [if_pos hc] at hf
      refine lv_iconst (v := (-1)) hx hb dX9_commit_24 (by decide) ?_
      exact mm_iret hx hb hr hlocks hw hf dX9_commit_25
    · rw [if_neg hc] at hf
      refine lv_iload_n hx hb dX9_commit_16 rfl (lv_at hl 2 rfl) ?_
      refine lv_aload_n hx hb dX9_commit_17 rfl (lv_at hl 0 rfl) ?_
      refine mm_geti hx hb hts inX9 hown hw rfl 7 (by decide) (hts _ tw_730) rfl (fun _ _ => rfl) dX9_commit_18 ?_
      refine lv_icmp_lt hx hb dX9_commit_21 (tgt := 26) (by decide) (fun hc => ?_) (fun hc => ?_)
      · rw [if_pos hc] at hf
        refine lv_aload_n hx hb dX9_commit_26 rfl (lv_at hl 0 rfl) ?_
        refine mm_geti hx hb hts inX9 hown hw rfl 5 (by decide) (hts _ tw_728) rfl (fun _ _ => rfl) dX9_commit_27 ?_
        refine lv_bipush (v := 8) hx hb dX9_commit_30 (by decide) ?_
        refine lv_icmp_ge hx hb dX9_commit_32 (tgt := 42) (by decide) (fun hc => ?_) (fun hc => ?_)
        · rw [if_pos hc] at hf
          refine lv_bipush (v := 8) hx hb dX9_commit_42 (by decide) ?_
          exact bX9_commit_44 ⟨hx, hb, hml, hown, hts, hr, hlocks⟩ D G N _ _ _ _ _ _ _ _ _ _ hf (lv_sub hl [0, 1, 2, 3, 4, 5] rfl) hw
        · rw [if_neg hc] at hf
          refine lv_aload_n hx hb dX9_commit_35 rfl (lv_at hl 0 rfl) ?_
          refine mm_geti hx hb hts inX9 hown hw rfl 5 (by decide) (hts _ tw_728) rfl (fun _ _ => rfl) dX9_commit_36 ?_
          refine lv_goto hx hb dX9_commit_39 (tgt := 44) (by decide) ?_
          exact bX9_commit_44 ⟨hx, hb, hml, hown, hts, hr, hlocks⟩ D G N _ _ _ _ _ _ _ _ _ _ hf (lv_sub hl [0, 1, 2, 3, 4, 5] rfl) hw
      · rw [if_neg hc] at hf
        refine lv_iconst (v := (-1)) hx hb dX9_commit_24 (by decide) ?_
        exact mm_iret hx hb hr hlocks hw hf dX9_commit_25
abbrev rmX9_drain : Room := { frames := 0, cells := 0, slots := 0, locals := 0 }
abbrev wsX9_drain : List Cond := Cond.code yX9_drain cX9_drain 4 (some .int) :: lw_good
set_option maxHeartbeats 4000000 in
set_option maxRecDepth 100000 in
theorem bX9_drain_9 {p : Program} {l : Launch} {e : Env} {s : State} {m : MethodId} {args : Array Value} {below : List Frame} {meth : Method} {c : Code} (hC : mw_C p s m args meth c cX9_drain RX9 (some .int) lw_good 4) (D : va_G) (G : Nat → ClassId) (N : Nat) {b : Nat} {S0 : mw_M} {z : Int32 × mm_M} : ∀ (n : Nat) (y1 : Int32) (y2 : Int32) (y3 : Int32) (S : mm_M) (H : Heap) (locs : List Loc) (ls : Array Slot), pf_X9_drain_9 G N n y1 y2 y3 S = some z → lv_has ls 4 [(0, .ref b), (1, .int y1), (2, .int y2), (3, .int y3)] → mm_W D vwCl (mw_tys G) mw_aos s G b S0 S H locs → W p l e (headSpec wsX9_drain rmX9_drain).room s m args below meth c H locs 0 0 (MQ below (mm_Qi D vwCl (mw_tys G) mw_aos G b S0 z) args s 0 0 (mm_A b S0)) (F0 m 9 ls []) := by
  obtain ⟨hx, hb, hml, hown, hts, hr, hlocks⟩ := hC
  intro n
  induction n with
  | zero => intro y1 y2 y3 S H locs ls hf; rw [pf_X9_drain_9] at hf; cases hf
  | succ n ih =>
    intro y1 y2 y3 S H locs ls hf hl hw
    rw [pf_X9_drain_9] at hf
    refine lv_iload_n hx hb dX9_drain_9 rfl (lv_at hl 3 rfl) ?_
    refine lv_iload_n hx hb dX9_drain_10 rfl (lv_at hl 2 rfl) ?_
    refine lv_icmp_ge hx hb dX9_drain_11 (tgt := 49) (by decide) (fun hc => ?_) (fun hc => ?_)
    · rw [if_pos hc] at hf
      refine lv_aload_n hx hb dX9_drain_49 rfl (lv_at hl 0 rfl) ?_
      refine mm_getr hx hb hts inX9 hown hw rfl 22 (by decide) (hts _ tw_745) rfl 11 (fun _ _ => rfl) dX9_drain_50 ?_
      refine lv_bipush (v := 6) hx hb dX9_drain_53 (by decide) ?_
      refine lv_dup2_11 hx hb dX9_drain_55 rfl rfl ?_
      obtain ⟨v1, e1, hf⟩ := mw_b hf
      refine mm_iald hx hb hw 11 (by decide) 0 rfl e1 dX9_drain_56 ?_
      refine lv_iload_n hx hb dX9_drain_57 rfl (lv_at hl 2 rfl) ?_
      refine lv_iadd hx hb dX9_drain_58 ?_
      obtain ⟨S2, e2, hf⟩ := mw_b hf
      refine mm_iast hx hb hw 11 (by decide) 0 rfl e2 dX9_drain_59 (fun H locs hw => ?_)
      refine lv_aload_n hx hb dX9_drain_60 rfl (lv_at hl 0 rfl) ?_
      refine mm_getr hx hb hts inX9 hown hw rfl 25 (by decide) (hts _ tw_748) rfl 14 (fun _ _ => rfl) dX9_drain_61 ?_
      refine lv_bipush (v := 6) hx hb dX9_drain_64 (by decide) ?_
      refine lv_dup2_11 hx hb dX9_drain_66 rfl rfl ?_
      obtain ⟨v3, e3, hf⟩ := mw_b hf
      refine mm_iald hx hb hw 14 (by decide) 0 rfl e3 dX9_drain_67 ?_
      refine lv_aload_n hx hb dX9_drain_68 rfl (lv_at hl 0 rfl) ?_
      refine mm_getr hx hb hts inX9 hown hw rfl 17 (by decide) (hts _ tw_740) rfl 9 (fun _ _ => rfl) dX9_drain_69 ?_
      refine lv_iload_n hx hb dX9_drain_72 rfl (lv_at hl 1 rfl) ?_
      obtain ⟨v4, e4, hf⟩ := mw_b hf
      refine mm_iald hx hb hw 9 (by decide) 0 rfl e4 dX9_drain_73 ?_
      refine lv_iadd hx hb dX9_drain_74 ?_
      obtain ⟨S5, e5, hf⟩ := mw_b hf
      refine mm_iast hx hb hw 14 (by decide) 0 rfl e5 dX9_drain_75 (fun H locs hw => ?_)
      refine lv_aload_n hx hb dX9_drain_76 rfl (lv_at hl 0 rfl) ?_
      refine mm_getr hx hb hts inX9 hown hw rfl 16 (by decide) (hts _ tw_739) rfl 8 (fun _ _ => rfl) dX9_drain_77 ?_
      refine lv_iload_n hx hb dX9_drain_80 rfl (lv_at hl 1 rfl) ?_
      refine lv_iconst (v := 0) hx hb dX9_drain_81 (by decide) ?_
      obtain ⟨S6, e6, hf⟩ := mw_b hf
      refine mm_iast hx hb hw 8 (by decide) 0 rfl e6 dX9_drain_82 (fun H locs hw => ?_)
      refine lv_aload_n hx hb dX9_drain_83 rfl (lv_at hl 0 rfl) ?_
      refine mm_getr hx hb hts inX9 hown hw rfl 17 (by decide) (hts _ tw_740) rfl 9 (fun _ _ => rfl) dX9_drain_84 ?_
      refine lv_iload_n hx hb dX9_drain_87 rfl (lv_at hl 1 rfl) ?_
      refine lv_iconst (v := 0) hx hb dX9_drain_88 (by decide) ?_
      obtain ⟨S7, e7, hf⟩ := mw_b hf
      refine mm_iast hx hb hw 9 (by decide) 0 rfl e7 dX9_drain_89 (fun H locs hw => ?_)
      refine lv_iload_n hx hb dX9_drain_90 rfl (lv_at hl 2 rfl) ?_
      exact mm_iret hx hb hr hlocks hw hf dX9_drain_91
    · rw [if_neg hc] at hf
      refine lv_aload_n hx hb dX9_drain_14 rfl (lv_at hl 0 rfl) ?_
      refine mm_getr hx hb hts inX9 hown hw rfl 21 (by decide) (hts _ tw_744) rfl 10 (fun _ _ => rfl) dX9_drain_15 ?_
      refine lv_sipush (v := 3600) hx hb dX9_drain_18 (by decide) ?_
      refine lv_aload_n hx hb dX9_drain_21 rfl (lv_at hl 0 rfl) ?_
      refine mm_getr hx hb hts inX9 hown hw rfl 22 (by decide) (hts _ tw_745) rfl 11 (fun _ _ => rfl) dX9_drain_22 ?_
      refine lv_bipush (v := 6) hx hb dX9_drain_25 (by decide) ?_
      obtain ⟨v8, e8, hf⟩ := mw_b hf
      refine mm_iald hx hb hw 11 (by decide) 0 rfl e8 dX9_drain_27 ?_
      refine lv_iadd hx hb dX9_drain_28 ?_
      refine lv_iload_n hx hb dX9_drain_29 rfl (lv_at hl 3 rfl) ?_
      refine lv_iadd hx hb dX9_drain_30 ?_
      refine lv_aload_n hx hb dX9_drain_31 rfl (lv_at hl 0 rfl) ?_
      refine mm_getr hx hb hts inX9 hown hw rfl 15 (by decide) (hts _ tw_738) rfl 7 (fun _ _ => rfl) dX9_drain_32 ?_
      refine lv_bipush (v := 60) hx hb dX9_drain_35 (by decide) ?_
      refine lv_iload_n hx hb dX9_drain_37 rfl (lv_at hl 1 rfl) ?_
      refine lv_imul hx hb dX9_drain_38 ?_
      refine lv_iload_n hx hb dX9_drain_39 rfl (lv_at hl 3 rfl) ?_
      refine lv_iadd hx hb dX9_drain_40 ?_
      obtain ⟨v9, e9, hf⟩ := mw_b hf
      refine mm_iald hx hb hw 7 (by decide) 0 rfl e9 dX9_drain_41 ?_
      obtain ⟨S10, e10, hf⟩ := mw_b hf
      refine mm_iast hx hb hw 10 (by decide) 0 rfl e10 dX9_drain_42 (fun H locs hw => ?_)
      refine lv_iinc (k := 3) (v := (y3 + 1)) hx hb dX9_drain_43 hl rfl (congrArg (fun q => y3 + q) (show Int32.ofInt 1 = 1 by decide)) (by decide) rfl (fun ls hl => ?_)
      have hl : lv_has ls 4 [(3, .int (y3 + 1)), (0, .ref b), (1, .int y1), (2, .int y2)] := hl
      refine lv_goto hx hb dX9_drain_46 (tgt := 9) (by decide) ?_
      exact ih _ _ _ _ _ _ _ hf (lv_sub hl [1, 2, 3, 0] rfl) hw
set_option maxHeartbeats 4000000 in
set_option maxRecDepth 100000 in
theorem cm_X9_drain (l : Launch) (D : va_G) (G : Nat → ClassId) (N : Nat) (b : Nat) (S0 : mw_M) (S : mm_M) (x1 : Int32) (z : Int32 × mm_M) (hf : pf_X9_drain G N S x1 = some z) : Met l yX9_drain wsX9_drain rmX9_drain (va_Pc [.ref b, .int x1] (mm_B D vwCl (mw_tys G) mw_aos G b S0 S)) (mm_Qi D vwCl (mw_tys G) mw_aos G b S0 z) 0 0 (mm_A b S0) := by
  refine Met.ofW (cc := cX9_drain) (maxL := 4) (ret := (some .int)) (by decide) rfl ?_
  intro p e s m args below meth c s₁ B hml hv
  obtain ⟨rfl, hB⟩ := hv
  have hw := mm_begin hB
  have hx := B.exec
  have hb := B.bytes
  have hr := B.returns
  have hts : ∀ w ∈ lw_good, w.before _ s = true := fun w h => atoms_spec (ws := wsX9_drain) B.pre w (List.mem_cons_of_mem _ h)
  have hown : s.vm.findClass RX9 = some m.cls := findClass_of_methodNamed B.named
  have hlocks := B.notSynchronized
  have hC : mw_C p s m _ meth c cX9_drain RX9 (some .int) lw_good 4 := ⟨hx, hb, hml, hown, hts, hr, hlocks⟩
  have hl := lv_entry ([.ref b, .int x1]) (n := 4) (Nat.le_of_ble_eq_true rfl)
  rw [lg_entry_eq]
  generalize (lg_sl ([.ref b, .int x1]) ++ List.replicate (4 - (lg_sl ([.ref b, .int x1])).length) Slot.unset).toArray = ls at hl ⊢
  have hl : lv_has ls 4 [(0, .ref b), (1, .int x1)] := hl
  unfold pf_X9_drain at hf
  refine lv_aload_n hx hb dX9_drain_0 rfl (lv_at hl 0 rfl) ?_
  refine mm_getr hx hb hts inX9 hown hw rfl 16 (by decide) (hts _ tw_739) rfl 8 (fun _ _ => rfl) dX9_drain_1 ?_
  refine lv_iload_n hx hb dX9_drain_4 rfl (lv_at hl 1 rfl) ?_
  obtain ⟨v1, e1, hf⟩ := mw_b hf
  refine mm_iald hx hb hw 8 (by decide) 0 rfl e1 dX9_drain_5 ?_
  refine lv_istore_n hx hb dX9_drain_6 rfl hl (by decide) rfl (fun ls hl => ?_)
  have hl : lv_has ls 4 [(2, .int v1), (0, .ref b), (1, .int x1)] := hl
  refine lv_iconst (v := 0) hx hb dX9_drain_7 (by decide) ?_
  refine lv_istore_n hx hb dX9_drain_8 rfl hl (by decide) rfl (fun ls hl => ?_)
  have hl : lv_has ls 4 [(3, .int 0), (2, .int v1), (0, .ref b), (1, .int x1)] := hl
  exact bX9_drain_9 ⟨hx, hb, hml, hown, hts, hr, hlocks⟩ D G N N _ _ _ _ _ _ _ hf (lv_sub hl [2, 3, 1, 0] rfl) hw
abbrev rmX9_put : Room := { frames := 0, cells := 0, slots := 0, locals := 0 }
abbrev wsX9_put : List Cond := Cond.code yX9_put cX9_put 2 none :: lw_good
set_option maxHeartbeats 4000000 in
set_option maxRecDepth 100000 in
theorem cm_X9_put (l : Launch) (D : va_G) (G : Nat → ClassId) (N : Nat) (b : Nat) (S0 : mw_M) (S : mm_M) (x1 : Int32) (z : mm_M) (hf : pf_X9_put G N S x1 = some z) : Met l yX9_put wsX9_put rmX9_put (va_Pc [.ref b, .int x1] (mm_B D vwCl (mw_tys G) mw_aos G b S0 S)) (mm_Qv D vwCl (mw_tys G) mw_aos G b S0 z) 0 0 (mm_A b S0) := by
  refine Met.ofW (cc := cX9_put) (maxL := 2) (ret := none) (by decide) rfl ?_
  intro p e s m args below meth c s₁ B hml hv
  obtain ⟨rfl, hB⟩ := hv
  have hw := mm_begin hB
  have hx := B.exec
  have hb := B.bytes
  have hr := B.returns
  have hts : ∀ w ∈ lw_good, w.before _ s = true := fun w h => atoms_spec (ws := wsX9_put) B.pre w (List.mem_cons_of_mem _ h)
  have hown : s.vm.findClass RX9 = some m.cls := findClass_of_methodNamed B.named
  have hlocks := B.notSynchronized
  have hC : mw_C p s m _ meth c cX9_put RX9 none lw_good 2 := ⟨hx, hb, hml, hown, hts, hr, hlocks⟩
  have hl := lv_entry ([.ref b, .int x1]) (n := 2) (Nat.le_of_ble_eq_true rfl)
  rw [lg_entry_eq]
  generalize (lg_sl ([.ref b, .int x1]) ++ List.replicate (2 - (lg_sl ([.ref b, .int x1])).length) Slot.unset).toArray = ls at hl ⊢
  have hl : lv_has ls 2 [(0, .ref b), (1, .int x1)] := hl
  unfold pf_X9_put at hf
  refine lv_aload_n hx hb dX9_put_0 rfl (lv_at hl 0 rfl) ?_
  refine mm_getr hx hb hts inX9 hown hw rfl 21 (by decide) (hts _ tw_744) rfl 10 (fun _ _ => rfl) dX9_put_1 ?_
  refine lv_sipush (v := 3600) hx hb dX9_put_4 (by decide) ?_
  refine lv_aload_n hx hb dX9_put_7 rfl (lv_at hl 0 rfl) ?_
  refine mm_getr hx hb hts inX9 hown hw rfl 22 (by decide) (hts _ tw_745) rfl 11 (fun _ _ => rfl) dX9_put_8 ?_
  refine lv_bipush (v := 6) hx hb dX9_put_11 (by decide) ?_
  obtain ⟨v1, e1, hf⟩ := mw_b hf
  refine mm_iald hx hb hw 11 (by decide) 0 rfl e1 dX9_put_13 ?_
  refine lv_iadd hx hb dX9_put_14 ?_
  refine lv_iload_n hx hb dX9_put_15 rfl (lv_at hl 1 rfl) ?_
  obtain ⟨S2, e2, hf⟩ := mw_b hf
  refine mm_iast hx hb hw 10 (by decide) 0 rfl e2 dX9_put_16 (fun H locs hw => ?_)
  refine lv_aload_n hx hb dX9_put_17 rfl (lv_at hl 0 rfl) ?_
  refine mm_getr hx hb hts inX9 hown hw rfl 22 (by decide) (hts _ tw_745) rfl 11 (fun _ _ => rfl) dX9_put_18 ?_
  refine lv_bipush (v := 6) hx hb dX9_put_21 (by decide) ?_
  refine lv_dup2_11 hx hb dX9_put_23 rfl rfl ?_
  obtain ⟨v3, e3, hf⟩ := mw_b hf
  refine mm_iald hx hb hw 11 (by decide) 0 rfl e3 dX9_put_24 ?_
  refine lv_iconst (v := 1) hx hb dX9_put_25 (by decide) ?_
  refine lv_iadd hx hb dX9_put_26 ?_
  obtain ⟨S4, e4, hf⟩ := mw_b hf
  refine mm_iast hx hb hw 11 (by decide) 0 rfl e4 dX9_put_27 (fun H locs hw => ?_)
  exact mm_vret hx hb hr hlocks hw hf dX9_put_28
abbrev rmX9_loss : Room := { frames := 1, cells := 0, slots := 0, locals := 24 }
abbrev wsX9_loss : List Cond := Cond.code yX9_loss cX9_loss 3 none :: lw_good
set_option maxHeartbeats 4000000 in
set_option maxRecDepth 100000 in
theorem bX9_loss_43 {p : Program} {l : Launch} {e : Env} {s : State} {m : MethodId} {args : Array Value} {below : List Frame} {meth : Method} {c : Code} (hC : mw_C p s m args meth c cX9_loss RX9 none lw_good 3) (D : va_G) (G : Nat → ClassId) (N : Nat) {b : Nat} {S0 : mw_M} {z : mm_M} : ∀ (n : Nat) (y1 : Int32) (y2 : Int32) (S : mm_M) (H : Heap) (locs : List Loc) (ls : Array Slot), pf_X9_loss_43 G N n y1 y2 S = some z → lv_has ls 3 [(0, .ref b), (1, .int y1), (2, .int y2)] → mm_W D vwCl (mw_tys G) mw_aos s G b S0 S H locs → W p l e (headSpec wsX9_loss rmX9_loss).room s m args below meth c H locs 0 0 (MQ below (mm_Qv D vwCl (mw_tys G) mw_aos G b S0 z) args s 0 0 (mm_A b S0)) (F0 m 43 ls []) := by
  obtain ⟨hx, hb, hml, hown, hts, hr, hlocks⟩ := hC
  intro n
  induction n with
  | zero => intro y1 y2 S H locs ls hf; rw [pf_X9_loss_43] at hf; cases hf
  | succ n ih =>
    intro y1 y2 S H locs ls hf hl hw
    rw [pf_X9_loss_43] at hf
    refine lv_iload_n hx hb dX9_loss_43 rfl (lv_at hl 2 rfl) ?_
    refine lv_aload_n hx hb dX9_loss_44 rfl (lv_at hl 0 rfl) ?_
    refine mm_geti hx hb hts inX9 hown hw rfl 38 (by decide) (hts _ tw_761) rfl (fun _ _ => rfl) dX9_loss_45 ?_
    refine lv_icmp_ge hx hb dX9_loss_48 (tgt := 67) (by decide) (fun hc => ?_) (fun hc => ?_)
    · rw [if_pos hc] at hf
      refine lv_aload_n hx hb dX9_loss_67 rfl (lv_at hl 0 rfl) ?_
      refine mm_getr hx hb hts inX9 hown hw rfl 27 (by decide) (hts _ tw_750) rfl 16 (fun _ _ => rfl) dX9_loss_68 ?_
      refine lv_iload_n hx hb dX9_loss_71 rfl (lv_at hl 1 rfl) ?_
      refine lv_iconst (v := 0) hx hb dX9_loss_72 (by decide) ?_
      obtain ⟨S1, e1, hf⟩ := mw_b hf
      refine mm_iast hx hb hw 16 (by decide) 0 rfl e1 dX9_loss_73 (fun H locs hw => ?_)
      exact mm_vret hx hb hr hlocks hw hf dX9_loss_74
    · rw [if_neg hc] at hf
      refine lv_aload_n hx hb dX9_loss_51 rfl (lv_at hl 0 rfl) ?_
      refine lv_aload_n hx hb dX9_loss_52 rfl (lv_at hl 0 rfl) ?_
      refine mm_getr hx hb hts inX9 hown hw rfl 37 (by decide) (hts _ tw_760) rfl 24 (fun _ _ => rfl) dX9_loss_53 ?_
      refine lv_iload_n hx hb dX9_loss_56 rfl (lv_at hl 2 rfl) ?_
      obtain ⟨v2, e2, hf⟩ := mw_b hf
      refine mm_iald hx hb hw 24 (by decide) 0 rfl e2 dX9_loss_57 ?_
      obtain ⟨S3, e3, hf⟩ := mw_b hf
      refine mm_callv (va_runV (As := [.int v2]) (rest := []) ⟨hx, hb, hml, hown, hts⟩ (cm_X9_put l D G N b S0 S v2 S3 e3) (cwV 1 hts (mw_gV tw_910 tw_912 tp_25 tw_11 tw_913) rfl rfl rfl (by decide +kernel) ⟨Nat.le_of_ble_eq_true rfl, Nat.le_of_ble_eq_true rfl⟩) (mm_preV hw rfl) rfl rfl hl.1 rfl (lv_room (Nat.le_of_ble_eq_true rfl)) dX9_loss_58 ⟨(Nat.le_of_ble_eq_true rfl), (Nat.le_of_ble_eq_true rfl)⟩) hw (fun H locs hw => ?_)
      refine lv_iinc (k := 2) (v := (y2 + 1)) hx hb dX9_loss_61 hl rfl (congrArg (fun q => y2 + q) (show Int32.ofInt 1 = 1 by decide)) (by decide) rfl (fun ls hl => ?_)
      have hl : lv_has ls 3 [(2, .int (y2 + 1)), (0, .ref b), (1, .int y1)] := hl
      refine lv_goto hx hb dX9_loss_64 (tgt := 43) (by decide) ?_
      exact ih _ _ _ _ _ _ hf (lv_sub hl [1, 2, 0] rfl) hw
set_option maxHeartbeats 4000000 in
set_option maxRecDepth 100000 in
theorem cm_X9_loss (l : Launch) (D : va_G) (G : Nat → ClassId) (N : Nat) (b : Nat) (S0 : mw_M) (S : mm_M) (x1 : Int32) (z : mm_M) (hf : pf_X9_loss G N S x1 = some z) : Met l yX9_loss wsX9_loss rmX9_loss (va_Pc [.ref b, .int x1] (mm_B D vwCl (mw_tys G) mw_aos G b S0 S)) (mm_Qv D vwCl (mw_tys G) mw_aos G b S0 z) 0 0 (mm_A b S0) := by
  refine Met.ofW (cc := cX9_loss) (maxL := 3) (ret := none) (by decide) rfl ?_
  intro p e s m args below meth c s₁ B hml hv
  obtain ⟨rfl, hB⟩ := hv
  have hw := mm_begin hB
  have hx := B.exec
  have hb := B.bytes
  have hr := B.returns
  have hts : ∀ w ∈ lw_good, w.before _ s = true := fun w h => atoms_spec (ws := wsX9_loss) B.pre w (List.mem_cons_of_mem _ h)
  have hown : s.vm.findClass RX9 = some m.cls := findClass_of_methodNamed B.named
  have hlocks := B.notSynchronized
  have hC : mw_C p s m _ meth c cX9_loss RX9 none lw_good 3 := ⟨hx, hb, hml, hown, hts, hr, hlocks⟩
  have hl := lv_entry ([.ref b, .int x1]) (n := 3) (Nat.le_of_ble_eq_true rfl)
  rw [lg_entry_eq]
  generalize (lg_sl ([.ref b, .int x1]) ++ List.replicate (3 - (lg_sl ([.ref b, .int x1])).length) Slot.unset).toArray = ls at hl ⊢
  have hl : lv_has ls 3 [(0, .ref b), (1, .int x1)] := hl
  unfold pf_X9_loss at hf
  refine lv_aload_n hx hb dX9_loss_0 rfl (lv_at hl 0 rfl) ?_
  refine lv_iconst (v := 0) hx hb dX9_loss_1 (by decide) ?_
  obtain ⟨S1, e1, hf⟩ := mw_b hf
  refine mm_put hx hb hts inX9 tyX9 tyX9_ok nX9 hown hw rfl 38 (by decide) (hts _ tw_761) rfl rfl (by decide +kernel) (by decide) (mm_st38 _) e1 dX9_loss_2 (fun H locs hw => ?_)
  refine lv_aload_n hx hb dX9_loss_5 rfl (lv_at hl 0 rfl) ?_
  refine lv_iconst (v := 2) hx hb dX9_loss_6 (by decide) ?_
  refine lv_aload_n hx hb dX9_loss_7 rfl (lv_at hl 0 rfl) ?_
  refine mm_getr hx hb hts inX9 hown hw rfl 27 (by decide) (hts _ tw_750) rfl 16 (fun _ _ => rfl) dX9_loss_8 ?_
  refine lv_iload_n hx hb dX9_loss_11 rfl (lv_at hl 1 rfl) ?_
  obtain ⟨v2, e2, hf⟩ := mw_b hf
  refine mm_iald hx hb hw 16 (by decide) 0 rfl e2 dX9_loss_12 ?_
  obtain ⟨v3, S3, e3, hf⟩ := mw_bb hf
  refine mm_calli (va_runS (As := [.int v2]) (rest := [.int 2, .ref b]) ⟨hx, hb, hml, hown, hts⟩ (cm_X9_width l D G N b S0 S1 v2 (v3, S3) e3) (cwS 1 hts (mw_gS tw_876 tw_877 tw_11 tw_878) rfl rfl rfl (by decide +kernel) ⟨Nat.le_of_ble_eq_true rfl, Nat.le_of_ble_eq_true rfl⟩) (mm_preS hw) rfl rfl hl.1 rfl (lv_room (Nat.le_of_ble_eq_true rfl)) dX9_loss_13 ⟨(Nat.le_of_ble_eq_true rfl), (Nat.le_of_ble_eq_true rfl)⟩) hw (fun H locs hw => ?_)
  refine lv_iadd hx hb dX9_loss_16 ?_
  obtain ⟨S4, e4, hf⟩ := mw_b hf
  refine mm_callv (va_runV (As := [.int (2 + v3)]) (rest := []) ⟨hx, hb, hml, hown, hts⟩ (cm_X9_variable l D G N b S0 S3 (2 + v3) S4 e4) (cwV 1 hts (mw_gV tw_882 tw_884 tp_19 tw_11 tw_885) rfl rfl rfl (by decide +kernel) ⟨Nat.le_of_ble_eq_true rfl, Nat.le_of_ble_eq_true rfl⟩) (mm_preV hw rfl) rfl rfl hl.1 rfl (lv_room (Nat.le_of_ble_eq_true rfl)) dX9_loss_17 ⟨(Nat.le_of_ble_eq_true rfl), (Nat.le_of_ble_eq_true rfl)⟩) hw (fun H locs hw => ?_)
  refine lv_aload_n hx hb dX9_loss_20 rfl (lv_at hl 0 rfl) ?_
  refine lv_bipush (v := 63) hx hb dX9_loss_21 (by decide) ?_
  obtain ⟨S5, e5, hf⟩ := mw_b hf
  refine mm_callv (va_runV (As := [.int 63]) (rest := []) ⟨hx, hb, hml, hown, hts⟩ (cm_X9_variable l D G N b S0 S4 63 S5 e5) (cwV 1 hts (mw_gV tw_882 tw_884 tp_19 tw_11 tw_885) rfl rfl rfl (by decide +kernel) ⟨Nat.le_of_ble_eq_true rfl, Nat.le_of_ble_eq_true rfl⟩) (mm_preV hw rfl) rfl rfl hl.1 rfl (lv_room (Nat.le_of_ble_eq_true rfl)) dX9_loss_23 ⟨(Nat.le_of_ble_eq_true rfl), (Nat.le_of_ble_eq_true rfl)⟩) hw (fun H locs hw => ?_)
  refine lv_aload_n hx hb dX9_loss_26 rfl (lv_at hl 0 rfl) ?_
  refine lv_iload_n hx hb dX9_loss_27 rfl (lv_at hl 1 rfl) ?_
  obtain ⟨S6, e6, hf⟩ := mw_b hf
  refine mm_callv (va_runV (As := [.int x1]) (rest := []) ⟨hx, hb, hml, hown, hts⟩ (cm_X9_variable l D G N b S0 S5 x1 S6 e6) (cwV 1 hts (mw_gV tw_882 tw_884 tp_19 tw_11 tw_885) rfl rfl rfl (by decide +kernel) ⟨Nat.le_of_ble_eq_true rfl, Nat.le_of_ble_eq_true rfl⟩) (mm_preV hw rfl) rfl rfl hl.1 rfl (lv_room (Nat.le_of_ble_eq_true rfl)) dX9_loss_28 ⟨(Nat.le_of_ble_eq_true rfl), (Nat.le_of_ble_eq_true rfl)⟩) hw (fun H locs hw => ?_)
  refine lv_aload_n hx hb dX9_loss_31 rfl (lv_at hl 0 rfl) ?_
  refine lv_aload_n hx hb dX9_loss_32 rfl (lv_at hl 0 rfl) ?_
  refine mm_getr hx hb hts inX9 hown hw rfl 27 (by decide) (hts _ tw_750) rfl 16 (fun _ _ => rfl) dX9_loss_33 ?_
  refine lv_iload_n hx hb dX9_loss_36 rfl (lv_at hl 1 rfl) ?_
  obtain ⟨v7, e7, hf⟩ := mw_b hf
  refine mm_iald hx hb hw 16 (by decide) 0 rfl e7 dX9_loss_37 ?_
  obtain ⟨S8, e8, hf⟩ := mw_b hf
  refine mm_callv (va_runV (As := [.int v7]) (rest := []) ⟨hx, hb, hml, hown, hts⟩ (cm_X9_variable l D G N b S0 S6 v7 S8 e8) (cwV 1 hts (mw_gV tw_882 tw_884 tp_19 tw_11 tw_885) rfl rfl rfl (by decide +kernel) ⟨Nat.le_of_ble_eq_true rfl, Nat.le_of_ble_eq_true rfl⟩) (mm_preV hw rfl) rfl rfl hl.1 rfl (lv_room (Nat.le_of_ble_eq_true rfl)) dX9_loss_38 ⟨(Nat.le_of_ble_eq_true rfl), (Nat.le_of_ble_eq_true rfl)⟩) hw (fun H locs hw => ?_)
  refine lv_iconst (v := 0) hx hb dX9_loss_41 (by decide) ?_
  refine lv_istore_n hx hb dX9_loss_42 rfl hl (by decide) rfl (fun ls hl => ?_)
  have hl : lv_has ls 3 [(2, .int 0), (0, .ref b), (1, .int x1)] := hl
  exact bX9_loss_43 ⟨hx, hb, hml, hown, hts, hr, hlocks⟩ D G N N _ _ _ _ _ _ hf (lv_sub hl [1, 2, 0] rfl) hw
