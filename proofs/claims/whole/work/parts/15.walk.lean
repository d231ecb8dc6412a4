abbrev rmX9_copyChunk : Room := { frames := 0, cells := 0, slots := 0, locals := 0 }
abbrev wsX9_copyChunk : List Cond := Cond.code yX9_copyChunk cX9_copyChunk 4 none :: lw_good
set_option maxHeartbeats 4000000 in
set_option maxRecDepth 100000 in
theorem bX9_copyChunk_2 {p : Program} {l : Launch} {e : Env} {s : State} {m : MethodId} {args : Array Value} {below : List Frame} {meth : Method} {c : Code} (hC : mw_C p s m args meth c cX9_copyChunk RX9 none lw_good 4) (D : va_G) (G : Nat → ClassId) (N : Nat) {b : Nat} {S0 : mw_M} {z : mm_M} : ∀ (n : Nat) (y1 : Int32) (y2 : Int32) (y3 : Int32) (S : mm_M) (H : Heap) (locs : List Loc) (ls : Array Slot), pf_X9_copyChunk_2 G N n y1 y2 y3 S = some z → lv_has ls 4 [(0, .ref b), (1, .int y1), (2, .int y2), (3, .int y3)] → mm_W D vwCl (mw_tys G) mw_aos s G b S0 S H locs → W p l e (headSpec wsX9_copyChunk rmX9_copyChunk).room s m args below meth c H locs 0 0 (MQ below (mm_Qv D vwCl (mw_tys G) mw_aos G b S0 z) args s 0 0 (mm_A b S0)) (F0 m 2 ls []) := by
  obtain ⟨hx, hb, hml, hown, hts, hr, hlocks⟩ := hC
  intro n
  induction n with
  | zero => intro y1 y2 y3 S H locs ls hf; rw [pf_X9_copyChunk_2] at hf; cases hf
  | succ n ih =>
    intro y1 y2 y3 S H locs ls hf hl hw
    rw [pf_X9_copyChunk_2] at hf
    refine lv_iload_n hx hb dX9_copyChunk_2 rfl (lv_at hl 3 rfl) ?_
    refine lv_aload_n hx hb dX9_copyChunk_3 rfl (lv_at hl 0 rfl) ?_
    refine mm_getr hx hb hts inX9 hown hw rfl 22 (by decide) (hts _ tw_745) rfl 11 (fun _ _ => rfl) dX9_copyChunk_4 ?_
    refine lv_iload_n hx hb dX9_copyChunk_7 rfl (lv_at hl 1 rfl) ?_
    obtain ⟨v1, e1, hf⟩ := mw_b hf
    refine mm_iald hx hb hw 11 (by decide) 0 rfl e1 dX9_copyChunk_8 ?_
    refine lv_icmp_ge hx hb dX9_copyChunk_9 (tgt := 42) (by decide) (fun hc => ?_) (fun hc => ?_)
    · rw [if_pos hc] at hf
      refine lv_aload_n hx hb dX9_copyChunk_42 rfl (lv_at hl 0 rfl) ?_
      refine mm_getr hx hb hts inX9 hown hw rfl 22 (by decide) (hts _ tw_745) rfl 11 (fun _ _ => rfl) dX9_copyChunk_43 ?_
      refine lv_iload_n hx hb dX9_copyChunk_46 rfl (lv_at hl 2 rfl) ?_
      refine lv_aload_n hx hb dX9_copyChunk_47 rfl (lv_at hl 0 rfl) ?_
      refine mm_getr hx hb hts inX9 hown hw rfl 22 (by decide) (hts _ tw_745) rfl 11 (fun _ _ => rfl) dX9_copyChunk_48 ?_
      refine lv_iload_n hx hb dX9_copyChunk_51 rfl (lv_at hl 1 rfl) ?_
      obtain ⟨v2, e2, hf⟩ := mw_b hf
      refine mm_iald hx hb hw 11 (by decide) 0 rfl e2 dX9_copyChunk_52 ?_
      obtain ⟨S3, e3, hf⟩ := mw_b hf
      refine mm_iast hx hb hw 11 (by decide) 0 rfl e3 dX9_copyChunk_53 (fun H locs hw => ?_)
      refine lv_aload_n hx hb dX9_copyChunk_54 rfl (lv_at hl 0 rfl) ?_
      refine mm_getr hx hb hts inX9 hown hw rfl 23 (by decide) (hts _ tw_746) rfl 12 (fun _ _ => rfl) dX9_copyChunk_55 ?_
      refine lv_iload_n hx hb dX9_copyChunk_58 rfl (lv_at hl 2 rfl) ?_
      refine lv_aload_n hx hb dX9_copyChunk_59 rfl (lv_at hl 0 rfl) ?_
      refine mm_getr hx hb hts inX9 hown hw rfl 23 (by decide) (hts _ tw_746) rfl 12 (fun _ _ => rfl) dX9_copyChunk_60 ?_
      refine lv_iload_n hx hb dX9_copyChunk_63 rfl (lv_at hl 1 rfl) ?_
      obtain ⟨v4, e4, hf⟩ := mw_b hf
      refine mm_iald hx hb hw 12 (by decide) 0 rfl e4 dX9_copyChunk_64 ?_
      obtain ⟨S5, e5, hf⟩ := mw_b hf
      refine mm_iast hx hb hw 12 (by decide) 0 rfl e5 dX9_copyChunk_65 (fun H locs hw => ?_)
      refine lv_aload_n hx hb dX9_copyChunk_66 rfl (lv_at hl 0 rfl) ?_
      refine mm_getr hx hb hts inX9 hown hw rfl 24 (by decide) (hts _ tw_747) rfl 13 (fun _ _ => rfl) dX9_copyChunk_67 ?_
      refine lv_iload_n hx hb dX9_copyChunk_70 rfl (lv_at hl 2 rfl) ?_
      refine lv_aload_n hx hb dX9_copyChunk_71 rfl (lv_at hl 0 rfl) ?_
      refine mm_getr hx hb hts inX9 hown hw rfl 24 (by decide) (hts _ tw_747) rfl 13 (fun _ _ => rfl) dX9_copyChunk_72 ?_
      refine lv_iload_n hx hb dX9_copyChunk_75 rfl (lv_at hl 1 rfl) ?_
      obtain ⟨v6, e6, hf⟩ := mw_b hf
      refine mm_iald hx hb hw 13 (by decide) 0 rfl e6 dX9_copyChunk_76 ?_
      obtain ⟨S7, e7, hf⟩ := mw_b hf
      refine mm_iast hx hb hw 13 (by decide) 0 rfl e7 dX9_copyChunk_77 (fun H locs hw => ?_)
      refine lv_aload_n hx hb dX9_copyChunk_78 rfl (lv_at hl 0 rfl) ?_
      refine mm_getr hx hb hts inX9 hown hw rfl 25 (by decide) (hts _ tw_748) rfl 14 (fun _ _ => rfl) dX9_copyChunk_79 ?_
      refine lv_iload_n hx hb dX9_copyChunk_82 rfl (lv_at hl 2 rfl) ?_
      refine lv_aload_n hx hb dX9_copyChunk_83 rfl (lv_at hl 0 rfl) ?_
      refine mm_getr hx hb hts inX9 hown hw rfl 25 (by decide) (hts _ tw_748) rfl 14 (fun _ _ => rfl) dX9_copyChunk_84 ?_
      refine lv_iload_n hx hb dX9_copyChunk_87 rfl (lv_at hl 1 rfl) ?_
      obtain ⟨v8, e8, hf⟩ := mw_b hf
      refine mm_iald hx hb hw 14 (by decide) 0 rfl e8 dX9_copyChunk_88 ?_
      obtain ⟨S9, e9, hf⟩ := mw_b hf
      refine mm_iast hx hb hw 14 (by decide) 0 rfl e9 dX9_copyChunk_89 (fun H locs hw => ?_)
      refine lv_aload_n hx hb dX9_copyChunk_90 rfl (lv_at hl 0 rfl) ?_
      refine mm_getr hx hb hts inX9 hown hw rfl 26 (by decide) (hts _ tw_749) rfl 15 (fun _ _ => rfl) dX9_copyChunk_91 ?_
      refine lv_iload_n hx hb dX9_copyChunk_94 rfl (lv_at hl 2 rfl) ?_
      refine lv_aload_n hx hb dX9_copyChunk_95 rfl (lv_at hl 0 rfl) ?_
      refine mm_getr hx hb hts inX9 hown hw rfl 26 (by decide) (hts _ tw_749) rfl 15 (fun _ _ => rfl) dX9_copyChunk_96 ?_
      refine lv_iload_n hx hb dX9_copyChunk_99 rfl (lv_at hl 1 rfl) ?_
      obtain ⟨v10, e10, hf⟩ := mw_b hf
      refine mm_iald hx hb hw 15 (by decide) 0 rfl e10 dX9_copyChunk_100 ?_
      obtain ⟨S11, e11, hf⟩ := mw_b hf
      refine mm_iast hx hb hw 15 (by decide) 0 rfl e11 dX9_copyChunk_101 (fun H locs hw => ?_)
      exact mm_vret hx hb hr hlocks hw hf dX9_copyChunk_102
    · rw [if_neg hc] at hf
      refine lv_aload_n hx hb dX9_copyChunk_12 rfl (lv_at hl 0 rfl) ?_
      refine mm_getr hx hb hts inX9 hown hw rfl 21 (by decide) (hts _ tw_744) rfl 10 (fun _ _ => rfl) dX9_copyChunk_13 ?_
      refine lv_sipush (v := 600) hx hb dX9_copyChunk_16 (by decide) ?_
      refine lv_iload_n hx hb dX9_copyChunk_19 rfl (lv_at hl 2 rfl) ?_
      refine lv_imul hx hb dX9_copyChunk_20 ?_
      refine lv_iload_n hx hb dX9_copyChunk_21 rfl (lv_at hl 3 rfl) ?_
      refine lv_iadd hx hb dX9_copyChunk_22 ?_
      refine lv_aload_n hx hb dX9_copyChunk_23 rfl (lv_at hl 0 rfl) ?_
      refine mm_getr hx hb hts inX9 hown hw rfl 21 (by decide) (hts _ tw_744) rfl 10 (fun _ _ => rfl) dX9_copyChunk_24 ?_
      refine lv_sipush (v := 600) hx hb dX9_copyChunk_27 (by decide) ?_
      refine lv_iload_n hx hb dX9_copyChunk_30 rfl (lv_at hl 1 rfl) ?_
      refine lv_imul hx hb dX9_copyChunk_31 ?_
      refine lv_iload_n hx hb dX9_copyChunk_32 rfl (lv_at hl 3 rfl) ?_
      refine lv_iadd hx hb dX9_copyChunk_33 ?_
      obtain ⟨v12, e12, hf⟩ := mw_b hf
      refine mm_iald hx hb hw 10 (by decide) 0 rfl e12 dX9_copyChunk_34 ?_
      obtain ⟨S13, e13, hf⟩ := mw_b hf
      refine mm_iast hx hb hw 10 (by decide) 0 rfl e13 dX9_copyChunk_35 (fun H locs hw => ?_)
      refine lv_iinc (k := 3) (v := (y3 + 1)) hx hb dX9_copyChunk_36 hl rfl (congrArg (fun q => y3 + q) (show Int32.ofInt 1 = 1 by decide)) (by decide) rfl (fun ls hl => ?_)
      have hl : lv_has ls 4 [(3, .int (y3 + 1)), (0, .ref b), (1, .int y1), (2, .int y2)] := hl
      refine lv_goto hx hb dX9_copyChunk_39 (tgt := 2) (by decide) ?_
      exact ih _ _ _ _ _ _ _ hf (lv_sub hl [1, 2, 3, 0] rfl) hw
set_option maxHeartbeats 4000000 in
set_option maxRecDepth 100000 in
theorem cm_X9_copyChunk (l : Launch) (D : va_G) (G : Nat → ClassId) (N : Nat) (b : Nat) (S0 : mw_M) (S : mm_M) (x1 : Int32) (x2 : Int32) (z : mm_M) (hf : pf_X9_copyChunk G N S x1 x2 = some z) : Met l yX9_copyChunk wsX9_copyChunk rmX9_copyChunk (va_Pc [.ref b, .int x1, .int x2] (mm_B D vwCl (mw_tys G) mw_aos G b S0 S)) (mm_Qv D vwCl (mw_tys G) mw_aos G b S0 z) 0 0 (mm_A b S0) := by
  refine Met.ofW (cc := cX9_copyChunk) (maxL := 4) (ret := none) (by decide) rfl ?_
  intro p e s m args below meth c s₁ B hml hv
  obtain ⟨rfl, hB⟩ := hv
  have hw := mm_begin hB
  have hx := B.exec
  have hb := B.bytes
  have hr := B.returns
  have hts : ∀ w ∈ lw_good, w.before _ s = true := fun w h => atoms_spec (ws := wsX9_copyChunk) B.pre w (List.mem_cons_of_mem _ h)
  have hown : s.vm.findClass RX9 = some m.cls := findClass_of_methodNamed B.named
  have hlocks := B.notSynchronized
  have hC : mw_C p s m _ meth c cX9_copyChunk RX9 none lw_good 4 := ⟨hx, hb, hml, hown, hts, hr, hlocks⟩
  have hl := lv_entry ([.ref b, .int x1, .int x2]) (n := 4) (Nat.le_of_ble_eq_true rfl)
  rw [lg_entry_eq]
  generalize (lg_sl ([.ref b, .int x1, .int x2]) ++ List.replicate (4 - (lg_sl ([.ref b, .int x1, .int x2])).length) Slot.unset).toArray = ls at hl ⊢
  have hl : lv_has ls 4 [(0, .ref b), (1, .int x1), (2, .int x2)] := hl
  unfold pf_X9_copyChunk at hf
  refine lv_iconst (v := 0) hx hb dX9_copyChunk_0 (by decide) ?_
  refine lv_istore_n hx hb dX9_copyChunk_1 rfl hl (by decide) rfl (fun ls hl => ?_)
  have hl : lv_has ls 4 [(3, .int 0), (0, .ref b), (1, .int x1), (2, .int x2)] := hl
  exact bX9_copyChunk_2 ⟨hx, hb, hml, hown, hts, hr, hlocks⟩ D G N N _ _ _ _ _ _ _ hf (lv_sub hl [1, 2, 3, 0] rfl) hw
abbrev rmX9_rotate : Room := { frames := 2, cells := 0, slots := 0, locals := 46 }
abbrev wsX9_rotate : List Cond := Cond.code yX9_rotate cX9_rotate 3 none :: lw_good
set_option maxHeartbeats 4000000 in
set_option maxRecDepth 100000 in
theorem bX9_rotate_162 {p : Program} {l : Launch} {e : Env} {s : State} {m : MethodId} {args : Array Value} {below : List Frame} {meth : Method} {c : Code} (hC : mw_C p s m args meth c cX9_rotate RX9 none lw_good 3) (D : va_G) (G : Nat → ClassId) (N : Nat) {b : Nat} {S0 : mw_M} {z : mm_M} : ∀ (S : mm_M) (H : Heap) (locs : List Loc) (ls : Array Slot), pf_X9_rotate_162 G N S = some z → lv_has ls 3 [(0, .ref b)] → mm_W D vwCl (mw_tys G) mw_aos s G b S0 S H locs → W p l e (headSpec wsX9_rotate rmX9_rotate).room s m args below meth c H locs 0 0 (MQ below (mm_Qv D vwCl (mw_tys G) mw_aos G b S0 z) args s 0 0 (mm_A b S0)) (F0 m 162 ls []) := by
  obtain ⟨hx, hb, hml, hown, hts, hr, hlocks⟩ := hC
  intro S H locs ls hf hl hw
  unfold pf_X9_rotate_162 at hf
  refine lv_aload_n hx hb dX9_rotate_162 rfl (lv_at hl 0 rfl) ?_
  refine mm_getr hx hb hts inX9 hown hw rfl 23 (by decide) (hts _ tw_746) rfl 12 (fun _ _ => rfl) dX9_rotate_163 ?_
  refine lv_bipush (v := 6) hx hb dX9_rotate_166 (by decide) ?_
  refine lv_dup2_11 hx hb dX9_rotate_168 rfl rfl ?_
  obtain ⟨v1, e1, hf⟩ := mw_b hf
  refine mm_iald hx hb hw 12 (by decide) 0 rfl e1 dX9_rotate_169 ?_
  refine lv_iconst (v := 1) hx hb dX9_rotate_170 (by decide) ?_
  refine lv_iadd hx hb dX9_rotate_171 ?_
  obtain ⟨S2, e2, hf⟩ := mw_b hf
  refine mm_iast hx hb hw 12 (by decide) 0 rfl e2 dX9_rotate_172 (fun H locs hw => ?_)
  refine lv_aload_n hx hb dX9_rotate_173 rfl (lv_at hl 0 rfl) ?_
  refine mm_getr hx hb hts inX9 hown hw rfl 24 (by decide) (hts _ tw_747) rfl 13 (fun _ _ => rfl) dX9_rotate_174 ?_
  refine lv_bipush (v := 6) hx hb dX9_rotate_177 (by decide) ?_
  refine lv_aload_n hx hb dX9_rotate_179 rfl (lv_at hl 0 rfl) ?_
  refine mm_geti hx hb hts inX9 hown hw rfl 3 (by decide) (hts _ tw_726) rfl (fun _ _ => rfl) dX9_rotate_180 ?_
  obtain ⟨S3, e3, hf⟩ := mw_b hf
  refine mm_iast hx hb hw 13 (by decide) 0 rfl e3 dX9_rotate_183 (fun H locs hw => ?_)
  refine lv_aload_n hx hb dX9_rotate_184 rfl (lv_at hl 0 rfl) ?_
  refine mm_getr hx hb hts inX9 hown hw rfl 22 (by decide) (hts _ tw_745) rfl 11 (fun _ _ => rfl) dX9_rotate_185 ?_
  refine lv_bipush (v := 6) hx hb dX9_rotate_188 (by decide) ?_
  refine lv_iconst (v := 0) hx hb dX9_rotate_190 (by decide) ?_
  obtain ⟨S4, e4, hf⟩ := mw_b hf
  refine mm_iast hx hb hw 11 (by decide) 0 rfl e4 dX9_rotate_191 (fun H locs hw => ?_)
  refine lv_aload_n hx hb dX9_rotate_192 rfl (lv_at hl 0 rfl) ?_
  refine mm_getr hx hb hts inX9 hown hw rfl 25 (by decide) (hts _ tw_748) rfl 14 (fun _ _ => rfl) dX9_rotate_193 ?_
  refine lv_bipush (v := 6) hx hb dX9_rotate_196 (by decide) ?_
  refine lv_iconst (v := 0) hx hb dX9_rotate_198 (by decide) ?_
  obtain ⟨S5, e5, hf⟩ := mw_b hf
  refine mm_iast hx hb hw 14 (by decide) 0 rfl e5 dX9_rotate_199 (fun H locs hw => ?_)
  refine lv_aload_n hx hb dX9_rotate_200 rfl (lv_at hl 0 rfl) ?_
  refine mm_getr hx hb hts inX9 hown hw rfl 26 (by decide) (hts _ tw_749) rfl 15 (fun _ _ => rfl) dX9_rotate_201 ?_
  refine lv_bipush (v := 6) hx hb dX9_rotate_204 (by decide) ?_
  refine lv_iconst (v := 0) hx hb dX9_rotate_206 (by decide) ?_
  obtain ⟨S6, e6, hf⟩ := mw_b hf
  refine mm_iast hx hb hw 15 (by decide) 0 rfl e6 dX9_rotate_207 (fun H locs hw => ?_)
  exact mm_vret hx hb hr hlocks hw hf dX9_rotate_208
set_option maxHeartbeats 4000000 in
set_option maxRecDepth 100000 in
theorem bX9_rotate_118 {p : Program} {l : Launch} {e : Env} {s : State} {m : MethodId} {args : Array Value} {below : List Frame} {meth : Method} {c : Code} (hC : mw_C p s m args meth c cX9_rotate RX9 none lw_good 3) (D : va_G) (G : Nat → ClassId) (N : Nat) {b : Nat} {S0 : mw_M} {z : mm_M} : ∀ (n : Nat) (y1 : Int32) (S : mm_M) (H : Heap) (locs : List Loc) (ls : Array Slot), pf_X9_rotate_118 G N n y1 S = some z → lv_has ls 3 [(0, .ref b), (1, .int y1)] → mm_W D vwCl (mw_tys G) mw_aos s G b S0 S H locs → W p l e (headSpec wsX9_rotate rmX9_rotate).room s m args below meth c H locs 0 0 (MQ below (mm_Qv D vwCl (mw_tys G) mw_aos G b S0 z) args s 0 0 (mm_A b S0)) (F0 m 118 ls []) := by
  obtain ⟨hx, hb, hml, hown, hts, hr, hlocks⟩ := hC
  intro n
  induction n with
  | zero => intro y1 S H locs ls hf; rw [pf_X9_rotate_118] at hf; cases hf
  | succ n ih =>
    intro y1 S H locs ls hf hl hw
    rw [pf_X9_rotate_118] at hf
    refine lv_iload_n hx hb dX9_rotate_118 rfl (lv_at hl 1 rfl) ?_
    refine lv_iconst (v := 1) hx hb dX9_rotate_119 (by decide) ?_
    refine lv_iadd hx hb dX9_rotate_120 ?_
    refine lv_aload_n hx hb dX9_rotate_121 rfl (lv_at hl 0 rfl) ?_
    refine mm_geti hx hb hts inX9 hown hw rfl 19 (by decide) (hts _ tw_742) rfl (fun _ _ => rfl) dX9_rotate_122 ?_
    refine lv_icmp_ge hx hb dX9_rotate_125 (tgt := 142) (by decide) (fun hc => ?_) (fun hc => ?_)
    · rw [if_pos hc] at hf
      refine lv_aload_n hx hb dX9_rotate_142 rfl (lv_at hl 0 rfl) ?_
      refine lv_dup hx hb dX9_rotate_143 rfl ?_
      refine mm_geti hx hb hts inX9 hown hw rfl 19 (by decide) (hts _ tw_742) rfl (fun _ _ => rfl) dX9_rotate_144 ?_
      refine lv_iconst (v := 1) hx hb dX9_rotate_147 (by decide) ?_
      refine lv_isub hx hb dX9_rotate_148 ?_
      obtain ⟨S1, e1, hf⟩ := mw_b hf
      refine mm_put hx hb hts inX9 tyX9 tyX9_ok nX9 hown hw rfl 19 (by decide) (hts _ tw_742) rfl rfl (by decide +kernel) (by decide) (mm_st19 _) e1 dX9_rotate_149 (fun H locs hw => ?_)
      refine lv_aload_n hx hb dX9_rotate_152 rfl (lv_at hl 0 rfl) ?_
      refine lv_dup hx hb dX9_rotate_153 rfl ?_
      refine mm_geti hx hb hts inX9 hown hw rfl 20 (by decide) (hts _ tw_743) rfl (fun _ _ => rfl) dX9_rotate_154 ?_
      refine lv_iconst (v := 1) hx hb dX9_rotate_157 (by decide) ?_
      refine lv_iadd hx hb dX9_rotate_158 ?_
      obtain ⟨S2, e2, hf⟩ := mw_b hf
      refine mm_put hx hb hts inX9 tyX9 tyX9_ok nX9 hown hw rfl 20 (by decide) (hts _ tw_743) rfl rfl (by decide +kernel) (by decide) (mm_st20 _) e2 dX9_rotate_159 (fun H locs hw => ?_)
      exact bX9_rotate_162 ⟨hx, hb, hml, hown, hts, hr, hlocks⟩ D G N _ _ _ _ hf (lv_sub hl [0] rfl) hw
    · rw [if_neg hc] at hf
      refine lv_aload_n hx hb dX9_rotate_128 rfl (lv_at hl 0 rfl) ?_
      refine lv_iload_n hx hb dX9_rotate_129 rfl (lv_at hl 1 rfl) ?_
      refine lv_iconst (v := 1) hx hb dX9_rotate_130 (by decide) ?_
      refine lv_iadd hx hb dX9_rotate_131 ?_
      refine lv_iload_n hx hb dX9_rotate_132 rfl (lv_at hl 1 rfl) ?_
      obtain ⟨S3, e3, hf⟩ := mw_b hf
      refine mm_callv (va_runV (As := [.int (y1 + 1), .int y1]) (rest := []) ⟨hx, hb, hml, hown, hts⟩ (cm_X9_copyChunk l D G N b S0 S (y1 + 1) y1 S3 e3) (cwV 2 hts (mw_gV tw_914 tw_916 tp_26 tw_11 tw_917) rfl rfl rfl (by decide +kernel) ⟨Nat.le_of_ble_eq_true rfl, Nat.le_of_ble_eq_true rfl⟩) (mm_preV hw rfl) rfl rfl hl.1 rfl (lv_room (Nat.le_of_ble_eq_true rfl)) dX9_rotate_133 ⟨(Nat.le_of_ble_eq_true rfl), (Nat.le_of_ble_eq_true rfl)⟩) hw (fun H locs hw => ?_)
      refine lv_iinc (k := 1) (v := (y1 + 1)) hx hb dX9_rotate_136 hl rfl (congrArg (fun q => y1 + q) (show Int32.ofInt 1 = 1 by decide)) (by decide) rfl (fun ls hl => ?_)
      have hl : lv_has ls 3 [(1, .int (y1 + 1)), (0, .ref b)] := hl
      refine lv_goto hx hb dX9_rotate_139 (tgt := 118) (by decide) ?_
      exact ih _ _ _ _ _ hf (lv_sub hl [1, 0] rfl) hw
set_option maxHeartbeats 4000000 in
set_option maxRecDepth 100000 in
theorem bX9_rotate_105 {p : Program} {l : Launch} {e : Env} {s : State} {m : MethodId} {args : Array Value} {below : List Frame} {meth : Method} {c : Code} (hC : mw_C p s m args meth c cX9_rotate RX9 none lw_good 3) (D : va_G) (G : Nat → ClassId) (N : Nat) {b : Nat} {S0 : mw_M} {z : mm_M} : ∀ (S : mm_M) (H : Heap) (locs : List Loc) (ls : Array Slot), pf_X9_rotate_105 G N S = some z → lv_has ls 3 [(0, .ref b)] → mm_W D vwCl (mw_tys G) mw_aos s G b S0 S H locs → W p l e (headSpec wsX9_rotate rmX9_rotate).room s m args below meth c H locs 0 0 (MQ below (mm_Qv D vwCl (mw_tys G) mw_aos G b S0 z) args s 0 0 (mm_A b S0)) (F0 m 105 ls []) := by
  obtain ⟨hx, hb, hml, hown, hts, hr, hlocks⟩ := hC
  intro S H locs ls hf hl hw
  unfold pf_X9_rotate_105 at hf
  refine lv_aload_n hx hb dX9_rotate_105 rfl (lv_at hl 0 rfl) ?_
  refine mm_geti hx hb hts inX9 hown hw rfl 19 (by decide) (hts _ tw_742) rfl (fun _ _ => rfl) dX9_rotate_106 ?_
  refine lv_aload_n hx hb dX9_rotate_109 rfl (lv_at hl 0 rfl) ?_
  refine mm_geti hx hb hts inX9 hown hw rfl 2 (by decide) (hts _ tw_725) rfl (fun _ _ => rfl) dX9_rotate_110 ?_
  refine lv_icmp_le hx hb dX9_rotate_113 (tgt := 162) (by decide) (fun hc => ?_) (fun hc => ?_)
  · rw [if_pos hc] at hf
    exact bX9_rotate_162 ⟨hx, hb, hml, hown, hts, hr, hlocks⟩ D G N _ _ _ _ hf (lv_sub hl [0] rfl) hw
  · rw [if_neg hc] at hf
    refine lv_iconst (v := 0) hx hb dX9_rotate_116 (by decide) ?_
    refine lv_istore_n hx hb dX9_rotate_117 rfl hl (by decide) rfl (fun ls hl => ?_)
    have hl : lv_has ls 3 [(1, .int 0), (0, .ref b)] := hl
    exact bX9_rotate_118 ⟨hx, hb, hml, hown, hts, hr, hlocks⟩ D G N N _ _ _ _ _ hf (lv_sub hl [1, 0] rfl) hw
set_option maxHeartbeats 4000000 in
set_option maxRecDepth 100000 in
theorem bX9_rotate_50 {p : Program} {l : Launch} {e : Env} {s : State} {m : MethodId} {args : Array Value} {below : List Frame} {meth : Method} {c : Code} (hC : mw_C p s m args meth c cX9_rotate RX9 none lw_good 3) (D : va_G) (G : Nat → ClassId) (N : Nat) {b : Nat} {S0 : mw_M} {z : mm_M} : ∀ (n : Nat) (y1 : Int32) (S : mm_M) (H : Heap) (locs : List Loc) (ls : Array Slot), pf_X9_rotate_50 G N n y1 S = some z → lv_has ls 3 [(0, .ref b), (1, .int y1)] → mm_W D vwCl (mw_tys G) mw_aos s G b S0 S H locs → W p l e (headSpec wsX9_rotate rmX9_rotate).room s m args below meth c H locs 0 0 (MQ below (mm_Qv D vwCl (mw_tys G) mw_aos G b S0 z) args s 0 0 (mm_A b S0)) (F0 m 50 ls []) := by
  obtain ⟨hx, hb, hml, hown, hts, hr, hlocks⟩ := hC
  intro n
  induction n with
  | zero => intro y1 S H locs ls hf; rw [pf_X9_rotate_50] at hf; cases hf
  | succ n ih =>
    intro y1 S H locs ls hf hl hw
    rw [pf_X9_rotate_50] at hf
    refine lv_iload_n hx hb dX9_rotate_50 rfl (lv_at hl 1 rfl) ?_
    refine lv_iconst (v := 3) hx hb dX9_rotate_51 (by decide) ?_
    refine lv_icmp_ge hx hb dX9_rotate_52 (tgt := 75) (by decide) (fun hc => ?_) (fun hc => ?_)
    · rw [if_pos hc] at hf
      refine lv_aload_n hx hb dX9_rotate_75 rfl (lv_at hl 0 rfl) ?_
      refine mm_getr hx hb hts inX9 hown hw rfl 22 (by decide) (hts _ tw_745) rfl 11 (fun _ _ => rfl) dX9_rotate_76 ?_
      refine lv_bipush (v := 6) hx hb dX9_rotate_79 (by decide) ?_
      obtain ⟨v1, e1, hf⟩ := mw_b hf
      refine mm_iald hx hb hw 11 (by decide) 0 rfl e1 dX9_rotate_81 ?_
      refine lv_if_le hx hb dX9_rotate_82 (tgt := 105) (by decide) (fun hc => ?_) (fun hc => ?_)
      · rw [if_pos hc] at hf
        exact bX9_rotate_105 ⟨hx, hb, hml, hown, hts, hr, hlocks⟩ D G N _ _ _ _ hf (lv_sub hl [0] rfl) hw
      · rw [if_neg hc] at hf
        refine lv_aload_n hx hb dX9_rotate_85 rfl (lv_at hl 0 rfl) ?_
        refine lv_bipush (v := 6) hx hb dX9_rotate_86 (by decide) ?_
        refine lv_aload_n hx hb dX9_rotate_88 rfl (lv_at hl 0 rfl) ?_
        refine mm_geti hx hb hts inX9 hown hw rfl 19 (by decide) (hts _ tw_742) rfl (fun _ _ => rfl) dX9_rotate_89 ?_
        obtain ⟨S2, e2, hf⟩ := mw_b hf
        refine mm_callv (va_runV (As := [.int 6, .int (S.1 19)]) (rest := []) ⟨hx, hb, hml, hown, hts⟩ (cm_X9_copyChunk l D G N b S0 S 6 (S.1 19) S2 e2) (cwV 2 hts (mw_gV tw_914 tw_916 tp_26 tw_11 tw_917) rfl rfl rfl (by decide +kernel) ⟨Nat.le_of_ble_eq_true rfl, Nat.le_of_ble_eq_true rfl⟩) (mm_preV hw rfl) rfl rfl hl.1 rfl (lv_room (Nat.le_of_ble_eq_true rfl)) dX9_rotate_92 ⟨(Nat.le_of_ble_eq_true rfl), (Nat.le_of_ble_eq_true rfl)⟩) hw (fun H locs hw => ?_)
        refine lv_aload_n hx hb dX9_rotate_95 rfl (lv_at hl 0 rfl) ?_
        refine lv_dup hx hb dX9_rotate_96 rfl ?_
        refine mm_geti hx hb hts inX9 hown hw rfl 19 (by decide) (hts _ tw_742) rfl (fun _ _ => rfl) dX9_rotate_97 ?_
        refine lv_iconst (v := 1) hx hb dX9_rotate_100 (by decide) ?_
        refine lv_iadd hx hb dX9_rotate_101 ?_
        obtain ⟨S3, e3, hf⟩ := mw_b hf
        refine mm_put hx hb hts inX9 tyX9 tyX9_ok nX9 hown hw rfl 19 (by decide) (hts _ tw_742) rfl rfl (by decide +kernel) (by decide) (mm_st19 _) e3 dX9_rotate_102 (fun H locs hw => ?_)
        exact bX9_rotate_105 ⟨hx, hb, hml, hown, hts, hr, hlocks⟩ D G N _ _ _ _ hf (lv_sub hl [0] rfl) hw
    · rw [if_neg hc] at hf
      refine lv_aload_n hx hb dX9_rotate_55 rfl (lv_at hl 0 rfl) ?_
      refine mm_getr hx hb hts inX9 hown hw rfl 27 (by decide) (hts _ tw_750) rfl 16 (fun _ _ => rfl) dX9_rotate_56 ?_
      refine lv_iload_n hx hb dX9_rotate_59 rfl (lv_at hl 1 rfl) ?_
      obtain ⟨v4, e4, hf⟩ := mw_b hf
      refine mm_iald hx hb hw 16 (by decide) 0 rfl e4 dX9_rotate_60 ?_
      refine lv_if_le hx hb dX9_rotate_61 (tgt := 69) (by decide) (fun hc => ?_) (fun hc => ?_)
      · rw [if_pos hc] at hf
        refine lv_iinc (k := 1) (v := (y1 + 1)) hx hb dX9_rotate_69 hl rfl (congrArg (fun q => y1 + q) (show Int32.ofInt 1 = 1 by decide)) (by decide) rfl (fun ls hl => ?_)
        have hl : lv_has ls 3 [(1, .int (y1 + 1)), (0, .ref b)] := hl
        refine lv_goto hx hb dX9_rotate_72 (tgt := 50) (by decide) ?_
        exact ih _ _ _ _ _ hf (lv_sub hl [1, 0] rfl) hw
      · rw [if_neg hc] at hf
        refine lv_aload_n hx hb dX9_rotate_64 rfl (lv_at hl 0 rfl) ?_
        refine lv_iload_n hx hb dX9_rotate_65 rfl (lv_at hl 1 rfl) ?_
        obtain ⟨S5, e5, hf⟩ := mw_b hf
        refine mm_callv (va_runV (As := [.int y1]) (rest := []) ⟨hx, hb, hml, hown, hts⟩ (cm_X9_loss l D G N b S0 S y1 S5 e5) (cwV 1 hts (mw_gV tw_906 tw_908 tp_24 tw_11 tw_909) rfl rfl rfl (by decide +kernel) ⟨Nat.le_of_ble_eq_true rfl, Nat.le_of_ble_eq_true rfl⟩) (mm_preV hw rfl) rfl rfl hl.1 rfl (lv_room (Nat.le_of_ble_eq_true rfl)) dX9_rotate_66 ⟨(Nat.le_of_ble_eq_true rfl), (Nat.le_of_ble_eq_true rfl)⟩) hw (fun H locs hw => ?_)
        refine lv_iinc (k := 1) (v := (y1 + 1)) hx hb dX9_rotate_69 hl rfl (congrArg (fun q => y1 + q) (show Int32.ofInt 1 = 1 by decide)) (by decide) rfl (fun ls hl => ?_)
        have hl : lv_has ls 3 [(1, .int (y1 + 1)), (0, .ref b)] := hl
        refine lv_goto hx hb dX9_rotate_72 (tgt := 50) (by decide) ?_
        exact ih _ _ _ _ _ hf (lv_sub hl [1, 0] rfl) hw
set_option maxHeartbeats 4000000 in
set_option maxRecDepth 100000 in
theorem bX9_rotate_31 {p : Program} {l : Launch} {e : Env} {s : State} {m : MethodId} {args : Array Value} {below : List Frame} {meth : Method} {c : Code} (hC : mw_C p s m args meth c cX9_rotate RX9 none lw_good 3) (D : va_G) (G : Nat → ClassId) (N : Nat) {b : Nat} {S0 : mw_M} {z : mm_M} : ∀ (n : Nat) (y1 : Int32) (S : mm_M) (H : Heap) (locs : List Loc) (ls : Array Slot), pf_X9_rotate_31 G N n y1 S = some z → lv_has ls 3 [(0, .ref b), (1, .int y1)] → mm_W D vwCl (mw_tys G) mw_aos s G b S0 S H locs → W p l e (headSpec wsX9_rotate rmX9_rotate).room s m args below meth c H locs 0 0 (MQ below (mm_Qv D vwCl (mw_tys G) mw_aos G b S0 z) args s 0 0 (mm_A b S0)) (F0 m 31 ls []) := by
  obtain ⟨hx, hb, hml, hown, hts, hr, hlocks⟩ := hC
  intro n
  induction n with
  | zero => intro y1 S H locs ls hf; rw [pf_X9_rotate_31] at hf; cases hf
  | succ n ih =>
    intro y1 S H locs ls hf hl hw
    rw [pf_X9_rotate_31] at hf
    refine lv_iload_n hx hb dX9_rotate_31 rfl (lv_at hl 1 rfl) ?_
    refine lv_iconst (v := 3) hx hb dX9_rotate_32 (by decide) ?_
    refine lv_icmp_ge hx hb dX9_rotate_33 (tgt := 48) (by decide) (fun hc => ?_) (fun hc => ?_)
    · rw [if_pos hc] at hf
      refine lv_iconst (v := 0) hx hb dX9_rotate_48 (by decide) ?_
      refine lv_istore_n hx hb dX9_rotate_49 rfl hl (by decide) rfl (fun ls hl => ?_)
      have hl : lv_has ls 3 [(1, .int 0), (0, .ref b)] := hl
      exact bX9_rotate_50 ⟨hx, hb, hml, hown, hts, hr, hlocks⟩ D G N N _ _ _ _ _ hf (lv_sub hl [1, 0] rfl) hw
    · rw [if_neg hc] at hf
      refine lv_aload_n hx hb dX9_rotate_36 rfl (lv_at hl 0 rfl) ?_
      refine lv_iload_n hx hb dX9_rotate_37 rfl (lv_at hl 1 rfl) ?_
      obtain ⟨v1, S1, e1, hf⟩ := mw_bb hf
      refine mm_calli (va_runV (As := [.int y1]) (rest := []) ⟨hx, hb, hml, hown, hts⟩ (cm_X9_drain l D G N b S0 S y1 (v1, S1) e1) (cwV 1 hts (mw_gV tw_898 tw_900 tp_22 tw_11 tw_901) rfl rfl rfl (by decide +kernel) ⟨Nat.le_of_ble_eq_true rfl, Nat.le_of_ble_eq_true rfl⟩) (mm_preV hw rfl) rfl rfl hl.1 rfl (lv_room (Nat.le_of_ble_eq_true rfl)) dX9_rotate_38 ⟨(Nat.le_of_ble_eq_true rfl), (Nat.le_of_ble_eq_true rfl)⟩) hw (fun H locs hw => ?_)
      refine lv_istore_n hx hb dX9_rotate_41 rfl hl (by decide) rfl (fun ls hl => ?_)
      have hl : lv_has ls 3 [(2, .int v1), (0, .ref b), (1, .int y1)] := hl
      refine lv_iinc (k := 2) (v := (y1 + 1)) hx hb dX9_rotate_42 hl rfl (congrArg (fun q => y1 + q) (show Int32.ofInt 1 = 1 by decide)) (by decide) rfl (fun ls hl => ?_)
      have hl : lv_has ls 3 [(1, .int (y1 + 1)), (2, .int v1), (0, .ref b)] := hl
      refine lv_goto hx hb dX9_rotate_45 (tgt := 31) (by decide) ?_
      exact ih _ _ _ _ _ hf (lv_sub hl [2, 0] rfl) hw
set_option maxHeartbeats 4000000 in
set_option maxRecDepth 100000 in
theorem bX9_rotate_2 {p : Program} {l : Launch} {e : Env} {s : State} {m : MethodId} {args : Array Value} {below : List Frame} {meth : Method} {c : Code} (hC : mw_C p s m args meth c cX9_rotate RX9 none lw_good 3) (D : va_G) (G : Nat → ClassId) (N : Nat) {b : Nat} {S0 : mw_M} {z : mm_M} : ∀ (n : Nat) (y1 : Int32) (S : mm_M) (H : Heap) (locs : List Loc) (ls : Array Slot), pf_X9_rotate_2 G N n y1 S = some z → lv_has ls 3 [(0, .ref b), (1, .int y1)] → mm_W D vwCl (mw_tys G) mw_aos s G b S0 S H locs → W p l e (headSpec wsX9_rotate rmX9_rotate).room s m args below meth c H locs 0 0 (MQ below (mm_Qv D vwCl (mw_tys G) mw_aos G b S0 z) args s 0 0 (mm_A b S0)) (F0 m 2 ls []) := by
  obtain ⟨hx, hb, hml, hown, hts, hr, hlocks⟩ := hC
  intro n
  induction n with
  | zero => intro y1 S H locs ls hf; rw [pf_X9_rotate_2] at hf; cases hf
  | succ n ih =>
    intro y1 S H locs ls hf hl hw
    rw [pf_X9_rotate_2] at hf
    refine lv_iload_n hx hb dX9_rotate_2 rfl (lv_at hl 1 rfl) ?_
    refine lv_aload_n hx hb dX9_rotate_3 rfl (lv_at hl 0 rfl) ?_
    refine mm_geti hx hb hts inX9 hown hw rfl 18 (by decide) (hts _ tw_741) rfl (fun _ _ => rfl) dX9_rotate_4 ?_
    refine lv_icmp_ge hx hb dX9_rotate_7 (tgt := 24) (by decide) (fun hc => ?_) (fun hc => ?_)
    · rw [if_pos hc] at hf
      refine lv_aload_n hx hb dX9_rotate_24 rfl (lv_at hl 0 rfl) ?_
      refine lv_iconst (v := 0) hx hb dX9_rotate_25 (by decide) ?_
      obtain ⟨S1, e1, hf⟩ := mw_b hf
      refine mm_put hx hb hts inX9 tyX9 tyX9_ok nX9 hown hw rfl 18 (by decide) (hts _ tw_741) rfl rfl (by decide +kernel) (by decide) (mm_st18 _) e1 dX9_rotate_26 (fun H locs hw => ?_)
      refine lv_iconst (v := 0) hx hb dX9_rotate_29 (by decide) ?_
      refine lv_istore_n hx hb dX9_rotate_30 rfl hl (by decide) rfl (fun ls hl => ?_)
      have hl : lv_has ls 3 [(1, .int 0), (0, .ref b)] := hl
      exact bX9_rotate_31 ⟨hx, hb, hml, hown, hts, hr, hlocks⟩ D G N N _ _ _ _ _ hf (lv_sub hl [1, 0] rfl) hw
    · rw [if_neg hc] at hf
      refine lv_aload_n hx hb dX9_rotate_10 rfl (lv_at hl 0 rfl) ?_
      refine lv_iconst (v := 3) hx hb dX9_rotate_11 (by decide) ?_
      refine lv_iload_n hx hb dX9_rotate_12 rfl (lv_at hl 1 rfl) ?_
      refine lv_iadd hx hb dX9_rotate_13 ?_
      obtain ⟨v2, S2, e2, hf⟩ := mw_bb hf
      refine mm_calli (va_runV (As := [.int (3 + y1)]) (rest := []) ⟨hx, hb, hml, hown, hts⟩ (cm_X9_drain l D G N b S0 S (3 + y1) (v2, S2) e2) (cwV 1 hts (mw_gV tw_898 tw_900 tp_22 tw_11 tw_901) rfl rfl rfl (by decide +kernel) ⟨Nat.le_of_ble_eq_true rfl, Nat.le_of_ble_eq_true rfl⟩) (mm_preV hw rfl) rfl rfl hl.1 rfl (lv_room (Nat.le_of_ble_eq_true rfl)) dX9_rotate_14 ⟨(Nat.le_of_ble_eq_true rfl), (Nat.le_of_ble_eq_true rfl)⟩) hw (fun H locs hw => ?_)
      refine lv_istore_n hx hb dX9_rotate_17 rfl hl (by decide) rfl (fun ls hl => ?_)
      have hl : lv_has ls 3 [(2, .int v2), (0, .ref b), (1, .int y1)] := hl
      refine lv_iinc (k := 2) (v := (y1 + 1)) hx hb dX9_rotate_18 hl rfl (congrArg (fun q => y1 + q) (show Int32.ofInt 1 = 1 by decide)) (by decide) rfl (fun ls hl => ?_)
      have hl : lv_has ls 3 [(1, .int (y1 + 1)), (2, .int v2), (0, .ref b)] := hl
      refine lv_goto hx hb dX9_rotate_21 (tgt := 2) (by decide) ?_
      exact ih _ _ _ _ _ hf (lv_sub hl [2, 0] rfl) hw
set_option maxHeartbeats 4000000 in
set_option maxRecDepth 100000 in
theorem cm_X9_rotate (l : Launch) (D : va_G) (G : Nat → ClassId) (N : Nat) (b : Nat) (S0 : mw_M) (S : mm_M) (z : mm_M) (hf : pf_X9_rotate G N S = some z) : Met l yX9_rotate wsX9_rotate rmX9_rotate (va_Pc [.ref b] (mm_B D vwCl (mw_tys G) mw_aos G b S0 S)) (mm_Qv D vwCl (mw_tys G) mw_aos G b S0 z) 0 0 (mm_A b S0) := by
  refine Met.ofW (cc := cX9_rotate) (maxL := 3) (ret := none) (by decide) rfl ?_
  intro p e s m args below meth c s₁ B hml hv
  obtain ⟨rfl, hB⟩ := hv
  have hw := mm_begin hB
  have hx := B.exec
  have hb := B.bytes
  have hr := B.returns
  have hts : ∀ w ∈ lw_good, w.before _ s = true := fun w h => atoms_spec (ws := wsX9_rotate) B.pre w (List.mem_cons_of_mem _ h)
  have hown : s.vm.findClass RX9 = some m.cls := findClass_of_methodNamed B.named
  have hlocks := B.notSynchronized
  have hC : mw_C p s m _ meth c cX9_rotate RX9 none lw_good 3 := ⟨hx, hb, hml, hown, hts, hr, hlocks⟩
  have hl := lv_entry ([.ref b]) (n := 3) (Nat.le_of_ble_eq_true rfl)
  rw [lg_entry_eq]
  generalize (lg_sl ([.ref b]) ++ List.replicate (3 - (lg_sl ([.ref b])).length) Slot.unset).toArray = ls at hl ⊢
  have hl : lv_has ls 3 [(0, .ref b)] := hl
  unfold pf_X9_rotate at hf
  refine lv_iconst (v := 0) hx hb dX9_rotate_0 (by decide) ?_
  refine lv_istore_n hx hb dX9_rotate_1 rfl hl (by decide) rfl (fun ls hl => ?_)
  have hl : lv_has ls 3 [(1, .int 0), (0, .ref b)] := hl
  exact bX9_rotate_2 ⟨hx, hb, hml, hown, hts, hr, hlocks⟩ D G N N _ _ _ _ _ hf (lv_sub hl [1, 0] rfl) hw
abbrev rmX9_flush : Room := { frames := 3, cells := 0, slots := 0, locals := 68 }
abbrev wsX9_flush : List Cond := Cond.code yX9_flush cX9_flush 3 (some .int) :: lw_good
set_option maxHeartbeats 4000000 in
set_option maxRecDepth 100000 in
theorem bX9_flush_22 {p : Program} {l : Launch} {e : Env} {s : State} {m : MethodId} {args : Array Value} {below : List Frame} {meth : Method} {c : Code} (hC : mw_C p s m args meth c cX9_flush RX9 (some .int) lw_good 3) (D : va_G) (G : Nat → ClassId) (N : Nat) {b : Nat} {S0 : mw_M} {z : Int32 × mm_M} : ∀ (n : Nat) (y1 : Int32) (y2 : Int32) (S : mm_M) (H : Heap) (locs : List Loc) (ls : Array Slot), pf_X9_flush_22 G N n y1 y2 S = some z → lv_has ls 3 [(0, .ref b), (1, .int y1), (2, .int y2)] → mm_W D vwCl (mw_tys G) mw_aos s G b S0 S H locs → W p l e (headSpec wsX9_flush rmX9_flush).room s m args below meth c H locs 0 0 (MQ below (mm_Qi D vwCl (mw_tys G) mw_aos G b S0 z) args s 0 0 (mm_A b S0)) (F0 m 22 ls []) := by
  obtain ⟨hx, hb, hml, hown, hts, hr, hlocks⟩ := hC
  intro n
  induction n with
  | zero => intro y1 y2 S H locs ls hf; rw [pf_X9_flush_22] at hf; cases hf
  | succ n ih =>
    intro y1 y2 S H locs ls hf hl hw
    rw [pf_X9_flush_22] at hf
    refine lv_iload_n hx hb dX9_flush_22 rfl (lv_at hl 2 rfl) ?_
    refine lv_aload_n hx hb dX9_flush_23 rfl (lv_at hl 0 rfl) ?_
    refine mm_geti hx hb hts inX9 hown hw rfl 18 (by decide) (hts _ tw_741) rfl (fun _ _ => rfl) dX9_flush_24 ?_
    refine lv_icmp_ge hx hb dX9_flush_27 (tgt := 46) (by decide) (fun hc => ?_) (fun hc => ?_)
    · rw [if_pos hc] at hf
      refine lv_aload_n hx hb dX9_flush_46 rfl (lv_at hl 0 rfl) ?_
      refine lv_dup hx hb dX9_flush_47 rfl ?_
      refine mm_geti hx hb hts inX9 hown hw rfl 18 (by decide) (hts _ tw_741) rfl (fun _ _ => rfl) dX9_flush_48 ?_
      refine lv_iconst (v := 1) hx hb dX9_flush_51 (by decide) ?_
      refine lv_isub hx hb dX9_flush_52 ?_
      obtain ⟨S1, e1, hf⟩ := mw_b hf
      refine mm_put hx hb hts inX9 tyX9 tyX9_ok nX9 hown hw rfl 18 (by decide) (hts _ tw_741) rfl rfl (by decide +kernel) (by decide) (mm_st18 _) e1 dX9_flush_53 (fun H locs hw => ?_)
      refine lv_aload_n hx hb dX9_flush_56 rfl (lv_at hl 0 rfl) ?_
      refine mm_getr hx hb hts inX9 hown hw rfl 22 (by decide) (hts _ tw_745) rfl 11 (fun _ _ => rfl) dX9_flush_57 ?_
      refine lv_bipush (v := 6) hx hb dX9_flush_60 (by decide) ?_
      obtain ⟨v2, e2, hf⟩ := mw_b hf
      refine mm_iald hx hb hw 11 (by decide) 0 rfl e2 dX9_flush_62 ?_
      refine lv_sipush (v := 150) hx hb dX9_flush_63 (by decide) ?_
      refine lv_icmp_le hx hb dX9_flush_66 (tgt := 73) (by decide) (fun hc => ?_) (fun hc => ?_)
      · rw [if_pos hc] at hf
        refine lv_iload_n hx hb dX9_flush_73 rfl (lv_at hl 1 rfl) ?_
        exact mm_iret hx hb hr hlocks hw hf dX9_flush_74
      · rw [if_neg hc] at hf
        refine lv_aload_n hx hb dX9_flush_69 rfl (lv_at hl 0 rfl) ?_
        obtain ⟨S3, e3, hf⟩ := mw_b hf
        refine mm_callv (va_runV (As := []) (rest := []) ⟨hx, hb, hml, hown, hts⟩ (cm_X9_rotate l D G N b S0 S1 S3 e3) (cwV 0 hts (mw_gV tw_902 tw_904 tp_23 tw_11 tw_905) rfl rfl rfl (by decide +kernel) ⟨Nat.le_of_ble_eq_true rfl, Nat.le_of_ble_eq_true rfl⟩) (mm_preV hw rfl) rfl rfl hl.1 rfl (lv_room (Nat.le_of_ble_eq_true rfl)) dX9_flush_70 ⟨(Nat.le_of_ble_eq_true rfl), (Nat.le_of_ble_eq_true rfl)⟩) hw (fun H locs hw => ?_)
        refine lv_iload_n hx hb dX9_flush_73 rfl (lv_at hl 1 rfl) ?_
        exact mm_iret hx hb hr hlocks hw hf dX9_flush_74
    · rw [if_neg hc] at hf
      refine lv_aload_n hx hb dX9_flush_30 rfl (lv_at hl 0 rfl) ?_
      refine lv_iconst (v := 3) hx hb dX9_flush_31 (by decide) ?_
      refine lv_iload_n hx hb dX9_flush_32 rfl (lv_at hl 2 rfl) ?_
      refine lv_iadd hx hb dX9_flush_33 ?_
      refine lv_iconst (v := 2) hx hb dX9_flush_34 (by decide) ?_
      refine lv_iload_n hx hb dX9_flush_35 rfl (lv_at hl 2 rfl) ?_
      refine lv_iadd hx hb dX9_flush_36 ?_
      obtain ⟨S4, e4, hf⟩ := mw_b hf
      refine mm_callv (va_runV (As := [.int (3 + y2), .int (2 + y2)]) (rest := []) ⟨hx, hb, hml, hown, hts⟩ (cm_X9_move l D G N b S0 S (3 + y2) (2 + y2) S4 e4) (cwV 2 hts (mw_gV tw_890 tw_892 tp_21 tw_11 tw_893) rfl rfl rfl (by decide +kernel) ⟨Nat.le_of_ble_eq_true rfl, Nat.le_of_ble_eq_true rfl⟩) (mm_preV hw rfl) rfl rfl hl.1 rfl (lv_room (Nat.le_of_ble_eq_true rfl)) dX9_flush_37 ⟨(Nat.le_of_ble_eq_true rfl), (Nat.le_of_ble_eq_true rfl)⟩) hw (fun H locs hw => ?_)
      refine lv_iinc (k := 2) (v := (y2 + 1)) hx hb dX9_flush_40 hl rfl (congrArg (fun q => y2 + q) (show Int32.ofInt 1 = 1 by decide)) (by decide) rfl (fun ls hl => ?_)
      have hl : lv_has ls 3 [(2, .int (y2 + 1)), (0, .ref b), (1, .int y1)] := hl
      refine lv_goto hx hb dX9_flush_43 (tgt := 22) (by decide) ?_
      exact ih _ _ _ _ _ _ hf (lv_sub hl [1, 2, 0] rfl) hw
set_option maxHeartbeats 4000000 in
set_option maxRecDepth 100000 in
theorem cm_X9_flush (l : Launch) (D : va_G) (G : Nat → ClassId) (N : Nat) (b : Nat) (S0 : mw_M) (S : mm_M) (z : Int32 × mm_M) (hf : pf_X9_flush G N S = some z) : Met l yX9_flush wsX9_flush rmX9_flush (va_Pc [.ref b] (mm_B D vwCl (mw_tys G) mw_aos G b S0 S)) (mm_Qi D vwCl (mw_tys G) mw_aos G b S0 z) 0 0 (mm_A b S0) := by
  refine Met.ofW (cc := cX9_flush) (maxL := 3) (ret := (some .int)) (by decide) rfl ?_
  intro p e s m args below meth c s₁ B hml hv
  obtain ⟨rfl, hB⟩ := hv
  have hw := mm_begin hB
  have hx := B.exec
  have hb := B.bytes
  have hr := B.returns
  have hts : ∀ w ∈ lw_good, w.before _ s = true := fun w h => atoms_spec (ws := wsX9_flush) B.pre w (List.mem_cons_of_mem _ h)
  have hown : s.vm.findClass RX9 = some m.cls := findClass_of_methodNamed B.named
  have hlocks := B.notSynchronized
  have hC : mw_C p s m _ meth c cX9_flush RX9 (some .int) lw_good 3 := ⟨hx, hb, hml, hown, hts, hr, hlocks⟩
  have hl := lv_entry ([.ref b]) (n := 3) (Nat.le_of_ble_eq_true rfl)
  rw [lg_entry_eq]
  generalize (lg_sl ([.ref b]) ++ List.replicate (3 - (lg_sl ([.ref b])).length) Slot.unset).toArray = ls at hl ⊢
  have hl : lv_has ls 3 [(0, .ref b)] := hl
  unfold pf_X9_flush at hf
  refine lv_aload_n hx hb dX9_flush_0 rfl (lv_at hl 0 rfl) ?_
  refine lv_iconst (v := 0) hx hb dX9_flush_1 (by decide) ?_
  obtain ⟨S1, e1, hf⟩ := mw_b hf
  refine mm_put hx hb hts inX9 tyX9 tyX9_ok nX9 hown hw rfl 4 (by decide) (hts _ tw_727) rfl rfl (by decide +kernel) (by decide) (mm_st4 _) e1 dX9_flush_2 (fun H locs hw => ?_)
  refine lv_aload_n hx hb dX9_flush_5 rfl (lv_at hl 0 rfl) ?_
  refine mm_geti hx hb hts inX9 hown hw rfl 18 (by decide) (hts _ tw_741) rfl (fun _ _ => rfl) dX9_flush_6 ?_
  refine lv_if_ne hx hb dX9_flush_9 (tgt := 14) (by decide) (fun hc => ?_) (fun hc => ?_)
  · rw [if_pos hc] at hf
    refine lv_aload_n hx hb dX9_flush_14 rfl (lv_at hl 0 rfl) ?_
    refine lv_iconst (v := 3) hx hb dX9_flush_15 (by decide) ?_
    obtain ⟨v2, S2, e2, hf⟩ := mw_bb hf
    refine mm_calli (va_runV (As := [.int 3]) (rest := []) ⟨hx, hb, hml, hown, hts⟩ (cm_X9_drain l D G N b S0 S1 3 (v2, S2) e2) (cwV 1 hts (mw_gV tw_898 tw_900 tp_22 tw_11 tw_901) rfl rfl rfl (by decide +kernel) ⟨Nat.le_of_ble_eq_true rfl, Nat.le_of_ble_eq_true rfl⟩) (mm_preV hw rfl) rfl rfl hl.1 rfl (lv_room (Nat.le_of_ble_eq_true rfl)) dX9_flush_16 ⟨(Nat.le_of_ble_eq_true rfl), (Nat.le_of_ble_eq_true rfl)⟩) hw (fun H locs hw => ?_)
    refine lv_istore_n hx hb dX9_flush_19 rfl hl (by decide) rfl (fun ls hl => ?_)
    have hl : lv_has ls 3 [(1, .int v2), (0, .ref b)] := hl
    refine lv_iconst (v := 1) hx hb dX9_flush_20 (by decide) ?_
    refine lv_istore_n hx hb dX9_flush_21 rfl hl (by decide) rfl (fun ls hl => ?_)
    have hl : lv_has ls 3 [(2, .int 1), (1, .int v2), (0, .ref b)] := hl
    exact bX9_flush_22 ⟨hx, hb, hml, hown, hts, hr, hlocks⟩ D G N N _ _ _ _ _ _ hf (lv_sub hl [2, 1, 0] rfl) hw
  · rw [if_neg (fun q => q hc)] at hf
    refine lv_iconst (v := 0) hx hb dX9_flush_12 (by decide) ?_
    exact mm_iret hx hb hr hlocks hw hf dX9_flush_13
abbrev rmX9_digit : Room := { frames := 0, cells := 0, slots := 0, locals := 0 }
abbrev wsX9_digit : List Cond := Cond.code yX9_digit cX9_digit 3 (some .boolean) :: lw_good
set_option maxHeartbeats 4000000 in
set_option maxRecDepth 100000 in
theorem cm_X9_digit (l : Launch) (D : va_G) (G : Nat → ClassId) (N : Nat) (b : Nat) (S0 : mw_M) (S : mm_M) (x1 : Int32) (x2 : Int32) (z : Int32 × mm_M) (hf : pf_X9_digit G N S x1 x2 = some z) : Met l yX9_digit wsX9_digit rmX9_digit (va_Pc [.ref b, .int x1, .int x2] (mm_B D vwCl (mw_tys G) mw_aos G b S0 S)) (mm_Qi D vwCl (mw_tys G) mw_aos G b S0 z) 0 0 (mm_A b S0) := by
  refine Met.ofW (cc := cX9_digit) (maxL := 3) (ret := (some .boolean)) (by decide) rfl ?_
  intro p e s m args below meth c s₁ B hml hv
  obtain ⟨rfl, hB⟩ := hv
  have hw := mm_begin hB
  have hx := B.exec
  have hb := B.bytes
  have hr := B.returns
  have hts : ∀ w ∈ lw_good, w.before _ s = true := fun w h => atoms_spec (ws := wsX9_digit) B.pre w (List.mem_cons_of_mem _ h)
  have hown : s.vm.findClass RX9 = some m.cls := findClass_of_methodNamed B.named
  have hlocks := B.notSynchronized
  have hC : mw_C p s m _ meth c cX9_digit RX9 (some .boolean) lw_good 3 := ⟨hx, hb, hml, hown, hts, hr, hlocks⟩
  have hl := lv_entry ([.ref b, .int x1, .int x2]) (n := 3) (Nat.le_of_ble_eq_true rfl)
  rw [lg_entry_eq]
  generalize (lg_sl ([.ref b, .int x1, .int x2]) ++ List.replicate (3 - (lg_sl ([.ref b, .int x1, .int x2])).length) Slot.unset).toArray = ls at hl ⊢
  have hl : lv_has ls 3 [(0, .ref b), (1, .int x1), (2, .int x2)] := hl
  unfold pf_X9_digit at hf
  refine lv_iload_n hx hb dX9_digit_0 rfl (lv_at hl 1 rfl) ?_
  refine lv_iload_n hx hb dX9_digit_1 rfl (lv_at hl 2 rfl) ?_
  refine lv_icmp_ge hx hb dX9_digit_2 (tgt := 31) (by decide) (fun hc => ?_) (fun hc => ?_)
  · rw [if_pos hc] at hf
    refine lv_iconst (v := 0) hx hb dX9_digit_31 (by decide) ?_
    exact mm_zret hx hb hr hlocks hw rfl hf dX9_digit_32
  · rw [if_neg hc] at hf
    refine lv_aload_n hx hb dX9_digit_5 rfl (lv_at hl 0 rfl) ?_
    refine mm_getr hx hb hts inX9 hown hw rfl 6 (by decide) (hts _ tw_729) rfl 0 (fun _ _ => rfl) dX9_digit_6 ?_
    refine lv_iload_n hx hb dX9_digit_9 rfl (lv_at hl 1 rfl) ?_
    obtain ⟨v1, e1, hf⟩ := mw_b hf
    refine mm_cald hx hb hw 0 (by decide) 2 rfl e1 dX9_digit_10 ?_
    refine lv_bipush (v := 48) hx hb dX9_digit_11 (by decide) ?_
    refine lv_icmp_lt hx hb dX9_digit_13 (tgt := 31) (by decide) (fun hc => ?_) (fun hc => ?_)
    · rw [if_pos hc] at hf
      refine lv_iconst (v := 0) hx hb dX9_digit_31 (by decide) ?_
      exact mm_zret hx hb hr hlocks hw rfl hf dX9_digit_32
    · rw [if_neg hc] at hf
      refine lv_aload_n hx hb dX9_digit_16 rfl (lv_at hl 0 rfl) ?_
      refine mm_getr hx hb hts inX9 hown hw rfl 6 (by decide) (hts _ tw_729) rfl 0 (fun _ _ => rfl) dX9_digit_17 ?_
      refine lv_iload_n hx hb dX9_digit_20 rfl (lv_at hl 1 rfl) ?_
      obtain ⟨v2, e2, hf⟩ := mw_b hf
      refine mm_cald hx hb hw 0 (by decide) 2 rfl e2 dX9_digit_21 ?_
      refine lv_bipush (v := 57) hx hb dX9_digit_22 (by decide) ?_
      refine lv_icmp_gt hx hb dX9_digit_24 (tgt := 31) (by decide) (fun hc => ?_) (fun hc => ?_)
      · rw [if_pos hc] at hf
        refine lv_iconst (v := 0) hx hb dX9_digit_31 (by decide) ?_
        exact mm_zret hx hb hr hlocks hw rfl hf dX9_digit_32
      · rw [if_neg hc] at hf
        refine lv_iconst (v := 1) hx hb dX9_digit_27 (by decide) ?_
        refine lv_goto hx hb dX9_digit_28 (tgt := 32) (by decide) ?_
        exact mm_zret hx hb hr hlocks hw rfl hf dX9_digit_32
abbrev rmX9_itemEnd : Room := { frames := 1, cells := 0, slots := 0, locals := 22 }
abbrev wsX9_itemEnd : List Cond := Cond.code yX9_itemEnd cX9_itemEnd 4 (some .int) :: lw_good
set_option maxHeartbeats 4000000 in
set_option maxRecDepth 100000 in
theorem bX9_itemEnd_64 {p : Program} {l : Launch} {e : Env} {s : State} {m : MethodId} {args : Array Value} {below : List Frame} {meth : Method} {c : Code} (hC : mw_C p s m args meth c cX9_itemEnd RX9 (some .int) lw_good 4) (D : va_G) (G : Nat → ClassId) (N : Nat) {b : Nat} {S0 : mw_M} {z : Int32 × mm_M} : ∀ (n : Nat) (y1 : Int32) (y2 : Int32) (y3 : Int32) (S : mm_M) (H : Heap) (locs : List Loc) (ls : Array Slot), pf_X9_itemEnd_64 G N n y1 y2 y3 S = some z → lv_has ls 4 [(0, .ref b), (1, .int y1), (2, .int y2), (3, .int y3)] → mm_W D vwCl (mw_tys G) mw_aos s G b S0 S H locs → W p l e (headSpec wsX9_itemEnd rmX9_itemEnd).room s m args below meth c H locs 0 0 (MQ below (mm_Qi D vwCl (mw_tys G) mw_aos G b S0 z) args s 0 0 (mm_A b S0)) (F0 m 64 ls []) := by
  obtain ⟨hx, hb, hml, hown, hts, hr, hlocks⟩ := hC
  intro n
  induction n with
  | zero => intro y1 y2 y3 S H locs ls hf; rw [pf_X9_itemEnd_64] at hf; cases hf
  | succ n ih =>
    intro y1 y2 y3 S H locs ls hf hl hw
    rw [pf_X9_itemEnd_64] at hf
    refine lv_aload_n hx hb dX9_itemEnd_64 rfl (lv_at hl 0 rfl) ?_
    refine lv_iload_n hx hb dX9_itemEnd_65 rfl (lv_at hl 3 rfl) ?_
    refine lv_iload_n hx hb dX9_itemEnd_66 rfl (lv_at hl 2 rfl) ?_
    obtain ⟨v1, S1, e1, hf⟩ := mw_bb hf
    refine mm_calli (va_runV (As := [.int y3, .int y2]) (rest := []) ⟨hx, hb, hml, hown, hts⟩ (cm_X9_digit l D G N b S0 S y3 y2 (v1, S1) e1) (cwV 2 hts (mw_gV tw_934 tw_936 tp_29 tw_11 tw_937) rfl rfl rfl (by decide +kernel) ⟨Nat.le_of_ble_eq_true rfl, Nat.le_of_ble_eq_true rfl⟩) (mm_preV hw rfl) rfl rfl hl.1 rfl (lv_room (Nat.le_of_ble_eq_true rfl)) dX9_itemEnd_67 ⟨(Nat.le_of_ble_eq_true rfl), (Nat.le_of_ble_eq_true rfl)⟩) hw (fun H locs hw => ?_)
    refine lv_if_eq hx hb dX9_itemEnd_70 (tgt := 79) (by decide) (fun hc => ?_) (fun hc => ?_)
    · rw [if_pos hc] at hf
      refine lv_iload_n hx hb dX9_itemEnd_79 rfl (lv_at hl 3 rfl) ?_
      refine lv_iload_n hx hb dX9_itemEnd_80 rfl (lv_at hl 1 rfl) ?_
      refine lv_iconst (v := 5) hx hb dX9_itemEnd_81 (by decide) ?_
      refine lv_iadd hx hb dX9_itemEnd_82 ?_
      refine lv_icmp_le hx hb dX9_itemEnd_83 (tgt := 90) (by decide) (fun hc => ?_) (fun hc => ?_)
      · rw [if_pos hc] at hf
        refine lv_iload_n hx hb dX9_itemEnd_90 rfl (lv_at hl 3 rfl) ?_
        exact mm_iret hx hb hr hlocks hw hf dX9_itemEnd_91
      · rw [if_neg hc] at hf
        refine lv_iconst (v := (-1)) hx hb dX9_itemEnd_86 (by decide) ?_
        refine lv_goto hx hb dX9_itemEnd_87 (tgt := 91) (by decide) ?_
        exact mm_iret hx hb hr hlocks hw hf dX9_itemEnd_91
    · rw [if_neg hc] at hf
      refine lv_iinc (k := 3) (v := (y3 + 1)) hx hb dX9_itemEnd_73 hl rfl (congrArg (fun q => y3 + q) (show Int32.ofInt 1 = 1 by decide)) (by decide) rfl (fun ls hl => ?_)
      have hl : lv_has ls 4 [(3, .int (y3 + 1)), (0, .ref b), (1, .int y1), (2, .int y2)] := hl
      refine lv_goto hx hb dX9_itemEnd_76 (tgt := 64) (by decide) ?_
      exact ih _ _ _ _ _ _ _ hf (lv_sub hl [1, 2, 3, 0] rfl) hw
set_option maxHeartbeats 4000000 in
set_option maxRecDepth 100000 in
theorem cm_X9_itemEnd (l : Launch) (D : va_G) (G : Nat → ClassId) (N : Nat) (b : Nat) (S0 : mw_M) (S : mm_M) (x1 : Int32) (x2 : Int32) (z : Int32 × mm_M) (hf : pf_X9_itemEnd G N S x1 x2 = some z) : Met l yX9_itemEnd wsX9_itemEnd rmX9_itemEnd (va_Pc [.ref b, .int x1, .int x2] (mm_B D vwCl (mw_tys G) mw_aos G b S0 S)) (mm_Qi D vwCl (mw_tys G) mw_aos G b S0 z) 0 0 (mm_A b S0) := by
  refine Met.ofW (cc := cX9_itemEnd) (maxL := 4) (ret := (some .int)) (by decide) rfl ?_
  intro p e s m args below meth c s₁ B hml hv
  obtain ⟨rfl, hB⟩ := hv
  have hw := mm_begin hB
  have hx := B.exec
  have hb := B.bytes
  have hr := B.returns
  have hts : ∀ w ∈ lw_good, w.before _ s = true := fun w h => atoms_spec (ws := wsX9_itemEnd) B.pre w (List.mem_cons_of_mem _ h)
  have hown : s.vm.findClass RX9 = some m.cls := findClass_of_methodNamed B.named
  have hlocks := B.notSynchronized
  have hC : mw_C p s m _ meth c cX9_itemEnd RX9 (some .int) lw_good 4 := ⟨hx, hb, hml, hown, hts, hr, hlocks⟩
  have hl := lv_entry ([.ref b, .int x1, .int x2]) (n := 4) (Nat.le_of_ble_eq_true rfl)
  rw [lg_entry_eq]
  generalize (lg_sl ([.ref b, .int x1, .int x2]) ++ List.replicate (4 - (lg_sl ([.ref b, .int x1, .int x2])).length) Slot.unset).toArray = ls at hl ⊢
  have hl : lv_has ls 4 [(0, .ref b), (1, .int x1), (2, .int x2)] := hl
  unfold pf_X9_itemEnd at hf
  refine lv_aload_n hx hb dX9_itemEnd_0 rfl (lv_at hl 0 rfl) ?_
  refine lv_iload_n hx hb dX9_itemEnd_1 rfl (lv_at hl 1 rfl) ?_
  refine lv_iload_n hx hb dX9_itemEnd_2 rfl (lv_at hl 2 rfl) ?_
  obtain ⟨v1, S1, e1, hf⟩ := mw_bb hf
  refine mm_calli (va_runV (As := [.int x1, .int x2]) (rest := []) ⟨hx, hb, hml, hown, hts⟩ (cm_X9_digit l D G N b S0 S x1 x2 (v1, S1) e1) (cwV 2 hts (mw_gV tw_934 tw_936 tp_29 tw_11 tw_937) rfl rfl rfl (by decide +kernel) ⟨Nat.le_of_ble_eq_true rfl, Nat.le_of_ble_eq_true rfl⟩) (mm_preV hw rfl) rfl rfl hl.1 rfl (lv_room (Nat.le_of_ble_eq_true rfl)) dX9_itemEnd_3 ⟨(Nat.le_of_ble_eq_true rfl), (Nat.le_of_ble_eq_true rfl)⟩) hw (fun H locs hw => ?_)
  refine lv_if_eq hx hb dX9_itemEnd_6 (tgt := 58) (by decide) (fun hc => ?_) (fun hc => ?_)
  · rw [if_pos hc] at hf
    refine lv_iconst (v := (-1)) hx hb dX9_itemEnd_58 (by decide) ?_
    exact mm_iret hx hb hr hlocks hw hf dX9_itemEnd_59
  · rw [if_neg hc] at hf
    refine lv_aload_n hx hb dX9_itemEnd_9 rfl (lv_at hl 0 rfl) ?_
    refine mm_getr hx hb hts inX9 hown hw rfl 6 (by decide) (hts _ tw_729) rfl 0 (fun _ _ => rfl) dX9_itemEnd_10 ?_
    refine lv_iload_n hx hb dX9_itemEnd_13 rfl (lv_at hl 1 rfl) ?_
    obtain ⟨v2, e2, hf⟩ := mw_b hf
    refine mm_cald hx hb hw 0 (by decide) 2 rfl e2 dX9_itemEnd_14 ?_
    refine lv_bipush (v := 48) hx hb dX9_itemEnd_15 (by decide) ?_
    refine lv_isub hx hb dX9_itemEnd_17 ?_
    refine lv_aload_n hx hb dX9_itemEnd_18 rfl (lv_at hl 0 rfl) ?_
    refine mm_geti hx hb hts inX9 hown hw rfl 7 (by decide) (hts _ tw_730) rfl (fun _ _ => rfl) dX9_itemEnd_19 ?_
    refine lv_icmp_ge hx hb dX9_itemEnd_22 (tgt := 58) (by decide) (fun hc => ?_) (fun hc => ?_)
    · rw [if_pos hc] at hf
      refine lv_iconst (v := (-1)) hx hb dX9_itemEnd_58 (by decide) ?_
      exact mm_iret hx hb hr hlocks hw hf dX9_itemEnd_59
    · rw [if_neg hc] at hf
      refine lv_iload_n hx hb dX9_itemEnd_25 rfl (lv_at hl 1 rfl) ?_
      refine lv_iconst (v := 1) hx hb dX9_itemEnd_26 (by decide) ?_
      refine lv_iadd hx hb dX9_itemEnd_27 ?_
      refine lv_iload_n hx hb dX9_itemEnd_28 rfl (lv_at hl 2 rfl) ?_
      refine lv_icmp_ge hx hb dX9_itemEnd_29 (tgt := 58) (by decide) (fun hc => ?_) (fun hc => ?_)
      · rw [if_pos hc] at hf
        refine lv_iconst (v := (-1)) hx hb dX9_itemEnd_58 (by decide) ?_
        exact mm_iret hx hb hr hlocks hw hf dX9_itemEnd_59
      · rw [if_neg hc] at hf
        refine lv_aload_n hx hb dX9_itemEnd_32 rfl (lv_at hl 0 rfl) ?_
        refine mm_getr hx hb hts inX9 hown hw rfl 6 (by decide) (hts _ tw_729) rfl 0 (fun _ _ => rfl) dX9_itemEnd_33 ?_
        refine lv_iload_n hx hb dX9_itemEnd_36 rfl (lv_at hl 1 rfl) ?_
        refine lv_iconst (v := 1) hx hb dX9_itemEnd_37 (by decide) ?_
        refine lv_iadd hx hb dX9_itemEnd_38 ?_
        obtain ⟨v3, e3, hf⟩ := mw_b hf
        refine mm_cald hx hb hw 0 (by decide) 2 rfl e3 dX9_itemEnd_39 ?_
        refine lv_bipush (v := 43) hx hb dX9_itemEnd_40 (by decide) ?_
        refine lv_icmp_eq hx hb dX9_itemEnd_42 (tgt := 60) (by decide) (fun hc => ?_) (fun hc => ?_)
        · rw [if_pos hc] at hf
          refine lv_iload_n hx hb dX9_itemEnd_60 rfl (lv_at hl 1 rfl) ?_
          refine lv_iconst (v := 2) hx hb dX9_itemEnd_61 (by decide) ?_
          refine lv_iadd hx hb dX9_itemEnd_62 ?_
          refine lv_istore_n hx hb dX9_itemEnd_63 rfl hl (by decide) rfl (fun ls hl => ?_)
          have hl : lv_has ls 4 [(3, .int (x1 + 2)), (0, .ref b), (1, .int x1), (2, .int x2)] := hl
          exact bX9_itemEnd_64 ⟨hx, hb, hml, hown, hts, hr, hlocks⟩ D G N N _ _ _ _ _ _ _ hf (lv_sub hl [1, 2, 3, 0] rfl) hw
        · rw [if_neg hc] at hf
          refine lv_aload_n hx hb dX9_itemEnd_45 rfl (lv_at hl 0 rfl) ?_
          refine mm_getr hx hb hts inX9 hown hw rfl 6 (by decide) (hts _ tw_729) rfl 0 (fun _ _ => rfl) dX9_itemEnd_46 ?_
          refine lv_iload_n hx hb dX9_itemEnd_49 rfl (lv_at hl 1 rfl) ?_
          refine lv_iconst (v := 1) hx hb dX9_itemEnd_50 (by decide) ?_
          refine lv_iadd hx hb dX9_itemEnd_51 ?_
          obtain ⟨v4, e4, hf⟩ := mw_b hf
          refine mm_cald hx hb hw 0 (by decide) 2 rfl e4 dX9_itemEnd_52 ?_
          refine lv_bipush (v := 45) hx hb dX9_itemEnd_53 (by decide) ?_
          refine lv_icmp_eq hx hb dX9_itemEnd_55 (tgt := 60) (by decide) (fun hc => ?_) (fun hc => ?_)
          · rw [if_pos hc] at hf
            refine lv_iload_n hx hb dX9_itemEnd_60 rfl (lv_at hl 1 rfl) ?_
            refine lv_iconst (v := 2) hx hb dX9_itemEnd_61 (by decide) ?_
            refine lv_iadd hx hb dX9_itemEnd_62 ?_
            refine lv_istore_n hx hb dX9_itemEnd_63 rfl hl (by decide) rfl (fun ls hl => ?_)
            have hl : lv_has ls 4 [(3, .int (x1 + 2)), (0, .ref b), (1, .int x1), (2, .int x2)] := hl
            exact bX9_itemEnd_64 ⟨hx, hb, hml, hown, hts, hr, hlocks⟩ D G N N _ _ _ _ _ _ _ hf (lv_sub hl [1, 2, 3, 0] rfl) hw
          · rw [if_neg hc] at hf
            refine lv_iconst (v := (-1)) hx hb dX9_itemEnd_58 (by decide) ?_
            exact mm_iret hx hb hr hlocks hw hf dX9_itemEnd_59
abbrev rmX9_items : Room := { frames := 2, cells := 0, slots := 0, locals := 45 }
abbrev wsX9_items : List Cond := Cond.code yX9_items cX9_items 5 (some .int) :: lw_good
set_option maxHeartbeats 4000000 in
set_option maxRecDepth 100000 in
theorem bX9_items_5 {p : Program} {l : Launch} {e : Env} {s : State} {m : MethodId} {args : Array Value} {below : List Frame} {meth : Method} {c : Code} (hC : mw_C p s m args meth c cX9_items RX9 (some .int) lw_good 5) (D : va_G) (G : Nat → ClassId) (N : Nat) {b : Nat} {S0 : mw_M} {z : Int32 × mm_M} : ∀ (n : Nat) (y2 : Int32) (y3 : Int32) (y4 : Int32) (S : mm_M) (H : Heap) (locs : List Loc) (ls : Array Slot), pf_X9_items_5 G N n y2 y3 y4 S = some z → lv_has ls 5 [(0, .ref b), (2, .int y2), (3, .int y3), (4, .int y4)] → mm_W D vwCl (mw_tys G) mw_aos s G b S0 S H locs → W p l e (headSpec wsX9_items rmX9_items).room s m args below meth c H locs 0 0 (MQ below (mm_Qi D vwCl (mw_tys G) mw_aos G b S0 z) args s 0 0 (mm_A b S0)) (F0 m 5 ls []) := by
  obtain ⟨hx, hb, hml, hown, hts, hr, hlocks⟩ := hC
  intro n
  induction n with
  | zero => intro y2 y3 y4 S H locs ls hf; rw [pf_X9_items_5] at hf; cases hf
  | succ n ih =>
    intro y2 y3 y4 S H locs ls hf hl hw
    rw [pf_X9_items_5] at hf
    refine lv_iload hx hb dX9_items_5 (lv_at hl 3 rfl) ?_
    refine lv_iload_n hx hb dX9_items_7 rfl (lv_at hl 1 rfl) ?_
    refine lv_icmp_gt hx hb dX9_items_8 (tgt := 54) (by decide) (fun hc => ?_) (fun hc => ?_)
    · rw [if_pos hc] at hf
      refine lv_iload_n hx hb dX9_items_54 rfl (lv_at hl 2 rfl) ?_
      exact mm_iret hx hb hr hlocks hw hf dX9_items_55
    · rw [if_neg hc] at hf
      refine lv_aload_n hx hb dX9_items_11 rfl (lv_at hl 0 rfl) ?_
      refine lv_iload hx hb dX9_items_12 (lv_at hl 3 rfl) ?_
      refine lv_iload_n hx hb dX9_items_14 rfl (lv_at hl 1 rfl) ?_
      obtain ⟨v1, S1, e1, hf⟩ := mw_bb hf
      refine mm_calli (va_runV (As := [.int y4, .int y2]) (rest := []) ⟨hx, hb, hml, hown, hts⟩ (cm_X9_itemEnd l D G N b S0 S y4 y2 (v1, S1) e1) (cwV 2 hts (mw_gV tw_930 tw_932 tp_28 tw_11 tw_933) rfl rfl rfl (by decide +kernel) ⟨Nat.le_of_ble_eq_true rfl, Nat.le_of_ble_eq_true rfl⟩) (mm_preV hw rfl) rfl rfl hl.1 rfl (lv_room (Nat.le_of_ble_eq_true rfl)) dX9_items_15 ⟨(Nat.le_of_ble_eq_true rfl), (Nat.le_of_ble_eq_true rfl)⟩) hw (fun H locs hw => ?_)
      refine lv_istore hx hb dX9_items_18 hl (by decide) rfl (fun ls hl => ?_)
      have hl : lv_has ls 5 [(4, .int v1), (0, .ref b), (2, .int y2), (3, .int y3)] := hl
      refine lv_iload hx hb dX9_items_20 (lv_at hl 0 rfl) ?_
      refine lv_if_lt hx hb dX9_items_22 (tgt := 43) (by decide) (fun hc => ?_) (fun hc => ?_)
      · rw [if_pos hc] at hf
        refine lv_iconst (v := (-1)) hx hb dX9_items_43 (by decide) ?_
        exact mm_iret hx hb hr hlocks hw hf dX9_items_44
      · rw [if_neg hc] at hf
        refine lv_iload hx hb dX9_items_25 (lv_at hl 0 rfl) ?_
        refine lv_iload_n hx hb dX9_items_27 rfl (lv_at hl 2 rfl) ?_
        refine lv_icmp_ge hx hb dX9_items_28 (tgt := 45) (by decide) (fun hc => ?_) (fun hc => ?_)
        · rw [if_pos hc] at hf
          refine lv_iinc (k := 3) (v := (y3 + 1)) hx hb dX9_items_45 hl rfl (congrArg (fun q => y3 + q) (show Int32.ofInt 1 = 1 by decide)) (by decide) rfl (fun ls hl => ?_)
          have hl : lv_has ls 5 [(3, .int (y3 + 1)), (4, .int v1), (0, .ref b), (2, .int y2)] := hl
          refine lv_iinc (k := 1) (v := (v1 + 1)) hx hb dX9_items_48 hl rfl (congrArg (fun q => v1 + q) (show Int32.ofInt 1 = 1 by decide)) (by decide) rfl (fun ls hl => ?_)
          have hl : lv_has ls 5 [(4, .int (v1 + 1)), (3, .int (y3 + 1)), (0, .ref b), (2, .int y2)] := hl
          refine lv_goto hx hb dX9_items_51 (tgt := 5) (by decide) ?_
          exact ih _ _ _ _ _ _ _ hf (lv_sub hl [2, 3, 1, 0] rfl) hw
        · rw [if_neg hc] at hf
          refine lv_aload_n hx hb dX9_items_31 rfl (lv_at hl 1 rfl) ?_
          refine mm_getr hx hb hts inX9 hown hw rfl 6 (by decide) (hts _ tw_729) rfl 0 (fun _ _ => rfl) dX9_items_32 ?_
          refine lv_iload hx hb dX9_items_35 (lv_at hl 0 rfl) ?_
          obtain ⟨v2, e2, hf⟩ := mw_b hf
          refine mm_cald hx hb hw 0 (by decide) 2 rfl e2 dX9_items_37 ?_
          refine lv_bipush (v := 44) hx hb dX9_items_38 (by decide) ?_
          refine lv_icmp_eq hx hb dX9_items_40 (tgt := 45) (by decide) (fun hc => ?_) (fun hc => ?_)
          · rw [if_pos hc] at hf
            refine lv_iinc (k := 3) (v := (y3 + 1)) hx hb dX9_items_45 hl rfl (congrArg (fun q => y3 + q) (show Int32.ofInt 1 = 1 by decide)) (by decide) rfl (fun ls hl => ?_)
            have hl : lv_has ls 5 [(3, .int (y3 + 1)), (4, .int v1), (0, .ref b), (2, .int y2)] := hl
            refine lv_iinc (k := 1) (v := (v1 + 1)) hx hb dX9_items_48 hl rfl (congrArg (fun q => v1 + q) (show Int32.ofInt 1 = 1 by decide)) (by decide) rfl (fun ls hl => ?_)
            have hl : lv_has ls 5 [(4, .int (v1 + 1)), (3, .int (y3 + 1)), (0, .ref b), (2, .int y2)] := hl
            refine lv_goto hx hb dX9_items_51 (tgt := 5) (by decide) ?_
            exact ih _ _ _ _ _ _ _ hf (lv_sub hl [2, 3, 1, 0] rfl) hw
          · rw [if_neg hc] at hf
            refine lv_iconst (v := (-1)) hx hb dX9_items_43 (by decide) ?_
            exact mm_iret hx hb hr hlocks hw hf dX9_items_44
set_option maxHeartbeats 4000000 in
set_option maxRecDepth 100000 in
theorem cm_X9_items (l : Launch) (D : va_G) (G : Nat → ClassId) (N : Nat) (b : Nat) (S0 : mw_M) (S : mm_M) (x1 : Int32) (x2 : Int32) (z : Int32 × mm_M) (hf : pf_X9_items G N S x1 x2 = some z) : Met l yX9_items wsX9_items rmX9_items (va_Pc [.ref b, .int x1, .int x2] (mm_B D vwCl (mw_tys G) mw_aos G b S0 S)) (mm_Qi D vwCl (mw_tys G) mw_aos G b S0 z) 0 0 (mm_A b S0) := by
  refine Met.ofW (cc := cX9_items) (maxL := 5) (ret := (some .int)) (by decide) rfl ?_
  intro p e s m args below meth c s₁ B hml hv
  obtain ⟨rfl, hB⟩ := hv
  have hw := mm_begin hB
  have hx := B.exec
  have hb := B.bytes
  have hr := B.returns
  have hts : ∀ w ∈ lw_good, w.before _ s = true := fun w h => atoms_spec (ws := wsX9_items) B.pre w (List.mem_cons_of_mem _ h)
  have hown : s.vm.findClass RX9 = some m.cls := findClass_of_methodNamed B.named
  have hlocks := B.notSynchronized
  have hC : mw_C p s m _ meth c cX9_items RX9 (some .int) lw_good 5 := ⟨hx, hb, hml, hown, hts, hr, hlocks⟩
  have hl := lv_entry ([.ref b, .int x1, .int x2]) (n := 5) (Nat.le_of_ble_eq_true rfl)
  rw [lg_entry_eq]
  generalize (lg_sl ([.ref b, .int x1, .int x2]) ++ List.replicate (5 - (lg_sl ([.ref b, .int x1, .int x2])).length) Slot.unset).toArray = ls at hl ⊢
  have hl : lv_has ls 5 [(0, .ref b), (1, .int x1), (2, .int x2)] := hl
  unfold pf_X9_items at hf
  refine lv_iconst (v := 0) hx hb dX9_items_0 (by decide) ?_
  refine lv_istore_n hx hb dX9_items_1 rfl hl (by decide) rfl (fun ls hl => ?_)
  have hl : lv_has ls 5 [(3, .int 0), (0, .ref b), (1, .int x1), (2, .int x2)] := hl
  refine lv_iload_n hx hb dX9_items_2 rfl (lv_at hl 2 rfl) ?_
  refine lv_istore hx hb dX9_items_3 hl (by decide) rfl (fun ls hl => ?_)
  have hl : lv_has ls 5 [(4, .int x1), (3, .int 0), (0, .ref b), (1, .int x1), (2, .int x2)] := hl
  exact bX9_items_5 ⟨hx, hb, hml, hown, hts, hr, hlocks⟩ D G N N _ _ _ _ _ _ _ hf (lv_sub hl [2, 4, 1, 0] rfl) hw
abbrev rmX9_set : Room := { frames := 2, cells := 0, slots := 0, locals := 45 }
abbrev wsX9_set : List Cond := Cond.code yX9_set cX9_set 9 none :: lw_good
set_option maxHeartbeats 4000000 in
set_option maxRecDepth 100000 in
theorem bX9_set_138 {p : Program} {l : Launch} {e : Env} {s : State} {m : MethodId} {args : Array Value} {below : List Frame} {meth : Method} {c : Code} (hC : mw_C p s m args meth c cX9_set RX9 none lw_good 9) (D : va_G) (G : Nat → ClassId) (N : Nat) {b : Nat} {S0 : mw_M} {z : mm_M} (k3 : Int32 → Int32 → Int32 → mm_M → Option (mm_M)) (hk3 : ∀ (y1 : Int32) (y3 : Int32) (y4 : Int32) (S : mm_M) (H : Heap) (locs : List Loc) (ls : Array Slot), k3 y1 y3 y4 S = some z → lv_has ls 9 [(0, .ref b), (1, .int y1), (3, .int y3), (4, .int y4)] → mm_W D vwCl (mw_tys G) mw_aos s G b S0 S H locs → W p l e (headSpec wsX9_set rmX9_set).room s m args below meth c H locs 0 0 (MQ below (mm_Qv D vwCl (mw_tys G) mw_aos G b S0 z) args s 0 0 (mm_A b S0)) (F0 m 3 ls [])) : ∀ (y1 : Int32) (y3 : Int32) (y6 : Int32) (w1 : Int32) (w2 : Int32) (S : mm_M) (H : Heap) (locs : List Loc) (ls : Array Slot), pf_X9_set_138 G N k3 y1 y3 y6 w1 w2 S = some z → lv_has ls 9 [(0, .ref b), (1, .int y1), (3, .int y3), (6, .int y6)] → mm_W D vwCl (mw_tys G) mw_aos s G b S0 S H locs → W p l e (headSpec wsX9_set rmX9_set).room s m args below meth c H locs 0 0 (MQ below (mm_Qv D vwCl (mw_tys G) mw_aos G b S0 z) args s 0 0 (mm_A b S0)) (F0 m 138 ls [.int w2, .int w1, .ref (b + 1 + 20)]) := by
  obtain ⟨hx, hb, hml, hown, hts, hr, hlocks⟩ := hC
  intro y1 y3 y6 w1 w2 S H locs ls hf hl hw
  unfold pf_X9_set_138 at hf
  obtain ⟨S1, e1, hf⟩ := mw_b hf
  refine mm_iast hx hb hw 20 (by decide) 0 rfl e1 dX9_set_138 (fun H locs hw => ?_)
  refine lv_iload hx hb dX9_set_139 (lv_at hl 3 rfl) ?_
  refine lv_iconst (v := 1) hx hb dX9_set_141 (by decide) ?_
  refine lv_iadd hx hb dX9_set_142 ?_
  refine lv_istore hx hb dX9_set_143 hl (by decide) rfl (fun ls hl => ?_)
  have hl : lv_has ls 9 [(4, .int (y6 + 1)), (0, .ref b), (1, .int y1), (3, .int y3), (6, .int y6)] := hl
  refine lv_goto hx hb dX9_set_145 (tgt := 3) (by decide) ?_
  exact hk3 _ _ _ _ _ _ _ hf (lv_sub hl [1, 2, 3, 0] rfl) hw
set_option maxHeartbeats 4000000 in
set_option maxRecDepth 100000 in
theorem bX9_set_70 {p : Program} {l : Launch} {e : Env} {s : State} {m : MethodId} {args : Array Value} {below : List Frame} {meth : Method} {c : Code} (hC : mw_C p s m args meth c cX9_set RX9 none lw_good 9) (D : va_G) (G : Nat → ClassId) (N : Nat) {b : Nat} {S0 : mw_M} {z : mm_M} (k3 : Int32 → Int32 → Int32 → mm_M → Option (mm_M)) (hk3 : ∀ (y1 : Int32) (y3 : Int32) (y4 : Int32) (S : mm_M) (H : Heap) (locs : List Loc) (ls : Array Slot), k3 y1 y3 y4 S = some z → lv_has ls 9 [(0, .ref b), (1, .int y1), (3, .int y3), (4, .int y4)] → mm_W D vwCl (mw_tys G) mw_aos s G b S0 S H locs → W p l e (headSpec wsX9_set rmX9_set).room s m args below meth c H locs 0 0 (MQ below (mm_Qv D vwCl (mw_tys G) mw_aos G b S0 z) args s 0 0 (mm_A b S0)) (F0 m 3 ls [])) : ∀ (n : Nat) (y1 : Int32) (y3 : Int32) (y4 : Int32) (y5 : Int32) (y6 : Int32) (y7 : Int32) (y8 : Int32) (S : mm_M) (H : Heap) (locs : List Loc) (ls : Array Slot), pf_X9_set_70 G N k3 n y1 y3 y4 y5 y6 y7 y8 S = some z → lv_has ls 9 [(0, .ref b), (1, .int y1), (3, .int y3), (4, .int y4), (5, .int y5), (6, .int y6), (7, .int y7), (8, .int y8)] → mm_W D vwCl (mw_tys G) mw_aos s G b S0 S H locs → W p l e (headSpec wsX9_set rmX9_set).room s m args below meth c H locs 0 0 (MQ below (mm_Qv D vwCl (mw_tys G) mw_aos G b S0 z) args s 0 0 (mm_A b S0)) (F0 m 70 ls []) := by
  obtain ⟨hx, hb, hml, hown, hts, hr, hlocks⟩ := hC
  intro n
  induction n with
  | zero => intro y1 y3 y4 y5 y6 y7 y8 S H locs ls hf; rw [pf_X9_set_70] at hf; cases hf
  | succ n ih =>
    intro y1 y3 y4 y5 y6 y7 y8 S H locs ls hf hl hw
    rw [pf_X9_set_70] at hf
    refine lv_iload hx hb dX9_set_70 (lv_at hl 7 rfl) ?_
    refine lv_iload hx hb dX9_set_72 (lv_at hl 5 rfl) ?_
    refine lv_icmp_ge hx hb dX9_set_74 (tgt := 101) (by decide) (fun hc => ?_) (fun hc => ?_)
    · rw [if_pos hc] at hf
      refine lv_aload_n hx hb dX9_set_101 rfl (lv_at hl 0 rfl) ?_
      refine mm_getr hx hb hts inX9 hown hw rfl 32 (by decide) (hts _ tw_755) rfl 20 (fun _ _ => rfl) dX9_set_102 ?_
      refine lv_bipush (v := 6) hx hb dX9_set_105 (by decide) ?_
      refine lv_iload_n hx hb dX9_set_107 rfl (lv_at hl 1 rfl) ?_
      refine lv_imul hx hb dX9_set_108 ?_
      refine lv_iload hx hb dX9_set_109 (lv_at hl 4 rfl) ?_
      refine lv_iadd hx hb dX9_set_111 ?_
      refine lv_iload hx hb dX9_set_112 (lv_at hl 5 rfl) ?_
      refine lv_iload hx hb dX9_set_114 (lv_at hl 3 rfl) ?_
      refine lv_iconst (v := 2) hx hb dX9_set_116 (by decide) ?_
      refine lv_iadd hx hb dX9_set_117 ?_
      refine lv_icmp_le hx hb dX9_set_118 (tgt := 126) (by decide) (fun hc => ?_) (fun hc => ?_)
      · rw [if_pos hc] at hf
        refine lv_aload_n hx hb dX9_set_126 rfl (lv_at hl 0 rfl) ?_
        refine mm_getr hx hb hts inX9 hown hw rfl 32 (by decide) (hts _ tw_755) rfl 20 (fun _ _ => rfl) dX9_set_127 ?_
        refine lv_bipush (v := 6) hx hb dX9_set_130 (by decide) ?_
        refine lv_iload_n hx hb dX9_set_132 rfl (lv_at hl 1 rfl) ?_
        refine lv_imul hx hb dX9_set_133 ?_
        refine lv_iload hx hb dX9_set_134 (lv_at hl 4 rfl) ?_
        refine lv_iadd hx hb dX9_set_136 ?_
        obtain ⟨v1, e1, hf⟩ := mw_b hf
        refine mm_iald hx hb hw 20 (by decide) 0 rfl e1 dX9_set_137 ?_
        exact bX9_set_138 ⟨hx, hb, hml, hown, hts, hr, hlocks⟩ D G N k3 hk3 _ _ _ _ _ _ _ _ _ hf (lv_sub hl [0, 1, 2, 5] rfl) hw
      · rw [if_neg hc] at hf
        refine lv_iload hx hb dX9_set_121 (lv_at hl 6 rfl) ?_
        refine lv_goto hx hb dX9_set_123 (tgt := 138) (by decide) ?_
        exact bX9_set_138 ⟨hx, hb, hml, hown, hts, hr, hlocks⟩ D G N k3 hk3 _ _ _ _ _ _ _ _ _ hf (lv_sub hl [0, 1, 2, 5] rfl) hw
    · rw [if_neg hc] at hf
      refine lv_bipush (v := 10) hx hb dX9_set_77 (by decide) ?_
      refine lv_iload hx hb dX9_set_79 (lv_at hl 6 rfl) ?_
      refine lv_imul hx hb dX9_set_81 ?_
      refine lv_aload_n hx hb dX9_set_82 rfl (lv_at hl 0 rfl) ?_
      refine mm_getr hx hb hts inX9 hown hw rfl 6 (by decide) (hts _ tw_729) rfl 0 (fun _ _ => rfl) dX9_set_83 ?_
      refine lv_iload hx hb dX9_set_86 (lv_at hl 7 rfl) ?_
      obtain ⟨v2, e2, hf⟩ := mw_b hf
      refine mm_cald hx hb hw 0 (by decide) 2 rfl e2 dX9_set_88 ?_
      refine lv_iadd hx hb dX9_set_89 ?_
      refine lv_bipush (v := 48) hx hb dX9_set_90 (by decide) ?_
      refine lv_isub hx hb dX9_set_92 ?_
      refine lv_istore hx hb dX9_set_93 hl (by decide) rfl (fun ls hl => ?_)
      have hl : lv_has ls 9 [(7, .int (((10 * y7) + v2) - 48)), (0, .ref b), (1, .int y1), (3, .int y3), (4, .int y4), (5, .int y5), (6, .int y6), (8, .int y8)] := hl
      refine lv_iinc (k := 7) (v := (y8 + 1)) hx hb dX9_set_95 hl rfl (congrArg (fun q => y8 + q) (show Int32.ofInt 1 = 1 by decide)) (by decide) rfl (fun ls hl => ?_)
      have hl : lv_has ls 9 [(8, .int (y8 + 1)), (7, .int (((10 * y7) + v2) - 48)), (0, .ref b), (1, .int y1), (3, .int y3), (4, .int y4), (5, .int y5), (6, .int y6)] := hl
      refine lv_goto hx hb dX9_set_98 (tgt := 70) (by decide) ?_
      exact ih _ _ _ _ _ _ _ _ _ _ _ hf (lv_sub hl [2, 3, 4, 5, 6, 7, 1, 0] rfl) hw
set_option maxHeartbeats 4000000 in
set_option maxRecDepth 100000 in
theorem bX9_set_60 {p : Program} {l : Launch} {e : Env} {s : State} {m : MethodId} {args : Array Value} {below : List Frame} {meth : Method} {c : Code} (hC : mw_C p s m args meth c cX9_set RX9 none lw_good 9) (D : va_G) (G : Nat → ClassId) (N : Nat) {b : Nat} {S0 : mw_M} {z : mm_M} (k3 : Int32 → Int32 → Int32 → mm_M → Option (mm_M)) (hk3 : ∀ (y1 : Int32) (y3 : Int32) (y4 : Int32) (S : mm_M) (H : Heap) (locs : List Loc) (ls : Array Slot), k3 y1 y3 y4 S = some z → lv_has ls 9 [(0, .ref b), (1, .int y1), (3, .int y3), (4, .int y4)] → mm_W D vwCl (mw_tys G) mw_aos s G b S0 S H locs → W p l e (headSpec wsX9_set rmX9_set).room s m args below meth c H locs 0 0 (MQ below (mm_Qv D vwCl (mw_tys G) mw_aos G b S0 z) args s 0 0 (mm_A b S0)) (F0 m 3 ls [])) : ∀ (y1 : Int32) (y3 : Int32) (y4 : Int32) (y5 : Int32) (y6 : Int32) (w1 : Int32) (w2 : Int32) (S : mm_M) (H : Heap) (locs : List Loc) (ls : Array Slot), pf_X9_set_60 G N k3 y1 y3 y4 y5 y6 w1 w2 S = some z → lv_has ls 9 [(0, .ref b), (1, .int y1), (3, .int y3), (4, .int y4), (5, .int y5), (6, .int y6)] → mm_W D vwCl (mw_tys G) mw_aos s G b S0 S H locs → W p l e (headSpec wsX9_set rmX9_set).room s m args below meth c H locs 0 0 (MQ below (mm_Qv D vwCl (mw_tys G) mw_aos G b S0 z) args s 0 0 (mm_A b S0)) (F0 m 60 ls [.int w2, .int w1, .ref (b + 1 + 19)]) := by
  obtain ⟨hx, hb, hml, hown, hts, hr, hlocks⟩ := hC
  intro y1 y3 y4 y5 y6 w1 w2 S H locs ls hf hl hw
  unfold pf_X9_set_60 at hf
  obtain ⟨S1, e1, hf⟩ := mw_b hf
  refine mm_zast hx hb hw 19 (by decide) 3 rfl e1 dX9_set_60 (fun H locs hw => ?_)
  refine lv_iconst (v := 0) hx hb dX9_set_61 (by decide) ?_
  refine lv_istore hx hb dX9_set_62 hl (by decide) rfl (fun ls hl => ?_)
  have hl : lv_has ls 9 [(7, .int 0), (0, .ref b), (1, .int y1), (3, .int y3), (4, .int y4), (5, .int y5), (6, .int y6)] := hl
  refine lv_iload hx hb dX9_set_64 (lv_at hl 4 rfl) ?_
  refine lv_iconst (v := 2) hx hb dX9_set_66 (by decide) ?_
  refine lv_iadd hx hb dX9_set_67 ?_
  refine lv_istore hx hb dX9_set_68 hl (by decide) rfl (fun ls hl => ?_)
  have hl : lv_has ls 9 [(8, .int (y4 + 2)), (7, .int 0), (0, .ref b), (1, .int y1), (3, .int y3), (4, .int y4), (5, .int y5), (6, .int y6)] := hl
  exact bX9_set_70 ⟨hx, hb, hml, hown, hts, hr, hlocks⟩ D G N k3 hk3 N _ _ _ _ _ _ _ _ _ _ _ hf (lv_sub hl [2, 3, 4, 5, 6, 7, 1, 0] rfl) hw
set_option maxHeartbeats 4000000 in
set_option maxRecDepth 100000 in
theorem bX9_set_3 {p : Program} {l : Launch} {e : Env} {s : State} {m : MethodId} {args : Array Value} {below : List Frame} {meth : Method} {c : Code} (hC : mw_C p s m args meth c cX9_set RX9 none lw_good 9) (D : va_G) (G : Nat → ClassId) (N : Nat) {b : Nat} {S0 : mw_M} {z : mm_M} : ∀ (n : Nat) (y1 : Int32) (y3 : Int32) (y4 : Int32) (S : mm_M) (H : Heap) (locs : List Loc) (ls : Array Slot), pf_X9_set_3 G N n y1 y3 y4 S = some z → lv_has ls 9 [(0, .ref b), (1, .int y1), (3, .int y3), (4, .int y4)] → mm_W D vwCl (mw_tys G) mw_aos s G b S0 S H locs → W p l e (headSpec wsX9_set rmX9_set).room s m args below meth c H locs 0 0 (MQ below (mm_Qv D vwCl (mw_tys G) mw_aos G b S0 z) args s 0 0 (mm_A b S0)) (F0 m 3 ls []) := by
  obtain ⟨hx, hb, hml, hown, hts, hr, hlocks⟩ := hC
  intro n
  induction n with
  | zero => intro y1 y3 y4 S H locs ls hf; rw [pf_X9_set_3] at hf; cases hf
  | succ n ih =>
    intro y1 y3 y4 S H locs ls hf hl hw
    rw [pf_X9_set_3] at hf
    refine lv_iload hx hb dX9_set_3 (lv_at hl 3 rfl) ?_
    refine lv_iload_n hx hb dX9_set_5 rfl (lv_at hl 2 rfl) ?_
    refine lv_icmp_ge hx hb dX9_set_6 (tgt := 148) (by decide) (fun hc => ?_) (fun hc => ?_)
    · rw [if_pos hc] at hf
      exact mm_vret hx hb hr hlocks hw hf dX9_set_148
    · rw [if_neg hc] at hf
      refine lv_aload_n hx hb dX9_set_9 rfl (lv_at hl 0 rfl) ?_
      refine mm_getr hx hb hts inX9 hown hw rfl 6 (by decide) (hts _ tw_729) rfl 0 (fun _ _ => rfl) dX9_set_10 ?_
      refine lv_iload hx hb dX9_set_13 (lv_at hl 3 rfl) ?_
      obtain ⟨v1, e1, hf⟩ := mw_b hf
      refine mm_cald hx hb hw 0 (by decide) 2 rfl e1 dX9_set_15 ?_
      refine lv_bipush (v := 48) hx hb dX9_set_16 (by decide) ?_
      refine lv_isub hx hb dX9_set_18 ?_
      refine lv_istore hx hb dX9_set_19 hl (by decide) rfl (fun ls hl => ?_)
      have hl : lv_has ls 9 [(5, .int (v1 - 48)), (0, .ref b), (1, .int y1), (3, .int y3), (4, .int y4)] := hl
      refine lv_aload_n hx hb dX9_set_21 rfl (lv_at hl 1 rfl) ?_
      refine lv_iload hx hb dX9_set_22 (lv_at hl 4 rfl) ?_
      refine lv_iload_n hx hb dX9_set_24 rfl (lv_at hl 3 rfl) ?_
      obtain ⟨v2, S2, e2, hf⟩ := mw_bb hf
      refine mm_calli (va_runV (As := [.int y4, .int y3]) (rest := []) ⟨hx, hb, hml, hown, hts⟩ (cm_X9_itemEnd l D G N b S0 S y4 y3 (v2, S2) e2) (cwV 2 hts (mw_gV tw_930 tw_932 tp_28 tw_11 tw_933) rfl rfl rfl (by decide +kernel) ⟨Nat.le_of_ble_eq_true rfl, Nat.le_of_ble_eq_true rfl⟩) (mm_preV hw rfl) rfl rfl hl.1 rfl (lv_room (Nat.le_of_ble_eq_true rfl)) dX9_set_25 ⟨(Nat.le_of_ble_eq_true rfl), (Nat.le_of_ble_eq_true rfl)⟩) hw (fun H locs hw => ?_)
      refine lv_istore hx hb dX9_set_28 hl (by decide) rfl (fun ls hl => ?_)
      have hl : lv_has ls 9 [(6, .int v2), (5, .int (v1 - 48)), (0, .ref b), (1, .int y1), (3, .int y3), (4, .int y4)] := hl
      refine lv_aload_n hx hb dX9_set_30 rfl (lv_at hl 2 rfl) ?_
      refine mm_getr hx hb hts inX9 hown hw rfl 31 (by decide) (hts _ tw_754) rfl 19 (fun _ _ => rfl) dX9_set_31 ?_
      refine lv_bipush (v := 6) hx hb dX9_set_34 (by decide) ?_
      refine lv_iload_n hx hb dX9_set_36 rfl (lv_at hl 3 rfl) ?_
      refine lv_imul hx hb dX9_set_37 ?_
      refine lv_iload hx hb dX9_set_38 (lv_at hl 1 rfl) ?_
      refine lv_iadd hx hb dX9_set_40 ?_
      refine lv_aload_n hx hb dX9_set_41 rfl (lv_at hl 2 rfl) ?_
      refine mm_getr hx hb hts inX9 hown hw rfl 6 (by decide) (hts _ tw_729) rfl 0 (fun _ _ => rfl) dX9_set_42 ?_
      refine lv_iload hx hb dX9_set_45 (lv_at hl 5 rfl) ?_
      refine lv_iconst (v := 1) hx hb dX9_set_47 (by decide) ?_
      refine lv_iadd hx hb dX9_set_48 ?_
      obtain ⟨v3, e3, hf⟩ := mw_b hf
      refine mm_cald hx hb hw 0 (by decide) 2 rfl e3 dX9_set_49 ?_
      refine lv_bipush (v := 45) hx hb dX9_set_50 (by decide) ?_
      refine lv_icmp_ne hx hb dX9_set_52 (tgt := 59) (by decide) (fun hc => ?_) (fun hc => ?_)
      · rw [if_pos hc] at hf
        refine lv_iconst (v := 0) hx hb dX9_set_59 (by decide) ?_
        exact bX9_set_60 ⟨hx, hb, hml, hown, hts, hr, hlocks⟩ D G N (pf_X9_set_3 G N n) ih _ _ _ _ _ _ _ _ _ _ _ hf (lv_sub hl [2, 3, 4, 5, 1, 0] rfl) hw
      · rw [if_neg (fun q => q hc)] at hf
        refine lv_iconst (v := 1) hx hb dX9_set_55 (by decide) ?_
        refine lv_goto hx hb dX9_set_56 (tgt := 60) (by decide) ?_
        exact bX9_set_60 ⟨hx, hb, hml, hown, hts, hr, hlocks⟩ D G N (pf_X9_set_3 G N n) ih _ _ _ _ _ _ _ _ _ _ _ hf (lv_sub hl [2, 3, 4, 5, 1, 0] rfl) hw
set_option maxHeartbeats 4000000 in
set_option maxRecDepth 100000 in
theorem cm_X9_set (l : Launch) (D : va_G) (G : Nat → ClassId) (N : Nat) (b : Nat) (S0 : mw_M) (S : mm_M) (x1 : Int32) (x2 : Int32) (x3 : Int32) (z : mm_M) (hf : pf_X9_set G N S x1 x2 x3 = some z) : Met l yX9_set wsX9_set rmX9_set (va_Pc [.ref b, .int x1, .int x2, .int x3] (mm_B D vwCl (mw_tys G) mw_aos G b S0 S)) (mm_Qv D vwCl (mw_tys G) mw_aos G b S0 z) 0 0 (mm_A b S0) := by
  refine Met.ofW (cc := cX9_set) (maxL := 9) (ret := none) (by decide) rfl ?_
  intro p e s m args below meth c s₁ B hml hv
  obtain ⟨rfl, hB⟩ := hv
  have hw := mm_begin hB
  have hx := B.exec
  have hb := B.bytes
  have hr := B.returns
  have hts : ∀ w ∈ lw_good, w.before _ s = true := fun w h => atoms_spec (ws := wsX9_set) B.pre w (List.mem_cons_of_mem _ h)
  have hown : s.vm.findClass RX9 = some m.cls := findClass_of_methodNamed B.named
  have hlocks := B.notSynchronized
  have hC : mw_C p s m _ meth c cX9_set RX9 none lw_good 9 := ⟨hx, hb, hml, hown, hts, hr, hlocks⟩
  have hl := lv_entry ([.ref b, .int x1, .int x2, .int x3]) (n := 9) (Nat.le_of_ble_eq_true rfl)
  rw [lg_entry_eq]
  generalize (lg_sl ([.ref b, .int x1, .int x2, .int x3]) ++ List.replicate (9 - (lg_sl ([.ref b, .int x1, .int x2, .int x3])).length) Slot.unset).toArray = ls at hl ⊢
  have hl : lv_has ls 9 [(0, .ref b), (1, .int x1), (2, .int x2), (3, .int x3)] := hl
  unfold pf_X9_set at hf
  refine lv_iload_n hx hb dX9_set_0 rfl (lv_at hl 2 rfl) ?_
  refine lv_istore hx hb dX9_set_1 hl (by decide) rfl (fun ls hl => ?_)
  have hl : lv_has ls 9 [(4, .int x2), (0, .ref b), (1, .int x1), (2, .int x2), (3, .int x3)] := hl
  exact bX9_set_3 ⟨hx, hb, hml, hown, hts, hr, hlocks⟩ D G N N _ _ _ _ _ _ _ hf (lv_sub hl [1, 2, 4, 0] rfl) hw
abbrev rmX9_record : Room := { frames := 0, cells := 0, slots := 0, locals := 0 }
abbrev wsX9_record : List Cond := Cond.code yX9_record cX9_record 1 (some .int) :: lw_good
set_option maxHeartbeats 4000000 in
set_option maxRecDepth 100000 in
theorem bX9_record_14 {p : Program} {l : Launch} {e : Env} {s : State} {m : MethodId} {args : Array Value} {below : List Frame} {meth : Method} {c : Code} (hC : mw_C p s m args meth c cX9_record RX9 (some .int) lw_good 1) (D : va_G) (G : Nat → ClassId) (N : Nat) {b : Nat} {S0 : mw_M} {z : Int32 × mm_M} : ∀ (w1 : Int32) (S : mm_M) (H : Heap) (locs : List Loc) (ls : Array Slot), pf_X9_record_14 G N w1 S = some z → lv_has ls 1 [(0, .ref b)] → mm_W D vwCl (mw_tys G) mw_aos s G b S0 S H locs → W p l e (headSpec wsX9_record rmX9_record).room s m args below meth c H locs 0 0 (MQ below (mm_Qi D vwCl (mw_tys G) mw_aos G b S0 z) args s 0 0 (mm_A b S0)) (F0 m 14 ls [.int w1, .ref b]) := by
  obtain ⟨hx, hb, hml, hown, hts, hr, hlocks⟩ := hC
  intro w1 S H locs ls hf hl hw
  unfold pf_X9_record_14 at hf
  obtain ⟨S1, e1, hf⟩ := mw_b hf
  refine mm_put hx hb hts inX9 tyX9 tyX9_ok nX9 hown hw rfl 4 (by decide) (hts _ tw_727) rfl rfl (by decide +kernel) (by decide) (mm_st4 _) e1 dX9_record_14 (fun H locs hw => ?_)
  refine lv_aload_n hx hb dX9_record_17 rfl (lv_at hl 0 rfl) ?_
  refine mm_geti hx hb hts inX9 hown hw rfl 4 (by decide) (hts _ tw_727) rfl (fun _ _ => rfl) dX9_record_18 ?_
  refine lv_if_le hx hb dX9_record_21 (tgt := 26) (by decide) (fun hc => ?_) (fun hc => ?_)
  · rw [if_pos hc] at hf
    refine lv_aload_n hx hb dX9_record_26 rfl (lv_at hl 0 rfl) ?_
    refine lv_dup hx hb dX9_record_27 rfl ?_
    refine mm_geti hx hb hts inX9 hown hw rfl 29 (by decide) (hts _ tw_752) rfl (fun _ _ => rfl) dX9_record_28 ?_
    refine lv_iconst (v := 1) hx hb dX9_record_31 (by decide) ?_
    refine lv_iadd hx hb dX9_record_32 ?_
    obtain ⟨S2, e2, hf⟩ := mw_b hf
    refine mm_put hx hb hts inX9 tyX9 tyX9_ok nX9 hown hw rfl 29 (by decide) (hts _ tw_752) rfl rfl (by decide +kernel) (by decide) (mm_st29 _) e2 dX9_record_33 (fun H locs hw => ?_)
    refine lv_aload_n hx hb dX9_record_36 rfl (lv_at hl 0 rfl) ?_
    refine mm_geti hx hb hts inX9 hown hw rfl 29 (by decide) (hts _ tw_752) rfl (fun _ _ => rfl) dX9_record_37 ?_
    refine lv_iconst (v := 1) hx hb dX9_record_40 (by decide) ?_
    refine lv_isub hx hb dX9_record_41 ?_
    exact mm_iret hx hb hr hlocks hw hf dX9_record_42
  · rw [if_neg hc] at hf
    refine lv_iconst (v := 0) hx hb dX9_record_24 (by decide) ?_
    exact mm_iret hx hb hr hlocks hw hf dX9_record_25
set_option maxHeartbeats 4000000 in
set_option maxRecDepth 100000 in
theorem cm_X9_record (l : Launch) (D : va_G) (G : Nat → ClassId) (N : Nat) (b : Nat) (S0 : mw_M) (S : mm_M) (z : Int32 × mm_M) (hf : pf_X9_record G N S = some z) : Met l yX9_record wsX9_record rmX9_record (va_Pc [.ref b] (mm_B D vwCl (mw_tys G) mw_aos G b S0 S)) (mm_Qi D vwCl (mw_tys G) mw_aos G b S0 z) 0 0 (mm_A b S0) := by
  refine Met.ofW (cc := cX9_record) (maxL := 1) (ret := (some .int)) (by decide) rfl ?_
  intro p e s m args below meth c s₁ B hml hv
  obtain ⟨rfl, hB⟩ := hv
  have hw := mm_begin hB
  have hx := B.exec
  have hb := B.bytes
  have hr := B.returns
  have hts : ∀ w ∈ lw_good, w.before _ s = true := fun w h => atoms_spec (ws := wsX9_record) B.pre w (List.mem_cons_of_mem _ h)
  have hown : s.vm.findClass RX9 = some m.cls := findClass_of_methodNamed B.named
  have hlocks := B.notSynchronized
  have hC : mw_C p s m _ meth c cX9_record RX9 (some .int) lw_good 1 := ⟨hx, hb, hml, hown, hts, hr, hlocks⟩
  have hl := lv_entry ([.ref b]) (n := 1) (Nat.le_of_ble_eq_true rfl)
  rw [lg_entry_eq]
  generalize (lg_sl ([.ref b]) ++ List.replicate (1 - (lg_sl ([.ref b])).length) Slot.unset).toArray = ls at hl ⊢
  have hl : lv_has ls 1 [(0, .ref b)] := hl
  unfold pf_X9_record at hf
  refine lv_aload_n hx hb dX9_record_0 rfl (lv_at hl 0 rfl) ?_
  refine lv_aload_n hx hb dX9_record_1 rfl (lv_at hl 0 rfl) ?_
  refine mm_geti hx hb hts inX9 hown hw rfl 29 (by decide) (hts _ tw_752) rfl (fun _ _ => rfl) dX9_record_2 ?_
  refine lv_iconst (v := 4) hx hb dX9_record_5 (by decide) ?_
  refine lv_icmp_ne hx hb dX9_record_6 (tgt := 13) (by decide) (fun hc => ?_) (fun hc => ?_)
  · rw [if_pos hc] at hf
    refine lv_iconst (v := 0) hx hb dX9_record_13 (by decide) ?_
    exact bX9_record_14 ⟨hx, hb, hml, hown, hts, hr, hlocks⟩ D G N _ _ _ _ _ hf (lv_sub hl [0] rfl) hw
  · rw [if_neg (fun q => q hc)] at hf
    refine lv_iconst (v := 1) hx hb dX9_record_9 (by decide) ?_
    refine lv_goto hx hb dX9_record_10 (tgt := 14) (by decide) ?_
    exact bX9_record_14 ⟨hx, hb, hml, hown, hts, hr, hlocks⟩ D G N _ _ _ _ _ hf (lv_sub hl [0] rfl) hw
abbrev rmX9_settings : Room := { frames := 3, cells := 0, slots := 0, locals := 73 }
abbrev wsX9_settings : List Cond := Cond.code yX9_settings cX9_settings 4 (some .int) :: lw_good
set_option maxHeartbeats 4000000 in
set_option maxRecDepth 100000 in
theorem bX9_settings_49 {p : Program} {l : Launch} {e : Env} {s : State} {m : MethodId} {args : Array Value} {below : List Frame} {meth : Method} {c : Code} (hC : mw_C p s m args meth c cX9_settings RX9 (some .int) lw_good 4) (D : va_G) (G : Nat → ClassId) (N : Nat) {b : Nat} {S0 : mw_M} {z : Int32 × mm_M} : ∀ (y1 : Int32) (y2 : Int32) (y3 : Int32) (w1 : Int32) (S : mm_M) (H : Heap) (locs : List Loc) (ls : Array Slot), pf_X9_settings_49 G N y1 y2 y3 w1 S = some z → lv_has ls 4 [(0, .ref b), (1, .int y1), (2, .int y2), (3, .int y3)] → mm_W D vwCl (mw_tys G) mw_aos s G b S0 S H locs → W p l e (headSpec wsX9_settings rmX9_settings).room s m args below meth c H locs 0 0 (MQ below (mm_Qi D vwCl (mw_tys G) mw_aos G b S0 z) args s 0 0 (mm_A b S0)) (F0 m 49 ls [.int w1, .ref b]) := by
  obtain ⟨hx, hb, hml, hown, hts, hr, hlocks⟩ := hC
  intro y1 y2 y3 w1 S H locs ls hf hl hw
  unfold pf_X9_settings_49 at hf
  obtain ⟨S1, e1, hf⟩ := mw_b hf
  refine mm_put hx hb hts inX9 tyX9 tyX9_ok nX9 hown hw rfl 4 (by decide) (hts _ tw_727) rfl rfl (by decide +kernel) (by decide) (mm_st4 _) e1 dX9_settings_49 (fun H locs hw => ?_)
  refine lv_aload_n hx hb dX9_settings_52 rfl (lv_at hl 0 rfl) ?_
  refine mm_geti hx hb hts inX9 hown hw rfl 4 (by decide) (hts _ tw_727) rfl (fun _ _ => rfl) dX9_settings_53 ?_
  refine lv_if_le hx hb dX9_settings_56 (tgt := 61) (by decide) (fun hc => ?_) (fun hc => ?_)
  · rw [if_pos hc] at hf
    refine lv_aload_n hx hb dX9_settings_61 rfl (lv_at hl 0 rfl) ?_
    refine lv_iload_n hx hb dX9_settings_62 rfl (lv_at hl 1 rfl) ?_
    refine lv_iconst (v := 0) hx hb dX9_settings_63 (by decide) ?_
    refine lv_iload_n hx hb dX9_settings_64 rfl (lv_at hl 2 rfl) ?_
    obtain ⟨S2, e2, hf⟩ := mw_b hf
    refine mm_callv (va_runV (As := [.int y1, .int 0, .int y2]) (rest := []) ⟨hx, hb, hml, hown, hts⟩ (cm_X9_set l D G N b S0 S1 y1 0 y2 S2 e2) (cwV 3 hts (mw_gV tw_942 tw_944 tp_31 tw_11 tw_945) rfl rfl rfl (by decide +kernel) ⟨Nat.le_of_ble_eq_true rfl, Nat.le_of_ble_eq_true rfl⟩) (mm_preV hw rfl) rfl rfl hl.1 rfl (lv_room (Nat.le_of_ble_eq_true rfl)) dX9_settings_65 ⟨(Nat.le_of_ble_eq_true rfl), (Nat.le_of_ble_eq_true rfl)⟩) hw (fun H locs hw => ?_)
    refine lv_iload_n hx hb dX9_settings_68 rfl (lv_at hl 3 rfl) ?_
    exact mm_iret hx hb hr hlocks hw hf dX9_settings_69
  · rw [if_neg hc] at hf
    refine lv_iconst (v := 0) hx hb dX9_settings_59 (by decide) ?_
    exact mm_iret hx hb hr hlocks hw hf dX9_settings_60
set_option maxHeartbeats 4000000 in
set_option maxRecDepth 100000 in
theorem bX9_settings_30 {p : Program} {l : Launch} {e : Env} {s : State} {m : MethodId} {args : Array Value} {below : List Frame} {meth : Method} {c : Code} (hC : mw_C p s m args meth c cX9_settings RX9 (some .int) lw_good 4) (D : va_G) (G : Nat → ClassId) (N : Nat) {b : Nat} {S0 : mw_M} {z : Int32 × mm_M} : ∀ (y1 : Int32) (y2 : Int32) (y3 : Int32) (S : mm_M) (H : Heap) (locs : List Loc) (ls : Array Slot), pf_X9_settings_30 G N y1 y2 y3 S = some z → lv_has ls 4 [(0, .ref b), (1, .int y1), (2, .int y2), (3, .int y3)] → mm_W D vwCl (mw_tys G) mw_aos s G b S0 S H locs → W p l e (headSpec wsX9_settings rmX9_settings).room s m args below meth c H locs 0 0 (MQ below (mm_Qi D vwCl (mw_tys G) mw_aos G b S0 z) args s 0 0 (mm_A b S0)) (F0 m 30 ls [.ref b]) := by
  obtain ⟨hx, hb, hml, hown, hts, hr, hlocks⟩ := hC
  intro y1 y2 y3 S H locs ls hf hl hw
  unfold pf_X9_settings_30 at hf
  refine lv_iconst (v := 1) hx hb dX9_settings_30 (by decide) ?_
  refine lv_goto hx hb dX9_settings_31 (tgt := 49) (by decide) ?_
  exact bX9_settings_49 ⟨hx, hb, hml, hown, hts, hr, hlocks⟩ D G N _ _ _ _ _ _ _ _ hf (lv_sub hl [0, 1, 2, 3] rfl) hw
set_option maxHeartbeats 4000000 in
set_option maxRecDepth 100000 in
theorem cm_X9_settings (l : Launch) (D : va_G) (G : Nat → ClassId) (N : Nat) (b : Nat) (S0 : mw_M) (S : mm_M) (x1 : Int32) (z : Int32 × mm_M) (hf : pf_X9_settings G N S x1 = some z) : Met l yX9_settings wsX9_settings rmX9_settings (va_Pc [.ref b, .int x1] (mm_B D vwCl (mw_tys G) mw_aos G b S0 S)) (mm_Qi D vwCl (mw_tys G) mw_aos G b S0 z) 0 0 (mm_A b S0) := by
  refine Met.ofW (cc := cX9_settings) (maxL := 4) (ret := (some .int)) (by decide) rfl ?_
  intro p e s m args below meth c s₁ B hml hv
  obtain ⟨rfl, hB⟩ := hv
  have hw := mm_begin hB
  have hx := B.exec
  have hb := B.bytes
  have hr := B.returns
  have hts : ∀ w ∈ lw_good, w.before _ s = true := fun w h => atoms_spec (ws := wsX9_settings) B.pre w (List.mem_cons_of_mem _ h)
  have hown : s.vm.findClass RX9 = some m.cls := findClass_of_methodNamed B.named
  have hlocks := B.notSynchronized
  have hC : mw_C p s m _ meth c cX9_settings RX9 (some .int) lw_good 4 := ⟨hx, hb, hml, hown, hts, hr, hlocks⟩
  have hl := lv_entry ([.ref b, .int x1]) (n := 4) (Nat.le_of_ble_eq_true rfl)
  rw [lg_entry_eq]
  generalize (lg_sl ([.ref b, .int x1]) ++ List.replicate (4 - (lg_sl ([.ref b, .int x1])).length) Slot.unset).toArray = ls at hl ⊢
  have hl : lv_has ls 4 [(0, .ref b), (1, .int x1)] := hl
  unfold pf_X9_settings at hf
  refine lv_aload_n hx hb dX9_settings_0 rfl (lv_at hl 0 rfl) ?_
  refine mm_geti hx hb hts inX9 hown hw rfl 5 (by decide) (hts _ tw_728) rfl (fun _ _ => rfl) dX9_settings_1 ?_
  refine lv_istore_n hx hb dX9_settings_4 rfl hl (by decide) rfl (fun ls hl => ?_)
  have hl : lv_has ls 4 [(2, .int (S.1 5)), (0, .ref b), (1, .int x1)] := hl
  refine lv_aload_n hx hb dX9_settings_5 rfl (lv_at hl 1 rfl) ?_
  refine lv_iconst (v := 0) hx hb dX9_settings_6 (by decide) ?_
  obtain ⟨S1, e1, hf⟩ := mw_b hf
  refine mm_put hx hb hts inX9 tyX9 tyX9_ok nX9 hown hw rfl 5 (by decide) (hts _ tw_728) rfl rfl (by decide +kernel) (by decide) (mm_st5 _) e1 dX9_settings_7 (fun H locs hw => ?_)
  refine lv_aload_n hx hb dX9_settings_10 rfl (lv_at hl 1 rfl) ?_
  refine lv_iconst (v := 0) hx hb dX9_settings_11 (by decide) ?_
  refine lv_iload_n hx hb dX9_settings_12 rfl (lv_at hl 0 rfl) ?_
  obtain ⟨v2, S2, e2, hf⟩ := mw_bb hf
  refine mm_calli (va_runV (As := [.int 0, .int (S.1 5)]) (rest := []) ⟨hx, hb, hml, hown, hts⟩ (cm_X9_items l D G N b S0 S1 0 (S.1 5) (v2, S2) e2) (cwV 2 hts (mw_gV tw_926 tw_928 tp_27 tw_11 tw_929) rfl rfl rfl (by decide +kernel) ⟨Nat.le_of_ble_eq_true rfl, Nat.le_of_ble_eq_true rfl⟩) (mm_preV hw rfl) rfl rfl hl.1 rfl (lv_room (Nat.le_of_ble_eq_true rfl)) dX9_settings_13 ⟨(Nat.le_of_ble_eq_true rfl), (Nat.le_of_ble_eq_true rfl)⟩) hw (fun H locs hw => ?_)
  refine lv_istore_n hx hb dX9_settings_16 rfl hl (by decide) rfl (fun ls hl => ?_)
  have hl : lv_has ls 4 [(3, .int v2), (2, .int (S.1 5)), (0, .ref b), (1, .int x1)] := hl
  refine lv_aload_n hx hb dX9_settings_17 rfl (lv_at hl 2 rfl) ?_
  refine lv_aload_n hx hb dX9_settings_18 rfl (lv_at hl 2 rfl) ?_
  refine lv_iload_n hx hb dX9_settings_19 rfl (lv_at hl 3 rfl) ?_
  obtain ⟨v3, S3, e3, hf⟩ := mw_bb hf
  refine mm_calli (va_runV (As := [.int x1]) (rest := [.ref b]) ⟨hx, hb, hml, hown, hts⟩ (cm_X9_isRecording l D G N b S0 S2 x1 (v3, S3) e3) (cwV 1 hts (mw_gV tw_938 tw_940 tp_30 tw_11 tw_941) rfl rfl rfl (by decide +kernel) ⟨Nat.le_of_ble_eq_true rfl, Nat.le_of_ble_eq_true rfl⟩) (mm_preV hw rfl) rfl rfl hl.1 rfl (lv_room (Nat.le_of_ble_eq_true rfl)) dX9_settings_20 ⟨(Nat.le_of_ble_eq_true rfl), (Nat.le_of_ble_eq_true rfl)⟩) hw (fun H locs hw => ?_)
  refine lv_if_eq hx hb dX9_settings_23 (tgt := 30) (by decide) (fun hc => ?_) (fun hc => ?_)
  · rw [if_pos hc] at hf
    exact bX9_settings_30 ⟨hx, hb, hml, hown, hts, hr, hlocks⟩ D G N _ _ _ _ _ _ _ hf (lv_sub hl [2, 3, 1, 0] rfl) hw
  · rw [if_neg hc] at hf
    refine lv_iload_n hx hb dX9_settings_26 rfl (lv_at hl 0 rfl) ?_
    refine lv_if_ge hx hb dX9_settings_27 (tgt := 34) (by decide) (fun hc => ?_) (fun hc => ?_)
    · rw [if_pos hc] at hf
      refine lv_aload_n hx hb dX9_settings_34 rfl (lv_at hl 2 rfl) ?_
      refine mm_getr hx hb hts inX9 hown hw rfl 30 (by decide) (hts _ tw_753) rfl 18 (fun _ _ => rfl) dX9_settings_35 ?_
      refine lv_iload_n hx hb dX9_settings_38 rfl (lv_at hl 3 rfl) ?_
      obtain ⟨v4, e4, hf⟩ := mw_b hf
      refine mm_iald hx hb hw 18 (by decide) 0 rfl e4 dX9_settings_39 ?_
      refine lv_iconst (v := 3) hx hb dX9_settings_40 (by decide) ?_
      refine lv_icmp_ne hx hb dX9_settings_41 (tgt := 48) (by decide) (fun hc => ?_) (fun hc => ?_)
      · rw [if_pos hc] at hf
        refine lv_iconst (v := 0) hx hb dX9_settings_48 (by decide) ?_
        exact bX9_settings_49 ⟨hx, hb, hml, hown, hts, hr, hlocks⟩ D G N _ _ _ _ _ _ _ _ hf (lv_sub hl [2, 3, 1, 0] rfl) hw
      · rw [if_neg (fun q => q hc)] at hf
        refine lv_iconst (v := 2) hx hb dX9_settings_44 (by decide) ?_
        refine lv_goto hx hb dX9_settings_45 (tgt := 49) (by decide) ?_
        exact bX9_settings_49 ⟨hx, hb, hml, hown, hts, hr, hlocks⟩ D G N _ _ _ _ _ _ _ _ hf (lv_sub hl [2, 3, 1, 0] rfl) hw
    · rw [if_neg hc] at hf
      exact bX9_settings_30 ⟨hx, hb, hml, hown, hts, hr, hlocks⟩ D G N _ _ _ _ _ _ _ hf (lv_sub hl [2, 3, 1, 0] rfl) hw
abbrev rmX9_profile : Room := { frames := 3, cells := 0, slots := 0, locals := 73 }
abbrev wsX9_profile : List Cond := Cond.code yX9_profile cX9_profile 8 (some .int) :: lw_good
set_option maxHeartbeats 4000000 in
set_option maxRecDepth 100000 in
theorem bX9_profile_203 {p : Program} {l : Launch} {e : Env} {s : State} {m : MethodId} {args : Array Value} {below : List Frame} {meth : Method} {c : Code} (hC : mw_C p s m args meth c cX9_profile RX9 (some .int) lw_good 8) (D : va_G) (G : Nat → ClassId) (N : Nat) {b : Nat} {S0 : mw_M} {z : Int32 × mm_M} (k22 : Int32 → Int32 → Int32 → Int32 → mm_M → Option (Int32 × mm_M)) (hk22 : ∀ (y1 : Int32) (y2 : Int32) (y3 : Int32) (y4 : Int32) (S : mm_M) (H : Heap) (locs : List Loc) (ls : Array Slot), k22 y1 y2 y3 y4 S = some z → lv_has ls 8 [(0, .ref b), (1, .int y1), (2, .int y2), (3, .int y3), (4, .int y4)] → mm_W D vwCl (mw_tys G) mw_aos s G b S0 S H locs → W p l e (headSpec wsX9_profile rmX9_profile).room s m args below meth c H locs 0 0 (MQ below (mm_Qi D vwCl (mw_tys G) mw_aos G b S0 z) args s 0 0 (mm_A b S0)) (F0 m 22 ls [])) : ∀ (y1 : Int32) (y2 : Int32) (y5 : Int32) (w0 : Int32) (S : mm_M) (H : Heap) (locs : List Loc) (ls : Array Slot), pf_X9_profile_203 G N k22 y1 y2 y5 w0 S = some z → lv_has ls 8 [(0, .ref b), (1, .int y1), (2, .int y2), (5, .int y5)] → mm_W D vwCl (mw_tys G) mw_aos s G b S0 S H locs → W p l e (headSpec wsX9_profile rmX9_profile).room s m args below meth c H locs 0 0 (MQ below (mm_Qi D vwCl (mw_tys G) mw_aos G b S0 z) args s 0 0 (mm_A b S0)) (F0 m 203 ls [.int w0]) := by
  obtain ⟨hx, hb, hml, hown, hts, hr, hlocks⟩ := hC
  intro y1 y2 y5 w0 S H locs ls hf hl hw
  unfold pf_X9_profile_203 at hf
  refine lv_istore_n hx hb dX9_profile_203 rfl hl (by decide) rfl (fun ls hl => ?_)
  have hl : lv_has ls 8 [(3, .int w0), (0, .ref b), (1, .int y1), (2, .int y2), (5, .int y5)] := hl
  refine lv_iload hx hb dX9_profile_204 (lv_at hl 4 rfl) ?_
  refine lv_iconst (v := 1) hx hb dX9_profile_206 (by decide) ?_
  refine lv_iadd hx hb dX9_profile_207 ?_
  refine lv_istore hx hb dX9_profile_208 hl (by decide) rfl (fun ls hl => ?_)
  have hl : lv_has ls 8 [(4, .int (y5 + 1)), (3, .int w0), (0, .ref b), (1, .int y1), (2, .int y2), (5, .int y5)] := hl
  refine lv_goto hx hb dX9_profile_210 (tgt := 22) (by decide) ?_
  exact hk22 _ _ _ _ _ _ _ _ hf (lv_sub hl [2, 3, 4, 1, 0] rfl) hw
set_option maxHeartbeats 4000000 in
set_option maxRecDepth 100000 in
theorem bX9_profile_190 {p : Program} {l : Launch} {e : Env} {s : State} {m : MethodId} {args : Array Value} {below : List Frame} {meth : Method} {c : Code} (hC : mw_C p s m args meth c cX9_profile RX9 (some .int) lw_good 8) (D : va_G) (G : Nat → ClassId) (N : Nat) {b : Nat} {S0 : mw_M} {z : Int32 × mm_M} (k22 : Int32 → Int32 → Int32 → Int32 → mm_M → Option (Int32 × mm_M)) (hk22 : ∀ (y1 : Int32) (y2 : Int32) (y3 : Int32) (y4 : Int32) (S : mm_M) (H : Heap) (locs : List Loc) (ls : Array Slot), k22 y1 y2 y3 y4 S = some z → lv_has ls 8 [(0, .ref b), (1, .int y1), (2, .int y2), (3, .int y3), (4, .int y4)] → mm_W D vwCl (mw_tys G) mw_aos s G b S0 S H locs → W p l e (headSpec wsX9_profile rmX9_profile).room s m args below meth c H locs 0 0 (MQ below (mm_Qi D vwCl (mw_tys G) mw_aos G b S0 z) args s 0 0 (mm_A b S0)) (F0 m 22 ls [])) : ∀ (y1 : Int32) (y3 : Int32) (y5 : Int32) (y7 : Int32) (w0 : Int32) (S : mm_M) (H : Heap) (locs : List Loc) (ls : Array Slot), pf_X9_profile_190 G N k22 y1 y3 y5 y7 w0 S = some z → lv_has ls 8 [(0, .ref b), (1, .int y1), (3, .int y3), (5, .int y5), (7, .int y7)] → mm_W D vwCl (mw_tys G) mw_aos s G b S0 S H locs → W p l e (headSpec wsX9_profile rmX9_profile).room s m args below meth c H locs 0 0 (MQ below (mm_Qi D vwCl (mw_tys G) mw_aos G b S0 z) args s 0 0 (mm_A b S0)) (F0 m 190 ls [.int w0]) := by
  obtain ⟨hx, hb, hml, hown, hts, hr, hlocks⟩ := hC
  intro y1 y3 y5 y7 w0 S H locs ls hf hl hw
  unfold pf_X9_profile_190 at hf
  refine lv_istore_n hx hb dX9_profile_190 rfl hl (by decide) rfl (fun ls hl => ?_)
  have hl : lv_has ls 8 [(2, .int w0), (0, .ref b), (1, .int y1), (3, .int y3), (5, .int y5), (7, .int y7)] := hl
  refine lv_iload hx hb dX9_profile_191 (lv_at hl 5 rfl) ?_
  refine lv_if_eq hx hb dX9_profile_193 (tgt := 200) (by decide) (fun hc => ?_) (fun hc => ?_)
  · rw [if_pos hc] at hf
    refine lv_iload_n hx hb dX9_profile_200 rfl (lv_at hl 3 rfl) ?_
    refine lv_iconst (v := 1) hx hb dX9_profile_201 (by decide) ?_
    refine lv_iadd hx hb dX9_profile_202 ?_
    exact bX9_profile_203 ⟨hx, hb, hml, hown, hts, hr, hlocks⟩ D G N k22 hk22 _ _ _ _ _ _ _ _ hf (lv_sub hl [1, 2, 0, 4] rfl) hw
  · rw [if_neg hc] at hf
    refine lv_iload_n hx hb dX9_profile_196 rfl (lv_at hl 3 rfl) ?_
    refine lv_goto hx hb dX9_profile_197 (tgt := 203) (by decide) ?_
    exact bX9_profile_203 ⟨hx, hb, hml, hown, hts, hr, hlocks⟩ D G N k22 hk22 _ _ _ _ _ _ _ _ hf (lv_sub hl [1, 2, 0, 4] rfl) hw
set_option maxHeartbeats 4000000 in
set_option maxRecDepth 100000 in
theorem bX9_profile_178 {p : Program} {l : Launch} {e : Env} {s : State} {m : MethodId} {args : Array Value} {below : List Frame} {meth : Method} {c : Code} (hC : mw_C p s m args meth c cX9_profile RX9 (some .int) lw_good 8) (D : va_G) (G : Nat → ClassId) (N : Nat) {b : Nat} {S0 : mw_M} {z : Int32 × mm_M} (k22 : Int32 → Int32 → Int32 → Int32 → mm_M → Option (Int32 × mm_M)) (hk22 : ∀ (y1 : Int32) (y2 : Int32) (y3 : Int32) (y4 : Int32) (S : mm_M) (H : Heap) (locs : List Loc) (ls : Array Slot), k22 y1 y2 y3 y4 S = some z → lv_has ls 8 [(0, .ref b), (1, .int y1), (2, .int y2), (3, .int y3), (4, .int y4)] → mm_W D vwCl (mw_tys G) mw_aos s G b S0 S H locs → W p l e (headSpec wsX9_profile rmX9_profile).room s m args below meth c H locs 0 0 (MQ below (mm_Qi D vwCl (mw_tys G) mw_aos G b S0 z) args s 0 0 (mm_A b S0)) (F0 m 22 ls [])) : ∀ (y1 : Int32) (y2 : Int32) (y3 : Int32) (y5 : Int32) (y7 : Int32) (S : mm_M) (H : Heap) (locs : List Loc) (ls : Array Slot), pf_X9_profile_178 G N k22 y1 y2 y3 y5 y7 S = some z → lv_has ls 8 [(0, .ref b), (1, .int y1), (2, .int y2), (3, .int y3), (5, .int y5), (7, .int y7)] → mm_W D vwCl (mw_tys G) mw_aos s G b S0 S H locs → W p l e (headSpec wsX9_profile rmX9_profile).room s m args below meth c H locs 0 0 (MQ below (mm_Qi D vwCl (mw_tys G) mw_aos G b S0 z) args s 0 0 (mm_A b S0)) (F0 m 178 ls []) := by
  obtain ⟨hx, hb, hml, hown, hts, hr, hlocks⟩ := hC
  intro y1 y2 y3 y5 y7 S H locs ls hf hl hw
  unfold pf_X9_profile_178 at hf
  refine lv_iload hx hb dX9_profile_178 (lv_at hl 5 rfl) ?_
  refine lv_if_eq hx hb dX9_profile_180 (tgt := 189) (by decide) (fun hc => ?_) (fun hc => ?_)
  · rw [if_pos hc] at hf
    refine lv_iload_n hx hb dX9_profile_189 rfl (lv_at hl 2 rfl) ?_
    exact bX9_profile_190 ⟨hx, hb, hml, hown, hts, hr, hlocks⟩ D G N k22 hk22 _ _ _ _ _ _ _ _ _ hf (lv_sub hl [0, 1, 3, 4, 5] rfl) hw
  · rw [if_neg hc] at hf
    refine lv_iload_n hx hb dX9_profile_183 rfl (lv_at hl 2 rfl) ?_
    refine lv_iconst (v := 1) hx hb dX9_profile_184 (by decide) ?_
    refine lv_iadd hx hb dX9_profile_185 ?_
    refine lv_goto hx hb dX9_profile_186 (tgt := 190) (by decide) ?_
    exact bX9_profile_190 ⟨hx, hb, hml, hown, hts, hr, hlocks⟩ D G N k22 hk22 _ _ _ _ _ _ _ _ _ hf (lv_sub hl [0, 1, 3, 4, 5] rfl) hw
set_option maxHeartbeats 4000000 in
set_option maxRecDepth 100000 in
theorem bX9_profile_159 {p : Program} {l : Launch} {e : Env} {s : State} {m : MethodId} {args : Array Value} {below : List Frame} {meth : Method} {c : Code} (hC : mw_C p s m args meth c cX9_profile RX9 (some .int) lw_good 8) (D : va_G) (G : Nat → ClassId) (N : Nat) {b : Nat} {S0 : mw_M} {z : Int32 × mm_M} (k22 : Int32 → Int32 → Int32 → Int32 → mm_M → Option (Int32 × mm_M)) (hk22 : ∀ (y1 : Int32) (y2 : Int32) (y3 : Int32) (y4 : Int32) (S : mm_M) (H : Heap) (locs : List Loc) (ls : Array Slot), k22 y1 y2 y3 y4 S = some z → lv_has ls 8 [(0, .ref b), (1, .int y1), (2, .int y2), (3, .int y3), (4, .int y4)] → mm_W D vwCl (mw_tys G) mw_aos s G b S0 S H locs → W p l e (headSpec wsX9_profile rmX9_profile).room s m args below meth c H locs 0 0 (MQ below (mm_Qi D vwCl (mw_tys G) mw_aos G b S0 z) args s 0 0 (mm_A b S0)) (F0 m 22 ls [])) : ∀ (y1 : Int32) (y2 : Int32) (y3 : Int32) (y4 : Int32) (y5 : Int32) (y6 : Int32) (w0 : Int32) (S : mm_M) (H : Heap) (locs : List Loc) (ls : Array Slot), pf_X9_profile_159 G N k22 y1 y2 y3 y4 y5 y6 w0 S = some z → lv_has ls 8 [(0, .ref b), (1, .int y1), (2, .int y2), (3, .int y3), (4, .int y4), (5, .int y5), (6, .int y6)] → mm_W D vwCl (mw_tys G) mw_aos s G b S0 S H locs → W p l e (headSpec wsX9_profile rmX9_profile).room s m args below meth c H locs 0 0 (MQ below (mm_Qi D vwCl (mw_tys G) mw_aos G b S0 z) args s 0 0 (mm_A b S0)) (F0 m 159 ls [.int w0]) := by
  obtain ⟨hx, hb, hml, hown, hts, hr, hlocks⟩ := hC
  intro y1 y2 y3 y4 y5 y6 w0 S H locs ls hf hl hw
  unfold pf_X9_profile_159 at hf
  refine lv_istore hx hb dX9_profile_159 hl (by decide) rfl (fun ls hl => ?_)
  have hl : lv_has ls 8 [(7, .int w0), (0, .ref b), (1, .int y1), (2, .int y2), (3, .int y3), (4, .int y4), (5, .int y5), (6, .int y6)] := hl
  refine lv_iload hx hb dX9_profile_161 (lv_at hl 0 rfl) ?_
  refine lv_if_eq hx hb dX9_profile_163 (tgt := 178) (by decide) (fun hc => ?_) (fun hc => ?_)
  · rw [if_pos hc] at hf
    exact bX9_profile_178 ⟨hx, hb, hml, hown, hts, hr, hlocks⟩ D G N k22 hk22 _ _ _ _ _ _ _ _ _ hf (lv_sub hl [1, 2, 3, 4, 6, 0] rfl) hw
  · rw [if_neg hc] at hf
    refine lv_aload_n hx hb dX9_profile_166 rfl (lv_at hl 1 rfl) ?_
    refine lv_iload hx hb dX9_profile_167 (lv_at hl 7 rfl) ?_
    refine lv_iload hx hb dX9_profile_169 (lv_at hl 5 rfl) ?_
    refine lv_iconst (v := 2) hx hb dX9_profile_171 (by decide) ?_
    refine lv_iadd hx hb dX9_profile_172 ?_
    refine lv_iload hx hb dX9_profile_173 (lv_at hl 6 rfl) ?_
    obtain ⟨S1, e1, hf⟩ := mw_b hf
    refine mm_callv (va_runV (As := [.int y6, .int (y4 + 2), .int y5]) (rest := []) ⟨hx, hb, hml, hown, hts⟩ (cm_X9_set l D G N b S0 S y6 (y4 + 2) y5 S1 e1) (cwV 3 hts (mw_gV tw_942 tw_944 tp_31 tw_11 tw_945) rfl rfl rfl (by decide +kernel) ⟨Nat.le_of_ble_eq_true rfl, Nat.le_of_ble_eq_true rfl⟩) (mm_preV hw rfl) rfl rfl hl.1 rfl (lv_room (Nat.le_of_ble_eq_true rfl)) dX9_profile_175 ⟨(Nat.le_of_ble_eq_true rfl), (Nat.le_of_ble_eq_true rfl)⟩) hw (fun H locs hw => ?_)
    exact bX9_profile_178 ⟨hx, hb, hml, hown, hts, hr, hlocks⟩ D G N k22 hk22 _ _ _ _ _ _ _ _ _ hf (lv_sub hl [1, 2, 3, 4, 6, 0] rfl) hw
set_option maxHeartbeats 4000000 in
set_option maxRecDepth 100000 in
theorem bX9_profile_158 {p : Program} {l : Launch} {e : Env} {s : State} {m : MethodId} {args : Array Value} {below : List Frame} {meth : Method} {c : Code} (hC : mw_C p s m args meth c cX9_profile RX9 (some .int) lw_good 8) (D : va_G) (G : Nat → ClassId) (N : Nat) {b : Nat} {S0 : mw_M} {z : Int32 × mm_M} (k22 : Int32 → Int32 → Int32 → Int32 → mm_M → Option (Int32 × mm_M)) (hk22 : ∀ (y1 : Int32) (y2 : Int32) (y3 : Int32) (y4 : Int32) (S : mm_M) (H : Heap) (locs : List Loc) (ls : Array Slot), k22 y1 y2 y3 y4 S = some z → lv_has ls 8 [(0, .ref b), (1, .int y1), (2, .int y2), (3, .int y3), (4, .int y4)] → mm_W D vwCl (mw_tys G) mw_aos s G b S0 S H locs → W p l e (headSpec wsX9_profile rmX9_profile).room s m args below meth c H locs 0 0 (MQ below (mm_Qi D vwCl (mw_tys G) mw_aos G b S0 z) args s 0 0 (mm_A b S0)) (F0 m 22 ls [])) : ∀ (y1 : Int32) (y2 : Int32) (y3 : Int32) (y4 : Int32) (y5 : Int32) (y6 : Int32) (S : mm_M) (H : Heap) (locs : List Loc) (ls : Array Slot), pf_X9_profile_158 G N k22 y1 y2 y3 y4 y5 y6 S = some z → lv_has ls 8 [(0, .ref b), (1, .int y1), (2, .int y2), (3, .int y3), (4, .int y4), (5, .int y5), (6, .int y6)] → mm_W D vwCl (mw_tys G) mw_aos s G b S0 S H locs → W p l e (headSpec wsX9_profile rmX9_profile).room s m args below meth c H locs 0 0 (MQ below (mm_Qi D vwCl (mw_tys G) mw_aos G b S0 z) args s 0 0 (mm_A b S0)) (F0 m 158 ls []) := by
  obtain ⟨hx, hb, hml, hown, hts, hr, hlocks⟩ := hC
  intro y1 y2 y3 y4 y5 y6 S H locs ls hf hl hw
  unfold pf_X9_profile_158 at hf
  refine lv_iconst (v := 0) hx hb dX9_profile_158 (by decide) ?_
  exact bX9_profile_159 ⟨hx, hb, hml, hown, hts, hr, hlocks⟩ D G N k22 hk22 _ _ _ _ _ _ _ _ _ _ _ hf (lv_sub hl [0, 1, 2, 3, 4, 5, 6] rfl) hw
set_option maxHeartbeats 4000000 in
set_option maxRecDepth 100000 in
theorem bX9_profile_113 {p : Program} {l : Launch} {e : Env} {s : State} {m : MethodId} {args : Array Value} {below : List Frame} {meth : Method} {c : Code} (hC : mw_C p s m args meth c cX9_profile RX9 (some .int) lw_good 8) (D : va_G) (G : Nat → ClassId) (N : Nat) {b : Nat} {S0 : mw_M} {z : Int32 × mm_M} (k22 : Int32 → Int32 → Int32 → Int32 → mm_M → Option (Int32 × mm_M)) (hk22 : ∀ (y1 : Int32) (y2 : Int32) (y3 : Int32) (y4 : Int32) (S : mm_M) (H : Heap) (locs : List Loc) (ls : Array Slot), k22 y1 y2 y3 y4 S = some z → lv_has ls 8 [(0, .ref b), (1, .int y1), (2, .int y2), (3, .int y3), (4, .int y4)] → mm_W D vwCl (mw_tys G) mw_aos s G b S0 S H locs → W p l e (headSpec wsX9_profile rmX9_profile).room s m args below meth c H locs 0 0 (MQ below (mm_Qi D vwCl (mw_tys G) mw_aos G b S0 z) args s 0 0 (mm_A b S0)) (F0 m 22 ls [])) : ∀ (y1 : Int32) (y2 : Int32) (y3 : Int32) (y4 : Int32) (y5 : Int32) (y6 : Int32) (w1 : Int32) (S : mm_M) (H : Heap) (locs : List Loc) (ls : Array Slot), pf_X9_profile_113 G N k22 y1 y2 y3 y4 y5 y6 w1 S = some z → lv_has ls 8 [(0, .ref b), (1, .int y1), (2, .int y2), (3, .int y3), (4, .int y4), (5, .int y5), (6, .int y6)] → mm_W D vwCl (mw_tys G) mw_aos s G b S0 S H locs → W p l e (headSpec wsX9_profile rmX9_profile).room s m args below meth c H locs 0 0 (MQ below (mm_Qi D vwCl (mw_tys G) mw_aos G b S0 z) args s 0 0 (mm_A b S0)) (F0 m 113 ls [.int w1, .ref (b + 1 + 18)]) := by
  obtain ⟨hx, hb, hml, hown, hts, hr, hlocks⟩ := hC
  intro y1 y2 y3 y4 y5 y6 w1 S H locs ls hf hl hw
  unfold pf_X9_profile_113 at hf
  obtain ⟨v1, e1, hf⟩ := mw_b hf
  refine mm_iald hx hb hw 18 (by decide) 0 rfl e1 dX9_profile_113 ?_
  refine lv_iconst (v := 3) hx hb dX9_profile_114 (by decide) ?_
  refine lv_icmp_eq hx hb dX9_profile_115 (tgt := 158) (by decide) (fun hc => ?_) (fun hc => ?_)
  · rw [if_pos hc] at hf
    exact bX9_profile_158 ⟨hx, hb, hml, hown, hts, hr, hlocks⟩ D G N k22 hk22 _ _ _ _ _ _ _ _ _ _ hf (lv_sub hl [0, 1, 2, 3, 4, 5, 6] rfl) hw
  · rw [if_neg hc] at hf
    refine lv_iload hx hb dX9_profile_118 (lv_at hl 4 rfl) ?_
    refine lv_iconst (v := 1) hx hb dX9_profile_120 (by decide) ?_
    refine lv_iadd hx hb dX9_profile_121 ?_
    refine lv_iload hx hb dX9_profile_122 (lv_at hl 5 rfl) ?_
    refine lv_icmp_ge hx hb dX9_profile_124 (tgt := 158) (by decide) (fun hc => ?_) (fun hc => ?_)
    · rw [if_pos hc] at hf
      exact bX9_profile_158 ⟨hx, hb, hml, hown, hts, hr, hlocks⟩ D G N k22 hk22 _ _ _ _ _ _ _ _ _ _ hf (lv_sub hl [0, 1, 2, 3, 4, 5, 6] rfl) hw
    · rw [if_neg hc] at hf
      refine lv_aload_n hx hb dX9_profile_127 rfl (lv_at hl 0 rfl) ?_
      refine mm_getr hx hb hts inX9 hown hw rfl 6 (by decide) (hts _ tw_729) rfl 0 (fun _ _ => rfl) dX9_profile_128 ?_
      refine lv_iload hx hb dX9_profile_131 (lv_at hl 4 rfl) ?_
      refine lv_iconst (v := 1) hx hb dX9_profile_133 (by decide) ?_
      refine lv_iadd hx hb dX9_profile_134 ?_
      obtain ⟨v2, e2, hf⟩ := mw_b hf
      refine mm_cald hx hb hw 0 (by decide) 2 rfl e2 dX9_profile_135 ?_
      refine lv_bipush (v := 58) hx hb dX9_profile_136 (by decide) ?_
      refine lv_icmp_ne hx hb dX9_profile_138 (tgt := 158) (by decide) (fun hc => ?_) (fun hc => ?_)
      · rw [if_pos hc] at hf
        exact bX9_profile_158 ⟨hx, hb, hml, hown, hts, hr, hlocks⟩ D G N k22 hk22 _ _ _ _ _ _ _ _ _ _ hf (lv_sub hl [0, 1, 2, 3, 4, 5, 6] rfl) hw
      · rw [if_neg (fun q => q hc)] at hf
        refine lv_aload_n hx hb dX9_profile_141 rfl (lv_at hl 0 rfl) ?_
        refine lv_iload hx hb dX9_profile_142 (lv_at hl 4 rfl) ?_
        refine lv_iconst (v := 2) hx hb dX9_profile_144 (by decide) ?_
        refine lv_iadd hx hb dX9_profile_145 ?_
        refine lv_iload hx hb dX9_profile_146 (lv_at hl 5 rfl) ?_
        obtain ⟨v3, S3, e3, hf⟩ := mw_bb hf
        refine mm_calli (va_runV (As := [.int (y4 + 2), .int y5]) (rest := []) ⟨hx, hb, hml, hown, hts⟩ (cm_X9_items l D G N b S0 S (y4 + 2) y5 (v3, S3) e3) (cwV 2 hts (mw_gV tw_926 tw_928 tp_27 tw_11 tw_929) rfl rfl rfl (by decide +kernel) ⟨Nat.le_of_ble_eq_true rfl, Nat.le_of_ble_eq_true rfl⟩) (mm_preV hw rfl) rfl rfl hl.1 rfl (lv_room (Nat.le_of_ble_eq_true rfl)) dX9_profile_148 ⟨(Nat.le_of_ble_eq_true rfl), (Nat.le_of_ble_eq_true rfl)⟩) hw (fun H locs hw => ?_)
        refine lv_if_le hx hb dX9_profile_151 (tgt := 158) (by decide) (fun hc => ?_) (fun hc => ?_)
        · rw [if_pos hc] at hf
          exact bX9_profile_158 ⟨hx, hb, hml, hown, hts, hr, hlocks⟩ D G N k22 hk22 _ _ _ _ _ _ _ _ _ _ hf (lv_sub hl [0, 1, 2, 3, 4, 5, 6] rfl) hw
        · rw [if_neg hc] at hf
          refine lv_iconst (v := 1) hx hb dX9_profile_154 (by decide) ?_
          refine lv_goto hx hb dX9_profile_155 (tgt := 159) (by decide) ?_
          exact bX9_profile_159 ⟨hx, hb, hml, hown, hts, hr, hlocks⟩ D G N k22 hk22 _ _ _ _ _ _ _ _ _ _ _ hf (lv_sub hl [0, 1, 2, 3, 4, 5, 6] rfl) hw
set_option maxHeartbeats 4000000 in
set_option maxRecDepth 100000 in
theorem bX9_profile_107 {p : Program} {l : Launch} {e : Env} {s : State} {m : MethodId} {args : Array Value} {below : List Frame} {meth : Method} {c : Code} (hC : mw_C p s m args meth c cX9_profile RX9 (some .int) lw_good 8) (D : va_G) (G : Nat → ClassId) (N : Nat) {b : Nat} {S0 : mw_M} {z : Int32 × mm_M} (k22 : Int32 → Int32 → Int32 → Int32 → mm_M → Option (Int32 × mm_M)) (hk22 : ∀ (y1 : Int32) (y2 : Int32) (y3 : Int32) (y4 : Int32) (S : mm_M) (H : Heap) (locs : List Loc) (ls : Array Slot), k22 y1 y2 y3 y4 S = some z → lv_has ls 8 [(0, .ref b), (1, .int y1), (2, .int y2), (3, .int y3), (4, .int y4)] → mm_W D vwCl (mw_tys G) mw_aos s G b S0 S H locs → W p l e (headSpec wsX9_profile rmX9_profile).room s m args below meth c H locs 0 0 (MQ below (mm_Qi D vwCl (mw_tys G) mw_aos G b S0 z) args s 0 0 (mm_A b S0)) (F0 m 22 ls [])) : ∀ (y1 : Int32) (y2 : Int32) (y3 : Int32) (y4 : Int32) (y5 : Int32) (y6 : Int32) (S : mm_M) (H : Heap) (locs : List Loc) (ls : Array Slot), pf_X9_profile_107 G N k22 y1 y2 y3 y4 y5 y6 S = some z → lv_has ls 8 [(0, .ref b), (1, .int y1), (2, .int y2), (3, .int y3), (4, .int y4), (5, .int y5), (6, .int y6)] → mm_W D vwCl (mw_tys G) mw_aos s G b S0 S H locs → W p l e (headSpec wsX9_profile rmX9_profile).room s m args below meth c H locs 0 0 (MQ below (mm_Qi D vwCl (mw_tys G) mw_aos G b S0 z) args s 0 0 (mm_A b S0)) (F0 m 107 ls [.ref (b + 1 + 18)]) := by
  obtain ⟨hx, hb, hml, hown, hts, hr, hlocks⟩ := hC
  intro y1 y2 y3 y4 y5 y6 S H locs ls hf hl hw
  unfold pf_X9_profile_107 at hf
  refine lv_iconst (v := 0) hx hb dX9_profile_107 (by decide) ?_
  refine lv_goto hx hb dX9_profile_108 (tgt := 113) (by decide) ?_
  exact bX9_profile_113 ⟨hx, hb, hml, hown, hts, hr, hlocks⟩ D G N k22 hk22 _ _ _ _ _ _ _ _ _ _ _ hf (lv_sub hl [0, 1, 2, 3, 4, 5, 6] rfl) hw
set_option maxHeartbeats 4000000 in
set_option maxRecDepth 100000 in
theorem bX9_profile_81 {p : Program} {l : Launch} {e : Env} {s : State} {m : MethodId} {args : Array Value} {below : List Frame} {meth : Method} {c : Code} (hC : mw_C p s m args meth c cX9_profile RX9 (some .int) lw_good 8) (D : va_G) (G : Nat → ClassId) (N : Nat) {b : Nat} {S0 : mw_M} {z : Int32 × mm_M} (k22 : Int32 → Int32 → Int32 → Int32 → mm_M → Option (Int32 × mm_M)) (hk22 : ∀ (y1 : Int32) (y2 : Int32) (y3 : Int32) (y4 : Int32) (S : mm_M) (H : Heap) (locs : List Loc) (ls : Array Slot), k22 y1 y2 y3 y4 S = some z → lv_has ls 8 [(0, .ref b), (1, .int y1), (2, .int y2), (3, .int y3), (4, .int y4)] → mm_W D vwCl (mw_tys G) mw_aos s G b S0 S H locs → W p l e (headSpec wsX9_profile rmX9_profile).room s m args below meth c H locs 0 0 (MQ below (mm_Qi D vwCl (mw_tys G) mw_aos G b S0 z) args s 0 0 (mm_A b S0)) (F0 m 22 ls [])) : ∀ (y1 : Int32) (y2 : Int32) (y3 : Int32) (y4 : Int32) (y5 : Int32) (w0 : Int32) (S : mm_M) (H : Heap) (locs : List Loc) (ls : Array Slot), pf_X9_profile_81 G N k22 y1 y2 y3 y4 y5 w0 S = some z → lv_has ls 8 [(0, .ref b), (1, .int y1), (2, .int y2), (3, .int y3), (4, .int y4), (5, .int y5)] → mm_W D vwCl (mw_tys G) mw_aos s G b S0 S H locs → W p l e (headSpec wsX9_profile rmX9_profile).room s m args below meth c H locs 0 0 (MQ below (mm_Qi D vwCl (mw_tys G) mw_aos G b S0 z) args s 0 0 (mm_A b S0)) (F0 m 81 ls [.int w0]) := by
  obtain ⟨hx, hb, hml, hown, hts, hr, hlocks⟩ := hC
  intro y1 y2 y3 y4 y5 w0 S H locs ls hf hl hw
  unfold pf_X9_profile_81 at hf
  refine lv_istore hx hb dX9_profile_81 hl (by decide) rfl (fun ls hl => ?_)
  have hl : lv_has ls 8 [(6, .int w0), (0, .ref b), (1, .int y1), (2, .int y2), (3, .int y3), (4, .int y4), (5, .int y5)] := hl
  refine lv_aload_n hx hb dX9_profile_83 rfl (lv_at hl 1 rfl) ?_
  refine lv_iload hx hb dX9_profile_84 (lv_at hl 0 rfl) ?_
  obtain ⟨v1, S1, e1, hf⟩ := mw_bb hf
  refine mm_calli (va_runV (As := [.int w0]) (rest := []) ⟨hx, hb, hml, hown, hts⟩ (cm_X9_isRecording l D G N b S0 S w0 (v1, S1) e1) (cwV 1 hts (mw_gV tw_938 tw_940 tp_30 tw_11 tw_941) rfl rfl rfl (by decide +kernel) ⟨Nat.le_of_ble_eq_true rfl, Nat.le_of_ble_eq_true rfl⟩) (mm_preV hw rfl) rfl rfl hl.1 rfl (lv_room (Nat.le_of_ble_eq_true rfl)) dX9_profile_86 ⟨(Nat.le_of_ble_eq_true rfl), (Nat.le_of_ble_eq_true rfl)⟩) hw (fun H locs hw => ?_)
  refine lv_if_eq hx hb dX9_profile_89 (tgt := 158) (by decide) (fun hc => ?_) (fun hc => ?_)
  · rw [if_pos hc] at hf
    exact bX9_profile_158 ⟨hx, hb, hml, hown, hts, hr, hlocks⟩ D G N k22 hk22 _ _ _ _ _ _ _ _ _ _ hf (lv_sub hl [1, 2, 3, 4, 5, 6, 0] rfl) hw
  · rw [if_neg hc] at hf
    refine lv_aload_n hx hb dX9_profile_92 rfl (lv_at hl 1 rfl) ?_
    refine mm_getr hx hb hts inX9 hown hw rfl 30 (by decide) (hts _ tw_753) rfl 18 (fun _ _ => rfl) dX9_profile_93 ?_
    refine lv_iload hx hb dX9_profile_96 (lv_at hl 0 rfl) ?_
    refine lv_if_lt hx hb dX9_profile_98 (tgt := 107) (by decide) (fun hc => ?_) (fun hc => ?_)
    · rw [if_pos hc] at hf
      exact bX9_profile_107 ⟨hx, hb, hml, hown, hts, hr, hlocks⟩ D G N k22 hk22 _ _ _ _ _ _ _ _ _ _ hf (lv_sub hl [1, 2, 3, 4, 5, 6, 0] rfl) hw
    · rw [if_neg hc] at hf
      refine lv_iload hx hb dX9_profile_101 (lv_at hl 0 rfl) ?_
      refine lv_iconst (v := 3) hx hb dX9_profile_103 (by decide) ?_
      refine lv_icmp_le hx hb dX9_profile_104 (tgt := 111) (by decide) (fun hc => ?_) (fun hc => ?_)
      · rw [if_pos hc] at hf
        refine lv_iload hx hb dX9_profile_111 (lv_at hl 0 rfl) ?_
        exact bX9_profile_113 ⟨hx, hb, hml, hown, hts, hr, hlocks⟩ D G N k22 hk22 _ _ _ _ _ _ _ _ _ _ _ hf (lv_sub hl [1, 2, 3, 4, 5, 6, 0] rfl) hw
      · rw [if_neg hc] at hf
        exact bX9_profile_107 ⟨hx, hb, hml, hown, hts, hr, hlocks⟩ D G N k22 hk22 _ _ _ _ _ _ _ _ _ _ hf (lv_sub hl [1, 2, 3, 4, 5, 6, 0] rfl) hw
set_option maxHeartbeats 4000000 in
set_option maxRecDepth 100000 in
theorem bX9_profile_56 {p : Program} {l : Launch} {e : Env} {s : State} {m : MethodId} {args : Array Value} {below : List Frame} {meth : Method} {c : Code} (hC : mw_C p s m args meth c cX9_profile RX9 (some .int) lw_good 8) (D : va_G) (G : Nat → ClassId) (N : Nat) {b : Nat} {S0 : mw_M} {z : Int32 × mm_M} (k22 : Int32 → Int32 → Int32 → Int32 → mm_M → Option (Int32 × mm_M)) (hk22 : ∀ (y1 : Int32) (y2 : Int32) (y3 : Int32) (y4 : Int32) (S : mm_M) (H : Heap) (locs : List Loc) (ls : Array Slot), k22 y1 y2 y3 y4 S = some z → lv_has ls 8 [(0, .ref b), (1, .int y1), (2, .int y2), (3, .int y3), (4, .int y4)] → mm_W D vwCl (mw_tys G) mw_aos s G b S0 S H locs → W p l e (headSpec wsX9_profile rmX9_profile).room s m args below meth c H locs 0 0 (MQ below (mm_Qi D vwCl (mw_tys G) mw_aos G b S0 z) args s 0 0 (mm_A b S0)) (F0 m 22 ls [])) : ∀ (y1 : Int32) (y2 : Int32) (y3 : Int32) (y4 : Int32) (y5 : Int32) (S : mm_M) (H : Heap) (locs : List Loc) (ls : Array Slot), pf_X9_profile_56 G N k22 y1 y2 y3 y4 y5 S = some z → lv_has ls 8 [(0, .ref b), (1, .int y1), (2, .int y2), (3, .int y3), (4, .int y4), (5, .int y5)] → mm_W D vwCl (mw_tys G) mw_aos s G b S0 S H locs → W p l e (headSpec wsX9_profile rmX9_profile).room s m args below meth c H locs 0 0 (MQ below (mm_Qi D vwCl (mw_tys G) mw_aos G b S0 z) args s 0 0 (mm_A b S0)) (F0 m 56 ls []) := by
  obtain ⟨hx, hb, hml, hown, hts, hr, hlocks⟩ := hC
  intro y1 y2 y3 y4 y5 S H locs ls hf hl hw
  unfold pf_X9_profile_56 at hf
  refine lv_aload_n hx hb dX9_profile_56 rfl (lv_at hl 0 rfl) ?_
  refine lv_iload hx hb dX9_profile_57 (lv_at hl 4 rfl) ?_
  refine lv_iload hx hb dX9_profile_59 (lv_at hl 5 rfl) ?_
  obtain ⟨v1, S1, e1, hf⟩ := mw_bb hf
  refine mm_calli (va_runV (As := [.int y4, .int y5]) (rest := []) ⟨hx, hb, hml, hown, hts⟩ (cm_X9_digit l D G N b S0 S y4 y5 (v1, S1) e1) (cwV 2 hts (mw_gV tw_934 tw_936 tp_29 tw_11 tw_937) rfl rfl rfl (by decide +kernel) ⟨Nat.le_of_ble_eq_true rfl, Nat.le_of_ble_eq_true rfl⟩) (mm_preV hw rfl) rfl rfl hl.1 rfl (lv_room (Nat.le_of_ble_eq_true rfl)) dX9_profile_61 ⟨(Nat.le_of_ble_eq_true rfl), (Nat.le_of_ble_eq_true rfl)⟩) hw (fun H locs hw => ?_)
  refine lv_if_eq hx hb dX9_profile_64 (tgt := 80) (by decide) (fun hc => ?_) (fun hc => ?_)
  · rw [if_pos hc] at hf
    refine lv_iconst (v := (-1)) hx hb dX9_profile_80 (by decide) ?_
    exact bX9_profile_81 ⟨hx, hb, hml, hown, hts, hr, hlocks⟩ D G N k22 hk22 _ _ _ _ _ _ _ _ _ _ hf (lv_sub hl [0, 1, 2, 3, 4, 5] rfl) hw
  · rw [if_neg hc] at hf
    refine lv_aload_n hx hb dX9_profile_67 rfl (lv_at hl 0 rfl) ?_
    refine mm_getr hx hb hts inX9 hown hw rfl 6 (by decide) (hts _ tw_729) rfl 0 (fun _ _ => rfl) dX9_profile_68 ?_
    refine lv_iload hx hb dX9_profile_71 (lv_at hl 4 rfl) ?_
    obtain ⟨v2, e2, hf⟩ := mw_b hf
    refine mm_cald hx hb hw 0 (by decide) 2 rfl e2 dX9_profile_73 ?_
    refine lv_bipush (v := 48) hx hb dX9_profile_74 (by decide) ?_
    refine lv_isub hx hb dX9_profile_76 ?_
    refine lv_goto hx hb dX9_profile_77 (tgt := 81) (by decide) ?_
    exact bX9_profile_81 ⟨hx, hb, hml, hown, hts, hr, hlocks⟩ D G N k22 hk22 _ _ _ _ _ _ _ _ _ _ hf (lv_sub hl [0, 1, 2, 3, 4, 5] rfl) hw
set_option maxHeartbeats 4000000 in
set_option maxRecDepth 100000 in
theorem bX9_profile_32 {p : Program} {l : Launch} {e : Env} {s : State} {m : MethodId} {args : Array Value} {below : List Frame} {meth : Method} {c : Code} (hC : mw_C p s m args meth c cX9_profile RX9 (some .int) lw_good 8) (D : va_G) (G : Nat → ClassId) (N : Nat) {b : Nat} {S0 : mw_M} {z : Int32 × mm_M} (k22 : Int32 → Int32 → Int32 → Int32 → mm_M → Option (Int32 × mm_M)) (hk22 : ∀ (y1 : Int32) (y2 : Int32) (y3 : Int32) (y4 : Int32) (S : mm_M) (H : Heap) (locs : List Loc) (ls : Array Slot), k22 y1 y2 y3 y4 S = some z → lv_has ls 8 [(0, .ref b), (1, .int y1), (2, .int y2), (3, .int y3), (4, .int y4)] → mm_W D vwCl (mw_tys G) mw_aos s G b S0 S H locs → W p l e (headSpec wsX9_profile rmX9_profile).room s m args below meth c H locs 0 0 (MQ below (mm_Qi D vwCl (mw_tys G) mw_aos G b S0 z) args s 0 0 (mm_A b S0)) (F0 m 22 ls [])) : ∀ (n : Nat) (y1 : Int32) (y2 : Int32) (y3 : Int32) (y4 : Int32) (y5 : Int32) (S : mm_M) (H : Heap) (locs : List Loc) (ls : Array Slot), pf_X9_profile_32 G N k22 n y1 y2 y3 y4 y5 S = some z → lv_has ls 8 [(0, .ref b), (1, .int y1), (2, .int y2), (3, .int y3), (4, .int y4), (5, .int y5)] → mm_W D vwCl (mw_tys G) mw_aos s G b S0 S H locs → W p l e (headSpec wsX9_profile rmX9_profile).room s m args below meth c H locs 0 0 (MQ below (mm_Qi D vwCl (mw_tys G) mw_aos G b S0 z) args s 0 0 (mm_A b S0)) (F0 m 32 ls []) := by
  obtain ⟨hx, hb, hml, hown, hts, hr, hlocks⟩ := hC
  intro n
  induction n with
  | zero => intro y1 y2 y3 y4 y5 S H locs ls hf; rw [pf_X9_profile_32] at hf; cases hf
  | succ n ih =>
    intro y1 y2 y3 y4 y5 S H locs ls hf hl hw
    rw [pf_X9_profile_32] at hf
    refine lv_iload hx hb dX9_profile_32 (lv_at hl 5 rfl) ?_
    refine lv_iload_n hx hb dX9_profile_34 rfl (lv_at hl 1 rfl) ?_
    refine lv_icmp_ge hx hb dX9_profile_35 (tgt := 56) (by decide) (fun hc => ?_) (fun hc => ?_)
    · rw [if_pos hc] at hf
      exact bX9_profile_56 ⟨hx, hb, hml, hown, hts, hr, hlocks⟩ D G N k22 hk22 _ _ _ _ _ _ _ _ _ hf (lv_sub hl [0, 1, 2, 3, 4, 5] rfl) hw
    · rw [if_neg hc] at hf
      refine lv_aload_n hx hb dX9_profile_38 rfl (lv_at hl 0 rfl) ?_
      refine mm_getr hx hb hts inX9 hown hw rfl 6 (by decide) (hts _ tw_729) rfl 0 (fun _ _ => rfl) dX9_profile_39 ?_
      refine lv_iload hx hb dX9_profile_42 (lv_at hl 5 rfl) ?_
      obtain ⟨v1, e1, hf⟩ := mw_b hf
      refine mm_cald hx hb hw 0 (by decide) 2 rfl e1 dX9_profile_44 ?_
      refine lv_bipush (v := 124) hx hb dX9_profile_45 (by decide) ?_
      refine lv_icmp_eq hx hb dX9_profile_47 (tgt := 56) (by decide) (fun hc => ?_) (fun hc => ?_)
      · rw [if_pos hc] at hf
        exact bX9_profile_56 ⟨hx, hb, hml, hown, hts, hr, hlocks⟩ D G N k22 hk22 _ _ _ _ _ _ _ _ _ hf (lv_sub hl [0, 1, 2, 3, 4, 5] rfl) hw
      · rw [if_neg hc] at hf
        refine lv_iinc (k := 5) (v := (y5 + 1)) hx hb dX9_profile_50 hl rfl (congrArg (fun q => y5 + q) (show Int32.ofInt 1 = 1 by decide)) (by decide) rfl (fun ls hl => ?_)
        have hl : lv_has ls 8 [(5, .int (y5 + 1)), (0, .ref b), (1, .int y1), (2, .int y2), (3, .int y3), (4, .int y4)] := hl
        refine lv_goto hx hb dX9_profile_53 (tgt := 32) (by decide) ?_
        exact ih _ _ _ _ _ _ _ _ _ hf (lv_sub hl [1, 2, 3, 4, 5, 0] rfl) hw
set_option maxHeartbeats 4000000 in
set_option maxRecDepth 100000 in
theorem bX9_profile_22 {p : Program} {l : Launch} {e : Env} {s : State} {m : MethodId} {args : Array Value} {below : List Frame} {meth : Method} {c : Code} (hC : mw_C p s m args meth c cX9_profile RX9 (some .int) lw_good 8) (D : va_G) (G : Nat → ClassId) (N : Nat) {b : Nat} {S0 : mw_M} {z : Int32 × mm_M} : ∀ (n : Nat) (y1 : Int32) (y2 : Int32) (y3 : Int32) (y4 : Int32) (S : mm_M) (H : Heap) (locs : List Loc) (ls : Array Slot), pf_X9_profile_22 G N n y1 y2 y3 y4 S = some z → lv_has ls 8 [(0, .ref b), (1, .int y1), (2, .int y2), (3, .int y3), (4, .int y4)] → mm_W D vwCl (mw_tys G) mw_aos s G b S0 S H locs → W p l e (headSpec wsX9_profile rmX9_profile).room s m args below meth c H locs 0 0 (MQ below (mm_Qi D vwCl (mw_tys G) mw_aos G b S0 z) args s 0 0 (mm_A b S0)) (F0 m 22 ls []) := by
  obtain ⟨hx, hb, hml, hown, hts, hr, hlocks⟩ := hC
  intro n
  induction n with
  | zero => intro y1 y2 y3 y4 S H locs ls hf; rw [pf_X9_profile_22] at hf; cases hf
  | succ n ih =>
    intro y1 y2 y3 y4 S H locs ls hf hl hw
    rw [pf_X9_profile_22] at hf
    refine lv_iload hx hb dX9_profile_22 (lv_at hl 4 rfl) ?_
    refine lv_iload_n hx hb dX9_profile_24 rfl (lv_at hl 1 rfl) ?_
    refine lv_icmp_gt hx hb dX9_profile_25 (tgt := 213) (by decide) (fun hc => ?_) (fun hc => ?_)
    · rw [if_pos hc] at hf
      refine lv_bipush (v := 10) hx hb dX9_profile_213 (by decide) ?_
      refine lv_iload_n hx hb dX9_profile_215 rfl (lv_at hl 2 rfl) ?_
      refine lv_imul hx hb dX9_profile_216 ?_
      refine lv_iload_n hx hb dX9_profile_217 rfl (lv_at hl 3 rfl) ?_
      refine lv_iadd hx hb dX9_profile_218 ?_
      exact mm_iret hx hb hr hlocks hw hf dX9_profile_219
    · rw [if_neg hc] at hf
      refine lv_iload hx hb dX9_profile_28 (lv_at hl 4 rfl) ?_
      refine lv_istore hx hb dX9_profile_30 hl (by decide) rfl (fun ls hl => ?_)
      have hl : lv_has ls 8 [(5, .int y4), (0, .ref b), (1, .int y1), (2, .int y2), (3, .int y3), (4, .int y4)] := hl
      exact bX9_profile_32 ⟨hx, hb, hml, hown, hts, hr, hlocks⟩ D G N (pf_X9_profile_22 G N n) ih N _ _ _ _ _ _ _ _ _ hf (lv_sub hl [1, 2, 3, 4, 5, 0] rfl) hw
set_option maxHeartbeats 4000000 in
set_option maxRecDepth 100000 in
theorem cm_X9_profile (l : Launch) (D : va_G) (G : Nat → ClassId) (N : Nat) (b : Nat) (S0 : mw_M) (S : mm_M) (z : Int32 × mm_M) (hf : pf_X9_profile G N S = some z) : Met l yX9_profile wsX9_profile rmX9_profile (va_Pc [.ref b] (mm_B D vwCl (mw_tys G) mw_aos G b S0 S)) (mm_Qi D vwCl (mw_tys G) mw_aos G b S0 z) 0 0 (mm_A b S0) := by
  refine Met.ofW (cc := cX9_profile) (maxL := 8) (ret := (some .int)) (by decide) rfl ?_
  intro p e s m args below meth c s₁ B hml hv
  obtain ⟨rfl, hB⟩ := hv
  have hw := mm_begin hB
  have hx := B.exec
  have hb := B.bytes
  have hr := B.returns
  have hts : ∀ w ∈ lw_good, w.before _ s = true := fun w h => atoms_spec (ws := wsX9_profile) B.pre w (List.mem_cons_of_mem _ h)
  have hown : s.vm.findClass RX9 = some m.cls := findClass_of_methodNamed B.named
  have hlocks := B.notSynchronized
  have hC : mw_C p s m _ meth c cX9_profile RX9 (some .int) lw_good 8 := ⟨hx, hb, hml, hown, hts, hr, hlocks⟩
  have hl := lv_entry ([.ref b]) (n := 8) (Nat.le_of_ble_eq_true rfl)
  rw [lg_entry_eq]
  generalize (lg_sl ([.ref b]) ++ List.replicate (8 - (lg_sl ([.ref b])).length) Slot.unset).toArray = ls at hl ⊢
  have hl : lv_has ls 8 [(0, .ref b)] := hl
  unfold pf_X9_profile at hf
  refine lv_aload_n hx hb dX9_profile_0 rfl (lv_at hl 0 rfl) ?_
  refine lv_iconst (v := 0) hx hb dX9_profile_1 (by decide) ?_
  obtain ⟨S1, e1, hf⟩ := mw_b hf
  refine mm_put hx hb hts inX9 tyX9 tyX9_ok nX9 hown hw rfl 4 (by decide) (hts _ tw_727) rfl rfl (by decide +kernel) (by decide) (mm_st4 _) e1 dX9_profile_2 (fun H locs hw => ?_)
  refine lv_aload_n hx hb dX9_profile_5 rfl (lv_at hl 0 rfl) ?_
  refine mm_geti hx hb hts inX9 hown hw rfl 5 (by decide) (hts _ tw_728) rfl (fun _ _ => rfl) dX9_profile_6 ?_
  refine lv_istore_n hx hb dX9_profile_9 rfl hl (by decide) rfl (fun ls hl => ?_)
  have hl : lv_has ls 8 [(1, .int (S1.1 5)), (0, .ref b)] := hl
  refine lv_aload_n hx hb dX9_profile_10 rfl (lv_at hl 1 rfl) ?_
  refine lv_iconst (v := 0) hx hb dX9_profile_11 (by decide) ?_
  obtain ⟨S2, e2, hf⟩ := mw_b hf
  refine mm_put hx hb hts inX9 tyX9 tyX9_ok nX9 hown hw rfl 5 (by decide) (hts _ tw_728) rfl rfl (by decide +kernel) (by decide) (mm_st5 _) e2 dX9_profile_12 (fun H locs hw => ?_)
  refine lv_iconst (v := 0) hx hb dX9_profile_15 (by decide) ?_
  refine lv_istore_n hx hb dX9_profile_16 rfl hl (by decide) rfl (fun ls hl => ?_)
  have hl : lv_has ls 8 [(2, .int 0), (1, .int (S1.1 5)), (0, .ref b)] := hl
  refine lv_iconst (v := 0) hx hb dX9_profile_17 (by decide) ?_
  refine lv_istore_n hx hb dX9_profile_18 rfl hl (by decide) rfl (fun ls hl => ?_)
  have hl : lv_has ls 8 [(3, .int 0), (2, .int 0), (1, .int (S1.1 5)), (0, .ref b)] := hl
  refine lv_iconst (v := 0) hx hb dX9_profile_19 (by decide) ?_
  refine lv_istore hx hb dX9_profile_20 hl (by decide) rfl (fun ls hl => ?_)
  have hl : lv_has ls 8 [(4, .int 0), (3, .int 0), (2, .int 0), (1, .int (S1.1 5)), (0, .ref b)] := hl
  exact bX9_profile_22 ⟨hx, hb, hml, hown, hts, hr, hlocks⟩ D G N N _ _ _ _ _ _ _ _ hf (lv_sub hl [4, 3, 2, 1, 0] rfl) hw
