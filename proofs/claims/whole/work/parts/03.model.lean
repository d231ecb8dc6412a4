/-! The reference as two functions: its int fields by slot, its arrays by their order. -/
abbrev mm_M : Type := (Nat → Int32) × (Nat → Nat → Int32)
def mm_fs (b : Nat) (I : Nat → Int32) : List Value := [.int (I 0), .int (I 1), .int (I 2), .int (I 3), .int (I 4), .int (I 5), .ref (b + 1 + 0), .int (I 7), .ref (b + 1 + 1), .ref (b + 1 + 2), .int (I 10), .ref (b + 1 + 3), .ref (b + 1 + 4), .ref (b + 1 + 5), .ref (b + 1 + 6), .ref (b + 1 + 7), .ref (b + 1 + 8), .ref (b + 1 + 9), .int (I 18), .int (I 19), .int (I 20), .ref (b + 1 + 10), .ref (b + 1 + 11), .ref (b + 1 + 12), .ref (b + 1 + 13), .ref (b + 1 + 14), .ref (b + 1 + 15), .ref (b + 1 + 16), .ref (b + 1 + 17), .int (I 29), .ref (b + 1 + 18), .ref (b + 1 + 19), .ref (b + 1 + 20), .ref (b + 1 + 21), .ref (b + 1 + 22), .ref (b + 1 + 23), .int (I 36), .ref (b + 1 + 24), .int (I 38)]
def mm_ty (k : Nat) : Nat := ([2, 0, 3, 2, 0, 0, 0, 0, 0, 0, 0, 0, 0, 0, 0, 0, 0, 0, 0, 3, 0, 0, 0, 0, 0] : List Nat).getD k 0
def mm_ln (k : Nat) : Nat := ([40, 6, 6, 192, 24, 3, 9, 420, 7, 7, 4200, 7, 7, 7, 7, 7, 3, 3, 4, 24, 24, 4, 4, 4400, 64] : List Nat).getD k 0
def mm_R (G : Nat → ClassId) (b : Nat) (S : mw_M) (M : mm_M) : Prop := S.1 b = some (.inr (9, mm_fs b M.1)) ∧ ∀ k, k < 25 → S.1 (b + 1 + k) = some (.inl (G (mm_ty k), mm_ln k, .inl (M.2 k)))
def mm_sm (b : Nat) (S0 S : mw_M) : Prop := (∀ q, (q < b ∨ b + 25 < q) → S.1 q = S0.1 q) ∧ S.2 = S0.2
def mm_A (b : Nat) (S0 : mw_M) : Nat → Prop := fun q => mw_A S0 q ∨ (b ≤ q ∧ q ≤ b + 25)
def mm_ai (M : mm_M) (k : Nat) (i : Int32) : Option Int32 := if ¬ (i < 0 ∨ mm_ln k ≤ i.toNatClampNeg) then some (M.2 k i.toNatClampNeg) else none
def mm_si (M : mm_M) (k : Nat) (i x : Int32) : Option mm_M := if ¬ (i < 0 ∨ mm_ln k ≤ i.toNatClampNeg) then some (M.1, va_up M.2 k (upd (M.2 k) i.toNatClampNeg x)) else none
def mm_pf (M : mm_M) (j : Nat) (v : Int32) : Option mm_M := some (va_up M.1 j v, M.2)
def mm_W (D : va_G) (cl : List vw_C) (tys : List (ClassId × FieldType)) (aos : List String) (s : State) (G : Nat → ClassId) (b : Nat) (S0 : mw_M) (M : mm_M) (H : Heap) (locs : List Loc) : Prop := ∃ S, mw_W D cl tys aos (mm_A b S0) s S H locs ∧ mm_R G b S M ∧ mm_sm b S0 S
def mm_B (D : va_G) (cl : List vw_C) (tys : List (ClassId × FieldType)) (aos : List String) (G : Nat → ClassId) (b : Nat) (S0 : mw_M) (M : mm_M) (U : State) : Prop := ∃ S, mw_B D cl tys aos S U ∧ mm_R G b S M ∧ mm_sm b S0 S
def mm_E (D : va_G) (cl : List vw_C) (tys : List (ClassId × FieldType)) (aos : List String) (G : Nat → ClassId) (b : Nat) (S0 : mw_M) (M : mm_M) (t : State) : Prop := ∃ S, mw_E D cl tys aos (mm_A b S0) S t ∧ mm_R G b S M ∧ mm_sm b S0 S
abbrev mm_Qi (D : va_G) (cl : List vw_C) (tys : List (ClassId × FieldType)) (aos : List String) (G : Nat → ClassId) (b : Nat) (S0 : mw_M) (z : Int32 × mm_M) : Array Value → State → Outcome → State → Prop := va_Qi (fun r (_ : Unit) => r = z.1) (fun _ t => mm_E D cl tys aos G b S0 z.2 t) (mm_A b S0)
abbrev mm_Qv (D : va_G) (cl : List vw_C) (tys : List (ClassId × FieldType)) (aos : List String) (G : Nat → ClassId) (b : Nat) (S0 : mw_M) (z : mm_M) : Array Value → State → Outcome → State → Prop := va_Qv (fun (_ : Unit) => True) (fun _ t => mm_E D cl tys aos G b S0 z t) (mm_A b S0)
theorem mm_begin {D : va_G} {cl : List vw_C} {tys : List (ClassId × FieldType)} {aos : List String} {G : Nat → ClassId} {b : Nat} {S0 : mw_M} {M : mm_M} {s : State} (h : mm_B D cl tys aos G b S0 M s) : mm_W D cl tys aos s G b S0 M s.heap [] := by
  obtain ⟨S, h1, h2, h3⟩ := h
  refine ⟨S, ⟨⟨fun a e he => ⟨(h1.1.1 a e he).1, ?_⟩, h1.1.2⟩, h1.2, va_S.rf, fun q hq => Or.inl (Or.inr (by rw [← h3.2, ← h1.1.2]; exact hq))⟩, h2, h3⟩
  by_cases hq : b ≤ a ∧ a ≤ b + 25
  · exact Or.inr hq
  · exact Or.inl (Or.inl ⟨e, by rw [← h3.1 a (by omega)]; exact he⟩)
theorem mm_blind (D : va_G) (cl : List vw_C) (tys : List (ClassId × FieldType)) (aos : List String) (G : Nat → ClassId) (b : Nat) (S0 : mw_M) (M : mm_M) (av : List Value) : FrameBlind (va_Pc av (mm_B D cl tys aos G b S0 M)) := fun a U g mk q => by
  obtain ⟨q0, S, ⟨q1, q2⟩, q3, q4⟩ := q
  exact ⟨q0, S, ⟨q1, q2.moved (u := U) (U := U.calling g mk a) (Vm.Alike.refl U.vm)⟩, q3, q4⟩
theorem mm_fs_len (b : Nat) (I : Nat → Int32) : (mm_fs b I).length = 39 := rfl
theorem mm_R.ai {G : Nat → ClassId} {b : Nat} {S : mw_M} {M : mm_M} {k : Nat} {i v : Int32} (hR : mm_R G b S M) (hk : k < 25) (h : mm_ai M k i = some v) : mw_ai S (b + 1 + k) (G (mm_ty k)) i = some v := by
  unfold mm_ai at h
  split at h
  · rename_i hc
    cases h
    unfold mw_ai
    rw [hR.2 k hk]
    exact if_pos ⟨rfl, hc⟩
  · cases h
theorem mm_R.si {G : Nat → ClassId} {b : Nat} {S S0 : mw_M} {M M1 : mm_M} {k : Nat} {i x : Int32} (hR : mm_R G b S M) (hs : mm_sm b S0 S) (hk : k < 25) (h : mm_si M k i x = some M1) : ∃ S1, mw_si S (b + 1 + k) (G (mm_ty k)) i x = some S1 ∧ mm_R G b S1 M1 ∧ mm_sm b S0 S1 := by
  unfold mm_si at h
  split at h
  · rename_i hc
    cases h
    refine ⟨mw_up S (b + 1 + k) (.inl (G (mm_ty k), mm_ln k, .inl (upd (M.2 k) i.toNatClampNeg x))), ?_, ⟨?_, fun j hj => ?_⟩, ⟨fun q hq => ?_, hs.2⟩⟩
    · unfold mw_si
      rw [hR.2 k hk]
      exact if_pos ⟨rfl, hc⟩
    · show (if b = b + 1 + k then _ else S.1 b) = _
      rw [if_neg (by omega)]
      exact hR.1
    · show (if b + 1 + j = b + 1 + k then _ else S.1 (b + 1 + j)) = _
      by_cases hjk : j = k
      · subst hjk
        rw [if_pos rfl]
        show _ = some (Sum.inl (G (mm_ty j), mm_ln j, Sum.inl (va_up M.2 j (upd (M.2 j) i.toNatClampNeg x) j)))
        rw [va_up_self]
      · rw [if_neg (by omega), hR.2 j hj]
        show _ = some (Sum.inl (G (mm_ty j), mm_ln j, Sum.inl (va_up M.2 k (upd (M.2 k) i.toNatClampNeg x) j)))
        rw [va_up_ne _ _ hjk]
    · show (if q = b + 1 + k then _ else S.1 q) = _
      rw [if_neg (by omega)]
      exact hs.1 q hq
  · cases h
theorem mm_R.pf {G : Nat → ClassId} {b : Nat} {S S0 : mw_M} {M M1 : mm_M} {j : Nat} {v : Int32} (hR : mm_R G b S M) (hs : mm_sm b S0 S) (hj : j < 39) (hset : ∀ (b : Nat) (I : Nat → Int32), (mm_fs b I).set j (.int v) = mm_fs b (va_up I j v)) (h : mm_pf M j v = some M1) : ∃ S1, mw_pf S b 9 j (.int v) = some S1 ∧ mm_R G b S1 M1 ∧ mm_sm b S0 S1 := by
  cases h
  refine ⟨mw_up S b (.inr (9, (mm_fs b M.1).set j (.int v))), ?_, ⟨?_, fun k hk => ?_⟩, ⟨fun q hq => ?_, hs.2⟩⟩
  · unfold mw_pf
    rw [hR.1]
    exact if_pos ⟨rfl, by rw [mm_fs_len]; exact hj⟩
  · show (if b = b then _ else S.1 b) = _
    rw [if_pos rfl, hset]
  · show (if b + 1 + k = b then _ else S.1 (b + 1 + k)) = _
    rw [if_neg (by omega)]
    exact hR.2 k hk
  · show (if q = b then _ else S.1 q) = _
    rw [if_neg (by omega)]
    exact hs.1 q hq
theorem mm_st0 (v : Int32) : ∀ (b : Nat) (I : Nat → Int32), (mm_fs b I).set 0 (.int v) = mm_fs b (va_up I 0 v) := fun _ _ => rfl
theorem mm_st1 (v : Int32) : ∀ (b : Nat) (I : Nat → Int32), (mm_fs b I).set 1 (.int v) = mm_fs b (va_up I 1 v) := fun _ _ => rfl
theorem mm_st2 (v : Int32) : ∀ (b : Nat) (I : Nat → Int32), (mm_fs b I).set 2 (.int v) = mm_fs b (va_up I 2 v) := fun _ _ => rfl
theorem mm_st3 (v : Int32) : ∀ (b : Nat) (I : Nat → Int32), (mm_fs b I).set 3 (.int v) = mm_fs b (va_up I 3 v) := fun _ _ => rfl
theorem mm_st4 (v : Int32) : ∀ (b : Nat) (I : Nat → Int32), (mm_fs b I).set 4 (.int v) = mm_fs b (va_up I 4 v) := fun _ _ => rfl
theorem mm_st5 (v : Int32) : ∀ (b : Nat) (I : Nat → Int32), (mm_fs b I).set 5 (.int v) = mm_fs b (va_up I 5 v) := fun _ _ => rfl
theorem mm_st7 (v : Int32) : ∀ (b : Nat) (I : Nat → Int32), (mm_fs b I).set 7 (.int v) = mm_fs b (va_up I 7 v) := fun _ _ => rfl
theorem mm_st10 (v : Int32) : ∀ (b : Nat) (I : Nat → Int32), (mm_fs b I).set 10 (.int v) = mm_fs b (va_up I 10 v) := fun _ _ => rfl
theorem mm_st18 (v : Int32) : ∀ (b : Nat) (I : Nat → Int32), (mm_fs b I).set 18 (.int v) = mm_fs b (va_up I 18 v) := fun _ _ => rfl
theorem mm_st19 (v : Int32) : ∀ (b : Nat) (I : Nat → Int32), (mm_fs b I).set 19 (.int v) = mm_fs b (va_up I 19 v) := fun _ _ => rfl
theorem mm_st20 (v : Int32) : ∀ (b : Nat) (I : Nat → Int32), (mm_fs b I).set 20 (.int v) = mm_fs b (va_up I 20 v) := fun _ _ => rfl
theorem mm_st29 (v : Int32) : ∀ (b : Nat) (I : Nat → Int32), (mm_fs b I).set 29 (.int v) = mm_fs b (va_up I 29 v) := fun _ _ => rfl
theorem mm_st36 (v : Int32) : ∀ (b : Nat) (I : Nat → Int32), (mm_fs b I).set 36 (.int v) = mm_fs b (va_up I 36 v) := fun _ _ => rfl
theorem mm_st38 (v : Int32) : ∀ (b : Nat) (I : Nat → Int32), (mm_fs b I).set 38 (.int v) = mm_fs b (va_up I 38 v) := fun _ _ => rfl
section MMR
variable {p : Program} {l : Launch} {e : Env} {R : Room} {s : State} {m : MethodId} {args : Array Value} {below : List Frame} {meth : Method} {c : Code} {H : Heap} {locs : List Loc} {cells slots : Nat} {Q : State → Prop}
variable {cc : ByteArray} {pc : Nat} {ls : Array Slot} {rest st0 : List Value} {D : va_G} {cl : List vw_C} {tys : List (ClassId × FieldType)} {aos : List String} {G : Nat → ClassId} {b : Nat} {S0 : mw_M} {M M1 : mm_M} {mc ms : Nat} {av : Array Value}
theorem mm_geti (hexec : p.tables.exec = Jvm.exec) (hb : c.code = cc) {own ref C : String} {T : u_T} {N index : Nat} {Ts : List Cond} (hts : ∀ w ∈ Ts, w.before args s = true) (hin : ∀ w ∈ u_ws C T N, w ∈ Ts) (hown : s.vm.findClass own = some m.cls) (hw : mm_W D cl tys aos s G b S0 M H locs) (hc : cl[9]? = some (C, T, N)) (k : Nat) (hk : k < N) (hlink : (Cond.fieldLink own index ref (T k).2.1 (T k).2.2.1).before args s = true) (hsame : (T k).1 = ref) (hj : ∀ (b : Nat) (I : Nat → Int32), (mm_fs b I)[k]? = some (.int (I k))) (hdg : decode cc pc = .ok (.getfield index, 3)) (kk : W p l e R s m args below meth c H locs cells slots Q (F0 m (pc + 3) ls (.int (M.1 k) :: rest))) : W p l e R s m args below meth c H locs cells slots Q (F0 m pc ls (.ref b :: rest)) := by
  obtain ⟨S, hw, hR, -⟩ := hw
  refine mw_get hexec hb hts hin hown hw hc k hk hlink hsame ?_ hdg kk
  unfold mw_gv
  rw [hR.1]
  exact (if_pos rfl).trans (hj b M.1)
theorem mm_getr (hexec : p.tables.exec = Jvm.exec) (hb : c.code = cc) {own ref C : String} {T : u_T} {N index : Nat} {Ts : List Cond} (hts : ∀ w ∈ Ts, w.before args s = true) (hin : ∀ w ∈ u_ws C T N, w ∈ Ts) (hown : s.vm.findClass own = some m.cls) (hw : mm_W D cl tys aos s G b S0 M H locs) (hc : cl[9]? = some (C, T, N)) (k : Nat) (hk : k < N) (hlink : (Cond.fieldLink own index ref (T k).2.1 (T k).2.2.1).before args s = true) (hsame : (T k).1 = ref) (r : Nat) (hj : ∀ (b : Nat) (I : Nat → Int32), (mm_fs b I)[k]? = some (.ref (b + 1 + r))) (hdg : decode cc pc = .ok (.getfield index, 3)) (kk : W p l e R s m args below meth c H locs cells slots Q (F0 m (pc + 3) ls (.ref (b + 1 + r) :: rest))) : W p l e R s m args below meth c H locs cells slots Q (F0 m pc ls (.ref b :: rest)) := by
  obtain ⟨S, hw, hR, -⟩ := hw
  refine mw_get hexec hb hts hin hown hw hc k hk hlink hsame ?_ hdg kk
  unfold mw_gv
  rw [hR.1]
  exact (if_pos rfl).trans (hj b M.1)
theorem mm_put (hexec : p.tables.exec = Jvm.exec) (hb : c.code = cc) {own ref C : String} {T : u_T} {N index : Nat} {Ts : List Cond} (hts : ∀ w ∈ Ts, w.before args s = true) (hin : ∀ w ∈ u_ws C T N, w ∈ Ts) (ty0 : Nat → FieldType) (hty : ∀ k, k < N → parseFieldDescriptor (T k).2.2.1 = some (ty0 k)) (hnm : ∀ a, a < N → ∀ b, b < N → a ≠ b → (T a).2.1 ≠ (T b).2.1) (hown : s.vm.findClass own = some m.cls) (hw : mm_W D cl tys aos s G b S0 M H locs) (hc : cl[9]? = some (C, T, N)) (k : Nat) (hk : k < N) (hlink : (Cond.fieldLink own index ref (T k).2.1 (T k).2.2.1).before args s = true) (hsame : (T k).1 = ref) (hfin : (T k).2.2.2 = false) {v : Int32} (hd : parseFieldDescriptor (T k).2.2.1 = some .int) (hkl : k < 39) (hset : ∀ (b : Nat) (I : Nat → Int32), (mm_fs b I).set k (.int v) = mm_fs b (va_up I k v)) (hv : mm_pf M k v = some M1) (hdg : decode cc pc = .ok (.putfield index, 3)) (kk : ∀ (H1 : Heap) (locs1 : List Loc), mm_W D cl tys aos s G b S0 M1 H1 locs1 → W p l e R s m args below meth c H1 locs1 cells slots Q (F0 m (pc + 3) ls rest)) : W p l e R s m args below meth c H locs cells slots Q (F0 m pc ls (.int v :: .ref b :: rest)) := by
  obtain ⟨S, hw, hR, hs⟩ := hw
  obtain ⟨S1, h1, h2, h3⟩ := hR.pf hs hkl hset hv
  exact mw_put hexec hb hts hin ty0 hty hnm hown hw hc k hk hlink hsame hfin hd rfl rfl h1 hdg (fun H1 locs1 hw1 => kk H1 locs1 ⟨S1, hw1, h2, h3⟩)
theorem mm_iald (hexec : p.tables.exec = Jvm.exec) (hb : c.code = cc) (hw : mm_W D cl tys aos s G b S0 M H locs) (k : Nat) (hk : k < 25) (t0 : Nat) (ht : tys[t0]? = some (G (mm_ty k), .int)) {i v : Int32} (hv : mm_ai M k i = some v) (hdg : decode cc pc = .ok (.iaload, 1)) (kk : W p l e R s m args below meth c H locs cells slots Q (F0 m (pc + 1) ls (.int v :: rest))) : W p l e R s m args below meth c H locs cells slots Q (F0 m pc ls (.int i :: .ref (b + 1 + k) :: rest)) := by
  obtain ⟨S, hw, hR, -⟩ := hw
  exact mw_iald hexec hb hw t0 ht (hR.ai hk hv) hdg kk
theorem mm_zald (hexec : p.tables.exec = Jvm.exec) (hb : c.code = cc) (hw : mm_W D cl tys aos s G b S0 M H locs) (k : Nat) (hk : k < 25) (t0 : Nat) (ht : tys[t0]? = some (G (mm_ty k), .boolean)) {i v : Int32} (hv : mm_ai M k i = some v) (hdg : decode cc pc = .ok (.baload, 1)) (kk : W p l e R s m args below meth c H locs cells slots Q (F0 m (pc + 1) ls (.int v :: rest))) : W p l e R s m args below meth c H locs cells slots Q (F0 m pc ls (.int i :: .ref (b + 1 + k) :: rest)) := by
  obtain ⟨S, hw, hR, -⟩ := hw
  exact mw_zald hexec hb hw t0 ht (hR.ai hk hv) hdg kk
theorem mm_cald (hexec : p.tables.exec = Jvm.exec) (hb : c.code = cc) (hw : mm_W D cl tys aos s G b S0 M H locs) (k : Nat) (hk : k < 25) (t0 : Nat) (ht : tys[t0]? = some (G (mm_ty k), .char)) {i v : Int32} (hv : mm_ai M k i = some v) (hdg : decode cc pc = .ok (.caload, 1)) (kk : W p l e R s m args below meth c H locs cells slots Q (F0 m (pc + 1) ls (.int v :: rest))) : W p l e R s m args below meth c H locs cells slots Q (F0 m pc ls (.int i :: .ref (b + 1 + k) :: rest)) := by
  obtain ⟨S, hw, hR, -⟩ := hw
  exact mw_cald hexec hb hw t0 ht (hR.ai hk hv) hdg kk
theorem mm_iast (hexec : p.tables.exec = Jvm.exec) (hb : c.code = cc) (hw : mm_W D cl tys aos s G b S0 M H locs) (k : Nat) (hk : k < 25) (t0 : Nat) (ht : tys[t0]? = some (G (mm_ty k), .int)) {i x : Int32} (hv : mm_si M k i x = some M1) (hdg : decode cc pc = .ok (.iastore, 1)) (kk : ∀ (H1 : Heap) (locs1 : List Loc), mm_W D cl tys aos s G b S0 M1 H1 locs1 → W p l e R s m args below meth c H1 locs1 cells slots Q (F0 m (pc + 1) ls rest)) : W p l e R s m args below meth c H locs cells slots Q (F0 m pc ls (.int x :: .int i :: .ref (b + 1 + k) :: rest)) := by
  obtain ⟨S, hw, hR, hs⟩ := hw
  obtain ⟨S1, h1, h2, h3⟩ := hR.si hs hk hv
  exact mw_iast hexec hb hw t0 ht h1 hdg (fun H1 locs1 hw1 => kk H1 locs1 ⟨S1, hw1, h2, h3⟩)
theorem mm_zast (hexec : p.tables.exec = Jvm.exec) (hb : c.code = cc) (hw : mm_W D cl tys aos s G b S0 M H locs) (k : Nat) (hk : k < 25) (t0 : Nat) (ht : tys[t0]? = some (G (mm_ty k), .boolean)) {i x : Int32} (hv : mm_si M k i (vp_nar .boolean x) = some M1) (hdg : decode cc pc = .ok (.bastore, 1)) (kk : ∀ (H1 : Heap) (locs1 : List Loc), mm_W D cl tys aos s G b S0 M1 H1 locs1 → W p l e R s m args below meth c H1 locs1 cells slots Q (F0 m (pc + 1) ls rest)) : W p l e R s m args below meth c H locs cells slots Q (F0 m pc ls (.int x :: .int i :: .ref (b + 1 + k) :: rest)) := by
  obtain ⟨S, hw, hR, hs⟩ := hw
  obtain ⟨S1, h1, h2, h3⟩ := hR.si hs hk hv
  exact mw_zast hexec hb hw t0 ht h1 hdg (fun H1 locs1 hw1 => kk H1 locs1 ⟨S1, hw1, h2, h3⟩)
theorem mm_cast (hexec : p.tables.exec = Jvm.exec) (hb : c.code = cc) (hw : mm_W D cl tys aos s G b S0 M H locs) (k : Nat) (hk : k < 25) (t0 : Nat) (ht : tys[t0]? = some (G (mm_ty k), .char)) {i x : Int32} (hv : mm_si M k i (vp_nar .char x) = some M1) (hdg : decode cc pc = .ok (.castore, 1)) (kk : ∀ (H1 : Heap) (locs1 : List Loc), mm_W D cl tys aos s G b S0 M1 H1 locs1 → W p l e R s m args below meth c H1 locs1 cells slots Q (F0 m (pc + 1) ls rest)) : W p l e R s m args below meth c H locs cells slots Q (F0 m pc ls (.int x :: .int i :: .ref (b + 1 + k) :: rest)) := by
  obtain ⟨S, hw, hR, hs⟩ := hw
  obtain ⟨S1, h1, h2, h3⟩ := hR.si hs hk hv
  exact mw_cast hexec hb hw t0 ht h1 hdg (fun H1 locs1 hw1 => kk H1 locs1 ⟨S1, hw1, h2, h3⟩)
theorem mm_pre (hw : mm_W D cl tys aos s G b S0 M H locs) (av : List Value) : ∀ U : State, U.heap = H → s.WarmedH U.vm → va_Pc av (mm_B D cl tys aos G b S0 M) av.toArray U := fun U hU hW => by
  obtain ⟨S, hw, hR, hs⟩ := hw
  exact ⟨rfl, S, ⟨by rw [hU]; exact hw.1.wk (fun _ _ => trivial), hw.2.1.moved hW.alike⟩, hR, hs⟩
theorem mm_back {t : State} {H1 : Heap} {locs1 : List Loc} (hw : mm_W D cl tys aos s G b S0 M H locs) (ht : t.heap = H1) (hvm : s.vm.Alike t.vm) (hB : mm_E D cl tys aos G b S0 M1 t) (hS : va_S (mm_A b S0) s.heap H1 locs1) : mm_W D cl tys aos s G b S0 M1 H1 locs1 := by
  obtain ⟨S1, hE, hR, hs⟩ := hB
  obtain ⟨S, hw, -, -⟩ := hw
  exact ⟨S1, ⟨by rw [← ht]; exact hE.1, hE.2.moved hvm.symm, hS, hw.2.2.2⟩, hR, hs⟩
theorem mm_preV {q : vw_C} {As : List Value} (hw : mm_W D cl tys aos s G b S0 M H locs) (hc : cl[9]? = some q) : PreV s H q.1 b (va_Pc (.ref b :: As) (mm_B D cl tys aos G b S0 M)) As := ⟨mm_blind D cl tys aos G b S0 M _, by obtain ⟨S, hw, hR, -⟩ := hw; exact mw_recv hw hc ⟨_, hR.1⟩, mm_pre hw _⟩
theorem mm_preS {As : List Value} (hw : mm_W D cl tys aos s G b S0 M H locs) : PreS s H (va_Pc As (mm_B D cl tys aos G b S0 M)) As := ⟨mm_blind D cl tys aos G b S0 M _, mm_pre hw _⟩
theorem mm_calli {r : Int32} (hr : va_Run p l e R s m args below meth c H locs cells slots mc ms (F0 m pc ls st0) rest ((mm_Qi D cl tys aos G b S0 (r, M1)) av) (mm_A b S0)) (hw : mm_W D cl tys aos s G b S0 M H locs) (kk : ∀ (H1 : Heap) (locs1 : List Loc), mm_W D cl tys aos s G b S0 M1 H1 locs1 → W p l e R s m args below meth c H1 locs1 (cells + mc) (slots + ms) Q (F0 m (pc + 3) ls (.int r :: rest))) : W p l e R s m args below meth c H locs cells slots Q (F0 m pc ls st0) := by
  have hS : va_S (mm_A b S0) s.heap H locs := by obtain ⟨S, hw, -, -⟩ := hw; exact hw.2.2.1
  exact va_calli hr hS (fun q _ h => h) (fun q h => h) (fun r' u t H1 locs1 ht hvm hp hB hz hk hS => by cases hp; exact kk H1 locs1 (mm_back hw ht hvm hB hS))
theorem mm_callv (hr : va_Run p l e R s m args below meth c H locs cells slots mc ms (F0 m pc ls st0) rest ((mm_Qv D cl tys aos G b S0 M1) av) (mm_A b S0)) (hw : mm_W D cl tys aos s G b S0 M H locs) (kk : ∀ (H1 : Heap) (locs1 : List Loc), mm_W D cl tys aos s G b S0 M1 H1 locs1 → W p l e R s m args below meth c H1 locs1 (cells + mc) (slots + ms) Q (F0 m (pc + 3) ls rest)) : W p l e R s m args below meth c H locs cells slots Q (F0 m pc ls st0) := by
  have hS : va_S (mm_A b S0) s.heap H locs := by obtain ⟨S, hw, -, -⟩ := hw; exact hw.2.2.1
  exact va_callv hr hS (fun q _ h => h) (fun q h => h) (fun u t H1 locs1 ht hvm hp hB hz hk hS => kk H1 locs1 (mm_back hw ht hvm hB hS))
variable {z : Int32 × mm_M} {zv : mm_M}
theorem mm_end {t : State} (hw : mm_W D cl tys aos s G b S0 M H locs) (ht : t.heap = H) (hW : s.WarmedH t.vm) : mm_E D cl tys aos G b S0 M t := by
  obtain ⟨S, hw, hR, hs⟩ := hw
  exact ⟨S, mw_end hw ht hW, hR, hs⟩
theorem mm_S (hw : mm_W D cl tys aos s G b S0 M H locs) : va_S (mm_A b S0) s.heap H locs := by
  obtain ⟨S, hw, -, -⟩ := hw
  exact hw.2.2.1
theorem mm_iret {v : Int32} (hexec : p.tables.exec = Jvm.exec) (hb : c.code = cc) (hr : meth.sig.returnType = some .int) (hlocks : meth.locks = false) (hw : mm_W D cl tys aos s G b S0 M H locs) (hz : some (v, M) = some z) (hdg : decode cc pc = .ok (.ireturn, 1)) : W p l e R s m args below meth c H locs cells slots (MQ below (mm_Qi D cl tys aos G b S0 z) args s cells slots (mm_A b S0)) (F0 m pc ls [.int v]) := by
  cases hz
  exact W.iret hexec hb hr (fun t ht hW => ⟨⟨v, (), rfl, rfl, mm_end hw ht hW⟩, (mm_S hw).F ht⟩) (mm_S hw).2.2 hdg hlocks
theorem mm_zret {v : Int32} {ty : FieldType} (hexec : p.tables.exec = Jvm.exec) (hb : c.code = cc) (hr : meth.sig.returnType = some ty) (hlocks : meth.locks = false) (hw : mm_W D cl tys aos s G b S0 M H locs) (hty : narrow ty (.int v) = .int (vp_nar ty v)) (hz : (if vp_nar ty v = v then some (v, M) else none) = some z) (hdg : decode cc pc = .ok (.ireturn, 1)) : W p l e R s m args below meth c H locs cells slots (MQ below (mm_Qi D cl tys aos G b S0 z) args s cells slots (mm_A b S0)) (F0 m pc ls [.int v]) := by
  split at hz
  · rename_i hn
    cases hz
    exact W.zret hexec hb hr (by rw [hty, hn]) (fun t ht hW => ⟨⟨v, (), rfl, rfl, mm_end hw ht hW⟩, (mm_S hw).F ht⟩) (mm_S hw).2.2 hdg hlocks
  · cases hz
theorem mm_vret (hexec : p.tables.exec = Jvm.exec) (hb : c.code = cc) (hr : meth.sig.returnType = none) (hlocks : meth.locks = false) (hw : mm_W D cl tys aos s G b S0 M H locs) (hz : some M = some zv) (hdg : decode cc pc = .ok (.return_, 1)) : W p l e R s m args below meth c H locs cells slots (MQ below (mm_Qv D cl tys aos G b S0 zv) args s cells slots (mm_A b S0)) (F0 m pc ls []) := by
  cases hz
  exact W.vret hexec hb hr (fun t ht hW => ⟨⟨(), rfl, trivial, mm_end hw ht hW⟩, (mm_S hw).F ht⟩) (mm_S hw).2.2 hdg hlocks
end MMR
def mw_tys (G : Nat → ClassId) : List (ClassId × FieldType) := [(G 0, .int), (G 1, .byte), (G 2, .char), (G 3, .boolean), (G 4, .object "EventRecorder$EventThread"), (G 5, .object "EventRecorder$Recording"), (G 6, .object "EventRecorder$ByteRow"), (G 7, .object "EventRecorder$Chunk"), (G 8, .long)]
def mw_aos : List String := ["EventRecorder$EventThread", "EventRecorder$Recording", "EventRecorder$ByteRow", "EventRecorder$Chunk"]
set_option maxRecDepth 100000 in
theorem mw_blX0 : ∀ j, j < 2 → defaultValue (tyX0 j) = vp_V [.null, .int 0] j := fun j hj => by
  rcases (show j = 0 ∨ j = 1 by omega) with rfl | rfl <;> rfl
set_option maxRecDepth 100000 in
theorem mw_blX1 : ∀ j, j < 5 → defaultValue (tyX1 j) = vp_V [.null, .null, .int 0, .int 0, .int 0] j := fun j hj => by
  rcases (show j = 0 ∨ j = 1 ∨ j = 2 ∨ j = 3 ∨ j = 4 by omega) with rfl | rfl | rfl | rfl | rfl <;> rfl
set_option maxRecDepth 100000 in
theorem mw_blX2 : ∀ j, j < 3 → defaultValue (tyX2 j) = vp_V [.null, .int 0, .int 0] j := fun j hj => by
  rcases (show j = 0 ∨ j = 1 ∨ j = 2 by omega) with rfl | rfl | rfl <;> rfl
set_option maxRecDepth 100000 in
theorem mw_blX3 : ∀ j, j < 5 → defaultValue (tyX3 j) = vp_V [.null, .null, .int 0, .int 0, .int 0] j := fun j hj => by
  rcases (show j = 0 ∨ j = 1 ∨ j = 2 ∨ j = 3 ∨ j = 4 by omega) with rfl | rfl | rfl | rfl | rfl <;> rfl
set_option maxRecDepth 100000 in
theorem mw_blX4 : ∀ j, j < 3 → defaultValue (tyX4 j) = vp_V [.null, .int 0, .int 0] j := fun j hj => by
  rcases (show j = 0 ∨ j = 1 ∨ j = 2 by omega) with rfl | rfl | rfl <;> rfl
set_option maxRecDepth 100000 in
theorem mw_blX5 : ∀ j, j < 5 → defaultValue (tyX5 j) = vp_V [.null, .null, .int 0, .int 0, .int 0] j := fun j hj => by
  rcases (show j = 0 ∨ j = 1 ∨ j = 2 ∨ j = 3 ∨ j = 4 by omega) with rfl | rfl | rfl | rfl | rfl <;> rfl
set_option maxRecDepth 100000 in
theorem mw_blX6 : ∀ j, j < 3 → defaultValue (tyX6 j) = vp_V [.null, .null, .int 0] j := fun j hj => by
  rcases (show j = 0 ∨ j = 1 ∨ j = 2 by omega) with rfl | rfl | rfl <;> rfl
set_option maxRecDepth 100000 in
theorem mw_blX7 : ∀ j, j < 2 → defaultValue (tyX7 j) = vp_V [.null, .int 0] j := fun j hj => by
  rcases (show j = 0 ∨ j = 1 by omega) with rfl | rfl <;> rfl
set_option maxRecDepth 100000 in
theorem mw_blX8 : ∀ j, j < 14 → defaultValue (tyX8 j) = vp_V [.int 0, .null, .null, .null, .null, .null, .int 0, .null, .int 0, .null, .null, .null, .null, .int 0] j := fun j hj => by
  rcases (show j = 0 ∨ j = 1 ∨ j = 2 ∨ j = 3 ∨ j = 4 ∨ j = 5 ∨ j = 6 ∨ j = 7 ∨ j = 8 ∨ j = 9 ∨ j = 10 ∨ j = 11 ∨ j = 12 ∨ j = 13 by omega) with rfl | rfl | rfl | rfl | rfl | rfl | rfl | rfl | rfl | rfl | rfl | rfl | rfl | rfl <;> rfl
set_option maxRecDepth 100000 in
theorem mw_blX9 : ∀ j, j < 39 → defaultValue (tyX9 j) = vp_V [.int 0, .int 0, .int 0, .int 0, .int 0, .int 0, .null, .int 0, .null, .null, .int 0, .null, .null, .null, .null, .null, .null, .null, .int 0, .int 0, .int 0, .null, .null, .null, .null, .null, .null, .null, .null, .int 0, .null, .null, .null, .null, .null, .null, .int 0, .null, .int 0] j := fun j hj => by
  rcases (show j = 0 ∨ j = 1 ∨ j = 2 ∨ j = 3 ∨ j = 4 ∨ j = 5 ∨ j = 6 ∨ j = 7 ∨ j = 8 ∨ j = 9 ∨ j = 10 ∨ j = 11 ∨ j = 12 ∨ j = 13 ∨ j = 14 ∨ j = 15 ∨ j = 16 ∨ j = 17 ∨ j = 18 ∨ j = 19 ∨ j = 20 ∨ j = 21 ∨ j = 22 ∨ j = 23 ∨ j = 24 ∨ j = 25 ∨ j = 26 ∨ j = 27 ∨ j = 28 ∨ j = 29 ∨ j = 30 ∨ j = 31 ∨ j = 32 ∨ j = 33 ∨ j = 34 ∨ j = 35 ∨ j = 36 ∨ j = 37 ∨ j = 38 by omega) with rfl | rfl | rfl | rfl | rfl | rfl | rfl | rfl | rfl | rfl | rfl | rfl | rfl | rfl | rfl | rfl | rfl | rfl | rfl | rfl | rfl | rfl | rfl | rfl | rfl | rfl | rfl | rfl | rfl | rfl | rfl | rfl | rfl | rfl | rfl | rfl | rfl | rfl | rfl <;> rfl
theorem mw_tout5 {x : Int32} (h0 : ¬ x = 0) (h1 : ¬ x = 1) (h2 : ¬ x = 2) (h3 : ¬ x = 3) (h4 : ¬ x = 4) (h5 : ¬ x = 5) : x.toInt < 0 ∨ (5 : Int) < x.toInt := by
  have k : ∀ y : Int32, ¬ x = y → x.toInt ≠ y.toInt := fun y h q => h (Int32.toInt_inj.mp q)
  have k0 : x.toInt ≠ 0 := k 0 h0
  have k1 : x.toInt ≠ 1 := k 1 h1
  have k2 : x.toInt ≠ 2 := k 2 h2
  have k3 : x.toInt ≠ 3 := k 3 h3
  have k4 : x.toInt ≠ 4 := k 4 h4
  have k5 : x.toInt ≠ 5 := k 5 h5
  omega
theorem mw_tout18 {x : Int32} (h0 : ¬ x = 0) (h1 : ¬ x = 1) (h2 : ¬ x = 2) (h3 : ¬ x = 3) (h4 : ¬ x = 4) (h5 : ¬ x = 5) (h6 : ¬ x = 6) (h7 : ¬ x = 7) (h8 : ¬ x = 8) (h9 : ¬ x = 9) (h10 : ¬ x = 10) (h11 : ¬ x = 11) (h12 : ¬ x = 12) (h13 : ¬ x = 13) (h14 : ¬ x = 14) (h15 : ¬ x = 15) (h16 : ¬ x = 16) (h17 : ¬ x = 17) (h18 : ¬ x = 18) : x.toInt < 0 ∨ (18 : Int) < x.toInt := by
  have k : ∀ y : Int32, ¬ x = y → x.toInt ≠ y.toInt := fun y h q => h (Int32.toInt_inj.mp q)
  have k0 : x.toInt ≠ 0 := k 0 h0
  have k1 : x.toInt ≠ 1 := k 1 h1
  have k2 : x.toInt ≠ 2 := k 2 h2
  have k3 : x.toInt ≠ 3 := k 3 h3
  have k4 : x.toInt ≠ 4 := k 4 h4
  have k5 : x.toInt ≠ 5 := k 5 h5
  have k6 : x.toInt ≠ 6 := k 6 h6
  have k7 : x.toInt ≠ 7 := k 7 h7
  have k8 : x.toInt ≠ 8 := k 8 h8
  have k9 : x.toInt ≠ 9 := k 9 h9
  have k10 : x.toInt ≠ 10 := k 10 h10
  have k11 : x.toInt ≠ 11 := k 11 h11
  have k12 : x.toInt ≠ 12 := k 12 h12
  have k13 : x.toInt ≠ 13 := k 13 h13
  have k14 : x.toInt ≠ 14 := k 14 h14
  have k15 : x.toInt ≠ 15 := k 15 h15
  have k16 : x.toInt ≠ 16 := k 16 h16
  have k17 : x.toInt ≠ 17 := k 17 h17
  have k18 : x.toInt ≠ 18 := k 18 h18
  omega
