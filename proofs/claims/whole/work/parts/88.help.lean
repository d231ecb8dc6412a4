/-! the law's helpers: a call that may throw, caught by name -/
def mw_X (U : State) : Prop := ∃ c1 c2, U.vm.findClass xS = some c1 ∧ U.vm.findClass xA = some c2 ∧ U.vm.assignable c1 c2 = false
theorem mw_X.moved {s U : State} (hvm : s.vm.Alike U.vm) (h : mw_X s) : mw_X U := by
  obtain ⟨c1, c2, h1, h2, h3⟩ := h
  exact ⟨c1, c2, by rw [hvm.findClass]; exact h1, by rw [hvm.findClass]; exact h2, by rw [hvm.assignable]; exact h3⟩
theorem as_rf (vm : Vm) (c : ClassId) : vm.assignable c c = true := by
  show vm.assignableAux (255 + 1) c c = true
  rw [Vm.assignableAux]
  simp
abbrev mw_BT (D : va_G) (cl : List vw_C) (tys : List (ClassId × FieldType)) (aos : List String) (S : mw_M) : State → Prop := fun U => mw_B D cl tys aos S U ∧ mw_T U
abbrev hl_B (D : va_G) (cl : List vw_C) (tys : List (ClassId × FieldType)) (aos : List String) (S : mw_M) : State → Prop := fun U => mw_B D cl tys aos S U ∧ mw_T U ∧ mw_X U
theorem mw_T.call {U : State} (g : JFrame) (mk : MethodId) (a : Array Value) (h : mw_T U) : mw_T (U.calling g mk a) := mw_T.ride (s := U) (U := U.calling g mk a) (State.WarmedH.refl U) (fun _ _ hy _ => hy) h
theorem mw_BT_blind (D : va_G) (cl : List vw_C) (tys : List (ClassId × FieldType)) (aos : List String) (S : mw_M) (av : List Value) : FrameBlind (va_Pc av (mw_BT D cl tys aos S)) := fun a U g mk q => ⟨q.1, ⟨q.2.1.1, q.2.1.2.moved (u := U) (U := U.calling g mk a) (Vm.Alike.refl U.vm)⟩, mw_T.call g mk a q.2.2⟩
theorem hl_blind (D : va_G) (cl : List vw_C) (tys : List (ClassId × FieldType)) (aos : List String) (S : mw_M) (av : List Value) : FrameBlind (va_Pc av (hl_B D cl tys aos S)) := fun a U g mk q => ⟨q.1, ⟨q.2.1.1, q.2.1.2.moved (u := U) (U := U.calling g mk a) (Vm.Alike.refl U.vm)⟩, mw_T.call g mk a q.2.2.1, mw_X.moved (s := U) (U := U.calling g mk a) (Vm.Alike.refl U.vm) q.2.2.2⟩
section HLP
variable {p : Program} {l : Launch} {e : Env} {R : Room} {s : State} {m : MethodId} {args : Array Value} {below : List Frame} {meth : Method} {c : Code} {H : Heap} {locs : List Loc} {cells slots : Nat} {Q : State → Prop}
variable {cc : ByteArray} {pc nL : Nat} {ls : Array Slot} {rest : List Value} {D : va_G} {cl : List vw_C} {A : Nat → Prop} {tys : List (ClassId × FieldType)} {aos : List String} {S : mw_M}
theorem mw_Tat (hw : mw_W D cl tys aos A s S H locs) (hT : mw_T s) (hn : ∀ (y : Addr) (cy : Cell), s.heap[y]? = some cy → cy.vm.isStatics = true → ¬ A y) : ∀ U : State, U.heap = H → s.WarmedH U.vm → mw_T U := fun U hU hW => mw_T.ride hW (fun y cy hy hcy => by
  rw [hU, hw.2.2.1.2.1 y (Array.getElem?_eq_some_iff.mp hy).1 (hn y cy hy hcy)]; exact hy) hT
abbrev hl_C (e : Env) (s : State) (m : MethodId) (c : Code) (pc : Nat) (cls : ClassId) (h : Nat) : Prop := ct_T e.platform s m.cls cls pc c.exceptionTable.toList h
abbrev tbf (h : ExceptionTableEntry) : Nat × Nat × Nat × Nat := (h.startPc, h.endPc, h.handlerPc, h.catchType)
theorem hl_own (hpl : e.platform.magicAccessors = ({} : Platform).magicAccessors) {own x : String} {i : Nat} {cls : ClassId} (hown : s.vm.findClass own = some m.cls) (hlink : (Cond.classLink own i x).before args s = true) (hcls : s.vm.findClass x = some cls) {xe : ExceptionTableEntry} (hcov : covers xe pc = true) (hi : xe.catchType = i) (h0 : ¬ i = 0) : ct_is true e.platform s m.cls cls pc xe := by
  obtain ⟨c', hc', hcl⟩ := Cond.classLink_spec hown hlink e.platform hpl
  cases hcls.symm.trans hc'
  exact ⟨hcov, by rw [hi]; exact h0, cls, by rw [hi]; exact hcl, as_rf s.vm cls⟩
theorem hl_c1 (hpl : e.platform.magicAccessors = ({} : Platform).magicAccessors) {own x : String} {i en h1 : Nat} {tl : List (Nat × Nat × Nat × Nat)} {cls : ClassId} (htab : c.exceptionTable.toList.map tbf = (0, en, h1, i) :: tl) (hpc : pc < en) (hown : s.vm.findClass own = some m.cls) (hlink : (Cond.classLink own i x).before args s = true) (hcls : s.vm.findClass x = some cls) (h0 : ¬ i = 0) : hl_C e s m c pc cls h1 := by
  cases hL : c.exceptionTable.toList with
  | nil => rw [hL] at htab; cases htab
  | cons e1 t1 =>
    rw [hL, List.map_cons] at htab
    obtain ⟨q, -⟩ := List.cons.inj htab
    obtain ⟨q1, q2, q3, q4⟩ : e1.startPc = 0 ∧ e1.endPc = en ∧ e1.handlerPc = h1 ∧ e1.catchType = i := by
      simp only [tbf, Prod.mk.injEq] at q
      exact q
    exact Or.inl ⟨e1, t1, hL, hl_own hpl hown hlink hcls (by simp [covers, q1, q2, hpc]) q4 h0, q3⟩
theorem hl_c2 (hpl : e.platform.magicAccessors = ({} : Platform).magicAccessors) {own : String} {i i2 en h1 h2 : Nat} {tl : List (Nat × Nat × Nat × Nat)} {cls : ClassId} (htab : c.exceptionTable.toList.map tbf = (0, en, h1, i) :: (0, en, h2, i2) :: tl) (hpc : pc < en) (hown : s.vm.findClass own = some m.cls) (hlink1 : (Cond.classLink own i xA).before args s = true) (hlink : (Cond.classLink own i2 xS).before args s = true) (hX : mw_X s) (hcls : s.vm.findClass xS = some cls) (h0 : ¬ i = 0) (h02 : ¬ i2 = 0) : hl_C e s m c pc cls h2 := by
  cases hL : c.exceptionTable.toList with
  | nil => rw [hL] at htab; cases htab
  | cons e1 t1 =>
    rw [hL, List.map_cons] at htab
    obtain ⟨q, r⟩ := List.cons.inj htab
    cases t1 with
    | nil => cases r
    | cons e2 t2 =>
      rw [List.map_cons] at r
      obtain ⟨r, -⟩ := List.cons.inj r
      obtain ⟨q1, q2, q3, q4⟩ : e1.startPc = 0 ∧ e1.endPc = en ∧ e1.handlerPc = h1 ∧ e1.catchType = i := by
        simp only [tbf, Prod.mk.injEq] at q
        exact q
      obtain ⟨r1, r2, r3, r4⟩ : e2.startPc = 0 ∧ e2.endPc = en ∧ e2.handlerPc = h2 ∧ e2.catchType = i2 := by
        simp only [tbf, Prod.mk.injEq] at r
        exact r
      obtain ⟨c1, c2, w1, w2, w3⟩ := hX
      obtain ⟨c', hc', hcl⟩ := Cond.classLink_spec hown hlink1 e.platform hpl
      cases w2.symm.trans hc'
      cases hcls.symm.trans w1
      exact Or.inr ⟨e1, e2, t2, hL, ⟨by simp [covers, q1, q2, hpc], by rw [q4]; exact h0, c2, by rw [q4]; exact hcl, w3⟩, hl_own hpl hown hlink hcls (by simp [covers, r1, r2, hpc]) r4 h02, r3⟩
/-- the call itself -/
theorem hl_call {own : String} {y : MethodName} {bytes : ByteArray} {maxL n index mc ms ci : Nat} {ret : Option FieldType} {ws : List Cond} {rm : Room} {Ts : List Cond} {b : Nat} {As : List Value} {z : Nat × Int32 × mw_M} {q0 : vw_C} (S5 : CallFix p m c cc nL s args Ts own) (hZ : MetZ l y ws rm (va_Pc (.ref b :: As) (mw_BT D cl tys aos S)) D cl tys aos (mw_A S) z mc ms) (cw : CallW R s args own q0.1 index y bytes maxL ret ws rm mc ms n) (hc : cl[ci]? = some q0) (ho : ∃ fs, S.1 b = some (.inr (ci, fs))) (hw : mw_W D cl tys aos A s S H locs) (hT : mw_T s) (hn : ∀ (y : Addr) (cy : Cell), s.heap[y]? = some cy → cy.vm.isStatics = true → ¬ A y) (hlen : As.length = n) (hsize : ls.size = nL) (hW : 2 * (F0 m pc ls rest).monitorRoom + (rest.map fun v => v.category).sum ≤ 8) (hdg : decode cc pc = .ok (.invokevirtual index, 3)) (hf : cells + mc ≤ R.cells ∧ slots + ms ≤ R.slots)
    (k0 : z.1 = 0 → ∀ (H1 : Heap) (locs1 : List Loc), mw_W D cl tys aos A s z.2.2 H1 locs1 → W p l e R s m args below meth c H1 locs1 (cells + mc) (slots + ms) Q (F0 m (pc + 3) ls (.int z.2.1 :: rest)))
    (kT : ∀ (exc : String) (x : Addr) (cls : ClassId) (H1 : Heap) (locs1 : List Loc) (nn : Nat), (z.1 = 1 ∧ exc = xA ∨ z.1 = 2 ∧ exc = xS) → e.platform.magicAccessors = ({} : Platform).magicAccessors → s.vm.findClass exc = some cls → z.2.2.2 ≤ nn → mw_W D cl tys aos A s (z.2.2.1, nn) H1 locs1 → ∃ h, hl_C e s m c pc cls h ∧ W p l e R s m args below meth c H1 locs1 (cells + mc) (slots + ms) Q (F0 m h ls [.ref x])) :
    W p l e R s m args below meth c H locs cells slots Q (F0 m pc ls (As.reverse ++ .ref b :: rest)) := by
  have hpre : ∀ U : State, U.heap = H → s.WarmedH U.vm → va_Pc (.ref b :: As) (mw_BT D cl tys aos S) (Value.ref b :: As).toArray U := fun U hU hW => ⟨rfl, (mw_pre hw [] U hU hW).2, mw_Tat hw hT hn U hU hW⟩
  rcases hZ with ⟨h0, hM⟩ | ⟨exc, hexc, hM⟩
  · exact mw_calli (r := z.2.1) (S1 := z.2.2) (va_runV S5 hM cw ⟨mw_BT_blind D cl tys aos S _, mw_recv hw hc ho, hpre⟩ rfl hlen hsize rfl hW hdg hf) hw (fun H1 locs1 hw1 => k0 h0 H1 locs1 hw1)
  · obtain ⟨⟨hrc, hrs, hfr, hlo, hws, hcw, hcode, hini, hy, hlenq, hl⟩, hin, hse⟩ := cw
    obtain ⟨hx, hb, hml, hown, -⟩ := S5
    obtain ⟨cellB, hcB, hoB, hclB⟩ := mw_recv hw hc ho
    refine W.callT hx hb hM (mw_BT_blind D cl tys aos S _) hrc hrs (Wn := 8) hfr hlo hf.1 hf.2 hws hcw (fun a' U hW => word_at hW (Or.inl (by first | rfl | simp [Cond.onTables, Cond.keeps, Cond.steady])) hini) hown hl hin hse hcode hy hcB hoB hclB (hsize.trans hml.symm) (fun sig h => hlen.trans (hlenq sig h)) hW hdg hpre ?_
    intro x t st0 L hpl hq hF hst hal hWt hL
    obtain ⟨x', cell, ho', hge, hcell, hvm, hfc, nn, hnn, hE⟩ := hq
    cases ho'
    have hcls : s.vm.findClass exc = some cell.cls := by rw [hal.findClass] at hfc; exact hfc
    obtain ⟨-, -, -, f2, -, -, -, f6⟩ := hF
    have f2' : H.size ≤ t.heap.size := by rw [← hst]; exact f2
    have hk : ∀ q, q < H.size → ¬ mw_A S q → t.heap[q]? = H[q]? := fun q hq hA => by
      obtain ⟨c1, hc1⟩ : ∃ c1, H[q]? = some c1 := ⟨_, Array.getElem?_eq_getElem hq⟩
      obtain ⟨c2, w1, w2, w3, w4⟩ := f6 q c1 (by rw [hst]; exact hc1)
      have w1' : t.heap[q]? = some c2 := w1
      have hsl : c2.slots = c1.slots := Array.ext_getElem? (fun i => w4 i (fun hm => hA (hL _ hm)))
      rw [w1', hc1, w2, hsl]
    have hS1 : va_S A s.heap t.heap (locs ++ L) := ⟨Nat.le_trans hw.2.2.1.1 f2', fun q h1 h2 => (hk q (Nat.lt_of_lt_of_le h1 hw.2.2.1.1) (fun z => h2 (mw_in hw q z))).trans (hw.2.2.1.2.1 q h1 h2), fun q hq => (List.mem_append.mp hq).elim (hw.2.2.1.2.2 q) (fun h => mw_in hw _ (hL q h))⟩
    have hw1 := mw_back hw rfl hWt.alike hE hS1
    obtain ⟨h, hTC, hkW⟩ := kT exc x cell.cls t.heap (locs ++ L) nn hexc hpl hcls hnn hw1
    exact ⟨cell, h, hcell, by rw [hvm]; rfl, Vm.classAt_of_findClass hcls, hTC, hkW⟩
/-- a static method that has an exception table -/
theorem hl_runS {own : String} {y : MethodName} {bytes : ByteArray} {maxL index mc ms : Nat} {ret : Option FieldType} {hh : List (Nat × Nat × Nat × Nat)} {ws : List Cond} {rm : Room} {Pc : Array Value → State → Prop} {Qc : Array Value → State → Outcome → State → Prop} {free : Addr → Prop} {As : List Value} (hx : p.tables.exec = Jvm.exec) (hb : c.code = cc) (hml : c.maxLocals = nL) (hown : s.vm.findClass own = some m.cls) (hM : Met l y ws rm Pc Qc mc ms free) (hblind : FrameBlind Pc) (hws : ∀ w ∈ ws, ∀ (a' : Array Value) (U : State), s.WarmedH U.vm → w.before a' U = true) (hcw : Cond.codeWith y bytes maxL ret hh ∈ ws) (hcode : (Cond.codeWith y bytes maxL ret hh).before args s = true) (hlink : (Cond.methodLink own index y).before args s = true) (hstat : (Cond.static y).before args s = true) (hini : (Cond.initialized y.cls).before args s = true) (hy : y.cls ≠ "java/lang/invoke/MethodHandle" ∧ y.cls ≠ "java/lang/invoke/VarHandle") (hlen : (parseMethodDescriptor y.desc).map (fun d => d.parameters.length) = some As.length) (hrc : rm.cells = mc) (hrs : rm.slots = ms) (hR : rm.frames + 1 ≤ R.frames ∧ 8 + (maxL + 11) + rm.locals ≤ R.locals) (hPc : ∀ U : State, U.heap = H → s.WarmedH U.vm → Pc As.toArray U) (hsize : ls.size = nL) (hW : 2 * (F0 m pc ls rest).monitorRoom + (rest.map fun v => v.category).sum ≤ 8) (hdg : decode cc pc = .ok (.invokestatic index, 3)) (hf : cells + mc ≤ R.cells ∧ slots + ms ≤ R.slots) :
    va_Run p l e R s m args below meth c H locs cells slots mc ms (F0 m pc ls (As.reverse ++ rest)) rest (Qc As.toArray) free := by
  have hK : Back l R p e below s args y 3 8 (PreOf R mc ms Pc) (PostOf Qc mc ms free) := va_backW (hh := hh) (bytes := bytes) (maxL := maxL) (ret := ret) hM hblind hrc hrs hR.1 hR.2 hws hcw (fun a' U hW => word_at hW (Or.inl (by first | rfl | simp [Cond.onTables, Cond.keeps, Cond.steady])) hini)
  intro T hT X
  obtain ⟨mk, methM, cM, hnamed, hmethM, -, -, -, -, -, -, hsigM⟩ := Cond.codeWith_spec hcode
  have hstatic : methM.isStatic = true := Cond.static_spec hnamed hmethM hstat
  obtain ⟨kP, hkP, -⟩ := className_of_methodNamed hnamed
  have hinitP : kP.init = .initialized := Cond.initialized_spec (findClass_of_methodNamed hnamed) hkP hini
  have hlenA : As.length = methM.sig.parameters.length := by
    rw [hsigM] at hlen
    exact (Option.some.inj hlen).symm
  obtain ⟨vm₁, X₁, hstep₁⟩ := X.invokestatic hx hown hlink hnamed hmethM hstatic hkP hinitP hy (g := F0 m pc ls (As.reverse ++ rest)) rfl (argsL := As) (rest := rest) hlenA rfl (by rw [hb]; exact hdg)
  obtain ⟨v, ⟨U', l2, c2, s2⟩, X', ⟨g', mk', t, L, e1, e2, hq, h1, hL, h2, h3⟩, hsteps⟩ := hK m meth c ⟨T.setVm vm₁, locs, cells, slots⟩ (F0 m pc ls rest) (.invokestatic index) mk As.toArray X₁ rfl (hsize.trans hml.symm) (by rw [hb]; exact hdg) hW (X₁.named hnamed) ⟨hf.1, hf.2, hPc _ hT X₁.warmed⟩
  dsimp only [Pt.U, Pt.locs, Pt.cells, Pt.slots] at X' e1 e2 h1 h2 h3 hsteps
  subst h1; subst h2; subst h3
  exact ⟨v, (T.setVm vm₁).calling g' mk' As.toArray, t, U', L, hT, X', hL, e1, e2, hq, fun target h => hstep₁ _ fun acts => by rw [doInvoke_state]; exact hsteps.trans h⟩
theorem lv_lcmpE (hexec : p.tables.exec = Jvm.exec) (hb : c.code = cc) {x : Int64} (hdg : decode cc pc = .ok (.lcmp, 1)) (k : W p l e R s m args below meth c H locs cells slots Q (F0 m (pc + 1) ls (.int 0 :: rest))) : W p l e R s m args below meth c H locs cells slots Q (F0 m pc ls (.long x :: .long x :: rest)) := by
  intro T hT X
  obtain ⟨t, a, b⟩ := k T hT X
  refine ⟨t, ?_, b⟩
  jvm_step X.here [X.here.top, hexec, hb, hdg]
  exact a
/-- what a helper answers: its number, and the value in the row of one long, if nothing was thrown -/
def hl_P (G : Nat → ClassId) (o : Nat) (k : Nat → Int32) (w : Int64) (z : Nat × Int32 × mw_M) (r : Int32) (u : mw_M) : Prop := r = k z.1 ∧ (z.1 = 0 → mw_sj z.2.2 o (G 8) 0 w = some u) ∧ (¬ z.1 = 0 → u.1 = z.2.2.1 ∧ z.2.2.2 ≤ u.2)
abbrev hl_Q (D : va_G) (G : Nat → ClassId) (S : mw_M) (o : Nat) (k : Nat → Int32) (w : Int64) (z : Nat × Int32 × mw_M) : Array Value → State → Outcome → State → Prop := va_Qi (fun r (u : mw_M) => hl_P G o k w z r u) (fun u t => mw_E D vwCl (mw_tys G) mw_aos (mw_A S) u t) (mw_A S)
end HLP
