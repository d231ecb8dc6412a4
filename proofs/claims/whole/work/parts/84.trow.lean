/-! methods that throw: their contracts -/
def xn : List String := ["java/lang/RuntimeException", "java/lang/Exception"]
def xA : String := "java/lang/IllegalArgumentException"
def xS : String := "java/lang/IllegalStateException"
def xTx : List (Nat × String) := [(95, "an event has 0 to 3 ints"), (105, "all types are declared"), (149, "all recordings are made"), (165, "no such recording, or the text is not settings"), (167, "the recording is closed"), (177, "no such recording"), (179, "the recording is not new"), (187, "the recording does not run"), (193, "the recording is closed already"), (198, "the recording is new or closed")]
/-- what the tables and the statics say of the exceptions -/
def mw_T (U : State) : Prop := (∀ w ∈ Jvm.Bundle.ownAtoms "EventRecorder" 97 xA xn, w.before #[] U = true) ∧ (∀ w ∈ Jvm.Bundle.ownAtoms "EventRecorder" 107 xS xn, w.before #[] U = true) ∧ ∀ q ∈ xTx, (Cond.stringRef "EventRecorder" q.1 q.2).before #[] U = true
theorem xr1 : (Jvm.Bundle.ownAtoms "EventRecorder" 97 xA xn).all kp_w = true := by decide +kernel
theorem xr2 : (Jvm.Bundle.ownAtoms "EventRecorder" 107 xS xn).all kp_w = true := by decide +kernel
theorem sr_ride {own tx : String} {k : Nat} {s U : State} (hW : s.WarmedH U.vm) (h : (Cond.stringRef own k tx).before #[] s = true) : (Cond.stringRef own k tx).before #[] U = true := by
  have hc : ∃ cur, s.vm.findClass own = some cur := by
    have h1 := h
    simp only [Cond.before, Cond.holds, Cond.value] at h1
    cases hc : s.vm.findClass own with
    | none => simp [hc] at h1
    | some cur => exact ⟨cur, rfl⟩
  obtain ⟨cur, hc⟩ := hc
  obtain ⟨-, -, -, aS, -, -, -, -, -, hev⟩ := Cond.stringRef_spec (args := #[]) hc h
  exact (vk_R.warm hW (vk_R.of h hev)).1
theorem mw_T.ride {s U : State} (hW : s.WarmedH U.vm) (hk : kp_S s U) (h : mw_T s) : mw_T U := ⟨kp_all hW hk xr1 h.1, kp_all hW hk xr2 h.2.1, fun q hq => sr_ride hW (h.2.2 q hq)⟩
section TRW
variable {p : Program} {l : Launch} {e : Env} {R : Room} {s : State} {m : MethodId} {args : Array Value} {below : List Frame} {meth : Method} {c : Code} {H : Heap} {locs : List Loc} {cells slots : Nat} {Q Q' : State → Prop}
variable {D : va_G} {cl : List vw_C} {A : Nat → Prop} {tys : List (ClassId × FieldType)} {aos : List String} {S : mw_M} {cc : ByteArray} {pc : Nat} {ls : Array Slot} {z : Nat × Int32 × mw_M}
theorem mw_T.at (h : mw_T s) (args : Array Value) : (∀ w ∈ Jvm.Bundle.ownAtoms "EventRecorder" 97 xA xn, w.before args s = true) ∧ (∀ w ∈ Jvm.Bundle.ownAtoms "EventRecorder" 107 xS xn, w.before args s = true) ∧ ∀ q ∈ xTx, (Cond.stringRef "EventRecorder" q.1 q.2).before args s = true := ⟨kp_all (State.WarmedH.refl s) (fun _ _ h _ => h) xr1 h.1, kp_all (State.WarmedH.refl s) (fun _ _ h _ => h) xr2 h.2.1, fun q hq => h.2.2 q hq⟩
theorem mw_nst (hB : mw_B D cl tys aos S s) : ∀ (y : Addr) (cy : Cell), s.heap[y]? = some cy → cy.vm.isStatics = true → ¬ mw_A S y := by
  intro y cy hy hcy hA
  have hw := mw_begin hB
  rcases hA with ⟨e, he⟩ | hA
  · obtain ⟨h1, -⟩ := hw.1.1 y e he
    cases e with
    | inl a =>
      have h2 : s.heap[y]? = some (vp_cell a.1 a.2) := h1
      rw [hy] at h2
      have h3 : (vp_cell a.1 a.2).vm.isStatics = false := by
        obtain ⟨cA, n, f⟩ := a
        rcases f with f | f | f | f | f <;> rfl
      rw [Option.some.inj h2, h3] at hcy
      cases hcy
    | inr o =>
      obtain ⟨r, hr, -⟩ := h1
      obtain ⟨cell, k1, k2, -⟩ := mw_recv hw hr ⟨o.2, he⟩
      rw [hy] at k1
      rw [Option.some.inj k1, k2] at hcy
      cases hcy
  · have := (Array.getElem?_eq_some_iff.mp hy).1
    have h2 := hB.1.2
    omega
theorem W.mono (h : ∀ t, Q t → Q' t) {g : JFrame} (k : W p l e R s m args below meth c H locs cells slots Q g) : W p l e R s m args below meth c H locs cells slots Q' g := fun T hT X => by
  obtain ⟨t, a, b⟩ := k T hT X
  exact ⟨t, a, h t b⟩
def MZ (below : List Frame) (D : va_G) (cl : List vw_C) (tys : List (ClassId × FieldType)) (aos : List String) (A : Nat → Prop) (z : Nat × Int32 × mw_M) (args : Array Value) (s : State) (mc ms : Nat) : State → Prop := fun t => (z.1 = 0 ∧ MQ below (mw_Qi D cl tys aos A z.2) args s mc ms A t) ∨ (z.1 = 1 ∧ MQT below (mw_Qt D cl tys aos A xA z.2.2) args s mc ms A t) ∨ (z.1 = 2 ∧ MQT below (mw_Qt D cl tys aos A xS z.2.2) args s mc ms A t)
theorem mw_irett {v : Int32} (hexec : p.tables.exec = Jvm.exec) (hb : c.code = cc) (hr : meth.sig.returnType = some .int) (hlocks : meth.locks = false) (hw : mw_W D cl tys aos A s S H locs) (hz : some (0, v, S) = some z) (hdg : decode cc pc = .ok (.ireturn, 1)) : W p l e R s m args below meth c H locs cells slots (MZ below D cl tys aos A z args s cells slots) (F0 m pc ls [.int v]) := by
  cases hz
  exact W.mono (fun t h => Or.inl ⟨rfl, h⟩) (mw_iret hexec hb hr hlocks hw rfl hdg)
theorem mw_zrett {v : Int32} {ty : FieldType} (hexec : p.tables.exec = Jvm.exec) (hb : c.code = cc) (hr : meth.sig.returnType = some ty) (hlocks : meth.locks = false) (hw : mw_W D cl tys aos A s S H locs) (hty : narrow ty (.int v) = .int (vp_nar ty v)) (hz : (if vp_nar ty v = v then some (0, v, S) else none) = some z) (hdg : decode cc pc = .ok (.ireturn, 1)) : W p l e R s m args below meth c H locs cells slots (MZ below D cl tys aos A z args s cells slots) (F0 m pc ls [.int v]) := by
  split at hz
  · rename_i hn
    cases hz
    exact W.mono (fun t h => Or.inl ⟨rfl, h⟩) (mw_zret hexec hb hr hlocks hw hty (by rw [if_pos hn]) hdg)
  · cases hz
/-- a callee's theorem, where it may throw -/
def MetZ (l : Launch) (y : MethodName) (ws : List Cond) (rm : Room) (Pc : Array Value → State → Prop) (D : va_G) (cl : List vw_C) (tys : List (ClassId × FieldType)) (aos : List String) (A : Nat → Prop) (z : Nat × Int32 × mw_M) (mc ms : Nat) : Prop :=
  (z.1 = 0 ∧ Met l y ws rm Pc (mw_Qi D cl tys aos A z.2) mc ms A) ∨ (∃ x, (z.1 = 1 ∧ x = xA ∨ z.1 = 2 ∧ x = xS) ∧ Jvm.Free.MetFree l y (headSpec ws rm) Pc (fun _ _ _ _ _ => True) (fun a st o t => mw_Qt D cl tys aos A x z.2.2 a st o t ∧ ∃ L, fr_T st o t L mc ms ∧ ∀ q ∈ L, A q.base))
theorem MetZ.ofW {y : MethodName} {ws ws' : List Cond} {rm : Room} {Pc : Array Value → State → Prop} {mc ms : Nat} {maxL : Nat} {ret : Option FieldType} (hz : z.1 ≤ 2) (hy : plainName y.cls = true) (hw : ws = Cond.code y cc maxL ret :: ws')
    (body : ∀ p e s m args below meth c s₁, BodyLoose p l y (headSpec ws rm) cc maxL ret e s m args below meth c s₁ → c.maxLocals = maxL → Pc args s → c.exceptionTable.isEmpty = true →
      W p l e (headSpec ws rm).room s m args below meth c s.heap [] 0 0 (MZ below D cl tys aos A z args s mc ms) (entryFrame m args maxL)) : MetZ l y ws rm Pc D cl tys aos A z mc ms := by
  have hex : ∀ p e s m args below meth c s₁, BodyLoose p l y (headSpec ws rm) cc maxL ret e s m args below meth c s₁ → c.exceptionTable.isEmpty = true := by
    intro p e s m args below meth c s₁ B
    obtain ⟨meth', c', h1, h2, h3, h4, h5, h6, h7, -⟩ := Cond.code_spec B.named (atoms_spec (ws := ws) B.pre _ (by rw [hw]; exact List.mem_cons_self))
    cases B.method.symm.trans h1
    have X := Stand.of_body B
    cases X.code.symm.trans h2
    exact h7
  by_cases h0 : z.1 = 0
  · refine Or.inl ⟨h0, Met.ofW hy hw (fun p e s m args below meth c s₁ B hml hP => W.mono (fun t h => ?_) (body p e s m args below meth c s₁ B hml hP (hex _ _ _ _ _ _ _ _ _ B)))⟩
    rcases h with ⟨-, h⟩ | ⟨h1, -⟩ | ⟨h1, -⟩
    · exact h
    · omega
    · omega
  · have hfree : ∀ x, (z.1 = 1 ∧ x = xA ∨ z.1 = 2 ∧ x = xS) → Jvm.Free.MetFree l y (headSpec ws rm) Pc (fun _ _ _ _ _ => True) (fun a st o t => mw_Qt D cl tys aos A x z.2.2 a st o t ∧ ∃ L, fr_T st o t L mc ms ∧ ∀ q ∈ L, A q.base) := by
      intro x hx
      refine MetFree.of_bodyS (code := cc) (maxLocals := maxL) (ret := ret) hy ?_ ?_
      · intro args s m h hn
        obtain ⟨meth, c, h1, h2, h3, h4, h5, h6, -, -⟩ := Cond.code_spec hn (atoms_spec (ws := ws) h _ (by rw [hw]; exact List.mem_cons_self))
        exact ⟨meth, c, h1, h2, h3, h4, h5, h6⟩
      · intro p e s m args below meth c s₁ B hml hP _
        have hh0 : s₁.heap = s.heap := by rw [B.state]; rfl
        obtain ⟨t, a1, h⟩ := body p e s m args below meth c s₁ B hml hP (hex _ _ _ _ _ _ _ _ _ B) s₁ hh0 (Stand.of_body B)
        rcases h with ⟨h1, -⟩ | ⟨h1, o, b1, b2, b3⟩ | ⟨h1, o, b1, b2, b3⟩
        · exact absurd h1 h0
        · rcases hx with ⟨-, rfl⟩ | ⟨h2, -⟩
          · exact ⟨t, o, a1, b1, b2, ⟨b3.1, b3.2⟩⟩
          · omega
        · rcases hx with ⟨h2, -⟩ | ⟨-, rfl⟩
          · omega
          · exact ⟨t, o, a1, b1, b2, ⟨b3.1, b3.2⟩⟩
    have : z.1 = 1 ∨ z.1 = 2 := by omega
    rcases this with h1 | h1
    · exact Or.inr ⟨xA, Or.inl ⟨h1, rfl⟩, hfree _ (Or.inl ⟨h1, rfl⟩)⟩
    · exact Or.inr ⟨xS, Or.inr ⟨h1, rfl⟩, hfree _ (Or.inr ⟨h1, rfl⟩)⟩
def mw_Z (s : State) (A : Nat → Prop) (args : Array Value) (c : Code) (l : Launch) : Prop := (∀ (y : Addr) (cy : Cell), s.heap[y]? = some cy → cy.vm.isStatics = true → ¬ A y) ∧ (∀ w ∈ Jvm.Bundle.ownAtoms "EventRecorder" 97 xA xn, w.before args s = true) ∧ (∀ w ∈ Jvm.Bundle.ownAtoms "EventRecorder" 107 xS xn, w.before args s = true) ∧ (∀ q ∈ xTx, (Cond.stringRef "EventRecorder" q.1 q.2).before args s = true) ∧ c.exceptionTable.isEmpty = true ∧ l.stackTraces = false
theorem mw_thA (hexec : p.tables.exec = Jvm.exec) (hb : c.code = cc) (hown : s.vm.findClass "EventRecorder" = some m.cls) (hZ : mw_Z s A args c l) (hcl : (Cond.classLink "EventRecorder" 93 xA).before args s = true) (hini : (Cond.initialized xA).before args s = true) {si : Nat} {txt : String} (hq : (si, txt) ∈ xTx) (hlocks : meth.locks = false) (hsz : ls.size = c.maxLocals) (hw : mw_W D cl tys aos A s S H locs) (hcells : cells + 1 ≤ R.cells) (hslots : slots + 6 ≤ R.slots) (hfr : 5 < R.frames) (hloc : 82 ≤ R.locals) (hz : some (1, (0 : Int32), S) = some z) (d0 : decode cc pc = .ok (.new 93, 3)) (d3 : decode cc (pc + 3) = .ok (.dup, 1)) (d4 : decode cc (pc + 4) = .ok (.ldc si, 2)) (d6 : decode cc (pc + 6) = .ok (.invokespecial 97, 3)) (d9 : decode cc (pc + 9) = .ok (.athrow, 1)) : W p l e R s m args below meth c H locs cells slots (MZ below D cl tys aos A z args s (cells + 1) (slots + 6)) (F0 m pc ls []) := by
  cases hz
  exact W.mono (fun t h => Or.inr (Or.inl ⟨rfl, h⟩)) (mw_throw (names := xn) hexec hb hown (by decide) (by decide) xr1 hZ.2.1 hZ.1 hcl hini (hZ.2.2.2.1 _ hq) hZ.2.2.2.2.2 hZ.2.2.2.2.1 hlocks hsz hw hcells hslots hfr hloc d0 d3 d4 d6 d9)
theorem mw_thS (hexec : p.tables.exec = Jvm.exec) (hb : c.code = cc) (hown : s.vm.findClass "EventRecorder" = some m.cls) (hZ : mw_Z s A args c l) (hcl : (Cond.classLink "EventRecorder" 103 xS).before args s = true) (hini : (Cond.initialized xS).before args s = true) {si : Nat} {txt : String} (hq : (si, txt) ∈ xTx) (hlocks : meth.locks = false) (hsz : ls.size = c.maxLocals) (hw : mw_W D cl tys aos A s S H locs) (hcells : cells + 1 ≤ R.cells) (hslots : slots + 6 ≤ R.slots) (hfr : 5 < R.frames) (hloc : 82 ≤ R.locals) (hz : some (2, (0 : Int32), S) = some z) (d0 : decode cc pc = .ok (.new 103, 3)) (d3 : decode cc (pc + 3) = .ok (.dup, 1)) (d4 : decode cc (pc + 4) = .ok (.ldc si, 2)) (d6 : decode cc (pc + 6) = .ok (.invokespecial 107, 3)) (d9 : decode cc (pc + 9) = .ok (.athrow, 1)) : W p l e R s m args below meth c H locs cells slots (MZ below D cl tys aos A z args s (cells + 1) (slots + 6)) (F0 m pc ls []) := by
  cases hz
  exact W.mono (fun t h => Or.inr (Or.inr ⟨rfl, h⟩)) (mw_throw (names := xn) hexec hb hown (by decide) (by decide) xr2 hZ.2.2.1 hZ.1 hcl hini (hZ.2.2.2.1 _ hq) hZ.2.2.2.2.2 hZ.2.2.2.2.1 hlocks hsz hw hcells hslots hfr hloc d0 d3 d4 d6 d9)
end TRW
