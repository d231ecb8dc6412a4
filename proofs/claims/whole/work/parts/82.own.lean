/-! what the throws rest on: a new start's room, words that stay, the search of a handler whose class may not be resolved yet -/
theorem kp_room {s u : State} {pl : Platform} {r r' : Room} (h : s.hasRoom pl r = true) (h1 : u.frames.length + r'.frames ≤ s.frames.length + r.frames) (h2 : u.localsInUse + r'.locals ≤ s.localsInUse + r.locals) (h3 : pl.stackLimits u.me = pl.stackLimits s.me) (h4 : u.me.stackBytes = s.me.stackBytes) (h5 : u.heap.size + r'.cells ≤ s.heap.size + r.cells) (h6 : u.slotsUsed + r'.slots ≤ s.slotsUsed + r.slots) (h7 : u.slotsTrue = true) : u.hasRoom pl r' = true := by
  unfold State.hasRoom at h ⊢
  rw [h3, h4]
  simp only [Bool.and_eq_true, decide_eq_true_eq] at h ⊢
  obtain ⟨⟨⟨⟨g0, g1, g2, g3, g4, g5⟩, g6⟩, g7⟩, -⟩ := h
  refine ⟨⟨⟨⟨?_, ?_, ?_, ?_, ?_, g5⟩, ?_⟩, ?_⟩, h7⟩ <;> omega
def kp_S (s U : State) : Prop := ∀ (y : Addr) (cy : Cell), s.heap[y]? = some cy → cy.vm.isStatics = true → U.heap[y]? = some cy
def kp_w : Cond → Bool
  | .laysStatic _ _ _ => true
  | .isRef (.static _ _ _) => true
  | w => w.tabsOnly
theorem kp_st {s U : State} (hv : s.vm.Alike U.vm) (hk : kp_S s U) {c n d : String} {a a' : Array Value} {v : Value} (h : (Term.static c n d).eval a s none [] s = some v) : (Term.static c n d).eval a' U none [] U = some v := by
  rcases hq : s.fieldFound? c n d with _ | ⟨cf, k, ix, f⟩
  · simp [Term.eval, State.fieldNamed?, hq] at h
  obtain ⟨k', hq', hek⟩ := State.fieldFound?_setVm hv hq
  have hq2 : U.fieldFound? c n d = some (cf, k', ix, f) := hq'
  by_cases hst : f.isStatic = true
  · rcases hs : k.statics with _ | ad
    · simp [Term.eval, State.fieldNamed?, hq, hst, hs] at h
    have hs' : k'.statics = some ad := by rw [hek]; exact hs
    rcases hc : s.heap[ad]? with _ | cell
    · simp [Term.eval, State.fieldNamed?, hq, hst, hs, hc] at h
    by_cases hi : cell.vm.isStatics = true
    · simp [Term.eval, State.fieldNamed?, hq, hst, hs, hc, hi] at h
      simp [Term.eval, State.fieldNamed?, hq2, hst, hs', hk ad cell hc hi, hi, h]
    · simp [Term.eval, State.fieldNamed?, hq, hst, hs, hc, hi] at h
  · simp [Term.eval, State.fieldNamed?, hq, hst] at h
theorem kp_one {s U : State} (hW : s.WarmedH U.vm) (hk : kp_S s U) {a a' : Array Value} (w : Cond) (hw : kp_w w = true) (h : w.before a s = true) : w.before a' U = true := by
  unfold kp_w at hw
  split at hw
  · obtain ⟨cc, k, ix, f, ad, cell, h1, h2, h3, h4, h5, h6, h7, h8, h9⟩ := Cond.laysStatic_spec h
    obtain ⟨k', hq', hek⟩ := State.fieldFound?_setVm hW.alike h2
    exact Cond.laysStatic_of (s := U) (by rw [hW.alike.findClass]; exact h1) hq' h3 (by rw [hek]; exact h4) (hk ad cell h5 h6) h6 h7 h8 (by rw [hek]; exact h9)
  · rename_i c n d
    rcases hv : (Term.static c n d).eval a s none [] s with _ | v
    · simp [Cond.before, Cond.holds, Cond.value, hv] at h
    · have hv' := kp_st (a' := a') hW.alike hk hv
      simp only [Cond.before, Cond.holds, Cond.value, hv, hv'] at h ⊢
      exact h
  · have h1 := Cond.tabsOnly_warm (args' := a') (T := U) hW w hw h
    rwa [State.setVm_self] at h1
theorem kp_all {s U : State} (hW : s.WarmedH U.vm) (hk : kp_S s U) {a a' : Array Value} {L : List Cond} (hL : L.all kp_w = true) (h : ∀ w ∈ L, w.before a s = true) : ∀ w ∈ L, w.before a' U = true := fun w hw => kp_one hW hk w (List.all_eq_true.mp hL w hw) (h w hw)
section CTC
variable {e : Env} {f : JFrame} {a : Addr} {cell : Cell}
/-- one row of the table, its class linked: both ways of it -/
theorem ct_row {Q : Handler → Pre} {E : CtlPost} {d : Bool} {acts : List Action} {S : State} {x : ExceptionTableEntry} {t : List ExceptionTableEntry} {c : ClassId} (hx : covers x f.pc = true) (h0 : x.catchType ≠ 0) (hl : S.vm.ClassLinks e.platform f.method.cls x.catchType c) (hcell : S.heap[a]? = some cell) (hobj : ∀ k, cell.vm ≠ .statics k) (hk : ∃ k, S.vm.classes[cell.cls]? = some k) :
    wp (findHandler.go f a (x :: t)) Q E e d acts S ↔ if S.vm.assignable cell.cls c = true then Q (.found x.handlerPc) d acts (S.setVm (S.vm.noted f.method.cls x.catchType (.cls c))) else wp (findHandler.go f a t) Q E e d acts (S.setVm (S.vm.noted f.method.cls x.catchType (.cls c))) := by
  have hx2 : (decide (x.startPc ≤ f.pc) && decide (f.pc < x.endPc)) = true := hx
  obtain ⟨_, _, _, kc, _, _, _, _, _, hkc, _, _⟩ := hl.here
  obtain ⟨ans, tab⟩ := (resolveClass_links e.toSetting hl).op (op := VmOp.resolveClass f.method.cls x.catchType) rfl
  have hal : S.vm.Alike (S.vm.noted f.method.cls x.catchType (.cls c)) := (Vm.Alike.refl S.vm).noted _ _ _
  obtain ⟨k, hk⟩ := hk
  obtain ⟨k1, hk1, -⟩ := hal.2.2 _ _ hk
  obtain ⟨k2, hk2, -⟩ := hal.2.2 _ _ hkc
  have has : (S.vm.noted f.method.cls x.catchType (.cls c)).assignable cell.cls c = S.vm.assignable cell.cls c := hal.assignable _ _
  cases hfit : S.vm.assignable cell.cls c <;> rw [hfit] at has <;> simp [findHandler.go, hx2, h0, ans, tab, hcell, hobj, hk1, hk2, has, VmOp.dirties, VmOp.acts]
def ct_is (b : Bool) (pl : Platform) (s0 : State) (d cls : ClassId) (pc : Nat) (y : ExceptionTableEntry) : Prop := covers y pc = true ∧ y.catchType ≠ 0 ∧ ∃ c, s0.vm.ClassLinks pl d y.catchType c ∧ s0.vm.assignable cls c = b
/-- the first row takes it, or the second one does and the first doesn't -/
def ct_T (pl : Platform) (s0 : State) (d cls : ClassId) (pc : Nat) (L : List ExceptionTableEntry) (h : Nat) : Prop := (∃ x t, L = x :: t ∧ ct_is true pl s0 d cls pc x ∧ x.handlerPc = h) ∨ ∃ y x t, L = y :: x :: t ∧ ct_is false pl s0 d cls pc y ∧ ct_is true pl s0 d cls pc x ∧ x.handlerPc = h
theorem ct_two {s0 S : State} {L : List ExceptionTableEntry} {h : Nat} (hW : s0.WarmedH S.vm) (hcell : S.heap[a]? = some cell) (hobj : ∀ k, cell.vm ≠ .statics k) (hk : ∃ k, s0.vm.classes[cell.cls]? = some k) (hT : ct_T e.platform s0 f.method.cls cell.cls f.pc L h) : ∃ v, s0.WarmedH v ∧ ∀ (Q : Handler → Pre) (E : CtlPost) (d : Bool) (acts : List Action), wp (findHandler.go f a L) Q E e d acts S ↔ Q (.found h) d acts (S.setVm v) := by
  obtain ⟨k, hk⟩ := hk
  have ex : ∀ {v : Vm}, s0.WarmedH v → ∃ k, v.classes[cell.cls]? = some k := fun hv => by
    obtain ⟨k', hk', -⟩ := hv.alike.2.2 _ _ hk
    exact ⟨k', hk'⟩
  rcases hT with ⟨x, t, rfl, ⟨hx, h0, c, hl, hfit⟩, rfl⟩ | ⟨y, x, t, rfl, ⟨gx, g0, c1, gl, gfit⟩, ⟨hx, h0, c, hl, hfit⟩, rfl⟩
  · obtain ⟨_, _, _, _, hd, _, _, _, _, _, _, hopen⟩ := hl.here
    refine ⟨_, hW.noted hd hopen (State.rightAt_cls hl), fun Q E d acts => ?_⟩
    rw [ct_row hx h0 (hW.classLinks hl) hcell hobj (ex hW), if_pos (by rw [hW.alike.assignable]; exact hfit)]
  · obtain ⟨_, _, _, _, gd, _, _, _, _, _, _, gopen⟩ := gl.here
    obtain ⟨_, _, _, _, hd, _, _, _, _, _, _, hopen⟩ := hl.here
    have hW1 := hW.noted gd gopen (State.rightAt_cls gl)
    refine ⟨_, hW1.noted hd hopen (State.rightAt_cls hl), fun Q E d acts => ?_⟩
    rw [ct_row gx g0 (hW.classLinks gl) hcell hobj (ex hW), if_neg (by rw [hW.alike.assignable, gfit]; decide)]
    generalize S.vm.noted f.method.cls y.catchType (.cls c1) = v1 at hW1 ⊢
    refine (ct_row (S := S.setVm v1) hx h0 (hW1.classLinks hl) hcell hobj (ex hW1)).trans ?_
    rw [if_pos (show (S.setVm v1).vm.assignable cell.cls c = true from (hW1.alike.assignable _ _).trans hfit)]
    exact Iff.rfl
end CTC
section CTS
variable {p : Program} {l : Launch} {e : Env} {R : Room} {s : State} {m : MethodId} {args : Array Value} {below : List Frame} {meth : Method} {c : Code} {T : State} {locs : List Loc} {cells slots : Nat}
/-- thrown over the frame g, taken by a row of its method's table: on at the handler -/
theorem ct_goes (X : Stand p l e R s m args below meth c T locs cells slots) {x : Addr} {g : JFrame} (hg : g.method = m) {cell : Cell} {h : Nat} (hcell : T.heap[x]? = some cell) (hobj : cell.vm.isStatics = false) (hk : ∃ k, s.vm.classes[cell.cls]? = some k) (hT : ct_T e.platform s m.cls cell.cls g.pc c.exceptionTable.toList h) :
    ∃ v, Stand p l e R s m args below meth c (T.setVm v) locs cells slots ∧ ∀ target, Steps p.tables e below ((T.setVm v).setTop { g with pc := h, stack := [.ref x] }) target → Steps p.tables e below ((T.setTop g).pushFrame (.throwing x)) target := by
  subst hg
  obtain ⟨v, hv, hq⟩ := ct_two (e := e) (f := g) (a := x) (S := (T.setTop g).pushFrame (.throwing x)) X.warmed hcell (VmData.ne_statics_of hobj) hk hT
  refine ⟨v, X.noted hv, fun target hrest => ?_⟩
  obtain ⟨hgo, hwi⟩ := X.here.throwing x
  refine Steps.head hgo hwi ?_
  have hst : (stepThrowing e ((T.setTop g).pushFrame (.throwing x)) x (.java g :: T.frames.tail)).Is ((((T.setTop g).pushFrame (.throwing x)).setVm v).setFrames (.java { g with pc := h, stack := [.ref x] } :: T.frames.tail)) [] := by
    simp only [stepThrowing, searchFrame, vmDo]
    generalize hr : Sem.go _ e false [] ((T.setTop g).pushFrame (.throwing x)) = res
    obtain ⟨as, rfl, ha⟩ := Sem.eq_ok_of hr (a := Handler.found h) (s' := ((T.setTop g).pushFrame (.throwing x)).setVm v) (acts' := []) (by
      simp [W.findHandler_eq (s := (T.setTop g).pushFrame (.throwing x)) (f := g) X.method' X.code, hq])
    exact ⟨rfl, ha⟩
  rw [stepThread_throwing (frames_entered X.here.top _), hst.1]
  obtain ⟨g0, h0⟩ := Option.isSome_iff_exists.mp X.here.top
  obtain ⟨r, hr⟩ := State.topJava?_eq_some.mp h0
  have hr' : (T.setVm v).frames = .java g0 :: r := hr
  rw [State.setTop_of_frames _ hr'] at hrest
  have e1 : (((T.setTop g).pushFrame (.throwing x)).setVm v).setFrames (.java { g with pc := h, stack := [.ref x] } :: T.frames.tail) = (T.setVm v).setFrames (.java { g with pc := h, stack := [.ref x] } :: r) := by
    rw [State.setTop_of_frames _ hr, hr]
    rw [State.pushFrame, State.setFrames_setFrames]
    exact State.setFrames_setFrames (T.setVm v) _ _
  rw [e1]
  exact hrest
def fr_T (st : State) (o : Outcome) (t : State) (L : List Loc) (k n : Nat) : Prop := (∃ x, o = .threw x) ∧ st.WarmedH t.vm ∧ st.sameButNew ({ t with vm := st.vm } : State) L k n
/-- a callee that throws: what stands then, with the note over the caller's frame -/
theorem ct_thrown (X : Stand p l e R s m args below meth c T locs cells slots) {y : MethodName} {S : Spec} {Pc : Array Value → State → Prop} {Qc : Array Value → State → Outcome → State → Prop} {mc ms : Nat} {free : Addr → Prop} (hM : Jvm.Free.MetFree l y S Pc (fun _ _ _ _ _ => True) (fun a st o t => Qc a st o t ∧ ∃ L, fr_T st o t L mc ms ∧ ∀ q ∈ L, free q.base)) {bytes : ByteArray} {maxL : Nat} {ret : Option FieldType} {g : JFrame} (hg : g.method = m) (hsize : g.locals.size = c.maxLocals) {ig : Instr} {len : Nat} (hdg : decode c.code g.pc = .ok (ig, len)) {Wn : Nat} (hW : 2 * g.monitorRoom + (g.stack.map fun v => v.category).sum ≤ Wn) {mk : MethodId} {av : Array Value} (hn : T.methodNamed? y = some mk) (hframes : S.room.frames + 1 ≤ R.frames) (hlocals : Wn + (maxL + 11) + S.room.locals ≤ R.locals) (hpre : S.pre.before av T = true) (hcode : (Cond.code y bytes maxL ret).before av T = true) (hini : (Cond.initialized y.cls).before av T = true) (hcells : cells + S.room.cells ≤ R.cells) (hslots : slots + S.room.slots ≤ R.slots) (hP : Pc av (T.calling g mk av)) :
    ∃ (x : Addr) (t : State) (L : List Loc), Qc av (T.calling g mk av) (.threw x) t ∧ fr_T (T.calling g mk av) (.threw x) t L mc ms ∧ (∀ q ∈ L, free q.base) ∧ Stand p l e R s m args below meth c (({ T with heap := t.heap, slotsUsed := t.slotsUsed } : State).setVm t.vm) (locs ++ L) (cells + mc) (slots + ms) ∧ Steps p.tables e below (doInvoke e (T.setTop g) [] mk av).1 (((({ T with heap := t.heap, slotsUsed := t.slotsUsed } : State).setVm t.vm).setTop g).pushFrame (.throwing x)) := by
  have hAt : At T g.method c below := by rw [hg]; exact X.here
  obtain ⟨mY, cY, hmY, hcY, -, hlY, -⟩ := Cond.code_spec hn hcode
  obtain ⟨kY, hkY, -⟩ := className_of_methodNamed hn
  have happ : S.appliesLoose y e.platform (T.calling g mk av) = true := Spec.appliesLoose_calling (g := g) hAt hdg hn hkY (Cond.initialized_spec (findClass_of_methodNamed hn) hkY hini) (X.room_calling (g := g) (R' := S.room) hsize hmY hcY hframes (by rw [hlY]; omega) hcells hslots) hpre
  obtain ⟨mid, hmid⟩ := hAt.above
  obtain ⟨o, t, hgo, -, hend, hq, L, hF, hL⟩ := Steps.callFree hM p X.admits X.cas X.clock (acts := []) (show (T.setTop g).frames = (.java g :: mid) ++ below by rw [State.frames_setTop' g hAt.top, hmid]; rfl) happ hP trivial
  have hF0 := hF
  obtain ⟨⟨x, rfl⟩, hWt, same⟩ := hF
  have hWt' : T.WarmedH t.vm := hWt
  rw [State.frames_setTop' g hAt.top] at hend
  have hfr : t.frames = .throwing x :: .java g :: T.frames.tail := hend
  obtain ⟨g0, h0⟩ := Option.isSome_iff_exists.mp hAt.top
  obtain ⟨r, hr⟩ := State.topJava?_eq_some.mp h0
  generalize hU : (({ T with heap := t.heap, slotsUsed := t.slotsUsed } : State).setVm t.vm) = U
  have hrU : U.frames = .java g0 :: r := by rw [← hU]; exact hr
  have ht : t = (U.setTop g).pushFrame (.throwing x) := by
    have h9 := congrArg (fun z : State => z.setVm t.vm) same.1
    have h1 : t = ({ (T.calling g mk av).setFrames t.frames with heap := t.heap, slotsUsed := t.slotsUsed } : State).setVm t.vm := h9
    refine h1.trans ?_
    rw [hfr, State.calling_eq hAt.top, State.setFrames_setFrames, State.pushFrame, State.frames_setTop _ hrU, State.setTop_of_frames _ hrU, State.setFrames_setFrames, hr, ← hU]
    rfl
  have hsm : T.sameButNew ({ T with heap := t.heap, slotsUsed := t.slotsUsed } : State) L mc ms := by
    refine ⟨?_, same.2⟩
    obtain ⟨th, hth, -⟩ := State.frames_cons hr
    show _ = ({ T.setFrames T.frames with heap := t.heap, slotsUsed := t.slotsUsed } : State)
    rw [State.setFrames_self hth]
  subst hg
  refine ⟨x, t, L, hq, hF0, hL, ?_, by rw [hU, ← ht]; exact hgo⟩
  exact ⟨X.admits, X.cas, X.clock, X.frames, X.room, X.hears, X.method, X.code, (X.here.setHeapUsed t.heap t.slotsUsed).setVm hWt'.alike, X.tail, State.WarmedH.trans X.warmed hWt', X.limits, X.bytes, X.same.trans (hsm.setVm s.vm)⟩
end CTS
