/-! a call that throws, caught in the caller -/
section CLT
variable {p : Program} {l : Launch} {e : Env} {R : Room} {s : State} {m : MethodId} {args : Array Value} {below : List Frame} {meth : Method} {c : Code} {H : Heap} {locs : List Loc} {cells slots : Nat} {Q : State → Prop}
theorem W.callT (hexec : p.tables.exec = Jvm.exec) {cc : ByteArray} (hb : c.code = cc) {own C : String} {index : Nat} {y : MethodName} {bytes : ByteArray} {maxL : Nat} {ret : Option FieldType} {ws : List Cond} {rm : Room} {Pc : Array Value → State → Prop} {Qc : Array Value → State → Outcome → State → Prop} {mc ms : Nat} {free : Addr → Prop}
    (hM : Jvm.Free.MetFree l y (headSpec ws rm) Pc (fun _ _ _ _ _ => True) (fun a st o t => Qc a st o t ∧ ∃ L, fr_T st o t L mc ms ∧ ∀ q ∈ L, free q.base)) (hblind : FrameBlind Pc) (hrc : rm.cells = mc) (hrs : rm.slots = ms) {Wn : Nat} (hframes : rm.frames + 1 ≤ R.frames) (hlocals : Wn + (maxL + 11) + rm.locals ≤ R.locals) (hcells : cells + mc ≤ R.cells) (hslots : slots + ms ≤ R.slots)
    (hws : ∀ w ∈ ws, ∀ a' U, s.WarmedH U.vm → w.before a' U = true) (hcw : Cond.code y bytes maxL ret ∈ ws) (hinit : ∀ a' U, s.WarmedH U.vm → (Cond.initialized y.cls).before a' U = true)
    (hown : s.vm.findClass own = some m.cls) (hlink : (Cond.methodLink own index y).before args s = true) (hinst : (Cond.instanceMethod y).before args s = true) (hsel : (Cond.selects C y y).before args s = true) (hcode : (Cond.code y bytes maxL ret).before args s = true) (hy : y.cls ≠ "java/lang/invoke/MethodHandle" ∧ y.cls ≠ "java/lang/invoke/VarHandle")
    {b : Addr} {cellB : Cell} (hcell : H[b]? = some cellB) (hobj : cellB.vm.isStatics = false) (hcls : s.vm.findClass C = some cellB.cls) {pc : Nat} {ls : Array Slot} (hsize : ls.size = c.maxLocals) {As rest : List Value} (hlen : ∀ sig, parseMethodDescriptor y.desc = some sig → As.length = sig.parameters.length) (hW : 2 * (F0 m pc ls rest).monitorRoom + (rest.map fun v => v.category).sum ≤ Wn) (hdg : decode cc pc = .ok (.invokevirtual index, 3))
    (hpre : ∀ U : State, U.heap = H → s.WarmedH U.vm → Pc (Value.ref b :: As).toArray U)
    (kk : ∀ (x : Addr) (t st0 : State) (L : List Loc), e.platform.magicAccessors = ({} : Platform).magicAccessors → Qc (Value.ref b :: As).toArray st0 (.threw x) t → fr_T st0 (.threw x) t L mc ms → st0.heap = H → s.vm.Alike st0.vm → s.WarmedH t.vm → (∀ q ∈ L, free q.base) → ∃ (cell : Cell) (h : Nat), t.heap[x]? = some cell ∧ cell.vm.isStatics = false ∧ (∃ k, s.vm.classes[cell.cls]? = some k) ∧ ct_T e.platform s m.cls cell.cls pc c.exceptionTable.toList h ∧ W p l e R s m args below meth c t.heap (locs ++ L) (cells + mc) (slots + ms) Q (F0 m h ls [.ref x])) :
    W p l e R s m args below meth c H locs cells slots Q (F0 m pc ls (As.reverse ++ .ref b :: rest)) := by
  intro T hT X
  obtain ⟨mk, methM, hnamed, hmethM, hstM, habM⟩ := Cond.instanceMethod_spec hinst
  obtain ⟨methM', cM, hmethM', -, -, -, -, -, -, hsigM⟩ := Cond.code_spec hnamed hcode
  cases hmethM.symm.trans hmethM'
  obtain ⟨c2, r2, m2, q1, q2, q3, q4, kP, hkP, hkPi⟩ := Cond.selects_spec hsel
  cases hcls.symm.trans q1
  cases (State.methodFound?_of_named hnamed hy).symm.trans q2
  cases hnamed.symm.trans q3
  have hselP : selectMethod e.platform s.vm cellB.cls mk = .method mk := by rw [Launch.admits_selectMethod X.admits]; exact q4
  obtain ⟨vm₁, X₁, hstep₁⟩ := X.invokevirtual hexec hown hlink hnamed hmethM hstM hkP hkPi hy (a := b) (cell := cellB) (by rw [hT]; exact hcell) (fun z h => by rw [h] at hobj; cases hobj) hselP hmethM habM hkP hkPi (g := F0 m pc ls (As.reverse ++ .ref b :: rest)) rfl (argsL := As) (rest := rest) (hlen _ hsigM) rfl (by rw [hb]; exact hdg)
  obtain ⟨x, t, L, p3, p9, p6, X', hsteps⟩ := ct_thrown X₁ (S := headSpec ws rm) hM (bytes := bytes) (maxL := maxL) (ret := ret) (g := F0 m pc ls rest) rfl hsize (ig := .invokevirtual index) (len := 3) (by rw [hb]; exact hdg) hW (mk := mk) (av := (Value.ref b :: As).toArray) (X₁.named hnamed) hframes hlocals (atoms_intro fun w hw => hws w hw _ _ X₁.warmed) (hws _ hcw _ _ X₁.warmed) (hinit _ _ X₁.warmed) (by rw [show (headSpec ws rm).room.cells = mc from hrc]; exact hcells) (by rw [show (headSpec ws rm).room.slots = ms from hrs]; exact hslots) (hblind _ _ _ _ (hpre (T.setVm vm₁) hT X₁.warmed))
  have hWt : s.WarmedH t.vm := State.WarmedH.trans X₁.warmed p9.2.1
  obtain ⟨cell, h, hcell, hobj, hk0, hTT, hk⟩ := kk x t _ L (by rw [X.admits.platform]) p3 p9 hT X₁.warmed.alike hWt p6
  obtain ⟨vm', XV, hst⟩ := ct_goes X' (x := x) (g := F0 m pc ls rest) rfl hcell hobj hk0 hTT
  obtain ⟨t2, a2, b2⟩ := hk ((({ T.setVm vm₁ with heap := t.heap, slotsUsed := t.slotsUsed } : State).setVm t.vm).setVm vm') rfl XV
  exact ⟨t2, hstep₁ _ fun acts => by rw [doInvoke_state]; exact hsteps.trans (hst _ a2), b2⟩
end CLT
