/-! a method that throws: the walk begun anew where it stands -/
section THR
variable {p : Program} {l : Launch} {e : Env} {R : Room} {s : State} {m : MethodId} {args : Array Value} {below : List Frame} {meth : Method} {c : Code} {T : State} {locs : List Loc} {cells slots : Nat}
theorem st_fresh (X : Stand p l e R s m args below meth c T locs cells slots) (hc : cells ≤ R.cells) (hs : slots ≤ R.slots) : Stand p l e { R with cells := R.cells - cells, slots := R.slots - slots } (T.setFrames (.invoking m args :: below)) m args below meth c T [] 0 0 := by
  obtain ⟨g0, hfr⟩ := X.frames_eq
  have hcur : T.cur < T.threads.size := State.cur_lt_of_frames hfr
  have hf : (T.setFrames (.invoking m args :: below)).frames = .invoking m args :: below := State.frames_setFrames _ hcur
  have hm : (T.setFrames (.invoking m args :: below)).vm.method? m = some meth := X.method'
  refine ⟨X.admits, X.cas, X.clock, hf, ?_, ?_, hm, X.code, X.here, X.tail, State.WarmedH.refl T, ?_, ?_, ?_⟩
  · refine kp_room (s := s) (r := R) X.room ?_ ?_ ?_ ?_ ?_ ?_ ?_
    · rw [hf, X.frames]; exact Nat.le_refl _
    · rw [State.localsInUse_invoking hf hm X.code, State.localsInUse_invoking X.frames X.method X.code]; exact Nat.le_refl _
    · rw [State.stackLimits_setFrames, X.limits]
    · rw [State.stackBytes_setFrames, X.bytes]
    · have := X.heapSize
      show T.heap.size + (R.cells - cells) ≤ _
      omega
    · have := X.used
      show T.slotsUsed + (R.slots - slots) ≤ _
      omega
    · exact X.book
  · have h := X.hears
    have hv : (T.setFrames (.invoking m args :: below)).vm = T.vm := rfl
    unfold State.hears at h ⊢
    have hcd : ∀ x, (T.setFrames (.invoking m args :: below)).code? x = s.code? x := fun x => by
      have k : ∀ v : Vm, (do let a ← v.classes[x.cls]?; let b ← a.methods[x.idx]?; b.code) = (v.method? x).bind (·.code) := fun v => by
        unfold Vm.method?
        cases v.classes[x.cls]? <;> rfl
      unfold State.code?
      rw [hv, k, k, X.warmed.alike.method?]
    cases below with
    | nil => simpa [hv, X.warmed.alike.method?] using h
    | cons b r =>
      cases b <;> first | exact h | (simp only [hcd]; exact h) | (simp only [hv, X.warmed.alike.method?]; exact h)
  · rw [State.stackLimits_setFrames]
  · rw [State.stackBytes_setFrames]
  · have h0 : T.heap.toList.drop T.heap.size = [] := List.drop_eq_nil_of_le (by rw [Array.length_toList]; exact Nat.le_refl _)
    refine ⟨?_, Nat.le_refl _, Nat.le_refl _, ?_, ?_, fun a c hc => ⟨c, hc, rfl, rfl, fun _ _ => rfl⟩⟩
    · obtain ⟨t, ht, -⟩ := State.frames_cons hfr
      show T = { (T.setFrames (.invoking m args :: below)).setFrames T.frames with heap := T.heap, slotsUsed := T.slotsUsed }
      rw [State.setFrames_setFrames, State.setFrames_self ht]
    · show T.slotsUsed = T.slotsUsed + ((T.heap.toList.drop T.heap.size).map (·.slots.size)).sum
      rw [h0]; rfl
    · show ((T.heap.toList.drop T.heap.size).map (·.slots.size)).sum ≤ 0
      rw [h0]; exact Nat.le_refl _
/-- what a call that throws leaves: an object of the class is thrown; the cells are those of S -/
def mw_Qt (D : va_G) (cl : List vw_C) (tys : List (ClassId × FieldType)) (aos : List String) (A : Nat → Prop) (exc : String) (S : mw_M) : Array Value → State → Outcome → State → Prop := fun _ s o t => ∃ (x : Addr) (cell : Cell), o = .threw x ∧ s.heap.size ≤ x ∧ t.heap[x]? = some cell ∧ cell.vm = .none ∧ s.vm.findClass exc = some cell.cls ∧ ∃ n, S.2 ≤ n ∧ mw_E D cl tys aos A (S.1, n) t
def MQT (below : List Frame) (Qc : Array Value → State → Outcome → State → Prop) (a : Array Value) (s : State) (mc ms : Nat) (free : Addr → Prop) : State → Prop := fun t =>
  ∃ o, t.status = .running ∧ Ended t below o ∧ Qc a s o t ∧ ∃ L, fr_T s o t L mc ms ∧ ∀ q ∈ L, free q.base
variable {D : va_G} {cl : List vw_C} {A : Nat → Prop} {tys : List (ClassId × FieldType)} {aos : List String} {S : mw_M} {H : Heap} {cc : ByteArray} {pc : Nat} {ls : Array Slot}
theorem mw_throw (hexec : p.tables.exec = Jvm.exec) (hb : c.code = cc) {own cls txt : String} {names : List String} {ic idx si : Nat} (hown : s.vm.findClass own = some m.cls) (hcls : Jvm.Bundle.fit cls = true) (hnames : ∀ n ∈ names, Jvm.Bundle.fit n = true) (hrid : (Jvm.Bundle.ownAtoms own ic cls names).all kp_w = true) (hat : ∀ w ∈ Jvm.Bundle.ownAtoms own ic cls names, w.before args s = true) (hst : ∀ (y : Addr) (cy : Cell), s.heap[y]? = some cy → cy.vm.isStatics = true → ¬ A y) (hcl : (Cond.classLink own idx cls).before args s = true) (hini : (Cond.initialized cls).before args s = true) (hstr : (Cond.stringRef own si txt).before args s = true) (htr : l.stackTraces = false) (hex : c.exceptionTable.isEmpty = true) (hlocks : meth.locks = false) (hsz : ls.size = c.maxLocals) (hw : mw_W D cl tys aos A s S H locs) (hcells : cells + 1 ≤ R.cells) (hslots : slots + 6 ≤ R.slots) (hfr : names.length + 3 < R.frames) (hloc : 1 + (13 * (names.length + 1) + 42) ≤ R.locals) (d0 : decode cc pc = .ok (.new idx, 3)) (d3 : decode cc (pc + 3) = .ok (.dup, 1)) (d4 : decode cc (pc + 4) = .ok (.ldc si, 2)) (d6 : decode cc (pc + 6) = .ok (.invokespecial ic, 3)) (d9 : decode cc (pc + 9) = .ok (.athrow, 1)) : W p l e R s m args below meth c H locs cells slots (MQT below (mw_Qt D cl tys aos A cls S) args s (cells + 1) (slots + 6) A) (F0 m pc ls []) := by
  intro T hT X
  have X' := st_fresh X (by omega) (by omega)
  generalize hs' : T.setFrames (.invoking m args :: below) = s' at X'
  have hv' : s'.vm = T.vm := by rw [← hs']; rfl
  have hh' : s'.heap = H := by rw [← hs', ← hT]; rfl
  have hW' : s.WarmedH s'.vm := by rw [hv']; exact X.warmed
  have hk : kp_S s s' := fun y cy hy hcy => by
    rw [hh', hw.2.2.1.2.1 y (Array.getElem?_eq_some_iff.mp hy).1 (hst y cy hy hcy)]; exact hy
  have hat' := kp_all (a' := args) hW' hk hrid hat
  have hown' : s'.vm.findClass own = some m.cls := by rw [hv', X.warmed.alike.findClass]; exact hown
  have hcl' : (Cond.classLink own idx cls).before args s' = true := word_at hW' (Or.inl rfl) hcl
  have hini' : (Cond.initialized cls).before args s' = true := word_at hW' (Or.inl rfl) hini
  obtain ⟨-, -, -, aS, -, -, -, -, -, hevS⟩ := Cond.stringRef_spec hown hstr
  have hvk := vk_R.warm hW' (vk_R.of hstr hevS)
  have hins' : (Cond.instantiable cls 6).before args s' = true := hat' _ (by simp [Jvm.Bundle.ownAtoms])
  obtain ⟨cX, kX, hcX, hkX, -, -, -, -⟩ := Cond.instantiable_spec (show (Cond.instantiable cls 6).holds args s' none s' [] = true from hins')
  refine (?_ : W p l e _ s' m args below meth c H [] 0 0 _ (F0 m pc ls [])) T hT X'
  refine W.newcK hexec hb hown' hcl' hins' hini' rfl d0 (by show 0 + 1 ≤ R.cells - cells; omega) (by show 0 + 6 ≤ R.slots - slots; omega) hcX (h := H.size) rfl (fun H1 k1 hk1 e1 z1 o1 => ?_)
  refine lv_dup hexec hb d3 rfl ?_
  intro T2 hT2 X2
  have hlen : H.size < H1.size := by omega
  have hout : ∀ x ∈ c.exceptionTable.toList, covers x (pc + 9) = false := fun x hx => by
    rw [Array.isEmpty_iff.mp hex] at hx
    exact absurd hx List.not_mem_nil
  obtain ⟨U, st, hrun, hend, hWU, hsame, ce, hce, K⟩ := X2.ctorThrowS hexec (by rw [X.admits.platform]; exact htr) hown' hcls hnames hat' (fun x hx => absurd hx List.not_mem_nil) (a := H.size) hcX hk1 (by rw [hT2]; exact e1) (by rw [hh']; exact Nat.le_refl _) (msg := .ref aS) rfl (g := F0 m (pc + 6) ls [.ref aS, .ref H.size, .ref H.size]) rfl hsz rfl rfl (rest := []) rfl (by rw [hb]; exact d6) (by rw [hb]; exact d9) hout hfr hloc hlocks
  have hsame' : s'.sameButNew ({ U with vm := s'.vm } : State) [] 1 6 := hsame
  obtain ⟨q1, q2, q3, q4, q5, q6⟩ := hsame'
  have hTU : T.sameButNew ({ U with vm := T.vm } : State) [] 1 6 := by
    rw [← hs'] at q1 q2 q3 q4 q5 q6
    refine ⟨?_, q2, q3, q4, q5, q6⟩
    have q1' : ({ U with vm := T.vm } : State) = { (T.setFrames (.invoking m args :: below)).setFrames U.frames with heap := U.heap, slotsUsed := U.slotsUsed } := q1
    rw [State.setFrames_setFrames] at q1'
    exact q1'
  have hkeep : ∀ q, q < H.size → U.heap[q]? = H[q]? := fun q hq => by
    obtain ⟨c1, hc1⟩ : ∃ c1, H[q]? = some c1 := ⟨_, Array.getElem?_eq_getElem hq⟩
    obtain ⟨c2, w1, w2, w3, w4⟩ := q6 q c1 (by rw [hh']; exact hc1)
    have w1' : U.heap[q]? = some c2 := w1
    have hsl : c2.slots = c1.slots := Array.ext_getElem? (fun i => w4 i List.not_mem_nil)
    rw [w1', hc1, w2, hsl]
  refine ⟨U, X2.ldcString hexec hown' (show (Cond.stringRef own si txt).before args s' = true from hvk.1) (show (Term.string own si).eval args s' none [] s' = some (.ref aS) from hvk.2) rfl (by rw [hb]; exact d4) _ st, .threw H.size, hrun, hend, ⟨H.size, ce, rfl, hw.2.2.1.1, hce, K.vm, ?_, U.heap.size, ?_, ⟨⟨fun a e he => ?_, rfl⟩, ?_⟩⟩, locs ++ [], ⟨⟨_, rfl⟩, ?_, ?_⟩, ?_⟩
  · have := K.cls
    rw [hv', X.warmed.alike.findClass] at this
    exact this
  · rw [← hw.1.2]
    have : s'.heap.size ≤ U.heap.size := q2
    rw [hh'] at this
    exact this
  · exact ⟨(hw.1.1 a e he).1.kept (hkeep a (hw.1.1 a e he).1.lt), (hw.1.1 a e he).2⟩
  · exact hw.2.1.moved (State.WarmedH.trans hW' hWU).alike
  · exact State.WarmedH.trans hW' hWU
  · exact X.same.trans (hTU.setVm s.vm)
  · rw [List.append_nil]; exact hw.2.2.1.2.2
end THR
