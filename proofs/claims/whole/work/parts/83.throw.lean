/-! a method that throws: the walk begun anew where it stands -/
section THR
variable {p : Program} {l : Launch} {e : Env} {R : Room} {s : State} {m : MethodId} {args : Array Value} {below : List Frame} {meth : Method} {c : Code} {T : State} {locs : List Loc} {cells slots : Nat}
theorem st_fresh (X : Stand p l e R s m args below meth c T locs cells slots) (hc : cells ≤ R.cells) (hs : slots ≤ R.slots) : Stand p l e { R with cells := R.cells - cells, slots := R.slots - slots } (T.setFrames (.invoking m args :: below)) m args below meth c T [] 0 0 := by
  obtain ⟨g0, hfr⟩ := X.frames_eq
  have hcur : T.cur < T.threads.size := State.cur_lt_of_frames hfr
  have hf : (T.setFrames (.invoking m args :: below)).frames = .invoking m args :: below := State.frames_setFrames _ hcur
  have hm : (T.setFrames (.invoking m args :: below)).vm.method? m = some meth := X.method'
  refine ⟨X.admits, X.cas, X.clock, hf, ?_, ?_, hm, X.code, X.here, X.tail, State.WarmedH.refl T, ?_, ?_, ?_⟩
  · refine State.hasRoom_ride (s := s) (r := R) ?_ ?_ ?_ ?_ ?_ ?_ ?_ X.room
    · rw [hf, X.frames]; exact Nat.le_refl _
    · rw [State.localsInUse_invoking hf hm X.code, State.localsInUse_invoking X.frames X.method X.code]; exact Nat.le_refl _
    · rw [State.stackLimits_setFrames, X.limits]
    · rw [State.stackBytes_setFrames, X.bytes]
    · have := X.heapSize
      show T.heap.size + (R.cells - cells) ≤ _
      omega
    · have := X.used
      show T.slotsUsed + (R.slots - slots) ≤ _
      omega
    · exact X.book
  · have h := X.hears
    have hv : (T.setFrames (.invoking m args :: below)).vm = T.vm := rfl
    unfold State.hears at h ⊢
    have hcd : ∀ x, (T.setFrames (.invoking m args :: below)).code? x = s.code? x := fun x => by
      have k : ∀ v : Vm, (do let a ← v.classes[x.cls]?; let b ← a.methods[x.idx]?; b.code) = (v.method? x).bind (·.code) := fun v => by
        unfold Vm.method?
        cases v.classes[x.cls]? <;> rfl
      unfold State.code?
      rw [hv, k, k, X.warmed.alike.method?]
    cases below with
    | nil => simpa [hv, X.warmed.alike.method?] using h
    | cons b r =>
      cases b <;> first | exact h | (simp only [hcd]; exact h) | (simp only [hv, X.warmed.alike.method?]; exact h)
  · rw [State.stackLimits_setFrames]
  · rw [State.stackBytes_setFrames]
  · have h0 : T.heap.toList.drop T.heap.size = [] := List.drop_eq_nil_of_le (by rw [Array.length_toList]; exact Nat.le_refl _)
    refine ⟨?_, Nat.le_refl _, Nat.le_refl _, ?_, ?_, fun a c hc => ⟨c, hc, rfl, rfl, fun _ _ => rfl⟩⟩
    · obtain ⟨t, ht, -⟩ := State.frames_cons hfr
      show T = { (T.setFrames (.invoking m args :: below)).setFrames T.frames with heap := T.heap, slotsUsed := T.slotsUsed }
      rw [State.setFrames_setFrames, State.setFrames_self ht]
    · show T.slotsUsed = T.slotsUsed + ((T.heap.toList.drop T.heap.size).map (·.slots.size)).sum
      rw [h0]; rfl
    · show ((T.heap.toList.drop T.heap.size).map (·.slots.size)).sum ≤ 0
      rw [h0]; exact Nat.le_refl _
end THR
