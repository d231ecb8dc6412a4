/-! what the tables say at the start -/
theorem sw_pa {args : Array Value} {s : State} {ty : FieldType} (hra : ∀ cA, va_RA s cA ty = (s.vm.findClass ("[" ++ ty.toString) = some cA)) (h : (Cond.arrayClass ty).before args s = true) : ∃ cA, ArrOfT s cA ty ∧ va_RA s cA ty := by
  obtain ⟨c, k, comp, h1, h2, h3⟩ := Cond.arrayClass_spec h
  exact ⟨c, fun n z => ⟨fun k h => (by cases h), k, h2, comp, h3⟩, by rw [hra]; exact h1⟩
theorem sw_qa {args : Array Value} {s : State} {C : String} (h : (Cond.arrayOver (.object C)).before args s = true) : ∃ cA, ArrOfT s cA (.object C) ∧ va_RA s cA (.object C) := by
  obtain ⟨comp, c, k, h1, h2, h3, h4, h5⟩ := Cond.arrayOver_spec h
  exact ⟨c, fun n z => ⟨fun k h => (by cases h), k, h3, comp, h4⟩, ⟨k, comp, h3, h4, h1, h5⟩⟩
set_option maxHeartbeats 4000000 in
set_option maxRecDepth 100000 in
theorem sw_D {args : Array Value} {s : State} (htb : ∀ w ∈ lw_tbl, w.before args s = true) : ∃ D : va_G, ∀ (c : Nat) (q : vw_C), vwCl[c]? = some q → u_Kn s q.1 q.2.1 q.2.2 (D.1 c) (D.2 c) := by
  have hts : ∀ w ∈ lw_good, w.before args s = true := fun w h => htb w (List.mem_filter.mp h).1
  have hD : ∀ ci : Nat, ∃ x : ClassId × (Nat → Nat), ∀ q : vw_C, vwCl[ci]? = some q → u_Kn s q.1 q.2.1 q.2.2 x.1 x.2 := fun ci => by
    rcases (show ci = 0 ∨ ci = 1 ∨ ci = 2 ∨ ci = 3 ∨ ci = 4 ∨ ci = 5 ∨ ci = 6 ∨ ci = 7 ∨ ci = 8 ∨ ci = 9 ∨ 10 ≤ ci by omega) with rfl | rfl | rfl | rfl | rfl | rfl | rfl | rfl | rfl | rfl | hge
    · obtain ⟨cC, iS, h⟩ := u_known (n := 2) hts inX0 (htb _ (List.mem_append_right _ (List.mem_of_getElem? (l := tables_1) (i := 70) (by decide +kernel))))
      exact ⟨(cC, iS), fun q hq => by cases hq; exact h⟩
    · obtain ⟨cC, iS, h⟩ := u_known (n := 5) hts inX1 (htb _ (List.mem_append_right _ (List.mem_of_getElem? (l := tables_1) (i := 151) (by decide +kernel))))
      exact ⟨(cC, iS), fun q hq => by cases hq; exact h⟩
    · obtain ⟨cC, iS, h⟩ := u_known (n := 3) hts inX2 (htb _ (List.mem_append_right _ (List.mem_of_getElem? (l := tables_1) (i := 144) (by decide +kernel))))
      exact ⟨(cC, iS), fun q hq => by cases hq; exact h⟩
    · obtain ⟨cC, iS, h⟩ := u_known (n := 5) hts inX3 (htb _ (List.mem_append_right _ (List.mem_of_getElem? (l := tables_1) (i := 64) (by decide +kernel))))
      exact ⟨(cC, iS), fun q hq => by cases hq; exact h⟩
    · obtain ⟨cC, iS, h⟩ := u_known (n := 3) hts inX4 (htb _ (List.mem_append_right _ (List.mem_of_getElem? (l := tables_1) (i := 125) (by decide +kernel))))
      exact ⟨(cC, iS), fun q hq => by cases hq; exact h⟩
    · obtain ⟨cC, iS, h⟩ := u_known (n := 5) hts inX5 (htb _ (List.mem_append_right _ (List.mem_of_getElem? (l := tables_1) (i := 101) (by decide +kernel))))
      exact ⟨(cC, iS), fun q hq => by cases hq; exact h⟩
    · obtain ⟨cC, iS, h⟩ := u_known (n := 3) hts inX6 (htb _ (List.mem_append_right _ (List.mem_of_getElem? (l := tables_1) (i := 46) (by decide +kernel))))
      exact ⟨(cC, iS), fun q hq => by cases hq; exact h⟩
    · obtain ⟨cC, iS, h⟩ := u_known (n := 2) hts inX7 (htb _ (List.mem_append_right _ (List.mem_of_getElem? (l := tables_1) (i := 32) (by decide +kernel))))
      exact ⟨(cC, iS), fun q hq => by cases hq; exact h⟩
    · obtain ⟨cC, iS, h⟩ := u_known (n := 14) hts inX8 (htb _ (List.mem_append_right _ (List.mem_of_getElem? (l := tables_1) (i := 18) (by decide +kernel))))
      exact ⟨(cC, iS), fun q hq => by cases hq; exact h⟩
    · obtain ⟨cC, iS, h⟩ := u_known (n := 39) hts inX9 (htb _ (List.mem_append_right _ (List.mem_of_getElem? (l := tables_1) (i := 718) (by decide +kernel))))
      exact ⟨(cC, iS), fun q hq => by cases hq; exact h⟩
    · exact ⟨(0, fun _ => 0), fun q hq => absurd (List.getElem?_eq_some_iff.mp hq).1 (by show ¬ ci < 10; omega)⟩
  obtain ⟨f, hf⟩ := Classical.axiomOfChoice hD
  exact ⟨(fun c => (f c).1, fun c => (f c).2), hf⟩
set_option maxHeartbeats 4000000 in
set_option maxRecDepth 100000 in
theorem sw_G {args : Array Value} {s : State} (htb : ∀ w ∈ lw_tbl, w.before args s = true) : ∃ G : Nat → ClassId, ∀ (k : Nat) (q : ClassId × FieldType), (mw_tys G)[k]? = some q → ArrOfT s q.1 q.2 ∧ va_RA s q.1 q.2 := by
  obtain ⟨g0, h0⟩ := sw_pa (fun _ => rfl) (show (Cond.arrayClass .int).before args s = true from (htb _ (List.mem_append_right _ (List.mem_of_getElem? (l := tables_1) (i := 61) (by decide +kernel)))))
  obtain ⟨g1, h1⟩ := sw_pa (fun _ => rfl) (show (Cond.arrayClass .byte).before args s = true from (htb _ (List.mem_append_right _ (List.mem_of_getElem? (l := tables_1) (i := 82) (by decide +kernel)))))
  obtain ⟨g2, h2⟩ := sw_pa (fun _ => rfl) (show (Cond.arrayClass .char).before args s = true from (htb _ (List.mem_append_right _ (List.mem_of_getElem? (l := tables_1) (i := 44) (by decide +kernel)))))
  obtain ⟨g3, h3⟩ := sw_pa (fun _ => rfl) (show (Cond.arrayClass .boolean).before args s = true from (htb _ (List.mem_append_right _ (List.mem_of_getElem? (l := tables_1) (i := 123) (by decide +kernel)))))
  obtain ⟨g4, h4⟩ := sw_qa (show (Cond.arrayOver (.object "EventRecorder$EventThread")).before args s = true from (htb _ (List.mem_append_right _ (List.mem_of_getElem? (l := tables_1) (i := 63) (by decide +kernel)))))
  obtain ⟨g5, h5⟩ := sw_qa (show (Cond.arrayOver (.object "EventRecorder$Recording")).before args s = true from (htb _ (List.mem_append_right _ (List.mem_of_getElem? (l := tables_1) (i := 100) (by decide +kernel)))))
  obtain ⟨g6, h6⟩ := sw_qa (show (Cond.arrayOver (.object "EventRecorder$ByteRow")).before args s = true from (htb _ (List.mem_append_right _ (List.mem_of_getElem? (l := tables_1) (i := 131) (by decide +kernel)))))
  obtain ⟨g7, h7⟩ := sw_qa (show (Cond.arrayOver (.object "EventRecorder$Chunk")).before args s = true from (htb _ (List.mem_append_right _ (List.mem_of_getElem? (l := tables_1) (i := 150) (by decide +kernel)))))
  obtain ⟨g8, h8⟩ := sw_pa (fun _ => rfl) (show (Cond.arrayClass .long).before args s = true from (htb _ (List.mem_append_right _ (List.mem_of_getElem? (l := tables_1) (i := 1006) (by decide +kernel)))))
  refine ⟨fun k => if k = 0 then g0 else if k = 1 then g1 else if k = 2 then g2 else if k = 3 then g3 else if k = 4 then g4 else if k = 5 then g5 else if k = 6 then g6 else if k = 7 then g7 else g8, fun k q hq => ?_⟩
  rcases (show k = 0 ∨ k = 1 ∨ k = 2 ∨ k = 3 ∨ k = 4 ∨ k = 5 ∨ k = 6 ∨ k = 7 ∨ k = 8 ∨ 9 ≤ k by omega) with rfl | rfl | rfl | rfl | rfl | rfl | rfl | rfl | rfl | hge
  · cases hq; exact h0
  · cases hq; exact h1
  · cases hq; exact h2
  · cases hq; exact h3
  · cases hq; exact h4
  · cases hq; exact h5
  · cases hq; exact h6
  · cases hq; exact h7
  · cases hq; exact h8
  · exact absurd (List.getElem?_eq_some_iff.mp hq).1 (by show ¬ k < 9; omega)
theorem sw_K {args : Array Value} {s : State} (htb : ∀ w ∈ lw_tbl, w.before args s = true) : ∃ D G, mw_K D vwCl (mw_tys G) mw_aos s := by
  obtain ⟨D, hD⟩ := sw_D htb
  obtain ⟨G, hG⟩ := sw_G htb
  refine ⟨D, G, ⟨hD, hG⟩, fun C hC => ?_⟩
  have hC2 : C = "EventRecorder$EventThread" ∨ C = "EventRecorder$Recording" ∨ C = "EventRecorder$ByteRow" ∨ C = "EventRecorder$Chunk" := by simpa [mw_aos] using hC
  rcases hC2 with rfl | rfl | rfl | rfl
  · exact va_AO.of (htb _ (List.mem_append_right _ (List.mem_of_getElem? (l := tables_1) (i := 63) (by decide +kernel))))
  · exact va_AO.of (htb _ (List.mem_append_right _ (List.mem_of_getElem? (l := tables_1) (i := 100) (by decide +kernel))))
  · exact va_AO.of (htb _ (List.mem_append_right _ (List.mem_of_getElem? (l := tables_1) (i := 131) (by decide +kernel))))
  · exact va_AO.of (htb _ (List.mem_append_right _ (List.mem_of_getElem? (l := tables_1) (i := 150) (by decide +kernel))))
theorem sw_X {args : Array Value} {s : State} (htb : ∀ w ∈ lw_tbl, w.before args s = true) (hno : (Cond.not (.castable xS xA)).before args s = true) : mw_X s := by
  obtain ⟨cA, kA, hcA, -⟩ := Cond.instantiable_spec (show (Cond.instantiable xA 6).holds args s none s [] = true from (htb _ (List.mem_append_right _ (List.mem_of_getElem? (l := tables_1) (i := 543) (by decide +kernel)))))
  obtain ⟨cS, kS, hcS, -⟩ := Cond.instantiable_spec (show (Cond.instantiable xS 6).holds args s none s [] = true from (htb _ (List.mem_append_right _ (List.mem_of_getElem? (l := tables_1) (i := 609) (by decide +kernel)))))
  have hv := Cond.holds_not_iff.mp hno
  simp only [Cond.value, hcA, hcS] at hv
  exact ⟨cS, cA, hcS, hcA, Option.some.inj hv⟩
theorem sw_T {args : Array Value} {s : State} (htb : ∀ w ∈ lw_tbl, w.before args s = true) (h1 : xi1.before args s = true) (h2 : xi2.before args s = true) : mw_T s := by
  have h : ∀ w ∈ tables_1, w.before args s = true := fun w hw => htb w (List.mem_append_right _ hw)
  have k : ∀ (L : List Cond), L.all (fun w => decide (w ∈ tables_1) || decide (w = xi1) || decide (w = xi2)) = true → ∀ w ∈ L, w.before args s = true := by
    intro L hL w hw
    have := List.all_eq_true.mp hL w hw
    simp only [Bool.or_eq_true, decide_eq_true_eq] at this
    rcases this with (q | q) | q
    · exact h w q
    · rw [q]; exact h1
    · rw [q]; exact h2
  refine ⟨kp_all (State.WarmedH.refl s) (fun _ _ h _ => h) xr1 (k _ xm1), kp_all (State.WarmedH.refl s) (fun _ _ h _ => h) xr2 (k _ xm2), fun q hq => ?_⟩
  have h9 : (Cond.stringRef "EventRecorder" q.1 q.2).before args s = true := h _ (of_decide_eq_true (List.all_eq_true.mp xm3 q hq))
  exact h9
