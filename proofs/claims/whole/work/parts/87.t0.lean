/-! the words of the exceptions, at the start -/
def xi1 : Cond := .isRef (.static "java/lang/Throwable" "UNASSIGNED_STACK" "[Ljava/lang/StackTraceElement;")
def xi2 : Cond := .isRef (.static "java/lang/Throwable" "SUPPRESSED_SENTINEL" "Ljava/util/List;")
theorem xm1 : (Jvm.Bundle.ownAtoms "EventRecorder" 97 xA xn).all (fun w => decide (w ∈ tables_1) || decide (w = xi1) || decide (w = xi2)) = true := by decide +kernel
theorem xm2 : (Jvm.Bundle.ownAtoms "EventRecorder" 107 xS xn).all (fun w => decide (w ∈ tables_1) || decide (w = xi1) || decide (w = xi2)) = true := by decide +kernel
theorem xm3 : xTx.all (fun q => decide (Cond.stringRef "EventRecorder" q.1 q.2 ∈ tables_1)) = true := by decide +kernel
theorem mw_T0 {s : State} (h : ∀ w ∈ tables_1, w.before #[] s = true) (h1 : xi1.before #[] s = true) (h2 : xi2.before #[] s = true) : mw_T s := by
  have k : ∀ (L : List Cond), L.all (fun w => decide (w ∈ tables_1) || decide (w = xi1) || decide (w = xi2)) = true → ∀ w ∈ L, w.before #[] s = true := by
    intro L hL w hw
    have := List.all_eq_true.mp hL w hw
    simp only [Bool.or_eq_true, decide_eq_true_eq] at this
    rcases this with (q | q) | q
    · exact h w q
    · rw [q]; exact h1
    · rw [q]; exact h2
  refine ⟨k _ xm1, k _ xm2, fun q hq => ?_⟩
  have := List.all_eq_true.mp xm3 q hq
  exact h _ (of_decide_eq_true this)
