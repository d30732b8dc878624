/-! What the statement's own premises ask of a start: a class of the name "[Ljava/lang/StackTraceElement;" is loaded there (REPORT.md, T2). -/
theorem tt_right {args : Array Value} {s : State} {A B : Jvm.Cond} (h : (Jvm.Cond.and A B).before args s = true) : B.before args s = true := by
  rw [Jvm.Cond.before_and, Bool.and_eq_true] at h
  exact h.2
theorem tt_left {args : Array Value} {s : State} {A B : Jvm.Cond} (h : (Jvm.Cond.and A B).before args s = true) : A.before args s = true := by
  rw [Jvm.Cond.before_and, Bool.and_eq_true] at h
  exact h.1
theorem tt_premise {args : Array Value} {s : State} (h : narrow_1.before args s = true) :
    (Jvm.Cond.not (Jvm.Cond.castable "[Ljava/lang/StackTraceElement;" "java/lang/String")).before args s = true :=
  tt_left (tt_right (tt_right (tt_right (tt_left (tt_left (tt_left (tt_left (tt_right h))))))))
theorem tt_class {args : Array Value} {s : State} (h : narrow_1.before args s = true) :
    s.vm.findClass "[Ljava/lang/StackTraceElement;" ≠ none := by
  have h1 := tt_premise h
  intro hq
  simp [Jvm.Cond.before, Jvm.Cond.holds, Jvm.Cond.value, hq] at h1
/-- so no start whose tables have no class of that name meets the premises -/
theorem tt_falls {args : Array Value} {s : State} (hn : ∀ k ∈ s.vm.classes, k.name ≠ "[Ljava/lang/StackTraceElement;") :
    (Jvm.Cond.and given_1 narrow_1).before args s = false := by
  cases hb : (Jvm.Cond.and given_1 narrow_1).before args s with
  | false => rfl
  | true =>
    refine absurd ?_ (tt_class (tt_right hb))
    unfold Jvm.Vm.findClass
    rw [Array.findIdx?_eq_none_iff]
    intro k hk
    simp [hn k hk]
