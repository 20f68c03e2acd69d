/-! A start in whose tables the array class of stack trace elements isn't there doesn't meet the premises: the premise says of that class that it can't be cast to Integer, and of a class that isn't there the word has no value. -/
theorem sn_not_castable {args : Array Value} {s : State} (h : s.vm.findClass "[Ljava/lang/StackTraceElement;" = none) : (Jvm.Cond.not (Jvm.Cond.castable "[Ljava/lang/StackTraceElement;" "java/lang/Integer")).before args s = false := by
  simp [Cond.before, Cond.holds, Cond.value, h]
theorem sn_no_start {args : Array Value} {s : State} (h : s.vm.findClass "[Ljava/lang/StackTraceElement;" = none) : (Jvm.Cond.and given_1 narrow_1).before args s = false := by
  cases hb : (Jvm.Cond.and given_1 narrow_1).before args s with
  | false => rfl
  | true =>
    have h1 := flat_of_before _ hb (Jvm.Cond.not (Jvm.Cond.castable "[Ljava/lang/StackTraceElement;" "java/lang/Integer")) (by decide +kernel)
    rw [sn_not_castable h] at h1
    exact absurd h1 (by decide)
