section
/-- the statement's premise is false at every state in whose tables no class of this name stands (the words 'not castable' are worth nothing there): so at the printed witness, which lays none -/
theorem sx_absent (args : Array Value) (s : State) (h : s.vm.findClass "[Ljava/lang/StackTraceElement;" = none) : (Jvm.Cond.and given_1 narrow_1).before args s = false := by
  cases hb : (Jvm.Cond.and given_1 narrow_1).before args s with
  | false => rfl
  | true =>
    have hs := flat_of_before _ hb
    have hc : (Jvm.Cond.not (Jvm.Cond.castable "[Ljava/lang/StackTraceElement;" "java/lang/Integer")).before args s = true := hs _ (by decide +kernel)
    simp [Jvm.Cond.before, Jvm.Cond.holds, Jvm.Cond.value, h] at hc
end
