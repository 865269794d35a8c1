section
/-! evidence for REPORT.md, T1: whoever meets the premises has a class of the name "[Ljava/lang/StackTraceElement;" -/
theorem tg_l {args : Array Value} {s : State} {A B : Cond} (h : (Cond.and A B).before args s = true) : A.before args s = true := by
  rw [Cond.before_and, Bool.and_eq_true] at h
  exact h.1
theorem tg_r {args : Array Value} {s : State} {A B : Cond} (h : (Cond.and A B).before args s = true) : B.before args s = true := by
  rw [Cond.before_and, Bool.and_eq_true] at h
  exact h.2
theorem tg_pair {args : Array Value} {s : State} (h : (Cond.and given_1 narrow_1).before args s = true) :
    (Cond.not (Cond.castable "[Ljava/lang/StackTraceElement;" "java/lang/String")).before args s = true :=
  (tg_l (tg_r (tg_r (tg_l (tg_r (tg_r (tg_l (tg_l (tg_r (tg_l (tg_r h)))))))))))
theorem tg_laid {args : Array Value} {s : State} (h : (Cond.and given_1 narrow_1).before args s = true) :
    ∃ c, s.vm.findClass "[Ljava/lang/StackTraceElement;" = some c := by
  have h1 := tg_pair h
  cases hc : s.vm.findClass "[Ljava/lang/StackTraceElement;" with
  | some c => exact ⟨c, rfl⟩
  | none => simp [Cond.before, Cond.holds, Cond.value, hc] at h1
theorem tg_none {args : Array Value} {s : State} (hn : s.vm.findClass "[Ljava/lang/StackTraceElement;" = none) :
    (Cond.and given_1 narrow_1).before args s = false := by
  cases h : (Cond.and given_1 narrow_1).before args s with
  | false => rfl
  | true =>
    obtain ⟨c, hc⟩ := tg_laid h
    rw [hn] at hc
    exact absurd hc (by simp)
end
