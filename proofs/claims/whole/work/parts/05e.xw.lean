/-! OWN: words that ride on the tables but aren't 'good': carried with the world -/
def xw_tab : List Cond := [.castable "java/util/NoSuchElementException" "java/util/NoSuchElementException", .castable "java/lang/IllegalArgumentException" "java/lang/IllegalArgumentException", .declares (Bundle.initS "java/lang/RuntimeException"), .declares (Bundle.initS "java/lang/Exception"), .declares (Bundle.initS Bundle.tN)]
theorem xw_on : ∀ w ∈ xw_tab, w.onTables = true := by
  intro w hw
  simp only [xw_tab, List.mem_cons, List.not_mem_nil, or_false] at hw
  rcases hw with rfl | rfl | rfl | rfl | rfl <;> rfl
theorem xw_cast {a b : String} {s U : State} (hvm : s.vm.Alike U.vm) (h : va_Nw (.castable a b) s) : va_Nw (.castable a b) U := by
  unfold va_Nw at h ⊢
  simp only [Cond.before, Cond.holds, Cond.value] at h ⊢
  rw [hvm.findClass, hvm.findClass]
  cases ha : s.vm.findClass a with
  | none => simp [ha] at h
  | some x =>
    cases hb : s.vm.findClass b with
    | none => simp [ha, hb] at h
    | some y =>
      simp only [ha, hb] at h ⊢
      rw [hvm.assignable]; exact h
theorem xw_decl {x : MethodName} {s U : State} (hvm : s.vm.Alike U.vm) (h : va_Nw (.declares x) s) : va_Nw (.declares x) U := by
  have h1 : (Cond.declares x).before #[] (s.setVm U.vm) = true := by
    rw [Cond.declares_setVm hvm]
    exact h
  exact va_tabs rfl (rfl : (s.setVm U.vm).vm = U.vm) h1
theorem xw_warm {s U : State} (hW : s.WarmedH U.vm) : ∀ w ∈ xw_tab, va_Nw w s → va_Nw w U := by
  intro w hw h
  simp only [xw_tab, List.mem_cons, List.not_mem_nil, or_false] at hw
  rcases hw with rfl | rfl | rfl | rfl | rfl
  · exact xw_cast hW.alike h
  · exact xw_cast hW.alike h
  · exact xw_decl hW.alike h
  · exact xw_decl hW.alike h
  · exact xw_decl hW.alike h
