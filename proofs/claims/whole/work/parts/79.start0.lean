/-! ===== the law's entry ===== -/
section START0
variable {args : Array Value} {s : State}
theorem st_int (h : (Cond.arrayClass .int).before args s = true) : ∃ (cA : ClassId) (kA : Class) (comp : ClassId), s.vm.findClass ("[" ++ (FieldType.int).toString) = some cA ∧ s.vm.classes[cA]? = some kA ∧ kA.kind = .array comp .int := Cond.arrayClass_spec h
theorem st_obj {C : String} (h : (Cond.arrayOver (.object C)).before args s = true) : ∃ cA : ClassId, ArrOfT s cA (.object C) ∧ va_RA s cA (.object C) := by
  obtain ⟨comp, cA, kA, h1, h2, h3, h4, h5⟩ := Cond.arrayOver_spec h
  exact ⟨cA, fun n z => ⟨fun k h => (by cases h), kA, h3, comp, h4⟩, kA, comp, h3, h4, h1, h5⟩
end START0
