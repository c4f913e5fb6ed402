/-! THE START (pure): the relation holds behind the constructors; a first load() -/
theorem fr_unl : unl IA0 IA0 := by
  refine ⟨by decide +kernel, by decide +kernel, ?_, ?_, ?_, ?_, ?_⟩ <;> exact ⟨by decide +kernel, Nat.zero_le _, fun i hi => by cases hi⟩
theorem fr_tape : tapeR IA0 IA0 [] := ⟨⟨by decide +kernel, Nat.zero_le _, fun i hi => by cases hi⟩, Nat.zero_le _, by decide +kernel, fun i hi => by cases hi⟩
theorem fr_fault : faultR IA0 IA0 := ⟨by decide +kernel, by decide +kernel⟩
theorem fr_out : outR IA0 IA0 [] := ⟨⟨by decide +kernel, Nat.zero_le _, fun i hi => by cases hi⟩, Nat.zero_le _, by decide +kernel, fun i hi => by cases hi⟩
theorem fr_load1 : (mX11_load IA0 FA0).map (fun q => q.1) = some (-1) := by decide +kernel
theorem fr_load2 : (mX12_load IA0 J00).map (fun q => q.1) = some (-1) := by decide +kernel
