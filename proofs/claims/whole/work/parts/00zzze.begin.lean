-- how both stand when they have just been made
section S_BG
variable {σ : Nat → Nat → Int}
theorem GV.begin (h2 : σ 0 2 = 4) (h3 : σ 0 3 = 23) (h38 : σ 758 38 = -1) (hz : ∀ c j, ¬ (c = 0 ∧ (j = 2 ∨ j = 3)) → ¬ (c = 2 ∧ j = 4) → ¬ (c = 758 ∧ j = 38) → σ c j = 0) : GV σ 0 := by
  have z : ∀ c j, ¬ (c = 0 ∧ (j = 2 ∨ j = 3)) → ¬ (c = 2 ∧ j = 4) → ¬ (c = 758 ∧ j = 38) → σ c j = 0 := hz
  have l : σ 758 2 = 0 := z 758 2 (by omega) (by omega) (by omega)
  have a : (σ 0 2).toNat = 4 := by omega
  refine ⟨⟨0, fun _ _ => (0, 0, 0, 0, 0), fun _ => 0, Or.inl ⟨h2, h3⟩, ⟨(z 2 1 (by omega) (by omega) (by omega)).trans l.symm, by omega, by omega, fun j hj => by omega⟩, ⟨z 0 5 (by omega) (by omega) (by omega), z 758 30 (by omega) (by omega) (by omega), by omega, fun v hv => by omega⟩, ?_, ?_, h38, ?_, fun i hi => ?_⟩, Or.inl ?_⟩
  · have := z 220 1 (by omega) (by omega) (by omega)
    omega
  · have := z 758 35 (by omega) (by omega) (by omega)
    omega
  · have := z 758 39 (by omega) (by omega) (by omega)
    omega
  · rw [z 757 i (by omega) (by omega) (by omega), z 768 i (by omega) (by omega) (by omega)]
  · unfold UV
    rw [a]
    exact ⟨⟨z 4 0 (by omega) (by omega) (by omega), z 4 1 (by omega) (by omega) (by omega), z 4 2 (by omega) (by omega) (by omega)⟩, ⟨z 173 3 (by omega) (by omega) (by omega), z 173 4 (by omega) (by omega) (by omega), z 220 2 (by omega) (by omega) (by omega), z 0 9 (by omega) (by omega) (by omega)⟩, z 758 21 (by omega) (by omega) (by omega), z 758 23 (by omega) (by omega) (by omega), z 758 36 (by omega) (by omega) (by omega), z 758 37 (by omega) (by omega) (by omega), z 776 44 (by omega) (by omega) (by omega), z 776 75 (by omega) (by omega) (by omega)⟩
end S_BG
