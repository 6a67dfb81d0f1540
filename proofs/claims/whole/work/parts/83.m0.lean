noncomputable section
theorem inv0 : Inv M0 := by
  have z : ∀ a b : Int, ¬ (a = 601 ∧ b = 2) → ¬ (a = 608 ∧ (b = 10 ∨ b = 14)) → M0 a b = 0 := fun a b h1 h2 => by unfold M0; rw [if_neg (by omega)]
  have hA : AOk (M0 609) := by
    refine ⟨?_, ?_, fun y y0 y1 => ?_, fun y y0 y1 => ?_⟩
    · rw [z 609 0 (by omega) (by omega)]; omega
    · rw [z 609 1 (by omega) (by omega)]; omega
    · rw [z 609 0 (by omega) (by omega)] at y1; omega
    · rw [z 609 1 (by omega) (by omega)] at y1; omega
  refine ⟨⟨hA, ?_⟩, ?_, ?_, ?_, ?_⟩
  · refine ⟨?_, ?_, fun y y0 y1 => ?_, fun y y0 y1 => ?_⟩
    · rw [z 1 0 (by omega) (by omega), z 609 0 (by omega) (by omega)]
    · rw [z 1 1 (by omega) (by omega), z 609 1 (by omega) (by omega)]
    · rw [z 609 0 (by omega) (by omega)] at y1; omega
    · rw [z 609 1 (by omega) (by omega)] at y1; omega
  · refine ⟨fun y y0 y1 => ?_, fun y y0 y1 _ => ?_, fun y y0 y1 => ?_, fun y y0 y1 => ?_⟩
    · rw [z _ _ (by omega) (by omega)]; exact ⟨by omega, by omega⟩
    · rw [z 609 0 (by omega) (by omega)] at y1; omega
    · rw [z _ _ (by omega) (by omega), z _ _ (by omega) (by omega)]; exact ⟨⟨by omega, by omega⟩, ⟨by omega, by omega⟩⟩
    · rw [z 609 1 (by omega) (by omega)] at y1; omega
  · refine ⟨?_, fun y y0 y1 => ?_⟩
    · show rg (M0 608 14)
      unfold M0; rw [if_pos (by omega)]; exact ⟨by omega, by omega⟩
    · rw [z 609 0 (by omega) (by omega)] at y1; omega
  · refine ⟨?_, fun i i0 i1 => ?_, ?_, fun q => ?_⟩
    · rw [z 48 0 (by omega) (by omega), z 608 3 (by omega) (by omega), z 48 3 (by omega) (by omega)]; omega
    · rw [z 48 0 (by omega) (by omega)] at i1; omega
    · rw [z 48 1 (by omega) (by omega), z 608 5 (by omega) (by omega)]; exact ⟨⟨by omega, by omega⟩, ⟨by omega, by omega⟩, Iff.rfl⟩
    · exact absurd (z 48 1 (by omega) (by omega)) q
  · refine ⟨?_, fun i i0 i1 => ?_, ?_, ?_, fun i i0 i1 => ?_⟩
    · rw [z 601 0 (by omega) (by omega), z 608 8 (by omega) (by omega)]; omega
    · rw [z 601 0 (by omega) (by omega)] at i1; omega
    · have e1 : M0 601 2 = -1 := by unfold M0; rw [if_pos (by omega)]
      have e2 : M0 608 10 = -1 := by unfold M0; rw [if_pos (by omega)]
      rw [e1, e2]; exact ⟨rfl, by omega, by omega⟩
    · rw [z 604 0 (by omega) (by omega), z 608 12 (by omega) (by omega)]; omega
    · rw [z 604 0 (by omega) (by omega)] at i1; omega
end
