/-! ===== the relation at the start ===== -/
theorem Inw_0 : Inw XI0 A0 L0 MI0 A0 L0 := by
  have nb : ∀ i, i < 32 → ∀ q : Prop, ∀ [Decidable q], ¬ q → bt 0 i = decide q := fun i _ q _ h => by rw [b_0]; simp [h]
  refine ⟨0, 0, ⟨rfl, rfl, rfl, rfl, rfl, rfl, rfl, rfl, rfl, rfl, rfl, rfl⟩, ?_, ?_, ?_, ?_, ⟨rfl, rfl⟩, Or.inl ⟨rfl, rfl, rfl⟩, Or.inl ⟨rfl, rfl, rfl⟩, ⟨0, by omega, rfl, rfl, fun k p hk => absurd hk (by omega)⟩, ⟨0, by omega, rfl, rfl, fun k p hk => absurd hk (by omega)⟩, ⟨0, by omega, rfl, rfl, fun k hk => absurd hk (by omega)⟩⟩
  · refine ⟨⟨by omega, by omega⟩, fun p hp => absurd hp (by omega), fun s hs => absurd hs (by omega), fun i _ => ⟨0, by omega, rfl⟩, fun i _ => ⟨0, by omega, rfl⟩, fun i _ => ⟨0, by omega, rfl⟩, fun i _ => Or.inl rfl, fun i _ => ⟨0, by omega, rfl⟩, fun i _ => ⟨0, by omega, rfl⟩, fun s p _ _ _ => ⟨rfl, rfl, rfl, rfl⟩, fun s p hs => absurd hs (by omega), fun s _ i hi => nb i hi _ (fun q => q.2 rfl), fun s _ i hi => nb i hi _ (fun q => q.2 rfl), fun s _ i hi => nb i hi _ (fun q => q.2.elim (fun w => w rfl) (fun w => w.elim (fun w => w rfl) (fun w => w rfl))), rfl⟩
  · exact fun p _ => ⟨rfl, 0, rfl, by omega, fun _ => ⟨rfl, rfl⟩, fun hp => absurd hp (by omega)⟩
  · exact ⟨0, 0, 0, by omega, by omega, by omega, rfl, rfl, rfl, rfl, fun k hk => absurd hk (by omega)⟩
  · exact ⟨0, 0, by omega, by omega, rfl, rfl, rfl, rfl, fun _ _ => rfl, fun i hi => absurd hi (by omega)⟩
