/-! PURE: the beginning -/
def js_S0 : js_S := (fun _ _ => 0, fun _ _ => 0)
theorem pv_R0 : pv_R js_S0 js_S0 := by
  have hB : pv_B (fun _ => 0) := ⟨by decide, by decide, by decide, fun _ _ => Nat.zero_le _, fun _ _ => Nat.zero_le _, fun _ _ => Nat.zero_le _, fun _ _ => Nat.zero_le _⟩
  have hC : ∀ o, pv_C (fun _ => 0) js_S0 o := fun o => ⟨rfl, rfl, rfl, fun _ _ => rfl, fun _ _ => rfl, fun _ _ => rfl, fun _ _ => rfl⟩
  have hM : ∀ c, pv_M (fun _ => 0) js_S0 c := fun c _ _ => rfl
  exact ⟨⟨_, hB, by decide, hC 1, hM 1⟩, ⟨_, hB, by decide, hC 6, hM 2⟩, rfl, Or.inl rfl, fun _ _ => rfl, ⟨0, by decide, rfl, rfl⟩, ⟨fun _ => 0, fun _ => (show 0 < 256 by decide), fun _ _ => ⟨rfl, rfl⟩⟩, ⟨fun _ => 0, fun _ => 0, fun _ _ => ⟨Nat.zero_le _, Or.inl rfl⟩, fun _ _ => ⟨rfl, rfl, rfl, rfl⟩⟩, fun _ _ => rfl⟩
