/-! ===== the first memories belong together ===== -/
theorem pz_in_if {b : Bool} {x y : Int} (hx : pz_in x) (hy : pz_in y) : pz_in (bif b then x else y) := by
  cases b
  · exact hy
  · exact hx
theorem pz_in0 : pz_in 0 := by unfold pz_in; decide +kernel
theorem pz_in1 : pz_in 1 := by unfold pz_in; decide +kernel
theorem m0X_in : ∀ k i, pz_in (m0X k i) := fun k i => pz_in_if (pz_in_if pz_in1 pz_in0) (pz_in_if (pz_in_if pz_in1 (pz_in_if (by unfold pz_in; decide +kernel) (pz_in_if (by unfold pz_in; decide +kernel) (pz_in_if (by unfold pz_in; decide +kernel) pz_in0)))) (pz_in_if (pz_in_if (by unfold pz_in; decide +kernel) (pz_in_if (by unfold pz_in; decide +kernel) pz_in0)) pz_in0))
theorem n0Y_in : ∀ k i, pz_in (n0Y k i) := fun k i => pz_in_if (pz_in_if pz_in1 pz_in0) pz_in0
theorem rl_first : rl m0X n0Y := by
  refine ⟨⟨rfl, by decide, by decide, fun i _ => ⟨by show (-128 : Int) ≤ 0; omega, by show (0 : Int) ≤ 127; omega, rfl⟩⟩, ⟨1, 0, ⟨Or.inl rfl, rfl, rfl, rfl, rfl, by omega, rfl, fun c h => absurd h (Nat.not_lt_zero c)⟩, ⟨fun c h => absurd h (Nat.not_lt_zero c), ?_, rfl, by decide, by decide, rfl, by decide, by decide⟩, fun q _ => rfl⟩, ⟨rfl, Or.inl rfl⟩, ⟨13, 0, Or.inl rfl, rfl, rfl, rfl, rfl, by omega, by decide, by decide, fun r h => absurd h (Nat.not_lt_zero r)⟩, Or.inl ⟨rfl, rfl⟩⟩
  decide
