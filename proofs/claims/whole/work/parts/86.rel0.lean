/-! ===== both new objects agree ===== -/
set_option maxRecDepth 100000 in
theorem rr00 : RR f00 gN 0 ∧ RR f00 gN 64 ∧ RR f00 gN 128 := by
  refine ⟨?_, ?_, ?_⟩ <;> unfold RR <;> decide +kernel
set_option maxRecDepth 100000 in
theorem h00 : ∀ k, k < 16 → hF f00 k = decide (k = 0) := by decide +kernel
set_option maxRecDepth 100000 in
theorem ch00 : ∀ t, t < 16 → ∀ k, k < 16 → chF f00 k (nI t) = false := by decide +kernel
theorem val00 : Val f00 := by
  have h0 : ∀ k, k < 16 → hF f00 k = true → k = 0 := fun k hk h => by rw [h00 k hk] at h; exact of_decide_eq_true h
  have h1 : ∀ k, 0 < k → k < 16 → ¬ f00 (64 + k) = 1 := fun k hp hk h => by
    have := h0 k hk (by unfold hF; exact decide_eq_true h)
    omega
  refine ⟨⟨by decide +kernel, by decide +kernel, by decide +kernel, fun k hp hk h => absurd h (h1 k hp hk)⟩, fun k hk h => ⟨0, ?_⟩, by decide +kernel, fun t ht => ⟨fun k hk h => ?_, fun k l hk hl h => ?_⟩, fun k hk h => ?_⟩
  · obtain rfl := h0 k hk h
    rfl
  · rw [ch00 t ht k hk] at h
    cases h
  · rw [ch00 t ht k hk] at h
    cases h
  · obtain rfl := h0 k hk h
    exact ⟨⟨0, by decide, by decide +kernel⟩, ⟨0, by decide, by decide +kernel⟩⟩
theorem u00_o {o : Nat} (h : o < 3) : u00 (25 + (3 * 0 + o)) = f00 := by
  rcases (show o = 0 ∨ o = 1 ∨ o = 2 by omega) with rfl | rfl | rfl <;> rfl
theorem rel00 : Rel u00 (v00 gN) := by
  refine ⟨⟨⟨fun o ho => ?_, by decide +kernel, by decide +kernel⟩, fun o ho => by rw [u00_o ho]; exact val00, Or.inl rfl, 1, by decide, by decide, rfl, fun o k ho h1 hk => ?_⟩, ⟨0, 0, by decide, by decide, rfl, rfl, rfl, fun i hi => absurd hi (Nat.not_lt_zero i)⟩, ⟨rfl, rfl, rfl⟩, ⟨0, by decide, rfl, rfl, fun k hk => absurd hk (Nat.not_lt_zero k)⟩, Or.inl rfl⟩
  · rw [u00_o ho, v00_1]
    rcases (show o = 0 ∨ o = 1 ∨ o = 2 by omega) with rfl | rfl | rfl
    · exact rr00.1
    · exact rr00.2.1
    · exact rr00.2.2
  · rw [u00_o ho, h00 k hk]
    exact decide_eq_false (by omega)
