/-- the whole, as functions of numbers -/
theorem am_law_of (h : ∀ (L : Nat) (xs : Nat → Int), L ≤ 3072 → (∀ j, am_R (xs j)) → ∃ M : am_M, BlazedPathLaw_law_999_n0 L xs (fun _ _ => 0) = some (1, M)) : am_LAW := by
  intro L xs hL hx
  obtain ⟨M, hM⟩ := h L xs hL hx
  obtain ⟨n, hn⟩ := BlazedPathLaw_law_999_n0_e (L := L) (xs := xs) (d := 100) (by omega) (fun _ _ => 0) (1, M) hM
  exact ⟨n, _, M, hn⟩
