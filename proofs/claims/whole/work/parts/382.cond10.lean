-- the law read: conditions, both ends
theorem cf_s {g : am_M} {n p : Int} {vs : List SX} (hg : WG g) (hn : 1 ≤ n ∧ n ≤ 240) (hp : 0 ≤ p ∧ p ≤ n) : ((cfin g n false p vs [40]).1 < 0 ∧ -7000 ≤ (cfin g n false p vs [40]).1) ∨ ∃ (p' : Int) (x : SX), cfin g n false p vs [40] = (0, p', x :: vs, []) ∧ XO x ∧ x.2.2.1 = true ∧ x.2.1 ≤ 20 ∧ p < p' ∧ p' ≤ n := by
  obtain ⟨h1, h2⟩ := mk0_X g n p
  obtain ⟨N, a1, a2, p1, s1, bad, b1, b2, b3, b4⟩ := cho_al hg hn p vs [40] 0 _ rfl rfl hp (by omega) h1 h2
  rcases b4 with ⟨z1, z2, z3⟩ | ⟨z1, x, z2, z3, z4, z5, z6, z7, z8, z9, z10⟩
  · exact Or.inl (by rw [z3]; exact ⟨z1, z2⟩)
  · have hp2 := z6.2 rfl
    have hfe := cf_e (g := g) (beh := true) (p := p1) (vs := x :: vs) (ops := [40]) hn.2 (by omega) z7
    unfold cB at hfe
    rw [if_pos rfl, if_neg z10.1, if_neg z10.2, jo_n (by show ¬ ((40 : Int) = 38 ∨ (true = true ∧ (40 : Int) = 124)); decide)] at hfe
    have z9' : cfin g n false p vs [40] = cfin g n true p1 (x :: vs) [40] := z9
    by_cases q : taS g n p1 = 41
    · have hpn := ta_n (g := g) (n := n) (p := p1) (by omega) (by omega)
      rw [if_pos q, if_pos (show (((x :: vs, [40]) : List SX × List Int).2.tail.length = 0) from rfl)] at hfe
      exact Or.inr ⟨p1 + 1, x, z9'.trans hfe, z3.1, z3.2, z5, by omega, by omega⟩
    · rw [if_neg q] at hfe
      exact Or.inl (by rw [z9', hfe]; dsimp only; omega)
