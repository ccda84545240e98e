-- orders read: the class's rows
theorem act_ok {g : am_M} {n : Int} {d f : Nat} (hg : WG g) (hn : 1 ≤ n ∧ n ≤ 80) (hd : d ≤ 2) (hR : d < 2 → RowOK g n (d + 1) f) : ActOK g n d (f + 2) := by
  intro p m ac stk bg M hl hp hbg he hGA hX hC
  have hK : K_Outing_readRow_R (f + 2) 1 (d : Int) 0 0 M = Outing_readAct_50 (fun b0 b1 b2 M => K_Outing_readRow_R (f + 1) 2 b0 b1 b2 M) (d : Int) M := rfl
  rw [hK]
  have htb := taS_b hg (n := n) (by omega) p
  have hh := here_0 (by omega) hX (by omega) hC
  unfold Outing_readAct_50
  rw [hh, ob_s, c_lt_p (by omega) (by decide), ob_s, c_gt_p (by omega) (by decide), ob_s]
  by_cases q0 : p < n
  · by_cases q1 : 50 ≤ taS g n p ∧ taS g n p ≤ 57
    · rw [if_neg (by omega), if_neg (by omega), hC.1.1, fw_p]
      have ht : tpS g n p = p + 1 := by
        unfold tpS
        rw [if_pos q1]
      have hm : ((tmS g n p : Nat) : Int) = taS g n p - 48 := by
        unfold tmS
        rw [if_pos q1]
        omega
      have hC1 := hC.p (q := p + 1)
      rw [← ht] at hC1 ⊢
      have f1 : CF M (am_up M 50 5 (tpS g n p)) := CF.rf.up (by omega)
      obtain ⟨N, a1, a2, a3⟩ := act_43 (f := f) hg hn hd hR hl ⟨hp.1, q0⟩ hbg hGA (hX.cf f1) hC1
      rw [hm] at a1
      exact ⟨N, a1, f1.tr a2, a3⟩
    · have ht : tpS g n p = p := by
        unfold tpS
        rw [if_neg q1]
      have hm : ((tmS g n p : Nat) : Int) = 1 := by
        unfold tmS
        rw [if_neg q1]
        rfl
      rw [← ht] at hC
      obtain ⟨N, a1, a2, a3⟩ := act_43 (f := f) hg hn hd hR hl ⟨hp.1, q0⟩ hbg hGA hX hC
      rw [hm] at a1
      rw [ht] at hC
      rw [hC.1.1, a1]
      by_cases q2 : taS g n p < 50
      · rw [if_pos q2]
        exact ⟨N, rfl, a2, a3⟩
      · rw [if_neg q2, if_pos (by omega)]
        exact ⟨N, rfl, a2, a3⟩
  · have hm1 : taS g n p = -1 := (ta_e hg (by omega) hp.1).mpr (by omega)
    rw [hm1, if_pos (by decide)]
    unfold Outing_readAct_50_43 Outing_readAct_50_117
    obtain ⟨N, a1, a2, a3⟩ := fail_0 (f := 1) (x := p) hC
    rw [hh, hm1, ob_s, c_ne_p (by decide) (by decide), if_pos (by decide), isAct_eq (by decide), ob_s, if_neg (by decide), c_eq_p (by decide) (by decide), if_pos (by decide), hC.1.1, a1, ob_s]
    refine ⟨N, rfl, a3, p, m, ac, _, a2, hGA.1, Or.inl ⟨by omega, by omega, ?_⟩⟩
    have hfe := fin_e (g := g) (n := n) (p := p) (m := m) (ac := ac) (stk := stk) (bg := bg) (by omega) (by omega)
    unfold fnB at hfe
    rw [if_pos (by omega)] at hfe
    rw [hfe]
    dsimp only
    rw [if_neg (by omega)]
    omega
def RE (g : am_M) (n p : Int) (m : Nat) (ac : Nat → Int) (stk : List SE) (bg : Bool) (N : am_M) : Prop := ∃ (p' : Int) (m' : Nat) (ac' : Nat → Int) (bad : Int), CS N p' m' ac' bad ∧ m' ≤ 90 ∧ ((bad < 0 ∧ -7000 ≤ bad ∧ (fin g n p m ac stk bg).1 = bad) ∨ (bad = 0 ∧ p ≤ p' ∧ p' ≤ n ∧ (n ≤ p' ∨ taS g n p' = 41) ∧ GA m' ac' stk true ∧ fin g n p m ac stk bg = fin g n p' m' ac' stk true))
theorem row_7 {g : am_M} {n : Int} {d f : Nat} (hg : WG g) (hn : 1 ≤ n ∧ n ≤ 80) (hA : ActOK g n d f) (stk : List SE) (hl : stk.length = d) : ∀ (k fu : Nat) (x p : Int) (m : Nat) (ac : Nat → Int) (M : am_M), n - p ≤ k → k < fu → 0 ≤ x ∧ x < p → p ≤ n → GA m ac stk true → TX g n M → CS M p m ac 0 → ∃ N, Outing_readRow_50_7 (fun b0 M => K_Outing_readRow_R f 1 b0 0 0 M) fu (d : Int) x M = some N ∧ CF M N ∧ RE g n p m ac stk true N
  | k, 0, x, p, m, ac, M, e, hf, hx, hp, hGA, hX, hC => by omega
  | k, fu + 1, x, p, m, ac, M, e, hf, hx, hp, hGA, hX, hC => by
    have htb := taS_b hg (n := n) (by omega) p
    have hh := here_0 (by omega) hX (by omega) hC
    unfold Outing_readRow_50_7 Outing_readRow_50_48
    rw [c_ge_p (by omega) (by decide), if_neg (by omega), hC.1.2.2.1, c_ne_p (by decide) (by decide), if_neg (by decide), hh, ob_s, c_eq_p (by omega) (by decide), ob_s, c_eq_p (by omega) (by decide)]
    by_cases q1 : taS g n p = -1
    · rw [if_pos q1]
      exact ⟨M, rfl, CF.rf, p, m, ac, 0, hC, hGA.1, Or.inr ⟨rfl, by omega, hp, Or.inl ((ta_e hg (by omega) (by omega)).mp q1), hGA, rfl⟩⟩
    rw [if_neg q1]
    by_cases q2 : taS g n p = 41
    · rw [if_pos q2]
      exact ⟨M, rfl, CF.rf, p, m, ac, 0, hC, hGA.1, Or.inr ⟨rfl, by omega, hp, Or.inr q2, hGA, rfl⟩⟩
    rw [if_neg q2]
    have hpn : p < n := by
      by_cases z : n ≤ p
      · exact absurd ((ta_e hg (by omega) (by omega)).mpr z) q1
      · omega
    obtain ⟨N1, a1, a2, p', m', ac', bad, b1, b2, b3⟩ := hA p m ac stk true M hl (by omega) (Or.inr q2) (Or.inl hpn) hGA hX hC
    rw [a1, ob_s]
    rcases b3 with ⟨z1, z2, z3⟩ | ⟨z1, z2, z3, z4, z5⟩
    · obtain ⟨fu', rfl⟩ : ∃ fu', fu = fu' + 1 := ⟨fu - 1, by omega⟩
      refine ⟨N1, ?_, a2, p', m', ac', bad, b1, b2, Or.inl ⟨z1, z2, z3⟩⟩
      unfold Outing_readRow_50_7 Outing_readRow_50_48
      rw [b1.1.2.2.1, c_ne_p (by omega) (by decide), c_ge_p (by omega) (by decide), if_pos (show bad ≠ 0 by omega)]
      split <;> rfl
    · subst z1
      obtain ⟨N2, c1, c2, c3⟩ := row_7 hg hn hA stk hl (k - 1) fu (x + 1) p' m' ac' N1 (by omega) (by omega) (by omega) z3 z4 (hX.cf a2) b1
      refine ⟨N2, c1, a2.tr c2, ?_⟩
      obtain ⟨p2, m2, ac2, bad2, d1, d2, d3⟩ := c3
      refine ⟨p2, m2, ac2, bad2, d1, d2, ?_⟩
      rw [z5]
      rcases d3 with w | ⟨w1, w2, w3⟩
      · exact Or.inl w
      · exact Or.inr ⟨w1, by omega, w3⟩
theorem row_ok {g : am_M} {n : Int} {d f : Nat} (hg : WG g) (hn : 1 ≤ n ∧ n ≤ 80) (hA : ActOK g n d f) : RowOK g n d (f + 1) := by
  intro p m ac stk M hl hp he hGA hX hC
  have hK : K_Outing_readRow_R (f + 1) 0 (d : Int) 0 0 M = Outing_readRow_50 (fun b0 M => K_Outing_readRow_R f 1 b0 0 0 M) (d : Int) M := rfl
  rw [hK]
  unfold Outing_readRow_50
  obtain ⟨N1, a1, a2, p', m', ac', bad, b1, b2, b3⟩ := hA p m ac stk false M hl hp (Or.inl rfl) he hGA hX hC
  dsimp only
  rw [a1, ob_s]
  rcases b3 with ⟨z1, z2, z3⟩ | ⟨z1, z2, z3, z4, z5⟩
  · refine ⟨N1, ?_, a2, p', m', ac', bad, b1, b2, Or.inl ⟨z1, z2, z3⟩⟩
    show Outing_readRow_50_7 _ (999999 + 1) _ _ _ = _
    unfold Outing_readRow_50_7 Outing_readRow_50_48
    rw [b1.1.2.2.1, c_ne_p (by omega) (by decide), c_ge_p (by omega) (by decide), if_pos (show bad ≠ 0 by omega)]
    split <;> rfl
  · subst z1
    obtain ⟨N2, c1, c2, c3⟩ := row_7 hg hn hA stk hl 80 am_big 0 p' m' ac' N1 (by omega) (by show 80 < 1000000; omega) (by omega) z3 z4 (hX.cf a2) b1
    refine ⟨N2, c1, a2.tr c2, ?_⟩
    obtain ⟨p2, m2, ac2, bad2, d1, d2, d3⟩ := c3
    refine ⟨p2, m2, ac2, bad2, d1, d2, ?_⟩
    rw [z5]
    rcases d3 with w | ⟨w1, w2, w3⟩
    · exact Or.inl w
    · exact Or.inr ⟨w1, by omega, w3⟩
theorem row_0 {g : am_M} {n : Int} (hg : WG g) (hn : 1 ≤ n ∧ n ≤ 80) (f : Nat) : RowOK g n 0 (f + 9) := by
  have h2 : RowOK g n 2 (f + 3) := row_ok hg hn (act_ok hg hn (by omega) (fun z => by omega))
  have h1 : RowOK g n 1 (f + 6) := row_ok hg hn (act_ok hg hn (by omega) (fun _ => h2))
  exact row_ok hg hn (act_ok hg hn (by omega) (fun _ => h1))
/-- the class's reader, whole -/
theorem acts_50 {g M : am_M} {n : Int} (hg : WG g) (hn : 1 ≤ n ∧ n ≤ 80) (hX : TX g n M) : ∃ N bad, Outing_readActs_50 M = some (bad, N) ∧ ((∀ k, k ≠ 50 → k ≠ 51 → N k = M k) ∧ ∀ j, j < 3 → N 50 j = M 50 j) ∧ (-7000 ≤ bad ∧ bad ≤ 0) ∧ bad = (fin g n 0 0 (fun _ => 0) [] false).1 ∧ (bad = 0 → (∀ j : Nat, j < (fin g n 0 0 (fun _ => 0) [] false).2.1 → N 51 j = (fin g n 0 0 (fun _ => 0) [] false).2.2 j ∧ acB ((fin g n 0 0 (fun _ => 0) [] false).2.2 j)) ∧ N 50 3 = (fin g n 0 0 (fun _ => 0) [] false).2.1 ∧ (fin g n 0 0 (fun _ => 0) [] false).2.1 ≤ 90) := by
  have hM4 : CS (am_up (am_up (am_up (am_up M 50 4 1) 50 5 0) 50 6 0) 50 3 0) 0 0 (fun _ => 0) 0 := ⟨⟨by rw [upx (by decide), upx (by decide), upj], upj, by rw [upx (by decide), upj], by rw [upx (by decide), upx (by decide), upx (by decide), upj]⟩, fun j hj => by omega⟩
  have hF : ∀ k, k ≠ 50 → k ≠ 51 → (am_up (am_up (am_up (am_up M 50 4 1) 50 5 0) 50 6 0) 50 3 0) k = M k := fun k h1 h2 => by rw [upo h1, upo h1, upo h1, upo h1]
  have hF2 : ∀ j, j < 3 → (am_up (am_up (am_up (am_up M 50 4 1) 50 5 0) 50 6 0) 50 3 0) 50 j = M 50 j := fun j h1 => by rw [upx (by omega), upx (by omega), upx (by omega), upx (by omega)]
  have hX4 : TX g n (am_up (am_up (am_up (am_up M 50 4 1) 50 5 0) 50 6 0) 50 3 0) := by
    refine ⟨?_, by rw [hF 14 (by decide) (by decide)]; exact hX.2⟩
    have := hX.1
    unfold GP at this ⊢
    rw [hF 0 (by decide) (by decide), hF 1 (by decide) (by decide), hF 2 (by decide) (by decide), hF 4 (by decide) (by decide), hF 5 (by decide) (by decide), hF 14 (by decide) (by decide), hF 15 (by decide) (by decide)]
    exact this
  obtain ⟨N, a1, a2, p', m', ac', bad, b1, b2, b3⟩ := row_0 hg hn 31 0 0 (fun _ => 0) [] _ rfl (by omega) (Or.inl (by omega)) ⟨by omega, fun j hj => by omega, fun e he => by cases he⟩ hX4 hM4
  have hO : ∀ O, CF N O → (∀ k, k ≠ 50 → k ≠ 51 → O k = M k) ∧ ∀ j, j < 3 → O 50 j = M 50 j := fun O z => ⟨fun k h1 h2 => by rw [z.1 k h1 h2, a2.1 k h1 h2, hF k h1 h2], fun j h1 => by rw [z.2 j (by omega) (by omega) (by omega), a2.2 j (by omega) (by omega) (by omega), hF2 j h1]⟩
  unfold Outing_readActs_50 Outing_readActs_50_42
  rw [fw_p, fw_p, fw_p, fw_p]
  unfold K_Outing_readRow
  rw [show ((0 : Nat) : Int) = 0 from rfl] at a1
  rw [a1, ob_s]
  rcases b3 with ⟨z1, z2, z3⟩ | ⟨z1, z2, z3, z4, z5, z6⟩
  · rw [here_b b1 z1 (by omega), ob_s, c_eq_p (by decide) (by decide), if_neg (by decide), fail_b b1 z1 (by omega), ob_s, b1.1.2.2.1]
    exact ⟨N, bad, rfl, hO N CF.rf, by omega, z3.symm, fun w => by omega⟩
  · subst z1
    rw [here_0 (by omega) (hX4.cf a2) (by omega) b1, ob_s, c_eq_p (by have := taS_b hg (n := n) (by omega) p'; omega) (by decide)]
    have hfe := fin_e (g := g) (n := n) (p := p') (m := m') (ac := ac') (stk := []) (bg := true) (by omega) (by omega)
    unfold fnB at hfe
    by_cases q : taS g n p' = -1
    · rw [if_pos q, b1.1.2.2.1]
      rw [if_pos ((ta_e hg (by omega) (by omega)).mp q), if_pos (show ([] : List SE).length = 0 from rfl)] at hfe
      rw [z6, hfe]
      exact ⟨N, 0, rfl, hO N CF.rf, by omega, rfl, fun _ => ⟨fun j hj => ⟨b1.2 j hj, z5.2.1 j hj⟩, b1.1.2.1, b2⟩⟩
    · have q1 : taS g n p' = 41 := by
        rcases z4 with w | w
        · exact absurd ((ta_e hg (by omega) (by omega)).mpr w) q
        · exact w
      have ht : tpS g n p' = p' := by
        unfold tpS
        rw [if_neg (by omega)]
      have hl := ta_n (g := g) (n := n) (p := p') (by omega) (by omega)
      rw [if_neg (by omega), if_neg (fun h => absurd h.2.1 (Nat.lt_irrefl 0)), ht, if_neg (by omega), if_neg (by omega)] at hfe
      rw [if_neg q, b1.1.1]
      obtain ⟨N2, c1, c2, c3⟩ := fail_0 (f := 1) (x := p') b1
      rw [c1, ob_s, c2.1.2.2.1, z6, hfe]
      exact ⟨N2, _, rfl, hO N2 c3, by omega, by dsimp only; omega, fun w => by omega⟩
