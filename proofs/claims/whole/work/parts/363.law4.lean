-- the reference reckons: what is put together
/-- what stands on the two uppermost places -/
theorem two_R {o p : Nat → Int} {b : Nat} {x y : SX} (hx : REx o p b x) (hy : REx o p (b + x.1) y) {M : am_M} {n : Nat} {x2 : Int} (hs : ∀ j, b ≤ j → j < b + x.1 + y.1 → M 81 j = o j ∧ M 82 j = p j) (he : ∀ j, j < 7 → am_R (enR M j)) (hn : n + x.1 + y.1 + 1 ≤ 240) (hb : ((b + x.1 + y.1 : Nat) : Int) ≤ x2) (h240 : x2 ≤ 240) (h1 : 1 ≤ x.1 ∧ 1 ≤ y.1) : ∃ N, ((∀ k, k ≠ 90 → k ≠ 91 → N k = M k) ∧ ∀ j, j < n → N 90 j = M 90 j ∧ N 91 j = M 91 j) ∧ ((∀ v, x.2.2.2 (enR M) = some v → N 90 n = v ∧ N 91 n = 0) ∧ (x.2.2.2 (enR M) = none → N 91 n = 1) ∧ am_R (N 90 n) ∧ (x.2.2.1 = true → N 90 n = 0 ∨ N 90 n = 1) ∧ (N 91 n = 0 ∨ N 91 n = 1)) ∧ ((∀ v, y.2.2.2 (enR M) = some v → N 90 (n + 1) = v ∧ N 91 (n + 1) = 0) ∧ (y.2.2.2 (enR M) = none → N 91 (n + 1) = 1) ∧ am_R (N 90 (n + 1)) ∧ (y.2.2.1 = true → N 90 (n + 1) = 0 ∨ N 90 (n + 1) = 1) ∧ (N 91 (n + 1) = 0 ∨ N 91 (n + 1) = 1)) ∧ ∀ f, R_works_5 (f + y.1 + x.1) x2 (n : Int) (b : Int) M = R_works_5 f x2 ((n + 2 : Nat) : Int) ((b + x.1 + y.1 : Nat) : Int) N := by
  obtain ⟨N1, a1, a2, a3, a4, a5, a6⟩ := hx M n x2 (fun j h1 h2 => hs j h1 (by omega)) he (by omega) (by omega) h240
  have en : enR N1 = enR M := by
    unfold enR
    rw [a1.1 73 (by decide) (by decide)]
  obtain ⟨N2, b1, b2, b3, b4, b5, b6⟩ := hy N1 (n + 1) x2 (fun j h1 h2 => by rw [a1.1 81 (by decide) (by decide), a1.1 82 (by decide) (by decide)]; exact hs j (by omega) (by omega)) (by rw [en]; exact he) (by omega) (by omega) h240
  rw [en] at b2 b3
  have l := b1.2 n (by omega)
  refine ⟨N2, ⟨fun k k1 k2 => by rw [b1.1 k k1 k2, a1.1 k k1 k2], fun j hj => by rw [(b1.2 j (by omega)).1, (b1.2 j (by omega)).2]; exact a1.2 j hj⟩, ⟨by rw [l.1, l.2]; exact a2, by rw [l.2]; exact a3, by rw [l.1]; exact a4, by rw [l.1]; exact a5, ?_⟩, ⟨b2, b3, b4, b5, ?_⟩, fun f => by rw [a6 (f + y.1), b6 f]⟩
  · rw [l.2]
    cases h : x.2.2.2 (enR M) with
    | none => exact Or.inr (a3 h)
    | some v => exact Or.inl (a2 v h).2
  · cases h : y.2.2.2 (enR M) with
    | none => exact Or.inr (b3 h)
    | some v => exact Or.inl (b2 v h).2
theorem biX_R {o p : Nat → Int} {b : Nat} {c : Int} {x y : SX} (hc : cpO c ∨ arO c) (ox : XO x) (oy : XO y) (hx : REx o p b x) (hy : REx o p (b + x.1) y) (ho : o (b + x.1 + y.1) = c) : REx o p b (biX c x y) := by
  intro M n x2 hs he hn hb h240
  have hl : (biX c x y).1 = x.1 + y.1 + 1 := rfl
  have hx1 := ox.1.1
  have hy1 := oy.1.1
  obtain ⟨N, a1, ⟨a2, a3, a4, a5, a6⟩, ⟨b2, b3, b4, b5, b6⟩, a7⟩ := two_R hx hy (n := n) (x2 := x2) (fun j h1 h2 => hs j h1 (by omega)) he (by omega) (by omega) h240 ⟨hx1, hy1⟩
  have ec := hs (b + x.1 + y.1) (by omega) (by omega)
  have hop := op_R (M := N) (n := n) (o := c) (by omega) hc rfl rfl rfl rfl a6 b6 a4 b4
  have hval : ∀ v, (biX c x y).2.2.2 (enR M) = some v ↔ (N 91 n = 0 ∧ N 91 (n + 1) = 0 ∧ opS c (N 90 n) (N 90 (n + 1)) = some v) := fun v => by
    cases h1 : x.2.2.2 (enR M) with
    | none =>
      have hv : (biX c x y).2.2.2 (enR M) = none := by unfold biX; simp only [h1]
      have := a3 h1
      rw [hv]
      exact ⟨fun z => (by cases z), fun z => by omega⟩
    | some v1 =>
      obtain ⟨w1, w2⟩ := a2 v1 h1
      cases h2 : y.2.2.2 (enR M) with
      | none =>
        have hv : (biX c x y).2.2.2 (enR M) = none := by unfold biX; simp only [h1, h2]
        have := b3 h2
        rw [hv]
        exact ⟨fun z => (by cases z), fun z => by omega⟩
      | some v2 =>
        obtain ⟨w3, w4⟩ := b2 v2 h2
        rw [biX_v (o := c) h1 h2, w1, w3]
        exact ⟨fun z => ⟨w2, w4, z⟩, fun z => z.2.2⟩
  refine ⟨am_up (am_up N 91 n (if N 91 n = 0 ∧ N 91 (n + 1) = 0 ∧ ¬ (N 90 (n + 1) = 0 ∧ (c = 47 ∨ c = 37)) then 0 else 1)) 90 n (wkS c (N 90 n) (N 90 (n + 1))), ⟨fun k k1 k2 => by rw [upo k1, upo k2, a1.1 k k1 k2], fun j hj => ?_⟩, fun v hv => ?_, fun hv => ?_, ?_, fun z => ?_, fun f => ?_⟩
  rotate_left 5
  · rw [hl, show f + (x.1 + y.1 + 1) = f + 1 + y.1 + x.1 by omega, a7 (f + 1), wo_1 (by omega) h240 (show N 81 (b + x.1 + y.1) = c by rw [a1.1 81 (by decide) (by decide), ec.1]; exact ho) (by omega), if_neg (by omega), show ((n + 2 : Nat) : Int) + -1 - 1 = (n : Int) by omega, hop, ob_s]
    unfold R_works_121
    rw [show ((n + 2 : Nat) : Int) + -1 = ((n + 1 : Nat) : Int) by omega, show ((b + x.1 + y.1 : Nat) : Int) + 1 = ((b + (x.1 + y.1 + 1) : Nat) : Int) by omega]
  · rw [upx (by omega), upo (by decide), upo (by decide), upx (by omega)]
    exact a1.2 j hj
  · obtain ⟨w1, w2, w3⟩ := (hval v).mp hv
    refine ⟨?_, ?_⟩
    · rw [upj]
      unfold wkS
      rw [w3]
      rfl
    · rw [upo (by decide), upj, if_pos ⟨w1, w2, fun z => by rw [opS_n.mpr z] at w3; cases w3⟩]
  · rw [upo (by decide), upj, if_neg]
    intro z
    cases h : opS c (N 90 n) (N 90 (n + 1)) with
    | none => exact z.2.2 (opS_n.mp h)
    | some v =>
      rw [(hval v).mpr ⟨z.1, z.2.1, h⟩] at hv
      cases hv
  · rw [upj]
    exact wkS_R b4
  · rw [upj]
    unfold biX at z
    have hc' : cpO c := of_decide_eq_true z
    unfold wkS
    cases h : opS c (N 90 n) (N 90 (n + 1)) with
    | none => exact Or.inl rfl
    | some v => exact opS_B hc' h
theorem ngX_R {o p : Nat → Int} {b : Nat} {x : SX} (ox : XO x) (hB : x.2.2.1 = true) (hx : REx o p b x) (ho : o (b + x.1) = 2) : REx o p b (ngX x) := by
  intro M n x2 hs he hn hb h240
  have hl : (ngX x).1 = x.1 + 1 := rfl
  obtain ⟨N, a1, a2, a3, a4, a5, a6⟩ := hx M n x2 (fun j h1 h2 => hs j h1 (by omega)) he (by omega) (by omega) h240
  have ec := hs (b + x.1) (by omega) (by omega)
  have hb01 := a5 hB
  refine ⟨am_up N 90 n (1 - N 90 n), ⟨fun k k1 k2 => by rw [upo k1, a1.1 k k1 k2], fun j hj => ?_⟩, fun v hv => ?_, fun hv => ?_, ?_, fun z => ?_, fun f => ?_⟩
  · rw [upx (by omega), upo (by decide)]
    exact a1.2 j hj
  · rw [upj, upo (by decide)]
    unfold ngX at hv
    dsimp only at hv
    cases h : x.2.2.2 (enR M) with
    | none => rw [h] at hv; cases hv
    | some w =>
      rw [h] at hv
      have e := Option.some.inj hv
      obtain ⟨w1, w2⟩ := a2 w h
      refine ⟨?_, w2⟩
      rw [w1] at hb01 ⊢
      rw [← e]
      split <;> omega
  · rw [upo (by decide)]
    unfold ngX at hv
    dsimp only at hv
    cases h : x.2.2.2 (enR M) with
    | none => exact a3 h
    | some w => rw [h] at hv; cases hv
  · rw [upj]
    omega
  · rw [upj]
    omega
  · rw [hl, show f + (x.1 + 1) = f + 1 + x.1 by omega, a6 (f + 1), wo_1 (by omega) h240 (show N 81 (b + x.1) = 2 by rw [a1.1 81 (by decide) (by decide), ec.1]; exact ho) (by decide), if_pos (by decide), if_neg (by decide), rd_p (by omega), wa_p (by omega), show (((n + 1 : Nat) : Int) - 1).toNat = n by omega]
    unfold R_works_121
    rw [show ((b + x.1 : Nat) : Int) + 1 = ((b + (x.1 + 1) : Nat) : Int) by omega]
/-- 'and', 'or' -/
theorem joX_R {o p : Nat → Int} {b : Nat} {c : Int} {x y z : SX} (hc : c = 38 ∨ c = 124) (ox : XO x) (oy : XO y) (bx : x.2.2.1 = true) (by' : y.2.2.1 = true) (hx : REx o p b x) (hy : REx o p (b + x.1) y) (ho : o (b + x.1 + y.1) = c) (hl : z.1 = x.1 + y.1 + 1) (hz : ∀ e, z.2.2.2 e = (match x.2.2.2 e with | none => none | some v => if v = (if c = 38 then 1 else 0) then y.2.2.2 e else some v)) : REx o p b z := by
  intro M n x2 hs he hn hb h240
  have hx1 := ox.1.1
  have hy1 := oy.1.1
  obtain ⟨N, a1, ⟨a2, a3, a4, a5, a6⟩, ⟨b2, b3, b4, b5, b6⟩, a7⟩ := two_R hx hy (n := n) (x2 := x2) (fun j h1 h2 => hs j h1 (by omega)) he (by omega) (by omega) h240 ⟨hx1, hy1⟩
  have ec := hs (b + x.1 + y.1) (by omega) (by omega)
  have hop := jn_R (M := N) (n := n) (o := c) (by omega) hc rfl rfl rfl rfl a6 b6 a4
  have hrun : ∀ (N' : am_M) (f : Nat), R_does c (n : Int) N = some N' → R_works_5 (f + z.1) x2 (n : Int) (b : Int) M = R_works_5 f x2 ((n + 1 : Nat) : Int) ((b + z.1 : Nat) : Int) N' := fun N' f h => by
    rw [hl, show f + (x.1 + y.1 + 1) = f + 1 + y.1 + x.1 by omega, a7 (f + 1), wo_1 (by omega) h240 (show N 81 (b + x.1 + y.1) = c by rw [a1.1 81 (by decide) (by decide), ec.1]; exact ho) (by omega), if_neg (by omega), show ((n + 2 : Nat) : Int) + -1 - 1 = (n : Int) by omega, h, ob_s]
    unfold R_works_121
    rw [show ((n + 2 : Nat) : Int) + -1 = ((n + 1 : Nat) : Int) by omega, show ((b + x.1 + y.1 : Nat) : Int) + 1 = ((b + (x.1 + y.1 + 1) : Nat) : Int) by omega]
  have hze := hz (enR M)
  by_cases q : N 91 n = 0 ∧ N 90 n = (if c = 38 then 1 else 0)
  · rw [if_pos q] at hop
    have hv : z.2.2.2 (enR M) = y.2.2.2 (enR M) := by
      cases h1 : x.2.2.2 (enR M) with
      | none => have := a3 h1; omega
      | some v1 =>
        rw [h1] at hze
        dsimp only at hze
        rw [if_pos (by rw [← (a2 v1 h1).1]; exact q.2)] at hze
        exact hze
    refine ⟨_, ⟨fun k k1 k2 => by rw [upo k2, upo k1, a1.1 k k1 k2], fun j hj => ?_⟩, fun v w => ?_, fun w => ?_, ?_, fun _ => ?_, fun f => hrun _ f hop⟩
    · rw [upo (by decide), upx (by omega), upx (by omega), upo (by decide)]
      exact a1.2 j hj
    · rw [hv] at w
      rw [upo (by decide), upj, upj]
      exact b2 v w
    · rw [hv] at w
      rw [upj]
      exact b3 w
    · rw [upo (by decide), upj]
      exact b4
    · rw [upo (by decide), upj]
      exact b5 by'
  · rw [if_neg q] at hop
    refine ⟨N, a1, fun v w => ?_, fun w => ?_, a4, fun _ => a5 bx, fun f => hrun _ f hop⟩
    · cases h1 : x.2.2.2 (enR M) with
      | none => rw [hze, h1] at w; cases w
      | some v1 =>
        rw [h1] at hze
        dsimp only at hze
        obtain ⟨w1, w2⟩ := a2 v1 h1
        rw [if_neg (fun e => q ⟨w2, by rw [w1]; exact e⟩)] at hze
        rw [hze] at w
        have := Option.some.inj w
        exact ⟨by rw [w1]; exact this, w2⟩
    · cases h1 : x.2.2.2 (enR M) with
      | none => exact a3 h1
      | some v1 =>
        rw [h1] at hze
        dsimp only at hze
        obtain ⟨w1, w2⟩ := a2 v1 h1
        rw [if_neg (fun e => q ⟨w2, by rw [w1]; exact e⟩)] at hze
        rw [hze] at w
        cases w
theorem anX_R {o p : Nat → Int} {b : Nat} {x y : SX} (ox : XO x) (oy : XO y) (bx : x.2.2.1 = true) (by' : y.2.2.1 = true) (hx : REx o p b x) (hy : REx o p (b + x.1) y) (ho : o (b + x.1 + y.1) = 38) : REx o p b (anX x y) := by
  refine joX_R (z := anX x y) (Or.inl rfl) ox oy bx by' hx hy ho rfl (fun e => ?_)
  unfold anX
  dsimp only
  cases h : x.2.2.2 e with
  | none => rfl
  | some v =>
    dsimp only
    have := ox.2.2.2 bx e v h
    rw [if_pos (show (38 : Int) = 38 from rfl)]
    by_cases q : v = 0
    · rw [if_pos q, if_neg (by omega), q]
    · rw [if_neg q, if_pos (by omega)]
theorem roX_R {o p : Nat → Int} {b : Nat} {x y : SX} (ox : XO x) (oy : XO y) (bx : x.2.2.1 = true) (by' : y.2.2.1 = true) (hx : REx o p b x) (hy : REx o p (b + x.1) y) (ho : o (b + x.1 + y.1) = 124) : REx o p b (roX x y) := by
  refine joX_R (z := roX x y) (Or.inr rfl) ox oy bx by' hx hy ho rfl (fun e => ?_)
  unfold roX
  dsimp only
  cases h : x.2.2.2 e with
  | none => rfl
  | some v =>
    dsimp only
    rw [if_neg (show ¬ ((124 : Int) = 38) by decide)]
