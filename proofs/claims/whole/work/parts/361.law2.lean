-- the class reckons: what is put together
theorem biX_v {o : Int} {a b : SX} {e : Nat → Int} {x y : Int} (h1 : a.2.2.2 e = some x) (h2 : b.2.2.2 e = some y) : (biX o a b).2.2.2 e = opS o x y := by
  unfold biX
  simp only [h1, h2]
/-- an operation, by the class -/
theorem op_C {M : am_M} {f b x3 : Nat} {x2 x6 x y o : Int} (hb : (b : Int) < x2) (h2 : x2 ≤ 240) (h6 : 0 ≤ x6 ∧ x6 < 240) (ho : cpO o ∨ arO o) (e1 : M 6 b = o) (hx : M 13 (x3 + 1) = x) (rx : am_R x) (ry : am_R y) (h3 : x3 + 2 ≤ 40) : (∀ v, opS o x y = some v → Law_reckon_5_11 (f + 1) x2 ((x3 + 2 : Nat) : Int) y (b : Int) x6 M = Law_reckon_5_11 f x2 ((x3 + 1 : Nat) : Int) v ((b : Int) + 1) (x6 + 1) M) ∧ (opS o x y = none → Law_reckon_5_11 (f + 1) x2 ((x3 + 2 : Nat) : Int) y (b : Int) x6 M = some (0, M)) := by
  have ro : am_R o := by omega
  have hst : Law_reckon_5_11 (f + 1) x2 ((x3 + 2 : Nat) : Int) y (b : Int) x6 M = if y = 0 ∧ (o = 47 ∨ o = 37) then some (0, M) else Law_reckon_5_217 (Law_reckon_5_11 f) x2 ((x3 + 2 : Nat) : Int) y ((b : Int) + 1) x6 o M := by
    rw [rk_1 hb h2 h6 e1 rfl ro ry, if_neg (by omega), if_neg (by omega), if_neg (by omega), if_neg (by omega)]
    unfold Law_reckon_5_161 Law_reckon_5_191 Law_reckon_5_215
    rw [c_ne_p ro (by decide), if_pos (by omega), c_lt_p (by omega) (by decide), if_neg (by omega), c_ne_p ry (by decide), c_eq_p ro (by decide), c_ne_p ro (by decide)]
    by_cases q : y = 0
    · rw [if_neg (fun h => h q)]
      by_cases q1 : o = 47
      · rw [if_pos q1, if_pos ⟨q, Or.inl q1⟩]
      · rw [if_neg q1]
        by_cases q2 : o = 37
        · rw [if_neg (fun h => h q2), if_pos ⟨q, Or.inr q2⟩]
        · rw [if_pos q2, if_neg (by omega)]
    · rw [if_pos q, if_neg (fun h => q h.1)]
  rw [hst]
  have h217 : ¬ (y = 0 ∧ (o = 47 ∨ o = 37)) → ∃ v, opS o x y = some v ∧ Law_reckon_5_217 (Law_reckon_5_11 f) x2 ((x3 + 2 : Nat) : Int) y ((b : Int) + 1) x6 o M = Law_reckon_5_11 f x2 ((x3 + 1 : Nat) : Int) v ((b : Int) + 1) (x6 + 1) M := fun hz => by
    unfold Law_reckon_5_217 Law_reckon_5_409 Law_reckon_5_421 Law_reckon_5_423 opS
    rw [rd_p (by omega), show (((x3 + 2 : Nat) : Int) + -1).toNat = x3 + 1 by omega, hx, show ((x3 + 2 : Nat) : Int) + -1 = ((x3 + 1 : Nat) : Int) by omega, ck_p ro, if_neg (show ¬ (o = 3) by omega), if_neg (show ¬ (o = 4) by omega), c_ne_p ro (by decide), c_ne_p ro (by decide), c_ne_p rx ry, c_le_p rx ry, c_ge_p rx ry, c_eq_p (by decide) (by decide), c_eq_p (by decide) (by decide), if_pos (show (0 : Int) = 0 from rfl), if_neg (show ¬ ((1 : Int) = 0) by decide)]
    by_cases q1 : o = 37
    · rw [if_pos q1, if_pos q1, if_neg (by omega), ck_p ⟨rx, ry, by omega⟩, tw_p]
      exact ⟨_, rfl, rfl⟩
    rw [if_neg q1, if_neg q1]
    by_cases q2 : o = 42
    · rw [if_pos q2, if_pos q2]
      exact ⟨_, rfl, rfl⟩
    rw [if_neg q2, if_neg q2]
    by_cases q3 : o = 43
    · rw [if_pos q3, if_pos q3]
      exact ⟨_, rfl, rfl⟩
    rw [if_neg q3, if_neg q3]
    by_cases q4 : o = 45
    · rw [if_pos q4, if_pos q4]
      exact ⟨_, rfl, rfl⟩
    rw [if_neg q4, if_neg q4]
    by_cases q5 : o = 47
    · rw [if_pos q5, if_pos q5, if_neg (by omega), ck_p ⟨rx, ry, by omega⟩, tw_p]
      exact ⟨_, rfl, rfl⟩
    rw [if_neg q5, if_neg q5]
    by_cases q6 : o = 60
    · rw [if_pos q6, if_neg (show ¬ (o ≠ 60) from fun h => h q6)]
      by_cases z : x < y
      · rw [if_pos z, if_neg (by omega)]
        exact ⟨_, rfl, rfl⟩
      · rw [if_neg z, if_pos (by omega)]
        exact ⟨_, rfl, rfl⟩
    rw [if_pos q6, if_neg q6]
    by_cases q7 : o = 62
    · rw [if_pos q7, if_neg (show ¬ (o ≠ 62) from fun h => h q7)]
      by_cases z : y < x
      · rw [if_pos z, if_neg (by omega)]
        exact ⟨_, rfl, rfl⟩
      · rw [if_neg z, if_pos (by omega)]
        exact ⟨_, rfl, rfl⟩
    rw [if_pos q7, if_neg q7]
    by_cases z : x = y
    · rw [if_pos z, if_neg (show ¬ (x ≠ y) from fun h => h z)]
      exact ⟨_, rfl, rfl⟩
    · rw [if_pos z, if_neg z]
      exact ⟨_, rfl, rfl⟩
  by_cases hz : y = 0 ∧ (o = 47 ∨ o = 37)
  · rw [if_pos hz]
    refine ⟨fun v hv => ?_, fun _ => rfl⟩
    exfalso
    unfold opS at hv
    rcases hz.2 with q | q
    · rw [if_neg (by omega), if_neg (by omega), if_neg (by omega), if_neg (by omega), if_pos q, if_pos hz.1] at hv
      cases hv
    · rw [if_pos q, if_pos hz.1] at hv
      cases hv
  · rw [if_neg hz]
    obtain ⟨v, w1, w2⟩ := h217 hz
    refine ⟨fun v' hv => ?_, fun hv => by rw [w1] at hv; cases hv⟩
    rw [w1] at hv
    have := Option.some.inj hv
    rw [← this]
    exact w2
theorem biX_C {o p : Nat → Int} {b : Nat} {c : Int} {x y : SX} (hc : cpO c ∨ arO c) (ox : XO x) (oy : XO y) (hx : CE o p b x) (hy : CE o p (b + x.1) y) (ho : o (b + x.1 + y.1) = c) : CE o p b (biX c x y) := by
  intro M x3 x2 x4 x6 hs he r4 hd hb h240 h6 h7
  have hl : (biX c x y).1 = x.1 + y.1 + 1 := rfl
  have hdp : (biX c x y).2.1 = max x.2.1 (y.2.1 + 1) := rfl
  have hm1 := Nat.le_max_left x.2.1 (y.2.1 + 1)
  have hm2 := Nat.le_max_right x.2.1 (y.2.1 + 1)
  have hy1 := oy.1.2
  obtain ⟨s1, M1, a1, a2, a3, a4, a5⟩ := hx M x3 x2 x4 x6 (fun j h1 h2 => hs j h1 (by omega)) he r4 (by omega) (by omega) h240 h6 (by omega)
  have e12 := a2 12 (by decide)
  cases h1 : x.2.2.2 (M 12) with
  | none =>
    have hv : (biX c x y).2.2.2 (M 12) = none := by unfold biX; simp only [h1]
    exact ⟨s1, M1, by omega, a2, a3, fun v w => (by rw [hv] at w; cases w), fun _ => a5 h1⟩
  | some v1 =>
    obtain ⟨a6, a7⟩ := a4 v1 h1
    have rv1 := ox.2.2.1 (M 12) he v1 h1
    obtain ⟨s2, M2, b1, b2, b3, b4, b5⟩ := hy M1 (x3 + 1) x2 v1 (x6 + s1) (fun j h1 h2 => by rw [a2 6 (by decide), a2 7 (by decide)]; exact hs j (by omega) (by omega)) (by rw [e12]; exact he) rv1 (by omega) (by omega) h240 (by omega) (by omega)
    rw [e12] at b4 b5
    have f2 : ∀ k, k ≠ 13 → M2 k = M k := fun k hk => (b2 k hk).trans (a2 k hk)
    have f3 : ∀ j, j < x3 → M2 13 j = M 13 j := fun j hj => (b3 j (by omega)).trans (a3 j hj)
    cases h2 : y.2.2.2 (M 12) with
    | none =>
      have hv : (biX c x y).2.2.2 (M 12) = none := by unfold biX; simp only [h1, h2]
      refine ⟨s1 + s2, M2, by omega, f2, f3, fun v w => (by rw [hv] at w; cases w), fun _ f => ?_⟩
      rw [show f + (s1 + s2) = f + s2 + s1 by omega, a7 (f + s2)]
      exact b5 h2 f
    | some v2 =>
      obtain ⟨b6, b7⟩ := b4 v2 h2
      have rv2 := oy.2.2.1 (M 12) he v2 h2
      have ec := hs (b + x.1 + y.1) (by omega) (by omega)
      have hop := fun f => op_C (M := M2) (f := f) (b := b + x.1 + y.1) (x3 := x3) (x2 := x2) (x6 := x6 + s1 + s2) (x := v1) (y := v2) (o := c) (by omega) h240 (by omega) hc (by rw [f2 6 (by decide), ec.1]; exact ho) b6 rv1 rv2 (by omega)
      have hv := biX_v (o := c) h1 h2
      refine ⟨s1 + s2 + 1, M2, by omega, f2, f3, fun v w => ⟨by rw [b3 x3 (by omega)]; exact a6, fun f => ?_⟩, fun w f => ?_⟩
      · rw [hv] at w
        rw [show f + (s1 + s2 + 1) = f + 1 + s2 + s1 by omega, a7 (f + 1 + s2), b7 (f + 1), (hop f).1 v w, show ((b + x.1 + y.1 : Nat) : Int) + 1 = ((b + (biX c x y).1 : Nat) : Int) by omega, show x6 + (s1 : Int) + (s2 : Int) + 1 = x6 + ((s1 + s2 + 1 : Nat) : Int) by omega]
      · rw [hv] at w
        rw [show f + (s1 + s2 + 1) = f + 1 + s2 + s1 by omega, a7 (f + 1 + s2), b7 (f + 1), (hop f).2 w]
theorem ngX_C {o p : Nat → Int} {b : Nat} {x : SX} (ox : XO x) (hx : CE o p b x) (ho : o (b + x.1) = 2) : CE o p b (ngX x) := by
  intro M x3 x2 x4 x6 hs he r4 hd hb h240 h6 h7
  have hl : (ngX x).1 = x.1 + 1 := rfl
  have hdp : (ngX x).2.1 = x.2.1 := rfl
  obtain ⟨s1, M1, a1, a2, a3, a4, a5⟩ := hx M x3 x2 x4 x6 (fun j h1 h2 => hs j h1 (by omega)) he r4 (by omega) (by omega) h240 h6 (by omega)
  cases h1 : x.2.2.2 (M 12) with
  | none =>
    have hv : (ngX x).2.2.2 (M 12) = none := by unfold ngX; simp only [h1]
    exact ⟨s1, M1, by omega, a2, a3, fun v w => (by rw [hv] at w; cases w), fun _ => a5 h1⟩
  | some v1 =>
    obtain ⟨a6, a7⟩ := a4 v1 h1
    have rv1 := ox.2.2.1 (M 12) he v1 h1
    have ec := hs (b + x.1) (by omega) (by omega)
    have hv : (ngX x).2.2.2 (M 12) = some (if v1 = 0 then 1 else 0) := by unfold ngX; simp only [h1]
    refine ⟨s1 + 1, M1, by omega, a2, a3, fun v w => ⟨a6, fun f => ?_⟩, fun w => by rw [hv] at w; cases w⟩
    rw [hv] at w
    have w' := Option.some.inj w
    rw [show f + (s1 + 1) = f + 1 + s1 by omega, a7 (f + 1), rk_1 (by omega) h240 (by omega) (show M1 6 (b + x.1) = 2 by rw [a2 6 (by decide), ec.1]; exact ho) rfl (by decide) rv1, if_neg (by decide), if_neg (by decide), if_pos rfl, w', show ((b + x.1 : Nat) : Int) + 1 = ((b + (ngX x).1 : Nat) : Int) by omega, show x6 + (s1 : Int) + 1 = x6 + ((s1 + 1 : Nat) : Int) by omega]
/-- 'and', 'or' between two: the right one is asked, or not -/
theorem jn_C {M : am_M} {f b x3 l : Nat} {x2 x6 x y o : Int} (hb : (b : Int) < x2) (h2 : x2 ≤ 240) (h6 : 0 ≤ x6 ∧ x6 < 240) (ho : o = 3 ∨ o = 4) (e1 : M 6 b = o) (e2 : M 7 b = ((b + 1 + l : Nat) : Int)) (hl : ((b + 1 + l : Nat) : Int) ≤ 240) (hx : M 13 x3 = y) (rx : am_R x) (h3 : x3 + 1 ≤ 40) : Law_reckon_5_11 (f + 1) x2 ((x3 + 1 : Nat) : Int) x (b : Int) x6 M = if (o = 3 ∧ x ≠ 0) ∨ (o = 4 ∧ x = 0) then Law_reckon_5_11 f x2 ((x3 + 1 : Nat) : Int) x ((b + 1 + l : Nat) : Int) (x6 + 1) M else Law_reckon_5_11 f x2 (x3 : Int) y ((b + 1 : Nat) : Int) (x6 + 1) M := by
  have ro : am_R o := by omega
  have h172 : Law_reckon_5_172 (Law_reckon_5_11 f) x2 ((x3 + 1 : Nat) : Int) x ((b : Int) + 1) x6 ((b + 1 + l : Nat) : Int) M = Law_reckon_5_11 f x2 ((x3 + 1 : Nat) : Int) x ((b + 1 + l : Nat) : Int) (x6 + 1) M := by
    unfold Law_reckon_5_172 Law_reckon_5_186 Law_reckon_5_423
    rw [c_le_p (by omega) (by omega)]
    by_cases q : ((b + 1 + l : Nat) : Int) ≤ (b : Int) + 1
    · rw [if_pos q, show (b : Int) + 1 = ((b + 1 + l : Nat) : Int) by omega]
    · rw [if_neg q]
  have h217 : Law_reckon_5_217 (Law_reckon_5_11 f) x2 ((x3 + 1 : Nat) : Int) x ((b : Int) + 1) x6 o M = Law_reckon_5_11 f x2 (x3 : Int) y ((b + 1 : Nat) : Int) (x6 + 1) M := by
    unfold Law_reckon_5_217 Law_reckon_5_423
    rw [rd_p (by omega), show (((x3 + 1 : Nat) : Int) + -1).toNat = x3 by omega, hx, show ((x3 + 1 : Nat) : Int) + -1 = (x3 : Int) by omega, ck_p ro, show (b : Int) + 1 = ((b + 1 : Nat) : Int) by omega]
    rcases ho with q | q
    · rw [if_pos q]
    · rw [if_neg (by omega), if_pos q]
  have h191 : Law_reckon_5_191 (Law_reckon_5_11 f) x2 ((x3 + 1 : Nat) : Int) x ((b : Int) + 1) x6 o M = Law_reckon_5_11 f x2 (x3 : Int) y ((b + 1 : Nat) : Int) (x6 + 1) M := by
    unfold Law_reckon_5_191
    rw [c_lt_p (by omega) (by decide), if_neg (by omega), c_ne_p rx (by decide), c_eq_p ro (by decide), if_neg (show ¬ (o = 47) by omega), c_ne_p ro (by decide), if_pos (show o ≠ 37 by omega), h217]
    split <;> rfl
  rw [rk_1 hb h2 h6 e1 e2 ro rx, if_neg (by omega), if_neg (by omega), if_neg (by omega), h172]
  unfold Law_reckon_5_161
  rw [c_ne_p ro (by decide), c_ne_p rx (by decide), h191, h172]
  by_cases q : o = 3
  · by_cases z : x = 0
    · rw [if_neg (fun h => h.2 z), if_pos (by omega), if_neg (by omega)]
    · rw [if_pos ⟨q, z⟩, if_pos (Or.inl ⟨q, z⟩)]
  · have q4 : o = 4 := by omega
    rw [if_neg (fun h => q h.1), if_neg (fun h => h q4)]
    by_cases z : x = 0
    · rw [if_neg (fun h => h z), if_pos (Or.inr ⟨q4, z⟩)]
    · rw [if_pos z, if_neg (by omega)]
theorem anX_C {o p : Nat → Int} {b : Nat} {x y : SX} (ox : XO x) (oy : XO y) (hx : CE o p b x) (hy : CE o p (b + x.1 + 1) y) (ho : o (b + x.1) = 4) (hq : p (b + x.1) = ((b + x.1 + 1 + y.1 : Nat) : Int)) : CE o p b (anX x y) := by
  intro M x3 x2 x4 x6 hs he r4 hd hb h240 h6 h7
  have hl : (anX x y).1 = x.1 + y.1 + 1 := rfl
  have hdp : (anX x y).2.1 = max x.2.1 y.2.1 := rfl
  have hm1 := Nat.le_max_left x.2.1 y.2.1
  have hm2 := Nat.le_max_right x.2.1 y.2.1
  have hx1 := ox.1.2
  obtain ⟨s1, M1, a1, a2, a3, a4, a5⟩ := hx M x3 x2 x4 x6 (fun j h1 h2 => hs j h1 (by omega)) he r4 (by omega) (by omega) h240 h6 (by omega)
  have e12 := a2 12 (by decide)
  cases h1 : x.2.2.2 (M 12) with
  | none =>
    have hv : (anX x y).2.2.2 (M 12) = none := by unfold anX; simp only [h1]
    exact ⟨s1, M1, by omega, a2, a3, fun v w => (by rw [hv] at w; cases w), fun _ => a5 h1⟩
  | some v1 =>
    obtain ⟨a6, a7⟩ := a4 v1 h1
    have rv1 := ox.2.2.1 (M 12) he v1 h1
    have ec := hs (b + x.1) (by omega) (by omega)
    have hj := fun f => jn_C (M := M1) (f := f) (b := b + x.1) (x3 := x3) (l := y.1) (x2 := x2) (x6 := x6 + s1) (x := v1) (y := x4) (o := 4) (by omega) h240 (by omega) (Or.inr rfl) (by rw [a2 6 (by decide), ec.1]; exact ho) (by rw [a2 7 (by decide), ec.2]; exact hq) (by omega) a6 rv1 (by omega)
    by_cases q : v1 = 0
    · have hv : (anX x y).2.2.2 (M 12) = some 0 := by unfold anX; simp only [h1, if_pos q]
      refine ⟨s1 + 1, M1, by omega, a2, a3, fun v w => ⟨a6, fun f => ?_⟩, fun w => by rw [hv] at w; cases w⟩
      rw [hv] at w
      have w' := Option.some.inj w
      rw [show f + (s1 + 1) = f + 1 + s1 by omega, a7 (f + 1), hj f, if_pos (Or.inr ⟨rfl, q⟩), q, w', show ((b + x.1 + 1 + y.1 : Nat) : Int) = ((b + (anX x y).1 : Nat) : Int) by omega, show x6 + (s1 : Int) + 1 = x6 + ((s1 + 1 : Nat) : Int) by omega]
    · have hv : (anX x y).2.2.2 (M 12) = y.2.2.2 (M 12) := by unfold anX; simp only [h1, if_neg q]
      obtain ⟨s2, M2, b1, b2, b3, b4, b5⟩ := hy M1 x3 x2 x4 (x6 + s1 + 1) (fun j h1 h2 => by rw [a2 6 (by decide), a2 7 (by decide)]; exact hs j (by omega) (by omega)) (by rw [e12]; exact he) r4 (by omega) (by omega) h240 (by omega) (by omega)
      rw [e12] at b4 b5
      refine ⟨s1 + 1 + s2, M2, by omega, fun k hk => (b2 k hk).trans (a2 k hk), fun j hj => (b3 j hj).trans (a3 j hj), fun v w => ?_, fun w f => ?_⟩
      · rw [hv] at w
        obtain ⟨b6, b7⟩ := b4 v w
        refine ⟨b6, fun f => ?_⟩
        rw [show f + (s1 + 1 + s2) = f + s2 + 1 + s1 by omega, a7 (f + s2 + 1), hj (f + s2), if_neg (by omega), b7 f, show ((b + x.1 + 1 + y.1 : Nat) : Int) = ((b + (anX x y).1 : Nat) : Int) by omega, show x6 + (s1 : Int) + 1 + (s2 : Int) = x6 + ((s1 + 1 + s2 : Nat) : Int) by omega]
      · rw [hv] at w
        rw [show f + (s1 + 1 + s2) = f + s2 + 1 + s1 by omega, a7 (f + s2 + 1), hj (f + s2), if_neg (by omega), b5 w f]
theorem roX_C {o p : Nat → Int} {b : Nat} {x y : SX} (ox : XO x) (oy : XO y) (hx : CE o p b x) (hy : CE o p (b + x.1 + 1) y) (ho : o (b + x.1) = 3) (hq : p (b + x.1) = ((b + x.1 + 1 + y.1 : Nat) : Int)) : CE o p b (roX x y) := by
  intro M x3 x2 x4 x6 hs he r4 hd hb h240 h6 h7
  have hl : (roX x y).1 = x.1 + y.1 + 1 := rfl
  have hdp : (roX x y).2.1 = max x.2.1 y.2.1 := rfl
  have hm1 := Nat.le_max_left x.2.1 y.2.1
  have hm2 := Nat.le_max_right x.2.1 y.2.1
  have hx1 := ox.1.2
  obtain ⟨s1, M1, a1, a2, a3, a4, a5⟩ := hx M x3 x2 x4 x6 (fun j h1 h2 => hs j h1 (by omega)) he r4 (by omega) (by omega) h240 h6 (by omega)
  have e12 := a2 12 (by decide)
  cases h1 : x.2.2.2 (M 12) with
  | none =>
    have hv : (roX x y).2.2.2 (M 12) = none := by unfold roX; simp only [h1]
    exact ⟨s1, M1, by omega, a2, a3, fun v w => (by rw [hv] at w; cases w), fun _ => a5 h1⟩
  | some v1 =>
    obtain ⟨a6, a7⟩ := a4 v1 h1
    have rv1 := ox.2.2.1 (M 12) he v1 h1
    have ec := hs (b + x.1) (by omega) (by omega)
    have hj := fun f => jn_C (M := M1) (f := f) (b := b + x.1) (x3 := x3) (l := y.1) (x2 := x2) (x6 := x6 + s1) (x := v1) (y := x4) (o := 3) (by omega) h240 (by omega) (Or.inl rfl) (by rw [a2 6 (by decide), ec.1]; exact ho) (by rw [a2 7 (by decide), ec.2]; exact hq) (by omega) a6 rv1 (by omega)
    by_cases q : v1 = 0
    · have hv : (roX x y).2.2.2 (M 12) = y.2.2.2 (M 12) := by unfold roX; simp only [h1, if_pos q]
      obtain ⟨s2, M2, b1, b2, b3, b4, b5⟩ := hy M1 x3 x2 x4 (x6 + s1 + 1) (fun j h1 h2 => by rw [a2 6 (by decide), a2 7 (by decide)]; exact hs j (by omega) (by omega)) (by rw [e12]; exact he) r4 (by omega) (by omega) h240 (by omega) (by omega)
      rw [e12] at b4 b5
      refine ⟨s1 + 1 + s2, M2, by omega, fun k hk => (b2 k hk).trans (a2 k hk), fun j hj => (b3 j hj).trans (a3 j hj), fun v w => ?_, fun w f => ?_⟩
      · rw [hv] at w
        obtain ⟨b6, b7⟩ := b4 v w
        refine ⟨b6, fun f => ?_⟩
        rw [show f + (s1 + 1 + s2) = f + s2 + 1 + s1 by omega, a7 (f + s2 + 1), hj (f + s2), if_neg (by omega), b7 f, show ((b + x.1 + 1 + y.1 : Nat) : Int) = ((b + (roX x y).1 : Nat) : Int) by omega, show x6 + (s1 : Int) + 1 + (s2 : Int) = x6 + ((s1 + 1 + s2 : Nat) : Int) by omega]
      · rw [hv] at w
        rw [show f + (s1 + 1 + s2) = f + s2 + 1 + s1 by omega, a7 (f + s2 + 1), hj (f + s2), if_neg (by omega), b5 w f]
    · have hv : (roX x y).2.2.2 (M 12) = some v1 := by unfold roX; simp only [h1, if_neg q]
      refine ⟨s1 + 1, M1, by omega, a2, a3, fun v w => ⟨a6, fun f => ?_⟩, fun w => by rw [hv] at w; cases w⟩
      rw [hv] at w
      have w' := Option.some.inj w
      rw [show f + (s1 + 1) = f + 1 + s1 by omega, a7 (f + 1), hj f, if_pos (Or.inl ⟨rfl, q⟩), w', show ((b + x.1 + 1 + y.1 : Nat) : Int) = ((b + (roX x y).1 : Nat) : Int) by omega, show x6 + (s1 : Int) + 1 = x6 + ((s1 + 1 : Nat) : Int) by omega]
