-- the law: what it says
/-- a reckoning: its rows, its depth, whether it holds or not, what it comes to -/
abbrev SX : Type := Nat × Nat × Bool × ((Nat → Int) → Option Int)
def opS (o x y : Int) : Option Int :=
  if o = 37 then (if y = 0 then none else some (Int.tmod x y)) else
  if o = 42 then some (am_nm (x * y)) else
  if o = 43 then some (am_nm (x + y)) else
  if o = 45 then some (am_nm (x - y)) else
  if o = 47 then (if y = 0 then none else some (am_nm (Int.tdiv x y))) else
  if o = 60 then some (if x < y then 1 else 0) else
  if o = 62 then some (if y < x then 1 else 0) else some (if x = y then 1 else 0)
abbrev cpO (o : Int) : Prop := o = 60 ∨ o = 61 ∨ o = 62
abbrev arO (o : Int) : Prop := o = 37 ∨ o = 42 ∨ o = 43 ∨ o = 45 ∨ o = 47
def nuX (v : Int) : SX := (1, 1, false, fun _ => some v)
def leX (i : Nat) : SX := (1, 1, false, fun e => some (e i))
def biX (o : Int) (a b : SX) : SX := (a.1 + b.1 + 1, max a.2.1 (b.2.1 + 1), decide (cpO o), fun e => match a.2.2.2 e with
  | none => none
  | some x => match b.2.2.2 e with
    | none => none
    | some y => opS o x y)
def ngX (a : SX) : SX := (a.1 + 1, a.2.1, true, fun e => match a.2.2.2 e with
  | none => none
  | some x => some (if x = 0 then 1 else 0))
def anX (a b : SX) : SX := (a.1 + b.1 + 1, max a.2.1 b.2.1, true, fun e => match a.2.2.2 e with
  | none => none
  | some x => if x = 0 then some 0 else b.2.2.2 e)
def roX (a b : SX) : SX := (a.1 + b.1 + 1, max a.2.1 b.2.1, true, fun e => match a.2.2.2 e with
  | none => none
  | some x => if x = 0 then b.2.2.2 e else some x)
def XO (x : SX) : Prop := (1 ≤ x.1 ∧ 1 ≤ x.2.1) ∧ (∀ e e', (∀ j, j < 7 → e j = e' j) → x.2.2.2 e = x.2.2.2 e') ∧ (∀ e, (∀ j, j < 7 → am_R (e j)) → ∀ v, x.2.2.2 e = some v → am_R v) ∧ (x.2.2.1 = true → ∀ e v, x.2.2.2 e = some v → v = 0 ∨ v = 1)
theorem tmod_R {x y : Int} (hy : am_R y) (h : y ≠ 0) : am_R (Int.tmod x y) := by
  have h1 := Int.natAbs_tmod x y
  have h2 := Nat.mod_lt x.natAbs (show 0 < y.natAbs by omega)
  omega
theorem opS_R {o x y v : Int} (hy : am_R y) (h : opS o x y = some v) : am_R v := by
  unfold opS at h
  repeat' split at h
  all_goals first
    | cases h; done
    | (injection h with h; subst h; first | exact nm_b _ | exact tmod_R hy (by assumption) | decide)
theorem opS_B {o x y v : Int} (ho : cpO o) (h : opS o x y = some v) : v = 0 ∨ v = 1 := by
  unfold opS at h
  rw [if_neg (by omega), if_neg (by omega), if_neg (by omega), if_neg (by omega), if_neg (by omega)] at h
  repeat' split at h
  all_goals (injection h with h; subst h; first | exact Or.inl rfl | exact Or.inr rfl)
theorem nuX_O {v : Int} (h : 0 ≤ v ∧ v ≤ 99999) : XO (nuX v) := ⟨⟨Nat.le_refl _, Nat.le_refl _⟩, fun _ _ _ => rfl, fun e _ w hw => by
  have : v = w := Option.some.inj hw
  omega, fun z => by cases z⟩
theorem leX_O {i : Nat} (h : i < 7) : XO (leX i) := ⟨⟨Nat.le_refl _, Nat.le_refl _⟩, fun e e' he => by show some (e i) = some (e' i); rw [he i h], fun e he w hw => by
  have : e i = w := Option.some.inj hw
  rw [← this]
  exact he i h, fun z => by cases z⟩
theorem biX_O {o : Int} {a b : SX} (ha : XO a) (hb : XO b) : XO (biX o a b) := by
  refine ⟨⟨by show 1 ≤ a.1 + b.1 + 1; omega, by show 1 ≤ max a.2.1 (b.2.1 + 1); omega⟩, fun e e' he => ?_, fun e he v hv => ?_, fun z e v hv => ?_⟩
  · unfold biX
    dsimp only
    rw [ha.2.1 e e' he, hb.2.1 e e' he]
  · unfold biX at hv
    dsimp only at hv
    cases h1 : a.2.2.2 e with
    | none => rw [h1] at hv; cases hv
    | some x =>
      rw [h1] at hv
      cases h2 : b.2.2.2 e with
      | none => rw [h2] at hv; cases hv
      | some y =>
        rw [h2] at hv
        exact opS_R (hb.2.2.1 e he y h2) hv
  · unfold biX at hv z
    dsimp only at hv z
    cases h1 : a.2.2.2 e with
    | none => rw [h1] at hv; cases hv
    | some x =>
      rw [h1] at hv
      cases h2 : b.2.2.2 e with
      | none => rw [h2] at hv; cases hv
      | some y =>
        rw [h2] at hv
        exact opS_B (of_decide_eq_true z) hv
theorem ngX_O {a : SX} (ha : XO a) : XO (ngX a) := by
  have hB : ∀ e v, (ngX a).2.2.2 e = some v → v = 0 ∨ v = 1 := fun e v hv => by
    unfold ngX at hv
    dsimp only at hv
    cases h1 : a.2.2.2 e with
    | none => rw [h1] at hv; cases hv
    | some x =>
      rw [h1] at hv
      have := Option.some.inj hv
      rw [← this]
      split
      · exact Or.inr rfl
      · exact Or.inl rfl
  refine ⟨⟨by show 1 ≤ a.1 + 1; omega, ha.1.2⟩, fun e e' he => ?_, fun e _ v hv => by have := hB e v hv; omega, fun _ => hB⟩
  unfold ngX
  dsimp only
  rw [ha.2.1 e e' he]
theorem anX_O {a b : SX} (ha : XO a) (hb : XO b) (bb : b.2.2.1 = true) : XO (anX a b) := by
  have hB : ∀ e v, (anX a b).2.2.2 e = some v → v = 0 ∨ v = 1 := fun e v hv => by
    unfold anX at hv
    dsimp only at hv
    cases h1 : a.2.2.2 e with
    | none => rw [h1] at hv; cases hv
    | some x =>
      rw [h1] at hv
      dsimp only at hv
      by_cases q : x = 0
      · rw [if_pos q] at hv
        have := Option.some.inj hv
        omega
      · rw [if_neg q] at hv
        exact hb.2.2.2 bb e v hv
  refine ⟨⟨by show 1 ≤ a.1 + b.1 + 1; omega, by have := ha.1.2; show 1 ≤ max a.2.1 b.2.1; omega⟩, fun e e' he => ?_, fun e _ v hv => by have := hB e v hv; omega, fun _ => hB⟩
  unfold anX
  dsimp only
  rw [ha.2.1 e e' he, hb.2.1 e e' he]
theorem roX_O {a b : SX} (ha : XO a) (hb : XO b) (ba : a.2.2.1 = true) (bb : b.2.2.1 = true) : XO (roX a b) := by
  have hB : ∀ e v, (roX a b).2.2.2 e = some v → v = 0 ∨ v = 1 := fun e v hv => by
    unfold roX at hv
    dsimp only at hv
    cases h1 : a.2.2.2 e with
    | none => rw [h1] at hv; cases hv
    | some x =>
      rw [h1] at hv
      dsimp only at hv
      by_cases q : x = 0
      · rw [if_pos q] at hv
        exact hb.2.2.2 bb e v hv
      · rw [if_neg q] at hv
        have := Option.some.inj hv
        have := ha.2.2.2 ba e x h1
        omega
  refine ⟨⟨by show 1 ≤ a.1 + b.1 + 1; omega, by have := ha.1.2; show 1 ≤ max a.2.1 b.2.1; omega⟩, fun e e' he => ?_, fun e _ v hv => by have := hB e v hv; omega, fun _ => hB⟩
  unfold roX
  dsimp only
  rw [ha.2.1 e e' he, hb.2.1 e e' he]
-- the class reckons
def CK (M : am_M) (x : SX) (b x3 : Nat) (x2 x4 x6 : Int) : Prop := ∃ (s : Nat) (M' : am_M), s ≤ x.1 ∧ (∀ k, k ≠ 13 → M' k = M k) ∧ (∀ j, j < x3 → M' 13 j = M 13 j) ∧ (∀ v, x.2.2.2 (M 12) = some v → M' 13 x3 = x4 ∧ ∀ f, Law_reckon_5_11 (f + s) x2 (x3 : Int) x4 (b : Int) x6 M = Law_reckon_5_11 f x2 ((x3 + 1 : Nat) : Int) v ((b + x.1 : Nat) : Int) (x6 + s) M') ∧ (x.2.2.2 (M 12) = none → ∀ f, Law_reckon_5_11 (f + s) x2 (x3 : Int) x4 (b : Int) x6 M = some (0, M'))
def CE (o p : Nat → Int) (b : Nat) (x : SX) : Prop := ∀ (M : am_M) (x3 : Nat) (x2 x4 x6 : Int), (∀ j, b ≤ j → j < b + x.1 → M 6 j = o j ∧ M 7 j = p j) → (∀ j, j < 7 → am_R (M 12 j)) → am_R x4 → x3 + x.2.1 ≤ 40 → ((b + x.1 : Nat) : Int) ≤ x2 → x2 ≤ 240 → 0 ≤ x6 → x6 + x.1 ≤ 240 → CK M x b x3 x2 x4 x6
theorem CE.cg {o p o' p' : Nat → Int} {b : Nat} {x : SX} (h : CE o p b x) (e : ∀ j, b ≤ j → j < b + x.1 → o' j = o j ∧ p' j = p j) : CE o' p' b x := fun M x3 x2 x4 x6 hs => h M x3 x2 x4 x6 (fun j h1 h2 => by rw [(hs j h1 h2).1, (hs j h1 h2).2, (e j h1 h2).1, (e j h1 h2).2]; exact ⟨rfl, rfl⟩)
/-- one row of the class's text -/
theorem rk_1 {M : am_M} {f b : Nat} {x2 x3 x4 x6 : Int} (hb : (b : Int) < x2) (h2 : x2 ≤ 240) (h6 : 0 ≤ x6 ∧ x6 < 240) {v1 v2 : Int} (e1 : M 6 b = v1) (e2 : M 7 b = v2) (r1 : am_R v1) (r4 : am_R x4) : Law_reckon_5_11 (f + 1) x2 x3 x4 (b : Int) x6 M = if v1 = 0 then Law_reckon_5_70 (Law_reckon_5_11 f) x2 x3 x4 ((b : Int) + 1) x6 v1 v2 M else if v1 = 1 then Law_reckon_5_70 (Law_reckon_5_11 f) x2 x3 x4 ((b : Int) + 1) x6 v1 v2 M else if v1 = 2 then Law_reckon_5_11 f x2 x3 (if x4 = 0 then 1 else 0) ((b : Int) + 1) (x6 + 1) M else if v1 = 3 ∧ x4 ≠ 0 then Law_reckon_5_172 (Law_reckon_5_11 f) x2 x3 x4 ((b : Int) + 1) x6 v2 M else Law_reckon_5_161 (Law_reckon_5_11 f) x2 x3 x4 ((b : Int) + 1) x6 v1 v2 M := by
  rw [Law_reckon_5_11]
  unfold Law_reckon_5_145 Law_reckon_5_423
  rw [c_ge_p (by omega) (by decide), if_neg (by omega), c_lt_p (by omega) (by decide), if_neg (by omega), c_ge_p (by omega) (by omega), if_neg (by omega), c_ge_p (by omega) (by decide), if_neg (by omega), rd_p (by omega), rd_p (by omega), show ((b : Int)).toNat = b by omega, e1, e2, c_eq_p r1 (by decide), c_ne_p r1 (by decide), c_ne_p r1 (by decide), c_ne_p r1 (by decide), c_ne_p r4 (by decide), c_ne_p r4 (by decide)]
  by_cases q0 : v1 = 0
  · rw [if_pos q0, if_pos q0]
  rw [if_neg q0, if_neg q0]
  by_cases q1 : v1 = 1
  · rw [if_neg (fun h => h q1), if_pos q1]
  rw [if_pos q1, if_neg q1]
  by_cases q2 : v1 = 2
  · rw [if_neg (fun h => h q2), if_pos q2]
    by_cases q : x4 = 0
    · rw [if_neg (fun h => h q), if_pos q]
    · rw [if_pos q, if_neg q]
  rw [if_pos q2, if_neg q2]
  by_cases q3 : v1 = 3
  · rw [if_neg (fun h => h q3)]
    by_cases q : x4 = 0
    · rw [if_neg (fun h => h q), if_neg (fun h => h.2 q)]
    · rw [if_pos q, if_pos ⟨q3, q⟩]
  · rw [if_pos q3, if_neg (fun h => q3 h.1)]
theorem nuX_C {o p : Nat → Int} {b : Nat} {v : Int} (h1 : o b = 0) (h2 : p b = v) (hv : 0 ≤ v ∧ v ≤ 99999) : CE o p b (nuX v) := by
  intro M x3 x2 x4 x6 hs he r4 hd hb h240 h6 h7
  have hl : (nuX v).1 = 1 := rfl
  have hd1 : (nuX v).2.1 = 1 := rfl
  have ec := hs b (by omega) (by omega)
  refine ⟨1, am_up M 13 x3 x4, by omega, fun k hk => upo hk, fun j hj => upx (by omega), fun w hw => ⟨upj, fun f => ?_⟩, fun z => by cases z⟩
  have hw' : v = w := Option.some.inj hw
  subst hw'
  rw [rk_1 (by omega) h240 (by omega) (ec.1.trans h1) (ec.2.trans h2) (by decide) r4, if_pos rfl]
  unfold Law_reckon_5_70 Law_reckon_5_96 Law_reckon_5_124 Law_reckon_5_423
  rw [c_ge_p (by omega) (by decide), if_neg (by omega), c_lt_p (by omega) (by decide), if_neg (by omega), c_ne_p (by decide) (by decide), if_pos (by decide), wa_p (by omega), c_ne_p (by decide) (by decide), if_neg (by decide), show ((x3 : Int)).toNat = x3 by omega, hl]
  rfl
theorem leX_C {o p : Nat → Int} {b i : Nat} (h1 : o b = 1) (h2 : p b = i) (hi : i < 7) : CE o p b (leX i) := by
  intro M x3 x2 x4 x6 hs he r4 hd hb h240 h6 h7
  have hl : (leX i).1 = 1 := rfl
  have hd1 : (leX i).2.1 = 1 := rfl
  have ec := hs b (by omega) (by omega)
  refine ⟨1, am_up M 13 x3 x4, by omega, fun k hk => upo hk, fun j hj => upx (by omega), fun w hw => ⟨upj, fun f => ?_⟩, fun z => by cases z⟩
  have hw' : M 12 i = w := Option.some.inj hw
  rw [rk_1 (by omega) h240 (by omega) (ec.1.trans h1) (ec.2.trans h2) (by decide) r4, if_neg (by decide), if_pos rfl]
  unfold Law_reckon_5_70 Law_reckon_5_96 Law_reckon_5_124 Law_reckon_5_423
  rw [c_ge_p (by omega) (by decide), if_neg (by omega), c_lt_p (by omega) (by decide), if_neg (by omega), c_ne_p (by decide) (by decide), if_neg (by decide), c_lt_p (by omega) (by decide), if_pos (by omega), wa_p (by omega), c_ne_p (by decide) (by decide), if_pos (by decide), rd_p (by omega), upo (by decide), show ((i : Int)).toNat = i by omega, hw', show ((x3 : Int)).toNat = x3 by omega, hl]
  rfl
