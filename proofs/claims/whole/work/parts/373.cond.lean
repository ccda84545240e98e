-- the law read: conditions
def jn1 (o : Int) : List SX → List SX
  | y :: x :: r => (if o = 38 then anX x y else roX x y) :: r
  | v => v
def joS (a : Bool) : List Int → List SX → List SX × List Int
  | [], vs => (vs, [])
  | c :: r, vs => if c = 38 ∨ (a = true ∧ c = 124) then joS a r (jn1 c vs) else (vs, c :: r)
def ng1 : List SX → List SX
  | x :: r => ngX x :: r
  | v => v
def enS : List Int → List SX → List SX × List Int
  | [], vs => (vs, [])
  | c :: r, vs => if c = 33 then enS r (ng1 vs) else (vs, c :: r)
theorem jo_n {a : Bool} {ops : List Int} {vs : List SX} (h : ¬ (hdO ops = 38 ∨ (a = true ∧ hdO ops = 124))) : joS a ops vs = (vs, ops) := by
  cases ops with
  | nil => rfl
  | cons c r =>
    unfold joS
    exact if_neg h
theorem en_n {ops : List Int} {vs : List SX} (h : hdO ops ≠ 33) : enS ops vs = (vs, ops) := by
  cases ops with
  | nil => rfl
  | cons c r =>
    unfold enS
    exact if_neg h
/-- a test of two values, read up to its end -/
noncomputable def tsB (g : am_M) (n : Int) (rec : VT) (p : Int) (vs : List SX) (ops : List Int) : VR :=
  if (vfin g n false p vs ops).1 ≠ 0 then ((vfin g n false p vs ops).1, 0, [], []) else
  if cpO (taS g n (vfin g n false p vs ops).2.1) then
    (if (vfin g n false ((vfin g n false p vs ops).2.1 + 1) (vfin g n false p vs ops).2.2.1 (taS g n (vfin g n false p vs ops).2.1 :: (vfin g n false p vs ops).2.2.2)).1 ≠ 0 then ((vfin g n false ((vfin g n false p vs ops).2.1 + 1) (vfin g n false p vs ops).2.2.1 (taS g n (vfin g n false p vs ops).2.1 :: (vfin g n false p vs ops).2.2.2)).1, 0, [], []) else
     if p < (vfin g n false ((vfin g n false p vs ops).2.1 + 1) (vfin g n false p vs ops).2.2.1 (taS g n (vfin g n false p vs ops).2.1 :: (vfin g n false p vs ops).2.2.2)).2.1 ∧ (vfin g n false ((vfin g n false p vs ops).2.1 + 1) (vfin g n false p vs ops).2.2.1 (taS g n (vfin g n false p vs ops).2.1 :: (vfin g n false p vs ops).2.2.2)).2.1 ≤ n then
      rec true (vfin g n false ((vfin g n false p vs ops).2.1 + 1) (vfin g n false p vs ops).2.2.1 (taS g n (vfin g n false p vs ops).2.1 :: (vfin g n false p vs ops).2.2.2)).2.1
        (enS (vfin g n false ((vfin g n false p vs ops).2.1 + 1) (vfin g n false p vs ops).2.2.1 (taS g n (vfin g n false p vs ops).2.1 :: (vfin g n false p vs ops).2.2.2)).2.2.2.tail (rd1 (taS g n (vfin g n false p vs ops).2.1) (vfin g n false ((vfin g n false p vs ops).2.1 + 1) (vfin g n false p vs ops).2.2.1 (taS g n (vfin g n false p vs ops).2.1 :: (vfin g n false p vs ops).2.2.2)).2.2.1)).1
        (enS (vfin g n false ((vfin g n false p vs ops).2.1 + 1) (vfin g n false p vs ops).2.2.1 (taS g n (vfin g n false p vs ops).2.1 :: (vfin g n false p vs ops).2.2.2)).2.2.2.tail (rd1 (taS g n (vfin g n false p vs ops).2.1) (vfin g n false ((vfin g n false p vs ops).2.1 + 1) (vfin g n false p vs ops).2.2.1 (taS g n (vfin g n false p vs ops).2.1 :: (vfin g n false p vs ops).2.2.2)).2.2.1)).2
     else (0, 0, [], []))
  else (-1000 - (vfin g n false p vs ops).2.1, 0, [], [])
theorem ts_b {g : am_M} {n p : Int} {rec : VT} {vs : List SX} {ops : List Int} {f : Int} (h : (vfin g n false p vs ops).1 = f) (hf : f ≠ 0) : tsB g n rec p vs ops = (f, 0, [], []) := by
  unfold tsB
  rw [if_pos (by rw [h]; exact hf), h]
theorem ts_v {g : am_M} {n p p1 : Int} {rec : VT} {vs vs1 : List SX} {ops ops1 : List Int} (h : vfin g n false p vs ops = (0, p1, vs1, ops1)) : tsB g n rec p vs ops = (if cpO (taS g n p1) then (if (vfin g n false (p1 + 1) vs1 (taS g n p1 :: ops1)).1 ≠ 0 then ((vfin g n false (p1 + 1) vs1 (taS g n p1 :: ops1)).1, 0, [], []) else if p < (vfin g n false (p1 + 1) vs1 (taS g n p1 :: ops1)).2.1 ∧ (vfin g n false (p1 + 1) vs1 (taS g n p1 :: ops1)).2.1 ≤ n then rec true (vfin g n false (p1 + 1) vs1 (taS g n p1 :: ops1)).2.1 (enS (vfin g n false (p1 + 1) vs1 (taS g n p1 :: ops1)).2.2.2.tail (rd1 (taS g n p1) (vfin g n false (p1 + 1) vs1 (taS g n p1 :: ops1)).2.2.1)).1 (enS (vfin g n false (p1 + 1) vs1 (taS g n p1 :: ops1)).2.2.2.tail (rd1 (taS g n p1) (vfin g n false (p1 + 1) vs1 (taS g n p1 :: ops1)).2.2.1)).2 else (0, 0, [], [])) else (-1000 - p1, 0, [], [])) := by
  unfold tsB
  rw [h]
  dsimp only
  rw [if_neg (fun z => z rfl)]
noncomputable def cB (g : am_M) (n : Int) (rec : VT) : VT := fun beh p vs ops =>
  if beh = true then
    (if taS g n p = 38 then rec false (p + 1) (joS false ops vs).1 (38 :: (joS false ops vs).2) else
     if taS g n p = 124 then rec false (p + 1) (joS true ops vs).1 (124 :: (joS true ops vs).2) else
     if taS g n p = 41 then (if (joS true ops vs).2.tail.length = 0 then (0, p + 1, (joS true ops vs).1, []) else rec true (p + 1) (enS (joS true ops vs).2.tail (joS true ops vs).1).1 (enS (joS true ops vs).2.tail (joS true ops vs).1).2) else
     (-1000 - p, 0, [], []))
  else
    (if taS g n p = 33 ∨ taS g n p = 40 then (if opn ops = 6 then (-5000 - p, 0, [], []) else rec false (p + 1) vs (taS g n p :: ops)) else tsB g n rec p vs ops)
theorem cB_cg {g : am_M} {n : Int} {r r' : VT} {beh : Bool} {p : Int} {vs : List SX} {ops : List Int} (h0 : 0 ≤ p) (h1 : p ≤ n) (h : ∀ b q w o, p < q → q ≤ n → r b q w o = r' b q w o) : cB g n r beh p vs ops = cB g n r' beh p vs ops := by
  have hp : 0 ≤ taS g n p → p + 1 ≤ n := fun z => by have := ta_n (g := g) (n := n) h0 z; omega
  unfold cB
  by_cases q0 : beh = true
  · rw [if_pos q0, if_pos q0]
    by_cases q1 : taS g n p = 38
    · rw [if_pos q1, if_pos q1]
      exact h _ _ _ _ (by omega) (hp (by omega))
    rw [if_neg q1, if_neg q1]
    by_cases q2 : taS g n p = 124
    · rw [if_pos q2, if_pos q2]
      exact h _ _ _ _ (by omega) (hp (by omega))
    rw [if_neg q2, if_neg q2]
    by_cases q3 : taS g n p = 41
    · rw [if_pos q3, if_pos q3]
      by_cases q4 : (joS true ops vs).2.tail.length = 0
      · rw [if_pos q4, if_pos q4]
      · rw [if_neg q4, if_neg q4]
        exact h _ _ _ _ (by omega) (hp (by omega))
    · rw [if_neg q3, if_neg q3]
  · rw [if_neg q0, if_neg q0]
    by_cases q1 : taS g n p = 33 ∨ taS g n p = 40
    · rw [if_pos q1, if_pos q1]
      by_cases q2 : opn ops = 6
      · rw [if_pos q2, if_pos q2]
      · rw [if_neg q2, if_neg q2]
        exact h _ _ _ _ (by omega) (hp (by omega))
    rw [if_neg q1, if_neg q1]
    cases e1 : vfin g n false p vs ops with
    | mk f w =>
      obtain ⟨p1, vs1, ops1⟩ := w
      by_cases q2 : f = 0
      · subst q2
        rw [ts_v e1, ts_v e1]
        by_cases q3 : cpO (taS g n p1)
        · rw [if_pos q3, if_pos q3]
          by_cases q4 : (vfin g n false (p1 + 1) vs1 (taS g n p1 :: ops1)).1 ≠ 0
          · rw [if_pos q4, if_pos q4]
          · rw [if_neg q4, if_neg q4]
            by_cases q5 : p < (vfin g n false (p1 + 1) vs1 (taS g n p1 :: ops1)).2.1 ∧ (vfin g n false (p1 + 1) vs1 (taS g n p1 :: ops1)).2.1 ≤ n
            · rw [if_pos q5, if_pos q5]
              exact h _ _ _ _ q5.1 q5.2
            · rw [if_neg q5, if_neg q5]
        · rw [if_neg q3, if_neg q3]
      · rw [ts_b (f := f) (by rw [e1]) q2, ts_b (f := f) (by rw [e1]) q2]
noncomputable def cS (g : am_M) (n : Int) : Nat → VT
  | 0 => fun _ p vs ops => (0, p, vs, ops)
  | k + 1 => cB g n (cS g n k)
theorem cS_fu {g : am_M} {n : Int} : ∀ (k k' : Nat) (beh : Bool) (p : Int) (vs : List SX) (ops : List Int), 0 ≤ p → p ≤ n → n < p + k → n < p + k' → cS g n k beh p vs ops = cS g n k' beh p vs ops
  | 0, k', beh, p, vs, ops, h0, h1, h2, h3 => by omega
  | k + 1, 0, beh, p, vs, ops, h0, h1, h2, h3 => by omega
  | k + 1, k' + 1, beh, p, vs, ops, h0, h1, h2, h3 => cB_cg (r := cS g n k) (r' := cS g n k') h0 h1 (fun b q w o z1 z2 => cS_fu k k' b q w o (by omega) z2 (by omega) (by omega))
theorem cf_x : ∃ V : am_M → Int → VT, ∀ {g : am_M} {n p : Int} {beh : Bool} {vs : List SX} {ops : List Int}, n ≤ 240 → 0 ≤ p → p ≤ n → V g n beh p vs ops = cB g n (V g n) beh p vs ops := ⟨fun g n => cS g n 1000, fun {g n p beh vs ops} hn h0 h1 => cB_cg (r := cS g n 999) (r' := cS g n 1000) h0 h1 (fun b q w o z1 z2 => cS_fu 999 1000 b q w o (by omega) z2 (by omega) (by omega))⟩
noncomputable def cfin : am_M → Int → VT := Classical.choose cf_x
theorem cf_e {g : am_M} {n p : Int} {beh : Bool} {vs : List SX} {ops : List Int} (hn : n ≤ 240) (h0 : 0 ≤ p) (h1 : p ≤ n) : cfin g n beh p vs ops = cB g n (cfin g n) beh p vs ops := Classical.choose_spec cf_x hn h0 h1
theorem cf_A {g : am_M} {n p : Int} {x y : SX} {vs : List SX} {ops : List Int} (hn : n ≤ 240) (h0 : 0 ≤ p) (h1 : p ≤ n) : cfin g n true p (y :: x :: vs) (38 :: ops) = cfin g n true p (anX x y :: vs) ops := by
  have e1 : ∀ a, joS a (38 :: ops) (y :: x :: vs) = joS a ops (anX x y :: vs) := fun a => by
    show (if (38 : Int) = 38 ∨ _ then joS a ops (jn1 38 (y :: x :: vs)) else _) = _
    rw [if_pos (Or.inl rfl)]
    rfl
  rw [cf_e hn h0 h1, cf_e (vs := anX x y :: vs) hn h0 h1]
  unfold cB
  rw [if_pos rfl, if_pos rfl, e1, e1]
theorem cf_O {g : am_M} {n p : Int} {x y : SX} {vs : List SX} {ops : List Int} (hn : n ≤ 240) (h0 : 0 ≤ p) (h1 : p ≤ n) (ht : taS g n p ≠ 38) : cfin g n true p (y :: x :: vs) (124 :: ops) = cfin g n true p (roX x y :: vs) ops := by
  have e1 : joS true (124 :: ops) (y :: x :: vs) = joS true ops (roX x y :: vs) := by
    show (if (124 : Int) = 38 ∨ (true = true ∧ (124 : Int) = 124) then joS true ops (jn1 124 (y :: x :: vs)) else _) = _
    rw [if_pos (Or.inr ⟨rfl, rfl⟩)]
    rfl
  rw [cf_e hn h0 h1, cf_e (vs := roX x y :: vs) hn h0 h1]
  unfold cB
  rw [if_pos rfl, if_pos rfl, if_neg ht, if_neg ht, e1]
