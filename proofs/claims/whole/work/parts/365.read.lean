-- the law read: values
abbrev tiO (c : Int) : Prop := c = 42 ∨ c = 47 ∨ c = 37
abbrev plO (c : Int) : Prop := c = 43 ∨ c = 45
def lxS (c : Int) : Int := if c = 97 then 2 else if c = 102 then 5 else if c = 107 then 0 else if c = 113 then 4 else if c = 116 then 3 else if c = 119 then 1 else if c = 121 then 6 else -1
theorem lxS_b (c : Int) : -1 ≤ lxS c ∧ lxS c ≤ 6 := by
  unfold lxS
  repeat' split
  all_goals omega
theorem lxS_c {c : Int} (h : 0 ≤ lxS c) : ltC (lxS c).toNat = c := by
  unfold lxS at h ⊢
  repeat' split
  all_goals first
    | (rename_i q; rw [q]; rfl)
    | (exfalso; repeat' split at h; all_goals omega)
def opn : List Int → Nat
  | [] => 0
  | c :: r => (if c = 91 ∨ c = 40 ∨ c = 33 then 1 else 0) + opn r
def hdO : List Int → Int
  | [] => 0
  | c :: _ => c
def rd1 (o : Int) : List SX → List SX
  | y :: x :: r => biX o x y :: r
  | v => v
def smS (a : Bool) : List Int → List SX → List SX × List Int
  | [], vs => (vs, [])
  | c :: r, vs => if tiO c ∨ (a = true ∧ plO c) then smS a r (rd1 c vs) else (vs, c :: r)
theorem sm_n {a : Bool} {ops : List Int} {vs : List SX} (h : ¬ (tiO (hdO ops) ∨ (a = true ∧ plO (hdO ops)))) : smS a ops vs = (vs, ops) := by
  cases ops with
  | nil => rfl
  | cons c r =>
    unfold smS
    exact if_neg h
def nrd (g : am_M) (n : Int) : Nat → Int → Int → Int × Int
  | 0, p, a => (p, a)
  | k + 1, p, a => if dgB g n p then nrd g n k (p + 1) (10 * a + taS g n p - 48) else (p, a)
theorem nrd_b {g : am_M} {n : Int} : ∀ (k : Nat) (p a : Int), 0 ≤ a → (0 ≤ (nrd g n k p a).2 ∧ (nrd g n k p a).2 + 1 ≤ (a + 1) * 10 ^ k) ∧ p ≤ (nrd g n k p a).1 ∧ (nrd g n k p a).1 ≤ p + k ∧ (0 ≤ p → p ≤ n → (nrd g n k p a).1 ≤ n)
  | 0, p, a, h => by
    unfold nrd
    dsimp only
    rw [Int.pow_zero, Int.mul_one]
    omega
  | k + 1, p, a, h => by
    unfold nrd
    by_cases q : dgB g n p
    · rw [if_pos q]
      obtain ⟨⟨a1, a2⟩, a3, a4, a5⟩ := nrd_b k (p + 1) (10 * a + taS g n p - 48) (by omega)
      have h1 : (10 * a + taS g n p - 48 + 1) * 10 ^ k ≤ (10 * (a + 1)) * 10 ^ k := Int.mul_le_mul_of_nonneg_right (by omega) (Int.le_of_lt (Int.pow_pos (by decide)))
      have h2 : (a + 1) * 10 ^ (k + 1) = (10 * (a + 1)) * 10 ^ k := by
        rw [Int.pow_succ, Int.mul_comm (10 ^ k) 10, ← Int.mul_assoc, Int.mul_comm (a + 1) 10]
      refine ⟨⟨a1, by rw [h2]; omega⟩, by omega, by omega, fun p0 p1 => ?_⟩
      have := ta_n (g := g) (n := n) (p := p) p0 (by omega)
      exact a5 (by omega) (by omega)
    · rw [if_neg q]
      have h3 : (1 : Int) ≤ 10 ^ (k + 1) := Int.le_of_lt_add_one (by have := Int.pow_pos (n := 10) (m := k + 1) (by decide); omega)
      have h4 : (a + 1) * 1 ≤ (a + 1) * 10 ^ (k + 1) := Int.mul_le_mul_of_nonneg_left h3 (by omega)
      dsimp only
      omega
abbrev VR : Type := Int × Int × List SX × List Int
abbrev VT : Type := Bool → Int → List SX → List Int → VR
def vB (g : am_M) (n : Int) (rec : VT) : VT := fun beh p vs ops =>
  if beh = true then
    (if tiO (taS g n p) then rec false (p + 1) (smS false ops vs).1 (taS g n p :: (smS false ops vs).2) else
     if plO (taS g n p) then rec false (p + 1) (smS true ops vs).1 (taS g n p :: (smS true ops vs).2) else
     if taS g n p = 93 then (if hdO (smS true ops vs).2 = 91 then rec true (p + 1) (smS true ops vs).1 (smS true ops vs).2.tail else (-1000 - p, 0, [], [])) else
     if hdO (smS true ops vs).2 = 91 then (-1000 - p, 0, [], []) else (0, p, (smS true ops vs).1, (smS true ops vs).2))
  else
    (if taS g n p = 91 then (if opn ops = 6 then (-5000 - p, 0, [], []) else rec false (p + 1) vs (91 :: ops)) else
     if dgB g n p then (if dgB g n (nrd g n 5 p 0).1 then (-2000 - (nrd g n 5 p 0).1, 0, [], []) else rec true (nrd g n 5 p 0).1 (nuX (nrd g n 5 p 0).2 :: vs) ops) else
     if 0 ≤ lxS (taS g n p) then rec true (p + 1) (leX (lxS (taS g n p)).toNat :: vs) ops else (-1000 - p, 0, [], []))
theorem vB_cg {g : am_M} {n : Int} {r r' : VT} {beh : Bool} {p : Int} {vs : List SX} {ops : List Int} (h0 : 0 ≤ p) (h1 : p ≤ n) (h : ∀ b q w o, p < q → q ≤ n → r b q w o = r' b q w o) : vB g n r beh p vs ops = vB g n r' beh p vs ops := by
  have hp : 0 ≤ taS g n p → p + 1 ≤ n := fun z => by have := ta_n (g := g) (n := n) h0 z; omega
  unfold vB
  by_cases q0 : beh = true
  · rw [if_pos q0, if_pos q0]
    by_cases q1 : tiO (taS g n p)
    · rw [if_pos q1, if_pos q1]
      exact h _ _ _ _ (by omega) (hp (by omega))
    rw [if_neg q1, if_neg q1]
    by_cases q2 : plO (taS g n p)
    · rw [if_pos q2, if_pos q2]
      exact h _ _ _ _ (by omega) (hp (by omega))
    rw [if_neg q2, if_neg q2]
    by_cases q3 : taS g n p = 93
    · rw [if_pos q3, if_pos q3]
      by_cases q4 : hdO (smS true ops vs).2 = 91
      · rw [if_pos q4, if_pos q4]
        exact h _ _ _ _ (by omega) (hp (by omega))
      · rw [if_neg q4, if_neg q4]
    · rw [if_neg q3, if_neg q3]
  · rw [if_neg q0, if_neg q0]
    by_cases q1 : taS g n p = 91
    · rw [if_pos q1, if_pos q1]
      by_cases q2 : opn ops = 6
      · rw [if_pos q2, if_pos q2]
      · rw [if_neg q2, if_neg q2]
        exact h _ _ _ _ (by omega) (hp (by omega))
    rw [if_neg q1, if_neg q1]
    by_cases q2 : dgB g n p
    · rw [if_pos q2, if_pos q2]
      by_cases q3 : dgB g n (nrd g n 5 p 0).1
      · rw [if_pos q3, if_pos q3]
      · rw [if_neg q3, if_neg q3]
        have e1 : nrd g n 5 p 0 = nrd g n 4 (p + 1) (10 * 0 + taS g n p - 48) := if_pos q2
        have e2 := nrd_b (g := g) (n := n) 4 (p + 1) (10 * 0 + taS g n p - 48) (by omega)
        have := hp (by omega)
        rw [e1]
        exact h _ _ _ _ (by omega) (e2.2.2.2 (by omega) (by omega))
    rw [if_neg q2, if_neg q2]
    by_cases q3 : 0 ≤ lxS (taS g n p)
    · rw [if_pos q3, if_pos q3]
      refine h _ _ _ _ (by omega) (hp ?_)
      unfold lxS at q3
      repeat' split at q3
      all_goals omega
    · rw [if_neg q3, if_neg q3]
def vS (g : am_M) (n : Int) : Nat → VT
  | 0 => fun _ p vs ops => (0, p, vs, ops)
  | k + 1 => vB g n (vS g n k)
theorem vS_fu {g : am_M} {n : Int} : ∀ (k k' : Nat) (beh : Bool) (p : Int) (vs : List SX) (ops : List Int), 0 ≤ p → p ≤ n → n < p + k → n < p + k' → vS g n k beh p vs ops = vS g n k' beh p vs ops
  | 0, k', beh, p, vs, ops, h0, h1, h2, h3 => by omega
  | k + 1, 0, beh, p, vs, ops, h0, h1, h2, h3 => by omega
  | k + 1, k' + 1, beh, p, vs, ops, h0, h1, h2, h3 => vB_cg (r := vS g n k) (r' := vS g n k') h0 h1 (fun b q w o z1 z2 => vS_fu k k' b q w o (by omega) z2 (by omega) (by omega))
theorem vf_x : ∃ V : am_M → Int → VT, ∀ {g : am_M} {n p : Int} {beh : Bool} {vs : List SX} {ops : List Int}, n ≤ 240 → 0 ≤ p → p ≤ n → V g n beh p vs ops = vB g n (V g n) beh p vs ops := ⟨fun g n => vS g n 1000, fun {g n p beh vs ops} hn h0 h1 => vB_cg (r := vS g n 999) (r' := vS g n 1000) h0 h1 (fun b q w o z1 z2 => vS_fu 999 1000 b q w o (by omega) z2 (by omega) (by omega))⟩
noncomputable def vfin : am_M → Int → VT := Classical.choose vf_x
theorem vf_e {g : am_M} {n p : Int} {beh : Bool} {vs : List SX} {ops : List Int} (hn : n ≤ 240) (h0 : 0 ≤ p) (h1 : p ≤ n) : vfin g n beh p vs ops = vB g n (vfin g n) beh p vs ops := Classical.choose_spec vf_x hn h0 h1
/-- what is done before what follows -/
theorem vf_T {g : am_M} {n p c : Int} {x y : SX} {vs : List SX} {ops : List Int} (hn : n ≤ 240) (h0 : 0 ≤ p) (h1 : p ≤ n) (hc : tiO c) : vfin g n true p (y :: x :: vs) (c :: ops) = vfin g n true p (biX c x y :: vs) ops := by
  have e1 : ∀ a, smS a (c :: ops) (y :: x :: vs) = smS a ops (biX c x y :: vs) := fun a => by
    show (if tiO c ∨ (a = true ∧ plO c) then smS a ops (rd1 c (y :: x :: vs)) else _) = _
    rw [if_pos (Or.inl hc)]
    rfl
  rw [vf_e hn h0 h1, vf_e (vs := biX c x y :: vs) hn h0 h1]
  unfold vB
  rw [if_pos rfl, if_pos rfl, e1, e1]
theorem vf_P {g : am_M} {n p c : Int} {x y : SX} {vs : List SX} {ops : List Int} (hn : n ≤ 240) (h0 : 0 ≤ p) (h1 : p ≤ n) (hc : plO c) (ht : ¬ tiO (taS g n p)) : vfin g n true p (y :: x :: vs) (c :: ops) = vfin g n true p (biX c x y :: vs) ops := by
  have e1 : smS true (c :: ops) (y :: x :: vs) = smS true ops (biX c x y :: vs) := by
    show (if tiO c ∨ (true = true ∧ plO c) then smS true ops (rd1 c (y :: x :: vs)) else _) = _
    rw [if_pos (Or.inr ⟨rfl, hc⟩)]
    rfl
  rw [vf_e hn h0 h1, vf_e (vs := biX c x y :: vs) hn h0 h1]
  unfold vB
  rw [if_pos rfl, if_pos rfl, if_neg ht, if_neg ht, e1]
