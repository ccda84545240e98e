-- how far cells are: theory
def cn (p : Nat → Bool) : Nat → Nat
  | 0 => 0
  | k + 1 => cn p k + (if p k then 1 else 0)
theorem cn_le (p : Nat → Bool) : ∀ k, cn p k ≤ k
  | 0 => Nat.le_refl _
  | k + 1 => by
    have := cn_le p k
    unfold cn
    split <;> omega
theorem cn_mo {p q : Nat → Bool} : ∀ k, (∀ j, j < k → p j = true → q j = true) → cn p k ≤ cn q k
  | 0, _ => Nat.le_refl _
  | k + 1, h => by
    have ih := cn_mo k (fun j hj => h j (by omega))
    have hk := h k (by omega)
    unfold cn
    by_cases hp : p k = true
    · rw [if_pos hp, if_pos (hk hp)]
      omega
    · rw [if_neg hp]
      omega
theorem cn_lt {p q : Nat → Bool} : ∀ k, (∀ j, j < k → p j = true → q j = true) → ∀ j, j < k → q j = true → p j = false → cn p k < cn q k
  | 0, _, j, hj, _, _ => by omega
  | k + 1, h, j, hj, h1, h2 => by
    have hk := h k (by omega)
    unfold cn
    by_cases q1 : j = k
    · subst q1
      have := cn_mo (p := p) (q := q) j (fun i hi => h i (by omega))
      rw [h1, h2]
      simp
      omega
    · have ih := cn_lt k (fun i hi => h i (by omega)) j (by omega) h1 h2
      by_cases hp : p k = true
      · rw [if_pos hp, if_pos (hk hp)]
        omega
      · rw [if_neg hp]
        omega
theorem cn_tt : ∀ k, cn (fun _ => true) k = k
  | 0 => rfl
  | k + 1 => by
    unfold cn
    rw [cn_tt k, if_pos rfl]
theorem cn_ne {p : Nat → Bool} {k j : Nat} (hj : j < k) (h : p j = false) : cn p k < k := by
  have := cn_lt (p := p) (q := fun _ => true) k (fun _ _ _ => rfl) j hj rfl h
  rw [cn_tt] at this
  exact this
theorem cn_cg {p q : Nat → Bool} : ∀ k, (∀ j, j < k → p j = q j) → cn p k = cn q k
  | 0, _ => rfl
  | k + 1, h => by
    unfold cn
    rw [cn_cg k (fun j hj => h j (by omega)), h k (by omega)]
/-- one more -/
theorem cn_up {p q : Nat → Bool} : ∀ k y, y < k → p y = false → q y = true → (∀ j, j ≠ y → q j = p j) → cn q k = cn p k + 1
  | 0, y, hy, _, _, _ => by omega
  | k + 1, y, hy, h1, h2, h3 => by
    unfold cn
    by_cases e : y = k
    · subst e
      rw [cn_cg (p := q) (q := p) y (fun j hj => h3 j (by omega)), h1, h2]
      simp
    · rw [cn_up k y (by omega) h1 h2 h3, h3 k (fun z => e z.symm)]
      omega
theorem least (P : Nat → Prop) : ∀ m, P m → ∃ m, P m ∧ ∀ k, P k → m ≤ k := by
  intro m
  induction m using Nat.strongRecOn with
  | _ m ih =>
    intro h
    by_cases q : ∃ k, k < m ∧ P k
    · obtain ⟨k, h1, h2⟩ := q
      exact ih k h1 h2
    · exact ⟨m, h, fun k hk => Nat.le_of_not_lt (fun z => q ⟨k, z, hk⟩)⟩
def Wk (E : Nat → Nat → Prop) (w : Nat → Nat) (s : Nat) : Nat → Nat → Nat → Prop
  | 0, y, m => y = s ∧ m = 0
  | n + 1, y, m => ∃ x m', E x y ∧ Wk E w s n x m' ∧ m = m' + w x
/-- how far every cell is -/
def DI (E : Nat → Nat → Prop) (w : Nat → Nat) (s : Nat) (v : Nat → Int) : Prop := v s = 0 ∧ (∀ y, y < 144 → 0 ≤ v y ∧ v y ≤ 1000000000) ∧ (∀ x y, E x y → v x < 1000000000 → v y ≤ v x + w x) ∧ (∀ y, y < 144 → y ≠ s → v y < 1000000000 → ∃ x, E x y ∧ v x < v y ∧ v y = v x + w x)
theorem di_le {E : Nat → Nat → Prop} {w : Nat → Nat} {s : Nat} {v u : Nat → Int} (hE : ∀ x y, E x y → x < 144 ∧ y < 144) (h : DI E w s v) (u0 : u s ≤ 0) (uF : ∀ y, y < 144 → u y ≤ 1000000000) (u1 : ∀ x y, E x y → u x < 1000000000 → u y ≤ u x + w x) : ∀ (m y : Nat), y < 144 → v y ≤ m → u y ≤ v y := by
  intro m
  induction m using Nat.strongRecOn with
  | _ m ih =>
    intro y hy hm
    have hb := h.2.1 y hy
    by_cases q : y = s
    · rw [q]
      have := h.1
      omega
    · by_cases q2 : v y < 1000000000
      · obtain ⟨x, e1, e2, e3⟩ := h.2.2.2 y hy q q2
        have hx := hE x y e1
        have hbx := h.2.1 x hx.1
        have i1 := ih (v x).toNat (by omega) x hx.1 (by omega)
        have i2 := u1 x y e1 (by omega)
        omega
      · have := uF y hy
        omega
theorem di_un {E : Nat → Nat → Prop} {w : Nat → Nat} {s : Nat} {v u : Nat → Int} (hE : ∀ x y, E x y → x < 144 ∧ y < 144) (h : DI E w s v) (h' : DI E w s u) : ∀ y, y < 144 → u y = v y := by
  intro y hy
  have a := di_le hE h (Int.le_of_eq h'.1) (fun y hy => (h'.2.1 y hy).2) h'.2.2.1 (v y).toNat y hy (by have := h.2.1 y hy; omega)
  have b := di_le hE h' (Int.le_of_eq h.1) (fun y hy => (h.2.1 y hy).2) h.2.2.1 (u y).toNat y hy (by have := h'.2.1 y hy; omega)
  omega
/-- bounds: a way has as many steps as there are nearer cells, at most -/
theorem di_bd {E : Nat → Nat → Prop} {w : Nat → Nat} {s : Nat} {v : Nat → Int} {K B : Nat} {c : Nat → Nat} (hw : ∀ x, w x = B * c x + 1 ∧ c x ≤ K) (hE : ∀ x y, E x y → x < 144 ∧ y < 144) (h0 : v s = 0) (hn : ∀ y, y < 144 → 0 ≤ v y) (h2 : ∀ y, y < 144 → y ≠ s → v y < 1000000000 → ∃ x, E x y ∧ v x < v y ∧ v y = v x + w x) : ∀ (m y : Nat), y < 144 → v y ≤ m → v y < 1000000000 → ∃ a b : Nat, v y = B * a + b ∧ b ≤ cn (fun j => decide (v j < v y)) 144 ∧ a ≤ K * cn (fun j => decide (v j < v y)) 144 := by
  intro m
  induction m using Nat.strongRecOn with
  | _ m ih =>
    intro y hy hm hf
    by_cases q : y = s
    · subst q
      exact ⟨0, 0, by rw [h0]; simp, by omega, by omega⟩
    · obtain ⟨x, e1, e2, e3⟩ := h2 y hy q hf
      have hx := hE x y e1
      have hbx := hn x hx.1
      obtain ⟨a, b, i1, i2, i3⟩ := ih (v x).toNat (by omega) x hx.1 (by omega) (by omega)
      have hc := cn_lt (p := fun j => decide (v j < v x)) (q := fun j => decide (v j < v y)) 144 (fun j _ hj => by simp at hj ⊢; omega) x hx.1 (by simp; exact e2) (by simp)
      obtain ⟨z1, z2⟩ := hw x
      refine ⟨a + c x, b + 1, ?_, by omega, ?_⟩
      · rw [e3, i1, z1, Int.natCast_add a, Int.mul_add, Int.natCast_add, Int.natCast_mul, Int.natCast_add b]
        omega
      · have : K * (cn (fun j => decide (v j < v x)) 144 + 1) ≤ K * cn (fun j => decide (v j < v y)) 144 := Nat.mul_le_mul_left K hc
        rw [Nat.mul_add] at this
        omega
theorem di_bd2 {v : Nat → Int} {y : Nat} (hy : y < 144) : cn (fun j => decide (v j < v y)) 144 ≤ 143 := by
  have := cn_ne (p := fun j => decide (v j < v y)) hy (by simp)
  omega
theorem di_ex {E : Nat → Nat → Prop} {w : Nat → Nat} {s : Nat} {B : Nat} {c : Nat → Nat} (hB : B ≤ 1000) (hw : ∀ x, w x = B * c x + 1 ∧ c x ≤ 240) (hE : ∀ x y, E x y → x < 144 ∧ y < 144) : ∃ v, DI E w s v := by
  have ex : ∀ y : Nat, ∃ d : Int, (∃ m : Nat, d = m ∧ (∃ n, Wk E w s n y m) ∧ ∀ k, (∃ n, Wk E w s n y k) → m ≤ k) ∨ (d = 1000000000 ∧ ¬ ∃ m n, Wk E w s n y m) := by
    intro y
    by_cases q : ∃ m n, Wk E w s n y m
    · obtain ⟨m, hm⟩ := q
      obtain ⟨m', h1, h2⟩ := least (fun m => ∃ n, Wk E w s n y m) m hm
      exact ⟨m', Or.inl ⟨m', rfl, h1, h2⟩⟩
    · exact ⟨1000000000, Or.inr ⟨rfl, q⟩⟩
  obtain ⟨v, hv⟩ := Classical.axiomOfChoice ex
  have h0 : v s = 0 := by
    rcases hv s with ⟨m, h1, h2, h3⟩ | ⟨h1, h2⟩
    · have := h3 0 ⟨0, rfl, rfl⟩
      omega
    · exact absurd ⟨0, 0, rfl, rfl⟩ h2
  have hn : ∀ y, y < 144 → 0 ≤ v y := by
    intro y hy
    rcases hv y with ⟨m, h1, h2, h3⟩ | ⟨h1, h2⟩ <;> omega
  have hpre : ∀ y, y < 144 → y ≠ s → (∃ m n, Wk E w s n y m) → ∃ x, E x y ∧ v x < v y ∧ v y = v x + w x ∧ ∃ m n, Wk E w s n x m := by
    intro y hy hs hr
    rcases hv y with ⟨m, h1, ⟨n, h2⟩, h3⟩ | ⟨h1, h2⟩
    · cases n with
      | zero => exact absurd h2.1 hs
      | succ n =>
        obtain ⟨x, m', e1, e2, e3⟩ := h2
        have hwx := (hw x).1
        rcases hv x with ⟨mx, g1, ⟨n', g2⟩, g3⟩ | ⟨g1, g2⟩
        · have a1 := g3 m' ⟨n, e2⟩
          have a2 := h3 (mx + w x) ⟨n' + 1, x, mx, e1, g2, rfl⟩
          exact ⟨x, e1, by omega, by omega, mx, n', g2⟩
        · exact absurd ⟨m', n, e2⟩ g2
    · exact absurd hr h2
  have bd : ∀ y, y < 144 → (∃ m n, Wk E w s n y m) → v y ≤ 100000000 := by
    have bd1 : ∀ (k y : Nat), y < 144 → v y ≤ k → (∃ m n, Wk E w s n y m) → v y ≤ 250000 * cn (fun j => decide (v j < v y)) 144 := by
      intro k
      induction k using Nat.strongRecOn with
      | _ k ih =>
        intro y hy hk hr
        by_cases q : y = s
        · subst q
          omega
        · obtain ⟨x, e1, e2, e3, hrx⟩ := hpre y hy q hr
          have hx := hE x y e1
          have hbx := hn x hx.1
          have i1 := ih (v x).toNat (by omega) x hx.1 (by omega) hrx
          have hc := cn_lt (p := fun j => decide (v j < v x)) (q := fun j => decide (v j < v y)) 144 (fun j _ hj => by simp at hj ⊢; omega) x hx.1 (by simp; exact e2) (by simp)
          obtain ⟨z1, z2⟩ := hw x
          have z3 : B * c x ≤ 1000 * 240 := Nat.mul_le_mul hB z2
          omega
    intro y hy hr
    have a := bd1 (v y).toNat y hy (by have := hn y hy; omega) hr
    have b := di_bd2 (v := v) hy
    omega
  refine ⟨v, h0, fun y hy => ⟨hn y hy, ?_⟩, ?_, ?_⟩
  · rcases hv y with ⟨m, h1, h2, h3⟩ | ⟨h1, h2⟩
    · have := bd y hy ⟨m, h2⟩
      omega
    · omega
  · intro x y he hx
    obtain ⟨x1, y1⟩ := hE x y he
    rcases hv x with ⟨mx, g1, ⟨n', g2⟩, g3⟩ | ⟨g1, g2⟩
    · rcases hv y with ⟨my, j1, j2, j3⟩ | ⟨j1, j2⟩
      · have := j3 (mx + w x) ⟨n' + 1, x, mx, he, g2, rfl⟩
        omega
      · exact absurd ⟨mx + w x, n' + 1, x, mx, he, g2, rfl⟩ j2
    · omega
  · intro y hy hs hf
    rcases hv y with ⟨m, h1, h2, h3⟩ | ⟨h1, h2⟩
    · obtain ⟨x, e1, e2, e3, _⟩ := hpre y hy hs ⟨m, h2⟩
      exact ⟨x, e1, e2, e3⟩
    · omega
-- cells beside
def aj (x y : Nat) : Prop := x < 144 ∧ y < 144 ∧ ∃ w : Int, 0 ≤ w ∧ w < 4 ∧ nbS x w = y
theorem nbS_sy {x y : Nat} {w : Int} (hx : x < 144) (hw : 0 ≤ w ∧ w < 4) (h : nbS x w = y) : nbS y (if w < 2 then w + 2 else w - 2) = x ∧ y < 144 := by
  have hb := nbS_b (c := x) (w := w) (by omega) (by omega)
  rw [h] at hb
  rcases (show w = 0 ∨ w = 1 ∨ w = 2 ∨ w = 3 by omega) with q | q | q | q
  · subst q
    unfold nbS at *
    simp at *
    split at h
    · refine ⟨?_, by omega⟩
      rw [if_pos (by omega)]
      omega
    · omega
  · subst q
    unfold nbS at *
    simp at *
    split at h
    · refine ⟨?_, by omega⟩
      rw [if_pos (by omega)]
      omega
    · omega
  · subst q
    unfold nbS at *
    simp at *
    split at h
    · refine ⟨?_, by omega⟩
      rw [if_pos (by omega)]
      omega
    · omega
  · subst q
    unfold nbS at *
    simp at *
    split at h
    · refine ⟨?_, by omega⟩
      rw [if_pos (by omega)]
      omega
    · omega
theorem aj_sy {x y : Nat} (h : aj x y) : aj y x := by
  obtain ⟨h1, h2, w, h3, h4, h5⟩ := h
  have := nbS_sy h1 ⟨h3, h4⟩ h5
  exact ⟨h2, h1, _, by split <;> omega, by split <;> omega, this.1⟩
theorem aj_of {x : Nat} {w : Int} (hx : x < 144) (hw : 0 ≤ w ∧ w < 4) (h : 0 ≤ nbS x w) : aj x (nbS x w).toNat := by
  have hb := nbS_b (c := x) (w := w) (by omega) (by omega)
  exact ⟨hx, by omega, w, hw.1, hw.2, by omega⟩
