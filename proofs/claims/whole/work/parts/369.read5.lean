-- the law read: values, by the reference
def SO : List Int → am_M → Prop
  | [], _ => True
  | c :: r, M => M 89 r.length = c ∧ SO r M
theorem SO.cg {M N : am_M} : ∀ {ops : List Int}, SO ops M → (∀ j, j < ops.length → N 89 j = M 89 j) → SO ops N
  | [], _, _ => trivial
  | c :: r, h, e => ⟨by rw [e r.length (by rw [List.length_cons]; omega)]; exact h.1, SO.cg h.2 (fun j hj => e j (by rw [List.length_cons]; omega))⟩
def RVs (o p : Nat → Int) (b : Nat) : Nat → List SX → Prop
  | t, [] => t = b
  | t, x :: r => ∃ t', t = t' + x.1 ∧ REx o p t' x ∧ XO x ∧ RVs o p b t' r
theorem RVs.cg {o p o' p' : Nat → Int} {b : Nat} : ∀ {vs : List SX} {t : Nat}, RVs o p b t vs → (∀ j, b ≤ j → j < t → o' j = o j ∧ p' j = p j) → RVs o' p' b t vs
  | [], t, h, e => h
  | x :: r, t, ⟨t', h1, h2, h3, h4⟩, e => ⟨t', h1, by
    have hb := RVs.le h4
    exact h2.cg (fun j a c => e j (by omega) (by omega)), h3, RVs.cg h4 (fun j a c => e j a (by omega))⟩
where
  RVs.le {o p : Nat → Int} {b : Nat} : ∀ {vs : List SX} {t : Nat}, RVs o p b t vs → b ≤ t
  | [], t, h => by
    have : t = b := h
    omega
  | x :: r, t, ⟨t', h1, _, _, h4⟩ => by
    have := RVs.le h4
    omega
