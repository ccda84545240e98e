-- the law read: values, by the reference
def SO : List Int → am_M → Prop
  | [], _ => True
  | c :: r, M => M 89 r.length = c ∧ SO r M
theorem SO.cg {M N : am_M} : ∀ {ops : List Int}, SO ops M → (∀ j, j < ops.length → N 89 j = M 89 j) → SO ops N
  | [], _, _ => trivial
  | c :: r, h, e => ⟨by rw [e r.length (by rw [List.length_cons]; omega)]; exact h.1, SO.cg h.2 (fun j hj => e j (by rw [List.length_cons]; omega))⟩
def RVs (o p : Nat → Int) (b : Nat) : Nat → List SX → Prop
  | t, [] => t = b
  | t, x :: r => ∃ t', t = t' + x.1 ∧ REx o p t' x ∧ XO x ∧ RVs o p b t' r
theorem RVs.le {o p : Nat → Int} {b : Nat} : ∀ {vs : List SX} {t : Nat}, RVs o p b t vs → b ≤ t
  | [], t, h => by
    have : t = b := h
    omega
  | x :: r, t, ⟨t', h1, _, _, h4⟩ => by
    have := RVs.le h4
    omega
theorem RVs.cg {o p o' p' : Nat → Int} {b : Nat} : ∀ {vs : List SX} {t : Nat}, RVs o p b t vs → (∀ j, b ≤ j → j < t → o' j = o j ∧ p' j = p j) → RVs o' p' b t vs
  | [], t, h, e => h
  | x :: r, t, ⟨t', h1, h2, h3, h4⟩, e => ⟨t', h1, by
    have hb := RVs.le h4
    exact h2.cg (fun j a c => e j (by omega) (by omega)), h3, RVs.cg h4 (fun j a c => e j a (by omega))⟩
def bnc : List Int → Nat
  | [] => 0
  | c :: r => (if c = 91 ∨ c = 40 ∨ c = 33 then 0 else 1) + bnc r
def RVt (M : am_M) (n p : Int) (b t : Nat) (vs : List SX) (ops : List Int) (bad : Int) : Prop := (M 73 3 = p ∧ M 73 4 = n ∧ M 73 5 = bad ∧ M 73 7 = t ∧ M 73 8 = opn ops ∧ M 73 9 = ops.length) ∧ SO ops M ∧ RVs (M 87) (M 88) b t vs ∧ ((t + ops.length : Nat) : Int) ≤ p ∧ opn ops ≤ 6 ∧ ∀ c, c ∈ ops → 0 ≤ c ∧ c < 256
def RVf (b : Nat) (M N : am_M) : Prop := (∀ k, k ≠ 73 → (k < 87 ∨ 89 < k) → N k = M k) ∧ (∀ j, j ≠ 3 → j ≠ 5 → (j < 7 ∨ 9 < j) → (j < 26 ∨ 27 < j) → N 73 j = M 73 j) ∧ ∀ j, j < b → N 87 j = M 87 j ∧ N 88 j = M 88 j
theorem RVf.rf {b : Nat} {M : am_M} : RVf b M M := ⟨fun _ _ _ => rfl, fun _ _ _ _ _ => rfl, fun _ _ => ⟨rfl, rfl⟩⟩
theorem RVf.tr {b : Nat} {M N O : am_M} (a : RVf b M N) (c : RVf b N O) : RVf b M O := ⟨fun k h1 h2 => (c.1 k h1 h2).trans (a.1 k h1 h2), fun j h1 h2 h3 h4 => (c.2.1 j h1 h2 h3 h4).trans (a.2.1 j h1 h2 h3 h4), fun j h => ⟨(c.2.2 j h).1.trans (a.2.2 j h).1, (c.2.2 j h).2.trans (a.2.2 j h).2⟩⟩
theorem RVf.up {b c j : Nat} {v : Int} {M N : am_M} (a : RVf b M N) (h : c = 89 ∨ ((c = 87 ∨ c = 88) ∧ b ≤ j) ∨ (c = 73 ∧ (j = 3 ∨ j = 5 ∨ j = 7 ∨ j = 8 ∨ j = 9 ∨ j = 26 ∨ j = 27))) : RVf b M (am_up N c j v) := by
  refine ⟨fun k h1 h2 => ?_, fun i h1 h2 h3 h4 => ?_, fun i hi => ?_⟩
  · rw [upo (by omega)]
    exact a.1 k h1 h2
  · by_cases q : 73 = c
    · subst q
      rw [upx (by omega)]
      exact a.2.1 i h1 h2 h3 h4
    · rw [upo q]
      exact a.2.1 i h1 h2 h3 h4
  · have w := a.2.2 i hi
    refine ⟨?_, ?_⟩
    · by_cases q : 87 = c
      · subst q
        rw [upx (by omega)]
        exact w.1
      · rw [upo q]
        exact w.1
    · by_cases q : 88 = c
      · subst q
        rw [upx (by omega)]
        exact w.2
      · rw [upo q]
        exact w.2
theorem GR.rvf {g M N : am_M} {b : Nat} (h : GR g M) (e : RVf b M N) : GR g N := by
  unfold GR at h ⊢
  rw [e.2.1 1 (by decide) (by decide) (by decide) (by decide), e.2.1 42 (by decide) (by decide) (by decide) (by decide), e.2.1 43 (by decide) (by decide) (by decide) (by decide), e.2.1 19 (by decide) (by decide) (by decide) (by decide), e.2.1 66 (by decide) (by decide) (by decide) (by decide), e.1 74 (by decide) (by decide), e.1 75 (by decide) (by decide), e.1 92 (by decide) (by decide), e.1 94 (by decide) (by decide)]
  exact h
theorem Rti_eq {c : Int} {M : am_M} (h : am_R c) : R_isTimes c M = some (if tiO c then 1 else 0) := by
  unfold R_isTimes R_isTimes_18 R_isTimes_23
  rw [c_eq_p h (by decide), c_eq_p h (by decide), c_ne_p h (by decide), ck_p (by decide), ck_p (by decide)]
  by_cases q1 : c = 42
  · rw [if_pos q1, if_pos (by omega)]
  rw [if_neg q1]
  by_cases q2 : c = 47
  · rw [if_pos q2, if_pos (by omega)]
  rw [if_neg q2]
  by_cases q3 : c = 37
  · rw [if_neg (fun h => h q3), if_pos (by omega)]
  · rw [if_pos q3, if_neg (by omega)]
theorem Rpl_eq {c : Int} {M : am_M} (h : am_R c) : R_isPlus c M = some (if plO c then 1 else 0) := by
  unfold R_isPlus R_isPlus_12 R_isPlus_17
  rw [c_eq_p h (by decide), c_ne_p h (by decide), ck_p (by decide), ck_p (by decide)]
  by_cases q1 : c = 43
  · rw [if_pos q1, if_pos (by omega)]
  rw [if_neg q1]
  by_cases q3 : c = 45
  · rw [if_neg (fun h => h q3), if_pos (by omega)]
  · rw [if_pos q3, if_neg (by omega)]
theorem Rtop_eq {M : am_M} {n p bad : Int} {b t : Nat} {vs : List SX} {ops : List Int} (h : RVt M n p b t vs ops bad) (hp : p ≤ 240) : R_top M = some (hdO ops) := by
  have e9 := h.1.2.2.2.2.2
  unfold R_top R_top_22
  have hl := h.2.2.2.1
  rw [e9, c_le_p (by omega) (by decide)]
  cases ops with
  | nil => rfl
  | cons c r =>
    rw [List.length_cons] at hl ⊢
    rw [if_neg (by omega), rd_p (by omega), show (((r.length + 1 : Nat) : Int) - 1).toNat = r.length by omega, h.2.1.1]
    rfl
/-- an operation is put behind its two -/
theorem Rred {M : am_M} {n p c : Int} {b t : Nat} {x y : SX} {vs : List SX} {ops : List Int} (h : RVt M n p b t (y :: x :: vs) (c :: ops) 0) (hp : p ≤ 240) (ho : cpO c ∨ arO c) : ∃ N, R_emit c 0 M = some N ∧ RVt (am_up N 73 9 (N 73 9 - 1)) n p b (t + 1) (biX c x y :: vs) ops 0 ∧ RVf b M (am_up N 73 9 (N 73 9 - 1)) := by
  obtain ⟨⟨e3, e4, e5, e7, e8, e9⟩, s1, ⟨t1, r1, r2, r3, t2, r4, r5, r6, r7⟩, l1, l2, l3⟩ := h
  have hbl := RVs.le r7
  rw [List.length_cons] at l1 e9
  have hop : opn (c :: ops) = opn ops := opn_c (by omega)
  rw [hop] at e8 l2
  refine ⟨am_up (am_up (am_up M 87 t c) 88 t 0) 73 7 ((t : Int) + 1), ?_, ⟨⟨?_, ?_, ?_, ?_, ?_, ?_⟩, ?_, ?_, by omega, l2, fun c h => l3 c (List.mem_cons_of_mem _ h)⟩, ?_⟩
  · unfold R_emit
    rw [good_1 e5, ob_s, c_ne_p (by decide) (by decide), if_pos (by decide), e7, wa_p (by omega), upo (show (73 : Nat) ≠ 87 by decide), e7, wa_p (by omega), upo (show (73 : Nat) ≠ 88 by decide), upo (show (73 : Nat) ≠ 87 by decide), e7, fw_p, show ((t : Int)).toNat = t by omega]
  · rw [upx (by decide), upx (by decide), upo (by decide), upo (by decide)]
    exact e3
  · rw [upx (by decide), upx (by decide), upo (by decide), upo (by decide)]
    exact e4
  · rw [upx (by decide), upx (by decide), upo (by decide), upo (by decide)]
    exact e5
  · rw [upx (by decide), upj]
    omega
  · rw [upx (by decide), upx (by decide), upo (by decide), upo (by decide)]
    exact e8
  · rw [upj, upx (by decide), upo (by decide), upo (by decide), e9]
    omega
  · exact s1.2.cg (fun j hj => by rw [upo (by decide), upo (by decide), upo (by decide), upo (by decide)])
  · subst r4
    subst r1
    have hj : ∀ j, j ≠ t2 + x.1 + y.1 → (am_up (am_up (am_up (am_up M 87 (t2 + x.1 + y.1) c) 88 (t2 + x.1 + y.1) 0) 73 7 (((t2 + x.1 + y.1 : Nat) : Int) + 1)) 73 9 ((am_up (am_up (am_up M 87 (t2 + x.1 + y.1) c) 88 (t2 + x.1 + y.1) 0) 73 7 (((t2 + x.1 + y.1 : Nat) : Int) + 1)) 73 9 - 1)) 87 j = M 87 j ∧ (am_up (am_up (am_up (am_up M 87 (t2 + x.1 + y.1) c) 88 (t2 + x.1 + y.1) 0) 73 7 (((t2 + x.1 + y.1 : Nat) : Int) + 1)) 73 9 ((am_up (am_up (am_up M 87 (t2 + x.1 + y.1) c) 88 (t2 + x.1 + y.1) 0) 73 7 (((t2 + x.1 + y.1 : Nat) : Int) + 1)) 73 9 - 1)) 88 j = M 88 j := fun j hj => ⟨by rw [upo (by decide), upo (by decide), upo (by decide), upx hj], by rw [upo (by decide), upo (by decide), upx hj, upo (by decide)]⟩
    refine ⟨t2, by show _ = t2 + (x.1 + y.1 + 1); omega, biX_R ho r6 r3 (r5.cg (fun j a c => hj j (by omega))) (r2.cg (fun j a c => hj j (by omega))) ?_, biX_O r6 r3, r7.cg (fun j a c => hj j (by omega))⟩
    rw [upo (by decide), upo (by decide), upo (by decide), upj]
  · exact (((RVf.rf.up (Or.inr (Or.inl ⟨Or.inl rfl, by omega⟩))).up (Or.inr (Or.inl ⟨Or.inr rfl, by omega⟩))).up (by omega)).up (by omega)
