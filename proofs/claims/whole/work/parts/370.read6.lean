-- the law read: values, by the reference, whole
theorem hd_R {ops : List Int} (h : ∀ c, c ∈ ops → 0 ≤ c ∧ c < 256) : 0 ≤ hdO ops ∧ hdO ops < 256 := by
  cases ops with
  | nil => exact ⟨by decide, by decide⟩
  | cons c r => exact h c List.mem_cons_self
theorem b1_R (a : Bool) : am_R (b1 a) := by
  cases a <;> decide
theorem bnc_c {c : Int} {ops : List Int} (h : c ≠ 91 ∧ c ≠ 40 ∧ c ≠ 33) : bnc (c :: ops) = 1 + bnc ops := by
  show (if c = 91 ∨ c = 40 ∨ c = 33 then 0 else 1) + bnc ops = 1 + bnc ops
  rw [if_neg (by omega)]
theorem bnc_o {c : Int} {ops : List Int} (h : c = 91 ∨ c = 40 ∨ c = 33) : bnc (c :: ops) = bnc ops := by
  show (if c = 91 ∨ c = 40 ∨ c = 33 then 0 else 1) + bnc ops = bnc ops
  rw [if_pos h]
  omega
theorem Rsums {n p : Int} {b : Nat} {a : Bool} (hp : p ≤ 240) : ∀ (ops : List Int) (vs : List SX) (t fu : Nat) (M : am_M), RVt M n p b t vs ops 0 → bnc ops + 1 ≤ vs.length → ops.length < fu → ∃ N t', R_sums_0 fu (b1 a) M = some N ∧ RVt N n p b t' (smS a ops vs).1 (smS a ops vs).2 0 ∧ RVf b M N ∧ bnc (smS a ops vs).2 + 1 ≤ (smS a ops vs).1.length ∧ N 73 27 = M 73 27 ∧ N 73 26 = M 73 26
  | ops, vs, t, 0, M, h, hb, hf => by omega
  | [], vs, t, fu + 1, M, h, hb, hf => by
    refine ⟨M, t, ?_, h, RVf.rf, hb, rfl, rfl⟩
    have ht := Rtop_eq h hp
    rw [R_sums_0]
    unfold R_sums_46
    rw [ht, ob_s, Rti_eq (by decide), ob_s, if_neg (by decide), c_ne_p (by decide) (by decide), if_neg (by decide), c_eq_p (b1_R a) (by decide), ob_s, Rpl_eq (by decide), ob_s, if_neg (show ¬ plO (hdO []) by decide), c_eq_p (by decide) (by decide), if_pos (show (0 : Int) = 0 from rfl)]
    split <;> rfl
  | c :: r, vs, t, fu + 1, M, h, hb, hf => by
    have hcr := h.2.2.2.2.2 c List.mem_cons_self
    have ht := Rtop_eq h hp
    have hh : hdO (c :: r) = c := rfl
    rw [hh] at ht
    rw [R_sums_0]
    unfold R_sums_46 smS
    rw [ht, ob_s, Rti_eq (by omega), ob_s, c_eq_p (b1_R a) (by decide), ob_s, Rpl_eq (by omega), ob_s]
    by_cases q : tiO c ∨ (a = true ∧ plO c)
    · rw [if_pos q]
      rw [bnc_c (by omega)] at hb
      rw [List.length_cons] at hf
      obtain ⟨y, x, vs', rfl⟩ : ∃ y x vs', vs = y :: x :: vs' := by
        cases vs with
        | nil => rw [List.length_nil] at hb; omega
        | cons y w =>
          cases w with
          | nil => rw [List.length_cons, List.length_nil] at hb; omega
          | cons x w => exact ⟨y, x, w, rfl⟩
      rw [List.length_cons] at hb
      obtain ⟨N, a1, a2, a3⟩ := Rred h hp (by omega)
      obtain ⟨N2, t2, b1', b2, b3, b4, b5, b6⟩ := Rsums (a := a) hp r (biX c x y :: vs') (t + 1) fu _ a2 (by rw [List.length_cons] at hb ⊢; omega) (by omega)
      have hs24 : R_sums_24 (R_sums_0 fu) (b1 a) M = some N2 := by
        unfold R_sums_24
        rw [ht, ob_s, a1, ob_s, fw_p]
        exact b1'
      have e27 : (am_up N 73 9 (N 73 9 - 1)) 73 27 = M 73 27 ∧ (am_up N 73 9 (N 73 9 - 1)) 73 26 = M 73 26 := by
        have hem : ∀ j, j ≠ 7 → N 73 j = M 73 j := fun j hj => by
          unfold R_emit at a1
          rw [good_1 h.1.2.2.1, ob_s, c_ne_p (by decide) (by decide), if_pos (by decide)] at a1
          have l1 := h.2.2.2.1
          rw [List.length_cons] at l1
          rw [h.1.2.2.2.1, wa_p (by omega), upo (show (73 : Nat) ≠ 87 by decide), h.1.2.2.2.1, wa_p (by omega), fw_p] at a1
          have := Option.some.inj a1
          rw [← this, upx hj, upo (by decide), upo (by decide)]
        rw [upx (by decide), upx (by decide), hem 27 (by decide), hem 26 (by decide)]
        exact ⟨rfl, rfl⟩
      refine ⟨N2, t2, ?_, b2, a3.tr b3, b4, by rw [b5]; exact e27.1, by rw [b6]; exact e27.2⟩
      rw [hs24]
      by_cases q1 : tiO c
      · rw [if_pos q1, c_ne_p (by decide) (by decide), if_pos (by decide)]
      · rw [if_neg q1, c_ne_p (by decide) (by decide), if_neg (by decide)]
        rcases q with z | z
        · exact absurd z q1
        · rw [z.1, if_pos z.2, c_eq_p (by decide) (by decide), if_neg (by decide), if_neg (by decide)]
    · rw [if_neg q]
      refine ⟨M, t, ?_, h, RVf.rf, hb, rfl, rfl⟩
      have q1 : ¬ tiO c := fun z => q (Or.inl z)
      rw [if_neg q1, c_ne_p (by decide) (by decide), if_neg (by decide)]
      cases a with
      | false => rfl
      | true =>
        rw [if_neg (by decide), if_neg (show ¬ plO c from fun z => q (Or.inr ⟨rfl, z⟩)), c_eq_p (by decide) (by decide), if_pos rfl]
theorem Rputs {M : am_M} {n p c : Int} {b t : Nat} {vs : List SX} {ops : List Int} (h : RVt M n p b t vs ops 0) (hp : 0 ≤ p ∧ p < 240) (hc : 0 ≤ c ∧ c < 256) (h8 : M 73 8 = opn (c :: ops) ∨ opn (c :: ops) = opn ops) (ho : opn (c :: ops) ≤ 6) : ∃ N, R_puts c M = some N ∧ RVt N n (p + 1) b t vs (c :: ops) 0 ∧ RVf b M N ∧ N 73 27 = M 73 27 ∧ N 73 26 = M 73 26 := by
  obtain ⟨⟨e3, e4, e5, e7, e8, e9⟩, s1, r1, l1, l2, l3⟩ := h
  refine ⟨am_up (am_up (am_up M 89 ops.length c) 73 9 ((ops.length : Int) + 1)) 73 3 (p + 1), ?_, ⟨⟨upj, ?_, ?_, ?_, ?_, ?_⟩, ⟨?_, ?_⟩, ?_, by rw [List.length_cons]; omega, ho, fun d hd => ?_⟩, ((RVf.rf.up (Or.inl rfl)).up (by omega)).up (by omega), ?_, ?_⟩
  · unfold R_puts
    rw [e9, wa_p (by omega), upo (show (73 : Nat) ≠ 89 by decide), e9, fw_p, fw_p, upx (show (3 : Nat) ≠ 9 by decide), upo (show (73 : Nat) ≠ 89 by decide), e3, show ((ops.length : Int)).toNat = ops.length by omega]
  · rw [upx (by decide), upx (by decide), upo (by decide)]
    exact e4
  · rw [upx (by decide), upx (by decide), upo (by decide)]
    exact e5
  · rw [upx (by decide), upx (by decide), upo (by decide)]
    exact e7
  · rw [upx (by decide), upx (by decide), upo (by decide)]
    rcases h8 with z | z
    · exact z
    · rw [e8, z]
  · rw [upx (by decide), upj, List.length_cons]
    omega
  · rw [upo (by decide), upo (by decide), upj]
  · exact s1.cg (fun j hj => by rw [upo (by decide), upo (by decide), upx (by omega)])
  · rw [upo (by decide), upo (by decide), upo (by decide), upo (by decide), upo (by decide), upo (by decide)]
    exact r1
  · rcases List.mem_cons.mp hd with z | z
    · rw [z]
      exact hc
    · exact l3 d z
  · rw [upx (by decide), upx (by decide), upo (by decide)]
  · rw [upx (by decide), upx (by decide), upo (by decide)]
