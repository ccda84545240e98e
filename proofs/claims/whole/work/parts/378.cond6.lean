-- the law read: conditions, by the reference: what is put together
theorem Rjoins {n p : Int} {b : Nat} {a : Bool} (hp : p ≤ 240) : ∀ (ops : List Int) (vs : List SX) (t fu : Nat) (M : am_M), RVt M n p b t vs ops 0 → BFl (jc ops + 1) vs → ops.length < fu → ∃ N t', R_joins_0 fu (b1 a) M = some N ∧ RVt N n p b t' (joS a ops vs).1 (joS a ops vs).2 0 ∧ RVf b M N ∧ BFl (jc (joS a ops vs).2 + 1) (joS a ops vs).1 ∧ N 73 26 = M 73 26
  | ops, vs, t, 0, M, h, hb, hf => by omega
  | [], vs, t, fu + 1, M, h, hb, hf => by
    refine ⟨M, t, ?_, h, RVf.rf, hb, rfl⟩
    have ht := Rtop_eq h hp
    rw [R_joins_0]
    unfold R_joins_44
    rw [ht, ob_s, c_eq_p (show am_R (hdO []) by decide) (by decide), if_neg (show ¬ (hdO [] = 38) by decide), c_eq_p (b1_R a) (by decide), ob_s, c_ne_p (show am_R (hdO []) by decide) (by decide), if_pos (show hdO [] ≠ 124 by decide)]
    split <;> rfl
  | c :: r, vs, t, fu + 1, M, h, hb, hf => by
    have hcr := h.2.2.2.2.2 c List.mem_cons_self
    have ht := Rtop_eq h hp
    have hh : hdO (c :: r) = c := rfl
    rw [hh] at ht
    rw [R_joins_0]
    unfold R_joins_44 joS
    rw [ht, ob_s, c_eq_p (by omega) (by decide), c_eq_p (b1_R a) (by decide), ob_s, c_ne_p (by omega) (by decide)]
    by_cases q : c = 38 ∨ (a = true ∧ c = 124)
    · rw [if_pos q]
      have hj : jc (c :: r) = 1 + jc r := by
        show (if c = 38 ∨ c = 124 then 1 else 0) + jc r = _
        rw [if_pos (by omega)]
      rw [hj, show 1 + jc r + 1 = jc r + 1 + 1 by omega] at hb
      rw [List.length_cons] at hf
      obtain ⟨y, x, vs', rfl, by1, bx1, hb'⟩ : ∃ y x vs', vs = y :: x :: vs' ∧ y.2.2.1 = true ∧ x.2.2.1 = true ∧ BFl (jc r) vs' := by
        cases vs with
        | nil => exact absurd hb (fun z => z)
        | cons y w =>
          cases w with
          | nil => exact absurd hb.2 (fun z => z)
          | cons x w => exact ⟨y, x, w, rfl, hb.1, hb.2.1, hb.2.2⟩
      obtain ⟨N, a1, a2, a3, a4⟩ := Rjn h hp (by omega) bx1 by1
      have hfl : BFl (jc r + 1) (jn1 c (y :: x :: vs')) := by
        rw [show jn1 c (y :: x :: vs') = (if c = 38 then anX x y else roX x y) :: vs' from rfl]
        refine ⟨?_, hb'⟩
        split <;> rfl
      obtain ⟨N2, t2, b1', b2, b3, b4, b5⟩ := Rjoins (a := a) hp r (jn1 c (y :: x :: vs')) (t + 1) fu _ a2 hfl (by omega)
      have hs22 : R_joins_22 (R_joins_0 fu) (b1 a) M = some N2 := by
        unfold R_joins_22
        rw [ht, ob_s, a1, ob_s, fw_p]
        exact b1'
      refine ⟨N2, t2, ?_, b2, a3.tr b3, b4, b5.trans a4⟩
      rw [hs22]
      by_cases q1 : c = 38
      · rw [if_pos q1]
      · rw [if_neg q1]
        rcases q with z | z
        · exact absurd z q1
        · rw [z.1, if_neg (show ¬ (b1 true = 0) by decide), if_neg (fun w => w z.2)]
    · rw [if_neg q]
      refine ⟨M, t, ?_, h, RVf.rf, hb, rfl⟩
      rw [if_neg (fun z => q (Or.inl z))]
      cases a with
      | false => rfl
      | true => rw [if_neg (show ¬ (b1 true = 0) by decide), if_pos (fun z => q (Or.inr ⟨rfl, z⟩))]
theorem Rends {n p : Int} {b : Nat} (hp : p ≤ 240) : ∀ (ops : List Int) (vs : List SX) (t fu : Nat) (M : am_M), RVt M n p b t vs ops 0 → BFl (jc ops + 1) vs → ops.length < fu → ∃ N t', R_ends_0 fu M = some N ∧ RVt N n p b t' (enS ops vs).1 (enS ops vs).2 0 ∧ RVf b M N ∧ BFl (jc (enS ops vs).2 + 1) (enS ops vs).1 ∧ N 73 26 = M 73 26
  | ops, vs, t, 0, M, h, hb, hf => by omega
  | [], vs, t, fu + 1, M, h, hb, hf => by
    refine ⟨M, t, ?_, h, RVf.rf, hb, rfl⟩
    have ht := Rtop_eq h hp
    rw [R_ends_0, ht, ob_s, c_ne_p (show am_R (hdO []) by decide) (by decide), if_pos (show hdO [] ≠ 33 by decide)]
  | c :: r, vs, t, fu + 1, M, h, hb, hf => by
    have hcr := h.2.2.2.2.2 c List.mem_cons_self
    have ht := Rtop_eq h hp
    have hh : hdO (c :: r) = c := rfl
    rw [hh] at ht
    rw [R_ends_0]
    unfold enS
    rw [ht, ob_s, c_ne_p (by omega) (by decide)]
    by_cases q : c = 33
    · subst q
      rw [if_pos rfl, if_neg (fun w => w rfl)]
      have hj : jc (33 :: r) = jc r := by
        show (if (33 : Int) = 38 ∨ (33 : Int) = 124 then 1 else 0) + jc r = _
        rw [if_neg (by decide)]
        omega
      rw [hj] at hb
      rw [List.length_cons] at hf
      obtain ⟨x, vs', rfl, bx1, hb'⟩ : ∃ x vs', vs = x :: vs' ∧ x.2.2.1 = true ∧ BFl (jc r) vs' := by
        cases vs with
        | nil => exact absurd hb (fun z => z)
        | cons x w => exact ⟨x, w, rfl, hb.1, hb.2⟩
      obtain ⟨N, a1, a2, a3, a4⟩ := Rng h hp bx1
      obtain ⟨N2, t2, b1', b2, b3, b4, b5⟩ := Rends hp r (ngX x :: vs') (t + 1) fu _ a2 ⟨rfl, hb'⟩ (by omega)
      refine ⟨N2, t2, ?_, b2, a3.tr b3, b4, b5.trans a4⟩
      rw [a1, ob_s, fw_p, fw_p, upx (show (8 : Nat) ≠ 9 by decide)]
      exact b1'
    · rw [if_neg q, if_pos q]
      exact ⟨M, t, rfl, h, RVf.rf, hb, rfl⟩
