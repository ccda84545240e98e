-- a clause by the reference
def RG (k t : Nat) (M N : am_M) : Prop := (∀ c, c ≠ 73 → (c < 83 ∨ 89 < c) → N c = M c) ∧ (∀ j, j ≠ 3 → j ≠ 5 → (j < 6 ∨ 9 < j) → (j < 26 ∨ 27 < j) → N 73 j = M 73 j) ∧ (∀ j, j < t → N 87 j = M 87 j ∧ N 88 j = M 88 j) ∧ (∀ j, j < k → N 83 j = M 83 j ∧ N 84 j = M 84 j ∧ N 85 j = M 85 j ∧ N 86 j = M 86 j)
theorem RG.rf {k t : Nat} {M : am_M} : RG k t M M := ⟨fun _ _ _ => rfl, fun _ _ _ _ _ => rfl, fun _ _ => ⟨rfl, rfl⟩, fun _ _ => ⟨rfl, rfl, rfl, rfl⟩⟩
theorem RG.tr {k t : Nat} {M N O : am_M} (a : RG k t M N) (b : RG k t N O) : RG k t M O := ⟨fun c h1 h2 => (b.1 c h1 h2).trans (a.1 c h1 h2), fun j h1 h2 h3 h4 => (b.2.1 j h1 h2 h3 h4).trans (a.2.1 j h1 h2 h3 h4), fun j h => ⟨(b.2.2.1 j h).1.trans (a.2.2.1 j h).1, (b.2.2.1 j h).2.trans (a.2.2.1 j h).2⟩, fun j h => ⟨(b.2.2.2 j h).1.trans (a.2.2.2 j h).1, (b.2.2.2 j h).2.1.trans (a.2.2.2 j h).2.1, (b.2.2.2 j h).2.2.1.trans (a.2.2.2 j h).2.2.1, (b.2.2.2 j h).2.2.2.trans (a.2.2.2 j h).2.2.2⟩⟩
theorem RG.lo {k t k' t' : Nat} {M N : am_M} (a : RG k t M N) (h : k' ≤ k) (h' : t' ≤ t) : RG k' t' M N := ⟨a.1, a.2.1, fun j hj => a.2.2.1 j (by omega), fun j hj => a.2.2.2 j (by omega)⟩
theorem RVf.rg {k t : Nat} {M N : am_M} (h : RVf t M N) : RG k t M N := ⟨fun c h1 h2 => h.1 c h1 (by omega), fun j h1 h2 h3 h4 => h.2.1 j h1 h2 (by omega) h4, h.2.2, fun j _ => by rw [h.1 83 (by decide) (by decide), h.1 84 (by decide) (by decide), h.1 85 (by decide) (by decide), h.1 86 (by decide) (by decide)]; exact ⟨rfl, rfl, rfl, rfl⟩⟩
theorem upe {M : am_M} {c j i x : Nat} {v : Int} (h : c = i → j ≠ x) : am_up M c j v i x = M i x := by
  by_cases q : c = i
  · subst q
    exact upx (fun z => h rfl z.symm)
  · rw [upo (fun z => q z.symm)]
theorem RG.up {k t c j : Nat} {v : Int} {M N : am_M} (a : RG k t M N) (h : (c = 73 ∧ (j = 3 ∨ j = 5 ∨ j = 6 ∨ j = 7 ∨ j = 8 ∨ j = 9)) ∨ ((c = 83 ∨ c = 84 ∨ c = 85 ∨ c = 86) ∧ k ≤ j)) : RG k t M (am_up N c j v) := by
  refine ⟨fun i h1 h2 => ?_, fun i h1 h2 h3 h4 => ?_, fun i hi => ?_, fun i hi => ?_⟩
  · rw [upo (by omega)]
    exact a.1 i h1 h2
  · rw [upe (by omega)]
    exact a.2.1 i h1 h2 h3 h4
  · rw [upe (by omega), upe (by omega)]
    exact a.2.2.1 i hi
  · rw [upe (by omega), upe (by omega), upe (by omega), upe (by omega)]
    exact a.2.2.2 i hi
theorem GR.rg {g M N : am_M} {k t : Nat} (h : GR g M) (e : RG k t M N) : GR g N := by
  unfold GR at h ⊢
  rw [e.2.1 1 (by decide) (by decide) (by decide) (by decide), e.2.1 42 (by decide) (by decide) (by decide) (by decide), e.2.1 43 (by decide) (by decide) (by decide) (by decide), e.2.1 19 (by decide) (by decide) (by decide) (by decide), e.2.1 66 (by decide) (by decide) (by decide) (by decide), e.1 74 (by decide) (by decide), e.1 75 (by decide) (by decide), e.1 92 (by decide) (by decide), e.1 94 (by decide) (by decide)]
  exact h
theorem Rcl {g M : am_M} {n p : Int} {t k : Nat} (hg : WG g) (hn : 1 ≤ n ∧ n ≤ 240) (hp : 0 ≤ p ∧ p ≤ n) (ht : (t : Int) ≤ p) (hG : GR g M) (h3 : M 73 3 = p) (h4 : M 73 4 = n) (h5 : M 73 5 = 0) (hk : k ≤ 16) (h6 : M 73 6 = k) (h7 : M 73 7 = t) : ∃ N, R_clause M = some N ∧ RG k t M N ∧ ((N 73 5 < 0 ∧ -7000 ≤ N 73 5 ∧ (clF g n k p).1 = N 73 5) ∨ (k < 16 ∧ ∃ (p' : Int) (c : CLt), clF g n k p = (0, p', c) ∧ N 73 3 = p' ∧ N 73 5 = 0 ∧ N 73 6 = ((k + 1 : Nat) : Int) ∧ N 73 7 = ((t + c.2.1.1 + c.2.2.1 : Nat) : Int) ∧ ((t + c.2.1.1 + c.2.2.1 : Nat) : Int) ≤ p' ∧ (N 83 k = c.1 ∧ N 84 k = t ∧ N 85 k = ((t + c.2.1.1 : Nat) : Int) ∧ N 86 k = ((t + c.2.1.1 + c.2.2.1 : Nat) : Int)) ∧ REx (N 87) (N 88) t c.2.1 ∧ REx (N 87) (N 88) (t + c.2.1.1) c.2.2)) := by
  have htb := taS_b hg (n := n) (by omega) p
  have hhb := heV_b htb
  have hh := R_here_eq hG hp.1 (show n ≤ 260 by omega) (by omega) (by omega) h3 h4
  unfold R_clause
  rw [hh, ob_s, c_eq_p (by omega) (by decide), c_eq_p (by omega) (by decide), c_eq_p (by omega) (by decide), c_eq_p (by omega) (by decide), c_eq_p (by omega) (by decide), c_eq_p (by omega) (by decide)]
  by_cases q : ltO (taS g n p)
  · rw [heV_p (by omega)]
    have hpn := ta_n (g := g) (n := n) (p := p) hp.1 (by omega)
    have hif : ∀ a b : Option am_M, (if taS g n p = 99 then a else if taS g n p = 118 then a else if taS g n p = 103 then a else if taS g n p = 110 then a else if taS g n p = 101 then a else if taS g n p = 100 then a else b) = a := fun a b => by
      repeat' split
      all_goals first
        | rfl
        | (exfalso; omega)
    rw [hif]
    unfold R_clause_53
    rw [h6, c_ne_p (by omega) (by decide)]
    by_cases q2 : k = 16
    · rw [if_neg (by omega), h3, wr_1 h5, ob_s]
      unfold R_clause_71
      rw [good_0 (by rw [upj]; omega) (by rw [upj]; omega), ob_s, c_ne_p (by decide) (by decide), if_neg (by decide)]
      exact ⟨_, rfl, RG.rf.up (by omega), Or.inl (by rw [upj, q2, cl_2 q]; dsimp only; omega)⟩
    · have hk2 : k < 16 := by omega
      rw [if_pos (by omega)]
      unfold R_clause_71 R_clause_150
      rw [good_1 h5, ob_s, c_ne_p (by decide) (by decide), if_pos (by decide), h6, wa_p (by omega), upo (show (73 : Nat) ≠ 83 by decide), h6, h7, wa_p (by omega), upo (show (73 : Nat) ≠ 84 by decide), upo (show (73 : Nat) ≠ 83 by decide), h3, fw_p, fw_p, fw_p, show ((k : Int)).toNat = k by omega]
      have f1 : RG k t M (am_up (am_up (am_up (am_up (am_up M 83 k (taS g n p)) 84 k (t : Int)) 73 3 (p + 1)) 73 9 0) 73 8 0) := ((((RG.rf.up (by omega)).up (by omega)).up (by omega)).up (by omega)).up (by omega)
      have e6 : (am_up (am_up (am_up (am_up (am_up M 83 k (taS g n p)) 84 k (t : Int)) 73 3 (p + 1)) 73 9 0) 73 8 0) 73 6 = k := by
        rw [upx (by decide), upx (by decide), upx (by decide), upo (by decide), upo (by decide)]
        exact h6
      have e83 : (am_up (am_up (am_up (am_up (am_up M 83 k (taS g n p)) 84 k (t : Int)) 73 3 (p + 1)) 73 9 0) 73 8 0) 83 k = taS g n p := by
        rw [upo (by decide), upo (by decide), upo (by decide), upo (by decide), upj]
      have e84 : (am_up (am_up (am_up (am_up (am_up M 83 k (taS g n p)) 84 k (t : Int)) 73 3 (p + 1)) 73 9 0) 73 8 0) 84 k = t := by
        rw [upo (by decide), upo (by decide), upo (by decide), upj]
      have hV : RVt (am_up (am_up (am_up (am_up (am_up M 83 k (taS g n p)) 84 k (t : Int)) 73 3 (p + 1)) 73 9 0) 73 8 0) n (p + 1) t t [] [] 0 := by
        refine ⟨⟨?_, ?_, ?_, ?_, ?_, ?_⟩, trivial, rfl, ?_, by decide, fun c hc => by cases hc⟩
        · rw [upx (by decide), upx (by decide), upj]
        · rw [upx (by decide), upx (by decide), upx (by decide), upo (by decide), upo (by decide)]
          exact h4
        · rw [upx (by decide), upx (by decide), upx (by decide), upo (by decide), upo (by decide)]
          exact h5
        · rw [upx (by decide), upx (by decide), upx (by decide), upo (by decide), upo (by decide)]
          exact h7
        · rw [upj]
          rfl
        · rw [upx (by decide), upj]
          rfl
        · show ((t + 0 : Nat) : Int) ≤ p + 1
          omega
      generalize am_up (am_up (am_up (am_up (am_up M 83 k (taS g n p)) 84 k (t : Int)) 73 3 (p + 1)) 73 9 0) 73 8 0 = M6 at f1 e6 e83 e84 hV ⊢
      obtain ⟨N1, a1, a2, _, a4⟩ := Rvalue_eq hg hn (by omega) (hG.rg f1) hV (Nat.le_refl _)
      have n6 : N1 73 6 = k := (a2.2.1 6 (by decide) (by decide) (by decide) (by decide)).trans e6
      have hvs := vf_s (vs := []) (ops := []) hg hn (by decide) (by decide) (show 0 ≤ p + 1 ∧ p + 1 ≤ n by omega)
      rw [a1, ob_s, n6, wa_p (by omega), show ((k : Int)).toNat = k by omega]
      rcases a4 with ⟨z1, z2, z3⟩ | ⟨p1, vs1, ops1, t1, z1, z2, z3, z4, z5⟩
      · rw [good_0 (by rw [upo (by decide)]; exact z1) (by rw [upo (by decide)]; omega), ob_s, c_eq_p (by decide) (by decide), if_pos rfl, upo (show (73 : Nat) ≠ 85 by decide), n6, wa_p (by omega), show ((k : Int)).toNat = k by omega, upo (show (73 : Nat) ≠ 86 by decide), upo (show (73 : Nat) ≠ 85 by decide), n6, fw_p]
        refine ⟨_, rfl, (((f1.tr a2.rg).up (by omega)).up (by omega)).up (by omega), Or.inl ?_⟩
        rw [upx (by decide), upo (by decide), upo (by decide)]
        exact ⟨z1, z2, cl_3 q q2 z3 (by omega)⟩
      · obtain ⟨p2, x, y1, y2, y3, y4⟩ : ∃ (p2 : Int) (x : SX), vfin g n false (p + 1) [] [] = (0, p2, [x], []) ∧ XO x ∧ p + 1 < p2 ∧ p2 ≤ n := by
          rcases hvs with w | w
          · rw [z1] at w
            exact absurd w.1 (by dsimp only; omega)
          · exact w
        rw [y1] at z1
        have i1 : p2 = p1 := congrArg (fun r : VR => r.2.1) z1
        have i2 : [x] = vs1 := congrArg (fun r : VR => r.2.2.1) z1
        have i3 : [] = ops1 := congrArg (fun r : VR => r.2.2.2) z1
        subst i1
        subst i2
        subst i3
        have w2 : RVt (am_up N1 85 k (N1 73 7)) n p2 t t1 [x] [] 0 := by
          obtain ⟨⟨c3, c4, c5, c7, c8, c9⟩, s1, r1, l1', l2, l3⟩ := z2
          exact ⟨⟨by rw [upo (by decide)]; exact c3, by rw [upo (by decide)]; exact c4, by rw [upo (by decide)]; exact c5, by rw [upo (by decide)]; exact c7, by rw [upo (by decide)]; exact c8, by rw [upo (by decide)]; exact c9⟩, trivial, by rw [upo (by decide), upo (by decide)]; exact r1, l1', l2, l3⟩
        have f2 : RG k t M (am_up N1 85 k (N1 73 7)) := (f1.tr a2.rg).up (by omega)
        have e5 : N1 73 5 = 0 := z2.1.2.2.1
        have e7 : N1 73 7 = t1 := z2.1.2.2.2.1
        obtain ⟨t2, r1, r2, r3, r4⟩ := z2.2.2.1
        have r4' : t2 = t := r4
        subst r4'
        obtain ⟨N2, b1, b2, b3, b4⟩ := Rcond_eq hg hn (show 0 ≤ p2 ∧ p2 ≤ n by omega) (hG.rg f2) w2
        have m6 : N2 73 6 = k := (b2.2.1 6 (by decide) (by decide) (by decide) (by decide)).trans (by rw [upo (by decide)]; exact n6)
        rw [good_1 (by rw [upo (by decide)]; exact e5), ob_s, c_eq_p (by decide) (by decide), if_neg (by decide), b1, ob_s, m6, wa_p (by omega), show ((k : Int)).toNat = k by omega, upo (show (73 : Nat) ≠ 86 by decide), m6, fw_p]
        have f3 : RG k t2 M (am_up (am_up N2 86 k (N2 73 7)) 73 6 ((k : Int) + 1)) := ((f2.tr b2.rg).up (by omega)).up (by omega)
        by_cases q3 : taS g n p2 = 40
        · have hpn2 := ta_n (g := g) (n := n) (p := p2) (by omega) (by omega)
          have hcs := cf_s (vs := [x]) hg hn (show 0 ≤ p2 + 1 ∧ p2 + 1 ≤ n by omega)
          obtain ⟨_, b5⟩ := b4 q3
          rcases b5 with ⟨u1, u2, u3⟩ | ⟨p3, vs3, t3, u1, u2, u3, u4⟩
          · refine ⟨_, rfl, f3, Or.inl ?_⟩
            rw [upx (by decide), upo (by decide)]
            exact ⟨u1, u2, cl_5 q q2 y1 q3 u3 (by omega)⟩
          · obtain ⟨p4, y, v1, v2, v3, v4, v5, v6⟩ : ∃ (p4 : Int) (y : SX), cfin g n false (p2 + 1) [x] [40] = (0, p4, [y, x], []) ∧ XO y ∧ y.2.2.1 = true ∧ y.2.1 ≤ 20 ∧ p2 + 1 < p4 ∧ p4 ≤ n := by
              rcases hcs with w | w
              · rw [u1] at w
                exact absurd w.1 (by dsimp only; omega)
              · exact w
            rw [v1] at u1
            have i1 : p4 = p3 := congrArg (fun r : VR => r.2.1) u1
            have i2 : [y, x] = vs3 := congrArg (fun r : VR => r.2.2.1) u1
            subst i1
            subst i2
            obtain ⟨⟨c3, c4, c5, c7, c8, c9⟩, _, ⟨t4, r5, r6, r7, t5, r8, r9, r10, r11⟩, l1, _, _⟩ := u2
            have r11' : t5 = t2 := r11
            subst r11'
            have hl : ((t3 + 0 : Nat) : Int) ≤ p4 := l1
            have ht3 : t3 = t5 + x.1 + y.1 := by omega
            refine ⟨_, rfl, f3, Or.inr ⟨hk2, p4, (taS g n p, x, y), cl_6 q q2 y1 q3 v1, ?_, ?_, ?_, ?_, ?_, ⟨?_, ?_, ?_, ?_⟩, ?_, ?_⟩⟩
            · rw [upx (by decide), upo (by decide)]
              exact c3
            · rw [upx (by decide), upo (by decide)]
              exact c5
            · rw [upj]
              omega
            · rw [upx (by decide), upo (by decide), c7, ht3]
            · show ((t5 + x.1 + y.1 : Nat) : Int) ≤ p4
              omega
            · rw [upo (by decide), upo (by decide), b2.1 83 (by decide) (by decide), upo (by decide), a2.1 83 (by decide) (by decide)]
              exact e83
            · rw [upo (by decide), upo (by decide), b2.1 84 (by decide) (by decide), upo (by decide), a2.1 84 (by decide) (by decide)]
              exact e84
            · rw [upo (by decide), upo (by decide), b2.1 85 (by decide) (by decide), upj, e7, r1]
            · rw [upo (by decide), upj, c7, ht3]
            · rw [upo (by decide), upo (by decide), upo (by decide), upo (by decide)]
              exact r9
            · rw [upo (by decide), upo (by decide), upo (by decide), upo (by decide)]
              show REx (N2 87) (N2 88) (t5 + x.1) y
              rw [← r8]
              exact r6
        · refine ⟨_, rfl, f3, Or.inl ?_⟩
          rw [upx (by decide), upo (by decide), b3 q3]
          exact ⟨by omega, by omega, by rw [cl_v q q2 y1, if_neg q3]⟩
  · have hif : ∀ a b : Option am_M, (if heV (taS g n p) = 99 then a else if heV (taS g n p) = 118 then a else if heV (taS g n p) = 103 then a else if heV (taS g n p) = 110 then a else if heV (taS g n p) = 101 then a else if heV (taS g n p) = 100 then a else b) = b := fun a b => by
      have hne : ¬ ltO (heV (taS g n p)) := by
        unfold heV
        split <;> omega
      rw [if_neg (by omega), if_neg (by omega), if_neg (by omega), if_neg (by omega), if_neg (by omega), if_neg (by omega)]
    rw [hif, h3, wr_1 h5, ob_s]
    unfold R_clause_71
    rw [good_0 (by rw [upj]; omega) (by rw [upj]; omega), ob_s, c_ne_p (by decide) (by decide), if_neg (by decide)]
    exact ⟨_, rfl, RG.rf.up (by omega), Or.inl (by rw [upj, cl_1 q]; dsimp only; omega)⟩
