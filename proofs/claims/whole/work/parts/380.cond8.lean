-- the law read: a test of two values, by the reference
theorem Rcp_eq {c : Int} {M : am_M} (h : am_R c) : R_isCompared c M = some (if cpO c then 1 else 0) := by
  unfold R_isCompared R_isCompared_18 R_isCompared_23
  rw [c_eq_p h (by decide), c_eq_p h (by decide), c_ne_p h (by decide), ck_p (by decide), ck_p (by decide)]
  by_cases q1 : c = 60
  · rw [if_pos q1, if_pos (by omega)]
  rw [if_neg q1]
  by_cases q2 : c = 62
  · rw [if_pos q2, if_pos (by omega)]
  rw [if_neg q2]
  by_cases q3 : c = 61
  · rw [if_neg (fun h => h q3), if_pos (by omega)]
  · rw [if_pos q3, if_neg (by omega)]
theorem em26 {M N : am_M} {o w : Int} {t : Nat} (h5 : M 73 5 = 0) (h7 : M 73 7 = t) (ht : t < 240) (h : R_emit o w M = some N) : ∀ j, j ≠ 7 → N 73 j = M 73 j := fun j hj => by
  unfold R_emit at h
  rw [good_1 h5, ob_s, c_ne_p (by decide) (by decide), if_pos (by decide), h7, wa_p (by omega), upo (show (73 : Nat) ≠ 87 by decide), h7, wa_p (by omega), fw_p] at h
  have := Option.some.inj h
  rw [← this, upx hj, upo (by decide), upo (by decide)]
theorem pc_val {g : am_M} {n p : Int} {b t : Nat} {vs : List SX} {ops : List Int} {M : am_M} (hg : WG g) (hn : 1 ≤ n ∧ n ≤ 240) (hp : 0 ≤ p ∧ p ≤ n) (hG : GR g M) (h : RVt M n p b t vs ops 0) (hS : SFo ops) (hB : BFl (jc ops) vs) : ∃ N, R_pieceOfC_32 M = some N ∧ RVf b M N ∧ N 73 26 = M 73 26 ∧ ((N 73 5 < 0 ∧ -7000 ≤ N 73 5 ∧ ∀ rec, (tsB g n rec p vs ops).1 = N 73 5) ∨ (∃ (p' : Int) (vs' : List SX) (ops' : List Int) (t' : Nat), (∀ rec, tsB g n rec p vs ops = rec true p' vs' ops') ∧ RVt N n p' b t' vs' ops' 0 ∧ p < p' ∧ p' ≤ n ∧ SFo ops' ∧ hdO ops' ≠ 33 ∧ BFl (jc ops' + 1) vs')) := by
  have hhd := hS.hd
  have hbn := hS.bn
  have hln := hB.ln
  have hop6 := h.2.2.2.2.1
  have hb0 : ¬ tiO (hdO ops) ∧ ¬ plO (hdO ops) ∧ hdO ops ≠ 91 := by omega
  obtain ⟨N1, a1, a2, a3, a4⟩ := Rvalue_eq hg hn hp hG h (by omega)
  have hvs := vf_s (vs := vs) hg hn hop6 hb0 hp
  unfold R_pieceOfC_32
  rw [good_1 h.1.2.2.1, ob_s, c_eq_p (by decide) (by decide), if_neg (by decide), a1, ob_s]
  unfold R_pieceOfC_43
  rcases a4 with ⟨z1, z2, z3⟩ | ⟨p1, vs1, ops1, t1, z1, z2, z3, z4, z5⟩
  · rw [good_0 z1 (by omega), ob_s, c_ne_p (by decide) (by decide), if_neg (by decide)]
    exact ⟨N1, rfl, a2, a3, Or.inl ⟨z1, z2, fun rec => by rw [ts_b z3 (by omega)]⟩⟩
  rcases hvs with w | ⟨p1', x, w1, w2, w3, w4⟩
  · rw [z1] at w
    exact absurd w.1 (Int.lt_irrefl 0)
  have heq := z1.symm.trans w1
  injection heq with _ heq
  injection heq with e1 heq
  injection heq with e2 e3
  subst e1
  subst e2
  have e3 := e3.symm
  subst e3
  have hG1 := hG.rvf a2
  have htb1 := taS_b hg (n := n) (by omega) p1
  have hhb := heV_b htb1
  have hh := R_here_eq hG1 (p := p1) (by omega) (show n ≤ 260 by omega) (by omega) (by omega) z2.1.1 z2.1.2.1
  have hhe : ∀ c : Int, 0 < c → (heV (taS g n p1) = c ↔ taS g n p1 = c) := fun c hc => by
    unfold heV
    split <;> omega
  have hcp : cpO (heV (taS g n p1)) ↔ cpO (taS g n p1) := by
    have w1 := hhe 60 (by decide)
    have w2 := hhe 61 (by decide)
    have w3 := hhe 62 (by decide)
    omega
  rw [good_1 z2.1.2.2.1, ob_s, c_ne_p (by decide) (by decide), if_pos (by decide), hh, ob_s, Rcp_eq (by omega), ob_s]
  by_cases q : cpO (taS g n p1)
  · have hpn1 := ta_n (g := g) (n := n) (p := p1) (by omega) (by omega)
    rw [if_pos (hcp.mpr q), c_ne_p (by decide) (by decide), if_pos (by decide), heV_p (by omega)]
    obtain ⟨N2, c1, c2, c3, c4, c5⟩ := Rputs (c := taS g n p1) z2 (by omega) (by omega) (Or.inr (opn_c (by omega))) (by rw [opn_c (by omega)]; exact hop6)
    have f2 := a2.tr c3
    have hbn2 : bnc (taS g n p1 :: ops) ≤ (x :: vs).length := by
      rw [bnc_c (by omega), List.length_cons]
      omega
    have hb1 : ¬ tiO (hdO (taS g n p1 :: ops)) ∧ ¬ plO (hdO (taS g n p1 :: ops)) ∧ hdO (taS g n p1 :: ops) ≠ 91 := by
      show ¬ tiO (taS g n p1) ∧ ¬ plO (taS g n p1) ∧ taS g n p1 ≠ 91
      omega
    have hvs2 := vf_s (vs := x :: vs) hg hn (show opn (taS g n p1 :: ops) ≤ 6 by rw [opn_c (by omega)]; exact hop6) hb1 (show 0 ≤ p1 + 1 ∧ p1 + 1 ≤ n by omega)
    obtain ⟨N3, d1, d2, d3, d4⟩ := Rvalue_eq hg hn (show 0 ≤ p1 + 1 ∧ p1 + 1 ≤ n by omega) (hG.rvf f2) c2 hbn2
    have f3 := f2.tr d2
    have n26 : N3 73 26 = M 73 26 := by rw [d3, c5, a3]
    rw [c1, ob_s, d1, ob_s]
    rcases d4 with ⟨y1, y2, y3⟩ | ⟨p2, vs2, ops2, t2, y1, y2, y3, y4, y5⟩
    · rw [good_0 y1 (by omega), ob_s, c_ne_p (by decide) (by decide), if_neg (by decide)]
      refine ⟨N3, rfl, f3, n26, Or.inl ⟨y1, y2, fun rec => ?_⟩⟩
      rw [ts_v z1, if_pos q, if_pos (by rw [y3]; omega)]
      exact y3
    rcases hvs2 with w | ⟨p2', y, u1, u2, u3, u4⟩
    · rw [y1] at w
      exact absurd w.1 (Int.lt_irrefl 0)
    have heq := y1.symm.trans u1
    injection heq with _ heq
    injection heq with e1 heq
    injection heq with e2 e3
    subst e1
    subst e2
    subst e3
    have ht := Rtop_eq y2 (show p2 ≤ 240 by omega)
    obtain ⟨N4, g1, g2, g3⟩ := Rred y2 (by omega) (Or.inl q)
    have l1 := y2.2.2.2.1
    rw [List.length_cons] at l1
    have g4 := em26 y2.1.2.2.1 y2.1.2.2.2.1 (by omega) g1
    have hfl : BFl (jc ops + 1) (biX (taS g n p1) x y :: vs) := ⟨decide_eq_true q, hB⟩
    obtain ⟨N5, t5, i1, i2, i3, i4, i5⟩ := Rends (show p2 ≤ 240 by omega) ops (biX (taS g n p1) x y :: vs) (t2 + 1) am_big _ g2 hfl (by show _ < 1000000; omega)
    have hen := SFo.en (vs := biX (taS g n p1) x y :: vs) hS
    rw [good_1 y2.1.2.2.1, ob_s, c_ne_p (by decide) (by decide), if_pos (by decide), ht, ob_s, show hdO (taS g n p1 :: ops) = taS g n p1 from rfl, g1, ob_s, fw_p]
    unfold R_ends
    rw [i1, ob_s]
    refine ⟨N5, rfl, (f3.tr g3).tr i3, ?_, Or.inr ⟨p2, _, _, t5, fun rec => ?_, i2, by omega, y4, hen.1, hen.2, i4⟩⟩
    · rw [i5, upx (by decide), g4 26 (by decide)]
      exact n26
    · rw [ts_v z1, if_pos q, y1, if_neg (fun w => w rfl), if_pos (by dsimp only; omega)]
      rfl
  · rw [if_neg (fun w => q (hcp.mp w)), c_ne_p (by decide) (by decide), if_neg (by decide), z2.1.1, wr_1 z2.1.2.2.1, ob_s]
    refine ⟨_, rfl, a2.up (by omega), by rw [upx (by decide)]; exact a3, Or.inl ⟨by rw [upj]; omega, by rw [upj]; omega, fun rec => ?_⟩⟩
    rw [ts_v z1, if_neg q, upj]
    dsimp only
    omega
