-- tried
theorem AS.rf {r : Nat} {u M N : am_M} (h : AS r u M) (e : RF M N) : AS r u N := h.cg (fun k _ _ => e.1 k (by omega) (by omega) (by omega) (by omega) (by omega))
theorem LWR.bf {F : FT} {M N : am_M} (h : LWR F M) (e : BF M N) : LWR F N := h.cg (fun k _ _ => e.1 k (by omega) (by omega) (by omega)) (e.2 19 (by decide) (by decide) (by decide) (by decide) (by decide) (by decide))
theorem GR.af {g M N : am_M} {r : Nat} (h : GR g M) (e : AF r M N) : GR g N := by
  unfold GR at h ⊢
  rw [e.1 73 (by decide), e.1 74 (by decide), e.1 75 (by decide), e.1 92 (by decide), e.1 94 (by decide)]
  exact h
theorem KR.af {u M N : am_M} (h : KR u M) (e : AF 0 M N) : KR u N := by
  unfold KR at h ⊢
  refine ⟨?_, fun p hp => ?_, fun p hp => ?_⟩
  · rw [e.2.2.2 109 1 (by decide) (by decide) (by decide), e.2.2.2 107 1 (by decide) (by decide) (by decide), e.2.2.2 108 1 (by decide) (by decide) (by decide), e.2.2.2 110 1 (by decide) (by decide) (by decide), e.2.2.2 111 1 (by decide) (by decide) (by decide), e.2.2.2 112 1 (by decide) (by decide) (by decide)]
    exact h.1
  · rw [e.2.1 102 _ (by decide) (by decide) (by omega), e.2.1 103 _ (by decide) (by decide) (by omega), e.2.1 104 _ (by decide) (by decide) (by omega), e.2.1 105 _ (by decide) (by decide) (by omega), e.2.1 106 _ (by decide) (by decide) (by omega)]
    exact h.2.1 p hp
  · rw [e.2.2.1 _ (by omega)]
    exact h.2.2 p hp
theorem PR.af {F : FT} {g t u M N : am_M} (h : PR F g t u M) (e : AF 0 M N) : PR F g t u N := ⟨h.1.af e, h.2.1.cg' (fun k _ _ => e.1 k (by omega)), fun q => (h.2.2.1 q).af e, h.2.2.2.cg (fun k _ _ => e.1 k (by omega)) (by rw [e.1 73 (by decide)])⟩
/-- the reference takes back what it tried -/
theorem tbk {F : FT} {g t u M N : am_M} (hw : WT t) (h : PR F g t u M) (hA : AS 0 t M) (e : RF M N) : ∃ N', R_bringsBack 0 N = some N' ∧ PR F g t u N' ∧ RF M N' ∧ AS 0 t N' := by
  obtain ⟨N', a1, a2, a3⟩ := R_bringsBack_eq (r := 0) (by decide) hw (hA.rf e)
  refine ⟨N', a1, ⟨(h.1.rf e).bf a3, a2, fun q => ((h.2.2.1 q).cg' (fun k _ _ => e.1 k (by omega) (by omega) (by omega) (by omega) (by omega))).cg' (fun k _ _ => a3.1 k (by omega) (by omega) (by omega)), (h.2.2.2.rf e).bf a3⟩, ?_, (hA.rf e).cg (fun k _ _ => a3.1 k (by omega) (by omega) (by omega))⟩
  refine e.tr ⟨fun k h1 h2 h3 h4 h5 => a3.1 k (by omega) (by omega) (by omega), fun j h1 h2 h3 h4 h5 => a3.2 j (by omega) (by omega) (by omega) (by omega) (by omega) (by omega)⟩
def trS (e : PE) (t : am_M) (y : Int) : Int := if y = 0 then e.1 0 3 - t 0 3 else if y = 1 then e.2.2.1 else if y = 2 then e.2.2.2 else if y = 3 then e.1 2 (e.1 0 2).toNat else if y = 4 then (if e.1 0 0 = -1 then -2 else e.1 1 (e.1 0 0).toNat) else e.2.1
theorem P_tried_ok {n : Nat} {x y : Int} (hx : am_R x) (hy : am_R y) : OKb n (P_tried x y) (R_tried x y) := by
  refine OKb.of (lp := [12, 13, 14, 34, 35, 36, 37, 38, 39, 40, 41, 50, 51]) (lr := [73, 90, 91, 93, 95, 96, 97, 98, 99, 100, 101, 102, 103, 104, 105, 106, 107, 108, 109, 110, 111, 112, 113, 114, 115, 116]) (by decide) (by decide) (fun M r h => P_tried_c x y M r h) (fun M r h => R_tried_c x y M r h) (fun F g t u hW hM => ?_)
  have hg := hW.1.1
  by_cases hc : (0 ≤ y ∧ y ≤ 5) ∧ (1 ≤ x ∧ x ≤ 80) ∧ x ≤ g 0 0
  · obtain ⟨M0, hM0⟩ := hM
    obtain ⟨_, _, _, hfw, _⟩ := rdP hW hM0 hc.2.1
    have hW' := hW.tk
    by_cases q : (FI g x).1 = 0
    · obtain ⟨w1, w2⟩ := hfw.2 q
      obtain ⟨p1, p2, p3, p4, p5⟩ := pfS_W (ac := (FI g x).2.2) hW'.2.2.2.2 hW'.1 (FI g x).2.1 0 t 0 hW'.2.1 hW'.2.2.1
      have hpf : ∀ M, GP (tkS g) M → LWP F M → TP 34 t M → M 50 3 = (FI g x).2.1 → (∀ j : Nat, j < (FI g x).2.1 → M 51 j = (FI g x).2.2 j) → _ := fun M h1 h2 h3 h4 h5 => pfP_34 hW'.2.2.2.2 hW'.1 hW'.2.1 hW'.2.2.1 h1 h2 h3 w1 w2 h4 h5
      have hpr : ∀ M, GR (tkS g) M → LWR F M → TR t M → (∀ j : Nat, j < (FI g x).2.1 → M 113 j = (FI g x).2.2 j) → _ := fun M h1 h2 h3 h4 => pfR hW'.2.2.2.2 hW'.1 hW'.2.1 hW'.2.2.1 h1 h2 h3 w1 w2 h4
      generalize hE : pfS F (tkS g) (FI g x).2.2 (FI g x).2.1 0 t 0 = E at p1 p2 p3 p4 p5 hpf hpr
      have hb1 := p1.1
      have hb2 := hW.2.1.1
      have hcell := p1.2.1 (E.1 0 2).toNat (by omega)
      refine ⟨trS E t y, F, tkS g, t, u, ?_, hW', fun M hC => ?_, fun M hR hB => ?_⟩
      · unfold trS
        have h6 : E.1 0 0 ≠ -1 → 0 ≤ E.1 1 (E.1 0 0).toNat ∧ E.1 1 (E.1 0 0).toNat ≤ 99 := fun z => p1.2.2.1 _ (by omega)
        repeat' split
        all_goals omega
      · obtain ⟨N, a1, a2, _, a4⟩ := rdP hW hC hc.2.1
        obtain ⟨N1, b1, b2⟩ := Trip_copyFrom_34_26_eq hW.2.1 a2.2.1
        have b3 := Trip_copyFrom_34_26_c N N1 b1
        have a2' : PC F (tkS g) t u n N1 := a2.ge (fun k _ _ h3 _ _ => b3 k (by simp; omega))
        obtain ⟨N2, c1, c2, c3, c4, c5, c6⟩ := hpf N1 a2'.1 a2'.2.2.2.1 b2 (by rw [b3 50 (by decide)]; exact (a4 q).2) (fun j hj => by rw [b3 51 (by decide)]; exact (a4 q).1 j hj)
        have a3 : PC F (tkS g) t u n N2 := a2'.ge (fun k h1 h2 h3 h4 _ => c6.1 k h1 h2 (by omega) (by omega))
        refine ⟨N2, ?_, a3.cg (fun _ _ => rfl) (by omega)⟩
        unfold P_tried P_tried_174 P_tried_190
        rw [c_lt_p hy (by decide), if_neg (by omega), c_gt_p hy (by decide), if_neg (by omega), Tape_take_eq hW.1 hC.1 hx (by decide) (by decide), if_pos (by omega), oc_s, c_ne_p (by decide) (by decide), if_pos (by decide), a1, oc_s, q, c_ge_p (by decide) (by decide), if_pos (by decide), b1, ob_s, c1, oc_s, ck_p hy]
        unfold trS
        by_cases y0 : y = 0
        · rw [if_pos y0, if_pos y0]
        rw [if_neg y0, if_neg y0]
        by_cases y1 : y = 1
        · rw [if_pos y1, if_pos y1, c4]
        rw [if_neg y1, if_neg y1]
        by_cases y2 : y = 2
        · rw [if_pos y2, if_pos y2, c5]
        rw [if_neg y2, if_neg y2]
        by_cases y3 : y = 3
        · have e11 : N2 34 11 = E.1 0 2 := c2.1.2.2.1
          rw [if_pos y3, if_pos y3, e11, Trip_cellAt_34_eq p1 c2 (by omega), ob_s, show ceS E.1 (E.1 0 2) = E.1 2 (E.1 0 2).toNat from if_pos (by omega)]
        rw [if_neg y3, if_neg y3]
        by_cases y4 : y = 4
        · have e9 : N2 34 9 = (if E.1 0 0 = -1 then -2 else E.1 0 0) := c2.1.1
          rw [if_pos y4, if_pos y4, told_eq hW'.1 a3.1 (by rw [e9]; split <;> omega), ob_s, e9]
          by_cases z : E.1 0 0 = -1
          · rw [if_pos z, if_pos z, if_neg (by omega), c_eq_p (by decide) (by decide), if_pos rfl]
          · have := p2 z
            rw [if_neg z, if_neg z, if_pos ⟨by omega, by omega, this⟩, c_eq_p (by decide) (by decide), if_neg (by decide), Trip_tiredOf_34_eq c2 (by omega) (by omega), ob_s]
        rw [if_neg y4, if_neg y4, c3, c_eq_p (by omega) (by decide)]
        by_cases z : E.2.1 = 0
        · rw [if_pos z, z]
        · rw [if_neg z, show E.2.1 = 1 by omega]
      · obtain ⟨N, a1, a2, a3, a4⟩ := rdR hW hR hB hc.2.1
        obtain ⟨N1, b1, b2, b3⟩ := R_laysAside_eq (r := 0) (by decide) hW.2.1 a2.2.1
        have a2' := a2.af b3
        obtain ⟨N2, c1, c2, c3, c4, c5, c6⟩ := hpr N1 a2'.1 a2'.2.2.2 a2'.2.1 (fun j hj => by rw [b3.1 113 (by decide)]; exact (a4 q).2 j hj)
        obtain ⟨N3, d1, d2, d3, d4⟩ := tbk hW.2.1 a2' b2 c6
        refine ⟨N3, ?_, d2⟩
        have e68 : N1 73 68 = (FI g x).2.1 := by rw [b3.1 73 (by decide)]; exact (a4 q).1
        have b1' : R_laysAside 0 N = some N1 := b1
        unfold R_tried R_tried_156 R_tried_173 R_tried_175
        rw [ck_p hx, R_lies_eq hx (by decide) (by decide), ob_s, if_pos hc.2.1, c_eq_p (by decide) (by decide), if_neg (by decide), ck_p hy, R_lies_eq hy (by decide) (by decide), ob_s, if_pos hc.1, c_eq_p (by decide) (by decide), if_neg (by decide), hR.1.1.1, c_le_p (by omega) (by omega), if_pos hc.2.2, a1, oc_s, if_pos q, c_ne_p (by decide) (by decide), if_pos (by decide), b1', ob_s, e68, c1, oc_s, ck_p hy, d1, ob_s]
        unfold trS
        by_cases y0 : y = 0
        · rw [if_pos y0, if_pos y0]
        rw [if_neg y0, if_neg y0]
        by_cases y1 : y = 1
        · rw [if_pos y1, if_pos y1, ob_s, c4]
        rw [if_neg y1, if_neg y1]
        by_cases y2 : y = 2
        · rw [if_pos y2, if_pos y2, ob_s, c5]
        rw [if_neg y2, if_neg y2]
        by_cases y3 : y = 3
        · have e11 : N2 73 47 = E.1 0 2 := c2.1.2.2.1
          have e95 := (c2.2.1 (E.1 0 2).toNat (by omega)).1
          rw [if_pos y3, if_pos y3, e11, rd_p (by omega), e95, ob_s]
        rw [if_neg y3, if_neg y3]
        by_cases y4 : y = 4
        · have e9 : N2 73 41 = E.1 0 0 := c2.1.1
          rw [if_pos y4, if_pos y4, e9, c_ne_p (by omega) (by decide)]
          by_cases z : E.1 0 0 = -1
          · rw [if_neg (fun h => h z), if_pos z, ob_s]
          · rw [if_pos z, if_neg z, rd_p (by omega), c2.2.2.1 _ (by omega), ob_s]
        rw [if_neg y4, if_neg y4, c3, c_eq_p (by omega) (by decide)]
        by_cases z : E.2.1 = 0
        · rw [if_pos z, z, ob_s]
        · rw [if_neg z, show E.2.1 = 1 by omega, ob_s]
    · have hb := hfw.1
      refine ⟨(FI g x).1, F, tkS g, t, u, by omega, hW', fun M hC => ?_, fun M hR hB => ?_⟩
      · obtain ⟨N, a1, a2, _, a4⟩ := rdP hW hC hc.2.1
        refine ⟨N, ?_, a2.cg (fun _ _ => rfl) (by omega)⟩
        unfold P_tried
        rw [c_lt_p hy (by decide), if_neg (by omega), c_gt_p hy (by decide), if_neg (by omega), Tape_take_eq hW.1 hC.1 hx (by decide) (by decide), if_pos (by omega), oc_s, c_ne_p (by decide) (by decide), if_pos (by decide), a1, oc_s, c_ge_p (by omega) (by decide), if_neg (by omega)]
      · obtain ⟨N, a1, a2, a3, a4⟩ := rdR hW hR hB hc.2.1
        refine ⟨N, ?_, a2⟩
        unfold R_tried
        rw [ck_p hx, R_lies_eq hx (by decide) (by decide), ob_s, if_pos hc.2.1, c_eq_p (by decide) (by decide), if_neg (by decide), ck_p hy, R_lies_eq hy (by decide) (by decide), ob_s, if_pos hc.1, c_eq_p (by decide) (by decide), if_neg (by decide), hR.1.1.1, c_le_p (by omega) (by omega), if_pos hc.2.2, a1, oc_s, if_neg q, c_ne_p (by decide) (by decide), if_neg (by decide), a3]
  · refine ⟨-1, F, g, t, u, by decide, hW, fun M hC => ⟨M, ?_, hC.cg (fun _ _ => rfl) (by omega)⟩, fun M hR _ => ⟨M, ?_, hR⟩⟩
    · unfold P_tried P_tried_23
      rw [c_lt_p hy (by decide), c_gt_p hy (by decide), Tape_take_eq hW.1 hC.1 hx (by decide) (by decide)]
      by_cases z1 : y < 0
      · rw [if_pos z1]
      rw [if_neg z1]
      by_cases z2 : 5 < y
      · rw [if_pos z2]
      rw [if_neg z2, if_neg (by omega), oc_s, c_ne_p (by decide) (by decide), if_neg (by decide)]
    · have e : M 73 1 = g 0 0 := hR.1.1.1
      unfold R_tried R_tried_32
      rw [ck_p hx, R_lies_eq hx (by decide) (by decide), ob_s, ck_p hy, R_lies_eq hy (by decide) (by decide), ob_s, e, c_le_p (by omega) (by omega)]
      by_cases q1 : 1 ≤ x ∧ x ≤ 80
      · rw [if_pos q1, c_eq_p (by decide) (by decide), if_neg (by decide)]
        by_cases q2 : 0 ≤ y ∧ y ≤ 5
        · rw [if_pos q2, c_eq_p (by decide) (by decide), if_neg (by decide), if_neg (fun h => hc ⟨q2, q1, h⟩)]
        · rw [if_neg q2, c_eq_p (by decide) (by decide), if_pos (by decide)]
      · rw [if_neg q1, c_eq_p (by decide) (by decide), if_pos (by decide)]
