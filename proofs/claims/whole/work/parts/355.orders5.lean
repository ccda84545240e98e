-- orders
def OKb (n : Nat) (p : am_M → Option (Int × am_M)) (r : am_M → Option (Int × am_M)) : Prop := ∀ M, IV n M → BR M → ∃ v M1 M2, p M = some (v, M1) ∧ r M1 = some (v, M2) ∧ am_R v ∧ IV (n + 1) M2
theorem OKb.of {n : Nat} {p r : am_M → Option (Int × am_M)} {lp lr : List Nat} (hlp : ∀ k, k ∈ lp → k < 73) (hlr : ∀ k, k ∈ lr → 73 ≤ k) (hp : ∀ M x, p M = some x → Ch lp M x.2) (hr : ∀ M x, r M = some x → Ch lr M x.2)
    (h : ∀ (F : FT) (g t u : am_M), PW F g t u → (∃ M, PC F g t u n M) → ∃ (v : Int) (F' : FT) (g' t' u' : am_M), am_R v ∧ PW F' g' t' u' ∧ (∀ M, PC F g t u n M → ∃ M1, p M = some (v, M1) ∧ PC F' g' t' u' (n + 1) M1) ∧ (∀ M, PR F g t u M → BR M → ∃ M1, r M = some (v, M1) ∧ PR F' g' t' u' M1)) : OKb n p r := by
  intro M ⟨F, g, t, u, hW, hC, hR⟩ hB
  obtain ⟨v, F', g', t', u', hv, hW', h1, h2⟩ := h F g t u hW ⟨M, hC⟩
  obtain ⟨M1, e1, hC1⟩ := h1 M hC
  have f1 : ∀ k, 73 ≤ k → M1 k = M k := fun k hk => hp M _ e1 k (fun q => by have := hlp k q; omega)
  obtain ⟨M2, e2, hR2⟩ := h2 M1 (hR.cg f1) (fun i hi => by rw [f1 74 (by decide)]; exact hB i hi)
  have f2 : ∀ k, k < 73 → M2 k = M1 k := fun k hk => hr M1 _ e2 k (fun q => by have := hlr k q; omega)
  exact ⟨v, M1, M2, e1, e2, hv, F', g', t', u', hW', hC1.cg f2 (Nat.le_refl _), hR2⟩
noncomputable def FI (g : am_M) (x : Int) : FR := fin (tkS g) x 0 0 (fun _ => 0) [] false
def FIW (f : FR) : Prop := (-7000 ≤ f.1 ∧ f.1 ≤ 0) ∧ (f.1 = 0 → f.2.1 ≤ 90 ∧ ∀ j, j < f.2.1 → acB (f.2.2 j))
theorem rdP {F : FT} {g t u M : am_M} {n : Nat} {x : Int} (hW : PW F g t u) (hC : PC F g t u n M) (hx : 1 ≤ x ∧ x ≤ 80) : ∃ N, Outing_readActs_50 (am_up (am_up M 14 2 x) 14 1 0) = some ((FI g x).1, N) ∧ PC F (tkS g) t u n N ∧ FIW (FI g x) ∧ ((FI g x).1 = 0 → (∀ j : Nat, j < (FI g x).2.1 → N 51 j = (FI g x).2.2 j) ∧ N 50 3 = (FI g x).2.1) := by
  have h2 := hC.tk (v := x)
  obtain ⟨N, bad, a1, a2, a3, a4, a5⟩ := acts_50 (tkS_W hW.1) hx ⟨h2.1, by rw [upx (by decide), upj]⟩
  subst a4
  refine ⟨N, a1, h2.ge (fun k _ _ _ h4 _ => a2.1 k (by omega) (by omega)), ⟨a3, fun z => ⟨(a5 z).2.2, fun j hj => ((a5 z).1 j hj).2⟩⟩, fun z => ⟨fun j hj => ((a5 z).1 j hj).1, (a5 z).2.1⟩⟩
theorem rdR {F : FT} {g t u M : am_M} {x : Int} (hW : PW F g t u) (hR : PR F g t u M) (hB : BR M) (hx : 1 ≤ x ∧ x ≤ 80) : ∃ N, R_takesActs x M = some (if (FI g x).1 = 0 then 1 else 0, N) ∧ PR F (tkS g) t u N ∧ N 73 5 = (FI g x).1 ∧ ((FI g x).1 = 0 → N 73 68 = (FI g x).2.1 ∧ ∀ j : Nat, j < (FI g x).2.1 → N 113 j = (FI g x).2.2 j) := by
  have hW' := hW.tk
  obtain ⟨M1, b1, b2, b3, b4, b5⟩ := hR.bg (x := x)
  have hB1 : BR M1 := by
    have e : M1 74 = M 74 := R_begins_c x M M1 b1 74 (by decide)
    intro i hi
    rw [e]
    exact hB i hi
  have f4 : RGf M1 (am_up (am_up (am_up M1 73 68 0) 73 69 0) 73 70 0) := ((RGf.rf.up (by omega)).up (by omega)).up (by omega)
  have hS : RS (am_up (am_up (am_up M1 73 68 0) 73 69 0) 73 70 0) x 0 0 (fun _ => 0) [] false 0 := by
    refine ⟨⟨?_, ?_, ?_, ?_, ?_, ?_⟩, fun j hj => by omega, trivial⟩
    · rw [upx (by decide), upx (by decide), upx (by decide)]
      exact b3
    · rw [upx (by decide), upx (by decide), upx (by decide)]
      exact b4
    · rw [upx (by decide), upx (by decide), upx (by decide)]
      exact b5
    · rw [upx (by decide), upx (by decide), upj]
      rfl
    · rw [upx (by decide), upj]
      rfl
    · rw [upj]
      rfl
  obtain ⟨N, a1, a2, a3, a4, a5⟩ := take_20 hW'.1 hx 80 am_big 0 0 (fun _ => 0) [] false _ (by omega) (by show 81 < 1000000; omega) (by omega) ⟨by omega, fun j hj => by omega, fun e he => by cases he⟩ (by decide) (b2.1.rgf f4) (hB1.rgf f4) hS
  refine ⟨N, ?_, (b2.rgf f4).rgf a2, a3, fun z => a5 (a3.trans z)⟩
  unfold R_takesActs
  rw [b1, ob_s, fw_p, fw_p, fz_p (Or.inl rfl)]
  exact a1
theorem pfP_26 {F : FT} {g t M : am_M} {ac : Nat → Int} {m : Nat} (hF : FO F) (hg : WG g) (hw : WT t) (hLT : LT g t) (hG : GP g M) (hL : LWP F M) (hT : TP 26 t M) (hm : m ≤ 90) (hac : ∀ i, i < m → acB (ac i)) (h3 : M 50 3 = m) (h51 : ∀ j : Nat, j < m → M 51 j = ac j) : ∃ N, Outing_perform_50_26 M = some ((pfS F g ac m 0 t 0).1 0 3 - t 0 3, N) ∧ TP 26 (pfS F g ac m 0 t 0).1 N ∧ N 50 9 = (pfS F g ac m 0 t 0).2.1 ∧ N 50 7 = (pfS F g ac m 0 t 0).2.2.1 ∧ N 50 8 = (pfS F g ac m 0 t 0).2.2.2 ∧ VF 26 M N := by
  have f1 : VF 26 M (am_up (am_up (am_up M 50 7 0) 50 8 0) 50 9 0) := ((VF.rf.up (by omega)).up (by omega)).up (by omega)
  have e7 : (am_up (am_up (am_up M 50 7 0) 50 8 0) 50 9 0) 50 7 = 0 := by rw [upx (by decide), upx (by decide), upj]
  obtain ⟨N, a1, a2, a3, a4, a5, a6⟩ := perf_26_lp (ac := ac) (x := t 0 3) hF hg hm (fun i hi => by have := ac_R (hac i hi); omega) m am_big 0 t (am_up (am_up (am_up M 50 7 0) 50 8 0) 50 9 0) (by omega) (by show _ < 1000000; omega) hw hLT (hG.vf f1 (by decide)) (hL.vf f1 (by decide)) (hT.cg (fun k a b => by rw [upo (by omega), upo (by omega), upo (by omega)])) (by rw [upj]) (by rw [upx (by decide), upx (by decide), upx (by decide)]; exact h3) (by rw [upx (by decide), upj]; rfl) (fun j hj => by rw [upo (by decide), upo (by decide), upo (by decide)]; exact h51 j hj)
  rw [e7] at a1 a2 a3 a4 a5
  refine ⟨N, ?_, a2, a3, a4, a5, f1.tr a6⟩
  have e12 : M 26 12 = t 0 3 := hT.1.2.2.2.1
  unfold Outing_perform_50_26
  rw [fw_p, fw_p, fz_p (Or.inl rfl), e12]
  exact a1
theorem pfP_34 {F : FT} {g t M : am_M} {ac : Nat → Int} {m : Nat} (hF : FO F) (hg : WG g) (hw : WT t) (hLT : LT g t) (hG : GP g M) (hL : LWP F M) (hT : TP 34 t M) (hm : m ≤ 90) (hac : ∀ i, i < m → acB (ac i)) (h3 : M 50 3 = m) (h51 : ∀ j : Nat, j < m → M 51 j = ac j) : ∃ N, Outing_perform_50_34 M = some ((pfS F g ac m 0 t 0).1 0 3 - t 0 3, N) ∧ TP 34 (pfS F g ac m 0 t 0).1 N ∧ N 50 9 = (pfS F g ac m 0 t 0).2.1 ∧ N 50 7 = (pfS F g ac m 0 t 0).2.2.1 ∧ N 50 8 = (pfS F g ac m 0 t 0).2.2.2 ∧ VF 34 M N := by
  have f1 : VF 34 M (am_up (am_up (am_up M 50 7 0) 50 8 0) 50 9 0) := ((VF.rf.up (by omega)).up (by omega)).up (by omega)
  have e7 : (am_up (am_up (am_up M 50 7 0) 50 8 0) 50 9 0) 50 7 = 0 := by rw [upx (by decide), upx (by decide), upj]
  obtain ⟨N, a1, a2, a3, a4, a5, a6⟩ := perf_34_lp (ac := ac) (x := t 0 3) hF hg hm (fun i hi => by have := ac_R (hac i hi); omega) m am_big 0 t (am_up (am_up (am_up M 50 7 0) 50 8 0) 50 9 0) (by omega) (by show _ < 1000000; omega) hw hLT (hG.vf f1 (by decide)) (hL.vf f1 (by decide)) (hT.cg (fun k a b => by rw [upo (by omega), upo (by omega), upo (by omega)])) (by rw [upj]) (by rw [upx (by decide), upx (by decide), upx (by decide)]; exact h3) (by rw [upx (by decide), upj]; rfl) (fun j hj => by rw [upo (by decide), upo (by decide), upo (by decide)]; exact h51 j hj)
  rw [e7] at a1 a2 a3 a4 a5
  refine ⟨N, ?_, a2, a3, a4, a5, f1.tr a6⟩
  have e12 : M 34 12 = t 0 3 := hT.1.2.2.2.1
  unfold Outing_perform_50_34
  rw [fw_p, fw_p, fz_p (Or.inl rfl), e12]
  exact a1
theorem pfR {F : FT} {g t M : am_M} {ac : Nat → Int} {m : Nat} (hF : FO F) (hg : WG g) (hw : WT t) (hLT : LT g t) (hG : GR g M) (hL : LWR F M) (hT : TR t M) (hm : m ≤ 90) (hac : ∀ i, i < m → acB (ac i)) (h113 : ∀ j : Nat, j < m → M 113 j = ac j) : ∃ N, R_doesActs (m : Int) M = some ((pfS F g ac m 0 t 0).1 0 3 - t 0 3, N) ∧ TR (pfS F g ac m 0 t 0).1 N ∧ N 73 76 = (pfS F g ac m 0 t 0).2.1 ∧ N 73 74 = (pfS F g ac m 0 t 0).2.2.1 ∧ N 73 75 = (pfS F g ac m 0 t 0).2.2.2 ∧ RF M N := by
  have f1 : RF M (am_up (am_up (am_up M 73 74 0) 73 75 0) 73 76 0) := ((RF.rf.up (by omega)).up (by omega)).up (by omega)
  have e7 : (am_up (am_up (am_up M 73 74 0) 73 75 0) 73 76 0) 73 74 = 0 := by rw [upx (by decide), upx (by decide), upj]
  obtain ⟨N, a1, a2, a3, a4, a5, a6⟩ := Rdo_lp (x := t 0 3) hF hg hm hac m am_big 0 t (am_up (am_up (am_up M 73 74 0) 73 75 0) 73 76 0) (by omega) (by show _ < 1000000; omega) hw hLT (hG.rf f1) (hL.rf f1) (((hT.o (by decide)).o (by decide)).o (by decide)) (by rw [upj]) (by rw [upx (by decide), upj]; rfl) (fun j hj => by rw [upo (by decide), upo (by decide), upo (by decide)]; exact h113 j hj)
  rw [e7] at a1 a2 a3 a4 a5
  refine ⟨N, ?_, a2, a3, a4, a5, f1.tr a6⟩
  have e12 : M 73 44 = t 0 3 := hT.1.2.2.2.1
  unfold R_doesActs
  rw [fw_p, fw_p, fz_p (Or.inl rfl), e12]
  exact a1
theorem P_orders_ok {n : Nat} {x : Int} (hx : am_R x) : OKb n (P_orders x) (R_orders x) := by
  refine OKb.of (lp := [12, 13, 14, 26, 27, 28, 29, 30, 31, 32, 33, 50, 51]) (lr := [73, 90, 91, 93, 95, 96, 97, 98, 99, 100, 113, 114, 115, 116]) (by decide) (by decide) (fun M r h => P_orders_c x M r h) (fun M r h => R_orders_c x M r h) (fun F g t u hW hM => ?_)
  have hg := hW.1.1
  by_cases hc : (1 ≤ x ∧ x ≤ 80) ∧ x ≤ g 0 0
  · obtain ⟨M0, hM0⟩ := hM
    obtain ⟨_, _, _, hfw, _⟩ := rdP hW hM0 hc.1
    have hW' := hW.tk
    by_cases q : (FI g x).1 = 0
    · obtain ⟨w1, w2⟩ := hfw.2 q
      obtain ⟨p1, p2, p3⟩ := pfS_W (ac := (FI g x).2.2) hW'.2.2.2.2 hW'.1 (FI g x).2.1 0 t 0 hW'.2.1 hW'.2.2.1
      have hb1 := p1.1
      have hb2 := hW.2.1.1
      refine ⟨(pfS F (tkS g) (FI g x).2.2 (FI g x).2.1 0 t 0).1 0 3 - t 0 3, F, tkS g, (pfS F (tkS g) (FI g x).2.2 (FI g x).2.1 0 t 0).1, u, by omega, ⟨hW'.1, p1, p2, hW'.2.2.2⟩, fun M hC => ?_, fun M hR hB => ?_⟩
      · obtain ⟨N, a1, a2, _, a4⟩ := rdP hW hC hc.1
        obtain ⟨N2, c1, c2, c3, c4, c5, c6⟩ := pfP_26 hW'.2.2.2.2 hW'.1 hW'.2.1 hW'.2.2.1 a2.1 a2.2.2.2.1 a2.2.1 w1 w2 (a4 q).2 (a4 q).1
        refine ⟨N2, ?_, a2.1.vf c6 (by decide), c2, fun z => (a2.2.2.1 z).cg (fun k _ _ => c6.1 k (by omega) (by omega) (by omega) (by omega)), a2.2.2.2.1.vf c6 (by decide), a2.2.2.2.2.cg (fun k _ _ => c6.1 k (by omega) (by omega) (by omega) (by omega)) (by omega)⟩
        unfold P_orders P_orders_47
        rw [Tape_take_eq hW.1 hC.1 hx (by decide) (by decide), if_pos (by omega), oc_s, c_ne_p (by decide) (by decide), if_pos (by decide), a1, oc_s, q, c_ge_p (by decide) (by decide), if_pos (by decide), c1, oc_s]
      · obtain ⟨N, a1, a2, a3, a4⟩ := rdR hW hR hB hc.1
        obtain ⟨N2, c1, c2, c3, c4, c5, c6⟩ := pfR hW'.2.2.2.2 hW'.1 hW'.2.1 hW'.2.2.1 a2.1 a2.2.2.2 a2.2.1 w1 w2 (a4 q).2
        refine ⟨N2, ?_, a2.1.rf c6, c2, fun z => (a2.2.2.1 z).cg' (fun k _ _ => c6.1 k (by omega) (by omega) (by omega) (by omega) (by omega)), a2.2.2.2.rf c6⟩
        unfold R_orders R_orders_45
        rw [ck_p hx, R_lies_eq hx (by decide) (by decide), ob_s, if_pos hc.1, c_eq_p (by decide) (by decide), if_neg (by decide), hR.1.1.1, c_le_p (by omega) (by omega), if_pos hc.2, a1, oc_s, if_pos q, c_eq_p (by decide) (by decide), if_neg (by decide), (a4 q).1, c1, oc_s]
    · have hb := hfw.1
      refine ⟨(FI g x).1, F, tkS g, t, u, by omega, hW', fun M hC => ?_, fun M hR hB => ?_⟩
      · obtain ⟨N, a1, a2, _, a4⟩ := rdP hW hC hc.1
        refine ⟨N, ?_, a2.cg (fun _ _ => rfl) (by omega)⟩
        unfold P_orders P_orders_47
        rw [Tape_take_eq hW.1 hC.1 hx (by decide) (by decide), if_pos (by omega), oc_s, c_ne_p (by decide) (by decide), if_pos (by decide), a1, oc_s, c_ge_p (by omega) (by decide), if_neg (by omega)]
      · obtain ⟨N, a1, a2, a3, a4⟩ := rdR hW hR hB hc.1
        refine ⟨N, ?_, a2⟩
        unfold R_orders R_orders_45
        rw [ck_p hx, R_lies_eq hx (by decide) (by decide), ob_s, if_pos hc.1, c_eq_p (by decide) (by decide), if_neg (by decide), hR.1.1.1, c_le_p (by omega) (by omega), if_pos hc.2, a1, oc_s, if_neg q, c_eq_p (by decide) (by decide), if_pos (by decide), a3]
  · refine ⟨-1, F, g, t, u, by decide, hW, fun M hC => ⟨M, ?_, hC.cg (fun _ _ => rfl) (by omega)⟩, fun M hR _ => ⟨M, ?_, hR⟩⟩
    · unfold P_orders
      rw [Tape_take_eq hW.1 hC.1 hx (by decide) (by decide), if_neg (by omega), oc_s, c_ne_p (by decide) (by decide), if_neg (by decide)]
    · have e : M 73 1 = g 0 0 := hR.1.1.1
      unfold R_orders R_orders_20
      rw [ck_p hx, R_lies_eq hx (by decide) (by decide), ob_s]
      by_cases q1 : 1 ≤ x ∧ x ≤ 80
      · rw [if_pos q1, c_eq_p (by decide) (by decide), if_neg (by decide), e, c_le_p (by omega) (by omega), if_neg (fun h => hc ⟨q1, h⟩)]
      · rw [if_neg q1, c_eq_p (by decide) (by decide), if_pos (by decide)]
