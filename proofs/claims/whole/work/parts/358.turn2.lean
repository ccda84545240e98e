-- the last place to turn back: both
theorem pf_sn {F : FT} {g : am_M} {ac : Nat → Int} : ∀ (k i : Nat) (t : am_M) (c : Int), (pfS F g ac k i t c).2.1 = 0 → (pfS F g ac (k + 1) i t c).1 = (actS F g (pfS F g ac k i t c).1 (ac (i + k))).1 ∧ (pfS F g ac (k + 1) i t c).2.1 = if (actS F g (pfS F g ac k i t c).1 (ac (i + k))).2.1 = 0 then 0 else 1
  | 0, i, t, c, h => by
    show (if (actS F g t (ac i)).2.1 = 0 then pfS F g ac 0 (i + 1) (actS F g t (ac i)).1 (c + (actS F g t (ac i)).2.2) else ((actS F g t (ac i)).1, 1, c + (actS F g t (ac i)).2.2, (i : Int))).1 = (actS F g t (ac i)).1 ∧ (if (actS F g t (ac i)).2.1 = 0 then pfS F g ac 0 (i + 1) (actS F g t (ac i)).1 (c + (actS F g t (ac i)).2.2) else ((actS F g t (ac i)).1, 1, c + (actS F g t (ac i)).2.2, (i : Int))).2.1 = if (actS F g t (ac i)).2.1 = 0 then 0 else 1
    split <;> exact ⟨rfl, rfl⟩
  | k + 1, i, t, c, h => by
    have e1 : ∀ k, pfS F g ac (k + 1) i t c = (if (actS F g t (ac i)).2.1 = 0 then pfS F g ac k (i + 1) (actS F g t (ac i)).1 (c + (actS F g t (ac i)).2.2) else ((actS F g t (ac i)).1, 1, c + (actS F g t (ac i)).2.2, (i : Int))) := fun k => rfl
    rw [e1 k] at h
    by_cases q : (actS F g t (ac i)).2.1 = 0
    · rw [if_pos q] at h
      have ih := pf_sn k (i + 1) _ _ h
      rw [e1 (k + 1), e1 k, if_pos q, if_pos q, show i + (k + 1) = i + 1 + k by omega]
      exact ih
    · rw [if_neg q] at h
      exact absurd h (by dsimp only; decide)
theorem find_eq {F : FT} {g t M : am_M} {ac : Nat → Int} {m : Nat} (hF : FO F) (hg : WG g) (hw : WT t) (hLT : LT g t) (hG : GP g M) (hL : LWP F M) (hT : TP 34 t M) (hm : m ≤ 90) (hac : ∀ i, i < m → acB (ac i)) (h3 : M 50 3 = m) (h51 : ∀ j : Nat, j < m → M 51 j = ac j) : ∃ N, Outing_findTurn_50_34 M = some N ∧ N 50 10 = (tuS F g ac (t 0 3) m 0 t (noS F g (t 0 3) t 0 (-2, -2))).1 ∧ N 50 11 = (tuS F g ac (t 0 3) m 0 t (noS F g (t 0 3) t 0 (-2, -2))).2 ∧ TFr M N := by
  have e12 : M 34 12 = t 0 3 := hT.1.2.2.2.1
  obtain ⟨N1, a1, a2⟩ := Trip_minutesBack_34_eq hF hg hw hL hG hT
  have hF2 : ∀ k, k ≠ 50 → (am_up (am_up (am_up (am_up N1 50 10 (-2)) 50 11 (-2)) 50 8 0) 50 9 0) k = N1 k := fun k hk => by rw [upo hk, upo hk, upo hk, upo hk]
  have hG1 := (hG.lf a2).cg (fun k hk => hF2 k (by omega))
  have hL1 := (hL.lf a2).cg (fun k _ _ => hF2 k (by omega))
  have hT1 := (hT.lf a2 (by decide)).cg (fun k _ _ => hF2 k (by omega))
  obtain ⟨N2, b1, b2, b3, b4, b5⟩ := note_eq (i := 0) (s := t 0 3) hF hg hw hG1 hT1 (by rw [upj]) (by rw [upx (by decide), upj])
  rw [show (am_up (am_up (am_up (am_up N1 50 10 (-2)) 50 11 (-2)) 50 8 0) 50 9 0) 50 10 = -2 by rw [upx (by decide), upx (by decide), upx (by decide), upj], show (am_up (am_up (am_up (am_up N1 50 10 (-2)) 50 11 (-2)) 50 8 0) 50 9 0) 50 11 = -2 by rw [upx (by decide), upx (by decide), upj]] at b2 b3
  have n3 : N2 50 3 = m := by rw [b5 3 (by decide) (by decide), upx (by decide), upx (by decide), upx (by decide), upx (by decide), a2 50 (by decide) (by decide)]; exact h3
  obtain ⟨N3, c1, c2, c3, c4⟩ := find_42 (s := t 0 3) (ac := ac) hF hg hm (fun i hi => by have := ac_R (hac i hi); omega) m am_big 0 t N2 (by omega) (by show _ < 1000000; omega) hw hLT (hG1.cg (fun k _ => b4 k (by omega))) (hL1.cg (fun k _ _ => b4 k (by omega))) (hT1.cg (fun k _ _ => b4 k (by omega))) (by rw [b5 9 (by decide) (by decide), upj]) n3 (by rw [b5 8 (by decide) (by decide), upx (by decide), upj]; rfl) (fun j hj => by rw [b4 51 (by decide), hF2 51 (by decide), a2 51 (by decide) (by decide)]; exact h51 j hj)
  rw [b2, b3] at c2 c3
  refine ⟨N3, ?_, c2, c3, fun k h1 h2 h3 h4 => by rw [c4 k h1 h2 h3 h4, b4 k h3, hF2 k h3, a2 k h1 h2]⟩
  unfold Outing_findTurn_50_34
  rw [a1, oc_s, fw_p, fw_p, fw_p, fz_p (Or.inl rfl), e12, b1, ob_s]
  exact c1
theorem rt_step {F : FT} {g t u M : am_M} {ac : Nat → Int} {m k fu : Nat} {y x3 x4 : Int} (hF : FO F) (hg : WG g) (hw : WT t) (hLT : LT g t) (hm : m ≤ 90) (hac : ∀ i, i < m → acB (ac i)) (hk : k ≤ m) (hR : PR F g t u M) (hA : AS 0 t M) (h68 : M 73 68 = m) (h113 : ∀ j : Nat, j < m → M 113 j = ac j) : ∃ N, R_turn_63 (fu + 1) y x3 x4 1 (k : Int) M = R_turn_63 fu y (if (pfS F g ac k 0 t 0).2.1 = 0 then noS F g (t 0 3) (pfS F g ac k 0 t 0).1 k (x3, x4) else (x3, x4)).1 (if (pfS F g ac k 0 t 0).2.1 = 0 then noS F g (t 0 3) (pfS F g ac k 0 t 0).1 k (x3, x4) else (x3, x4)).2 (if (pfS F g ac k 0 t 0).2.1 = 0 then 1 else 0) ((k + 1 : Nat) : Int) N ∧ PR F g t u N ∧ AS 0 t N ∧ RF M N := by
  obtain ⟨p1, p2, p3, p4, p5⟩ := pfS_W (ac := ac) hF hg k 0 t 0 hw hLT
  obtain ⟨N1, a1, a2, a3, a4, a5, a6⟩ := pfR (m := k) hF hg hw hLT hR.1 hR.2.2.2 hR.2.1 (by omega) (fun i hi => hac i (by omega)) (fun j hj => h113 j (by omega))
  generalize pfS F g ac k 0 t 0 = E at p1 p2 p3 p4 p5 a1 a2 a3 a4 a5 ⊢
  have hb1 := p1.1
  have hgl := hg.1
  have hb := mbS_b hF g E.1 (E.1 0 2).toNat
  obtain ⟨N2, b1, b2⟩ := R_minutesBack_eq hF hg p1 (hR.2.2.2.rf a6) (hR.1.rf a6) a2
  obtain ⟨N3, d1, d2, d3, d4⟩ := tbk hw hR hA (a6.tr b2.rf')
  refine ⟨N3, ?_, d2, d4, d3⟩
  have e43 : N2 73 43 = g 0 2 := by
    rw [b2.2 43 (by decide)]
    exact (hR.1.rf a6).1.2.2.1
  have e44 : N2 73 44 = E.1 0 3 := by
    rw [b2.2 44 (by decide)]
    exact a2.1.2.2.2.1
  rw [R_turn_63]
  unfold R_turn_97 R_turn_134
  rw [h68, c_gt_p (by omega) (by omega), if_neg (by omega), c_eq_p (by decide) (by decide), if_neg (by decide), a1, oc_s, a3, c_ne_p (by omega) (by decide)]
  by_cases q : E.2.1 = 0
  · rw [if_neg (fun h => h q), b1, oc_s, c_eq_p (by decide) (by decide), if_neg (by decide), e43, e44, c_gt_p (by omega) (by omega), d1, ob_s, if_pos q, if_pos q, show (k : Int) + 1 = ((k + 1 : Nat) : Int) by omega]
    unfold noS
    by_cases q2 : g 0 2 < E.1 0 3 + mbS F g E.1 (E.1 0 2).toNat
    · rw [if_pos q2, if_pos q2]
    · rw [if_neg q2, if_neg q2, ob_s]
  · rw [if_pos q, b1, oc_s, c_eq_p (by decide) (by decide), if_pos rfl, d1, ob_s, if_neg q, if_neg q, show (k : Int) + 1 = ((k + 1 : Nat) : Int) by omega]
theorem rt_end {y x3 x4 x5 x6 : Int} {fu : Nat} {M : am_M} (hy : am_R y) (hx : x6 = M 73 68 + 1 ∨ x5 = 0) (h5 : x5 = 0 ∨ x5 = 1) (h6 : 0 ≤ x6 ∧ x6 ≤ 100) (h68 : 0 ≤ M 73 68 ∧ M 73 68 ≤ 90) : R_turn_63 (fu + 1) y x3 x4 x5 x6 M = some (if y = 0 then x3 else x4, M) := by
  unfold R_turn_63 R_turn_145 R_turn_155
  rw [c_gt_p (by omega) (by omega), c_eq_p (by omega) (by decide), c_ne_p hy (by decide)]
  have : (if y ≠ 0 then some (x4, M) else some (x3, M)) = some (if y = 0 then x3 else x4, M) := by
    by_cases z : y = 0
    · rw [if_neg (fun h => h z), if_pos z]
    · rw [if_pos z, if_neg z]
  by_cases q : M 73 68 < x6
  · rw [if_pos q]
    exact this
  · rw [if_neg q, if_pos (by omega)]
    exact this
theorem rt_63 {F : FT} {g t u : am_M} {ac : Nat → Int} {m : Nat} {y : Int} (hy : am_R y) (hF : FO F) (hg : WG g) (hw : WT t) (hLT : LT g t) (hm : m ≤ 90) (hac : ∀ i, i < m → acB (ac i)) : ∀ (j fu k : Nat) (r : Int × Int) (M : am_M), k + j = m → j + 1 < fu → PR F g t u M → AS 0 t M → M 73 68 = m → (∀ j : Nat, j < m → M 113 j = ac j) → (pfS F g ac k 0 t 0).2.1 = 0 → ∃ N, R_turn_63 fu y r.1 r.2 1 ((k + 1 : Nat) : Int) M = some (if y = 0 then (tuS F g ac (t 0 3) j k (pfS F g ac k 0 t 0).1 r).1 else (tuS F g ac (t 0 3) j k (pfS F g ac k 0 t 0).1 r).2, N) ∧ PR F g t u N
  | 0, fu + 1, k, r, M, e, hf, hR, hA, h68, h113, hE => ⟨M, rt_end hy (Or.inl (by omega)) (Or.inr rfl) (by omega) (by omega), hR⟩
  | j + 1, fu + 1, k, r, M, e, hf, hR, hA, h68, h113, hE => by
    obtain ⟨N, a1, a2, a3, a4⟩ := rt_step (k := k + 1) (fu := fu) (y := y) (x3 := r.1) (x4 := r.2) hF hg hw hLT hm hac (by omega) hR hA h68 h113
    have n68 : N 73 68 = m := by rw [a4.2 68 (by decide) (by decide) (by decide) (by decide) (by decide)]; exact h68
    have n113 : ∀ j : Nat, j < m → N 113 j = ac j := fun j hj => by rw [a4.1 113 (by decide) (by decide) (by decide) (by decide) (by decide)]; exact h113 j hj
    obtain ⟨s1, s2⟩ := pf_sn k 0 t 0 hE
    rw [Nat.zero_add] at s1 s2
    rw [a1]
    unfold tuS
    by_cases q : (actS F g (pfS F g ac k 0 t 0).1 (ac k)).2.1 = 0
    · rw [if_pos q] at s2
      obtain ⟨N2, b1, b2⟩ := rt_63 (y := y) hy hF hg hw hLT hm hac j fu (k + 1) (noS F g (t 0 3) (pfS F g ac (k + 1) 0 t 0).1 ((k + 1 : Nat) : Int) r) N (by omega) (by omega) a2 a3 n68 n113 s2
      refine ⟨N2, ?_, b2⟩
      rw [if_pos s2, if_pos s2, if_pos q, b1, s1, show ((k + 1 : Nat) : Int) = (k : Int) + 1 by omega]
    · rw [if_neg q] at s2
      have s3 : ¬ ((pfS F g ac (k + 1) 0 t 0).2.1 = 0) := by rw [s2]; decide
      refine ⟨N, ?_, a2⟩
      rw [if_neg s3, if_neg s3, if_neg q]
      obtain ⟨fu, rfl⟩ : ∃ f', fu = f' + 1 := ⟨fu - 1, by omega⟩
      exact rt_end hy (Or.inr rfl) (Or.inl rfl) (by omega) (by omega)
theorem noS_b {F : FT} {g t : am_M} {s i : Int} {r : Int × Int} (hF : FO F) (hw : WT t) (hs : 0 ≤ s ∧ s ≤ 999) (hi : 0 ≤ i ∧ i ≤ 90) (hr : (-9999 ≤ r.1 ∧ r.1 ≤ 9999) ∧ (-9999 ≤ r.2 ∧ r.2 ≤ 9999)) : (-9999 ≤ (noS F g s t i r).1 ∧ (noS F g s t i r).1 ≤ 9999) ∧ (-9999 ≤ (noS F g s t i r).2 ∧ (noS F g s t i r).2 ≤ 9999) := by
  have h1 := hw.1
  have hb := mbS_b hF g t (t 0 2).toNat
  unfold noS
  split
  · exact hr
  · dsimp only
    omega
theorem tuS_b {F : FT} {g : am_M} {ac : Nat → Int} {s : Int} (hF : FO F) (hg : WG g) (hs : 0 ≤ s ∧ s ≤ 999) : ∀ (k i : Nat) (t : am_M) (r : Int × Int), i + k ≤ 90 → WT t → LT g t → ((-9999 ≤ r.1 ∧ r.1 ≤ 9999) ∧ (-9999 ≤ r.2 ∧ r.2 ≤ 9999)) → (-9999 ≤ (tuS F g ac s k i t r).1 ∧ (tuS F g ac s k i t r).1 ≤ 9999) ∧ (-9999 ≤ (tuS F g ac s k i t r).2 ∧ (tuS F g ac s k i t r).2 ≤ 9999)
  | 0, i, t, r, hi, hw, hLT, hr => hr
  | k + 1, i, t, r, hi, hw, hLT, hr => by
    obtain ⟨w1, w2, w3, w4⟩ := actS_W hF hg hw hLT (ac i)
    unfold tuS
    by_cases q : (actS F g t (ac i)).2.1 = 0
    · rw [if_pos q]
      exact tuS_b hF hg hs k (i + 1) _ _ (by omega) w1 w2 (noS_b hF w1 hs (by omega) hr)
    · rw [if_neg q]
      exact hr
theorem P_turn_ok {n : Nat} {x y : Int} (hx : am_R x) (hy : am_R y) : OKb n (P_turn x y) (R_turn x y) := by
  refine OKb.of (lp := [12, 13, 14, 34, 35, 36, 37, 38, 39, 40, 41, 50, 51]) (lr := [73, 90, 91, 93, 95, 96, 97, 98, 99, 100, 101, 102, 103, 104, 105, 106, 107, 108, 109, 110, 111, 112, 113, 114, 115, 116]) (by decide) (by decide) (fun M r h => P_turn_c x y M r h) (fun M r h => R_turn_c x y M r h) (fun F g t u hW hM => ?_)
  have hg := hW.1.1
  by_cases hc : (0 ≤ y ∧ y ≤ 1) ∧ (1 ≤ x ∧ x ≤ 80) ∧ x ≤ g 0 0
  · obtain ⟨M0, hM0⟩ := hM
    obtain ⟨_, _, _, hfw, _⟩ := rdP hW hM0 hc.2.1
    have hW' := hW.tk
    by_cases q : (FI g x).1 = 0
    · obtain ⟨w1, w2⟩ := hfw.2 q
      have hb2 := hW.2.1.1
      have hrb := tuS_b (ac := (FI g x).2.2) hW'.2.2.2.2 hW'.1 (s := t 0 3) (by omega) (FI g x).2.1 0 t (noS F (tkS g) (t 0 3) t 0 (-2, -2)) (by omega) hW'.2.1 hW'.2.2.1 (noS_b hW'.2.2.2.2 hW'.2.1 (by omega) (by omega) (by dsimp only; omega))
      refine ⟨if y = 0 then (tuS F (tkS g) (FI g x).2.2 (t 0 3) (FI g x).2.1 0 t (noS F (tkS g) (t 0 3) t 0 (-2, -2))).1 else (tuS F (tkS g) (FI g x).2.2 (t 0 3) (FI g x).2.1 0 t (noS F (tkS g) (t 0 3) t 0 (-2, -2))).2, F, tkS g, t, u, by split <;> omega, hW', fun M hC => ?_, fun M hR hB => ?_⟩
      · obtain ⟨N, a1, a2, _, a4⟩ := rdP hW hC hc.2.1
        obtain ⟨N1, b1, b2⟩ := Trip_copyFrom_34_26_eq hW.2.1 a2.2.1
        have b3 := Trip_copyFrom_34_26_c N N1 b1
        have a2' : PC F (tkS g) t u n N1 := a2.ge (fun k _ _ h3 _ _ => b3 k (by simp; omega))
        obtain ⟨N2, c1, c2, c3, c6⟩ := find_eq hW'.2.2.2.2 hW'.1 hW'.2.1 hW'.2.2.1 a2'.1 a2'.2.2.2.1 b2 w1 w2 (by rw [b3 50 (by decide)]; exact (a4 q).2) (fun j hj => by rw [b3 51 (by decide)]; exact (a4 q).1 j hj)
        have a3 : PC F (tkS g) t u n N2 := a2'.ge (fun k h1 h2 h3 h4 _ => c6 k h1 h2 (by omega) (by omega))
        refine ⟨N2, ?_, a3.cg (fun _ _ => rfl) (by omega)⟩
        unfold P_turn P_turn_86
        rw [c_lt_p hy (by decide), if_neg (by omega), c_gt_p hy (by decide), if_neg (by omega), Tape_take_eq hW.1 hC.1 hx (by decide) (by decide), if_pos (by omega), oc_s, c_ne_p (by decide) (by decide), if_pos (by decide), a1, oc_s, q, c_ge_p (by decide) (by decide), if_pos (by decide), b1, ob_s, c1, ob_s, c_ne_p hy (by decide), c2, c3]
        by_cases z : y = 0
        · rw [if_neg (fun h => h z), if_pos z]
        · rw [if_pos z, if_neg z]
      · obtain ⟨N, a1, a2, a3, a4⟩ := rdR hW hR hB hc.2.1
        obtain ⟨N1, b1, b2, b3⟩ := R_laysAside_eq (r := 0) (by decide) hW.2.1 a2.2.1
        have a2' := a2.af b3
        have e68 : N1 73 68 = (FI g x).2.1 := by rw [b3.1 73 (by decide)]; exact (a4 q).1
        have e113 : ∀ j : Nat, j < (FI g x).2.1 → N1 113 j = (FI g x).2.2 j := fun j hj => by rw [b3.1 113 (by decide)]; exact (a4 q).2 j hj
        have b1' : R_laysAside 0 N = some N1 := b1
        obtain ⟨N2, c1, c2, c3, c4⟩ := rt_step (k := 0) (fu := 999999) (y := y) (x3 := -2) (x4 := -2) hW'.2.2.2.2 hW'.1 hW'.2.1 hW'.2.2.1 w1 w2 (by omega) a2' b2 e68 e113
        have n68 : N2 73 68 = (FI g x).2.1 := by rw [c4.2 68 (by decide) (by decide) (by decide) (by decide) (by decide)]; exact e68
        have n113 : ∀ j : Nat, j < (FI g x).2.1 → N2 113 j = (FI g x).2.2 j := fun j hj => by rw [c4.1 113 (by decide) (by decide) (by decide) (by decide) (by decide)]; exact e113 j hj
        obtain ⟨N3, d1, d2⟩ := rt_63 (y := y) hy hW'.2.2.2.2 hW'.1 hW'.2.1 hW'.2.2.1 w1 w2 (FI g x).2.1 999999 0 (noS F (tkS g) (t 0 3) t 0 (-2, -2)) N2 (by omega) (by omega) c2 c3 n68 n113 rfl
        refine ⟨N3, ?_, d2⟩
        unfold R_turn
        rw [ck_p hx, R_lies_eq hx (by decide) (by decide), ob_s, if_pos hc.2.1, c_eq_p (by decide) (by decide), if_neg (by decide), ck_p hy, R_lies_eq hy (by decide) (by decide), ob_s, if_pos hc.1, c_eq_p (by decide) (by decide), if_neg (by decide), hR.1.1.1, c_le_p (by omega) (by omega), if_pos hc.2.2, a1, oc_s, if_pos q, c_ne_p (by decide) (by decide), if_pos (by decide), b1', ob_s]
        exact c1.trans d1
    · have hb := hfw.1
      refine ⟨(FI g x).1, F, tkS g, t, u, by omega, hW', fun M hC => ?_, fun M hR hB => ?_⟩
      · obtain ⟨N, a1, a2, _, a4⟩ := rdP hW hC hc.2.1
        refine ⟨N, ?_, a2.cg (fun _ _ => rfl) (by omega)⟩
        unfold P_turn
        rw [c_lt_p hy (by decide), if_neg (by omega), c_gt_p hy (by decide), if_neg (by omega), Tape_take_eq hW.1 hC.1 hx (by decide) (by decide), if_pos (by omega), oc_s, c_ne_p (by decide) (by decide), if_pos (by decide), a1, oc_s, c_ge_p (by omega) (by decide), if_neg (by omega)]
      · obtain ⟨N, a1, a2, a3, a4⟩ := rdR hW hR hB hc.2.1
        refine ⟨N, ?_, a2⟩
        unfold R_turn
        rw [ck_p hx, R_lies_eq hx (by decide) (by decide), ob_s, if_pos hc.2.1, c_eq_p (by decide) (by decide), if_neg (by decide), ck_p hy, R_lies_eq hy (by decide) (by decide), ob_s, if_pos hc.1, c_eq_p (by decide) (by decide), if_neg (by decide), hR.1.1.1, c_le_p (by omega) (by omega), if_pos hc.2.2, a1, oc_s, if_neg q, c_ne_p (by decide) (by decide), if_neg (by decide), a3]
  · refine ⟨-1, F, g, t, u, by decide, hW, fun M hC => ⟨M, ?_, hC.cg (fun _ _ => rfl) (by omega)⟩, fun M hR _ => ⟨M, ?_, hR⟩⟩
    · unfold P_turn P_turn_23
      rw [c_lt_p hy (by decide), c_gt_p hy (by decide), Tape_take_eq hW.1 hC.1 hx (by decide) (by decide)]
      by_cases z1 : y < 0
      · rw [if_pos z1]
      rw [if_neg z1]
      by_cases z2 : 1 < y
      · rw [if_pos z2]
      rw [if_neg z2, if_neg (by omega), oc_s, c_ne_p (by decide) (by decide), if_neg (by decide)]
    · have e : M 73 1 = g 0 0 := hR.1.1.1
      unfold R_turn R_turn_30
      rw [ck_p hx, R_lies_eq hx (by decide) (by decide), ob_s, ck_p hy, R_lies_eq hy (by decide) (by decide), ob_s, e, c_le_p (by omega) (by omega)]
      by_cases q1 : 1 ≤ x ∧ x ≤ 80
      · rw [if_pos q1, c_eq_p (by decide) (by decide), if_neg (by decide)]
        by_cases q2 : 0 ≤ y ∧ y ≤ 1
        · rw [if_pos q2, c_eq_p (by decide) (by decide), if_neg (by decide), if_neg (fun h => hc ⟨q2, q1, h⟩)]
        · rw [if_neg q2, c_eq_p (by decide) (by decide), if_pos (by decide)]
      · rw [if_neg q1, c_eq_p (by decide) (by decide), if_pos (by decide)]
