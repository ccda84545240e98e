-- going, and doing acts
def DO (b : Nat) (M N : am_M) (r : AR) : Prop := TP b r.1 N ∧ N 50 9 = r.2.1 ∧ N 50 7 = M 50 7 + r.2.2 ∧ N 50 8 = M 50 8 + (1 - r.2.1) ∧ VF b M N
/-- acts done, till it is dark: the path, whether dark, cells cut, acts done -/
abbrev PE : Type := am_M × Int × Int × Int
def pfS (F : FT) (g : am_M) (ac : Nat → Int) : Nat → Nat → am_M → Int → PE
  | 0, i, t, c => (t, 0, c, i)
  | k + 1, i, t, c => if (actS F g t (ac i)).2.1 = 0 then pfS F g ac k (i + 1) (actS F g t (ac i)).1 (c + (actS F g t (ac i)).2.2) else ((actS F g t (ac i)).1, 1, c + (actS F g t (ac i)).2.2, i)
theorem pfS_W {F : FT} {g : am_M} {ac : Nat → Int} (hF : FO F) (hg : WG g) : ∀ (k i : Nat) (t : am_M) (c : Int), WT t → LT g t → WT (pfS F g ac k i t c).1 ∧ LT g (pfS F g ac k i t c).1 ∧ (0 ≤ (pfS F g ac k i t c).2.1 ∧ (pfS F g ac k i t c).2.1 ≤ 1) ∧ (c ≤ (pfS F g ac k i t c).2.2.1 ∧ (pfS F g ac k i t c).2.2.1 ≤ c + k) ∧ ((i : Int) ≤ (pfS F g ac k i t c).2.2.2 ∧ (pfS F g ac k i t c).2.2.2 ≤ i + k)
  | 0, i, t, c, h, hL => by
    unfold pfS
    exact ⟨h, hL, by dsimp only; omega, by dsimp only; omega, by dsimp only; omega⟩
  | k + 1, i, t, c, h, hL => by
    obtain ⟨a1, a2, a3, a4⟩ := actS_W hF hg h hL (ac i)
    unfold pfS
    by_cases q : (actS F g t (ac i)).2.1 = 0
    · rw [if_pos q]
      obtain ⟨b1, b2, b3, b4, b5⟩ := pfS_W hF hg k (i + 1) _ (c + (actS F g t (ac i)).2.2) a1 a2
      exact ⟨b1, b2, b3, by omega, by omega⟩
    · rw [if_neg q]
      exact ⟨a1, a2, by dsimp only; omega, by dsimp only; omega, by dsimp only; omega⟩
theorem wy_b {a : Int} : -1 ≤ wyS a ∧ wyS a ≤ 3 := by
  unfold wyS
  repeat' split
  all_goals omega
theorem append_26_eq {g t M : am_M} {c : Int} (hw : WT t) (hG : GP g M) (hT : TP 26 t M) (hl : t 0 1 < 100) (h0 : 0 ≤ c ∧ c < 144) : ∃ N, Trip_append_26 c M = some N ∧ TP 26 (apT g t c) N ∧ WF 26 M N := by
  have h1 := hw.1
  have e10 : M 26 10 = t 0 1 := hT.1.2.1
  have e3 : M 1 3 = g 0 1 := hG.1.2.1
  refine ⟨am_up (am_up (am_up (am_up (am_up (am_up (am_up (am_up M 28 (t 0 1).toNat c) 29 (t 0 1).toNat (g 0 1)) 30 (t 0 1).toNat 0) 31 (t 0 1).toNat 0) 32 (t 0 1).toNat 0) 33 c.toNat 1) 26 11 (t 0 1)) 26 10 (t 0 1 + 1), ?_, ?_, ?_⟩
  · unfold Trip_append_26 Trip_append_26_97
    rw [e10, c_ge_p (by omega) (by omega), if_neg (by omega), Country_isCell_eq (by omega), ob_s, if_pos h0, c_eq_p (by decide) (by decide), if_neg (by decide)]
    simp (disch := omega) only [c_lt_p, c_eq_p, c_ne_p, c_ge_p, c_gt_p, c_le_p, rd_p, wa_p, wz_p, w8_p, fz_p, fw_p, tw_p, ck_p, ob_s, oc_s, if_pos, if_neg, am_upo, up_s, ne_eq, not_true_eq_false, not_false_eq_true, true_or, or_true, true_and, and_true, false_and, and_false, ck_t, reduceIte, Int.tmod_eq_emod_of_nonneg, Int.tdiv_eq_ediv_of_nonneg, e10, e3]
  · refine ⟨?_, fun p hp => ?_, fun p hp => ?_, fun x hx => ?_⟩
    · unfold apT
      simp (disch := omega) only [c_lt_p, c_eq_p, c_ne_p, c_ge_p, c_gt_p, c_le_p, rd_p, wa_p, wz_p, w8_p, fz_p, fw_p, tw_p, ck_p, ob_s, oc_s, if_pos, if_neg, am_upo, up_s, ne_eq, not_true_eq_false, not_false_eq_true, true_or, or_true, true_and, and_true, false_and, and_false, ck_t, reduceIte, Int.tmod_eq_emod_of_nonneg, Int.tdiv_eq_ediv_of_nonneg]
      exact ⟨hT.1.1, hT.1.2.2.2.1, hT.1.2.2.2.2.1, hT.1.2.2.2.2.2⟩
    · unfold apT at hp ⊢
      revert hp
      simp (disch := omega) only [c_lt_p, c_eq_p, c_ne_p, c_ge_p, c_gt_p, c_le_p, rd_p, wa_p, wz_p, w8_p, fz_p, fw_p, tw_p, ck_p, ob_s, oc_s, if_pos, if_neg, am_upo, up_s, ne_eq, not_true_eq_false, not_false_eq_true, true_or, or_true, true_and, and_true, false_and, and_false, ck_t, reduceIte, Int.tmod_eq_emod_of_nonneg, Int.tdiv_eq_ediv_of_nonneg]
      intro hp
      by_cases e : p = (t 0 1).toNat
      · rw [if_pos e, if_pos e, if_pos e, if_pos e, if_pos e, if_pos e, if_pos e, if_pos e, if_pos e, if_pos e]
        exact ⟨rfl, rfl, rfl, rfl, rfl⟩
      · rw [if_neg e, if_neg e, if_neg e, if_neg e, if_neg e, if_neg e, if_neg e, if_neg e, if_neg e, if_neg e]
        exact hT.2.1 p (by omega)
    · unfold apT
      simp (disch := omega) only [c_lt_p, c_eq_p, c_ne_p, c_ge_p, c_gt_p, c_le_p, rd_p, wa_p, wz_p, w8_p, fz_p, fw_p, tw_p, ck_p, ob_s, oc_s, if_pos, if_neg, am_upo, up_s, ne_eq, not_true_eq_false, not_false_eq_true, true_or, or_true, true_and, and_true, false_and, and_false, ck_t, reduceIte, Int.tmod_eq_emod_of_nonneg, Int.tdiv_eq_ediv_of_nonneg]
      exact hT.2.2.1 p hp
    · have hx2 := hT.2.2.2 x hx
      have hon := ap_on (g := g) (t := t) (c := c) (x := (x : Int)) (by omega)
      simp (disch := omega) only [c_lt_p, c_eq_p, c_ne_p, c_ge_p, c_gt_p, c_le_p, rd_p, wa_p, wz_p, w8_p, fz_p, fw_p, tw_p, ck_p, ob_s, oc_s, if_pos, if_neg, am_upo, up_s, ne_eq, not_true_eq_false, not_false_eq_true, true_or, or_true, true_and, and_true, false_and, and_false, ck_t, reduceIte, Int.tmod_eq_emod_of_nonneg, Int.tdiv_eq_ediv_of_nonneg]
      by_cases e : x = c.toNat
      · rw [if_pos e, if_pos (hon.mpr (Or.inr (by omega)))]
      · rw [if_neg e, hx2]
        by_cases q : onB t (x : Int) = true
        · rw [if_pos q, if_pos (hon.mpr (Or.inl q))]
        · rw [if_neg q, if_neg (fun z => by
            rcases hon.mp z with w | w
            · exact q w
            · omega)]
  · exact (((((((WF.rf.up (by omega)).up (by omega)).up (by omega)).up (by omega)).up (by omega)).up (by omega)).up (by omega)).up (by omega)
theorem canCut_26_eq {g t M : am_M} {c : Int} (hg : WG g) (hw : WT t) (hLT : LT g t) (hG : GP g M) (hT : TP 26 t M) (h0 : 0 ≤ c ∧ c < 144) : Outing_canCut_50_26 c M = some (if cutP g t c then 1 else 0) := by
  have h1 := hw.1
  have e10 : M 26 10 = t 0 1 := hT.1.2.1
  have e11 : M 26 11 = t 0 2 := hT.1.2.2.1
  have hk := KI.of hg hG
  unfold Outing_canCut_50_26 Outing_canCut_50_26_59 Outing_canCut_50_26_60
  rw [e10, e11, c_ne_p (by omega) (by omega)]
  by_cases q1 : t 0 2 = t 0 1 - 1
  · rw [if_neg (fun h => h q1), c_ge_p (by omega) (by omega)]
    by_cases q2 : t 0 1 < 100
    · rw [if_neg (by omega), told_b hg hw hLT hG hT, ob_s]
      by_cases q3 : t 0 0 = -1
      · rw [if_pos q3, c_eq_p (by decide) (by decide), if_pos (by decide), ck_p (by decide), if_neg (fun z => z.2.2.1 q3)]
      · rw [if_neg q3, c_eq_p (by decide) (by decide), if_neg (by decide), Country_isBarred_eq (by omega) hk, ob_s, hG.2.2.1 c.toNat (by omega)]
        by_cases q4 : g 2 c.toNat = 3
        · rw [if_neg (fun z => z.2.2 q4), c_ne_p (by decide) (by decide), if_pos (by decide), ck_p (by decide), if_neg (fun z => z.2.2.2.1 q4)]
        · rw [if_pos ⟨h0.1, h0.2, q4⟩, c_ne_p (by decide) (by decide), if_neg (by decide), Trip_isOnPath_26_eq hT h0.1 h0.2, ob_s]
          by_cases hb : onB t c = true
          · rw [if_pos hb, c_ne_p (by decide) (by decide), if_pos (by decide), ck_p (by decide), if_neg (fun z => by have := z.2.2.2.2; rw [hb] at this; cases this)]
          · rw [if_neg hb, c_ne_p (by decide) (by decide), if_neg (by decide), ck_p (by decide), if_pos ⟨q1, q2, q3, q4, by rw [← Bool.not_eq_true]; exact hb⟩]
    · rw [if_pos (by omega), ck_p (by decide), if_neg (fun z => q2 z.2.1)]
  · rw [if_pos q1, ck_p (by decide), if_neg (fun z => q1 z.1)]
theorem walk_26 {g t M N1 : am_M} {w p : Int} (hg : WG g) (hw : WT t) (hG : GP g M) (hT : TP 26 t M) (hwb : 0 ≤ w ∧ w ≤ 60) (f1 : LF M N1) (h9 : M 50 9 = 0) : ∃ N, (oc (Outing_spend_50_26 w N1) fun v20 M21 => c_eq v20 0 (Outing_goTo_50_26_222 M21) (fw M21 26 11 p fun M22 => Outing_goTo_50_26_222 M22)) = some N ∧ AO 26 M N (spA g t w (fun t1 => (am_up t1 0 2 p, 0, 0))) := by
  have hG1 := hG.lf f1
  have hT1 := hT.lf f1 (by decide)
  have es := spend_26_eq hg hw hG1 hT1 (w := w) (by omega)
  have e50 : N1 50 = M 50 := f1 50 (by decide) (by decide)
  unfold Outing_goTo_50_26_222 spA
  by_cases q : t 0 3 + w ≤ g 0 2
  · rw [if_pos q] at es
    obtain ⟨p1, p2, p3, p4, p5⟩ := spent_26 (g := g) (w := w) hT1
    rw [es, oc_s, c_eq_p (by decide) (by decide), if_neg (by decide), fw_p, if_pos q]
    refine ⟨_, rfl, p1.h2, ?_, ?_, ?_, f1.vf.tr (p2.up (by omega))⟩
    · rw [upo (by decide), p3]
    · rw [upo (by decide), p4, e50]
      show _ = M 50 7 + 0
      omega
    · rw [upo (by decide), p5, e50]
  · rw [if_neg q] at es
    rw [es, oc_s, c_eq_p (by decide) (by decide), if_pos (by decide), if_neg q]
    obtain ⟨d1, d2, d3, d4, d5⟩ := dark_26 (g := g) hT1
    exact ⟨_, rfl, d1, d2, by rw [d3, e50], by rw [d4, e50], f1.vf.tr d5⟩
theorem goTo_26_eq {F : FT} {g t M : am_M} {w : Int} (hF : FO F) (hg : WG g) (hw : WT t) (hLT : LT g t) (hG : GP g M) (hL : LWP F M) (hT : TP 26 t M) (h9 : M 50 9 = 0) (hww : am_R w) : ∃ N, Outing_goTo_50_26 w M = some N ∧ AO 26 M N (goA F g t w) := by
  have h1 := hw.1
  have hg1 := hg.1
  have e11 : M 26 11 = t 0 2 := hT.1.2.2.1
  have ha := (hw.at (p := t 0 2) (by omega) (by omega)).1
  have ec : ceS t (t 0 2) = t 2 (t 0 2).toNat := if_pos (by omega)
  have hnb := nbS_b (c := ceS t (t 0 2)) (w := w) (by omega) (by omega)
  have hcb : ∀ p : Int, -1 ≤ ceS t p ∧ ceS t p < 144 := fun p => by
    unfold ceS
    split
    · rename_i hq
      have := hw.at hq.1 hq.2
      omega
    · omega
  have b1 := hcb (t 0 2 + 1)
  have b2 := hcb (t 0 2 - 1)
  unfold Outing_goTo_50_26 goA
  rw [e11, Trip_cellAt_26_eq hw hT (by omega), ob_s, Country_neighbour_eq (by omega) (by omega) hww, ob_s, c_ge_p (by omega) (by omega)]
  by_cases q1 : nbS (ceS t (t 0 2)) w < 0
  · rw [if_neg (by omega), if_pos q1]
    exact ⟨M, rfl, none_26 hT h9⟩
  rw [if_pos (by omega), if_neg q1, Trip_cellAt_26_eq hw hT (by omega), ob_s, c_ne_p (by omega) (by omega)]
  by_cases q2 : nbS (ceS t (t 0 2)) w = ceS t (t 0 2 + 1)
  · obtain ⟨N1, a1, a2⟩ := Trip_minutesOnto_26_eq (p := t 0 2 + 1) (f := 1) hF hL hg hw hG hT (by omega) (Or.inl rfl)
    rw [if_neg (fun h => h q2), if_pos q2, a1, oc_s]
    exact walk_26 hg hw hG hT (waS_b hF g t _ _) a2 h9
  rw [if_pos q2, if_neg q2, Trip_cellAt_26_eq hw hT (by omega), ob_s, c_ne_p (by omega) (by omega)]
  by_cases q3 : nbS (ceS t (t 0 2)) w = ceS t (t 0 2 - 1)
  · obtain ⟨N1, a1, a2⟩ := Trip_minutesOnto_26_eq (p := t 0 2 - 1) (f := 2) hF hL hg hw hG hT (by omega) (Or.inr rfl)
    rw [if_neg (fun h => h q3), if_pos q3, a1, oc_s]
    exact walk_26 hg hw hG hT (waS_b hF g t _ _) a2 h9
  rw [if_pos q3, if_neg q3, canCut_26_eq hg hw hLT hG hT (by omega), ob_s]
  by_cases q4 : cutP g t (nbS (ceS t (t 0 2)) w)
  · obtain ⟨k1, k2, k3, k4, k5⟩ := q4
    obtain ⟨c, hc⟩ : ∃ c, c = nbS (ceS t (t 0 2)) w := ⟨_, rfl⟩
    rw [← hc] at hnb k4 k5 ⊢
    have hld := (ld_b hw hT).2.2 k3
    have hkc := hg.2.2.1 c.toNat (by omega)
    have hga := hg.2.2.2 (t 0 0).toNat (by omega)
    have hti := hw.2.2.1 (t 0 0).toNat (by omega)
    have e13 : M 26 13 = t 0 4 := hT.1.2.2.2.2.1
    have ekd : Country_kindAt_1 c M = some (g 2 c.toNat) := by
      rw [Country_kindAt_eq (by omega), if_pos (by omega), hG.2.2.1 c.toNat (by omega)]
    have ear : Country_armOf_1 (t 0 0) M = some (g 3 (t 0 0).toNat) := by
      rw [Country_armOf_eq (by omega), if_pos (by omega), hG.2.2.2 _ (by omega)]
    obtain ⟨N1, a1, a2⟩ := Law_tiring_eq (k := g 2 c.toNat) (a := g 3 (t 0 0).toNat) (t := t 1 (t 0 0).toNat) (y := t 0 4) hF hL (by omega) (by omega) (by omega) (by omega)
    have hG1 := hG.lf a2
    have hT1 := hT.lf a2 (by decide)
    have e3 : N1 1 3 = g 0 1 := hG1.1.2.1
    have e131 : N1 26 13 = t 0 4 := hT1.1.2.2.2.2.1
    obtain ⟨N2, b1, b2⟩ := Law_cutting_eq (k := g 2 c.toNat) (w := g 0 1) (a := g 3 (t 0 0).toNat) (t := t 1 (t 0 0).toNat) (y := t 0 4) hF (hL.lf a2) (by omega) (by omega) (by omega) (by omega) (by omega)
    have em : F 110 20 (E7 (g 2 c.toNat) 0 (g 3 (t 0 0).toNat) (t 1 (t 0 0).toNat) 0 0 (t 0 4)) = moS F g t c := rfl
    have ek : F 99 240 (E7 (g 2 c.toNat) (g 0 1) (g 3 (t 0 0).toNat) (t 1 (t 0 0).toNat) 0 0 (t 0 4)) = cmS F g t c := rfl
    rw [em] at a1
    rw [ek] at b1
    have hmb : 0 ≤ moS F g t c ∧ moS F g t c ≤ 20 := hF.1 _ _ _ (by decide)
    have hcb2 : 0 ≤ cmS F g t c ∧ cmS F g t c ≤ 240 := hF.1 _ _ _ (by decide)
    have f2 := a2.tr b2
    have hG2 := hG.lf f2
    have hT2 := hT.lf f2 (by decide)
    have e50 : N2 50 = M 50 := f2 50 (by decide) (by decide)
    have es := spend_26_eq hg hw hG2 hT2 (w := cmS F g t c) (by omega)
    have hct : cutP g t c := ⟨k1, k2, k3, k4, k5⟩
    rw [if_pos hct, c_eq_p (by decide) (by decide), if_neg (by decide), if_pos hct, ekd, ob_s, hld.1, ear, ob_s, Trip_tiredOf_26_eq hT hld.2.1 hld.2.2, ob_s, e13, a1, oc_s, e3, e131, b1, oc_s]
    unfold Outing_goTo_50_26_222 spA
    by_cases q : t 0 3 + cmS F g t c ≤ g 0 2
    · rw [if_pos q] at es
      obtain ⟨p1, p2, p3, p4, p5⟩ := spent_26 (g := g) (w := cmS F g t c) hT2
      have hw1 := hw.h3 (v := t 0 3 + cmS F g t c) (by omega)
      have e9 : (am_up (am_up N2 50 9 0) 26 12 (t 0 3 + cmS F g t c)) 26 9 = t 0 0 := by
        rw [upx (by decide), upo (by decide)]
        exact ((ld_b hw hT2).2.2 k3).1
      rw [es, oc_s, c_eq_p (by decide) (by decide), if_neg (by decide), e9, setTired_26_eq ⟨hld.2.1, hld.2.2⟩ (by omega), ob_s, if_pos q]
      have p6 := p1.g1 (p := (t 0 0).toNat) (v := hd0 (t 1 (t 0 0).toNat + moS F g t c))
      have f6 := p2.up (k := 27) (j := (t 0 0).toNat) (v := hd0 (t 1 (t 0 0).toNat + moS F g t c)) (by omega)
      have hw6 := hw1.g1 (p := (t 0 0).toNat) (hd0_b (t 1 (t 0 0).toNat + moS F g t c))
      obtain ⟨N3, c1, c2, c3⟩ := append_26_eq (c := c) hw6 (hG2.vf f6 (by decide)) p6 (by rw [upo (by decide), upx (by decide)]; exact k2) (by omega)
      rw [c1, ob_s, fw_p]
      have n50 : ∀ j, N3 50 j = (am_up (am_up N2 50 9 0) 26 12 (t 0 3 + cmS F g t c)) 50 j := fun j => by rw [c3 50 (by decide) (by decide) (by decide), upo (by decide)]
      refine ⟨_, rfl, c2.cg (fun k x y => upo (by omega)), ?_, ?_, ?_, ((f2.vf.tr f6).tr c3.vf_26).up (by omega)⟩
      · rw [upx (by decide), n50, p3]
      · rw [upj, n50, p4, e50]
      · rw [upx (by decide), n50, p5, e50]
    · rw [if_neg q] at es
      rw [es, oc_s, c_eq_p (by decide) (by decide), if_pos (by decide), if_neg q]
      obtain ⟨d1, d2, d3, d4, d5⟩ := dark_26 (g := g) hT2
      exact ⟨_, rfl, d1, d2, by rw [d3, e50], by rw [d4, e50], f2.vf.tr d5⟩
  · rw [if_neg q4, c_eq_p (by decide) (by decide), if_pos (by decide), if_neg q4]
    exact ⟨M, rfl, none_26 hT h9⟩
theorem doAct_26_eq {F : FT} {g t M : am_M} {a : Int} (hF : FO F) (hg : WG g) (hw : WT t) (hLT : LT g t) (hG : GP g M) (hL : LWP F M) (hT : TP 26 t M) (h9 : M 50 9 = 0) (hra : am_R a) : ∃ N, Outing_doAct_50_26 a M = some N ∧ DO 26 M N (actS F g t a) := by
  have fin : ∀ (N : am_M) (r : AR), AO 26 M N r → (r.2.1 = 0 ∨ r.2.1 = 1) → ∃ N', Outing_doAct_50_26_103 N = some N' ∧ DO 26 M N' r := by
    intro N r h hr
    obtain ⟨a1, a2, a3, a4, a5⟩ := h
    unfold Outing_doAct_50_26_103 Outing_doAct_50_26_120
    rw [a2, c_ne_p (by omega) (by decide)]
    by_cases q : r.2.1 = 0
    · rw [if_neg (fun h => h q), fw_p]
      refine ⟨_, rfl, a1.cg (fun k x y => upo (by omega)), ?_, ?_, ?_, a5.up (by omega)⟩
      · rw [upx (by decide)]
        exact a2
      · rw [upx (by decide)]
        exact a3
      · rw [upj, a4]
        omega
    · rw [if_pos q]
      exact ⟨N, rfl, a1, a2, a3, by omega, a5⟩
  have hdk := (actS_W hF hg hw hLT a).2.2.1
  unfold Outing_doAct_50_26
  unfold actS at hdk ⊢
  rw [ck_p hra]
  by_cases q1 : a = 43
  · rw [if_pos q1] at hdk
    rw [if_pos q1, if_pos q1]
    obtain ⟨N, b1, b2⟩ := change_26_eq hg hw hLT hG hT h9
    rw [b1, ob_s]
    exact fin N _ b2 (by omega)
  rw [if_neg q1] at hdk
  rw [if_neg q1, if_neg q1]
  by_cases q2 : a = 46
  · rw [if_pos q2] at hdk
    rw [if_pos q2, if_pos q2]
    obtain ⟨N, b1, b2⟩ := rest_26_eq hF hg hw hG hL hT h9
    rw [b1, ob_s]
    exact fin N _ b2 (by omega)
  rw [if_neg q2] at hdk
  rw [if_neg q2, if_neg q2]
  by_cases q3 : a = 98
  · rw [if_pos q3] at hdk
    rw [if_pos q3, if_pos q3]
    obtain ⟨N, b1, b2⟩ := mark_26_eq (f := 2) hg hw hG hT h9 (Or.inr rfl)
    rw [b1, ob_s]
    exact fin N _ b2 (by omega)
  rw [if_neg q3] at hdk
  rw [if_neg q3, if_neg q3]
  by_cases q4 : a = 111
  · rw [if_pos q4] at hdk
    rw [if_pos q4, if_pos q4]
    obtain ⟨N, b1, b2⟩ := mark_26_eq (f := 1) hg hw hG hT h9 (Or.inl rfl)
    rw [b1, ob_s]
    exact fin N _ b2 (by omega)
  rw [if_neg q4] at hdk
  rw [if_neg q4, if_neg q4]
  by_cases q5 : a = 120
  · rw [if_pos q5] at hdk
    rw [if_pos q5, if_pos q5]
    obtain ⟨N, b1, b2⟩ := lay_26_eq hg hw hG hT h9
    rw [b1, ob_s]
    exact fin N _ b2 (by omega)
  rw [if_neg q5] at hdk
  rw [if_neg q5, if_neg q5, wayOf_eq hra, ob_s]
  have hwb := wy_b (a := a)
  obtain ⟨N, b1, b2⟩ := goTo_26_eq (w := wyS a) hF hg hw hLT hG hL hT h9 (by omega)
  rw [b1, ob_s]
  exact fin N _ b2 (by omega)
theorem perf_26_lp {F : FT} {g : am_M} {ac : Nat → Int} {m : Nat} {x : Int} (hF : FO F) (hg : WG g) (hm : m ≤ 90) (hac : ∀ i, i < m → am_R (ac i)) : ∀ (k f i : Nat) (t M : am_M), i + k = m → k < f → WT t → LT g t → GP g M → LWP F M → TP 26 t M → M 50 9 = 0 → M 50 3 = m → M 50 8 = i → (∀ j : Nat, j < m → M 51 j = ac j) → ∃ N, Outing_perform_50_26_22 f x (i : Int) M = some ((pfS F g ac k i t (M 50 7)).1 0 3 - x, N) ∧ TP 26 (pfS F g ac k i t (M 50 7)).1 N ∧ N 50 9 = (pfS F g ac k i t (M 50 7)).2.1 ∧ N 50 7 = (pfS F g ac k i t (M 50 7)).2.2.1 ∧ N 50 8 = (pfS F g ac k i t (M 50 7)).2.2.2 ∧ VF 26 M N
  | 0, f + 1, i, t, M, e, hf, hw, hLT, hG, hL, hT, h9, h3, h8, h51 => by
    refine ⟨M, ?_, hT, h9, rfl, h8, VF.rf⟩
    have e12 : M 26 12 = t 0 3 := hT.1.2.2.2.1
    unfold Outing_perform_50_26_22 Outing_perform_50_26_60 pfS
    rw [h3, c_ge_p (by omega) (by omega), if_pos (by omega), e12]
  | k + 1, f + 1, i, t, M, e, hf, hw, hLT, hG, hL, hT, h9, h3, h8, h51 => by
    obtain ⟨w1, w2, w3, w4⟩ := actS_W hF hg hw hLT (ac i)
    obtain ⟨N1, a1, a2, a3, a4, a5, a6⟩ := doAct_26_eq (a := ac i) hF hg hw hLT hG hL hT h9 (hac i (by omega))
    unfold Outing_perform_50_26_22
    rw [h3, c_ge_p (by omega) (by omega), if_neg (by omega), c_ge_p (by omega) (by omega), if_neg (by omega), h9, c_ne_p (by decide) (by decide), if_neg (by decide), rd_p (by omega), show ((i : Int)).toNat = i by omega, h51 i (by omega), a1, ob_s]
    unfold pfS
    have n3 : N1 50 3 = m := by rw [a6.2 3 (by decide)]; exact h3
    have n51 : ∀ j : Nat, j < m → N1 51 j = ac j := fun j hj => by rw [a6.1 51 (by decide) (by decide) (by decide) (by decide)]; exact h51 j hj
    by_cases q : (actS F g t (ac i)).2.1 = 0
    · rw [if_pos q, ← a4]
      obtain ⟨N2, b1, b2, b3, b4, b5, b6⟩ := perf_26_lp (x := x) hF hg hm hac k f (i + 1) _ N1 (by omega) (by omega) w1 w2 (hG.vf a6 (by decide)) (hL.vf a6 (by decide)) a2 (by omega) n3 (by omega) n51
      exact ⟨N2, b1, b2, b3, b4, b5, a6.tr b6⟩
    · rw [if_neg q]
      have e12 : N1 26 12 = (actS F g t (ac i)).1 0 3 := a2.1.2.2.2.1
      refine ⟨N1, ?_, a2, by show _ = (1 : Int); omega, a4, by show _ = (i : Int); omega, a6⟩
      obtain ⟨f, rfl⟩ : ∃ f', f = f' + 1 := ⟨f - 1, by omega⟩
      unfold Outing_perform_50_26_22 Outing_perform_50_26_60
      rw [n3, c_ge_p (by omega) (by omega)]
      by_cases z : ((m : Nat) : Int) ≤ (i : Int) + 1
      · rw [if_pos z, e12]
      · rw [if_neg z, c_ge_p (by omega) (by omega), if_neg (by omega), a3, c_ne_p (by omega) (by decide), if_pos q, e12]
theorem append_34_eq {g t M : am_M} {c : Int} (hw : WT t) (hG : GP g M) (hT : TP 34 t M) (hl : t 0 1 < 100) (h0 : 0 ≤ c ∧ c < 144) : ∃ N, Trip_append_34 c M = some N ∧ TP 34 (apT g t c) N ∧ WF 34 M N := by
  have h1 := hw.1
  have e10 : M 34 10 = t 0 1 := hT.1.2.1
  have e3 : M 1 3 = g 0 1 := hG.1.2.1
  refine ⟨am_up (am_up (am_up (am_up (am_up (am_up (am_up (am_up M 36 (t 0 1).toNat c) 37 (t 0 1).toNat (g 0 1)) 38 (t 0 1).toNat 0) 39 (t 0 1).toNat 0) 40 (t 0 1).toNat 0) 41 c.toNat 1) 34 11 (t 0 1)) 34 10 (t 0 1 + 1), ?_, ?_, ?_⟩
  · unfold Trip_append_34 Trip_append_34_97
    rw [e10, c_ge_p (by omega) (by omega), if_neg (by omega), Country_isCell_eq (by omega), ob_s, if_pos h0, c_eq_p (by decide) (by decide), if_neg (by decide)]
    simp (disch := omega) only [c_lt_p, c_eq_p, c_ne_p, c_ge_p, c_gt_p, c_le_p, rd_p, wa_p, wz_p, w8_p, fz_p, fw_p, tw_p, ck_p, ob_s, oc_s, if_pos, if_neg, am_upo, up_s, ne_eq, not_true_eq_false, not_false_eq_true, true_or, or_true, true_and, and_true, false_and, and_false, ck_t, reduceIte, Int.tmod_eq_emod_of_nonneg, Int.tdiv_eq_ediv_of_nonneg, e10, e3]
  · refine ⟨?_, fun p hp => ?_, fun p hp => ?_, fun x hx => ?_⟩
    · unfold apT
      simp (disch := omega) only [c_lt_p, c_eq_p, c_ne_p, c_ge_p, c_gt_p, c_le_p, rd_p, wa_p, wz_p, w8_p, fz_p, fw_p, tw_p, ck_p, ob_s, oc_s, if_pos, if_neg, am_upo, up_s, ne_eq, not_true_eq_false, not_false_eq_true, true_or, or_true, true_and, and_true, false_and, and_false, ck_t, reduceIte, Int.tmod_eq_emod_of_nonneg, Int.tdiv_eq_ediv_of_nonneg]
      exact ⟨hT.1.1, hT.1.2.2.2.1, hT.1.2.2.2.2.1, hT.1.2.2.2.2.2⟩
    · unfold apT at hp ⊢
      revert hp
      simp (disch := omega) only [c_lt_p, c_eq_p, c_ne_p, c_ge_p, c_gt_p, c_le_p, rd_p, wa_p, wz_p, w8_p, fz_p, fw_p, tw_p, ck_p, ob_s, oc_s, if_pos, if_neg, am_upo, up_s, ne_eq, not_true_eq_false, not_false_eq_true, true_or, or_true, true_and, and_true, false_and, and_false, ck_t, reduceIte, Int.tmod_eq_emod_of_nonneg, Int.tdiv_eq_ediv_of_nonneg]
      intro hp
      by_cases e : p = (t 0 1).toNat
      · rw [if_pos e, if_pos e, if_pos e, if_pos e, if_pos e, if_pos e, if_pos e, if_pos e, if_pos e, if_pos e]
        exact ⟨rfl, rfl, rfl, rfl, rfl⟩
      · rw [if_neg e, if_neg e, if_neg e, if_neg e, if_neg e, if_neg e, if_neg e, if_neg e, if_neg e, if_neg e]
        exact hT.2.1 p (by omega)
    · unfold apT
      simp (disch := omega) only [c_lt_p, c_eq_p, c_ne_p, c_ge_p, c_gt_p, c_le_p, rd_p, wa_p, wz_p, w8_p, fz_p, fw_p, tw_p, ck_p, ob_s, oc_s, if_pos, if_neg, am_upo, up_s, ne_eq, not_true_eq_false, not_false_eq_true, true_or, or_true, true_and, and_true, false_and, and_false, ck_t, reduceIte, Int.tmod_eq_emod_of_nonneg, Int.tdiv_eq_ediv_of_nonneg]
      exact hT.2.2.1 p hp
    · have hx2 := hT.2.2.2 x hx
      have hon := ap_on (g := g) (t := t) (c := c) (x := (x : Int)) (by omega)
      simp (disch := omega) only [c_lt_p, c_eq_p, c_ne_p, c_ge_p, c_gt_p, c_le_p, rd_p, wa_p, wz_p, w8_p, fz_p, fw_p, tw_p, ck_p, ob_s, oc_s, if_pos, if_neg, am_upo, up_s, ne_eq, not_true_eq_false, not_false_eq_true, true_or, or_true, true_and, and_true, false_and, and_false, ck_t, reduceIte, Int.tmod_eq_emod_of_nonneg, Int.tdiv_eq_ediv_of_nonneg]
      by_cases e : x = c.toNat
      · rw [if_pos e, if_pos (hon.mpr (Or.inr (by omega)))]
      · rw [if_neg e, hx2]
        by_cases q : onB t (x : Int) = true
        · rw [if_pos q, if_pos (hon.mpr (Or.inl q))]
        · rw [if_neg q, if_neg (fun z => by
            rcases hon.mp z with w | w
            · exact q w
            · omega)]
  · exact (((((((WF.rf.up (by omega)).up (by omega)).up (by omega)).up (by omega)).up (by omega)).up (by omega)).up (by omega)).up (by omega)
theorem canCut_34_eq {g t M : am_M} {c : Int} (hg : WG g) (hw : WT t) (hLT : LT g t) (hG : GP g M) (hT : TP 34 t M) (h0 : 0 ≤ c ∧ c < 144) : Outing_canCut_50_34 c M = some (if cutP g t c then 1 else 0) := by
  have h1 := hw.1
  have e10 : M 34 10 = t 0 1 := hT.1.2.1
  have e11 : M 34 11 = t 0 2 := hT.1.2.2.1
  have hk := KI.of hg hG
  unfold Outing_canCut_50_34 Outing_canCut_50_34_59 Outing_canCut_50_34_60
  rw [e10, e11, c_ne_p (by omega) (by omega)]
  by_cases q1 : t 0 2 = t 0 1 - 1
  · rw [if_neg (fun h => h q1), c_ge_p (by omega) (by omega)]
    by_cases q2 : t 0 1 < 100
    · rw [if_neg (by omega), told_b hg hw hLT hG hT, ob_s]
      by_cases q3 : t 0 0 = -1
      · rw [if_pos q3, c_eq_p (by decide) (by decide), if_pos (by decide), ck_p (by decide), if_neg (fun z => z.2.2.1 q3)]
      · rw [if_neg q3, c_eq_p (by decide) (by decide), if_neg (by decide), Country_isBarred_eq (by omega) hk, ob_s, hG.2.2.1 c.toNat (by omega)]
        by_cases q4 : g 2 c.toNat = 3
        · rw [if_neg (fun z => z.2.2 q4), c_ne_p (by decide) (by decide), if_pos (by decide), ck_p (by decide), if_neg (fun z => z.2.2.2.1 q4)]
        · rw [if_pos ⟨h0.1, h0.2, q4⟩, c_ne_p (by decide) (by decide), if_neg (by decide), Trip_isOnPath_34_eq hT h0.1 h0.2, ob_s]
          by_cases hb : onB t c = true
          · rw [if_pos hb, c_ne_p (by decide) (by decide), if_pos (by decide), ck_p (by decide), if_neg (fun z => by have := z.2.2.2.2; rw [hb] at this; cases this)]
          · rw [if_neg hb, c_ne_p (by decide) (by decide), if_neg (by decide), ck_p (by decide), if_pos ⟨q1, q2, q3, q4, by rw [← Bool.not_eq_true]; exact hb⟩]
    · rw [if_pos (by omega), ck_p (by decide), if_neg (fun z => q2 z.2.1)]
  · rw [if_pos q1, ck_p (by decide), if_neg (fun z => q1 z.1)]
theorem walk_34 {g t M N1 : am_M} {w p : Int} (hg : WG g) (hw : WT t) (hG : GP g M) (hT : TP 34 t M) (hwb : 0 ≤ w ∧ w ≤ 60) (f1 : LF M N1) (h9 : M 50 9 = 0) : ∃ N, (oc (Outing_spend_50_34 w N1) fun v20 M21 => c_eq v20 0 (Outing_goTo_50_34_222 M21) (fw M21 34 11 p fun M22 => Outing_goTo_50_34_222 M22)) = some N ∧ AO 34 M N (spA g t w (fun t1 => (am_up t1 0 2 p, 0, 0))) := by
  have hG1 := hG.lf f1
  have hT1 := hT.lf f1 (by decide)
  have es := spend_34_eq hg hw hG1 hT1 (w := w) (by omega)
  have e50 : N1 50 = M 50 := f1 50 (by decide) (by decide)
  unfold Outing_goTo_50_34_222 spA
  by_cases q : t 0 3 + w ≤ g 0 2
  · rw [if_pos q] at es
    obtain ⟨p1, p2, p3, p4, p5⟩ := spent_34 (g := g) (w := w) hT1
    rw [es, oc_s, c_eq_p (by decide) (by decide), if_neg (by decide), fw_p, if_pos q]
    refine ⟨_, rfl, p1.h2, ?_, ?_, ?_, f1.vf.tr (p2.up (by omega))⟩
    · rw [upo (by decide), p3]
    · rw [upo (by decide), p4, e50]
      show _ = M 50 7 + 0
      omega
    · rw [upo (by decide), p5, e50]
  · rw [if_neg q] at es
    rw [es, oc_s, c_eq_p (by decide) (by decide), if_pos (by decide), if_neg q]
    obtain ⟨d1, d2, d3, d4, d5⟩ := dark_34 (g := g) hT1
    exact ⟨_, rfl, d1, d2, by rw [d3, e50], by rw [d4, e50], f1.vf.tr d5⟩
theorem goTo_34_eq {F : FT} {g t M : am_M} {w : Int} (hF : FO F) (hg : WG g) (hw : WT t) (hLT : LT g t) (hG : GP g M) (hL : LWP F M) (hT : TP 34 t M) (h9 : M 50 9 = 0) (hww : am_R w) : ∃ N, Outing_goTo_50_34 w M = some N ∧ AO 34 M N (goA F g t w) := by
  have h1 := hw.1
  have hg1 := hg.1
  have e11 : M 34 11 = t 0 2 := hT.1.2.2.1
  have ha := (hw.at (p := t 0 2) (by omega) (by omega)).1
  have ec : ceS t (t 0 2) = t 2 (t 0 2).toNat := if_pos (by omega)
  have hnb := nbS_b (c := ceS t (t 0 2)) (w := w) (by omega) (by omega)
  have hcb : ∀ p : Int, -1 ≤ ceS t p ∧ ceS t p < 144 := fun p => by
    unfold ceS
    split
    · rename_i hq
      have := hw.at hq.1 hq.2
      omega
    · omega
  have b1 := hcb (t 0 2 + 1)
  have b2 := hcb (t 0 2 - 1)
  unfold Outing_goTo_50_34 goA
  rw [e11, Trip_cellAt_34_eq hw hT (by omega), ob_s, Country_neighbour_eq (by omega) (by omega) hww, ob_s, c_ge_p (by omega) (by omega)]
  by_cases q1 : nbS (ceS t (t 0 2)) w < 0
  · rw [if_neg (by omega), if_pos q1]
    exact ⟨M, rfl, none_34 hT h9⟩
  rw [if_pos (by omega), if_neg q1, Trip_cellAt_34_eq hw hT (by omega), ob_s, c_ne_p (by omega) (by omega)]
  by_cases q2 : nbS (ceS t (t 0 2)) w = ceS t (t 0 2 + 1)
  · obtain ⟨N1, a1, a2⟩ := Trip_minutesOnto_34_eq (p := t 0 2 + 1) (f := 1) hF hL hg hw hG hT (by omega) (Or.inl rfl)
    rw [if_neg (fun h => h q2), if_pos q2, a1, oc_s]
    exact walk_34 hg hw hG hT (waS_b hF g t _ _) a2 h9
  rw [if_pos q2, if_neg q2, Trip_cellAt_34_eq hw hT (by omega), ob_s, c_ne_p (by omega) (by omega)]
  by_cases q3 : nbS (ceS t (t 0 2)) w = ceS t (t 0 2 - 1)
  · obtain ⟨N1, a1, a2⟩ := Trip_minutesOnto_34_eq (p := t 0 2 - 1) (f := 2) hF hL hg hw hG hT (by omega) (Or.inr rfl)
    rw [if_neg (fun h => h q3), if_pos q3, a1, oc_s]
    exact walk_34 hg hw hG hT (waS_b hF g t _ _) a2 h9
  rw [if_pos q3, if_neg q3, canCut_34_eq hg hw hLT hG hT (by omega), ob_s]
  by_cases q4 : cutP g t (nbS (ceS t (t 0 2)) w)
  · obtain ⟨k1, k2, k3, k4, k5⟩ := q4
    obtain ⟨c, hc⟩ : ∃ c, c = nbS (ceS t (t 0 2)) w := ⟨_, rfl⟩
    rw [← hc] at hnb k4 k5 ⊢
    have hld := (ld_b hw hT).2.2 k3
    have hkc := hg.2.2.1 c.toNat (by omega)
    have hga := hg.2.2.2 (t 0 0).toNat (by omega)
    have hti := hw.2.2.1 (t 0 0).toNat (by omega)
    have e13 : M 34 13 = t 0 4 := hT.1.2.2.2.2.1
    have ekd : Country_kindAt_1 c M = some (g 2 c.toNat) := by
      rw [Country_kindAt_eq (by omega), if_pos (by omega), hG.2.2.1 c.toNat (by omega)]
    have ear : Country_armOf_1 (t 0 0) M = some (g 3 (t 0 0).toNat) := by
      rw [Country_armOf_eq (by omega), if_pos (by omega), hG.2.2.2 _ (by omega)]
    obtain ⟨N1, a1, a2⟩ := Law_tiring_eq (k := g 2 c.toNat) (a := g 3 (t 0 0).toNat) (t := t 1 (t 0 0).toNat) (y := t 0 4) hF hL (by omega) (by omega) (by omega) (by omega)
    have hG1 := hG.lf a2
    have hT1 := hT.lf a2 (by decide)
    have e3 : N1 1 3 = g 0 1 := hG1.1.2.1
    have e131 : N1 34 13 = t 0 4 := hT1.1.2.2.2.2.1
    obtain ⟨N2, b1, b2⟩ := Law_cutting_eq (k := g 2 c.toNat) (w := g 0 1) (a := g 3 (t 0 0).toNat) (t := t 1 (t 0 0).toNat) (y := t 0 4) hF (hL.lf a2) (by omega) (by omega) (by omega) (by omega) (by omega)
    have em : F 110 20 (E7 (g 2 c.toNat) 0 (g 3 (t 0 0).toNat) (t 1 (t 0 0).toNat) 0 0 (t 0 4)) = moS F g t c := rfl
    have ek : F 99 240 (E7 (g 2 c.toNat) (g 0 1) (g 3 (t 0 0).toNat) (t 1 (t 0 0).toNat) 0 0 (t 0 4)) = cmS F g t c := rfl
    rw [em] at a1
    rw [ek] at b1
    have hmb : 0 ≤ moS F g t c ∧ moS F g t c ≤ 20 := hF.1 _ _ _ (by decide)
    have hcb2 : 0 ≤ cmS F g t c ∧ cmS F g t c ≤ 240 := hF.1 _ _ _ (by decide)
    have f2 := a2.tr b2
    have hG2 := hG.lf f2
    have hT2 := hT.lf f2 (by decide)
    have e50 : N2 50 = M 50 := f2 50 (by decide) (by decide)
    have es := spend_34_eq hg hw hG2 hT2 (w := cmS F g t c) (by omega)
    have hct : cutP g t c := ⟨k1, k2, k3, k4, k5⟩
    rw [if_pos hct, c_eq_p (by decide) (by decide), if_neg (by decide), if_pos hct, ekd, ob_s, hld.1, ear, ob_s, Trip_tiredOf_34_eq hT hld.2.1 hld.2.2, ob_s, e13, a1, oc_s, e3, e131, b1, oc_s]
    unfold Outing_goTo_50_34_222 spA
    by_cases q : t 0 3 + cmS F g t c ≤ g 0 2
    · rw [if_pos q] at es
      obtain ⟨p1, p2, p3, p4, p5⟩ := spent_34 (g := g) (w := cmS F g t c) hT2
      have hw1 := hw.h3 (v := t 0 3 + cmS F g t c) (by omega)
      have e9 : (am_up (am_up N2 50 9 0) 34 12 (t 0 3 + cmS F g t c)) 34 9 = t 0 0 := by
        rw [upx (by decide), upo (by decide)]
        exact ((ld_b hw hT2).2.2 k3).1
      rw [es, oc_s, c_eq_p (by decide) (by decide), if_neg (by decide), e9, setTired_34_eq ⟨hld.2.1, hld.2.2⟩ (by omega), ob_s, if_pos q]
      have p6 := p1.g1 (p := (t 0 0).toNat) (v := hd0 (t 1 (t 0 0).toNat + moS F g t c))
      have f6 := p2.up (k := 35) (j := (t 0 0).toNat) (v := hd0 (t 1 (t 0 0).toNat + moS F g t c)) (by omega)
      have hw6 := hw1.g1 (p := (t 0 0).toNat) (hd0_b (t 1 (t 0 0).toNat + moS F g t c))
      obtain ⟨N3, c1, c2, c3⟩ := append_34_eq (c := c) hw6 (hG2.vf f6 (by decide)) p6 (by rw [upo (by decide), upx (by decide)]; exact k2) (by omega)
      rw [c1, ob_s, fw_p]
      have n50 : ∀ j, N3 50 j = (am_up (am_up N2 50 9 0) 34 12 (t 0 3 + cmS F g t c)) 50 j := fun j => by rw [c3 50 (by decide) (by decide) (by decide), upo (by decide)]
      refine ⟨_, rfl, c2.cg (fun k x y => upo (by omega)), ?_, ?_, ?_, ((f2.vf.tr f6).tr c3.vf_34).up (by omega)⟩
      · rw [upx (by decide), n50, p3]
      · rw [upj, n50, p4, e50]
      · rw [upx (by decide), n50, p5, e50]
    · rw [if_neg q] at es
      rw [es, oc_s, c_eq_p (by decide) (by decide), if_pos (by decide), if_neg q]
      obtain ⟨d1, d2, d3, d4, d5⟩ := dark_34 (g := g) hT2
      exact ⟨_, rfl, d1, d2, by rw [d3, e50], by rw [d4, e50], f2.vf.tr d5⟩
  · rw [if_neg q4, c_eq_p (by decide) (by decide), if_pos (by decide), if_neg q4]
    exact ⟨M, rfl, none_34 hT h9⟩
theorem doAct_34_eq {F : FT} {g t M : am_M} {a : Int} (hF : FO F) (hg : WG g) (hw : WT t) (hLT : LT g t) (hG : GP g M) (hL : LWP F M) (hT : TP 34 t M) (h9 : M 50 9 = 0) (hra : am_R a) : ∃ N, Outing_doAct_50_34 a M = some N ∧ DO 34 M N (actS F g t a) := by
  have fin : ∀ (N : am_M) (r : AR), AO 34 M N r → (r.2.1 = 0 ∨ r.2.1 = 1) → ∃ N', Outing_doAct_50_34_103 N = some N' ∧ DO 34 M N' r := by
    intro N r h hr
    obtain ⟨a1, a2, a3, a4, a5⟩ := h
    unfold Outing_doAct_50_34_103 Outing_doAct_50_34_120
    rw [a2, c_ne_p (by omega) (by decide)]
    by_cases q : r.2.1 = 0
    · rw [if_neg (fun h => h q), fw_p]
      refine ⟨_, rfl, a1.cg (fun k x y => upo (by omega)), ?_, ?_, ?_, a5.up (by omega)⟩
      · rw [upx (by decide)]
        exact a2
      · rw [upx (by decide)]
        exact a3
      · rw [upj, a4]
        omega
    · rw [if_pos q]
      exact ⟨N, rfl, a1, a2, a3, by omega, a5⟩
  have hdk := (actS_W hF hg hw hLT a).2.2.1
  unfold Outing_doAct_50_34
  unfold actS at hdk ⊢
  rw [ck_p hra]
  by_cases q1 : a = 43
  · rw [if_pos q1] at hdk
    rw [if_pos q1, if_pos q1]
    obtain ⟨N, b1, b2⟩ := change_34_eq hg hw hLT hG hT h9
    rw [b1, ob_s]
    exact fin N _ b2 (by omega)
  rw [if_neg q1] at hdk
  rw [if_neg q1, if_neg q1]
  by_cases q2 : a = 46
  · rw [if_pos q2] at hdk
    rw [if_pos q2, if_pos q2]
    obtain ⟨N, b1, b2⟩ := rest_34_eq hF hg hw hG hL hT h9
    rw [b1, ob_s]
    exact fin N _ b2 (by omega)
  rw [if_neg q2] at hdk
  rw [if_neg q2, if_neg q2]
  by_cases q3 : a = 98
  · rw [if_pos q3] at hdk
    rw [if_pos q3, if_pos q3]
    obtain ⟨N, b1, b2⟩ := mark_34_eq (f := 2) hg hw hG hT h9 (Or.inr rfl)
    rw [b1, ob_s]
    exact fin N _ b2 (by omega)
  rw [if_neg q3] at hdk
  rw [if_neg q3, if_neg q3]
  by_cases q4 : a = 111
  · rw [if_pos q4] at hdk
    rw [if_pos q4, if_pos q4]
    obtain ⟨N, b1, b2⟩ := mark_34_eq (f := 1) hg hw hG hT h9 (Or.inl rfl)
    rw [b1, ob_s]
    exact fin N _ b2 (by omega)
  rw [if_neg q4] at hdk
  rw [if_neg q4, if_neg q4]
  by_cases q5 : a = 120
  · rw [if_pos q5] at hdk
    rw [if_pos q5, if_pos q5]
    obtain ⟨N, b1, b2⟩ := lay_34_eq hg hw hG hT h9
    rw [b1, ob_s]
    exact fin N _ b2 (by omega)
  rw [if_neg q5] at hdk
  rw [if_neg q5, if_neg q5, wayOf_eq hra, ob_s]
  have hwb := wy_b (a := a)
  obtain ⟨N, b1, b2⟩ := goTo_34_eq (w := wyS a) hF hg hw hLT hG hL hT h9 (by omega)
  rw [b1, ob_s]
  exact fin N _ b2 (by omega)
theorem perf_34_lp {F : FT} {g : am_M} {ac : Nat → Int} {m : Nat} {x : Int} (hF : FO F) (hg : WG g) (hm : m ≤ 90) (hac : ∀ i, i < m → am_R (ac i)) : ∀ (k f i : Nat) (t M : am_M), i + k = m → k < f → WT t → LT g t → GP g M → LWP F M → TP 34 t M → M 50 9 = 0 → M 50 3 = m → M 50 8 = i → (∀ j : Nat, j < m → M 51 j = ac j) → ∃ N, Outing_perform_50_34_22 f x (i : Int) M = some ((pfS F g ac k i t (M 50 7)).1 0 3 - x, N) ∧ TP 34 (pfS F g ac k i t (M 50 7)).1 N ∧ N 50 9 = (pfS F g ac k i t (M 50 7)).2.1 ∧ N 50 7 = (pfS F g ac k i t (M 50 7)).2.2.1 ∧ N 50 8 = (pfS F g ac k i t (M 50 7)).2.2.2 ∧ VF 34 M N
  | 0, f + 1, i, t, M, e, hf, hw, hLT, hG, hL, hT, h9, h3, h8, h51 => by
    refine ⟨M, ?_, hT, h9, rfl, h8, VF.rf⟩
    have e12 : M 34 12 = t 0 3 := hT.1.2.2.2.1
    unfold Outing_perform_50_34_22 Outing_perform_50_34_60 pfS
    rw [h3, c_ge_p (by omega) (by omega), if_pos (by omega), e12]
  | k + 1, f + 1, i, t, M, e, hf, hw, hLT, hG, hL, hT, h9, h3, h8, h51 => by
    obtain ⟨w1, w2, w3, w4⟩ := actS_W hF hg hw hLT (ac i)
    obtain ⟨N1, a1, a2, a3, a4, a5, a6⟩ := doAct_34_eq (a := ac i) hF hg hw hLT hG hL hT h9 (hac i (by omega))
    unfold Outing_perform_50_34_22
    rw [h3, c_ge_p (by omega) (by omega), if_neg (by omega), c_ge_p (by omega) (by omega), if_neg (by omega), h9, c_ne_p (by decide) (by decide), if_neg (by decide), rd_p (by omega), show ((i : Int)).toNat = i by omega, h51 i (by omega), a1, ob_s]
    unfold pfS
    have n3 : N1 50 3 = m := by rw [a6.2 3 (by decide)]; exact h3
    have n51 : ∀ j : Nat, j < m → N1 51 j = ac j := fun j hj => by rw [a6.1 51 (by decide) (by decide) (by decide) (by decide)]; exact h51 j hj
    by_cases q : (actS F g t (ac i)).2.1 = 0
    · rw [if_pos q, ← a4]
      obtain ⟨N2, b1, b2, b3, b4, b5, b6⟩ := perf_34_lp (x := x) hF hg hm hac k f (i + 1) _ N1 (by omega) (by omega) w1 w2 (hG.vf a6 (by decide)) (hL.vf a6 (by decide)) a2 (by omega) n3 (by omega) n51
      exact ⟨N2, b1, b2, b3, b4, b5, a6.tr b6⟩
    · rw [if_neg q]
      have e12 : N1 34 12 = (actS F g t (ac i)).1 0 3 := a2.1.2.2.2.1
      refine ⟨N1, ?_, a2, by show _ = (1 : Int); omega, a4, by show _ = (i : Int); omega, a6⟩
      obtain ⟨f, rfl⟩ : ∃ f', f = f' + 1 := ⟨f - 1, by omega⟩
      unfold Outing_perform_50_34_22 Outing_perform_50_34_60
      rw [n3, c_ge_p (by omega) (by omega)]
      by_cases z : ((m : Nat) : Int) ≤ (i : Int) + 1
      · rw [if_pos z, e12]
      · rw [if_neg z, c_ge_p (by omega) (by omega), if_neg (by omega), a3, c_ne_p (by omega) (by decide), if_pos q, e12]
