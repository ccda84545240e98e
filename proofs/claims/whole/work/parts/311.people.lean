theorem R_isPerson_eq {g M : am_M} (hg : WG g) (h : GR g M) {p : Int} (hp : am_R p) : R_isPerson p M = some (if 0 ≤ p ∧ p < 6 ∧ 0 < g 3 p.toNat then 1 else 0) := by
  unfold R_isPerson R_isPerson_25 R_isPerson_26
  by_cases hc : 0 ≤ p ∧ p ≤ 5
  · have h1 := (h.2.2.2 p.toNat (by omega)).2
    by_cases h2 : 0 < g 3 p.toNat
    · rw [if_pos h2] at h1
      simp (disch := omega) only [c_lt_p, c_eq_p, c_ne_p, c_ge_p, c_gt_p, c_le_p, rd_p, wa_p, wz_p, w8_p, fz_p, fw_p, tw_p, ck_p, ob_s, oc_s, if_pos, if_neg, am_upo, up_s, ne_eq, not_true_eq_false, not_false_eq_true, true_or, or_true, true_and, and_true, false_and, and_false, ck_t, reduceIte, Int.tmod_eq_emod_of_nonneg, Int.tdiv_eq_ediv_of_nonneg, R_lies_eq, h1]
    · rw [if_neg h2] at h1
      simp (disch := omega) only [c_lt_p, c_eq_p, c_ne_p, c_ge_p, c_gt_p, c_le_p, rd_p, wa_p, wz_p, w8_p, fz_p, fw_p, tw_p, ck_p, ob_s, oc_s, if_pos, if_neg, am_upo, up_s, ne_eq, not_true_eq_false, not_false_eq_true, true_or, or_true, true_and, and_true, false_and, and_false, ck_t, reduceIte, Int.tmod_eq_emod_of_nonneg, Int.tdiv_eq_ediv_of_nonneg, R_lies_eq, h1]
  · simp (disch := omega) only [c_lt_p, c_eq_p, c_ne_p, c_ge_p, c_gt_p, c_le_p, rd_p, wa_p, wz_p, w8_p, fz_p, fw_p, tw_p, ck_p, ob_s, oc_s, if_pos, if_neg, am_upo, up_s, ne_eq, not_true_eq_false, not_false_eq_true, true_or, or_true, true_and, and_true, false_and, and_false, ck_t, reduceIte, Int.tmod_eq_emod_of_nonneg, Int.tdiv_eq_ediv_of_nonneg, R_lies_eq]
theorem told_eq {g M : am_M} (hg : WG g) (h : GP g M) {p : Int} (hp : am_R p) : Country_isTold_1 p M = some (if 0 ≤ p ∧ p < 6 ∧ 0 < g 3 p.toNat then 1 else 0) := by
  rw [Country_isTold_eq hp (AI.of hg h)]
  by_cases hc : 0 ≤ p ∧ p < 6
  · rw [h.2.2.2 p.toNat (by omega)]
  · rw [if_neg (fun q => hc ⟨q.1, q.2.1⟩), if_neg (fun q => hc ⟨q.1, q.2.1⟩)]
theorem ld_eq {t M : am_M} (hw : WT t) (h : TP 26 t M) : am_R (M 26 9) ∧ (t 0 0 = -1 → M 26 9 = -2) ∧ (t 0 0 ≠ -1 → M 26 9 = t 0 0 ∧ 0 ≤ t 0 0 ∧ t 0 0 < 6) := by
  have h1 := h.1.1
  have h2 := hw.1
  by_cases h3 : t 0 0 = -1
  · rw [if_pos h3] at h1
    exact ⟨by omega, fun _ => h1, fun q => absurd h3 q⟩
  · rw [if_neg h3] at h1
    exact ⟨by omega, fun q => absurd q h3, fun _ => ⟨h1, by omega, by omega⟩⟩
/-- somebody is ahead -/
theorem told_ld {F : FT} {g t u M : am_M} (hW : PW F g t u) (h : GP g M) (hT : TP 26 t M) : Country_isTold_1 (M 26 9) M = some (if t 0 0 = -1 then 0 else 1) := by
  obtain ⟨e1, e2, e3⟩ := ld_eq hW.2.1 hT
  rw [told_eq hW.1 h e1]
  by_cases h3 : t 0 0 = -1
  · rw [e2 h3, if_pos h3]
    exact congrArg some (if_neg (by omega))
  · rw [(e3 h3).1, if_neg h3]
    exact congrArg some (if_pos ⟨(e3 h3).2.1, (e3 h3).2.2, hW.2.2.1 h3⟩)
theorem P_ahead_ok {n : Nat} {x : Int} (hx : am_R x) : OK2 n (P_ahead x) (R_ahead x) := by
  refine OK2.of (lp := [26]) (lr := [73]) (by decide) (by decide) (fun M r h => P_ahead_c x M r h) (fun M r h => R_ahead_c x M r h) (fun F g t u hW => ?_)
  by_cases hc : 0 ≤ x ∧ x < 6 ∧ 0 < g 3 x.toNat
  · refine ⟨1, F, g, am_up t 0 0 x, u, by decide, ?_, fun M hC => ⟨am_up M 26 9 x, ?_, ?_⟩, fun M hR => ⟨am_up M 73 41 x, ?_, ?_⟩⟩
    · obtain ⟨h1, h2, h3, h4, h5⟩ := hW
      unfold PW WT
      simp (disch := omega) only [c_lt_p, c_eq_p, c_ne_p, c_ge_p, c_gt_p, c_le_p, rd_p, wa_p, wz_p, w8_p, fz_p, fw_p, tw_p, ck_p, ob_s, oc_s, if_pos, if_neg, am_upo, up_s, ne_eq, not_true_eq_false, not_false_eq_true, true_or, or_true, true_and, and_true, false_and, and_false, ck_t, reduceIte, Int.tmod_eq_emod_of_nonneg, Int.tdiv_eq_ediv_of_nonneg]
      have := h2.1
      exact ⟨h1, ⟨by omega, h2.2⟩, fun _ => hc.2.2, h4, h5⟩
    · unfold P_ahead
      rw [told_eq hW.1 hC.1 hx, if_pos hc]
      simp (disch := omega) only [c_lt_p, c_eq_p, c_ne_p, c_ge_p, c_gt_p, c_le_p, rd_p, wa_p, wz_p, w8_p, fz_p, fw_p, tw_p, ck_p, ob_s, oc_s, if_pos, if_neg, am_upo, up_s, ne_eq, not_true_eq_false, not_false_eq_true, true_or, or_true, true_and, and_true, false_and, and_false, ck_t, reduceIte, Int.tmod_eq_emod_of_nonneg, Int.tdiv_eq_ediv_of_nonneg]
    · obtain ⟨h1, h2, h3, h4, h5⟩ := hC
      refine ⟨h1.cg (fun k a => upo (by omega)), ?_, fun q => (h3 q).cg (fun k a b => upo (by omega)), h4.cg (fun k a b => upo (by omega)), h5.cg (fun k a b => upo (by omega)) (by omega)⟩
      unfold TP onB at h2 ⊢
      simp (disch := omega) only [c_lt_p, c_eq_p, c_ne_p, c_ge_p, c_gt_p, c_le_p, rd_p, wa_p, wz_p, w8_p, fz_p, fw_p, tw_p, ck_p, ob_s, oc_s, if_pos, if_neg, am_upo, up_s, ne_eq, not_true_eq_false, not_false_eq_true, true_or, or_true, true_and, and_true, false_and, and_false, ck_t, reduceIte, Int.tmod_eq_emod_of_nonneg, Int.tdiv_eq_ediv_of_nonneg]
      exact ⟨h2.1.2, h2.2⟩
    · unfold R_ahead
      rw [R_isPerson_eq hW.1 hR.1 hx, if_pos hc]
      simp (disch := omega) only [c_lt_p, c_eq_p, c_ne_p, c_ge_p, c_gt_p, c_le_p, rd_p, wa_p, wz_p, w8_p, fz_p, fw_p, tw_p, ck_p, ob_s, oc_s, if_pos, if_neg, am_upo, up_s, ne_eq, not_true_eq_false, not_false_eq_true, true_or, or_true, true_and, and_true, false_and, and_false, ck_t, reduceIte, Int.tmod_eq_emod_of_nonneg, Int.tdiv_eq_ediv_of_nonneg]
    · obtain ⟨h1, h2, h3, h4⟩ := hR
      refine ⟨?_, ?_, fun q => (h3 q).cg (fun k a => upo (by omega)), h4.cg (fun k a b => upo (by omega)) (upx (by decide))⟩
      · unfold GR at h1 ⊢
        simp (disch := omega) only [c_lt_p, c_eq_p, c_ne_p, c_ge_p, c_gt_p, c_le_p, rd_p, wa_p, wz_p, w8_p, fz_p, fw_p, tw_p, ck_p, ob_s, oc_s, if_pos, if_neg, am_upo, up_s, ne_eq, not_true_eq_false, not_false_eq_true, true_or, or_true, true_and, and_true, false_and, and_false, ck_t, reduceIte, Int.tmod_eq_emod_of_nonneg, Int.tdiv_eq_ediv_of_nonneg]
        exact h1
      · unfold TR onB at h2 ⊢
        simp (disch := omega) only [c_lt_p, c_eq_p, c_ne_p, c_ge_p, c_gt_p, c_le_p, rd_p, wa_p, wz_p, w8_p, fz_p, fw_p, tw_p, ck_p, ob_s, oc_s, if_pos, if_neg, am_upo, up_s, ne_eq, not_true_eq_false, not_false_eq_true, true_or, or_true, true_and, and_true, false_and, and_false, ck_t, reduceIte, Int.tmod_eq_emod_of_nonneg, Int.tdiv_eq_ediv_of_nonneg]
        exact ⟨h2.1.2, h2.2⟩
  · refine ⟨0, F, g, t, u, by decide, hW, fun M hC => ⟨M, ?_, hC.cg (fun _ _ => rfl) (by omega)⟩, fun M hR => ⟨M, ?_, hR⟩⟩
    · unfold P_ahead
      rw [told_eq hW.1 hC.1 hx, if_neg hc]
      simp (disch := omega) only [c_lt_p, c_eq_p, c_ne_p, c_ge_p, c_gt_p, c_le_p, rd_p, wa_p, wz_p, w8_p, fz_p, fw_p, tw_p, ck_p, ob_s, oc_s, if_pos, if_neg, am_upo, up_s, ne_eq, not_true_eq_false, not_false_eq_true, true_or, or_true, true_and, and_true, false_and, and_false, ck_t, reduceIte, Int.tmod_eq_emod_of_nonneg, Int.tdiv_eq_ediv_of_nonneg]
    · unfold R_ahead
      rw [R_isPerson_eq hW.1 hR.1 hx, if_neg hc]
      simp (disch := omega) only [c_lt_p, c_eq_p, c_ne_p, c_ge_p, c_gt_p, c_le_p, rd_p, wa_p, wz_p, w8_p, fz_p, fw_p, tw_p, ck_p, ob_s, oc_s, if_pos, if_neg, am_upo, up_s, ne_eq, not_true_eq_false, not_false_eq_true, true_or, or_true, true_and, and_true, false_and, and_false, ck_t, reduceIte, Int.tmod_eq_emod_of_nonneg, Int.tdiv_eq_ediv_of_nonneg]
theorem OK1.of {n : Nat} {p r : am_M → Option Int} (h : ∀ (F : FT) (g t u : am_M), PW F g t u → ∃ v : Int, am_R v ∧ (∀ M, PC F g t u n M → p M = some v) ∧ (∀ M, PR F g t u M → r M = some v)) : OK1 n p r := by
  intro M ⟨F, g, t, u, hW, hC, hR⟩
  obtain ⟨v, hv, h1, h2⟩ := h F g t u hW
  exact ⟨v, h1 M hC, h2 M hR, hv⟩
theorem P_personIs_ok {n : Nat} {x y : Int} (hx : am_R x) (hy : am_R y) : OK1 n (P_personIs x y) (R_personIs x y) := by
  refine OK1.of (fun F g t u hW => ?_)
  by_cases hc : 0 ≤ x ∧ x < 6 ∧ 0 < g 3 x.toNat
  · have ha := hW.1.2.2.2 x.toNat (by omega)
    have hti := hW.2.1.2.2.1 x.toNat (by omega)
    by_cases h0 : y = 0
    · refine ⟨g 3 x.toNat, by omega, fun M hC => ?_, fun M hR => ?_⟩
      · unfold P_personIs P_personIs_45 P_personIs_20
        have e1 : M 4 x.toNat = g 3 x.toNat := hC.1.2.2.2 _ (by omega)
        rw [told_eq hW.1 hC.1 hx, if_pos hc]
        simp (disch := omega) only [c_lt_p, c_eq_p, c_ne_p, c_ge_p, c_gt_p, c_le_p, rd_p, wa_p, wz_p, w8_p, fz_p, fw_p, tw_p, ck_p, ob_s, oc_s, if_pos, if_neg, am_upo, up_s, ne_eq, not_true_eq_false, not_false_eq_true, true_or, or_true, true_and, and_true, false_and, and_false, ck_t, reduceIte, Int.tmod_eq_emod_of_nonneg, Int.tdiv_eq_ediv_of_nonneg, Country_armOf_eq, e1]
      · unfold R_personIs R_personIs_40 R_personIs_41
        have e1 : M 92 x.toNat = g 3 x.toNat := (hR.1.2.2.2 _ (by omega)).1
        rw [R_isPerson_eq hW.1 hR.1 hx, if_pos hc]
        simp (disch := omega) only [c_lt_p, c_eq_p, c_ne_p, c_ge_p, c_gt_p, c_le_p, rd_p, wa_p, wz_p, w8_p, fz_p, fw_p, tw_p, ck_p, ob_s, oc_s, if_pos, if_neg, am_upo, up_s, ne_eq, not_true_eq_false, not_false_eq_true, true_or, or_true, true_and, and_true, false_and, and_false, ck_t, reduceIte, Int.tmod_eq_emod_of_nonneg, Int.tdiv_eq_ediv_of_nonneg, R_lies_eq, e1]
    · by_cases h1 : y = 1
      · refine ⟨t 1 x.toNat, by omega, fun M hC => ?_, fun M hR => ?_⟩
        · unfold P_personIs P_personIs_45 P_personIs_20
          rw [told_eq hW.1 hC.1 hx, if_pos hc]
          simp (disch := omega) only [c_lt_p, c_eq_p, c_ne_p, c_ge_p, c_gt_p, c_le_p, rd_p, wa_p, wz_p, w8_p, fz_p, fw_p, tw_p, ck_p, ob_s, oc_s, if_pos, if_neg, am_upo, up_s, ne_eq, not_true_eq_false, not_false_eq_true, true_or, or_true, true_and, and_true, false_and, and_false, ck_t, reduceIte, Int.tmod_eq_emod_of_nonneg, Int.tdiv_eq_ediv_of_nonneg, Trip_tiredOf_26_eq hC.2.1]
        · unfold R_personIs R_personIs_40 R_personIs_41
          have e1 : M 93 x.toNat = t 1 x.toNat := hR.2.1.2.2.1 _ (by omega)
          rw [R_isPerson_eq hW.1 hR.1 hx, if_pos hc]
          simp (disch := omega) only [c_lt_p, c_eq_p, c_ne_p, c_ge_p, c_gt_p, c_le_p, rd_p, wa_p, wz_p, w8_p, fz_p, fw_p, tw_p, ck_p, ob_s, oc_s, if_pos, if_neg, am_upo, up_s, ne_eq, not_true_eq_false, not_false_eq_true, true_or, or_true, true_and, and_true, false_and, and_false, ck_t, reduceIte, Int.tmod_eq_emod_of_nonneg, Int.tdiv_eq_ediv_of_nonneg, R_lies_eq, e1]
      · refine ⟨-1, by decide, fun M hC => ?_, fun M hR => ?_⟩
        · unfold P_personIs P_personIs_45 P_personIs_20
          rw [told_eq hW.1 hC.1 hx, if_pos hc]
          by_cases h2 : y < 0
          · simp (disch := omega) only [c_lt_p, c_eq_p, c_ne_p, c_ge_p, c_gt_p, c_le_p, rd_p, wa_p, wz_p, w8_p, fz_p, fw_p, tw_p, ck_p, ob_s, oc_s, if_pos, if_neg, am_upo, up_s, ne_eq, not_true_eq_false, not_false_eq_true, true_or, or_true, true_and, and_true, false_and, and_false, ck_t, reduceIte, Int.tmod_eq_emod_of_nonneg, Int.tdiv_eq_ediv_of_nonneg]
          · simp (disch := omega) only [c_lt_p, c_eq_p, c_ne_p, c_ge_p, c_gt_p, c_le_p, rd_p, wa_p, wz_p, w8_p, fz_p, fw_p, tw_p, ck_p, ob_s, oc_s, if_pos, if_neg, am_upo, up_s, ne_eq, not_true_eq_false, not_false_eq_true, true_or, or_true, true_and, and_true, false_and, and_false, ck_t, reduceIte, Int.tmod_eq_emod_of_nonneg, Int.tdiv_eq_ediv_of_nonneg]
        · unfold R_personIs R_personIs_40 R_personIs_41
          rw [R_isPerson_eq hW.1 hR.1 hx, if_pos hc]
          simp (disch := omega) only [c_lt_p, c_eq_p, c_ne_p, c_ge_p, c_gt_p, c_le_p, rd_p, wa_p, wz_p, w8_p, fz_p, fw_p, tw_p, ck_p, ob_s, oc_s, if_pos, if_neg, am_upo, up_s, ne_eq, not_true_eq_false, not_false_eq_true, true_or, or_true, true_and, and_true, false_and, and_false, ck_t, reduceIte, Int.tmod_eq_emod_of_nonneg, Int.tdiv_eq_ediv_of_nonneg, R_lies_eq]
  · refine ⟨-1, by decide, fun M hC => ?_, fun M hR => ?_⟩
    · unfold P_personIs P_personIs_45 P_personIs_20
      rw [told_eq hW.1 hC.1 hx, if_neg hc]
      simp (disch := omega) only [c_lt_p, c_eq_p, c_ne_p, c_ge_p, c_gt_p, c_le_p, rd_p, wa_p, wz_p, w8_p, fz_p, fw_p, tw_p, ck_p, ob_s, oc_s, if_pos, if_neg, am_upo, up_s, ne_eq, not_true_eq_false, not_false_eq_true, true_or, or_true, true_and, and_true, false_and, and_false, ck_t, reduceIte, Int.tmod_eq_emod_of_nonneg, Int.tdiv_eq_ediv_of_nonneg]
    · unfold R_personIs R_personIs_40 R_personIs_41
      rw [R_isPerson_eq hW.1 hR.1 hx, if_neg hc]
      simp (disch := omega) only [c_lt_p, c_eq_p, c_ne_p, c_ge_p, c_gt_p, c_le_p, rd_p, wa_p, wz_p, w8_p, fz_p, fw_p, tw_p, ck_p, ob_s, oc_s, if_pos, if_neg, am_upo, up_s, ne_eq, not_true_eq_false, not_false_eq_true, true_or, or_true, true_and, and_true, false_and, and_false, ck_t, reduceIte, Int.tmod_eq_emod_of_nonneg, Int.tdiv_eq_ediv_of_nonneg]
theorem P_path_ok {n : Nat} {x y : Int} (hx : am_R x) (hy : am_R y) : OK1 n (P_path x y) (R_path x y) := by
  refine OK1.of (fun F g t u hW => ?_)
  have hl := hW.2.1.1
  by_cases hc : 0 ≤ x ∧ x < t 0 1
  · have ha := hW.2.1.at hc.1 hc.2
    have hfk := fkS_01 t g x
    have hP : ∀ M, PC F g t u n M → P_path x y M = some (if y = 0 then t 2 x.toNat else if y = 1 then t 4 x.toNat else if y = 2 then t 3 x.toNat else if y = 3 then t 5 x.toNat else if y = 4 then t 6 x.toNat else if y = 5 then fkS t g x else if y = 6 then blS t g x else -1) := by
      intro M hC
      have e1 : M 26 10 = t 0 1 := hC.2.1.1.2.1
      have c1 : ceS t x = t 2 x.toNat := if_pos hc
      have c2 : grS t x = t 4 x.toNat := if_pos hc
      have c3 : wiS t x = t 3 x.toNat := if_pos hc
      have c4 : mkS t x = t 5 x.toNat := if_pos hc
      have c5 : skS t x = t 6 x.toNat := if_pos hc
      unfold P_path P_path_15 P_path_138 P_path_121
      by_cases y0 : y = 0
      · simp (disch := omega) only [c_lt_p, c_eq_p, c_ne_p, c_ge_p, c_gt_p, c_le_p, rd_p, wa_p, wz_p, w8_p, fz_p, fw_p, tw_p, ck_p, ob_s, oc_s, if_pos, if_neg, am_upo, up_s, ne_eq, not_true_eq_false, not_false_eq_true, true_or, or_true, true_and, and_true, false_and, and_false, ck_t, reduceIte, Int.tmod_eq_emod_of_nonneg, Int.tdiv_eq_ediv_of_nonneg, e1, Trip_cellAt_26_eq hW.2.1 hC.2.1, c1]
      · by_cases y1 : y = 1
        · simp (disch := omega) only [c_lt_p, c_eq_p, c_ne_p, c_ge_p, c_gt_p, c_le_p, rd_p, wa_p, wz_p, w8_p, fz_p, fw_p, tw_p, ck_p, ob_s, oc_s, if_pos, if_neg, am_upo, up_s, ne_eq, not_true_eq_false, not_false_eq_true, true_or, or_true, true_and, and_true, false_and, and_false, ck_t, reduceIte, Int.tmod_eq_emod_of_nonneg, Int.tdiv_eq_ediv_of_nonneg, e1, Trip_grownAt_26_eq hW.2.1 hC.2.1, c2]
        · by_cases y2 : y = 2
          · simp (disch := omega) only [c_lt_p, c_eq_p, c_ne_p, c_ge_p, c_gt_p, c_le_p, rd_p, wa_p, wz_p, w8_p, fz_p, fw_p, tw_p, ck_p, ob_s, oc_s, if_pos, if_neg, am_upo, up_s, ne_eq, not_true_eq_false, not_false_eq_true, true_or, or_true, true_and, and_true, false_and, and_false, ck_t, reduceIte, Int.tmod_eq_emod_of_nonneg, Int.tdiv_eq_ediv_of_nonneg, e1, Trip_widthAt_26_eq hW.2.1 hC.2.1, c3]
          · by_cases y3 : y = 3
            · simp (disch := omega) only [c_lt_p, c_eq_p, c_ne_p, c_ge_p, c_gt_p, c_le_p, rd_p, wa_p, wz_p, w8_p, fz_p, fw_p, tw_p, ck_p, ob_s, oc_s, if_pos, if_neg, am_upo, up_s, ne_eq, not_true_eq_false, not_false_eq_true, true_or, or_true, true_and, and_true, false_and, and_false, ck_t, reduceIte, Int.tmod_eq_emod_of_nonneg, Int.tdiv_eq_ediv_of_nonneg, e1, Trip_marksAt_26_eq hW.2.1 hC.2.1, c4]
            · by_cases y4 : y = 4
              · simp (disch := omega) only [c_lt_p, c_eq_p, c_ne_p, c_ge_p, c_gt_p, c_le_p, rd_p, wa_p, wz_p, w8_p, fz_p, fw_p, tw_p, ck_p, ob_s, oc_s, if_pos, if_neg, am_upo, up_s, ne_eq, not_true_eq_false, not_false_eq_true, true_or, or_true, true_and, and_true, false_and, and_false, ck_t, reduceIte, Int.tmod_eq_emod_of_nonneg, Int.tdiv_eq_ediv_of_nonneg, e1, Trip_sticksAt_26_eq hW.2.1 hC.2.1, c5]
              · by_cases y5 : y = 5
                · rcases hfk with q | q
                  · simp (disch := omega) only [c_lt_p, c_eq_p, c_ne_p, c_ge_p, c_gt_p, c_le_p, rd_p, wa_p, wz_p, w8_p, fz_p, fw_p, tw_p, ck_p, ob_s, oc_s, if_pos, if_neg, am_upo, up_s, ne_eq, not_true_eq_false, not_false_eq_true, true_or, or_true, true_and, and_true, false_and, and_false, ck_t, reduceIte, Int.tmod_eq_emod_of_nonneg, Int.tdiv_eq_ediv_of_nonneg, e1, Trip_isFork_26_eq hW.2.1 hW.1 hC.2.1 hC.1 hc.1 hc.2, q]
                  · simp (disch := omega) only [c_lt_p, c_eq_p, c_ne_p, c_ge_p, c_gt_p, c_le_p, rd_p, wa_p, wz_p, w8_p, fz_p, fw_p, tw_p, ck_p, ob_s, oc_s, if_pos, if_neg, am_upo, up_s, ne_eq, not_true_eq_false, not_false_eq_true, true_or, or_true, true_and, and_true, false_and, and_false, ck_t, reduceIte, Int.tmod_eq_emod_of_nonneg, Int.tdiv_eq_ediv_of_nonneg, e1, Trip_isFork_26_eq hW.2.1 hW.1 hC.2.1 hC.1 hc.1 hc.2, q]
                · by_cases y6 : y = 6
                  · rcases (show blS t g x = 0 ∨ blS t g x = 1 by unfold blS; split; exact Or.inr rfl; exact Or.inl rfl) with q | q
                    · simp (disch := omega) only [c_lt_p, c_eq_p, c_ne_p, c_ge_p, c_gt_p, c_le_p, rd_p, wa_p, wz_p, w8_p, fz_p, fw_p, tw_p, ck_p, ob_s, oc_s, if_pos, if_neg, am_upo, up_s, ne_eq, not_true_eq_false, not_false_eq_true, true_or, or_true, true_and, and_true, false_and, and_false, ck_t, reduceIte, Int.tmod_eq_emod_of_nonneg, Int.tdiv_eq_ediv_of_nonneg, e1, Trip_isBlind_26_eq hW.2.1 hW.1 hC.2.1 hC.1 hc.1 hc.2, q]
                    · simp (disch := omega) only [c_lt_p, c_eq_p, c_ne_p, c_ge_p, c_gt_p, c_le_p, rd_p, wa_p, wz_p, w8_p, fz_p, fw_p, tw_p, ck_p, ob_s, oc_s, if_pos, if_neg, am_upo, up_s, ne_eq, not_true_eq_false, not_false_eq_true, true_or, or_true, true_and, and_true, false_and, and_false, ck_t, reduceIte, Int.tmod_eq_emod_of_nonneg, Int.tdiv_eq_ediv_of_nonneg, e1, Trip_isBlind_26_eq hW.2.1 hW.1 hC.2.1 hC.1 hc.1 hc.2, q]
                  · simp (disch := omega) only [c_lt_p, c_eq_p, c_ne_p, c_ge_p, c_gt_p, c_le_p, rd_p, wa_p, wz_p, w8_p, fz_p, fw_p, tw_p, ck_p, ob_s, oc_s, if_pos, if_neg, am_upo, up_s, ne_eq, not_true_eq_false, not_false_eq_true, true_or, or_true, true_and, and_true, false_and, and_false, ck_t, reduceIte, Int.tmod_eq_emod_of_nonneg, Int.tdiv_eq_ediv_of_nonneg, e1]
    have hRr : ∀ M, PR F g t u M → R_path x y M = some (if y = 0 then t 2 x.toNat else if y = 1 then t 4 x.toNat else if y = 2 then t 3 x.toNat else if y = 3 then t 5 x.toNat else if y = 4 then t 6 x.toNat else if y = 5 then fkS t g x else if y = 6 then blS t g x else -1) := by
      intro M hR
      have e1 : M 73 46 = t 0 1 := hR.2.1.1.2.1
      obtain ⟨c1, c3, c2, c4, c5⟩ := hR.2.1.2.1 x.toNat (by omega)
      unfold R_path R_path_102 R_path_116 R_path_130
      by_cases y0 : y = 0
      · simp (disch := omega) only [c_lt_p, c_eq_p, c_ne_p, c_ge_p, c_gt_p, c_le_p, rd_p, wa_p, wz_p, w8_p, fz_p, fw_p, tw_p, ck_p, ob_s, oc_s, if_pos, if_neg, am_upo, up_s, ne_eq, not_true_eq_false, not_false_eq_true, true_or, or_true, true_and, and_true, false_and, and_false, ck_t, reduceIte, Int.tmod_eq_emod_of_nonneg, Int.tdiv_eq_ediv_of_nonneg, e1, R_lies_eq, c1]
      · by_cases y1 : y = 1
        · simp (disch := omega) only [c_lt_p, c_eq_p, c_ne_p, c_ge_p, c_gt_p, c_le_p, rd_p, wa_p, wz_p, w8_p, fz_p, fw_p, tw_p, ck_p, ob_s, oc_s, if_pos, if_neg, am_upo, up_s, ne_eq, not_true_eq_false, not_false_eq_true, true_or, or_true, true_and, and_true, false_and, and_false, ck_t, reduceIte, Int.tmod_eq_emod_of_nonneg, Int.tdiv_eq_ediv_of_nonneg, e1, R_lies_eq, c2]
        · by_cases y2 : y = 2
          · simp (disch := omega) only [c_lt_p, c_eq_p, c_ne_p, c_ge_p, c_gt_p, c_le_p, rd_p, wa_p, wz_p, w8_p, fz_p, fw_p, tw_p, ck_p, ob_s, oc_s, if_pos, if_neg, am_upo, up_s, ne_eq, not_true_eq_false, not_false_eq_true, true_or, or_true, true_and, and_true, false_and, and_false, ck_t, reduceIte, Int.tmod_eq_emod_of_nonneg, Int.tdiv_eq_ediv_of_nonneg, e1, R_lies_eq, c3]
          · by_cases y3 : y = 3
            · simp (disch := omega) only [c_lt_p, c_eq_p, c_ne_p, c_ge_p, c_gt_p, c_le_p, rd_p, wa_p, wz_p, w8_p, fz_p, fw_p, tw_p, ck_p, ob_s, oc_s, if_pos, if_neg, am_upo, up_s, ne_eq, not_true_eq_false, not_false_eq_true, true_or, or_true, true_and, and_true, false_and, and_false, ck_t, reduceIte, Int.tmod_eq_emod_of_nonneg, Int.tdiv_eq_ediv_of_nonneg, e1, R_lies_eq, c4]
            · by_cases y4 : y = 4
              · rcases (show t 6 x.toNat = 0 ∨ t 6 x.toNat = 1 by omega) with q | q
                · simp (disch := omega) only [c_lt_p, c_eq_p, c_ne_p, c_ge_p, c_gt_p, c_le_p, rd_p, wa_p, wz_p, w8_p, fz_p, fw_p, tw_p, ck_p, ob_s, oc_s, if_pos, if_neg, am_upo, up_s, ne_eq, not_true_eq_false, not_false_eq_true, true_or, or_true, true_and, and_true, false_and, and_false, ck_t, reduceIte, Int.tmod_eq_emod_of_nonneg, Int.tdiv_eq_ediv_of_nonneg, e1, R_lies_eq, c5, q]
                · simp (disch := omega) only [c_lt_p, c_eq_p, c_ne_p, c_ge_p, c_gt_p, c_le_p, rd_p, wa_p, wz_p, w8_p, fz_p, fw_p, tw_p, ck_p, ob_s, oc_s, if_pos, if_neg, am_upo, up_s, ne_eq, not_true_eq_false, not_false_eq_true, true_or, or_true, true_and, and_true, false_and, and_false, ck_t, reduceIte, Int.tmod_eq_emod_of_nonneg, Int.tdiv_eq_ediv_of_nonneg, e1, R_lies_eq, c5, q]
              · by_cases y5 : y = 5
                · rcases hfk with q | q
                  · simp (disch := omega) only [c_lt_p, c_eq_p, c_ne_p, c_ge_p, c_gt_p, c_le_p, rd_p, wa_p, wz_p, w8_p, fz_p, fw_p, tw_p, ck_p, ob_s, oc_s, if_pos, if_neg, am_upo, up_s, ne_eq, not_true_eq_false, not_false_eq_true, true_or, or_true, true_and, and_true, false_and, and_false, ck_t, reduceIte, Int.tmod_eq_emod_of_nonneg, Int.tdiv_eq_ediv_of_nonneg, e1, R_lies_eq, R_isFork_eq hW.2.1 hW.1 hR.2.1 hR.1 hc.1 hc.2, q]
                  · simp (disch := omega) only [c_lt_p, c_eq_p, c_ne_p, c_ge_p, c_gt_p, c_le_p, rd_p, wa_p, wz_p, w8_p, fz_p, fw_p, tw_p, ck_p, ob_s, oc_s, if_pos, if_neg, am_upo, up_s, ne_eq, not_true_eq_false, not_false_eq_true, true_or, or_true, true_and, and_true, false_and, and_false, ck_t, reduceIte, Int.tmod_eq_emod_of_nonneg, Int.tdiv_eq_ediv_of_nonneg, e1, R_lies_eq, R_isFork_eq hW.2.1 hW.1 hR.2.1 hR.1 hc.1 hc.2, q]
                · by_cases y6 : y = 6
                  · rcases (show blS t g x = 0 ∨ blS t g x = 1 by unfold blS; split; exact Or.inr rfl; exact Or.inl rfl) with q | q
                    · simp (disch := omega) only [c_lt_p, c_eq_p, c_ne_p, c_ge_p, c_gt_p, c_le_p, rd_p, wa_p, wz_p, w8_p, fz_p, fw_p, tw_p, ck_p, ob_s, oc_s, if_pos, if_neg, am_upo, up_s, ne_eq, not_true_eq_false, not_false_eq_true, true_or, or_true, true_and, and_true, false_and, and_false, ck_t, reduceIte, Int.tmod_eq_emod_of_nonneg, Int.tdiv_eq_ediv_of_nonneg, e1, R_lies_eq, R_isBlind_eq hW.2.1 hW.1 hR.2.1 hR.1 hc.1 hc.2, q]
                    · simp (disch := omega) only [c_lt_p, c_eq_p, c_ne_p, c_ge_p, c_gt_p, c_le_p, rd_p, wa_p, wz_p, w8_p, fz_p, fw_p, tw_p, ck_p, ob_s, oc_s, if_pos, if_neg, am_upo, up_s, ne_eq, not_true_eq_false, not_false_eq_true, true_or, or_true, true_and, and_true, false_and, and_false, ck_t, reduceIte, Int.tmod_eq_emod_of_nonneg, Int.tdiv_eq_ediv_of_nonneg, e1, R_lies_eq, R_isBlind_eq hW.2.1 hW.1 hR.2.1 hR.1 hc.1 hc.2, q]
                  · simp (disch := omega) only [c_lt_p, c_eq_p, c_ne_p, c_ge_p, c_gt_p, c_le_p, rd_p, wa_p, wz_p, w8_p, fz_p, fw_p, tw_p, ck_p, ob_s, oc_s, if_pos, if_neg, am_upo, up_s, ne_eq, not_true_eq_false, not_false_eq_true, true_or, or_true, true_and, and_true, false_and, and_false, ck_t, reduceIte, Int.tmod_eq_emod_of_nonneg, Int.tdiv_eq_ediv_of_nonneg, e1, R_lies_eq]
    refine ⟨_, ?_, hP, hRr⟩
    have hb : 0 ≤ blS t g x ∧ blS t g x ≤ 1 := by unfold blS; split <;> omega
    have hf : 0 ≤ fkS t g x ∧ fkS t g x ≤ 1 := by omega
    repeat' split
    all_goals omega
  · refine ⟨-1, by decide, fun M hC => ?_, fun M hR => ?_⟩
    · have e1 : M 26 10 = t 0 1 := hC.2.1.1.2.1
      unfold P_path P_path_15 P_path_138 P_path_121
      by_cases h2 : x < 0
      · simp (disch := omega) only [c_lt_p, c_eq_p, c_ne_p, c_ge_p, c_gt_p, c_le_p, rd_p, wa_p, wz_p, w8_p, fz_p, fw_p, tw_p, ck_p, ob_s, oc_s, if_pos, if_neg, am_upo, up_s, ne_eq, not_true_eq_false, not_false_eq_true, true_or, or_true, true_and, and_true, false_and, and_false, ck_t, reduceIte, Int.tmod_eq_emod_of_nonneg, Int.tdiv_eq_ediv_of_nonneg]
      · simp (disch := omega) only [c_lt_p, c_eq_p, c_ne_p, c_ge_p, c_gt_p, c_le_p, rd_p, wa_p, wz_p, w8_p, fz_p, fw_p, tw_p, ck_p, ob_s, oc_s, if_pos, if_neg, am_upo, up_s, ne_eq, not_true_eq_false, not_false_eq_true, true_or, or_true, true_and, and_true, false_and, and_false, ck_t, reduceIte, Int.tmod_eq_emod_of_nonneg, Int.tdiv_eq_ediv_of_nonneg, e1]
    · have e1 : M 73 46 = t 0 1 := hR.2.1.1.2.1
      unfold R_path R_path_102 R_path_116 R_path_130
      simp (disch := omega) only [c_lt_p, c_eq_p, c_ne_p, c_ge_p, c_gt_p, c_le_p, rd_p, wa_p, wz_p, w8_p, fz_p, fw_p, tw_p, ck_p, ob_s, oc_s, if_pos, if_neg, am_upo, up_s, ne_eq, not_true_eq_false, not_false_eq_true, true_or, or_true, true_and, and_true, false_and, and_false, ck_t, reduceIte, Int.tmod_eq_emod_of_nonneg, Int.tdiv_eq_ediv_of_nonneg, e1, R_lies_eq]
