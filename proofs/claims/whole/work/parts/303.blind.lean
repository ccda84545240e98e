theorem b_and_2 {x : Int} (h0 : 0 ≤ x) (h1 : x ≤ 3) : b_and x 2 = if 2 ≤ x then 2 else 0 := by
  rcases (show x = 0 ∨ x = 1 ∨ x = 2 ∨ x = 3 by omega) with rfl | rfl | rfl | rfl <;> decide +kernel
theorem b_and_1 {x : Int} (h0 : 0 ≤ x) (h1 : x ≤ 3) : b_and x 1 = x % 2 := by
  rcases (show x = 0 ∨ x = 1 ∨ x = 2 ∨ x = 3 by omega) with rfl | rfl | rfl | rfl <;> decide +kernel
theorem b_or_1 {x : Int} (h0 : 0 ≤ x) (h1 : x ≤ 3) : b_or x 1 = if x % 2 = 1 then x else x + 1 := by
  rcases (show x = 0 ∨ x = 1 ∨ x = 2 ∨ x = 3 by omega) with rfl | rfl | rfl | rfl <;> decide +kernel
theorem b_or_2 {x : Int} (h0 : 0 ≤ x) (h1 : x ≤ 3) : b_or x 2 = if 2 ≤ x then x else x + 2 := by
  rcases (show x = 0 ∨ x = 1 ∨ x = 2 ∨ x = 3 by omega) with rfl | rfl | rfl | rfl <;> decide +kernel
theorem mkS_b {t : am_M} (hw : WT t) (p : Int) : 0 ≤ mkS t p ∧ mkS t p ≤ 3 := by
  unfold mkS
  split
  · rename_i h
    have := hw.at h.1 h.2
    omega
  · omega
theorem skS_b {t : am_M} (hw : WT t) (p : Int) : 0 ≤ skS t p ∧ skS t p ≤ 1 := by
  unfold skS
  split
  · rename_i h
    have := hw.at h.1 h.2
    omega
  · omega
theorem grS_b {t : am_M} (hw : WT t) (p : Int) : 0 ≤ grS t p ∧ grS t p ≤ 99 := by
  unfold grS
  split
  · rename_i h
    have := hw.at h.1 h.2
    omega
  · omega
theorem wiS_b {t : am_M} (hw : WT t) (p : Int) : 0 ≤ wiS t p ∧ wiS t p ≤ 4 := by
  unfold wiS
  split
  · rename_i h
    have := hw.at h.1 h.2
    omega
  · omega
/-- whether a place is a blind fork (1, 0) -/
def blS (t g : am_M) (p : Int) : Int := if fkS t g p = 1 ∧ skS t p = 0 ∧ mkS t (p - 1) < 2 then 1 else 0
theorem Trip_isBlind_26_eq {t g M : am_M} (hw : WT t) (hg : WG g) (h : TP 26 t M) (hG : GP g M) {p : Int} (h0 : 0 ≤ p) (h1 : p < t 0 1) : Trip_isBlind_26 p M = some (blS t g p) := by
  unfold Trip_isBlind_26 Trip_isBlind_26_32 Trip_isBlind_26_33
  unfold blS
  have h2 := hw.1
  have h3 := mkS_b hw (p - 1)
  have h4 := skS_b hw p
  rcases fkS_01 t g p with h5 | h5
  · simp (disch := omega) only [c_lt_p, c_eq_p, c_ne_p, c_ge_p, c_gt_p, c_le_p, rd_p, wa_p, wz_p, w8_p, fz_p, fw_p, tw_p, ck_p, ob_s, oc_s, if_pos, if_neg, am_upo, up_s, ne_eq, not_true_eq_false, not_false_eq_true, true_or, or_true, true_and, and_true, false_and, and_false, ck_t, reduceIte, Int.tmod_eq_emod_of_nonneg, Int.tdiv_eq_ediv_of_nonneg, Trip_isFork_26_eq hw hg h hG h0 h1, h5]
  · by_cases h6 : skS t p = 0
    · by_cases h7 : mkS t (p - 1) < 2
      · simp (disch := omega) only [c_lt_p, c_eq_p, c_ne_p, c_ge_p, c_gt_p, c_le_p, rd_p, wa_p, wz_p, w8_p, fz_p, fw_p, tw_p, ck_p, ob_s, oc_s, if_pos, if_neg, am_upo, up_s, ne_eq, not_true_eq_false, not_false_eq_true, true_or, or_true, true_and, and_true, false_and, and_false, ck_t, reduceIte, Int.tmod_eq_emod_of_nonneg, Int.tdiv_eq_ediv_of_nonneg, Trip_isFork_26_eq hw hg h hG h0 h1, h5, Trip_sticksAt_26_eq hw h, Trip_marksAt_26_eq hw h, b_and_2]
      · simp (disch := omega) only [c_lt_p, c_eq_p, c_ne_p, c_ge_p, c_gt_p, c_le_p, rd_p, wa_p, wz_p, w8_p, fz_p, fw_p, tw_p, ck_p, ob_s, oc_s, if_pos, if_neg, am_upo, up_s, ne_eq, not_true_eq_false, not_false_eq_true, true_or, or_true, true_and, and_true, false_and, and_false, ck_t, reduceIte, Int.tmod_eq_emod_of_nonneg, Int.tdiv_eq_ediv_of_nonneg, Trip_isFork_26_eq hw hg h hG h0 h1, h5, Trip_sticksAt_26_eq hw h, Trip_marksAt_26_eq hw h, b_and_2]
    · simp (disch := omega) only [c_lt_p, c_eq_p, c_ne_p, c_ge_p, c_gt_p, c_le_p, rd_p, wa_p, wz_p, w8_p, fz_p, fw_p, tw_p, ck_p, ob_s, oc_s, if_pos, if_neg, am_upo, up_s, ne_eq, not_true_eq_false, not_false_eq_true, true_or, or_true, true_and, and_true, false_and, and_false, ck_t, reduceIte, Int.tmod_eq_emod_of_nonneg, Int.tdiv_eq_ediv_of_nonneg, Trip_isFork_26_eq hw hg h hG h0 h1, h5, Trip_sticksAt_26_eq hw h]
-- the reference
theorem R_looksLikeWay_eq {k : Int} {M : am_M} (h0 : 0 ≤ k) (h1 : k ≤ 6) : R_looksLikeWay k M = some (if k = 0 ∨ 4 ≤ k then 1 else 0) := by
  unfold R_looksLikeWay R_looksLikeWay_20 R_looksLikeWay_25
  rcases (show k = 0 ∨ k = 1 ∨ k = 2 ∨ k = 3 ∨ k = 4 ∨ k = 5 ∨ k = 6 by omega) with q | q | q | q | q | q | q
  · simp (disch := omega) only [c_lt_p, c_eq_p, c_ne_p, c_ge_p, c_gt_p, c_le_p, rd_p, wa_p, wz_p, w8_p, fz_p, fw_p, tw_p, ck_p, ob_s, oc_s, if_pos, if_neg, am_upo, up_s, ne_eq, not_true_eq_false, not_false_eq_true, true_or, or_true, true_and, and_true, false_and, and_false, ck_t, reduceIte, Int.tmod_eq_emod_of_nonneg, Int.tdiv_eq_ediv_of_nonneg]
  · simp (disch := omega) only [c_lt_p, c_eq_p, c_ne_p, c_ge_p, c_gt_p, c_le_p, rd_p, wa_p, wz_p, w8_p, fz_p, fw_p, tw_p, ck_p, ob_s, oc_s, if_pos, if_neg, am_upo, up_s, ne_eq, not_true_eq_false, not_false_eq_true, true_or, or_true, true_and, and_true, false_and, and_false, ck_t, reduceIte, Int.tmod_eq_emod_of_nonneg, Int.tdiv_eq_ediv_of_nonneg]
  · simp (disch := omega) only [c_lt_p, c_eq_p, c_ne_p, c_ge_p, c_gt_p, c_le_p, rd_p, wa_p, wz_p, w8_p, fz_p, fw_p, tw_p, ck_p, ob_s, oc_s, if_pos, if_neg, am_upo, up_s, ne_eq, not_true_eq_false, not_false_eq_true, true_or, or_true, true_and, and_true, false_and, and_false, ck_t, reduceIte, Int.tmod_eq_emod_of_nonneg, Int.tdiv_eq_ediv_of_nonneg]
  · simp (disch := omega) only [c_lt_p, c_eq_p, c_ne_p, c_ge_p, c_gt_p, c_le_p, rd_p, wa_p, wz_p, w8_p, fz_p, fw_p, tw_p, ck_p, ob_s, oc_s, if_pos, if_neg, am_upo, up_s, ne_eq, not_true_eq_false, not_false_eq_true, true_or, or_true, true_and, and_true, false_and, and_false, ck_t, reduceIte, Int.tmod_eq_emod_of_nonneg, Int.tdiv_eq_ediv_of_nonneg]
  · simp (disch := omega) only [c_lt_p, c_eq_p, c_ne_p, c_ge_p, c_gt_p, c_le_p, rd_p, wa_p, wz_p, w8_p, fz_p, fw_p, tw_p, ck_p, ob_s, oc_s, if_pos, if_neg, am_upo, up_s, ne_eq, not_true_eq_false, not_false_eq_true, true_or, or_true, true_and, and_true, false_and, and_false, ck_t, reduceIte, Int.tmod_eq_emod_of_nonneg, Int.tdiv_eq_ediv_of_nonneg]
  · simp (disch := omega) only [c_lt_p, c_eq_p, c_ne_p, c_ge_p, c_gt_p, c_le_p, rd_p, wa_p, wz_p, w8_p, fz_p, fw_p, tw_p, ck_p, ob_s, oc_s, if_pos, if_neg, am_upo, up_s, ne_eq, not_true_eq_false, not_false_eq_true, true_or, or_true, true_and, and_true, false_and, and_false, ck_t, reduceIte, Int.tmod_eq_emod_of_nonneg, Int.tdiv_eq_ediv_of_nonneg]
  · simp (disch := omega) only [c_lt_p, c_eq_p, c_ne_p, c_ge_p, c_gt_p, c_le_p, rd_p, wa_p, wz_p, w8_p, fz_p, fw_p, tw_p, ck_p, ob_s, oc_s, if_pos, if_neg, am_upo, up_s, ne_eq, not_true_eq_false, not_false_eq_true, true_or, or_true, true_and, and_true, false_and, and_false, ck_t, reduceIte, Int.tmod_eq_emod_of_nonneg, Int.tdiv_eq_ediv_of_nonneg]
theorem R_isFork_lp {t g M : am_M} (hw : WT t) (hg : WG g) (h : TR t M) (hG : GR g M) {p : Int} (h0 : 0 < p) (h1 : p < t 0 1) : ∀ (k n : Nat) (w : Int), w + k = 4 → 0 ≤ w → k < n → R_isFork_2 n p w M = some (frk t g p k w)
  | 0, n + 1, w, e, hw0, hn => by
    unfold R_isFork_2 R_isFork_95
    have h2 := hw.1
    simp (disch := omega) only [c_lt_p, c_eq_p, c_ne_p, c_ge_p, c_gt_p, c_le_p, rd_p, wa_p, wz_p, w8_p, fz_p, fw_p, tw_p, ck_p, ob_s, oc_s, if_pos, if_neg, am_upo, up_s, ne_eq, not_true_eq_false, not_false_eq_true, true_or, or_true, true_and, and_true, false_and, and_false, ck_t, reduceIte, Int.tmod_eq_emod_of_nonneg, Int.tdiv_eq_ediv_of_nonneg]
    rfl
  | k + 1, n + 1, w, e, hw0, hn => by
    have ih := R_isFork_lp hw hg h hG h0 h1 k n (w + 1) (by omega) (by omega) (by omega)
    have h2 := hw.1
    have ha := hw.at (p := p) (by omega) h1
    have hce : ceS t p = t 2 p.toNat := by unfold ceS; rw [if_pos ⟨by omega, h1⟩]
    have hcm : ceS t (p - 1) = t 2 (p - 1).toNat := by unfold ceS; rw [if_pos ⟨by omega, by omega⟩]
    have ham := hw.at (p := p - 1) (by omega) (by omega)
    have r1 : M 95 p.toNat = ceS t p := by rw [hce]; exact (h.2.1 p.toNat (by omega)).1
    have r2 : M 95 (p - 1).toNat = ceS t (p - 1) := by rw [hcm]; exact (h.2.1 (p - 1).toNat (by omega)).1
    have r3 : M 73 46 = t 0 1 := h.1.2.1
    have hnb := nbS_b (c := ceS t p) (w := w) (by omega) (by omega)
    unfold R_isFork_2 R_isFork_64 R_isFork_89 R_isFork_95 R_isFork_87
    unfold frk
    by_cases c1 : nbS (ceS t p) w = -1
    · have hF : FWb t g p w = false := by
        rw [← Bool.not_eq_true, FWb_i]; intro q; have := q.1; omega
      simp (disch := omega) only [c_lt_p, c_eq_p, c_ne_p, c_ge_p, c_gt_p, c_le_p, rd_p, wa_p, wz_p, w8_p, fz_p, fw_p, tw_p, ck_p, ob_s, oc_s, if_pos, if_neg, am_upo, up_s, ne_eq, not_true_eq_false, not_false_eq_true, true_or, or_true, true_and, and_true, false_and, and_false, ck_t, reduceIte, Int.tmod_eq_emod_of_nonneg, Int.tdiv_eq_ediv_of_nonneg, r1, R_beside_eq, hF, ih, Bool.false_eq_true]
    · have c1' : 0 ≤ nbS (ceS t p) w := by omega
      by_cases c2 : nbS (ceS t p) w = ceS t (p - 1)
      · have hF : FWb t g p w = false := by
          rw [← Bool.not_eq_true, FWb_i]; exact fun q => q.2.1 c2
        simp (disch := omega) only [c_lt_p, c_eq_p, c_ne_p, c_ge_p, c_gt_p, c_le_p, rd_p, wa_p, wz_p, w8_p, fz_p, fw_p, tw_p, ck_p, ob_s, oc_s, if_pos, if_neg, am_upo, up_s, ne_eq, not_true_eq_false, not_false_eq_true, true_or, or_true, true_and, and_true, false_and, and_false, ck_t, reduceIte, Int.tmod_eq_emod_of_nonneg, Int.tdiv_eq_ediv_of_nonneg, r1, r2, R_beside_eq, hF, ih, Bool.false_eq_true]
      · by_cases c3 : nbS (ceS t p) w = ceS t (p + 1)
        · have hF : FWb t g p w = false := by
            rw [← Bool.not_eq_true, FWb_i]; exact fun q => q.2.2.1 c3
          have c6 : p + 1 < t 0 1 := by
            rcases Int.lt_or_le (p + 1) (t 0 1) with q | q
            · exact q
            · have hq : ceS t (p + 1) = -1 := by unfold ceS; exact if_neg (fun z => by omega)
              omega
          have hcp : ceS t (p + 1) = t 2 (p + 1).toNat := by unfold ceS; rw [if_pos ⟨by omega, by omega⟩]
          have r4 : M 95 (p + 1).toNat = ceS t (p + 1) := by rw [hcp]; exact (h.2.1 (p + 1).toNat (by omega)).1
          have hap := hw.at (p := p + 1) (by omega) (by omega)
          simp (disch := omega) only [c_lt_p, c_eq_p, c_ne_p, c_ge_p, c_gt_p, c_le_p, rd_p, wa_p, wz_p, w8_p, fz_p, fw_p, tw_p, ck_p, ob_s, oc_s, if_pos, if_neg, am_upo, up_s, ne_eq, not_true_eq_false, not_false_eq_true, true_or, or_true, true_and, and_true, false_and, and_false, ck_t, reduceIte, Int.tmod_eq_emod_of_nonneg, Int.tdiv_eq_ediv_of_nonneg, r1, r2, r3, r4, R_beside_eq, hF, ih, Bool.false_eq_true]
        · have hkk : M 75 (nbS (ceS t p) w).toNat = g 2 (nbS (ceS t p) w).toNat := hG.2.2.1 _ (by omega)
          have hkb := hg.2.2.1 (nbS (ceS t p) w).toNat (by omega)
          have hpo := h.2.2.2 (nbS (ceS t p) w).toNat (by omega)
          rw [show (((nbS (ceS t p) w).toNat : Nat) : Int) = nbS (ceS t p) w by omega] at hpo
          have fin : (rd M 100 144 (nbS (ceS t p) w) fun v1 => c_ne v1 (-1) (some 1) (rd M 75 144 (nbS (ceS t p) w) fun v2 => ob (R_looksLikeWay v2 M) fun v3 => c_eq v3 0 (R_isFork_2 n p (w + 1) M) (some 1))) = some (if FWb t g p w = true then 1 else frk t g p k (w + 1)) := by
            rcases hpo with ⟨q1, q2⟩ | ⟨q1, q2, q3⟩
            · by_cases c5 : g 2 (nbS (ceS t p) w).toNat = 0 ∨ 4 ≤ g 2 (nbS (ceS t p) w).toNat
              · have hF : FWb t g p w = true := FWb_i.mpr ⟨c1', c2, c3, Or.inr c5⟩
                simp (disch := omega) only [c_lt_p, c_eq_p, c_ne_p, c_ge_p, c_gt_p, c_le_p, rd_p, wa_p, wz_p, w8_p, fz_p, fw_p, tw_p, ck_p, ob_s, oc_s, if_pos, if_neg, am_upo, up_s, ne_eq, not_true_eq_false, not_false_eq_true, true_or, or_true, true_and, and_true, false_and, and_false, ck_t, reduceIte, Int.tmod_eq_emod_of_nonneg, Int.tdiv_eq_ediv_of_nonneg, q1, hkk, R_looksLikeWay_eq, c5, hF]
              · have hF : FWb t g p w = false := by
                  rw [← Bool.not_eq_true, FWb_i]
                  intro q
                  rcases q.2.2.2 with q | q
                  · rw [q2] at q; cases q
                  · exact c5 q
                simp (disch := omega) only [c_lt_p, c_eq_p, c_ne_p, c_ge_p, c_gt_p, c_le_p, rd_p, wa_p, wz_p, w8_p, fz_p, fw_p, tw_p, ck_p, ob_s, oc_s, if_pos, if_neg, am_upo, up_s, ne_eq, not_true_eq_false, not_false_eq_true, true_or, or_true, true_and, and_true, false_and, and_false, ck_t, reduceIte, Int.tmod_eq_emod_of_nonneg, Int.tdiv_eq_ediv_of_nonneg, q1, hkk, R_looksLikeWay_eq, c5, hF, ih, Bool.false_eq_true]
            · have hF : FWb t g p w = true := FWb_i.mpr ⟨c1', c2, c3, Or.inl (onB_i.mpr ⟨_, by omega, q3⟩)⟩
              simp (disch := omega) only [c_lt_p, c_eq_p, c_ne_p, c_ge_p, c_gt_p, c_le_p, rd_p, wa_p, wz_p, w8_p, fz_p, fw_p, tw_p, ck_p, ob_s, oc_s, if_pos, if_neg, am_upo, up_s, ne_eq, not_true_eq_false, not_false_eq_true, true_or, or_true, true_and, and_true, false_and, and_false, ck_t, reduceIte, Int.tmod_eq_emod_of_nonneg, Int.tdiv_eq_ediv_of_nonneg, hF]
          by_cases c6 : p + 1 < t 0 1
          · have hcp : ceS t (p + 1) = t 2 (p + 1).toNat := by unfold ceS; rw [if_pos ⟨by omega, by omega⟩]
            have r4 : M 95 (p + 1).toNat = ceS t (p + 1) := by rw [hcp]; exact (h.2.1 (p + 1).toNat (by omega)).1
            have hap := hw.at (p := p + 1) (by omega) (by omega)
            rw [← fin]
            simp (disch := omega) only [c_lt_p, c_eq_p, c_ne_p, c_ge_p, c_gt_p, c_le_p, rd_p, wa_p, wz_p, w8_p, fz_p, fw_p, tw_p, ck_p, ob_s, oc_s, if_pos, if_neg, am_upo, up_s, ne_eq, not_true_eq_false, not_false_eq_true, true_or, or_true, true_and, and_true, false_and, and_false, ck_t, reduceIte, Int.tmod_eq_emod_of_nonneg, Int.tdiv_eq_ediv_of_nonneg, r1, r2, r3, r4, R_beside_eq]
          · rw [← fin]
            simp (disch := omega) only [c_lt_p, c_eq_p, c_ne_p, c_ge_p, c_gt_p, c_le_p, rd_p, wa_p, wz_p, w8_p, fz_p, fw_p, tw_p, ck_p, ob_s, oc_s, if_pos, if_neg, am_upo, up_s, ne_eq, not_true_eq_false, not_false_eq_true, true_or, or_true, true_and, and_true, false_and, and_false, ck_t, reduceIte, Int.tmod_eq_emod_of_nonneg, Int.tdiv_eq_ediv_of_nonneg, r1, r2, r3, R_beside_eq]
theorem R_isFork_eq {t g M : am_M} (hw : WT t) (hg : WG g) (h : TR t M) (hG : GR g M) {p : Int} (h0 : 0 ≤ p) (h1 : p < t 0 1) : R_isFork p M = some (fkS t g p) := by
  unfold R_isFork fkS
  have h2 := hw.1
  by_cases hp : 0 < p
  · rw [if_pos hp]
    exact R_isFork_lp hw hg h hG hp h1 4 am_big 0 (by omega) (by omega) (by decide)
  · rw [if_neg hp]
    show R_isFork_2 (999999 + 1) p 0 M = some 0
    unfold R_isFork_2 R_isFork_95
    simp (disch := omega) only [c_lt_p, c_eq_p, c_ne_p, c_ge_p, c_gt_p, c_le_p, rd_p, wa_p, wz_p, w8_p, fz_p, fw_p, tw_p, ck_p, ob_s, oc_s, if_pos, if_neg, am_upo, up_s, ne_eq, not_true_eq_false, not_false_eq_true, true_or, or_true, true_and, and_true, false_and, and_false, ck_t, reduceIte, Int.tmod_eq_emod_of_nonneg, Int.tdiv_eq_ediv_of_nonneg]
theorem R_isBlind_eq {t g M : am_M} (hw : WT t) (hg : WG g) (h : TR t M) (hG : GR g M) {p : Int} (h0 : 0 ≤ p) (h1 : p < t 0 1) : R_isBlind p M = some (blS t g p) := by
  unfold R_isBlind R_isBlind_34 R_isBlind_35
  unfold blS
  have h2 := hw.1
  have h3 := mkS_b hw (p - 1)
  have h4 := skS_b hw p
  have hsk : skS t p = t 6 p.toNat := by unfold skS; rw [if_pos ⟨h0, h1⟩]
  have r1 : M 99 p.toNat = skS t p := by rw [hsk]; exact (h.2.1 p.toNat (by omega)).2.2.2.2
  rcases fkS_01 t g p with h5 | h5
  · simp (disch := omega) only [c_lt_p, c_eq_p, c_ne_p, c_ge_p, c_gt_p, c_le_p, rd_p, wa_p, wz_p, w8_p, fz_p, fw_p, tw_p, ck_p, ob_s, oc_s, if_pos, if_neg, am_upo, up_s, ne_eq, not_true_eq_false, not_false_eq_true, true_or, or_true, true_and, and_true, false_and, and_false, ck_t, reduceIte, Int.tmod_eq_emod_of_nonneg, Int.tdiv_eq_ediv_of_nonneg, R_isFork_eq hw hg h hG h0 h1, h5]
  · have hp0 : 0 < p := by
      rcases Int.lt_or_le 0 p with q | q
      · exact q
      · unfold fkS at h5
        rw [if_neg (by omega)] at h5
        cases h5
    have hmk : mkS t (p - 1) = t 5 (p - 1).toNat := by unfold mkS; rw [if_pos ⟨by omega, by omega⟩]
    have r2 : M 98 (p - 1).toNat = mkS t (p - 1) := by rw [hmk]; exact (h.2.1 (p - 1).toNat (by omega)).2.2.2.1
    by_cases h6 : skS t p = 0
    · by_cases h7 : mkS t (p - 1) < 2
      · simp (disch := omega) only [c_lt_p, c_eq_p, c_ne_p, c_ge_p, c_gt_p, c_le_p, rd_p, wa_p, wz_p, w8_p, fz_p, fw_p, tw_p, ck_p, ob_s, oc_s, if_pos, if_neg, am_upo, up_s, ne_eq, not_true_eq_false, not_false_eq_true, true_or, or_true, true_and, and_true, false_and, and_false, ck_t, reduceIte, Int.tmod_eq_emod_of_nonneg, Int.tdiv_eq_ediv_of_nonneg, R_isFork_eq hw hg h hG h0 h1, h5, r1, r2, b_and_2]
      · simp (disch := omega) only [c_lt_p, c_eq_p, c_ne_p, c_ge_p, c_gt_p, c_le_p, rd_p, wa_p, wz_p, w8_p, fz_p, fw_p, tw_p, ck_p, ob_s, oc_s, if_pos, if_neg, am_upo, up_s, ne_eq, not_true_eq_false, not_false_eq_true, true_or, or_true, true_and, and_true, false_and, and_false, ck_t, reduceIte, Int.tmod_eq_emod_of_nonneg, Int.tdiv_eq_ediv_of_nonneg, R_isFork_eq hw hg h hG h0 h1, h5, r1, r2, b_and_2]
    · simp (disch := omega) only [c_lt_p, c_eq_p, c_ne_p, c_ge_p, c_gt_p, c_le_p, rd_p, wa_p, wz_p, w8_p, fz_p, fw_p, tw_p, ck_p, ob_s, oc_s, if_pos, if_neg, am_upo, up_s, ne_eq, not_true_eq_false, not_false_eq_true, true_or, or_true, true_and, and_true, false_and, and_false, ck_t, reduceIte, Int.tmod_eq_emod_of_nonneg, Int.tdiv_eq_ediv_of_nonneg, R_isFork_eq hw hg h hG h0 h1, h5, r1]
