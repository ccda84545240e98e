-- forks
def FW (t g : am_M) (p w : Int) : Prop := 0 ≤ nbS (ceS t p) w ∧ nbS (ceS t p) w ≠ ceS t (p - 1) ∧ nbS (ceS t p) w ≠ ceS t (p + 1) ∧ (onB t (nbS (ceS t p) w) = true ∨ g 2 (nbS (ceS t p) w).toNat = 0 ∨ 4 ≤ g 2 (nbS (ceS t p) w).toNat)
def FWb (t g : am_M) (p w : Int) : Bool := decide (0 ≤ nbS (ceS t p) w) && decide (nbS (ceS t p) w ≠ ceS t (p - 1)) && decide (nbS (ceS t p) w ≠ ceS t (p + 1)) && (onB t (nbS (ceS t p) w) || decide (g 2 (nbS (ceS t p) w).toNat = 0) || decide (4 ≤ g 2 (nbS (ceS t p) w).toNat))
theorem FWb_i {t g : am_M} {p w : Int} : FWb t g p w = true ↔ FW t g p w := by
  unfold FWb FW
  simp only [Bool.and_eq_true, Bool.or_eq_true, decide_eq_true_eq, and_assoc, or_assoc]
def frk (t g : am_M) (p : Int) : Nat → Int → Int
  | 0, _ => 0
  | k + 1, w => if FWb t g p w then 1 else frk t g p k (w + 1)
theorem frk_01 (t g : am_M) (p : Int) : ∀ (k : Nat) (w : Int), frk t g p k w = 0 ∨ frk t g p k w = 1
  | 0, _ => Or.inl rfl
  | k + 1, w => by
    unfold frk
    split
    · exact Or.inr rfl
    · exact frk_01 t g p k (w + 1)
/-- whether a place is a fork (1, 0) -/
def fkS (t g : am_M) (p : Int) : Int := if 0 < p then frk t g p 4 0 else 0
theorem fkS_01 (t g : am_M) (p : Int) : fkS t g p = 0 ∨ fkS t g p = 1 := by
  unfold fkS
  split
  · exact frk_01 t g p 4 0
  · exact Or.inl rfl
theorem nbS_b {c w : Int} (h0 : 0 ≤ c) (h1 : c < 144) : -1 ≤ nbS c w ∧ nbS c w < 144 := by
  unfold nbS
  repeat' split
  all_goals omega
theorem Trip_isFork_26_lp {t g M : am_M} (hw : WT t) (hg : WG g) (h : TP 26 t M) (hG : GP g M) {p : Int} (h0 : 0 < p) (h1 : p < t 0 1) : ∀ (k n : Nat) (w : Int), w + k = 4 → 0 ≤ w → k < n → Trip_isFork_26_4 n p 0 w M = some (frk t g p k w)
  | 0, n + 1, w, e, hw0, hn => by
    unfold Trip_isFork_26_4 Trip_isFork_26_90
    have h2 := hw.1
    simp (disch := omega) only [c_lt_p, c_eq_p, c_ne_p, c_ge_p, c_gt_p, c_le_p, rd_p, wa_p, wz_p, w8_p, fz_p, fw_p, tw_p, ck_p, ob_s, oc_s, if_pos, if_neg, am_upo, up_s, ne_eq, not_true_eq_false, not_false_eq_true, true_or, or_true, true_and, and_true, false_and, and_false, ck_t, reduceIte, Int.tmod_eq_emod_of_nonneg, Int.tdiv_eq_ediv_of_nonneg]
    rfl
  | k + 1, n + 1, w, e, hw0, hn => by
    have ih := Trip_isFork_26_lp hw hg h hG h0 h1 k n (w + 1) (by omega) (by omega) (by omega)
    have h2 := hw.1
    have ha := hw.at (p := p) (by omega) h1
    have hce : ceS t p = t 2 p.toNat := by unfold ceS; rw [if_pos ⟨by omega, h1⟩]
    have hk := KI.of hg hG
    have hnb := nbS_b (c := ceS t p) (w := w) (by omega) (by omega)
    have hm1 : -1 ≤ ceS t (p - 1) ∧ ceS t (p - 1) < 144 := by
      unfold ceS
      split
      · rename_i hq
        have := hw.at hq.1 hq.2
        omega
      · omega
    have hp1 : -1 ≤ ceS t (p + 1) ∧ ceS t (p + 1) < 144 := by
      unfold ceS
      split
      · rename_i hq
        have := hw.at hq.1 hq.2
        omega
      · omega
    have hone : Trip_isFork_26_4 n p 1 (w + 1) M = some 1 := by
      obtain ⟨n', rfl⟩ : ∃ n', n = n' + 1 := ⟨n - 1, by omega⟩
      unfold Trip_isFork_26_4 Trip_isFork_26_90
      by_cases q : 4 ≤ w + 1
      · simp (disch := omega) only [c_lt_p, c_eq_p, c_ne_p, c_ge_p, c_gt_p, c_le_p, rd_p, wa_p, wz_p, w8_p, fz_p, fw_p, tw_p, ck_p, ob_s, oc_s, if_pos, if_neg, am_upo, up_s, ne_eq, not_true_eq_false, not_false_eq_true, true_or, or_true, true_and, and_true, false_and, and_false, ck_t, reduceIte, Int.tmod_eq_emod_of_nonneg, Int.tdiv_eq_ediv_of_nonneg]
      · simp (disch := omega) only [c_lt_p, c_eq_p, c_ne_p, c_ge_p, c_gt_p, c_le_p, rd_p, wa_p, wz_p, w8_p, fz_p, fw_p, tw_p, ck_p, ob_s, oc_s, if_pos, if_neg, am_upo, up_s, ne_eq, not_true_eq_false, not_false_eq_true, true_or, or_true, true_and, and_true, false_and, and_false, ck_t, reduceIte, Int.tmod_eq_emod_of_nonneg, Int.tdiv_eq_ediv_of_nonneg]
    unfold Trip_isFork_26_4 Trip_isFork_26_90 Trip_isFork_26_82 Trip_isFork_26_78 Trip_isFork_26_83
    unfold frk
    by_cases c1 : 0 ≤ nbS (ceS t p) w
    · by_cases c2 : nbS (ceS t p) w = ceS t (p - 1)
      · have hF : FWb t g p w = false := by
          rw [← Bool.not_eq_true, FWb_i]; exact fun q => q.2.1 c2
        simp (disch := omega) only [c_lt_p, c_eq_p, c_ne_p, c_ge_p, c_gt_p, c_le_p, rd_p, wa_p, wz_p, w8_p, fz_p, fw_p, tw_p, ck_p, ob_s, oc_s, if_pos, if_neg, am_upo, up_s, ne_eq, not_true_eq_false, not_false_eq_true, true_or, or_true, true_and, and_true, false_and, and_false, ck_t, reduceIte, Int.tmod_eq_emod_of_nonneg, Int.tdiv_eq_ediv_of_nonneg, Trip_cellAt_26_eq hw h, Country_neighbour_eq, hF, ih]
        simp
      · by_cases c3 : nbS (ceS t p) w = ceS t (p + 1)
        · have hF : FWb t g p w = false := by
            rw [← Bool.not_eq_true, FWb_i]; exact fun q => q.2.2.1 c3
          simp (disch := omega) only [c_lt_p, c_eq_p, c_ne_p, c_ge_p, c_gt_p, c_le_p, rd_p, wa_p, wz_p, w8_p, fz_p, fw_p, tw_p, ck_p, ob_s, oc_s, if_pos, if_neg, am_upo, up_s, ne_eq, not_true_eq_false, not_false_eq_true, true_or, or_true, true_and, and_true, false_and, and_false, ck_t, reduceIte, Int.tmod_eq_emod_of_nonneg, Int.tdiv_eq_ediv_of_nonneg, Trip_cellAt_26_eq hw h, Country_neighbour_eq, hF, ih]
          simp
        · have hkk : M 2 (nbS (ceS t p) w).toNat = g 2 (nbS (ceS t p) w).toNat := hG.2.2.1 _ (by omega)
          cases c4 : onB t (nbS (ceS t p) w) with
          | true =>
            have hF : FWb t g p w = true := FWb_i.mpr ⟨c1, c2, c3, Or.inl c4⟩
            simp (disch := omega) only [c_lt_p, c_eq_p, c_ne_p, c_ge_p, c_gt_p, c_le_p, rd_p, wa_p, wz_p, w8_p, fz_p, fw_p, tw_p, ck_p, ob_s, oc_s, if_pos, if_neg, am_upo, up_s, ne_eq, not_true_eq_false, not_false_eq_true, true_or, or_true, true_and, and_true, false_and, and_false, ck_t, reduceIte, Int.tmod_eq_emod_of_nonneg, Int.tdiv_eq_ediv_of_nonneg, Trip_cellAt_26_eq hw h, Country_neighbour_eq, Trip_isOnPath_26_eq h, c4, hone, hF]
          | false =>
            by_cases c5 : g 2 (nbS (ceS t p) w).toNat = 0 ∨ 4 ≤ g 2 (nbS (ceS t p) w).toNat
            · have hF : FWb t g p w = true := FWb_i.mpr ⟨c1, c2, c3, Or.inr c5⟩
              have hlk : Country_looksLikeWay_1 (nbS (ceS t p) w) M = some 1 := by
                rw [Country_looksLikeWay_eq c1 hnb.2 hk, hkk, if_pos c5]
              simp (disch := omega) only [c_lt_p, c_eq_p, c_ne_p, c_ge_p, c_gt_p, c_le_p, rd_p, wa_p, wz_p, w8_p, fz_p, fw_p, tw_p, ck_p, ob_s, oc_s, if_pos, if_neg, am_upo, up_s, ne_eq, not_true_eq_false, not_false_eq_true, true_or, or_true, true_and, and_true, false_and, and_false, ck_t, reduceIte, Int.tmod_eq_emod_of_nonneg, Int.tdiv_eq_ediv_of_nonneg, Trip_cellAt_26_eq hw h, Country_neighbour_eq, Trip_isOnPath_26_eq h, c4, hlk, hone, hF, Bool.false_eq_true]
            · have hF : FWb t g p w = false := by
                rw [← Bool.not_eq_true, FWb_i]
                intro q
                rcases q.2.2.2 with q | q
                · rw [c4] at q; cases q
                · exact c5 q
              have hlk : Country_looksLikeWay_1 (nbS (ceS t p) w) M = some 0 := by
                rw [Country_looksLikeWay_eq c1 hnb.2 hk, hkk, if_neg c5]
              simp (disch := omega) only [c_lt_p, c_eq_p, c_ne_p, c_ge_p, c_gt_p, c_le_p, rd_p, wa_p, wz_p, w8_p, fz_p, fw_p, tw_p, ck_p, ob_s, oc_s, if_pos, if_neg, am_upo, up_s, ne_eq, not_true_eq_false, not_false_eq_true, true_or, or_true, true_and, and_true, false_and, and_false, ck_t, reduceIte, Int.tmod_eq_emod_of_nonneg, Int.tdiv_eq_ediv_of_nonneg, Trip_cellAt_26_eq hw h, Country_neighbour_eq, Trip_isOnPath_26_eq h, c4, hlk, hF, ih, Bool.false_eq_true]
    · have hF : FWb t g p w = false := by
        rw [← Bool.not_eq_true, FWb_i]; exact fun q => c1 q.1
      simp (disch := omega) only [c_lt_p, c_eq_p, c_ne_p, c_ge_p, c_gt_p, c_le_p, rd_p, wa_p, wz_p, w8_p, fz_p, fw_p, tw_p, ck_p, ob_s, oc_s, if_pos, if_neg, am_upo, up_s, ne_eq, not_true_eq_false, not_false_eq_true, true_or, or_true, true_and, and_true, false_and, and_false, ck_t, reduceIte, Int.tmod_eq_emod_of_nonneg, Int.tdiv_eq_ediv_of_nonneg, Trip_cellAt_26_eq hw h, Country_neighbour_eq, hF, ih]
      simp
theorem Trip_isFork_26_eq {t g M : am_M} (hw : WT t) (hg : WG g) (h : TP 26 t M) (hG : GP g M) {p : Int} (h0 : 0 ≤ p) (h1 : p < t 0 1) : Trip_isFork_26 p M = some (fkS t g p) := by
  unfold Trip_isFork_26 fkS
  have h2 := hw.1
  by_cases hp : 0 < p
  · rw [if_pos hp]
    exact Trip_isFork_26_lp hw hg h hG hp h1 4 am_big 0 (by omega) (by omega) (by decide)
  · rw [if_neg hp]
    show Trip_isFork_26_4 (999999 + 1) p 0 0 M = some 0
    unfold Trip_isFork_26_4 Trip_isFork_26_90
    simp (disch := omega) only [c_lt_p, c_eq_p, c_ne_p, c_ge_p, c_gt_p, c_le_p, rd_p, wa_p, wz_p, w8_p, fz_p, fw_p, tw_p, ck_p, ob_s, oc_s, if_pos, if_neg, am_upo, up_s, ne_eq, not_true_eq_false, not_false_eq_true, true_or, or_true, true_and, and_true, false_and, and_false, ck_t, reduceIte, Int.tmod_eq_emod_of_nonneg, Int.tdiv_eq_ediv_of_nonneg]
