/-- a new path: a cell alone -/
def begS (t g : am_M) (c : Int) : am_M := am_up (am_up (am_up (am_up (am_up (am_up (am_up t 0 1 1) 0 2 0) 2 0 c) 3 0 (g 0 1)) 4 0 0) 5 0 0) 6 0 0
theorem begS_on {t g : am_M} {c x : Int} : onB (begS t g c) x = true ↔ c = x := by
  rw [onB_i]
  unfold begS
  simp (disch := omega) only [c_lt_p, c_eq_p, c_ne_p, c_ge_p, c_gt_p, c_le_p, rd_p, wa_p, wz_p, w8_p, fz_p, fw_p, tw_p, ck_p, ob_s, oc_s, if_pos, if_neg, am_upo, up_s, ne_eq, not_true_eq_false, not_false_eq_true, true_or, or_true, true_and, and_true, false_and, and_false, ck_t, reduceIte, Int.tmod_eq_emod_of_nonneg, Int.tdiv_eq_ediv_of_nonneg]
  constructor
  · rintro ⟨p, h1, h2⟩
    have : p = 0 := by omega
    subst this
    simpa using h2
  · rintro rfl
    exact ⟨0, by omega, by simp⟩
theorem begS_W {t g : am_M} {c : Int} (hg : WG g) (h : WT t) (h0 : 0 ≤ c) (h1 : c < 144) : WT (begS t g c) := by
  have hl := h.1
  have hg1 := hg.1
  unfold WT begS
  simp (disch := omega) only [c_lt_p, c_eq_p, c_ne_p, c_ge_p, c_gt_p, c_le_p, rd_p, wa_p, wz_p, w8_p, fz_p, fw_p, tw_p, ck_p, ob_s, oc_s, if_pos, if_neg, am_upo, up_s, ne_eq, not_true_eq_false, not_false_eq_true, true_or, or_true, true_and, and_true, false_and, and_false, ck_t, reduceIte, Int.tmod_eq_emod_of_nonneg, Int.tdiv_eq_ediv_of_nonneg]
  refine ⟨by omega, fun p hp => ?_, h.2.2.1, fun p q hp hq _ => by omega⟩
  have : p = 0 := by omega
  subst this
  simp (disch := omega) only [c_lt_p, c_eq_p, c_ne_p, c_ge_p, c_gt_p, c_le_p, rd_p, wa_p, wz_p, w8_p, fz_p, fw_p, tw_p, ck_p, ob_s, oc_s, if_pos, if_neg, am_upo, up_s, ne_eq, not_true_eq_false, not_false_eq_true, true_or, or_true, true_and, and_true, false_and, and_false, ck_t, reduceIte, Int.tmod_eq_emod_of_nonneg, Int.tdiv_eq_ediv_of_nonneg]
  omega
theorem fill33 : ∀ (k n : Nat) (i : Int) (M : am_M), i + k = 144 → 0 ≤ i → k < n → ∃ M1, J_fill_33_5 n 0 i 144 M = some M1 ∧ Ch [33] M M1 ∧ ∀ j : Nat, j < 144 → M1 33 j = if (j : Int) < i then M 33 j else 0
  | 0, n + 1, i, M, e, h0, hn => by
    refine ⟨M, ?_, Ch.rf, fun j hj => by rw [if_pos (by omega)]⟩
    unfold J_fill_33_5
    simp (disch := omega) only [c_lt_p, c_eq_p, c_ne_p, c_ge_p, c_gt_p, c_le_p, rd_p, wa_p, wz_p, w8_p, fz_p, fw_p, tw_p, ck_p, ob_s, oc_s, if_pos, if_neg, am_upo, up_s, ne_eq, not_true_eq_false, not_false_eq_true, true_or, or_true, true_and, and_true, false_and, and_false, ck_t, reduceIte, Int.tmod_eq_emod_of_nonneg, Int.tdiv_eq_ediv_of_nonneg]
  | k + 1, n + 1, i, M, e, h0, hn => by
    obtain ⟨M1, h1, h2, h3⟩ := fill33 k n (i + 1) (am_up M 33 i.toNat 0) (by omega) (by omega) (by omega)
    refine ⟨M1, ?_, (Ch.rf.up (by decide) rfl).tr h2 (fun _ h => h), fun j hj => ?_⟩
    · unfold J_fill_33_5
      simp (disch := omega) only [c_lt_p, c_eq_p, c_ne_p, c_ge_p, c_gt_p, c_le_p, rd_p, wa_p, wz_p, w8_p, fz_p, fw_p, tw_p, ck_p, ob_s, oc_s, if_pos, if_neg, am_upo, up_s, ne_eq, not_true_eq_false, not_false_eq_true, true_or, or_true, true_and, and_true, false_and, and_false, ck_t, reduceIte, Int.tmod_eq_emod_of_nonneg, Int.tdiv_eq_ediv_of_nonneg]
      exact h1
    · rw [h3 j hj]
      simp only [up_s]
      by_cases hji : (j : Int) < i
      · rw [if_pos (by omega), if_neg (by omega), if_pos hji]
      · rw [if_neg hji]
        by_cases hj2 : (j : Int) < i + 1
        · rw [if_pos hj2, if_pos (by omega)]
        · rw [if_neg hj2]
theorem Trip_beginAt_26_eq {g t M : am_M} {c : Int} (hg : WG g) (hw : WT t) (hG : GP g M) (hT : TP 26 t M) (h0 : 0 ≤ c) (h1 : c < 144) : ∃ M1, Trip_beginAt_26 c M = some M1 ∧ TP 26 (begS t g c) M1 ∧ Ch [26, 28, 29, 30, 31, 32, 33] M M1 := by
  obtain ⟨M1, e1, e2, e3⟩ := fill33 144 am_big 0 M (by omega) (by omega) (by decide)
  have e4 : M1 1 3 = g 0 1 := by rw [e2 1 (by decide)]; exact hG.1.2.1
  have eF : J_fill_33 0 M = some M1 := e1
  have hf26 : M1 26 = M 26 := e2 26 (by decide)
  have hf27 : M1 27 = M 27 := e2 27 (by decide)
  refine ⟨am_up (am_up (am_up (am_up (am_up (am_up (am_up (am_up (am_up M1 26 10 0) 28 0 c) 29 0 (g 0 1)) 30 0 0) 31 0 0) 32 0 0) 33 c.toNat 1) 26 11 0) 26 10 1, ?_, ?_, ?_⟩
  · unfold Trip_beginAt_26 Trip_append_26 Trip_append_26_97
    simp (disch := omega) only [c_lt_p, c_eq_p, c_ne_p, c_ge_p, c_gt_p, c_le_p, rd_p, wa_p, wz_p, w8_p, fz_p, fw_p, tw_p, ck_p, ob_s, oc_s, if_pos, if_neg, am_upo, up_s, ne_eq, not_true_eq_false, not_false_eq_true, true_or, or_true, true_and, and_true, false_and, and_false, ck_t, reduceIte, Int.tmod_eq_emod_of_nonneg, Int.tdiv_eq_ediv_of_nonneg, eF, Country_isCell_eq, e4, Int.toNat_zero, Int.zero_add]
  · have hT1 := hT.1
    refine ⟨?_, fun p hp => ?_, fun p hp => ?_, fun x hx => ?_⟩
    · unfold begS
      simp (disch := omega) only [c_lt_p, c_eq_p, c_ne_p, c_ge_p, c_gt_p, c_le_p, rd_p, wa_p, wz_p, w8_p, fz_p, fw_p, tw_p, ck_p, ob_s, oc_s, if_pos, if_neg, am_upo, up_s, ne_eq, not_true_eq_false, not_false_eq_true, true_or, or_true, true_and, and_true, false_and, and_false, ck_t, reduceIte, Int.tmod_eq_emod_of_nonneg, Int.tdiv_eq_ediv_of_nonneg, hf26]
      exact ⟨hT1.1, hT1.2.2.2⟩
    · unfold begS at hp ⊢
      revert hp
      simp (disch := omega) only [c_lt_p, c_eq_p, c_ne_p, c_ge_p, c_gt_p, c_le_p, rd_p, wa_p, wz_p, w8_p, fz_p, fw_p, tw_p, ck_p, ob_s, oc_s, if_pos, if_neg, am_upo, up_s, ne_eq, not_true_eq_false, not_false_eq_true, true_or, or_true, true_and, and_true, false_and, and_false, ck_t, reduceIte, Int.tmod_eq_emod_of_nonneg, Int.tdiv_eq_ediv_of_nonneg]
      intro hp
      have : p = 0 := by omega
      subst this
      simp (disch := omega) only [c_lt_p, c_eq_p, c_ne_p, c_ge_p, c_gt_p, c_le_p, rd_p, wa_p, wz_p, w8_p, fz_p, fw_p, tw_p, ck_p, ob_s, oc_s, if_pos, if_neg, am_upo, up_s, ne_eq, not_true_eq_false, not_false_eq_true, true_or, or_true, true_and, and_true, false_and, and_false, ck_t, reduceIte, Int.tmod_eq_emod_of_nonneg, Int.tdiv_eq_ediv_of_nonneg]
    · unfold begS
      simp (disch := omega) only [c_lt_p, c_eq_p, c_ne_p, c_ge_p, c_gt_p, c_le_p, rd_p, wa_p, wz_p, w8_p, fz_p, fw_p, tw_p, ck_p, ob_s, oc_s, if_pos, if_neg, am_upo, up_s, ne_eq, not_true_eq_false, not_false_eq_true, true_or, or_true, true_and, and_true, false_and, and_false, ck_t, reduceIte, Int.tmod_eq_emod_of_nonneg, Int.tdiv_eq_ediv_of_nonneg, hf27]
      exact hT.2.2.1 p hp
    · have : onB (begS t g c) x = decide (c = x) := by
        rw [Bool.eq_iff_iff, begS_on, decide_eq_true_eq]
      rw [this]
      simp (disch := omega) only [c_lt_p, c_eq_p, c_ne_p, c_ge_p, c_gt_p, c_le_p, rd_p, wa_p, wz_p, w8_p, fz_p, fw_p, tw_p, ck_p, ob_s, oc_s, if_pos, if_neg, am_upo, up_s, ne_eq, not_true_eq_false, not_false_eq_true, true_or, or_true, true_and, and_true, false_and, and_false, ck_t, reduceIte, Int.tmod_eq_emod_of_nonneg, Int.tdiv_eq_ediv_of_nonneg]
      by_cases hxc : x = c.toNat
      · have : c = (x : Int) := by omega
        simp (disch := omega) only [c_lt_p, c_eq_p, c_ne_p, c_ge_p, c_gt_p, c_le_p, rd_p, wa_p, wz_p, w8_p, fz_p, fw_p, tw_p, ck_p, ob_s, oc_s, if_pos, if_neg, am_upo, up_s, ne_eq, not_true_eq_false, not_false_eq_true, true_or, or_true, true_and, and_true, false_and, and_false, ck_t, reduceIte, Int.tmod_eq_emod_of_nonneg, Int.tdiv_eq_ediv_of_nonneg, decide_eq_true_eq]
      · have : ¬ c = (x : Int) := by omega
        have e5 := e3 x hx
        rw [if_neg (by omega)] at e5
        simp (disch := omega) only [c_lt_p, c_eq_p, c_ne_p, c_ge_p, c_gt_p, c_le_p, rd_p, wa_p, wz_p, w8_p, fz_p, fw_p, tw_p, ck_p, ob_s, oc_s, if_pos, if_neg, am_upo, up_s, ne_eq, not_true_eq_false, not_false_eq_true, true_or, or_true, true_and, and_true, false_and, and_false, ck_t, reduceIte, Int.tmod_eq_emod_of_nonneg, Int.tdiv_eq_ediv_of_nonneg, decide_eq_true_eq, e5]
  · exact (((((((((e2.mo (by decide)).up (l := [26, 28, 29, 30, 31, 32, 33]) (by decide) rfl).up (by decide) rfl).up (by decide) rfl).up (by decide) rfl).up (by decide) rfl).up (by decide) rfl).up (by decide) rfl).up (by decide) rfl).up (by decide) rfl
theorem begR : ∀ (k n : Nat) (i c : Int) (g t M : am_M), i + k = 144 → 0 ≤ i → k < n → WG g → WT t → GR g M → (M 73 41 = t 0 0 ∧ M 73 44 = t 0 3 ∧ M 73 45 = t 0 4 ∧ M 73 2 = t 0 5) → (∀ p : Nat, p < 6 → M 93 p = t 1 p) → (∀ x : Nat, (x : Int) < i → M 100 x = -1) → 0 ≤ c → c < 144 → ∃ M1, R_beginsPath_2 n c i M = some M1 ∧ TR (begS t g c) M1 ∧ Ch [73, 95, 96, 97, 98, 99, 100] M M1 ∧ (∀ j, j ≠ 46 → j ≠ 47 → M1 73 j = M 73 j)
  | 0, n + 1, i, c, g, t, M, e, hi, hn, hg, hw, hG, h3, h4, h5, h0, h1 => by
    have e4 : M 73 42 = g 0 1 := hG.1.2.1
    refine ⟨am_up (am_up (am_up (am_up (am_up (am_up (am_up (am_up (am_up M 73 46 0) 73 47 0) 95 0 c) 96 0 (g 0 1)) 97 0 0) 98 0 0) 99 0 0) 100 c.toNat 0) 73 46 1, ?_, ?_, ?_, fun j a b => by simp (disch := omega) only [c_lt_p, c_eq_p, c_ne_p, c_ge_p, c_gt_p, c_le_p, rd_p, wa_p, wz_p, w8_p, fz_p, fw_p, tw_p, ck_p, ob_s, oc_s, if_pos, if_neg, am_upo, up_s, ne_eq, not_true_eq_false, not_false_eq_true, true_or, or_true, true_and, and_true, false_and, and_false, ck_t, reduceIte, Int.tmod_eq_emod_of_nonneg, Int.tdiv_eq_ediv_of_nonneg]⟩
    · unfold R_beginsPath_2
      unfold R_comesBehind
      simp (disch := omega) only [c_lt_p, c_eq_p, c_ne_p, c_ge_p, c_gt_p, c_le_p, rd_p, wa_p, wz_p, w8_p, fz_p, fw_p, tw_p, ck_p, ob_s, oc_s, if_pos, if_neg, am_upo, up_s, ne_eq, not_true_eq_false, not_false_eq_true, true_or, or_true, true_and, and_true, false_and, and_false, ck_t, reduceIte, Int.tmod_eq_emod_of_nonneg, Int.tdiv_eq_ediv_of_nonneg, e4, Int.toNat_zero, Int.zero_add]
    · refine ⟨?_, fun p hp => ?_, fun p hp => ?_, fun x hx => ?_⟩
      · unfold begS
        simp (disch := omega) only [c_lt_p, c_eq_p, c_ne_p, c_ge_p, c_gt_p, c_le_p, rd_p, wa_p, wz_p, w8_p, fz_p, fw_p, tw_p, ck_p, ob_s, oc_s, if_pos, if_neg, am_upo, up_s, ne_eq, not_true_eq_false, not_false_eq_true, true_or, or_true, true_and, and_true, false_and, and_false, ck_t, reduceIte, Int.tmod_eq_emod_of_nonneg, Int.tdiv_eq_ediv_of_nonneg]
        exact ⟨h3.1, h3.2⟩
      · unfold begS at hp ⊢
        revert hp
        simp (disch := omega) only [c_lt_p, c_eq_p, c_ne_p, c_ge_p, c_gt_p, c_le_p, rd_p, wa_p, wz_p, w8_p, fz_p, fw_p, tw_p, ck_p, ob_s, oc_s, if_pos, if_neg, am_upo, up_s, ne_eq, not_true_eq_false, not_false_eq_true, true_or, or_true, true_and, and_true, false_and, and_false, ck_t, reduceIte, Int.tmod_eq_emod_of_nonneg, Int.tdiv_eq_ediv_of_nonneg]
        intro hp
        have : p = 0 := by omega
        subst this
        simp (disch := omega) only [c_lt_p, c_eq_p, c_ne_p, c_ge_p, c_gt_p, c_le_p, rd_p, wa_p, wz_p, w8_p, fz_p, fw_p, tw_p, ck_p, ob_s, oc_s, if_pos, if_neg, am_upo, up_s, ne_eq, not_true_eq_false, not_false_eq_true, true_or, or_true, true_and, and_true, false_and, and_false, ck_t, reduceIte, Int.tmod_eq_emod_of_nonneg, Int.tdiv_eq_ediv_of_nonneg]
      · unfold begS
        simp (disch := omega) only [c_lt_p, c_eq_p, c_ne_p, c_ge_p, c_gt_p, c_le_p, rd_p, wa_p, wz_p, w8_p, fz_p, fw_p, tw_p, ck_p, ob_s, oc_s, if_pos, if_neg, am_upo, up_s, ne_eq, not_true_eq_false, not_false_eq_true, true_or, or_true, true_and, and_true, false_and, and_false, ck_t, reduceIte, Int.tmod_eq_emod_of_nonneg, Int.tdiv_eq_ediv_of_nonneg]
        exact h4 p hp
      · by_cases hxc : x = c.toNat
        · right
          unfold begS
          simp (disch := omega) only [c_lt_p, c_eq_p, c_ne_p, c_ge_p, c_gt_p, c_le_p, rd_p, wa_p, wz_p, w8_p, fz_p, fw_p, tw_p, ck_p, ob_s, oc_s, if_pos, if_neg, am_upo, up_s, ne_eq, not_true_eq_false, not_false_eq_true, true_or, or_true, true_and, and_true, false_and, and_false, ck_t, reduceIte, Int.tmod_eq_emod_of_nonneg, Int.tdiv_eq_ediv_of_nonneg, Int.toNat_zero]
          omega
        · left
          have h6 := h5 x (by omega)
          refine ⟨by simp (disch := omega) only [c_lt_p, c_eq_p, c_ne_p, c_ge_p, c_gt_p, c_le_p, rd_p, wa_p, wz_p, w8_p, fz_p, fw_p, tw_p, ck_p, ob_s, oc_s, if_pos, if_neg, am_upo, up_s, ne_eq, not_true_eq_false, not_false_eq_true, true_or, or_true, true_and, and_true, false_and, and_false, ck_t, reduceIte, Int.tmod_eq_emod_of_nonneg, Int.tdiv_eq_ediv_of_nonneg, h6], ?_⟩
          rw [← Bool.not_eq_true, begS_on]
          omega
    · exact (((((((((Ch.rf (l := [73, 95, 96, 97, 98, 99, 100])).up (by decide) rfl).up (by decide) rfl).up (by decide) rfl).up (by decide) rfl).up (by decide) rfl).up (by decide) rfl).up (by decide) rfl).up (by decide) rfl).up (by decide) rfl
  | k + 1, n + 1, i, c, g, t, M, e, hi, hn, hg, hw, hG, h3, h4, h5, h0, h1 => by
    obtain ⟨M1, e1, e2, e3, e4⟩ := begR k n (i + 1) c g t (am_up M 100 i.toNat (-1)) (by omega) (by omega) (by omega) hg hw (by unfold GR at hG ⊢; simp (disch := omega) only [c_lt_p, c_eq_p, c_ne_p, c_ge_p, c_gt_p, c_le_p, rd_p, wa_p, wz_p, w8_p, fz_p, fw_p, tw_p, ck_p, ob_s, oc_s, if_pos, if_neg, am_upo, up_s, ne_eq, not_true_eq_false, not_false_eq_true, true_or, or_true, true_and, and_true, false_and, and_false, ck_t, reduceIte, Int.tmod_eq_emod_of_nonneg, Int.tdiv_eq_ediv_of_nonneg]; exact hG) (by simp (disch := omega) only [c_lt_p, c_eq_p, c_ne_p, c_ge_p, c_gt_p, c_le_p, rd_p, wa_p, wz_p, w8_p, fz_p, fw_p, tw_p, ck_p, ob_s, oc_s, if_pos, if_neg, am_upo, up_s, ne_eq, not_true_eq_false, not_false_eq_true, true_or, or_true, true_and, and_true, false_and, and_false, ck_t, reduceIte, Int.tmod_eq_emod_of_nonneg, Int.tdiv_eq_ediv_of_nonneg]; exact h3) (by simp (disch := omega) only [c_lt_p, c_eq_p, c_ne_p, c_ge_p, c_gt_p, c_le_p, rd_p, wa_p, wz_p, w8_p, fz_p, fw_p, tw_p, ck_p, ob_s, oc_s, if_pos, if_neg, am_upo, up_s, ne_eq, not_true_eq_false, not_false_eq_true, true_or, or_true, true_and, and_true, false_and, and_false, ck_t, reduceIte, Int.tmod_eq_emod_of_nonneg, Int.tdiv_eq_ediv_of_nonneg]; exact h4) (fun x hx => by
      simp only [up_s]
      by_cases q : x = i.toNat
      · rw [if_pos q]
      · rw [if_neg q]
        exact h5 x (by omega)) h0 h1
    refine ⟨M1, ?_, e2, (Ch.rf.up (by decide) rfl).tr e3 (fun _ h => h), fun j a b => by rw [e4 j a b]; simp (disch := omega) only [c_lt_p, c_eq_p, c_ne_p, c_ge_p, c_gt_p, c_le_p, rd_p, wa_p, wz_p, w8_p, fz_p, fw_p, tw_p, ck_p, ob_s, oc_s, if_pos, if_neg, am_upo, up_s, ne_eq, not_true_eq_false, not_false_eq_true, true_or, or_true, true_and, and_true, false_and, and_false, ck_t, reduceIte, Int.tmod_eq_emod_of_nonneg, Int.tdiv_eq_ediv_of_nonneg]⟩
    unfold R_beginsPath_2
    simp (disch := omega) only [c_lt_p, c_eq_p, c_ne_p, c_ge_p, c_gt_p, c_le_p, rd_p, wa_p, wz_p, w8_p, fz_p, fw_p, tw_p, ck_p, ob_s, oc_s, if_pos, if_neg, am_upo, up_s, ne_eq, not_true_eq_false, not_false_eq_true, true_or, or_true, true_and, and_true, false_and, and_false, ck_t, reduceIte, Int.tmod_eq_emod_of_nonneg, Int.tdiv_eq_ediv_of_nonneg]
    exact e1
theorem R_beginsPath_eq {g t M : am_M} {c : Int} (hg : WG g) (hw : WT t) (hG : GR g M) (hT : TR t M) (h0 : 0 ≤ c) (h1 : c < 144) : ∃ M1, R_beginsPath c M = some M1 ∧ TR (begS t g c) M1 ∧ Ch [73, 95, 96, 97, 98, 99, 100] M M1 ∧ (∀ j, j ≠ 46 → j ≠ 47 → M1 73 j = M 73 j) :=
  begR 144 am_big 0 c g t M (by omega) (by omega) (by decide) hg hw hG ⟨hT.1.1, hT.1.2.2.2.1, hT.1.2.2.2.2.1, hT.1.2.2.2.2.2⟩ hT.2.2.1 (fun x hx => by omega) h0 h1
theorem GR.nb {g M N : am_M} (h : GR g M) (e : ∀ j, j ≠ 46 → j ≠ 47 → N 73 j = M 73 j) (f : Ch [73, 95, 96, 97, 98, 99, 100] M N) : GR g N := by
  unfold GR at h ⊢
  rw [e 1 (by decide) (by decide), e 42 (by decide) (by decide), e 43 (by decide) (by decide), e 19 (by decide) (by decide), e 66 (by decide) (by decide), f 74 (by decide), f 75 (by decide), f 92 (by decide), f 94 (by decide)]
  exact h
theorem beg_PW {F : FT} {g t u : am_M} {c : Int} (hW : PW F g t u) (h0 : 0 ≤ c) (h1 : c < 144) : PW F g (begS t g c) u := by
  refine ⟨hW.1, begS_W hW.1 hW.2.1 h0 h1, ?_, hW.2.2.2⟩
  have e : begS t g c 0 0 = t 0 0 := by unfold begS; simp (disch := omega) only [c_lt_p, c_eq_p, c_ne_p, c_ge_p, c_gt_p, c_le_p, rd_p, wa_p, wz_p, w8_p, fz_p, fw_p, tw_p, ck_p, ob_s, oc_s, if_pos, if_neg, am_upo, up_s, ne_eq, not_true_eq_false, not_false_eq_true, true_or, or_true, true_and, and_true, false_and, and_false, ck_t, reduceIte, Int.tmod_eq_emod_of_nonneg, Int.tdiv_eq_ediv_of_nonneg]
  rw [e]
  exact hW.2.2.1
theorem P_start_ok {n : Nat} {x : Int} (hx : am_R x) : OK2 n (P_start x) (R_start x) := by
  refine OK2.of (lp := [26, 28, 29, 30, 31, 32, 33]) (lr := [73, 95, 96, 97, 98, 99, 100]) (by decide) (by decide) (fun M r h => (P_start_c x M r h).mo (by decide)) (fun M r h => (R_start_c x M r h).mo (by decide)) (fun F g t u hW => ?_)
  by_cases hc : (0 ≤ x ∧ x < 144) ∧ g 2 x.toNat ≠ 3
  · have hkb := hW.1.2.2.1 x.toNat (by omega)
    refine ⟨1, F, g, begS t g x, u, by decide, beg_PW hW hc.1.1 hc.1.2, fun M hC => ?_, fun M hR => ?_⟩
    · obtain ⟨h1, h2, h3, h4, h5⟩ := hC
      obtain ⟨M1, e1, e2, e3⟩ := Trip_beginAt_26_eq hW.1 hW.2.1 h1 h2 hc.1.1 hc.1.2
      refine ⟨M1, ?_, h1.cg (fun k a => e3 k (by simp; omega)), e2, fun q => (h3 q).cg (fun k a b => e3 k (by simp; omega)), h4.cg (fun k a b => e3 k (by simp; omega)), h5.cg (fun k a b => e3 k (by simp; omega)) (by omega)⟩
      unfold P_start
      rw [Country_isBarred_eq hx (KI.of hW.1 h1), h1.2.2.1 x.toNat (by omega), if_pos ⟨hc.1.1, hc.1.2, hc.2⟩]
      simp (disch := omega) only [c_lt_p, c_eq_p, c_ne_p, c_ge_p, c_gt_p, c_le_p, rd_p, wa_p, wz_p, w8_p, fz_p, fw_p, tw_p, ck_p, ob_s, oc_s, if_pos, if_neg, am_upo, up_s, ne_eq, not_true_eq_false, not_false_eq_true, true_or, or_true, true_and, and_true, false_and, and_false, ck_t, reduceIte, Int.tmod_eq_emod_of_nonneg, Int.tdiv_eq_ediv_of_nonneg, e1]
    · obtain ⟨h1, h2, h3, h4⟩ := hR
      obtain ⟨M1, e1, e2, e3, e4⟩ := R_beginsPath_eq hW.1 hW.2.1 h1 h2 hc.1.1 hc.1.2
      refine ⟨M1, ?_, h1.nb e4 e3, e2, fun q => (h3 q).cg (fun k a => e3 k (by simp; omega)), h4.cg (fun k a b => e3 k (by simp; omega)) (e4 19 (by decide) (by decide))⟩
      have e5 : M 75 x.toNat = g 2 x.toNat := h1.2.2.1 _ (by omega)
      unfold R_start R_start_17
      simp (disch := omega) only [c_lt_p, c_eq_p, c_ne_p, c_ge_p, c_gt_p, c_le_p, rd_p, wa_p, wz_p, w8_p, fz_p, fw_p, tw_p, ck_p, ob_s, oc_s, if_pos, if_neg, am_upo, up_s, ne_eq, not_true_eq_false, not_false_eq_true, true_or, or_true, true_and, and_true, false_and, and_false, ck_t, reduceIte, Int.tmod_eq_emod_of_nonneg, Int.tdiv_eq_ediv_of_nonneg, R_isCell_eq, e5, e1]
  · refine ⟨0, F, g, t, u, by decide, hW, fun M hC => ⟨M, ?_, hC.cg (fun _ _ => rfl) (by omega)⟩, fun M hR => ⟨M, ?_, hR⟩⟩
    · unfold P_start
      have e : Country_isBarred_1 x M = some 1 := by
        rw [Country_isBarred_eq hx (KI.of hW.1 hC.1), if_neg]
        intro q
        exact hc ⟨⟨q.1, q.2.1⟩, by rw [← hC.1.2.2.1 x.toNat (by omega)]; exact q.2.2⟩
      rw [e]
      simp (disch := omega) only [c_lt_p, c_eq_p, c_ne_p, c_ge_p, c_gt_p, c_le_p, rd_p, wa_p, wz_p, w8_p, fz_p, fw_p, tw_p, ck_p, ob_s, oc_s, if_pos, if_neg, am_upo, up_s, ne_eq, not_true_eq_false, not_false_eq_true, true_or, or_true, true_and, and_true, false_and, and_false, ck_t, reduceIte, Int.tmod_eq_emod_of_nonneg, Int.tdiv_eq_ediv_of_nonneg]
    · unfold R_start R_start_17
      by_cases h1 : 0 ≤ x ∧ x < 144
      · have e5 : M 75 x.toNat = g 2 x.toNat := hR.1.2.2.1 _ (by omega)
        have e6 : g 2 x.toNat = 3 := by
          rcases Int.lt_trichotomy (g 2 x.toNat) 3 with q | q | q
          · exact absurd ⟨h1, by omega⟩ hc
          · exact q
          · exact absurd ⟨h1, by omega⟩ hc
        simp (disch := omega) only [c_lt_p, c_eq_p, c_ne_p, c_ge_p, c_gt_p, c_le_p, rd_p, wa_p, wz_p, w8_p, fz_p, fw_p, tw_p, ck_p, ob_s, oc_s, if_pos, if_neg, am_upo, up_s, ne_eq, not_true_eq_false, not_false_eq_true, true_or, or_true, true_and, and_true, false_and, and_false, ck_t, reduceIte, Int.tmod_eq_emod_of_nonneg, Int.tdiv_eq_ediv_of_nonneg, R_isCell_eq, e5, e6]
      · simp (disch := omega) only [c_lt_p, c_eq_p, c_ne_p, c_ge_p, c_gt_p, c_le_p, rd_p, wa_p, wz_p, w8_p, fz_p, fw_p, tw_p, ck_p, ob_s, oc_s, if_pos, if_neg, am_upo, up_s, ne_eq, not_true_eq_false, not_false_eq_true, true_or, or_true, true_and, and_true, false_and, and_false, ck_t, reduceIte, Int.tmod_eq_emod_of_nonneg, Int.tdiv_eq_ediv_of_nonneg, R_isCell_eq]
