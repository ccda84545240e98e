-- home
theorem TR.o {t M : am_M} {j : Nat} {v : Int} (h : TR t M) (hj : j ≠ 41 ∧ j ≠ 46 ∧ j ≠ 47 ∧ j ≠ 44 ∧ j ≠ 45 ∧ j ≠ 2) : TR t (am_up M 73 j v) := by
  unfold TR at h ⊢
  simp (disch := omega) only [c_lt_p, c_eq_p, c_ne_p, c_ge_p, c_gt_p, c_le_p, rd_p, wa_p, wz_p, w8_p, fz_p, fw_p, tw_p, ck_p, ob_s, oc_s, if_pos, if_neg, am_upo, up_s, ne_eq, not_true_eq_false, not_false_eq_true, true_or, or_true, true_and, and_true, false_and, and_false, ck_t, reduceIte, Int.tmod_eq_emod_of_nonneg, Int.tdiv_eq_ediv_of_nonneg]
  exact h
theorem R_passes_eq {g t M : am_M} (hg : WG g) (hw : WT t) (hG : GR g M) (hT : TR t M) {w : Int} (h0 : 0 ≤ w) (h1 : w ≤ 1000) : R_passes w M = if t 0 3 + w ≤ g 0 2 then some (1, am_up M 73 44 (t 0 3 + w)) else some (0, am_up M 73 76 1) := by
  have hl := hw.1
  have hg1 := hg.1
  have e1 : M 73 44 = t 0 3 := hT.1.2.2.2.1
  have e2 : M 73 43 = g 0 2 := hG.1.2.2.1
  unfold R_passes
  by_cases hc : t 0 3 + w ≤ g 0 2
  · simp (disch := omega) only [c_lt_p, c_eq_p, c_ne_p, c_ge_p, c_gt_p, c_le_p, rd_p, wa_p, wz_p, w8_p, fz_p, fw_p, tw_p, ck_p, ob_s, oc_s, if_pos, if_neg, am_upo, up_s, ne_eq, not_true_eq_false, not_false_eq_true, true_or, or_true, true_and, and_true, false_and, and_false, ck_t, reduceIte, Int.tmod_eq_emod_of_nonneg, Int.tdiv_eq_ediv_of_nonneg, e1, e2]
  · simp (disch := omega) only [c_lt_p, c_eq_p, c_ne_p, c_ge_p, c_gt_p, c_le_p, rd_p, wa_p, wz_p, w8_p, fz_p, fw_p, tw_p, ck_p, ob_s, oc_s, if_pos, if_neg, am_upo, up_s, ne_eq, not_true_eq_false, not_false_eq_true, true_or, or_true, true_and, and_true, false_and, and_false, ck_t, reduceIte, Int.tmod_eq_emod_of_nonneg, Int.tdiv_eq_ediv_of_nonneg, e1, e2]
def dwT (g t : am_M) (k : Nat) : am_M := if blS t g ((k : Int) + 1) = 0 then t else am_up t 0 5 ((25173 * t 0 5 + 13849) % 65536)
def asS (F : FT) (g t : am_M) (k : Nat) : Int := if blS t g ((k : Int) + 1) = 0 then 0 else if erS F g t ((k : Int) + 1) ≤ ((25173 * t 0 5 + 13849) % 65536) % 10 then 0 else 30
def hmT (F : FT) (g : am_M) : Nat → am_M → am_M
  | 0, t => t
  | k + 1, t => if t 0 3 + (waS F g t k 2 + asS F g t k) ≤ g 0 2 then hmT F g k (am_up (am_up (dwT g t k) 0 3 (t 0 3 + (waS F g t k 2 + asS F g t k))) 0 2 k) else dwT g t k
theorem dwT_W {g t : am_M} {k : Nat} (h : WT t) : WT (dwT g t k) := by
  unfold dwT
  split
  · exact h
  · exact h.h5 (by omega)
theorem dwT_e {g t : am_M} {k j : Nat} (h : j ≠ 5) : dwT g t k 0 j = t 0 j := by
  unfold dwT
  split
  · rfl
  · simp (disch := omega) only [c_lt_p, c_eq_p, c_ne_p, c_ge_p, c_gt_p, c_le_p, rd_p, wa_p, wz_p, w8_p, fz_p, fw_p, tw_p, ck_p, ob_s, oc_s, if_pos, if_neg, am_upo, up_s, ne_eq, not_true_eq_false, not_false_eq_true, true_or, or_true, true_and, and_true, false_and, and_false, ck_t, reduceIte, Int.tmod_eq_emod_of_nonneg, Int.tdiv_eq_ediv_of_nonneg]
theorem asS_b (F : FT) (g t : am_M) (k : Nat) : 0 ≤ asS F g t k ∧ asS F g t k ≤ 30 := by
  unfold asS
  repeat' split
  all_goals omega
theorem hmT_W {F : FT} {g : am_M} (hF : FO F) (hg : WG g) : ∀ (k : Nat) (t : am_M), WT t → (k : Int) ≤ t 0 2 → WT (hmT F g k t) ∧ (hmT F g k t) 0 0 = t 0 0 ∧ t 0 3 ≤ (hmT F g k t) 0 3
  | 0, t, h, _ => ⟨h, rfl, by unfold hmT; omega⟩
  | k + 1, t, h, hk => by
    have hl := h.1
    have hg1 := hg.1
    have h1 := waS_b hF g t k 2
    have h2 := asS_b F g t k
    have h3 := dwT_W (g := g) (k := k) h
    have e0 := dwT_e (g := g) (t := t) (k := k) (j := 0) (by decide)
    have e1 := dwT_e (g := g) (t := t) (k := k) (j := 1) (by decide)
    have e3 := dwT_e (g := g) (t := t) (k := k) (j := 3) (by decide)
    unfold hmT
    split
    · have h4 := (h3.h3 (v := t 0 3 + (waS F g t k 2 + asS F g t k)) (by omega)).h2 (v := (k : Int)) (by rw [upx (by decide), e1]; omega)
      have h5 := hmT_W hF hg k _ h4 (by rw [upj]; omega)
      refine ⟨h5.1, ?_, ?_⟩
      · rw [h5.2.1]
        simp (disch := omega) only [c_lt_p, c_eq_p, c_ne_p, c_ge_p, c_gt_p, c_le_p, rd_p, wa_p, wz_p, w8_p, fz_p, fw_p, tw_p, ck_p, ob_s, oc_s, if_pos, if_neg, am_upo, up_s, ne_eq, not_true_eq_false, not_false_eq_true, true_or, or_true, true_and, and_true, false_and, and_false, ck_t, reduceIte, Int.tmod_eq_emod_of_nonneg, Int.tdiv_eq_ediv_of_nonneg]
        exact e0
      · refine Int.le_trans ?_ h5.2.2
        simp (disch := omega) only [c_lt_p, c_eq_p, c_ne_p, c_ge_p, c_gt_p, c_le_p, rd_p, wa_p, wz_p, w8_p, fz_p, fw_p, tw_p, ck_p, ob_s, oc_s, if_pos, if_neg, am_upo, up_s, ne_eq, not_true_eq_false, not_false_eq_true, true_or, or_true, true_and, and_true, false_and, and_false, ck_t, reduceIte, Int.tmod_eq_emod_of_nonneg, Int.tdiv_eq_ediv_of_nonneg]
        omega
    · exact ⟨h3, e0, by omega⟩
theorem astray_n {F : FT} {g t M : am_M} (hg : WG g) (hw : WT t) (hG : GP g M) (hT : TP 26 t M) {k : Nat} (hk : (k : Int) + 1 < t 0 1) (q : blS t g ((k : Int) + 1) = 0) : Trip_minutesAstray_26 ((k : Int) + 1) M = some (asS F g t k, M) := by
  have hl := hw.1
  rw [Trip_minutesAstray_26, Trip_isBlind_26_eq hw hg hT hG (by omega) hk, ob_s, q, c_ne_p (by omega) (by omega), if_neg (by omega)]
  unfold asS
  rw [if_pos q]
theorem astray_y {F : FT} {g t M N : am_M} (hF : FO F) (hg : WG g) (hw : WT t) (hG : GP g M) (hT : TP 26 t M) {k : Nat} (hk : (k : Int) + 1 < t 0 1) (q : blS t g ((k : Int) + 1) = 1) {y : Int} (hy : b_and (25173 * t 0 5 + 13849) 65535 = y) (hy0 : 0 ≤ y ∧ y < 65536) (e1 : Trip_wrongTenths_26 ((k : Int) + 1) (am_up M 26 14 y) = some (erS F g t ((k : Int) + 1), N)) : Trip_minutesAstray_26 ((k : Int) + 1) M = some (if erS F g t ((k : Int) + 1) ≤ y % 10 then 0 else 30, N) := by
  have hl := hw.1
  have e14 : M 26 14 = t 0 5 := hT.1.2.2.2.2.2
  have he := erS_b hF g t ((k : Int) + 1)
  rw [Trip_minutesAstray_26, Trip_isBlind_26_eq hw hg hT hG (by omega) hk, ob_s, q, c_ne_p (by omega) (by omega), if_pos (by omega), e14, hy, fw_p]
  unfold Trip_minutesAstray_26_50
  by_cases hc : erS F g t ((k : Int) + 1) ≤ y % 10
  · simp (disch := omega) only [c_lt_p, c_eq_p, c_ne_p, c_ge_p, c_gt_p, c_le_p, rd_p, wa_p, wz_p, w8_p, fz_p, fw_p, tw_p, ck_p, ob_s, oc_s, if_pos, if_neg, am_upo, up_s, ne_eq, not_true_eq_false, not_false_eq_true, true_or, or_true, true_and, and_true, false_and, and_false, ck_t, reduceIte, Int.tmod_eq_emod_of_nonneg, Int.tdiv_eq_ediv_of_nonneg, e1]
  · simp (disch := omega) only [c_lt_p, c_eq_p, c_ne_p, c_ge_p, c_gt_p, c_le_p, rd_p, wa_p, wz_p, w8_p, fz_p, fw_p, tw_p, ck_p, ob_s, oc_s, if_pos, if_neg, am_upo, up_s, ne_eq, not_true_eq_false, not_false_eq_true, true_or, or_true, true_and, and_true, false_and, and_false, ck_t, reduceIte, Int.tmod_eq_emod_of_nonneg, Int.tdiv_eq_ediv_of_nonneg, e1]
theorem Trip_minutesAstray_eq {F : FT} {g t M : am_M} (hF : FO F) (hL : LWP F M) (hg : WG g) (hw : WT t) (hG : GP g M) (hT : TP 26 t M) {k : Nat} (hk : (k : Int) + 1 < t 0 1) : ∃ N, Trip_minutesAstray_26 ((k : Int) + 1) M = some (asS F g t k, N) ∧ TP 26 (dwT g t k) N ∧ WF 26 M N := by
  have hl := hw.1
  rcases blS_01 t g ((k : Int) + 1) with q | q
  · refine ⟨M, astray_n hg hw hG hT hk q, ?_, WF.rf⟩
    unfold dwT
    rw [if_pos q]
    exact hT
  · obtain ⟨y, hy⟩ : ∃ y, (25173 * t 0 5 + 13849) % 65536 = y := ⟨_, rfl⟩
    have hy0 : 0 ≤ y ∧ y < 65536 := by omega
    have hT1 := hT.h5 (v := y)
    have hf : WF 26 M (am_up M 26 14 y) := WF.rf.up (by decide)
    obtain ⟨N, e1, f1⟩ := Trip_wrongTenths_eq (p := (k : Int) + 1) hF (hL.wf hf (by decide)) hg (hw.h5 hy0) (hG.wf hf (by decide)) hT1 (by omega)
    rw [erS_h (by decide) (by decide)] at e1
    refine ⟨N, ?_, ?_, hf.tr f1.wf⟩
    · rw [astray_y hF hg hw hG hT hk q (by rw [← hy]; exact b_and_65535 (by omega) (by omega)) hy0 e1]
      unfold asS
      rw [if_neg (show ¬ blS t g ((k : Int) + 1) = 0 by omega), hy]
    · unfold dwT
      rw [if_neg (by omega), hy]
      exact hT1.lf f1 (by decide)
theorem goHome_s {M N1 N2 : am_M} {k n : Nat} {x w a : Int} (hk : k < 100) (e1 : Trip_minutesOnto_26 (k : Int) 2 M = some (w, N1)) (e2 : Trip_minutesAstray_26 ((k : Int) + 1) N1 = some (a, N2)) (hw : am_R (N2 26 12 + (w + a))) (hl : am_R (N2 1 4)) : Trip_goHome_26_12 (n + 1) x 0 ((k : Int) + 1) M = if N2 26 12 + (w + a) ≤ N2 1 4 then Trip_goHome_26_12 n x 0 (k : Int) (am_up (am_up N2 26 12 (N2 26 12 + (w + a))) 26 11 (k : Int)) else Trip_goHome_26_12 n x 1 (k : Int) N2 := by
  have q1 : (k : Int) + 1 - 1 = (k : Int) := by omega
  have q2 : (k : Int) + 1 + -1 = (k : Int) := by omega
  rw [Trip_goHome_26_12, c_le_p (by omega) (by omega), if_neg (by omega), c_ne_p (by omega) (by omega), if_neg (by omega), q1, e1, oc_s, e2, oc_s, c_le_p hw hl]
  unfold Trip_goHome_26_58 Trip_goHome_26_81
  by_cases hc : N2 26 12 + (w + a) ≤ N2 1 4
  · rw [if_pos hc, if_pos hc, c_ne_p (by omega) (by omega), if_neg (by omega), fw_p, fw_p, q1, q2]
  · rw [if_neg hc, if_neg hc, c_ne_p (by omega) (by omega), if_pos (by omega), q2]
theorem goHome_lp {F : FT} {g : am_M} (hF : FO F) (hg : WG g) : ∀ (k n : Nat) (t M : am_M) (x : Int), (k : Int) = t 0 2 → k < n → am_R x → WT t → LWP F M → GP g M → TP 26 t M → ∃ N, Trip_goHome_26_12 n x 0 (k : Int) M = some ((hmT F g k t) 0 3 - x, N) ∧ TP 26 (hmT F g k t) N ∧ WF 26 M N
  | 0, n + 1, t, M, x, hk, hn, hx, hw, hL, hG, hT => by
    have e12 : M 26 12 = t 0 3 := hT.1.2.2.2.1
    refine ⟨M, ?_, hT, WF.rf⟩
    rw [Trip_goHome_26_12, c_le_p (by omega) (by omega), if_pos (by omega)]
    unfold Trip_goHome_26_87 hmT
    rw [e12]
  | k + 1, n + 1, t, M, x, hk, hn, hx, hw, hL, hG, hT => by
    have hl := hw.1
    have hg1 := hg.1
    have h1 := waS_b hF g t k 2
    have h2 := asS_b F g t k
    obtain ⟨N1, e1, f1⟩ := Trip_minutesOnto_26_eq (p := (k : Int)) (f := 2) hF hL hg hw hG hT (by omega) (Or.inr rfl)
    obtain ⟨N2, e2, g2, f2⟩ := Trip_minutesAstray_eq hF (hL.lf f1) hg hw (hG.lf f1) (hT.lf f1 (by decide)) (k := k) (by omega)
    have f3 : WF 26 M N2 := f1.wf.tr f2
    have hG2 := hG.wf f3 (by decide)
    have e12 : N2 26 12 = t 0 3 := by rw [g2.1.2.2.2.1]; exact dwT_e (by decide)
    have e14 : N2 1 4 = g 0 2 := hG2.1.2.2.1
    have h3 := dwT_W (g := g) (k := k) hw
    have d1 := dwT_e (g := g) (t := t) (k := k) (j := 1) (by decide)
    have es := goHome_s (n := n) (x := x) (by omega) e1 e2 (by omega) (by omega)
    rw [e12, e14] at es
    rw [show (((k + 1 : Nat) : Int)) = (k : Int) + 1 by omega, es]
    unfold hmT
    by_cases hc : t 0 3 + (waS F g t k 2 + asS F g t k) ≤ g 0 2
    · rw [if_pos hc, if_pos hc]
      have hT3 := (g2.h3 (v := t 0 3 + (waS F g t k 2 + asS F g t k))).h2 (v := (k : Int))
      have hw3 := (h3.h3 (v := t 0 3 + (waS F g t k 2 + asS F g t k)) (by omega)).h2 (v := (k : Int)) (by rw [upx (by decide), d1]; omega)
      have f4 : WF 26 M (am_up (am_up N2 26 12 (t 0 3 + (waS F g t k 2 + asS F g t k))) 26 11 (k : Int)) := (f3.up (by decide)).up (by decide)
      obtain ⟨N, e5, g5, f5⟩ := goHome_lp hF hg k n _ _ x (by rw [upj]) (by omega) hx hw3 (hL.wf f4 (by decide)) (hG.wf f4 (by decide)) hT3
      exact ⟨N, e5, g5, f4.tr f5⟩
    · rw [if_neg hc, if_neg hc]
      refine ⟨N2, ?_, g2, f3⟩
      obtain ⟨n', rfl⟩ : ∃ n', n = n' + 1 := ⟨n - 1, by omega⟩
      rw [dwT_e (by decide), Trip_goHome_26_12]
      unfold Trip_goHome_26_87
      rw [e12, c_le_p (by omega) (by omega), c_ne_p (by omega) (by omega), if_pos (show (1 : Int) ≠ 0 by decide), ite_self]
theorem RhomeA {F : FT} {g t M : am_M} (hF : FO F) (hL : LWR F M) (hg : WG g) (hw : WT t) (hG : GR g M) (hT : TR t M) {k n : Nat} {x : Int} (h2 : t 0 2 = (k : Int) + 1) (h76 : M 73 76 = 0) : ∃ N, R_home_10 (n + 1) x M = R_home_56 (R_home_10 n) x (asS F g t k) N ∧ TR (dwT g t k) N ∧ RF M N ∧ N 73 76 = 0 := by
  have hl := hw.1
  have e47 : M 73 47 = (k : Int) + 1 := by rw [hT.1.2.2.1, h2]
  have e2 : M 73 2 = t 0 5 := hT.1.2.2.2.2.2
  unfold asS dwT
  rcases blS_01 t g ((k : Int) + 1) with q | q
  · refine ⟨M, ?_, ?_, RF.rf, h76⟩
    · rw [R_home_10]
      unfold R_home_55
      simp (disch := omega) only [c_lt_p, c_eq_p, c_ne_p, c_ge_p, c_gt_p, c_le_p, rd_p, wa_p, wz_p, w8_p, fz_p, fw_p, tw_p, ck_p, ob_s, oc_s, if_pos, if_neg, am_upo, up_s, ne_eq, not_true_eq_false, not_false_eq_true, true_or, or_true, true_and, and_true, false_and, and_false, ck_t, reduceIte, Int.tmod_eq_emod_of_nonneg, Int.tdiv_eq_ediv_of_nonneg, e47, h76, R_isBlind_eq hw hg hT hG, q]
    · rw [if_pos q]
      exact hT
  · have hT1 := hT.h5 (v := (25173 * t 0 5 + 13849) % 65536)
    have hf : RF M (am_up M 73 2 ((25173 * t 0 5 + 13849) % 65536)) := RF.rf.up (by decide)
    obtain ⟨N, e1, f1⟩ := R_straying_eq (p := (k : Int) + 1) hF (hL.rf hf) hg (hw.h5 (by omega)) (hG.rf hf) hT1 (by omega) (by simp (disch := omega) only [c_lt_p, c_eq_p, c_ne_p, c_ge_p, c_gt_p, c_le_p, rd_p, wa_p, wz_p, w8_p, fz_p, fw_p, tw_p, ck_p, ob_s, oc_s, if_pos, if_neg, am_upo, up_s, ne_eq, not_true_eq_false, not_false_eq_true, true_or, or_true, true_and, and_true, false_and, and_false, ck_t, reduceIte, Int.tmod_eq_emod_of_nonneg, Int.tdiv_eq_ediv_of_nonneg]; omega)
    rw [erS_h (by decide) (by decide)] at e1
    have he := erS_b hF g t ((k : Int) + 1)
    refine ⟨N, ?_, ?_, hf.tr f1.rf', ?_⟩
    · rw [R_home_10]
      unfold R_home_55 R_draw
      by_cases hc : erS F g t ((k : Int) + 1) ≤ ((25173 * t 0 5 + 13849) % 65536) % 10
      · simp (disch := omega) only [c_lt_p, c_eq_p, c_ne_p, c_ge_p, c_gt_p, c_le_p, rd_p, wa_p, wz_p, w8_p, fz_p, fw_p, tw_p, ck_p, ob_s, oc_s, if_pos, if_neg, am_upo, up_s, ne_eq, not_true_eq_false, not_false_eq_true, true_or, or_true, true_and, and_true, false_and, and_false, ck_t, reduceIte, Int.tmod_eq_emod_of_nonneg, Int.tdiv_eq_ediv_of_nonneg, e47, h76, R_isBlind_eq hw hg hT hG, q, e2, e1]
      · simp (disch := omega) only [c_lt_p, c_eq_p, c_ne_p, c_ge_p, c_gt_p, c_le_p, rd_p, wa_p, wz_p, w8_p, fz_p, fw_p, tw_p, ck_p, ob_s, oc_s, if_pos, if_neg, am_upo, up_s, ne_eq, not_true_eq_false, not_false_eq_true, true_or, or_true, true_and, and_true, false_and, and_false, ck_t, reduceIte, Int.tmod_eq_emod_of_nonneg, Int.tdiv_eq_ediv_of_nonneg, e47, h76, R_isBlind_eq hw hg hT hG, q, e2, e1]
    · rw [if_neg (by omega)]
      exact hT1.lg f1
    · rw [f1.2 76 (by decide)]
      simp (disch := omega) only [c_lt_p, c_eq_p, c_ne_p, c_ge_p, c_gt_p, c_le_p, rd_p, wa_p, wz_p, w8_p, fz_p, fw_p, tw_p, ck_p, ob_s, oc_s, if_pos, if_neg, am_upo, up_s, ne_eq, not_true_eq_false, not_false_eq_true, true_or, or_true, true_and, and_true, false_and, and_false, ck_t, reduceIte, Int.tmod_eq_emod_of_nonneg, Int.tdiv_eq_ediv_of_nonneg]
      exact h76
theorem Rhome_lp {F : FT} {g : am_M} (hF : FO F) (hg : WG g) : ∀ (k n : Nat) (t M : am_M) (x : Int), (k : Int) = t 0 2 → k + 1 < n → am_R x → WT t → LWR F M → GR g M → TR t M → M 73 76 = 0 → ∃ N, R_home_10 n x M = some ((hmT F g k t) 0 3 - x, N) ∧ TR (hmT F g k t) N ∧ RF M N
  | 0, n + 1, t, M, x, hk, hn, hx, hw, hL, hG, hT, h76 => by
    have e44 : M 73 44 = t 0 3 := hT.1.2.2.2.1
    have e47 : M 73 47 = 0 := by rw [hT.1.2.2.1]; omega
    refine ⟨M, ?_, hT, RF.rf⟩
    unfold R_home_10 R_home_90 hmT
    simp (disch := omega) only [c_lt_p, c_eq_p, c_ne_p, c_ge_p, c_gt_p, c_le_p, rd_p, wa_p, wz_p, w8_p, fz_p, fw_p, tw_p, ck_p, ob_s, oc_s, if_pos, if_neg, am_upo, up_s, ne_eq, not_true_eq_false, not_false_eq_true, true_or, or_true, true_and, and_true, false_and, and_false, ck_t, reduceIte, Int.tmod_eq_emod_of_nonneg, Int.tdiv_eq_ediv_of_nonneg, e44, e47]
  | k + 1, n + 1, t, M, x, hk, hn, hx, hw, hL, hG, hT, h76 => by
    have hl := hw.1
    have hg1 := hg.1
    have h1 := waS_b hF g t k 2
    have h2 := asS_b F g t k
    obtain ⟨N1, e1, g1, f1, z1⟩ := RhomeA hF hL hg hw hG hT (k := k) (n := n) (x := x) (by omega) h76
    have h3 := dwT_W (g := g) (k := k) hw
    have d1 := dwT_e (g := g) (t := t) (k := k) (j := 1) (by decide)
    have d2 := dwT_e (g := g) (t := t) (k := k) (j := 2) (by decide)
    have d3 := dwT_e (g := g) (t := t) (k := k) (j := 3) (by decide)
    have dw : waS F g (dwT g t k) k 2 = waS F g t k 2 := by
      unfold dwT
      split
      · rfl
      · exact waS_h (by decide) (by decide)
    obtain ⟨N2, e2, f2⟩ := R_walkingTo_eq (p := (k : Int)) (f := 2) hF (hL.rf f1) hg h3 (hG.rf f1) g1 (by omega) (by omega) (Or.inr rfl)
    rw [dw] at e2
    have e47 : N1 73 47 = (k : Int) + 1 := by rw [g1.1.2.2.1, d2]; omega
    have f3 := f1.tr f2.rf'
    have g2 := g1.lg f2
    have e3 := R_passes_eq (w := waS F g t k 2 + asS F g t k) hg h3 (hG.rf f3) g2 (by omega) (by omega)
    rw [d3] at e3
    have e47' : N2 73 47 = (k : Int) + 1 := by rw [g2.1.2.2.1, d2]; omega
    have z2 : N2 73 76 = 0 := by rw [f2.2 76 (by decide)]; exact z1
    by_cases hc : t 0 3 + (waS F g t k 2 + asS F g t k) ≤ g 0 2
    · rw [if_pos hc] at e3
      have hT3 := (g2.h3 (v := t 0 3 + (waS F g t k 2 + asS F g t k))).h2 (v := (k : Int))
      have hw3 := (h3.h3 (v := t 0 3 + (waS F g t k 2 + asS F g t k)) (by omega)).h2 (v := (k : Int)) (by rw [upx (by decide), d1]; omega)
      have f4 : RF M (am_up (am_up N2 73 44 (t 0 3 + (waS F g t k 2 + asS F g t k))) 73 47 (k : Int)) := (f3.up (by decide)).up (by decide)
      obtain ⟨N, e5, g5, f5⟩ := Rhome_lp hF hg k n _ _ x (by rw [upj]) (by omega) hx hw3 (hL.rf f4) (hG.rf f4) hT3 (by simp (disch := omega) only [c_lt_p, c_eq_p, c_ne_p, c_ge_p, c_gt_p, c_le_p, rd_p, wa_p, wz_p, w8_p, fz_p, fw_p, tw_p, ck_p, ob_s, oc_s, if_pos, if_neg, am_upo, up_s, ne_eq, not_true_eq_false, not_false_eq_true, true_or, or_true, true_and, and_true, false_and, and_false, ck_t, reduceIte, Int.tmod_eq_emod_of_nonneg, Int.tdiv_eq_ediv_of_nonneg]; exact z2)
      refine ⟨N, ?_, ?_, f4.tr f5⟩
      · rw [e1]
        unfold R_home_56 R_home_87 hmT
        rw [e47, show (k : Int) + 1 - 1 = (k : Int) by omega]
        simp (disch := omega) only [c_lt_p, c_eq_p, c_ne_p, c_ge_p, c_gt_p, c_le_p, rd_p, wa_p, wz_p, w8_p, fz_p, fw_p, tw_p, ck_p, ob_s, oc_s, if_pos, if_neg, am_upo, up_s, ne_eq, not_true_eq_false, not_false_eq_true, true_or, or_true, true_and, and_true, false_and, and_false, ck_t, reduceIte, Int.tmod_eq_emod_of_nonneg, Int.tdiv_eq_ediv_of_nonneg, e2, e3, e47']
        rw [show (k : Int) + 1 - 1 = (k : Int) by omega]
        exact e5
      · unfold hmT
        rw [if_pos hc]
        exact g5
    · rw [if_neg hc] at e3
      refine ⟨am_up N2 73 76 1, ?_, ?_, f3.up (by decide)⟩
      · obtain ⟨n', rfl⟩ : ∃ n', n = n' + 1 := ⟨n - 1, by omega⟩
        rw [e1]
        unfold R_home_56 R_home_87 hmT
        rw [e47, show (k : Int) + 1 - 1 = (k : Int) by omega]
        simp (disch := omega) only [c_lt_p, c_eq_p, c_ne_p, c_ge_p, c_gt_p, c_le_p, rd_p, wa_p, wz_p, w8_p, fz_p, fw_p, tw_p, ck_p, ob_s, oc_s, if_pos, if_neg, am_upo, up_s, ne_eq, not_true_eq_false, not_false_eq_true, true_or, or_true, true_and, and_true, false_and, and_false, ck_t, reduceIte, Int.tmod_eq_emod_of_nonneg, Int.tdiv_eq_ediv_of_nonneg, e2, e3]
        have e44 : N2 73 44 = t 0 3 := by rw [g2.1.2.2.2.1, d3]
        unfold R_home_10 R_home_90
        simp (disch := omega) only [c_lt_p, c_eq_p, c_ne_p, c_ge_p, c_gt_p, c_le_p, rd_p, wa_p, wz_p, w8_p, fz_p, fw_p, tw_p, ck_p, ob_s, oc_s, if_pos, if_neg, am_upo, up_s, ne_eq, not_true_eq_false, not_false_eq_true, true_or, or_true, true_and, and_true, false_and, and_false, ck_t, reduceIte, Int.tmod_eq_emod_of_nonneg, Int.tdiv_eq_ediv_of_nonneg, e47', e44, d3]
      · unfold hmT
        rw [if_neg hc]
        exact g2.o (by decide)
theorem P_home_ok {n : Nat} : OK2 n P_home R_home := by
  refine OK2.of (lp := [12, 13, 26]) (lr := [73, 90, 91]) (by decide) (by decide) (fun M r h => P_home_c M r h) (fun M r h => R_home_c M r h) (fun F g t u hW => ?_)
  have hl := hW.2.1.1
  have hF := hW.2.2.2.2
  have hw := hmT_W hF hW.1 (t 0 2).toNat t hW.2.1 (by omega)
  have hl1 := hw.1.1
  refine ⟨(hmT F g (t 0 2).toNat t) 0 3 - t 0 3, F, g, hmT F g (t 0 2).toNat t, u, by omega, ⟨hW.1, hw.1, by rw [hw.2.1]; exact hW.2.2.1, hW.2.2.2.1, hF⟩, fun M hC => ?_, fun M hR => ?_⟩
  · obtain ⟨h1, h2, h3, h4, h5⟩ := hC
    obtain ⟨N, e1, g1, f1⟩ := goHome_lp hF hW.1 (t 0 2).toNat am_big t M (t 0 3) (by omega) (by show _ < 1000000; omega) (by omega) hW.2.1 h4 h1 h2
    have e11 : M 26 11 = ((t 0 2).toNat : Int) := by rw [h2.1.2.2.1]; omega
    have e12 : M 26 12 = t 0 3 := h2.1.2.2.2.1
    refine ⟨N, ?_, h1.wf f1 (by decide), g1, fun q => (h3 q).wf f1 (by decide), h4.wf f1 (by decide), (h5.wf f1 (by decide)).cg (fun _ _ _ => rfl) (by omega)⟩
    unfold P_home Trip_goHome_26
    rw [e11, e12, e1, oc_s]
  · obtain ⟨h1, h2, h3, h4⟩ := hR
    have f0 : RF M (am_up M 73 76 0) := RF.rf.up (by decide)
    obtain ⟨N, e1, g1, f1⟩ := Rhome_lp hF hW.1 (t 0 2).toNat am_big t (am_up M 73 76 0) (t 0 3) (by omega) (by show _ < 1000000; omega) (by omega) hW.2.1 (h4.rf f0) (h1.rf f0) (h2.o (by decide)) (by simp (disch := omega) only [c_lt_p, c_eq_p, c_ne_p, c_ge_p, c_gt_p, c_le_p, rd_p, wa_p, wz_p, w8_p, fz_p, fw_p, tw_p, ck_p, ob_s, oc_s, if_pos, if_neg, am_upo, up_s, ne_eq, not_true_eq_false, not_false_eq_true, true_or, or_true, true_and, and_true, false_and, and_false, ck_t, reduceIte, Int.tmod_eq_emod_of_nonneg, Int.tdiv_eq_ediv_of_nonneg])
    have e44 : M 73 44 = t 0 3 := h2.1.2.2.2.1
    refine ⟨N, ?_, (h1.rf f0).rf f1, g1, fun q => ((h3 q).rf f0).rf f1, (h4.rf f0).rf f1⟩
    unfold R_home
    simp (disch := omega) only [c_lt_p, c_eq_p, c_ne_p, c_ge_p, c_gt_p, c_le_p, rd_p, wa_p, wz_p, w8_p, fz_p, fw_p, tw_p, ck_p, ob_s, oc_s, if_pos, if_neg, am_upo, up_s, ne_eq, not_true_eq_false, not_false_eq_true, true_or, or_true, true_and, and_true, false_and, and_false, ck_t, reduceIte, Int.tmod_eq_emod_of_nonneg, Int.tdiv_eq_ediv_of_nonneg, e44]
    exact e1
