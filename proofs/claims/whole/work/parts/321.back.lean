-- the way back
def mbS (F : FT) (g t : am_M) : Nat → Int
  | 0 => 0
  | k + 1 => mbS F g t k + waS F g t k 2
theorem mbS_b {F : FT} (hF : FO F) (g t : am_M) : ∀ k : Nat, 0 ≤ mbS F g t k ∧ mbS F g t k ≤ 60 * k
  | 0 => by unfold mbS; omega
  | k + 1 => by
    have := mbS_b hF g t k
    have := waS_b hF g t k 2
    unfold mbS
    omega
def fbS (g t : am_M) : Nat → Int
  | 0 => 0
  | k + 1 => fbS g t k + fkS t g ((k : Int) + 1)
def bbS (g t : am_M) : Nat → Int
  | 0 => 0
  | k + 1 => bbS g t k + blS t g ((k : Int) + 1)
def fiS (g t : am_M) : Nat → Int
  | 0 => -2
  | k + 1 => if blS t g ((k : Int) + 1) = 0 then fiS g t k else (k : Int) + 1
theorem blS_01 (t g : am_M) (p : Int) : blS t g p = 0 ∨ blS t g p = 1 := by
  unfold blS
  split
  · exact Or.inr rfl
  · exact Or.inl rfl
theorem fbS_b (g t : am_M) : ∀ k : Nat, 0 ≤ fbS g t k ∧ fbS g t k ≤ k
  | 0 => by unfold fbS; omega
  | k + 1 => by
    have := fbS_b g t k
    have := fkS_01 t g ((k : Int) + 1)
    unfold fbS
    omega
theorem bbS_b (g t : am_M) : ∀ k : Nat, 0 ≤ bbS g t k ∧ bbS g t k ≤ k
  | 0 => by unfold bbS; omega
  | k + 1 => by
    have := bbS_b g t k
    have := blS_01 t g ((k : Int) + 1)
    unfold bbS
    omega
theorem fiS_b (g t : am_M) : ∀ k : Nat, fiS g t k = -2 ∨ (0 ≤ fiS g t k ∧ fiS g t k ≤ k)
  | 0 => by unfold fiS; omega
  | k + 1 => by
    have := fiS_b g t k
    unfold fiS
    split <;> omega
theorem Trip_minutesBack_26_lp {F : FT} {g t : am_M} (hF : FO F) (hg : WG g) (hw : WT t) : ∀ (k n : Nat) (a : Int) (M : am_M), k ≤ 100 → k < n → 0 ≤ a → a + 60 * k ≤ 6000 → LWP F M → GP g M → TP 26 t M → ∃ N, Trip_minutesBack_26_9 n a ((k : Int) - 1) M = some (a + mbS F g t k, N) ∧ LF M N
  | 0, n + 1, a, M, hk, hn, h0, h1, hL, hG, hT => by
    refine ⟨M, ?_, LF.rf⟩
    unfold Trip_minutesBack_26_9 mbS
    simp (disch := omega) only [c_lt_p, c_eq_p, c_ne_p, c_ge_p, c_gt_p, c_le_p, rd_p, wa_p, wz_p, w8_p, fz_p, fw_p, tw_p, ck_p, ob_s, oc_s, if_pos, if_neg, am_upo, up_s, ne_eq, not_true_eq_false, not_false_eq_true, true_or, or_true, true_and, and_true, false_and, and_false, ck_t, reduceIte, Int.tmod_eq_emod_of_nonneg, Int.tdiv_eq_ediv_of_nonneg]
    rw [Int.add_zero]
  | k + 1, n + 1, a, M, hk, hn, h0, h1, hL, hG, hT => by
    obtain ⟨N1, e1, f1⟩ := Trip_minutesOnto_26_eq (p := (k : Int)) (f := 2) hF hL hg hw hG hT (by omega) (Or.inr rfl)
    have hb := waS_b hF g t k 2
    obtain ⟨N, e2, f2⟩ := Trip_minutesBack_26_lp hF hg hw k n (a + waS F g t k 2) N1 (by omega) (by omega) (by omega) (by omega) (hL.lf f1) (hG.lf f1) (hT.lf f1 (by decide))
    refine ⟨N, ?_, f1.tr f2⟩
    unfold Trip_minutesBack_26_9 mbS
    rw [show (((k + 1 : Nat) : Int) - 1) = (k : Int) by omega]
    simp (disch := omega) only [c_lt_p, c_eq_p, c_ne_p, c_ge_p, c_gt_p, c_le_p, rd_p, wa_p, wz_p, w8_p, fz_p, fw_p, tw_p, ck_p, ob_s, oc_s, if_pos, if_neg, am_upo, up_s, ne_eq, not_true_eq_false, not_false_eq_true, true_or, or_true, true_and, and_true, false_and, and_false, ck_t, reduceIte, Int.tmod_eq_emod_of_nonneg, Int.tdiv_eq_ediv_of_nonneg, e1]
    rw [show ((k : Int) + -1) = (k : Int) - 1 by omega, e2, show a + waS F g t k 2 + mbS F g t k = a + (mbS F g t k + waS F g t k 2) by omega]
theorem Trip_minutesBack_26_eq {F : FT} {g t M : am_M} (hF : FO F) (hg : WG g) (hw : WT t) (hL : LWP F M) (hG : GP g M) (hT : TP 26 t M) : ∃ N, Trip_minutesBack_26 M = some (mbS F g t (t 0 2).toNat, N) ∧ LF M N := by
  have hl := hw.1
  obtain ⟨N, e, f⟩ := Trip_minutesBack_26_lp (F := F) (g := g) (t := t) hF hg hw (t 0 2).toNat am_big 0 M (by omega) (by show _ < 1000000; omega) (by omega) (by omega) hL hG hT
  refine ⟨N, ?_, f⟩
  have e1 : M 26 11 = t 0 2 := hT.1.2.2.1
  unfold Trip_minutesBack_26
  rw [e1, show t 0 2 - 1 = (((t 0 2).toNat : Nat) : Int) - 1 by omega, e, Int.zero_add]
theorem Trip_minutesBack_34_lp {F : FT} {g t : am_M} (hF : FO F) (hg : WG g) (hw : WT t) : ∀ (k n : Nat) (a : Int) (M : am_M), k ≤ 100 → k < n → 0 ≤ a → a + 60 * k ≤ 6000 → LWP F M → GP g M → TP 34 t M → ∃ N, Trip_minutesBack_34_9 n a ((k : Int) - 1) M = some (a + mbS F g t k, N) ∧ LF M N
  | 0, n + 1, a, M, hk, hn, h0, h1, hL, hG, hT => by
    refine ⟨M, ?_, LF.rf⟩
    unfold Trip_minutesBack_34_9 mbS
    simp (disch := omega) only [c_lt_p, c_eq_p, c_ne_p, c_ge_p, c_gt_p, c_le_p, rd_p, wa_p, wz_p, w8_p, fz_p, fw_p, tw_p, ck_p, ob_s, oc_s, if_pos, if_neg, am_upo, up_s, ne_eq, not_true_eq_false, not_false_eq_true, true_or, or_true, true_and, and_true, false_and, and_false, ck_t, reduceIte, Int.tmod_eq_emod_of_nonneg, Int.tdiv_eq_ediv_of_nonneg]
    rw [Int.add_zero]
  | k + 1, n + 1, a, M, hk, hn, h0, h1, hL, hG, hT => by
    obtain ⟨N1, e1, f1⟩ := Trip_minutesOnto_34_eq (p := (k : Int)) (f := 2) hF hL hg hw hG hT (by omega) (Or.inr rfl)
    have hb := waS_b hF g t k 2
    obtain ⟨N, e2, f2⟩ := Trip_minutesBack_34_lp hF hg hw k n (a + waS F g t k 2) N1 (by omega) (by omega) (by omega) (by omega) (hL.lf f1) (hG.lf f1) (hT.lf f1 (by decide))
    refine ⟨N, ?_, f1.tr f2⟩
    unfold Trip_minutesBack_34_9 mbS
    rw [show (((k + 1 : Nat) : Int) - 1) = (k : Int) by omega]
    simp (disch := omega) only [c_lt_p, c_eq_p, c_ne_p, c_ge_p, c_gt_p, c_le_p, rd_p, wa_p, wz_p, w8_p, fz_p, fw_p, tw_p, ck_p, ob_s, oc_s, if_pos, if_neg, am_upo, up_s, ne_eq, not_true_eq_false, not_false_eq_true, true_or, or_true, true_and, and_true, false_and, and_false, ck_t, reduceIte, Int.tmod_eq_emod_of_nonneg, Int.tdiv_eq_ediv_of_nonneg, e1]
    rw [show ((k : Int) + -1) = (k : Int) - 1 by omega, e2, show a + waS F g t k 2 + mbS F g t k = a + (mbS F g t k + waS F g t k 2) by omega]
theorem Trip_minutesBack_34_eq {F : FT} {g t M : am_M} (hF : FO F) (hg : WG g) (hw : WT t) (hL : LWP F M) (hG : GP g M) (hT : TP 34 t M) : ∃ N, Trip_minutesBack_34 M = some (mbS F g t (t 0 2).toNat, N) ∧ LF M N := by
  have hl := hw.1
  obtain ⟨N, e, f⟩ := Trip_minutesBack_34_lp (F := F) (g := g) (t := t) hF hg hw (t 0 2).toNat am_big 0 M (by omega) (by show _ < 1000000; omega) (by omega) (by omega) hL hG hT
  refine ⟨N, ?_, f⟩
  have e1 : M 34 11 = t 0 2 := hT.1.2.2.1
  unfold Trip_minutesBack_34
  rw [e1, show t 0 2 - 1 = (((t 0 2).toNat : Nat) : Int) - 1 by omega, e, Int.zero_add]
theorem Trip_forksBack_lp {g t M : am_M} (hg : WG g) (hw : WT t) (hG : GP g M) (hT : TP 26 t M) : ∀ (k n : Nat) (a : Int), (k : Int) < t 0 1 → k < n → 0 ≤ a → a + k ≤ 100 → Trip_forksBack_26_7 n a (k : Int) M = some (a + fbS g t k)
  | 0, n + 1, a, hk, hn, h0, h1 => by
    unfold Trip_forksBack_26_7 fbS
    simp (disch := omega) only [c_lt_p, c_eq_p, c_ne_p, c_ge_p, c_gt_p, c_le_p, rd_p, wa_p, wz_p, w8_p, fz_p, fw_p, tw_p, ck_p, ob_s, oc_s, if_pos, if_neg, am_upo, up_s, ne_eq, not_true_eq_false, not_false_eq_true, true_or, or_true, true_and, and_true, false_and, and_false, ck_t, reduceIte, Int.tmod_eq_emod_of_nonneg, Int.tdiv_eq_ediv_of_nonneg]
    rw [Int.add_zero]
  | k + 1, n + 1, a, hk, hn, h0, h1 => by
    have hl := hw.1
    have hf := fkS_01 t g ((k : Int) + 1)
    have e2 := Trip_forksBack_lp hg hw hG hT k n (a + fkS t g ((k : Int) + 1)) (by omega) (by omega) (by omega) (by omega)
    unfold Trip_forksBack_26_7 Trip_forksBack_26_25 fbS
    rw [show (((k + 1 : Nat) : Int)) = (k : Int) + 1 by omega]
    rw [show (k : Int) + 1 + -1 = (k : Int) by omega]
    rcases hf with q | q
    · rw [q] at e2 ⊢
      simp (disch := omega) only [c_lt_p, c_eq_p, c_ne_p, c_ge_p, c_gt_p, c_le_p, rd_p, wa_p, wz_p, w8_p, fz_p, fw_p, tw_p, ck_p, ob_s, oc_s, if_pos, if_neg, am_upo, up_s, ne_eq, not_true_eq_false, not_false_eq_true, true_or, or_true, true_and, and_true, false_and, and_false, ck_t, reduceIte, Int.tmod_eq_emod_of_nonneg, Int.tdiv_eq_ediv_of_nonneg, Trip_isFork_26_eq hw hg hT hG, q]
      rw [e2]
      congr 1
      omega
    · rw [q] at e2 ⊢
      simp (disch := omega) only [c_lt_p, c_eq_p, c_ne_p, c_ge_p, c_gt_p, c_le_p, rd_p, wa_p, wz_p, w8_p, fz_p, fw_p, tw_p, ck_p, ob_s, oc_s, if_pos, if_neg, am_upo, up_s, ne_eq, not_true_eq_false, not_false_eq_true, true_or, or_true, true_and, and_true, false_and, and_false, ck_t, reduceIte, Int.tmod_eq_emod_of_nonneg, Int.tdiv_eq_ediv_of_nonneg, Trip_isFork_26_eq hw hg hT hG, q]
      rw [e2]
      congr 1
      omega
theorem Trip_blindBack_lp {g t M : am_M} (hg : WG g) (hw : WT t) (hG : GP g M) (hT : TP 26 t M) : ∀ (k n : Nat) (a : Int), (k : Int) < t 0 1 → k < n → 0 ≤ a → a + k ≤ 100 → Trip_blindBack_26_7 n a (k : Int) M = some (a + bbS g t k)
  | 0, n + 1, a, hk, hn, h0, h1 => by
    unfold Trip_blindBack_26_7 bbS
    simp (disch := omega) only [c_lt_p, c_eq_p, c_ne_p, c_ge_p, c_gt_p, c_le_p, rd_p, wa_p, wz_p, w8_p, fz_p, fw_p, tw_p, ck_p, ob_s, oc_s, if_pos, if_neg, am_upo, up_s, ne_eq, not_true_eq_false, not_false_eq_true, true_or, or_true, true_and, and_true, false_and, and_false, ck_t, reduceIte, Int.tmod_eq_emod_of_nonneg, Int.tdiv_eq_ediv_of_nonneg]
    rw [Int.add_zero]
  | k + 1, n + 1, a, hk, hn, h0, h1 => by
    have hl := hw.1
    have hf := blS_01 t g ((k : Int) + 1)
    have e2 := Trip_blindBack_lp hg hw hG hT k n (a + blS t g ((k : Int) + 1)) (by omega) (by omega) (by omega) (by omega)
    unfold Trip_blindBack_26_7 Trip_blindBack_26_25 bbS
    rw [show (((k + 1 : Nat) : Int)) = (k : Int) + 1 by omega]
    rw [show (k : Int) + 1 + -1 = (k : Int) by omega]
    rcases hf with q | q
    · rw [q] at e2 ⊢
      simp (disch := omega) only [c_lt_p, c_eq_p, c_ne_p, c_ge_p, c_gt_p, c_le_p, rd_p, wa_p, wz_p, w8_p, fz_p, fw_p, tw_p, ck_p, ob_s, oc_s, if_pos, if_neg, am_upo, up_s, ne_eq, not_true_eq_false, not_false_eq_true, true_or, or_true, true_and, and_true, false_and, and_false, ck_t, reduceIte, Int.tmod_eq_emod_of_nonneg, Int.tdiv_eq_ediv_of_nonneg, Trip_isBlind_26_eq hw hg hT hG, q]
      rw [e2]
      congr 1
      omega
    · rw [q] at e2 ⊢
      simp (disch := omega) only [c_lt_p, c_eq_p, c_ne_p, c_ge_p, c_gt_p, c_le_p, rd_p, wa_p, wz_p, w8_p, fz_p, fw_p, tw_p, ck_p, ob_s, oc_s, if_pos, if_neg, am_upo, up_s, ne_eq, not_true_eq_false, not_false_eq_true, true_or, or_true, true_and, and_true, false_and, and_false, ck_t, reduceIte, Int.tmod_eq_emod_of_nonneg, Int.tdiv_eq_ediv_of_nonneg, Trip_isBlind_26_eq hw hg hT hG, q]
      rw [e2]
      congr 1
      omega
theorem Trip_firstBlindBack_lp {g t M : am_M} (hg : WG g) (hw : WT t) (hG : GP g M) (hT : TP 26 t M) : ∀ (k n : Nat), (k : Int) < t 0 1 → k + 1 < n → Trip_firstBlindBack_26_8 n (-2) (k : Int) M = some (fiS g t k)
  | 0, n + 1, hk, hn => by
    unfold Trip_firstBlindBack_26_8 Trip_firstBlindBack_26_37 fiS
    simp (disch := omega) only [c_lt_p, c_eq_p, c_ne_p, c_ge_p, c_gt_p, c_le_p, rd_p, wa_p, wz_p, w8_p, fz_p, fw_p, tw_p, ck_p, ob_s, oc_s, if_pos, if_neg, am_upo, up_s, ne_eq, not_true_eq_false, not_false_eq_true, true_or, or_true, true_and, and_true, false_and, and_false, ck_t, reduceIte, Int.tmod_eq_emod_of_nonneg, Int.tdiv_eq_ediv_of_nonneg]
  | k + 1, n + 1, hk, hn => by
    have hl := hw.1
    have hf := blS_01 t g ((k : Int) + 1)
    have e2 := Trip_firstBlindBack_lp hg hw hG hT k n (by omega) (by omega)
    unfold Trip_firstBlindBack_26_8 Trip_firstBlindBack_26_30 fiS
    rw [show (((k + 1 : Nat) : Int)) = (k : Int) + 1 by omega]
    rw [show (k : Int) + 1 + -1 = (k : Int) by omega]
    rcases hf with q | q
    · simp (disch := omega) only [c_lt_p, c_eq_p, c_ne_p, c_ge_p, c_gt_p, c_le_p, rd_p, wa_p, wz_p, w8_p, fz_p, fw_p, tw_p, ck_p, ob_s, oc_s, if_pos, if_neg, am_upo, up_s, ne_eq, not_true_eq_false, not_false_eq_true, true_or, or_true, true_and, and_true, false_and, and_false, ck_t, reduceIte, Int.tmod_eq_emod_of_nonneg, Int.tdiv_eq_ediv_of_nonneg, Trip_isBlind_26_eq hw hg hT hG, q]
      exact e2
    · simp (disch := omega) only [c_lt_p, c_eq_p, c_ne_p, c_ge_p, c_gt_p, c_le_p, rd_p, wa_p, wz_p, w8_p, fz_p, fw_p, tw_p, ck_p, ob_s, oc_s, if_pos, if_neg, am_upo, up_s, ne_eq, not_true_eq_false, not_false_eq_true, true_or, or_true, true_and, and_true, false_and, and_false, ck_t, reduceIte, Int.tmod_eq_emod_of_nonneg, Int.tdiv_eq_ediv_of_nonneg, Trip_isBlind_26_eq hw hg hT hG, q]
      obtain ⟨n', rfl⟩ : ∃ n', n = n' + 1 := ⟨n - 1, by omega⟩
      unfold Trip_firstBlindBack_26_8 Trip_firstBlindBack_26_37
      by_cases hk0 : (k : Int) ≤ 0
      · simp (disch := omega) only [c_lt_p, c_eq_p, c_ne_p, c_ge_p, c_gt_p, c_le_p, rd_p, wa_p, wz_p, w8_p, fz_p, fw_p, tw_p, ck_p, ob_s, oc_s, if_pos, if_neg, am_upo, up_s, ne_eq, not_true_eq_false, not_false_eq_true, true_or, or_true, true_and, and_true, false_and, and_false, ck_t, reduceIte, Int.tmod_eq_emod_of_nonneg, Int.tdiv_eq_ediv_of_nonneg]
      · simp (disch := omega) only [c_lt_p, c_eq_p, c_ne_p, c_ge_p, c_gt_p, c_le_p, rd_p, wa_p, wz_p, w8_p, fz_p, fw_p, tw_p, ck_p, ob_s, oc_s, if_pos, if_neg, am_upo, up_s, ne_eq, not_true_eq_false, not_false_eq_true, true_or, or_true, true_and, and_true, false_and, and_false, ck_t, reduceIte, Int.tmod_eq_emod_of_nonneg, Int.tdiv_eq_ediv_of_nonneg]
def bkS (F : FT) (g t : am_M) (x : Int) : Int := if x = 0 then mbS F g t (t 0 2).toNat else if x = 1 then fbS g t (t 0 2).toNat else if x = 2 then bbS g t (t 0 2).toNat else if x = 3 then fiS g t (t 0 2).toNat else -1
theorem bkS_b {F : FT} (hF : FO F) {g t : am_M} (hw : WT t) (x : Int) : -2 ≤ bkS F g t x ∧ bkS F g t x ≤ 6000 := by
  have hl := hw.1
  have h1 := mbS_b hF g t (t 0 2).toNat
  have h2 := fbS_b g t (t 0 2).toNat
  have h3 := bbS_b g t (t 0 2).toNat
  have h4 := fiS_b g t (t 0 2).toNat
  unfold bkS
  repeat' split
  all_goals omega
theorem Trip_blindBack_eq {g t M : am_M} (hg : WG g) (hw : WT t) (hG : GP g M) (hT : TP 26 t M) : Trip_blindBack_26 M = some (bbS g t (t 0 2).toNat) := by
  have hl := hw.1
  have e11 : M 26 11 = ((t 0 2).toNat : Int) := by rw [hT.1.2.2.1]; omega
  have e := Trip_blindBack_lp hg hw hG hT (t 0 2).toNat am_big 0 (by omega) (by show _ < 1000000; omega) (by omega) (by omega)
  unfold Trip_blindBack_26
  rw [e11, e, Int.zero_add]
theorem P_back_eq {F : FT} {g t M : am_M} (hF : FO F) (hg : WG g) (hw : WT t) (hL : LWP F M) (hG : GP g M) (hT : TP 26 t M) {x : Int} (hx : am_R x) : ∃ N, P_back x M = some (bkS F g t x, N) ∧ LF M N := by
  have hl := hw.1
  have e11 : M 26 11 = ((t 0 2).toNat : Int) := by rw [hT.1.2.2.1]; omega
  unfold P_back bkS
  by_cases h0 : x = 0
  · obtain ⟨N, e, f⟩ := Trip_minutesBack_26_eq hF hg hw hL hG hT
    refine ⟨N, ?_, f⟩
    simp (disch := omega) only [c_lt_p, c_eq_p, c_ne_p, c_ge_p, c_gt_p, c_le_p, rd_p, wa_p, wz_p, w8_p, fz_p, fw_p, tw_p, ck_p, ob_s, oc_s, if_pos, if_neg, am_upo, up_s, ne_eq, not_true_eq_false, not_false_eq_true, true_or, or_true, true_and, and_true, false_and, and_false, ck_t, reduceIte, Int.tmod_eq_emod_of_nonneg, Int.tdiv_eq_ediv_of_nonneg, e]
  · refine ⟨M, ?_, LF.rf⟩
    by_cases h1 : x = 1
    · have e := Trip_forksBack_lp hg hw hG hT (t 0 2).toNat am_big 0 (by omega) (by show _ < 1000000; omega) (by omega) (by omega)
      unfold Trip_forksBack_26
      simp (disch := omega) only [c_lt_p, c_eq_p, c_ne_p, c_ge_p, c_gt_p, c_le_p, rd_p, wa_p, wz_p, w8_p, fz_p, fw_p, tw_p, ck_p, ob_s, oc_s, if_pos, if_neg, am_upo, up_s, ne_eq, not_true_eq_false, not_false_eq_true, true_or, or_true, true_and, and_true, false_and, and_false, ck_t, reduceIte, Int.tmod_eq_emod_of_nonneg, Int.tdiv_eq_ediv_of_nonneg, e11, e]
      rw [Int.zero_add]
    · by_cases h2 : x = 2
      · simp (disch := omega) only [c_lt_p, c_eq_p, c_ne_p, c_ge_p, c_gt_p, c_le_p, rd_p, wa_p, wz_p, w8_p, fz_p, fw_p, tw_p, ck_p, ob_s, oc_s, if_pos, if_neg, am_upo, up_s, ne_eq, not_true_eq_false, not_false_eq_true, true_or, or_true, true_and, and_true, false_and, and_false, ck_t, reduceIte, Int.tmod_eq_emod_of_nonneg, Int.tdiv_eq_ediv_of_nonneg, Trip_blindBack_eq hg hw hG hT]
      · by_cases h3 : x = 3
        · have e := Trip_firstBlindBack_lp hg hw hG hT (t 0 2).toNat am_big (by omega) (by show _ < 1000000; omega)
          unfold Trip_firstBlindBack_26
          simp (disch := omega) only [c_lt_p, c_eq_p, c_ne_p, c_ge_p, c_gt_p, c_le_p, rd_p, wa_p, wz_p, w8_p, fz_p, fw_p, tw_p, ck_p, ob_s, oc_s, if_pos, if_neg, am_upo, up_s, ne_eq, not_true_eq_false, not_false_eq_true, true_or, or_true, true_and, and_true, false_and, and_false, ck_t, reduceIte, Int.tmod_eq_emod_of_nonneg, Int.tdiv_eq_ediv_of_nonneg, e11, e]
        · simp (disch := omega) only [c_lt_p, c_eq_p, c_ne_p, c_ge_p, c_gt_p, c_le_p, rd_p, wa_p, wz_p, w8_p, fz_p, fw_p, tw_p, ck_p, ob_s, oc_s, if_pos, if_neg, am_upo, up_s, ne_eq, not_true_eq_false, not_false_eq_true, true_or, or_true, true_and, and_true, false_and, and_false, ck_t, reduceIte, Int.tmod_eq_emod_of_nonneg, Int.tdiv_eq_ediv_of_nonneg]
theorem R_minutesBack_lp {F : FT} {g t : am_M} (hF : FO F) (hg : WG g) (hw : WT t) : ∀ (k n : Nat) (a : Int) (M : am_M), (k : Int) < t 0 1 → k < n → 0 ≤ a → a + 60 * k ≤ 6000 → LWR F M → GR g M → TR t M → ∃ N, R_minutesBack_7 n a (k : Int) M = some (a + mbS F g t k, N) ∧ LG M N
  | 0, n + 1, a, M, hk, hn, h0, h1, hL, hG, hT => by
    refine ⟨M, ?_, LG.rf⟩
    unfold R_minutesBack_7 mbS
    simp (disch := omega) only [c_lt_p, c_eq_p, c_ne_p, c_ge_p, c_gt_p, c_le_p, rd_p, wa_p, wz_p, w8_p, fz_p, fw_p, tw_p, ck_p, ob_s, oc_s, if_pos, if_neg, am_upo, up_s, ne_eq, not_true_eq_false, not_false_eq_true, true_or, or_true, true_and, and_true, false_and, and_false, ck_t, reduceIte, Int.tmod_eq_emod_of_nonneg, Int.tdiv_eq_ediv_of_nonneg]
    rw [Int.add_zero]
  | k + 1, n + 1, a, M, hk, hn, h0, h1, hL, hG, hT => by
    have hl := hw.1
    obtain ⟨N1, e1, f1⟩ := R_walkingTo_eq (p := (k : Int)) (f := 2) hF hL hg hw hG hT (by omega) (by omega) (Or.inr rfl)
    have hb := waS_b hF g t k 2
    obtain ⟨N, e2, f2⟩ := R_minutesBack_lp hF hg hw k n (a + waS F g t k 2) N1 (by omega) (by omega) (by omega) (by omega) (hL.lg f1) (hG.lg f1) (hT.lg f1)
    refine ⟨N, ?_, f1.tr f2⟩
    unfold R_minutesBack_7 mbS
    rw [show (((k + 1 : Nat) : Int)) - 1 = (k : Int) by omega, show (((k + 1 : Nat) : Int)) + -1 = (k : Int) by omega]
    simp (disch := omega) only [c_lt_p, c_eq_p, c_ne_p, c_ge_p, c_gt_p, c_le_p, rd_p, wa_p, wz_p, w8_p, fz_p, fw_p, tw_p, ck_p, ob_s, oc_s, if_pos, if_neg, am_upo, up_s, ne_eq, not_true_eq_false, not_false_eq_true, true_or, or_true, true_and, and_true, false_and, and_false, ck_t, reduceIte, Int.tmod_eq_emod_of_nonneg, Int.tdiv_eq_ediv_of_nonneg, e1]
    rw [e2]
    congr 2
    omega
theorem R_minutesBack_eq {F : FT} {g t M : am_M} (hF : FO F) (hg : WG g) (hw : WT t) (hL : LWR F M) (hG : GR g M) (hT : TR t M) : ∃ N, R_minutesBack M = some (mbS F g t (t 0 2).toNat, N) ∧ LG M N := by
  have hl := hw.1
  have e11 : M 73 47 = ((t 0 2).toNat : Int) := by rw [hT.1.2.2.1]; omega
  obtain ⟨N, e, f⟩ := R_minutesBack_lp (F := F) (g := g) (t := t) hF hg hw (t 0 2).toNat am_big 0 M (by omega) (by show _ < 1000000; omega) (by omega) (by omega) hL hG hT
  refine ⟨N, ?_, f⟩
  unfold R_minutesBack
  rw [e11, e, Int.zero_add]
theorem R_back_lp {F : FT} {g t M : am_M} (hF : FO F) (hg : WG g) (hw : WT t) (hL : LWR F M) (hG : GR g M) (hT : TR t M) {x : Int} (hx : am_R x) : ∀ (k n : Nat) (a b c : Int), (k : Int) < t 0 1 → k < n → 0 ≤ a → a + k ≤ 100 → 0 ≤ b → b + k ≤ 100 → (c = -2 ∨ (0 ≤ c ∧ c ≤ 100)) → ∃ N, R_back_14 n x a b c (k : Int) M = some (if x = 0 then mbS F g t (t 0 2).toNat else if x = 1 then a + fbS g t k else if x = 2 then b + bbS g t k else if x = 3 then (if c = -2 then fiS g t k else c) else -1, N) ∧ LG M N
  | 0, n + 1, a, b, c, hk, hn, ha, ha1, hb, hb1, hc => by
    by_cases h0 : x = 0
    · obtain ⟨N, e, f⟩ := R_minutesBack_eq hF hg hw hL hG hT
      refine ⟨N, ?_, f⟩
      unfold R_back_14
      simp (disch := omega) only [c_lt_p, c_eq_p, c_ne_p, c_ge_p, c_gt_p, c_le_p, rd_p, wa_p, wz_p, w8_p, fz_p, fw_p, tw_p, ck_p, ob_s, oc_s, if_pos, if_neg, am_upo, up_s, ne_eq, not_true_eq_false, not_false_eq_true, true_or, or_true, true_and, and_true, false_and, and_false, ck_t, reduceIte, Int.tmod_eq_emod_of_nonneg, Int.tdiv_eq_ediv_of_nonneg, e]
    · refine ⟨M, ?_, LG.rf⟩
      unfold R_back_14 fbS bbS fiS
      by_cases h1 : x = 1
      · simp (disch := omega) only [c_lt_p, c_eq_p, c_ne_p, c_ge_p, c_gt_p, c_le_p, rd_p, wa_p, wz_p, w8_p, fz_p, fw_p, tw_p, ck_p, ob_s, oc_s, if_pos, if_neg, am_upo, up_s, ne_eq, not_true_eq_false, not_false_eq_true, true_or, or_true, true_and, and_true, false_and, and_false, ck_t, reduceIte, Int.tmod_eq_emod_of_nonneg, Int.tdiv_eq_ediv_of_nonneg, Int.add_zero]
      · by_cases h2 : x = 2
        · simp (disch := omega) only [c_lt_p, c_eq_p, c_ne_p, c_ge_p, c_gt_p, c_le_p, rd_p, wa_p, wz_p, w8_p, fz_p, fw_p, tw_p, ck_p, ob_s, oc_s, if_pos, if_neg, am_upo, up_s, ne_eq, not_true_eq_false, not_false_eq_true, true_or, or_true, true_and, and_true, false_and, and_false, ck_t, reduceIte, Int.tmod_eq_emod_of_nonneg, Int.tdiv_eq_ediv_of_nonneg, Int.add_zero]
        · by_cases h3 : x = 3
          · simp (disch := omega) only [c_lt_p, c_eq_p, c_ne_p, c_ge_p, c_gt_p, c_le_p, rd_p, wa_p, wz_p, w8_p, fz_p, fw_p, tw_p, ck_p, ob_s, oc_s, if_pos, if_neg, am_upo, up_s, ne_eq, not_true_eq_false, not_false_eq_true, true_or, or_true, true_and, and_true, false_and, and_false, ck_t, reduceIte, Int.tmod_eq_emod_of_nonneg, Int.tdiv_eq_ediv_of_nonneg]
            split
            · rename_i q
              rw [q]
            · rfl
          · simp (disch := omega) only [c_lt_p, c_eq_p, c_ne_p, c_ge_p, c_gt_p, c_le_p, rd_p, wa_p, wz_p, w8_p, fz_p, fw_p, tw_p, ck_p, ob_s, oc_s, if_pos, if_neg, am_upo, up_s, ne_eq, not_true_eq_false, not_false_eq_true, true_or, or_true, true_and, and_true, false_and, and_false, ck_t, reduceIte, Int.tmod_eq_emod_of_nonneg, Int.tdiv_eq_ediv_of_nonneg]
  | k + 1, n + 1, a, b, c, hk, hn, ha, ha1, hb, hb1, hc => by
    have hl := hw.1
    have hf := fkS_01 t g ((k : Int) + 1)
    have hbl := blS_01 t g ((k : Int) + 1)
    obtain ⟨N, e2, f2⟩ := R_back_lp hF hg hw hL hG hT hx k n (a + fkS t g ((k : Int) + 1)) (b + blS t g ((k : Int) + 1)) (if c = -2 ∧ blS t g ((k : Int) + 1) = 1 then (k : Int) + 1 else c) (by omega) (by omega) (by omega) (by omega) (by omega) (by omega) (by split <;> omega)
    refine ⟨N, ?_, f2⟩
    unfold R_back_14 R_back_34 R_back_65 R_back_67 fbS bbS fiS
    rw [show (((k + 1 : Nat) : Int)) = (k : Int) + 1 by omega]
    rw [show (k : Int) + 1 + -1 = (k : Int) by omega]
    rw [← Int.add_assoc, ← Int.add_assoc]
    have e3 : (if x = 3 then (if c = -2 then (if blS t g ((k : Int) + 1) = 0 then fiS g t k else (k : Int) + 1) else c) else -1) = (if x = 3 then (if (if c = -2 ∧ blS t g ((k : Int) + 1) = 1 then (k : Int) + 1 else c) = -2 then fiS g t k else (if c = -2 ∧ blS t g ((k : Int) + 1) = 1 then (k : Int) + 1 else c)) else -1) := by
      by_cases q1 : x = 3
      · rw [if_pos q1, if_pos q1]
        by_cases q2 : c = -2
        · rcases hbl with q3 | q3
          · simp (disch := omega) only [c_lt_p, c_eq_p, c_ne_p, c_ge_p, c_gt_p, c_le_p, rd_p, wa_p, wz_p, w8_p, fz_p, fw_p, tw_p, ck_p, ob_s, oc_s, if_pos, if_neg, am_upo, up_s, ne_eq, not_true_eq_false, not_false_eq_true, true_or, or_true, true_and, and_true, false_and, and_false, ck_t, reduceIte, Int.tmod_eq_emod_of_nonneg, Int.tdiv_eq_ediv_of_nonneg]
          · simp (disch := omega) only [c_lt_p, c_eq_p, c_ne_p, c_ge_p, c_gt_p, c_le_p, rd_p, wa_p, wz_p, w8_p, fz_p, fw_p, tw_p, ck_p, ob_s, oc_s, if_pos, if_neg, am_upo, up_s, ne_eq, not_true_eq_false, not_false_eq_true, true_or, or_true, true_and, and_true, false_and, and_false, ck_t, reduceIte, Int.tmod_eq_emod_of_nonneg, Int.tdiv_eq_ediv_of_nonneg]
        · simp (disch := omega) only [c_lt_p, c_eq_p, c_ne_p, c_ge_p, c_gt_p, c_le_p, rd_p, wa_p, wz_p, w8_p, fz_p, fw_p, tw_p, ck_p, ob_s, oc_s, if_pos, if_neg, am_upo, up_s, ne_eq, not_true_eq_false, not_false_eq_true, true_or, or_true, true_and, and_true, false_and, and_false, ck_t, reduceIte, Int.tmod_eq_emod_of_nonneg, Int.tdiv_eq_ediv_of_nonneg]
      · rw [if_neg q1, if_neg q1]
    have e4 : (a + fbS g t k + fkS t g ((k : Int) + 1)) = (a + fkS t g ((k : Int) + 1) + fbS g t k) := by omega
    have e5 : (b + bbS g t k + blS t g ((k : Int) + 1)) = (b + blS t g ((k : Int) + 1) + bbS g t k) := by omega
    rw [e3, e4, e5, ← e2]
    rcases hf with q | q
    · rcases hbl with q3 | q3
      · simp (disch := omega) only [c_lt_p, c_eq_p, c_ne_p, c_ge_p, c_gt_p, c_le_p, rd_p, wa_p, wz_p, w8_p, fz_p, fw_p, tw_p, ck_p, ob_s, oc_s, if_pos, if_neg, am_upo, up_s, ne_eq, not_true_eq_false, not_false_eq_true, true_or, or_true, true_and, and_true, false_and, and_false, ck_t, reduceIte, Int.tmod_eq_emod_of_nonneg, Int.tdiv_eq_ediv_of_nonneg, R_isFork_eq hw hg hT hG, R_isBlind_eq hw hg hT hG, q, q3, Int.add_zero]
      · by_cases q2 : c = -2
        · simp (disch := omega) only [c_lt_p, c_eq_p, c_ne_p, c_ge_p, c_gt_p, c_le_p, rd_p, wa_p, wz_p, w8_p, fz_p, fw_p, tw_p, ck_p, ob_s, oc_s, if_pos, if_neg, am_upo, up_s, ne_eq, not_true_eq_false, not_false_eq_true, true_or, or_true, true_and, and_true, false_and, and_false, ck_t, reduceIte, Int.tmod_eq_emod_of_nonneg, Int.tdiv_eq_ediv_of_nonneg, R_isFork_eq hw hg hT hG, R_isBlind_eq hw hg hT hG, q, q3, Int.add_zero]
        · simp (disch := omega) only [c_lt_p, c_eq_p, c_ne_p, c_ge_p, c_gt_p, c_le_p, rd_p, wa_p, wz_p, w8_p, fz_p, fw_p, tw_p, ck_p, ob_s, oc_s, if_pos, if_neg, am_upo, up_s, ne_eq, not_true_eq_false, not_false_eq_true, true_or, or_true, true_and, and_true, false_and, and_false, ck_t, reduceIte, Int.tmod_eq_emod_of_nonneg, Int.tdiv_eq_ediv_of_nonneg, R_isFork_eq hw hg hT hG, R_isBlind_eq hw hg hT hG, q, q3, Int.add_zero]
    · rcases hbl with q3 | q3
      · simp (disch := omega) only [c_lt_p, c_eq_p, c_ne_p, c_ge_p, c_gt_p, c_le_p, rd_p, wa_p, wz_p, w8_p, fz_p, fw_p, tw_p, ck_p, ob_s, oc_s, if_pos, if_neg, am_upo, up_s, ne_eq, not_true_eq_false, not_false_eq_true, true_or, or_true, true_and, and_true, false_and, and_false, ck_t, reduceIte, Int.tmod_eq_emod_of_nonneg, Int.tdiv_eq_ediv_of_nonneg, R_isFork_eq hw hg hT hG, R_isBlind_eq hw hg hT hG, q, q3, Int.add_zero]
      · by_cases q2 : c = -2
        · simp (disch := omega) only [c_lt_p, c_eq_p, c_ne_p, c_ge_p, c_gt_p, c_le_p, rd_p, wa_p, wz_p, w8_p, fz_p, fw_p, tw_p, ck_p, ob_s, oc_s, if_pos, if_neg, am_upo, up_s, ne_eq, not_true_eq_false, not_false_eq_true, true_or, or_true, true_and, and_true, false_and, and_false, ck_t, reduceIte, Int.tmod_eq_emod_of_nonneg, Int.tdiv_eq_ediv_of_nonneg, R_isFork_eq hw hg hT hG, R_isBlind_eq hw hg hT hG, q, q3, Int.add_zero]
        · simp (disch := omega) only [c_lt_p, c_eq_p, c_ne_p, c_ge_p, c_gt_p, c_le_p, rd_p, wa_p, wz_p, w8_p, fz_p, fw_p, tw_p, ck_p, ob_s, oc_s, if_pos, if_neg, am_upo, up_s, ne_eq, not_true_eq_false, not_false_eq_true, true_or, or_true, true_and, and_true, false_and, and_false, ck_t, reduceIte, Int.tmod_eq_emod_of_nonneg, Int.tdiv_eq_ediv_of_nonneg, R_isFork_eq hw hg hT hG, R_isBlind_eq hw hg hT hG, q, q3, Int.add_zero]
theorem R_back_eq {F : FT} {g t M : am_M} (hF : FO F) (hg : WG g) (hw : WT t) (hL : LWR F M) (hG : GR g M) (hT : TR t M) {x : Int} (hx : am_R x) : ∃ N, R_back x M = some (bkS F g t x, N) ∧ LG M N := by
  have hl := hw.1
  have e11 : M 73 47 = ((t 0 2).toNat : Int) := by rw [hT.1.2.2.1]; omega
  obtain ⟨N, e, f⟩ := R_back_lp hF hg hw hL hG hT hx (t 0 2).toNat am_big 0 0 (-2) (by omega) (by show _ < 1000000; omega) (by omega) (by omega) (by omega) (by omega) (by omega)
  refine ⟨N, ?_, f⟩
  unfold R_back bkS
  rw [e11, e, Int.zero_add, Int.zero_add, if_pos rfl]
theorem OK2.rd {n : Nat} {p r : am_M → Option (Int × am_M)} (h : ∀ (F : FT) (g t u : am_M), PW F g t u → ∃ v : Int, am_R v ∧ (∀ M, PC F g t u n M → ∃ M1, p M = some (v, M1) ∧ LF M M1) ∧ (∀ M, PR F g t u M → ∃ M1, r M = some (v, M1) ∧ LG M M1)) : OK2 n p r := by
  intro M ⟨F, g, t, u, hW, hC, hR⟩
  obtain ⟨v, hv, h1, h2⟩ := h F g t u hW
  obtain ⟨M1, e1, f1⟩ := h1 M hC
  obtain ⟨M2, e2, f2⟩ := h2 M1 (hR.cg (fun k hk => f1 k (by omega) (by omega)))
  exact ⟨v, M1, M2, e1, e2, hv, F, g, t, u, hW, (hC.lf f1).cg (fun k hk => f2.1 k (by omega) (by omega) (by omega)) (by omega), (hR.cg (fun k hk => f1 k (by omega) (by omega))).lg f2⟩
theorem P_back_ok {n : Nat} {x : Int} (hx : am_R x) : OK2 n (P_back x) (R_back x) := by
  refine OK2.rd (fun F g t u hW => ⟨bkS F g t x, ?_, fun M hC => ?_, fun M hR => ?_⟩)
  · have := bkS_b (g := g) hW.2.2.2.2 hW.2.1 x
    omega
  · exact P_back_eq hW.2.2.2.2 hW.1 hW.2.1 hC.2.2.2.1 hC.1 hC.2.1 hx
  · exact R_back_eq hW.2.2.2.2 hW.1 hW.2.1 hR.2.2.2 hR.1 hR.2.1 hx
