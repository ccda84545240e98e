-- what the law is asked
def E7 (k w a t q f y : Int) : Nat → Int := fun j => if j = 0 then k else if j = 1 then w else if j = 2 then a else if j = 3 then t else if j = 4 then q else if j = 5 then f else y
/-- cells that asking the class's law changes -/
def LF (M N : am_M) : Prop := ∀ k, k ≠ 12 → k ≠ 13 → N k = M k
def LG (M N : am_M) : Prop := (∀ k, k ≠ 73 → k ≠ 90 → k ≠ 91 → N k = M k) ∧ (∀ j, (j < 29 ∨ 35 < j) → N 73 j = M 73 j)
theorem LF.rf {M : am_M} : LF M M := fun _ _ _ => rfl
theorem LF.tr {M N O : am_M} (a : LF M N) (b : LF N O) : LF M O := fun k h1 h2 => (b k h1 h2).trans (a k h1 h2)
theorem LG.rf {M : am_M} : LG M M := ⟨fun _ _ _ _ => rfl, fun _ _ => rfl⟩
theorem LG.tr {M N O : am_M} (a : LG M N) (b : LG N O) : LG M O := ⟨fun k h1 h2 h3 => (b.1 k h1 h2 h3).trans (a.1 k h1 h2 h3), fun j h => (b.2 j h).trans (a.2 j h)⟩
theorem GP.lf {g M N : am_M} (h : GP g M) (e : LF M N) : GP g N := by
  unfold GP at h ⊢
  rw [e 0 (by decide) (by decide), e 1 (by decide) (by decide), e 2 (by decide) (by decide), e 4 (by decide) (by decide), e 5 (by decide) (by decide), e 14 (by decide) (by decide), e 15 (by decide) (by decide)]
  exact h
theorem TP.lf {b : Nat} {t M N : am_M} (h : TP b t M) (e : LF M N) (hb : 14 ≤ b) : TP b t N := h.cg (fun k a _ => e k (by omega) (by omega))
theorem LWP.lf {F : FT} {M N : am_M} (h : LWP F M) (e : LF M N) : LWP F N := h.cg (fun k _ b => e k (by omega) (by omega))
theorem OG.lf {n : Nat} {M N : am_M} (h : OG n M) (e : LF M N) : OG n N := h.cg (fun k a _ => e k (by omega) (by omega)) (Nat.le_refl _)
theorem PC.lf {F : FT} {g t u M N : am_M} {n : Nat} (h : PC F g t u n M) (e : LF M N) : PC F g t u n N := ⟨h.1.lf e, h.2.1.lf e (by decide), fun q => (h.2.2.1 q).lf e (by decide), h.2.2.2.1.lf e, h.2.2.2.2.lf e⟩
theorem GR.lg {g M N : am_M} (h : GR g M) (e : LG M N) : GR g N := by
  unfold GR at h ⊢
  rw [e.2 1 (by decide), e.2 42 (by decide), e.2 43 (by decide), e.2 19 (by decide), e.2 66 (by decide), e.1 74 (by decide) (by decide) (by decide), e.1 75 (by decide) (by decide) (by decide), e.1 92 (by decide) (by decide) (by decide), e.1 94 (by decide) (by decide) (by decide)]
  exact h
theorem TR.lg {t M N : am_M} (h : TR t M) (e : LG M N) : TR t N := by
  unfold TR at h ⊢
  rw [e.2 41 (by decide), e.2 46 (by decide), e.2 47 (by decide), e.2 44 (by decide), e.2 45 (by decide), e.2 2 (by decide), e.1 93 (by decide) (by decide) (by decide), e.1 95 (by decide) (by decide) (by decide), e.1 96 (by decide) (by decide) (by decide), e.1 97 (by decide) (by decide) (by decide), e.1 98 (by decide) (by decide) (by decide), e.1 99 (by decide) (by decide) (by decide), e.1 100 (by decide) (by decide) (by decide)]
  exact h
theorem LWR.lg {F : FT} {M N : am_M} (h : LWR F M) (e : LG M N) : LWR F N := h.cg (fun k a b => e.1 k (by omega) (by omega) (by omega)) (e.2 19 (by decide))
theorem PR.lg {F : FT} {g t u M N : am_M} (h : PR F g t u M) (e : LG M N) : PR F g t u N := ⟨h.1.lg e, h.2.1.lg e, fun q => (h.2.2.1 q).cg (fun k a => e.1 k (by omega) (by omega) (by omega)), h.2.2.2.lg e⟩
theorem E7_R {k w a t q f y : Int} (h1 : am_R k) (h2 : am_R w) (h3 : am_R a) (h4 : am_R t) (h5 : am_R q) (h6 : am_R f) (h7 : am_R y) (j : Nat) : am_R (E7 k w a t q f y j) := by
  unfold E7
  repeat' split
  all_goals assumption
theorem ask_eq {F : FT} {M : am_M} (hF : FO F) (h : LWP F M) {k w a t q f y l m : Int} (h1 : am_R k) (h2 : am_R w) (h3 : am_R a) (h4 : am_R t) (h5 : am_R q) (h6 : am_R f) (h7 : am_R y) (hl : am_R l) (hm0 : 0 ≤ m) (hm : m ≤ 240) : ∃ N N1, Law_say_5 k w a t q f y M = some N1 ∧ Law_ask_5 l m N1 = some (F l m (E7 k w a t q f y), N) ∧ LF M N := by
  obtain ⟨N1, e1⟩ : ∃ N1, N1 = am_up (am_up (am_up (am_up (am_up (am_up (am_up M 12 0 k) 12 1 w) 12 2 a) 12 3 t) 12 4 q) 12 5 f) 12 6 y := ⟨_, rfl⟩
  have e2 : ∀ j, j < 7 → N1 12 j = E7 k w a t q f y j := by
    intro j hj
    rw [e1]
    rcases (show j = 0 ∨ j = 1 ∨ j = 2 ∨ j = 3 ∨ j = 4 ∨ j = 5 ∨ j = 6 by omega) with r | r | r | r | r | r | r <;> subst r <;> simp [am_up, E7]
  have e3 : ∀ c, c ≠ 12 → N1 c = M c := by
    intro c hc
    rw [e1]
    simp (disch := omega) only [c_lt_p, c_eq_p, c_ne_p, c_ge_p, c_gt_p, c_le_p, rd_p, wa_p, wz_p, w8_p, fz_p, fw_p, tw_p, ck_p, ob_s, oc_s, if_pos, if_neg, am_upo, up_s, ne_eq, not_true_eq_false, not_false_eq_true, true_or, or_true, true_and, and_true, false_and, and_false, ck_t, reduceIte, Int.tmod_eq_emod_of_nonneg, Int.tdiv_eq_ediv_of_nonneg]
  obtain ⟨N, e4⟩ := h l m N1 (fun c a b => e3 c (by omega)) hl hm0 hm (fun j hj => by rw [e2 j hj]; exact E7_R h1 h2 h3 h4 h5 h6 h7 j)
  refine ⟨N, N1, ?_, ?_, ?_⟩
  · rw [e1]
    unfold Law_say_5
    simp (disch := omega) only [c_lt_p, c_eq_p, c_ne_p, c_ge_p, c_gt_p, c_le_p, rd_p, wa_p, wz_p, w8_p, fz_p, fw_p, tw_p, ck_p, ob_s, oc_s, if_pos, if_neg, am_upo, up_s, ne_eq, not_true_eq_false, not_false_eq_true, true_or, or_true, true_and, and_true, false_and, and_false, ck_t, reduceIte, Int.tmod_eq_emod_of_nonneg, Int.tdiv_eq_ediv_of_nonneg]
    rfl
  · rw [e4, hF.2 l m _ _ e2]
  · intro c a b
    have := Law_ask_5_c l m N1 _ e4 c (by simp; omega)
    exact this.trans (e3 c a)
theorem Law_cutting_eq {F : FT} {M : am_M} (hF : FO F) (h : LWP F M) {k w a t y : Int} (h1 : am_R k) (h2 : am_R w) (h3 : am_R a) (h4 : am_R t) (h7 : am_R y) : ∃ N, Law_cutting_5 k w a t y M = some (F 99 240 (E7 k w a t 0 0 y), N) ∧ LF M N := by
  obtain ⟨N, N1, e1, e2, e3⟩ := ask_eq (l := 99) (m := 240) hF h h1 h2 h3 h4 (show am_R 0 by decide) (show am_R 0 by decide) h7 (by decide) (by decide) (by decide)
  refine ⟨N, ?_, e3⟩
  unfold Law_cutting_5
  rw [e1]
  simp (disch := omega) only [c_lt_p, c_eq_p, c_ne_p, c_ge_p, c_gt_p, c_le_p, rd_p, wa_p, wz_p, w8_p, fz_p, fw_p, tw_p, ck_p, ob_s, oc_s, if_pos, if_neg, am_upo, up_s, ne_eq, not_true_eq_false, not_false_eq_true, true_or, or_true, true_and, and_true, false_and, and_false, ck_t, reduceIte, Int.tmod_eq_emod_of_nonneg, Int.tdiv_eq_ediv_of_nonneg, e2]
theorem Law_walking_eq {F : FT} {M : am_M} (hF : FO F) (h : LWP F M) {k w q f y : Int} (h1 : am_R k) (h2 : am_R w) (h3 : am_R q) (h4 : am_R f) (h7 : am_R y) : ∃ N, Law_walking_5 k w q f y M = some (F 118 60 (E7 k w 0 0 q f y), N) ∧ LF M N := by
  obtain ⟨N, N1, e1, e2, e3⟩ := ask_eq (l := 118) (m := 60) hF h h1 h2 (show am_R 0 by decide) (show am_R 0 by decide) h3 h4 h7 (by decide) (by decide) (by decide)
  refine ⟨N, ?_, e3⟩
  unfold Law_walking_5
  rw [e1]
  simp (disch := omega) only [c_lt_p, c_eq_p, c_ne_p, c_ge_p, c_gt_p, c_le_p, rd_p, wa_p, wz_p, w8_p, fz_p, fw_p, tw_p, ck_p, ob_s, oc_s, if_pos, if_neg, am_upo, up_s, ne_eq, not_true_eq_false, not_false_eq_true, true_or, or_true, true_and, and_true, false_and, and_false, ck_t, reduceIte, Int.tmod_eq_emod_of_nonneg, Int.tdiv_eq_ediv_of_nonneg, e2]
theorem Law_growing_eq {F : FT} {M : am_M} (hF : FO F) (h : LWP F M) {k w q y : Int} (h1 : am_R k) (h2 : am_R w) (h3 : am_R q) (h7 : am_R y) : ∃ N, Law_growing_5 k w q y M = some (F 103 20 (E7 k w 0 0 q 0 y), N) ∧ LF M N := by
  obtain ⟨N, N1, e1, e2, e3⟩ := ask_eq (l := 103) (m := 20) hF h h1 h2 (show am_R 0 by decide) (show am_R 0 by decide) h3 (show am_R 0 by decide) h7 (by decide) (by decide) (by decide)
  refine ⟨N, ?_, e3⟩
  unfold Law_growing_5
  rw [e1]
  simp (disch := omega) only [c_lt_p, c_eq_p, c_ne_p, c_ge_p, c_gt_p, c_le_p, rd_p, wa_p, wz_p, w8_p, fz_p, fw_p, tw_p, ck_p, ob_s, oc_s, if_pos, if_neg, am_upo, up_s, ne_eq, not_true_eq_false, not_false_eq_true, true_or, or_true, true_and, and_true, false_and, and_false, ck_t, reduceIte, Int.tmod_eq_emod_of_nonneg, Int.tdiv_eq_ediv_of_nonneg, e2]
theorem Law_erring_eq {F : FT} {M : am_M} (hF : FO F) (h : LWP F M) {k w q y : Int} (h1 : am_R k) (h2 : am_R w) (h3 : am_R q) (h7 : am_R y) : ∃ N, Law_erring_5 k w q y M = some (F 100 10 (E7 k w 0 0 q 0 y), N) ∧ LF M N := by
  obtain ⟨N, N1, e1, e2, e3⟩ := ask_eq (l := 100) (m := 10) hF h h1 h2 (show am_R 0 by decide) (show am_R 0 by decide) h3 (show am_R 0 by decide) h7 (by decide) (by decide) (by decide)
  refine ⟨N, ?_, e3⟩
  unfold Law_erring_5
  rw [e1]
  simp (disch := omega) only [c_lt_p, c_eq_p, c_ne_p, c_ge_p, c_gt_p, c_le_p, rd_p, wa_p, wz_p, w8_p, fz_p, fw_p, tw_p, ck_p, ob_s, oc_s, if_pos, if_neg, am_upo, up_s, ne_eq, not_true_eq_false, not_false_eq_true, true_or, or_true, true_and, and_true, false_and, and_false, ck_t, reduceIte, Int.tmod_eq_emod_of_nonneg, Int.tdiv_eq_ediv_of_nonneg, e2]
theorem Law_tiring_eq {F : FT} {M : am_M} (hF : FO F) (h : LWP F M) {k a t y : Int} (h1 : am_R k) (h2 : am_R a) (h3 : am_R t) (h7 : am_R y) : ∃ N, Law_tiring_5 k a t y M = some (F 110 20 (E7 k 0 a t 0 0 y), N) ∧ LF M N := by
  obtain ⟨N, N1, e1, e2, e3⟩ := ask_eq (l := 110) (m := 20) hF h h1 (show am_R 0 by decide) h2 h3 (show am_R 0 by decide) (show am_R 0 by decide) h7 (by decide) (by decide) (by decide)
  refine ⟨N, ?_, e3⟩
  unfold Law_tiring_5
  rw [e1]
  simp (disch := omega) only [c_lt_p, c_eq_p, c_ne_p, c_ge_p, c_gt_p, c_le_p, rd_p, wa_p, wz_p, w8_p, fz_p, fw_p, tw_p, ck_p, ob_s, oc_s, if_pos, if_neg, am_upo, up_s, ne_eq, not_true_eq_false, not_false_eq_true, true_or, or_true, true_and, and_true, false_and, and_false, ck_t, reduceIte, Int.tmod_eq_emod_of_nonneg, Int.tdiv_eq_ediv_of_nonneg, e2]
theorem Law_resting_eq {F : FT} {M : am_M} (hF : FO F) (h : LWP F M) {a t y : Int} (h2 : am_R a) (h3 : am_R t) (h7 : am_R y) : ∃ N, Law_resting_5 a t y M = some (F 101 20 (E7 0 0 a t 0 0 y), N) ∧ LF M N := by
  obtain ⟨N, N1, e1, e2, e3⟩ := ask_eq (l := 101) (m := 20) hF h (show am_R 0 by decide) (show am_R 0 by decide) h2 h3 (show am_R 0 by decide) (show am_R 0 by decide) h7 (by decide) (by decide) (by decide)
  refine ⟨N, ?_, e3⟩
  unfold Law_resting_5
  rw [e1]
  simp (disch := omega) only [c_lt_p, c_eq_p, c_ne_p, c_ge_p, c_gt_p, c_le_p, rd_p, wa_p, wz_p, w8_p, fz_p, fw_p, tw_p, ck_p, ob_s, oc_s, if_pos, if_neg, am_upo, up_s, ne_eq, not_true_eq_false, not_false_eq_true, true_or, or_true, true_and, and_true, false_and, and_false, ck_t, reduceIte, Int.tmod_eq_emod_of_nonneg, Int.tdiv_eq_ediv_of_nonneg, e2]
theorem tells_eq {F : FT} {M : am_M} (hF : FO F) (h : LWR F M) {k w a t q f y l m : Int} (h1 : am_R k) (h2 : am_R w) (h3 : am_R a) (h4 : am_R t) (h5 : am_R q) (h6 : am_R f) (h7 : am_R y) (hl : am_R l) (hm0 : 0 ≤ m) (hm : m ≤ 240) : ∃ N N1, R_standsReady k w a t q f y M = some N1 ∧ R_tells l m N1 = some (F l m (E7 k w a t q f y), N) ∧ LG M N := by
  obtain ⟨N1, e1⟩ : ∃ N1, N1 = am_up (am_up (am_up (am_up (am_up (am_up (am_up M 73 29 k) 73 30 w) 73 31 a) 73 32 t) 73 33 q) 73 34 f) 73 35 y := ⟨_, rfl⟩
  have e2 : ∀ j, j < 7 → N1 73 (29 + j) = E7 k w a t q f y j := by
    intro j hj
    rw [e1]
    rcases (show j = 0 ∨ j = 1 ∨ j = 2 ∨ j = 3 ∨ j = 4 ∨ j = 5 ∨ j = 6 by omega) with r | r | r | r | r | r | r <;> subst r <;> simp [am_up, E7]
  have e3 : ∀ c, c ≠ 73 → N1 c = M c := by
    intro c hc
    rw [e1]
    simp (disch := omega) only [c_lt_p, c_eq_p, c_ne_p, c_ge_p, c_gt_p, c_le_p, rd_p, wa_p, wz_p, w8_p, fz_p, fw_p, tw_p, ck_p, ob_s, oc_s, if_pos, if_neg, am_upo, up_s, ne_eq, not_true_eq_false, not_false_eq_true, true_or, or_true, true_and, and_true, false_and, and_false, ck_t, reduceIte, Int.tmod_eq_emod_of_nonneg, Int.tdiv_eq_ediv_of_nonneg]
  have e5 : ∀ j, (j < 29 ∨ 35 < j) → N1 73 j = M 73 j := by
    intro j hj
    rw [e1]
    simp (disch := omega) only [c_lt_p, c_eq_p, c_ne_p, c_ge_p, c_gt_p, c_le_p, rd_p, wa_p, wz_p, w8_p, fz_p, fw_p, tw_p, ck_p, ob_s, oc_s, if_pos, if_neg, am_upo, up_s, ne_eq, not_true_eq_false, not_false_eq_true, true_or, or_true, true_and, and_true, false_and, and_false, ck_t, reduceIte, Int.tmod_eq_emod_of_nonneg, Int.tdiv_eq_ediv_of_nonneg]
  obtain ⟨N, e4⟩ := h l m N1 (fun c a b => e3 c (by omega)) (e5 19 (by decide)) hl hm0 hm (fun j hj => by rw [e2 j hj]; exact E7_R h1 h2 h3 h4 h5 h6 h7 j)
  have e6 := R_tells_c l m N1 _ e4
  refine ⟨N, N1, ?_, ?_, ?_, ?_⟩
  · rw [e1]
    unfold R_standsReady
    simp (disch := omega) only [c_lt_p, c_eq_p, c_ne_p, c_ge_p, c_gt_p, c_le_p, rd_p, wa_p, wz_p, w8_p, fz_p, fw_p, tw_p, ck_p, ob_s, oc_s, if_pos, if_neg, am_upo, up_s, ne_eq, not_true_eq_false, not_false_eq_true, true_or, or_true, true_and, and_true, false_and, and_false, ck_t, reduceIte, Int.tmod_eq_emod_of_nonneg, Int.tdiv_eq_ediv_of_nonneg]
  · rw [e4, hF.2 l m _ _ e2]
  · intro c a b d
    exact (e6 c (by simp; omega)).trans (e3 c a)
  · intro j hj
    exact (congrFun (e6 73 (by decide)) j).trans (e5 j hj)
theorem R_walking_eq {F : FT} {M : am_M} (hF : FO F) (h : LWR F M) {k w q f y : Int} (h1 : am_R k) (h2 : am_R w) (h3 : am_R q) (h4 : am_R f) (h7 : am_R y) : ∃ N, R_walking k w q f y M = some (F 118 60 (E7 k w 0 0 q f y), N) ∧ LG M N := by
  obtain ⟨N, N1, e1, e2, e3⟩ := tells_eq (l := 118) (m := 60) hF h h1 h2 (show am_R 0 by decide) (show am_R 0 by decide) h3 h4 h7 (by decide) (by decide) (by decide)
  refine ⟨N, ?_, e3⟩
  unfold R_walking
  rw [e1]
  simp (disch := omega) only [c_lt_p, c_eq_p, c_ne_p, c_ge_p, c_gt_p, c_le_p, rd_p, wa_p, wz_p, w8_p, fz_p, fw_p, tw_p, ck_p, ob_s, oc_s, if_pos, if_neg, am_upo, up_s, ne_eq, not_true_eq_false, not_false_eq_true, true_or, or_true, true_and, and_true, false_and, and_false, ck_t, reduceIte, Int.tmod_eq_emod_of_nonneg, Int.tdiv_eq_ediv_of_nonneg, e2]
theorem R_growing_eq {F : FT} {M : am_M} (hF : FO F) (h : LWR F M) {k w q y : Int} (h1 : am_R k) (h2 : am_R w) (h3 : am_R q) (h7 : am_R y) : ∃ N, R_growing k w q y M = some (F 103 20 (E7 k w 0 0 q 0 y), N) ∧ LG M N := by
  obtain ⟨N, N1, e1, e2, e3⟩ := tells_eq (l := 103) (m := 20) hF h h1 h2 (show am_R 0 by decide) (show am_R 0 by decide) h3 (show am_R 0 by decide) h7 (by decide) (by decide) (by decide)
  refine ⟨N, ?_, e3⟩
  unfold R_growing
  rw [e1]
  simp (disch := omega) only [c_lt_p, c_eq_p, c_ne_p, c_ge_p, c_gt_p, c_le_p, rd_p, wa_p, wz_p, w8_p, fz_p, fw_p, tw_p, ck_p, ob_s, oc_s, if_pos, if_neg, am_upo, up_s, ne_eq, not_true_eq_false, not_false_eq_true, true_or, or_true, true_and, and_true, false_and, and_false, ck_t, reduceIte, Int.tmod_eq_emod_of_nonneg, Int.tdiv_eq_ediv_of_nonneg, e2]
theorem R_cutting_eq {F : FT} {g t M : am_M} (hF : FO F) (h : LWR F M) (hg : WG g) (hw : WT t) (hG : GR g M) (hT : TR t M) (hl : t 0 0 ≠ -1) {k w : Int} (h1 : am_R k) (h2 : am_R w) : ∃ N, R_cutting k w M = some (F 99 240 (E7 k w (g 3 (t 0 0).toNat) (t 1 (t 0 0).toNat) 0 0 (t 0 4)), N) ∧ LG M N := by
  have h3 := hw.1
  have c1 := (hG.2.2.2 (t 0 0).toNat (by omega)).1
  have c2 := hT.2.2.1 (t 0 0).toNat (by omega)
  have b1 := hg.2.2.2 (t 0 0).toNat (by omega)
  have b2 := hw.2.2.1 (t 0 0).toNat (by omega)
  have e41 := hT.1.1
  have e45 := hT.1.2.2.2.2.1
  obtain ⟨N, N1, e1, e2, e3⟩ := tells_eq (l := 99) (m := 240) hF h h1 h2 (show am_R (g 3 (t 0 0).toNat) by omega) (show am_R (t 1 (t 0 0).toNat) by omega) (show am_R 0 by decide) (show am_R 0 by decide) (show am_R (t 0 4) by omega) (by decide) (by decide) (by decide)
  refine ⟨N, ?_, e3⟩
  unfold R_cutting
  simp (disch := omega) only [c_lt_p, c_eq_p, c_ne_p, c_ge_p, c_gt_p, c_le_p, rd_p, wa_p, wz_p, w8_p, fz_p, fw_p, tw_p, ck_p, ob_s, oc_s, if_pos, if_neg, am_upo, up_s, ne_eq, not_true_eq_false, not_false_eq_true, true_or, or_true, true_and, and_true, false_and, and_false, ck_t, reduceIte, Int.tmod_eq_emod_of_nonneg, Int.tdiv_eq_ediv_of_nonneg, e41, e45, c1, c2, e1, e2]
theorem R_tiring_eq {F : FT} {g t M : am_M} (hF : FO F) (h : LWR F M) (hg : WG g) (hw : WT t) (hG : GR g M) (hT : TR t M) {k p q : Int} (h1 : am_R k) (hp0 : 0 ≤ p) (hp : p < 6) (hq : am_R q) : ∃ N, R_tiring k p q M = some (F 110 20 (E7 k 0 (g 3 p.toNat) q 0 0 (t 0 4)), N) ∧ LG M N := by
  have h3 := hw.1
  have c1 := (hG.2.2.2 p.toNat (by omega)).1
  have b1 := hg.2.2.2 p.toNat (by omega)
  have e45 := hT.1.2.2.2.2.1
  obtain ⟨N, N1, e1, e2, e3⟩ := tells_eq (l := 110) (m := 20) hF h h1 (show am_R 0 by decide) (show am_R (g 3 p.toNat) by omega) hq (show am_R 0 by decide) (show am_R 0 by decide) (show am_R (t 0 4) by omega) (by decide) (by decide) (by decide)
  refine ⟨N, ?_, e3⟩
  unfold R_tiring
  simp (disch := omega) only [c_lt_p, c_eq_p, c_ne_p, c_ge_p, c_gt_p, c_le_p, rd_p, wa_p, wz_p, w8_p, fz_p, fw_p, tw_p, ck_p, ob_s, oc_s, if_pos, if_neg, am_upo, up_s, ne_eq, not_true_eq_false, not_false_eq_true, true_or, or_true, true_and, and_true, false_and, and_false, ck_t, reduceIte, Int.tmod_eq_emod_of_nonneg, Int.tdiv_eq_ediv_of_nonneg, e45, c1, e1, e2]
theorem R_resting_eq {F : FT} {g t M : am_M} (hF : FO F) (h : LWR F M) (hg : WG g) (hw : WT t) (hG : GR g M) (hT : TR t M) {p q : Int} (hp0 : 0 ≤ p) (hp : p < 6) (hq : am_R q) : ∃ N, R_resting p q M = some (F 101 20 (E7 0 0 (g 3 p.toNat) q 0 0 (t 0 4)), N) ∧ LG M N := by
  have h3 := hw.1
  have c1 := (hG.2.2.2 p.toNat (by omega)).1
  have b1 := hg.2.2.2 p.toNat (by omega)
  have e45 := hT.1.2.2.2.2.1
  obtain ⟨N, N1, e1, e2, e3⟩ := tells_eq (l := 101) (m := 20) hF h (show am_R 0 by decide) (show am_R 0 by decide) (show am_R (g 3 p.toNat) by omega) hq (show am_R 0 by decide) (show am_R 0 by decide) (show am_R (t 0 4) by omega) (by decide) (by decide) (by decide)
  refine ⟨N, ?_, e3⟩
  unfold R_resting
  simp (disch := omega) only [c_lt_p, c_eq_p, c_ne_p, c_ge_p, c_gt_p, c_le_p, rd_p, wa_p, wz_p, w8_p, fz_p, fw_p, tw_p, ck_p, ob_s, oc_s, if_pos, if_neg, am_upo, up_s, ne_eq, not_true_eq_false, not_false_eq_true, true_or, or_true, true_and, and_true, false_and, and_false, ck_t, reduceIte, Int.tmod_eq_emod_of_nonneg, Int.tdiv_eq_ediv_of_nonneg, e45, c1, e1, e2]
-- at places
def kdS (g t : am_M) (p : Int) : Int := if 0 ≤ p ∧ p < t 0 1 then g 2 (t 2 p.toNat).toNat else 3
theorem kdS_b {g t : am_M} (hg : WG g) (hw : WT t) (p : Int) : 0 ≤ kdS g t p ∧ kdS g t p ≤ 6 := by
  unfold kdS
  split
  · rename_i h
    have := hw.at h.1 h.2
    exact hg.2.2.1 _ (by omega)
  · omega
def waS (F : FT) (g t : am_M) (p f : Int) : Int := F 118 60 (E7 (kdS g t p) (wiS t p) 0 0 (grS t p) (if b_and (mkS t p) f = 0 then 0 else 1) (t 0 4))
def erS (F : FT) (g t : am_M) (p : Int) : Int := F 100 10 (E7 (kdS g t p) (wiS t p) 0 0 (grS t p) 0 (t 0 4))
theorem waS_b {F : FT} (hF : FO F) (g t : am_M) (p f : Int) : 0 ≤ waS F g t p f ∧ waS F g t p f ≤ 60 := hF.1 _ _ _ (by decide)
theorem erS_b {F : FT} (hF : FO F) (g t : am_M) (p : Int) : 0 ≤ erS F g t p ∧ erS F g t p ≤ 10 := hF.1 _ _ _ (by decide)
theorem and_b {x f : Int} (h0 : 0 ≤ x) (h1 : x ≤ 3) (hf : f = 1 ∨ f = 2) : 0 ≤ b_and x f ∧ b_and x f ≤ 2 := by
  rcases hf with q | q
  · subst q
    rw [b_and_1 h0 h1]
    omega
  · subst q
    rw [b_and_2 h0 h1]
    split <;> omega
theorem Trip_kindAt_26_eq {g t M : am_M} (hw : WT t) (hG : GP g M) (h : TP 26 t M) {p : Int} (hp : am_R p) : Trip_kindAt_26 p M = some (kdS g t p) := by
  unfold Trip_kindAt_26
  unfold kdS
  by_cases hc : 0 ≤ p ∧ p < t 0 1
  · have ha := hw.at hc.1 hc.2
    have e1 : ceS t p = t 2 p.toNat := if_pos hc
    have e2 := hG.2.2.1 (t 2 p.toNat).toNat (by omega)
    simp (disch := omega) only [c_lt_p, c_eq_p, c_ne_p, c_ge_p, c_gt_p, c_le_p, rd_p, wa_p, wz_p, w8_p, fz_p, fw_p, tw_p, ck_p, ob_s, oc_s, if_pos, if_neg, am_upo, up_s, ne_eq, not_true_eq_false, not_false_eq_true, true_or, or_true, true_and, and_true, false_and, and_false, ck_t, reduceIte, Int.tmod_eq_emod_of_nonneg, Int.tdiv_eq_ediv_of_nonneg, Trip_cellAt_26_eq hw h hp, e1, Country_kindAt_eq, e2]
  · have e1 : ceS t p = -1 := if_neg hc
    simp (disch := omega) only [c_lt_p, c_eq_p, c_ne_p, c_ge_p, c_gt_p, c_le_p, rd_p, wa_p, wz_p, w8_p, fz_p, fw_p, tw_p, ck_p, ob_s, oc_s, if_pos, if_neg, am_upo, up_s, ne_eq, not_true_eq_false, not_false_eq_true, true_or, or_true, true_and, and_true, false_and, and_false, ck_t, reduceIte, Int.tmod_eq_emod_of_nonneg, Int.tdiv_eq_ediv_of_nonneg, Trip_cellAt_26_eq hw h hp, e1, Country_kindAt_eq]
theorem Trip_minutesOnto_26_eq {F : FT} {g t M : am_M} (hF : FO F) (hL : LWP F M) (hg : WG g) (hw : WT t) (hG : GP g M) (h : TP 26 t M) {p f : Int} (hp : am_R p) (hf : f = 1 ∨ f = 2) : ∃ N, Trip_minutesOnto_26 p f M = some (waS F g t p f, N) ∧ LF M N := by
  have b1 := kdS_b hg hw p
  have b2 := wiS_b hw p
  have b3 := grS_b hw p
  have b4 := mkS_b hw p
  have b5 := hw.1
  have b6 := and_b b4.1 b4.2 hf
  have e1 : M 26 13 = t 0 4 := h.1.2.2.2.2.1
  obtain ⟨N, e2, e3⟩ := Law_walking_eq (k := kdS g t p) (w := wiS t p) (q := grS t p) (f := if b_and (mkS t p) f = 0 then 0 else 1) (y := t 0 4) hF hL (by omega) (by omega) (by omega) (by split <;> decide) (by omega)
  refine ⟨N, ?_, e3⟩
  unfold Trip_minutesOnto_26 Trip_minutesOnto_26_15
  unfold waS
  by_cases hc : b_and (mkS t p) f = 0
  · rw [if_pos hc] at e2 ⊢
    simp (disch := omega) only [c_lt_p, c_eq_p, c_ne_p, c_ge_p, c_gt_p, c_le_p, rd_p, wa_p, wz_p, w8_p, fz_p, fw_p, tw_p, ck_p, ob_s, oc_s, if_pos, if_neg, am_upo, up_s, ne_eq, not_true_eq_false, not_false_eq_true, true_or, or_true, true_and, and_true, false_and, and_false, ck_t, reduceIte, Int.tmod_eq_emod_of_nonneg, Int.tdiv_eq_ediv_of_nonneg, Trip_marksAt_26_eq hw h hp, Trip_kindAt_26_eq hw hG h hp, Trip_widthAt_26_eq hw h hp, Trip_grownAt_26_eq hw h hp, e1, e2]
  · rw [if_neg hc] at e2 ⊢
    simp (disch := omega) only [c_lt_p, c_eq_p, c_ne_p, c_ge_p, c_gt_p, c_le_p, rd_p, wa_p, wz_p, w8_p, fz_p, fw_p, tw_p, ck_p, ob_s, oc_s, if_pos, if_neg, am_upo, up_s, ne_eq, not_true_eq_false, not_false_eq_true, true_or, or_true, true_and, and_true, false_and, and_false, ck_t, reduceIte, Int.tmod_eq_emod_of_nonneg, Int.tdiv_eq_ediv_of_nonneg, Trip_marksAt_26_eq hw h hp, Trip_kindAt_26_eq hw hG h hp, Trip_widthAt_26_eq hw h hp, Trip_grownAt_26_eq hw h hp, e1, e2]
theorem Trip_kindAt_34_eq {g t M : am_M} (hw : WT t) (hG : GP g M) (h : TP 34 t M) {p : Int} (hp : am_R p) : Trip_kindAt_34 p M = some (kdS g t p) := by
  unfold Trip_kindAt_34
  unfold kdS
  by_cases hc : 0 ≤ p ∧ p < t 0 1
  · have ha := hw.at hc.1 hc.2
    have e1 : ceS t p = t 2 p.toNat := if_pos hc
    have e2 := hG.2.2.1 (t 2 p.toNat).toNat (by omega)
    simp (disch := omega) only [c_lt_p, c_eq_p, c_ne_p, c_ge_p, c_gt_p, c_le_p, rd_p, wa_p, wz_p, w8_p, fz_p, fw_p, tw_p, ck_p, ob_s, oc_s, if_pos, if_neg, am_upo, up_s, ne_eq, not_true_eq_false, not_false_eq_true, true_or, or_true, true_and, and_true, false_and, and_false, ck_t, reduceIte, Int.tmod_eq_emod_of_nonneg, Int.tdiv_eq_ediv_of_nonneg, Trip_cellAt_34_eq hw h hp, e1, Country_kindAt_eq, e2]
  · have e1 : ceS t p = -1 := if_neg hc
    simp (disch := omega) only [c_lt_p, c_eq_p, c_ne_p, c_ge_p, c_gt_p, c_le_p, rd_p, wa_p, wz_p, w8_p, fz_p, fw_p, tw_p, ck_p, ob_s, oc_s, if_pos, if_neg, am_upo, up_s, ne_eq, not_true_eq_false, not_false_eq_true, true_or, or_true, true_and, and_true, false_and, and_false, ck_t, reduceIte, Int.tmod_eq_emod_of_nonneg, Int.tdiv_eq_ediv_of_nonneg, Trip_cellAt_34_eq hw h hp, e1, Country_kindAt_eq]
theorem Trip_minutesOnto_34_eq {F : FT} {g t M : am_M} (hF : FO F) (hL : LWP F M) (hg : WG g) (hw : WT t) (hG : GP g M) (h : TP 34 t M) {p f : Int} (hp : am_R p) (hf : f = 1 ∨ f = 2) : ∃ N, Trip_minutesOnto_34 p f M = some (waS F g t p f, N) ∧ LF M N := by
  have b1 := kdS_b hg hw p
  have b2 := wiS_b hw p
  have b3 := grS_b hw p
  have b4 := mkS_b hw p
  have b5 := hw.1
  have b6 := and_b b4.1 b4.2 hf
  have e1 : M 34 13 = t 0 4 := h.1.2.2.2.2.1
  obtain ⟨N, e2, e3⟩ := Law_walking_eq (k := kdS g t p) (w := wiS t p) (q := grS t p) (f := if b_and (mkS t p) f = 0 then 0 else 1) (y := t 0 4) hF hL (by omega) (by omega) (by omega) (by split <;> decide) (by omega)
  refine ⟨N, ?_, e3⟩
  unfold Trip_minutesOnto_34 Trip_minutesOnto_34_15
  unfold waS
  by_cases hc : b_and (mkS t p) f = 0
  · rw [if_pos hc] at e2 ⊢
    simp (disch := omega) only [c_lt_p, c_eq_p, c_ne_p, c_ge_p, c_gt_p, c_le_p, rd_p, wa_p, wz_p, w8_p, fz_p, fw_p, tw_p, ck_p, ob_s, oc_s, if_pos, if_neg, am_upo, up_s, ne_eq, not_true_eq_false, not_false_eq_true, true_or, or_true, true_and, and_true, false_and, and_false, ck_t, reduceIte, Int.tmod_eq_emod_of_nonneg, Int.tdiv_eq_ediv_of_nonneg, Trip_marksAt_34_eq hw h hp, Trip_kindAt_34_eq hw hG h hp, Trip_widthAt_34_eq hw h hp, Trip_grownAt_34_eq hw h hp, e1, e2]
  · rw [if_neg hc] at e2 ⊢
    simp (disch := omega) only [c_lt_p, c_eq_p, c_ne_p, c_ge_p, c_gt_p, c_le_p, rd_p, wa_p, wz_p, w8_p, fz_p, fw_p, tw_p, ck_p, ob_s, oc_s, if_pos, if_neg, am_upo, up_s, ne_eq, not_true_eq_false, not_false_eq_true, true_or, or_true, true_and, and_true, false_and, and_false, ck_t, reduceIte, Int.tmod_eq_emod_of_nonneg, Int.tdiv_eq_ediv_of_nonneg, Trip_marksAt_34_eq hw h hp, Trip_kindAt_34_eq hw hG h hp, Trip_widthAt_34_eq hw h hp, Trip_grownAt_34_eq hw h hp, e1, e2]
theorem Trip_wrongTenths_eq {F : FT} {g t M : am_M} (hF : FO F) (hL : LWP F M) (hg : WG g) (hw : WT t) (hG : GP g M) (h : TP 26 t M) {p : Int} (hp : am_R p) : ∃ N, Trip_wrongTenths_26 p M = some (erS F g t p, N) ∧ LF M N := by
  have b1 := kdS_b hg hw p
  have b2 := wiS_b hw p
  have b3 := grS_b hw p
  have b5 := hw.1
  have e1 : M 26 13 = t 0 4 := h.1.2.2.2.2.1
  obtain ⟨N, e2, e3⟩ := Law_erring_eq (k := kdS g t p) (w := wiS t p) (q := grS t p) (y := t 0 4) hF hL (by omega) (by omega) (by omega) (by omega)
  refine ⟨N, ?_, e3⟩
  unfold Trip_wrongTenths_26
  unfold erS
  simp (disch := omega) only [c_lt_p, c_eq_p, c_ne_p, c_ge_p, c_gt_p, c_le_p, rd_p, wa_p, wz_p, w8_p, fz_p, fw_p, tw_p, ck_p, ob_s, oc_s, if_pos, if_neg, am_upo, up_s, ne_eq, not_true_eq_false, not_false_eq_true, true_or, or_true, true_and, and_true, false_and, and_false, ck_t, reduceIte, Int.tmod_eq_emod_of_nonneg, Int.tdiv_eq_ediv_of_nonneg, Trip_kindAt_26_eq hw hG h hp, Trip_widthAt_26_eq hw h hp, Trip_grownAt_26_eq hw h hp, e1, e2]
theorem R_walkingTo_eq {F : FT} {g t M : am_M} (hF : FO F) (hL : LWR F M) (hg : WG g) (hw : WT t) (hG : GR g M) (h : TR t M) {p f : Int} (h0 : 0 ≤ p) (h1 : p < t 0 1) (hf : f = 1 ∨ f = 2) : ∃ N, R_walkingTo p f M = some (waS F g t p f, N) ∧ LG M N := by
  have b1 := kdS_b hg hw p
  have b2 := wiS_b hw p
  have b3 := grS_b hw p
  have b4 := mkS_b hw p
  have b5 := hw.1
  have b6 := and_b b4.1 b4.2 hf
  have ha := hw.at h0 h1
  have e45 := h.1.2.2.2.2.1
  obtain ⟨c1, c2, c3, c4, c5⟩ := h.2.1 p.toNat (by omega)
  have c6 := hG.2.2.1 (t 2 p.toNat).toNat (by omega)
  have d1 : kdS g t p = g 2 (t 2 p.toNat).toNat := if_pos ⟨h0, h1⟩
  have d2 : wiS t p = t 3 p.toNat := if_pos ⟨h0, h1⟩
  have d3 : grS t p = t 4 p.toNat := if_pos ⟨h0, h1⟩
  have d4 : mkS t p = t 5 p.toNat := if_pos ⟨h0, h1⟩
  obtain ⟨N, e2, e3⟩ := R_walking_eq (k := kdS g t p) (w := wiS t p) (q := grS t p) (f := if b_and (mkS t p) f = 0 then 0 else 1) (y := t 0 4) hF hL (by omega) (by omega) (by omega) (by split <;> decide) (by omega)
  refine ⟨N, ?_, e3⟩
  unfold R_walkingTo R_walkingTo_40
  unfold waS
  by_cases hc : b_and (mkS t p) f = 0
  · rw [if_pos hc] at e2 ⊢
    rw [d1, d2, d3] at e2 ⊢
    rw [d4] at hc b6
    simp (disch := omega) only [c_lt_p, c_eq_p, c_ne_p, c_ge_p, c_gt_p, c_le_p, rd_p, wa_p, wz_p, w8_p, fz_p, fw_p, tw_p, ck_p, ob_s, oc_s, if_pos, if_neg, am_upo, up_s, ne_eq, not_true_eq_false, not_false_eq_true, true_or, or_true, true_and, and_true, false_and, and_false, ck_t, reduceIte, Int.tmod_eq_emod_of_nonneg, Int.tdiv_eq_ediv_of_nonneg, c1, c2, c3, c4, c6, e45, e2, hc]
  · rw [if_neg hc] at e2 ⊢
    rw [d1, d2, d3] at e2 ⊢
    rw [d4] at hc b6
    simp (disch := omega) only [c_lt_p, c_eq_p, c_ne_p, c_ge_p, c_gt_p, c_le_p, rd_p, wa_p, wz_p, w8_p, fz_p, fw_p, tw_p, ck_p, ob_s, oc_s, if_pos, if_neg, am_upo, up_s, ne_eq, not_true_eq_false, not_false_eq_true, true_or, or_true, true_and, and_true, false_and, and_false, ck_t, reduceIte, Int.tmod_eq_emod_of_nonneg, Int.tdiv_eq_ediv_of_nonneg, c1, c2, c3, c4, c6, e45, e2]
theorem R_straying_eq {F : FT} {g t M : am_M} (hF : FO F) (hL : LWR F M) (hg : WG g) (hw : WT t) (hG : GR g M) (h : TR t M) {p : Int} (h0 : 0 ≤ p) (h1 : p < t 0 1) : ∃ N, R_straying p M = some (erS F g t p, N) ∧ LG M N := by
  have b1 := kdS_b hg hw p
  have b2 := wiS_b hw p
  have b3 := grS_b hw p
  have b5 := hw.1
  have ha := hw.at h0 h1
  have e45 := h.1.2.2.2.2.1
  obtain ⟨c1, c2, c3, c4, c5⟩ := h.2.1 p.toNat (by omega)
  have c6 := hG.2.2.1 (t 2 p.toNat).toNat (by omega)
  have d1 : kdS g t p = g 2 (t 2 p.toNat).toNat := if_pos ⟨h0, h1⟩
  have d2 : wiS t p = t 3 p.toNat := if_pos ⟨h0, h1⟩
  have d3 : grS t p = t 4 p.toNat := if_pos ⟨h0, h1⟩
  obtain ⟨N, N1, e2, e3, e4⟩ := tells_eq (k := kdS g t p) (w := wiS t p) (a := 0) (t := 0) (q := grS t p) (f := 0) (y := t 0 4) (l := 100) (m := 10) hF hL (by omega) (by omega) (by decide) (by decide) (by omega) (by decide) (by omega) (by decide) (by decide) (by decide)
  refine ⟨N, ?_, e4⟩
  unfold R_straying
  unfold erS
  rw [d1, d2, d3] at e2 e3 ⊢
  simp (disch := omega) only [c_lt_p, c_eq_p, c_ne_p, c_ge_p, c_gt_p, c_le_p, rd_p, wa_p, wz_p, w8_p, fz_p, fw_p, tw_p, ck_p, ob_s, oc_s, if_pos, if_neg, am_upo, up_s, ne_eq, not_true_eq_false, not_false_eq_true, true_or, or_true, true_and, and_true, false_and, and_false, ck_t, reduceIte, Int.tmod_eq_emod_of_nonneg, Int.tdiv_eq_ediv_of_nonneg, c1, c2, c3, c6, e45, e2, e3]
