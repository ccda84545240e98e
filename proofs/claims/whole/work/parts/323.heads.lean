-- places of a path's head that change alone
theorem onB_h {t : am_M} {j : Nat} {v : Int} (h : j ≠ 1) : onB (am_up t 0 j v) = onB t := by
  funext c
  unfold onB
  simp (disch := omega) only [c_lt_p, c_eq_p, c_ne_p, c_ge_p, c_gt_p, c_le_p, rd_p, wa_p, wz_p, w8_p, fz_p, fw_p, tw_p, ck_p, ob_s, oc_s, if_pos, if_neg, am_upo, up_s, ne_eq, not_true_eq_false, not_false_eq_true, true_or, or_true, true_and, and_true, false_and, and_false, ck_t, reduceIte, Int.tmod_eq_emod_of_nonneg, Int.tdiv_eq_ediv_of_nonneg]
theorem TP.h0 {b : Nat} {t M : am_M} {v : Int} (h : TP b t M) (hv : v ≠ -1) : TP b (am_up t 0 0 v) (am_up M b 9 v) := by
  unfold TP at h ⊢
  rw [onB_h (by decide)]
  simp (disch := omega) only [c_lt_p, c_eq_p, c_ne_p, c_ge_p, c_gt_p, c_le_p, rd_p, wa_p, wz_p, w8_p, fz_p, fw_p, tw_p, ck_p, ob_s, oc_s, if_pos, if_neg, am_upo, up_s, ne_eq, not_true_eq_false, not_false_eq_true, true_or, or_true, true_and, and_true, false_and, and_false, ck_t, reduceIte, Int.tmod_eq_emod_of_nonneg, Int.tdiv_eq_ediv_of_nonneg]
  exact ⟨h.1.2, h.2⟩
theorem TR.h0 {t M : am_M} {v : Int} (h : TR t M) : TR (am_up t 0 0 v) (am_up M 73 41 v) := by
  unfold TR at h ⊢
  rw [onB_h (by decide)]
  simp (disch := omega) only [c_lt_p, c_eq_p, c_ne_p, c_ge_p, c_gt_p, c_le_p, rd_p, wa_p, wz_p, w8_p, fz_p, fw_p, tw_p, ck_p, ob_s, oc_s, if_pos, if_neg, am_upo, up_s, ne_eq, not_true_eq_false, not_false_eq_true, true_or, or_true, true_and, and_true, false_and, and_false, ck_t, reduceIte, Int.tmod_eq_emod_of_nonneg, Int.tdiv_eq_ediv_of_nonneg]
  exact ⟨h.1.2, h.2⟩
theorem TP.h2 {b : Nat} {t M : am_M} {v : Int} (h : TP b t M) : TP b (am_up t 0 2 v) (am_up M b 11 v) := by
  unfold TP at h ⊢
  rw [onB_h (by decide)]
  simp (disch := omega) only [c_lt_p, c_eq_p, c_ne_p, c_ge_p, c_gt_p, c_le_p, rd_p, wa_p, wz_p, w8_p, fz_p, fw_p, tw_p, ck_p, ob_s, oc_s, if_pos, if_neg, am_upo, up_s, ne_eq, not_true_eq_false, not_false_eq_true, true_or, or_true, true_and, and_true, false_and, and_false, ck_t, reduceIte, Int.tmod_eq_emod_of_nonneg, Int.tdiv_eq_ediv_of_nonneg]
  exact ⟨⟨h.1.1, h.1.2.1, h.1.2.2.2⟩, h.2⟩
theorem TR.h2 {t M : am_M} {v : Int} (h : TR t M) : TR (am_up t 0 2 v) (am_up M 73 47 v) := by
  unfold TR at h ⊢
  rw [onB_h (by decide)]
  simp (disch := omega) only [c_lt_p, c_eq_p, c_ne_p, c_ge_p, c_gt_p, c_le_p, rd_p, wa_p, wz_p, w8_p, fz_p, fw_p, tw_p, ck_p, ob_s, oc_s, if_pos, if_neg, am_upo, up_s, ne_eq, not_true_eq_false, not_false_eq_true, true_or, or_true, true_and, and_true, false_and, and_false, ck_t, reduceIte, Int.tmod_eq_emod_of_nonneg, Int.tdiv_eq_ediv_of_nonneg]
  exact ⟨⟨h.1.1, h.1.2.1, h.1.2.2.2⟩, h.2⟩
theorem TP.h3 {b : Nat} {t M : am_M} {v : Int} (h : TP b t M) : TP b (am_up t 0 3 v) (am_up M b 12 v) := by
  unfold TP at h ⊢
  rw [onB_h (by decide)]
  simp (disch := omega) only [c_lt_p, c_eq_p, c_ne_p, c_ge_p, c_gt_p, c_le_p, rd_p, wa_p, wz_p, w8_p, fz_p, fw_p, tw_p, ck_p, ob_s, oc_s, if_pos, if_neg, am_upo, up_s, ne_eq, not_true_eq_false, not_false_eq_true, true_or, or_true, true_and, and_true, false_and, and_false, ck_t, reduceIte, Int.tmod_eq_emod_of_nonneg, Int.tdiv_eq_ediv_of_nonneg]
  exact ⟨⟨h.1.1, h.1.2.1, h.1.2.2.1, h.1.2.2.2.2⟩, h.2⟩
theorem TR.h3 {t M : am_M} {v : Int} (h : TR t M) : TR (am_up t 0 3 v) (am_up M 73 44 v) := by
  unfold TR at h ⊢
  rw [onB_h (by decide)]
  simp (disch := omega) only [c_lt_p, c_eq_p, c_ne_p, c_ge_p, c_gt_p, c_le_p, rd_p, wa_p, wz_p, w8_p, fz_p, fw_p, tw_p, ck_p, ob_s, oc_s, if_pos, if_neg, am_upo, up_s, ne_eq, not_true_eq_false, not_false_eq_true, true_or, or_true, true_and, and_true, false_and, and_false, ck_t, reduceIte, Int.tmod_eq_emod_of_nonneg, Int.tdiv_eq_ediv_of_nonneg]
  exact ⟨⟨h.1.1, h.1.2.1, h.1.2.2.1, h.1.2.2.2.2⟩, h.2⟩
theorem TP.h4 {b : Nat} {t M : am_M} {v : Int} (h : TP b t M) : TP b (am_up t 0 4 v) (am_up M b 13 v) := by
  unfold TP at h ⊢
  rw [onB_h (by decide)]
  simp (disch := omega) only [c_lt_p, c_eq_p, c_ne_p, c_ge_p, c_gt_p, c_le_p, rd_p, wa_p, wz_p, w8_p, fz_p, fw_p, tw_p, ck_p, ob_s, oc_s, if_pos, if_neg, am_upo, up_s, ne_eq, not_true_eq_false, not_false_eq_true, true_or, or_true, true_and, and_true, false_and, and_false, ck_t, reduceIte, Int.tmod_eq_emod_of_nonneg, Int.tdiv_eq_ediv_of_nonneg]
  exact ⟨⟨h.1.1, h.1.2.1, h.1.2.2.1, h.1.2.2.2.1, h.1.2.2.2.2.2⟩, h.2⟩
theorem TR.h4 {t M : am_M} {v : Int} (h : TR t M) : TR (am_up t 0 4 v) (am_up M 73 45 v) := by
  unfold TR at h ⊢
  rw [onB_h (by decide)]
  simp (disch := omega) only [c_lt_p, c_eq_p, c_ne_p, c_ge_p, c_gt_p, c_le_p, rd_p, wa_p, wz_p, w8_p, fz_p, fw_p, tw_p, ck_p, ob_s, oc_s, if_pos, if_neg, am_upo, up_s, ne_eq, not_true_eq_false, not_false_eq_true, true_or, or_true, true_and, and_true, false_and, and_false, ck_t, reduceIte, Int.tmod_eq_emod_of_nonneg, Int.tdiv_eq_ediv_of_nonneg]
  exact ⟨⟨h.1.1, h.1.2.1, h.1.2.2.1, h.1.2.2.2.1, h.1.2.2.2.2.2⟩, h.2⟩
theorem TP.h5 {b : Nat} {t M : am_M} {v : Int} (h : TP b t M) : TP b (am_up t 0 5 v) (am_up M b 14 v) := by
  unfold TP at h ⊢
  rw [onB_h (by decide)]
  simp (disch := omega) only [c_lt_p, c_eq_p, c_ne_p, c_ge_p, c_gt_p, c_le_p, rd_p, wa_p, wz_p, w8_p, fz_p, fw_p, tw_p, ck_p, ob_s, oc_s, if_pos, if_neg, am_upo, up_s, ne_eq, not_true_eq_false, not_false_eq_true, true_or, or_true, true_and, and_true, false_and, and_false, ck_t, reduceIte, Int.tmod_eq_emod_of_nonneg, Int.tdiv_eq_ediv_of_nonneg]
  exact ⟨⟨h.1.1, h.1.2.1, h.1.2.2.1, h.1.2.2.2.1, h.1.2.2.2.2.1⟩, h.2⟩
theorem TR.h5 {t M : am_M} {v : Int} (h : TR t M) : TR (am_up t 0 5 v) (am_up M 73 2 v) := by
  unfold TR at h ⊢
  rw [onB_h (by decide)]
  simp (disch := omega) only [c_lt_p, c_eq_p, c_ne_p, c_ge_p, c_gt_p, c_le_p, rd_p, wa_p, wz_p, w8_p, fz_p, fw_p, tw_p, ck_p, ob_s, oc_s, if_pos, if_neg, am_upo, up_s, ne_eq, not_true_eq_false, not_false_eq_true, true_or, or_true, true_and, and_true, false_and, and_false, ck_t, reduceIte, Int.tmod_eq_emod_of_nonneg, Int.tdiv_eq_ediv_of_nonneg]
  exact ⟨⟨h.1.1, h.1.2.1, h.1.2.2.1, h.1.2.2.2.1, h.1.2.2.2.2.1⟩, h.2⟩
theorem WT.h0 {t : am_M} {v : Int} (h : WT t) (hv : -1 ≤ v ∧ v < 6) : WT (am_up t 0 0 v) := by
  unfold WT at h ⊢
  simp (disch := omega) only [c_lt_p, c_eq_p, c_ne_p, c_ge_p, c_gt_p, c_le_p, rd_p, wa_p, wz_p, w8_p, fz_p, fw_p, tw_p, ck_p, ob_s, oc_s, if_pos, if_neg, am_upo, up_s, ne_eq, not_true_eq_false, not_false_eq_true, true_or, or_true, true_and, and_true, false_and, and_false, ck_t, reduceIte, Int.tmod_eq_emod_of_nonneg, Int.tdiv_eq_ediv_of_nonneg]
  have := h.1
  exact ⟨by omega, h.2⟩
theorem WT.h2 {t : am_M} {v : Int} (h : WT t) (hv : 0 ≤ v ∧ v < t 0 1) : WT (am_up t 0 2 v) := by
  unfold WT at h ⊢
  simp (disch := omega) only [c_lt_p, c_eq_p, c_ne_p, c_ge_p, c_gt_p, c_le_p, rd_p, wa_p, wz_p, w8_p, fz_p, fw_p, tw_p, ck_p, ob_s, oc_s, if_pos, if_neg, am_upo, up_s, ne_eq, not_true_eq_false, not_false_eq_true, true_or, or_true, true_and, and_true, false_and, and_false, ck_t, reduceIte, Int.tmod_eq_emod_of_nonneg, Int.tdiv_eq_ediv_of_nonneg]
  have := h.1
  exact ⟨by omega, h.2⟩
theorem WT.h3 {t : am_M} {v : Int} (h : WT t) (hv : 0 ≤ v ∧ v ≤ 999) : WT (am_up t 0 3 v) := by
  unfold WT at h ⊢
  simp (disch := omega) only [c_lt_p, c_eq_p, c_ne_p, c_ge_p, c_gt_p, c_le_p, rd_p, wa_p, wz_p, w8_p, fz_p, fw_p, tw_p, ck_p, ob_s, oc_s, if_pos, if_neg, am_upo, up_s, ne_eq, not_true_eq_false, not_false_eq_true, true_or, or_true, true_and, and_true, false_and, and_false, ck_t, reduceIte, Int.tmod_eq_emod_of_nonneg, Int.tdiv_eq_ediv_of_nonneg]
  have := h.1
  exact ⟨by omega, h.2⟩
theorem WT.h4 {t : am_M} {v : Int} (h : WT t) (hv : 0 ≤ v ∧ v ≤ 9999) : WT (am_up t 0 4 v) := by
  unfold WT at h ⊢
  simp (disch := omega) only [c_lt_p, c_eq_p, c_ne_p, c_ge_p, c_gt_p, c_le_p, rd_p, wa_p, wz_p, w8_p, fz_p, fw_p, tw_p, ck_p, ob_s, oc_s, if_pos, if_neg, am_upo, up_s, ne_eq, not_true_eq_false, not_false_eq_true, true_or, or_true, true_and, and_true, false_and, and_false, ck_t, reduceIte, Int.tmod_eq_emod_of_nonneg, Int.tdiv_eq_ediv_of_nonneg]
  have := h.1
  exact ⟨by omega, h.2⟩
theorem WT.h5 {t : am_M} {v : Int} (h : WT t) (hv : 0 ≤ v ∧ v < 65536) : WT (am_up t 0 5 v) := by
  unfold WT at h ⊢
  simp (disch := omega) only [c_lt_p, c_eq_p, c_ne_p, c_ge_p, c_gt_p, c_le_p, rd_p, wa_p, wz_p, w8_p, fz_p, fw_p, tw_p, ck_p, ob_s, oc_s, if_pos, if_neg, am_upo, up_s, ne_eq, not_true_eq_false, not_false_eq_true, true_or, or_true, true_and, and_true, false_and, and_false, ck_t, reduceIte, Int.tmod_eq_emod_of_nonneg, Int.tdiv_eq_ediv_of_nonneg]
  have := h.1
  exact ⟨by omega, h.2⟩
/-- cells that a trip's methods change -/
def WF (b : Nat) (M N : am_M) : Prop := ∀ k, k ≠ 12 → k ≠ 13 → (k < b ∨ b + 7 < k) → N k = M k
theorem WF.rf {b : Nat} {M : am_M} : WF b M M := fun _ _ _ _ => rfl
theorem WF.tr {b : Nat} {M N O : am_M} (a : WF b M N) (c : WF b N O) : WF b M O := fun k h1 h2 h3 => (c k h1 h2 h3).trans (a k h1 h2 h3)
theorem LF.wf {b : Nat} {M N : am_M} (h : LF M N) : WF b M N := fun k h1 h2 _ => h k h1 h2
theorem WF.up {b k j : Nat} {M N : am_M} {v : Int} (h : WF b M N) (hk : b ≤ k ∧ k ≤ b + 7) : WF b M (am_up N k j v) := fun c h1 h2 h3 => by
  rw [upo (by omega)]
  exact h c h1 h2 h3
theorem GP.wf {b : Nat} {g M N : am_M} (h : GP g M) (e : WF b M N) (hb : 16 ≤ b) : GP g N := by
  unfold GP at h ⊢
  rw [e 0 (by decide) (by decide) (by omega), e 1 (by decide) (by decide) (by omega), e 2 (by decide) (by decide) (by omega), e 4 (by decide) (by decide) (by omega), e 5 (by decide) (by decide) (by omega), e 14 (by decide) (by decide) (by omega), e 15 (by decide) (by decide) (by omega)]
  exact h
theorem LWP.wf {b : Nat} {F : FT} {M N : am_M} (h : LWP F M) (e : WF b M N) (hb : 16 ≤ b) : LWP F N := h.cg (fun k _ c => e k (by omega) (by omega) (by omega))
theorem OG.wf {b n : Nat} {M N : am_M} (h : OG n M) (e : WF b M N) (hb : b ≤ 60) : OG n N := h.cg (fun k a _ => e k (by omega) (by omega) (by omega)) (Nat.le_refl _)
theorem TP.wf {b c : Nat} {t M N : am_M} (h : TP c t M) (e : WF b M N) (hb : 14 ≤ c ∧ (c + 7 < b ∨ b + 7 < c)) : TP c t N := h.cg (fun k a _ => e k (by omega) (by omega) (by omega))
/-- what the reference's party changes -/
def RF (M N : am_M) : Prop := (∀ k, k ≠ 73 → k ≠ 90 → k ≠ 91 → k ≠ 93 → (k < 95 ∨ 100 < k) → N k = M k) ∧ (∀ j, j ≠ 2 → (j < 29 ∨ 35 < j) → j ≠ 41 → (j < 44 ∨ 47 < j) → (j < 74 ∨ 76 < j) → N 73 j = M 73 j)
theorem RF.rf {M : am_M} : RF M M := ⟨fun _ _ _ _ _ _ => rfl, fun _ _ _ _ _ _ => rfl⟩
theorem RF.tr {M N O : am_M} (a : RF M N) (b : RF N O) : RF M O := ⟨fun k h1 h2 h3 h4 h5 => (b.1 k h1 h2 h3 h4 h5).trans (a.1 k h1 h2 h3 h4 h5), fun j h1 h2 h3 h4 h5 => (b.2 j h1 h2 h3 h4 h5).trans (a.2 j h1 h2 h3 h4 h5)⟩
theorem LG.rf' {M N : am_M} (h : LG M N) : RF M N := ⟨fun k h1 h2 h3 _ _ => h.1 k h1 h2 h3, fun j _ h2 _ _ _ => h.2 j h2⟩
theorem RF.up {k0 j0 : Nat} {M N : am_M} {v : Int} (h : RF M N) (hk : k0 = 93 ∨ (95 ≤ k0 ∧ k0 ≤ 100) ∨ (k0 = 73 ∧ (j0 = 2 ∨ j0 = 41 ∨ (44 ≤ j0 ∧ j0 ≤ 47) ∨ (74 ≤ j0 ∧ j0 ≤ 76)))) : RF M (am_up N k0 j0 v) := by
  refine ⟨fun k h1 h2 h3 h4 h5 => ?_, fun j h1 h2 h3 h4 h5 => ?_⟩
  · rw [upo (by omega)]; exact h.1 k h1 h2 h3 h4 h5
  · by_cases q : 73 = k0
    · subst q; rw [upx (by omega)]; exact h.2 j h1 h2 h3 h4 h5
    · rw [upo q]; exact h.2 j h1 h2 h3 h4 h5
theorem GR.rf {g M N : am_M} (h : GR g M) (e : RF M N) : GR g N := by
  unfold GR at h ⊢
  rw [e.2 1 (by decide) (by decide) (by decide) (by decide) (by decide), e.2 42 (by decide) (by decide) (by decide) (by decide) (by decide), e.2 43 (by decide) (by decide) (by decide) (by decide) (by decide), e.2 19 (by decide) (by decide) (by decide) (by decide) (by decide), e.2 66 (by decide) (by decide) (by decide) (by decide) (by decide), e.1 74 (by decide) (by decide) (by decide) (by decide) (by decide), e.1 75 (by decide) (by decide) (by decide) (by decide) (by decide), e.1 92 (by decide) (by decide) (by decide) (by decide) (by decide), e.1 94 (by decide) (by decide) (by decide) (by decide) (by decide)]
  exact h
theorem LWR.rf {F : FT} {M N : am_M} (h : LWR F M) (e : RF M N) : LWR F N := h.cg (fun k a b => e.1 k (by omega) (by omega) (by omega) (by omega) (by omega)) (e.2 19 (by decide) (by decide) (by decide) (by decide) (by decide))
theorem KR.rf {u M N : am_M} (h : KR u M) (e : RF M N) : KR u N := h.cg (fun k a => e.1 k (by omega) (by omega) (by omega) (by omega) (by omega))
/-- a head's place that the path's readers don't see -/
theorem blS_h {t g : am_M} {j : Nat} {v p : Int} (h : j ≠ 1) : blS (am_up t 0 j v) g p = blS t g p := by
  have h1 : ∀ p, ceS (am_up t 0 j v) p = ceS t p := fun p => by unfold ceS; simp (disch := omega) only [c_lt_p, c_eq_p, c_ne_p, c_ge_p, c_gt_p, c_le_p, rd_p, wa_p, wz_p, w8_p, fz_p, fw_p, tw_p, ck_p, ob_s, oc_s, if_pos, if_neg, am_upo, up_s, ne_eq, not_true_eq_false, not_false_eq_true, true_or, or_true, true_and, and_true, false_and, and_false, ck_t, reduceIte, Int.tmod_eq_emod_of_nonneg, Int.tdiv_eq_ediv_of_nonneg]
  have h2 : ∀ p, mkS (am_up t 0 j v) p = mkS t p := fun p => by unfold mkS; simp (disch := omega) only [c_lt_p, c_eq_p, c_ne_p, c_ge_p, c_gt_p, c_le_p, rd_p, wa_p, wz_p, w8_p, fz_p, fw_p, tw_p, ck_p, ob_s, oc_s, if_pos, if_neg, am_upo, up_s, ne_eq, not_true_eq_false, not_false_eq_true, true_or, or_true, true_and, and_true, false_and, and_false, ck_t, reduceIte, Int.tmod_eq_emod_of_nonneg, Int.tdiv_eq_ediv_of_nonneg]
  have h3 : ∀ p, skS (am_up t 0 j v) p = skS t p := fun p => by unfold skS; simp (disch := omega) only [c_lt_p, c_eq_p, c_ne_p, c_ge_p, c_gt_p, c_le_p, rd_p, wa_p, wz_p, w8_p, fz_p, fw_p, tw_p, ck_p, ob_s, oc_s, if_pos, if_neg, am_upo, up_s, ne_eq, not_true_eq_false, not_false_eq_true, true_or, or_true, true_and, and_true, false_and, and_false, ck_t, reduceIte, Int.tmod_eq_emod_of_nonneg, Int.tdiv_eq_ediv_of_nonneg]
  have h4 : ∀ w, FWb (am_up t 0 j v) g p w = FWb t g p w := fun w => by unfold FWb; rw [h1, h1, h1, onB_h h]
  have h5 : ∀ k w, frk (am_up t 0 j v) g p k w = frk t g p k w := by
    intro k
    induction k with
    | zero => intro w; rfl
    | succ k ih => intro w; unfold frk; rw [h4, ih]
  have h6 : fkS (am_up t 0 j v) g p = fkS t g p := by unfold fkS; rw [h5]
  unfold blS
  rw [h6, h2, h3]
theorem waS_h {F : FT} {t g : am_M} {j : Nat} {v p f : Int} (h : j ≠ 1) (h' : j ≠ 4) : waS F g (am_up t 0 j v) p f = waS F g t p f := by
  have h1 : kdS g (am_up t 0 j v) p = kdS g t p := by unfold kdS; simp (disch := omega) only [c_lt_p, c_eq_p, c_ne_p, c_ge_p, c_gt_p, c_le_p, rd_p, wa_p, wz_p, w8_p, fz_p, fw_p, tw_p, ck_p, ob_s, oc_s, if_pos, if_neg, am_upo, up_s, ne_eq, not_true_eq_false, not_false_eq_true, true_or, or_true, true_and, and_true, false_and, and_false, ck_t, reduceIte, Int.tmod_eq_emod_of_nonneg, Int.tdiv_eq_ediv_of_nonneg]
  have h2 : mkS (am_up t 0 j v) p = mkS t p := by unfold mkS; simp (disch := omega) only [c_lt_p, c_eq_p, c_ne_p, c_ge_p, c_gt_p, c_le_p, rd_p, wa_p, wz_p, w8_p, fz_p, fw_p, tw_p, ck_p, ob_s, oc_s, if_pos, if_neg, am_upo, up_s, ne_eq, not_true_eq_false, not_false_eq_true, true_or, or_true, true_and, and_true, false_and, and_false, ck_t, reduceIte, Int.tmod_eq_emod_of_nonneg, Int.tdiv_eq_ediv_of_nonneg]
  have h3 : wiS (am_up t 0 j v) p = wiS t p := by unfold wiS; simp (disch := omega) only [c_lt_p, c_eq_p, c_ne_p, c_ge_p, c_gt_p, c_le_p, rd_p, wa_p, wz_p, w8_p, fz_p, fw_p, tw_p, ck_p, ob_s, oc_s, if_pos, if_neg, am_upo, up_s, ne_eq, not_true_eq_false, not_false_eq_true, true_or, or_true, true_and, and_true, false_and, and_false, ck_t, reduceIte, Int.tmod_eq_emod_of_nonneg, Int.tdiv_eq_ediv_of_nonneg]
  have h4 : grS (am_up t 0 j v) p = grS t p := by unfold grS; simp (disch := omega) only [c_lt_p, c_eq_p, c_ne_p, c_ge_p, c_gt_p, c_le_p, rd_p, wa_p, wz_p, w8_p, fz_p, fw_p, tw_p, ck_p, ob_s, oc_s, if_pos, if_neg, am_upo, up_s, ne_eq, not_true_eq_false, not_false_eq_true, true_or, or_true, true_and, and_true, false_and, and_false, ck_t, reduceIte, Int.tmod_eq_emod_of_nonneg, Int.tdiv_eq_ediv_of_nonneg]
  have h5 : am_up t 0 j v 0 4 = t 0 4 := by simp (disch := omega) only [c_lt_p, c_eq_p, c_ne_p, c_ge_p, c_gt_p, c_le_p, rd_p, wa_p, wz_p, w8_p, fz_p, fw_p, tw_p, ck_p, ob_s, oc_s, if_pos, if_neg, am_upo, up_s, ne_eq, not_true_eq_false, not_false_eq_true, true_or, or_true, true_and, and_true, false_and, and_false, ck_t, reduceIte, Int.tmod_eq_emod_of_nonneg, Int.tdiv_eq_ediv_of_nonneg]
  unfold waS
  rw [h1, h2, h3, h4, h5]
theorem erS_h {F : FT} {t g : am_M} {j : Nat} {v p : Int} (h : j ≠ 1) (h' : j ≠ 4) : erS F g (am_up t 0 j v) p = erS F g t p := by
  have h1 : kdS g (am_up t 0 j v) p = kdS g t p := by unfold kdS; simp (disch := omega) only [c_lt_p, c_eq_p, c_ne_p, c_ge_p, c_gt_p, c_le_p, rd_p, wa_p, wz_p, w8_p, fz_p, fw_p, tw_p, ck_p, ob_s, oc_s, if_pos, if_neg, am_upo, up_s, ne_eq, not_true_eq_false, not_false_eq_true, true_or, or_true, true_and, and_true, false_and, and_false, ck_t, reduceIte, Int.tmod_eq_emod_of_nonneg, Int.tdiv_eq_ediv_of_nonneg]
  have h3 : wiS (am_up t 0 j v) p = wiS t p := by unfold wiS; simp (disch := omega) only [c_lt_p, c_eq_p, c_ne_p, c_ge_p, c_gt_p, c_le_p, rd_p, wa_p, wz_p, w8_p, fz_p, fw_p, tw_p, ck_p, ob_s, oc_s, if_pos, if_neg, am_upo, up_s, ne_eq, not_true_eq_false, not_false_eq_true, true_or, or_true, true_and, and_true, false_and, and_false, ck_t, reduceIte, Int.tmod_eq_emod_of_nonneg, Int.tdiv_eq_ediv_of_nonneg]
  have h4 : grS (am_up t 0 j v) p = grS t p := by unfold grS; simp (disch := omega) only [c_lt_p, c_eq_p, c_ne_p, c_ge_p, c_gt_p, c_le_p, rd_p, wa_p, wz_p, w8_p, fz_p, fw_p, tw_p, ck_p, ob_s, oc_s, if_pos, if_neg, am_upo, up_s, ne_eq, not_true_eq_false, not_false_eq_true, true_or, or_true, true_and, and_true, false_and, and_false, ck_t, reduceIte, Int.tmod_eq_emod_of_nonneg, Int.tdiv_eq_ediv_of_nonneg]
  have h5 : am_up t 0 j v 0 4 = t 0 4 := by simp (disch := omega) only [c_lt_p, c_eq_p, c_ne_p, c_ge_p, c_gt_p, c_le_p, rd_p, wa_p, wz_p, w8_p, fz_p, fw_p, tw_p, ck_p, ob_s, oc_s, if_pos, if_neg, am_upo, up_s, ne_eq, not_true_eq_false, not_false_eq_true, true_or, or_true, true_and, and_true, false_and, and_false, ck_t, reduceIte, Int.tmod_eq_emod_of_nonneg, Int.tdiv_eq_ediv_of_nonneg]
  unfold erS
  rw [h1, h3, h4, h5]
