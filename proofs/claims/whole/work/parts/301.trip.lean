-- what the class and the reference hold, in one: g (0: bytes told, width, light, clauses, kept; 1 tape; 2 kinds; 3 arms), t (0: ahead, length, place, minute, day, X; 1 tired; 2 cells; 3 widths; 4 grown; 5 marks; 6 sticks)
def onB (t : am_M) (c : Int) : Bool := (List.range (t 0 1).toNat).any fun p => t 2 p == c
theorem onB_i {t : am_M} {c : Int} : onB t c = true ↔ ∃ p : Nat, (p : Int) < t 0 1 ∧ t 2 p = c := by
  unfold onB
  rw [List.any_eq_true]
  constructor
  · rintro ⟨p, hp, he⟩
    exact ⟨p, by have := List.mem_range.mp hp; omega, by simpa using he⟩
  · rintro ⟨p, hp, he⟩
    exact ⟨p, List.mem_range.mpr (by omega), by simpa using he⟩
/-- a path that may be -/
def WT (t : am_M) : Prop := (1 ≤ t 0 1 ∧ t 0 1 ≤ 100 ∧ 0 ≤ t 0 2 ∧ t 0 2 < t 0 1 ∧ -1 ≤ t 0 0 ∧ t 0 0 < 6 ∧ 0 ≤ t 0 3 ∧ t 0 3 ≤ 999 ∧ 0 ≤ t 0 4 ∧ t 0 4 ≤ 9999 ∧ 0 ≤ t 0 5 ∧ t 0 5 < 65536) ∧ (∀ p : Nat, (p : Int) < t 0 1 → (0 ≤ t 2 p ∧ t 2 p < 144) ∧ (1 ≤ t 3 p ∧ t 3 p ≤ 4) ∧ (0 ≤ t 4 p ∧ t 4 p ≤ 99) ∧ (0 ≤ t 5 p ∧ t 5 p ≤ 3) ∧ (0 ≤ t 6 p ∧ t 6 p ≤ 1)) ∧ (∀ p : Nat, p < 6 → 0 ≤ t 1 p ∧ t 1 p ≤ 99) ∧ (∀ p q : Nat, (p : Int) < t 0 1 → (q : Int) < t 0 1 → t 2 p = t 2 q → p = q)
def TP (b : Nat) (t M : am_M) : Prop := (M b 9 = (if t 0 0 = -1 then -2 else t 0 0) ∧ M b 10 = t 0 1 ∧ M b 11 = t 0 2 ∧ M b 12 = t 0 3 ∧ M b 13 = t 0 4 ∧ M b 14 = t 0 5) ∧ (∀ p : Nat, (p : Int) < t 0 1 → M (b + 2) p = t 2 p ∧ M (b + 3) p = t 3 p ∧ M (b + 4) p = t 4 p ∧ M (b + 5) p = t 5 p ∧ M (b + 6) p = t 6 p) ∧ (∀ p : Nat, p < 6 → M (b + 1) p = t 1 p) ∧ (∀ c : Nat, c < 144 → M (b + 7) c = if onB t c then 1 else 0)
def TR (t M : am_M) : Prop := (M 73 41 = t 0 0 ∧ M 73 46 = t 0 1 ∧ M 73 47 = t 0 2 ∧ M 73 44 = t 0 3 ∧ M 73 45 = t 0 4 ∧ M 73 2 = t 0 5) ∧ (∀ p : Nat, (p : Int) < t 0 1 → M 95 p = t 2 p ∧ M 96 p = t 3 p ∧ M 97 p = t 4 p ∧ M 98 p = t 5 p ∧ M 99 p = t 6 p) ∧ (∀ p : Nat, p < 6 → M 93 p = t 1 p) ∧ (∀ c : Nat, c < 144 → (M 100 c = -1 ∧ onB t c = false) ∨ (0 ≤ M 100 c ∧ M 100 c < t 0 1 ∧ t 2 (M 100 c).toNat = c))
def WG (g : am_M) : Prop := (0 ≤ g 0 0 ∧ g 0 0 ≤ 260 ∧ 1 ≤ g 0 1 ∧ g 0 1 ≤ 4 ∧ 0 ≤ g 0 2 ∧ g 0 2 ≤ 999 ∧ 0 ≤ g 0 3 ∧ g 0 3 ≤ 16 ∧ 0 ≤ g 0 4 ∧ g 0 4 ≤ 1) ∧ (∀ i : Nat, i < 260 → 0 ≤ g 1 i ∧ g 1 i < 256) ∧ KI (g 2) ∧ AI (g 3)
def GP (g M : am_M) : Prop := (M 14 1 = g 0 0 ∧ M 1 3 = g 0 1 ∧ M 1 4 = g 0 2 ∧ M 5 7 = g 0 3 ∧ M 0 7 = g 0 4) ∧ (∀ i : Nat, i < 260 → M 15 i = g 1 i) ∧ (∀ c : Nat, c < 144 → M 2 c = g 2 c) ∧ (∀ p : Nat, p < 6 → M 4 p = g 3 p)
def GR (g M : am_M) : Prop := (M 73 1 = g 0 0 ∧ M 73 42 = g 0 1 ∧ M 73 43 = g 0 2 ∧ M 73 19 = g 0 3 ∧ M 73 66 = g 0 4) ∧ (∀ i : Nat, i < 260 → b_and (M 74 i) 255 = g 1 i) ∧ (∀ c : Nat, c < 144 → M 75 c = g 2 c) ∧ (∀ p : Nat, p < 6 → M 92 p = g 3 p ∧ M 94 p = if 0 < g 3 p then 1 else 0)
def ceS (t : am_M) (p : Int) : Int := if 0 ≤ p ∧ p < t 0 1 then t 2 p.toNat else -1
def wiS (t : am_M) (p : Int) : Int := if 0 ≤ p ∧ p < t 0 1 then t 3 p.toNat else 0
def grS (t : am_M) (p : Int) : Int := if 0 ≤ p ∧ p < t 0 1 then t 4 p.toNat else 0
def mkS (t : am_M) (p : Int) : Int := if 0 ≤ p ∧ p < t 0 1 then t 5 p.toNat else 0
def skS (t : am_M) (p : Int) : Int := if 0 ≤ p ∧ p < t 0 1 then t 6 p.toNat else 0
theorem WT.at {t : am_M} (h : WT t) {p : Int} (h0 : 0 ≤ p) (h1 : p < t 0 1) : (0 ≤ t 2 p.toNat ∧ t 2 p.toNat < 144) ∧ (1 ≤ t 3 p.toNat ∧ t 3 p.toNat ≤ 4) ∧ (0 ≤ t 4 p.toNat ∧ t 4 p.toNat ≤ 99) ∧ (0 ≤ t 5 p.toNat ∧ t 5 p.toNat ≤ 3) ∧ (0 ≤ t 6 p.toNat ∧ t 6 p.toNat ≤ 1) := h.2.1 p.toNat (by omega)
theorem KI.of {g M : am_M} (hw : WG g) (h : GP g M) : KI (M 2) := fun c hc => by rw [h.2.2.1 c hc]; exact hw.2.2.1 c hc
theorem AI.of {g M : am_M} (hw : WG g) (h : GP g M) : AI (M 4) := fun c hc => by rw [h.2.2.2 c hc]; exact hw.2.2.2 c hc
theorem Trip_isPlace_26_eq {t M : am_M} (hw : WT t) (h : TP 26 t M) {p : Int} (hp : am_R p) : Trip_isPlace_26 p M = some (if 0 ≤ p ∧ p < t 0 1 then 1 else 0) := by
  unfold Trip_isPlace_26 Trip_isPlace_26_22 Trip_isPlace_26_23
  have h1 : M 26 10 = t 0 1 := h.1.2.1
  have h2 := hw.1
  by_cases hc : 0 ≤ p ∧ p < t 0 1
  · simp (disch := omega) only [c_lt_p, c_eq_p, c_ne_p, c_ge_p, c_gt_p, c_le_p, rd_p, wa_p, wz_p, w8_p, fz_p, fw_p, tw_p, ck_p, ob_s, oc_s, if_pos, if_neg, am_upo, up_s, ne_eq, not_true_eq_false, not_false_eq_true, true_or, or_true, true_and, and_true, false_and, and_false, ck_t, reduceIte, Int.tmod_eq_emod_of_nonneg, Int.tdiv_eq_ediv_of_nonneg, h1]
  · by_cases h3 : p < 0
    · simp (disch := omega) only [c_lt_p, c_eq_p, c_ne_p, c_ge_p, c_gt_p, c_le_p, rd_p, wa_p, wz_p, w8_p, fz_p, fw_p, tw_p, ck_p, ob_s, oc_s, if_pos, if_neg, am_upo, up_s, ne_eq, not_true_eq_false, not_false_eq_true, true_or, or_true, true_and, and_true, false_and, and_false, ck_t, reduceIte, Int.tmod_eq_emod_of_nonneg, Int.tdiv_eq_ediv_of_nonneg, h1]
    · simp (disch := omega) only [c_lt_p, c_eq_p, c_ne_p, c_ge_p, c_gt_p, c_le_p, rd_p, wa_p, wz_p, w8_p, fz_p, fw_p, tw_p, ck_p, ob_s, oc_s, if_pos, if_neg, am_upo, up_s, ne_eq, not_true_eq_false, not_false_eq_true, true_or, or_true, true_and, and_true, false_and, and_false, ck_t, reduceIte, Int.tmod_eq_emod_of_nonneg, Int.tdiv_eq_ediv_of_nonneg, h1]
theorem Trip_cellAt_26_eq {t M : am_M} (hw : WT t) (h : TP 26 t M) {p : Int} (hp : am_R p) : Trip_cellAt_26 p M = some (ceS t p) := by
  unfold Trip_cellAt_26 Trip_cellAt_26_18
  unfold ceS
  have h2 := hw.1
  by_cases hc : 0 ≤ p ∧ p < t 0 1
  · have h3 : M 28 p.toNat = t 2 p.toNat := (h.2.1 p.toNat (by omega)).1
    simp (disch := omega) only [c_lt_p, c_eq_p, c_ne_p, c_ge_p, c_gt_p, c_le_p, rd_p, wa_p, wz_p, w8_p, fz_p, fw_p, tw_p, ck_p, ob_s, oc_s, if_pos, if_neg, am_upo, up_s, ne_eq, not_true_eq_false, not_false_eq_true, true_or, or_true, true_and, and_true, false_and, and_false, ck_t, reduceIte, Int.tmod_eq_emod_of_nonneg, Int.tdiv_eq_ediv_of_nonneg, Trip_isPlace_26_eq hw h hp, h3]
  · simp (disch := omega) only [c_lt_p, c_eq_p, c_ne_p, c_ge_p, c_gt_p, c_le_p, rd_p, wa_p, wz_p, w8_p, fz_p, fw_p, tw_p, ck_p, ob_s, oc_s, if_pos, if_neg, am_upo, up_s, ne_eq, not_true_eq_false, not_false_eq_true, true_or, or_true, true_and, and_true, false_and, and_false, ck_t, reduceIte, Int.tmod_eq_emod_of_nonneg, Int.tdiv_eq_ediv_of_nonneg, Trip_isPlace_26_eq hw h hp]
theorem Trip_widthAt_26_eq {t M : am_M} (hw : WT t) (h : TP 26 t M) {p : Int} (hp : am_R p) : Trip_widthAt_26 p M = some (wiS t p) := by
  unfold Trip_widthAt_26 Trip_widthAt_26_18
  unfold wiS
  have h2 := hw.1
  by_cases hc : 0 ≤ p ∧ p < t 0 1
  · have h3 : M 29 p.toNat = t 3 p.toNat := (h.2.1 p.toNat (by omega)).2.1
    simp (disch := omega) only [c_lt_p, c_eq_p, c_ne_p, c_ge_p, c_gt_p, c_le_p, rd_p, wa_p, wz_p, w8_p, fz_p, fw_p, tw_p, ck_p, ob_s, oc_s, if_pos, if_neg, am_upo, up_s, ne_eq, not_true_eq_false, not_false_eq_true, true_or, or_true, true_and, and_true, false_and, and_false, ck_t, reduceIte, Int.tmod_eq_emod_of_nonneg, Int.tdiv_eq_ediv_of_nonneg, Trip_isPlace_26_eq hw h hp, h3]
  · simp (disch := omega) only [c_lt_p, c_eq_p, c_ne_p, c_ge_p, c_gt_p, c_le_p, rd_p, wa_p, wz_p, w8_p, fz_p, fw_p, tw_p, ck_p, ob_s, oc_s, if_pos, if_neg, am_upo, up_s, ne_eq, not_true_eq_false, not_false_eq_true, true_or, or_true, true_and, and_true, false_and, and_false, ck_t, reduceIte, Int.tmod_eq_emod_of_nonneg, Int.tdiv_eq_ediv_of_nonneg, Trip_isPlace_26_eq hw h hp]
theorem Trip_grownAt_26_eq {t M : am_M} (hw : WT t) (h : TP 26 t M) {p : Int} (hp : am_R p) : Trip_grownAt_26 p M = some (grS t p) := by
  unfold Trip_grownAt_26 Trip_grownAt_26_18
  unfold grS
  have h2 := hw.1
  by_cases hc : 0 ≤ p ∧ p < t 0 1
  · have h3 : M 30 p.toNat = t 4 p.toNat := (h.2.1 p.toNat (by omega)).2.2.1
    simp (disch := omega) only [c_lt_p, c_eq_p, c_ne_p, c_ge_p, c_gt_p, c_le_p, rd_p, wa_p, wz_p, w8_p, fz_p, fw_p, tw_p, ck_p, ob_s, oc_s, if_pos, if_neg, am_upo, up_s, ne_eq, not_true_eq_false, not_false_eq_true, true_or, or_true, true_and, and_true, false_and, and_false, ck_t, reduceIte, Int.tmod_eq_emod_of_nonneg, Int.tdiv_eq_ediv_of_nonneg, Trip_isPlace_26_eq hw h hp, h3]
  · simp (disch := omega) only [c_lt_p, c_eq_p, c_ne_p, c_ge_p, c_gt_p, c_le_p, rd_p, wa_p, wz_p, w8_p, fz_p, fw_p, tw_p, ck_p, ob_s, oc_s, if_pos, if_neg, am_upo, up_s, ne_eq, not_true_eq_false, not_false_eq_true, true_or, or_true, true_and, and_true, false_and, and_false, ck_t, reduceIte, Int.tmod_eq_emod_of_nonneg, Int.tdiv_eq_ediv_of_nonneg, Trip_isPlace_26_eq hw h hp]
theorem Trip_marksAt_26_eq {t M : am_M} (hw : WT t) (h : TP 26 t M) {p : Int} (hp : am_R p) : Trip_marksAt_26 p M = some (mkS t p) := by
  unfold Trip_marksAt_26 Trip_marksAt_26_18
  unfold mkS
  have h2 := hw.1
  by_cases hc : 0 ≤ p ∧ p < t 0 1
  · have h3 : M 31 p.toNat = t 5 p.toNat := (h.2.1 p.toNat (by omega)).2.2.2.1
    simp (disch := omega) only [c_lt_p, c_eq_p, c_ne_p, c_ge_p, c_gt_p, c_le_p, rd_p, wa_p, wz_p, w8_p, fz_p, fw_p, tw_p, ck_p, ob_s, oc_s, if_pos, if_neg, am_upo, up_s, ne_eq, not_true_eq_false, not_false_eq_true, true_or, or_true, true_and, and_true, false_and, and_false, ck_t, reduceIte, Int.tmod_eq_emod_of_nonneg, Int.tdiv_eq_ediv_of_nonneg, Trip_isPlace_26_eq hw h hp, h3]
  · simp (disch := omega) only [c_lt_p, c_eq_p, c_ne_p, c_ge_p, c_gt_p, c_le_p, rd_p, wa_p, wz_p, w8_p, fz_p, fw_p, tw_p, ck_p, ob_s, oc_s, if_pos, if_neg, am_upo, up_s, ne_eq, not_true_eq_false, not_false_eq_true, true_or, or_true, true_and, and_true, false_and, and_false, ck_t, reduceIte, Int.tmod_eq_emod_of_nonneg, Int.tdiv_eq_ediv_of_nonneg, Trip_isPlace_26_eq hw h hp]
theorem Trip_sticksAt_26_eq {t M : am_M} (hw : WT t) (h : TP 26 t M) {p : Int} (hp : am_R p) : Trip_sticksAt_26 p M = some (skS t p) := by
  unfold Trip_sticksAt_26 Trip_sticksAt_26_18
  unfold skS
  have h2 := hw.1
  by_cases hc : 0 ≤ p ∧ p < t 0 1
  · have h3 : M 32 p.toNat = t 6 p.toNat := (h.2.1 p.toNat (by omega)).2.2.2.2
    simp (disch := omega) only [c_lt_p, c_eq_p, c_ne_p, c_ge_p, c_gt_p, c_le_p, rd_p, wa_p, wz_p, w8_p, fz_p, fw_p, tw_p, ck_p, ob_s, oc_s, if_pos, if_neg, am_upo, up_s, ne_eq, not_true_eq_false, not_false_eq_true, true_or, or_true, true_and, and_true, false_and, and_false, ck_t, reduceIte, Int.tmod_eq_emod_of_nonneg, Int.tdiv_eq_ediv_of_nonneg, Trip_isPlace_26_eq hw h hp, h3]
  · simp (disch := omega) only [c_lt_p, c_eq_p, c_ne_p, c_ge_p, c_gt_p, c_le_p, rd_p, wa_p, wz_p, w8_p, fz_p, fw_p, tw_p, ck_p, ob_s, oc_s, if_pos, if_neg, am_upo, up_s, ne_eq, not_true_eq_false, not_false_eq_true, true_or, or_true, true_and, and_true, false_and, and_false, ck_t, reduceIte, Int.tmod_eq_emod_of_nonneg, Int.tdiv_eq_ediv_of_nonneg, Trip_isPlace_26_eq hw h hp]
theorem Trip_isOnPath_26_eq {t M : am_M} (h : TP 26 t M) {c : Int} (h0 : 0 ≤ c) (h1 : c < 144) : Trip_isOnPath_26 c M = some (if onB t c then 1 else 0) := by
  unfold Trip_isOnPath_26 Trip_isOnPath_26_20 Trip_isOnPath_26_21
  have h3 : M 33 c.toNat = if onB t (c.toNat : Int) then 1 else 0 := h.2.2.2 c.toNat (by omega)
  rw [show ((c.toNat : Nat) : Int) = c by omega] at h3
  cases hb : onB t c with
  | true =>
    rw [hb] at h3
    have h3 : M 33 c.toNat = 1 := h3
    simp (disch := omega) only [c_lt_p, c_eq_p, c_ne_p, c_ge_p, c_gt_p, c_le_p, rd_p, wa_p, wz_p, w8_p, fz_p, fw_p, tw_p, ck_p, ob_s, oc_s, if_pos, if_neg, am_upo, up_s, ne_eq, not_true_eq_false, not_false_eq_true, true_or, or_true, true_and, and_true, false_and, and_false, ck_t, reduceIte, Int.tmod_eq_emod_of_nonneg, Int.tdiv_eq_ediv_of_nonneg, Country_isCell_eq, h3]
  | false =>
    rw [hb] at h3
    have h3 : M 33 c.toNat = 0 := by simpa using h3
    simp (disch := omega) only [c_lt_p, c_eq_p, c_ne_p, c_ge_p, c_gt_p, c_le_p, rd_p, wa_p, wz_p, w8_p, fz_p, fw_p, tw_p, ck_p, ob_s, oc_s, if_pos, if_neg, am_upo, up_s, ne_eq, not_true_eq_false, not_false_eq_true, true_or, or_true, true_and, and_true, false_and, and_false, ck_t, reduceIte, Int.tmod_eq_emod_of_nonneg, Int.tdiv_eq_ediv_of_nonneg, Country_isCell_eq, h3]
    rfl
theorem Trip_tiredOf_26_eq {t M : am_M} (h : TP 26 t M) {p : Int} (h0 : 0 ≤ p) (h1 : p < 6) : Trip_tiredOf_26 p M = some (t 1 p.toNat) := by
  unfold Trip_tiredOf_26 Trip_tiredOf_26_19 Trip_tiredOf_26_20
  have h3 : M 27 p.toNat = t 1 p.toNat := h.2.2.1 p.toNat (by omega)
  simp (disch := omega) only [c_lt_p, c_eq_p, c_ne_p, c_ge_p, c_gt_p, c_le_p, rd_p, wa_p, wz_p, w8_p, fz_p, fw_p, tw_p, ck_p, ob_s, oc_s, if_pos, if_neg, am_upo, up_s, ne_eq, not_true_eq_false, not_false_eq_true, true_or, or_true, true_and, and_true, false_and, and_false, ck_t, reduceIte, Int.tmod_eq_emod_of_nonneg, Int.tdiv_eq_ediv_of_nonneg, h3]
theorem Trip_isPlace_34_eq {t M : am_M} (hw : WT t) (h : TP 34 t M) {p : Int} (hp : am_R p) : Trip_isPlace_34 p M = some (if 0 ≤ p ∧ p < t 0 1 then 1 else 0) := by
  unfold Trip_isPlace_34 Trip_isPlace_34_22 Trip_isPlace_34_23
  have h1 : M 34 10 = t 0 1 := h.1.2.1
  have h2 := hw.1
  by_cases hc : 0 ≤ p ∧ p < t 0 1
  · simp (disch := omega) only [c_lt_p, c_eq_p, c_ne_p, c_ge_p, c_gt_p, c_le_p, rd_p, wa_p, wz_p, w8_p, fz_p, fw_p, tw_p, ck_p, ob_s, oc_s, if_pos, if_neg, am_upo, up_s, ne_eq, not_true_eq_false, not_false_eq_true, true_or, or_true, true_and, and_true, false_and, and_false, ck_t, reduceIte, Int.tmod_eq_emod_of_nonneg, Int.tdiv_eq_ediv_of_nonneg, h1]
  · by_cases h3 : p < 0
    · simp (disch := omega) only [c_lt_p, c_eq_p, c_ne_p, c_ge_p, c_gt_p, c_le_p, rd_p, wa_p, wz_p, w8_p, fz_p, fw_p, tw_p, ck_p, ob_s, oc_s, if_pos, if_neg, am_upo, up_s, ne_eq, not_true_eq_false, not_false_eq_true, true_or, or_true, true_and, and_true, false_and, and_false, ck_t, reduceIte, Int.tmod_eq_emod_of_nonneg, Int.tdiv_eq_ediv_of_nonneg, h1]
    · simp (disch := omega) only [c_lt_p, c_eq_p, c_ne_p, c_ge_p, c_gt_p, c_le_p, rd_p, wa_p, wz_p, w8_p, fz_p, fw_p, tw_p, ck_p, ob_s, oc_s, if_pos, if_neg, am_upo, up_s, ne_eq, not_true_eq_false, not_false_eq_true, true_or, or_true, true_and, and_true, false_and, and_false, ck_t, reduceIte, Int.tmod_eq_emod_of_nonneg, Int.tdiv_eq_ediv_of_nonneg, h1]
theorem Trip_cellAt_34_eq {t M : am_M} (hw : WT t) (h : TP 34 t M) {p : Int} (hp : am_R p) : Trip_cellAt_34 p M = some (ceS t p) := by
  unfold Trip_cellAt_34 Trip_cellAt_34_18
  unfold ceS
  have h2 := hw.1
  by_cases hc : 0 ≤ p ∧ p < t 0 1
  · have h3 : M 36 p.toNat = t 2 p.toNat := (h.2.1 p.toNat (by omega)).1
    simp (disch := omega) only [c_lt_p, c_eq_p, c_ne_p, c_ge_p, c_gt_p, c_le_p, rd_p, wa_p, wz_p, w8_p, fz_p, fw_p, tw_p, ck_p, ob_s, oc_s, if_pos, if_neg, am_upo, up_s, ne_eq, not_true_eq_false, not_false_eq_true, true_or, or_true, true_and, and_true, false_and, and_false, ck_t, reduceIte, Int.tmod_eq_emod_of_nonneg, Int.tdiv_eq_ediv_of_nonneg, Trip_isPlace_34_eq hw h hp, h3]
  · simp (disch := omega) only [c_lt_p, c_eq_p, c_ne_p, c_ge_p, c_gt_p, c_le_p, rd_p, wa_p, wz_p, w8_p, fz_p, fw_p, tw_p, ck_p, ob_s, oc_s, if_pos, if_neg, am_upo, up_s, ne_eq, not_true_eq_false, not_false_eq_true, true_or, or_true, true_and, and_true, false_and, and_false, ck_t, reduceIte, Int.tmod_eq_emod_of_nonneg, Int.tdiv_eq_ediv_of_nonneg, Trip_isPlace_34_eq hw h hp]
theorem Trip_widthAt_34_eq {t M : am_M} (hw : WT t) (h : TP 34 t M) {p : Int} (hp : am_R p) : Trip_widthAt_34 p M = some (wiS t p) := by
  unfold Trip_widthAt_34 Trip_widthAt_34_18
  unfold wiS
  have h2 := hw.1
  by_cases hc : 0 ≤ p ∧ p < t 0 1
  · have h3 : M 37 p.toNat = t 3 p.toNat := (h.2.1 p.toNat (by omega)).2.1
    simp (disch := omega) only [c_lt_p, c_eq_p, c_ne_p, c_ge_p, c_gt_p, c_le_p, rd_p, wa_p, wz_p, w8_p, fz_p, fw_p, tw_p, ck_p, ob_s, oc_s, if_pos, if_neg, am_upo, up_s, ne_eq, not_true_eq_false, not_false_eq_true, true_or, or_true, true_and, and_true, false_and, and_false, ck_t, reduceIte, Int.tmod_eq_emod_of_nonneg, Int.tdiv_eq_ediv_of_nonneg, Trip_isPlace_34_eq hw h hp, h3]
  · simp (disch := omega) only [c_lt_p, c_eq_p, c_ne_p, c_ge_p, c_gt_p, c_le_p, rd_p, wa_p, wz_p, w8_p, fz_p, fw_p, tw_p, ck_p, ob_s, oc_s, if_pos, if_neg, am_upo, up_s, ne_eq, not_true_eq_false, not_false_eq_true, true_or, or_true, true_and, and_true, false_and, and_false, ck_t, reduceIte, Int.tmod_eq_emod_of_nonneg, Int.tdiv_eq_ediv_of_nonneg, Trip_isPlace_34_eq hw h hp]
theorem Trip_grownAt_34_eq {t M : am_M} (hw : WT t) (h : TP 34 t M) {p : Int} (hp : am_R p) : Trip_grownAt_34 p M = some (grS t p) := by
  unfold Trip_grownAt_34 Trip_grownAt_34_18
  unfold grS
  have h2 := hw.1
  by_cases hc : 0 ≤ p ∧ p < t 0 1
  · have h3 : M 38 p.toNat = t 4 p.toNat := (h.2.1 p.toNat (by omega)).2.2.1
    simp (disch := omega) only [c_lt_p, c_eq_p, c_ne_p, c_ge_p, c_gt_p, c_le_p, rd_p, wa_p, wz_p, w8_p, fz_p, fw_p, tw_p, ck_p, ob_s, oc_s, if_pos, if_neg, am_upo, up_s, ne_eq, not_true_eq_false, not_false_eq_true, true_or, or_true, true_and, and_true, false_and, and_false, ck_t, reduceIte, Int.tmod_eq_emod_of_nonneg, Int.tdiv_eq_ediv_of_nonneg, Trip_isPlace_34_eq hw h hp, h3]
  · simp (disch := omega) only [c_lt_p, c_eq_p, c_ne_p, c_ge_p, c_gt_p, c_le_p, rd_p, wa_p, wz_p, w8_p, fz_p, fw_p, tw_p, ck_p, ob_s, oc_s, if_pos, if_neg, am_upo, up_s, ne_eq, not_true_eq_false, not_false_eq_true, true_or, or_true, true_and, and_true, false_and, and_false, ck_t, reduceIte, Int.tmod_eq_emod_of_nonneg, Int.tdiv_eq_ediv_of_nonneg, Trip_isPlace_34_eq hw h hp]
theorem Trip_marksAt_34_eq {t M : am_M} (hw : WT t) (h : TP 34 t M) {p : Int} (hp : am_R p) : Trip_marksAt_34 p M = some (mkS t p) := by
  unfold Trip_marksAt_34 Trip_marksAt_34_18
  unfold mkS
  have h2 := hw.1
  by_cases hc : 0 ≤ p ∧ p < t 0 1
  · have h3 : M 39 p.toNat = t 5 p.toNat := (h.2.1 p.toNat (by omega)).2.2.2.1
    simp (disch := omega) only [c_lt_p, c_eq_p, c_ne_p, c_ge_p, c_gt_p, c_le_p, rd_p, wa_p, wz_p, w8_p, fz_p, fw_p, tw_p, ck_p, ob_s, oc_s, if_pos, if_neg, am_upo, up_s, ne_eq, not_true_eq_false, not_false_eq_true, true_or, or_true, true_and, and_true, false_and, and_false, ck_t, reduceIte, Int.tmod_eq_emod_of_nonneg, Int.tdiv_eq_ediv_of_nonneg, Trip_isPlace_34_eq hw h hp, h3]
  · simp (disch := omega) only [c_lt_p, c_eq_p, c_ne_p, c_ge_p, c_gt_p, c_le_p, rd_p, wa_p, wz_p, w8_p, fz_p, fw_p, tw_p, ck_p, ob_s, oc_s, if_pos, if_neg, am_upo, up_s, ne_eq, not_true_eq_false, not_false_eq_true, true_or, or_true, true_and, and_true, false_and, and_false, ck_t, reduceIte, Int.tmod_eq_emod_of_nonneg, Int.tdiv_eq_ediv_of_nonneg, Trip_isPlace_34_eq hw h hp]
theorem Trip_sticksAt_34_eq {t M : am_M} (hw : WT t) (h : TP 34 t M) {p : Int} (hp : am_R p) : Trip_sticksAt_34 p M = some (skS t p) := by
  unfold Trip_sticksAt_34 Trip_sticksAt_34_18
  unfold skS
  have h2 := hw.1
  by_cases hc : 0 ≤ p ∧ p < t 0 1
  · have h3 : M 40 p.toNat = t 6 p.toNat := (h.2.1 p.toNat (by omega)).2.2.2.2
    simp (disch := omega) only [c_lt_p, c_eq_p, c_ne_p, c_ge_p, c_gt_p, c_le_p, rd_p, wa_p, wz_p, w8_p, fz_p, fw_p, tw_p, ck_p, ob_s, oc_s, if_pos, if_neg, am_upo, up_s, ne_eq, not_true_eq_false, not_false_eq_true, true_or, or_true, true_and, and_true, false_and, and_false, ck_t, reduceIte, Int.tmod_eq_emod_of_nonneg, Int.tdiv_eq_ediv_of_nonneg, Trip_isPlace_34_eq hw h hp, h3]
  · simp (disch := omega) only [c_lt_p, c_eq_p, c_ne_p, c_ge_p, c_gt_p, c_le_p, rd_p, wa_p, wz_p, w8_p, fz_p, fw_p, tw_p, ck_p, ob_s, oc_s, if_pos, if_neg, am_upo, up_s, ne_eq, not_true_eq_false, not_false_eq_true, true_or, or_true, true_and, and_true, false_and, and_false, ck_t, reduceIte, Int.tmod_eq_emod_of_nonneg, Int.tdiv_eq_ediv_of_nonneg, Trip_isPlace_34_eq hw h hp]
theorem Trip_isOnPath_34_eq {t M : am_M} (h : TP 34 t M) {c : Int} (h0 : 0 ≤ c) (h1 : c < 144) : Trip_isOnPath_34 c M = some (if onB t c then 1 else 0) := by
  unfold Trip_isOnPath_34 Trip_isOnPath_34_20 Trip_isOnPath_34_21
  have h3 : M 41 c.toNat = if onB t (c.toNat : Int) then 1 else 0 := h.2.2.2 c.toNat (by omega)
  rw [show ((c.toNat : Nat) : Int) = c by omega] at h3
  cases hb : onB t c with
  | true =>
    rw [hb] at h3
    have h3 : M 41 c.toNat = 1 := h3
    simp (disch := omega) only [c_lt_p, c_eq_p, c_ne_p, c_ge_p, c_gt_p, c_le_p, rd_p, wa_p, wz_p, w8_p, fz_p, fw_p, tw_p, ck_p, ob_s, oc_s, if_pos, if_neg, am_upo, up_s, ne_eq, not_true_eq_false, not_false_eq_true, true_or, or_true, true_and, and_true, false_and, and_false, ck_t, reduceIte, Int.tmod_eq_emod_of_nonneg, Int.tdiv_eq_ediv_of_nonneg, Country_isCell_eq, h3]
  | false =>
    rw [hb] at h3
    have h3 : M 41 c.toNat = 0 := by simpa using h3
    simp (disch := omega) only [c_lt_p, c_eq_p, c_ne_p, c_ge_p, c_gt_p, c_le_p, rd_p, wa_p, wz_p, w8_p, fz_p, fw_p, tw_p, ck_p, ob_s, oc_s, if_pos, if_neg, am_upo, up_s, ne_eq, not_true_eq_false, not_false_eq_true, true_or, or_true, true_and, and_true, false_and, and_false, ck_t, reduceIte, Int.tmod_eq_emod_of_nonneg, Int.tdiv_eq_ediv_of_nonneg, Country_isCell_eq, h3]
    rfl
theorem Trip_tiredOf_34_eq {t M : am_M} (h : TP 34 t M) {p : Int} (h0 : 0 ≤ p) (h1 : p < 6) : Trip_tiredOf_34 p M = some (t 1 p.toNat) := by
  unfold Trip_tiredOf_34 Trip_tiredOf_34_19 Trip_tiredOf_34_20
  have h3 : M 35 p.toNat = t 1 p.toNat := h.2.2.1 p.toNat (by omega)
  simp (disch := omega) only [c_lt_p, c_eq_p, c_ne_p, c_ge_p, c_gt_p, c_le_p, rd_p, wa_p, wz_p, w8_p, fz_p, fw_p, tw_p, ck_p, ob_s, oc_s, if_pos, if_neg, am_upo, up_s, ne_eq, not_true_eq_false, not_false_eq_true, true_or, or_true, true_and, and_true, false_and, and_false, ck_t, reduceIte, Int.tmod_eq_emod_of_nonneg, Int.tdiv_eq_ediv_of_nonneg, h3]
