-- acts
theorem WT.g1 {t : am_M} {p : Nat} {v : Int} (h : WT t) (hv : 0 ≤ v ∧ v ≤ 99) : WT (am_up t 1 p v) := by
  unfold WT at h ⊢
  simp (disch := omega) only [c_lt_p, c_eq_p, c_ne_p, c_ge_p, c_gt_p, c_le_p, rd_p, wa_p, wz_p, w8_p, fz_p, fw_p, tw_p, ck_p, ob_s, oc_s, if_pos, if_neg, am_upo, up_s, ne_eq, not_true_eq_false, not_false_eq_true, true_or, or_true, true_and, and_true, false_and, and_false, ck_t, reduceIte, Int.tmod_eq_emod_of_nonneg, Int.tdiv_eq_ediv_of_nonneg]
  refine ⟨h.1, h.2.1, fun q hq => ?_, h.2.2.2⟩
  have := h.2.2.1 q hq
  split <;> omega
theorem WT.g5 {t : am_M} {p : Nat} {v : Int} (h : WT t) (hv : 0 ≤ v ∧ v ≤ 3) : WT (am_up t 5 p v) := by
  unfold WT at h ⊢
  simp (disch := omega) only [c_lt_p, c_eq_p, c_ne_p, c_ge_p, c_gt_p, c_le_p, rd_p, wa_p, wz_p, w8_p, fz_p, fw_p, tw_p, ck_p, ob_s, oc_s, if_pos, if_neg, am_upo, up_s, ne_eq, not_true_eq_false, not_false_eq_true, true_or, or_true, true_and, and_true, false_and, and_false, ck_t, reduceIte, Int.tmod_eq_emod_of_nonneg, Int.tdiv_eq_ediv_of_nonneg]
  refine ⟨h.1, fun q hq => ?_, h.2.2⟩
  have := h.2.1 q hq
  by_cases e : q = p
  · rw [if_pos e]
    omega
  · rw [if_neg e]
    exact this
theorem WT.g6 {t : am_M} {p : Nat} {v : Int} (h : WT t) (hv : 0 ≤ v ∧ v ≤ 1) : WT (am_up t 6 p v) := by
  unfold WT at h ⊢
  simp (disch := omega) only [c_lt_p, c_eq_p, c_ne_p, c_ge_p, c_gt_p, c_le_p, rd_p, wa_p, wz_p, w8_p, fz_p, fw_p, tw_p, ck_p, ob_s, oc_s, if_pos, if_neg, am_upo, up_s, ne_eq, not_true_eq_false, not_false_eq_true, true_or, or_true, true_and, and_true, false_and, and_false, ck_t, reduceIte, Int.tmod_eq_emod_of_nonneg, Int.tdiv_eq_ediv_of_nonneg]
  refine ⟨h.1, fun q hq => ?_, h.2.2⟩
  have := h.2.1 q hq
  by_cases e : q = p
  · rw [if_pos e]
    omega
  · rw [if_neg e]
    exact this
theorem TP.g1 {b p : Nat} {t M : am_M} {v : Int} (h : TP b t M) : TP b (am_up t 1 p v) (am_up M (b + 1) p v) := by
  unfold TP onB at h ⊢
  simp (disch := omega) only [c_lt_p, c_eq_p, c_ne_p, c_ge_p, c_gt_p, c_le_p, rd_p, wa_p, wz_p, w8_p, fz_p, fw_p, tw_p, ck_p, ob_s, oc_s, if_pos, if_neg, am_upo, up_s, ne_eq, not_true_eq_false, not_false_eq_true, true_or, or_true, true_and, and_true, false_and, and_false, ck_t, reduceIte, Int.tmod_eq_emod_of_nonneg, Int.tdiv_eq_ediv_of_nonneg]
  refine ⟨h.1, h.2.1, fun q hq => ?_, h.2.2.2⟩
  have := h.2.2.1 q hq
  split
  · rfl
  · exact this
theorem TR.g1 {p : Nat} {t M : am_M} {v : Int} (h : TR t M) : TR (am_up t 1 p v) (am_up M 93 p v) := by
  unfold TR onB at h ⊢
  simp (disch := omega) only [c_lt_p, c_eq_p, c_ne_p, c_ge_p, c_gt_p, c_le_p, rd_p, wa_p, wz_p, w8_p, fz_p, fw_p, tw_p, ck_p, ob_s, oc_s, if_pos, if_neg, am_upo, up_s, ne_eq, not_true_eq_false, not_false_eq_true, true_or, or_true, true_and, and_true, false_and, and_false, ck_t, reduceIte, Int.tmod_eq_emod_of_nonneg, Int.tdiv_eq_ediv_of_nonneg]
  refine ⟨h.1, h.2.1, fun q hq => ?_, h.2.2.2⟩
  have := h.2.2.1 q hq
  split
  · rfl
  · exact this
theorem TP.g5 {b p : Nat} {t M : am_M} {v : Int} (h : TP b t M) : TP b (am_up t 5 p v) (am_up M (b + 5) p v) := by
  unfold TP onB at h ⊢
  simp (disch := omega) only [c_lt_p, c_eq_p, c_ne_p, c_ge_p, c_gt_p, c_le_p, rd_p, wa_p, wz_p, w8_p, fz_p, fw_p, tw_p, ck_p, ob_s, oc_s, if_pos, if_neg, am_upo, up_s, ne_eq, not_true_eq_false, not_false_eq_true, true_or, or_true, true_and, and_true, false_and, and_false, ck_t, reduceIte, Int.tmod_eq_emod_of_nonneg, Int.tdiv_eq_ediv_of_nonneg]
  refine ⟨h.1, fun q hq => ?_, h.2.2⟩
  have := h.2.1 q hq
  by_cases e : q = p
  · rw [if_pos e, if_pos e]
    exact ⟨this.1, this.2.1, this.2.2.1, rfl, this.2.2.2.2⟩
  · rw [if_neg e, if_neg e]
    exact this
theorem TR.g5 {p : Nat} {t M : am_M} {v : Int} (h : TR t M) : TR (am_up t 5 p v) (am_up M 98 p v) := by
  unfold TR onB at h ⊢
  simp (disch := omega) only [c_lt_p, c_eq_p, c_ne_p, c_ge_p, c_gt_p, c_le_p, rd_p, wa_p, wz_p, w8_p, fz_p, fw_p, tw_p, ck_p, ob_s, oc_s, if_pos, if_neg, am_upo, up_s, ne_eq, not_true_eq_false, not_false_eq_true, true_or, or_true, true_and, and_true, false_and, and_false, ck_t, reduceIte, Int.tmod_eq_emod_of_nonneg, Int.tdiv_eq_ediv_of_nonneg]
  refine ⟨h.1, fun q hq => ?_, h.2.2⟩
  have := h.2.1 q hq
  by_cases e : q = p
  · rw [if_pos e, if_pos e]
    exact ⟨this.1, this.2.1, this.2.2.1, rfl, this.2.2.2.2⟩
  · rw [if_neg e, if_neg e]
    exact this
theorem TP.g6 {b p : Nat} {t M : am_M} {v : Int} (h : TP b t M) : TP b (am_up t 6 p v) (am_up M (b + 6) p v) := by
  unfold TP onB at h ⊢
  simp (disch := omega) only [c_lt_p, c_eq_p, c_ne_p, c_ge_p, c_gt_p, c_le_p, rd_p, wa_p, wz_p, w8_p, fz_p, fw_p, tw_p, ck_p, ob_s, oc_s, if_pos, if_neg, am_upo, up_s, ne_eq, not_true_eq_false, not_false_eq_true, true_or, or_true, true_and, and_true, false_and, and_false, ck_t, reduceIte, Int.tmod_eq_emod_of_nonneg, Int.tdiv_eq_ediv_of_nonneg]
  refine ⟨h.1, fun q hq => ?_, h.2.2⟩
  have := h.2.1 q hq
  by_cases e : q = p
  · rw [if_pos e, if_pos e]
    exact ⟨this.1, this.2.1, this.2.2.1, this.2.2.2.1, rfl⟩
  · rw [if_neg e, if_neg e]
    exact this
theorem TR.g6 {p : Nat} {t M : am_M} {v : Int} (h : TR t M) : TR (am_up t 6 p v) (am_up M 99 p v) := by
  unfold TR onB at h ⊢
  simp (disch := omega) only [c_lt_p, c_eq_p, c_ne_p, c_ge_p, c_gt_p, c_le_p, rd_p, wa_p, wz_p, w8_p, fz_p, fw_p, tw_p, ck_p, ob_s, oc_s, if_pos, if_neg, am_upo, up_s, ne_eq, not_true_eq_false, not_false_eq_true, true_or, or_true, true_and, and_true, false_and, and_false, ck_t, reduceIte, Int.tmod_eq_emod_of_nonneg, Int.tdiv_eq_ediv_of_nonneg]
  refine ⟨h.1, fun q hq => ?_, h.2.2⟩
  have := h.2.1 q hq
  by_cases e : q = p
  · rw [if_pos e, if_pos e]
    exact ⟨this.1, this.2.1, this.2.2.1, this.2.2.2.1, rfl⟩
  · rw [if_neg e, if_neg e]
    exact this
/-- a cell comes behind -/
def apT (g t : am_M) (c : Int) : am_M := am_up (am_up (am_up (am_up (am_up (am_up (am_up t 2 (t 0 1).toNat c) 3 (t 0 1).toNat (g 0 1)) 4 (t 0 1).toNat 0) 5 (t 0 1).toNat 0) 6 (t 0 1).toNat 0) 0 2 (t 0 1)) 0 1 (t 0 1 + 1)
theorem ap_on {g t : am_M} {c x : Int} (hl : 0 ≤ t 0 1) : onB (apT g t c) x = true ↔ (onB t x = true ∨ c = x) := by
  rw [onB_i, onB_i]
  unfold apT
  simp (disch := omega) only [c_lt_p, c_eq_p, c_ne_p, c_ge_p, c_gt_p, c_le_p, rd_p, wa_p, wz_p, w8_p, fz_p, fw_p, tw_p, ck_p, ob_s, oc_s, if_pos, if_neg, am_upo, up_s, ne_eq, not_true_eq_false, not_false_eq_true, true_or, or_true, true_and, and_true, false_and, and_false, ck_t, reduceIte, Int.tmod_eq_emod_of_nonneg, Int.tdiv_eq_ediv_of_nonneg]
  constructor
  · rintro ⟨p, h1, h2⟩
    by_cases e : p = (t 0 1).toNat
    · rw [if_pos e] at h2
      exact Or.inr h2
    · rw [if_neg e] at h2
      exact Or.inl ⟨p, by omega, h2⟩
  · rintro (⟨p, h1, h2⟩ | h)
    · exact ⟨p, by omega, by rw [if_neg (by omega)]; exact h2⟩
    · exact ⟨(t 0 1).toNat, by omega, by rw [if_pos rfl]; exact h⟩
theorem ap_W {g t : am_M} {c : Int} (hg : WG g) (h : WT t) (hl : t 0 1 < 100) (h0 : 0 ≤ c ∧ c < 144) (hc : onB t c = false) : WT (apT g t c) := by
  have h1 := h.1
  have hg1 := hg.1
  have hne : ∀ p : Nat, (p : Int) < t 0 1 → t 2 p ≠ c := fun p hp he => by
    have := onB_i.mpr ⟨p, hp, he⟩
    rw [hc] at this
    cases this
  unfold WT apT
  simp (disch := omega) only [c_lt_p, c_eq_p, c_ne_p, c_ge_p, c_gt_p, c_le_p, rd_p, wa_p, wz_p, w8_p, fz_p, fw_p, tw_p, ck_p, ob_s, oc_s, if_pos, if_neg, am_upo, up_s, ne_eq, not_true_eq_false, not_false_eq_true, true_or, or_true, true_and, and_true, false_and, and_false, ck_t, reduceIte, Int.tmod_eq_emod_of_nonneg, Int.tdiv_eq_ediv_of_nonneg]
  refine ⟨by omega, fun p hp => ?_, h.2.2.1, fun p q hp hq he => ?_⟩
  · by_cases e : p = (t 0 1).toNat
    · rw [if_pos e, if_pos e, if_pos e, if_pos e, if_pos e]
      omega
    · rw [if_neg e, if_neg e, if_neg e, if_neg e, if_neg e]
      exact h.2.1 p (by omega)
  · by_cases e : p = (t 0 1).toNat
    · by_cases e2 : q = (t 0 1).toNat
      · omega
      · rw [if_pos e, if_neg e2] at he
        exact absurd he.symm (hne q (by omega))
    · by_cases e2 : q = (t 0 1).toNat
      · rw [if_neg e, if_pos e2] at he
        exact absurd he (hne p (by omega))
      · rw [if_neg e, if_neg e2] at he
        exact h.2.2.2 p q (by omega) (by omega) he
theorem ap_0 {g t : am_M} {c : Int} {j : Nat} (h1 : j ≠ 1) (h2 : j ≠ 2) : (apT g t c) 0 j = t 0 j := by
  unfold apT
  simp (disch := omega) only [c_lt_p, c_eq_p, c_ne_p, c_ge_p, c_gt_p, c_le_p, rd_p, wa_p, wz_p, w8_p, fz_p, fw_p, tw_p, ck_p, ob_s, oc_s, if_pos, if_neg, am_upo, up_s, ne_eq, not_true_eq_false, not_false_eq_true, true_or, or_true, true_and, and_true, false_and, and_false, ck_t, reduceIte, Int.tmod_eq_emod_of_nonneg, Int.tdiv_eq_ediv_of_nonneg]
abbrev AR : Type := am_M × Int × Int
/-- time goes by, or it is dark -/
def spA (g t : am_M) (w : Int) (k : am_M → AR) : AR := if t 0 3 + w ≤ g 0 2 then k (am_up t 0 3 (t 0 3 + w)) else (t, 1, 0)
def reL (F : FT) (g : am_M) : Nat → Nat → am_M → am_M
  | 0, _, t => t
  | k + 1, p, t => reL F g k (p + 1) (if 0 < g 3 p then am_up t 1 p (hd0 (t 1 p - F 101 20 (E7 0 0 (g 3 p) (t 1 p) 0 0 (t 0 4)))) else t)
def ntL (g : am_M) (p : Int) : Nat → Int → Int
  | 0, _ => p
  | k + 1, m => if 0 < g 3 ((p + m) % 6).toNat then (p + m) % 6 else ntL g p k (m + 1)
def mkA (g t : am_M) (f : Int) : AR := if b_and (mkS t (t 0 2)) f = 0 then spA g t 2 (fun t1 => (am_up t1 5 (t 0 2).toNat (b_or (t 5 (t 0 2).toNat) f), 0, 0)) else (t, 0, 0)
def skA (g t : am_M) : AR := if skS t (t 0 2) = 0 then spA g t 1 (fun t1 => (am_up t1 6 (t 0 2).toNat 1, 0, 0)) else (t, 0, 0)
abbrev cutP (g t : am_M) (c : Int) : Prop := t 0 2 = t 0 1 - 1 ∧ t 0 1 < 100 ∧ t 0 0 ≠ -1 ∧ g 2 c.toNat ≠ 3 ∧ onB t c = false
def moS (F : FT) (g t : am_M) (c : Int) : Int := F 110 20 (E7 (g 2 c.toNat) 0 (g 3 (t 0 0).toNat) (t 1 (t 0 0).toNat) 0 0 (t 0 4))
def cmS (F : FT) (g t : am_M) (c : Int) : Int := F 99 240 (E7 (g 2 c.toNat) (g 0 1) (g 3 (t 0 0).toNat) (t 1 (t 0 0).toNat) 0 0 (t 0 4))
def goA (F : FT) (g t : am_M) (w : Int) : AR :=
  if nbS (ceS t (t 0 2)) w < 0 then (t, 0, 0) else
  if nbS (ceS t (t 0 2)) w = ceS t (t 0 2 + 1) then spA g t (waS F g t (t 0 2 + 1) 1) (fun t1 => (am_up t1 0 2 (t 0 2 + 1), 0, 0)) else
  if nbS (ceS t (t 0 2)) w = ceS t (t 0 2 - 1) then spA g t (waS F g t (t 0 2 - 1) 2) (fun t1 => (am_up t1 0 2 (t 0 2 - 1), 0, 0)) else
  if cutP g t (nbS (ceS t (t 0 2)) w) then spA g t (cmS F g t (nbS (ceS t (t 0 2)) w)) (fun t1 => (apT g (am_up t1 1 (t 0 0).toNat (hd0 (t 1 (t 0 0).toNat + moS F g t (nbS (ceS t (t 0 2)) w)))) (nbS (ceS t (t 0 2)) w), 0, 1)) else (t, 0, 0)
def wyS (a : Int) : Int := if a = 101 then 1 else if a = 110 then 0 else if a = 115 then 2 else if a = 119 then 3 else -1
def actS (F : FT) (g t : am_M) (a : Int) : AR :=
  if a = 43 then (if t 0 0 = -1 then (t, 0, 0) else spA g t 0 (fun t1 => (am_up t1 0 0 (ntL g (t 0 0) 6 1), 0, 0))) else
  if a = 46 then spA g t 10 (fun t1 => (reL F g 6 0 t1, 0, 0)) else
  if a = 98 then mkA g t 2 else if a = 111 then mkA g t 1 else if a = 120 then skA g t else goA F g t (wyS a)
abbrev acB (a : Int) : Prop := a = 46 ∨ a = 43 ∨ a = 111 ∨ a = 98 ∨ a = 120 ∨ a = 101 ∨ a = 110 ∨ a = 115 ∨ a = 119
def LT (g t : am_M) : Prop := t 0 0 ≠ -1 → 0 < g 3 (t 0 0).toNat
theorem LT.cg {g t t' : am_M} (h : LT g t) (e : t' 0 0 = t 0 0) : LT g t' := by
  unfold LT at *
  rw [e]
  exact h
theorem spA_W {g t : am_M} {w : Int} {k : am_M → AR} (hg : WG g) (h : WT t) (hL : LT g t) (hw : 0 ≤ w) (hk : ∀ t1, WT t1 → LT g t1 → t1 = am_up t 0 3 (t 0 3 + w) → WT (k t1).1 ∧ LT g (k t1).1 ∧ (k t1).2.1 = 0 ∧ (0 ≤ (k t1).2.2 ∧ (k t1).2.2 ≤ 1)) : WT (spA g t w k).1 ∧ LT g (spA g t w k).1 ∧ (0 ≤ (spA g t w k).2.1 ∧ (spA g t w k).2.1 ≤ 1) ∧ (0 ≤ (spA g t w k).2.2 ∧ (spA g t w k).2.2 ≤ 1) := by
  have h1 := h.1
  have hg1 := hg.1
  unfold spA
  by_cases q : t 0 3 + w ≤ g 0 2
  · rw [if_pos q]
    obtain ⟨a1, a2, a3, a4⟩ := hk _ (h.h3 (by omega)) (by unfold LT at hL ⊢; rw [upx (by decide)]; exact hL) rfl
    exact ⟨a1, a2, by omega, a4⟩
  · rw [if_neg q]
    exact ⟨h, hL, by dsimp only; omega, by dsimp only; omega⟩
theorem reL_W {F : FT} {g : am_M} : ∀ (k p : Nat) (t : am_M), WT t → WT (reL F g k p t) ∧ (∀ j, (reL F g k p t) 0 j = t 0 j)
  | 0, p, t, h => ⟨h, fun _ => rfl⟩
  | k + 1, p, t, h => by
    unfold reL
    by_cases q : 0 < g 3 p
    · rw [if_pos q]
      obtain ⟨a, b⟩ := reL_W (F := F) (g := g) k (p + 1) _ (h.g1 (p := p) (hd0_b (t 1 p - F 101 20 (E7 0 0 (g 3 p) (t 1 p) 0 0 (t 0 4)))))
      exact ⟨a, fun j => by rw [b j, upo (by decide)]⟩
    · rw [if_neg q]
      exact reL_W k (p + 1) t h
theorem ntL_b {g : am_M} {p : Int} (hp : 0 ≤ p ∧ p < 6) (ht : 0 < g 3 p.toNat) : ∀ (k : Nat) (m : Int), 0 ≤ m → (0 ≤ ntL g p k m ∧ ntL g p k m < 6) ∧ 0 < g 3 (ntL g p k m).toNat
  | 0, m, hm => ⟨hp, ht⟩
  | k + 1, m, hm => by
    unfold ntL
    by_cases q : 0 < g 3 ((p + m) % 6).toNat
    · rw [if_pos q]
      exact ⟨by omega, q⟩
    · rw [if_neg q]
      exact ntL_b hp ht k (m + 1) (by omega)
theorem bor_b {x f : Int} (h : 0 ≤ x ∧ x ≤ 3) (hf : f = 1 ∨ f = 2) : 0 ≤ b_or x f ∧ b_or x f ≤ 3 := by
  rcases hf with q | q
  · subst q
    rw [b_or_1 h.1 h.2]
    split <;> omega
  · subst q
    rw [b_or_2 h.1 h.2]
    split <;> omega
theorem mkA_W {g t : am_M} {f : Int} (hg : WG g) (h : WT t) (hL : LT g t) (hf : f = 1 ∨ f = 2) : WT (mkA g t f).1 ∧ LT g (mkA g t f).1 ∧ (0 ≤ (mkA g t f).2.1 ∧ (mkA g t f).2.1 ≤ 1) ∧ (0 ≤ (mkA g t f).2.2 ∧ (mkA g t f).2.2 ≤ 1) := by
  have h1 := h.1
  have ha := (h.at (p := t 0 2) (by omega) (by omega)).2.2.2.1
  unfold mkA
  split
  · exact spA_W hg h hL (by decide) (fun t1 a1 a2 a3 => ⟨a1.g5 (bor_b ha hf), a2.cg (by dsimp only; rw [upo (by decide)]), rfl, by dsimp only; omega⟩)
  · exact ⟨h, hL, by dsimp only; omega, by dsimp only; omega⟩
theorem skA_W {g t : am_M} (hg : WG g) (h : WT t) (hL : LT g t) : WT (skA g t).1 ∧ LT g (skA g t).1 ∧ (0 ≤ (skA g t).2.1 ∧ (skA g t).2.1 ≤ 1) ∧ (0 ≤ (skA g t).2.2 ∧ (skA g t).2.2 ≤ 1) := by
  unfold skA
  split
  · exact spA_W hg h hL (by decide) (fun t1 a1 a2 a3 => ⟨a1.g6 (by decide), a2.cg (by dsimp only; rw [upo (by decide)]), rfl, by dsimp only; omega⟩)
  · exact ⟨h, hL, by dsimp only; omega, by dsimp only; omega⟩
theorem ce_p {t : am_M} (h : WT t) {p : Int} (hq : 0 ≤ ceS t p) : 0 ≤ p ∧ p < t 0 1 := by
  unfold ceS at hq
  split at hq
  · assumption
  · omega
theorem goA_W {F : FT} {g t : am_M} (hF : FO F) (hg : WG g) (h : WT t) (hL : LT g t) (w : Int) : WT (goA F g t w).1 ∧ LT g (goA F g t w).1 ∧ (0 ≤ (goA F g t w).2.1 ∧ (goA F g t w).2.1 ≤ 1) ∧ (0 ≤ (goA F g t w).2.2 ∧ (goA F g t w).2.2 ≤ 1) := by
  have h1 := h.1
  have ha := (h.at (p := t 0 2) (by omega) (by omega)).1
  have ec : ceS t (t 0 2) = t 2 (t 0 2).toNat := if_pos (by omega)
  have hnb := nbS_b (c := ceS t (t 0 2)) (w := w) (by omega) (by omega)
  unfold goA
  by_cases q1 : nbS (ceS t (t 0 2)) w < 0
  · rw [if_pos q1]
    exact ⟨h, hL, by dsimp only; omega, by dsimp only; omega⟩
  rw [if_neg q1]
  by_cases q2 : nbS (ceS t (t 0 2)) w = ceS t (t 0 2 + 1)
  · rw [if_pos q2]
    have hp := ce_p h (p := t 0 2 + 1) (by omega)
    exact spA_W hg h hL (waS_b hF g t (t 0 2 + 1) 1).1 (fun t1 a1 a2 a3 => ⟨a1.h2 (by rw [a3, upx (by decide)]; omega), a2.cg (by dsimp only; rw [upx (by decide)]), rfl, by dsimp only; omega⟩)
  rw [if_neg q2]
  by_cases q3 : nbS (ceS t (t 0 2)) w = ceS t (t 0 2 - 1)
  · rw [if_pos q3]
    have hp := ce_p h (p := t 0 2 - 1) (by omega)
    exact spA_W hg h hL (waS_b hF g t (t 0 2 - 1) 2).1 (fun t1 a1 a2 a3 => ⟨a1.h2 (by rw [a3, upx (by decide)]; omega), a2.cg (by dsimp only; rw [upx (by decide)]), rfl, by dsimp only; omega⟩)
  rw [if_neg q3]
  by_cases q4 : cutP g t (nbS (ceS t (t 0 2)) w)
  · rw [if_pos q4]
    have hcm : 0 ≤ cmS F g t (nbS (ceS t (t 0 2)) w) ∧ cmS F g t (nbS (ceS t (t 0 2)) w) ≤ 240 := hF.1 _ _ _ (by decide)
    refine spA_W hg h hL hcm.1 (fun t1 a1 a2 a3 => ⟨ap_W hg (a1.g1 (hd0_b _)) ?_ (by omega) ?_, ?_, rfl, by dsimp only; omega⟩)
    · rw [upo (by decide), a3, upx (by decide)]
      exact q4.2.1
    · have e : onB (am_up t1 1 (t 0 0).toNat (hd0 (t 1 (t 0 0).toNat + moS F g t (nbS (ceS t (t 0 2)) w)))) (nbS (ceS t (t 0 2)) w) = onB t (nbS (ceS t (t 0 2)) w) := by
        rw [a3]
        unfold onB
        simp (disch := omega) only [c_lt_p, c_eq_p, c_ne_p, c_ge_p, c_gt_p, c_le_p, rd_p, wa_p, wz_p, w8_p, fz_p, fw_p, tw_p, ck_p, ob_s, oc_s, if_pos, if_neg, am_upo, up_s, ne_eq, not_true_eq_false, not_false_eq_true, true_or, or_true, true_and, and_true, false_and, and_false, ck_t, reduceIte, Int.tmod_eq_emod_of_nonneg, Int.tdiv_eq_ediv_of_nonneg]
      rw [e]
      exact q4.2.2.2.2
    · refine a2.cg ?_
      dsimp only
      rw [ap_0 (by decide) (by decide), upo (by decide)]
  · rw [if_neg q4]
    exact ⟨h, hL, by dsimp only; omega, by dsimp only; omega⟩
theorem actS_W {F : FT} {g t : am_M} (hF : FO F) (hg : WG g) (h : WT t) (hL : LT g t) (a : Int) : WT (actS F g t a).1 ∧ LT g (actS F g t a).1 ∧ (0 ≤ (actS F g t a).2.1 ∧ (actS F g t a).2.1 ≤ 1) ∧ (0 ≤ (actS F g t a).2.2 ∧ (actS F g t a).2.2 ≤ 1) := by
  have h1 := h.1
  unfold actS
  by_cases q1 : a = 43
  · rw [if_pos q1]
    by_cases q2 : t 0 0 = -1
    · rw [if_pos q2]
      exact ⟨h, hL, by dsimp only; omega, by dsimp only; omega⟩
    · rw [if_neg q2]
      have hn := ntL_b (g := g) (p := t 0 0) (by omega) (hL q2) 6 1 (by decide)
      exact spA_W hg h hL (by decide) (fun t1 a1 a2 a3 => ⟨a1.h0 (by omega), fun _ => by show 0 < g 3 (am_up t1 0 0 _ 0 0).toNat; rw [upj]; exact hn.2, rfl, by dsimp only; omega⟩)
  rw [if_neg q1]
  by_cases q2 : a = 46
  · rw [if_pos q2]
    exact spA_W hg h hL (by decide) (fun t1 a1 a2 a3 => ⟨(reL_W 6 0 t1 a1).1, a2.cg ((reL_W 6 0 t1 a1).2 0), rfl, by dsimp only; omega⟩)
  rw [if_neg q2]
  by_cases q3 : a = 98
  · rw [if_pos q3]
    exact mkA_W hg h hL (Or.inr rfl)
  rw [if_neg q3]
  by_cases q4 : a = 111
  · rw [if_pos q4]
    exact mkA_W hg h hL (Or.inl rfl)
  rw [if_neg q4]
  by_cases q5 : a = 120
  · rw [if_pos q5]
    exact skA_W hg h hL
  rw [if_neg q5]
  exact goA_W hF hg h hL _
-- the class
/-- cells that an outing on a trip changes -/
def VF (b : Nat) (M N : am_M) : Prop := (∀ k, k ≠ 12 → k ≠ 13 → k ≠ 50 → (k < b ∨ b + 7 < k) → N k = M k) ∧ ∀ j, (j < 7 ∨ 9 < j) → N 50 j = M 50 j
theorem VF.rf {b : Nat} {M : am_M} : VF b M M := ⟨fun _ _ _ _ _ => rfl, fun _ _ => rfl⟩
theorem VF.tr {b : Nat} {M N O : am_M} (a : VF b M N) (c : VF b N O) : VF b M O := ⟨fun k h1 h2 h3 h4 => (c.1 k h1 h2 h3 h4).trans (a.1 k h1 h2 h3 h4), fun j h => (c.2 j h).trans (a.2 j h)⟩
theorem LF.vf {b : Nat} {M N : am_M} (a : LF M N) : VF b M N := ⟨fun k h1 h2 _ _ => a k h1 h2, fun j _ => by rw [a 50 (by decide) (by decide)]⟩
theorem VF.up {b k j : Nat} {M N : am_M} {v : Int} (a : VF b M N) (h : (b ≤ k ∧ k ≤ b + 7 ∧ k ≠ 50) ∨ (k = 50 ∧ 7 ≤ j ∧ j ≤ 9)) : VF b M (am_up N k j v) := by
  refine ⟨fun c h1 h2 h3 h4 => ?_, fun i hi => ?_⟩
  · rw [upo (by omega)]
    exact a.1 c h1 h2 h3 h4
  · by_cases q : 50 = k
    · subst q
      rw [upx (by omega)]
      exact a.2 i hi
    · rw [upo q]
      exact a.2 i hi
theorem GP.vf {b : Nat} {g M N : am_M} (h : GP g M) (e : VF b M N) (hb : 16 ≤ b) : GP g N := by
  unfold GP at h ⊢
  rw [e.1 0 (by decide) (by decide) (by decide) (by omega), e.1 1 (by decide) (by decide) (by decide) (by omega), e.1 2 (by decide) (by decide) (by decide) (by omega), e.1 4 (by decide) (by decide) (by decide) (by omega), e.1 5 (by decide) (by decide) (by decide) (by omega), e.1 14 (by decide) (by decide) (by decide) (by omega), e.1 15 (by decide) (by decide) (by decide) (by omega)]
  exact h
theorem LWP.vf {b : Nat} {F : FT} {M N : am_M} (h : LWP F M) (e : VF b M N) (hb : 16 ≤ b) : LWP F N := h.cg (fun k _ c => e.1 k (by omega) (by omega) (by omega) (by omega))
/-- what an act of the class owes -/
def AO (b : Nat) (M N : am_M) (r : AR) : Prop := TP b r.1 N ∧ N 50 9 = r.2.1 ∧ N 50 7 = M 50 7 + r.2.2 ∧ N 50 8 = M 50 8 ∧ VF b M N
theorem ld_b {b : Nat} {t M : am_M} (hw : WT t) (h : TP b t M) : am_R (M b 9) ∧ (t 0 0 = -1 → M b 9 = -2) ∧ (t 0 0 ≠ -1 → M b 9 = t 0 0 ∧ 0 ≤ t 0 0 ∧ t 0 0 < 6) := by
  have h1 := h.1.1
  have h2 := hw.1
  by_cases h3 : t 0 0 = -1
  · rw [if_pos h3] at h1
    exact ⟨by omega, fun _ => h1, fun q => absurd h3 q⟩
  · rw [if_neg h3] at h1
    exact ⟨by omega, fun q => absurd q h3, fun _ => ⟨h1, by omega, by omega⟩⟩
theorem told_b {b : Nat} {g t M : am_M} (hg : WG g) (hw : WT t) (hL : LT g t) (h : GP g M) (hT : TP b t M) : Country_isTold_1 (M b 9) M = some (if t 0 0 = -1 then 0 else 1) := by
  obtain ⟨e1, e2, e3⟩ := ld_b hw hT
  rw [told_eq hg h e1]
  by_cases h3 : t 0 0 = -1
  · rw [e2 h3, if_pos h3]
    exact congrArg some (if_neg (by omega))
  · rw [(e3 h3).1, if_neg h3]
    exact congrArg some (if_pos ⟨(e3 h3).2.1, (e3 h3).2.2, hL h3⟩)
theorem floorMod6 {x : Int} {M : am_M} (h : 0 ≤ x ∧ x ≤ 20) : J_floorMod x 6 M = some (x % 6) := by
  have hx : am_R (b_xor x 6) ∧ 0 ≤ b_xor x 6 := by
    have key : ∀ y : Fin 21, -2147483648 ≤ b_xor ((y.val : Nat) : Int) 6 ∧ b_xor ((y.val : Nat) : Int) 6 < 2147483648 ∧ 0 ≤ b_xor ((y.val : Nat) : Int) 6 := by decide +kernel
    have := key ⟨x.toNat, by omega⟩
    rw [show (((⟨x.toNat, by omega⟩ : Fin 21).val : Nat) : Int) = x by show ((x.toNat : Nat) : Int) = x; omega] at this
    exact ⟨⟨this.1, this.2.1⟩, this.2.2⟩
  unfold J_floorMod J_floorMod_18
  rw [ck_p (by omega), tw_p, c_ge_p hx.1 (by decide), if_pos hx.2, Int.tmod_eq_emod_of_nonneg h.1]
theorem nextTold_lp {g M : am_M} {p : Int} (hg : WG g) (hG : GP g M) (hp : 0 ≤ p ∧ p < 6) : ∀ (k f : Nat) (m : Int), m + k = 7 → 1 ≤ m → k < f → Country_nextTold_1_2 f p m M = some (ntL g p k m)
  | 0, f + 1, m, e, hm, hf => by
    unfold Country_nextTold_1_2 ntL
    rw [c_gt_p (by omega) (by omega), if_pos (by omega)]
  | k + 1, f + 1, m, e, hm, hf => by
    have ih := nextTold_lp hg hG hp k f (m + 1) (by omega) (by omega) (by omega)
    unfold Country_nextTold_1_2 ntL
    rw [c_gt_p (by omega) (by omega), if_neg (by omega), floorMod6 (by omega), ob_s, told_eq hg hG (by omega), ob_s]
    by_cases q : 0 < g 3 ((p + m) % 6).toNat
    · rw [if_pos ⟨by omega, by omega, q⟩, c_eq_p (by decide) (by decide), if_neg (by decide), if_pos q]
    · rw [if_neg (fun h => q h.2.2), c_eq_p (by decide) (by decide), if_pos (by decide), if_neg q]
      exact ih
theorem wayOf_eq {a : Int} {M : am_M} (h : am_R a) : Outing_wayOf a M = some (wyS a) := by
  unfold Outing_wayOf wyS
  rw [ck_p h]
  repeat' split
  all_goals rfl
theorem spend_26_eq {g t M : am_M} (hg : WG g) (hw : WT t) (hG : GP g M) (hT : TP 26 t M) {w : Int} (h0 : 0 ≤ w ∧ w ≤ 1000) : Outing_spend_50_26 w M = if t 0 3 + w ≤ g 0 2 then some (1, am_up (am_up M 50 9 0) 26 12 (t 0 3 + w)) else some (0, am_up M 50 9 1) := by
  have hl := hw.1
  have hg1 := hg.1
  have e1 : M 26 12 = t 0 3 := hT.1.2.2.2.1
  have e2 : M 1 4 = g 0 2 := hG.1.2.2.1
  unfold Outing_spend_50_26 Outing_spend_50_26_22 Outing_spend_50_26_42 Outing_spend_50_26_54
  rw [e1, e2, c_le_p (by omega) (by omega)]
  by_cases hc : t 0 3 + w ≤ g 0 2
  · rw [if_pos hc, if_pos hc, fz_p (Or.inl rfl), upj, c_ne_p (by decide) (by decide), if_neg (by decide), fw_p, upo (show (50 : Nat) ≠ 26 by decide), upj, c_ne_p (by decide) (by decide), if_neg (by decide), ck_p (by decide), upo (show (26 : Nat) ≠ 50 by decide), e1]
  · rw [if_neg hc, if_neg hc, fz_p (Or.inr rfl), upj, c_ne_p (by decide) (by decide), if_pos (by decide), c_ne_p (by decide) (by decide), if_pos (by decide), ck_p (by decide)]
theorem spent_26 {g t M : am_M} {w : Int} (hT : TP 26 t M) : TP 26 (am_up t 0 3 (t 0 3 + w)) (am_up (am_up M 50 9 0) 26 12 (t 0 3 + w)) ∧ VF 26 M (am_up (am_up M 50 9 0) 26 12 (t 0 3 + w)) ∧ (am_up (am_up M 50 9 0) 26 12 (t 0 3 + w)) 50 9 = 0 ∧ (am_up (am_up M 50 9 0) 26 12 (t 0 3 + w)) 50 7 = M 50 7 ∧ (am_up (am_up M 50 9 0) 26 12 (t 0 3 + w)) 50 8 = M 50 8 := by
  refine ⟨(hT.cg (fun k a b => upo (by omega))).h3, (VF.rf.up (by omega)).up (by omega), ?_, ?_, ?_⟩
  · simp (disch := omega) only [c_lt_p, c_eq_p, c_ne_p, c_ge_p, c_gt_p, c_le_p, rd_p, wa_p, wz_p, w8_p, fz_p, fw_p, tw_p, ck_p, ob_s, oc_s, if_pos, if_neg, am_upo, up_s, ne_eq, not_true_eq_false, not_false_eq_true, true_or, or_true, true_and, and_true, false_and, and_false, ck_t, reduceIte, Int.tmod_eq_emod_of_nonneg, Int.tdiv_eq_ediv_of_nonneg]
  · simp (disch := omega) only [c_lt_p, c_eq_p, c_ne_p, c_ge_p, c_gt_p, c_le_p, rd_p, wa_p, wz_p, w8_p, fz_p, fw_p, tw_p, ck_p, ob_s, oc_s, if_pos, if_neg, am_upo, up_s, ne_eq, not_true_eq_false, not_false_eq_true, true_or, or_true, true_and, and_true, false_and, and_false, ck_t, reduceIte, Int.tmod_eq_emod_of_nonneg, Int.tdiv_eq_ediv_of_nonneg]
  · simp (disch := omega) only [c_lt_p, c_eq_p, c_ne_p, c_ge_p, c_gt_p, c_le_p, rd_p, wa_p, wz_p, w8_p, fz_p, fw_p, tw_p, ck_p, ob_s, oc_s, if_pos, if_neg, am_upo, up_s, ne_eq, not_true_eq_false, not_false_eq_true, true_or, or_true, true_and, and_true, false_and, and_false, ck_t, reduceIte, Int.tmod_eq_emod_of_nonneg, Int.tdiv_eq_ediv_of_nonneg]
theorem dark_26 {g t M : am_M} (hT : TP 26 t M) : AO 26 M (am_up M 50 9 1) (t, 1, 0) := by
  refine ⟨hT.cg (fun k a b => upo (by omega)), upj, ?_, ?_, VF.rf.up (by omega)⟩
  · rw [upx (by decide)]
    show _ = M 50 7 + 0
    omega
  · rw [upx (by decide)]
theorem none_26 {t M : am_M} (hT : TP 26 t M) (h9 : M 50 9 = 0) : AO 26 M M (t, 0, 0) := ⟨hT, h9, by show _ = M 50 7 + 0; omega, rfl, VF.rf⟩
theorem setTired_26_eq {M : am_M} {p v : Int} (hp : 0 ≤ p ∧ p < 6) (hv : am_R v) : Trip_setTired_26 p v M = some (am_up M 27 p.toNat (hd0 v)) := by
  obtain ⟨y, y1, y2⟩ := J_hd0 (v := v) (M := M) hv
  unfold Trip_setTired_26 Trip_setTired_26_26
  rw [c_lt_p (by omega) (by omega), if_neg (by omega), c_ge_p (by omega) (by omega), if_neg (by omega), y1, ob_s, y2, ob_s, wa_p (by omega)]
theorem restL_26 {F : FT} {g : am_M} (hF : FO F) (hg : WG g) : ∀ (k f p : Nat) (t M : am_M), p + k = 6 → k < f → WT t → GP g M → LWP F M → TP 26 t M → ∃ N, Outing_rest_50_26_12 f (p : Int) M = some N ∧ TP 26 (reL F g k p t) N ∧ WF 26 M N
  | 0, f + 1, p, t, M, e, hf, hw, hG, hL, hT => by
    refine ⟨M, ?_, hT, WF.rf⟩
    unfold Outing_rest_50_26_12 Outing_rest_50_26_68
    rw [c_ge_p (by omega) (by omega), if_pos (by omega)]
  | k + 1, f + 1, p, t, M, e, hf, hw, hG, hL, hT => by
    have hl := hw.1
    have ep : ((p : Int)).toNat = p := by omega
    have h1 := hw.2.2.1 p (by omega)
    have h2 := hg.2.2.2 p (by omega)
    have e13 : M 26 13 = t 0 4 := hT.1.2.2.2.2.1
    unfold Outing_rest_50_26_12 Outing_rest_50_26_62 reL
    rw [c_ge_p (by omega) (by omega), if_neg (by omega), told_eq hg hG (by omega), ob_s, ep]
    by_cases q : 0 < g 3 p
    · have hb := hF.1 101 20 (E7 0 0 (g 3 p) (t 1 p) 0 0 (t 0 4)) (by decide)
      obtain ⟨N1, a1, a2⟩ := Law_resting_eq (a := g 3 p) (t := t 1 p) (y := t 0 4) hF hL (by omega) (by omega) (by omega)
      have et := Trip_tiredOf_26_eq hT (p := (p : Int)) (by omega) (by omega)
      rw [ep] at et
      have ea : Country_armOf_1 (p : Int) M = some (g 3 p) := by
        rw [Country_armOf_eq (by omega), if_pos (by omega), ep, hG.2.2.2 p (by omega)]
      rw [if_pos ⟨by omega, by omega, q⟩, c_eq_p (by decide) (by decide), if_neg (by decide), et, ob_s, ea, ob_s, e13, a1, oc_s, setTired_26_eq (by omega) (by omega), ob_s, ep, if_pos q]
      have f1 : WF 26 M (am_up N1 27 p (hd0 (t 1 p - F 101 20 (E7 0 0 (g 3 p) (t 1 p) 0 0 (t 0 4))))) := a2.wf.up (by omega)
      obtain ⟨N2, b1, b2, b3⟩ := restL_26 hF hg k f (p + 1) _ _ (by omega) (by omega) (hw.g1 (hd0_b _)) (hG.wf f1 (by decide)) (hL.wf f1 (by decide)) ((hT.lf a2 (by decide)).g1 (p := p) (v := hd0 (t 1 p - F 101 20 (E7 0 0 (g 3 p) (t 1 p) 0 0 (t 0 4)))))
      exact ⟨N2, b1, b2, f1.tr b3⟩
    · rw [if_neg (fun h => q h.2.2), c_eq_p (by decide) (by decide), if_pos (by decide), if_neg q]
      exact restL_26 hF hg k f (p + 1) t M (by omega) (by omega) hw hG hL hT
theorem WF.vf_26 {M N : am_M} (a : WF 26 M N) : VF 26 M N := ⟨fun k h1 h2 _ h4 => a k h1 h2 h4, fun j _ => by rw [a 50 (by decide) (by decide) (by decide)]⟩
theorem rest_26_eq {F : FT} {g t M : am_M} (hF : FO F) (hg : WG g) (hw : WT t) (hG : GP g M) (hL : LWP F M) (hT : TP 26 t M) (h9 : M 50 9 = 0) : ∃ N, Outing_rest_50_26 M = some N ∧ AO 26 M N (spA g t 10 (fun t1 => (reL F g 6 0 t1, 0, 0))) := by
  have hl := hw.1
  have hg1 := hg.1
  have es := spend_26_eq hg hw hG hT (w := 10) (by decide)
  unfold Outing_rest_50_26 Outing_rest_50_26_68 spA
  by_cases q : t 0 3 + 10 ≤ g 0 2
  · rw [if_pos q] at es
    obtain ⟨p1, p2, p3, p4, p5⟩ := spent_26 (g := g) (w := 10) hT
    obtain ⟨N, a1, a2, a3⟩ := restL_26 hF hg 6 am_big 0 _ _ (by omega) (by decide) (hw.h3 (v := t 0 3 + 10) (by omega)) (hG.vf p2 (by decide)) (hL.vf p2 (by decide)) p1
    have a4 := a3.vf_26
    have e50 : N 50 = (am_up (am_up M 50 9 0) 26 12 (t 0 3 + 10)) 50 := a3 50 (by decide) (by decide) (by decide)
    rw [es, oc_s, c_eq_p (by decide) (by decide), if_neg (by decide), if_pos q]
    refine ⟨N, a1, a2, ?_, ?_, ?_, p2.tr a4⟩
    · rw [e50, p3]
    · rw [e50, p4]
      show _ = M 50 7 + 0
      omega
    · rw [e50, p5]
  · rw [if_neg q] at es
    rw [es, oc_s, c_eq_p (by decide) (by decide), if_pos (by decide), if_neg q]
    exact ⟨_, rfl, dark_26 (g := g) hT⟩
theorem change_26_eq {g t M : am_M} (hg : WG g) (hw : WT t) (hLT : LT g t) (hG : GP g M) (hT : TP 26 t M) (h9 : M 50 9 = 0) : ∃ N, Outing_change_50_26 M = some N ∧ AO 26 M N (if t 0 0 = -1 then (t, 0, 0) else spA g t 0 (fun t1 => (am_up t1 0 0 (ntL g (t 0 0) 6 1), 0, 0))) := by
  have hl := hw.1
  have hg1 := hg.1
  have es := spend_26_eq hg hw hG hT (w := 0) (by decide)
  unfold Outing_change_50_26 Outing_change_50_26_38
  rw [told_b hg hw hLT hG hT, ob_s]
  by_cases q0 : t 0 0 = -1
  · rw [if_pos q0, if_pos q0, c_eq_p (by decide) (by decide), if_pos (by decide)]
    exact ⟨M, rfl, none_26 hT h9⟩
  rw [if_neg q0, if_neg q0, c_eq_p (by decide) (by decide), if_neg (by decide)]
  unfold spA
  by_cases q : t 0 3 + 0 ≤ g 0 2
  · rw [if_pos q] at es
    obtain ⟨p1, p2, p3, p4, p5⟩ := spent_26 (g := g) (w := 0) hT
    have e9 : (am_up (am_up M 50 9 0) 26 12 (t 0 3 + 0)) 26 9 = t 0 0 := by
      have := (ld_b (hw.h3 (v := t 0 3 + 0) (by omega)) p1).2.2 (by rw [upx (by decide)]; exact q0)
      rw [upx (show (0 : Nat) ≠ 3 by decide)] at this
      exact this.1
    have hn : Country_nextTold_1 (t 0 0) (am_up (am_up M 50 9 0) 26 12 (t 0 3 + 0)) = some (ntL g (t 0 0) 6 1) := nextTold_lp hg (hG.vf p2 (by decide)) (by omega) 6 am_big 1 (by omega) (by omega) (by decide)
    have hnb := ntL_b (g := g) (p := t 0 0) (by omega) (hLT q0) 6 1 (by decide)
    rw [es, oc_s, c_eq_p (by decide) (by decide), if_neg (by decide), e9, hn, ob_s, fw_p, if_pos q]
    refine ⟨_, rfl, p1.h0 (by omega), ?_, ?_, ?_, p2.up (by omega)⟩
    · rw [upo (by decide), p3]
    · rw [upo (by decide), p4]
      show _ = M 50 7 + 0
      omega
    · rw [upo (by decide), p5]
  · rw [if_neg q] at es
    rw [es, oc_s, c_eq_p (by decide) (by decide), if_pos (by decide), if_neg q]
    exact ⟨_, rfl, dark_26 (g := g) hT⟩
theorem mark_26_eq {g t M : am_M} {f : Int} (hg : WG g) (hw : WT t) (hG : GP g M) (hT : TP 26 t M) (h9 : M 50 9 = 0) (hf : f = 1 ∨ f = 2) : ∃ N, Outing_mark_50_26 f M = some N ∧ AO 26 M N (mkA g t f) := by
  have hl := hw.1
  have hg1 := hg.1
  have e11 : M 26 11 = t 0 2 := hT.1.2.2.1
  have hm := mkS_b hw (t 0 2)
  have hab := and_b hm.1 hm.2 hf
  have es := spend_26_eq hg hw hG hT (w := 2) (by decide)
  unfold Outing_mark_50_26 Outing_mark_50_26_27 mkA
  rw [e11, Trip_marksAt_26_eq hw hT (by omega), ob_s, c_ne_p (by omega) (by decide)]
  by_cases q0 : b_and (mkS t (t 0 2)) f = 0
  · rw [if_neg (fun h => h q0), if_pos q0]
    unfold spA
    by_cases q : t 0 3 + 2 ≤ g 0 2
    · rw [if_pos q] at es
      obtain ⟨p1, p2, p3, p4, p5⟩ := spent_26 (g := g) (w := 2) hT
      have hw1 := hw.h3 (v := t 0 3 + 2) (by omega)
      have e11' : (am_up (am_up M 50 9 0) 26 12 (t 0 3 + 2)) 26 11 = t 0 2 := by rw [upx (by decide), upo (by decide)]; exact e11
      have e5 : (am_up (am_up M 50 9 0) 26 12 (t 0 3 + 2)) 31 (t 0 2).toNat = t 5 (t 0 2).toNat := by
        rw [upo (by decide), upo (by decide)]
        exact (hT.2.1 (t 0 2).toNat (by omega)).2.2.2.1
      rw [es, oc_s, c_eq_p (by decide) (by decide), if_neg (by decide), if_pos q]
      unfold Trip_putMark_26 Trip_putMark_26_24
      rw [e11', Trip_isPlace_26_eq hw1 p1 (by omega), upx (show (1 : Nat) ≠ 3 by decide), if_pos (by omega), ob_s, c_eq_p (by decide) (by decide), if_neg (by decide), rd_p (by omega), wa_p (by omega), e5, ob_s]
      refine ⟨_, rfl, p1.g5, ?_, ?_, ?_, p2.up (by omega)⟩
      · rw [upo (by decide), p3]
      · rw [upo (by decide), p4]
        show _ = M 50 7 + 0
        omega
      · rw [upo (by decide), p5]
    · rw [if_neg q] at es
      rw [es, oc_s, c_eq_p (by decide) (by decide), if_pos (by decide), if_neg q]
      exact ⟨_, rfl, dark_26 (g := g) hT⟩
  · rw [if_pos q0, if_neg q0]
    exact ⟨M, rfl, none_26 hT h9⟩
theorem lay_26_eq {g t M : am_M} (hg : WG g) (hw : WT t) (hG : GP g M) (hT : TP 26 t M) (h9 : M 50 9 = 0) : ∃ N, Outing_lay_50_26 M = some N ∧ AO 26 M N (skA g t) := by
  have hl := hw.1
  have hg1 := hg.1
  have e11 : M 26 11 = t 0 2 := hT.1.2.2.1
  have hm := skS_b hw (t 0 2)
  have es := spend_26_eq hg hw hG hT (w := 1) (by decide)
  unfold Outing_lay_50_26 Outing_lay_50_26_24 skA
  rw [e11, Trip_sticksAt_26_eq hw hT (by omega), ob_s, c_ne_p (by omega) (by decide)]
  by_cases q0 : skS t (t 0 2) = 0
  · rw [if_neg (fun h => h q0), if_pos q0]
    unfold spA
    by_cases q : t 0 3 + 1 ≤ g 0 2
    · rw [if_pos q] at es
      obtain ⟨p1, p2, p3, p4, p5⟩ := spent_26 (g := g) (w := 1) hT
      have hw1 := hw.h3 (v := t 0 3 + 1) (by omega)
      have e11' : (am_up (am_up M 50 9 0) 26 12 (t 0 3 + 1)) 26 11 = t 0 2 := by rw [upx (by decide), upo (by decide)]; exact e11
      rw [es, oc_s, c_eq_p (by decide) (by decide), if_neg (by decide), if_pos q]
      unfold Trip_putStick_26 Trip_putStick_26_21
      rw [e11', Trip_isPlace_26_eq hw1 p1 (by omega), upx (show (1 : Nat) ≠ 3 by decide), if_pos (by omega), ob_s, c_eq_p (by decide) (by decide), if_neg (by decide), wa_p (by omega), ob_s]
      refine ⟨_, rfl, p1.g6, ?_, ?_, ?_, p2.up (by omega)⟩
      · rw [upo (by decide), p3]
      · rw [upo (by decide), p4]
        show _ = M 50 7 + 0
        omega
      · rw [upo (by decide), p5]
    · rw [if_neg q] at es
      rw [es, oc_s, c_eq_p (by decide) (by decide), if_pos (by decide), if_neg q]
      exact ⟨_, rfl, dark_26 (g := g) hT⟩
  · rw [if_pos q0, if_neg q0]
    exact ⟨M, rfl, none_26 hT h9⟩
theorem spend_34_eq {g t M : am_M} (hg : WG g) (hw : WT t) (hG : GP g M) (hT : TP 34 t M) {w : Int} (h0 : 0 ≤ w ∧ w ≤ 1000) : Outing_spend_50_34 w M = if t 0 3 + w ≤ g 0 2 then some (1, am_up (am_up M 50 9 0) 34 12 (t 0 3 + w)) else some (0, am_up M 50 9 1) := by
  have hl := hw.1
  have hg1 := hg.1
  have e1 : M 34 12 = t 0 3 := hT.1.2.2.2.1
  have e2 : M 1 4 = g 0 2 := hG.1.2.2.1
  unfold Outing_spend_50_34 Outing_spend_50_34_22 Outing_spend_50_34_42 Outing_spend_50_34_54
  rw [e1, e2, c_le_p (by omega) (by omega)]
  by_cases hc : t 0 3 + w ≤ g 0 2
  · rw [if_pos hc, if_pos hc, fz_p (Or.inl rfl), upj, c_ne_p (by decide) (by decide), if_neg (by decide), fw_p, upo (show (50 : Nat) ≠ 34 by decide), upj, c_ne_p (by decide) (by decide), if_neg (by decide), ck_p (by decide), upo (show (34 : Nat) ≠ 50 by decide), e1]
  · rw [if_neg hc, if_neg hc, fz_p (Or.inr rfl), upj, c_ne_p (by decide) (by decide), if_pos (by decide), c_ne_p (by decide) (by decide), if_pos (by decide), ck_p (by decide)]
theorem spent_34 {g t M : am_M} {w : Int} (hT : TP 34 t M) : TP 34 (am_up t 0 3 (t 0 3 + w)) (am_up (am_up M 50 9 0) 34 12 (t 0 3 + w)) ∧ VF 34 M (am_up (am_up M 50 9 0) 34 12 (t 0 3 + w)) ∧ (am_up (am_up M 50 9 0) 34 12 (t 0 3 + w)) 50 9 = 0 ∧ (am_up (am_up M 50 9 0) 34 12 (t 0 3 + w)) 50 7 = M 50 7 ∧ (am_up (am_up M 50 9 0) 34 12 (t 0 3 + w)) 50 8 = M 50 8 := by
  refine ⟨(hT.cg (fun k a b => upo (by omega))).h3, (VF.rf.up (by omega)).up (by omega), ?_, ?_, ?_⟩
  · simp (disch := omega) only [c_lt_p, c_eq_p, c_ne_p, c_ge_p, c_gt_p, c_le_p, rd_p, wa_p, wz_p, w8_p, fz_p, fw_p, tw_p, ck_p, ob_s, oc_s, if_pos, if_neg, am_upo, up_s, ne_eq, not_true_eq_false, not_false_eq_true, true_or, or_true, true_and, and_true, false_and, and_false, ck_t, reduceIte, Int.tmod_eq_emod_of_nonneg, Int.tdiv_eq_ediv_of_nonneg]
  · simp (disch := omega) only [c_lt_p, c_eq_p, c_ne_p, c_ge_p, c_gt_p, c_le_p, rd_p, wa_p, wz_p, w8_p, fz_p, fw_p, tw_p, ck_p, ob_s, oc_s, if_pos, if_neg, am_upo, up_s, ne_eq, not_true_eq_false, not_false_eq_true, true_or, or_true, true_and, and_true, false_and, and_false, ck_t, reduceIte, Int.tmod_eq_emod_of_nonneg, Int.tdiv_eq_ediv_of_nonneg]
  · simp (disch := omega) only [c_lt_p, c_eq_p, c_ne_p, c_ge_p, c_gt_p, c_le_p, rd_p, wa_p, wz_p, w8_p, fz_p, fw_p, tw_p, ck_p, ob_s, oc_s, if_pos, if_neg, am_upo, up_s, ne_eq, not_true_eq_false, not_false_eq_true, true_or, or_true, true_and, and_true, false_and, and_false, ck_t, reduceIte, Int.tmod_eq_emod_of_nonneg, Int.tdiv_eq_ediv_of_nonneg]
theorem dark_34 {g t M : am_M} (hT : TP 34 t M) : AO 34 M (am_up M 50 9 1) (t, 1, 0) := by
  refine ⟨hT.cg (fun k a b => upo (by omega)), upj, ?_, ?_, VF.rf.up (by omega)⟩
  · rw [upx (by decide)]
    show _ = M 50 7 + 0
    omega
  · rw [upx (by decide)]
theorem none_34 {t M : am_M} (hT : TP 34 t M) (h9 : M 50 9 = 0) : AO 34 M M (t, 0, 0) := ⟨hT, h9, by show _ = M 50 7 + 0; omega, rfl, VF.rf⟩
theorem setTired_34_eq {M : am_M} {p v : Int} (hp : 0 ≤ p ∧ p < 6) (hv : am_R v) : Trip_setTired_34 p v M = some (am_up M 35 p.toNat (hd0 v)) := by
  obtain ⟨y, y1, y2⟩ := J_hd0 (v := v) (M := M) hv
  unfold Trip_setTired_34 Trip_setTired_34_26
  rw [c_lt_p (by omega) (by omega), if_neg (by omega), c_ge_p (by omega) (by omega), if_neg (by omega), y1, ob_s, y2, ob_s, wa_p (by omega)]
theorem restL_34 {F : FT} {g : am_M} (hF : FO F) (hg : WG g) : ∀ (k f p : Nat) (t M : am_M), p + k = 6 → k < f → WT t → GP g M → LWP F M → TP 34 t M → ∃ N, Outing_rest_50_34_12 f (p : Int) M = some N ∧ TP 34 (reL F g k p t) N ∧ WF 34 M N
  | 0, f + 1, p, t, M, e, hf, hw, hG, hL, hT => by
    refine ⟨M, ?_, hT, WF.rf⟩
    unfold Outing_rest_50_34_12 Outing_rest_50_34_68
    rw [c_ge_p (by omega) (by omega), if_pos (by omega)]
  | k + 1, f + 1, p, t, M, e, hf, hw, hG, hL, hT => by
    have hl := hw.1
    have ep : ((p : Int)).toNat = p := by omega
    have h1 := hw.2.2.1 p (by omega)
    have h2 := hg.2.2.2 p (by omega)
    have e13 : M 34 13 = t 0 4 := hT.1.2.2.2.2.1
    unfold Outing_rest_50_34_12 Outing_rest_50_34_62 reL
    rw [c_ge_p (by omega) (by omega), if_neg (by omega), told_eq hg hG (by omega), ob_s, ep]
    by_cases q : 0 < g 3 p
    · have hb := hF.1 101 20 (E7 0 0 (g 3 p) (t 1 p) 0 0 (t 0 4)) (by decide)
      obtain ⟨N1, a1, a2⟩ := Law_resting_eq (a := g 3 p) (t := t 1 p) (y := t 0 4) hF hL (by omega) (by omega) (by omega)
      have et := Trip_tiredOf_34_eq hT (p := (p : Int)) (by omega) (by omega)
      rw [ep] at et
      have ea : Country_armOf_1 (p : Int) M = some (g 3 p) := by
        rw [Country_armOf_eq (by omega), if_pos (by omega), ep, hG.2.2.2 p (by omega)]
      rw [if_pos ⟨by omega, by omega, q⟩, c_eq_p (by decide) (by decide), if_neg (by decide), et, ob_s, ea, ob_s, e13, a1, oc_s, setTired_34_eq (by omega) (by omega), ob_s, ep, if_pos q]
      have f1 : WF 34 M (am_up N1 35 p (hd0 (t 1 p - F 101 20 (E7 0 0 (g 3 p) (t 1 p) 0 0 (t 0 4))))) := a2.wf.up (by omega)
      obtain ⟨N2, b1, b2, b3⟩ := restL_34 hF hg k f (p + 1) _ _ (by omega) (by omega) (hw.g1 (hd0_b _)) (hG.wf f1 (by decide)) (hL.wf f1 (by decide)) ((hT.lf a2 (by decide)).g1 (p := p) (v := hd0 (t 1 p - F 101 20 (E7 0 0 (g 3 p) (t 1 p) 0 0 (t 0 4)))))
      exact ⟨N2, b1, b2, f1.tr b3⟩
    · rw [if_neg (fun h => q h.2.2), c_eq_p (by decide) (by decide), if_pos (by decide), if_neg q]
      exact restL_34 hF hg k f (p + 1) t M (by omega) (by omega) hw hG hL hT
theorem WF.vf_34 {M N : am_M} (a : WF 34 M N) : VF 34 M N := ⟨fun k h1 h2 _ h4 => a k h1 h2 h4, fun j _ => by rw [a 50 (by decide) (by decide) (by decide)]⟩
theorem rest_34_eq {F : FT} {g t M : am_M} (hF : FO F) (hg : WG g) (hw : WT t) (hG : GP g M) (hL : LWP F M) (hT : TP 34 t M) (h9 : M 50 9 = 0) : ∃ N, Outing_rest_50_34 M = some N ∧ AO 34 M N (spA g t 10 (fun t1 => (reL F g 6 0 t1, 0, 0))) := by
  have hl := hw.1
  have hg1 := hg.1
  have es := spend_34_eq hg hw hG hT (w := 10) (by decide)
  unfold Outing_rest_50_34 Outing_rest_50_34_68 spA
  by_cases q : t 0 3 + 10 ≤ g 0 2
  · rw [if_pos q] at es
    obtain ⟨p1, p2, p3, p4, p5⟩ := spent_34 (g := g) (w := 10) hT
    obtain ⟨N, a1, a2, a3⟩ := restL_34 hF hg 6 am_big 0 _ _ (by omega) (by decide) (hw.h3 (v := t 0 3 + 10) (by omega)) (hG.vf p2 (by decide)) (hL.vf p2 (by decide)) p1
    have a4 := a3.vf_34
    have e50 : N 50 = (am_up (am_up M 50 9 0) 34 12 (t 0 3 + 10)) 50 := a3 50 (by decide) (by decide) (by decide)
    rw [es, oc_s, c_eq_p (by decide) (by decide), if_neg (by decide), if_pos q]
    refine ⟨N, a1, a2, ?_, ?_, ?_, p2.tr a4⟩
    · rw [e50, p3]
    · rw [e50, p4]
      show _ = M 50 7 + 0
      omega
    · rw [e50, p5]
  · rw [if_neg q] at es
    rw [es, oc_s, c_eq_p (by decide) (by decide), if_pos (by decide), if_neg q]
    exact ⟨_, rfl, dark_34 (g := g) hT⟩
theorem change_34_eq {g t M : am_M} (hg : WG g) (hw : WT t) (hLT : LT g t) (hG : GP g M) (hT : TP 34 t M) (h9 : M 50 9 = 0) : ∃ N, Outing_change_50_34 M = some N ∧ AO 34 M N (if t 0 0 = -1 then (t, 0, 0) else spA g t 0 (fun t1 => (am_up t1 0 0 (ntL g (t 0 0) 6 1), 0, 0))) := by
  have hl := hw.1
  have hg1 := hg.1
  have es := spend_34_eq hg hw hG hT (w := 0) (by decide)
  unfold Outing_change_50_34 Outing_change_50_34_38
  rw [told_b hg hw hLT hG hT, ob_s]
  by_cases q0 : t 0 0 = -1
  · rw [if_pos q0, if_pos q0, c_eq_p (by decide) (by decide), if_pos (by decide)]
    exact ⟨M, rfl, none_34 hT h9⟩
  rw [if_neg q0, if_neg q0, c_eq_p (by decide) (by decide), if_neg (by decide)]
  unfold spA
  by_cases q : t 0 3 + 0 ≤ g 0 2
  · rw [if_pos q] at es
    obtain ⟨p1, p2, p3, p4, p5⟩ := spent_34 (g := g) (w := 0) hT
    have e9 : (am_up (am_up M 50 9 0) 34 12 (t 0 3 + 0)) 34 9 = t 0 0 := by
      have := (ld_b (hw.h3 (v := t 0 3 + 0) (by omega)) p1).2.2 (by rw [upx (by decide)]; exact q0)
      rw [upx (show (0 : Nat) ≠ 3 by decide)] at this
      exact this.1
    have hn : Country_nextTold_1 (t 0 0) (am_up (am_up M 50 9 0) 34 12 (t 0 3 + 0)) = some (ntL g (t 0 0) 6 1) := nextTold_lp hg (hG.vf p2 (by decide)) (by omega) 6 am_big 1 (by omega) (by omega) (by decide)
    have hnb := ntL_b (g := g) (p := t 0 0) (by omega) (hLT q0) 6 1 (by decide)
    rw [es, oc_s, c_eq_p (by decide) (by decide), if_neg (by decide), e9, hn, ob_s, fw_p, if_pos q]
    refine ⟨_, rfl, p1.h0 (by omega), ?_, ?_, ?_, p2.up (by omega)⟩
    · rw [upo (by decide), p3]
    · rw [upo (by decide), p4]
      show _ = M 50 7 + 0
      omega
    · rw [upo (by decide), p5]
  · rw [if_neg q] at es
    rw [es, oc_s, c_eq_p (by decide) (by decide), if_pos (by decide), if_neg q]
    exact ⟨_, rfl, dark_34 (g := g) hT⟩
theorem mark_34_eq {g t M : am_M} {f : Int} (hg : WG g) (hw : WT t) (hG : GP g M) (hT : TP 34 t M) (h9 : M 50 9 = 0) (hf : f = 1 ∨ f = 2) : ∃ N, Outing_mark_50_34 f M = some N ∧ AO 34 M N (mkA g t f) := by
  have hl := hw.1
  have hg1 := hg.1
  have e11 : M 34 11 = t 0 2 := hT.1.2.2.1
  have hm := mkS_b hw (t 0 2)
  have hab := and_b hm.1 hm.2 hf
  have es := spend_34_eq hg hw hG hT (w := 2) (by decide)
  unfold Outing_mark_50_34 Outing_mark_50_34_27 mkA
  rw [e11, Trip_marksAt_34_eq hw hT (by omega), ob_s, c_ne_p (by omega) (by decide)]
  by_cases q0 : b_and (mkS t (t 0 2)) f = 0
  · rw [if_neg (fun h => h q0), if_pos q0]
    unfold spA
    by_cases q : t 0 3 + 2 ≤ g 0 2
    · rw [if_pos q] at es
      obtain ⟨p1, p2, p3, p4, p5⟩ := spent_34 (g := g) (w := 2) hT
      have hw1 := hw.h3 (v := t 0 3 + 2) (by omega)
      have e11' : (am_up (am_up M 50 9 0) 34 12 (t 0 3 + 2)) 34 11 = t 0 2 := by rw [upx (by decide), upo (by decide)]; exact e11
      have e5 : (am_up (am_up M 50 9 0) 34 12 (t 0 3 + 2)) 39 (t 0 2).toNat = t 5 (t 0 2).toNat := by
        rw [upo (by decide), upo (by decide)]
        exact (hT.2.1 (t 0 2).toNat (by omega)).2.2.2.1
      rw [es, oc_s, c_eq_p (by decide) (by decide), if_neg (by decide), if_pos q]
      unfold Trip_putMark_34 Trip_putMark_34_24
      rw [e11', Trip_isPlace_34_eq hw1 p1 (by omega), upx (show (1 : Nat) ≠ 3 by decide), if_pos (by omega), ob_s, c_eq_p (by decide) (by decide), if_neg (by decide), rd_p (by omega), wa_p (by omega), e5, ob_s]
      refine ⟨_, rfl, p1.g5, ?_, ?_, ?_, p2.up (by omega)⟩
      · rw [upo (by decide), p3]
      · rw [upo (by decide), p4]
        show _ = M 50 7 + 0
        omega
      · rw [upo (by decide), p5]
    · rw [if_neg q] at es
      rw [es, oc_s, c_eq_p (by decide) (by decide), if_pos (by decide), if_neg q]
      exact ⟨_, rfl, dark_34 (g := g) hT⟩
  · rw [if_pos q0, if_neg q0]
    exact ⟨M, rfl, none_34 hT h9⟩
theorem lay_34_eq {g t M : am_M} (hg : WG g) (hw : WT t) (hG : GP g M) (hT : TP 34 t M) (h9 : M 50 9 = 0) : ∃ N, Outing_lay_50_34 M = some N ∧ AO 34 M N (skA g t) := by
  have hl := hw.1
  have hg1 := hg.1
  have e11 : M 34 11 = t 0 2 := hT.1.2.2.1
  have hm := skS_b hw (t 0 2)
  have es := spend_34_eq hg hw hG hT (w := 1) (by decide)
  unfold Outing_lay_50_34 Outing_lay_50_34_24 skA
  rw [e11, Trip_sticksAt_34_eq hw hT (by omega), ob_s, c_ne_p (by omega) (by decide)]
  by_cases q0 : skS t (t 0 2) = 0
  · rw [if_neg (fun h => h q0), if_pos q0]
    unfold spA
    by_cases q : t 0 3 + 1 ≤ g 0 2
    · rw [if_pos q] at es
      obtain ⟨p1, p2, p3, p4, p5⟩ := spent_34 (g := g) (w := 1) hT
      have hw1 := hw.h3 (v := t 0 3 + 1) (by omega)
      have e11' : (am_up (am_up M 50 9 0) 34 12 (t 0 3 + 1)) 34 11 = t 0 2 := by rw [upx (by decide), upo (by decide)]; exact e11
      rw [es, oc_s, c_eq_p (by decide) (by decide), if_neg (by decide), if_pos q]
      unfold Trip_putStick_34 Trip_putStick_34_21
      rw [e11', Trip_isPlace_34_eq hw1 p1 (by omega), upx (show (1 : Nat) ≠ 3 by decide), if_pos (by omega), ob_s, c_eq_p (by decide) (by decide), if_neg (by decide), wa_p (by omega), ob_s]
      refine ⟨_, rfl, p1.g6, ?_, ?_, ?_, p2.up (by omega)⟩
      · rw [upo (by decide), p3]
      · rw [upo (by decide), p4]
        show _ = M 50 7 + 0
        omega
      · rw [upo (by decide), p5]
    · rw [if_neg q] at es
      rw [es, oc_s, c_eq_p (by decide) (by decide), if_pos (by decide), if_neg q]
      exact ⟨_, rfl, dark_34 (g := g) hT⟩
  · rw [if_pos q0, if_neg q0]
    exact ⟨M, rfl, none_34 hT h9⟩
