-- paces; a number read
theorem P_isDigit_eq {c : Int} {M : am_M} (hc : am_R c) : P_isDigit c M = some (if 48 ≤ c ∧ c ≤ 57 then 1 else 0) := by
  unfold P_isDigit P_isDigit_16 P_isDigit_17
  by_cases q1 : c < 48
  · simp (disch := omega) only [c_lt_p, c_eq_p, c_ne_p, c_ge_p, c_gt_p, c_le_p, rd_p, wa_p, wz_p, w8_p, fz_p, fw_p, tw_p, ck_p, ob_s, oc_s, if_pos, if_neg, am_upo, up_s, ne_eq, not_true_eq_false, not_false_eq_true, true_or, or_true, true_and, and_true, false_and, and_false, ck_t, reduceIte, Int.tmod_eq_emod_of_nonneg, Int.tdiv_eq_ediv_of_nonneg]
  · by_cases q2 : 57 < c
    · simp (disch := omega) only [c_lt_p, c_eq_p, c_ne_p, c_ge_p, c_gt_p, c_le_p, rd_p, wa_p, wz_p, w8_p, fz_p, fw_p, tw_p, ck_p, ob_s, oc_s, if_pos, if_neg, am_upo, up_s, ne_eq, not_true_eq_false, not_false_eq_true, true_or, or_true, true_and, and_true, false_and, and_false, ck_t, reduceIte, Int.tmod_eq_emod_of_nonneg, Int.tdiv_eq_ediv_of_nonneg]
    · simp (disch := omega) only [c_lt_p, c_eq_p, c_ne_p, c_ge_p, c_gt_p, c_le_p, rd_p, wa_p, wz_p, w8_p, fz_p, fw_p, tw_p, ck_p, ob_s, oc_s, if_pos, if_neg, am_upo, up_s, ne_eq, not_true_eq_false, not_false_eq_true, true_or, or_true, true_and, and_true, false_and, and_false, ck_t, reduceIte, Int.tmod_eq_emod_of_nonneg, Int.tdiv_eq_ediv_of_nonneg]
abbrev dgB (g : am_M) (n p : Int) : Prop := 48 ≤ taS g n p ∧ taS g n p ≤ 57
def heV (v : Int) : Int := if v < 0 then 0 else v
theorem heV_n {v : Int} (h : v < 0) : heV v = 0 := if_pos h
theorem heV_p {v : Int} (h : 0 ≤ v) : heV v = v := if_neg (by omega)
theorem heV_b {v : Int} (h : -1 ≤ v ∧ v < 256) : 0 ≤ heV v ∧ heV v < 256 := by
  unfold heV
  split <;> omega
theorem R_here_eq {g M : am_M} (hG : GR g M) {n p : Int} (h0 : 0 ≤ p) (hn : n ≤ 260) (hn0 : 0 ≤ n) (hp : p ≤ 1000) (e3 : M 73 3 = p) (e4 : M 73 4 = n) : R_here M = some (heV (taS g n p)) := by
  unfold R_here R_here_28
  by_cases q : p < n
  · have e := hG.2.1 p.toNat (by omega)
    have h2 : 0 ≤ g 1 p.toNat := by
      rw [← e, b_and255]
      omega
    have et : taS g n p = g 1 p.toNat := if_pos ⟨h0, q⟩
    rw [et, heV_p h2, c_ge_p (by omega) (by omega), if_neg (by omega), rd_p (by omega), e3, e]
  · have et : taS g n p = -1 := if_neg (by omega)
    rw [et, heV_n (by decide), c_ge_p (by omega) (by omega), if_pos (by omega)]
theorem R_seesDigit_eq {g M : am_M} (hg : WG g) (hG : GR g M) {n p : Int} (h0 : 0 ≤ p) (hn : n ≤ 260) (hn0 : 0 ≤ n) (hp : p ≤ 1000) (e3 : M 73 3 = p) (e4 : M 73 4 = n) : R_seesDigit M = some (if dgB g n p then 1 else 0) := by
  have b := taS_b hg hn p
  unfold R_seesDigit
  rw [R_here_eq hG h0 hn hn0 hp e3 e4]
  by_cases q : taS g n p < 0
  · rw [heV_n q]
    simp (disch := omega) only [c_lt_p, c_eq_p, c_ne_p, c_ge_p, c_gt_p, c_le_p, rd_p, wa_p, wz_p, w8_p, fz_p, fw_p, tw_p, ck_p, ob_s, oc_s, if_pos, if_neg, am_upo, up_s, ne_eq, not_true_eq_false, not_false_eq_true, true_or, or_true, true_and, and_true, false_and, and_false, ck_t, reduceIte, Int.tmod_eq_emod_of_nonneg, Int.tdiv_eq_ediv_of_nonneg, R_lies_eq]
  · rw [heV_p (by omega)]
    by_cases q2 : dgB g n p
    · simp (disch := omega) only [c_lt_p, c_eq_p, c_ne_p, c_ge_p, c_gt_p, c_le_p, rd_p, wa_p, wz_p, w8_p, fz_p, fw_p, tw_p, ck_p, ob_s, oc_s, if_pos, if_neg, am_upo, up_s, ne_eq, not_true_eq_false, not_false_eq_true, true_or, or_true, true_and, and_true, false_and, and_false, ck_t, reduceIte, Int.tmod_eq_emod_of_nonneg, Int.tdiv_eq_ediv_of_nonneg, R_lies_eq]
    · simp (disch := omega) only [c_lt_p, c_eq_p, c_ne_p, c_ge_p, c_gt_p, c_le_p, rd_p, wa_p, wz_p, w8_p, fz_p, fw_p, tw_p, ck_p, ob_s, oc_s, if_pos, if_neg, am_upo, up_s, ne_eq, not_true_eq_false, not_false_eq_true, true_or, or_true, true_and, and_true, false_and, and_false, ck_t, reduceIte, Int.tmod_eq_emod_of_nonneg, Int.tdiv_eq_ediv_of_nonneg, R_lies_eq]
/-- fields that a reader moves: place, bad -/
def NF (M N : am_M) : Prop := (∀ k, k ≠ 73 → N k = M k) ∧ ∀ j, j ≠ 3 → j ≠ 5 → N 73 j = M 73 j
theorem NF.rf {M : am_M} : NF M M := ⟨fun _ _ => rfl, fun _ _ _ => rfl⟩
theorem NF.tr {M N O : am_M} (a : NF M N) (b : NF N O) : NF M O := ⟨fun k h => (b.1 k h).trans (a.1 k h), fun j h1 h2 => (b.2 j h1 h2).trans (a.2 j h1 h2)⟩
theorem NF.up {M N : am_M} {j : Nat} {v : Int} (a : NF M N) (h : j = 3 ∨ j = 5) : NF M (am_up N 73 j v) := ⟨fun k hk => by rw [upo hk]; exact a.1 k hk, fun i h1 h2 => by rw [upx (by omega)]; exact a.2 i h1 h2⟩
theorem GR.nf {g M N : am_M} (h : GR g M) (e : NF M N) : GR g N := by
  unfold GR at h ⊢
  rw [e.2 1 (by decide) (by decide), e.2 42 (by decide) (by decide), e.2 43 (by decide) (by decide), e.2 19 (by decide) (by decide), e.2 66 (by decide) (by decide), e.1 74 (by decide), e.1 75 (by decide), e.1 92 (by decide), e.1 94 (by decide)]
  exact h
theorem TR.nf {t M N : am_M} (h : TR t M) (e : NF M N) : TR t N := by
  unfold TR at h ⊢
  rw [e.2 41 (by decide) (by decide), e.2 46 (by decide) (by decide), e.2 47 (by decide) (by decide), e.2 44 (by decide) (by decide), e.2 45 (by decide) (by decide), e.2 2 (by decide) (by decide), e.1 93 (by decide), e.1 95 (by decide), e.1 96 (by decide), e.1 97 (by decide), e.1 98 (by decide), e.1 99 (by decide), e.1 100 (by decide)]
  exact h
theorem PR.nf {F : FT} {g t u M N : am_M} (h : PR F g t u M) (e : NF M N) : PR F g t u N := ⟨h.1.nf e, h.2.1.nf e, fun q => (h.2.2.1 q).cg (fun k a => e.1 k (by omega)), h.2.2.2.cg (fun k a b => e.1 k (by omega)) (e.2 19 (by decide) (by decide))⟩
def nvS (g : am_M) (n p : Int) : Int := if dgB g n (p + 1) then 10 * (taS g n p - 48) + taS g n (p + 1) - 48 else taS g n p - 48
def npS (g : am_M) (n p : Int) : Int := if dgB g n (p + 1) then p + 2 else p + 1
theorem nvS_b {g : am_M} {n p : Int} (h : dgB g n p) : 0 ≤ nvS g n p ∧ nvS g n p ≤ 99 := by
  unfold nvS
  split <;> omega
theorem npS_b (g : am_M) (n p : Int) : p + 1 ≤ npS g n p ∧ npS g n p ≤ p + 2 := by
  unfold npS
  split <;> omega
theorem R_number_73_eq {M : am_M} {x v : Int} (e5 : M 73 5 = 0) (hv : am_R v) : R_number_73 x v M = some (v, if v = 0 then am_up M 73 5 (-3000 - x) else M) := by
  have e := R_isGood_eq (M := M) (by omega)
  unfold R_number_73 R_number_90
  by_cases q : v = 0
  · simp (disch := omega) only [c_lt_p, c_eq_p, c_ne_p, c_ge_p, c_gt_p, c_le_p, rd_p, wa_p, wz_p, w8_p, fz_p, fw_p, tw_p, ck_p, ob_s, oc_s, if_pos, if_neg, am_upo, up_s, ne_eq, not_true_eq_false, not_false_eq_true, true_or, or_true, true_and, and_true, false_and, and_false, ck_t, reduceIte, Int.tmod_eq_emod_of_nonneg, Int.tdiv_eq_ediv_of_nonneg, e, R_wrongs_eq, e5]
    rfl
  · simp (disch := omega) only [c_lt_p, c_eq_p, c_ne_p, c_ge_p, c_gt_p, c_le_p, rd_p, wa_p, wz_p, w8_p, fz_p, fw_p, tw_p, ck_p, ob_s, oc_s, if_pos, if_neg, am_upo, up_s, ne_eq, not_true_eq_false, not_false_eq_true, true_or, or_true, true_and, and_true, false_and, and_false, ck_t, reduceIte, Int.tmod_eq_emod_of_nonneg, Int.tdiv_eq_ediv_of_nonneg, e]
theorem R_number_eq {g M : am_M} (hg : WG g) (hG : GR g M) {n p : Int} (h0 : 0 ≤ p) (hn : n ≤ 260) (hn0 : 0 ≤ n) (hp : p ≤ 900) (e3 : M 73 3 = p) (e4 : M 73 4 = n) (e5 : M 73 5 = 0) (hd : dgB g n p) : ∃ N, R_number M = some (nvS g n p, N) ∧ NF M N ∧ N 73 3 = npS g n p ∧ N 73 5 = if nvS g n p = 0 then -3000 - p else 0 := by
  have f1 : NF M (am_up M 73 3 (p + 1)) := NF.rf.up (Or.inl rfl)
  have s1 := R_seesDigit_eq hg hG h0 hn hn0 (by omega) e3 e4
  rw [if_pos hd] at s1
  have g1 := R_isGood_eq (M := M) (by omega)
  rw [if_pos e5] at g1
  have t1 := R_here_eq hG h0 hn hn0 (by omega) e3 e4
  rw [heV_p (by omega)] at t1
  have e31 : (am_up M 73 3 (p + 1)) 73 3 = p + 1 := upj
  have e41 : (am_up M 73 3 (p + 1)) 73 4 = n := by rw [upx (by decide)]; exact e4
  have e51 : (am_up M 73 3 (p + 1)) 73 5 = 0 := by rw [upx (by decide)]; exact e5
  have g2 := R_isGood_eq (M := am_up M 73 3 (p + 1)) (by omega)
  rw [if_pos e51] at g2
  have s2 := R_seesDigit_eq hg (hG.nf f1) (p := p + 1) (by omega) hn hn0 (by omega) e31 e41
  have t2 := R_here_eq (hG.nf f1) (p := p + 1) (by omega) hn hn0 (by omega) e31 e41
  have st1 : R_number M = R_number_25 999999 p (taS g n p - 48) 1 (am_up M 73 3 (p + 1)) := by
    unfold R_number R_number_21
    rw [s1, ob_s, c_ne_p (by decide) (by decide), if_pos (by decide), show am_big = 999999 + 1 from rfl, R_number_25, c_ge_p (by decide) (by decide), if_neg (by decide), g1, ob_s, c_eq_p (by decide) (by decide), if_neg (by decide), s1, ob_s, c_eq_p (by decide) (by decide), if_neg (by decide), t1, ob_s, fw_p, e3]
    rw [show (10 : Int) * 0 + taS g n p - 48 = taS g n p - 48 by omega]
    rfl
  by_cases hd2 : dgB g n (p + 1)
  · have hv : nvS g n p = 10 * (taS g n p - 48) + taS g n (p + 1) - 48 := if_pos hd2
    have hq : npS g n p = p + 2 := if_pos hd2
    rw [if_pos hd2] at s2
    rw [heV_p (by omega)] at t2
    have b := nvS_b hd
    have st2 : R_number M = R_number_73 p (nvS g n p) (am_up (am_up M 73 3 (p + 1)) 73 3 (p + 2)) := by
      rw [st1, show 999999 = 999998 + 1 from rfl, R_number_25, c_ge_p (by decide) (by decide), if_neg (by decide), g2, ob_s, c_eq_p (by decide) (by decide), if_neg (by decide), s2, ob_s, c_eq_p (by decide) (by decide), if_neg (by decide), t2, ob_s, fw_p, e31, ← hv, show p + 1 + 1 = p + 2 by omega, show 999998 = 999997 + 1 from rfl, R_number_25, c_ge_p (by decide) (by decide), if_pos (by decide)]
    have e52 : (am_up (am_up M 73 3 (p + 1)) 73 3 (p + 2)) 73 5 = 0 := by rw [upx (by decide)]; exact e51
    rw [st2, R_number_73_eq e52 (by omega)]
    refine ⟨_, rfl, ?_, ?_, ?_⟩
    · split
      · exact (f1.up (Or.inl rfl)).up (Or.inr rfl)
      · exact f1.up (Or.inl rfl)
    · rw [hq]
      split
      · rw [upx (by decide), upj]
      · rw [upj]
    · split
      · rw [upj]
      · exact e52
  · have hv : nvS g n p = taS g n p - 48 := if_neg hd2
    have hq : npS g n p = p + 1 := if_neg hd2
    rw [if_neg hd2] at s2
    have b := nvS_b hd
    have st2 : R_number M = R_number_73 p (nvS g n p) (am_up M 73 3 (p + 1)) := by
      rw [st1, show 999999 = 999998 + 1 from rfl, R_number_25, c_ge_p (by decide) (by decide), if_neg (by decide), g2, ob_s, c_eq_p (by decide) (by decide), if_neg (by decide), s2, ob_s, c_eq_p (by decide) (by decide), if_pos (by decide), ← hv]
    rw [st2, R_number_73_eq e51 (by omega)]
    refine ⟨_, rfl, ?_, ?_, ?_⟩
    · split
      · exact f1.up (Or.inr rfl)
      · exact f1
    · rw [hq]
      split
      · rw [upx (by decide), upj]
      · rw [upj]
    · split
      · rw [upj]
      · exact e51
theorem R_number_no {g M : am_M} (hg : WG g) (hG : GR g M) {n p : Int} (h0 : 0 ≤ p) (hn : n ≤ 260) (hn0 : 0 ≤ n) (hp : p ≤ 900) (e3 : M 73 3 = p) (e4 : M 73 4 = n) (e5 : M 73 5 = 0) (hd : ¬ dgB g n p) : R_number M = some (0, am_up M 73 5 (-1000 - p)) := by
  have s1 := R_seesDigit_eq hg hG h0 hn hn0 (by omega) e3 e4
  rw [if_neg hd] at s1
  have e51 : (am_up M 73 5 (-1000 - p)) 73 5 = -1000 - p := upj
  have g2 := R_isGood_eq (M := am_up M 73 5 (-1000 - p)) (by omega)
  rw [if_neg (by omega)] at g2
  unfold R_number R_number_21
  rw [s1, ob_s, c_ne_p (by decide) (by decide), if_neg (by decide), R_wrongs_eq (by omega) (by omega), ob_s, if_neg (by omega), e3, show (-1000 : Int) * 1 - p = -1000 - p by omega, show am_big = 999999 + 1 from rfl, R_number_25, c_ge_p (by decide) (by decide), if_neg (by decide), g2, ob_s, c_eq_p (by decide) (by decide), if_pos (by decide)]
  unfold R_number_73 R_number_90
  rw [g2, ob_s, c_eq_p (by decide) (by decide), if_pos (by decide)]
def teS (y r f a b : Int) : Int := if y = 0 then r - a else if y = 1 then r + a else if y = 2 then f - b else if y = 3 then f + b else (2 * a + 1) * (2 * b + 1)
def lgS (g : am_M) (n o y : Int) : Nat → Int → Int → Int → Int → Int → Int
  | 0, _, r, f, a, b => teS y r f a b
  | k + 1, p, r, f, a, b => if taS g n p = -1 then teS y r f a b else if ¬ dgB g n p then -1000 - p else if k = 0 then -4000 - p else if nvS g n p = 0 then -3000 - p else if taS g n (npS g n p) = 108 then lgS g n o y k (npS g n p + 1) (r - nvS g n p) f (a + nvS g n p / o) b else if taS g n (npS g n p) = 114 then lgS g n o y k (npS g n p + 1) (r + nvS g n p) f (a + nvS g n p / o) b else if taS g n (npS g n p) = 102 then lgS g n o y k (npS g n p + 1) r (f + nvS g n p) a (b + nvS g n p / o) else if taS g n (npS g n p) = 98 then lgS g n o y k (npS g n p + 1) r (f - nvS g n p) a (b + nvS g n p / o) else -1000 - npS g n p
theorem teS_b {y r f a b : Int} (hr : -900 ≤ r ∧ r ≤ 900) (hf : -900 ≤ f ∧ f ≤ 900) (ha : 0 ≤ a ∧ a ≤ 900) (hb : 0 ≤ b ∧ b ≤ 900) : am_R (teS y r f a b) := by
  have h1 : (2 * a + 1) * (2 * b + 1) ≤ 1801 * 1801 := Int.mul_le_mul (by omega) (by omega) (by omega) (by omega)
  have h2 : 0 ≤ (2 * a + 1) * (2 * b + 1) := Int.mul_nonneg (by omega) (by omega)
  unfold teS
  repeat' split
  all_goals omega
theorem dv_b {v o : Int} (h0 : 0 ≤ v) (h1 : 1 ≤ o) : 0 ≤ v / o ∧ v / o ≤ v := ⟨Int.ediv_nonneg h0 (by omega), Int.ediv_le_self o h0⟩
theorem lgS_b {g : am_M} {n o y : Int} (ho : 1 ≤ o) : ∀ (k : Nat) (p r f a b : Int), k ≤ 9 → (-99 * (9 - k) ≤ r ∧ r ≤ 99 * (9 - k)) → (-99 * (9 - k) ≤ f ∧ f ≤ 99 * (9 - k)) → (0 ≤ a ∧ a ≤ 99 * (9 - k)) → (0 ≤ b ∧ b ≤ 99 * (9 - k)) → 0 ≤ p → p ≤ 3 * (9 - k) → am_R (lgS g n o y k p r f a b)
  | 0, p, r, f, a, b, hk, hr, hf, ha, hb, hp, hp2 => teS_b (by omega) (by omega) (by omega) (by omega)
  | k + 1, p, r, f, a, b, hk, hr, hf, ha, hb, hp, hp2 => by
    have h1 := teS_b (y := y) (r := r) (f := f) (a := a) (b := b) (by omega) (by omega) (by omega) (by omega)
    have h3 := npS_b g n p
    unfold lgS
    by_cases q1 : taS g n p = -1
    · rw [if_pos q1]
      exact h1
    rw [if_neg q1]
    by_cases q2 : dgB g n p
    · have h2 := nvS_b q2
      have h4 := dv_b (v := nvS g n p) h2.1 ho
      rw [if_neg (fun h => h q2)]
      repeat' split
      · omega
      · omega
      · exact lgS_b ho k _ _ _ _ _ (by omega) (by omega) (by omega) (by omega) (by omega) (by omega) (by omega)
      · exact lgS_b ho k _ _ _ _ _ (by omega) (by omega) (by omega) (by omega) (by omega) (by omega) (by omega)
      · exact lgS_b ho k _ _ _ _ _ (by omega) (by omega) (by omega) (by omega) (by omega) (by omega) (by omega)
      · exact lgS_b ho k _ _ _ _ _ (by omega) (by omega) (by omega) (by omega) (by omega) (by omega) (by omega)
      · omega
    · rw [if_pos q2]
      omega
