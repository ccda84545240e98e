-- days
def gaS (F : FT) (g t : am_M) (p : Int) : Int := F 103 20 (E7 (kdS g t p) (wiS t p) 0 0 (grS t p) 0 (t 0 4))
theorem gaS_b {F : FT} (hF : FO F) (g t : am_M) (p : Int) : 0 ≤ gaS F g t p ∧ gaS F g t p ≤ 20 := hF.1 _ _ _ (by decide)
/-- what the class noted of the law's answers -/
def CI (F : FT) (dy dp : Int) (M : am_M) : Prop := ∀ i : Nat, i < 2800 → (0 ≤ M 69 i ∧ M 69 i < 32 * (dp + 1)) ∧ (M 69 i / 32 = dp → ∀ kd w q : Int, 0 ≤ kd ∧ kd ≤ 6 → 1 ≤ w ∧ w ≤ 4 → 0 ≤ q ∧ q ≤ 99 → (i : Int) = (kd * 4 + w - 1) * 100 + q → M 69 i % 32 = F 103 20 (E7 kd w 0 0 q 0 dy))
def YF (M N : am_M) : Prop := ∀ k, k ≠ 12 → k ≠ 13 → (k < 26 ∨ 33 < k) → (k < 68 ∨ 69 < k) → N k = M k
theorem YF.rf {M : am_M} : YF M M := fun _ _ _ _ _ => rfl
theorem YF.tr {M N O : am_M} (a : YF M N) (b : YF N O) : YF M O := fun k h1 h2 h3 h4 => (b k h1 h2 h3 h4).trans (a k h1 h2 h3 h4)
theorem LF.yf {M N : am_M} (a : LF M N) : YF M N := fun k h1 h2 _ _ => a k h1 h2
theorem YF.up {M N : am_M} {k j : Nat} {v : Int} (a : YF M N) (h : (26 ≤ k ∧ k ≤ 33) ∨ (68 ≤ k ∧ k ≤ 69)) : YF M (am_up N k j v) := fun c h1 h2 h3 h4 => by
  rw [upo (by omega)]
  exact a c h1 h2 h3 h4
theorem GP.yf {g M N : am_M} (h : GP g M) (e : YF M N) : GP g N := by
  unfold GP at h ⊢
  rw [e 0 (by decide) (by decide) (by decide) (by decide), e 1 (by decide) (by decide) (by decide) (by decide), e 2 (by decide) (by decide) (by decide) (by decide), e 4 (by decide) (by decide) (by decide) (by decide), e 5 (by decide) (by decide) (by decide) (by decide), e 14 (by decide) (by decide) (by decide) (by decide), e 15 (by decide) (by decide) (by decide) (by decide)]
  exact h
theorem LWP.yf {F : FT} {M N : am_M} (h : LWP F M) (e : YF M N) : LWP F N := h.cg (fun k _ c => e k (by omega) (by omega) (by omega) (by omega))
theorem gain_eq {F : FT} {g t M : am_M} {dp : Int} (hF : FO F) (hL : LWP F M) (hg : WG g) (hw : WT t) (hG : GP g M) (hT : TP 26 t M) (hc : CI F (t 0 4) dp M) (hd : M 68 3 = dp) (hd0 : 0 ≤ dp ∧ dp ≤ 40000) {p : Int} (h0 : 0 ≤ p) (h1 : p < t 0 1) : ∃ N, Overgrowth_gainOf_68_26 p M = some (gaS F g t p, N) ∧ CI F (t 0 4) dp N ∧ (∀ k, k ≠ 12 → k ≠ 13 → k ≠ 69 → N k = M k) := by
  have hl := hw.1
  have b1 := kdS_b hg hw p
  have b2 := (hw.at h0 h1).2.1
  have e2 : wiS t p = t 3 p.toNat := if_pos ⟨h0, h1⟩
  have b3 := grS_b hw p
  have e13 : M 26 13 = t 0 4 := hT.1.2.2.2.2.1
  obtain ⟨i, hi⟩ : ∃ i : Int, i = ((kdS g t p * 4 + wiS t p) - 1) * 100 + grS t p := ⟨_, rfl⟩
  have hi0 : 0 ≤ i ∧ i < 2800 := by omega
  have hci := hc i.toNat (by omega)
  have hin : ((i.toNat : Nat) : Int) = (kdS g t p * 4 + wiS t p - 1) * 100 + grS t p := by omega
  have bg := gaS_b hF g t p
  unfold Overgrowth_gainOf_68_26
  rw [Trip_kindAt_26_eq hw hG hT (by omega), ob_s, Trip_widthAt_26_eq hw hT (by omega), ob_s, Trip_grownAt_26_eq hw hT (by omega), ob_s, ← hi, c_lt_p (by omega) (by omega), if_neg (by omega), c_lt_p (by omega) (by omega), if_pos (by omega), rd_p (by omega), ck_p (by omega), tw_p, hd, Int.tdiv_eq_ediv_of_nonneg (by omega), c_eq_p (by omega) (by omega)]
  unfold Overgrowth_gainOf_68_26_99
  by_cases q : M 69 i.toNat / 32 = dp
  · refine ⟨M, ?_, hc, fun _ _ _ _ => rfl⟩
    rw [if_pos q, rd_p (by omega), ck_p (by omega), tw_p, Int.tmod_eq_emod_of_nonneg (by omega), hci.2 q _ _ _ b1 (by omega) b3 hin]
    rfl
  · obtain ⟨N, a1, a2⟩ := Law_growing_eq (k := kdS g t p) (w := wiS t p) (q := grS t p) (y := t 0 4) hF hL (by omega) (by omega) (by omega) (by omega)
    have a3 : F 103 20 (E7 (kdS g t p) (wiS t p) 0 0 (grS t p) 0 (t 0 4)) = gaS F g t p := rfl
    rw [a3] at a1
    refine ⟨am_up N 69 i.toNat (32 * dp + gaS F g t p), ?_, ?_, fun k h1 h2 h3 => by rw [upo h3]; exact a2 k h1 h2⟩
    · rw [if_neg q, e13, a1, oc_s, wa_p (by omega), rd_p (by omega), upj, ck_p (by omega), tw_p, Int.tmod_eq_emod_of_nonneg (by omega)]
      congr 2
      omega
    · intro j hj
      by_cases qj : j = i.toNat
      · subst qj
        rw [upj]
        refine ⟨by omega, fun _ kd w z hk hw' hz hjj => ?_⟩
        have e1 : kd = kdS g t p ∧ w = wiS t p ∧ z = grS t p := by omega
        rw [e1.1, e1.2.1, e1.2.2]
        rw [a3]
        omega
      · rw [upx qj, a2 69 (by decide) (by decide)]
        exact hc j hj
theorem WT.g4 {t : am_M} {p : Nat} {v : Int} (h : WT t) (hv : 0 ≤ v ∧ v ≤ 99) : WT (am_up t 4 p v) := by
  unfold WT at h ⊢
  simp (disch := omega) only [c_lt_p, c_eq_p, c_ne_p, c_ge_p, c_gt_p, c_le_p, rd_p, wa_p, wz_p, w8_p, fz_p, fw_p, tw_p, ck_p, ob_s, oc_s, if_pos, if_neg, am_upo, up_s, ne_eq, not_true_eq_false, not_false_eq_true, true_or, or_true, true_and, and_true, false_and, and_false, ck_t, reduceIte, Int.tmod_eq_emod_of_nonneg, Int.tdiv_eq_ediv_of_nonneg]
  refine ⟨h.1, fun q hq => ?_, h.2.2⟩
  have := h.2.1 q hq
  by_cases e : q = p
  · rw [if_pos e]
    omega
  · rw [if_neg e]
    exact this
theorem TP.g4 {b p : Nat} {t M : am_M} {v : Int} (h : TP b t M) : TP b (am_up t 4 p v) (am_up M (b + 4) p v) := by
  unfold TP onB at h ⊢
  simp (disch := omega) only [c_lt_p, c_eq_p, c_ne_p, c_ge_p, c_gt_p, c_le_p, rd_p, wa_p, wz_p, w8_p, fz_p, fw_p, tw_p, ck_p, ob_s, oc_s, if_pos, if_neg, am_upo, up_s, ne_eq, not_true_eq_false, not_false_eq_true, true_or, or_true, true_and, and_true, false_and, and_false, ck_t, reduceIte, Int.tmod_eq_emod_of_nonneg, Int.tdiv_eq_ediv_of_nonneg]
  refine ⟨h.1, fun q hq => ?_, h.2.2⟩
  have := h.2.1 q hq
  by_cases e : q = p
  · rw [if_pos e, if_pos e]
    exact ⟨this.1, this.2.1, rfl, this.2.2.2⟩
  · rw [if_neg e, if_neg e]
    exact this
theorem TR.g4 {p : Nat} {t M : am_M} {v : Int} (h : TR t M) : TR (am_up t 4 p v) (am_up M 97 p v) := by
  unfold TR onB at h ⊢
  simp (disch := omega) only [c_lt_p, c_eq_p, c_ne_p, c_ge_p, c_gt_p, c_le_p, rd_p, wa_p, wz_p, w8_p, fz_p, fw_p, tw_p, ck_p, ob_s, oc_s, if_pos, if_neg, am_upo, up_s, ne_eq, not_true_eq_false, not_false_eq_true, true_or, or_true, true_and, and_true, false_and, and_false, ck_t, reduceIte, Int.tmod_eq_emod_of_nonneg, Int.tdiv_eq_ediv_of_nonneg]
  refine ⟨h.1, fun q hq => ?_, h.2.2⟩
  have := h.2.1 q hq
  by_cases e : q = p
  · rw [if_pos e, if_pos e]
    exact ⟨this.1, this.2.1, rfl, this.2.2.2⟩
  · rw [if_neg e, if_neg e]
    exact this
def rsT (t : am_M) : am_M := fun k j => if k = 1 then 0 else t k j
theorem rsT_o {t : am_M} {k : Nat} (h : k ≠ 1) : rsT t k = t k := by
  funext j
  unfold rsT
  rw [if_neg h]
theorem rsT_1 {t : am_M} {j : Nat} : rsT t 1 j = 0 := rfl
theorem WT.rs {t : am_M} (h : WT t) : WT (rsT t) := by
  unfold WT at h ⊢
  rw [rsT_o (show (0 : Nat) ≠ 1 by decide), rsT_o (show (2 : Nat) ≠ 1 by decide), rsT_o (show (3 : Nat) ≠ 1 by decide), rsT_o (show (4 : Nat) ≠ 1 by decide), rsT_o (show (5 : Nat) ≠ 1 by decide), rsT_o (show (6 : Nat) ≠ 1 by decide)]
  exact ⟨h.1, h.2.1, fun p hp => by rw [rsT_1]; omega, h.2.2.2⟩
theorem rs_on {t : am_M} : onB (rsT t) = onB t := rfl
theorem TP.rs {b : Nat} {t M N : am_M} (h : TP b t M) (e : ∀ k, k ≠ b + 1 → N k = M k) (e1 : ∀ p : Nat, p < 6 → N (b + 1) p = 0) : TP b (rsT t) N := by
  unfold TP at h ⊢
  rw [rs_on, rsT_o (show (0 : Nat) ≠ 1 by decide), rsT_o (show (2 : Nat) ≠ 1 by decide), rsT_o (show (3 : Nat) ≠ 1 by decide), rsT_o (show (4 : Nat) ≠ 1 by decide), rsT_o (show (5 : Nat) ≠ 1 by decide), rsT_o (show (6 : Nat) ≠ 1 by decide), e b (by omega), e (b + 2) (by omega), e (b + 3) (by omega), e (b + 4) (by omega), e (b + 5) (by omega), e (b + 6) (by omega), e (b + 7) (by omega)]
  exact ⟨h.1, h.2.1, fun p hp => by rw [e1 p hp, rsT_1], h.2.2.2⟩
theorem TR.rs {t M N : am_M} (h : TR t M) (e : ∀ k, k ≠ 93 → N k = M k) (e1 : ∀ p : Nat, p < 6 → N 93 p = 0) : TR (rsT t) N := by
  unfold TR at h ⊢
  rw [rs_on, rsT_o (show (0 : Nat) ≠ 1 by decide), rsT_o (show (2 : Nat) ≠ 1 by decide), rsT_o (show (3 : Nat) ≠ 1 by decide), rsT_o (show (4 : Nat) ≠ 1 by decide), rsT_o (show (5 : Nat) ≠ 1 by decide), rsT_o (show (6 : Nat) ≠ 1 by decide), e 73 (by decide), e 95 (by decide), e 96 (by decide), e 97 (by decide), e 98 (by decide), e 99 (by decide), e 100 (by decide)]
  exact ⟨h.1, h.2.1, fun p hp => by rw [e1 p hp, rsT_1], h.2.2.2⟩
theorem fill27 : ∀ (k n : Nat) (i : Int) (M : am_M), i + k = 6 → 0 ≤ i → k < n → (∀ j : Nat, (j : Int) < i → M 27 j = 0) → ∃ M1, J_fill_27_5 n 0 i 6 M = some M1 ∧ (∀ k, k ≠ 27 → M1 k = M k) ∧ ∀ j : Nat, j < 6 → M1 27 j = 0
  | 0, n + 1, i, M, e, h0, hn, hj => by
    refine ⟨M, ?_, fun _ _ => rfl, fun j h => hj j (by omega)⟩
    unfold J_fill_27_5
    simp (disch := omega) only [c_lt_p, c_eq_p, c_ne_p, c_ge_p, c_gt_p, c_le_p, rd_p, wa_p, wz_p, w8_p, fz_p, fw_p, tw_p, ck_p, ob_s, oc_s, if_pos, if_neg, am_upo, up_s, ne_eq, not_true_eq_false, not_false_eq_true, true_or, or_true, true_and, and_true, false_and, and_false, ck_t, reduceIte, Int.tmod_eq_emod_of_nonneg, Int.tdiv_eq_ediv_of_nonneg]
  | k + 1, n + 1, i, M, e, h0, hn, hj => by
    obtain ⟨M1, h1, h2, h3⟩ := fill27 k n (i + 1) (am_up M 27 i.toNat 0) (by omega) (by omega) (by omega) (fun j h => by
      by_cases q : j = i.toNat
      · rw [q, upj]
      · rw [upx q]
        exact hj j (by omega))
    refine ⟨M1, ?_, fun k hk => by rw [h2 k hk, upo hk], h3⟩
    unfold J_fill_27_5
    simp (disch := omega) only [c_lt_p, c_eq_p, c_ne_p, c_ge_p, c_gt_p, c_le_p, rd_p, wa_p, wz_p, w8_p, fz_p, fw_p, tw_p, ck_p, ob_s, oc_s, if_pos, if_neg, am_upo, up_s, ne_eq, not_true_eq_false, not_false_eq_true, true_or, or_true, true_and, and_true, false_and, and_false, ck_t, reduceIte, Int.tmod_eq_emod_of_nonneg, Int.tdiv_eq_ediv_of_nonneg]
    exact h1
theorem restAll_eq {M : am_M} : ∃ M1, Trip_restAll_26 M = some M1 ∧ (∀ k, k ≠ 27 → M1 k = M k) ∧ ∀ j : Nat, j < 6 → M1 27 j = 0 := by
  obtain ⟨M1, h1, h2, h3⟩ := fill27 6 am_big 0 M (by omega) (by omega) (by decide) (fun j h => by omega)
  refine ⟨M1, ?_, h2, h3⟩
  have h1' : J_fill_27 0 M = some M1 := h1
  unfold Trip_restAll_26
  rw [h1', ob_s]
/-- a place's growth in a day -/
def d1T (F : FT) (g t : am_M) (p : Int) : am_M := am_up t 4 p.toNat (hd9 (t 4 p.toNat + gaS F g t p))
def dyP (F : FT) (g : am_M) : Nat → Int → am_M → am_M
  | 0, _, t => t
  | k + 1, p, t => dyP F g k (p + 1) (d1T F g t p)
def dsP (F : FT) (g : am_M) : Nat → Int → am_M → Int
  | 0, _, _ => 0
  | k + 1, p, t => (hd9 (t 4 p.toNat + gaS F g t p) - t 4 p.toNat) + dsP F g k (p + 1) (d1T F g t p)
def dyE (t : am_M) : am_M := am_up (am_up (rsT t) 0 3 0) 0 4 (t 0 4 + 1)
theorem d1T_W {F : FT} (hF : FO F) {g t : am_M} (h : WT t) {p : Int} (h0 : 0 ≤ p) (h1 : p < t 0 1) : WT (d1T F g t p) := by
  have a := (h.at h0 h1).2.2.1
  have b := gaS_b hF g t p
  exact h.g4 (hd9_b (by omega))
theorem d1T_0 {F : FT} {g t : am_M} {p : Int} {j : Nat} : (d1T F g t p) 0 j = t 0 j := by
  unfold d1T
  rw [upo (by decide)]
theorem dyP_W {F : FT} (hF : FO F) {g : am_M} : ∀ (k : Nat) (p : Int) (t : am_M), WT t → 0 ≤ p → p + k ≤ t 0 1 → WT (dyP F g k p t) ∧ (∀ j, (dyP F g k p t) 0 j = t 0 j) ∧ 0 ≤ dsP F g k p t ∧ dsP F g k p t ≤ 20 * k
  | 0, p, t, h, h0, h1 => ⟨h, fun _ => rfl, by unfold dsP; omega, by unfold dsP; omega⟩
  | k + 1, p, t, h, h0, h1 => by
    have a := (h.at h0 (by omega)).2.2.1
    have b := gaS_b hF g t p
    obtain ⟨c1, c2, c3, c4⟩ := dyP_W hF (g := g) k (p + 1) (d1T F g t p) (d1T_W hF h h0 (by omega)) (by omega) (by rw [d1T_0]; omega)
    refine ⟨c1, fun j => by unfold dyP; rw [c2 j, d1T_0], ?_, ?_⟩
    · unfold dsP hd9
      split <;> omega
    · unfold dsP hd9
      split <;> omega
theorem pd_lp {F : FT} {g : am_M} {k5 : Int → Int → Int → am_M → Option (Int × am_M)} {dp x2 x4 : Int} (hF : FO F) (hg : WG g) (hd0 : 0 ≤ dp ∧ dp ≤ 40000) : ∀ (k n : Nat) (p s : Int) (t M : am_M), p + k = t 0 1 → 0 ≤ p → k < n → WT t → GP g M → TP 26 t M → LWP F M → CI F (t 0 4) dp M → M 68 3 = dp → ∃ N, Overgrowth_passDays_68_26_34 k5 n x2 s x4 p M = k5 x2 (s + dsP F g k p t) (x4 + 1) N ∧ TP 26 (dyE (dyP F g k p t)) N ∧ CI F (t 0 4) dp N ∧ N 68 3 = dp ∧ YF M N
  | 0, n + 1, p, s, t, M, e, h0, hn, hw, hG, hT, hL, hc, h68 => by
    have hl := hw.1
    have e10 : M 26 10 = t 0 1 := hT.1.2.1
    obtain ⟨M1, a1, a2, a3⟩ := restAll_eq (M := am_up M 26 12 0)
    have e13 : M1 26 13 = t 0 4 := by rw [a2 26 (by decide), upx (by decide)]; exact hT.1.2.2.2.2.1
    have hT1 : TP 26 (am_up (rsT t) 0 3 0) M1 := by
      have := (hT.h3 (v := 0)).rs (N := M1) (fun k hk => a2 k hk) a3
      have e : rsT (am_up t 0 3 0) = am_up (rsT t) 0 3 0 := by
        funext k j
        unfold rsT am_up
        by_cases q : k = 1
        · subst q
          simp
        · simp [q]
      rw [← e]
      exact this
    refine ⟨am_up M1 26 13 (t 0 4 + 1), ?_, hT1.h4, ?_, ?_, ?_⟩
    · unfold Overgrowth_passDays_68_26_34 dsP
      rw [c_ge_p (by omega) (by omega), if_pos (by omega), fw_p, a1, ob_s, fw_p, e13, Int.add_zero]
    · unfold CI at hc ⊢
      rw [upo (by decide), a2 69 (by decide), upo (by decide)]
      exact hc
    · rw [upo (by decide), a2 68 (by decide), upo (by decide)]
      exact h68
    · exact YF.tr ((YF.rf.up (by decide)).tr (fun k h1 h2 h3 h4 => a2 k (by omega))) (YF.rf.up (by decide))
  | k + 1, n + 1, p, s, t, M, e, h0, hn, hw, hG, hT, hL, hc, h68 => by
    have hl := hw.1
    have e10 : M 26 10 = t 0 1 := hT.1.2.1
    have a := (hw.at h0 (by omega)).2.2.1
    have b := gaS_b hF g t p
    have eg : grS t p = t 4 p.toNat := if_pos ⟨h0, by omega⟩
    obtain ⟨N1, a1, a2, a3⟩ := gain_eq hF hL hg hw hG hT hc h68 hd0 h0 (by omega)
    have f1 : YF M N1 := fun k h1 h2 h3 h4 => a3 k h1 h2 (by omega)
    have hT1 : TP 26 t N1 := hT.cg (fun k h1 h2 => a3 k (by omega) (by omega) (by omega))
    have f2 : YF M (am_up N1 30 p.toNat (hd9 (t 4 p.toNat + gaS F g t p))) := f1.up (by decide)
    obtain ⟨N2, b1, b2, b3, b4, b5⟩ := pd_lp (k5 := k5) (x2 := x2) (x4 := x4) hF hg hd0 k n (p + 1) (s + (hd9 (t 4 p.toNat + gaS F g t p) - t 4 p.toNat)) (d1T F g t p) (am_up N1 30 p.toNat (hd9 (t 4 p.toNat + gaS F g t p))) (by rw [d1T_0]; omega) (by omega) (by omega) (d1T_W hF hw h0 (by omega)) (hG.yf f2) hT1.g4 (hL.yf f2) (by rw [d1T_0]; unfold CI at a2 ⊢; rw [upo (by decide)]; exact a2) (by rw [upo (by decide), a3 68 (by decide) (by decide) (by decide)]; exact h68)
    rw [d1T_0] at b3
    refine ⟨N2, ?_, b2, b3, b4, f2.tr b5⟩
    have es : Trip_setGrown_26 p (hd9 (t 4 p.toNat + gaS F g t p)) N1 = some (am_up N1 30 p.toNat (hd9 (t 4 p.toNat + gaS F g t p))) := by
      unfold Trip_setGrown_26 Trip_setGrown_26_15
      rw [Trip_isPlace_26_eq hw hT1 (by omega), if_pos ⟨h0, by omega⟩, ob_s, c_eq_p (by decide) (by decide), if_neg (by decide), wa_p (by omega)]
    rw [Overgrowth_passDays_68_26_34, c_ge_p (by omega) (by omega), if_neg (by omega), Trip_grownAt_26_eq hw hT (by omega), ob_s, a1, oc_s, eg, J_min_99 (by omega), ob_s, es, ob_s, b1]
    rw [Int.add_assoc]
    rfl
def ddT (F : FT) (g : am_M) : Nat → Int → am_M → Int × am_M
  | 0, s, t => (s, t)
  | k + 1, s, t => if 9999 ≤ t 0 4 then (s, t) else ddT F g k (s + dsP F g (t 0 1).toNat 0 t) (dyE (dyP F g (t 0 1).toNat 0 t))
theorem dyE_W {t : am_M} (h : WT t) (hd : t 0 4 < 9999) : WT (dyE t) := by
  have hl := h.1
  exact ((h.rs).h3 (by decide)).h4 (by omega)
theorem dyE_0 {t : am_M} {j : Nat} (h : j ≠ 3) (h4 : j ≠ 4) : (dyE t) 0 j = t 0 j := by
  unfold dyE
  rw [upx h4, upx h, rsT_o (by decide)]
theorem ddT_W {F : FT} (hF : FO F) {g : am_M} : ∀ (k : Nat) (s : Int) (t : am_M), WT t → 0 ≤ s → WT (ddT F g k s t).2 ∧ (ddT F g k s t).2 0 0 = t 0 0 ∧ s ≤ (ddT F g k s t).1 ∧ (ddT F g k s t).1 ≤ s + 2000 * k
  | 0, s, t, h, hs => ⟨h, rfl, by unfold ddT; omega, by unfold ddT; omega⟩
  | k + 1, s, t, h, hs => by
    have hl := h.1
    unfold ddT
    split
    · exact ⟨h, rfl, by omega, by omega⟩
    · obtain ⟨a1, a2, a3, a4⟩ := dyP_W hF (g := g) (t 0 1).toNat 0 t h (by omega) (by omega)
      obtain ⟨b1, b2, b3, b4⟩ := ddT_W hF (g := g) k (s + dsP F g (t 0 1).toNat 0 t) (dyE (dyP F g (t 0 1).toNat 0 t)) (dyE_W a1 (by rw [a2]; omega)) (by omega)
      exact ⟨b1, by rw [b2, dyE_0 (by decide) (by decide), a2], by omega, by omega⟩
theorem days_lp {F : FT} {g : am_M} {x : Int} (hF : FO F) (hg : WG g) (hx : 1 ≤ x ∧ x ≤ 60) : ∀ (k n : Nat) (i s dp : Int) (t M : am_M), i + k = x → 0 ≤ i → k < n → WT t → GP g M → TP 26 t M → LWP F M → (∀ i : Nat, i < 2800 → 0 ≤ M 69 i ∧ M 69 i < 32 * (dp + 1)) → M 68 3 = dp → 0 ≤ dp ∧ dp + k ≤ 40000 → ∃ N, Overgrowth_passDays_68_26_5 n x s i M = some ((ddT F g k s t).1, N) ∧ TP 26 (ddT F g k s t).2 N ∧ (∀ i : Nat, i < 2800 → 0 ≤ N 69 i ∧ N 69 i < 32 * (N 68 3 + 1)) ∧ (dp ≤ N 68 3 ∧ N 68 3 ≤ dp + k) ∧ YF M N
  | 0, n + 1, i, s, dp, t, M, e, h0, hn, hw, hG, hT, hL, hc, h68, hd => by
    refine ⟨M, ?_, hT, by rw [h68]; exact hc, by omega, YF.rf⟩
    unfold Overgrowth_passDays_68_26_5 Overgrowth_passDays_68_26_115 ddT
    rw [c_ge_p (by omega) (by omega), if_pos (by omega)]
  | k + 1, n + 1, i, s, dp, t, M, e, h0, hn, hw, hG, hT, hL, hc, h68, hd => by
    have hl := hw.1
    have e13 : M 26 13 = t 0 4 := hT.1.2.2.2.2.1
    unfold Overgrowth_passDays_68_26_5 Overgrowth_passDays_68_26_115 ddT
    rw [c_ge_p (by omega) (by omega), if_neg (by omega), e13, c_ge_p (by omega) (by omega)]
    by_cases q : 9999 ≤ t 0 4
    · rw [if_pos q, if_pos q]
      exact ⟨M, rfl, hT, by rw [h68]; exact hc, by omega, YF.rf⟩
    · rw [if_neg q, if_neg q, fw_p, h68]
      have f0 : YF M (am_up M 68 3 (dp + 1)) := YF.rf.up (by decide)
      obtain ⟨N1, a1, a2, a3, a4, a5⟩ := pd_lp (k5 := Overgrowth_passDays_68_26_5 n) (x2 := x) (x4 := i) (dp := dp + 1) hF hg (by omega) (t 0 1).toNat am_big 0 s t (am_up M 68 3 (dp + 1)) (by omega) (by omega) (by show _ < 1000000; omega) hw (hG.yf f0) (hT.cg (fun k h1 h2 => upo (by omega))) (hL.yf f0) (by
        intro j hj
        rw [upo (by decide)]
        have := hc j hj
        exact ⟨by omega, fun z => by omega⟩) upj
      obtain ⟨c1, c2, c3, c4⟩ := dyP_W hF (g := g) (t 0 1).toNat 0 t hw (by omega) (by omega)
      have f1 := f0.tr a5
      obtain ⟨N2, b1, b2, b3, b4, b5⟩ := days_lp hF hg hx k n (i + 1) (s + dsP F g (t 0 1).toNat 0 t) (dp + 1) (dyE (dyP F g (t 0 1).toNat 0 t)) N1 (by omega) (by omega) (by omega) (dyE_W c1 (by rw [c2]; omega)) (hG.yf f1) a2 (hL.yf f1) (fun j hj => (a3 j hj).1) a4 (by omega)
      exact ⟨N2, by rw [a1, b1], b2, b3, by omega, f1.tr b5⟩
-- the reference
theorem Rd_120 {k18 : Int → Int → Int → am_M → Option (Int × am_M)} {x1 x2 x3 : Int} : ∀ (k n : Nat) (i : Int) (t M : am_M), i + k = 6 → 0 ≤ i → k < n → WT t → TR (am_up t 0 3 (M 73 44)) M → (∀ j : Nat, (j : Int) < i → M 93 j = 0) → ∃ N, R_days_120 k18 n x1 x2 x3 i M = k18 x1 x2 (x3 + 1) N ∧ TR (dyE t) N ∧ RF M N
  | 0, n + 1, i, t, M, e, h0, hn, hw, hT, hj => by
    have e45 : M 73 45 = t 0 4 := by rw [hT.1.2.2.2.2.1, upx (by decide)]
    refine ⟨am_up (am_up M 73 44 0) 73 45 (t 0 4 + 1), ?_, ?_, (RF.rf.up (by decide)).up (by decide)⟩
    · unfold R_days_120
      rw [c_ge_p (by omega) (by omega), if_pos (by omega), fw_p, fw_p, upx (by decide), e45]
    · have h1 := hT.rs (N := M) (fun _ _ => rfl) (fun p hp => hj p (by omega))
      have h2 := (h1.h3 (v := 0)).h4 (v := t 0 4 + 1)
      have e : am_up (am_up (rsT (am_up t 0 3 (M 73 44))) 0 3 0) 0 4 (t 0 4 + 1) = dyE t := by
        unfold dyE
        funext k j
        unfold rsT am_up
        by_cases q0 : k = 0
        · subst q0
          by_cases q3 : j = 3
          · subst q3
            simp
          · simp [q3]
        · simp [q0]
      rw [← e]
      exact h2
  | k + 1, n + 1, i, t, M, e, h0, hn, hw, hT, hj => by
    have e44 : (am_up M 93 i.toNat 0) 73 44 = M 73 44 := by rw [upo (by decide)]
    obtain ⟨N, a1, a2, a3⟩ := Rd_120 (k18 := k18) (x1 := x1) (x2 := x2) (x3 := x3) k n (i + 1) (am_up t 1 i.toNat 0) (am_up M 93 i.toNat 0) (by omega) (by omega) (by omega) (by
      unfold WT at hw ⊢
      simp (disch := omega) only [c_lt_p, c_eq_p, c_ne_p, c_ge_p, c_gt_p, c_le_p, rd_p, wa_p, wz_p, w8_p, fz_p, fw_p, tw_p, ck_p, ob_s, oc_s, if_pos, if_neg, am_upo, up_s, ne_eq, not_true_eq_false, not_false_eq_true, true_or, or_true, true_and, and_true, false_and, and_false, ck_t, reduceIte, Int.tmod_eq_emod_of_nonneg, Int.tdiv_eq_ediv_of_nonneg]
      refine ⟨hw.1, hw.2.1, fun p hp => ?_, hw.2.2.2⟩
      have := hw.2.2.1 p hp
      split <;> omega) (by
      rw [e44]
      unfold TR onB at hT ⊢
      revert hT
      simp (disch := omega) only [c_lt_p, c_eq_p, c_ne_p, c_ge_p, c_gt_p, c_le_p, rd_p, wa_p, wz_p, w8_p, fz_p, fw_p, tw_p, ck_p, ob_s, oc_s, if_pos, if_neg, am_upo, up_s, ne_eq, not_true_eq_false, not_false_eq_true, true_or, or_true, true_and, and_true, false_and, and_false, ck_t, reduceIte, Int.tmod_eq_emod_of_nonneg, Int.tdiv_eq_ediv_of_nonneg]
      intro hT
      refine ⟨hT.1, hT.2.1, fun p hp => ?_, hT.2.2.2⟩
      have := hT.2.2.1 p hp
      split
      · rfl
      · exact this) (fun j h => by
      by_cases q : j = i.toNat
      · rw [q, upj]
      · rw [upx q]
        exact hj j (by omega))
    refine ⟨N, ?_, ?_, (RF.rf.up (by omega)).tr a3⟩
    · unfold R_days_120
      rw [c_ge_p (by omega) (by omega), if_neg (by omega), wa_p (by omega)]
      exact a1
    · have e : dyE (am_up t 1 i.toNat 0) = dyE t := by
        unfold dyE
        funext k j
        unfold rsT am_up
        by_cases q0 : k = 1
        · subst q0
          simp
        · simp [q0]
      rw [← e]
      exact a2
theorem Rd_36 {F : FT} {g : am_M} {k18 : Int → Int → Int → am_M → Option (Int × am_M)} {x1 x3 : Int} (hF : FO F) (hg : WG g) : ∀ (k n : Nat) (p s : Int) (t M : am_M), p + k = t 0 1 → 0 ≤ p → k < n → WT t → GR g M → TR t M → LWR F M → ∃ N, R_days_36 k18 n x1 s x3 p M = k18 x1 (s + dsP F g k p t) (x3 + 1) N ∧ TR (dyE (dyP F g k p t)) N ∧ RF M N
  | 0, n + 1, p, s, t, M, e, h0, hn, hw, hG, hT, hL => by
    have hl := hw.1
    have e46 : M 73 46 = t 0 1 := hT.1.2.1
    have e44 : M 73 44 = t 0 3 := hT.1.2.2.2.1
    obtain ⟨N, a1, a2, a3⟩ := Rd_120 (k18 := k18) (x1 := x1) (x2 := s) (x3 := x3) 6 am_big 0 t M (by omega) (by omega) (by decide) hw (by
      have e : am_up t 0 3 (M 73 44) = t := by
        rw [e44]
        funext k j
        unfold am_up
        by_cases q : k = 0
        · subst q
          by_cases q2 : j = 3
          · subst q2
            simp
          · simp [q2]
        · simp [q]
      rw [e]
      exact hT) (fun j h => by omega)
    refine ⟨N, ?_, a2, a3⟩
    unfold R_days_36 dsP
    rw [c_ge_p (by omega) (by omega), if_pos (by omega), Int.add_zero]
    exact a1
  | k + 1, n + 1, p, s, t, M, e, h0, hn, hw, hG, hT, hL => by
    have hl := hw.1
    have e46 : M 73 46 = t 0 1 := hT.1.2.1
    have e45 : M 73 45 = t 0 4 := hT.1.2.2.2.2.1
    have a := hw.at h0 (by omega)
    obtain ⟨c1, c2, c3, c4, c5⟩ := hT.2.1 p.toNat (by omega)
    have c6 := hG.2.2.1 (t 2 p.toNat).toNat (by omega)
    have d1 : kdS g t p = g 2 (t 2 p.toNat).toNat := if_pos ⟨h0, by omega⟩
    have d2 : wiS t p = t 3 p.toNat := if_pos ⟨h0, by omega⟩
    have d3 : grS t p = t 4 p.toNat := if_pos ⟨h0, by omega⟩
    have b1 := kdS_b hg hw p
    have b := gaS_b hF g t p
    obtain ⟨N1, a1, a2⟩ := R_growing_eq (k := g 2 (t 2 p.toNat).toNat) (w := t 3 p.toNat) (q := t 4 p.toNat) (y := t 0 4) hF hL (by omega) (by omega) (by omega) (by omega)
    have ea : F 103 20 (E7 (g 2 (t 2 p.toNat).toNat) (t 3 p.toNat) 0 0 (t 4 p.toNat) 0 (t 0 4)) = gaS F g t p := by
      unfold gaS
      rw [d1, d2, d3]
    rw [ea] at a1
    have f2 : RF M (am_up N1 97 p.toNat (hd9 (t 4 p.toNat + gaS F g t p))) := a2.rf'.up (by omega)
    obtain ⟨N2, z1, z2, z3⟩ := Rd_36 (k18 := k18) (x1 := x1) (x3 := x3) hF hg k n (p + 1) (s + (hd9 (t 4 p.toNat + gaS F g t p) - t 4 p.toNat)) (d1T F g t p) (am_up N1 97 p.toNat (hd9 (t 4 p.toNat + gaS F g t p))) (by rw [d1T_0]; omega) (by omega) (by omega) (d1T_W hF hw h0 (by omega)) (hG.rf f2) (hT.lg a2).g4 (hL.rf f2)
    refine ⟨N2, ?_, z2, f2.tr z3⟩
    rw [R_days_36, c_ge_p (by omega) (by omega), if_neg (by omega), rd_p (by omega), rd_p (by omega), c1, rd_p (by omega), c6, rd_p (by omega), c2, c3, e45, a1, oc_s, R_held_99 (by omega) (by omega), ob_s, wa_p (by omega), rd_p (by omega), upj, z1]
    rw [Int.add_assoc]
    rfl
theorem Rd_lp {F : FT} {g : am_M} {x : Int} (hF : FO F) (hg : WG g) (hx : 1 ≤ x ∧ x ≤ 60) : ∀ (k n : Nat) (i s : Int) (t M : am_M), i + k = x → 0 ≤ i → k < n → WT t → GR g M → TR t M → LWR F M → ∃ N, R_days_18 n x s i M = some ((ddT F g k s t).1, N) ∧ TR (ddT F g k s t).2 N ∧ RF M N
  | 0, n + 1, i, s, t, M, e, h0, hn, hw, hG, hT, hL => by
    refine ⟨M, ?_, hT, RF.rf⟩
    unfold R_days_18 R_days_162 ddT
    rw [c_ge_p (by omega) (by omega), if_pos (by omega)]
  | k + 1, n + 1, i, s, t, M, e, h0, hn, hw, hG, hT, hL => by
    have hl := hw.1
    have e45 : M 73 45 = t 0 4 := hT.1.2.2.2.2.1
    unfold R_days_18 R_days_162 ddT
    rw [c_ge_p (by omega) (by omega), if_neg (by omega), e45, c_ge_p (by omega) (by omega)]
    by_cases q : 9999 ≤ t 0 4
    · rw [if_pos q, if_pos q]
      exact ⟨M, rfl, hT, RF.rf⟩
    · rw [if_neg q, if_neg q]
      obtain ⟨N1, a1, a2, a3⟩ := Rd_36 (k18 := R_days_18 n) (x1 := x) (x3 := i) hF hg (t 0 1).toNat am_big 0 s t M (by omega) (by omega) (by show _ < 1000000; omega) hw hG hT hL
      obtain ⟨c1, c2, c3, c4⟩ := dyP_W hF (g := g) (t 0 1).toNat 0 t hw (by omega) (by omega)
      obtain ⟨N2, b1, b2, b3⟩ := Rd_lp hF hg hx k n (i + 1) (s + dsP F g (t 0 1).toNat 0 t) (dyE (dyP F g (t 0 1).toNat 0 t)) N1 (by omega) (by omega) (by omega) (dyE_W c1 (by rw [c2]; omega)) (hG.rf a3) a2 (hL.rf a3)
      exact ⟨N2, by rw [a1, b1], b2, a3.tr b3⟩
theorem P_days_ok {n : Nat} {x : Int} (hn : n ≤ 600) (hx : am_R x) : OK2 n (P_days x) (R_days x) := by
  refine OK2.of (lp := [12, 13, 26, 27, 30, 68, 69]) (lr := [73, 90, 91, 93, 97]) (by decide) (by decide) (fun M r h => (P_days_c x M r h).mo (by decide)) (fun M r h => (R_days_c x M r h).mo (by decide)) (fun F g t u hW => ?_)
  have hl := hW.2.1.1
  have hF := hW.2.2.2.2
  by_cases hc : 1 ≤ x ∧ x ≤ 60
  · obtain ⟨w1, w2, w3, w4⟩ := ddT_W hF (g := g) x.toNat 0 t hW.2.1 (by omega)
    refine ⟨(ddT F g x.toNat 0 t).1, F, g, (ddT F g x.toNat 0 t).2, u, by omega, ⟨hW.1, w1, by rw [w2]; exact hW.2.2.1, hW.2.2.2⟩, fun M hC => ?_, fun M hR => ?_⟩
    · obtain ⟨h1, h2, h3, h4, h5⟩ := hC
      obtain ⟨N, a1, a2, a3, a4, a5⟩ := days_lp (x := x) hF hW.1 hc x.toNat am_big 0 0 (M 68 3) t M (by omega) (by omega) (by show _ < 1000000; omega) hW.2.1 h1 h2 h4 h5.2.2 rfl (by have := h5.1; have := h5.2.1; omega)
      refine ⟨N, ?_, h1.yf a5, a2, fun q => (h3 q).cg (fun k a b => a5 k (by omega) (by omega) (by omega) (by omega)), h4.yf a5, ?_⟩
      · unfold P_days Overgrowth_passDays_68_26
        rw [c_lt_p (by omega) (by omega), if_neg (by omega), c_le_p (by omega) (by omega), if_pos (by omega), a1, oc_s]
      · have := h5.1
        have := h5.2.1
        exact ⟨by omega, by omega, a3⟩
    · obtain ⟨h1, h2, h3, h4⟩ := hR
      obtain ⟨N, a1, a2, a3⟩ := Rd_lp (x := x) hF hW.1 hc x.toNat am_big 0 0 t M (by omega) (by omega) (by show _ < 1000000; omega) hW.2.1 h1 h2 h4
      refine ⟨N, ?_, h1.rf a3, a2, fun q => (h3 q).rf a3, h4.rf a3⟩
      unfold R_days
      simp (disch := omega) only [c_lt_p, c_eq_p, c_ne_p, c_ge_p, c_gt_p, c_le_p, rd_p, wa_p, wz_p, w8_p, fz_p, fw_p, tw_p, ck_p, ob_s, oc_s, if_pos, if_neg, am_upo, up_s, ne_eq, not_true_eq_false, not_false_eq_true, true_or, or_true, true_and, and_true, false_and, and_false, ck_t, reduceIte, Int.tmod_eq_emod_of_nonneg, Int.tdiv_eq_ediv_of_nonneg, R_lies_eq]
      exact a1
  · refine ⟨-1, F, g, t, u, by decide, hW, fun M hC => ⟨M, ?_, hC.cg (fun _ _ => rfl) (by omega)⟩, fun M hR => ⟨M, ?_, hR⟩⟩
    · unfold P_days P_days_11
      by_cases q : x < 1
      · simp (disch := omega) only [c_lt_p, c_eq_p, c_ne_p, c_ge_p, c_gt_p, c_le_p, rd_p, wa_p, wz_p, w8_p, fz_p, fw_p, tw_p, ck_p, ob_s, oc_s, if_pos, if_neg, am_upo, up_s, ne_eq, not_true_eq_false, not_false_eq_true, true_or, or_true, true_and, and_true, false_and, and_false, ck_t, reduceIte, Int.tmod_eq_emod_of_nonneg, Int.tdiv_eq_ediv_of_nonneg]
      · simp (disch := omega) only [c_lt_p, c_eq_p, c_ne_p, c_ge_p, c_gt_p, c_le_p, rd_p, wa_p, wz_p, w8_p, fz_p, fw_p, tw_p, ck_p, ob_s, oc_s, if_pos, if_neg, am_upo, up_s, ne_eq, not_true_eq_false, not_false_eq_true, true_or, or_true, true_and, and_true, false_and, and_false, ck_t, reduceIte, Int.tmod_eq_emod_of_nonneg, Int.tdiv_eq_ediv_of_nonneg]
    · unfold R_days
      simp (disch := omega) only [c_lt_p, c_eq_p, c_ne_p, c_ge_p, c_gt_p, c_le_p, rd_p, wa_p, wz_p, w8_p, fz_p, fw_p, tw_p, ck_p, ob_s, oc_s, if_pos, if_neg, am_upo, up_s, ne_eq, not_true_eq_false, not_false_eq_true, true_or, or_true, true_and, and_true, false_and, and_false, ck_t, reduceIte, Int.tmod_eq_emod_of_nonneg, Int.tdiv_eq_ediv_of_nonneg, R_lies_eq]
