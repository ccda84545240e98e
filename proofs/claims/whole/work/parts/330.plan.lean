-- planned
def hd9 (v : Int) : Int := if 99 < v then 99 else v
theorem hd9_b {v : Int} (h : 0 ≤ v) : 0 ≤ hd9 v ∧ hd9 v ≤ 99 := by
  unfold hd9
  split <;> omega
theorem J_min_99 {v : Int} {M : am_M} (h : am_R v) : J_min 99 v M = some (hd9 v) := by
  rw [J_min_eq (by decide) h]
  unfold hd9
  congr 1
  repeat' split
  all_goals omega
theorem R_held_99 {v : Int} {M : am_M} (h : am_R v) (h0 : 0 ≤ v) : R_held v 99 M = some (hd9 v) := by
  rw [R_held_eq h (by decide), if_neg (by omega)]
  rfl
/-- cells that a plan changes -/
def PF (M N : am_M) : Prop := (∀ k, k ≠ 12 → k ≠ 13 → k ≠ 68 → N k = M k) ∧ N 68 3 = M 68 3
theorem PF.rf {M : am_M} : PF M M := ⟨fun _ _ _ _ => rfl, rfl⟩
theorem PF.tr {M N O : am_M} (a : PF M N) (b : PF N O) : PF M O := ⟨fun k h1 h2 h3 => (b.1 k h1 h2 h3).trans (a.1 k h1 h2 h3), b.2.trans a.2⟩
theorem LF.pf {M N : am_M} (a : LF M N) : PF M N := ⟨fun k h1 h2 _ => a k h1 h2, by rw [a 68 (by decide) (by decide)]⟩
theorem PF.up {M N : am_M} {j : Nat} {v : Int} (a : PF M N) (h : j ≠ 3) : PF M (am_up N 68 j v) := ⟨fun k h1 h2 h3 => by rw [upo h3]; exact a.1 k h1 h2 h3, by rw [upx (by omega)]; exact a.2⟩
theorem PC.pf {F : FT} {g t u M N : am_M} {n : Nat} (h : PC F g t u n M) (e : PF M N) : PC F g t u n N := by
  obtain ⟨h1, h2, h3, h4, h5⟩ := h
  refine ⟨?_, h2.cg (fun k a b => e.1 k (by omega) (by omega) (by omega)), fun q => (h3 q).cg (fun k a b => e.1 k (by omega) (by omega) (by omega)), h4.cg (fun k a b => e.1 k (by omega) (by omega) (by omega)), ?_⟩
  · unfold GP at h1 ⊢
    rw [e.1 0 (by decide) (by decide) (by decide), e.1 1 (by decide) (by decide) (by decide), e.1 2 (by decide) (by decide) (by decide), e.1 4 (by decide) (by decide) (by decide), e.1 5 (by decide) (by decide) (by decide), e.1 14 (by decide) (by decide) (by decide), e.1 15 (by decide) (by decide) (by decide)]
    exact h1
  · unfold OG at h5 ⊢
    rw [e.2, e.1 69 (by decide) (by decide) (by decide)]
    exact h5
abbrev Q4 : Type := Int × Int × Int × Int
def nt4 (v w e f : Int) (L : Q4) : Q4 := if v < L.1 then (v, w, e, f) else L
def pvS (c cut un se m : Int) : Int := c * (cut + un) + m * (2 + se - un)
theorem pvS_e (c cut un se m : Int) : c * cut + 2 * m + m * se + (c - m) * un = pvS c cut un se m := by
  unfold pvS
  simp only [Int.mul_add, Int.mul_sub, Int.sub_mul]
  omega
theorem mub {a b x y : Int} (ha : 0 ≤ a) (hb : 0 ≤ b) (hx : a ≤ x) (hy : b ≤ y) : 0 ≤ a * b ∧ a * b ≤ x * y := ⟨Int.mul_nonneg ha hb, Int.mul_le_mul hx hy hb (by omega)⟩
theorem pvS_b {c cut un se m : Int} (hc : 1 ≤ c ∧ c ≤ 99) (h1 : 0 ≤ cut ∧ cut ≤ 240) (h2 : 0 ≤ un ∧ un ≤ 60) (h3 : 0 ≤ se ∧ se ≤ 60) (hm : 0 ≤ m ∧ m ≤ c) : 0 ≤ pvS c cut un se m ∧ pvS c cut un se m ≤ 100000 := by
  rw [← pvS_e]
  have a := mub (x := 99) (y := 240) (show 0 ≤ c by omega) h1.1 hc.2 h1.2
  have b := mub (x := 99) (y := 60) hm.1 h3.1 (by omega) h3.2
  have d := mub (x := 99) (y := 60) (show 0 ≤ c - m by omega) h2.1 (by omega) h2.2
  omega
theorem mk_b {c e : Int} (hc : 1 ≤ c ∧ c ≤ 99) (he : 1 ≤ e ∧ e ≤ 6) : 0 ≤ (c + e - 1) / e ∧ (c + e - 1) / e ≤ c := by
  rcases (show e = 1 ∨ e = 2 ∨ e = 3 ∨ e = 4 ∨ e = 5 ∨ e = 6 by omega) with q | q | q | q | q | q <;> subst q <;> omega
def plG (F : FT) (kd w D : Int) : Nat → Int → Int → Int
  | 0, q, _ => q
  | k + 1, q, d => plG F kd w D k (hd9 (q + F 103 20 (E7 kd w 0 0 q 0 (D + d)))) (d + 1)
theorem plG_b {F : FT} (hF : FO F) (kd w D : Int) : ∀ (k : Nat) (q d : Int), 0 ≤ q ∧ q ≤ 99 → 0 ≤ plG F kd w D k q d ∧ plG F kd w D k q d ≤ 99
  | 0, q, d, h => h
  | k + 1, q, d, h => by
    have := hF.1 103 20 (E7 kd w 0 0 q 0 (D + d)) (by decide)
    exact plG_b hF kd w D k _ _ (hd9_b (by omega))
def plE (c cut un se w : Int) : Nat → Int → Q4 → Q4
  | 0, _, L => L
  | k + 1, e, L => plE c cut un se w k (e + 1) (nt4 (pvS c cut un se 0) w e 0 (nt4 (pvS c cut un se ((c + e - 1) / e)) w e 2 L))
def cuS (F : FT) (g t : am_M) (kd w : Int) : Int := F 99 240 (E7 kd w (g 3 (t 0 0).toNat) (t 1 (t 0 0).toNat) 0 0 (t 0 4))
def wuS (F : FT) (t : am_M) (kd w dy f : Int) : Int := F 118 60 (E7 kd w 0 0 (plG F kd w (t 0 4) dy.toNat 0 0) f (t 0 4 + dy))
def plW (F : FT) (g t : am_M) (kd c dy : Int) : Nat → Int → Q4 → Q4
  | 0, _, L => L
  | k + 1, w, L => plW F g t kd c dy k (w + 1) (plE c (cuS F g t kd w) (wuS F t kd w dy 0) (wuS F t kd w dy 1) w 6 1 L)
def Q4B (L : Q4) : Prop := (0 ≤ L.1 ∧ L.1 ≤ 1000000000) ∧ (0 ≤ L.2.1 ∧ L.2.1 ≤ 4) ∧ (0 ≤ L.2.2.1 ∧ L.2.2.1 ≤ 6) ∧ (0 ≤ L.2.2.2 ∧ L.2.2.2 ≤ 2)
theorem nt4_b {v w e f : Int} {L : Q4} (h : Q4B L) (hv : 0 ≤ v ∧ v ≤ 1000000000) (hw : 0 ≤ w ∧ w ≤ 4) (he : 0 ≤ e ∧ e ≤ 6) (hf : 0 ≤ f ∧ f ≤ 2) : Q4B (nt4 v w e f L) := by
  unfold nt4
  split
  · exact ⟨hv, hw, he, hf⟩
  · exact h
def Q4A (L : Q4) : Prop := 0 ≤ L.1 ∧ L.1 ≤ 1000000000
theorem nt4_a {v w e f : Int} {L : Q4} (h : Q4A L) (hv : 0 ≤ v ∧ v ≤ 1000000000) : Q4A (nt4 v w e f L) := by
  unfold nt4
  split
  · exact hv
  · exact h
theorem plE_b {c cut un se w : Int} (hc : 1 ≤ c ∧ c ≤ 99) (h1 : 0 ≤ cut ∧ cut ≤ 240) (h2 : 0 ≤ un ∧ un ≤ 60) (h3 : 0 ≤ se ∧ se ≤ 60) (hw : 1 ≤ w ∧ w ≤ 4) : ∀ (k : Nat) (e : Int) (L : Q4), e + k = 7 → 1 ≤ e → Q4B L → Q4B (plE c cut un se w k e L)
  | 0, e, L, he, h0, hB => hB
  | k + 1, e, L, he, h0, hB => by
    have hm := mk_b hc (e := e) (by omega)
    have b1 := pvS_b hc h1 h2 h3 hm
    have b2 := pvS_b hc h1 h2 h3 (m := 0) (by omega)
    exact plE_b hc h1 h2 h3 hw k (e + 1) _ (by omega) (by omega) (nt4_b (nt4_b hB (by omega) (by omega) (by omega) (by omega)) (by omega) (by omega) (by omega) (by omega))
theorem plW_b {F : FT} (hF : FO F) {g t : am_M} {kd c dy : Int} (hc : 1 ≤ c ∧ c ≤ 99) : ∀ (k : Nat) (w : Int) (L : Q4), w + k = 5 → 1 ≤ w → Q4B L → Q4B (plW F g t kd c dy k w L)
  | 0, w, L, he, h0, hB => hB
  | k + 1, w, L, he, h0, hB => plW_b hF hc k (w + 1) _ (by omega) (by omega) (plE_b hc (hF.1 _ _ _ (by decide)) (hF.1 _ _ _ (by decide)) (hF.1 _ _ _ (by decide)) (by omega) 6 1 L (by omega) (by omega) hB)
/-- what stood there before doesn't matter -/
theorem plW_i {F : FT} (hF : FO F) {g t : am_M} {kd c dy : Int} (hc : 1 ≤ c ∧ c ≤ 99) (L : Q4) (hL : L.1 = 1000000000) : plW F g t kd c dy 4 1 L = plW F g t kd c dy 4 1 (1000000000, 0, 0, 0) := by
  have h1 : 0 ≤ cuS F g t kd 1 ∧ cuS F g t kd 1 ≤ 240 := hF.1 _ _ _ (by decide)
  have h2 : 0 ≤ wuS F t kd 1 dy 0 ∧ wuS F t kd 1 dy 0 ≤ 60 := hF.1 _ _ _ (by decide)
  have h3 : 0 ≤ wuS F t kd 1 dy 1 ∧ wuS F t kd 1 dy 1 ≤ 60 := hF.1 _ _ _ (by decide)
  have b1 := pvS_b hc h1 h2 h3 (mk_b hc (e := 1) (by omega))
  have e1 : ∀ L : Q4, L.1 = 1000000000 → nt4 (pvS c (cuS F g t kd 1) (wuS F t kd 1 dy 0) (wuS F t kd 1 dy 1) ((c + 1 - 1) / 1)) 1 1 2 L = (pvS c (cuS F g t kd 1) (wuS F t kd 1 dy 0) (wuS F t kd 1 dy 1) ((c + 1 - 1) / 1), 1, 1, 2) := by
    intro L hL
    unfold nt4
    rw [if_pos (by omega)]
  have e2 : ∀ L : Q4, L.1 = 1000000000 → plE c (cuS F g t kd 1) (wuS F t kd 1 dy 0) (wuS F t kd 1 dy 1) 1 6 1 L = plE c (cuS F g t kd 1) (wuS F t kd 1 dy 0) (wuS F t kd 1 dy 1) 1 5 (1 + 1) (nt4 (pvS c (cuS F g t kd 1) (wuS F t kd 1 dy 0) (wuS F t kd 1 dy 1) 0) 1 1 0 (pvS c (cuS F g t kd 1) (wuS F t kd 1 dy 0) (wuS F t kd 1 dy 1) ((c + 1 - 1) / 1), 1, 1, 2)) := by
    intro L hL
    rw [plE, e1 L hL]
  have s1 : ∀ L : Q4, L.1 = 1000000000 → plW F g t kd c dy 4 1 L = plW F g t kd c dy 3 (1 + 1) (plE c (cuS F g t kd 1) (wuS F t kd 1 dy 0) (wuS F t kd 1 dy 1) 1 5 (1 + 1) (nt4 (pvS c (cuS F g t kd 1) (wuS F t kd 1 dy 0) (wuS F t kd 1 dy 1) 0) 1 1 0 (pvS c (cuS F g t kd 1) (wuS F t kd 1 dy 0) (wuS F t kd 1 dy 1) ((c + 1 - 1) / 1), 1, 1, 2))) := fun L hL => by rw [plW, e2 L hL]
  rw [s1 L hL, s1 (1000000000, 0, 0, 0) rfl]
def L4 (L : Q4) (M : am_M) : Prop := M 68 4 = L.1 ∧ M 68 5 = L.2.1 ∧ M 68 6 = L.2.2.1 ∧ M 68 7 = L.2.2.2
theorem L4.lf {L : Q4} {M N : am_M} (h : L4 L M) (e : LF M N) : L4 L N := by
  unfold L4 at *
  rw [e 68 (by decide) (by decide)]
  exact h
theorem notePlan_eq {M : am_M} {v w e f : Int} {L : Q4} (h : L4 L M) (hL : Q4A L) (hv : am_R v) : ∃ N, Overgrowth_notePlan_68 v w e f M = some N ∧ L4 (nt4 v w e f L) N ∧ PF M N := by
  have h1 := hL
  unfold Q4A at h1
  have e1 := h.1
  unfold Overgrowth_notePlan_68 Overgrowth_notePlan_68_29 nt4
  by_cases q : v < L.1
  · refine ⟨am_up (am_up (am_up (am_up M 68 4 v) 68 5 w) 68 6 e) 68 7 f, ?_, ?_, (((PF.rf.up (by decide)).up (by decide)).up (by decide)).up (by decide)⟩
    · simp (disch := omega) only [c_lt_p, c_eq_p, c_ne_p, c_ge_p, c_gt_p, c_le_p, rd_p, wa_p, wz_p, w8_p, fz_p, fw_p, tw_p, ck_p, ob_s, oc_s, if_pos, if_neg, am_upo, up_s, ne_eq, not_true_eq_false, not_false_eq_true, true_or, or_true, true_and, and_true, false_and, and_false, ck_t, reduceIte, Int.tmod_eq_emod_of_nonneg, Int.tdiv_eq_ediv_of_nonneg, e1]
    · rw [if_pos q]
      unfold L4
      simp (disch := omega) only [c_lt_p, c_eq_p, c_ne_p, c_ge_p, c_gt_p, c_le_p, rd_p, wa_p, wz_p, w8_p, fz_p, fw_p, tw_p, ck_p, ob_s, oc_s, if_pos, if_neg, am_upo, up_s, ne_eq, not_true_eq_false, not_false_eq_true, true_or, or_true, true_and, and_true, false_and, and_false, ck_t, reduceIte, Int.tmod_eq_emod_of_nonneg, Int.tdiv_eq_ediv_of_nonneg]
  · refine ⟨M, ?_, ?_, PF.rf⟩
    · simp (disch := omega) only [c_lt_p, c_eq_p, c_ne_p, c_ge_p, c_gt_p, c_le_p, rd_p, wa_p, wz_p, w8_p, fz_p, fw_p, tw_p, ck_p, ob_s, oc_s, if_pos, if_neg, am_upo, up_s, ne_eq, not_true_eq_false, not_false_eq_true, true_or, or_true, true_and, and_true, false_and, and_false, ck_t, reduceIte, Int.tmod_eq_emod_of_nonneg, Int.tdiv_eq_ediv_of_nonneg, e1]
    · rw [if_neg q]
      exact h
theorem plE_lp {c cut un se w kd dy ld : Int} {kk : Int → Int → Int → Int → Int → am_M → Option am_M} (hc : 1 ≤ c ∧ c ≤ 99) (h1 : 0 ≤ cut ∧ cut ≤ 240) (h2 : 0 ≤ un ∧ un ≤ 60) (h3 : 0 ≤ se ∧ se ≤ 60) (hw : 1 ≤ w ∧ w ≤ 4) : ∀ (k n : Nat) (e : Int) (L : Q4) (M : am_M), e + k = 7 → 1 ≤ e → k < n → L4 L M → Q4A L → ∃ N, Overgrowth_planPath_68_26_147 kk n kd c dy ld w cut un se e M = kk kd c dy ld (w + 1) N ∧ L4 (plE c cut un se w k e L) N ∧ Q4A (plE c cut un se w k e L) ∧ PF M N
  | 0, n + 1, e, L, M, he, he1, hn, hL, hB => by
    refine ⟨M, ?_, hL, hB, PF.rf⟩
    unfold Overgrowth_planPath_68_26_147
    simp (disch := omega) only [c_lt_p, c_eq_p, c_ne_p, c_ge_p, c_gt_p, c_le_p, rd_p, wa_p, wz_p, w8_p, fz_p, fw_p, tw_p, ck_p, ob_s, oc_s, if_pos, if_neg, am_upo, up_s, ne_eq, not_true_eq_false, not_false_eq_true, true_or, or_true, true_and, and_true, false_and, and_false, ck_t, reduceIte, Int.tmod_eq_emod_of_nonneg, Int.tdiv_eq_ediv_of_nonneg]
  | k + 1, n + 1, e, L, M, he, he1, hn, hL, hB => by
    have hm := mk_b hc (e := e) (by omega)
    have b1 := pvS_b hc h1 h2 h3 hm
    have b2 := pvS_b hc h1 h2 h3 (m := 0) (by omega)
    obtain ⟨N1, a1, a2, a3⟩ := notePlan_eq (w := w) (e := e) (f := 2) hL hB (v := pvS c cut un se ((c + e - 1) / e)) (by omega)
    have hB1 := nt4_a (w := w) (e := e) (f := 2) hB (v := pvS c cut un se ((c + e - 1) / e)) (by omega)
    obtain ⟨N2, c1, c2, c3⟩ := notePlan_eq (w := w) (e := e) (f := 0) a2 hB1 (v := pvS c cut un se 0) (by omega)
    have hB2 := nt4_a (w := w) (e := e) (f := 0) hB1 (v := pvS c cut un se 0) (by omega)
    obtain ⟨N3, d1, d2, d3, d4⟩ := plE_lp hc h1 h2 h3 hw k n (e + 1) _ N2 (by omega) (by omega) (by omega) c2 hB2
    refine ⟨N3, ?_, d2, d3, (a3.tr c3).tr d4⟩
    have z : c * (cut + un) = pvS c cut un se 0 := by
      unfold pvS
      rw [Int.zero_mul, Int.add_zero]
    rw [Overgrowth_planPath_68_26_147, c_gt_p (by omega) (by omega), if_neg (by omega), ck_p (by omega), tw_p, Int.tdiv_eq_ediv_of_nonneg (by omega)]
    rw [show c * (cut + un) + (c + e - 1) / e * (2 + se - un) = pvS c cut un se ((c + e - 1) / e) from rfl, a1, ob_s, z, c1, ob_s]
    exact d1
theorem plD_lp {F : FT} {g t u : am_M} {n0 : Nat} {c cut w kd dy ld : Int} {kk : Int → Int → Int → Int → Int → am_M → Option am_M} (hW : PW F g t u) (hk : 0 ≤ kd ∧ kd ≤ 6) (hc : 1 ≤ c ∧ c ≤ 99) (h1 : 0 ≤ cut ∧ cut ≤ 240) (hw : 1 ≤ w ∧ w ≤ 4) (hd : 0 ≤ dy ∧ dy ≤ 30) {L : Q4} (hB : Q4A L) : ∀ (k n : Nat) (q d : Int) (M : am_M), d + k = dy → 0 ≤ d → k < n → 0 ≤ q ∧ q ≤ 99 → PC F g t u n0 M → L4 L M → ∃ N, Overgrowth_planPath_68_26_58 kk n kd c dy ld w cut q d M = kk kd c dy ld (w + 1) N ∧ L4 (plE c cut (F 118 60 (E7 kd w 0 0 (plG F kd w (t 0 4) k q d) 0 (t 0 4 + dy))) (F 118 60 (E7 kd w 0 0 (plG F kd w (t 0 4) k q d) 1 (t 0 4 + dy))) w 6 1 L) N ∧ Q4A (plE c cut (F 118 60 (E7 kd w 0 0 (plG F kd w (t 0 4) k q d) 0 (t 0 4 + dy))) (F 118 60 (E7 kd w 0 0 (plG F kd w (t 0 4) k q d) 1 (t 0 4 + dy))) w 6 1 L) ∧ PF M N
  | 0, n + 1, q, d, M, he, h0, hn, hq, hC, hL => by
    have hl := hW.2.1.1
    have hF := hW.2.2.2.2
    have e13 : M 26 13 = t 0 4 := hC.2.1.1.2.2.2.2.1
    obtain ⟨N1, a1, a2⟩ := Law_walking_eq (k := kd) (w := w) (q := q) (f := 0) (y := t 0 4 + dy) hF hC.2.2.2.1 (by omega) (by omega) (by omega) (by decide) (by omega)
    have e13' : N1 26 13 = t 0 4 := by rw [a2 26 (by decide) (by decide)]; exact e13
    obtain ⟨N2, b1, b2⟩ := Law_walking_eq (k := kd) (w := w) (q := q) (f := 1) (y := t 0 4 + dy) hF (hC.2.2.2.1.lf a2) (by omega) (by omega) (by omega) (by decide) (by omega)
    obtain ⟨N3, c1, c2, c3, c4⟩ := plE_lp (kk := kk) (kd := kd) (dy := dy) (ld := ld) hc h1 (hF.1 118 60 (E7 kd w 0 0 q 0 (t 0 4 + dy)) (by decide)) (hF.1 118 60 (E7 kd w 0 0 q 1 (t 0 4 + dy)) (by decide)) hw 6 am_big 1 L N2 (by omega) (by omega) (by decide) ((hL.lf a2).lf b2) hB
    refine ⟨N3, ?_, c2, c3, (a2.pf.tr b2.pf).tr c4⟩
    rw [Overgrowth_planPath_68_26_58, c_ge_p (by omega) (by omega), if_pos (by omega), e13, a1, oc_s, e13', b1, oc_s]
    exact c1
  | k + 1, n + 1, q, d, M, he, h0, hn, hq, hC, hL => by
    have hl := hW.2.1.1
    have hF := hW.2.2.2.2
    have e13 : M 26 13 = t 0 4 := hC.2.1.1.2.2.2.2.1
    have hb := hF.1 103 20 (E7 kd w 0 0 q 0 (t 0 4 + d)) (by decide)
    obtain ⟨N1, a1, a2⟩ := Law_growing_eq (k := kd) (w := w) (q := q) (y := t 0 4 + d) hF hC.2.2.2.1 (by omega) (by omega) (by omega) (by omega)
    obtain ⟨N3, c1, c2, c3, c4⟩ := plD_lp (kk := kk) (ld := ld) hW hk hc h1 hw hd hB k n (hd9 (q + F 103 20 (E7 kd w 0 0 q 0 (t 0 4 + d)))) (d + 1) N1 (by omega) (by omega) (by omega) (hd9_b (by omega)) (hC.lf a2) (hL.lf a2)
    refine ⟨N3, ?_, c2, c3, a2.pf.tr c4⟩
    rw [Overgrowth_planPath_68_26_58, c_ge_p (by omega) (by omega), if_neg (by omega), e13, a1, oc_s, J_min_99 (by omega), ob_s]
    exact c1
theorem plW_lp {F : FT} {g t u : am_M} {n0 : Nat} {c kd dy : Int} (hW : PW F g t u) (hld : t 0 0 ≠ -1) (hk : 0 ≤ kd ∧ kd ≤ 6) (hc : 1 ≤ c ∧ c ≤ 99) (hd : 0 ≤ dy ∧ dy ≤ 30) : ∀ (k n : Nat) (w : Int) (L : Q4) (M : am_M), w + k = 5 → 1 ≤ w → k < n → PC F g t u n0 M → L4 L M → Q4A L → ∃ N, Overgrowth_planPath_68_26_15 n kd c dy (t 0 0) w M = some N ∧ L4 (plW F g t kd c dy k w L) N ∧ Q4A (plW F g t kd c dy k w L) ∧ PF M N
  | 0, n + 1, w, L, M, he, h0, hn, hC, hL, hB => by
    refine ⟨M, ?_, hL, hB, PF.rf⟩
    unfold Overgrowth_planPath_68_26_15
    simp (disch := omega) only [c_lt_p, c_eq_p, c_ne_p, c_ge_p, c_gt_p, c_le_p, rd_p, wa_p, wz_p, w8_p, fz_p, fw_p, tw_p, ck_p, ob_s, oc_s, if_pos, if_neg, am_upo, up_s, ne_eq, not_true_eq_false, not_false_eq_true, true_or, or_true, true_and, and_true, false_and, and_false, ck_t, reduceIte, Int.tmod_eq_emod_of_nonneg, Int.tdiv_eq_ediv_of_nonneg]
  | k + 1, n + 1, w, L, M, he, h0, hn, hC, hL, hB => by
    have hl := hW.2.1.1
    have hF := hW.2.2.2.2
    have e13 : M 26 13 = t 0 4 := hC.2.1.1.2.2.2.2.1
    have e4 := hC.1.2.2.2 (t 0 0).toNat (by omega)
    have b4 := hW.1.2.2.2 (t 0 0).toNat (by omega)
    have bt := hW.2.1.2.2.1 (t 0 0).toNat (by omega)
    have et := Trip_tiredOf_26_eq hC.2.1 (p := t 0 0) (by omega) (by omega)
    obtain ⟨N1, a1, a2⟩ := Law_cutting_eq (k := kd) (w := w) (a := g 3 (t 0 0).toNat) (t := t 1 (t 0 0).toNat) (y := t 0 4) hF hC.2.2.2.1 (by omega) (by omega) (by omega) (by omega) (by omega)
    have hcu := hF.1 99 240 (E7 kd w (g 3 (t 0 0).toNat) (t 1 (t 0 0).toNat) 0 0 (t 0 4)) (by decide)
    obtain ⟨N2, b1, b2, b3, b5⟩ := plD_lp (kk := Overgrowth_planPath_68_26_15 n) (ld := t 0 0) hW hk hc hcu (w := w) (by omega) hd hB dy.toNat am_big 0 0 N1 (by omega) (by omega) (by show _ < 1000000; omega) (by omega) (hC.lf a2) (hL.lf a2)
    obtain ⟨N3, c1, c2, c3, c4⟩ := plW_lp hW hld hk hc hd k n (w + 1) _ N2 (by omega) (by omega) (by omega) ((hC.lf a2).pf b5) b2 b3
    refine ⟨N3, ?_, c2, c3, (a2.pf.tr b5).tr c4⟩
    rw [Overgrowth_planPath_68_26_15, c_gt_p (by omega) (by omega), if_neg (by omega), Country_armOf_eq (by omega), if_pos (by omega), ob_s, et, ob_s, e4, e13, a1, oc_s, b1]
    exact c1
def pnS (y : Int) (L : Q4) : Int := if y = 0 then L.1 else if y = 1 then L.2.1 else if y = 2 then L.2.2.1 else L.2.2.2
-- the reference
theorem RplD_lp {F : FT} {g t u : am_M} {c w kd dy e f : Int} (hW : PW F g t u) (hld : t 0 0 ≠ -1) (hk : 0 ≤ kd ∧ kd ≤ 6) (hc : 1 ≤ c ∧ c ≤ 99) (hw : 1 ≤ w ∧ w ≤ 4) (hd : 0 ≤ dy ∧ dy ≤ 30) (he : 1 ≤ e ∧ e ≤ 6) (hf : 0 ≤ f ∧ f ≤ 2) : ∀ (k n : Nat) (q d : Int) (M : am_M), d + k = dy → 0 ≤ d → k < n → 0 ≤ q ∧ q ≤ 99 → PR F g t u M → ∃ N, R_plannedFor_6 n kd c dy w e f q d M = some (pvS c (cuS F g t kd w) (F 118 60 (E7 kd w 0 0 (plG F kd w (t 0 4) k q d) 0 (t 0 4 + dy))) (F 118 60 (E7 kd w 0 0 (plG F kd w (t 0 4) k q d) 1 (t 0 4 + dy))) (if f = 0 then 0 else (c + e - 1) / e), N) ∧ LG M N
  | 0, n + 1, q, d, M, hdk, h0, hn, hq, hR => by
    have hl := hW.2.1.1
    have hF := hW.2.2.2.2
    have e45 : M 73 45 = t 0 4 := hR.2.1.1.2.2.2.2.1
    obtain ⟨N0, z1, z2⟩ := R_cutting_eq (k := kd) (w := w) hF hR.2.2.2 hW.1 hW.2.1 hR.1 hR.2.1 hld (by omega) (by omega)
    have hR0 := hR.lg z2
    have e45' : N0 73 45 = t 0 4 := hR0.2.1.1.2.2.2.2.1
    obtain ⟨N1, a1, a2⟩ := R_walking_eq (k := kd) (w := w) (q := q) (f := 1) (y := t 0 4 + dy) hF hR0.2.2.2 (by omega) (by omega) (by omega) (by decide) (by omega)
    have hR1 := hR0.lg a2
    have e451 : N1 73 45 = t 0 4 := hR1.2.1.1.2.2.2.2.1
    obtain ⟨N2, b1, b2⟩ := R_walking_eq (k := kd) (w := w) (q := q) (f := 0) (y := t 0 4 + dy) hF hR1.2.2.2 (by omega) (by omega) (by omega) (by decide) (by omega)
    refine ⟨N2, ?_, (z2.tr a2).tr b2⟩
    have r62 : ∀ m, R_plannedFor_62 kd c dy w q m M = some (pvS c (cuS F g t kd w) (F 118 60 (E7 kd w 0 0 q 0 (t 0 4 + dy))) (F 118 60 (E7 kd w 0 0 q 1 (t 0 4 + dy))) m, N2) := by
      intro m
      unfold R_plannedFor_62
      rw [z1, oc_s, e45', a1, oc_s, e451, b1, oc_s, ← pvS_e]
      rfl
    rw [R_plannedFor_6, c_ge_p (by omega) (by omega), if_pos (by omega), c_ne_p (by omega) (by omega)]
    by_cases qf : f = 0
    · rw [if_neg (fun h => h qf), if_pos qf]
      exact r62 0
    · rw [if_pos qf, if_neg qf, ck_p (by omega), tw_p, Int.tdiv_eq_ediv_of_nonneg (by omega)]
      exact r62 _
  | k + 1, n + 1, q, d, M, hdk, h0, hn, hq, hR => by
    have hl := hW.2.1.1
    have hF := hW.2.2.2.2
    have e45 : M 73 45 = t 0 4 := hR.2.1.1.2.2.2.2.1
    have hb := hF.1 103 20 (E7 kd w 0 0 q 0 (t 0 4 + d)) (by decide)
    obtain ⟨N1, a1, a2⟩ := R_growing_eq (k := kd) (w := w) (q := q) (y := t 0 4 + d) hF hR.2.2.2 (by omega) (by omega) (by omega) (by omega)
    obtain ⟨N2, b1, b2⟩ := RplD_lp hW hld hk hc hw hd he hf k n (hd9 (q + F 103 20 (E7 kd w 0 0 q 0 (t 0 4 + d)))) (d + 1) N1 (by omega) (by omega) (by omega) (hd9_b (by omega)) (hR.lg a2)
    refine ⟨N2, ?_, a2.tr b2⟩
    rw [R_plannedFor_6, c_ge_p (by omega) (by omega), if_neg (by omega), e45, a1, oc_s, R_held_99 (by omega) (by omega), ob_s]
    exact b1
theorem R_plannedFor_eq {F : FT} {g t u M : am_M} {c w kd dy e f : Int} (hW : PW F g t u) (hld : t 0 0 ≠ -1) (hk : 0 ≤ kd ∧ kd ≤ 6) (hc : 1 ≤ c ∧ c ≤ 99) (hw : 1 ≤ w ∧ w ≤ 4) (hd : 0 ≤ dy ∧ dy ≤ 30) (he : 1 ≤ e ∧ e ≤ 6) (hf : 0 ≤ f ∧ f ≤ 2) (hR : PR F g t u M) : ∃ N, R_plannedFor kd c dy w e f M = some (pvS c (cuS F g t kd w) (wuS F t kd w dy 0) (wuS F t kd w dy 1) (if f = 0 then 0 else (c + e - 1) / e), N) ∧ LG M N := RplD_lp hW hld hk hc hw hd he hf dy.toNat am_big 0 0 M (by omega) (by omega) (by show _ < 1000000; omega) (by omega) hR
theorem R_planned_100s {F : FT} {g t u M : am_M} {c w kd dy e f y : Int} {L : Q4} {n : Nat} {k81 : Int → Int → Int → Int → Int → Int → Int → Int → Int → am_M → Option (Int × am_M)} {k90 : Int → Int → Int → Int → Int → Int → Int → Int → Int → Int → am_M → Option (Int × am_M)} (hW : PW F g t u) (hld : t 0 0 ≠ -1) (hk : 0 ≤ kd ∧ kd ≤ 6) (hc : 1 ≤ c ∧ c ≤ 99) (hw : 1 ≤ w ∧ w ≤ 4) (hd : 0 ≤ dy ∧ dy ≤ 30) (he : 1 ≤ e ∧ e ≤ 6) (hf : 0 ≤ f ∧ f ≤ 2) (hR : PR F g t u M) (hL : Q4B L) (v : Int) (hv : v = pvS c (cuS F g t kd w) (wuS F t kd w dy 0) (wuS F t kd w dy 1) (if f = 0 then 0 else (c + e - 1) / e)) (hb : 0 ≤ v ∧ v ≤ 100000) : ∃ N, R_planned_100 k81 k90 (n + 1) kd c dy y L.1 L.2.1 L.2.2.1 L.2.2.2 w e f M = R_planned_100 k81 k90 n kd c dy y (nt4 v w e f L).1 (nt4 v w e f L).2.1 (nt4 v w e f L).2.2.1 (nt4 v w e f L).2.2.2 w e (f - 2) N ∧ LG M N := by
  obtain ⟨N, a1, a2⟩ := R_plannedFor_eq hW hld hk hc hw hd he hf hR
  rw [← hv] at a1
  have h1 := hL.1
  refine ⟨N, ?_, a2⟩
  rw [R_planned_100, c_lt_p (by omega) (by omega), if_neg (by omega), a1, oc_s, c_lt_p (by omega) (by omega)]
  unfold R_planned_146 nt4
  by_cases q : v < L.1
  · rw [if_pos q, if_pos q]
    rfl
  · rw [if_neg q, if_neg q]
    rfl
theorem RplE_lp {F : FT} {g t u : am_M} {c w kd dy y : Int} {k81 : Int → Int → Int → Int → Int → Int → Int → Int → Int → am_M → Option (Int × am_M)} (hW : PW F g t u) (hld : t 0 0 ≠ -1) (hk : 0 ≤ kd ∧ kd ≤ 6) (hc : 1 ≤ c ∧ c ≤ 99) (hw : 1 ≤ w ∧ w ≤ 4) (hd : 0 ≤ dy ∧ dy ≤ 30) : ∀ (k n : Nat) (e : Int) (L : Q4) (M : am_M), e + k = 7 → 1 ≤ e → k < n → PR F g t u M → Q4B L → ∃ N, R_planned_90 k81 n kd c dy y L.1 L.2.1 L.2.2.1 L.2.2.2 w e M = k81 kd c dy y (plE c (cuS F g t kd w) (wuS F t kd w dy 0) (wuS F t kd w dy 1) w k e L).1 (plE c (cuS F g t kd w) (wuS F t kd w dy 0) (wuS F t kd w dy 1) w k e L).2.1 (plE c (cuS F g t kd w) (wuS F t kd w dy 0) (wuS F t kd w dy 1) w k e L).2.2.1 (plE c (cuS F g t kd w) (wuS F t kd w dy 0) (wuS F t kd w dy 1) w k e L).2.2.2 (w + 1) N ∧ Q4B (plE c (cuS F g t kd w) (wuS F t kd w dy 0) (wuS F t kd w dy 1) w k e L) ∧ LG M N
  | 0, n + 1, e, L, M, he, h0, hn, hR, hB => by
    refine ⟨M, ?_, hB, LG.rf⟩
    rw [R_planned_90, c_ge_p (by omega) (by omega), if_pos (by omega)]
    rfl
  | k + 1, n + 1, e, L, M, he, h0, hn, hR, hB => by
    have hF := hW.2.2.2.2
    have h1 : 0 ≤ cuS F g t kd w ∧ cuS F g t kd w ≤ 240 := hF.1 _ _ _ (by decide)
    have h2 : 0 ≤ wuS F t kd w dy 0 ∧ wuS F t kd w dy 0 ≤ 60 := hF.1 _ _ _ (by decide)
    have h3 : 0 ≤ wuS F t kd w dy 1 ∧ wuS F t kd w dy 1 ≤ 60 := hF.1 _ _ _ (by decide)
    have hm := mk_b hc (e := e) (by omega)
    have b1 := pvS_b hc h1 h2 h3 hm
    have b2 := pvS_b hc h1 h2 h3 (m := 0) (by omega)
    obtain ⟨N1, a1, a2⟩ := R_planned_100s (f := 2) (y := y) (e := e) (L := L) (n := 999999) (k81 := k81) (k90 := R_planned_90 k81 n) hW hld hk hc hw hd (by omega) (by decide) hR hB _ (by rw [if_neg (by decide)]) b1
    have hB1 := nt4_b (w := w) (e := e) (f := 2) hB (v := pvS c (cuS F g t kd w) (wuS F t kd w dy 0) (wuS F t kd w dy 1) ((c + e - 1) / e)) (by omega) (by omega) (by omega) (by omega)
    obtain ⟨N2, c1, c2⟩ := R_planned_100s (f := 0) (y := y) (e := e) (n := 999998) (k81 := k81) (k90 := R_planned_90 k81 n) hW hld hk hc hw hd (by omega) (by decide) (hR.lg a2) hB1 _ (by rw [if_pos rfl]) b2
    have hB2 := nt4_b (w := w) (e := e) (f := 0) hB1 (v := pvS c (cuS F g t kd w) (wuS F t kd w dy 0) (wuS F t kd w dy 1) 0) (by omega) (by omega) (by omega) (by omega)
    obtain ⟨N3, d1, d2, d3⟩ := RplE_lp (y := y) (k81 := k81) hW hld hk hc hw hd k n (e + 1) _ N2 (by omega) (by omega) (by omega) ((hR.lg a2).lg c2) hB2
    refine ⟨N3, ?_, d2, (a2.tr c2).tr d3⟩
    rw [R_planned_90, c_ge_p (by omega) (by omega), if_neg (by omega), show am_big = 999999 + 1 from rfl, a1, show (2 : Int) - 2 = 0 from rfl, show 999999 = 999998 + 1 from rfl, c1, show (0 : Int) - 2 = -2 from rfl, show 999998 = 999997 + 1 from rfl, R_planned_100, c_lt_p (by decide) (by decide), if_pos (by decide)]
    exact d1
theorem RplW_lp {F : FT} {g t u : am_M} {c kd dy y : Int} (hW : PW F g t u) (hld : t 0 0 ≠ -1) (hk : 0 ≤ kd ∧ kd ≤ 6) (hc : 1 ≤ c ∧ c ≤ 99) (hd : 0 ≤ dy ∧ dy ≤ 30) (hy : 0 ≤ y ∧ y ≤ 3) : ∀ (k n : Nat) (w : Int) (L : Q4) (M : am_M), w + k = 5 → 1 ≤ w → k < n → PR F g t u M → Q4B L → ∃ N, R_planned_81 n kd c dy y L.1 L.2.1 L.2.2.1 L.2.2.2 w M = some (pnS y (plW F g t kd c dy k w L), N) ∧ LG M N
  | 0, n + 1, w, L, M, he, h0, hn, hR, hB => by
    refine ⟨M, ?_, LG.rf⟩
    unfold R_planned_81 R_planned_198 plW pnS
    rw [c_ge_p (by omega) (by omega), if_pos (by omega), c_ne_p (by omega) (by omega), c_ne_p (by omega) (by omega), c_ne_p (by omega) (by omega)]
    by_cases q0 : y = 0
    · rw [if_neg (fun h => h q0), if_pos q0]
    · rw [if_pos q0, if_neg q0]
      by_cases q1 : y = 1
      · rw [if_neg (fun h => h q1), if_pos q1]
      · rw [if_pos q1, if_neg q1]
        by_cases q2 : y = 2
        · rw [if_neg (fun h => h q2), if_pos q2]
        · rw [if_pos q2, if_neg q2]
  | k + 1, n + 1, w, L, M, he, h0, hn, hR, hB => by
    obtain ⟨N1, a1, a2, a3⟩ := RplE_lp (y := y) (k81 := R_planned_81 n) hW hld hk hc (w := w) (by omega) hd 6 am_big 1 L M (by omega) (by omega) (by decide) hR hB
    obtain ⟨N2, b1, b2⟩ := RplW_lp (y := y) hW hld hk hc hd hy k n (w + 1) _ N1 (by omega) (by omega) (by omega) (hR.lg a3) a2
    refine ⟨N2, ?_, a3.tr b2⟩
    rw [R_planned_81, c_ge_p (by omega) (by omega), if_neg (by omega), a1]
    exact b1
theorem pnS_b {y : Int} {L : Q4} (h : Q4B L) : am_R (pnS y L) := by
  obtain ⟨h1, h2, h3, h4⟩ := h
  unfold pnS
  repeat' split
  all_goals omega
theorem P_planned_ok {n : Nat} {kd c dy y : Int} (hx : am_R kd) (hc : am_R c) (hd : am_R dy) (hy : am_R y) : OK2 n (P_planned kd c dy y) (R_planned kd c dy y) := by
  refine OK2.of (lp := [12, 13, 68]) (lr := [73, 90, 91]) (by decide) (by decide) (fun M r h => P_planned_c kd c dy y M r h) (fun M r h => R_planned_c kd c dy y M r h) (fun F g t u hW => ?_)
  have hl := hW.2.1.1
  have hF := hW.2.2.2.2
  by_cases hq : ((0 ≤ kd ∧ kd ≤ 6) ∧ kd ≠ 3) ∧ (1 ≤ c ∧ c ≤ 99) ∧ (0 ≤ dy ∧ dy ≤ 30) ∧ (0 ≤ y ∧ y ≤ 3) ∧ t 0 0 ≠ -1
  · obtain ⟨⟨hk, hk3⟩, hc', hd', hy', hld⟩ := hq
    have hB0 : Q4B (1000000000, 0, 0, 0) := ⟨⟨by decide, by decide⟩, ⟨by decide, by decide⟩, ⟨by decide, by decide⟩, ⟨by decide, by decide⟩⟩
    refine ⟨pnS y (plW F g t kd c dy 4 1 (1000000000, 0, 0, 0)), F, g, t, u, pnS_b (plW_b hF hc' 4 1 _ (by omega) (by omega) hB0), hW, fun M hC => ?_, fun M hR => ?_⟩
    · have f0 : PF M (am_up M 68 4 1000000000) := PF.rf.up (by decide)
      have hL0 : L4 (1000000000, M 68 5, M 68 6, M 68 7) (am_up M 68 4 1000000000) := by
        unfold L4
        simp (disch := omega) only [c_lt_p, c_eq_p, c_ne_p, c_ge_p, c_gt_p, c_le_p, rd_p, wa_p, wz_p, w8_p, fz_p, fw_p, tw_p, ck_p, ob_s, oc_s, if_pos, if_neg, am_upo, up_s, ne_eq, not_true_eq_false, not_false_eq_true, true_or, or_true, true_and, and_true, false_and, and_false, ck_t, reduceIte, Int.tmod_eq_emod_of_nonneg, Int.tdiv_eq_ediv_of_nonneg]
      obtain ⟨N, a1, a2, a3, a4⟩ := plW_lp hW hld hk hc' hd' 4 am_big 1 _ _ (by omega) (by omega) (by decide) (hC.pf f0) hL0 ⟨by show (0 : Int) ≤ 1000000000; decide, by show (1000000000 : Int) ≤ 1000000000; decide⟩
      rw [plW_i hF hc' _ rfl] at a2
      have e9 : (am_up M 68 4 1000000000) 26 9 = t 0 0 := by
        simp (disch := omega) only [c_lt_p, c_eq_p, c_ne_p, c_ge_p, c_gt_p, c_le_p, rd_p, wa_p, wz_p, w8_p, fz_p, fw_p, tw_p, ck_p, ob_s, oc_s, if_pos, if_neg, am_upo, up_s, ne_eq, not_true_eq_false, not_false_eq_true, true_or, or_true, true_and, and_true, false_and, and_false, ck_t, reduceIte, Int.tmod_eq_emod_of_nonneg, Int.tdiv_eq_ediv_of_nonneg]
        exact ((ld_eq hW.2.1 hC.2.1).2.2 hld).1
      have ht := told_ld hW hC.1 hC.2.1
      rw [if_neg hld] at ht
      refine ⟨N, ?_, (hC.pf (f0.tr a4)).cg (fun _ _ => rfl) (by omega)⟩
      unfold P_planned Overgrowth_planPath_68_26 pnS
      rw [c_lt_p (by omega) (by omega), if_neg (by omega), c_ge_p (by omega) (by omega), if_neg (by omega), c_eq_p (by omega) (by omega), if_neg (by omega), c_lt_p (by omega) (by omega), if_neg (by omega), c_gt_p (by omega) (by omega), if_neg (by omega), c_lt_p (by omega) (by omega), if_neg (by omega), c_gt_p (by omega) (by omega), if_neg (by omega), c_lt_p (by omega) (by omega), if_neg (by omega), c_gt_p (by omega) (by omega), if_neg (by omega), ht, ob_s, c_ne_p (by decide) (by decide), if_pos (by decide), fw_p, e9, a1, ob_s, ck_p hy, a2.1, a2.2.1, a2.2.2.1, a2.2.2.2]
      repeat' split
      all_goals rfl
    · obtain ⟨N, a1, a2⟩ := RplW_lp (y := y) hW hld hk hc' hd' hy' 4 am_big 1 (1000000000, 0, 0, 0) M (by omega) (by omega) (by decide) hR hB0
      have e41 : M 73 41 = t 0 0 := hR.2.1.1.1
      refine ⟨N, ?_, hR.lg a2⟩
      unfold R_planned
      simp (disch := omega) only [c_lt_p, c_eq_p, c_ne_p, c_ge_p, c_gt_p, c_le_p, rd_p, wa_p, wz_p, w8_p, fz_p, fw_p, tw_p, ck_p, ob_s, oc_s, if_pos, if_neg, am_upo, up_s, ne_eq, not_true_eq_false, not_false_eq_true, true_or, or_true, true_and, and_true, false_and, and_false, ck_t, reduceIte, Int.tmod_eq_emod_of_nonneg, Int.tdiv_eq_ediv_of_nonneg, R_lies_eq, e41]
      exact a1
  · refine ⟨-1, F, g, t, u, by decide, hW, fun M hC => ⟨M, ?_, hC.cg (fun _ _ => rfl) (by omega)⟩, fun M hR => ⟨M, ?_, hR⟩⟩
    · unfold P_planned P_planned_64
      by_cases q1 : kd < 0
      · rw [c_lt_p (by omega) (by omega), if_pos (by omega)]
      rw [c_lt_p (by omega) (by omega), if_neg (by omega)]
      by_cases q2 : 7 ≤ kd
      · rw [c_ge_p (by omega) (by omega), if_pos (by omega)]
      rw [c_ge_p (by omega) (by omega), if_neg (by omega)]
      by_cases q3 : kd = 3
      · rw [c_eq_p (by omega) (by omega), if_pos (by omega)]
      rw [c_eq_p (by omega) (by omega), if_neg (by omega)]
      by_cases q4 : c < 1
      · rw [c_lt_p (by omega) (by omega), if_pos (by omega)]
      rw [c_lt_p (by omega) (by omega), if_neg (by omega)]
      by_cases q5 : 99 < c
      · rw [c_gt_p (by omega) (by omega), if_pos (by omega)]
      rw [c_gt_p (by omega) (by omega), if_neg (by omega)]
      by_cases q6 : dy < 0
      · rw [c_lt_p (by omega) (by omega), if_pos (by omega)]
      rw [c_lt_p (by omega) (by omega), if_neg (by omega)]
      by_cases q7 : 30 < dy
      · rw [c_gt_p (by omega) (by omega), if_pos (by omega)]
      rw [c_gt_p (by omega) (by omega), if_neg (by omega)]
      by_cases q8 : y < 0
      · rw [c_lt_p (by omega) (by omega), if_pos (by omega)]
      rw [c_lt_p (by omega) (by omega), if_neg (by omega)]
      by_cases q9 : 3 < y
      · rw [c_gt_p (by omega) (by omega), if_pos (by omega)]
      have ht := told_ld hW hC.1 hC.2.1
      rw [if_pos (by omega)] at ht
      rw [c_gt_p (by omega) (by omega), if_neg (by omega), ht, ob_s, c_ne_p (by decide) (by decide), if_neg (by decide)]
    · have e41 : M 73 41 = t 0 0 := hR.2.1.1.1
      unfold R_planned R_planned_62
      by_cases q1 : 0 ≤ kd ∧ kd ≤ 6
      · by_cases q3 : kd = 3
        · simp (disch := omega) only [c_lt_p, c_eq_p, c_ne_p, c_ge_p, c_gt_p, c_le_p, rd_p, wa_p, wz_p, w8_p, fz_p, fw_p, tw_p, ck_p, ob_s, oc_s, if_pos, if_neg, am_upo, up_s, ne_eq, not_true_eq_false, not_false_eq_true, true_or, or_true, true_and, and_true, false_and, and_false, ck_t, reduceIte, Int.tmod_eq_emod_of_nonneg, Int.tdiv_eq_ediv_of_nonneg, R_lies_eq]
        · by_cases q4 : 1 ≤ c ∧ c ≤ 99
          · by_cases q5 : 0 ≤ dy ∧ dy ≤ 30
            · by_cases q6 : 0 ≤ y ∧ y ≤ 3
              · simp (disch := omega) only [c_lt_p, c_eq_p, c_ne_p, c_ge_p, c_gt_p, c_le_p, rd_p, wa_p, wz_p, w8_p, fz_p, fw_p, tw_p, ck_p, ob_s, oc_s, if_pos, if_neg, am_upo, up_s, ne_eq, not_true_eq_false, not_false_eq_true, true_or, or_true, true_and, and_true, false_and, and_false, ck_t, reduceIte, Int.tmod_eq_emod_of_nonneg, Int.tdiv_eq_ediv_of_nonneg, R_lies_eq, e41]
              · simp (disch := omega) only [c_lt_p, c_eq_p, c_ne_p, c_ge_p, c_gt_p, c_le_p, rd_p, wa_p, wz_p, w8_p, fz_p, fw_p, tw_p, ck_p, ob_s, oc_s, if_pos, if_neg, am_upo, up_s, ne_eq, not_true_eq_false, not_false_eq_true, true_or, or_true, true_and, and_true, false_and, and_false, ck_t, reduceIte, Int.tmod_eq_emod_of_nonneg, Int.tdiv_eq_ediv_of_nonneg, R_lies_eq]
            · simp (disch := omega) only [c_lt_p, c_eq_p, c_ne_p, c_ge_p, c_gt_p, c_le_p, rd_p, wa_p, wz_p, w8_p, fz_p, fw_p, tw_p, ck_p, ob_s, oc_s, if_pos, if_neg, am_upo, up_s, ne_eq, not_true_eq_false, not_false_eq_true, true_or, or_true, true_and, and_true, false_and, and_false, ck_t, reduceIte, Int.tmod_eq_emod_of_nonneg, Int.tdiv_eq_ediv_of_nonneg, R_lies_eq]
          · simp (disch := omega) only [c_lt_p, c_eq_p, c_ne_p, c_ge_p, c_gt_p, c_le_p, rd_p, wa_p, wz_p, w8_p, fz_p, fw_p, tw_p, ck_p, ob_s, oc_s, if_pos, if_neg, am_upo, up_s, ne_eq, not_true_eq_false, not_false_eq_true, true_or, or_true, true_and, and_true, false_and, and_false, ck_t, reduceIte, Int.tmod_eq_emod_of_nonneg, Int.tdiv_eq_ediv_of_nonneg, R_lies_eq]
      · simp (disch := omega) only [c_lt_p, c_eq_p, c_ne_p, c_ge_p, c_gt_p, c_le_p, rd_p, wa_p, wz_p, w8_p, fz_p, fw_p, tw_p, ck_p, ob_s, oc_s, if_pos, if_neg, am_upo, up_s, ne_eq, not_true_eq_false, not_false_eq_true, true_or, or_true, true_and, and_true, false_and, and_false, ck_t, reduceIte, Int.tmod_eq_emod_of_nonneg, Int.tdiv_eq_ediv_of_nonneg, R_lies_eq]
