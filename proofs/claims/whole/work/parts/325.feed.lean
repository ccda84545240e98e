-- feed
def byS (x s : Int) : Int := b_and (b_ushr x s) 255
theorem byS_b {x s : Int} : 0 ≤ byS x s ∧ byS x s < 256 := by
  unfold byS
  rw [b_and255]
  omega
def pu1 (g : am_M) (b : Int) : am_M := am_up (am_up g 1 (g 0 0).toNat b) 0 0 (g 0 0 + 1)
theorem pu1_W {g : am_M} {b : Int} (h : WG g) (hn : g 0 0 < 260) (hb : 0 ≤ b ∧ b < 256) : WG (pu1 g b) := by
  have h1 := h.1
  unfold WG pu1
  simp (disch := omega) only [c_lt_p, c_eq_p, c_ne_p, c_ge_p, c_gt_p, c_le_p, rd_p, wa_p, wz_p, w8_p, fz_p, fw_p, tw_p, ck_p, ob_s, oc_s, if_pos, if_neg, am_upo, up_s, ne_eq, not_true_eq_false, not_false_eq_true, true_or, or_true, true_and, and_true, false_and, and_false, ck_t, reduceIte, Int.tmod_eq_emod_of_nonneg, Int.tdiv_eq_ediv_of_nonneg]
  refine ⟨by omega, fun i hi => ?_, h.2.2⟩
  by_cases q : i = (g 0 0).toNat
  · rw [if_pos q]
    exact hb
  · rw [if_neg q]
    exact h.2.1 i hi
theorem pu1_0 {g : am_M} {b : Int} : (pu1 g b) 0 0 = g 0 0 + 1 := by
  unfold pu1
  simp (disch := omega) only [c_lt_p, c_eq_p, c_ne_p, c_ge_p, c_gt_p, c_le_p, rd_p, wa_p, wz_p, w8_p, fz_p, fw_p, tw_p, ck_p, ob_s, oc_s, if_pos, if_neg, am_upo, up_s, ne_eq, not_true_eq_false, not_false_eq_true, true_or, or_true, true_and, and_true, false_and, and_false, ck_t, reduceIte, Int.tmod_eq_emod_of_nonneg, Int.tdiv_eq_ediv_of_nonneg]
theorem pu1_j {g : am_M} {b : Int} {j : Nat} (h : j ≠ 0) : (pu1 g b) 0 j = g 0 j := by
  unfold pu1
  simp (disch := omega) only [c_lt_p, c_eq_p, c_ne_p, c_ge_p, c_gt_p, c_le_p, rd_p, wa_p, wz_p, w8_p, fz_p, fw_p, tw_p, ck_p, ob_s, oc_s, if_pos, if_neg, am_upo, up_s, ne_eq, not_true_eq_false, not_false_eq_true, true_or, or_true, true_and, and_true, false_and, and_false, ck_t, reduceIte, Int.tmod_eq_emod_of_nonneg, Int.tdiv_eq_ediv_of_nonneg]
theorem pu1_k {g : am_M} {b : Int} {k : Nat} (h : k ≠ 0) (h1 : k ≠ 1) : (pu1 g b) k = g k := by
  unfold pu1
  simp (disch := omega) only [c_lt_p, c_eq_p, c_ne_p, c_ge_p, c_gt_p, c_le_p, rd_p, wa_p, wz_p, w8_p, fz_p, fw_p, tw_p, ck_p, ob_s, oc_s, if_pos, if_neg, am_upo, up_s, ne_eq, not_true_eq_false, not_false_eq_true, true_or, or_true, true_and, and_true, false_and, and_false, ck_t, reduceIte, Int.tmod_eq_emod_of_nonneg, Int.tdiv_eq_ediv_of_nonneg]
theorem GP.pu {g M : am_M} {b : Int} (hg : WG g) (h : GP g M) (hn : g 0 0 < 260) : GP (pu1 g b) (am_up (am_up M 15 (g 0 0).toNat b) 14 1 (g 0 0 + 1)) := by
  have h1 := hg.1
  unfold GP pu1 at *
  simp (disch := omega) only [c_lt_p, c_eq_p, c_ne_p, c_ge_p, c_gt_p, c_le_p, rd_p, wa_p, wz_p, w8_p, fz_p, fw_p, tw_p, ck_p, ob_s, oc_s, if_pos, if_neg, am_upo, up_s, ne_eq, not_true_eq_false, not_false_eq_true, true_or, or_true, true_and, and_true, false_and, and_false, ck_t, reduceIte, Int.tmod_eq_emod_of_nonneg, Int.tdiv_eq_ediv_of_nonneg]
  refine ⟨h.1.2, fun i hi => ?_, h.2.2⟩
  by_cases q : i = (g 0 0).toNat
  · rw [if_pos q, if_pos q]
  · rw [if_neg q, if_neg q]
    exact h.2.1 i hi
theorem GR.pu {g M : am_M} {b v : Int} (hg : WG g) (h : GR g M) (hn : g 0 0 < 260) (hv : b_and v 255 = b) : GR (pu1 g b) (am_up (am_up M 74 (g 0 0).toNat v) 73 1 (g 0 0 + 1)) := by
  have h1 := hg.1
  unfold GR pu1 at *
  simp (disch := omega) only [c_lt_p, c_eq_p, c_ne_p, c_ge_p, c_gt_p, c_le_p, rd_p, wa_p, wz_p, w8_p, fz_p, fw_p, tw_p, ck_p, ob_s, oc_s, if_pos, if_neg, am_upo, up_s, ne_eq, not_true_eq_false, not_false_eq_true, true_or, or_true, true_and, and_true, false_and, and_false, ck_t, reduceIte, Int.tmod_eq_emod_of_nonneg, Int.tdiv_eq_ediv_of_nonneg]
  refine ⟨h.1.2, fun i hi => ?_, h.2.2⟩
  by_cases q : i = (g 0 0).toNat
  · rw [if_pos q, if_pos q]
    exact hv
  · rw [if_neg q, if_neg q]
    exact h.2.1 i hi
def puS (g : am_M) (x : Int) : Nat → Int → am_M
  | 0, _ => g
  | k + 1, s => puS (pu1 g (byS x s)) x k (s - 8)
theorem puS_p : ∀ (k : Nat) (g : am_M) (x s : Int), WG g → g 0 0 + k ≤ 260 → WG (puS g x k s) ∧ (puS g x k s) 0 0 = g 0 0 + k ∧ (∀ j, j ≠ 0 → (puS g x k s) 0 j = g 0 j) ∧ ∀ c, c ≠ 0 → c ≠ 1 → (puS g x k s) c = g c
  | 0, g, x, s, h, hn => ⟨h, by unfold puS; omega, fun _ _ => rfl, fun _ _ _ => rfl⟩
  | k + 1, g, x, s, h, hn => by
    have h1 := h.1
    have e0 : (pu1 g (byS x s)) 0 0 = g 0 0 + 1 := pu1_0
    obtain ⟨a, b, c, d⟩ := puS_p k (pu1 g (byS x s)) x (s - 8) (pu1_W h (by omega) byS_b) (by rw [e0]; omega)
    refine ⟨a, ?_, ?_, ?_⟩
    · unfold puS
      rw [b, e0]
      omega
    · intro j hj
      unfold puS
      rw [c j hj, pu1_j hj]
    · intro c' h1 h2
      unfold puS
      rw [d c' h1 h2, pu1_k h1 h2]
theorem put_lp : ∀ (k n : Nat) (g M : am_M) (x s : Int), s + 8 = 8 * k → k ≤ 4 → k < n → WG g → GP g M → g 0 0 + k ≤ 260 → ∃ N, Tape_put_3 n x s M = some N ∧ GP (puS g x k s) N ∧ Ch [14, 15] M N
  | 0, n + 1, g, M, x, s, hs, hk, hn, hg, hG, h0 => by
    refine ⟨M, ?_, hG, Ch.rf⟩
    unfold Tape_put_3 Tape_put_49
    simp (disch := omega) only [c_lt_p, c_eq_p, c_ne_p, c_ge_p, c_gt_p, c_le_p, rd_p, wa_p, wz_p, w8_p, fz_p, fw_p, tw_p, ck_p, ob_s, oc_s, if_pos, if_neg, am_upo, up_s, ne_eq, not_true_eq_false, not_false_eq_true, true_or, or_true, true_and, and_true, false_and, and_false, ck_t, reduceIte, Int.tmod_eq_emod_of_nonneg, Int.tdiv_eq_ediv_of_nonneg]
  | k + 1, n + 1, g, M, x, s, hs, hk, hn, hg, hG, h0 => by
    have h1 := hg.1
    have e0 : (pu1 g (byS x s)) 0 0 = g 0 0 + 1 := pu1_0
    have e1 : M 14 1 = g 0 0 := hG.1.1
    obtain ⟨N, a, b, c⟩ := put_lp k n (pu1 g (byS x s)) (am_up (am_up M 15 (g 0 0).toNat (byS x s)) 14 1 (g 0 0 + 1)) x (s - 8) (by omega) (by omega) (by omega) (pu1_W hg (by omega) byS_b) (hG.pu hg (by omega)) (by rw [e0]; omega)
    refine ⟨N, ?_, b, ((Ch.rf.up (by decide) rfl).up (by decide) rfl).tr c (fun _ h => h)⟩
    unfold Tape_put_3
    simp (disch := omega) only [c_lt_p, c_eq_p, c_ne_p, c_ge_p, c_gt_p, c_le_p, rd_p, wa_p, wz_p, w8_p, fz_p, fw_p, tw_p, ck_p, ob_s, oc_s, if_pos, if_neg, am_upo, up_s, ne_eq, not_true_eq_false, not_false_eq_true, true_or, or_true, true_and, and_true, false_and, and_false, ck_t, reduceIte, Int.tmod_eq_emod_of_nonneg, Int.tdiv_eq_ediv_of_nonneg, e1]
    rw [show s + -8 = s - 8 by omega]
    exact a
theorem Tape_put_eq {g M : am_M} {x : Int} (hg : WG g) (hG : GP g M) (h0 : g 0 0 + 4 ≤ 260) : ∃ N, Tape_put x M = some N ∧ GP (puS g x 4 24) N ∧ Ch [14, 15] M N := put_lp 4 am_big g M x 24 (by omega) (by omega) (by decide) hg hG h0
theorem push_lp {x : Int} (hx : am_R x) : ∀ (k n : Nat) (g M : am_M) (s : Int), s + 8 = 8 * k → k ≤ 4 → k < n → WG g → GR g M → g 0 0 + k ≤ 260 → ∃ N, R_push_3 n x s M = some N ∧ GR (puS g x k s) N ∧ (∀ c, c ≠ 73 → c ≠ 74 → N c = M c) ∧ ∀ j, j ≠ 1 → N 73 j = M 73 j
  | 0, n + 1, g, M, s, hs, hk, hn, hg, hG, h0 => by
    refine ⟨M, ?_, hG, fun _ _ _ => rfl, fun _ _ => rfl⟩
    unfold R_push_3
    simp (disch := omega) only [c_lt_p, c_eq_p, c_ne_p, c_ge_p, c_gt_p, c_le_p, rd_p, wa_p, wz_p, w8_p, fz_p, fw_p, tw_p, ck_p, ob_s, oc_s, if_pos, if_neg, am_upo, up_s, ne_eq, not_true_eq_false, not_false_eq_true, true_or, or_true, true_and, and_true, false_and, and_false, ck_t, reduceIte, Int.tmod_eq_emod_of_nonneg, Int.tdiv_eq_ediv_of_nonneg]
  | k + 1, n + 1, g, M, s, hs, hk, hn, hg, hG, h0 => by
    have h1 := hg.1
    have e0 : (pu1 g (byS x s)) 0 0 = g 0 0 + 1 := pu1_0
    have e1 : M 73 1 = g 0 0 := hG.1.1
    obtain ⟨v, hv⟩ : ∃ v, v = b_byte (b_byte (b_shr x s)) := ⟨_, rfl⟩
    have hb : b_and v 255 = byS x s := by
      rw [hv]
      exact feed_b hx (by omega)
    obtain ⟨N, a, b, c, d⟩ := push_lp hx k n (pu1 g (byS x s)) (am_up (am_up M 74 (g 0 0).toNat v) 73 1 (g 0 0 + 1)) (s - 8) (by omega) (by omega) (by omega) (pu1_W hg (by omega) byS_b) (hG.pu hg (by omega) hb) (by rw [e0]; omega)
    refine ⟨N, ?_, b, fun i hi hi2 => ?_, fun j hj => ?_⟩
    · rw [R_push_3, c_lt_p (by omega) (by omega), if_neg (by omega), w8_p (by rw [e1]; omega), e1, fw_p]
      rw [show s + -8 = s - 8 by omega, show (Int32.ofInt (b_byte (b_shr x s))).toInt8.toInt32.toInt = v from hv.symm, upo (by decide), e1]
      exact a
    · rw [c i hi hi2]
      simp (disch := omega) only [c_lt_p, c_eq_p, c_ne_p, c_ge_p, c_gt_p, c_le_p, rd_p, wa_p, wz_p, w8_p, fz_p, fw_p, tw_p, ck_p, ob_s, oc_s, if_pos, if_neg, am_upo, up_s, ne_eq, not_true_eq_false, not_false_eq_true, true_or, or_true, true_and, and_true, false_and, and_false, ck_t, reduceIte, Int.tmod_eq_emod_of_nonneg, Int.tdiv_eq_ediv_of_nonneg]
    · rw [d j hj]
      simp (disch := omega) only [c_lt_p, c_eq_p, c_ne_p, c_ge_p, c_gt_p, c_le_p, rd_p, wa_p, wz_p, w8_p, fz_p, fw_p, tw_p, ck_p, ob_s, oc_s, if_pos, if_neg, am_upo, up_s, ne_eq, not_true_eq_false, not_false_eq_true, true_or, or_true, true_and, and_true, false_and, and_false, ck_t, reduceIte, Int.tmod_eq_emod_of_nonneg, Int.tdiv_eq_ediv_of_nonneg]
theorem R_push_eq {g M : am_M} {x : Int} (hx : am_R x) (hg : WG g) (hG : GR g M) (h0 : g 0 0 + 4 ≤ 260) : ∃ N, R_push x M = some N ∧ GR (puS g x 4 24) N ∧ (∀ c, c ≠ 73 → c ≠ 74 → N c = M c) ∧ ∀ j, j ≠ 1 → N 73 j = M 73 j := push_lp hx 4 am_big g M 24 (by omega) (by omega) (by decide) hg hG h0
def feS (g : am_M) (a b c d e : Int) : am_M := puS (puS (puS (puS (puS g a 4 24) b 4 24) c 4 24) d 4 24) e 4 24
theorem feS_p {g : am_M} {a b c d e : Int} (h : WG g) (hn : g 0 0 + 20 ≤ 260) : (WG (puS g a 4 24) ∧ (puS g a 4 24) 0 0 = g 0 0 + 4) ∧ (WG (puS (puS g a 4 24) b 4 24) ∧ (puS (puS g a 4 24) b 4 24) 0 0 = g 0 0 + 8) ∧ (WG (puS (puS (puS g a 4 24) b 4 24) c 4 24) ∧ (puS (puS (puS g a 4 24) b 4 24) c 4 24) 0 0 = g 0 0 + 12) ∧ (WG (puS (puS (puS (puS g a 4 24) b 4 24) c 4 24) d 4 24) ∧ (puS (puS (puS (puS g a 4 24) b 4 24) c 4 24) d 4 24) 0 0 = g 0 0 + 16) ∧ WG (feS g a b c d e) ∧ (feS g a b c d e) 0 0 = g 0 0 + 20 ∧ (∀ j, j ≠ 0 → (feS g a b c d e) 0 j = g 0 j) ∧ ∀ i, i ≠ 0 → i ≠ 1 → (feS g a b c d e) i = g i := by
  obtain ⟨a1, a2, a3, a4⟩ := puS_p 4 g a 24 h (by omega)
  obtain ⟨b1, b2, b3, b4⟩ := puS_p 4 _ b 24 a1 (by omega)
  obtain ⟨c1, c2, c3, c4⟩ := puS_p 4 _ c 24 b1 (by omega)
  obtain ⟨d1, d2, d3, d4⟩ := puS_p 4 _ d 24 c1 (by omega)
  obtain ⟨e1, e2, e3, e4⟩ := puS_p 4 _ e 24 d1 (by omega)
  refine ⟨⟨a1, by omega⟩, ⟨b1, by omega⟩, ⟨c1, by omega⟩, ⟨d1, by omega⟩, e1, ?_, fun j hj => ?_, fun i h1 h2 => ?_⟩
  · unfold feS
    omega
  · unfold feS
    rw [e3 j hj, d3 j hj, c3 j hj, b3 j hj, a3 j hj]
  · unfold feS
    rw [e4 i h1 h2, d4 i h1 h2, c4 i h1 h2, b4 i h1 h2, a4 i h1 h2]
theorem P_feed_ok {n : Nat} {a b c d e : Int} (ha : am_R a) (hb : am_R b) (hc : am_R c) (hd : am_R d) (he : am_R e) : OK2 n (P_feed a b c d e) (R_feed a b c d e) := by
  refine OK2.of (lp := [14, 15]) (lr := [73, 74]) (by decide) (by decide) (fun M r h => P_feed_c a b c d e M r h) (fun M r h => R_feed_c a b c d e M r h) (fun F g t u hW => ?_)
  have h1 := hW.1.1
  by_cases h0 : g 0 0 + 20 ≤ 260
  · obtain ⟨p1, p2, p3, p4, p5, p6, p7, p8⟩ := feS_p (a := a) (b := b) (c := c) (d := d) (e := e) hW.1 h0
    refine ⟨g 0 0 + 20, F, feS g a b c d e, t, u, by omega, ?_, fun M hC => ?_, fun M hR => ?_⟩
    · obtain ⟨q1, q2, q3, q4, q5⟩ := hW
      unfold PW
      rw [p8 3 (by decide) (by decide), p7 4 (by decide)]
      exact ⟨p5, q2, q3, q4, q5⟩
    · obtain ⟨q1, q2, q3, q4, q5⟩ := hC
      obtain ⟨N1, a1, a2, a3⟩ := Tape_put_eq (x := a) hW.1 q1 (by omega)
      obtain ⟨N2, b1, b2, b3⟩ := Tape_put_eq (x := b) p1.1 a2 (by omega)
      obtain ⟨N3, c1, c2, c3⟩ := Tape_put_eq (x := c) p2.1 b2 (by omega)
      obtain ⟨N4, d1, d2, d3⟩ := Tape_put_eq (x := d) p3.1 c2 (by omega)
      obtain ⟨N5, e1, e2, e3⟩ := Tape_put_eq (x := e) p4.1 d2 (by omega)
      have f := (((a3.tr b3 (fun _ h => h)).tr c3 (fun _ h => h)).tr d3 (fun _ h => h)).tr e3 (fun _ h => h)
      have f' : ∀ k, k ≠ 14 → k ≠ 15 → N5 k = M k := fun k h h2 => f k (by simp; omega)
      have e20 : N5 14 1 = g 0 0 + 20 := by rw [← p6]; exact e2.1.1
      have e14 : M 14 1 = g 0 0 := q1.1.1
      refine ⟨N5, ?_, e2, q2.cg (fun k x y => f' k (by omega) (by omega)), fun q => (q3 (by rw [← p7 4 (by decide)]; exact q)).cg (fun k x y => f' k (by omega) (by omega)), q4.cg (fun k x y => f' k (by omega) (by omega)), q5.cg (fun k x y => f' k (by omega) (by omega)) (by omega)⟩
      unfold P_feed Tape_hasRoom Tape_hasRoom_17 Tape_size
      simp (disch := omega) only [c_lt_p, c_eq_p, c_ne_p, c_ge_p, c_gt_p, c_le_p, rd_p, wa_p, wz_p, w8_p, fz_p, fw_p, tw_p, ck_p, ob_s, oc_s, if_pos, if_neg, am_upo, up_s, ne_eq, not_true_eq_false, not_false_eq_true, true_or, or_true, true_and, and_true, false_and, and_false, ck_t, reduceIte, Int.tmod_eq_emod_of_nonneg, Int.tdiv_eq_ediv_of_nonneg, e14, a1, b1, c1, d1, e1, e20]
    · obtain ⟨q1, q2, q3, q4⟩ := hR
      obtain ⟨N1, a1, a2, a3, a4⟩ := R_push_eq (x := a) ha hW.1 q1 (by omega)
      obtain ⟨N2, b1, b2, b3, b4⟩ := R_push_eq (x := b) hb p1.1 a2 (by omega)
      obtain ⟨N3, c1, c2, c3, c4⟩ := R_push_eq (x := c) hc p2.1 b2 (by omega)
      obtain ⟨N4, d1, d2, d3, d4⟩ := R_push_eq (x := d) hd p3.1 c2 (by omega)
      obtain ⟨N5, e1, e2, e3, e4⟩ := R_push_eq (x := e) he p4.1 d2 (by omega)
      have f' : ∀ k, k ≠ 73 → k ≠ 74 → N5 k = M k := fun k h h2 => by rw [e3 k h h2, d3 k h h2, c3 k h h2, b3 k h h2, a3 k h h2]
      have fj : ∀ j, j ≠ 1 → N5 73 j = M 73 j := fun k h => by rw [e4 k h, d4 k h, c4 k h, b4 k h, a4 k h]
      have e20 : N5 73 1 = g 0 0 + 20 := by rw [← p6]; exact e2.1.1
      have e14 : M 73 1 = g 0 0 := q1.1.1
      refine ⟨N5, ?_, e2, ?_, fun q => (q3 (by rw [← p7 4 (by decide)]; exact q)).cg (fun k x => f' k (by omega) (by omega)), q4.cg (fun k x y => f' k (by omega) (by omega)) (fj 19 (by decide))⟩
      · unfold R_feed
        simp (disch := omega) only [c_lt_p, c_eq_p, c_ne_p, c_ge_p, c_gt_p, c_le_p, rd_p, wa_p, wz_p, w8_p, fz_p, fw_p, tw_p, ck_p, ob_s, oc_s, if_pos, if_neg, am_upo, up_s, ne_eq, not_true_eq_false, not_false_eq_true, true_or, or_true, true_and, and_true, false_and, and_false, ck_t, reduceIte, Int.tmod_eq_emod_of_nonneg, Int.tdiv_eq_ediv_of_nonneg, e14, a1, b1, c1, d1, e1, e20]
      · unfold TR at q2 ⊢
        rw [fj 41 (by decide), fj 46 (by decide), fj 47 (by decide), fj 44 (by decide), fj 45 (by decide), fj 2 (by decide), f' 93 (by decide) (by decide), f' 95 (by decide) (by decide), f' 96 (by decide) (by decide), f' 97 (by decide) (by decide), f' 98 (by decide) (by decide), f' 99 (by decide) (by decide), f' 100 (by decide) (by decide)]
        exact q2
  · refine ⟨-1, F, g, t, u, by decide, hW, fun M hC => ⟨M, ?_, hC.cg (fun _ _ => rfl) (by omega)⟩, fun M hR => ⟨M, ?_, hR⟩⟩
    · have e14 : M 14 1 = g 0 0 := hC.1.1.1
      unfold P_feed Tape_hasRoom Tape_hasRoom_17
      simp (disch := omega) only [c_lt_p, c_eq_p, c_ne_p, c_ge_p, c_gt_p, c_le_p, rd_p, wa_p, wz_p, w8_p, fz_p, fw_p, tw_p, ck_p, ob_s, oc_s, if_pos, if_neg, am_upo, up_s, ne_eq, not_true_eq_false, not_false_eq_true, true_or, or_true, true_and, and_true, false_and, and_false, ck_t, reduceIte, Int.tmod_eq_emod_of_nonneg, Int.tdiv_eq_ediv_of_nonneg, e14]
    · have e14 : M 73 1 = g 0 0 := hR.1.1.1
      unfold R_feed
      simp (disch := omega) only [c_lt_p, c_eq_p, c_ne_p, c_ge_p, c_gt_p, c_le_p, rd_p, wa_p, wz_p, w8_p, fz_p, fw_p, tw_p, ck_p, ob_s, oc_s, if_pos, if_neg, am_upo, up_s, ne_eq, not_true_eq_false, not_false_eq_true, true_or, or_true, true_and, and_true, false_and, and_false, ck_t, reduceIte, Int.tmod_eq_emod_of_nonneg, Int.tdiv_eq_ediv_of_nonneg, e14]
