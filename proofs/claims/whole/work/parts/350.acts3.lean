-- acts: the reference
def RO (M N : am_M) (r : AR) : Prop := TR r.1 N ∧ N 73 76 = r.2.1 ∧ N 73 74 = M 73 74 + r.2.2 ∧ N 73 75 = M 73 75 ∧ RF M N
theorem Rnone {t M : am_M} (hT : TR t M) (h : M 73 76 = 0) : RO M M (t, 0, 0) := ⟨hT, h, by show _ = M 73 74 + 0; omega, rfl, RF.rf⟩
theorem Rdark {t M : am_M} (hT : TR t M) : RO M (am_up M 73 76 1) (t, 1, 0) := by
  refine ⟨hT.o (by decide), upj, ?_, ?_, RF.rf.up (by omega)⟩
  · rw [upx (by decide)]
    show _ = M 73 74 + 0
    omega
  · rw [upx (by decide)]
theorem Rspent {t M : am_M} {w : Int} (hT : TR t M) (h : M 73 76 = 0) : TR (am_up t 0 3 (t 0 3 + w)) (am_up M 73 44 (t 0 3 + w)) ∧ RF M (am_up M 73 44 (t 0 3 + w)) ∧ (am_up M 73 44 (t 0 3 + w)) 73 76 = 0 ∧ (am_up M 73 44 (t 0 3 + w)) 73 74 = M 73 74 ∧ (am_up M 73 44 (t 0 3 + w)) 73 75 = M 73 75 := by
  refine ⟨hT.h3, RF.rf.up (by omega), ?_, ?_, ?_⟩
  · rw [upx (by decide)]
    exact h
  · rw [upx (by decide)]
  · rw [upx (by decide)]
theorem Rchg_lp {g M : am_M} {p : Int} (hg : WG g) (hG : GR g M) (hp : 0 ≤ p ∧ p < 6) (ht : 0 < g 3 p.toNat) : ∀ (k f : Nat) (m : Int), m + k = 6 → 1 ≤ m → k < f → R_changes_27 f ((p + m) % 6) M = some (am_up M 73 41 (ntL g p (k + 1) m))
  | k, 0, m, e, hm, hf => absurd hf (by omega)
  | k, f + 1, m, e, hm, hf => by
    have h1 := (hG.2.2.2 ((p + m) % 6).toNat (by omega)).2
    unfold R_changes_27
    rw [rd_p (by omega), h1]
    rw [ntL]
    by_cases q : 0 < g 3 ((p + m) % 6).toNat
    · rw [if_pos q, if_pos q, c_ne_p (by decide) (by decide), if_pos (by decide), fw_p]
    · rw [if_neg q, if_neg q, c_ne_p (by decide) (by decide), if_neg (by decide), ck_p (by omega), tw_p, Int.tmod_eq_emod_of_nonneg (by omega)]
      cases k with
      | zero =>
        have : (p + m) % 6 = p := by omega
        rw [this] at q
        exact absurd ht q
      | succ k =>
        have ih := Rchg_lp hg hG hp ht k f (m + 1) (by omega) (by omega) (by omega)
        rw [show ((p + m) % 6 + 1) % 6 = (p + (m + 1)) % 6 by omega]
        exact ih
theorem Rchanges_eq {g t M : am_M} (hg : WG g) (hw : WT t) (hLT : LT g t) (hG : GR g M) (hT : TR t M) (h76 : M 73 76 = 0) : ∃ N, R_changes M = some N ∧ RO M N (if t 0 0 = -1 then (t, 0, 0) else spA g t 0 (fun t1 => (am_up t1 0 0 (ntL g (t 0 0) 6 1), 0, 0))) := by
  have hl := hw.1
  have e41 : M 73 41 = t 0 0 := hT.1.1
  have es := R_passes_eq hg hw hG hT (w := 0) (by decide) (by decide)
  unfold R_changes R_changes_16
  rw [e41, c_eq_p (by omega) (by omega)]
  by_cases q0 : t 0 0 = -1
  · rw [if_pos q0, if_pos q0]
    exact ⟨M, rfl, Rnone hT h76⟩
  rw [if_neg q0, if_neg q0]
  unfold spA
  by_cases q : t 0 3 + 0 ≤ g 0 2
  · rw [if_pos q] at es
    obtain ⟨p1, p2, p3, p4, p5⟩ := Rspent (w := 0) hT h76
    have e41' : (am_up M 73 44 (t 0 3 + 0)) 73 41 = t 0 0 := by rw [upx (by decide)]; exact e41
    have hc := Rchg_lp hg (hG.rf p2) (p := t 0 0) (by omega) (hLT q0) 5 am_big 1 (by omega) (by omega) (by decide)
    rw [es, oc_s, c_ne_p (by decide) (by decide), if_pos (by decide), e41', ck_p (by omega), tw_p, Int.tmod_eq_emod_of_nonneg (by omega), hc, if_pos q]
    refine ⟨_, rfl, p1.h0, ?_, ?_, ?_, p2.up (by omega)⟩
    · rw [upx (by decide), p3]
    · rw [upx (by decide), p4]
      show _ = M 73 74 + 0
      omega
    · rw [upx (by decide), p5]
  · rw [if_neg q] at es
    rw [es, oc_s, c_ne_p (by decide) (by decide), if_neg (by decide), if_neg q]
    exact ⟨_, rfl, Rdark hT⟩
theorem RrestL {F : FT} {g : am_M} (hF : FO F) (hg : WG g) : ∀ (k f p : Nat) (t M : am_M), p + k = 6 → k < f → WT t → GR g M → LWR F M → TR t M → ∃ N, R_rests_12 f (p : Int) M = some N ∧ TR (reL F g k p t) N ∧ RF M N ∧ (∀ j, (j < 29 ∨ 35 < j) → N 73 j = M 73 j)
  | 0, f + 1, p, t, M, e, hf, hw, hG, hL, hT => by
    refine ⟨M, ?_, hT, RF.rf, fun _ _ => rfl⟩
    unfold R_rests_12
    rw [c_ge_p (by omega) (by omega), if_pos (by omega)]
  | k + 1, f + 1, p, t, M, e, hf, hw, hG, hL, hT => by
    have hl := hw.1
    have ep : ((p : Int)).toNat = p := by omega
    have h1 := hw.2.2.1 p (by omega)
    have e93 := hT.2.2.1 p (by omega)
    have e94 := (hG.2.2.2 p (by omega)).2
    unfold R_rests_12 R_rests_56 reL
    rw [c_ge_p (by omega) (by omega), if_neg (by omega), rd_p (by omega), ep, e94]
    by_cases q : 0 < g 3 p
    · have hb := hF.1 101 20 (E7 0 0 (g 3 p) (t 1 p) 0 0 (t 0 4)) (by decide)
      obtain ⟨N1, a1, a2⟩ := R_resting_eq (p := (p : Int)) (q := t 1 p) hF hL hg hw hG hT (by omega) (by omega) (by omega)
      rw [ep] at a1
      rw [if_pos q, c_eq_p (by decide) (by decide), if_neg (by decide), rd_p (by omega), ep, e93, rd_p (by omega), ep, e93, a1, oc_s, R_hd0 (by omega), ob_s, wa_p (by omega), ep, if_pos q]
      have f1 : RF M (am_up N1 93 p (hd0 (t 1 p - F 101 20 (E7 0 0 (g 3 p) (t 1 p) 0 0 (t 0 4))))) := a2.rf'.up (by omega)
      obtain ⟨N2, b1, b2, b3, b4⟩ := RrestL hF hg k f (p + 1) _ _ (by omega) (by omega) (hw.g1 (hd0_b _)) (hG.rf f1) (hL.rf f1) ((hT.lg a2).g1 (p := p) (v := hd0 (t 1 p - F 101 20 (E7 0 0 (g 3 p) (t 1 p) 0 0 (t 0 4)))))
      exact ⟨N2, b1, b2, f1.tr b3, fun j hj => by rw [b4 j hj, upo (by decide), a2.2 j hj]⟩
    · rw [if_neg q, c_eq_p (by decide) (by decide), if_pos (by decide), if_neg q]
      exact RrestL hF hg k f (p + 1) t M (by omega) (by omega) hw hG hL hT
theorem Rrests_eq {F : FT} {g t M : am_M} (hF : FO F) (hg : WG g) (hw : WT t) (hG : GR g M) (hL : LWR F M) (hT : TR t M) (h76 : M 73 76 = 0) : ∃ N, R_rests M = some N ∧ RO M N (spA g t 10 (fun t1 => (reL F g 6 0 t1, 0, 0))) := by
  have hl := hw.1
  have hg1 := hg.1
  have es := R_passes_eq hg hw hG hT (w := 10) (by decide) (by decide)
  unfold R_rests spA
  by_cases q : t 0 3 + 10 ≤ g 0 2
  · rw [if_pos q] at es
    obtain ⟨p1, p2, p3, p4, p5⟩ := Rspent (w := 10) hT h76
    obtain ⟨N, a1, a2, a3, a4⟩ := RrestL hF hg 6 am_big 0 _ _ (by omega) (by decide) (hw.h3 (v := t 0 3 + 10) (by omega)) (hG.rf p2) (hL.rf p2) p1
    rw [es, oc_s, c_ne_p (by decide) (by decide), if_pos (by decide), if_pos q]
    refine ⟨N, a1, a2, ?_, ?_, ?_, p2.tr a3⟩
    · rw [a4 76 (by decide), p3]
    · rw [a4 74 (by decide), p4]
      show _ = M 73 74 + 0
      omega
    · rw [a4 75 (by decide), p5]
  · rw [if_neg q] at es
    rw [es, oc_s, c_ne_p (by decide) (by decide), if_neg (by decide), if_neg q]
    exact ⟨_, rfl, Rdark hT⟩
theorem Rmarks_eq {g t M : am_M} {f : Int} (hg : WG g) (hw : WT t) (hG : GR g M) (hT : TR t M) (h76 : M 73 76 = 0) (hf : f = 1 ∨ f = 2) : ∃ N, R_marks f M = some N ∧ RO M N (mkA g t f) := by
  have hl := hw.1
  have hg1 := hg.1
  have e47 : M 73 47 = t 0 2 := hT.1.2.2.1
  have hm := mkS_b hw (t 0 2)
  have em : mkS t (t 0 2) = t 5 (t 0 2).toNat := if_pos (by omega)
  have e98 := (hT.2.1 (t 0 2).toNat (by omega)).2.2.2.1
  have hab := and_b hm.1 hm.2 hf
  have es := R_passes_eq hg hw hG hT (w := 2) (by decide) (by decide)
  unfold R_marks R_marks_35 mkA
  rw [e47, rd_p (by omega), e98, ← em, c_ne_p (by omega) (by decide)]
  by_cases q0 : b_and (mkS t (t 0 2)) f = 0
  · rw [if_neg (fun h => h q0), if_pos q0]
    unfold spA
    by_cases q : t 0 3 + 2 ≤ g 0 2
    · rw [if_pos q] at es
      obtain ⟨p1, p2, p3, p4, p5⟩ := Rspent (w := 2) hT h76
      have e47' : (am_up M 73 44 (t 0 3 + 2)) 73 47 = t 0 2 := by rw [upx (by decide)]; exact e47
      have e98' : (am_up M 73 44 (t 0 3 + 2)) 98 (t 0 2).toNat = t 5 (t 0 2).toNat := by rw [upo (by decide)]; exact e98
      rw [es, oc_s, c_eq_p (by decide) (by decide), if_neg (by decide), e47', rd_p (by omega), e98', wa_p (by omega), if_pos q]
      refine ⟨_, rfl, ?_, ?_, ?_, ?_, p2.up (by omega)⟩
      · rw [← em]
        exact p1.g5
      · rw [upo (by decide), p3]
      · rw [upo (by decide), p4]
        show _ = M 73 74 + 0
        omega
      · rw [upo (by decide), p5]
    · rw [if_neg q] at es
      rw [es, oc_s, c_eq_p (by decide) (by decide), if_pos (by decide), if_neg q]
      exact ⟨_, rfl, Rdark hT⟩
  · rw [if_pos q0, if_neg q0]
    exact ⟨M, rfl, Rnone hT h76⟩
theorem Rlay_eq {g t M : am_M} (hg : WG g) (hw : WT t) (hG : GR g M) (hT : TR t M) (h76 : M 73 76 = 0) : ∃ N, (rd M 99 100 (M 73 47) fun v9 => c_ne v9 0 (R_doesAct_168 M) (oc (R_passes 1 M) fun v10 M11 => c_eq v10 0 (R_doesAct_168 M11) (wz M11 99 100 (M11 73 47) 1 fun M12 => R_doesAct_168 M12))) = some N ∧ RO M N (skA g t) := by
  have hl := hw.1
  have hg1 := hg.1
  have e47 : M 73 47 = t 0 2 := hT.1.2.2.1
  have hm := skS_b hw (t 0 2)
  have em : skS t (t 0 2) = t 6 (t 0 2).toNat := if_pos (by omega)
  have e99 := (hT.2.1 (t 0 2).toNat (by omega)).2.2.2.2
  have es := R_passes_eq hg hw hG hT (w := 1) (by decide) (by decide)
  unfold R_doesAct_168 skA
  rw [e47, rd_p (by omega), e99, ← em, c_ne_p (by omega) (by decide)]
  by_cases q0 : skS t (t 0 2) = 0
  · rw [if_neg (fun h => h q0), if_pos q0]
    unfold spA
    by_cases q : t 0 3 + 1 ≤ g 0 2
    · rw [if_pos q] at es
      obtain ⟨p1, p2, p3, p4, p5⟩ := Rspent (w := 1) hT h76
      have e47' : (am_up M 73 44 (t 0 3 + 1)) 73 47 = t 0 2 := by rw [upx (by decide)]; exact e47
      rw [es, oc_s, c_eq_p (by decide) (by decide), if_neg (by decide), e47', wz_p (by omega), if_pos q]
      refine ⟨_, rfl, p1.g6, ?_, ?_, ?_, p2.up (by omega)⟩
      · rw [upo (by decide), p3]
      · rw [upo (by decide), p4]
        show _ = M 73 74 + 0
        omega
      · rw [upo (by decide), p5]
    · rw [if_neg q] at es
      rw [es, oc_s, c_eq_p (by decide) (by decide), if_pos (by decide), if_neg q]
      exact ⟨_, rfl, Rdark hT⟩
  · rw [if_pos q0, if_neg q0]
    exact ⟨M, rfl, Rnone hT h76⟩
theorem Rcb_eq {g t M : am_M} {c : Int} (hw : WT t) (hG : GR g M) (hT : TR t M) (hl : t 0 1 < 100) (h0 : 0 ≤ c ∧ c < 144) (hon : onB t c = false) : ∃ N, R_comesBehind c M = some N ∧ TR (apT g t c) (am_up N 73 47 (t 0 1)) ∧ RF M N ∧ (∀ j, j ≠ 46 → N 73 j = M 73 j) := by
  have h1 := hw.1
  have e46 : M 73 46 = t 0 1 := hT.1.2.1
  have e42 : M 73 42 = g 0 1 := hG.1.2.1
  refine ⟨am_up (am_up (am_up (am_up (am_up (am_up (am_up M 95 (t 0 1).toNat c) 96 (t 0 1).toNat (g 0 1)) 97 (t 0 1).toNat 0) 98 (t 0 1).toNat 0) 99 (t 0 1).toNat 0) 100 c.toNat (t 0 1)) 73 46 (t 0 1 + 1), ?_, ?_, ?_, ?_⟩
  · unfold R_comesBehind
    simp (disch := omega) only [c_lt_p, c_eq_p, c_ne_p, c_ge_p, c_gt_p, c_le_p, rd_p, wa_p, wz_p, w8_p, fz_p, fw_p, tw_p, ck_p, ob_s, oc_s, if_pos, if_neg, am_upo, up_s, ne_eq, not_true_eq_false, not_false_eq_true, true_or, or_true, true_and, and_true, false_and, and_false, ck_t, reduceIte, Int.tmod_eq_emod_of_nonneg, Int.tdiv_eq_ediv_of_nonneg, e46, e42]
  · refine ⟨?_, fun p hp => ?_, fun p hp => ?_, fun x hx => ?_⟩
    · unfold apT
      simp (disch := omega) only [c_lt_p, c_eq_p, c_ne_p, c_ge_p, c_gt_p, c_le_p, rd_p, wa_p, wz_p, w8_p, fz_p, fw_p, tw_p, ck_p, ob_s, oc_s, if_pos, if_neg, am_upo, up_s, ne_eq, not_true_eq_false, not_false_eq_true, true_or, or_true, true_and, and_true, false_and, and_false, ck_t, reduceIte, Int.tmod_eq_emod_of_nonneg, Int.tdiv_eq_ediv_of_nonneg]
      exact ⟨hT.1.1, hT.1.2.2.2.1, hT.1.2.2.2.2.1, hT.1.2.2.2.2.2⟩
    · unfold apT at hp ⊢
      revert hp
      simp (disch := omega) only [c_lt_p, c_eq_p, c_ne_p, c_ge_p, c_gt_p, c_le_p, rd_p, wa_p, wz_p, w8_p, fz_p, fw_p, tw_p, ck_p, ob_s, oc_s, if_pos, if_neg, am_upo, up_s, ne_eq, not_true_eq_false, not_false_eq_true, true_or, or_true, true_and, and_true, false_and, and_false, ck_t, reduceIte, Int.tmod_eq_emod_of_nonneg, Int.tdiv_eq_ediv_of_nonneg]
      intro hp
      by_cases e : p = (t 0 1).toNat
      · rw [if_pos e, if_pos e, if_pos e, if_pos e, if_pos e, if_pos e, if_pos e, if_pos e, if_pos e, if_pos e]
        exact ⟨rfl, rfl, rfl, rfl, rfl⟩
      · rw [if_neg e, if_neg e, if_neg e, if_neg e, if_neg e, if_neg e, if_neg e, if_neg e, if_neg e, if_neg e]
        exact hT.2.1 p (by omega)
    · unfold apT
      simp (disch := omega) only [c_lt_p, c_eq_p, c_ne_p, c_ge_p, c_gt_p, c_le_p, rd_p, wa_p, wz_p, w8_p, fz_p, fw_p, tw_p, ck_p, ob_s, oc_s, if_pos, if_neg, am_upo, up_s, ne_eq, not_true_eq_false, not_false_eq_true, true_or, or_true, true_and, and_true, false_and, and_false, ck_t, reduceIte, Int.tmod_eq_emod_of_nonneg, Int.tdiv_eq_ediv_of_nonneg]
      exact hT.2.2.1 p hp
    · have hx2 := hT.2.2.2 x hx
      have hon2 := ap_on (g := g) (t := t) (c := c) (x := (x : Int)) (by omega)
      simp (disch := omega) only [c_lt_p, c_eq_p, c_ne_p, c_ge_p, c_gt_p, c_le_p, rd_p, wa_p, wz_p, w8_p, fz_p, fw_p, tw_p, ck_p, ob_s, oc_s, if_pos, if_neg, am_upo, up_s, ne_eq, not_true_eq_false, not_false_eq_true, true_or, or_true, true_and, and_true, false_and, and_false, ck_t, reduceIte, Int.tmod_eq_emod_of_nonneg, Int.tdiv_eq_ediv_of_nonneg]
      by_cases e : x = c.toNat
      · right
        rw [if_pos e]
        unfold apT
        simp (disch := omega) only [c_lt_p, c_eq_p, c_ne_p, c_ge_p, c_gt_p, c_le_p, rd_p, wa_p, wz_p, w8_p, fz_p, fw_p, tw_p, ck_p, ob_s, oc_s, if_pos, if_neg, am_upo, up_s, ne_eq, not_true_eq_false, not_false_eq_true, true_or, or_true, true_and, and_true, false_and, and_false, ck_t, reduceIte, Int.tmod_eq_emod_of_nonneg, Int.tdiv_eq_ediv_of_nonneg]
        omega
      · rw [if_neg e]
        rcases hx2 with ⟨z1, z2⟩ | ⟨z1, z2, z3⟩
        · left
          refine ⟨z1, ?_⟩
          rw [← Bool.not_eq_true, hon2]
          rintro (w | w)
          · rw [z2] at w
            cases w
          · omega
        · right
          unfold apT
          simp (disch := omega) only [c_lt_p, c_eq_p, c_ne_p, c_ge_p, c_gt_p, c_le_p, rd_p, wa_p, wz_p, w8_p, fz_p, fw_p, tw_p, ck_p, ob_s, oc_s, if_pos, if_neg, am_upo, up_s, ne_eq, not_true_eq_false, not_false_eq_true, true_or, or_true, true_and, and_true, false_and, and_false, ck_t, reduceIte, Int.tmod_eq_emod_of_nonneg, Int.tdiv_eq_ediv_of_nonneg]
          exact ⟨z1, by omega, z3⟩
  · exact ((((((RF.rf.up (by omega)).up (by omega)).up (by omega)).up (by omega)).up (by omega)).up (by omega)).up (by omega)
  · intro j hj
    simp (disch := omega) only [c_lt_p, c_eq_p, c_ne_p, c_ge_p, c_gt_p, c_le_p, rd_p, wa_p, wz_p, w8_p, fz_p, fw_p, tw_p, ck_p, ob_s, oc_s, if_pos, if_neg, am_upo, up_s, ne_eq, not_true_eq_false, not_false_eq_true, true_or, or_true, true_and, and_true, false_and, and_false, ck_t, reduceIte, Int.tmod_eq_emod_of_nonneg, Int.tdiv_eq_ediv_of_nonneg]
theorem Rwalk {F : FT} {g t M : am_M} {p f : Int} (hF : FO F) (hg : WG g) (hw : WT t) (hG : GR g M) (hL : LWR F M) (hT : TR t M) (h76 : M 73 76 = 0) (hp : 0 ≤ p ∧ p < t 0 1) (hf : f = 1 ∨ f = 2) : ∃ N, R_goes_61 p p f M = some N ∧ RO M N (spA g t (waS F g t p f) (fun t1 => (am_up t1 0 2 p, 0, 0))) := by
  obtain ⟨N1, a1, a2⟩ := R_walkingTo_eq (p := p) (f := f) hF hL hg hw hG hT hp.1 hp.2 hf
  have hb := waS_b hF g t p f
  have hT1 := hT.lg a2
  have es := R_passes_eq hg hw (hG.lg a2) hT1 (w := waS F g t p f) (by omega) (by omega)
  have n76 : N1 73 76 = 0 := by rw [a2.2 76 (by decide)]; exact h76
  unfold R_goes_61 R_goes_75 spA
  rw [a1, oc_s]
  by_cases q : t 0 3 + waS F g t p f ≤ g 0 2
  · rw [if_pos q] at es
    obtain ⟨p1, p2, p3, p4, p5⟩ := Rspent (w := waS F g t p f) hT1 n76
    rw [es, oc_s, c_eq_p (by decide) (by decide), if_neg (by decide), fw_p, if_pos q]
    refine ⟨_, rfl, p1.h2, ?_, ?_, ?_, a2.rf'.tr (p2.up (by omega))⟩
    · rw [upx (by decide), p3]
    · rw [upx (by decide), p4, a2.2 74 (by decide)]
      show _ = M 73 74 + 0
      omega
    · rw [upx (by decide), p5, a2.2 75 (by decide)]
  · rw [if_neg q] at es
    rw [es, oc_s, c_eq_p (by decide) (by decide), if_pos (by decide), if_neg q]
    obtain ⟨d1, d2, d3, d4, d5⟩ := Rdark hT1
    exact ⟨_, rfl, d1, d2, by rw [d3, a2.2 74 (by decide)], by rw [d4, a2.2 75 (by decide)], a2.rf'.tr d5⟩
theorem Rcuts_eq {F : FT} {g t M : am_M} {c : Int} (hF : FO F) (hg : WG g) (hw : WT t) (hG : GR g M) (hL : LWR F M) (hT : TR t M) (h76 : M 73 76 = 0) (h0 : 0 ≤ c ∧ c < 144) (hc : cutP g t c) : ∃ N, R_cuts c M = some N ∧ RO M N (spA g t (cmS F g t c) (fun t1 => (apT g (am_up t1 1 (t 0 0).toNat (hd0 (t 1 (t 0 0).toNat + moS F g t c))) c, 0, 1))) := by
  obtain ⟨k1, k2, k3, k4, k5⟩ := hc
  have hl := hw.1
  have hg1 := hg.1
  have e75 := hG.2.2.1 c.toNat (by omega)
  have hkc := hg.2.2.1 c.toNat (by omega)
  have hti := hw.2.2.1 (t 0 0).toNat (by omega)
  have e42 : M 73 42 = g 0 1 := hG.1.2.1
  obtain ⟨N1, a1, a2⟩ := R_cutting_eq (k := g 2 c.toNat) (w := g 0 1) hF hL hg hw hG hT k3 (by omega) (by omega)
  have hG1 := hG.lg a2
  have hT1 := hT.lg a2
  have n75 : N1 75 c.toNat = g 2 c.toNat := hG1.2.2.1 c.toNat (by omega)
  have n41 : N1 73 41 = t 0 0 := hT1.1.1
  have n93 : N1 93 (t 0 0).toNat = t 1 (t 0 0).toNat := hT1.2.2.1 _ (by omega)
  obtain ⟨N2, b1, b2⟩ := R_tiring_eq (k := g 2 c.toNat) (p := t 0 0) (q := t 1 (t 0 0).toNat) hF (hL.lg a2) hg hw hG1 hT1 (by omega) (by omega) (by omega) (by omega)
  have em : F 110 20 (E7 (g 2 c.toNat) 0 (g 3 (t 0 0).toNat) (t 1 (t 0 0).toNat) 0 0 (t 0 4)) = moS F g t c := rfl
  have ek : F 99 240 (E7 (g 2 c.toNat) (g 0 1) (g 3 (t 0 0).toNat) (t 1 (t 0 0).toNat) 0 0 (t 0 4)) = cmS F g t c := rfl
  rw [em] at b1
  rw [ek] at a1
  have hmb : 0 ≤ moS F g t c ∧ moS F g t c ≤ 20 := hF.1 _ _ _ (by decide)
  have hcb2 : 0 ≤ cmS F g t c ∧ cmS F g t c ≤ 240 := hF.1 _ _ _ (by decide)
  have f2 := a2.tr b2
  have hG2 := hG.lg f2
  have hT2 := hT.lg f2
  have n76 : N2 73 76 = 0 := by rw [f2.2 76 (by decide)]; exact h76
  have es := R_passes_eq hg hw hG2 hT2 (w := cmS F g t c) (by omega) (by omega)
  unfold R_cuts spA
  rw [rd_p (by omega), e75, e42, a1, oc_s, rd_p (by omega), n75, n41, rd_p (by omega), n93, b1, oc_s]
  by_cases q : t 0 3 + cmS F g t c ≤ g 0 2
  · rw [if_pos q] at es
    obtain ⟨p1, p2, p3, p4, p5⟩ := Rspent (w := cmS F g t c) hT2 n76
    have e41' : (am_up N2 73 44 (t 0 3 + cmS F g t c)) 73 41 = t 0 0 := by rw [upx (by decide)]; exact hT2.1.1
    have e93' : (am_up N2 73 44 (t 0 3 + cmS F g t c)) 93 (t 0 0).toNat = t 1 (t 0 0).toNat := by rw [upo (by decide)]; exact hT2.2.2.1 _ (by omega)
    have hw1 := hw.h3 (v := t 0 3 + cmS F g t c) (by omega)
    have p6 := p1.g1 (p := (t 0 0).toNat) (v := hd0 (t 1 (t 0 0).toNat + moS F g t c))
    have f6 := p2.up (k0 := 93) (j0 := (t 0 0).toNat) (v := hd0 (t 1 (t 0 0).toNat + moS F g t c)) (by omega)
    have hw6 := hw1.g1 (p := (t 0 0).toNat) (hd0_b (t 1 (t 0 0).toNat + moS F g t c))
    have el : (am_up (am_up t 0 3 (t 0 3 + cmS F g t c)) 1 (t 0 0).toNat (hd0 (t 1 (t 0 0).toNat + moS F g t c))) 0 1 = t 0 1 := by rw [upo (by decide), upx (by decide)]
    obtain ⟨N3, c1, c2, c3, c4⟩ := Rcb_eq (c := c) hw6 (hG2.rf f6) p6 (by rw [el]; exact k2) h0 (by
      have e : onB (am_up (am_up t 0 3 (t 0 3 + cmS F g t c)) 1 (t 0 0).toNat (hd0 (t 1 (t 0 0).toNat + moS F g t c))) c = onB t c := by
        unfold onB
        simp (disch := omega) only [c_lt_p, c_eq_p, c_ne_p, c_ge_p, c_gt_p, c_le_p, rd_p, wa_p, wz_p, w8_p, fz_p, fw_p, tw_p, ck_p, ob_s, oc_s, if_pos, if_neg, am_upo, up_s, ne_eq, not_true_eq_false, not_false_eq_true, true_or, or_true, true_and, and_true, false_and, and_false, ck_t, reduceIte, Int.tmod_eq_emod_of_nonneg, Int.tdiv_eq_ediv_of_nonneg]
      rw [e]
      exact k5)
    rw [el] at c2
    have n47 : N3 73 47 = t 0 2 := by rw [c4 47 (by decide), upo (by decide), upx (by decide)]; exact hT2.1.2.2.1
    rw [es, oc_s, c_ne_p (by decide) (by decide), if_pos (by decide), e41', rd_p (by omega), e93', R_hd0 (by omega), ob_s, wa_p (by omega), c1, ob_s, fw_p, fw_p, if_pos q, n47, show t 0 2 + 1 = t 0 1 by omega]
    have n74 : (am_up N3 73 47 (t 0 1)) 73 74 = M 73 74 := by rw [upx (by decide), c4 74 (by decide), upo (by decide), p4, f2.2 74 (by decide)]
    refine ⟨_, rfl, c2.o (by decide), ?_, ?_, ?_, ((f2.rf'.tr (f6.tr c3)).up (by omega)).up (by omega)⟩
    · rw [upx (by decide), upx (by decide), c4 76 (by decide), upo (by decide), p3]
    · rw [upj, n74]
    · rw [upx (by decide), upx (by decide), c4 75 (by decide), upo (by decide), p5, f2.2 75 (by decide)]
  · rw [if_neg q] at es
    rw [es, oc_s, c_ne_p (by decide) (by decide), if_neg (by decide), if_neg q]
    obtain ⟨d1, d2, d3, d4, d5⟩ := Rdark hT2
    exact ⟨_, rfl, d1, d2, by rw [d3, f2.2 74 (by decide)], by rw [d4, f2.2 75 (by decide)], f2.rf'.tr d5⟩
theorem Rgoes_eq {F : FT} {g t M : am_M} {w : Int} (hF : FO F) (hg : WG g) (hw : WT t) (hG : GR g M) (hL : LWR F M) (hT : TR t M) (h76 : M 73 76 = 0) (hww : 0 ≤ w ∧ w < 4) : ∃ N, R_goes w M = some N ∧ RO M N (goA F g t w) := by
  have h1 := hw.1
  have e47 : M 73 47 = t 0 2 := hT.1.2.2.1
  have e46 : M 73 46 = t 0 1 := hT.1.2.1
  have e41 : M 73 41 = t 0 0 := hT.1.1
  have e95 := (hT.2.1 (t 0 2).toNat (by omega)).1
  have ha := (hw.at (p := t 0 2) (by omega) (by omega)).1
  have ec : ceS t (t 0 2) = t 2 (t 0 2).toNat := if_pos (by omega)
  have hnb := nbS_b (c := ceS t (t 0 2)) (w := w) (by omega) (by omega)
  unfold R_goes R_goes_121 R_goes_75 goA
  rw [e47, rd_p (by omega), e95, ← ec, R_beside_eq (by omega) (by omega) hww, ob_s, c_ne_p (by omega) (by omega)]
  by_cases q1 : nbS (ceS t (t 0 2)) w < 0
  · rw [if_neg (by omega), if_pos q1]
    exact ⟨M, rfl, Rnone hT h76⟩
  rw [if_pos (by omega), if_neg q1, rd_p (by omega)]
  have hto := hT.2.2.2 (nbS (ceS t (t 0 2)) w).toNat (by omega)
  rw [show (((nbS (ceS t (t 0 2)) w).toNat : Nat) : Int) = nbS (ceS t (t 0 2)) w by omega] at hto
  obtain ⟨c, hc⟩ : ∃ c, c = nbS (ceS t (t 0 2)) w := ⟨_, rfl⟩
  rw [← hc] at hto hnb q1 ⊢
  obtain ⟨to, hto'⟩ : ∃ to, to = M 100 c.toNat := ⟨_, rfl⟩
  rw [← hto'] at hto ⊢
  rcases hto with ⟨z1, z2⟩ | ⟨z1, z2, z3⟩
  · have hne : ∀ p : Int, c ≠ ceS t p := fun p hp => by
      have hpp := ce_p hw (p := p) (by omega)
      have : onB t c = true := onB_i.mpr ⟨p.toNat, by omega, by rw [hp]; exact (if_pos hpp : ceS t p = t 2 p.toNat).symm⟩
      rw [z2] at this
      cases this
    have hkc := hg.2.2.1 c.toNat (by omega)
    rw [c_eq_p (by omega) (by omega), if_pos z1, if_neg (hne _), if_neg (hne _), e46, c_ne_p (by omega) (by omega)]
    by_cases k1 : t 0 2 = t 0 1 - 1
    · rw [if_neg (fun h => h k1), e41, c_eq_p (by omega) (by omega)]
      by_cases k3 : t 0 0 = -1
      · rw [if_pos k3, if_neg (fun z => z.2.2.1 k3)]
        exact ⟨M, rfl, Rnone hT h76⟩
      · rw [if_neg k3, rd_p (by omega), hG.2.2.1 c.toNat (by omega), c_eq_p (by omega) (by omega)]
        by_cases k4 : g 2 c.toNat = 3
        · rw [if_pos k4, if_neg (fun z => z.2.2.2.1 k4)]
          exact ⟨M, rfl, Rnone hT h76⟩
        · rw [if_neg k4, c_ge_p (by omega) (by omega)]
          by_cases k2 : t 0 1 < 100
          · rw [if_neg (by omega), if_pos ⟨k1, k2, k3, k4, z2⟩]
            obtain ⟨N, a1, a2⟩ := Rcuts_eq hF hg hw hG hL hT h76 ⟨by omega, hnb.2⟩ ⟨k1, k2, k3, k4, z2⟩
            rw [a1, ob_s]
            exact ⟨N, rfl, a2⟩
          · rw [if_pos (by omega), if_neg (fun z => k2 z.2.1)]
            exact ⟨M, rfl, Rnone hT h76⟩
    · rw [if_pos k1, if_neg (fun z => k1 z.1)]
      exact ⟨M, rfl, Rnone hT h76⟩
  · have heq : ∀ p : Int, c = ceS t p ↔ p = to := fun p => by
      constructor
      · intro hp
        have hpp := ce_p hw (p := p) (by omega)
        have e1 : ceS t p = t 2 p.toNat := if_pos hpp
        have := hw.2.2.2 p.toNat to.toNat (by omega) (by omega) (by omega)
        omega
      · intro hp
        have e1 : ceS t p = t 2 p.toNat := if_pos (by omega)
        rw [e1, hp, z3]
    have hon : onB t c = true := onB_i.mpr ⟨to.toNat, by omega, z3⟩
    rw [c_eq_p (by omega) (by omega), if_neg (by omega), R_amount_eq (by omega), ob_s, c_ne_p (by split <;> omega) (by decide)]
    by_cases k1 : to = t 0 2 + 1
    · rw [if_neg (fun h => h (by rw [if_neg (by omega)]; omega)), c_le_p (by omega) (by omega), if_neg (by omega), if_pos ((heq _).mpr k1.symm)]
      have := Rwalk (p := to) (f := 1) hF hg hw hG hL hT h76 (by omega) (Or.inl rfl)
      rw [← k1]
      exact this
    · by_cases k2 : to = t 0 2 - 1
      · rw [if_neg (fun h => h (by rw [if_pos (by omega)]; omega)), c_le_p (by omega) (by omega), if_pos (by omega), if_neg (fun z => k1 ((heq _).mp z).symm), if_pos ((heq _).mpr k2.symm)]
        have := Rwalk (p := to) (f := 2) hF hg hw hG hL hT h76 (by omega) (Or.inr rfl)
        rw [← k2]
        exact this
      · rw [if_pos (by split <;> omega), if_neg (fun z => k1 ((heq _).mp z).symm), if_neg (fun z => k2 ((heq _).mp z).symm), if_neg (fun z => by have := z.2.2.2.2; rw [hon] at this; cases this)]
        exact ⟨M, rfl, Rnone hT h76⟩
theorem RdoesAct_eq {F : FT} {g t M : am_M} {a : Int} (hF : FO F) (hg : WG g) (hw : WT t) (hLT : LT g t) (hG : GR g M) (hL : LWR F M) (hT : TR t M) (h76 : M 73 76 = 0) (hac : acB a) : ∃ N, R_doesAct a M = some N ∧ RO M N (actS F g t a) := by
  have hgo : ∀ w : Int, 0 ≤ w ∧ w < 4 → ∃ N, (ob (R_goes w M) fun M1 => R_doesAct_168 M1) = some N ∧ RO M N (goA F g t w) := fun w hww => by
    obtain ⟨N, b1, b2⟩ := Rgoes_eq hF hg hw hG hL hT h76 hww
    refine ⟨N, ?_, b2⟩
    unfold R_doesAct_168
    rw [b1, ob_s]
  have hmk : ∀ f : Int, f = 1 ∨ f = 2 → ∃ N, (ob (R_marks f M) fun M1 => R_doesAct_168 M1) = some N ∧ RO M N (mkA g t f) := fun f hf => by
    obtain ⟨N, b1, b2⟩ := Rmarks_eq hg hw hG hT h76 hf
    refine ⟨N, ?_, b2⟩
    unfold R_doesAct_168
    rw [b1, ob_s]
  unfold R_doesAct actS
  rw [ck_p (by omega)]
  rcases hac with q | q | q | q | q | q | q | q | q <;> subst q
  · obtain ⟨N, b1, b2⟩ := Rrests_eq hF hg hw hG hL hT h76
    refine ⟨N, ?_, b2⟩
    rw [if_neg (by decide), if_pos rfl, b1, ob_s]
    rfl
  · obtain ⟨N, b1, b2⟩ := Rchanges_eq hg hw hLT hG hT h76
    refine ⟨N, ?_, b2⟩
    rw [if_pos rfl, b1, ob_s]
    rfl
  · exact hmk 1 (Or.inl rfl)
  · exact hmk 2 (Or.inr rfl)
  · exact Rlay_eq hg hw hG hT h76
  · exact hgo 1 (by decide)
  · exact hgo 0 (by decide)
  · exact hgo 2 (by decide)
  · exact hgo 3 (by decide)
theorem Rdo_lp {F : FT} {g : am_M} {ac : Nat → Int} {m : Nat} {x : Int} (hF : FO F) (hg : WG g) (hm : m ≤ 90) (hac : ∀ i, i < m → acB (ac i)) : ∀ (k f i : Nat) (t M : am_M), i + k = m → k < f → WT t → LT g t → GR g M → LWR F M → TR t M → M 73 76 = 0 → M 73 75 = i → (∀ j : Nat, j < m → M 113 j = ac j) → ∃ N, R_doesActs_20 f (m : Int) x M = some ((pfS F g ac k i t (M 73 74)).1 0 3 - x, N) ∧ TR (pfS F g ac k i t (M 73 74)).1 N ∧ N 73 76 = (pfS F g ac k i t (M 73 74)).2.1 ∧ N 73 74 = (pfS F g ac k i t (M 73 74)).2.2.1 ∧ N 73 75 = (pfS F g ac k i t (M 73 74)).2.2.2 ∧ RF M N
  | 0, f + 1, i, t, M, e, hf, hw, hLT, hG, hL, hT, h76, h75, h113 => by
    refine ⟨M, ?_, hT, h76, rfl, h75, RF.rf⟩
    have e44 : M 73 44 = t 0 3 := hT.1.2.2.2.1
    unfold R_doesActs_20 R_doesActs_72 pfS
    rw [h75, c_ge_p (by omega) (by omega), if_pos (by omega), e44]
  | k + 1, f + 1, i, t, M, e, hf, hw, hLT, hG, hL, hT, h76, h75, h113 => by
    obtain ⟨w1, w2, w3, w4⟩ := actS_W hF hg hw hLT (ac i)
    obtain ⟨N1, a1, a2, a3, a4, a5, a6⟩ := RdoesAct_eq (a := ac i) hF hg hw hLT hG hL hT h76 (hac i (by omega))
    unfold R_doesActs_20 R_doesActs_72 R_doesActs_65
    rw [h75, c_ge_p (by omega) (by omega), if_neg (by omega), h76, c_ne_p (by decide) (by decide), if_neg (by decide), rd_p (by omega), show ((i : Int)).toNat = i by omega, h113 i (by omega), a1, ob_s, a3, c_eq_p (by omega) (by decide), a5, h75, fw_p, fw_p]
    unfold pfS
    have n113 : ∀ (v : Int) (j : Nat), j < m → (am_up N1 73 75 v) 113 j = ac j := fun v j hj => by rw [upo (by decide), a6.1 113 (by decide) (by decide) (by decide) (by decide) (by decide)]; exact h113 j hj
    by_cases q : (actS F g t (ac i)).2.1 = 0
    · have f1 := a6.up (k0 := 73) (j0 := 75) (v := (i : Int) + 1) (by omega)
      have n74 : (am_up N1 73 75 ((i : Int) + 1)) 73 74 = M 73 74 + (actS F g t (ac i)).2.2 := by rw [upx (by decide)]; exact a4
      rw [if_pos q, if_pos q, ← n74]
      obtain ⟨N2, b1, b2, b3, b4, b5, b6⟩ := Rdo_lp (x := x) hF hg hm hac k f (i + 1) _ (am_up N1 73 75 ((i : Int) + 1)) (by omega) (by omega) w1 w2 (hG.rf f1) (hL.rf f1) (a2.o (by decide)) (by rw [upx (by decide)]; omega) (by rw [upj]; omega) (n113 _)
      exact ⟨N2, b1, b2, b3, b4, b5, f1.tr b6⟩
    · have f1 := a6.up (k0 := 73) (j0 := 75) (v := (i : Int) + 0) (by omega)
      rw [if_neg q, if_neg q]
      have e44 : (am_up N1 73 75 ((i : Int) + 0)) 73 44 = (actS F g t (ac i)).1 0 3 := by rw [upx (by decide)]; exact a2.1.2.2.2.1
      have e76 : (am_up N1 73 75 ((i : Int) + 0)) 73 76 = (actS F g t (ac i)).2.1 := by rw [upx (by decide)]; exact a3
      refine ⟨am_up N1 73 75 ((i : Int) + 0), ?_, a2.o (by decide), by rw [e76]; show _ = (1 : Int); omega, by rw [upx (by decide)]; exact a4, by rw [upj]; show _ = (i : Int); omega, f1⟩
      obtain ⟨f, rfl⟩ : ∃ f', f = f' + 1 := ⟨f - 1, by omega⟩
      unfold R_doesActs_20 R_doesActs_72
      rw [upj, c_ge_p (by omega) (by omega), if_neg (by omega), e76, c_ne_p (by omega) (by decide), if_pos q, e44]
