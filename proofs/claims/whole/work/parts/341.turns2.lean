-- byTurns: the class to its end
theorem tf_note {M : am_M} {y : Int} : TF M (am_cp (am_up M 57 11 y) 61 0 62 0 6) := ⟨fun c h1 h2 h3 h4 => by rw [cp_o (by omega), upo h3], fun j hj => by rw [cp_o (by decide), upx hj]⟩
theorem ft_eq {F : FT} {g t : am_M} {n b : Nat} {mem : Nat → Int} {mo : Int} {st0 : TS} (hF : FO F) (hg : WG g) (hw : WT t) (hm : MB g b mem mo) (hb : b ≤ 4) (hn : n ≤ 6) (h0 : TSB b 0 st0) : ∀ (k f : Nat) (pre : List Int) (s : BS) (M : am_M), pre.length + k = n → k < f → (∀ x, x ∈ pre → 0 ≤ x ∧ x < b) → XY F g t b n mem mo M → RY pre M → YB n M s → (∀ j : Nat, j < b → M 59 (4 * pre.length + j) = (tuF F g t mem st0 pre).1 j) → ∃ N, K_Shifts_fillTurn_R f 0 (pre.length : Int) (tuF F g t mem st0 pre).2 M = some N ∧ YB n N (tr b (upB ttB (yaS F g t mem st0)) k pre s) ∧ XY F g t b n mem mo N ∧ TF M N ∧ (∀ j : Nat, j < pre.length → N 61 j = M 61 j) ∧ (∀ j : Nat, j < 4 * (pre.length + 1) → N 59 j = M 59 j)
  | k, f + 1, pre, s, M, hk, hf, hx, hX, hR, hY, h59 => by
    obtain ⟨hG, hL, hS, hZ⟩ := hX
    obtain ⟨s3, s8, s9, s10⟩ := hS.1
    have hst := (tuF_b (F := F) (t := t) hg hm pre 0 st0 h0 hx).1
    rw [Nat.zero_add] at hst
    have ht1 := hst.2
    have e11 := hY.1
    have hrfl : K_Shifts_fillTurn_R (f + 1) 0 (pre.length : Int) (tuF F g t mem st0 pre).2 M = Shifts_fillTurn_57 (fun b0 b1 M => K_Shifts_fillTurn_R f 0 b0 b1 M) (pre.length : Int) (tuF F g t mem st0 pre).2 M := rfl
    rw [hrfl]
    unfold Shifts_fillTurn_57
    rw [s8, c_ge_p (by omega) (by omega)]
    cases k with
    | zero =>
      rw [if_pos (by omega)]
      unfold Shifts_fillTurn_57_14 Shifts_noteRow_57 Shifts_noteRow_57_28
      rw [e11.1, c_le_p (by omega) (by omega)]
      unfold tr upB
      by_cases q : (tuF F g t mem st0 pre).2 ≤ -s.1
      · rw [if_pos q, ob_s, if_neg (fun h => by have h2 : -(tuF F g t mem st0 pre).2 < s.1 := h.2; omega)]
        exact ⟨M, rfl, hY, ⟨hG, hL, hS, hZ⟩, TF.rf, fun _ _ => rfl, fun _ _ => rfl⟩
      · rw [if_neg q, fw_p, cpy_p (by decide), ob_s, if_pos ⟨rfl, by show -(tuF F g t mem st0 pre).2 < s.1; omega⟩]
        have f1 : TF M (am_cp (am_up M 57 11 (tuF F g t mem st0 pre).2) 61 0 62 0 6) := tf_note
        refine ⟨_, rfl, ⟨⟨?_, ?_, ?_⟩, fun l hl j hj => ?_⟩, ⟨hG.tf f1, hL.tf f1, hS.tf f1, ?_⟩, f1, fun j hj => ?_, fun j hj => ?_⟩
        · rw [show Int.toNat 0 = 0 from rfl, show Int.toNat 6 = 6 from rfl, cp_o (by decide), upj]
          show (tuF F g t mem st0 pre).2 = - -(tuF F g t mem st0 pre).2
          omega
        · show -1000 ≤ -(tuF F g t mem st0 pre).2
          omega
        · show -(tuF F g t mem st0 pre).2 ≤ 1
          omega
        · cases hl
          rw [show Int.toNat 0 = 0 from rfl, show Int.toNat 6 = 6 from rfl, cp_s, if_pos (by omega), upo (by decide)]
          exact hR j (by omega)
        · unfold CZ at hZ ⊢
          rw [cp_o (by decide), upo (by decide)]
          exact hZ
        · rw [cp_o (by decide), upo (by decide)]
        · rw [cp_o (by decide), upo (by decide)]
    | succ k =>
      rw [if_neg (by omega), c_lt_p (by omega) (by omega), if_pos (by omega)]
      obtain ⟨N, a1, a2, a3, a4, a5, a6⟩ := ft_lp (f := f) hF hg hw hm hb hn h0 hk hx (fun i s M hi hX hR hY h59 => by
        have h := ft_eq hF hg hw hm hb hn h0 k f (pre ++ [(i : Int)]) s M (by rw [List.length_append, List.length_singleton]; omega) (by omega) (fun x h => by
          rcases List.mem_append.mp h with z | z
          · exact hx x z
          · rw [List.mem_singleton] at z
            omega) hX hR hY (by rw [List.length_append, List.length_singleton]; exact h59)
        rw [List.length_append, List.length_singleton, show ((pre.length + 1 : Nat) : Int) = (pre.length : Int) + 1 by omega] at h
        exact h) b am_big 0 s M (by omega) (by show _ < 1000000; omega) ⟨hG, hL, hS, hZ⟩ hR hY h59
      exact ⟨N, a1, a2, a3, a4, a5, a6⟩
theorem fill60 {c : Int} : ∀ (k n : Nat) (i : Int) (M : am_M), i + k = 800 → 0 ≤ i → k < n → (∀ j : Nat, (j : Int) < i → M 60 j = c) → ∃ M1, J_fill_60_5 n c i 800 M = some M1 ∧ (∀ k, k ≠ 60 → M1 k = M k) ∧ ∀ j : Nat, j < 800 → M1 60 j = c
  | 0, n + 1, i, M, e, h0, hn, hj => by
    refine ⟨M, ?_, fun _ _ => rfl, fun j h => hj j (by omega)⟩
    unfold J_fill_60_5
    simp (disch := omega) only [c_lt_p, c_eq_p, c_ne_p, c_ge_p, c_gt_p, c_le_p, rd_p, wa_p, wz_p, w8_p, fz_p, fw_p, tw_p, ck_p, ob_s, oc_s, if_pos, if_neg, am_upo, up_s, ne_eq, not_true_eq_false, not_false_eq_true, true_or, or_true, true_and, and_true, false_and, and_false, ck_t, reduceIte, Int.tmod_eq_emod_of_nonneg, Int.tdiv_eq_ediv_of_nonneg]
  | k + 1, n + 1, i, M, e, h0, hn, hj => by
    obtain ⟨M1, h1, h2, h3⟩ := fill60 (c := c) k n (i + 1) (am_up M 60 i.toNat c) (by omega) (by omega) (by omega) (fun j h => by
      by_cases q : j = i.toNat
      · rw [q, upj]
      · rw [upx q]
        exact hj j (by omega))
    refine ⟨M1, ?_, fun k hk => by rw [h2 k hk, upo hk], h3⟩
    unfold J_fill_60_5
    simp (disch := omega) only [c_lt_p, c_eq_p, c_ne_p, c_ge_p, c_gt_p, c_le_p, rd_p, wa_p, wz_p, w8_p, fz_p, fw_p, tw_p, ck_p, ob_s, oc_s, if_pos, if_neg, am_upo, up_s, ne_eq, not_true_eq_false, not_false_eq_true, true_or, or_true, true_and, and_true, false_and, and_false, ck_t, reduceIte, Int.tmod_eq_emod_of_nonneg, Int.tdiv_eq_ediv_of_nonneg]
    exact h1
/-- the rows' best -/
def byV (F : FT) (g t : am_M) (b n : Nat) (mem : Nat → Int) : BS := tr b (upB ttB (yaS F g t mem (fun k => t 1 (mem k).toNat, 0))) n [] (1, none)
theorem fb_34 {F : FT} {g t u : am_M} {n0 n b : Nat} {mem : Nat → Int} (hW : PW F g t u) (hb : b ≤ 4) (hn : n ≤ 6) (hmm : ∀ k : Nat, k < b → 0 ≤ mem k ∧ mem k < 6) : ∀ (k f i : Nat) (M : am_M), i + k = b → k < f → PC F g t u n0 M → (M 57 3 = b ∧ M 57 8 = n ∧ M 57 10 = t 0 4 ∧ M 57 11 = -1) → (∀ j : Nat, j < b → M 58 j = mem j) → (∀ j : Nat, j < 800 → M 60 j = -100) → (0 ≤ M 57 9 ∧ M 57 9 ≤ 90) → (∀ j : Nat, j < i → 10 * g 3 (mem j).toNat ≤ M 57 9 ∧ M 59 j = t 1 (mem j).toNat) → ∃ N, Shifts_findBest_57_26_34 f (i : Int) M = some N ∧ YB n N (byV F g t b n mem) ∧ N 57 3 = b ∧ N 57 8 = n ∧ (∀ j : Nat, j < b → N 58 j = mem j) ∧ PC F g t u n0 N
  | 0, f + 1, i, M, e, hf, hC, h57, h58, h60, h9, hj => by
    have hm : MB g b mem (M 57 9) := ⟨h9, fun k hk => ⟨hmm k hk, (hj k (by omega)).1⟩⟩
    have h0 : TSB b 0 (fun k => t 1 (mem k).toNat, (0 : Int)) := ⟨fun j hj => hW.2.1.2.2.1 _ (by have := hmm j hj; omega), Int.le_refl _, by show (0 : Int) ≤ 90 * ((0 : Nat) : Int); omega⟩
    have hS : SY t b n mem (M 57 9) M := ⟨⟨h57.1, h57.2.1, rfl, h57.2.2.1⟩, h58⟩
    obtain ⟨N, a1, a2, a3, a4, a5, a6⟩ := ft_eq hW.2.2.2.2 hW.1 hW.2.1 hm hb hn h0 n 40 [] (1, none) M (by rw [List.length_nil]; omega) (by omega) (fun x hx => by cases hx) ⟨hC.1, hC.2.2.2.1, hS, fun k q hk hq => ⟨Or.inl (h60 _ (by omega)), Or.inl (h60 _ (by omega))⟩⟩ (fun j hj => by rw [List.length_nil] at hj; omega) ⟨⟨h57.2.2.2, by decide, by decide⟩, fun l h => by cases h⟩ (fun j hj' => by rw [List.length_nil, Nat.mul_zero, Nat.zero_add]; exact (hj j (by omega)).2)
    have a1' : K_Shifts_fillTurn 0 0 M = some N := a1
    refine ⟨N, ?_, a2, a3.2.2.1.1.1, a3.2.2.1.1.2.1, a3.2.2.1.2, hC.ge (fun c h1 h2 h3 h4 h5 => a4.1 c h1 h2 (by omega) (by omega))⟩
    unfold Shifts_findBest_57_26_34 Shifts_findBest_57_26_96
    rw [h57.1, c_ge_p (by omega) (by omega), if_pos (by omega), a1', ob_s]
  | k + 1, f + 1, i, M, e, hf, hC, h57, h58, h60, h9, hj => by
    have hmi := hmm i (by omega)
    have hti := hW.2.1.2.2.1 (mem i).toNat (by omega)
    have hgi := hW.1.2.2.2 (mem i).toNat (by omega)
    obtain ⟨M3, hM3⟩ : ∃ M3, M3 = am_up M 59 i (t 1 (mem i).toNat) := ⟨_, rfl⟩
    have hC3 : PC F g t u n0 M3 := hC.ge (fun c h1 h2 h3 h4 h5 => by rw [hM3, upo (by omega)])
    have m57 : M3 57 = M 57 := by rw [hM3, upo (by decide)]
    have m58 : M3 58 = M 58 := by rw [hM3, upo (by decide)]
    have m60 : M3 60 = M 60 := by rw [hM3, upo (by decide)]
    have ar : Country_armOf_1 (mem i) M3 = some (g 3 (mem i).toNat) := by
      rw [Country_armOf_eq (by omega), if_pos hmi, hC3.1.2.2.2 _ (by omega)]
    obtain ⟨y, hy⟩ : ∃ y, y = (if M 57 9 < 10 * g 3 (mem i).toNat then 10 * g 3 (mem i).toNat else M 57 9) := ⟨_, rfl⟩
    have hyb : M 57 9 ≤ y ∧ 10 * g 3 (mem i).toNat ≤ y ∧ y ≤ 90 := by
      rw [hy]
      split <;> omega
    obtain ⟨N, a1, a2, a3, a4, a5, a6⟩ := fb_34 hW hb hn hmm k f (i + 1) (am_up M3 57 9 y) (by omega) (by omega) (hC3.ge (fun c h1 h2 h3 h4 h5 => upo (by omega))) (by rw [upx (by decide), upx (by decide), upx (by decide), upx (by decide), m57]; exact h57) (fun j hj => by rw [upo (by decide), m58]; exact h58 j hj) (fun j hj => by rw [upo (by decide), m60]; exact h60 j hj) (by rw [upj]; omega) (fun j hj' => by
      rw [upj, upo (by decide), hM3]
      by_cases z : j = i
      · rw [z, upj]
        exact ⟨hyb.2.1, rfl⟩
      · rw [upx z]
        have := hj j (by omega)
        exact ⟨by omega, this.2⟩)
    refine ⟨N, ?_, a2, a3, a4, a5, a6⟩
    unfold Shifts_findBest_57_26_34
    rw [h57.1, c_ge_p (by omega) (by omega), if_neg (by omega), c_ge_p (by omega) (by omega), if_neg (by omega), rd_p (by omega), show ((i : Int)).toNat = i by omega, h58 i (by omega), Trip_tiredOf_26_eq hC.2.1 hmi.1 hmi.2, ob_s, wa_p (by omega), show ((i : Int)).toNat = i by omega, ← hM3, rd_p (by omega), show ((i : Int)).toNat = i by omega, m58, h58 i (by omega), ar, ob_s, m57, J_max_eq (by omega) (by omega), ob_s, fw_p, ← hy]
    exact a1
theorem findBest_eq {F : FT} {g t u M : am_M} {n0 n b : Nat} {mem : Nat → Int} (hW : PW F g t u) (hb : b ≤ 4) (hn : n ≤ 6) (hmm : ∀ k : Nat, k < b → 0 ≤ mem k ∧ mem k < 6) (hC : PC F g t u n0 M) (h3 : M 57 3 = b) (h58 : ∀ j : Nat, j < b → M 58 j = mem j) : ∃ N, Shifts_findBest_57_26 (n : Int) M = some N ∧ YB n N (byV F g t b n mem) ∧ N 57 3 = b ∧ N 57 8 = n ∧ (∀ j : Nat, j < b → N 58 j = mem j) ∧ PC F g t u n0 N := by
  obtain ⟨M4, hM4⟩ : ∃ M4, M4 = am_up (am_up (am_up (am_up M 57 8 (n : Int)) 57 10 (t 0 4)) 57 11 (-1)) 57 9 0 := ⟨_, rfl⟩
  obtain ⟨M5, a1, a2, a3⟩ := fill60 (c := -100) 800 am_big 0 M4 (by omega) (by omega) (by decide) (fun j h => by omega)
  have a1' : J_fill_60 (-100) M4 = some M5 := a1
  have e13 : M 26 13 = t 0 4 := hC.2.1.1.2.2.2.2.1
  have o4 : ∀ c, c ≠ 57 → M4 c = M c := fun c h => by rw [hM4, upo h, upo h, upo h, upo h]
  have f57 : M5 57 = M4 57 := a2 57 (by decide)
  obtain ⟨N, b1, b2, b3, b4, b5, b6⟩ := fb_34 (n := n) hW hb hn hmm b am_big 0 M5 (by omega) (by show _ < 1000000; omega) (hC.ge (fun c h1 h2 h3 h4 h5 => by rw [a2 c (by omega), o4 c (by omega)])) (by
    rw [f57, hM4]
    simp (disch := omega) only [c_lt_p, c_eq_p, c_ne_p, c_ge_p, c_gt_p, c_le_p, rd_p, wa_p, wz_p, w8_p, fz_p, fw_p, tw_p, ck_p, ob_s, oc_s, if_pos, if_neg, am_upo, up_s, ne_eq, not_true_eq_false, not_false_eq_true, true_or, or_true, true_and, and_true, false_and, and_false, ck_t, reduceIte, Int.tmod_eq_emod_of_nonneg, Int.tdiv_eq_ediv_of_nonneg]
    exact h3) (fun j hj => by rw [a2 58 (by decide), o4 58 (by decide)]; exact h58 j hj) a3 (by rw [f57, hM4, upj]; omega) (fun j hj => by omega)
  refine ⟨N, ?_, b2, b3, b4, b5, b6⟩
  unfold Shifts_findBest_57_26
  rw [fw_p, fw_p, upo (show (26 : Nat) ≠ 57 by decide), e13, fw_p, fw_p, ← hM4, a1', ob_s]
  exact b1
-- who is chosen
def pmS (x : Nat) : Nat → Nat → List Int
  | 0, _ => []
  | k + 1, p => if x.testBit p then (p : Int) :: pmS x k (p + 1) else pmS x k (p + 1)
theorem pmS_in (x : Nat) : ∀ (k p : Nat) (y : Int), y ∈ pmS x k p → (p : Int) ≤ y ∧ y < p + k
  | 0, p, y, h => by cases h
  | k + 1, p, y, h => by
    unfold pmS at h
    split at h
    · rcases List.mem_cons.mp h with z | z
      · omega
      · have := pmS_in x k (p + 1) y z
        omega
    · have := pmS_in x k (p + 1) y h
      omega
def bcE (x : Int) : Int := (J_bitCount x (fun _ _ => 0)).getD 0
theorem bc_eq {x : Nat} (h : x < 64) {M : am_M} : J_bitCount (x : Int) M = some (((pmS x 6 0).length : Nat) : Int) := by
  have key : ∀ y : Fin 64, bcE ((y.val : Nat) : Int) = (((pmS y.val 6 0).length : Nat) : Int) := by decide +kernel
  have h1 : J_bitCount (x : Int) M = some (bcE (x : Int)) := rfl
  rw [h1, key ⟨x, h⟩]
theorem pc_st : ∀ y : Fin 64, y.val ≠ 0 → (pmS (y.val &&& (y.val - 1)) 6 0).length + 1 = (pmS y.val 6 0).length ∧ (y.val &&& (y.val - 1)) < y.val := by decide +kernel
theorem size_lp {M : am_M} : ∀ (x f c : Nat), x < 64 → x < f → R_sizeOf_4 f (c : Int) (x : Int) M = some ((c + (pmS x 6 0).length : Nat) : Int) := by
  intro x
  induction x using Nat.strongRecOn with
  | _ x ih =>
    intro f c hx hf
    obtain ⟨f, rfl⟩ : ∃ f', f = f' + 1 := ⟨f - 1, by omega⟩
    unfold R_sizeOf_4
    rw [c_eq_p (by omega) (by omega)]
    by_cases q : x = 0
    · subst q
      rw [if_pos (by omega)]
      rfl
    · obtain ⟨a1, a2⟩ := pc_st ⟨x, hx⟩ q
      have a1' : (pmS (x &&& (x - 1)) 6 0).length + 1 = (pmS x 6 0).length := a1
      have a2' : x &&& (x - 1) < x := a2
      have hb := b_and_n (a := x) (b := x - 1) (by omega) (by omega)
      rw [if_neg (by omega), show (x : Int) - 1 = ((x - 1 : Nat) : Int) by omega, hb, show (c : Int) + 1 = ((c + 1 : Nat) : Int) by omega, ih _ a2' f (c + 1) (by omega) (by omega)]
      congr 1
      omega
theorem sizeOf_eq {M : am_M} {x : Nat} (h : x < 64) : R_sizeOf (x : Int) M = some (((pmS x 6 0).length : Nat) : Int) := by
  have := size_lp (M := M) x am_big 0 h (by show _ < 1000000; omega)
  rw [Nat.zero_add] at this
  exact this
theorem b_and_R (x y : Int) : am_R (b_and x y) := by
  have h : b_and x y = (Int32.ofInt x &&& Int32.ofInt y).toInt := rfl
  rw [h]
  have h1 := (Int32.ofInt x &&& Int32.ofInt y).le_toInt
  have h2 := (Int32.ofInt x &&& Int32.ofInt y).toInt_lt
  omega
theorem big_no {m k : Nat} (hm : m < 2147483648) (h64 : 64 ≤ m) (hk : k < 64) : b_and (m : Int) (b_xor (k : Int) (-1)) ≠ 0 := by
  intro h
  have e1 : b_xor (k : Int) (-1) = (Int32.ofInt (k : Int) ^^^ Int32.ofInt (-1)).toInt := rfl
  have e2 : b_and (m : Int) (b_xor (k : Int) (-1)) = (Int32.ofInt (m : Int) &&& Int32.ofInt (b_xor (k : Int) (-1))).toInt := rfl
  rw [e2, e1, Int32.ofInt_toInt] at h
  have h2 : (Int32.ofInt (m : Int) &&& (Int32.ofInt (k : Int) ^^^ Int32.ofInt (-1))).toBitVec = 0#32 := by
    apply BitVec.eq_of_toInt_eq
    rw [Int32.toInt_toBitVec, h]
    rfl
  rw [Int32.toBitVec_and, Int32.toBitVec_xor] at h2
  have hlt : m < 2 ^ 6 := by
    apply Nat.lt_pow_two_of_testBit
    intro i hi
    by_cases q : i < 32
    · have h3 := congrArg (fun v => v.getLsbD i) h2
      have e3 : (Int32.ofInt (-1)).toBitVec.getLsbD i = true := by
        have : (Int32.ofInt (-1)).toBitVec = BitVec.allOnes 32 := by decide
        rw [this, BitVec.getLsbD_allOnes]
        exact decide_eq_true q
      have e4 : (Int32.ofInt (k : Int)).toBitVec.getLsbD i = false := by
        show (Int32.ofInt (k : Int)).toBitVec.toNat.testBit i = false
        rw [i32n (by omega)]
        exact Nat.testBit_lt_two_pow (Nat.lt_of_lt_of_le hk (Nat.le_trans (by decide : 64 ≤ 2 ^ 6) (Nat.pow_le_pow_right (by decide) hi)))
      have e5 : (Int32.ofInt (m : Int)).toBitVec.getLsbD i = m.testBit i := by
        show (Int32.ofInt (m : Int)).toBitVec.toNat.testBit i = m.testBit i
        rw [i32n hm]
      rw [BitVec.getLsbD_and, BitVec.getLsbD_xor, e3, e4, e5] at h3
      simpa using h3
    · exact Nat.testBit_lt_two_pow (Nat.lt_of_lt_of_le hm (Nat.le_trans (by decide : 2147483648 ≤ 2 ^ 31) (Nat.pow_le_pow_right (by decide) (by omega))))
  omega
theorem cho_lp {x : Nat} (hx : x < 64) : ∀ (k f p : Nat) (acc : List Int) (M : am_M), p + k = 6 → k < f → (acc ++ pmS x k p).length ≤ 4 → M 57 3 = acc.length → (∀ j : Nat, j < acc.length → M 58 j = acc.getD j 0) → ∃ N, Shifts_choosePeople_57_35 f (x : Int) (p : Int) M = some (1, N) ∧ N 57 3 = (acc ++ pmS x k p).length ∧ (∀ j : Nat, j < (acc ++ pmS x k p).length → N 58 j = (acc ++ pmS x k p).getD j 0) ∧ (∀ c, c ≠ 57 → c ≠ 58 → N c = M c)
  | 0, f + 1, p, acc, M, e, hf, hl, h3, h58 => by
    refine ⟨M, ?_, ?_, ?_, fun _ _ _ => rfl⟩
    · unfold Shifts_choosePeople_57_35
      rw [c_ge_p (by omega) (by omega), if_pos (by omega)]
    · unfold pmS
      rw [List.append_nil]
      exact h3
    · unfold pmS
      rw [List.append_nil]
      exact h58
  | k + 1, f + 1, p, acc, M, e, hf, hl, h3, h58 => by
    unfold Shifts_choosePeople_57_35 Shifts_choosePeople_57_77
    rw [c_ge_p (by omega) (by omega), if_neg (by omega), bit_at (by omega) (by omega)]
    unfold pmS at hl ⊢
    by_cases q : x.testBit p = true
    · rw [if_pos q] at hl
      rw [if_pos q, if_pos q, c_eq_p (by decide) (by decide), if_neg (by decide)]
      have el : (acc ++ (p : Int) :: pmS x k (p + 1)) = (acc ++ [(p : Int)]) ++ pmS x k (p + 1) := by
        rw [List.append_assoc]
        rfl
      rw [el] at hl ⊢
      have hl4 : acc.length < 4 := by
        rw [List.length_append, List.length_append, List.length_singleton] at hl
        omega
      rw [h3, c_ge_p (by omega) (by omega), if_neg (by omega), wa_p (by omega), fw_p, upo (show (57 : Nat) ≠ 58 by decide), h3, show ((acc.length : Int)).toNat = acc.length by omega]
      obtain ⟨N, a1, a2, a3, a4⟩ := cho_lp hx k f (p + 1) (acc ++ [(p : Int)]) (am_up (am_up M 58 acc.length (p : Int)) 57 3 ((acc.length : Int) + 1)) (by omega) (by omega) hl (by rw [upj, List.length_append, List.length_singleton]; omega) (fun j hj => by
        rw [List.length_append, List.length_singleton] at hj
        rw [upo (by decide), gD_app]
        by_cases z : j = acc.length
        · rw [if_pos z, z, upj]
        · rw [if_neg z, upx z]
          exact h58 j (by omega))
      exact ⟨N, a1, a2, a3, fun c z1 z2 => by rw [a4 c z1 z2, upo z1, upo z2]⟩
    · rw [if_neg q] at hl
      rw [if_neg q, if_neg q, c_eq_p (by decide) (by decide), if_pos (by decide)]
      obtain ⟨N, a1, a2, a3, a4⟩ := cho_lp hx k f (p + 1) acc M (by omega) (by omega) hl h3 h58
      exact ⟨N, a1, a2, a3, a4⟩
theorem R_has_eq {x p : Nat} {M : am_M} (hx : x < 64) (hp : p < 6) : R_has (x : Int) (p : Int) M = some (if x.testBit p then 1 else 0) := by
  unfold R_has R_has_14
  rw [bit_at (by omega) (by omega)]
  by_cases q : x.testBit p = true
  · rw [if_pos q, c_ne_p (by decide) (by decide), if_neg (by decide), ck_p (by decide)]
  · rw [if_neg q, c_ne_p (by decide) (by decide), if_pos (by decide), ck_p (by decide)]
theorem rcho_lp {x : Nat} {n y : Int} (hx : x < 64) : ∀ (k f p : Nat) (acc : List Int) (M : am_M), p + k = 6 → k < f → (acc ++ pmS x k p).length ≤ 4 → (∀ j : Nat, j < acc.length → M 120 j = acc.getD j 0) → ∃ N, R_byTurns_77 f n (x : Int) y (acc.length : Int) (p : Int) M = R_byTurns_120 am_big n y (((acc ++ pmS x k p).length : Nat) : Int) (-1) 0 N ∧ (∀ j : Nat, j < (acc ++ pmS x k p).length → N 120 j = (acc ++ pmS x k p).getD j 0) ∧ (∀ c, c ≠ 120 → N c = M c)
  | 0, f + 1, p, acc, M, e, hf, hl, h58 => by
    refine ⟨M, ?_, ?_, fun _ _ => rfl⟩
    · unfold R_byTurns_77 pmS
      rw [c_ge_p (by omega) (by omega), if_pos (by omega), List.append_nil]
    · unfold pmS
      rw [List.append_nil]
      exact h58
  | k + 1, f + 1, p, acc, M, e, hf, hl, h58 => by
    unfold R_byTurns_77 R_byTurns_108
    rw [c_ge_p (by omega) (by omega), if_neg (by omega), R_has_eq hx (by omega), ob_s]
    unfold pmS at hl ⊢
    by_cases q : x.testBit p = true
    · rw [if_pos q] at hl
      rw [if_pos q, if_pos q, c_ne_p (by decide) (by decide), if_pos (by decide)]
      have el : (acc ++ (p : Int) :: pmS x k (p + 1)) = (acc ++ [(p : Int)]) ++ pmS x k (p + 1) := by
        rw [List.append_assoc]
        rfl
      rw [el] at hl ⊢
      have hl4 : acc.length < 4 := by
        rw [List.length_append, List.length_append, List.length_singleton] at hl
        omega
      rw [wa_p (by omega), show ((acc.length : Int)).toNat = acc.length by omega]
      obtain ⟨N, a1, a2, a3⟩ := rcho_lp (n := n) (y := y) hx k f (p + 1) (acc ++ [(p : Int)]) (am_up M 120 acc.length (p : Int)) (by omega) (by omega) hl (fun j hj => by
        rw [List.length_append, List.length_singleton] at hj
        rw [gD_app]
        by_cases z : j = acc.length
        · rw [if_pos z, z, upj]
        · rw [if_neg z, upx z]
          exact h58 j (by omega))
      rw [List.length_append, List.length_singleton, show ((acc.length + 1 : Nat) : Int) = (acc.length : Int) + 1 by omega] at a1
      exact ⟨N, a1, a2, fun c z1 => by rw [a3 c z1, upo z1]⟩
    · rw [if_neg q] at hl
      rw [if_neg q, if_neg q, c_ne_p (by decide) (by decide), if_neg (by decide)]
      obtain ⟨N, a1, a2, a3⟩ := rcho_lp (n := n) (y := y) hx k f (p + 1) acc M (by omega) (by omega) hl h58
      exact ⟨N, a1, a2, a3⟩
