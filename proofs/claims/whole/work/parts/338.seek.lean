-- seek
theorem PC.ge {F : FT} {g t u M N : am_M} {n : Nat} (h : PC F g t u n M) (e : ∀ k, k ≠ 12 → k ≠ 13 → (k < 34 ∨ 41 < k) → (k < 50 ∨ 67 < k) → k < 70 → N k = M k) : PC F g t u n N := by
  refine ⟨?_, h.2.1.cg (fun k a b => e k (by omega) (by omega) (by omega) (by omega) (by omega)), fun q => (h.2.2.1 q).cg (fun k a b => e k (by omega) (by omega) (by omega) (by omega) (by omega)), h.2.2.2.1.cg (fun k a b => e k (by omega) (by omega) (by omega) (by omega) (by omega)), h.2.2.2.2.cg (fun k a b => e k (by omega) (by omega) (by omega) (by omega) (by omega)) (Nat.le_refl _)⟩
  have h1 := h.1
  unfold GP at h1 ⊢
  rw [e 0 (by decide) (by decide) (by decide) (by decide) (by decide), e 1 (by decide) (by decide) (by decide) (by decide) (by decide), e 2 (by decide) (by decide) (by decide) (by decide) (by decide), e 4 (by decide) (by decide) (by decide) (by decide) (by decide), e 5 (by decide) (by decide) (by decide) (by decide) (by decide), e 14 (by decide) (by decide) (by decide) (by decide) (by decide), e 15 (by decide) (by decide) (by decide) (by decide) (by decide)]
  exact h1
def adS (x : Int) : Int := if x < 0 then -x else x
def mdS (a b : Int) : Int := adS (a % 12 - b % 12) + adS (a / 12 - b / 12)
theorem mdS_b {a b : Int} (ha : 0 ≤ a ∧ a < 144) (hb : 0 ≤ b ∧ b < 144) : 0 ≤ mdS a b ∧ mdS a b ≤ 22 := by
  unfold mdS adS
  split <;> split <;> omega
theorem Search_stepsBetween_eq {a b : Int} {M : am_M} (ha : 0 ≤ a ∧ a < 144) (hb : 0 ≤ b ∧ b < 144) : Search_stepsBetween a b M = some (mdS a b) := by
  unfold Search_stepsBetween mdS adS
  rw [ck_p (by omega), tw_p, ck_p (by omega), tw_p, Int.tmod_eq_emod_of_nonneg (by omega), Int.tmod_eq_emod_of_nonneg (by omega), J_abs_eq (by omega), ob_s, ck_p (by omega), tw_p, ck_p (by omega), tw_p, Int.tdiv_eq_ediv_of_nonneg (by omega), Int.tdiv_eq_ediv_of_nonneg (by omega), J_abs_eq (by omega), ob_s]
theorem R_stepsBetween_eq {a b : Int} {M : am_M} (ha : 0 ≤ a ∧ a < 144) (hb : 0 ≤ b ∧ b < 144) : R_stepsBetween a b M = some (mdS a b) := by
  unfold R_stepsBetween mdS adS
  rw [ck_p (by omega), tw_p, ck_p (by omega), tw_p, Int.tmod_eq_emod_of_nonneg (by omega), Int.tmod_eq_emod_of_nonneg (by omega), R_amount_eq (by omega), ob_s, ck_p (by omega), tw_p, ck_p (by omega), tw_p, Int.tdiv_eq_ediv_of_nonneg (by omega), Int.tdiv_eq_ediv_of_nonneg (by omega), R_amount_eq (by omega), ob_s]
abbrev I3 : Type := Int × Int × Int
def sk1 (cl wt : Nat → Int) (st : I3) (i : Int) : I3 := (cl i.toNat, st.2.1 + mdS st.1 (cl i.toNat), st.2.2 + wt i.toNat * (st.2.1 + mdS st.1 (cl i.toNat)))
def skF (cl wt : Nat → Int) : I3 → List Int → I3
  | st, [] => st
  | st, i :: l => skF cl wt (sk1 cl wt st i) l
theorem skF_app {cl wt : Nat → Int} : ∀ (l c : List Int) (st : I3), skF cl wt st (l ++ c) = skF cl wt (skF cl wt st l) c
  | [], c, st => rfl
  | i :: l, c, st => skF_app l c (sk1 cl wt st i)
def SKB (k : Nat) (st : I3) : Prop := (0 ≤ st.1 ∧ st.1 < 144) ∧ (0 ≤ st.2.1 ∧ st.2.1 ≤ 22 * k) ∧ (0 ≤ st.2.2 ∧ st.2.2 ≤ 1188 * k)
theorem SKB.z {c0 : Int} (h : 0 ≤ c0 ∧ c0 < 144) : SKB 0 (c0, 0, 0) := by
  unfold SKB
  dsimp only
  omega
def CW (n : Nat) (cl wt : Nat → Int) : Prop := ∀ j : Nat, j < n → (0 ≤ cl j ∧ cl j < 144) ∧ (1 ≤ wt j ∧ wt j ≤ 9)
theorem sk1_b {n : Nat} {cl wt : Nat → Int} (hc : CW n cl wt) {k : Nat} (hk : k < 6) {st : I3} (h : SKB k st) {i : Int} (hi : 0 ≤ i ∧ i < n) : SKB (k + 1) (sk1 cl wt st i) ∧ st.2.2 ≤ (sk1 cl wt st i).2.2 := by
  obtain ⟨h1, h2, h3⟩ := h
  obtain ⟨c1, c2⟩ := hc i.toNat (by omega)
  have hm := mdS_b h1 c1
  have hp := mub (x := 9) (y := 132) (show 0 ≤ wt i.toNat by omega) (show 0 ≤ st.2.1 + mdS st.1 (cl i.toNat) by omega) c2.2 (by omega)
  unfold SKB sk1
  dsimp only
  omega
theorem skF_b {n : Nat} {cl wt : Nat → Int} (hc : CW n cl wt) : ∀ (l : List Int) (k : Nat) (st : I3), k + l.length ≤ 6 → SKB k st → (∀ x, x ∈ l → 0 ≤ x ∧ x < n) → SKB (k + l.length) (skF cl wt st l) ∧ st.2.2 ≤ (skF cl wt st l).2.2
  | [], k, st, hk, h, hx => ⟨h, Int.le_refl _⟩
  | i :: l, k, st, hk, h, hx => by
    rw [List.length_cons] at hk
    obtain ⟨a1, a2⟩ := sk1_b hc (by omega) h (hx i List.mem_cons_self)
    obtain ⟨b1, b2⟩ := skF_b hc l (k + 1) (sk1 cl wt st i) (by omega) a1 (fun x h => hx x (List.mem_cons_of_mem _ h))
    refine ⟨?_, Int.le_trans a2 b2⟩
    rw [List.length_cons, show k + (l.length + 1) = k + 1 + l.length by omega]
    exact b1
def meB (l : List Int) : Nat → Bool := fun j => decide ((j : Int) ∈ l)
def fuB (n : Nat) (l : List Int) : Bool := decide (cn (meB l) n = n)
theorem me_new {n : Nat} {l : List Int} {i : Nat} (hi : i < n) (h : (i : Int) ∉ l) : cn (meB (l ++ [(i : Int)])) n = cn (meB l) n + 1 := by
  refine cn_up n i hi (decide_eq_false h) (decide_eq_true (List.mem_append_right _ (List.mem_singleton.mpr rfl))) (fun j hj => ?_)
  unfold meB
  rw [decide_eq_decide, List.mem_append, List.mem_singleton]
  constructor
  · rintro (q | q)
    · exact q
    · omega
  · exact Or.inl
theorem me_old {n : Nat} {l : List Int} {x : Int} (h : x ∈ l) : cn (meB (l ++ [x])) n = cn (meB l) n := by
  refine cn_cg n (fun j _ => ?_)
  unfold meB
  rw [decide_eq_decide, List.mem_append, List.mem_singleton]
  constructor
  · rintro (q | q)
    · exact q
    · rw [q]
      exact h
  · exact Or.inl
theorem me_le {n : Nat} {l : List Int} {x : Int} : cn (meB (l ++ [x])) n ≤ cn (meB l) n + 1 := by
  by_cases h : x ∈ l
  · rw [me_old h]
    omega
  · by_cases h2 : 0 ≤ x ∧ x < n
    · have := me_new (n := n) (l := l) (i := x.toNat) (by omega) (by rw [show ((x.toNat : Nat) : Int) = x by omega]; exact h)
      rw [show ((x.toNat : Nat) : Int) = x by omega] at this
      omega
    · have : cn (meB (l ++ [x])) n = cn (meB l) n := by
        refine cn_cg n (fun j hj => ?_)
        unfold meB
        rw [decide_eq_decide, List.mem_append, List.mem_singleton]
        constructor
        · rintro (q | q)
          · exact q
          · omega
        · exact Or.inl
      omega
theorem me_app {n : Nat} : ∀ (c l : List Int), cn (meB (l ++ c)) n ≤ cn (meB l) n + c.length
  | [], l => by
    rw [List.append_nil]
    exact Nat.le_add_right _ _
  | x :: c, l => by
    have h1 := me_app (n := n) c (l ++ [x])
    have h2 := me_le (n := n) (l := l) (x := x)
    rw [List.append_assoc] at h1
    rw [List.length_cons]
    show cn (meB (l ++ ([x] ++ c))) n ≤ _
    omega
-- bits of small sets
theorem shl_1 {i : Nat} (h : i < 9) : b_shl 1 (i : Int) = ((2 ^ i : Nat) : Int) := by
  rcases (show i = 0 ∨ i = 1 ∨ i = 2 ∨ i = 3 ∨ i = 4 ∨ i = 5 ∨ i = 6 ∨ i = 7 ∨ i = 8 by omega) with q | q | q | q | q | q | q | q | q <;> subst q <;> decide +kernel
theorem bit_at {m i : Nat} (hm : m < 2147483648) (hi : i < 9) : b_and (b_shr (m : Int) (i : Int)) 1 = if m.testBit i then 1 else 0 := by
  have e1 : b_shr (m : Int) (i : Int) = ((m / 2 ^ i : Nat) : Int) := by
    have h : (Int32.ofInt (i : Int) &&& 31).toBitVec.smod 32 = BitVec.ofNat 32 i := by
      rcases (show i = 0 ∨ i = 1 ∨ i = 2 ∨ i = 3 ∨ i = 4 ∨ i = 5 ∨ i = 6 ∨ i = 7 ∨ i = 8 by omega) with q | q | q | q | q | q | q | q | q <;> subst q <;> decide
    rw [shr_e (n := i) (by omega) h (by omega), Int.natCast_ediv]
  have h2 : m / 2 ^ i ≤ m := Nat.div_le_self _ _
  have e2 := b_and_n (a := m / 2 ^ i) (b := 1) (by omega) (by decide)
  rw [e1, show (1 : Int) = ((1 : Nat) : Int) from rfl, e2, show (1 : Nat) = 2 ^ 1 - 1 from rfl, Nat.and_two_pow_sub_one_eq_mod, Nat.testBit_eq_decide_div_mod_eq]
  have : m / 2 ^ i % 2 < 2 := Nat.mod_lt _ (by decide)
  by_cases q : m / 2 ^ i % 2 = 1
  · rw [show 2 ^ 1 = 2 from rfl, q]
    rfl
  · have q0 : m / 2 ^ i % 2 = 0 := by omega
    rw [show 2 ^ 1 = 2 from rfl, q0]
    rfl
theorem or_bit {m i : Nat} (hm : m < 512) (hi : i < 9) : b_or (m : Int) (b_shl 1 (i : Int)) = ((m ||| 2 ^ i : Nat) : Int) ∧ m ||| 2 ^ i < 512 := by
  have h2 : 2 ^ i < 512 := by
    have : 2 ^ i ≤ 2 ^ 8 := Nat.pow_le_pow_right (by decide) (by omega)
    exact Nat.lt_of_le_of_lt this (by decide)
  refine ⟨?_, Nat.or_lt_two_pow (n := 9) hm h2⟩
  rw [shl_1 hi, b_or_n (by omega) (by omega)]
def MK (m : Nat) (l : List Int) : Prop := m < 512 ∧ ∀ j, j < 9 → m.testBit j = meB l j
theorem MK.up {m i : Nat} {l : List Int} (h : MK m l) (hi : i < 9) : MK (m ||| 2 ^ i) (l ++ [(i : Int)]) := by
  refine ⟨(or_bit h.1 hi).2, fun j hj => ?_⟩
  rw [Nat.testBit_or, h.2 j hj, Nat.testBit_two_pow]
  unfold meB
  rw [Bool.eq_iff_iff, Bool.or_eq_true, decide_eq_true_eq, decide_eq_true_eq, decide_eq_true_eq, List.mem_append, List.mem_singleton]
  constructor
  · rintro (q | q)
    · exact Or.inl q
    · exact Or.inr (by omega)
  · rintro (q | q)
    · exact Or.inl q
    · exact Or.inr (by omega)
theorem MK.nil : MK 0 [] := ⟨by decide, fun j _ => by rw [Nat.zero_testBit]; rfl⟩
theorem mk_full {m n : Nat} {l : List Int} (h : MK m l) (hn : n ≤ 6) (hx : ∀ x, x ∈ l → 0 ≤ x ∧ x < n) : m = 2 ^ n - 1 ↔ cn (meB l) n = n := by
  constructor
  · intro e
    have hj : ∀ j, j < n → meB l j = true := fun j hj => by
      rw [← h.2 j (by omega), e, Nat.testBit_two_pow_sub_one]
      exact decide_eq_true hj
    rw [cn_cg (p := meB l) (q := fun _ => true) n hj, cn_tt]
  · intro e
    apply Nat.eq_of_testBit_eq
    intro j
    rw [Nat.testBit_two_pow_sub_one]
    by_cases q : j < n
    · rw [h.2 j (by omega), decide_eq_true q]
      cases hb : meB l j with
      | true => rfl
      | false =>
        have := cn_ne (p := meB l) q hb
        omega
    · rw [decide_eq_false q]
      by_cases q2 : j < 9
      · rw [h.2 j q2]
        unfold meB
        exact decide_eq_false (fun z => by have := hx _ z; omega)
      · apply Nat.testBit_lt_two_pow
        exact Nat.lt_of_lt_of_le h.1 (Nat.le_trans (by decide : 512 ≤ 2 ^ 9) (Nat.pow_le_pow_right (by decide) (by omega)))
-- the class
def vaS (cl wt : Nat → Int) (c0 : Int) (l : List Int) : Int := (skF cl wt (c0, 0, 0) l).2.2
def SB (n : Nat) (M : am_M) (s : BS) : Prop := (M 63 5 = s.1 ∧ 0 ≤ s.1 ∧ s.1 ≤ 1000000000) ∧ ∀ l, s.2 = some l → ∀ j : Nat, j < n → M 67 j = l.getD j 0
def CX (n : Nat) (cl wt : Nat → Int) (M : am_M) : Prop := M 63 2 = n ∧ ∀ j : Nat, j < n → M 64 j = cl j ∧ M 65 j = wt j
def RW (l : List Int) (M : am_M) : Prop := ∀ j : Nat, j < l.length → M 66 j = l.getD j 0
def SF (M N : am_M) : Prop := (∀ k, k ≠ 63 → k ≠ 66 → k ≠ 67 → N k = M k) ∧ ∀ j, j ≠ 5 → N 63 j = M 63 j
theorem SF.rf {M : am_M} : SF M M := ⟨fun _ _ _ _ => rfl, fun _ _ => rfl⟩
theorem SF.tr {M N O : am_M} (a : SF M N) (b : SF N O) : SF M O := ⟨fun k h1 h2 h3 => (b.1 k h1 h2 h3).trans (a.1 k h1 h2 h3), fun j h => (b.2 j h).trans (a.2 j h)⟩
theorem CX.sf {n : Nat} {cl wt : Nat → Int} {M N : am_M} (h : CX n cl wt M) (e : SF M N) : CX n cl wt N := by
  unfold CX at *
  rw [e.2 2 (by decide), e.1 64 (by decide) (by decide) (by decide), e.1 65 (by decide) (by decide) (by decide)]
  exact h
theorem go_lp {n k f : Nat} {cl wt : Nat → Int} {c0 : Int} {pre : List Int} {m : Nat} (hn : n ≤ 6) (hc : CW n cl wt) (h0 : 0 ≤ c0 ∧ c0 < 144) (hk : pre.length + (k + 1) = n) (hm : MK m pre) (hnd : cn (meB pre) n = pre.length) (hx : ∀ x, x ∈ pre → 0 ≤ x ∧ x < n)
    (ih : ∀ (i : Nat) (s : BS) (M : am_M), i < n → (i : Int) ∉ pre → CX n cl wt M → RW (pre ++ [(i : Int)]) M → SB n M s → ∃ N, K_Search_goOn_R f 0 ((pre.length : Int) + 1) ((m ||| 2 ^ i : Nat) : Int) (skF cl wt (c0, 0, 0) (pre ++ [(i : Int)])).1 (skF cl wt (c0, 0, 0) (pre ++ [(i : Int)])).2.1 (skF cl wt (c0, 0, 0) (pre ++ [(i : Int)])).2.2 M = some N ∧ SB n N (tr n (upB (fuB n) (vaS cl wt c0)) k (pre ++ [(i : Int)]) s) ∧ SF M N ∧ (∀ j : Nat, j < pre.length + 1 → N 66 j = M 66 j)) :
    ∀ (c f2 i : Nat) (s : BS) (M : am_M), i + c = n → c < f2 → CX n cl wt M → RW pre M → SB n M s → ∃ N, Search_goOn_63_49 (fun b0 b1 b2 b3 b4 M => K_Search_goOn_R f 0 b0 b1 b2 b3 b4 M) f2 (pre.length : Int) (m : Int) (skF cl wt (c0, 0, 0) pre).1 (skF cl wt (c0, 0, 0) pre).2.1 (skF cl wt (c0, 0, 0) pre).2.2 (i : Int) M = some N ∧ SB n N (lpS (fun i s => tr n (upB (fuB n) (vaS cl wt c0)) k (pre ++ [(i : Int)]) s) c i s) ∧ SF M N ∧ (∀ j : Nat, j < pre.length → N 66 j = M 66 j)
  | 0, f2 + 1, i, s, M, e, hf, hC, hR, hS => by
    refine ⟨M, ?_, hS, SF.rf, fun _ _ => rfl⟩
    have e2 := hC.1
    unfold Search_goOn_63_49 Search_goOn_63_139
    rw [c_ge_p (by omega) (by omega), if_pos (by omega)]
  | c + 1, f2 + 1, i, s, M, e, hf, hC, hR, hS => by
    have e2 := hC.1
    have hst := (skF_b hc pre 0 (c0, 0, 0) (by omega) (SKB.z h0) hx).1
    rw [Nat.zero_add] at hst
    unfold Search_goOn_63_49 Search_goOn_63_139 Search_goOn_63_133 lpS
    rw [c_ge_p (by omega) (by omega), if_neg (by omega), c_ge_p (by omega) (by omega), if_neg (by omega), bit_at (by have := hm.1; omega) (by omega), hm.2 i (by omega)]
    by_cases q : (i : Int) ∈ pre
    · have q' : meB pre i = true := decide_eq_true q
      rw [q', if_pos rfl, c_ne_p (by decide) (by decide), if_pos (by decide)]
      have et : tr n (upB (fuB n) (vaS cl wt c0)) k (pre ++ [(i : Int)]) s = s := by
        refine tr_sk k _ (fun c' hc' _ hP => ?_)
        have h1 := me_app (n := n) c' (pre ++ [(i : Int)])
        rw [me_old q, hnd, hc'] at h1
        have h2 := of_decide_eq_true hP.1
        omega
      rw [et]
      obtain ⟨N, a1, a2, a3, a4⟩ := go_lp hn hc h0 hk hm hnd hx ih c f2 (i + 1) s M (by omega) (by omega) hC hR hS
      exact ⟨N, a1, a2, a3, a4⟩
    · have q' : meB pre i = false := decide_eq_false q
      obtain ⟨d1, d2⟩ := hC.2 i (by omega)
      obtain ⟨c1, c2⟩ := hc i (by omega)
      have ei : ((i : Int)).toNat = i := by omega
      rw [q', if_neg (by decide), c_ne_p (by decide) (by decide), if_neg (by decide), wa_p (by omega), rd_p (by omega), upo (by decide), ei, d1, Search_stepsBetween_eq hst.1 c1, ob_s, rd_p (by omega), upo (by decide), ei, d1, rd_p (by omega), upo (by decide), ei, d2, (or_bit hm.1 (by omega)).1]
      have esk : skF cl wt (c0, 0, 0) (pre ++ [(i : Int)]) = sk1 cl wt (skF cl wt (c0, 0, 0) pre) (i : Int) := by
        rw [skF_app]
        rfl
      obtain ⟨N1, a1, a2, a3, a4⟩ := ih i s (am_up M 66 pre.length (i : Int)) (by omega) q (by unfold CX at hC ⊢; rw [upo (by decide), upo (by decide), upo (by decide)]; exact hC) (by
        intro j hj
        rw [List.length_append, List.length_singleton] at hj
        rw [gD_app]
        by_cases z : j = pre.length
        · rw [if_pos z, z, upj]
        · rw [if_neg z, upx z]
          exact hR j (by omega)) (by unfold SB at hS ⊢; rw [upo (by decide), upo (by decide)]; exact hS)
      rw [esk] at a1
      have a1' : K_Search_goOn_R f 0 ((pre.length : Int) + 1) ((m ||| 2 ^ i : Nat) : Int) (cl i) ((skF cl wt (c0, 0, 0) pre).2.1 + mdS (skF cl wt (c0, 0, 0) pre).1 (cl i)) ((skF cl wt (c0, 0, 0) pre).2.2 + wt i * ((skF cl wt (c0, 0, 0) pre).2.1 + mdS (skF cl wt (c0, 0, 0) pre).1 (cl i))) (am_up M 66 ((pre.length : Int)).toNat (i : Int)) = some N1 := a1
      rw [a1', ob_s]
      have f1 : SF M N1 := SF.tr ⟨fun k h1 h2 h3 => upo h2, fun j h => by rw [upo (by decide)]⟩ a3
      have p1 : ∀ j : Nat, j < pre.length → N1 66 j = M 66 j := fun j hj => by rw [a4 j (by omega), upx (by omega)]
      obtain ⟨N, b1, b2, b3, b4⟩ := go_lp hn hc h0 hk hm hnd hx ih c f2 (i + 1) _ N1 (by omega) (by omega) (hC.sf f1) (fun j hj => by rw [p1 j hj]; exact hR j hj) a2
      exact ⟨N, b1, b2, f1.tr b3, fun j hj => by rw [b4 j hj, p1 j hj]⟩
theorem goOn_eq {n : Nat} {cl wt : Nat → Int} {c0 : Int} (hn : n ≤ 6) (hc : CW n cl wt) (h0 : 0 ≤ c0 ∧ c0 < 144) : ∀ (k f : Nat) (pre : List Int) (m : Nat) (s : BS) (M : am_M), pre.length + k = n → k < f → MK m pre → cn (meB pre) n = pre.length → (∀ x, x ∈ pre → 0 ≤ x ∧ x < n) → CX n cl wt M → RW pre M → SB n M s → ∃ N, K_Search_goOn_R f 0 (pre.length : Int) (m : Int) (skF cl wt (c0, 0, 0) pre).1 (skF cl wt (c0, 0, 0) pre).2.1 (skF cl wt (c0, 0, 0) pre).2.2 M = some N ∧ SB n N (tr n (upB (fuB n) (vaS cl wt c0)) k pre s) ∧ SF M N ∧ (∀ j : Nat, j < pre.length → N 66 j = M 66 j)
  | k, f + 1, pre, m, s, M, hk, hf, hm, hnd, hx, hC, hR, hS => by
    have hst := (skF_b hc pre 0 (c0, 0, 0) (by omega) (SKB.z h0) hx).1
    rw [Nat.zero_add] at hst
    obtain ⟨t1, t2, t3⟩ := hst
    have e2 := hC.1
    have e5 := hS.1
    have hev : vaS cl wt c0 pre = (skF cl wt (c0, 0, 0) pre).2.2 := rfl
    have hrfl : K_Search_goOn_R (f + 1) 0 (pre.length : Int) (m : Int) (skF cl wt (c0, 0, 0) pre).1 (skF cl wt (c0, 0, 0) pre).2.1 (skF cl wt (c0, 0, 0) pre).2.2 M = Search_goOn_63 (fun b0 b1 b2 b3 b4 M => K_Search_goOn_R f 0 b0 b1 b2 b3 b4 M) (pre.length : Int) (m : Int) (skF cl wt (c0, 0, 0) pre).1 (skF cl wt (c0, 0, 0) pre).2.1 (skF cl wt (c0, 0, 0) pre).2.2 M := rfl
    rw [hrfl]
    unfold Search_goOn_63
    rw [e5.1, c_lt_p (by omega) (by omega)]
    by_cases q : (skF cl wt (c0, 0, 0) pre).2.2 < s.1
    · rw [if_pos q, e2, c_ge_p (by omega) (by omega)]
      cases k with
      | zero =>
        rw [if_pos (by omega)]
        unfold Search_goOn_63_24
        have hfull : fuB n pre = true := decide_eq_true (by omega)
        have et : tr n (upB (fuB n) (vaS cl wt c0)) 0 pre s = ((skF cl wt (c0, 0, 0) pre).2.2, some pre) := by
          unfold tr upB
          rw [if_pos ⟨hfull, q⟩, hev]
        rw [fw_p, cpy_p (by decide), et]
        refine ⟨_, rfl, ⟨⟨?_, t3.1, by omega⟩, fun l hl j hj => ?_⟩, ⟨fun k h1 h2 h3 => ?_, fun j hj => ?_⟩, fun j hj => ?_⟩
        · rw [show Int.toNat 0 = 0 from rfl, show Int.toNat 6 = 6 from rfl, cp_o (by decide), upj]
        · cases hl
          rw [show Int.toNat 0 = 0 from rfl, show Int.toNat 6 = 6 from rfl, cp_s, if_pos (by omega), upo (by decide)]
          exact hR j (by omega)
        · rw [cp_o h3, upo h1]
        · rw [cp_o (by decide), upx hj]
        · rw [cp_o (by decide), upo (by decide)]
      | succ k =>
        rw [if_neg (by omega), c_lt_p (by omega) (by omega), if_pos (by omega)]
        obtain ⟨N, a1, a2, a3, a4⟩ := go_lp (f := f) hn hc h0 hk hm hnd hx (fun i s M hi hni hC hR hS => by
          have h := goOn_eq hn hc h0 k f (pre ++ [(i : Int)]) (m ||| 2 ^ i) s M (by rw [List.length_append, List.length_singleton]; omega) (by omega) (hm.up (by omega)) (by rw [me_new hi hni, List.length_append, List.length_singleton]; omega) (fun x h => by
            rcases List.mem_append.mp h with z | z
            · exact hx x z
            · rw [List.mem_singleton] at z
              omega) hC hR hS
          rw [List.length_append, List.length_singleton, show ((pre.length + 1 : Nat) : Int) = (pre.length : Int) + 1 by omega] at h
          exact h) n am_big 0 s M (by omega) (by show _ < 1000000; omega) hC hR hS
        exact ⟨N, a1, a2, a3, a4⟩
    · rw [if_neg q]
      have et : tr n (upB (fuB n) (vaS cl wt c0)) k pre s = s := by
        refine tr_sk k _ (fun c' hc' hcx hP => ?_)
        have h1 := (skF_b hc c' pre.length (skF cl wt (c0, 0, 0) pre) (by omega) ⟨t1, t2, t3⟩ hcx).2
        have h2 : vaS cl wt c0 (pre ++ c') = (skF cl wt (skF cl wt (c0, 0, 0) pre) c').2.2 := by
          unfold vaS
          rw [skF_app]
        omega
      rw [et]
      exact ⟨M, rfl, hS, SF.rf, fun _ _ => rfl⟩
