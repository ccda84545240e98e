-- blazes: bits of days
theorem i64n {a : Nat} (h : a < 9223372036854775808) : (Int64.ofInt (a : Int)).toBitVec.toNat = a := by
  rw [Int64.toBitVec_ofInt, BitVec.ofInt_natCast, BitVec.toNat_ofNat]
  exact Nat.mod_eq_of_lt (by omega)
theorem i64t {x : Int64} (h : x.toBitVec.toNat < 9223372036854775808) : x.toInt = (x.toBitVec.toNat : Int) := by
  rw [← Int64.toInt_toBitVec, BitVec.toInt_eq_toNat_of_lt (by omega)]
theorem i64i {x : Int} (h : am_R6 x) : (Int64.ofInt x).toInt = x := by
  rw [Int64.toInt_ofInt, Int64.size, Int.bmod_def]
  split <;> omega
theorem q_and_n {a b : Nat} (ha : a < 9223372036854775808) (hb : b < 9223372036854775808) : q_and (a : Int) (b : Int) = ((a &&& b : Nat) : Int) := by
  have h : (Int64.ofInt (a : Int) &&& Int64.ofInt (b : Int)).toBitVec.toNat = a &&& b := by
    rw [Int64.toBitVec_and, BitVec.toNat_and, i64n ha, i64n hb]
  show (Int64.ofInt (a : Int) &&& Int64.ofInt (b : Int)).toInt = _
  rw [i64t (by rw [h]; exact Nat.lt_of_le_of_lt Nat.and_le_left ha), h]
theorem q_or_n {a b : Nat} (ha : a < 9223372036854775808) (hb : b < 9223372036854775808) : q_or (a : Int) (b : Int) = ((a ||| b : Nat) : Int) := by
  have h : (Int64.ofInt (a : Int) ||| Int64.ofInt (b : Int)).toBitVec.toNat = a ||| b := by
    rw [Int64.toBitVec_or, BitVec.toNat_or, i64n ha, i64n hb]
  show (Int64.ofInt (a : Int) ||| Int64.ofInt (b : Int)).toInt = _
  rw [i64t (by rw [h]; exact Nat.or_lt_two_pow (n := 63) ha hb), h]
theorem q_shl_1 {d : Nat} (h : d ≤ 60) : q_shl 1 (d : Int) = ((2 ^ d : Nat) : Int) := by
  have : ∀ y : Fin 61, q_shl 1 ((y.val : Nat) : Int) = ((2 ^ y.val : Nat) : Int) := by decide +kernel
  exact this ⟨d, by omega⟩
theorem qshr_e {x s : Int} {n : Nat} (hx : am_R6 x) (hs : ((Int32.ofInt s).toInt64 &&& 63).toBitVec.smod 64 = BitVec.ofNat 64 n) (hn : n < 64) : q_shr x s = x / ((2 ^ n : Nat) : Int) := by
  show (Int64.ofInt x >>> ((Int32.ofInt s).toInt64 &&& 63)).toInt = _
  rw [← Int64.toInt_toBitVec, Int64.toBitVec_shiftRight, hs]
  show ((Int64.ofInt x).toBitVec.sshiftRight (BitVec.ofNat 64 n).toNat).toInt = _
  rw [BitVec.toInt_sshiftRight, BitVec.toNat_ofNat, Nat.mod_eq_of_lt (by omega), Int64.toInt_toBitVec, i64i hx, Int.shiftRight_eq_div_pow]
theorem qbit_at {m d : Nat} (hm : m < 2 ^ 61) (hd : d ≤ 60) : q_and (q_shr (m : Int) (d : Int)) 1 = if m.testBit d then 1 else 0 := by
  have hm' : m < 2305843009213693952 := hm
  have e1 : q_shr (m : Int) (d : Int) = ((m / 2 ^ d : Nat) : Int) := by
    have h : ∀ y : Fin 61, ((Int32.ofInt ((y.val : Nat) : Int)).toInt64 &&& 63).toBitVec.smod 64 = BitVec.ofNat 64 y.val := by decide +kernel
    rw [qshr_e (n := d) (by omega) (h ⟨d, by omega⟩) (by omega), Int.natCast_ediv]
  have h2 : m / 2 ^ d ≤ m := Nat.div_le_self _ _
  have e2 := q_and_n (a := m / 2 ^ d) (b := 1) (by omega) (by decide)
  rw [e1, show (1 : Int) = ((1 : Nat) : Int) from rfl, e2, show (1 : Nat) = 2 ^ 1 - 1 from rfl, Nat.and_two_pow_sub_one_eq_mod, Nat.testBit_eq_decide_div_mod_eq]
  by_cases q : m / 2 ^ d % 2 = 1
  · rw [show 2 ^ 1 = 2 from rfl, q]
    rfl
  · have q0 : m / 2 ^ d % 2 = 0 := by omega
    rw [show 2 ^ 1 = 2 from rfl, q0]
    rfl
-- what grows on a blaze
def gqS (F : FT) (kd w D : Int) : Nat → Int
  | 0 => 0
  | d + 1 => hd9 (gqS F kd w D d + F 103 20 (E7 kd w 0 0 (gqS F kd w D d) 0 D))
theorem gqS_b {F : FT} (hF : FO F) (kd w D : Int) : ∀ d, 0 ≤ gqS F kd w D d ∧ gqS F kd w D d ≤ 99
  | 0 => by unfold gqS; omega
  | d + 1 => by
    have h1 := gqS_b hF kd w D d
    have h2 := hF.1 103 20 (E7 kd w 0 0 (gqS F kd w D d) 0 D) (by decide)
    unfold gqS
    exact hd9_b (by omega)
theorem gqS_1 {F : FT} (hF : FO F) (kd w D : Int) (d : Nat) : gqS F kd w D d ≤ gqS F kd w D (d + 1) := by
  have h1 := gqS_b hF kd w D d
  have h2 := hF.1 103 20 (E7 kd w 0 0 (gqS F kd w D d) 0 D) (by decide)
  rw [gqS]
  unfold hd9
  split <;> omega
theorem gqS_m {F : FT} (hF : FO F) (kd w D : Int) (d : Nat) : ∀ k, gqS F kd w D d ≤ gqS F kd w D (d + k)
  | 0 => Int.le_refl _
  | k + 1 => Int.le_trans (gqS_m hF kd w D d k) (gqS_1 hF kd w D (d + k))
/-- whether a blaze may have been cut so many days ago -/
def bzB (F : FT) (g : am_M) (D : Int) (i d : Nat) : Bool := decide (g 1 (4 * i + 2) ≤ gqS F (g 1 (4 * i)) (g 1 (4 * i + 1)) D d ∧ gqS F (g 1 (4 * i)) (g 1 (4 * i + 1)) D d ≤ g 1 (4 * i + 3))
def fiD (P : Nat → Bool) : Nat → Nat → Int → Int
  | 0, _, c => c
  | k + 1, d, c => fiD P k (d + 1) (if P d = true ∧ c < 0 then (d : Int) else c)
def laD (P : Nat → Bool) : Nat → Nat → Int → Int
  | 0, _, c => c
  | k + 1, d, c => laD P k (d + 1) (if P d = true then (d : Int) else c)
def FL (P : Nat → Bool) (m : Nat) (f l : Int) : Prop := (f = -2 ∧ l = -2 ∧ ∀ d, d < m → P d = false) ∨ (0 ≤ f ∧ f ≤ l ∧ l < m ∧ P f.toNat = true ∧ P l.toNat = true ∧ ∀ d : Nat, d < m → P d = true → f ≤ d ∧ (d : Int) ≤ l)
theorem FL.st {P : Nat → Bool} {m : Nat} {f l : Int} (h : FL P m f l) : FL P (m + 1) (if P m = true ∧ f < 0 then (m : Int) else f) (if P m = true then (m : Int) else l) := by
  cases hb : P m with
  | true =>
    rw [if_pos rfl]
    right
    rcases h with ⟨h1, h2, h3⟩ | ⟨h1, h2, h3, h4, h5, h6⟩
    · rw [if_pos ⟨rfl, by omega⟩]
      refine ⟨by omega, by omega, by omega, by rw [show ((m : Int)).toNat = m by omega]; exact hb, by rw [show ((m : Int)).toNat = m by omega]; exact hb, fun d hd hp => ?_⟩
      by_cases q : d = m
      · omega
      · rw [h3 d (by omega)] at hp
        cases hp
    · rw [if_neg (fun z => by omega)]
      refine ⟨h1, by omega, by omega, h4, by rw [show ((m : Int)).toNat = m by omega]; exact hb, fun d hd hp => ?_⟩
      by_cases q : d = m
      · omega
      · have := h6 d (by omega) hp
        omega
  | false =>
    rw [if_neg (fun z => by cases z.1), if_neg (by decide)]
    rcases h with ⟨h1, h2, h3⟩ | ⟨h1, h2, h3, h4, h5, h6⟩
    · refine Or.inl ⟨h1, h2, fun d hd => ?_⟩
      by_cases q : d = m
      · rw [q]
        exact hb
      · exact h3 d (by omega)
    · refine Or.inr ⟨h1, h2, by omega, h4, h5, fun d hd hp => ?_⟩
      by_cases q : d = m
      · rw [q, hb] at hp
        cases hp
      · exact h6 d (by omega) hp
theorem FL.al {P : Nat → Bool} : ∀ (k m : Nat) (f l : Int), FL P m f l → FL P (m + k) (fiD P k m f) (laD P k m l)
  | 0, m, f, l, h => h
  | k + 1, m, f, l, h => by
    have := FL.al k (m + 1) _ _ h.st
    rw [show m + (k + 1) = m + 1 + k by omega]
    exact this
def fiS' (F : FT) (g : am_M) (D : Int) (i : Nat) : Int := fiD (bzB F g D i) 61 0 (-2)
def laS' (F : FT) (g : am_M) (D : Int) (i : Nat) : Int := laD (bzB F g D i) 61 0 (-2)
theorem fl_all (F : FT) (g : am_M) (D : Int) (i : Nat) : FL (bzB F g D i) 61 (fiS' F g D i) (laS' F g D i) := by
  have := FL.al (P := bzB F g D i) 61 0 (-2) (-2) (Or.inl ⟨rfl, rfl, fun d hd => by omega⟩)
  exact this
theorem fl_bd (F : FT) (g : am_M) (D : Int) (i : Nat) : (fiS' F g D i = -2 ∧ laS' F g D i = -2) ∨ (0 ≤ fiS' F g D i ∧ fiS' F g D i ≤ laS' F g D i ∧ laS' F g D i ≤ 60) := by
  rcases fl_all F g D i with h | h
  · exact Or.inl ⟨h.1, h.2.1⟩
  · exact Or.inr ⟨h.1, h.2.1, by omega⟩
theorem fl_iv {F : FT} (hF : FO F) (g : am_M) (D : Int) (i d : Nat) (hd : d ≤ 60) : bzB F g D i d = true ↔ fiS' F g D i ≤ d ∧ (d : Int) ≤ laS' F g D i := by
  rcases fl_all F g D i with ⟨h1, h2, h3⟩ | ⟨h1, h2, h3, h4, h5, h6⟩
  · rw [h3 d (by omega)]
    constructor
    · intro z
      cases z
    · intro z
      omega
  · constructor
    · exact h6 d (by omega)
    · intro ⟨z1, z2⟩
      have a := of_decide_eq_true h4
      have b := of_decide_eq_true h5
      have m1 := gqS_m hF (g 1 (4 * i)) (g 1 (4 * i + 1)) D (fiS' F g D i).toNat (d - (fiS' F g D i).toNat)
      have m2 := gqS_m hF (g 1 (4 * i)) (g 1 (4 * i + 1)) D d ((laS' F g D i).toNat - d)
      rw [show (fiS' F g D i).toNat + (d - (fiS' F g D i).toNat) = d by omega] at m1
      rw [show d + ((laS' F g D i).toNat - d) = (laS' F g D i).toNat by omega] at m2
      exact decide_eq_true ⟨by omega, by omega⟩
-- the class reads
def BZ (M N : am_M) : Prop := (∀ c, c ≠ 12 → c ≠ 13 → c ≠ 68 → c ≠ 70 → c ≠ 71 → N c = M c) ∧ ∀ j, j ≠ 10 → N 68 j = M 68 j
theorem BZ.rf {M : am_M} : BZ M M := ⟨fun _ _ _ _ _ _ => rfl, fun _ _ => rfl⟩
theorem BZ.tr {M N O : am_M} (a : BZ M N) (b : BZ N O) : BZ M O := ⟨fun k h1 h2 h3 h4 h5 => (b.1 k h1 h2 h3 h4 h5).trans (a.1 k h1 h2 h3 h4 h5), fun j h => (b.2 j h).trans (a.2 j h)⟩
theorem LF.bz {M N : am_M} (a : LF M N) : BZ M N := ⟨fun c h1 h2 _ _ _ => a c h1 h2, fun j _ => by rw [a 68 (by decide) (by decide)]⟩
theorem PC.bz {F : FT} {g t u M N : am_M} {n : Nat} (h : PC F g t u n M) (e : BZ M N) : PC F g t u n N := by
  obtain ⟨h1, h2, h3, h4, h5⟩ := h
  refine ⟨?_, h2.cg (fun k a b => e.1 k (by omega) (by omega) (by omega) (by omega) (by omega)), fun q => (h3 q).cg (fun k a b => e.1 k (by omega) (by omega) (by omega) (by omega) (by omega)), h4.cg (fun k a b => e.1 k (by omega) (by omega) (by omega) (by omega) (by omega)), ?_⟩
  · unfold GP at h1 ⊢
    rw [e.1 0 (by decide) (by decide) (by decide) (by decide) (by decide), e.1 1 (by decide) (by decide) (by decide) (by decide) (by decide), e.1 2 (by decide) (by decide) (by decide) (by decide) (by decide), e.1 4 (by decide) (by decide) (by decide) (by decide) (by decide), e.1 5 (by decide) (by decide) (by decide) (by decide) (by decide), e.1 14 (by decide) (by decide) (by decide) (by decide) (by decide), e.1 15 (by decide) (by decide) (by decide) (by decide) (by decide)]
    exact h1
  · unfold OG at h5 ⊢
    rw [e.2 3 (by decide), e.1 69 (by decide) (by decide) (by decide) (by decide) (by decide)]
    exact h5
theorem rb_136 {F : FT} {g : am_M} {D : Int} {i : Nat} {k8 : Int → Int → Int → am_M → Option (Int × am_M)} {n : Int} (hF : FO F) (hD : am_R D) (hi : i < 8) (hk : 0 ≤ g 1 (4 * i) ∧ g 1 (4 * i) < 256) (hw : 0 ≤ g 1 (4 * i + 1) ∧ g 1 (4 * i + 1) < 256) (h2 : 0 ≤ g 1 (4 * i + 2) ∧ g 1 (4 * i + 2) < 256) (h3 : 0 ≤ g 1 (4 * i + 3) ∧ g 1 (4 * i + 3) < 256) : ∀ (k f d : Nat) (M : am_M), d + k = 61 → k < f → LWP F M → (M 70 i = -2 ∨ (0 ≤ M 70 i ∧ M 70 i ≤ 60)) → ∃ N, Overgrowth_readBlazes_68_136 k8 f n D (i : Int) (g 1 (4 * i)) (g 1 (4 * i + 1)) (g 1 (4 * i + 2)) (g 1 (4 * i + 3)) (gqS F (g 1 (4 * i)) (g 1 (4 * i + 1)) D d) (d : Int) M = k8 n D ((i : Int) + 1) N ∧ N 70 i = fiD (bzB F g D i) k d (M 70 i) ∧ N 71 i = laD (bzB F g D i) k d (M 71 i) ∧ (∀ j, j ≠ i → N 70 j = M 70 j ∧ N 71 j = M 71 j) ∧ N 68 10 = M 68 10 + 1 ∧ BZ M N
  | 0, f + 1, d, M, e, hf, hL, h70 => by
    refine ⟨am_up M 68 10 (M 68 10 + 1), ?_, ?_, ?_, ?_, ?_, ⟨fun c h1 h2 h3 h4 h5 => upo h3, fun j hj => upx hj⟩⟩
    · unfold Overgrowth_readBlazes_68_136
      rw [c_gt_p (by omega) (by omega), if_pos (by omega), fw_p]
    · rw [upo (by decide)]
      rfl
    · rw [upo (by decide)]
      rfl
    · intro j hj
      rw [upo (by decide), upo (by decide)]
      exact ⟨rfl, rfl⟩
    · rw [upj]
  | k + 1, f + 1, d, M, e, hf, hL, h70 => by
    have hq := gqS_b hF (g 1 (4 * i)) (g 1 (4 * i + 1)) D d
    have ei : ((i : Int)).toNat = i := by omega
    have fin : ∀ M1 : am_M, BZ M M1 → (∀ j, j ≠ i → M1 70 j = M 70 j ∧ M1 71 j = M 71 j) → M1 68 10 = M 68 10 → (M1 70 i = -2 ∨ (0 ≤ M1 70 i ∧ M1 70 i ≤ 60)) → M1 70 i = (if bzB F g D i d = true ∧ M 70 i < 0 then (d : Int) else M 70 i) → M1 71 i = (if bzB F g D i d = true then (d : Int) else M 71 i) → ∃ N, Overgrowth_readBlazes_68_195 k8 (Overgrowth_readBlazes_68_136 k8 f) n D (i : Int) (g 1 (4 * i)) (g 1 (4 * i + 1)) (g 1 (4 * i + 2)) (g 1 (4 * i + 3)) (gqS F (g 1 (4 * i)) (g 1 (4 * i + 1)) D d) (d : Int) M1 = k8 n D ((i : Int) + 1) N ∧ N 70 i = fiD (bzB F g D i) (k + 1) d (M 70 i) ∧ N 71 i = laD (bzB F g D i) (k + 1) d (M 71 i) ∧ (∀ j, j ≠ i → N 70 j = M 70 j ∧ N 71 j = M 71 j) ∧ N 68 10 = M 68 10 + 1 ∧ BZ M N := by
      intro M1 f1 g1 g2 g3 g4 g5
      have hL1 : LWP F M1 := hL.cg (fun k a b => f1.1 k (by omega) (by omega) (by omega) (by omega) (by omega))
      obtain ⟨N1, a1, a2⟩ := Law_growing_eq (k := g 1 (4 * i)) (w := g 1 (4 * i + 1)) (q := gqS F (g 1 (4 * i)) (g 1 (4 * i + 1)) D d) (y := D) hF hL1 (by omega) (by omega) (by omega) hD
      have hb := hF.1 103 20 (E7 (g 1 (4 * i)) (g 1 (4 * i + 1)) 0 0 (gqS F (g 1 (4 * i)) (g 1 (4 * i + 1)) D d) 0 D) (by decide)
      have n70 : N1 70 = M1 70 := a2 70 (by decide) (by decide)
      have n71 : N1 71 = M1 71 := a2 71 (by decide) (by decide)
      have n68 : N1 68 = M1 68 := a2 68 (by decide) (by decide)
      obtain ⟨N, b1, b2, b3, b4, b5, b6⟩ := rb_136 (k8 := k8) (n := n) hF hD hi hk hw h2 h3 k f (d + 1) N1 (by omega) (by omega) (hL1.lf a2) (by rw [n70]; exact g3)
      refine ⟨N, ?_, ?_, ?_, ?_, ?_, ?_⟩
      · unfold Overgrowth_readBlazes_68_195
        rw [a1, oc_s, J_min_99 (by omega), ob_s, ← b1]
        rfl
      · rw [b2, n70, g4]
        rfl
      · rw [b3, n71, g5]
        rfl
      · intro j hj
        rw [(b4 j hj).1, (b4 j hj).2, n70, n71]
        exact g1 j hj
      · rw [b5, n68, g2]
      · exact (f1.tr a2.bz).tr b6
    unfold Overgrowth_readBlazes_68_136
    rw [c_gt_p (by omega) (by omega), if_neg (by omega), c_lt_p (by omega) (by omega)]
    by_cases q1 : gqS F (g 1 (4 * i)) (g 1 (4 * i + 1)) D d < g 1 (4 * i + 2)
    · have hb : bzB F g D i d = false := decide_eq_false (fun z => by omega)
      rw [if_pos q1]
      exact fin M BZ.rf (fun _ _ => ⟨rfl, rfl⟩) rfl h70 (by rw [hb, if_neg (fun z => by cases z.1)]) (by rw [hb, if_neg (by decide)])
    rw [if_neg q1, c_gt_p (by omega) (by omega)]
    by_cases q2 : g 1 (4 * i + 3) < gqS F (g 1 (4 * i)) (g 1 (4 * i + 1)) D d
    · have hb : bzB F g D i d = false := decide_eq_false (fun z => by omega)
      rw [if_pos q2]
      exact fin M BZ.rf (fun _ _ => ⟨rfl, rfl⟩) rfl h70 (by rw [hb, if_neg (fun z => by cases z.1)]) (by rw [hb, if_neg (by decide)])
    · have hb : bzB F g D i d = true := decide_eq_true (by omega)
      rw [if_neg q2, rd_p (by omega), ei, c_ge_p (by omega) (by omega)]
      have st : ∀ v : Int, (0 ≤ v ∧ v ≤ 60) → v = (if bzB F g D i d = true ∧ M 70 i < 0 then (d : Int) else M 70 i) → ∃ N, Overgrowth_readBlazes_68_185 k8 (Overgrowth_readBlazes_68_136 k8 f) n D (i : Int) (g 1 (4 * i)) (g 1 (4 * i + 1)) (g 1 (4 * i + 2)) (g 1 (4 * i + 3)) (gqS F (g 1 (4 * i)) (g 1 (4 * i + 1)) D d) (d : Int) (i : Int) v M = k8 n D ((i : Int) + 1) N ∧ N 70 i = fiD (bzB F g D i) (k + 1) d (M 70 i) ∧ N 71 i = laD (bzB F g D i) (k + 1) d (M 71 i) ∧ (∀ j, j ≠ i → N 70 j = M 70 j ∧ N 71 j = M 71 j) ∧ N 68 10 = M 68 10 + 1 ∧ BZ M N := by
        intro v hv hv2
        unfold Overgrowth_readBlazes_68_185
        rw [wa_p (by omega), wa_p (by omega), ei]
        obtain ⟨Z, hZ⟩ : ∃ Z, Z = am_up (am_up M 70 i v) 71 i (d : Int) := ⟨_, rfl⟩
        have z70 : Z 70 = upf (M 70) i v := by rw [hZ, upo (show (70 : Nat) ≠ 71 by decide), up_f]
        have z71 : Z 71 = upf (M 71) i (d : Int) := by rw [hZ, up_f, upo (show (71 : Nat) ≠ 70 by decide)]
        rw [← hZ]
        refine fin Z ⟨fun c a1 a2 a3 a4 a5 => by rw [hZ, upo a5, upo a4], fun j _ => by rw [hZ, upo (by decide), upo (by decide)]⟩ (fun j hj => by rw [z70, z71, upf_n hj, upf_n hj]; exact ⟨rfl, rfl⟩) (by rw [hZ, upo (by decide), upo (by decide)]) ?_ ?_ ?_
        · rw [z70, upf_e]
          exact Or.inr hv
        · rw [z70, upf_e]
          exact hv2
        · rw [z71, upf_e, hb, if_pos rfl]
      by_cases q3 : 0 ≤ M 70 i
      · rw [if_pos q3, rd_p (by omega), ei]
        exact st (M 70 i) (by omega) (by rw [if_neg (fun z => by omega)])
      · rw [if_neg q3]
        exact st (d : Int) (by omega) (by rw [if_pos ⟨hb, by omega⟩])
abbrev vP (g : am_M) (i : Nat) : Prop := g 1 (4 * i) < 7 ∧ (1 ≤ g 1 (4 * i + 1) ∧ g 1 (4 * i + 1) ≤ 4) ∧ g 1 (4 * i + 3) ≤ 99 ∧ g 1 (4 * i + 2) ≤ g 1 (4 * i + 3)
def vkS (g : am_M) : Nat → Nat → Bool
  | 0, _ => true
  | k + 1, i => decide (vP g i) && vkS g k (i + 1)
theorem rb_8 {F : FT} {g t u : am_M} {n0 x : Nat} (hW : PW F g t u) (hx : x ≤ 8) : ∀ (k f i : Nat) (M : am_M), i + k = x → k < f → PC F g t u n0 M → M 14 2 = 4 * (x : Int) → M 68 10 = i → (∀ j : Nat, j < i → M 70 j = fiS' F g (t 0 4) j ∧ M 71 j = laS' F g (t 0 4) j) → ∃ N, Overgrowth_readBlazes_68_8 f (x : Int) (t 0 4) (i : Int) M = some (if vkS g k i then 1 else 0, N) ∧ BZ M N ∧ (vkS g k i = true → N 68 10 = x ∧ ∀ j : Nat, j < x → N 70 j = fiS' F g (t 0 4) j ∧ N 71 j = laS' F g (t 0 4) j)
  | 0, f + 1, i, M, e, hf, hC, h14, h68, hj => by
    refine ⟨M, ?_, BZ.rf, fun _ => ⟨by omega, fun j h => hj j (by omega)⟩⟩
    unfold Overgrowth_readBlazes_68_8 Overgrowth_readBlazes_68_241 vkS
    rw [c_ge_p (by omega) (by omega), if_pos (by omega), if_pos rfl]
  | k + 1, f + 1, i, M, e, hf, hC, h14, h68, hj => by
    have hl := hW.2.1.1
    have b0 := hW.1.2.1 (4 * i) (by omega)
    have b1 := hW.1.2.1 (4 * i + 1) (by omega)
    have b2 := hW.1.2.1 (4 * i + 2) (by omega)
    have b3 := hW.1.2.1 (4 * i + 3) (by omega)
    have ta : ∀ o : Nat, o < 4 → Tape_at (4 * (i : Int) + o) M = some (g 1 (4 * i + o)) := fun o ho => by
      rw [Tape_at_eq hC.1 h14 (by omega) (by omega) (by omega)]
      unfold taS
      rw [if_pos (by omega), show (4 * (i : Int) + (o : Int)).toNat = 4 * i + o by omega]
    have t0 : Tape_at (4 * (i : Int)) M = some (g 1 (4 * i)) := by
      have := ta 0 (by decide)
      rw [show 4 * (i : Int) + ((0 : Nat) : Int) = 4 * (i : Int) by omega] at this
      exact this
    have t1 : Tape_at (4 * (i : Int) + 1) M = some (g 1 (4 * i + 1)) := ta 1 (by decide)
    have t2 : Tape_at (4 * (i : Int) + 2) M = some (g 1 (4 * i + 2)) := ta 2 (by decide)
    have t3 : Tape_at (4 * (i : Int) + 3) M = some (g 1 (4 * i + 3)) := ta 3 (by decide)
    unfold Overgrowth_readBlazes_68_8 Overgrowth_readBlazes_68_110 vkS
    rw [c_ge_p (by omega) (by omega), if_neg (by omega), c_ge_p (by omega) (by omega), if_neg (by omega), t0, ob_s, t1, ob_s, t2, ob_s, t3, ob_s, c_lt_p (by omega) (by omega), if_neg (by omega), c_ge_p (by omega) (by omega)]
    by_cases q : vP g i
    · obtain ⟨q1, q2, q3, q4⟩ := q
      have ei : ((i : Int)).toNat = i := by omega
      rw [decide_eq_true (⟨q1, q2, q3, q4⟩ : vP g i), Bool.true_and, if_neg (by omega), c_lt_p (by omega) (by omega), if_neg (by omega), c_gt_p (by omega) (by omega), if_neg (by omega), c_lt_p (by omega) (by omega), if_neg (by omega), c_gt_p (by omega) (by omega), if_neg (by omega), c_le_p (by omega) (by omega), if_pos q3, wa_p (by omega), wa_p (by omega), ei]
      obtain ⟨Z, hZ⟩ : ∃ Z, Z = am_up (am_up M 70 i (-2)) 71 i (-2) := ⟨_, rfl⟩
      have z70 : Z 70 = upf (M 70) i (-2) := by rw [hZ, upo (show (70 : Nat) ≠ 71 by decide), up_f]
      have z71 : Z 71 = upf (M 71) i (-2) := by rw [hZ, up_f, upo (show (71 : Nat) ≠ 70 by decide)]
      have fz : BZ M Z := ⟨fun c a1 a2 a3 a4 a5 => by rw [hZ, upo a5, upo a4], fun j _ => by rw [hZ, upo (by decide), upo (by decide)]⟩
      rw [← hZ]
      obtain ⟨N1, a1, a2, a3, a4, a5, a6⟩ := rb_136 (F := F) (g := g) (D := t 0 4) (i := i) (k8 := Overgrowth_readBlazes_68_8 f) (n := (x : Int)) hW.2.2.2.2 (by omega) (by omega) (by omega) (by omega) (by omega) (by omega) 61 am_big 0 Z (by omega) (by decide) (hC.bz fz).2.2.2.1 (by rw [z70, upf_e]; exact Or.inl rfl)
      have f1 := fz.tr a6
      obtain ⟨N2, c1, c2, c3⟩ := rb_8 hW hx k f (i + 1) N1 (by omega) (by omega) (hC.bz f1) (by rw [f1.1 14 (by decide) (by decide) (by decide) (by decide) (by decide)]; exact h14) (by rw [a5, hZ, upo (by decide), upo (by decide), h68]; omega) (fun j hj' => by
        by_cases z : j = i
        · rw [z, a2, a3, z70, z71, upf_e, upf_e]
          exact ⟨rfl, rfl⟩
        · rw [(a4 j z).1, (a4 j z).2, z70, z71, upf_n z, upf_n z]
          exact hj j (by omega))
      refine ⟨N2, ?_, f1.tr c2, c3⟩
      rw [← c1]
      exact a1
    · rw [decide_eq_false q, Bool.false_and, if_neg (show ¬ (false = true) by decide)]
      refine ⟨M, ?_, BZ.rf, fun h => by cases h⟩
      by_cases q1 : 7 ≤ g 1 (4 * i)
      · rw [if_pos q1]
      rw [if_neg q1, c_lt_p (by omega) (by omega)]
      by_cases q2 : g 1 (4 * i + 1) < 1
      · rw [if_pos q2]
      rw [if_neg q2, c_gt_p (by omega) (by omega)]
      by_cases q3 : 4 < g 1 (4 * i + 1)
      · rw [if_pos q3]
      rw [if_neg q3, c_lt_p (by omega) (by omega), if_neg (by omega), c_gt_p (by omega) (by omega)]
      by_cases q4 : g 1 (4 * i + 3) < g 1 (4 * i + 2)
      · rw [if_pos q4]
      rw [if_neg q4, c_le_p (by omega) (by omega), if_neg (fun z => q ⟨by omega, by omega, z, by omega⟩)]
