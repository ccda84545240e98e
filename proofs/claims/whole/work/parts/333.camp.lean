-- camp
def upf (f : Nat → Int) (j : Nat) (a : Int) : Nat → Int := fun x => if x = j then a else f x
theorem up_f {M : am_M} {k j : Nat} {a : Int} : am_up M k j a k = upf (M k) j a := by
  funext x
  rw [up_s]
  rfl
theorem upf_e {f : Nat → Int} {j : Nat} {a : Int} : upf f j a j = a := if_pos rfl
theorem upf_n {f : Nat → Int} {j x : Nat} {a : Int} (h : x ≠ j) : upf f j a x = f x := if_neg h
theorem fill53 {c : Int} : ∀ (k n : Nat) (i : Int) (M : am_M), i + k = 144 → 0 ≤ i → k < n → (∀ j : Nat, (j : Int) < i → M 53 j = c) → ∃ M1, J_fill_53_5 n c i 144 M = some M1 ∧ (∀ k, k ≠ 53 → M1 k = M k) ∧ ∀ j : Nat, j < 144 → M1 53 j = c
  | 0, n + 1, i, M, e, h0, hn, hj => by
    refine ⟨M, ?_, fun _ _ => rfl, fun j h => hj j (by omega)⟩
    unfold J_fill_53_5
    simp (disch := omega) only [c_lt_p, c_eq_p, c_ne_p, c_ge_p, c_gt_p, c_le_p, rd_p, wa_p, wz_p, w8_p, fz_p, fw_p, tw_p, ck_p, ob_s, oc_s, if_pos, if_neg, am_upo, up_s, ne_eq, not_true_eq_false, not_false_eq_true, true_or, or_true, true_and, and_true, false_and, and_false, ck_t, reduceIte, Int.tmod_eq_emod_of_nonneg, Int.tdiv_eq_ediv_of_nonneg]
  | k + 1, n + 1, i, M, e, h0, hn, hj => by
    obtain ⟨M1, h1, h2, h3⟩ := fill53 (c := c) k n (i + 1) (am_up M 53 i.toNat c) (by omega) (by omega) (by omega) (fun j h => by
      by_cases q : j = i.toNat
      · rw [q, upj]
      · rw [upx q]
        exact hj j (by omega))
    refine ⟨M1, ?_, fun k hk => by rw [h2 k hk, upo hk], h3⟩
    unfold J_fill_53_5
    simp (disch := omega) only [c_lt_p, c_eq_p, c_ne_p, c_ge_p, c_gt_p, c_le_p, rd_p, wa_p, wz_p, w8_p, fz_p, fw_p, tw_p, ck_p, ob_s, oc_s, if_pos, if_neg, am_upo, up_s, ne_eq, not_true_eq_false, not_false_eq_true, true_or, or_true, true_and, and_true, false_and, and_false, ck_t, reduceIte, Int.tmod_eq_emod_of_nonneg, Int.tdiv_eq_ediv_of_nonneg]
    exact h1
theorem J_fill_53_eq {c : Int} {M : am_M} : ∃ M1, J_fill_53 c M = some M1 ∧ (∀ k, k ≠ 53 → M1 k = M k) ∧ ∀ j : Nat, j < 144 → M1 53 j = c := fill53 144 am_big 0 M (by omega) (by omega) (by decide) (fun j h => by omega)
def rcB (v : Nat → Int) : Nat → Bool := fun y => decide (v y ≠ 1000000000)
/-- the queue of cells that are reached, the first i of them done -/
def BQ (E : Nat → Nat → Prop) (s : Nat) (v q : Nat → Int) (W i : Int) : Prop := (1 ≤ W ∧ W ≤ 144 ∧ v s = 0 ∧ W = cn (rcB v) 144) ∧ (∀ y : Nat, y < 144 → 0 ≤ v y ∧ v y ≤ 1000000000) ∧ (∀ y : Nat, y < 144 → v y < 1000000000 → ∃ j : Nat, (j : Int) < W ∧ q j = y) ∧ (∀ j : Nat, (j : Int) < W → (0 ≤ q j ∧ q j < 144) ∧ v (q j).toNat ≤ j) ∧ (∀ j j' : Nat, j ≤ j' → (j' : Int) < W → v (q j).toNat ≤ v (q j').toNat) ∧ (∀ j : Nat, (j : Int) < W → i < W → v (q j).toNat ≤ v (q i.toNat).toNat + 1) ∧ (∀ j : Nat, (j : Int) < i → (j : Int) < W → ∀ y, E (q j).toNat y → v y ≤ v (q j).toNat + 1) ∧ (∀ y : Nat, y < 144 → y ≠ s → v y < 1000000000 → ∃ x, E x y ∧ v x < v y ∧ v y = v x + 1)
theorem bq_add {E : Nat → Nat → Prop} {s : Nat} {v q : Nat → Int} {W i : Int} (hE : ∀ x y, E x y → x < 144 ∧ y < 144) (hs : s < 144) (h : BQ E s v q W i) (h0 : 0 ≤ i) (hi : i < W) {y : Nat} (hy : y < 144) (hv : v y = 1000000000) (he : E (q i.toNat).toNat y) : W < 144 ∧ v (q i.toNat).toNat ≤ 144 ∧ BQ E s (upf v y (v (q i.toNat).toNat + 1)) (upf q W.toNat y) (W + 1) i := by
  obtain ⟨⟨a1, a2, a3, a4⟩, b, c, d, e, f, g, k⟩ := h
  have d1 := d i.toNat (by omega)
  have bq := b (q i.toNat).toNat (by omega)
  have hW : W < 144 := by
    have := cn_ne (p := rcB v) hy (by unfold rcB; simp [hv])
    omega
  have hq : ∀ j : Nat, (j : Int) < W → (q j).toNat ≠ y := by
    intro j hj hz
    have := (d j hj).2
    rw [hz, hv] at this
    omega
  have hqi := hq i.toNat (by omega)
  have hsy : s ≠ y := by
    intro z
    rw [z, hv] at a3
    omega
  have uq : ∀ j : Nat, (j : Int) < W → upf q W.toNat y j = q j := fun j hj => upf_n (by omega)
  have uW : upf q W.toNat y W.toNat = y := upf_e
  have uv : ∀ j : Nat, (j : Int) < W → upf v y (v (q i.toNat).toNat + 1) (q j).toNat = v (q j).toNat := fun j hj => upf_n (hq j hj)
  have uy : upf v y (v (q i.toNat).toNat + 1) y = v (q i.toNat).toNat + 1 := upf_e
  refine ⟨hW, by omega, ⟨⟨by omega, by omega, by rw [upf_n hsy]; exact a3, ?_⟩, ?_, ?_, ?_, ?_, ?_, ?_, ?_⟩⟩
  · have := cn_up (p := rcB v) (q := rcB (upf v y (v (q i.toNat).toNat + 1))) 144 y hy (by unfold rcB; simp [hv]) (by unfold rcB; rw [uy]; simp; omega) (fun j hj => by unfold rcB; rw [upf_n hj])
    omega
  · intro z hz
    by_cases q1 : z = y
    · rw [q1, uy]
      omega
    · rw [upf_n q1]
      exact b z hz
  · intro z hz hf
    by_cases q1 : z = y
    · exact ⟨W.toNat, by omega, by rw [uW, q1]⟩
    · rw [upf_n q1] at hf
      obtain ⟨j, j1, j2⟩ := c z hz hf
      exact ⟨j, by omega, by rw [uq j j1]; exact j2⟩
  · intro j hj
    by_cases q1 : (j : Int) < W
    · rw [uq j q1, uv j q1]
      exact d j q1
    · rw [show j = W.toNat by omega, uW, show ((y : Int)).toNat = y by omega, uy]
      omega
  · intro j j' hj hj'
    by_cases q1 : (j' : Int) < W
    · rw [uq j' q1, uv j' q1, uq j (by omega), uv j (by omega)]
      exact e j j' hj q1
    · rw [show j' = W.toNat by omega, uW, show ((y : Int)).toNat = y by omega, uy]
      by_cases q2 : (j : Int) < W
      · rw [uq j q2, uv j q2]
        exact f j q2 hi
      · rw [show j = W.toNat by omega, uW, show ((y : Int)).toNat = y by omega, uy]
        omega
  · intro j hj _
    rw [uq i.toNat (by omega), uv i.toNat (by omega)]
    by_cases q1 : (j : Int) < W
    · rw [uq j q1, uv j q1]
      exact f j q1 hi
    · rw [show j = W.toNat by omega, uW, show ((y : Int)).toNat = y by omega, uy]
      omega
  · intro j hj _ z hz
    rw [uq j (by omega)] at hz ⊢
    rw [uv j (by omega)]
    have gz := g j hj (by omega) z hz
    by_cases q1 : z = y
    · have := (d j (by omega)).2
      rw [q1, hv] at gz
      omega
    · rw [upf_n q1]
      exact gz
  · intro z hz hzs hf
    by_cases q1 : z = y
    · subst q1
      refine ⟨(q i.toNat).toNat, he, ?_, ?_⟩
      · rw [uv i.toNat (by omega), uy]
        omega
      · rw [uv i.toNat (by omega), uy]
    · rw [upf_n q1] at hf ⊢
      obtain ⟨x, x1, x2, x3⟩ := k z hz hzs hf
      have hxy : x ≠ y := by
        intro w
        rw [w, hv] at x2
        omega
      exact ⟨x, x1, by rw [upf_n hxy]; exact x2, by rw [upf_n hxy]; exact x3⟩
theorem bq_nx {E : Nat → Nat → Prop} {s : Nat} {v q : Nat → Int} {W i : Int} (h : BQ E s v q W i) (h0 : 0 ≤ i) (hi : i < W) (hd : ∀ y, E (q i.toNat).toNat y → v y ≤ v (q i.toNat).toNat + 1) : BQ E s v q W (i + 1) := by
  obtain ⟨a, b, c, d, e, f, g, k⟩ := h
  refine ⟨a, b, c, d, e, ?_, ?_, k⟩
  · intro j hj hw
    have h1 := f j hj hi
    have h2 := e i.toNat (i + 1).toNat (by omega) (by omega)
    omega
  · intro j hj hw y hy
    by_cases q1 : (j : Int) < i
    · exact g j q1 hw y hy
    · have : j = i.toNat := by omega
      subst this
      exact hd y hy
theorem bq_en {E : Nat → Nat → Prop} {s : Nat} {v q : Nat → Int} {W i : Int} (hE : ∀ x y, E x y → x < 144 ∧ y < 144) (h : BQ E s v q W i) (hi : W ≤ i) : DI E (fun _ => 1) s v := by
  obtain ⟨a, b, c, d, e, f, g, k⟩ := h
  refine ⟨a.2.2.1, b, fun x y hxy hx => ?_, k⟩
  obtain ⟨j, j1, j2⟩ := c x (hE x y hxy).1 hx
  have := g j (by omega) j1 y (by rw [j2]; exact hxy)
  rw [j2] at this
  exact this
def Ec (g : am_M) (x y : Nat) : Prop := aj x y ∧ g 2 y ≠ 3
theorem Ec_b (g : am_M) : ∀ x y, Ec g x y → x < 144 ∧ y < 144 := fun _ _ h => ⟨h.1.1, h.1.2.1⟩
def pw (g : am_M) (v : Nat → Int) (c w0 b : Int) : Prop := ∀ w : Int, 0 ≤ w → w < w0 → 0 ≤ nbS c w → g 2 (nbS c w).toNat ≠ 3 → v (nbS c w).toNat ≤ b
theorem pw_4 {g : am_M} {v : Nat → Int} {c b : Int} (h0 : 0 ≤ c) (h : pw g v c 4 b) : ∀ y, Ec g c.toNat y → v y ≤ b := by
  intro y ⟨⟨_, _, w, w1, w2, w3⟩, hy⟩
  rw [show ((c.toNat : Nat) : Int) = c by omega] at w3
  have := h w w1 w2 (by omega) (by rw [w3]; exact hy)
  rw [w3] at this
  exact this
theorem cs_59 {g : am_M} {s : Nat} {k36 : Int → Int → am_M → Option am_M} (hg : WG g) (hs : s < 144) : ∀ (k n : Nat) (w W i : Int) (M : am_M), w + k = 4 → 0 ≤ w → k < n → GP g M → BQ (Ec g) s (M 53) (M 55) W i → 0 ≤ i → i < W → pw g (M 53) (M 55 i.toNat) w (M 53 (M 55 i.toNat).toNat + 1) → ∃ N W', Routes_countSteps_52_59 k36 n W i (M 55 i.toNat) w M = k36 W' (i + 1) N ∧ BQ (Ec g) s (N 53) (N 55) W' (i + 1) ∧ (∀ k, k ≠ 53 → k ≠ 55 → N k = M k)
  | 0, n + 1, w, W, i, M, e, h0, hn, hG, hB, hi0, hi, hp => by
    have hd := (hB.2.2.2.1 i.toNat (by omega)).1
    refine ⟨M, W, ?_, bq_nx hB hi0 hi (pw_4 hd.1 (by rw [show (4 : Int) = w by omega]; exact hp)), fun _ _ _ => rfl⟩
    unfold Routes_countSteps_52_59
    simp (disch := omega) only [c_lt_p, c_eq_p, c_ne_p, c_ge_p, c_gt_p, c_le_p, rd_p, wa_p, wz_p, w8_p, fz_p, fw_p, tw_p, ck_p, ob_s, oc_s, if_pos, if_neg, am_upo, up_s, ne_eq, not_true_eq_false, not_false_eq_true, true_or, or_true, true_and, and_true, false_and, and_false, ck_t, reduceIte, Int.tmod_eq_emod_of_nonneg, Int.tdiv_eq_ediv_of_nonneg]
  | k + 1, n + 1, w, W, i, M, e, h0, hn, hG, hB, hi0, hi, hp => by
    have hd := hB.2.2.2.1 i.toNat (by omega)
    have hb := nbS_b (c := M 55 i.toNat) (w := w) hd.1.1 hd.1.2
    have hk := KI.of hg hG
    have hW := hB.1.2.1
    have ex : ∀ {p : Prop}, (∀ z, nbS (M 55 i.toNat) w = z → p) → p := fun h => h _ rfl
    have go : (0 ≤ nbS (M 55 i.toNat) w → g 2 (nbS (M 55 i.toNat) w).toNat ≠ 3 → M 53 (nbS (M 55 i.toNat) w).toNat ≤ M 53 (M 55 i.toNat).toNat + 1) → ∃ N W', Routes_countSteps_52_59 k36 n W i (M 55 i.toNat) (w + 1) M = k36 W' (i + 1) N ∧ BQ (Ec g) s (N 53) (N 55) W' (i + 1) ∧ (∀ k, k ≠ 53 → k ≠ 55 → N k = M k) := fun h => cs_59 hg hs k n (w + 1) W i M (by omega) (by omega) (by omega) hG hB hi0 hi (fun w' a1 a2 a3 a4 => by
      by_cases q : w' = w
      · subst q
        exact h a3 a4
      · exact hp w' a1 (by omega) a3 a4)
    unfold Routes_countSteps_52_59 Routes_countSteps_52_139
    rw [c_ge_p (by omega) (by omega), if_neg (by omega), Country_neighbour_eq hd.1.1 hd.1.2 (by omega), ob_s, Country_isCell_eq (by omega), ob_s]
    by_cases c1 : 0 ≤ nbS (M 55 i.toNat) w
    · rw [if_pos ⟨c1, hb.2⟩, c_eq_p (by decide) (by decide), if_neg (by decide), Country_isBarred_eq (by omega) hk, ob_s]
      have e2 := hG.2.2.1 (nbS (M 55 i.toNat) w).toNat (by omega)
      by_cases c2 : g 2 (nbS (M 55 i.toNat) w).toNat = 3
      · rw [if_neg (by rw [e2]; omega), c_ne_p (by decide) (by decide), if_pos (by decide)]
        exact go (fun _ h => absurd c2 h)
      · rw [if_pos ⟨c1, hb.2, by rw [e2]; exact c2⟩, c_ne_p (by decide) (by decide), if_neg (by decide), rd_p (by omega)]
        have bv := hB.2.1 (nbS (M 55 i.toNat) w).toNat (by omega)
        have bc := hB.2.1 (M 55 i.toNat).toNat (by omega)
        rw [c_ne_p (by omega) (by omega)]
        by_cases c3 : M 53 (nbS (M 55 i.toNat) w).toNat = 1000000000
        · rw [if_neg (fun h => h c3)]
          have he : Ec g (M 55 i.toNat).toNat (nbS (M 55 i.toNat) w).toNat := by
            have e3 : (((M 55 i.toNat).toNat : Nat) : Int) = M 55 i.toNat := by omega
            have := aj_of (x := (M 55 i.toNat).toNat) (w := w) (by omega) (by omega) (by rw [e3]; exact c1)
            rw [e3] at this
            exact ⟨this, c2⟩
          obtain ⟨b1, b2, b3⟩ := bq_add (Ec_b g) hs hB hi0 hi (y := (nbS (M 55 i.toNat) w).toNat) (by omega) c3 he
          have e5 : (((nbS (M 55 i.toNat) w).toNat : Nat) : Int) = nbS (M 55 i.toNat) w := by omega
          rw [c_ge_p (by omega) (by omega), if_neg (by omega)]
          have er : Routes_reachOf_52 (M 55 i.toNat) M = some (M 53 (M 55 i.toNat).toNat) := by
            unfold Routes_reachOf_52 Routes_reachOf_52_18
            rw [Country_isCell_eq (by omega), ob_s, if_pos hd.1, c_eq_p (by decide) (by decide), if_neg (by decide), rd_p (by omega)]
          rw [er, ob_s, wa_p (by omega), wa_p (by omega)]
          obtain ⟨Z, hZ⟩ : ∃ Z, Z = am_up (am_up M 53 (nbS (M 55 i.toNat) w).toNat (M 53 (M 55 i.toNat).toNat + 1)) 55 W.toNat (nbS (M 55 i.toNat) w) := ⟨_, rfl⟩
          have z53 : Z 53 = upf (M 53) (nbS (M 55 i.toNat) w).toNat (M 53 (M 55 i.toNat).toNat + 1) := by rw [hZ, upo (by decide), up_f]
          have z55 : Z 55 = upf (M 55) W.toNat (nbS (M 55 i.toNat) w) := by rw [hZ, up_f, upo (by decide)]
          have zi : Z 55 i.toNat = M 55 i.toNat := by rw [z55, upf_n (by omega)]
          have zo : ∀ k, k ≠ 53 → k ≠ 55 → Z k = M k := fun k h1 h2 => by rw [hZ, upo h2, upo h1]
          have zq : (M 55 i.toNat).toNat ≠ (nbS (M 55 i.toNat) w).toNat := by
            intro h
            rw [← h] at c3
            omega
          rw [← hZ]
          obtain ⟨N, W', a1, a2, a3⟩ := cs_59 (k36 := k36) hg hs k n (w + 1) (W + 1) i Z (by omega) (by omega) (by omega) (by unfold GP at hG ⊢; rw [zo 0 (by decide) (by decide), zo 1 (by decide) (by decide), zo 2 (by decide) (by decide), zo 4 (by decide) (by decide), zo 5 (by decide) (by decide), zo 14 (by decide) (by decide), zo 15 (by decide) (by decide)]; exact hG) (by rw [z53, z55]; rw [e5] at b3; exact b3) hi0 (by omega) (by
            rw [zi, z53, upf_n zq]
            intro w' a1 a2 a3 a4
            by_cases q : nbS (M 55 i.toNat) w' = nbS (M 55 i.toNat) w
            · rw [q, upf_e]
              omega
            · rw [upf_n (by omega)]
              exact hp w' a1 (by
                rcases Int.lt_trichotomy w' w with z | z | z
                · exact z
                · exact absurd (by rw [z]) q
                · omega) a3 a4)
          rw [zi] at a1
          exact ⟨N, W', a1, a2, fun k h1 h2 => by rw [a3 k h1 h2, zo k h1 h2]⟩
        · rw [if_pos c3]
          refine go (fun _ _ => ?_)
          obtain ⟨j, j1, j2⟩ := hB.2.2.1 (nbS (M 55 i.toNat) w).toNat (by omega) (by omega)
          have := hB.2.2.2.2.2.1 j j1 hi
          rw [j2] at this
          exact this
    · rw [if_neg (by omega), c_eq_p (by decide) (by decide), if_pos (by decide)]
      exact go (fun h => absurd h c1)
theorem GP.ro {g M N : am_M} (hG : GP g M) (zo : ∀ k, (k < 53 ∨ 56 < k) → N k = M k) : GP g N := by
  unfold GP at hG ⊢
  rw [zo 0 (by decide), zo 1 (by decide), zo 2 (by decide), zo 4 (by decide), zo 5 (by decide), zo 14 (by decide), zo 15 (by decide)]
  exact hG
theorem cs_36 {g : am_M} {s : Nat} (hg : WG g) (hs : s < 144) : ∀ (k n : Nat) (W i : Int) (M : am_M), i + k = 145 → k < n → GP g M → BQ (Ec g) s (M 53) (M 55) W i → 0 ≤ i → ∃ N, Routes_countSteps_52_36 n W i M = some N ∧ DI (Ec g) (fun _ => 1) s (N 53) ∧ (∀ k, k ≠ 53 → k ≠ 55 → N k = M k)
  | 0, n + 1, W, i, M, e, hn, hG, hB, hi => by
    have hW := hB.1
    refine ⟨M, ?_, bq_en (Ec_b g) hB (by omega), fun _ _ _ => rfl⟩
    unfold Routes_countSteps_52_36 Routes_countSteps_52_151
    rw [c_ge_p (by omega) (by omega), if_pos (by omega)]
  | k + 1, n + 1, W, i, M, e, hn, hG, hB, hi => by
    have hW := hB.1
    unfold Routes_countSteps_52_36 Routes_countSteps_52_151
    rw [c_ge_p (by omega) (by omega)]
    by_cases q : W ≤ i
    · rw [if_pos q]
      exact ⟨M, rfl, bq_en (Ec_b g) hB q, fun _ _ _ => rfl⟩
    · rw [if_neg q, c_ge_p (by omega) (by omega), if_neg (by omega), rd_p (by omega)]
      obtain ⟨N1, W1, a1, a2, a3⟩ := cs_59 (k36 := Routes_countSteps_52_36 n) hg hs 4 am_big 0 W i M (by omega) (by omega) (by decide) hG hB hi (by omega) (fun w a b => by omega)
      obtain ⟨N2, b1, b2, b3⟩ := cs_36 hg hs k n W1 (i + 1) N1 (by omega) (by omega) (hG.ro (fun k h => a3 k (by omega) (by omega))) a2 (by omega)
      exact ⟨N2, by rw [a1, b1], b2, fun k h1 h2 => by rw [b3 k h1 h2, a3 k h1 h2]⟩
theorem cn_0 {p : Nat → Bool} : ∀ k, (∀ j, j < k → p j = false) → cn p k = 0
  | 0, _ => rfl
  | k + 1, h => by
    unfold cn
    rw [cn_0 k (fun j hj => h j (by omega)), h k (by omega)]
    rfl
theorem countSteps_eq {g M : am_M} {c : Int} (hg : WG g) (hG : GP g M) (h0 : 0 ≤ c ∧ c < 144) : ∃ N, Routes_countSteps_52 c M = some N ∧ DI (Ec g) (fun _ => 1) c.toNat (N 53) ∧ (∀ k, k ≠ 53 → k ≠ 55 → N k = M k) := by
  obtain ⟨M1, a1, a2, a3⟩ := J_fill_53_eq (c := 1000000000) (M := M)
  obtain ⟨Z, hZ⟩ : ∃ Z, Z = am_up (am_up M1 53 c.toNat 0) 55 0 c := ⟨_, rfl⟩
  have z53 : Z 53 = upf (M1 53) c.toNat 0 := by rw [hZ, upo (by decide), up_f]
  have z55 : Z 55 = upf (M1 55) 0 c := by rw [hZ, up_f, upo (by decide)]
  have zo : ∀ k, k ≠ 53 → k ≠ 55 → Z k = M k := fun k h1 h2 => by rw [hZ, upo h2, upo h1, a2 k h1]
  have v0 : upf (M1 53) c.toNat 0 c.toNat = 0 := upf_e
  have vn : ∀ y : Nat, y < 144 → y ≠ c.toNat → upf (M1 53) c.toNat 0 y = 1000000000 := fun y hy h => by rw [upf_n h]; exact a3 y hy
  have hcn : cn (rcB (upf (M1 53) c.toNat 0)) 144 = 1 := by
    have := cn_up (p := fun _ => false) (q := rcB (upf (M1 53) c.toNat 0)) 144 c.toNat (by omega) rfl (by unfold rcB; rw [v0]; decide)
    have h2 := cn_0 (p := fun _ => false) 144 (fun _ _ => rfl)
    have h3 := cn_cg (p := fun j => if j < 144 then rcB (upf (M1 53) c.toNat 0) j else false) (q := rcB (upf (M1 53) c.toNat 0)) 144 (fun j hj => by rw [if_pos hj])
    have h4 := cn_up (p := fun _ => false) (q := fun j => if j < 144 then rcB (upf (M1 53) c.toNat 0) j else false) 144 c.toNat (by omega) rfl (by show (if c.toNat < 144 then _ else _) = true; rw [if_pos (by omega)]; unfold rcB; rw [v0]; decide) (fun j hj => by
      show (if j < 144 then _ else _) = false
      by_cases q : j < 144
      · rw [if_pos q]
        unfold rcB
        rw [vn j q hj]
        decide
      · rw [if_neg q])
    omega
  have hB : BQ (Ec g) c.toNat (Z 53) (Z 55) 1 0 := by
    rw [z53, z55]
    have q0 : upf (M1 55) 0 c 0 = c := upf_e
    refine ⟨⟨by omega, by omega, v0, by omega⟩, fun y hy => ?_, fun y hy hf => ?_, fun j hj => ?_, fun j j' h1 h2 => ?_, fun j h1 _ => ?_, fun j h1 => by omega, fun y hy hs hf => ?_⟩
    · by_cases q : y = c.toNat
      · rw [q, v0]
        omega
      · rw [vn y hy q]
        omega
    · by_cases q : y = c.toNat
      · exact ⟨0, by omega, by rw [q0]; omega⟩
      · rw [vn y hy q] at hf
        omega
    · have : j = 0 := by omega
      subst this
      rw [q0, v0]
      omega
    · have : j = 0 := by omega
      subst this
      have : j' = 0 := by omega
      subst this
      omega
    · have : j = 0 := by omega
      subst this
      rw [show (0 : Int).toNat = 0 from rfl]
      omega
    · rw [vn y hy hs] at hf
      omega
  obtain ⟨N, b1, b2, b3⟩ := cs_36 hg (by omega) 145 am_big 1 0 Z (by omega) (by decide) (hG.ro (fun k h => zo k (by omega) (by omega))) hB (by omega)
  refine ⟨N, ?_, b2, fun k h1 h2 => by rw [b3 k h1 h2, zo k h1 h2]⟩
  unfold Routes_countSteps_52 Routes_countSteps_52_34
  rw [a1, ob_s, Country_isCell_eq (by omega), ob_s, if_pos h0, c_eq_p (by decide) (by decide), if_neg (by decide), wa_p (by omega), wa_p (by omega), show (0 : Int).toNat = 0 from rfl, ← hZ]
  exact b1
