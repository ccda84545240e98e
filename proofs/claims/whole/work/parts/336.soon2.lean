-- soonest: the reference
def fbV (F : FT) (g t : am_M) (f : Nat → Int) (c w : Int) : Int := if nbS c w = -1 then 1000000000 else if g 2 (nbS c w).toNat = 3 then 1000000000 else if f (nbS c w).toNat = 1000000000 then 1000000000 else f (nbS c w).toNat + wB F g t 1000 (nbS c w).toNat
theorem wB_b {F : FT} (hF : FO F) (g t : am_M) (x : Nat) : 1 ≤ wB F g t 1000 x ∧ wB F g t 1000 x ≤ 240001 := by
  have := ctN_b hF g t x
  unfold wB
  omega
theorem R_farBy_eq {F : FT} {g t M : am_M} (hg : WG g) (hG : GR g M) (hb : ∀ y : Nat, y < 144 → 0 ≤ M 118 y ∧ M 118 y ≤ 1000000000) (hc : ∀ x : Nat, x < 144 → M 117 (g 2 x).toNat = wB F g t 1000 x) {c w : Int} (h0 : 0 ≤ c ∧ c < 144) (hw : 0 ≤ w ∧ w < 4) : R_farBy c w M = some (fbV F g t (M 118) c w) := by
  have hnb := nbS_b (c := c) (w := w) h0.1 h0.2
  unfold R_farBy R_farBy_33 R_farBy_57 fbV
  rw [R_beside_eq h0.1 h0.2 hw, ob_s, c_eq_p (by omega) (by omega)]
  by_cases q : nbS c w = -1
  · rw [if_pos q, if_pos q]
  · have e2 := hG.2.2.1 (nbS c w).toNat (by omega)
    have k2 := hg.2.2.1 (nbS c w).toNat (by omega)
    have b2 := hb (nbS c w).toNat (by omega)
    rw [if_neg q, if_neg q, rd_p (by omega), e2, c_eq_p (by omega) (by omega)]
    by_cases q2 : g 2 (nbS c w).toNat = 3
    · rw [if_pos q2, if_pos q2]
    · rw [if_neg q2, if_neg q2, rd_p (by omega), c_ne_p (by omega) (by omega)]
      by_cases q3 : M 118 (nbS c w).toNat = 1000000000
      · rw [if_neg (fun h => h q3), if_pos q3]
      · rw [if_pos q3, if_neg q3, rd_p (by omega), rd_p (by omega), e2, rd_p (by omega), hc _ (by omega)]
def FS (D f0 f : Nat → Int) (mo : Int) : Prop := (mo = 0 ∨ mo = 1) ∧ (∀ y : Nat, y < 144 → D y ≤ f y ∧ f y ≤ f0 y) ∧ (mo = 0 → ∀ y : Nat, y < 144 → f y = f0 y) ∧ (mo = 1 → ∃ y : Nat, y < 144 ∧ D y < f0 y)
theorem ff_88 {F : FT} {g t : am_M} {s : Nat} {k70 : Int → am_M → Option am_M} {k78 : Int → Int → am_M → Option am_M} {D f0 : Nat → Int} (hF : FO F) (hg : WG g) (hD : DI (En g) (wB F g t 1000) s D) (hf0 : ∀ y : Nat, y < 144 → f0 y ≤ 1000000000) {c : Int} (hc : 0 ≤ c ∧ c < 144) : ∀ (k m : Nat) (w mo : Int) (M : am_M), w + k = 4 → 0 ≤ w → k < m → GR g M → (∀ x : Nat, x < 144 → M 117 (g 2 x).toNat = wB F g t 1000 x) → FS D f0 (M 118) mo → (∀ y : Nat, (y : Int) < c → ∀ x, En g x y → f0 x < 1000000000 → M 118 y ≤ f0 x + wB F g t 1000 x) → (∀ w' : Int, 0 ≤ w' → w' < w → 0 ≤ nbS c w' → g 2 (nbS c w').toNat ≠ 3 → f0 (nbS c w').toNat < 1000000000 → M 118 c.toNat ≤ f0 (nbS c w').toNat + wB F g t 1000 (nbS c w').toNat) → ∃ N mo', R_laysFarTo_88 k70 k78 m mo c w M = k78 mo' (c + 1) N ∧ FS D f0 (N 118) mo' ∧ (∀ y : Nat, (y : Int) < c + 1 → ∀ x, En g x y → f0 x < 1000000000 → N 118 y ≤ f0 x + wB F g t 1000 x) ∧ (∀ k, k ≠ 118 → N k = M k)
  | 0, m + 1, w, mo, M, e, h0, hm, hG, hco, hS, hd, hp => by
    refine ⟨M, mo, ?_, hS, fun y hy x hx hf => ?_, fun _ _ => rfl⟩
    · unfold R_laysFarTo_88
      rw [c_ge_p (by omega) (by omega), if_pos (by omega)]
    · by_cases q : (y : Int) < c
      · exact hd y q x hx hf
      · have hyc : y = c.toNat := by omega
        subst hyc
        obtain ⟨_, _, w', w1, w2, w3⟩ := aj_sy hx.1
        rw [show ((c.toNat : Nat) : Int) = c by omega] at w3
        have := hp w' w1 (by omega) (by omega) (by rw [w3]; exact hx.2) (by rw [w3]; exact hf)
        rw [w3] at this
        exact this
  | k + 1, m + 1, w, mo, M, e, h0, hm, hG, hco, hS, hd, hp => by
    have hb : ∀ y : Nat, y < 144 → 0 ≤ M 118 y ∧ M 118 y ≤ 1000000000 := fun y hy => by
      have a := hS.2.1 y hy
      have b := hD.2.1 y hy
      have c := hf0 y hy
      omega
    have hnb := nbS_b (c := c) (w := w) hc.1 hc.2
    have efb := R_farBy_eq hg hG hb hco hc (w := w) (by omega)
    have bc := hb c.toNat (by omega)
    have bw := wB_b hF g t (nbS c w).toNat
    have bf : 0 ≤ fbV F g t (M 118) c w ∧ fbV F g t (M 118) c w ≤ 1000240001 := by
      unfold fbV
      repeat' split
      · omega
      · omega
      · omega
      · have := hb (nbS c w).toNat (by omega)
        omega
    unfold R_laysFarTo_88 R_laysFarTo_128
    rw [c_ge_p (by omega) (by omega), if_neg (by omega), efb, ob_s, rd_p (by omega), c_lt_p (by omega) (by omega)]
    by_cases c1 : fbV F g t (M 118) c w < M 118 c.toNat
    · rw [if_pos c1, ob_s, wa_p (by omega)]
      have q1 : nbS c w ≠ -1 := fun z => by
        unfold fbV at c1
        rw [if_pos z] at c1
        omega
      have q2 : g 2 (nbS c w).toNat ≠ 3 := fun z => by
        unfold fbV at c1
        rw [if_neg q1, if_pos z] at c1
        omega
      have q3 : M 118 (nbS c w).toNat ≠ 1000000000 := fun z => by
        unfold fbV at c1
        rw [if_neg q1, if_neg q2, if_pos z] at c1
        omega
      have ef : fbV F g t (M 118) c w = M 118 (nbS c w).toNat + wB F g t 1000 (nbS c w).toNat := by
        unfold fbV
        rw [if_neg q1, if_neg q2, if_neg q3]
      have bo := hb (nbS c w).toNat (by omega)
      have so := hS.2.1 (nbS c w).toNat (by omega)
      have sc := hS.2.1 c.toNat (by omega)
      have he : En g (nbS c w).toNat c.toNat := by
        have e3 : ((c.toNat : Nat) : Int) = c := by omega
        have := aj_of (x := c.toNat) (w := w) (by omega) (by omega) (by rw [e3]; omega)
        rw [e3] at this
        exact ⟨aj_sy this, q2⟩
      have dk := hD.2.2.1 _ _ he (by omega)
      obtain ⟨N, mo', a1, a2, a3, a4⟩ := ff_88 (k70 := k70) (k78 := k78) hF hg hD hf0 hc k m (w + 1) 1 (am_up M 118 c.toNat (fbV F g t (M 118) c w)) (by omega) (by omega) (by omega) (hG.fa (fun k h => upo (by omega))) (fun x hx => by rw [upo (by decide)]; exact hco x hx) (by
        refine ⟨Or.inr rfl, fun y hy => ?_, fun z => by omega, fun _ => ⟨c.toNat, by omega, by omega⟩⟩
        by_cases q : y = c.toNat
        · rw [q, upj]
          omega
        · rw [upx q]
          exact hS.2.1 y hy) (fun y hy x hx hf => by
        rw [upx (by omega)]
        exact hd y hy x hx hf) (fun w' b1 b2 b3 b4 b5 => by
        rw [upj]
        by_cases q : w' = w
        · subst q
          omega
        · have := hp w' b1 (by omega) b3 b4 b5
          omega)
      exact ⟨N, mo', a1, a2, a3, fun k h => by rw [a4 k h, upo h]⟩
    · rw [if_neg c1]
      refine ff_88 hF hg hD hf0 hc k m (w + 1) mo M (by omega) (by omega) (by omega) hG hco hS hd (fun w' b1 b2 b3 b4 b5 => ?_)
      by_cases q : w' = w
      · subst q
        have so := hS.2.1 (nbS c w').toNat (by omega)
        have ef : fbV F g t (M 118) c w' = M 118 (nbS c w').toNat + wB F g t 1000 (nbS c w').toNat := by
          unfold fbV
          rw [if_neg (by omega), if_neg b4, if_neg (by omega)]
        omega
      · exact hp w' b1 (by omega) b3 b4 b5
theorem ff_78 {F : FT} {g t : am_M} {s : Nat} {k70 : Int → am_M → Option am_M} {D f0 : Nat → Int} (hF : FO F) (hg : WG g) (hD : DI (En g) (wB F g t 1000) s D) (hf0 : ∀ y : Nat, y < 144 → f0 y ≤ 1000000000) : ∀ (k m : Nat) (c mo : Int) (M : am_M), c + k = 144 → 0 ≤ c → k < m → GR g M → (∀ x : Nat, x < 144 → M 117 (g 2 x).toNat = wB F g t 1000 x) → FS D f0 (M 118) mo → (∀ y : Nat, (y : Int) < c → ∀ x, En g x y → f0 x < 1000000000 → M 118 y ≤ f0 x + wB F g t 1000 x) → ∃ N mo', R_laysFarTo_78 k70 m mo c M = k70 mo' N ∧ FS D f0 (N 118) mo' ∧ (∀ x y, En g x y → f0 x < 1000000000 → N 118 y ≤ f0 x + wB F g t 1000 x) ∧ (∀ k, k ≠ 118 → N k = M k)
  | 0, m + 1, c, mo, M, e, h0, hm, hG, hco, hS, hd => by
    refine ⟨M, mo, ?_, hS, fun x y hx hf => hd y (by have := (En_b g x y hx).2; omega) x hx hf, fun _ _ => rfl⟩
    unfold R_laysFarTo_78
    rw [c_ge_p (by omega) (by omega), if_pos (by omega)]
  | k + 1, m + 1, c, mo, M, e, h0, hm, hG, hco, hS, hd => by
    obtain ⟨N1, mo1, a1, a2, a3, a4⟩ := ff_88 (k70 := k70) (k78 := R_laysFarTo_78 k70 m) hF hg hD hf0 (c := c) (by omega) 4 am_big 0 mo M (by omega) (by omega) (by decide) hG hco hS hd (fun w a b => by omega)
    obtain ⟨N2, mo2, b1, b2, b3, b4⟩ := ff_78 (k70 := k70) hF hg hD hf0 k m (c + 1) mo1 N1 (by omega) (by omega) (by omega) (hG.fa (fun k h => a4 k (by omega))) (fun x hx => by rw [a4 117 (by decide)]; exact hco x hx) a2 a3
    refine ⟨N2, mo2, ?_, b2, b3, fun k h => by rw [b4 k h, a4 k h]⟩
    unfold R_laysFarTo_78
    rw [c_ge_p (by omega) (by omega), if_neg (by omega), a1, b1]
def eqB (D f : Nat → Int) : Nat → Bool := fun y => decide (f y = D y)
theorem ff_70 {F : FT} {g t : am_M} {s : Nat} {D : Nat → Int} (hF : FO F) (hg : WG g) (hs : s < 144) (hD : DI (En g) (wB F g t 1000) s D) : ∀ (d m : Nat) (M : am_M), 144 ≤ cn (eqB D (M 118)) 144 + d → d + 1 < m → GR g M → (∀ x : Nat, x < 144 → M 117 (g 2 x).toNat = wB F g t 1000 x) → (∀ y : Nat, y < 144 → D y ≤ M 118 y ∧ M 118 y ≤ 1000000000) → M 118 s ≤ 0 → ∃ N, R_laysFarTo_70 m 1 M = some N ∧ (∀ y : Nat, y < 144 → N 118 y = D y) ∧ (∀ k, k ≠ 118 → N k = M k) := by
  intro d
  induction d using Nat.strongRecOn with
  | _ d ih =>
    intro m M hd hm hG hco hb h0
    obtain ⟨m, rfl⟩ : ∃ m', m = m' + 1 := ⟨m - 1, by omega⟩
    obtain ⟨N1, mo, a1, a2, a3, a4⟩ := ff_78 (k70 := R_laysFarTo_70 m) (f0 := M 118) hF hg hD (fun y hy => (hb y hy).2) 144 am_big 0 0 M (by omega) (by omega) (by decide) hG hco ⟨Or.inl rfl, fun y hy => ⟨(hb y hy).1, Int.le_refl _⟩, fun _ _ _ => rfl, fun z => by omega⟩ (fun y hy => by omega)
    have hr : R_laysFarTo_70 (m + 1) 1 M = R_laysFarTo_70 m mo N1 := by
      rw [R_laysFarTo_70, c_eq_p (by decide) (by decide), if_neg (by decide), a1]
    rcases a2.1 with q | q
    · refine ⟨N1, ?_, fun y hy => ?_, a4⟩
      · rw [hr, q]
        obtain ⟨m, rfl⟩ : ∃ m', m = m' + 1 := ⟨m - 1, by omega⟩
        rw [R_laysFarTo_70, c_eq_p (by decide) (by decide), if_pos (by decide)]
      · have he := a2.2.2.1 q
        have h1 := di_le (u := N1 118) (En_b g) hD (by rw [he s hs]; exact h0) (fun y hy => by rw [he y hy]; exact (hb y hy).2) (fun x y hxy hx => by
          obtain ⟨x1, y1⟩ := En_b g x y hxy
          rw [he x x1] at hx ⊢
          exact a3 x y hxy hx) (D y).toNat y hy (by have := hD.2.1 y hy; omega)
        have h2 := (a2.2.1 y hy).1
        omega
    · obtain ⟨y0, y1, y2⟩ := a2.2.2.2 q
      obtain ⟨mm, ⟨y, m1, m2, m3⟩, m4⟩ := least (fun m => ∃ y : Nat, y < 144 ∧ D y < M 118 y ∧ D y = m) (D y0).toNat ⟨y0, y1, y2, by have := hD.2.1 y0 y1; omega⟩
      have hys : y ≠ s := by
        intro z
        rw [z] at m2
        have := hD.1
        omega
      have hyF := (hb y m1).2
      obtain ⟨x, e1, e2, e3⟩ := hD.2.2.2 y m1 hys (by omega)
      have hx := (En_b g x y e1).1
      have hxe : M 118 x = D x := by
        have := (hb x hx).1
        by_cases z : D x < M 118 x
        · have := m4 (D x).toNat ⟨x, hx, z, by have := hD.2.1 x hx; omega⟩
          have := hD.2.1 x hx
          omega
        · omega
      have h3 := a3 x y e1 (by omega)
      have h4 := (a2.2.1 y m1).1
      have hyn : N1 118 y = D y := by omega
      have hcn := cn_lt (p := eqB D (M 118)) (q := eqB D (N1 118)) 144 (fun j hj hp => by
        unfold eqB at hp ⊢
        have z := of_decide_eq_true hp
        have z2 := a2.2.1 j hj
        exact decide_eq_true (by omega)) y m1 (by unfold eqB; exact decide_eq_true hyn) (by unfold eqB; exact decide_eq_false (by omega))
      have hc1 := cn_le (eqB D (N1 118)) 144
      obtain ⟨N2, c1, c2, c3⟩ := ih (d - 1) (by omega) m N1 (by omega) (by omega) (hG.fa (fun k h => a4 k (by omega))) (fun x hx => by rw [a4 117 (by decide)]; exact hco x hx) (fun y hy => ⟨(a2.2.1 y hy).1, by have := (a2.2.1 y hy).2; have := (hb y hy).2; omega⟩) (by have := (a2.2.1 s hs).2; omega)
      exact ⟨N2, by rw [hr, q, c1], c2, fun k h => by rw [c3 k h, a4 k h]⟩
theorem ff_37 {F : FT} {g t : am_M} {s : Int} {D : Nat → Int} (hF : FO F) (hg : WG g) (hs : 0 ≤ s ∧ s < 144) (hD : DI (En g) (wB F g t 1000) s.toNat D) : ∀ (k m : Nat) (i : Int) (M : am_M), i + k = 144 → 0 ≤ i → k < m → GR g M → (∀ x : Nat, x < 144 → M 117 (g 2 x).toNat = wB F g t 1000 x) → (∀ j : Nat, (j : Int) < i → M 118 j = if (j : Int) = s then 0 else 1000000000) → ∃ N, R_laysFarTo_37 m s i M = some N ∧ (∀ y : Nat, y < 144 → N 118 y = D y) ∧ (∀ k, k ≠ 118 → N k = M k)
  | 0, m + 1, i, M, e, h0, hm, hG, hco, hj => by
    obtain ⟨N, b1, b2, b3⟩ := ff_70 hF hg (by omega) hD 144 am_big M (by omega) (by decide) hG hco (fun y hy => by
      have z := hj y (by omega)
      have w := hD.2.1 y hy
      by_cases q : (y : Int) = s
      · rw [if_pos q] at z
        have := hD.1
        rw [show s.toNat = y by omega] at this
        omega
      · rw [if_neg q] at z
        omega) (by
      have z := hj s.toNat (by omega)
      rw [if_pos (by omega)] at z
      omega)
    refine ⟨N, ?_, b2, b3⟩
    unfold R_laysFarTo_37
    rw [c_ge_p (by omega) (by omega), if_pos (by omega)]
    exact b1
  | k + 1, m + 1, i, M, e, h0, hm, hG, hco, hj => by
    unfold R_laysFarTo_37 R_laysFarTo_61
    rw [c_ge_p (by omega) (by omega), if_neg (by omega), c_ne_p (by omega) (by omega)]
    have st : ∀ a : Int, a = (if i = s then 0 else 1000000000) → ∃ N, R_laysFarTo_37 m s (i + 1) (am_up M 118 i.toNat a) = some N ∧ (∀ y : Nat, y < 144 → N 118 y = D y) ∧ (∀ k, k ≠ 118 → N k = M k) := by
      intro a ha
      obtain ⟨N, b1, b2, b3⟩ := ff_37 hF hg hs hD k m (i + 1) (am_up M 118 i.toNat a) (by omega) (by omega) (by omega) (hG.fa (fun k h => upo (by omega))) (fun x hx => by rw [upo (by decide)]; exact hco x hx) (fun j h => by
        by_cases q : j = i.toNat
        · rw [q, upj, ha, show ((i.toNat : Nat) : Int) = i by omega]
        · rw [upx q]
          exact hj j (by omega))
      exact ⟨N, b1, b2, fun k h => by rw [b3 k h, upo h]⟩
    by_cases q : i = s
    · rw [if_neg (fun h => h q), wa_p (by omega)]
      exact st 0 (by rw [if_pos q])
    · rw [if_pos q, wa_p (by omega)]
      exact st 1000000000 (by rw [if_neg q])
theorem ff_2 {F : FT} {g t u : am_M} {s : Int} {D : Nat → Int} (hW : PW F g t u) (hld : t 0 0 ≠ -1) (hs : 0 ≤ s ∧ s < 144) (hD : DI (En g) (wB F g t 1000) s.toNat D) : ∀ (k m : Nat) (i : Int) (M : am_M), i + k = 7 → 0 ≤ i → k < m → PR F g t u M → (∀ j : Nat, (j : Int) < i → M 117 j = 1000 * cuS F g t j (g 0 1) + 1) → ∃ N, R_laysFarTo_2 m s i M = some N ∧ (∀ y : Nat, y < 144 → N 118 y = D y) ∧ (∀ x : Nat, x < 144 → N 117 (g 2 x).toNat = wB F g t 1000 x) ∧ PR F g t u N
  | 0, m + 1, i, M, e, h0, hm, hR, hj => by
    have hco : ∀ x : Nat, x < 144 → M 117 (g 2 x).toNat = wB F g t 1000 x := fun x hx => by
      have k2 := hW.1.2.2.1 x hx
      have z := hj (g 2 x).toNat (by omega)
      have hb : 0 ≤ cuS F g t (g 2 x) (g 0 1) ∧ cuS F g t (g 2 x) (g 0 1) ≤ 240 := hW.2.2.2.2.1 _ _ _ (by decide)
      rw [show (((g 2 x).toNat : Nat) : Int) = g 2 x by omega] at z
      rw [z]
      unfold wB ctN
      omega
    obtain ⟨N, b1, b2, b3⟩ := ff_37 hW.2.2.2.2 hW.1 hs hD 144 am_big 0 M (by omega) (by omega) (by decide) hR.1 hco (fun j h => by omega)
    refine ⟨N, ?_, b2, fun x hx => by rw [b3 117 (by decide)]; exact hco x hx, hR.fa (fun k h => b3 k (by omega))⟩
    unfold R_laysFarTo_2
    rw [c_ge_p (by omega) (by omega), if_pos (by omega)]
    exact b1
  | k + 1, m + 1, i, M, e, h0, hm, hR, hj => by
    have e42 : M 73 42 = g 0 1 := hR.1.1.2.1
    have hg1 := hW.1.1
    obtain ⟨N1, z1, z2⟩ := R_cutting_eq (k := i) (w := g 0 1) hW.2.2.2.2 hR.2.2.2 hW.1 hW.2.1 hR.1 hR.2.1 hld (by omega) (by omega)
    have hR1 := hR.lg z2
    obtain ⟨N2, b1, b2, b3, b4⟩ := ff_2 hW hld hs hD k m (i + 1) (am_up N1 117 i.toNat (1000 * cuS F g t i (g 0 1) + 1)) (by omega) (by omega) (by omega) (hR1.fa (fun k h => upo (by omega))) (fun j h => by
      by_cases q : j = i.toNat
      · rw [q, upj, show ((i.toNat : Nat) : Int) = i by omega]
      · rw [upx q, z2.1 117 (by decide) (by decide) (by decide)]
        exact hj j (by omega))
    refine ⟨N2, ?_, b2, b3, b4⟩
    unfold R_laysFarTo_2
    rw [c_ge_p (by omega) (by omega), if_neg (by omega), e42, z1, oc_s, wa_p (by omega)]
    exact b1
-- the first step
abbrev fsP (F : FT) (g t : am_M) (D : Nat → Int) (c w : Int) : Prop := 0 ≤ nbS c w ∧ g 2 (nbS c w).toNat ≠ 3 ∧ D (nbS c w).toNat < 1000000000 ∧ D (nbS c w).toNat + wB F g t 1000 (nbS c w).toNat = D c.toNat
def fsS (F : FT) (g t : am_M) (D : Nat → Int) (c : Int) : Nat → Int → Int
  | 0, _ => -2
  | k + 1, w => if fsP F g t D c w then w else fsS F g t D c k (w + 1)
theorem fsS_b (F : FT) (g t : am_M) (D : Nat → Int) (c : Int) : ∀ (k : Nat) (w : Int), 0 ≤ w → -2 ≤ fsS F g t D c k w ∧ fsS F g t D c k w ≤ w + k
  | 0, w, h => by unfold fsS; omega
  | k + 1, w, h => by
    have := fsS_b F g t D c k (w + 1) (by omega)
    unfold fsS
    split <;> omega
theorem fs_lp {F : FT} {g t M : am_M} {s : Nat} {D : Nat → Int} {c : Int} (hF : FO F) (hg : WG g) (hG : GP g M) (hD : DI (En g) (wB F g t 1000) s D) (hc : 0 ≤ c ∧ c < 144) (hgc : g 2 c.toNat ≠ 3) (hf : D c.toNat < 1000000000) (hv : ∀ y : Nat, y < 144 → M 53 y = cvS g D y) (hco : ∀ x : Nat, x < 144 → M 56 (g 2 x).toNat = wB F g t 256 x) : ∀ (k n : Nat) (w : Int), w + k = 4 → 0 ≤ w → k < n → Routes_firstStep_52_2 n c (cvS g D c.toNat) w M = some (fsS F g t D c k w)
  | 0, n + 1, w, e, h0, hn => by
    unfold Routes_firstStep_52_2 fsS
    rw [c_ge_p (by omega) (by omega), if_pos (by omega)]
  | k + 1, n + 1, w, e, h0, hn => by
    have ih := fs_lp hF hg hG hD hc hgc hf hv hco k n (w + 1) (by omega) (by omega) (by omega)
    have hnb := nbS_b (c := c) (w := w) hc.1 hc.2
    have bcv : ∀ y : Nat, y < 144 → 0 ≤ cvS g D y ∧ cvS g D y ≤ 1000000000 := fun y hy => by
      unfold cvS
      split
      · rename_i q
        have := cv_bd hF hD hy q.1
        omega
      · omega
    have er := reachBy_eq (F := F) (t := t) hg hG (fun y hy => by rw [hv y hy]; exact bcv y hy) hco (c := nbS c w) hnb
    have bc := cv_bd hF hD (y := c.toNat) (by omega) hf
    have ec : cvS g D c.toNat = 256 * (D c.toNat / 1000) + D c.toNat % 1000 := if_pos ⟨hf, hgc⟩
    unfold Routes_firstStep_52_2 fsS
    rw [c_ge_p (by omega) (by omega), if_neg (by omega), Country_neighbour_eq hc.1 hc.2 (by omega), ob_s, er, ob_s]
    by_cases q1 : 0 ≤ nbS c w ∧ g 2 (nbS c w).toNat ≠ 3 ∧ D (nbS c w).toNat < 1000000000
    · have bo := cv_bd hF hD (y := (nbS c w).toNat) (by omega) q1.2.2
      have eo : cvS g D (nbS c w).toNat = 256 * (D (nbS c w).toNat / 1000) + D (nbS c w).toNat % 1000 := if_pos ⟨q1.2.2, q1.2.1⟩
      have bw := ctN_b hF g t (nbS c w).toNat
      have ev := hv (nbS c w).toNat (by omega)
      rw [if_pos ⟨q1.1, q1.2.1, by omega⟩, ev]
      have w2 : ((wB F g t 256 (nbS c w).toNat : Nat) : Int) = 256 * (ctN F g t (nbS c w).toNat : Int) + 1 := by unfold wB; omega
      have w1 : ((wB F g t 1000 (nbS c w).toNat : Nat) : Int) = 1000 * (ctN F g t (nbS c w).toNat : Int) + 1 := by unfold wB; omega
      rw [c_ne_p (by omega) (by omega)]
      by_cases q2 : D (nbS c w).toNat + wB F g t 1000 (nbS c w).toNat = D c.toNat
      · rw [if_neg (by omega), if_pos ⟨q1.1, q1.2.1, q1.2.2, q2⟩]
      · rw [if_pos (by omega), if_neg (fun h => q2 h.2.2.2)]
        exact ih
    · have e1 : ¬ (0 ≤ nbS c w ∧ g 2 (nbS c w).toNat ≠ 3 ∧ M 53 (nbS c w).toNat ≠ 1000000000) := by
        intro h
        have ev := hv (nbS c w).toNat (by omega)
        have : cvS g D (nbS c w).toNat = 1000000000 := if_neg (fun z => q1 ⟨h.1, z.2, z.1⟩)
        exact h.2.2 (by omega)
      rw [if_neg e1, c_ne_p (by omega) (by omega), if_pos (by omega), if_neg (fun h => q1 ⟨h.1, h.2.1, h.2.2.1⟩)]
      exact ih
theorem Rfs_lp {F : FT} {g t M : am_M} {s : Nat} {D : Nat → Int} {c d : Int} (hF : FO F) (hg : WG g) (hG : GR g M) (hD : DI (En g) (wB F g t 1000) s D) (hc : 0 ≤ c ∧ c < 144) (hd : am_R d) (hcd : c ≠ d) (hf : D c.toNat < 1000000000) (hv : ∀ y : Nat, y < 144 → M 118 y = D y) (hco : ∀ x : Nat, x < 144 → M 117 (g 2 x).toNat = wB F g t 1000 x) : ∀ (k n : Nat) (w : Int), w + k = 4 → 0 ≤ w → k < n → R_soonest_112 n c d w M = some (fsS F g t D c k w, M)
  | 0, n + 1, w, e, h0, hn => by
    unfold R_soonest_112 R_soonest_148 fsS
    rw [c_ge_p (by omega) (by omega), if_pos (by omega)]
  | k + 1, n + 1, w, e, h0, hn => by
    have ih := Rfs_lp hF hg hG hD hc hd hcd hf hv hco k n (w + 1) (by omega) (by omega) (by omega)
    have hnb := nbS_b (c := c) (w := w) hc.1 hc.2
    have hb : ∀ y : Nat, y < 144 → 0 ≤ M 118 y ∧ M 118 y ≤ 1000000000 := fun y hy => by rw [hv y hy]; exact hD.2.1 y hy
    have er := R_farBy_eq hg hG hb hco hc (w := w) (by omega)
    have bD := hD.2.1 c.toNat (by omega)
    have bw := wB_b hF g t (nbS c w).toNat
    unfold R_soonest_112 fsS
    rw [c_ge_p (by omega) (by omega), if_neg (by omega), c_eq_p (by omega) (by omega), if_neg hcd, er, ob_s, rd_p (by omega), hv c.toNat (by omega)]
    by_cases q1 : 0 ≤ nbS c w ∧ g 2 (nbS c w).toNat ≠ 3 ∧ D (nbS c w).toNat < 1000000000
    · have ev := hv (nbS c w).toNat (by omega)
      have bo := hD.2.1 (nbS c w).toNat (by omega)
      have ef : fbV F g t (M 118) c w = D (nbS c w).toNat + wB F g t 1000 (nbS c w).toNat := by
        unfold fbV
        rw [if_neg (by omega), if_neg q1.2.1, ev, if_neg (by omega)]
      rw [ef, c_ne_p (by omega) (by omega)]
      by_cases q2 : D (nbS c w).toNat + wB F g t 1000 (nbS c w).toNat = D c.toNat
      · rw [if_neg (by omega), if_pos ⟨q1.1, q1.2.1, q1.2.2, q2⟩]
      · rw [if_pos q2, if_neg (fun h => q2 h.2.2.2)]
        exact ih
    · have ef : fbV F g t (M 118) c w = 1000000000 := by
        unfold fbV
        by_cases z1 : nbS c w = -1
        · rw [if_pos z1]
        · rw [if_neg z1]
          by_cases z2 : g 2 (nbS c w).toNat = 3
          · rw [if_pos z2]
          · rw [if_neg z2, if_pos]
            have ev := hv (nbS c w).toNat (by omega)
            have bo := hD.2.1 (nbS c w).toNat (by omega)
            have : ¬ D (nbS c w).toNat < 1000000000 := fun z => q1 ⟨by omega, z2, z⟩
            omega
      rw [ef, c_ne_p (by omega) (by omega), if_pos (by omega), if_neg (fun h => q1 ⟨h.1, h.2.1, h.2.2.1⟩)]
      exact ih
def soS (F : FT) (g t : am_M) (D : Nat → Int) (a y : Int) : Int := if D a.toNat = 1000000000 then -2 else if y = 0 then D a.toNat / 1000 else if y = 1 then D a.toNat % 1000 else fsS F g t D a 4 0
theorem so_9 {F : FT} {g t u : am_M} {n0 : Nat} {a s y : Int} {D : Nat → Int} (hW : PW F g t u) (hld : t 0 0 ≠ -1) (ha : 0 ≤ a ∧ a < 144) (hga : g 2 a.toNat ≠ 3) (hs : 0 ≤ s ∧ s < 144) (hgs : g 2 s.toNat ≠ 3) (hy : 0 ≤ y ∧ y ≤ 2) (hD : DI (En g) (wB F g t 1000) s.toNat D) : ∀ (k m : Nat) (i : Int) (M : am_M), i + k = 7 → 0 ≤ i → k < m → PC F g t u n0 M → (∀ j : Nat, (j : Int) < i → M 56 j = 256 * cuS F g t j (g 0 1) + 1) → ∃ N, Routes_findSoonest_52_26_9 m a s y (t 0 0) i M = some (soS F g t D a y, N) ∧ PC F g t u n0 N
  | 0, m + 1, i, M, e, h0, hm, hC, hj => by
    have hF := hW.2.2.2.2
    have hco : ∀ x : Nat, x < 144 → M 56 (g 2 x).toNat = wB F g t 256 x := fun x hx => by
      have k2 := hW.1.2.2.1 x hx
      have z := hj (g 2 x).toNat (by omega)
      have hb : 0 ≤ cuS F g t (g 2 x) (g 0 1) ∧ cuS F g t (g 2 x) (g 0 1) ≤ 240 := hF.1 _ _ _ (by decide)
      rw [show (((g 2 x).toNat : Nat) : Int) = g 2 x by omega] at z
      rw [z]
      unfold wB ctN
      omega
    obtain ⟨N, b1, b2, b3⟩ := measureTo_eq (F := F) (t := t) hF hW.1 hs hgs hC.1 hco
    have hC1 := hC.ro (N := N) (fun k h => b3 k (by omega) (by omega))
    have hv := di_un (Em_b g) (cv_di hF (by omega) hgs hD) b2
    refine ⟨N, ?_, hC1⟩
    have bD := hD.2.1 a.toNat (by omega)
    unfold Routes_findSoonest_52_26_9 soS
    rw [c_ge_p (by omega) (by omega), if_pos (by omega), b1, ob_s, reachOf_eq (by omega), ob_s, if_pos ha, hv a.toNat (by omega)]
    by_cases q : D a.toNat = 1000000000
    · have ec : cvS g D a.toNat = 1000000000 := if_neg (by omega)
      rw [ec, c_ne_p (by decide) (by decide), if_neg (by decide), if_pos q]
    · have hf : D a.toNat < 1000000000 := by omega
      have bc := cv_bd hF hD (y := a.toNat) (by omega) hf
      have ec : cvS g D a.toNat = 256 * (D a.toNat / 1000) + D a.toNat % 1000 := if_pos ⟨hf, hga⟩
      rw [c_ne_p (by omega) (by omega), if_pos (by omega), if_neg q, ck_p (by omega)]
      by_cases y0 : y = 0
      · rw [if_pos y0, if_pos y0, ck_p (by omega), tw_p, Int.tdiv_eq_ediv_of_nonneg (by omega), show cvS g D a.toNat / 256 = D a.toNat / 1000 by omega]
      · rw [if_neg y0, if_neg y0]
        by_cases y1 : y = 1
        · rw [if_pos y1, if_pos y1, ck_p (by omega), tw_p, Int.tmod_eq_emod_of_nonneg (by omega), show cvS g D a.toNat % 256 = D a.toNat % 1000 by omega]
        · rw [if_neg y1, if_neg y1]
          have ef := fs_lp hF hW.1 hC1.1 hD ha hga hf hv (fun x hx => by rw [b3 56 (by decide) (by decide)]; exact hco x hx) 4 am_big 0 (by omega) (by omega) (by decide)
          have ef' : Routes_firstStep_52 a (cvS g D a.toNat) N = some (fsS F g t D a 4 0) := ef
          rw [ef', ob_s]
  | k + 1, m + 1, i, M, e, h0, hm, hC, hj => by
    have hl := hW.2.1.1
    have hg1 := hW.1.1
    have e13 : M 26 13 = t 0 4 := hC.2.1.1.2.2.2.2.1
    have e3 : M 1 3 = g 0 1 := hC.1.1.2.1
    have e4 := hC.1.2.2.2 (t 0 0).toNat (by omega)
    have b4 := hW.1.2.2.2 (t 0 0).toNat (by omega)
    have bt := hW.2.1.2.2.1 (t 0 0).toNat (by omega)
    have et := Trip_tiredOf_26_eq hC.2.1 (p := t 0 0) (by omega) (by omega)
    obtain ⟨N1, a1, a2⟩ := Law_cutting_eq (k := i) (w := g 0 1) (a := g 3 (t 0 0).toNat) (t := t 1 (t 0 0).toNat) (y := t 0 4) hW.2.2.2.2 hC.2.2.2.1 (by omega) (by omega) (by omega) (by omega) (by omega)
    have ea : F 99 240 (E7 i (g 0 1) (g 3 (t 0 0).toNat) (t 1 (t 0 0).toNat) 0 0 (t 0 4)) = cuS F g t i (g 0 1) := rfl
    rw [ea] at a1
    obtain ⟨N2, b1, b2⟩ := so_9 hW hld ha hga hs hgs hy hD k m (i + 1) (am_up N1 56 i.toNat (256 * cuS F g t i (g 0 1) + 1)) (by omega) (by omega) (by omega) ((hC.lf a2).ro (fun k h => upo (by omega))) (fun j h => by
      by_cases q : j = i.toNat
      · rw [q, upj, show ((i.toNat : Nat) : Int) = i by omega]
      · rw [upx q, a2 56 (by decide) (by decide)]
        exact hj j (by omega))
    refine ⟨N2, ?_, b2⟩
    rw [Routes_findSoonest_52_26_9, c_ge_p (by omega) (by omega), if_neg (by omega), Country_armOf_eq (by omega), if_pos (by omega), ob_s, et, ob_s, e4, e13, e3, a1, oc_s, wa_p (by omega)]
    exact b1
theorem P_soonest_no {F : FT} {g t u M : am_M} {n : Nat} {a s y : Int} (hW : PW F g t u) (hC : PC F g t u n M) (ha : am_R a) (hs : am_R s) (hy : am_R y) (hc : ¬ ((0 ≤ a ∧ a < 144 ∧ g 2 a.toNat ≠ 3) ∧ (0 ≤ s ∧ s < 144 ∧ g 2 s.toNat ≠ 3) ∧ (0 ≤ y ∧ y ≤ 2) ∧ t 0 0 ≠ -1)) : P_soonest a s y M = some (-1, M) := by
  have hk := KI.of hW.1 hC.1
  have hbr : ∀ x : Int, am_R x → Country_isBarred_1 x M = some (if 0 ≤ x ∧ x < 144 ∧ g 2 x.toNat ≠ 3 then 0 else 1) := fun x hx => by
    rw [Country_isBarred_eq hx hk]
    by_cases q : 0 ≤ x ∧ x < 144
    · rw [hC.1.2.2.1 x.toNat (by omega)]
    · rw [if_neg (fun h => q ⟨h.1, h.2.1⟩), if_neg (fun h => q ⟨h.1, h.2.1⟩)]
  unfold P_soonest P_soonest_48
  rw [c_lt_p (by omega) (by omega)]
  by_cases q1 : y < 0
  · rw [if_pos q1]
  rw [if_neg q1, c_gt_p (by omega) (by omega)]
  by_cases q2 : 2 < y
  · rw [if_pos q2]
  rw [if_neg q2, hbr a ha, ob_s]
  by_cases q3 : 0 ≤ a ∧ a < 144 ∧ g 2 a.toNat ≠ 3
  · rw [if_pos q3, c_ne_p (by decide) (by decide), if_neg (by decide), hbr s hs, ob_s]
    by_cases q4 : 0 ≤ s ∧ s < 144 ∧ g 2 s.toNat ≠ 3
    · rw [if_pos q4, c_ne_p (by decide) (by decide), if_neg (by decide), told_ld hW hC.1 hC.2.1, ob_s]
      by_cases q5 : t 0 0 = -1
      · rw [if_pos q5, c_ne_p (by decide) (by decide), if_neg (by decide)]
      · exact absurd ⟨q3, q4, by omega, q5⟩ hc
    · rw [if_neg q4, c_ne_p (by decide) (by decide), if_pos (by decide)]
  · rw [if_neg q3, c_ne_p (by decide) (by decide), if_pos (by decide)]
theorem R_soonest_no {F : FT} {g t u M : am_M} {a s y : Int} (hW : PW F g t u) (hR : PR F g t u M) (ha : am_R a) (hs : am_R s) (hy : am_R y) (hc : ¬ ((0 ≤ a ∧ a < 144 ∧ g 2 a.toNat ≠ 3) ∧ (0 ≤ s ∧ s < 144 ∧ g 2 s.toNat ≠ 3) ∧ (0 ≤ y ∧ y ≤ 2) ∧ t 0 0 ≠ -1)) : R_soonest a s y M = some (-1, M) := by
  have hl := hW.2.1.1
  have e41 : M 73 41 = t 0 0 := hR.2.1.1.1
  unfold R_soonest R_soonest_54
  rw [R_isCell_eq ha, ob_s]
  by_cases q1 : 0 ≤ a ∧ a ≤ 143
  · rw [if_pos q1, c_eq_p (by decide) (by decide), if_neg (by decide), R_isCell_eq hs, ob_s]
    by_cases q2 : 0 ≤ s ∧ s ≤ 143
    · have k1 := hR.1.2.2.1 a.toNat (by omega)
      have k2 := hR.1.2.2.1 s.toNat (by omega)
      have b1 := hW.1.2.2.1 a.toNat (by omega)
      have b2 := hW.1.2.2.1 s.toNat (by omega)
      rw [if_pos q2, c_eq_p (by decide) (by decide), if_neg (by decide), rd_p (by omega), k1, c_eq_p (by omega) (by omega)]
      by_cases q3 : g 2 a.toNat = 3
      · rw [if_pos q3]
      · rw [if_neg q3, rd_p (by omega), k2, c_eq_p (by omega) (by omega)]
        by_cases q4 : g 2 s.toNat = 3
        · rw [if_pos q4]
        · rw [if_neg q4, ck_p hy, R_lies_eq hy (by decide) (by decide), ob_s]
          by_cases q5 : 0 ≤ y ∧ y ≤ 2
          · rw [if_pos q5, c_eq_p (by decide) (by decide), if_neg (by decide), e41, c_ne_p (by omega) (by omega)]
            by_cases q6 : t 0 0 = -1
            · rw [if_neg (fun h => h q6)]
            · exact absurd ⟨⟨q1.1, by omega, q3⟩, ⟨q2.1, by omega, q4⟩, q5, q6⟩ hc
          · rw [if_neg q5, c_eq_p (by decide) (by decide), if_pos (by decide)]
    · rw [if_neg q2, c_eq_p (by decide) (by decide), if_pos (by decide)]
  · rw [if_neg q1, c_eq_p (by decide) (by decide), if_pos (by decide)]
theorem P_soonest_ok {n : Nat} {a s y : Int} (ha : am_R a) (hs : am_R s) (hy : am_R y) : OK2 n (P_soonest a s y) (R_soonest a s y) := by
  refine OK2.of (lp := [12, 13, 53, 54, 56]) (lr := [73, 90, 91, 117, 118]) (by decide) (by decide) (fun M r h => (P_soonest_c a s y M r h).mo (by decide)) (fun M r h => (R_soonest_c a s y M r h).mo (by decide)) (fun F g t u hW => ?_)
  have hl := hW.2.1.1
  have hF := hW.2.2.2.2
  by_cases hc : (0 ≤ a ∧ a < 144 ∧ g 2 a.toNat ≠ 3) ∧ (0 ≤ s ∧ s < 144 ∧ g 2 s.toNat ≠ 3) ∧ (0 ≤ y ∧ y ≤ 2) ∧ t 0 0 ≠ -1
  · obtain ⟨q1, q2, q3, q4⟩ := hc
    obtain ⟨D, hD⟩ := di_ex (E := En g) (w := wB F g t 1000) (s := s.toNat) (B := 1000) (c := ctN F g t) (by decide) (fun x => ⟨rfl, ctN_b hF g t x⟩) (En_b g)
    have bD := hD.2.1 a.toNat (by omega)
    refine ⟨if a = s then (if y = 2 then -2 else 0) else soS F g t D a y, F, g, t, u, ?_, hW, fun M hC => ?_, fun M hR => ?_⟩
    · have := fsS_b F g t D a 4 0 (by decide)
      unfold soS
      repeat' split
      all_goals omega
    · have hk := KI.of hW.1 hC.1
      have e9 : M 26 9 = t 0 0 := ((ld_eq hW.2.1 hC.2.1).2.2 q4).1
      have hbr : ∀ x : Int, (0 ≤ x ∧ x < 144 ∧ g 2 x.toNat ≠ 3) → Country_isBarred_1 x M = some 0 := fun x hx => by
        rw [Country_isBarred_eq (by omega) hk, hC.1.2.2.1 x.toNat (by omega), if_pos hx]
      unfold P_soonest P_soonest_66 Routes_findSoonest_52_26
      rw [c_lt_p (by omega) (by omega), if_neg (by omega), c_gt_p (by omega) (by omega), if_neg (by omega), hbr a q1, ob_s, c_ne_p (by decide) (by decide), if_neg (by decide), hbr s q2, ob_s, c_ne_p (by decide) (by decide), if_neg (by decide), told_ld hW hC.1 hC.2.1, ob_s, if_neg q4, c_ne_p (by decide) (by decide), if_pos (by decide), c_ne_p (by omega) (by omega)]
      by_cases qq : a = s
      · rw [if_neg (fun h => h qq), if_pos qq, c_ne_p (by omega) (by omega)]
        refine ⟨M, ?_, hC.cg (fun _ _ => rfl) (by omega)⟩
        by_cases y2 : y = 2
        · rw [if_neg (fun h => h y2), if_pos y2]
        · rw [if_pos y2, if_neg y2]
      · rw [if_pos qq, if_neg qq, e9]
        obtain ⟨N, b1, b2⟩ := so_9 (n0 := n) hW q4 ⟨q1.1, q1.2.1⟩ q1.2.2 ⟨q2.1, q2.2.1⟩ q2.2.2 q3 hD 7 am_big 0 M (by omega) (by omega) (by decide) hC (fun j h => by omega)
        exact ⟨N, by rw [b1, oc_s], b2.cg (fun _ _ => rfl) (by omega)⟩
    · have e41 : M 73 41 = t 0 0 := hR.2.1.1.1
      have k1 := hR.1.2.2.1 a.toNat (by omega)
      have k2 := hR.1.2.2.1 s.toNat (by omega)
      have b1 := hW.1.2.2.1 a.toNat (by omega)
      have b2 := hW.1.2.2.1 s.toNat (by omega)
      obtain ⟨N, d1, d2, d3, d4⟩ := ff_2 hW q4 ⟨q2.1, q2.2.1⟩ hD 7 am_big 0 M (by omega) (by omega) (by decide) hR (fun j h => by omega)
      have d1' : R_laysFarTo s M = some N := d1
      refine ⟨N, ?_, d4⟩
      have v1 := d2 a.toNat (by omega)
      unfold R_soonest R_soonest_108
      rw [R_isCell_eq ha, ob_s, if_pos (by omega), c_eq_p (by decide) (by decide), if_neg (by decide), R_isCell_eq hs, ob_s, if_pos (by omega), c_eq_p (by decide) (by decide), if_neg (by decide), rd_p (by omega), k1, c_eq_p (by omega) (by omega), if_neg q1.2.2, rd_p (by omega), k2, c_eq_p (by omega) (by omega), if_neg q2.2.2, ck_p hy, R_lies_eq hy (by decide) (by decide), ob_s, if_pos q3, c_eq_p (by decide) (by decide), if_neg (by decide), e41, c_ne_p (by omega) (by omega), if_pos q4, d1', ob_s, rd_p (by omega), v1, c_ne_p (by omega) (by omega)]
      by_cases qq : a = s
      · have h0 : D a.toNat = 0 := by rw [qq]; exact hD.1
        rw [if_pos qq, if_pos (by omega), c_ge_p (by omega) (by omega)]
        by_cases y2 : y = 2
        · rw [if_pos (by omega), if_pos y2, show am_big = 999999 + 1 from rfl, R_soonest_112]
          unfold R_soonest_148
          rw [c_ge_p (by decide) (by decide), if_neg (by decide), c_eq_p (by omega) (by omega), if_pos qq]
        · rw [if_neg (by omega), if_neg y2, c_ne_p (by omega) (by omega), rd_p (by omega), rd_p (by omega), v1, h0]
          by_cases y0 : y = 0
          · rw [if_neg (fun h => h y0)]
            rfl
          · rw [if_pos y0]
            rfl
      · rw [if_neg qq]
        unfold soS
        by_cases q : D a.toNat = 1000000000
        · rw [if_neg (fun h => h q), if_pos q]
        · rw [if_pos q, if_neg q, c_ge_p (by omega) (by omega)]
          by_cases y0 : y = 0
          · rw [if_neg (by omega), if_pos y0, c_ne_p (by omega) (by omega), if_neg (fun h => h y0), rd_p (by omega), v1, ck_p (by omega), tw_p, Int.tdiv_eq_ediv_of_nonneg (by omega)]
          · by_cases y1 : y = 1
            · rw [if_neg (by omega), if_neg y0, if_pos y1, c_ne_p (by omega) (by omega), if_pos y0, rd_p (by omega), v1, ck_p (by omega), tw_p, Int.tmod_eq_emod_of_nonneg (by omega)]
            · rw [if_pos (by omega), if_neg y0, if_neg y1]
              exact Rfs_lp hF hW.1 d4.1 hD ⟨q1.1, q1.2.1⟩ hs qq (by omega) d2 d3 4 am_big 0 (by omega) (by omega) (by decide)
  · exact ⟨-1, F, g, t, u, by decide, hW, fun M hC => ⟨M, P_soonest_no hW hC ha hs hy hc, hC.cg (fun _ _ => rfl) (by omega)⟩, fun M hR => ⟨M, R_soonest_no hW hR ha hs hy hc, hR⟩⟩
