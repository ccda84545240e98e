-- the law read: conditions, by the class, whole
theorem lset {M : am_M} {p : Int} {s i : Nat} {w : Int} (h : VSt M p s 0) (hs : s ≤ 240) (hi : i < s) : ∃ N, Law_setOperand_17 (i : Int) w M = some N ∧ VSt N p s 0 ∧ VG i M N ∧ N 18 = M 18 ∧ (N 19 i = w) ∧ ∀ j, j ≠ i → N 19 j = M 19 j := by
  refine ⟨am_up M 19 i w, ?_, ⟨by rw [upo (by decide)]; exact h.1, by rw [upo (by decide)]; exact h.2.1, by rw [upo (by decide)]; exact h.2.2.1, by rw [upo (by decide)]; exact h.2.2.2⟩, ⟨fun k hk => upo (by omega), by rw [upo (by decide)], fun j hj => ⟨by rw [upo (by decide)], upx (by omega)⟩⟩, upo (by decide), upj, fun j hj => upx hj⟩
  unfold Law_setOperand_17 Law_setOperand_17_26
  rw [c_lt_p (by omega) (by decide), if_neg (by omega), h.2.2.2, c_ge_p (by omega) (by omega), if_neg (by omega), c_ge_p (by omega) (by decide), if_neg (by omega), wa_p (by omega), show ((i : Int)).toNat = i by omega]
theorem lset_b {M : am_M} {p bad : Int} {s : Nat} {i w : Int} (h : VSt M p s bad) (hs : s ≤ 240) (hi : am_R i) (s0 : Nat) (h0 : i = -1 ∨ (s0 : Int) ≤ i) : ∃ N, Law_setOperand_17 i w M = some N ∧ VSt N p s bad ∧ VG s0 M N := by
  unfold Law_setOperand_17 Law_setOperand_17_26
  rw [c_lt_p hi (by decide), h.2.2.2, c_ge_p hi (by omega), c_ge_p hi (by decide)]
  by_cases q1 : i < 0
  · rw [if_pos q1]
    exact ⟨M, rfl, h, VG.rf⟩
  rw [if_neg q1]
  by_cases q2 : (s : Int) ≤ i
  · rw [if_pos q2]
    exact ⟨M, rfl, h, VG.rf⟩
  rw [if_neg q2, if_neg (by omega), wa_p (by omega)]
  refine ⟨_, rfl, ⟨by rw [upo (by decide)]; exact h.1, by rw [upo (by decide)]; exact h.2.1, by rw [upo (by decide)]; exact h.2.2.1, by rw [upo (by decide)]; exact h.2.2.2⟩, ⟨fun k hk => upo (by omega), by rw [upo (by decide)], fun j hj => ⟨by rw [upo (by decide)], upx (by omega)⟩⟩⟩
/-- one more behind & or |: what the class does, and what comes of it -/
theorem jstep {g : am_M} {n : Int} {d s : Nat} {c : Int} {rc : Int → am_M → Option am_M} {x : SX} {p : Int} {M : am_M} {src : VR} {T : Int → SX → VR} {E : Int → Prop} {mk : SX → SX} (hn : 1 ≤ n ∧ n ≤ 240) (hV : VSt M p (s + x.1) 0) (hX : TX g n M) (hp : 0 ≤ p ∧ p < n) (sx : ((s + x.1 : Nat) : Int) ≤ p) (ox : XO x) (cx : CE (M 18) (M 19) s x)
    (hrc : ∀ (M1 : am_M), TX g n M1 → VSt M1 (p + 1) (s + x.1 + 1) 0 → ∃ N, rc (d : Int) M1 = some N ∧ CT g n src T (p + 1) (s + x.1 + 1) (s + x.1 + 1) false E M1 N)
    (hmk : ∀ (y : SX) (o' p' : Nat → Int), XO y → CE o' p' s x → CE o' p' (s + x.1 + 1) y → o' (s + x.1) = c → p' (s + x.1) = ((s + x.1 + 1 + y.1 : Nat) : Int) → CE o' p' s (mk y)) (hml : ∀ y, (mk y).1 = x.1 + y.1 + 1) :
    ∃ (N : am_M) (p' : Int) (s' : Nat) (bad : Int), (ob (fw M 16 2 (M 16 2 + 1) fun M2 => oc (Law_emit_17 c 0 M2) fun v3 M4 => ob (rc (d : Int) M4) fun M5 => ob (Law_setOperand_17 v3 (M5 17 2) M5) fun M6 => some M6) some) = some N ∧ VG s M N ∧ VSt N p' s' bad ∧ s + x.1 ≤ s' ∧ s' ≤ 240 ∧ ((bad < 0 ∧ -7000 ≤ bad ∧ src.1 = bad) ∨ (bad = 0 ∧ ∃ y : SX, s' = s + (mk y).1 ∧ (XO y ∧ y.2.2.1 = true) ∧ CE (N 18) (N 19) s (mk y) ∧ y.2.1 ≤ 20 ∧ p + 1 < p' ∧ p' ≤ n ∧ (s' : Int) + p ≤ p' + ((s + x.1 : Nat) : Int) ∧ src = T p' y ∧ E (taS g n p'))) := by
  obtain ⟨v1, v2⟩ := hV.p (q := p + 1)
  obtain ⟨r, M4, g1, g2, g3, _⟩ := lemit (v := c) (w := 0) (s0 := s) v1 (by omega) (by omega)
  obtain ⟨d1, d2, d3, d4, d5⟩ := g3 (by omega)
  have f1 := (v2 s).tr g2
  obtain ⟨N, a1, a2, p', s', bad, b1, b2, b3, b4⟩ := hrc M4 (hX.vg f1) d2
  have f2 := f1.tr (a2.lo (show s ≤ s + x.1 + 1 by omega))
  rw [hV.2.1, fw_p, g1, oc_s, d1, a1, ob_s, b1.2.2.2]
  rcases b4 with ⟨z1, z2, z3⟩ | ⟨z1, y, z2, z3, z4, z5, z6, z7, z8, z9, z10⟩
  · obtain ⟨N2, c1, c2, c3⟩ := lset_b (i := ((s + x.1 : Nat) : Int)) (w := (s' : Int)) b1 b3 (by omega) s (Or.inr (by omega))
    rw [c1, ob_s, ob_s]
    exact ⟨N2, p', s', bad, rfl, f2.tr c3, c2, by omega, b3, Or.inl ⟨z1, z2, z3⟩⟩
  · subst z1
    have hp2 := z6.2 rfl
    obtain ⟨N2, c1, c2, c3, c4, c5, c6⟩ := lset (i := s + x.1) (w := (s' : Int)) b1 b3 (by omega)
    rw [c1, ob_s, ob_s]
    have hw := hml y
    refine ⟨N2, p', s', 0, rfl, f2.tr (c3.lo (by omega)), c2, by omega, b3, Or.inr ⟨rfl, y, by omega, z3, hmk y _ _ z3.1 ?_ ?_ ?_ ?_, z5, by omega, z7, by omega, z9, z10⟩⟩
    · refine cx.cg (fun j h1 h2 => ?_)
      have w1 := a2.2.2 j (by omega)
      have w2 := d5.2.2 j (by omega)
      have w3 := (v2 (s + x.1)).2.2 j (by omega)
      rw [c4, c6 j (by omega), w1.1, w1.2, w2.1, w2.2, w3.1, w3.2]
      exact ⟨rfl, rfl⟩
    · refine z4.cg (fun j h1 h2 => ?_)
      rw [c4, c6 j (by omega)]
      exact ⟨rfl, rfl⟩
    · rw [c4, (a2.2.2 (s + x.1) (by omega)).1]
      exact d3
    · rw [c5, z2]
