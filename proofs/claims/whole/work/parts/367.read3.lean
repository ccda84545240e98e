-- the law read: values, by the class, whole
theorem dig_eq {g M : am_M} {n p : Int} (hg : WG g) (hn : n ≤ 260) : P_isDigit (taS g n p) M = some (if dgB g n p then 1 else 0) := P_isDigit_eq (by have := taS_b hg hn p; omega)
theorem num_80 {g : am_M} {n : Int} {s : Nat} {rc : Int → am_M → Option am_M} (hg : WG g) (hn : 1 ≤ n ∧ n ≤ 240) : ∀ (k fu : Nat) (i a p : Int) (M : am_M), i + k = 5 → k < fu → 0 ≤ i → 0 ≤ p ∧ p ≤ n → TX g n M → VSt M p s 0 → ∃ N, LawReader_readFactor_16_80 rc fu a i M = LawReader_readFactor_16_125 rc (nrd g n k p a).2 N ∧ VSt N (nrd g n k p a).1 s 0 ∧ VG s M N
  | 0, fu + 1, i, a, p, M, e, hf, hi, hp, hX, hV => by
    refine ⟨M, ?_, hV, VG.rf⟩
    rw [LawReader_readFactor_16_80, c_ge_p (by omega) (by decide), if_pos (by omega)]
    rfl
  | k + 1, fu + 1, i, a, p, M, e, hf, hi, hp, hX, hV => by
    have hh := lhere_0 (by omega) hX (by omega) hV
    rw [LawReader_readFactor_16_80, c_ge_p (by omega) (by decide), if_neg (by omega), hh, ob_s, dig_eq hg (by omega), ob_s]
    unfold nrd
    by_cases q : dgB g n p
    · have hpn := ta_n (g := g) (n := n) (p := p) hp.1 (by omega)
      rw [if_pos q, if_pos q, c_eq_p (by decide) (by decide), if_neg (by decide), ob_s, hV.2.1, fw_p]
      obtain ⟨v1, v2⟩ := hV.p (q := p + 1)
      obtain ⟨N, a1, a2, a3⟩ := num_80 (rc := rc) hg hn k fu (i + 1) (10 * a + taS g n p - 48) (p + 1) _ (by omega) (by omega) (by omega) (by omega) (hX.vg (v2 s)) v1
      exact ⟨N, a1, a2, (v2 s).tr a3⟩
    · rw [if_neg q, if_neg q, c_eq_p (by decide) (by decide), if_pos rfl]
      exact ⟨M, rfl, hV, VG.rf⟩
theorem lx_c {c : Int} (h : 0 ≤ lxS c) : 97 ≤ c ∧ c ≤ 121 := by
  unfold lxS at h
  repeat' split at h
  all_goals omega
theorem fac_ok {g : am_M} {n : Int} {d f : Nat} (hg : WG g) (hn : 1 ≤ n ∧ n ≤ 240) (hd : d ≤ 6) (hS : d < 6 → SumOK g n (d + 1) f) : FacOK g n d (f + 1) := by
  intro p vs ops s M ho hp hs hX hV
  show ∃ N, LawReader_readFactor_16 (fun b0 M => K_LawReader_readSum_R f 0 b0 M) (d : Int) M = some N ∧ _
  have htb := taS_b hg (n := n) (by omega) p
  have hh := lhere_0 (by omega) hX (by omega) hV
  have hfe := vf_e (g := g) (beh := false) (vs := vs) (ops := ops) hn.2 hp.1 hp.2
  unfold vB at hfe
  rw [if_neg (by decide)] at hfe
  unfold LawReader_readFactor_16 LawReader_readFactor_16_158
  rw [hh, ob_s, c_ne_p (by omega) (by decide)]
  by_cases q1 : taS g n p = 91
  · have hpn := ta_n (g := g) (n := n) (p := p) hp.1 (by omega)
    rw [if_pos q1, ho] at hfe
    rw [if_neg (fun h => h q1)]
    unfold LawReader_opens_16
    rw [c_lt_p (by omega) (by decide)]
    by_cases q2 : d < 6
    · rw [if_neg (by omega)] at hfe
      obtain ⟨v1, v2⟩ := hV.p (q := p + 1)
      rw [if_pos (by omega), hV.2.1, fw_p, oc_s, c_eq_p (by decide) (by decide), if_neg (by decide)]
      obtain ⟨N, a1, a2, p', s', bad, b1, b2, b3, b4⟩ := hS q2 (p + 1) vs (91 :: ops) s _ (by show (if (91 : Int) = 91 ∨ _ then 1 else 0) + opn ops = _; rw [if_pos (Or.inl rfl)]; omega) (by show ¬ tiO 91; decide) (by show ¬ plO 91; decide) (by omega) (by omega) (hX.vg (v2 s)) v1
      have f2 := (v2 s).tr a2
      dsimp only
      rw [show (d : Int) + 1 = ((d + 1 : Nat) : Int) by omega, a1, ob_s]
      unfold LawReader_expect_16 LawReader_expect_16_26
      rcases b4 with ⟨z1, z2, z3⟩ | ⟨z1, x, z2, z3, z4, z5, z6, z7, z8, z9, z10⟩
      · rw [lhere_b b1 ⟨z1, z2⟩, ob_s, c_ne_p (by decide) (by decide), if_pos (by decide), lfail_b b1 ⟨z1, z2⟩, ob_s, ob_s]
        exact ⟨N, rfl, f2, p', s', bad, b1, b2, b3, Or.inl ⟨z1, z2, by rw [hfe]; exact z3⟩⟩
      · subst z1
        have htb' := taS_b hg (n := n) (by omega) p'
        have hfe2 := vf_e (g := g) (beh := true) (p := p') (vs := x :: vs) (ops := 91 :: ops) hn.2 (by omega) z7
        unfold vB at hfe2
        rw [if_pos rfl, if_neg z10.1, if_neg z10.2, sm_n (by show ¬ (tiO 91 ∨ (true = true ∧ plO 91)); decide)] at hfe2
        rw [lhere_0 (by omega) (hX.vg f2) (by omega) b1, ob_s, c_ne_p (by omega) (by decide)]
        by_cases q3 : taS g n p' = 93
        · have hpn' := ta_n (g := g) (n := n) (p := p') (by omega) (by omega)
          rw [if_pos q3, if_pos (show hdO ((x :: vs, 91 :: ops) : List SX × List Int).2 = 91 from rfl)] at hfe2
          rw [if_neg (fun h => h q3), b1.2.1, fw_p, ob_s]
          obtain ⟨u1, u2⟩ := b1.p (q := p' + 1)
          refine ⟨_, rfl, f2.tr (u2 s), p' + 1, s', 0, u1, b2, b3, Or.inr ⟨rfl, x, z2, z3, ?_, by omega, ⟨by omega, fun _ => by omega⟩, by omega, by omega, by rw [hfe, z9, hfe2]; rfl, trivial⟩⟩
          rw [upo (by decide), upo (by decide)]
          exact z4
        · rw [if_neg q3, if_pos (show hdO ((x :: vs, 91 :: ops) : List SX × List Int).2 = 91 from rfl)] at hfe2
          obtain ⟨N2, c1, c2, c3⟩ := lfail_0 (f := 1) b1
          rw [if_pos q3, c1, ob_s, ob_s]
          exact ⟨N2, rfl, f2.tr (c3 s), p', s', _, c2, b2, b3, Or.inl ⟨by omega, by omega, by rw [hfe, z9, hfe2]; dsimp only; omega⟩⟩
    · rw [if_pos (by omega)] at hfe
      obtain ⟨N2, c1, c2, c3⟩ := lfail_0 (f := 5) hV
      rw [if_neg (by omega), c1, ob_s, oc_s, c_eq_p (by decide) (by decide), if_pos rfl]
      exact ⟨N2, rfl, c3 s, p, s, _, c2, Nat.le_refl _, by omega, Or.inl ⟨by omega, by omega, by rw [hfe]; dsimp only; omega⟩⟩
  · rw [if_neg q1] at hfe
    have hlb := lxS_b (taS g n p)
    rw [if_pos q1, lidx_eq (by omega), ob_s, c_lt_p (by omega) (by decide), ob_s]
    by_cases q2 : 0 ≤ lxS (taS g n p)
    · have hc := lx_c q2
      have hpn := ta_n (g := g) (n := n) (p := p) hp.1 (by omega)
      rw [if_neg (show ¬ dgB g n p by omega), if_pos q2] at hfe
      rw [if_neg (by omega)]
      obtain ⟨r, N, c1, c2, c3, c4⟩ := lemit (v := 1) (w := lxS (taS g n p)) (s0 := s) hV (by omega) (Nat.le_refl _)
      obtain ⟨d1, d2, d3, d4, d5⟩ := c3 (by omega)
      obtain ⟨u1, u2⟩ := d2.p (q := p + 1)
      rw [c1, oc_s, d2.2.1, fw_p]
      refine ⟨_, rfl, c2.tr (u2 s), p + 1, s + 1, 0, u1, by omega, by omega, Or.inr ⟨rfl, leX (lxS (taS g n p)).toNat, rfl, leX_O (by omega), leX_C (by rw [upo (by decide)]; exact d3) (by rw [upo (by decide), d4]; omega) (by omega), by show 1 ≤ _; omega, ⟨by omega, fun _ => by omega⟩, by omega, by omega, hfe, trivial⟩⟩
    · rw [if_pos (by omega), dig_eq hg (by omega), ob_s]
      by_cases q3 : dgB g n p
      · have hpn := ta_n (g := g) (n := n) (p := p) hp.1 (by omega)
        rw [if_pos q3] at hfe
        rw [if_pos q3, c_eq_p (by decide) (by decide), if_neg (by decide)]
        obtain ⟨N, a1, a2, a3⟩ := num_80 (rc := fun b0 M => K_LawReader_readSum_R f 0 b0 M) hg hn 5 am_big 0 0 p M (by omega) (by show 5 < 1000000; omega) (by omega) hp hX hV
        have e1 : nrd g n 5 p 0 = nrd g n 4 (p + 1) (10 * 0 + taS g n p - 48) := if_pos q3
        have e2 := nrd_b (g := g) (n := n) 4 (p + 1) (10 * 0 + taS g n p - 48) (by omega)
        have e3 := nrd_b (g := g) (n := n) 5 p 0 (by omega)
        rw [← e1] at e2
        have e4 := e2.2.2.2 (by omega) (by omega)
        have e5 : ((0 : Int) + 1) * 10 ^ 5 = 100000 := by decide
        rw [e5] at e3
        have htb' := taS_b hg (n := n) (by omega) (nrd g n 5 p 0).1
        rw [a1]
        unfold LawReader_readFactor_16_125 LawReader_readFactor_16_140 LawReader_readFactor_16_158
        rw [lhere_0 (by omega) (hX.vg a3) (by omega) a2, ob_s, dig_eq hg (by omega), ob_s]
        by_cases q4 : dgB g n (nrd g n 5 p 0).1
        · rw [if_pos q4] at hfe
          obtain ⟨N2, c1, c2, c3⟩ := lfail_0 (f := 2) a2
          obtain ⟨r, N3, g1, g2, g3, s', g4, g5, g6⟩ := lemit (v := 0) (w := (nrd g n 5 p 0).2) (s0 := s) c2 (by omega) (Nat.le_refl _)
          rw [if_pos q4, c_eq_p (by decide) (by decide), if_neg (by decide), c1, ob_s, g1, oc_s]
          exact ⟨N3, rfl, (a3.tr (c3 s)).tr g2, _, s', _, g4, g5, g6, Or.inl ⟨by omega, by omega, by rw [hfe]; dsimp only; omega⟩⟩
        · rw [if_neg q4] at hfe
          obtain ⟨r, N3, g1, g2, g3, _⟩ := lemit (v := 0) (w := (nrd g n 5 p 0).2) (s0 := s) a2 (by omega) (Nat.le_refl _)
          obtain ⟨d1, d2, d3, d4, d5⟩ := g3 (by omega)
          rw [if_neg q4, c_eq_p (by decide) (by decide), if_pos rfl, g1, oc_s]
          exact ⟨N3, rfl, a3.tr g2, _, s + 1, 0, d2, by omega, by omega, Or.inr ⟨rfl, nuX (nrd g n 5 p 0).2, rfl, nuX_O (by omega), nuX_C d3 d4 (by omega), by show 1 ≤ _; omega, ⟨by omega, fun _ => by omega⟩, by omega, by omega, hfe, trivial⟩⟩
      · rw [if_neg q3, if_neg q2] at hfe
        obtain ⟨N2, c1, c2, c3⟩ := lfail_0 (f := 1) hV
        rw [if_neg q3, c_eq_p (by decide) (by decide), if_pos rfl, c1, ob_s]
        exact ⟨N2, rfl, c3 s, p, s, _, c2, Nat.le_refl _, by omega, Or.inl ⟨by omega, by omega, by rw [hfe]; dsimp only; omega⟩⟩
