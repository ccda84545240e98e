-- a condition in its brackets, by the reference
theorem Rcond_eq {g : am_M} {n p : Int} {b t : Nat} {vs : List SX} {M : am_M} (hg : WG g) (hn : 1 ≤ n ∧ n ≤ 240) (hp : 0 ≤ p ∧ p ≤ n) (hG : GR g M) (h : RVt M n p b t vs [] 0) : ∃ N, R_condition M = some N ∧ RVf b M N ∧ (taS g n p ≠ 40 → N 73 5 = -1000 - p) ∧ (taS g n p = 40 → QC g n false (p + 1) vs [40] b M N) := by
  have htb := taS_b hg (n := n) (by omega) p
  have hhb := heV_b htb
  have f0 : RVf b M (am_up M 73 26 0) := RVf.rf.up (by omega)
  have h0 : RVt (am_up M 73 26 0) n p b t vs [] 0 := by
    obtain ⟨⟨c3, c4, c5, c7, c8, c9⟩, s1, r1, l1', l2, l3⟩ := h
    exact ⟨⟨by rw [upx (by decide)]; exact c3, by rw [upx (by decide)]; exact c4, by rw [upx (by decide)]; exact c5, by rw [upx (by decide)]; exact c7, by rw [upx (by decide)]; exact c8, by rw [upx (by decide)]; exact c9⟩, trivial, by rw [upo (by decide), upo (by decide)]; exact r1, l1', l2, l3⟩
  have h26 : (am_up M 73 26 0) 73 26 = 0 := upj
  unfold R_condition
  rw [fz_p (Or.inl rfl)]
  generalize am_up M 73 26 0 = M1 at f0 h0 h26
  have hG1 := hG.rvf f0
  have hh := R_here_eq hG1 hp.1 (show n ≤ 260 by omega) (by omega) (by omega) h0.1.1 h0.1.2.1
  have hhe : heV (taS g n p) = 40 ↔ taS g n p = 40 := by
    unfold heV
    split <;> omega
  rw [hh, ob_s, c_eq_p (by omega) (by decide)]
  unfold R_condition_23
  by_cases q : taS g n p = 40
  · have hpn := ta_n (g := g) (n := n) (p := p) hp.1 (by omega)
    obtain ⟨N, a1, a2, a3, a4, a5⟩ := Ropn hg hG1 hn ⟨hp.1, hpn⟩ q (by decide) h0
    have a6 := a5 (by decide)
    have e26 : N 73 26 = 0 := a3.2.trans h26
    have hS : SFo [40] := ⟨Or.inl rfl, Or.inl rfl⟩
    obtain ⟨N2, b1', b2⟩ := (rc_all (b := b) hg hn 240).1 am_big 999999 (p + 1) vs [40] t N (by omega) (by show _ < 1000000; omega) (by omega) (by omega) (hG.rvf (f0.tr a2)) a6 hS trivial e26
    rw [if_pos (hhe.mpr q), good_1 h0.1.2.2.1, ob_s, c_ne_p (by decide) (by decide), if_pos (by decide), a1, ob_s, show am_big = 999999 + 1 from rfl, R_condition_37, good_1 a6.1.2.2.1, ob_s, c_eq_p (by decide) (by decide), if_neg (by decide), e26, c_ne_p (by decide) (by decide), if_neg (by decide), c_eq_p (by decide) (by decide), if_neg (by decide)]
    unfold R_pieceOfC
    have hq := QC.st (f0.tr a2) rfl (Int.le_refl _) b2
    exact ⟨N2, b1', hq.1, fun z => absurd q z, fun _ => hq⟩
  · rw [if_neg (fun z => q (hhe.mp z)), h0.1.1, wr_1 h0.1.2.2.1, ob_s, good_0 (by rw [upj]; omega) (by rw [upj]; omega), ob_s, c_ne_p (by decide) (by decide), if_neg (by decide)]
    exact ⟨_, rfl, f0.up (by omega), fun _ => by rw [upj]; omega, fun z => absurd z q⟩
