-- forest: the reference
def QF (M N : am_M) : Prop := (∀ c, c ≠ 73 → c ≠ 76 → N c = M c) ∧ ∀ j, j ≠ 3 → j ≠ 5 → j ≠ 12 → N 73 j = M 73 j
theorem QF.rf {M : am_M} : QF M M := ⟨fun _ _ _ => rfl, fun _ _ _ _ => rfl⟩
theorem QF.tr {M N O : am_M} (a : QF M N) (b : QF N O) : QF M O := ⟨fun k h1 h2 => (b.1 k h1 h2).trans (a.1 k h1 h2), fun j h1 h2 h3 => (b.2 j h1 h2 h3).trans (a.2 j h1 h2 h3)⟩
theorem QF.up {M N : am_M} {c j : Nat} {v : Int} (a : QF M N) (h : c = 76 ∨ (c = 73 ∧ (j = 3 ∨ j = 5 ∨ j = 12))) : QF M (am_up N c j v) := by
  refine ⟨fun k h1 h2 => ?_, fun i h1 h2 h3 => ?_⟩
  · rw [upo (by omega)]
    exact a.1 k h1 h2
  · by_cases q : 73 = c
    · subst q
      rw [upx (by omega)]
      exact a.2 i h1 h2 h3
    · rw [upo q]
      exact a.2 i h1 h2 h3
theorem NF.qf {M N : am_M} (a : NF M N) : QF M N := ⟨fun k h1 _ => a.1 k h1, fun j h1 h2 _ => a.2 j h1 h2⟩
theorem GR.qf {g M N : am_M} (h : GR g M) (e : QF M N) : GR g N := by
  unfold GR at h ⊢
  rw [e.2 1 (by decide) (by decide) (by decide), e.2 42 (by decide) (by decide) (by decide), e.2 43 (by decide) (by decide) (by decide), e.2 19 (by decide) (by decide) (by decide), e.2 66 (by decide) (by decide) (by decide), e.1 74 (by decide) (by decide), e.1 75 (by decide) (by decide), e.1 92 (by decide) (by decide), e.1 94 (by decide) (by decide)]
  exact h
theorem PR.qf {F : FT} {g t u M N : am_M} (h : PR F g t u M) (e : QF M N) : PR F g t u N := by
  refine ⟨h.1.qf e, ?_, fun q => (h.2.2.1 q).cg (fun k a => e.1 k (by omega) (by omega)), h.2.2.2.cg (fun k a b => e.1 k (by omega) (by omega)) (e.2 19 (by decide) (by decide) (by decide))⟩
  have h2 := h.2.1
  unfold TR at h2 ⊢
  rw [e.2 41 (by decide) (by decide) (by decide), e.2 46 (by decide) (by decide) (by decide), e.2 47 (by decide) (by decide) (by decide), e.2 44 (by decide) (by decide) (by decide), e.2 45 (by decide) (by decide) (by decide), e.2 2 (by decide) (by decide) (by decide), e.1 93 (by decide) (by decide), e.1 95 (by decide) (by decide), e.1 96 (by decide) (by decide), e.1 97 (by decide) (by decide), e.1 98 (by decide) (by decide), e.1 99 (by decide) (by decide), e.1 100 (by decide) (by decide)]
  exact h2
theorem good_1 {M : am_M} (h : M 73 5 = 0) : R_isGood M = some 1 := by
  rw [R_isGood_eq (by omega), if_pos h]
theorem good_0 {M : am_M} (h : M 73 5 < 0) (h2 : am_R (M 73 5)) : R_isGood M = some 0 := by
  rw [R_isGood_eq h2, if_neg (by omega)]
theorem wr_1 {M : am_M} {f p : Int} (h : M 73 5 = 0) : R_wrongs f p M = some (am_up M 73 5 (-1000 * f - p)) := by
  rw [R_wrongs_eq (by omega) (by omega), if_neg (by omega)]
theorem run68 {kd t : Int} (ht : 0 ≤ t ∧ t ≤ 99) : ∀ (k fu : Nat) (i f : Int) (M : am_M), i + k = t → 0 ≤ i → k < fu → M 73 5 = 0 → M 73 12 = f → 0 ≤ f → f + k ≤ 144 → ∃ N, R_run_68 fu kd t i M = some N ∧ N 73 12 = f + k ∧ (∀ j : Nat, N 76 j = if f ≤ (j : Int) ∧ (j : Int) < f + k then kd else M 76 j) ∧ QF M N ∧ N 73 3 = M 73 3 ∧ N 73 5 = 0
  | 0, fu + 1, i, f, M, e, h0, hf, h5, h12, hf0, hf1 => by
    refine ⟨M, ?_, by omega, fun j => by rw [if_neg (by omega)], QF.rf, rfl, h5⟩
    unfold R_run_68 R_run_108
    rw [good_1 h5, ob_s, c_eq_p (by decide) (by decide), if_neg (by decide), c_ge_p (by omega) (by omega), if_pos (by omega)]
  | k + 1, fu + 1, i, f, M, e, h0, hf, h5, h12, hf0, hf1 => by
    obtain ⟨Z, hZ⟩ : ∃ Z, Z = am_up (am_up M 76 f.toNat kd) 73 12 (f + 1) := ⟨_, rfl⟩
    have z5 : Z 73 5 = 0 := by rw [hZ, upx (by decide), upo (by decide)]; exact h5
    have z3 : Z 73 3 = M 73 3 := by rw [hZ, upx (by decide), upo (by decide)]
    have z76 : Z 76 = upf (M 76) f.toNat kd := by rw [hZ, upo (by decide), up_f]
    have fz : QF M Z := by
      rw [hZ]
      exact (QF.rf.up (by omega)).up (by omega)
    obtain ⟨N, a1, a2, a3, a4, a5, a6⟩ := run68 (kd := kd) ht k fu (i + 1) (f + 1) Z (by omega) (by omega) (by omega) z5 (by rw [hZ, upj]) (by omega) (by omega)
    refine ⟨N, ?_, by omega, fun j => ?_, fz.tr a4, by rw [a5, z3], a6⟩
    · unfold R_run_68 R_run_108
      rw [good_1 h5, ob_s, c_eq_p (by decide) (by decide), if_neg (by decide), c_ge_p (by omega) (by omega), if_neg (by omega), h12, wa_p (by omega), fw_p, upo (show (73 : Nat) ≠ 76 by decide), h12, ← hZ]
      exact a1
    · rw [a3 j, z76]
      by_cases z : j = f.toNat
      · subst z
        rw [if_neg (by omega), upf_e, if_pos (by omega)]
      · rw [upf_n z]
        by_cases w : f + 1 ≤ (j : Int) ∧ (j : Int) < f + 1 + k
        · rw [if_pos w, if_pos (by omega)]
        · rw [if_neg w, if_neg (by omega)]
theorem run38 {kd t p x y : Int} {M : am_M} (ht : 1 ≤ t ∧ t ≤ 99) (hp : 0 ≤ p ∧ p ≤ 300) (hx : 0 ≤ x ∧ x ≤ 12) (hy : 0 ≤ y ∧ y ≤ 11) (h5 : M 73 5 = 0) (h12 : M 73 12 = 12 * y + x) : ∃ N, R_run_38 (12 * (y + 1)) p kd t M = some N ∧ QF M N ∧ (12 < x + t → N 73 5 = -6000 - p) ∧ (x + t ≤ 12 → N 73 5 = 0 ∧ N 73 3 = M 73 3 ∧ N 73 12 = 12 * y + (x + t) ∧ ∀ j : Nat, N 76 j = lyS (M 76) (12 * y + x) t kd j) := by
  unfold R_run_38 R_run_65
  rw [good_1 h5, ob_s, c_eq_p (by decide) (by decide), if_neg (by decide), h12, c_le_p (by omega) (by omega)]
  by_cases q : x + t ≤ 12
  · rw [if_pos (by omega)]
    obtain ⟨N, a1, a2, a3, a4, a5, a6⟩ := run68 (kd := kd) (t := t) (by omega) t.toNat am_big 0 (12 * y + x) M (by omega) (by omega) (by show _ < 1000000; omega) h5 h12 (by omega) (by omega)
    refine ⟨N, a1, a4, fun h => by omega, fun _ => ⟨a6, a5, by omega, fun j => ?_⟩⟩
    rw [a3 j]
    unfold lyS
    rw [show ((t.toNat : Nat) : Int) = t by omega]
  · rw [if_neg (by omega), wr_1 h5, ob_s]
    refine ⟨am_up M 73 5 (-1000 * 6 - p), ?_, QF.rf.up (by omega), fun _ => by rw [upj]; omega, fun h => by omega⟩
    rw [show am_big = 999999 + 1 from rfl, R_run_68]
    unfold R_run_108
    rw [good_0 (by rw [upj]; omega) (by rw [upj]; omega), ob_s, c_eq_p (by decide) (by decide), if_pos (by decide)]
theorem rr_run {g M : am_M} {n y p x : Int} (hg : WG g) (hG : GR g M) (hn : 1 ≤ n ∧ n ≤ 200) (hy : 0 ≤ y ∧ y ≤ 11) (hp : 0 ≤ p ∧ p < n) (hx : 0 ≤ x ∧ x ≤ 12) (e3 : M 73 3 = p) (e4 : M 73 4 = n) (e5 : M 73 5 = 0) (e12 : M 73 12 = 12 * y + x) : ∃ N, R_run (12 * (y + 1)) M = some N ∧ QF M N ∧ (tiS g n p = 0 → N 73 5 = -3000 - (p + 1)) ∧ (tiS g n p ≠ 0 → 12 < x + tiS g n p → N 73 5 = -6000 - p) ∧ (tiS g n p ≠ 0 → x + tiS g n p ≤ 12 → N 73 5 = 0 ∧ N 73 3 = txS g n p ∧ N 73 12 = 12 * y + (x + tiS g n p) ∧ ∀ j : Nat, N 76 j = lyS (M 76) (12 * y + x) (tiS g n p) (klS (taS g n p)) j) := by
  have hb := taS_b hg (n := n) (by omega) p
  have htb := tiS_b g n p
  have f0 : NF M (am_up M 73 3 (p + 1)) := NF.rf.up (Or.inl rfl)
  have z3 : (am_up M 73 3 (p + 1)) 73 3 = p + 1 := upj
  have z4 : (am_up M 73 3 (p + 1)) 73 4 = n := by rw [upx (by decide)]; exact e4
  have z5 : (am_up M 73 3 (p + 1)) 73 5 = 0 := by rw [upx (by decide)]; exact e5
  have z12 : (am_up M 73 3 (p + 1)) 73 12 = 12 * y + x := by rw [upx (by decide)]; exact e12
  have sd := R_seesDigit_eq hg (hG.nf f0) (n := n) (p := p + 1) (by omega) (by omega) (by omega) (by omega) z3 z4
  have hev := heV_b hb
  unfold R_run
  rw [R_here_eq hG hp.1 (by omega) (by omega) (by omega) e3 e4, ob_s, R_kindBy_eq (by omega), ob_s, kl_he (by omega), e3, fw_p, sd, ob_s]
  by_cases q : dgB g n (p + 1)
  · have et : tiS g n p = nvS g n (p + 1) := if_pos q
    have ex : txS g n p = npS g n (p + 1) := if_pos q
    obtain ⟨N1, a1, a2, a3, a4⟩ := R_number_eq hg (hG.nf f0) (n := n) (p := p + 1) (by omega) (by omega) (by omega) (by omega) z3 z4 z5 q
    rw [if_pos q, c_eq_p (by decide) (by decide), if_neg (by decide), a1, oc_s, et]
    have f1 : QF M N1 := (f0.tr a2).qf
    by_cases w : nvS g n (p + 1) = 0
    · rw [if_pos w] at a4
      refine ⟨N1, ?_, f1, fun _ => a4, fun h => absurd w h, fun h => absurd w h⟩
      unfold R_run_38 R_run_65
      rw [good_0 (by omega) (by omega), ob_s, c_eq_p (by decide) (by decide), if_pos (by decide), show am_big = 999999 + 1 from rfl, R_run_68]
      unfold R_run_108
      rw [good_0 (by omega) (by omega), ob_s, c_eq_p (by decide) (by decide), if_pos (by decide)]
    · rw [if_neg w] at a4
      have n12 : N1 73 12 = 12 * y + x := by rw [a2.2 12 (by decide) (by decide)]; exact z12
      have hnb := nvS_b q
      obtain ⟨N2, b1, b2, b3, b4⟩ := run38 (kd := klS (taS g n p)) (t := nvS g n (p + 1)) (p := p) (x := x) (y := y) (M := N1) (by omega) (by omega) hx hy a4 n12
      refine ⟨N2, b1, f1.tr b2, fun h => absurd h w, fun _ => b3, fun _ h => ?_⟩
      obtain ⟨c1, c2, c3, c4⟩ := b4 h
      refine ⟨c1, by rw [c2, a3, ex], c3, fun j => ?_⟩
      rw [c4 j, a2.1 76 (by decide), upo (by decide)]
  · have et : tiS g n p = 1 := if_neg q
    have ex : txS g n p = p + 1 := if_neg q
    rw [if_neg q, c_eq_p (by decide) (by decide), if_pos (by decide), et]
    obtain ⟨N2, b1, b2, b3, b4⟩ := run38 (kd := klS (taS g n p)) (t := 1) (p := p) (x := x) (y := y) (M := am_up M 73 3 (p + 1)) (by omega) (by omega) hx hy z5 z12
    refine ⟨N2, b1, f0.qf.tr b2, fun h => by omega, fun _ => b3, fun _ h => ?_⟩
    obtain ⟨c1, c2, c3, c4⟩ := b4 h
    refine ⟨c1, by rw [c2, z3, ex], c3, fun j => ?_⟩
    rw [c4 j, upo (by decide)]
theorem rr_end {M : am_M} {fu : Nat} {e : Int} (h : M 73 5 < 0) (h2 : am_R (M 73 5)) : R_row_81 (fu + 1) e M = some M := by
  unfold R_row_81 R_row_142
  rw [good_0 h h2, ob_s, c_eq_p (by decide) (by decide), if_pos (by decide)]
theorem rr_81 {g : am_M} {n y : Int} (hg : WG g) (hn : 1 ≤ n ∧ n ≤ 200) (hy : 0 ≤ y ∧ y ≤ 11) : ∀ (k fu : Nat) (p x : Int) (dr : Nat → Int) (M : am_M), 13 ≤ x + k → 0 ≤ x ∧ x ≤ 12 → k + 1 < fu → 0 ≤ p ∧ p ≤ n → GR g M → M 73 3 = p → M 73 4 = n → M 73 5 = 0 → M 73 12 = 12 * y + x → dE (12 * y + x) dr (M 76) → ∃ N, R_row_81 fu (12 * (y + 1)) M = some N ∧ QF M N ∧ ((rwS g n y k p x dr).1 < 0 → N 73 5 = (rwS g n y k p x dr).1) ∧ (0 ≤ (rwS g n y k p x dr).1 → N 73 5 = 0 ∧ N 73 3 = (rwS g n y k p x dr).1 ∧ N 73 12 = 12 * y + 12 ∧ dE (12 * y + 12) (rwS g n y k p x dr).2 (N 76))
  | 0, fu + 1, p, x, dr, M, hk, hx, hf, hp, hG, e3, e4, e5, e12, hd => by omega
  | k + 1, fu + 1, p, x, dr, M, hk, hx, hf, hp, hG, e3, e4, e5, e12, hd => by
    have hb := taS_b hg (n := n) (by omega) p
    have hev := heV_b hb
    have hkb := klS_b (taS g n p)
    have eh := R_here_eq hG hp.1 (show n ≤ 260 by omega) (by omega) (by omega) e3 e4
    unfold R_row_81 R_row_142 R_row_107 rwS
    rw [good_1 e5, ob_s, c_eq_p (by decide) (by decide), if_neg (by decide), e12, c_lt_p (by omega) (by omega), eh, ob_s, R_kindBy_eq (by omega), ob_s, kl_he (by omega), ob_s, R_kindBy_eq (by omega), ob_s, kl_he (by omega), c_eq_p (by omega) (by omega), c_ne_p (by omega) (by omega)]
    by_cases q1 : klS (taS g n p) < 0
    · rw [if_pos q1]
      by_cases q : 12 ≤ x
      · rw [if_neg (by omega), if_pos (by omega), if_pos q]
        refine ⟨M, rfl, QF.rf, fun h => by dsimp only at h; omega, fun _ => ⟨e5, e3, by omega, ?_⟩⟩
        rw [show 12 * y + 12 = 12 * y + x by omega]
        exact hd
      · rw [if_pos (by omega), if_neg (by omega), if_neg q, e3, wr_1 e5, ob_s]
        have f1 : QF M (am_up M 73 5 (-1000 * 1 - p)) := QF.rf.up (by omega)
        refine ⟨am_up M 73 5 (-1000 * 1 - p), ?_, f1, fun _ => by rw [upj]; dsimp only; omega, fun h => by dsimp only at h; omega⟩
        unfold R_row_127
        rw [good_0 (by rw [upj]; omega) (by rw [upj]; omega), ob_s, c_eq_p (by decide) (by decide), if_pos (by decide)]
        obtain ⟨fu, rfl⟩ : ∃ f', fu = f' + 1 := ⟨fu - 1, by omega⟩
        exact rr_end (by rw [upj]; omega) (by rw [upj]; omega)
    · have hk2 := klS_p (c := taS g n p) (by omega)
      have hpn := ta_n (g := g) (n := n) (p := p) hp.1 (by omega)
      have htx := txS_b (g := g) (n := n) hp.1 hpn
      have htb := tiS_b g n p
      obtain ⟨N1, a1, a2, a3, a4, a5⟩ := rr_run hg hG hn hy ⟨hp.1, hpn⟩ hx e3 e4 e5 e12
      rw [if_neg q1, if_neg (show ¬ klS (taS g n p) = -1 by omega), if_pos (show klS (taS g n p) ≠ -1 by omega), ite_self]
      unfold R_row_127
      rw [good_1 e5, ob_s, c_eq_p (by decide) (by decide), if_neg (by decide), a1, ob_s]
      by_cases q2 : tiS g n p = 0
      · have := a3 q2
        rw [if_pos q2]
        obtain ⟨fu, rfl⟩ : ∃ f', fu = f' + 1 := ⟨fu - 1, by omega⟩
        exact ⟨N1, rr_end (by omega) (by omega), a2, fun _ => this, fun h => by dsimp only at h; omega⟩
      rw [if_neg q2]
      by_cases q3 : 12 < x + tiS g n p
      · have := a4 q2 q3
        rw [if_pos q3]
        obtain ⟨fu, rfl⟩ : ∃ f', fu = f' + 1 := ⟨fu - 1, by omega⟩
        exact ⟨N1, rr_end (by omega) (by omega), a2, fun _ => this, fun h => by dsimp only at h; omega⟩
      · obtain ⟨c1, c2, c3, c4⟩ := a5 q2 (by omega)
        rw [if_neg q3]
        obtain ⟨N2, b1, b2, b3, b4⟩ := rr_81 hg hn hy k fu (txS g n p) (x + tiS g n p) (lyS dr (12 * y + x) (tiS g n p) (klS (taS g n p))) N1 (by omega) (by omega) (by omega) (by omega) (hG.qf a2) c2 (by rw [a2.2 4 (by decide) (by decide) (by decide)]; exact e4) c1 c3 (fun c hc => by
          rw [c4 c]
          unfold lyS
          by_cases w : 12 * y + x ≤ (c : Int) ∧ (c : Int) < 12 * y + x + tiS g n p
          · rw [if_pos w, if_pos w]
          · rw [if_neg w, if_neg w]
            exact hd c (by omega))
        exact ⟨N2, b1, a2.tr b2, b3, b4⟩
theorem rr_22 {y p : Int} (hy : 1 ≤ y ∧ y ≤ 11) : ∀ (k fu : Nat) (x : Int) (dr : Nat → Int) (M : am_M), x + k = 12 → 0 ≤ x → k < fu → M 73 12 = 12 * y → M 73 3 = p → M 73 5 = 0 → (∀ c : Nat, (c : Int) < 12 * y → M 76 c = dr c) → (∀ c : Nat, 12 * y ≤ (c : Int) → (c : Int) < 12 * y + x → M 76 c = dr (c - 12)) → ∃ N, R_row_22 fu x M = some N ∧ QF M N ∧ N 73 5 = 0 ∧ N 73 3 = p + 1 ∧ N 73 12 = 12 * y + 12 ∧ dE (12 * y + 12) (reS dr y) (N 76)
  | 0, fu + 1, x, dr, M, e, h0, hf, e12, e3, e5, h1, h2 => by
    refine ⟨am_up (am_up M 73 12 (12 * y + 12)) 73 3 (p + 1), ?_, (QF.rf.up (by omega)).up (by omega), by rw [upx (by decide), upx (by decide)]; exact e5, upj, by rw [upx (by decide), upj], fun c hc => ?_⟩
    · unfold R_row_22
      rw [c_ge_p (by omega) (by omega), if_pos (by omega), e12, fw_p, fw_p, upx (by decide), e3]
    · rw [upo (by decide), upo (by decide)]
      unfold reS
      by_cases w : 12 * y ≤ (c : Int) ∧ (c : Int) < 12 * y + 12
      · rw [if_pos w]
        exact h2 c w.1 (by omega)
      · rw [if_neg w]
        exact h1 c (by omega)
  | k + 1, fu + 1, x, dr, M, e, h0, hf, e12, e3, e5, h1, h2 => by
    have hv := h1 (12 * y + x - 12).toNat (by omega)
    obtain ⟨N, a1, a2, a3, a4, a5, a6⟩ := rr_22 (p := p) hy k fu (x + 1) dr (am_up M 76 (12 * y + x).toNat (dr (12 * y + x - 12).toNat)) (by omega) (by omega) (by omega) (by rw [upo (by decide)]; exact e12) (by rw [upo (by decide)]; exact e3) (by rw [upo (by decide)]; exact e5) (fun c hc => by rw [upx (by omega)]; exact h1 c hc) (fun c hc hc2 => by
      by_cases z : c = (12 * y + x).toNat
      · subst z
        rw [upj]
        congr 1
        omega
      · rw [upx z]
        exact h2 c hc (by omega))
    refine ⟨N, ?_, (QF.rf.up (by omega)).tr a2, a3, a4, a5, a6⟩
    unfold R_row_22
    rw [c_ge_p (by omega) (by omega), if_neg (by omega), e12, rd_p (by omega), wa_p (by omega), hv]
    exact a1
theorem rr_row {g M : am_M} {n y p : Int} {dr : Nat → Int} (hg : WG g) (hn : 1 ≤ n ∧ n ≤ 200) (hy : 0 ≤ y ∧ y ≤ 11) (hp : 0 ≤ p ∧ p ≤ n) (hG : GR g M) (e3 : M 73 3 = p) (e4 : M 73 4 = n) (e5 : M 73 5 = 0) (e12 : M 73 12 = 12 * y) (hd : dE (12 * y) dr (M 76)) : ∃ N, R_row y M = some N ∧ QF M N ∧ ((rw1 g n y p dr).1 < 0 → N 73 5 = (rw1 g n y p dr).1) ∧ (0 ≤ (rw1 g n y p dr).1 → N 73 5 = 0 ∧ N 73 3 = (rw1 g n y p dr).1 ∧ N 73 12 = 12 * y + 12 ∧ dE (12 * y + 12) (rw1 g n y p dr).2 (N 76)) := by
  have hb := taS_b hg (n := n) (by omega) p
  have hev := heV_b hb
  have eh := R_here_eq hG hp.1 (show n ≤ 260 by omega) (by omega) (by omega) e3 e4
  have h61 : heV (taS g n p) = 61 ↔ taS g n p = 61 := by
    unfold heV
    split <;> omega
  have A := rr_81 hg hn hy 13 am_big p 0 dr M (by omega) (by omega) (by decide) hp hG e3 e4 e5 (by omega) (by rw [Int.add_zero]; exact hd)
  unfold R_row rw1
  rw [eh, ob_s, c_ne_p (by omega) (by omega), c_le_p (by omega) (by omega)]
  by_cases q : taS g n p = 61
  · rw [if_neg (fun h => h (h61.mpr q))]
    by_cases q0 : y ≤ 0
    · rw [if_pos q0, if_neg (show ¬ (0 < y ∧ taS g n p = 61) by omega)]
      exact A
    · rw [if_neg q0, if_pos ⟨by omega, q⟩]
      obtain ⟨N, a1, a2, a3, a4, a5, a6⟩ := rr_22 (y := y) (p := p) (by omega) 12 am_big 0 dr M (by omega) (by omega) (by decide) e12 e3 e5 (fun c hc => hd c hc) (fun c h1 h2 => by omega)
      exact ⟨N, a1, a2, fun h => by dsimp only at h; omega, fun _ => ⟨a3, a4, a5, a6⟩⟩
  · rw [if_pos (fun h => q (h61.mp h)), if_neg (fun z => q z.2)]
    exact A
/-- the new forest -/
def ngS (g : am_M) (dr : Nat → Int) : am_M := fun k j => if k = 2 then dr j else am_up g 0 4 0 k j
theorem ng_2 {g : am_M} {dr : Nat → Int} : ngS g dr 2 = dr := rfl
theorem ng_o {g : am_M} {dr : Nat → Int} {k : Nat} (h : k ≠ 2) (h0 : k ≠ 0) : ngS g dr k = g k := by
  funext j
  unfold ngS
  rw [if_neg h, upo h0]
theorem ng_0 {g : am_M} {dr : Nat → Int} {j : Nat} : ngS g dr 0 j = if j = 4 then 0 else g 0 j := by
  unfold ngS
  rw [if_neg (by decide), up_s]
theorem ng_W {g : am_M} {dr : Nat → Int} (h : WG g) (hd : DR 144 dr) : WG (ngS g dr) := by
  have h1 := h.1
  refine ⟨?_, ?_, ?_, ?_⟩
  · rw [ng_0, ng_0, ng_0, ng_0, ng_0]
    simp
    omega
  · rw [ng_o (by decide) (by decide)]
    exact h.2.1
  · rw [ng_2]
    exact fun c hc => hd c (by omega)
  · rw [ng_o (by decide) (by decide)]
    exact h.2.2.2
theorem rf_148 {F : FT} {g t u : am_M} {dr : Nat → Int} (hW : PW F g t u) (hd : DR 144 dr) : ∀ (k fu c : Nat) (a : Int) (M : am_M), c + k = 144 → k < fu → TR t M → LWR F M → GR (fun k j => if k = 2 then M 75 j else g k j) M → (∀ j : Nat, j < 144 → M 76 j = dr j) → (∀ j : Nat, j < c → M 75 j = dr j) → ∃ N, R_forest_148 fu a (c : Int) M = some (cjS dr k c a, N) ∧ PR F (ngS g dr) (begS t (ngS g dr) (t 2 0)) u N
  | 0, fu + 1, c, a, M, e, hf, hT, hL, hG, h76, h75 => by
    have hl := hW.2.1.1
    have h20 := hW.2.1.2.1 0 (by omega)
    have hgW := ng_W (g := g) (dr := dr) hW.1 hd
    obtain ⟨Z, hZ⟩ : ∃ Z, Z = am_up M 73 66 0 := ⟨_, rfl⟩
    have hTZ : TR t Z := by
      rw [hZ]
      exact hT.o (by decide)
    have hGZ : GR (ngS g dr) Z := by
      unfold GR at hG ⊢
      rw [hZ]
      rw [ng_0, ng_0, ng_0, ng_0, ng_0, ng_2, ng_o (show (1 : Nat) ≠ 2 by decide) (by decide), ng_o (show (3 : Nat) ≠ 2 by decide) (by decide)]
      simp only [if_neg (show ¬ ((0 : Nat) = 2) by decide), if_neg (show ¬ ((1 : Nat) = 2) by decide), if_neg (show ¬ ((3 : Nat) = 2) by decide)] at hG
      rw [upx (by decide), upx (by decide), upx (by decide), upx (by decide), upj, upo (by decide), upo (by decide), upo (by decide), upo (by decide)]
      refine ⟨⟨hG.1.1, hG.1.2.1, hG.1.2.2.1, hG.1.2.2.2.1, rfl⟩, hG.2.1, fun c' hc' => h75 c' (by omega), hG.2.2.2⟩
    obtain ⟨N, b1, b2, b3, b4⟩ := R_beginsPath_eq (c := t 2 0) hgW hW.2.1 hGZ hTZ (by omega) (by omega)
    have e95 : Z 95 0 = t 2 0 := (hTZ.2.1 0 (by omega)).1
    refine ⟨N, ?_, hGZ.nb b4 b3, b2, fun q => by rw [ng_0] at q; simp at q, ?_⟩
    · unfold R_forest_148 cjS
      rw [c_ge_p (by omega) (by omega), if_pos (by omega), fz_p (Or.inl rfl), ← hZ, rd_p (by decide), show Int.toNat 0 = 0 from rfl, e95, b1, ob_s]
    · have hLZ : LWR F Z := hL.cg (fun k a b => by rw [hZ, upo (by omega)]) (by rw [hZ, upx (by decide)])
      exact hLZ.cg (fun k a b => b3 k (by simp; omega)) (b4 19 (by decide) (by decide))
  | k + 1, fu + 1, c, a, M, e, hf, hT, hL, hG, h76, h75 => by
    have hdc := hd c (by omega)
    have ec : ((c : Int)).toNat = c := by omega
    obtain ⟨Z, hZ⟩ : ∃ Z, Z = am_up M 75 c (dr c) := ⟨_, rfl⟩
    have z75 : Z 75 = upf (M 75) c (dr c) := by rw [hZ, up_f]
    have zo : ∀ i, i ≠ 75 → Z i = M i := fun i hi => by rw [hZ, upo hi]
    obtain ⟨N, a1, a2⟩ := rf_148 hW hd k fu (c + 1) (if dr c = 2 then a else a + 1) Z (by omega) (by omega) (by
      unfold TR at hT ⊢
      rw [zo 73 (by decide), zo 95 (by decide), zo 96 (by decide), zo 97 (by decide), zo 98 (by decide), zo 99 (by decide), zo 93 (by decide), zo 100 (by decide)]
      exact hT) (hL.cg (fun k a b => zo k (by omega)) (by rw [zo 73 (by decide)])) (by
      unfold GR at hG ⊢
      rw [zo 73 (by decide), zo 74 (by decide), zo 92 (by decide), zo 94 (by decide)]
      simp only [if_neg (show ¬ ((0 : Nat) = 2) by decide), if_neg (show ¬ ((1 : Nat) = 2) by decide), if_neg (show ¬ ((3 : Nat) = 2) by decide), if_true] at hG ⊢
      exact ⟨hG.1, hG.2.1, fun _ _ => trivial, hG.2.2.2⟩) (fun j hj => by rw [zo 76 (by decide)]; exact h76 j hj) (fun j hj => by
      rw [z75]
      by_cases z : j = c
      · rw [z, upf_e]
      · rw [upf_n z]
        exact h75 j (by omega))
    refine ⟨N, ?_, a2⟩
    unfold R_forest_148 R_forest_183 cjS
    rw [c_ge_p (by omega) (by omega), if_neg (by omega), rd_p (by omega), ec, h76 c (by omega), wa_p (by omega), ec, rd_p (by omega), ec, upj, ← hZ, c_ne_p (by omega) (by omega)]
    by_cases q : dr c = 2
    · rw [if_pos q] at a1
      rw [if_neg (fun h => h q), if_pos q, Int.add_zero, ← a1]
      rfl
    · rw [if_neg q] at a1
      rw [if_pos q, if_neg q, ← a1]
      rfl
theorem rf_132 {F : FT} {g t u : am_M} {M : am_M} {r : RP} (hW : PW F g t u) (hR : PR F g t u M) (h5 : r.1 < 0 → M 73 5 = r.1) (hr : -7000 ≤ r.1 ∧ r.1 ≤ 0) (h0 : 0 ≤ r.1 → M 73 5 = 0 ∧ DR 144 r.2 ∧ ∀ j : Nat, j < 144 → M 76 j = r.2 j) : ∃ N, R_forest_132 M = some (foA r, N) ∧ (r.1 < 0 → PR F g t u N) ∧ (0 ≤ r.1 → PR F (ngS g r.2) (begS t (ngS g r.2) (t 2 0)) u N) := by
  unfold R_forest_132 foA
  by_cases q : r.1 < 0
  · have e5 := h5 q
    rw [c_ge_p (by omega) (by omega), if_neg (by omega), if_pos q, e5]
    exact ⟨M, rfl, fun _ => hR, fun h => by omega⟩
  · obtain ⟨e5, hd, h76⟩ := h0 (by omega)
    rw [c_ge_p (by omega) (by omega), if_pos (by omega), if_neg q]
    obtain ⟨N, a1, a2⟩ := rf_148 hW hd 144 am_big 0 0 M (by omega) (by decide) hR.2.1 hR.2.2.2 (by
      have hG := hR.1
      unfold GR at hG ⊢
      simp only [if_neg (show ¬ ((0 : Nat) = 2) by decide), if_neg (show ¬ ((1 : Nat) = 2) by decide), if_neg (show ¬ ((3 : Nat) = 2) by decide), if_true]
      exact ⟨hG.1, hG.2.1, fun _ _ => trivial, hG.2.2.2⟩) h76 (fun j hj => by omega)
    exact ⟨N, a1, fun h => absurd h q, fun _ => a2⟩
theorem rf_34 {F : FT} {g t u : am_M} {n : Int} (hW : PW F g t u) (hn : 1 ≤ n ∧ n ≤ 200) : ∀ (k fu : Nat) (y p : Int) (dr : Nat → Int) (M : am_M), y + k = 11 → 0 ≤ y → k + 1 < fu → 0 ≤ p ∧ p ≤ n → PR F g t u M → M 73 3 = p → M 73 4 = n → M 73 5 = 0 → M 73 12 = 12 * y → DR (12 * y) dr → dE (12 * y) dr (M 76) → ∃ N, R_forest_34 fu y M = some (foA (foS g n k y p dr), N) ∧ ((foS g n k y p dr).1 < 0 → PR F g t u N) ∧ (0 ≤ (foS g n k y p dr).1 → PR F (ngS g (foS g n k y p dr).2) (begS t (ngS g (foS g n k y p dr).2) (t 2 0)) u N)
  | k, 0, y, p, dr, M, hk, hy, hf, hp, hR, e3, e4, e5, e12, hD, hd => absurd hf (by omega)
  | k, fu + 1, y, p, dr, M, hk, hy, hf, hp, hR, e3, e4, e5, e12, hD, hd => by
    obtain ⟨N1, a1, a2, a3, a4⟩ := rr_row (y := y) hW.1 hn (by omega) hp hR.1 e3 e4 e5 e12 hd
    have h1 := rw1_b (g := g) (y := y) (n := n) (by omega) hp dr
    have hR1 := hR.qf a2
    have e41 : N1 73 4 = n := by rw [a2.2 4 (by decide) (by decide) (by decide)]; exact e4
    have hfb := foS_b (g := g) (n := n) (by omega) k y p dr hy hk hp hD
    have end1 : ∀ (fu' : Nat) (y' : Int) (M' : am_M), (0 ≤ y' ∧ y' ≤ 12) → M' 73 5 < 0 → am_R (M' 73 5) → R_forest_34 (fu' + 1) y' M' = R_forest_132 M' := by
      intro fu' y' M' hy' h h2
      unfold R_forest_34 R_forest_105
      rw [c_ge_p (by omega) (by omega)]
      by_cases w : 12 ≤ y'
      · rw [if_pos w, good_0 h h2, ob_s, c_eq_p (by decide) (by decide), if_pos (by decide)]
      · rw [if_neg w, good_0 h h2, ob_s, c_eq_p (by decide) (by decide), if_pos (by decide), ob_s, c_eq_p (by decide) (by decide), if_pos (by decide)]
    have bad83 : ∀ (M' : am_M), M' 73 5 < 0 → am_R (M' 73 5) → (M' 73 5 = (foS g n k y p dr).1) → PR F g t u M' → (foS g n k y p dr).1 < 0 → ∃ N, R_forest_83 (R_forest_34 fu) y M' = some (foA (foS g n k y p dr), N) ∧ ((foS g n k y p dr).1 < 0 → PR F g t u N) ∧ (0 ≤ (foS g n k y p dr).1 → PR F (ngS g (foS g n k y p dr).2) (begS t (ngS g (foS g n k y p dr).2) (t 2 0)) u N) := by
      intro M' h5 h5R h5e hR' hneg
      obtain ⟨fu, rfl⟩ : ∃ f', fu = f' + 1 := ⟨fu - 1, by omega⟩
      unfold R_forest_83 R_forest_99
      rw [c_ge_p (by omega) (by omega)]
      by_cases q : 11 ≤ y
      · rw [if_pos q, end1 fu (y + 1) M' (by omega) h5 h5R]
        exact rf_132 hW hR' (fun _ => h5e) hfb.1 (fun h => by omega)
      · rw [if_neg q, fw_p, end1 fu (y + 1) (am_up M' 73 3 (M' 73 3 + 1)) (by omega) (by rw [upx (by decide)]; exact h5) (by rw [upx (by decide)]; exact h5R)]
        exact rf_132 hW (hR'.o (by decide)) (fun _ => by rw [upx (by decide)]; exact h5e) hfb.1 (fun h => by omega)
    rw [R_forest_34, c_ge_p (by omega) (by omega), if_neg (by omega), good_1 e5, ob_s, c_eq_p (by decide) (by decide), if_neg (by decide), a1, ob_s]
    by_cases q1 : (rw1 g n y p dr).1 < 0
    · have ef : foS g n k y p dr = rw1 g n y p dr := by
        cases k with
        | zero => unfold foS; rw [if_pos q1]
        | succ k => unfold foS; rw [if_pos q1]
      have e51 := a3 q1
      rw [good_0 (by omega) (by omega), ob_s, c_eq_p (by decide) (by decide), if_pos (by decide)]
      exact bad83 N1 (by omega) (by omega) (by rw [ef]; exact e51) hR1 (by rw [ef]; exact q1)
    · obtain ⟨c1, c2, c3, c4⟩ := a4 (by omega)
      have h2 := rw1_d (g := g) (n := n) hy hp.1 hD (show 0 ≤ (rw1 g n y p dr).1 by omega)
      have hb := taS_b hW.1 (n := n) (by omega) (rw1 g n y p dr).1
      have eh := R_here_eq hR1.1 (n := n) (p := (rw1 g n y p dr).1) (by omega) (by omega) (by omega) (by omega) c2 e41
      have hev := heV_b hb
      have h47 : heV (taS g n (rw1 g n y p dr).1) = 47 ↔ taS g n (rw1 g n y p dr).1 = 47 := by
        unfold heV
        split <;> omega
      rw [good_1 c1, ob_s, c_eq_p (by decide) (by decide), if_neg (by decide), c_ge_p (by omega) (by omega)]
      cases k with
      | zero =>
        have hend : taS g n (rw1 g n y p dr).1 = -1 ↔ n ≤ (rw1 g n y p dr).1 := by
          unfold taS
          split
          · have := hW.1.2.1 (rw1 g n y p dr).1.toNat (by omega)
            omega
          · omega
        rw [if_pos (by omega)]
        unfold R_forest_83 R_forest_99
        rw [c_ge_p (by omega) (by omega), if_pos (by omega)]
        obtain ⟨fu, rfl⟩ : ∃ f', fu = f' + 1 := ⟨fu - 1, by omega⟩
        unfold R_forest_34 R_forest_105
        rw [c_ge_p (by omega) (by omega), if_pos (by omega), good_1 c1, ob_s, c_eq_p (by decide) (by decide), if_neg (by decide), c2, e41, c_ge_p (by omega) (by omega)]
        unfold foS at hfb ⊢
        rw [if_neg q1] at hfb ⊢
        by_cases q2 : taS g n (rw1 g n y p dr).1 = -1
        · rw [if_pos q2] at hfb ⊢
          rw [if_pos (hend.mp q2)]
          refine rf_132 hW hR1 (fun h => by dsimp only at h; omega) hfb.1 (fun _ => ⟨c1, hfb.2 (by dsimp only; omega), fun j hj => c4 j (by omega)⟩)
        · rw [if_neg q2] at hfb ⊢
          rw [if_neg (fun h => q2 (hend.mpr h)), wr_1 c1, ob_s]
          exact rf_132 hW (hR1.o (by decide)) (fun _ => by rw [upj]; dsimp only; omega) hfb.1 (fun h => by dsimp only at h; omega)
      | succ k =>
        rw [if_neg (by omega), eh, ob_s, c_eq_p (by omega) (by omega)]
        by_cases q2 : taS g n (rw1 g n y p dr).1 = 47
        · have h3 := ta_n (g := g) (n := n) (p := (rw1 g n y p dr).1) (by omega) (by omega)
          have ef : foS g n (k + 1) y p dr = foS g n k (y + 1) ((rw1 g n y p dr).1 + 1) (rw1 g n y p dr).2 := by
            rw [foS, if_neg q1, if_pos q2]
          rw [if_pos (h47.mpr q2)]
          unfold R_forest_83 R_forest_99
          rw [c_ge_p (by omega) (by omega), if_neg (by omega), fw_p, c2]
          have hz := rf_34 hW hn k fu (y + 1) ((rw1 g n y p dr).1 + 1) (rw1 g n y p dr).2 (am_up N1 73 3 ((rw1 g n y p dr).1 + 1)) (by omega) (by omega) (by omega) (by omega) (hR1.o (by decide)) upj (by rw [upx (by decide)]; exact e41) (by rw [upx (by decide)]; exact c1) (by rw [upx (by decide), c3]; omega) (by rw [show 12 * (y + 1) = 12 * y + 12 by omega]; exact h2) (by rw [show 12 * (y + 1) = 12 * y + 12 by omega, upo (by decide)]; exact c4)
          rw [ef]
          exact hz
        · have ef : foS g n (k + 1) y p dr = (-1000 - (rw1 g n y p dr).1, dr) := by
            rw [foS, if_neg q1, if_neg q2]
          rw [if_neg (fun h => q2 (h47.mp h)), c2, wr_1 c1, ob_s]
          have := bad83 (am_up N1 73 5 (-1000 * 1 - (rw1 g n y p dr).1)) (by rw [upj]; omega) (by rw [upj]; omega) (by rw [upj, ef]; dsimp only; omega) (hR1.o (by decide)) (by rw [ef]; dsimp only; omega)
          exact this
theorem P_forest_ok {n : Nat} {x : Int} (hx : am_R x) : OK2 n (P_forest x) (R_forest x) := by
  refine OK2.of (lp := [0, 2, 3, 14, 26, 28, 29, 30, 31, 32, 33]) (lr := [73, 75, 76, 95, 96, 97, 98, 99, 100]) (by decide) (by decide) (fun M r h => (P_forest_c x M r h).mo (by decide)) (fun M r h => (R_forest_c x M r h).mo (by decide)) (fun F g t u hW => ?_)
  have h1 := hW.1.1
  have hl := hW.2.1.1
  have h20 := hW.2.1.2.1 0 (by omega)
  by_cases hc : (1 ≤ x ∧ x ≤ 200) ∧ x ≤ g 0 0
  · have hW' := hW.tk
    have hfb := foS_b (g := tkS g) (n := x) (by omega) 11 0 0 (fun _ => 0) (by omega) (by omega) (by omega) (fun c hc => by omega)
    have hcl : ∀ M, PC F g t u n M → ∃ N, oc (Tape_take x 1 200 M) (fun v1 M2 => c_ne v1 0 (oc (Country_readForest_1 M2) fun v3 M4 => some (v3, M4)) (some (-1, M2))) = some (foA (foS (tkS g) x 11 0 0 (fun _ => 0)), N) ∧ Country_readForest_1 (am_up (am_up M 14 2 x) 14 1 0) = some (foA (foS (tkS g) x 11 0 0 (fun _ => 0)), N) ∧ (0 ≤ (foS (tkS g) x 11 0 0 (fun _ => 0)).1 → ∀ c : Nat, c < 144 → N 2 c = (foS (tkS g) x 11 0 0 (fun _ => 0)).2 c) ∧ ((foS (tkS g) x 11 0 0 (fun _ => 0)).1 < 0 → N 2 = M 2) ∧ (∀ i, i ≠ 3 → i ≠ 2 → N i = (am_up (am_up M 14 2 x) 14 1 0) i) := by
      intro M hC
      have h2 := hC.tk (v := x)
      obtain ⟨N, a1, a2, a3, a4⟩ := cf_33 hW'.1 (n := x) (by omega) 11 999999 0 0 (fun _ => 0) (am_up (am_up M 14 2 x) 14 1 0) (by omega) (by omega) (by decide) (by omega) h2.1 (by rw [upx (by decide), upj]) (fun c hc => by omega) (fun c hc => by omega)
      have a1' : Country_readForest_1 (am_up (am_up M 14 2 x) 14 1 0) = some (foA (foS (tkS g) x 11 0 0 (fun _ => 0)), N) := by
        unfold Country_readForest_1
        rw [show am_big = 999999 + 1 from rfl, Country_readForest_1_4, c_ge_p (by decide) (by decide), if_neg (by decide), c_le_p (by decide) (by decide), if_pos (by decide)]
        exact a1
      refine ⟨N, ?_, a1', a2, fun h => by rw [a3 h, upo (by decide), upo (by decide)], a4⟩
      rw [Tape_take_eq hW.1 hC.1 hx (by decide) (by decide), if_pos (by omega), oc_s, c_ne_p (by decide) (by decide), if_pos (by decide), a1', oc_s]
    have hcb := cjS_b (foS (tkS g) x 11 0 0 (fun _ => 0)).2 144 0 0
    by_cases q : (foS (tkS g) x 11 0 0 (fun _ => 0)).1 < 0
    · have hfa : foA (foS (tkS g) x 11 0 0 (fun _ => 0)) = (foS (tkS g) x 11 0 0 (fun _ => 0)).1 := if_pos q
      refine ⟨foA (foS (tkS g) x 11 0 0 (fun _ => 0)), F, tkS g, t, u, by omega, hW', fun M hC => ?_, fun M hR => ?_⟩
      · obtain ⟨N, _, a1, a2, a3, a4⟩ := hcl M hC
        have h2 := hC.tk (v := x)
        have e2 := a3 q
        refine ⟨N, ?_, ?_⟩
        · unfold P_forest P_forest_53
          rw [Tape_take_eq hW.1 hC.1 hx (by decide) (by decide), if_pos (by omega), oc_s, c_ne_p (by decide) (by decide), if_pos (by decide), a1, oc_s, c_lt_p (by omega) (by omega), if_pos (by omega)]
        · have e2' : N 2 = (am_up (am_up M 14 2 x) 14 1 0) 2 := by rw [e2, upo (by decide), upo (by decide)]
          have ea : ∀ i, i ≠ 3 → N i = (am_up (am_up M 14 2 x) 14 1 0) i := fun i hi => by
            by_cases z : i = 2
            · rw [z]
              exact e2'
            · exact a4 i hi z
          refine ⟨h2.1.wo ea, h2.2.1.cg (fun k a b => ea k (by omega)), fun z => (h2.2.2.1 z).cg (fun k a b => ea k (by omega)), h2.2.2.2.1.cg (fun k a b => ea k (by omega)), h2.2.2.2.2.cg (fun k a b => ea k (by omega)) (by omega)⟩
      · obtain ⟨M1, b1, b2, b3, b4, b5⟩ := hR.bg (x := x)
        have e : M 73 1 = g 0 0 := hR.1.1.1
        obtain ⟨N, c1, c2, c3⟩ := rf_34 hW' (n := x) (by omega) 11 am_big 0 0 (fun _ => 0) (am_up M1 73 12 0) (by omega) (by omega) (by decide) (by omega) (b2.o (by decide)) (by rw [upx (by decide)]; exact b3) (by rw [upx (by decide)]; exact b4) (by rw [upx (by decide)]; exact b5) (by rw [upj]; omega) (fun c hc => by omega) (fun c hc => by omega)
        refine ⟨N, ?_, c2 q⟩
        unfold R_forest
        rw [ck_p hx, R_lies_eq hx (by decide) (by decide), ob_s, if_pos hc.1, c_eq_p (by decide) (by decide), if_neg (by decide), e, c_le_p (by omega) (by omega), if_pos hc.2, b1, ob_s, fw_p]
        exact c1
    · have hd := hfb.2 (by omega)
      have hfa : foA (foS (tkS g) x 11 0 0 (fun _ => 0)) = cjS (foS (tkS g) x 11 0 0 (fun _ => 0)).2 144 0 0 := if_neg q
      have hgW := ng_W (g := tkS g) (dr := (foS (tkS g) x 11 0 0 (fun _ => 0)).2) hW'.1 hd
      refine ⟨foA (foS (tkS g) x 11 0 0 (fun _ => 0)), F, ngS (tkS g) (foS (tkS g) x 11 0 0 (fun _ => 0)).2, begS t (ngS (tkS g) (foS (tkS g) x 11 0 0 (fun _ => 0)).2) (t 2 0), u, by omega, ?_, fun M hC => ?_, fun M hR => ?_⟩
      · refine ⟨hgW, begS_W hgW hW.2.1 (by omega) (by omega), ?_, fun z => by rw [ng_0] at z; simp at z, hW.2.2.2.2⟩
        have e0 : begS t (ngS (tkS g) (foS (tkS g) x 11 0 0 (fun _ => 0)).2) (t 2 0) 0 0 = t 0 0 := by unfold begS; simp (disch := omega) only [c_lt_p, c_eq_p, c_ne_p, c_ge_p, c_gt_p, c_le_p, rd_p, wa_p, wz_p, w8_p, fz_p, fw_p, tw_p, ck_p, ob_s, oc_s, if_pos, if_neg, am_upo, up_s, ne_eq, not_true_eq_false, not_false_eq_true, true_or, or_true, true_and, and_true, false_and, and_false, ck_t, reduceIte, Int.tmod_eq_emod_of_nonneg, Int.tdiv_eq_ediv_of_nonneg]
        rw [e0, ng_o (by decide) (by decide)]
        exact hW'.2.2.1
      · obtain ⟨N, _, a1, a2, a3, a4⟩ := hcl M hC
        have h2 := hC.tk (v := x)
        have e2 := a2 (by omega)
        have hT1 : TP 26 t N := h2.2.1.cg (fun k a b => a4 k (by omega) (by omega))
        have hG1 : GP (fun k j => if k = 2 then (foS (tkS g) x 11 0 0 (fun _ => 0)).2 j else tkS g k j) N := by
          have hG := h2.1
          unfold GP at hG ⊢
          simp only [if_neg (show ¬ ((0 : Nat) = 2) by decide), if_neg (show ¬ ((1 : Nat) = 2) by decide), if_neg (show ¬ ((3 : Nat) = 2) by decide), if_true]
          rw [a4 14 (by decide) (by decide), a4 1 (by decide) (by decide), a4 5 (by decide) (by decide), a4 0 (by decide) (by decide), a4 15 (by decide) (by decide), a4 4 (by decide) (by decide)]
          exact ⟨hG.1, hG.2.1, e2, hG.2.2.2⟩
        have hgW1 : WG (fun k j => if k = 2 then (foS (tkS g) x 11 0 0 (fun _ => 0)).2 j else tkS g k j) := by
          have hw := hW'.1
          unfold WG at hw ⊢
          simp only [if_neg (show ¬ ((0 : Nat) = 2) by decide), if_neg (show ¬ ((1 : Nat) = 2) by decide), if_neg (show ¬ ((3 : Nat) = 2) by decide), if_true]
          exact ⟨hw.1, hw.2.1, fun c hc => hd c (by omega), hw.2.2.2⟩
        have ec : ceS t 0 = t 2 0 := if_pos (by omega)
        obtain ⟨N2, c1, c2, c3⟩ := Trip_beginAt_26_eq (c := t 2 0) hgW1 hW.2.1 hG1 hT1 (by omega) (by omega)
        have eb : begS t (fun k j => if k = 2 then (foS (tkS g) x 11 0 0 (fun _ => 0)).2 j else tkS g k j) (t 2 0) = begS t (ngS (tkS g) (foS (tkS g) x 11 0 0 (fun _ => 0)).2) (t 2 0) := by
          unfold begS
          rw [ng_0]
          rfl
        rw [eb] at c2
        have fo : ∀ i, i ≠ 0 → i ≠ 2 → i ≠ 3 → i ≠ 14 → (i < 26 ∨ 33 < i) → (am_up N2 0 7 0) i = M i := fun i z0 z1 z2 z3 z4 => by
          rw [upo z0, c3 i (by simp; omega), a4 i z2 z1, upo z3, upo z3]
        refine ⟨am_up N2 0 7 0, ?_, ?_, c2.cg (fun k a b => upo (by omega)), fun z => by rw [ng_0] at z; simp at z, h2.2.2.2.1.cg (fun k a b => by rw [fo k (by omega) (by omega) (by omega) (by omega) (by omega), upo (by omega), upo (by omega)]), h2.2.2.2.2.cg (fun k a b => by rw [fo k (by omega) (by omega) (by omega) (by omega) (by omega), upo (by omega), upo (by omega)]) (by omega)⟩
        · unfold P_forest P_forest_53
          rw [Tape_take_eq hW.1 hC.1 hx (by decide) (by decide), if_pos (by omega), oc_s, c_ne_p (by decide) (by decide), if_pos (by decide), a1, oc_s, c_lt_p (by omega) (by omega), if_neg (by omega), Trip_cellAt_26_eq hW.2.1 hT1 (by decide), ob_s, ec, c1, ob_s, fz_p (Or.inl rfl)]
        · have g1 := hG1
          unfold GP at g1 ⊢
          simp only [if_neg (show ¬ ((0 : Nat) = 2) by decide), if_neg (show ¬ ((1 : Nat) = 2) by decide), if_neg (show ¬ ((3 : Nat) = 2) by decide), if_true] at g1
          rw [ng_0, ng_0, ng_0, ng_0, ng_0, ng_2, ng_o (show (1 : Nat) ≠ 2 by decide) (by decide), ng_o (show (3 : Nat) ≠ 2 by decide) (by decide)]
          rw [upo (show (14 : Nat) ≠ 0 by decide), upo (show (1 : Nat) ≠ 0 by decide), upo (show (5 : Nat) ≠ 0 by decide), upj, upo (show (15 : Nat) ≠ 0 by decide), upo (show (2 : Nat) ≠ 0 by decide), upo (show (4 : Nat) ≠ 0 by decide)]
          rw [c3 14 (by decide), c3 1 (by decide), c3 5 (by decide), c3 15 (by decide), c3 2 (by decide), c3 4 (by decide)]
          exact ⟨⟨g1.1.1, g1.1.2.1, g1.1.2.2.1, g1.1.2.2.2.1, rfl⟩, g1.2⟩
      · obtain ⟨M1, b1, b2, b3, b4, b5⟩ := hR.bg (x := x)
        have e : M 73 1 = g 0 0 := hR.1.1.1
        obtain ⟨N, c1, c2, c3⟩ := rf_34 hW' (n := x) (by omega) 11 am_big 0 0 (fun _ => 0) (am_up M1 73 12 0) (by omega) (by omega) (by decide) (by omega) (b2.o (by decide)) (by rw [upx (by decide)]; exact b3) (by rw [upx (by decide)]; exact b4) (by rw [upx (by decide)]; exact b5) (by rw [upj]; omega) (fun c hc => by omega) (fun c hc => by omega)
        refine ⟨N, ?_, c3 (by omega)⟩
        unfold R_forest
        rw [ck_p hx, R_lies_eq hx (by decide) (by decide), ob_s, if_pos hc.1, c_eq_p (by decide) (by decide), if_neg (by decide), e, c_le_p (by omega) (by omega), if_pos hc.2, b1, ob_s, fw_p]
        exact c1
  · refine ⟨-1, F, g, t, u, by decide, hW, fun M hC => ⟨M, ?_, hC.cg (fun _ _ => rfl) (by omega)⟩, fun M hR => ⟨M, ?_, hR⟩⟩
    · unfold P_forest
      rw [Tape_take_eq hW.1 hC.1 hx (by decide) (by decide), if_neg (by omega), oc_s, c_ne_p (by decide) (by decide), if_neg (by decide)]
    · have e : M 73 1 = g 0 0 := hR.1.1.1
      unfold R_forest R_forest_20
      rw [ck_p hx, R_lies_eq hx (by decide) (by decide), ob_s]
      by_cases q1 : 1 ≤ x ∧ x ≤ 200
      · rw [if_pos q1, c_eq_p (by decide) (by decide), if_neg (by decide), e, c_le_p (by omega) (by omega), if_neg (fun h => hc ⟨q1, h⟩)]
      · rw [if_neg q1, c_eq_p (by decide) (by decide), if_pos (by decide)]
