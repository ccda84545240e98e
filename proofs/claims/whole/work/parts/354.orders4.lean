-- orders read: the reference whole
def QE (g : am_M) (n p : Int) (m : Nat) (ac : Nat → Int) (stk : List SE) (bg : Bool) (N : am_M) : Prop := (N 73 5 < 0 ∧ -7000 ≤ N 73 5 ∧ (fin g n p m ac stk bg).1 = N 73 5) ∨ (∃ (p' : Int) (m' : Nat) (ac' : Nat → Int) (stk' : List SE) (bg' : Bool), RS N n p' m' ac' stk' bg' 0 ∧ p < p' ∧ p' ≤ n ∧ GA m' ac' stk' bg' ∧ stk'.length ≤ 2 ∧ fin g n p m ac stk bg = fin g n p' m' ac' stk' bg')
theorem rwr {M : am_M} {n p f x : Int} {m : Nat} {ac : Nat → Int} {stk : List SE} {bg : Bool} (h : RS M n p m ac stk bg 0) : R_wrongs f x M = some (am_up M 73 5 (-1000 * f - x)) := wr_1 h.1.2.2.1
theorem rbad {M : am_M} {v : Int} (h : v < 0 ∧ -7000 ≤ v) : R_isGood (am_up M 73 5 v) = some 0 := good_0 (by rw [upj]; omega) (by rw [upj]; omega)
theorem ract_80 {g M : am_M} {n p : Int} {m : Nat} {ac : Nat → Int} {stk : List SE} {bg : Bool} (hg : WG g) (hG : GR g M) (hB : BR M) (hn : 1 ≤ n ∧ n ≤ 80) (hp : 0 ≤ p ∧ p < n) (hGA : GA m ac stk bg) (hl : stk.length ≤ 2) (h : RS M n p m ac stk bg 0) (h2 : ¬ (taS g n p = 41 ∧ 0 < stk.length ∧ bg = true)) : ∃ N, R_act_80 p M = some N ∧ RGf M N ∧ QE g n p m ac stk bg N := by
  obtain ⟨M1, t1, hR, f1⟩ := times_eq hg hG hB hn hp h
  have hb := tpS_b (g := g) (n := n) (p := p) (by omega)
  have htm := tmS_b g n p
  have htb := taS_b hg (n := n) (by omega) (tpS g n p)
  have hfe := fin_e (g := g) (n := n) (p := p) (m := m) (ac := ac) (stk := stk) (bg := bg) (by omega) (by omega)
  unfold fnB at hfe
  rw [if_neg (by omega), if_neg h2] at hfe
  have hh := R_here_eq (hG.rgf f1) (p := tpS g n p) (by omega) (show n ≤ 260 by omega) (by omega) (by omega) hR.1.1 hR.1.2.1
  have hhb := heV_b htb
  have hhe : ∀ c : Int, 0 < c → (heV (taS g n (tpS g n p)) = c ↔ taS g n (tpS g n p) = c) := fun c hc => by
    unfold heV
    split <;> omega
  unfold R_act_80
  rw [t1, oc_s, hh, ob_s, c_ne_p (by omega) (by decide), ob_s, RisAct_eq (by omega), ob_s]
  by_cases q1 : taS g n (tpS g n p) = 40
  · have hn1 := ta_n (g := g) (n := n) (p := tpS g n p) (by omega) (by omega)
    rw [if_pos q1] at hfe
    rw [if_neg (fun z => z ((hhe 40 (by decide)).mpr q1)), hR.1.2.2.2.2.1, c_ne_p (by omega) (by decide)]
    by_cases q2 : stk.length = 2
    · rw [if_pos q2] at hfe
      rw [if_neg (by omega), hR.1.1, rwr hR, ob_s]
      unfold R_act_111
      rw [rbad (by omega), ob_s, c_ne_p (by decide) (by decide), if_neg (by decide)]
      refine ⟨_, rfl, f1.tr (RGf.rf.up (by omega)), Or.inl ?_⟩
      rw [upj, hfe]
      dsimp only
      omega
    · rw [if_neg q2] at hfe
      rw [if_pos (by omega)]
      unfold R_act_111
      rw [good_1 hR.1.2.2.1, ob_s, c_ne_p (by decide) (by decide), if_pos (by decide), hR.1.2.2.2.1, hR.1.2.2.2.2.1, wa_p (by omega), upo (show (73 : Nat) ≠ 114 by decide), hR.1.2.2.2.2.1, wa_p (by omega), upo (show (73 : Nat) ≠ 115 by decide), upo (show (73 : Nat) ≠ 114 by decide), hR.1.2.2.2.2.1, wa_p (by omega), upo (show (73 : Nat) ≠ 116 by decide), upo (show (73 : Nat) ≠ 115 by decide), upo (show (73 : Nat) ≠ 114 by decide), hR.1.2.2.2.2.1, fw_p, fz_p (Or.inl rfl), fw_p, upx (show (3 : Nat) ≠ 70 by decide), upx (show (3 : Nat) ≠ 69 by decide), upo (show (73 : Nat) ≠ 116 by decide), upo (show (73 : Nat) ≠ 115 by decide), upo (show (73 : Nat) ≠ 114 by decide), hR.1.1, show ((stk.length : Int)).toNat = stk.length by omega]
      refine ⟨_, rfl, f1.tr ((((((RGf.rf.up (by omega)).up (by omega)).up (by omega)).up (by omega)).up (by omega)).up (by omega)), Or.inr ⟨tpS g n p + 1, m, ac, (m, tmS g n p, p) :: stk, false, ⟨⟨?_, ?_, ?_, ?_, ?_, ?_⟩, fun j hj => ?_, ⟨?_, ?_, ?_⟩, ?_⟩, by omega, by omega, hGA.pu htm (by omega), by rw [List.length_cons]; omega, hfe⟩⟩
      · rw [upj]
      · rw [upx (by decide), upx (by decide), upx (by decide), upo (by decide), upo (by decide), upo (by decide)]
        exact hR.1.2.1
      · rw [upx (by decide), upx (by decide), upx (by decide), upo (by decide), upo (by decide), upo (by decide)]
        exact hR.1.2.2.1
      · rw [upx (by decide), upx (by decide), upx (by decide), upo (by decide), upo (by decide), upo (by decide)]
        exact hR.1.2.2.2.1
      · rw [upx (by decide), upx (by decide), upj, List.length_cons]
        omega
      · rw [upx (by decide), upj]
        rfl
      · rw [upo (by decide), upo (by decide), upo (by decide), upo (by decide), upo (by decide), upo (by decide)]
        exact hR.2.1 j hj
      · rw [upo (by decide), upo (by decide), upo (by decide), upo (by decide), upo (by decide), upj]
      · rw [upo (by decide), upo (by decide), upo (by decide), upo (by decide), upj]
      · rw [upo (by decide), upo (by decide), upo (by decide), upj]
      · refine hR.2.2.cg (fun k hk j hj => ?_)
        rw [upo (by omega), upo (by omega), upo (by omega)]
        rcases hk with z | z | z <;> subst z
        · rw [upo (by decide), upo (by decide), upx (by omega)]
        · rw [upo (by decide), upx (by omega), upo (by decide)]
        · rw [upx (by omega), upo (by decide), upo (by decide)]
  · rw [if_neg q1] at hfe
    rw [if_pos (fun z => q1 ((hhe 40 (by decide)).mp z))]
    have hac : acB (heV (taS g n (tpS g n p))) ↔ acB (taS g n (tpS g n p)) := by
      unfold heV
      split <;> omega
    by_cases q2 : acB (taS g n (tpS g n p))
    · have hn1 := ta_n (g := g) (n := n) (p := tpS g n p) (by omega) (by have := ac_R q2; omega)
      have hm := hGA.1
      rw [if_pos q2] at hfe
      rw [if_pos (hac.mpr q2), c_ne_p (by decide) (by decide), if_pos (by decide), hR.1.2.2.2.1, c_le_p (by omega) (by decide)]
      by_cases q3 : 90 < m + tmS g n p
      · rw [if_pos q3] at hfe
        rw [if_neg (by omega), rwr hR, ob_s]
        unfold R_act_218
        rw [rbad (by omega), ob_s, c_ne_p (by decide) (by decide), if_neg (by decide)]
        refine ⟨_, rfl, f1.tr (RGf.rf.up (by omega)), Or.inl ?_⟩
        rw [upj, hfe]
        dsimp only
        omega
      · rw [if_neg q3] at hfe
        rw [if_pos (by omega)]
        unfold R_act_218
        rw [good_1 hR.1.2.2.1, ob_s, c_ne_p (by decide) (by decide), if_pos (by decide)]
        rw [heV_p (by have := ac_R q2; omega)] at hh
        obtain ⟨N, a1, a2, a3⟩ := rfil_228 (m := m) (ti := tmS g n p) (ac := ac) (by omega) (tmS g n p) am_big 0 M1 (by omega) (by show _ < 1000000; omega) hR.1.2.2.2.1 hR.1.1 hh (fun j hj => by
          unfold flS
          rw [if_neg (by omega)]
          exact hR.2.1 j (by omega))
        have e73 := a2 73 (by decide)
        rw [show ((0 : Nat) : Int) = 0 from rfl] at a1
        rw [a1]
        refine ⟨_, rfl, f1.tr ((((RGf.oa a2).up (by omega)).up (by omega)).up (by omega)), Or.inr ⟨tpS g n p + 1, m + tmS g n p, flS ac m (taS g n (tpS g n p)), stk, true, ⟨⟨upj, ?_, ?_, ?_, ?_, ?_⟩, fun j hj => ?_, ?_⟩, by omega, by omega, hGA.fi htm.1 (by omega) q2, hl, hfe⟩⟩
        · rw [upx (by decide), upx (by decide), upx (by decide), e73]
          exact hR.1.2.1
        · rw [upx (by decide), upx (by decide), upx (by decide), e73]
          exact hR.1.2.2.1
        · rw [upx (by decide), upx (by decide), upj]
        · rw [upx (by decide), upx (by decide), upx (by decide), e73]
          exact hR.1.2.2.2.2.1
        · rw [upx (by decide), upj]
          rfl
        · rw [upo (by decide), upo (by decide), upo (by decide)]
          exact a3 j hj
        · exact hR.2.2.cg (fun k hk j hj => by rw [upo (by omega), upo (by omega), upo (by omega), a2 k (by omega)])
    · rw [if_neg q2] at hfe
      rw [if_neg (fun z => q2 (hac.mp z)), c_ne_p (by decide) (by decide), if_neg (by decide), hR.1.1, rwr hR, ob_s]
      unfold R_act_218
      rw [rbad (by omega), ob_s, c_ne_p (by decide) (by decide), if_neg (by decide)]
      refine ⟨_, rfl, f1.tr (RGf.rf.up (by omega)), Or.inl ?_⟩
      rw [upj, hfe]
      dsimp only
      omega
theorem ract_eq {g M : am_M} {n p : Int} {m : Nat} {ac : Nat → Int} {stk : List SE} {bg : Bool} (hg : WG g) (hG : GR g M) (hB : BR M) (hn : 1 ≤ n ∧ n ≤ 80) (hp : 0 ≤ p ∧ p < n) (hGA : GA m ac stk bg) (hl : stk.length ≤ 2) (h : RS M n p m ac stk bg 0) : ∃ N, R_act M = some N ∧ RGf M N ∧ QE g n p m ac stk bg N := by
  have hh := R_here_eq hG (p := p) (by omega) (show n ≤ 260 by omega) (by omega) (by omega) h.1.1 h.1.2.1
  have htb := taS_b hg (n := n) (by omega) p
  have e0 : heV (taS g n p) = taS g n p := heV_p (by rw [show taS g n p = g 1 p.toNat from if_pos hp]; exact (hg.2.1 p.toNat (by omega)).1)
  have h80 := fun z => ract_80 hg hG hB hn hp hGA hl h z
  unfold R_act
  rw [hh, e0, ob_s, c_ne_p (by omega) (by decide), h.1.1, h.1.2.2.2.2.1, c_le_p (by omega) (by decide), h.1.2.2.2.2.2, c_eq_p (by unfold b1; split <;> decide) (by decide)]
  by_cases q1 : taS g n p = 41
  · rw [if_neg (fun z => z q1)]
    by_cases q2 : stk.length = 0
    · rw [if_pos (by omega)]
      exact h80 (fun z => by omega)
    rw [if_neg (by omega)]
    cases bg with
    | false =>
      rw [if_pos (show b1 false = 0 from rfl)]
      exact h80 (fun z => by cases z.2.2)
    | true =>
      rw [if_neg (by decide)]
      cases stk with
      | nil => exact absurd rfl q2
      | cons e r =>
        have hfe := fin_e (g := g) (n := n) (p := p) (m := m) (ac := ac) (stk := e :: r) (bg := true) (by omega) (by omega)
        unfold fnB at hfe
        rw [if_neg (by omega), if_pos ⟨q1, by omega, rfl⟩] at hfe
        dsimp only at hfe
        rw [List.length_cons] at hl
        have he := hGA.2.2 e List.mem_cons_self
        have hfm : e.1 < m := he.2.1 rfl
        have hm := hGA.1
        obtain ⟨⟨s1, s2, s3⟩, s4⟩ := h.2.2
        have hmul : (((m : Int)) - (e.1 : Int)) * (e.2.1 : Int) = (((m - e.1) * e.2.1 : Nat) : Int) := by
          rw [Int.natCast_mul]
          congr 1
          omega
        have hmb : (m - e.1) * e.2.1 ≤ 90 * 9 := Nat.mul_le_mul (by omega) he.2.2.1.2
        rw [fw_p, fw_p, upx (show (3 : Nat) ≠ 69 by decide), h.1.1, List.length_cons, show ((r.length + 1 : Nat) : Int) - 1 = (r.length : Int) by omega, upx (show (69 : Nat) ≠ 3 by decide), upj, rd_p (by omega), rd_p (by omega), rd_p (by omega), upo (show (114 : Nat) ≠ 73 by decide), upo (show (114 : Nat) ≠ 73 by decide), upo (show (115 : Nat) ≠ 73 by decide), upo (show (115 : Nat) ≠ 73 by decide), upo (show (116 : Nat) ≠ 73 by decide), upo (show (116 : Nat) ≠ 73 by decide), show ((r.length : Int)).toNat = r.length by omega, s1, s2, s3]
        have f1 : RGf M (am_up (am_up M 73 69 (r.length : Int)) 73 3 (p + 1)) := (RGf.rf.up (by omega)).up (by omega)
        have hR : RS (am_up (am_up M 73 69 (r.length : Int)) 73 3 (p + 1)) n (p + 1) m ac r true 0 := by
          refine ⟨⟨upj, ?_, ?_, ?_, ?_, ?_⟩, fun j hj => ?_, s4.cg (fun k hk j hj => by rw [upo (by omega), upo (by omega)])⟩
          · rw [upx (by decide), upx (by decide)]
            exact h.1.2.1
          · rw [upx (by decide), upx (by decide)]
            exact h.1.2.2.1
          · rw [upx (by decide), upx (by decide)]
            exact h.1.2.2.2.1
          · rw [upx (by decide), upj]
          · rw [upx (by decide), upx (by decide)]
            exact h.1.2.2.2.2.2
          · rw [upo (by decide), upo (by decide)]
            exact h.2.1 j hj
        generalize (am_up (am_up M 73 69 (r.length : Int)) 73 3 (p + 1)) = M3 at f1 hR
        unfold R_repeats R_repeats_26
        rw [hR.1.2.2.2.1, hmul, c_le_p (by omega) (by decide)]
        by_cases q3 : 90 < e.1 + (m - e.1) * e.2.1
        · rw [if_pos q3] at hfe
          rw [if_neg (by omega), rwr hR, ob_s, rbad (by omega), ob_s, c_ne_p (by decide) (by decide), if_neg (by decide), ob_s]
          refine ⟨_, rfl, f1.tr (RGf.rf.up (by omega)), Or.inl ?_⟩
          rw [upj, hfe]
          dsimp only
          omega
        · rw [if_neg q3] at hfe
          obtain ⟨w1, w2, w3⟩ := hGA.po (show e.1 + (m - e.1) * e.2.1 ≤ 90 by omega)
          rw [if_pos (by omega), good_1 hR.1.2.2.1, ob_s, c_ne_p (by decide) (by decide), if_pos (by decide), show (m : Int) - (e.1 : Int) = ((m - e.1 : Nat) : Int) by omega]
          obtain ⟨N, a1, a2, a3⟩ := rrep_38 (f := e.1) (s := m - e.1) (ti := e.2.1) (ac := ac) (by omega) (by omega) ((m - e.1) * e.2.1 - (m - e.1)) am_big (m - e.1) M3 (by omega) (by show _ < 1000000; omega) (Nat.le_refl _) (fun j hj => by
            rw [hR.2.1 j (by omega)]
            unfold rpS
            split
            · rw [Nat.mod_eq_of_lt (by omega)]
              congr 1
              omega
            · rfl)
          have e73 := a2 73 (by decide)
          rw [a1, ob_s]
          refine ⟨_, rfl, f1.tr ((RGf.oa a2).up (by omega)), Or.inr ⟨p + 1, _, rpS ac e.1 (m - e.1), r, true, ⟨⟨?_, ?_, ?_, upj, ?_, ?_⟩, fun j hj => ?_, ?_⟩, by omega, by omega, w3, by omega, hfe⟩⟩
          · rw [upx (by decide), e73]
            exact hR.1.1
          · rw [upx (by decide), e73]
            exact hR.1.2.1
          · rw [upx (by decide), e73]
            exact hR.1.2.2.1
          · rw [upx (by decide), e73]
            exact hR.1.2.2.2.2.1
          · rw [upx (by decide), e73]
            exact hR.1.2.2.2.2.2
          · rw [upo (by decide)]
            exact a3 j hj
          · exact hR.2.2.cg (fun k hk j hj => by rw [upo (by omega), a2 k (by omega)])
  · rw [if_pos q1]
    exact h80 (fun z => q1 z.1)
theorem take_68 {M : am_M} (h : am_R (M 73 5)) : R_takesActs_68 M = some (if M 73 5 = 0 then 1 else 0, M) := by
  unfold R_takesActs_68
  rw [R_isGood_eq h, ob_s, ck_p (by split <;> omega)]
theorem take_20 {g : am_M} {n : Int} (hg : WG g) (hn : 1 ≤ n ∧ n ≤ 80) : ∀ (k fu : Nat) (p : Int) (m : Nat) (ac : Nat → Int) (stk : List SE) (bg : Bool) (M : am_M), n - p ≤ k → k + 1 < fu → 0 ≤ p ∧ p ≤ n → GA m ac stk bg → stk.length ≤ 2 → GR g M → BR M → RS M n p m ac stk bg 0 → ∃ N, R_takesActs_20 fu M = some (if (fin g n p m ac stk bg).1 = 0 then 1 else 0, N) ∧ RGf M N ∧ N 73 5 = (fin g n p m ac stk bg).1 ∧ (-7000 ≤ N 73 5 ∧ N 73 5 ≤ 0) ∧ (N 73 5 = 0 → N 73 68 = (fin g n p m ac stk bg).2.1 ∧ ∀ j : Nat, j < (fin g n p m ac stk bg).2.1 → N 113 j = (fin g n p m ac stk bg).2.2 j)
  | k, 0, p, m, ac, stk, bg, M, e, hf, hp, hGA, hl, hG, hB, h => by omega
  | k, fu + 1, p, m, ac, stk, bg, M, e, hf, hp, hGA, hl, hG, hB, h => by
    unfold R_takesActs_20
    rw [good_1 h.1.2.2.1, ob_s, c_eq_p (by decide) (by decide), if_neg (by decide), h.1.1, h.1.2.1, c_ge_p (by omega) (by omega)]
    by_cases q : n ≤ p
    · have hfe := fin_e (g := g) (n := n) (p := p) (m := m) (ac := ac) (stk := stk) (bg := bg) (by omega) (by omega)
      unfold fnB at hfe
      rw [if_pos q] at hfe
      rw [if_pos q, hfe]
      unfold R_takesActs_45
      rw [good_1 h.1.2.2.1, ob_s, c_eq_p (by decide) (by decide), if_neg (by decide), h.1.2.2.2.2.1, c_le_p (by omega) (by decide)]
      dsimp only
      by_cases q2 : stk.length = 0
      · rw [if_pos (by omega), take_68 (by rw [h.1.2.2.1]; decide), h.1.2.2.1, if_pos q2]
        exact ⟨M, rfl, RGf.rf, h.1.2.2.1, by rw [h.1.2.2.1]; decide, fun _ => ⟨h.1.2.2.2.1, h.2.1⟩⟩
      · rw [if_neg (by omega), rwr h, ob_s, take_68 (by rw [upj]; rw [h.1.1]; omega), upj, h.1.1, if_neg q2, show (-1000 : Int) * 1 - p = -1000 - p by omega]
        exact ⟨_, rfl, RGf.rf.up (by omega), upj, by rw [upj]; omega, fun z => by rw [upj] at z; omega⟩
    · rw [if_neg q]
      obtain ⟨N, a1, a2, a3⟩ := ract_eq hg hG hB hn (by omega) hGA hl h
      rw [a1, ob_s]
      rcases a3 with ⟨z1, z2, z3⟩ | ⟨p', m', ac', stk', bg', z1, z2, z3, z4, z5, z6⟩
      · obtain ⟨fu', rfl⟩ : ∃ fu', fu = fu' + 1 := ⟨fu - 1, by omega⟩
        unfold R_takesActs_20 R_takesActs_45
        rw [good_0 z1 (by omega), ob_s, c_eq_p (by decide) (by decide), if_pos (by decide), ob_s, c_eq_p (by decide) (by decide), if_pos (by decide), take_68 (by omega), z3]
        exact ⟨N, rfl, a2, rfl, by omega, fun w => by omega⟩
      · obtain ⟨N2, b1, b2, b3, b4, b5⟩ := take_20 hg hn (k - 1) fu p' m' ac' stk' bg' N (by omega) (by omega) (by omega) z4 z5 (hG.rgf a2) (hB.rgf a2) z1
        rw [z6]
        exact ⟨N2, b1, a2.tr b2, b3, b4, b5⟩
