-- orders read: the reference
def BR (M : am_M) : Prop := ∀ i : Nat, i < 260 → -128 ≤ M 74 i ∧ M 74 i ≤ 127
def SR : List SE → am_M → Prop
  | [], _ => True
  | e :: r, M => (M 114 r.length = e.1 ∧ M 115 r.length = e.2.1 ∧ M 116 r.length = e.2.2) ∧ SR r M
theorem SR.cg {M N : am_M} : ∀ {stk : List SE}, SR stk M → (∀ k, k = 114 ∨ k = 115 ∨ k = 116 → ∀ j, j < stk.length → N k j = M k j) → SR stk N
  | [], h, e => trivial
  | x :: r, h, e => by
    have hl : r.length < (x :: r).length := by rw [List.length_cons]; omega
    refine ⟨?_, SR.cg h.2 (fun k hk j hj => e k hk j (by omega))⟩
    rw [e 114 (by omega) _ hl, e 115 (by omega) _ hl, e 116 (by omega) _ hl]
    exact h.1
def b1 (b : Bool) : Int := if b = true then 1 else 0
def RS (M : am_M) (n p : Int) (m : Nat) (ac : Nat → Int) (stk : List SE) (bg : Bool) (bad : Int) : Prop := (M 73 3 = p ∧ M 73 4 = n ∧ M 73 5 = bad ∧ M 73 68 = m ∧ M 73 69 = stk.length ∧ M 73 70 = b1 bg) ∧ (∀ j : Nat, j < m → M 113 j = ac j) ∧ SR stk M
def RGf (M N : am_M) : Prop := (∀ k, k ≠ 73 → (k < 113 ∨ 116 < k) → N k = M k) ∧ ∀ j, j ≠ 3 → j ≠ 5 → (j < 68 ∨ 70 < j) → N 73 j = M 73 j
theorem RGf.rf {M : am_M} : RGf M M := ⟨fun _ _ _ => rfl, fun _ _ _ _ => rfl⟩
theorem RGf.tr {M N O : am_M} (a : RGf M N) (b : RGf N O) : RGf M O := ⟨fun k h1 h2 => (b.1 k h1 h2).trans (a.1 k h1 h2), fun j h1 h2 h3 => (b.2 j h1 h2 h3).trans (a.2 j h1 h2 h3)⟩
theorem RGf.up {M N : am_M} {c j : Nat} {v : Int} (a : RGf M N) (h : (113 ≤ c ∧ c ≤ 116) ∨ (c = 73 ∧ (j = 3 ∨ j = 5 ∨ j = 68 ∨ j = 69 ∨ j = 70))) : RGf M (am_up N c j v) := by
  refine ⟨fun k h1 h2 => ?_, fun i h1 h2 h3 => ?_⟩
  · rw [upo (by omega)]
    exact a.1 k h1 h2
  · by_cases q : 73 = c
    · subst q
      rw [upx (by omega)]
      exact a.2 i h1 h2 h3
    · rw [upo q]
      exact a.2 i h1 h2 h3
theorem RGf.oa {M N : am_M} (h : ∀ k, k ≠ 113 → N k = M k) : RGf M N := ⟨fun k h1 h2 => h k (by omega), fun j _ _ _ => by rw [h 73 (by decide)]⟩
theorem GR.rgf {g M N : am_M} (h : GR g M) (e : RGf M N) : GR g N := by
  unfold GR at h ⊢
  rw [e.2 1 (by decide) (by decide) (by decide), e.2 42 (by decide) (by decide) (by decide), e.2 43 (by decide) (by decide) (by decide), e.2 19 (by decide) (by decide) (by decide), e.2 66 (by decide) (by decide) (by decide), e.1 74 (by decide) (by decide), e.1 75 (by decide) (by decide), e.1 92 (by decide) (by decide), e.1 94 (by decide) (by decide)]
  exact h
theorem PR.rgf {F : FT} {g t u M N : am_M} (h : PR F g t u M) (e : RGf M N) : PR F g t u N := by
  refine ⟨h.1.rgf e, ?_, fun q => (h.2.2.1 q).cg' (fun k a b => e.1 k (by omega) (by omega)), h.2.2.2.cg (fun k a b => e.1 k (by omega) (by omega)) (e.2 19 (by decide) (by decide) (by decide))⟩
  have h2 := h.2.1
  unfold TR at h2 ⊢
  rw [e.2 41 (by decide) (by decide) (by decide), e.2 46 (by decide) (by decide) (by decide), e.2 47 (by decide) (by decide) (by decide), e.2 44 (by decide) (by decide) (by decide), e.2 45 (by decide) (by decide) (by decide), e.2 2 (by decide) (by decide) (by decide), e.1 93 (by decide) (by decide), e.1 95 (by decide) (by decide), e.1 96 (by decide) (by decide), e.1 97 (by decide) (by decide), e.1 98 (by decide) (by decide), e.1 99 (by decide) (by decide), e.1 100 (by decide) (by decide)]
  exact h2
theorem BR.rgf {M N : am_M} (h : BR M) (e : RGf M N) : BR N := fun i hi => by rw [e.1 74 (by decide) (by decide)]; exact h i hi
theorem RisWay_eq {a : Int} {M : am_M} (h : am_R a) : R_isWay a M = some (if a = 110 ∨ a = 101 ∨ a = 115 ∨ a = 119 then 1 else 0) := by
  unfold R_isWay R_isWay_24 R_isWay_29
  rw [c_eq_p h (by decide), c_eq_p h (by decide), c_eq_p h (by decide), c_ne_p h (by decide), ck_p (by decide), ck_p (by decide)]
  by_cases q1 : a = 110
  · rw [if_pos q1, if_pos (by omega)]
  rw [if_neg q1]
  by_cases q2 : a = 101
  · rw [if_pos q2, if_pos (by omega)]
  rw [if_neg q2]
  by_cases q3 : a = 115
  · rw [if_pos q3, if_pos (by omega)]
  rw [if_neg q3]
  by_cases q4 : a = 119
  · rw [if_neg (fun h => h q4), if_pos (by omega)]
  · rw [if_pos q4, if_neg (by omega)]
theorem RisAct_eq {a : Int} {M : am_M} (h : am_R a) : R_isAct a M = some (if acB a then 1 else 0) := by
  unfold R_isAct R_isAct_37 R_isAct_42
  rw [RisWay_eq h, ob_s, ck_p (by decide), ck_p (by decide)]
  rw [c_eq_p h (by decide), c_eq_p h (by decide), c_eq_p h (by decide), c_eq_p h (by decide), c_ne_p h (by decide)]
  by_cases q0 : a = 110 ∨ a = 101 ∨ a = 115 ∨ a = 119
  · rw [if_pos q0, c_ne_p (by decide) (by decide), if_pos (by decide), if_pos (by omega)]
  rw [if_neg q0, c_ne_p (by decide) (by decide), if_neg (by decide)]
  by_cases q1 : a = 46
  · rw [if_pos q1, if_pos (by omega)]
  rw [if_neg q1]
  by_cases q2 : a = 43
  · rw [if_pos q2, if_pos (by omega)]
  rw [if_neg q2]
  by_cases q3 : a = 111
  · rw [if_pos q3, if_pos (by omega)]
  rw [if_neg q3]
  by_cases q4 : a = 98
  · rw [if_pos q4, if_pos (by omega)]
  rw [if_neg q4]
  by_cases q5 : a = 120
  · rw [if_neg (fun h => h q5), if_pos (by omega)]
  · rw [if_pos q5, if_neg (by omega)]
theorem RS.p {M : am_M} {n p q bad : Int} {m : Nat} {ac : Nat → Int} {stk : List SE} {bg : Bool} (h : RS M n p m ac stk bg bad) : RS (am_up M 73 3 q) n q m ac stk bg bad := by
  obtain ⟨⟨h1, h2, h3, h4, h5, h6⟩, h7, h8⟩ := h
  exact ⟨⟨upj, by rw [upx (by decide)]; exact h2, by rw [upx (by decide)]; exact h3, by rw [upx (by decide)]; exact h4, by rw [upx (by decide)]; exact h5, by rw [upx (by decide)]; exact h6⟩, fun j hj => by rw [upo (by decide)]; exact h7 j hj, h8.cg (fun k hk j hj => by rw [upo (by omega)])⟩
theorem times_eq {g M : am_M} {n p : Int} {m : Nat} {ac : Nat → Int} {stk : List SE} {bg : Bool} (hg : WG g) (hG : GR g M) (hB : BR M) (hn : 1 ≤ n ∧ n ≤ 80) (hp : 0 ≤ p ∧ p < n) (h : RS M n p m ac stk bg 0) : ∃ N, R_timesTold M = some ((tmS g n p : Int), N) ∧ RS N n (tpS g n p) m ac stk bg 0 ∧ RGf M N := by
  have hh := R_here_eq hG hp.1 (show n ≤ 260 by omega) (by omega) (by omega) h.1.1 h.1.2.1
  have hb := taS_b hg (n := n) (by omega) p
  have hv := heV_b hb
  unfold R_timesTold
  rw [hh, ob_s, ck_p (by omega), R_lies_eq (by omega) (by decide) (by decide), ob_s]
  have et : taS g n p = g 1 p.toNat := if_pos hp
  have e0 : 0 ≤ taS g n p := by
    rw [et]
    exact (hg.2.1 p.toNat (by omega)).1
  rw [heV_p e0]
  by_cases q : 50 ≤ taS g n p ∧ taS g n p ≤ 57
  · have ht : tpS g n p = p + 1 := by
      unfold tpS
      rw [if_pos q]
    have hm : ((tmS g n p : Nat) : Int) = taS g n p - 48 := by
      unfold tmS
      rw [if_pos q]
      omega
    have e1 := hG.2.1 p.toNat (by omega)
    have e2 := hB p.toNat (by omega)
    rw [b_and255, ← et] at e1
    have e3 : M 74 p.toNat = taS g n p := by omega
    rw [if_pos q, c_ne_p (by decide) (by decide), if_pos (by decide), fw_p, upj, h.1.1, rd_p (by omega), show (p + 1 - 1).toNat = p.toNat by congr 1; omega, upo (by decide), e3, hm, ht]
    exact ⟨_, rfl, h.p, RGf.rf.up (by omega)⟩
  · have ht : tpS g n p = p := by
      unfold tpS
      rw [if_neg q]
    have hm : ((tmS g n p : Nat) : Int) = 1 := by
      unfold tmS
      rw [if_neg q]
      rfl
    rw [if_neg q, c_ne_p (by decide) (by decide), if_neg (by decide), hm, ht]
    exact ⟨M, rfl, h, RGf.rf⟩
theorem rrep_38 {f s ti : Nat} {ac : Nat → Int} (hs : 1 ≤ s) (hb : f + s * ti ≤ 90) : ∀ (k fu i : Nat) (M : am_M), i + k = s * ti → k < fu → s ≤ i → (∀ j, j < f + i → M 113 j = rpS ac f s j) → ∃ N, R_repeats_38 fu (f : Int) (ti : Int) (s : Int) (i : Int) M = some (am_up N 73 68 ((f + s * ti : Nat) : Int)) ∧ (∀ k, k ≠ 113 → N k = M k) ∧ ∀ j, j < f + s * ti → N 113 j = rpS ac f s j
  | 0, fu + 1, i, M, e, hf, hi, hM => by
    have h2 : (s : Int) * (ti : Int) = ((s * ti : Nat) : Int) := by rw [Int.natCast_mul]
    refine ⟨M, ?_, fun _ _ => rfl, fun j hj => hM j (by omega)⟩
    unfold R_repeats_38
    rw [h2, c_ge_p (by omega) (by omega), if_pos (by omega), fw_p, show (f : Int) + ((s * ti : Nat) : Int) = ((f + s * ti : Nat) : Int) by omega]
  | k + 1, fu + 1, i, M, e, hf, hi, hM => by
    have h2 : (s : Int) * (ti : Int) = ((s * ti : Nat) : Int) := by rw [Int.natCast_mul]
    have hml := Nat.mod_lt i (show 0 < s by omega)
    have h3 : Int.tmod (i : Int) (s : Int) = ((i % s : Nat) : Int) := rfl
    have h4 : M 113 (f + i % s) = rpS ac f s (f + i) := by
      rw [hM _ (by omega)]
      unfold rpS
      rw [if_pos (by omega), if_pos (by omega), show f + i % s - f = i % s by omega, show f + i - f = i by omega, Nat.mod_mod]
    obtain ⟨N, a1, a2, a3⟩ := rrep_38 (ac := ac) hs hb k fu (i + 1) (am_up M 113 (f + i) (rpS ac f s (f + i))) (by omega) (by omega) (by omega) (fun j hj => by
      by_cases z : j = f + i
      · rw [z, upj]
      · rw [upx z]
        exact hM j (by omega))
    refine ⟨N, ?_, fun k hk => by rw [a2 k hk, upo hk], a3⟩
    unfold R_repeats_38
    rw [h2, c_ge_p (by omega) (by omega), if_neg (by omega), ck_p (by omega), h3, tw_p, rd_p (by omega), show ((f : Int) + ((i % s : Nat) : Int)).toNat = f + i % s by omega, h4, wa_p (by omega), show ((f : Int) + (i : Int)).toNat = f + i by omega, show (i : Int) + 1 = ((i + 1 : Nat) : Int) by omega, a1]
theorem R_here_cg {M N : am_M} (h1 : N 73 = M 73) (h2 : N 74 = M 74) : R_here N = R_here M := by
  unfold R_here R_here_28 rd
  rw [h1, h2]
theorem rfil_228 {m ti : Nat} {v p : Int} {ac : Nat → Int} (hb : m + ti ≤ 90) : ∀ (k fu i : Nat) (M : am_M), i + k = ti → k < fu → M 73 68 = m → M 73 3 = p → R_here M = some v → (∀ j, j < m + i → M 113 j = flS ac m v j) → ∃ N, R_act_228 fu (ti : Int) (i : Int) M = some (am_up (am_up (am_up N 73 68 ((m + ti : Nat) : Int)) 73 70 1) 73 3 (p + 1)) ∧ (∀ k, k ≠ 113 → N k = M k) ∧ ∀ j, j < m + ti → N 113 j = flS ac m v j
  | 0, fu + 1, i, M, e, hf, h68, h3, hh, hM => by
    refine ⟨M, ?_, fun _ _ => rfl, fun j hj => hM j (by omega)⟩
    unfold R_act_228
    rw [c_ge_p (by omega) (by omega), if_pos (by omega), h68, fw_p, fz_p (Or.inr rfl), fw_p, upx (show (3 : Nat) ≠ 70 by decide), upx (show (3 : Nat) ≠ 68 by decide), h3, show (m : Int) + (ti : Int) = ((m + ti : Nat) : Int) by omega]
  | k + 1, fu + 1, i, M, e, hf, h68, h3, hh, hM => by
    obtain ⟨N, a1, a2, a3⟩ := rfil_228 (v := v) (p := p) (ac := ac) hb k fu (i + 1) (am_up M 113 (m + i) v) (by omega) (by omega) (by rw [upo (by decide)]; exact h68) (by rw [upo (by decide)]; exact h3) (by rw [R_here_cg (M := M) (upo (by decide)) (upo (by decide))]; exact hh) (fun j hj => by
      by_cases z : j = m + i
      · rw [z, upj]
        unfold flS
        rw [if_pos (by omega)]
      · rw [upx z]
        exact hM j (by omega))
    refine ⟨N, ?_, fun k hk => by rw [a2 k hk, upo hk], a3⟩
    unfold R_act_228
    rw [c_ge_p (by omega) (by omega), if_neg (by omega), hh, ob_s, h68, wa_p (by omega), show ((m : Int) + (i : Int)).toNat = m + i by omega, show (i : Int) + 1 = ((i + 1 : Nat) : Int) by omega, a1]
