-- camp: the reference
def RM (g : am_M) (s : Nat) (v : Nat → Int) (n k mo : Int) (c0 : Nat) : Prop := (v s = 0 ∧ (mo = 0 ∨ (mo = 1 ∧ c0 < cn (rcB v) 144)) ∧ c0 ≤ cn (rcB v) 144) ∧ (∀ y : Nat, y < 144 → (0 ≤ v y ∧ v y ≤ n) ∨ (v y = n + 1 ∧ mo = 1) ∨ v y = 1000000000) ∧ (∀ x y, Ec g x y → v x < n → v y ≤ v x + 1) ∧ (∀ x : Nat, (x : Int) < k → v x = n → ∀ y, Ec g x y → v y ≤ n + 1) ∧ (∀ y : Nat, y < 144 → y ≠ s → v y < 1000000000 → ∃ x, Ec g x y ∧ v x < v y ∧ v y = v x + 1)
theorem rm_st {g : am_M} {s : Nat} {v : Nat → Int} {n mo : Int} {c0 k y : Nat} (h : RM g s v n k mo c0) (hn : 0 ≤ n ∧ n ≤ 300) (hk : v k = n) (hE : Ec g k y) (hy : v y = 1000000000) : RM g s (upf v y (n + 1)) n k 1 c0 := by
  obtain ⟨⟨a1, a2, a3⟩, b, c, d, e⟩ := h
  have hy' := (Ec_b g k y hE).2
  have hsy : s ≠ y := by
    intro z
    rw [z] at a1
    omega
  have hky : k ≠ y := by
    intro z
    rw [z] at hk
    omega
  have hcn := cn_up (p := rcB v) (q := rcB (upf v y (n + 1))) 144 y hy' (by unfold rcB; simp [hy]) (by unfold rcB; rw [upf_e]; simp; omega) (fun j hj => by unfold rcB; rw [upf_n hj])
  refine ⟨⟨by rw [upf_n hsy]; exact a1, Or.inr ⟨rfl, by omega⟩, by omega⟩, fun z hz => ?_, fun x z hxz hx => ?_, fun x hxk hx z hxz => ?_, fun z hz hzs hf => ?_⟩
  · by_cases q : z = y
    · rw [q, upf_e]
      exact Or.inr (Or.inl ⟨rfl, rfl⟩)
    · rw [upf_n q]
      rcases b z hz with w | w | w
      · exact Or.inl w
      · exact Or.inr (Or.inl ⟨w.1, rfl⟩)
      · exact Or.inr (Or.inr w)
  · by_cases q : x = y
    · rw [q, upf_e] at hx
      omega
    · rw [upf_n q] at hx ⊢
      have := c x z hxz hx
      by_cases q2 : z = y
      · rw [q2] at this
        omega
      · rw [upf_n q2]
        exact this
  · by_cases q : x = y
    · rw [q, upf_e] at hx
      omega
    · rw [upf_n q] at hx
      by_cases q2 : z = y
      · rw [q2, upf_e]
        omega
      · rw [upf_n q2]
        exact d x hxk hx z hxz
  · by_cases q : z = y
    · subst q
      exact ⟨k, hE, by rw [upf_n hky, upf_e]; omega, by rw [upf_n hky, upf_e]; omega⟩
    · rw [upf_n q] at hf ⊢
      obtain ⟨x, x1, x2, x3⟩ := e z hz hzs hf
      have hxy : x ≠ y := by
        intro w
        rw [w, hy] at x2
        omega
      exact ⟨x, x1, by rw [upf_n hxy]; exact x2, by rw [upf_n hxy]; exact x3⟩
theorem rm_nx {g : am_M} {s : Nat} {v : Nat → Int} {n mo k : Int} {c0 : Nat} (h0 : 0 ≤ k) (h : RM g s v n k mo c0) (hd : v k.toNat = n → ∀ y, Ec g k.toNat y → v y ≤ n + 1) : RM g s v n (k + 1) mo c0 := by
  obtain ⟨a, b, c, d, e⟩ := h
  refine ⟨a, b, c, fun x hxk hx y hy => ?_, e⟩
  by_cases q : (x : Int) < k
  · exact d x q hx y hy
  · have : x = k.toNat := by omega
    subst this
    exact hd hx y hy
theorem GR.fa {g M N : am_M} (h : GR g M) (e : ∀ k, k < 113 → N k = M k) : GR g N := by
  unfold GR at h ⊢
  rw [e 73 (by decide), e 74 (by decide), e 75 (by decide), e 92 (by decide), e 94 (by decide)]
  exact h
theorem ls_57 {g : am_M} {s : Nat} {k37 : Int → Int → am_M → Option am_M} {k46 : Int → Int → Int → am_M → Option am_M} {n : Int} {c0 : Nat} (hg : WG g) (hn : 0 ≤ n ∧ n ≤ 300) {c : Int} (hc : 0 ≤ c ∧ c < 144) : ∀ (k m : Nat) (w mo : Int) (M : am_M), w + k = 4 → 0 ≤ w → k < m → GR g M → RM g s (M 119) n c mo c0 → (M 119 c.toNat = n → pw g (M 119) c w (n + 1)) → ∃ N mo', R_laysSteps_57 k37 k46 m mo n c w M = k46 mo' n (c + 1) N ∧ RM g s (N 119) n (c + 1) mo' c0 ∧ (∀ k, k ≠ 119 → N k = M k)
  | 0, m + 1, w, mo, M, e, h0, hm, hG, hB, hp => by
    refine ⟨M, mo, ?_, rm_nx hc.1 hB (fun h => pw_4 hc.1 (by rw [show (4 : Int) = w by omega]; exact hp h)), fun _ _ => rfl⟩
    unfold R_laysSteps_57 R_laysSteps_134
    rw [c_ge_p (by omega) (by omega), if_pos (by omega)]
  | k + 1, m + 1, w, mo, M, e, h0, hm, hG, hB, hp => by
    have hb := nbS_b (c := c) (w := w) hc.1 hc.2
    have bv : ∀ y : Nat, y < 144 → 0 ≤ M 119 y ∧ M 119 y ≤ 1000000000 := fun y hy => by
      rcases hB.2.1 y hy with z | z | z <;> omega
    have b1 := bv c.toNat (by omega)
    unfold R_laysSteps_57 R_laysSteps_134 R_laysSteps_128
    rw [c_ge_p (by omega) (by omega), if_neg (by omega), rd_p (by omega), c_ne_p (by omega) (by omega)]
    by_cases c0' : M 119 c.toNat = n
    · rw [if_neg (fun h => h c0'), R_beside_eq hc.1 hc.2 (by omega), ob_s, c_eq_p (by omega) (by omega)]
      have hp' := hp c0'
      have go : (0 ≤ nbS c w → g 2 (nbS c w).toNat ≠ 3 → M 119 (nbS c w).toNat ≤ n + 1) → ∃ N mo', R_laysSteps_57 k37 k46 m mo n c (w + 1) M = k46 mo' n (c + 1) N ∧ RM g s (N 119) n (c + 1) mo' c0 ∧ (∀ k, k ≠ 119 → N k = M k) := fun h => ls_57 hg hn hc k m (w + 1) mo M (by omega) (by omega) (by omega) hG hB (fun _ w' a1 a2 a3 a4 => by
        by_cases q : w' = w
        · subst q
          exact h a3 a4
        · exact hp' w' a1 (by omega) a3 a4)
      by_cases c1 : nbS c w = -1
      · rw [if_pos c1]
        exact go (fun h => by omega)
      · have e2 := hG.2.2.1 (nbS c w).toNat (by omega)
        have k2 := hg.2.2.1 (nbS c w).toNat (by omega)
        rw [if_neg c1, rd_p (by omega), e2, c_eq_p (by omega) (by omega)]
        by_cases c2 : g 2 (nbS c w).toNat = 3
        · rw [if_pos c2]
          exact go (fun _ h => absurd c2 h)
        · have b2 := bv (nbS c w).toNat (by omega)
          rw [if_neg c2, rd_p (by omega), c_gt_p (by omega) (by omega)]
          by_cases c3 : n + 1 < M 119 (nbS c w).toNat
          · rw [if_pos c3, wa_p (by omega)]
            have he : Ec g c.toNat (nbS c w).toNat := by
              have e3 : ((c.toNat : Nat) : Int) = c := by omega
              have := aj_of (x := c.toNat) (w := w) (by omega) (by omega) (by rw [e3]; omega)
              rw [e3] at this
              exact ⟨this, c2⟩
            have c4 : M 119 (nbS c w).toNat = 1000000000 := by
              rcases hB.2.1 (nbS c w).toNat (by omega) with z | z | z <;> omega
            have e3 : ((c.toNat : Nat) : Int) = c := by omega
            have hB2 := rm_st (k := c.toNat) (by rw [e3]; exact hB) hn c0' he c4
            rw [e3] at hB2
            obtain ⟨Z, hZ⟩ : ∃ Z, Z = am_up M 119 (nbS c w).toNat (n + 1) := ⟨_, rfl⟩
            have z119 : Z 119 = upf (M 119) (nbS c w).toNat (n + 1) := by rw [hZ, up_f]
            have zo : ∀ k, k ≠ 119 → Z k = M k := fun k h => by rw [hZ, upo h]
            rw [← hZ]
            obtain ⟨N, mo', a1, a2, a3⟩ := ls_57 (k37 := k37) (k46 := k46) hg hn hc k m (w + 1) 1 Z (by omega) (by omega) (by omega) (hG.fa (fun k h => zo k (by omega))) (by rw [z119]; exact hB2) (fun _ w' a1 a2 a3 a4 => by
              rw [z119]
              by_cases q : (nbS c w').toNat = (nbS c w).toNat
              · rw [q, upf_e]
                omega
              · rw [upf_n q]
                exact hp' w' a1 (by
                  rcases Int.lt_trichotomy w' w with z | z | z
                  · exact z
                  · exact absurd (by rw [z]) q
                  · omega) a3 a4)
            exact ⟨N, mo', a1, a2, fun k h => by rw [a3 k h, zo k h]⟩
          · rw [if_neg c3]
            exact go (fun _ _ => by omega)
    · rw [if_pos c0']
      exact ⟨M, mo, rfl, rm_nx hc.1 hB (fun h => absurd h c0'), fun _ _ => rfl⟩
theorem ls_46 {g : am_M} {s : Nat} {k37 : Int → Int → am_M → Option am_M} {n : Int} {c0 : Nat} (hg : WG g) (hn : 0 ≤ n ∧ n ≤ 300) : ∀ (k m : Nat) (c mo : Int) (M : am_M), c + k = 144 → 0 ≤ c → k < m → GR g M → RM g s (M 119) n c mo c0 → ∃ N mo', R_laysSteps_46 k37 m mo n c M = k37 mo' (n + 1) N ∧ RM g s (N 119) n 144 mo' c0 ∧ (∀ k, k ≠ 119 → N k = M k)
  | 0, m + 1, c, mo, M, e, h0, hm, hG, hB => by
    refine ⟨M, mo, ?_, by rw [show (144 : Int) = c by omega]; exact hB, fun _ _ => rfl⟩
    unfold R_laysSteps_46
    rw [c_ge_p (by omega) (by omega), if_pos (by omega)]
  | k + 1, m + 1, c, mo, M, e, h0, hm, hG, hB => by
    obtain ⟨N1, mo1, a1, a2, a3⟩ := ls_57 (k37 := k37) (k46 := R_laysSteps_46 k37 m) hg hn (c := c) (by omega) 4 am_big 0 mo M (by omega) (by omega) (by decide) hG hB (fun _ w a b => by omega)
    obtain ⟨N2, mo2, b1, b2, b3⟩ := ls_46 (k37 := k37) hg hn k m (c + 1) mo1 N1 (by omega) (by omega) (by omega) (hG.fa (fun k h => a3 k (by omega))) a2
    refine ⟨N2, mo2, ?_, b2, fun k h => by rw [b3 k h, a3 k h]⟩
    unfold R_laysSteps_46
    rw [c_ge_p (by omega) (by omega), if_neg (by omega), a1, b1]
theorem ls_37 {g : am_M} {s : Nat} (hg : WG g) : ∀ (d m : Nat) (n : Int) (M : am_M), 144 ≤ cn (rcB (M 119)) 144 + d → d + 1 < m → 0 ≤ n ∧ n + d ≤ 300 → GR g M → RM g s (M 119) n 0 0 (cn (rcB (M 119)) 144) → ∃ N, R_laysSteps_37 m 1 n M = some N ∧ DI (Ec g) (fun _ => 1) s (N 119) ∧ (∀ k, k ≠ 119 → N k = M k) := by
  intro d
  induction d using Nat.strongRecOn with
  | _ d ih =>
    intro m n M hd hm hn hG hB
    obtain ⟨m, rfl⟩ : ∃ m', m = m' + 1 := ⟨m - 1, by omega⟩
    obtain ⟨N1, mo, a1, a2, a3⟩ := ls_46 (k37 := R_laysSteps_37 m) (n := n) hg (by omega) 144 am_big 0 0 M (by omega) (by omega) (by decide) hG hB
    have hr : R_laysSteps_37 (m + 1) 1 n M = R_laysSteps_37 m mo (n + 1) N1 := by
      rw [R_laysSteps_37, c_eq_p (by decide) (by decide), if_neg (by decide), a1]
    rcases a2.1.2.1 with q | q
    · refine ⟨N1, ?_, ?_, a3⟩
      · rw [hr, q]
        obtain ⟨m, rfl⟩ : ∃ m', m = m' + 1 := ⟨m - 1, by omega⟩
        rw [R_laysSteps_37, c_eq_p (by decide) (by decide), if_pos (by decide)]
      · obtain ⟨⟨b0, b1, b2⟩, b3, b4, b5, b6⟩ := a2
        have hle : ∀ y : Nat, y < 144 → (0 ≤ N1 119 y ∧ N1 119 y ≤ n) ∨ N1 119 y = 1000000000 := fun y hy => by
          rcases b3 y hy with z | z | z
          · exact Or.inl z
          · omega
          · exact Or.inr z
        refine ⟨b0, fun y hy => by rcases hle y hy with z | z <;> omega, fun x y hxy hx => ?_, b6⟩
        obtain ⟨x1, y1⟩ := Ec_b g x y hxy
        show N1 119 y ≤ N1 119 x + 1
        rcases hle x x1 with z | z
        · by_cases q2 : N1 119 x = n
          · have := b5 x (by omega) q2 y hxy
            omega
          · exact b4 x y hxy (by omega)
        · omega
    · have hc := cn_le (rcB (N1 119)) 144
      have hc' := cn_le (rcB (M 119)) 144
      obtain ⟨N2, c1, c2, c3⟩ := ih (d - 1) (by omega) m (n + 1) N1 (by omega) (by omega) (by omega) (hG.fa (fun k h => a3 k (by omega))) (by
        obtain ⟨⟨b0, b1, b2⟩, b3, b4, b5, b6⟩ := a2
        refine ⟨⟨b0, Or.inl rfl, Nat.le_refl _⟩, fun y hy => ?_, fun x y hxy hx => ?_, fun x hx => by omega, b6⟩
        · rcases b3 y hy with z | z | z
          · exact Or.inl (by omega)
          · exact Or.inl (by omega)
          · exact Or.inr (Or.inr z)
        · obtain ⟨x1, y1⟩ := Ec_b g x y hxy
          by_cases q2 : N1 119 x = n
          · have := b5 x (by omega) q2 y hxy
            omega
          · exact b4 x y hxy (by omega))
      exact ⟨N2, by rw [hr, q.1, c1], c2, fun k h => by rw [c3 k h, a3 k h]⟩
theorem ls_2 {g : am_M} {s : Int} (hg : WG g) (hs : 0 ≤ s ∧ s < 144) : ∀ (k m : Nat) (i : Int) (M : am_M), i + k = 144 → 0 ≤ i → k < m → GR g M → (∀ j : Nat, (j : Int) < i → M 119 j = if (j : Int) = s then 0 else 1000000000) → ∃ N, R_laysSteps_2 m s i M = some N ∧ DI (Ec g) (fun _ => 1) s.toNat (N 119) ∧ (∀ k, k ≠ 119 → N k = M k)
  | 0, m + 1, i, M, e, h0, hm, hG, hj => by
    have vn : ∀ y : Nat, y < 144 → (M 119 y = 0 ∧ y = s.toNat) ∨ (M 119 y = 1000000000 ∧ y ≠ s.toNat) := fun y hy => by
      have := hj y (by omega)
      by_cases q : (y : Int) = s
      · rw [if_pos q] at this
        exact Or.inl ⟨this, by omega⟩
      · rw [if_neg q] at this
        exact Or.inr ⟨this, by omega⟩
    obtain ⟨N, b1, b2, b3⟩ := ls_37 (s := s.toNat) hg 144 am_big 0 M (by omega) (by decide) (by omega) hG (by
      refine ⟨⟨?_, Or.inl rfl, Nat.le_refl _⟩, fun y hy => ?_, fun x y hxy hx => ?_, fun x hx => by omega, fun y hy hs hf => ?_⟩
      · rcases vn s.toNat (by omega) with z | z
        · exact z.1
        · exact absurd rfl z.2
      · rcases vn y hy with z | z
        · exact Or.inl (by omega)
        · exact Or.inr (Or.inr z.1)
      · obtain ⟨x1, y1⟩ := Ec_b g x y hxy
        rcases vn x x1 with z | z <;> omega
      · rcases vn y hy with z | z
        · exact absurd z.2 hs
        · omega)
    refine ⟨N, ?_, b2, b3⟩
    unfold R_laysSteps_2
    rw [c_ge_p (by omega) (by omega), if_pos (by omega)]
    exact b1
  | k + 1, m + 1, i, M, e, h0, hm, hG, hj => by
    unfold R_laysSteps_2 R_laysSteps_26
    rw [c_ge_p (by omega) (by omega), if_neg (by omega), c_ne_p (by omega) (by omega)]
    have st : ∀ a : Int, a = (if i = s then 0 else 1000000000) → ∃ N, R_laysSteps_2 m s (i + 1) (am_up M 119 i.toNat a) = some N ∧ DI (Ec g) (fun _ => 1) s.toNat (N 119) ∧ (∀ k, k ≠ 119 → N k = M k) := by
      intro a ha
      obtain ⟨N, b1, b2, b3⟩ := ls_2 hg hs k m (i + 1) (am_up M 119 i.toNat a) (by omega) (by omega) (by omega) (hG.fa (fun k h => upo (by omega))) (fun j h => by
        by_cases q : j = i.toNat
        · rw [q, upj, ha, show ((i.toNat : Nat) : Int) = i by omega]
        · rw [upx q]
          exact hj j (by omega))
      exact ⟨N, b1, b2, fun k h => by rw [b3 k h, upo h]⟩
    by_cases q : i = s
    · rw [if_neg (fun h => h q), wa_p (by omega)]
      exact st 0 (by rw [if_pos q])
    · rw [if_pos q, wa_p (by omega)]
      exact st 1000000000 (by rw [if_neg q])
theorem laysSteps_eq {g M : am_M} {c : Int} (hg : WG g) (hG : GR g M) (h0 : 0 ≤ c ∧ c < 144) : ∃ N, R_laysSteps c M = some N ∧ DI (Ec g) (fun _ => 1) c.toNat (N 119) ∧ (∀ k, k ≠ 119 → N k = M k) := ls_2 hg h0 144 am_big 0 M (by omega) (by omega) (by decide) hG (fun j h => by omega)
def bsV (v : Nat → Int) (b : Int) : Int := if b = -1 then 1000000000 else v b.toNat
def csS (v kd : Nat → Int) : Nat → Int → Int → Int
  | 0, _, b => b
  | k + 1, x, b => csS v kd k (x + 1) (if kd x.toNat = 5 ∧ v x.toNat < bsV v b then x else b)
theorem csS_b (v kd : Nat → Int) : ∀ (k : Nat) (x b : Int), -1 ≤ b ∧ b < 144 → 0 ≤ x → x + k = 144 → -1 ≤ csS v kd k x b ∧ csS v kd k x b < 144
  | 0, x, b, h, _, _ => h
  | k + 1, x, b, h, h0, h1 => csS_b v kd k (x + 1) _ (by split <;> omega) (by omega) (by omega)
def caS (v : Nat → Int) (b y : Int) : Int := if b = -1 then -2 else if y = 0 then b else v b.toNat
theorem ns_lp {g : am_M} {v : Nat → Int} {M : am_M} (hg : WG g) (hG : GP g M) (hv : ∀ y : Nat, y < 144 → M 53 y = v y) (hb : ∀ y : Nat, y < 144 → 0 ≤ v y ∧ v y ≤ 1000000000) : ∀ (k n : Nat) (x b : Int), x + k = 144 → 0 ≤ x → k < n → -1 ≤ b ∧ b < 144 → Routes_nearestStream_52_13 n b (bsV v b) x M = some (csS v (g 2) k x b, M)
  | 0, n + 1, x, b, e, h0, hn, hb2 => by
    unfold Routes_nearestStream_52_13 csS
    rw [c_ge_p (by omega) (by omega), if_pos (by omega)]
  | k + 1, n + 1, x, b, e, h0, hn, hb2 => by
    have ih := fun b hb2 => ns_lp hg hG hv hb k n (x + 1) b (by omega) (by omega) (by omega) hb2
    have k1 := hG.2.2.1 x.toNat (by omega)
    have k2 := hg.2.2.1 x.toNat (by omega)
    have v1 := hv x.toNat (by omega)
    have v2 := hb x.toNat (by omega)
    have bb : 0 ≤ bsV v b ∧ bsV v b ≤ 1000000000 := by
      unfold bsV
      split
      · omega
      · exact hb _ (by omega)
    unfold Routes_nearestStream_52_13 Routes_nearestStream_52_56 csS
    rw [c_ge_p (by omega) (by omega), if_neg (by omega), Country_kindAt_eq (by omega), if_pos (by omega), ob_s, k1, c_ne_p (by omega) (by omega)]
    by_cases q : g 2 x.toNat = 5
    · rw [if_neg (fun h => h q), rd_p (by omega), v1, c_ge_p (by omega) (by omega)]
      by_cases q2 : v x.toNat < bsV v b
      · rw [if_neg (by omega), rd_p (by omega), v1, if_pos ⟨q, q2⟩, ← ih x (by omega)]
        have : bsV v x = v x.toNat := if_neg (by omega)
        rw [this]
      · rw [if_pos (by omega), if_neg (fun h => q2 h.2), ← ih b hb2]
    · rw [if_pos q, if_neg (fun h => q h.1), ← ih b hb2]
theorem rc_lp {g : am_M} {v : Nat → Int} {M : am_M} {y : Int} (hy : 0 ≤ y ∧ y ≤ 1) (hg : WG g) (hG : GR g M) (hv : ∀ y : Nat, y < 144 → M 119 y = v y) (hb : ∀ y : Nat, y < 144 → 0 ≤ v y ∧ v y ≤ 1000000000) : ∀ (k n : Nat) (x b : Int), x + k = 144 → 0 ≤ x → k < n → -1 ≤ b ∧ b < 144 → R_camp_29 n y b x M = some (caS v (csS v (g 2) k x b) y, M)
  | 0, n + 1, x, b, e, h0, hn, hb2 => by
    unfold R_camp_29 csS R_camp_110 caS
    rw [c_ge_p (by omega) (by omega), if_pos (by omega), c_ne_p (by omega) (by omega)]
    by_cases q : b = -1
    · rw [if_neg (fun h => h q), if_pos q]
    · rw [if_pos q, if_neg q, c_ne_p (by omega) (by omega)]
      by_cases q2 : y = 0
      · rw [if_neg (fun h => h q2), if_pos q2]
      · rw [if_pos q2, if_neg q2, rd_p (by omega), hv b.toNat (by omega)]
  | k + 1, n + 1, x, b, e, h0, hn, hb2 => by
    have ih := fun b hb2 => rc_lp hy hg hG hv hb k n (x + 1) b (by omega) (by omega) (by omega) hb2
    have k1 := hG.2.2.1 x.toNat (by omega)
    have k2 := hg.2.2.1 x.toNat (by omega)
    have v1 := hv x.toNat (by omega)
    have v2 := hb x.toNat (by omega)
    unfold R_camp_29 R_camp_80 R_camp_78 R_camp_80 csS
    rw [c_ge_p (by omega) (by omega), if_neg (by omega), rd_p (by omega), k1, c_ne_p (by omega) (by omega)]
    by_cases q : g 2 x.toNat = 5
    · rw [if_neg (fun h => h q), rd_p (by omega), v1, c_ge_p (by omega) (by omega)]
      by_cases q1 : 1000000000 ≤ v x.toNat
      · rw [if_pos q1]
        have : ¬ v x.toNat < bsV v b := by
          unfold bsV
          split
          · omega
          · have := hb b.toNat (by omega)
            omega
        rw [if_neg (fun h => this h.2), ← ih b hb2]
      · rw [if_neg q1, c_eq_p (by omega) (by omega)]
        by_cases q3 : b = -1
        · have : bsV v b = 1000000000 := if_pos q3
          rw [if_pos q3, this, if_pos ⟨q, by omega⟩, ← ih x (by omega)]
        · have e1 : bsV v b = v b.toNat := if_neg q3
          have e2 := hv b.toNat (by omega)
          have e3 := hb b.toNat (by omega)
          rw [if_neg q3, rd_p (by omega), v1, rd_p (by omega), e2, c_ge_p (by omega) (by omega), e1]
          by_cases q2 : v x.toNat < v b.toNat
          · rw [if_neg (by omega), if_pos ⟨q, q2⟩, ← ih x (by omega)]
          · rw [if_pos (by omega), if_neg (fun h => q2 h.2), ← ih b hb2]
    · rw [if_pos q, if_neg (fun h => q h.1), ← ih b hb2]
theorem PC.ro {F : FT} {g t u M N : am_M} {n : Nat} (h : PC F g t u n M) (e : ∀ k, (k < 53 ∨ 56 < k) → N k = M k) : PC F g t u n N := ⟨h.1.ro e, h.2.1.cg (fun k a b => e k (by omega)), fun q => (h.2.2.1 q).cg (fun k a b => e k (by omega)), h.2.2.2.1.cg (fun k a b => e k (by omega)), h.2.2.2.2.cg (fun k a b => e k (by omega)) (Nat.le_refl _)⟩
theorem PR.fa {F : FT} {g t u M N : am_M} (h : PR F g t u M) (e : ∀ k, k < 113 → N k = M k) : PR F g t u N := ⟨h.1.fa e, h.2.1.cg' (fun k a b => e k (by omega)), fun q => (h.2.2.1 q).cg' (fun k a b => e k (by omega)), h.2.2.2.cg (fun k a b => e k (by omega)) (by rw [e 73 (by decide)])⟩
theorem P_camp_ok {n : Nat} {x : Int} (hx : am_R x) : OK2 n (P_camp x) (R_camp x) := by
  refine OK2.of (lp := [53, 55]) (lr := [119]) (by decide) (by decide) (fun M r h => (P_camp_c x M r h).mo (by decide)) (fun M r h => (R_camp_c x M r h).mo (by decide)) (fun F g t u hW => ?_)
  have hl := hW.2.1.1
  have ha := hW.2.1.at (p := t 0 2) (by omega) (by omega)
  have ec : ceS t (t 0 2) = t 2 (t 0 2).toNat := if_pos (by omega)
  by_cases hc : 0 ≤ x ∧ x ≤ 1
  · obtain ⟨v, hv⟩ := di_ex (E := Ec g) (w := fun _ => 1) (s := (t 2 (t 0 2).toNat).toNat) (B := 0) (c := fun _ => 0) (by decide) (fun _ => ⟨rfl, by decide⟩) (Ec_b g)
    have hb := hv.2.1
    have hbb := csS_b v (g 2) 144 0 (-1) (by decide) (by decide) (by decide)
    refine ⟨caS v (csS v (g 2) 144 0 (-1)) x, F, g, t, u, ?_, hW, fun M hC => ?_, fun M hR => ?_⟩
    · unfold caS
      by_cases q : csS v (g 2) 144 0 (-1) = -1
      · rw [if_pos q]
        decide
      · have := hb (csS v (g 2) 144 0 (-1)).toNat (by omega)
        rw [if_neg q]
        split <;> omega
    · have e11 : M 26 11 = t 0 2 := hC.2.1.1.2.2.1
      obtain ⟨N, a1, a2, a3⟩ := countSteps_eq (c := t 2 (t 0 2).toNat) hW.1 hC.1 (by omega)
      have hC1 := hC.ro (N := N) (fun k h => a3 k (by omega) (by omega))
      have hvv := di_un (Ec_b g) hv a2
      refine ⟨N, ?_, hC1.cg (fun _ _ => rfl) (by omega)⟩
      have en := ns_lp hW.1 hC1.1 hvv hb 144 am_big 0 (-1) (by omega) (by omega) (by decide) (by decide)
      rw [show bsV v (-1) = 1000000000 from rfl] at en
      unfold P_camp P_camp_56 Routes_nearestStream_52 caS
      rw [c_lt_p (by omega) (by omega), if_neg (by omega), c_le_p (by omega) (by omega), if_pos (by omega), e11, Trip_cellAt_26_eq hW.2.1 hC.2.1 (by omega), ob_s, ec, a1, ob_s, en, oc_s, c_ge_p (by omega) (by omega)]
      by_cases q : csS v (g 2) 144 0 (-1) = -1
      · rw [if_neg (by omega), if_pos q]
      · rw [if_pos (by omega), if_neg q, c_ne_p (by omega) (by omega)]
        by_cases q2 : x = 0
        · rw [if_neg (fun h => h q2), if_pos q2]
        · rw [if_pos q2, if_neg q2]
          unfold Routes_stepsTo_52 Routes_reachOf_52 Routes_reachOf_52_18
          rw [Country_isCell_eq (by omega), ob_s, if_pos (by omega), c_eq_p (by decide) (by decide), if_neg (by decide), rd_p (by omega), ob_s, ob_s, hvv _ (by omega)]
    · have e47 : M 73 47 = t 0 2 := hR.2.1.1.2.2.1
      have c1 := (hR.2.1.2.1 (t 0 2).toNat (by omega)).1
      obtain ⟨N, a1, a2, a3⟩ := laysSteps_eq (c := t 2 (t 0 2).toNat) hW.1 hR.1 (by omega)
      have hR1 := hR.fa (N := N) (fun k h => a3 k (by omega))
      have hvv := di_un (Ec_b g) hv a2
      refine ⟨N, ?_, hR1⟩
      unfold R_camp
      simp (disch := omega) only [c_lt_p, c_eq_p, c_ne_p, c_ge_p, c_gt_p, c_le_p, rd_p, wa_p, wz_p, w8_p, fz_p, fw_p, tw_p, ck_p, ob_s, oc_s, if_pos, if_neg, am_upo, up_s, ne_eq, not_true_eq_false, not_false_eq_true, true_or, or_true, true_and, and_true, false_and, and_false, ck_t, reduceIte, Int.tmod_eq_emod_of_nonneg, Int.tdiv_eq_ediv_of_nonneg, R_lies_eq, e47, c1, a1]
      exact rc_lp hc hW.1 hR1.1 hvv hb 144 am_big 0 (-1) (by omega) (by omega) (by decide) (by decide)
  · refine ⟨-1, F, g, t, u, by decide, hW, fun M hC => ⟨M, ?_, hC.cg (fun _ _ => rfl) (by omega)⟩, fun M hR => ⟨M, ?_, hR⟩⟩
    · unfold P_camp P_camp_9
      by_cases q : x < 0
      · simp (disch := omega) only [c_lt_p, c_eq_p, c_ne_p, c_ge_p, c_gt_p, c_le_p, rd_p, wa_p, wz_p, w8_p, fz_p, fw_p, tw_p, ck_p, ob_s, oc_s, if_pos, if_neg, am_upo, up_s, ne_eq, not_true_eq_false, not_false_eq_true, true_or, or_true, true_and, and_true, false_and, and_false, ck_t, reduceIte, Int.tmod_eq_emod_of_nonneg, Int.tdiv_eq_ediv_of_nonneg]
      · simp (disch := omega) only [c_lt_p, c_eq_p, c_ne_p, c_ge_p, c_gt_p, c_le_p, rd_p, wa_p, wz_p, w8_p, fz_p, fw_p, tw_p, ck_p, ob_s, oc_s, if_pos, if_neg, am_upo, up_s, ne_eq, not_true_eq_false, not_false_eq_true, true_or, or_true, true_and, and_true, false_and, and_false, ck_t, reduceIte, Int.tmod_eq_emod_of_nonneg, Int.tdiv_eq_ediv_of_nonneg]
    · unfold R_camp
      simp (disch := omega) only [c_lt_p, c_eq_p, c_ne_p, c_ge_p, c_gt_p, c_le_p, rd_p, wa_p, wz_p, w8_p, fz_p, fw_p, tw_p, ck_p, ob_s, oc_s, if_pos, if_neg, am_upo, up_s, ne_eq, not_true_eq_false, not_false_eq_true, true_or, or_true, true_and, and_true, false_and, and_false, ck_t, reduceIte, Int.tmod_eq_emod_of_nonneg, Int.tdiv_eq_ediv_of_nonneg, R_lies_eq]
