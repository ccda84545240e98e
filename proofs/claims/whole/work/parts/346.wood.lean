-- forest
def klS (c : Int) : Int := if c = 98 then 3 else if c = 106 then 2 else if c = 111 then 0 else if c = 112 then 6 else if c = 114 then 4 else if c = 115 then 5 else if c = 116 then 1 else -1
theorem klS_b (c : Int) : -1 ≤ klS c ∧ klS c ≤ 6 := by
  unfold klS
  repeat' split
  all_goals omega
theorem klS_p {c : Int} (h : 0 ≤ klS c) : 98 ≤ c ∧ c ≤ 116 := by
  unfold klS at h
  repeat' split at h
  all_goals omega
theorem kindOfLetter_eq {c : Int} {M : am_M} (h : am_R c) : Country_kindOfLetter c M = some (klS c) := by
  unfold Country_kindOfLetter klS
  rw [ck_p h]
  repeat' split
  all_goals rfl
theorem R_kindBy_eq {c : Int} {M : am_M} (h : am_R c) : R_kindBy c M = some (klS c) := by
  unfold R_kindBy klS
  rw [ck_p h]
  repeat' split
  all_goals rfl
theorem kl_he {v : Int} (h : -1 ≤ v) : klS (heV v) = klS v := by
  unfold heV
  split
  · have : v = -1 := by omega
    subst this
    decide
  · rfl
def lyS (dr : Nat → Int) (b t v : Int) : Nat → Int := fun c => if b ≤ (c : Int) ∧ (c : Int) < b + t then v else dr c
def reS (dr : Nat → Int) (y : Int) : Nat → Int := fun c => if 12 * y ≤ (c : Int) ∧ (c : Int) < 12 * y + 12 then dr (c - 12) else dr c
abbrev RP : Type := Int × (Nat → Int)
/-- how often a letter stands, and where it goes on -/
def tiS (g : am_M) (n p : Int) : Int := if dgB g n (p + 1) then nvS g n (p + 1) else 1
def txS (g : am_M) (n p : Int) : Int := if dgB g n (p + 1) then npS g n (p + 1) else p + 1
theorem tiS_b (g : am_M) (n p : Int) : 0 ≤ tiS g n p ∧ tiS g n p ≤ 99 := by
  unfold tiS
  split
  · rename_i h
    exact nvS_b h
  · omega
theorem ta_n {g : am_M} {n p : Int} (h0 : 0 ≤ p) (h : 0 ≤ taS g n p) : p < n := by
  unfold taS at h
  split at h
  · omega
  · omega
theorem txS_b {g : am_M} {n p : Int} (h0 : 0 ≤ p) (h : p < n) : p + 1 ≤ txS g n p ∧ txS g n p ≤ p + 3 ∧ txS g n p ≤ n := by
  unfold txS
  split
  · rename_i hd
    have h1 := npS_b g n (p + 1)
    have h2 := ta_n (g := g) (n := n) (p := p + 1) (by omega) (by omega)
    refine ⟨by omega, by omega, ?_⟩
    unfold npS
    split
    · rename_i hd2
      have h3 := ta_n (g := g) (n := n) (p := p + 1 + 1) (by omega) (by omega)
      omega
    · omega
  · omega
def rwS (g : am_M) (n y : Int) : Nat → Int → Int → (Nat → Int) → RP
  | 0, p, x, dr => (if 12 ≤ x then p else -1000 - p, dr)
  | k + 1, p, x, dr => if klS (taS g n p) < 0 then (if 12 ≤ x then p else -1000 - p, dr) else if tiS g n p = 0 then (-3000 - (p + 1), dr) else if 12 < x + tiS g n p then (-6000 - p, dr) else rwS g n y k (txS g n p) (x + tiS g n p) (lyS dr (12 * y + x) (tiS g n p) (klS (taS g n p)))
theorem rwS_b {g : am_M} {n y : Int} (hn : n ≤ 260) : ∀ (k : Nat) (p x : Int) (dr : Nat → Int), 0 ≤ p ∧ p ≤ n → -7000 ≤ (rwS g n y k p x dr).1 ∧ (rwS g n y k p x dr).1 ≤ n
  | 0, p, x, dr, h => by
    unfold rwS
    split <;> (dsimp only; omega)
  | k + 1, p, x, dr, h => by
    unfold rwS
    by_cases q1 : klS (taS g n p) < 0
    · rw [if_pos q1]
      split <;> (dsimp only; omega)
    rw [if_neg q1]
    have hk := klS_p (c := taS g n p) (by omega)
    have hp := ta_n (g := g) (n := n) (p := p) h.1 (by omega)
    by_cases q2 : tiS g n p = 0
    · rw [if_pos q2]
      dsimp only
      omega
    rw [if_neg q2]
    by_cases q3 : 12 < x + tiS g n p
    · rw [if_pos q3]
      dsimp only
      omega
    rw [if_neg q3]
    have ht := txS_b (g := g) (n := n) h.1 hp
    exact rwS_b hn k _ _ _ (by omega)
/-- what is drawn is kinds -/
def DR (m : Int) (dr : Nat → Int) : Prop := ∀ c : Nat, (c : Int) < m → 0 ≤ dr c ∧ dr c ≤ 6
theorem DR.ly {dr : Nat → Int} {b t v : Int} (h : DR b dr) (hv : 0 ≤ v ∧ v ≤ 6) : DR (b + t) (lyS dr b t v) := by
  intro c hc
  unfold lyS
  split
  · exact hv
  · exact h c (by omega)
theorem rwS_d {g : am_M} {n y : Int} : ∀ (k : Nat) (p x : Int) (dr : Nat → Int), 0 ≤ p → 0 ≤ x ∧ x ≤ 12 → DR (12 * y + x) dr → 0 ≤ (rwS g n y k p x dr).1 → DR (12 * y + 12) (rwS g n y k p x dr).2
  | 0, p, x, dr, h0, hx, hd, hr => by
    unfold rwS at hr ⊢
    dsimp only at hr ⊢
    by_cases q : 12 ≤ x
    · rw [show 12 * y + 12 = 12 * y + x by omega]
      exact hd
    · rw [if_neg q] at hr
      omega
  | k + 1, p, x, dr, h0, hx, hd, hr => by
    unfold rwS at hr ⊢
    by_cases q1 : klS (taS g n p) < 0
    · rw [if_pos q1] at hr ⊢
      dsimp only at hr ⊢
      by_cases q : 12 ≤ x
      · rw [show 12 * y + 12 = 12 * y + x by omega]
        exact hd
      · rw [if_neg q] at hr
        omega
    rw [if_neg q1] at hr ⊢
    by_cases q2 : tiS g n p = 0
    · rw [if_pos q2] at hr
      dsimp only at hr
      omega
    rw [if_neg q2] at hr ⊢
    by_cases q3 : 12 < x + tiS g n p
    · rw [if_pos q3] at hr
      dsimp only at hr
      omega
    rw [if_neg q3] at hr ⊢
    have ht := tiS_b g n p
    have hkb := klS_b (taS g n p)
    have hk := klS_p (c := taS g n p) (by omega)
    have hp := ta_n (g := g) (n := n) (p := p) h0 (by omega)
    have htx := txS_b (g := g) (n := n) h0 hp
    refine rwS_d k _ _ _ (by omega) (by omega) ?_ hr
    rw [← Int.add_assoc]
    exact hd.ly (by omega)
-- the class
theorem layRun_lp {b t v : Int} (hb : 0 ≤ b) (ht : 0 ≤ t) (hbt : b + t ≤ 144) : ∀ (k f : Nat) (c : Int) (M : am_M), c + k = b + t → b ≤ c → k < f → ∃ N, Country_layRun_1_3 f b t v c M = some N ∧ (∀ j : Nat, N 3 j = if c ≤ (j : Int) ∧ (j : Int) < b + t then v else M 3 j) ∧ (∀ i, i ≠ 3 → N i = M i)
  | 0, f + 1, c, M, e, h0, hf => by
    refine ⟨M, ?_, fun j => by rw [if_neg (by omega)], fun _ _ => rfl⟩
    unfold Country_layRun_1_3
    rw [c_ge_p (by omega) (by omega), if_pos (by omega)]
  | k + 1, f + 1, c, M, e, h0, hf => by
    obtain ⟨N, a1, a2, a3⟩ := layRun_lp (v := v) hb ht hbt k f (c + 1) (am_up M 3 c.toNat v) (by omega) (by omega) (by omega)
    refine ⟨N, ?_, fun j => ?_, fun i hi => by rw [a3 i hi, upo hi]⟩
    · unfold Country_layRun_1_3 Country_layRun_1_27
      rw [c_ge_p (by omega) (by omega), if_neg (by omega), Country_isCell_eq (by omega), ob_s, if_pos (by omega), c_eq_p (by decide) (by decide), if_neg (by decide), wa_p (by omega)]
      exact a1
    · rw [a2 j]
      by_cases z : j = c.toNat
      · subst z
        rw [if_neg (by omega), upj, if_pos (by omega)]
      · rw [upx z]
        by_cases w : c + 1 ≤ (j : Int) ∧ (j : Int) < b + t
        · rw [if_pos w, if_pos (by omega)]
        · rw [if_neg w, if_neg (by omega)]
def dE (m : Int) (dr f : Nat → Int) : Prop := ∀ c : Nat, (c : Int) < m → f c = dr c
theorem GP.wo {g M N : am_M} (h : GP g M) (e : ∀ k, k ≠ 3 → N k = M k) : GP g N := by
  unfold GP at h ⊢
  rw [e 0 (by decide), e 1 (by decide), e 2 (by decide), e 4 (by decide), e 5 (by decide), e 14 (by decide), e 15 (by decide)]
  exact h
theorem cr_9 {g : am_M} {n y : Int} (hg : WG g) (hn : 1 ≤ n ∧ n ≤ 200) (hy : 0 ≤ y ∧ y ≤ 11) : ∀ (k f : Nat) (p x r : Int) (dr : Nat → Int) (M : am_M), r + k = 13 → r ≤ x → 0 ≤ r → x ≤ 12 → k < f → 0 ≤ p ∧ p ≤ n → GP g M → M 14 2 = n → dE (12 * y + x) dr (M 3) → ∃ N, Country_readRow_1_9 f y p x r M = some ((rwS g n y k p x dr).1, N) ∧ (0 ≤ (rwS g n y k p x dr).1 → dE (12 * y + 12) (rwS g n y k p x dr).2 (N 3)) ∧ (∀ i, i ≠ 3 → N i = M i)
  | 0, f + 1, p, x, r, dr, M, hr, hrx, hr0, hx, hf, hp, hG, h14, hd => by omega
  | k + 1, f + 1, p, x, r, dr, M, hr, hrx, hr0, hx, hf, hp, hG, h14, hd => by
    have ta := fun q (hq : am_R q) => Tape_at_eq hG h14 (by omega) (by omega) hq
    have tb := fun q => taS_b hg (n := n) (by omega) q
    have hb0 := tb p
    have hb1 := tb (p + 1)
    have hb2 := tb (p + 1 + 1)
    have hkb := klS_b (taS g n p)
    unfold Country_readRow_1_9 rwS
    rw [c_gt_p (by omega) (by omega), if_neg (by omega), ta p (by omega), ob_s, kindOfLetter_eq (by omega), ob_s, c_lt_p (by omega) (by omega)]
    by_cases q1 : klS (taS g n p) < 0
    · rw [if_pos q1, if_pos q1]
      unfold Country_readRow_1_165 Country_readRow_1_183 P_faultAt
      rw [c_ge_p (by omega) (by omega)]
      by_cases q : 12 ≤ x
      · rw [if_pos q, if_pos q]
        refine ⟨M, rfl, fun _ => ?_, fun _ _ => rfl⟩
        dsimp only
        rw [show 12 * y + 12 = 12 * y + x by omega]
        exact hd
      · rw [if_neg q, if_neg q, ob_s]
        exact ⟨M, by congr 2, fun h => by dsimp only at h; omega, fun _ _ => rfl⟩
    rw [if_neg q1, if_neg q1, ta (p + 1) (by omega), ob_s, P_isDigit_eq (by omega), ob_s]
    have hk := klS_p (c := taS g n p) (by omega)
    have hpn := ta_n (g := g) (n := n) (p := p) hp.1 (by omega)
    have htx := txS_b (g := g) (n := n) hp.1 hpn
    have htb := tiS_b g n p
    have f112 : ∀ q' : Int, q' = txS g n p → tiS g n p ≠ 0 → ∃ N, Country_readRow_1_112 (Country_readRow_1_9 f) y q' x r p (tiS g n p) M = some ((if 12 < x + tiS g n p then (-6000 - p, dr) else rwS g n y k (txS g n p) (x + tiS g n p) (lyS dr (12 * y + x) (tiS g n p) (klS (taS g n p)))).1, N) ∧ (0 ≤ (if 12 < x + tiS g n p then (-6000 - p, dr) else rwS g n y k (txS g n p) (x + tiS g n p) (lyS dr (12 * y + x) (tiS g n p) (klS (taS g n p)))).1 → dE (12 * y + 12) (if 12 < x + tiS g n p then (-6000 - p, dr) else rwS g n y k (txS g n p) (x + tiS g n p) (lyS dr (12 * y + x) (tiS g n p) (klS (taS g n p)))).2 (N 3)) ∧ (∀ i, i ≠ 3 → N i = M i) := by
      intro q' hq' ht0
      subst hq'
      unfold Country_readRow_1_112
      rw [c_le_p (by omega) (by omega)]
      by_cases q3 : 12 < x + tiS g n p
      · rw [if_neg (by omega), if_pos q3]
        unfold P_faultAt
        rw [ob_s]
        exact ⟨M, by congr 2, fun h => by dsimp only at h; omega, fun _ _ => rfl⟩
      · rw [if_pos (by omega), if_neg q3, ta p (by omega), ob_s, kindOfLetter_eq (by omega), ob_s]
        obtain ⟨N1, a1, a2, a3⟩ := layRun_lp (b := 12 * y + x) (t := tiS g n p) (v := klS (taS g n p)) (by omega) (by omega) (by omega) (tiS g n p).toNat am_big (12 * y + x) M (by omega) (by omega) (by show _ < 1000000; omega)
        have a1' : Country_layRun_1 (12 * y + x) (tiS g n p) (klS (taS g n p)) M = some N1 := a1
        obtain ⟨N2, b1, b2, b3⟩ := cr_9 hg hn hy k f (txS g n p) (x + tiS g n p) (r + 1) (lyS dr (12 * y + x) (tiS g n p) (klS (taS g n p))) N1 (by omega) (by omega) (by omega) (by omega) (by omega) (by omega) (hG.wo a3) (by rw [a3 14 (by decide)]; exact h14) (fun c hc => by
          rw [a2 c]
          unfold lyS
          by_cases w : 12 * y + x ≤ (c : Int) ∧ (c : Int) < 12 * y + x + tiS g n p
          · rw [if_pos w, if_pos w]
          · rw [if_neg w, if_neg w]
            exact hd c (by omega))
        rw [a1', ob_s]
        exact ⟨N2, b1, b2, fun i hi => by rw [b3 i hi, a3 i hi]⟩
    by_cases q2 : dgB g n (p + 1)
    · rw [if_pos q2, c_eq_p (by decide) (by decide), if_neg (by decide), ob_s, ta (p + 1 + 1) (by omega), ob_s, P_isDigit_eq (by omega), ob_s]
      have et : tiS g n p = nvS g n (p + 1) := if_pos q2
      have ex : txS g n p = npS g n (p + 1) := if_pos q2
      have f100 : ∀ q' v : Int, q' = txS g n p → v = tiS g n p → ∃ N, Country_readRow_1_100 (Country_readRow_1_9 f) y q' x r p v (p + 1) M = some ((if tiS g n p = 0 then (-3000 - (p + 1), dr) else if 12 < x + tiS g n p then (-6000 - p, dr) else rwS g n y k (txS g n p) (x + tiS g n p) (lyS dr (12 * y + x) (tiS g n p) (klS (taS g n p)))).1, N) ∧ (0 ≤ (if tiS g n p = 0 then (-3000 - (p + 1), dr) else if 12 < x + tiS g n p then (-6000 - p, dr) else rwS g n y k (txS g n p) (x + tiS g n p) (lyS dr (12 * y + x) (tiS g n p) (klS (taS g n p)))).1 → dE (12 * y + 12) (if tiS g n p = 0 then (-3000 - (p + 1), dr) else if 12 < x + tiS g n p then (-6000 - p, dr) else rwS g n y k (txS g n p) (x + tiS g n p) (lyS dr (12 * y + x) (tiS g n p) (klS (taS g n p)))).2 (N 3)) ∧ (∀ i, i ≠ 3 → N i = M i) := by
        intro q' v hq' hv
        subst hv
        unfold Country_readRow_1_100
        rw [c_ne_p (by omega) (by omega)]
        by_cases w : tiS g n p = 0
        · rw [if_neg (fun h => h w), if_pos w]
          unfold P_faultAt
          rw [ob_s]
          exact ⟨M, by congr 2, fun h => by dsimp only at h; omega, fun _ _ => rfl⟩
        · rw [if_pos w, if_neg w]
          exact f112 q' hq' w
      by_cases q3 : dgB g n (p + 1 + 1)
      · rw [if_pos q3, c_eq_p (by decide) (by decide), if_neg (by decide), ob_s]
        exact f100 _ _ (by rw [ex]; unfold npS; rw [if_pos q3]; omega) (by rw [et]; unfold nvS; rw [if_pos q3])
      · rw [if_neg q3, c_eq_p (by decide) (by decide), if_pos (by decide)]
        exact f100 _ _ (by rw [ex]; unfold npS; rw [if_neg q3]) (by rw [et]; unfold nvS; rw [if_neg q3])
    · rw [if_neg q2, c_eq_p (by decide) (by decide), if_pos (by decide)]
      have et : tiS g n p = 1 := if_neg q2
      have ex : txS g n p = p + 1 := if_neg q2
      have := f112 (p + 1) ex.symm (by omega)
      rw [if_neg (show ¬ tiS g n p = 0 by omega)]
      rw [et] at this ⊢
      exact this
theorem rep_lp {y q : Int} (hy : 1 ≤ y ∧ y ≤ 11) : ∀ (k f : Nat) (x : Int) (dr : Nat → Int) (M : am_M), x + k = 12 → 0 ≤ x → k < f → (∀ c : Nat, (c : Int) < 12 * y → M 3 c = dr c) → (∀ c : Nat, 12 * y ≤ (c : Int) → (c : Int) < 12 * y + x → M 3 c = dr (c - 12)) → ∃ N, Country_repeatRow_1_2 f y q x M = some (q + 1, N) ∧ dE (12 * y + 12) (reS dr y) (N 3) ∧ (∀ i, i ≠ 3 → N i = M i)
  | 0, f + 1, x, dr, M, e, h0, hf, h1, h2 => by
    refine ⟨M, ?_, fun c hc => ?_, fun _ _ => rfl⟩
    · unfold Country_repeatRow_1_2
      rw [c_ge_p (by omega) (by omega), if_pos (by omega)]
    · unfold reS
      by_cases w : 12 * y ≤ (c : Int) ∧ (c : Int) < 12 * y + 12
      · rw [if_pos w]
        exact h2 c w.1 (by omega)
      · rw [if_neg w]
        exact h1 c (by omega)
  | k + 1, f + 1, x, dr, M, e, h0, hf, h1, h2 => by
    have hv := h1 (12 * y + x - 12).toNat (by omega)
    obtain ⟨N, a1, a2, a3⟩ := rep_lp (q := q) hy k f (x + 1) dr (am_up M 3 (12 * y + x).toNat (dr (12 * y + x - 12).toNat)) (by omega) (by omega) (by omega) (fun c hc => by rw [upx (by omega)]; exact h1 c hc) (fun c hc hc2 => by
      by_cases z : c = (12 * y + x).toNat
      · subst z
        rw [upj]
        congr 1
        omega
      · rw [upx z]
        exact h2 c hc (by omega))
    refine ⟨N, ?_, a2, fun i hi => by rw [a3 i hi, upo hi]⟩
    unfold Country_repeatRow_1_2 Country_repeatRow_1_48
    rw [c_ge_p (by omega) (by omega), if_neg (by omega), c_lt_p (by omega) (by omega), if_neg (by omega), c_ge_p (by omega) (by omega), if_neg (by omega), rd_p (by omega), wa_p (by omega), hv]
    exact a1
/-- a row, as it stands behind what parts rows -/
def rw1 (g : am_M) (n y p : Int) (dr : Nat → Int) : RP := if 0 < y ∧ taS g n p = 61 then (p + 1, reS dr y) else rwS g n y 13 p 0 dr
def foS (g : am_M) (n : Int) : Nat → Int → Int → (Nat → Int) → RP
  | 0, y, p, dr => if (rw1 g n y p dr).1 < 0 then rw1 g n y p dr else if taS g n (rw1 g n y p dr).1 = -1 then (0, (rw1 g n y p dr).2) else (-1000 - (rw1 g n y p dr).1, dr)
  | k + 1, y, p, dr => if (rw1 g n y p dr).1 < 0 then rw1 g n y p dr else if taS g n (rw1 g n y p dr).1 = 47 then foS g n k (y + 1) ((rw1 g n y p dr).1 + 1) (rw1 g n y p dr).2 else (-1000 - (rw1 g n y p dr).1, dr)
theorem rw1_b {g : am_M} {n y p : Int} (hn : n ≤ 260) (h : 0 ≤ p ∧ p ≤ n) (dr : Nat → Int) : -7000 ≤ (rw1 g n y p dr).1 ∧ (rw1 g n y p dr).1 ≤ n := by
  unfold rw1
  by_cases q : 0 < y ∧ taS g n p = 61
  · rw [if_pos q]
    have := ta_n (g := g) (n := n) (p := p) h.1 (by omega)
    dsimp only
    omega
  · rw [if_neg q]
    exact rwS_b hn 13 p 0 dr h
theorem rw1_d {g : am_M} {n y p : Int} (hy : 0 ≤ y) (h0 : 0 ≤ p) {dr : Nat → Int} (hd : DR (12 * y) dr) (hr : 0 ≤ (rw1 g n y p dr).1) : DR (12 * y + 12) (rw1 g n y p dr).2 := by
  unfold rw1 at hr ⊢
  by_cases q : 0 < y ∧ taS g n p = 61
  · rw [if_pos q]
    intro c hc
    show 0 ≤ reS dr y c ∧ reS dr y c ≤ 6
    unfold reS
    split
    · exact hd (c - 12) (by omega)
    · exact hd c (by omega)
  · rw [if_neg q] at hr ⊢
    exact rwS_d 13 p 0 dr h0 (by omega) (by rw [Int.add_zero]; exact hd) hr
theorem foS_b {g : am_M} {n : Int} (hn : n ≤ 260) : ∀ (k : Nat) (y p : Int) (dr : Nat → Int), 0 ≤ y → y + k = 11 → 0 ≤ p ∧ p ≤ n → DR (12 * y) dr → (-7000 ≤ (foS g n k y p dr).1 ∧ (foS g n k y p dr).1 ≤ 0) ∧ (0 ≤ (foS g n k y p dr).1 → DR 144 (foS g n k y p dr).2)
  | 0, y, p, dr, hy, hk, hp, hd => by
    have h1 := rw1_b (g := g) (y := y) hn hp dr
    unfold foS
    by_cases q1 : (rw1 g n y p dr).1 < 0
    · rw [if_pos q1]
      exact ⟨by omega, fun h => by omega⟩
    rw [if_neg q1]
    have h2 := rw1_d (g := g) (n := n) hy hp.1 hd (by omega)
    by_cases q2 : taS g n (rw1 g n y p dr).1 = -1
    · rw [if_pos q2]
      exact ⟨by dsimp only; omega, fun _ => by rw [show (144 : Int) = 12 * y + 12 by omega]; exact h2⟩
    · rw [if_neg q2]
      exact ⟨by dsimp only; omega, fun h => by dsimp only at h; omega⟩
  | k + 1, y, p, dr, hy, hk, hp, hd => by
    have h1 := rw1_b (g := g) (y := y) hn hp dr
    unfold foS
    by_cases q1 : (rw1 g n y p dr).1 < 0
    · rw [if_pos q1]
      exact ⟨by omega, fun h => by omega⟩
    rw [if_neg q1]
    have h2 := rw1_d (g := g) (n := n) hy hp.1 hd (by omega)
    by_cases q2 : taS g n (rw1 g n y p dr).1 = 47
    · rw [if_pos q2]
      have h3 := ta_n (g := g) (n := n) (p := (rw1 g n y p dr).1) (by omega) (by omega)
      exact foS_b hn k (y + 1) _ _ (by omega) (by omega) (by omega) (by rw [show 12 * (y + 1) = 12 * y + 12 by omega]; exact h2)
    · rw [if_neg q2]
      exact ⟨by dsimp only; omega, fun h => by dsimp only at h; omega⟩
def cjS (dr : Nat → Int) : Nat → Nat → Int → Int
  | 0, _, a => a
  | k + 1, c, a => cjS dr k (c + 1) (if dr c = 2 then a else a + 1)
theorem cjS_b (dr : Nat → Int) : ∀ (k c : Nat) (a : Int), a ≤ cjS dr k c a ∧ cjS dr k c a ≤ a + k
  | 0, c, a => by unfold cjS; omega
  | k + 1, c, a => by
    have := cjS_b dr k (c + 1) (if dr c = 2 then a else a + 1)
    unfold cjS
    split at this <;> (rename_i h; first | rw [if_pos h] | rw [if_neg h]) <;> omega
theorem cj_lp {dr : Nat → Int} {M : am_M} (hM : ∀ c : Nat, c < 144 → M 2 c = dr c) (hd : DR 144 dr) : ∀ (k f c : Nat) (a : Int), c + k = 144 → k < f → Country_cellsNotJungle_1_4 f a (c : Int) M = some (cjS dr k c a)
  | 0, f + 1, c, a, e, hf => by
    unfold Country_cellsNotJungle_1_4 cjS
    rw [c_ge_p (by omega) (by omega), if_pos (by omega)]
  | k + 1, f + 1, c, a, e, hf => by
    have hc := hd c (by omega)
    have ih := fun a => cj_lp hM hd k f (c + 1) a (by omega) (by omega)
    unfold Country_cellsNotJungle_1_4 Country_cellsNotJungle_1_24 cjS
    rw [c_ge_p (by omega) (by omega), if_neg (by omega), rd_p (by omega), show ((c : Int)).toNat = c by omega, hM c (by omega), c_eq_p (by omega) (by omega)]
    by_cases q : dr c = 2
    · rw [if_pos q, if_pos q, ← ih a]
      rfl
    · rw [if_neg q, if_neg q, ← ih (a + 1)]
      rfl
/-- what the class's reading of a forest comes to -/
def foA (r : RP) : Int := if r.1 < 0 then r.1 else cjS r.2 144 0 0
theorem cf_33 {g : am_M} {n : Int} (hg : WG g) (hn : 1 ≤ n ∧ n ≤ 200) : ∀ (k f : Nat) (y p : Int) (dr : Nat → Int) (M : am_M), y + k = 11 → 0 ≤ y → k < f → 0 ≤ p ∧ p ≤ n → GP g M → M 14 2 = n → DR (12 * y) dr → dE (12 * y) dr (M 3) → ∃ N, Country_readForest_1_33 (Country_readForest_1_4 f) p y M = some (foA (foS g n k y p dr), N) ∧ (0 ≤ (foS g n k y p dr).1 → ∀ c : Nat, c < 144 → N 2 c = (foS g n k y p dr).2 c) ∧ ((foS g n k y p dr).1 < 0 → N 2 = M 2) ∧ (∀ i, i ≠ 3 → i ≠ 2 → N i = M i)
  | k, 0, y, p, dr, M, hk, hy, hf, hp, hG, h14, hD, hd => absurd hf (by omega)
  | k, f + 1, y, p, dr, M, hk, hy, hf, hp, hG, h14, hD, hd => by
    have htb := taS_b hg (n := n) (by omega) p
    obtain ⟨N1, a1, a2, a3⟩ : ∃ N1, Country_readForest_1_33 (Country_readForest_1_4 (f + 1)) p y M = Country_readForest_1_63 (Country_readForest_1_4 (f + 1)) y (rw1 g n y p dr).1 N1 ∧ (0 ≤ (rw1 g n y p dr).1 → dE (12 * y + 12) (rw1 g n y p dr).2 (N1 3)) ∧ (∀ i, i ≠ 3 → N1 i = M i) := by
      obtain ⟨N1, b1, b2, b3⟩ := cr_9 hg hn (y := y) (by omega) 13 am_big p 0 0 dr M (by omega) (by omega) (by omega) (by omega) (by decide) hp hG h14 (by rw [Int.add_zero]; exact hd)
      have b1' : Country_readRow_1 y p M = some ((rwS g n y 13 p 0 dr).1, N1) := b1
      unfold Country_readForest_1_33 Country_readForest_1_56 rw1
      rw [c_le_p (by omega) (by omega)]
      by_cases q0 : y ≤ 0
      · rw [if_pos q0, if_neg (show ¬ (0 < y ∧ taS g n p = 61) by omega), b1', oc_s]
        exact ⟨N1, rfl, b2, b3⟩
      · rw [if_neg q0, Tape_at_eq hG h14 (by omega) (by omega) (by omega), ob_s, c_ne_p (by omega) (by omega)]
        by_cases q1 : taS g n p = 61
        · obtain ⟨N2, c1, c2, c3⟩ := rep_lp (y := y) (q := p) (by omega) 12 am_big 0 dr M (by omega) (by omega) (by decide) (fun c hc => hd c hc) (fun c h1 h2 => by omega)
          have c1' : Country_repeatRow_1 y p M = some (p + 1, N2) := c1
          rw [if_neg (fun h => h q1), if_pos ⟨by omega, q1⟩, c1', oc_s]
          exact ⟨N2, rfl, fun _ => c2, c3⟩
        · rw [if_pos q1, if_neg (fun z => q1 z.2), b1', oc_s]
          exact ⟨N1, rfl, b2, b3⟩
    have h1 := rw1_b (g := g) (y := y) (n := n) (by omega) hp dr
    have htr := taS_b hg (n := n) (by omega) (rw1 g n y p dr).1
    rw [a1]
    unfold Country_readForest_1_63
    rw [c_ge_p (by omega) (by omega)]
    by_cases q1 : (rw1 g n y p dr).1 < 0
    · have ef : foS g n k y p dr = rw1 g n y p dr := by
        cases k with
        | zero => unfold foS; rw [if_pos q1]
        | succ k => unfold foS; rw [if_pos q1]
      rw [if_neg (by omega), ef]
      refine ⟨N1, ?_, fun h => by omega, fun _ => a3 2 (by decide), fun i h3 _ => a3 i h3⟩
      unfold foA
      rw [if_pos q1]
    · rw [if_pos (by omega)]
      have h2 := rw1_d (g := g) (n := n) hy hp.1 hD (by omega)
      have e2 := a2 (by omega)
      have hG1 := hG.wo a3
      have h14' : N1 14 2 = n := by rw [a3 14 (by decide)]; exact h14
      rw [Country_readForest_1_4]
      cases k with
      | zero =>
        rw [c_ge_p (by omega) (by omega), if_pos (by omega), Tape_at_eq hG1 h14' (by omega) (by omega) (by omega), ob_s, c_eq_p (by omega) (by omega)]
        unfold foS
        rw [if_neg q1]
        by_cases q2 : taS g n (rw1 g n y p dr).1 = -1
        · rw [if_pos q2, if_pos q2, cpy_p (by decide)]
          have hM2 : ∀ c : Nat, c < 144 → (am_cp N1 3 (Int.toNat 0) 2 (Int.toNat 0) (Int.toNat 144)) 2 c = (rw1 g n y p dr).2 c := fun c hc => by
            rw [show Int.toNat 0 = 0 from rfl, show Int.toNat 144 = 144 from rfl, cp_s, if_pos hc]
            exact e2 c (by omega)
          have hD2 : DR 144 (rw1 g n y p dr).2 := by rw [show (144 : Int) = 12 * y + 12 by omega]; exact h2
          have hcj : Country_cellsNotJungle_1 (am_cp N1 3 (Int.toNat 0) 2 (Int.toNat 0) (Int.toNat 144)) = some (cjS (rw1 g n y p dr).2 144 0 0) := cj_lp hM2 hD2 144 am_big 0 0 (by omega) (by decide)
          have hfa : foA (0, (rw1 g n y p dr).2) = cjS (rw1 g n y p dr).2 144 0 0 := if_neg (show ¬ ((0 : Int) < 0) by decide)
          rw [hcj, ob_s, hfa]
          refine ⟨_, rfl, fun _ => hM2, fun h => by dsimp only at h; omega, fun i h3 h4 => by rw [cp_o h4, a3 i h3]⟩
        · rw [if_neg q2, if_neg q2]
          unfold P_faultAt
          rw [ob_s]
          refine ⟨N1, ?_, fun h => by dsimp only at h; omega, fun _ => a3 2 (by decide), fun i h3 _ => a3 i h3⟩
          unfold foA
          dsimp only
          rw [if_pos (by omega)]
          congr 2
      | succ k =>
        rw [c_ge_p (by omega) (by omega), if_neg (by omega), c_le_p (by omega) (by omega), if_neg (by omega), Tape_at_eq hG1 h14' (by omega) (by omega) (by omega), ob_s, c_eq_p (by omega) (by omega)]
        unfold foS
        rw [if_neg q1]
        by_cases q2 : taS g n (rw1 g n y p dr).1 = 47
        · have h3 := ta_n (g := g) (n := n) (p := (rw1 g n y p dr).1) (by omega) (by omega)
          rw [if_pos q2, if_pos q2]
          obtain ⟨N2, c1, c2, c3, c4⟩ := cf_33 hg hn k f (y + 1) ((rw1 g n y p dr).1 + 1) (rw1 g n y p dr).2 N1 (by omega) (by omega) (by omega) (by omega) hG1 h14' (by rw [show 12 * (y + 1) = 12 * y + 12 by omega]; exact h2) (by rw [show 12 * (y + 1) = 12 * y + 12 by omega]; exact e2)
          exact ⟨N2, c1, c2, fun h => by rw [c3 h, a3 2 (by decide)], fun i h4 h5 => by rw [c4 i h4 h5, a3 i h4]⟩
        · rw [if_neg q2, if_neg q2]
          unfold P_faultAt
          rw [ob_s]
          refine ⟨N1, ?_, fun h => by dsimp only at h; omega, fun _ => a3 2 (by decide), fun i h3 _ => a3 i h3⟩
          unfold foA
          dsimp only
          rw [if_pos (by omega)]
          congr 2
