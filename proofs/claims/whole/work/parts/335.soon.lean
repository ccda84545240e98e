-- soonest
def En (g : am_M) (x y : Nat) : Prop := aj x y ∧ g 2 x ≠ 3
def Em (g : am_M) (x y : Nat) : Prop := aj x y ∧ g 2 x ≠ 3 ∧ g 2 y ≠ 3
theorem En_b (g : am_M) : ∀ x y, En g x y → x < 144 ∧ y < 144 := fun _ _ h => ⟨h.1.1, h.1.2.1⟩
theorem Em_b (g : am_M) : ∀ x y, Em g x y → x < 144 ∧ y < 144 := fun _ _ h => ⟨h.1.1, h.1.2.1⟩
def ctN (F : FT) (g t : am_M) (x : Nat) : Nat := (cuS F g t (g 2 x) (g 0 1)).toNat
def wB (F : FT) (g t : am_M) (B : Nat) (x : Nat) : Nat := B * ctN F g t x + 1
theorem ctN_b {F : FT} (hF : FO F) (g t : am_M) (x : Nat) : ctN F g t x ≤ 240 := by
  have : 0 ≤ cuS F g t (g 2 x) (g 0 1) ∧ cuS F g t (g 2 x) (g 0 1) ≤ 240 := hF.1 _ _ _ (by decide)
  unfold ctN
  omega
def cvS (g : am_M) (D : Nat → Int) (y : Nat) : Int := if D y < 1000000000 ∧ g 2 y ≠ 3 then 256 * (D y / 1000) + D y % 1000 else 1000000000
theorem cv_bd {F : FT} (hF : FO F) {g t : am_M} {s : Nat} {D : Nat → Int} (h : DI (En g) (wB F g t 1000) s D) {y : Nat} (hy : y < 144) (hf : D y < 1000000000) : 0 ≤ D y / 1000 ∧ D y / 1000 ≤ 34320 ∧ 0 ≤ D y % 1000 ∧ D y % 1000 ≤ 143 := by
  have b := h.2.1 y hy
  obtain ⟨a, c, e1, e2, e3⟩ := di_bd (K := 240) (B := 1000) (c := ctN F g t) (fun x => ⟨rfl, ctN_b hF g t x⟩) (En_b g) h.1 (fun y hy => (h.2.1 y hy).1) h.2.2.2 (D y).toNat y hy (by omega) hf
  have e4 := di_bd2 (v := D) hy
  omega
theorem cv_di {F : FT} (hF : FO F) {g t : am_M} {s : Nat} {D : Nat → Int} (hs : s < 144) (hg : g 2 s ≠ 3) (h : DI (En g) (wB F g t 1000) s D) : DI (Em g) (wB F g t 256) s (cvS g D) := by
  have bd := fun {y : Nat} (hy : y < 144) (hf : D y < 1000000000) => cv_bd hF h hy hf
  refine ⟨?_, fun y hy => ?_, fun x y hxy hx => ?_, fun y hy hys hf => ?_⟩
  · unfold cvS
    rw [h.1, if_pos ⟨by decide, hg⟩]
    rfl
  · unfold cvS
    split
    · rename_i q
      have := bd hy q.1
      omega
    · omega
  · obtain ⟨x1, y1⟩ := Em_b g x y hxy
    unfold cvS at hx ⊢
    by_cases q : D x < 1000000000 ∧ g 2 x ≠ 3
    · rw [if_pos q] at hx ⊢
      have b1 := bd x1 q.1
      have b2 := ctN_b hF g t x
      have h1 := h.2.2.1 x y ⟨hxy.1, hxy.2.1⟩ q.1
      unfold wB at h1 ⊢
      have h2 : D y < 1000000000 := by omega
      have b3 := bd y1 h2
      rw [if_pos ⟨h2, hxy.2.2⟩]
      omega
    · rw [if_neg q] at hx
      omega
  · unfold cvS at hf
    by_cases q : D y < 1000000000 ∧ g 2 y ≠ 3
    · obtain ⟨x, e1, e2, e3⟩ := h.2.2.2 y hy hys q.1
      obtain ⟨x1, y1⟩ := En_b g x y e1
      have b1 := bd x1 (by omega)
      have b2 := ctN_b hF g t x
      have b3 := bd y1 q.1
      have ex : cvS g D x = 256 * (D x / 1000) + D x % 1000 := if_pos ⟨by omega, e1.2⟩
      have ey : cvS g D y = 256 * (D y / 1000) + D y % 1000 := if_pos q
      refine ⟨x, ⟨e1.1, e1.2, q.2⟩, ?_, ?_⟩
      · rw [ex, ey]
        unfold wB at e3
        omega
      · rw [ex, ey]
        unfold wB at e3 ⊢
        omega
    · rw [if_neg q] at hf
      omega
/-- the nearest are settled -/
def seB (S : Nat → Int) : Nat → Bool := fun y => decide (S y = 1)
def DJ (F : FT) (g t : am_M) (s : Nat) (v S : Nat → Int) (r : Nat) : Prop := (v s = 0 ∧ cn (seB S) 144 = r) ∧ (∀ y : Nat, y < 144 → (S y = 0 ∨ S y = 1) ∧ 0 ≤ v y ∧ v y ≤ 1000000000) ∧ (∀ y : Nat, y < 144 → v y < 1000000000 → g 2 y ≠ 3 ∧ v y ≤ 61441 * r) ∧ (∀ x : Nat, x < 144 → S x = 1 → v x < 1000000000 ∧ ∀ y, Em g x y → v y ≤ v x + wB F g t 256 x) ∧ (∀ x y : Nat, x < 144 → y < 144 → S x = 1 → S y = 0 → v x ≤ v y) ∧ (∀ y : Nat, y < 144 → y ≠ s → v y < 1000000000 → ∃ x, Em g x y ∧ S x = 1 ∧ v x < v y ∧ v y = v x + wB F g t 256 x)
theorem dj_st {F : FT} (hF : FO F) {g t : am_M} {s c r : Nat} {v v0 S : Nat → Int} (h : DJ F g t s v0 S r) (hs : s < 144) (hr : r ≤ 144) (hc : c < 144) (hSc : S c = 0) (hvc : v0 c < 1000000000) (hm : ∀ y : Nat, y < 144 → S y = 0 → v0 c ≤ v0 y) (h1 : ∀ y : Nat, y < 144 → v y = v0 y ∨ (v y = v0 c + wB F g t 256 c ∧ v0 c + wB F g t 256 c < v0 y ∧ Em g c y)) (h2 : ∀ y, Em g c y → v y ≤ v0 c + wB F g t 256 c) : DJ F g t s v (upf S c 1) (r + 1) := by
  obtain ⟨⟨a1, a2⟩, b, d, e, f, k⟩ := h
  have hw : wB F g t 256 c ≤ 61441 ∧ 1 ≤ wB F g t 256 c := by
    have := ctN_b hF g t c
    unfold wB
    omega
  have bc := d c hc hvc
  have bvc := (b c hc).2
  have hle : ∀ y : Nat, y < 144 → v y ≤ v0 y := fun y hy => by rcases h1 y hy with q | q <;> omega
  have hvc' : v c = v0 c := by
    rcases h1 c hc with q | q
    · exact q
    · omega
  have hS : ∀ x : Nat, x < 144 → S x = 1 → v x = v0 x ∧ x ≠ c := by
    intro x hx hSx
    refine ⟨?_, fun z => by rw [z] at hSx; omega⟩
    rcases h1 x hx with q | q
    · exact q
    · have := f x c hx hc hSx hSc
      omega
  have hS' : ∀ x : Nat, x < 144 → upf S c 1 x = 1 → x = c ∨ S x = 1 := by
    intro x hx hq
    by_cases q : x = c
    · exact Or.inl q
    · rw [upf_n q] at hq
      exact Or.inr hq
  refine ⟨⟨?_, ?_⟩, fun y hy => ?_, fun y hy hf => ?_, fun x hx hSx => ?_, fun x y hx hy hSx hSy => ?_, fun y hy hys hf => ?_⟩
  · rcases h1 s hs with q | q
    · omega
    · omega
  · have := cn_up (p := seB S) (q := seB (upf S c 1)) 144 c hc (by unfold seB; simp [hSc]) (by unfold seB; rw [upf_e]; simp) (fun j hj => by unfold seB; rw [upf_n hj])
    omega
  · refine ⟨?_, ?_⟩
    · by_cases q : y = c
      · rw [q, upf_e]
        exact Or.inr rfl
      · rw [upf_n q]
        exact (b y hy).1
    · have := b y hy
      rcases h1 y hy with q | q <;> omega
  · rcases h1 y hy with q | q
    · have := d y hy (by omega)
      exact ⟨this.1, by omega⟩
    · exact ⟨q.2.2.2.2, by omega⟩
  · rcases hS' x hx hSx with q | q
    · subst q
      exact ⟨by omega, fun y hy => by rw [hvc']; exact h2 y hy⟩
    · obtain ⟨e1, e2⟩ := e x hx q
      have e3 := (hS x hx q).1
      refine ⟨by omega, fun y hy => ?_⟩
      have := e2 y hy
      have := hle y (Em_b g x y hy).2
      omega
  · have hyc : y ≠ c := fun z => by rw [z, upf_e] at hSy; omega
    rw [upf_n hyc] at hSy
    have hx0 : v x ≤ v0 c := by
      rcases hS' x hx hSx with q | q
      · rw [q]
        omega
      · have := f x c hx hc q hSc
        have := (hS x hx q).1
        omega
    have := hm y hy hSy
    rcases h1 y hy with q | q <;> omega
  · rcases h1 y hy with q | q
    · obtain ⟨x, x1, x2, x3, x4⟩ := k y hy hys (by omega)
      have hx := (Em_b g x y x1).1
      have e3 := hS x hx x2
      exact ⟨x, x1, by rw [upf_n e3.2]; exact x2, by omega, by omega⟩
    · exact ⟨c, q.2.2, upf_e, by omega, by omega⟩
theorem dj_en {F : FT} {g t : am_M} {s r : Nat} {v S : Nat → Int} (h : DJ F g t s v S r) (he : ∀ y : Nat, y < 144 → S y = 0 → v y = 1000000000) : DI (Em g) (wB F g t 256) s v := by
  obtain ⟨⟨a1, a2⟩, b, d, e, f, k⟩ := h
  refine ⟨a1, fun y hy => (b y hy).2, fun x y hxy hx => ?_, fun y hy hys hf => ?_⟩
  · have hx1 := (Em_b g x y hxy).1
    rcases (b x hx1).1 with q | q
    · have := he x hx1 q
      omega
    · exact (e x hx1 q).2 y hxy
  · obtain ⟨x, x1, x2, x3, x4⟩ := k y hy hys hf
    exact ⟨x, x1, x3, x4⟩
theorem no_lp {M : am_M} (hb : ∀ y : Nat, y < 144 → (M 54 y = 0 ∨ M 54 y = 1) ∧ 0 ≤ M 53 y ∧ M 53 y ≤ 1000000000) : ∀ (k n : Nat) (b l x : Int), x + k = 144 → 0 ≤ x → k < n → ((b = -1 ∧ l = 1000000000 ∧ ∀ y : Nat, (y : Int) < x → M 54 y = 0 → M 53 y = 1000000000) ∨ ((0 ≤ b ∧ b < 144) ∧ M 54 b.toNat = 0 ∧ M 53 b.toNat = l ∧ l < 1000000000 ∧ ∀ y : Nat, (y : Int) < x → M 54 y = 0 → l ≤ M 53 y)) → ∃ b', Routes_nearestOpen_52_7 n b l x M = some b' ∧ ((b' = -1 ∧ ∀ y : Nat, y < 144 → M 54 y = 0 → M 53 y = 1000000000) ∨ ((0 ≤ b' ∧ b' < 144) ∧ M 54 b'.toNat = 0 ∧ M 53 b'.toNat < 1000000000 ∧ ∀ y : Nat, y < 144 → M 54 y = 0 → M 53 b'.toNat ≤ M 53 y))
  | 0, n + 1, b, l, x, e, h0, hn, hI => by
    refine ⟨b, ?_, ?_⟩
    · unfold Routes_nearestOpen_52_7
      rw [c_ge_p (by omega) (by omega), if_pos (by omega)]
    · rcases hI with ⟨q1, q2, q3⟩ | ⟨q1, q2, q3, q4, q5⟩
      · exact Or.inl ⟨q1, fun y hy => q3 y (by omega)⟩
      · exact Or.inr ⟨q1, q2, by omega, fun y hy hz => by rw [q3]; exact q5 y (by omega) hz⟩
  | k + 1, n + 1, b, l, x, e, h0, hn, hI => by
    have hx := hb x.toNat (by omega)
    have hl : 0 ≤ l ∧ l ≤ 1000000000 := by
      rcases hI with ⟨q1, q2, q3⟩ | ⟨q1, q2, q3, q4, q5⟩
      · omega
      · have := hb b.toNat (by omega)
        omega
    unfold Routes_nearestOpen_52_7 Routes_nearestOpen_52_42
    rw [c_ge_p (by omega) (by omega), if_neg (by omega), rd_p (by omega), c_ne_p (by omega) (by omega)]
    have sk : (M 54 x.toNat = 0 → l ≤ M 53 x.toNat) → ∃ b', Routes_nearestOpen_52_7 n b l (x + 1) M = some b' ∧ ((b' = -1 ∧ ∀ y : Nat, y < 144 → M 54 y = 0 → M 53 y = 1000000000) ∨ ((0 ≤ b' ∧ b' < 144) ∧ M 54 b'.toNat = 0 ∧ M 53 b'.toNat < 1000000000 ∧ ∀ y : Nat, y < 144 → M 54 y = 0 → M 53 b'.toNat ≤ M 53 y)) := by
      intro hs
      refine no_lp hb k n b l (x + 1) (by omega) (by omega) (by omega) ?_
      rcases hI with ⟨q1, q2, q3⟩ | ⟨q1, q2, q3, q4, q5⟩
      · refine Or.inl ⟨q1, q2, fun y hy hz => ?_⟩
        by_cases q : (y : Int) < x
        · exact q3 y q hz
        · rw [show y = x.toNat by omega] at hz ⊢
          have := hs hz
          omega
      · refine Or.inr ⟨q1, q2, q3, q4, fun y hy hz => ?_⟩
        by_cases q : (y : Int) < x
        · exact q5 y q hz
        · rw [show y = x.toNat by omega] at hz ⊢
          exact hs hz
    by_cases c1 : M 54 x.toNat = 0
    · rw [if_neg (fun h => h c1), rd_p (by omega), c_ge_p (by omega) (by omega)]
      by_cases c2 : l ≤ M 53 x.toNat
      · rw [if_pos c2]
        exact sk (fun _ => c2)
      · rw [if_neg c2, rd_p (by omega)]
        refine no_lp hb k n x (M 53 x.toNat) (x + 1) (by omega) (by omega) (by omega) (Or.inr ⟨by omega, c1, rfl, by omega, fun y hy hz => ?_⟩)
        by_cases q : (y : Int) < x
        · rcases hI with ⟨q1, q2, q3⟩ | ⟨q1, q2, q3, q4, q5⟩
          · have := q3 y q hz
            omega
          · have := q5 y q hz
            omega
        · rw [show y = x.toNat by omega]
          omega
    · rw [if_pos c1]
      exact sk (fun h => absurd h c1)
theorem reachOf_eq {M : am_M} {c : Int} (hc : am_R c) : Routes_reachOf_52 c M = some (if 0 ≤ c ∧ c < 144 then M 53 c.toNat else 1000000000) := by
  unfold Routes_reachOf_52 Routes_reachOf_52_18
  rw [Country_isCell_eq hc, ob_s]
  by_cases q : 0 ≤ c ∧ c < 144
  · rw [if_pos q, c_eq_p (by decide) (by decide), if_neg (by decide), rd_p (by omega), if_pos q]
  · rw [if_neg q, c_eq_p (by decide) (by decide), if_pos (by decide), if_neg q]
theorem reachBy_eq {F : FT} {g t M : am_M} (hg : WG g) (hG : GP g M) (hb : ∀ y : Nat, y < 144 → 0 ≤ M 53 y ∧ M 53 y ≤ 1000000000) (hc : ∀ x : Nat, x < 144 → M 56 (g 2 x).toNat = wB F g t 256 x) {c : Int} (hc1 : -1 ≤ c ∧ c < 144) : Routes_reachBy_52 c M = some (if 0 ≤ c ∧ g 2 c.toNat ≠ 3 ∧ M 53 c.toNat ≠ 1000000000 then M 53 c.toNat + wB F g t 256 c.toNat else 1000000000) := by
  have hk := KI.of hg hG
  unfold Routes_reachBy_52 Routes_reachBy_52_40
  by_cases q : 0 ≤ c
  · have e2 := hG.2.2.1 c.toNat (by omega)
    have k2 := hg.2.2.1 c.toNat (by omega)
    have b2 := hb c.toNat (by omega)
    have hk1 : Country_kindAt_1 c M = some (g 2 c.toNat) := by rw [Country_kindAt_eq (by omega), if_pos ⟨q, hc1.2⟩, e2]
    have hb1 : Country_isBarred_1 c M = some (if g 2 c.toNat ≠ 3 then 0 else 1) := by
      rw [Country_isBarred_eq (by omega) hk, e2]
      by_cases q2 : g 2 c.toNat = 3
      · rw [if_neg (fun h => h.2.2 q2), if_neg (fun h => h q2)]
      · rw [if_pos ⟨q, hc1.2, q2⟩, if_pos q2]
    rw [hk1, ob_s, hb1, ob_s]
    by_cases q2 : g 2 c.toNat = 3
    · rw [if_neg (fun h => h q2), c_ne_p (by decide) (by decide), if_pos (by decide), if_neg (fun h => h.2.1 q2)]
    · rw [if_pos q2, c_ne_p (by decide) (by decide), if_neg (by decide), c_lt_p (by omega) (by omega), if_neg (by omega), c_ge_p (by omega) (by omega), if_neg (by omega), reachOf_eq (by omega), ob_s, if_pos ⟨q, hc1.2⟩, c_ne_p (by omega) (by omega)]
      by_cases q3 : M 53 c.toNat = 1000000000
      · rw [if_neg (fun h => h q3), if_neg (fun h => h.2.2 q3)]
      · rw [if_pos q3, ob_s, rd_p (by omega), hc c.toNat (by omega), if_pos ⟨q, q2, q3⟩]
  · rw [Country_kindAt_eq (by omega), ob_s, Country_isBarred_eq (by omega) hk, ob_s, if_neg (fun h => q h.1), c_ne_p (by decide) (by decide), if_pos (by decide), if_neg (fun h => q h.1)]
theorem st_23 {g M0 : am_M} {c by' : Int} (hg : WG g) (hc : 0 ≤ c ∧ c < 144) (hby : 0 ≤ by' ∧ by' < 1000000000) (hgc : g 2 c.toNat ≠ 3) : ∀ (k n : Nat) (w : Int) (M : am_M), w + k = 4 → 0 ≤ w → k < n → GP g M → (∀ y : Nat, y < 144 → 0 ≤ M 53 y ∧ M 53 y ≤ 1000000000) → (∀ y : Nat, y < 144 → M 53 y = M0 53 y ∨ (M 53 y = by' ∧ by' < M0 53 y ∧ Em g c.toNat y)) → pw g (M 53) c w by' → ∃ N, Routes_settle_52_23 n c by' w M = some N ∧ (∀ y : Nat, y < 144 → N 53 y = M0 53 y ∨ (N 53 y = by' ∧ by' < M0 53 y ∧ Em g c.toNat y)) ∧ (∀ y, Em g c.toNat y → N 53 y ≤ by') ∧ (∀ k, k ≠ 53 → N k = M k)
  | 0, n + 1, w, M, e, h0, hn, hG, hb, hI, hp => by
    refine ⟨M, ?_, hI, fun y hy => pw_4 hc.1 (by rw [show (4 : Int) = w by omega]; exact hp) y ⟨hy.1, hy.2.2⟩, fun _ _ => rfl⟩
    unfold Routes_settle_52_23
    rw [c_ge_p (by omega) (by omega), if_pos (by omega)]
  | k + 1, n + 1, w, M, e, h0, hn, hG, hb, hI, hp => by
    have hk := KI.of hg hG
    have hnb := nbS_b (c := c) (w := w) hc.1 hc.2
    have go : (0 ≤ nbS c w → g 2 (nbS c w).toNat ≠ 3 → M 53 (nbS c w).toNat ≤ by') → ∃ N, Routes_settle_52_23 n c by' (w + 1) M = some N ∧ (∀ y : Nat, y < 144 → N 53 y = M0 53 y ∨ (N 53 y = by' ∧ by' < M0 53 y ∧ Em g c.toNat y)) ∧ (∀ y, Em g c.toNat y → N 53 y ≤ by') ∧ (∀ k, k ≠ 53 → N k = M k) := fun h => st_23 hg hc hby hgc k n (w + 1) M (by omega) (by omega) (by omega) hG hb hI (fun w' a1 a2 a3 a4 => by
      by_cases q : w' = w
      · subst q
        exact h a3 a4
      · exact hp w' a1 (by omega) a3 a4)
    unfold Routes_settle_52_23 Routes_settle_52_74
    rw [c_ge_p (by omega) (by omega), if_neg (by omega), Country_neighbour_eq hc.1 hc.2 (by omega), ob_s, Country_isCell_eq (by omega), ob_s]
    by_cases c1 : 0 ≤ nbS c w
    · rw [if_pos ⟨c1, hnb.2⟩, c_eq_p (by decide) (by decide), if_neg (by decide), Country_isBarred_eq (by omega) hk, ob_s]
      have e2 := hG.2.2.1 (nbS c w).toNat (by omega)
      by_cases c2 : g 2 (nbS c w).toNat = 3
      · rw [if_neg (by rw [e2]; omega), c_ne_p (by decide) (by decide), if_pos (by decide)]
        exact go (fun _ h => absurd c2 h)
      · have b2 := hb (nbS c w).toNat (by omega)
        rw [if_pos ⟨c1, hnb.2, by rw [e2]; exact c2⟩, c_ne_p (by decide) (by decide), if_neg (by decide), rd_p (by omega), c_ge_p (by omega) (by omega)]
        by_cases c3 : M 53 (nbS c w).toNat ≤ by'
        · rw [if_pos c3]
          exact go (fun _ _ => c3)
        · rw [if_neg c3, wa_p (by omega)]
          have he : Em g c.toNat (nbS c w).toNat := by
            have e3 : ((c.toNat : Nat) : Int) = c := by omega
            have := aj_of (x := c.toNat) (w := w) (by omega) (by omega) (by rw [e3]; exact c1)
            rw [e3] at this
            exact ⟨this, hgc, c2⟩
          obtain ⟨N, a1, a2, a3, a4⟩ := st_23 (M0 := M0) hg hc hby hgc k n (w + 1) (am_up M 53 (nbS c w).toNat by') (by omega) (by omega) (by omega) (hG.ro (fun k h => upo (by omega))) (fun y hy => by
            by_cases q : y = (nbS c w).toNat
            · rw [q, upj]
              omega
            · rw [upx q]
              exact hb y hy) (fun y hy => by
            by_cases q : y = (nbS c w).toNat
            · subst q
              rw [upj]
              refine Or.inr ⟨rfl, ?_, he⟩
              rcases hI (nbS c w).toNat hy with z | z <;> omega
            · rw [upx q]
              exact hI y hy) (fun w' a1 a2 a3 a4 => by
            by_cases q : (nbS c w').toNat = (nbS c w).toNat
            · rw [q, upj]
              omega
            · rw [upx q]
              exact hp w' a1 (by
                rcases Int.lt_trichotomy w' w with z | z | z
                · exact z
                · exact absurd (by rw [z]) q
                · omega) a3 a4)
          exact ⟨N, a1, a2, a3, fun k h => by rw [a4 k h, upo h]⟩
    · rw [if_neg (by omega), c_eq_p (by decide) (by decide), if_pos (by decide)]
      exact go (fun h => absurd h c1)
theorem mt_47 {F : FT} {g t : am_M} {s : Nat} (hF : FO F) (hg : WG g) (hs : s < 144) : ∀ (k n : Nat) (r : Nat) (M : am_M), r + k = 144 → k < n → GP g M → (∀ x : Nat, x < 144 → M 56 (g 2 x).toNat = wB F g t 256 x) → DJ F g t s (M 53) (M 54) r → ∃ N, Routes_measureTo_52_47 n (r : Int) M = some N ∧ DI (Em g) (wB F g t 256) s (N 53) ∧ (∀ k, k ≠ 53 → k ≠ 54 → N k = M k)
  | 0, n + 1, r, M, e, hn, hG, hc, hD => by
    refine ⟨M, ?_, dj_en hD (fun y hy hz => ?_), fun _ _ _ => rfl⟩
    · unfold Routes_measureTo_52_47
      rw [c_ge_p (by omega) (by omega), if_pos (by omega)]
    · have := cn_ne (p := seB (M 54)) hy (by unfold seB; rw [hz]; decide)
      have := hD.1.2
      omega
  | k + 1, n + 1, r, M, e, hn, hG, hc, hD => by
    have hb : ∀ y : Nat, y < 144 → (M 54 y = 0 ∨ M 54 y = 1) ∧ 0 ≤ M 53 y ∧ M 53 y ≤ 1000000000 := hD.2.1
    obtain ⟨b, a1, a2⟩ := no_lp hb 144 am_big (-1) 1000000000 0 (by omega) (by omega) (by decide) (Or.inl ⟨rfl, rfl, fun y hy => by omega⟩)
    have a1' : Routes_nearestOpen_52 M = some b := a1
    have hbR : -1 ≤ b ∧ b < 144 := by rcases a2 with z | z <;> omega
    unfold Routes_measureTo_52_47
    rw [c_ge_p (by omega) (by omega), if_neg (by omega), a1', ob_s, c_ge_p (by omega) (by omega)]
    rcases a2 with ⟨q1, q2⟩ | ⟨q1, q2, q3, q4⟩
    · rw [if_neg (by omega)]
      exact ⟨M, rfl, dj_en hD q2, fun _ _ _ => rfl⟩
    · rw [if_pos q1.1]
      have hgb := hD.2.2.1 b.toNat (by omega) q3
      have hvb := (hb b.toNat (by omega)).2
      have hw : wB F g t 256 b.toNat ≤ 61441 ∧ 1 ≤ wB F g t 256 b.toNat := by
        have := ctN_b hF g t b.toNat
        unfold wB
        omega
      obtain ⟨Z, hZ⟩ : ∃ Z, Z = am_up M 54 b.toNat 1 := ⟨_, rfl⟩
      have z54 : Z 54 = upf (M 54) b.toNat 1 := by rw [hZ, up_f]
      have zo : ∀ k, k ≠ 54 → Z k = M k := fun k h => by rw [hZ, upo h]
      have hGZ : GP g Z := hG.ro (fun k h => zo k (by omega))
      have hbZ : ∀ y : Nat, y < 144 → 0 ≤ Z 53 y ∧ Z 53 y ≤ 1000000000 := fun y hy => by rw [zo 53 (by decide)]; exact (hb y hy).2
      have er := reachBy_eq (F := F) (t := t) hg hGZ hbZ (fun x hx => by rw [zo 56 (by decide)]; exact hc x hx) (c := b) hbR
      rw [zo 53 (by decide), if_pos ⟨q1.1, hgb.1, by omega⟩] at er
      obtain ⟨N1, b1, b2, b3, b4⟩ := st_23 (M0 := M) hg q1 (by' := M 53 b.toNat + wB F g t 256 b.toNat) (by omega) hgb.1 4 am_big 0 Z (by omega) (by omega) (by decide) hGZ hbZ (fun y hy => Or.inl (by rw [zo 53 (by decide)])) (fun w a b => by omega)
      have es : Routes_settle_52 b M = some N1 := by
        unfold Routes_settle_52
        rw [Country_isCell_eq (by omega), ob_s, if_pos q1, c_ne_p (by decide) (by decide), if_pos (by decide), wz_p (by omega), ← hZ, er, ob_s]
        exact b1
      have hD1 := dj_st (v := N1 53) hF hD hs (by omega) (c := b.toNat) (by omega) q2 q3 q4 b2 b3
      have n54 : N1 54 = upf (M 54) b.toNat 1 := by rw [b4 54 (by decide), z54]
      rw [es, ob_s]
      obtain ⟨N2, c1, c2, c3⟩ := mt_47 hF hg hs k n (r + 1) N1 (by omega) (by omega) (hGZ.ro (fun k h => b4 k (by omega))) (fun x hx => by rw [b4 56 (by decide), zo 56 (by decide)]; exact hc x hx) (by rw [n54]; exact hD1)
      refine ⟨N2, ?_, c2, fun k h1 h2 => by rw [c3 k h1 h2, b4 k h1, zo k h2]⟩
      rw [← c1]
      congr 1
theorem mt_11 {F : FT} {g t : am_M} {s : Int} (hF : FO F) (hg : WG g) (hs : 0 ≤ s ∧ s < 144) (hgs : g 2 s.toNat ≠ 3) : ∀ (k n : Nat) (i : Int) (M : am_M), i + k = 144 → 0 ≤ i → k < n → GP g M → (∀ x : Nat, x < 144 → M 56 (g 2 x).toNat = wB F g t 256 x) → (∀ j : Nat, j < 144 → M 53 j = 1000000000) → (∀ j : Nat, (j : Int) < i → M 54 j = 0) → ∃ N, Routes_measureTo_52_11 n s i M = some N ∧ DI (Em g) (wB F g t 256) s.toNat (N 53) ∧ (∀ k, k ≠ 53 → k ≠ 54 → N k = M k)
  | 0, n + 1, i, M, e, h0, hn, hG, hc, h53, h54 => by
    obtain ⟨Z, hZ⟩ : ∃ Z, Z = am_up M 53 s.toNat 0 := ⟨_, rfl⟩
    have zo : ∀ k, k ≠ 53 → Z k = M k := fun k h => by rw [hZ, upo h]
    have v0 : Z 53 s.toNat = 0 := by rw [hZ, upj]
    have vn : ∀ y : Nat, y < 144 → y ≠ s.toNat → Z 53 y = 1000000000 := fun y hy h => by rw [hZ, upx h]; exact h53 y hy
    have s0 : ∀ y : Nat, y < 144 → Z 54 y = 0 := fun y hy => by rw [zo 54 (by decide)]; exact h54 y (by omega)
    obtain ⟨N, a1, a2, a3⟩ := mt_47 (F := F) (t := t) (s := s.toNat) hF hg (by omega) 144 am_big 0 Z (by omega) (by decide) (hG.ro (fun k h => zo k (by omega))) (fun x hx => by rw [zo 56 (by decide)]; exact hc x hx) (by
      refine ⟨⟨v0, cn_0 144 (fun j hj => by unfold seB; rw [s0 j hj]; decide)⟩, fun y hy => ⟨Or.inl (s0 y hy), ?_⟩, fun y hy hf => ?_, fun x hx hq => by have := s0 x hx; omega, fun x y hx hy hq => by have := s0 x hx; omega, fun y hy hys hf => ?_⟩
      · by_cases q : y = s.toNat
        · rw [q, v0]
          omega
        · rw [vn y hy q]
          omega
      · by_cases q : y = s.toNat
        · rw [q, v0]
          exact ⟨hgs, by omega⟩
        · rw [vn y hy q] at hf
          omega
      · rw [vn y hy hys] at hf
        omega)
    refine ⟨N, ?_, a2, fun k h1 h2 => by rw [a3 k h1 h2, zo k h1]⟩
    unfold Routes_measureTo_52_11 Routes_measureTo_52_45
    rw [c_ge_p (by omega) (by omega), if_pos (by omega), Country_isCell_eq (by omega), ob_s, if_pos hs, c_eq_p (by decide) (by decide), if_neg (by decide), wa_p (by omega), ← hZ]
    exact a1
  | k + 1, n + 1, i, M, e, h0, hn, hG, hc, h53, h54 => by
    obtain ⟨N, a1, a2, a3⟩ := mt_11 (F := F) (t := t) hF hg hs hgs k n (i + 1) (am_up M 54 i.toNat 0) (by omega) (by omega) (by omega) (hG.ro (fun k h => upo (by omega))) (fun x hx => by rw [upo (by decide)]; exact hc x hx) (fun j hj => by rw [upo (by decide)]; exact h53 j hj) (fun j h => by
      by_cases q : j = i.toNat
      · rw [q, upj]
      · rw [upx q]
        exact h54 j (by omega))
    refine ⟨N, ?_, a2, fun k h1 h2 => by rw [a3 k h1 h2, upo h2]⟩
    unfold Routes_measureTo_52_11
    rw [c_ge_p (by omega) (by omega), if_neg (by omega), wz_p (by omega)]
    exact a1
theorem measureTo_eq {F : FT} {g t M : am_M} {s : Int} (hF : FO F) (hg : WG g) (hs : 0 ≤ s ∧ s < 144) (hgs : g 2 s.toNat ≠ 3) (hG : GP g M) (hc : ∀ x : Nat, x < 144 → M 56 (g 2 x).toNat = wB F g t 256 x) : ∃ N, Routes_measureTo_52 s M = some N ∧ DI (Em g) (wB F g t 256) s.toNat (N 53) ∧ (∀ k, k ≠ 53 → k ≠ 54 → N k = M k) := by
  obtain ⟨M1, a1, a2, a3⟩ := J_fill_53_eq (c := 1000000000) (M := M)
  obtain ⟨N, b1, b2, b3⟩ := mt_11 (F := F) (t := t) hF hg hs hgs 144 am_big 0 M1 (by omega) (by omega) (by decide) (hG.ro (fun k h => a2 k (by omega))) (fun x hx => by rw [a2 56 (by decide)]; exact hc x hx) a3 (fun j h => by omega)
  refine ⟨N, ?_, b2, fun k h1 h2 => by rw [b3 k h1 h2, a2 k h1]⟩
  unfold Routes_measureTo_52
  rw [a1, ob_s]
  exact b1
