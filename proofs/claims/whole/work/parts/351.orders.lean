-- orders read
abbrev SE : Type := Nat × Nat × Int
abbrev FR : Type := Int × Nat × (Nat → Int)
def rpS (ac : Nat → Int) (f s : Nat) : Nat → Int := fun j => if f ≤ j then ac (f + (j - f) % s) else ac j
def flS (ac : Nat → Int) (m : Nat) (v : Int) : Nat → Int := fun j => if m ≤ j then v else ac j
/-- a number of times, and where it goes on -/
def tmS (g : am_M) (n p : Int) : Nat := if 50 ≤ taS g n p ∧ taS g n p ≤ 57 then (taS g n p - 48).toNat else 1
def tpS (g : am_M) (n p : Int) : Int := if 50 ≤ taS g n p ∧ taS g n p ≤ 57 then p + 1 else p
theorem tmS_b (g : am_M) (n p : Int) : 1 ≤ tmS g n p ∧ tmS g n p ≤ 9 := by
  unfold tmS
  split <;> omega
theorem tpS_b {g : am_M} {n p : Int} (h : 0 ≤ p ∧ p ≤ n) : p ≤ tpS g n p ∧ tpS g n p ≤ n ∧ tpS g n p ≤ p + 1 := by
  unfold tpS
  split
  · have := ta_n (g := g) (n := n) (p := p) h.1 (by omega)
    omega
  · omega
abbrev KT : Type := Int → Nat → (Nat → Int) → List SE → Bool → FR
def fnB (g : am_M) (n : Int) (rec : KT) : KT := fun p m ac stk bg =>
  if n ≤ p then (if stk.length = 0 then 0 else -1000 - p, m, ac) else
  if taS g n p = 41 ∧ 0 < stk.length ∧ bg = true then (match stk with
    | [] => (0, m, ac)
    | e :: r => if 90 < e.1 + (m - e.1) * e.2.1 then (-6000 - e.2.2, m, ac) else rec (p + 1) (e.1 + (m - e.1) * e.2.1) (rpS ac e.1 (m - e.1)) r true) else
  if taS g n (tpS g n p) = 40 then (if stk.length = 2 then (-5000 - tpS g n p, m, ac) else rec (tpS g n p + 1) m ac ((m, tmS g n p, p) :: stk) false) else
  if acB (taS g n (tpS g n p)) then (if 90 < m + tmS g n p then (-6000 - p, m, ac) else rec (tpS g n p + 1) (m + tmS g n p) (flS ac m (taS g n (tpS g n p))) stk true) else
  (-1000 - tpS g n p, m, ac)
def fnS (g : am_M) (n : Int) : Nat → KT
  | 0 => fun _ m ac _ _ => (0, m, ac)
  | k + 1 => fnB g n (fnS g n k)
theorem fn_fu {g : am_M} {n : Int} : ∀ (k k' : Nat) (p : Int) (m : Nat) (ac : Nat → Int) (stk : List SE) (bg : Bool), 0 ≤ p → n < p + k → n < p + k' → p ≤ n → fnS g n k p m ac stk bg = fnS g n k' p m ac stk bg
  | 0, k', p, m, ac, stk, bg, h0, h1, h2, h3 => by omega
  | k + 1, 0, p, m, ac, stk, bg, h0, h1, h2, h3 => by omega
  | k + 1, k' + 1, p, m, ac, stk, bg, h0, h1, h2, h3 => by
    show fnB g n (fnS g n k) p m ac stk bg = fnB g n (fnS g n k') p m ac stk bg
    unfold fnB
    by_cases q1 : n ≤ p
    · rw [if_pos q1, if_pos q1]
    rw [if_neg q1, if_neg q1]
    by_cases q2 : taS g n p = 41 ∧ 0 < stk.length ∧ bg = true
    · rw [if_pos q2, if_pos q2]
      cases stk with
      | nil => rfl
      | cons e r =>
        dsimp only
        by_cases q3 : 90 < e.1 + (m - e.1) * e.2.1
        · rw [if_pos q3, if_pos q3]
        · rw [if_neg q3, if_neg q3]
          exact fn_fu k k' _ _ _ _ _ (by omega) (by omega) (by omega) (by omega)
    rw [if_neg q2, if_neg q2]
    have hb := tpS_b (g := g) (n := n) (p := p) (by omega)
    by_cases q3 : taS g n (tpS g n p) = 40
    · have hn := ta_n (g := g) (n := n) (p := tpS g n p) (by omega) (by omega)
      rw [if_pos q3, if_pos q3]
      by_cases q4 : stk.length = 2
      · rw [if_pos q4, if_pos q4]
      · rw [if_neg q4, if_neg q4]
        exact fn_fu k k' _ _ _ _ _ (by omega) (by omega) (by omega) (by omega)
    rw [if_neg q3, if_neg q3]
    by_cases q4 : acB (taS g n (tpS g n p))
    · have hn := ta_n (g := g) (n := n) (p := tpS g n p) (by omega) (by omega)
      rw [if_pos q4, if_pos q4]
      by_cases q5 : 90 < m + tmS g n p
      · rw [if_pos q5, if_pos q5]
      · rw [if_neg q5, if_neg q5]
        exact fn_fu k k' _ _ _ _ _ (by omega) (by omega) (by omega) (by omega)
    · rw [if_neg q4, if_neg q4]
def fin0 (g : am_M) (n : Int) : KT := fnS g n 1000
theorem fin0_e {g : am_M} {n p : Int} {m : Nat} {ac : Nat → Int} {stk : List SE} {bg : Bool} (hn : n ≤ 200) (h0 : 0 ≤ p) : fin0 g n p m ac stk bg = fnB g n (fin0 g n) p m ac stk bg := by
  show fnB g n (fnS g n 999) p m ac stk bg = fnB g n (fnS g n 1000) p m ac stk bg
  unfold fnB
  by_cases q1 : n ≤ p
  · rw [if_pos q1, if_pos q1]
  rw [if_neg q1, if_neg q1]
  by_cases q2 : taS g n p = 41 ∧ 0 < stk.length ∧ bg = true
  · rw [if_pos q2, if_pos q2]
    cases stk with
    | nil => rfl
    | cons e r =>
      dsimp only
      by_cases q3 : 90 < e.1 + (m - e.1) * e.2.1
      · rw [if_pos q3, if_pos q3]
      · rw [if_neg q3, if_neg q3]
        exact fn_fu 999 1000 _ _ _ _ _ (by omega) (by omega) (by omega) (by omega)
  rw [if_neg q2, if_neg q2]
  have hb := tpS_b (g := g) (n := n) (p := p) (by omega)
  by_cases q3 : taS g n (tpS g n p) = 40
  · have hn := ta_n (g := g) (n := n) (p := tpS g n p) (by omega) (by omega)
    rw [if_pos q3, if_pos q3]
    by_cases q4 : stk.length = 2
    · rw [if_pos q4, if_pos q4]
    · rw [if_neg q4, if_neg q4]
      exact fn_fu 999 1000 _ _ _ _ _ (by omega) (by omega) (by omega) (by omega)
  rw [if_neg q3, if_neg q3]
  by_cases q4 : acB (taS g n (tpS g n p))
  · have hn := ta_n (g := g) (n := n) (p := tpS g n p) (by omega) (by omega)
    rw [if_pos q4, if_pos q4]
    by_cases q5 : 90 < m + tmS g n p
    · rw [if_pos q5, if_pos q5]
    · rw [if_neg q5, if_neg q5]
      exact fn_fu 999 1000 _ _ _ _ _ (by omega) (by omega) (by omega) (by omega)
  · rw [if_neg q4, if_neg q4]
theorem fin_x : ∃ F : am_M → Int → KT, ∀ {g : am_M} {n p : Int} {m : Nat} {ac : Nat → Int} {stk : List SE} {bg : Bool}, n ≤ 200 → 0 ≤ p → F g n p m ac stk bg = fnB g n (F g n) p m ac stk bg := ⟨fin0, fun hn h0 => fin0_e hn h0⟩
noncomputable def fin : am_M → Int → KT := Classical.choose fin_x
theorem fin_e {g : am_M} {n p : Int} {m : Nat} {ac : Nat → Int} {stk : List SE} {bg : Bool} (hn : n ≤ 200) (h0 : 0 ≤ p) : fin g n p m ac stk bg = fnB g n (fin g n) p m ac stk bg := Classical.choose_spec fin_x hn h0
/-- what is gathered so far -/
def GA (m : Nat) (ac : Nat → Int) (stk : List SE) (bg : Bool) : Prop := m ≤ 90 ∧ (∀ j, j < m → acB (ac j)) ∧ ∀ e, e ∈ stk → e.1 ≤ m ∧ (bg = true → e.1 < m) ∧ (1 ≤ e.2.1 ∧ e.2.1 ≤ 9) ∧ (0 ≤ e.2.2 ∧ e.2.2 ≤ 200)
theorem ac_R {a : Int} (h : acB a) : 43 ≤ a ∧ a ≤ 120 := by omega
theorem GA.pu {m : Nat} {ac : Nat → Int} {stk : List SE} {bg : Bool} {ti : Nat} {p : Int} (h : GA m ac stk bg) (ht : 1 ≤ ti ∧ ti ≤ 9) (hp : 0 ≤ p ∧ p ≤ 200) : GA m ac ((m, ti, p) :: stk) false := by
  refine ⟨h.1, h.2.1, fun e he => ?_⟩
  rcases List.mem_cons.mp he with z | z
  · subst z
    exact ⟨Nat.le_refl _, fun w => (by cases w), ht, hp⟩
  · have := h.2.2 e z
    exact ⟨this.1, fun w => (by cases w), this.2.2⟩
theorem GA.fi {m : Nat} {ac : Nat → Int} {stk : List SE} {bg : Bool} {ti : Nat} {v : Int} (h : GA m ac stk bg) (ht : 1 ≤ ti) (hm : m + ti ≤ 90) (hv : acB v) : GA (m + ti) (flS ac m v) stk true := by
  refine ⟨hm, fun j hj => ?_, fun e he => ?_⟩
  · unfold flS
    split
    · exact hv
    · exact h.2.1 j (by omega)
  · have := h.2.2 e he
    exact ⟨by omega, fun _ => by omega, this.2.2⟩
theorem GA.po {m : Nat} {ac : Nat → Int} {e : SE} {stk : List SE} (h : GA m ac (e :: stk) true) (hm : e.1 + (m - e.1) * e.2.1 ≤ 90) : e.1 < m ∧ m ≤ e.1 + (m - e.1) * e.2.1 ∧ GA (e.1 + (m - e.1) * e.2.1) (rpS ac e.1 (m - e.1)) stk true := by
  have h1 := h.2.2 e List.mem_cons_self
  have h2 := h1.2.1 rfl
  have h3 : (m - e.1) * 1 ≤ (m - e.1) * e.2.1 := Nat.mul_le_mul_left _ h1.2.2.1.1
  refine ⟨h2, by omega, hm, fun j hj => ?_, fun x hx => ?_⟩
  · unfold rpS
    split
    · have := Nat.mod_lt (j - e.1) (show 0 < m - e.1 by omega)
      exact h.2.1 _ (by omega)
    · exact h.2.1 j (by omega)
  · have := h.2.2 x (List.mem_cons_of_mem _ hx)
    have := this.2.1 rfl
    exact ⟨by omega, fun _ => by omega, by have := h.2.2 x (List.mem_cons_of_mem _ hx); exact this.2.2⟩
-- the class
def CS (M : am_M) (p : Int) (m : Nat) (ac : Nat → Int) (bad : Int) : Prop := (M 50 5 = p ∧ M 50 3 = m ∧ M 50 6 = bad ∧ M 50 4 = 1) ∧ ∀ j : Nat, j < m → M 51 j = ac j
def CF (M N : am_M) : Prop := (∀ k, k ≠ 50 → k ≠ 51 → N k = M k) ∧ ∀ j, j ≠ 3 → j ≠ 5 → j ≠ 6 → N 50 j = M 50 j
theorem CF.rf {M : am_M} : CF M M := ⟨fun _ _ _ => rfl, fun _ _ _ _ => rfl⟩
theorem CF.tr {M N O : am_M} (a : CF M N) (b : CF N O) : CF M O := ⟨fun k h1 h2 => (b.1 k h1 h2).trans (a.1 k h1 h2), fun j h1 h2 h3 => (b.2 j h1 h2 h3).trans (a.2 j h1 h2 h3)⟩
theorem CF.up {M N : am_M} {k j : Nat} {v : Int} (a : CF M N) (h : k = 51 ∨ (k = 50 ∧ (j = 3 ∨ j = 5 ∨ j = 6))) : CF M (am_up N k j v) := by
  refine ⟨fun c h1 h2 => ?_, fun i h1 h2 h3 => ?_⟩
  · rw [upo (by omega)]
    exact a.1 c h1 h2
  · by_cases q : 50 = k
    · subst q
      rw [upx (by omega)]
      exact a.2 i h1 h2 h3
    · rw [upo q]
      exact a.2 i h1 h2 h3
theorem GP.cf {g M N : am_M} (h : GP g M) (e : CF M N) : GP g N := by
  unfold GP at h ⊢
  rw [e.1 0 (by decide) (by decide), e.1 1 (by decide) (by decide), e.1 2 (by decide) (by decide), e.1 4 (by decide) (by decide), e.1 5 (by decide) (by decide), e.1 14 (by decide) (by decide), e.1 15 (by decide) (by decide)]
  exact h
/-- the tape as it lies -/
def TX (g : am_M) (n : Int) (M : am_M) : Prop := GP g M ∧ M 14 2 = n
theorem TX.cf {g M N : am_M} {n : Int} (h : TX g n M) (e : CF M N) : TX g n N := ⟨h.1.cf e, by rw [e.1 14 (by decide) (by decide)]; exact h.2⟩
theorem here_0 {g M : am_M} {n p : Int} {m : Nat} {ac : Nat → Int} (hn : 0 ≤ n ∧ n ≤ 260) (hX : TX g n M) (hp : am_R p) (h : CS M p m ac 0) : Outing_here_50 M = some (taS g n p) := by
  unfold Outing_here_50 Outing_here_50_30
  rw [h.1.2.2.1, c_lt_p (by decide) (by decide), if_neg (by decide), ck_p (by rw [h.1.2.2.2]; decide), ck_p (by rw [h.1.2.2.2]; decide), h.1.1, Tape_at_eq hX.1 hX.2 hn.1 hn.2 hp, ob_s]
theorem here_b {M : am_M} {p bad : Int} {m : Nat} {ac : Nat → Int} (h : CS M p m ac bad) (hb : bad < 0) (hbR : am_R bad) : Outing_here_50 M = some (-2) := by
  unfold Outing_here_50 Outing_here_50_14 Outing_here_50_30
  rw [h.1.2.2.1, c_lt_p hbR (by decide), if_pos hb]
theorem fail_0 {M : am_M} {p f x : Int} {m : Nat} {ac : Nat → Int} (h : CS M p m ac 0) : ∃ N, Outing_fail_50 f x M = some N ∧ CS N p m ac (-1000 * f - x) ∧ CF M N := by
  refine ⟨am_up M 50 6 (-1000 * f - x), ?_, ⟨⟨?_, ?_, upj, ?_⟩, fun j hj => ?_⟩, CF.rf.up (by omega)⟩
  · unfold Outing_fail_50 Outing_fail_50_16 P_faultAt
    rw [h.1.2.2.1, c_ne_p (by decide) (by decide), if_neg (by decide), ob_s, fw_p]
  · rw [upx (by decide)]
    exact h.1.1
  · rw [upx (by decide)]
    exact h.1.2.1
  · rw [upx (by decide)]
    exact h.1.2.2.2
  · rw [upo (by decide)]
    exact h.2 j hj
theorem fail_b {M : am_M} {p f x bad : Int} {m : Nat} {ac : Nat → Int} (h : CS M p m ac bad) (hb : bad < 0) (hbR : am_R bad) : Outing_fail_50 f x M = some M := by
  unfold Outing_fail_50 Outing_fail_50_16
  rw [h.1.2.2.1, c_ne_p hbR (by decide), if_pos (by omega)]
theorem app_0 {M : am_M} {p a x : Int} {m : Nat} {ac : Nat → Int} (h : CS M p m ac 0) (hm : m < 90) : ∃ N, Outing_append_50 a x M = some N ∧ CS N p (m + 1) (fun j => if j = m then a else ac j) 0 ∧ CF M N := by
  refine ⟨am_up (am_up M 51 m a) 50 3 ((m : Int) + 1), ?_, ⟨⟨?_, ?_, ?_, ?_⟩, fun j hj => ?_⟩, (CF.rf.up (by omega)).up (by omega)⟩
  · unfold Outing_append_50 Outing_append_50_39
    rw [h.1.2.1, c_lt_p (by omega) (by decide), if_pos (by omega), wa_p (by omega), fw_p, show ((m : Int)).toNat = m by omega, upo (show (50 : Nat) ≠ 51 by decide), h.1.2.1]
  · rw [upx (by decide), upo (by decide)]
    exact h.1.1
  · rw [upj]
    omega
  · rw [upx (by decide), upo (by decide)]
    exact h.1.2.2.1
  · rw [upx (by decide), upo (by decide)]
    exact h.1.2.2.2
  · rw [upo (by decide)]
    by_cases z : j = m
    · rw [z, upj]
      simp
    · rw [upx z]
      show M 51 j = if j = m then a else ac j
      rw [if_neg z]
      exact h.2 j (by omega)
theorem CS.cg {M : am_M} {p bad : Int} {m : Nat} {ac ac' : Nat → Int} (h : CS M p m ac bad) (e : ∀ j, j < m → ac j = ac' j) : CS M p m ac' bad := ⟨h.1, fun j hj => by rw [h.2 j hj, e j hj]⟩
/-- what stands from a place on, again and again -/
theorem rep_29 {f s ti : Nat} {x p : Int} {ac : Nat → Int} (hs : 1 ≤ s) (ht : 1 ≤ ti) (hb : f + s * ti ≤ 90) : ∀ (k fu i : Nat) (M : am_M), i + k = s * (ti - 1) → k < fu → CS M p (f + s + i) (rpS ac f s) 0 → ∃ N, Outing_repeat_50_29 fu (f : Int) (ti : Int) x (s : Int) (i : Int) M = some N ∧ CS N p (f + s * ti) (rpS ac f s) 0 ∧ CF M N
  | 0, fu + 1, i, M, e, hf, hC => by
    have h1 : s * ti = s * (ti - 1) + s := by
      obtain ⟨t', rfl⟩ : ∃ t', ti = t' + 1 := ⟨ti - 1, by omega⟩
      rw [Nat.mul_add, Nat.mul_one]
      rfl
    have h2 : (s : Int) * ((ti : Int) - 1) = ((s * (ti - 1) : Nat) : Int) := by
      rw [Int.natCast_mul]
      congr 1
      omega
    refine ⟨M, ?_, ?_, CF.rf⟩
    · unfold Outing_repeat_50_29 Outing_repeat_50_82
      rw [h2, c_ge_p (by omega) (by omega), if_pos (by omega)]
    · rw [show f + s * ti = f + s + i by omega]
      exact hC
  | k + 1, fu + 1, i, M, e, hf, hC => by
    have h1 : s * ti = s * (ti - 1) + s := by
      obtain ⟨t', rfl⟩ : ∃ t', ti = t' + 1 := ⟨ti - 1, by omega⟩
      rw [Nat.mul_add, Nat.mul_one]
      rfl
    have h2 : (s : Int) * ((ti : Int) - 1) = ((s * (ti - 1) : Nat) : Int) := by
      rw [Int.natCast_mul]
      congr 1
      omega
    obtain ⟨N1, a1, a2, a3⟩ := app_0 (a := rpS ac f s (f + i)) (x := x) hC (by omega)
    have a2' : CS N1 p (f + s + (i + 1)) (rpS ac f s) 0 := by
      rw [show f + s + (i + 1) = f + s + i + 1 by omega]
      refine a2.cg (fun j hj => ?_)
      by_cases z : j = f + s + i
      · rw [if_pos z, z]
        unfold rpS
        rw [if_pos (by omega), if_pos (by omega), show f + s + i - f = s + i by omega, show f + i - f = i by omega, Nat.add_mod_left]
      · rw [if_neg z]
    obtain ⟨N2, b1, b2, b3⟩ := rep_29 hs ht hb k fu (i + 1) N1 (by omega) (by omega) a2'
    refine ⟨N2, ?_, b2, a3.tr b3⟩
    unfold Outing_repeat_50_29 Outing_repeat_50_82
    rw [h2, c_ge_p (by omega) (by omega), if_neg (by omega), c_lt_p (by omega) (by omega), if_neg (by omega), hC.1.2.1, c_ge_p (by omega) (by omega), if_neg (by omega), hC.1.2.2.1, c_ne_p (by decide) (by decide), if_neg (by decide), rd_p (by omega), show ((f : Int) + (i : Int)).toNat = f + i by omega, hC.2 (f + i) (by omega), a1, ob_s, ← b1]
    rfl
theorem rep_no {M : am_M} {fu : Nat} {x1 x2 x3 x4 p bad : Int} {m : Nat} {ac : Nat → Int} (h : CS M p m ac bad) (hb : bad < 0) (hbR : am_R bad) (h1 : 0 ≤ x1 ∧ x1 ≤ 90) (hm : m ≤ 90) (hx : am_R (x4 * (x2 - 1))) : Outing_repeat_50_29 (fu + 1) x1 x2 x3 x4 0 M = some M := by
  unfold Outing_repeat_50_29 Outing_repeat_50_82
  rw [c_ge_p (by decide) hx, c_lt_p (by omega) (by decide), h.1.2.1, c_ge_p (by omega) (by omega), h.1.2.2.1, c_ne_p hbR (by decide)]
  by_cases q1 : x4 * (x2 - 1) ≤ 0
  · rw [if_pos q1]
  rw [if_neg q1, if_neg (by omega)]
  by_cases q2 : (m : Int) ≤ x1 + 0
  · rw [if_pos q2]
  rw [if_neg q2, if_pos (by omega)]
theorem repeat_eq {M : am_M} {f m ti : Nat} {x p : Int} {ac : Nat → Int} (h : CS M p m ac 0) (hf : f < m) (hm : m ≤ 90) (ht : 1 ≤ ti ∧ ti ≤ 9) (hx : 0 ≤ x ∧ x ≤ 200) : ∃ N, Outing_repeat_50 (f : Int) (ti : Int) x M = some N ∧ CF M N ∧ (90 < f + (m - f) * ti → CS N p m ac (-6000 - x)) ∧ (f + (m - f) * ti ≤ 90 → CS N p (f + (m - f) * ti) (rpS ac f (m - f)) 0) := by
  have hmul : (((m : Int)) - (f : Int)) * (ti : Int) = (((m - f) * ti : Nat) : Int) := by
    rw [Int.natCast_mul]
    congr 1
    omega
  have hmb : (m - f) * ti ≤ 90 * 9 := Nat.mul_le_mul (by omega) ht.2
  unfold Outing_repeat_50 Outing_repeat_50_26
  rw [h.1.2.1, hmul, c_le_p (by omega) (by decide), show (m : Int) - (f : Int) = ((m - f : Nat) : Int) by omega]
  by_cases q : f + (m - f) * ti ≤ 90
  · rw [if_pos (by omega)]
    have h1 : (m - f) * (ti - 1) ≤ (m - f) * ti := Nat.mul_le_mul_left _ (by omega)
    obtain ⟨N, a1, a2, a3⟩ := rep_29 (f := f) (s := m - f) (ti := ti) (x := x) (p := p) (ac := ac) (by omega) ht.1 q ((m - f) * (ti - 1)) am_big 0 M (by omega) (by show _ < 1000000; omega) (by
      rw [show f + (m - f) + 0 = m by omega]
      refine h.cg (fun j hj => ?_)
      unfold rpS
      split
      · rw [Nat.mod_eq_of_lt (by omega)]
        congr 1
        omega
      · rfl)
    exact ⟨N, a1, a3, fun z => by omega, fun _ => a2⟩
  · rw [if_neg (by omega)]
    obtain ⟨N, a1, a2, a3⟩ := fail_0 (f := 6) (x := x) h
    rw [a1, ob_s]
    rw [show -1000 * 6 - x = -6000 - x by omega] at a2
    have h2 : (((m - f : Nat) : Int)) * ((ti : Int) - 1) = (((m - f) * (ti - 1) : Nat) : Int) := by
      rw [Int.natCast_mul]
      congr 1
      omega
    have h1 : (m - f) * (ti - 1) ≤ 90 * 9 := Nat.mul_le_mul (by omega) (by omega)
    exact ⟨N, rep_no a2 (by omega) (by omega) (by omega) hm (by rw [h2]; omega), a3, fun _ => a2, fun z => absurd z q⟩
theorem isAct_eq {a : Int} {M : am_M} (h : am_R a) : Outing_isAct a M = some (if acB a then 1 else 0) := by
  unfold Outing_isAct Outing_isAct_37 Outing_isAct_42
  rw [wayOf_eq h, ob_s, ck_p (by decide), ck_p (by decide)]
  have hw := wy_b (a := a)
  have hw2 : 0 ≤ wyS a ↔ (a = 101 ∨ a = 110 ∨ a = 115 ∨ a = 119) := by
    unfold wyS
    repeat' split
    all_goals omega
  rw [c_ge_p (by omega) (by decide), c_eq_p h (by decide), c_eq_p h (by decide), c_eq_p h (by decide), c_eq_p h (by decide), c_ne_p h (by decide)]
  by_cases q0 : 0 ≤ wyS a
  · rw [if_pos q0, if_pos (by have := hw2.mp q0; omega)]
  rw [if_neg q0]
  have q0' : ¬ (a = 101 ∨ a = 110 ∨ a = 115 ∨ a = 119) := fun z => q0 (hw2.mpr z)
  by_cases q1 : a = 46
  · rw [if_pos q1, if_pos (by omega)]
  rw [if_neg q1]
  by_cases q2 : a = 43
  · rw [if_pos q2, if_pos (by omega)]
  rw [if_neg q2]
  by_cases q3 : a = 111
  · rw [if_pos q3, if_pos (by omega)]
  rw [if_neg q3]
  by_cases q4 : a = 98
  · rw [if_pos q4, if_pos (by omega)]
  rw [if_neg q4]
  by_cases q5 : a = 120
  · rw [if_neg (fun h => h q5), if_pos (by omega)]
  · rw [if_pos q5, if_neg (by omega)]
/-- behind an act of the class: the same end -/
def AE (g : am_M) (n p : Int) (m : Nat) (ac : Nat → Int) (stk : List SE) (bg : Bool) (N : am_M) : Prop := ∃ (p' : Int) (m' : Nat) (ac' : Nat → Int) (bad : Int), CS N p' m' ac' bad ∧ m' ≤ 90 ∧ ((bad < 0 ∧ -7000 ≤ bad ∧ (fin g n p m ac stk bg).1 = bad) ∨ (bad = 0 ∧ p < p' ∧ p' ≤ n ∧ GA m' ac' stk true ∧ fin g n p m ac stk bg = fin g n p' m' ac' stk true))
def ActOK (g : am_M) (n : Int) (d f : Nat) : Prop := ∀ (p : Int) (m : Nat) (ac : Nat → Int) (stk : List SE) (bg : Bool) (M : am_M), stk.length = d → 0 ≤ p ∧ p ≤ n → (bg = false ∨ taS g n p ≠ 41) → (p < n ∨ stk.length ≠ 0) → GA m ac stk bg → TX g n M → CS M p m ac 0 → ∃ N, K_Outing_readRow_R f 1 (d : Int) 0 0 M = some N ∧ CF M N ∧ AE g n p m ac stk bg N
def RowOK (g : am_M) (n : Int) (d f : Nat) : Prop := ∀ (p : Int) (m : Nat) (ac : Nat → Int) (stk : List SE) (M : am_M), stk.length = d → 0 ≤ p ∧ p ≤ n → (p < n ∨ stk.length ≠ 0) → GA m ac stk false → TX g n M → CS M p m ac 0 → ∃ N, K_Outing_readRow_R f 0 (d : Int) 0 0 M = some N ∧ CF M N ∧ ∃ (p' : Int) (m' : Nat) (ac' : Nat → Int) (bad : Int), CS N p' m' ac' bad ∧ m' ≤ 90 ∧ ((bad < 0 ∧ -7000 ≤ bad ∧ (fin g n p m ac stk false).1 = bad) ∨ (bad = 0 ∧ p < p' ∧ p' ≤ n ∧ (n ≤ p' ∨ taS g n p' = 41) ∧ GA m' ac' stk true ∧ fin g n p m ac stk false = fin g n p' m' ac' stk true))
theorem ta_e {g : am_M} {n p : Int} (hg : WG g) (hn : n ≤ 260) (h0 : 0 ≤ p) : taS g n p = -1 ↔ n ≤ p := by
  unfold taS
  split
  · have := hg.2.1 p.toNat (by omega)
    omega
  · omega
theorem CS.p {M : am_M} {p q bad : Int} {m : Nat} {ac : Nat → Int} (h : CS M p m ac bad) : CS (am_up M 50 5 q) q m ac bad := ⟨⟨upj, by rw [upx (by decide)]; exact h.1.2.1, by rw [upx (by decide)]; exact h.1.2.2.1, by rw [upx (by decide)]; exact h.1.2.2.2⟩, fun j hj => by rw [upo (by decide)]; exact h.2 j hj⟩
theorem K_grp {f : Nat} {a b c : Int} {M : am_M} : K_Outing_readRow_R (f + 1) 2 a b c M = Outing_readGroup_50 (fun b0 M => K_Outing_readRow_R f 0 b0 0 0 M) a b c M := rfl
/-- an act, behind its number -/
theorem act_43 {g : am_M} {n : Int} {d f : Nat} (hg : WG g) (hn : 1 ≤ n ∧ n ≤ 80) (hd : d ≤ 2) (hR : d < 2 → RowOK g n (d + 1) f) {p : Int} {m : Nat} {ac : Nat → Int} {stk : List SE} {bg : Bool} {M : am_M} (hl : stk.length = d) (hp : 0 ≤ p ∧ p < n) (hbg : bg = false ∨ taS g n p ≠ 41) (hGA : GA m ac stk bg) (hX : TX g n M) (hC : CS M (tpS g n p) m ac 0) : ∃ N, Outing_readAct_50_43 (fun b0 b1 b2 M => K_Outing_readRow_R (f + 1) 2 b0 b1 b2 M) (d : Int) p (tmS g n p : Int) M = some N ∧ CF M N ∧ AE g n p m ac stk bg N := by
  have hb := tpS_b (g := g) (n := n) (p := p) (by omega)
  have htm := tmS_b g n p
  have htb := taS_b hg (n := n) (by omega) (tpS g n p)
  have hfe := fin_e (g := g) (n := n) (p := p) (m := m) (ac := ac) (stk := stk) (bg := bg) (by omega) (by omega)
  have h2 : ¬ (taS g n p = 41 ∧ 0 < stk.length ∧ bg = true) := fun z => by
    rcases hbg with w | w
    · rw [w] at z
      cases z.2.2
    · exact w z.1
  unfold fnB at hfe
  rw [if_neg (by omega), if_neg h2] at hfe
  unfold Outing_readAct_50_43 Outing_readAct_50_117
  rw [here_0 (by omega) hX (by omega) hC, ob_s, c_ne_p (by omega) (by decide)]
  by_cases q1 : taS g n (tpS g n p) = 40
  · have hn1 := ta_n (g := g) (n := n) (p := tpS g n p) (by omega) (by omega)
    rw [if_pos q1] at hfe
    rw [if_neg (fun h => h q1)]
    dsimp only
    rw [K_grp]
    unfold Outing_readGroup_50 Outing_readGroup_50_77
    rw [c_lt_p (by omega) (by decide)]
    by_cases q2 : d < 2
    · rw [if_neg (by omega)] at hfe
      rw [if_pos (by omega), hC.1.1, fw_p]
      have f1 : CF M (am_up M 50 5 (tpS g n p + 1)) := CF.rf.up (by omega)
      have hC1 := hC.p (q := tpS g n p + 1)
      obtain ⟨N, a1, a2, p', m', ac', bad, b1, b2, b3⟩ := hR q2 (tpS g n p + 1) m ac ((m, tmS g n p, p) :: stk) (am_up M 50 5 (tpS g n p + 1)) (by rw [List.length_cons]; omega) (by omega) (Or.inr (by rw [List.length_cons]; omega)) (hGA.pu htm (by omega)) (hX.cf f1) hC1
      rw [show ((d : Int)) + 1 = ((d + 1 : Nat) : Int) by omega]
      dsimp only
      rw [a1, ob_s]
      have f2 := f1.tr a2
      rcases b3 with ⟨z1, z2, z3⟩ | ⟨z1, z2, z3, z4, z5, z6⟩
      · rw [here_b b1 z1 (by omega), ob_s, c_ne_p (by decide) (by decide), if_pos (by decide), fail_b b1 z1 (by omega), ob_s, ob_s]
        exact ⟨N, rfl, f2, p', m', ac', bad, b1, b2, Or.inl ⟨z1, z2, by rw [hfe]; exact z3⟩⟩
      · subst z1
        have htb' := taS_b hg (n := n) (by omega) p'
        have hfe2 := fin_e (g := g) (n := n) (p := p') (m := m') (ac := ac') (stk := (m, tmS g n p, p) :: stk) (bg := true) (by omega) (by omega)
        unfold fnB at hfe2
        rw [here_0 (by omega) (hX.cf f2) (by omega) b1, ob_s, c_ne_p (by omega) (by decide)]
        by_cases q3 : taS g n p' = 41
        · have hn2 := ta_n (g := g) (n := n) (p := p') (by omega) (by omega)
          rw [if_neg (by omega), if_pos ⟨q3, by rw [List.length_cons]; omega, rfl⟩] at hfe2
          dsimp only at hfe2
          rw [if_neg (fun h => h q3), b1.1.1, fw_p, upx (show (3 : Nat) ≠ 5 by decide), hC.1.2.1]
          have hC2 := b1.p (q := p' + 1)
          have hfm := (z5.2.2 (m, tmS g n p, p) List.mem_cons_self)
          have hfl : m < m' := hfm.2.1 rfl
          obtain ⟨N2, c1, c2, c3, c4⟩ := repeat_eq (f := m) (ti := tmS g n p) (x := p) hC2 hfl b2 htm (by omega)
          rw [c1, ob_s, ob_s]
          have f3 := f2.tr ((CF.rf.up (M := N) (k := 50) (j := 5) (v := p' + 1) (by omega)).tr c2)
          by_cases q4 : 90 < m + (m' - m) * tmS g n p
          · rw [if_pos q4] at hfe2
            refine ⟨N2, rfl, f3, p' + 1, m', ac', -6000 - p, c3 q4, b2, Or.inl ⟨by omega, by omega, ?_⟩⟩
            rw [hfe, z6, hfe2]
          · rw [if_neg q4] at hfe2
            obtain ⟨w1, w2, w3⟩ := z5.po (show m + (m' - m) * tmS g n p ≤ 90 by omega)
            exact ⟨N2, rfl, f3, p' + 1, _, _, 0, c4 (by omega), by omega, Or.inr ⟨rfl, by omega, by omega, w3, by rw [hfe, z6, hfe2]⟩⟩
        · have hn2 : n ≤ p' := by
            rcases z4 with w | w
            · exact w
            · exact absurd w q3
          rw [if_pos hn2] at hfe2
          obtain ⟨N2, c1, c2, c3⟩ := fail_0 (f := 1) (x := p') b1
          rw [if_pos q3, b1.1.1, c1, ob_s, ob_s]
          refine ⟨N2, rfl, f2.tr c3, p', m', ac', -1000 * 1 - p', c2, b2, Or.inl ⟨by omega, by omega, ?_⟩⟩
          rw [hfe, z6, hfe2]
          dsimp only
          rw [if_neg (by rw [List.length_cons]; omega)]
          omega
    · rw [if_pos (by omega)] at hfe
      obtain ⟨N, a1, a2, a3⟩ := fail_0 (f := 5) (x := tpS g n p) hC
      rw [if_neg (by omega), hC.1.1, a1, ob_s, ob_s]
      exact ⟨N, rfl, a3, _, m, ac, _, a2, hGA.1, Or.inl ⟨by omega, by omega, by rw [hfe]; dsimp only; omega⟩⟩
  · rw [if_neg q1] at hfe
    rw [if_pos q1, isAct_eq (by omega), ob_s]
    by_cases q2 : acB (taS g n (tpS g n p))
    · have hn1 := ta_n (g := g) (n := n) (p := tpS g n p) (by omega) (by have := ac_R q2; omega)
      rw [if_pos q2] at hfe
      rw [if_pos q2, c_eq_p (by decide) (by decide), if_neg (by decide), hC.1.1, fw_p, upx (show (3 : Nat) ≠ 5 by decide), hC.1.2.1]
      have f1 : CF M (am_up M 50 5 (tpS g n p + 1)) := CF.rf.up (by omega)
      have hC1 := hC.p (q := tpS g n p + 1)
      have hm := hGA.1
      by_cases q3 : m < 90
      · obtain ⟨N1, a1, a2, a3⟩ := app_0 (a := taS g n (tpS g n p)) (x := p) hC1 q3
        obtain ⟨N2, c1, c2, c3, c4⟩ := repeat_eq (f := m) (ti := tmS g n p) (x := p) a2 (by omega) (by omega) htm (by omega)
        have f2 := (f1.tr a3).tr c2
        rw [a1, ob_s, c1, ob_s]
        rw [show m + 1 - m = 1 by omega, Nat.one_mul] at c3 c4
        by_cases q4 : 90 < m + tmS g n p
        · rw [if_pos q4] at hfe
          exact ⟨N2, rfl, f2, _, _, _, _, c3 q4, by omega, Or.inl ⟨by omega, by omega, by rw [hfe]⟩⟩
        · rw [if_neg q4] at hfe
          have hg2 := hGA.fi htm.1 (show m + tmS g n p ≤ 90 by omega) q2
          refine ⟨N2, rfl, f2, tpS g n p + 1, m + tmS g n p, flS ac m (taS g n (tpS g n p)), 0, (c4 (by omega)).cg (fun j hj => ?_), by omega, Or.inr ⟨rfl, by omega, by omega, hg2, hfe⟩⟩
          unfold rpS flS
          by_cases w : m ≤ j
          · rw [if_pos w, if_pos w, Nat.mod_one]
            show (if m + 0 = m then _ else _) = _
            rw [if_pos (by omega)]
          · rw [if_neg w, if_neg w]
            show (if j = m then _ else _) = _
            rw [if_neg (by omega)]
      · have hm90 : m = 90 := by omega
        rw [if_pos (by omega)] at hfe
        obtain ⟨N1, a1, a2, a3⟩ := fail_0 (f := 6) (x := p) hC1
        have e1 : Outing_append_50 (taS g n (tpS g n p)) p (am_up M 50 5 (tpS g n p + 1)) = some N1 := by
          unfold Outing_append_50 Outing_append_50_39
          rw [hC1.1.2.1, c_lt_p (by omega) (by decide), if_neg (by omega), a1, ob_s]
        rw [e1, ob_s]
        have e2 : Outing_repeat_50 (m : Int) (tmS g n p : Int) p N1 = some N1 := by
          unfold Outing_repeat_50 Outing_repeat_50_26
          rw [a2.1.2.1, show (m : Int) - (m : Int) = 0 by omega, Int.zero_mul, c_le_p (by omega) (by decide), if_pos (by omega)]
          exact rep_no a2 (by omega) (by omega) (by omega) (by omega) (by rw [Int.zero_mul]; decide)
        rw [e2, ob_s]
        exact ⟨N1, rfl, f1.tr a3, _, _, _, _, a2, by omega, Or.inl ⟨by omega, by omega, by rw [hfe]; dsimp only; omega⟩⟩
    · rw [if_neg q2] at hfe
      obtain ⟨N, a1, a2, a3⟩ := fail_0 (f := 1) (x := tpS g n p) hC
      rw [if_neg q2, c_eq_p (by decide) (by decide), if_pos (by decide), hC.1.1, a1, ob_s]
      exact ⟨N, rfl, a3, _, m, ac, _, a2, hGA.1, Or.inl ⟨by omega, by omega, by rw [hfe]; dsimp only; omega⟩⟩
