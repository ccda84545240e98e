-- blazes: the fewest days, theory
def sdN (S o : Nat) : Nat := S &&& (S ^^^ o)
theorem sdN_t (S o j : Nat) : (sdN S o).testBit j = (S.testBit j && !o.testBit j) := by
  unfold sdN
  rw [Nat.testBit_and, Nat.testBit_xor]
  cases S.testBit j <;> cases o.testBit j <;> rfl
theorem sdN_le (S o : Nat) : sdN S o ≤ S := Nat.and_le_left
theorem sdN_cm (S a b : Nat) : sdN (sdN S a) b = sdN (sdN S b) a := by
  apply Nat.eq_of_testBit_eq
  intro j
  rw [sdN_t, sdN_t, sdN_t, sdN_t]
  cases S.testBit j <;> cases a.testBit j <;> cases b.testBit j <;> rfl
theorem sdN_lt {S o j : Nat} (h1 : S.testBit j = true) (h2 : o.testBit j = true) : sdN S o < S := by
  rcases Nat.lt_or_eq_of_le (sdN_le S o) with h | h
  · exact h
  · have := sdN_t S o j
    rw [h, h1, h2] at this
    cases this
theorem sdN_eq {S o : Nat} (h : ¬ sdN S o < S) : sdN S o = S := by
  have := sdN_le S o
  omega
def sbN (T S : Nat) : Prop := ∀ j, T.testBit j = true → S.testBit j = true
theorem sb_sd {T S o : Nat} (h : sbN T S) : sbN (sdN T o) (sdN S o) := by
  intro j hj
  rw [sdN_t] at hj ⊢
  rw [Bool.and_eq_true] at hj ⊢
  exact ⟨h j hj.1, hj.2⟩
theorem sb_0 {T : Nat} (h : sbN T 0) : T = 0 := by
  apply Nat.eq_of_testBit_eq
  intro j
  rw [Nat.zero_testBit]
  cases hb : T.testBit j with
  | false => rfl
  | true =>
    have := h j hb
    rw [Nat.zero_testBit] at this
    cases this
theorem ne_0 {S : Nat} (h : S ≠ 0) : ∃ j, S.testBit j = true := Nat.exists_testBit_of_ne_zero h
/-- fewest days by sets -/
def DP (n : Nat) (on : Nat → Nat) (c : Nat → Int) (T : Nat) : Prop := (0 ≤ c T ∧ c T ≤ 1000000000) ∧ (T = 0 → c T = 0) ∧ (T ≠ 0 → (∀ d, d ≤ 60 → sdN T (on d) < T → c T ≤ c (sdN T (on d)) + 1) ∧ (c T = 1000000000 ∨ ∃ d, d ≤ 60 ∧ sdN T (on d) < T ∧ c T = c (sdN T (on d)) + 1 ∧ c (sdN T (on d)) < 1000000000))
def DPA (n : Nat) (on : Nat → Nat) (c : Nat → Int) : Prop := ∀ T, T < 2 ^ n → DP n on c T
theorem dp_mo {n : Nat} {on : Nat → Nat} {c : Nat → Int} (h : DPA n on c) : ∀ (S T : Nat), S < 2 ^ n → T < 2 ^ n → sbN T S → c T ≤ c S := by
  intro S
  induction S using Nat.strongRecOn with
  | _ S ih =>
    intro T hS hT hsb
    have hd := h S hS
    have hdT := h T hT
    by_cases q : S = 0
    · subst q
      rw [sb_0 hsb]
      exact Int.le_refl _
    · rcases (hd.2.2 q).2 with z | ⟨d, d1, d2, d3, d4⟩
      · have := hdT.1
        omega
      · have i1 := ih (sdN S (on d)) d2 (sdN T (on d)) (by omega) (by have := sdN_le T (on d); omega) (sb_sd hsb)
        by_cases q2 : sdN T (on d) < T
        · have := (hdT.2.2 (by omega)).1 d d1 q2
          omega
        · rw [sdN_eq q2] at i1
          omega
theorem dp_fi {n : Nat} {on : Nat → Nat} {c : Nat → Int} (h : DPA n on c) : ∀ (S : Nat), S < 2 ^ n → (∀ j, S.testBit j = true → ∃ d, d ≤ 60 ∧ (on d).testBit j = true) → c S ≤ S := by
  intro S
  induction S using Nat.strongRecOn with
  | _ S ih =>
    intro hS hD
    have hd := h S hS
    by_cases q : S = 0
    · have := hd.2.1 q
      omega
    · obtain ⟨j, hj⟩ := ne_0 q
      obtain ⟨d, d1, d2⟩ := hD j hj
      have hlt := sdN_lt hj d2
      have i1 := ih (sdN S (on d)) hlt (by omega) (fun i hi => hD i (by rw [sdN_t, Bool.and_eq_true] at hi; exact hi.1))
      have := (hd.2.2 q).1 d d1 hlt
      omega
theorem dp_no {n : Nat} {on : Nat → Nat} {c : Nat → Int} (h : DPA n on c) {j : Nat} (hj : ∀ d, d ≤ 60 → (on d).testBit j = false) : ∀ (S : Nat), S < 2 ^ n → S.testBit j = true → c S = 1000000000 := by
  intro S
  induction S using Nat.strongRecOn with
  | _ S ih =>
    intro hS hb
    have hd := h S hS
    have q : S ≠ 0 := by
      intro z
      rw [z, Nat.zero_testBit] at hb
      cases hb
    rcases (hd.2.2 q).2 with z | ⟨d, d1, d2, d3, d4⟩
    · exact z
    · have := ih (sdN S (on d)) d2 (by omega) (by rw [sdN_t, hb, hj d d1]; rfl)
      omega
/-- the days of each are one stretch -/
def ITV (n : Nat) (on : Nat → Nat) (f l : Nat → Int) : Prop := ∀ i d : Nat, i < n → d ≤ 60 → ((on d).testBit i = true ↔ f i ≤ d ∧ (d : Int) ≤ l i)
theorem dp_gr {n : Nat} {on : Nat → Nat} {c : Nat → Int} {f l : Nat → Int} (hn8 : 2 ^ n ≤ 256) (h : DPA n on c) (hI : ITV n on f l) (hn : ∀ S, S < 2 ^ n → ∀ j, S.testBit j = true → j < n) {e : Nat} (he : e ≤ 60) : ∀ (S : Nat) {i : Nat}, S < 2 ^ n → (∀ j, S.testBit j = true → ∃ d, d ≤ 60 ∧ (on d).testBit j = true) → S.testBit i = true → l i = e → (on e).testBit i = true → (∀ j, S.testBit j = true → (e : Int) ≤ l j) → c S = c (sdN S (on e)) + 1 := by
  intro S
  induction S using Nat.strongRecOn with
  | _ S ih =>
    intro i hS hD hi hl hoi hmin
    have hd := h S hS
    have q : S ≠ 0 := by
      intro z
      rw [z, Nat.zero_testBit] at hi
      cases hi
    have hlt := sdN_lt hi hoi
    have up := (hd.2.2 q).1 e he hlt
    have hfin := dp_fi h S hS hD
    rcases (hd.2.2 q).2 with z | ⟨d, d1, d2, d3, d4⟩
    · omega
    · cases hb : (on d).testBit i with
      | true =>
        have hin := hn S hS i hi
        have hde := ((hI i d hin d1).mp hb).2
        have hsb : sbN (sdN S (on e)) (sdN S (on d)) := by
          intro j hj
          rw [sdN_t, Bool.and_eq_true] at hj ⊢
          refine ⟨hj.1, ?_⟩
          cases hb2 : (on d).testBit j with
          | false => rfl
          | true =>
            have hjn := hn S hS j hj.1
            have h1 := (hI j d hjn d1).mp hb2
            have h2 := (hI j e hjn he).mpr ⟨by omega, hmin j hj.1⟩
            rw [h2] at hj
            cases hj.2
        have := dp_mo h (sdN S (on d)) (sdN S (on e)) (by omega) (by omega) hsb
        omega
      | false =>
        have hS' : sdN S (on d) < 2 ^ n := by omega
        have hsub : ∀ j, (sdN S (on d)).testBit j = true → S.testBit j = true := fun j hj => by
          rw [sdN_t, Bool.and_eq_true] at hj
          exact hj.1
        have i1 := ih (sdN S (on d)) d2 (i := i) hS' (fun j hj => hD j (hsub j hj)) (by rw [sdN_t, hi, hb]; rfl) hl hoi (fun j hj => hmin j (hsub j hj))
        have hSe : sdN S (on e) < 2 ^ n := by omega
        have hde := h (sdN S (on e)) hSe
        have h5 : c (sdN S (on e)) ≤ c (sdN (sdN S (on e)) (on d)) + 1 := by
          by_cases q2 : sdN (sdN S (on e)) (on d) < sdN S (on e)
          · exact (hde.2.2 (by omega)).1 d d1 q2
          · rw [sdN_eq q2]
            omega
        rw [sdN_cm S (on e) (on d)] at h5
        omega
-- the class's way
def slL (l : Nat → Int) : Nat → Nat → Nat → Int → Int
  | 0, _, _, a => a
  | k + 1, i, dn, a => slL l k (i + 1) dn (if dn.testBit i then a else if l i < a then l i else a)
theorem slL_p {l : Nat → Int} {dn : Nat} : ∀ (k i : Nat) (a : Int), (slL l k i dn a = a ∨ ∃ j, i ≤ j ∧ j < i + k ∧ dn.testBit j = false ∧ slL l k i dn a = l j) ∧ slL l k i dn a ≤ a ∧ (∀ j, i ≤ j → j < i + k → dn.testBit j = false → slL l k i dn a ≤ l j)
  | 0, i, a => ⟨Or.inl rfl, Int.le_refl _, fun j h1 h2 => by omega⟩
  | k + 1, i, a => by
    obtain ⟨h1, h2, h3⟩ := slL_p (l := l) (dn := dn) k (i + 1) (if dn.testBit i then a else if l i < a then l i else a)
    unfold slL
    cases hb : dn.testBit i with
    | true =>
      rw [hb] at h1 h2 h3
      rw [if_pos rfl] at h1 h2 h3 ⊢
      refine ⟨?_, h2, fun j j1 j2 j3 => ?_⟩
      · rcases h1 with z | ⟨j, z1, z2, z3⟩
        · exact Or.inl z
        · exact Or.inr ⟨j, by omega, by omega, z3⟩
      · by_cases q : j = i
        · rw [q, hb] at j3
          cases j3
        · exact h3 j (by omega) (by omega) j3
    | false =>
      rw [hb] at h1 h2 h3
      rw [if_neg (show ¬ (false = true) by decide)] at h1 h2 h3 ⊢
      refine ⟨?_, ?_, fun j j1 j2 j3 => ?_⟩
      · rcases h1 with z | ⟨j, z1, z2, z3⟩
        · rw [z]
          by_cases q : l i < a
          · rw [if_pos q]
            exact Or.inr ⟨i, by omega, by omega, hb, rfl⟩
          · rw [if_neg q]
            exact Or.inl rfl
        · exact Or.inr ⟨j, by omega, by omega, z3⟩
      · refine Int.le_trans h2 ?_
        split <;> omega
      · by_cases q : j = i
        · subst q
          refine Int.le_trans h2 ?_
          split <;> omega
        · exact h3 j (by omega) (by omega) j3
def duL (f l : Nat → Int) (e : Int) : Nat → Nat → Nat → Nat
  | 0, _, dn => dn
  | k + 1, i, dn => duL f l e k (i + 1) (if f i ≤ e ∧ e ≤ l i then dn ||| 2 ^ i else dn)
theorem duL_t {f l : Nat → Int} {e : Int} : ∀ (k i dn j : Nat), (duL f l e k i dn).testBit j = (dn.testBit j || decide (i ≤ j ∧ j < i + k ∧ f j ≤ e ∧ e ≤ l j))
  | 0, i, dn, j => by
    unfold duL
    rw [decide_eq_false (by omega), Bool.or_false]
  | k + 1, i, dn, j => by
    unfold duL
    rw [duL_t k (i + 1) _ j]
    by_cases q : f i ≤ e ∧ e ≤ l i
    · rw [if_pos q, Nat.testBit_or, Nat.testBit_two_pow, Bool.or_assoc]
      congr 1
      rw [Bool.eq_iff_iff, Bool.or_eq_true, decide_eq_true_eq, decide_eq_true_eq, decide_eq_true_eq]
      constructor
      · rintro (z | z)
        · subst z
          exact ⟨by omega, by omega, q⟩
        · exact ⟨by omega, by omega, z.2.2⟩
      · intro z
        by_cases w : i = j
        · exact Or.inl w
        · exact Or.inr ⟨by omega, by omega, z.2.2⟩
    · rw [if_neg q]
      congr 1
      rw [decide_eq_decide]
      constructor
      · intro z
        exact ⟨by omega, by omega, z.2.2⟩
      · intro z
        by_cases w : i = j
        · subst w
          exact absurd z.2.2 q
        · exact ⟨by omega, by omega, z.2.2⟩
def gyS (n : Nat) (f l : Nat → Int) : Nat → Nat → Int → Int
  | 0, _, dy => dy
  | k + 1, dn, dy => if dn = 2 ^ n - 1 then dy else if slL l n 0 dn 1000000000 < 0 then -2 else gyS n f l k (duL f l (slL l n 0 dn 1000000000) n 0 dn) (dy + 1)
theorem gyS_b {n : Nat} {f l : Nat → Int} : ∀ (k dn : Nat) (dy : Int), 0 ≤ dy → -2 ≤ gyS n f l k dn dy ∧ gyS n f l k dn dy ≤ dy + k
  | 0, dn, dy, h => by unfold gyS; omega
  | k + 1, dn, dy, h => by
    have := gyS_b (n := n) (f := f) (l := l) k (duL f l (slL l n 0 dn 1000000000) n 0 dn) (dy + 1) (by omega)
    unfold gyS
    repeat' split
    all_goals omega
theorem bit_n {n : Nat} : ∀ S, S < 2 ^ n → ∀ j, S.testBit j = true → j < n := by
  intro S hS j hj
  rcases Nat.lt_or_ge j n with z | z
  · exact z
  · have := Nat.testBit_lt_two_pow (x := S) (i := j) (Nat.lt_of_lt_of_le hS (Nat.pow_le_pow_right (by decide) z))
    rw [hj] at this
    cases this
def tbB (dn : Nat) : Nat → Bool := fun j => dn.testBit j
theorem gr_lp {n : Nat} {on : Nat → Nat} {c : Nat → Int} {f l : Nat → Int} (hn8 : 2 ^ n ≤ 256) (h : DPA n on c) (hI : ITV n on f l) (hl : ∀ i, i < n → 0 ≤ f i ∧ f i ≤ l i ∧ l i ≤ 60) : ∀ (k dn : Nat) (dy : Int), dn < 2 ^ n → n ≤ cn (tbB dn) n + k → gyS n f l k dn dy = dy + c (sdN (2 ^ n - 1) dn)
  | 0, dn, dy, hd, hk => by
    have hz : sdN (2 ^ n - 1) dn = 0 := by
      apply Nat.eq_of_testBit_eq
      intro j
      rw [sdN_t, Nat.testBit_two_pow_sub_one, Nat.zero_testBit]
      by_cases q : j < n
      · cases hb : dn.testBit j with
        | true => simp
        | false =>
          have := cn_ne (p := tbB dn) q hb
          omega
      · rw [decide_eq_false q, Bool.false_and]
    unfold gyS
    rw [hz, (h 0 (Nat.pow_pos (by decide))).2.1 rfl]
    omega
  | k + 1, dn, dy, hd, hk => by
    have hp : 1 ≤ 2 ^ n := Nat.one_le_two_pow
    have hfull : (2 ^ n - 1) < 2 ^ n := by omega
    unfold gyS
    by_cases q : dn = 2 ^ n - 1
    · rw [if_pos q]
      have hz : sdN (2 ^ n - 1) dn = 0 := by
        rw [q]
        apply Nat.eq_of_testBit_eq
        intro j
        rw [sdN_t, Nat.zero_testBit]
        cases (2 ^ n - 1).testBit j <;> rfl
      rw [hz, (h 0 (Nat.pow_pos (by decide))).2.1 rfl]
      omega
    · rw [if_neg q]
      have hex : ∃ j, j < n ∧ dn.testBit j = false := by
        rcases Classical.em (∃ j, j < n ∧ dn.testBit j = false) with z | z
        · exact z
        · exfalso
          apply q
          apply Nat.eq_of_testBit_eq
          intro j
          rw [Nat.testBit_two_pow_sub_one]
          by_cases w : j < n
          · rw [decide_eq_true w]
            cases hb : dn.testBit j with
            | true => rfl
            | false => exact absurd ⟨j, w, hb⟩ z
          · rw [decide_eq_false w]
            cases hb : dn.testBit j with
            | false => rfl
            | true => exact absurd (bit_n dn hd j hb) w
      obtain ⟨j0, j1, j2⟩ := hex
      obtain ⟨p1, p2, p3⟩ := slL_p (l := l) (dn := dn) n 0 1000000000
      have hj0 := p3 j0 (by omega) (by omega) j2
      have hlj := hl j0 j1
      obtain ⟨i, i1, i2, i3, i4⟩ : ∃ i, 0 ≤ i ∧ i < 0 + n ∧ dn.testBit i = false ∧ slL l n 0 dn 1000000000 = l i := by
        rcases p1 with z | z
        · omega
        · exact z
      have hli := hl i (by omega)
      rw [if_neg (by omega)]
      obtain ⟨e, he⟩ : ∃ e : Nat, (e : Int) = slL l n 0 dn 1000000000 := ⟨(slL l n 0 dn 1000000000).toNat, by omega⟩
      rw [← he]
      have hoi : (on e).testBit i = true := (hI i e (by omega) (by omega)).mpr (by omega)
      have hrt : ∀ j, (sdN (2 ^ n - 1) dn).testBit j = true → j < n ∧ dn.testBit j = false := fun j hj => by
        rw [sdN_t, Nat.testBit_two_pow_sub_one, Bool.and_eq_true, decide_eq_true_eq, Bool.not_eq_true'] at hj
        exact hj
      have hrl : sdN (2 ^ n - 1) dn < 2 ^ n := by have := sdN_le (2 ^ n - 1) dn; omega
      have hg := dp_gr hn8 h hI bit_n (e := e) (by omega) (sdN (2 ^ n - 1) dn) (i := i) hrl (fun j hj => by
        obtain ⟨z1, z2⟩ := hrt j hj
        have := hl j z1
        exact ⟨(l j).toNat, by omega, (hI j (l j).toNat z1 (by omega)).mpr (by omega)⟩) (by
        rw [sdN_t, Nat.testBit_two_pow_sub_one, i3, decide_eq_true (by omega)]
        rfl) (by omega) hoi (fun j hj => by
        obtain ⟨z1, z2⟩ := hrt j hj
        have := p3 j (by omega) (by omega) z2
        omega)
      have hdt := duL_t (f := f) (l := l) (e := (e : Int)) n 0 dn
      have hd2 : duL f l (e : Int) n 0 dn < 2 ^ n := by
        apply Nat.lt_pow_two_of_testBit
        intro j hj
        rw [hdt j, decide_eq_false (by omega), Bool.or_false]
        cases hb : dn.testBit j with
        | false => rfl
        | true =>
          have := bit_n dn hd j hb
          omega
      have hcn := cn_lt (p := tbB dn) (q := tbB (duL f l (e : Int) n 0 dn)) n (fun j _ hj => by
        unfold tbB at hj ⊢
        rw [hdt j, hj, Bool.true_or]) i (by omega) (by
        unfold tbB
        rw [hdt i, decide_eq_true ⟨by omega, by omega, by omega, by omega⟩, Bool.or_true]) i3
      rw [gr_lp hn8 h hI hl k _ (dy + 1) hd2 (by omega)]
      have hrem : sdN (2 ^ n - 1) (duL f l (e : Int) n 0 dn) = sdN (sdN (2 ^ n - 1) dn) (on e) := by
        apply Nat.eq_of_testBit_eq
        intro j
        rw [sdN_t, sdN_t, sdN_t, hdt j, Nat.testBit_two_pow_sub_one]
        by_cases w : j < n
        · rw [decide_eq_true w]
          have hij := hI j e w (by omega)
          cases hb : (on e).testBit j with
          | true =>
            have := hij.mp hb
            rw [decide_eq_true ⟨by omega, by omega, this⟩]
            simp
          | false =>
            have : ¬ (f j ≤ (e : Int) ∧ (e : Int) ≤ l j) := fun z => by
              rw [hij.mpr z] at hb
              cases hb
            rw [decide_eq_false (fun z => this z.2.2)]
            simp
        · rw [decide_eq_false w]
          simp
      rw [hrem]
      omega
/-- a blaze that no day fits -/
theorem gr_no {n : Nat} {on : Nat → Nat} {c : Nat → Int} {f l : Nat → Int} (hn : 1 ≤ n) (h : DPA n on c) (hI : ITV n on f l) {i : Nat} (hi : i < n) (hl : l i = -2) (hf : f i = -2) : gyS n f l n 0 0 = -2 ∧ c (2 ^ n - 1) = 1000000000 := by
  have hp : 1 < 2 ^ n := Nat.one_lt_two_pow (by omega)
  refine ⟨?_, ?_⟩
  · obtain ⟨n, rfl⟩ : ∃ n', n = n' + 1 := ⟨n - 1, by omega⟩
    obtain ⟨p1, p2, p3⟩ := slL_p (l := l) (dn := 0) (n + 1) 0 1000000000
    have := p3 i (by omega) (by omega) (Nat.zero_testBit i)
    unfold gyS
    rw [if_neg (by omega), if_pos (by omega)]
  · refine dp_no h (j := i) (fun d hd => ?_) (2 ^ n - 1) (by omega) (by rw [Nat.testBit_two_pow_sub_one]; exact decide_eq_true hi)
    cases hb : (on d).testBit i with
    | false => rfl
    | true =>
      have := (hI i d hi hd).mp hb
      omega
theorem gr_eq {n : Nat} {on : Nat → Nat} {c : Nat → Int} {f l : Nat → Int} (hn : 1 ≤ n ∧ n ≤ 8) (h : DPA n on c) (hI : ITV n on f l) (hl : ∀ i, i < n → (f i = -2 ∧ l i = -2) ∨ (0 ≤ f i ∧ f i ≤ l i ∧ l i ≤ 60)) : (if c (2 ^ n - 1) < 1000000000 then c (2 ^ n - 1) else -2) = gyS n f l n 0 0 := by
  rcases Classical.em (∃ i, i < n ∧ l i = -2) with z | z
  · obtain ⟨i, i1, i2⟩ := z
    have i3 : f i = -2 := by
      rcases hl i i1 with w | w <;> omega
    obtain ⟨a1, a2⟩ := gr_no hn.1 h hI i1 i2 i3
    rw [a1, a2]
    rfl
  · have hl' : ∀ i, i < n → 0 ≤ f i ∧ f i ≤ l i ∧ l i ≤ 60 := fun i hi => by
      rcases hl i hi with w | w
      · exact absurd ⟨i, hi, w.2⟩ z
      · exact w
    have hp : 2 ^ n ≤ 2 ^ 8 := Nat.pow_le_pow_right (by decide) hn.2
    have hg := gr_lp hp h hI hl' n 0 0 (Nat.pow_pos (by decide)) (by omega)
    have hz : sdN (2 ^ n - 1) 0 = 2 ^ n - 1 := by
      apply Nat.eq_of_testBit_eq
      intro j
      rw [sdN_t, Nat.zero_testBit]
      simp
    rw [hz] at hg
    have hp1 : 1 ≤ 2 ^ n := Nat.one_le_two_pow
    have hfi := dp_fi h (2 ^ n - 1) (by omega) (fun j hj => by
      rw [Nat.testBit_two_pow_sub_one, decide_eq_true_eq] at hj
      have := hl' j hj
      exact ⟨(l j).toNat, by omega, (hI j (l j).toNat hj (by omega)).mpr (by omega)⟩)
    have hp' : 2 ^ n ≤ 256 := hp
    rw [if_pos (by omega), hg]
    omega
