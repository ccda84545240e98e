-- the law read: conditions, by the reference, the loop
def QC (g : am_M) (n : Int) (beh : Bool) (p : Int) (vs : List SX) (ops : List Int) (b : Nat) (M N : am_M) : Prop := RVf b M N ∧ ((N 73 5 < 0 ∧ -7000 ≤ N 73 5 ∧ (cfin g n beh p vs ops).1 = N 73 5) ∨ (∃ (p' : Int) (vs' : List SX) (t' : Nat), cfin g n beh p vs ops = (0, p', vs', []) ∧ RVt N n p' b t' vs' [] 0 ∧ p ≤ p' ∧ p' ≤ n))
theorem QC.st {g : am_M} {n p p1 : Int} {beh beh1 : Bool} {vs vs1 : List SX} {ops ops1 : List Int} {b : Nat} {M M1 N : am_M} (f : RVf b M M1) (e : cfin g n beh p vs ops = cfin g n beh1 p1 vs1 ops1) (hp : p ≤ p1) (h : QC g n beh1 p1 vs1 ops1 b M1 N) : QC g n beh p vs ops b M N := by
  obtain ⟨a1, a3⟩ := h
  refine ⟨f.tr a1, ?_⟩
  rw [e]
  rcases a3 with z | ⟨p', vs', t', z1, z2, z3, z4⟩
  · exact Or.inl z
  · exact Or.inr ⟨p', vs', t', z1, z2, by omega, z4⟩
theorem bad_37 {M : am_M} {fu : Nat} {x : Int} (h : M 73 5 < 0 ∧ -7000 ≤ M 73 5) : R_condition_37 (fu + 1) x M = some M := by
  rw [R_condition_37]
  unfold R_condition_74
  rw [good_0 h.1 (by omega), ob_s, c_eq_p (by decide) (by decide), if_pos rfl]
theorem bad_59 {M : am_M} {fu : Nat} {x : Int} (h : M 73 5 < 0 ∧ -7000 ≤ M 73 5) : R_condition_59 (R_condition_37 (fu + 1)) x M = some M := by
  unfold R_condition_59
  rw [good_0 h.1 (by omega), ob_s, c_eq_p (by decide) (by decide), if_pos rfl]
  exact bad_37 h
theorem bad_pc {M : am_M} {f1 : Nat} (h : M 73 5 < 0 ∧ -7000 ≤ M 73 5) : R_pieceOfC_0 (f1 + 1) M = some M := by
  rw [R_pieceOfC_0]
  unfold R_pieceOfC_32 R_pieceOfC_43
  rw [good_0 h.1 (by omega), ob_s, c_eq_p (by decide) (by decide), if_pos rfl, ob_s, c_eq_p (by decide) (by decide), if_pos rfl, ob_s, c_ne_p (by decide) (by decide), if_neg (by decide)]
theorem rc_all {g : am_M} {n : Int} {b : Nat} (hg : WG g) (hn : 1 ≤ n ∧ n ≤ 240) : ∀ (k : Nat), (∀ (f1 fu : Nat) (p : Int) (vs : List SX) (ops : List Int) (t : Nat) (M : am_M), n - p ≤ k → k < f1 → k + 2 < fu → 0 ≤ p ∧ p ≤ n → GR g M → RVt M n p b t vs ops 0 → SFo ops → BFl (jc ops) vs → M 73 26 = 0 → ∃ N, (ob (R_pieceOfC_0 f1 M) fun M2 => R_condition_59 (R_condition_37 fu) 1 M2) = some N ∧ QC g n false p vs ops b M N) ∧ (∀ (fu : Nat) (p : Int) (vs : List SX) (ops : List Int) (t : Nat) (M : am_M), n - p ≤ k → k + 2 < fu → 0 ≤ p ∧ p ≤ n → GR g M → RVt M n p b t vs ops 0 → SFo ops → hdO ops ≠ 33 → BFl (jc ops + 1) vs → M 73 26 = 0 → ∃ N, (oc (R_goesBehind M) fun v2 M3 => R_condition_37 fu v2 M3) = some N ∧ QC g n true p vs ops b M N) := by
  intro k
  induction k using Nat.strongRecOn with
  | _ k ih =>
  constructor
  · intro f1 fu p vs ops t M hk hf1 hfu hp hG h hS hB h26
    obtain ⟨f1, rfl⟩ : ∃ f', f1 = f' + 1 := ⟨f1 - 1, by omega⟩
    obtain ⟨fu, rfl⟩ : ∃ f', fu = f' + 1 := ⟨fu - 1, by omega⟩
    have htb := taS_b hg (n := n) (by omega) p
    have hhb := heV_b htb
    have hh := R_here_eq hG hp.1 (show n ≤ 260 by omega) (by omega) (by omega) h.1.1 h.1.2.1
    have hhe : ∀ c : Int, 0 < c → (heV (taS g n p) = c ↔ taS g n p = c) := fun c hc => by
      unfold heV
      split <;> omega
    have w33 := hhe 33 (by decide)
    have w40 := hhe 40 (by decide)
    have hfe := cf_e (g := g) (beh := false) (vs := vs) (ops := ops) hn.2 hp.1 hp.2
    unfold cB at hfe
    rw [if_neg (by decide)] at hfe
    rw [R_pieceOfC_0, good_1 h.1.2.2.1, ob_s, c_eq_p (by decide) (by decide), if_neg (by decide), hh, ob_s, c_eq_p (by omega) (by decide), ob_s, c_ne_p (by omega) (by decide)]
    by_cases q1 : taS g n p = 33 ∨ taS g n p = 40
    · have hpn := ta_n (g := g) (n := n) (p := p) hp.1 (by omega)
      rw [if_pos q1] at hfe
      have hif : ∀ x y : Option am_M, (if heV (taS g n p) = 33 then x else if heV (taS g n p) ≠ 40 then y else x) = x := fun x y => by
        rcases q1 with z | z
        · rw [if_pos (w33.mpr z)]
        · rw [if_neg (by omega), if_neg (fun v => v (w40.mpr z))]
      rw [hif]
      unfold R_pieceOfC_25
      obtain ⟨N, a1, a2, a3, a4, a5⟩ := Ropn hg hG hn ⟨hp.1, hpn⟩ rfl (by omega) h
      rw [a1, ob_s]
      obtain ⟨f1, rfl⟩ : ∃ f', f1 = f' + 1 := ⟨f1 - 1, by omega⟩
      by_cases q2 : opn ops = 6
      · rw [if_pos q2] at hfe
        have hb5 := a4 q2
        rw [bad_pc (by omega), ob_s, bad_59 (by omega)]
        exact ⟨N, rfl, a2, Or.inl ⟨by omega, by omega, by rw [hfe, hb5]⟩⟩
      · rw [if_neg q2] at hfe
        have hS' : SFo (taS g n p :: ops) := ⟨by rcases q1 with z | z; exact Or.inr (Or.inl ⟨z, hS⟩); exact Or.inl z, Or.inr hS⟩
        have hj' : jc (taS g n p :: ops) = jc ops := by
          show (if taS g n p = 38 ∨ taS g n p = 124 then 1 else 0) + jc ops = _
          rw [if_neg (by omega)]
          omega
        obtain ⟨N2, b1', b2⟩ := (ih (k - 1) (by omega)).1 (f1 + 1) (fu + 1) (p + 1) vs (taS g n p :: ops) t N (by omega) (by omega) (by omega) (by omega) (hG.rvf a2) (a5 q2) hS' (by rw [hj']; exact hB) (a3.2.trans h26)
        exact ⟨N2, b1', QC.st a2 hfe (by omega) b2⟩
    · rw [if_neg q1] at hfe
      have hif : ∀ x y : Option am_M, (if heV (taS g n p) = 33 then x else if heV (taS g n p) ≠ 40 then y else x) = y := fun x y => by
        rw [if_neg (by omega), if_pos (by omega)]
      rw [hif]
      obtain ⟨N, a1, a2, a3, a4⟩ := pc_val hg hn hp hG h hS hB
      rw [a1, ob_s]
      rcases a4 with ⟨z1, z2, z3⟩ | ⟨p', vs', ops', t', z1, z2, z3, z4, z5, z6, z7⟩
      · rw [bad_59 ⟨z1, z2⟩]
        exact ⟨N, rfl, a2, Or.inl ⟨z1, z2, by rw [hfe]; exact z3 _⟩⟩
      · unfold R_condition_59
        rw [good_1 z2.1.2.2.1, ob_s, c_eq_p (by decide) (by decide), if_neg (by decide)]
        obtain ⟨N2, b1', b2⟩ := (ih (k - 1) (by omega)).2 (fu + 1) p' vs' ops' t' N (by omega) (by omega) (by omega) (hG.rvf a2) z2 z5 z6 z7 (a3.trans h26)
        exact ⟨N2, b1', QC.st a2 (hfe.trans (z1 _)) (by omega) b2⟩
  · intro fu p vs ops t M hk hfu hp hG h hS h33 hB h26
    obtain ⟨fu, rfl⟩ : ∃ f', fu = f' + 1 := ⟨fu - 1, by omega⟩
    have htb := taS_b hg (n := n) (by omega) p
    have hhb := heV_b htb
    have hh := R_here_eq hG hp.1 (show n ≤ 260 by omega) (by omega) (by omega) h.1.1 h.1.2.1
    have hhe : ∀ c : Int, 0 < c → (heV (taS g n p) = c ↔ taS g n p = c) := fun c hc => by
      unfold heV
      split <;> omega
    have w38 := hhe 38 (by decide)
    have w124 := hhe 124 (by decide)
    have w41 := hhe 41 (by decide)
    have hfe := cf_e (g := g) (beh := true) (vs := vs) (ops := ops) hn.2 hp.1 hp.2
    unfold cB at hfe
    rw [if_pos rfl] at hfe
    have l1 := h.2.2.2.1
    unfold R_goesBehind
    rw [hh, ob_s, c_eq_p (by omega) (by decide), c_ne_p (by omega) (by decide), c_eq_p (by omega) (by decide)]
    have hop : ∀ (a : Bool) (c : Int), taS g n p = c → ((c = 38 ∧ a = false) ∨ (c = 124 ∧ a = true)) → cfin g n true p vs ops = cfin g n false (p + 1) (joS a ops vs).1 (c :: (joS a ops vs).2) → ∃ N, (oc (R_goesBehind_17 (heV (taS g n p)) M) fun v2 M3 => R_condition_37 (fu + 1) v2 M3) = some N ∧ QC g n true p vs ops b M N := fun a c hc ha he => by
      have hpn := ta_n (g := g) (n := n) (p := p) hp.1 (by omega)
      obtain ⟨N1, t1, a1, a2, a3, a4, a5⟩ := Rjoins (a := a) (show p ≤ 240 by omega) ops vs t am_big M h hB (by show _ < 1000000; omega)
      obtain ⟨j1, j2, j3⟩ := SFo.jo (a := a) (vs := vs) hS h33
      obtain ⟨N2, c1, c2, c3, c4, c5⟩ := Rputs (c := c) a2 (by omega) (by omega) (Or.inr (opn_c (by omega))) (by rw [opn_c (by omega)]; exact a2.2.2.2.2.1)
      have hst : R_goesBehind_17 (heV (taS g n p)) M = some (1, N2) := by
        unfold R_goesBehind_17 R_goesBehind_29 R_joins
        rw [heV_p (by omega), hc, c_ne_p (by omega) (by decide)]
        rcases ha with ⟨z1, z2⟩ | ⟨z1, z2⟩
        · subst z2
          have a1' : R_joins_0 am_big 0 M = some N1 := a1
          rw [if_pos (by omega), a1', ob_s, c1, ob_s]
        · subst z2
          have a1' : R_joins_0 am_big 1 M = some N1 := a1
          rw [if_neg (fun w => w z1), a1', ob_s, c1, ob_s]
      have e26 : N2 73 26 = 0 := by rw [c5, a5]; exact h26
      rw [hst, oc_s, R_condition_37, good_1 c2.1.2.2.1, ob_s, c_eq_p (by decide) (by decide), if_neg (by decide), e26, c_ne_p (by decide) (by decide), if_neg (by decide), c_eq_p (by decide) (by decide), if_neg (by decide)]
      have fM : RVf b M N2 := a3.tr c3
      have hS' : SFo (c :: (joS a ops vs).2) := ⟨Or.inr (Or.inr ⟨by omega, j2, j1⟩), Or.inr j1⟩
      have hj' : jc (c :: (joS a ops vs).2) = jc (joS a ops vs).2 + 1 := by
        show (if c = 38 ∨ c = 124 then 1 else 0) + jc (joS a ops vs).2 = _
        rw [if_pos (by omega)]
        omega
      obtain ⟨N3, i1, i2⟩ := (ih (n - (p + 1)).toNat (by omega)).1 am_big fu (p + 1) _ _ t1 N2 (by omega) (by show _ < 1000000; omega) (by omega) (by omega) (hG.rvf fM) c2 hS' (by rw [hj']; exact a4) e26
      unfold R_pieceOfC
      exact ⟨N3, i1, QC.st fM he (by omega) i2⟩
    by_cases q1 : taS g n p = 38
    · rw [if_pos q1] at hfe
      rw [if_pos (w38.mpr q1)]
      exact hop false 38 q1 (Or.inl ⟨rfl, rfl⟩) hfe
    rw [if_neg q1] at hfe
    rw [if_neg (fun z => q1 (w38.mp z))]
    by_cases q2 : taS g n p = 124
    · rw [if_pos q2] at hfe
      rw [if_neg (fun z => z (w124.mpr q2))]
      exact hop true 124 q2 (Or.inr ⟨rfl, rfl⟩) hfe
    rw [if_neg q2] at hfe
    rw [if_pos (fun z => q2 (w124.mp z))]
    by_cases q3 : taS g n p = 41
    · have hpn := ta_n (g := g) (n := n) (p := p) hp.1 (by omega)
      rw [if_pos q3] at hfe
      rw [if_pos (w41.mpr q3)]
      obtain ⟨N1, t1, a1, a2, a3, a4, a5⟩ := Rjoins (a := true) (show p ≤ 240 by omega) ops vs t am_big M h hB (by show _ < 1000000; omega)
      obtain ⟨j1, j2, j3⟩ := SFo.jo (a := true) (vs := vs) hS h33
      have a1' : R_joins 1 M = some N1 := a1
      have j4 := j3 rfl
      rw [a1', ob_s, fw_p, fw_p, fw_p]
      generalize (joS true ops vs).1 = vs1 at hfe a2 a4
      generalize (joS true ops vs).2 = ops1 at hfe a2 a4 j1 j2 j4
      cases ops1 with
      | nil => exact absurd j1 (fun z => z)
      | cons c r =>
        have hc : c = 40 := j4
        subst hc
        have hfe' : cfin g n true p vs ops = if r.length = 0 then (0, p + 1, vs1, []) else cfin g n true (p + 1) (enS r vs1).1 (enS r vs1).2 := hfe
        have hj' : jc (40 :: r) = jc r := by
          show (if (40 : Int) = 38 ∨ (40 : Int) = 124 then 1 else 0) + jc r = _
          rw [if_neg (by decide)]
          omega
        rw [hj'] at a4
        obtain ⟨⟨c3, c4, c5, c7, c8, c9⟩, s1, r1, l1', l2, l3⟩ := a2
        have ho : opn (40 :: r) = opn r + 1 := by
          show (if (40 : Int) = 91 ∨ (40 : Int) = 40 ∨ (40 : Int) = 33 then 1 else 0) + opn r = _
          rw [if_pos (by decide)]
          omega
        rw [List.length_cons] at c9 l1'
        rw [upx (show (8 : Nat) ≠ 9 by decide), c9, c8, upx (show (3 : Nat) ≠ 8 by decide), upx (show (3 : Nat) ≠ 9 by decide), c3]
        have o9 : (am_up (am_up (am_up N1 73 9 (((r.length + 1 : Nat) : Int) - 1)) 73 8 ((opn (40 :: r) : Int) - 1)) 73 3 (p + 1)) 73 9 = (r.length : Int) := by
          rw [upx (by decide), upx (by decide), upj]
          omega
        have hO : ∀ v : Int, RVf b N1 (am_up (am_up (am_up (am_up N1 73 9 (((r.length + 1 : Nat) : Int) - 1)) 73 8 ((opn (40 :: r) : Int) - 1)) 73 3 (p + 1)) 73 26 v) ∧ RVt (am_up (am_up (am_up (am_up N1 73 9 (((r.length + 1 : Nat) : Int) - 1)) 73 8 ((opn (40 :: r) : Int) - 1)) 73 3 (p + 1)) 73 26 v) n (p + 1) b t1 vs1 r 0 ∧ (am_up (am_up (am_up (am_up N1 73 9 (((r.length + 1 : Nat) : Int) - 1)) 73 8 ((opn (40 :: r) : Int) - 1)) 73 3 (p + 1)) 73 26 v) 73 26 = v := fun v => by
          refine ⟨(((RVf.rf.up (by omega)).up (by omega)).up (by omega)).up (by omega), ⟨⟨by rw [upx (by decide), upj], by rw [upx (by decide), upx (by decide), upx (by decide), upx (by decide)]; exact c4, by rw [upx (by decide), upx (by decide), upx (by decide), upx (by decide)]; exact c5, by rw [upx (by decide), upx (by decide), upx (by decide), upx (by decide)]; exact c7, by rw [upx (by decide), upx (by decide), upj, ho]; omega, by rw [upx (by decide), upx (by decide), upx (by decide), upj]; omega⟩, s1.tl.cg (fun j hj => by rw [upo (by decide), upo (by decide), upo (by decide), upo (by decide)]), by rw [upo (by decide), upo (by decide), upo (by decide), upo (by decide), upo (by decide), upo (by decide), upo (by decide), upo (by decide)]; exact r1, by omega, by omega, fun d hd => l3 d (List.mem_cons_of_mem _ hd)⟩, upj⟩
        rw [o9, c_ne_p (by omega) (by decide)]
        generalize (am_up (am_up (am_up N1 73 9 (((r.length + 1 : Nat) : Int) - 1)) 73 8 ((opn (40 :: r) : Int) - 1)) 73 3 (p + 1)) = O at hO
        unfold R_goesBehind_104 R_goesBehind_118
        by_cases q4 : r.length = 0
        · rw [if_pos q4] at hfe'
          obtain ⟨o1, o2, o3⟩ := hO 1
          have hr : r = [] := List.length_eq_zero_iff.mp q4
          subst hr
          rw [if_neg (by omega), fz_p (Or.inr rfl), o3, c_ne_p (by decide) (by decide), if_pos (by decide), oc_s, R_condition_37]
          unfold R_condition_74
          rw [good_1 o2.1.2.2.1, ob_s, c_eq_p (by decide) (by decide), if_neg (by decide), o3, c_ne_p (by decide) (by decide), if_pos (by decide)]
          exact ⟨_, rfl, a3.tr o1, Or.inr ⟨p + 1, vs1, t1, hfe', o2, by omega, by omega⟩⟩
        · rw [if_neg q4] at hfe'
          obtain ⟨o1, o2, o3⟩ := hO 0
          have hSr : SFo r := by
            rcases j1.2 with z | z
            · rw [z] at q4
              exact absurd rfl q4
            · exact z
          obtain ⟨N5, t5, i1, i2, i3, i4, i5⟩ := Rends (show p + 1 ≤ 240 by omega) r vs1 t1 am_big _ o2 a4 (by show _ < 1000000; omega)
          have hen := SFo.en (vs := vs1) hSr
          have i1' : R_ends (am_up O 73 26 0) = some N5 := i1
          have e26 : N5 73 26 = 0 := by rw [i5]; exact o3
          rw [if_pos (by omega), fz_p (Or.inl rfl), o3, c_ne_p (by decide) (by decide), if_neg (by decide), i1', ob_s, oc_s, R_condition_37, good_1 i2.1.2.2.1, ob_s, c_eq_p (by decide) (by decide), if_neg (by decide), e26, c_ne_p (by decide) (by decide), if_neg (by decide), c_eq_p (by decide) (by decide), if_pos rfl]
          unfold R_condition_59
          rw [good_1 i2.1.2.2.1, ob_s, c_eq_p (by decide) (by decide), if_neg (by decide)]
          have fM := (a3.tr o1).tr i3
          obtain ⟨N6, k1, k2⟩ := (ih (k - 1) (by omega)).2 fu (p + 1) _ _ t5 N5 (by omega) (by omega) (by omega) (hG.rvf fM) i2 hen.1 hen.2 i4 e26
          exact ⟨N6, k1, QC.st fM hfe' (by omega) k2⟩
    · rw [if_neg q3] at hfe
      rw [if_neg (fun z => q3 (w41.mp z)), h.1.1, wr_1 h.1.2.2.1, ob_s, oc_s, bad_37 (by rw [upj]; omega)]
      refine ⟨_, rfl, RVf.rf.up (by omega), Or.inl ?_⟩
      rw [upj, hfe]
      dsimp only
      omega
