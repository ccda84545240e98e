-- the law read: conditions, by the class
theorem v_end {g : am_M} {n p : Int} {x : SX} {vs : List SX} {ops : List Int} (hn : n ≤ 240) (h0 : 0 ≤ p ∧ p ≤ n) (ho : ¬ tiO (hdO ops) ∧ ¬ plO (hdO ops) ∧ hdO ops ≠ 91) (hc : ¬ tiO (taS g n p) ∧ ¬ plO (taS g n p)) : vfin g n true p (x :: vs) ops = if taS g n p = 93 then (-1000 - p, 0, [], []) else (0, p, x :: vs, ops) := by
  rw [vf_e hn h0.1 h0.2]
  unfold vB
  rw [if_pos rfl, if_neg hc.1, if_neg hc.2, sm_n (by intro z; rcases z with z | z; exact ho.1 z; exact ho.2.1 z.2)]
  dsimp only
  rw [if_neg ho.2.2, if_neg ho.2.2]
def CT (g : am_M) (n : Int) (src : VR) (T : Int → SX → VR) (p : Int) (s w : Nat) (beh : Bool) (E : Int → Prop) (M N : am_M) : Prop := VG s M N ∧ ∃ (p' : Int) (s' : Nat) (bad : Int), VSt N p' s' bad ∧ s ≤ s' ∧ s' ≤ 240 ∧ ((bad < 0 ∧ -7000 ≤ bad ∧ src.1 = bad) ∨ (bad = 0 ∧ ∃ x : SX, s' = s + x.1 ∧ (XO x ∧ x.2.2.1 = true) ∧ CE (N 18) (N 19) s x ∧ x.2.1 ≤ 20 ∧ (p ≤ p' ∧ (beh = false → p < p')) ∧ p' ≤ n ∧ (s' : Int) + p ≤ p' + w ∧ src = T p' x ∧ E (taS g n p')))
abbrev hdT (ops : List Int) : Prop := hdO ops = 40 ∨ hdO ops = 33 ∨ hdO ops = 38 ∨ hdO ops = 124
def TestOK (g : am_M) (n : Int) (d f : Nat) : Prop := ∀ (p : Int) (vs : List SX) (ops : List Int) (s : Nat) (M : am_M), opn ops = d → hdT ops → 0 ≤ p ∧ p ≤ n → (s : Int) ≤ p → TX g n M → VSt M p s 0 → ∃ N, K_LawReader_readChoice_R f 2 (d : Int) M = some N ∧ CT g n (cfin g n false p vs ops) (fun p' x => cfin g n true p' (enS ops (x :: vs)).1 (enS ops (x :: vs)).2) p s s false (fun _ => True) M N
def AllOK (g : am_M) (n : Int) (d f : Nat) : Prop := ∀ (p : Int) (vs : List SX) (ops : List Int) (s : Nat) (M : am_M), opn ops = d → (hdO ops = 40 ∨ hdO ops = 124) → 0 ≤ p ∧ p ≤ n → (s : Int) ≤ p → TX g n M → VSt M p s 0 → ∃ N, K_LawReader_readChoice_R f 1 (d : Int) M = some N ∧ CT g n (cfin g n false p vs ops) (fun p' x => cfin g n true p' (x :: vs) ops) p s s false (fun c => c ≠ 38) M N
def ChoOK (g : am_M) (n : Int) (d f : Nat) : Prop := ∀ (p : Int) (vs : List SX) (ops : List Int) (s : Nat) (M : am_M), opn ops = d → hdO ops = 40 → 0 ≤ p ∧ p ≤ n → (s : Int) ≤ p → TX g n M → VSt M p s 0 → ∃ N, K_LawReader_readChoice_R f 0 (d : Int) M = some N ∧ CT g n (cfin g n false p vs ops) (fun p' x => cfin g n true p' (x :: vs) ops) p s s false (fun c => c ≠ 38 ∧ c ≠ 124) M N
theorem tes_b {M : am_M} {p bad d : Int} {s f : Nat} (h : VSt M p s bad) (hb : bad < 0 ∧ -7000 ≤ bad) : K_LawReader_readChoice_R (f + 1) 2 d M = some M := by
  show LawReader_readTest_16 (fun b0 M => K_LawReader_readChoice_R f 0 b0 M) (fun b0 M => K_LawReader_readChoice_R f 2 b0 M) d M = some M
  unfold LawReader_readTest_16 LawReader_readTest_16_130 K_LawReader_readSum
  rw [lhere_b h hb, ob_s, c_ne_p (by decide) (by decide), if_pos (by decide), c_ne_p (by decide) (by decide), if_pos (by decide), sum_b (f := 37) h hb, ob_s, lhere_b h hb, ob_s, c_eq_p (by decide) (by decide), if_neg (by decide), c_eq_p (by decide) (by decide), if_neg (by decide), c_ne_p (by decide) (by decide), if_pos (by decide), lfail_b h hb, ob_s]
theorem all7_b {M : am_M} {p bad d x : Int} {s fu : Nat} {rc : Int → am_M → Option am_M} (h : VSt M p s bad) (hb : bad < 0 ∧ -7000 ≤ bad) (hx : am_R x) : LawReader_readAll_16_7 rc (fu + 1) d x M = some M := by
  rw [LawReader_readAll_16_7]
  unfold LawReader_readAll_16_69
  rw [lhere_b h hb, ob_s, c_ne_p (by decide) (by decide), if_pos (by decide), c_ge_p hx (by decide)]
  split <;> rfl
theorem cho7_b {M : am_M} {p bad d x : Int} {s fu : Nat} {rc : Int → am_M → Option am_M} (h : VSt M p s bad) (hb : bad < 0 ∧ -7000 ≤ bad) (hx : am_R x) : LawReader_readChoice_16_7 rc (fu + 1) d x M = some M := by
  rw [LawReader_readChoice_16_7]
  unfold LawReader_readChoice_16_69
  rw [lhere_b h hb, ob_s, c_ne_p (by decide) (by decide), if_pos (by decide), c_ge_p hx (by decide)]
  split <;> rfl
theorem lexp {g M : am_M} {n p c : Int} {s : Nat} (hg : WG g) (hn : 1 ≤ n ∧ n ≤ 240) (hX : TX g n M) (hp : 0 ≤ p ∧ p ≤ n) (h : VSt M p s 0) (hc : 0 < c ∧ c < 256) : ∃ N, LawReader_expect_16 c M = some N ∧ (∀ s', VG s' M N) ∧ (taS g n p = c → VSt N (p + 1) s 0 ∧ N 18 = M 18 ∧ N 19 = M 19) ∧ (taS g n p ≠ c → VSt N p s (-1000 - p)) := by
  have htb := taS_b hg (n := n) (by omega) p
  unfold LawReader_expect_16 LawReader_expect_16_26
  rw [lhere_0 (by omega) hX (by omega) h, ob_s, c_ne_p (by omega) (by omega)]
  by_cases q : taS g n p = c
  · obtain ⟨u1, u2⟩ := h.p (q := p + 1)
    rw [if_neg (fun z => z q), h.2.1, fw_p]
    exact ⟨_, rfl, u2, fun _ => ⟨u1, upo (by decide), upo (by decide)⟩, fun z => absurd q z⟩
  · obtain ⟨N, a1, a2, a3⟩ := lfail_0 (f := 1) h
    rw [if_pos q, a1, ob_s]
    exact ⟨N, rfl, a3, fun z => absurd z q, fun _ => by rw [show -1000 - p = -1000 * 1 - p by omega]; exact a2⟩
theorem lexp_b {M : am_M} {p bad c : Int} {s : Nat} (h : VSt M p s bad) (hb : bad < 0 ∧ -7000 ≤ bad) (hc : 0 < c ∧ c < 256) : LawReader_expect_16 c M = some M := by
  unfold LawReader_expect_16 LawReader_expect_16_26
  rw [lhere_b h hb, ob_s, c_ne_p (by decide) (by omega), if_pos (by omega), lfail_b h hb, ob_s]
theorem tes_ok {g : am_M} {n : Int} {d f : Nat} (hg : WG g) (hn : 1 ≤ n ∧ n ≤ 240) (hd : d ≤ 6) (h1d : 1 ≤ d) (hC : d < 6 → ChoOK g n (d + 1) f) (hT : d < 6 → TestOK g n (d + 1) f) : TestOK g n d (f + 1) := by
  intro p vs ops s M ho hh0 hp hs hX hV
  show ∃ N, LawReader_readTest_16 (fun b0 M => K_LawReader_readChoice_R f 0 b0 M) (fun b0 M => K_LawReader_readChoice_R f 2 b0 M) (d : Int) M = some N ∧ _
  have htb := taS_b hg (n := n) (by omega) p
  have hh := lhere_0 (by omega) hX (by omega) hV
  have hfe := cf_e (g := g) (beh := false) (vs := vs) (ops := ops) hn.2 hp.1 hp.2
  unfold cB at hfe
  rw [if_neg (by decide)] at hfe
  unfold LawReader_readTest_16 LawReader_readTest_16_130
  rw [hh, ob_s, c_ne_p (by omega) (by decide), c_ne_p (by omega) (by decide)]
  have hopn : ∀ c : Int, c = 91 ∨ c = 40 ∨ c = 33 → opn (c :: ops) = opn ops + 1 := fun c hc => by
    show (if c = 91 ∨ c = 40 ∨ c = 33 then 1 else 0) + opn ops = _
    rw [if_pos hc]
    omega
  have hopens : (taS g n p = 33 ∨ taS g n p = 40) → (d < 6 → LawReader_opens_16 (d : Int) M = some (1, am_up M 16 2 (p + 1))) ∧ (¬ d < 6 → ∃ N, LawReader_opens_16 (d : Int) M = some (0, N) ∧ CT g n (cfin g n false p vs ops) (fun p' x => cfin g n true p' (enS ops (x :: vs)).1 (enS ops (x :: vs)).2) p s s false (fun _ => True) M N) := fun hc => by
    have hpn := ta_n (g := g) (n := n) (p := p) hp.1 (by omega)
    rw [if_pos hc, ho] at hfe
    unfold LawReader_opens_16
    rw [c_lt_p (by omega) (by decide)]
    refine ⟨fun q => by rw [if_pos (by omega), hV.2.1, fw_p], fun q => ?_⟩
    rw [if_pos (by omega)] at hfe
    obtain ⟨N2, c1, c2, c3⟩ := lfail_0 (f := 5) hV
    rw [if_neg (by omega), c1, ob_s]
    exact ⟨N2, rfl, c3 s, p, s, _, c2, Nat.le_refl _, by omega, Or.inl ⟨by omega, by omega, by rw [hfe]; dsimp only; omega⟩⟩
  by_cases q1 : taS g n p = 33
  · have hpn := ta_n (g := g) (n := n) (p := p) hp.1 (by omega)
    rw [if_neg (fun h => h q1)]
    obtain ⟨o1, o2⟩ := hopens (Or.inl q1)
    by_cases q2 : d < 6
    · rw [if_pos (Or.inl q1), if_neg (by omega), q1] at hfe
      obtain ⟨v1, v2⟩ := hV.p (q := p + 1)
      rw [o1 q2, oc_s, c_eq_p (by decide) (by decide), if_neg (by decide)]
      obtain ⟨N, a1, a2, p', s', bad, b1, b2, b3, b4⟩ := hT q2 (p + 1) vs (33 :: ops) s _ (by rw [hopn 33 (by decide)]; omega) (Or.inr (Or.inl rfl)) (by omega) (by omega) (hX.vg (v2 s)) v1
      have f2 := (v2 s).tr a2
      dsimp only
      rw [show (d : Int) + 1 = ((d + 1 : Nat) : Int) by omega, a1, ob_s]
      rcases b4 with ⟨z1, z2, z3⟩ | ⟨z1, y, z2, z3, z4, z5, z6, z7, z8, z9, z10⟩
      · obtain ⟨r, N2, g1, g2, g3, s2, g4, g5, g6⟩ := lemit (v := 2) (w := 0) (s0 := s) b1 b3 (by omega)
        rw [g1, oc_s]
        exact ⟨N2, rfl, f2.tr g2, p', s2, bad, g4, by omega, g6, Or.inl ⟨z1, z2, by rw [hfe]; exact z3⟩⟩
      · subst z1
        have hp2 := z6.2 rfl
        obtain ⟨r, N2, g1, g2, g3, _⟩ := lemit (v := 2) (w := 0) (s0 := s) b1 b3 (by omega)
        obtain ⟨d1, d2, d3, d4, d5⟩ := g3 (by omega)
        rw [g1, oc_s]
        refine ⟨N2, rfl, f2.tr g2, p', s' + 1, 0, d2, by omega, by omega, Or.inr ⟨rfl, ngX y, by show _ = s + (y.1 + 1); omega, ⟨ngX_O z3.1, rfl⟩, ngX_C z3.1 (z4.cg (fun j h1 h2 => d5.2.2 j (by omega))) (by rw [← z2]; exact d3), z5, ⟨by omega, fun _ => by omega⟩, z7, by omega, ?_, trivial⟩⟩
        rw [hfe, z9]
        show cfin g n true p' (if (33 : Int) = 33 then enS ops (ng1 (y :: vs)) else _).1 (if (33 : Int) = 33 then enS ops (ng1 (y :: vs)) else _).2 = _
        rw [if_pos rfl]
        rfl
    · obtain ⟨N, w1, w2⟩ := o2 q2
      rw [w1, oc_s, c_eq_p (by decide) (by decide), if_pos rfl]
      exact ⟨N, rfl, w2⟩
  rw [if_pos q1]
  by_cases q1' : taS g n p = 40
  · have hpn := ta_n (g := g) (n := n) (p := p) hp.1 (by omega)
    rw [if_neg (fun h => h q1')]
    obtain ⟨o1, o2⟩ := hopens (Or.inr q1')
    by_cases q2 : d < 6
    · rw [if_pos (Or.inr q1'), if_neg (by omega), q1'] at hfe
      obtain ⟨v1, v2⟩ := hV.p (q := p + 1)
      rw [o1 q2, oc_s, c_eq_p (by decide) (by decide), if_neg (by decide)]
      obtain ⟨N, a1, a2, p', s', bad, b1, b2, b3, b4⟩ := hC q2 (p + 1) vs (40 :: ops) s _ (by rw [hopn 40 (by decide)]; omega) rfl (by omega) (by omega) (hX.vg (v2 s)) v1
      have f2 := (v2 s).tr a2
      dsimp only
      rw [show (d : Int) + 1 = ((d + 1 : Nat) : Int) by omega, a1, ob_s]
      rcases b4 with ⟨z1, z2, z3⟩ | ⟨z1, y, z2, z3, z4, z5, z6, z7, z8, z9, z10⟩
      · rw [lexp_b b1 ⟨z1, z2⟩ (by decide), ob_s]
        exact ⟨N, rfl, f2, p', s', bad, b1, b2, b3, Or.inl ⟨z1, z2, by rw [hfe]; exact z3⟩⟩
      · subst z1
        have hp2 := z6.2 rfl
        obtain ⟨N2, c1, c2, c3, c4⟩ := lexp hg hn (hX.vg f2) (c := 41) (by omega) b1 (by decide)
        rw [c1, ob_s]
        have hfe2 := cf_e (g := g) (beh := true) (p := p') (vs := y :: vs) (ops := 40 :: ops) hn.2 (by omega) z7
        unfold cB at hfe2
        rw [if_pos rfl, if_neg z10.1, if_neg z10.2, jo_n (by show ¬ ((40 : Int) = 38 ∨ (true = true ∧ (40 : Int) = 124)); decide)] at hfe2
        have hne : ops.length ≠ 0 := fun z => by
          cases ops with
          | nil => exact absurd hh0 (by decide)
          | cons c r => rw [List.length_cons] at z; omega
        by_cases q3 : taS g n p' = 41
        · have hpn' := ta_n (g := g) (n := n) (p := p') (by omega) (by omega)
          rw [if_pos q3, if_neg (show ¬ (((y :: vs, 40 :: ops) : List SX × List Int).2.tail.length = 0) from hne)] at hfe2
          obtain ⟨w1, w2, w3⟩ := c3 q3
          refine ⟨N2, rfl, f2.tr (c2 s), p' + 1, s', 0, w1, b2, b3, Or.inr ⟨rfl, y, z2, z3, by rw [w2, w3]; exact z4, z5, ⟨by omega, fun _ => by omega⟩, by omega, by omega, hfe.trans (z9.trans hfe2), trivial⟩⟩
        · rw [if_neg q3] at hfe2
          exact ⟨N2, rfl, f2.tr (c2 s), p', s', _, c4 q3, b2, b3, Or.inl ⟨by omega, by omega, by rw [show cfin g n false p vs ops = _ from hfe.trans (z9.trans hfe2)]⟩⟩
    · obtain ⟨N, w1, w2⟩ := o2 q2
      rw [w1, oc_s, c_eq_p (by decide) (by decide), if_pos rfl]
      exact ⟨N, rfl, w2⟩
  rw [if_pos q1']
  rw [if_neg (by omega)] at hfe
  have hb0 : ¬ tiO (hdO ops) ∧ ¬ plO (hdO ops) ∧ hdO ops ≠ 91 := by omega
  obtain ⟨N, a1, a2, p1, s1, bad, b1, b2, b3, b4⟩ := sum_al hg hn hd p vs ops s M ho hb0.1 hb0.2.1 hp hs hX hV
  have a1' : K_LawReader_readSum (d : Int) M = some N := a1
  rw [a1', ob_s]
  rcases b4 with ⟨z1, z2, z3⟩ | ⟨z1, x, z2, z3, z4, z5, z6, z7, z8, z9, z10⟩
  · rw [lhere_b b1 ⟨z1, z2⟩, ob_s, c_eq_p (by decide) (by decide), if_neg (by decide), c_eq_p (by decide) (by decide), if_neg (by decide), c_ne_p (by decide) (by decide), if_pos (by decide), lfail_b b1 ⟨z1, z2⟩, ob_s]
    exact ⟨N, rfl, a2, p1, s1, bad, b1, b2, b3, Or.inl ⟨z1, z2, by rw [hfe, ts_b z3 (by omega)]⟩⟩
  subst z1
  have hp2 := z6.2 rfl
  have htb1 := taS_b hg (n := n) (by omega) p1
  have hve := v_end (x := x) (vs := vs) hn.2 (show 0 ≤ p1 ∧ p1 ≤ n by omega) hb0 z10
  rw [← z9] at hve
  rw [lhere_0 (by omega) (hX.vg a2) (by omega) b1, ob_s, c_eq_p (by omega) (by decide), c_eq_p (by omega) (by decide), c_ne_p (by omega) (by decide)]
  by_cases q2 : cpO (taS g n p1)
  · have hpn1 := ta_n (g := g) (n := n) (p := p1) (by omega) (by omega)
    rw [if_neg (by omega)] at hve
    rw [ts_v hve, if_pos q2] at hfe
    have hif : ∀ a c : Option am_M, (if taS g n p1 = 60 then a else if taS g n p1 = 62 then a else if taS g n p1 ≠ 61 then c else a) = a := fun a c => by
      rcases q2 with z | z | z
      · rw [if_pos z]
      · rw [if_neg (by omega), if_neg (by omega), if_neg (fun h => h z)]
      · rw [if_neg (by omega), if_pos z]
    rw [hif]
    unfold LawReader_readTest_16_97 LawReader_readTest_16_130
    obtain ⟨v1, v2⟩ := b1.p (q := p1 + 1)
    rw [b1.2.1, fw_p]
    have f1 := a2.tr (v2 s)
    obtain ⟨N2, e1, e2, p3, s3, bad3, e3, e4, e5, e6⟩ := sum_al hg hn hd (p1 + 1) (x :: vs) (taS g n p1 :: ops) s1 _ (by rw [opn_c (by omega)]; exact ho) (show ¬ tiO (taS g n p1) by omega) (show ¬ plO (taS g n p1) by omega) (by omega) (by omega) (hX.vg f1) v1
    have e1' : K_LawReader_readSum (d : Int) (am_up N 16 2 (p1 + 1)) = some N2 := e1
    have f2 := f1.tr (e2.lo b2)
    rw [e1', ob_s]
    rcases e6 with ⟨y1, y2, y3⟩ | ⟨y1, y, y2, y3, y4, y5, y6, y7, y8, y9, y10⟩
    · obtain ⟨r, N3, g1, g2, g3, s2, g4, g5, g6⟩ := lemit (v := taS g n p1) (w := 0) (s0 := s) e3 e5 (by omega)
      rw [g1, oc_s]
      exact ⟨N3, rfl, f2.tr g2, p3, s2, bad3, g4, by omega, g6, Or.inl ⟨y1, y2, by rw [hfe, if_pos (by rw [y3]; omega)]; exact y3⟩⟩
    · subst y1
      have hp3 := y6.2 rfl
      obtain ⟨r, N3, g1, g2, g3, _⟩ := lemit (v := taS g n p1) (w := 0) (s0 := s) e3 e5 (by omega)
      obtain ⟨d1, d2, d3, d4, d5⟩ := g3 (by omega)
      rw [g1, oc_s]
      have cx' : CE (N3 18) (N3 19) s x := z4.cg (fun j h1 h2 => by
        have w1 := d5.2.2 j (by omega)
        have w2 := e2.2.2 j (by omega)
        have w3 := (v2 s1).2.2 j (by omega)
        rw [w1.1, w1.2, w2.1, w2.2, w3.1, w3.2]
        exact ⟨rfl, rfl⟩)
      have cy' : CE (N3 18) (N3 19) (s + x.1) y := by
        rw [← z2]
        exact y4.cg (fun j h1 h2 => d5.2.2 j (by omega))
      have hbi := biX_C (c := taS g n p1) (Or.inl q2) z3 y3 cx' cy' (by rw [← z2, ← y2]; exact d3)
      have hve2 := v_end (x := y) (vs := x :: vs) (ops := taS g n p1 :: ops) hn.2 (show 0 ≤ p3 ∧ p3 ≤ n by omega) (by show ¬ tiO (taS g n p1) ∧ ¬ plO (taS g n p1) ∧ taS g n p1 ≠ 91; omega) y10
      rw [← y9] at hve2
      refine ⟨N3, rfl, f2.tr g2, p3, s3 + 1, 0, d2, by omega, by omega, Or.inr ⟨rfl, biX (taS g n p1) x y, by show _ = s + (x.1 + y.1 + 1); omega, ⟨biX_O z3 y3, by show decide (cpO (taS g n p1)) = true; exact decide_eq_true q2⟩, hbi, Nat.max_le.mpr ⟨by omega, by omega⟩, ⟨by omega, fun _ => by omega⟩, y7, by omega, ?_, trivial⟩⟩
      rw [hfe, hve2]
      by_cases q3 : taS g n p3 = 93
      · rw [if_pos q3, if_pos (by dsimp only; omega)]
        have hfe3 := cf_e (g := g) (beh := true) (p := p3) (vs := (enS ops (biX (taS g n p1) x y :: vs)).1) (ops := (enS ops (biX (taS g n p1) x y :: vs)).2) hn.2 (by omega) y7
        unfold cB at hfe3
        rw [if_pos rfl, if_neg (by omega), if_neg (by omega), if_neg (by omega)] at hfe3
        dsimp only
        rw [hfe3]
      · rw [if_neg q3, if_neg (fun h => h rfl), if_pos (by dsimp only; omega)]
        rfl
  · have hif : ∀ a c : Option am_M, (if taS g n p1 = 60 then a else if taS g n p1 = 62 then a else if taS g n p1 ≠ 61 then c else a) = c := fun a c => by
      rw [if_neg (by omega), if_neg (by omega), if_pos (by omega)]
    obtain ⟨N2, c1, c2, c3⟩ := lfail_0 (f := 1) b1
    rw [hif, c1, ob_s]
    refine ⟨N2, rfl, a2.tr (c3 s), p1, s1, _, c2, b2, b3, Or.inl ⟨by omega, by omega, ?_⟩⟩
    by_cases q3 : taS g n p1 = 93
    · rw [if_pos q3] at hve
      rw [hfe, ts_b (f := -1000 - p1) (by rw [hve]) (by omega)]
      dsimp only
      omega
    · rw [if_neg q3] at hve
      rw [hfe, ts_v hve, if_neg q2]
      dsimp only
      omega
