-- the law read: values, by the class: products, sums
theorem opn_c {c : Int} {ops : List Int} (h : c ≠ 91 ∧ c ≠ 40 ∧ c ≠ 33) : opn (c :: ops) = opn ops := by
  show (if c = 91 ∨ c = 40 ∨ c = 33 then 1 else 0) + opn ops = opn ops
  rw [if_neg (by omega)]
  omega
theorem pro_7 {g : am_M} {n : Int} {d f s : Nat} (hg : WG g) (hn : 1 ≤ n ∧ n ≤ 240) (hd : d ≤ 6) (hF : FacOK g n d f) {vs : List SX} {ops : List Int} (ho : opn ops = d) (ht : ¬ tiO (hdO ops)) : ∀ (k fu : Nat) (x2 p : Int) (x : SX) (M : am_M), n - p ≤ k → k + 1 < fu → 0 ≤ x2 ∧ x2 < p → p ≤ n → TX g n M → VSt M p (s + x.1) 0 → XO x → CE (M 18) (M 19) s x → x.2.1 ≤ 14 - 2 * d → ((s + x.1 : Nat) : Int) ≤ p → ∃ N, LawReader_readProduct_16_7 (fun b0 M => K_LawReader_readSum_R f 2 b0 M) fu (d : Int) x2 M = some N ∧ VO g n true p vs (x :: vs) ops (14 - 2 * d) s (s + x.1) (fun c => ¬ tiO c) M N
  | k, 0, x2, p, x, M, e, hf, hx, hp, hX, hV, ox, cx, dx, sx => by omega
  | k, fu + 1, x2, p, x, M, e, hf, hx, hp, hX, hV, ox, cx, dx, sx => by
    have htb := taS_b hg (n := n) (by omega) p
    have hh := lhere_0 (by omega) hX (by omega) hV
    have hx1 := ox.1.1
    rw [LawReader_readProduct_16_7]
    unfold LawReader_readProduct_16_60
    by_cases q1 : tiO (taS g n p)
    · have hpn := ta_n (g := g) (n := n) (p := p) (by omega) (by omega)
      have hfe := vf_e (g := g) (beh := true) (p := p) (vs := x :: vs) (ops := ops) hn.2 (by omega) hp
      unfold vB at hfe
      rw [if_pos rfl, if_pos q1, sm_n (by intro z; rcases z with z | z; exact ht z; cases z.1)] at hfe
      dsimp only at hfe
      obtain ⟨v1, v2⟩ := hV.p (q := p + 1)
      obtain ⟨N, a1, a2, p', s', bad, b1, b2, b3, b4⟩ := hF (p + 1) (x :: vs) (taS g n p :: ops) (s + x.1) _ (by rw [opn_c (by omega)]; exact ho) (by omega) (by omega) (hX.vg (v2 s)) v1
      have f2 := (v2 s).tr (a2.lo (show s ≤ s + x.1 by omega))
      rw [c_ge_p (by omega) (by decide), if_neg (by omega), hh, ob_s, lps_eq (by omega), ob_s, if_pos q1, c_eq_p (by decide) (by decide), if_neg (by decide), ob_s, hV.2.1, fw_p, a1, ob_s]
      obtain ⟨fu, rfl⟩ : ∃ f', fu = f' + 1 := ⟨fu - 1, by omega⟩
      rcases b4 with ⟨z1, z2, z3⟩ | ⟨z1, y, z2, z3, z4, z5, z6, z7, z8, z9, z10⟩
      · obtain ⟨r, N2, g1, g2, g3, s2, g4, g5, g6⟩ := lemit (v := taS g n p) (w := 0) (s0 := s) b1 b3 (by omega)
        rw [g1, oc_s, pro7_b g4 ⟨z1, z2⟩ (by omega)]
        exact ⟨N2, rfl, f2.tr g2, p', s2, bad, g4, by omega, g6, Or.inl ⟨z1, z2, by rw [hfe]; exact z3⟩⟩
      · subst z1
        obtain ⟨r, N2, g1, g2, g3, _⟩ := lemit (v := taS g n p) (w := 0) (s0 := s) b1 b3 (by omega)
        obtain ⟨d1, d2, d3, d4, d5⟩ := g3 (by omega)
        have hp2 := z6.2 rfl
        have f3 := f2.tr g2
        have cx' : CE (N2 18) (N2 19) s x := cx.cg (fun j h1 h2 => by
          have w1 := d5.2.2 j (by omega)
          have w2 := a2.2.2 j (by omega)
          have w3 := (v2 (s + x.1)).2.2 j (by omega)
          rw [w1.1, w1.2, w2.1, w2.2, w3.1, w3.2]
          exact ⟨rfl, rfl⟩)
        have cy' : CE (N2 18) (N2 19) (s + x.1) y := z4.cg (fun j h1 h2 => d5.2.2 j (by omega))
        have hbi := biX_C (c := taS g n p) (by omega) ox z3 cx' cy' (by rw [← z2]; exact d3)
        have hdm : (biX (taS g n p) x y).2.1 ≤ 14 - 2 * d := Nat.max_le.mpr ⟨dx, by omega⟩
        have hl : (biX (taS g n p) x y).1 = x.1 + y.1 + 1 := rfl
        rw [g1, oc_s]
        obtain ⟨N3, i1, i2, p3, s3, bad3, i3, i4, i5, i6⟩ := pro_7 (s := s) (vs := vs) hg hn hd hF ho ht (k - 1) (fu + 1) (x2 + 1) p' (biX (taS g n p) x y) N2 (by omega) (by omega) (by omega) z7 (hX.vg f3) (by rw [hl, show s + (x.1 + y.1 + 1) = s' + 1 by omega]; exact d2) (biX_O ox z3) hbi hdm (by rw [hl]; omega)
        refine ⟨N3, i1, f3.tr i2, p3, s3, bad3, i3, i4, i5, ?_⟩
        rw [hfe, z9, vf_T hn.2 (by omega) z7 q1]
        rcases i6 with w | ⟨w1, z, w2, w3, w4, w5, w6, w7, w8, w9⟩
        · exact Or.inl w
        · rw [hl] at w8
          exact Or.inr ⟨w1, z, w2, w3, w4, w5, ⟨by omega, fun h => by cases h⟩, w7, by omega, w9⟩
    · refine ⟨M, ?_, VG.rf, p, s + x.1, 0, hV, by omega, by omega, Or.inr ⟨rfl, x, rfl, ox, cx, dx, ⟨by omega, fun h => by cases h⟩, hp, by omega, rfl, q1⟩⟩
      rw [c_ge_p (by omega) (by decide), if_neg (by omega), hh, ob_s, lps_eq (by omega), ob_s, if_neg q1, c_eq_p (by decide) (by decide), if_pos rfl]
theorem pro_ok {g : am_M} {n : Int} {d f : Nat} (hg : WG g) (hn : 1 ≤ n ∧ n ≤ 240) (hd : d ≤ 6) (hF : FacOK g n d (f + 1)) : ProOK g n d (f + 2) := by
  intro p vs ops s M ho ht hp hs hX hV
  show ∃ N, LawReader_readProduct_16 (fun b0 M => K_LawReader_readSum_R (f + 1) 2 b0 M) (d : Int) M = some N ∧ _
  unfold LawReader_readProduct_16
  obtain ⟨N, a1, a2, p', s', bad, b1, b2, b3, b4⟩ := hF p vs ops s M ho hp hs hX hV
  dsimp only
  rw [a1, ob_s]
  rcases b4 with ⟨z1, z2, z3⟩ | ⟨z1, x, z2, z3, z4, z5, z6, z7, z8, z9, z10⟩
  · rw [show am_big = 999999 + 1 from rfl, pro7_b b1 ⟨z1, z2⟩ (by decide)]
    exact ⟨N, rfl, a2, p', s', bad, b1, b2, b3, Or.inl ⟨z1, z2, z3⟩⟩
  · subst z1
    have hp2 := z6.2 rfl
    rw [z2] at b1
    obtain ⟨N3, i1, i2, p3, s3, bad3, i3, i4, i5, i6⟩ := pro_7 (s := s) (vs := vs) hg hn hd hF ho ht 240 am_big 0 p' x N (by omega) (by show 241 < 1000000; omega) (by omega) z7 (hX.vg a2) b1 z3 z4 (by omega) (by omega)
    refine ⟨N3, i1, a2.tr i2, p3, s3, bad3, i3, i4, i5, ?_⟩
    rw [z9]
    rcases i6 with w | ⟨w1, z, w2, w3, w4, w5, w6, w7, w8, w9⟩
    · exact Or.inl w
    · exact Or.inr ⟨w1, z, w2, w3, w4, w5, ⟨by omega, fun _ => by omega⟩, w7, by omega, w9⟩
theorem sum_7 {g : am_M} {n : Int} {d f s : Nat} (hg : WG g) (hn : 1 ≤ n ∧ n ≤ 240) (hd : d ≤ 6) (hP : ProOK g n d f) {vs : List SX} {ops : List Int} (ho : opn ops = d) (ht : ¬ tiO (hdO ops)) (hpl : ¬ plO (hdO ops)) : ∀ (k fu : Nat) (x2 p : Int) (x : SX) (M : am_M), n - p ≤ k → k + 1 < fu → 0 ≤ x2 ∧ x2 < p → p ≤ n → TX g n M → VSt M p (s + x.1) 0 → XO x → CE (M 18) (M 19) s x → x.2.1 ≤ 15 - 2 * d → ((s + x.1 : Nat) : Int) ≤ p → ¬ tiO (taS g n p) → ∃ N, LawReader_readSum_16_7 (fun b0 M => K_LawReader_readSum_R f 1 b0 M) fu (d : Int) x2 M = some N ∧ VO g n true p vs (x :: vs) ops (15 - 2 * d) s (s + x.1) (fun c => ¬ tiO c ∧ ¬ plO c) M N
  | k, 0, x2, p, x, M, e, hf, hx, hp, hX, hV, ox, cx, dx, sx, hti => by omega
  | k, fu + 1, x2, p, x, M, e, hf, hx, hp, hX, hV, ox, cx, dx, sx, hti => by
    have htb := taS_b hg (n := n) (by omega) p
    have hh := lhere_0 (by omega) hX (by omega) hV
    have hx1 := ox.1.1
    rw [LawReader_readSum_16_7]
    unfold LawReader_readSum_16_68
    by_cases q1 : plO (taS g n p)
    · have hpn := ta_n (g := g) (n := n) (p := p) (by omega) (by omega)
      have hfe := vf_e (g := g) (beh := true) (p := p) (vs := x :: vs) (ops := ops) hn.2 (by omega) hp
      unfold vB at hfe
      rw [if_pos rfl, if_neg hti, if_pos q1, sm_n (by intro z; rcases z with z | z; exact ht z; exact hpl z.2)] at hfe
      dsimp only at hfe
      obtain ⟨v1, v2⟩ := hV.p (q := p + 1)
      obtain ⟨N, a1, a2, p', s', bad, b1, b2, b3, b4⟩ := hP (p + 1) (x :: vs) (taS g n p :: ops) (s + x.1) _ (by rw [opn_c (by omega)]; exact ho) hti (by omega) (by omega) (hX.vg (v2 s)) v1
      have f2 := (v2 s).tr (a2.lo (show s ≤ s + x.1 by omega))
      have hgo : ∀ k7, LawReader_readSum_16_32 (fun b0 M => K_LawReader_readSum_R f 1 b0 M) k7 (d : Int) x2 M = oc (Law_emit_17 (taS g n p) 0 N) fun v4 M5 => k7 (d : Int) (x2 + 1) M5 := fun k7 => by
        unfold LawReader_readSum_16_32
        rw [hh, ob_s, hV.2.1, fw_p]
        dsimp only
        rw [a1, ob_s]
      rw [c_ge_p (by omega) (by decide), if_neg (by omega), hh, ob_s, c_eq_p (by omega) (by decide), ob_s, c_ne_p (by omega) (by decide), hgo]
      obtain ⟨fu, rfl⟩ : ∃ f', fu = f' + 1 := ⟨fu - 1, by omega⟩
      have hif : ∀ (a b : Option am_M), (if taS g n p = 43 then a else if taS g n p ≠ 45 then b else a) = a := fun a b => by
        rcases q1 with z | z
        · rw [if_pos z]
        · rw [if_neg (by omega), if_neg (fun h => h z)]
      rw [hif]
      rcases b4 with ⟨z1, z2, z3⟩ | ⟨z1, y, z2, z3, z4, z5, z6, z7, z8, z9, z10⟩
      · obtain ⟨r, N2, g1, g2, g3, s2, g4, g5, g6⟩ := lemit (v := taS g n p) (w := 0) (s0 := s) b1 b3 (by omega)
        rw [g1, oc_s, sum7_b g4 ⟨z1, z2⟩ (by omega)]
        exact ⟨N2, rfl, f2.tr g2, p', s2, bad, g4, by omega, g6, Or.inl ⟨z1, z2, by rw [hfe]; exact z3⟩⟩
      · subst z1
        obtain ⟨r, N2, g1, g2, g3, _⟩ := lemit (v := taS g n p) (w := 0) (s0 := s) b1 b3 (by omega)
        obtain ⟨d1, d2, d3, d4, d5⟩ := g3 (by omega)
        have hp2 := z6.2 rfl
        have f3 := f2.tr g2
        have cx' : CE (N2 18) (N2 19) s x := cx.cg (fun j h1 h2 => by
          have w1 := d5.2.2 j (by omega)
          have w2 := a2.2.2 j (by omega)
          have w3 := (v2 (s + x.1)).2.2 j (by omega)
          rw [w1.1, w1.2, w2.1, w2.2, w3.1, w3.2]
          exact ⟨rfl, rfl⟩)
        have cy' : CE (N2 18) (N2 19) (s + x.1) y := z4.cg (fun j h1 h2 => d5.2.2 j (by omega))
        have hbi := biX_C (c := taS g n p) (by omega) ox z3 cx' cy' (by rw [← z2]; exact d3)
        have hdm : (biX (taS g n p) x y).2.1 ≤ 15 - 2 * d := Nat.max_le.mpr ⟨dx, by omega⟩
        have hl : (biX (taS g n p) x y).1 = x.1 + y.1 + 1 := rfl
        rw [g1, oc_s]
        obtain ⟨N3, i1, i2, p3, s3, bad3, i3, i4, i5, i6⟩ := sum_7 (s := s) (vs := vs) hg hn hd hP ho ht hpl (k - 1) (fu + 1) (x2 + 1) p' (biX (taS g n p) x y) N2 (by omega) (by omega) (by omega) z7 (hX.vg f3) (by rw [hl, show s + (x.1 + y.1 + 1) = s' + 1 by omega]; exact d2) (biX_O ox z3) hbi hdm (by rw [hl]; omega) z10
        refine ⟨N3, i1, f3.tr i2, p3, s3, bad3, i3, i4, i5, ?_⟩
        rw [hfe, z9, vf_P hn.2 (by omega) z7 q1 z10]
        rcases i6 with w | ⟨w1, z, w2, w3, w4, w5, w6, w7, w8, w9⟩
        · exact Or.inl w
        · rw [hl] at w8
          exact Or.inr ⟨w1, z, w2, w3, w4, w5, ⟨by omega, fun h => by cases h⟩, w7, by omega, w9⟩
    · refine ⟨M, ?_, VG.rf, p, s + x.1, 0, hV, by omega, by omega, Or.inr ⟨rfl, x, rfl, ox, cx, dx, ⟨by omega, fun h => by cases h⟩, hp, by omega, rfl, hti, q1⟩⟩
      rw [c_ge_p (by omega) (by decide), if_neg (by omega), hh, ob_s, c_eq_p (by omega) (by decide), if_neg (by omega), ob_s, c_ne_p (by omega) (by decide), if_pos (by omega)]
theorem sum_ok {g : am_M} {n : Int} {d f : Nat} (hg : WG g) (hn : 1 ≤ n ∧ n ≤ 240) (hd : d ≤ 6) (hP : ProOK g n d (f + 2)) : SumOK g n d (f + 3) := by
  intro p vs ops s M ho ht hpl hp hs hX hV
  show ∃ N, LawReader_readSum_16 (fun b0 M => K_LawReader_readSum_R (f + 2) 1 b0 M) (d : Int) M = some N ∧ _
  unfold LawReader_readSum_16
  obtain ⟨N, a1, a2, p', s', bad, b1, b2, b3, b4⟩ := hP p vs ops s M ho ht hp hs hX hV
  dsimp only
  rw [a1, ob_s]
  rcases b4 with ⟨z1, z2, z3⟩ | ⟨z1, x, z2, z3, z4, z5, z6, z7, z8, z9, z10⟩
  · rw [show am_big = 999999 + 1 from rfl, sum7_b b1 ⟨z1, z2⟩ (by decide)]
    exact ⟨N, rfl, a2, p', s', bad, b1, b2, b3, Or.inl ⟨z1, z2, z3⟩⟩
  · subst z1
    have hp2 := z6.2 rfl
    rw [z2] at b1
    obtain ⟨N3, i1, i2, p3, s3, bad3, i3, i4, i5, i6⟩ := sum_7 (s := s) (vs := vs) hg hn hd hP ho ht hpl 240 am_big 0 p' x N (by omega) (by show 241 < 1000000; omega) (by omega) z7 (hX.vg a2) b1 z3 z4 (by omega) (by omega) z10
    refine ⟨N3, i1, a2.tr i2, p3, s3, bad3, i3, i4, i5, ?_⟩
    rw [z9]
    rcases i6 with w | ⟨w1, z, w2, w3, w4, w5, w6, w7, w8, w9⟩
    · exact Or.inl w
    · exact Or.inr ⟨w1, z, w2, w3, w4, w5, ⟨by omega, fun _ => by omega⟩, w7, by omega, w9⟩
theorem sum_lv {g : am_M} {n : Int} (hg : WG g) (hn : 1 ≤ n ∧ n ≤ 240) : ∀ (k d f : Nat), d + k = 6 → SumOK g n d (3 * k + f + 3)
  | 0, d, f, h => sum_ok hg hn (by omega) (pro_ok hg hn (by omega) (fac_ok hg hn (by omega) (fun z => by omega)))
  | k + 1, d, f, h => by
    have ih := sum_lv hg hn k (d + 1) f (by omega)
    have := sum_ok hg hn (d := d) (f := 3 * k + f + 3) (by omega) (pro_ok hg hn (by omega) (fac_ok hg hn (by omega) (fun _ => ih)))
    rw [show 3 * (k + 1) + f + 3 = 3 * k + f + 3 + 3 by omega]
    exact this
theorem sum_al {g : am_M} {n : Int} {d : Nat} (hg : WG g) (hn : 1 ≤ n ∧ n ≤ 240) (hd : d ≤ 6) : SumOK g n d 40 := by
  have := sum_lv hg hn (6 - d) d (37 - 3 * (6 - d)) (by omega)
  rw [show 3 * (6 - d) + (37 - 3 * (6 - d)) + 3 = 40 by omega] at this
  exact this
