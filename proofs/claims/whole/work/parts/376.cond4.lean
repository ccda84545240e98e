-- the law read: conditions, by the class: & and |
theorem jk {c d : Int} {rc : Int → am_M → Option am_M} {M : am_M} {L : am_M → Option am_M} : (fw M 16 2 (M 16 2 + 1) fun M2 => oc (Law_emit_17 c 0 M2) fun v3 M4 => ob (rc d M4) fun M5 => ob (Law_setOperand_17 v3 (M5 17 2) M5) fun M6 => L M6) = ob (ob (fw M 16 2 (M 16 2 + 1) fun M2 => oc (Law_emit_17 c 0 M2) fun v3 M4 => ob (rc d M4) fun M5 => ob (Law_setOperand_17 v3 (M5 17 2) M5) fun M6 => some M6) some) L := by
  rw [fw_p, fw_p]
  cases Law_emit_17 c 0 (am_up M 16 2 (M 16 2 + 1)) with
  | none => rfl
  | some r =>
    obtain ⟨v, M4⟩ := r
    rw [oc_s, oc_s]
    cases rc d M4 with
    | none => rfl
    | some M5 =>
      rw [ob_s, ob_s]
      cases Law_setOperand_17 v (M5 17 2) M5 with
      | none => rfl
      | some M6 => rfl
theorem all_7 {g : am_M} {n : Int} {d f s : Nat} (hg : WG g) (hn : 1 ≤ n ∧ n ≤ 240) (hT : TestOK g n d f) {vs : List SX} {ops : List Int} (ho : opn ops = d) (hh0 : hdO ops = 40 ∨ hdO ops = 124) : ∀ (k fu : Nat) (x2 p : Int) (x : SX) (M : am_M), n - p ≤ k → k + 1 < fu → 0 ≤ x2 ∧ x2 < p → p ≤ n → TX g n M → VSt M p (s + x.1) 0 → XO x ∧ x.2.2.1 = true → CE (M 18) (M 19) s x → x.2.1 ≤ 20 → ((s + x.1 : Nat) : Int) ≤ p → ∃ N, LawReader_readAll_16_7 (fun b0 M => K_LawReader_readChoice_R f 2 b0 M) fu (d : Int) x2 M = some N ∧ CT g n (cfin g n true p (x :: vs) ops) (fun p' x => cfin g n true p' (x :: vs) ops) p s (s + x.1) true (fun c => c ≠ 38) M N
  | k, 0, x2, p, x, M, e, hf, hx, hp, hX, hV, ox, cx, dx, sx => by omega
  | k, fu + 1, x2, p, x, M, e, hf, hx, hp, hX, hV, ox, cx, dx, sx => by
    have htb := taS_b hg (n := n) (by omega) p
    have hh := lhere_0 (by omega) hX (by omega) hV
    have hx1 := ox.1.1.1
    rw [LawReader_readAll_16_7]
    unfold LawReader_readAll_16_69
    rw [c_ge_p (by omega) (by decide), if_neg (by omega), hh, ob_s, c_ne_p (by omega) (by decide)]
    by_cases q1 : taS g n p = 38
    · have hpn := ta_n (g := g) (n := n) (p := p) (by omega) (by omega)
      have hfe := cf_e (g := g) (beh := true) (p := p) (vs := x :: vs) (ops := ops) hn.2 (by omega) hp
      unfold cB at hfe
      rw [if_pos rfl, if_pos q1, jo_n (by intro z; rcases z with z | z; omega; cases z.1)] at hfe
      dsimp only at hfe
      rw [if_neg (fun h => h q1), jk]
      obtain ⟨N, p', s', bad, a1, a2, b1, b2, b3, b4⟩ := jstep (c := 4) (d := d) (rc := fun b0 M => K_LawReader_readChoice_R f 2 b0 M) (mk := fun y => anX x y) hn hV hX ⟨by omega, hpn⟩ sx ox.1 cx (fun M1 h1 h2 => hT (p + 1) (x :: vs) (38 :: ops) (s + x.1 + 1) M1 (by rw [opn_c (by decide)]; exact ho) (Or.inr (Or.inr (Or.inl rfl))) (by omega) (by omega) h1 h2) (fun y o' p' oy c1 c2 c3 c4 => anX_C ox.1 oy c1 c2 c3 c4) (fun y => rfl)
      rw [a1, ob_s]
      obtain ⟨fu, rfl⟩ : ∃ f', fu = f' + 1 := ⟨fu - 1, by omega⟩
      rcases b4 with ⟨z1, z2, z3⟩ | ⟨z1, y, z2, z3, z4, z5, z6, z7, z8, z9, z10⟩
      · rw [all7_b b1 ⟨z1, z2⟩ (by omega)]
        exact ⟨N, rfl, a2, p', s', bad, b1, by omega, b3, Or.inl ⟨z1, z2, by rw [hfe]; exact z3⟩⟩
      · subst z1
        have hl : (anX x y).1 = x.1 + y.1 + 1 := rfl
        have hl2 : s' = s + (anX x y).1 := z2
        rw [hl2] at b1
        have hen : cfin g n false (p + 1) (x :: vs) (38 :: ops) = cfin g n true p' (anX x y :: vs) ops := by
          rw [z9]
          rw [en_n (ops := 38 :: ops) (by show (38 : Int) ≠ 33; decide)]
          exact cf_A hn.2 (by omega) z7
        obtain ⟨N3, i1, i2, p3, s3, bad3, i3, i4, i5, i6⟩ := all_7 (s := s) (vs := vs) hg hn hT ho hh0 (k - 1) (fu + 1) (x2 + 1) p' (anX x y) N (by omega) (by omega) (by omega) z7 (hX.vg a2) b1 ⟨anX_O ox.1 z3.1 z3.2, rfl⟩ z4 (Nat.max_le.mpr ⟨dx, z5⟩) (by omega)
        refine ⟨N3, i1, a2.tr i2, p3, s3, bad3, i3, i4, i5, ?_⟩
        rw [hfe, hen]
        rcases i6 with w | ⟨w1, z, w2, w3, w4, w5, w6, w7, w8, w9⟩
        · exact Or.inl w
        · exact Or.inr ⟨w1, z, w2, w3, w4, w5, ⟨by omega, fun h => by cases h⟩, w7, by omega, w9⟩
    · rw [if_pos q1]
      exact ⟨M, rfl, VG.rf, p, s + x.1, 0, hV, by omega, by omega, Or.inr ⟨rfl, x, rfl, ox, cx, dx, ⟨by omega, fun h => by cases h⟩, hp, by omega, rfl, q1⟩⟩
theorem all_ok {g : am_M} {n : Int} {d f : Nat} (hg : WG g) (hn : 1 ≤ n ∧ n ≤ 240) (hT : TestOK g n d f) : AllOK g n d (f + 1) := by
  intro p vs ops s M ho hh0 hp hs hX hV
  show ∃ N, LawReader_readAll_16 (fun b0 M => K_LawReader_readChoice_R f 2 b0 M) (d : Int) M = some N ∧ _
  unfold LawReader_readAll_16
  obtain ⟨N, a1, a2, p', s', bad, b1, b2, b3, b4⟩ := hT p vs ops s M ho (by omega) hp hs hX hV
  dsimp only
  rw [a1, ob_s]
  rcases b4 with ⟨z1, z2, z3⟩ | ⟨z1, x, z2, z3, z4, z5, z6, z7, z8, z9, z10⟩
  · rw [show am_big = 999999 + 1 from rfl, all7_b b1 ⟨z1, z2⟩ (by decide)]
    exact ⟨N, rfl, a2, p', s', bad, b1, b2, b3, Or.inl ⟨z1, z2, z3⟩⟩
  · subst z1
    have hp2 := z6.2 rfl
    rw [z2] at b1
    have hen : cfin g n false p vs ops = cfin g n true p' (x :: vs) ops := by
      rw [z9]
      dsimp only
      rw [en_n (by omega)]
    obtain ⟨N3, i1, i2, p3, s3, bad3, i3, i4, i5, i6⟩ := all_7 (s := s) (vs := vs) hg hn hT ho hh0 240 am_big 0 p' x N (by omega) (by show 241 < 1000000; omega) (by omega) z7 (hX.vg a2) b1 z3 z4 z5 (by omega)
    refine ⟨N3, i1, a2.tr i2, p3, s3, bad3, i3, i4, i5, ?_⟩
    rw [hen]
    rcases i6 with w | ⟨w1, z, w2, w3, w4, w5, w6, w7, w8, w9⟩
    · exact Or.inl w
    · exact Or.inr ⟨w1, z, w2, w3, w4, w5, ⟨by omega, fun _ => by omega⟩, w7, by omega, w9⟩
theorem cho_7 {g : am_M} {n : Int} {d f s : Nat} (hg : WG g) (hn : 1 ≤ n ∧ n ≤ 240) (hA : AllOK g n d f) {vs : List SX} {ops : List Int} (ho : opn ops = d) (hh0 : hdO ops = 40) : ∀ (k fu : Nat) (x2 p : Int) (x : SX) (M : am_M), n - p ≤ k → k + 1 < fu → 0 ≤ x2 ∧ x2 < p → p ≤ n → TX g n M → VSt M p (s + x.1) 0 → XO x ∧ x.2.2.1 = true → CE (M 18) (M 19) s x → x.2.1 ≤ 20 → ((s + x.1 : Nat) : Int) ≤ p → taS g n p ≠ 38 → ∃ N, LawReader_readChoice_16_7 (fun b0 M => K_LawReader_readChoice_R f 1 b0 M) fu (d : Int) x2 M = some N ∧ CT g n (cfin g n true p (x :: vs) ops) (fun p' x => cfin g n true p' (x :: vs) ops) p s (s + x.1) true (fun c => c ≠ 38 ∧ c ≠ 124) M N
  | k, 0, x2, p, x, M, e, hf, hx, hp, hX, hV, ox, cx, dx, sx, h38 => by omega
  | k, fu + 1, x2, p, x, M, e, hf, hx, hp, hX, hV, ox, cx, dx, sx, h38 => by
    have htb := taS_b hg (n := n) (by omega) p
    have hh := lhere_0 (by omega) hX (by omega) hV
    have hx1 := ox.1.1.1
    rw [LawReader_readChoice_16_7]
    unfold LawReader_readChoice_16_69
    rw [c_ge_p (by omega) (by decide), if_neg (by omega), hh, ob_s, c_ne_p (by omega) (by decide)]
    by_cases q1 : taS g n p = 124
    · have hpn := ta_n (g := g) (n := n) (p := p) (by omega) (by omega)
      have hfe := cf_e (g := g) (beh := true) (p := p) (vs := x :: vs) (ops := ops) hn.2 (by omega) hp
      unfold cB at hfe
      rw [if_pos rfl, if_neg h38, if_pos q1, jo_n (by intro z; rcases z with z | z; omega; have := z.2; omega)] at hfe
      dsimp only at hfe
      rw [if_neg (fun h => h q1), jk]
      obtain ⟨N, p', s', bad, a1, a2, b1, b2, b3, b4⟩ := jstep (c := 3) (d := d) (rc := fun b0 M => K_LawReader_readChoice_R f 1 b0 M) (mk := fun y => roX x y) hn hV hX ⟨by omega, hpn⟩ sx ox.1 cx (fun M1 h1 h2 => hA (p + 1) (x :: vs) (124 :: ops) (s + x.1 + 1) M1 (by rw [opn_c (by decide)]; exact ho) (Or.inr rfl) (by omega) (by omega) h1 h2) (fun y o' p' oy c1 c2 c3 c4 => roX_C ox.1 oy c1 c2 c3 c4) (fun y => rfl)
      rw [a1, ob_s]
      obtain ⟨fu, rfl⟩ : ∃ f', fu = f' + 1 := ⟨fu - 1, by omega⟩
      rcases b4 with ⟨z1, z2, z3⟩ | ⟨z1, y, z2, z3, z4, z5, z6, z7, z8, z9, z10⟩
      · rw [cho7_b b1 ⟨z1, z2⟩ (by omega)]
        exact ⟨N, rfl, a2, p', s', bad, b1, by omega, b3, Or.inl ⟨z1, z2, by rw [hfe]; exact z3⟩⟩
      · subst z1
        have hl : (roX x y).1 = x.1 + y.1 + 1 := rfl
        have hl2 : s' = s + (roX x y).1 := z2
        rw [hl2] at b1
        have hen : cfin g n false (p + 1) (x :: vs) (124 :: ops) = cfin g n true p' (roX x y :: vs) ops := by
          rw [z9]
          exact cf_O hn.2 (by omega) z7 z10
        obtain ⟨N3, i1, i2, p3, s3, bad3, i3, i4, i5, i6⟩ := cho_7 (s := s) (vs := vs) hg hn hA ho hh0 (k - 1) (fu + 1) (x2 + 1) p' (roX x y) N (by omega) (by omega) (by omega) z7 (hX.vg a2) b1 ⟨roX_O ox.1 z3.1 ox.2 z3.2, rfl⟩ z4 (Nat.max_le.mpr ⟨dx, z5⟩) (by omega) z10
        refine ⟨N3, i1, a2.tr i2, p3, s3, bad3, i3, i4, i5, ?_⟩
        rw [hfe, hen]
        rcases i6 with w | ⟨w1, z, w2, w3, w4, w5, w6, w7, w8, w9⟩
        · exact Or.inl w
        · exact Or.inr ⟨w1, z, w2, w3, w4, w5, ⟨by omega, fun h => by cases h⟩, w7, by omega, w9⟩
    · rw [if_pos q1]
      exact ⟨M, rfl, VG.rf, p, s + x.1, 0, hV, by omega, by omega, Or.inr ⟨rfl, x, rfl, ox, cx, dx, ⟨by omega, fun h => by cases h⟩, hp, by omega, rfl, h38, q1⟩⟩
theorem cho_ok {g : am_M} {n : Int} {d f : Nat} (hg : WG g) (hn : 1 ≤ n ∧ n ≤ 240) (hA : AllOK g n d f) : ChoOK g n d (f + 1) := by
  intro p vs ops s M ho hh0 hp hs hX hV
  show ∃ N, LawReader_readChoice_16 (fun b0 M => K_LawReader_readChoice_R f 1 b0 M) (d : Int) M = some N ∧ _
  unfold LawReader_readChoice_16
  obtain ⟨N, a1, a2, p', s', bad, b1, b2, b3, b4⟩ := hA p vs ops s M ho (Or.inl hh0) hp hs hX hV
  dsimp only
  rw [a1, ob_s]
  rcases b4 with ⟨z1, z2, z3⟩ | ⟨z1, x, z2, z3, z4, z5, z6, z7, z8, z9, z10⟩
  · rw [show am_big = 999999 + 1 from rfl, cho7_b b1 ⟨z1, z2⟩ (by decide)]
    exact ⟨N, rfl, a2, p', s', bad, b1, b2, b3, Or.inl ⟨z1, z2, z3⟩⟩
  · subst z1
    have hp2 := z6.2 rfl
    rw [z2] at b1
    obtain ⟨N3, i1, i2, p3, s3, bad3, i3, i4, i5, i6⟩ := cho_7 (s := s) (vs := vs) hg hn hA ho hh0 240 am_big 0 p' x N (by omega) (by show 241 < 1000000; omega) (by omega) z7 (hX.vg a2) b1 z3 z4 z5 (by omega) z10
    refine ⟨N3, i1, a2.tr i2, p3, s3, bad3, i3, i4, i5, ?_⟩
    rw [z9]
    rcases i6 with w | ⟨w1, z, w2, w3, w4, w5, w6, w7, w8, w9⟩
    · exact Or.inl w
    · exact Or.inr ⟨w1, z, w2, w3, w4, w5, ⟨by omega, fun _ => by omega⟩, w7, by omega, w9⟩
theorem tes_lv {g : am_M} {n : Int} (hg : WG g) (hn : 1 ≤ n ∧ n ≤ 240) : ∀ (k d f : Nat), d + k = 6 → 1 ≤ d → TestOK g n d (3 * k + f + 1)
  | 0, d, f, h, h1 => tes_ok hg hn (by omega) h1 (fun z => by omega) (fun z => by omega)
  | k + 1, d, f, h, h1 => by
    have i1 := tes_lv hg hn k (d + 1) f (by omega) (by omega)
    have i2 := tes_lv hg hn k (d + 1) (f + 2) (by omega) (by omega)
    have i3 : ChoOK g n (d + 1) (3 * k + f + 3) := cho_ok hg hn (all_ok hg hn i1)
    have := tes_ok hg hn (d := d) (f := 3 * k + f + 3) (by omega) h1 (fun _ => i3) (fun _ => i2)
    rw [show 3 * (k + 1) + f + 1 = 3 * k + f + 3 + 1 by omega]
    exact this
/-- the class's reader of a condition -/
theorem cho_al {g : am_M} {n : Int} (hg : WG g) (hn : 1 ≤ n ∧ n ≤ 240) : ChoOK g n 1 40 := cho_ok hg hn (all_ok hg hn (tes_lv hg hn 5 1 22 (by omega) (by omega)))
