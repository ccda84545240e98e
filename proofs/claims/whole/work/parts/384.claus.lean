-- a clause, pure and by the class
abbrev ltO (c : Int) : Prop := c = 99 ∨ c = 118 ∨ c = 103 ∨ c = 110 ∨ c = 101 ∨ c = 100
def zX : SX := (0, 0, false, fun _ => none)
def zC : CLt := (0, zX, zX)
def pr2 : List SX → SX × SX
  | [c, e] => (e, c)
  | _ => (zX, zX)
noncomputable def clF (g : am_M) (n : Int) (k : Nat) (p : Int) : Int × Int × CLt := if ltO (taS g n p) then (if k = 16 then (-4000 - p, 0, zC) else if (vfin g n false (p + 1) [] []).1 = 0 then (if taS g n (vfin g n false (p + 1) [] []).2.1 = 40 then (if (cfin g n false ((vfin g n false (p + 1) [] []).2.1 + 1) (vfin g n false (p + 1) [] []).2.2.1 [40]).1 = 0 then (0, (cfin g n false ((vfin g n false (p + 1) [] []).2.1 + 1) (vfin g n false (p + 1) [] []).2.2.1 [40]).2.1, (taS g n p, pr2 (cfin g n false ((vfin g n false (p + 1) [] []).2.1 + 1) (vfin g n false (p + 1) [] []).2.2.1 [40]).2.2.1)) else ((cfin g n false ((vfin g n false (p + 1) [] []).2.1 + 1) (vfin g n false (p + 1) [] []).2.2.1 [40]).1, 0, zC)) else (-1000 - (vfin g n false (p + 1) [] []).2.1, 0, zC)) else ((vfin g n false (p + 1) [] []).1, 0, zC)) else (-1000 - p, 0, zC)
theorem cl_1 {g : am_M} {n p : Int} {k : Nat} (q : ¬ ltO (taS g n p)) : clF g n k p = (-1000 - p, 0, zC) := by
  unfold clF
  rw [if_neg q]
theorem cl_2 {g : am_M} {n p : Int} (q : ltO (taS g n p)) : clF g n 16 p = (-4000 - p, 0, zC) := by
  unfold clF
  rw [if_pos q, if_pos (show (16 : Nat) = 16 from rfl)]
theorem cl_3 {g : am_M} {n p f : Int} {k : Nat} (q : ltO (taS g n p)) (hk : k ≠ 16) (h : (vfin g n false (p + 1) [] []).1 = f) (hf : f ≠ 0) : (clF g n k p).1 = f := by
  unfold clF
  rw [if_pos q, if_neg hk, if_neg (by rw [h]; exact hf)]
  exact h
theorem cl_v {g : am_M} {n p p1 : Int} {k : Nat} {x : SX} (q : ltO (taS g n p)) (hk : k ≠ 16) (h : vfin g n false (p + 1) [] [] = (0, p1, [x], [])) : clF g n k p = if taS g n p1 = 40 then (if (cfin g n false (p1 + 1) [x] [40]).1 = 0 then (0, (cfin g n false (p1 + 1) [x] [40]).2.1, (taS g n p, pr2 (cfin g n false (p1 + 1) [x] [40]).2.2.1)) else ((cfin g n false (p1 + 1) [x] [40]).1, 0, zC)) else (-1000 - p1, 0, zC) := by
  unfold clF
  rw [if_pos q, if_neg hk, h]
  exact if_pos rfl
theorem cl_5 {g : am_M} {n p p1 f : Int} {k : Nat} {x : SX} (q : ltO (taS g n p)) (hk : k ≠ 16) (h : vfin g n false (p + 1) [] [] = (0, p1, [x], [])) (q1 : taS g n p1 = 40) (h2 : (cfin g n false (p1 + 1) [x] [40]).1 = f) (hf : f ≠ 0) : (clF g n k p).1 = f := by
  rw [cl_v q hk h, if_pos q1, if_neg (by rw [h2]; exact hf)]
  exact h2
theorem cl_6 {g : am_M} {n p p1 p' : Int} {k : Nat} {x y : SX} (q : ltO (taS g n p)) (hk : k ≠ 16) (h : vfin g n false (p + 1) [] [] = (0, p1, [x], [])) (q1 : taS g n p1 = 40) (h2 : cfin g n false (p1 + 1) [x] [40] = (0, p', [y, x], [])) : clF g n k p = (0, p', (taS g n p, x, y)) := by
  rw [cl_v q hk h, if_pos q1, h2]
  exact if_pos rfl
theorem cl_k {g : am_M} {n p : Int} {k : Nat} (h : k ≠ 16) : clF g n k p = clF g n 0 p := by
  unfold clF
  rw [if_neg h, if_neg (show ¬ ((0 : Nat) = 16) by decide)]
theorem lcl_eq {c : Int} {M : am_M} (h : am_R c) : LawReader_isClauseLetter c M = some (if ltO c then 1 else 0) := by
  unfold LawReader_isClauseLetter LawReader_isClauseLetter_36 LawReader_isClauseLetter_41
  rw [c_eq_p h (by decide), c_eq_p h (by decide), c_eq_p h (by decide), c_eq_p h (by decide), c_eq_p h (by decide), c_ne_p h (by decide), ck_p (by decide), ck_p (by decide)]
  by_cases q : ltO c
  · rw [if_pos q]
    repeat' split
    all_goals first
      | rfl
      | (exfalso; omega)
  · rw [if_neg q, if_neg (by omega), if_neg (by omega), if_neg (by omega), if_neg (by omega), if_neg (by omega), if_pos (by omega)]
theorem all_b {M : am_M} {p bad d : Int} {s f : Nat} (h : VSt M p s bad) (hb : bad < 0 ∧ -7000 ≤ bad) : K_LawReader_readChoice_R (f + 2) 1 d M = some M := by
  show LawReader_readAll_16 (fun b0 M => K_LawReader_readChoice_R (f + 1) 2 b0 M) d M = some M
  unfold LawReader_readAll_16
  dsimp only
  rw [tes_b h hb, ob_s]
  exact all7_b (fu := 999999) h hb (by decide)
theorem cho_b {M : am_M} {p bad d : Int} {s f : Nat} (h : VSt M p s bad) (hb : bad < 0 ∧ -7000 ≤ bad) : K_LawReader_readChoice_R (f + 3) 0 d M = some M := by
  show LawReader_readChoice_16 (fun b0 M => K_LawReader_readChoice_R (f + 2) 1 b0 M) d M = some M
  unfold LawReader_readChoice_16
  dsimp only
  rw [all_b h hb, ob_s]
  exact cho7_b (fu := 999999) h hb (by decide)
theorem Kch_b {M : am_M} {p bad d : Int} {s : Nat} (h : VSt M p s bad) (hb : bad < 0 ∧ -7000 ≤ bad) : K_LawReader_readChoice d M = some M := cho_b (f := 37) h hb
theorem ladd {M : am_M} {p bad a b c : Int} {s k : Nat} (h : VSt M p s bad) (hk : k ≤ 16) (h7 : M 17 7 = k) : ∃ N, Law_addClause_17 a b c M = some N ∧ VSt N p s bad ∧ (∀ i, i ≠ 17 → (i < 20 ∨ 23 < i) → N i = M i) ∧ (∀ j, j < k → N 20 j = M 20 j ∧ N 21 j = M 21 j ∧ N 22 j = M 22 j ∧ N 23 j = M 23 j) ∧ (k < 16 → N 17 7 = ((k + 1 : Nat) : Int) ∧ N 20 k = a ∧ N 21 k = b ∧ N 22 k = c ∧ N 23 k = s) := by
  unfold Law_addClause_17 Law_addClause_17_62
  rw [h7, c_ge_p (by omega) (by decide)]
  by_cases q : k < 16
  · refine ⟨am_up (am_up (am_up (am_up (am_up M 20 k a) 21 k b) 22 k c) 23 k s) 17 7 ((k : Int) + 1), ?_, ⟨?_, ?_, ?_, ?_⟩, fun i h1 h2 => ?_, fun j hj => ?_, fun _ => ⟨?_, ?_, ?_, ?_, ?_⟩⟩
    · rw [if_neg (by omega), wa_p (by omega), upo (show (17 : Nat) ≠ 20 by decide), h7, wa_p (by omega), upo (show (17 : Nat) ≠ 21 by decide), upo (show (17 : Nat) ≠ 20 by decide), h7, wa_p (by omega), upo (show (17 : Nat) ≠ 22 by decide), upo (show (17 : Nat) ≠ 21 by decide), upo (show (17 : Nat) ≠ 20 by decide), h7, h.2.2.2, wa_p (by omega), upo (show (17 : Nat) ≠ 23 by decide), upo (show (17 : Nat) ≠ 22 by decide), upo (show (17 : Nat) ≠ 21 by decide), upo (show (17 : Nat) ≠ 20 by decide), h7, fw_p, show ((k : Int)).toNat = k by omega]
    · rw [upo (by decide), upo (by decide), upo (by decide), upo (by decide), upo (by decide)]
      exact h.1
    · rw [upo (by decide), upo (by decide), upo (by decide), upo (by decide), upo (by decide)]
      exact h.2.1
    · rw [upo (by decide), upo (by decide), upo (by decide), upo (by decide), upo (by decide)]
      exact h.2.2.1
    · rw [upx (by decide), upo (by decide), upo (by decide), upo (by decide), upo (by decide)]
      exact h.2.2.2
    · rw [upo (by omega), upo (by omega), upo (by omega), upo (by omega), upo (by omega)]
    · refine ⟨?_, ?_, ?_, ?_⟩
      · rw [upo (by decide), upo (by decide), upo (by decide), upo (by decide), upx (by omega)]
      · rw [upo (by decide), upo (by decide), upo (by decide), upx (by omega), upo (by decide)]
      · rw [upo (by decide), upo (by decide), upx (by omega), upo (by decide), upo (by decide)]
      · rw [upo (by decide), upx (by omega), upo (by decide), upo (by decide), upo (by decide)]
    · rw [upj]
      omega
    · rw [upo (by decide), upo (by decide), upo (by decide), upo (by decide), upj]
    · rw [upo (by decide), upo (by decide), upo (by decide), upj]
    · rw [upo (by decide), upo (by decide), upj]
    · rw [upo (by decide), upj]
  · rw [if_pos (by omega)]
    exact ⟨M, rfl, h, fun _ _ _ => rfl, fun _ _ => ⟨rfl, rfl, rfl, rfl⟩, fun z => absurd z q⟩
def PG (k s : Nat) (M N : am_M) : Prop := (∀ c, (c < 16 ∨ 23 < c) → N c = M c) ∧ (∀ j, j < s → N 18 j = M 18 j ∧ N 19 j = M 19 j) ∧ (∀ j, j < k → N 20 j = M 20 j ∧ N 21 j = M 21 j ∧ N 22 j = M 22 j ∧ N 23 j = M 23 j)
theorem VG.pg {k s : Nat} {M N : am_M} (h : VG s M N) : PG k s M N := ⟨fun c hc => h.1 c (by omega), h.2.2, fun j _ => by rw [h.1 20 (by decide), h.1 21 (by decide), h.1 22 (by decide), h.1 23 (by decide)]; exact ⟨rfl, rfl, rfl, rfl⟩⟩
theorem PG.ad {k s : Nat} {M N O : am_M} (h : PG k s M N) (e1 : ∀ i, i ≠ 17 → (i < 20 ∨ 23 < i) → O i = N i) (e2 : ∀ j, j < k → O 20 j = N 20 j ∧ O 21 j = N 21 j ∧ O 22 j = N 22 j ∧ O 23 j = N 23 j) : PG k s M O := ⟨fun c hc => (e1 c (by omega) (by omega)).trans (h.1 c hc), fun j hj => by rw [e1 18 (by decide) (by decide), e1 19 (by decide) (by decide)]; exact h.2.1 j hj, fun j hj => by
  obtain ⟨a1, a2, a3, a4⟩ := e2 j hj
  rw [a1, a2, a3, a4]
  exact h.2.2 j hj⟩
theorem Pcl {g M : am_M} {n p : Int} {s k : Nat} (hg : WG g) (hn : 1 ≤ n ∧ n ≤ 240) (hp : 0 ≤ p ∧ p ≤ n) (hs : (s : Int) ≤ p) (hX : TX g n M) (hV : VSt M p s 0) (hk : k ≤ 16) (h7 : M 17 7 = k) : ∃ N, LawReader_readClause_16 M = some N ∧ PG k s M N ∧ ∃ (p' : Int) (s' : Nat) (bad : Int), VSt N p' s' bad ∧ ((bad < 0 ∧ -7000 ≤ bad ∧ (clF g n k p).1 = bad) ∨ (bad = 0 ∧ k < 16 ∧ ∃ c : CLt, clF g n k p = (0, p', c) ∧ CO c ∧ N 17 7 = ((k + 1 : Nat) : Int) ∧ (N 20 k = c.1 ∧ N 21 k = s ∧ N 22 k = ((s + c.2.1.1 : Nat) : Int) ∧ N 23 k = ((s + c.2.1.1 + c.2.2.1 : Nat) : Int)) ∧ s' = s + c.2.1.1 + c.2.2.1 ∧ (s' : Int) ≤ p' ∧ s' ≤ 240 ∧ CE (N 18) (N 19) s c.2.1 ∧ CE (N 18) (N 19) (s + c.2.1.1) c.2.2 ∧ p < p' ∧ p' ≤ n)) := by
  have htb := taS_b hg (n := n) (by omega) p
  unfold LawReader_readClause_16 LawReader_readClause_16_98
  rw [lhere_0 (by omega) hX (by omega) hV, ob_s, lcl_eq (by omega), ob_s]
  by_cases q : ltO (taS g n p)
  · have hpn := ta_n (g := g) (n := n) (p := p) hp.1 (by omega)
    rw [if_pos q, c_ne_p (by decide) (by decide), if_pos (by decide), h7, c_lt_p (by omega) (by decide)]
    by_cases q2 : k < 16
    · have hk16 : k ≠ 16 := by omega
      obtain ⟨v1, v2⟩ := hV.p (q := p + 1)
      obtain ⟨N1, a1, a2, p1, s1, bad, b1, b2, b3, b4⟩ := sum_al hg hn (d := 0) (by omega) (p + 1) [] [] s _ rfl (by decide) (by decide) (by omega) (by omega) (hX.vg (v2 s)) v1
      have a1' : K_LawReader_readSum 0 (am_up M 16 2 (p + 1)) = some N1 := a1
      have f1 := (v2 s).tr a2
      have e7 : N1 17 7 = k := f1.2.1.trans h7
      rw [if_pos (by omega), hV.2.1, fw_p, a1', ob_s, v1.2.2.2, b1.2.2.2]
      rcases b4 with ⟨z1, z2, z3⟩ | ⟨z1, x, z2, z3, z4, z5, z6, z7, z8, z9, z10⟩
      · obtain ⟨N2, c1, c2, c3, c4, _⟩ := ladd (a := taS g n p) (b := (s : Int)) (c := (s1 : Int)) b1 hk e7
        rw [lexp_b b1 ⟨z1, z2⟩ (by decide), ob_s, Kch_b b1 ⟨z1, z2⟩, ob_s, lexp_b b1 ⟨z1, z2⟩ (by decide), ob_s, c1, ob_s]
        exact ⟨N2, rfl, f1.pg.ad c3 c4, p1, s1, bad, c2, Or.inl ⟨z1, z2, cl_3 q hk16 z3 (by omega)⟩⟩
      subst z1
      have hp2 := z6.2 rfl
      have htb1 := taS_b hg (n := n) (by omega) p1
      have hve := v_end (x := x) (vs := []) (ops := []) hn.2 (show 0 ≤ p1 ∧ p1 ≤ n by omega) (by decide) z10
      rw [← z9] at hve
      obtain ⟨N2, c1, c2, c3, c4⟩ := lexp hg hn (hX.vg f1) (c := 40) (by omega) b1 (by decide)
      have f2 := f1.tr (c2 s)
      rw [c1, ob_s]
      by_cases q3 : taS g n p1 = 40
      · obtain ⟨w1, w2, w3⟩ := c3 q3
        have hpn1 := ta_n (g := g) (n := n) (p := p1) (by omega) (by omega)
        rw [if_neg (by omega)] at hve
        obtain ⟨N3, e1, e2, p3, s3, bad3, e3, e4, e5, e6⟩ := cho_al hg hn (p1 + 1) [x] [40] s1 N2 rfl rfl (by omega) (by omega) (hX.vg f2) w1
        have e1' : K_LawReader_readChoice 1 N2 = some N3 := e1
        have f3 := f2.tr (e2.lo b2)
        rw [e1', ob_s]
        rcases e6 with ⟨y1, y2, y3⟩ | ⟨y1, y, y2, y3, y4, y5, y6, y7, y8, y9, y10⟩
        · obtain ⟨N5, c1, c2, c3, c4, _⟩ := ladd (a := taS g n p) (b := (s : Int)) (c := (s1 : Int)) e3 hk (f3.2.1.trans h7)
          rw [lexp_b e3 ⟨y1, y2⟩ (by decide), ob_s, c1, ob_s]
          exact ⟨N5, rfl, f3.pg.ad c3 c4, p3, s3, bad3, c2, Or.inl ⟨y1, y2, cl_5 q hk16 hve q3 y3 (by omega)⟩⟩
        subst y1
        have hp3 := y6.2 rfl
        have hfe := cf_e (g := g) (beh := true) (p := p3) (vs := [y, x]) (ops := [40]) hn.2 (by omega) y7
        unfold cB at hfe
        rw [if_pos rfl, if_neg y10.1, if_neg y10.2, jo_n (by show ¬ ((40 : Int) = 38 ∨ (true = true ∧ (40 : Int) = 124)); decide)] at hfe
        have y9' : cfin g n false (p1 + 1) [x] [40] = cfin g n true p3 [y, x] [40] := y9
        obtain ⟨N4, g1, g2, g3, g4⟩ := lexp hg hn (hX.vg f3) (c := 41) (by omega) e3 (by decide)
        have f4 := f3.tr (g2 s)
        rw [g1, ob_s]
        by_cases q5 : taS g n p3 = 41
        · have hpn3 := ta_n (g := g) (n := n) (p := p3) (by omega) (by omega)
          rw [if_pos q5, if_pos (show ((([y, x], [40]) : List SX × List Int).2.tail.length = 0) from rfl)] at hfe
          obtain ⟨u1, u2, u3⟩ := g3 q5
          obtain ⟨N5, c1, c2, c3, c4, c5⟩ := ladd (a := taS g n p) (b := (s : Int)) (c := (s1 : Int)) u1 hk (f4.2.1.trans h7)
          obtain ⟨d1, d2, d3, d4, d5⟩ := c5 q2
          rw [c1, ob_s]
          have cx : CE (N5 18) (N5 19) s x := z4.cg (fun j h1 h2 => by
            have w4 := e2.2.2 j (by omega)
            rw [c3 18 (by decide) (by decide), c3 19 (by decide) (by decide), u2, u3, w4.1, w4.2, w2, w3]
            exact ⟨rfl, rfl⟩)
          have cy : CE (N5 18) (N5 19) (s + x.1) y := by
            rw [← z2, c3 18 (by decide) (by decide), c3 19 (by decide) (by decide), u2, u3]
            exact y4
          have hR : am_R (taS g n p) := by omega
          exact ⟨N5, rfl, f4.pg.ad c3 c4, p3 + 1, s3, 0, c2, Or.inr ⟨rfl, q2, (taS g n p, x, y), cl_6 q hk16 hve q3 (y9'.trans hfe), ⟨hR, z3, y3.1, y3.2, by dsimp only; omega, by dsimp only; omega⟩, d1, ⟨d2, d3, by rw [d4, z2], by rw [d5, y2, z2]⟩, by rw [y2, z2], by omega, e5, cx, cy, by omega, by omega⟩⟩
        · rw [if_neg q5] at hfe
          have u1 := g4 q5
          obtain ⟨N5, c1, c2, c3, c4, _⟩ := ladd (a := taS g n p) (b := (s : Int)) (c := (s1 : Int)) u1 hk (f4.2.1.trans h7)
          rw [c1, ob_s]
          exact ⟨N5, rfl, f4.pg.ad c3 c4, p3, s3, _, c2, Or.inl ⟨by omega, by omega, cl_5 q hk16 hve q3 (by rw [y9', hfe]) (by omega)⟩⟩
      · have w1 := c4 q3
        have hb : -1000 - p1 < 0 ∧ -7000 ≤ -1000 - p1 := by omega
        obtain ⟨N5, c1, c2, c3, c4, _⟩ := ladd (a := taS g n p) (b := (s : Int)) (c := (s1 : Int)) w1 hk (f2.2.1.trans h7)
        rw [Kch_b w1 hb, ob_s, lexp_b w1 hb (by decide), ob_s, c1, ob_s]
        refine ⟨N5, rfl, f2.pg.ad c3 c4, p1, s1, _, c2, Or.inl ⟨hb.1, hb.2, ?_⟩⟩
        by_cases q4 : taS g n p1 = 93
        · rw [if_pos q4] at hve
          exact cl_3 q hk16 (by rw [hve]) (by omega)
        · rw [if_neg q4] at hve
          rw [cl_v q hk16 hve, if_neg q3]
    · have hk16 : k = 16 := by omega
      obtain ⟨N, a1, a2, a3⟩ := lfail_0 (f := 4) hV
      rw [if_neg (by omega), a1, ob_s]
      exact ⟨N, rfl, (a3 s).pg, p, s, _, a2, Or.inl ⟨by omega, by omega, by rw [hk16, cl_2 q]; dsimp only; omega⟩⟩
  · obtain ⟨N, a1, a2, a3⟩ := lfail_0 (f := 1) hV
    rw [if_neg q, c_ne_p (by decide) (by decide), if_neg (by decide), a1, ob_s]
    exact ⟨N, rfl, (a3 s).pg, p, s, _, a2, Or.inl ⟨by omega, by omega, by rw [cl_1 q]; dsimp only; omega⟩⟩
/-- what a clause leaves -/
theorem cl_s {g : am_M} {n p : Int} {k : Nat} (hg : WG g) (hn : 1 ≤ n ∧ n ≤ 240) (hp : 0 ≤ p ∧ p ≤ n) (hk : k ≤ 16) : ((clF g n k p).1 < 0 ∧ -7000 ≤ (clF g n k p).1) ∨ (k < 16 ∧ ∃ (p' : Int) (c : CLt), clF g n k p = (0, p', c) ∧ CO c ∧ p < p' ∧ p' ≤ n) := by
  by_cases q : k = 16
  · refine Or.inl ?_
    by_cases q2 : ltO (taS g n p)
    · rw [q, cl_2 q2]
      dsimp only
      omega
    · rw [cl_1 q2]
      dsimp only
      omega
  · obtain ⟨h1, h2⟩ := mk0_X g n p
    rw [cl_k q]
    obtain ⟨N, a1, a2, p', s', bad, a3, a4⟩ := Pcl (k := 0) hg hn hp (by omega) h1 h2 (by omega) rfl
    rcases a4 with ⟨z1, z2, z3⟩ | ⟨z1, z2, c, z3, z4, z5, z6, z7, z8, z9, z10, z11, z12, z13⟩
    · exact Or.inl (by rw [z3]; exact ⟨z1, z2⟩)
    · exact Or.inr ⟨by omega, p', c, z3, z4, z12, z13⟩
