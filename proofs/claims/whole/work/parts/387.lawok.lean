-- law: copied, alike
theorem lawcp {M : am_M} : ∃ N, Law_copyFrom_5_17 M = some N ∧ (∀ k, (k < 5 ∨ 11 < k) → N k = M k) ∧ N 5 7 = M 17 7 ∧ (∀ j, j < 240 → N 6 j = M 18 j ∧ N 7 j = M 19 j) ∧ (∀ j, j < 16 → N 8 j = M 20 j ∧ N 9 j = M 21 j ∧ N 10 j = M 22 j ∧ N 11 j = M 23 j) := by
  unfold Law_copyFrom_5_17
  rw [cpy_p (by decide), cpy_p (by decide), cpy_p (by decide), cpy_p (by decide), cpy_p (by decide), cpy_p (by decide), fw_p, fw_p, show ((0 : Int)).toNat = 0 from rfl, show ((240 : Int)).toNat = 240 from rfl, show ((16 : Int)).toNat = 16 from rfl]
  refine ⟨_, rfl, fun k hk => ?_, ?_, fun j hj => ⟨?_, ?_⟩, fun j hj => ⟨?_, ?_, ?_, ?_⟩⟩
  · rw [upo (by omega), upo (by omega), cp_o (by omega), cp_o (by omega), cp_o (by omega), cp_o (by omega), cp_o (by omega), cp_o (by omega)]
  · rw [upj, upo (by decide), cp_o (by decide), cp_o (by decide), cp_o (by decide), cp_o (by decide), cp_o (by decide), cp_o (by decide)]
  · rw [upo (by decide), upo (by decide), cp_o (by decide), cp_o (by decide), cp_o (by decide), cp_o (by decide), cp_o (by decide), cp_s, if_pos hj]
  · rw [upo (by decide), upo (by decide), cp_o (by decide), cp_o (by decide), cp_o (by decide), cp_o (by decide), cp_s, if_pos hj, cp_o (by decide)]
  · rw [upo (by decide), upo (by decide), cp_o (by decide), cp_o (by decide), cp_o (by decide), cp_s, if_pos hj, cp_o (by decide), cp_o (by decide)]
  · rw [upo (by decide), upo (by decide), cp_o (by decide), cp_o (by decide), cp_s, if_pos hj, cp_o (by decide), cp_o (by decide), cp_o (by decide)]
  · rw [upo (by decide), upo (by decide), cp_o (by decide), cp_s, if_pos hj, cp_o (by decide), cp_o (by decide), cp_o (by decide), cp_o (by decide)]
  · rw [upo (by decide), upo (by decide), cp_s, if_pos hj, cp_o (by decide), cp_o (by decide), cp_o (by decide), cp_o (by decide), cp_o (by decide)]
theorem Rcp2 {t : Nat} (ht : t ≤ 240) : ∀ (d fu i : Nat) (M : am_M), i + d = t → d < fu → M 73 7 = t → ∃ N, R_lawm_199 fu (i : Int) M = some (M 73 6, N) ∧ (∀ c, c ≠ 81 → c ≠ 82 → N c = M c) ∧ (∀ j, i ≤ j → j < t → N 81 j = M 87 j ∧ N 82 j = M 88 j) ∧ (∀ j, j < i → N 81 j = M 81 j ∧ N 82 j = M 82 j)
  | 0, fu + 1, i, M, e, hf, h7 => by
    refine ⟨M, ?_, fun _ _ _ => rfl, fun j h1 h2 => by omega, fun _ _ => ⟨rfl, rfl⟩⟩
    rw [R_lawm_199, h7, c_ge_p (by omega) (by omega), if_pos (by omega)]
  | d + 1, fu + 1, i, M, e, hf, h7 => by
    obtain ⟨N, a1, a2, a3, a4⟩ := Rcp2 ht d fu (i + 1) (am_up (am_up M 81 i (M 87 i)) 82 i (M 88 i)) (by omega) (by omega) (by rw [upo (by decide), upo (by decide)]; exact h7)
    refine ⟨N, ?_, fun c h1 h2 => by rw [a2 c h1 h2, upo h2, upo h1], fun j h1 h2 => ?_, fun j hj => ?_⟩
    · rw [R_lawm_199, h7, c_ge_p (by omega) (by omega), if_neg (by omega), rd_p (by omega), wa_p (by omega), rd_p (by omega), wa_p (by omega), show ((i : Int)).toNat = i by omega, upo (show (88 : Nat) ≠ 81 by decide), show (i : Int) + 1 = ((i + 1 : Nat) : Int) by omega, a1, upo (show (73 : Nat) ≠ 82 by decide), upo (show (73 : Nat) ≠ 81 by decide)]
    · by_cases q : j = i
      · subst q
        have w := a4 j (by omega)
        rw [w.1, w.2, upo (show (81 : Nat) ≠ 82 by decide), upj, upj]
        exact ⟨rfl, rfl⟩
      · have w := a3 j (by omega) h2
        rw [w.1, w.2, upo (show (87 : Nat) ≠ 82 by decide), upo (show (87 : Nat) ≠ 81 by decide), upo (show (88 : Nat) ≠ 82 by decide), upo (show (88 : Nat) ≠ 81 by decide)]
        exact ⟨rfl, rfl⟩
    · have w := a4 j (by omega)
      rw [w.1, w.2, upo (show (81 : Nat) ≠ 82 by decide), upx (by omega), upx (by omega), upo (show (82 : Nat) ≠ 81 by decide)]
      exact ⟨rfl, rfl⟩
theorem Rcp1 {t : Nat} (ht : t ≤ 16) : ∀ (d fu i : Nat) (M : am_M), i + d = t → d < fu → M 73 6 = t → ∃ N, R_lawm_135 fu (i : Int) M = R_lawm_199 am_big 0 N ∧ (∀ c, (c < 77 ∨ 80 < c) → N c = M c) ∧ (∀ j, i ≤ j → j < t → N 77 j = M 83 j ∧ N 78 j = M 84 j ∧ N 79 j = M 85 j ∧ N 80 j = M 86 j) ∧ (∀ j, j < i → N 77 j = M 77 j ∧ N 78 j = M 78 j ∧ N 79 j = M 79 j ∧ N 80 j = M 80 j)
  | 0, fu + 1, i, M, e, hf, h7 => by
    refine ⟨M, ?_, fun _ _ => rfl, fun j h1 h2 => by omega, fun _ _ => ⟨rfl, rfl, rfl, rfl⟩⟩
    rw [R_lawm_135, h7, c_ge_p (by omega) (by omega), if_pos (by omega)]
  | d + 1, fu + 1, i, M, e, hf, h7 => by
    obtain ⟨N, a1, a2, a3, a4⟩ := Rcp1 ht d fu (i + 1) (am_up (am_up (am_up (am_up M 77 i (M 83 i)) 78 i (M 84 i)) 79 i (M 85 i)) 80 i (M 86 i)) (by omega) (by omega) (by rw [upo (by decide), upo (by decide), upo (by decide), upo (by decide)]; exact h7)
    refine ⟨N, ?_, fun c h1 => by rw [a2 c h1, upo (by omega), upo (by omega), upo (by omega), upo (by omega)], fun j h1 h2 => ?_, fun j hj => ?_⟩
    · rw [R_lawm_135, h7, c_ge_p (by omega) (by omega), if_neg (by omega), rd_p (by omega), wa_p (by omega), rd_p (by omega), wa_p (by omega), rd_p (by omega), wa_p (by omega), rd_p (by omega), wa_p (by omega), show ((i : Int)).toNat = i by omega, upo (show (84 : Nat) ≠ 77 by decide), upo (show (85 : Nat) ≠ 78 by decide), upo (show (85 : Nat) ≠ 77 by decide), upo (show (86 : Nat) ≠ 79 by decide), upo (show (86 : Nat) ≠ 78 by decide), upo (show (86 : Nat) ≠ 77 by decide), show (i : Int) + 1 = ((i + 1 : Nat) : Int) by omega, a1]
    · by_cases q : j = i
      · subst q
        have w := a4 j (by omega)
        rw [w.1, w.2.1, w.2.2.1, w.2.2.2]
        refine ⟨?_, ?_, ?_, ?_⟩
        · rw [upo (by decide), upo (by decide), upo (by decide), upj]
        · rw [upo (by decide), upo (by decide), upj]
        · rw [upo (by decide), upj]
        · rw [upj]
      · have w := a3 j (by omega) h2
        rw [w.1, w.2.1, w.2.2.1, w.2.2.2]
        refine ⟨?_, ?_, ?_, ?_⟩
        · rw [upo (by decide), upo (by decide), upo (by decide), upo (by decide)]
        · rw [upo (by decide), upo (by decide), upo (by decide), upo (by decide)]
        · rw [upo (by decide), upo (by decide), upo (by decide), upo (by decide)]
        · rw [upo (by decide), upo (by decide), upo (by decide), upo (by decide)]
    · have w := a4 j (by omega)
      rw [w.1, w.2.1, w.2.2.1, w.2.2.2]
      refine ⟨?_, ?_, ?_, ?_⟩
      · rw [upo (by decide), upo (by decide), upo (by decide), upx (by omega)]
      · rw [upo (by decide), upo (by decide), upx (by omega), upo (by decide)]
      · rw [upo (by decide), upx (by omega), upo (by decide), upo (by decide)]
      · rw [upx (by omega), upo (by decide), upo (by decide), upo (by decide)]
theorem PC.lw {F : FT} {g t u M N : am_M} {n : Nat} (h : PC F g t u n M) (e : ∀ k, (k < 16 ∨ 23 < k) → N k = M k) : PC F g t u n N := ⟨h.1.cg (fun k hk => e k (by omega)), h.2.1.cg (fun k a b => e k (by omega)), fun q => (h.2.2.1 q).cg (fun k a b => e k (by omega)), h.2.2.2.1.cg (fun k a b => e k (by omega)), h.2.2.2.2.cg (fun k a b => e k (by omega)) (Nat.le_refl _)⟩
theorem TR.rg {t M N : am_M} {k b : Nat} (h : TR t M) (e : RG k b M N) : TR t N := by
  unfold TR at h ⊢
  rw [e.2.1 41 (by decide) (by decide) (by decide) (by decide), e.2.1 46 (by decide) (by decide) (by decide) (by decide), e.2.1 47 (by decide) (by decide) (by decide) (by decide), e.2.1 44 (by decide) (by decide) (by decide) (by decide), e.2.1 45 (by decide) (by decide) (by decide) (by decide), e.2.1 2 (by decide) (by decide) (by decide) (by decide), e.1 93 (by decide) (by decide), e.1 95 (by decide) (by decide), e.1 96 (by decide) (by decide), e.1 97 (by decide) (by decide), e.1 98 (by decide) (by decide), e.1 99 (by decide) (by decide), e.1 100 (by decide) (by decide)]
  exact h
theorem PR.rg {F : FT} {g t u M N : am_M} {k b : Nat} (h : PR F g t u M) (e : RG k b M N) : PR F g t u N := ⟨h.1.rg e, h.2.1.rg e, fun q => (h.2.2.1 q).cg' (fun k a b => e.1 k (by omega) (by omega)), h.2.2.2.cg (fun k a b => e.1 k (by omega) (by omega)) (e.2.1 19 (by decide) (by decide) (by decide) (by decide))⟩
theorem GP.lw {g M N : am_M} {v : Int} (h : GP g M) (e : ∀ k, (k < 5 ∨ 11 < k) → N k = M k) (h7 : N 5 7 = v) : GP (am_up g 0 3 v) N := by
  unfold GP at h ⊢
  rw [upx (by decide), upx (by decide), upx (by decide), upj, upx (by decide), upo (by decide), upo (by decide), upo (by decide), e 0 (by decide), e 1 (by decide), e 2 (by decide), e 4 (by decide), e 14 (by decide), e 15 (by decide), h7]
  exact ⟨⟨h.1.1, h.1.2.1, h.1.2.2.1, rfl, h.1.2.2.2.2⟩, h.2⟩
theorem P_law_ok {n : Nat} {x : Int} (hx : am_R x) : OK2 n (P_law x) (R_lawm x) := by
  refine OK2.of (lp := [5, 6, 7, 8, 9, 10, 11, 14, 16, 17, 18, 19, 20, 21, 22, 23]) (lr := [73, 77, 78, 79, 80, 81, 82, 83, 84, 85, 86, 87, 88, 89]) (by decide) (by decide) (fun M r h => P_law_c x M r h) (fun M r h => R_lawm_c x M r h) (fun F g t u hW => ?_)
  have hg := hW.1.1
  by_cases hc : (1 ≤ x ∧ x ≤ 240) ∧ x ≤ g 0 0
  · have hW' := hW.tk
    obtain ⟨f, L, hf, hP, hR⟩ := lw_lp (g := tkS g) (n := x) hW'.1 hc.1 240 0 [] (by omega) (by omega) (by decide) (fun c h => by cases h)
    have hPC : ∀ M, PC F g t u n M → ∃ N, P_law x M = (oc (LawReader_readInto_16_5_77 N) fun v3 M4 => some (v3, M4)) ∧ PC F (tkS g) t u n N ∧ N 16 3 = f ∧ (f = 0 → N 17 7 = (L.length : Int) ∧ CLQ (CE (N 18) (N 19)) 240 (N 20) (N 21) (N 22) (N 23) 0 L) := fun M hC => by
      have h2 := hC.tk (v := x)
      have hX : TX (tkS g) x (am_up (am_up M 14 2 x) 14 1 0) := ⟨h2.1, by rw [upx (by decide), upj]⟩
      have hT := Tape_take_eq hW.1 hC.1 hx (show am_R 1 by decide) (show am_R 240 by decide)
      rw [if_pos (by omega)] at hT
      generalize am_up (am_up M 14 2 x) 14 1 0 = M2 at h2 hX hT
      have e1 : ∀ k, (k < 16 ∨ 23 < k) → (am_up (am_up (am_up (am_up (am_up M2 16 1 1) 16 2 0) 16 3 0) 17 2 0) 17 7 0) k = M2 k := fun k hk => by
        rw [upo (by omega), upo (by omega), upo (by omega), upo (by omega), upo (by omega)]
      have hS : LPs (tkS g) x [] 0 (am_up (am_up (am_up (am_up (am_up M2 16 1 1) 16 2 0) 16 3 0) 17 2 0) 17 7 0) := by
        refine ⟨hX.lw e1, 0, ⟨?_, ?_, ?_, ?_⟩, by omega, by omega, ?_, trivial⟩
        · rw [upo (by decide), upo (by decide), upx (by decide), upx (by decide), upj]
        · rw [upo (by decide), upo (by decide), upx (by decide), upj]
        · rw [upo (by decide), upo (by decide), upj]
        · rw [upx (by decide), upj]
          rfl
        · rw [upj]
          rfl
      obtain ⟨N, a1, a2, a3, a4⟩ := hP _ am_big 0 hS (by omega) (by show 241 < 1000000; omega)
      refine ⟨N, ?_, (h2.lw e1).lw a2, a3, a4⟩
      unfold P_law LawReader_readInto_16_5 Law_clear_17
      rw [hT, oc_s, c_ne_p (by decide) (by decide), if_pos (by decide), fw_p, fw_p, fw_p, fw_p, fw_p, ob_s, a1]
    have hRC : ∀ M, PR F g t u M → ∃ N, R_lawm x M = R_lawm_113 N ∧ PR F (tkS g) t u N ∧ N 73 5 = f ∧ (f = 0 → N 73 6 = (L.length : Int) ∧ ∃ t : Nat, t ≤ 240 ∧ N 73 7 = t ∧ CLQ (REx (N 87) (N 88)) t (N 83) (N 84) (N 85) (N 86) 0 L) := fun M hM => by
      obtain ⟨M1, b1, b2, b3, b4, b5⟩ := hM.bg (x := x)
      have f1 : RG 0 0 M1 (am_up (am_up M1 73 6 0) 73 7 0) := (RG.rf.up (by omega)).up (by omega)
      have hS : LRs (tkS g) x [] 0 (am_up (am_up M1 73 6 0) 73 7 0) := by
        refine ⟨b2.1.rg f1, 0, ⟨?_, ?_, ?_, ?_, ?_⟩, by omega, trivial⟩
        · rw [upx (by decide), upx (by decide)]
          exact b3
        · rw [upx (by decide), upx (by decide)]
          exact b4
        · rw [upx (by decide), upx (by decide)]
          exact b5
        · rw [upx (by decide), upj]
          rfl
        · rw [upj]
          rfl
      obtain ⟨N, a1, a2, a3, a4⟩ := hR _ am_big hS (by show 241 < 1000000; omega)
      refine ⟨N, ?_, (b2.rg f1).rg a2, a3, a4⟩
      unfold R_lawm
      rw [ck_p hx, R_lies_eq hx (by decide) (by decide), ob_s, if_pos hc.1, c_eq_p (by decide) (by decide), if_neg (by decide), hM.1.1.1, c_le_p (by omega) (by omega), if_pos hc.2, b1, ob_s, fw_p, fw_p, a1]
    rcases hf with hf | ⟨hf, hL, hLc⟩
    · refine ⟨f, F, tkS g, t, u, by omega, hW', fun M hC => ?_, fun M hM => ?_⟩
      · obtain ⟨N, a1, a2, a3, _⟩ := hPC M hC
        refine ⟨N, ?_, a2.cg (fun _ _ => rfl) (by omega)⟩
        unfold LawReader_readInto_16_5_77 at a1
        rw [a1, a3, c_ge_p (by omega) (by decide), if_neg (by omega), oc_s]
      · obtain ⟨N, a1, a2, a3, _⟩ := hRC M hM
        refine ⟨N, ?_, a2⟩
        unfold R_lawm_113 at a1
        rw [a1, a3, c_ge_p (by omega) (by decide), if_neg (by omega)]
    · subst hf
      refine ⟨(L.length : Int), FLw L, am_up (tkS g) 0 3 (L.length : Int), t, u, by omega, ?_, fun M hC => ?_, fun M hM => ?_⟩
      · obtain ⟨h1, h2, h3, h4, h5⟩ := hW'
        have h11 := h1.1
        refine ⟨⟨?_, ?_⟩, h2, ?_, ?_, FLw_O L hLc⟩
        · rw [upx (by decide), upx (by decide), upx (by decide), upj, upx (by decide)]
          omega
        · rw [upo (by decide), upo (by decide), upo (by decide)]
          exact h1.2
        · rw [upo (by decide)]
          exact h3
        · rw [upx (show (4 : Nat) ≠ 3 by decide), upo (show (3 : Nat) ≠ 0 by decide)]
          exact h4
      · obtain ⟨N, a1, a2, a3, a4⟩ := hPC M hC
        obtain ⟨w1, w2⟩ := a4 rfl
        obtain ⟨N2, c1, c2, c3, c4, c5⟩ := lawcp (M := N)
        refine ⟨N2, ?_, a2.1.lw c2 (c3.trans w1), a2.2.1.cg (fun k a b => c2 k (by omega)), fun q => (a2.2.2.1 (by rw [upx (by decide)] at q; exact q)).cg (fun k a b => c2 k (by omega)), ?_, a2.2.2.2.2.cg (fun k a b => c2 k (by omega)) (by omega)⟩
        · unfold LawReader_readInto_16_5_77 at a1
          rw [a1, a3, c_ge_p (by decide) (by decide), if_pos (by decide), c1, ob_s, oc_s, c3, w1]
        · refine law_P hL (c3.trans w1) (CLQ.lp (w2.cg (Nat.le_refl _) (fun b y hb hy => hy.cg (fun j j1 j2 => c4 j (by omega))) (fun j j1 j2 => c5 j (by omega))))
      · obtain ⟨N, a1, a2, a3, a4⟩ := hRC M hM
        obtain ⟨w1, b, w2, w3, w4⟩ := a4 rfl
        obtain ⟨N2, c1, c2, c3, _⟩ := Rcp1 hL L.length am_big 0 (am_up N 73 19 (N 73 6)) (by omega) (by show _ < 1000000; omega) (by rw [upx (by decide)]; exact w1)
        have e73 : N2 73 = am_up N 73 19 (N 73 6) 73 := c2 73 (by omega)
        obtain ⟨N3, d1, d2, d3, _⟩ := Rcp2 w2 b am_big 0 N2 (by omega) (by show _ < 1000000; omega) (by rw [e73, upx (by decide)]; exact w3)
        have g73 : N3 73 = am_up N 73 19 (N 73 6) 73 := (d2 73 (by omega) (by omega)).trans e73
        have gk : ∀ k, k ≠ 73 → (k < 77 ∨ 82 < k) → N3 k = N k := fun k h1 h2 => by rw [d2 k (by omega) (by omega), c2 k (by omega), upo h1]
        have g19 : N3 73 19 = (L.length : Int) := by rw [g73, upj]; exact w1
        have gj : ∀ j, j ≠ 19 → N3 73 j = N 73 j := fun j hj => by rw [g73, upx hj]
        refine ⟨N3, ?_, ?_, ?_, fun q => (a2.2.2.1 (by rw [upx (by decide)] at q; exact q)).cg' (fun k a b => gk k (by omega) (by omega)), ?_⟩
        · unfold R_lawm_113 at a1
          have d1' : R_lawm_199 am_big 0 N2 = some (N2 73 6, N3) := d1
          have c1' : R_lawm_135 am_big 0 (am_up N 73 19 (N 73 6)) = R_lawm_199 am_big 0 N2 := c1
          rw [a1, a3, c_ge_p (by decide) (by decide), if_pos (by decide), fw_p, c1', d1', e73, upx (by decide), w1]
        · have h := a2.1
          unfold GR at h ⊢
          rw [upx (by decide), upx (by decide), upx (by decide), upj, upx (by decide), upo (by decide), upo (by decide), upo (by decide), gj 1 (by decide), gj 42 (by decide), gj 43 (by decide), gj 66 (by decide), g19, gk 74 (by decide) (by decide), gk 75 (by decide) (by decide), gk 92 (by decide) (by decide), gk 94 (by decide) (by decide)]
          exact ⟨⟨h.1.1, h.1.2.1, h.1.2.2.1, rfl, h.1.2.2.2.2⟩, h.2⟩
        · have h := a2.2.1
          unfold TR at h ⊢
          rw [gj 41 (by decide), gj 46 (by decide), gj 47 (by decide), gj 44 (by decide), gj 45 (by decide), gj 2 (by decide), gk 93 (by decide) (by decide), gk 95 (by decide) (by decide), gk 96 (by decide) (by decide), gk 97 (by decide) (by decide), gk 98 (by decide) (by decide), gk 99 (by decide) (by decide), gk 100 (by decide) (by decide)]
          exact h
        · refine law_R hL g19 (CLQ.lr (w4.cg (by omega) (fun b' y hb hy => hy.cg (fun j j1 j2 => ?_)) (fun j j1 j2 => ?_)))
          · have w := c3 j (by omega) (by omega)
            rw [d2 77 (by decide) (by decide), d2 78 (by decide) (by decide), d2 79 (by decide) (by decide), d2 80 (by decide) (by decide), w.1, w.2.1, w.2.2.1, w.2.2.2, upo (by decide), upo (by decide), upo (by decide), upo (by decide)]
            exact ⟨rfl, rfl, rfl, rfl⟩
          · have w := d3 j (by omega) (by omega)
            rw [w.1, w.2, c2 87 (by decide), c2 88 (by decide), upo (by decide), upo (by decide)]
            exact ⟨rfl, rfl⟩
  · refine ⟨-1, F, g, t, u, by decide, hW, fun M hC => ⟨M, ?_, hC.cg (fun _ _ => rfl) (by omega)⟩, fun M hR => ⟨M, ?_, hR⟩⟩
    · unfold P_law
      rw [Tape_take_eq hW.1 hC.1 hx (by decide) (by decide), if_neg (by omega), oc_s, c_ne_p (by decide) (by decide), if_neg (by decide)]
    · have e : M 73 1 = g 0 0 := hR.1.1.1
      unfold R_lawm R_lawm_20
      rw [ck_p hx, R_lies_eq hx (by decide) (by decide), ob_s]
      by_cases q1 : 1 ≤ x ∧ x ≤ 240
      · rw [if_pos q1, c_eq_p (by decide) (by decide), if_neg (by decide), e, c_le_p (by omega) (by omega), if_neg (fun h => hc ⟨q1, h⟩)]
      · rw [if_neg q1, c_eq_p (by decide) (by decide), if_pos (by decide)]
