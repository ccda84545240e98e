-- a law: its clauses
abbrev CLt : Type := Int × SX × SX
def clS (m v : Int) : Int := if v < 0 then 0 else if m < v then m else v
def FLw : List CLt → FT
  | [] => fun _ _ _ => 0
  | c :: r => fun l m e => if c.1 = l then (if (c.2.2.2.2.2 e).getD 0 = 0 then FLw r l m e else clS m ((c.2.1.2.2.2 e).getD 0)) else FLw r l m e
def CO (c : CLt) : Prop := am_R c.1 ∧ XO c.2.1 ∧ XO c.2.2 ∧ c.2.2.2.2.1 = true ∧ c.2.1.2.1 ≤ 40 ∧ c.2.2.2.1 ≤ 40
def CLP (o p l f m t : Nat → Int) : Nat → List CLt → Prop
  | _, [] => True
  | i, c :: r => (CO c ∧ ∃ b : Nat, (l i = c.1 ∧ f i = b ∧ m i = ((b + c.2.1.1 : Nat) : Int) ∧ t i = ((b + c.2.1.1 + c.2.2.1 : Nat) : Int)) ∧ b + c.2.1.1 + c.2.2.1 ≤ 240 ∧ CE o p b c.2.1 ∧ CE o p (b + c.2.1.1) c.2.2) ∧ CLP o p l f m t (i + 1) r
def CLR (o p l f m t : Nat → Int) : Nat → List CLt → Prop
  | _, [] => True
  | i, c :: r => (CO c ∧ ∃ b : Nat, (l i = c.1 ∧ f i = b ∧ m i = ((b + c.2.1.1 : Nat) : Int) ∧ t i = ((b + c.2.1.1 + c.2.2.1 : Nat) : Int)) ∧ b + c.2.1.1 + c.2.2.1 ≤ 240 ∧ REx o p b c.2.1 ∧ REx o p (b + c.2.1.1) c.2.2) ∧ CLR o p l f m t (i + 1) r
theorem clS_b {m v : Int} (h : 0 ≤ m) : 0 ≤ clS m v ∧ clS m v ≤ m := by
  unfold clS
  repeat' split
  all_goals omega
theorem mm_cl {m v : Int} (h : 0 ≤ m) : (if 0 < (if v < m then v else m) then (if v < m then v else m) else 0) = clS m v := by
  unfold clS
  repeat' split
  all_goals omega
theorem FLw_O : ∀ (L : List CLt), (∀ c, c ∈ L → CO c) → FO (FLw L)
  | [], _ => ⟨fun l m e h => by show 0 ≤ (0 : Int) ∧ (0 : Int) ≤ m; omega, fun _ _ _ _ _ => rfl⟩
  | c :: r, h => by
    obtain ⟨i1, i2⟩ := FLw_O r (fun x hx => h x (List.mem_cons_of_mem _ hx))
    have hc := h c List.mem_cons_self
    refine ⟨fun l m e hm => ?_, fun l m e e' he => ?_⟩
    · unfold FLw
      split
      · split
        · exact i1 l m e hm
        · exact clS_b hm
      · exact i1 l m e hm
    · unfold FLw
      rw [hc.2.1.2.1 e e' he, hc.2.2.1.2.1 e e' he, i2 l m e e' he]
theorem reckon_eq {M : am_M} {b : Nat} {x : SX} (hx : CE (M 6) (M 7) b x) (he : ∀ j, j < 7 → am_R (M 12 j)) (hd : x.2.1 ≤ 40) (hb : b + x.1 ≤ 240) (ox : XO x) : ∃ N, Law_reckon_5 (b : Int) ((b + x.1 : Nat) : Int) M = some ((x.2.2.2 (M 12)).getD 0, N) ∧ (∀ k, k ≠ 13 → N k = M k) ∧ am_R ((x.2.2.2 (M 12)).getD 0) := by
  obtain ⟨s, N, a1, a2, a3, a4, a5⟩ := hx M 0 ((b + x.1 : Nat) : Int) 0 0 (fun _ _ _ => ⟨rfl, rfl⟩) he (by decide) (by omega) (by omega) (by omega) (by omega) (by omega)
  refine ⟨N, ?_, a2, ?_⟩
  · unfold Law_reckon_5
    rw [show am_big = (999999 - s + 1) + s by show 1000000 = _; omega]
    cases h : x.2.2.2 (M 12) with
    | none => exact a5 h _
    | some v =>
      obtain ⟨_, a6⟩ := a4 v h
      refine (a6 _).trans ?_
      rw [Law_reckon_5_11]
      unfold Law_reckon_5_429
      rw [c_ge_p (by omega) (by decide), c_lt_p (by omega) (by decide), c_ge_p (by omega) (by omega), if_neg (show ¬ (((b + x.1 : Nat) : Int) < 0) by omega), if_pos (show ((b + x.1 : Nat) : Int) ≤ ((b + x.1 : Nat) : Int) by omega)]
      split <;> rfl
  · cases h : x.2.2.2 (M 12) with
    | none => exact (show am_R 0 by decide)
    | some v => exact ox.2.2.1 _ he v h
theorem ask_lp {l m : Int} (hl : am_R l) (hm : 0 ≤ m ∧ m ≤ 240) : ∀ (r : List CLt) (fu i : Nat) (M : am_M), r.length < fu → M 5 7 = ((i + r.length : Nat) : Int) → i + r.length ≤ 16 → CLP (M 6) (M 7) (M 8) (M 9) (M 10) (M 11) i r → (∀ j, j < 7 → am_R (M 12 j)) → ∃ N, Law_ask_5_2 fu l m (i : Int) M = some (FLw r l m (M 12), N)
  | [], fu + 1, i, M, hf, hn, h16, hC, he => by
    refine ⟨M, ?_⟩
    rw [List.length_nil] at hn
    unfold Law_ask_5_2 Law_ask_5_76
    rw [hn, c_ge_p (by omega) (by omega), if_pos (by omega)]
    rfl
  | c :: r, fu + 1, i, M, hf, hn, h16, hC, he => by
    rw [List.length_cons] at hn h16 hf
    obtain ⟨⟨⟨c1, c2, c3, c4, c5, c6⟩, b, ⟨d1, d2, d3, d4⟩, d5, d6, d7⟩, hC'⟩ := hC
    have ih := fun (N : am_M) (f2 : ∀ k, k ≠ 13 → N k = M k) => ask_lp hl hm r fu (i + 1) N (by omega) (by rw [f2 5 (by decide), hn]; omega) (by omega) (by rw [f2 6 (by decide), f2 7 (by decide), f2 8 (by decide), f2 9 (by decide), f2 10 (by decide), f2 11 (by decide)]; exact hC') (by rw [f2 12 (by decide)]; exact he)
    unfold Law_ask_5_2 Law_ask_5_76 Law_ask_5_70 FLw
    rw [hn, c_ge_p (by omega) (by omega), if_neg (by omega), c_ge_p (by omega) (by decide), if_neg (by omega), rd_p (by omega), show ((i : Int)).toNat = i by omega, d1, c_ne_p c1 hl]
    by_cases q : c.1 = l
    · obtain ⟨N1, a1, a2, a3⟩ := reckon_eq d7 he c6 (by omega) c3
      rw [if_neg (fun h => h q), if_pos q, rd_p (by omega), rd_p (by omega), show ((i : Int)).toNat = i by omega, d3, d4, a1, oc_s, c_eq_p a3 (by decide)]
      by_cases z : (c.2.2.2.2.2 (M 12)).getD 0 = 0
      · rw [if_pos z, if_pos z]
        obtain ⟨N, b1⟩ := ih N1 a2
        rw [a2 12 (by decide)] at b1
        exact ⟨N, by rw [show (i : Int) + 1 = ((i + 1 : Nat) : Int) by omega]; exact b1⟩
      · rw [if_neg z, if_neg z]
        obtain ⟨N2, b1, b2, b3⟩ := reckon_eq (M := N1) (b := b) (x := c.2.1) (by rw [a2 6 (by decide), a2 7 (by decide)]; exact d6) (by rw [a2 12 (by decide)]; exact he) c5 (by omega) c2
        rw [a2 12 (by decide)] at b1 b3
        rw [rd_p (by omega), rd_p (by omega), show ((i : Int)).toNat = i by omega, a2 9 (by decide), a2 10 (by decide), d2, d3, b1, oc_s, J_min_eq (by omega) b3, ob_s, J_max_eq (by decide) (by split <;> omega), ob_s]
        refine ⟨N2, ?_⟩
        rw [mm_cl hm.1]
    · obtain ⟨N, b1⟩ := ih M (fun _ _ => rfl)
      rw [if_pos q, if_neg q]
      exact ⟨N, by rw [show (i : Int) + 1 = ((i + 1 : Nat) : Int) by omega]; exact b1⟩
theorem law_P {L : List CLt} {M : am_M} (h16 : L.length ≤ 16) (h7 : M 5 7 = (L.length : Int)) (hC : CLP (M 6) (M 7) (M 8) (M 9) (M 10) (M 11) 0 L) : LWP (FLw L) M := by
  intro l m N e hl h0 h1 he
  obtain ⟨N', a1⟩ := ask_lp (m := m) hl ⟨h0, h1⟩ L am_big 0 N (by show _ < 1000000; omega) (by rw [e 5 (by omega) (by omega), h7]; omega) (by omega) (by rw [e 6 (by omega) (by omega), e 7 (by omega) (by omega), e 8 (by omega) (by omega), e 9 (by omega) (by omega), e 10 (by omega) (by omega), e 11 (by omega) (by omega)]; exact hC) he
  exact ⟨N', a1⟩
theorem works_eq {M : am_M} {b : Nat} {x : SX} (hx : REx (M 81) (M 82) b x) (he : ∀ j, j < 7 → am_R (enR M j)) (hb : b + x.1 ≤ 240) : ∃ N, R_works (b : Int) ((b + x.1 : Nat) : Int) M = some N ∧ (∀ k, k ≠ 90 → k ≠ 91 → N k = M k) ∧ (∀ v, x.2.2.2 (enR M) = some v → N 90 0 = v ∧ N 91 0 = 0) ∧ (x.2.2.2 (enR M) = none → N 91 0 = 1) := by
  obtain ⟨N, a1, a2, a3, a4, a5, a6⟩ := hx M 0 ((b + x.1 : Nat) : Int) (fun _ _ _ => ⟨rfl, rfl⟩) he (by omega) (by omega) (by omega)
  refine ⟨N, ?_, a1.1, a2, a3⟩
  unfold R_works
  rw [show am_big = (999999 - x.1 + 1) + x.1 by show 1000000 = _; omega]
  refine (a6 _).trans ?_
  rw [R_works_5, c_ge_p (by omega) (by omega), if_pos (by omega)]
theorem tell_lp {l m : Int} (hl : am_R l) (hm : 0 ≤ m ∧ m ≤ 240) : ∀ (r : List CLt) (fu i : Nat) (M : am_M), r.length < fu → M 73 19 = ((i + r.length : Nat) : Int) → i + r.length ≤ 16 → CLR (M 81) (M 82) (M 77) (M 78) (M 79) (M 80) i r → (∀ j, j < 7 → am_R (enR M j)) → ∃ N, R_tells_2 fu l m (i : Int) M = some (FLw r l m (enR M), N)
  | [], fu + 1, i, M, hf, hn, h16, hC, he => by
    refine ⟨M, ?_⟩
    rw [List.length_nil] at hn
    unfold R_tells_2
    rw [hn, c_ge_p (by omega) (by omega), if_pos (by omega)]
    rfl
  | c :: r, fu + 1, i, M, hf, hn, h16, hC, he => by
    rw [List.length_cons] at hn h16 hf
    obtain ⟨⟨⟨c1, c2, c3, c4, c5, c6⟩, b, ⟨d1, d2, d3, d4⟩, d5, d6, d7⟩, hC'⟩ := hC
    have ih := fun (N : am_M) (f2 : ∀ k, k ≠ 90 → k ≠ 91 → N k = M k) => tell_lp hl hm r fu (i + 1) N (by omega) (by rw [f2 73 (by decide) (by decide), hn]; omega) (by omega) (by rw [f2 81 (by decide) (by decide), f2 82 (by decide) (by decide), f2 77 (by decide) (by decide), f2 78 (by decide) (by decide), f2 79 (by decide) (by decide), f2 80 (by decide) (by decide)]; exact hC') (by unfold enR; rw [f2 73 (by decide) (by decide)]; exact he)
    have en : ∀ N : am_M, (∀ k, k ≠ 90 → k ≠ 91 → N k = M k) → enR N = enR M := fun N f2 => by unfold enR; rw [f2 73 (by decide) (by decide)]
    unfold R_tells_2 R_tells_101 R_tells_100 FLw
    rw [hn, c_ge_p (by omega) (by omega), if_neg (by omega), rd_p (by omega), show ((i : Int)).toNat = i by omega, d1, c_eq_p c1 hl]
    by_cases q : c.1 = l
    · obtain ⟨N1, a1, a2, a3, a4⟩ := works_eq d7 he (by omega)
      rw [if_pos q, if_pos q, rd_p (by omega), rd_p (by omega), show ((i : Int)).toNat = i by omega, d3, d4, a1, ob_s, rd_p (by decide), show ((0 : Int)).toNat = 0 from rfl]
      have hnx : ∃ N, R_tells_2 fu l m ((i : Int) + 1) N1 = some (FLw r l m (enR M), N) := by
        obtain ⟨N, b1⟩ := ih N1 a2
        rw [en N1 a2] at b1
        exact ⟨N, by rw [show (i : Int) + 1 = ((i + 1 : Nat) : Int) by omega]; exact b1⟩
      cases h : c.2.2.2.2.2 (enR M) with
      | none =>
        rw [a4 h, c_ne_p (by decide) (by decide), if_pos (by decide), if_pos (show (none : Option Int).getD 0 = 0 from rfl)]
        exact hnx
      | some v =>
        obtain ⟨w1, w2⟩ := a3 v h
        have hv := c3.2.2.2 c4 _ v h
        rw [w2, c_ne_p (by decide) (by decide), if_neg (by decide), rd_p (by decide), show ((0 : Int)).toNat = 0 from rfl, w1, c_eq_p (by omega) (by decide)]
        by_cases z : v = 0
        · rw [if_neg (by omega), if_pos (show (some v).getD 0 = 0 from z)]
          exact hnx
        · rw [if_pos (by omega), if_neg (show ¬ ((some v).getD 0 = 0) from z)]
          obtain ⟨N2, b1, b2, b3, b4⟩ := works_eq (M := N1) (b := b) (x := c.2.1) (by rw [a2 81 (by decide) (by decide), a2 82 (by decide) (by decide)]; exact d6) (by rw [en N1 a2]; exact he) (by omega)
          rw [en N1 a2] at b3 b4
          rw [rd_p (by omega), rd_p (by omega), show ((i : Int)).toNat = i by omega, a2 78 (by decide) (by decide), a2 79 (by decide) (by decide), d2, d3, b1, ob_s, rd_p (by decide), show ((0 : Int)).toNat = 0 from rfl]
          cases h2 : c.2.1.2.2.2 (enR M) with
          | none =>
            rw [b4 h2, c_eq_p (by decide) (by decide), if_neg (by decide)]
            refine ⟨N2, ?_⟩
            show some ((0 : Int), N2) = some (clS m 0, N2)
            unfold clS
            rw [if_neg (by decide), if_neg (by omega)]
          | some v2 =>
            obtain ⟨w3, w4⟩ := b3 v2 h2
            have hr := c2.2.2.1 _ he v2 h2
            rw [w4, c_eq_p (by decide) (by decide), if_pos rfl, rd_p (by decide), show ((0 : Int)).toNat = 0 from rfl, w3]
            unfold R_held R_held_18
            refine ⟨N2, ?_⟩
            rw [c_ge_p hr (by decide), c_le_p hr (by omega)]
            show _ = some (clS m v2, N2)
            unfold clS
            by_cases y1 : v2 < 0
            · rw [if_neg (by omega), if_pos y1, ob_s]
            · rw [if_pos (by omega), if_neg y1]
              by_cases y2 : m < v2
              · rw [if_neg (by omega), if_pos y2, ob_s]
              · rw [if_pos (by omega), if_neg y2, ob_s]
    · obtain ⟨N, b1⟩ := ih M (fun _ _ _ => rfl)
      rw [if_neg q, if_neg q]
      exact ⟨N, by rw [show (i : Int) + 1 = ((i + 1 : Nat) : Int) by omega]; exact b1⟩
theorem law_R {L : List CLt} {M : am_M} (h16 : L.length ≤ 16) (h7 : M 73 19 = (L.length : Int)) (hC : CLR (M 81) (M 82) (M 77) (M 78) (M 79) (M 80) 0 L) : LWR (FLw L) M := by
  intro l m N e e19 hl h0 h1 he
  obtain ⟨N', a1⟩ := tell_lp (m := m) hl ⟨h0, h1⟩ L am_big 0 N (by show _ < 1000000; omega) (by rw [e19, h7]; omega) (by omega) (by rw [e 81 (by omega) (by omega), e 82 (by omega) (by omega), e 77 (by omega) (by omega), e 78 (by omega) (by omega), e 79 (by omega) (by omega), e 80 (by omega) (by omega)]; exact hC) he
  exact ⟨N', a1⟩
