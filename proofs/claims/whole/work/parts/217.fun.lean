def R_paces_105    (x3 : Int) (M : am_M) : Option (Int × am_M) := c_ge (M 73 5) (0)
       (ck (am_R (x3)) ((if (x3) = (0) then
       (some ((M 73 84) - (M 73 86), M)) else
       (if (x3) = (1) then
       (some ((M 73 84) + (M 73 86), M)) else
       (if (x3) = (2) then
       (some ((M 73 85) - (M 73 87), M)) else
       (if (x3) = (3) then
       (some ((M 73 85) + (M 73 87), M)) else
       (some ((((2) * (M 73 86)) + (1)) * (((2) * (M 73 87)) + (1)), M))))))))
       (some (M 73 5, M))
def R_paces_74    : Nat → Int → Int → Int → am_M → Option (Int × am_M)
  | 0, _, _, _, _ => none
  | n + 1, x2, x3, x4, M => ob (R_isGood  M) fun v1 => c_eq (v1) (0)
       (R_paces_105    (x3) M)
       (c_ge (M 73 3) (M 73 4)
       (R_paces_105    (x3) M)
       (ob (R_leg (x4) (x2) M) fun M2 => (R_paces_74    n (x2) (x3) ((x4) + (1)) M2)))
def R_paces_44     (M : am_M) : Option (Int × am_M) := some (-1, M)
def R_paces    (x1 : Int) (x2 : Int) (x3 : Int) (M : am_M) : Option (Int × am_M) := ck (am_R (x1)) (ob (R_lies (x1) (1) (40) M) fun v1 => c_eq (v1) (0)
       (R_paces_44     M)
       (ck (am_R (x2)) (ob (R_lies (x2) (1) (99) M) fun v2 => c_eq (v2) (0)
       (R_paces_44     M)
       (ck (am_R (x3)) (ob (R_lies (x3) (0) (4) M) fun v3 => c_eq (v3) (0)
       (R_paces_44     M)
       (c_le (x1) (M 73 1)
       (ob (R_begins (x1) M) fun M4 => fw M4 73 84 (0) fun M5 => fw M5 73 85 (0) fun M6 => fw M6 73 86 (0) fun M7 => fw M7 73 87 (0) fun M8 => (R_paces_74    am_big (x2) (x3) (0) M8))
       (R_paces_44     M)))))))
theorem R_paces_105_t {L : Nat} {xs : Nat → Int} {d : Nat} (hd : 4 ≤ d)     (x3 : Int) (M : am_M) (r : Int × am_M) (h : R_paces_105    x3 M = some r) : am_Ev L xs d me_292 105 [(0, .inr (.inr (some 73))), (3, .inl (x3))] [] 126 138 M (some (.inl r.1), 126, 138, r.2) := by
  refine ev_k (pc' := 109) (ls' := [(0, .inr (.inr (some 73))), (3, .inl (x3))]) (st' := [.inl (M 73 5)]) (nc' := 126) (np' := 138) (M' := M) 2 rfl ?_
  obtain ⟨hR, ⟨hc, h⟩ | ⟨hc, h⟩⟩ := c_ge_i h
  · refine ev_ifc 117 rfl hR.1 (by decide) (fun _ => ?_) (fun q => absurd hc q)
    refine ev_k (pc' := 118) (ls' := [(0, .inr (.inr (some 73))), (3, .inl (x3))]) (st' := [.inl (x3)]) (nc' := 126) (np' := 138) (M' := M) 1 rfl ?_
    obtain ⟨hR, h⟩ := ck_i h
    rcases if_i h with ⟨hq, h⟩ | ⟨hq0, h⟩
    · refine ev_tsw 148 rfl hR (30) (Or.inr ⟨by rw [hq]; decide, by rw [hq]; rfl⟩) (by decide) ?_
      refine ev_k (pc' := 157) (ls' := [(0, .inr (.inr (some 73))), (3, .inl (x3))]) (st' := [.inl ((M 73 84) - (M 73 86))]) (nc' := 126) (np' := 138) (M' := M) 5 rfl ?_
      cases h
      exact ev_ret rfl
    · skip
      rcases if_i h with ⟨hq, h⟩ | ⟨hq1, h⟩
      · refine ev_tsw 158 rfl hR (40) (Or.inr ⟨by rw [hq]; decide, by rw [hq]; rfl⟩) (by decide) ?_
        refine ev_k (pc' := 167) (ls' := [(0, .inr (.inr (some 73))), (3, .inl (x3))]) (st' := [.inl ((M 73 84) + (M 73 86))]) (nc' := 126) (np' := 138) (M' := M) 5 rfl ?_
        cases h
        exact ev_ret rfl
      · skip
        rcases if_i h with ⟨hq, h⟩ | ⟨hq2, h⟩
        · refine ev_tsw 168 rfl hR (50) (Or.inr ⟨by rw [hq]; decide, by rw [hq]; rfl⟩) (by decide) ?_
          refine ev_k (pc' := 177) (ls' := [(0, .inr (.inr (some 73))), (3, .inl (x3))]) (st' := [.inl ((M 73 85) - (M 73 87))]) (nc' := 126) (np' := 138) (M' := M) 5 rfl ?_
          cases h
          exact ev_ret rfl
        · skip
          rcases if_i h with ⟨hq, h⟩ | ⟨hq3, h⟩
          · refine ev_tsw 178 rfl hR (60) (Or.inr ⟨by rw [hq]; decide, by rw [hq]; rfl⟩) (by decide) ?_
            refine ev_k (pc' := 187) (ls' := [(0, .inr (.inr (some 73))), (3, .inl (x3))]) (st' := [.inl ((M 73 85) + (M 73 87))]) (nc' := 126) (np' := 138) (M' := M) 5 rfl ?_
            cases h
            exact ev_ret rfl
          · skip
            have hho : ((x3) < 0 ∨ 3 < (x3)) ∨ ((x3) = 0 ∨ (x3) = 1 ∨ (x3) = 2 ∨ (x3) = 3) := by omega
            refine ev_tsw 188 rfl hR (70) ?_ (by decide) ?_
            · rcases hho with hho | hho
              · exact Or.inl ⟨hho, rfl⟩
              · rcases hho with hho | hho | hho | hho
                · exact absurd hho hq0
                · exact absurd hho hq1
                · exact absurd hho hq2
                · exact absurd hho hq3
            · skip
              refine ev_k (pc' := 205) (ls' := [(0, .inr (.inr (some 73))), (3, .inl (x3))]) (st' := [.inl ((((2) * (M 73 86)) + (1)) * (((2) * (M 73 87)) + (1)))]) (nc' := 126) (np' := 138) (M' := M) 13 rfl ?_
              cases h
              exact ev_ret rfl
  · refine ev_ifc 117 rfl hR.1 (by decide) (fun q => absurd q hc) (fun _ => ?_)
    refine ev_k (pc' := 116) (ls' := [(0, .inr (.inr (some 73))), (3, .inl (x3))]) (st' := [.inl (M 73 5)]) (nc' := 126) (np' := 138) (M' := M) 2 rfl ?_
    cases h
    exact ev_ret rfl
theorem R_paces_74_t {L : Nat} {xs : Nat → Int} {d : Nat} (hd : 4 ≤ d)     : ∀ (n : Nat) (x2 : Int) (x3 : Int) (x4 : Int) (M : am_M) (r : Int × am_M), R_paces_74    n x2 x3 x4 M = some r → am_Ev L xs d me_292 74 [(0, .inr (.inr (some 73))), (2, .inl (x2)), (3, .inl (x3)), (4, .inl (x4))] [] 126 138 M (some (.inl r.1), 126, 138, r.2)
  | 0, _, _, _, M, r, h => by cases h
  | n + 1, x2, x3, x4, M, r, h => by
    have ih := R_paces_74_t (L := L) (xs := xs) hd     n
    refine ev_k (pc' := 75) (ls' := [(0, .inr (.inr (some 73))), (2, .inl (x2)), (3, .inl (x3)), (4, .inl (x4))]) (st' := [.inr (.inr (some 73))]) (nc' := 126) (np' := 138) (M' := M) 1 rfl ?_
    obtain ⟨v1, hv, h⟩ := ob_i h
    refine ev_call (t := 195) (as := [.inr (.inr (some 73))]) (rest := []) rfl rfl rfl (by omega) (R_isGood_e (by omega)  M _ hv) ?_
    refine ev_k (pc' := 78) (ls' := [(0, .inr (.inr (some 73))), (2, .inl (x2)), (3, .inl (x3)), (4, .inl (x4))]) (st' := [.inl (v1)]) (nc' := 126) (np' := 138) (M' := M) 0 rfl ?_
    obtain ⟨hR, ⟨hc, h⟩ | ⟨hc, h⟩⟩ := c_eq_i h
    · refine ev_ifc 105 rfl hR.1 (by decide) (fun _ => ?_) (fun q => absurd hc q)
      exact R_paces_105_t hd     (x3) M r h
    · refine ev_ifc 105 rfl hR.1 (by decide) (fun q => absurd q hc) (fun _ => ?_)
      refine ev_k (pc' := 89) (ls' := [(0, .inr (.inr (some 73))), (2, .inl (x2)), (3, .inl (x3)), (4, .inl (x4))]) (st' := [.inl (M 73 4), .inl (M 73 3)]) (nc' := 126) (np' := 138) (M' := M) 4 rfl ?_
      obtain ⟨hR, ⟨hc, h⟩ | ⟨hc, h⟩⟩ := c_ge_i h
      · refine ev_icmp 105 rfl hR.1 hR.2 (by decide) (fun _ => ?_) (fun q => absurd hc q)
        exact R_paces_105_t hd     (x3) M r h
      · refine ev_icmp 105 rfl hR.1 hR.2 (by decide) (fun q => absurd q hc) (fun _ => ?_)
        refine ev_k (pc' := 96) (ls' := [(0, .inr (.inr (some 73))), (2, .inl (x2)), (3, .inl (x3)), (4, .inl (x4))]) (st' := [.inl (x2), .inl (x4), .inr (.inr (some 73))]) (nc' := 126) (np' := 138) (M' := M) 3 rfl ?_
        obtain ⟨M2, hv, h⟩ := ob_i h
        refine ev_call (t := 293) (as := [.inr (.inr (some 73)), .inl (x4), .inl (x2)]) (rest := []) rfl rfl rfl (by omega) (R_leg_e (by omega) (x4) (x2) M _ hv) ?_
        refine ev_k (pc' := 74) (ls' := [(0, .inr (.inr (some 73))), (2, .inl (x2)), (3, .inl (x3)), (4, .inl ((x4) + (1)))]) (st' := []) (nc' := 126) (np' := 138) (M' := M2) 2 rfl ?_
        exact ih (x2) (x3) ((x4) + (1)) M2 r h
theorem R_paces_44_t {L : Nat} {xs : Nat → Int} {d : Nat} (hd : 4 ≤ d)      (M : am_M) (r : Int × am_M) (h : R_paces_44     M = some r) : am_Ev L xs d me_292 44 [] [] 126 138 M (some (.inl r.1), 126, 138, r.2) := by
  refine ev_k (pc' := 45) (ls' := []) (st' := [.inl (-1)]) (nc' := 126) (np' := 138) (M' := M) 1 rfl ?_
  cases h
  exact ev_ret rfl
theorem R_paces_e {L : Nat} {xs : Nat → Int} {d : Nat} (hd : 4 ≤ d)   (x1 : Int) (x2 : Int) (x3 : Int) (M : am_M) (r : Int × am_M) (h : R_paces   x1 x2 x3 M = some r) : am_Ev L xs d me_292 0 (am_ar1 0 [.inr (.inr (some 73)), .inl (x1), .inl (x2), .inl (x3)]) [] 126 138 M (some (.inl r.1), 126, 138, r.2) := by
  refine ev_k (pc' := 1) (ls' := [(0, .inr (.inr (some 73))), (1, .inl (x1)), (2, .inl (x2)), (3, .inl (x3))]) (st' := [.inl (x1)]) (nc' := 126) (np' := 138) (M' := M) 1 rfl ?_
  obtain ⟨hc, h⟩ := ck_i h
  refine ev_i2l rfl hc ?_
  refine ev_k (pc' := 6) (ls' := [(0, .inr (.inr (some 73))), (1, .inl (x1)), (2, .inl (x2)), (3, .inl (x3))]) (st' := [.inr (.inl (40)), .inr (.inl (1)), .inr (.inl (x1))]) (nc' := 126) (np' := 138) (M' := M) 2 rfl ?_
  obtain ⟨v1, hv, h⟩ := ob_i h
  refine ev_call (t := 193) (as := [.inr (.inl (x1)), .inr (.inl (1)), .inr (.inl (40))]) (rest := []) rfl rfl rfl (by omega) (R_lies_e (by omega) (x1) (1) (40) M _ hv) ?_
  refine ev_k (pc' := 9) (ls' := [(0, .inr (.inr (some 73))), (1, .inl (x1)), (2, .inl (x2)), (3, .inl (x3))]) (st' := [.inl (v1)]) (nc' := 126) (np' := 138) (M' := M) 0 rfl ?_
  obtain ⟨hR, ⟨hc, h⟩ | ⟨hc, h⟩⟩ := c_eq_i h
  · refine ev_ifc 44 rfl hR.1 (by decide) (fun _ => ?_) (fun q => absurd hc q)
    exact R_paces_44_t hd      M r h
  · refine ev_ifc 44 rfl hR.1 (by decide) (fun q => absurd q hc) (fun _ => ?_)
    refine ev_k (pc' := 13) (ls' := [(0, .inr (.inr (some 73))), (1, .inl (x1)), (2, .inl (x2)), (3, .inl (x3))]) (st' := [.inl (x2)]) (nc' := 126) (np' := 138) (M' := M) 1 rfl ?_
    obtain ⟨hc, h⟩ := ck_i h
    refine ev_i2l rfl hc ?_
    refine ev_k (pc' := 18) (ls' := [(0, .inr (.inr (some 73))), (1, .inl (x1)), (2, .inl (x2)), (3, .inl (x3))]) (st' := [.inr (.inl (99)), .inr (.inl (1)), .inr (.inl (x2))]) (nc' := 126) (np' := 138) (M' := M) 2 rfl ?_
    obtain ⟨v2, hv, h⟩ := ob_i h
    refine ev_call (t := 193) (as := [.inr (.inl (x2)), .inr (.inl (1)), .inr (.inl (99))]) (rest := []) rfl rfl rfl (by omega) (R_lies_e (by omega) (x2) (1) (99) M _ hv) ?_
    refine ev_k (pc' := 21) (ls' := [(0, .inr (.inr (some 73))), (1, .inl (x1)), (2, .inl (x2)), (3, .inl (x3))]) (st' := [.inl (v2)]) (nc' := 126) (np' := 138) (M' := M) 0 rfl ?_
    obtain ⟨hR, ⟨hc, h⟩ | ⟨hc, h⟩⟩ := c_eq_i h
    · refine ev_ifc 44 rfl hR.1 (by decide) (fun _ => ?_) (fun q => absurd hc q)
      exact R_paces_44_t hd      M r h
    · refine ev_ifc 44 rfl hR.1 (by decide) (fun q => absurd q hc) (fun _ => ?_)
      refine ev_k (pc' := 25) (ls' := [(0, .inr (.inr (some 73))), (1, .inl (x1)), (2, .inl (x2)), (3, .inl (x3))]) (st' := [.inl (x3)]) (nc' := 126) (np' := 138) (M' := M) 1 rfl ?_
      obtain ⟨hc, h⟩ := ck_i h
      refine ev_i2l rfl hc ?_
      refine ev_k (pc' := 30) (ls' := [(0, .inr (.inr (some 73))), (1, .inl (x1)), (2, .inl (x2)), (3, .inl (x3))]) (st' := [.inr (.inl (4)), .inr (.inl (0)), .inr (.inl (x3))]) (nc' := 126) (np' := 138) (M' := M) 2 rfl ?_
      obtain ⟨v3, hv, h⟩ := ob_i h
      refine ev_call (t := 193) (as := [.inr (.inl (x3)), .inr (.inl (0)), .inr (.inl (4))]) (rest := []) rfl rfl rfl (by omega) (R_lies_e (by omega) (x3) (0) (4) M _ hv) ?_
      refine ev_k (pc' := 33) (ls' := [(0, .inr (.inr (some 73))), (1, .inl (x1)), (2, .inl (x2)), (3, .inl (x3))]) (st' := [.inl (v3)]) (nc' := 126) (np' := 138) (M' := M) 0 rfl ?_
      obtain ⟨hR, ⟨hc, h⟩ | ⟨hc, h⟩⟩ := c_eq_i h
      · refine ev_ifc 44 rfl hR.1 (by decide) (fun _ => ?_) (fun q => absurd hc q)
        exact R_paces_44_t hd      M r h
      · refine ev_ifc 44 rfl hR.1 (by decide) (fun q => absurd q hc) (fun _ => ?_)
        refine ev_k (pc' := 41) (ls' := [(0, .inr (.inr (some 73))), (1, .inl (x1)), (2, .inl (x2)), (3, .inl (x3))]) (st' := [.inl (M 73 1), .inl (x1)]) (nc' := 126) (np' := 138) (M' := M) 3 rfl ?_
        obtain ⟨hR, ⟨hc, h⟩ | ⟨hc, h⟩⟩ := c_le_i h
        · refine ev_icmp 46 rfl hR.1 hR.2 (by decide) (fun _ => ?_) (fun q => absurd hc q)
          refine ev_k (pc' := 48) (ls' := [(0, .inr (.inr (some 73))), (1, .inl (x1)), (2, .inl (x2)), (3, .inl (x3))]) (st' := [.inl (x1), .inr (.inr (some 73))]) (nc' := 126) (np' := 138) (M' := M) 2 rfl ?_
          obtain ⟨M4, hv, h⟩ := ob_i h
          refine ev_call (t := 194) (as := [.inr (.inr (some 73)), .inl (x1)]) (rest := []) rfl rfl rfl (by omega) (R_begins_e (by omega) (x1) M _ hv) ?_
          refine ev_k (pc' := 56) (ls' := [(0, .inr (.inr (some 73))), (1, .inl (x1)), (2, .inl (x2)), (3, .inl (x3))]) (st' := []) (nc' := 126) (np' := 138) (M' := am_up M4 73 84 (0)) 3 rfl ?_
          obtain ⟨M5, eM, h⟩ := fw_i h
          rw [← eM]
          refine ev_k (pc' := 61) (ls' := [(0, .inr (.inr (some 73))), (1, .inl (x1)), (2, .inl (x2)), (3, .inl (x3))]) (st' := []) (nc' := 126) (np' := 138) (M' := am_up M5 73 85 (0)) 3 rfl ?_
          obtain ⟨M6, eM, h⟩ := fw_i h
          rw [← eM]
          refine ev_k (pc' := 66) (ls' := [(0, .inr (.inr (some 73))), (1, .inl (x1)), (2, .inl (x2)), (3, .inl (x3))]) (st' := []) (nc' := 126) (np' := 138) (M' := am_up M6 73 86 (0)) 3 rfl ?_
          obtain ⟨M7, eM, h⟩ := fw_i h
          rw [← eM]
          refine ev_k (pc' := 71) (ls' := [(0, .inr (.inr (some 73))), (1, .inl (x1)), (2, .inl (x2)), (3, .inl (x3))]) (st' := []) (nc' := 126) (np' := 138) (M' := am_up M7 73 87 (0)) 3 rfl ?_
          obtain ⟨M8, eM, h⟩ := fw_i h
          rw [← eM]
          refine ev_k (pc' := 74) (ls' := [(0, .inr (.inr (some 73))), (2, .inl (x2)), (3, .inl (x3)), (4, .inl (0))]) (st' := []) (nc' := 126) (np' := 138) (M' := M8) 2 rfl ?_
          exact R_paces_74_t hd     am_big (x2) (x3) (0) M8 r h
        · refine ev_icmp 46 rfl hR.1 hR.2 (by decide) (fun q => absurd q hc) (fun _ => ?_)
          exact R_paces_44_t hd      M r h
def R_byteAt    (x1 : Int) (M : am_M) : Option (Int) := rd M 74 260 (x1) fun v1 => some (b_and (v1) (255))
theorem R_byteAt_e {L : Nat} {xs : Nat → Int} {d : Nat} (hd : 0 ≤ d)   (x1 : Int) (M : am_M) (r : Int) (h : R_byteAt   x1 M = some r) : am_Ev L xs d me_295 0 (am_ar1 0 [.inr (.inr (some 73)), .inl (x1)]) [] 126 138 M (some (.inl r), 126, 138, M) := by
  refine ev_k (pc' := 5) (ls' := [(0, .inr (.inr (some 73))), (1, .inl (x1))]) (st' := [.inl (x1), .inr (.inr (some 74))]) (nc' := 126) (np' := 138) (M' := M) 3 rfl ?_
  obtain ⟨hc, v1, ev, h⟩ := rd_i h
  refine ev_ald (k := 74) (t := 1) (Or.inr ⟨rfl, Or.inl rfl⟩) rfl (by decide) (by decide) rfl hc ev ?_
  refine ev_k (pc' := 10) (ls' := [(0, .inr (.inr (some 73))), (1, .inl (x1))]) (st' := [.inl (b_and (v1) (255))]) (nc' := 126) (np' := 138) (M' := M) 2 rfl ?_
  cases h
  exact ev_ret rfl
def R_isOrder_40    (s0 : Int) (M : am_M) : Option (Int) := ck ((s0) = 0 ∨ (s0) = 1) (some (s0))
def R_isOrder_4    : Nat → Int → Int → Int → am_M → Option (Int)
  | 0, _, _, _, _ => none
  | n + 1, x1, x2, x3, M => c_ge (x3) (x1)
       (c_ne (x2) ((b_shl (1) (x1)) - (1))
       ((R_isOrder_40    (0) M))
       ((R_isOrder_40    (1) M)))
       (rd M 121 6 (x3) fun v1 => (R_isOrder_4    n (x1) (b_or (x2) (b_shl (1) (v1))) ((x3) + (1)) M))
def R_isOrder    (x1 : Int) (M : am_M) : Option (Int) := (R_isOrder_4    am_big (x1) (0) (0) M)
theorem R_isOrder_40_t {L : Nat} {xs : Nat → Int} {d : Nat} (hd : 0 ≤ d)     (s0 : Int) (M : am_M) (r : Int) (h : R_isOrder_40    s0 M = some r) : am_Ev L xs d me_296 40 [] [.inl (s0)] 126 138 M (some (.inl r), 126, 138, M) := by
  refine ev_k (pc' := 40) (ls' := []) (st' := [.inl (s0)]) (nc' := 126) (np' := 138) (M' := M) 0 rfl ?_
  obtain ⟨hc, h⟩ := ck_i h
  cases h
  exact ev_retz rfl rfl hc
theorem R_isOrder_4_t {L : Nat} {xs : Nat → Int} {d : Nat} (hd : 0 ≤ d)     : ∀ (n : Nat) (x1 : Int) (x2 : Int) (x3 : Int) (M : am_M) (r : Int), R_isOrder_4    n x1 x2 x3 M = some r → am_Ev L xs d me_296 4 [(0, .inr (.inr (some 73))), (1, .inl (x1)), (2, .inl (x2)), (3, .inl (x3))] [] 126 138 M (some (.inl r), 126, 138, M)
  | 0, _, _, _, M, r, h => by cases h
  | n + 1, x1, x2, x3, M, r, h => by
    have ih := R_isOrder_4_t (L := L) (xs := xs) hd     n
    refine ev_k (pc' := 6) (ls' := [(0, .inr (.inr (some 73))), (1, .inl (x1)), (2, .inl (x2)), (3, .inl (x3))]) (st' := [.inl (x1), .inl (x3)]) (nc' := 126) (np' := 138) (M' := M) 2 rfl ?_
    obtain ⟨hR, ⟨hc, h⟩ | ⟨hc, h⟩⟩ := c_ge_i h
    · refine ev_icmp 26 rfl hR.1 hR.2 (by decide) (fun _ => ?_) (fun q => absurd hc q)
      refine ev_k (pc' := 32) (ls' := [(0, .inr (.inr (some 73))), (1, .inl (x1)), (2, .inl (x2)), (3, .inl (x3))]) (st' := [.inl ((b_shl (1) (x1)) - (1)), .inl (x2)]) (nc' := 126) (np' := 138) (M' := M) 6 rfl ?_
      obtain ⟨hR, ⟨hc, h⟩ | ⟨hc, h⟩⟩ := c_ne_i h
      · refine ev_icmp 39 rfl hR.1 hR.2 (by decide) (fun _ => ?_) (fun q => absurd hc q)
        refine ev_k (pc' := 40) (ls' := []) (st' := [.inl (0)]) (nc' := 126) (np' := 138) (M' := M) 1 rfl ?_
        exact R_isOrder_40_t hd     (0) M r h
      · refine ev_icmp 39 rfl hR.1 hR.2 (by decide) (fun q => absurd q hc) (fun _ => ?_)
        refine ev_k (pc' := 40) (ls' := []) (st' := [.inl (1)]) (nc' := 126) (np' := 138) (M' := M) 2 rfl ?_
        exact R_isOrder_40_t hd     (1) M r h
    · refine ev_icmp 26 rfl hR.1 hR.2 (by decide) (fun q => absurd q hc) (fun _ => ?_)
      refine ev_k (pc' := 16) (ls' := [(0, .inr (.inr (some 73))), (1, .inl (x1)), (2, .inl (x2)), (3, .inl (x3))]) (st' := [.inl (x3), .inr (.inr (some 121)), .inl (1), .inl (x2)]) (nc' := 126) (np' := 138) (M' := M) 5 rfl ?_
      obtain ⟨hc, v1, ev, h⟩ := rd_i h
      refine ev_ald (k := 121) (t := 0) (Or.inl ⟨rfl, rfl⟩) rfl (by decide) (by decide) rfl hc ev ?_
      refine ev_k (pc' := 4) (ls' := [(0, .inr (.inr (some 73))), (1, .inl (x1)), (2, .inl (b_or (x2) (b_shl (1) (v1)))), (3, .inl ((x3) + (1)))]) (st' := []) (nc' := 126) (np' := 138) (M' := M) 5 rfl ?_
      exact ih (x1) (b_or (x2) (b_shl (1) (v1))) ((x3) + (1)) M r h
theorem R_isOrder_e {L : Nat} {xs : Nat → Int} {d : Nat} (hd : 0 ≤ d)   (x1 : Int) (M : am_M) (r : Int) (h : R_isOrder   x1 M = some r) : am_Ev L xs d me_296 0 (am_ar1 0 [.inr (.inr (some 73)), .inl (x1)]) [] 126 138 M (some (.inl r), 126, 138, M) := by
  refine ev_k (pc' := 4) (ls' := [(0, .inr (.inr (some 73))), (1, .inl (x1)), (2, .inl (0)), (3, .inl (0))]) (st' := []) (nc' := 126) (np' := 138) (M' := M) 4 rfl ?_
  exact R_isOrder_4_t hd     am_big (x1) (0) (0) M r h
def R_stepsBetween    (x0 : Int) (x1 : Int) (M : am_M) : Option (Int) := ck (am_R (x0) ∧ am_R (12) ∧ ((12) : Int) ≠ 0) (tw (Int.tmod (x0) (12)) fun v1 => ck (am_R (x1) ∧ am_R (12) ∧ ((12) : Int) ≠ 0) (tw (Int.tmod (x1) (12)) fun v2 => ob (R_amount ((v1) - (v2)) M) fun v3 => ck (am_R (x0) ∧ am_R (12) ∧ ((12) : Int) ≠ 0) (tw (Int.tdiv (x0) (12)) fun v4 => ck (am_R (x1) ∧ am_R (12) ∧ ((12) : Int) ≠ 0) (tw (Int.tdiv (x1) (12)) fun v5 => ob (R_amount ((v4) - (v5)) M) fun v6 => some ((v3) + (v6))))))
theorem R_stepsBetween_e {L : Nat} {xs : Nat → Int} {d : Nat} (hd : 1 ≤ d)   (x0 : Int) (x1 : Int) (M : am_M) (r : Int) (h : R_stepsBetween   x0 x1 M = some r) : am_Ev L xs d me_298 0 (am_ar1 0 [.inl (x0), .inl (x1)]) [] 126 138 M (some (.inl r), 126, 138, M) := by
  refine ev_k (pc' := 3) (ls' := [(0, .inl (x0)), (1, .inl (x1))]) (st' := [.inl (12), .inl (x0)]) (nc' := 126) (np' := 138) (M' := M) 2 rfl ?_
  obtain ⟨hc, h⟩ := ck_i h
  obtain ⟨v1, ev, h⟩ := tw_i h
  refine ev_irem rfl hc ?_
  refine ev_k (pc' := 4) (ls' := [(0, .inl (x0)), (1, .inl (x1))]) (st' := [.inl (Int.tmod (x0) (12))]) (nc' := 126) (np' := 138) (M' := M) 0 rfl ?_
  rw [← ev]
  refine ev_k (pc' := 7) (ls' := [(0, .inl (x0)), (1, .inl (x1))]) (st' := [.inl (12), .inl (x1), .inl (v1)]) (nc' := 126) (np' := 138) (M' := M) 2 rfl ?_
  obtain ⟨hc, h⟩ := ck_i h
  obtain ⟨v2, ev, h⟩ := tw_i h
  refine ev_irem rfl hc ?_
  refine ev_k (pc' := 8) (ls' := [(0, .inl (x0)), (1, .inl (x1))]) (st' := [.inl (Int.tmod (x1) (12)), .inl (v1)]) (nc' := 126) (np' := 138) (M' := M) 0 rfl ?_
  rw [← ev]
  refine ev_k (pc' := 9) (ls' := [(0, .inl (x0)), (1, .inl (x1))]) (st' := [.inl ((v1) - (v2))]) (nc' := 126) (np' := 138) (M' := M) 1 rfl ?_
  obtain ⟨v3, hv, h⟩ := ob_i h
  refine ev_call (t := 246) (as := [.inl ((v1) - (v2))]) (rest := []) rfl rfl rfl (by omega) (R_amount_e (by omega) ((v1) - (v2)) M _ hv) ?_
  refine ev_k (pc' := 15) (ls' := [(0, .inl (x0)), (1, .inl (x1))]) (st' := [.inl (12), .inl (x0), .inl (v3)]) (nc' := 126) (np' := 138) (M' := M) 2 rfl ?_
  obtain ⟨hc, h⟩ := ck_i h
  obtain ⟨v4, ev, h⟩ := tw_i h
  refine ev_idiv rfl hc ?_
  refine ev_k (pc' := 16) (ls' := [(0, .inl (x0)), (1, .inl (x1))]) (st' := [.inl (Int.tdiv (x0) (12)), .inl (v3)]) (nc' := 126) (np' := 138) (M' := M) 0 rfl ?_
  rw [← ev]
  refine ev_k (pc' := 19) (ls' := [(0, .inl (x0)), (1, .inl (x1))]) (st' := [.inl (12), .inl (x1), .inl (v4), .inl (v3)]) (nc' := 126) (np' := 138) (M' := M) 2 rfl ?_
  obtain ⟨hc, h⟩ := ck_i h
  obtain ⟨v5, ev, h⟩ := tw_i h
  refine ev_idiv rfl hc ?_
  refine ev_k (pc' := 20) (ls' := [(0, .inl (x0)), (1, .inl (x1))]) (st' := [.inl (Int.tdiv (x1) (12)), .inl (v4), .inl (v3)]) (nc' := 126) (np' := 138) (M' := M) 0 rfl ?_
  rw [← ev]
  refine ev_k (pc' := 21) (ls' := [(0, .inl (x0)), (1, .inl (x1))]) (st' := [.inl ((v4) - (v5)), .inl (v3)]) (nc' := 126) (np' := 138) (M' := M) 1 rfl ?_
  obtain ⟨v6, hv, h⟩ := ob_i h
  refine ev_call (t := 246) (as := [.inl ((v4) - (v5))]) (rest := [.inl (v3)]) rfl rfl rfl (by omega) (R_amount_e (by omega) ((v4) - (v5)) M _ hv) ?_
  refine ev_k (pc' := 25) (ls' := [(0, .inl (x0)), (1, .inl (x1))]) (st' := [.inl ((v3) + (v6))]) (nc' := 126) (np' := 138) (M' := M) 1 rfl ?_
  cases h
  exact ev_ret rfl
def R_soughtBy_18    : Nat → Int → Int → Int → Int → Int → am_M → Option (Int)
  | 0, _, _, _, _, _, _ => none
  | n + 1, x1, x2, x3, x4, x5, M => c_ge (x5) (x1)
       (some (x4))
       (rd M 121 6 (x5) fun v1 => ob (R_byteAt ((2) * (v1)) M) fun v2 => ob (R_stepsBetween (x2) (v2) M) fun v3 => rd M 121 6 (x5) fun v4 => ob (R_byteAt ((2) * (v4)) M) fun v5 => rd M 121 6 (x5) fun v6 => ob (R_byteAt (((2) * (v6)) + (1)) M) fun v7 => (R_soughtBy_18    n (x1) (v5) ((x3) + (v3)) ((x4) + ((v7) * ((x3) + (v3)))) ((x5) + (1)) M))
def R_soughtBy    (x1 : Int) (M : am_M) : Option (Int) := rd M 95 100 (M 73 47) fun v1 => (R_soughtBy_18    am_big (x1) (v1) (0) (0) (0) M)
theorem R_soughtBy_18_t {L : Nat} {xs : Nat → Int} {d : Nat} (hd : 2 ≤ d)     : ∀ (n : Nat) (x1 : Int) (x2 : Int) (x3 : Int) (x4 : Int) (x5 : Int) (M : am_M) (r : Int), R_soughtBy_18    n x1 x2 x3 x4 x5 M = some r → am_Ev L xs d me_297 18 [(0, .inr (.inr (some 73))), (1, .inl (x1)), (2, .inl (x2)), (3, .inl (x3)), (4, .inl (x4)), (5, .inl (x5))] [] 126 138 M (some (.inl r), 126, 138, M)
  | 0, _, _, _, _, _, M, r, h => by cases h
  | n + 1, x1, x2, x3, x4, x5, M, r, h => by
    have ih := R_soughtBy_18_t (L := L) (xs := xs) hd     n
    refine ev_k (pc' := 21) (ls' := [(0, .inr (.inr (some 73))), (1, .inl (x1)), (2, .inl (x2)), (3, .inl (x3)), (4, .inl (x4)), (5, .inl (x5))]) (st' := [.inl (x1), .inl (x5)]) (nc' := 126) (np' := 138) (M' := M) 2 rfl ?_
    obtain ⟨hR, ⟨hc, h⟩ | ⟨hc, h⟩⟩ := c_ge_i h
    · refine ev_icmp 86 rfl hR.1 hR.2 (by decide) (fun _ => ?_) (fun q => absurd hc q)
      refine ev_k (pc' := 88) (ls' := [(0, .inr (.inr (some 73))), (1, .inl (x1)), (2, .inl (x2)), (3, .inl (x3)), (4, .inl (x4)), (5, .inl (x5))]) (st' := [.inl (x4)]) (nc' := 126) (np' := 138) (M' := M) 1 rfl ?_
      cases h
      exact ev_ret rfl
    · refine ev_icmp 86 rfl hR.1 hR.2 (by decide) (fun q => absurd q hc) (fun _ => ?_)
      refine ev_k (pc' := 34) (ls' := [(0, .inr (.inr (some 73))), (1, .inl (x1)), (2, .inl (x2)), (3, .inl (x3)), (4, .inl (x4)), (5, .inl (x5))]) (st' := [.inl (x5), .inr (.inr (some 121)), .inl (2), .inr (.inr (some 73)), .inl (x2), .inl (x3)]) (nc' := 126) (np' := 138) (M' := M) 7 rfl ?_
      obtain ⟨hc, v1, ev, h⟩ := rd_i h
      refine ev_ald (k := 121) (t := 0) (Or.inl ⟨rfl, rfl⟩) rfl (by decide) (by decide) rfl hc ev ?_
      refine ev_k (pc' := 36) (ls' := [(0, .inr (.inr (some 73))), (1, .inl (x1)), (2, .inl (x2)), (3, .inl (x3)), (4, .inl (x4)), (5, .inl (x5))]) (st' := [.inl ((2) * (v1)), .inr (.inr (some 73)), .inl (x2), .inl (x3)]) (nc' := 126) (np' := 138) (M' := M) 1 rfl ?_
      obtain ⟨v2, hv, h⟩ := ob_i h
      refine ev_call (t := 295) (as := [.inr (.inr (some 73)), .inl ((2) * (v1))]) (rest := [.inl (x2), .inl (x3)]) rfl rfl rfl (by omega) (R_byteAt_e (by omega) ((2) * (v1)) M _ hv) ?_
      refine ev_k (pc' := 39) (ls' := [(0, .inr (.inr (some 73))), (1, .inl (x1)), (2, .inl (x2)), (3, .inl (x3)), (4, .inl (x4)), (5, .inl (x5))]) (st' := [.inl (v2), .inl (x2), .inl (x3)]) (nc' := 126) (np' := 138) (M' := M) 0 rfl ?_
      obtain ⟨v3, hv, h⟩ := ob_i h
      refine ev_call (t := 298) (as := [.inl (x2), .inl (v2)]) (rest := [.inl (x3)]) rfl rfl rfl (by omega) (R_stepsBetween_e (by omega) (x2) (v2) M _ hv) ?_
      refine ev_k (pc' := 52) (ls' := [(3, .inl ((x3) + (v3))), (0, .inr (.inr (some 73))), (1, .inl (x1)), (2, .inl (x2)), (4, .inl (x4)), (5, .inl (x5))]) (st' := [.inl (x5), .inr (.inr (some 121)), .inl (2), .inr (.inr (some 73))]) (nc' := 126) (np' := 138) (M' := M) 7 rfl ?_
      obtain ⟨hc, v4, ev, h⟩ := rd_i h
      refine ev_ald (k := 121) (t := 0) (Or.inl ⟨rfl, rfl⟩) rfl (by decide) (by decide) rfl hc ev ?_
      refine ev_k (pc' := 54) (ls' := [(3, .inl ((x3) + (v3))), (0, .inr (.inr (some 73))), (1, .inl (x1)), (2, .inl (x2)), (4, .inl (x4)), (5, .inl (x5))]) (st' := [.inl ((2) * (v4)), .inr (.inr (some 73))]) (nc' := 126) (np' := 138) (M' := M) 1 rfl ?_
      obtain ⟨v5, hv, h⟩ := ob_i h
      refine ev_call (t := 295) (as := [.inr (.inr (some 73)), .inl ((2) * (v4))]) (rest := []) rfl rfl rfl (by omega) (R_byteAt_e (by omega) ((2) * (v4)) M _ hv) ?_
      refine ev_k (pc' := 68) (ls' := [(2, .inl (v5)), (3, .inl ((x3) + (v3))), (0, .inr (.inr (some 73))), (1, .inl (x1)), (4, .inl (x4)), (5, .inl (x5))]) (st' := [.inl (x5), .inr (.inr (some 121)), .inl (2), .inr (.inr (some 73)), .inl (x4)]) (nc' := 126) (np' := 138) (M' := M) 7 rfl ?_
      obtain ⟨hc, v6, ev, h⟩ := rd_i h
      refine ev_ald (k := 121) (t := 0) (Or.inl ⟨rfl, rfl⟩) rfl (by decide) (by decide) rfl hc ev ?_
      refine ev_k (pc' := 72) (ls' := [(2, .inl (v5)), (3, .inl ((x3) + (v3))), (0, .inr (.inr (some 73))), (1, .inl (x1)), (4, .inl (x4)), (5, .inl (x5))]) (st' := [.inl (((2) * (v6)) + (1)), .inr (.inr (some 73)), .inl (x4)]) (nc' := 126) (np' := 138) (M' := M) 3 rfl ?_
      obtain ⟨v7, hv, h⟩ := ob_i h
      refine ev_call (t := 295) (as := [.inr (.inr (some 73)), .inl (((2) * (v6)) + (1))]) (rest := [.inl (x4)]) rfl rfl rfl (by omega) (R_byteAt_e (by omega) (((2) * (v6)) + (1)) M _ hv) ?_
      refine ev_k (pc' := 18) (ls' := [(0, .inr (.inr (some 73))), (1, .inl (x1)), (2, .inl (v5)), (3, .inl ((x3) + (v3))), (4, .inl ((x4) + ((v7) * ((x3) + (v3))))), (5, .inl ((x5) + (1)))]) (st' := []) (nc' := 126) (np' := 138) (M' := M) 6 rfl ?_
      exact ih (x1) (v5) ((x3) + (v3)) ((x4) + ((v7) * ((x3) + (v3)))) ((x5) + (1)) M r h
theorem R_soughtBy_e {L : Nat} {xs : Nat → Int} {d : Nat} (hd : 2 ≤ d)   (x1 : Int) (M : am_M) (r : Int) (h : R_soughtBy   x1 M = some r) : am_Ev L xs d me_297 0 (am_ar1 0 [.inr (.inr (some 73)), .inl (x1)]) [] 126 138 M (some (.inl r), 126, 138, M) := by
  refine ev_k (pc' := 8) (ls' := [(0, .inr (.inr (some 73))), (1, .inl (x1))]) (st' := [.inl (M 73 47), .inr (.inr (some 95))]) (nc' := 126) (np' := 138) (M' := M) 4 rfl ?_
  obtain ⟨hc, v1, ev, h⟩ := rd_i h
  refine ev_ald (k := 95) (t := 0) (Or.inl ⟨rfl, rfl⟩) rfl (by decide) (by decide) rfl hc ev ?_
  refine ev_k (pc' := 18) (ls' := [(0, .inr (.inr (some 73))), (1, .inl (x1)), (2, .inl (v1)), (3, .inl (0)), (4, .inl (0)), (5, .inl (0))]) (st' := []) (nc' := 126) (np' := 138) (M' := M) 7 rfl ?_
  exact R_soughtBy_18_t hd     am_big (x1) (v1) (0) (0) (0) M r h
def R_seek_22     (M : am_M) : Option (Int × am_M) := some (-1, M)
def R_seek_178    (s0 : Int) (M : am_M) : Option (Int × am_M) := some (s0, M)
def R_seek_156   (k107 : Int → Int → Int → Int → am_M → Option (Int × am_M)) (x1 : Int) (x2 : Int) (x3 : Int) (x4 : Int) (M : am_M) : Option (Int × am_M) := (k107 (x1) (x2) (x3) ((x4) + (1)) M)
def R_seek_107    : Nat → Int → Int → Int → Int → am_M → Option (Int × am_M)
  | 0, _, _, _, _, _ => none
  | n + 1, x1, x2, x3, x4, M => ob (R_powerOf (x1) (x1) M) fun v1 => c_ge (x4) (v1)
       (c_ne (x2) (10)
       (rd M 122 6 (x2) fun v2 => (R_seek_178    (v2) M))
       ((R_seek_178    (x3) M)))
       (ob (R_opensRow (x4) (x1) (x1) M) fun M3 => ob (R_isOrder (x1) M3) fun v4 => c_eq (v4) (0)
       (R_seek_156   (R_seek_107    n) (x1) (x2) (x3) (x4) M3)
       (ob (R_soughtBy (x1) M3) fun v5 => c_lt (v5) (x3)
       (ob (R_soughtBy (x1) M3) fun v6 => ob (R_keepsRow (x1) M3) fun M7 => (R_seek_156   (R_seek_107    n) (x1) (x2) (v6) (x4) M7))
       ((R_seek_156   (R_seek_107    n) (x1) (x2) (x3) (x4) M3))))
def R_seek_100    (x1 : Int) (x2 : Int) (M : am_M) : Option (Int × am_M) := (R_seek_107    am_big (x1) (x2) (1000000000) (0) M)
def R_seek_69     (M : am_M) : Option (Int × am_M) := some (-2, M)
def R_seek_31    : Nat → Int → Int → Int → am_M → Option (Int × am_M)
  | 0, _, _, _, _ => none
  | n + 1, x1, x2, x3, M => c_ge (x3) (x1)
       (c_eq (x2) (10)
       (R_seek_100    (x1) (x2) M)
       (ck (am_R (x2)) (ck (am_R ((x1) - (1))) (ob (R_lies (x2) (0) ((x1) - (1)) M) fun v1 => c_ne (v1) (0)
       (R_seek_100    (x1) (x2) M)
       (some (-4, M))))))
       (ob (R_byteAt ((2) * (x3)) M) fun v2 => ob (R_isCell (v2) M) fun v3 => c_eq (v3) (0)
       (R_seek_69     M)
       (ob (R_byteAt (((2) * (x3)) + (1)) M) fun v4 => ck (am_R (v4)) (ob (R_lies (v4) (1) (9) M) fun v5 => c_ne (v5) (0)
       ((R_seek_31    n (x1) (x2) ((x3) + (1)) M))
       (R_seek_69     M))))
def R_seek    (x1 : Int) (x2 : Int) (M : am_M) : Option (Int × am_M) := ck (am_R (x1)) (ob (R_lies (x1) (1) (6) M) fun v1 => c_eq (v1) (0)
       (R_seek_22     M)
       (c_le ((2) * (x1)) (M 73 1)
       (fw M 73 1 (0) fun M2 => (R_seek_31    am_big (x1) (x2) (0) M2))
       (R_seek_22     M)))
theorem R_seek_22_t {L : Nat} {xs : Nat → Int} {d : Nat} (hd : 3 ≤ d)      (M : am_M) (r : Int × am_M) (h : R_seek_22     M = some r) : am_Ev L xs d me_294 22 [] [] 126 138 M (some (.inl r.1), 126, 138, r.2) := by
  refine ev_k (pc' := 23) (ls' := []) (st' := [.inl (-1)]) (nc' := 126) (np' := 138) (M' := M) 1 rfl ?_
  cases h
  exact ev_ret rfl
theorem R_seek_178_t {L : Nat} {xs : Nat → Int} {d : Nat} (hd : 3 ≤ d)     (s0 : Int) (M : am_M) (r : Int × am_M) (h : R_seek_178    s0 M = some r) : am_Ev L xs d me_294 178 [] [.inl (s0)] 126 138 M (some (.inl r.1), 126, 138, r.2) := by
  refine ev_k (pc' := 178) (ls' := []) (st' := [.inl (s0)]) (nc' := 126) (np' := 138) (M' := M) 0 rfl ?_
  cases h
  exact ev_ret rfl
theorem R_seek_156_t {L : Nat} {xs : Nat → Int} {d : Nat} (hd : 3 ≤ d)   (k107 : Int → Int → Int → Int → am_M → Option (Int × am_M)) (hk107 : ∀ (x1 : Int) (x2 : Int) (x3 : Int) (x4 : Int) (M : am_M) (r : Int × am_M), k107 x1 x2 x3 x4 M = some r → am_Ev L xs d me_294 107 [(0, .inr (.inr (some 73))), (1, .inl (x1)), (2, .inl (x2)), (3, .inl (x3)), (4, .inl (x4))] [] 126 138 M (some (.inl r.1), 126, 138, r.2)) (x1 : Int) (x2 : Int) (x3 : Int) (x4 : Int) (M : am_M) (r : Int × am_M) (h : R_seek_156   k107 x1 x2 x3 x4 M = some r) : am_Ev L xs d me_294 156 [(0, .inr (.inr (some 73))), (1, .inl (x1)), (2, .inl (x2)), (3, .inl (x3)), (4, .inl (x4))] [] 126 138 M (some (.inl r.1), 126, 138, r.2) := by
  refine ev_k (pc' := 107) (ls' := [(0, .inr (.inr (some 73))), (1, .inl (x1)), (2, .inl (x2)), (3, .inl (x3)), (4, .inl ((x4) + (1)))]) (st' := []) (nc' := 126) (np' := 138) (M' := M) 2 rfl ?_
  exact hk107 (x1) (x2) (x3) ((x4) + (1)) M r h
theorem R_seek_107_t {L : Nat} {xs : Nat → Int} {d : Nat} (hd : 3 ≤ d)     : ∀ (n : Nat) (x1 : Int) (x2 : Int) (x3 : Int) (x4 : Int) (M : am_M) (r : Int × am_M), R_seek_107    n x1 x2 x3 x4 M = some r → am_Ev L xs d me_294 107 [(0, .inr (.inr (some 73))), (1, .inl (x1)), (2, .inl (x2)), (3, .inl (x3)), (4, .inl (x4))] [] 126 138 M (some (.inl r.1), 126, 138, r.2)
  | 0, _, _, _, _, M, r, h => by cases h
  | n + 1, x1, x2, x3, x4, M, r, h => by
    have ih := R_seek_107_t (L := L) (xs := xs) hd     n
    refine ev_k (pc' := 111) (ls' := [(0, .inr (.inr (some 73))), (1, .inl (x1)), (2, .inl (x2)), (3, .inl (x3)), (4, .inl (x4))]) (st' := [.inl (x1), .inl (x1), .inl (x4)]) (nc' := 126) (np' := 138) (M' := M) 3 rfl ?_
    obtain ⟨v1, hv, h⟩ := ob_i h
    refine ev_call (t := 286) (as := [.inl (x1), .inl (x1)]) (rest := [.inl (x4)]) rfl rfl rfl (by omega) (R_powerOf_e (by omega) (x1) (x1) M _ hv) ?_
    refine ev_k (pc' := 114) (ls' := [(0, .inr (.inr (some 73))), (1, .inl (x1)), (2, .inl (x2)), (3, .inl (x3)), (4, .inl (x4))]) (st' := [.inl (v1), .inl (x4)]) (nc' := 126) (np' := 138) (M' := M) 0 rfl ?_
    obtain ⟨hR, ⟨hc, h⟩ | ⟨hc, h⟩⟩ := c_ge_i h
    · refine ev_icmp 162 rfl hR.1 hR.2 (by decide) (fun _ => ?_) (fun q => absurd hc q)
      refine ev_k (pc' := 165) (ls' := [(0, .inr (.inr (some 73))), (1, .inl (x1)), (2, .inl (x2)), (3, .inl (x3)), (4, .inl (x4))]) (st' := [.inl (10), .inl (x2)]) (nc' := 126) (np' := 138) (M' := M) 2 rfl ?_
      obtain ⟨hR, ⟨hc, h⟩ | ⟨hc, h⟩⟩ := c_ne_i h
      · refine ev_icmp 172 rfl hR.1 hR.2 (by decide) (fun _ => ?_) (fun q => absurd hc q)
        refine ev_k (pc' := 177) (ls' := [(0, .inr (.inr (some 73))), (1, .inl (x1)), (2, .inl (x2)), (3, .inl (x3)), (4, .inl (x4))]) (st' := [.inl (x2), .inr (.inr (some 122))]) (nc' := 126) (np' := 138) (M' := M) 3 rfl ?_
        obtain ⟨hc, v2, ev, h⟩ := rd_i h
        refine ev_ald (k := 122) (t := 0) (Or.inl ⟨rfl, rfl⟩) rfl (by decide) (by decide) rfl hc ev ?_
        exact R_seek_178_t hd     (v2) M r h
      · refine ev_icmp 172 rfl hR.1 hR.2 (by decide) (fun q => absurd q hc) (fun _ => ?_)
        refine ev_k (pc' := 178) (ls' := []) (st' := [.inl (x3)]) (nc' := 126) (np' := 138) (M' := M) 2 rfl ?_
        exact R_seek_178_t hd     (x3) M r h
    · refine ev_icmp 162 rfl hR.1 hR.2 (by decide) (fun q => absurd q hc) (fun _ => ?_)
      refine ev_k (pc' := 122) (ls' := [(0, .inr (.inr (some 73))), (1, .inl (x1)), (2, .inl (x2)), (3, .inl (x3)), (4, .inl (x4))]) (st' := [.inl (x1), .inl (x1), .inl (x4), .inr (.inr (some 73))]) (nc' := 126) (np' := 138) (M' := M) 4 rfl ?_
      obtain ⟨M3, hv, h⟩ := ob_i h
      refine ev_call (t := 287) (as := [.inr (.inr (some 73)), .inl (x4), .inl (x1), .inl (x1)]) (rest := []) rfl rfl rfl (by omega) (R_opensRow_e (by omega) (x4) (x1) (x1) M _ hv) ?_
      refine ev_k (pc' := 127) (ls' := [(0, .inr (.inr (some 73))), (1, .inl (x1)), (2, .inl (x2)), (3, .inl (x3)), (4, .inl (x4))]) (st' := [.inl (x1), .inr (.inr (some 73))]) (nc' := 126) (np' := 138) (M' := M3) 2 rfl ?_
      obtain ⟨v4, hv, h⟩ := ob_i h
      refine ev_call (t := 296) (as := [.inr (.inr (some 73)), .inl (x1)]) (rest := []) rfl rfl rfl (by omega) (R_isOrder_e (by omega) (x1) M3 _ hv) ?_
      refine ev_k (pc' := 130) (ls' := [(0, .inr (.inr (some 73))), (1, .inl (x1)), (2, .inl (x2)), (3, .inl (x3)), (4, .inl (x4))]) (st' := [.inl (v4)]) (nc' := 126) (np' := 138) (M' := M3) 0 rfl ?_
      obtain ⟨hR, ⟨hc, h⟩ | ⟨hc, h⟩⟩ := c_eq_i h
      · refine ev_ifc 156 rfl hR.1 (by decide) (fun _ => ?_) (fun q => absurd hc q)
        exact R_seek_156_t hd   (R_seek_107    n) ih (x1) (x2) (x3) (x4) M3 r h
      · refine ev_ifc 156 rfl hR.1 (by decide) (fun q => absurd q hc) (fun _ => ?_)
        refine ev_k (pc' := 135) (ls' := [(0, .inr (.inr (some 73))), (1, .inl (x1)), (2, .inl (x2)), (3, .inl (x3)), (4, .inl (x4))]) (st' := [.inl (x1), .inr (.inr (some 73))]) (nc' := 126) (np' := 138) (M' := M3) 2 rfl ?_
        obtain ⟨v5, hv, h⟩ := ob_i h
        refine ev_call (t := 297) (as := [.inr (.inr (some 73)), .inl (x1)]) (rest := []) rfl rfl rfl (by omega) (R_soughtBy_e (by omega) (x1) M3 _ hv) ?_
        refine ev_k (pc' := 139) (ls' := [(0, .inr (.inr (some 73))), (1, .inl (x1)), (2, .inl (x2)), (3, .inl (x3)), (4, .inl (x4))]) (st' := [.inl (x3), .inl (v5)]) (nc' := 126) (np' := 138) (M' := M3) 1 rfl ?_
        obtain ⟨hR, ⟨hc, h⟩ | ⟨hc, h⟩⟩ := c_lt_i h
        · refine ev_icmp 145 rfl hR.1 hR.2 (by decide) (fun _ => ?_) (fun q => absurd hc q)
          refine ev_k (pc' := 147) (ls' := [(0, .inr (.inr (some 73))), (1, .inl (x1)), (2, .inl (x2)), (3, .inl (x3)), (4, .inl (x4))]) (st' := [.inl (x1), .inr (.inr (some 73))]) (nc' := 126) (np' := 138) (M' := M3) 2 rfl ?_
          obtain ⟨v6, hv, h⟩ := ob_i h
          refine ev_call (t := 297) (as := [.inr (.inr (some 73)), .inl (x1)]) (rest := []) rfl rfl rfl (by omega) (R_soughtBy_e (by omega) (x1) M3 _ hv) ?_
          refine ev_k (pc' := 153) (ls' := [(3, .inl (v6)), (0, .inr (.inr (some 73))), (1, .inl (x1)), (2, .inl (x2)), (4, .inl (x4))]) (st' := [.inl (x1), .inr (.inr (some 73))]) (nc' := 126) (np' := 138) (M' := M3) 3 rfl ?_
          obtain ⟨M7, hv, h⟩ := ob_i h
          refine ev_call (t := 289) (as := [.inr (.inr (some 73)), .inl (x1)]) (rest := []) rfl rfl rfl (by omega) (R_keepsRow_e (by omega) (x1) M3 _ hv) ?_
          exact R_seek_156_t hd   (R_seek_107    n) ih (x1) (x2) (v6) (x4) M7 r h
        · refine ev_icmp 145 rfl hR.1 hR.2 (by decide) (fun q => absurd q hc) (fun _ => ?_)
          refine ev_k (pc' := 156) (ls' := [(0, .inr (.inr (some 73))), (1, .inl (x1)), (2, .inl (x2)), (3, .inl (x3)), (4, .inl (x4))]) (st' := []) (nc' := 126) (np' := 138) (M' := M3) 1 rfl ?_
          exact R_seek_156_t hd   (R_seek_107    n) ih (x1) (x2) (x3) (x4) M3 r h
theorem R_seek_100_t {L : Nat} {xs : Nat → Int} {d : Nat} (hd : 3 ≤ d)     (x1 : Int) (x2 : Int) (M : am_M) (r : Int × am_M) (h : R_seek_100    x1 x2 M = some r) : am_Ev L xs d me_294 100 [(0, .inr (.inr (some 73))), (1, .inl (x1)), (2, .inl (x2))] [] 126 138 M (some (.inl r.1), 126, 138, r.2) := by
  refine ev_k (pc' := 107) (ls' := [(0, .inr (.inr (some 73))), (1, .inl (x1)), (2, .inl (x2)), (3, .inl (1000000000)), (4, .inl (0))]) (st' := []) (nc' := 126) (np' := 138) (M' := M) 4 rfl ?_
  exact R_seek_107_t hd     am_big (x1) (x2) (1000000000) (0) M r h
theorem R_seek_69_t {L : Nat} {xs : Nat → Int} {d : Nat} (hd : 3 ≤ d)      (M : am_M) (r : Int × am_M) (h : R_seek_69     M = some r) : am_Ev L xs d me_294 69 [] [] 126 138 M (some (.inl r.1), 126, 138, r.2) := by
  refine ev_k (pc' := 71) (ls' := []) (st' := [.inl (-2)]) (nc' := 126) (np' := 138) (M' := M) 1 rfl ?_
  cases h
  exact ev_ret rfl
theorem R_seek_31_t {L : Nat} {xs : Nat → Int} {d : Nat} (hd : 3 ≤ d)     : ∀ (n : Nat) (x1 : Int) (x2 : Int) (x3 : Int) (M : am_M) (r : Int × am_M), R_seek_31    n x1 x2 x3 M = some r → am_Ev L xs d me_294 31 [(0, .inr (.inr (some 73))), (1, .inl (x1)), (2, .inl (x2)), (3, .inl (x3))] [] 126 138 M (some (.inl r.1), 126, 138, r.2)
  | 0, _, _, _, M, r, h => by cases h
  | n + 1, x1, x2, x3, M, r, h => by
    have ih := R_seek_31_t (L := L) (xs := xs) hd     n
    refine ev_k (pc' := 33) (ls' := [(0, .inr (.inr (some 73))), (1, .inl (x1)), (2, .inl (x2)), (3, .inl (x3))]) (st' := [.inl (x1), .inl (x3)]) (nc' := 126) (np' := 138) (M' := M) 2 rfl ?_
    obtain ⟨hR, ⟨hc, h⟩ | ⟨hc, h⟩⟩ := c_ge_i h
    · refine ev_icmp 78 rfl hR.1 hR.2 (by decide) (fun _ => ?_) (fun q => absurd hc q)
      refine ev_k (pc' := 81) (ls' := [(0, .inr (.inr (some 73))), (1, .inl (x1)), (2, .inl (x2)), (3, .inl (x3))]) (st' := [.inl (10), .inl (x2)]) (nc' := 126) (np' := 138) (M' := M) 2 rfl ?_
      obtain ⟨hR, ⟨hc, h⟩ | ⟨hc, h⟩⟩ := c_eq_i h
      · refine ev_icmp 100 rfl hR.1 hR.2 (by decide) (fun _ => ?_) (fun q => absurd hc q)
        exact R_seek_100_t hd     (x1) (x2) M r h
      · refine ev_icmp 100 rfl hR.1 hR.2 (by decide) (fun q => absurd q hc) (fun _ => ?_)
        refine ev_k (pc' := 85) (ls' := [(0, .inr (.inr (some 73))), (1, .inl (x1)), (2, .inl (x2)), (3, .inl (x3))]) (st' := [.inl (x2)]) (nc' := 126) (np' := 138) (M' := M) 1 rfl ?_
        obtain ⟨hc, h⟩ := ck_i h
        refine ev_i2l rfl hc ?_
        refine ev_k (pc' := 90) (ls' := [(0, .inr (.inr (some 73))), (1, .inl (x1)), (2, .inl (x2)), (3, .inl (x3))]) (st' := [.inl ((x1) - (1)), .inr (.inl (0)), .inr (.inl (x2))]) (nc' := 126) (np' := 138) (M' := M) 4 rfl ?_
        obtain ⟨hc, h⟩ := ck_i h
        refine ev_i2l rfl hc ?_
        refine ev_k (pc' := 91) (ls' := [(0, .inr (.inr (some 73))), (1, .inl (x1)), (2, .inl (x2)), (3, .inl (x3))]) (st' := [.inr (.inl ((x1) - (1))), .inr (.inl (0)), .inr (.inl (x2))]) (nc' := 126) (np' := 138) (M' := M) 0 rfl ?_
        obtain ⟨v1, hv, h⟩ := ob_i h
        refine ev_call (t := 193) (as := [.inr (.inl (x2)), .inr (.inl (0)), .inr (.inl ((x1) - (1)))]) (rest := []) rfl rfl rfl (by omega) (R_lies_e (by omega) (x2) (0) ((x1) - (1)) M _ hv) ?_
        refine ev_k (pc' := 94) (ls' := [(0, .inr (.inr (some 73))), (1, .inl (x1)), (2, .inl (x2)), (3, .inl (x3))]) (st' := [.inl (v1)]) (nc' := 126) (np' := 138) (M' := M) 0 rfl ?_
        obtain ⟨hR, ⟨hc, h⟩ | ⟨hc, h⟩⟩ := c_ne_i h
        · refine ev_ifc 100 rfl hR.1 (by decide) (fun _ => ?_) (fun q => absurd hc q)
          exact R_seek_100_t hd     (x1) (x2) M r h
        · refine ev_ifc 100 rfl hR.1 (by decide) (fun q => absurd q hc) (fun _ => ?_)
          refine ev_k (pc' := 99) (ls' := [(0, .inr (.inr (some 73))), (1, .inl (x1)), (2, .inl (x2)), (3, .inl (x3))]) (st' := [.inl (-4)]) (nc' := 126) (np' := 138) (M' := M) 1 rfl ?_
          cases h
          exact ev_ret rfl
    · refine ev_icmp 78 rfl hR.1 hR.2 (by decide) (fun q => absurd q hc) (fun _ => ?_)
      refine ev_k (pc' := 40) (ls' := [(0, .inr (.inr (some 73))), (1, .inl (x1)), (2, .inl (x2)), (3, .inl (x3))]) (st' := [.inl ((2) * (x3)), .inr (.inr (some 73))]) (nc' := 126) (np' := 138) (M' := M) 4 rfl ?_
      obtain ⟨v2, hv, h⟩ := ob_i h
      refine ev_call (t := 295) (as := [.inr (.inr (some 73)), .inl ((2) * (x3))]) (rest := []) rfl rfl rfl (by omega) (R_byteAt_e (by omega) ((2) * (x3)) M _ hv) ?_
      refine ev_k (pc' := 43) (ls' := [(0, .inr (.inr (some 73))), (1, .inl (x1)), (2, .inl (x2)), (3, .inl (x3))]) (st' := [.inl (v2)]) (nc' := 126) (np' := 138) (M' := M) 0 rfl ?_
      obtain ⟨v3, hv, h⟩ := ob_i h
      refine ev_call (t := 230) (as := [.inl (v2)]) (rest := []) rfl rfl rfl (by omega) (R_isCell_e (by omega) (v2) M _ hv) ?_
      refine ev_k (pc' := 46) (ls' := [(0, .inr (.inr (some 73))), (1, .inl (x1)), (2, .inl (x2)), (3, .inl (x3))]) (st' := [.inl (v3)]) (nc' := 126) (np' := 138) (M' := M) 0 rfl ?_
      obtain ⟨hR, ⟨hc, h⟩ | ⟨hc, h⟩⟩ := c_eq_i h
      · refine ev_ifc 69 rfl hR.1 (by decide) (fun _ => ?_) (fun q => absurd hc q)
        exact R_seek_69_t hd      M r h
      · refine ev_ifc 69 rfl hR.1 (by decide) (fun q => absurd q hc) (fun _ => ?_)
        refine ev_k (pc' := 55) (ls' := [(0, .inr (.inr (some 73))), (1, .inl (x1)), (2, .inl (x2)), (3, .inl (x3))]) (st' := [.inl (((2) * (x3)) + (1)), .inr (.inr (some 73))]) (nc' := 126) (np' := 138) (M' := M) 6 rfl ?_
        obtain ⟨v4, hv, h⟩ := ob_i h
        refine ev_call (t := 295) (as := [.inr (.inr (some 73)), .inl (((2) * (x3)) + (1))]) (rest := []) rfl rfl rfl (by omega) (R_byteAt_e (by omega) (((2) * (x3)) + (1)) M _ hv) ?_
        refine ev_k (pc' := 58) (ls' := [(0, .inr (.inr (some 73))), (1, .inl (x1)), (2, .inl (x2)), (3, .inl (x3))]) (st' := [.inl (v4)]) (nc' := 126) (np' := 138) (M' := M) 0 rfl ?_
        obtain ⟨hc, h⟩ := ck_i h
        refine ev_i2l rfl hc ?_
        refine ev_k (pc' := 63) (ls' := [(0, .inr (.inr (some 73))), (1, .inl (x1)), (2, .inl (x2)), (3, .inl (x3))]) (st' := [.inr (.inl (9)), .inr (.inl (1)), .inr (.inl (v4))]) (nc' := 126) (np' := 138) (M' := M) 2 rfl ?_
        obtain ⟨v5, hv, h⟩ := ob_i h
        refine ev_call (t := 193) (as := [.inr (.inl (v4)), .inr (.inl (1)), .inr (.inl (9))]) (rest := []) rfl rfl rfl (by omega) (R_lies_e (by omega) (v4) (1) (9) M _ hv) ?_
        refine ev_k (pc' := 66) (ls' := [(0, .inr (.inr (some 73))), (1, .inl (x1)), (2, .inl (x2)), (3, .inl (x3))]) (st' := [.inl (v5)]) (nc' := 126) (np' := 138) (M' := M) 0 rfl ?_
        obtain ⟨hR, ⟨hc, h⟩ | ⟨hc, h⟩⟩ := c_ne_i h
        · refine ev_ifc 72 rfl hR.1 (by decide) (fun _ => ?_) (fun q => absurd hc q)
          refine ev_k (pc' := 31) (ls' := [(0, .inr (.inr (some 73))), (1, .inl (x1)), (2, .inl (x2)), (3, .inl ((x3) + (1)))]) (st' := []) (nc' := 126) (np' := 138) (M' := M) 2 rfl ?_
          exact ih (x1) (x2) ((x3) + (1)) M r h
        · refine ev_ifc 72 rfl hR.1 (by decide) (fun q => absurd q hc) (fun _ => ?_)
          exact R_seek_69_t hd      M r h
theorem R_seek_e {L : Nat} {xs : Nat → Int} {d : Nat} (hd : 3 ≤ d)   (x1 : Int) (x2 : Int) (M : am_M) (r : Int × am_M) (h : R_seek   x1 x2 M = some r) : am_Ev L xs d me_294 0 (am_ar1 0 [.inr (.inr (some 73)), .inl (x1), .inl (x2)]) [] 126 138 M (some (.inl r.1), 126, 138, r.2) := by
  refine ev_k (pc' := 1) (ls' := [(0, .inr (.inr (some 73))), (1, .inl (x1)), (2, .inl (x2))]) (st' := [.inl (x1)]) (nc' := 126) (np' := 138) (M' := M) 1 rfl ?_
  obtain ⟨hc, h⟩ := ck_i h
  refine ev_i2l rfl hc ?_
  refine ev_k (pc' := 6) (ls' := [(0, .inr (.inr (some 73))), (1, .inl (x1)), (2, .inl (x2))]) (st' := [.inr (.inl (6)), .inr (.inl (1)), .inr (.inl (x1))]) (nc' := 126) (np' := 138) (M' := M) 2 rfl ?_
  obtain ⟨v1, hv, h⟩ := ob_i h
  refine ev_call (t := 193) (as := [.inr (.inl (x1)), .inr (.inl (1)), .inr (.inl (6))]) (rest := []) rfl rfl rfl (by omega) (R_lies_e (by omega) (x1) (1) (6) M _ hv) ?_
  refine ev_k (pc' := 9) (ls' := [(0, .inr (.inr (some 73))), (1, .inl (x1)), (2, .inl (x2))]) (st' := [.inl (v1)]) (nc' := 126) (np' := 138) (M' := M) 0 rfl ?_
  obtain ⟨hR, ⟨hc, h⟩ | ⟨hc, h⟩⟩ := c_eq_i h
  · refine ev_ifc 22 rfl hR.1 (by decide) (fun _ => ?_) (fun q => absurd hc q)
    exact R_seek_22_t hd      M r h
  · refine ev_ifc 22 rfl hR.1 (by decide) (fun q => absurd q hc) (fun _ => ?_)
    refine ev_k (pc' := 19) (ls' := [(0, .inr (.inr (some 73))), (1, .inl (x1)), (2, .inl (x2))]) (st' := [.inl (M 73 1), .inl ((2) * (x1))]) (nc' := 126) (np' := 138) (M' := M) 5 rfl ?_
    obtain ⟨hR, ⟨hc, h⟩ | ⟨hc, h⟩⟩ := c_le_i h
    · refine ev_icmp 24 rfl hR.1 hR.2 (by decide) (fun _ => ?_) (fun q => absurd hc q)
      refine ev_k (pc' := 29) (ls' := [(0, .inr (.inr (some 73))), (1, .inl (x1)), (2, .inl (x2))]) (st' := []) (nc' := 126) (np' := 138) (M' := am_up M 73 1 (0)) 3 rfl ?_
      obtain ⟨M2, eM, h⟩ := fw_i h
      rw [← eM]
      refine ev_k (pc' := 31) (ls' := [(0, .inr (.inr (some 73))), (1, .inl (x1)), (2, .inl (x2)), (3, .inl (0))]) (st' := []) (nc' := 126) (np' := 138) (M' := M2) 2 rfl ?_
      exact R_seek_31_t hd     am_big (x1) (x2) (0) M2 r h
    · refine ev_icmp 24 rfl hR.1 hR.2 (by decide) (fun q => absurd q hc) (fun _ => ?_)
      exact R_seek_22_t hd      M r h
def R_blazesOn_36   (k5 : Int → Int → Int → Int → am_M → Option (Int)) (x1 : Int) (x2 : Int) (x4 : Int) (s0 : Int) (s1 : Int) (M : am_M) : Option (Int) := (k5 (x1) (x2) (b_or (s0) (s1)) ((x4) + (1)) M)
def R_blazesOn_5    : Nat → Int → Int → Int → Int → am_M → Option (Int)
  | 0, _, _, _, _, _ => none
  | n + 1, x1, x2, x3, x4, M => c_ge (x4) (x2)
       (some (x3))
       (rd M 124 8 (x4) fun v1 => ck (am_R6 (q_and (q_shr (v1) (x1)) (1)) ∧ am_R6 (1)) (tw (if (q_and (q_shr (v1) (x1)) (1)) > (1) then 1 else if (q_and (q_shr (v1) (x1)) (1)) = (1) then 0 else -1) fun v2 => c_ne (v2) (0)
       ((R_blazesOn_36   (R_blazesOn_5    n) (x1) (x2) (x4) (x3) (0) M))
       ((R_blazesOn_36   (R_blazesOn_5    n) (x1) (x2) (x4) (x3) (b_shl (1) (x4)) M))))
def R_blazesOn    (x1 : Int) (x2 : Int) (M : am_M) : Option (Int) := (R_blazesOn_5    am_big (x1) (x2) (0) (0) M)
theorem R_blazesOn_36_t {L : Nat} {xs : Nat → Int} {d : Nat} (hd : 0 ≤ d)   (k5 : Int → Int → Int → Int → am_M → Option (Int)) (hk5 : ∀ (x1 : Int) (x2 : Int) (x3 : Int) (x4 : Int) (M : am_M) (r : Int), k5 x1 x2 x3 x4 M = some r → am_Ev L xs d me_303 5 [(0, .inr (.inr (some 73))), (1, .inl (x1)), (2, .inl (x2)), (3, .inl (x3)), (4, .inl (x4))] [] 126 138 M (some (.inl r), 126, 138, M)) (x1 : Int) (x2 : Int) (x4 : Int) (s0 : Int) (s1 : Int) (M : am_M) (r : Int) (h : R_blazesOn_36   k5 x1 x2 x4 s0 s1 M = some r) : am_Ev L xs d me_303 36 [(0, .inr (.inr (some 73))), (1, .inl (x1)), (2, .inl (x2)), (4, .inl (x4))] [.inl (s1), .inl (s0)] 126 138 M (some (.inl r), 126, 138, M) := by
  refine ev_k (pc' := 5) (ls' := [(0, .inr (.inr (some 73))), (1, .inl (x1)), (2, .inl (x2)), (3, .inl (b_or (s0) (s1))), (4, .inl ((x4) + (1)))]) (st' := []) (nc' := 126) (np' := 138) (M' := M) 4 rfl ?_
  exact hk5 (x1) (x2) (b_or (s0) (s1)) ((x4) + (1)) M r h
theorem R_blazesOn_5_t {L : Nat} {xs : Nat → Int} {d : Nat} (hd : 0 ≤ d)     : ∀ (n : Nat) (x1 : Int) (x2 : Int) (x3 : Int) (x4 : Int) (M : am_M) (r : Int), R_blazesOn_5    n x1 x2 x3 x4 M = some r → am_Ev L xs d me_303 5 [(0, .inr (.inr (some 73))), (1, .inl (x1)), (2, .inl (x2)), (3, .inl (x3)), (4, .inl (x4))] [] 126 138 M (some (.inl r), 126, 138, M)
  | 0, _, _, _, _, M, r, h => by cases h
  | n + 1, x1, x2, x3, x4, M, r, h => by
    have ih := R_blazesOn_5_t (L := L) (xs := xs) hd     n
    refine ev_k (pc' := 8) (ls' := [(0, .inr (.inr (some 73))), (1, .inl (x1)), (2, .inl (x2)), (3, .inl (x3)), (4, .inl (x4))]) (st' := [.inl (x2), .inl (x4)]) (nc' := 126) (np' := 138) (M' := M) 2 rfl ?_
    obtain ⟨hR, ⟨hc, h⟩ | ⟨hc, h⟩⟩ := c_ge_i h
    · refine ev_icmp 44 rfl hR.1 hR.2 (by decide) (fun _ => ?_) (fun q => absurd hc q)
      refine ev_k (pc' := 45) (ls' := [(0, .inr (.inr (some 73))), (1, .inl (x1)), (2, .inl (x2)), (3, .inl (x3)), (4, .inl (x4))]) (st' := [.inl (x3)]) (nc' := 126) (np' := 138) (M' := M) 1 rfl ?_
      cases h
      exact ev_ret rfl
    · refine ev_icmp 44 rfl hR.1 hR.2 (by decide) (fun q => absurd q hc) (fun _ => ?_)
      refine ev_k (pc' := 18) (ls' := [(0, .inr (.inr (some 73))), (1, .inl (x1)), (2, .inl (x2)), (3, .inl (x3)), (4, .inl (x4))]) (st' := [.inl (x4), .inr (.inr (some 124)), .inl (x3)]) (nc' := 126) (np' := 138) (M' := M) 4 rfl ?_
      obtain ⟨hc, v1, ev, h⟩ := rd_i h
      refine ev_lald (k := 124) rfl (by decide) rfl hc ev ?_
      refine ev_k (pc' := 24) (ls' := [(0, .inr (.inr (some 73))), (1, .inl (x1)), (2, .inl (x2)), (3, .inl (x3)), (4, .inl (x4))]) (st' := [.inr (.inl (1)), .inr (.inl (q_and (q_shr (v1) (x1)) (1))), .inl (x3)]) (nc' := 126) (np' := 138) (M' := M) 5 rfl ?_
      obtain ⟨hc, h⟩ := ck_i h
      obtain ⟨v2, ev, h⟩ := tw_i h
      refine ev_lcmp rfl hc ?_
      rw [← ev]
      refine ev_k (pc' := 25) (ls' := [(0, .inr (.inr (some 73))), (1, .inl (x1)), (2, .inl (x2)), (3, .inl (x3)), (4, .inl (x4))]) (st' := [.inl (v2), .inl (x3)]) (nc' := 126) (np' := 138) (M' := M) 0 rfl ?_
      obtain ⟨hR, ⟨hc, h⟩ | ⟨hc, h⟩⟩ := c_ne_i h
      · refine ev_ifc 35 rfl hR.1 (by decide) (fun _ => ?_) (fun q => absurd hc q)
        refine ev_k (pc' := 36) (ls' := [(0, .inr (.inr (some 73))), (1, .inl (x1)), (2, .inl (x2)), (4, .inl (x4))]) (st' := [.inl (0), .inl (x3)]) (nc' := 126) (np' := 138) (M' := M) 1 rfl ?_
        exact R_blazesOn_36_t hd   (R_blazesOn_5    n) ih (x1) (x2) (x4) (x3) (0) M r h
      · refine ev_ifc 35 rfl hR.1 (by decide) (fun q => absurd q hc) (fun _ => ?_)
        refine ev_k (pc' := 36) (ls' := [(0, .inr (.inr (some 73))), (1, .inl (x1)), (2, .inl (x2)), (4, .inl (x4))]) (st' := [.inl (b_shl (1) (x4)), .inl (x3)]) (nc' := 126) (np' := 138) (M' := M) 4 rfl ?_
        exact R_blazesOn_36_t hd   (R_blazesOn_5    n) ih (x1) (x2) (x4) (x3) (b_shl (1) (x4)) M r h
theorem R_blazesOn_e {L : Nat} {xs : Nat → Int} {d : Nat} (hd : 0 ≤ d)   (x1 : Int) (x2 : Int) (M : am_M) (r : Int) (h : R_blazesOn   x1 x2 M = some r) : am_Ev L xs d me_303 0 (am_ar1 0 [.inr (.inr (some 73)), .inl (x1), .inl (x2)]) [] 126 138 M (some (.inl r), 126, 138, M) := by
  refine ev_k (pc' := 5) (ls' := [(0, .inr (.inr (some 73))), (1, .inl (x1)), (2, .inl (x2)), (3, .inl (0)), (4, .inl (0))]) (st' := []) (nc' := 126) (np' := 138) (M' := M) 4 rfl ?_
  exact R_blazesOn_5_t hd     am_big (x1) (x2) (0) (0) M r h
def R_fewestDays_25   (k2 : Int → Int → am_M → Option (Int × am_M)) (x1 : Int) (x2 : Int) (s1 : Int) (s2 : Int) (M : am_M) : Option (Int × am_M) := wa M 125 256 (s1) (s2) fun M1 => (k2 (x1) ((x2) + (1)) M1)
def R_fewestDays_100   (k34 : Int → Int → am_M → Option (Int × am_M)) (k43 : Int → Int → Int → am_M → Option (Int × am_M)) (x1 : Int) (x2 : Int) (x3 : Int) (M : am_M) : Option (Int × am_M) := (k43 (x1) (x2) ((x3) + (1)) M)
def R_fewestDays_43   (k34 : Int → Int → am_M → Option (Int × am_M)) : Nat → Int → Int → Int → am_M → Option (Int × am_M)
  | 0, _, _, _, _ => none
  | n + 1, x1, x2, x3, M => c_gt (x3) (60)
       ((k34 (x1) ((x2) + (1)) M))
       (ob (R_blazesOn (x3) (x1) M) fun v1 => c_ge (b_and (x2) (b_xor (v1) (-1))) (x2)
       (R_fewestDays_100   k34 (R_fewestDays_43   k34 n) (x1) (x2) (x3) M)
       (rd M 125 256 (b_and (x2) (b_xor (v1) (-1))) fun v2 => rd M 125 256 (x2) fun v3 => c_ge ((v2) + (1)) (v3)
       (R_fewestDays_100   k34 (R_fewestDays_43   k34 n) (x1) (x2) (x3) M)
       (rd M 125 256 (b_and (x2) (b_xor (v1) (-1))) fun v4 => wa M 125 256 (x2) ((v4) + (1)) fun M5 => (R_fewestDays_100   k34 (R_fewestDays_43   k34 n) (x1) (x2) (x3) M5))))
def R_fewestDays_34    : Nat → Int → Int → am_M → Option (Int × am_M)
  | 0, _, _, _ => none
  | n + 1, x1, x2, M => c_ge (x2) (b_shl (1) (x1))
       (rd M 125 256 ((b_shl (1) (x1)) - (1)) fun v1 => some (v1, M))
       ((R_fewestDays_43   (R_fewestDays_34    n) am_big (x1) (x2) (0) M))
def R_fewestDays_2    : Nat → Int → Int → am_M → Option (Int × am_M)
  | 0, _, _, _ => none
  | n + 1, x1, x2, M => c_ge (x2) (b_shl (1) (x1))
       ((R_fewestDays_34    am_big (x1) (1) M))
       (c_ne (x2) (0)
       ((R_fewestDays_25   (R_fewestDays_2    n) (x1) (x2) (x2) (1000000000) M))
       ((R_fewestDays_25   (R_fewestDays_2    n) (x1) (x2) (x2) (0) M)))
def R_fewestDays    (x1 : Int) (M : am_M) : Option (Int × am_M) := (R_fewestDays_2    am_big (x1) (0) M)
theorem R_fewestDays_25_t {L : Nat} {xs : Nat → Int} {d : Nat} (hd : 1 ≤ d)   (k2 : Int → Int → am_M → Option (Int × am_M)) (hk2 : ∀ (x1 : Int) (x2 : Int) (M : am_M) (r : Int × am_M), k2 x1 x2 M = some r → am_Ev L xs d me_302 2 [(0, .inr (.inr (some 73))), (1, .inl (x1)), (2, .inl (x2))] [] 126 138 M (some (.inl r.1), 126, 138, r.2)) (x1 : Int) (x2 : Int) (s1 : Int) (s2 : Int) (M : am_M) (r : Int × am_M) (h : R_fewestDays_25   k2 x1 x2 s1 s2 M = some r) : am_Ev L xs d me_302 25 [(0, .inr (.inr (some 73))), (1, .inl (x1)), (2, .inl (x2))] [.inl (s2), .inl (s1), .inr (.inr (some 125))] 126 138 M (some (.inl r.1), 126, 138, r.2) := by
  refine ev_k (pc' := 25) (ls' := [(0, .inr (.inr (some 73))), (1, .inl (x1)), (2, .inl (x2))]) (st' := [.inl (s2), .inl (s1), .inr (.inr (some 125))]) (nc' := 126) (np' := 138) (M' := M) 0 rfl ?_
  obtain ⟨hc, M1, eM, h⟩ := wa_i h
  refine ev_iast (k := 125) rfl (by decide) rfl hc eM ?_
  refine ev_k (pc' := 2) (ls' := [(0, .inr (.inr (some 73))), (1, .inl (x1)), (2, .inl ((x2) + (1)))]) (st' := []) (nc' := 126) (np' := 138) (M' := M1) 2 rfl ?_
  exact hk2 (x1) ((x2) + (1)) M1 r h
theorem R_fewestDays_100_t {L : Nat} {xs : Nat → Int} {d : Nat} (hd : 1 ≤ d)   (k34 : Int → Int → am_M → Option (Int × am_M)) (k43 : Int → Int → Int → am_M → Option (Int × am_M)) (hk34 : ∀ (x1 : Int) (x2 : Int) (M : am_M) (r : Int × am_M), k34 x1 x2 M = some r → am_Ev L xs d me_302 34 [(0, .inr (.inr (some 73))), (1, .inl (x1)), (2, .inl (x2))] [] 126 138 M (some (.inl r.1), 126, 138, r.2)) (hk43 : ∀ (x1 : Int) (x2 : Int) (x3 : Int) (M : am_M) (r : Int × am_M), k43 x1 x2 x3 M = some r → am_Ev L xs d me_302 43 [(0, .inr (.inr (some 73))), (1, .inl (x1)), (2, .inl (x2)), (3, .inl (x3))] [] 126 138 M (some (.inl r.1), 126, 138, r.2)) (x1 : Int) (x2 : Int) (x3 : Int) (M : am_M) (r : Int × am_M) (h : R_fewestDays_100   k34 k43 x1 x2 x3 M = some r) : am_Ev L xs d me_302 100 [(0, .inr (.inr (some 73))), (1, .inl (x1)), (2, .inl (x2)), (3, .inl (x3))] [] 126 138 M (some (.inl r.1), 126, 138, r.2) := by
  refine ev_k (pc' := 43) (ls' := [(0, .inr (.inr (some 73))), (1, .inl (x1)), (2, .inl (x2)), (3, .inl ((x3) + (1)))]) (st' := []) (nc' := 126) (np' := 138) (M' := M) 2 rfl ?_
  exact hk43 (x1) (x2) ((x3) + (1)) M r h
theorem R_fewestDays_43_t {L : Nat} {xs : Nat → Int} {d : Nat} (hd : 1 ≤ d)   (k34 : Int → Int → am_M → Option (Int × am_M)) (hk34 : ∀ (x1 : Int) (x2 : Int) (M : am_M) (r : Int × am_M), k34 x1 x2 M = some r → am_Ev L xs d me_302 34 [(0, .inr (.inr (some 73))), (1, .inl (x1)), (2, .inl (x2))] [] 126 138 M (some (.inl r.1), 126, 138, r.2)) : ∀ (n : Nat) (x1 : Int) (x2 : Int) (x3 : Int) (M : am_M) (r : Int × am_M), R_fewestDays_43   k34 n x1 x2 x3 M = some r → am_Ev L xs d me_302 43 [(0, .inr (.inr (some 73))), (1, .inl (x1)), (2, .inl (x2)), (3, .inl (x3))] [] 126 138 M (some (.inl r.1), 126, 138, r.2)
  | 0, _, _, _, M, r, h => by cases h
  | n + 1, x1, x2, x3, M, r, h => by
    have ih := R_fewestDays_43_t (L := L) (xs := xs) hd   k34 hk34 n
    refine ev_k (pc' := 46) (ls' := [(0, .inr (.inr (some 73))), (1, .inl (x1)), (2, .inl (x2)), (3, .inl (x3))]) (st' := [.inl (60), .inl (x3)]) (nc' := 126) (np' := 138) (M' := M) 2 rfl ?_
    obtain ⟨hR, ⟨hc, h⟩ | ⟨hc, h⟩⟩ := c_gt_i h
    · refine ev_icmp 106 rfl hR.1 hR.2 (by decide) (fun _ => ?_) (fun q => absurd hc q)
      refine ev_k (pc' := 34) (ls' := [(0, .inr (.inr (some 73))), (1, .inl (x1)), (2, .inl ((x2) + (1)))]) (st' := []) (nc' := 126) (np' := 138) (M' := M) 2 rfl ?_
      exact hk34 (x1) ((x2) + (1)) M r h
    · refine ev_icmp 106 rfl hR.1 hR.2 (by decide) (fun q => absurd q hc) (fun _ => ?_)
      refine ev_k (pc' := 53) (ls' := [(0, .inr (.inr (some 73))), (1, .inl (x1)), (2, .inl (x2)), (3, .inl (x3))]) (st' := [.inl (x1), .inl (x3), .inr (.inr (some 73)), .inl (x2)]) (nc' := 126) (np' := 138) (M' := M) 4 rfl ?_
      obtain ⟨v1, hv, h⟩ := ob_i h
      refine ev_call (t := 303) (as := [.inr (.inr (some 73)), .inl (x3), .inl (x1)]) (rest := [.inl (x2)]) rfl rfl rfl (by omega) (R_blazesOn_e (by omega) (x3) (x1) M _ hv) ?_
      refine ev_k (pc' := 64) (ls' := [(4, .inl (b_and (x2) (b_xor (v1) (-1)))), (0, .inr (.inr (some 73))), (1, .inl (x1)), (2, .inl (x2)), (3, .inl (x3))]) (st' := [.inl (x2), .inl (b_and (x2) (b_xor (v1) (-1)))]) (nc' := 126) (np' := 138) (M' := M) 6 rfl ?_
      obtain ⟨hR, ⟨hc, h⟩ | ⟨hc, h⟩⟩ := c_ge_i h
      · refine ev_icmp 100 rfl hR.1 hR.2 (by decide) (fun _ => ?_) (fun q => absurd hc q)
        exact R_fewestDays_100_t hd   k34 (R_fewestDays_43   k34 n) hk34 ih (x1) (x2) (x3) M r h
      · refine ev_icmp 100 rfl hR.1 hR.2 (by decide) (fun q => absurd q hc) (fun _ => ?_)
        refine ev_k (pc' := 73) (ls' := [(4, .inl (b_and (x2) (b_xor (v1) (-1)))), (0, .inr (.inr (some 73))), (1, .inl (x1)), (2, .inl (x2)), (3, .inl (x3))]) (st' := [.inl (b_and (x2) (b_xor (v1) (-1))), .inr (.inr (some 125))]) (nc' := 126) (np' := 138) (M' := M) 3 rfl ?_
        obtain ⟨hc, v2, ev, h⟩ := rd_i h
        refine ev_ald (k := 125) (t := 0) (Or.inl ⟨rfl, rfl⟩) rfl (by decide) (by decide) rfl hc ev ?_
        refine ev_k (pc' := 81) (ls' := [(4, .inl (b_and (x2) (b_xor (v1) (-1)))), (0, .inr (.inr (some 73))), (1, .inl (x1)), (2, .inl (x2)), (3, .inl (x3))]) (st' := [.inl (x2), .inr (.inr (some 125)), .inl ((v2) + (1))]) (nc' := 126) (np' := 138) (M' := M) 5 rfl ?_
        obtain ⟨hc, v3, ev, h⟩ := rd_i h
        refine ev_ald (k := 125) (t := 0) (Or.inl ⟨rfl, rfl⟩) rfl (by decide) (by decide) rfl hc ev ?_
        refine ev_k (pc' := 82) (ls' := [(4, .inl (b_and (x2) (b_xor (v1) (-1)))), (0, .inr (.inr (some 73))), (1, .inl (x1)), (2, .inl (x2)), (3, .inl (x3))]) (st' := [.inl (v3), .inl ((v2) + (1))]) (nc' := 126) (np' := 138) (M' := M) 0 rfl ?_
        obtain ⟨hR, ⟨hc, h⟩ | ⟨hc, h⟩⟩ := c_ge_i h
        · refine ev_icmp 100 rfl hR.1 hR.2 (by decide) (fun _ => ?_) (fun q => absurd hc q)
          exact R_fewestDays_100_t hd   k34 (R_fewestDays_43   k34 n) hk34 ih (x1) (x2) (x3) M r h
        · refine ev_icmp 100 rfl hR.1 hR.2 (by decide) (fun q => absurd q hc) (fun _ => ?_)
          refine ev_k (pc' := 96) (ls' := [(4, .inl (b_and (x2) (b_xor (v1) (-1)))), (0, .inr (.inr (some 73))), (1, .inl (x1)), (2, .inl (x2)), (3, .inl (x3))]) (st' := [.inl (b_and (x2) (b_xor (v1) (-1))), .inr (.inr (some 125)), .inl (x2), .inr (.inr (some 125))]) (nc' := 126) (np' := 138) (M' := M) 6 rfl ?_
          obtain ⟨hc, v4, ev, h⟩ := rd_i h
          refine ev_ald (k := 125) (t := 0) (Or.inl ⟨rfl, rfl⟩) rfl (by decide) (by decide) rfl hc ev ?_
          refine ev_k (pc' := 99) (ls' := [(4, .inl (b_and (x2) (b_xor (v1) (-1)))), (0, .inr (.inr (some 73))), (1, .inl (x1)), (2, .inl (x2)), (3, .inl (x3))]) (st' := [.inl ((v4) + (1)), .inl (x2), .inr (.inr (some 125))]) (nc' := 126) (np' := 138) (M' := M) 2 rfl ?_
          obtain ⟨hc, M5, eM, h⟩ := wa_i h
          refine ev_iast (k := 125) rfl (by decide) rfl hc eM ?_
          exact R_fewestDays_100_t hd   k34 (R_fewestDays_43   k34 n) hk34 ih (x1) (x2) (x3) M5 r h
theorem R_fewestDays_34_t {L : Nat} {xs : Nat → Int} {d : Nat} (hd : 1 ≤ d)     : ∀ (n : Nat) (x1 : Int) (x2 : Int) (M : am_M) (r : Int × am_M), R_fewestDays_34    n x1 x2 M = some r → am_Ev L xs d me_302 34 [(0, .inr (.inr (some 73))), (1, .inl (x1)), (2, .inl (x2))] [] 126 138 M (some (.inl r.1), 126, 138, r.2)
  | 0, _, _, M, r, h => by cases h
  | n + 1, x1, x2, M, r, h => by
    have ih := R_fewestDays_34_t (L := L) (xs := xs) hd     n
    refine ev_k (pc' := 38) (ls' := [(0, .inr (.inr (some 73))), (1, .inl (x1)), (2, .inl (x2))]) (st' := [.inl (b_shl (1) (x1)), .inl (x2)]) (nc' := 126) (np' := 138) (M' := M) 4 rfl ?_
    obtain ⟨hR, ⟨hc, h⟩ | ⟨hc, h⟩⟩ := c_ge_i h
    · refine ev_icmp 112 rfl hR.1 hR.2 (by decide) (fun _ => ?_) (fun q => absurd hc q)
      refine ev_k (pc' := 121) (ls' := [(0, .inr (.inr (some 73))), (1, .inl (x1)), (2, .inl (x2))]) (st' := [.inl ((b_shl (1) (x1)) - (1)), .inr (.inr (some 125))]) (nc' := 126) (np' := 138) (M' := M) 7 rfl ?_
      obtain ⟨hc, v1, ev, h⟩ := rd_i h
      refine ev_ald (k := 125) (t := 0) (Or.inl ⟨rfl, rfl⟩) rfl (by decide) (by decide) rfl hc ev ?_
      refine ev_k (pc' := 122) (ls' := [(0, .inr (.inr (some 73))), (1, .inl (x1)), (2, .inl (x2))]) (st' := [.inl (v1)]) (nc' := 126) (np' := 138) (M' := M) 0 rfl ?_
      cases h
      exact ev_ret rfl
    · refine ev_icmp 112 rfl hR.1 hR.2 (by decide) (fun q => absurd q hc) (fun _ => ?_)
      refine ev_k (pc' := 43) (ls' := [(0, .inr (.inr (some 73))), (1, .inl (x1)), (2, .inl (x2)), (3, .inl (0))]) (st' := []) (nc' := 126) (np' := 138) (M' := M) 2 rfl ?_
      exact R_fewestDays_43_t hd   (R_fewestDays_34    n) ih am_big (x1) (x2) (0) M r h
theorem R_fewestDays_2_t {L : Nat} {xs : Nat → Int} {d : Nat} (hd : 1 ≤ d)     : ∀ (n : Nat) (x1 : Int) (x2 : Int) (M : am_M) (r : Int × am_M), R_fewestDays_2    n x1 x2 M = some r → am_Ev L xs d me_302 2 [(0, .inr (.inr (some 73))), (1, .inl (x1)), (2, .inl (x2))] [] 126 138 M (some (.inl r.1), 126, 138, r.2)
  | 0, _, _, M, r, h => by cases h
  | n + 1, x1, x2, M, r, h => by
    have ih := R_fewestDays_2_t (L := L) (xs := xs) hd     n
    refine ev_k (pc' := 6) (ls' := [(0, .inr (.inr (some 73))), (1, .inl (x1)), (2, .inl (x2))]) (st' := [.inl (b_shl (1) (x1)), .inl (x2)]) (nc' := 126) (np' := 138) (M' := M) 4 rfl ?_
    obtain ⟨hR, ⟨hc, h⟩ | ⟨hc, h⟩⟩ := c_ge_i h
    · refine ev_icmp 32 rfl hR.1 hR.2 (by decide) (fun _ => ?_) (fun q => absurd hc q)
      refine ev_k (pc' := 34) (ls' := [(0, .inr (.inr (some 73))), (1, .inl (x1)), (2, .inl (1))]) (st' := []) (nc' := 126) (np' := 138) (M' := M) 2 rfl ?_
      exact R_fewestDays_34_t hd     am_big (x1) (1) M r h
    · refine ev_icmp 32 rfl hR.1 hR.2 (by decide) (fun q => absurd q hc) (fun _ => ?_)
      refine ev_k (pc' := 15) (ls' := [(0, .inr (.inr (some 73))), (1, .inl (x1)), (2, .inl (x2))]) (st' := [.inl (x2), .inl (x2), .inr (.inr (some 125))]) (nc' := 126) (np' := 138) (M' := M) 4 rfl ?_
      obtain ⟨hR, ⟨hc, h⟩ | ⟨hc, h⟩⟩ := c_ne_i h
      · refine ev_ifc 22 rfl hR.1 (by decide) (fun _ => ?_) (fun q => absurd hc q)
        refine ev_k (pc' := 25) (ls' := [(0, .inr (.inr (some 73))), (1, .inl (x1)), (2, .inl (x2))]) (st' := [.inl (1000000000), .inl (x2), .inr (.inr (some 125))]) (nc' := 126) (np' := 138) (M' := M) 1 rfl ?_
        exact R_fewestDays_25_t hd   (R_fewestDays_2    n) ih (x1) (x2) (x2) (1000000000) M r h
      · refine ev_ifc 22 rfl hR.1 (by decide) (fun q => absurd q hc) (fun _ => ?_)
        refine ev_k (pc' := 25) (ls' := [(0, .inr (.inr (some 73))), (1, .inl (x1)), (2, .inl (x2))]) (st' := [.inl (0), .inl (x2), .inr (.inr (some 125))]) (nc' := 126) (np' := 138) (M' := M) 2 rfl ?_
        exact R_fewestDays_25_t hd   (R_fewestDays_2    n) ih (x1) (x2) (x2) (0) M r h
theorem R_fewestDays_e {L : Nat} {xs : Nat → Int} {d : Nat} (hd : 1 ≤ d)   (x1 : Int) (M : am_M) (r : Int × am_M) (h : R_fewestDays   x1 M = some r) : am_Ev L xs d me_302 0 (am_ar1 0 [.inr (.inr (some 73)), .inl (x1)]) [] 126 138 M (some (.inl r.1), 126, 138, r.2) := by
  refine ev_k (pc' := 2) (ls' := [(0, .inr (.inr (some 73))), (1, .inl (x1)), (2, .inl (0))]) (st' := []) (nc' := 126) (np' := 138) (M' := M) 2 rfl ?_
  exact R_fewestDays_2_t hd     am_big (x1) (0) M r h
def R_daysOfBlaze_51   (k8 : Int → Int → Int → Int → am_M → Option (Int × am_M)) (x1 : Int) (x2 : Int) (x4 : Int) (x5 : Int) (M : am_M) : Option (Int × am_M) := ob (R_byteAt ((4) * (x1)) M) fun v1 => ob (R_byteAt (((4) * (x1)) + (1)) M) fun v2 => oc (R_growing (v1) (v2) (x4) (M 73 45) M) fun v3 M4 => ob (R_held ((x4) + (v3)) (99) M4) fun v5 => (k8 (x1) (x2) (v5) ((x5) + (1)) M4)
def R_daysOfBlaze_8    : Nat → Int → Int → Int → Int → am_M → Option (Int × am_M)
  | 0, _, _, _, _, _ => none
  | n + 1, x1, x2, x4, x5, M => c_gt (x5) (60)
       (some (x2, M))
       (ck (am_R (x4)) (ob (R_byteAt (((4) * (x1)) + (2)) M) fun v1 => ck (am_R (v1)) (ob (R_byteAt (((4) * (x1)) + (3)) M) fun v2 => ck (am_R (v2)) (ob (R_lies (x4) (v1) (v2) M) fun v3 => c_eq (v3) (0)
       (R_daysOfBlaze_51   (R_daysOfBlaze_8    n) (x1) (x2) (x4) (x5) M)
       ((R_daysOfBlaze_51   (R_daysOfBlaze_8    n) (x1) (q_or (x2) (q_shl (1) (x5))) (x4) (x5) M))))))
def R_daysOfBlaze    (x1 : Int) (M : am_M) : Option (Int × am_M) := (R_daysOfBlaze_8    am_big (x1) (0) (0) (0) M)
theorem R_daysOfBlaze_51_t {L : Nat} {xs : Nat → Int} {d : Nat} (hd : 5 ≤ d)   (k8 : Int → Int → Int → Int → am_M → Option (Int × am_M)) (hk8 : ∀ (x1 : Int) (x2 : Int) (x4 : Int) (x5 : Int) (M : am_M) (r : Int × am_M), k8 x1 x2 x4 x5 M = some r → am_Ev L xs d me_300 8 [(0, .inr (.inr (some 73))), (1, .inl (x1)), (2, .inr (.inl (x2))), (4, .inl (x4)), (5, .inl (x5))] [] 126 138 M (some (.inr (.inl r.1)), 126, 138, r.2)) (x1 : Int) (x2 : Int) (x4 : Int) (x5 : Int) (M : am_M) (r : Int × am_M) (h : R_daysOfBlaze_51   k8 x1 x2 x4 x5 M = some r) : am_Ev L xs d me_300 51 [(0, .inr (.inr (some 73))), (1, .inl (x1)), (2, .inr (.inl (x2))), (4, .inl (x4)), (5, .inl (x5))] [] 126 138 M (some (.inr (.inl r.1)), 126, 138, r.2) := by
  refine ev_k (pc' := 58) (ls' := [(0, .inr (.inr (some 73))), (1, .inl (x1)), (2, .inr (.inl (x2))), (4, .inl (x4)), (5, .inl (x5))]) (st' := [.inl ((4) * (x1)), .inr (.inr (some 73)), .inr (.inr (some 73)), .inl (x4)]) (nc' := 126) (np' := 138) (M' := M) 6 rfl ?_
  obtain ⟨v1, hv, h⟩ := ob_i h
  refine ev_call (t := 295) (as := [.inr (.inr (some 73)), .inl ((4) * (x1))]) (rest := [.inr (.inr (some 73)), .inl (x4)]) rfl rfl rfl (by omega) (R_byteAt_e (by omega) ((4) * (x1)) M _ hv) ?_
  refine ev_k (pc' := 67) (ls' := [(0, .inr (.inr (some 73))), (1, .inl (x1)), (2, .inr (.inl (x2))), (4, .inl (x4)), (5, .inl (x5))]) (st' := [.inl (((4) * (x1)) + (1)), .inr (.inr (some 73)), .inl (v1), .inr (.inr (some 73)), .inl (x4)]) (nc' := 126) (np' := 138) (M' := M) 6 rfl ?_
  obtain ⟨v2, hv, h⟩ := ob_i h
  refine ev_call (t := 295) (as := [.inr (.inr (some 73)), .inl (((4) * (x1)) + (1))]) (rest := [.inl (v1), .inr (.inr (some 73)), .inl (x4)]) rfl rfl rfl (by omega) (R_byteAt_e (by omega) (((4) * (x1)) + (1)) M _ hv) ?_
  refine ev_k (pc' := 76) (ls' := [(0, .inr (.inr (some 73))), (1, .inl (x1)), (2, .inr (.inl (x2))), (4, .inl (x4)), (5, .inl (x5))]) (st' := [.inl (M 73 45), .inl (x4), .inl (v2), .inl (v1), .inr (.inr (some 73)), .inl (x4)]) (nc' := 126) (np' := 138) (M' := M) 3 rfl ?_
  obtain ⟨v3, M4, hv, h⟩ := oc_i h
  refine ev_call (t := 268) (as := [.inr (.inr (some 73)), .inl (v1), .inl (v2), .inl (x4), .inl (M 73 45)]) (rest := [.inl (x4)]) rfl rfl rfl (by omega) (R_growing_e (by omega) (v1) (v2) (x4) (M 73 45) M _ hv) ?_
  refine ev_k (pc' := 82) (ls' := [(0, .inr (.inr (some 73))), (1, .inl (x1)), (2, .inr (.inl (x2))), (4, .inl (x4)), (5, .inl (x5))]) (st' := [.inl (99), .inl ((x4) + (v3))]) (nc' := 126) (np' := 138) (M' := M4) 2 rfl ?_
  obtain ⟨v5, hv, h⟩ := ob_i h
  refine ev_call (t := 255) (as := [.inl ((x4) + (v3)), .inl (99)]) (rest := []) rfl rfl rfl (by omega) (R_held_e (by omega) ((x4) + (v3)) (99) M4 _ hv) ?_
  refine ev_k (pc' := 8) (ls' := [(0, .inr (.inr (some 73))), (1, .inl (x1)), (2, .inr (.inl (x2))), (4, .inl (v5)), (5, .inl ((x5) + (1)))]) (st' := []) (nc' := 126) (np' := 138) (M' := M4) 3 rfl ?_
  exact hk8 (x1) (x2) (v5) ((x5) + (1)) M4 r h
theorem R_daysOfBlaze_8_t {L : Nat} {xs : Nat → Int} {d : Nat} (hd : 5 ≤ d)     : ∀ (n : Nat) (x1 : Int) (x2 : Int) (x4 : Int) (x5 : Int) (M : am_M) (r : Int × am_M), R_daysOfBlaze_8    n x1 x2 x4 x5 M = some r → am_Ev L xs d me_300 8 [(0, .inr (.inr (some 73))), (1, .inl (x1)), (2, .inr (.inl (x2))), (4, .inl (x4)), (5, .inl (x5))] [] 126 138 M (some (.inr (.inl r.1)), 126, 138, r.2)
  | 0, _, _, _, _, M, r, h => by cases h
  | n + 1, x1, x2, x4, x5, M, r, h => by
    have ih := R_daysOfBlaze_8_t (L := L) (xs := xs) hd     n
    refine ev_k (pc' := 12) (ls' := [(0, .inr (.inr (some 73))), (1, .inl (x1)), (2, .inr (.inl (x2))), (4, .inl (x4)), (5, .inl (x5))]) (st' := [.inl (60), .inl (x5)]) (nc' := 126) (np' := 138) (M' := M) 2 rfl ?_
    obtain ⟨hR, ⟨hc, h⟩ | ⟨hc, h⟩⟩ := c_gt_i h
    · refine ev_icmp 93 rfl hR.1 hR.2 (by decide) (fun _ => ?_) (fun q => absurd hc q)
      refine ev_k (pc' := 94) (ls' := [(0, .inr (.inr (some 73))), (1, .inl (x1)), (2, .inr (.inl (x2))), (4, .inl (x4)), (5, .inl (x5))]) (st' := [.inr (.inl (x2))]) (nc' := 126) (np' := 138) (M' := M) 1 rfl ?_
      cases h
      exact ev_ret rfl
    · refine ev_icmp 93 rfl hR.1 hR.2 (by decide) (fun q => absurd q hc) (fun _ => ?_)
      refine ev_k (pc' := 17) (ls' := [(0, .inr (.inr (some 73))), (1, .inl (x1)), (2, .inr (.inl (x2))), (4, .inl (x4)), (5, .inl (x5))]) (st' := [.inl (x4)]) (nc' := 126) (np' := 138) (M' := M) 1 rfl ?_
      obtain ⟨hc, h⟩ := ck_i h
      refine ev_i2l rfl hc ?_
      refine ev_k (pc' := 24) (ls' := [(0, .inr (.inr (some 73))), (1, .inl (x1)), (2, .inr (.inl (x2))), (4, .inl (x4)), (5, .inl (x5))]) (st' := [.inl (((4) * (x1)) + (2)), .inr (.inr (some 73)), .inr (.inl (x4))]) (nc' := 126) (np' := 138) (M' := M) 6 rfl ?_
      obtain ⟨v1, hv, h⟩ := ob_i h
      refine ev_call (t := 295) (as := [.inr (.inr (some 73)), .inl (((4) * (x1)) + (2))]) (rest := [.inr (.inl (x4))]) rfl rfl rfl (by omega) (R_byteAt_e (by omega) (((4) * (x1)) + (2)) M _ hv) ?_
      refine ev_k (pc' := 27) (ls' := [(0, .inr (.inr (some 73))), (1, .inl (x1)), (2, .inr (.inl (x2))), (4, .inl (x4)), (5, .inl (x5))]) (st' := [.inl (v1), .inr (.inl (x4))]) (nc' := 126) (np' := 138) (M' := M) 0 rfl ?_
      obtain ⟨hc, h⟩ := ck_i h
      refine ev_i2l rfl hc ?_
      refine ev_k (pc' := 34) (ls' := [(0, .inr (.inr (some 73))), (1, .inl (x1)), (2, .inr (.inl (x2))), (4, .inl (x4)), (5, .inl (x5))]) (st' := [.inl (((4) * (x1)) + (3)), .inr (.inr (some 73)), .inr (.inl (v1)), .inr (.inl (x4))]) (nc' := 126) (np' := 138) (M' := M) 6 rfl ?_
      obtain ⟨v2, hv, h⟩ := ob_i h
      refine ev_call (t := 295) (as := [.inr (.inr (some 73)), .inl (((4) * (x1)) + (3))]) (rest := [.inr (.inl (v1)), .inr (.inl (x4))]) rfl rfl rfl (by omega) (R_byteAt_e (by omega) (((4) * (x1)) + (3)) M _ hv) ?_
      refine ev_k (pc' := 37) (ls' := [(0, .inr (.inr (some 73))), (1, .inl (x1)), (2, .inr (.inl (x2))), (4, .inl (x4)), (5, .inl (x5))]) (st' := [.inl (v2), .inr (.inl (v1)), .inr (.inl (x4))]) (nc' := 126) (np' := 138) (M' := M) 0 rfl ?_
      obtain ⟨hc, h⟩ := ck_i h
      refine ev_i2l rfl hc ?_
      refine ev_k (pc' := 38) (ls' := [(0, .inr (.inr (some 73))), (1, .inl (x1)), (2, .inr (.inl (x2))), (4, .inl (x4)), (5, .inl (x5))]) (st' := [.inr (.inl (v2)), .inr (.inl (v1)), .inr (.inl (x4))]) (nc' := 126) (np' := 138) (M' := M) 0 rfl ?_
      obtain ⟨v3, hv, h⟩ := ob_i h
      refine ev_call (t := 193) (as := [.inr (.inl (x4)), .inr (.inl (v1)), .inr (.inl (v2))]) (rest := []) rfl rfl rfl (by omega) (R_lies_e (by omega) (x4) (v1) (v2) M _ hv) ?_
      refine ev_k (pc' := 41) (ls' := [(0, .inr (.inr (some 73))), (1, .inl (x1)), (2, .inr (.inl (x2))), (4, .inl (x4)), (5, .inl (x5))]) (st' := [.inl (v3)]) (nc' := 126) (np' := 138) (M' := M) 0 rfl ?_
      obtain ⟨hR, ⟨hc, h⟩ | ⟨hc, h⟩⟩ := c_eq_i h
      · refine ev_ifc 51 rfl hR.1 (by decide) (fun _ => ?_) (fun q => absurd hc q)
        exact R_daysOfBlaze_51_t hd   (R_daysOfBlaze_8    n) ih (x1) (x2) (x4) (x5) M r h
      · refine ev_ifc 51 rfl hR.1 (by decide) (fun q => absurd q hc) (fun _ => ?_)
        refine ev_k (pc' := 51) (ls' := [(0, .inr (.inr (some 73))), (1, .inl (x1)), (2, .inr (.inl (q_or (x2) (q_shl (1) (x5))))), (4, .inl (x4)), (5, .inl (x5))]) (st' := []) (nc' := 126) (np' := 138) (M' := M) 6 rfl ?_
        exact R_daysOfBlaze_51_t hd   (R_daysOfBlaze_8    n) ih (x1) (q_or (x2) (q_shl (1) (x5))) (x4) (x5) M r h
theorem R_daysOfBlaze_e {L : Nat} {xs : Nat → Int} {d : Nat} (hd : 5 ≤ d)   (x1 : Int) (M : am_M) (r : Int × am_M) (h : R_daysOfBlaze   x1 M = some r) : am_Ev L xs d me_300 0 (am_ar1 0 [.inr (.inr (some 73)), .inl (x1)]) [] 126 138 M (some (.inr (.inl r.1)), 126, 138, r.2) := by
  refine ev_k (pc' := 8) (ls' := [(0, .inr (.inr (some 73))), (1, .inl (x1)), (2, .inr (.inl (0))), (4, .inl (0)), (5, .inl (0))]) (st' := []) (nc' := 126) (np' := 138) (M' := M) 6 rfl ?_
  exact R_daysOfBlaze_8_t hd     am_big (x1) (0) (0) (0) M r h
def R_firstOf_40   (k7 : Int → Int → Int → Int → am_M → Option (Int)) (x1 : Int) (x3 : Int) (x4 : Int) (x5 : Int) (M : am_M) : Option (Int) := (k7 (x1) (x3) (x4) ((x5) + (1)) M)
def R_firstOf_36   (k7 : Int → Int → Int → Int → am_M → Option (Int)) (x1 : Int) (x3 : Int) (x5 : Int) (M : am_M) : Option (Int) := (R_firstOf_40   k7 (x1) (x3) (x5) (x5) M)
def R_firstOf_7    : Nat → Int → Int → Int → Int → am_M → Option (Int)
  | 0, _, _, _, _, _ => none
  | n + 1, x1, x3, x4, x5, M => c_gt (x5) (60)
       (some (x4))
       (ck (am_R6 (q_and (q_shr (x1) (x5)) (1)) ∧ am_R6 (1)) (tw (if (q_and (q_shr (x1) (x5)) (1)) > (1) then 1 else if (q_and (q_shr (x1) (x5)) (1)) = (1) then 0 else -1) fun v1 => c_ne (v1) (0)
       (R_firstOf_40   (R_firstOf_7    n) (x1) (x3) (x4) (x5) M)
       (c_ne (x3) (0)
       (R_firstOf_36   (R_firstOf_7    n) (x1) (x3) (x5) M)
       (c_ne (x4) (-2)
       (R_firstOf_40   (R_firstOf_7    n) (x1) (x3) (x4) (x5) M)
       (R_firstOf_36   (R_firstOf_7    n) (x1) (x3) (x5) M)))))
def R_firstOf    (x1 : Int) (x3 : Int) (M : am_M) : Option (Int) := (R_firstOf_7    am_big (x1) (x3) (-2) (0) M)
theorem R_firstOf_40_t {L : Nat} {xs : Nat → Int} {d : Nat} (hd : 0 ≤ d)   (k7 : Int → Int → Int → Int → am_M → Option (Int)) (hk7 : ∀ (x1 : Int) (x3 : Int) (x4 : Int) (x5 : Int) (M : am_M) (r : Int), k7 x1 x3 x4 x5 M = some r → am_Ev L xs d me_301 7 [(1, .inr (.inl (x1))), (3, .inl (x3)), (4, .inl (x4)), (5, .inl (x5))] [] 126 138 M (some (.inl r), 126, 138, M)) (x1 : Int) (x3 : Int) (x4 : Int) (x5 : Int) (M : am_M) (r : Int) (h : R_firstOf_40   k7 x1 x3 x4 x5 M = some r) : am_Ev L xs d me_301 40 [(1, .inr (.inl (x1))), (3, .inl (x3)), (4, .inl (x4)), (5, .inl (x5))] [] 126 138 M (some (.inl r), 126, 138, M) := by
  refine ev_k (pc' := 7) (ls' := [(1, .inr (.inl (x1))), (3, .inl (x3)), (4, .inl (x4)), (5, .inl ((x5) + (1)))]) (st' := []) (nc' := 126) (np' := 138) (M' := M) 2 rfl ?_
  exact hk7 (x1) (x3) (x4) ((x5) + (1)) M r h
theorem R_firstOf_36_t {L : Nat} {xs : Nat → Int} {d : Nat} (hd : 0 ≤ d)   (k7 : Int → Int → Int → Int → am_M → Option (Int)) (hk7 : ∀ (x1 : Int) (x3 : Int) (x4 : Int) (x5 : Int) (M : am_M) (r : Int), k7 x1 x3 x4 x5 M = some r → am_Ev L xs d me_301 7 [(1, .inr (.inl (x1))), (3, .inl (x3)), (4, .inl (x4)), (5, .inl (x5))] [] 126 138 M (some (.inl r), 126, 138, M)) (x1 : Int) (x3 : Int) (x5 : Int) (M : am_M) (r : Int) (h : R_firstOf_36   k7 x1 x3 x5 M = some r) : am_Ev L xs d me_301 36 [(1, .inr (.inl (x1))), (3, .inl (x3)), (5, .inl (x5))] [] 126 138 M (some (.inl r), 126, 138, M) := by
  refine ev_k (pc' := 40) (ls' := [(1, .inr (.inl (x1))), (3, .inl (x3)), (4, .inl (x5)), (5, .inl (x5))]) (st' := []) (nc' := 126) (np' := 138) (M' := M) 2 rfl ?_
  exact R_firstOf_40_t hd   k7 hk7 (x1) (x3) (x5) (x5) M r h
theorem R_firstOf_7_t {L : Nat} {xs : Nat → Int} {d : Nat} (hd : 0 ≤ d)     : ∀ (n : Nat) (x1 : Int) (x3 : Int) (x4 : Int) (x5 : Int) (M : am_M) (r : Int), R_firstOf_7    n x1 x3 x4 x5 M = some r → am_Ev L xs d me_301 7 [(1, .inr (.inl (x1))), (3, .inl (x3)), (4, .inl (x4)), (5, .inl (x5))] [] 126 138 M (some (.inl r), 126, 138, M)
  | 0, _, _, _, _, M, r, h => by cases h
  | n + 1, x1, x3, x4, x5, M, r, h => by
    have ih := R_firstOf_7_t (L := L) (xs := xs) hd     n
    refine ev_k (pc' := 11) (ls' := [(1, .inr (.inl (x1))), (3, .inl (x3)), (4, .inl (x4)), (5, .inl (x5))]) (st' := [.inl (60), .inl (x5)]) (nc' := 126) (np' := 138) (M' := M) 2 rfl ?_
    obtain ⟨hR, ⟨hc, h⟩ | ⟨hc, h⟩⟩ := c_gt_i h
    · refine ev_icmp 46 rfl hR.1 hR.2 (by decide) (fun _ => ?_) (fun q => absurd hc q)
      refine ev_k (pc' := 48) (ls' := [(1, .inr (.inl (x1))), (3, .inl (x3)), (4, .inl (x4)), (5, .inl (x5))]) (st' := [.inl (x4)]) (nc' := 126) (np' := 138) (M' := M) 1 rfl ?_
      cases h
      exact ev_ret rfl
    · refine ev_icmp 46 rfl hR.1 hR.2 (by decide) (fun q => absurd q hc) (fun _ => ?_)
      refine ev_k (pc' := 21) (ls' := [(1, .inr (.inl (x1))), (3, .inl (x3)), (4, .inl (x4)), (5, .inl (x5))]) (st' := [.inr (.inl (1)), .inr (.inl (q_and (q_shr (x1) (x5)) (1)))]) (nc' := 126) (np' := 138) (M' := M) 6 rfl ?_
      obtain ⟨hc, h⟩ := ck_i h
      obtain ⟨v1, ev, h⟩ := tw_i h
      refine ev_lcmp rfl hc ?_
      rw [← ev]
      refine ev_k (pc' := 22) (ls' := [(1, .inr (.inl (x1))), (3, .inl (x3)), (4, .inl (x4)), (5, .inl (x5))]) (st' := [.inl (v1)]) (nc' := 126) (np' := 138) (M' := M) 0 rfl ?_
      obtain ⟨hR, ⟨hc, h⟩ | ⟨hc, h⟩⟩ := c_ne_i h
      · refine ev_ifc 40 rfl hR.1 (by decide) (fun _ => ?_) (fun q => absurd hc q)
        exact R_firstOf_40_t hd   (R_firstOf_7    n) ih (x1) (x3) (x4) (x5) M r h
      · refine ev_ifc 40 rfl hR.1 (by decide) (fun q => absurd q hc) (fun _ => ?_)
        refine ev_k (pc' := 26) (ls' := [(1, .inr (.inl (x1))), (3, .inl (x3)), (4, .inl (x4)), (5, .inl (x5))]) (st' := [.inl (x3)]) (nc' := 126) (np' := 138) (M' := M) 1 rfl ?_
        obtain ⟨hR, ⟨hc, h⟩ | ⟨hc, h⟩⟩ := c_ne_i h
        · refine ev_ifc 36 rfl hR.1 (by decide) (fun _ => ?_) (fun q => absurd hc q)
          exact R_firstOf_36_t hd   (R_firstOf_7    n) ih (x1) (x3) (x5) M r h
        · refine ev_ifc 36 rfl hR.1 (by decide) (fun q => absurd q hc) (fun _ => ?_)
          refine ev_k (pc' := 33) (ls' := [(1, .inr (.inl (x1))), (3, .inl (x3)), (4, .inl (x4)), (5, .inl (x5))]) (st' := [.inl (-2), .inl (x4)]) (nc' := 126) (np' := 138) (M' := M) 2 rfl ?_
          obtain ⟨hR, ⟨hc, h⟩ | ⟨hc, h⟩⟩ := c_ne_i h
          · refine ev_icmp 40 rfl hR.1 hR.2 (by decide) (fun _ => ?_) (fun q => absurd hc q)
            exact R_firstOf_40_t hd   (R_firstOf_7    n) ih (x1) (x3) (x4) (x5) M r h
          · refine ev_icmp 40 rfl hR.1 hR.2 (by decide) (fun q => absurd q hc) (fun _ => ?_)
            exact R_firstOf_36_t hd   (R_firstOf_7    n) ih (x1) (x3) (x5) M r h
theorem R_firstOf_e {L : Nat} {xs : Nat → Int} {d : Nat} (hd : 0 ≤ d)   (x1 : Int) (x3 : Int) (M : am_M) (r : Int) (h : R_firstOf   x1 x3 M = some r) : am_Ev L xs d me_301 0 (am_ar1 0 [.inr (.inr (some 73)), .inr (.inl (x1)), .inl (x3)]) [] 126 138 M (some (.inl r), 126, 138, M) := by
  refine ev_k (pc' := 7) (ls' := [(1, .inr (.inl (x1))), (3, .inl (x3)), (4, .inl (-2)), (5, .inl (0))]) (st' := []) (nc' := 126) (np' := 138) (M' := M) 4 rfl ?_
  exact R_firstOf_7_t hd     am_big (x1) (x3) (-2) (0) M r h
def R_blazes_22     (M : am_M) : Option (Int × am_M) := some (-1, M)
def R_blazes_103     (M : am_M) : Option (Int × am_M) := some (-3, M)
def R_blazes_200    (s1 : Int) (s2 : Int) (M : am_M) : Option (Int × am_M) := ob (R_firstOf (s1) (s2) M) fun v1 => some (v1, M)
def R_blazes_223    (s0 : Int) (M : am_M) : Option (Int × am_M) := some (s0, M)
def R_blazes_153    : Nat → Int → Int → Int → am_M → Option (Int × am_M)
  | 0, _, _, _, _ => none
  | n + 1, x1, x2, x3, M => c_ge (x3) (x1)
       (c_le (x2) (0)
       (oc (R_fewestDays (x1) M) fun v1 M2 => c_lt (v1) (1000000000)
       ((R_blazes_223    (v1) M2))
       ((R_blazes_223    (-2) M2)))
       (ck (am_R (x2) ∧ am_R (10) ∧ ((10) : Int) ≠ 0) (tw (Int.tmod (x2) (10)) fun v3 => rd M 124 8 (v3) fun v4 => c_lt (x2) (20)
       ((R_blazes_200    (v4) (0) M))
       ((R_blazes_200    (v4) (1) M)))))
       (oc (R_daysOfBlaze (x3) M) fun v5 M6 => wa M6 124 8 (x3) (v5) fun M7 => (R_blazes_153    n (x1) (x2) ((x3) + (1)) M7))
def R_blazes_151    (x1 : Int) (x2 : Int) (M : am_M) : Option (Int × am_M) := (R_blazes_153    am_big (x1) (x2) (0) M)
def R_blazes_31    : Nat → Int → Int → Int → am_M → Option (Int × am_M)
  | 0, _, _, _, _ => none
  | n + 1, x1, x2, x3, M => c_ge (x3) (x1)
       (c_eq (x2) (0)
       (R_blazes_151    (x1) (x2) M)
       (ck (am_R (am_nm ((x2) - (10)))) (ck (am_R (am_nm ((x1) - (1)))) (ob (R_lies (am_nm ((x2) - (10))) (0) (am_nm ((x1) - (1))) M) fun v1 => c_ne (v1) (0)
       (R_blazes_151    (x1) (x2) M)
       (ck (am_R (am_nm ((x2) - (20)))) (ck (am_R (am_nm ((x1) - (1)))) (ob (R_lies (am_nm ((x2) - (20))) (0) (am_nm ((x1) - (1))) M) fun v2 => c_ne (v2) (0)
       (R_blazes_151    (x1) (x2) M)
       (some (-4, M)))))))))
       (ob (R_byteAt (am_nm ((4) * (x3))) M) fun v3 => c_ge (v3) (7)
       (R_blazes_103     M)
       (ob (R_byteAt (am_nm ((am_nm ((4) * (x3))) + (1))) M) fun v4 => ck (am_R (v4)) (ob (R_lies (v4) (1) (4) M) fun v5 => c_eq (v5) (0)
       (R_blazes_103     M)
       (ob (R_byteAt (am_nm ((am_nm ((4) * (x3))) + (3))) M) fun v6 => c_gt (v6) (99)
       (R_blazes_103     M)
       (ob (R_byteAt (am_nm ((am_nm ((4) * (x3))) + (2))) M) fun v7 => ob (R_byteAt (am_nm ((am_nm ((4) * (x3))) + (3))) M) fun v8 => c_le (v7) (v8)
       ((R_blazes_31    n (x1) (x2) ((x3) + (1)) M))
       (R_blazes_103     M))))))
def R_blazes    (x1 : Int) (x2 : Int) (M : am_M) : Option (Int × am_M) := ck (am_R (x1)) (ob (R_lies (x1) (1) (8) M) fun v1 => c_eq (v1) (0)
       (R_blazes_22     M)
       (c_le (am_nm ((4) * (x1))) (M 73 1)
       (fw M 73 1 (0) fun M2 => (R_blazes_31    am_big (x1) (x2) (0) M2))
       (R_blazes_22     M)))
theorem R_blazes_22_t {L : Nat} {xs : Nat → Int} {d : Nat} (hd : 6 ≤ d)      (M : am_M) (r : Int × am_M) (h : R_blazes_22     M = some r) : am_Ev L xs d me_299 22 [] [] 126 138 M (some (.inl r.1), 126, 138, r.2) := by
  refine ev_k (pc' := 23) (ls' := []) (st' := [.inl (-1)]) (nc' := 126) (np' := 138) (M' := M) 1 rfl ?_
  cases h
  exact ev_ret rfl
theorem R_blazes_103_t {L : Nat} {xs : Nat → Int} {d : Nat} (hd : 6 ≤ d)      (M : am_M) (r : Int × am_M) (h : R_blazes_103     M = some r) : am_Ev L xs d me_299 103 [] [] 126 138 M (some (.inl r.1), 126, 138, r.2) := by
  refine ev_k (pc' := 105) (ls' := []) (st' := [.inl (-3)]) (nc' := 126) (np' := 138) (M' := M) 1 rfl ?_
  cases h
  exact ev_ret rfl
theorem R_blazes_200_t {L : Nat} {xs : Nat → Int} {d : Nat} (hd : 6 ≤ d)     (s1 : Int) (s2 : Int) (M : am_M) (r : Int × am_M) (h : R_blazes_200    s1 s2 M = some r) : am_Ev L xs d me_299 200 [] [.inl (s2), .inr (.inl (s1)), .inr (.inr (some 73))] 126 138 M (some (.inl r.1), 126, 138, r.2) := by
  refine ev_k (pc' := 200) (ls' := []) (st' := [.inl (s2), .inr (.inl (s1)), .inr (.inr (some 73))]) (nc' := 126) (np' := 138) (M' := M) 0 rfl ?_
  obtain ⟨v1, hv, h⟩ := ob_i h
  refine ev_call (t := 301) (as := [.inr (.inr (some 73)), .inr (.inl (s1)), .inl (s2)]) (rest := []) rfl rfl rfl (by omega) (R_firstOf_e (by omega) (s1) (s2) M _ hv) ?_
  refine ev_k (pc' := 203) (ls' := []) (st' := [.inl (v1)]) (nc' := 126) (np' := 138) (M' := M) 0 rfl ?_
  cases h
  exact ev_ret rfl
theorem R_blazes_223_t {L : Nat} {xs : Nat → Int} {d : Nat} (hd : 6 ≤ d)     (s0 : Int) (M : am_M) (r : Int × am_M) (h : R_blazes_223    s0 M = some r) : am_Ev L xs d me_299 223 [] [.inl (s0)] 126 138 M (some (.inl r.1), 126, 138, r.2) := by
  refine ev_k (pc' := 223) (ls' := []) (st' := [.inl (s0)]) (nc' := 126) (np' := 138) (M' := M) 0 rfl ?_
  cases h
  exact ev_ret rfl
theorem R_blazes_153_t {L : Nat} {xs : Nat → Int} {d : Nat} (hd : 6 ≤ d)     : ∀ (n : Nat) (x1 : Int) (x2 : Int) (x3 : Int) (M : am_M) (r : Int × am_M), R_blazes_153    n x1 x2 x3 M = some r → am_Ev L xs d me_299 153 [(0, .inr (.inr (some 73))), (1, .inl (x1)), (2, .inl (x2)), (3, .inl (x3))] [] 126 138 M (some (.inl r.1), 126, 138, r.2)
  | 0, _, _, _, M, r, h => by cases h
  | n + 1, x1, x2, x3, M, r, h => by
    have ih := R_blazes_153_t (L := L) (xs := xs) hd     n
    refine ev_k (pc' := 155) (ls' := [(0, .inr (.inr (some 73))), (1, .inl (x1)), (2, .inl (x2)), (3, .inl (x3))]) (st' := [.inl (x1), .inl (x3)]) (nc' := 126) (np' := 138) (M' := M) 2 rfl ?_
    obtain ⟨hR, ⟨hc, h⟩ | ⟨hc, h⟩⟩ := c_ge_i h
    · refine ev_icmp 175 rfl hR.1 hR.2 (by decide) (fun _ => ?_) (fun q => absurd hc q)
      refine ev_k (pc' := 176) (ls' := [(0, .inr (.inr (some 73))), (1, .inl (x1)), (2, .inl (x2)), (3, .inl (x3))]) (st' := [.inl (x2)]) (nc' := 126) (np' := 138) (M' := M) 1 rfl ?_
      obtain ⟨hR, ⟨hc, h⟩ | ⟨hc, h⟩⟩ := c_le_i h
      · refine ev_ifc 204 rfl hR.1 (by decide) (fun _ => ?_) (fun q => absurd hc q)
        refine ev_k (pc' := 206) (ls' := [(0, .inr (.inr (some 73))), (1, .inl (x1)), (2, .inl (x2)), (3, .inl (x3))]) (st' := [.inl (x1), .inr (.inr (some 73))]) (nc' := 126) (np' := 138) (M' := M) 2 rfl ?_
        obtain ⟨v1, M2, hv, h⟩ := oc_i h
        refine ev_call (t := 302) (as := [.inr (.inr (some 73)), .inl (x1)]) (rest := []) rfl rfl rfl (by omega) (R_fewestDays_e (by omega) (x1) M _ hv) ?_
        refine ev_k (pc' := 214) (ls' := [(3, .inl (v1)), (0, .inr (.inr (some 73))), (1, .inl (x1)), (2, .inl (x2))]) (st' := [.inl (1000000000), .inl (v1)]) (nc' := 126) (np' := 138) (M' := M2) 3 rfl ?_
        obtain ⟨hR, ⟨hc, h⟩ | ⟨hc, h⟩⟩ := c_lt_i h
        · refine ev_icmp 222 rfl hR.1 hR.2 (by decide) (fun _ => ?_) (fun q => absurd hc q)
          refine ev_k (pc' := 223) (ls' := []) (st' := [.inl (v1)]) (nc' := 126) (np' := 138) (M' := M2) 1 rfl ?_
          exact R_blazes_223_t hd     (v1) M2 r h
        · refine ev_icmp 222 rfl hR.1 hR.2 (by decide) (fun q => absurd q hc) (fun _ => ?_)
          refine ev_k (pc' := 223) (ls' := []) (st' := [.inl (-2)]) (nc' := 126) (np' := 138) (M' := M2) 2 rfl ?_
          exact R_blazes_223_t hd     (-2) M2 r h
      · refine ev_ifc 204 rfl hR.1 (by decide) (fun q => absurd q hc) (fun _ => ?_)
        refine ev_k (pc' := 187) (ls' := [(0, .inr (.inr (some 73))), (1, .inl (x1)), (2, .inl (x2)), (3, .inl (x3))]) (st' := [.inl (10), .inl (x2), .inr (.inr (some 124)), .inr (.inr (some 73))]) (nc' := 126) (np' := 138) (M' := M) 5 rfl ?_
        obtain ⟨hc, h⟩ := ck_i h
        obtain ⟨v3, ev, h⟩ := tw_i h
        refine ev_irem rfl hc ?_
        refine ev_k (pc' := 188) (ls' := [(0, .inr (.inr (some 73))), (1, .inl (x1)), (2, .inl (x2)), (3, .inl (x3))]) (st' := [.inl (Int.tmod (x2) (10)), .inr (.inr (some 124)), .inr (.inr (some 73))]) (nc' := 126) (np' := 138) (M' := M) 0 rfl ?_
        rw [← ev]
        refine ev_k (pc' := 188) (ls' := [(0, .inr (.inr (some 73))), (1, .inl (x1)), (2, .inl (x2)), (3, .inl (x3))]) (st' := [.inl (v3), .inr (.inr (some 124)), .inr (.inr (some 73))]) (nc' := 126) (np' := 138) (M' := M) 0 rfl ?_
        obtain ⟨hc, v4, ev, h⟩ := rd_i h
        refine ev_lald (k := 124) rfl (by decide) rfl hc ev ?_
        refine ev_k (pc' := 192) (ls' := [(0, .inr (.inr (some 73))), (1, .inl (x1)), (2, .inl (x2)), (3, .inl (x3))]) (st' := [.inl (20), .inl (x2), .inr (.inl (v4)), .inr (.inr (some 73))]) (nc' := 126) (np' := 138) (M' := M) 2 rfl ?_
        obtain ⟨hR, ⟨hc, h⟩ | ⟨hc, h⟩⟩ := c_lt_i h
        · refine ev_icmp 199 rfl hR.1 hR.2 (by decide) (fun _ => ?_) (fun q => absurd hc q)
          refine ev_k (pc' := 200) (ls' := []) (st' := [.inl (0), .inr (.inl (v4)), .inr (.inr (some 73))]) (nc' := 126) (np' := 138) (M' := M) 1 rfl ?_
          exact R_blazes_200_t hd     (v4) (0) M r h
        · refine ev_icmp 199 rfl hR.1 hR.2 (by decide) (fun q => absurd q hc) (fun _ => ?_)
          refine ev_k (pc' := 200) (ls' := []) (st' := [.inl (1), .inr (.inl (v4)), .inr (.inr (some 73))]) (nc' := 126) (np' := 138) (M' := M) 2 rfl ?_
          exact R_blazes_200_t hd     (v4) (1) M r h
    · refine ev_icmp 175 rfl hR.1 hR.2 (by decide) (fun q => absurd q hc) (fun _ => ?_)
      refine ev_k (pc' := 165) (ls' := [(0, .inr (.inr (some 73))), (1, .inl (x1)), (2, .inl (x2)), (3, .inl (x3))]) (st' := [.inl (x3), .inr (.inr (some 73)), .inl (x3), .inr (.inr (some 124))]) (nc' := 126) (np' := 138) (M' := M) 5 rfl ?_
      obtain ⟨v5, M6, hv, h⟩ := oc_i h
      refine ev_call (t := 300) (as := [.inr (.inr (some 73)), .inl (x3)]) (rest := [.inl (x3), .inr (.inr (some 124))]) rfl rfl rfl (by omega) (R_daysOfBlaze_e (by omega) (x3) M _ hv) ?_
      refine ev_k (pc' := 168) (ls' := [(0, .inr (.inr (some 73))), (1, .inl (x1)), (2, .inl (x2)), (3, .inl (x3))]) (st' := [.inr (.inl (v5)), .inl (x3), .inr (.inr (some 124))]) (nc' := 126) (np' := 138) (M' := M6) 0 rfl ?_
      obtain ⟨hc, M7, eM, h⟩ := wa_i h
      refine ev_last (k := 124) rfl rfl (by decide) rfl hc eM ?_
      refine ev_k (pc' := 153) (ls' := [(0, .inr (.inr (some 73))), (1, .inl (x1)), (2, .inl (x2)), (3, .inl ((x3) + (1)))]) (st' := []) (nc' := 126) (np' := 138) (M' := M7) 2 rfl ?_
      exact ih (x1) (x2) ((x3) + (1)) M7 r h
theorem R_blazes_151_t {L : Nat} {xs : Nat → Int} {d : Nat} (hd : 6 ≤ d)     (x1 : Int) (x2 : Int) (M : am_M) (r : Int × am_M) (h : R_blazes_151    x1 x2 M = some r) : am_Ev L xs d me_299 151 [(0, .inr (.inr (some 73))), (1, .inl (x1)), (2, .inl (x2))] [] 126 138 M (some (.inl r.1), 126, 138, r.2) := by
  refine ev_k (pc' := 153) (ls' := [(0, .inr (.inr (some 73))), (1, .inl (x1)), (2, .inl (x2)), (3, .inl (0))]) (st' := []) (nc' := 126) (np' := 138) (M' := M) 2 rfl ?_
  exact R_blazes_153_t hd     am_big (x1) (x2) (0) M r h
theorem R_blazes_31_t {L : Nat} {xs : Nat → Int} {d : Nat} (hd : 6 ≤ d)     : ∀ (n : Nat) (x1 : Int) (x2 : Int) (x3 : Int) (M : am_M) (r : Int × am_M), R_blazes_31    n x1 x2 x3 M = some r → am_Ev L xs d me_299 31 [(0, .inr (.inr (some 73))), (1, .inl (x1)), (2, .inl (x2)), (3, .inl (x3))] [] 126 138 M (some (.inl r.1), 126, 138, r.2)
  | 0, _, _, _, M, r, h => by cases h
  | n + 1, x1, x2, x3, M, r, h => by
    have ih := R_blazes_31_t (L := L) (xs := xs) hd     n
    refine ev_k (pc' := 33) (ls' := [(0, .inr (.inr (some 73))), (1, .inl (x1)), (2, .inl (x2)), (3, .inl (x3))]) (st' := [.inl (x1), .inl (x3)]) (nc' := 126) (np' := 138) (M' := M) 2 rfl ?_
    obtain ⟨hR, ⟨hc, h⟩ | ⟨hc, h⟩⟩ := c_ge_i h
    · refine ev_icmp 112 rfl hR.1 hR.2 (by decide) (fun _ => ?_) (fun q => absurd hc q)
      refine ev_k (pc' := 113) (ls' := [(0, .inr (.inr (some 73))), (1, .inl (x1)), (2, .inl (x2)), (3, .inl (x3))]) (st' := [.inl (x2)]) (nc' := 126) (np' := 138) (M' := M) 1 rfl ?_
      obtain ⟨hR, ⟨hc, h⟩ | ⟨hc, h⟩⟩ := c_eq_i h
      · refine ev_ifc 151 rfl hR.1 (by decide) (fun _ => ?_) (fun q => absurd hc q)
        exact R_blazes_151_t hd     (x1) (x2) M r h
      · refine ev_ifc 151 rfl hR.1 (by decide) (fun q => absurd q hc) (fun _ => ?_)
        refine ev_k (pc' := 120) (ls' := [(0, .inr (.inr (some 73))), (1, .inl (x1)), (2, .inl (x2)), (3, .inl (x3))]) (st' := [.inl (am_nm ((x2) - (10)))]) (nc' := 126) (np' := 138) (M' := M) 3 rfl ?_
        obtain ⟨hc, h⟩ := ck_i h
        refine ev_i2l rfl hc ?_
        refine ev_k (pc' := 125) (ls' := [(0, .inr (.inr (some 73))), (1, .inl (x1)), (2, .inl (x2)), (3, .inl (x3))]) (st' := [.inl (am_nm ((x1) - (1))), .inr (.inl (0)), .inr (.inl (am_nm ((x2) - (10))))]) (nc' := 126) (np' := 138) (M' := M) 4 rfl ?_
        obtain ⟨hc, h⟩ := ck_i h
        refine ev_i2l rfl hc ?_
        refine ev_k (pc' := 126) (ls' := [(0, .inr (.inr (some 73))), (1, .inl (x1)), (2, .inl (x2)), (3, .inl (x3))]) (st' := [.inr (.inl (am_nm ((x1) - (1)))), .inr (.inl (0)), .inr (.inl (am_nm ((x2) - (10))))]) (nc' := 126) (np' := 138) (M' := M) 0 rfl ?_
        obtain ⟨v1, hv, h⟩ := ob_i h
        refine ev_call (t := 193) (as := [.inr (.inl (am_nm ((x2) - (10)))), .inr (.inl (0)), .inr (.inl (am_nm ((x1) - (1))))]) (rest := []) rfl rfl rfl (by omega) (R_lies_e (by omega) (am_nm ((x2) - (10))) (0) (am_nm ((x1) - (1))) M _ hv) ?_
        refine ev_k (pc' := 129) (ls' := [(0, .inr (.inr (some 73))), (1, .inl (x1)), (2, .inl (x2)), (3, .inl (x3))]) (st' := [.inl (v1)]) (nc' := 126) (np' := 138) (M' := M) 0 rfl ?_
        obtain ⟨hR, ⟨hc, h⟩ | ⟨hc, h⟩⟩ := c_ne_i h
        · refine ev_ifc 151 rfl hR.1 (by decide) (fun _ => ?_) (fun q => absurd hc q)
          exact R_blazes_151_t hd     (x1) (x2) M r h
        · refine ev_ifc 151 rfl hR.1 (by decide) (fun q => absurd q hc) (fun _ => ?_)
          refine ev_k (pc' := 136) (ls' := [(0, .inr (.inr (some 73))), (1, .inl (x1)), (2, .inl (x2)), (3, .inl (x3))]) (st' := [.inl (am_nm ((x2) - (20)))]) (nc' := 126) (np' := 138) (M' := M) 3 rfl ?_
          obtain ⟨hc, h⟩ := ck_i h
          refine ev_i2l rfl hc ?_
          refine ev_k (pc' := 141) (ls' := [(0, .inr (.inr (some 73))), (1, .inl (x1)), (2, .inl (x2)), (3, .inl (x3))]) (st' := [.inl (am_nm ((x1) - (1))), .inr (.inl (0)), .inr (.inl (am_nm ((x2) - (20))))]) (nc' := 126) (np' := 138) (M' := M) 4 rfl ?_
          obtain ⟨hc, h⟩ := ck_i h
          refine ev_i2l rfl hc ?_
          refine ev_k (pc' := 142) (ls' := [(0, .inr (.inr (some 73))), (1, .inl (x1)), (2, .inl (x2)), (3, .inl (x3))]) (st' := [.inr (.inl (am_nm ((x1) - (1)))), .inr (.inl (0)), .inr (.inl (am_nm ((x2) - (20))))]) (nc' := 126) (np' := 138) (M' := M) 0 rfl ?_
          obtain ⟨v2, hv, h⟩ := ob_i h
          refine ev_call (t := 193) (as := [.inr (.inl (am_nm ((x2) - (20)))), .inr (.inl (0)), .inr (.inl (am_nm ((x1) - (1))))]) (rest := []) rfl rfl rfl (by omega) (R_lies_e (by omega) (am_nm ((x2) - (20))) (0) (am_nm ((x1) - (1))) M _ hv) ?_
          refine ev_k (pc' := 145) (ls' := [(0, .inr (.inr (some 73))), (1, .inl (x1)), (2, .inl (x2)), (3, .inl (x3))]) (st' := [.inl (v2)]) (nc' := 126) (np' := 138) (M' := M) 0 rfl ?_
          obtain ⟨hR, ⟨hc, h⟩ | ⟨hc, h⟩⟩ := c_ne_i h
          · refine ev_ifc 151 rfl hR.1 (by decide) (fun _ => ?_) (fun q => absurd hc q)
            exact R_blazes_151_t hd     (x1) (x2) M r h
          · refine ev_ifc 151 rfl hR.1 (by decide) (fun q => absurd q hc) (fun _ => ?_)
            refine ev_k (pc' := 150) (ls' := [(0, .inr (.inr (some 73))), (1, .inl (x1)), (2, .inl (x2)), (3, .inl (x3))]) (st' := [.inl (-4)]) (nc' := 126) (np' := 138) (M' := M) 1 rfl ?_
            cases h
            exact ev_ret rfl
    · refine ev_icmp 112 rfl hR.1 hR.2 (by decide) (fun q => absurd q hc) (fun _ => ?_)
      refine ev_k (pc' := 40) (ls' := [(0, .inr (.inr (some 73))), (1, .inl (x1)), (2, .inl (x2)), (3, .inl (x3))]) (st' := [.inl (am_nm ((4) * (x3))), .inr (.inr (some 73))]) (nc' := 126) (np' := 138) (M' := M) 4 rfl ?_
      obtain ⟨v3, hv, h⟩ := ob_i h
      refine ev_call (t := 295) (as := [.inr (.inr (some 73)), .inl (am_nm ((4) * (x3)))]) (rest := []) rfl rfl rfl (by omega) (R_byteAt_e (by omega) (am_nm ((4) * (x3))) M _ hv) ?_
      refine ev_k (pc' := 45) (ls' := [(0, .inr (.inr (some 73))), (1, .inl (x1)), (2, .inl (x2)), (3, .inl (x3))]) (st' := [.inl (7), .inl (v3)]) (nc' := 126) (np' := 138) (M' := M) 1 rfl ?_
      obtain ⟨hR, ⟨hc, h⟩ | ⟨hc, h⟩⟩ := c_ge_i h
      · refine ev_icmp 103 rfl hR.1 hR.2 (by decide) (fun _ => ?_) (fun q => absurd hc q)
        exact R_blazes_103_t hd      M r h
      · refine ev_icmp 103 rfl hR.1 hR.2 (by decide) (fun q => absurd q hc) (fun _ => ?_)
        refine ev_k (pc' := 54) (ls' := [(0, .inr (.inr (some 73))), (1, .inl (x1)), (2, .inl (x2)), (3, .inl (x3))]) (st' := [.inl (am_nm ((am_nm ((4) * (x3))) + (1))), .inr (.inr (some 73))]) (nc' := 126) (np' := 138) (M' := M) 6 rfl ?_
        obtain ⟨v4, hv, h⟩ := ob_i h
        refine ev_call (t := 295) (as := [.inr (.inr (some 73)), .inl (am_nm ((am_nm ((4) * (x3))) + (1)))]) (rest := []) rfl rfl rfl (by omega) (R_byteAt_e (by omega) (am_nm ((am_nm ((4) * (x3))) + (1))) M _ hv) ?_
        refine ev_k (pc' := 57) (ls' := [(0, .inr (.inr (some 73))), (1, .inl (x1)), (2, .inl (x2)), (3, .inl (x3))]) (st' := [.inl (v4)]) (nc' := 126) (np' := 138) (M' := M) 0 rfl ?_
        obtain ⟨hc, h⟩ := ck_i h
        refine ev_i2l rfl hc ?_
        refine ev_k (pc' := 62) (ls' := [(0, .inr (.inr (some 73))), (1, .inl (x1)), (2, .inl (x2)), (3, .inl (x3))]) (st' := [.inr (.inl (4)), .inr (.inl (1)), .inr (.inl (v4))]) (nc' := 126) (np' := 138) (M' := M) 2 rfl ?_
        obtain ⟨v5, hv, h⟩ := ob_i h
        refine ev_call (t := 193) (as := [.inr (.inl (v4)), .inr (.inl (1)), .inr (.inl (4))]) (rest := []) rfl rfl rfl (by omega) (R_lies_e (by omega) (v4) (1) (4) M _ hv) ?_
        refine ev_k (pc' := 65) (ls' := [(0, .inr (.inr (some 73))), (1, .inl (x1)), (2, .inl (x2)), (3, .inl (x3))]) (st' := [.inl (v5)]) (nc' := 126) (np' := 138) (M' := M) 0 rfl ?_
        obtain ⟨hR, ⟨hc, h⟩ | ⟨hc, h⟩⟩ := c_eq_i h
        · refine ev_ifc 103 rfl hR.1 (by decide) (fun _ => ?_) (fun q => absurd hc q)
          exact R_blazes_103_t hd      M r h
        · refine ev_ifc 103 rfl hR.1 (by decide) (fun q => absurd q hc) (fun _ => ?_)
          refine ev_k (pc' := 74) (ls' := [(0, .inr (.inr (some 73))), (1, .inl (x1)), (2, .inl (x2)), (3, .inl (x3))]) (st' := [.inl (am_nm ((am_nm ((4) * (x3))) + (3))), .inr (.inr (some 73))]) (nc' := 126) (np' := 138) (M' := M) 6 rfl ?_
          obtain ⟨v6, hv, h⟩ := ob_i h
          refine ev_call (t := 295) (as := [.inr (.inr (some 73)), .inl (am_nm ((am_nm ((4) * (x3))) + (3)))]) (rest := []) rfl rfl rfl (by omega) (R_byteAt_e (by omega) (am_nm ((am_nm ((4) * (x3))) + (3))) M _ hv) ?_
          refine ev_k (pc' := 79) (ls' := [(0, .inr (.inr (some 73))), (1, .inl (x1)), (2, .inl (x2)), (3, .inl (x3))]) (st' := [.inl (99), .inl (v6)]) (nc' := 126) (np' := 138) (M' := M) 1 rfl ?_
          obtain ⟨hR, ⟨hc, h⟩ | ⟨hc, h⟩⟩ := c_gt_i h
          · refine ev_icmp 103 rfl hR.1 hR.2 (by decide) (fun _ => ?_) (fun q => absurd hc q)
            exact R_blazes_103_t hd      M r h
          · refine ev_icmp 103 rfl hR.1 hR.2 (by decide) (fun q => absurd q hc) (fun _ => ?_)
            refine ev_k (pc' := 88) (ls' := [(0, .inr (.inr (some 73))), (1, .inl (x1)), (2, .inl (x2)), (3, .inl (x3))]) (st' := [.inl (am_nm ((am_nm ((4) * (x3))) + (2))), .inr (.inr (some 73))]) (nc' := 126) (np' := 138) (M' := M) 6 rfl ?_
            obtain ⟨v7, hv, h⟩ := ob_i h
            refine ev_call (t := 295) (as := [.inr (.inr (some 73)), .inl (am_nm ((am_nm ((4) * (x3))) + (2)))]) (rest := []) rfl rfl rfl (by omega) (R_byteAt_e (by omega) (am_nm ((am_nm ((4) * (x3))) + (2))) M _ hv) ?_
            refine ev_k (pc' := 97) (ls' := [(0, .inr (.inr (some 73))), (1, .inl (x1)), (2, .inl (x2)), (3, .inl (x3))]) (st' := [.inl (am_nm ((am_nm ((4) * (x3))) + (3))), .inr (.inr (some 73)), .inl (v7)]) (nc' := 126) (np' := 138) (M' := M) 6 rfl ?_
            obtain ⟨v8, hv, h⟩ := ob_i h
            refine ev_call (t := 295) (as := [.inr (.inr (some 73)), .inl (am_nm ((am_nm ((4) * (x3))) + (3)))]) (rest := [.inl (v7)]) rfl rfl rfl (by omega) (R_byteAt_e (by omega) (am_nm ((am_nm ((4) * (x3))) + (3))) M _ hv) ?_
            refine ev_k (pc' := 100) (ls' := [(0, .inr (.inr (some 73))), (1, .inl (x1)), (2, .inl (x2)), (3, .inl (x3))]) (st' := [.inl (v8), .inl (v7)]) (nc' := 126) (np' := 138) (M' := M) 0 rfl ?_
            obtain ⟨hR, ⟨hc, h⟩ | ⟨hc, h⟩⟩ := c_le_i h
            · refine ev_icmp 106 rfl hR.1 hR.2 (by decide) (fun _ => ?_) (fun q => absurd hc q)
              refine ev_k (pc' := 31) (ls' := [(0, .inr (.inr (some 73))), (1, .inl (x1)), (2, .inl (x2)), (3, .inl ((x3) + (1)))]) (st' := []) (nc' := 126) (np' := 138) (M' := M) 2 rfl ?_
              exact ih (x1) (x2) ((x3) + (1)) M r h
            · refine ev_icmp 106 rfl hR.1 hR.2 (by decide) (fun q => absurd q hc) (fun _ => ?_)
              exact R_blazes_103_t hd      M r h
theorem R_blazes_e {L : Nat} {xs : Nat → Int} {d : Nat} (hd : 6 ≤ d)   (x1 : Int) (x2 : Int) (M : am_M) (r : Int × am_M) (h : R_blazes   x1 x2 M = some r) : am_Ev L xs d me_299 0 (am_ar1 0 [.inr (.inr (some 73)), .inl (x1), .inl (x2)]) [] 126 138 M (some (.inl r.1), 126, 138, r.2) := by
  refine ev_k (pc' := 1) (ls' := [(0, .inr (.inr (some 73))), (1, .inl (x1)), (2, .inl (x2))]) (st' := [.inl (x1)]) (nc' := 126) (np' := 138) (M' := M) 1 rfl ?_
  obtain ⟨hc, h⟩ := ck_i h
  refine ev_i2l rfl hc ?_
  refine ev_k (pc' := 6) (ls' := [(0, .inr (.inr (some 73))), (1, .inl (x1)), (2, .inl (x2))]) (st' := [.inr (.inl (8)), .inr (.inl (1)), .inr (.inl (x1))]) (nc' := 126) (np' := 138) (M' := M) 2 rfl ?_
  obtain ⟨v1, hv, h⟩ := ob_i h
  refine ev_call (t := 193) (as := [.inr (.inl (x1)), .inr (.inl (1)), .inr (.inl (8))]) (rest := []) rfl rfl rfl (by omega) (R_lies_e (by omega) (x1) (1) (8) M _ hv) ?_
  refine ev_k (pc' := 9) (ls' := [(0, .inr (.inr (some 73))), (1, .inl (x1)), (2, .inl (x2))]) (st' := [.inl (v1)]) (nc' := 126) (np' := 138) (M' := M) 0 rfl ?_
  obtain ⟨hR, ⟨hc, h⟩ | ⟨hc, h⟩⟩ := c_eq_i h
  · refine ev_ifc 22 rfl hR.1 (by decide) (fun _ => ?_) (fun q => absurd hc q)
    exact R_blazes_22_t hd      M r h
  · refine ev_ifc 22 rfl hR.1 (by decide) (fun q => absurd q hc) (fun _ => ?_)
    refine ev_k (pc' := 19) (ls' := [(0, .inr (.inr (some 73))), (1, .inl (x1)), (2, .inl (x2))]) (st' := [.inl (M 73 1), .inl (am_nm ((4) * (x1)))]) (nc' := 126) (np' := 138) (M' := M) 5 rfl ?_
    obtain ⟨hR, ⟨hc, h⟩ | ⟨hc, h⟩⟩ := c_le_i h
    · refine ev_icmp 24 rfl hR.1 hR.2 (by decide) (fun _ => ?_) (fun q => absurd hc q)
      refine ev_k (pc' := 29) (ls' := [(0, .inr (.inr (some 73))), (1, .inl (x1)), (2, .inl (x2))]) (st' := []) (nc' := 126) (np' := 138) (M' := am_up M 73 1 (0)) 3 rfl ?_
      obtain ⟨M2, eM, h⟩ := fw_i h
      rw [← eM]
      refine ev_k (pc' := 31) (ls' := [(0, .inr (.inr (some 73))), (1, .inl (x1)), (2, .inl (x2)), (3, .inl (0))]) (st' := []) (nc' := 126) (np' := 138) (M' := M2) 2 rfl ?_
      exact R_blazes_31_t hd     am_big (x1) (x2) (0) M2 r h
    · refine ev_icmp 24 rfl hR.1 hR.2 (by decide) (fun q => absurd q hc) (fun _ => ?_)
      exact R_blazes_22_t hd      M r h
def R_isSight_29    (s0 : Int) (M : am_M) : Option (Int) := ck ((s0) = 0 ∨ (s0) = 1) (some (s0))
def R_isSight_24     (M : am_M) : Option (Int) := (R_isSight_29    (1) M)
def R_isSight    (x0 : Int) (M : am_M) : Option (Int) := c_eq (x0) (109)
       (R_isSight_24     M)
       (c_eq (x0) (102)
       (R_isSight_24     M)
       (c_eq (x0) (50)
       (R_isSight_24     M)
       (c_ne (x0) (46)
       ((R_isSight_29    (0) M))
       (R_isSight_24     M))))
theorem R_isSight_29_t {L : Nat} {xs : Nat → Int} {d : Nat} (hd : 0 ≤ d)     (s0 : Int) (M : am_M) (r : Int) (h : R_isSight_29    s0 M = some r) : am_Ev L xs d me_305 29 [] [.inl (s0)] 126 138 M (some (.inl r), 126, 138, M) := by
  refine ev_k (pc' := 29) (ls' := []) (st' := [.inl (s0)]) (nc' := 126) (np' := 138) (M' := M) 0 rfl ?_
  obtain ⟨hc, h⟩ := ck_i h
  cases h
  exact ev_retz rfl rfl hc
theorem R_isSight_24_t {L : Nat} {xs : Nat → Int} {d : Nat} (hd : 0 ≤ d)      (M : am_M) (r : Int) (h : R_isSight_24     M = some r) : am_Ev L xs d me_305 24 [] [] 126 138 M (some (.inl r), 126, 138, M) := by
  refine ev_k (pc' := 29) (ls' := []) (st' := [.inl (1)]) (nc' := 126) (np' := 138) (M' := M) 2 rfl ?_
  exact R_isSight_29_t hd     (1) M r h
theorem R_isSight_e {L : Nat} {xs : Nat → Int} {d : Nat} (hd : 0 ≤ d)   (x0 : Int) (M : am_M) (r : Int) (h : R_isSight   x0 M = some r) : am_Ev L xs d me_305 0 (am_ar1 0 [.inl (x0)]) [] 126 138 M (some (.inl r), 126, 138, M) := by
  refine ev_k (pc' := 3) (ls' := [(0, .inl (x0))]) (st' := [.inl (109), .inl (x0)]) (nc' := 126) (np' := 138) (M' := M) 2 rfl ?_
  obtain ⟨hR, ⟨hc, h⟩ | ⟨hc, h⟩⟩ := c_eq_i h
  · refine ev_icmp 24 rfl hR.1 hR.2 (by decide) (fun _ => ?_) (fun q => absurd hc q)
    exact R_isSight_24_t hd      M r h
  · refine ev_icmp 24 rfl hR.1 hR.2 (by decide) (fun q => absurd q hc) (fun _ => ?_)
    refine ev_k (pc' := 9) (ls' := [(0, .inl (x0))]) (st' := [.inl (102), .inl (x0)]) (nc' := 126) (np' := 138) (M' := M) 2 rfl ?_
    obtain ⟨hR, ⟨hc, h⟩ | ⟨hc, h⟩⟩ := c_eq_i h
    · refine ev_icmp 24 rfl hR.1 hR.2 (by decide) (fun _ => ?_) (fun q => absurd hc q)
      exact R_isSight_24_t hd      M r h
    · refine ev_icmp 24 rfl hR.1 hR.2 (by decide) (fun q => absurd q hc) (fun _ => ?_)
      refine ev_k (pc' := 15) (ls' := [(0, .inl (x0))]) (st' := [.inl (50), .inl (x0)]) (nc' := 126) (np' := 138) (M' := M) 2 rfl ?_
      obtain ⟨hR, ⟨hc, h⟩ | ⟨hc, h⟩⟩ := c_eq_i h
      · refine ev_icmp 24 rfl hR.1 hR.2 (by decide) (fun _ => ?_) (fun q => absurd hc q)
        exact R_isSight_24_t hd      M r h
      · refine ev_icmp 24 rfl hR.1 hR.2 (by decide) (fun q => absurd q hc) (fun _ => ?_)
        refine ev_k (pc' := 21) (ls' := [(0, .inl (x0))]) (st' := [.inl (46), .inl (x0)]) (nc' := 126) (np' := 138) (M' := M) 2 rfl ?_
        obtain ⟨hR, ⟨hc, h⟩ | ⟨hc, h⟩⟩ := c_ne_i h
        · refine ev_icmp 28 rfl hR.1 hR.2 (by decide) (fun _ => ?_) (fun q => absurd hc q)
          refine ev_k (pc' := 29) (ls' := []) (st' := [.inl (0)]) (nc' := 126) (np' := 138) (M' := M) 1 rfl ?_
          exact R_isSight_29_t hd     (0) M r h
        · refine ev_icmp 28 rfl hR.1 hR.2 (by decide) (fun q => absurd q hc) (fun _ => ?_)
          exact R_isSight_24_t hd      M r h
