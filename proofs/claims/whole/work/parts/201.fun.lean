def LawReader_isProductSign_23    (s0 : Int) (M : am_M) : Option (Int) := ck ((s0) = 0 ∨ (s0) = 1) (some (s0))
def LawReader_isProductSign_18     (M : am_M) : Option (Int) := (LawReader_isProductSign_23    (1) M)
def LawReader_isProductSign    (x0 : Int) (M : am_M) : Option (Int) := c_eq (x0) (42)
       (LawReader_isProductSign_18     M)
       (c_eq (x0) (47)
       (LawReader_isProductSign_18     M)
       (c_ne (x0) (37)
       ((LawReader_isProductSign_23    (0) M))
       (LawReader_isProductSign_18     M)))
theorem LawReader_isProductSign_23_t {L : Nat} {xs : Nat → Int} {d : Nat} (hd : 0 ≤ d)     (s0 : Int) (M : am_M) (r : Int) (h : LawReader_isProductSign_23    s0 M = some r) : am_Ev L xs d me_47 23 [] [.inl (s0)] 126 138 M (some (.inl r), 126, 138, M) := by
  refine ev_k (pc' := 23) (ls' := []) (st' := [.inl (s0)]) (nc' := 126) (np' := 138) (M' := M) 0 rfl ?_
  obtain ⟨hc, h⟩ := ck_i h
  cases h
  exact ev_retz rfl rfl hc
theorem LawReader_isProductSign_18_t {L : Nat} {xs : Nat → Int} {d : Nat} (hd : 0 ≤ d)      (M : am_M) (r : Int) (h : LawReader_isProductSign_18     M = some r) : am_Ev L xs d me_47 18 [] [] 126 138 M (some (.inl r), 126, 138, M) := by
  refine ev_k (pc' := 23) (ls' := []) (st' := [.inl (1)]) (nc' := 126) (np' := 138) (M' := M) 2 rfl ?_
  exact LawReader_isProductSign_23_t hd     (1) M r h
theorem LawReader_isProductSign_e {L : Nat} {xs : Nat → Int} {d : Nat} (hd : 0 ≤ d)   (x0 : Int) (M : am_M) (r : Int) (h : LawReader_isProductSign   x0 M = some r) : am_Ev L xs d me_47 0 (am_ar1 0 [.inl (x0)]) [] 126 138 M (some (.inl r), 126, 138, M) := by
  refine ev_k (pc' := 3) (ls' := [(0, .inl (x0))]) (st' := [.inl (42), .inl (x0)]) (nc' := 126) (np' := 138) (M' := M) 2 rfl ?_
  obtain ⟨hR, ⟨hc, h⟩ | ⟨hc, h⟩⟩ := c_eq_i h
  · refine ev_icmp 18 rfl hR.1 hR.2 (by decide) (fun _ => ?_) (fun q => absurd hc q)
    exact LawReader_isProductSign_18_t hd      M r h
  · refine ev_icmp 18 rfl hR.1 hR.2 (by decide) (fun q => absurd q hc) (fun _ => ?_)
    refine ev_k (pc' := 9) (ls' := [(0, .inl (x0))]) (st' := [.inl (47), .inl (x0)]) (nc' := 126) (np' := 138) (M' := M) 2 rfl ?_
    obtain ⟨hR, ⟨hc, h⟩ | ⟨hc, h⟩⟩ := c_eq_i h
    · refine ev_icmp 18 rfl hR.1 hR.2 (by decide) (fun _ => ?_) (fun q => absurd hc q)
      exact LawReader_isProductSign_18_t hd      M r h
    · refine ev_icmp 18 rfl hR.1 hR.2 (by decide) (fun q => absurd q hc) (fun _ => ?_)
      refine ev_k (pc' := 15) (ls' := [(0, .inl (x0))]) (st' := [.inl (37), .inl (x0)]) (nc' := 126) (np' := 138) (M' := M) 2 rfl ?_
      obtain ⟨hR, ⟨hc, h⟩ | ⟨hc, h⟩⟩ := c_ne_i h
      · refine ev_icmp 22 rfl hR.1 hR.2 (by decide) (fun _ => ?_) (fun q => absurd hc q)
        refine ev_k (pc' := 23) (ls' := []) (st' := [.inl (0)]) (nc' := 126) (np' := 138) (M' := M) 1 rfl ?_
        exact LawReader_isProductSign_23_t hd     (0) M r h
      · refine ev_icmp 22 rfl hR.1 hR.2 (by decide) (fun q => absurd q hc) (fun _ => ?_)
        exact LawReader_isProductSign_18_t hd      M r h
def LawReader_readProduct_16_60  (rc42 : Int → am_M → Option am_M)   (M : am_M) : Option (am_M) := some (M)
def LawReader_readProduct_16_7  (rc42 : Int → am_M → Option am_M)  : Nat → Int → Int → am_M → Option (am_M)
  | 0, _, _, _ => none
  | n + 1, x1, x2, M => c_ge (x2) (240)
       (LawReader_readProduct_16_60  rc42   M)
       (ob (LawReader_here_16  M) fun v1 => ob (LawReader_isProductSign (v1) M) fun v2 => c_eq (v2) (0)
       (LawReader_readProduct_16_60  rc42   M)
       (ob (LawReader_here_16  M) fun v3 => fw M 16 2 ((M 16 2) + (1)) fun M4 => ob (rc42 (x1) M4) fun M5 => oc (Law_emit_17 (v3) (0) M5) fun v6 M7 => (LawReader_readProduct_16_7  rc42  n (x1) ((x2) + (1)) M7)))
def LawReader_readProduct_16  (rc42 : Int → am_M → Option am_M)  (x1 : Int) (M : am_M) : Option (am_M) := ob (rc42 (x1) M) fun M1 => (LawReader_readProduct_16_7  rc42  am_big (x1) (0) M1)
theorem LawReader_readProduct_16_60_t {L : Nat} {xs : Nat → Int} {d : Nat} (hd : 2 ≤ d) (rc42 : Int → am_M → Option am_M) (hrc42 : ∀ (a0 : Int) (M : am_M) (r : am_M), rc42 a0 M = some r → am_Ev L xs (d - 1) me_42 0 (am_ar1 0 [.inr (.inr (some 16)), .inl (a0)]) [] 126 138 M (none, 126, 138, r))    (M : am_M) (r : am_M) (h : LawReader_readProduct_16_60  rc42   M = some r) : am_Ev L xs d me_41 60 [] [] 126 138 M (none, 126, 138, r) := by
  refine ev_k (pc' := 60) (ls' := []) (st' := []) (nc' := 126) (np' := 138) (M' := M) 0 rfl ?_
  cases h
  exact ev_ret rfl
theorem LawReader_readProduct_16_7_t {L : Nat} {xs : Nat → Int} {d : Nat} (hd : 2 ≤ d) (rc42 : Int → am_M → Option am_M) (hrc42 : ∀ (a0 : Int) (M : am_M) (r : am_M), rc42 a0 M = some r → am_Ev L xs (d - 1) me_42 0 (am_ar1 0 [.inr (.inr (some 16)), .inl (a0)]) [] 126 138 M (none, 126, 138, r))   : ∀ (n : Nat) (x1 : Int) (x2 : Int) (M : am_M) (r : am_M), LawReader_readProduct_16_7  rc42  n x1 x2 M = some r → am_Ev L xs d me_41 7 [(0, .inr (.inr (some 16))), (1, .inl (x1)), (2, .inl (x2))] [] 126 138 M (none, 126, 138, r)
  | 0, _, _, M, r, h => by cases h
  | n + 1, x1, x2, M, r, h => by
    have ih := LawReader_readProduct_16_7_t (L := L) (xs := xs) hd rc42 hrc42   n
    refine ev_k (pc' := 11) (ls' := [(0, .inr (.inr (some 16))), (1, .inl (x1)), (2, .inl (x2))]) (st' := [.inl (240), .inl (x2)]) (nc' := 126) (np' := 138) (M' := M) 2 rfl ?_
    obtain ⟨hR, ⟨hc, h⟩ | ⟨hc, h⟩⟩ := c_ge_i h
    · refine ev_icmp 60 rfl hR.1 hR.2 (by decide) (fun _ => ?_) (fun q => absurd hc q)
      exact LawReader_readProduct_16_60_t hd rc42 hrc42    M r h
    · refine ev_icmp 60 rfl hR.1 hR.2 (by decide) (fun q => absurd q hc) (fun _ => ?_)
      refine ev_k (pc' := 15) (ls' := [(0, .inr (.inr (some 16))), (1, .inl (x1)), (2, .inl (x2))]) (st' := [.inr (.inr (some 16))]) (nc' := 126) (np' := 138) (M' := M) 1 rfl ?_
      obtain ⟨v1, hv, h⟩ := ob_i h
      refine ev_call (t := 37) (as := [.inr (.inr (some 16))]) (rest := []) rfl rfl rfl (by omega) (LawReader_here_16_e (by omega)  M _ hv) ?_
      refine ev_k (pc' := 18) (ls' := [(0, .inr (.inr (some 16))), (1, .inl (x1)), (2, .inl (x2))]) (st' := [.inl (v1)]) (nc' := 126) (np' := 138) (M' := M) 0 rfl ?_
      obtain ⟨v2, hv, h⟩ := ob_i h
      refine ev_call (t := 47) (as := [.inl (v1)]) (rest := []) rfl rfl rfl (by omega) (LawReader_isProductSign_e (by omega) (v1) M _ hv) ?_
      refine ev_k (pc' := 21) (ls' := [(0, .inr (.inr (some 16))), (1, .inl (x1)), (2, .inl (x2))]) (st' := [.inl (v2)]) (nc' := 126) (np' := 138) (M' := M) 0 rfl ?_
      obtain ⟨hR, ⟨hc, h⟩ | ⟨hc, h⟩⟩ := c_eq_i h
      · refine ev_ifc 60 rfl hR.1 (by decide) (fun _ => ?_) (fun q => absurd hc q)
        exact LawReader_readProduct_16_60_t hd rc42 hrc42    M r h
      · refine ev_ifc 60 rfl hR.1 (by decide) (fun q => absurd q hc) (fun _ => ?_)
        refine ev_k (pc' := 25) (ls' := [(0, .inr (.inr (some 16))), (1, .inl (x1)), (2, .inl (x2))]) (st' := [.inr (.inr (some 16))]) (nc' := 126) (np' := 138) (M' := M) 1 rfl ?_
        obtain ⟨v3, hv, h⟩ := ob_i h
        refine ev_call (t := 37) (as := [.inr (.inr (some 16))]) (rest := []) rfl rfl rfl (by omega) (LawReader_here_16_e (by omega)  M _ hv) ?_
        refine ev_k (pc' := 39) (ls' := [(3, .inl (v3)), (0, .inr (.inr (some 16))), (1, .inl (x1)), (2, .inl (x2))]) (st' := []) (nc' := 126) (np' := 138) (M' := am_up M 16 2 ((M 16 2) + (1))) 7 rfl ?_
        obtain ⟨M4, eM, h⟩ := fw_i h
        rw [← eM]
        refine ev_k (pc' := 41) (ls' := [(3, .inl (v3)), (0, .inr (.inr (some 16))), (1, .inl (x1)), (2, .inl (x2))]) (st' := [.inl (x1), .inr (.inr (some 16))]) (nc' := 126) (np' := 138) (M' := M4) 2 rfl ?_
        obtain ⟨M5, hv, h⟩ := ob_i h
        refine ev_call (t := 42) (as := [.inr (.inr (some 16)), .inl (x1)]) (rest := []) rfl rfl rfl (by omega) (hrc42 (x1) M4 _ hv) ?_
        refine ev_k (pc' := 50) (ls' := [(3, .inl (v3)), (0, .inr (.inr (some 16))), (1, .inl (x1)), (2, .inl (x2))]) (st' := [.inl (0), .inl (v3), .inr (.inr (some 17))]) (nc' := 126) (np' := 138) (M' := M5) 4 rfl ?_
        obtain ⟨v6, M7, hv, h⟩ := oc_i h
        refine ev_call (t := 46) (as := [.inr (.inr (some 17)), .inl (v3), .inl (0)]) (rest := []) rfl rfl rfl (by omega) (Law_emit_17_e (by omega) (v3) (0) M5 _ hv) ?_
        refine ev_k (pc' := 7) (ls' := [(0, .inr (.inr (some 16))), (1, .inl (x1)), (2, .inl ((x2) + (1)))]) (st' := []) (nc' := 126) (np' := 138) (M' := M7) 3 rfl ?_
        exact ih (x1) ((x2) + (1)) M7 r h
theorem LawReader_readProduct_16_e {L : Nat} {xs : Nat → Int} {d : Nat} (hd : 2 ≤ d) (rc42 : Int → am_M → Option am_M) (hrc42 : ∀ (a0 : Int) (M : am_M) (r : am_M), rc42 a0 M = some r → am_Ev L xs (d - 1) me_42 0 (am_ar1 0 [.inr (.inr (some 16)), .inl (a0)]) [] 126 138 M (none, 126, 138, r)) (x1 : Int) (M : am_M) (r : am_M) (h : LawReader_readProduct_16  rc42 x1 M = some r) : am_Ev L xs d me_41 0 (am_ar1 0 [.inr (.inr (some 16)), .inl (x1)]) [] 126 138 M (none, 126, 138, r) := by
  refine ev_k (pc' := 2) (ls' := [(0, .inr (.inr (some 16))), (1, .inl (x1))]) (st' := [.inl (x1), .inr (.inr (some 16))]) (nc' := 126) (np' := 138) (M' := M) 2 rfl ?_
  obtain ⟨M1, hv, h⟩ := ob_i h
  refine ev_call (t := 42) (as := [.inr (.inr (some 16)), .inl (x1)]) (rest := []) rfl rfl rfl (by omega) (hrc42 (x1) M _ hv) ?_
  refine ev_k (pc' := 7) (ls' := [(0, .inr (.inr (some 16))), (1, .inl (x1)), (2, .inl (0))]) (st' := []) (nc' := 126) (np' := 138) (M' := M1) 2 rfl ?_
  exact LawReader_readProduct_16_7_t hd rc42 hrc42   am_big (x1) (0) M1 r h
def Law_letterIndex    (x0 : Int) (M : am_M) : Option (Int) := ck (am_R (x0)) ((if (x0) = (97) then
       (some (2)) else
       (if (x0) = (102) then
       (some (5)) else
       (if (x0) = (107) then
       (some (0)) else
       (if (x0) = (113) then
       (some (4)) else
       (if (x0) = (116) then
       (some (3)) else
       (if (x0) = (119) then
       (some (1)) else
       (if (x0) = (121) then
       (some (6)) else
       (some (-1))))))))))
theorem Law_letterIndex_e {L : Nat} {xs : Nat → Int} {d : Nat} (hd : 0 ≤ d)   (x0 : Int) (M : am_M) (r : Int) (h : Law_letterIndex   x0 M = some r) : am_Ev L xs d me_45 0 (am_ar1 0 [.inl (x0)]) [] 126 138 M (some (.inl r), 126, 138, M) := by
  refine ev_k (pc' := 1) (ls' := [(0, .inl (x0))]) (st' := [.inl (x0)]) (nc' := 126) (np' := 138) (M' := M) 1 rfl ?_
  obtain ⟨hR, h⟩ := ck_i h
  rcases if_i h with ⟨hq, h⟩ | ⟨hq0, h⟩
  · refine ev_tsw 120 rfl hR (119) (Or.inr ⟨by rw [hq]; decide, by rw [hq]; rfl⟩) (by decide) ?_
    refine ev_k (pc' := 121) (ls' := [(0, .inl (x0))]) (st' := [.inl (2)]) (nc' := 126) (np' := 138) (M' := M) 1 rfl ?_
    cases h
    exact ev_ret rfl
  · skip
    rcases if_i h with ⟨hq, h⟩ | ⟨hq1, h⟩
    · refine ev_tsw 126 rfl hR (125) (Or.inr ⟨by rw [hq]; decide, by rw [hq]; rfl⟩) (by decide) ?_
      refine ev_k (pc' := 127) (ls' := [(0, .inl (x0))]) (st' := [.inl (5)]) (nc' := 126) (np' := 138) (M' := M) 1 rfl ?_
      cases h
      exact ev_ret rfl
    · skip
      rcases if_i h with ⟨hq, h⟩ | ⟨hq2, h⟩
      · refine ev_tsw 116 rfl hR (115) (Or.inr ⟨by rw [hq]; decide, by rw [hq]; rfl⟩) (by decide) ?_
        refine ev_k (pc' := 117) (ls' := [(0, .inl (x0))]) (st' := [.inl (0)]) (nc' := 126) (np' := 138) (M' := M) 1 rfl ?_
        cases h
        exact ev_ret rfl
      · skip
        rcases if_i h with ⟨hq, h⟩ | ⟨hq3, h⟩
        · refine ev_tsw 124 rfl hR (123) (Or.inr ⟨by rw [hq]; decide, by rw [hq]; rfl⟩) (by decide) ?_
          refine ev_k (pc' := 125) (ls' := [(0, .inl (x0))]) (st' := [.inl (4)]) (nc' := 126) (np' := 138) (M' := M) 1 rfl ?_
          cases h
          exact ev_ret rfl
        · skip
          rcases if_i h with ⟨hq, h⟩ | ⟨hq4, h⟩
          · refine ev_tsw 122 rfl hR (121) (Or.inr ⟨by rw [hq]; decide, by rw [hq]; rfl⟩) (by decide) ?_
            refine ev_k (pc' := 123) (ls' := [(0, .inl (x0))]) (st' := [.inl (3)]) (nc' := 126) (np' := 138) (M' := M) 1 rfl ?_
            cases h
            exact ev_ret rfl
          · skip
            rcases if_i h with ⟨hq, h⟩ | ⟨hq5, h⟩
            · refine ev_tsw 118 rfl hR (117) (Or.inr ⟨by rw [hq]; decide, by rw [hq]; rfl⟩) (by decide) ?_
              refine ev_k (pc' := 119) (ls' := [(0, .inl (x0))]) (st' := [.inl (1)]) (nc' := 126) (np' := 138) (M' := M) 1 rfl ?_
              cases h
              exact ev_ret rfl
            · skip
              rcases if_i h with ⟨hq, h⟩ | ⟨hq6, h⟩
              · refine ev_tsw 128 rfl hR (127) (Or.inr ⟨by rw [hq]; decide, by rw [hq]; rfl⟩) (by decide) ?_
                refine ev_k (pc' := 130) (ls' := [(0, .inl (x0))]) (st' := [.inl (6)]) (nc' := 126) (np' := 138) (M' := M) 1 rfl ?_
                cases h
                exact ev_ret rfl
              · skip
                have hho : ((x0) < 97 ∨ 121 < (x0)) ∨ ((x0) = 97 ∨ (x0) = 98 ∨ (x0) = 99 ∨ (x0) = 100 ∨ (x0) = 101 ∨ (x0) = 102 ∨ (x0) = 103 ∨ (x0) = 104 ∨ (x0) = 105 ∨ (x0) = 106 ∨ (x0) = 107 ∨ (x0) = 108 ∨ (x0) = 109 ∨ (x0) = 110 ∨ (x0) = 111 ∨ (x0) = 112 ∨ (x0) = 113 ∨ (x0) = 114 ∨ (x0) = 115 ∨ (x0) = 116 ∨ (x0) = 117 ∨ (x0) = 118 ∨ (x0) = 119 ∨ (x0) = 120 ∨ (x0) = 121) := by omega
                refine ev_tsw 131 rfl hR (130) ?_ (by decide) ?_
                · rcases hho with hho | hho
                  · exact Or.inl ⟨hho, rfl⟩
                  · rcases hho with hho | hho | hho | hho | hho | hho | hho | hho | hho | hho | hho | hho | hho | hho | hho | hho | hho | hho | hho | hho | hho | hho | hho | hho | hho
                    · exact absurd hho hq0
                    · exact Or.inr ⟨by rw [hho]; decide, by rw [hho]; rfl⟩
                    · exact Or.inr ⟨by rw [hho]; decide, by rw [hho]; rfl⟩
                    · exact Or.inr ⟨by rw [hho]; decide, by rw [hho]; rfl⟩
                    · exact Or.inr ⟨by rw [hho]; decide, by rw [hho]; rfl⟩
                    · exact absurd hho hq1
                    · exact Or.inr ⟨by rw [hho]; decide, by rw [hho]; rfl⟩
                    · exact Or.inr ⟨by rw [hho]; decide, by rw [hho]; rfl⟩
                    · exact Or.inr ⟨by rw [hho]; decide, by rw [hho]; rfl⟩
                    · exact Or.inr ⟨by rw [hho]; decide, by rw [hho]; rfl⟩
                    · exact absurd hho hq2
                    · exact Or.inr ⟨by rw [hho]; decide, by rw [hho]; rfl⟩
                    · exact Or.inr ⟨by rw [hho]; decide, by rw [hho]; rfl⟩
                    · exact Or.inr ⟨by rw [hho]; decide, by rw [hho]; rfl⟩
                    · exact Or.inr ⟨by rw [hho]; decide, by rw [hho]; rfl⟩
                    · exact Or.inr ⟨by rw [hho]; decide, by rw [hho]; rfl⟩
                    · exact absurd hho hq3
                    · exact Or.inr ⟨by rw [hho]; decide, by rw [hho]; rfl⟩
                    · exact Or.inr ⟨by rw [hho]; decide, by rw [hho]; rfl⟩
                    · exact absurd hho hq4
                    · exact Or.inr ⟨by rw [hho]; decide, by rw [hho]; rfl⟩
                    · exact Or.inr ⟨by rw [hho]; decide, by rw [hho]; rfl⟩
                    · exact absurd hho hq5
                    · exact Or.inr ⟨by rw [hho]; decide, by rw [hho]; rfl⟩
                    · exact absurd hho hq6
                · skip
                  refine ev_k (pc' := 132) (ls' := [(0, .inl (x0))]) (st' := [.inl (-1)]) (nc' := 126) (np' := 138) (M' := M) 1 rfl ?_
                  cases h
                  exact ev_ret rfl
def LawReader_fail_16_19     (M : am_M) : Option (am_M) := some (M)
def LawReader_fail_16    (x1 : Int) (M : am_M) : Option (am_M) := c_ne (M 16 3) (0)
       (LawReader_fail_16_19     M)
       (ob (P_faultAt (x1) (M 16 2) M) fun v1 => fw M 16 3 (v1) fun M2 => (LawReader_fail_16_19     M2))
theorem LawReader_fail_16_19_t {L : Nat} {xs : Nat → Int} {d : Nat} (hd : 1 ≤ d)      (M : am_M) (r : am_M) (h : LawReader_fail_16_19     M = some r) : am_Ev L xs d me_39 19 [] [] 126 138 M (none, 126, 138, r) := by
  refine ev_k (pc' := 19) (ls' := []) (st' := []) (nc' := 126) (np' := 138) (M' := M) 0 rfl ?_
  cases h
  exact ev_ret rfl
theorem LawReader_fail_16_e {L : Nat} {xs : Nat → Int} {d : Nat} (hd : 1 ≤ d)   (x1 : Int) (M : am_M) (r : am_M) (h : LawReader_fail_16   x1 M = some r) : am_Ev L xs d me_39 0 (am_ar1 0 [.inr (.inr (some 16)), .inl (x1)]) [] 126 138 M (none, 126, 138, r) := by
  refine ev_k (pc' := 4) (ls' := [(0, .inr (.inr (some 16))), (1, .inl (x1))]) (st' := [.inl (M 16 3)]) (nc' := 126) (np' := 138) (M' := M) 2 rfl ?_
  obtain ⟨hR, ⟨hc, h⟩ | ⟨hc, h⟩⟩ := c_ne_i h
  · refine ev_ifc 19 rfl hR.1 (by decide) (fun _ => ?_) (fun q => absurd hc q)
    exact LawReader_fail_16_19_t hd      M r h
  · refine ev_ifc 19 rfl hR.1 (by decide) (fun q => absurd q hc) (fun _ => ?_)
    refine ev_k (pc' := 13) (ls' := [(0, .inr (.inr (some 16))), (1, .inl (x1))]) (st' := [.inl (M 16 2), .inl (x1), .inr (.inr (some 16))]) (nc' := 126) (np' := 138) (M' := M) 4 rfl ?_
    obtain ⟨v1, hv, h⟩ := ob_i h
    refine ev_call (t := 24) (as := [.inl (x1), .inl (M 16 2)]) (rest := [.inr (.inr (some 16))]) rfl rfl rfl (by omega) (P_faultAt_e (by omega) (x1) (M 16 2) M _ hv) ?_
    refine ev_k (pc' := 19) (ls' := []) (st' := []) (nc' := 126) (np' := 138) (M' := am_up M 16 3 (v1)) 1 rfl ?_
    obtain ⟨M2, eM, h⟩ := fw_i h
    rw [← eM]
    exact LawReader_fail_16_19_t hd      M2 r h
def LawReader_opens_16    (x1 : Int) (M : am_M) : Option (Int × am_M) := c_lt (x1) (6)
       (fw M 16 2 ((M 16 2) + (1)) fun M1 => some (1, M1))
       (ob (LawReader_fail_16 (5) M) fun M2 => some (0, M2))
theorem LawReader_opens_16_e {L : Nat} {xs : Nat → Int} {d : Nat} (hd : 2 ≤ d)   (x1 : Int) (M : am_M) (r : Int × am_M) (h : LawReader_opens_16   x1 M = some r) : am_Ev L xs d me_43 0 (am_ar1 0 [.inr (.inr (some 16)), .inl (x1)]) [] 126 138 M (some (.inl r.1), 126, 138, r.2) := by
  refine ev_k (pc' := 3) (ls' := [(0, .inr (.inr (some 16))), (1, .inl (x1))]) (st' := [.inl (6), .inl (x1)]) (nc' := 126) (np' := 138) (M' := M) 2 rfl ?_
  obtain ⟨hR, ⟨hc, h⟩ | ⟨hc, h⟩⟩ := c_lt_i h
  · refine ev_icmp 13 rfl hR.1 hR.2 (by decide) (fun _ => ?_) (fun q => absurd hc q)
    refine ev_k (pc' := 23) (ls' := [(0, .inr (.inr (some 16))), (1, .inl (x1))]) (st' := []) (nc' := 126) (np' := 138) (M' := am_up M 16 2 ((M 16 2) + (1))) 6 rfl ?_
    obtain ⟨M1, eM, h⟩ := fw_i h
    rw [← eM]
    refine ev_k (pc' := 24) (ls' := [(0, .inr (.inr (some 16))), (1, .inl (x1))]) (st' := [.inl (1)]) (nc' := 126) (np' := 138) (M' := M1) 1 rfl ?_
    cases h
    exact ev_ret rfl
  · refine ev_icmp 13 rfl hR.1 hR.2 (by decide) (fun q => absurd q hc) (fun _ => ?_)
    refine ev_k (pc' := 8) (ls' := [(0, .inr (.inr (some 16))), (1, .inl (x1))]) (st' := [.inl (5), .inr (.inr (some 16))]) (nc' := 126) (np' := 138) (M' := M) 2 rfl ?_
    obtain ⟨M2, hv, h⟩ := ob_i h
    refine ev_call (t := 39) (as := [.inr (.inr (some 16)), .inl (5)]) (rest := []) rfl rfl rfl (by omega) (LawReader_fail_16_e (by omega) (5) M _ hv) ?_
    refine ev_k (pc' := 12) (ls' := [(0, .inr (.inr (some 16))), (1, .inl (x1))]) (st' := [.inl (0)]) (nc' := 126) (np' := 138) (M' := M2) 1 rfl ?_
    cases h
    exact ev_ret rfl
def LawReader_expect_16_26     (M : am_M) : Option (am_M) := some (M)
def LawReader_expect_16    (x1 : Int) (M : am_M) : Option (am_M) := ob (LawReader_here_16  M) fun v1 => c_ne (v1) (x1)
       (ob (LawReader_fail_16 (1) M) fun M2 => (LawReader_expect_16_26     M2))
       (fw M 16 2 ((M 16 2) + (1)) fun M3 => (LawReader_expect_16_26     M3))
theorem LawReader_expect_16_26_t {L : Nat} {xs : Nat → Int} {d : Nat} (hd : 2 ≤ d)      (M : am_M) (r : am_M) (h : LawReader_expect_16_26     M = some r) : am_Ev L xs d me_44 26 [] [] 126 138 M (none, 126, 138, r) := by
  refine ev_k (pc' := 26) (ls' := []) (st' := []) (nc' := 126) (np' := 138) (M' := M) 0 rfl ?_
  cases h
  exact ev_ret rfl
theorem LawReader_expect_16_e {L : Nat} {xs : Nat → Int} {d : Nat} (hd : 2 ≤ d)   (x1 : Int) (M : am_M) (r : am_M) (h : LawReader_expect_16   x1 M = some r) : am_Ev L xs d me_44 0 (am_ar1 0 [.inr (.inr (some 16)), .inl (x1)]) [] 126 138 M (none, 126, 138, r) := by
  refine ev_k (pc' := 1) (ls' := [(0, .inr (.inr (some 16))), (1, .inl (x1))]) (st' := [.inr (.inr (some 16))]) (nc' := 126) (np' := 138) (M' := M) 1 rfl ?_
  obtain ⟨v1, hv, h⟩ := ob_i h
  refine ev_call (t := 37) (as := [.inr (.inr (some 16))]) (rest := []) rfl rfl rfl (by omega) (LawReader_here_16_e (by omega)  M _ hv) ?_
  refine ev_k (pc' := 5) (ls' := [(0, .inr (.inr (some 16))), (1, .inl (x1))]) (st' := [.inl (x1), .inl (v1)]) (nc' := 126) (np' := 138) (M' := M) 1 rfl ?_
  obtain ⟨hR, ⟨hc, h⟩ | ⟨hc, h⟩⟩ := c_ne_i h
  · refine ev_icmp 21 rfl hR.1 hR.2 (by decide) (fun _ => ?_) (fun q => absurd hc q)
    refine ev_k (pc' := 23) (ls' := [(0, .inr (.inr (some 16))), (1, .inl (x1))]) (st' := [.inl (1), .inr (.inr (some 16))]) (nc' := 126) (np' := 138) (M' := M) 2 rfl ?_
    obtain ⟨M2, hv, h⟩ := ob_i h
    refine ev_call (t := 39) (as := [.inr (.inr (some 16)), .inl (1)]) (rest := []) rfl rfl rfl (by omega) (LawReader_fail_16_e (by omega) (1) M _ hv) ?_
    exact LawReader_expect_16_26_t hd      M2 r h
  · refine ev_icmp 21 rfl hR.1 hR.2 (by decide) (fun q => absurd q hc) (fun _ => ?_)
    refine ev_k (pc' := 18) (ls' := [(0, .inr (.inr (some 16))), (1, .inl (x1))]) (st' := []) (nc' := 126) (np' := 138) (M' := am_up M 16 2 ((M 16 2) + (1))) 6 rfl ?_
    obtain ⟨M3, eM, h⟩ := fw_i h
    rw [← eM]
    refine ev_k (pc' := 26) (ls' := []) (st' := []) (nc' := 126) (np' := 138) (M' := M3) 1 rfl ?_
    exact LawReader_expect_16_26_t hd      M3 r h
def LawReader_readFactor_16_158  (rc40 : Int → am_M → Option am_M)   (M : am_M) : Option (am_M) := some (M)
def LawReader_readFactor_16_140  (rc40 : Int → am_M → Option am_M)  (x3 : Int) (M : am_M) : Option (am_M) := oc (Law_emit_17 (0) (x3) M) fun v1 M2 => (LawReader_readFactor_16_158  rc40   M2)
def LawReader_readFactor_16_125  (rc40 : Int → am_M → Option am_M)  (x3 : Int) (M : am_M) : Option (am_M) := ob (LawReader_here_16  M) fun v1 => ob (P_isDigit (v1) M) fun v2 => c_eq (v2) (0)
       (LawReader_readFactor_16_140  rc40  (x3) M)
       (ob (LawReader_fail_16 (2) M) fun M3 => (LawReader_readFactor_16_140  rc40  (x3) M3))
def LawReader_readFactor_16_80  (rc40 : Int → am_M → Option am_M)  : Nat → Int → Int → am_M → Option (am_M)
  | 0, _, _, _ => none
  | n + 1, x3, x4, M => c_ge (x4) (5)
       (LawReader_readFactor_16_125  rc40  (x3) M)
       (ob (LawReader_here_16  M) fun v1 => ob (P_isDigit (v1) M) fun v2 => c_eq (v2) (0)
       (LawReader_readFactor_16_125  rc40  (x3) M)
       (ob (LawReader_here_16  M) fun v3 => fw M 16 2 ((M 16 2) + (1)) fun M4 => (LawReader_readFactor_16_80  rc40  n ((((10) * (x3)) + (v3)) - (48)) ((x4) + (1)) M4)))
def LawReader_readFactor_16  (rc40 : Int → am_M → Option am_M)  (x1 : Int) (M : am_M) : Option (am_M) := ob (LawReader_here_16  M) fun v1 => c_ne (v1) (91)
       (ob (Law_letterIndex (v1) M) fun v2 => c_lt (v2) (0)
       (ob (P_isDigit (v1) M) fun v3 => c_eq (v3) (0)
       (ob (LawReader_fail_16 (1) M) fun M4 => (LawReader_readFactor_16_158  rc40   M4))
       ((LawReader_readFactor_16_80  rc40  am_big (0) (0) M)))
       (ob (Law_letterIndex (v1) M) fun v5 => oc (Law_emit_17 (1) (v5) M) fun v6 M7 => fw M7 16 2 ((M7 16 2) + (1)) fun M8 => (LawReader_readFactor_16_158  rc40   M8)))
       (oc (LawReader_opens_16 (x1) M) fun v9 M10 => c_eq (v9) (0)
       (LawReader_readFactor_16_158  rc40   M10)
       (ob (rc40 ((x1) + (1)) M10) fun M11 => ob (LawReader_expect_16 (93) M11) fun M12 => (LawReader_readFactor_16_158  rc40   M12)))
theorem LawReader_readFactor_16_158_t {L : Nat} {xs : Nat → Int} {d : Nat} (hd : 3 ≤ d) (rc40 : Int → am_M → Option am_M) (hrc40 : ∀ (a0 : Int) (M : am_M) (r : am_M), rc40 a0 M = some r → am_Ev L xs (d - 1) me_40 0 (am_ar1 0 [.inr (.inr (some 16)), .inl (a0)]) [] 126 138 M (none, 126, 138, r))    (M : am_M) (r : am_M) (h : LawReader_readFactor_16_158  rc40   M = some r) : am_Ev L xs d me_42 158 [] [] 126 138 M (none, 126, 138, r) := by
  refine ev_k (pc' := 158) (ls' := []) (st' := []) (nc' := 126) (np' := 138) (M' := M) 0 rfl ?_
  cases h
  exact ev_ret rfl
theorem LawReader_readFactor_16_140_t {L : Nat} {xs : Nat → Int} {d : Nat} (hd : 3 ≤ d) (rc40 : Int → am_M → Option am_M) (hrc40 : ∀ (a0 : Int) (M : am_M) (r : am_M), rc40 a0 M = some r → am_Ev L xs (d - 1) me_40 0 (am_ar1 0 [.inr (.inr (some 16)), .inl (a0)]) [] 126 138 M (none, 126, 138, r))   (x3 : Int) (M : am_M) (r : am_M) (h : LawReader_readFactor_16_140  rc40  x3 M = some r) : am_Ev L xs d me_42 140 [(0, .inr (.inr (some 16))), (3, .inl (x3))] [] 126 138 M (none, 126, 138, r) := by
  refine ev_k (pc' := 146) (ls' := [(0, .inr (.inr (some 16))), (3, .inl (x3))]) (st' := [.inl (x3), .inl (0), .inr (.inr (some 17))]) (nc' := 126) (np' := 138) (M' := M) 4 rfl ?_
  obtain ⟨v1, M2, hv, h⟩ := oc_i h
  refine ev_call (t := 46) (as := [.inr (.inr (some 17)), .inl (0), .inl (x3)]) (rest := []) rfl rfl rfl (by omega) (Law_emit_17_e (by omega) (0) (x3) M _ hv) ?_
  refine ev_k (pc' := 158) (ls' := []) (st' := []) (nc' := 126) (np' := 138) (M' := M2) 2 rfl ?_
  exact LawReader_readFactor_16_158_t hd rc40 hrc40    M2 r h
theorem LawReader_readFactor_16_125_t {L : Nat} {xs : Nat → Int} {d : Nat} (hd : 3 ≤ d) (rc40 : Int → am_M → Option am_M) (hrc40 : ∀ (a0 : Int) (M : am_M) (r : am_M), rc40 a0 M = some r → am_Ev L xs (d - 1) me_40 0 (am_ar1 0 [.inr (.inr (some 16)), .inl (a0)]) [] 126 138 M (none, 126, 138, r))   (x3 : Int) (M : am_M) (r : am_M) (h : LawReader_readFactor_16_125  rc40  x3 M = some r) : am_Ev L xs d me_42 125 [(0, .inr (.inr (some 16))), (3, .inl (x3))] [] 126 138 M (none, 126, 138, r) := by
  refine ev_k (pc' := 126) (ls' := [(0, .inr (.inr (some 16))), (3, .inl (x3))]) (st' := [.inr (.inr (some 16))]) (nc' := 126) (np' := 138) (M' := M) 1 rfl ?_
  obtain ⟨v1, hv, h⟩ := ob_i h
  refine ev_call (t := 37) (as := [.inr (.inr (some 16))]) (rest := []) rfl rfl rfl (by omega) (LawReader_here_16_e (by omega)  M _ hv) ?_
  refine ev_k (pc' := 129) (ls' := [(0, .inr (.inr (some 16))), (3, .inl (x3))]) (st' := [.inl (v1)]) (nc' := 126) (np' := 138) (M' := M) 0 rfl ?_
  obtain ⟨v2, hv, h⟩ := ob_i h
  refine ev_call (t := 28) (as := [.inl (v1)]) (rest := []) rfl rfl rfl (by omega) (P_isDigit_e (by omega) (v1) M _ hv) ?_
  refine ev_k (pc' := 132) (ls' := [(0, .inr (.inr (some 16))), (3, .inl (x3))]) (st' := [.inl (v2)]) (nc' := 126) (np' := 138) (M' := M) 0 rfl ?_
  obtain ⟨hR, ⟨hc, h⟩ | ⟨hc, h⟩⟩ := c_eq_i h
  · refine ev_ifc 140 rfl hR.1 (by decide) (fun _ => ?_) (fun q => absurd hc q)
    exact LawReader_readFactor_16_140_t hd rc40 hrc40   (x3) M r h
  · refine ev_ifc 140 rfl hR.1 (by decide) (fun q => absurd q hc) (fun _ => ?_)
    refine ev_k (pc' := 137) (ls' := [(0, .inr (.inr (some 16))), (3, .inl (x3))]) (st' := [.inl (2), .inr (.inr (some 16))]) (nc' := 126) (np' := 138) (M' := M) 2 rfl ?_
    obtain ⟨M3, hv, h⟩ := ob_i h
    refine ev_call (t := 39) (as := [.inr (.inr (some 16)), .inl (2)]) (rest := []) rfl rfl rfl (by omega) (LawReader_fail_16_e (by omega) (2) M _ hv) ?_
    exact LawReader_readFactor_16_140_t hd rc40 hrc40   (x3) M3 r h
theorem LawReader_readFactor_16_80_t {L : Nat} {xs : Nat → Int} {d : Nat} (hd : 3 ≤ d) (rc40 : Int → am_M → Option am_M) (hrc40 : ∀ (a0 : Int) (M : am_M) (r : am_M), rc40 a0 M = some r → am_Ev L xs (d - 1) me_40 0 (am_ar1 0 [.inr (.inr (some 16)), .inl (a0)]) [] 126 138 M (none, 126, 138, r))   : ∀ (n : Nat) (x3 : Int) (x4 : Int) (M : am_M) (r : am_M), LawReader_readFactor_16_80  rc40  n x3 x4 M = some r → am_Ev L xs d me_42 80 [(0, .inr (.inr (some 16))), (3, .inl (x3)), (4, .inl (x4))] [] 126 138 M (none, 126, 138, r)
  | 0, _, _, M, r, h => by cases h
  | n + 1, x3, x4, M, r, h => by
    have ih := LawReader_readFactor_16_80_t (L := L) (xs := xs) hd rc40 hrc40   n
    refine ev_k (pc' := 83) (ls' := [(0, .inr (.inr (some 16))), (3, .inl (x3)), (4, .inl (x4))]) (st' := [.inl (5), .inl (x4)]) (nc' := 126) (np' := 138) (M' := M) 2 rfl ?_
    obtain ⟨hR, ⟨hc, h⟩ | ⟨hc, h⟩⟩ := c_ge_i h
    · refine ev_icmp 125 rfl hR.1 hR.2 (by decide) (fun _ => ?_) (fun q => absurd hc q)
      exact LawReader_readFactor_16_125_t hd rc40 hrc40   (x3) M r h
    · refine ev_icmp 125 rfl hR.1 hR.2 (by decide) (fun q => absurd q hc) (fun _ => ?_)
      refine ev_k (pc' := 87) (ls' := [(0, .inr (.inr (some 16))), (3, .inl (x3)), (4, .inl (x4))]) (st' := [.inr (.inr (some 16))]) (nc' := 126) (np' := 138) (M' := M) 1 rfl ?_
      obtain ⟨v1, hv, h⟩ := ob_i h
      refine ev_call (t := 37) (as := [.inr (.inr (some 16))]) (rest := []) rfl rfl rfl (by omega) (LawReader_here_16_e (by omega)  M _ hv) ?_
      refine ev_k (pc' := 90) (ls' := [(0, .inr (.inr (some 16))), (3, .inl (x3)), (4, .inl (x4))]) (st' := [.inl (v1)]) (nc' := 126) (np' := 138) (M' := M) 0 rfl ?_
      obtain ⟨v2, hv, h⟩ := ob_i h
      refine ev_call (t := 28) (as := [.inl (v1)]) (rest := []) rfl rfl rfl (by omega) (P_isDigit_e (by omega) (v1) M _ hv) ?_
      refine ev_k (pc' := 93) (ls' := [(0, .inr (.inr (some 16))), (3, .inl (x3)), (4, .inl (x4))]) (st' := [.inl (v2)]) (nc' := 126) (np' := 138) (M' := M) 0 rfl ?_
      obtain ⟨hR, ⟨hc, h⟩ | ⟨hc, h⟩⟩ := c_eq_i h
      · refine ev_ifc 125 rfl hR.1 (by decide) (fun _ => ?_) (fun q => absurd hc q)
        exact LawReader_readFactor_16_125_t hd rc40 hrc40   (x3) M r h
      · refine ev_ifc 125 rfl hR.1 (by decide) (fun q => absurd q hc) (fun _ => ?_)
        refine ev_k (pc' := 101) (ls' := [(0, .inr (.inr (some 16))), (3, .inl (x3)), (4, .inl (x4))]) (st' := [.inr (.inr (some 16)), .inl ((10) * (x3))]) (nc' := 126) (np' := 138) (M' := M) 4 rfl ?_
        obtain ⟨v3, hv, h⟩ := ob_i h
        refine ev_call (t := 37) (as := [.inr (.inr (some 16))]) (rest := [.inl ((10) * (x3))]) rfl rfl rfl (by omega) (LawReader_here_16_e (by omega)  M _ hv) ?_
        refine ev_k (pc' := 119) (ls' := [(3, .inl ((((10) * (x3)) + (v3)) - (48))), (0, .inr (.inr (some 16))), (4, .inl (x4))]) (st' := []) (nc' := 126) (np' := 138) (M' := am_up M 16 2 ((M 16 2) + (1))) 10 rfl ?_
        obtain ⟨M4, eM, h⟩ := fw_i h
        rw [← eM]
        refine ev_k (pc' := 80) (ls' := [(0, .inr (.inr (some 16))), (3, .inl ((((10) * (x3)) + (v3)) - (48))), (4, .inl ((x4) + (1)))]) (st' := []) (nc' := 126) (np' := 138) (M' := M4) 2 rfl ?_
        exact ih ((((10) * (x3)) + (v3)) - (48)) ((x4) + (1)) M4 r h
theorem LawReader_readFactor_16_e {L : Nat} {xs : Nat → Int} {d : Nat} (hd : 3 ≤ d) (rc40 : Int → am_M → Option am_M) (hrc40 : ∀ (a0 : Int) (M : am_M) (r : am_M), rc40 a0 M = some r → am_Ev L xs (d - 1) me_40 0 (am_ar1 0 [.inr (.inr (some 16)), .inl (a0)]) [] 126 138 M (none, 126, 138, r)) (x1 : Int) (M : am_M) (r : am_M) (h : LawReader_readFactor_16  rc40 x1 M = some r) : am_Ev L xs d me_42 0 (am_ar1 0 [.inr (.inr (some 16)), .inl (x1)]) [] 126 138 M (none, 126, 138, r) := by
  refine ev_k (pc' := 1) (ls' := [(0, .inr (.inr (some 16))), (1, .inl (x1))]) (st' := [.inr (.inr (some 16))]) (nc' := 126) (np' := 138) (M' := M) 1 rfl ?_
  obtain ⟨v1, hv, h⟩ := ob_i h
  refine ev_call (t := 37) (as := [.inr (.inr (some 16))]) (rest := []) rfl rfl rfl (by omega) (LawReader_here_16_e (by omega)  M _ hv) ?_
  refine ev_k (pc' := 8) (ls' := [(2, .inl (v1)), (0, .inr (.inr (some 16))), (1, .inl (x1))]) (st' := [.inl (91), .inl (v1)]) (nc' := 126) (np' := 138) (M' := M) 3 rfl ?_
  obtain ⟨hR, ⟨hc, h⟩ | ⟨hc, h⟩⟩ := c_ne_i h
  · refine ev_icmp 35 rfl hR.1 hR.2 (by decide) (fun _ => ?_) (fun q => absurd hc q)
    refine ev_k (pc' := 36) (ls' := [(2, .inl (v1)), (0, .inr (.inr (some 16))), (1, .inl (x1))]) (st' := [.inl (v1)]) (nc' := 126) (np' := 138) (M' := M) 1 rfl ?_
    obtain ⟨v2, hv, h⟩ := ob_i h
    refine ev_call (t := 45) (as := [.inl (v1)]) (rest := []) rfl rfl rfl (by omega) (Law_letterIndex_e (by omega) (v1) M _ hv) ?_
    refine ev_k (pc' := 39) (ls' := [(2, .inl (v1)), (0, .inr (.inr (some 16))), (1, .inl (x1))]) (st' := [.inl (v2)]) (nc' := 126) (np' := 138) (M' := M) 0 rfl ?_
    obtain ⟨hR, ⟨hc, h⟩ | ⟨hc, h⟩⟩ := c_lt_i h
    · refine ev_ifc 68 rfl hR.1 (by decide) (fun _ => ?_) (fun q => absurd hc q)
      refine ev_k (pc' := 69) (ls' := [(2, .inl (v1)), (0, .inr (.inr (some 16))), (1, .inl (x1))]) (st' := [.inl (v1)]) (nc' := 126) (np' := 138) (M' := M) 1 rfl ?_
      obtain ⟨v3, hv, h⟩ := ob_i h
      refine ev_call (t := 28) (as := [.inl (v1)]) (rest := []) rfl rfl rfl (by omega) (P_isDigit_e (by omega) (v1) M _ hv) ?_
      refine ev_k (pc' := 72) (ls' := [(2, .inl (v1)), (0, .inr (.inr (some 16))), (1, .inl (x1))]) (st' := [.inl (v3)]) (nc' := 126) (np' := 138) (M' := M) 0 rfl ?_
      obtain ⟨hR, ⟨hc, h⟩ | ⟨hc, h⟩⟩ := c_eq_i h
      · refine ev_ifc 153 rfl hR.1 (by decide) (fun _ => ?_) (fun q => absurd hc q)
        refine ev_k (pc' := 155) (ls' := [(2, .inl (v1)), (0, .inr (.inr (some 16))), (1, .inl (x1))]) (st' := [.inl (1), .inr (.inr (some 16))]) (nc' := 126) (np' := 138) (M' := M) 2 rfl ?_
        obtain ⟨M4, hv, h⟩ := ob_i h
        refine ev_call (t := 39) (as := [.inr (.inr (some 16)), .inl (1)]) (rest := []) rfl rfl rfl (by omega) (LawReader_fail_16_e (by omega) (1) M _ hv) ?_
        exact LawReader_readFactor_16_158_t hd rc40 hrc40    M4 r h
      · refine ev_ifc 153 rfl hR.1 (by decide) (fun q => absurd q hc) (fun _ => ?_)
        refine ev_k (pc' := 80) (ls' := [(0, .inr (.inr (some 16))), (3, .inl (0)), (4, .inl (0))]) (st' := []) (nc' := 126) (np' := 138) (M' := M) 4 rfl ?_
        exact LawReader_readFactor_16_80_t hd rc40 hrc40   am_big (0) (0) M r h
    · refine ev_ifc 68 rfl hR.1 (by decide) (fun q => absurd q hc) (fun _ => ?_)
      refine ev_k (pc' := 48) (ls' := [(2, .inl (v1)), (0, .inr (.inr (some 16))), (1, .inl (x1))]) (st' := [.inl (v1), .inl (1), .inr (.inr (some 17))]) (nc' := 126) (np' := 138) (M' := M) 4 rfl ?_
      obtain ⟨v5, hv, h⟩ := ob_i h
      refine ev_call (t := 45) (as := [.inl (v1)]) (rest := [.inl (1), .inr (.inr (some 17))]) rfl rfl rfl (by omega) (Law_letterIndex_e (by omega) (v1) M _ hv) ?_
      refine ev_k (pc' := 51) (ls' := [(2, .inl (v1)), (0, .inr (.inr (some 16))), (1, .inl (x1))]) (st' := [.inl (v5), .inl (1), .inr (.inr (some 17))]) (nc' := 126) (np' := 138) (M' := M) 0 rfl ?_
      obtain ⟨v6, M7, hv, h⟩ := oc_i h
      refine ev_call (t := 46) (as := [.inr (.inr (some 17)), .inl (1), .inl (v5)]) (rest := []) rfl rfl rfl (by omega) (Law_emit_17_e (by omega) (1) (v5) M _ hv) ?_
      refine ev_k (pc' := 65) (ls' := [(2, .inl (v1)), (0, .inr (.inr (some 16))), (1, .inl (x1))]) (st' := []) (nc' := 126) (np' := 138) (M' := am_up M7 16 2 ((M7 16 2) + (1))) 7 rfl ?_
      obtain ⟨M8, eM, h⟩ := fw_i h
      rw [← eM]
      refine ev_k (pc' := 158) (ls' := []) (st' := []) (nc' := 126) (np' := 138) (M' := M8) 1 rfl ?_
      exact LawReader_readFactor_16_158_t hd rc40 hrc40    M8 r h
  · refine ev_icmp 35 rfl hR.1 hR.2 (by decide) (fun q => absurd q hc) (fun _ => ?_)
    refine ev_k (pc' := 13) (ls' := [(2, .inl (v1)), (0, .inr (.inr (some 16))), (1, .inl (x1))]) (st' := [.inl (x1), .inr (.inr (some 16))]) (nc' := 126) (np' := 138) (M' := M) 2 rfl ?_
    obtain ⟨v9, M10, hv, h⟩ := oc_i h
    refine ev_call (t := 43) (as := [.inr (.inr (some 16)), .inl (x1)]) (rest := []) rfl rfl rfl (by omega) (LawReader_opens_16_e (by omega) (x1) M _ hv) ?_
    refine ev_k (pc' := 16) (ls' := [(2, .inl (v1)), (0, .inr (.inr (some 16))), (1, .inl (x1))]) (st' := [.inl (v9)]) (nc' := 126) (np' := 138) (M' := M10) 0 rfl ?_
    obtain ⟨hR, ⟨hc, h⟩ | ⟨hc, h⟩⟩ := c_eq_i h
    · refine ev_ifc 158 rfl hR.1 (by decide) (fun _ => ?_) (fun q => absurd hc q)
      exact LawReader_readFactor_16_158_t hd rc40 hrc40    M10 r h
    · refine ev_ifc 158 rfl hR.1 (by decide) (fun q => absurd q hc) (fun _ => ?_)
      refine ev_k (pc' := 23) (ls' := [(2, .inl (v1)), (0, .inr (.inr (some 16))), (1, .inl (x1))]) (st' := [.inl ((x1) + (1)), .inr (.inr (some 16))]) (nc' := 126) (np' := 138) (M' := M10) 4 rfl ?_
      obtain ⟨M11, hv, h⟩ := ob_i h
      refine ev_call (t := 40) (as := [.inr (.inr (some 16)), .inl ((x1) + (1))]) (rest := []) rfl rfl rfl (by omega) (hrc40 ((x1) + (1)) M10 _ hv) ?_
      refine ev_k (pc' := 29) (ls' := [(2, .inl (v1)), (0, .inr (.inr (some 16))), (1, .inl (x1))]) (st' := [.inl (93), .inr (.inr (some 16))]) (nc' := 126) (np' := 138) (M' := M11) 2 rfl ?_
      obtain ⟨M12, hv, h⟩ := ob_i h
      refine ev_call (t := 44) (as := [.inr (.inr (some 16)), .inl (93)]) (rest := []) rfl rfl rfl (by omega) (LawReader_expect_16_e (by omega) (93) M11 _ hv) ?_
      refine ev_k (pc' := 158) (ls' := []) (st' := []) (nc' := 126) (np' := 138) (M' := M12) 1 rfl ?_
      exact LawReader_readFactor_16_158_t hd rc40 hrc40    M12 r h
def K_LawReader_readSum_R : Nat → Nat → Int →  am_M → Option am_M
  | 0, _, _, _ => none
  | n + 1, w, a0, M => match w with
    | 0 => LawReader_readSum_16 (fun b0 M => K_LawReader_readSum_R n 1 b0 M) a0 M
    | 1 => LawReader_readProduct_16 (fun b0 M => K_LawReader_readSum_R n 2 b0 M) a0 M
    | _ => LawReader_readFactor_16 (fun b0 M => K_LawReader_readSum_R n 0 b0 M) a0 M
def K_LawReader_readSum (a0 : Int) (M : am_M) : Option am_M := K_LawReader_readSum_R 40 0 a0 M
def K_LawReader_readProduct (a0 : Int) (M : am_M) : Option am_M := K_LawReader_readSum_R 40 1 a0 M
def K_LawReader_readFactor (a0 : Int) (M : am_M) : Option am_M := K_LawReader_readSum_R 40 2 a0 M
theorem K_LawReader_readSum_R_all {L : Nat} {xs : Nat → Int} : ∀ n : Nat, (∀ (d : Nat), 3 + n ≤ d → ∀ (a0 : Int) (M : am_M) (r : am_M), K_LawReader_readSum_R n 0 a0 M = some r → am_Ev L xs d me_40 0 (am_ar1 0 [.inr (.inr (some 16)), .inl (a0)]) [] 126 138 M (none, 126, 138, r)) ∧ (∀ (d : Nat), 3 + n ≤ d → ∀ (a0 : Int) (M : am_M) (r : am_M), K_LawReader_readSum_R n 1 a0 M = some r → am_Ev L xs d me_41 0 (am_ar1 0 [.inr (.inr (some 16)), .inl (a0)]) [] 126 138 M (none, 126, 138, r)) ∧ (∀ (d : Nat), 3 + n ≤ d → ∀ (a0 : Int) (M : am_M) (r : am_M), K_LawReader_readSum_R n 2 a0 M = some r → am_Ev L xs d me_42 0 (am_ar1 0 [.inr (.inr (some 16)), .inl (a0)]) [] 126 138 M (none, 126, 138, r))
  | 0 => ⟨fun d hd a0 M r h => (by cases h), fun d hd a0 M r h => (by cases h), fun d hd a0 M r h => (by cases h)⟩
  | n + 1 => by
    have ih := K_LawReader_readSum_R_all (L := L) (xs := xs) n
    obtain ⟨ih40, ih41, ih42⟩ := ih
    exact ⟨fun d hd a0 M r h => LawReader_readSum_16_e (by omega) _ (ih41 (d - 1) (by omega)) a0 M r h, fun d hd a0 M r h => LawReader_readProduct_16_e (by omega) _ (ih42 (d - 1) (by omega)) a0 M r h, fun d hd a0 M r h => LawReader_readFactor_16_e (by omega) _ (ih40 (d - 1) (by omega)) a0 M r h⟩
theorem K_LawReader_readSum_e {L : Nat} {xs : Nat → Int} {d : Nat} (hd : 43 ≤ d) (a0 : Int) (M : am_M) (r : am_M) (h : K_LawReader_readSum a0 M = some r) : am_Ev L xs d me_40 0 (am_ar1 0 [.inr (.inr (some 16)), .inl (a0)]) [] 126 138 M (none, 126, 138, r) :=
  (K_LawReader_readSum_R_all (L := L) (xs := xs) 40).1 d (by omega) a0 M r h
theorem K_LawReader_readProduct_e {L : Nat} {xs : Nat → Int} {d : Nat} (hd : 43 ≤ d) (a0 : Int) (M : am_M) (r : am_M) (h : K_LawReader_readProduct a0 M = some r) : am_Ev L xs d me_41 0 (am_ar1 0 [.inr (.inr (some 16)), .inl (a0)]) [] 126 138 M (none, 126, 138, r) :=
  (K_LawReader_readSum_R_all (L := L) (xs := xs) 40).2.1 d (by omega) a0 M r h
theorem K_LawReader_readFactor_e {L : Nat} {xs : Nat → Int} {d : Nat} (hd : 43 ≤ d) (a0 : Int) (M : am_M) (r : am_M) (h : K_LawReader_readFactor a0 M = some r) : am_Ev L xs d me_42 0 (am_ar1 0 [.inr (.inr (some 16)), .inl (a0)]) [] 126 138 M (none, 126, 138, r) :=
  (K_LawReader_readSum_R_all (L := L) (xs := xs) 40).2.2 d (by omega) a0 M r h
def Law_setOperand_17_26     (M : am_M) : Option (am_M) := some (M)
def Law_setOperand_17    (x1 : Int) (x2 : Int) (M : am_M) : Option (am_M) := c_lt (x1) (0)
       (Law_setOperand_17_26     M)
       (c_ge (x1) (M 17 2)
       (Law_setOperand_17_26     M)
       (c_ge (x1) (240)
       (Law_setOperand_17_26     M)
       (wa M 19 240 (x1) (x2) fun M1 => (Law_setOperand_17_26     M1))))
theorem Law_setOperand_17_26_t {L : Nat} {xs : Nat → Int} {d : Nat} (hd : 0 ≤ d)      (M : am_M) (r : am_M) (h : Law_setOperand_17_26     M = some r) : am_Ev L xs d me_51 26 [] [] 126 138 M (none, 126, 138, r) := by
  refine ev_k (pc' := 26) (ls' := []) (st' := []) (nc' := 126) (np' := 138) (M' := M) 0 rfl ?_
  cases h
  exact ev_ret rfl
theorem Law_setOperand_17_e {L : Nat} {xs : Nat → Int} {d : Nat} (hd : 0 ≤ d)   (x1 : Int) (x2 : Int) (M : am_M) (r : am_M) (h : Law_setOperand_17   x1 x2 M = some r) : am_Ev L xs d me_51 0 (am_ar1 0 [.inr (.inr (some 17)), .inl (x1), .inl (x2)]) [] 126 138 M (none, 126, 138, r) := by
  refine ev_k (pc' := 1) (ls' := [(0, .inr (.inr (some 17))), (1, .inl (x1)), (2, .inl (x2))]) (st' := [.inl (x1)]) (nc' := 126) (np' := 138) (M' := M) 1 rfl ?_
  obtain ⟨hR, ⟨hc, h⟩ | ⟨hc, h⟩⟩ := c_lt_i h
  · refine ev_ifc 26 rfl hR.1 (by decide) (fun _ => ?_) (fun q => absurd hc q)
    exact Law_setOperand_17_26_t hd      M r h
  · refine ev_ifc 26 rfl hR.1 (by decide) (fun q => absurd q hc) (fun _ => ?_)
    refine ev_k (pc' := 9) (ls' := [(0, .inr (.inr (some 17))), (1, .inl (x1)), (2, .inl (x2))]) (st' := [.inl (M 17 2), .inl (x1)]) (nc' := 126) (np' := 138) (M' := M) 3 rfl ?_
    obtain ⟨hR, ⟨hc, h⟩ | ⟨hc, h⟩⟩ := c_ge_i h
    · refine ev_icmp 26 rfl hR.1 hR.2 (by decide) (fun _ => ?_) (fun q => absurd hc q)
      exact Law_setOperand_17_26_t hd      M r h
    · refine ev_icmp 26 rfl hR.1 hR.2 (by decide) (fun q => absurd q hc) (fun _ => ?_)
      refine ev_k (pc' := 16) (ls' := [(0, .inr (.inr (some 17))), (1, .inl (x1)), (2, .inl (x2))]) (st' := [.inl (240), .inl (x1)]) (nc' := 126) (np' := 138) (M' := M) 2 rfl ?_
      obtain ⟨hR, ⟨hc, h⟩ | ⟨hc, h⟩⟩ := c_ge_i h
      · refine ev_icmp 26 rfl hR.1 hR.2 (by decide) (fun _ => ?_) (fun q => absurd hc q)
        exact Law_setOperand_17_26_t hd      M r h
      · refine ev_icmp 26 rfl hR.1 hR.2 (by decide) (fun q => absurd q hc) (fun _ => ?_)
        refine ev_k (pc' := 25) (ls' := [(0, .inr (.inr (some 17))), (1, .inl (x1)), (2, .inl (x2))]) (st' := [.inl (x2), .inl (x1), .inr (.inr (some 19))]) (nc' := 126) (np' := 138) (M' := M) 4 rfl ?_
        obtain ⟨hc, M1, eM, h⟩ := wa_i h
        refine ev_iast (k := 19) rfl (by decide) rfl hc eM ?_
        exact Law_setOperand_17_26_t hd      M1 r h
def LawReader_readChoice_16_69  (rc49 : Int → am_M → Option am_M)   (M : am_M) : Option (am_M) := some (M)
def LawReader_readChoice_16_7  (rc49 : Int → am_M → Option am_M)  : Nat → Int → Int → am_M → Option (am_M)
  | 0, _, _, _ => none
  | n + 1, x1, x2, M => c_ge (x2) (240)
       (LawReader_readChoice_16_69  rc49   M)
       (ob (LawReader_here_16  M) fun v1 => c_ne (v1) (124)
       (LawReader_readChoice_16_69  rc49   M)
       (fw M 16 2 ((M 16 2) + (1)) fun M2 => oc (Law_emit_17 (3) (0) M2) fun v3 M4 => ob (rc49 (x1) M4) fun M5 => ob (Law_setOperand_17 (v3) (M5 17 2) M5) fun M6 => (LawReader_readChoice_16_7  rc49  n (x1) ((x2) + (1)) M6)))
def LawReader_readChoice_16  (rc49 : Int → am_M → Option am_M)  (x1 : Int) (M : am_M) : Option (am_M) := ob (rc49 (x1) M) fun M1 => (LawReader_readChoice_16_7  rc49  am_big (x1) (0) M1)
theorem LawReader_readChoice_16_69_t {L : Nat} {xs : Nat → Int} {d : Nat} (hd : 2 ≤ d) (rc49 : Int → am_M → Option am_M) (hrc49 : ∀ (a0 : Int) (M : am_M) (r : am_M), rc49 a0 M = some r → am_Ev L xs (d - 1) me_49 0 (am_ar1 0 [.inr (.inr (some 16)), .inl (a0)]) [] 126 138 M (none, 126, 138, r))    (M : am_M) (r : am_M) (h : LawReader_readChoice_16_69  rc49   M = some r) : am_Ev L xs d me_48 69 [] [] 126 138 M (none, 126, 138, r) := by
  refine ev_k (pc' := 69) (ls' := []) (st' := []) (nc' := 126) (np' := 138) (M' := M) 0 rfl ?_
  cases h
  exact ev_ret rfl
theorem LawReader_readChoice_16_7_t {L : Nat} {xs : Nat → Int} {d : Nat} (hd : 2 ≤ d) (rc49 : Int → am_M → Option am_M) (hrc49 : ∀ (a0 : Int) (M : am_M) (r : am_M), rc49 a0 M = some r → am_Ev L xs (d - 1) me_49 0 (am_ar1 0 [.inr (.inr (some 16)), .inl (a0)]) [] 126 138 M (none, 126, 138, r))   : ∀ (n : Nat) (x1 : Int) (x2 : Int) (M : am_M) (r : am_M), LawReader_readChoice_16_7  rc49  n x1 x2 M = some r → am_Ev L xs d me_48 7 [(0, .inr (.inr (some 16))), (1, .inl (x1)), (2, .inl (x2))] [] 126 138 M (none, 126, 138, r)
  | 0, _, _, M, r, h => by cases h
  | n + 1, x1, x2, M, r, h => by
    have ih := LawReader_readChoice_16_7_t (L := L) (xs := xs) hd rc49 hrc49   n
    refine ev_k (pc' := 11) (ls' := [(0, .inr (.inr (some 16))), (1, .inl (x1)), (2, .inl (x2))]) (st' := [.inl (240), .inl (x2)]) (nc' := 126) (np' := 138) (M' := M) 2 rfl ?_
    obtain ⟨hR, ⟨hc, h⟩ | ⟨hc, h⟩⟩ := c_ge_i h
    · refine ev_icmp 69 rfl hR.1 hR.2 (by decide) (fun _ => ?_) (fun q => absurd hc q)
      exact LawReader_readChoice_16_69_t hd rc49 hrc49    M r h
    · refine ev_icmp 69 rfl hR.1 hR.2 (by decide) (fun q => absurd q hc) (fun _ => ?_)
      refine ev_k (pc' := 15) (ls' := [(0, .inr (.inr (some 16))), (1, .inl (x1)), (2, .inl (x2))]) (st' := [.inr (.inr (some 16))]) (nc' := 126) (np' := 138) (M' := M) 1 rfl ?_
      obtain ⟨v1, hv, h⟩ := ob_i h
      refine ev_call (t := 37) (as := [.inr (.inr (some 16))]) (rest := []) rfl rfl rfl (by omega) (LawReader_here_16_e (by omega)  M _ hv) ?_
      refine ev_k (pc' := 20) (ls' := [(0, .inr (.inr (some 16))), (1, .inl (x1)), (2, .inl (x2))]) (st' := [.inl (124), .inl (v1)]) (nc' := 126) (np' := 138) (M' := M) 1 rfl ?_
      obtain ⟨hR, ⟨hc, h⟩ | ⟨hc, h⟩⟩ := c_ne_i h
      · refine ev_icmp 69 rfl hR.1 hR.2 (by decide) (fun _ => ?_) (fun q => absurd hc q)
        exact LawReader_readChoice_16_69_t hd rc49 hrc49    M r h
      · refine ev_icmp 69 rfl hR.1 hR.2 (by decide) (fun q => absurd q hc) (fun _ => ?_)
        refine ev_k (pc' := 33) (ls' := [(0, .inr (.inr (some 16))), (1, .inl (x1)), (2, .inl (x2))]) (st' := []) (nc' := 126) (np' := 138) (M' := am_up M 16 2 ((M 16 2) + (1))) 6 rfl ?_
        obtain ⟨M2, eM, h⟩ := fw_i h
        rw [← eM]
        refine ev_k (pc' := 39) (ls' := [(0, .inr (.inr (some 16))), (1, .inl (x1)), (2, .inl (x2))]) (st' := [.inl (0), .inl (3), .inr (.inr (some 17))]) (nc' := 126) (np' := 138) (M' := M2) 4 rfl ?_
        obtain ⟨v3, M4, hv, h⟩ := oc_i h
        refine ev_call (t := 46) (as := [.inr (.inr (some 17)), .inl (3), .inl (0)]) (rest := []) rfl rfl rfl (by omega) (Law_emit_17_e (by omega) (3) (0) M2 _ hv) ?_
        refine ev_k (pc' := 45) (ls' := [(3, .inl (v3)), (0, .inr (.inr (some 16))), (1, .inl (x1)), (2, .inl (x2))]) (st' := [.inl (x1), .inr (.inr (some 16))]) (nc' := 126) (np' := 138) (M' := M4) 3 rfl ?_
        obtain ⟨M5, hv, h⟩ := ob_i h
        refine ev_call (t := 49) (as := [.inr (.inr (some 16)), .inl (x1)]) (rest := []) rfl rfl rfl (by omega) (hrc49 (x1) M4 _ hv) ?_
        refine ev_k (pc' := 60) (ls' := [(3, .inl (v3)), (0, .inr (.inr (some 16))), (1, .inl (x1)), (2, .inl (x2))]) (st' := [.inl (M5 17 2), .inl (v3), .inr (.inr (some 17))]) (nc' := 126) (np' := 138) (M' := M5) 6 rfl ?_
        obtain ⟨M6, hv, h⟩ := ob_i h
        refine ev_call (t := 51) (as := [.inr (.inr (some 17)), .inl (v3), .inl (M5 17 2)]) (rest := []) rfl rfl rfl (by omega) (Law_setOperand_17_e (by omega) (v3) (M5 17 2) M5 _ hv) ?_
        refine ev_k (pc' := 7) (ls' := [(0, .inr (.inr (some 16))), (1, .inl (x1)), (2, .inl ((x2) + (1)))]) (st' := []) (nc' := 126) (np' := 138) (M' := M6) 2 rfl ?_
        exact ih (x1) ((x2) + (1)) M6 r h
theorem LawReader_readChoice_16_e {L : Nat} {xs : Nat → Int} {d : Nat} (hd : 2 ≤ d) (rc49 : Int → am_M → Option am_M) (hrc49 : ∀ (a0 : Int) (M : am_M) (r : am_M), rc49 a0 M = some r → am_Ev L xs (d - 1) me_49 0 (am_ar1 0 [.inr (.inr (some 16)), .inl (a0)]) [] 126 138 M (none, 126, 138, r)) (x1 : Int) (M : am_M) (r : am_M) (h : LawReader_readChoice_16  rc49 x1 M = some r) : am_Ev L xs d me_48 0 (am_ar1 0 [.inr (.inr (some 16)), .inl (x1)]) [] 126 138 M (none, 126, 138, r) := by
  refine ev_k (pc' := 2) (ls' := [(0, .inr (.inr (some 16))), (1, .inl (x1))]) (st' := [.inl (x1), .inr (.inr (some 16))]) (nc' := 126) (np' := 138) (M' := M) 2 rfl ?_
  obtain ⟨M1, hv, h⟩ := ob_i h
  refine ev_call (t := 49) (as := [.inr (.inr (some 16)), .inl (x1)]) (rest := []) rfl rfl rfl (by omega) (hrc49 (x1) M _ hv) ?_
  refine ev_k (pc' := 7) (ls' := [(0, .inr (.inr (some 16))), (1, .inl (x1)), (2, .inl (0))]) (st' := []) (nc' := 126) (np' := 138) (M' := M1) 2 rfl ?_
  exact LawReader_readChoice_16_7_t hd rc49 hrc49   am_big (x1) (0) M1 r h
def LawReader_readAll_16_69  (rc50 : Int → am_M → Option am_M)   (M : am_M) : Option (am_M) := some (M)
def LawReader_readAll_16_7  (rc50 : Int → am_M → Option am_M)  : Nat → Int → Int → am_M → Option (am_M)
  | 0, _, _, _ => none
  | n + 1, x1, x2, M => c_ge (x2) (240)
       (LawReader_readAll_16_69  rc50   M)
       (ob (LawReader_here_16  M) fun v1 => c_ne (v1) (38)
       (LawReader_readAll_16_69  rc50   M)
       (fw M 16 2 ((M 16 2) + (1)) fun M2 => oc (Law_emit_17 (4) (0) M2) fun v3 M4 => ob (rc50 (x1) M4) fun M5 => ob (Law_setOperand_17 (v3) (M5 17 2) M5) fun M6 => (LawReader_readAll_16_7  rc50  n (x1) ((x2) + (1)) M6)))
def LawReader_readAll_16  (rc50 : Int → am_M → Option am_M)  (x1 : Int) (M : am_M) : Option (am_M) := ob (rc50 (x1) M) fun M1 => (LawReader_readAll_16_7  rc50  am_big (x1) (0) M1)
theorem LawReader_readAll_16_69_t {L : Nat} {xs : Nat → Int} {d : Nat} (hd : 2 ≤ d) (rc50 : Int → am_M → Option am_M) (hrc50 : ∀ (a0 : Int) (M : am_M) (r : am_M), rc50 a0 M = some r → am_Ev L xs (d - 1) me_50 0 (am_ar1 0 [.inr (.inr (some 16)), .inl (a0)]) [] 126 138 M (none, 126, 138, r))    (M : am_M) (r : am_M) (h : LawReader_readAll_16_69  rc50   M = some r) : am_Ev L xs d me_49 69 [] [] 126 138 M (none, 126, 138, r) := by
  refine ev_k (pc' := 69) (ls' := []) (st' := []) (nc' := 126) (np' := 138) (M' := M) 0 rfl ?_
  cases h
  exact ev_ret rfl
theorem LawReader_readAll_16_7_t {L : Nat} {xs : Nat → Int} {d : Nat} (hd : 2 ≤ d) (rc50 : Int → am_M → Option am_M) (hrc50 : ∀ (a0 : Int) (M : am_M) (r : am_M), rc50 a0 M = some r → am_Ev L xs (d - 1) me_50 0 (am_ar1 0 [.inr (.inr (some 16)), .inl (a0)]) [] 126 138 M (none, 126, 138, r))   : ∀ (n : Nat) (x1 : Int) (x2 : Int) (M : am_M) (r : am_M), LawReader_readAll_16_7  rc50  n x1 x2 M = some r → am_Ev L xs d me_49 7 [(0, .inr (.inr (some 16))), (1, .inl (x1)), (2, .inl (x2))] [] 126 138 M (none, 126, 138, r)
  | 0, _, _, M, r, h => by cases h
  | n + 1, x1, x2, M, r, h => by
    have ih := LawReader_readAll_16_7_t (L := L) (xs := xs) hd rc50 hrc50   n
    refine ev_k (pc' := 11) (ls' := [(0, .inr (.inr (some 16))), (1, .inl (x1)), (2, .inl (x2))]) (st' := [.inl (240), .inl (x2)]) (nc' := 126) (np' := 138) (M' := M) 2 rfl ?_
    obtain ⟨hR, ⟨hc, h⟩ | ⟨hc, h⟩⟩ := c_ge_i h
    · refine ev_icmp 69 rfl hR.1 hR.2 (by decide) (fun _ => ?_) (fun q => absurd hc q)
      exact LawReader_readAll_16_69_t hd rc50 hrc50    M r h
    · refine ev_icmp 69 rfl hR.1 hR.2 (by decide) (fun q => absurd q hc) (fun _ => ?_)
      refine ev_k (pc' := 15) (ls' := [(0, .inr (.inr (some 16))), (1, .inl (x1)), (2, .inl (x2))]) (st' := [.inr (.inr (some 16))]) (nc' := 126) (np' := 138) (M' := M) 1 rfl ?_
      obtain ⟨v1, hv, h⟩ := ob_i h
      refine ev_call (t := 37) (as := [.inr (.inr (some 16))]) (rest := []) rfl rfl rfl (by omega) (LawReader_here_16_e (by omega)  M _ hv) ?_
      refine ev_k (pc' := 20) (ls' := [(0, .inr (.inr (some 16))), (1, .inl (x1)), (2, .inl (x2))]) (st' := [.inl (38), .inl (v1)]) (nc' := 126) (np' := 138) (M' := M) 1 rfl ?_
      obtain ⟨hR, ⟨hc, h⟩ | ⟨hc, h⟩⟩ := c_ne_i h
      · refine ev_icmp 69 rfl hR.1 hR.2 (by decide) (fun _ => ?_) (fun q => absurd hc q)
        exact LawReader_readAll_16_69_t hd rc50 hrc50    M r h
      · refine ev_icmp 69 rfl hR.1 hR.2 (by decide) (fun q => absurd q hc) (fun _ => ?_)
        refine ev_k (pc' := 33) (ls' := [(0, .inr (.inr (some 16))), (1, .inl (x1)), (2, .inl (x2))]) (st' := []) (nc' := 126) (np' := 138) (M' := am_up M 16 2 ((M 16 2) + (1))) 6 rfl ?_
        obtain ⟨M2, eM, h⟩ := fw_i h
        rw [← eM]
        refine ev_k (pc' := 39) (ls' := [(0, .inr (.inr (some 16))), (1, .inl (x1)), (2, .inl (x2))]) (st' := [.inl (0), .inl (4), .inr (.inr (some 17))]) (nc' := 126) (np' := 138) (M' := M2) 4 rfl ?_
        obtain ⟨v3, M4, hv, h⟩ := oc_i h
        refine ev_call (t := 46) (as := [.inr (.inr (some 17)), .inl (4), .inl (0)]) (rest := []) rfl rfl rfl (by omega) (Law_emit_17_e (by omega) (4) (0) M2 _ hv) ?_
        refine ev_k (pc' := 45) (ls' := [(3, .inl (v3)), (0, .inr (.inr (some 16))), (1, .inl (x1)), (2, .inl (x2))]) (st' := [.inl (x1), .inr (.inr (some 16))]) (nc' := 126) (np' := 138) (M' := M4) 3 rfl ?_
        obtain ⟨M5, hv, h⟩ := ob_i h
        refine ev_call (t := 50) (as := [.inr (.inr (some 16)), .inl (x1)]) (rest := []) rfl rfl rfl (by omega) (hrc50 (x1) M4 _ hv) ?_
        refine ev_k (pc' := 60) (ls' := [(3, .inl (v3)), (0, .inr (.inr (some 16))), (1, .inl (x1)), (2, .inl (x2))]) (st' := [.inl (M5 17 2), .inl (v3), .inr (.inr (some 17))]) (nc' := 126) (np' := 138) (M' := M5) 6 rfl ?_
        obtain ⟨M6, hv, h⟩ := ob_i h
        refine ev_call (t := 51) (as := [.inr (.inr (some 17)), .inl (v3), .inl (M5 17 2)]) (rest := []) rfl rfl rfl (by omega) (Law_setOperand_17_e (by omega) (v3) (M5 17 2) M5 _ hv) ?_
        refine ev_k (pc' := 7) (ls' := [(0, .inr (.inr (some 16))), (1, .inl (x1)), (2, .inl ((x2) + (1)))]) (st' := []) (nc' := 126) (np' := 138) (M' := M6) 2 rfl ?_
        exact ih (x1) ((x2) + (1)) M6 r h
theorem LawReader_readAll_16_e {L : Nat} {xs : Nat → Int} {d : Nat} (hd : 2 ≤ d) (rc50 : Int → am_M → Option am_M) (hrc50 : ∀ (a0 : Int) (M : am_M) (r : am_M), rc50 a0 M = some r → am_Ev L xs (d - 1) me_50 0 (am_ar1 0 [.inr (.inr (some 16)), .inl (a0)]) [] 126 138 M (none, 126, 138, r)) (x1 : Int) (M : am_M) (r : am_M) (h : LawReader_readAll_16  rc50 x1 M = some r) : am_Ev L xs d me_49 0 (am_ar1 0 [.inr (.inr (some 16)), .inl (x1)]) [] 126 138 M (none, 126, 138, r) := by
  refine ev_k (pc' := 2) (ls' := [(0, .inr (.inr (some 16))), (1, .inl (x1))]) (st' := [.inl (x1), .inr (.inr (some 16))]) (nc' := 126) (np' := 138) (M' := M) 2 rfl ?_
  obtain ⟨M1, hv, h⟩ := ob_i h
  refine ev_call (t := 50) (as := [.inr (.inr (some 16)), .inl (x1)]) (rest := []) rfl rfl rfl (by omega) (hrc50 (x1) M _ hv) ?_
  refine ev_k (pc' := 7) (ls' := [(0, .inr (.inr (some 16))), (1, .inl (x1)), (2, .inl (0))]) (st' := []) (nc' := 126) (np' := 138) (M' := M1) 2 rfl ?_
  exact LawReader_readAll_16_7_t hd rc50 hrc50   am_big (x1) (0) M1 r h
def LawReader_readTest_16_130  (rc48 : Int → am_M → Option am_M) (rc50 : Int → am_M → Option am_M)   (M : am_M) : Option (am_M) := some (M)
def LawReader_readTest_16_97  (rc48 : Int → am_M → Option am_M) (rc50 : Int → am_M → Option am_M)  (x1 : Int) (x3 : Int) (M : am_M) : Option (am_M) := fw M 16 2 ((M 16 2) + (1)) fun M1 => ob (K_LawReader_readSum (x1) M1) fun M2 => oc (Law_emit_17 (x3) (0) M2) fun v3 M4 => (LawReader_readTest_16_130  rc48 rc50   M4)
def LawReader_readTest_16  (rc48 : Int → am_M → Option am_M) (rc50 : Int → am_M → Option am_M)  (x1 : Int) (M : am_M) : Option (am_M) := ob (LawReader_here_16  M) fun v1 => c_ne (v1) (33)
       (c_ne (v1) (40)
       (ob (K_LawReader_readSum (x1) M) fun M2 => ob (LawReader_here_16  M2) fun v3 => c_eq (v3) (60)
       (LawReader_readTest_16_97  rc48 rc50  (x1) (v3) M2)
       (c_eq (v3) (62)
       (LawReader_readTest_16_97  rc48 rc50  (x1) (v3) M2)
       (c_ne (v3) (61)
       (ob (LawReader_fail_16 (1) M2) fun M4 => (LawReader_readTest_16_130  rc48 rc50   M4))
       (LawReader_readTest_16_97  rc48 rc50  (x1) (v3) M2))))
       (oc (LawReader_opens_16 (x1) M) fun v5 M6 => c_eq (v5) (0)
       (LawReader_readTest_16_130  rc48 rc50   M6)
       (ob (rc48 ((x1) + (1)) M6) fun M7 => ob (LawReader_expect_16 (41) M7) fun M8 => (LawReader_readTest_16_130  rc48 rc50   M8))))
       (oc (LawReader_opens_16 (x1) M) fun v9 M10 => c_eq (v9) (0)
       (LawReader_readTest_16_130  rc48 rc50   M10)
       (ob (rc50 ((x1) + (1)) M10) fun M11 => oc (Law_emit_17 (2) (0) M11) fun v12 M13 => (LawReader_readTest_16_130  rc48 rc50   M13)))
theorem LawReader_readTest_16_130_t {L : Nat} {xs : Nat → Int} {d : Nat} (hd : 44 ≤ d) (rc48 : Int → am_M → Option am_M) (rc50 : Int → am_M → Option am_M) (hrc48 : ∀ (a0 : Int) (M : am_M) (r : am_M), rc48 a0 M = some r → am_Ev L xs (d - 1) me_48 0 (am_ar1 0 [.inr (.inr (some 16)), .inl (a0)]) [] 126 138 M (none, 126, 138, r)) (hrc50 : ∀ (a0 : Int) (M : am_M) (r : am_M), rc50 a0 M = some r → am_Ev L xs (d - 1) me_50 0 (am_ar1 0 [.inr (.inr (some 16)), .inl (a0)]) [] 126 138 M (none, 126, 138, r))    (M : am_M) (r : am_M) (h : LawReader_readTest_16_130  rc48 rc50   M = some r) : am_Ev L xs d me_50 130 [] [] 126 138 M (none, 126, 138, r) := by
  refine ev_k (pc' := 130) (ls' := []) (st' := []) (nc' := 126) (np' := 138) (M' := M) 0 rfl ?_
  cases h
  exact ev_ret rfl
theorem LawReader_readTest_16_97_t {L : Nat} {xs : Nat → Int} {d : Nat} (hd : 44 ≤ d) (rc48 : Int → am_M → Option am_M) (rc50 : Int → am_M → Option am_M) (hrc48 : ∀ (a0 : Int) (M : am_M) (r : am_M), rc48 a0 M = some r → am_Ev L xs (d - 1) me_48 0 (am_ar1 0 [.inr (.inr (some 16)), .inl (a0)]) [] 126 138 M (none, 126, 138, r)) (hrc50 : ∀ (a0 : Int) (M : am_M) (r : am_M), rc50 a0 M = some r → am_Ev L xs (d - 1) me_50 0 (am_ar1 0 [.inr (.inr (some 16)), .inl (a0)]) [] 126 138 M (none, 126, 138, r))   (x1 : Int) (x3 : Int) (M : am_M) (r : am_M) (h : LawReader_readTest_16_97  rc48 rc50  x1 x3 M = some r) : am_Ev L xs d me_50 97 [(0, .inr (.inr (some 16))), (1, .inl (x1)), (3, .inl (x3))] [] 126 138 M (none, 126, 138, r) := by
  refine ev_k (pc' := 107) (ls' := [(0, .inr (.inr (some 16))), (1, .inl (x1)), (3, .inl (x3))]) (st' := []) (nc' := 126) (np' := 138) (M' := am_up M 16 2 ((M 16 2) + (1))) 6 rfl ?_
  obtain ⟨M1, eM, h⟩ := fw_i h
  rw [← eM]
  refine ev_k (pc' := 109) (ls' := [(0, .inr (.inr (some 16))), (1, .inl (x1)), (3, .inl (x3))]) (st' := [.inl (x1), .inr (.inr (some 16))]) (nc' := 126) (np' := 138) (M' := M1) 2 rfl ?_
  obtain ⟨M2, hv, h⟩ := ob_i h
  refine ev_call (t := 40) (as := [.inr (.inr (some 16)), .inl (x1)]) (rest := []) rfl rfl rfl (by omega) (K_LawReader_readSum_e (by omega) (x1) M1 _ hv) ?_
  refine ev_k (pc' := 118) (ls' := [(0, .inr (.inr (some 16))), (1, .inl (x1)), (3, .inl (x3))]) (st' := [.inl (0), .inl (x3), .inr (.inr (some 17))]) (nc' := 126) (np' := 138) (M' := M2) 4 rfl ?_
  obtain ⟨v3, M4, hv, h⟩ := oc_i h
  refine ev_call (t := 46) (as := [.inr (.inr (some 17)), .inl (x3), .inl (0)]) (rest := []) rfl rfl rfl (by omega) (Law_emit_17_e (by omega) (x3) (0) M2 _ hv) ?_
  refine ev_k (pc' := 130) (ls' := []) (st' := []) (nc' := 126) (np' := 138) (M' := M4) 2 rfl ?_
  exact LawReader_readTest_16_130_t hd rc48 rc50 hrc48 hrc50    M4 r h
theorem LawReader_readTest_16_e {L : Nat} {xs : Nat → Int} {d : Nat} (hd : 44 ≤ d) (rc48 : Int → am_M → Option am_M) (rc50 : Int → am_M → Option am_M) (hrc48 : ∀ (a0 : Int) (M : am_M) (r : am_M), rc48 a0 M = some r → am_Ev L xs (d - 1) me_48 0 (am_ar1 0 [.inr (.inr (some 16)), .inl (a0)]) [] 126 138 M (none, 126, 138, r)) (hrc50 : ∀ (a0 : Int) (M : am_M) (r : am_M), rc50 a0 M = some r → am_Ev L xs (d - 1) me_50 0 (am_ar1 0 [.inr (.inr (some 16)), .inl (a0)]) [] 126 138 M (none, 126, 138, r)) (x1 : Int) (M : am_M) (r : am_M) (h : LawReader_readTest_16  rc48 rc50 x1 M = some r) : am_Ev L xs d me_50 0 (am_ar1 0 [.inr (.inr (some 16)), .inl (x1)]) [] 126 138 M (none, 126, 138, r) := by
  refine ev_k (pc' := 1) (ls' := [(0, .inr (.inr (some 16))), (1, .inl (x1))]) (st' := [.inr (.inr (some 16))]) (nc' := 126) (np' := 138) (M' := M) 1 rfl ?_
  obtain ⟨v1, hv, h⟩ := ob_i h
  refine ev_call (t := 37) (as := [.inr (.inr (some 16))]) (rest := []) rfl rfl rfl (by omega) (LawReader_here_16_e (by omega)  M _ hv) ?_
  refine ev_k (pc' := 8) (ls' := [(2, .inl (v1)), (0, .inr (.inr (some 16))), (1, .inl (x1))]) (st' := [.inl (33), .inl (v1)]) (nc' := 126) (np' := 138) (M' := M) 3 rfl ?_
  obtain ⟨hR, ⟨hc, h⟩ | ⟨hc, h⟩⟩ := c_ne_i h
  · refine ev_icmp 39 rfl hR.1 hR.2 (by decide) (fun _ => ?_) (fun q => absurd hc q)
    refine ev_k (pc' := 42) (ls' := [(2, .inl (v1)), (0, .inr (.inr (some 16))), (1, .inl (x1))]) (st' := [.inl (40), .inl (v1)]) (nc' := 126) (np' := 138) (M' := M) 2 rfl ?_
    obtain ⟨hR, ⟨hc, h⟩ | ⟨hc, h⟩⟩ := c_ne_i h
    · refine ev_icmp 69 rfl hR.1 hR.2 (by decide) (fun _ => ?_) (fun q => absurd hc q)
      refine ev_k (pc' := 71) (ls' := [(2, .inl (v1)), (0, .inr (.inr (some 16))), (1, .inl (x1))]) (st' := [.inl (x1), .inr (.inr (some 16))]) (nc' := 126) (np' := 138) (M' := M) 2 rfl ?_
      obtain ⟨M2, hv, h⟩ := ob_i h
      refine ev_call (t := 40) (as := [.inr (.inr (some 16)), .inl (x1)]) (rest := []) rfl rfl rfl (by omega) (K_LawReader_readSum_e (by omega) (x1) M _ hv) ?_
      refine ev_k (pc' := 75) (ls' := [(2, .inl (v1)), (0, .inr (.inr (some 16))), (1, .inl (x1))]) (st' := [.inr (.inr (some 16))]) (nc' := 126) (np' := 138) (M' := M2) 1 rfl ?_
      obtain ⟨v3, hv, h⟩ := ob_i h
      refine ev_call (t := 37) (as := [.inr (.inr (some 16))]) (rest := []) rfl rfl rfl (by omega) (LawReader_here_16_e (by omega)  M2 _ hv) ?_
      refine ev_k (pc' := 82) (ls' := [(3, .inl (v3)), (2, .inl (v1)), (0, .inr (.inr (some 16))), (1, .inl (x1))]) (st' := [.inl (60), .inl (v3)]) (nc' := 126) (np' := 138) (M' := M2) 3 rfl ?_
      obtain ⟨hR, ⟨hc, h⟩ | ⟨hc, h⟩⟩ := c_eq_i h
      · refine ev_icmp 97 rfl hR.1 hR.2 (by decide) (fun _ => ?_) (fun q => absurd hc q)
        exact LawReader_readTest_16_97_t hd rc48 rc50 hrc48 hrc50   (x1) (v3) M2 r h
      · refine ev_icmp 97 rfl hR.1 hR.2 (by decide) (fun q => absurd q hc) (fun _ => ?_)
        refine ev_k (pc' := 88) (ls' := [(3, .inl (v3)), (2, .inl (v1)), (0, .inr (.inr (some 16))), (1, .inl (x1))]) (st' := [.inl (62), .inl (v3)]) (nc' := 126) (np' := 138) (M' := M2) 2 rfl ?_
        obtain ⟨hR, ⟨hc, h⟩ | ⟨hc, h⟩⟩ := c_eq_i h
        · refine ev_icmp 97 rfl hR.1 hR.2 (by decide) (fun _ => ?_) (fun q => absurd hc q)
          exact LawReader_readTest_16_97_t hd rc48 rc50 hrc48 hrc50   (x1) (v3) M2 r h
        · refine ev_icmp 97 rfl hR.1 hR.2 (by decide) (fun q => absurd q hc) (fun _ => ?_)
          refine ev_k (pc' := 94) (ls' := [(3, .inl (v3)), (2, .inl (v1)), (0, .inr (.inr (some 16))), (1, .inl (x1))]) (st' := [.inl (61), .inl (v3)]) (nc' := 126) (np' := 138) (M' := M2) 2 rfl ?_
          obtain ⟨hR, ⟨hc, h⟩ | ⟨hc, h⟩⟩ := c_ne_i h
          · refine ev_icmp 125 rfl hR.1 hR.2 (by decide) (fun _ => ?_) (fun q => absurd hc q)
            refine ev_k (pc' := 127) (ls' := [(3, .inl (v3)), (2, .inl (v1)), (0, .inr (.inr (some 16))), (1, .inl (x1))]) (st' := [.inl (1), .inr (.inr (some 16))]) (nc' := 126) (np' := 138) (M' := M2) 2 rfl ?_
            obtain ⟨M4, hv, h⟩ := ob_i h
            refine ev_call (t := 39) (as := [.inr (.inr (some 16)), .inl (1)]) (rest := []) rfl rfl rfl (by omega) (LawReader_fail_16_e (by omega) (1) M2 _ hv) ?_
            exact LawReader_readTest_16_130_t hd rc48 rc50 hrc48 hrc50    M4 r h
          · refine ev_icmp 125 rfl hR.1 hR.2 (by decide) (fun q => absurd q hc) (fun _ => ?_)
            exact LawReader_readTest_16_97_t hd rc48 rc50 hrc48 hrc50   (x1) (v3) M2 r h
    · refine ev_icmp 69 rfl hR.1 hR.2 (by decide) (fun q => absurd q hc) (fun _ => ?_)
      refine ev_k (pc' := 47) (ls' := [(2, .inl (v1)), (0, .inr (.inr (some 16))), (1, .inl (x1))]) (st' := [.inl (x1), .inr (.inr (some 16))]) (nc' := 126) (np' := 138) (M' := M) 2 rfl ?_
      obtain ⟨v5, M6, hv, h⟩ := oc_i h
      refine ev_call (t := 43) (as := [.inr (.inr (some 16)), .inl (x1)]) (rest := []) rfl rfl rfl (by omega) (LawReader_opens_16_e (by omega) (x1) M _ hv) ?_
      refine ev_k (pc' := 50) (ls' := [(2, .inl (v1)), (0, .inr (.inr (some 16))), (1, .inl (x1))]) (st' := [.inl (v5)]) (nc' := 126) (np' := 138) (M' := M6) 0 rfl ?_
      obtain ⟨hR, ⟨hc, h⟩ | ⟨hc, h⟩⟩ := c_eq_i h
      · refine ev_ifc 130 rfl hR.1 (by decide) (fun _ => ?_) (fun q => absurd hc q)
        exact LawReader_readTest_16_130_t hd rc48 rc50 hrc48 hrc50    M6 r h
      · refine ev_ifc 130 rfl hR.1 (by decide) (fun q => absurd q hc) (fun _ => ?_)
        refine ev_k (pc' := 57) (ls' := [(2, .inl (v1)), (0, .inr (.inr (some 16))), (1, .inl (x1))]) (st' := [.inl ((x1) + (1)), .inr (.inr (some 16))]) (nc' := 126) (np' := 138) (M' := M6) 4 rfl ?_
        obtain ⟨M7, hv, h⟩ := ob_i h
        refine ev_call (t := 48) (as := [.inr (.inr (some 16)), .inl ((x1) + (1))]) (rest := []) rfl rfl rfl (by omega) (hrc48 ((x1) + (1)) M6 _ hv) ?_
        refine ev_k (pc' := 63) (ls' := [(2, .inl (v1)), (0, .inr (.inr (some 16))), (1, .inl (x1))]) (st' := [.inl (41), .inr (.inr (some 16))]) (nc' := 126) (np' := 138) (M' := M7) 2 rfl ?_
        obtain ⟨M8, hv, h⟩ := ob_i h
        refine ev_call (t := 44) (as := [.inr (.inr (some 16)), .inl (41)]) (rest := []) rfl rfl rfl (by omega) (LawReader_expect_16_e (by omega) (41) M7 _ hv) ?_
        refine ev_k (pc' := 130) (ls' := []) (st' := []) (nc' := 126) (np' := 138) (M' := M8) 1 rfl ?_
        exact LawReader_readTest_16_130_t hd rc48 rc50 hrc48 hrc50    M8 r h
  · refine ev_icmp 39 rfl hR.1 hR.2 (by decide) (fun q => absurd q hc) (fun _ => ?_)
    refine ev_k (pc' := 13) (ls' := [(2, .inl (v1)), (0, .inr (.inr (some 16))), (1, .inl (x1))]) (st' := [.inl (x1), .inr (.inr (some 16))]) (nc' := 126) (np' := 138) (M' := M) 2 rfl ?_
    obtain ⟨v9, M10, hv, h⟩ := oc_i h
    refine ev_call (t := 43) (as := [.inr (.inr (some 16)), .inl (x1)]) (rest := []) rfl rfl rfl (by omega) (LawReader_opens_16_e (by omega) (x1) M _ hv) ?_
    refine ev_k (pc' := 16) (ls' := [(2, .inl (v1)), (0, .inr (.inr (some 16))), (1, .inl (x1))]) (st' := [.inl (v9)]) (nc' := 126) (np' := 138) (M' := M10) 0 rfl ?_
    obtain ⟨hR, ⟨hc, h⟩ | ⟨hc, h⟩⟩ := c_eq_i h
    · refine ev_ifc 130 rfl hR.1 (by decide) (fun _ => ?_) (fun q => absurd hc q)
      exact LawReader_readTest_16_130_t hd rc48 rc50 hrc48 hrc50    M10 r h
    · refine ev_ifc 130 rfl hR.1 (by decide) (fun q => absurd q hc) (fun _ => ?_)
      refine ev_k (pc' := 23) (ls' := [(2, .inl (v1)), (0, .inr (.inr (some 16))), (1, .inl (x1))]) (st' := [.inl ((x1) + (1)), .inr (.inr (some 16))]) (nc' := 126) (np' := 138) (M' := M10) 4 rfl ?_
      obtain ⟨M11, hv, h⟩ := ob_i h
      refine ev_call (t := 50) (as := [.inr (.inr (some 16)), .inl ((x1) + (1))]) (rest := []) rfl rfl rfl (by omega) (hrc50 ((x1) + (1)) M10 _ hv) ?_
      refine ev_k (pc' := 32) (ls' := [(2, .inl (v1)), (0, .inr (.inr (some 16))), (1, .inl (x1))]) (st' := [.inl (0), .inl (2), .inr (.inr (some 17))]) (nc' := 126) (np' := 138) (M' := M11) 4 rfl ?_
      obtain ⟨v12, M13, hv, h⟩ := oc_i h
      refine ev_call (t := 46) (as := [.inr (.inr (some 17)), .inl (2), .inl (0)]) (rest := []) rfl rfl rfl (by omega) (Law_emit_17_e (by omega) (2) (0) M11 _ hv) ?_
      refine ev_k (pc' := 130) (ls' := []) (st' := []) (nc' := 126) (np' := 138) (M' := M13) 2 rfl ?_
      exact LawReader_readTest_16_130_t hd rc48 rc50 hrc48 hrc50    M13 r h
def K_LawReader_readChoice_R : Nat → Nat → Int →  am_M → Option am_M
  | 0, _, _, _ => none
  | n + 1, w, a0, M => match w with
    | 0 => LawReader_readChoice_16 (fun b0 M => K_LawReader_readChoice_R n 1 b0 M) a0 M
    | 1 => LawReader_readAll_16 (fun b0 M => K_LawReader_readChoice_R n 2 b0 M) a0 M
    | _ => LawReader_readTest_16 (fun b0 M => K_LawReader_readChoice_R n 0 b0 M) (fun b0 M => K_LawReader_readChoice_R n 2 b0 M) a0 M
def K_LawReader_readChoice (a0 : Int) (M : am_M) : Option am_M := K_LawReader_readChoice_R 40 0 a0 M
def K_LawReader_readAll (a0 : Int) (M : am_M) : Option am_M := K_LawReader_readChoice_R 40 1 a0 M
def K_LawReader_readTest (a0 : Int) (M : am_M) : Option am_M := K_LawReader_readChoice_R 40 2 a0 M
theorem K_LawReader_readChoice_R_all {L : Nat} {xs : Nat → Int} : ∀ n : Nat, (∀ (d : Nat), 44 + n ≤ d → ∀ (a0 : Int) (M : am_M) (r : am_M), K_LawReader_readChoice_R n 0 a0 M = some r → am_Ev L xs d me_48 0 (am_ar1 0 [.inr (.inr (some 16)), .inl (a0)]) [] 126 138 M (none, 126, 138, r)) ∧ (∀ (d : Nat), 44 + n ≤ d → ∀ (a0 : Int) (M : am_M) (r : am_M), K_LawReader_readChoice_R n 1 a0 M = some r → am_Ev L xs d me_49 0 (am_ar1 0 [.inr (.inr (some 16)), .inl (a0)]) [] 126 138 M (none, 126, 138, r)) ∧ (∀ (d : Nat), 44 + n ≤ d → ∀ (a0 : Int) (M : am_M) (r : am_M), K_LawReader_readChoice_R n 2 a0 M = some r → am_Ev L xs d me_50 0 (am_ar1 0 [.inr (.inr (some 16)), .inl (a0)]) [] 126 138 M (none, 126, 138, r))
  | 0 => ⟨fun d hd a0 M r h => (by cases h), fun d hd a0 M r h => (by cases h), fun d hd a0 M r h => (by cases h)⟩
  | n + 1 => by
    have ih := K_LawReader_readChoice_R_all (L := L) (xs := xs) n
    obtain ⟨ih48, ih49, ih50⟩ := ih
    exact ⟨fun d hd a0 M r h => LawReader_readChoice_16_e (by omega) _ (ih49 (d - 1) (by omega)) a0 M r h, fun d hd a0 M r h => LawReader_readAll_16_e (by omega) _ (ih50 (d - 1) (by omega)) a0 M r h, fun d hd a0 M r h => LawReader_readTest_16_e (by omega) _ _ (ih48 (d - 1) (by omega)) (ih50 (d - 1) (by omega)) a0 M r h⟩
theorem K_LawReader_readChoice_e {L : Nat} {xs : Nat → Int} {d : Nat} (hd : 84 ≤ d) (a0 : Int) (M : am_M) (r : am_M) (h : K_LawReader_readChoice a0 M = some r) : am_Ev L xs d me_48 0 (am_ar1 0 [.inr (.inr (some 16)), .inl (a0)]) [] 126 138 M (none, 126, 138, r) :=
  (K_LawReader_readChoice_R_all (L := L) (xs := xs) 40).1 d (by omega) a0 M r h
theorem K_LawReader_readAll_e {L : Nat} {xs : Nat → Int} {d : Nat} (hd : 84 ≤ d) (a0 : Int) (M : am_M) (r : am_M) (h : K_LawReader_readAll a0 M = some r) : am_Ev L xs d me_49 0 (am_ar1 0 [.inr (.inr (some 16)), .inl (a0)]) [] 126 138 M (none, 126, 138, r) :=
  (K_LawReader_readChoice_R_all (L := L) (xs := xs) 40).2.1 d (by omega) a0 M r h
theorem K_LawReader_readTest_e {L : Nat} {xs : Nat → Int} {d : Nat} (hd : 84 ≤ d) (a0 : Int) (M : am_M) (r : am_M) (h : K_LawReader_readTest a0 M = some r) : am_Ev L xs d me_50 0 (am_ar1 0 [.inr (.inr (some 16)), .inl (a0)]) [] 126 138 M (none, 126, 138, r) :=
  (K_LawReader_readChoice_R_all (L := L) (xs := xs) 40).2.2 d (by omega) a0 M r h
def Law_addClause_17_62     (M : am_M) : Option (am_M) := some (M)
def Law_addClause_17    (x1 : Int) (x2 : Int) (x3 : Int) (M : am_M) : Option (am_M) := c_ge (M 17 7) (16)
       (Law_addClause_17_62     M)
       (wa M 20 16 (M 17 7) (x1) fun M1 => wa M1 21 16 (M1 17 7) (x2) fun M2 => wa M2 22 16 (M2 17 7) (x3) fun M3 => wa M3 23 16 (M3 17 7) (M3 17 2) fun M4 => fw M4 17 7 ((M4 17 7) + (1)) fun M5 => (Law_addClause_17_62     M5))
theorem Law_addClause_17_62_t {L : Nat} {xs : Nat → Int} {d : Nat} (hd : 0 ≤ d)      (M : am_M) (r : am_M) (h : Law_addClause_17_62     M = some r) : am_Ev L xs d me_52 62 [] [] 126 138 M (none, 126, 138, r) := by
  refine ev_k (pc' := 62) (ls' := []) (st' := []) (nc' := 126) (np' := 138) (M' := M) 0 rfl ?_
  cases h
  exact ev_ret rfl
theorem Law_addClause_17_e {L : Nat} {xs : Nat → Int} {d : Nat} (hd : 0 ≤ d)   (x1 : Int) (x2 : Int) (x3 : Int) (M : am_M) (r : am_M) (h : Law_addClause_17   x1 x2 x3 M = some r) : am_Ev L xs d me_52 0 (am_ar1 0 [.inr (.inr (some 17)), .inl (x1), .inl (x2), .inl (x3)]) [] 126 138 M (none, 126, 138, r) := by
  refine ev_k (pc' := 6) (ls' := [(0, .inr (.inr (some 17))), (1, .inl (x1)), (2, .inl (x2)), (3, .inl (x3))]) (st' := [.inl (16), .inl (M 17 7)]) (nc' := 126) (np' := 138) (M' := M) 3 rfl ?_
  obtain ⟨hR, ⟨hc, h⟩ | ⟨hc, h⟩⟩ := c_ge_i h
  · refine ev_icmp 62 rfl hR.1 hR.2 (by decide) (fun _ => ?_) (fun q => absurd hc q)
    exact Law_addClause_17_62_t hd      M r h
  · refine ev_icmp 62 rfl hR.1 hR.2 (by decide) (fun q => absurd q hc) (fun _ => ?_)
    refine ev_k (pc' := 18) (ls' := [(0, .inr (.inr (some 17))), (1, .inl (x1)), (2, .inl (x2)), (3, .inl (x3))]) (st' := [.inl (x1), .inl (M 17 7), .inr (.inr (some 20))]) (nc' := 126) (np' := 138) (M' := M) 5 rfl ?_
    obtain ⟨hc, M1, eM, h⟩ := wa_i h
    refine ev_iast (k := 20) rfl (by decide) rfl hc eM ?_
    refine ev_k (pc' := 28) (ls' := [(0, .inr (.inr (some 17))), (1, .inl (x1)), (2, .inl (x2)), (3, .inl (x3))]) (st' := [.inl (x2), .inl (M1 17 7), .inr (.inr (some 21))]) (nc' := 126) (np' := 138) (M' := M1) 5 rfl ?_
    obtain ⟨hc, M2, eM, h⟩ := wa_i h
    refine ev_iast (k := 21) rfl (by decide) rfl hc eM ?_
    refine ev_k (pc' := 38) (ls' := [(0, .inr (.inr (some 17))), (1, .inl (x1)), (2, .inl (x2)), (3, .inl (x3))]) (st' := [.inl (x3), .inl (M2 17 7), .inr (.inr (some 22))]) (nc' := 126) (np' := 138) (M' := M2) 5 rfl ?_
    obtain ⟨hc, M3, eM, h⟩ := wa_i h
    refine ev_iast (k := 22) rfl (by decide) rfl hc eM ?_
    refine ev_k (pc' := 51) (ls' := [(0, .inr (.inr (some 17))), (1, .inl (x1)), (2, .inl (x2)), (3, .inl (x3))]) (st' := [.inl (M3 17 2), .inl (M3 17 7), .inr (.inr (some 23))]) (nc' := 126) (np' := 138) (M' := M3) 6 rfl ?_
    obtain ⟨hc, M4, eM, h⟩ := wa_i h
    refine ev_iast (k := 23) rfl (by decide) rfl hc eM ?_
    refine ev_k (pc' := 62) (ls' := []) (st' := []) (nc' := 126) (np' := 138) (M' := am_up M4 17 7 ((M4 17 7) + (1))) 6 rfl ?_
    obtain ⟨M5, eM, h⟩ := fw_i h
    rw [← eM]
    exact Law_addClause_17_62_t hd      M5 r h
def LawReader_readClause_16_98     (M : am_M) : Option (am_M) := some (M)
def LawReader_readClause_16     (M : am_M) : Option (am_M) := ob (LawReader_here_16  M) fun v1 => ob (LawReader_isClauseLetter (v1) M) fun v2 => c_ne (v2) (0)
       (c_lt (M 17 7) (16)
       (fw M 16 2 ((M 16 2) + (1)) fun M3 => ob (K_LawReader_readSum (0) M3) fun M4 => ob (LawReader_expect_16 (40) M4) fun M5 => ob (K_LawReader_readChoice (1) M5) fun M6 => ob (LawReader_expect_16 (41) M6) fun M7 => ob (Law_addClause_17 (v1) (M3 17 2) (M4 17 2) M7) fun M8 => (LawReader_readClause_16_98     M8))
       (ob (LawReader_fail_16 (4) M) fun M9 => (LawReader_readClause_16_98     M9)))
       (ob (LawReader_fail_16 (1) M) fun M10 => (LawReader_readClause_16_98     M10))
theorem LawReader_readClause_16_98_t {L : Nat} {xs : Nat → Int} {d : Nat} (hd : 85 ≤ d)      (M : am_M) (r : am_M) (h : LawReader_readClause_16_98     M = some r) : am_Ev L xs d me_36 98 [] [] 126 138 M (none, 126, 138, r) := by
  refine ev_k (pc' := 98) (ls' := []) (st' := []) (nc' := 126) (np' := 138) (M' := M) 0 rfl ?_
  cases h
  exact ev_ret rfl
theorem LawReader_readClause_16_e {L : Nat} {xs : Nat → Int} {d : Nat} (hd : 85 ≤ d)    (M : am_M) (r : am_M) (h : LawReader_readClause_16    M = some r) : am_Ev L xs d me_36 0 (am_ar1 0 [.inr (.inr (some 16))]) [] 126 138 M (none, 126, 138, r) := by
  refine ev_k (pc' := 1) (ls' := [(0, .inr (.inr (some 16)))]) (st' := [.inr (.inr (some 16))]) (nc' := 126) (np' := 138) (M' := M) 1 rfl ?_
  obtain ⟨v1, hv, h⟩ := ob_i h
  refine ev_call (t := 37) (as := [.inr (.inr (some 16))]) (rest := []) rfl rfl rfl (by omega) (LawReader_here_16_e (by omega)  M _ hv) ?_
  refine ev_k (pc' := 6) (ls' := [(1, .inl (v1)), (0, .inr (.inr (some 16)))]) (st' := [.inl (v1)]) (nc' := 126) (np' := 138) (M' := M) 2 rfl ?_
  obtain ⟨v2, hv, h⟩ := ob_i h
  refine ev_call (t := 38) (as := [.inl (v1)]) (rest := []) rfl rfl rfl (by omega) (LawReader_isClauseLetter_e (by omega) (v1) M _ hv) ?_
  refine ev_k (pc' := 9) (ls' := [(1, .inl (v1)), (0, .inr (.inr (some 16)))]) (st' := [.inl (v2)]) (nc' := 126) (np' := 138) (M' := M) 0 rfl ?_
  obtain ⟨hR, ⟨hc, h⟩ | ⟨hc, h⟩⟩ := c_ne_i h
  · refine ev_ifc 20 rfl hR.1 (by decide) (fun _ => ?_) (fun q => absurd hc q)
    refine ev_k (pc' := 29) (ls' := [(1, .inl (v1)), (0, .inr (.inr (some 16)))]) (st' := [.inl (16), .inl (M 17 7)]) (nc' := 126) (np' := 138) (M' := M) 4 rfl ?_
    obtain ⟨hR, ⟨hc, h⟩ | ⟨hc, h⟩⟩ := c_lt_i h
    · refine ev_icmp 40 rfl hR.1 hR.2 (by decide) (fun _ => ?_) (fun q => absurd hc q)
      refine ev_k (pc' := 50) (ls' := [(1, .inl (v1)), (0, .inr (.inr (some 16)))]) (st' := []) (nc' := 126) (np' := 138) (M' := am_up M 16 2 ((M 16 2) + (1))) 6 rfl ?_
      obtain ⟨M3, eM, h⟩ := fw_i h
      rw [← eM]
      refine ev_k (pc' := 60) (ls' := [(2, .inl (M3 17 2)), (1, .inl (v1)), (0, .inr (.inr (some 16)))]) (st' := [.inl (0), .inr (.inr (some 16))]) (nc' := 126) (np' := 138) (M' := M3) 6 rfl ?_
      obtain ⟨M4, hv, h⟩ := ob_i h
      refine ev_call (t := 40) (as := [.inr (.inr (some 16)), .inl (0)]) (rest := []) rfl rfl rfl (by omega) (K_LawReader_readSum_e (by omega) (0) M3 _ hv) ?_
      refine ev_k (pc' := 74) (ls' := [(3, .inl (M4 17 2)), (2, .inl (M3 17 2)), (1, .inl (v1)), (0, .inr (.inr (some 16)))]) (st' := [.inl (40), .inr (.inr (some 16))]) (nc' := 126) (np' := 138) (M' := M4) 6 rfl ?_
      obtain ⟨M5, hv, h⟩ := ob_i h
      refine ev_call (t := 44) (as := [.inr (.inr (some 16)), .inl (40)]) (rest := []) rfl rfl rfl (by omega) (LawReader_expect_16_e (by omega) (40) M4 _ hv) ?_
      refine ev_k (pc' := 79) (ls' := [(3, .inl (M4 17 2)), (2, .inl (M3 17 2)), (1, .inl (v1)), (0, .inr (.inr (some 16)))]) (st' := [.inl (1), .inr (.inr (some 16))]) (nc' := 126) (np' := 138) (M' := M5) 2 rfl ?_
      obtain ⟨M6, hv, h⟩ := ob_i h
      refine ev_call (t := 48) (as := [.inr (.inr (some 16)), .inl (1)]) (rest := []) rfl rfl rfl (by omega) (K_LawReader_readChoice_e (by omega) (1) M5 _ hv) ?_
      refine ev_k (pc' := 85) (ls' := [(3, .inl (M4 17 2)), (2, .inl (M3 17 2)), (1, .inl (v1)), (0, .inr (.inr (some 16)))]) (st' := [.inl (41), .inr (.inr (some 16))]) (nc' := 126) (np' := 138) (M' := M6) 2 rfl ?_
      obtain ⟨M7, hv, h⟩ := ob_i h
      refine ev_call (t := 44) (as := [.inr (.inr (some 16)), .inl (41)]) (rest := []) rfl rfl rfl (by omega) (LawReader_expect_16_e (by omega) (41) M6 _ hv) ?_
      refine ev_k (pc' := 95) (ls' := [(3, .inl (M4 17 2)), (2, .inl (M3 17 2)), (1, .inl (v1)), (0, .inr (.inr (some 16)))]) (st' := [.inl (M4 17 2), .inl (M3 17 2), .inl (v1), .inr (.inr (some 17))]) (nc' := 126) (np' := 138) (M' := M7) 5 rfl ?_
      obtain ⟨M8, hv, h⟩ := ob_i h
      refine ev_call (t := 52) (as := [.inr (.inr (some 17)), .inl (v1), .inl (M3 17 2), .inl (M4 17 2)]) (rest := []) rfl rfl rfl (by omega) (Law_addClause_17_e (by omega) (v1) (M3 17 2) (M4 17 2) M7 _ hv) ?_
      exact LawReader_readClause_16_98_t hd      M8 r h
    · refine ev_icmp 40 rfl hR.1 hR.2 (by decide) (fun q => absurd q hc) (fun _ => ?_)
      refine ev_k (pc' := 34) (ls' := [(1, .inl (v1)), (0, .inr (.inr (some 16)))]) (st' := [.inl (4), .inr (.inr (some 16))]) (nc' := 126) (np' := 138) (M' := M) 2 rfl ?_
      obtain ⟨M9, hv, h⟩ := ob_i h
      refine ev_call (t := 39) (as := [.inr (.inr (some 16)), .inl (4)]) (rest := []) rfl rfl rfl (by omega) (LawReader_fail_16_e (by omega) (4) M _ hv) ?_
      refine ev_k (pc' := 98) (ls' := []) (st' := []) (nc' := 126) (np' := 138) (M' := M9) 1 rfl ?_
      exact LawReader_readClause_16_98_t hd      M9 r h
  · refine ev_ifc 20 rfl hR.1 (by decide) (fun q => absurd q hc) (fun _ => ?_)
    refine ev_k (pc' := 14) (ls' := [(1, .inl (v1)), (0, .inr (.inr (some 16)))]) (st' := [.inl (1), .inr (.inr (some 16))]) (nc' := 126) (np' := 138) (M' := M) 2 rfl ?_
    obtain ⟨M10, hv, h⟩ := ob_i h
    refine ev_call (t := 39) (as := [.inr (.inr (some 16)), .inl (1)]) (rest := []) rfl rfl rfl (by omega) (LawReader_fail_16_e (by omega) (1) M _ hv) ?_
    refine ev_k (pc' := 98) (ls' := []) (st' := []) (nc' := 126) (np' := 138) (M' := M10) 1 rfl ?_
    exact LawReader_readClause_16_98_t hd      M10 r h
def Law_copyFrom_5_17     (M : am_M) : Option (am_M) := cpy M 18 240 6 240 (0) (0) (240) fun M1 => cpy M1 19 240 7 240 (0) (0) (240) fun M2 => cpy M2 20 16 8 16 (0) (0) (16) fun M3 => cpy M3 21 16 9 16 (0) (0) (16) fun M4 => cpy M4 22 16 10 16 (0) (0) (16) fun M5 => cpy M5 23 16 11 16 (0) (0) (16) fun M6 => fw M6 5 2 (M6 17 2) fun M7 => fw M7 5 7 (M7 17 7) fun M8 => some (M8)
theorem Law_copyFrom_5_17_e {L : Nat} {xs : Nat → Int} {d : Nat} (hd : 0 ≤ d)    (M : am_M) (r : am_M) (h : Law_copyFrom_5_17    M = some r) : am_Ev L xs d me_53 0 (am_ar1 0 [.inr (.inr (some 5)), .inr (.inr (some 17))]) [] 126 138 M (none, 126, 138, r) := by
  refine ev_k (pc' := 13) (ls' := [(0, .inr (.inr (some 5))), (1, .inr (.inr (some 17)))]) (st' := [.inl (240), .inl (0), .inr (.inr (some 6)), .inl (0), .inr (.inr (some 18))]) (nc' := 126) (np' := 138) (M' := M) 7 rfl ?_
  obtain ⟨hc, M1, eM, h⟩ := cpy_i h
  refine ev_cpy (s := 18) (dd := 6) rfl rfl (by decide) (by decide) rfl rfl hc rfl (by decide) eM ?_
  refine ev_k (pc' := 29) (ls' := [(0, .inr (.inr (some 5))), (1, .inr (.inr (some 17)))]) (st' := [.inl (240), .inl (0), .inr (.inr (some 7)), .inl (0), .inr (.inr (some 19))]) (nc' := 126) (np' := 138) (M' := M1) 7 rfl ?_
  obtain ⟨hc, M2, eM, h⟩ := cpy_i h
  refine ev_cpy (s := 19) (dd := 7) rfl rfl (by decide) (by decide) rfl rfl hc rfl (by decide) eM ?_
  refine ev_k (pc' := 44) (ls' := [(0, .inr (.inr (some 5))), (1, .inr (.inr (some 17)))]) (st' := [.inl (16), .inl (0), .inr (.inr (some 8)), .inl (0), .inr (.inr (some 20))]) (nc' := 126) (np' := 138) (M' := M2) 7 rfl ?_
  obtain ⟨hc, M3, eM, h⟩ := cpy_i h
  refine ev_cpy (s := 20) (dd := 8) rfl rfl (by decide) (by decide) rfl rfl hc rfl (by decide) eM ?_
  refine ev_k (pc' := 59) (ls' := [(0, .inr (.inr (some 5))), (1, .inr (.inr (some 17)))]) (st' := [.inl (16), .inl (0), .inr (.inr (some 9)), .inl (0), .inr (.inr (some 21))]) (nc' := 126) (np' := 138) (M' := M3) 7 rfl ?_
  obtain ⟨hc, M4, eM, h⟩ := cpy_i h
  refine ev_cpy (s := 21) (dd := 9) rfl rfl (by decide) (by decide) rfl rfl hc rfl (by decide) eM ?_
  refine ev_k (pc' := 74) (ls' := [(0, .inr (.inr (some 5))), (1, .inr (.inr (some 17)))]) (st' := [.inl (16), .inl (0), .inr (.inr (some 10)), .inl (0), .inr (.inr (some 22))]) (nc' := 126) (np' := 138) (M' := M4) 7 rfl ?_
  obtain ⟨hc, M5, eM, h⟩ := cpy_i h
  refine ev_cpy (s := 22) (dd := 10) rfl rfl (by decide) (by decide) rfl rfl hc rfl (by decide) eM ?_
  refine ev_k (pc' := 89) (ls' := [(0, .inr (.inr (some 5))), (1, .inr (.inr (some 17)))]) (st' := [.inl (16), .inl (0), .inr (.inr (some 11)), .inl (0), .inr (.inr (some 23))]) (nc' := 126) (np' := 138) (M' := M5) 7 rfl ?_
  obtain ⟨hc, M6, eM, h⟩ := cpy_i h
  refine ev_cpy (s := 23) (dd := 11) rfl rfl (by decide) (by decide) rfl rfl hc rfl (by decide) eM ?_
  refine ev_k (pc' := 100) (ls' := [(0, .inr (.inr (some 5))), (1, .inr (.inr (some 17)))]) (st' := []) (nc' := 126) (np' := 138) (M' := am_up M6 5 2 (M6 17 2)) 4 rfl ?_
  obtain ⟨M7, eM, h⟩ := fw_i h
  rw [← eM]
  refine ev_k (pc' := 108) (ls' := [(0, .inr (.inr (some 5))), (1, .inr (.inr (some 17)))]) (st' := []) (nc' := 126) (np' := 138) (M' := am_up M7 5 7 (M7 17 7)) 4 rfl ?_
  obtain ⟨M8, eM, h⟩ := fw_i h
  rw [← eM]
  refine ev_k (pc' := 108) (ls' := [(0, .inr (.inr (some 5))), (1, .inr (.inr (some 17)))]) (st' := []) (nc' := 126) (np' := 138) (M' := M8) 0 rfl ?_
  cases h
  exact ev_ret rfl
def LawReader_readInto_16_5_77     (M : am_M) : Option (Int × am_M) := c_ge (M 16 3) (0)
       (ob (Law_copyFrom_5_17  M) fun M1 => some (M1 5 7, M1))
       (some (M 16 3, M))
def LawReader_readInto_16_5_64     (M : am_M) : Option (Int × am_M) := ob (LawReader_here_16  M) fun v1 => c_eq (v1) (-1)
       (LawReader_readInto_16_5_77     M)
       (ob (LawReader_fail_16 (1) M) fun M2 => (LawReader_readInto_16_5_77     M2))
def LawReader_readInto_16_5_28    : Nat → Int → am_M → Option (Int × am_M)
  | 0, _, _ => none
  | n + 1, x3, M => c_ge (x3) (240)
       (LawReader_readInto_16_5_64     M)
       (ob (LawReader_here_16  M) fun v1 => c_ne (v1) (59)
       (LawReader_readInto_16_5_64     M)
       (fw M 16 2 ((M 16 2) + (1)) fun M2 => ob (LawReader_readClause_16  M2) fun M3 => (LawReader_readInto_16_5_28    n ((x3) + (1)) M3)))
def LawReader_readInto_16_5     (M : am_M) : Option (Int × am_M) := fw M 16 1 (1) fun M1 => fw M1 16 2 (0) fun M2 => fw M2 16 3 (0) fun M3 => ob (Law_clear_17  M3) fun M4 => ob (LawReader_readClause_16  M4) fun M5 => (LawReader_readInto_16_5_28    am_big (0) M5)
theorem LawReader_readInto_16_5_77_t {L : Nat} {xs : Nat → Int} {d : Nat} (hd : 86 ≤ d)      (M : am_M) (r : Int × am_M) (h : LawReader_readInto_16_5_77     M = some r) : am_Ev L xs d me_34 77 [(0, .inr (.inr (some 16))), (1, .inr (.inr (some 5)))] [] 126 138 M (some (.inl r.1), 126, 138, r.2) := by
  refine ev_k (pc' := 81) (ls' := [(0, .inr (.inr (some 16))), (1, .inr (.inr (some 5)))]) (st' := [.inl (M 16 3)]) (nc' := 126) (np' := 138) (M' := M) 2 rfl ?_
  obtain ⟨hR, ⟨hc, h⟩ | ⟨hc, h⟩⟩ := c_ge_i h
  · refine ev_ifc 89 rfl hR.1 (by decide) (fun _ => ?_) (fun q => absurd hc q)
    refine ev_k (pc' := 94) (ls' := [(0, .inr (.inr (some 16))), (1, .inr (.inr (some 5)))]) (st' := [.inr (.inr (some 17)), .inr (.inr (some 5))]) (nc' := 126) (np' := 138) (M' := M) 3 rfl ?_
    obtain ⟨M1, hv, h⟩ := ob_i h
    refine ev_call (t := 53) (as := [.inr (.inr (some 5)), .inr (.inr (some 17))]) (rest := []) rfl rfl rfl (by omega) (Law_copyFrom_5_17_e (by omega)  M _ hv) ?_
    refine ev_k (pc' := 101) (ls' := [(0, .inr (.inr (some 16))), (1, .inr (.inr (some 5)))]) (st' := [.inl (M1 5 7)]) (nc' := 126) (np' := 138) (M' := M1) 2 rfl ?_
    cases h
    exact ev_ret rfl
  · refine ev_ifc 89 rfl hR.1 (by decide) (fun q => absurd q hc) (fun _ => ?_)
    refine ev_k (pc' := 88) (ls' := [(0, .inr (.inr (some 16))), (1, .inr (.inr (some 5)))]) (st' := [.inl (M 16 3)]) (nc' := 126) (np' := 138) (M' := M) 2 rfl ?_
    cases h
    exact ev_ret rfl
theorem LawReader_readInto_16_5_64_t {L : Nat} {xs : Nat → Int} {d : Nat} (hd : 86 ≤ d)      (M : am_M) (r : Int × am_M) (h : LawReader_readInto_16_5_64     M = some r) : am_Ev L xs d me_34 64 [(0, .inr (.inr (some 16))), (1, .inr (.inr (some 5)))] [] 126 138 M (some (.inl r.1), 126, 138, r.2) := by
  refine ev_k (pc' := 65) (ls' := [(0, .inr (.inr (some 16))), (1, .inr (.inr (some 5)))]) (st' := [.inr (.inr (some 16))]) (nc' := 126) (np' := 138) (M' := M) 1 rfl ?_
  obtain ⟨v1, hv, h⟩ := ob_i h
  refine ev_call (t := 37) (as := [.inr (.inr (some 16))]) (rest := []) rfl rfl rfl (by omega) (LawReader_here_16_e (by omega)  M _ hv) ?_
  refine ev_k (pc' := 69) (ls' := [(0, .inr (.inr (some 16))), (1, .inr (.inr (some 5)))]) (st' := [.inl (-1), .inl (v1)]) (nc' := 126) (np' := 138) (M' := M) 1 rfl ?_
  obtain ⟨hR, ⟨hc, h⟩ | ⟨hc, h⟩⟩ := c_eq_i h
  · refine ev_icmp 77 rfl hR.1 hR.2 (by decide) (fun _ => ?_) (fun q => absurd hc q)
    exact LawReader_readInto_16_5_77_t hd      M r h
  · refine ev_icmp 77 rfl hR.1 hR.2 (by decide) (fun q => absurd q hc) (fun _ => ?_)
    refine ev_k (pc' := 74) (ls' := [(0, .inr (.inr (some 16))), (1, .inr (.inr (some 5)))]) (st' := [.inl (1), .inr (.inr (some 16))]) (nc' := 126) (np' := 138) (M' := M) 2 rfl ?_
    obtain ⟨M2, hv, h⟩ := ob_i h
    refine ev_call (t := 39) (as := [.inr (.inr (some 16)), .inl (1)]) (rest := []) rfl rfl rfl (by omega) (LawReader_fail_16_e (by omega) (1) M _ hv) ?_
    exact LawReader_readInto_16_5_77_t hd      M2 r h
theorem LawReader_readInto_16_5_28_t {L : Nat} {xs : Nat → Int} {d : Nat} (hd : 86 ≤ d)     : ∀ (n : Nat) (x3 : Int) (M : am_M) (r : Int × am_M), LawReader_readInto_16_5_28    n x3 M = some r → am_Ev L xs d me_34 28 [(0, .inr (.inr (some 16))), (1, .inr (.inr (some 5))), (3, .inl (x3))] [] 126 138 M (some (.inl r.1), 126, 138, r.2)
  | 0, _, M, r, h => by cases h
  | n + 1, x3, M, r, h => by
    have ih := LawReader_readInto_16_5_28_t (L := L) (xs := xs) hd     n
    refine ev_k (pc' := 32) (ls' := [(0, .inr (.inr (some 16))), (1, .inr (.inr (some 5))), (3, .inl (x3))]) (st' := [.inl (240), .inl (x3)]) (nc' := 126) (np' := 138) (M' := M) 2 rfl ?_
    obtain ⟨hR, ⟨hc, h⟩ | ⟨hc, h⟩⟩ := c_ge_i h
    · refine ev_icmp 64 rfl hR.1 hR.2 (by decide) (fun _ => ?_) (fun q => absurd hc q)
      exact LawReader_readInto_16_5_64_t hd      M r h
    · refine ev_icmp 64 rfl hR.1 hR.2 (by decide) (fun q => absurd q hc) (fun _ => ?_)
      refine ev_k (pc' := 36) (ls' := [(0, .inr (.inr (some 16))), (1, .inr (.inr (some 5))), (3, .inl (x3))]) (st' := [.inr (.inr (some 16))]) (nc' := 126) (np' := 138) (M' := M) 1 rfl ?_
      obtain ⟨v1, hv, h⟩ := ob_i h
      refine ev_call (t := 37) (as := [.inr (.inr (some 16))]) (rest := []) rfl rfl rfl (by omega) (LawReader_here_16_e (by omega)  M _ hv) ?_
      refine ev_k (pc' := 41) (ls' := [(0, .inr (.inr (some 16))), (1, .inr (.inr (some 5))), (3, .inl (x3))]) (st' := [.inl (59), .inl (v1)]) (nc' := 126) (np' := 138) (M' := M) 1 rfl ?_
      obtain ⟨hR, ⟨hc, h⟩ | ⟨hc, h⟩⟩ := c_ne_i h
      · refine ev_icmp 64 rfl hR.1 hR.2 (by decide) (fun _ => ?_) (fun q => absurd hc q)
        exact LawReader_readInto_16_5_64_t hd      M r h
      · refine ev_icmp 64 rfl hR.1 hR.2 (by decide) (fun q => absurd q hc) (fun _ => ?_)
        refine ev_k (pc' := 54) (ls' := [(0, .inr (.inr (some 16))), (1, .inr (.inr (some 5))), (3, .inl (x3))]) (st' := []) (nc' := 126) (np' := 138) (M' := am_up M 16 2 ((M 16 2) + (1))) 6 rfl ?_
        obtain ⟨M2, eM, h⟩ := fw_i h
        rw [← eM]
        refine ev_k (pc' := 55) (ls' := [(0, .inr (.inr (some 16))), (1, .inr (.inr (some 5))), (3, .inl (x3))]) (st' := [.inr (.inr (some 16))]) (nc' := 126) (np' := 138) (M' := M2) 1 rfl ?_
        obtain ⟨M3, hv, h⟩ := ob_i h
        refine ev_call (t := 36) (as := [.inr (.inr (some 16))]) (rest := []) rfl rfl rfl (by omega) (LawReader_readClause_16_e (by omega)  M2 _ hv) ?_
        refine ev_k (pc' := 28) (ls' := [(0, .inr (.inr (some 16))), (1, .inr (.inr (some 5))), (3, .inl ((x3) + (1)))]) (st' := []) (nc' := 126) (np' := 138) (M' := M3) 2 rfl ?_
        exact ih ((x3) + (1)) M3 r h
theorem LawReader_readInto_16_5_e {L : Nat} {xs : Nat → Int} {d : Nat} (hd : 86 ≤ d)    (M : am_M) (r : Int × am_M) (h : LawReader_readInto_16_5    M = some r) : am_Ev L xs d me_34 0 (am_ar1 0 [.inr (.inr (some 16)), .inr (.inr (some 5)), .inr (.inr (some 14))]) [] 126 138 M (some (.inl r.1), 126, 138, r.2) := by
  refine ev_k (pc' := 5) (ls' := [(0, .inr (.inr (some 16))), (1, .inr (.inr (some 5))), (2, .inr (.inr (some 14)))]) (st' := []) (nc' := 126) (np' := 138) (M' := am_up M 16 1 (1)) 3 rfl ?_
  obtain ⟨M1, eM, h⟩ := fw_i h
  rw [← eM]
  refine ev_k (pc' := 10) (ls' := [(0, .inr (.inr (some 16))), (1, .inr (.inr (some 5))), (2, .inr (.inr (some 14)))]) (st' := []) (nc' := 126) (np' := 138) (M' := am_up M1 16 2 (0)) 3 rfl ?_
  obtain ⟨M2, eM, h⟩ := fw_i h
  rw [← eM]
  refine ev_k (pc' := 15) (ls' := [(0, .inr (.inr (some 16))), (1, .inr (.inr (some 5))), (2, .inr (.inr (some 14)))]) (st' := []) (nc' := 126) (np' := 138) (M' := am_up M2 16 3 (0)) 3 rfl ?_
  obtain ⟨M3, eM, h⟩ := fw_i h
  rw [← eM]
  refine ev_k (pc' := 19) (ls' := [(0, .inr (.inr (some 16))), (1, .inr (.inr (some 5))), (2, .inr (.inr (some 14)))]) (st' := [.inr (.inr (some 17))]) (nc' := 126) (np' := 138) (M' := M3) 2 rfl ?_
  obtain ⟨M4, hv, h⟩ := ob_i h
  refine ev_call (t := 35) (as := [.inr (.inr (some 17))]) (rest := []) rfl rfl rfl (by omega) (Law_clear_17_e (by omega)  M3 _ hv) ?_
  refine ev_k (pc' := 23) (ls' := [(0, .inr (.inr (some 16))), (1, .inr (.inr (some 5))), (2, .inr (.inr (some 14)))]) (st' := [.inr (.inr (some 16))]) (nc' := 126) (np' := 138) (M' := M4) 1 rfl ?_
  obtain ⟨M5, hv, h⟩ := ob_i h
  refine ev_call (t := 36) (as := [.inr (.inr (some 16))]) (rest := []) rfl rfl rfl (by omega) (LawReader_readClause_16_e (by omega)  M4 _ hv) ?_
  refine ev_k (pc' := 28) (ls' := [(0, .inr (.inr (some 16))), (1, .inr (.inr (some 5))), (3, .inl (0))]) (st' := []) (nc' := 126) (np' := 138) (M' := M5) 2 rfl ?_
  exact LawReader_readInto_16_5_28_t hd     am_big (0) M5 r h
def P_law    (x1 : Int) (M : am_M) : Option (Int × am_M) := oc (Tape_take (x1) (1) (240) M) fun v1 M2 => c_ne (v1) (0)
       (oc (LawReader_readInto_16_5  M2) fun v3 M4 => some (v3, M4))
       (some (-1, M2))
theorem P_law_e {L : Nat} {xs : Nat → Int} {d : Nat} (hd : 87 ≤ d)   (x1 : Int) (M : am_M) (r : Int × am_M) (h : P_law   x1 M = some r) : am_Ev L xs d me_33 0 (am_ar1 0 [.inr (.inr (some 0)), .inl (x1)]) [] 126 138 M (some (.inl r.1), 126, 138, r.2) := by
  refine ev_k (pc' := 9) (ls' := [(0, .inr (.inr (some 0))), (1, .inl (x1))]) (st' := [.inl (240), .inl (1), .inl (x1), .inr (.inr (some 14))]) (nc' := 126) (np' := 138) (M' := M) 5 rfl ?_
  obtain ⟨v1, M2, hv, h⟩ := oc_i h
  refine ev_call (t := 21) (as := [.inr (.inr (some 14)), .inl (x1), .inl (1), .inl (240)]) (rest := []) rfl rfl rfl (by omega) (Tape_take_e (by omega) (x1) (1) (240) M _ hv) ?_
  refine ev_k (pc' := 12) (ls' := [(0, .inr (.inr (some 0))), (1, .inl (x1))]) (st' := [.inl (v1)]) (nc' := 126) (np' := 138) (M' := M2) 0 rfl ?_
  obtain ⟨hR, ⟨hc, h⟩ | ⟨hc, h⟩⟩ := c_ne_i h
  · refine ev_ifc 17 rfl hR.1 (by decide) (fun _ => ?_) (fun q => absurd hc q)
    refine ev_k (pc' := 29) (ls' := [(0, .inr (.inr (some 0))), (1, .inl (x1))]) (st' := [.inr (.inr (some 14)), .inr (.inr (some 5)), .inr (.inr (some 16))]) (nc' := 126) (np' := 138) (M' := M2) 6 rfl ?_
    obtain ⟨v3, M4, hv, h⟩ := oc_i h
    refine ev_call (t := 34) (as := [.inr (.inr (some 16)), .inr (.inr (some 5)), .inr (.inr (some 14))]) (rest := []) rfl rfl rfl (by omega) (LawReader_readInto_16_5_e (by omega)  M2 _ hv) ?_
    refine ev_k (pc' := 32) (ls' := [(0, .inr (.inr (some 0))), (1, .inl (x1))]) (st' := [.inl (v3)]) (nc' := 126) (np' := 138) (M' := M4) 0 rfl ?_
    cases h
    exact ev_ret rfl
  · refine ev_ifc 17 rfl hR.1 (by decide) (fun q => absurd q hc) (fun _ => ?_)
    refine ev_k (pc' := 16) (ls' := [(0, .inr (.inr (some 0))), (1, .inl (x1))]) (st' := [.inl (-1)]) (nc' := 126) (np' := 138) (M' := M2) 1 rfl ?_
    cases h
    exact ev_ret rfl
def Country_kindAt_1_21    (s0 : Int) (M : am_M) : Option (Int) := some (s0)
def Country_kindAt_1_20     (M : am_M) : Option (Int) := (Country_kindAt_1_21    (3) M)
def Country_kindAt_1    (x1 : Int) (M : am_M) : Option (Int) := c_lt (x1) (0)
       (Country_kindAt_1_20     M)
       (c_ge (x1) (144)
       (Country_kindAt_1_20     M)
       (rd M 2 144 (x1) fun v1 => (Country_kindAt_1_21    (v1) M)))
theorem Country_kindAt_1_21_t {L : Nat} {xs : Nat → Int} {d : Nat} (hd : 0 ≤ d)     (s0 : Int) (M : am_M) (r : Int) (h : Country_kindAt_1_21    s0 M = some r) : am_Ev L xs d me_56 21 [] [.inl (s0)] 126 138 M (some (.inl r), 126, 138, M) := by
  refine ev_k (pc' := 21) (ls' := []) (st' := [.inl (s0)]) (nc' := 126) (np' := 138) (M' := M) 0 rfl ?_
  cases h
  exact ev_ret rfl
theorem Country_kindAt_1_20_t {L : Nat} {xs : Nat → Int} {d : Nat} (hd : 0 ≤ d)      (M : am_M) (r : Int) (h : Country_kindAt_1_20     M = some r) : am_Ev L xs d me_56 20 [] [] 126 138 M (some (.inl r), 126, 138, M) := by
  refine ev_k (pc' := 21) (ls' := []) (st' := [.inl (3)]) (nc' := 126) (np' := 138) (M' := M) 1 rfl ?_
  exact Country_kindAt_1_21_t hd     (3) M r h
theorem Country_kindAt_1_e {L : Nat} {xs : Nat → Int} {d : Nat} (hd : 0 ≤ d)   (x1 : Int) (M : am_M) (r : Int) (h : Country_kindAt_1   x1 M = some r) : am_Ev L xs d me_56 0 (am_ar1 0 [.inr (.inr (some 1)), .inl (x1)]) [] 126 138 M (some (.inl r), 126, 138, M) := by
  refine ev_k (pc' := 1) (ls' := [(0, .inr (.inr (some 1))), (1, .inl (x1))]) (st' := [.inl (x1)]) (nc' := 126) (np' := 138) (M' := M) 1 rfl ?_
  obtain ⟨hR, ⟨hc, h⟩ | ⟨hc, h⟩⟩ := c_lt_i h
  · refine ev_ifc 20 rfl hR.1 (by decide) (fun _ => ?_) (fun q => absurd hc q)
    exact Country_kindAt_1_20_t hd      M r h
  · refine ev_ifc 20 rfl hR.1 (by decide) (fun q => absurd q hc) (fun _ => ?_)
    refine ev_k (pc' := 8) (ls' := [(0, .inr (.inr (some 1))), (1, .inl (x1))]) (st' := [.inl (144), .inl (x1)]) (nc' := 126) (np' := 138) (M' := M) 2 rfl ?_
    obtain ⟨hR, ⟨hc, h⟩ | ⟨hc, h⟩⟩ := c_ge_i h
    · refine ev_icmp 20 rfl hR.1 hR.2 (by decide) (fun _ => ?_) (fun q => absurd hc q)
      exact Country_kindAt_1_20_t hd      M r h
    · refine ev_icmp 20 rfl hR.1 hR.2 (by decide) (fun q => absurd q hc) (fun _ => ?_)
      refine ev_k (pc' := 16) (ls' := [(0, .inr (.inr (some 1))), (1, .inl (x1))]) (st' := [.inl (x1), .inr (.inr (some 2))]) (nc' := 126) (np' := 138) (M' := M) 3 rfl ?_
      obtain ⟨hc, v1, ev, h⟩ := rd_i h
      refine ev_ald (k := 2) (t := 0) (Or.inl ⟨rfl, rfl⟩) rfl (by decide) (by decide) rfl hc ev ?_
      refine ev_k (pc' := 21) (ls' := []) (st' := [.inl (v1)]) (nc' := 126) (np' := 138) (M' := M) 1 rfl ?_
      exact Country_kindAt_1_21_t hd     (v1) M r h
def Country_isBarred_1_14    (s0 : Int) (M : am_M) : Option (Int) := ck ((s0) = 0 ∨ (s0) = 1) (some (s0))
def Country_isBarred_1    (x1 : Int) (M : am_M) : Option (Int) := ob (Country_kindAt_1 (x1) M) fun v1 => c_ne (v1) (3)
       ((Country_isBarred_1_14    (0) M))
       ((Country_isBarred_1_14    (1) M))
theorem Country_isBarred_1_14_t {L : Nat} {xs : Nat → Int} {d : Nat} (hd : 1 ≤ d)     (s0 : Int) (M : am_M) (r : Int) (h : Country_isBarred_1_14    s0 M = some r) : am_Ev L xs d me_55 14 [] [.inl (s0)] 126 138 M (some (.inl r), 126, 138, M) := by
  refine ev_k (pc' := 14) (ls' := []) (st' := [.inl (s0)]) (nc' := 126) (np' := 138) (M' := M) 0 rfl ?_
  obtain ⟨hc, h⟩ := ck_i h
  cases h
  exact ev_retz rfl rfl hc
theorem Country_isBarred_1_e {L : Nat} {xs : Nat → Int} {d : Nat} (hd : 1 ≤ d)   (x1 : Int) (M : am_M) (r : Int) (h : Country_isBarred_1   x1 M = some r) : am_Ev L xs d me_55 0 (am_ar1 0 [.inr (.inr (some 1)), .inl (x1)]) [] 126 138 M (some (.inl r), 126, 138, M) := by
  refine ev_k (pc' := 2) (ls' := [(0, .inr (.inr (some 1))), (1, .inl (x1))]) (st' := [.inl (x1), .inr (.inr (some 1))]) (nc' := 126) (np' := 138) (M' := M) 2 rfl ?_
  obtain ⟨v1, hv, h⟩ := ob_i h
  refine ev_call (t := 56) (as := [.inr (.inr (some 1)), .inl (x1)]) (rest := []) rfl rfl rfl (by omega) (Country_kindAt_1_e (by omega) (x1) M _ hv) ?_
  refine ev_k (pc' := 6) (ls' := [(0, .inr (.inr (some 1))), (1, .inl (x1))]) (st' := [.inl (3), .inl (v1)]) (nc' := 126) (np' := 138) (M' := M) 1 rfl ?_
  obtain ⟨hR, ⟨hc, h⟩ | ⟨hc, h⟩⟩ := c_ne_i h
  · refine ev_icmp 13 rfl hR.1 hR.2 (by decide) (fun _ => ?_) (fun q => absurd hc q)
    refine ev_k (pc' := 14) (ls' := []) (st' := [.inl (0)]) (nc' := 126) (np' := 138) (M' := M) 1 rfl ?_
    exact Country_isBarred_1_14_t hd     (0) M r h
  · refine ev_icmp 13 rfl hR.1 hR.2 (by decide) (fun q => absurd q hc) (fun _ => ?_)
    refine ev_k (pc' := 14) (ls' := []) (st' := [.inl (1)]) (nc' := 126) (np' := 138) (M' := M) 2 rfl ?_
    exact Country_isBarred_1_14_t hd     (1) M r h
def P_start    (x1 : Int) (M : am_M) : Option (Int × am_M) := ob (Country_isBarred_1 (x1) M) fun v1 => c_eq (v1) (0)
       (ob (Trip_beginAt_26 (x1) M) fun M2 => some (1, M2))
       (some (0, M))
theorem P_start_e {L : Nat} {xs : Nat → Int} {d : Nat} (hd : 3 ≤ d)   (x1 : Int) (M : am_M) (r : Int × am_M) (h : P_start   x1 M = some r) : am_Ev L xs d me_54 0 (am_ar1 0 [.inr (.inr (some 0)), .inl (x1)]) [] 126 138 M (some (.inl r.1), 126, 138, r.2) := by
  refine ev_k (pc' := 5) (ls' := [(0, .inr (.inr (some 0))), (1, .inl (x1))]) (st' := [.inl (x1), .inr (.inr (some 1))]) (nc' := 126) (np' := 138) (M' := M) 3 rfl ?_
  obtain ⟨v1, hv, h⟩ := ob_i h
  refine ev_call (t := 55) (as := [.inr (.inr (some 1)), .inl (x1)]) (rest := []) rfl rfl rfl (by omega) (Country_isBarred_1_e (by omega) (x1) M _ hv) ?_
  refine ev_k (pc' := 8) (ls' := [(0, .inr (.inr (some 0))), (1, .inl (x1))]) (st' := [.inl (v1)]) (nc' := 126) (np' := 138) (M' := M) 0 rfl ?_
  obtain ⟨hR, ⟨hc, h⟩ | ⟨hc, h⟩⟩ := c_eq_i h
  · refine ev_ifc 13 rfl hR.1 (by decide) (fun _ => ?_) (fun q => absurd hc q)
    refine ev_k (pc' := 18) (ls' := [(0, .inr (.inr (some 0))), (1, .inl (x1))]) (st' := [.inl (x1), .inr (.inr (some 26))]) (nc' := 126) (np' := 138) (M' := M) 3 rfl ?_
    obtain ⟨M2, hv, h⟩ := ob_i h
    refine ev_call (t := 7) (as := [.inr (.inr (some 26)), .inl (x1)]) (rest := []) rfl rfl rfl (by omega) (Trip_beginAt_26_e (by omega) (x1) M _ hv) ?_
    refine ev_k (pc' := 22) (ls' := [(0, .inr (.inr (some 0))), (1, .inl (x1))]) (st' := [.inl (1)]) (nc' := 126) (np' := 138) (M' := M2) 1 rfl ?_
    cases h
    exact ev_ret rfl
  · refine ev_ifc 13 rfl hR.1 (by decide) (fun q => absurd q hc) (fun _ => ?_)
    refine ev_k (pc' := 12) (ls' := [(0, .inr (.inr (some 0))), (1, .inl (x1))]) (st' := [.inl (0)]) (nc' := 126) (np' := 138) (M' := M) 1 rfl ?_
    cases h
    exact ev_ret rfl
def Country_tell_1_17     (M : am_M) : Option (am_M) := some (M)
def Country_tell_1    (x1 : Int) (x2 : Int) (M : am_M) : Option (am_M) := c_lt (x1) (0)
       (Country_tell_1_17     M)
       (c_ge (x1) (6)
       (Country_tell_1_17     M)
       (wa M 4 6 (x1) (x2) fun M1 => (Country_tell_1_17     M1)))
theorem Country_tell_1_17_t {L : Nat} {xs : Nat → Int} {d : Nat} (hd : 0 ≤ d)      (M : am_M) (r : am_M) (h : Country_tell_1_17     M = some r) : am_Ev L xs d me_58 17 [] [] 126 138 M (none, 126, 138, r) := by
  refine ev_k (pc' := 17) (ls' := []) (st' := []) (nc' := 126) (np' := 138) (M' := M) 0 rfl ?_
  cases h
  exact ev_ret rfl
theorem Country_tell_1_e {L : Nat} {xs : Nat → Int} {d : Nat} (hd : 0 ≤ d)   (x1 : Int) (x2 : Int) (M : am_M) (r : am_M) (h : Country_tell_1   x1 x2 M = some r) : am_Ev L xs d me_58 0 (am_ar1 0 [.inr (.inr (some 1)), .inl (x1), .inl (x2)]) [] 126 138 M (none, 126, 138, r) := by
  refine ev_k (pc' := 1) (ls' := [(0, .inr (.inr (some 1))), (1, .inl (x1)), (2, .inl (x2))]) (st' := [.inl (x1)]) (nc' := 126) (np' := 138) (M' := M) 1 rfl ?_
  obtain ⟨hR, ⟨hc, h⟩ | ⟨hc, h⟩⟩ := c_lt_i h
  · refine ev_ifc 17 rfl hR.1 (by decide) (fun _ => ?_) (fun q => absurd hc q)
    exact Country_tell_1_17_t hd      M r h
  · refine ev_ifc 17 rfl hR.1 (by decide) (fun q => absurd q hc) (fun _ => ?_)
    refine ev_k (pc' := 7) (ls' := [(0, .inr (.inr (some 1))), (1, .inl (x1)), (2, .inl (x2))]) (st' := [.inl (6), .inl (x1)]) (nc' := 126) (np' := 138) (M' := M) 2 rfl ?_
    obtain ⟨hR, ⟨hc, h⟩ | ⟨hc, h⟩⟩ := c_ge_i h
    · refine ev_icmp 17 rfl hR.1 hR.2 (by decide) (fun _ => ?_) (fun q => absurd hc q)
      exact Country_tell_1_17_t hd      M r h
    · refine ev_icmp 17 rfl hR.1 hR.2 (by decide) (fun q => absurd q hc) (fun _ => ?_)
      refine ev_k (pc' := 16) (ls' := [(0, .inr (.inr (some 1))), (1, .inl (x1)), (2, .inl (x2))]) (st' := [.inl (x2), .inl (x1), .inr (.inr (some 4))]) (nc' := 126) (np' := 138) (M' := M) 4 rfl ?_
      obtain ⟨hc, M1, eM, h⟩ := wa_i h
      refine ev_iast (k := 4) rfl (by decide) rfl hc eM ?_
      exact Country_tell_1_17_t hd      M1 r h
def J_min_10    (s0 : Int) (M : am_M) : Option (Int) := some (s0)
def J_min    (x0 : Int) (x1 : Int) (M : am_M) : Option (Int) := c_gt (x0) (x1)
       ((J_min_10    (x1) M))
       ((J_min_10    (x0) M))
theorem J_min_10_t {L : Nat} {xs : Nat → Int} {d : Nat} (hd : 0 ≤ d)     (s0 : Int) (M : am_M) (r : Int) (h : J_min_10    s0 M = some r) : am_Ev L xs d me_60 10 [] [.inl (s0)] 126 138 M (some (.inl r), 126, 138, M) := by
  refine ev_k (pc' := 10) (ls' := []) (st' := [.inl (s0)]) (nc' := 126) (np' := 138) (M' := M) 0 rfl ?_
  cases h
  exact ev_ret rfl
theorem J_min_e {L : Nat} {xs : Nat → Int} {d : Nat} (hd : 0 ≤ d)   (x0 : Int) (x1 : Int) (M : am_M) (r : Int) (h : J_min   x0 x1 M = some r) : am_Ev L xs d me_60 0 (am_ar1 0 [.inl (x0), .inl (x1)]) [] 126 138 M (some (.inl r), 126, 138, M) := by
  refine ev_k (pc' := 2) (ls' := [(0, .inl (x0)), (1, .inl (x1))]) (st' := [.inl (x1), .inl (x0)]) (nc' := 126) (np' := 138) (M' := M) 2 rfl ?_
  obtain ⟨hR, ⟨hc, h⟩ | ⟨hc, h⟩⟩ := c_gt_i h
  · refine ev_icmp 9 rfl hR.1 hR.2 (by decide) (fun _ => ?_) (fun q => absurd hc q)
    refine ev_k (pc' := 10) (ls' := []) (st' := [.inl (x1)]) (nc' := 126) (np' := 138) (M' := M) 1 rfl ?_
    exact J_min_10_t hd     (x1) M r h
  · refine ev_icmp 9 rfl hR.1 hR.2 (by decide) (fun q => absurd q hc) (fun _ => ?_)
    refine ev_k (pc' := 10) (ls' := []) (st' := [.inl (x0)]) (nc' := 126) (np' := 138) (M' := M) 2 rfl ?_
    exact J_min_10_t hd     (x0) M r h
def J_max_10    (s0 : Int) (M : am_M) : Option (Int) := some (s0)
def J_max    (x0 : Int) (x1 : Int) (M : am_M) : Option (Int) := c_lt (x0) (x1)
       ((J_max_10    (x1) M))
       ((J_max_10    (x0) M))
theorem J_max_10_t {L : Nat} {xs : Nat → Int} {d : Nat} (hd : 0 ≤ d)     (s0 : Int) (M : am_M) (r : Int) (h : J_max_10    s0 M = some r) : am_Ev L xs d me_61 10 [] [.inl (s0)] 126 138 M (some (.inl r), 126, 138, M) := by
  refine ev_k (pc' := 10) (ls' := []) (st' := [.inl (s0)]) (nc' := 126) (np' := 138) (M' := M) 0 rfl ?_
  cases h
  exact ev_ret rfl
theorem J_max_e {L : Nat} {xs : Nat → Int} {d : Nat} (hd : 0 ≤ d)   (x0 : Int) (x1 : Int) (M : am_M) (r : Int) (h : J_max   x0 x1 M = some r) : am_Ev L xs d me_61 0 (am_ar1 0 [.inl (x0), .inl (x1)]) [] 126 138 M (some (.inl r), 126, 138, M) := by
  refine ev_k (pc' := 2) (ls' := [(0, .inl (x0)), (1, .inl (x1))]) (st' := [.inl (x1), .inl (x0)]) (nc' := 126) (np' := 138) (M' := M) 2 rfl ?_
  obtain ⟨hR, ⟨hc, h⟩ | ⟨hc, h⟩⟩ := c_lt_i h
  · refine ev_icmp 9 rfl hR.1 hR.2 (by decide) (fun _ => ?_) (fun q => absurd hc q)
    refine ev_k (pc' := 10) (ls' := []) (st' := [.inl (x1)]) (nc' := 126) (np' := 138) (M' := M) 1 rfl ?_
    exact J_max_10_t hd     (x1) M r h
  · refine ev_icmp 9 rfl hR.1 hR.2 (by decide) (fun q => absurd q hc) (fun _ => ?_)
    refine ev_k (pc' := 10) (ls' := []) (st' := [.inl (x0)]) (nc' := 126) (np' := 138) (M' := M) 2 rfl ?_
    exact J_max_10_t hd     (x0) M r h
def Trip_setTired_26_26     (M : am_M) : Option (am_M) := some (M)
def Trip_setTired_26    (x1 : Int) (x2 : Int) (M : am_M) : Option (am_M) := c_lt (x1) (0)
       (Trip_setTired_26_26     M)
       (c_ge (x1) (6)
       (Trip_setTired_26_26     M)
       (ob (J_min (99) (x2) M) fun v1 => ob (J_max (0) (v1) M) fun v2 => wa M 27 6 (x1) (v2) fun M3 => (Trip_setTired_26_26     M3)))
theorem Trip_setTired_26_26_t {L : Nat} {xs : Nat → Int} {d : Nat} (hd : 1 ≤ d)      (M : am_M) (r : am_M) (h : Trip_setTired_26_26     M = some r) : am_Ev L xs d me_59 26 [] [] 126 138 M (none, 126, 138, r) := by
  refine ev_k (pc' := 26) (ls' := []) (st' := []) (nc' := 126) (np' := 138) (M' := M) 0 rfl ?_
  cases h
  exact ev_ret rfl
theorem Trip_setTired_26_e {L : Nat} {xs : Nat → Int} {d : Nat} (hd : 1 ≤ d)   (x1 : Int) (x2 : Int) (M : am_M) (r : am_M) (h : Trip_setTired_26   x1 x2 M = some r) : am_Ev L xs d me_59 0 (am_ar1 0 [.inr (.inr (some 26)), .inl (x1), .inl (x2)]) [] 126 138 M (none, 126, 138, r) := by
  refine ev_k (pc' := 1) (ls' := [(0, .inr (.inr (some 26))), (1, .inl (x1)), (2, .inl (x2))]) (st' := [.inl (x1)]) (nc' := 126) (np' := 138) (M' := M) 1 rfl ?_
  obtain ⟨hR, ⟨hc, h⟩ | ⟨hc, h⟩⟩ := c_lt_i h
  · refine ev_ifc 26 rfl hR.1 (by decide) (fun _ => ?_) (fun q => absurd hc q)
    exact Trip_setTired_26_26_t hd      M r h
  · refine ev_ifc 26 rfl hR.1 (by decide) (fun q => absurd q hc) (fun _ => ?_)
    refine ev_k (pc' := 7) (ls' := [(0, .inr (.inr (some 26))), (1, .inl (x1)), (2, .inl (x2))]) (st' := [.inl (6), .inl (x1)]) (nc' := 126) (np' := 138) (M' := M) 2 rfl ?_
    obtain ⟨hR, ⟨hc, h⟩ | ⟨hc, h⟩⟩ := c_ge_i h
    · refine ev_icmp 26 rfl hR.1 hR.2 (by decide) (fun _ => ?_) (fun q => absurd hc q)
      exact Trip_setTired_26_26_t hd      M r h
    · refine ev_icmp 26 rfl hR.1 hR.2 (by decide) (fun q => absurd q hc) (fun _ => ?_)
      refine ev_k (pc' := 19) (ls' := [(0, .inr (.inr (some 26))), (1, .inl (x1)), (2, .inl (x2))]) (st' := [.inl (x2), .inl (99), .inl (0), .inl (x1), .inr (.inr (some 27))]) (nc' := 126) (np' := 138) (M' := M) 6 rfl ?_
      obtain ⟨v1, hv, h⟩ := ob_i h
      refine ev_call (t := 60) (as := [.inl (99), .inl (x2)]) (rest := [.inl (0), .inl (x1), .inr (.inr (some 27))]) rfl rfl rfl (by omega) (J_min_e (by omega) (99) (x2) M _ hv) ?_
      refine ev_k (pc' := 22) (ls' := [(0, .inr (.inr (some 26))), (1, .inl (x1)), (2, .inl (x2))]) (st' := [.inl (v1), .inl (0), .inl (x1), .inr (.inr (some 27))]) (nc' := 126) (np' := 138) (M' := M) 0 rfl ?_
      obtain ⟨v2, hv, h⟩ := ob_i h
      refine ev_call (t := 61) (as := [.inl (0), .inl (v1)]) (rest := [.inl (x1), .inr (.inr (some 27))]) rfl rfl rfl (by omega) (J_max_e (by omega) (0) (v1) M _ hv) ?_
      refine ev_k (pc' := 25) (ls' := [(0, .inr (.inr (some 26))), (1, .inl (x1)), (2, .inl (x2))]) (st' := [.inl (v2), .inl (x1), .inr (.inr (some 27))]) (nc' := 126) (np' := 138) (M' := M) 0 rfl ?_
      obtain ⟨hc, M3, eM, h⟩ := wa_i h
      refine ev_iast (k := 27) rfl (by decide) rfl hc eM ?_
      exact Trip_setTired_26_26_t hd      M3 r h
