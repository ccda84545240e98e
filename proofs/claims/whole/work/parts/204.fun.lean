def Trip_minutesOnto_26_15    (x1 : Int) (s0 : Int) (M : am_M) : Option (Int × am_M) := ob (Trip_kindAt_26 (x1) M) fun v1 => ob (Trip_widthAt_26 (x1) M) fun v2 => ob (Trip_grownAt_26 (x1) M) fun v3 => oc (Law_walking_5 (v1) (v2) (v3) (s0) (M 26 13) M) fun v4 M5 => some (v4, M5)
def Trip_minutesOnto_26    (x1 : Int) (x2 : Int) (M : am_M) : Option (Int × am_M) := ob (Trip_marksAt_26 (x1) M) fun v1 => c_eq (b_and (v1) (x2)) (0)
       ((Trip_minutesOnto_26_15    (x1) (0) M))
       ((Trip_minutesOnto_26_15    (x1) (1) M))
theorem Trip_minutesOnto_26_15_t {L : Nat} {xs : Nat → Int} {d : Nat} (hd : 3 ≤ d)     (x1 : Int) (s0 : Int) (M : am_M) (r : Int × am_M) (h : Trip_minutesOnto_26_15    x1 s0 M = some r) : am_Ev L xs d me_98 15 [(0, .inr (.inr (some 26))), (1, .inl (x1))] [.inl (s0)] 126 138 M (some (.inl r.1), 126, 138, r.2) := by
  refine ev_k (pc' := 22) (ls' := [(3, .inl (s0)), (0, .inr (.inr (some 26))), (1, .inl (x1))]) (st' := [.inl (x1), .inr (.inr (some 26)), .inr (.inr (some 5))]) (nc' := 126) (np' := 138) (M' := M) 5 rfl ?_
  obtain ⟨v1, hv, h⟩ := ob_i h
  refine ev_call (t := 99) (as := [.inr (.inr (some 26)), .inl (x1)]) (rest := [.inr (.inr (some 5))]) rfl rfl rfl (by omega) (Trip_kindAt_26_e (by omega) (x1) M _ hv) ?_
  refine ev_k (pc' := 27) (ls' := [(3, .inl (s0)), (0, .inr (.inr (some 26))), (1, .inl (x1))]) (st' := [.inl (x1), .inr (.inr (some 26)), .inl (v1), .inr (.inr (some 5))]) (nc' := 126) (np' := 138) (M' := M) 2 rfl ?_
  obtain ⟨v2, hv, h⟩ := ob_i h
  refine ev_call (t := 100) (as := [.inr (.inr (some 26)), .inl (x1)]) (rest := [.inl (v1), .inr (.inr (some 5))]) rfl rfl rfl (by omega) (Trip_widthAt_26_e (by omega) (x1) M _ hv) ?_
  refine ev_k (pc' := 32) (ls' := [(3, .inl (s0)), (0, .inr (.inr (some 26))), (1, .inl (x1))]) (st' := [.inl (x1), .inr (.inr (some 26)), .inl (v2), .inl (v1), .inr (.inr (some 5))]) (nc' := 126) (np' := 138) (M' := M) 2 rfl ?_
  obtain ⟨v3, hv, h⟩ := ob_i h
  refine ev_call (t := 101) (as := [.inr (.inr (some 26)), .inl (x1)]) (rest := [.inl (v2), .inl (v1), .inr (.inr (some 5))]) rfl rfl rfl (by omega) (Trip_grownAt_26_e (by omega) (x1) M _ hv) ?_
  refine ev_k (pc' := 40) (ls' := [(3, .inl (s0)), (0, .inr (.inr (some 26))), (1, .inl (x1))]) (st' := [.inl (M 26 13), .inl (s0), .inl (v3), .inl (v2), .inl (v1), .inr (.inr (some 5))]) (nc' := 126) (np' := 138) (M' := M) 3 rfl ?_
  obtain ⟨v4, M5, hv, h⟩ := oc_i h
  refine ev_call (t := 102) (as := [.inr (.inr (some 5)), .inl (v1), .inl (v2), .inl (v3), .inl (s0), .inl (M 26 13)]) (rest := []) rfl rfl rfl (by omega) (Law_walking_5_e (by omega) (v1) (v2) (v3) (s0) (M 26 13) M _ hv) ?_
  refine ev_k (pc' := 43) (ls' := [(3, .inl (s0)), (0, .inr (.inr (some 26))), (1, .inl (x1))]) (st' := [.inl (v4)]) (nc' := 126) (np' := 138) (M' := M5) 0 rfl ?_
  cases h
  exact ev_ret rfl
theorem Trip_minutesOnto_26_e {L : Nat} {xs : Nat → Int} {d : Nat} (hd : 3 ≤ d)   (x1 : Int) (x2 : Int) (M : am_M) (r : Int × am_M) (h : Trip_minutesOnto_26   x1 x2 M = some r) : am_Ev L xs d me_98 0 (am_ar1 0 [.inr (.inr (some 26)), .inl (x1), .inl (x2)]) [] 126 138 M (some (.inl r.1), 126, 138, r.2) := by
  refine ev_k (pc' := 2) (ls' := [(0, .inr (.inr (some 26))), (1, .inl (x1)), (2, .inl (x2))]) (st' := [.inl (x1), .inr (.inr (some 26))]) (nc' := 126) (np' := 138) (M' := M) 2 rfl ?_
  obtain ⟨v1, hv, h⟩ := ob_i h
  refine ev_call (t := 91) (as := [.inr (.inr (some 26)), .inl (x1)]) (rest := []) rfl rfl rfl (by omega) (Trip_marksAt_26_e (by omega) (x1) M _ hv) ?_
  refine ev_k (pc' := 7) (ls' := [(0, .inr (.inr (some 26))), (1, .inl (x1)), (2, .inl (x2))]) (st' := [.inl (b_and (v1) (x2))]) (nc' := 126) (np' := 138) (M' := M) 2 rfl ?_
  obtain ⟨hR, ⟨hc, h⟩ | ⟨hc, h⟩⟩ := c_eq_i h
  · refine ev_ifc 14 rfl hR.1 (by decide) (fun _ => ?_) (fun q => absurd hc q)
    refine ev_k (pc' := 15) (ls' := [(0, .inr (.inr (some 26))), (1, .inl (x1))]) (st' := [.inl (0)]) (nc' := 126) (np' := 138) (M' := M) 1 rfl ?_
    exact Trip_minutesOnto_26_15_t hd     (x1) (0) M r h
  · refine ev_ifc 14 rfl hR.1 (by decide) (fun q => absurd q hc) (fun _ => ?_)
    refine ev_k (pc' := 15) (ls' := [(0, .inr (.inr (some 26))), (1, .inl (x1))]) (st' := [.inl (1)]) (nc' := 126) (np' := 138) (M' := M) 2 rfl ?_
    exact Trip_minutesOnto_26_15_t hd     (x1) (1) M r h
def Outing_goTo_50_26_222     (M : am_M) : Option (am_M) := some (M)
def Outing_goTo_50_26    (x2 : Int) (M : am_M) : Option (am_M) := ob (Trip_cellAt_26 (M 26 11) M) fun v1 => ob (Country_neighbour (v1) (x2) M) fun v2 => c_ge (v2) (0)
       (ob (Trip_cellAt_26 ((M 26 11) + (1)) M) fun v3 => c_ne (v2) (v3)
       (ob (Trip_cellAt_26 ((M 26 11) - (1)) M) fun v4 => c_ne (v2) (v4)
       (ob (Outing_canCut_50_26 (v2) M) fun v5 => c_eq (v5) (0)
       (Outing_goTo_50_26_222     M)
       (ob (Country_kindAt_1 (v2) M) fun v6 => ob (Country_armOf_1 (M 26 9) M) fun v7 => ob (Trip_tiredOf_26 (M 26 9) M) fun v8 => oc (Law_tiring_5 (v6) (v7) (v8) (M 26 13) M) fun v9 M10 => oc (Law_cutting_5 (v6) (M10 1 3) (v7) (v8) (M10 26 13) M10) fun v11 M12 => oc (Outing_spend_50_26 (v11) M12) fun v13 M14 => c_eq (v13) (0)
       (Outing_goTo_50_26_222     M14)
       (ob (Trip_setTired_26 (M14 26 9) ((v8) + (v9)) M14) fun M15 => ob (Trip_append_26 (v2) M15) fun M16 => fw M16 50 7 ((M16 50 7) + (1)) fun M17 => (Outing_goTo_50_26_222     M17))))
       (oc (Trip_minutesOnto_26 ((M 26 11) - (1)) (2) M) fun v18 M19 => oc (Outing_spend_50_26 (v18) M19) fun v20 M21 => c_eq (v20) (0)
       (Outing_goTo_50_26_222     M21)
       (fw M21 26 11 ((M 26 11) - (1)) fun M22 => (Outing_goTo_50_26_222     M22))))
       (oc (Trip_minutesOnto_26 ((M 26 11) + (1)) (1) M) fun v23 M24 => oc (Outing_spend_50_26 (v23) M24) fun v25 M26 => c_eq (v25) (0)
       (Outing_goTo_50_26_222     M26)
       (fw M26 26 11 ((M 26 11) + (1)) fun M27 => (Outing_goTo_50_26_222     M27))))
       (some (M))
theorem Outing_goTo_50_26_222_t {L : Nat} {xs : Nat → Int} {d : Nat} (hd : 4 ≤ d)      (M : am_M) (r : am_M) (h : Outing_goTo_50_26_222     M = some r) : am_Ev L xs d me_96 222 [] [] 126 138 M (none, 126, 138, r) := by
  refine ev_k (pc' := 222) (ls' := []) (st' := []) (nc' := 126) (np' := 138) (M' := M) 0 rfl ?_
  cases h
  exact ev_ret rfl
theorem Outing_goTo_50_26_e {L : Nat} {xs : Nat → Int} {d : Nat} (hd : 4 ≤ d)   (x2 : Int) (M : am_M) (r : am_M) (h : Outing_goTo_50_26   x2 M = some r) : am_Ev L xs d me_96 0 (am_ar1 0 [.inr (.inr (some 50)), .inr (.inr (some 26)), .inl (x2)]) [] 126 138 M (none, 126, 138, r) := by
  refine ev_k (pc' := 7) (ls' := [(3, .inl (M 26 11)), (0, .inr (.inr (some 50))), (1, .inr (.inr (some 26))), (2, .inl (x2))]) (st' := [.inl (M 26 11), .inr (.inr (some 26))]) (nc' := 126) (np' := 138) (M' := M) 5 rfl ?_
  obtain ⟨v1, hv, h⟩ := ob_i h
  refine ev_call (t := 31) (as := [.inr (.inr (some 26)), .inl (M 26 11)]) (rest := []) rfl rfl rfl (by omega) (Trip_cellAt_26_e (by omega) (M 26 11) M _ hv) ?_
  refine ev_k (pc' := 11) (ls' := [(3, .inl (M 26 11)), (0, .inr (.inr (some 50))), (1, .inr (.inr (some 26))), (2, .inl (x2))]) (st' := [.inl (x2), .inl (v1)]) (nc' := 126) (np' := 138) (M' := M) 1 rfl ?_
  obtain ⟨v2, hv, h⟩ := ob_i h
  refine ev_call (t := 97) (as := [.inl (v1), .inl (x2)]) (rest := []) rfl rfl rfl (by omega) (Country_neighbour_e (by omega) (v1) (x2) M _ hv) ?_
  refine ev_k (pc' := 18) (ls' := [(4, .inl (v2)), (3, .inl (M 26 11)), (0, .inr (.inr (some 50))), (1, .inr (.inr (some 26))), (2, .inl (x2))]) (st' := [.inl (v2)]) (nc' := 126) (np' := 138) (M' := M) 2 rfl ?_
  obtain ⟨hR, ⟨hc, h⟩ | ⟨hc, h⟩⟩ := c_ge_i h
  · refine ev_ifc 22 rfl hR.1 (by decide) (fun _ => ?_) (fun q => absurd hc q)
    refine ev_k (pc' := 28) (ls' := [(4, .inl (v2)), (3, .inl (M 26 11)), (0, .inr (.inr (some 50))), (1, .inr (.inr (some 26))), (2, .inl (x2))]) (st' := [.inl ((M 26 11) + (1)), .inr (.inr (some 26)), .inl (v2)]) (nc' := 126) (np' := 138) (M' := M) 5 rfl ?_
    obtain ⟨v3, hv, h⟩ := ob_i h
    refine ev_call (t := 31) (as := [.inr (.inr (some 26)), .inl ((M 26 11) + (1))]) (rest := [.inl (v2)]) rfl rfl rfl (by omega) (Trip_cellAt_26_e (by omega) ((M 26 11) + (1)) M _ hv) ?_
    refine ev_k (pc' := 31) (ls' := [(4, .inl (v2)), (3, .inl (M 26 11)), (0, .inr (.inr (some 50))), (1, .inr (.inr (some 26))), (2, .inl (x2))]) (st' := [.inl (v3), .inl (v2)]) (nc' := 126) (np' := 138) (M' := M) 0 rfl ?_
    obtain ⟨hR, ⟨hc, h⟩ | ⟨hc, h⟩⟩ := c_ne_i h
    · refine ev_icmp 60 rfl hR.1 hR.2 (by decide) (fun _ => ?_) (fun q => absurd hc q)
      refine ev_k (pc' := 66) (ls' := [(4, .inl (v2)), (3, .inl (M 26 11)), (0, .inr (.inr (some 50))), (1, .inr (.inr (some 26))), (2, .inl (x2))]) (st' := [.inl ((M 26 11) - (1)), .inr (.inr (some 26)), .inl (v2)]) (nc' := 126) (np' := 138) (M' := M) 5 rfl ?_
      obtain ⟨v4, hv, h⟩ := ob_i h
      refine ev_call (t := 31) (as := [.inr (.inr (some 26)), .inl ((M 26 11) - (1))]) (rest := [.inl (v2)]) rfl rfl rfl (by omega) (Trip_cellAt_26_e (by omega) ((M 26 11) - (1)) M _ hv) ?_
      refine ev_k (pc' := 69) (ls' := [(4, .inl (v2)), (3, .inl (M 26 11)), (0, .inr (.inr (some 50))), (1, .inr (.inr (some 26))), (2, .inl (x2))]) (st' := [.inl (v4), .inl (v2)]) (nc' := 126) (np' := 138) (M' := M) 0 rfl ?_
      obtain ⟨hR, ⟨hc, h⟩ | ⟨hc, h⟩⟩ := c_ne_i h
      · refine ev_icmp 98 rfl hR.1 hR.2 (by decide) (fun _ => ?_) (fun q => absurd hc q)
        refine ev_k (pc' := 102) (ls' := [(4, .inl (v2)), (3, .inl (M 26 11)), (0, .inr (.inr (some 50))), (1, .inr (.inr (some 26))), (2, .inl (x2))]) (st' := [.inl (v2), .inr (.inr (some 26)), .inr (.inr (some 50))]) (nc' := 126) (np' := 138) (M' := M) 3 rfl ?_
        obtain ⟨v5, hv, h⟩ := ob_i h
        refine ev_call (t := 103) (as := [.inr (.inr (some 50)), .inr (.inr (some 26)), .inl (v2)]) (rest := []) rfl rfl rfl (by omega) (Outing_canCut_50_26_e (by omega) (v2) M _ hv) ?_
        refine ev_k (pc' := 105) (ls' := [(4, .inl (v2)), (3, .inl (M 26 11)), (0, .inr (.inr (some 50))), (1, .inr (.inr (some 26))), (2, .inl (x2))]) (st' := [.inl (v5)]) (nc' := 126) (np' := 138) (M' := M) 0 rfl ?_
        obtain ⟨hR, ⟨hc, h⟩ | ⟨hc, h⟩⟩ := c_eq_i h
        · refine ev_ifc 222 rfl hR.1 (by decide) (fun _ => ?_) (fun q => absurd hc q)
          exact Outing_goTo_50_26_222_t hd      M r h
        · refine ev_ifc 222 rfl hR.1 (by decide) (fun q => absurd q hc) (fun _ => ?_)
          refine ev_k (pc' := 114) (ls' := [(4, .inl (v2)), (3, .inl (M 26 11)), (0, .inr (.inr (some 50))), (1, .inr (.inr (some 26))), (2, .inl (x2))]) (st' := [.inl (v2), .inr (.inr (some 1))]) (nc' := 126) (np' := 138) (M' := M) 3 rfl ?_
          obtain ⟨v6, hv, h⟩ := ob_i h
          refine ev_call (t := 56) (as := [.inr (.inr (some 1)), .inl (v2)]) (rest := []) rfl rfl rfl (by omega) (Country_kindAt_1_e (by omega) (v2) M _ hv) ?_
          refine ev_k (pc' := 127) (ls' := [(5, .inl (v6)), (4, .inl (v2)), (3, .inl (M 26 11)), (0, .inr (.inr (some 50))), (1, .inr (.inr (some 26))), (2, .inl (x2))]) (st' := [.inl (M 26 9), .inr (.inr (some 1))]) (nc' := 126) (np' := 138) (M' := M) 5 rfl ?_
          obtain ⟨v7, hv, h⟩ := ob_i h
          refine ev_call (t := 63) (as := [.inr (.inr (some 1)), .inl (M 26 9)]) (rest := []) rfl rfl rfl (by omega) (Country_armOf_1_e (by omega) (M 26 9) M _ hv) ?_
          refine ev_k (pc' := 137) (ls' := [(6, .inl (v7)), (5, .inl (v6)), (4, .inl (v2)), (3, .inl (M 26 11)), (0, .inr (.inr (some 50))), (1, .inr (.inr (some 26))), (2, .inl (x2))]) (st' := [.inl (M 26 9), .inr (.inr (some 26))]) (nc' := 126) (np' := 138) (M' := M) 4 rfl ?_
          obtain ⟨v8, hv, h⟩ := ob_i h
          refine ev_call (t := 82) (as := [.inr (.inr (some 26)), .inl (M 26 9)]) (rest := []) rfl rfl rfl (by omega) (Trip_tiredOf_26_e (by omega) (M 26 9) M _ hv) ?_
          refine ev_k (pc' := 156) (ls' := [(7, .inl (v8)), (6, .inl (v7)), (5, .inl (v6)), (4, .inl (v2)), (3, .inl (M 26 11)), (0, .inr (.inr (some 50))), (1, .inr (.inr (some 26))), (2, .inl (x2))]) (st' := [.inl (M 26 13), .inl (v8), .inl (v7), .inl (v6), .inr (.inr (some 5))]) (nc' := 126) (np' := 138) (M' := M) 8 rfl ?_
          obtain ⟨v9, M10, hv, h⟩ := oc_i h
          refine ev_call (t := 105) (as := [.inr (.inr (some 5)), .inl (v6), .inl (v7), .inl (v8), .inl (M 26 13)]) (rest := []) rfl rfl rfl (by omega) (Law_tiring_5_e (by omega) (v6) (v7) (v8) (M 26 13) M _ hv) ?_
          refine ev_k (pc' := 184) (ls' := [(8, .inl (v9)), (7, .inl (v8)), (6, .inl (v7)), (5, .inl (v6)), (4, .inl (v2)), (3, .inl (M 26 11)), (0, .inr (.inr (some 50))), (1, .inr (.inr (some 26))), (2, .inl (x2))]) (st' := [.inl (M10 26 13), .inl (v8), .inl (v7), .inl (M10 1 3), .inl (v6), .inr (.inr (some 5)), .inr (.inr (some 26)), .inr (.inr (some 50))]) (nc' := 126) (np' := 138) (M' := M10) 13 rfl ?_
          obtain ⟨v11, M12, hv, h⟩ := oc_i h
          refine ev_call (t := 106) (as := [.inr (.inr (some 5)), .inl (v6), .inl (M10 1 3), .inl (v7), .inl (v8), .inl (M10 26 13)]) (rest := [.inr (.inr (some 26)), .inr (.inr (some 50))]) rfl rfl rfl (by omega) (Law_cutting_5_e (by omega) (v6) (M10 1 3) (v7) (v8) (M10 26 13) M10 _ hv) ?_
          refine ev_k (pc' := 187) (ls' := [(8, .inl (v9)), (7, .inl (v8)), (6, .inl (v7)), (5, .inl (v6)), (4, .inl (v2)), (3, .inl (M 26 11)), (0, .inr (.inr (some 50))), (1, .inr (.inr (some 26))), (2, .inl (x2))]) (st' := [.inl (v11), .inr (.inr (some 26)), .inr (.inr (some 50))]) (nc' := 126) (np' := 138) (M' := M12) 0 rfl ?_
          obtain ⟨v13, M14, hv, h⟩ := oc_i h
          refine ev_call (t := 81) (as := [.inr (.inr (some 50)), .inr (.inr (some 26)), .inl (v11)]) (rest := []) rfl rfl rfl (by omega) (Outing_spend_50_26_e (by omega) (v11) M12 _ hv) ?_
          refine ev_k (pc' := 190) (ls' := [(8, .inl (v9)), (7, .inl (v8)), (6, .inl (v7)), (5, .inl (v6)), (4, .inl (v2)), (3, .inl (M 26 11)), (0, .inr (.inr (some 50))), (1, .inr (.inr (some 26))), (2, .inl (x2))]) (st' := [.inl (v13)]) (nc' := 126) (np' := 138) (M' := M14) 0 rfl ?_
          obtain ⟨hR, ⟨hc, h⟩ | ⟨hc, h⟩⟩ := c_eq_i h
          · refine ev_ifc 222 rfl hR.1 (by decide) (fun _ => ?_) (fun q => absurd hc q)
            exact Outing_goTo_50_26_222_t hd      M14 r h
          · refine ev_ifc 222 rfl hR.1 (by decide) (fun q => absurd q hc) (fun _ => ?_)
            refine ev_k (pc' := 203) (ls' := [(8, .inl (v9)), (7, .inl (v8)), (6, .inl (v7)), (5, .inl (v6)), (4, .inl (v2)), (3, .inl (M 26 11)), (0, .inr (.inr (some 50))), (1, .inr (.inr (some 26))), (2, .inl (x2))]) (st' := [.inl ((v8) + (v9)), .inl (M14 26 9), .inr (.inr (some 26))]) (nc' := 126) (np' := 138) (M' := M14) 6 rfl ?_
            obtain ⟨M15, hv, h⟩ := ob_i h
            refine ev_call (t := 59) (as := [.inr (.inr (some 26)), .inl (M14 26 9), .inl ((v8) + (v9))]) (rest := []) rfl rfl rfl (by omega) (Trip_setTired_26_e (by omega) (M14 26 9) ((v8) + (v9)) M14 _ hv) ?_
            refine ev_k (pc' := 209) (ls' := [(8, .inl (v9)), (7, .inl (v8)), (6, .inl (v7)), (5, .inl (v6)), (4, .inl (v2)), (3, .inl (M 26 11)), (0, .inr (.inr (some 50))), (1, .inr (.inr (some 26))), (2, .inl (x2))]) (st' := [.inl (v2), .inr (.inr (some 26))]) (nc' := 126) (np' := 138) (M' := M15) 2 rfl ?_
            obtain ⟨M16, hv, h⟩ := ob_i h
            refine ev_call (t := 8) (as := [.inr (.inr (some 26)), .inl (v2)]) (rest := []) rfl rfl rfl (by omega) (Trip_append_26_e (by omega) (v2) M15 _ hv) ?_
            refine ev_k (pc' := 222) (ls' := []) (st' := []) (nc' := 126) (np' := 138) (M' := am_up M16 50 7 ((M16 50 7) + (1))) 6 rfl ?_
            obtain ⟨M17, eM, h⟩ := fw_i h
            rw [← eM]
            exact Outing_goTo_50_26_222_t hd      M17 r h
      · refine ev_icmp 98 rfl hR.1 hR.2 (by decide) (fun q => absurd q hc) (fun _ => ?_)
        refine ev_k (pc' := 79) (ls' := [(4, .inl (v2)), (3, .inl (M 26 11)), (0, .inr (.inr (some 50))), (1, .inr (.inr (some 26))), (2, .inl (x2))]) (st' := [.inl (2), .inl ((M 26 11) - (1)), .inr (.inr (some 26)), .inr (.inr (some 26)), .inr (.inr (some 50))]) (nc' := 126) (np' := 138) (M' := M) 7 rfl ?_
        obtain ⟨v18, M19, hv, h⟩ := oc_i h
        refine ev_call (t := 98) (as := [.inr (.inr (some 26)), .inl ((M 26 11) - (1)), .inl (2)]) (rest := [.inr (.inr (some 26)), .inr (.inr (some 50))]) rfl rfl rfl (by omega) (Trip_minutesOnto_26_e (by omega) ((M 26 11) - (1)) (2) M _ hv) ?_
        refine ev_k (pc' := 82) (ls' := [(4, .inl (v2)), (3, .inl (M 26 11)), (0, .inr (.inr (some 50))), (1, .inr (.inr (some 26))), (2, .inl (x2))]) (st' := [.inl (v18), .inr (.inr (some 26)), .inr (.inr (some 50))]) (nc' := 126) (np' := 138) (M' := M19) 0 rfl ?_
        obtain ⟨v20, M21, hv, h⟩ := oc_i h
        refine ev_call (t := 81) (as := [.inr (.inr (some 50)), .inr (.inr (some 26)), .inl (v18)]) (rest := []) rfl rfl rfl (by omega) (Outing_spend_50_26_e (by omega) (v18) M19 _ hv) ?_
        refine ev_k (pc' := 85) (ls' := [(4, .inl (v2)), (3, .inl (M 26 11)), (0, .inr (.inr (some 50))), (1, .inr (.inr (some 26))), (2, .inl (x2))]) (st' := [.inl (v20)]) (nc' := 126) (np' := 138) (M' := M21) 0 rfl ?_
        obtain ⟨hR, ⟨hc, h⟩ | ⟨hc, h⟩⟩ := c_eq_i h
        · refine ev_ifc 222 rfl hR.1 (by decide) (fun _ => ?_) (fun q => absurd hc q)
          exact Outing_goTo_50_26_222_t hd      M21 r h
        · refine ev_ifc 222 rfl hR.1 (by decide) (fun q => absurd q hc) (fun _ => ?_)
          refine ev_k (pc' := 95) (ls' := [(4, .inl (v2)), (3, .inl (M 26 11)), (0, .inr (.inr (some 50))), (1, .inr (.inr (some 26))), (2, .inl (x2))]) (st' := []) (nc' := 126) (np' := 138) (M' := am_up M21 26 11 ((M 26 11) - (1))) 5 rfl ?_
          obtain ⟨M22, eM, h⟩ := fw_i h
          rw [← eM]
          refine ev_k (pc' := 222) (ls' := []) (st' := []) (nc' := 126) (np' := 138) (M' := M22) 1 rfl ?_
          exact Outing_goTo_50_26_222_t hd      M22 r h
    · refine ev_icmp 60 rfl hR.1 hR.2 (by decide) (fun q => absurd q hc) (fun _ => ?_)
      refine ev_k (pc' := 41) (ls' := [(4, .inl (v2)), (3, .inl (M 26 11)), (0, .inr (.inr (some 50))), (1, .inr (.inr (some 26))), (2, .inl (x2))]) (st' := [.inl (1), .inl ((M 26 11) + (1)), .inr (.inr (some 26)), .inr (.inr (some 26)), .inr (.inr (some 50))]) (nc' := 126) (np' := 138) (M' := M) 7 rfl ?_
      obtain ⟨v23, M24, hv, h⟩ := oc_i h
      refine ev_call (t := 98) (as := [.inr (.inr (some 26)), .inl ((M 26 11) + (1)), .inl (1)]) (rest := [.inr (.inr (some 26)), .inr (.inr (some 50))]) rfl rfl rfl (by omega) (Trip_minutesOnto_26_e (by omega) ((M 26 11) + (1)) (1) M _ hv) ?_
      refine ev_k (pc' := 44) (ls' := [(4, .inl (v2)), (3, .inl (M 26 11)), (0, .inr (.inr (some 50))), (1, .inr (.inr (some 26))), (2, .inl (x2))]) (st' := [.inl (v23), .inr (.inr (some 26)), .inr (.inr (some 50))]) (nc' := 126) (np' := 138) (M' := M24) 0 rfl ?_
      obtain ⟨v25, M26, hv, h⟩ := oc_i h
      refine ev_call (t := 81) (as := [.inr (.inr (some 50)), .inr (.inr (some 26)), .inl (v23)]) (rest := []) rfl rfl rfl (by omega) (Outing_spend_50_26_e (by omega) (v23) M24 _ hv) ?_
      refine ev_k (pc' := 47) (ls' := [(4, .inl (v2)), (3, .inl (M 26 11)), (0, .inr (.inr (some 50))), (1, .inr (.inr (some 26))), (2, .inl (x2))]) (st' := [.inl (v25)]) (nc' := 126) (np' := 138) (M' := M26) 0 rfl ?_
      obtain ⟨hR, ⟨hc, h⟩ | ⟨hc, h⟩⟩ := c_eq_i h
      · refine ev_ifc 222 rfl hR.1 (by decide) (fun _ => ?_) (fun q => absurd hc q)
        exact Outing_goTo_50_26_222_t hd      M26 r h
      · refine ev_ifc 222 rfl hR.1 (by decide) (fun q => absurd q hc) (fun _ => ?_)
        refine ev_k (pc' := 57) (ls' := [(4, .inl (v2)), (3, .inl (M 26 11)), (0, .inr (.inr (some 50))), (1, .inr (.inr (some 26))), (2, .inl (x2))]) (st' := []) (nc' := 126) (np' := 138) (M' := am_up M26 26 11 ((M 26 11) + (1))) 5 rfl ?_
        obtain ⟨M27, eM, h⟩ := fw_i h
        rw [← eM]
        refine ev_k (pc' := 222) (ls' := []) (st' := []) (nc' := 126) (np' := 138) (M' := M27) 1 rfl ?_
        exact Outing_goTo_50_26_222_t hd      M27 r h
  · refine ev_ifc 22 rfl hR.1 (by decide) (fun q => absurd q hc) (fun _ => ?_)
    refine ev_k (pc' := 21) (ls' := [(4, .inl (v2)), (3, .inl (M 26 11)), (0, .inr (.inr (some 50))), (1, .inr (.inr (some 26))), (2, .inl (x2))]) (st' := []) (nc' := 126) (np' := 138) (M' := M) 0 rfl ?_
    cases h
    exact ev_ret rfl
def Outing_doAct_50_26_120     (M : am_M) : Option (am_M) := some (M)
def Outing_doAct_50_26_103     (M : am_M) : Option (am_M) := c_ne (M 50 9) (0)
       (Outing_doAct_50_26_120     M)
       (fw M 50 8 ((M 50 8) + (1)) fun M1 => (Outing_doAct_50_26_120     M1))
def Outing_doAct_50_26    (x2 : Int) (M : am_M) : Option (am_M) := ck (am_R (x2)) ((if (x2) = (43) then
       (ob (Outing_change_50_26  M) fun M1 => (Outing_doAct_50_26_103     M1)) else
       (if (x2) = (46) then
       (ob (Outing_rest_50_26  M) fun M2 => (Outing_doAct_50_26_103     M2)) else
       (if (x2) = (98) then
       (ob (Outing_mark_50_26 (2) M) fun M3 => (Outing_doAct_50_26_103     M3)) else
       (if (x2) = (111) then
       (ob (Outing_mark_50_26 (1) M) fun M4 => (Outing_doAct_50_26_103     M4)) else
       (if (x2) = (120) then
       (ob (Outing_lay_50_26  M) fun M5 => (Outing_doAct_50_26_103     M5)) else
       (ob (Outing_wayOf (x2) M) fun v6 => ob (Outing_goTo_50_26 (v6) M) fun M7 => (Outing_doAct_50_26_103     M7))))))))
theorem Outing_doAct_50_26_120_t {L : Nat} {xs : Nat → Int} {d : Nat} (hd : 5 ≤ d)      (M : am_M) (r : am_M) (h : Outing_doAct_50_26_120     M = some r) : am_Ev L xs d me_79 120 [] [] 126 138 M (none, 126, 138, r) := by
  refine ev_k (pc' := 120) (ls' := []) (st' := []) (nc' := 126) (np' := 138) (M' := M) 0 rfl ?_
  cases h
  exact ev_ret rfl
theorem Outing_doAct_50_26_103_t {L : Nat} {xs : Nat → Int} {d : Nat} (hd : 5 ≤ d)      (M : am_M) (r : am_M) (h : Outing_doAct_50_26_103     M = some r) : am_Ev L xs d me_79 103 [(0, .inr (.inr (some 50)))] [] 126 138 M (none, 126, 138, r) := by
  refine ev_k (pc' := 107) (ls' := [(0, .inr (.inr (some 50)))]) (st' := [.inl (M 50 9)]) (nc' := 126) (np' := 138) (M' := M) 2 rfl ?_
  obtain ⟨hR, ⟨hc, h⟩ | ⟨hc, h⟩⟩ := c_ne_i h
  · refine ev_ifc 120 rfl hR.1 (by decide) (fun _ => ?_) (fun q => absurd hc q)
    exact Outing_doAct_50_26_120_t hd      M r h
  · refine ev_ifc 120 rfl hR.1 (by decide) (fun q => absurd q hc) (fun _ => ?_)
    refine ev_k (pc' := 120) (ls' := []) (st' := []) (nc' := 126) (np' := 138) (M' := am_up M 50 8 ((M 50 8) + (1))) 6 rfl ?_
    obtain ⟨M1, eM, h⟩ := fw_i h
    rw [← eM]
    exact Outing_doAct_50_26_120_t hd      M1 r h
theorem Outing_doAct_50_26_e {L : Nat} {xs : Nat → Int} {d : Nat} (hd : 5 ≤ d)   (x2 : Int) (M : am_M) (r : am_M) (h : Outing_doAct_50_26   x2 M = some r) : am_Ev L xs d me_79 0 (am_ar1 0 [.inr (.inr (some 50)), .inr (.inr (some 26)), .inl (x2)]) [] 126 138 M (none, 126, 138, r) := by
  refine ev_k (pc' := 1) (ls' := [(0, .inr (.inr (some 50))), (1, .inr (.inr (some 26))), (2, .inl (x2))]) (st' := [.inl (x2)]) (nc' := 126) (np' := 138) (M' := M) 1 rfl ?_
  obtain ⟨hR, h⟩ := ck_i h
  rcases if_i h with ⟨hq, h⟩ | ⟨hq0, h⟩
  · refine ev_lsw 60 rfl hR rfl (59) (by rw [hq]; rfl) (by decide) ?_
    refine ev_k (pc' := 62) (ls' := [(0, .inr (.inr (some 50))), (1, .inr (.inr (some 26))), (2, .inl (x2))]) (st' := [.inr (.inr (some 26)), .inr (.inr (some 50))]) (nc' := 126) (np' := 138) (M' := M) 2 rfl ?_
    obtain ⟨M1, hv, h⟩ := ob_i h
    refine ev_call (t := 87) (as := [.inr (.inr (some 50)), .inr (.inr (some 26))]) (rest := []) rfl rfl rfl (by omega) (Outing_change_50_26_e (by omega)  M _ hv) ?_
    refine ev_k (pc' := 103) (ls' := [(0, .inr (.inr (some 50)))]) (st' := []) (nc' := 126) (np' := 138) (M' := M1) 1 rfl ?_
    exact Outing_doAct_50_26_103_t hd      M1 r h
  · skip
    rcases if_i h with ⟨hq, h⟩ | ⟨hq1, h⟩
    · refine ev_lsw 52 rfl hR rfl (51) (by rw [hq]; rfl) (by decide) ?_
      refine ev_k (pc' := 54) (ls' := [(0, .inr (.inr (some 50))), (1, .inr (.inr (some 26))), (2, .inl (x2))]) (st' := [.inr (.inr (some 26)), .inr (.inr (some 50))]) (nc' := 126) (np' := 138) (M' := M) 2 rfl ?_
      obtain ⟨M2, hv, h⟩ := ob_i h
      refine ev_call (t := 80) (as := [.inr (.inr (some 50)), .inr (.inr (some 26))]) (rest := []) rfl rfl rfl (by omega) (Outing_rest_50_26_e (by omega)  M _ hv) ?_
      refine ev_k (pc' := 103) (ls' := [(0, .inr (.inr (some 50)))]) (st' := []) (nc' := 126) (np' := 138) (M' := M2) 1 rfl ?_
      exact Outing_doAct_50_26_103_t hd      M2 r h
    · skip
      rcases if_i h with ⟨hq, h⟩ | ⟨hq2, h⟩
      · refine ev_lsw 77 rfl hR rfl (76) (by rw [hq]; rfl) (by decide) ?_
        refine ev_k (pc' := 80) (ls' := [(0, .inr (.inr (some 50))), (1, .inr (.inr (some 26))), (2, .inl (x2))]) (st' := [.inl (2), .inr (.inr (some 26)), .inr (.inr (some 50))]) (nc' := 126) (np' := 138) (M' := M) 3 rfl ?_
        obtain ⟨M3, hv, h⟩ := ob_i h
        refine ev_call (t := 90) (as := [.inr (.inr (some 50)), .inr (.inr (some 26)), .inl (2)]) (rest := []) rfl rfl rfl (by omega) (Outing_mark_50_26_e (by omega) (2) M _ hv) ?_
        refine ev_k (pc' := 103) (ls' := [(0, .inr (.inr (some 50)))]) (st' := []) (nc' := 126) (np' := 138) (M' := M3) 1 rfl ?_
        exact Outing_doAct_50_26_103_t hd      M3 r h
      · skip
        rcases if_i h with ⟨hq, h⟩ | ⟨hq3, h⟩
        · refine ev_lsw 68 rfl hR rfl (67) (by rw [hq]; rfl) (by decide) ?_
          refine ev_k (pc' := 71) (ls' := [(0, .inr (.inr (some 50))), (1, .inr (.inr (some 26))), (2, .inl (x2))]) (st' := [.inl (1), .inr (.inr (some 26)), .inr (.inr (some 50))]) (nc' := 126) (np' := 138) (M' := M) 3 rfl ?_
          obtain ⟨M4, hv, h⟩ := ob_i h
          refine ev_call (t := 90) (as := [.inr (.inr (some 50)), .inr (.inr (some 26)), .inl (1)]) (rest := []) rfl rfl rfl (by omega) (Outing_mark_50_26_e (by omega) (1) M _ hv) ?_
          refine ev_k (pc' := 103) (ls' := [(0, .inr (.inr (some 50)))]) (st' := []) (nc' := 126) (np' := 138) (M' := M4) 1 rfl ?_
          exact Outing_doAct_50_26_103_t hd      M4 r h
        · skip
          rcases if_i h with ⟨hq, h⟩ | ⟨hq4, h⟩
          · refine ev_lsw 86 rfl hR rfl (85) (by rw [hq]; rfl) (by decide) ?_
            refine ev_k (pc' := 88) (ls' := [(0, .inr (.inr (some 50))), (1, .inr (.inr (some 26))), (2, .inl (x2))]) (st' := [.inr (.inr (some 26)), .inr (.inr (some 50))]) (nc' := 126) (np' := 138) (M' := M) 2 rfl ?_
            obtain ⟨M5, hv, h⟩ := ob_i h
            refine ev_call (t := 93) (as := [.inr (.inr (some 50)), .inr (.inr (some 26))]) (rest := []) rfl rfl rfl (by omega) (Outing_lay_50_26_e (by omega)  M _ hv) ?_
            refine ev_k (pc' := 103) (ls' := [(0, .inr (.inr (some 50)))]) (st' := []) (nc' := 126) (np' := 138) (M' := M5) 1 rfl ?_
            exact Outing_doAct_50_26_103_t hd      M5 r h
          · skip
            refine ev_lsw 94 rfl hR rfl (93) ?_ (by decide) ?_
            · exact am_lsd _ _ _ (by simp only [List.forall_mem_cons, List.not_mem_nil]; exact ⟨hq0, hq1, hq2, hq3, hq4, by simp⟩)
            · skip
              refine ev_k (pc' := 97) (ls' := [(0, .inr (.inr (some 50))), (1, .inr (.inr (some 26))), (2, .inl (x2))]) (st' := [.inl (x2), .inr (.inr (some 26)), .inr (.inr (some 50))]) (nc' := 126) (np' := 138) (M' := M) 3 rfl ?_
              obtain ⟨v6, hv, h⟩ := ob_i h
              refine ev_call (t := 77) (as := [.inl (x2)]) (rest := [.inr (.inr (some 26)), .inr (.inr (some 50))]) rfl rfl rfl (by omega) (Outing_wayOf_e (by omega) (x2) M _ hv) ?_
              refine ev_k (pc' := 100) (ls' := [(0, .inr (.inr (some 50))), (1, .inr (.inr (some 26))), (2, .inl (x2))]) (st' := [.inl (v6), .inr (.inr (some 26)), .inr (.inr (some 50))]) (nc' := 126) (np' := 138) (M' := M) 0 rfl ?_
              obtain ⟨M7, hv, h⟩ := ob_i h
              refine ev_call (t := 96) (as := [.inr (.inr (some 50)), .inr (.inr (some 26)), .inl (v6)]) (rest := []) rfl rfl rfl (by omega) (Outing_goTo_50_26_e (by omega) (v6) M _ hv) ?_
              exact Outing_doAct_50_26_103_t hd      M7 r h
def Outing_perform_50_26_60    (x2 : Int) (M : am_M) : Option (Int × am_M) := some ((M 26 12) - (x2), M)
def Outing_perform_50_26_22    : Nat → Int → Int → am_M → Option (Int × am_M)
  | 0, _, _, _ => none
  | n + 1, x2, x3, M => c_ge (x3) (M 50 3)
       (Outing_perform_50_26_60    (x2) M)
       (c_ge (x3) (90)
       (Outing_perform_50_26_60    (x2) M)
       (c_ne (M 50 9) (0)
       (Outing_perform_50_26_60    (x2) M)
       (rd M 51 90 (x3) fun v1 => ob (Outing_doAct_50_26 (v1) M) fun M2 => (Outing_perform_50_26_22    n (x2) ((x3) + (1)) M2))))
def Outing_perform_50_26     (M : am_M) : Option (Int × am_M) := fw M 50 7 (0) fun M1 => fw M1 50 8 (0) fun M2 => fz M2 50 9 (0) fun M3 => (Outing_perform_50_26_22    am_big (M 26 12) (0) M3)
theorem Outing_perform_50_26_60_t {L : Nat} {xs : Nat → Int} {d : Nat} (hd : 6 ≤ d)     (x2 : Int) (M : am_M) (r : Int × am_M) (h : Outing_perform_50_26_60    x2 M = some r) : am_Ev L xs d me_78 60 [(1, .inr (.inr (some 26))), (2, .inl (x2))] [] 126 138 M (some (.inl r.1), 126, 138, r.2) := by
  refine ev_k (pc' := 66) (ls' := [(1, .inr (.inr (some 26))), (2, .inl (x2))]) (st' := [.inl ((M 26 12) - (x2))]) (nc' := 126) (np' := 138) (M' := M) 4 rfl ?_
  cases h
  exact ev_ret rfl
theorem Outing_perform_50_26_22_t {L : Nat} {xs : Nat → Int} {d : Nat} (hd : 6 ≤ d)     : ∀ (n : Nat) (x2 : Int) (x3 : Int) (M : am_M) (r : Int × am_M), Outing_perform_50_26_22    n x2 x3 M = some r → am_Ev L xs d me_78 22 [(0, .inr (.inr (some 50))), (1, .inr (.inr (some 26))), (2, .inl (x2)), (3, .inl (x3))] [] 126 138 M (some (.inl r.1), 126, 138, r.2)
  | 0, _, _, M, r, h => by cases h
  | n + 1, x2, x3, M, r, h => by
    have ih := Outing_perform_50_26_22_t (L := L) (xs := xs) hd     n
    refine ev_k (pc' := 27) (ls' := [(0, .inr (.inr (some 50))), (1, .inr (.inr (some 26))), (2, .inl (x2)), (3, .inl (x3))]) (st' := [.inl (M 50 3), .inl (x3)]) (nc' := 126) (np' := 138) (M' := M) 3 rfl ?_
    obtain ⟨hR, ⟨hc, h⟩ | ⟨hc, h⟩⟩ := c_ge_i h
    · refine ev_icmp 60 rfl hR.1 hR.2 (by decide) (fun _ => ?_) (fun q => absurd hc q)
      exact Outing_perform_50_26_60_t hd     (x2) M r h
    · refine ev_icmp 60 rfl hR.1 hR.2 (by decide) (fun q => absurd q hc) (fun _ => ?_)
      refine ev_k (pc' := 33) (ls' := [(0, .inr (.inr (some 50))), (1, .inr (.inr (some 26))), (2, .inl (x2)), (3, .inl (x3))]) (st' := [.inl (90), .inl (x3)]) (nc' := 126) (np' := 138) (M' := M) 2 rfl ?_
      obtain ⟨hR, ⟨hc, h⟩ | ⟨hc, h⟩⟩ := c_ge_i h
      · refine ev_icmp 60 rfl hR.1 hR.2 (by decide) (fun _ => ?_) (fun q => absurd hc q)
        exact Outing_perform_50_26_60_t hd     (x2) M r h
      · refine ev_icmp 60 rfl hR.1 hR.2 (by decide) (fun q => absurd q hc) (fun _ => ?_)
        refine ev_k (pc' := 40) (ls' := [(0, .inr (.inr (some 50))), (1, .inr (.inr (some 26))), (2, .inl (x2)), (3, .inl (x3))]) (st' := [.inl (M 50 9)]) (nc' := 126) (np' := 138) (M' := M) 2 rfl ?_
        obtain ⟨hR, ⟨hc, h⟩ | ⟨hc, h⟩⟩ := c_ne_i h
        · refine ev_ifc 60 rfl hR.1 (by decide) (fun _ => ?_) (fun q => absurd hc q)
          exact Outing_perform_50_26_60_t hd     (x2) M r h
        · refine ev_ifc 60 rfl hR.1 (by decide) (fun q => absurd q hc) (fun _ => ?_)
          refine ev_k (pc' := 50) (ls' := [(0, .inr (.inr (some 50))), (1, .inr (.inr (some 26))), (2, .inl (x2)), (3, .inl (x3))]) (st' := [.inl (x3), .inr (.inr (some 51)), .inr (.inr (some 26)), .inr (.inr (some 50))]) (nc' := 126) (np' := 138) (M' := M) 5 rfl ?_
          obtain ⟨hc, v1, ev, h⟩ := rd_i h
          refine ev_ald (k := 51) (t := 0) (Or.inl ⟨rfl, rfl⟩) rfl (by decide) (by decide) rfl hc ev ?_
          refine ev_k (pc' := 51) (ls' := [(0, .inr (.inr (some 50))), (1, .inr (.inr (some 26))), (2, .inl (x2)), (3, .inl (x3))]) (st' := [.inl (v1), .inr (.inr (some 26)), .inr (.inr (some 50))]) (nc' := 126) (np' := 138) (M' := M) 0 rfl ?_
          obtain ⟨M2, hv, h⟩ := ob_i h
          refine ev_call (t := 79) (as := [.inr (.inr (some 50)), .inr (.inr (some 26)), .inl (v1)]) (rest := []) rfl rfl rfl (by omega) (Outing_doAct_50_26_e (by omega) (v1) M _ hv) ?_
          refine ev_k (pc' := 22) (ls' := [(0, .inr (.inr (some 50))), (1, .inr (.inr (some 26))), (2, .inl (x2)), (3, .inl ((x3) + (1)))]) (st' := []) (nc' := 126) (np' := 138) (M' := M2) 2 rfl ?_
          exact ih (x2) ((x3) + (1)) M2 r h
theorem Outing_perform_50_26_e {L : Nat} {xs : Nat → Int} {d : Nat} (hd : 6 ≤ d)    (M : am_M) (r : Int × am_M) (h : Outing_perform_50_26    M = some r) : am_Ev L xs d me_78 0 (am_ar1 0 [.inr (.inr (some 50)), .inr (.inr (some 26))]) [] 126 138 M (some (.inl r.1), 126, 138, r.2) := by
  refine ev_k (pc' := 10) (ls' := [(2, .inl (M 26 12)), (0, .inr (.inr (some 50))), (1, .inr (.inr (some 26)))]) (st' := []) (nc' := 126) (np' := 138) (M' := am_up M 50 7 (0)) 6 rfl ?_
  obtain ⟨M1, eM, h⟩ := fw_i h
  rw [← eM]
  refine ev_k (pc' := 15) (ls' := [(2, .inl (M 26 12)), (0, .inr (.inr (some 50))), (1, .inr (.inr (some 26)))]) (st' := []) (nc' := 126) (np' := 138) (M' := am_up M1 50 8 (0)) 3 rfl ?_
  obtain ⟨M2, eM, h⟩ := fw_i h
  rw [← eM]
  refine ev_k (pc' := 17) (ls' := [(2, .inl (M 26 12)), (0, .inr (.inr (some 50))), (1, .inr (.inr (some 26)))]) (st' := [.inl (0), .inr (.inr (some 50))]) (nc' := 126) (np' := 138) (M' := M2) 2 rfl ?_
  obtain ⟨hc, M3, eM, h⟩ := fz_i h
  refine ev_putz (k := 50) (j := 9) rfl rfl (by decide) rfl rfl hc eM ?_
  refine ev_k (pc' := 22) (ls' := [(0, .inr (.inr (some 50))), (1, .inr (.inr (some 26))), (2, .inl (M 26 12)), (3, .inl (0))]) (st' := []) (nc' := 126) (np' := 138) (M' := M3) 2 rfl ?_
  exact Outing_perform_50_26_22_t hd     am_big (M 26 12) (0) M3 r h
def P_orders_47    (s0 : Int) (M : am_M) : Option (Int × am_M) := some (s0, M)
def P_orders    (x1 : Int) (M : am_M) : Option (Int × am_M) := oc (Tape_take (x1) (1) (80) M) fun v1 M2 => c_ne (v1) (0)
       (oc (Outing_readActs_50  M2) fun v3 M4 => c_ge (v3) (0)
       (oc (Outing_perform_50_26  M4) fun v5 M6 => (P_orders_47    (v5) M6))
       ((P_orders_47    (v3) M4)))
       (some (-1, M2))
theorem P_orders_47_t {L : Nat} {xs : Nat → Int} {d : Nat} (hd : 46 ≤ d)     (s0 : Int) (M : am_M) (r : Int × am_M) (h : P_orders_47    s0 M = some r) : am_Ev L xs d me_67 47 [] [.inl (s0)] 126 138 M (some (.inl r.1), 126, 138, r.2) := by
  refine ev_k (pc' := 47) (ls' := []) (st' := [.inl (s0)]) (nc' := 126) (np' := 138) (M' := M) 0 rfl ?_
  cases h
  exact ev_ret rfl
theorem P_orders_e {L : Nat} {xs : Nat → Int} {d : Nat} (hd : 46 ≤ d)   (x1 : Int) (M : am_M) (r : Int × am_M) (h : P_orders   x1 M = some r) : am_Ev L xs d me_67 0 (am_ar1 0 [.inr (.inr (some 0)), .inl (x1)]) [] 126 138 M (some (.inl r.1), 126, 138, r.2) := by
  refine ev_k (pc' := 8) (ls' := [(0, .inr (.inr (some 0))), (1, .inl (x1))]) (st' := [.inl (80), .inl (1), .inl (x1), .inr (.inr (some 14))]) (nc' := 126) (np' := 138) (M' := M) 5 rfl ?_
  obtain ⟨v1, M2, hv, h⟩ := oc_i h
  refine ev_call (t := 21) (as := [.inr (.inr (some 14)), .inl (x1), .inl (1), .inl (80)]) (rest := []) rfl rfl rfl (by omega) (Tape_take_e (by omega) (x1) (1) (80) M _ hv) ?_
  refine ev_k (pc' := 11) (ls' := [(0, .inr (.inr (some 0))), (1, .inl (x1))]) (st' := [.inl (v1)]) (nc' := 126) (np' := 138) (M' := M2) 0 rfl ?_
  obtain ⟨hR, ⟨hc, h⟩ | ⟨hc, h⟩⟩ := c_ne_i h
  · refine ev_ifc 16 rfl hR.1 (by decide) (fun _ => ?_) (fun q => absurd hc q)
    refine ev_k (pc' := 24) (ls' := [(0, .inr (.inr (some 0))), (1, .inl (x1))]) (st' := [.inr (.inr (some 14)), .inr (.inr (some 50))]) (nc' := 126) (np' := 138) (M' := M2) 4 rfl ?_
    obtain ⟨v3, M4, hv, h⟩ := oc_i h
    refine ev_call (t := 68) (as := [.inr (.inr (some 50)), .inr (.inr (some 14))]) (rest := []) rfl rfl rfl (by omega) (Outing_readActs_50_e (by omega)  M2 _ hv) ?_
    refine ev_k (pc' := 29) (ls' := [(2, .inl (v3)), (0, .inr (.inr (some 0))), (1, .inl (x1))]) (st' := [.inl (v3)]) (nc' := 126) (np' := 138) (M' := M4) 2 rfl ?_
    obtain ⟨hR, ⟨hc, h⟩ | ⟨hc, h⟩⟩ := c_ge_i h
    · refine ev_ifc 36 rfl hR.1 (by decide) (fun _ => ?_) (fun q => absurd hc q)
      refine ev_k (pc' := 44) (ls' := [(2, .inl (v3)), (0, .inr (.inr (some 0))), (1, .inl (x1))]) (st' := [.inr (.inr (some 26)), .inr (.inr (some 50))]) (nc' := 126) (np' := 138) (M' := M4) 4 rfl ?_
      obtain ⟨v5, M6, hv, h⟩ := oc_i h
      refine ev_call (t := 78) (as := [.inr (.inr (some 50)), .inr (.inr (some 26))]) (rest := []) rfl rfl rfl (by omega) (Outing_perform_50_26_e (by omega)  M4 _ hv) ?_
      exact P_orders_47_t hd     (v5) M6 r h
    · refine ev_ifc 36 rfl hR.1 (by decide) (fun q => absurd q hc) (fun _ => ?_)
      refine ev_k (pc' := 47) (ls' := []) (st' := [.inl (v3)]) (nc' := 126) (np' := 138) (M' := M4) 2 rfl ?_
      exact P_orders_47_t hd     (v3) M4 r h
  · refine ev_ifc 16 rfl hR.1 (by decide) (fun q => absurd q hc) (fun _ => ?_)
    refine ev_k (pc' := 15) (ls' := [(0, .inr (.inr (some 0))), (1, .inl (x1))]) (st' := [.inl (-1)]) (nc' := 126) (np' := 138) (M' := M2) 1 rfl ?_
    cases h
    exact ev_ret rfl
def Trip_copyFrom_34_26     (M : am_M) : Option (am_M) := cpy M 27 6 35 6 (0) (0) (6) fun M1 => cpy M1 28 100 36 100 (0) (0) (100) fun M2 => cpy M2 29 100 37 100 (0) (0) (100) fun M3 => cpy M3 30 100 38 100 (0) (0) (100) fun M4 => cpy M4 31 100 39 100 (0) (0) (100) fun M5 => cpy M5 32 100 40 100 (0) (0) (100) fun M6 => cpy M6 33 144 41 144 (0) (0) (144) fun M7 => fw M7 34 9 (M7 26 9) fun M8 => fw M8 34 10 (M8 26 10) fun M9 => fw M9 34 11 (M9 26 11) fun M10 => fw M10 34 12 (M10 26 12) fun M11 => fw M11 34 13 (M11 26 13) fun M12 => fw M12 34 14 (M12 26 14) fun M13 => some (M13)
theorem Trip_copyFrom_34_26_e {L : Nat} {xs : Nat → Int} {d : Nat} (hd : 0 ≤ d)    (M : am_M) (r : am_M) (h : Trip_copyFrom_34_26    M = some r) : am_Ev L xs d me_108 0 (am_ar1 0 [.inr (.inr (some 34)), .inr (.inr (some 26))]) [] 126 138 M (none, 126, 138, r) := by
  refine ev_k (pc' := 12) (ls' := [(0, .inr (.inr (some 34))), (1, .inr (.inr (some 26)))]) (st' := [.inl (6), .inl (0), .inr (.inr (some 35)), .inl (0), .inr (.inr (some 27))]) (nc' := 126) (np' := 138) (M' := M) 7 rfl ?_
  obtain ⟨hc, M1, eM, h⟩ := cpy_i h
  refine ev_cpy (s := 27) (dd := 35) rfl rfl (by decide) (by decide) rfl rfl hc rfl (by decide) eM ?_
  refine ev_k (pc' := 27) (ls' := [(0, .inr (.inr (some 34))), (1, .inr (.inr (some 26)))]) (st' := [.inl (100), .inl (0), .inr (.inr (some 36)), .inl (0), .inr (.inr (some 28))]) (nc' := 126) (np' := 138) (M' := M1) 7 rfl ?_
  obtain ⟨hc, M2, eM, h⟩ := cpy_i h
  refine ev_cpy (s := 28) (dd := 36) rfl rfl (by decide) (by decide) rfl rfl hc rfl (by decide) eM ?_
  refine ev_k (pc' := 42) (ls' := [(0, .inr (.inr (some 34))), (1, .inr (.inr (some 26)))]) (st' := [.inl (100), .inl (0), .inr (.inr (some 37)), .inl (0), .inr (.inr (some 29))]) (nc' := 126) (np' := 138) (M' := M2) 7 rfl ?_
  obtain ⟨hc, M3, eM, h⟩ := cpy_i h
  refine ev_cpy (s := 29) (dd := 37) rfl rfl (by decide) (by decide) rfl rfl hc rfl (by decide) eM ?_
  refine ev_k (pc' := 57) (ls' := [(0, .inr (.inr (some 34))), (1, .inr (.inr (some 26)))]) (st' := [.inl (100), .inl (0), .inr (.inr (some 38)), .inl (0), .inr (.inr (some 30))]) (nc' := 126) (np' := 138) (M' := M3) 7 rfl ?_
  obtain ⟨hc, M4, eM, h⟩ := cpy_i h
  refine ev_cpy (s := 30) (dd := 38) rfl rfl (by decide) (by decide) rfl rfl hc rfl (by decide) eM ?_
  refine ev_k (pc' := 72) (ls' := [(0, .inr (.inr (some 34))), (1, .inr (.inr (some 26)))]) (st' := [.inl (100), .inl (0), .inr (.inr (some 39)), .inl (0), .inr (.inr (some 31))]) (nc' := 126) (np' := 138) (M' := M4) 7 rfl ?_
  obtain ⟨hc, M5, eM, h⟩ := cpy_i h
  refine ev_cpy (s := 31) (dd := 39) rfl rfl (by decide) (by decide) rfl rfl hc rfl (by decide) eM ?_
  refine ev_k (pc' := 87) (ls' := [(0, .inr (.inr (some 34))), (1, .inr (.inr (some 26)))]) (st' := [.inl (100), .inl (0), .inr (.inr (some 40)), .inl (0), .inr (.inr (some 32))]) (nc' := 126) (np' := 138) (M' := M5) 7 rfl ?_
  obtain ⟨hc, M6, eM, h⟩ := cpy_i h
  refine ev_cpy (s := 32) (dd := 40) rfl rfl (by decide) (by decide) rfl rfl hc rfl (by decide) eM ?_
  refine ev_k (pc' := 103) (ls' := [(0, .inr (.inr (some 34))), (1, .inr (.inr (some 26)))]) (st' := [.inl (144), .inl (0), .inr (.inr (some 41)), .inl (0), .inr (.inr (some 33))]) (nc' := 126) (np' := 138) (M' := M6) 7 rfl ?_
  obtain ⟨hc, M7, eM, h⟩ := cpy_i h
  refine ev_cpy (s := 33) (dd := 41) rfl rfl (by decide) (by decide) rfl rfl hc rfl (by decide) eM ?_
  refine ev_k (pc' := 114) (ls' := [(0, .inr (.inr (some 34))), (1, .inr (.inr (some 26)))]) (st' := []) (nc' := 126) (np' := 138) (M' := am_up M7 34 9 (M7 26 9)) 4 rfl ?_
  obtain ⟨M8, eM, h⟩ := fw_i h
  rw [← eM]
  refine ev_k (pc' := 122) (ls' := [(0, .inr (.inr (some 34))), (1, .inr (.inr (some 26)))]) (st' := []) (nc' := 126) (np' := 138) (M' := am_up M8 34 10 (M8 26 10)) 4 rfl ?_
  obtain ⟨M9, eM, h⟩ := fw_i h
  rw [← eM]
  refine ev_k (pc' := 130) (ls' := [(0, .inr (.inr (some 34))), (1, .inr (.inr (some 26)))]) (st' := []) (nc' := 126) (np' := 138) (M' := am_up M9 34 11 (M9 26 11)) 4 rfl ?_
  obtain ⟨M10, eM, h⟩ := fw_i h
  rw [← eM]
  refine ev_k (pc' := 138) (ls' := [(0, .inr (.inr (some 34))), (1, .inr (.inr (some 26)))]) (st' := []) (nc' := 126) (np' := 138) (M' := am_up M10 34 12 (M10 26 12)) 4 rfl ?_
  obtain ⟨M11, eM, h⟩ := fw_i h
  rw [← eM]
  refine ev_k (pc' := 146) (ls' := [(0, .inr (.inr (some 34))), (1, .inr (.inr (some 26)))]) (st' := []) (nc' := 126) (np' := 138) (M' := am_up M11 34 13 (M11 26 13)) 4 rfl ?_
  obtain ⟨M12, eM, h⟩ := fw_i h
  rw [← eM]
  refine ev_k (pc' := 154) (ls' := [(0, .inr (.inr (some 34))), (1, .inr (.inr (some 26)))]) (st' := []) (nc' := 126) (np' := 138) (M' := am_up M12 34 14 (M12 26 14)) 4 rfl ?_
  obtain ⟨M13, eM, h⟩ := fw_i h
  rw [← eM]
  refine ev_k (pc' := 154) (ls' := [(0, .inr (.inr (some 34))), (1, .inr (.inr (some 26)))]) (st' := []) (nc' := 126) (np' := 138) (M' := M13) 0 rfl ?_
  cases h
  exact ev_ret rfl
def Outing_spend_50_34_54    (s0 : Int) (M : am_M) : Option (Int × am_M) := ck ((s0) = 0 ∨ (s0) = 1) (some (s0, M))
def Outing_spend_50_34_42     (M : am_M) : Option (Int × am_M) := c_ne (M 50 9) (0)
       ((Outing_spend_50_34_54    (0) M))
       ((Outing_spend_50_34_54    (1) M))
def Outing_spend_50_34_22    (x2 : Int) (s1 : Int) (M : am_M) : Option (Int × am_M) := fz M 50 9 (s1) fun M1 => c_ne (M1 50 9) (0)
       (Outing_spend_50_34_42     M1)
       (fw M1 34 12 ((M1 34 12) + (x2)) fun M2 => (Outing_spend_50_34_42     M2))
def Outing_spend_50_34    (x2 : Int) (M : am_M) : Option (Int × am_M) := c_le ((M 34 12) + (x2)) (M 1 4)
       ((Outing_spend_50_34_22    (x2) (0) M))
       ((Outing_spend_50_34_22    (x2) (1) M))
theorem Outing_spend_50_34_54_t {L : Nat} {xs : Nat → Int} {d : Nat} (hd : 0 ≤ d)     (s0 : Int) (M : am_M) (r : Int × am_M) (h : Outing_spend_50_34_54    s0 M = some r) : am_Ev L xs d me_81 54 [] [.inl (s0)] 126 138 M (some (.inl r.1), 126, 138, r.2) := by
  refine ev_k (pc' := 54) (ls' := []) (st' := [.inl (s0)]) (nc' := 126) (np' := 138) (M' := M) 0 rfl ?_
  obtain ⟨hc, h⟩ := ck_i h
  cases h
  exact ev_retz rfl rfl hc
theorem Outing_spend_50_34_42_t {L : Nat} {xs : Nat → Int} {d : Nat} (hd : 0 ≤ d)      (M : am_M) (r : Int × am_M) (h : Outing_spend_50_34_42     M = some r) : am_Ev L xs d me_81 42 [(0, .inr (.inr (some 50)))] [] 126 138 M (some (.inl r.1), 126, 138, r.2) := by
  refine ev_k (pc' := 46) (ls' := [(0, .inr (.inr (some 50)))]) (st' := [.inl (M 50 9)]) (nc' := 126) (np' := 138) (M' := M) 2 rfl ?_
  obtain ⟨hR, ⟨hc, h⟩ | ⟨hc, h⟩⟩ := c_ne_i h
  · refine ev_ifc 53 rfl hR.1 (by decide) (fun _ => ?_) (fun q => absurd hc q)
    refine ev_k (pc' := 54) (ls' := []) (st' := [.inl (0)]) (nc' := 126) (np' := 138) (M' := M) 1 rfl ?_
    exact Outing_spend_50_34_54_t hd     (0) M r h
  · refine ev_ifc 53 rfl hR.1 (by decide) (fun q => absurd q hc) (fun _ => ?_)
    refine ev_k (pc' := 54) (ls' := []) (st' := [.inl (1)]) (nc' := 126) (np' := 138) (M' := M) 2 rfl ?_
    exact Outing_spend_50_34_54_t hd     (1) M r h
theorem Outing_spend_50_34_22_t {L : Nat} {xs : Nat → Int} {d : Nat} (hd : 0 ≤ d)     (x2 : Int) (s1 : Int) (M : am_M) (r : Int × am_M) (h : Outing_spend_50_34_22    x2 s1 M = some r) : am_Ev L xs d me_81 22 [(0, .inr (.inr (some 50))), (1, .inr (.inr (some 34))), (2, .inl (x2))] [.inl (s1), .inr (.inr (some 50))] 126 138 M (some (.inl r.1), 126, 138, r.2) := by
  refine ev_k (pc' := 22) (ls' := [(0, .inr (.inr (some 50))), (1, .inr (.inr (some 34))), (2, .inl (x2))]) (st' := [.inl (s1), .inr (.inr (some 50))]) (nc' := 126) (np' := 138) (M' := M) 0 rfl ?_
  obtain ⟨hc, M1, eM, h⟩ := fz_i h
  refine ev_putz (k := 50) (j := 9) rfl rfl (by decide) rfl rfl hc eM ?_
  refine ev_k (pc' := 29) (ls' := [(0, .inr (.inr (some 50))), (1, .inr (.inr (some 34))), (2, .inl (x2))]) (st' := [.inl (M1 50 9)]) (nc' := 126) (np' := 138) (M' := M1) 2 rfl ?_
  obtain ⟨hR, ⟨hc, h⟩ | ⟨hc, h⟩⟩ := c_ne_i h
  · refine ev_ifc 42 rfl hR.1 (by decide) (fun _ => ?_) (fun q => absurd hc q)
    exact Outing_spend_50_34_42_t hd      M1 r h
  · refine ev_ifc 42 rfl hR.1 (by decide) (fun q => absurd q hc) (fun _ => ?_)
    refine ev_k (pc' := 42) (ls' := [(0, .inr (.inr (some 50)))]) (st' := []) (nc' := 126) (np' := 138) (M' := am_up M1 34 12 ((M1 34 12) + (x2))) 6 rfl ?_
    obtain ⟨M2, eM, h⟩ := fw_i h
    rw [← eM]
    exact Outing_spend_50_34_42_t hd      M2 r h
theorem Outing_spend_50_34_e {L : Nat} {xs : Nat → Int} {d : Nat} (hd : 0 ≤ d)   (x2 : Int) (M : am_M) (r : Int × am_M) (h : Outing_spend_50_34   x2 M = some r) : am_Ev L xs d me_81 0 (am_ar1 0 [.inr (.inr (some 50)), .inr (.inr (some 34)), .inl (x2)]) [] 126 138 M (some (.inl r.1), 126, 138, r.2) := by
  refine ev_k (pc' := 14) (ls' := [(0, .inr (.inr (some 50))), (1, .inr (.inr (some 34))), (2, .inl (x2))]) (st' := [.inl (M 1 4), .inl ((M 34 12) + (x2)), .inr (.inr (some 50))]) (nc' := 126) (np' := 138) (M' := M) 8 rfl ?_
  obtain ⟨hR, ⟨hc, h⟩ | ⟨hc, h⟩⟩ := c_le_i h
  · refine ev_icmp 21 rfl hR.1 hR.2 (by decide) (fun _ => ?_) (fun q => absurd hc q)
    refine ev_k (pc' := 22) (ls' := [(0, .inr (.inr (some 50))), (1, .inr (.inr (some 34))), (2, .inl (x2))]) (st' := [.inl (0), .inr (.inr (some 50))]) (nc' := 126) (np' := 138) (M' := M) 1 rfl ?_
    exact Outing_spend_50_34_22_t hd     (x2) (0) M r h
  · refine ev_icmp 21 rfl hR.1 hR.2 (by decide) (fun q => absurd q hc) (fun _ => ?_)
    refine ev_k (pc' := 22) (ls' := [(0, .inr (.inr (some 50))), (1, .inr (.inr (some 34))), (2, .inl (x2))]) (st' := [.inl (1), .inr (.inr (some 50))]) (nc' := 126) (np' := 138) (M' := M) 2 rfl ?_
    exact Outing_spend_50_34_22_t hd     (x2) (1) M r h
def Outing_change_50_34_38     (M : am_M) : Option (am_M) := some (M)
def Outing_change_50_34     (M : am_M) : Option (am_M) := ob (Country_isTold_1 (M 34 9) M) fun v1 => c_eq (v1) (0)
       (Outing_change_50_34_38     M)
       (oc (Outing_spend_50_34 (0) M) fun v2 M3 => c_eq (v2) (0)
       (Outing_change_50_34_38     M3)
       (ob (Country_nextTold_1 (M3 34 9) M3) fun v4 => fw M3 34 9 (v4) fun M5 => (Outing_change_50_34_38     M5)))
theorem Outing_change_50_34_38_t {L : Nat} {xs : Nat → Int} {d : Nat} (hd : 3 ≤ d)      (M : am_M) (r : am_M) (h : Outing_change_50_34_38     M = some r) : am_Ev L xs d me_87 38 [] [] 126 138 M (none, 126, 138, r) := by
  refine ev_k (pc' := 38) (ls' := []) (st' := []) (nc' := 126) (np' := 138) (M' := M) 0 rfl ?_
  cases h
  exact ev_ret rfl
theorem Outing_change_50_34_e {L : Nat} {xs : Nat → Int} {d : Nat} (hd : 3 ≤ d)    (M : am_M) (r : am_M) (h : Outing_change_50_34    M = some r) : am_Ev L xs d me_87 0 (am_ar1 0 [.inr (.inr (some 50)), .inr (.inr (some 34))]) [] 126 138 M (none, 126, 138, r) := by
  refine ev_k (pc' := 8) (ls' := [(0, .inr (.inr (some 50))), (1, .inr (.inr (some 34)))]) (st' := [.inl (M 34 9), .inr (.inr (some 1))]) (nc' := 126) (np' := 138) (M' := M) 4 rfl ?_
  obtain ⟨v1, hv, h⟩ := ob_i h
  refine ev_call (t := 62) (as := [.inr (.inr (some 1)), .inl (M 34 9)]) (rest := []) rfl rfl rfl (by omega) (Country_isTold_1_e (by omega) (M 34 9) M _ hv) ?_
  refine ev_k (pc' := 11) (ls' := [(0, .inr (.inr (some 50))), (1, .inr (.inr (some 34)))]) (st' := [.inl (v1)]) (nc' := 126) (np' := 138) (M' := M) 0 rfl ?_
  obtain ⟨hR, ⟨hc, h⟩ | ⟨hc, h⟩⟩ := c_eq_i h
  · refine ev_ifc 38 rfl hR.1 (by decide) (fun _ => ?_) (fun q => absurd hc q)
    exact Outing_change_50_34_38_t hd      M r h
  · refine ev_ifc 38 rfl hR.1 (by decide) (fun q => absurd q hc) (fun _ => ?_)
    refine ev_k (pc' := 17) (ls' := [(0, .inr (.inr (some 50))), (1, .inr (.inr (some 34)))]) (st' := [.inl (0), .inr (.inr (some 34)), .inr (.inr (some 50))]) (nc' := 126) (np' := 138) (M' := M) 3 rfl ?_
    obtain ⟨v2, M3, hv, h⟩ := oc_i h
    refine ev_call (t := 81) (as := [.inr (.inr (some 50)), .inr (.inr (some 34)), .inl (0)]) (rest := []) rfl rfl rfl (by omega) (Outing_spend_50_34_e (by omega) (0) M _ hv) ?_
    refine ev_k (pc' := 20) (ls' := [(0, .inr (.inr (some 50))), (1, .inr (.inr (some 34)))]) (st' := [.inl (v2)]) (nc' := 126) (np' := 138) (M' := M3) 0 rfl ?_
    obtain ⟨hR, ⟨hc, h⟩ | ⟨hc, h⟩⟩ := c_eq_i h
    · refine ev_ifc 38 rfl hR.1 (by decide) (fun _ => ?_) (fun q => absurd hc q)
      exact Outing_change_50_34_38_t hd      M3 r h
    · refine ev_ifc 38 rfl hR.1 (by decide) (fun q => absurd q hc) (fun _ => ?_)
      refine ev_k (pc' := 32) (ls' := [(0, .inr (.inr (some 50))), (1, .inr (.inr (some 34)))]) (st' := [.inl (M3 34 9), .inr (.inr (some 1)), .inr (.inr (some 34))]) (nc' := 126) (np' := 138) (M' := M3) 5 rfl ?_
      obtain ⟨v4, hv, h⟩ := ob_i h
      refine ev_call (t := 88) (as := [.inr (.inr (some 1)), .inl (M3 34 9)]) (rest := [.inr (.inr (some 34))]) rfl rfl rfl (by omega) (Country_nextTold_1_e (by omega) (M3 34 9) M3 _ hv) ?_
      refine ev_k (pc' := 38) (ls' := []) (st' := []) (nc' := 126) (np' := 138) (M' := am_up M3 34 9 (v4)) 1 rfl ?_
      obtain ⟨M5, eM, h⟩ := fw_i h
      rw [← eM]
      exact Outing_change_50_34_38_t hd      M5 r h
def Trip_tiredOf_34_20    (s0 : Int) (M : am_M) : Option (Int) := some (s0)
def Trip_tiredOf_34_19     (M : am_M) : Option (Int) := (Trip_tiredOf_34_20    (0) M)
def Trip_tiredOf_34    (x1 : Int) (M : am_M) : Option (Int) := c_lt (x1) (0)
       (Trip_tiredOf_34_19     M)
       (c_ge (x1) (6)
       (Trip_tiredOf_34_19     M)
       (rd M 35 6 (x1) fun v1 => (Trip_tiredOf_34_20    (v1) M)))
theorem Trip_tiredOf_34_20_t {L : Nat} {xs : Nat → Int} {d : Nat} (hd : 0 ≤ d)     (s0 : Int) (M : am_M) (r : Int) (h : Trip_tiredOf_34_20    s0 M = some r) : am_Ev L xs d me_82 20 [] [.inl (s0)] 126 138 M (some (.inl r), 126, 138, M) := by
  refine ev_k (pc' := 20) (ls' := []) (st' := [.inl (s0)]) (nc' := 126) (np' := 138) (M' := M) 0 rfl ?_
  cases h
  exact ev_ret rfl
theorem Trip_tiredOf_34_19_t {L : Nat} {xs : Nat → Int} {d : Nat} (hd : 0 ≤ d)      (M : am_M) (r : Int) (h : Trip_tiredOf_34_19     M = some r) : am_Ev L xs d me_82 19 [] [] 126 138 M (some (.inl r), 126, 138, M) := by
  refine ev_k (pc' := 20) (ls' := []) (st' := [.inl (0)]) (nc' := 126) (np' := 138) (M' := M) 1 rfl ?_
  exact Trip_tiredOf_34_20_t hd     (0) M r h
theorem Trip_tiredOf_34_e {L : Nat} {xs : Nat → Int} {d : Nat} (hd : 0 ≤ d)   (x1 : Int) (M : am_M) (r : Int) (h : Trip_tiredOf_34   x1 M = some r) : am_Ev L xs d me_82 0 (am_ar1 0 [.inr (.inr (some 34)), .inl (x1)]) [] 126 138 M (some (.inl r), 126, 138, M) := by
  refine ev_k (pc' := 1) (ls' := [(0, .inr (.inr (some 34))), (1, .inl (x1))]) (st' := [.inl (x1)]) (nc' := 126) (np' := 138) (M' := M) 1 rfl ?_
  obtain ⟨hR, ⟨hc, h⟩ | ⟨hc, h⟩⟩ := c_lt_i h
  · refine ev_ifc 19 rfl hR.1 (by decide) (fun _ => ?_) (fun q => absurd hc q)
    exact Trip_tiredOf_34_19_t hd      M r h
  · refine ev_ifc 19 rfl hR.1 (by decide) (fun q => absurd q hc) (fun _ => ?_)
    refine ev_k (pc' := 7) (ls' := [(0, .inr (.inr (some 34))), (1, .inl (x1))]) (st' := [.inl (6), .inl (x1)]) (nc' := 126) (np' := 138) (M' := M) 2 rfl ?_
    obtain ⟨hR, ⟨hc, h⟩ | ⟨hc, h⟩⟩ := c_ge_i h
    · refine ev_icmp 19 rfl hR.1 hR.2 (by decide) (fun _ => ?_) (fun q => absurd hc q)
      exact Trip_tiredOf_34_19_t hd      M r h
    · refine ev_icmp 19 rfl hR.1 hR.2 (by decide) (fun q => absurd q hc) (fun _ => ?_)
      refine ev_k (pc' := 15) (ls' := [(0, .inr (.inr (some 34))), (1, .inl (x1))]) (st' := [.inl (x1), .inr (.inr (some 35))]) (nc' := 126) (np' := 138) (M' := M) 3 rfl ?_
      obtain ⟨hc, v1, ev, h⟩ := rd_i h
      refine ev_ald (k := 35) (t := 0) (Or.inl ⟨rfl, rfl⟩) rfl (by decide) (by decide) rfl hc ev ?_
      refine ev_k (pc' := 20) (ls' := []) (st' := [.inl (v1)]) (nc' := 126) (np' := 138) (M' := M) 1 rfl ?_
      exact Trip_tiredOf_34_20_t hd     (v1) M r h
def Trip_setTired_34_26     (M : am_M) : Option (am_M) := some (M)
def Trip_setTired_34    (x1 : Int) (x2 : Int) (M : am_M) : Option (am_M) := c_lt (x1) (0)
       (Trip_setTired_34_26     M)
       (c_ge (x1) (6)
       (Trip_setTired_34_26     M)
       (ob (J_min (99) (x2) M) fun v1 => ob (J_max (0) (v1) M) fun v2 => wa M 35 6 (x1) (v2) fun M3 => (Trip_setTired_34_26     M3)))
theorem Trip_setTired_34_26_t {L : Nat} {xs : Nat → Int} {d : Nat} (hd : 1 ≤ d)      (M : am_M) (r : am_M) (h : Trip_setTired_34_26     M = some r) : am_Ev L xs d me_59 26 [] [] 126 138 M (none, 126, 138, r) := by
  refine ev_k (pc' := 26) (ls' := []) (st' := []) (nc' := 126) (np' := 138) (M' := M) 0 rfl ?_
  cases h
  exact ev_ret rfl
theorem Trip_setTired_34_e {L : Nat} {xs : Nat → Int} {d : Nat} (hd : 1 ≤ d)   (x1 : Int) (x2 : Int) (M : am_M) (r : am_M) (h : Trip_setTired_34   x1 x2 M = some r) : am_Ev L xs d me_59 0 (am_ar1 0 [.inr (.inr (some 34)), .inl (x1), .inl (x2)]) [] 126 138 M (none, 126, 138, r) := by
  refine ev_k (pc' := 1) (ls' := [(0, .inr (.inr (some 34))), (1, .inl (x1)), (2, .inl (x2))]) (st' := [.inl (x1)]) (nc' := 126) (np' := 138) (M' := M) 1 rfl ?_
  obtain ⟨hR, ⟨hc, h⟩ | ⟨hc, h⟩⟩ := c_lt_i h
  · refine ev_ifc 26 rfl hR.1 (by decide) (fun _ => ?_) (fun q => absurd hc q)
    exact Trip_setTired_34_26_t hd      M r h
  · refine ev_ifc 26 rfl hR.1 (by decide) (fun q => absurd q hc) (fun _ => ?_)
    refine ev_k (pc' := 7) (ls' := [(0, .inr (.inr (some 34))), (1, .inl (x1)), (2, .inl (x2))]) (st' := [.inl (6), .inl (x1)]) (nc' := 126) (np' := 138) (M' := M) 2 rfl ?_
    obtain ⟨hR, ⟨hc, h⟩ | ⟨hc, h⟩⟩ := c_ge_i h
    · refine ev_icmp 26 rfl hR.1 hR.2 (by decide) (fun _ => ?_) (fun q => absurd hc q)
      exact Trip_setTired_34_26_t hd      M r h
    · refine ev_icmp 26 rfl hR.1 hR.2 (by decide) (fun q => absurd q hc) (fun _ => ?_)
      refine ev_k (pc' := 19) (ls' := [(0, .inr (.inr (some 34))), (1, .inl (x1)), (2, .inl (x2))]) (st' := [.inl (x2), .inl (99), .inl (0), .inl (x1), .inr (.inr (some 35))]) (nc' := 126) (np' := 138) (M' := M) 6 rfl ?_
      obtain ⟨v1, hv, h⟩ := ob_i h
      refine ev_call (t := 60) (as := [.inl (99), .inl (x2)]) (rest := [.inl (0), .inl (x1), .inr (.inr (some 35))]) rfl rfl rfl (by omega) (J_min_e (by omega) (99) (x2) M _ hv) ?_
      refine ev_k (pc' := 22) (ls' := [(0, .inr (.inr (some 34))), (1, .inl (x1)), (2, .inl (x2))]) (st' := [.inl (v1), .inl (0), .inl (x1), .inr (.inr (some 35))]) (nc' := 126) (np' := 138) (M' := M) 0 rfl ?_
      obtain ⟨v2, hv, h⟩ := ob_i h
      refine ev_call (t := 61) (as := [.inl (0), .inl (v1)]) (rest := [.inl (x1), .inr (.inr (some 35))]) rfl rfl rfl (by omega) (J_max_e (by omega) (0) (v1) M _ hv) ?_
      refine ev_k (pc' := 25) (ls' := [(0, .inr (.inr (some 34))), (1, .inl (x1)), (2, .inl (x2))]) (st' := [.inl (v2), .inl (x1), .inr (.inr (some 35))]) (nc' := 126) (np' := 138) (M' := M) 0 rfl ?_
      obtain ⟨hc, M3, eM, h⟩ := wa_i h
      refine ev_iast (k := 35) rfl (by decide) rfl hc eM ?_
      exact Trip_setTired_34_26_t hd      M3 r h
def Outing_rest_50_34_68     (M : am_M) : Option (am_M) := some (M)
def Outing_rest_50_34_62   (k12 : Int → am_M → Option (am_M)) (x2 : Int) (M : am_M) : Option (am_M) := (k12 ((x2) + (1)) M)
def Outing_rest_50_34_12    : Nat → Int → am_M → Option (am_M)
  | 0, _, _ => none
  | n + 1, x2, M => c_ge (x2) (6)
       (Outing_rest_50_34_68     M)
       (ob (Country_isTold_1 (x2) M) fun v1 => c_eq (v1) (0)
       (Outing_rest_50_34_62   (Outing_rest_50_34_12    n) (x2) M)
       (ob (Trip_tiredOf_34 (x2) M) fun v2 => ob (Country_armOf_1 (x2) M) fun v3 => oc (Law_resting_5 (v3) (v2) (M 34 13) M) fun v4 M5 => ob (Trip_setTired_34 (x2) ((v2) - (v4)) M5) fun M6 => (Outing_rest_50_34_62   (Outing_rest_50_34_12    n) (x2) M6)))
def Outing_rest_50_34     (M : am_M) : Option (am_M) := oc (Outing_spend_50_34 (10) M) fun v1 M2 => c_eq (v1) (0)
       (Outing_rest_50_34_68     M2)
       ((Outing_rest_50_34_12    am_big (0) M2))
theorem Outing_rest_50_34_68_t {L : Nat} {xs : Nat → Int} {d : Nat} (hd : 3 ≤ d)      (M : am_M) (r : am_M) (h : Outing_rest_50_34_68     M = some r) : am_Ev L xs d me_80 68 [] [] 126 138 M (none, 126, 138, r) := by
  refine ev_k (pc' := 68) (ls' := []) (st' := []) (nc' := 126) (np' := 138) (M' := M) 0 rfl ?_
  cases h
  exact ev_ret rfl
theorem Outing_rest_50_34_62_t {L : Nat} {xs : Nat → Int} {d : Nat} (hd : 3 ≤ d)   (k12 : Int → am_M → Option (am_M)) (hk12 : ∀ (x2 : Int) (M : am_M) (r : am_M), k12 x2 M = some r → am_Ev L xs d me_80 12 [(0, .inr (.inr (some 50))), (1, .inr (.inr (some 34))), (2, .inl (x2))] [] 126 138 M (none, 126, 138, r)) (x2 : Int) (M : am_M) (r : am_M) (h : Outing_rest_50_34_62   k12 x2 M = some r) : am_Ev L xs d me_80 62 [(0, .inr (.inr (some 50))), (1, .inr (.inr (some 34))), (2, .inl (x2))] [] 126 138 M (none, 126, 138, r) := by
  refine ev_k (pc' := 12) (ls' := [(0, .inr (.inr (some 50))), (1, .inr (.inr (some 34))), (2, .inl ((x2) + (1)))]) (st' := []) (nc' := 126) (np' := 138) (M' := M) 2 rfl ?_
  exact hk12 ((x2) + (1)) M r h
theorem Outing_rest_50_34_12_t {L : Nat} {xs : Nat → Int} {d : Nat} (hd : 3 ≤ d)     : ∀ (n : Nat) (x2 : Int) (M : am_M) (r : am_M), Outing_rest_50_34_12    n x2 M = some r → am_Ev L xs d me_80 12 [(0, .inr (.inr (some 50))), (1, .inr (.inr (some 34))), (2, .inl (x2))] [] 126 138 M (none, 126, 138, r)
  | 0, _, M, r, h => by cases h
  | n + 1, x2, M, r, h => by
    have ih := Outing_rest_50_34_12_t (L := L) (xs := xs) hd     n
    refine ev_k (pc' := 15) (ls' := [(0, .inr (.inr (some 50))), (1, .inr (.inr (some 34))), (2, .inl (x2))]) (st' := [.inl (6), .inl (x2)]) (nc' := 126) (np' := 138) (M' := M) 2 rfl ?_
    obtain ⟨hR, ⟨hc, h⟩ | ⟨hc, h⟩⟩ := c_ge_i h
    · refine ev_icmp 68 rfl hR.1 hR.2 (by decide) (fun _ => ?_) (fun q => absurd hc q)
      exact Outing_rest_50_34_68_t hd      M r h
    · refine ev_icmp 68 rfl hR.1 hR.2 (by decide) (fun q => absurd q hc) (fun _ => ?_)
      refine ev_k (pc' := 23) (ls' := [(0, .inr (.inr (some 50))), (1, .inr (.inr (some 34))), (2, .inl (x2))]) (st' := [.inl (x2), .inr (.inr (some 1))]) (nc' := 126) (np' := 138) (M' := M) 3 rfl ?_
      obtain ⟨v1, hv, h⟩ := ob_i h
      refine ev_call (t := 62) (as := [.inr (.inr (some 1)), .inl (x2)]) (rest := []) rfl rfl rfl (by omega) (Country_isTold_1_e (by omega) (x2) M _ hv) ?_
      refine ev_k (pc' := 26) (ls' := [(0, .inr (.inr (some 50))), (1, .inr (.inr (some 34))), (2, .inl (x2))]) (st' := [.inl (v1)]) (nc' := 126) (np' := 138) (M' := M) 0 rfl ?_
      obtain ⟨hR, ⟨hc, h⟩ | ⟨hc, h⟩⟩ := c_eq_i h
      · refine ev_ifc 62 rfl hR.1 (by decide) (fun _ => ?_) (fun q => absurd hc q)
        exact Outing_rest_50_34_62_t hd   (Outing_rest_50_34_12    n) ih (x2) M r h
      · refine ev_ifc 62 rfl hR.1 (by decide) (fun q => absurd q hc) (fun _ => ?_)
        refine ev_k (pc' := 31) (ls' := [(0, .inr (.inr (some 50))), (1, .inr (.inr (some 34))), (2, .inl (x2))]) (st' := [.inl (x2), .inr (.inr (some 34))]) (nc' := 126) (np' := 138) (M' := M) 2 rfl ?_
        obtain ⟨v2, hv, h⟩ := ob_i h
        refine ev_call (t := 82) (as := [.inr (.inr (some 34)), .inl (x2)]) (rest := []) rfl rfl rfl (by omega) (Trip_tiredOf_34_e (by omega) (x2) M _ hv) ?_
        refine ev_k (pc' := 47) (ls' := [(3, .inl (v2)), (0, .inr (.inr (some 50))), (1, .inr (.inr (some 34))), (2, .inl (x2))]) (st' := [.inl (x2), .inr (.inr (some 1)), .inr (.inr (some 5)), .inl (v2), .inl (x2), .inr (.inr (some 34))]) (nc' := 126) (np' := 138) (M' := M) 9 rfl ?_
        obtain ⟨v3, hv, h⟩ := ob_i h
        refine ev_call (t := 63) (as := [.inr (.inr (some 1)), .inl (x2)]) (rest := [.inr (.inr (some 5)), .inl (v2), .inl (x2), .inr (.inr (some 34))]) rfl rfl rfl (by omega) (Country_armOf_1_e (by omega) (x2) M _ hv) ?_
        refine ev_k (pc' := 55) (ls' := [(3, .inl (v2)), (0, .inr (.inr (some 50))), (1, .inr (.inr (some 34))), (2, .inl (x2))]) (st' := [.inl (M 34 13), .inl (v2), .inl (v3), .inr (.inr (some 5)), .inl (v2), .inl (x2), .inr (.inr (some 34))]) (nc' := 126) (np' := 138) (M' := M) 3 rfl ?_
        obtain ⟨v4, M5, hv, h⟩ := oc_i h
        refine ev_call (t := 83) (as := [.inr (.inr (some 5)), .inl (v3), .inl (v2), .inl (M 34 13)]) (rest := [.inl (v2), .inl (x2), .inr (.inr (some 34))]) rfl rfl rfl (by omega) (Law_resting_5_e (by omega) (v3) (v2) (M 34 13) M _ hv) ?_
        refine ev_k (pc' := 59) (ls' := [(3, .inl (v2)), (0, .inr (.inr (some 50))), (1, .inr (.inr (some 34))), (2, .inl (x2))]) (st' := [.inl ((v2) - (v4)), .inl (x2), .inr (.inr (some 34))]) (nc' := 126) (np' := 138) (M' := M5) 1 rfl ?_
        obtain ⟨M6, hv, h⟩ := ob_i h
        refine ev_call (t := 59) (as := [.inr (.inr (some 34)), .inl (x2), .inl ((v2) - (v4))]) (rest := []) rfl rfl rfl (by omega) (Trip_setTired_34_e (by omega) (x2) ((v2) - (v4)) M5 _ hv) ?_
        exact Outing_rest_50_34_62_t hd   (Outing_rest_50_34_12    n) ih (x2) M6 r h
theorem Outing_rest_50_34_e {L : Nat} {xs : Nat → Int} {d : Nat} (hd : 3 ≤ d)    (M : am_M) (r : am_M) (h : Outing_rest_50_34    M = some r) : am_Ev L xs d me_80 0 (am_ar1 0 [.inr (.inr (some 50)), .inr (.inr (some 34))]) [] 126 138 M (none, 126, 138, r) := by
  refine ev_k (pc' := 4) (ls' := [(0, .inr (.inr (some 50))), (1, .inr (.inr (some 34)))]) (st' := [.inl (10), .inr (.inr (some 34)), .inr (.inr (some 50))]) (nc' := 126) (np' := 138) (M' := M) 3 rfl ?_
  obtain ⟨v1, M2, hv, h⟩ := oc_i h
  refine ev_call (t := 81) (as := [.inr (.inr (some 50)), .inr (.inr (some 34)), .inl (10)]) (rest := []) rfl rfl rfl (by omega) (Outing_spend_50_34_e (by omega) (10) M _ hv) ?_
  refine ev_k (pc' := 7) (ls' := [(0, .inr (.inr (some 50))), (1, .inr (.inr (some 34)))]) (st' := [.inl (v1)]) (nc' := 126) (np' := 138) (M' := M2) 0 rfl ?_
  obtain ⟨hR, ⟨hc, h⟩ | ⟨hc, h⟩⟩ := c_eq_i h
  · refine ev_ifc 68 rfl hR.1 (by decide) (fun _ => ?_) (fun q => absurd hc q)
    exact Outing_rest_50_34_68_t hd      M2 r h
  · refine ev_ifc 68 rfl hR.1 (by decide) (fun q => absurd q hc) (fun _ => ?_)
    refine ev_k (pc' := 12) (ls' := [(0, .inr (.inr (some 50))), (1, .inr (.inr (some 34))), (2, .inl (0))]) (st' := []) (nc' := 126) (np' := 138) (M' := M2) 2 rfl ?_
    exact Outing_rest_50_34_12_t hd     am_big (0) M2 r h
def Trip_isPlace_34_23    (s0 : Int) (M : am_M) : Option (Int) := ck ((s0) = 0 ∨ (s0) = 1) (some (s0))
def Trip_isPlace_34_22     (M : am_M) : Option (Int) := (Trip_isPlace_34_23    (0) M)
def Trip_isPlace_34    (x1 : Int) (M : am_M) : Option (Int) := c_lt (x1) (0)
       (Trip_isPlace_34_22     M)
       (c_ge (x1) (M 34 10)
       (Trip_isPlace_34_22     M)
       (c_ge (x1) (100)
       (Trip_isPlace_34_22     M)
       ((Trip_isPlace_34_23    (1) M))))
theorem Trip_isPlace_34_23_t {L : Nat} {xs : Nat → Int} {d : Nat} (hd : 0 ≤ d)     (s0 : Int) (M : am_M) (r : Int) (h : Trip_isPlace_34_23    s0 M = some r) : am_Ev L xs d me_32 23 [] [.inl (s0)] 126 138 M (some (.inl r), 126, 138, M) := by
  refine ev_k (pc' := 23) (ls' := []) (st' := [.inl (s0)]) (nc' := 126) (np' := 138) (M' := M) 0 rfl ?_
  obtain ⟨hc, h⟩ := ck_i h
  cases h
  exact ev_retz rfl rfl hc
theorem Trip_isPlace_34_22_t {L : Nat} {xs : Nat → Int} {d : Nat} (hd : 0 ≤ d)      (M : am_M) (r : Int) (h : Trip_isPlace_34_22     M = some r) : am_Ev L xs d me_32 22 [] [] 126 138 M (some (.inl r), 126, 138, M) := by
  refine ev_k (pc' := 23) (ls' := []) (st' := [.inl (0)]) (nc' := 126) (np' := 138) (M' := M) 1 rfl ?_
  exact Trip_isPlace_34_23_t hd     (0) M r h
theorem Trip_isPlace_34_e {L : Nat} {xs : Nat → Int} {d : Nat} (hd : 0 ≤ d)   (x1 : Int) (M : am_M) (r : Int) (h : Trip_isPlace_34   x1 M = some r) : am_Ev L xs d me_32 0 (am_ar1 0 [.inr (.inr (some 34)), .inl (x1)]) [] 126 138 M (some (.inl r), 126, 138, M) := by
  refine ev_k (pc' := 1) (ls' := [(0, .inr (.inr (some 34))), (1, .inl (x1))]) (st' := [.inl (x1)]) (nc' := 126) (np' := 138) (M' := M) 1 rfl ?_
  obtain ⟨hR, ⟨hc, h⟩ | ⟨hc, h⟩⟩ := c_lt_i h
  · refine ev_ifc 22 rfl hR.1 (by decide) (fun _ => ?_) (fun q => absurd hc q)
    exact Trip_isPlace_34_22_t hd      M r h
  · refine ev_ifc 22 rfl hR.1 (by decide) (fun q => absurd q hc) (fun _ => ?_)
    refine ev_k (pc' := 9) (ls' := [(0, .inr (.inr (some 34))), (1, .inl (x1))]) (st' := [.inl (M 34 10), .inl (x1)]) (nc' := 126) (np' := 138) (M' := M) 3 rfl ?_
    obtain ⟨hR, ⟨hc, h⟩ | ⟨hc, h⟩⟩ := c_ge_i h
    · refine ev_icmp 22 rfl hR.1 hR.2 (by decide) (fun _ => ?_) (fun q => absurd hc q)
      exact Trip_isPlace_34_22_t hd      M r h
    · refine ev_icmp 22 rfl hR.1 hR.2 (by decide) (fun q => absurd q hc) (fun _ => ?_)
      refine ev_k (pc' := 15) (ls' := [(0, .inr (.inr (some 34))), (1, .inl (x1))]) (st' := [.inl (100), .inl (x1)]) (nc' := 126) (np' := 138) (M' := M) 2 rfl ?_
      obtain ⟨hR, ⟨hc, h⟩ | ⟨hc, h⟩⟩ := c_ge_i h
      · refine ev_icmp 22 rfl hR.1 hR.2 (by decide) (fun _ => ?_) (fun q => absurd hc q)
        exact Trip_isPlace_34_22_t hd      M r h
      · refine ev_icmp 22 rfl hR.1 hR.2 (by decide) (fun q => absurd q hc) (fun _ => ?_)
        refine ev_k (pc' := 23) (ls' := []) (st' := [.inl (1)]) (nc' := 126) (np' := 138) (M' := M) 2 rfl ?_
        exact Trip_isPlace_34_23_t hd     (1) M r h
def Trip_marksAt_34_18    (s0 : Int) (M : am_M) : Option (Int) := some (s0)
def Trip_marksAt_34    (x1 : Int) (M : am_M) : Option (Int) := ob (Trip_isPlace_34 (x1) M) fun v1 => c_eq (v1) (0)
       ((Trip_marksAt_34_18    (0) M))
       (rd M 39 100 (x1) fun v2 => (Trip_marksAt_34_18    (v2) M))
theorem Trip_marksAt_34_18_t {L : Nat} {xs : Nat → Int} {d : Nat} (hd : 1 ≤ d)     (s0 : Int) (M : am_M) (r : Int) (h : Trip_marksAt_34_18    s0 M = some r) : am_Ev L xs d me_91 18 [] [.inl (s0)] 126 138 M (some (.inl r), 126, 138, M) := by
  refine ev_k (pc' := 18) (ls' := []) (st' := [.inl (s0)]) (nc' := 126) (np' := 138) (M' := M) 0 rfl ?_
  cases h
  exact ev_ret rfl
theorem Trip_marksAt_34_e {L : Nat} {xs : Nat → Int} {d : Nat} (hd : 1 ≤ d)   (x1 : Int) (M : am_M) (r : Int) (h : Trip_marksAt_34   x1 M = some r) : am_Ev L xs d me_91 0 (am_ar1 0 [.inr (.inr (some 34)), .inl (x1)]) [] 126 138 M (some (.inl r), 126, 138, M) := by
  refine ev_k (pc' := 2) (ls' := [(0, .inr (.inr (some 34))), (1, .inl (x1))]) (st' := [.inl (x1), .inr (.inr (some 34))]) (nc' := 126) (np' := 138) (M' := M) 2 rfl ?_
  obtain ⟨v1, hv, h⟩ := ob_i h
  refine ev_call (t := 32) (as := [.inr (.inr (some 34)), .inl (x1)]) (rest := []) rfl rfl rfl (by omega) (Trip_isPlace_34_e (by omega) (x1) M _ hv) ?_
  refine ev_k (pc' := 5) (ls' := [(0, .inr (.inr (some 34))), (1, .inl (x1))]) (st' := [.inl (v1)]) (nc' := 126) (np' := 138) (M' := M) 0 rfl ?_
  obtain ⟨hR, ⟨hc, h⟩ | ⟨hc, h⟩⟩ := c_eq_i h
  · refine ev_ifc 17 rfl hR.1 (by decide) (fun _ => ?_) (fun q => absurd hc q)
    refine ev_k (pc' := 18) (ls' := []) (st' := [.inl (0)]) (nc' := 126) (np' := 138) (M' := M) 1 rfl ?_
    exact Trip_marksAt_34_18_t hd     (0) M r h
  · refine ev_ifc 17 rfl hR.1 (by decide) (fun q => absurd q hc) (fun _ => ?_)
    refine ev_k (pc' := 13) (ls' := [(0, .inr (.inr (some 34))), (1, .inl (x1))]) (st' := [.inl (x1), .inr (.inr (some 39))]) (nc' := 126) (np' := 138) (M' := M) 3 rfl ?_
    obtain ⟨hc, v2, ev, h⟩ := rd_i h
    refine ev_ald (k := 39) (t := 0) (Or.inl ⟨rfl, rfl⟩) rfl (by decide) (by decide) rfl hc ev ?_
    refine ev_k (pc' := 18) (ls' := []) (st' := [.inl (v2)]) (nc' := 126) (np' := 138) (M' := M) 1 rfl ?_
    exact Trip_marksAt_34_18_t hd     (v2) M r h
def Trip_putMark_34_24     (M : am_M) : Option (am_M) := some (M)
def Trip_putMark_34    (x1 : Int) (M : am_M) : Option (am_M) := ob (Trip_isPlace_34 (M 34 11) M) fun v1 => c_eq (v1) (0)
       (Trip_putMark_34_24     M)
       (rd M 39 100 (M 34 11) fun v2 => wa M 39 100 (M 34 11) (b_or (v2) (x1)) fun M3 => (Trip_putMark_34_24     M3))
theorem Trip_putMark_34_24_t {L : Nat} {xs : Nat → Int} {d : Nat} (hd : 1 ≤ d)      (M : am_M) (r : am_M) (h : Trip_putMark_34_24     M = some r) : am_Ev L xs d me_92 24 [] [] 126 138 M (none, 126, 138, r) := by
  refine ev_k (pc' := 24) (ls' := []) (st' := []) (nc' := 126) (np' := 138) (M' := M) 0 rfl ?_
  cases h
  exact ev_ret rfl
theorem Trip_putMark_34_e {L : Nat} {xs : Nat → Int} {d : Nat} (hd : 1 ≤ d)   (x1 : Int) (M : am_M) (r : am_M) (h : Trip_putMark_34   x1 M = some r) : am_Ev L xs d me_92 0 (am_ar1 0 [.inr (.inr (some 34)), .inl (x1)]) [] 126 138 M (none, 126, 138, r) := by
  refine ev_k (pc' := 5) (ls' := [(0, .inr (.inr (some 34))), (1, .inl (x1))]) (st' := [.inl (M 34 11), .inr (.inr (some 34))]) (nc' := 126) (np' := 138) (M' := M) 3 rfl ?_
  obtain ⟨v1, hv, h⟩ := ob_i h
  refine ev_call (t := 32) (as := [.inr (.inr (some 34)), .inl (M 34 11)]) (rest := []) rfl rfl rfl (by omega) (Trip_isPlace_34_e (by omega) (M 34 11) M _ hv) ?_
  refine ev_k (pc' := 8) (ls' := [(0, .inr (.inr (some 34))), (1, .inl (x1))]) (st' := [.inl (v1)]) (nc' := 126) (np' := 138) (M' := M) 0 rfl ?_
  obtain ⟨hR, ⟨hc, h⟩ | ⟨hc, h⟩⟩ := c_eq_i h
  · refine ev_ifc 24 rfl hR.1 (by decide) (fun _ => ?_) (fun q => absurd hc q)
    exact Trip_putMark_34_24_t hd      M r h
  · refine ev_ifc 24 rfl hR.1 (by decide) (fun q => absurd q hc) (fun _ => ?_)
    refine ev_k (pc' := 20) (ls' := [(0, .inr (.inr (some 34))), (1, .inl (x1))]) (st' := [.inl (M 34 11), .inr (.inr (some 39)), .inl (M 34 11), .inr (.inr (some 39))]) (nc' := 126) (np' := 138) (M' := M) 5 rfl ?_
    obtain ⟨hc, v2, ev, h⟩ := rd_i h
    refine ev_ald (k := 39) (t := 0) (Or.inl ⟨rfl, rfl⟩) rfl (by decide) (by decide) rfl hc ev ?_
    refine ev_k (pc' := 23) (ls' := [(0, .inr (.inr (some 34))), (1, .inl (x1))]) (st' := [.inl (b_or (v2) (x1)), .inl (M 34 11), .inr (.inr (some 39))]) (nc' := 126) (np' := 138) (M' := M) 2 rfl ?_
    obtain ⟨hc, M3, eM, h⟩ := wa_i h
    refine ev_iast (k := 39) rfl (by decide) rfl hc eM ?_
    exact Trip_putMark_34_24_t hd      M3 r h
def Outing_mark_50_34_27     (M : am_M) : Option (am_M) := some (M)
def Outing_mark_50_34    (x2 : Int) (M : am_M) : Option (am_M) := ob (Trip_marksAt_34 (M 34 11) M) fun v1 => c_ne (b_and (v1) (x2)) (0)
       (Outing_mark_50_34_27     M)
       (oc (Outing_spend_50_34 (2) M) fun v2 M3 => c_eq (v2) (0)
       (Outing_mark_50_34_27     M3)
       (ob (Trip_putMark_34 (x2) M3) fun M4 => (Outing_mark_50_34_27     M4)))
theorem Outing_mark_50_34_27_t {L : Nat} {xs : Nat → Int} {d : Nat} (hd : 2 ≤ d)      (M : am_M) (r : am_M) (h : Outing_mark_50_34_27     M = some r) : am_Ev L xs d me_90 27 [] [] 126 138 M (none, 126, 138, r) := by
  refine ev_k (pc' := 27) (ls' := []) (st' := []) (nc' := 126) (np' := 138) (M' := M) 0 rfl ?_
  cases h
  exact ev_ret rfl
theorem Outing_mark_50_34_e {L : Nat} {xs : Nat → Int} {d : Nat} (hd : 2 ≤ d)   (x2 : Int) (M : am_M) (r : am_M) (h : Outing_mark_50_34   x2 M = some r) : am_Ev L xs d me_90 0 (am_ar1 0 [.inr (.inr (some 50)), .inr (.inr (some 34)), .inl (x2)]) [] 126 138 M (none, 126, 138, r) := by
  refine ev_k (pc' := 5) (ls' := [(0, .inr (.inr (some 50))), (1, .inr (.inr (some 34))), (2, .inl (x2))]) (st' := [.inl (M 34 11), .inr (.inr (some 34))]) (nc' := 126) (np' := 138) (M' := M) 3 rfl ?_
  obtain ⟨v1, hv, h⟩ := ob_i h
  refine ev_call (t := 91) (as := [.inr (.inr (some 34)), .inl (M 34 11)]) (rest := []) rfl rfl rfl (by omega) (Trip_marksAt_34_e (by omega) (M 34 11) M _ hv) ?_
  refine ev_k (pc' := 10) (ls' := [(0, .inr (.inr (some 50))), (1, .inr (.inr (some 34))), (2, .inl (x2))]) (st' := [.inl (b_and (v1) (x2))]) (nc' := 126) (np' := 138) (M' := M) 2 rfl ?_
  obtain ⟨hR, ⟨hc, h⟩ | ⟨hc, h⟩⟩ := c_ne_i h
  · refine ev_ifc 27 rfl hR.1 (by decide) (fun _ => ?_) (fun q => absurd hc q)
    exact Outing_mark_50_34_27_t hd      M r h
  · refine ev_ifc 27 rfl hR.1 (by decide) (fun q => absurd q hc) (fun _ => ?_)
    refine ev_k (pc' := 16) (ls' := [(0, .inr (.inr (some 50))), (1, .inr (.inr (some 34))), (2, .inl (x2))]) (st' := [.inl (2), .inr (.inr (some 34)), .inr (.inr (some 50))]) (nc' := 126) (np' := 138) (M' := M) 3 rfl ?_
    obtain ⟨v2, M3, hv, h⟩ := oc_i h
    refine ev_call (t := 81) (as := [.inr (.inr (some 50)), .inr (.inr (some 34)), .inl (2)]) (rest := []) rfl rfl rfl (by omega) (Outing_spend_50_34_e (by omega) (2) M _ hv) ?_
    refine ev_k (pc' := 19) (ls' := [(0, .inr (.inr (some 50))), (1, .inr (.inr (some 34))), (2, .inl (x2))]) (st' := [.inl (v2)]) (nc' := 126) (np' := 138) (M' := M3) 0 rfl ?_
    obtain ⟨hR, ⟨hc, h⟩ | ⟨hc, h⟩⟩ := c_eq_i h
    · refine ev_ifc 27 rfl hR.1 (by decide) (fun _ => ?_) (fun q => absurd hc q)
      exact Outing_mark_50_34_27_t hd      M3 r h
    · refine ev_ifc 27 rfl hR.1 (by decide) (fun q => absurd q hc) (fun _ => ?_)
      refine ev_k (pc' := 24) (ls' := [(0, .inr (.inr (some 50))), (1, .inr (.inr (some 34))), (2, .inl (x2))]) (st' := [.inl (x2), .inr (.inr (some 34))]) (nc' := 126) (np' := 138) (M' := M3) 2 rfl ?_
      obtain ⟨M4, hv, h⟩ := ob_i h
      refine ev_call (t := 92) (as := [.inr (.inr (some 34)), .inl (x2)]) (rest := []) rfl rfl rfl (by omega) (Trip_putMark_34_e (by omega) (x2) M3 _ hv) ?_
      exact Outing_mark_50_34_27_t hd      M4 r h
def Trip_sticksAt_34_18    (s0 : Int) (M : am_M) : Option (Int) := some (s0)
def Trip_sticksAt_34    (x1 : Int) (M : am_M) : Option (Int) := ob (Trip_isPlace_34 (x1) M) fun v1 => c_eq (v1) (0)
       ((Trip_sticksAt_34_18    (0) M))
       (rd M 40 100 (x1) fun v2 => (Trip_sticksAt_34_18    (v2) M))
theorem Trip_sticksAt_34_18_t {L : Nat} {xs : Nat → Int} {d : Nat} (hd : 1 ≤ d)     (s0 : Int) (M : am_M) (r : Int) (h : Trip_sticksAt_34_18    s0 M = some r) : am_Ev L xs d me_94 18 [] [.inl (s0)] 126 138 M (some (.inl r), 126, 138, M) := by
  refine ev_k (pc' := 18) (ls' := []) (st' := [.inl (s0)]) (nc' := 126) (np' := 138) (M' := M) 0 rfl ?_
  cases h
  exact ev_ret rfl
theorem Trip_sticksAt_34_e {L : Nat} {xs : Nat → Int} {d : Nat} (hd : 1 ≤ d)   (x1 : Int) (M : am_M) (r : Int) (h : Trip_sticksAt_34   x1 M = some r) : am_Ev L xs d me_94 0 (am_ar1 0 [.inr (.inr (some 34)), .inl (x1)]) [] 126 138 M (some (.inl r), 126, 138, M) := by
  refine ev_k (pc' := 2) (ls' := [(0, .inr (.inr (some 34))), (1, .inl (x1))]) (st' := [.inl (x1), .inr (.inr (some 34))]) (nc' := 126) (np' := 138) (M' := M) 2 rfl ?_
  obtain ⟨v1, hv, h⟩ := ob_i h
  refine ev_call (t := 32) (as := [.inr (.inr (some 34)), .inl (x1)]) (rest := []) rfl rfl rfl (by omega) (Trip_isPlace_34_e (by omega) (x1) M _ hv) ?_
  refine ev_k (pc' := 5) (ls' := [(0, .inr (.inr (some 34))), (1, .inl (x1))]) (st' := [.inl (v1)]) (nc' := 126) (np' := 138) (M' := M) 0 rfl ?_
  obtain ⟨hR, ⟨hc, h⟩ | ⟨hc, h⟩⟩ := c_eq_i h
  · refine ev_ifc 17 rfl hR.1 (by decide) (fun _ => ?_) (fun q => absurd hc q)
    refine ev_k (pc' := 18) (ls' := []) (st' := [.inl (0)]) (nc' := 126) (np' := 138) (M' := M) 1 rfl ?_
    exact Trip_sticksAt_34_18_t hd     (0) M r h
  · refine ev_ifc 17 rfl hR.1 (by decide) (fun q => absurd q hc) (fun _ => ?_)
    refine ev_k (pc' := 13) (ls' := [(0, .inr (.inr (some 34))), (1, .inl (x1))]) (st' := [.inl (x1), .inr (.inr (some 40))]) (nc' := 126) (np' := 138) (M' := M) 3 rfl ?_
    obtain ⟨hc, v2, ev, h⟩ := rd_i h
    refine ev_ald (k := 40) (t := 0) (Or.inl ⟨rfl, rfl⟩) rfl (by decide) (by decide) rfl hc ev ?_
    refine ev_k (pc' := 18) (ls' := []) (st' := [.inl (v2)]) (nc' := 126) (np' := 138) (M' := M) 1 rfl ?_
    exact Trip_sticksAt_34_18_t hd     (v2) M r h
def Trip_putStick_34_21     (M : am_M) : Option (am_M) := some (M)
def Trip_putStick_34     (M : am_M) : Option (am_M) := ob (Trip_isPlace_34 (M 34 11) M) fun v1 => c_eq (v1) (0)
       (Trip_putStick_34_21     M)
       (wa M 40 100 (M 34 11) (1) fun M2 => (Trip_putStick_34_21     M2))
theorem Trip_putStick_34_21_t {L : Nat} {xs : Nat → Int} {d : Nat} (hd : 1 ≤ d)      (M : am_M) (r : am_M) (h : Trip_putStick_34_21     M = some r) : am_Ev L xs d me_95 21 [] [] 126 138 M (none, 126, 138, r) := by
  refine ev_k (pc' := 21) (ls' := []) (st' := []) (nc' := 126) (np' := 138) (M' := M) 0 rfl ?_
  cases h
  exact ev_ret rfl
theorem Trip_putStick_34_e {L : Nat} {xs : Nat → Int} {d : Nat} (hd : 1 ≤ d)    (M : am_M) (r : am_M) (h : Trip_putStick_34    M = some r) : am_Ev L xs d me_95 0 (am_ar1 0 [.inr (.inr (some 34))]) [] 126 138 M (none, 126, 138, r) := by
  refine ev_k (pc' := 5) (ls' := [(0, .inr (.inr (some 34)))]) (st' := [.inl (M 34 11), .inr (.inr (some 34))]) (nc' := 126) (np' := 138) (M' := M) 3 rfl ?_
  obtain ⟨v1, hv, h⟩ := ob_i h
  refine ev_call (t := 32) (as := [.inr (.inr (some 34)), .inl (M 34 11)]) (rest := []) rfl rfl rfl (by omega) (Trip_isPlace_34_e (by omega) (M 34 11) M _ hv) ?_
  refine ev_k (pc' := 8) (ls' := [(0, .inr (.inr (some 34)))]) (st' := [.inl (v1)]) (nc' := 126) (np' := 138) (M' := M) 0 rfl ?_
  obtain ⟨hR, ⟨hc, h⟩ | ⟨hc, h⟩⟩ := c_eq_i h
  · refine ev_ifc 21 rfl hR.1 (by decide) (fun _ => ?_) (fun q => absurd hc q)
    exact Trip_putStick_34_21_t hd      M r h
  · refine ev_ifc 21 rfl hR.1 (by decide) (fun q => absurd q hc) (fun _ => ?_)
    refine ev_k (pc' := 20) (ls' := [(0, .inr (.inr (some 34)))]) (st' := [.inl (1), .inl (M 34 11), .inr (.inr (some 40))]) (nc' := 126) (np' := 138) (M' := M) 5 rfl ?_
    obtain ⟨hc, M2, eM, h⟩ := wa_i h
    refine ev_iast (k := 40) rfl (by decide) rfl hc eM ?_
    exact Trip_putStick_34_21_t hd      M2 r h
def Outing_lay_50_34_24     (M : am_M) : Option (am_M) := some (M)
def Outing_lay_50_34     (M : am_M) : Option (am_M) := ob (Trip_sticksAt_34 (M 34 11) M) fun v1 => c_ne (v1) (0)
       (Outing_lay_50_34_24     M)
       (oc (Outing_spend_50_34 (1) M) fun v2 M3 => c_eq (v2) (0)
       (Outing_lay_50_34_24     M3)
       (ob (Trip_putStick_34  M3) fun M4 => (Outing_lay_50_34_24     M4)))
theorem Outing_lay_50_34_24_t {L : Nat} {xs : Nat → Int} {d : Nat} (hd : 2 ≤ d)      (M : am_M) (r : am_M) (h : Outing_lay_50_34_24     M = some r) : am_Ev L xs d me_93 24 [] [] 126 138 M (none, 126, 138, r) := by
  refine ev_k (pc' := 24) (ls' := []) (st' := []) (nc' := 126) (np' := 138) (M' := M) 0 rfl ?_
  cases h
  exact ev_ret rfl
theorem Outing_lay_50_34_e {L : Nat} {xs : Nat → Int} {d : Nat} (hd : 2 ≤ d)    (M : am_M) (r : am_M) (h : Outing_lay_50_34    M = some r) : am_Ev L xs d me_93 0 (am_ar1 0 [.inr (.inr (some 50)), .inr (.inr (some 34))]) [] 126 138 M (none, 126, 138, r) := by
  refine ev_k (pc' := 5) (ls' := [(0, .inr (.inr (some 50))), (1, .inr (.inr (some 34)))]) (st' := [.inl (M 34 11), .inr (.inr (some 34))]) (nc' := 126) (np' := 138) (M' := M) 3 rfl ?_
  obtain ⟨v1, hv, h⟩ := ob_i h
  refine ev_call (t := 94) (as := [.inr (.inr (some 34)), .inl (M 34 11)]) (rest := []) rfl rfl rfl (by omega) (Trip_sticksAt_34_e (by omega) (M 34 11) M _ hv) ?_
  refine ev_k (pc' := 8) (ls' := [(0, .inr (.inr (some 50))), (1, .inr (.inr (some 34)))]) (st' := [.inl (v1)]) (nc' := 126) (np' := 138) (M' := M) 0 rfl ?_
  obtain ⟨hR, ⟨hc, h⟩ | ⟨hc, h⟩⟩ := c_ne_i h
  · refine ev_ifc 24 rfl hR.1 (by decide) (fun _ => ?_) (fun q => absurd hc q)
    exact Outing_lay_50_34_24_t hd      M r h
  · refine ev_ifc 24 rfl hR.1 (by decide) (fun q => absurd q hc) (fun _ => ?_)
    refine ev_k (pc' := 14) (ls' := [(0, .inr (.inr (some 50))), (1, .inr (.inr (some 34)))]) (st' := [.inl (1), .inr (.inr (some 34)), .inr (.inr (some 50))]) (nc' := 126) (np' := 138) (M' := M) 3 rfl ?_
    obtain ⟨v2, M3, hv, h⟩ := oc_i h
    refine ev_call (t := 81) (as := [.inr (.inr (some 50)), .inr (.inr (some 34)), .inl (1)]) (rest := []) rfl rfl rfl (by omega) (Outing_spend_50_34_e (by omega) (1) M _ hv) ?_
    refine ev_k (pc' := 17) (ls' := [(0, .inr (.inr (some 50))), (1, .inr (.inr (some 34)))]) (st' := [.inl (v2)]) (nc' := 126) (np' := 138) (M' := M3) 0 rfl ?_
    obtain ⟨hR, ⟨hc, h⟩ | ⟨hc, h⟩⟩ := c_eq_i h
    · refine ev_ifc 24 rfl hR.1 (by decide) (fun _ => ?_) (fun q => absurd hc q)
      exact Outing_lay_50_34_24_t hd      M3 r h
    · refine ev_ifc 24 rfl hR.1 (by decide) (fun q => absurd q hc) (fun _ => ?_)
      refine ev_k (pc' := 21) (ls' := [(0, .inr (.inr (some 50))), (1, .inr (.inr (some 34)))]) (st' := [.inr (.inr (some 34))]) (nc' := 126) (np' := 138) (M' := M3) 1 rfl ?_
      obtain ⟨M4, hv, h⟩ := ob_i h
      refine ev_call (t := 95) (as := [.inr (.inr (some 34))]) (rest := []) rfl rfl rfl (by omega) (Trip_putStick_34_e (by omega)  M3 _ hv) ?_
      exact Outing_lay_50_34_24_t hd      M4 r h
def Trip_cellAt_34_18    (s0 : Int) (M : am_M) : Option (Int) := some (s0)
def Trip_cellAt_34    (x1 : Int) (M : am_M) : Option (Int) := ob (Trip_isPlace_34 (x1) M) fun v1 => c_eq (v1) (0)
       ((Trip_cellAt_34_18    (-1) M))
       (rd M 36 100 (x1) fun v2 => (Trip_cellAt_34_18    (v2) M))
theorem Trip_cellAt_34_18_t {L : Nat} {xs : Nat → Int} {d : Nat} (hd : 1 ≤ d)     (s0 : Int) (M : am_M) (r : Int) (h : Trip_cellAt_34_18    s0 M = some r) : am_Ev L xs d me_31 18 [] [.inl (s0)] 126 138 M (some (.inl r), 126, 138, M) := by
  refine ev_k (pc' := 18) (ls' := []) (st' := [.inl (s0)]) (nc' := 126) (np' := 138) (M' := M) 0 rfl ?_
  cases h
  exact ev_ret rfl
theorem Trip_cellAt_34_e {L : Nat} {xs : Nat → Int} {d : Nat} (hd : 1 ≤ d)   (x1 : Int) (M : am_M) (r : Int) (h : Trip_cellAt_34   x1 M = some r) : am_Ev L xs d me_31 0 (am_ar1 0 [.inr (.inr (some 34)), .inl (x1)]) [] 126 138 M (some (.inl r), 126, 138, M) := by
  refine ev_k (pc' := 2) (ls' := [(0, .inr (.inr (some 34))), (1, .inl (x1))]) (st' := [.inl (x1), .inr (.inr (some 34))]) (nc' := 126) (np' := 138) (M' := M) 2 rfl ?_
  obtain ⟨v1, hv, h⟩ := ob_i h
  refine ev_call (t := 32) (as := [.inr (.inr (some 34)), .inl (x1)]) (rest := []) rfl rfl rfl (by omega) (Trip_isPlace_34_e (by omega) (x1) M _ hv) ?_
  refine ev_k (pc' := 5) (ls' := [(0, .inr (.inr (some 34))), (1, .inl (x1))]) (st' := [.inl (v1)]) (nc' := 126) (np' := 138) (M' := M) 0 rfl ?_
  obtain ⟨hR, ⟨hc, h⟩ | ⟨hc, h⟩⟩ := c_eq_i h
  · refine ev_ifc 17 rfl hR.1 (by decide) (fun _ => ?_) (fun q => absurd hc q)
    refine ev_k (pc' := 18) (ls' := []) (st' := [.inl (-1)]) (nc' := 126) (np' := 138) (M' := M) 1 rfl ?_
    exact Trip_cellAt_34_18_t hd     (-1) M r h
  · refine ev_ifc 17 rfl hR.1 (by decide) (fun q => absurd q hc) (fun _ => ?_)
    refine ev_k (pc' := 13) (ls' := [(0, .inr (.inr (some 34))), (1, .inl (x1))]) (st' := [.inl (x1), .inr (.inr (some 36))]) (nc' := 126) (np' := 138) (M' := M) 3 rfl ?_
    obtain ⟨hc, v2, ev, h⟩ := rd_i h
    refine ev_ald (k := 36) (t := 0) (Or.inl ⟨rfl, rfl⟩) rfl (by decide) (by decide) rfl hc ev ?_
    refine ev_k (pc' := 18) (ls' := []) (st' := [.inl (v2)]) (nc' := 126) (np' := 138) (M' := M) 1 rfl ?_
    exact Trip_cellAt_34_18_t hd     (v2) M r h
def Trip_isOnPath_34_21    (s0 : Int) (M : am_M) : Option (Int) := ck ((s0) = 0 ∨ (s0) = 1) (some (s0))
def Trip_isOnPath_34_20     (M : am_M) : Option (Int) := (Trip_isOnPath_34_21    (0) M)
def Trip_isOnPath_34    (x1 : Int) (M : am_M) : Option (Int) := ob (Country_isCell (x1) M) fun v1 => c_eq (v1) (0)
       (Trip_isOnPath_34_20     M)
       (rd M 41 144 (x1) fun v2 => c_eq (v2) (0)
       (Trip_isOnPath_34_20     M)
       ((Trip_isOnPath_34_21    (1) M)))
theorem Trip_isOnPath_34_21_t {L : Nat} {xs : Nat → Int} {d : Nat} (hd : 1 ≤ d)     (s0 : Int) (M : am_M) (r : Int) (h : Trip_isOnPath_34_21    s0 M = some r) : am_Ev L xs d me_104 21 [] [.inl (s0)] 126 138 M (some (.inl r), 126, 138, M) := by
  refine ev_k (pc' := 21) (ls' := []) (st' := [.inl (s0)]) (nc' := 126) (np' := 138) (M' := M) 0 rfl ?_
  obtain ⟨hc, h⟩ := ck_i h
  cases h
  exact ev_retz rfl rfl hc
theorem Trip_isOnPath_34_20_t {L : Nat} {xs : Nat → Int} {d : Nat} (hd : 1 ≤ d)      (M : am_M) (r : Int) (h : Trip_isOnPath_34_20     M = some r) : am_Ev L xs d me_104 20 [] [] 126 138 M (some (.inl r), 126, 138, M) := by
  refine ev_k (pc' := 21) (ls' := []) (st' := [.inl (0)]) (nc' := 126) (np' := 138) (M' := M) 1 rfl ?_
  exact Trip_isOnPath_34_21_t hd     (0) M r h
theorem Trip_isOnPath_34_e {L : Nat} {xs : Nat → Int} {d : Nat} (hd : 1 ≤ d)   (x1 : Int) (M : am_M) (r : Int) (h : Trip_isOnPath_34   x1 M = some r) : am_Ev L xs d me_104 0 (am_ar1 0 [.inr (.inr (some 34)), .inl (x1)]) [] 126 138 M (some (.inl r), 126, 138, M) := by
  refine ev_k (pc' := 1) (ls' := [(0, .inr (.inr (some 34))), (1, .inl (x1))]) (st' := [.inl (x1)]) (nc' := 126) (np' := 138) (M' := M) 1 rfl ?_
  obtain ⟨v1, hv, h⟩ := ob_i h
  refine ev_call (t := 9) (as := [.inl (x1)]) (rest := []) rfl rfl rfl (by omega) (Country_isCell_e (by omega) (x1) M _ hv) ?_
  refine ev_k (pc' := 4) (ls' := [(0, .inr (.inr (some 34))), (1, .inl (x1))]) (st' := [.inl (v1)]) (nc' := 126) (np' := 138) (M' := M) 0 rfl ?_
  obtain ⟨hR, ⟨hc, h⟩ | ⟨hc, h⟩⟩ := c_eq_i h
  · refine ev_ifc 20 rfl hR.1 (by decide) (fun _ => ?_) (fun q => absurd hc q)
    exact Trip_isOnPath_34_20_t hd      M r h
  · refine ev_ifc 20 rfl hR.1 (by decide) (fun q => absurd q hc) (fun _ => ?_)
    refine ev_k (pc' := 12) (ls' := [(0, .inr (.inr (some 34))), (1, .inl (x1))]) (st' := [.inl (x1), .inr (.inr (some 41))]) (nc' := 126) (np' := 138) (M' := M) 3 rfl ?_
    obtain ⟨hc, v2, ev, h⟩ := rd_i h
    refine ev_ald (k := 41) (t := 0) (Or.inl ⟨rfl, rfl⟩) rfl (by decide) (by decide) rfl hc ev ?_
    refine ev_k (pc' := 13) (ls' := [(0, .inr (.inr (some 34))), (1, .inl (x1))]) (st' := [.inl (v2)]) (nc' := 126) (np' := 138) (M' := M) 0 rfl ?_
    obtain ⟨hR, ⟨hc, h⟩ | ⟨hc, h⟩⟩ := c_eq_i h
    · refine ev_ifc 20 rfl hR.1 (by decide) (fun _ => ?_) (fun q => absurd hc q)
      exact Trip_isOnPath_34_20_t hd      M r h
    · refine ev_ifc 20 rfl hR.1 (by decide) (fun q => absurd q hc) (fun _ => ?_)
      refine ev_k (pc' := 21) (ls' := []) (st' := [.inl (1)]) (nc' := 126) (np' := 138) (M' := M) 2 rfl ?_
      exact Trip_isOnPath_34_21_t hd     (1) M r h
def Outing_canCut_50_34_60    (s0 : Int) (M : am_M) : Option (Int) := ck ((s0) = 0 ∨ (s0) = 1) (some (s0))
def Outing_canCut_50_34_59     (M : am_M) : Option (Int) := (Outing_canCut_50_34_60    (0) M)
def Outing_canCut_50_34    (x2 : Int) (M : am_M) : Option (Int) := c_ne (M 34 11) ((M 34 10) - (1))
       (Outing_canCut_50_34_59     M)
       (c_ge (M 34 10) (100)
       (Outing_canCut_50_34_59     M)
       (ob (Country_isTold_1 (M 34 9) M) fun v1 => c_eq (v1) (0)
       (Outing_canCut_50_34_59     M)
       (ob (Country_isBarred_1 (x2) M) fun v2 => c_ne (v2) (0)
       (Outing_canCut_50_34_59     M)
       (ob (Trip_isOnPath_34 (x2) M) fun v3 => c_ne (v3) (0)
       (Outing_canCut_50_34_59     M)
       ((Outing_canCut_50_34_60    (1) M))))))
theorem Outing_canCut_50_34_60_t {L : Nat} {xs : Nat → Int} {d : Nat} (hd : 2 ≤ d)     (s0 : Int) (M : am_M) (r : Int) (h : Outing_canCut_50_34_60    s0 M = some r) : am_Ev L xs d me_103 60 [] [.inl (s0)] 126 138 M (some (.inl r), 126, 138, M) := by
  refine ev_k (pc' := 60) (ls' := []) (st' := [.inl (s0)]) (nc' := 126) (np' := 138) (M' := M) 0 rfl ?_
  obtain ⟨hc, h⟩ := ck_i h
  cases h
  exact ev_retz rfl rfl hc
theorem Outing_canCut_50_34_59_t {L : Nat} {xs : Nat → Int} {d : Nat} (hd : 2 ≤ d)      (M : am_M) (r : Int) (h : Outing_canCut_50_34_59     M = some r) : am_Ev L xs d me_103 59 [] [] 126 138 M (some (.inl r), 126, 138, M) := by
  refine ev_k (pc' := 60) (ls' := []) (st' := [.inl (0)]) (nc' := 126) (np' := 138) (M' := M) 1 rfl ?_
  exact Outing_canCut_50_34_60_t hd     (0) M r h
theorem Outing_canCut_50_34_e {L : Nat} {xs : Nat → Int} {d : Nat} (hd : 2 ≤ d)   (x2 : Int) (M : am_M) (r : Int) (h : Outing_canCut_50_34   x2 M = some r) : am_Ev L xs d me_103 0 (am_ar1 0 [.inr (.inr (some 50)), .inr (.inr (some 34)), .inl (x2)]) [] 126 138 M (some (.inl r), 126, 138, M) := by
  refine ev_k (pc' := 10) (ls' := [(0, .inr (.inr (some 50))), (1, .inr (.inr (some 34))), (2, .inl (x2))]) (st' := [.inl ((M 34 10) - (1)), .inl (M 34 11)]) (nc' := 126) (np' := 138) (M' := M) 6 rfl ?_
  obtain ⟨hR, ⟨hc, h⟩ | ⟨hc, h⟩⟩ := c_ne_i h
  · refine ev_icmp 59 rfl hR.1 hR.2 (by decide) (fun _ => ?_) (fun q => absurd hc q)
    exact Outing_canCut_50_34_59_t hd      M r h
  · refine ev_icmp 59 rfl hR.1 hR.2 (by decide) (fun q => absurd q hc) (fun _ => ?_)
    refine ev_k (pc' := 19) (ls' := [(0, .inr (.inr (some 50))), (1, .inr (.inr (some 34))), (2, .inl (x2))]) (st' := [.inl (100), .inl (M 34 10)]) (nc' := 126) (np' := 138) (M' := M) 3 rfl ?_
    obtain ⟨hR, ⟨hc, h⟩ | ⟨hc, h⟩⟩ := c_ge_i h
    · refine ev_icmp 59 rfl hR.1 hR.2 (by decide) (fun _ => ?_) (fun q => absurd hc q)
      exact Outing_canCut_50_34_59_t hd      M r h
    · refine ev_icmp 59 rfl hR.1 hR.2 (by decide) (fun q => absurd q hc) (fun _ => ?_)
      refine ev_k (pc' := 30) (ls' := [(0, .inr (.inr (some 50))), (1, .inr (.inr (some 34))), (2, .inl (x2))]) (st' := [.inl (M 34 9), .inr (.inr (some 1))]) (nc' := 126) (np' := 138) (M' := M) 4 rfl ?_
      obtain ⟨v1, hv, h⟩ := ob_i h
      refine ev_call (t := 62) (as := [.inr (.inr (some 1)), .inl (M 34 9)]) (rest := []) rfl rfl rfl (by omega) (Country_isTold_1_e (by omega) (M 34 9) M _ hv) ?_
      refine ev_k (pc' := 33) (ls' := [(0, .inr (.inr (some 50))), (1, .inr (.inr (some 34))), (2, .inl (x2))]) (st' := [.inl (v1)]) (nc' := 126) (np' := 138) (M' := M) 0 rfl ?_
      obtain ⟨hR, ⟨hc, h⟩ | ⟨hc, h⟩⟩ := c_eq_i h
      · refine ev_ifc 59 rfl hR.1 (by decide) (fun _ => ?_) (fun q => absurd hc q)
        exact Outing_canCut_50_34_59_t hd      M r h
      · refine ev_ifc 59 rfl hR.1 (by decide) (fun q => absurd q hc) (fun _ => ?_)
        refine ev_k (pc' := 41) (ls' := [(0, .inr (.inr (some 50))), (1, .inr (.inr (some 34))), (2, .inl (x2))]) (st' := [.inl (x2), .inr (.inr (some 1))]) (nc' := 126) (np' := 138) (M' := M) 3 rfl ?_
        obtain ⟨v2, hv, h⟩ := ob_i h
        refine ev_call (t := 55) (as := [.inr (.inr (some 1)), .inl (x2)]) (rest := []) rfl rfl rfl (by omega) (Country_isBarred_1_e (by omega) (x2) M _ hv) ?_
        refine ev_k (pc' := 44) (ls' := [(0, .inr (.inr (some 50))), (1, .inr (.inr (some 34))), (2, .inl (x2))]) (st' := [.inl (v2)]) (nc' := 126) (np' := 138) (M' := M) 0 rfl ?_
        obtain ⟨hR, ⟨hc, h⟩ | ⟨hc, h⟩⟩ := c_ne_i h
        · refine ev_ifc 59 rfl hR.1 (by decide) (fun _ => ?_) (fun q => absurd hc q)
          exact Outing_canCut_50_34_59_t hd      M r h
        · refine ev_ifc 59 rfl hR.1 (by decide) (fun q => absurd q hc) (fun _ => ?_)
          refine ev_k (pc' := 49) (ls' := [(0, .inr (.inr (some 50))), (1, .inr (.inr (some 34))), (2, .inl (x2))]) (st' := [.inl (x2), .inr (.inr (some 34))]) (nc' := 126) (np' := 138) (M' := M) 2 rfl ?_
          obtain ⟨v3, hv, h⟩ := ob_i h
          refine ev_call (t := 104) (as := [.inr (.inr (some 34)), .inl (x2)]) (rest := []) rfl rfl rfl (by omega) (Trip_isOnPath_34_e (by omega) (x2) M _ hv) ?_
          refine ev_k (pc' := 52) (ls' := [(0, .inr (.inr (some 50))), (1, .inr (.inr (some 34))), (2, .inl (x2))]) (st' := [.inl (v3)]) (nc' := 126) (np' := 138) (M' := M) 0 rfl ?_
          obtain ⟨hR, ⟨hc, h⟩ | ⟨hc, h⟩⟩ := c_ne_i h
          · refine ev_ifc 59 rfl hR.1 (by decide) (fun _ => ?_) (fun q => absurd hc q)
            exact Outing_canCut_50_34_59_t hd      M r h
          · refine ev_ifc 59 rfl hR.1 (by decide) (fun q => absurd q hc) (fun _ => ?_)
            refine ev_k (pc' := 60) (ls' := []) (st' := [.inl (1)]) (nc' := 126) (np' := 138) (M' := M) 2 rfl ?_
            exact Outing_canCut_50_34_60_t hd     (1) M r h
def Trip_append_34_97     (M : am_M) : Option (am_M) := some (M)
def Trip_append_34    (x1 : Int) (M : am_M) : Option (am_M) := c_ge (M 34 10) (100)
       (Trip_append_34_97     M)
       (ob (Country_isCell (x1) M) fun v1 => c_eq (v1) (0)
       (Trip_append_34_97     M)
       (wa M 36 100 (M 34 10) (x1) fun M2 => wa M2 37 100 (M2 34 10) (M2 1 3) fun M3 => wa M3 38 100 (M3 34 10) (0) fun M4 => wa M4 39 100 (M4 34 10) (0) fun M5 => wa M5 40 100 (M5 34 10) (0) fun M6 => wa M6 41 144 (x1) (1) fun M7 => fw M7 34 11 (M7 34 10) fun M8 => fw M8 34 10 ((M8 34 10) + (1)) fun M9 => (Trip_append_34_97     M9)))
theorem Trip_append_34_97_t {L : Nat} {xs : Nat → Int} {d : Nat} (hd : 1 ≤ d)      (M : am_M) (r : am_M) (h : Trip_append_34_97     M = some r) : am_Ev L xs d me_8 97 [] [] 126 138 M (none, 126, 138, r) := by
  refine ev_k (pc' := 97) (ls' := []) (st' := []) (nc' := 126) (np' := 138) (M' := M) 0 rfl ?_
  cases h
  exact ev_ret rfl
theorem Trip_append_34_e {L : Nat} {xs : Nat → Int} {d : Nat} (hd : 1 ≤ d)   (x1 : Int) (M : am_M) (r : am_M) (h : Trip_append_34   x1 M = some r) : am_Ev L xs d me_8 0 (am_ar1 0 [.inr (.inr (some 34)), .inl (x1)]) [] 126 138 M (none, 126, 138, r) := by
  refine ev_k (pc' := 6) (ls' := [(0, .inr (.inr (some 34))), (1, .inl (x1))]) (st' := [.inl (100), .inl (M 34 10)]) (nc' := 126) (np' := 138) (M' := M) 3 rfl ?_
  obtain ⟨hR, ⟨hc, h⟩ | ⟨hc, h⟩⟩ := c_ge_i h
  · refine ev_icmp 97 rfl hR.1 hR.2 (by decide) (fun _ => ?_) (fun q => absurd hc q)
    exact Trip_append_34_97_t hd      M r h
  · refine ev_icmp 97 rfl hR.1 hR.2 (by decide) (fun q => absurd q hc) (fun _ => ?_)
    refine ev_k (pc' := 10) (ls' := [(0, .inr (.inr (some 34))), (1, .inl (x1))]) (st' := [.inl (x1)]) (nc' := 126) (np' := 138) (M' := M) 1 rfl ?_
    obtain ⟨v1, hv, h⟩ := ob_i h
    refine ev_call (t := 9) (as := [.inl (x1)]) (rest := []) rfl rfl rfl (by omega) (Country_isCell_e (by omega) (x1) M _ hv) ?_
    refine ev_k (pc' := 13) (ls' := [(0, .inr (.inr (some 34))), (1, .inl (x1))]) (st' := [.inl (v1)]) (nc' := 126) (np' := 138) (M' := M) 0 rfl ?_
    obtain ⟨hR, ⟨hc, h⟩ | ⟨hc, h⟩⟩ := c_eq_i h
    · refine ev_ifc 97 rfl hR.1 (by decide) (fun _ => ?_) (fun q => absurd hc q)
      exact Trip_append_34_97_t hd      M r h
    · refine ev_ifc 97 rfl hR.1 (by decide) (fun q => absurd q hc) (fun _ => ?_)
      refine ev_k (pc' := 25) (ls' := [(0, .inr (.inr (some 34))), (1, .inl (x1))]) (st' := [.inl (x1), .inl (M 34 10), .inr (.inr (some 36))]) (nc' := 126) (np' := 138) (M' := M) 5 rfl ?_
      obtain ⟨hc, M2, eM, h⟩ := wa_i h
      refine ev_iast (k := 36) rfl (by decide) rfl hc eM ?_
      refine ev_k (pc' := 41) (ls' := [(0, .inr (.inr (some 34))), (1, .inl (x1))]) (st' := [.inl (M2 1 3), .inl (M2 34 10), .inr (.inr (some 37))]) (nc' := 126) (np' := 138) (M' := M2) 7 rfl ?_
      obtain ⟨hc, M3, eM, h⟩ := wa_i h
      refine ev_iast (k := 37) rfl (by decide) rfl hc eM ?_
      refine ev_k (pc' := 51) (ls' := [(0, .inr (.inr (some 34))), (1, .inl (x1))]) (st' := [.inl (0), .inl (M3 34 10), .inr (.inr (some 38))]) (nc' := 126) (np' := 138) (M' := M3) 5 rfl ?_
      obtain ⟨hc, M4, eM, h⟩ := wa_i h
      refine ev_iast (k := 38) rfl (by decide) rfl hc eM ?_
      refine ev_k (pc' := 61) (ls' := [(0, .inr (.inr (some 34))), (1, .inl (x1))]) (st' := [.inl (0), .inl (M4 34 10), .inr (.inr (some 39))]) (nc' := 126) (np' := 138) (M' := M4) 5 rfl ?_
      obtain ⟨hc, M5, eM, h⟩ := wa_i h
      refine ev_iast (k := 39) rfl (by decide) rfl hc eM ?_
      refine ev_k (pc' := 71) (ls' := [(0, .inr (.inr (some 34))), (1, .inl (x1))]) (st' := [.inl (0), .inl (M5 34 10), .inr (.inr (some 40))]) (nc' := 126) (np' := 138) (M' := M5) 5 rfl ?_
      obtain ⟨hc, M6, eM, h⟩ := wa_i h
      refine ev_iast (k := 40) rfl (by decide) rfl hc eM ?_
      refine ev_k (pc' := 78) (ls' := [(0, .inr (.inr (some 34))), (1, .inl (x1))]) (st' := [.inl (1), .inl (x1), .inr (.inr (some 41))]) (nc' := 126) (np' := 138) (M' := M6) 4 rfl ?_
      obtain ⟨hc, M7, eM, h⟩ := wa_i h
      refine ev_iast (k := 41) rfl (by decide) rfl hc eM ?_
      refine ev_k (pc' := 87) (ls' := [(0, .inr (.inr (some 34))), (1, .inl (x1))]) (st' := []) (nc' := 126) (np' := 138) (M' := am_up M7 34 11 (M7 34 10)) 4 rfl ?_
      obtain ⟨M8, eM, h⟩ := fw_i h
      rw [← eM]
      refine ev_k (pc' := 97) (ls' := []) (st' := []) (nc' := 126) (np' := 138) (M' := am_up M8 34 10 ((M8 34 10) + (1))) 6 rfl ?_
      obtain ⟨M9, eM, h⟩ := fw_i h
      rw [← eM]
      exact Trip_append_34_97_t hd      M9 r h
def Trip_kindAt_34    (x1 : Int) (M : am_M) : Option (Int) := ob (Trip_cellAt_34 (x1) M) fun v1 => ob (Country_kindAt_1 (v1) M) fun v2 => some (v2)
theorem Trip_kindAt_34_e {L : Nat} {xs : Nat → Int} {d : Nat} (hd : 2 ≤ d)   (x1 : Int) (M : am_M) (r : Int) (h : Trip_kindAt_34   x1 M = some r) : am_Ev L xs d me_99 0 (am_ar1 0 [.inr (.inr (some 34)), .inl (x1)]) [] 126 138 M (some (.inl r), 126, 138, M) := by
  refine ev_k (pc' := 6) (ls' := [(0, .inr (.inr (some 34))), (1, .inl (x1))]) (st' := [.inl (x1), .inr (.inr (some 34)), .inr (.inr (some 1))]) (nc' := 126) (np' := 138) (M' := M) 4 rfl ?_
  obtain ⟨v1, hv, h⟩ := ob_i h
  refine ev_call (t := 31) (as := [.inr (.inr (some 34)), .inl (x1)]) (rest := [.inr (.inr (some 1))]) rfl rfl rfl (by omega) (Trip_cellAt_34_e (by omega) (x1) M _ hv) ?_
  refine ev_k (pc' := 9) (ls' := [(0, .inr (.inr (some 34))), (1, .inl (x1))]) (st' := [.inl (v1), .inr (.inr (some 1))]) (nc' := 126) (np' := 138) (M' := M) 0 rfl ?_
  obtain ⟨v2, hv, h⟩ := ob_i h
  refine ev_call (t := 56) (as := [.inr (.inr (some 1)), .inl (v1)]) (rest := []) rfl rfl rfl (by omega) (Country_kindAt_1_e (by omega) (v1) M _ hv) ?_
  refine ev_k (pc' := 12) (ls' := [(0, .inr (.inr (some 34))), (1, .inl (x1))]) (st' := [.inl (v2)]) (nc' := 126) (np' := 138) (M' := M) 0 rfl ?_
  cases h
  exact ev_ret rfl
def Trip_widthAt_34_18    (s0 : Int) (M : am_M) : Option (Int) := some (s0)
def Trip_widthAt_34    (x1 : Int) (M : am_M) : Option (Int) := ob (Trip_isPlace_34 (x1) M) fun v1 => c_eq (v1) (0)
       ((Trip_widthAt_34_18    (0) M))
       (rd M 37 100 (x1) fun v2 => (Trip_widthAt_34_18    (v2) M))
theorem Trip_widthAt_34_18_t {L : Nat} {xs : Nat → Int} {d : Nat} (hd : 1 ≤ d)     (s0 : Int) (M : am_M) (r : Int) (h : Trip_widthAt_34_18    s0 M = some r) : am_Ev L xs d me_100 18 [] [.inl (s0)] 126 138 M (some (.inl r), 126, 138, M) := by
  refine ev_k (pc' := 18) (ls' := []) (st' := [.inl (s0)]) (nc' := 126) (np' := 138) (M' := M) 0 rfl ?_
  cases h
  exact ev_ret rfl
theorem Trip_widthAt_34_e {L : Nat} {xs : Nat → Int} {d : Nat} (hd : 1 ≤ d)   (x1 : Int) (M : am_M) (r : Int) (h : Trip_widthAt_34   x1 M = some r) : am_Ev L xs d me_100 0 (am_ar1 0 [.inr (.inr (some 34)), .inl (x1)]) [] 126 138 M (some (.inl r), 126, 138, M) := by
  refine ev_k (pc' := 2) (ls' := [(0, .inr (.inr (some 34))), (1, .inl (x1))]) (st' := [.inl (x1), .inr (.inr (some 34))]) (nc' := 126) (np' := 138) (M' := M) 2 rfl ?_
  obtain ⟨v1, hv, h⟩ := ob_i h
  refine ev_call (t := 32) (as := [.inr (.inr (some 34)), .inl (x1)]) (rest := []) rfl rfl rfl (by omega) (Trip_isPlace_34_e (by omega) (x1) M _ hv) ?_
  refine ev_k (pc' := 5) (ls' := [(0, .inr (.inr (some 34))), (1, .inl (x1))]) (st' := [.inl (v1)]) (nc' := 126) (np' := 138) (M' := M) 0 rfl ?_
  obtain ⟨hR, ⟨hc, h⟩ | ⟨hc, h⟩⟩ := c_eq_i h
  · refine ev_ifc 17 rfl hR.1 (by decide) (fun _ => ?_) (fun q => absurd hc q)
    refine ev_k (pc' := 18) (ls' := []) (st' := [.inl (0)]) (nc' := 126) (np' := 138) (M' := M) 1 rfl ?_
    exact Trip_widthAt_34_18_t hd     (0) M r h
  · refine ev_ifc 17 rfl hR.1 (by decide) (fun q => absurd q hc) (fun _ => ?_)
    refine ev_k (pc' := 13) (ls' := [(0, .inr (.inr (some 34))), (1, .inl (x1))]) (st' := [.inl (x1), .inr (.inr (some 37))]) (nc' := 126) (np' := 138) (M' := M) 3 rfl ?_
    obtain ⟨hc, v2, ev, h⟩ := rd_i h
    refine ev_ald (k := 37) (t := 0) (Or.inl ⟨rfl, rfl⟩) rfl (by decide) (by decide) rfl hc ev ?_
    refine ev_k (pc' := 18) (ls' := []) (st' := [.inl (v2)]) (nc' := 126) (np' := 138) (M' := M) 1 rfl ?_
    exact Trip_widthAt_34_18_t hd     (v2) M r h
def Trip_grownAt_34_18    (s0 : Int) (M : am_M) : Option (Int) := some (s0)
def Trip_grownAt_34    (x1 : Int) (M : am_M) : Option (Int) := ob (Trip_isPlace_34 (x1) M) fun v1 => c_eq (v1) (0)
       ((Trip_grownAt_34_18    (0) M))
       (rd M 38 100 (x1) fun v2 => (Trip_grownAt_34_18    (v2) M))
theorem Trip_grownAt_34_18_t {L : Nat} {xs : Nat → Int} {d : Nat} (hd : 1 ≤ d)     (s0 : Int) (M : am_M) (r : Int) (h : Trip_grownAt_34_18    s0 M = some r) : am_Ev L xs d me_101 18 [] [.inl (s0)] 126 138 M (some (.inl r), 126, 138, M) := by
  refine ev_k (pc' := 18) (ls' := []) (st' := [.inl (s0)]) (nc' := 126) (np' := 138) (M' := M) 0 rfl ?_
  cases h
  exact ev_ret rfl
theorem Trip_grownAt_34_e {L : Nat} {xs : Nat → Int} {d : Nat} (hd : 1 ≤ d)   (x1 : Int) (M : am_M) (r : Int) (h : Trip_grownAt_34   x1 M = some r) : am_Ev L xs d me_101 0 (am_ar1 0 [.inr (.inr (some 34)), .inl (x1)]) [] 126 138 M (some (.inl r), 126, 138, M) := by
  refine ev_k (pc' := 2) (ls' := [(0, .inr (.inr (some 34))), (1, .inl (x1))]) (st' := [.inl (x1), .inr (.inr (some 34))]) (nc' := 126) (np' := 138) (M' := M) 2 rfl ?_
  obtain ⟨v1, hv, h⟩ := ob_i h
  refine ev_call (t := 32) (as := [.inr (.inr (some 34)), .inl (x1)]) (rest := []) rfl rfl rfl (by omega) (Trip_isPlace_34_e (by omega) (x1) M _ hv) ?_
  refine ev_k (pc' := 5) (ls' := [(0, .inr (.inr (some 34))), (1, .inl (x1))]) (st' := [.inl (v1)]) (nc' := 126) (np' := 138) (M' := M) 0 rfl ?_
  obtain ⟨hR, ⟨hc, h⟩ | ⟨hc, h⟩⟩ := c_eq_i h
  · refine ev_ifc 17 rfl hR.1 (by decide) (fun _ => ?_) (fun q => absurd hc q)
    refine ev_k (pc' := 18) (ls' := []) (st' := [.inl (0)]) (nc' := 126) (np' := 138) (M' := M) 1 rfl ?_
    exact Trip_grownAt_34_18_t hd     (0) M r h
  · refine ev_ifc 17 rfl hR.1 (by decide) (fun q => absurd q hc) (fun _ => ?_)
    refine ev_k (pc' := 13) (ls' := [(0, .inr (.inr (some 34))), (1, .inl (x1))]) (st' := [.inl (x1), .inr (.inr (some 38))]) (nc' := 126) (np' := 138) (M' := M) 3 rfl ?_
    obtain ⟨hc, v2, ev, h⟩ := rd_i h
    refine ev_ald (k := 38) (t := 0) (Or.inl ⟨rfl, rfl⟩) rfl (by decide) (by decide) rfl hc ev ?_
    refine ev_k (pc' := 18) (ls' := []) (st' := [.inl (v2)]) (nc' := 126) (np' := 138) (M' := M) 1 rfl ?_
    exact Trip_grownAt_34_18_t hd     (v2) M r h
def Trip_minutesOnto_34_15    (x1 : Int) (s0 : Int) (M : am_M) : Option (Int × am_M) := ob (Trip_kindAt_34 (x1) M) fun v1 => ob (Trip_widthAt_34 (x1) M) fun v2 => ob (Trip_grownAt_34 (x1) M) fun v3 => oc (Law_walking_5 (v1) (v2) (v3) (s0) (M 34 13) M) fun v4 M5 => some (v4, M5)
def Trip_minutesOnto_34    (x1 : Int) (x2 : Int) (M : am_M) : Option (Int × am_M) := ob (Trip_marksAt_34 (x1) M) fun v1 => c_eq (b_and (v1) (x2)) (0)
       ((Trip_minutesOnto_34_15    (x1) (0) M))
       ((Trip_minutesOnto_34_15    (x1) (1) M))
theorem Trip_minutesOnto_34_15_t {L : Nat} {xs : Nat → Int} {d : Nat} (hd : 3 ≤ d)     (x1 : Int) (s0 : Int) (M : am_M) (r : Int × am_M) (h : Trip_minutesOnto_34_15    x1 s0 M = some r) : am_Ev L xs d me_98 15 [(0, .inr (.inr (some 34))), (1, .inl (x1))] [.inl (s0)] 126 138 M (some (.inl r.1), 126, 138, r.2) := by
  refine ev_k (pc' := 22) (ls' := [(3, .inl (s0)), (0, .inr (.inr (some 34))), (1, .inl (x1))]) (st' := [.inl (x1), .inr (.inr (some 34)), .inr (.inr (some 5))]) (nc' := 126) (np' := 138) (M' := M) 5 rfl ?_
  obtain ⟨v1, hv, h⟩ := ob_i h
  refine ev_call (t := 99) (as := [.inr (.inr (some 34)), .inl (x1)]) (rest := [.inr (.inr (some 5))]) rfl rfl rfl (by omega) (Trip_kindAt_34_e (by omega) (x1) M _ hv) ?_
  refine ev_k (pc' := 27) (ls' := [(3, .inl (s0)), (0, .inr (.inr (some 34))), (1, .inl (x1))]) (st' := [.inl (x1), .inr (.inr (some 34)), .inl (v1), .inr (.inr (some 5))]) (nc' := 126) (np' := 138) (M' := M) 2 rfl ?_
  obtain ⟨v2, hv, h⟩ := ob_i h
  refine ev_call (t := 100) (as := [.inr (.inr (some 34)), .inl (x1)]) (rest := [.inl (v1), .inr (.inr (some 5))]) rfl rfl rfl (by omega) (Trip_widthAt_34_e (by omega) (x1) M _ hv) ?_
  refine ev_k (pc' := 32) (ls' := [(3, .inl (s0)), (0, .inr (.inr (some 34))), (1, .inl (x1))]) (st' := [.inl (x1), .inr (.inr (some 34)), .inl (v2), .inl (v1), .inr (.inr (some 5))]) (nc' := 126) (np' := 138) (M' := M) 2 rfl ?_
  obtain ⟨v3, hv, h⟩ := ob_i h
  refine ev_call (t := 101) (as := [.inr (.inr (some 34)), .inl (x1)]) (rest := [.inl (v2), .inl (v1), .inr (.inr (some 5))]) rfl rfl rfl (by omega) (Trip_grownAt_34_e (by omega) (x1) M _ hv) ?_
  refine ev_k (pc' := 40) (ls' := [(3, .inl (s0)), (0, .inr (.inr (some 34))), (1, .inl (x1))]) (st' := [.inl (M 34 13), .inl (s0), .inl (v3), .inl (v2), .inl (v1), .inr (.inr (some 5))]) (nc' := 126) (np' := 138) (M' := M) 3 rfl ?_
  obtain ⟨v4, M5, hv, h⟩ := oc_i h
  refine ev_call (t := 102) (as := [.inr (.inr (some 5)), .inl (v1), .inl (v2), .inl (v3), .inl (s0), .inl (M 34 13)]) (rest := []) rfl rfl rfl (by omega) (Law_walking_5_e (by omega) (v1) (v2) (v3) (s0) (M 34 13) M _ hv) ?_
  refine ev_k (pc' := 43) (ls' := [(3, .inl (s0)), (0, .inr (.inr (some 34))), (1, .inl (x1))]) (st' := [.inl (v4)]) (nc' := 126) (np' := 138) (M' := M5) 0 rfl ?_
  cases h
  exact ev_ret rfl
theorem Trip_minutesOnto_34_e {L : Nat} {xs : Nat → Int} {d : Nat} (hd : 3 ≤ d)   (x1 : Int) (x2 : Int) (M : am_M) (r : Int × am_M) (h : Trip_minutesOnto_34   x1 x2 M = some r) : am_Ev L xs d me_98 0 (am_ar1 0 [.inr (.inr (some 34)), .inl (x1), .inl (x2)]) [] 126 138 M (some (.inl r.1), 126, 138, r.2) := by
  refine ev_k (pc' := 2) (ls' := [(0, .inr (.inr (some 34))), (1, .inl (x1)), (2, .inl (x2))]) (st' := [.inl (x1), .inr (.inr (some 34))]) (nc' := 126) (np' := 138) (M' := M) 2 rfl ?_
  obtain ⟨v1, hv, h⟩ := ob_i h
  refine ev_call (t := 91) (as := [.inr (.inr (some 34)), .inl (x1)]) (rest := []) rfl rfl rfl (by omega) (Trip_marksAt_34_e (by omega) (x1) M _ hv) ?_
  refine ev_k (pc' := 7) (ls' := [(0, .inr (.inr (some 34))), (1, .inl (x1)), (2, .inl (x2))]) (st' := [.inl (b_and (v1) (x2))]) (nc' := 126) (np' := 138) (M' := M) 2 rfl ?_
  obtain ⟨hR, ⟨hc, h⟩ | ⟨hc, h⟩⟩ := c_eq_i h
  · refine ev_ifc 14 rfl hR.1 (by decide) (fun _ => ?_) (fun q => absurd hc q)
    refine ev_k (pc' := 15) (ls' := [(0, .inr (.inr (some 34))), (1, .inl (x1))]) (st' := [.inl (0)]) (nc' := 126) (np' := 138) (M' := M) 1 rfl ?_
    exact Trip_minutesOnto_34_15_t hd     (x1) (0) M r h
  · refine ev_ifc 14 rfl hR.1 (by decide) (fun q => absurd q hc) (fun _ => ?_)
    refine ev_k (pc' := 15) (ls' := [(0, .inr (.inr (some 34))), (1, .inl (x1))]) (st' := [.inl (1)]) (nc' := 126) (np' := 138) (M' := M) 2 rfl ?_
    exact Trip_minutesOnto_34_15_t hd     (x1) (1) M r h
