def Outing_goTo_50_34_222     (M : am_M) : Option (am_M) := some (M)
def Outing_goTo_50_34    (x2 : Int) (M : am_M) : Option (am_M) := ob (Trip_cellAt_34 (M 34 11) M) fun v1 => ob (Country_neighbour (v1) (x2) M) fun v2 => c_ge (v2) (0)
       (ob (Trip_cellAt_34 ((M 34 11) + (1)) M) fun v3 => c_ne (v2) (v3)
       (ob (Trip_cellAt_34 ((M 34 11) - (1)) M) fun v4 => c_ne (v2) (v4)
       (ob (Outing_canCut_50_34 (v2) M) fun v5 => c_eq (v5) (0)
       (Outing_goTo_50_34_222     M)
       (ob (Country_kindAt_1 (v2) M) fun v6 => ob (Country_armOf_1 (M 34 9) M) fun v7 => ob (Trip_tiredOf_34 (M 34 9) M) fun v8 => oc (Law_tiring_5 (v6) (v7) (v8) (M 34 13) M) fun v9 M10 => oc (Law_cutting_5 (v6) (M10 1 3) (v7) (v8) (M10 34 13) M10) fun v11 M12 => oc (Outing_spend_50_34 (v11) M12) fun v13 M14 => c_eq (v13) (0)
       (Outing_goTo_50_34_222     M14)
       (ob (Trip_setTired_34 (M14 34 9) ((v8) + (v9)) M14) fun M15 => ob (Trip_append_34 (v2) M15) fun M16 => fw M16 50 7 ((M16 50 7) + (1)) fun M17 => (Outing_goTo_50_34_222     M17))))
       (oc (Trip_minutesOnto_34 ((M 34 11) - (1)) (2) M) fun v18 M19 => oc (Outing_spend_50_34 (v18) M19) fun v20 M21 => c_eq (v20) (0)
       (Outing_goTo_50_34_222     M21)
       (fw M21 34 11 ((M 34 11) - (1)) fun M22 => (Outing_goTo_50_34_222     M22))))
       (oc (Trip_minutesOnto_34 ((M 34 11) + (1)) (1) M) fun v23 M24 => oc (Outing_spend_50_34 (v23) M24) fun v25 M26 => c_eq (v25) (0)
       (Outing_goTo_50_34_222     M26)
       (fw M26 34 11 ((M 34 11) + (1)) fun M27 => (Outing_goTo_50_34_222     M27))))
       (some (M))
theorem Outing_goTo_50_34_222_t {L : Nat} {xs : Nat → Int} {d : Nat} (hd : 4 ≤ d)      (M : am_M) (r : am_M) (h : Outing_goTo_50_34_222     M = some r) : am_Ev L xs d me_96 222 [] [] 126 138 M (none, 126, 138, r) := by
  refine ev_k (pc' := 222) (ls' := []) (st' := []) (nc' := 126) (np' := 138) (M' := M) 0 rfl ?_
  cases h
  exact ev_ret rfl
theorem Outing_goTo_50_34_e {L : Nat} {xs : Nat → Int} {d : Nat} (hd : 4 ≤ d)   (x2 : Int) (M : am_M) (r : am_M) (h : Outing_goTo_50_34   x2 M = some r) : am_Ev L xs d me_96 0 (am_ar1 0 [.inr (.inr (some 50)), .inr (.inr (some 34)), .inl (x2)]) [] 126 138 M (none, 126, 138, r) := by
  refine ev_k (pc' := 7) (ls' := [(3, .inl (M 34 11)), (0, .inr (.inr (some 50))), (1, .inr (.inr (some 34))), (2, .inl (x2))]) (st' := [.inl (M 34 11), .inr (.inr (some 34))]) (nc' := 126) (np' := 138) (M' := M) 5 rfl ?_
  obtain ⟨v1, hv, h⟩ := ob_i h
  refine ev_call (t := 31) (as := [.inr (.inr (some 34)), .inl (M 34 11)]) (rest := []) rfl rfl rfl (by omega) (Trip_cellAt_34_e (by omega) (M 34 11) M _ hv) ?_
  refine ev_k (pc' := 11) (ls' := [(3, .inl (M 34 11)), (0, .inr (.inr (some 50))), (1, .inr (.inr (some 34))), (2, .inl (x2))]) (st' := [.inl (x2), .inl (v1)]) (nc' := 126) (np' := 138) (M' := M) 1 rfl ?_
  obtain ⟨v2, hv, h⟩ := ob_i h
  refine ev_call (t := 97) (as := [.inl (v1), .inl (x2)]) (rest := []) rfl rfl rfl (by omega) (Country_neighbour_e (by omega) (v1) (x2) M _ hv) ?_
  refine ev_k (pc' := 18) (ls' := [(4, .inl (v2)), (3, .inl (M 34 11)), (0, .inr (.inr (some 50))), (1, .inr (.inr (some 34))), (2, .inl (x2))]) (st' := [.inl (v2)]) (nc' := 126) (np' := 138) (M' := M) 2 rfl ?_
  obtain ⟨hR, ⟨hc, h⟩ | ⟨hc, h⟩⟩ := c_ge_i h
  · refine ev_ifc 22 rfl hR.1 (by decide) (fun _ => ?_) (fun q => absurd hc q)
    refine ev_k (pc' := 28) (ls' := [(4, .inl (v2)), (3, .inl (M 34 11)), (0, .inr (.inr (some 50))), (1, .inr (.inr (some 34))), (2, .inl (x2))]) (st' := [.inl ((M 34 11) + (1)), .inr (.inr (some 34)), .inl (v2)]) (nc' := 126) (np' := 138) (M' := M) 5 rfl ?_
    obtain ⟨v3, hv, h⟩ := ob_i h
    refine ev_call (t := 31) (as := [.inr (.inr (some 34)), .inl ((M 34 11) + (1))]) (rest := [.inl (v2)]) rfl rfl rfl (by omega) (Trip_cellAt_34_e (by omega) ((M 34 11) + (1)) M _ hv) ?_
    refine ev_k (pc' := 31) (ls' := [(4, .inl (v2)), (3, .inl (M 34 11)), (0, .inr (.inr (some 50))), (1, .inr (.inr (some 34))), (2, .inl (x2))]) (st' := [.inl (v3), .inl (v2)]) (nc' := 126) (np' := 138) (M' := M) 0 rfl ?_
    obtain ⟨hR, ⟨hc, h⟩ | ⟨hc, h⟩⟩ := c_ne_i h
    · refine ev_icmp 60 rfl hR.1 hR.2 (by decide) (fun _ => ?_) (fun q => absurd hc q)
      refine ev_k (pc' := 66) (ls' := [(4, .inl (v2)), (3, .inl (M 34 11)), (0, .inr (.inr (some 50))), (1, .inr (.inr (some 34))), (2, .inl (x2))]) (st' := [.inl ((M 34 11) - (1)), .inr (.inr (some 34)), .inl (v2)]) (nc' := 126) (np' := 138) (M' := M) 5 rfl ?_
      obtain ⟨v4, hv, h⟩ := ob_i h
      refine ev_call (t := 31) (as := [.inr (.inr (some 34)), .inl ((M 34 11) - (1))]) (rest := [.inl (v2)]) rfl rfl rfl (by omega) (Trip_cellAt_34_e (by omega) ((M 34 11) - (1)) M _ hv) ?_
      refine ev_k (pc' := 69) (ls' := [(4, .inl (v2)), (3, .inl (M 34 11)), (0, .inr (.inr (some 50))), (1, .inr (.inr (some 34))), (2, .inl (x2))]) (st' := [.inl (v4), .inl (v2)]) (nc' := 126) (np' := 138) (M' := M) 0 rfl ?_
      obtain ⟨hR, ⟨hc, h⟩ | ⟨hc, h⟩⟩ := c_ne_i h
      · refine ev_icmp 98 rfl hR.1 hR.2 (by decide) (fun _ => ?_) (fun q => absurd hc q)
        refine ev_k (pc' := 102) (ls' := [(4, .inl (v2)), (3, .inl (M 34 11)), (0, .inr (.inr (some 50))), (1, .inr (.inr (some 34))), (2, .inl (x2))]) (st' := [.inl (v2), .inr (.inr (some 34)), .inr (.inr (some 50))]) (nc' := 126) (np' := 138) (M' := M) 3 rfl ?_
        obtain ⟨v5, hv, h⟩ := ob_i h
        refine ev_call (t := 103) (as := [.inr (.inr (some 50)), .inr (.inr (some 34)), .inl (v2)]) (rest := []) rfl rfl rfl (by omega) (Outing_canCut_50_34_e (by omega) (v2) M _ hv) ?_
        refine ev_k (pc' := 105) (ls' := [(4, .inl (v2)), (3, .inl (M 34 11)), (0, .inr (.inr (some 50))), (1, .inr (.inr (some 34))), (2, .inl (x2))]) (st' := [.inl (v5)]) (nc' := 126) (np' := 138) (M' := M) 0 rfl ?_
        obtain ⟨hR, ⟨hc, h⟩ | ⟨hc, h⟩⟩ := c_eq_i h
        · refine ev_ifc 222 rfl hR.1 (by decide) (fun _ => ?_) (fun q => absurd hc q)
          exact Outing_goTo_50_34_222_t hd      M r h
        · refine ev_ifc 222 rfl hR.1 (by decide) (fun q => absurd q hc) (fun _ => ?_)
          refine ev_k (pc' := 114) (ls' := [(4, .inl (v2)), (3, .inl (M 34 11)), (0, .inr (.inr (some 50))), (1, .inr (.inr (some 34))), (2, .inl (x2))]) (st' := [.inl (v2), .inr (.inr (some 1))]) (nc' := 126) (np' := 138) (M' := M) 3 rfl ?_
          obtain ⟨v6, hv, h⟩ := ob_i h
          refine ev_call (t := 56) (as := [.inr (.inr (some 1)), .inl (v2)]) (rest := []) rfl rfl rfl (by omega) (Country_kindAt_1_e (by omega) (v2) M _ hv) ?_
          refine ev_k (pc' := 127) (ls' := [(5, .inl (v6)), (4, .inl (v2)), (3, .inl (M 34 11)), (0, .inr (.inr (some 50))), (1, .inr (.inr (some 34))), (2, .inl (x2))]) (st' := [.inl (M 34 9), .inr (.inr (some 1))]) (nc' := 126) (np' := 138) (M' := M) 5 rfl ?_
          obtain ⟨v7, hv, h⟩ := ob_i h
          refine ev_call (t := 63) (as := [.inr (.inr (some 1)), .inl (M 34 9)]) (rest := []) rfl rfl rfl (by omega) (Country_armOf_1_e (by omega) (M 34 9) M _ hv) ?_
          refine ev_k (pc' := 137) (ls' := [(6, .inl (v7)), (5, .inl (v6)), (4, .inl (v2)), (3, .inl (M 34 11)), (0, .inr (.inr (some 50))), (1, .inr (.inr (some 34))), (2, .inl (x2))]) (st' := [.inl (M 34 9), .inr (.inr (some 34))]) (nc' := 126) (np' := 138) (M' := M) 4 rfl ?_
          obtain ⟨v8, hv, h⟩ := ob_i h
          refine ev_call (t := 82) (as := [.inr (.inr (some 34)), .inl (M 34 9)]) (rest := []) rfl rfl rfl (by omega) (Trip_tiredOf_34_e (by omega) (M 34 9) M _ hv) ?_
          refine ev_k (pc' := 156) (ls' := [(7, .inl (v8)), (6, .inl (v7)), (5, .inl (v6)), (4, .inl (v2)), (3, .inl (M 34 11)), (0, .inr (.inr (some 50))), (1, .inr (.inr (some 34))), (2, .inl (x2))]) (st' := [.inl (M 34 13), .inl (v8), .inl (v7), .inl (v6), .inr (.inr (some 5))]) (nc' := 126) (np' := 138) (M' := M) 8 rfl ?_
          obtain ⟨v9, M10, hv, h⟩ := oc_i h
          refine ev_call (t := 105) (as := [.inr (.inr (some 5)), .inl (v6), .inl (v7), .inl (v8), .inl (M 34 13)]) (rest := []) rfl rfl rfl (by omega) (Law_tiring_5_e (by omega) (v6) (v7) (v8) (M 34 13) M _ hv) ?_
          refine ev_k (pc' := 184) (ls' := [(8, .inl (v9)), (7, .inl (v8)), (6, .inl (v7)), (5, .inl (v6)), (4, .inl (v2)), (3, .inl (M 34 11)), (0, .inr (.inr (some 50))), (1, .inr (.inr (some 34))), (2, .inl (x2))]) (st' := [.inl (M10 34 13), .inl (v8), .inl (v7), .inl (M10 1 3), .inl (v6), .inr (.inr (some 5)), .inr (.inr (some 34)), .inr (.inr (some 50))]) (nc' := 126) (np' := 138) (M' := M10) 13 rfl ?_
          obtain ⟨v11, M12, hv, h⟩ := oc_i h
          refine ev_call (t := 106) (as := [.inr (.inr (some 5)), .inl (v6), .inl (M10 1 3), .inl (v7), .inl (v8), .inl (M10 34 13)]) (rest := [.inr (.inr (some 34)), .inr (.inr (some 50))]) rfl rfl rfl (by omega) (Law_cutting_5_e (by omega) (v6) (M10 1 3) (v7) (v8) (M10 34 13) M10 _ hv) ?_
          refine ev_k (pc' := 187) (ls' := [(8, .inl (v9)), (7, .inl (v8)), (6, .inl (v7)), (5, .inl (v6)), (4, .inl (v2)), (3, .inl (M 34 11)), (0, .inr (.inr (some 50))), (1, .inr (.inr (some 34))), (2, .inl (x2))]) (st' := [.inl (v11), .inr (.inr (some 34)), .inr (.inr (some 50))]) (nc' := 126) (np' := 138) (M' := M12) 0 rfl ?_
          obtain ⟨v13, M14, hv, h⟩ := oc_i h
          refine ev_call (t := 81) (as := [.inr (.inr (some 50)), .inr (.inr (some 34)), .inl (v11)]) (rest := []) rfl rfl rfl (by omega) (Outing_spend_50_34_e (by omega) (v11) M12 _ hv) ?_
          refine ev_k (pc' := 190) (ls' := [(8, .inl (v9)), (7, .inl (v8)), (6, .inl (v7)), (5, .inl (v6)), (4, .inl (v2)), (3, .inl (M 34 11)), (0, .inr (.inr (some 50))), (1, .inr (.inr (some 34))), (2, .inl (x2))]) (st' := [.inl (v13)]) (nc' := 126) (np' := 138) (M' := M14) 0 rfl ?_
          obtain ⟨hR, ⟨hc, h⟩ | ⟨hc, h⟩⟩ := c_eq_i h
          · refine ev_ifc 222 rfl hR.1 (by decide) (fun _ => ?_) (fun q => absurd hc q)
            exact Outing_goTo_50_34_222_t hd      M14 r h
          · refine ev_ifc 222 rfl hR.1 (by decide) (fun q => absurd q hc) (fun _ => ?_)
            refine ev_k (pc' := 203) (ls' := [(8, .inl (v9)), (7, .inl (v8)), (6, .inl (v7)), (5, .inl (v6)), (4, .inl (v2)), (3, .inl (M 34 11)), (0, .inr (.inr (some 50))), (1, .inr (.inr (some 34))), (2, .inl (x2))]) (st' := [.inl ((v8) + (v9)), .inl (M14 34 9), .inr (.inr (some 34))]) (nc' := 126) (np' := 138) (M' := M14) 6 rfl ?_
            obtain ⟨M15, hv, h⟩ := ob_i h
            refine ev_call (t := 59) (as := [.inr (.inr (some 34)), .inl (M14 34 9), .inl ((v8) + (v9))]) (rest := []) rfl rfl rfl (by omega) (Trip_setTired_34_e (by omega) (M14 34 9) ((v8) + (v9)) M14 _ hv) ?_
            refine ev_k (pc' := 209) (ls' := [(8, .inl (v9)), (7, .inl (v8)), (6, .inl (v7)), (5, .inl (v6)), (4, .inl (v2)), (3, .inl (M 34 11)), (0, .inr (.inr (some 50))), (1, .inr (.inr (some 34))), (2, .inl (x2))]) (st' := [.inl (v2), .inr (.inr (some 34))]) (nc' := 126) (np' := 138) (M' := M15) 2 rfl ?_
            obtain ⟨M16, hv, h⟩ := ob_i h
            refine ev_call (t := 8) (as := [.inr (.inr (some 34)), .inl (v2)]) (rest := []) rfl rfl rfl (by omega) (Trip_append_34_e (by omega) (v2) M15 _ hv) ?_
            refine ev_k (pc' := 222) (ls' := []) (st' := []) (nc' := 126) (np' := 138) (M' := am_up M16 50 7 ((M16 50 7) + (1))) 6 rfl ?_
            obtain ⟨M17, eM, h⟩ := fw_i h
            rw [← eM]
            exact Outing_goTo_50_34_222_t hd      M17 r h
      · refine ev_icmp 98 rfl hR.1 hR.2 (by decide) (fun q => absurd q hc) (fun _ => ?_)
        refine ev_k (pc' := 79) (ls' := [(4, .inl (v2)), (3, .inl (M 34 11)), (0, .inr (.inr (some 50))), (1, .inr (.inr (some 34))), (2, .inl (x2))]) (st' := [.inl (2), .inl ((M 34 11) - (1)), .inr (.inr (some 34)), .inr (.inr (some 34)), .inr (.inr (some 50))]) (nc' := 126) (np' := 138) (M' := M) 7 rfl ?_
        obtain ⟨v18, M19, hv, h⟩ := oc_i h
        refine ev_call (t := 98) (as := [.inr (.inr (some 34)), .inl ((M 34 11) - (1)), .inl (2)]) (rest := [.inr (.inr (some 34)), .inr (.inr (some 50))]) rfl rfl rfl (by omega) (Trip_minutesOnto_34_e (by omega) ((M 34 11) - (1)) (2) M _ hv) ?_
        refine ev_k (pc' := 82) (ls' := [(4, .inl (v2)), (3, .inl (M 34 11)), (0, .inr (.inr (some 50))), (1, .inr (.inr (some 34))), (2, .inl (x2))]) (st' := [.inl (v18), .inr (.inr (some 34)), .inr (.inr (some 50))]) (nc' := 126) (np' := 138) (M' := M19) 0 rfl ?_
        obtain ⟨v20, M21, hv, h⟩ := oc_i h
        refine ev_call (t := 81) (as := [.inr (.inr (some 50)), .inr (.inr (some 34)), .inl (v18)]) (rest := []) rfl rfl rfl (by omega) (Outing_spend_50_34_e (by omega) (v18) M19 _ hv) ?_
        refine ev_k (pc' := 85) (ls' := [(4, .inl (v2)), (3, .inl (M 34 11)), (0, .inr (.inr (some 50))), (1, .inr (.inr (some 34))), (2, .inl (x2))]) (st' := [.inl (v20)]) (nc' := 126) (np' := 138) (M' := M21) 0 rfl ?_
        obtain ⟨hR, ⟨hc, h⟩ | ⟨hc, h⟩⟩ := c_eq_i h
        · refine ev_ifc 222 rfl hR.1 (by decide) (fun _ => ?_) (fun q => absurd hc q)
          exact Outing_goTo_50_34_222_t hd      M21 r h
        · refine ev_ifc 222 rfl hR.1 (by decide) (fun q => absurd q hc) (fun _ => ?_)
          refine ev_k (pc' := 95) (ls' := [(4, .inl (v2)), (3, .inl (M 34 11)), (0, .inr (.inr (some 50))), (1, .inr (.inr (some 34))), (2, .inl (x2))]) (st' := []) (nc' := 126) (np' := 138) (M' := am_up M21 34 11 ((M 34 11) - (1))) 5 rfl ?_
          obtain ⟨M22, eM, h⟩ := fw_i h
          rw [← eM]
          refine ev_k (pc' := 222) (ls' := []) (st' := []) (nc' := 126) (np' := 138) (M' := M22) 1 rfl ?_
          exact Outing_goTo_50_34_222_t hd      M22 r h
    · refine ev_icmp 60 rfl hR.1 hR.2 (by decide) (fun q => absurd q hc) (fun _ => ?_)
      refine ev_k (pc' := 41) (ls' := [(4, .inl (v2)), (3, .inl (M 34 11)), (0, .inr (.inr (some 50))), (1, .inr (.inr (some 34))), (2, .inl (x2))]) (st' := [.inl (1), .inl ((M 34 11) + (1)), .inr (.inr (some 34)), .inr (.inr (some 34)), .inr (.inr (some 50))]) (nc' := 126) (np' := 138) (M' := M) 7 rfl ?_
      obtain ⟨v23, M24, hv, h⟩ := oc_i h
      refine ev_call (t := 98) (as := [.inr (.inr (some 34)), .inl ((M 34 11) + (1)), .inl (1)]) (rest := [.inr (.inr (some 34)), .inr (.inr (some 50))]) rfl rfl rfl (by omega) (Trip_minutesOnto_34_e (by omega) ((M 34 11) + (1)) (1) M _ hv) ?_
      refine ev_k (pc' := 44) (ls' := [(4, .inl (v2)), (3, .inl (M 34 11)), (0, .inr (.inr (some 50))), (1, .inr (.inr (some 34))), (2, .inl (x2))]) (st' := [.inl (v23), .inr (.inr (some 34)), .inr (.inr (some 50))]) (nc' := 126) (np' := 138) (M' := M24) 0 rfl ?_
      obtain ⟨v25, M26, hv, h⟩ := oc_i h
      refine ev_call (t := 81) (as := [.inr (.inr (some 50)), .inr (.inr (some 34)), .inl (v23)]) (rest := []) rfl rfl rfl (by omega) (Outing_spend_50_34_e (by omega) (v23) M24 _ hv) ?_
      refine ev_k (pc' := 47) (ls' := [(4, .inl (v2)), (3, .inl (M 34 11)), (0, .inr (.inr (some 50))), (1, .inr (.inr (some 34))), (2, .inl (x2))]) (st' := [.inl (v25)]) (nc' := 126) (np' := 138) (M' := M26) 0 rfl ?_
      obtain ⟨hR, ⟨hc, h⟩ | ⟨hc, h⟩⟩ := c_eq_i h
      · refine ev_ifc 222 rfl hR.1 (by decide) (fun _ => ?_) (fun q => absurd hc q)
        exact Outing_goTo_50_34_222_t hd      M26 r h
      · refine ev_ifc 222 rfl hR.1 (by decide) (fun q => absurd q hc) (fun _ => ?_)
        refine ev_k (pc' := 57) (ls' := [(4, .inl (v2)), (3, .inl (M 34 11)), (0, .inr (.inr (some 50))), (1, .inr (.inr (some 34))), (2, .inl (x2))]) (st' := []) (nc' := 126) (np' := 138) (M' := am_up M26 34 11 ((M 34 11) + (1))) 5 rfl ?_
        obtain ⟨M27, eM, h⟩ := fw_i h
        rw [← eM]
        refine ev_k (pc' := 222) (ls' := []) (st' := []) (nc' := 126) (np' := 138) (M' := M27) 1 rfl ?_
        exact Outing_goTo_50_34_222_t hd      M27 r h
  · refine ev_ifc 22 rfl hR.1 (by decide) (fun q => absurd q hc) (fun _ => ?_)
    refine ev_k (pc' := 21) (ls' := [(4, .inl (v2)), (3, .inl (M 34 11)), (0, .inr (.inr (some 50))), (1, .inr (.inr (some 34))), (2, .inl (x2))]) (st' := []) (nc' := 126) (np' := 138) (M' := M) 0 rfl ?_
    cases h
    exact ev_ret rfl
def Outing_doAct_50_34_120     (M : am_M) : Option (am_M) := some (M)
def Outing_doAct_50_34_103     (M : am_M) : Option (am_M) := c_ne (M 50 9) (0)
       (Outing_doAct_50_34_120     M)
       (fw M 50 8 ((M 50 8) + (1)) fun M1 => (Outing_doAct_50_34_120     M1))
def Outing_doAct_50_34    (x2 : Int) (M : am_M) : Option (am_M) := ck (am_R (x2)) ((if (x2) = (43) then
       (ob (Outing_change_50_34  M) fun M1 => (Outing_doAct_50_34_103     M1)) else
       (if (x2) = (46) then
       (ob (Outing_rest_50_34  M) fun M2 => (Outing_doAct_50_34_103     M2)) else
       (if (x2) = (98) then
       (ob (Outing_mark_50_34 (2) M) fun M3 => (Outing_doAct_50_34_103     M3)) else
       (if (x2) = (111) then
       (ob (Outing_mark_50_34 (1) M) fun M4 => (Outing_doAct_50_34_103     M4)) else
       (if (x2) = (120) then
       (ob (Outing_lay_50_34  M) fun M5 => (Outing_doAct_50_34_103     M5)) else
       (ob (Outing_wayOf (x2) M) fun v6 => ob (Outing_goTo_50_34 (v6) M) fun M7 => (Outing_doAct_50_34_103     M7))))))))
theorem Outing_doAct_50_34_120_t {L : Nat} {xs : Nat → Int} {d : Nat} (hd : 5 ≤ d)      (M : am_M) (r : am_M) (h : Outing_doAct_50_34_120     M = some r) : am_Ev L xs d me_79 120 [] [] 126 138 M (none, 126, 138, r) := by
  refine ev_k (pc' := 120) (ls' := []) (st' := []) (nc' := 126) (np' := 138) (M' := M) 0 rfl ?_
  cases h
  exact ev_ret rfl
theorem Outing_doAct_50_34_103_t {L : Nat} {xs : Nat → Int} {d : Nat} (hd : 5 ≤ d)      (M : am_M) (r : am_M) (h : Outing_doAct_50_34_103     M = some r) : am_Ev L xs d me_79 103 [(0, .inr (.inr (some 50)))] [] 126 138 M (none, 126, 138, r) := by
  refine ev_k (pc' := 107) (ls' := [(0, .inr (.inr (some 50)))]) (st' := [.inl (M 50 9)]) (nc' := 126) (np' := 138) (M' := M) 2 rfl ?_
  obtain ⟨hR, ⟨hc, h⟩ | ⟨hc, h⟩⟩ := c_ne_i h
  · refine ev_ifc 120 rfl hR.1 (by decide) (fun _ => ?_) (fun q => absurd hc q)
    exact Outing_doAct_50_34_120_t hd      M r h
  · refine ev_ifc 120 rfl hR.1 (by decide) (fun q => absurd q hc) (fun _ => ?_)
    refine ev_k (pc' := 120) (ls' := []) (st' := []) (nc' := 126) (np' := 138) (M' := am_up M 50 8 ((M 50 8) + (1))) 6 rfl ?_
    obtain ⟨M1, eM, h⟩ := fw_i h
    rw [← eM]
    exact Outing_doAct_50_34_120_t hd      M1 r h
theorem Outing_doAct_50_34_e {L : Nat} {xs : Nat → Int} {d : Nat} (hd : 5 ≤ d)   (x2 : Int) (M : am_M) (r : am_M) (h : Outing_doAct_50_34   x2 M = some r) : am_Ev L xs d me_79 0 (am_ar1 0 [.inr (.inr (some 50)), .inr (.inr (some 34)), .inl (x2)]) [] 126 138 M (none, 126, 138, r) := by
  refine ev_k (pc' := 1) (ls' := [(0, .inr (.inr (some 50))), (1, .inr (.inr (some 34))), (2, .inl (x2))]) (st' := [.inl (x2)]) (nc' := 126) (np' := 138) (M' := M) 1 rfl ?_
  obtain ⟨hR, h⟩ := ck_i h
  rcases if_i h with ⟨hq, h⟩ | ⟨hq0, h⟩
  · refine ev_lsw 60 rfl hR rfl (59) (by rw [hq]; rfl) (by decide) ?_
    refine ev_k (pc' := 62) (ls' := [(0, .inr (.inr (some 50))), (1, .inr (.inr (some 34))), (2, .inl (x2))]) (st' := [.inr (.inr (some 34)), .inr (.inr (some 50))]) (nc' := 126) (np' := 138) (M' := M) 2 rfl ?_
    obtain ⟨M1, hv, h⟩ := ob_i h
    refine ev_call (t := 87) (as := [.inr (.inr (some 50)), .inr (.inr (some 34))]) (rest := []) rfl rfl rfl (by omega) (Outing_change_50_34_e (by omega)  M _ hv) ?_
    refine ev_k (pc' := 103) (ls' := [(0, .inr (.inr (some 50)))]) (st' := []) (nc' := 126) (np' := 138) (M' := M1) 1 rfl ?_
    exact Outing_doAct_50_34_103_t hd      M1 r h
  · skip
    rcases if_i h with ⟨hq, h⟩ | ⟨hq1, h⟩
    · refine ev_lsw 52 rfl hR rfl (51) (by rw [hq]; rfl) (by decide) ?_
      refine ev_k (pc' := 54) (ls' := [(0, .inr (.inr (some 50))), (1, .inr (.inr (some 34))), (2, .inl (x2))]) (st' := [.inr (.inr (some 34)), .inr (.inr (some 50))]) (nc' := 126) (np' := 138) (M' := M) 2 rfl ?_
      obtain ⟨M2, hv, h⟩ := ob_i h
      refine ev_call (t := 80) (as := [.inr (.inr (some 50)), .inr (.inr (some 34))]) (rest := []) rfl rfl rfl (by omega) (Outing_rest_50_34_e (by omega)  M _ hv) ?_
      refine ev_k (pc' := 103) (ls' := [(0, .inr (.inr (some 50)))]) (st' := []) (nc' := 126) (np' := 138) (M' := M2) 1 rfl ?_
      exact Outing_doAct_50_34_103_t hd      M2 r h
    · skip
      rcases if_i h with ⟨hq, h⟩ | ⟨hq2, h⟩
      · refine ev_lsw 77 rfl hR rfl (76) (by rw [hq]; rfl) (by decide) ?_
        refine ev_k (pc' := 80) (ls' := [(0, .inr (.inr (some 50))), (1, .inr (.inr (some 34))), (2, .inl (x2))]) (st' := [.inl (2), .inr (.inr (some 34)), .inr (.inr (some 50))]) (nc' := 126) (np' := 138) (M' := M) 3 rfl ?_
        obtain ⟨M3, hv, h⟩ := ob_i h
        refine ev_call (t := 90) (as := [.inr (.inr (some 50)), .inr (.inr (some 34)), .inl (2)]) (rest := []) rfl rfl rfl (by omega) (Outing_mark_50_34_e (by omega) (2) M _ hv) ?_
        refine ev_k (pc' := 103) (ls' := [(0, .inr (.inr (some 50)))]) (st' := []) (nc' := 126) (np' := 138) (M' := M3) 1 rfl ?_
        exact Outing_doAct_50_34_103_t hd      M3 r h
      · skip
        rcases if_i h with ⟨hq, h⟩ | ⟨hq3, h⟩
        · refine ev_lsw 68 rfl hR rfl (67) (by rw [hq]; rfl) (by decide) ?_
          refine ev_k (pc' := 71) (ls' := [(0, .inr (.inr (some 50))), (1, .inr (.inr (some 34))), (2, .inl (x2))]) (st' := [.inl (1), .inr (.inr (some 34)), .inr (.inr (some 50))]) (nc' := 126) (np' := 138) (M' := M) 3 rfl ?_
          obtain ⟨M4, hv, h⟩ := ob_i h
          refine ev_call (t := 90) (as := [.inr (.inr (some 50)), .inr (.inr (some 34)), .inl (1)]) (rest := []) rfl rfl rfl (by omega) (Outing_mark_50_34_e (by omega) (1) M _ hv) ?_
          refine ev_k (pc' := 103) (ls' := [(0, .inr (.inr (some 50)))]) (st' := []) (nc' := 126) (np' := 138) (M' := M4) 1 rfl ?_
          exact Outing_doAct_50_34_103_t hd      M4 r h
        · skip
          rcases if_i h with ⟨hq, h⟩ | ⟨hq4, h⟩
          · refine ev_lsw 86 rfl hR rfl (85) (by rw [hq]; rfl) (by decide) ?_
            refine ev_k (pc' := 88) (ls' := [(0, .inr (.inr (some 50))), (1, .inr (.inr (some 34))), (2, .inl (x2))]) (st' := [.inr (.inr (some 34)), .inr (.inr (some 50))]) (nc' := 126) (np' := 138) (M' := M) 2 rfl ?_
            obtain ⟨M5, hv, h⟩ := ob_i h
            refine ev_call (t := 93) (as := [.inr (.inr (some 50)), .inr (.inr (some 34))]) (rest := []) rfl rfl rfl (by omega) (Outing_lay_50_34_e (by omega)  M _ hv) ?_
            refine ev_k (pc' := 103) (ls' := [(0, .inr (.inr (some 50)))]) (st' := []) (nc' := 126) (np' := 138) (M' := M5) 1 rfl ?_
            exact Outing_doAct_50_34_103_t hd      M5 r h
          · skip
            refine ev_lsw 94 rfl hR rfl (93) ?_ (by decide) ?_
            · exact am_lsd _ _ _ (by simp only [List.forall_mem_cons, List.not_mem_nil]; exact ⟨hq0, hq1, hq2, hq3, hq4, by simp⟩)
            · skip
              refine ev_k (pc' := 97) (ls' := [(0, .inr (.inr (some 50))), (1, .inr (.inr (some 34))), (2, .inl (x2))]) (st' := [.inl (x2), .inr (.inr (some 34)), .inr (.inr (some 50))]) (nc' := 126) (np' := 138) (M' := M) 3 rfl ?_
              obtain ⟨v6, hv, h⟩ := ob_i h
              refine ev_call (t := 77) (as := [.inl (x2)]) (rest := [.inr (.inr (some 34)), .inr (.inr (some 50))]) rfl rfl rfl (by omega) (Outing_wayOf_e (by omega) (x2) M _ hv) ?_
              refine ev_k (pc' := 100) (ls' := [(0, .inr (.inr (some 50))), (1, .inr (.inr (some 34))), (2, .inl (x2))]) (st' := [.inl (v6), .inr (.inr (some 34)), .inr (.inr (some 50))]) (nc' := 126) (np' := 138) (M' := M) 0 rfl ?_
              obtain ⟨M7, hv, h⟩ := ob_i h
              refine ev_call (t := 96) (as := [.inr (.inr (some 50)), .inr (.inr (some 34)), .inl (v6)]) (rest := []) rfl rfl rfl (by omega) (Outing_goTo_50_34_e (by omega) (v6) M _ hv) ?_
              exact Outing_doAct_50_34_103_t hd      M7 r h
def Outing_perform_50_34_60    (x2 : Int) (M : am_M) : Option (Int × am_M) := some ((M 34 12) - (x2), M)
def Outing_perform_50_34_22    : Nat → Int → Int → am_M → Option (Int × am_M)
  | 0, _, _, _ => none
  | n + 1, x2, x3, M => c_ge (x3) (M 50 3)
       (Outing_perform_50_34_60    (x2) M)
       (c_ge (x3) (90)
       (Outing_perform_50_34_60    (x2) M)
       (c_ne (M 50 9) (0)
       (Outing_perform_50_34_60    (x2) M)
       (rd M 51 90 (x3) fun v1 => ob (Outing_doAct_50_34 (v1) M) fun M2 => (Outing_perform_50_34_22    n (x2) ((x3) + (1)) M2))))
def Outing_perform_50_34     (M : am_M) : Option (Int × am_M) := fw M 50 7 (0) fun M1 => fw M1 50 8 (0) fun M2 => fz M2 50 9 (0) fun M3 => (Outing_perform_50_34_22    am_big (M 34 12) (0) M3)
theorem Outing_perform_50_34_60_t {L : Nat} {xs : Nat → Int} {d : Nat} (hd : 6 ≤ d)     (x2 : Int) (M : am_M) (r : Int × am_M) (h : Outing_perform_50_34_60    x2 M = some r) : am_Ev L xs d me_78 60 [(1, .inr (.inr (some 34))), (2, .inl (x2))] [] 126 138 M (some (.inl r.1), 126, 138, r.2) := by
  refine ev_k (pc' := 66) (ls' := [(1, .inr (.inr (some 34))), (2, .inl (x2))]) (st' := [.inl ((M 34 12) - (x2))]) (nc' := 126) (np' := 138) (M' := M) 4 rfl ?_
  cases h
  exact ev_ret rfl
theorem Outing_perform_50_34_22_t {L : Nat} {xs : Nat → Int} {d : Nat} (hd : 6 ≤ d)     : ∀ (n : Nat) (x2 : Int) (x3 : Int) (M : am_M) (r : Int × am_M), Outing_perform_50_34_22    n x2 x3 M = some r → am_Ev L xs d me_78 22 [(0, .inr (.inr (some 50))), (1, .inr (.inr (some 34))), (2, .inl (x2)), (3, .inl (x3))] [] 126 138 M (some (.inl r.1), 126, 138, r.2)
  | 0, _, _, M, r, h => by cases h
  | n + 1, x2, x3, M, r, h => by
    have ih := Outing_perform_50_34_22_t (L := L) (xs := xs) hd     n
    refine ev_k (pc' := 27) (ls' := [(0, .inr (.inr (some 50))), (1, .inr (.inr (some 34))), (2, .inl (x2)), (3, .inl (x3))]) (st' := [.inl (M 50 3), .inl (x3)]) (nc' := 126) (np' := 138) (M' := M) 3 rfl ?_
    obtain ⟨hR, ⟨hc, h⟩ | ⟨hc, h⟩⟩ := c_ge_i h
    · refine ev_icmp 60 rfl hR.1 hR.2 (by decide) (fun _ => ?_) (fun q => absurd hc q)
      exact Outing_perform_50_34_60_t hd     (x2) M r h
    · refine ev_icmp 60 rfl hR.1 hR.2 (by decide) (fun q => absurd q hc) (fun _ => ?_)
      refine ev_k (pc' := 33) (ls' := [(0, .inr (.inr (some 50))), (1, .inr (.inr (some 34))), (2, .inl (x2)), (3, .inl (x3))]) (st' := [.inl (90), .inl (x3)]) (nc' := 126) (np' := 138) (M' := M) 2 rfl ?_
      obtain ⟨hR, ⟨hc, h⟩ | ⟨hc, h⟩⟩ := c_ge_i h
      · refine ev_icmp 60 rfl hR.1 hR.2 (by decide) (fun _ => ?_) (fun q => absurd hc q)
        exact Outing_perform_50_34_60_t hd     (x2) M r h
      · refine ev_icmp 60 rfl hR.1 hR.2 (by decide) (fun q => absurd q hc) (fun _ => ?_)
        refine ev_k (pc' := 40) (ls' := [(0, .inr (.inr (some 50))), (1, .inr (.inr (some 34))), (2, .inl (x2)), (3, .inl (x3))]) (st' := [.inl (M 50 9)]) (nc' := 126) (np' := 138) (M' := M) 2 rfl ?_
        obtain ⟨hR, ⟨hc, h⟩ | ⟨hc, h⟩⟩ := c_ne_i h
        · refine ev_ifc 60 rfl hR.1 (by decide) (fun _ => ?_) (fun q => absurd hc q)
          exact Outing_perform_50_34_60_t hd     (x2) M r h
        · refine ev_ifc 60 rfl hR.1 (by decide) (fun q => absurd q hc) (fun _ => ?_)
          refine ev_k (pc' := 50) (ls' := [(0, .inr (.inr (some 50))), (1, .inr (.inr (some 34))), (2, .inl (x2)), (3, .inl (x3))]) (st' := [.inl (x3), .inr (.inr (some 51)), .inr (.inr (some 34)), .inr (.inr (some 50))]) (nc' := 126) (np' := 138) (M' := M) 5 rfl ?_
          obtain ⟨hc, v1, ev, h⟩ := rd_i h
          refine ev_ald (k := 51) (t := 0) (Or.inl ⟨rfl, rfl⟩) rfl (by decide) (by decide) rfl hc ev ?_
          refine ev_k (pc' := 51) (ls' := [(0, .inr (.inr (some 50))), (1, .inr (.inr (some 34))), (2, .inl (x2)), (3, .inl (x3))]) (st' := [.inl (v1), .inr (.inr (some 34)), .inr (.inr (some 50))]) (nc' := 126) (np' := 138) (M' := M) 0 rfl ?_
          obtain ⟨M2, hv, h⟩ := ob_i h
          refine ev_call (t := 79) (as := [.inr (.inr (some 50)), .inr (.inr (some 34)), .inl (v1)]) (rest := []) rfl rfl rfl (by omega) (Outing_doAct_50_34_e (by omega) (v1) M _ hv) ?_
          refine ev_k (pc' := 22) (ls' := [(0, .inr (.inr (some 50))), (1, .inr (.inr (some 34))), (2, .inl (x2)), (3, .inl ((x3) + (1)))]) (st' := []) (nc' := 126) (np' := 138) (M' := M2) 2 rfl ?_
          exact ih (x2) ((x3) + (1)) M2 r h
theorem Outing_perform_50_34_e {L : Nat} {xs : Nat → Int} {d : Nat} (hd : 6 ≤ d)    (M : am_M) (r : Int × am_M) (h : Outing_perform_50_34    M = some r) : am_Ev L xs d me_78 0 (am_ar1 0 [.inr (.inr (some 50)), .inr (.inr (some 34))]) [] 126 138 M (some (.inl r.1), 126, 138, r.2) := by
  refine ev_k (pc' := 10) (ls' := [(2, .inl (M 34 12)), (0, .inr (.inr (some 50))), (1, .inr (.inr (some 34)))]) (st' := []) (nc' := 126) (np' := 138) (M' := am_up M 50 7 (0)) 6 rfl ?_
  obtain ⟨M1, eM, h⟩ := fw_i h
  rw [← eM]
  refine ev_k (pc' := 15) (ls' := [(2, .inl (M 34 12)), (0, .inr (.inr (some 50))), (1, .inr (.inr (some 34)))]) (st' := []) (nc' := 126) (np' := 138) (M' := am_up M1 50 8 (0)) 3 rfl ?_
  obtain ⟨M2, eM, h⟩ := fw_i h
  rw [← eM]
  refine ev_k (pc' := 17) (ls' := [(2, .inl (M 34 12)), (0, .inr (.inr (some 50))), (1, .inr (.inr (some 34)))]) (st' := [.inl (0), .inr (.inr (some 50))]) (nc' := 126) (np' := 138) (M' := M2) 2 rfl ?_
  obtain ⟨hc, M3, eM, h⟩ := fz_i h
  refine ev_putz (k := 50) (j := 9) rfl rfl (by decide) rfl rfl hc eM ?_
  refine ev_k (pc' := 22) (ls' := [(0, .inr (.inr (some 50))), (1, .inr (.inr (some 34))), (2, .inl (M 34 12)), (3, .inl (0))]) (st' := []) (nc' := 126) (np' := 138) (M' := M3) 2 rfl ?_
  exact Outing_perform_50_34_22_t hd     am_big (M 34 12) (0) M3 r h
def P_tried_190    (s0 : Int) (M : am_M) : Option (Int × am_M) := some (s0, M)
def P_tried_174    (s0 : Int) (M : am_M) : Option (Int × am_M) := some (s0, M)
def P_tried_23     (M : am_M) : Option (Int × am_M) := some (-1, M)
def P_tried    (x1 : Int) (x2 : Int) (M : am_M) : Option (Int × am_M) := c_lt (x2) (0)
       (P_tried_23     M)
       (c_gt (x2) (5)
       (P_tried_23     M)
       (oc (Tape_take (x1) (1) (80) M) fun v1 M2 => c_ne (v1) (0)
       (oc (Outing_readActs_50  M2) fun v3 M4 => c_ge (v3) (0)
       (ob (Trip_copyFrom_34_26  M4) fun M5 => oc (Outing_perform_50_34  M5) fun v6 M7 => ck (am_R (x2)) ((if (x2) = (0) then
       (some (v6, M7)) else
       (if (x2) = (1) then
       (some (M7 50 7, M7)) else
       (if (x2) = (2) then
       (some (M7 50 8, M7)) else
       (if (x2) = (3) then
       (ob (Trip_cellAt_34 (M7 34 11) M7) fun v8 => some (v8, M7)) else
       (if (x2) = (4) then
       (ob (Country_isTold_1 (M7 34 9) M7) fun v9 => c_eq (v9) (0)
       ((P_tried_174    (-2) M7))
       (ob (Trip_tiredOf_34 (M7 34 9) M7) fun v10 => (P_tried_174    (v10) M7))) else
       (c_eq (M7 50 9) (0)
       ((P_tried_190    (0) M7))
       ((P_tried_190    (1) M7))))))))))
       (some (v3, M4)))
       (P_tried_23     M2)))
theorem P_tried_190_t {L : Nat} {xs : Nat → Int} {d : Nat} (hd : 46 ≤ d)     (s0 : Int) (M : am_M) (r : Int × am_M) (h : P_tried_190    s0 M = some r) : am_Ev L xs d me_107 190 [] [.inl (s0)] 126 138 M (some (.inl r.1), 126, 138, r.2) := by
  refine ev_k (pc' := 190) (ls' := []) (st' := [.inl (s0)]) (nc' := 126) (np' := 138) (M' := M) 0 rfl ?_
  cases h
  exact ev_ret rfl
theorem P_tried_174_t {L : Nat} {xs : Nat → Int} {d : Nat} (hd : 46 ≤ d)     (s0 : Int) (M : am_M) (r : Int × am_M) (h : P_tried_174    s0 M = some r) : am_Ev L xs d me_107 174 [] [.inl (s0)] 126 138 M (some (.inl r.1), 126, 138, r.2) := by
  refine ev_k (pc' := 174) (ls' := []) (st' := [.inl (s0)]) (nc' := 126) (np' := 138) (M' := M) 0 rfl ?_
  cases h
  exact ev_ret rfl
theorem P_tried_23_t {L : Nat} {xs : Nat → Int} {d : Nat} (hd : 46 ≤ d)      (M : am_M) (r : Int × am_M) (h : P_tried_23     M = some r) : am_Ev L xs d me_107 23 [] [] 126 138 M (some (.inl r.1), 126, 138, r.2) := by
  refine ev_k (pc' := 24) (ls' := []) (st' := [.inl (-1)]) (nc' := 126) (np' := 138) (M' := M) 1 rfl ?_
  cases h
  exact ev_ret rfl
theorem P_tried_e {L : Nat} {xs : Nat → Int} {d : Nat} (hd : 46 ≤ d)   (x1 : Int) (x2 : Int) (M : am_M) (r : Int × am_M) (h : P_tried   x1 x2 M = some r) : am_Ev L xs d me_107 0 (am_ar1 0 [.inr (.inr (some 0)), .inl (x1), .inl (x2)]) [] 126 138 M (some (.inl r.1), 126, 138, r.2) := by
  refine ev_k (pc' := 1) (ls' := [(0, .inr (.inr (some 0))), (1, .inl (x1)), (2, .inl (x2))]) (st' := [.inl (x2)]) (nc' := 126) (np' := 138) (M' := M) 1 rfl ?_
  obtain ⟨hR, ⟨hc, h⟩ | ⟨hc, h⟩⟩ := c_lt_i h
  · refine ev_ifc 23 rfl hR.1 (by decide) (fun _ => ?_) (fun q => absurd hc q)
    exact P_tried_23_t hd      M r h
  · refine ev_ifc 23 rfl hR.1 (by decide) (fun q => absurd q hc) (fun _ => ?_)
    refine ev_k (pc' := 6) (ls' := [(0, .inr (.inr (some 0))), (1, .inl (x1)), (2, .inl (x2))]) (st' := [.inl (5), .inl (x2)]) (nc' := 126) (np' := 138) (M' := M) 2 rfl ?_
    obtain ⟨hR, ⟨hc, h⟩ | ⟨hc, h⟩⟩ := c_gt_i h
    · refine ev_icmp 23 rfl hR.1 hR.2 (by decide) (fun _ => ?_) (fun q => absurd hc q)
      exact P_tried_23_t hd      M r h
    · refine ev_icmp 23 rfl hR.1 hR.2 (by decide) (fun q => absurd q hc) (fun _ => ?_)
      refine ev_k (pc' := 17) (ls' := [(0, .inr (.inr (some 0))), (1, .inl (x1)), (2, .inl (x2))]) (st' := [.inl (80), .inl (1), .inl (x1), .inr (.inr (some 14))]) (nc' := 126) (np' := 138) (M' := M) 5 rfl ?_
      obtain ⟨v1, M2, hv, h⟩ := oc_i h
      refine ev_call (t := 21) (as := [.inr (.inr (some 14)), .inl (x1), .inl (1), .inl (80)]) (rest := []) rfl rfl rfl (by omega) (Tape_take_e (by omega) (x1) (1) (80) M _ hv) ?_
      refine ev_k (pc' := 20) (ls' := [(0, .inr (.inr (some 0))), (1, .inl (x1)), (2, .inl (x2))]) (st' := [.inl (v1)]) (nc' := 126) (np' := 138) (M' := M2) 0 rfl ?_
      obtain ⟨hR, ⟨hc, h⟩ | ⟨hc, h⟩⟩ := c_ne_i h
      · refine ev_ifc 25 rfl hR.1 (by decide) (fun _ => ?_) (fun q => absurd hc q)
        refine ev_k (pc' := 33) (ls' := [(0, .inr (.inr (some 0))), (1, .inl (x1)), (2, .inl (x2))]) (st' := [.inr (.inr (some 14)), .inr (.inr (some 50))]) (nc' := 126) (np' := 138) (M' := M2) 4 rfl ?_
        obtain ⟨v3, M4, hv, h⟩ := oc_i h
        refine ev_call (t := 68) (as := [.inr (.inr (some 50)), .inr (.inr (some 14))]) (rest := []) rfl rfl rfl (by omega) (Outing_readActs_50_e (by omega)  M2 _ hv) ?_
        refine ev_k (pc' := 38) (ls' := [(3, .inl (v3)), (0, .inr (.inr (some 0))), (1, .inl (x1)), (2, .inl (x2))]) (st' := [.inl (v3)]) (nc' := 126) (np' := 138) (M' := M4) 2 rfl ?_
        obtain ⟨hR, ⟨hc, h⟩ | ⟨hc, h⟩⟩ := c_ge_i h
        · refine ev_ifc 43 rfl hR.1 (by decide) (fun _ => ?_) (fun q => absurd hc q)
          refine ev_k (pc' := 51) (ls' := [(3, .inl (v3)), (0, .inr (.inr (some 0))), (1, .inl (x1)), (2, .inl (x2))]) (st' := [.inr (.inr (some 26)), .inr (.inr (some 34))]) (nc' := 126) (np' := 138) (M' := M4) 4 rfl ?_
          obtain ⟨M5, hv, h⟩ := ob_i h
          refine ev_call (t := 108) (as := [.inr (.inr (some 34)), .inr (.inr (some 26))]) (rest := []) rfl rfl rfl (by omega) (Trip_copyFrom_34_26_e (by omega)  M4 _ hv) ?_
          refine ev_k (pc' := 62) (ls' := [(3, .inl (v3)), (0, .inr (.inr (some 0))), (1, .inl (x1)), (2, .inl (x2))]) (st' := [.inr (.inr (some 34)), .inr (.inr (some 50))]) (nc' := 126) (np' := 138) (M' := M5) 4 rfl ?_
          obtain ⟨v6, M7, hv, h⟩ := oc_i h
          refine ev_call (t := 78) (as := [.inr (.inr (some 50)), .inr (.inr (some 34))]) (rest := []) rfl rfl rfl (by omega) (Outing_perform_50_34_e (by omega)  M5 _ hv) ?_
          refine ev_k (pc' := 68) (ls' := [(4, .inl (v6)), (3, .inl (v3)), (0, .inr (.inr (some 0))), (1, .inl (x1)), (2, .inl (x2))]) (st' := [.inl (x2)]) (nc' := 126) (np' := 138) (M' := M7) 2 rfl ?_
          obtain ⟨hR, h⟩ := ck_i h
          rcases if_i h with ⟨hq, h⟩ | ⟨hq0, h⟩
          · refine ev_tsw 104 rfl hR (36) (Or.inr ⟨by rw [hq]; decide, by rw [hq]; rfl⟩) (by decide) ?_
            refine ev_k (pc' := 106) (ls' := [(4, .inl (v6)), (3, .inl (v3)), (0, .inr (.inr (some 0))), (1, .inl (x1)), (2, .inl (x2))]) (st' := [.inl (v6)]) (nc' := 126) (np' := 138) (M' := M7) 1 rfl ?_
            cases h
            exact ev_ret rfl
          · skip
            rcases if_i h with ⟨hq, h⟩ | ⟨hq1, h⟩
            · refine ev_tsw 107 rfl hR (39) (Or.inr ⟨by rw [hq]; decide, by rw [hq]; rfl⟩) (by decide) ?_
              refine ev_k (pc' := 114) (ls' := [(4, .inl (v6)), (3, .inl (v3)), (0, .inr (.inr (some 0))), (1, .inl (x1)), (2, .inl (x2))]) (st' := [.inl (M7 50 7)]) (nc' := 126) (np' := 138) (M' := M7) 3 rfl ?_
              cases h
              exact ev_ret rfl
            · skip
              rcases if_i h with ⟨hq, h⟩ | ⟨hq2, h⟩
              · refine ev_tsw 115 rfl hR (47) (Or.inr ⟨by rw [hq]; decide, by rw [hq]; rfl⟩) (by decide) ?_
                refine ev_k (pc' := 122) (ls' := [(4, .inl (v6)), (3, .inl (v3)), (0, .inr (.inr (some 0))), (1, .inl (x1)), (2, .inl (x2))]) (st' := [.inl (M7 50 8)]) (nc' := 126) (np' := 138) (M' := M7) 3 rfl ?_
                cases h
                exact ev_ret rfl
              · skip
                rcases if_i h with ⟨hq, h⟩ | ⟨hq3, h⟩
                · refine ev_tsw 123 rfl hR (55) (Or.inr ⟨by rw [hq]; decide, by rw [hq]; rfl⟩) (by decide) ?_
                  refine ev_k (pc' := 134) (ls' := [(4, .inl (v6)), (3, .inl (v3)), (0, .inr (.inr (some 0))), (1, .inl (x1)), (2, .inl (x2))]) (st' := [.inl (M7 34 11), .inr (.inr (some 34))]) (nc' := 126) (np' := 138) (M' := M7) 5 rfl ?_
                  obtain ⟨v8, hv, h⟩ := ob_i h
                  refine ev_call (t := 31) (as := [.inr (.inr (some 34)), .inl (M7 34 11)]) (rest := []) rfl rfl rfl (by omega) (Trip_cellAt_34_e (by omega) (M7 34 11) M7 _ hv) ?_
                  refine ev_k (pc' := 137) (ls' := [(4, .inl (v6)), (3, .inl (v3)), (0, .inr (.inr (some 0))), (1, .inl (x1)), (2, .inl (x2))]) (st' := [.inl (v8)]) (nc' := 126) (np' := 138) (M' := M7) 0 rfl ?_
                  cases h
                  exact ev_ret rfl
                · skip
                  rcases if_i h with ⟨hq, h⟩ | ⟨hq4, h⟩
                  · refine ev_tsw 138 rfl hR (70) (Or.inr ⟨by rw [hq]; decide, by rw [hq]; rfl⟩) (by decide) ?_
                    refine ev_k (pc' := 149) (ls' := [(4, .inl (v6)), (3, .inl (v3)), (0, .inr (.inr (some 0))), (1, .inl (x1)), (2, .inl (x2))]) (st' := [.inl (M7 34 9), .inr (.inr (some 1))]) (nc' := 126) (np' := 138) (M' := M7) 5 rfl ?_
                    obtain ⟨v9, hv, h⟩ := ob_i h
                    refine ev_call (t := 62) (as := [.inr (.inr (some 1)), .inl (M7 34 9)]) (rest := []) rfl rfl rfl (by omega) (Country_isTold_1_e (by omega) (M7 34 9) M7 _ hv) ?_
                    refine ev_k (pc' := 152) (ls' := [(4, .inl (v6)), (3, .inl (v3)), (0, .inr (.inr (some 0))), (1, .inl (x1)), (2, .inl (x2))]) (st' := [.inl (v9)]) (nc' := 126) (np' := 138) (M' := M7) 0 rfl ?_
                    obtain ⟨hR, ⟨hc, h⟩ | ⟨hc, h⟩⟩ := c_eq_i h
                    · refine ev_ifc 172 rfl hR.1 (by decide) (fun _ => ?_) (fun q => absurd hc q)
                      refine ev_k (pc' := 174) (ls' := []) (st' := [.inl (-2)]) (nc' := 126) (np' := 138) (M' := M7) 1 rfl ?_
                      exact P_tried_174_t hd     (-2) M7 r h
                    · refine ev_ifc 172 rfl hR.1 (by decide) (fun q => absurd q hc) (fun _ => ?_)
                      refine ev_k (pc' := 166) (ls' := [(4, .inl (v6)), (3, .inl (v3)), (0, .inr (.inr (some 0))), (1, .inl (x1)), (2, .inl (x2))]) (st' := [.inl (M7 34 9), .inr (.inr (some 34))]) (nc' := 126) (np' := 138) (M' := M7) 5 rfl ?_
                      obtain ⟨v10, hv, h⟩ := ob_i h
                      refine ev_call (t := 82) (as := [.inr (.inr (some 34)), .inl (M7 34 9)]) (rest := []) rfl rfl rfl (by omega) (Trip_tiredOf_34_e (by omega) (M7 34 9) M7 _ hv) ?_
                      refine ev_k (pc' := 174) (ls' := []) (st' := [.inl (v10)]) (nc' := 126) (np' := 138) (M' := M7) 1 rfl ?_
                      exact P_tried_174_t hd     (v10) M7 r h
                  · skip
                    have hho : ((x2) < 0 ∨ 4 < (x2)) ∨ ((x2) = 0 ∨ (x2) = 1 ∨ (x2) = 2 ∨ (x2) = 3 ∨ (x2) = 4) := by omega
                    refine ev_tsw 175 rfl hR (107) ?_ (by decide) ?_
                    · rcases hho with hho | hho
                      · exact Or.inl ⟨hho, rfl⟩
                      · rcases hho with hho | hho | hho | hho | hho
                        · exact absurd hho hq0
                        · exact absurd hho hq1
                        · exact absurd hho hq2
                        · exact absurd hho hq3
                        · exact absurd hho hq4
                    · skip
                      refine ev_k (pc' := 182) (ls' := [(4, .inl (v6)), (3, .inl (v3)), (0, .inr (.inr (some 0))), (1, .inl (x1)), (2, .inl (x2))]) (st' := [.inl (M7 50 9)]) (nc' := 126) (np' := 138) (M' := M7) 3 rfl ?_
                      obtain ⟨hR, ⟨hc, h⟩ | ⟨hc, h⟩⟩ := c_eq_i h
                      · refine ev_ifc 189 rfl hR.1 (by decide) (fun _ => ?_) (fun q => absurd hc q)
                        refine ev_k (pc' := 190) (ls' := []) (st' := [.inl (0)]) (nc' := 126) (np' := 138) (M' := M7) 1 rfl ?_
                        exact P_tried_190_t hd     (0) M7 r h
                      · refine ev_ifc 189 rfl hR.1 (by decide) (fun q => absurd q hc) (fun _ => ?_)
                        refine ev_k (pc' := 190) (ls' := []) (st' := [.inl (1)]) (nc' := 126) (np' := 138) (M' := M7) 2 rfl ?_
                        exact P_tried_190_t hd     (1) M7 r h
        · refine ev_ifc 43 rfl hR.1 (by decide) (fun q => absurd q hc) (fun _ => ?_)
          refine ev_k (pc' := 42) (ls' := [(3, .inl (v3)), (0, .inr (.inr (some 0))), (1, .inl (x1)), (2, .inl (x2))]) (st' := [.inl (v3)]) (nc' := 126) (np' := 138) (M' := M4) 1 rfl ?_
          cases h
          exact ev_ret rfl
      · refine ev_ifc 25 rfl hR.1 (by decide) (fun q => absurd q hc) (fun _ => ?_)
        exact P_tried_23_t hd      M2 r h
def J_fill_27_5    : Nat → Int → Int → Int → am_M → Option (am_M)
  | 0, _, _, _, _ => none
  | n + 1, x1, x2, x3, M => c_ge (x2) (x3)
       (some (M))
       (wa M 27 6 (x2) (x1) fun M1 => (J_fill_27_5    n (x1) ((x2) + (1)) (x3) M1))
def J_fill_27    (x1 : Int) (M : am_M) : Option (am_M) := (J_fill_27_5    am_big (x1) (0) (((6 : Nat) : Int)) M)
theorem J_fill_27_5_t {L : Nat} {xs : Nat → Int} {d : Nat} (hd : 0 ≤ d)     : ∀ (n : Nat) (x1 : Int) (x2 : Int) (x3 : Int) (M : am_M) (r : am_M), J_fill_27_5    n x1 x2 x3 M = some r → am_Ev L xs d me_2 5 [(0, .inr (.inr (some 27))), (1, .inl (x1)), (2, .inl (x2)), (3, .inl (x3))] [] 126 138 M (none, 126, 138, r)
  | 0, _, _, _, M, r, h => by cases h
  | n + 1, x1, x2, x3, M, r, h => by
    have ih := J_fill_27_5_t (L := L) (xs := xs) hd     n
    refine ev_k (pc' := 7) (ls' := [(0, .inr (.inr (some 27))), (1, .inl (x1)), (2, .inl (x2)), (3, .inl (x3))]) (st' := [.inl (x3), .inl (x2)]) (nc' := 126) (np' := 138) (M' := M) 2 rfl ?_
    obtain ⟨hR, ⟨hc, h⟩ | ⟨hc, h⟩⟩ := c_ge_i h
    · refine ev_icmp 20 rfl hR.1 hR.2 (by decide) (fun _ => ?_) (fun q => absurd hc q)
      refine ev_k (pc' := 20) (ls' := [(0, .inr (.inr (some 27))), (1, .inl (x1)), (2, .inl (x2)), (3, .inl (x3))]) (st' := []) (nc' := 126) (np' := 138) (M' := M) 0 rfl ?_
      cases h
      exact ev_ret rfl
    · refine ev_icmp 20 rfl hR.1 hR.2 (by decide) (fun q => absurd q hc) (fun _ => ?_)
      refine ev_k (pc' := 13) (ls' := [(0, .inr (.inr (some 27))), (1, .inl (x1)), (2, .inl (x2)), (3, .inl (x3))]) (st' := [.inl (x1), .inl (x2), .inr (.inr (some 27))]) (nc' := 126) (np' := 138) (M' := M) 3 rfl ?_
      obtain ⟨hc, M1, eM, h⟩ := wa_i h
      refine ev_iast (k := 27) rfl (by decide) rfl hc eM ?_
      refine ev_k (pc' := 5) (ls' := [(0, .inr (.inr (some 27))), (1, .inl (x1)), (2, .inl ((x2) + (1))), (3, .inl (x3))]) (st' := []) (nc' := 126) (np' := 138) (M' := M1) 2 rfl ?_
      exact ih (x1) ((x2) + (1)) (x3) M1 r h
theorem J_fill_27_e {L : Nat} {xs : Nat → Int} {d : Nat} (hd : 0 ≤ d)   (x1 : Int) (M : am_M) (r : am_M) (h : J_fill_27   x1 M = some r) : am_Ev L xs d me_2 0 (am_ar1 0 [.inr (.inr (some 27)), .inl (x1)]) [] 126 138 M (none, 126, 138, r) := by
  refine ev_k (pc' := 5) (ls' := [(0, .inr (.inr (some 27))), (1, .inl (x1)), (2, .inl (0)), (3, .inl (((6 : Nat) : Int)))]) (st' := []) (nc' := 126) (np' := 138) (M' := M) 5 rfl ?_
  exact J_fill_27_5_t hd     am_big (x1) (0) (((6 : Nat) : Int)) M r h
def Trip_restAll_26     (M : am_M) : Option (am_M) := ob (J_fill_27 (0) M) fun M1 => some (M1)
theorem Trip_restAll_26_e {L : Nat} {xs : Nat → Int} {d : Nat} (hd : 1 ≤ d)    (M : am_M) (r : am_M) (h : Trip_restAll_26    M = some r) : am_Ev L xs d me_114 0 (am_ar1 0 [.inr (.inr (some 26))]) [] 126 138 M (none, 126, 138, r) := by
  refine ev_k (pc' := 5) (ls' := [(0, .inr (.inr (some 26)))]) (st' := [.inl (0), .inr (.inr (some 27))]) (nc' := 126) (np' := 138) (M' := M) 3 rfl ?_
  obtain ⟨M1, hv, h⟩ := ob_i h
  refine ev_call (t := 2) (as := [.inr (.inr (some 27)), .inl (0)]) (rest := []) rfl rfl rfl (by omega) (J_fill_27_e (by omega) (0) M _ hv) ?_
  refine ev_k (pc' := 8) (ls' := [(0, .inr (.inr (some 26)))]) (st' := []) (nc' := 126) (np' := 138) (M' := M1) 0 rfl ?_
  cases h
  exact ev_ret rfl
def Law_growing_5    (x1 : Int) (x2 : Int) (x3 : Int) (x4 : Int) (M : am_M) : Option (Int × am_M) := ob (Law_say_5 (x1) (x2) (0) (0) (x3) (0) (x4) M) fun M1 => oc (Law_ask_5 (103) (20) M1) fun v2 M3 => some (v2, M3)
theorem Law_growing_5_e {L : Nat} {xs : Nat → Int} {d : Nat} (hd : 2 ≤ d)   (x1 : Int) (x2 : Int) (x3 : Int) (x4 : Int) (M : am_M) (r : Int × am_M) (h : Law_growing_5   x1 x2 x3 x4 M = some r) : am_Ev L xs d me_112 0 (am_ar1 0 [.inr (.inr (some 5)), .inl (x1), .inl (x2), .inl (x3), .inl (x4)]) [] 126 138 M (some (.inl r.1), 126, 138, r.2) := by
  refine ev_k (pc' := 9) (ls' := [(0, .inr (.inr (some 5))), (1, .inl (x1)), (2, .inl (x2)), (3, .inl (x3)), (4, .inl (x4))]) (st' := [.inl (x4), .inl (0), .inl (x3), .inl (0), .inl (0), .inl (x2), .inl (x1), .inr (.inr (some 5))]) (nc' := 126) (np' := 138) (M' := M) 8 rfl ?_
  obtain ⟨M1, hv, h⟩ := ob_i h
  refine ev_call (t := 84) (as := [.inr (.inr (some 5)), .inl (x1), .inl (x2), .inl (0), .inl (0), .inl (x3), .inl (0), .inl (x4)]) (rest := []) rfl rfl rfl (by omega) (Law_say_5_e (by omega) (x1) (x2) (0) (0) (x3) (0) (x4) M _ hv) ?_
  refine ev_k (pc' := 17) (ls' := [(0, .inr (.inr (some 5))), (1, .inl (x1)), (2, .inl (x2)), (3, .inl (x3)), (4, .inl (x4))]) (st' := [.inl (20), .inl (103), .inr (.inr (some 5))]) (nc' := 126) (np' := 138) (M' := M1) 3 rfl ?_
  obtain ⟨v2, M3, hv, h⟩ := oc_i h
  refine ev_call (t := 85) (as := [.inr (.inr (some 5)), .inl (103), .inl (20)]) (rest := []) rfl rfl rfl (by omega) (Law_ask_5_e (by omega) (103) (20) M1 _ hv) ?_
  refine ev_k (pc' := 20) (ls' := [(0, .inr (.inr (some 5))), (1, .inl (x1)), (2, .inl (x2)), (3, .inl (x3)), (4, .inl (x4))]) (st' := [.inl (v2)]) (nc' := 126) (np' := 138) (M' := M3) 0 rfl ?_
  cases h
  exact ev_ret rfl
def Overgrowth_gainOf_68_26_49     (M : am_M) : Option (Int × am_M) := some (0, M)
def Overgrowth_gainOf_68_26_99    (x6 : Int) (M : am_M) : Option (Int × am_M) := rd M 69 2800 (x6) fun v1 => ck (am_R (v1) ∧ am_R (32) ∧ ((32) : Int) ≠ 0) (tw (Int.tmod (v1) (32)) fun v2 => some (v2, M))
def Overgrowth_gainOf_68_26    (x2 : Int) (M : am_M) : Option (Int × am_M) := ob (Trip_kindAt_26 (x2) M) fun v1 => ob (Trip_widthAt_26 (x2) M) fun v2 => ob (Trip_grownAt_26 (x2) M) fun v3 => c_lt ((((((v1) * (4)) + (v2)) - (1)) * (100)) + (v3)) (0)
       (Overgrowth_gainOf_68_26_49     M)
       (c_lt ((((((v1) * (4)) + (v2)) - (1)) * (100)) + (v3)) (2800)
       (rd M 69 2800 ((((((v1) * (4)) + (v2)) - (1)) * (100)) + (v3)) fun v4 => ck (am_R (v4) ∧ am_R (32) ∧ ((32) : Int) ≠ 0) (tw (Int.tdiv (v4) (32)) fun v5 => c_eq (v5) (M 68 3)
       (Overgrowth_gainOf_68_26_99    ((((((v1) * (4)) + (v2)) - (1)) * (100)) + (v3)) M)
       (oc (Law_growing_5 (v1) (v2) (v3) (M 26 13) M) fun v6 M7 => wa M7 69 2800 ((((((v1) * (4)) + (v2)) - (1)) * (100)) + (v3)) (((32) * (M 68 3)) + (v6)) fun M8 => (Overgrowth_gainOf_68_26_99    ((((((v1) * (4)) + (v2)) - (1)) * (100)) + (v3)) M8))))
       (Overgrowth_gainOf_68_26_49     M))
theorem Overgrowth_gainOf_68_26_49_t {L : Nat} {xs : Nat → Int} {d : Nat} (hd : 3 ≤ d)      (M : am_M) (r : Int × am_M) (h : Overgrowth_gainOf_68_26_49     M = some r) : am_Ev L xs d me_111 49 [] [] 126 138 M (some (.inl r.1), 126, 138, r.2) := by
  refine ev_k (pc' := 50) (ls' := []) (st' := [.inl (0)]) (nc' := 126) (np' := 138) (M' := M) 1 rfl ?_
  cases h
  exact ev_ret rfl
theorem Overgrowth_gainOf_68_26_99_t {L : Nat} {xs : Nat → Int} {d : Nat} (hd : 3 ≤ d)     (x6 : Int) (M : am_M) (r : Int × am_M) (h : Overgrowth_gainOf_68_26_99    x6 M = some r) : am_Ev L xs d me_111 99 [(0, .inr (.inr (some 68))), (6, .inl (x6))] [] 126 138 M (some (.inl r.1), 126, 138, r.2) := by
  refine ev_k (pc' := 105) (ls' := [(0, .inr (.inr (some 68))), (6, .inl (x6))]) (st' := [.inl (x6), .inr (.inr (some 69))]) (nc' := 126) (np' := 138) (M' := M) 3 rfl ?_
  obtain ⟨hc, v1, ev, h⟩ := rd_i h
  refine ev_ald (k := 69) (t := 0) (Or.inl ⟨rfl, rfl⟩) rfl (by decide) (by decide) rfl hc ev ?_
  refine ev_k (pc' := 108) (ls' := [(0, .inr (.inr (some 68))), (6, .inl (x6))]) (st' := [.inl (32), .inl (v1)]) (nc' := 126) (np' := 138) (M' := M) 1 rfl ?_
  obtain ⟨hc, h⟩ := ck_i h
  obtain ⟨v2, ev, h⟩ := tw_i h
  refine ev_irem rfl hc ?_
  refine ev_k (pc' := 109) (ls' := [(0, .inr (.inr (some 68))), (6, .inl (x6))]) (st' := [.inl (Int.tmod (v1) (32))]) (nc' := 126) (np' := 138) (M' := M) 0 rfl ?_
  rw [← ev]
  refine ev_k (pc' := 109) (ls' := [(0, .inr (.inr (some 68))), (6, .inl (x6))]) (st' := [.inl (v2)]) (nc' := 126) (np' := 138) (M' := M) 0 rfl ?_
  cases h
  exact ev_ret rfl
theorem Overgrowth_gainOf_68_26_e {L : Nat} {xs : Nat → Int} {d : Nat} (hd : 3 ≤ d)   (x2 : Int) (M : am_M) (r : Int × am_M) (h : Overgrowth_gainOf_68_26   x2 M = some r) : am_Ev L xs d me_111 0 (am_ar1 0 [.inr (.inr (some 68)), .inr (.inr (some 26)), .inl (x2)]) [] 126 138 M (some (.inl r.1), 126, 138, r.2) := by
  refine ev_k (pc' := 2) (ls' := [(0, .inr (.inr (some 68))), (1, .inr (.inr (some 26))), (2, .inl (x2))]) (st' := [.inl (x2), .inr (.inr (some 26))]) (nc' := 126) (np' := 138) (M' := M) 2 rfl ?_
  obtain ⟨v1, hv, h⟩ := ob_i h
  refine ev_call (t := 99) (as := [.inr (.inr (some 26)), .inl (x2)]) (rest := []) rfl rfl rfl (by omega) (Trip_kindAt_26_e (by omega) (x2) M _ hv) ?_
  refine ev_k (pc' := 8) (ls' := [(3, .inl (v1)), (0, .inr (.inr (some 68))), (1, .inr (.inr (some 26))), (2, .inl (x2))]) (st' := [.inl (x2), .inr (.inr (some 26))]) (nc' := 126) (np' := 138) (M' := M) 3 rfl ?_
  obtain ⟨v2, hv, h⟩ := ob_i h
  refine ev_call (t := 100) (as := [.inr (.inr (some 26)), .inl (x2)]) (rest := []) rfl rfl rfl (by omega) (Trip_widthAt_26_e (by omega) (x2) M _ hv) ?_
  refine ev_k (pc' := 15) (ls' := [(4, .inl (v2)), (3, .inl (v1)), (0, .inr (.inr (some 68))), (1, .inr (.inr (some 26))), (2, .inl (x2))]) (st' := [.inl (x2), .inr (.inr (some 26))]) (nc' := 126) (np' := 138) (M' := M) 3 rfl ?_
  obtain ⟨v3, hv, h⟩ := ob_i h
  refine ev_call (t := 101) (as := [.inr (.inr (some 26)), .inl (x2)]) (rest := []) rfl rfl rfl (by omega) (Trip_grownAt_26_e (by omega) (x2) M _ hv) ?_
  refine ev_k (pc' := 38) (ls' := [(6, .inl ((((((v1) * (4)) + (v2)) - (1)) * (100)) + (v3))), (5, .inl (v3)), (4, .inl (v2)), (3, .inl (v1)), (0, .inr (.inr (some 68))), (1, .inr (.inr (some 26))), (2, .inl (x2))]) (st' := [.inl ((((((v1) * (4)) + (v2)) - (1)) * (100)) + (v3))]) (nc' := 126) (np' := 138) (M' := M) 14 rfl ?_
  obtain ⟨hR, ⟨hc, h⟩ | ⟨hc, h⟩⟩ := c_lt_i h
  · refine ev_ifc 49 rfl hR.1 (by decide) (fun _ => ?_) (fun q => absurd hc q)
    exact Overgrowth_gainOf_68_26_49_t hd      M r h
  · refine ev_ifc 49 rfl hR.1 (by decide) (fun q => absurd q hc) (fun _ => ?_)
    refine ev_k (pc' := 46) (ls' := [(6, .inl ((((((v1) * (4)) + (v2)) - (1)) * (100)) + (v3))), (5, .inl (v3)), (4, .inl (v2)), (3, .inl (v1)), (0, .inr (.inr (some 68))), (1, .inr (.inr (some 26))), (2, .inl (x2))]) (st' := [.inl (2800), .inl ((((((v1) * (4)) + (v2)) - (1)) * (100)) + (v3))]) (nc' := 126) (np' := 138) (M' := M) 2 rfl ?_
    obtain ⟨hR, ⟨hc, h⟩ | ⟨hc, h⟩⟩ := c_lt_i h
    · refine ev_icmp 51 rfl hR.1 hR.2 (by decide) (fun _ => ?_) (fun q => absurd hc q)
      refine ev_k (pc' := 57) (ls' := [(6, .inl ((((((v1) * (4)) + (v2)) - (1)) * (100)) + (v3))), (5, .inl (v3)), (4, .inl (v2)), (3, .inl (v1)), (0, .inr (.inr (some 68))), (1, .inr (.inr (some 26))), (2, .inl (x2))]) (st' := [.inl ((((((v1) * (4)) + (v2)) - (1)) * (100)) + (v3)), .inr (.inr (some 69))]) (nc' := 126) (np' := 138) (M' := M) 3 rfl ?_
      obtain ⟨hc, v4, ev, h⟩ := rd_i h
      refine ev_ald (k := 69) (t := 0) (Or.inl ⟨rfl, rfl⟩) rfl (by decide) (by decide) rfl hc ev ?_
      refine ev_k (pc' := 60) (ls' := [(6, .inl ((((((v1) * (4)) + (v2)) - (1)) * (100)) + (v3))), (5, .inl (v3)), (4, .inl (v2)), (3, .inl (v1)), (0, .inr (.inr (some 68))), (1, .inr (.inr (some 26))), (2, .inl (x2))]) (st' := [.inl (32), .inl (v4)]) (nc' := 126) (np' := 138) (M' := M) 1 rfl ?_
      obtain ⟨hc, h⟩ := ck_i h
      obtain ⟨v5, ev, h⟩ := tw_i h
      refine ev_idiv rfl hc ?_
      refine ev_k (pc' := 61) (ls' := [(6, .inl ((((((v1) * (4)) + (v2)) - (1)) * (100)) + (v3))), (5, .inl (v3)), (4, .inl (v2)), (3, .inl (v1)), (0, .inr (.inr (some 68))), (1, .inr (.inr (some 26))), (2, .inl (x2))]) (st' := [.inl (Int.tdiv (v4) (32))]) (nc' := 126) (np' := 138) (M' := M) 0 rfl ?_
      rw [← ev]
      refine ev_k (pc' := 65) (ls' := [(6, .inl ((((((v1) * (4)) + (v2)) - (1)) * (100)) + (v3))), (5, .inl (v3)), (4, .inl (v2)), (3, .inl (v1)), (0, .inr (.inr (some 68))), (1, .inr (.inr (some 26))), (2, .inl (x2))]) (st' := [.inl (M 68 3), .inl (v5)]) (nc' := 126) (np' := 138) (M' := M) 2 rfl ?_
      obtain ⟨hR, ⟨hc, h⟩ | ⟨hc, h⟩⟩ := c_eq_i h
      · refine ev_icmp 99 rfl hR.1 hR.2 (by decide) (fun _ => ?_) (fun q => absurd hc q)
        exact Overgrowth_gainOf_68_26_99_t hd     ((((((v1) * (4)) + (v2)) - (1)) * (100)) + (v3)) M r h
      · refine ev_icmp 99 rfl hR.1 hR.2 (by decide) (fun q => absurd q hc) (fun _ => ?_)
        refine ev_k (pc' := 94) (ls' := [(6, .inl ((((((v1) * (4)) + (v2)) - (1)) * (100)) + (v3))), (5, .inl (v3)), (4, .inl (v2)), (3, .inl (v1)), (0, .inr (.inr (some 68))), (1, .inr (.inr (some 26))), (2, .inl (x2))]) (st' := [.inl (M 26 13), .inl (v3), .inl (v2), .inl (v1), .inr (.inr (some 5)), .inl ((32) * (M 68 3)), .inl ((((((v1) * (4)) + (v2)) - (1)) * (100)) + (v3)), .inr (.inr (some 69))]) (nc' := 126) (np' := 138) (M' := M) 14 rfl ?_
        obtain ⟨v6, M7, hv, h⟩ := oc_i h
        refine ev_call (t := 112) (as := [.inr (.inr (some 5)), .inl (v1), .inl (v2), .inl (v3), .inl (M 26 13)]) (rest := [.inl ((32) * (M 68 3)), .inl ((((((v1) * (4)) + (v2)) - (1)) * (100)) + (v3)), .inr (.inr (some 69))]) rfl rfl rfl (by omega) (Law_growing_5_e (by omega) (v1) (v2) (v3) (M 26 13) M _ hv) ?_
        refine ev_k (pc' := 98) (ls' := [(6, .inl ((((((v1) * (4)) + (v2)) - (1)) * (100)) + (v3))), (5, .inl (v3)), (4, .inl (v2)), (3, .inl (v1)), (0, .inr (.inr (some 68))), (1, .inr (.inr (some 26))), (2, .inl (x2))]) (st' := [.inl (((32) * (M 68 3)) + (v6)), .inl ((((((v1) * (4)) + (v2)) - (1)) * (100)) + (v3)), .inr (.inr (some 69))]) (nc' := 126) (np' := 138) (M' := M7) 1 rfl ?_
        obtain ⟨hc, M8, eM, h⟩ := wa_i h
        refine ev_iast (k := 69) rfl (by decide) rfl hc eM ?_
        exact Overgrowth_gainOf_68_26_99_t hd     ((((((v1) * (4)) + (v2)) - (1)) * (100)) + (v3)) M8 r h
    · refine ev_icmp 51 rfl hR.1 hR.2 (by decide) (fun q => absurd q hc) (fun _ => ?_)
      exact Overgrowth_gainOf_68_26_49_t hd      M r h
def Trip_setGrown_26_15     (M : am_M) : Option (am_M) := some (M)
def Trip_setGrown_26    (x1 : Int) (x2 : Int) (M : am_M) : Option (am_M) := ob (Trip_isPlace_26 (x1) M) fun v1 => c_eq (v1) (0)
       (Trip_setGrown_26_15     M)
       (wa M 30 100 (x1) (x2) fun M2 => (Trip_setGrown_26_15     M2))
theorem Trip_setGrown_26_15_t {L : Nat} {xs : Nat → Int} {d : Nat} (hd : 1 ≤ d)      (M : am_M) (r : am_M) (h : Trip_setGrown_26_15     M = some r) : am_Ev L xs d me_113 15 [] [] 126 138 M (none, 126, 138, r) := by
  refine ev_k (pc' := 15) (ls' := []) (st' := []) (nc' := 126) (np' := 138) (M' := M) 0 rfl ?_
  cases h
  exact ev_ret rfl
theorem Trip_setGrown_26_e {L : Nat} {xs : Nat → Int} {d : Nat} (hd : 1 ≤ d)   (x1 : Int) (x2 : Int) (M : am_M) (r : am_M) (h : Trip_setGrown_26   x1 x2 M = some r) : am_Ev L xs d me_113 0 (am_ar1 0 [.inr (.inr (some 26)), .inl (x1), .inl (x2)]) [] 126 138 M (none, 126, 138, r) := by
  refine ev_k (pc' := 2) (ls' := [(0, .inr (.inr (some 26))), (1, .inl (x1)), (2, .inl (x2))]) (st' := [.inl (x1), .inr (.inr (some 26))]) (nc' := 126) (np' := 138) (M' := M) 2 rfl ?_
  obtain ⟨v1, hv, h⟩ := ob_i h
  refine ev_call (t := 32) (as := [.inr (.inr (some 26)), .inl (x1)]) (rest := []) rfl rfl rfl (by omega) (Trip_isPlace_26_e (by omega) (x1) M _ hv) ?_
  refine ev_k (pc' := 5) (ls' := [(0, .inr (.inr (some 26))), (1, .inl (x1)), (2, .inl (x2))]) (st' := [.inl (v1)]) (nc' := 126) (np' := 138) (M' := M) 0 rfl ?_
  obtain ⟨hR, ⟨hc, h⟩ | ⟨hc, h⟩⟩ := c_eq_i h
  · refine ev_ifc 15 rfl hR.1 (by decide) (fun _ => ?_) (fun q => absurd hc q)
    exact Trip_setGrown_26_15_t hd      M r h
  · refine ev_ifc 15 rfl hR.1 (by decide) (fun q => absurd q hc) (fun _ => ?_)
    refine ev_k (pc' := 14) (ls' := [(0, .inr (.inr (some 26))), (1, .inl (x1)), (2, .inl (x2))]) (st' := [.inl (x2), .inl (x1), .inr (.inr (some 30))]) (nc' := 126) (np' := 138) (M' := M) 4 rfl ?_
    obtain ⟨hc, M2, eM, h⟩ := wa_i h
    refine ev_iast (k := 30) rfl (by decide) rfl hc eM ?_
    exact Trip_setGrown_26_15_t hd      M2 r h
def Overgrowth_passDays_68_26_34   (k5 : Int → Int → Int → am_M → Option (Int × am_M)) : Nat → Int → Int → Int → Int → am_M → Option (Int × am_M)
  | 0, _, _, _, _, _ => none
  | n + 1, x2, x3, x4, x5, M => c_ge (x5) (M 26 10)
       (fw M 26 12 (0) fun M1 => ob (Trip_restAll_26  M1) fun M2 => fw M2 26 13 ((M2 26 13) + (1)) fun M3 => (k5 (x2) (x3) ((x4) + (1)) M3))
       (ob (Trip_grownAt_26 (x5) M) fun v4 => oc (Overgrowth_gainOf_68_26 (x5) M) fun v5 M6 => ob (J_min (99) ((v4) + (v5)) M6) fun v7 => ob (Trip_setGrown_26 (x5) (v7) M6) fun M8 => (Overgrowth_passDays_68_26_34   k5 n (x2) ((x3) + ((v7) - (v4))) (x4) ((x5) + (1)) M8))
def Overgrowth_passDays_68_26_115    (x3 : Int) (M : am_M) : Option (Int × am_M) := some (x3, M)
def Overgrowth_passDays_68_26_5    : Nat → Int → Int → Int → am_M → Option (Int × am_M)
  | 0, _, _, _, _ => none
  | n + 1, x2, x3, x4, M => c_ge (x4) (x2)
       (Overgrowth_passDays_68_26_115    (x3) M)
       (c_ge (M 26 13) (9999)
       (Overgrowth_passDays_68_26_115    (x3) M)
       (fw M 68 3 ((M 68 3) + (1)) fun M1 => (Overgrowth_passDays_68_26_34   (Overgrowth_passDays_68_26_5    n) am_big (x2) (x3) (x4) (0) M1)))
def Overgrowth_passDays_68_26    (x2 : Int) (M : am_M) : Option (Int × am_M) := (Overgrowth_passDays_68_26_5    am_big (x2) (0) (0) M)
theorem Overgrowth_passDays_68_26_34_t {L : Nat} {xs : Nat → Int} {d : Nat} (hd : 4 ≤ d)   (k5 : Int → Int → Int → am_M → Option (Int × am_M)) (hk5 : ∀ (x2 : Int) (x3 : Int) (x4 : Int) (M : am_M) (r : Int × am_M), k5 x2 x3 x4 M = some r → am_Ev L xs d me_110 5 [(0, .inr (.inr (some 68))), (1, .inr (.inr (some 26))), (2, .inl (x2)), (3, .inl (x3)), (4, .inl (x4))] [] 126 138 M (some (.inl r.1), 126, 138, r.2)) : ∀ (n : Nat) (x2 : Int) (x3 : Int) (x4 : Int) (x5 : Int) (M : am_M) (r : Int × am_M), Overgrowth_passDays_68_26_34   k5 n x2 x3 x4 x5 M = some r → am_Ev L xs d me_110 34 [(0, .inr (.inr (some 68))), (1, .inr (.inr (some 26))), (2, .inl (x2)), (3, .inl (x3)), (4, .inl (x4)), (5, .inl (x5))] [] 126 138 M (some (.inl r.1), 126, 138, r.2)
  | 0, _, _, _, _, M, r, h => by cases h
  | n + 1, x2, x3, x4, x5, M, r, h => by
    have ih := Overgrowth_passDays_68_26_34_t (L := L) (xs := xs) hd   k5 hk5 n
    refine ev_k (pc' := 40) (ls' := [(0, .inr (.inr (some 68))), (1, .inr (.inr (some 26))), (2, .inl (x2)), (3, .inl (x3)), (4, .inl (x4)), (5, .inl (x5))]) (st' := [.inl (M 26 10), .inl (x5)]) (nc' := 126) (np' := 138) (M' := M) 3 rfl ?_
    obtain ⟨hR, ⟨hc, h⟩ | ⟨hc, h⟩⟩ := c_ge_i h
    · refine ev_icmp 90 rfl hR.1 hR.2 (by decide) (fun _ => ?_) (fun q => absurd hc q)
      refine ev_k (pc' := 95) (ls' := [(0, .inr (.inr (some 68))), (1, .inr (.inr (some 26))), (2, .inl (x2)), (3, .inl (x3)), (4, .inl (x4)), (5, .inl (x5))]) (st' := []) (nc' := 126) (np' := 138) (M' := am_up M 26 12 (0)) 3 rfl ?_
      obtain ⟨M1, eM, h⟩ := fw_i h
      rw [← eM]
      refine ev_k (pc' := 96) (ls' := [(0, .inr (.inr (some 68))), (1, .inr (.inr (some 26))), (2, .inl (x2)), (3, .inl (x3)), (4, .inl (x4)), (5, .inl (x5))]) (st' := [.inr (.inr (some 26))]) (nc' := 126) (np' := 138) (M' := M1) 1 rfl ?_
      obtain ⟨M2, hv, h⟩ := ob_i h
      refine ev_call (t := 114) (as := [.inr (.inr (some 26))]) (rest := []) rfl rfl rfl (by omega) (Trip_restAll_26_e (by omega)  M1 _ hv) ?_
      refine ev_k (pc' := 109) (ls' := [(0, .inr (.inr (some 68))), (1, .inr (.inr (some 26))), (2, .inl (x2)), (3, .inl (x3)), (4, .inl (x4)), (5, .inl (x5))]) (st' := []) (nc' := 126) (np' := 138) (M' := am_up M2 26 13 ((M2 26 13) + (1))) 6 rfl ?_
      obtain ⟨M3, eM, h⟩ := fw_i h
      rw [← eM]
      refine ev_k (pc' := 5) (ls' := [(0, .inr (.inr (some 68))), (1, .inr (.inr (some 26))), (2, .inl (x2)), (3, .inl (x3)), (4, .inl ((x4) + (1)))]) (st' := []) (nc' := 126) (np' := 138) (M' := M3) 2 rfl ?_
      exact hk5 (x2) (x3) ((x4) + (1)) M3 r h
    · refine ev_icmp 90 rfl hR.1 hR.2 (by decide) (fun q => absurd q hc) (fun _ => ?_)
      refine ev_k (pc' := 46) (ls' := [(0, .inr (.inr (some 68))), (1, .inr (.inr (some 26))), (2, .inl (x2)), (3, .inl (x3)), (4, .inl (x4)), (5, .inl (x5))]) (st' := [.inl (x5), .inr (.inr (some 26))]) (nc' := 126) (np' := 138) (M' := M) 2 rfl ?_
      obtain ⟨v4, hv, h⟩ := ob_i h
      refine ev_call (t := 101) (as := [.inr (.inr (some 26)), .inl (x5)]) (rest := []) rfl rfl rfl (by omega) (Trip_grownAt_26_e (by omega) (x5) M _ hv) ?_
      refine ev_k (pc' := 59) (ls' := [(6, .inl (v4)), (0, .inr (.inr (some 68))), (1, .inr (.inr (some 26))), (2, .inl (x2)), (3, .inl (x3)), (4, .inl (x4)), (5, .inl (x5))]) (st' := [.inl (x5), .inr (.inr (some 26)), .inr (.inr (some 68)), .inl (v4), .inl (99)]) (nc' := 126) (np' := 138) (M' := M) 6 rfl ?_
      obtain ⟨v5, M6, hv, h⟩ := oc_i h
      refine ev_call (t := 111) (as := [.inr (.inr (some 68)), .inr (.inr (some 26)), .inl (x5)]) (rest := [.inl (v4), .inl (99)]) rfl rfl rfl (by omega) (Overgrowth_gainOf_68_26_e (by omega) (x5) M _ hv) ?_
      refine ev_k (pc' := 63) (ls' := [(6, .inl (v4)), (0, .inr (.inr (some 68))), (1, .inr (.inr (some 26))), (2, .inl (x2)), (3, .inl (x3)), (4, .inl (x4)), (5, .inl (x5))]) (st' := [.inl ((v4) + (v5)), .inl (99)]) (nc' := 126) (np' := 138) (M' := M6) 1 rfl ?_
      obtain ⟨v7, hv, h⟩ := ob_i h
      refine ev_call (t := 60) (as := [.inl (99), .inl ((v4) + (v5))]) (rest := []) rfl rfl rfl (by omega) (J_min_e (by omega) (99) ((v4) + (v5)) M6 _ hv) ?_
      refine ev_k (pc' := 73) (ls' := [(7, .inl (v7)), (6, .inl (v4)), (0, .inr (.inr (some 68))), (1, .inr (.inr (some 26))), (2, .inl (x2)), (3, .inl (x3)), (4, .inl (x4)), (5, .inl (x5))]) (st' := [.inl (v7), .inl (x5), .inr (.inr (some 26))]) (nc' := 126) (np' := 138) (M' := M6) 4 rfl ?_
      obtain ⟨M8, hv, h⟩ := ob_i h
      refine ev_call (t := 113) (as := [.inr (.inr (some 26)), .inl (x5), .inl (v7)]) (rest := []) rfl rfl rfl (by omega) (Trip_setGrown_26_e (by omega) (x5) (v7) M6 _ hv) ?_
      refine ev_k (pc' := 34) (ls' := [(0, .inr (.inr (some 68))), (1, .inr (.inr (some 26))), (2, .inl (x2)), (3, .inl ((x3) + ((v7) - (v4)))), (4, .inl (x4)), (5, .inl ((x5) + (1)))]) (st' := []) (nc' := 126) (np' := 138) (M' := M8) 8 rfl ?_
      exact ih (x2) ((x3) + ((v7) - (v4))) (x4) ((x5) + (1)) M8 r h
theorem Overgrowth_passDays_68_26_115_t {L : Nat} {xs : Nat → Int} {d : Nat} (hd : 4 ≤ d)     (x3 : Int) (M : am_M) (r : Int × am_M) (h : Overgrowth_passDays_68_26_115    x3 M = some r) : am_Ev L xs d me_110 115 [(3, .inl (x3))] [] 126 138 M (some (.inl r.1), 126, 138, r.2) := by
  refine ev_k (pc' := 116) (ls' := [(3, .inl (x3))]) (st' := [.inl (x3)]) (nc' := 126) (np' := 138) (M' := M) 1 rfl ?_
  cases h
  exact ev_ret rfl
theorem Overgrowth_passDays_68_26_5_t {L : Nat} {xs : Nat → Int} {d : Nat} (hd : 4 ≤ d)     : ∀ (n : Nat) (x2 : Int) (x3 : Int) (x4 : Int) (M : am_M) (r : Int × am_M), Overgrowth_passDays_68_26_5    n x2 x3 x4 M = some r → am_Ev L xs d me_110 5 [(0, .inr (.inr (some 68))), (1, .inr (.inr (some 26))), (2, .inl (x2)), (3, .inl (x3)), (4, .inl (x4))] [] 126 138 M (some (.inl r.1), 126, 138, r.2)
  | 0, _, _, _, M, r, h => by cases h
  | n + 1, x2, x3, x4, M, r, h => by
    have ih := Overgrowth_passDays_68_26_5_t (L := L) (xs := xs) hd     n
    refine ev_k (pc' := 8) (ls' := [(0, .inr (.inr (some 68))), (1, .inr (.inr (some 26))), (2, .inl (x2)), (3, .inl (x3)), (4, .inl (x4))]) (st' := [.inl (x2), .inl (x4)]) (nc' := 126) (np' := 138) (M' := M) 2 rfl ?_
    obtain ⟨hR, ⟨hc, h⟩ | ⟨hc, h⟩⟩ := c_ge_i h
    · refine ev_icmp 115 rfl hR.1 hR.2 (by decide) (fun _ => ?_) (fun q => absurd hc q)
      exact Overgrowth_passDays_68_26_115_t hd     (x3) M r h
    · refine ev_icmp 115 rfl hR.1 hR.2 (by decide) (fun q => absurd q hc) (fun _ => ?_)
      refine ev_k (pc' := 18) (ls' := [(0, .inr (.inr (some 68))), (1, .inr (.inr (some 26))), (2, .inl (x2)), (3, .inl (x3)), (4, .inl (x4))]) (st' := [.inl (9999), .inl (M 26 13)]) (nc' := 126) (np' := 138) (M' := M) 3 rfl ?_
      obtain ⟨hR, ⟨hc, h⟩ | ⟨hc, h⟩⟩ := c_ge_i h
      · refine ev_icmp 115 rfl hR.1 hR.2 (by decide) (fun _ => ?_) (fun q => absurd hc q)
        exact Overgrowth_passDays_68_26_115_t hd     (x3) M r h
      · refine ev_icmp 115 rfl hR.1 hR.2 (by decide) (fun q => absurd q hc) (fun _ => ?_)
        refine ev_k (pc' := 31) (ls' := [(0, .inr (.inr (some 68))), (1, .inr (.inr (some 26))), (2, .inl (x2)), (3, .inl (x3)), (4, .inl (x4))]) (st' := []) (nc' := 126) (np' := 138) (M' := am_up M 68 3 ((M 68 3) + (1))) 6 rfl ?_
        obtain ⟨M1, eM, h⟩ := fw_i h
        rw [← eM]
        refine ev_k (pc' := 34) (ls' := [(0, .inr (.inr (some 68))), (1, .inr (.inr (some 26))), (2, .inl (x2)), (3, .inl (x3)), (4, .inl (x4)), (5, .inl (0))]) (st' := []) (nc' := 126) (np' := 138) (M' := M1) 2 rfl ?_
        exact Overgrowth_passDays_68_26_34_t hd   (Overgrowth_passDays_68_26_5    n) ih am_big (x2) (x3) (x4) (0) M1 r h
theorem Overgrowth_passDays_68_26_e {L : Nat} {xs : Nat → Int} {d : Nat} (hd : 4 ≤ d)   (x2 : Int) (M : am_M) (r : Int × am_M) (h : Overgrowth_passDays_68_26   x2 M = some r) : am_Ev L xs d me_110 0 (am_ar1 0 [.inr (.inr (some 68)), .inr (.inr (some 26)), .inl (x2)]) [] 126 138 M (some (.inl r.1), 126, 138, r.2) := by
  refine ev_k (pc' := 5) (ls' := [(0, .inr (.inr (some 68))), (1, .inr (.inr (some 26))), (2, .inl (x2)), (3, .inl (0)), (4, .inl (0))]) (st' := []) (nc' := 126) (np' := 138) (M' := M) 4 rfl ?_
  exact Overgrowth_passDays_68_26_5_t hd     am_big (x2) (0) (0) M r h
def P_days_11     (M : am_M) : Option (Int × am_M) := some (-1, M)
def P_days    (x1 : Int) (M : am_M) : Option (Int × am_M) := c_lt (x1) (1)
       (P_days_11     M)
       (c_le (x1) (60)
       (oc (Overgrowth_passDays_68_26 (x1) M) fun v1 M2 => some (v1, M2))
       (P_days_11     M))
theorem P_days_11_t {L : Nat} {xs : Nat → Int} {d : Nat} (hd : 5 ≤ d)      (M : am_M) (r : Int × am_M) (h : P_days_11     M = some r) : am_Ev L xs d me_109 11 [] [] 126 138 M (some (.inl r.1), 126, 138, r.2) := by
  refine ev_k (pc' := 12) (ls' := []) (st' := [.inl (-1)]) (nc' := 126) (np' := 138) (M' := M) 1 rfl ?_
  cases h
  exact ev_ret rfl
theorem P_days_e {L : Nat} {xs : Nat → Int} {d : Nat} (hd : 5 ≤ d)   (x1 : Int) (M : am_M) (r : Int × am_M) (h : P_days   x1 M = some r) : am_Ev L xs d me_109 0 (am_ar1 0 [.inr (.inr (some 0)), .inl (x1)]) [] 126 138 M (some (.inl r.1), 126, 138, r.2) := by
  refine ev_k (pc' := 2) (ls' := [(0, .inr (.inr (some 0))), (1, .inl (x1))]) (st' := [.inl (1), .inl (x1)]) (nc' := 126) (np' := 138) (M' := M) 2 rfl ?_
  obtain ⟨hR, ⟨hc, h⟩ | ⟨hc, h⟩⟩ := c_lt_i h
  · refine ev_icmp 11 rfl hR.1 hR.2 (by decide) (fun _ => ?_) (fun q => absurd hc q)
    exact P_days_11_t hd      M r h
  · refine ev_icmp 11 rfl hR.1 hR.2 (by decide) (fun q => absurd q hc) (fun _ => ?_)
    refine ev_k (pc' := 8) (ls' := [(0, .inr (.inr (some 0))), (1, .inl (x1))]) (st' := [.inl (60), .inl (x1)]) (nc' := 126) (np' := 138) (M' := M) 2 rfl ?_
    obtain ⟨hR, ⟨hc, h⟩ | ⟨hc, h⟩⟩ := c_le_i h
    · refine ev_icmp 13 rfl hR.1 hR.2 (by decide) (fun _ => ?_) (fun q => absurd hc q)
      refine ev_k (pc' := 22) (ls' := [(0, .inr (.inr (some 0))), (1, .inl (x1))]) (st' := [.inl (x1), .inr (.inr (some 26)), .inr (.inr (some 68))]) (nc' := 126) (np' := 138) (M' := M) 5 rfl ?_
      obtain ⟨v1, M2, hv, h⟩ := oc_i h
      refine ev_call (t := 110) (as := [.inr (.inr (some 68)), .inr (.inr (some 26)), .inl (x1)]) (rest := []) rfl rfl rfl (by omega) (Overgrowth_passDays_68_26_e (by omega) (x1) M _ hv) ?_
      refine ev_k (pc' := 25) (ls' := [(0, .inr (.inr (some 0))), (1, .inl (x1))]) (st' := [.inl (v1)]) (nc' := 126) (np' := 138) (M' := M2) 0 rfl ?_
      cases h
      exact ev_ret rfl
    · refine ev_icmp 13 rfl hR.1 hR.2 (by decide) (fun q => absurd q hc) (fun _ => ?_)
      exact P_days_11_t hd      M r h
def Trip_minutesBack_26_9    : Nat → Int → Int → am_M → Option (Int × am_M)
  | 0, _, _, _ => none
  | n + 1, x1, x2, M => c_lt (x2) (0)
       (some (x1, M))
       (oc (Trip_minutesOnto_26 (x2) (2) M) fun v1 M2 => (Trip_minutesBack_26_9    n ((x1) + (v1)) ((x2) + (-1)) M2))
def Trip_minutesBack_26     (M : am_M) : Option (Int × am_M) := (Trip_minutesBack_26_9    am_big (0) ((M 26 11) - (1)) M)
theorem Trip_minutesBack_26_9_t {L : Nat} {xs : Nat → Int} {d : Nat} (hd : 4 ≤ d)     : ∀ (n : Nat) (x1 : Int) (x2 : Int) (M : am_M) (r : Int × am_M), Trip_minutesBack_26_9    n x1 x2 M = some r → am_Ev L xs d me_116 9 [(0, .inr (.inr (some 26))), (1, .inl (x1)), (2, .inl (x2))] [] 126 138 M (some (.inl r.1), 126, 138, r.2)
  | 0, _, _, M, r, h => by cases h
  | n + 1, x1, x2, M, r, h => by
    have ih := Trip_minutesBack_26_9_t (L := L) (xs := xs) hd     n
    refine ev_k (pc' := 10) (ls' := [(0, .inr (.inr (some 26))), (1, .inl (x1)), (2, .inl (x2))]) (st' := [.inl (x2)]) (nc' := 126) (np' := 138) (M' := M) 1 rfl ?_
    obtain ⟨hR, ⟨hc, h⟩ | ⟨hc, h⟩⟩ := c_lt_i h
    · refine ev_ifc 28 rfl hR.1 (by decide) (fun _ => ?_) (fun q => absurd hc q)
      refine ev_k (pc' := 29) (ls' := [(0, .inr (.inr (some 26))), (1, .inl (x1)), (2, .inl (x2))]) (st' := [.inl (x1)]) (nc' := 126) (np' := 138) (M' := M) 1 rfl ?_
      cases h
      exact ev_ret rfl
    · refine ev_ifc 28 rfl hR.1 (by decide) (fun q => absurd q hc) (fun _ => ?_)
      refine ev_k (pc' := 17) (ls' := [(0, .inr (.inr (some 26))), (1, .inl (x1)), (2, .inl (x2))]) (st' := [.inl (2), .inl (x2), .inr (.inr (some 26)), .inl (x1)]) (nc' := 126) (np' := 138) (M' := M) 4 rfl ?_
      obtain ⟨v1, M2, hv, h⟩ := oc_i h
      refine ev_call (t := 98) (as := [.inr (.inr (some 26)), .inl (x2), .inl (2)]) (rest := [.inl (x1)]) rfl rfl rfl (by omega) (Trip_minutesOnto_26_e (by omega) (x2) (2) M _ hv) ?_
      refine ev_k (pc' := 9) (ls' := [(0, .inr (.inr (some 26))), (1, .inl ((x1) + (v1))), (2, .inl ((x2) + (-1)))]) (st' := []) (nc' := 126) (np' := 138) (M' := M2) 4 rfl ?_
      exact ih ((x1) + (v1)) ((x2) + (-1)) M2 r h
theorem Trip_minutesBack_26_e {L : Nat} {xs : Nat → Int} {d : Nat} (hd : 4 ≤ d)    (M : am_M) (r : Int × am_M) (h : Trip_minutesBack_26    M = some r) : am_Ev L xs d me_116 0 (am_ar1 0 [.inr (.inr (some 26))]) [] 126 138 M (some (.inl r.1), 126, 138, r.2) := by
  refine ev_k (pc' := 9) (ls' := [(0, .inr (.inr (some 26))), (1, .inl (0)), (2, .inl ((M 26 11) - (1)))]) (st' := []) (nc' := 126) (np' := 138) (M' := M) 7 rfl ?_
  exact Trip_minutesBack_26_9_t hd     am_big (0) ((M 26 11) - (1)) M r h
def Country_looksLikeWay_1_26    (s0 : Int) (M : am_M) : Option (Int) := ck ((s0) = 0 ∨ (s0) = 1) (some (s0))
def Country_looksLikeWay_1_25     (M : am_M) : Option (Int) := (Country_looksLikeWay_1_26    (0) M)
def Country_looksLikeWay_1    (x1 : Int) (M : am_M) : Option (Int) := ob (Country_kindAt_1 (x1) M) fun v1 => c_eq (v1) (1)
       (Country_looksLikeWay_1_25     M)
       (c_eq (v1) (2)
       (Country_looksLikeWay_1_25     M)
       (c_eq (v1) (3)
       (Country_looksLikeWay_1_25     M)
       ((Country_looksLikeWay_1_26    (1) M))))
theorem Country_looksLikeWay_1_26_t {L : Nat} {xs : Nat → Int} {d : Nat} (hd : 1 ≤ d)     (s0 : Int) (M : am_M) (r : Int) (h : Country_looksLikeWay_1_26    s0 M = some r) : am_Ev L xs d me_119 26 [] [.inl (s0)] 126 138 M (some (.inl r), 126, 138, M) := by
  refine ev_k (pc' := 26) (ls' := []) (st' := [.inl (s0)]) (nc' := 126) (np' := 138) (M' := M) 0 rfl ?_
  obtain ⟨hc, h⟩ := ck_i h
  cases h
  exact ev_retz rfl rfl hc
theorem Country_looksLikeWay_1_25_t {L : Nat} {xs : Nat → Int} {d : Nat} (hd : 1 ≤ d)      (M : am_M) (r : Int) (h : Country_looksLikeWay_1_25     M = some r) : am_Ev L xs d me_119 25 [] [] 126 138 M (some (.inl r), 126, 138, M) := by
  refine ev_k (pc' := 26) (ls' := []) (st' := [.inl (0)]) (nc' := 126) (np' := 138) (M' := M) 1 rfl ?_
  exact Country_looksLikeWay_1_26_t hd     (0) M r h
theorem Country_looksLikeWay_1_e {L : Nat} {xs : Nat → Int} {d : Nat} (hd : 1 ≤ d)   (x1 : Int) (M : am_M) (r : Int) (h : Country_looksLikeWay_1   x1 M = some r) : am_Ev L xs d me_119 0 (am_ar1 0 [.inr (.inr (some 1)), .inl (x1)]) [] 126 138 M (some (.inl r), 126, 138, M) := by
  refine ev_k (pc' := 2) (ls' := [(0, .inr (.inr (some 1))), (1, .inl (x1))]) (st' := [.inl (x1), .inr (.inr (some 1))]) (nc' := 126) (np' := 138) (M' := M) 2 rfl ?_
  obtain ⟨v1, hv, h⟩ := ob_i h
  refine ev_call (t := 56) (as := [.inr (.inr (some 1)), .inl (x1)]) (rest := []) rfl rfl rfl (by omega) (Country_kindAt_1_e (by omega) (x1) M _ hv) ?_
  refine ev_k (pc' := 8) (ls' := [(2, .inl (v1)), (0, .inr (.inr (some 1))), (1, .inl (x1))]) (st' := [.inl (1), .inl (v1)]) (nc' := 126) (np' := 138) (M' := M) 3 rfl ?_
  obtain ⟨hR, ⟨hc, h⟩ | ⟨hc, h⟩⟩ := c_eq_i h
  · refine ev_icmp 25 rfl hR.1 hR.2 (by decide) (fun _ => ?_) (fun q => absurd hc q)
    exact Country_looksLikeWay_1_25_t hd      M r h
  · refine ev_icmp 25 rfl hR.1 hR.2 (by decide) (fun q => absurd q hc) (fun _ => ?_)
    refine ev_k (pc' := 13) (ls' := [(2, .inl (v1)), (0, .inr (.inr (some 1))), (1, .inl (x1))]) (st' := [.inl (2), .inl (v1)]) (nc' := 126) (np' := 138) (M' := M) 2 rfl ?_
    obtain ⟨hR, ⟨hc, h⟩ | ⟨hc, h⟩⟩ := c_eq_i h
    · refine ev_icmp 25 rfl hR.1 hR.2 (by decide) (fun _ => ?_) (fun q => absurd hc q)
      exact Country_looksLikeWay_1_25_t hd      M r h
    · refine ev_icmp 25 rfl hR.1 hR.2 (by decide) (fun q => absurd q hc) (fun _ => ?_)
      refine ev_k (pc' := 18) (ls' := [(2, .inl (v1)), (0, .inr (.inr (some 1))), (1, .inl (x1))]) (st' := [.inl (3), .inl (v1)]) (nc' := 126) (np' := 138) (M' := M) 2 rfl ?_
      obtain ⟨hR, ⟨hc, h⟩ | ⟨hc, h⟩⟩ := c_eq_i h
      · refine ev_icmp 25 rfl hR.1 hR.2 (by decide) (fun _ => ?_) (fun q => absurd hc q)
        exact Country_looksLikeWay_1_25_t hd      M r h
      · refine ev_icmp 25 rfl hR.1 hR.2 (by decide) (fun q => absurd q hc) (fun _ => ?_)
        refine ev_k (pc' := 26) (ls' := []) (st' := [.inl (1)]) (nc' := 126) (np' := 138) (M' := M) 2 rfl ?_
        exact Country_looksLikeWay_1_26_t hd     (1) M r h
def Trip_isFork_26_90    (x2 : Int) (M : am_M) : Option (Int) := ck ((x2) = 0 ∨ (x2) = 1) (some (x2))
def Trip_isFork_26_83   (k4 : Int → Int → Int → am_M → Option (Int)) (x1 : Int) (x3 : Int) (s0 : Int) (M : am_M) : Option (Int) := (k4 (x1) (s0) ((x3) + (1)) M)
def Trip_isFork_26_82   (k4 : Int → Int → Int → am_M → Option (Int)) (x1 : Int) (x3 : Int) (M : am_M) : Option (Int) := (Trip_isFork_26_83   k4 (x1) (x3) (0) M)
def Trip_isFork_26_78   (k4 : Int → Int → Int → am_M → Option (Int)) (x1 : Int) (x3 : Int) (M : am_M) : Option (Int) := (Trip_isFork_26_83   k4 (x1) (x3) (1) M)
def Trip_isFork_26_4    : Nat → Int → Int → Int → am_M → Option (Int)
  | 0, _, _, _, _ => none
  | n + 1, x1, x2, x3, M => c_ge (x3) (4)
       (Trip_isFork_26_90    (x2) M)
       (c_le (x1) (0)
       (Trip_isFork_26_90    (x2) M)
       (c_ne (x2) (0)
       (Trip_isFork_26_90    (x2) M)
       (ob (Trip_cellAt_26 (x1) M) fun v1 => ob (Country_neighbour (v1) (x3) M) fun v2 => c_lt (v2) (0)
       (Trip_isFork_26_82   (Trip_isFork_26_4    n) (x1) (x3) M)
       (ob (Trip_cellAt_26 ((x1) - (1)) M) fun v3 => c_eq (v2) (v3)
       (Trip_isFork_26_82   (Trip_isFork_26_4    n) (x1) (x3) M)
       (ob (Trip_cellAt_26 ((x1) + (1)) M) fun v4 => c_eq (v2) (v4)
       (Trip_isFork_26_82   (Trip_isFork_26_4    n) (x1) (x3) M)
       (ob (Trip_isOnPath_26 (v2) M) fun v5 => c_ne (v5) (0)
       (Trip_isFork_26_78   (Trip_isFork_26_4    n) (x1) (x3) M)
       (ob (Country_looksLikeWay_1 (v2) M) fun v6 => c_eq (v6) (0)
       (Trip_isFork_26_82   (Trip_isFork_26_4    n) (x1) (x3) M)
       (Trip_isFork_26_78   (Trip_isFork_26_4    n) (x1) (x3) M))))))))
def Trip_isFork_26    (x1 : Int) (M : am_M) : Option (Int) := (Trip_isFork_26_4    am_big (x1) (0) (0) M)
theorem Trip_isFork_26_90_t {L : Nat} {xs : Nat → Int} {d : Nat} (hd : 2 ≤ d)     (x2 : Int) (M : am_M) (r : Int) (h : Trip_isFork_26_90    x2 M = some r) : am_Ev L xs d me_118 90 [(2, .inl (x2))] [] 126 138 M (some (.inl r), 126, 138, M) := by
  refine ev_k (pc' := 91) (ls' := [(2, .inl (x2))]) (st' := [.inl (x2)]) (nc' := 126) (np' := 138) (M' := M) 1 rfl ?_
  obtain ⟨hc, h⟩ := ck_i h
  cases h
  exact ev_retz rfl rfl hc
theorem Trip_isFork_26_83_t {L : Nat} {xs : Nat → Int} {d : Nat} (hd : 2 ≤ d)   (k4 : Int → Int → Int → am_M → Option (Int)) (hk4 : ∀ (x1 : Int) (x2 : Int) (x3 : Int) (M : am_M) (r : Int), k4 x1 x2 x3 M = some r → am_Ev L xs d me_118 4 [(0, .inr (.inr (some 26))), (1, .inl (x1)), (2, .inl (x2)), (3, .inl (x3))] [] 126 138 M (some (.inl r), 126, 138, M)) (x1 : Int) (x3 : Int) (s0 : Int) (M : am_M) (r : Int) (h : Trip_isFork_26_83   k4 x1 x3 s0 M = some r) : am_Ev L xs d me_118 83 [(0, .inr (.inr (some 26))), (1, .inl (x1)), (3, .inl (x3))] [.inl (s0)] 126 138 M (some (.inl r), 126, 138, M) := by
  refine ev_k (pc' := 4) (ls' := [(0, .inr (.inr (some 26))), (1, .inl (x1)), (2, .inl (s0)), (3, .inl ((x3) + (1)))]) (st' := []) (nc' := 126) (np' := 138) (M' := M) 3 rfl ?_
  exact hk4 (x1) (s0) ((x3) + (1)) M r h
theorem Trip_isFork_26_82_t {L : Nat} {xs : Nat → Int} {d : Nat} (hd : 2 ≤ d)   (k4 : Int → Int → Int → am_M → Option (Int)) (hk4 : ∀ (x1 : Int) (x2 : Int) (x3 : Int) (M : am_M) (r : Int), k4 x1 x2 x3 M = some r → am_Ev L xs d me_118 4 [(0, .inr (.inr (some 26))), (1, .inl (x1)), (2, .inl (x2)), (3, .inl (x3))] [] 126 138 M (some (.inl r), 126, 138, M)) (x1 : Int) (x3 : Int) (M : am_M) (r : Int) (h : Trip_isFork_26_82   k4 x1 x3 M = some r) : am_Ev L xs d me_118 82 [(0, .inr (.inr (some 26))), (1, .inl (x1)), (3, .inl (x3))] [] 126 138 M (some (.inl r), 126, 138, M) := by
  refine ev_k (pc' := 83) (ls' := [(0, .inr (.inr (some 26))), (1, .inl (x1)), (3, .inl (x3))]) (st' := [.inl (0)]) (nc' := 126) (np' := 138) (M' := M) 1 rfl ?_
  exact Trip_isFork_26_83_t hd   k4 hk4 (x1) (x3) (0) M r h
theorem Trip_isFork_26_78_t {L : Nat} {xs : Nat → Int} {d : Nat} (hd : 2 ≤ d)   (k4 : Int → Int → Int → am_M → Option (Int)) (hk4 : ∀ (x1 : Int) (x2 : Int) (x3 : Int) (M : am_M) (r : Int), k4 x1 x2 x3 M = some r → am_Ev L xs d me_118 4 [(0, .inr (.inr (some 26))), (1, .inl (x1)), (2, .inl (x2)), (3, .inl (x3))] [] 126 138 M (some (.inl r), 126, 138, M)) (x1 : Int) (x3 : Int) (M : am_M) (r : Int) (h : Trip_isFork_26_78   k4 x1 x3 M = some r) : am_Ev L xs d me_118 78 [(0, .inr (.inr (some 26))), (1, .inl (x1)), (3, .inl (x3))] [] 126 138 M (some (.inl r), 126, 138, M) := by
  refine ev_k (pc' := 83) (ls' := [(0, .inr (.inr (some 26))), (1, .inl (x1)), (3, .inl (x3))]) (st' := [.inl (1)]) (nc' := 126) (np' := 138) (M' := M) 2 rfl ?_
  exact Trip_isFork_26_83_t hd   k4 hk4 (x1) (x3) (1) M r h
theorem Trip_isFork_26_4_t {L : Nat} {xs : Nat → Int} {d : Nat} (hd : 2 ≤ d)     : ∀ (n : Nat) (x1 : Int) (x2 : Int) (x3 : Int) (M : am_M) (r : Int), Trip_isFork_26_4    n x1 x2 x3 M = some r → am_Ev L xs d me_118 4 [(0, .inr (.inr (some 26))), (1, .inl (x1)), (2, .inl (x2)), (3, .inl (x3))] [] 126 138 M (some (.inl r), 126, 138, M)
  | 0, _, _, _, M, r, h => by cases h
  | n + 1, x1, x2, x3, M, r, h => by
    have ih := Trip_isFork_26_4_t (L := L) (xs := xs) hd     n
    refine ev_k (pc' := 6) (ls' := [(0, .inr (.inr (some 26))), (1, .inl (x1)), (2, .inl (x2)), (3, .inl (x3))]) (st' := [.inl (4), .inl (x3)]) (nc' := 126) (np' := 138) (M' := M) 2 rfl ?_
    obtain ⟨hR, ⟨hc, h⟩ | ⟨hc, h⟩⟩ := c_ge_i h
    · refine ev_icmp 90 rfl hR.1 hR.2 (by decide) (fun _ => ?_) (fun q => absurd hc q)
      exact Trip_isFork_26_90_t hd     (x2) M r h
    · refine ev_icmp 90 rfl hR.1 hR.2 (by decide) (fun q => absurd q hc) (fun _ => ?_)
      refine ev_k (pc' := 10) (ls' := [(0, .inr (.inr (some 26))), (1, .inl (x1)), (2, .inl (x2)), (3, .inl (x3))]) (st' := [.inl (x1)]) (nc' := 126) (np' := 138) (M' := M) 1 rfl ?_
      obtain ⟨hR, ⟨hc, h⟩ | ⟨hc, h⟩⟩ := c_le_i h
      · refine ev_ifc 90 rfl hR.1 (by decide) (fun _ => ?_) (fun q => absurd hc q)
        exact Trip_isFork_26_90_t hd     (x2) M r h
      · refine ev_ifc 90 rfl hR.1 (by decide) (fun q => absurd q hc) (fun _ => ?_)
        refine ev_k (pc' := 14) (ls' := [(0, .inr (.inr (some 26))), (1, .inl (x1)), (2, .inl (x2)), (3, .inl (x3))]) (st' := [.inl (x2)]) (nc' := 126) (np' := 138) (M' := M) 1 rfl ?_
        obtain ⟨hR, ⟨hc, h⟩ | ⟨hc, h⟩⟩ := c_ne_i h
        · refine ev_ifc 90 rfl hR.1 (by decide) (fun _ => ?_) (fun q => absurd hc q)
          exact Trip_isFork_26_90_t hd     (x2) M r h
        · refine ev_ifc 90 rfl hR.1 (by decide) (fun q => absurd q hc) (fun _ => ?_)
          refine ev_k (pc' := 19) (ls' := [(0, .inr (.inr (some 26))), (1, .inl (x1)), (2, .inl (x2)), (3, .inl (x3))]) (st' := [.inl (x1), .inr (.inr (some 26))]) (nc' := 126) (np' := 138) (M' := M) 2 rfl ?_
          obtain ⟨v1, hv, h⟩ := ob_i h
          refine ev_call (t := 31) (as := [.inr (.inr (some 26)), .inl (x1)]) (rest := []) rfl rfl rfl (by omega) (Trip_cellAt_26_e (by omega) (x1) M _ hv) ?_
          refine ev_k (pc' := 23) (ls' := [(0, .inr (.inr (some 26))), (1, .inl (x1)), (2, .inl (x2)), (3, .inl (x3))]) (st' := [.inl (x3), .inl (v1)]) (nc' := 126) (np' := 138) (M' := M) 1 rfl ?_
          obtain ⟨v2, hv, h⟩ := ob_i h
          refine ev_call (t := 97) (as := [.inl (v1), .inl (x3)]) (rest := []) rfl rfl rfl (by omega) (Country_neighbour_e (by omega) (v1) (x3) M _ hv) ?_
          refine ev_k (pc' := 30) (ls' := [(4, .inl (v2)), (0, .inr (.inr (some 26))), (1, .inl (x1)), (2, .inl (x2)), (3, .inl (x3))]) (st' := [.inl (v2)]) (nc' := 126) (np' := 138) (M' := M) 2 rfl ?_
          obtain ⟨hR, ⟨hc, h⟩ | ⟨hc, h⟩⟩ := c_lt_i h
          · refine ev_ifc 82 rfl hR.1 (by decide) (fun _ => ?_) (fun q => absurd hc q)
            exact Trip_isFork_26_82_t hd   (Trip_isFork_26_4    n) ih (x1) (x3) M r h
          · refine ev_ifc 82 rfl hR.1 (by decide) (fun q => absurd q hc) (fun _ => ?_)
            refine ev_k (pc' := 39) (ls' := [(4, .inl (v2)), (0, .inr (.inr (some 26))), (1, .inl (x1)), (2, .inl (x2)), (3, .inl (x3))]) (st' := [.inl ((x1) - (1)), .inr (.inr (some 26)), .inl (v2)]) (nc' := 126) (np' := 138) (M' := M) 5 rfl ?_
            obtain ⟨v3, hv, h⟩ := ob_i h
            refine ev_call (t := 31) (as := [.inr (.inr (some 26)), .inl ((x1) - (1))]) (rest := [.inl (v2)]) rfl rfl rfl (by omega) (Trip_cellAt_26_e (by omega) ((x1) - (1)) M _ hv) ?_
            refine ev_k (pc' := 42) (ls' := [(4, .inl (v2)), (0, .inr (.inr (some 26))), (1, .inl (x1)), (2, .inl (x2)), (3, .inl (x3))]) (st' := [.inl (v3), .inl (v2)]) (nc' := 126) (np' := 138) (M' := M) 0 rfl ?_
            obtain ⟨hR, ⟨hc, h⟩ | ⟨hc, h⟩⟩ := c_eq_i h
            · refine ev_icmp 82 rfl hR.1 hR.2 (by decide) (fun _ => ?_) (fun q => absurd hc q)
              exact Trip_isFork_26_82_t hd   (Trip_isFork_26_4    n) ih (x1) (x3) M r h
            · refine ev_icmp 82 rfl hR.1 hR.2 (by decide) (fun q => absurd q hc) (fun _ => ?_)
              refine ev_k (pc' := 51) (ls' := [(4, .inl (v2)), (0, .inr (.inr (some 26))), (1, .inl (x1)), (2, .inl (x2)), (3, .inl (x3))]) (st' := [.inl ((x1) + (1)), .inr (.inr (some 26)), .inl (v2)]) (nc' := 126) (np' := 138) (M' := M) 5 rfl ?_
              obtain ⟨v4, hv, h⟩ := ob_i h
              refine ev_call (t := 31) (as := [.inr (.inr (some 26)), .inl ((x1) + (1))]) (rest := [.inl (v2)]) rfl rfl rfl (by omega) (Trip_cellAt_26_e (by omega) ((x1) + (1)) M _ hv) ?_
              refine ev_k (pc' := 54) (ls' := [(4, .inl (v2)), (0, .inr (.inr (some 26))), (1, .inl (x1)), (2, .inl (x2)), (3, .inl (x3))]) (st' := [.inl (v4), .inl (v2)]) (nc' := 126) (np' := 138) (M' := M) 0 rfl ?_
              obtain ⟨hR, ⟨hc, h⟩ | ⟨hc, h⟩⟩ := c_eq_i h
              · refine ev_icmp 82 rfl hR.1 hR.2 (by decide) (fun _ => ?_) (fun q => absurd hc q)
                exact Trip_isFork_26_82_t hd   (Trip_isFork_26_4    n) ih (x1) (x3) M r h
              · refine ev_icmp 82 rfl hR.1 hR.2 (by decide) (fun q => absurd q hc) (fun _ => ?_)
                refine ev_k (pc' := 60) (ls' := [(4, .inl (v2)), (0, .inr (.inr (some 26))), (1, .inl (x1)), (2, .inl (x2)), (3, .inl (x3))]) (st' := [.inl (v2), .inr (.inr (some 26))]) (nc' := 126) (np' := 138) (M' := M) 2 rfl ?_
                obtain ⟨v5, hv, h⟩ := ob_i h
                refine ev_call (t := 104) (as := [.inr (.inr (some 26)), .inl (v2)]) (rest := []) rfl rfl rfl (by omega) (Trip_isOnPath_26_e (by omega) (v2) M _ hv) ?_
                refine ev_k (pc' := 63) (ls' := [(4, .inl (v2)), (0, .inr (.inr (some 26))), (1, .inl (x1)), (2, .inl (x2)), (3, .inl (x3))]) (st' := [.inl (v5)]) (nc' := 126) (np' := 138) (M' := M) 0 rfl ?_
                obtain ⟨hR, ⟨hc, h⟩ | ⟨hc, h⟩⟩ := c_ne_i h
                · refine ev_ifc 78 rfl hR.1 (by decide) (fun _ => ?_) (fun q => absurd hc q)
                  exact Trip_isFork_26_78_t hd   (Trip_isFork_26_4    n) ih (x1) (x3) M r h
                · refine ev_ifc 78 rfl hR.1 (by decide) (fun q => absurd q hc) (fun _ => ?_)
                  refine ev_k (pc' := 72) (ls' := [(4, .inl (v2)), (0, .inr (.inr (some 26))), (1, .inl (x1)), (2, .inl (x2)), (3, .inl (x3))]) (st' := [.inl (v2), .inr (.inr (some 1))]) (nc' := 126) (np' := 138) (M' := M) 3 rfl ?_
                  obtain ⟨v6, hv, h⟩ := ob_i h
                  refine ev_call (t := 119) (as := [.inr (.inr (some 1)), .inl (v2)]) (rest := []) rfl rfl rfl (by omega) (Country_looksLikeWay_1_e (by omega) (v2) M _ hv) ?_
                  refine ev_k (pc' := 75) (ls' := [(4, .inl (v2)), (0, .inr (.inr (some 26))), (1, .inl (x1)), (2, .inl (x2)), (3, .inl (x3))]) (st' := [.inl (v6)]) (nc' := 126) (np' := 138) (M' := M) 0 rfl ?_
                  obtain ⟨hR, ⟨hc, h⟩ | ⟨hc, h⟩⟩ := c_eq_i h
                  · refine ev_ifc 82 rfl hR.1 (by decide) (fun _ => ?_) (fun q => absurd hc q)
                    exact Trip_isFork_26_82_t hd   (Trip_isFork_26_4    n) ih (x1) (x3) M r h
                  · refine ev_ifc 82 rfl hR.1 (by decide) (fun q => absurd q hc) (fun _ => ?_)
                    exact Trip_isFork_26_78_t hd   (Trip_isFork_26_4    n) ih (x1) (x3) M r h
theorem Trip_isFork_26_e {L : Nat} {xs : Nat → Int} {d : Nat} (hd : 2 ≤ d)   (x1 : Int) (M : am_M) (r : Int) (h : Trip_isFork_26   x1 M = some r) : am_Ev L xs d me_118 0 (am_ar1 0 [.inr (.inr (some 26)), .inl (x1)]) [] 126 138 M (some (.inl r), 126, 138, M) := by
  refine ev_k (pc' := 4) (ls' := [(0, .inr (.inr (some 26))), (1, .inl (x1)), (2, .inl (0)), (3, .inl (0))]) (st' := []) (nc' := 126) (np' := 138) (M' := M) 4 rfl ?_
  exact Trip_isFork_26_4_t hd     am_big (x1) (0) (0) M r h
def Trip_forksBack_26_25   (k7 : Int → Int → am_M → Option (Int)) (x2 : Int) (s0 : Int) (s1 : Int) (M : am_M) : Option (Int) := (k7 ((s0) + (s1)) ((x2) + (-1)) M)
def Trip_forksBack_26_7    : Nat → Int → Int → am_M → Option (Int)
  | 0, _, _, _ => none
  | n + 1, x1, x2, M => c_le (x2) (0)
       (some (x1))
       (ob (Trip_isFork_26 (x2) M) fun v1 => c_eq (v1) (0)
       ((Trip_forksBack_26_25   (Trip_forksBack_26_7    n) (x2) (x1) (0) M))
       ((Trip_forksBack_26_25   (Trip_forksBack_26_7    n) (x2) (x1) (1) M)))
def Trip_forksBack_26     (M : am_M) : Option (Int) := (Trip_forksBack_26_7    am_big (0) (M 26 11) M)
theorem Trip_forksBack_26_25_t {L : Nat} {xs : Nat → Int} {d : Nat} (hd : 3 ≤ d)   (k7 : Int → Int → am_M → Option (Int)) (hk7 : ∀ (x1 : Int) (x2 : Int) (M : am_M) (r : Int), k7 x1 x2 M = some r → am_Ev L xs d me_117 7 [(0, .inr (.inr (some 26))), (1, .inl (x1)), (2, .inl (x2))] [] 126 138 M (some (.inl r), 126, 138, M)) (x2 : Int) (s0 : Int) (s1 : Int) (M : am_M) (r : Int) (h : Trip_forksBack_26_25   k7 x2 s0 s1 M = some r) : am_Ev L xs d me_117 25 [(0, .inr (.inr (some 26))), (2, .inl (x2))] [.inl (s1), .inl (s0)] 126 138 M (some (.inl r), 126, 138, M) := by
  refine ev_k (pc' := 7) (ls' := [(0, .inr (.inr (some 26))), (1, .inl ((s0) + (s1))), (2, .inl ((x2) + (-1)))]) (st' := []) (nc' := 126) (np' := 138) (M' := M) 4 rfl ?_
  exact hk7 ((s0) + (s1)) ((x2) + (-1)) M r h
theorem Trip_forksBack_26_7_t {L : Nat} {xs : Nat → Int} {d : Nat} (hd : 3 ≤ d)     : ∀ (n : Nat) (x1 : Int) (x2 : Int) (M : am_M) (r : Int), Trip_forksBack_26_7    n x1 x2 M = some r → am_Ev L xs d me_117 7 [(0, .inr (.inr (some 26))), (1, .inl (x1)), (2, .inl (x2))] [] 126 138 M (some (.inl r), 126, 138, M)
  | 0, _, _, M, r, h => by cases h
  | n + 1, x1, x2, M, r, h => by
    have ih := Trip_forksBack_26_7_t (L := L) (xs := xs) hd     n
    refine ev_k (pc' := 8) (ls' := [(0, .inr (.inr (some 26))), (1, .inl (x1)), (2, .inl (x2))]) (st' := [.inl (x2)]) (nc' := 126) (np' := 138) (M' := M) 1 rfl ?_
    obtain ⟨hR, ⟨hc, h⟩ | ⟨hc, h⟩⟩ := c_le_i h
    · refine ev_ifc 33 rfl hR.1 (by decide) (fun _ => ?_) (fun q => absurd hc q)
      refine ev_k (pc' := 34) (ls' := [(0, .inr (.inr (some 26))), (1, .inl (x1)), (2, .inl (x2))]) (st' := [.inl (x1)]) (nc' := 126) (np' := 138) (M' := M) 1 rfl ?_
      cases h
      exact ev_ret rfl
    · refine ev_ifc 33 rfl hR.1 (by decide) (fun q => absurd q hc) (fun _ => ?_)
      refine ev_k (pc' := 14) (ls' := [(0, .inr (.inr (some 26))), (1, .inl (x1)), (2, .inl (x2))]) (st' := [.inl (x2), .inr (.inr (some 26)), .inl (x1)]) (nc' := 126) (np' := 138) (M' := M) 3 rfl ?_
      obtain ⟨v1, hv, h⟩ := ob_i h
      refine ev_call (t := 118) (as := [.inr (.inr (some 26)), .inl (x2)]) (rest := [.inl (x1)]) rfl rfl rfl (by omega) (Trip_isFork_26_e (by omega) (x2) M _ hv) ?_
      refine ev_k (pc' := 17) (ls' := [(0, .inr (.inr (some 26))), (1, .inl (x1)), (2, .inl (x2))]) (st' := [.inl (v1), .inl (x1)]) (nc' := 126) (np' := 138) (M' := M) 0 rfl ?_
      obtain ⟨hR, ⟨hc, h⟩ | ⟨hc, h⟩⟩ := c_eq_i h
      · refine ev_ifc 24 rfl hR.1 (by decide) (fun _ => ?_) (fun q => absurd hc q)
        refine ev_k (pc' := 25) (ls' := [(0, .inr (.inr (some 26))), (2, .inl (x2))]) (st' := [.inl (0), .inl (x1)]) (nc' := 126) (np' := 138) (M' := M) 1 rfl ?_
        exact Trip_forksBack_26_25_t hd   (Trip_forksBack_26_7    n) ih (x2) (x1) (0) M r h
      · refine ev_ifc 24 rfl hR.1 (by decide) (fun q => absurd q hc) (fun _ => ?_)
        refine ev_k (pc' := 25) (ls' := [(0, .inr (.inr (some 26))), (2, .inl (x2))]) (st' := [.inl (1), .inl (x1)]) (nc' := 126) (np' := 138) (M' := M) 2 rfl ?_
        exact Trip_forksBack_26_25_t hd   (Trip_forksBack_26_7    n) ih (x2) (x1) (1) M r h
theorem Trip_forksBack_26_e {L : Nat} {xs : Nat → Int} {d : Nat} (hd : 3 ≤ d)    (M : am_M) (r : Int) (h : Trip_forksBack_26    M = some r) : am_Ev L xs d me_117 0 (am_ar1 0 [.inr (.inr (some 26))]) [] 126 138 M (some (.inl r), 126, 138, M) := by
  refine ev_k (pc' := 7) (ls' := [(0, .inr (.inr (some 26))), (1, .inl (0)), (2, .inl (M 26 11))]) (st' := []) (nc' := 126) (np' := 138) (M' := M) 5 rfl ?_
  exact Trip_forksBack_26_7_t hd     am_big (0) (M 26 11) M r h
def Trip_isBlind_26_33    (s0 : Int) (M : am_M) : Option (Int) := ck ((s0) = 0 ∨ (s0) = 1) (some (s0))
def Trip_isBlind_26_32     (M : am_M) : Option (Int) := (Trip_isBlind_26_33    (0) M)
def Trip_isBlind_26    (x1 : Int) (M : am_M) : Option (Int) := ob (Trip_isFork_26 (x1) M) fun v1 => c_eq (v1) (0)
       (Trip_isBlind_26_32     M)
       (ob (Trip_sticksAt_26 (x1) M) fun v2 => c_ne (v2) (0)
       (Trip_isBlind_26_32     M)
       (ob (Trip_marksAt_26 ((x1) - (1)) M) fun v3 => c_ne (b_and (v3) (2)) (0)
       (Trip_isBlind_26_32     M)
       ((Trip_isBlind_26_33    (1) M))))
theorem Trip_isBlind_26_33_t {L : Nat} {xs : Nat → Int} {d : Nat} (hd : 3 ≤ d)     (s0 : Int) (M : am_M) (r : Int) (h : Trip_isBlind_26_33    s0 M = some r) : am_Ev L xs d me_121 33 [] [.inl (s0)] 126 138 M (some (.inl r), 126, 138, M) := by
  refine ev_k (pc' := 33) (ls' := []) (st' := [.inl (s0)]) (nc' := 126) (np' := 138) (M' := M) 0 rfl ?_
  obtain ⟨hc, h⟩ := ck_i h
  cases h
  exact ev_retz rfl rfl hc
theorem Trip_isBlind_26_32_t {L : Nat} {xs : Nat → Int} {d : Nat} (hd : 3 ≤ d)      (M : am_M) (r : Int) (h : Trip_isBlind_26_32     M = some r) : am_Ev L xs d me_121 32 [] [] 126 138 M (some (.inl r), 126, 138, M) := by
  refine ev_k (pc' := 33) (ls' := []) (st' := [.inl (0)]) (nc' := 126) (np' := 138) (M' := M) 1 rfl ?_
  exact Trip_isBlind_26_33_t hd     (0) M r h
theorem Trip_isBlind_26_e {L : Nat} {xs : Nat → Int} {d : Nat} (hd : 3 ≤ d)   (x1 : Int) (M : am_M) (r : Int) (h : Trip_isBlind_26   x1 M = some r) : am_Ev L xs d me_121 0 (am_ar1 0 [.inr (.inr (some 26)), .inl (x1)]) [] 126 138 M (some (.inl r), 126, 138, M) := by
  refine ev_k (pc' := 2) (ls' := [(0, .inr (.inr (some 26))), (1, .inl (x1))]) (st' := [.inl (x1), .inr (.inr (some 26))]) (nc' := 126) (np' := 138) (M' := M) 2 rfl ?_
  obtain ⟨v1, hv, h⟩ := ob_i h
  refine ev_call (t := 118) (as := [.inr (.inr (some 26)), .inl (x1)]) (rest := []) rfl rfl rfl (by omega) (Trip_isFork_26_e (by omega) (x1) M _ hv) ?_
  refine ev_k (pc' := 5) (ls' := [(0, .inr (.inr (some 26))), (1, .inl (x1))]) (st' := [.inl (v1)]) (nc' := 126) (np' := 138) (M' := M) 0 rfl ?_
  obtain ⟨hR, ⟨hc, h⟩ | ⟨hc, h⟩⟩ := c_eq_i h
  · refine ev_ifc 32 rfl hR.1 (by decide) (fun _ => ?_) (fun q => absurd hc q)
    exact Trip_isBlind_26_32_t hd      M r h
  · refine ev_ifc 32 rfl hR.1 (by decide) (fun q => absurd q hc) (fun _ => ?_)
    refine ev_k (pc' := 10) (ls' := [(0, .inr (.inr (some 26))), (1, .inl (x1))]) (st' := [.inl (x1), .inr (.inr (some 26))]) (nc' := 126) (np' := 138) (M' := M) 2 rfl ?_
    obtain ⟨v2, hv, h⟩ := ob_i h
    refine ev_call (t := 94) (as := [.inr (.inr (some 26)), .inl (x1)]) (rest := []) rfl rfl rfl (by omega) (Trip_sticksAt_26_e (by omega) (x1) M _ hv) ?_
    refine ev_k (pc' := 13) (ls' := [(0, .inr (.inr (some 26))), (1, .inl (x1))]) (st' := [.inl (v2)]) (nc' := 126) (np' := 138) (M' := M) 0 rfl ?_
    obtain ⟨hR, ⟨hc, h⟩ | ⟨hc, h⟩⟩ := c_ne_i h
    · refine ev_ifc 32 rfl hR.1 (by decide) (fun _ => ?_) (fun q => absurd hc q)
      exact Trip_isBlind_26_32_t hd      M r h
    · refine ev_ifc 32 rfl hR.1 (by decide) (fun q => absurd q hc) (fun _ => ?_)
      refine ev_k (pc' := 20) (ls' := [(0, .inr (.inr (some 26))), (1, .inl (x1))]) (st' := [.inl ((x1) - (1)), .inr (.inr (some 26))]) (nc' := 126) (np' := 138) (M' := M) 4 rfl ?_
      obtain ⟨v3, hv, h⟩ := ob_i h
      refine ev_call (t := 91) (as := [.inr (.inr (some 26)), .inl ((x1) - (1))]) (rest := []) rfl rfl rfl (by omega) (Trip_marksAt_26_e (by omega) ((x1) - (1)) M _ hv) ?_
      refine ev_k (pc' := 25) (ls' := [(0, .inr (.inr (some 26))), (1, .inl (x1))]) (st' := [.inl (b_and (v3) (2))]) (nc' := 126) (np' := 138) (M' := M) 2 rfl ?_
      obtain ⟨hR, ⟨hc, h⟩ | ⟨hc, h⟩⟩ := c_ne_i h
      · refine ev_ifc 32 rfl hR.1 (by decide) (fun _ => ?_) (fun q => absurd hc q)
        exact Trip_isBlind_26_32_t hd      M r h
      · refine ev_ifc 32 rfl hR.1 (by decide) (fun q => absurd q hc) (fun _ => ?_)
        refine ev_k (pc' := 33) (ls' := []) (st' := [.inl (1)]) (nc' := 126) (np' := 138) (M' := M) 2 rfl ?_
        exact Trip_isBlind_26_33_t hd     (1) M r h
def Trip_blindBack_26_25   (k7 : Int → Int → am_M → Option (Int)) (x2 : Int) (s0 : Int) (s1 : Int) (M : am_M) : Option (Int) := (k7 ((s0) + (s1)) ((x2) + (-1)) M)
def Trip_blindBack_26_7    : Nat → Int → Int → am_M → Option (Int)
  | 0, _, _, _ => none
  | n + 1, x1, x2, M => c_le (x2) (0)
       (some (x1))
       (ob (Trip_isBlind_26 (x2) M) fun v1 => c_eq (v1) (0)
       ((Trip_blindBack_26_25   (Trip_blindBack_26_7    n) (x2) (x1) (0) M))
       ((Trip_blindBack_26_25   (Trip_blindBack_26_7    n) (x2) (x1) (1) M)))
def Trip_blindBack_26     (M : am_M) : Option (Int) := (Trip_blindBack_26_7    am_big (0) (M 26 11) M)
theorem Trip_blindBack_26_25_t {L : Nat} {xs : Nat → Int} {d : Nat} (hd : 4 ≤ d)   (k7 : Int → Int → am_M → Option (Int)) (hk7 : ∀ (x1 : Int) (x2 : Int) (M : am_M) (r : Int), k7 x1 x2 M = some r → am_Ev L xs d me_120 7 [(0, .inr (.inr (some 26))), (1, .inl (x1)), (2, .inl (x2))] [] 126 138 M (some (.inl r), 126, 138, M)) (x2 : Int) (s0 : Int) (s1 : Int) (M : am_M) (r : Int) (h : Trip_blindBack_26_25   k7 x2 s0 s1 M = some r) : am_Ev L xs d me_120 25 [(0, .inr (.inr (some 26))), (2, .inl (x2))] [.inl (s1), .inl (s0)] 126 138 M (some (.inl r), 126, 138, M) := by
  refine ev_k (pc' := 7) (ls' := [(0, .inr (.inr (some 26))), (1, .inl ((s0) + (s1))), (2, .inl ((x2) + (-1)))]) (st' := []) (nc' := 126) (np' := 138) (M' := M) 4 rfl ?_
  exact hk7 ((s0) + (s1)) ((x2) + (-1)) M r h
theorem Trip_blindBack_26_7_t {L : Nat} {xs : Nat → Int} {d : Nat} (hd : 4 ≤ d)     : ∀ (n : Nat) (x1 : Int) (x2 : Int) (M : am_M) (r : Int), Trip_blindBack_26_7    n x1 x2 M = some r → am_Ev L xs d me_120 7 [(0, .inr (.inr (some 26))), (1, .inl (x1)), (2, .inl (x2))] [] 126 138 M (some (.inl r), 126, 138, M)
  | 0, _, _, M, r, h => by cases h
  | n + 1, x1, x2, M, r, h => by
    have ih := Trip_blindBack_26_7_t (L := L) (xs := xs) hd     n
    refine ev_k (pc' := 8) (ls' := [(0, .inr (.inr (some 26))), (1, .inl (x1)), (2, .inl (x2))]) (st' := [.inl (x2)]) (nc' := 126) (np' := 138) (M' := M) 1 rfl ?_
    obtain ⟨hR, ⟨hc, h⟩ | ⟨hc, h⟩⟩ := c_le_i h
    · refine ev_ifc 33 rfl hR.1 (by decide) (fun _ => ?_) (fun q => absurd hc q)
      refine ev_k (pc' := 34) (ls' := [(0, .inr (.inr (some 26))), (1, .inl (x1)), (2, .inl (x2))]) (st' := [.inl (x1)]) (nc' := 126) (np' := 138) (M' := M) 1 rfl ?_
      cases h
      exact ev_ret rfl
    · refine ev_ifc 33 rfl hR.1 (by decide) (fun q => absurd q hc) (fun _ => ?_)
      refine ev_k (pc' := 14) (ls' := [(0, .inr (.inr (some 26))), (1, .inl (x1)), (2, .inl (x2))]) (st' := [.inl (x2), .inr (.inr (some 26)), .inl (x1)]) (nc' := 126) (np' := 138) (M' := M) 3 rfl ?_
      obtain ⟨v1, hv, h⟩ := ob_i h
      refine ev_call (t := 121) (as := [.inr (.inr (some 26)), .inl (x2)]) (rest := [.inl (x1)]) rfl rfl rfl (by omega) (Trip_isBlind_26_e (by omega) (x2) M _ hv) ?_
      refine ev_k (pc' := 17) (ls' := [(0, .inr (.inr (some 26))), (1, .inl (x1)), (2, .inl (x2))]) (st' := [.inl (v1), .inl (x1)]) (nc' := 126) (np' := 138) (M' := M) 0 rfl ?_
      obtain ⟨hR, ⟨hc, h⟩ | ⟨hc, h⟩⟩ := c_eq_i h
      · refine ev_ifc 24 rfl hR.1 (by decide) (fun _ => ?_) (fun q => absurd hc q)
        refine ev_k (pc' := 25) (ls' := [(0, .inr (.inr (some 26))), (2, .inl (x2))]) (st' := [.inl (0), .inl (x1)]) (nc' := 126) (np' := 138) (M' := M) 1 rfl ?_
        exact Trip_blindBack_26_25_t hd   (Trip_blindBack_26_7    n) ih (x2) (x1) (0) M r h
      · refine ev_ifc 24 rfl hR.1 (by decide) (fun q => absurd q hc) (fun _ => ?_)
        refine ev_k (pc' := 25) (ls' := [(0, .inr (.inr (some 26))), (2, .inl (x2))]) (st' := [.inl (1), .inl (x1)]) (nc' := 126) (np' := 138) (M' := M) 2 rfl ?_
        exact Trip_blindBack_26_25_t hd   (Trip_blindBack_26_7    n) ih (x2) (x1) (1) M r h
theorem Trip_blindBack_26_e {L : Nat} {xs : Nat → Int} {d : Nat} (hd : 4 ≤ d)    (M : am_M) (r : Int) (h : Trip_blindBack_26    M = some r) : am_Ev L xs d me_120 0 (am_ar1 0 [.inr (.inr (some 26))]) [] 126 138 M (some (.inl r), 126, 138, M) := by
  refine ev_k (pc' := 7) (ls' := [(0, .inr (.inr (some 26))), (1, .inl (0)), (2, .inl (M 26 11))]) (st' := []) (nc' := 126) (np' := 138) (M' := M) 5 rfl ?_
  exact Trip_blindBack_26_7_t hd     am_big (0) (M 26 11) M r h
def Trip_firstBlindBack_26_37    (x1 : Int) (M : am_M) : Option (Int) := some (x1)
def Trip_firstBlindBack_26_30   (k8 : Int → Int → am_M → Option (Int)) (x2 : Int) (s0 : Int) (M : am_M) : Option (Int) := (k8 (s0) ((x2) + (-1)) M)
def Trip_firstBlindBack_26_8    : Nat → Int → Int → am_M → Option (Int)
  | 0, _, _, _ => none
  | n + 1, x1, x2, M => c_le (x2) (0)
       (Trip_firstBlindBack_26_37    (x1) M)
       (c_ge (x1) (0)
       (Trip_firstBlindBack_26_37    (x1) M)
       (ob (Trip_isBlind_26 (x2) M) fun v1 => c_eq (v1) (0)
       ((Trip_firstBlindBack_26_30   (Trip_firstBlindBack_26_8    n) (x2) (-2) M))
       ((Trip_firstBlindBack_26_30   (Trip_firstBlindBack_26_8    n) (x2) (x2) M))))
def Trip_firstBlindBack_26     (M : am_M) : Option (Int) := (Trip_firstBlindBack_26_8    am_big (-2) (M 26 11) M)
theorem Trip_firstBlindBack_26_37_t {L : Nat} {xs : Nat → Int} {d : Nat} (hd : 4 ≤ d)     (x1 : Int) (M : am_M) (r : Int) (h : Trip_firstBlindBack_26_37    x1 M = some r) : am_Ev L xs d me_122 37 [(1, .inl (x1))] [] 126 138 M (some (.inl r), 126, 138, M) := by
  refine ev_k (pc' := 38) (ls' := [(1, .inl (x1))]) (st' := [.inl (x1)]) (nc' := 126) (np' := 138) (M' := M) 1 rfl ?_
  cases h
  exact ev_ret rfl
theorem Trip_firstBlindBack_26_30_t {L : Nat} {xs : Nat → Int} {d : Nat} (hd : 4 ≤ d)   (k8 : Int → Int → am_M → Option (Int)) (hk8 : ∀ (x1 : Int) (x2 : Int) (M : am_M) (r : Int), k8 x1 x2 M = some r → am_Ev L xs d me_122 8 [(0, .inr (.inr (some 26))), (1, .inl (x1)), (2, .inl (x2))] [] 126 138 M (some (.inl r), 126, 138, M)) (x2 : Int) (s0 : Int) (M : am_M) (r : Int) (h : Trip_firstBlindBack_26_30   k8 x2 s0 M = some r) : am_Ev L xs d me_122 30 [(0, .inr (.inr (some 26))), (2, .inl (x2))] [.inl (s0)] 126 138 M (some (.inl r), 126, 138, M) := by
  refine ev_k (pc' := 8) (ls' := [(0, .inr (.inr (some 26))), (1, .inl (s0)), (2, .inl ((x2) + (-1)))]) (st' := []) (nc' := 126) (np' := 138) (M' := M) 3 rfl ?_
  exact hk8 (s0) ((x2) + (-1)) M r h
theorem Trip_firstBlindBack_26_8_t {L : Nat} {xs : Nat → Int} {d : Nat} (hd : 4 ≤ d)     : ∀ (n : Nat) (x1 : Int) (x2 : Int) (M : am_M) (r : Int), Trip_firstBlindBack_26_8    n x1 x2 M = some r → am_Ev L xs d me_122 8 [(0, .inr (.inr (some 26))), (1, .inl (x1)), (2, .inl (x2))] [] 126 138 M (some (.inl r), 126, 138, M)
  | 0, _, _, M, r, h => by cases h
  | n + 1, x1, x2, M, r, h => by
    have ih := Trip_firstBlindBack_26_8_t (L := L) (xs := xs) hd     n
    refine ev_k (pc' := 9) (ls' := [(0, .inr (.inr (some 26))), (1, .inl (x1)), (2, .inl (x2))]) (st' := [.inl (x2)]) (nc' := 126) (np' := 138) (M' := M) 1 rfl ?_
    obtain ⟨hR, ⟨hc, h⟩ | ⟨hc, h⟩⟩ := c_le_i h
    · refine ev_ifc 37 rfl hR.1 (by decide) (fun _ => ?_) (fun q => absurd hc q)
      exact Trip_firstBlindBack_26_37_t hd     (x1) M r h
    · refine ev_ifc 37 rfl hR.1 (by decide) (fun q => absurd q hc) (fun _ => ?_)
      refine ev_k (pc' := 13) (ls' := [(0, .inr (.inr (some 26))), (1, .inl (x1)), (2, .inl (x2))]) (st' := [.inl (x1)]) (nc' := 126) (np' := 138) (M' := M) 1 rfl ?_
      obtain ⟨hR, ⟨hc, h⟩ | ⟨hc, h⟩⟩ := c_ge_i h
      · refine ev_ifc 37 rfl hR.1 (by decide) (fun _ => ?_) (fun q => absurd hc q)
        exact Trip_firstBlindBack_26_37_t hd     (x1) M r h
      · refine ev_ifc 37 rfl hR.1 (by decide) (fun q => absurd q hc) (fun _ => ?_)
        refine ev_k (pc' := 18) (ls' := [(0, .inr (.inr (some 26))), (1, .inl (x1)), (2, .inl (x2))]) (st' := [.inl (x2), .inr (.inr (some 26))]) (nc' := 126) (np' := 138) (M' := M) 2 rfl ?_
        obtain ⟨v1, hv, h⟩ := ob_i h
        refine ev_call (t := 121) (as := [.inr (.inr (some 26)), .inl (x2)]) (rest := []) rfl rfl rfl (by omega) (Trip_isBlind_26_e (by omega) (x2) M _ hv) ?_
        refine ev_k (pc' := 21) (ls' := [(0, .inr (.inr (some 26))), (1, .inl (x1)), (2, .inl (x2))]) (st' := [.inl (v1)]) (nc' := 126) (np' := 138) (M' := M) 0 rfl ?_
        obtain ⟨hR, ⟨hc, h⟩ | ⟨hc, h⟩⟩ := c_eq_i h
        · refine ev_ifc 28 rfl hR.1 (by decide) (fun _ => ?_) (fun q => absurd hc q)
          refine ev_k (pc' := 30) (ls' := [(0, .inr (.inr (some 26))), (2, .inl (x2))]) (st' := [.inl (-2)]) (nc' := 126) (np' := 138) (M' := M) 1 rfl ?_
          exact Trip_firstBlindBack_26_30_t hd   (Trip_firstBlindBack_26_8    n) ih (x2) (-2) M r h
        · refine ev_ifc 28 rfl hR.1 (by decide) (fun q => absurd q hc) (fun _ => ?_)
          refine ev_k (pc' := 30) (ls' := [(0, .inr (.inr (some 26))), (2, .inl (x2))]) (st' := [.inl (x2)]) (nc' := 126) (np' := 138) (M' := M) 2 rfl ?_
          exact Trip_firstBlindBack_26_30_t hd   (Trip_firstBlindBack_26_8    n) ih (x2) (x2) M r h
theorem Trip_firstBlindBack_26_e {L : Nat} {xs : Nat → Int} {d : Nat} (hd : 4 ≤ d)    (M : am_M) (r : Int) (h : Trip_firstBlindBack_26    M = some r) : am_Ev L xs d me_122 0 (am_ar1 0 [.inr (.inr (some 26))]) [] 126 138 M (some (.inl r), 126, 138, M) := by
  refine ev_k (pc' := 8) (ls' := [(0, .inr (.inr (some 26))), (1, .inl (-2)), (2, .inl (M 26 11))]) (st' := []) (nc' := 126) (np' := 138) (M' := M) 5 rfl ?_
  exact Trip_firstBlindBack_26_8_t hd     am_big (-2) (M 26 11) M r h
def P_back    (x1 : Int) (M : am_M) : Option (Int × am_M) := ck (am_R (x1)) ((if (x1) = (0) then
       (oc (Trip_minutesBack_26  M) fun v1 M2 => some (v1, M2)) else
       (if (x1) = (1) then
       (ob (Trip_forksBack_26  M) fun v3 => some (v3, M)) else
       (if (x1) = (2) then
       (ob (Trip_blindBack_26  M) fun v4 => some (v4, M)) else
       (if (x1) = (3) then
       (ob (Trip_firstBlindBack_26  M) fun v5 => some (v5, M)) else
       (some (-1, M)))))))
theorem P_back_e {L : Nat} {xs : Nat → Int} {d : Nat} (hd : 5 ≤ d)   (x1 : Int) (M : am_M) (r : Int × am_M) (h : P_back   x1 M = some r) : am_Ev L xs d me_115 0 (am_ar1 0 [.inr (.inr (some 0)), .inl (x1)]) [] 126 138 M (some (.inl r.1), 126, 138, r.2) := by
  refine ev_k (pc' := 1) (ls' := [(0, .inr (.inr (some 0))), (1, .inl (x1))]) (st' := [.inl (x1)]) (nc' := 126) (np' := 138) (M' := M) 1 rfl ?_
  obtain ⟨hR, h⟩ := ck_i h
  rcases if_i h with ⟨hq, h⟩ | ⟨hq0, h⟩
  · refine ev_tsw 32 rfl hR (31) (Or.inr ⟨by rw [hq]; decide, by rw [hq]; rfl⟩) (by decide) ?_
    refine ev_k (pc' := 36) (ls' := [(0, .inr (.inr (some 0))), (1, .inl (x1))]) (st' := [.inr (.inr (some 26))]) (nc' := 126) (np' := 138) (M' := M) 2 rfl ?_
    obtain ⟨v1, M2, hv, h⟩ := oc_i h
    refine ev_call (t := 116) (as := [.inr (.inr (some 26))]) (rest := []) rfl rfl rfl (by omega) (Trip_minutesBack_26_e (by omega)  M _ hv) ?_
    refine ev_k (pc' := 39) (ls' := [(0, .inr (.inr (some 0))), (1, .inl (x1))]) (st' := [.inl (v1)]) (nc' := 126) (np' := 138) (M' := M2) 0 rfl ?_
    cases h
    exact ev_ret rfl
  · skip
    rcases if_i h with ⟨hq, h⟩ | ⟨hq1, h⟩
    · refine ev_tsw 40 rfl hR (39) (Or.inr ⟨by rw [hq]; decide, by rw [hq]; rfl⟩) (by decide) ?_
      refine ev_k (pc' := 44) (ls' := [(0, .inr (.inr (some 0))), (1, .inl (x1))]) (st' := [.inr (.inr (some 26))]) (nc' := 126) (np' := 138) (M' := M) 2 rfl ?_
      obtain ⟨v3, hv, h⟩ := ob_i h
      refine ev_call (t := 117) (as := [.inr (.inr (some 26))]) (rest := []) rfl rfl rfl (by omega) (Trip_forksBack_26_e (by omega)  M _ hv) ?_
      refine ev_k (pc' := 47) (ls' := [(0, .inr (.inr (some 0))), (1, .inl (x1))]) (st' := [.inl (v3)]) (nc' := 126) (np' := 138) (M' := M) 0 rfl ?_
      cases h
      exact ev_ret rfl
    · skip
      rcases if_i h with ⟨hq, h⟩ | ⟨hq2, h⟩
      · refine ev_tsw 48 rfl hR (47) (Or.inr ⟨by rw [hq]; decide, by rw [hq]; rfl⟩) (by decide) ?_
        refine ev_k (pc' := 52) (ls' := [(0, .inr (.inr (some 0))), (1, .inl (x1))]) (st' := [.inr (.inr (some 26))]) (nc' := 126) (np' := 138) (M' := M) 2 rfl ?_
        obtain ⟨v4, hv, h⟩ := ob_i h
        refine ev_call (t := 120) (as := [.inr (.inr (some 26))]) (rest := []) rfl rfl rfl (by omega) (Trip_blindBack_26_e (by omega)  M _ hv) ?_
        refine ev_k (pc' := 55) (ls' := [(0, .inr (.inr (some 0))), (1, .inl (x1))]) (st' := [.inl (v4)]) (nc' := 126) (np' := 138) (M' := M) 0 rfl ?_
        cases h
        exact ev_ret rfl
      · skip
        rcases if_i h with ⟨hq, h⟩ | ⟨hq3, h⟩
        · refine ev_tsw 56 rfl hR (55) (Or.inr ⟨by rw [hq]; decide, by rw [hq]; rfl⟩) (by decide) ?_
          refine ev_k (pc' := 60) (ls' := [(0, .inr (.inr (some 0))), (1, .inl (x1))]) (st' := [.inr (.inr (some 26))]) (nc' := 126) (np' := 138) (M' := M) 2 rfl ?_
          obtain ⟨v5, hv, h⟩ := ob_i h
          refine ev_call (t := 122) (as := [.inr (.inr (some 26))]) (rest := []) rfl rfl rfl (by omega) (Trip_firstBlindBack_26_e (by omega)  M _ hv) ?_
          refine ev_k (pc' := 63) (ls' := [(0, .inr (.inr (some 0))), (1, .inl (x1))]) (st' := [.inl (v5)]) (nc' := 126) (np' := 138) (M' := M) 0 rfl ?_
          cases h
          exact ev_ret rfl
        · skip
          have hho : ((x1) < 0 ∨ 3 < (x1)) ∨ ((x1) = 0 ∨ (x1) = 1 ∨ (x1) = 2 ∨ (x1) = 3) := by omega
          refine ev_tsw 64 rfl hR (63) ?_ (by decide) ?_
          · rcases hho with hho | hho
            · exact Or.inl ⟨hho, rfl⟩
            · rcases hho with hho | hho | hho | hho
              · exact absurd hho hq0
              · exact absurd hho hq1
              · exact absurd hho hq2
              · exact absurd hho hq3
          · skip
            refine ev_k (pc' := 65) (ls' := [(0, .inr (.inr (some 0))), (1, .inl (x1))]) (st' := [.inl (-1)]) (nc' := 126) (np' := 138) (M' := M) 1 rfl ?_
            cases h
            exact ev_ret rfl
