def Shifts_new_57_1_5_n58     (M : am_M) : Option (am_M) := nw M 58 fun M1 => nw M1 59 fun M2 => nw M2 60 fun M3 => nw M3 61 fun M4 => nw M4 62 fun M5 => some (M5)
theorem Shifts_new_57_1_5_n58_e {L : Nat} {xs : Nat → Int} {d : Nat} (hd : 0 ≤ d)    (M : am_M) (r : am_M) (h : Shifts_new_57_1_5_n58    M = some r) : am_Ev L xs d me_12 0 (am_ar1 0 [.inr (.inr (some 57)), .inr (.inr (some 1)), .inr (.inr (some 5))]) [] 58 66 M (none, 63, 73, r) := by
  refine ev_k (pc' := 8) (ls' := [(0, .inr (.inr (some 57))), (1, .inr (.inr (some 1))), (2, .inr (.inr (some 5)))]) (st' := [.inr (.inr (some 58)), .inr (.inr (some 57))]) (nc' := 59) (np' := 66) (M' := am_zr M 58) 5 rfl ?_
  obtain ⟨M1, eM, h⟩ := nw_i h
  rw [← eM]
  refine ev_k (pc' := 16) (ls' := [(0, .inr (.inr (some 57))), (1, .inr (.inr (some 1))), (2, .inr (.inr (some 5)))]) (st' := [.inr (.inr (some 59)), .inr (.inr (some 57))]) (nc' := 60) (np' := 67) (M' := am_zr M1 59) 4 rfl ?_
  obtain ⟨M2, eM, h⟩ := nw_i h
  rw [← eM]
  refine ev_k (pc' := 25) (ls' := [(0, .inr (.inr (some 57))), (1, .inr (.inr (some 1))), (2, .inr (.inr (some 5)))]) (st' := [.inr (.inr (some 60)), .inr (.inr (some 57))]) (nc' := 61) (np' := 68) (M' := am_zr M2 60) 4 rfl ?_
  obtain ⟨M3, eM, h⟩ := nw_i h
  rw [← eM]
  refine ev_k (pc' := 33) (ls' := [(0, .inr (.inr (some 57))), (1, .inr (.inr (some 1))), (2, .inr (.inr (some 5)))]) (st' := [.inr (.inr (some 61)), .inr (.inr (some 57))]) (nc' := 62) (np' := 69) (M' := am_zr M3 61) 4 rfl ?_
  obtain ⟨M4, eM, h⟩ := nw_i h
  rw [← eM]
  refine ev_k (pc' := 41) (ls' := [(0, .inr (.inr (some 57))), (1, .inr (.inr (some 1))), (2, .inr (.inr (some 5)))]) (st' := [.inr (.inr (some 62)), .inr (.inr (some 57))]) (nc' := 63) (np' := 70) (M' := am_zr M4 62) 4 rfl ?_
  obtain ⟨M5, eM, h⟩ := nw_i h
  rw [← eM]
  refine ev_k (pc' := 54) (ls' := [(0, .inr (.inr (some 57))), (1, .inr (.inr (some 1))), (2, .inr (.inr (some 5)))]) (st' := []) (nc' := 63) (np' := 73) (M' := M5) 7 rfl ?_
  cases h
  exact ev_ret rfl
def Search_new_63_n64     (M : am_M) : Option (am_M) := nw M 64 fun M1 => nw M1 65 fun M2 => nw M2 66 fun M3 => nw M3 67 fun M4 => some (M4)
theorem Search_new_63_n64_e {L : Nat} {xs : Nat → Int} {d : Nat} (hd : 0 ≤ d)    (M : am_M) (r : am_M) (h : Search_new_63_n64    M = some r) : am_Ev L xs d me_13 0 (am_ar1 0 [.inr (.inr (some 63))]) [] 64 74 M (none, 68, 78, r) := by
  refine ev_k (pc' := 9) (ls' := [(0, .inr (.inr (some 63)))]) (st' := [.inr (.inr (some 64)), .inr (.inr (some 63))]) (nc' := 65) (np' := 74) (M' := am_zr M 64) 5 rfl ?_
  obtain ⟨M1, eM, h⟩ := nw_i h
  rw [← eM]
  refine ev_k (pc' := 17) (ls' := [(0, .inr (.inr (some 63)))]) (st' := [.inr (.inr (some 65)), .inr (.inr (some 63))]) (nc' := 66) (np' := 75) (M' := am_zr M1 65) 4 rfl ?_
  obtain ⟨M2, eM, h⟩ := nw_i h
  rw [← eM]
  refine ev_k (pc' := 25) (ls' := [(0, .inr (.inr (some 63)))]) (st' := [.inr (.inr (some 66)), .inr (.inr (some 63))]) (nc' := 67) (np' := 76) (M' := am_zr M2 66) 4 rfl ?_
  obtain ⟨M3, eM, h⟩ := nw_i h
  rw [← eM]
  refine ev_k (pc' := 33) (ls' := [(0, .inr (.inr (some 63)))]) (st' := [.inr (.inr (some 67)), .inr (.inr (some 63))]) (nc' := 68) (np' := 77) (M' := am_zr M3 67) 4 rfl ?_
  obtain ⟨M4, eM, h⟩ := nw_i h
  rw [← eM]
  refine ev_k (pc' := 36) (ls' := [(0, .inr (.inr (some 63)))]) (st' := []) (nc' := 68) (np' := 78) (M' := M4) 1 rfl ?_
  cases h
  exact ev_ret rfl
def Overgrowth_new_68_1_5_n69     (M : am_M) : Option (am_M) := nw M 69 fun M1 => nw M1 70 fun M2 => nw M2 71 fun M3 => some (M3)
theorem Overgrowth_new_68_1_5_n69_e {L : Nat} {xs : Nat → Int} {d : Nat} (hd : 0 ≤ d)    (M : am_M) (r : am_M) (h : Overgrowth_new_68_1_5_n69    M = some r) : am_Ev L xs d me_14 0 (am_ar1 0 [.inr (.inr (some 68)), .inr (.inr (some 1)), .inr (.inr (some 5))]) [] 69 79 M (none, 72, 84, r) := by
  refine ev_k (pc' := 10) (ls' := [(0, .inr (.inr (some 68))), (1, .inr (.inr (some 1))), (2, .inr (.inr (some 5)))]) (st' := [.inr (.inr (some 69)), .inr (.inr (some 68))]) (nc' := 70) (np' := 79) (M' := am_zr M 69) 5 rfl ?_
  obtain ⟨M1, eM, h⟩ := nw_i h
  rw [← eM]
  refine ev_k (pc' := 18) (ls' := [(0, .inr (.inr (some 68))), (1, .inr (.inr (some 1))), (2, .inr (.inr (some 5)))]) (st' := [.inr (.inr (some 70)), .inr (.inr (some 68))]) (nc' := 71) (np' := 80) (M' := am_zr M1 70) 4 rfl ?_
  obtain ⟨M2, eM, h⟩ := nw_i h
  rw [← eM]
  refine ev_k (pc' := 26) (ls' := [(0, .inr (.inr (some 68))), (1, .inr (.inr (some 1))), (2, .inr (.inr (some 5)))]) (st' := [.inr (.inr (some 71)), .inr (.inr (some 68))]) (nc' := 72) (np' := 81) (M' := am_zr M2 71) 4 rfl ?_
  obtain ⟨M3, eM, h⟩ := nw_i h
  rw [← eM]
  refine ev_k (pc' := 39) (ls' := [(0, .inr (.inr (some 68))), (1, .inr (.inr (some 1))), (2, .inr (.inr (some 5)))]) (st' := []) (nc' := 72) (np' := 84) (M' := M3) 7 rfl ?_
  cases h
  exact ev_ret rfl
def Legs_new_72_n73     (M : am_M) : Option (Unit) := some (())
theorem Legs_new_72_n73_e {L : Nat} {xs : Nat → Int} {d : Nat} (hd : 0 ≤ d)    (M : am_M) (r : Unit) (h : Legs_new_72_n73    M = some r) : am_Ev L xs d me_15 0 (am_ar1 0 [.inr (.inr (some 72))]) [] 73 85 M (none, 73, 85, M) := by
  refine ev_k (pc' := 4) (ls' := [(0, .inr (.inr (some 72)))]) (st' := []) (nc' := 73) (np' := 85) (M' := M) 2 rfl ?_
  cases h
  exact ev_ret rfl
def P_new_n1     (M : am_M) : Option (am_M) := nw M 1 fun M1 => ob (Country_new_1_n2  M1) fun M2 => nw M2 5 fun M3 => ob (Law_new_5_n6  M3) fun M4 => nw M4 14 fun M5 => ob (Tape_new_n15  M5) fun M6 => nw M6 16 fun M7 => ob (LawReader_new_16_n17  M7) fun M8 => nw M8 26 fun M9 => ob (Trip_new_26_1_5_n27  M9) fun M10 => nw M10 34 fun M11 => ob (Trip_new_34_1_5_n35  M11) fun M12 => nw M12 42 fun M13 => ob (Trip_new_42_1_5_n43  M13) fun M14 => fz M14 0 7 (0) fun M15 => nw M15 50 fun M16 => ob (Outing_new_50_1_5_n51  M16) fun M17 => nw M17 52 fun M18 => ob (Routes_new_52_1_5_n53  M18) fun M19 => nw M19 57 fun M20 => ob (Shifts_new_57_1_5_n58  M20) fun M21 => nw M21 63 fun M22 => ob (Search_new_63_n64  M22) fun M23 => nw M23 68 fun M24 => ob (Overgrowth_new_68_1_5_n69  M24) fun M25 => nw M25 72 fun M26 => ob (Legs_new_72_n73  M26) fun u27 => some (M26)
theorem P_new_n1_e {L : Nat} {xs : Nat → Int} {d : Nat} (hd : 4 ≤ d)    (M : am_M) (r : am_M) (h : P_new_n1    M = some r) : am_Ev L xs d me_0 0 (am_ar1 0 [.inr (.inr (some 0))]) [] 1 0 M (none, 73, 86, r) := by
  refine ev_k (pc' := 7) (ls' := [(0, .inr (.inr (some 0)))]) (st' := [.inr (.inr (some 1))]) (nc' := 2) (np' := 0) (M' := am_zr M 1) 3 rfl ?_
  obtain ⟨M1, eM, h⟩ := nw_i h
  rw [← eM]
  refine ev_k (pc' := 8) (ls' := [(0, .inr (.inr (some 0)))]) (st' := [.inr (.inr (some 1)), .inr (.inr (some 1))]) (nc' := 2) (np' := 0) (M' := M1) 1 rfl ?_
  obtain ⟨M2, hv, h⟩ := ob_i h
  refine ev_call (t := 1) (as := [.inr (.inr (some 1))]) (rest := [.inr (.inr (some 1))]) rfl rfl rfl (by omega) (Country_new_1_n2_e (by omega)  M1 _ hv) ?_
  refine ev_k (pc' := 15) (ls' := [(1, .inr (.inr (some 1))), (0, .inr (.inr (some 0)))]) (st' := [.inr (.inr (some 5))]) (nc' := 6) (np' := 3) (M' := am_zr M2 5) 2 rfl ?_
  obtain ⟨M3, eM, h⟩ := nw_i h
  rw [← eM]
  refine ev_k (pc' := 16) (ls' := [(1, .inr (.inr (some 1))), (0, .inr (.inr (some 0)))]) (st' := [.inr (.inr (some 5)), .inr (.inr (some 5))]) (nc' := 6) (np' := 3) (M' := M3) 1 rfl ?_
  obtain ⟨M4, hv, h⟩ := ob_i h
  refine ev_call (t := 3) (as := [.inr (.inr (some 5))]) (rest := [.inr (.inr (some 5))]) rfl rfl rfl (by omega) (Law_new_5_n6_e (by omega)  M3 _ hv) ?_
  refine ev_k (pc' := 24) (ls' := [(2, .inr (.inr (some 5))), (1, .inr (.inr (some 1))), (0, .inr (.inr (some 0)))]) (st' := [.inr (.inr (some 14)), .inr (.inr (some 0))]) (nc' := 15) (np' := 11) (M' := am_zr M4 14) 3 rfl ?_
  obtain ⟨M5, eM, h⟩ := nw_i h
  rw [← eM]
  refine ev_k (pc' := 25) (ls' := [(2, .inr (.inr (some 5))), (1, .inr (.inr (some 1))), (0, .inr (.inr (some 0)))]) (st' := [.inr (.inr (some 14)), .inr (.inr (some 14)), .inr (.inr (some 0))]) (nc' := 15) (np' := 11) (M' := M5) 1 rfl ?_
  obtain ⟨M6, hv, h⟩ := ob_i h
  refine ev_call (t := 4) (as := [.inr (.inr (some 14))]) (rest := [.inr (.inr (some 14)), .inr (.inr (some 0))]) rfl rfl rfl (by omega) (Tape_new_n15_e (by omega)  M5 _ hv) ?_
  refine ev_k (pc' := 45) (ls' := [(2, .inr (.inr (some 5))), (1, .inr (.inr (some 1))), (0, .inr (.inr (some 0)))]) (st' := [.inr (.inr (some 16)), .inr (.inr (some 0))]) (nc' := 17) (np' := 15) (M' := am_zr M6 16) 9 rfl ?_
  obtain ⟨M7, eM, h⟩ := nw_i h
  rw [← eM]
  refine ev_k (pc' := 46) (ls' := [(2, .inr (.inr (some 5))), (1, .inr (.inr (some 1))), (0, .inr (.inr (some 0)))]) (st' := [.inr (.inr (some 16)), .inr (.inr (some 16)), .inr (.inr (some 0))]) (nc' := 17) (np' := 15) (M' := M7) 1 rfl ?_
  obtain ⟨M8, hv, h⟩ := ob_i h
  refine ev_call (t := 5) (as := [.inr (.inr (some 16))]) (rest := [.inr (.inr (some 16)), .inr (.inr (some 0))]) rfl rfl rfl (by omega) (LawReader_new_16_n17_e (by omega)  M7 _ hv) ?_
  refine ev_k (pc' := 56) (ls' := [(2, .inr (.inr (some 5))), (1, .inr (.inr (some 1))), (0, .inr (.inr (some 0)))]) (st' := [.inr (.inr (some 26)), .inr (.inr (some 0))]) (nc' := 27) (np' := 25) (M' := am_zr M8 26) 3 rfl ?_
  obtain ⟨M9, eM, h⟩ := nw_i h
  rw [← eM]
  refine ev_k (pc' := 59) (ls' := [(2, .inr (.inr (some 5))), (1, .inr (.inr (some 1))), (0, .inr (.inr (some 0)))]) (st' := [.inr (.inr (some 5)), .inr (.inr (some 1)), .inr (.inr (some 26)), .inr (.inr (some 26)), .inr (.inr (some 0))]) (nc' := 27) (np' := 25) (M' := M9) 3 rfl ?_
  obtain ⟨M10, hv, h⟩ := ob_i h
  refine ev_call (t := 6) (as := [.inr (.inr (some 26)), .inr (.inr (some 1)), .inr (.inr (some 5))]) (rest := [.inr (.inr (some 26)), .inr (.inr (some 0))]) rfl rfl rfl (by omega) (Trip_new_26_1_5_n27_e (by omega)  M9 _ hv) ?_
  refine ev_k (pc' := 69) (ls' := [(2, .inr (.inr (some 5))), (1, .inr (.inr (some 1))), (0, .inr (.inr (some 0)))]) (st' := [.inr (.inr (some 34)), .inr (.inr (some 0))]) (nc' := 35) (np' := 35) (M' := am_zr M10 34) 3 rfl ?_
  obtain ⟨M11, eM, h⟩ := nw_i h
  rw [← eM]
  refine ev_k (pc' := 72) (ls' := [(2, .inr (.inr (some 5))), (1, .inr (.inr (some 1))), (0, .inr (.inr (some 0)))]) (st' := [.inr (.inr (some 5)), .inr (.inr (some 1)), .inr (.inr (some 34)), .inr (.inr (some 34)), .inr (.inr (some 0))]) (nc' := 35) (np' := 35) (M' := M11) 3 rfl ?_
  obtain ⟨M12, hv, h⟩ := ob_i h
  refine ev_call (t := 6) (as := [.inr (.inr (some 34)), .inr (.inr (some 1)), .inr (.inr (some 5))]) (rest := [.inr (.inr (some 34)), .inr (.inr (some 0))]) rfl rfl rfl (by omega) (Trip_new_34_1_5_n35_e (by omega)  M11 _ hv) ?_
  refine ev_k (pc' := 82) (ls' := [(2, .inr (.inr (some 5))), (1, .inr (.inr (some 1))), (0, .inr (.inr (some 0)))]) (st' := [.inr (.inr (some 42)), .inr (.inr (some 0))]) (nc' := 43) (np' := 45) (M' := am_zr M12 42) 3 rfl ?_
  obtain ⟨M13, eM, h⟩ := nw_i h
  rw [← eM]
  refine ev_k (pc' := 85) (ls' := [(2, .inr (.inr (some 5))), (1, .inr (.inr (some 1))), (0, .inr (.inr (some 0)))]) (st' := [.inr (.inr (some 5)), .inr (.inr (some 1)), .inr (.inr (some 42)), .inr (.inr (some 42)), .inr (.inr (some 0))]) (nc' := 43) (np' := 45) (M' := M13) 3 rfl ?_
  obtain ⟨M14, hv, h⟩ := ob_i h
  refine ev_call (t := 6) (as := [.inr (.inr (some 42)), .inr (.inr (some 1)), .inr (.inr (some 5))]) (rest := [.inr (.inr (some 42)), .inr (.inr (some 0))]) rfl rfl rfl (by omega) (Trip_new_42_1_5_n43_e (by omega)  M13 _ hv) ?_
  refine ev_k (pc' := 93) (ls' := [(2, .inr (.inr (some 5))), (1, .inr (.inr (some 1))), (0, .inr (.inr (some 0)))]) (st' := [.inl (0), .inr (.inr (some 0))]) (nc' := 50) (np' := 55) (M' := M14) 3 rfl ?_
  obtain ⟨hc, M15, eM, h⟩ := fz_i h
  refine ev_putz (k := 0) (j := 7) rfl rfl (by decide) rfl rfl hc eM ?_
  refine ev_k (pc' := 100) (ls' := [(2, .inr (.inr (some 5))), (1, .inr (.inr (some 1))), (0, .inr (.inr (some 0)))]) (st' := [.inr (.inr (some 50)), .inr (.inr (some 0))]) (nc' := 51) (np' := 55) (M' := am_zr M15 50) 2 rfl ?_
  obtain ⟨M16, eM, h⟩ := nw_i h
  rw [← eM]
  refine ev_k (pc' := 103) (ls' := [(2, .inr (.inr (some 5))), (1, .inr (.inr (some 1))), (0, .inr (.inr (some 0)))]) (st' := [.inr (.inr (some 5)), .inr (.inr (some 1)), .inr (.inr (some 50)), .inr (.inr (some 50)), .inr (.inr (some 0))]) (nc' := 51) (np' := 55) (M' := M16) 3 rfl ?_
  obtain ⟨M17, hv, h⟩ := ob_i h
  refine ev_call (t := 10) (as := [.inr (.inr (some 50)), .inr (.inr (some 1)), .inr (.inr (some 5))]) (rest := [.inr (.inr (some 50)), .inr (.inr (some 0))]) rfl rfl rfl (by omega) (Outing_new_50_1_5_n51_e (by omega)  M16 _ hv) ?_
  refine ev_k (pc' := 113) (ls' := [(2, .inr (.inr (some 5))), (1, .inr (.inr (some 1))), (0, .inr (.inr (some 0)))]) (st' := [.inr (.inr (some 52)), .inr (.inr (some 0))]) (nc' := 53) (np' := 59) (M' := am_zr M17 52) 3 rfl ?_
  obtain ⟨M18, eM, h⟩ := nw_i h
  rw [← eM]
  refine ev_k (pc' := 116) (ls' := [(2, .inr (.inr (some 5))), (1, .inr (.inr (some 1))), (0, .inr (.inr (some 0)))]) (st' := [.inr (.inr (some 5)), .inr (.inr (some 1)), .inr (.inr (some 52)), .inr (.inr (some 52)), .inr (.inr (some 0))]) (nc' := 53) (np' := 59) (M' := M18) 3 rfl ?_
  obtain ⟨M19, hv, h⟩ := ob_i h
  refine ev_call (t := 11) (as := [.inr (.inr (some 52)), .inr (.inr (some 1)), .inr (.inr (some 5))]) (rest := [.inr (.inr (some 52)), .inr (.inr (some 0))]) rfl rfl rfl (by omega) (Routes_new_52_1_5_n53_e (by omega)  M18 _ hv) ?_
  refine ev_k (pc' := 126) (ls' := [(2, .inr (.inr (some 5))), (1, .inr (.inr (some 1))), (0, .inr (.inr (some 0)))]) (st' := [.inr (.inr (some 57)), .inr (.inr (some 0))]) (nc' := 58) (np' := 66) (M' := am_zr M19 57) 3 rfl ?_
  obtain ⟨M20, eM, h⟩ := nw_i h
  rw [← eM]
  refine ev_k (pc' := 129) (ls' := [(2, .inr (.inr (some 5))), (1, .inr (.inr (some 1))), (0, .inr (.inr (some 0)))]) (st' := [.inr (.inr (some 5)), .inr (.inr (some 1)), .inr (.inr (some 57)), .inr (.inr (some 57)), .inr (.inr (some 0))]) (nc' := 58) (np' := 66) (M' := M20) 3 rfl ?_
  obtain ⟨M21, hv, h⟩ := ob_i h
  refine ev_call (t := 12) (as := [.inr (.inr (some 57)), .inr (.inr (some 1)), .inr (.inr (some 5))]) (rest := [.inr (.inr (some 57)), .inr (.inr (some 0))]) rfl rfl rfl (by omega) (Shifts_new_57_1_5_n58_e (by omega)  M20 _ hv) ?_
  refine ev_k (pc' := 139) (ls' := [(2, .inr (.inr (some 5))), (1, .inr (.inr (some 1))), (0, .inr (.inr (some 0)))]) (st' := [.inr (.inr (some 63)), .inr (.inr (some 0))]) (nc' := 64) (np' := 74) (M' := am_zr M21 63) 3 rfl ?_
  obtain ⟨M22, eM, h⟩ := nw_i h
  rw [← eM]
  refine ev_k (pc' := 140) (ls' := [(2, .inr (.inr (some 5))), (1, .inr (.inr (some 1))), (0, .inr (.inr (some 0)))]) (st' := [.inr (.inr (some 63)), .inr (.inr (some 63)), .inr (.inr (some 0))]) (nc' := 64) (np' := 74) (M' := M22) 1 rfl ?_
  obtain ⟨M23, hv, h⟩ := ob_i h
  refine ev_call (t := 13) (as := [.inr (.inr (some 63))]) (rest := [.inr (.inr (some 63)), .inr (.inr (some 0))]) rfl rfl rfl (by omega) (Search_new_63_n64_e (by omega)  M22 _ hv) ?_
  refine ev_k (pc' := 150) (ls' := [(2, .inr (.inr (some 5))), (1, .inr (.inr (some 1))), (0, .inr (.inr (some 0)))]) (st' := [.inr (.inr (some 68)), .inr (.inr (some 0))]) (nc' := 69) (np' := 79) (M' := am_zr M23 68) 3 rfl ?_
  obtain ⟨M24, eM, h⟩ := nw_i h
  rw [← eM]
  refine ev_k (pc' := 153) (ls' := [(2, .inr (.inr (some 5))), (1, .inr (.inr (some 1))), (0, .inr (.inr (some 0)))]) (st' := [.inr (.inr (some 5)), .inr (.inr (some 1)), .inr (.inr (some 68)), .inr (.inr (some 68)), .inr (.inr (some 0))]) (nc' := 69) (np' := 79) (M' := M24) 3 rfl ?_
  obtain ⟨M25, hv, h⟩ := ob_i h
  refine ev_call (t := 14) (as := [.inr (.inr (some 68)), .inr (.inr (some 1)), .inr (.inr (some 5))]) (rest := [.inr (.inr (some 68)), .inr (.inr (some 0))]) rfl rfl rfl (by omega) (Overgrowth_new_68_1_5_n69_e (by omega)  M24 _ hv) ?_
  refine ev_k (pc' := 163) (ls' := [(2, .inr (.inr (some 5))), (1, .inr (.inr (some 1))), (0, .inr (.inr (some 0)))]) (st' := [.inr (.inr (some 72)), .inr (.inr (some 0))]) (nc' := 73) (np' := 85) (M' := am_zr M25 72) 3 rfl ?_
  obtain ⟨M26, eM, h⟩ := nw_i h
  rw [← eM]
  refine ev_k (pc' := 164) (ls' := [(2, .inr (.inr (some 5))), (1, .inr (.inr (some 1))), (0, .inr (.inr (some 0)))]) (st' := [.inr (.inr (some 72)), .inr (.inr (some 72)), .inr (.inr (some 0))]) (nc' := 73) (np' := 85) (M' := M26) 1 rfl ?_
  obtain ⟨u27, hv, h⟩ := ob_i h
  refine ev_call (t := 15) (as := [.inr (.inr (some 72))]) (rest := [.inr (.inr (some 72)), .inr (.inr (some 0))]) rfl rfl rfl (by omega) (Legs_new_72_n73_e (by omega)  M26 _ hv) ?_
  refine ev_k (pc' := 170) (ls' := [(2, .inr (.inr (some 5))), (1, .inr (.inr (some 1))), (0, .inr (.inr (some 0)))]) (st' := []) (nc' := 73) (np' := 86) (M' := M26) 1 rfl ?_
  cases h
  exact ev_ret rfl
def R_new_n74_454    : Nat → Int → am_M → Option (am_M)
  | 0, _, _ => none
  | n + 1, x1, M => c_ge (x1) (144)
       (ob (R_beginsPath (0) M) fun M1 => some (M1))
       (wa M 75 144 (x1) (2) fun M2 => (R_new_n74_454    n ((x1) + (1)) M2))
def R_new_n74     (M : am_M) : Option (am_M) := nw M 74 fun M1 => fw M1 73 2 (1) fun M2 => nw M2 75 fun M3 => nw M3 76 fun M4 => nw M4 77 fun M5 => nw M5 78 fun M6 => nw M6 79 fun M7 => nw M7 80 fun M8 => nw M8 81 fun M9 => nw M9 82 fun M10 => nw M10 83 fun M11 => nw M11 84 fun M12 => nw M12 85 fun M13 => nw M13 86 fun M14 => nw M14 87 fun M15 => nw M15 88 fun M16 => nw M16 89 fun M17 => nw M17 90 fun M18 => nw M18 91 fun M19 => nw M19 92 fun M20 => nw M20 93 fun M21 => nw M21 94 fun M22 => fw M22 73 41 (-1) fun M23 => fw M23 73 42 (1) fun M24 => fw M24 73 43 (600) fun M25 => nw M25 95 fun M26 => nw M26 96 fun M27 => nw M27 97 fun M28 => nw M28 98 fun M29 => nw M29 99 fun M30 => nw M30 100 fun M31 => nw M31 101 fun M32 => nw M32 102 fun M33 => nw M33 103 fun M34 => nw M34 104 fun M35 => nw M35 105 fun M36 => nw M36 106 fun M37 => nw M37 107 fun M38 => nw M38 108 fun M39 => nw M39 109 fun M40 => nw M40 110 fun M41 => nw M41 111 fun M42 => nw M42 112 fun M43 => nw M43 113 fun M44 => nw M44 114 fun M45 => nw M45 115 fun M46 => nw M46 116 fun M47 => nw M47 117 fun M48 => nw M48 118 fun M49 => nw M49 119 fun M50 => nw M50 120 fun M51 => nw M51 121 fun M52 => nw M52 122 fun M53 => nw M53 123 fun M54 => nw M54 124 fun M55 => nw M55 125 fun M56 => (R_new_n74_454    am_big (0) M56)
theorem R_new_n74_454_t {L : Nat} {xs : Nat → Int} {d : Nat} (hd : 2 ≤ d)     : ∀ (n : Nat) (x1 : Int) (M : am_M) (r : am_M), R_new_n74_454    n x1 M = some r → am_Ev L xs d me_187 454 [(0, .inr (.inr (some 73))), (1, .inl (x1))] [] 126 138 M (none, 126, 138, r)
  | 0, _, M, r, h => by cases h
  | n + 1, x1, M, r, h => by
    have ih := R_new_n74_454_t (L := L) (xs := xs) hd     n
    refine ev_k (pc' := 458) (ls' := [(0, .inr (.inr (some 73))), (1, .inl (x1))]) (st' := [.inl (144), .inl (x1)]) (nc' := 126) (np' := 138) (M' := M) 2 rfl ?_
    obtain ⟨hR, ⟨hc, h⟩ | ⟨hc, h⟩⟩ := c_ge_i h
    · refine ev_icmp 474 rfl hR.1 hR.2 (by decide) (fun _ => ?_) (fun q => absurd hc q)
      refine ev_k (pc' := 476) (ls' := [(0, .inr (.inr (some 73))), (1, .inl (x1))]) (st' := [.inl (0), .inr (.inr (some 73))]) (nc' := 126) (np' := 138) (M' := M) 2 rfl ?_
      obtain ⟨M1, hv, h⟩ := ob_i h
      refine ev_call (t := 188) (as := [.inr (.inr (some 73)), .inl (0)]) (rest := []) rfl rfl rfl (by omega) (R_beginsPath_e (by omega) (0) M _ hv) ?_
      refine ev_k (pc' := 479) (ls' := [(0, .inr (.inr (some 73))), (1, .inl (x1))]) (st' := []) (nc' := 126) (np' := 138) (M' := M1) 0 rfl ?_
      cases h
      exact ev_ret rfl
    · refine ev_icmp 474 rfl hR.1 hR.2 (by decide) (fun q => absurd q hc) (fun _ => ?_)
      refine ev_k (pc' := 467) (ls' := [(0, .inr (.inr (some 73))), (1, .inl (x1))]) (st' := [.inl (2), .inl (x1), .inr (.inr (some 75))]) (nc' := 126) (np' := 138) (M' := M) 4 rfl ?_
      obtain ⟨hc, M2, eM, h⟩ := wa_i h
      refine ev_iast (k := 75) rfl (by decide) rfl hc eM ?_
      refine ev_k (pc' := 454) (ls' := [(0, .inr (.inr (some 73))), (1, .inl ((x1) + (1)))]) (st' := []) (nc' := 126) (np' := 138) (M' := M2) 2 rfl ?_
      exact ih ((x1) + (1)) M2 r h
theorem R_new_n74_e {L : Nat} {xs : Nat → Int} {d : Nat} (hd : 2 ≤ d)    (M : am_M) (r : am_M) (h : R_new_n74    M = some r) : am_Ev L xs d me_187 0 (am_ar1 0 [.inr (.inr (some 73))]) [] 74 86 M (none, 126, 138, r) := by
  refine ev_k (pc' := 10) (ls' := [(0, .inr (.inr (some 73)))]) (st' := [.inr (.inr (some 74)), .inr (.inr (some 73))]) (nc' := 75) (np' := 86) (M' := am_zr M 74) 5 rfl ?_
  obtain ⟨M1, eM, h⟩ := nw_i h
  rw [← eM]
  refine ev_k (pc' := 18) (ls' := [(0, .inr (.inr (some 73)))]) (st' := []) (nc' := 75) (np' := 87) (M' := am_up M1 73 2 (1)) 4 rfl ?_
  obtain ⟨M2, eM, h⟩ := fw_i h
  rw [← eM]
  refine ev_k (pc' := 24) (ls' := [(0, .inr (.inr (some 73)))]) (st' := [.inr (.inr (some 75)), .inr (.inr (some 73))]) (nc' := 76) (np' := 87) (M' := am_zr M2 75) 3 rfl ?_
  obtain ⟨M3, eM, h⟩ := nw_i h
  rw [← eM]
  refine ev_k (pc' := 33) (ls' := [(0, .inr (.inr (some 73)))]) (st' := [.inr (.inr (some 76)), .inr (.inr (some 73))]) (nc' := 77) (np' := 88) (M' := am_zr M3 76) 4 rfl ?_
  obtain ⟨M4, eM, h⟩ := nw_i h
  rw [← eM]
  refine ev_k (pc' := 41) (ls' := [(0, .inr (.inr (some 73)))]) (st' := [.inr (.inr (some 77)), .inr (.inr (some 73))]) (nc' := 78) (np' := 89) (M' := am_zr M4 77) 4 rfl ?_
  obtain ⟨M5, eM, h⟩ := nw_i h
  rw [← eM]
  refine ev_k (pc' := 49) (ls' := [(0, .inr (.inr (some 73)))]) (st' := [.inr (.inr (some 78)), .inr (.inr (some 73))]) (nc' := 79) (np' := 90) (M' := am_zr M5 78) 4 rfl ?_
  obtain ⟨M6, eM, h⟩ := nw_i h
  rw [← eM]
  refine ev_k (pc' := 57) (ls' := [(0, .inr (.inr (some 73)))]) (st' := [.inr (.inr (some 79)), .inr (.inr (some 73))]) (nc' := 80) (np' := 91) (M' := am_zr M6 79) 4 rfl ?_
  obtain ⟨M7, eM, h⟩ := nw_i h
  rw [← eM]
  refine ev_k (pc' := 65) (ls' := [(0, .inr (.inr (some 73)))]) (st' := [.inr (.inr (some 80)), .inr (.inr (some 73))]) (nc' := 81) (np' := 92) (M' := am_zr M7 80) 4 rfl ?_
  obtain ⟨M8, eM, h⟩ := nw_i h
  rw [← eM]
  refine ev_k (pc' := 74) (ls' := [(0, .inr (.inr (some 73)))]) (st' := [.inr (.inr (some 81)), .inr (.inr (some 73))]) (nc' := 82) (np' := 93) (M' := am_zr M8 81) 4 rfl ?_
  obtain ⟨M9, eM, h⟩ := nw_i h
  rw [← eM]
  refine ev_k (pc' := 83) (ls' := [(0, .inr (.inr (some 73)))]) (st' := [.inr (.inr (some 82)), .inr (.inr (some 73))]) (nc' := 83) (np' := 94) (M' := am_zr M9 82) 4 rfl ?_
  obtain ⟨M10, eM, h⟩ := nw_i h
  rw [← eM]
  refine ev_k (pc' := 91) (ls' := [(0, .inr (.inr (some 73)))]) (st' := [.inr (.inr (some 83)), .inr (.inr (some 73))]) (nc' := 84) (np' := 95) (M' := am_zr M10 83) 4 rfl ?_
  obtain ⟨M11, eM, h⟩ := nw_i h
  rw [← eM]
  refine ev_k (pc' := 99) (ls' := [(0, .inr (.inr (some 73)))]) (st' := [.inr (.inr (some 84)), .inr (.inr (some 73))]) (nc' := 85) (np' := 96) (M' := am_zr M11 84) 4 rfl ?_
  obtain ⟨M12, eM, h⟩ := nw_i h
  rw [← eM]
  refine ev_k (pc' := 107) (ls' := [(0, .inr (.inr (some 73)))]) (st' := [.inr (.inr (some 85)), .inr (.inr (some 73))]) (nc' := 86) (np' := 97) (M' := am_zr M12 85) 4 rfl ?_
  obtain ⟨M13, eM, h⟩ := nw_i h
  rw [← eM]
  refine ev_k (pc' := 115) (ls' := [(0, .inr (.inr (some 73)))]) (st' := [.inr (.inr (some 86)), .inr (.inr (some 73))]) (nc' := 87) (np' := 98) (M' := am_zr M13 86) 4 rfl ?_
  obtain ⟨M14, eM, h⟩ := nw_i h
  rw [← eM]
  refine ev_k (pc' := 124) (ls' := [(0, .inr (.inr (some 73)))]) (st' := [.inr (.inr (some 87)), .inr (.inr (some 73))]) (nc' := 88) (np' := 99) (M' := am_zr M14 87) 4 rfl ?_
  obtain ⟨M15, eM, h⟩ := nw_i h
  rw [← eM]
  refine ev_k (pc' := 133) (ls' := [(0, .inr (.inr (some 73)))]) (st' := [.inr (.inr (some 88)), .inr (.inr (some 73))]) (nc' := 89) (np' := 100) (M' := am_zr M15 88) 4 rfl ?_
  obtain ⟨M16, eM, h⟩ := nw_i h
  rw [← eM]
  refine ev_k (pc' := 142) (ls' := [(0, .inr (.inr (some 73)))]) (st' := [.inr (.inr (some 89)), .inr (.inr (some 73))]) (nc' := 90) (np' := 101) (M' := am_zr M16 89) 4 rfl ?_
  obtain ⟨M17, eM, h⟩ := nw_i h
  rw [← eM]
  refine ev_k (pc' := 151) (ls' := [(0, .inr (.inr (some 73)))]) (st' := [.inr (.inr (some 90)), .inr (.inr (some 73))]) (nc' := 91) (np' := 102) (M' := am_zr M17 90) 4 rfl ?_
  obtain ⟨M18, eM, h⟩ := nw_i h
  rw [← eM]
  refine ev_k (pc' := 160) (ls' := [(0, .inr (.inr (some 73)))]) (st' := [.inr (.inr (some 91)), .inr (.inr (some 73))]) (nc' := 92) (np' := 103) (M' := am_zr M18 91) 4 rfl ?_
  obtain ⟨M19, eM, h⟩ := nw_i h
  rw [← eM]
  refine ev_k (pc' := 168) (ls' := [(0, .inr (.inr (some 73)))]) (st' := [.inr (.inr (some 92)), .inr (.inr (some 73))]) (nc' := 93) (np' := 104) (M' := am_zr M19 92) 4 rfl ?_
  obtain ⟨M20, eM, h⟩ := nw_i h
  rw [← eM]
  refine ev_k (pc' := 176) (ls' := [(0, .inr (.inr (some 73)))]) (st' := [.inr (.inr (some 93)), .inr (.inr (some 73))]) (nc' := 94) (np' := 105) (M' := am_zr M20 93) 4 rfl ?_
  obtain ⟨M21, eM, h⟩ := nw_i h
  rw [← eM]
  refine ev_k (pc' := 184) (ls' := [(0, .inr (.inr (some 73)))]) (st' := [.inr (.inr (some 94)), .inr (.inr (some 73))]) (nc' := 95) (np' := 106) (M' := am_zr M21 94) 4 rfl ?_
  obtain ⟨M22, eM, h⟩ := nw_i h
  rw [← eM]
  refine ev_k (pc' := 192) (ls' := [(0, .inr (.inr (some 73)))]) (st' := []) (nc' := 95) (np' := 107) (M' := am_up M22 73 41 (-1)) 4 rfl ?_
  obtain ⟨M23, eM, h⟩ := fw_i h
  rw [← eM]
  refine ev_k (pc' := 197) (ls' := [(0, .inr (.inr (some 73)))]) (st' := []) (nc' := 95) (np' := 107) (M' := am_up M23 73 42 (1)) 3 rfl ?_
  obtain ⟨M24, eM, h⟩ := fw_i h
  rw [← eM]
  refine ev_k (pc' := 204) (ls' := [(0, .inr (.inr (some 73)))]) (st' := []) (nc' := 95) (np' := 107) (M' := am_up M24 73 43 (600)) 3 rfl ?_
  obtain ⟨M25, eM, h⟩ := fw_i h
  rw [← eM]
  refine ev_k (pc' := 209) (ls' := [(0, .inr (.inr (some 73)))]) (st' := [.inr (.inr (some 95)), .inr (.inr (some 73))]) (nc' := 96) (np' := 107) (M' := am_zr M25 95) 3 rfl ?_
  obtain ⟨M26, eM, h⟩ := nw_i h
  rw [← eM]
  refine ev_k (pc' := 217) (ls' := [(0, .inr (.inr (some 73)))]) (st' := [.inr (.inr (some 96)), .inr (.inr (some 73))]) (nc' := 97) (np' := 108) (M' := am_zr M26 96) 4 rfl ?_
  obtain ⟨M27, eM, h⟩ := nw_i h
  rw [← eM]
  refine ev_k (pc' := 225) (ls' := [(0, .inr (.inr (some 73)))]) (st' := [.inr (.inr (some 97)), .inr (.inr (some 73))]) (nc' := 98) (np' := 109) (M' := am_zr M27 97) 4 rfl ?_
  obtain ⟨M28, eM, h⟩ := nw_i h
  rw [← eM]
  refine ev_k (pc' := 233) (ls' := [(0, .inr (.inr (some 73)))]) (st' := [.inr (.inr (some 98)), .inr (.inr (some 73))]) (nc' := 99) (np' := 110) (M' := am_zr M28 98) 4 rfl ?_
  obtain ⟨M29, eM, h⟩ := nw_i h
  rw [← eM]
  refine ev_k (pc' := 241) (ls' := [(0, .inr (.inr (some 73)))]) (st' := [.inr (.inr (some 99)), .inr (.inr (some 73))]) (nc' := 100) (np' := 111) (M' := am_zr M29 99) 4 rfl ?_
  obtain ⟨M30, eM, h⟩ := nw_i h
  rw [← eM]
  refine ev_k (pc' := 250) (ls' := [(0, .inr (.inr (some 73)))]) (st' := [.inr (.inr (some 100)), .inr (.inr (some 73))]) (nc' := 101) (np' := 112) (M' := am_zr M30 100) 4 rfl ?_
  obtain ⟨M31, eM, h⟩ := nw_i h
  rw [← eM]
  refine ev_k (pc' := 258) (ls' := [(0, .inr (.inr (some 73)))]) (st' := [.inr (.inr (some 101)), .inr (.inr (some 73))]) (nc' := 102) (np' := 113) (M' := am_zr M31 101) 4 rfl ?_
  obtain ⟨M32, eM, h⟩ := nw_i h
  rw [← eM]
  refine ev_k (pc' := 267) (ls' := [(0, .inr (.inr (some 73)))]) (st' := [.inr (.inr (some 102)), .inr (.inr (some 73))]) (nc' := 103) (np' := 114) (M' := am_zr M32 102) 4 rfl ?_
  obtain ⟨M33, eM, h⟩ := nw_i h
  rw [← eM]
  refine ev_k (pc' := 276) (ls' := [(0, .inr (.inr (some 73)))]) (st' := [.inr (.inr (some 103)), .inr (.inr (some 73))]) (nc' := 104) (np' := 115) (M' := am_zr M33 103) 4 rfl ?_
  obtain ⟨M34, eM, h⟩ := nw_i h
  rw [← eM]
  refine ev_k (pc' := 285) (ls' := [(0, .inr (.inr (some 73)))]) (st' := [.inr (.inr (some 104)), .inr (.inr (some 73))]) (nc' := 105) (np' := 116) (M' := am_zr M34 104) 4 rfl ?_
  obtain ⟨M35, eM, h⟩ := nw_i h
  rw [← eM]
  refine ev_k (pc' := 294) (ls' := [(0, .inr (.inr (some 73)))]) (st' := [.inr (.inr (some 105)), .inr (.inr (some 73))]) (nc' := 106) (np' := 117) (M' := am_zr M35 105) 4 rfl ?_
  obtain ⟨M36, eM, h⟩ := nw_i h
  rw [← eM]
  refine ev_k (pc' := 303) (ls' := [(0, .inr (.inr (some 73)))]) (st' := [.inr (.inr (some 106)), .inr (.inr (some 73))]) (nc' := 107) (np' := 118) (M' := am_zr M36 106) 4 rfl ?_
  obtain ⟨M37, eM, h⟩ := nw_i h
  rw [← eM]
  refine ev_k (pc' := 310) (ls' := [(0, .inr (.inr (some 73)))]) (st' := [.inr (.inr (some 107)), .inr (.inr (some 73))]) (nc' := 108) (np' := 119) (M' := am_zr M37 107) 4 rfl ?_
  obtain ⟨M38, eM, h⟩ := nw_i h
  rw [← eM]
  refine ev_k (pc' := 317) (ls' := [(0, .inr (.inr (some 73)))]) (st' := [.inr (.inr (some 108)), .inr (.inr (some 73))]) (nc' := 109) (np' := 120) (M' := am_zr M38 108) 4 rfl ?_
  obtain ⟨M39, eM, h⟩ := nw_i h
  rw [← eM]
  refine ev_k (pc' := 324) (ls' := [(0, .inr (.inr (some 73)))]) (st' := [.inr (.inr (some 109)), .inr (.inr (some 73))]) (nc' := 110) (np' := 121) (M' := am_zr M39 109) 4 rfl ?_
  obtain ⟨M40, eM, h⟩ := nw_i h
  rw [← eM]
  refine ev_k (pc' := 331) (ls' := [(0, .inr (.inr (some 73)))]) (st' := [.inr (.inr (some 110)), .inr (.inr (some 73))]) (nc' := 111) (np' := 122) (M' := am_zr M40 110) 4 rfl ?_
  obtain ⟨M41, eM, h⟩ := nw_i h
  rw [← eM]
  refine ev_k (pc' := 338) (ls' := [(0, .inr (.inr (some 73)))]) (st' := [.inr (.inr (some 111)), .inr (.inr (some 73))]) (nc' := 112) (np' := 123) (M' := am_zr M41 111) 4 rfl ?_
  obtain ⟨M42, eM, h⟩ := nw_i h
  rw [← eM]
  refine ev_k (pc' := 345) (ls' := [(0, .inr (.inr (some 73)))]) (st' := [.inr (.inr (some 112)), .inr (.inr (some 73))]) (nc' := 113) (np' := 124) (M' := am_zr M42 112) 4 rfl ?_
  obtain ⟨M43, eM, h⟩ := nw_i h
  rw [← eM]
  refine ev_k (pc' := 353) (ls' := [(0, .inr (.inr (some 73)))]) (st' := [.inr (.inr (some 113)), .inr (.inr (some 73))]) (nc' := 114) (np' := 125) (M' := am_zr M43 113) 4 rfl ?_
  obtain ⟨M44, eM, h⟩ := nw_i h
  rw [← eM]
  refine ev_k (pc' := 360) (ls' := [(0, .inr (.inr (some 73)))]) (st' := [.inr (.inr (some 114)), .inr (.inr (some 73))]) (nc' := 115) (np' := 126) (M' := am_zr M44 114) 4 rfl ?_
  obtain ⟨M45, eM, h⟩ := nw_i h
  rw [← eM]
  refine ev_k (pc' := 367) (ls' := [(0, .inr (.inr (some 73)))]) (st' := [.inr (.inr (some 115)), .inr (.inr (some 73))]) (nc' := 116) (np' := 127) (M' := am_zr M45 115) 4 rfl ?_
  obtain ⟨M46, eM, h⟩ := nw_i h
  rw [← eM]
  refine ev_k (pc' := 374) (ls' := [(0, .inr (.inr (some 73)))]) (st' := [.inr (.inr (some 116)), .inr (.inr (some 73))]) (nc' := 117) (np' := 128) (M' := am_zr M46 116) 4 rfl ?_
  obtain ⟨M47, eM, h⟩ := nw_i h
  rw [← eM]
  refine ev_k (pc' := 382) (ls' := [(0, .inr (.inr (some 73)))]) (st' := [.inr (.inr (some 117)), .inr (.inr (some 73))]) (nc' := 118) (np' := 129) (M' := am_zr M47 117) 4 rfl ?_
  obtain ⟨M48, eM, h⟩ := nw_i h
  rw [← eM]
  refine ev_k (pc' := 391) (ls' := [(0, .inr (.inr (some 73)))]) (st' := [.inr (.inr (some 118)), .inr (.inr (some 73))]) (nc' := 119) (np' := 130) (M' := am_zr M48 118) 4 rfl ?_
  obtain ⟨M49, eM, h⟩ := nw_i h
  rw [← eM]
  refine ev_k (pc' := 400) (ls' := [(0, .inr (.inr (some 73)))]) (st' := [.inr (.inr (some 119)), .inr (.inr (some 73))]) (nc' := 120) (np' := 131) (M' := am_zr M49 119) 4 rfl ?_
  obtain ⟨M50, eM, h⟩ := nw_i h
  rw [← eM]
  refine ev_k (pc' := 408) (ls' := [(0, .inr (.inr (some 73)))]) (st' := [.inr (.inr (some 120)), .inr (.inr (some 73))]) (nc' := 121) (np' := 132) (M' := am_zr M50 120) 4 rfl ?_
  obtain ⟨M51, eM, h⟩ := nw_i h
  rw [← eM]
  refine ev_k (pc' := 416) (ls' := [(0, .inr (.inr (some 73)))]) (st' := [.inr (.inr (some 121)), .inr (.inr (some 73))]) (nc' := 122) (np' := 133) (M' := am_zr M51 121) 4 rfl ?_
  obtain ⟨M52, eM, h⟩ := nw_i h
  rw [← eM]
  refine ev_k (pc' := 424) (ls' := [(0, .inr (.inr (some 73)))]) (st' := [.inr (.inr (some 122)), .inr (.inr (some 73))]) (nc' := 123) (np' := 134) (M' := am_zr M52 122) 4 rfl ?_
  obtain ⟨M53, eM, h⟩ := nw_i h
  rw [← eM]
  refine ev_k (pc' := 432) (ls' := [(0, .inr (.inr (some 73)))]) (st' := [.inr (.inr (some 123)), .inr (.inr (some 73))]) (nc' := 124) (np' := 135) (M' := am_zr M53 123) 4 rfl ?_
  obtain ⟨M54, eM, h⟩ := nw_i h
  rw [← eM]
  refine ev_k (pc' := 440) (ls' := [(0, .inr (.inr (some 73)))]) (st' := [.inr (.inr (some 124)), .inr (.inr (some 73))]) (nc' := 125) (np' := 136) (M' := am_zr M54 124) 4 rfl ?_
  obtain ⟨M55, eM, h⟩ := nw_i h
  rw [← eM]
  refine ev_k (pc' := 449) (ls' := [(0, .inr (.inr (some 73)))]) (st' := [.inr (.inr (some 125)), .inr (.inr (some 73))]) (nc' := 126) (np' := 137) (M' := am_zr M55 125) 4 rfl ?_
  obtain ⟨M56, eM, h⟩ := nw_i h
  rw [← eM]
  refine ev_k (pc' := 454) (ls' := [(0, .inr (.inr (some 73))), (1, .inl (0))]) (st' := []) (nc' := 126) (np' := 138) (M' := M56) 3 rfl ?_
  exact R_new_n74_454_t hd     am_big (0) M56 r h
