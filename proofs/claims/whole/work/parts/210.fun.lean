def Trip_copyFrom_42_26     (M : am_M) : Option (am_M) := cpy M 27 6 43 6 (0) (0) (6) fun M1 => cpy M1 28 100 44 100 (0) (0) (100) fun M2 => cpy M2 29 100 45 100 (0) (0) (100) fun M3 => cpy M3 30 100 46 100 (0) (0) (100) fun M4 => cpy M4 31 100 47 100 (0) (0) (100) fun M5 => cpy M5 32 100 48 100 (0) (0) (100) fun M6 => cpy M6 33 144 49 144 (0) (0) (144) fun M7 => fw M7 42 9 (M7 26 9) fun M8 => fw M8 42 10 (M8 26 10) fun M9 => fw M9 42 11 (M9 26 11) fun M10 => fw M10 42 12 (M10 26 12) fun M11 => fw M11 42 13 (M11 26 13) fun M12 => fw M12 42 14 (M12 26 14) fun M13 => some (M13)
theorem Trip_copyFrom_42_26_e {L : Nat} {xs : Nat → Int} {d : Nat} (hd : 0 ≤ d)    (M : am_M) (r : am_M) (h : Trip_copyFrom_42_26    M = some r) : am_Ev L xs d me_108 0 (am_ar1 0 [.inr (.inr (some 42)), .inr (.inr (some 26))]) [] 126 138 M (none, 126, 138, r) := by
  refine ev_k (pc' := 12) (ls' := [(0, .inr (.inr (some 42))), (1, .inr (.inr (some 26)))]) (st' := [.inl (6), .inl (0), .inr (.inr (some 43)), .inl (0), .inr (.inr (some 27))]) (nc' := 126) (np' := 138) (M' := M) 7 rfl ?_
  obtain ⟨hc, M1, eM, h⟩ := cpy_i h
  refine ev_cpy (s := 27) (dd := 43) rfl rfl (by decide) (by decide) rfl rfl hc rfl (by decide) eM ?_
  refine ev_k (pc' := 27) (ls' := [(0, .inr (.inr (some 42))), (1, .inr (.inr (some 26)))]) (st' := [.inl (100), .inl (0), .inr (.inr (some 44)), .inl (0), .inr (.inr (some 28))]) (nc' := 126) (np' := 138) (M' := M1) 7 rfl ?_
  obtain ⟨hc, M2, eM, h⟩ := cpy_i h
  refine ev_cpy (s := 28) (dd := 44) rfl rfl (by decide) (by decide) rfl rfl hc rfl (by decide) eM ?_
  refine ev_k (pc' := 42) (ls' := [(0, .inr (.inr (some 42))), (1, .inr (.inr (some 26)))]) (st' := [.inl (100), .inl (0), .inr (.inr (some 45)), .inl (0), .inr (.inr (some 29))]) (nc' := 126) (np' := 138) (M' := M2) 7 rfl ?_
  obtain ⟨hc, M3, eM, h⟩ := cpy_i h
  refine ev_cpy (s := 29) (dd := 45) rfl rfl (by decide) (by decide) rfl rfl hc rfl (by decide) eM ?_
  refine ev_k (pc' := 57) (ls' := [(0, .inr (.inr (some 42))), (1, .inr (.inr (some 26)))]) (st' := [.inl (100), .inl (0), .inr (.inr (some 46)), .inl (0), .inr (.inr (some 30))]) (nc' := 126) (np' := 138) (M' := M3) 7 rfl ?_
  obtain ⟨hc, M4, eM, h⟩ := cpy_i h
  refine ev_cpy (s := 30) (dd := 46) rfl rfl (by decide) (by decide) rfl rfl hc rfl (by decide) eM ?_
  refine ev_k (pc' := 72) (ls' := [(0, .inr (.inr (some 42))), (1, .inr (.inr (some 26)))]) (st' := [.inl (100), .inl (0), .inr (.inr (some 47)), .inl (0), .inr (.inr (some 31))]) (nc' := 126) (np' := 138) (M' := M4) 7 rfl ?_
  obtain ⟨hc, M5, eM, h⟩ := cpy_i h
  refine ev_cpy (s := 31) (dd := 47) rfl rfl (by decide) (by decide) rfl rfl hc rfl (by decide) eM ?_
  refine ev_k (pc' := 87) (ls' := [(0, .inr (.inr (some 42))), (1, .inr (.inr (some 26)))]) (st' := [.inl (100), .inl (0), .inr (.inr (some 48)), .inl (0), .inr (.inr (some 32))]) (nc' := 126) (np' := 138) (M' := M5) 7 rfl ?_
  obtain ⟨hc, M6, eM, h⟩ := cpy_i h
  refine ev_cpy (s := 32) (dd := 48) rfl rfl (by decide) (by decide) rfl rfl hc rfl (by decide) eM ?_
  refine ev_k (pc' := 103) (ls' := [(0, .inr (.inr (some 42))), (1, .inr (.inr (some 26)))]) (st' := [.inl (144), .inl (0), .inr (.inr (some 49)), .inl (0), .inr (.inr (some 33))]) (nc' := 126) (np' := 138) (M' := M6) 7 rfl ?_
  obtain ⟨hc, M7, eM, h⟩ := cpy_i h
  refine ev_cpy (s := 33) (dd := 49) rfl rfl (by decide) (by decide) rfl rfl hc rfl (by decide) eM ?_
  refine ev_k (pc' := 114) (ls' := [(0, .inr (.inr (some 42))), (1, .inr (.inr (some 26)))]) (st' := []) (nc' := 126) (np' := 138) (M' := am_up M7 42 9 (M7 26 9)) 4 rfl ?_
  obtain ⟨M8, eM, h⟩ := fw_i h
  rw [← eM]
  refine ev_k (pc' := 122) (ls' := [(0, .inr (.inr (some 42))), (1, .inr (.inr (some 26)))]) (st' := []) (nc' := 126) (np' := 138) (M' := am_up M8 42 10 (M8 26 10)) 4 rfl ?_
  obtain ⟨M9, eM, h⟩ := fw_i h
  rw [← eM]
  refine ev_k (pc' := 130) (ls' := [(0, .inr (.inr (some 42))), (1, .inr (.inr (some 26)))]) (st' := []) (nc' := 126) (np' := 138) (M' := am_up M9 42 11 (M9 26 11)) 4 rfl ?_
  obtain ⟨M10, eM, h⟩ := fw_i h
  rw [← eM]
  refine ev_k (pc' := 138) (ls' := [(0, .inr (.inr (some 42))), (1, .inr (.inr (some 26)))]) (st' := []) (nc' := 126) (np' := 138) (M' := am_up M10 42 12 (M10 26 12)) 4 rfl ?_
  obtain ⟨M11, eM, h⟩ := fw_i h
  rw [← eM]
  refine ev_k (pc' := 146) (ls' := [(0, .inr (.inr (some 42))), (1, .inr (.inr (some 26)))]) (st' := []) (nc' := 126) (np' := 138) (M' := am_up M11 42 13 (M11 26 13)) 4 rfl ?_
  obtain ⟨M12, eM, h⟩ := fw_i h
  rw [← eM]
  refine ev_k (pc' := 154) (ls' := [(0, .inr (.inr (some 42))), (1, .inr (.inr (some 26)))]) (st' := []) (nc' := 126) (np' := 138) (M' := am_up M12 42 14 (M12 26 14)) 4 rfl ?_
  obtain ⟨M13, eM, h⟩ := fw_i h
  rw [← eM]
  refine ev_k (pc' := 154) (ls' := [(0, .inr (.inr (some 42))), (1, .inr (.inr (some 26)))]) (st' := []) (nc' := 126) (np' := 138) (M' := M13) 0 rfl ?_
  cases h
  exact ev_ret rfl
def P_keep     (M : am_M) : Option (Int × am_M) := ob (Trip_copyFrom_42_26  M) fun M1 => fz M1 0 7 (1) fun M2 => some (M2 26 10, M2)
theorem P_keep_e {L : Nat} {xs : Nat → Int} {d : Nat} (hd : 1 ≤ d)    (M : am_M) (r : Int × am_M) (h : P_keep    M = some r) : am_Ev L xs d me_183 0 (am_ar1 0 [.inr (.inr (some 0))]) [] 126 138 M (some (.inl r.1), 126, 138, r.2) := by
  refine ev_k (pc' := 8) (ls' := [(0, .inr (.inr (some 0)))]) (st' := [.inr (.inr (some 26)), .inr (.inr (some 42))]) (nc' := 126) (np' := 138) (M' := M) 4 rfl ?_
  obtain ⟨M1, hv, h⟩ := ob_i h
  refine ev_call (t := 108) (as := [.inr (.inr (some 42)), .inr (.inr (some 26))]) (rest := []) rfl rfl rfl (by omega) (Trip_copyFrom_42_26_e (by omega)  M _ hv) ?_
  refine ev_k (pc' := 13) (ls' := [(0, .inr (.inr (some 0)))]) (st' := [.inl (1), .inr (.inr (some 0))]) (nc' := 126) (np' := 138) (M' := M1) 2 rfl ?_
  obtain ⟨hc, M2, eM, h⟩ := fz_i h
  refine ev_putz (k := 0) (j := 7) rfl rfl (by decide) rfl rfl hc eM ?_
  refine ev_k (pc' := 23) (ls' := [(0, .inr (.inr (some 0)))]) (st' := [.inl (M2 26 10)]) (nc' := 126) (np' := 138) (M' := M2) 3 rfl ?_
  cases h
  exact ev_ret rfl
def Trip_copyFrom_26_42     (M : am_M) : Option (am_M) := cpy M 43 6 27 6 (0) (0) (6) fun M1 => cpy M1 44 100 28 100 (0) (0) (100) fun M2 => cpy M2 45 100 29 100 (0) (0) (100) fun M3 => cpy M3 46 100 30 100 (0) (0) (100) fun M4 => cpy M4 47 100 31 100 (0) (0) (100) fun M5 => cpy M5 48 100 32 100 (0) (0) (100) fun M6 => cpy M6 49 144 33 144 (0) (0) (144) fun M7 => fw M7 26 9 (M7 42 9) fun M8 => fw M8 26 10 (M8 42 10) fun M9 => fw M9 26 11 (M9 42 11) fun M10 => fw M10 26 12 (M10 42 12) fun M11 => fw M11 26 13 (M11 42 13) fun M12 => fw M12 26 14 (M12 42 14) fun M13 => some (M13)
theorem Trip_copyFrom_26_42_e {L : Nat} {xs : Nat → Int} {d : Nat} (hd : 0 ≤ d)    (M : am_M) (r : am_M) (h : Trip_copyFrom_26_42    M = some r) : am_Ev L xs d me_108 0 (am_ar1 0 [.inr (.inr (some 26)), .inr (.inr (some 42))]) [] 126 138 M (none, 126, 138, r) := by
  refine ev_k (pc' := 12) (ls' := [(0, .inr (.inr (some 26))), (1, .inr (.inr (some 42)))]) (st' := [.inl (6), .inl (0), .inr (.inr (some 27)), .inl (0), .inr (.inr (some 43))]) (nc' := 126) (np' := 138) (M' := M) 7 rfl ?_
  obtain ⟨hc, M1, eM, h⟩ := cpy_i h
  refine ev_cpy (s := 43) (dd := 27) rfl rfl (by decide) (by decide) rfl rfl hc rfl (by decide) eM ?_
  refine ev_k (pc' := 27) (ls' := [(0, .inr (.inr (some 26))), (1, .inr (.inr (some 42)))]) (st' := [.inl (100), .inl (0), .inr (.inr (some 28)), .inl (0), .inr (.inr (some 44))]) (nc' := 126) (np' := 138) (M' := M1) 7 rfl ?_
  obtain ⟨hc, M2, eM, h⟩ := cpy_i h
  refine ev_cpy (s := 44) (dd := 28) rfl rfl (by decide) (by decide) rfl rfl hc rfl (by decide) eM ?_
  refine ev_k (pc' := 42) (ls' := [(0, .inr (.inr (some 26))), (1, .inr (.inr (some 42)))]) (st' := [.inl (100), .inl (0), .inr (.inr (some 29)), .inl (0), .inr (.inr (some 45))]) (nc' := 126) (np' := 138) (M' := M2) 7 rfl ?_
  obtain ⟨hc, M3, eM, h⟩ := cpy_i h
  refine ev_cpy (s := 45) (dd := 29) rfl rfl (by decide) (by decide) rfl rfl hc rfl (by decide) eM ?_
  refine ev_k (pc' := 57) (ls' := [(0, .inr (.inr (some 26))), (1, .inr (.inr (some 42)))]) (st' := [.inl (100), .inl (0), .inr (.inr (some 30)), .inl (0), .inr (.inr (some 46))]) (nc' := 126) (np' := 138) (M' := M3) 7 rfl ?_
  obtain ⟨hc, M4, eM, h⟩ := cpy_i h
  refine ev_cpy (s := 46) (dd := 30) rfl rfl (by decide) (by decide) rfl rfl hc rfl (by decide) eM ?_
  refine ev_k (pc' := 72) (ls' := [(0, .inr (.inr (some 26))), (1, .inr (.inr (some 42)))]) (st' := [.inl (100), .inl (0), .inr (.inr (some 31)), .inl (0), .inr (.inr (some 47))]) (nc' := 126) (np' := 138) (M' := M4) 7 rfl ?_
  obtain ⟨hc, M5, eM, h⟩ := cpy_i h
  refine ev_cpy (s := 47) (dd := 31) rfl rfl (by decide) (by decide) rfl rfl hc rfl (by decide) eM ?_
  refine ev_k (pc' := 87) (ls' := [(0, .inr (.inr (some 26))), (1, .inr (.inr (some 42)))]) (st' := [.inl (100), .inl (0), .inr (.inr (some 32)), .inl (0), .inr (.inr (some 48))]) (nc' := 126) (np' := 138) (M' := M5) 7 rfl ?_
  obtain ⟨hc, M6, eM, h⟩ := cpy_i h
  refine ev_cpy (s := 48) (dd := 32) rfl rfl (by decide) (by decide) rfl rfl hc rfl (by decide) eM ?_
  refine ev_k (pc' := 103) (ls' := [(0, .inr (.inr (some 26))), (1, .inr (.inr (some 42)))]) (st' := [.inl (144), .inl (0), .inr (.inr (some 33)), .inl (0), .inr (.inr (some 49))]) (nc' := 126) (np' := 138) (M' := M6) 7 rfl ?_
  obtain ⟨hc, M7, eM, h⟩ := cpy_i h
  refine ev_cpy (s := 49) (dd := 33) rfl rfl (by decide) (by decide) rfl rfl hc rfl (by decide) eM ?_
  refine ev_k (pc' := 114) (ls' := [(0, .inr (.inr (some 26))), (1, .inr (.inr (some 42)))]) (st' := []) (nc' := 126) (np' := 138) (M' := am_up M7 26 9 (M7 42 9)) 4 rfl ?_
  obtain ⟨M8, eM, h⟩ := fw_i h
  rw [← eM]
  refine ev_k (pc' := 122) (ls' := [(0, .inr (.inr (some 26))), (1, .inr (.inr (some 42)))]) (st' := []) (nc' := 126) (np' := 138) (M' := am_up M8 26 10 (M8 42 10)) 4 rfl ?_
  obtain ⟨M9, eM, h⟩ := fw_i h
  rw [← eM]
  refine ev_k (pc' := 130) (ls' := [(0, .inr (.inr (some 26))), (1, .inr (.inr (some 42)))]) (st' := []) (nc' := 126) (np' := 138) (M' := am_up M9 26 11 (M9 42 11)) 4 rfl ?_
  obtain ⟨M10, eM, h⟩ := fw_i h
  rw [← eM]
  refine ev_k (pc' := 138) (ls' := [(0, .inr (.inr (some 26))), (1, .inr (.inr (some 42)))]) (st' := []) (nc' := 126) (np' := 138) (M' := am_up M10 26 12 (M10 42 12)) 4 rfl ?_
  obtain ⟨M11, eM, h⟩ := fw_i h
  rw [← eM]
  refine ev_k (pc' := 146) (ls' := [(0, .inr (.inr (some 26))), (1, .inr (.inr (some 42)))]) (st' := []) (nc' := 126) (np' := 138) (M' := am_up M11 26 13 (M11 42 13)) 4 rfl ?_
  obtain ⟨M12, eM, h⟩ := fw_i h
  rw [← eM]
  refine ev_k (pc' := 154) (ls' := [(0, .inr (.inr (some 26))), (1, .inr (.inr (some 42)))]) (st' := []) (nc' := 126) (np' := 138) (M' := am_up M12 26 14 (M12 42 14)) 4 rfl ?_
  obtain ⟨M13, eM, h⟩ := fw_i h
  rw [← eM]
  refine ev_k (pc' := 154) (ls' := [(0, .inr (.inr (some 26))), (1, .inr (.inr (some 42)))]) (st' := []) (nc' := 126) (np' := 138) (M' := M13) 0 rfl ?_
  cases h
  exact ev_ret rfl
def P_undo     (M : am_M) : Option (Int × am_M) := c_ne (M 0 7) (0)
       (ob (Trip_copyFrom_26_42  M) fun M1 => some (1, M1))
       (some (0, M))
theorem P_undo_e {L : Nat} {xs : Nat → Int} {d : Nat} (hd : 1 ≤ d)    (M : am_M) (r : Int × am_M) (h : P_undo    M = some r) : am_Ev L xs d me_184 0 (am_ar1 0 [.inr (.inr (some 0))]) [] 126 138 M (some (.inl r.1), 126, 138, r.2) := by
  refine ev_k (pc' := 4) (ls' := [(0, .inr (.inr (some 0)))]) (st' := [.inl (M 0 7)]) (nc' := 126) (np' := 138) (M' := M) 2 rfl ?_
  obtain ⟨hR, ⟨hc, h⟩ | ⟨hc, h⟩⟩ := c_ne_i h
  · refine ev_ifc 9 rfl hR.1 (by decide) (fun _ => ?_) (fun q => absurd hc q)
    refine ev_k (pc' := 17) (ls' := [(0, .inr (.inr (some 0)))]) (st' := [.inr (.inr (some 42)), .inr (.inr (some 26))]) (nc' := 126) (np' := 138) (M' := M) 4 rfl ?_
    obtain ⟨M1, hv, h⟩ := ob_i h
    refine ev_call (t := 108) (as := [.inr (.inr (some 26)), .inr (.inr (some 42))]) (rest := []) rfl rfl rfl (by omega) (Trip_copyFrom_26_42_e (by omega)  M _ hv) ?_
    refine ev_k (pc' := 21) (ls' := [(0, .inr (.inr (some 0)))]) (st' := [.inl (1)]) (nc' := 126) (np' := 138) (M' := M1) 1 rfl ?_
    cases h
    exact ev_ret rfl
  · refine ev_ifc 9 rfl hR.1 (by decide) (fun q => absurd q hc) (fun _ => ?_)
    refine ev_k (pc' := 8) (ls' := [(0, .inr (.inr (some 0)))]) (st' := [.inl (0)]) (nc' := 126) (np' := 138) (M' := M) 1 rfl ?_
    cases h
    exact ev_ret rfl
def P_check_19    : Nat → Int → Int → am_M → Option (Int × am_M)
  | 0, _, _, _ => none
  | n + 1, x1, x2, M => c_ge (x2) (x1)
       (some (-1, M))
       (ob (Tape_at (x2) M) fun v1 => ob (Trip_grownAt_26 (x2) M) fun v2 => c_eq (v1) (v2)
       ((P_check_19    n (x1) ((x2) + (1)) M))
       (some (x2, M)))
def P_check    (x1 : Int) (M : am_M) : Option (Int × am_M) := oc (Tape_take (x1) (0) (100) M) fun v1 M2 => c_ne (v1) (0)
       ((P_check_19    am_big (x1) (0) M2))
       (some (-2, M2))
theorem P_check_19_t {L : Nat} {xs : Nat → Int} {d : Nat} (hd : 2 ≤ d)     : ∀ (n : Nat) (x1 : Int) (x2 : Int) (M : am_M) (r : Int × am_M), P_check_19    n x1 x2 M = some r → am_Ev L xs d me_185 19 [(0, .inr (.inr (some 0))), (1, .inl (x1)), (2, .inl (x2))] [] 126 138 M (some (.inl r.1), 126, 138, r.2)
  | 0, _, _, M, r, h => by cases h
  | n + 1, x1, x2, M, r, h => by
    have ih := P_check_19_t (L := L) (xs := xs) hd     n
    refine ev_k (pc' := 21) (ls' := [(0, .inr (.inr (some 0))), (1, .inl (x1)), (2, .inl (x2))]) (st' := [.inl (x1), .inl (x2)]) (nc' := 126) (np' := 138) (M' := M) 2 rfl ?_
    obtain ⟨hR, ⟨hc, h⟩ | ⟨hc, h⟩⟩ := c_ge_i h
    · refine ev_icmp 51 rfl hR.1 hR.2 (by decide) (fun _ => ?_) (fun q => absurd hc q)
      refine ev_k (pc' := 52) (ls' := [(0, .inr (.inr (some 0))), (1, .inl (x1)), (2, .inl (x2))]) (st' := [.inl (-1)]) (nc' := 126) (np' := 138) (M' := M) 1 rfl ?_
      cases h
      exact ev_ret rfl
    · refine ev_icmp 51 rfl hR.1 hR.2 (by decide) (fun q => absurd q hc) (fun _ => ?_)
      refine ev_k (pc' := 29) (ls' := [(0, .inr (.inr (some 0))), (1, .inl (x1)), (2, .inl (x2))]) (st' := [.inl (x2), .inr (.inr (some 14))]) (nc' := 126) (np' := 138) (M' := M) 3 rfl ?_
      obtain ⟨v1, hv, h⟩ := ob_i h
      refine ev_call (t := 23) (as := [.inr (.inr (some 14)), .inl (x2)]) (rest := []) rfl rfl rfl (by omega) (Tape_at_e (by omega) (x2) M _ hv) ?_
      refine ev_k (pc' := 37) (ls' := [(0, .inr (.inr (some 0))), (1, .inl (x1)), (2, .inl (x2))]) (st' := [.inl (x2), .inr (.inr (some 26)), .inl (v1)]) (nc' := 126) (np' := 138) (M' := M) 3 rfl ?_
      obtain ⟨v2, hv, h⟩ := ob_i h
      refine ev_call (t := 101) (as := [.inr (.inr (some 26)), .inl (x2)]) (rest := [.inl (v1)]) rfl rfl rfl (by omega) (Trip_grownAt_26_e (by omega) (x2) M _ hv) ?_
      refine ev_k (pc' := 40) (ls' := [(0, .inr (.inr (some 0))), (1, .inl (x1)), (2, .inl (x2))]) (st' := [.inl (v2), .inl (v1)]) (nc' := 126) (np' := 138) (M' := M) 0 rfl ?_
      obtain ⟨hR, ⟨hc, h⟩ | ⟨hc, h⟩⟩ := c_eq_i h
      · refine ev_icmp 45 rfl hR.1 hR.2 (by decide) (fun _ => ?_) (fun q => absurd hc q)
        refine ev_k (pc' := 19) (ls' := [(0, .inr (.inr (some 0))), (1, .inl (x1)), (2, .inl ((x2) + (1)))]) (st' := []) (nc' := 126) (np' := 138) (M' := M) 2 rfl ?_
        exact ih (x1) ((x2) + (1)) M r h
      · refine ev_icmp 45 rfl hR.1 hR.2 (by decide) (fun q => absurd q hc) (fun _ => ?_)
        refine ev_k (pc' := 44) (ls' := [(0, .inr (.inr (some 0))), (1, .inl (x1)), (2, .inl (x2))]) (st' := [.inl (x2)]) (nc' := 126) (np' := 138) (M' := M) 1 rfl ?_
        cases h
        exact ev_ret rfl
theorem P_check_e {L : Nat} {xs : Nat → Int} {d : Nat} (hd : 2 ≤ d)   (x1 : Int) (M : am_M) (r : Int × am_M) (h : P_check   x1 M = some r) : am_Ev L xs d me_185 0 (am_ar1 0 [.inr (.inr (some 0)), .inl (x1)]) [] 126 138 M (some (.inl r.1), 126, 138, r.2) := by
  refine ev_k (pc' := 8) (ls' := [(0, .inr (.inr (some 0))), (1, .inl (x1))]) (st' := [.inl (100), .inl (0), .inl (x1), .inr (.inr (some 14))]) (nc' := 126) (np' := 138) (M' := M) 5 rfl ?_
  obtain ⟨v1, M2, hv, h⟩ := oc_i h
  refine ev_call (t := 21) (as := [.inr (.inr (some 14)), .inl (x1), .inl (0), .inl (100)]) (rest := []) rfl rfl rfl (by omega) (Tape_take_e (by omega) (x1) (0) (100) M _ hv) ?_
  refine ev_k (pc' := 11) (ls' := [(0, .inr (.inr (some 0))), (1, .inl (x1))]) (st' := [.inl (v1)]) (nc' := 126) (np' := 138) (M' := M2) 0 rfl ?_
  obtain ⟨hR, ⟨hc, h⟩ | ⟨hc, h⟩⟩ := c_ne_i h
  · refine ev_ifc 17 rfl hR.1 (by decide) (fun _ => ?_) (fun q => absurd hc q)
    refine ev_k (pc' := 19) (ls' := [(0, .inr (.inr (some 0))), (1, .inl (x1)), (2, .inl (0))]) (st' := []) (nc' := 126) (np' := 138) (M' := M2) 2 rfl ?_
    exact P_check_19_t hd     am_big (x1) (0) M2 r h
  · refine ev_ifc 17 rfl hR.1 (by decide) (fun q => absurd q hc) (fun _ => ?_)
    refine ev_k (pc' := 16) (ls' := [(0, .inr (.inr (some 0))), (1, .inl (x1))]) (st' := [.inl (-2)]) (nc' := 126) (np' := 138) (M' := M2) 1 rfl ?_
    cases h
    exact ev_ret rfl
def P_count_129    (s0 : Int) (M : am_M) : Option (Int) := some (s0)
def P_count_198    (s0 : Int) (M : am_M) : Option (Int) := some (s0)
def P_count_197     (M : am_M) : Option (Int) := (P_count_198    (-1) M)
def P_count    (x1 : Int) (M : am_M) : Option (Int) := ck (am_R (x1)) ((if (x1) = (0) then
       (some (M 26 13)) else
       (if (x1) = (1) then
       (some (M 26 12)) else
       (if (x1) = (2) then
       (some (M 26 10)) else
       (if (x1) = (3) then
       (some (M 26 11)) else
       (if (x1) = (4) then
       (ob (Country_toldBits_1  M) fun v1 => some (v1)) else
       (if (x1) = (5) then
       (ob (Country_isTold_1 (M 26 9) M) fun v2 => c_eq (v2) (0)
       ((P_count_129    (-2) M))
       ((P_count_129    (M 26 9) M))) else
       (if (x1) = (6) then
       (some (M 5 7)) else
       (if (x1) = (7) then
       (ob (Tape_size  M) fun v3 => some (v3)) else
       (if (x1) = (8) then
       (some (M 26 14)) else
       (if (x1) = (9) then
       (some (M 1 3)) else
       (if (x1) = (10) then
       (some (M 1 4)) else
       (c_lt (x1) (100)
       (P_count_197     M)
       (c_ge (x1) (244)
       (P_count_197     M)
       (ob (Country_kindAt_1 ((x1) - (100)) M) fun v4 => (P_count_198    (v4) M))))))))))))))))
theorem P_count_129_t {L : Nat} {xs : Nat → Int} {d : Nat} (hd : 2 ≤ d)     (s0 : Int) (M : am_M) (r : Int) (h : P_count_129    s0 M = some r) : am_Ev L xs d me_186 129 [] [.inl (s0)] 126 138 M (some (.inl r), 126, 138, M) := by
  refine ev_k (pc' := 129) (ls' := []) (st' := [.inl (s0)]) (nc' := 126) (np' := 138) (M' := M) 0 rfl ?_
  cases h
  exact ev_ret rfl
theorem P_count_198_t {L : Nat} {xs : Nat → Int} {d : Nat} (hd : 2 ≤ d)     (s0 : Int) (M : am_M) (r : Int) (h : P_count_198    s0 M = some r) : am_Ev L xs d me_186 198 [] [.inl (s0)] 126 138 M (some (.inl r), 126, 138, M) := by
  refine ev_k (pc' := 198) (ls' := []) (st' := [.inl (s0)]) (nc' := 126) (np' := 138) (M' := M) 0 rfl ?_
  cases h
  exact ev_ret rfl
theorem P_count_197_t {L : Nat} {xs : Nat → Int} {d : Nat} (hd : 2 ≤ d)      (M : am_M) (r : Int) (h : P_count_197     M = some r) : am_Ev L xs d me_186 197 [] [] 126 138 M (some (.inl r), 126, 138, M) := by
  refine ev_k (pc' := 198) (ls' := []) (st' := [.inl (-1)]) (nc' := 126) (np' := 138) (M' := M) 1 rfl ?_
  exact P_count_198_t hd     (-1) M r h
theorem P_count_e {L : Nat} {xs : Nat → Int} {d : Nat} (hd : 2 ≤ d)   (x1 : Int) (M : am_M) (r : Int) (h : P_count   x1 M = some r) : am_Ev L xs d me_186 0 (am_ar1 0 [.inr (.inr (some 0)), .inl (x1)]) [] 126 138 M (some (.inl r), 126, 138, M) := by
  refine ev_k (pc' := 1) (ls' := [(0, .inr (.inr (some 0))), (1, .inl (x1))]) (st' := [.inl (x1)]) (nc' := 126) (np' := 138) (M' := M) 1 rfl ?_
  obtain ⟨hR, h⟩ := ck_i h
  rcases if_i h with ⟨hq, h⟩ | ⟨hq0, h⟩
  · refine ev_tsw 60 rfl hR (59) (Or.inr ⟨by rw [hq]; decide, by rw [hq]; rfl⟩) (by decide) ?_
    refine ev_k (pc' := 67) (ls' := [(0, .inr (.inr (some 0))), (1, .inl (x1))]) (st' := [.inl (M 26 13)]) (nc' := 126) (np' := 138) (M' := M) 3 rfl ?_
    cases h
    exact ev_ret rfl
  · skip
    rcases if_i h with ⟨hq, h⟩ | ⟨hq1, h⟩
    · refine ev_tsw 68 rfl hR (67) (Or.inr ⟨by rw [hq]; decide, by rw [hq]; rfl⟩) (by decide) ?_
      refine ev_k (pc' := 75) (ls' := [(0, .inr (.inr (some 0))), (1, .inl (x1))]) (st' := [.inl (M 26 12)]) (nc' := 126) (np' := 138) (M' := M) 3 rfl ?_
      cases h
      exact ev_ret rfl
    · skip
      rcases if_i h with ⟨hq, h⟩ | ⟨hq2, h⟩
      · refine ev_tsw 76 rfl hR (75) (Or.inr ⟨by rw [hq]; decide, by rw [hq]; rfl⟩) (by decide) ?_
        refine ev_k (pc' := 83) (ls' := [(0, .inr (.inr (some 0))), (1, .inl (x1))]) (st' := [.inl (M 26 10)]) (nc' := 126) (np' := 138) (M' := M) 3 rfl ?_
        cases h
        exact ev_ret rfl
      · skip
        rcases if_i h with ⟨hq, h⟩ | ⟨hq3, h⟩
        · refine ev_tsw 84 rfl hR (83) (Or.inr ⟨by rw [hq]; decide, by rw [hq]; rfl⟩) (by decide) ?_
          refine ev_k (pc' := 91) (ls' := [(0, .inr (.inr (some 0))), (1, .inl (x1))]) (st' := [.inl (M 26 11)]) (nc' := 126) (np' := 138) (M' := M) 3 rfl ?_
          cases h
          exact ev_ret rfl
        · skip
          rcases if_i h with ⟨hq, h⟩ | ⟨hq4, h⟩
          · refine ev_tsw 92 rfl hR (91) (Or.inr ⟨by rw [hq]; decide, by rw [hq]; rfl⟩) (by decide) ?_
            refine ev_k (pc' := 96) (ls' := [(0, .inr (.inr (some 0))), (1, .inl (x1))]) (st' := [.inr (.inr (some 1))]) (nc' := 126) (np' := 138) (M' := M) 2 rfl ?_
            obtain ⟨v1, hv, h⟩ := ob_i h
            refine ev_call (t := 148) (as := [.inr (.inr (some 1))]) (rest := []) rfl rfl rfl (by omega) (Country_toldBits_1_e (by omega)  M _ hv) ?_
            refine ev_k (pc' := 99) (ls' := [(0, .inr (.inr (some 0))), (1, .inl (x1))]) (st' := [.inl (v1)]) (nc' := 126) (np' := 138) (M' := M) 0 rfl ?_
            cases h
            exact ev_ret rfl
          · skip
            rcases if_i h with ⟨hq, h⟩ | ⟨hq5, h⟩
            · refine ev_tsw 100 rfl hR (99) (Or.inr ⟨by rw [hq]; decide, by rw [hq]; rfl⟩) (by decide) ?_
              refine ev_k (pc' := 111) (ls' := [(0, .inr (.inr (some 0))), (1, .inl (x1))]) (st' := [.inl (M 26 9), .inr (.inr (some 1))]) (nc' := 126) (np' := 138) (M' := M) 5 rfl ?_
              obtain ⟨v2, hv, h⟩ := ob_i h
              refine ev_call (t := 62) (as := [.inr (.inr (some 1)), .inl (M 26 9)]) (rest := []) rfl rfl rfl (by omega) (Country_isTold_1_e (by omega) (M 26 9) M _ hv) ?_
              refine ev_k (pc' := 114) (ls' := [(0, .inr (.inr (some 0))), (1, .inl (x1))]) (st' := [.inl (v2)]) (nc' := 126) (np' := 138) (M' := M) 0 rfl ?_
              obtain ⟨hR, ⟨hc, h⟩ | ⟨hc, h⟩⟩ := c_eq_i h
              · refine ev_ifc 127 rfl hR.1 (by decide) (fun _ => ?_) (fun q => absurd hc q)
                refine ev_k (pc' := 129) (ls' := []) (st' := [.inl (-2)]) (nc' := 126) (np' := 138) (M' := M) 1 rfl ?_
                exact P_count_129_t hd     (-2) M r h
              · refine ev_ifc 127 rfl hR.1 (by decide) (fun q => absurd q hc) (fun _ => ?_)
                refine ev_k (pc' := 129) (ls' := []) (st' := [.inl (M 26 9)]) (nc' := 126) (np' := 138) (M' := M) 4 rfl ?_
                exact P_count_129_t hd     (M 26 9) M r h
            · skip
              rcases if_i h with ⟨hq, h⟩ | ⟨hq6, h⟩
              · refine ev_tsw 130 rfl hR (129) (Or.inr ⟨by rw [hq]; decide, by rw [hq]; rfl⟩) (by decide) ?_
                refine ev_k (pc' := 137) (ls' := [(0, .inr (.inr (some 0))), (1, .inl (x1))]) (st' := [.inl (M 5 7)]) (nc' := 126) (np' := 138) (M' := M) 3 rfl ?_
                cases h
                exact ev_ret rfl
              · skip
                rcases if_i h with ⟨hq, h⟩ | ⟨hq7, h⟩
                · refine ev_tsw 138 rfl hR (137) (Or.inr ⟨by rw [hq]; decide, by rw [hq]; rfl⟩) (by decide) ?_
                  refine ev_k (pc' := 142) (ls' := [(0, .inr (.inr (some 0))), (1, .inl (x1))]) (st' := [.inr (.inr (some 14))]) (nc' := 126) (np' := 138) (M' := M) 2 rfl ?_
                  obtain ⟨v3, hv, h⟩ := ob_i h
                  refine ev_call (t := 19) (as := [.inr (.inr (some 14))]) (rest := []) rfl rfl rfl (by omega) (Tape_size_e (by omega)  M _ hv) ?_
                  refine ev_k (pc' := 145) (ls' := [(0, .inr (.inr (some 0))), (1, .inl (x1))]) (st' := [.inl (v3)]) (nc' := 126) (np' := 138) (M' := M) 0 rfl ?_
                  cases h
                  exact ev_ret rfl
                · skip
                  rcases if_i h with ⟨hq, h⟩ | ⟨hq8, h⟩
                  · refine ev_tsw 146 rfl hR (145) (Or.inr ⟨by rw [hq]; decide, by rw [hq]; rfl⟩) (by decide) ?_
                    refine ev_k (pc' := 153) (ls' := [(0, .inr (.inr (some 0))), (1, .inl (x1))]) (st' := [.inl (M 26 14)]) (nc' := 126) (np' := 138) (M' := M) 3 rfl ?_
                    cases h
                    exact ev_ret rfl
                  · skip
                    rcases if_i h with ⟨hq, h⟩ | ⟨hq9, h⟩
                    · refine ev_tsw 154 rfl hR (153) (Or.inr ⟨by rw [hq]; decide, by rw [hq]; rfl⟩) (by decide) ?_
                      refine ev_k (pc' := 161) (ls' := [(0, .inr (.inr (some 0))), (1, .inl (x1))]) (st' := [.inl (M 1 3)]) (nc' := 126) (np' := 138) (M' := M) 3 rfl ?_
                      cases h
                      exact ev_ret rfl
                    · skip
                      rcases if_i h with ⟨hq, h⟩ | ⟨hq10, h⟩
                      · refine ev_tsw 162 rfl hR (161) (Or.inr ⟨by rw [hq]; decide, by rw [hq]; rfl⟩) (by decide) ?_
                        refine ev_k (pc' := 169) (ls' := [(0, .inr (.inr (some 0))), (1, .inl (x1))]) (st' := [.inl (M 1 4)]) (nc' := 126) (np' := 138) (M' := M) 3 rfl ?_
                        cases h
                        exact ev_ret rfl
                      · skip
                        have hho : ((x1) < 0 ∨ 10 < (x1)) ∨ ((x1) = 0 ∨ (x1) = 1 ∨ (x1) = 2 ∨ (x1) = 3 ∨ (x1) = 4 ∨ (x1) = 5 ∨ (x1) = 6 ∨ (x1) = 7 ∨ (x1) = 8 ∨ (x1) = 9 ∨ (x1) = 10) := by omega
                        refine ev_tsw 170 rfl hR (169) ?_ (by decide) ?_
                        · rcases hho with hho | hho
                          · exact Or.inl ⟨hho, rfl⟩
                          · rcases hho with hho | hho | hho | hho | hho | hho | hho | hho | hho | hho | hho
                            · exact absurd hho hq0
                            · exact absurd hho hq1
                            · exact absurd hho hq2
                            · exact absurd hho hq3
                            · exact absurd hho hq4
                            · exact absurd hho hq5
                            · exact absurd hho hq6
                            · exact absurd hho hq7
                            · exact absurd hho hq8
                            · exact absurd hho hq9
                            · exact absurd hho hq10
                        · skip
                          refine ev_k (pc' := 173) (ls' := [(0, .inr (.inr (some 0))), (1, .inl (x1))]) (st' := [.inl (100), .inl (x1)]) (nc' := 126) (np' := 138) (M' := M) 2 rfl ?_
                          obtain ⟨hR, ⟨hc, h⟩ | ⟨hc, h⟩⟩ := c_lt_i h
                          · refine ev_icmp 197 rfl hR.1 hR.2 (by decide) (fun _ => ?_) (fun q => absurd hc q)
                            exact P_count_197_t hd      M r h
                          · refine ev_icmp 197 rfl hR.1 hR.2 (by decide) (fun q => absurd q hc) (fun _ => ?_)
                            refine ev_k (pc' := 180) (ls' := [(0, .inr (.inr (some 0))), (1, .inl (x1))]) (st' := [.inl (244), .inl (x1)]) (nc' := 126) (np' := 138) (M' := M) 2 rfl ?_
                            obtain ⟨hR, ⟨hc, h⟩ | ⟨hc, h⟩⟩ := c_ge_i h
                            · refine ev_icmp 197 rfl hR.1 hR.2 (by decide) (fun _ => ?_) (fun q => absurd hc q)
                              exact P_count_197_t hd      M r h
                            · refine ev_icmp 197 rfl hR.1 hR.2 (by decide) (fun q => absurd q hc) (fun _ => ?_)
                              refine ev_k (pc' := 191) (ls' := [(0, .inr (.inr (some 0))), (1, .inl (x1))]) (st' := [.inl ((x1) - (100)), .inr (.inr (some 1))]) (nc' := 126) (np' := 138) (M' := M) 5 rfl ?_
                              obtain ⟨v4, hv, h⟩ := ob_i h
                              refine ev_call (t := 56) (as := [.inr (.inr (some 1)), .inl ((x1) - (100))]) (rest := []) rfl rfl rfl (by omega) (Country_kindAt_1_e (by omega) ((x1) - (100)) M _ hv) ?_
                              refine ev_k (pc' := 198) (ls' := []) (st' := [.inl (v4)]) (nc' := 126) (np' := 138) (M' := M) 1 rfl ?_
                              exact P_count_198_t hd     (v4) M r h
def R_push_3    : Nat → Int → Int → am_M → Option (am_M)
  | 0, _, _, _ => none
  | n + 1, x1, x2, M => c_lt (x2) (0)
       (some (M))
       (w8 M 74 260 (M 73 1) (b_byte (b_shr (x1) (x2))) fun M1 => fw M1 73 1 ((M1 73 1) + (1)) fun M2 => (R_push_3    n (x1) ((x2) + (-8)) M2))
def R_push    (x1 : Int) (M : am_M) : Option (am_M) := (R_push_3    am_big (x1) (24) M)
theorem R_push_3_t {L : Nat} {xs : Nat → Int} {d : Nat} (hd : 0 ≤ d)     : ∀ (n : Nat) (x1 : Int) (x2 : Int) (M : am_M) (r : am_M), R_push_3    n x1 x2 M = some r → am_Ev L xs d me_191 3 [(0, .inr (.inr (some 73))), (1, .inl (x1)), (2, .inl (x2))] [] 126 138 M (none, 126, 138, r)
  | 0, _, _, M, r, h => by cases h
  | n + 1, x1, x2, M, r, h => by
    have ih := R_push_3_t (L := L) (xs := xs) hd     n
    refine ev_k (pc' := 4) (ls' := [(0, .inr (.inr (some 73))), (1, .inl (x1)), (2, .inl (x2))]) (st' := [.inl (x2)]) (nc' := 126) (np' := 138) (M' := M) 1 rfl ?_
    obtain ⟨hR, ⟨hc, h⟩ | ⟨hc, h⟩⟩ := c_lt_i h
    · refine ev_ifc 36 rfl hR.1 (by decide) (fun _ => ?_) (fun q => absurd hc q)
      refine ev_k (pc' := 36) (ls' := [(0, .inr (.inr (some 73))), (1, .inl (x1)), (2, .inl (x2))]) (st' := []) (nc' := 126) (np' := 138) (M' := M) 0 rfl ?_
      cases h
      exact ev_ret rfl
    · refine ev_ifc 36 rfl hR.1 (by decide) (fun q => absurd q hc) (fun _ => ?_)
      refine ev_k (pc' := 19) (ls' := [(0, .inr (.inr (some 73))), (1, .inl (x1)), (2, .inl (x2))]) (st' := [.inl (b_byte (b_shr (x1) (x2))), .inl (M 73 1), .inr (.inr (some 74))]) (nc' := 126) (np' := 138) (M' := M) 8 rfl ?_
      obtain ⟨hc, M1, eM, h⟩ := w8_i h
      refine ev_bast (k := 74) rfl rfl (by decide) rfl hc eM ?_
      refine ev_k (pc' := 30) (ls' := [(0, .inr (.inr (some 73))), (1, .inl (x1)), (2, .inl (x2))]) (st' := []) (nc' := 126) (np' := 138) (M' := am_up M1 73 1 ((M1 73 1) + (1))) 6 rfl ?_
      obtain ⟨M2, eM, h⟩ := fw_i h
      rw [← eM]
      refine ev_k (pc' := 3) (ls' := [(0, .inr (.inr (some 73))), (1, .inl (x1)), (2, .inl ((x2) + (-8)))]) (st' := []) (nc' := 126) (np' := 138) (M' := M2) 2 rfl ?_
      exact ih (x1) ((x2) + (-8)) M2 r h
theorem R_push_e {L : Nat} {xs : Nat → Int} {d : Nat} (hd : 0 ≤ d)   (x1 : Int) (M : am_M) (r : am_M) (h : R_push   x1 M = some r) : am_Ev L xs d me_191 0 (am_ar1 0 [.inr (.inr (some 73)), .inl (x1)]) [] 126 138 M (none, 126, 138, r) := by
  refine ev_k (pc' := 3) (ls' := [(0, .inr (.inr (some 73))), (1, .inl (x1)), (2, .inl (24))]) (st' := []) (nc' := 126) (np' := 138) (M' := M) 2 rfl ?_
  exact R_push_3_t hd     am_big (x1) (24) M r h
def R_feed    (x1 : Int) (x2 : Int) (x3 : Int) (x4 : Int) (x5 : Int) (M : am_M) : Option (Int × am_M) := c_le ((M 73 1) + (20)) (260)
       (ob (R_push (x1) M) fun M1 => ob (R_push (x2) M1) fun M2 => ob (R_push (x3) M2) fun M3 => ob (R_push (x4) M3) fun M4 => ob (R_push (x5) M4) fun M5 => some (M5 73 1, M5))
       (some (-1, M))
theorem R_feed_e {L : Nat} {xs : Nat → Int} {d : Nat} (hd : 1 ≤ d)   (x1 : Int) (x2 : Int) (x3 : Int) (x4 : Int) (x5 : Int) (M : am_M) (r : Int × am_M) (h : R_feed   x1 x2 x3 x4 x5 M = some r) : am_Ev L xs d me_190 0 (am_ar1 0 [.inr (.inr (some 73)), .inl (x1), .inl (x2), .inl (x3), .inl (x4), .inl (x5)]) [] 126 138 M (some (.inl r.1), 126, 138, r.2) := by
  refine ev_k (pc' := 10) (ls' := [(0, .inr (.inr (some 73))), (1, .inl (x1)), (2, .inl (x2)), (3, .inl (x3)), (4, .inl (x4)), (5, .inl (x5))]) (st' := [.inl (260), .inl ((M 73 1) + (20))]) (nc' := 126) (np' := 138) (M' := M) 5 rfl ?_
  obtain ⟨hR, ⟨hc, h⟩ | ⟨hc, h⟩⟩ := c_le_i h
  · refine ev_icmp 15 rfl hR.1 hR.2 (by decide) (fun _ => ?_) (fun q => absurd hc q)
    refine ev_k (pc' := 17) (ls' := [(0, .inr (.inr (some 73))), (1, .inl (x1)), (2, .inl (x2)), (3, .inl (x3)), (4, .inl (x4)), (5, .inl (x5))]) (st' := [.inl (x1), .inr (.inr (some 73))]) (nc' := 126) (np' := 138) (M' := M) 2 rfl ?_
    obtain ⟨M1, hv, h⟩ := ob_i h
    refine ev_call (t := 191) (as := [.inr (.inr (some 73)), .inl (x1)]) (rest := []) rfl rfl rfl (by omega) (R_push_e (by omega) (x1) M _ hv) ?_
    refine ev_k (pc' := 22) (ls' := [(0, .inr (.inr (some 73))), (1, .inl (x1)), (2, .inl (x2)), (3, .inl (x3)), (4, .inl (x4)), (5, .inl (x5))]) (st' := [.inl (x2), .inr (.inr (some 73))]) (nc' := 126) (np' := 138) (M' := M1) 2 rfl ?_
    obtain ⟨M2, hv, h⟩ := ob_i h
    refine ev_call (t := 191) (as := [.inr (.inr (some 73)), .inl (x2)]) (rest := []) rfl rfl rfl (by omega) (R_push_e (by omega) (x2) M1 _ hv) ?_
    refine ev_k (pc' := 27) (ls' := [(0, .inr (.inr (some 73))), (1, .inl (x1)), (2, .inl (x2)), (3, .inl (x3)), (4, .inl (x4)), (5, .inl (x5))]) (st' := [.inl (x3), .inr (.inr (some 73))]) (nc' := 126) (np' := 138) (M' := M2) 2 rfl ?_
    obtain ⟨M3, hv, h⟩ := ob_i h
    refine ev_call (t := 191) (as := [.inr (.inr (some 73)), .inl (x3)]) (rest := []) rfl rfl rfl (by omega) (R_push_e (by omega) (x3) M2 _ hv) ?_
    refine ev_k (pc' := 33) (ls' := [(0, .inr (.inr (some 73))), (1, .inl (x1)), (2, .inl (x2)), (3, .inl (x3)), (4, .inl (x4)), (5, .inl (x5))]) (st' := [.inl (x4), .inr (.inr (some 73))]) (nc' := 126) (np' := 138) (M' := M3) 2 rfl ?_
    obtain ⟨M4, hv, h⟩ := ob_i h
    refine ev_call (t := 191) (as := [.inr (.inr (some 73)), .inl (x4)]) (rest := []) rfl rfl rfl (by omega) (R_push_e (by omega) (x4) M3 _ hv) ?_
    refine ev_k (pc' := 39) (ls' := [(0, .inr (.inr (some 73))), (1, .inl (x1)), (2, .inl (x2)), (3, .inl (x3)), (4, .inl (x4)), (5, .inl (x5))]) (st' := [.inl (x5), .inr (.inr (some 73))]) (nc' := 126) (np' := 138) (M' := M4) 2 rfl ?_
    obtain ⟨M5, hv, h⟩ := ob_i h
    refine ev_call (t := 191) (as := [.inr (.inr (some 73)), .inl (x5)]) (rest := []) rfl rfl rfl (by omega) (R_push_e (by omega) (x5) M4 _ hv) ?_
    refine ev_k (pc' := 46) (ls' := [(0, .inr (.inr (some 73))), (1, .inl (x1)), (2, .inl (x2)), (3, .inl (x3)), (4, .inl (x4)), (5, .inl (x5))]) (st' := [.inl (M5 73 1)]) (nc' := 126) (np' := 138) (M' := M5) 2 rfl ?_
    cases h
    exact ev_ret rfl
  · refine ev_icmp 15 rfl hR.1 hR.2 (by decide) (fun q => absurd q hc) (fun _ => ?_)
    refine ev_k (pc' := 14) (ls' := [(0, .inr (.inr (some 73))), (1, .inl (x1)), (2, .inl (x2)), (3, .inl (x3)), (4, .inl (x4)), (5, .inl (x5))]) (st' := [.inl (-1)]) (nc' := 126) (np' := 138) (M' := M) 1 rfl ?_
    cases h
    exact ev_ret rfl
def R_lies_18    (s0 : Int) (M : am_M) : Option (Int) := ck ((s0) = 0 ∨ (s0) = 1) (some (s0))
def R_lies_17     (M : am_M) : Option (Int) := (R_lies_18    (0) M)
def R_lies    (x0 : Int) (x2 : Int) (x4 : Int) (M : am_M) : Option (Int) := ck (am_R6 (x0) ∧ am_R6 (x2)) (tw (if (x0) > (x2) then 1 else if (x0) = (x2) then 0 else -1) fun v1 => c_lt (v1) (0)
       (R_lies_17     M)
       (ck (am_R6 (x0) ∧ am_R6 (x4)) (tw (if (x0) > (x4) then 1 else if (x0) = (x4) then 0 else -1) fun v2 => c_gt (v2) (0)
       (R_lies_17     M)
       ((R_lies_18    (1) M)))))
theorem R_lies_18_t {L : Nat} {xs : Nat → Int} {d : Nat} (hd : 0 ≤ d)     (s0 : Int) (M : am_M) (r : Int) (h : R_lies_18    s0 M = some r) : am_Ev L xs d me_193 18 [] [.inl (s0)] 126 138 M (some (.inl r), 126, 138, M) := by
  refine ev_k (pc' := 18) (ls' := []) (st' := [.inl (s0)]) (nc' := 126) (np' := 138) (M' := M) 0 rfl ?_
  obtain ⟨hc, h⟩ := ck_i h
  cases h
  exact ev_retz rfl rfl hc
theorem R_lies_17_t {L : Nat} {xs : Nat → Int} {d : Nat} (hd : 0 ≤ d)      (M : am_M) (r : Int) (h : R_lies_17     M = some r) : am_Ev L xs d me_193 17 [] [] 126 138 M (some (.inl r), 126, 138, M) := by
  refine ev_k (pc' := 18) (ls' := []) (st' := [.inl (0)]) (nc' := 126) (np' := 138) (M' := M) 1 rfl ?_
  exact R_lies_18_t hd     (0) M r h
theorem R_lies_e {L : Nat} {xs : Nat → Int} {d : Nat} (hd : 0 ≤ d)   (x0 : Int) (x2 : Int) (x4 : Int) (M : am_M) (r : Int) (h : R_lies   x0 x2 x4 M = some r) : am_Ev L xs d me_193 0 (am_ar1 0 [.inr (.inl (x0)), .inr (.inl (x2)), .inr (.inl (x4))]) [] 126 138 M (some (.inl r), 126, 138, M) := by
  refine ev_k (pc' := 2) (ls' := [(0, .inr (.inl (x0))), (2, .inr (.inl (x2))), (4, .inr (.inl (x4)))]) (st' := [.inr (.inl (x2)), .inr (.inl (x0))]) (nc' := 126) (np' := 138) (M' := M) 2 rfl ?_
  obtain ⟨hc, h⟩ := ck_i h
  obtain ⟨v1, ev, h⟩ := tw_i h
  refine ev_lcmp rfl hc ?_
  rw [← ev]
  refine ev_k (pc' := 3) (ls' := [(0, .inr (.inl (x0))), (2, .inr (.inl (x2))), (4, .inr (.inl (x4)))]) (st' := [.inl (v1)]) (nc' := 126) (np' := 138) (M' := M) 0 rfl ?_
  obtain ⟨hR, ⟨hc, h⟩ | ⟨hc, h⟩⟩ := c_lt_i h
  · refine ev_ifc 17 rfl hR.1 (by decide) (fun _ => ?_) (fun q => absurd hc q)
    exact R_lies_17_t hd      M r h
  · refine ev_ifc 17 rfl hR.1 (by decide) (fun q => absurd q hc) (fun _ => ?_)
    refine ev_k (pc' := 9) (ls' := [(0, .inr (.inl (x0))), (2, .inr (.inl (x2))), (4, .inr (.inl (x4)))]) (st' := [.inr (.inl (x4)), .inr (.inl (x0))]) (nc' := 126) (np' := 138) (M' := M) 2 rfl ?_
    obtain ⟨hc, h⟩ := ck_i h
    obtain ⟨v2, ev, h⟩ := tw_i h
    refine ev_lcmp rfl hc ?_
    rw [← ev]
    refine ev_k (pc' := 10) (ls' := [(0, .inr (.inl (x0))), (2, .inr (.inl (x2))), (4, .inr (.inl (x4)))]) (st' := [.inl (v2)]) (nc' := 126) (np' := 138) (M' := M) 0 rfl ?_
    obtain ⟨hR, ⟨hc, h⟩ | ⟨hc, h⟩⟩ := c_gt_i h
    · refine ev_ifc 17 rfl hR.1 (by decide) (fun _ => ?_) (fun q => absurd hc q)
      exact R_lies_17_t hd      M r h
    · refine ev_ifc 17 rfl hR.1 (by decide) (fun q => absurd q hc) (fun _ => ?_)
      refine ev_k (pc' := 18) (ls' := []) (st' := [.inl (1)]) (nc' := 126) (np' := 138) (M' := M) 2 rfl ?_
      exact R_lies_18_t hd     (1) M r h
def R_begins    (x1 : Int) (M : am_M) : Option (am_M) := fw M 73 1 (0) fun M1 => fw M1 73 3 (0) fun M2 => fw M2 73 4 (x1) fun M3 => fw M3 73 5 (0) fun M4 => some (M4)
theorem R_begins_e {L : Nat} {xs : Nat → Int} {d : Nat} (hd : 0 ≤ d)   (x1 : Int) (M : am_M) (r : am_M) (h : R_begins   x1 M = some r) : am_Ev L xs d me_194 0 (am_ar1 0 [.inr (.inr (some 73)), .inl (x1)]) [] 126 138 M (none, 126, 138, r) := by
  refine ev_k (pc' := 5) (ls' := [(0, .inr (.inr (some 73))), (1, .inl (x1))]) (st' := []) (nc' := 126) (np' := 138) (M' := am_up M 73 1 (0)) 3 rfl ?_
  obtain ⟨M1, eM, h⟩ := fw_i h
  rw [← eM]
  refine ev_k (pc' := 10) (ls' := [(0, .inr (.inr (some 73))), (1, .inl (x1))]) (st' := []) (nc' := 126) (np' := 138) (M' := am_up M1 73 3 (0)) 3 rfl ?_
  obtain ⟨M2, eM, h⟩ := fw_i h
  rw [← eM]
  refine ev_k (pc' := 15) (ls' := [(0, .inr (.inr (some 73))), (1, .inl (x1))]) (st' := []) (nc' := 126) (np' := 138) (M' := am_up M2 73 4 (x1)) 3 rfl ?_
  obtain ⟨M3, eM, h⟩ := fw_i h
  rw [← eM]
  refine ev_k (pc' := 20) (ls' := [(0, .inr (.inr (some 73))), (1, .inl (x1))]) (st' := []) (nc' := 126) (np' := 138) (M' := am_up M3 73 5 (0)) 3 rfl ?_
  obtain ⟨M4, eM, h⟩ := fw_i h
  rw [← eM]
  refine ev_k (pc' := 20) (ls' := [(0, .inr (.inr (some 73))), (1, .inl (x1))]) (st' := []) (nc' := 126) (np' := 138) (M' := M4) 0 rfl ?_
  cases h
  exact ev_ret rfl
def R_isGood_12    (s0 : Int) (M : am_M) : Option (Int) := ck ((s0) = 0 ∨ (s0) = 1) (some (s0))
def R_isGood     (M : am_M) : Option (Int) := c_ne (M 73 5) (0)
       ((R_isGood_12    (0) M))
       ((R_isGood_12    (1) M))
theorem R_isGood_12_t {L : Nat} {xs : Nat → Int} {d : Nat} (hd : 0 ≤ d)     (s0 : Int) (M : am_M) (r : Int) (h : R_isGood_12    s0 M = some r) : am_Ev L xs d me_195 12 [] [.inl (s0)] 126 138 M (some (.inl r), 126, 138, M) := by
  refine ev_k (pc' := 12) (ls' := []) (st' := [.inl (s0)]) (nc' := 126) (np' := 138) (M' := M) 0 rfl ?_
  obtain ⟨hc, h⟩ := ck_i h
  cases h
  exact ev_retz rfl rfl hc
theorem R_isGood_e {L : Nat} {xs : Nat → Int} {d : Nat} (hd : 0 ≤ d)    (M : am_M) (r : Int) (h : R_isGood    M = some r) : am_Ev L xs d me_195 0 (am_ar1 0 [.inr (.inr (some 73))]) [] 126 138 M (some (.inl r), 126, 138, M) := by
  refine ev_k (pc' := 4) (ls' := [(0, .inr (.inr (some 73)))]) (st' := [.inl (M 73 5)]) (nc' := 126) (np' := 138) (M' := M) 2 rfl ?_
  obtain ⟨hR, ⟨hc, h⟩ | ⟨hc, h⟩⟩ := c_ne_i h
  · refine ev_ifc 11 rfl hR.1 (by decide) (fun _ => ?_) (fun q => absurd hc q)
    refine ev_k (pc' := 12) (ls' := []) (st' := [.inl (0)]) (nc' := 126) (np' := 138) (M' := M) 1 rfl ?_
    exact R_isGood_12_t hd     (0) M r h
  · refine ev_ifc 11 rfl hR.1 (by decide) (fun q => absurd q hc) (fun _ => ?_)
    refine ev_k (pc' := 12) (ls' := []) (st' := [.inl (1)]) (nc' := 126) (np' := 138) (M' := M) 2 rfl ?_
    exact R_isGood_12_t hd     (1) M r h
def R_here_28    (s0 : Int) (M : am_M) : Option (Int) := some (s0)
def R_here     (M : am_M) : Option (Int) := c_ge (M 73 3) (M 73 4)
       ((R_here_28    (0) M))
       (rd M 74 260 (M 73 3) fun v1 => (R_here_28    (b_and (v1) (255)) M))
theorem R_here_28_t {L : Nat} {xs : Nat → Int} {d : Nat} (hd : 0 ≤ d)     (s0 : Int) (M : am_M) (r : Int) (h : R_here_28    s0 M = some r) : am_Ev L xs d me_197 28 [] [.inl (s0)] 126 138 M (some (.inl r), 126, 138, M) := by
  refine ev_k (pc' := 28) (ls' := []) (st' := [.inl (s0)]) (nc' := 126) (np' := 138) (M' := M) 0 rfl ?_
  cases h
  exact ev_ret rfl
theorem R_here_e {L : Nat} {xs : Nat → Int} {d : Nat} (hd : 0 ≤ d)    (M : am_M) (r : Int) (h : R_here    M = some r) : am_Ev L xs d me_197 0 (am_ar1 0 [.inr (.inr (some 73))]) [] 126 138 M (some (.inl r), 126, 138, M) := by
  refine ev_k (pc' := 8) (ls' := [(0, .inr (.inr (some 73)))]) (st' := [.inl (M 73 4), .inl (M 73 3)]) (nc' := 126) (np' := 138) (M' := M) 4 rfl ?_
  obtain ⟨hR, ⟨hc, h⟩ | ⟨hc, h⟩⟩ := c_ge_i h
  · refine ev_icmp 27 rfl hR.1 hR.2 (by decide) (fun _ => ?_) (fun q => absurd hc q)
    refine ev_k (pc' := 28) (ls' := []) (st' := [.inl (0)]) (nc' := 126) (np' := 138) (M' := M) 1 rfl ?_
    exact R_here_28_t hd     (0) M r h
  · refine ev_icmp 27 rfl hR.1 hR.2 (by decide) (fun q => absurd q hc) (fun _ => ?_)
    refine ev_k (pc' := 19) (ls' := [(0, .inr (.inr (some 73)))]) (st' := [.inl (M 73 3), .inr (.inr (some 74))]) (nc' := 126) (np' := 138) (M' := M) 4 rfl ?_
    obtain ⟨hc, v1, ev, h⟩ := rd_i h
    refine ev_ald (k := 74) (t := 1) (Or.inr ⟨rfl, Or.inl rfl⟩) rfl (by decide) (by decide) rfl hc ev ?_
    refine ev_k (pc' := 28) (ls' := []) (st' := [.inl (b_and (v1) (255))]) (nc' := 126) (np' := 138) (M' := M) 3 rfl ?_
    exact R_here_28_t hd     (b_and (v1) (255)) M r h
def R_kindBy    (x0 : Int) (M : am_M) : Option (Int) := ck (am_R (x0)) ((if (x0) = (98) then
       (some (3)) else
       (if (x0) = (106) then
       (some (2)) else
       (if (x0) = (111) then
       (some (0)) else
       (if (x0) = (112) then
       (some (6)) else
       (if (x0) = (114) then
       (some (4)) else
       (if (x0) = (115) then
       (some (5)) else
       (if (x0) = (116) then
       (some (1)) else
       (some (-1))))))))))
theorem R_kindBy_e {L : Nat} {xs : Nat → Int} {d : Nat} (hd : 0 ≤ d)   (x0 : Int) (M : am_M) (r : Int) (h : R_kindBy   x0 M = some r) : am_Ev L xs d me_198 0 (am_ar1 0 [.inl (x0)]) [] 126 138 M (some (.inl r), 126, 138, M) := by
  refine ev_k (pc' := 1) (ls' := [(0, .inl (x0))]) (st' := [.inl (x0)]) (nc' := 126) (np' := 138) (M' := M) 1 rfl ?_
  obtain ⟨hR, h⟩ := ck_i h
  rcases if_i h with ⟨hq, h⟩ | ⟨hq0, h⟩
  · refine ev_tsw 98 rfl hR (97) (Or.inr ⟨by rw [hq]; decide, by rw [hq]; rfl⟩) (by decide) ?_
    refine ev_k (pc' := 99) (ls' := [(0, .inl (x0))]) (st' := [.inl (3)]) (nc' := 126) (np' := 138) (M' := M) 1 rfl ?_
    cases h
    exact ev_ret rfl
  · skip
    rcases if_i h with ⟨hq, h⟩ | ⟨hq1, h⟩
    · refine ev_tsw 96 rfl hR (95) (Or.inr ⟨by rw [hq]; decide, by rw [hq]; rfl⟩) (by decide) ?_
      refine ev_k (pc' := 97) (ls' := [(0, .inl (x0))]) (st' := [.inl (2)]) (nc' := 126) (np' := 138) (M' := M) 1 rfl ?_
      cases h
      exact ev_ret rfl
    · skip
      rcases if_i h with ⟨hq, h⟩ | ⟨hq2, h⟩
      · refine ev_tsw 92 rfl hR (91) (Or.inr ⟨by rw [hq]; decide, by rw [hq]; rfl⟩) (by decide) ?_
        refine ev_k (pc' := 93) (ls' := [(0, .inl (x0))]) (st' := [.inl (0)]) (nc' := 126) (np' := 138) (M' := M) 1 rfl ?_
        cases h
        exact ev_ret rfl
      · skip
        rcases if_i h with ⟨hq, h⟩ | ⟨hq3, h⟩
        · refine ev_tsw 104 rfl hR (103) (Or.inr ⟨by rw [hq]; decide, by rw [hq]; rfl⟩) (by decide) ?_
          refine ev_k (pc' := 106) (ls' := [(0, .inl (x0))]) (st' := [.inl (6)]) (nc' := 126) (np' := 138) (M' := M) 1 rfl ?_
          cases h
          exact ev_ret rfl
        · skip
          rcases if_i h with ⟨hq, h⟩ | ⟨hq4, h⟩
          · refine ev_tsw 100 rfl hR (99) (Or.inr ⟨by rw [hq]; decide, by rw [hq]; rfl⟩) (by decide) ?_
            refine ev_k (pc' := 101) (ls' := [(0, .inl (x0))]) (st' := [.inl (4)]) (nc' := 126) (np' := 138) (M' := M) 1 rfl ?_
            cases h
            exact ev_ret rfl
          · skip
            rcases if_i h with ⟨hq, h⟩ | ⟨hq5, h⟩
            · refine ev_tsw 102 rfl hR (101) (Or.inr ⟨by rw [hq]; decide, by rw [hq]; rfl⟩) (by decide) ?_
              refine ev_k (pc' := 103) (ls' := [(0, .inl (x0))]) (st' := [.inl (5)]) (nc' := 126) (np' := 138) (M' := M) 1 rfl ?_
              cases h
              exact ev_ret rfl
            · skip
              rcases if_i h with ⟨hq, h⟩ | ⟨hq6, h⟩
              · refine ev_tsw 94 rfl hR (93) (Or.inr ⟨by rw [hq]; decide, by rw [hq]; rfl⟩) (by decide) ?_
                refine ev_k (pc' := 95) (ls' := [(0, .inl (x0))]) (st' := [.inl (1)]) (nc' := 126) (np' := 138) (M' := M) 1 rfl ?_
                cases h
                exact ev_ret rfl
              · skip
                have hho : ((x0) < 98 ∨ 116 < (x0)) ∨ ((x0) = 98 ∨ (x0) = 99 ∨ (x0) = 100 ∨ (x0) = 101 ∨ (x0) = 102 ∨ (x0) = 103 ∨ (x0) = 104 ∨ (x0) = 105 ∨ (x0) = 106 ∨ (x0) = 107 ∨ (x0) = 108 ∨ (x0) = 109 ∨ (x0) = 110 ∨ (x0) = 111 ∨ (x0) = 112 ∨ (x0) = 113 ∨ (x0) = 114 ∨ (x0) = 115 ∨ (x0) = 116) := by omega
                refine ev_tsw 107 rfl hR (106) ?_ (by decide) ?_
                · rcases hho with hho | hho
                  · exact Or.inl ⟨hho, rfl⟩
                  · rcases hho with hho | hho | hho | hho | hho | hho | hho | hho | hho | hho | hho | hho | hho | hho | hho | hho | hho | hho | hho
                    · exact absurd hho hq0
                    · exact Or.inr ⟨by rw [hho]; decide, by rw [hho]; rfl⟩
                    · exact Or.inr ⟨by rw [hho]; decide, by rw [hho]; rfl⟩
                    · exact Or.inr ⟨by rw [hho]; decide, by rw [hho]; rfl⟩
                    · exact Or.inr ⟨by rw [hho]; decide, by rw [hho]; rfl⟩
                    · exact Or.inr ⟨by rw [hho]; decide, by rw [hho]; rfl⟩
                    · exact Or.inr ⟨by rw [hho]; decide, by rw [hho]; rfl⟩
                    · exact Or.inr ⟨by rw [hho]; decide, by rw [hho]; rfl⟩
                    · exact absurd hho hq1
                    · exact Or.inr ⟨by rw [hho]; decide, by rw [hho]; rfl⟩
                    · exact Or.inr ⟨by rw [hho]; decide, by rw [hho]; rfl⟩
                    · exact Or.inr ⟨by rw [hho]; decide, by rw [hho]; rfl⟩
                    · exact Or.inr ⟨by rw [hho]; decide, by rw [hho]; rfl⟩
                    · exact absurd hho hq2
                    · exact absurd hho hq3
                    · exact Or.inr ⟨by rw [hho]; decide, by rw [hho]; rfl⟩
                    · exact absurd hho hq4
                    · exact absurd hho hq5
                    · exact absurd hho hq6
                · skip
                  refine ev_k (pc' := 108) (ls' := [(0, .inl (x0))]) (st' := [.inl (-1)]) (nc' := 126) (np' := 138) (M' := M) 1 rfl ?_
                  cases h
                  exact ev_ret rfl
def R_wrongs_22    (s1 : Int) (M : am_M) : Option (am_M) := fw M 73 5 (s1) fun M1 => some (M1)
def R_wrongs    (x1 : Int) (x2 : Int) (M : am_M) : Option (am_M) := c_ge (M 73 5) (0)
       ((R_wrongs_22    (((-1000) * (x1)) - (x2)) M))
       ((R_wrongs_22    (M 73 5) M))
theorem R_wrongs_22_t {L : Nat} {xs : Nat → Int} {d : Nat} (hd : 0 ≤ d)     (s1 : Int) (M : am_M) (r : am_M) (h : R_wrongs_22    s1 M = some r) : am_Ev L xs d me_199 22 [] [.inl (s1), .inr (.inr (some 73))] 126 138 M (none, 126, 138, r) := by
  refine ev_k (pc' := 25) (ls' := []) (st' := []) (nc' := 126) (np' := 138) (M' := am_up M 73 5 (s1)) 1 rfl ?_
  obtain ⟨M1, eM, h⟩ := fw_i h
  rw [← eM]
  refine ev_k (pc' := 25) (ls' := []) (st' := []) (nc' := 126) (np' := 138) (M' := M1) 0 rfl ?_
  cases h
  exact ev_ret rfl
theorem R_wrongs_e {L : Nat} {xs : Nat → Int} {d : Nat} (hd : 0 ≤ d)   (x1 : Int) (x2 : Int) (M : am_M) (r : am_M) (h : R_wrongs   x1 x2 M = some r) : am_Ev L xs d me_199 0 (am_ar1 0 [.inr (.inr (some 73)), .inl (x1), .inl (x2)]) [] 126 138 M (none, 126, 138, r) := by
  refine ev_k (pc' := 5) (ls' := [(0, .inr (.inr (some 73))), (1, .inl (x1)), (2, .inl (x2))]) (st' := [.inl (M 73 5), .inr (.inr (some 73))]) (nc' := 126) (np' := 138) (M' := M) 3 rfl ?_
  obtain ⟨hR, ⟨hc, h⟩ | ⟨hc, h⟩⟩ := c_ge_i h
  · refine ev_ifc 15 rfl hR.1 (by decide) (fun _ => ?_) (fun q => absurd hc q)
    refine ev_k (pc' := 22) (ls' := []) (st' := [.inl (((-1000) * (x1)) - (x2)), .inr (.inr (some 73))]) (nc' := 126) (np' := 138) (M' := M) 5 rfl ?_
    exact R_wrongs_22_t hd     (((-1000) * (x1)) - (x2)) M r h
  · refine ev_ifc 15 rfl hR.1 (by decide) (fun q => absurd q hc) (fun _ => ?_)
    refine ev_k (pc' := 22) (ls' := []) (st' := [.inl (M 73 5), .inr (.inr (some 73))]) (nc' := 126) (np' := 138) (M' := M) 3 rfl ?_
    exact R_wrongs_22_t hd     (M 73 5) M r h
def R_seesDigit     (M : am_M) : Option (Int) := ob (R_here  M) fun v1 => ck (am_R (v1)) (ob (R_lies (v1) (48) (57) M) fun v2 => ck ((v2) = 0 ∨ (v2) = 1) (some (v2)))
theorem R_seesDigit_e {L : Nat} {xs : Nat → Int} {d : Nat} (hd : 1 ≤ d)    (M : am_M) (r : Int) (h : R_seesDigit    M = some r) : am_Ev L xs d me_201 0 (am_ar1 0 [.inr (.inr (some 73))]) [] 126 138 M (some (.inl r), 126, 138, M) := by
  refine ev_k (pc' := 1) (ls' := [(0, .inr (.inr (some 73)))]) (st' := [.inr (.inr (some 73))]) (nc' := 126) (np' := 138) (M' := M) 1 rfl ?_
  obtain ⟨v1, hv, h⟩ := ob_i h
  refine ev_call (t := 197) (as := [.inr (.inr (some 73))]) (rest := []) rfl rfl rfl (by omega) (R_here_e (by omega)  M _ hv) ?_
  refine ev_k (pc' := 4) (ls' := [(0, .inr (.inr (some 73)))]) (st' := [.inl (v1)]) (nc' := 126) (np' := 138) (M' := M) 0 rfl ?_
  obtain ⟨hc, h⟩ := ck_i h
  refine ev_i2l rfl hc ?_
  refine ev_k (pc' := 11) (ls' := [(0, .inr (.inr (some 73)))]) (st' := [.inr (.inl (57)), .inr (.inl (48)), .inr (.inl (v1))]) (nc' := 126) (np' := 138) (M' := M) 2 rfl ?_
  obtain ⟨v2, hv, h⟩ := ob_i h
  refine ev_call (t := 193) (as := [.inr (.inl (v1)), .inr (.inl (48)), .inr (.inl (57))]) (rest := []) rfl rfl rfl (by omega) (R_lies_e (by omega) (v1) (48) (57) M _ hv) ?_
  refine ev_k (pc' := 14) (ls' := [(0, .inr (.inr (some 73)))]) (st' := [.inl (v2)]) (nc' := 126) (np' := 138) (M' := M) 0 rfl ?_
  obtain ⟨hc, h⟩ := ck_i h
  cases h
  exact ev_retz rfl rfl hc
def R_number_90    (x2 : Int) (M : am_M) : Option (Int × am_M) := some (x2, M)
def R_number_73    (x1 : Int) (x2 : Int) (M : am_M) : Option (Int × am_M) := ob (R_isGood  M) fun v1 => c_eq (v1) (0)
       (R_number_90    (x2) M)
       (c_ne (x2) (0)
       (R_number_90    (x2) M)
       (ob (R_wrongs (3) (x1) M) fun M2 => (R_number_90    (x2) M2)))
def R_number_25    : Nat → Int → Int → Int → am_M → Option (Int × am_M)
  | 0, _, _, _, _ => none
  | n + 1, x1, x2, x3, M => c_ge (x3) (2)
       (R_number_73    (x1) (x2) M)
       (ob (R_isGood  M) fun v1 => c_eq (v1) (0)
       (R_number_73    (x1) (x2) M)
       (ob (R_seesDigit  M) fun v2 => c_eq (v2) (0)
       (R_number_73    (x1) (x2) M)
       (ob (R_here  M) fun v3 => fw M 73 3 ((M 73 3) + (1)) fun M4 => (R_number_25    n (x1) ((((10) * (x2)) + (v3)) - (48)) ((x3) + (1)) M4))))
def R_number_21    (x1 : Int) (M : am_M) : Option (Int × am_M) := (R_number_25    am_big (x1) (0) (0) M)
def R_number     (M : am_M) : Option (Int × am_M) := ob (R_seesDigit  M) fun v1 => c_ne (v1) (0)
       (R_number_21    (M 73 3) M)
       (ob (R_wrongs (1) (M 73 3) M) fun M2 => (R_number_21    (M 73 3) M2))
theorem R_number_90_t {L : Nat} {xs : Nat → Int} {d : Nat} (hd : 2 ≤ d)     (x2 : Int) (M : am_M) (r : Int × am_M) (h : R_number_90    x2 M = some r) : am_Ev L xs d me_202 90 [(2, .inl (x2))] [] 126 138 M (some (.inl r.1), 126, 138, r.2) := by
  refine ev_k (pc' := 91) (ls' := [(2, .inl (x2))]) (st' := [.inl (x2)]) (nc' := 126) (np' := 138) (M' := M) 1 rfl ?_
  cases h
  exact ev_ret rfl
theorem R_number_73_t {L : Nat} {xs : Nat → Int} {d : Nat} (hd : 2 ≤ d)     (x1 : Int) (x2 : Int) (M : am_M) (r : Int × am_M) (h : R_number_73    x1 x2 M = some r) : am_Ev L xs d me_202 73 [(0, .inr (.inr (some 73))), (1, .inl (x1)), (2, .inl (x2))] [] 126 138 M (some (.inl r.1), 126, 138, r.2) := by
  refine ev_k (pc' := 74) (ls' := [(0, .inr (.inr (some 73))), (1, .inl (x1)), (2, .inl (x2))]) (st' := [.inr (.inr (some 73))]) (nc' := 126) (np' := 138) (M' := M) 1 rfl ?_
  obtain ⟨v1, hv, h⟩ := ob_i h
  refine ev_call (t := 195) (as := [.inr (.inr (some 73))]) (rest := []) rfl rfl rfl (by omega) (R_isGood_e (by omega)  M _ hv) ?_
  refine ev_k (pc' := 77) (ls' := [(0, .inr (.inr (some 73))), (1, .inl (x1)), (2, .inl (x2))]) (st' := [.inl (v1)]) (nc' := 126) (np' := 138) (M' := M) 0 rfl ?_
  obtain ⟨hR, ⟨hc, h⟩ | ⟨hc, h⟩⟩ := c_eq_i h
  · refine ev_ifc 90 rfl hR.1 (by decide) (fun _ => ?_) (fun q => absurd hc q)
    exact R_number_90_t hd     (x2) M r h
  · refine ev_ifc 90 rfl hR.1 (by decide) (fun q => absurd q hc) (fun _ => ?_)
    refine ev_k (pc' := 81) (ls' := [(0, .inr (.inr (some 73))), (1, .inl (x1)), (2, .inl (x2))]) (st' := [.inl (x2)]) (nc' := 126) (np' := 138) (M' := M) 1 rfl ?_
    obtain ⟨hR, ⟨hc, h⟩ | ⟨hc, h⟩⟩ := c_ne_i h
    · refine ev_ifc 90 rfl hR.1 (by decide) (fun _ => ?_) (fun q => absurd hc q)
      exact R_number_90_t hd     (x2) M r h
    · refine ev_ifc 90 rfl hR.1 (by decide) (fun q => absurd q hc) (fun _ => ?_)
      refine ev_k (pc' := 87) (ls' := [(0, .inr (.inr (some 73))), (1, .inl (x1)), (2, .inl (x2))]) (st' := [.inl (x1), .inl (3), .inr (.inr (some 73))]) (nc' := 126) (np' := 138) (M' := M) 3 rfl ?_
      obtain ⟨M2, hv, h⟩ := ob_i h
      refine ev_call (t := 199) (as := [.inr (.inr (some 73)), .inl (3), .inl (x1)]) (rest := []) rfl rfl rfl (by omega) (R_wrongs_e (by omega) (3) (x1) M _ hv) ?_
      exact R_number_90_t hd     (x2) M2 r h
theorem R_number_25_t {L : Nat} {xs : Nat → Int} {d : Nat} (hd : 2 ≤ d)     : ∀ (n : Nat) (x1 : Int) (x2 : Int) (x3 : Int) (M : am_M) (r : Int × am_M), R_number_25    n x1 x2 x3 M = some r → am_Ev L xs d me_202 25 [(0, .inr (.inr (some 73))), (1, .inl (x1)), (2, .inl (x2)), (3, .inl (x3))] [] 126 138 M (some (.inl r.1), 126, 138, r.2)
  | 0, _, _, _, M, r, h => by cases h
  | n + 1, x1, x2, x3, M, r, h => by
    have ih := R_number_25_t (L := L) (xs := xs) hd     n
    refine ev_k (pc' := 27) (ls' := [(0, .inr (.inr (some 73))), (1, .inl (x1)), (2, .inl (x2)), (3, .inl (x3))]) (st' := [.inl (2), .inl (x3)]) (nc' := 126) (np' := 138) (M' := M) 2 rfl ?_
    obtain ⟨hR, ⟨hc, h⟩ | ⟨hc, h⟩⟩ := c_ge_i h
    · refine ev_icmp 73 rfl hR.1 hR.2 (by decide) (fun _ => ?_) (fun q => absurd hc q)
      exact R_number_73_t hd     (x1) (x2) M r h
    · refine ev_icmp 73 rfl hR.1 hR.2 (by decide) (fun q => absurd q hc) (fun _ => ?_)
      refine ev_k (pc' := 31) (ls' := [(0, .inr (.inr (some 73))), (1, .inl (x1)), (2, .inl (x2)), (3, .inl (x3))]) (st' := [.inr (.inr (some 73))]) (nc' := 126) (np' := 138) (M' := M) 1 rfl ?_
      obtain ⟨v1, hv, h⟩ := ob_i h
      refine ev_call (t := 195) (as := [.inr (.inr (some 73))]) (rest := []) rfl rfl rfl (by omega) (R_isGood_e (by omega)  M _ hv) ?_
      refine ev_k (pc' := 34) (ls' := [(0, .inr (.inr (some 73))), (1, .inl (x1)), (2, .inl (x2)), (3, .inl (x3))]) (st' := [.inl (v1)]) (nc' := 126) (np' := 138) (M' := M) 0 rfl ?_
      obtain ⟨hR, ⟨hc, h⟩ | ⟨hc, h⟩⟩ := c_eq_i h
      · refine ev_ifc 73 rfl hR.1 (by decide) (fun _ => ?_) (fun q => absurd hc q)
        exact R_number_73_t hd     (x1) (x2) M r h
      · refine ev_ifc 73 rfl hR.1 (by decide) (fun q => absurd q hc) (fun _ => ?_)
        refine ev_k (pc' := 38) (ls' := [(0, .inr (.inr (some 73))), (1, .inl (x1)), (2, .inl (x2)), (3, .inl (x3))]) (st' := [.inr (.inr (some 73))]) (nc' := 126) (np' := 138) (M' := M) 1 rfl ?_
        obtain ⟨v2, hv, h⟩ := ob_i h
        refine ev_call (t := 201) (as := [.inr (.inr (some 73))]) (rest := []) rfl rfl rfl (by omega) (R_seesDigit_e (by omega)  M _ hv) ?_
        refine ev_k (pc' := 41) (ls' := [(0, .inr (.inr (some 73))), (1, .inl (x1)), (2, .inl (x2)), (3, .inl (x3))]) (st' := [.inl (v2)]) (nc' := 126) (np' := 138) (M' := M) 0 rfl ?_
        obtain ⟨hR, ⟨hc, h⟩ | ⟨hc, h⟩⟩ := c_eq_i h
        · refine ev_ifc 73 rfl hR.1 (by decide) (fun _ => ?_) (fun q => absurd hc q)
          exact R_number_73_t hd     (x1) (x2) M r h
        · refine ev_ifc 73 rfl hR.1 (by decide) (fun q => absurd q hc) (fun _ => ?_)
          refine ev_k (pc' := 49) (ls' := [(0, .inr (.inr (some 73))), (1, .inl (x1)), (2, .inl (x2)), (3, .inl (x3))]) (st' := [.inr (.inr (some 73)), .inl ((10) * (x2))]) (nc' := 126) (np' := 138) (M' := M) 4 rfl ?_
          obtain ⟨v3, hv, h⟩ := ob_i h
          refine ev_call (t := 197) (as := [.inr (.inr (some 73))]) (rest := [.inl ((10) * (x2))]) rfl rfl rfl (by omega) (R_here_e (by omega)  M _ hv) ?_
          refine ev_k (pc' := 67) (ls' := [(2, .inl ((((10) * (x2)) + (v3)) - (48))), (0, .inr (.inr (some 73))), (1, .inl (x1)), (3, .inl (x3))]) (st' := []) (nc' := 126) (np' := 138) (M' := am_up M 73 3 ((M 73 3) + (1))) 10 rfl ?_
          obtain ⟨M4, eM, h⟩ := fw_i h
          rw [← eM]
          refine ev_k (pc' := 25) (ls' := [(0, .inr (.inr (some 73))), (1, .inl (x1)), (2, .inl ((((10) * (x2)) + (v3)) - (48))), (3, .inl ((x3) + (1)))]) (st' := []) (nc' := 126) (np' := 138) (M' := M4) 2 rfl ?_
          exact ih (x1) ((((10) * (x2)) + (v3)) - (48)) ((x3) + (1)) M4 r h
theorem R_number_21_t {L : Nat} {xs : Nat → Int} {d : Nat} (hd : 2 ≤ d)     (x1 : Int) (M : am_M) (r : Int × am_M) (h : R_number_21    x1 M = some r) : am_Ev L xs d me_202 21 [(0, .inr (.inr (some 73))), (1, .inl (x1))] [] 126 138 M (some (.inl r.1), 126, 138, r.2) := by
  refine ev_k (pc' := 25) (ls' := [(0, .inr (.inr (some 73))), (1, .inl (x1)), (2, .inl (0)), (3, .inl (0))]) (st' := []) (nc' := 126) (np' := 138) (M' := M) 4 rfl ?_
  exact R_number_25_t hd     am_big (x1) (0) (0) M r h
theorem R_number_e {L : Nat} {xs : Nat → Int} {d : Nat} (hd : 2 ≤ d)    (M : am_M) (r : Int × am_M) (h : R_number    M = some r) : am_Ev L xs d me_202 0 (am_ar1 0 [.inr (.inr (some 73))]) [] 126 138 M (some (.inl r.1), 126, 138, r.2) := by
  refine ev_k (pc' := 6) (ls' := [(1, .inl (M 73 3)), (0, .inr (.inr (some 73)))]) (st' := [.inr (.inr (some 73))]) (nc' := 126) (np' := 138) (M' := M) 4 rfl ?_
  obtain ⟨v1, hv, h⟩ := ob_i h
  refine ev_call (t := 201) (as := [.inr (.inr (some 73))]) (rest := []) rfl rfl rfl (by omega) (R_seesDigit_e (by omega)  M _ hv) ?_
  refine ev_k (pc' := 9) (ls' := [(1, .inl (M 73 3)), (0, .inr (.inr (some 73)))]) (st' := [.inl (v1)]) (nc' := 126) (np' := 138) (M' := M) 0 rfl ?_
  obtain ⟨hR, ⟨hc, h⟩ | ⟨hc, h⟩⟩ := c_ne_i h
  · refine ev_ifc 21 rfl hR.1 (by decide) (fun _ => ?_) (fun q => absurd hc q)
    exact R_number_21_t hd     (M 73 3) M r h
  · refine ev_ifc 21 rfl hR.1 (by decide) (fun q => absurd q hc) (fun _ => ?_)
    refine ev_k (pc' := 18) (ls' := [(1, .inl (M 73 3)), (0, .inr (.inr (some 73)))]) (st' := [.inl (M 73 3), .inl (1), .inr (.inr (some 73))]) (nc' := 126) (np' := 138) (M' := M) 4 rfl ?_
    obtain ⟨M2, hv, h⟩ := ob_i h
    refine ev_call (t := 199) (as := [.inr (.inr (some 73)), .inl (1), .inl (M 73 3)]) (rest := []) rfl rfl rfl (by omega) (R_wrongs_e (by omega) (1) (M 73 3) M _ hv) ?_
    exact R_number_21_t hd     (M 73 3) M2 r h
def R_run_108     (M : am_M) : Option (am_M) := some (M)
def R_run_68    : Nat → Int → Int → Int → am_M → Option (am_M)
  | 0, _, _, _, _ => none
  | n + 1, x3, x4, x5, M => ob (R_isGood  M) fun v1 => c_eq (v1) (0)
       (R_run_108     M)
       (c_ge (x5) (x4)
       (R_run_108     M)
       (wa M 76 144 (M 73 12) (x3) fun M2 => fw M2 73 12 ((M2 73 12) + (1)) fun M3 => (R_run_68    n (x3) (x4) ((x5) + (1)) M3)))
def R_run_65    (x3 : Int) (x4 : Int) (M : am_M) : Option (am_M) := (R_run_68    am_big (x3) (x4) (0) M)
def R_run_38    (x1 : Int) (x2 : Int) (x3 : Int) (s0 : Int) (M : am_M) : Option (am_M) := ob (R_isGood  M) fun v1 => c_eq (v1) (0)
       (R_run_65    (x3) (s0) M)
       (c_le ((M 73 12) + (s0)) (x1)
       (R_run_65    (x3) (s0) M)
       (ob (R_wrongs (6) (x2) M) fun M2 => (R_run_65    (x3) (s0) M2)))
def R_run    (x1 : Int) (M : am_M) : Option (am_M) := ob (R_here  M) fun v1 => ob (R_kindBy (v1) M) fun v2 => fw M 73 3 ((M 73 3) + (1)) fun M3 => ob (R_seesDigit  M3) fun v4 => c_eq (v4) (0)
       ((R_run_38    (x1) (M 73 3) (v2) (1) M3))
       (oc (R_number  M3) fun v5 M6 => (R_run_38    (x1) (M 73 3) (v2) (v5) M6))
theorem R_run_108_t {L : Nat} {xs : Nat → Int} {d : Nat} (hd : 3 ≤ d)      (M : am_M) (r : am_M) (h : R_run_108     M = some r) : am_Ev L xs d me_200 108 [] [] 126 138 M (none, 126, 138, r) := by
  refine ev_k (pc' := 108) (ls' := []) (st' := []) (nc' := 126) (np' := 138) (M' := M) 0 rfl ?_
  cases h
  exact ev_ret rfl
theorem R_run_68_t {L : Nat} {xs : Nat → Int} {d : Nat} (hd : 3 ≤ d)     : ∀ (n : Nat) (x3 : Int) (x4 : Int) (x5 : Int) (M : am_M) (r : am_M), R_run_68    n x3 x4 x5 M = some r → am_Ev L xs d me_200 68 [(0, .inr (.inr (some 73))), (3, .inl (x3)), (4, .inl (x4)), (5, .inl (x5))] [] 126 138 M (none, 126, 138, r)
  | 0, _, _, _, M, r, h => by cases h
  | n + 1, x3, x4, x5, M, r, h => by
    have ih := R_run_68_t (L := L) (xs := xs) hd     n
    refine ev_k (pc' := 69) (ls' := [(0, .inr (.inr (some 73))), (3, .inl (x3)), (4, .inl (x4)), (5, .inl (x5))]) (st' := [.inr (.inr (some 73))]) (nc' := 126) (np' := 138) (M' := M) 1 rfl ?_
    obtain ⟨v1, hv, h⟩ := ob_i h
    refine ev_call (t := 195) (as := [.inr (.inr (some 73))]) (rest := []) rfl rfl rfl (by omega) (R_isGood_e (by omega)  M _ hv) ?_
    refine ev_k (pc' := 72) (ls' := [(0, .inr (.inr (some 73))), (3, .inl (x3)), (4, .inl (x4)), (5, .inl (x5))]) (st' := [.inl (v1)]) (nc' := 126) (np' := 138) (M' := M) 0 rfl ?_
    obtain ⟨hR, ⟨hc, h⟩ | ⟨hc, h⟩⟩ := c_eq_i h
    · refine ev_ifc 108 rfl hR.1 (by decide) (fun _ => ?_) (fun q => absurd hc q)
      exact R_run_108_t hd      M r h
    · refine ev_ifc 108 rfl hR.1 (by decide) (fun q => absurd q hc) (fun _ => ?_)
      refine ev_k (pc' := 79) (ls' := [(0, .inr (.inr (some 73))), (3, .inl (x3)), (4, .inl (x4)), (5, .inl (x5))]) (st' := [.inl (x4), .inl (x5)]) (nc' := 126) (np' := 138) (M' := M) 2 rfl ?_
      obtain ⟨hR, ⟨hc, h⟩ | ⟨hc, h⟩⟩ := c_ge_i h
      · refine ev_icmp 108 rfl hR.1 hR.2 (by decide) (fun _ => ?_) (fun q => absurd hc q)
        exact R_run_108_t hd      M r h
      · refine ev_icmp 108 rfl hR.1 hR.2 (by decide) (fun q => absurd q hc) (fun _ => ?_)
        refine ev_k (pc' := 91) (ls' := [(0, .inr (.inr (some 73))), (3, .inl (x3)), (4, .inl (x4)), (5, .inl (x5))]) (st' := [.inl (x3), .inl (M 73 12), .inr (.inr (some 76))]) (nc' := 126) (np' := 138) (M' := M) 5 rfl ?_
        obtain ⟨hc, M2, eM, h⟩ := wa_i h
        refine ev_iast (k := 76) rfl (by decide) rfl hc eM ?_
        refine ev_k (pc' := 102) (ls' := [(0, .inr (.inr (some 73))), (3, .inl (x3)), (4, .inl (x4)), (5, .inl (x5))]) (st' := []) (nc' := 126) (np' := 138) (M' := am_up M2 73 12 ((M2 73 12) + (1))) 6 rfl ?_
        obtain ⟨M3, eM, h⟩ := fw_i h
        rw [← eM]
        refine ev_k (pc' := 68) (ls' := [(0, .inr (.inr (some 73))), (3, .inl (x3)), (4, .inl (x4)), (5, .inl ((x5) + (1)))]) (st' := []) (nc' := 126) (np' := 138) (M' := M3) 2 rfl ?_
        exact ih (x3) (x4) ((x5) + (1)) M3 r h
theorem R_run_65_t {L : Nat} {xs : Nat → Int} {d : Nat} (hd : 3 ≤ d)     (x3 : Int) (x4 : Int) (M : am_M) (r : am_M) (h : R_run_65    x3 x4 M = some r) : am_Ev L xs d me_200 65 [(0, .inr (.inr (some 73))), (3, .inl (x3)), (4, .inl (x4))] [] 126 138 M (none, 126, 138, r) := by
  refine ev_k (pc' := 68) (ls' := [(0, .inr (.inr (some 73))), (3, .inl (x3)), (4, .inl (x4)), (5, .inl (0))]) (st' := []) (nc' := 126) (np' := 138) (M' := M) 2 rfl ?_
  exact R_run_68_t hd     am_big (x3) (x4) (0) M r h
theorem R_run_38_t {L : Nat} {xs : Nat → Int} {d : Nat} (hd : 3 ≤ d)     (x1 : Int) (x2 : Int) (x3 : Int) (s0 : Int) (M : am_M) (r : am_M) (h : R_run_38    x1 x2 x3 s0 M = some r) : am_Ev L xs d me_200 38 [(0, .inr (.inr (some 73))), (1, .inl (x1)), (2, .inl (x2)), (3, .inl (x3))] [.inl (s0)] 126 138 M (none, 126, 138, r) := by
  refine ev_k (pc' := 41) (ls' := [(4, .inl (s0)), (0, .inr (.inr (some 73))), (1, .inl (x1)), (2, .inl (x2)), (3, .inl (x3))]) (st' := [.inr (.inr (some 73))]) (nc' := 126) (np' := 138) (M' := M) 2 rfl ?_
  obtain ⟨v1, hv, h⟩ := ob_i h
  refine ev_call (t := 195) (as := [.inr (.inr (some 73))]) (rest := []) rfl rfl rfl (by omega) (R_isGood_e (by omega)  M _ hv) ?_
  refine ev_k (pc' := 44) (ls' := [(4, .inl (s0)), (0, .inr (.inr (some 73))), (1, .inl (x1)), (2, .inl (x2)), (3, .inl (x3))]) (st' := [.inl (v1)]) (nc' := 126) (np' := 138) (M' := M) 0 rfl ?_
  obtain ⟨hR, ⟨hc, h⟩ | ⟨hc, h⟩⟩ := c_eq_i h
  · refine ev_ifc 65 rfl hR.1 (by decide) (fun _ => ?_) (fun q => absurd hc q)
    exact R_run_65_t hd     (x3) (s0) M r h
  · refine ev_ifc 65 rfl hR.1 (by decide) (fun q => absurd q hc) (fun _ => ?_)
    refine ev_k (pc' := 55) (ls' := [(4, .inl (s0)), (0, .inr (.inr (some 73))), (1, .inl (x1)), (2, .inl (x2)), (3, .inl (x3))]) (st' := [.inl (x1), .inl ((M 73 12) + (s0))]) (nc' := 126) (np' := 138) (M' := M) 5 rfl ?_
    obtain ⟨hR, ⟨hc, h⟩ | ⟨hc, h⟩⟩ := c_le_i h
    · refine ev_icmp 65 rfl hR.1 hR.2 (by decide) (fun _ => ?_) (fun q => absurd hc q)
      exact R_run_65_t hd     (x3) (s0) M r h
    · refine ev_icmp 65 rfl hR.1 hR.2 (by decide) (fun q => absurd q hc) (fun _ => ?_)
      refine ev_k (pc' := 62) (ls' := [(4, .inl (s0)), (0, .inr (.inr (some 73))), (1, .inl (x1)), (2, .inl (x2)), (3, .inl (x3))]) (st' := [.inl (x2), .inl (6), .inr (.inr (some 73))]) (nc' := 126) (np' := 138) (M' := M) 3 rfl ?_
      obtain ⟨M2, hv, h⟩ := ob_i h
      refine ev_call (t := 199) (as := [.inr (.inr (some 73)), .inl (6), .inl (x2)]) (rest := []) rfl rfl rfl (by omega) (R_wrongs_e (by omega) (6) (x2) M _ hv) ?_
      exact R_run_65_t hd     (x3) (s0) M2 r h
theorem R_run_e {L : Nat} {xs : Nat → Int} {d : Nat} (hd : 3 ≤ d)   (x1 : Int) (M : am_M) (r : am_M) (h : R_run   x1 M = some r) : am_Ev L xs d me_200 0 (am_ar1 0 [.inr (.inr (some 73)), .inl (x1)]) [] 126 138 M (none, 126, 138, r) := by
  refine ev_k (pc' := 6) (ls' := [(2, .inl (M 73 3)), (0, .inr (.inr (some 73))), (1, .inl (x1))]) (st' := [.inr (.inr (some 73))]) (nc' := 126) (np' := 138) (M' := M) 4 rfl ?_
  obtain ⟨v1, hv, h⟩ := ob_i h
  refine ev_call (t := 197) (as := [.inr (.inr (some 73))]) (rest := []) rfl rfl rfl (by omega) (R_here_e (by omega)  M _ hv) ?_
  refine ev_k (pc' := 9) (ls' := [(2, .inl (M 73 3)), (0, .inr (.inr (some 73))), (1, .inl (x1))]) (st' := [.inl (v1)]) (nc' := 126) (np' := 138) (M' := M) 0 rfl ?_
  obtain ⟨v2, hv, h⟩ := ob_i h
  refine ev_call (t := 198) (as := [.inl (v1)]) (rest := []) rfl rfl rfl (by omega) (R_kindBy_e (by omega) (v1) M _ hv) ?_
  refine ev_k (pc' := 23) (ls' := [(3, .inl (v2)), (2, .inl (M 73 3)), (0, .inr (.inr (some 73))), (1, .inl (x1))]) (st' := []) (nc' := 126) (np' := 138) (M' := am_up M 73 3 ((M 73 3) + (1))) 7 rfl ?_
  obtain ⟨M3, eM, h⟩ := fw_i h
  rw [← eM]
  refine ev_k (pc' := 24) (ls' := [(3, .inl (v2)), (2, .inl (M 73 3)), (0, .inr (.inr (some 73))), (1, .inl (x1))]) (st' := [.inr (.inr (some 73))]) (nc' := 126) (np' := 138) (M' := M3) 1 rfl ?_
  obtain ⟨v4, hv, h⟩ := ob_i h
  refine ev_call (t := 201) (as := [.inr (.inr (some 73))]) (rest := []) rfl rfl rfl (by omega) (R_seesDigit_e (by omega)  M3 _ hv) ?_
  refine ev_k (pc' := 27) (ls' := [(3, .inl (v2)), (2, .inl (M 73 3)), (0, .inr (.inr (some 73))), (1, .inl (x1))]) (st' := [.inl (v4)]) (nc' := 126) (np' := 138) (M' := M3) 0 rfl ?_
  obtain ⟨hR, ⟨hc, h⟩ | ⟨hc, h⟩⟩ := c_eq_i h
  · refine ev_ifc 37 rfl hR.1 (by decide) (fun _ => ?_) (fun q => absurd hc q)
    refine ev_k (pc' := 38) (ls' := [(0, .inr (.inr (some 73))), (1, .inl (x1)), (2, .inl (M 73 3)), (3, .inl (v2))]) (st' := [.inl (1)]) (nc' := 126) (np' := 138) (M' := M3) 1 rfl ?_
    exact R_run_38_t hd     (x1) (M 73 3) (v2) (1) M3 r h
  · refine ev_ifc 37 rfl hR.1 (by decide) (fun q => absurd q hc) (fun _ => ?_)
    refine ev_k (pc' := 31) (ls' := [(3, .inl (v2)), (2, .inl (M 73 3)), (0, .inr (.inr (some 73))), (1, .inl (x1))]) (st' := [.inr (.inr (some 73))]) (nc' := 126) (np' := 138) (M' := M3) 1 rfl ?_
    obtain ⟨v5, M6, hv, h⟩ := oc_i h
    refine ev_call (t := 202) (as := [.inr (.inr (some 73))]) (rest := []) rfl rfl rfl (by omega) (R_number_e (by omega)  M3 _ hv) ?_
    refine ev_k (pc' := 38) (ls' := [(0, .inr (.inr (some 73))), (1, .inl (x1)), (2, .inl (M 73 3)), (3, .inl (v2))]) (st' := [.inl (v5)]) (nc' := 126) (np' := 138) (M' := M6) 1 rfl ?_
    exact R_run_38_t hd     (x1) (M 73 3) (v2) (v5) M6 r h
def R_row_127   (k81 : Int → am_M → Option (am_M)) (x2 : Int) (M : am_M) : Option (am_M) := ob (R_isGood  M) fun v1 => c_eq (v1) (0)
       (k81 (x2) M)
       (ob (R_run (x2) M) fun M2 => (k81 (x2) M2))
def R_row_107   (k81 : Int → am_M → Option (am_M)) (x2 : Int) (M : am_M) : Option (am_M) := ob (R_here  M) fun v1 => ob (R_kindBy (v1) M) fun v2 => c_ne (v2) (-1)
       (R_row_127   k81 (x2) M)
       (ob (R_wrongs (1) (M 73 3) M) fun M3 => (R_row_127   k81 (x2) M3))
def R_row_142     (M : am_M) : Option (am_M) := some (M)
def R_row_81    : Nat → Int → am_M → Option (am_M)
  | 0, _, _ => none
  | n + 1, x2, M => ob (R_isGood  M) fun v1 => c_eq (v1) (0)
       (R_row_142     M)
       (c_lt (M 73 12) (x2)
       (R_row_107   (R_row_81    n) (x2) M)
       (ob (R_here  M) fun v2 => ob (R_kindBy (v2) M) fun v3 => c_eq (v3) (-1)
       (R_row_142     M)
       (R_row_107   (R_row_81    n) (x2) M)))
def R_row_22    : Nat → Int → am_M → Option (am_M)
  | 0, _, _ => none
  | n + 1, x3, M => c_ge (x3) (12)
       (fw M 73 12 ((M 73 12) + (12)) fun M1 => fw M1 73 3 ((M1 73 3) + (1)) fun M2 => some (M2))
       (rd M 76 144 (((M 73 12) + (x3)) - (12)) fun v3 => wa M 76 144 ((M 73 12) + (x3)) (v3) fun M4 => (R_row_22    n ((x3) + (1)) M4))
def R_row    (x1 : Int) (M : am_M) : Option (am_M) := ob (R_here  M) fun v1 => c_ne (v1) (61)
       (R_row_81    am_big ((12) * ((x1) + (1))) M)
       (c_le (x1) (0)
       (R_row_81    am_big ((12) * ((x1) + (1))) M)
       ((R_row_22    am_big (0) M)))
theorem R_row_127_t {L : Nat} {xs : Nat → Int} {d : Nat} (hd : 4 ≤ d)   (k81 : Int → am_M → Option (am_M)) (hk81 : ∀ (x2 : Int) (M : am_M) (r : am_M), k81 x2 M = some r → am_Ev L xs d me_196 81 [(0, .inr (.inr (some 73))), (2, .inl (x2))] [] 126 138 M (none, 126, 138, r)) (x2 : Int) (M : am_M) (r : am_M) (h : R_row_127   k81 x2 M = some r) : am_Ev L xs d me_196 127 [(0, .inr (.inr (some 73))), (2, .inl (x2))] [] 126 138 M (none, 126, 138, r) := by
  refine ev_k (pc' := 128) (ls' := [(0, .inr (.inr (some 73))), (2, .inl (x2))]) (st' := [.inr (.inr (some 73))]) (nc' := 126) (np' := 138) (M' := M) 1 rfl ?_
  obtain ⟨v1, hv, h⟩ := ob_i h
  refine ev_call (t := 195) (as := [.inr (.inr (some 73))]) (rest := []) rfl rfl rfl (by omega) (R_isGood_e (by omega)  M _ hv) ?_
  refine ev_k (pc' := 131) (ls' := [(0, .inr (.inr (some 73))), (2, .inl (x2))]) (st' := [.inl (v1)]) (nc' := 126) (np' := 138) (M' := M) 0 rfl ?_
  obtain ⟨hR, ⟨hc, h⟩ | ⟨hc, h⟩⟩ := c_eq_i h
  · refine ev_ifc 81 rfl hR.1 (by decide) (fun _ => ?_) (fun q => absurd hc q)
    exact hk81 (x2) M r h
  · refine ev_ifc 81 rfl hR.1 (by decide) (fun q => absurd q hc) (fun _ => ?_)
    refine ev_k (pc' := 136) (ls' := [(0, .inr (.inr (some 73))), (2, .inl (x2))]) (st' := [.inl (x2), .inr (.inr (some 73))]) (nc' := 126) (np' := 138) (M' := M) 2 rfl ?_
    obtain ⟨M2, hv, h⟩ := ob_i h
    refine ev_call (t := 200) (as := [.inr (.inr (some 73)), .inl (x2)]) (rest := []) rfl rfl rfl (by omega) (R_run_e (by omega) (x2) M _ hv) ?_
    refine ev_k (pc' := 81) (ls' := [(0, .inr (.inr (some 73))), (2, .inl (x2))]) (st' := []) (nc' := 126) (np' := 138) (M' := M2) 1 rfl ?_
    exact hk81 (x2) M2 r h
theorem R_row_107_t {L : Nat} {xs : Nat → Int} {d : Nat} (hd : 4 ≤ d)   (k81 : Int → am_M → Option (am_M)) (hk81 : ∀ (x2 : Int) (M : am_M) (r : am_M), k81 x2 M = some r → am_Ev L xs d me_196 81 [(0, .inr (.inr (some 73))), (2, .inl (x2))] [] 126 138 M (none, 126, 138, r)) (x2 : Int) (M : am_M) (r : am_M) (h : R_row_107   k81 x2 M = some r) : am_Ev L xs d me_196 107 [(0, .inr (.inr (some 73))), (2, .inl (x2))] [] 126 138 M (none, 126, 138, r) := by
  refine ev_k (pc' := 108) (ls' := [(0, .inr (.inr (some 73))), (2, .inl (x2))]) (st' := [.inr (.inr (some 73))]) (nc' := 126) (np' := 138) (M' := M) 1 rfl ?_
  obtain ⟨v1, hv, h⟩ := ob_i h
  refine ev_call (t := 197) (as := [.inr (.inr (some 73))]) (rest := []) rfl rfl rfl (by omega) (R_here_e (by omega)  M _ hv) ?_
  refine ev_k (pc' := 111) (ls' := [(0, .inr (.inr (some 73))), (2, .inl (x2))]) (st' := [.inl (v1)]) (nc' := 126) (np' := 138) (M' := M) 0 rfl ?_
  obtain ⟨v2, hv, h⟩ := ob_i h
  refine ev_call (t := 198) (as := [.inl (v1)]) (rest := []) rfl rfl rfl (by omega) (R_kindBy_e (by omega) (v1) M _ hv) ?_
  refine ev_k (pc' := 115) (ls' := [(0, .inr (.inr (some 73))), (2, .inl (x2))]) (st' := [.inl (-1), .inl (v2)]) (nc' := 126) (np' := 138) (M' := M) 1 rfl ?_
  obtain ⟨hR, ⟨hc, h⟩ | ⟨hc, h⟩⟩ := c_ne_i h
  · refine ev_icmp 127 rfl hR.1 hR.2 (by decide) (fun _ => ?_) (fun q => absurd hc q)
    exact R_row_127_t hd   k81 hk81 (x2) M r h
  · refine ev_icmp 127 rfl hR.1 hR.2 (by decide) (fun q => absurd q hc) (fun _ => ?_)
    refine ev_k (pc' := 124) (ls' := [(0, .inr (.inr (some 73))), (2, .inl (x2))]) (st' := [.inl (M 73 3), .inl (1), .inr (.inr (some 73))]) (nc' := 126) (np' := 138) (M' := M) 4 rfl ?_
    obtain ⟨M3, hv, h⟩ := ob_i h
    refine ev_call (t := 199) (as := [.inr (.inr (some 73)), .inl (1), .inl (M 73 3)]) (rest := []) rfl rfl rfl (by omega) (R_wrongs_e (by omega) (1) (M 73 3) M _ hv) ?_
    exact R_row_127_t hd   k81 hk81 (x2) M3 r h
theorem R_row_142_t {L : Nat} {xs : Nat → Int} {d : Nat} (hd : 4 ≤ d)      (M : am_M) (r : am_M) (h : R_row_142     M = some r) : am_Ev L xs d me_196 142 [] [] 126 138 M (none, 126, 138, r) := by
  refine ev_k (pc' := 142) (ls' := []) (st' := []) (nc' := 126) (np' := 138) (M' := M) 0 rfl ?_
  cases h
  exact ev_ret rfl
theorem R_row_81_t {L : Nat} {xs : Nat → Int} {d : Nat} (hd : 4 ≤ d)     : ∀ (n : Nat) (x2 : Int) (M : am_M) (r : am_M), R_row_81    n x2 M = some r → am_Ev L xs d me_196 81 [(0, .inr (.inr (some 73))), (2, .inl (x2))] [] 126 138 M (none, 126, 138, r)
  | 0, _, M, r, h => by cases h
  | n + 1, x2, M, r, h => by
    have ih := R_row_81_t (L := L) (xs := xs) hd     n
    refine ev_k (pc' := 82) (ls' := [(0, .inr (.inr (some 73))), (2, .inl (x2))]) (st' := [.inr (.inr (some 73))]) (nc' := 126) (np' := 138) (M' := M) 1 rfl ?_
    obtain ⟨v1, hv, h⟩ := ob_i h
    refine ev_call (t := 195) (as := [.inr (.inr (some 73))]) (rest := []) rfl rfl rfl (by omega) (R_isGood_e (by omega)  M _ hv) ?_
    refine ev_k (pc' := 85) (ls' := [(0, .inr (.inr (some 73))), (2, .inl (x2))]) (st' := [.inl (v1)]) (nc' := 126) (np' := 138) (M' := M) 0 rfl ?_
    obtain ⟨hR, ⟨hc, h⟩ | ⟨hc, h⟩⟩ := c_eq_i h
    · refine ev_ifc 142 rfl hR.1 (by decide) (fun _ => ?_) (fun q => absurd hc q)
      exact R_row_142_t hd      M r h
    · refine ev_ifc 142 rfl hR.1 (by decide) (fun q => absurd q hc) (fun _ => ?_)
      refine ev_k (pc' := 93) (ls' := [(0, .inr (.inr (some 73))), (2, .inl (x2))]) (st' := [.inl (x2), .inl (M 73 12)]) (nc' := 126) (np' := 138) (M' := M) 3 rfl ?_
      obtain ⟨hR, ⟨hc, h⟩ | ⟨hc, h⟩⟩ := c_lt_i h
      · refine ev_icmp 107 rfl hR.1 hR.2 (by decide) (fun _ => ?_) (fun q => absurd hc q)
        exact R_row_107_t hd   (R_row_81    n) ih (x2) M r h
      · refine ev_icmp 107 rfl hR.1 hR.2 (by decide) (fun q => absurd q hc) (fun _ => ?_)
        refine ev_k (pc' := 97) (ls' := [(0, .inr (.inr (some 73))), (2, .inl (x2))]) (st' := [.inr (.inr (some 73))]) (nc' := 126) (np' := 138) (M' := M) 1 rfl ?_
        obtain ⟨v2, hv, h⟩ := ob_i h
        refine ev_call (t := 197) (as := [.inr (.inr (some 73))]) (rest := []) rfl rfl rfl (by omega) (R_here_e (by omega)  M _ hv) ?_
        refine ev_k (pc' := 100) (ls' := [(0, .inr (.inr (some 73))), (2, .inl (x2))]) (st' := [.inl (v2)]) (nc' := 126) (np' := 138) (M' := M) 0 rfl ?_
        obtain ⟨v3, hv, h⟩ := ob_i h
        refine ev_call (t := 198) (as := [.inl (v2)]) (rest := []) rfl rfl rfl (by omega) (R_kindBy_e (by omega) (v2) M _ hv) ?_
        refine ev_k (pc' := 104) (ls' := [(0, .inr (.inr (some 73))), (2, .inl (x2))]) (st' := [.inl (-1), .inl (v3)]) (nc' := 126) (np' := 138) (M' := M) 1 rfl ?_
        obtain ⟨hR, ⟨hc, h⟩ | ⟨hc, h⟩⟩ := c_eq_i h
        · refine ev_icmp 142 rfl hR.1 hR.2 (by decide) (fun _ => ?_) (fun q => absurd hc q)
          exact R_row_142_t hd      M r h
        · refine ev_icmp 142 rfl hR.1 hR.2 (by decide) (fun q => absurd q hc) (fun _ => ?_)
          exact R_row_107_t hd   (R_row_81    n) ih (x2) M r h
theorem R_row_22_t {L : Nat} {xs : Nat → Int} {d : Nat} (hd : 4 ≤ d)     : ∀ (n : Nat) (x3 : Int) (M : am_M) (r : am_M), R_row_22    n x3 M = some r → am_Ev L xs d me_196 22 [(0, .inr (.inr (some 73))), (3, .inl (x3))] [] 126 138 M (none, 126, 138, r)
  | 0, _, M, r, h => by cases h
  | n + 1, x3, M, r, h => by
    have ih := R_row_22_t (L := L) (xs := xs) hd     n
    refine ev_k (pc' := 25) (ls' := [(0, .inr (.inr (some 73))), (3, .inl (x3))]) (st' := [.inl (12), .inl (x3)]) (nc' := 126) (np' := 138) (M' := M) 2 rfl ?_
    obtain ⟨hR, ⟨hc, h⟩ | ⟨hc, h⟩⟩ := c_ge_i h
    · refine ev_icmp 59 rfl hR.1 hR.2 (by decide) (fun _ => ?_) (fun q => absurd hc q)
      refine ev_k (pc' := 70) (ls' := [(0, .inr (.inr (some 73))), (3, .inl (x3))]) (st' := []) (nc' := 126) (np' := 138) (M' := am_up M 73 12 ((M 73 12) + (12))) 6 rfl ?_
      obtain ⟨M1, eM, h⟩ := fw_i h
      rw [← eM]
      refine ev_k (pc' := 80) (ls' := [(0, .inr (.inr (some 73))), (3, .inl (x3))]) (st' := []) (nc' := 126) (np' := 138) (M' := am_up M1 73 3 ((M1 73 3) + (1))) 6 rfl ?_
      obtain ⟨M2, eM, h⟩ := fw_i h
      rw [← eM]
      refine ev_k (pc' := 80) (ls' := [(0, .inr (.inr (some 73))), (3, .inl (x3))]) (st' := []) (nc' := 126) (np' := 138) (M' := M2) 0 rfl ?_
      cases h
      exact ev_ret rfl
    · refine ev_icmp 59 rfl hR.1 hR.2 (by decide) (fun q => absurd q hc) (fun _ => ?_)
      refine ev_k (pc' := 51) (ls' := [(0, .inr (.inr (some 73))), (3, .inl (x3))]) (st' := [.inl (((M 73 12) + (x3)) - (12)), .inr (.inr (some 76)), .inl ((M 73 12) + (x3)), .inr (.inr (some 76))]) (nc' := 126) (np' := 138) (M' := M) 14 rfl ?_
      obtain ⟨hc, v3, ev, h⟩ := rd_i h
      refine ev_ald (k := 76) (t := 0) (Or.inl ⟨rfl, rfl⟩) rfl (by decide) (by decide) rfl hc ev ?_
      refine ev_k (pc' := 52) (ls' := [(0, .inr (.inr (some 73))), (3, .inl (x3))]) (st' := [.inl (v3), .inl ((M 73 12) + (x3)), .inr (.inr (some 76))]) (nc' := 126) (np' := 138) (M' := M) 0 rfl ?_
      obtain ⟨hc, M4, eM, h⟩ := wa_i h
      refine ev_iast (k := 76) rfl (by decide) rfl hc eM ?_
      refine ev_k (pc' := 22) (ls' := [(0, .inr (.inr (some 73))), (3, .inl ((x3) + (1)))]) (st' := []) (nc' := 126) (np' := 138) (M' := M4) 2 rfl ?_
      exact ih ((x3) + (1)) M4 r h
theorem R_row_e {L : Nat} {xs : Nat → Int} {d : Nat} (hd : 4 ≤ d)   (x1 : Int) (M : am_M) (r : am_M) (h : R_row   x1 M = some r) : am_Ev L xs d me_196 0 (am_ar1 0 [.inr (.inr (some 73)), .inl (x1)]) [] 126 138 M (none, 126, 138, r) := by
  refine ev_k (pc' := 8) (ls' := [(2, .inl ((12) * ((x1) + (1)))), (0, .inr (.inr (some 73))), (1, .inl (x1))]) (st' := [.inr (.inr (some 73))]) (nc' := 126) (np' := 138) (M' := M) 7 rfl ?_
  obtain ⟨v1, hv, h⟩ := ob_i h
  refine ev_call (t := 197) (as := [.inr (.inr (some 73))]) (rest := []) rfl rfl rfl (by omega) (R_here_e (by omega)  M _ hv) ?_
  refine ev_k (pc' := 13) (ls' := [(2, .inl ((12) * ((x1) + (1)))), (0, .inr (.inr (some 73))), (1, .inl (x1))]) (st' := [.inl (61), .inl (v1)]) (nc' := 126) (np' := 138) (M' := M) 1 rfl ?_
  obtain ⟨hR, ⟨hc, h⟩ | ⟨hc, h⟩⟩ := c_ne_i h
  · refine ev_icmp 81 rfl hR.1 hR.2 (by decide) (fun _ => ?_) (fun q => absurd hc q)
    exact R_row_81_t hd     am_big ((12) * ((x1) + (1))) M r h
  · refine ev_icmp 81 rfl hR.1 hR.2 (by decide) (fun q => absurd q hc) (fun _ => ?_)
    refine ev_k (pc' := 17) (ls' := [(2, .inl ((12) * ((x1) + (1)))), (0, .inr (.inr (some 73))), (1, .inl (x1))]) (st' := [.inl (x1)]) (nc' := 126) (np' := 138) (M' := M) 1 rfl ?_
    obtain ⟨hR, ⟨hc, h⟩ | ⟨hc, h⟩⟩ := c_le_i h
    · refine ev_ifc 81 rfl hR.1 (by decide) (fun _ => ?_) (fun q => absurd hc q)
      exact R_row_81_t hd     am_big ((12) * ((x1) + (1))) M r h
    · refine ev_ifc 81 rfl hR.1 (by decide) (fun q => absurd q hc) (fun _ => ?_)
      refine ev_k (pc' := 22) (ls' := [(0, .inr (.inr (some 73))), (3, .inl (0))]) (st' := []) (nc' := 126) (np' := 138) (M' := M) 2 rfl ?_
      exact R_row_22_t hd     am_big (0) M r h
def R_comesBehind    (x1 : Int) (M : am_M) : Option (am_M) := wa M 95 100 (M 73 46) (x1) fun M1 => wa M1 96 100 (M1 73 46) (M1 73 42) fun M2 => wa M2 97 100 (M2 73 46) (0) fun M3 => wa M3 98 100 (M3 73 46) (0) fun M4 => wz M4 99 100 (M4 73 46) (0) fun M5 => wa M5 100 144 (x1) (M5 73 46) fun M6 => fw M6 73 46 ((M6 73 46) + (1)) fun M7 => some (M7)
theorem R_comesBehind_e {L : Nat} {xs : Nat → Int} {d : Nat} (hd : 0 ≤ d)   (x1 : Int) (M : am_M) (r : am_M) (h : R_comesBehind   x1 M = some r) : am_Ev L xs d me_189 0 (am_ar1 0 [.inr (.inr (some 73)), .inl (x1)]) [] 126 138 M (none, 126, 138, r) := by
  refine ev_k (pc' := 9) (ls' := [(0, .inr (.inr (some 73))), (1, .inl (x1))]) (st' := [.inl (x1), .inl (M 73 46), .inr (.inr (some 95))]) (nc' := 126) (np' := 138) (M' := M) 5 rfl ?_
  obtain ⟨hc, M1, eM, h⟩ := wa_i h
  refine ev_iast (k := 95) rfl (by decide) rfl hc eM ?_
  refine ev_k (pc' := 22) (ls' := [(0, .inr (.inr (some 73))), (1, .inl (x1))]) (st' := [.inl (M1 73 42), .inl (M1 73 46), .inr (.inr (some 96))]) (nc' := 126) (np' := 138) (M' := M1) 6 rfl ?_
  obtain ⟨hc, M2, eM, h⟩ := wa_i h
  refine ev_iast (k := 96) rfl (by decide) rfl hc eM ?_
  refine ev_k (pc' := 32) (ls' := [(0, .inr (.inr (some 73))), (1, .inl (x1))]) (st' := [.inl (0), .inl (M2 73 46), .inr (.inr (some 97))]) (nc' := 126) (np' := 138) (M' := M2) 5 rfl ?_
  obtain ⟨hc, M3, eM, h⟩ := wa_i h
  refine ev_iast (k := 97) rfl (by decide) rfl hc eM ?_
  refine ev_k (pc' := 42) (ls' := [(0, .inr (.inr (some 73))), (1, .inl (x1))]) (st' := [.inl (0), .inl (M3 73 46), .inr (.inr (some 98))]) (nc' := 126) (np' := 138) (M' := M3) 5 rfl ?_
  obtain ⟨hc, M4, eM, h⟩ := wa_i h
  refine ev_iast (k := 98) rfl (by decide) rfl hc eM ?_
  refine ev_k (pc' := 52) (ls' := [(0, .inr (.inr (some 73))), (1, .inl (x1))]) (st' := [.inl (0), .inl (M4 73 46), .inr (.inr (some 99))]) (nc' := 126) (np' := 138) (M' := M4) 5 rfl ?_
  obtain ⟨⟨hc, hv⟩, M5, eM, h⟩ := wz_i h
  refine ev_zast (k := 99) rfl (by decide) rfl hc hv eM ?_
  refine ev_k (pc' := 62) (ls' := [(0, .inr (.inr (some 73))), (1, .inl (x1))]) (st' := [.inl (M5 73 46), .inl (x1), .inr (.inr (some 100))]) (nc' := 126) (np' := 138) (M' := M5) 5 rfl ?_
  obtain ⟨hc, M6, eM, h⟩ := wa_i h
  refine ev_iast (k := 100) rfl (by decide) rfl hc eM ?_
  refine ev_k (pc' := 73) (ls' := [(0, .inr (.inr (some 73))), (1, .inl (x1))]) (st' := []) (nc' := 126) (np' := 138) (M' := am_up M6 73 46 ((M6 73 46) + (1))) 6 rfl ?_
  obtain ⟨M7, eM, h⟩ := fw_i h
  rw [← eM]
  refine ev_k (pc' := 73) (ls' := [(0, .inr (.inr (some 73))), (1, .inl (x1))]) (st' := []) (nc' := 126) (np' := 138) (M' := M7) 0 rfl ?_
  cases h
  exact ev_ret rfl
def R_beginsPath_2    : Nat → Int → Int → am_M → Option (am_M)
  | 0, _, _, _ => none
  | n + 1, x1, x2, M => c_ge (x2) (144)
       (fw M 73 46 (0) fun M1 => fw M1 73 47 (0) fun M2 => ob (R_comesBehind (x1) M2) fun M3 => some (M3))
       (wa M 100 144 (x2) (-1) fun M4 => (R_beginsPath_2    n (x1) ((x2) + (1)) M4))
def R_beginsPath    (x1 : Int) (M : am_M) : Option (am_M) := (R_beginsPath_2    am_big (x1) (0) M)
theorem R_beginsPath_2_t {L : Nat} {xs : Nat → Int} {d : Nat} (hd : 1 ≤ d)     : ∀ (n : Nat) (x1 : Int) (x2 : Int) (M : am_M) (r : am_M), R_beginsPath_2    n x1 x2 M = some r → am_Ev L xs d me_188 2 [(0, .inr (.inr (some 73))), (1, .inl (x1)), (2, .inl (x2))] [] 126 138 M (none, 126, 138, r)
  | 0, _, _, M, r, h => by cases h
  | n + 1, x1, x2, M, r, h => by
    have ih := R_beginsPath_2_t (L := L) (xs := xs) hd     n
    refine ev_k (pc' := 6) (ls' := [(0, .inr (.inr (some 73))), (1, .inl (x1)), (2, .inl (x2))]) (st' := [.inl (144), .inl (x2)]) (nc' := 126) (np' := 138) (M' := M) 2 rfl ?_
    obtain ⟨hR, ⟨hc, h⟩ | ⟨hc, h⟩⟩ := c_ge_i h
    · refine ev_icmp 22 rfl hR.1 hR.2 (by decide) (fun _ => ?_) (fun q => absurd hc q)
      refine ev_k (pc' := 27) (ls' := [(0, .inr (.inr (some 73))), (1, .inl (x1)), (2, .inl (x2))]) (st' := []) (nc' := 126) (np' := 138) (M' := am_up M 73 46 (0)) 3 rfl ?_
      obtain ⟨M1, eM, h⟩ := fw_i h
      rw [← eM]
      refine ev_k (pc' := 32) (ls' := [(0, .inr (.inr (some 73))), (1, .inl (x1)), (2, .inl (x2))]) (st' := []) (nc' := 126) (np' := 138) (M' := am_up M1 73 47 (0)) 3 rfl ?_
      obtain ⟨M2, eM, h⟩ := fw_i h
      rw [← eM]
      refine ev_k (pc' := 34) (ls' := [(0, .inr (.inr (some 73))), (1, .inl (x1)), (2, .inl (x2))]) (st' := [.inl (x1), .inr (.inr (some 73))]) (nc' := 126) (np' := 138) (M' := M2) 2 rfl ?_
      obtain ⟨M3, hv, h⟩ := ob_i h
      refine ev_call (t := 189) (as := [.inr (.inr (some 73)), .inl (x1)]) (rest := []) rfl rfl rfl (by omega) (R_comesBehind_e (by omega) (x1) M2 _ hv) ?_
      refine ev_k (pc' := 37) (ls' := [(0, .inr (.inr (some 73))), (1, .inl (x1)), (2, .inl (x2))]) (st' := []) (nc' := 126) (np' := 138) (M' := M3) 0 rfl ?_
      cases h
      exact ev_ret rfl
    · refine ev_icmp 22 rfl hR.1 hR.2 (by decide) (fun q => absurd q hc) (fun _ => ?_)
      refine ev_k (pc' := 15) (ls' := [(0, .inr (.inr (some 73))), (1, .inl (x1)), (2, .inl (x2))]) (st' := [.inl (-1), .inl (x2), .inr (.inr (some 100))]) (nc' := 126) (np' := 138) (M' := M) 4 rfl ?_
      obtain ⟨hc, M4, eM, h⟩ := wa_i h
      refine ev_iast (k := 100) rfl (by decide) rfl hc eM ?_
      refine ev_k (pc' := 2) (ls' := [(0, .inr (.inr (some 73))), (1, .inl (x1)), (2, .inl ((x2) + (1)))]) (st' := []) (nc' := 126) (np' := 138) (M' := M4) 2 rfl ?_
      exact ih (x1) ((x2) + (1)) M4 r h
theorem R_beginsPath_e {L : Nat} {xs : Nat → Int} {d : Nat} (hd : 1 ≤ d)   (x1 : Int) (M : am_M) (r : am_M) (h : R_beginsPath   x1 M = some r) : am_Ev L xs d me_188 0 (am_ar1 0 [.inr (.inr (some 73)), .inl (x1)]) [] 126 138 M (none, 126, 138, r) := by
  refine ev_k (pc' := 2) (ls' := [(0, .inr (.inr (some 73))), (1, .inl (x1)), (2, .inl (0))]) (st' := []) (nc' := 126) (np' := 138) (M' := M) 2 rfl ?_
  exact R_beginsPath_2_t hd     am_big (x1) (0) M r h
def R_forest_183   (k148 : Int → Int → am_M → Option (Int × am_M)) (x3 : Int) (s0 : Int) (s1 : Int) (M : am_M) : Option (Int × am_M) := (k148 ((s0) + (s1)) ((x3) + (1)) M)
def R_forest_148    : Nat → Int → Int → am_M → Option (Int × am_M)
  | 0, _, _, _ => none
  | n + 1, x2, x3, M => c_ge (x3) (144)
       (fz M 73 66 (0) fun M1 => rd M1 95 100 (0) fun v2 => ob (R_beginsPath (v2) M1) fun M3 => some (x2, M3))
       (rd M 76 144 (x3) fun v4 => wa M 75 144 (x3) (v4) fun M5 => rd M5 75 144 (x3) fun v6 => c_ne (v6) (2)
       ((R_forest_183   (R_forest_148    n) (x3) (x2) (1) M5))
       ((R_forest_183   (R_forest_148    n) (x3) (x2) (0) M5)))
def R_forest_132     (M : am_M) : Option (Int × am_M) := c_ge (M 73 5) (0)
       ((R_forest_148    am_big (0) (0) M))
       (some (M 73 5, M))
def R_forest_105     (M : am_M) : Option (Int × am_M) := ob (R_isGood  M) fun v1 => c_eq (v1) (0)
       (R_forest_132     M)
       (c_ge (M 73 3) (M 73 4)
       (R_forest_132     M)
       (ob (R_wrongs (1) (M 73 3) M) fun M2 => (R_forest_132     M2)))
def R_forest_99   (k34 : Int → am_M → Option (Int × am_M)) (x2 : Int) (M : am_M) : Option (Int × am_M) := (k34 ((x2) + (1)) M)
def R_forest_83   (k34 : Int → am_M → Option (Int × am_M)) (x2 : Int) (M : am_M) : Option (Int × am_M) := c_ge (x2) (11)
       (R_forest_99   k34 (x2) M)
       (fw M 73 3 ((M 73 3) + (1)) fun M1 => (R_forest_99   k34 (x2) M1))
def R_forest_34    : Nat → Int → am_M → Option (Int × am_M)
  | 0, _, _ => none
  | n + 1, x2, M => c_ge (x2) (12)
       (R_forest_105     M)
       (ob (R_isGood  M) fun v1 => c_eq (v1) (0)
       (R_forest_105     M)
       (ob (R_row (x2) M) fun M2 => ob (R_isGood  M2) fun v3 => c_eq (v3) (0)
       (R_forest_83   (R_forest_34    n) (x2) M2)
       (c_ge (x2) (11)
       (R_forest_83   (R_forest_34    n) (x2) M2)
       (ob (R_here  M2) fun v4 => c_eq (v4) (47)
       (R_forest_83   (R_forest_34    n) (x2) M2)
       (ob (R_wrongs (1) (M2 73 3) M2) fun M5 => (R_forest_83   (R_forest_34    n) (x2) M5))))))
def R_forest_20     (M : am_M) : Option (Int × am_M) := some (-1, M)
def R_forest    (x1 : Int) (M : am_M) : Option (Int × am_M) := ck (am_R (x1)) (ob (R_lies (x1) (1) (200) M) fun v1 => c_eq (v1) (0)
       (R_forest_20     M)
       (c_le (x1) (M 73 1)
       (ob (R_begins (x1) M) fun M2 => fw M2 73 12 (0) fun M3 => (R_forest_34    am_big (0) M3))
       (R_forest_20     M)))
theorem R_forest_183_t {L : Nat} {xs : Nat → Int} {d : Nat} (hd : 5 ≤ d)   (k148 : Int → Int → am_M → Option (Int × am_M)) (hk148 : ∀ (x2 : Int) (x3 : Int) (M : am_M) (r : Int × am_M), k148 x2 x3 M = some r → am_Ev L xs d me_192 148 [(0, .inr (.inr (some 73))), (2, .inl (x2)), (3, .inl (x3))] [] 126 138 M (some (.inl r.1), 126, 138, r.2)) (x3 : Int) (s0 : Int) (s1 : Int) (M : am_M) (r : Int × am_M) (h : R_forest_183   k148 x3 s0 s1 M = some r) : am_Ev L xs d me_192 183 [(0, .inr (.inr (some 73))), (3, .inl (x3))] [.inl (s1), .inl (s0)] 126 138 M (some (.inl r.1), 126, 138, r.2) := by
  refine ev_k (pc' := 148) (ls' := [(0, .inr (.inr (some 73))), (2, .inl ((s0) + (s1))), (3, .inl ((x3) + (1)))]) (st' := []) (nc' := 126) (np' := 138) (M' := M) 4 rfl ?_
  exact hk148 ((s0) + (s1)) ((x3) + (1)) M r h
theorem R_forest_148_t {L : Nat} {xs : Nat → Int} {d : Nat} (hd : 5 ≤ d)     : ∀ (n : Nat) (x2 : Int) (x3 : Int) (M : am_M) (r : Int × am_M), R_forest_148    n x2 x3 M = some r → am_Ev L xs d me_192 148 [(0, .inr (.inr (some 73))), (2, .inl (x2)), (3, .inl (x3))] [] 126 138 M (some (.inl r.1), 126, 138, r.2)
  | 0, _, _, M, r, h => by cases h
  | n + 1, x2, x3, M, r, h => by
    have ih := R_forest_148_t (L := L) (xs := xs) hd     n
    refine ev_k (pc' := 152) (ls' := [(0, .inr (.inr (some 73))), (2, .inl (x2)), (3, .inl (x3))]) (st' := [.inl (144), .inl (x3)]) (nc' := 126) (np' := 138) (M' := M) 2 rfl ?_
    obtain ⟨hR, ⟨hc, h⟩ | ⟨hc, h⟩⟩ := c_ge_i h
    · refine ev_icmp 191 rfl hR.1 hR.2 (by decide) (fun _ => ?_) (fun q => absurd hc q)
      refine ev_k (pc' := 193) (ls' := [(0, .inr (.inr (some 73))), (2, .inl (x2)), (3, .inl (x3))]) (st' := [.inl (0), .inr (.inr (some 73))]) (nc' := 126) (np' := 138) (M' := M) 2 rfl ?_
      obtain ⟨hc, M1, eM, h⟩ := fz_i h
      refine ev_putz (k := 73) (j := 66) rfl rfl (by decide) rfl rfl hc eM ?_
      refine ev_k (pc' := 202) (ls' := [(0, .inr (.inr (some 73))), (2, .inl (x2)), (3, .inl (x3))]) (st' := [.inl (0), .inr (.inr (some 95)), .inr (.inr (some 73))]) (nc' := 126) (np' := 138) (M' := M1) 4 rfl ?_
      obtain ⟨hc, v2, ev, h⟩ := rd_i h
      refine ev_ald (k := 95) (t := 0) (Or.inl ⟨rfl, rfl⟩) rfl (by decide) (by decide) rfl hc ev ?_
      refine ev_k (pc' := 203) (ls' := [(0, .inr (.inr (some 73))), (2, .inl (x2)), (3, .inl (x3))]) (st' := [.inl (v2), .inr (.inr (some 73))]) (nc' := 126) (np' := 138) (M' := M1) 0 rfl ?_
      obtain ⟨M3, hv, h⟩ := ob_i h
      refine ev_call (t := 188) (as := [.inr (.inr (some 73)), .inl (v2)]) (rest := []) rfl rfl rfl (by omega) (R_beginsPath_e (by omega) (v2) M1 _ hv) ?_
      refine ev_k (pc' := 207) (ls' := [(0, .inr (.inr (some 73))), (2, .inl (x2)), (3, .inl (x3))]) (st' := [.inl (x2)]) (nc' := 126) (np' := 138) (M' := M3) 1 rfl ?_
      cases h
      exact ev_ret rfl
    · refine ev_icmp 191 rfl hR.1 hR.2 (by decide) (fun q => absurd q hc) (fun _ => ?_)
      refine ev_k (pc' := 165) (ls' := [(0, .inr (.inr (some 73))), (2, .inl (x2)), (3, .inl (x3))]) (st' := [.inl (x3), .inr (.inr (some 76)), .inl (x3), .inr (.inr (some 75))]) (nc' := 126) (np' := 138) (M' := M) 6 rfl ?_
      obtain ⟨hc, v4, ev, h⟩ := rd_i h
      refine ev_ald (k := 76) (t := 0) (Or.inl ⟨rfl, rfl⟩) rfl (by decide) (by decide) rfl hc ev ?_
      refine ev_k (pc' := 166) (ls' := [(0, .inr (.inr (some 73))), (2, .inl (x2)), (3, .inl (x3))]) (st' := [.inl (v4), .inl (x3), .inr (.inr (some 75))]) (nc' := 126) (np' := 138) (M' := M) 0 rfl ?_
      obtain ⟨hc, M5, eM, h⟩ := wa_i h
      refine ev_iast (k := 75) rfl (by decide) rfl hc eM ?_
      refine ev_k (pc' := 173) (ls' := [(0, .inr (.inr (some 73))), (2, .inl (x2)), (3, .inl (x3))]) (st' := [.inl (x3), .inr (.inr (some 75)), .inl (x2)]) (nc' := 126) (np' := 138) (M' := M5) 4 rfl ?_
      obtain ⟨hc, v6, ev, h⟩ := rd_i h
      refine ev_ald (k := 75) (t := 0) (Or.inl ⟨rfl, rfl⟩) rfl (by decide) (by decide) rfl hc ev ?_
      refine ev_k (pc' := 175) (ls' := [(0, .inr (.inr (some 73))), (2, .inl (x2)), (3, .inl (x3))]) (st' := [.inl (2), .inl (v6), .inl (x2)]) (nc' := 126) (np' := 138) (M' := M5) 1 rfl ?_
      obtain ⟨hR, ⟨hc, h⟩ | ⟨hc, h⟩⟩ := c_ne_i h
      · refine ev_icmp 182 rfl hR.1 hR.2 (by decide) (fun _ => ?_) (fun q => absurd hc q)
        refine ev_k (pc' := 183) (ls' := [(0, .inr (.inr (some 73))), (3, .inl (x3))]) (st' := [.inl (1), .inl (x2)]) (nc' := 126) (np' := 138) (M' := M5) 1 rfl ?_
        exact R_forest_183_t hd   (R_forest_148    n) ih (x3) (x2) (1) M5 r h
      · refine ev_icmp 182 rfl hR.1 hR.2 (by decide) (fun q => absurd q hc) (fun _ => ?_)
        refine ev_k (pc' := 183) (ls' := [(0, .inr (.inr (some 73))), (3, .inl (x3))]) (st' := [.inl (0), .inl (x2)]) (nc' := 126) (np' := 138) (M' := M5) 2 rfl ?_
        exact R_forest_183_t hd   (R_forest_148    n) ih (x3) (x2) (0) M5 r h
theorem R_forest_132_t {L : Nat} {xs : Nat → Int} {d : Nat} (hd : 5 ≤ d)      (M : am_M) (r : Int × am_M) (h : R_forest_132     M = some r) : am_Ev L xs d me_192 132 [(0, .inr (.inr (some 73)))] [] 126 138 M (some (.inl r.1), 126, 138, r.2) := by
  refine ev_k (pc' := 136) (ls' := [(0, .inr (.inr (some 73)))]) (st' := [.inl (M 73 5)]) (nc' := 126) (np' := 138) (M' := M) 2 rfl ?_
  obtain ⟨hR, ⟨hc, h⟩ | ⟨hc, h⟩⟩ := c_ge_i h
  · refine ev_ifc 144 rfl hR.1 (by decide) (fun _ => ?_) (fun q => absurd hc q)
    refine ev_k (pc' := 148) (ls' := [(0, .inr (.inr (some 73))), (2, .inl (0)), (3, .inl (0))]) (st' := []) (nc' := 126) (np' := 138) (M' := M) 4 rfl ?_
    exact R_forest_148_t hd     am_big (0) (0) M r h
  · refine ev_ifc 144 rfl hR.1 (by decide) (fun q => absurd q hc) (fun _ => ?_)
    refine ev_k (pc' := 143) (ls' := [(0, .inr (.inr (some 73)))]) (st' := [.inl (M 73 5)]) (nc' := 126) (np' := 138) (M' := M) 2 rfl ?_
    cases h
    exact ev_ret rfl
theorem R_forest_105_t {L : Nat} {xs : Nat → Int} {d : Nat} (hd : 5 ≤ d)      (M : am_M) (r : Int × am_M) (h : R_forest_105     M = some r) : am_Ev L xs d me_192 105 [(0, .inr (.inr (some 73)))] [] 126 138 M (some (.inl r.1), 126, 138, r.2) := by
  refine ev_k (pc' := 106) (ls' := [(0, .inr (.inr (some 73)))]) (st' := [.inr (.inr (some 73))]) (nc' := 126) (np' := 138) (M' := M) 1 rfl ?_
  obtain ⟨v1, hv, h⟩ := ob_i h
  refine ev_call (t := 195) (as := [.inr (.inr (some 73))]) (rest := []) rfl rfl rfl (by omega) (R_isGood_e (by omega)  M _ hv) ?_
  refine ev_k (pc' := 109) (ls' := [(0, .inr (.inr (some 73)))]) (st' := [.inl (v1)]) (nc' := 126) (np' := 138) (M' := M) 0 rfl ?_
  obtain ⟨hR, ⟨hc, h⟩ | ⟨hc, h⟩⟩ := c_eq_i h
  · refine ev_ifc 132 rfl hR.1 (by decide) (fun _ => ?_) (fun q => absurd hc q)
    exact R_forest_132_t hd      M r h
  · refine ev_ifc 132 rfl hR.1 (by decide) (fun q => absurd q hc) (fun _ => ?_)
    refine ev_k (pc' := 120) (ls' := [(0, .inr (.inr (some 73)))]) (st' := [.inl (M 73 4), .inl (M 73 3)]) (nc' := 126) (np' := 138) (M' := M) 4 rfl ?_
    obtain ⟨hR, ⟨hc, h⟩ | ⟨hc, h⟩⟩ := c_ge_i h
    · refine ev_icmp 132 rfl hR.1 hR.2 (by decide) (fun _ => ?_) (fun q => absurd hc q)
      exact R_forest_132_t hd      M r h
    · refine ev_icmp 132 rfl hR.1 hR.2 (by decide) (fun q => absurd q hc) (fun _ => ?_)
      refine ev_k (pc' := 129) (ls' := [(0, .inr (.inr (some 73)))]) (st' := [.inl (M 73 3), .inl (1), .inr (.inr (some 73))]) (nc' := 126) (np' := 138) (M' := M) 4 rfl ?_
      obtain ⟨M2, hv, h⟩ := ob_i h
      refine ev_call (t := 199) (as := [.inr (.inr (some 73)), .inl (1), .inl (M 73 3)]) (rest := []) rfl rfl rfl (by omega) (R_wrongs_e (by omega) (1) (M 73 3) M _ hv) ?_
      exact R_forest_132_t hd      M2 r h
theorem R_forest_99_t {L : Nat} {xs : Nat → Int} {d : Nat} (hd : 5 ≤ d)   (k34 : Int → am_M → Option (Int × am_M)) (hk34 : ∀ (x2 : Int) (M : am_M) (r : Int × am_M), k34 x2 M = some r → am_Ev L xs d me_192 34 [(0, .inr (.inr (some 73))), (2, .inl (x2))] [] 126 138 M (some (.inl r.1), 126, 138, r.2)) (x2 : Int) (M : am_M) (r : Int × am_M) (h : R_forest_99   k34 x2 M = some r) : am_Ev L xs d me_192 99 [(0, .inr (.inr (some 73))), (2, .inl (x2))] [] 126 138 M (some (.inl r.1), 126, 138, r.2) := by
  refine ev_k (pc' := 34) (ls' := [(0, .inr (.inr (some 73))), (2, .inl ((x2) + (1)))]) (st' := []) (nc' := 126) (np' := 138) (M' := M) 2 rfl ?_
  exact hk34 ((x2) + (1)) M r h
theorem R_forest_83_t {L : Nat} {xs : Nat → Int} {d : Nat} (hd : 5 ≤ d)   (k34 : Int → am_M → Option (Int × am_M)) (hk34 : ∀ (x2 : Int) (M : am_M) (r : Int × am_M), k34 x2 M = some r → am_Ev L xs d me_192 34 [(0, .inr (.inr (some 73))), (2, .inl (x2))] [] 126 138 M (some (.inl r.1), 126, 138, r.2)) (x2 : Int) (M : am_M) (r : Int × am_M) (h : R_forest_83   k34 x2 M = some r) : am_Ev L xs d me_192 83 [(0, .inr (.inr (some 73))), (2, .inl (x2))] [] 126 138 M (some (.inl r.1), 126, 138, r.2) := by
  refine ev_k (pc' := 86) (ls' := [(0, .inr (.inr (some 73))), (2, .inl (x2))]) (st' := [.inl (11), .inl (x2)]) (nc' := 126) (np' := 138) (M' := M) 2 rfl ?_
  obtain ⟨hR, ⟨hc, h⟩ | ⟨hc, h⟩⟩ := c_ge_i h
  · refine ev_icmp 99 rfl hR.1 hR.2 (by decide) (fun _ => ?_) (fun q => absurd hc q)
    exact R_forest_99_t hd   k34 hk34 (x2) M r h
  · refine ev_icmp 99 rfl hR.1 hR.2 (by decide) (fun q => absurd q hc) (fun _ => ?_)
    refine ev_k (pc' := 99) (ls' := [(0, .inr (.inr (some 73))), (2, .inl (x2))]) (st' := []) (nc' := 126) (np' := 138) (M' := am_up M 73 3 ((M 73 3) + (1))) 6 rfl ?_
    obtain ⟨M1, eM, h⟩ := fw_i h
    rw [← eM]
    exact R_forest_99_t hd   k34 hk34 (x2) M1 r h
theorem R_forest_34_t {L : Nat} {xs : Nat → Int} {d : Nat} (hd : 5 ≤ d)     : ∀ (n : Nat) (x2 : Int) (M : am_M) (r : Int × am_M), R_forest_34    n x2 M = some r → am_Ev L xs d me_192 34 [(0, .inr (.inr (some 73))), (2, .inl (x2))] [] 126 138 M (some (.inl r.1), 126, 138, r.2)
  | 0, _, M, r, h => by cases h
  | n + 1, x2, M, r, h => by
    have ih := R_forest_34_t (L := L) (xs := xs) hd     n
    refine ev_k (pc' := 37) (ls' := [(0, .inr (.inr (some 73))), (2, .inl (x2))]) (st' := [.inl (12), .inl (x2)]) (nc' := 126) (np' := 138) (M' := M) 2 rfl ?_
    obtain ⟨hR, ⟨hc, h⟩ | ⟨hc, h⟩⟩ := c_ge_i h
    · refine ev_icmp 105 rfl hR.1 hR.2 (by decide) (fun _ => ?_) (fun q => absurd hc q)
      exact R_forest_105_t hd      M r h
    · refine ev_icmp 105 rfl hR.1 hR.2 (by decide) (fun q => absurd q hc) (fun _ => ?_)
      refine ev_k (pc' := 41) (ls' := [(0, .inr (.inr (some 73))), (2, .inl (x2))]) (st' := [.inr (.inr (some 73))]) (nc' := 126) (np' := 138) (M' := M) 1 rfl ?_
      obtain ⟨v1, hv, h⟩ := ob_i h
      refine ev_call (t := 195) (as := [.inr (.inr (some 73))]) (rest := []) rfl rfl rfl (by omega) (R_isGood_e (by omega)  M _ hv) ?_
      refine ev_k (pc' := 44) (ls' := [(0, .inr (.inr (some 73))), (2, .inl (x2))]) (st' := [.inl (v1)]) (nc' := 126) (np' := 138) (M' := M) 0 rfl ?_
      obtain ⟨hR, ⟨hc, h⟩ | ⟨hc, h⟩⟩ := c_eq_i h
      · refine ev_ifc 105 rfl hR.1 (by decide) (fun _ => ?_) (fun q => absurd hc q)
        exact R_forest_105_t hd      M r h
      · refine ev_ifc 105 rfl hR.1 (by decide) (fun q => absurd q hc) (fun _ => ?_)
        refine ev_k (pc' := 49) (ls' := [(0, .inr (.inr (some 73))), (2, .inl (x2))]) (st' := [.inl (x2), .inr (.inr (some 73))]) (nc' := 126) (np' := 138) (M' := M) 2 rfl ?_
        obtain ⟨M2, hv, h⟩ := ob_i h
        refine ev_call (t := 196) (as := [.inr (.inr (some 73)), .inl (x2)]) (rest := []) rfl rfl rfl (by omega) (R_row_e (by omega) (x2) M _ hv) ?_
        refine ev_k (pc' := 53) (ls' := [(0, .inr (.inr (some 73))), (2, .inl (x2))]) (st' := [.inr (.inr (some 73))]) (nc' := 126) (np' := 138) (M' := M2) 1 rfl ?_
        obtain ⟨v3, hv, h⟩ := ob_i h
        refine ev_call (t := 195) (as := [.inr (.inr (some 73))]) (rest := []) rfl rfl rfl (by omega) (R_isGood_e (by omega)  M2 _ hv) ?_
        refine ev_k (pc' := 56) (ls' := [(0, .inr (.inr (some 73))), (2, .inl (x2))]) (st' := [.inl (v3)]) (nc' := 126) (np' := 138) (M' := M2) 0 rfl ?_
        obtain ⟨hR, ⟨hc, h⟩ | ⟨hc, h⟩⟩ := c_eq_i h
        · refine ev_ifc 83 rfl hR.1 (by decide) (fun _ => ?_) (fun q => absurd hc q)
          exact R_forest_83_t hd   (R_forest_34    n) ih (x2) M2 r h
        · refine ev_ifc 83 rfl hR.1 (by decide) (fun q => absurd q hc) (fun _ => ?_)
          refine ev_k (pc' := 62) (ls' := [(0, .inr (.inr (some 73))), (2, .inl (x2))]) (st' := [.inl (11), .inl (x2)]) (nc' := 126) (np' := 138) (M' := M2) 2 rfl ?_
          obtain ⟨hR, ⟨hc, h⟩ | ⟨hc, h⟩⟩ := c_ge_i h
          · refine ev_icmp 83 rfl hR.1 hR.2 (by decide) (fun _ => ?_) (fun q => absurd hc q)
            exact R_forest_83_t hd   (R_forest_34    n) ih (x2) M2 r h
          · refine ev_icmp 83 rfl hR.1 hR.2 (by decide) (fun q => absurd q hc) (fun _ => ?_)
            refine ev_k (pc' := 66) (ls' := [(0, .inr (.inr (some 73))), (2, .inl (x2))]) (st' := [.inr (.inr (some 73))]) (nc' := 126) (np' := 138) (M' := M2) 1 rfl ?_
            obtain ⟨v4, hv, h⟩ := ob_i h
            refine ev_call (t := 197) (as := [.inr (.inr (some 73))]) (rest := []) rfl rfl rfl (by omega) (R_here_e (by omega)  M2 _ hv) ?_
            refine ev_k (pc' := 71) (ls' := [(0, .inr (.inr (some 73))), (2, .inl (x2))]) (st' := [.inl (47), .inl (v4)]) (nc' := 126) (np' := 138) (M' := M2) 1 rfl ?_
            obtain ⟨hR, ⟨hc, h⟩ | ⟨hc, h⟩⟩ := c_eq_i h
            · refine ev_icmp 83 rfl hR.1 hR.2 (by decide) (fun _ => ?_) (fun q => absurd hc q)
              exact R_forest_83_t hd   (R_forest_34    n) ih (x2) M2 r h
            · refine ev_icmp 83 rfl hR.1 hR.2 (by decide) (fun q => absurd q hc) (fun _ => ?_)
              refine ev_k (pc' := 80) (ls' := [(0, .inr (.inr (some 73))), (2, .inl (x2))]) (st' := [.inl (M2 73 3), .inl (1), .inr (.inr (some 73))]) (nc' := 126) (np' := 138) (M' := M2) 4 rfl ?_
              obtain ⟨M5, hv, h⟩ := ob_i h
              refine ev_call (t := 199) (as := [.inr (.inr (some 73)), .inl (1), .inl (M2 73 3)]) (rest := []) rfl rfl rfl (by omega) (R_wrongs_e (by omega) (1) (M2 73 3) M2 _ hv) ?_
              exact R_forest_83_t hd   (R_forest_34    n) ih (x2) M5 r h
theorem R_forest_20_t {L : Nat} {xs : Nat → Int} {d : Nat} (hd : 5 ≤ d)      (M : am_M) (r : Int × am_M) (h : R_forest_20     M = some r) : am_Ev L xs d me_192 20 [] [] 126 138 M (some (.inl r.1), 126, 138, r.2) := by
  refine ev_k (pc' := 21) (ls' := []) (st' := [.inl (-1)]) (nc' := 126) (np' := 138) (M' := M) 1 rfl ?_
  cases h
  exact ev_ret rfl
theorem R_forest_e {L : Nat} {xs : Nat → Int} {d : Nat} (hd : 5 ≤ d)   (x1 : Int) (M : am_M) (r : Int × am_M) (h : R_forest   x1 M = some r) : am_Ev L xs d me_192 0 (am_ar1 0 [.inr (.inr (some 73)), .inl (x1)]) [] 126 138 M (some (.inl r.1), 126, 138, r.2) := by
  refine ev_k (pc' := 1) (ls' := [(0, .inr (.inr (some 73))), (1, .inl (x1))]) (st' := [.inl (x1)]) (nc' := 126) (np' := 138) (M' := M) 1 rfl ?_
  obtain ⟨hc, h⟩ := ck_i h
  refine ev_i2l rfl hc ?_
  refine ev_k (pc' := 6) (ls' := [(0, .inr (.inr (some 73))), (1, .inl (x1))]) (st' := [.inr (.inl (200)), .inr (.inl (1)), .inr (.inl (x1))]) (nc' := 126) (np' := 138) (M' := M) 2 rfl ?_
  obtain ⟨v1, hv, h⟩ := ob_i h
  refine ev_call (t := 193) (as := [.inr (.inl (x1)), .inr (.inl (1)), .inr (.inl (200))]) (rest := []) rfl rfl rfl (by omega) (R_lies_e (by omega) (x1) (1) (200) M _ hv) ?_
  refine ev_k (pc' := 9) (ls' := [(0, .inr (.inr (some 73))), (1, .inl (x1))]) (st' := [.inl (v1)]) (nc' := 126) (np' := 138) (M' := M) 0 rfl ?_
  obtain ⟨hR, ⟨hc, h⟩ | ⟨hc, h⟩⟩ := c_eq_i h
  · refine ev_ifc 20 rfl hR.1 (by decide) (fun _ => ?_) (fun q => absurd hc q)
    exact R_forest_20_t hd      M r h
  · refine ev_ifc 20 rfl hR.1 (by decide) (fun q => absurd q hc) (fun _ => ?_)
    refine ev_k (pc' := 17) (ls' := [(0, .inr (.inr (some 73))), (1, .inl (x1))]) (st' := [.inl (M 73 1), .inl (x1)]) (nc' := 126) (np' := 138) (M' := M) 3 rfl ?_
    obtain ⟨hR, ⟨hc, h⟩ | ⟨hc, h⟩⟩ := c_le_i h
    · refine ev_icmp 22 rfl hR.1 hR.2 (by decide) (fun _ => ?_) (fun q => absurd hc q)
      refine ev_k (pc' := 24) (ls' := [(0, .inr (.inr (some 73))), (1, .inl (x1))]) (st' := [.inl (x1), .inr (.inr (some 73))]) (nc' := 126) (np' := 138) (M' := M) 2 rfl ?_
      obtain ⟨M2, hv, h⟩ := ob_i h
      refine ev_call (t := 194) (as := [.inr (.inr (some 73)), .inl (x1)]) (rest := []) rfl rfl rfl (by omega) (R_begins_e (by omega) (x1) M _ hv) ?_
      refine ev_k (pc' := 32) (ls' := [(0, .inr (.inr (some 73))), (1, .inl (x1))]) (st' := []) (nc' := 126) (np' := 138) (M' := am_up M2 73 12 (0)) 3 rfl ?_
      obtain ⟨M3, eM, h⟩ := fw_i h
      rw [← eM]
      refine ev_k (pc' := 34) (ls' := [(0, .inr (.inr (some 73))), (2, .inl (0))]) (st' := []) (nc' := 126) (np' := 138) (M' := M3) 2 rfl ?_
      exact R_forest_34_t hd     am_big (0) M3 r h
    · refine ev_icmp 22 rfl hR.1 hR.2 (by decide) (fun q => absurd q hc) (fun _ => ?_)
      exact R_forest_20_t hd      M r h
def R_puts    (x1 : Int) (M : am_M) : Option (am_M) := wa M 89 240 (M 73 9) (x1) fun M1 => fw M1 73 9 ((M1 73 9) + (1)) fun M2 => fw M2 73 3 ((M2 73 3) + (1)) fun M3 => some (M3)
theorem R_puts_e {L : Nat} {xs : Nat → Int} {d : Nat} (hd : 0 ≤ d)   (x1 : Int) (M : am_M) (r : am_M) (h : R_puts   x1 M = some r) : am_Ev L xs d me_208 0 (am_ar1 0 [.inr (.inr (some 73)), .inl (x1)]) [] 126 138 M (none, 126, 138, r) := by
  refine ev_k (pc' := 9) (ls' := [(0, .inr (.inr (some 73))), (1, .inl (x1))]) (st' := [.inl (x1), .inl (M 73 9), .inr (.inr (some 89))]) (nc' := 126) (np' := 138) (M' := M) 5 rfl ?_
  obtain ⟨hc, M1, eM, h⟩ := wa_i h
  refine ev_iast (k := 89) rfl (by decide) rfl hc eM ?_
  refine ev_k (pc' := 20) (ls' := [(0, .inr (.inr (some 73))), (1, .inl (x1))]) (st' := []) (nc' := 126) (np' := 138) (M' := am_up M1 73 9 ((M1 73 9) + (1))) 6 rfl ?_
  obtain ⟨M2, eM, h⟩ := fw_i h
  rw [← eM]
  refine ev_k (pc' := 30) (ls' := [(0, .inr (.inr (some 73))), (1, .inl (x1))]) (st' := []) (nc' := 126) (np' := 138) (M' := am_up M2 73 3 ((M2 73 3) + (1))) 6 rfl ?_
  obtain ⟨M3, eM, h⟩ := fw_i h
  rw [← eM]
  refine ev_k (pc' := 30) (ls' := [(0, .inr (.inr (some 73))), (1, .inl (x1))]) (st' := []) (nc' := 126) (np' := 138) (M' := M3) 0 rfl ?_
  cases h
  exact ev_ret rfl
