def Shifts_whoIn_57_32    (s0 : Int) (M : am_M) : Option (Int) := some (s0)
def Shifts_whoIn_57_31     (M : am_M) : Option (Int) := (Shifts_whoIn_57_32    (-1) M)
def Shifts_whoIn_57    (x1 : Int) (M : am_M) : Option (Int) := c_lt (x1) (0)
       (Shifts_whoIn_57_31     M)
       (c_ge (x1) (M 57 8)
       (Shifts_whoIn_57_31     M)
       (c_ge (x1) (6)
       (Shifts_whoIn_57_31     M)
       (rd M 62 6 (x1) fun v1 => ob (Shifts_memberAt_57 (v1) M) fun v2 => (Shifts_whoIn_57_32    (v2) M))))
theorem Shifts_whoIn_57_32_t {L : Nat} {xs : Nat → Int} {d : Nat} (hd : 1 ≤ d)     (s0 : Int) (M : am_M) (r : Int) (h : Shifts_whoIn_57_32    s0 M = some r) : am_Ev L xs d me_156 32 [] [.inl (s0)] 126 138 M (some (.inl r), 126, 138, M) := by
  refine ev_k (pc' := 32) (ls' := []) (st' := [.inl (s0)]) (nc' := 126) (np' := 138) (M' := M) 0 rfl ?_
  cases h
  exact ev_ret rfl
theorem Shifts_whoIn_57_31_t {L : Nat} {xs : Nat → Int} {d : Nat} (hd : 1 ≤ d)      (M : am_M) (r : Int) (h : Shifts_whoIn_57_31     M = some r) : am_Ev L xs d me_156 31 [] [] 126 138 M (some (.inl r), 126, 138, M) := by
  refine ev_k (pc' := 32) (ls' := []) (st' := [.inl (-1)]) (nc' := 126) (np' := 138) (M' := M) 1 rfl ?_
  exact Shifts_whoIn_57_32_t hd     (-1) M r h
theorem Shifts_whoIn_57_e {L : Nat} {xs : Nat → Int} {d : Nat} (hd : 1 ≤ d)   (x1 : Int) (M : am_M) (r : Int) (h : Shifts_whoIn_57   x1 M = some r) : am_Ev L xs d me_156 0 (am_ar1 0 [.inr (.inr (some 57)), .inl (x1)]) [] 126 138 M (some (.inl r), 126, 138, M) := by
  refine ev_k (pc' := 1) (ls' := [(0, .inr (.inr (some 57))), (1, .inl (x1))]) (st' := [.inl (x1)]) (nc' := 126) (np' := 138) (M' := M) 1 rfl ?_
  obtain ⟨hR, ⟨hc, h⟩ | ⟨hc, h⟩⟩ := c_lt_i h
  · refine ev_ifc 31 rfl hR.1 (by decide) (fun _ => ?_) (fun q => absurd hc q)
    exact Shifts_whoIn_57_31_t hd      M r h
  · refine ev_ifc 31 rfl hR.1 (by decide) (fun q => absurd q hc) (fun _ => ?_)
    refine ev_k (pc' := 9) (ls' := [(0, .inr (.inr (some 57))), (1, .inl (x1))]) (st' := [.inl (M 57 8), .inl (x1)]) (nc' := 126) (np' := 138) (M' := M) 3 rfl ?_
    obtain ⟨hR, ⟨hc, h⟩ | ⟨hc, h⟩⟩ := c_ge_i h
    · refine ev_icmp 31 rfl hR.1 hR.2 (by decide) (fun _ => ?_) (fun q => absurd hc q)
      exact Shifts_whoIn_57_31_t hd      M r h
    · refine ev_icmp 31 rfl hR.1 hR.2 (by decide) (fun q => absurd q hc) (fun _ => ?_)
      refine ev_k (pc' := 15) (ls' := [(0, .inr (.inr (some 57))), (1, .inl (x1))]) (st' := [.inl (6), .inl (x1)]) (nc' := 126) (np' := 138) (M' := M) 2 rfl ?_
      obtain ⟨hR, ⟨hc, h⟩ | ⟨hc, h⟩⟩ := c_ge_i h
      · refine ev_icmp 31 rfl hR.1 hR.2 (by decide) (fun _ => ?_) (fun q => absurd hc q)
        exact Shifts_whoIn_57_31_t hd      M r h
      · refine ev_icmp 31 rfl hR.1 hR.2 (by decide) (fun q => absurd q hc) (fun _ => ?_)
        refine ev_k (pc' := 24) (ls' := [(0, .inr (.inr (some 57))), (1, .inl (x1))]) (st' := [.inl (x1), .inr (.inr (some 62)), .inr (.inr (some 57))]) (nc' := 126) (np' := 138) (M' := M) 4 rfl ?_
        obtain ⟨hc, v1, ev, h⟩ := rd_i h
        refine ev_ald (k := 62) (t := 0) (Or.inl ⟨rfl, rfl⟩) rfl (by decide) (by decide) rfl hc ev ?_
        refine ev_k (pc' := 25) (ls' := [(0, .inr (.inr (some 57))), (1, .inl (x1))]) (st' := [.inl (v1), .inr (.inr (some 57))]) (nc' := 126) (np' := 138) (M' := M) 0 rfl ?_
        obtain ⟨v2, hv, h⟩ := ob_i h
        refine ev_call (t := 153) (as := [.inr (.inr (some 57)), .inl (v1)]) (rest := []) rfl rfl rfl (by omega) (Shifts_memberAt_57_e (by omega) (v1) M _ hv) ?_
        refine ev_k (pc' := 32) (ls' := []) (st' := [.inl (v2)]) (nc' := 126) (np' := 138) (M' := M) 1 rfl ?_
        exact Shifts_whoIn_57_32_t hd     (v2) M r h
def P_byTurns_49     (M : am_M) : Option (Int × am_M) := some (-1, M)
def P_byTurns_87    (s0 : Int) (M : am_M) : Option (Int × am_M) := some (s0, M)
def P_byTurns_38    (x1 : Int) (x2 : Int) (x3 : Int) (M : am_M) : Option (Int × am_M) := oc (Shifts_choosePeople_57 (x2) M) fun v1 M2 => c_ne (v1) (0)
       (ob (Shifts_findBest_57_26 (x1) M2) fun M3 => c_ne (x3) (10)
       (ob (Shifts_whoIn_57 (x3) M3) fun v4 => (P_byTurns_87    (v4) M3))
       ((P_byTurns_87    (M3 57 11) M3)))
       (P_byTurns_49     M2)
def P_byTurns_14    (x1 : Int) (x2 : Int) (x3 : Int) (s0 : Int) (M : am_M) : Option (Int × am_M) := c_lt (x1) (1)
       (P_byTurns_49     M)
       (c_gt (x1) (6)
       (P_byTurns_49     M)
       (c_eq (x3) (10)
       (P_byTurns_38    (x1) (x2) (x3) M)
       (c_eq (s0) (0)
       (P_byTurns_49     M)
       (P_byTurns_38    (x1) (x2) (x3) M))))
def P_byTurns_13    (x1 : Int) (x2 : Int) (x3 : Int) (M : am_M) : Option (Int × am_M) := (P_byTurns_14    (x1) (x2) (x3) (0) M)
def P_byTurns    (x1 : Int) (x2 : Int) (x3 : Int) (M : am_M) : Option (Int × am_M) := c_lt (x3) (0)
       (P_byTurns_13    (x1) (x2) (x3) M)
       (c_ge (x3) (x1)
       (P_byTurns_13    (x1) (x2) (x3) M)
       ((P_byTurns_14    (x1) (x2) (x3) (1) M)))
theorem P_byTurns_49_t {L : Nat} {xs : Nat → Int} {d : Nat} (hd : 46 ≤ d)      (M : am_M) (r : Int × am_M) (h : P_byTurns_49     M = some r) : am_Ev L xs d me_146 49 [] [] 126 138 M (some (.inl r.1), 126, 138, r.2) := by
  refine ev_k (pc' := 50) (ls' := []) (st' := [.inl (-1)]) (nc' := 126) (np' := 138) (M' := M) 1 rfl ?_
  cases h
  exact ev_ret rfl
theorem P_byTurns_87_t {L : Nat} {xs : Nat → Int} {d : Nat} (hd : 46 ≤ d)     (s0 : Int) (M : am_M) (r : Int × am_M) (h : P_byTurns_87    s0 M = some r) : am_Ev L xs d me_146 87 [] [.inl (s0)] 126 138 M (some (.inl r.1), 126, 138, r.2) := by
  refine ev_k (pc' := 87) (ls' := []) (st' := [.inl (s0)]) (nc' := 126) (np' := 138) (M' := M) 0 rfl ?_
  cases h
  exact ev_ret rfl
theorem P_byTurns_38_t {L : Nat} {xs : Nat → Int} {d : Nat} (hd : 46 ≤ d)     (x1 : Int) (x2 : Int) (x3 : Int) (M : am_M) (r : Int × am_M) (h : P_byTurns_38    x1 x2 x3 M = some r) : am_Ev L xs d me_146 38 [(0, .inr (.inr (some 0))), (1, .inl (x1)), (2, .inl (x2)), (3, .inl (x3))] [] 126 138 M (some (.inl r.1), 126, 138, r.2) := by
  refine ev_k (pc' := 43) (ls' := [(0, .inr (.inr (some 0))), (1, .inl (x1)), (2, .inl (x2)), (3, .inl (x3))]) (st' := [.inl (x2), .inr (.inr (some 57))]) (nc' := 126) (np' := 138) (M' := M) 3 rfl ?_
  obtain ⟨v1, M2, hv, h⟩ := oc_i h
  refine ev_call (t := 147) (as := [.inr (.inr (some 57)), .inl (x2)]) (rest := []) rfl rfl rfl (by omega) (Shifts_choosePeople_57_e (by omega) (x2) M _ hv) ?_
  refine ev_k (pc' := 46) (ls' := [(0, .inr (.inr (some 0))), (1, .inl (x1)), (2, .inl (x2)), (3, .inl (x3))]) (st' := [.inl (v1)]) (nc' := 126) (np' := 138) (M' := M2) 0 rfl ?_
  obtain ⟨hR, ⟨hc, h⟩ | ⟨hc, h⟩⟩ := c_ne_i h
  · refine ev_ifc 51 rfl hR.1 (by decide) (fun _ => ?_) (fun q => absurd hc q)
    refine ev_k (pc' := 60) (ls' := [(0, .inr (.inr (some 0))), (1, .inl (x1)), (2, .inl (x2)), (3, .inl (x3))]) (st' := [.inl (x1), .inr (.inr (some 26)), .inr (.inr (some 57))]) (nc' := 126) (np' := 138) (M' := M2) 5 rfl ?_
    obtain ⟨M3, hv, h⟩ := ob_i h
    refine ev_call (t := 150) (as := [.inr (.inr (some 57)), .inr (.inr (some 26)), .inl (x1)]) (rest := []) rfl rfl rfl (by omega) (Shifts_findBest_57_26_e (by omega) (x1) M2 _ hv) ?_
    refine ev_k (pc' := 66) (ls' := [(0, .inr (.inr (some 0))), (1, .inl (x1)), (2, .inl (x2)), (3, .inl (x3))]) (st' := [.inl (10), .inl (x3)]) (nc' := 126) (np' := 138) (M' := M3) 2 rfl ?_
    obtain ⟨hR, ⟨hc, h⟩ | ⟨hc, h⟩⟩ := c_ne_i h
    · refine ev_icmp 79 rfl hR.1 hR.2 (by decide) (fun _ => ?_) (fun q => absurd hc q)
      refine ev_k (pc' := 84) (ls' := [(0, .inr (.inr (some 0))), (1, .inl (x1)), (2, .inl (x2)), (3, .inl (x3))]) (st' := [.inl (x3), .inr (.inr (some 57))]) (nc' := 126) (np' := 138) (M' := M3) 3 rfl ?_
      obtain ⟨v4, hv, h⟩ := ob_i h
      refine ev_call (t := 156) (as := [.inr (.inr (some 57)), .inl (x3)]) (rest := []) rfl rfl rfl (by omega) (Shifts_whoIn_57_e (by omega) (x3) M3 _ hv) ?_
      exact P_byTurns_87_t hd     (v4) M3 r h
    · refine ev_icmp 79 rfl hR.1 hR.2 (by decide) (fun q => absurd q hc) (fun _ => ?_)
      refine ev_k (pc' := 87) (ls' := []) (st' := [.inl (M3 57 11)]) (nc' := 126) (np' := 138) (M' := M3) 4 rfl ?_
      exact P_byTurns_87_t hd     (M3 57 11) M3 r h
  · refine ev_ifc 51 rfl hR.1 (by decide) (fun q => absurd q hc) (fun _ => ?_)
    exact P_byTurns_49_t hd      M2 r h
theorem P_byTurns_14_t {L : Nat} {xs : Nat → Int} {d : Nat} (hd : 46 ≤ d)     (x1 : Int) (x2 : Int) (x3 : Int) (s0 : Int) (M : am_M) (r : Int × am_M) (h : P_byTurns_14    x1 x2 x3 s0 M = some r) : am_Ev L xs d me_146 14 [(0, .inr (.inr (some 0))), (1, .inl (x1)), (2, .inl (x2)), (3, .inl (x3))] [.inl (s0)] 126 138 M (some (.inl r.1), 126, 138, r.2) := by
  refine ev_k (pc' := 18) (ls' := [(4, .inl (s0)), (0, .inr (.inr (some 0))), (1, .inl (x1)), (2, .inl (x2)), (3, .inl (x3))]) (st' := [.inl (1), .inl (x1)]) (nc' := 126) (np' := 138) (M' := M) 3 rfl ?_
  obtain ⟨hR, ⟨hc, h⟩ | ⟨hc, h⟩⟩ := c_lt_i h
  · refine ev_icmp 49 rfl hR.1 hR.2 (by decide) (fun _ => ?_) (fun q => absurd hc q)
    exact P_byTurns_49_t hd      M r h
  · refine ev_icmp 49 rfl hR.1 hR.2 (by decide) (fun q => absurd q hc) (fun _ => ?_)
    refine ev_k (pc' := 24) (ls' := [(4, .inl (s0)), (0, .inr (.inr (some 0))), (1, .inl (x1)), (2, .inl (x2)), (3, .inl (x3))]) (st' := [.inl (6), .inl (x1)]) (nc' := 126) (np' := 138) (M' := M) 2 rfl ?_
    obtain ⟨hR, ⟨hc, h⟩ | ⟨hc, h⟩⟩ := c_gt_i h
    · refine ev_icmp 49 rfl hR.1 hR.2 (by decide) (fun _ => ?_) (fun q => absurd hc q)
      exact P_byTurns_49_t hd      M r h
    · refine ev_icmp 49 rfl hR.1 hR.2 (by decide) (fun q => absurd q hc) (fun _ => ?_)
      refine ev_k (pc' := 30) (ls' := [(4, .inl (s0)), (0, .inr (.inr (some 0))), (1, .inl (x1)), (2, .inl (x2)), (3, .inl (x3))]) (st' := [.inl (10), .inl (x3)]) (nc' := 126) (np' := 138) (M' := M) 2 rfl ?_
      obtain ⟨hR, ⟨hc, h⟩ | ⟨hc, h⟩⟩ := c_eq_i h
      · refine ev_icmp 38 rfl hR.1 hR.2 (by decide) (fun _ => ?_) (fun q => absurd hc q)
        exact P_byTurns_38_t hd     (x1) (x2) (x3) M r h
      · refine ev_icmp 38 rfl hR.1 hR.2 (by decide) (fun q => absurd q hc) (fun _ => ?_)
        refine ev_k (pc' := 35) (ls' := [(4, .inl (s0)), (0, .inr (.inr (some 0))), (1, .inl (x1)), (2, .inl (x2)), (3, .inl (x3))]) (st' := [.inl (s0)]) (nc' := 126) (np' := 138) (M' := M) 1 rfl ?_
        obtain ⟨hR, ⟨hc, h⟩ | ⟨hc, h⟩⟩ := c_eq_i h
        · refine ev_ifc 49 rfl hR.1 (by decide) (fun _ => ?_) (fun q => absurd hc q)
          exact P_byTurns_49_t hd      M r h
        · refine ev_ifc 49 rfl hR.1 (by decide) (fun q => absurd q hc) (fun _ => ?_)
          exact P_byTurns_38_t hd     (x1) (x2) (x3) M r h
theorem P_byTurns_13_t {L : Nat} {xs : Nat → Int} {d : Nat} (hd : 46 ≤ d)     (x1 : Int) (x2 : Int) (x3 : Int) (M : am_M) (r : Int × am_M) (h : P_byTurns_13    x1 x2 x3 M = some r) : am_Ev L xs d me_146 13 [(0, .inr (.inr (some 0))), (1, .inl (x1)), (2, .inl (x2)), (3, .inl (x3))] [] 126 138 M (some (.inl r.1), 126, 138, r.2) := by
  refine ev_k (pc' := 14) (ls' := [(0, .inr (.inr (some 0))), (1, .inl (x1)), (2, .inl (x2)), (3, .inl (x3))]) (st' := [.inl (0)]) (nc' := 126) (np' := 138) (M' := M) 1 rfl ?_
  exact P_byTurns_14_t hd     (x1) (x2) (x3) (0) M r h
theorem P_byTurns_e {L : Nat} {xs : Nat → Int} {d : Nat} (hd : 46 ≤ d)   (x1 : Int) (x2 : Int) (x3 : Int) (M : am_M) (r : Int × am_M) (h : P_byTurns   x1 x2 x3 M = some r) : am_Ev L xs d me_146 0 (am_ar1 0 [.inr (.inr (some 0)), .inl (x1), .inl (x2), .inl (x3)]) [] 126 138 M (some (.inl r.1), 126, 138, r.2) := by
  refine ev_k (pc' := 1) (ls' := [(0, .inr (.inr (some 0))), (1, .inl (x1)), (2, .inl (x2)), (3, .inl (x3))]) (st' := [.inl (x3)]) (nc' := 126) (np' := 138) (M' := M) 1 rfl ?_
  obtain ⟨hR, ⟨hc, h⟩ | ⟨hc, h⟩⟩ := c_lt_i h
  · refine ev_ifc 13 rfl hR.1 (by decide) (fun _ => ?_) (fun q => absurd hc q)
    exact P_byTurns_13_t hd     (x1) (x2) (x3) M r h
  · refine ev_ifc 13 rfl hR.1 (by decide) (fun q => absurd q hc) (fun _ => ?_)
    refine ev_k (pc' := 6) (ls' := [(0, .inr (.inr (some 0))), (1, .inl (x1)), (2, .inl (x2)), (3, .inl (x3))]) (st' := [.inl (x1), .inl (x3)]) (nc' := 126) (np' := 138) (M' := M) 2 rfl ?_
    obtain ⟨hR, ⟨hc, h⟩ | ⟨hc, h⟩⟩ := c_ge_i h
    · refine ev_icmp 13 rfl hR.1 hR.2 (by decide) (fun _ => ?_) (fun q => absurd hc q)
      exact P_byTurns_13_t hd     (x1) (x2) (x3) M r h
    · refine ev_icmp 13 rfl hR.1 hR.2 (by decide) (fun q => absurd q hc) (fun _ => ?_)
      refine ev_k (pc' := 14) (ls' := [(0, .inr (.inr (some 0))), (1, .inl (x1)), (2, .inl (x2)), (3, .inl (x3))]) (st' := [.inl (1)]) (nc' := 126) (np' := 138) (M' := M) 2 rfl ?_
      exact P_byTurns_14_t hd     (x1) (x2) (x3) (1) M r h
def Overgrowth_notePlan_68_29     (M : am_M) : Option (am_M) := some (M)
def Overgrowth_notePlan_68    (x1 : Int) (x2 : Int) (x3 : Int) (x4 : Int) (M : am_M) : Option (am_M) := c_ge (x1) (M 68 4)
       (Overgrowth_notePlan_68_29     M)
       (fw M 68 4 (x1) fun M1 => fw M1 68 5 (x2) fun M2 => fw M2 68 6 (x3) fun M3 => fw M3 68 7 (x4) fun M4 => (Overgrowth_notePlan_68_29     M4))
theorem Overgrowth_notePlan_68_29_t {L : Nat} {xs : Nat → Int} {d : Nat} (hd : 0 ≤ d)      (M : am_M) (r : am_M) (h : Overgrowth_notePlan_68_29     M = some r) : am_Ev L xs d me_159 29 [] [] 126 138 M (none, 126, 138, r) := by
  refine ev_k (pc' := 29) (ls' := []) (st' := []) (nc' := 126) (np' := 138) (M' := M) 0 rfl ?_
  cases h
  exact ev_ret rfl
theorem Overgrowth_notePlan_68_e {L : Nat} {xs : Nat → Int} {d : Nat} (hd : 0 ≤ d)   (x1 : Int) (x2 : Int) (x3 : Int) (x4 : Int) (M : am_M) (r : am_M) (h : Overgrowth_notePlan_68   x1 x2 x3 x4 M = some r) : am_Ev L xs d me_159 0 (am_ar1 0 [.inr (.inr (some 68)), .inl (x1), .inl (x2), .inl (x3), .inl (x4)]) [] 126 138 M (none, 126, 138, r) := by
  refine ev_k (pc' := 5) (ls' := [(0, .inr (.inr (some 68))), (1, .inl (x1)), (2, .inl (x2)), (3, .inl (x3)), (4, .inl (x4))]) (st' := [.inl (M 68 4), .inl (x1)]) (nc' := 126) (np' := 138) (M' := M) 3 rfl ?_
  obtain ⟨hR, ⟨hc, h⟩ | ⟨hc, h⟩⟩ := c_ge_i h
  · refine ev_icmp 29 rfl hR.1 hR.2 (by decide) (fun _ => ?_) (fun q => absurd hc q)
    exact Overgrowth_notePlan_68_29_t hd      M r h
  · refine ev_icmp 29 rfl hR.1 hR.2 (by decide) (fun q => absurd q hc) (fun _ => ?_)
    refine ev_k (pc' := 13) (ls' := [(0, .inr (.inr (some 68))), (1, .inl (x1)), (2, .inl (x2)), (3, .inl (x3)), (4, .inl (x4))]) (st' := []) (nc' := 126) (np' := 138) (M' := am_up M 68 4 (x1)) 3 rfl ?_
    obtain ⟨M1, eM, h⟩ := fw_i h
    rw [← eM]
    refine ev_k (pc' := 18) (ls' := [(0, .inr (.inr (some 68))), (1, .inl (x1)), (2, .inl (x2)), (3, .inl (x3)), (4, .inl (x4))]) (st' := []) (nc' := 126) (np' := 138) (M' := am_up M1 68 5 (x2)) 3 rfl ?_
    obtain ⟨M2, eM, h⟩ := fw_i h
    rw [← eM]
    refine ev_k (pc' := 23) (ls' := [(0, .inr (.inr (some 68))), (1, .inl (x1)), (2, .inl (x2)), (3, .inl (x3)), (4, .inl (x4))]) (st' := []) (nc' := 126) (np' := 138) (M' := am_up M2 68 6 (x3)) 3 rfl ?_
    obtain ⟨M3, eM, h⟩ := fw_i h
    rw [← eM]
    refine ev_k (pc' := 29) (ls' := []) (st' := []) (nc' := 126) (np' := 138) (M' := am_up M3 68 7 (x4)) 3 rfl ?_
    obtain ⟨M4, eM, h⟩ := fw_i h
    rw [← eM]
    exact Overgrowth_notePlan_68_29_t hd      M4 r h
def Overgrowth_planPath_68_26_147   (k15 : Int → Int → Int → Int → Int → am_M → Option (am_M)) : Nat → Int → Int → Int → Int → Int → Int → Int → Int → Int → am_M → Option (am_M)
  | 0, _, _, _, _, _, _, _, _, _, _ => none
  | n + 1, x2, x3, x4, x5, x6, x7, x9, x10, x11, M => c_gt (x11) (6)
       ((k15 (x2) (x3) (x4) (x5) ((x6) + (1)) M))
       (ck (am_R (((x3) + (x11)) - (1)) ∧ am_R (x11) ∧ ((x11) : Int) ≠ 0) (tw (Int.tdiv (((x3) + (x11)) - (1)) (x11)) fun v1 => ob (Overgrowth_notePlan_68 (((x3) * ((x7) + (x9))) + ((v1) * (((2) + (x10)) - (x9)))) (x6) (x11) (2) M) fun M2 => ob (Overgrowth_notePlan_68 ((x3) * ((x7) + (x9))) (x6) (x11) (0) M2) fun M3 => (Overgrowth_planPath_68_26_147   k15 n (x2) (x3) (x4) (x5) (x6) (x7) (x9) (x10) ((x11) + (1)) M3)))
def Overgrowth_planPath_68_26_58   (k15 : Int → Int → Int → Int → Int → am_M → Option (am_M)) : Nat → Int → Int → Int → Int → Int → Int → Int → Int → am_M → Option (am_M)
  | 0, _, _, _, _, _, _, _, _, _ => none
  | n + 1, x2, x3, x4, x5, x6, x7, x8, x9, M => c_ge (x9) (x4)
       (oc (Law_walking_5 (x2) (x6) (x8) (0) ((M 26 13) + (x4)) M) fun v1 M2 => oc (Law_walking_5 (x2) (x6) (x8) (1) ((M2 26 13) + (x4)) M2) fun v3 M4 => (Overgrowth_planPath_68_26_147   k15 am_big (x2) (x3) (x4) (x5) (x6) (x7) (v1) (v3) (1) M4))
       (oc (Law_growing_5 (x2) (x6) (x8) ((M 26 13) + (x9)) M) fun v5 M6 => ob (J_min (99) ((x8) + (v5)) M6) fun v7 => (Overgrowth_planPath_68_26_58   k15 n (x2) (x3) (x4) (x5) (x6) (x7) (v7) ((x9) + (1)) M6))
def Overgrowth_planPath_68_26_15    : Nat → Int → Int → Int → Int → Int → am_M → Option (am_M)
  | 0, _, _, _, _, _, _ => none
  | n + 1, x2, x3, x4, x5, x6, M => c_gt (x6) (4)
       (some (M))
       (ob (Country_armOf_1 (x5) M) fun v1 => ob (Trip_tiredOf_26 (x5) M) fun v2 => oc (Law_cutting_5 (x2) (x6) (v1) (v2) (M 26 13) M) fun v3 M4 => (Overgrowth_planPath_68_26_58   (Overgrowth_planPath_68_26_15    n) am_big (x2) (x3) (x4) (x5) (x6) (v3) (0) (0) M4))
def Overgrowth_planPath_68_26    (x2 : Int) (x3 : Int) (x4 : Int) (M : am_M) : Option (am_M) := fw M 68 4 (1000000000) fun M1 => (Overgrowth_planPath_68_26_15    am_big (x2) (x3) (x4) (M1 26 9) (1) M1)
theorem Overgrowth_planPath_68_26_147_t {L : Nat} {xs : Nat → Int} {d : Nat} (hd : 3 ≤ d)   (k15 : Int → Int → Int → Int → Int → am_M → Option (am_M)) (hk15 : ∀ (x2 : Int) (x3 : Int) (x4 : Int) (x5 : Int) (x6 : Int) (M : am_M) (r : am_M), k15 x2 x3 x4 x5 x6 M = some r → am_Ev L xs d me_158 15 [(0, .inr (.inr (some 68))), (1, .inr (.inr (some 26))), (2, .inl (x2)), (3, .inl (x3)), (4, .inl (x4)), (5, .inl (x5)), (6, .inl (x6))] [] 126 138 M (none, 126, 138, r)) : ∀ (n : Nat) (x2 : Int) (x3 : Int) (x4 : Int) (x5 : Int) (x6 : Int) (x7 : Int) (x9 : Int) (x10 : Int) (x11 : Int) (M : am_M) (r : am_M), Overgrowth_planPath_68_26_147   k15 n x2 x3 x4 x5 x6 x7 x9 x10 x11 M = some r → am_Ev L xs d me_158 147 [(0, .inr (.inr (some 68))), (1, .inr (.inr (some 26))), (2, .inl (x2)), (3, .inl (x3)), (4, .inl (x4)), (5, .inl (x5)), (6, .inl (x6)), (7, .inl (x7)), (9, .inl (x9)), (10, .inl (x10)), (11, .inl (x11))] [] 126 138 M (none, 126, 138, r)
  | 0, _, _, _, _, _, _, _, _, _, M, r, h => by cases h
  | n + 1, x2, x3, x4, x5, x6, x7, x9, x10, x11, M, r, h => by
    have ih := Overgrowth_planPath_68_26_147_t (L := L) (xs := xs) hd   k15 hk15 n
    refine ev_k (pc' := 151) (ls' := [(0, .inr (.inr (some 68))), (1, .inr (.inr (some 26))), (2, .inl (x2)), (3, .inl (x3)), (4, .inl (x4)), (5, .inl (x5)), (6, .inl (x6)), (7, .inl (x7)), (9, .inl (x9)), (10, .inl (x10)), (11, .inl (x11))]) (st' := [.inl (6), .inl (x11)]) (nc' := 126) (np' := 138) (M' := M) 2 rfl ?_
    obtain ⟨hR, ⟨hc, h⟩ | ⟨hc, h⟩⟩ := c_gt_i h
    · refine ev_icmp 213 rfl hR.1 hR.2 (by decide) (fun _ => ?_) (fun q => absurd hc q)
      refine ev_k (pc' := 15) (ls' := [(0, .inr (.inr (some 68))), (1, .inr (.inr (some 26))), (2, .inl (x2)), (3, .inl (x3)), (4, .inl (x4)), (5, .inl (x5)), (6, .inl ((x6) + (1)))]) (st' := []) (nc' := 126) (np' := 138) (M' := M) 2 rfl ?_
      exact hk15 (x2) (x3) (x4) (x5) ((x6) + (1)) M r h
    · refine ev_icmp 213 rfl hR.1 hR.2 (by decide) (fun q => absurd q hc) (fun _ => ?_)
      refine ev_k (pc' := 162) (ls' := [(0, .inr (.inr (some 68))), (1, .inr (.inr (some 26))), (2, .inl (x2)), (3, .inl (x3)), (4, .inl (x4)), (5, .inl (x5)), (6, .inl (x6)), (7, .inl (x7)), (9, .inl (x9)), (10, .inl (x10)), (11, .inl (x11))]) (st' := [.inl (x11), .inl (((x3) + (x11)) - (1))]) (nc' := 126) (np' := 138) (M' := M) 6 rfl ?_
      obtain ⟨hc, h⟩ := ck_i h
      obtain ⟨v1, ev, h⟩ := tw_i h
      refine ev_idiv rfl hc ?_
      refine ev_k (pc' := 163) (ls' := [(0, .inr (.inr (some 68))), (1, .inr (.inr (some 26))), (2, .inl (x2)), (3, .inl (x3)), (4, .inl (x4)), (5, .inl (x5)), (6, .inl (x6)), (7, .inl (x7)), (9, .inl (x9)), (10, .inl (x10)), (11, .inl (x11))]) (st' := [.inl (Int.tdiv (((x3) + (x11)) - (1)) (x11))]) (nc' := 126) (np' := 138) (M' := M) 0 rfl ?_
      rw [← ev]
      refine ev_k (pc' := 193) (ls' := [(13, .inl ((x3) * ((x7) + (x9)))), (12, .inl (v1)), (0, .inr (.inr (some 68))), (1, .inr (.inr (some 26))), (2, .inl (x2)), (3, .inl (x3)), (4, .inl (x4)), (5, .inl (x5)), (6, .inl (x6)), (7, .inl (x7)), (9, .inl (x9)), (10, .inl (x10)), (11, .inl (x11))]) (st' := [.inl (2), .inl (x11), .inl (x6), .inl (((x3) * ((x7) + (x9))) + ((v1) * (((2) + (x10)) - (x9)))), .inr (.inr (some 68))]) (nc' := 126) (np' := 138) (M' := M) 20 rfl ?_
      obtain ⟨M2, hv, h⟩ := ob_i h
      refine ev_call (t := 159) (as := [.inr (.inr (some 68)), .inl (((x3) * ((x7) + (x9))) + ((v1) * (((2) + (x10)) - (x9)))), .inl (x6), .inl (x11), .inl (2)]) (rest := []) rfl rfl rfl (by omega) (Overgrowth_notePlan_68_e (by omega) (((x3) * ((x7) + (x9))) + ((v1) * (((2) + (x10)) - (x9)))) (x6) (x11) (2) M _ hv) ?_
      refine ev_k (pc' := 204) (ls' := [(13, .inl ((x3) * ((x7) + (x9)))), (12, .inl (v1)), (0, .inr (.inr (some 68))), (1, .inr (.inr (some 26))), (2, .inl (x2)), (3, .inl (x3)), (4, .inl (x4)), (5, .inl (x5)), (6, .inl (x6)), (7, .inl (x7)), (9, .inl (x9)), (10, .inl (x10)), (11, .inl (x11))]) (st' := [.inl (0), .inl (x11), .inl (x6), .inl ((x3) * ((x7) + (x9))), .inr (.inr (some 68))]) (nc' := 126) (np' := 138) (M' := M2) 5 rfl ?_
      obtain ⟨M3, hv, h⟩ := ob_i h
      refine ev_call (t := 159) (as := [.inr (.inr (some 68)), .inl ((x3) * ((x7) + (x9))), .inl (x6), .inl (x11), .inl (0)]) (rest := []) rfl rfl rfl (by omega) (Overgrowth_notePlan_68_e (by omega) ((x3) * ((x7) + (x9))) (x6) (x11) (0) M2 _ hv) ?_
      refine ev_k (pc' := 147) (ls' := [(0, .inr (.inr (some 68))), (1, .inr (.inr (some 26))), (2, .inl (x2)), (3, .inl (x3)), (4, .inl (x4)), (5, .inl (x5)), (6, .inl (x6)), (7, .inl (x7)), (9, .inl (x9)), (10, .inl (x10)), (11, .inl ((x11) + (1)))]) (st' := []) (nc' := 126) (np' := 138) (M' := M3) 2 rfl ?_
      exact ih (x2) (x3) (x4) (x5) (x6) (x7) (x9) (x10) ((x11) + (1)) M3 r h
theorem Overgrowth_planPath_68_26_58_t {L : Nat} {xs : Nat → Int} {d : Nat} (hd : 3 ≤ d)   (k15 : Int → Int → Int → Int → Int → am_M → Option (am_M)) (hk15 : ∀ (x2 : Int) (x3 : Int) (x4 : Int) (x5 : Int) (x6 : Int) (M : am_M) (r : am_M), k15 x2 x3 x4 x5 x6 M = some r → am_Ev L xs d me_158 15 [(0, .inr (.inr (some 68))), (1, .inr (.inr (some 26))), (2, .inl (x2)), (3, .inl (x3)), (4, .inl (x4)), (5, .inl (x5)), (6, .inl (x6))] [] 126 138 M (none, 126, 138, r)) : ∀ (n : Nat) (x2 : Int) (x3 : Int) (x4 : Int) (x5 : Int) (x6 : Int) (x7 : Int) (x8 : Int) (x9 : Int) (M : am_M) (r : am_M), Overgrowth_planPath_68_26_58   k15 n x2 x3 x4 x5 x6 x7 x8 x9 M = some r → am_Ev L xs d me_158 58 [(0, .inr (.inr (some 68))), (1, .inr (.inr (some 26))), (2, .inl (x2)), (3, .inl (x3)), (4, .inl (x4)), (5, .inl (x5)), (6, .inl (x6)), (7, .inl (x7)), (8, .inl (x8)), (9, .inl (x9))] [] 126 138 M (none, 126, 138, r)
  | 0, _, _, _, _, _, _, _, _, M, r, h => by cases h
  | n + 1, x2, x3, x4, x5, x6, x7, x8, x9, M, r, h => by
    have ih := Overgrowth_planPath_68_26_58_t (L := L) (xs := xs) hd   k15 hk15 n
    refine ev_k (pc' := 62) (ls' := [(0, .inr (.inr (some 68))), (1, .inr (.inr (some 26))), (2, .inl (x2)), (3, .inl (x3)), (4, .inl (x4)), (5, .inl (x5)), (6, .inl (x6)), (7, .inl (x7)), (8, .inl (x8)), (9, .inl (x9))]) (st' := [.inl (x4), .inl (x9)]) (nc' := 126) (np' := 138) (M' := M) 2 rfl ?_
    obtain ⟨hR, ⟨hc, h⟩ | ⟨hc, h⟩⟩ := c_ge_i h
    · refine ev_icmp 100 rfl hR.1 hR.2 (by decide) (fun _ => ?_) (fun q => absurd hc q)
      refine ev_k (pc' := 117) (ls' := [(0, .inr (.inr (some 68))), (1, .inr (.inr (some 26))), (2, .inl (x2)), (3, .inl (x3)), (4, .inl (x4)), (5, .inl (x5)), (6, .inl (x6)), (7, .inl (x7)), (8, .inl (x8)), (9, .inl (x9))]) (st' := [.inl ((M 26 13) + (x4)), .inl (0), .inl (x8), .inl (x6), .inl (x2), .inr (.inr (some 5))]) (nc' := 126) (np' := 138) (M' := M) 10 rfl ?_
      obtain ⟨v1, M2, hv, h⟩ := oc_i h
      refine ev_call (t := 102) (as := [.inr (.inr (some 5)), .inl (x2), .inl (x6), .inl (x8), .inl (0), .inl ((M 26 13) + (x4))]) (rest := []) rfl rfl rfl (by omega) (Law_walking_5_e (by omega) (x2) (x6) (x8) (0) ((M 26 13) + (x4)) M _ hv) ?_
      refine ev_k (pc' := 139) (ls' := [(9, .inl (v1)), (0, .inr (.inr (some 68))), (1, .inr (.inr (some 26))), (2, .inl (x2)), (3, .inl (x3)), (4, .inl (x4)), (5, .inl (x5)), (6, .inl (x6)), (7, .inl (x7)), (8, .inl (x8))]) (st' := [.inl ((M2 26 13) + (x4)), .inl (1), .inl (x8), .inl (x6), .inl (x2), .inr (.inr (some 5))]) (nc' := 126) (np' := 138) (M' := M2) 11 rfl ?_
      obtain ⟨v3, M4, hv, h⟩ := oc_i h
      refine ev_call (t := 102) (as := [.inr (.inr (some 5)), .inl (x2), .inl (x6), .inl (x8), .inl (1), .inl ((M2 26 13) + (x4))]) (rest := []) rfl rfl rfl (by omega) (Law_walking_5_e (by omega) (x2) (x6) (x8) (1) ((M2 26 13) + (x4)) M2 _ hv) ?_
      refine ev_k (pc' := 147) (ls' := [(0, .inr (.inr (some 68))), (1, .inr (.inr (some 26))), (2, .inl (x2)), (3, .inl (x3)), (4, .inl (x4)), (5, .inl (x5)), (6, .inl (x6)), (7, .inl (x7)), (9, .inl (v1)), (10, .inl (v3)), (11, .inl (1))]) (st' := []) (nc' := 126) (np' := 138) (M' := M4) 3 rfl ?_
      exact Overgrowth_planPath_68_26_147_t hd   k15 hk15 am_big (x2) (x3) (x4) (x5) (x6) (x7) (v1) (v3) (1) M4 r h
    · refine ev_icmp 100 rfl hR.1 hR.2 (by decide) (fun q => absurd q hc) (fun _ => ?_)
      refine ev_k (pc' := 85) (ls' := [(0, .inr (.inr (some 68))), (1, .inr (.inr (some 26))), (2, .inl (x2)), (3, .inl (x3)), (4, .inl (x4)), (5, .inl (x5)), (6, .inl (x6)), (7, .inl (x7)), (8, .inl (x8)), (9, .inl (x9))]) (st' := [.inl ((M 26 13) + (x9)), .inl (x8), .inl (x6), .inl (x2), .inr (.inr (some 5)), .inl (x8), .inl (99)]) (nc' := 126) (np' := 138) (M' := M) 11 rfl ?_
      obtain ⟨v5, M6, hv, h⟩ := oc_i h
      refine ev_call (t := 112) (as := [.inr (.inr (some 5)), .inl (x2), .inl (x6), .inl (x8), .inl ((M 26 13) + (x9))]) (rest := [.inl (x8), .inl (99)]) rfl rfl rfl (by omega) (Law_growing_5_e (by omega) (x2) (x6) (x8) ((M 26 13) + (x9)) M _ hv) ?_
      refine ev_k (pc' := 89) (ls' := [(0, .inr (.inr (some 68))), (1, .inr (.inr (some 26))), (2, .inl (x2)), (3, .inl (x3)), (4, .inl (x4)), (5, .inl (x5)), (6, .inl (x6)), (7, .inl (x7)), (8, .inl (x8)), (9, .inl (x9))]) (st' := [.inl ((x8) + (v5)), .inl (99)]) (nc' := 126) (np' := 138) (M' := M6) 1 rfl ?_
      obtain ⟨v7, hv, h⟩ := ob_i h
      refine ev_call (t := 60) (as := [.inl (99), .inl ((x8) + (v5))]) (rest := []) rfl rfl rfl (by omega) (J_min_e (by omega) (99) ((x8) + (v5)) M6 _ hv) ?_
      refine ev_k (pc' := 58) (ls' := [(0, .inr (.inr (some 68))), (1, .inr (.inr (some 26))), (2, .inl (x2)), (3, .inl (x3)), (4, .inl (x4)), (5, .inl (x5)), (6, .inl (x6)), (7, .inl (x7)), (8, .inl (v7)), (9, .inl ((x9) + (1)))]) (st' := []) (nc' := 126) (np' := 138) (M' := M6) 3 rfl ?_
      exact ih (x2) (x3) (x4) (x5) (x6) (x7) (v7) ((x9) + (1)) M6 r h
theorem Overgrowth_planPath_68_26_15_t {L : Nat} {xs : Nat → Int} {d : Nat} (hd : 3 ≤ d)     : ∀ (n : Nat) (x2 : Int) (x3 : Int) (x4 : Int) (x5 : Int) (x6 : Int) (M : am_M) (r : am_M), Overgrowth_planPath_68_26_15    n x2 x3 x4 x5 x6 M = some r → am_Ev L xs d me_158 15 [(0, .inr (.inr (some 68))), (1, .inr (.inr (some 26))), (2, .inl (x2)), (3, .inl (x3)), (4, .inl (x4)), (5, .inl (x5)), (6, .inl (x6))] [] 126 138 M (none, 126, 138, r)
  | 0, _, _, _, _, _, M, r, h => by cases h
  | n + 1, x2, x3, x4, x5, x6, M, r, h => by
    have ih := Overgrowth_planPath_68_26_15_t (L := L) (xs := xs) hd     n
    refine ev_k (pc' := 18) (ls' := [(0, .inr (.inr (some 68))), (1, .inr (.inr (some 26))), (2, .inl (x2)), (3, .inl (x3)), (4, .inl (x4)), (5, .inl (x5)), (6, .inl (x6))]) (st' := [.inl (4), .inl (x6)]) (nc' := 126) (np' := 138) (M' := M) 2 rfl ?_
    obtain ⟨hR, ⟨hc, h⟩ | ⟨hc, h⟩⟩ := c_gt_i h
    · refine ev_icmp 219 rfl hR.1 hR.2 (by decide) (fun _ => ?_) (fun q => absurd hc q)
      refine ev_k (pc' := 219) (ls' := [(0, .inr (.inr (some 68))), (1, .inr (.inr (some 26))), (2, .inl (x2)), (3, .inl (x3)), (4, .inl (x4)), (5, .inl (x5)), (6, .inl (x6))]) (st' := []) (nc' := 126) (np' := 138) (M' := M) 0 rfl ?_
      cases h
      exact ev_ret rfl
    · refine ev_icmp 219 rfl hR.1 hR.2 (by decide) (fun q => absurd q hc) (fun _ => ?_)
      refine ev_k (pc' := 34) (ls' := [(0, .inr (.inr (some 68))), (1, .inr (.inr (some 26))), (2, .inl (x2)), (3, .inl (x3)), (4, .inl (x4)), (5, .inl (x5)), (6, .inl (x6))]) (st' := [.inl (x5), .inr (.inr (some 1)), .inl (x6), .inl (x2), .inr (.inr (some 5))]) (nc' := 126) (np' := 138) (M' := M) 7 rfl ?_
      obtain ⟨v1, hv, h⟩ := ob_i h
      refine ev_call (t := 63) (as := [.inr (.inr (some 1)), .inl (x5)]) (rest := [.inl (x6), .inl (x2), .inr (.inr (some 5))]) rfl rfl rfl (by omega) (Country_armOf_1_e (by omega) (x5) M _ hv) ?_
      refine ev_k (pc' := 40) (ls' := [(0, .inr (.inr (some 68))), (1, .inr (.inr (some 26))), (2, .inl (x2)), (3, .inl (x3)), (4, .inl (x4)), (5, .inl (x5)), (6, .inl (x6))]) (st' := [.inl (x5), .inr (.inr (some 26)), .inl (v1), .inl (x6), .inl (x2), .inr (.inr (some 5))]) (nc' := 126) (np' := 138) (M' := M) 2 rfl ?_
      obtain ⟨v2, hv, h⟩ := ob_i h
      refine ev_call (t := 82) (as := [.inr (.inr (some 26)), .inl (x5)]) (rest := [.inl (v1), .inl (x6), .inl (x2), .inr (.inr (some 5))]) rfl rfl rfl (by omega) (Trip_tiredOf_26_e (by omega) (x5) M _ hv) ?_
      refine ev_k (pc' := 47) (ls' := [(0, .inr (.inr (some 68))), (1, .inr (.inr (some 26))), (2, .inl (x2)), (3, .inl (x3)), (4, .inl (x4)), (5, .inl (x5)), (6, .inl (x6))]) (st' := [.inl (M 26 13), .inl (v2), .inl (v1), .inl (x6), .inl (x2), .inr (.inr (some 5))]) (nc' := 126) (np' := 138) (M' := M) 2 rfl ?_
      obtain ⟨v3, M4, hv, h⟩ := oc_i h
      refine ev_call (t := 106) (as := [.inr (.inr (some 5)), .inl (x2), .inl (x6), .inl (v1), .inl (v2), .inl (M 26 13)]) (rest := []) rfl rfl rfl (by omega) (Law_cutting_5_e (by omega) (x2) (x6) (v1) (v2) (M 26 13) M _ hv) ?_
      refine ev_k (pc' := 58) (ls' := [(0, .inr (.inr (some 68))), (1, .inr (.inr (some 26))), (2, .inl (x2)), (3, .inl (x3)), (4, .inl (x4)), (5, .inl (x5)), (6, .inl (x6)), (7, .inl (v3)), (8, .inl (0)), (9, .inl (0))]) (st' := []) (nc' := 126) (np' := 138) (M' := M4) 5 rfl ?_
      exact Overgrowth_planPath_68_26_58_t hd   (Overgrowth_planPath_68_26_15    n) ih am_big (x2) (x3) (x4) (x5) (x6) (v3) (0) (0) M4 r h
theorem Overgrowth_planPath_68_26_e {L : Nat} {xs : Nat → Int} {d : Nat} (hd : 3 ≤ d)   (x2 : Int) (x3 : Int) (x4 : Int) (M : am_M) (r : am_M) (h : Overgrowth_planPath_68_26   x2 x3 x4 M = some r) : am_Ev L xs d me_158 0 (am_ar1 0 [.inr (.inr (some 68)), .inr (.inr (some 26)), .inl (x2), .inl (x3), .inl (x4)]) [] 126 138 M (none, 126, 138, r) := by
  refine ev_k (pc' := 6) (ls' := [(0, .inr (.inr (some 68))), (1, .inr (.inr (some 26))), (2, .inl (x2)), (3, .inl (x3)), (4, .inl (x4))]) (st' := []) (nc' := 126) (np' := 138) (M' := am_up M 68 4 (1000000000)) 3 rfl ?_
  obtain ⟨M1, eM, h⟩ := fw_i h
  rw [← eM]
  refine ev_k (pc' := 15) (ls' := [(0, .inr (.inr (some 68))), (1, .inr (.inr (some 26))), (2, .inl (x2)), (3, .inl (x3)), (4, .inl (x4)), (5, .inl (M1 26 9)), (6, .inl (1))]) (st' := []) (nc' := 126) (np' := 138) (M' := M1) 5 rfl ?_
  exact Overgrowth_planPath_68_26_15_t hd     am_big (x2) (x3) (x4) (M1 26 9) (1) M1 r h
def P_planned_64     (M : am_M) : Option (Int × am_M) := some (-1, M)
def P_planned    (x1 : Int) (x2 : Int) (x3 : Int) (x4 : Int) (M : am_M) : Option (Int × am_M) := c_lt (x1) (0)
       (P_planned_64     M)
       (c_ge (x1) (7)
       (P_planned_64     M)
       (c_eq (x1) (3)
       (P_planned_64     M)
       (c_lt (x2) (1)
       (P_planned_64     M)
       (c_gt (x2) (99)
       (P_planned_64     M)
       (c_lt (x3) (0)
       (P_planned_64     M)
       (c_gt (x3) (30)
       (P_planned_64     M)
       (c_lt (x4) (0)
       (P_planned_64     M)
       (c_gt (x4) (3)
       (P_planned_64     M)
       (ob (Country_isTold_1 (M 26 9) M) fun v1 => c_ne (v1) (0)
       (ob (Overgrowth_planPath_68_26 (x1) (x2) (x3) M) fun M2 => ck (am_R (x4)) ((if (x4) = (0) then
       (some (M2 68 4, M2)) else
       (if (x4) = (1) then
       (some (M2 68 5, M2)) else
       (if (x4) = (2) then
       (some (M2 68 6, M2)) else
       (some (M2 68 7, M2)))))))
       (P_planned_64     M))))))))))
theorem P_planned_64_t {L : Nat} {xs : Nat → Int} {d : Nat} (hd : 4 ≤ d)      (M : am_M) (r : Int × am_M) (h : P_planned_64     M = some r) : am_Ev L xs d me_157 64 [] [] 126 138 M (some (.inl r.1), 126, 138, r.2) := by
  refine ev_k (pc' := 65) (ls' := []) (st' := [.inl (-1)]) (nc' := 126) (np' := 138) (M' := M) 1 rfl ?_
  cases h
  exact ev_ret rfl
theorem P_planned_e {L : Nat} {xs : Nat → Int} {d : Nat} (hd : 4 ≤ d)   (x1 : Int) (x2 : Int) (x3 : Int) (x4 : Int) (M : am_M) (r : Int × am_M) (h : P_planned   x1 x2 x3 x4 M = some r) : am_Ev L xs d me_157 0 (am_ar1 0 [.inr (.inr (some 0)), .inl (x1), .inl (x2), .inl (x3), .inl (x4)]) [] 126 138 M (some (.inl r.1), 126, 138, r.2) := by
  refine ev_k (pc' := 1) (ls' := [(0, .inr (.inr (some 0))), (1, .inl (x1)), (2, .inl (x2)), (3, .inl (x3)), (4, .inl (x4))]) (st' := [.inl (x1)]) (nc' := 126) (np' := 138) (M' := M) 1 rfl ?_
  obtain ⟨hR, ⟨hc, h⟩ | ⟨hc, h⟩⟩ := c_lt_i h
  · refine ev_ifc 64 rfl hR.1 (by decide) (fun _ => ?_) (fun q => absurd hc q)
    exact P_planned_64_t hd      M r h
  · refine ev_ifc 64 rfl hR.1 (by decide) (fun q => absurd q hc) (fun _ => ?_)
    refine ev_k (pc' := 7) (ls' := [(0, .inr (.inr (some 0))), (1, .inl (x1)), (2, .inl (x2)), (3, .inl (x3)), (4, .inl (x4))]) (st' := [.inl (7), .inl (x1)]) (nc' := 126) (np' := 138) (M' := M) 2 rfl ?_
    obtain ⟨hR, ⟨hc, h⟩ | ⟨hc, h⟩⟩ := c_ge_i h
    · refine ev_icmp 64 rfl hR.1 hR.2 (by decide) (fun _ => ?_) (fun q => absurd hc q)
      exact P_planned_64_t hd      M r h
    · refine ev_icmp 64 rfl hR.1 hR.2 (by decide) (fun q => absurd q hc) (fun _ => ?_)
      refine ev_k (pc' := 12) (ls' := [(0, .inr (.inr (some 0))), (1, .inl (x1)), (2, .inl (x2)), (3, .inl (x3)), (4, .inl (x4))]) (st' := [.inl (3), .inl (x1)]) (nc' := 126) (np' := 138) (M' := M) 2 rfl ?_
      obtain ⟨hR, ⟨hc, h⟩ | ⟨hc, h⟩⟩ := c_eq_i h
      · refine ev_icmp 64 rfl hR.1 hR.2 (by decide) (fun _ => ?_) (fun q => absurd hc q)
        exact P_planned_64_t hd      M r h
      · refine ev_icmp 64 rfl hR.1 hR.2 (by decide) (fun q => absurd q hc) (fun _ => ?_)
        refine ev_k (pc' := 17) (ls' := [(0, .inr (.inr (some 0))), (1, .inl (x1)), (2, .inl (x2)), (3, .inl (x3)), (4, .inl (x4))]) (st' := [.inl (1), .inl (x2)]) (nc' := 126) (np' := 138) (M' := M) 2 rfl ?_
        obtain ⟨hR, ⟨hc, h⟩ | ⟨hc, h⟩⟩ := c_lt_i h
        · refine ev_icmp 64 rfl hR.1 hR.2 (by decide) (fun _ => ?_) (fun q => absurd hc q)
          exact P_planned_64_t hd      M r h
        · refine ev_icmp 64 rfl hR.1 hR.2 (by decide) (fun q => absurd q hc) (fun _ => ?_)
          refine ev_k (pc' := 23) (ls' := [(0, .inr (.inr (some 0))), (1, .inl (x1)), (2, .inl (x2)), (3, .inl (x3)), (4, .inl (x4))]) (st' := [.inl (99), .inl (x2)]) (nc' := 126) (np' := 138) (M' := M) 2 rfl ?_
          obtain ⟨hR, ⟨hc, h⟩ | ⟨hc, h⟩⟩ := c_gt_i h
          · refine ev_icmp 64 rfl hR.1 hR.2 (by decide) (fun _ => ?_) (fun q => absurd hc q)
            exact P_planned_64_t hd      M r h
          · refine ev_icmp 64 rfl hR.1 hR.2 (by decide) (fun q => absurd q hc) (fun _ => ?_)
            refine ev_k (pc' := 27) (ls' := [(0, .inr (.inr (some 0))), (1, .inl (x1)), (2, .inl (x2)), (3, .inl (x3)), (4, .inl (x4))]) (st' := [.inl (x3)]) (nc' := 126) (np' := 138) (M' := M) 1 rfl ?_
            obtain ⟨hR, ⟨hc, h⟩ | ⟨hc, h⟩⟩ := c_lt_i h
            · refine ev_ifc 64 rfl hR.1 (by decide) (fun _ => ?_) (fun q => absurd hc q)
              exact P_planned_64_t hd      M r h
            · refine ev_ifc 64 rfl hR.1 (by decide) (fun q => absurd q hc) (fun _ => ?_)
              refine ev_k (pc' := 33) (ls' := [(0, .inr (.inr (some 0))), (1, .inl (x1)), (2, .inl (x2)), (3, .inl (x3)), (4, .inl (x4))]) (st' := [.inl (30), .inl (x3)]) (nc' := 126) (np' := 138) (M' := M) 2 rfl ?_
              obtain ⟨hR, ⟨hc, h⟩ | ⟨hc, h⟩⟩ := c_gt_i h
              · refine ev_icmp 64 rfl hR.1 hR.2 (by decide) (fun _ => ?_) (fun q => absurd hc q)
                exact P_planned_64_t hd      M r h
              · refine ev_icmp 64 rfl hR.1 hR.2 (by decide) (fun q => absurd q hc) (fun _ => ?_)
                refine ev_k (pc' := 38) (ls' := [(0, .inr (.inr (some 0))), (1, .inl (x1)), (2, .inl (x2)), (3, .inl (x3)), (4, .inl (x4))]) (st' := [.inl (x4)]) (nc' := 126) (np' := 138) (M' := M) 1 rfl ?_
                obtain ⟨hR, ⟨hc, h⟩ | ⟨hc, h⟩⟩ := c_lt_i h
                · refine ev_ifc 64 rfl hR.1 (by decide) (fun _ => ?_) (fun q => absurd hc q)
                  exact P_planned_64_t hd      M r h
                · refine ev_ifc 64 rfl hR.1 (by decide) (fun q => absurd q hc) (fun _ => ?_)
                  refine ev_k (pc' := 44) (ls' := [(0, .inr (.inr (some 0))), (1, .inl (x1)), (2, .inl (x2)), (3, .inl (x3)), (4, .inl (x4))]) (st' := [.inl (3), .inl (x4)]) (nc' := 126) (np' := 138) (M' := M) 2 rfl ?_
                  obtain ⟨hR, ⟨hc, h⟩ | ⟨hc, h⟩⟩ := c_gt_i h
                  · refine ev_icmp 64 rfl hR.1 hR.2 (by decide) (fun _ => ?_) (fun q => absurd hc q)
                    exact P_planned_64_t hd      M r h
                  · refine ev_icmp 64 rfl hR.1 hR.2 (by decide) (fun q => absurd q hc) (fun _ => ?_)
                    refine ev_k (pc' := 58) (ls' := [(0, .inr (.inr (some 0))), (1, .inl (x1)), (2, .inl (x2)), (3, .inl (x3)), (4, .inl (x4))]) (st' := [.inl (M 26 9), .inr (.inr (some 1))]) (nc' := 126) (np' := 138) (M' := M) 5 rfl ?_
                    obtain ⟨v1, hv, h⟩ := ob_i h
                    refine ev_call (t := 62) (as := [.inr (.inr (some 1)), .inl (M 26 9)]) (rest := []) rfl rfl rfl (by omega) (Country_isTold_1_e (by omega) (M 26 9) M _ hv) ?_
                    refine ev_k (pc' := 61) (ls' := [(0, .inr (.inr (some 0))), (1, .inl (x1)), (2, .inl (x2)), (3, .inl (x3)), (4, .inl (x4))]) (st' := [.inl (v1)]) (nc' := 126) (np' := 138) (M' := M) 0 rfl ?_
                    obtain ⟨hR, ⟨hc, h⟩ | ⟨hc, h⟩⟩ := c_ne_i h
                    · refine ev_ifc 66 rfl hR.1 (by decide) (fun _ => ?_) (fun q => absurd hc q)
                      refine ev_k (pc' := 77) (ls' := [(0, .inr (.inr (some 0))), (1, .inl (x1)), (2, .inl (x2)), (3, .inl (x3)), (4, .inl (x4))]) (st' := [.inl (x3), .inl (x2), .inl (x1), .inr (.inr (some 26)), .inr (.inr (some 68))]) (nc' := 126) (np' := 138) (M' := M) 7 rfl ?_
                      obtain ⟨M2, hv, h⟩ := ob_i h
                      refine ev_call (t := 158) (as := [.inr (.inr (some 68)), .inr (.inr (some 26)), .inl (x1), .inl (x2), .inl (x3)]) (rest := []) rfl rfl rfl (by omega) (Overgrowth_planPath_68_26_e (by omega) (x1) (x2) (x3) M _ hv) ?_
                      refine ev_k (pc' := 82) (ls' := [(0, .inr (.inr (some 0))), (1, .inl (x1)), (2, .inl (x2)), (3, .inl (x3)), (4, .inl (x4))]) (st' := [.inl (x4)]) (nc' := 126) (np' := 138) (M' := M2) 1 rfl ?_
                      obtain ⟨hR, h⟩ := ck_i h
                      rcases if_i h with ⟨hq, h⟩ | ⟨hq0, h⟩
                      · refine ev_tsw 108 rfl hR (26) (Or.inr ⟨by rw [hq]; decide, by rw [hq]; rfl⟩) (by decide) ?_
                        refine ev_k (pc' := 115) (ls' := [(0, .inr (.inr (some 0))), (1, .inl (x1)), (2, .inl (x2)), (3, .inl (x3)), (4, .inl (x4))]) (st' := [.inl (M2 68 4)]) (nc' := 126) (np' := 138) (M' := M2) 3 rfl ?_
                        cases h
                        exact ev_ret rfl
                      · skip
                        rcases if_i h with ⟨hq, h⟩ | ⟨hq1, h⟩
                        · refine ev_tsw 116 rfl hR (34) (Or.inr ⟨by rw [hq]; decide, by rw [hq]; rfl⟩) (by decide) ?_
                          refine ev_k (pc' := 123) (ls' := [(0, .inr (.inr (some 0))), (1, .inl (x1)), (2, .inl (x2)), (3, .inl (x3)), (4, .inl (x4))]) (st' := [.inl (M2 68 5)]) (nc' := 126) (np' := 138) (M' := M2) 3 rfl ?_
                          cases h
                          exact ev_ret rfl
                        · skip
                          rcases if_i h with ⟨hq, h⟩ | ⟨hq2, h⟩
                          · refine ev_tsw 124 rfl hR (42) (Or.inr ⟨by rw [hq]; decide, by rw [hq]; rfl⟩) (by decide) ?_
                            refine ev_k (pc' := 131) (ls' := [(0, .inr (.inr (some 0))), (1, .inl (x1)), (2, .inl (x2)), (3, .inl (x3)), (4, .inl (x4))]) (st' := [.inl (M2 68 6)]) (nc' := 126) (np' := 138) (M' := M2) 3 rfl ?_
                            cases h
                            exact ev_ret rfl
                          · skip
                            have hho : ((x4) < 0 ∨ 2 < (x4)) ∨ ((x4) = 0 ∨ (x4) = 1 ∨ (x4) = 2) := by omega
                            refine ev_tsw 132 rfl hR (50) ?_ (by decide) ?_
                            · rcases hho with hho | hho
                              · exact Or.inl ⟨hho, rfl⟩
                              · rcases hho with hho | hho | hho
                                · exact absurd hho hq0
                                · exact absurd hho hq1
                                · exact absurd hho hq2
                            · skip
                              refine ev_k (pc' := 139) (ls' := [(0, .inr (.inr (some 0))), (1, .inl (x1)), (2, .inl (x2)), (3, .inl (x3)), (4, .inl (x4))]) (st' := [.inl (M2 68 7)]) (nc' := 126) (np' := 138) (M' := M2) 3 rfl ?_
                              cases h
                              exact ev_ret rfl
                    · refine ev_ifc 66 rfl hR.1 (by decide) (fun q => absurd q hc) (fun _ => ?_)
                      exact P_planned_64_t hd      M r h
def Legs_addLeg_72_61    (x3 : Int) (s1 : Int) (s2 : Int) (M : am_M) : Option (Int × am_M) := fw M 72 0 ((s1) + (s2)) fun M1 => fw M1 72 2 ((M1 72 2) + (x3)) fun M2 => some (1, M2)
def Legs_addLeg_72_94    (x3 : Int) (s1 : Int) (s2 : Int) (M : am_M) : Option (Int × am_M) := fw M 72 1 ((s1) + (s2)) fun M1 => fw M1 72 3 ((M1 72 3) + (x3)) fun M2 => some (1, M2)
def Legs_addLeg_72    (x1 : Int) (x2 : Int) (x3 : Int) (M : am_M) : Option (Int × am_M) := ck (am_R (x1)) ((if (x1) = (98) then
       (c_ne (x1) (102)
       ((Legs_addLeg_72_94    (x3) (M 72 1) (-(x2)) M))
       ((Legs_addLeg_72_94    (x3) (M 72 1) (x2) M))) else
       (if (x1) = (102) then
       (c_ne (x1) (102)
       ((Legs_addLeg_72_94    (x3) (M 72 1) (-(x2)) M))
       ((Legs_addLeg_72_94    (x3) (M 72 1) (x2) M))) else
       (if (x1) = (108) then
       (c_ne (x1) (114)
       ((Legs_addLeg_72_61    (x3) (M 72 0) (-(x2)) M))
       ((Legs_addLeg_72_61    (x3) (M 72 0) (x2) M))) else
       (if (x1) = (114) then
       (c_ne (x1) (114)
       ((Legs_addLeg_72_61    (x3) (M 72 0) (-(x2)) M))
       ((Legs_addLeg_72_61    (x3) (M 72 0) (x2) M))) else
       (some (0, M)))))))
theorem Legs_addLeg_72_61_t {L : Nat} {xs : Nat → Int} {d : Nat} (hd : 0 ≤ d)     (x3 : Int) (s1 : Int) (s2 : Int) (M : am_M) (r : Int × am_M) (h : Legs_addLeg_72_61    x3 s1 s2 M = some r) : am_Ev L xs d me_162 61 [(0, .inr (.inr (some 72))), (3, .inl (x3))] [.inl (s2), .inl (s1), .inr (.inr (some 72))] 126 138 M (some (.inl r.1), 126, 138, r.2) := by
  refine ev_k (pc' := 65) (ls' := [(0, .inr (.inr (some 72))), (3, .inl (x3))]) (st' := []) (nc' := 126) (np' := 138) (M' := am_up M 72 0 ((s1) + (s2))) 2 rfl ?_
  obtain ⟨M1, eM, h⟩ := fw_i h
  rw [← eM]
  refine ev_k (pc' := 75) (ls' := [(0, .inr (.inr (some 72))), (3, .inl (x3))]) (st' := []) (nc' := 126) (np' := 138) (M' := am_up M1 72 2 ((M1 72 2) + (x3))) 6 rfl ?_
  obtain ⟨M2, eM, h⟩ := fw_i h
  rw [← eM]
  refine ev_k (pc' := 76) (ls' := [(0, .inr (.inr (some 72))), (3, .inl (x3))]) (st' := [.inl (1)]) (nc' := 126) (np' := 138) (M' := M2) 1 rfl ?_
  cases h
  exact ev_ret rfl
theorem Legs_addLeg_72_94_t {L : Nat} {xs : Nat → Int} {d : Nat} (hd : 0 ≤ d)     (x3 : Int) (s1 : Int) (s2 : Int) (M : am_M) (r : Int × am_M) (h : Legs_addLeg_72_94    x3 s1 s2 M = some r) : am_Ev L xs d me_162 94 [(0, .inr (.inr (some 72))), (3, .inl (x3))] [.inl (s2), .inl (s1), .inr (.inr (some 72))] 126 138 M (some (.inl r.1), 126, 138, r.2) := by
  refine ev_k (pc' := 98) (ls' := [(0, .inr (.inr (some 72))), (3, .inl (x3))]) (st' := []) (nc' := 126) (np' := 138) (M' := am_up M 72 1 ((s1) + (s2))) 2 rfl ?_
  obtain ⟨M1, eM, h⟩ := fw_i h
  rw [← eM]
  refine ev_k (pc' := 108) (ls' := [(0, .inr (.inr (some 72))), (3, .inl (x3))]) (st' := []) (nc' := 126) (np' := 138) (M' := am_up M1 72 3 ((M1 72 3) + (x3))) 6 rfl ?_
  obtain ⟨M2, eM, h⟩ := fw_i h
  rw [← eM]
  refine ev_k (pc' := 109) (ls' := [(0, .inr (.inr (some 72))), (3, .inl (x3))]) (st' := [.inl (1)]) (nc' := 126) (np' := 138) (M' := M2) 1 rfl ?_
  cases h
  exact ev_ret rfl
theorem Legs_addLeg_72_e {L : Nat} {xs : Nat → Int} {d : Nat} (hd : 0 ≤ d)   (x1 : Int) (x2 : Int) (x3 : Int) (M : am_M) (r : Int × am_M) (h : Legs_addLeg_72   x1 x2 x3 M = some r) : am_Ev L xs d me_162 0 (am_ar1 0 [.inr (.inr (some 72)), .inl (x1), .inl (x2), .inl (x3)]) [] 126 138 M (some (.inl r.1), 126, 138, r.2) := by
  refine ev_k (pc' := 1) (ls' := [(0, .inr (.inr (some 72))), (1, .inl (x1)), (2, .inl (x2)), (3, .inl (x3))]) (st' := [.inl (x1)]) (nc' := 126) (np' := 138) (M' := M) 1 rfl ?_
  obtain ⟨hR, h⟩ := ck_i h
  rcases if_i h with ⟨hq, h⟩ | ⟨hq0, h⟩
  · refine ev_lsw 77 rfl hR rfl (76) (by rw [hq]; rfl) (by decide) ?_
    refine ev_k (pc' := 85) (ls' := [(0, .inr (.inr (some 72))), (1, .inl (x1)), (2, .inl (x2)), (3, .inl (x3))]) (st' := [.inl (102), .inl (x1), .inl (M 72 1), .inr (.inr (some 72))]) (nc' := 126) (np' := 138) (M' := M) 5 rfl ?_
    obtain ⟨hR, ⟨hc, h⟩ | ⟨hc, h⟩⟩ := c_ne_i h
    · refine ev_icmp 92 rfl hR.1 hR.2 (by decide) (fun _ => ?_) (fun q => absurd hc q)
      refine ev_k (pc' := 94) (ls' := [(0, .inr (.inr (some 72))), (3, .inl (x3))]) (st' := [.inl (-(x2)), .inl (M 72 1), .inr (.inr (some 72))]) (nc' := 126) (np' := 138) (M' := M) 2 rfl ?_
      exact Legs_addLeg_72_94_t hd     (x3) (M 72 1) (-(x2)) M r h
    · refine ev_icmp 92 rfl hR.1 hR.2 (by decide) (fun q => absurd q hc) (fun _ => ?_)
      refine ev_k (pc' := 94) (ls' := [(0, .inr (.inr (some 72))), (3, .inl (x3))]) (st' := [.inl (x2), .inl (M 72 1), .inr (.inr (some 72))]) (nc' := 126) (np' := 138) (M' := M) 2 rfl ?_
      exact Legs_addLeg_72_94_t hd     (x3) (M 72 1) (x2) M r h
  · skip
    rcases if_i h with ⟨hq, h⟩ | ⟨hq1, h⟩
    · refine ev_lsw 77 rfl hR rfl (76) (by rw [hq]; rfl) (by decide) ?_
      refine ev_k (pc' := 85) (ls' := [(0, .inr (.inr (some 72))), (1, .inl (x1)), (2, .inl (x2)), (3, .inl (x3))]) (st' := [.inl (102), .inl (x1), .inl (M 72 1), .inr (.inr (some 72))]) (nc' := 126) (np' := 138) (M' := M) 5 rfl ?_
      obtain ⟨hR, ⟨hc, h⟩ | ⟨hc, h⟩⟩ := c_ne_i h
      · refine ev_icmp 92 rfl hR.1 hR.2 (by decide) (fun _ => ?_) (fun q => absurd hc q)
        refine ev_k (pc' := 94) (ls' := [(0, .inr (.inr (some 72))), (3, .inl (x3))]) (st' := [.inl (-(x2)), .inl (M 72 1), .inr (.inr (some 72))]) (nc' := 126) (np' := 138) (M' := M) 2 rfl ?_
        exact Legs_addLeg_72_94_t hd     (x3) (M 72 1) (-(x2)) M r h
      · refine ev_icmp 92 rfl hR.1 hR.2 (by decide) (fun q => absurd q hc) (fun _ => ?_)
        refine ev_k (pc' := 94) (ls' := [(0, .inr (.inr (some 72))), (3, .inl (x3))]) (st' := [.inl (x2), .inl (M 72 1), .inr (.inr (some 72))]) (nc' := 126) (np' := 138) (M' := M) 2 rfl ?_
        exact Legs_addLeg_72_94_t hd     (x3) (M 72 1) (x2) M r h
    · skip
      rcases if_i h with ⟨hq, h⟩ | ⟨hq2, h⟩
      · refine ev_lsw 44 rfl hR rfl (43) (by rw [hq]; rfl) (by decide) ?_
        refine ev_k (pc' := 52) (ls' := [(0, .inr (.inr (some 72))), (1, .inl (x1)), (2, .inl (x2)), (3, .inl (x3))]) (st' := [.inl (114), .inl (x1), .inl (M 72 0), .inr (.inr (some 72))]) (nc' := 126) (np' := 138) (M' := M) 5 rfl ?_
        obtain ⟨hR, ⟨hc, h⟩ | ⟨hc, h⟩⟩ := c_ne_i h
        · refine ev_icmp 59 rfl hR.1 hR.2 (by decide) (fun _ => ?_) (fun q => absurd hc q)
          refine ev_k (pc' := 61) (ls' := [(0, .inr (.inr (some 72))), (3, .inl (x3))]) (st' := [.inl (-(x2)), .inl (M 72 0), .inr (.inr (some 72))]) (nc' := 126) (np' := 138) (M' := M) 2 rfl ?_
          exact Legs_addLeg_72_61_t hd     (x3) (M 72 0) (-(x2)) M r h
        · refine ev_icmp 59 rfl hR.1 hR.2 (by decide) (fun q => absurd q hc) (fun _ => ?_)
          refine ev_k (pc' := 61) (ls' := [(0, .inr (.inr (some 72))), (3, .inl (x3))]) (st' := [.inl (x2), .inl (M 72 0), .inr (.inr (some 72))]) (nc' := 126) (np' := 138) (M' := M) 2 rfl ?_
          exact Legs_addLeg_72_61_t hd     (x3) (M 72 0) (x2) M r h
      · skip
        rcases if_i h with ⟨hq, h⟩ | ⟨hq3, h⟩
        · refine ev_lsw 44 rfl hR rfl (43) (by rw [hq]; rfl) (by decide) ?_
          refine ev_k (pc' := 52) (ls' := [(0, .inr (.inr (some 72))), (1, .inl (x1)), (2, .inl (x2)), (3, .inl (x3))]) (st' := [.inl (114), .inl (x1), .inl (M 72 0), .inr (.inr (some 72))]) (nc' := 126) (np' := 138) (M' := M) 5 rfl ?_
          obtain ⟨hR, ⟨hc, h⟩ | ⟨hc, h⟩⟩ := c_ne_i h
          · refine ev_icmp 59 rfl hR.1 hR.2 (by decide) (fun _ => ?_) (fun q => absurd hc q)
            refine ev_k (pc' := 61) (ls' := [(0, .inr (.inr (some 72))), (3, .inl (x3))]) (st' := [.inl (-(x2)), .inl (M 72 0), .inr (.inr (some 72))]) (nc' := 126) (np' := 138) (M' := M) 2 rfl ?_
            exact Legs_addLeg_72_61_t hd     (x3) (M 72 0) (-(x2)) M r h
          · refine ev_icmp 59 rfl hR.1 hR.2 (by decide) (fun q => absurd q hc) (fun _ => ?_)
            refine ev_k (pc' := 61) (ls' := [(0, .inr (.inr (some 72))), (3, .inl (x3))]) (st' := [.inl (x2), .inl (M 72 0), .inr (.inr (some 72))]) (nc' := 126) (np' := 138) (M' := M) 2 rfl ?_
            exact Legs_addLeg_72_61_t hd     (x3) (M 72 0) (x2) M r h
        · skip
          refine ev_lsw 110 rfl hR rfl (109) ?_ (by decide) ?_
          · exact am_lsd _ _ _ (by simp only [List.forall_mem_cons, List.not_mem_nil]; exact ⟨hq0, hq1, hq2, hq3, by simp⟩)
          · skip
            refine ev_k (pc' := 111) (ls' := [(0, .inr (.inr (some 72))), (1, .inl (x1)), (2, .inl (x2)), (3, .inl (x3))]) (st' := [.inl (0)]) (nc' := 126) (np' := 138) (M' := M) 1 rfl ?_
            cases h
            exact ev_ret rfl
def Legs_readLegs_72_171     (M : am_M) : Option (Int × am_M) := some (0, M)
def Legs_readLegs_72_150   (k25 : Int → Int → Int → am_M → Option (Int × am_M)) (x2 : Int) (x3 : Int) (x4 : Int) (s1 : Int) (s2 : Int) (s3 : Int) (M : am_M) : Option (Int × am_M) := oc (Legs_addLeg_72 (s1) (s2) (s3) M) fun v1 M2 => c_ne (v1) (0)
       ((k25 (x2) ((x3) + (1)) ((x4) + (1)) M2))
       (ob (P_faultAt (1) (x3) M2) fun v3 => some (v3, M2))
def Legs_readLegs_72_117   (k25 : Int → Int → Int → am_M → Option (Int × am_M)) (x2 : Int) (x3 : Int) (x4 : Int) (x5 : Int) (x6 : Int) (M : am_M) : Option (Int × am_M) := c_ne (x6) (0)
       (ob (Tape_at (x3) M) fun v1 => c_ge (x2) (1)
       (ck (am_R (x6) ∧ am_R (x2) ∧ ((x2) : Int) ≠ 0) (tw (Int.tdiv (x6) (x2)) fun v2 => (Legs_readLegs_72_150   k25 (x2) (x3) (x4) (v1) (x6) (v2) M)))
       ((Legs_readLegs_72_150   k25 (x2) (x3) (x4) (v1) (x6) (0) M)))
       (ob (P_faultAt (3) (x5) M) fun v3 => some (v3, M))
def Legs_readLegs_72_25    : Nat → Int → Int → Int → am_M → Option (Int × am_M)
  | 0, _, _, _, _ => none
  | n + 1, x2, x3, x4, M => c_gt (x4) (8)
       (Legs_readLegs_72_171     M)
       (ob (Tape_at (x3) M) fun v1 => c_eq (v1) (-1)
       (Legs_readLegs_72_171     M)
       (ob (Tape_at (x3) M) fun v2 => ob (P_isDigit (v2) M) fun v3 => c_ne (v3) (0)
       (c_ne (x4) (8)
       (ob (Tape_at (x3) M) fun v4 => ob (Tape_at ((x3) + (1)) M) fun v5 => ob (P_isDigit (v5) M) fun v6 => c_eq (v6) (0)
       (Legs_readLegs_72_117   (Legs_readLegs_72_25    n) (x2) ((x3) + (1)) (x4) (x3) ((v4) - (48)) M)
       (ob (Tape_at ((x3) + (1)) M) fun v7 => (Legs_readLegs_72_117   (Legs_readLegs_72_25    n) (x2) (((x3) + (1)) + (1)) (x4) (x3) ((((10) * ((v4) - (48))) + (v7)) - (48)) M)))
       (ob (P_faultAt (4) (x3) M) fun v8 => some (v8, M)))
       (ob (P_faultAt (1) (x3) M) fun v9 => some (v9, M))))
def Legs_readLegs_72    (x2 : Int) (M : am_M) : Option (Int × am_M) := fw M 72 0 (0) fun M1 => fw M1 72 1 (0) fun M2 => fw M2 72 2 (0) fun M3 => fw M3 72 3 (0) fun M4 => (Legs_readLegs_72_25    am_big (x2) (0) (0) M4)
theorem Legs_readLegs_72_171_t {L : Nat} {xs : Nat → Int} {d : Nat} (hd : 1 ≤ d)      (M : am_M) (r : Int × am_M) (h : Legs_readLegs_72_171     M = some r) : am_Ev L xs d me_161 171 [] [] 126 138 M (some (.inl r.1), 126, 138, r.2) := by
  refine ev_k (pc' := 172) (ls' := []) (st' := [.inl (0)]) (nc' := 126) (np' := 138) (M' := M) 1 rfl ?_
  cases h
  exact ev_ret rfl
theorem Legs_readLegs_72_150_t {L : Nat} {xs : Nat → Int} {d : Nat} (hd : 1 ≤ d)   (k25 : Int → Int → Int → am_M → Option (Int × am_M)) (hk25 : ∀ (x2 : Int) (x3 : Int) (x4 : Int) (M : am_M) (r : Int × am_M), k25 x2 x3 x4 M = some r → am_Ev L xs d me_161 25 [(0, .inr (.inr (some 72))), (1, .inr (.inr (some 14))), (2, .inl (x2)), (3, .inl (x3)), (4, .inl (x4))] [] 126 138 M (some (.inl r.1), 126, 138, r.2)) (x2 : Int) (x3 : Int) (x4 : Int) (s1 : Int) (s2 : Int) (s3 : Int) (M : am_M) (r : Int × am_M) (h : Legs_readLegs_72_150   k25 x2 x3 x4 s1 s2 s3 M = some r) : am_Ev L xs d me_161 150 [(0, .inr (.inr (some 72))), (1, .inr (.inr (some 14))), (2, .inl (x2)), (3, .inl (x3)), (4, .inl (x4))] [.inl (s3), .inl (s2), .inl (s1), .inr (.inr (some 72))] 126 138 M (some (.inl r.1), 126, 138, r.2) := by
  refine ev_k (pc' := 150) (ls' := [(0, .inr (.inr (some 72))), (1, .inr (.inr (some 14))), (2, .inl (x2)), (3, .inl (x3)), (4, .inl (x4))]) (st' := [.inl (s3), .inl (s2), .inl (s1), .inr (.inr (some 72))]) (nc' := 126) (np' := 138) (M' := M) 0 rfl ?_
  obtain ⟨v1, M2, hv, h⟩ := oc_i h
  refine ev_call (t := 162) (as := [.inr (.inr (some 72)), .inl (s1), .inl (s2), .inl (s3)]) (rest := []) rfl rfl rfl (by omega) (Legs_addLeg_72_e (by omega) (s1) (s2) (s3) M _ hv) ?_
  refine ev_k (pc' := 153) (ls' := [(0, .inr (.inr (some 72))), (1, .inr (.inr (some 14))), (2, .inl (x2)), (3, .inl (x3)), (4, .inl (x4))]) (st' := [.inl (v1)]) (nc' := 126) (np' := 138) (M' := M2) 0 rfl ?_
  obtain ⟨hR, ⟨hc, h⟩ | ⟨hc, h⟩⟩ := c_ne_i h
  · refine ev_ifc 162 rfl hR.1 (by decide) (fun _ => ?_) (fun q => absurd hc q)
    refine ev_k (pc' := 25) (ls' := [(0, .inr (.inr (some 72))), (1, .inr (.inr (some 14))), (2, .inl (x2)), (3, .inl ((x3) + (1))), (4, .inl ((x4) + (1)))]) (st' := []) (nc' := 126) (np' := 138) (M' := M2) 3 rfl ?_
    exact hk25 (x2) ((x3) + (1)) ((x4) + (1)) M2 r h
  · refine ev_ifc 162 rfl hR.1 (by decide) (fun q => absurd q hc) (fun _ => ?_)
    refine ev_k (pc' := 158) (ls' := [(0, .inr (.inr (some 72))), (1, .inr (.inr (some 14))), (2, .inl (x2)), (3, .inl (x3)), (4, .inl (x4))]) (st' := [.inl (x3), .inl (1)]) (nc' := 126) (np' := 138) (M' := M2) 2 rfl ?_
    obtain ⟨v3, hv, h⟩ := ob_i h
    refine ev_call (t := 24) (as := [.inl (1), .inl (x3)]) (rest := []) rfl rfl rfl (by omega) (P_faultAt_e (by omega) (1) (x3) M2 _ hv) ?_
    refine ev_k (pc' := 161) (ls' := [(0, .inr (.inr (some 72))), (1, .inr (.inr (some 14))), (2, .inl (x2)), (3, .inl (x3)), (4, .inl (x4))]) (st' := [.inl (v3)]) (nc' := 126) (np' := 138) (M' := M2) 0 rfl ?_
    cases h
    exact ev_ret rfl
theorem Legs_readLegs_72_117_t {L : Nat} {xs : Nat → Int} {d : Nat} (hd : 1 ≤ d)   (k25 : Int → Int → Int → am_M → Option (Int × am_M)) (hk25 : ∀ (x2 : Int) (x3 : Int) (x4 : Int) (M : am_M) (r : Int × am_M), k25 x2 x3 x4 M = some r → am_Ev L xs d me_161 25 [(0, .inr (.inr (some 72))), (1, .inr (.inr (some 14))), (2, .inl (x2)), (3, .inl (x3)), (4, .inl (x4))] [] 126 138 M (some (.inl r.1), 126, 138, r.2)) (x2 : Int) (x3 : Int) (x4 : Int) (x5 : Int) (x6 : Int) (M : am_M) (r : Int × am_M) (h : Legs_readLegs_72_117   k25 x2 x3 x4 x5 x6 M = some r) : am_Ev L xs d me_161 117 [(0, .inr (.inr (some 72))), (1, .inr (.inr (some 14))), (2, .inl (x2)), (3, .inl (x3)), (4, .inl (x4)), (5, .inl (x5)), (6, .inl (x6))] [] 126 138 M (some (.inl r.1), 126, 138, r.2) := by
  refine ev_k (pc' := 119) (ls' := [(0, .inr (.inr (some 72))), (1, .inr (.inr (some 14))), (2, .inl (x2)), (3, .inl (x3)), (4, .inl (x4)), (5, .inl (x5)), (6, .inl (x6))]) (st' := [.inl (x6)]) (nc' := 126) (np' := 138) (M' := M) 1 rfl ?_
  obtain ⟨hR, ⟨hc, h⟩ | ⟨hc, h⟩⟩ := c_ne_i h
  · refine ev_ifc 129 rfl hR.1 (by decide) (fun _ => ?_) (fun q => absurd hc q)
    refine ev_k (pc' := 132) (ls' := [(0, .inr (.inr (some 72))), (1, .inr (.inr (some 14))), (2, .inl (x2)), (3, .inl (x3)), (4, .inl (x4)), (5, .inl (x5)), (6, .inl (x6))]) (st' := [.inl (x3), .inr (.inr (some 14)), .inr (.inr (some 72))]) (nc' := 126) (np' := 138) (M' := M) 3 rfl ?_
    obtain ⟨v1, hv, h⟩ := ob_i h
    refine ev_call (t := 23) (as := [.inr (.inr (some 14)), .inl (x3)]) (rest := [.inr (.inr (some 72))]) rfl rfl rfl (by omega) (Tape_at_e (by omega) (x3) M _ hv) ?_
    refine ev_k (pc' := 139) (ls' := [(0, .inr (.inr (some 72))), (1, .inr (.inr (some 14))), (2, .inl (x2)), (3, .inl (x3)), (4, .inl (x4)), (5, .inl (x5)), (6, .inl (x6))]) (st' := [.inl (1), .inl (x2), .inl (x6), .inl (v1), .inr (.inr (some 72))]) (nc' := 126) (np' := 138) (M' := M) 3 rfl ?_
    obtain ⟨hR, ⟨hc, h⟩ | ⟨hc, h⟩⟩ := c_ge_i h
    · refine ev_icmp 146 rfl hR.1 hR.2 (by decide) (fun _ => ?_) (fun q => absurd hc q)
      refine ev_k (pc' := 149) (ls' := [(0, .inr (.inr (some 72))), (1, .inr (.inr (some 14))), (2, .inl (x2)), (3, .inl (x3)), (4, .inl (x4)), (5, .inl (x5)), (6, .inl (x6))]) (st' := [.inl (x2), .inl (x6), .inl (x6), .inl (v1), .inr (.inr (some 72))]) (nc' := 126) (np' := 138) (M' := M) 2 rfl ?_
      obtain ⟨hc, h⟩ := ck_i h
      obtain ⟨v2, ev, h⟩ := tw_i h
      refine ev_idiv rfl hc ?_
      refine ev_k (pc' := 150) (ls' := [(0, .inr (.inr (some 72))), (1, .inr (.inr (some 14))), (2, .inl (x2)), (3, .inl (x3)), (4, .inl (x4))]) (st' := [.inl (Int.tdiv (x6) (x2)), .inl (x6), .inl (v1), .inr (.inr (some 72))]) (nc' := 126) (np' := 138) (M' := M) 0 rfl ?_
      rw [← ev]
      exact Legs_readLegs_72_150_t hd   k25 hk25 (x2) (x3) (x4) (v1) (x6) (v2) M r h
    · refine ev_icmp 146 rfl hR.1 hR.2 (by decide) (fun q => absurd q hc) (fun _ => ?_)
      refine ev_k (pc' := 150) (ls' := [(0, .inr (.inr (some 72))), (1, .inr (.inr (some 14))), (2, .inl (x2)), (3, .inl (x3)), (4, .inl (x4))]) (st' := [.inl (0), .inl (x6), .inl (v1), .inr (.inr (some 72))]) (nc' := 126) (np' := 138) (M' := M) 2 rfl ?_
      exact Legs_readLegs_72_150_t hd   k25 hk25 (x2) (x3) (x4) (v1) (x6) (0) M r h
  · refine ev_ifc 129 rfl hR.1 (by decide) (fun q => absurd q hc) (fun _ => ?_)
    refine ev_k (pc' := 125) (ls' := [(0, .inr (.inr (some 72))), (1, .inr (.inr (some 14))), (2, .inl (x2)), (3, .inl (x3)), (4, .inl (x4)), (5, .inl (x5)), (6, .inl (x6))]) (st' := [.inl (x5), .inl (3)]) (nc' := 126) (np' := 138) (M' := M) 2 rfl ?_
    obtain ⟨v3, hv, h⟩ := ob_i h
    refine ev_call (t := 24) (as := [.inl (3), .inl (x5)]) (rest := []) rfl rfl rfl (by omega) (P_faultAt_e (by omega) (3) (x5) M _ hv) ?_
    refine ev_k (pc' := 128) (ls' := [(0, .inr (.inr (some 72))), (1, .inr (.inr (some 14))), (2, .inl (x2)), (3, .inl (x3)), (4, .inl (x4)), (5, .inl (x5)), (6, .inl (x6))]) (st' := [.inl (v3)]) (nc' := 126) (np' := 138) (M' := M) 0 rfl ?_
    cases h
    exact ev_ret rfl
theorem Legs_readLegs_72_25_t {L : Nat} {xs : Nat → Int} {d : Nat} (hd : 1 ≤ d)     : ∀ (n : Nat) (x2 : Int) (x3 : Int) (x4 : Int) (M : am_M) (r : Int × am_M), Legs_readLegs_72_25    n x2 x3 x4 M = some r → am_Ev L xs d me_161 25 [(0, .inr (.inr (some 72))), (1, .inr (.inr (some 14))), (2, .inl (x2)), (3, .inl (x3)), (4, .inl (x4))] [] 126 138 M (some (.inl r.1), 126, 138, r.2)
  | 0, _, _, _, M, r, h => by cases h
  | n + 1, x2, x3, x4, M, r, h => by
    have ih := Legs_readLegs_72_25_t (L := L) (xs := xs) hd     n
    refine ev_k (pc' := 29) (ls' := [(0, .inr (.inr (some 72))), (1, .inr (.inr (some 14))), (2, .inl (x2)), (3, .inl (x3)), (4, .inl (x4))]) (st' := [.inl (8), .inl (x4)]) (nc' := 126) (np' := 138) (M' := M) 2 rfl ?_
    obtain ⟨hR, ⟨hc, h⟩ | ⟨hc, h⟩⟩ := c_gt_i h
    · refine ev_icmp 171 rfl hR.1 hR.2 (by decide) (fun _ => ?_) (fun q => absurd hc q)
      exact Legs_readLegs_72_171_t hd      M r h
    · refine ev_icmp 171 rfl hR.1 hR.2 (by decide) (fun q => absurd q hc) (fun _ => ?_)
      refine ev_k (pc' := 34) (ls' := [(0, .inr (.inr (some 72))), (1, .inr (.inr (some 14))), (2, .inl (x2)), (3, .inl (x3)), (4, .inl (x4))]) (st' := [.inl (x3), .inr (.inr (some 14))]) (nc' := 126) (np' := 138) (M' := M) 2 rfl ?_
      obtain ⟨v1, hv, h⟩ := ob_i h
      refine ev_call (t := 23) (as := [.inr (.inr (some 14)), .inl (x3)]) (rest := []) rfl rfl rfl (by omega) (Tape_at_e (by omega) (x3) M _ hv) ?_
      refine ev_k (pc' := 38) (ls' := [(0, .inr (.inr (some 72))), (1, .inr (.inr (some 14))), (2, .inl (x2)), (3, .inl (x3)), (4, .inl (x4))]) (st' := [.inl (-1), .inl (v1)]) (nc' := 126) (np' := 138) (M' := M) 1 rfl ?_
      obtain ⟨hR, ⟨hc, h⟩ | ⟨hc, h⟩⟩ := c_eq_i h
      · refine ev_icmp 171 rfl hR.1 hR.2 (by decide) (fun _ => ?_) (fun q => absurd hc q)
        exact Legs_readLegs_72_171_t hd      M r h
      · refine ev_icmp 171 rfl hR.1 hR.2 (by decide) (fun q => absurd q hc) (fun _ => ?_)
        refine ev_k (pc' := 43) (ls' := [(0, .inr (.inr (some 72))), (1, .inr (.inr (some 14))), (2, .inl (x2)), (3, .inl (x3)), (4, .inl (x4))]) (st' := [.inl (x3), .inr (.inr (some 14))]) (nc' := 126) (np' := 138) (M' := M) 2 rfl ?_
        obtain ⟨v2, hv, h⟩ := ob_i h
        refine ev_call (t := 23) (as := [.inr (.inr (some 14)), .inl (x3)]) (rest := []) rfl rfl rfl (by omega) (Tape_at_e (by omega) (x3) M _ hv) ?_
        refine ev_k (pc' := 46) (ls' := [(0, .inr (.inr (some 72))), (1, .inr (.inr (some 14))), (2, .inl (x2)), (3, .inl (x3)), (4, .inl (x4))]) (st' := [.inl (v2)]) (nc' := 126) (np' := 138) (M' := M) 0 rfl ?_
        obtain ⟨v3, hv, h⟩ := ob_i h
        refine ev_call (t := 28) (as := [.inl (v2)]) (rest := []) rfl rfl rfl (by omega) (P_isDigit_e (by omega) (v2) M _ hv) ?_
        refine ev_k (pc' := 49) (ls' := [(0, .inr (.inr (some 72))), (1, .inr (.inr (some 14))), (2, .inl (x2)), (3, .inl (x3)), (4, .inl (x4))]) (st' := [.inl (v3)]) (nc' := 126) (np' := 138) (M' := M) 0 rfl ?_
        obtain ⟨hR, ⟨hc, h⟩ | ⟨hc, h⟩⟩ := c_ne_i h
        · refine ev_ifc 58 rfl hR.1 (by decide) (fun _ => ?_) (fun q => absurd hc q)
          refine ev_k (pc' := 62) (ls' := [(0, .inr (.inr (some 72))), (1, .inr (.inr (some 14))), (2, .inl (x2)), (3, .inl (x3)), (4, .inl (x4))]) (st' := [.inl (8), .inl (x4)]) (nc' := 126) (np' := 138) (M' := M) 2 rfl ?_
          obtain ⟨hR, ⟨hc, h⟩ | ⟨hc, h⟩⟩ := c_ne_i h
          · refine ev_icmp 71 rfl hR.1 hR.2 (by decide) (fun _ => ?_) (fun q => absurd hc q)
            refine ev_k (pc' := 76) (ls' := [(5, .inl (x3)), (0, .inr (.inr (some 72))), (1, .inr (.inr (some 14))), (2, .inl (x2)), (3, .inl (x3)), (4, .inl (x4))]) (st' := [.inl (x3), .inr (.inr (some 14))]) (nc' := 126) (np' := 138) (M' := M) 4 rfl ?_
            obtain ⟨v4, hv, h⟩ := ob_i h
            refine ev_call (t := 23) (as := [.inr (.inr (some 14)), .inl (x3)]) (rest := []) rfl rfl rfl (by omega) (Tape_at_e (by omega) (x3) M _ hv) ?_
            refine ev_k (pc' := 89) (ls' := [(3, .inl ((x3) + (1))), (6, .inl ((v4) - (48))), (5, .inl (x3)), (0, .inr (.inr (some 72))), (1, .inr (.inr (some 14))), (2, .inl (x2)), (4, .inl (x4))]) (st' := [.inl ((x3) + (1)), .inr (.inr (some 14))]) (nc' := 126) (np' := 138) (M' := M) 6 rfl ?_
            obtain ⟨v5, hv, h⟩ := ob_i h
            refine ev_call (t := 23) (as := [.inr (.inr (some 14)), .inl ((x3) + (1))]) (rest := []) rfl rfl rfl (by omega) (Tape_at_e (by omega) ((x3) + (1)) M _ hv) ?_
            refine ev_k (pc' := 92) (ls' := [(3, .inl ((x3) + (1))), (6, .inl ((v4) - (48))), (5, .inl (x3)), (0, .inr (.inr (some 72))), (1, .inr (.inr (some 14))), (2, .inl (x2)), (4, .inl (x4))]) (st' := [.inl (v5)]) (nc' := 126) (np' := 138) (M' := M) 0 rfl ?_
            obtain ⟨v6, hv, h⟩ := ob_i h
            refine ev_call (t := 28) (as := [.inl (v5)]) (rest := []) rfl rfl rfl (by omega) (P_isDigit_e (by omega) (v5) M _ hv) ?_
            refine ev_k (pc' := 95) (ls' := [(3, .inl ((x3) + (1))), (6, .inl ((v4) - (48))), (5, .inl (x3)), (0, .inr (.inr (some 72))), (1, .inr (.inr (some 14))), (2, .inl (x2)), (4, .inl (x4))]) (st' := [.inl (v6)]) (nc' := 126) (np' := 138) (M' := M) 0 rfl ?_
            obtain ⟨hR, ⟨hc, h⟩ | ⟨hc, h⟩⟩ := c_eq_i h
            · refine ev_ifc 117 rfl hR.1 (by decide) (fun _ => ?_) (fun q => absurd hc q)
              exact Legs_readLegs_72_117_t hd   (Legs_readLegs_72_25    n) ih (x2) ((x3) + (1)) (x4) (x3) ((v4) - (48)) M r h
            · refine ev_ifc 117 rfl hR.1 (by decide) (fun q => absurd q hc) (fun _ => ?_)
              refine ev_k (pc' := 105) (ls' := [(3, .inl ((x3) + (1))), (6, .inl ((v4) - (48))), (5, .inl (x3)), (0, .inr (.inr (some 72))), (1, .inr (.inr (some 14))), (2, .inl (x2)), (4, .inl (x4))]) (st' := [.inl ((x3) + (1)), .inr (.inr (some 14)), .inl ((10) * ((v4) - (48)))]) (nc' := 126) (np' := 138) (M' := M) 5 rfl ?_
              obtain ⟨v7, hv, h⟩ := ob_i h
              refine ev_call (t := 23) (as := [.inr (.inr (some 14)), .inl ((x3) + (1))]) (rest := [.inl ((10) * ((v4) - (48)))]) rfl rfl rfl (by omega) (Tape_at_e (by omega) ((x3) + (1)) M _ hv) ?_
              refine ev_k (pc' := 117) (ls' := [(0, .inr (.inr (some 72))), (1, .inr (.inr (some 14))), (2, .inl (x2)), (3, .inl (((x3) + (1)) + (1))), (4, .inl (x4)), (5, .inl (x3)), (6, .inl ((((10) * ((v4) - (48))) + (v7)) - (48)))]) (st' := []) (nc' := 126) (np' := 138) (M' := M) 5 rfl ?_
              exact Legs_readLegs_72_117_t hd   (Legs_readLegs_72_25    n) ih (x2) (((x3) + (1)) + (1)) (x4) (x3) ((((10) * ((v4) - (48))) + (v7)) - (48)) M r h
          · refine ev_icmp 71 rfl hR.1 hR.2 (by decide) (fun q => absurd q hc) (fun _ => ?_)
            refine ev_k (pc' := 67) (ls' := [(0, .inr (.inr (some 72))), (1, .inr (.inr (some 14))), (2, .inl (x2)), (3, .inl (x3)), (4, .inl (x4))]) (st' := [.inl (x3), .inl (4)]) (nc' := 126) (np' := 138) (M' := M) 2 rfl ?_
            obtain ⟨v8, hv, h⟩ := ob_i h
            refine ev_call (t := 24) (as := [.inl (4), .inl (x3)]) (rest := []) rfl rfl rfl (by omega) (P_faultAt_e (by omega) (4) (x3) M _ hv) ?_
            refine ev_k (pc' := 70) (ls' := [(0, .inr (.inr (some 72))), (1, .inr (.inr (some 14))), (2, .inl (x2)), (3, .inl (x3)), (4, .inl (x4))]) (st' := [.inl (v8)]) (nc' := 126) (np' := 138) (M' := M) 0 rfl ?_
            cases h
            exact ev_ret rfl
        · refine ev_ifc 58 rfl hR.1 (by decide) (fun q => absurd q hc) (fun _ => ?_)
          refine ev_k (pc' := 54) (ls' := [(0, .inr (.inr (some 72))), (1, .inr (.inr (some 14))), (2, .inl (x2)), (3, .inl (x3)), (4, .inl (x4))]) (st' := [.inl (x3), .inl (1)]) (nc' := 126) (np' := 138) (M' := M) 2 rfl ?_
          obtain ⟨v9, hv, h⟩ := ob_i h
          refine ev_call (t := 24) (as := [.inl (1), .inl (x3)]) (rest := []) rfl rfl rfl (by omega) (P_faultAt_e (by omega) (1) (x3) M _ hv) ?_
          refine ev_k (pc' := 57) (ls' := [(0, .inr (.inr (some 72))), (1, .inr (.inr (some 14))), (2, .inl (x2)), (3, .inl (x3)), (4, .inl (x4))]) (st' := [.inl (v9)]) (nc' := 126) (np' := 138) (M' := M) 0 rfl ?_
          cases h
          exact ev_ret rfl
theorem Legs_readLegs_72_e {L : Nat} {xs : Nat → Int} {d : Nat} (hd : 1 ≤ d)   (x2 : Int) (M : am_M) (r : Int × am_M) (h : Legs_readLegs_72   x2 M = some r) : am_Ev L xs d me_161 0 (am_ar1 0 [.inr (.inr (some 72)), .inr (.inr (some 14)), .inl (x2)]) [] 126 138 M (some (.inl r.1), 126, 138, r.2) := by
  refine ev_k (pc' := 5) (ls' := [(0, .inr (.inr (some 72))), (1, .inr (.inr (some 14))), (2, .inl (x2))]) (st' := []) (nc' := 126) (np' := 138) (M' := am_up M 72 0 (0)) 3 rfl ?_
  obtain ⟨M1, eM, h⟩ := fw_i h
  rw [← eM]
  refine ev_k (pc' := 10) (ls' := [(0, .inr (.inr (some 72))), (1, .inr (.inr (some 14))), (2, .inl (x2))]) (st' := []) (nc' := 126) (np' := 138) (M' := am_up M1 72 1 (0)) 3 rfl ?_
  obtain ⟨M2, eM, h⟩ := fw_i h
  rw [← eM]
  refine ev_k (pc' := 15) (ls' := [(0, .inr (.inr (some 72))), (1, .inr (.inr (some 14))), (2, .inl (x2))]) (st' := []) (nc' := 126) (np' := 138) (M' := am_up M2 72 2 (0)) 3 rfl ?_
  obtain ⟨M3, eM, h⟩ := fw_i h
  rw [← eM]
  refine ev_k (pc' := 20) (ls' := [(0, .inr (.inr (some 72))), (1, .inr (.inr (some 14))), (2, .inl (x2))]) (st' := []) (nc' := 126) (np' := 138) (M' := am_up M3 72 3 (0)) 3 rfl ?_
  obtain ⟨M4, eM, h⟩ := fw_i h
  rw [← eM]
  refine ev_k (pc' := 25) (ls' := [(0, .inr (.inr (some 72))), (1, .inr (.inr (some 14))), (2, .inl (x2)), (3, .inl (0)), (4, .inl (0))]) (st' := []) (nc' := 126) (np' := 138) (M' := M4) 4 rfl ?_
  exact Legs_readLegs_72_25_t hd     am_big (x2) (0) (0) M4 r h
def Legs_tellEnds_72    (x1 : Int) (M : am_M) : Option (Int) := ck (am_R (x1)) ((if (x1) = (0) then
       (some ((M 72 0) - (M 72 2))) else
       (if (x1) = (1) then
       (some ((M 72 0) + (M 72 2))) else
       (if (x1) = (2) then
       (some ((M 72 1) - (M 72 3))) else
       (if (x1) = (3) then
       (some ((M 72 1) + (M 72 3))) else
       (some ((((2) * (M 72 2)) + (1)) * (((2) * (M 72 3)) + (1)))))))))
theorem Legs_tellEnds_72_e {L : Nat} {xs : Nat → Int} {d : Nat} (hd : 0 ≤ d)   (x1 : Int) (M : am_M) (r : Int) (h : Legs_tellEnds_72   x1 M = some r) : am_Ev L xs d me_163 0 (am_ar1 0 [.inr (.inr (some 72)), .inl (x1)]) [] 126 138 M (some (.inl r), 126, 138, M) := by
  refine ev_k (pc' := 1) (ls' := [(0, .inr (.inr (some 72))), (1, .inl (x1))]) (st' := [.inl (x1)]) (nc' := 126) (np' := 138) (M' := M) 1 rfl ?_
  obtain ⟨hR, h⟩ := ck_i h
  rcases if_i h with ⟨hq, h⟩ | ⟨hq0, h⟩
  · refine ev_tsw 32 rfl hR (31) (Or.inr ⟨by rw [hq]; decide, by rw [hq]; rfl⟩) (by decide) ?_
    refine ev_k (pc' := 41) (ls' := [(0, .inr (.inr (some 72))), (1, .inl (x1))]) (st' := [.inl ((M 72 0) - (M 72 2))]) (nc' := 126) (np' := 138) (M' := M) 5 rfl ?_
    cases h
    exact ev_ret rfl
  · skip
    rcases if_i h with ⟨hq, h⟩ | ⟨hq1, h⟩
    · refine ev_tsw 42 rfl hR (41) (Or.inr ⟨by rw [hq]; decide, by rw [hq]; rfl⟩) (by decide) ?_
      refine ev_k (pc' := 51) (ls' := [(0, .inr (.inr (some 72))), (1, .inl (x1))]) (st' := [.inl ((M 72 0) + (M 72 2))]) (nc' := 126) (np' := 138) (M' := M) 5 rfl ?_
      cases h
      exact ev_ret rfl
    · skip
      rcases if_i h with ⟨hq, h⟩ | ⟨hq2, h⟩
      · refine ev_tsw 52 rfl hR (51) (Or.inr ⟨by rw [hq]; decide, by rw [hq]; rfl⟩) (by decide) ?_
        refine ev_k (pc' := 61) (ls' := [(0, .inr (.inr (some 72))), (1, .inl (x1))]) (st' := [.inl ((M 72 1) - (M 72 3))]) (nc' := 126) (np' := 138) (M' := M) 5 rfl ?_
        cases h
        exact ev_ret rfl
      · skip
        rcases if_i h with ⟨hq, h⟩ | ⟨hq3, h⟩
        · refine ev_tsw 62 rfl hR (61) (Or.inr ⟨by rw [hq]; decide, by rw [hq]; rfl⟩) (by decide) ?_
          refine ev_k (pc' := 71) (ls' := [(0, .inr (.inr (some 72))), (1, .inl (x1))]) (st' := [.inl ((M 72 1) + (M 72 3))]) (nc' := 126) (np' := 138) (M' := M) 5 rfl ?_
          cases h
          exact ev_ret rfl
        · skip
          have hho : ((x1) < 0 ∨ 3 < (x1)) ∨ ((x1) = 0 ∨ (x1) = 1 ∨ (x1) = 2 ∨ (x1) = 3) := by omega
          refine ev_tsw 72 rfl hR (71) ?_ (by decide) ?_
          · rcases hho with hho | hho
            · exact Or.inl ⟨hho, rfl⟩
            · rcases hho with hho | hho | hho | hho
              · exact absurd hho hq0
              · exact absurd hho hq1
              · exact absurd hho hq2
              · exact absurd hho hq3
          · skip
            refine ev_k (pc' := 89) (ls' := [(0, .inr (.inr (some 72))), (1, .inl (x1))]) (st' := [.inl ((((2) * (M 72 2)) + (1)) * (((2) * (M 72 3)) + (1)))]) (nc' := 126) (np' := 138) (M' := M) 13 rfl ?_
            cases h
            exact ev_ret rfl
def P_paces_34     (M : am_M) : Option (Int × am_M) := some (-1, M)
def P_paces_68    (s0 : Int) (M : am_M) : Option (Int × am_M) := some (s0, M)
def P_paces    (x1 : Int) (x2 : Int) (x3 : Int) (M : am_M) : Option (Int × am_M) := c_lt (x2) (1)
       (P_paces_34     M)
       (c_gt (x2) (99)
       (P_paces_34     M)
       (c_lt (x3) (0)
       (P_paces_34     M)
       (c_gt (x3) (4)
       (P_paces_34     M)
       (oc (Tape_take (x1) (1) (40) M) fun v1 M2 => c_ne (v1) (0)
       (oc (Legs_readLegs_72 (x2) M2) fun v3 M4 => c_ge (v3) (0)
       (ob (Legs_tellEnds_72 (x3) M4) fun v5 => (P_paces_68    (v5) M4))
       ((P_paces_68    (v3) M4)))
       (P_paces_34     M2)))))
theorem P_paces_34_t {L : Nat} {xs : Nat → Int} {d : Nat} (hd : 2 ≤ d)      (M : am_M) (r : Int × am_M) (h : P_paces_34     M = some r) : am_Ev L xs d me_160 34 [] [] 126 138 M (some (.inl r.1), 126, 138, r.2) := by
  refine ev_k (pc' := 35) (ls' := []) (st' := [.inl (-1)]) (nc' := 126) (np' := 138) (M' := M) 1 rfl ?_
  cases h
  exact ev_ret rfl
theorem P_paces_68_t {L : Nat} {xs : Nat → Int} {d : Nat} (hd : 2 ≤ d)     (s0 : Int) (M : am_M) (r : Int × am_M) (h : P_paces_68    s0 M = some r) : am_Ev L xs d me_160 68 [] [.inl (s0)] 126 138 M (some (.inl r.1), 126, 138, r.2) := by
  refine ev_k (pc' := 68) (ls' := []) (st' := [.inl (s0)]) (nc' := 126) (np' := 138) (M' := M) 0 rfl ?_
  cases h
  exact ev_ret rfl
theorem P_paces_e {L : Nat} {xs : Nat → Int} {d : Nat} (hd : 2 ≤ d)   (x1 : Int) (x2 : Int) (x3 : Int) (M : am_M) (r : Int × am_M) (h : P_paces   x1 x2 x3 M = some r) : am_Ev L xs d me_160 0 (am_ar1 0 [.inr (.inr (some 0)), .inl (x1), .inl (x2), .inl (x3)]) [] 126 138 M (some (.inl r.1), 126, 138, r.2) := by
  refine ev_k (pc' := 2) (ls' := [(0, .inr (.inr (some 0))), (1, .inl (x1)), (2, .inl (x2)), (3, .inl (x3))]) (st' := [.inl (1), .inl (x2)]) (nc' := 126) (np' := 138) (M' := M) 2 rfl ?_
  obtain ⟨hR, ⟨hc, h⟩ | ⟨hc, h⟩⟩ := c_lt_i h
  · refine ev_icmp 34 rfl hR.1 hR.2 (by decide) (fun _ => ?_) (fun q => absurd hc q)
    exact P_paces_34_t hd      M r h
  · refine ev_icmp 34 rfl hR.1 hR.2 (by decide) (fun q => absurd q hc) (fun _ => ?_)
    refine ev_k (pc' := 8) (ls' := [(0, .inr (.inr (some 0))), (1, .inl (x1)), (2, .inl (x2)), (3, .inl (x3))]) (st' := [.inl (99), .inl (x2)]) (nc' := 126) (np' := 138) (M' := M) 2 rfl ?_
    obtain ⟨hR, ⟨hc, h⟩ | ⟨hc, h⟩⟩ := c_gt_i h
    · refine ev_icmp 34 rfl hR.1 hR.2 (by decide) (fun _ => ?_) (fun q => absurd hc q)
      exact P_paces_34_t hd      M r h
    · refine ev_icmp 34 rfl hR.1 hR.2 (by decide) (fun q => absurd q hc) (fun _ => ?_)
      refine ev_k (pc' := 12) (ls' := [(0, .inr (.inr (some 0))), (1, .inl (x1)), (2, .inl (x2)), (3, .inl (x3))]) (st' := [.inl (x3)]) (nc' := 126) (np' := 138) (M' := M) 1 rfl ?_
      obtain ⟨hR, ⟨hc, h⟩ | ⟨hc, h⟩⟩ := c_lt_i h
      · refine ev_ifc 34 rfl hR.1 (by decide) (fun _ => ?_) (fun q => absurd hc q)
        exact P_paces_34_t hd      M r h
      · refine ev_ifc 34 rfl hR.1 (by decide) (fun q => absurd q hc) (fun _ => ?_)
        refine ev_k (pc' := 17) (ls' := [(0, .inr (.inr (some 0))), (1, .inl (x1)), (2, .inl (x2)), (3, .inl (x3))]) (st' := [.inl (4), .inl (x3)]) (nc' := 126) (np' := 138) (M' := M) 2 rfl ?_
        obtain ⟨hR, ⟨hc, h⟩ | ⟨hc, h⟩⟩ := c_gt_i h
        · refine ev_icmp 34 rfl hR.1 hR.2 (by decide) (fun _ => ?_) (fun q => absurd hc q)
          exact P_paces_34_t hd      M r h
        · refine ev_icmp 34 rfl hR.1 hR.2 (by decide) (fun q => absurd q hc) (fun _ => ?_)
          refine ev_k (pc' := 28) (ls' := [(0, .inr (.inr (some 0))), (1, .inl (x1)), (2, .inl (x2)), (3, .inl (x3))]) (st' := [.inl (40), .inl (1), .inl (x1), .inr (.inr (some 14))]) (nc' := 126) (np' := 138) (M' := M) 5 rfl ?_
          obtain ⟨v1, M2, hv, h⟩ := oc_i h
          refine ev_call (t := 21) (as := [.inr (.inr (some 14)), .inl (x1), .inl (1), .inl (40)]) (rest := []) rfl rfl rfl (by omega) (Tape_take_e (by omega) (x1) (1) (40) M _ hv) ?_
          refine ev_k (pc' := 31) (ls' := [(0, .inr (.inr (some 0))), (1, .inl (x1)), (2, .inl (x2)), (3, .inl (x3))]) (st' := [.inl (v1)]) (nc' := 126) (np' := 138) (M' := M2) 0 rfl ?_
          obtain ⟨hR, ⟨hc, h⟩ | ⟨hc, h⟩⟩ := c_ne_i h
          · refine ev_ifc 36 rfl hR.1 (by decide) (fun _ => ?_) (fun q => absurd hc q)
            refine ev_k (pc' := 45) (ls' := [(0, .inr (.inr (some 0))), (1, .inl (x1)), (2, .inl (x2)), (3, .inl (x3))]) (st' := [.inl (x2), .inr (.inr (some 14)), .inr (.inr (some 72))]) (nc' := 126) (np' := 138) (M' := M2) 5 rfl ?_
            obtain ⟨v3, M4, hv, h⟩ := oc_i h
            refine ev_call (t := 161) (as := [.inr (.inr (some 72)), .inr (.inr (some 14)), .inl (x2)]) (rest := []) rfl rfl rfl (by omega) (Legs_readLegs_72_e (by omega) (x2) M2 _ hv) ?_
            refine ev_k (pc' := 52) (ls' := [(4, .inl (v3)), (0, .inr (.inr (some 0))), (1, .inl (x1)), (2, .inl (x2)), (3, .inl (x3))]) (st' := [.inl (v3)]) (nc' := 126) (np' := 138) (M' := M4) 2 rfl ?_
            obtain ⟨hR, ⟨hc, h⟩ | ⟨hc, h⟩⟩ := c_ge_i h
            · refine ev_ifc 60 rfl hR.1 (by decide) (fun _ => ?_) (fun q => absurd hc q)
              refine ev_k (pc' := 65) (ls' := [(4, .inl (v3)), (0, .inr (.inr (some 0))), (1, .inl (x1)), (2, .inl (x2)), (3, .inl (x3))]) (st' := [.inl (x3), .inr (.inr (some 72))]) (nc' := 126) (np' := 138) (M' := M4) 3 rfl ?_
              obtain ⟨v5, hv, h⟩ := ob_i h
              refine ev_call (t := 163) (as := [.inr (.inr (some 72)), .inl (x3)]) (rest := []) rfl rfl rfl (by omega) (Legs_tellEnds_72_e (by omega) (x3) M4 _ hv) ?_
              exact P_paces_68_t hd     (v5) M4 r h
            · refine ev_ifc 60 rfl hR.1 (by decide) (fun q => absurd q hc) (fun _ => ?_)
              refine ev_k (pc' := 68) (ls' := []) (st' := [.inl (v3)]) (nc' := 126) (np' := 138) (M' := M4) 2 rfl ?_
              exact P_paces_68_t hd     (v3) M4 r h
          · refine ev_ifc 36 rfl hR.1 (by decide) (fun q => absurd q hc) (fun _ => ?_)
            exact P_paces_34_t hd      M2 r h
def Search_readCells_63_59     (M : am_M) : Option (Int × am_M) := some (0, M)
def Search_readCells_63_93     (M : am_M) : Option (Int × am_M) := some (1, M)
def Search_readCells_63_7    : Nat → Int → Int → am_M → Option (Int × am_M)
  | 0, _, _, _ => none
  | n + 1, x2, x3, M => c_ge (x3) (x2)
       (Search_readCells_63_93     M)
       (c_ge (x3) (6)
       (Search_readCells_63_93     M)
       (ob (Tape_at ((2) * (x3)) M) fun v1 => ob (Tape_at (((2) * (x3)) + (1)) M) fun v2 => ob (Country_isCell (v1) M) fun v3 => c_eq (v3) (0)
       (Search_readCells_63_59     M)
       (c_lt (v2) (1)
       (Search_readCells_63_59     M)
       (c_le (v2) (9)
       (wa M 64 6 (x3) (v1) fun M4 => wa M4 65 6 (x3) (v2) fun M5 => fw M5 63 2 ((M5 63 2) + (1)) fun M6 => (Search_readCells_63_7    n (x2) ((x3) + (1)) M6))
       (Search_readCells_63_59     M)))))
def Search_readCells_63    (x2 : Int) (M : am_M) : Option (Int × am_M) := fw M 63 2 (0) fun M1 => (Search_readCells_63_7    am_big (x2) (0) M1)
theorem Search_readCells_63_59_t {L : Nat} {xs : Nat → Int} {d : Nat} (hd : 1 ≤ d)      (M : am_M) (r : Int × am_M) (h : Search_readCells_63_59     M = some r) : am_Ev L xs d me_165 59 [] [] 126 138 M (some (.inl r.1), 126, 138, r.2) := by
  refine ev_k (pc' := 60) (ls' := []) (st' := [.inl (0)]) (nc' := 126) (np' := 138) (M' := M) 1 rfl ?_
  cases h
  exact ev_ret rfl
theorem Search_readCells_63_93_t {L : Nat} {xs : Nat → Int} {d : Nat} (hd : 1 ≤ d)      (M : am_M) (r : Int × am_M) (h : Search_readCells_63_93     M = some r) : am_Ev L xs d me_165 93 [] [] 126 138 M (some (.inl r.1), 126, 138, r.2) := by
  refine ev_k (pc' := 94) (ls' := []) (st' := [.inl (1)]) (nc' := 126) (np' := 138) (M' := M) 1 rfl ?_
  cases h
  exact ev_ret rfl
theorem Search_readCells_63_7_t {L : Nat} {xs : Nat → Int} {d : Nat} (hd : 1 ≤ d)     : ∀ (n : Nat) (x2 : Int) (x3 : Int) (M : am_M) (r : Int × am_M), Search_readCells_63_7    n x2 x3 M = some r → am_Ev L xs d me_165 7 [(0, .inr (.inr (some 63))), (1, .inr (.inr (some 14))), (2, .inl (x2)), (3, .inl (x3))] [] 126 138 M (some (.inl r.1), 126, 138, r.2)
  | 0, _, _, M, r, h => by cases h
  | n + 1, x2, x3, M, r, h => by
    have ih := Search_readCells_63_7_t (L := L) (xs := xs) hd     n
    refine ev_k (pc' := 9) (ls' := [(0, .inr (.inr (some 63))), (1, .inr (.inr (some 14))), (2, .inl (x2)), (3, .inl (x3))]) (st' := [.inl (x2), .inl (x3)]) (nc' := 126) (np' := 138) (M' := M) 2 rfl ?_
    obtain ⟨hR, ⟨hc, h⟩ | ⟨hc, h⟩⟩ := c_ge_i h
    · refine ev_icmp 93 rfl hR.1 hR.2 (by decide) (fun _ => ?_) (fun q => absurd hc q)
      exact Search_readCells_63_93_t hd      M r h
    · refine ev_icmp 93 rfl hR.1 hR.2 (by decide) (fun q => absurd q hc) (fun _ => ?_)
      refine ev_k (pc' := 15) (ls' := [(0, .inr (.inr (some 63))), (1, .inr (.inr (some 14))), (2, .inl (x2)), (3, .inl (x3))]) (st' := [.inl (6), .inl (x3)]) (nc' := 126) (np' := 138) (M' := M) 2 rfl ?_
      obtain ⟨hR, ⟨hc, h⟩ | ⟨hc, h⟩⟩ := c_ge_i h
      · refine ev_icmp 93 rfl hR.1 hR.2 (by decide) (fun _ => ?_) (fun q => absurd hc q)
        exact Search_readCells_63_93_t hd      M r h
      · refine ev_icmp 93 rfl hR.1 hR.2 (by decide) (fun q => absurd q hc) (fun _ => ?_)
        refine ev_k (pc' := 22) (ls' := [(0, .inr (.inr (some 63))), (1, .inr (.inr (some 14))), (2, .inl (x2)), (3, .inl (x3))]) (st' := [.inl ((2) * (x3)), .inr (.inr (some 14))]) (nc' := 126) (np' := 138) (M' := M) 4 rfl ?_
        obtain ⟨v1, hv, h⟩ := ob_i h
        refine ev_call (t := 23) (as := [.inr (.inr (some 14)), .inl ((2) * (x3))]) (rest := []) rfl rfl rfl (by omega) (Tape_at_e (by omega) ((2) * (x3)) M _ hv) ?_
        refine ev_k (pc' := 33) (ls' := [(4, .inl (v1)), (0, .inr (.inr (some 63))), (1, .inr (.inr (some 14))), (2, .inl (x2)), (3, .inl (x3))]) (st' := [.inl (((2) * (x3)) + (1)), .inr (.inr (some 14))]) (nc' := 126) (np' := 138) (M' := M) 7 rfl ?_
        obtain ⟨v2, hv, h⟩ := ob_i h
        refine ev_call (t := 23) (as := [.inr (.inr (some 14)), .inl (((2) * (x3)) + (1))]) (rest := []) rfl rfl rfl (by omega) (Tape_at_e (by omega) (((2) * (x3)) + (1)) M _ hv) ?_
        refine ev_k (pc' := 40) (ls' := [(5, .inl (v2)), (4, .inl (v1)), (0, .inr (.inr (some 63))), (1, .inr (.inr (some 14))), (2, .inl (x2)), (3, .inl (x3))]) (st' := [.inl (v1)]) (nc' := 126) (np' := 138) (M' := M) 2 rfl ?_
        obtain ⟨v3, hv, h⟩ := ob_i h
        refine ev_call (t := 9) (as := [.inl (v1)]) (rest := []) rfl rfl rfl (by omega) (Country_isCell_e (by omega) (v1) M _ hv) ?_
        refine ev_k (pc' := 43) (ls' := [(5, .inl (v2)), (4, .inl (v1)), (0, .inr (.inr (some 63))), (1, .inr (.inr (some 14))), (2, .inl (x2)), (3, .inl (x3))]) (st' := [.inl (v3)]) (nc' := 126) (np' := 138) (M' := M) 0 rfl ?_
        obtain ⟨hR, ⟨hc, h⟩ | ⟨hc, h⟩⟩ := c_eq_i h
        · refine ev_ifc 59 rfl hR.1 (by decide) (fun _ => ?_) (fun q => absurd hc q)
          exact Search_readCells_63_59_t hd      M r h
        · refine ev_ifc 59 rfl hR.1 (by decide) (fun q => absurd q hc) (fun _ => ?_)
          refine ev_k (pc' := 49) (ls' := [(5, .inl (v2)), (4, .inl (v1)), (0, .inr (.inr (some 63))), (1, .inr (.inr (some 14))), (2, .inl (x2)), (3, .inl (x3))]) (st' := [.inl (1), .inl (v2)]) (nc' := 126) (np' := 138) (M' := M) 2 rfl ?_
          obtain ⟨hR, ⟨hc, h⟩ | ⟨hc, h⟩⟩ := c_lt_i h
          · refine ev_icmp 59 rfl hR.1 hR.2 (by decide) (fun _ => ?_) (fun q => absurd hc q)
            exact Search_readCells_63_59_t hd      M r h
          · refine ev_icmp 59 rfl hR.1 hR.2 (by decide) (fun q => absurd q hc) (fun _ => ?_)
            refine ev_k (pc' := 56) (ls' := [(5, .inl (v2)), (4, .inl (v1)), (0, .inr (.inr (some 63))), (1, .inr (.inr (some 14))), (2, .inl (x2)), (3, .inl (x3))]) (st' := [.inl (9), .inl (v2)]) (nc' := 126) (np' := 138) (M' := M) 2 rfl ?_
            obtain ⟨hR, ⟨hc, h⟩ | ⟨hc, h⟩⟩ := c_le_i h
            · refine ev_icmp 61 rfl hR.1 hR.2 (by decide) (fun _ => ?_) (fun q => absurd hc q)
              refine ev_k (pc' := 68) (ls' := [(5, .inl (v2)), (4, .inl (v1)), (0, .inr (.inr (some 63))), (1, .inr (.inr (some 14))), (2, .inl (x2)), (3, .inl (x3))]) (st' := [.inl (v1), .inl (x3), .inr (.inr (some 64))]) (nc' := 126) (np' := 138) (M' := M) 4 rfl ?_
              obtain ⟨hc, M4, eM, h⟩ := wa_i h
              refine ev_iast (k := 64) rfl (by decide) rfl hc eM ?_
              refine ev_k (pc' := 76) (ls' := [(5, .inl (v2)), (4, .inl (v1)), (0, .inr (.inr (some 63))), (1, .inr (.inr (some 14))), (2, .inl (x2)), (3, .inl (x3))]) (st' := [.inl (v2), .inl (x3), .inr (.inr (some 65))]) (nc' := 126) (np' := 138) (M' := M4) 4 rfl ?_
              obtain ⟨hc, M5, eM, h⟩ := wa_i h
              refine ev_iast (k := 65) rfl (by decide) rfl hc eM ?_
              refine ev_k (pc' := 87) (ls' := [(5, .inl (v2)), (4, .inl (v1)), (0, .inr (.inr (some 63))), (1, .inr (.inr (some 14))), (2, .inl (x2)), (3, .inl (x3))]) (st' := []) (nc' := 126) (np' := 138) (M' := am_up M5 63 2 ((M5 63 2) + (1))) 6 rfl ?_
              obtain ⟨M6, eM, h⟩ := fw_i h
              rw [← eM]
              refine ev_k (pc' := 7) (ls' := [(0, .inr (.inr (some 63))), (1, .inr (.inr (some 14))), (2, .inl (x2)), (3, .inl ((x3) + (1)))]) (st' := []) (nc' := 126) (np' := 138) (M' := M6) 2 rfl ?_
              exact ih (x2) ((x3) + (1)) M6 r h
            · refine ev_icmp 61 rfl hR.1 hR.2 (by decide) (fun q => absurd q hc) (fun _ => ?_)
              exact Search_readCells_63_59_t hd      M r h
theorem Search_readCells_63_e {L : Nat} {xs : Nat → Int} {d : Nat} (hd : 1 ≤ d)   (x2 : Int) (M : am_M) (r : Int × am_M) (h : Search_readCells_63   x2 M = some r) : am_Ev L xs d me_165 0 (am_ar1 0 [.inr (.inr (some 63)), .inr (.inr (some 14)), .inl (x2)]) [] 126 138 M (some (.inl r.1), 126, 138, r.2) := by
  refine ev_k (pc' := 5) (ls' := [(0, .inr (.inr (some 63))), (1, .inr (.inr (some 14))), (2, .inl (x2))]) (st' := []) (nc' := 126) (np' := 138) (M' := am_up M 63 2 (0)) 3 rfl ?_
  obtain ⟨M1, eM, h⟩ := fw_i h
  rw [← eM]
  refine ev_k (pc' := 7) (ls' := [(0, .inr (.inr (some 63))), (1, .inr (.inr (some 14))), (2, .inl (x2)), (3, .inl (0))]) (st' := []) (nc' := 126) (np' := 138) (M' := M1) 2 rfl ?_
  exact Search_readCells_63_7_t hd     am_big (x2) (0) M1 r h
def J_abs_10    (s0 : Int) (M : am_M) : Option (Int) := some (s0)
def J_abs    (x0 : Int) (M : am_M) : Option (Int) := c_ge (x0) (0)
       ((J_abs_10    (x0) M))
       ((J_abs_10    (-(x0)) M))
theorem J_abs_10_t {L : Nat} {xs : Nat → Int} {d : Nat} (hd : 0 ≤ d)     (s0 : Int) (M : am_M) (r : Int) (h : J_abs_10    s0 M = some r) : am_Ev L xs d me_169 10 [] [.inl (s0)] 126 138 M (some (.inl r), 126, 138, M) := by
  refine ev_k (pc' := 10) (ls' := []) (st' := [.inl (s0)]) (nc' := 126) (np' := 138) (M' := M) 0 rfl ?_
  cases h
  exact ev_ret rfl
theorem J_abs_e {L : Nat} {xs : Nat → Int} {d : Nat} (hd : 0 ≤ d)   (x0 : Int) (M : am_M) (r : Int) (h : J_abs   x0 M = some r) : am_Ev L xs d me_169 0 (am_ar1 0 [.inl (x0)]) [] 126 138 M (some (.inl r), 126, 138, M) := by
  refine ev_k (pc' := 1) (ls' := [(0, .inl (x0))]) (st' := [.inl (x0)]) (nc' := 126) (np' := 138) (M' := M) 1 rfl ?_
  obtain ⟨hR, ⟨hc, h⟩ | ⟨hc, h⟩⟩ := c_ge_i h
  · refine ev_ifc 9 rfl hR.1 (by decide) (fun _ => ?_) (fun q => absurd hc q)
    refine ev_k (pc' := 10) (ls' := []) (st' := [.inl (x0)]) (nc' := 126) (np' := 138) (M' := M) 1 rfl ?_
    exact J_abs_10_t hd     (x0) M r h
  · refine ev_ifc 9 rfl hR.1 (by decide) (fun q => absurd q hc) (fun _ => ?_)
    refine ev_k (pc' := 10) (ls' := []) (st' := [.inl (-(x0))]) (nc' := 126) (np' := 138) (M' := M) 3 rfl ?_
    exact J_abs_10_t hd     (-(x0)) M r h
def Search_stepsBetween    (x0 : Int) (x1 : Int) (M : am_M) : Option (Int) := ck (am_R (x0) ∧ am_R (12) ∧ ((12) : Int) ≠ 0) (tw (Int.tmod (x0) (12)) fun v1 => ck (am_R (x1) ∧ am_R (12) ∧ ((12) : Int) ≠ 0) (tw (Int.tmod (x1) (12)) fun v2 => ob (J_abs ((v1) - (v2)) M) fun v3 => ck (am_R (x0) ∧ am_R (12) ∧ ((12) : Int) ≠ 0) (tw (Int.tdiv (x0) (12)) fun v4 => ck (am_R (x1) ∧ am_R (12) ∧ ((12) : Int) ≠ 0) (tw (Int.tdiv (x1) (12)) fun v5 => ob (J_abs ((v4) - (v5)) M) fun v6 => some ((v3) + (v6))))))
theorem Search_stepsBetween_e {L : Nat} {xs : Nat → Int} {d : Nat} (hd : 1 ≤ d)   (x0 : Int) (x1 : Int) (M : am_M) (r : Int) (h : Search_stepsBetween   x0 x1 M = some r) : am_Ev L xs d me_168 0 (am_ar1 0 [.inl (x0), .inl (x1)]) [] 126 138 M (some (.inl r), 126, 138, M) := by
  refine ev_k (pc' := 3) (ls' := [(0, .inl (x0)), (1, .inl (x1))]) (st' := [.inl (12), .inl (x0)]) (nc' := 126) (np' := 138) (M' := M) 2 rfl ?_
  obtain ⟨hc, h⟩ := ck_i h
  obtain ⟨v1, ev, h⟩ := tw_i h
  refine ev_irem rfl hc ?_
  refine ev_k (pc' := 4) (ls' := [(0, .inl (x0)), (1, .inl (x1))]) (st' := [.inl (Int.tmod (x0) (12))]) (nc' := 126) (np' := 138) (M' := M) 0 rfl ?_
  rw [← ev]
  refine ev_k (pc' := 7) (ls' := [(0, .inl (x0)), (1, .inl (x1))]) (st' := [.inl (12), .inl (x1), .inl (v1)]) (nc' := 126) (np' := 138) (M' := M) 2 rfl ?_
  obtain ⟨hc, h⟩ := ck_i h
  obtain ⟨v2, ev, h⟩ := tw_i h
  refine ev_irem rfl hc ?_
  refine ev_k (pc' := 8) (ls' := [(0, .inl (x0)), (1, .inl (x1))]) (st' := [.inl (Int.tmod (x1) (12)), .inl (v1)]) (nc' := 126) (np' := 138) (M' := M) 0 rfl ?_
  rw [← ev]
  refine ev_k (pc' := 9) (ls' := [(0, .inl (x0)), (1, .inl (x1))]) (st' := [.inl ((v1) - (v2))]) (nc' := 126) (np' := 138) (M' := M) 1 rfl ?_
  obtain ⟨v3, hv, h⟩ := ob_i h
  refine ev_call (t := 169) (as := [.inl ((v1) - (v2))]) (rest := []) rfl rfl rfl (by omega) (J_abs_e (by omega) ((v1) - (v2)) M _ hv) ?_
  refine ev_k (pc' := 15) (ls' := [(0, .inl (x0)), (1, .inl (x1))]) (st' := [.inl (12), .inl (x0), .inl (v3)]) (nc' := 126) (np' := 138) (M' := M) 2 rfl ?_
  obtain ⟨hc, h⟩ := ck_i h
  obtain ⟨v4, ev, h⟩ := tw_i h
  refine ev_idiv rfl hc ?_
  refine ev_k (pc' := 16) (ls' := [(0, .inl (x0)), (1, .inl (x1))]) (st' := [.inl (Int.tdiv (x0) (12)), .inl (v3)]) (nc' := 126) (np' := 138) (M' := M) 0 rfl ?_
  rw [← ev]
  refine ev_k (pc' := 19) (ls' := [(0, .inl (x0)), (1, .inl (x1))]) (st' := [.inl (12), .inl (x1), .inl (v4), .inl (v3)]) (nc' := 126) (np' := 138) (M' := M) 2 rfl ?_
  obtain ⟨hc, h⟩ := ck_i h
  obtain ⟨v5, ev, h⟩ := tw_i h
  refine ev_idiv rfl hc ?_
  refine ev_k (pc' := 20) (ls' := [(0, .inl (x0)), (1, .inl (x1))]) (st' := [.inl (Int.tdiv (x1) (12)), .inl (v4), .inl (v3)]) (nc' := 126) (np' := 138) (M' := M) 0 rfl ?_
  rw [← ev]
  refine ev_k (pc' := 21) (ls' := [(0, .inl (x0)), (1, .inl (x1))]) (st' := [.inl ((v4) - (v5)), .inl (v3)]) (nc' := 126) (np' := 138) (M' := M) 1 rfl ?_
  obtain ⟨v6, hv, h⟩ := ob_i h
  refine ev_call (t := 169) (as := [.inl ((v4) - (v5))]) (rest := [.inl (v3)]) rfl rfl rfl (by omega) (J_abs_e (by omega) ((v4) - (v5)) M _ hv) ?_
  refine ev_k (pc' := 25) (ls' := [(0, .inl (x0)), (1, .inl (x1))]) (st' := [.inl ((v3) + (v6))]) (nc' := 126) (np' := 138) (M' := M) 1 rfl ?_
  cases h
  exact ev_ret rfl
def Search_goOn_63_24  (rc167 : Int → Int → Int → Int → Int → am_M → Option am_M)  (x5 : Int) (M : am_M) : Option (am_M) := fw M 63 5 (x5) fun M1 => cpy M1 66 6 67 6 (0) (0) (6) fun M2 => some (M2)
def Search_goOn_63_139  (rc167 : Int → Int → Int → Int → Int → am_M → Option am_M)   (M : am_M) : Option (am_M) := some (M)
def Search_goOn_63_133  (rc167 : Int → Int → Int → Int → Int → am_M → Option am_M) (k49 : Int → Int → Int → Int → Int → Int → am_M → Option (am_M)) (x1 : Int) (x2 : Int) (x3 : Int) (x4 : Int) (x5 : Int) (x6 : Int) (M : am_M) : Option (am_M) := (k49 (x1) (x2) (x3) (x4) (x5) ((x6) + (1)) M)
def Search_goOn_63_49  (rc167 : Int → Int → Int → Int → Int → am_M → Option am_M)  : Nat → Int → Int → Int → Int → Int → Int → am_M → Option (am_M)
  | 0, _, _, _, _, _, _, _ => none
  | n + 1, x1, x2, x3, x4, x5, x6, M => c_ge (x6) (M 63 2)
       (Search_goOn_63_139  rc167   M)
       (c_ge (x6) (6)
       (Search_goOn_63_139  rc167   M)
       (c_ne (b_and (b_shr (x2) (x6)) (1)) (0)
       (Search_goOn_63_133  rc167 (Search_goOn_63_49  rc167  n) (x1) (x2) (x3) (x4) (x5) (x6) M)
       (wa M 66 6 (x1) (x6) fun M1 => rd M1 64 6 (x6) fun v2 => ob (Search_stepsBetween (x3) (v2) M1) fun v3 => rd M1 64 6 (x6) fun v4 => rd M1 65 6 (x6) fun v5 => ob (rc167 ((x1) + (1)) (b_or (x2) (b_shl (1) (x6))) (v4) ((x4) + (v3)) ((x5) + ((v5) * ((x4) + (v3)))) M1) fun M6 => (Search_goOn_63_133  rc167 (Search_goOn_63_49  rc167  n) (x1) (x2) (x3) (x4) (x5) (x6) M6))))
def Search_goOn_63  (rc167 : Int → Int → Int → Int → Int → am_M → Option am_M)  (x1 : Int) (x2 : Int) (x3 : Int) (x4 : Int) (x5 : Int) (M : am_M) : Option (am_M) := c_lt (x5) (M 63 5)
       (c_ge (x1) (M 63 2)
       (Search_goOn_63_24  rc167  (x5) M)
       (c_lt (x1) (6)
       ((Search_goOn_63_49  rc167  am_big (x1) (x2) (x3) (x4) (x5) (0) M))
       (Search_goOn_63_24  rc167  (x5) M)))
       (some (M))
theorem Search_goOn_63_24_t {L : Nat} {xs : Nat → Int} {d : Nat} (hd : 2 ≤ d) (rc167 : Int → Int → Int → Int → Int → am_M → Option am_M) (hrc167 : ∀ (a0 : Int) (a1 : Int) (a2 : Int) (a3 : Int) (a4 : Int) (M : am_M) (r : am_M), rc167 a0 a1 a2 a3 a4 M = some r → am_Ev L xs (d - 1) me_167 0 (am_ar1 0 [.inr (.inr (some 63)), .inl (a0), .inl (a1), .inl (a2), .inl (a3), .inl (a4)]) [] 126 138 M (none, 126, 138, r))   (x5 : Int) (M : am_M) (r : am_M) (h : Search_goOn_63_24  rc167  x5 M = some r) : am_Ev L xs d me_167 24 [(0, .inr (.inr (some 63))), (5, .inl (x5))] [] 126 138 M (none, 126, 138, r) := by
  refine ev_k (pc' := 30) (ls' := [(0, .inr (.inr (some 63))), (5, .inl (x5))]) (st' := []) (nc' := 126) (np' := 138) (M' := am_up M 63 5 (x5)) 3 rfl ?_
  obtain ⟨M1, eM, h⟩ := fw_i h
  rw [← eM]
  refine ev_k (pc' := 42) (ls' := [(0, .inr (.inr (some 63))), (5, .inl (x5))]) (st' := [.inl (6), .inl (0), .inr (.inr (some 67)), .inl (0), .inr (.inr (some 66))]) (nc' := 126) (np' := 138) (M' := M1) 7 rfl ?_
  obtain ⟨hc, M2, eM, h⟩ := cpy_i h
  refine ev_cpy (s := 66) (dd := 67) rfl rfl (by decide) (by decide) rfl rfl hc rfl (by decide) eM ?_
  refine ev_k (pc' := 45) (ls' := [(0, .inr (.inr (some 63))), (5, .inl (x5))]) (st' := []) (nc' := 126) (np' := 138) (M' := M2) 0 rfl ?_
  cases h
  exact ev_ret rfl
theorem Search_goOn_63_139_t {L : Nat} {xs : Nat → Int} {d : Nat} (hd : 2 ≤ d) (rc167 : Int → Int → Int → Int → Int → am_M → Option am_M) (hrc167 : ∀ (a0 : Int) (a1 : Int) (a2 : Int) (a3 : Int) (a4 : Int) (M : am_M) (r : am_M), rc167 a0 a1 a2 a3 a4 M = some r → am_Ev L xs (d - 1) me_167 0 (am_ar1 0 [.inr (.inr (some 63)), .inl (a0), .inl (a1), .inl (a2), .inl (a3), .inl (a4)]) [] 126 138 M (none, 126, 138, r))    (M : am_M) (r : am_M) (h : Search_goOn_63_139  rc167   M = some r) : am_Ev L xs d me_167 139 [] [] 126 138 M (none, 126, 138, r) := by
  refine ev_k (pc' := 139) (ls' := []) (st' := []) (nc' := 126) (np' := 138) (M' := M) 0 rfl ?_
  cases h
  exact ev_ret rfl
theorem Search_goOn_63_133_t {L : Nat} {xs : Nat → Int} {d : Nat} (hd : 2 ≤ d) (rc167 : Int → Int → Int → Int → Int → am_M → Option am_M) (hrc167 : ∀ (a0 : Int) (a1 : Int) (a2 : Int) (a3 : Int) (a4 : Int) (M : am_M) (r : am_M), rc167 a0 a1 a2 a3 a4 M = some r → am_Ev L xs (d - 1) me_167 0 (am_ar1 0 [.inr (.inr (some 63)), .inl (a0), .inl (a1), .inl (a2), .inl (a3), .inl (a4)]) [] 126 138 M (none, 126, 138, r)) (k49 : Int → Int → Int → Int → Int → Int → am_M → Option (am_M)) (hk49 : ∀ (x1 : Int) (x2 : Int) (x3 : Int) (x4 : Int) (x5 : Int) (x6 : Int) (M : am_M) (r : am_M), k49 x1 x2 x3 x4 x5 x6 M = some r → am_Ev L xs d me_167 49 [(0, .inr (.inr (some 63))), (1, .inl (x1)), (2, .inl (x2)), (3, .inl (x3)), (4, .inl (x4)), (5, .inl (x5)), (6, .inl (x6))] [] 126 138 M (none, 126, 138, r)) (x1 : Int) (x2 : Int) (x3 : Int) (x4 : Int) (x5 : Int) (x6 : Int) (M : am_M) (r : am_M) (h : Search_goOn_63_133  rc167 k49 x1 x2 x3 x4 x5 x6 M = some r) : am_Ev L xs d me_167 133 [(0, .inr (.inr (some 63))), (1, .inl (x1)), (2, .inl (x2)), (3, .inl (x3)), (4, .inl (x4)), (5, .inl (x5)), (6, .inl (x6))] [] 126 138 M (none, 126, 138, r) := by
  refine ev_k (pc' := 49) (ls' := [(0, .inr (.inr (some 63))), (1, .inl (x1)), (2, .inl (x2)), (3, .inl (x3)), (4, .inl (x4)), (5, .inl (x5)), (6, .inl ((x6) + (1)))]) (st' := []) (nc' := 126) (np' := 138) (M' := M) 2 rfl ?_
  exact hk49 (x1) (x2) (x3) (x4) (x5) ((x6) + (1)) M r h
theorem Search_goOn_63_49_t {L : Nat} {xs : Nat → Int} {d : Nat} (hd : 2 ≤ d) (rc167 : Int → Int → Int → Int → Int → am_M → Option am_M) (hrc167 : ∀ (a0 : Int) (a1 : Int) (a2 : Int) (a3 : Int) (a4 : Int) (M : am_M) (r : am_M), rc167 a0 a1 a2 a3 a4 M = some r → am_Ev L xs (d - 1) me_167 0 (am_ar1 0 [.inr (.inr (some 63)), .inl (a0), .inl (a1), .inl (a2), .inl (a3), .inl (a4)]) [] 126 138 M (none, 126, 138, r))   : ∀ (n : Nat) (x1 : Int) (x2 : Int) (x3 : Int) (x4 : Int) (x5 : Int) (x6 : Int) (M : am_M) (r : am_M), Search_goOn_63_49  rc167  n x1 x2 x3 x4 x5 x6 M = some r → am_Ev L xs d me_167 49 [(0, .inr (.inr (some 63))), (1, .inl (x1)), (2, .inl (x2)), (3, .inl (x3)), (4, .inl (x4)), (5, .inl (x5)), (6, .inl (x6))] [] 126 138 M (none, 126, 138, r)
  | 0, _, _, _, _, _, _, M, r, h => by cases h
  | n + 1, x1, x2, x3, x4, x5, x6, M, r, h => by
    have ih := Search_goOn_63_49_t (L := L) (xs := xs) hd rc167 hrc167   n
    refine ev_k (pc' := 55) (ls' := [(0, .inr (.inr (some 63))), (1, .inl (x1)), (2, .inl (x2)), (3, .inl (x3)), (4, .inl (x4)), (5, .inl (x5)), (6, .inl (x6))]) (st' := [.inl (M 63 2), .inl (x6)]) (nc' := 126) (np' := 138) (M' := M) 3 rfl ?_
    obtain ⟨hR, ⟨hc, h⟩ | ⟨hc, h⟩⟩ := c_ge_i h
    · refine ev_icmp 139 rfl hR.1 hR.2 (by decide) (fun _ => ?_) (fun q => absurd hc q)
      exact Search_goOn_63_139_t hd rc167 hrc167    M r h
    · refine ev_icmp 139 rfl hR.1 hR.2 (by decide) (fun q => absurd q hc) (fun _ => ?_)
      refine ev_k (pc' := 62) (ls' := [(0, .inr (.inr (some 63))), (1, .inl (x1)), (2, .inl (x2)), (3, .inl (x3)), (4, .inl (x4)), (5, .inl (x5)), (6, .inl (x6))]) (st' := [.inl (6), .inl (x6)]) (nc' := 126) (np' := 138) (M' := M) 2 rfl ?_
      obtain ⟨hR, ⟨hc, h⟩ | ⟨hc, h⟩⟩ := c_ge_i h
      · refine ev_icmp 139 rfl hR.1 hR.2 (by decide) (fun _ => ?_) (fun q => absurd hc q)
        exact Search_goOn_63_139_t hd rc167 hrc167    M r h
      · refine ev_icmp 139 rfl hR.1 hR.2 (by decide) (fun q => absurd q hc) (fun _ => ?_)
        refine ev_k (pc' := 71) (ls' := [(0, .inr (.inr (some 63))), (1, .inl (x1)), (2, .inl (x2)), (3, .inl (x3)), (4, .inl (x4)), (5, .inl (x5)), (6, .inl (x6))]) (st' := [.inl (b_and (b_shr (x2) (x6)) (1))]) (nc' := 126) (np' := 138) (M' := M) 5 rfl ?_
        obtain ⟨hR, ⟨hc, h⟩ | ⟨hc, h⟩⟩ := c_ne_i h
        · refine ev_ifc 133 rfl hR.1 (by decide) (fun _ => ?_) (fun q => absurd hc q)
          exact Search_goOn_63_133_t hd rc167 hrc167 (Search_goOn_63_49  rc167  n) ih (x1) (x2) (x3) (x4) (x5) (x6) M r h
        · refine ev_ifc 133 rfl hR.1 (by decide) (fun q => absurd q hc) (fun _ => ?_)
          refine ev_k (pc' := 81) (ls' := [(0, .inr (.inr (some 63))), (1, .inl (x1)), (2, .inl (x2)), (3, .inl (x3)), (4, .inl (x4)), (5, .inl (x5)), (6, .inl (x6))]) (st' := [.inl (x6), .inl (x1), .inr (.inr (some 66))]) (nc' := 126) (np' := 138) (M' := M) 4 rfl ?_
          obtain ⟨hc, M1, eM, h⟩ := wa_i h
          refine ev_iast (k := 66) rfl (by decide) rfl hc eM ?_
          refine ev_k (pc' := 91) (ls' := [(0, .inr (.inr (some 63))), (1, .inl (x1)), (2, .inl (x2)), (3, .inl (x3)), (4, .inl (x4)), (5, .inl (x5)), (6, .inl (x6))]) (st' := [.inl (x6), .inr (.inr (some 64)), .inl (x3), .inl (x4)]) (nc' := 126) (np' := 138) (M' := M1) 5 rfl ?_
          obtain ⟨hc, v2, ev, h⟩ := rd_i h
          refine ev_ald (k := 64) (t := 0) (Or.inl ⟨rfl, rfl⟩) rfl (by decide) (by decide) rfl hc ev ?_
          refine ev_k (pc' := 92) (ls' := [(0, .inr (.inr (some 63))), (1, .inl (x1)), (2, .inl (x2)), (3, .inl (x3)), (4, .inl (x4)), (5, .inl (x5)), (6, .inl (x6))]) (st' := [.inl (v2), .inl (x3), .inl (x4)]) (nc' := 126) (np' := 138) (M' := M1) 0 rfl ?_
          obtain ⟨v3, hv, h⟩ := ob_i h
          refine ev_call (t := 168) (as := [.inl (x3), .inl (v2)]) (rest := [.inl (x4)]) rfl rfl rfl (by omega) (Search_stepsBetween_e (by omega) (x3) (v2) M1 _ hv) ?_
          refine ev_k (pc' := 114) (ls' := [(7, .inl ((x4) + (v3))), (0, .inr (.inr (some 63))), (1, .inl (x1)), (2, .inl (x2)), (3, .inl (x3)), (4, .inl (x4)), (5, .inl (x5)), (6, .inl (x6))]) (st' := [.inl (x6), .inr (.inr (some 64)), .inl (b_or (x2) (b_shl (1) (x6))), .inl ((x1) + (1)), .inr (.inr (some 63))]) (nc' := 126) (np' := 138) (M' := M1) 14 rfl ?_
          obtain ⟨hc, v4, ev, h⟩ := rd_i h
          refine ev_ald (k := 64) (t := 0) (Or.inl ⟨rfl, rfl⟩) rfl (by decide) (by decide) rfl hc ev ?_
          refine ev_k (pc' := 125) (ls' := [(7, .inl ((x4) + (v3))), (0, .inr (.inr (some 63))), (1, .inl (x1)), (2, .inl (x2)), (3, .inl (x3)), (4, .inl (x4)), (5, .inl (x5)), (6, .inl (x6))]) (st' := [.inl (x6), .inr (.inr (some 65)), .inl (x5), .inl ((x4) + (v3)), .inl (v4), .inl (b_or (x2) (b_shl (1) (x6))), .inl ((x1) + (1)), .inr (.inr (some 63))]) (nc' := 126) (np' := 138) (M' := M1) 5 rfl ?_
          obtain ⟨hc, v5, ev, h⟩ := rd_i h
          refine ev_ald (k := 65) (t := 0) (Or.inl ⟨rfl, rfl⟩) rfl (by decide) (by decide) rfl hc ev ?_
          refine ev_k (pc' := 130) (ls' := [(7, .inl ((x4) + (v3))), (0, .inr (.inr (some 63))), (1, .inl (x1)), (2, .inl (x2)), (3, .inl (x3)), (4, .inl (x4)), (5, .inl (x5)), (6, .inl (x6))]) (st' := [.inl ((x5) + ((v5) * ((x4) + (v3)))), .inl ((x4) + (v3)), .inl (v4), .inl (b_or (x2) (b_shl (1) (x6))), .inl ((x1) + (1)), .inr (.inr (some 63))]) (nc' := 126) (np' := 138) (M' := M1) 3 rfl ?_
          obtain ⟨M6, hv, h⟩ := ob_i h
          refine ev_call (t := 167) (as := [.inr (.inr (some 63)), .inl ((x1) + (1)), .inl (b_or (x2) (b_shl (1) (x6))), .inl (v4), .inl ((x4) + (v3)), .inl ((x5) + ((v5) * ((x4) + (v3))))]) (rest := []) rfl rfl rfl (by omega) (hrc167 ((x1) + (1)) (b_or (x2) (b_shl (1) (x6))) (v4) ((x4) + (v3)) ((x5) + ((v5) * ((x4) + (v3)))) M1 _ hv) ?_
          exact Search_goOn_63_133_t hd rc167 hrc167 (Search_goOn_63_49  rc167  n) ih (x1) (x2) (x3) (x4) (x5) (x6) M6 r h
theorem Search_goOn_63_e {L : Nat} {xs : Nat → Int} {d : Nat} (hd : 2 ≤ d) (rc167 : Int → Int → Int → Int → Int → am_M → Option am_M) (hrc167 : ∀ (a0 : Int) (a1 : Int) (a2 : Int) (a3 : Int) (a4 : Int) (M : am_M) (r : am_M), rc167 a0 a1 a2 a3 a4 M = some r → am_Ev L xs (d - 1) me_167 0 (am_ar1 0 [.inr (.inr (some 63)), .inl (a0), .inl (a1), .inl (a2), .inl (a3), .inl (a4)]) [] 126 138 M (none, 126, 138, r)) (x1 : Int) (x2 : Int) (x3 : Int) (x4 : Int) (x5 : Int) (M : am_M) (r : am_M) (h : Search_goOn_63  rc167 x1 x2 x3 x4 x5 M = some r) : am_Ev L xs d me_167 0 (am_ar1 0 [.inr (.inr (some 63)), .inl (x1), .inl (x2), .inl (x3), .inl (x4), .inl (x5)]) [] 126 138 M (none, 126, 138, r) := by
  refine ev_k (pc' := 6) (ls' := [(0, .inr (.inr (some 63))), (1, .inl (x1)), (2, .inl (x2)), (3, .inl (x3)), (4, .inl (x4)), (5, .inl (x5))]) (st' := [.inl (M 63 5), .inl (x5)]) (nc' := 126) (np' := 138) (M' := M) 3 rfl ?_
  obtain ⟨hR, ⟨hc, h⟩ | ⟨hc, h⟩⟩ := c_lt_i h
  · refine ev_icmp 10 rfl hR.1 hR.2 (by decide) (fun _ => ?_) (fun q => absurd hc q)
    refine ev_k (pc' := 15) (ls' := [(0, .inr (.inr (some 63))), (1, .inl (x1)), (2, .inl (x2)), (3, .inl (x3)), (4, .inl (x4)), (5, .inl (x5))]) (st' := [.inl (M 63 2), .inl (x1)]) (nc' := 126) (np' := 138) (M' := M) 3 rfl ?_
    obtain ⟨hR, ⟨hc, h⟩ | ⟨hc, h⟩⟩ := c_ge_i h
    · refine ev_icmp 24 rfl hR.1 hR.2 (by decide) (fun _ => ?_) (fun q => absurd hc q)
      exact Search_goOn_63_24_t hd rc167 hrc167   (x5) M r h
    · refine ev_icmp 24 rfl hR.1 hR.2 (by decide) (fun q => absurd q hc) (fun _ => ?_)
      refine ev_k (pc' := 21) (ls' := [(0, .inr (.inr (some 63))), (1, .inl (x1)), (2, .inl (x2)), (3, .inl (x3)), (4, .inl (x4)), (5, .inl (x5))]) (st' := [.inl (6), .inl (x1)]) (nc' := 126) (np' := 138) (M' := M) 2 rfl ?_
      obtain ⟨hR, ⟨hc, h⟩ | ⟨hc, h⟩⟩ := c_lt_i h
      · refine ev_icmp 46 rfl hR.1 hR.2 (by decide) (fun _ => ?_) (fun q => absurd hc q)
        refine ev_k (pc' := 49) (ls' := [(0, .inr (.inr (some 63))), (1, .inl (x1)), (2, .inl (x2)), (3, .inl (x3)), (4, .inl (x4)), (5, .inl (x5)), (6, .inl (0))]) (st' := []) (nc' := 126) (np' := 138) (M' := M) 2 rfl ?_
        exact Search_goOn_63_49_t hd rc167 hrc167   am_big (x1) (x2) (x3) (x4) (x5) (0) M r h
      · refine ev_icmp 46 rfl hR.1 hR.2 (by decide) (fun q => absurd q hc) (fun _ => ?_)
        exact Search_goOn_63_24_t hd rc167 hrc167   (x5) M r h
  · refine ev_icmp 10 rfl hR.1 hR.2 (by decide) (fun q => absurd q hc) (fun _ => ?_)
    refine ev_k (pc' := 9) (ls' := [(0, .inr (.inr (some 63))), (1, .inl (x1)), (2, .inl (x2)), (3, .inl (x3)), (4, .inl (x4)), (5, .inl (x5))]) (st' := []) (nc' := 126) (np' := 138) (M' := M) 0 rfl ?_
    cases h
    exact ev_ret rfl
def K_Search_goOn_R : Nat → Nat → Int → Int → Int → Int → Int →  am_M → Option am_M
  | 0, _, _, _, _, _, _, _ => none
  | n + 1, w, a0, a1, a2, a3, a4, M => match w with
    | _ => Search_goOn_63 (fun b0 b1 b2 b3 b4 M => K_Search_goOn_R n 0 b0 b1 b2 b3 b4 M) a0 a1 a2 a3 a4 M
def K_Search_goOn (a0 : Int) (a1 : Int) (a2 : Int) (a3 : Int) (a4 : Int) (M : am_M) : Option am_M := K_Search_goOn_R 40 0 a0 a1 a2 a3 a4 M
theorem K_Search_goOn_R_all {L : Nat} {xs : Nat → Int} : ∀ n : Nat, (∀ (d : Nat), 2 + n ≤ d → ∀ (a0 : Int) (a1 : Int) (a2 : Int) (a3 : Int) (a4 : Int) (M : am_M) (r : am_M), K_Search_goOn_R n 0 a0 a1 a2 a3 a4 M = some r → am_Ev L xs d me_167 0 (am_ar1 0 [.inr (.inr (some 63)), .inl (a0), .inl (a1), .inl (a2), .inl (a3), .inl (a4)]) [] 126 138 M (none, 126, 138, r))
  | 0 => fun d hd a0 a1 a2 a3 a4 M r h => (by cases h)
  | n + 1 => by
    have ih := K_Search_goOn_R_all (L := L) (xs := xs) n
    have ih167 := ih
    exact fun d hd a0 a1 a2 a3 a4 M r h => Search_goOn_63_e (by omega) _ (ih167 (d - 1) (by omega)) a0 a1 a2 a3 a4 M r h
theorem K_Search_goOn_e {L : Nat} {xs : Nat → Int} {d : Nat} (hd : 42 ≤ d) (a0 : Int) (a1 : Int) (a2 : Int) (a3 : Int) (a4 : Int) (M : am_M) (r : am_M) (h : K_Search_goOn a0 a1 a2 a3 a4 M = some r) : am_Ev L xs d me_167 0 (am_ar1 0 [.inr (.inr (some 63)), .inl (a0), .inl (a1), .inl (a2), .inl (a3), .inl (a4)]) [] 126 138 M (none, 126, 138, r) :=
  (K_Search_goOn_R_all (L := L) (xs := xs) 40) d (by omega) a0 a1 a2 a3 a4 M r h
def Search_findBest_63    (x1 : Int) (M : am_M) : Option (am_M) := fw M 63 5 (1000000000) fun M1 => ob (K_Search_goOn (0) (0) (x1) (0) (0) M1) fun M2 => some (M2)
theorem Search_findBest_63_e {L : Nat} {xs : Nat → Int} {d : Nat} (hd : 43 ≤ d)   (x1 : Int) (M : am_M) (r : am_M) (h : Search_findBest_63   x1 M = some r) : am_Ev L xs d me_166 0 (am_ar1 0 [.inr (.inr (some 63)), .inl (x1)]) [] 126 138 M (none, 126, 138, r) := by
  refine ev_k (pc' := 6) (ls' := [(0, .inr (.inr (some 63))), (1, .inl (x1))]) (st' := []) (nc' := 126) (np' := 138) (M' := am_up M 63 5 (1000000000)) 3 rfl ?_
  obtain ⟨M1, eM, h⟩ := fw_i h
  rw [← eM]
  refine ev_k (pc' := 12) (ls' := [(0, .inr (.inr (some 63))), (1, .inl (x1))]) (st' := [.inl (0), .inl (0), .inl (x1), .inl (0), .inl (0), .inr (.inr (some 63))]) (nc' := 126) (np' := 138) (M' := M1) 6 rfl ?_
  obtain ⟨M2, hv, h⟩ := ob_i h
  refine ev_call (t := 167) (as := [.inr (.inr (some 63)), .inl (0), .inl (0), .inl (x1), .inl (0), .inl (0)]) (rest := []) rfl rfl rfl (by omega) (K_Search_goOn_e (by omega) (0) (0) (x1) (0) (0) M1 _ hv) ?_
  refine ev_k (pc' := 15) (ls' := [(0, .inr (.inr (some 63))), (1, .inl (x1))]) (st' := []) (nc' := 126) (np' := 138) (M' := M2) 0 rfl ?_
  cases h
  exact ev_ret rfl
