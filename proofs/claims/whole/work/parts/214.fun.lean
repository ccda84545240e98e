def R_amount_10    (s0 : Int) (M : am_M) : Option (Int) := some (s0)
def R_amount    (x0 : Int) (M : am_M) : Option (Int) := c_ge (x0) (0)
       ((R_amount_10    (x0) M))
       ((R_amount_10    (-(x0)) M))
theorem R_amount_10_t {L : Nat} {xs : Nat → Int} {d : Nat} (hd : 0 ≤ d)     (s0 : Int) (M : am_M) (r : Int) (h : R_amount_10    s0 M = some r) : am_Ev L xs d me_246 10 [] [.inl (s0)] 126 138 M (some (.inl r), 126, 138, M) := by
  refine ev_k (pc' := 10) (ls' := []) (st' := [.inl (s0)]) (nc' := 126) (np' := 138) (M' := M) 0 rfl ?_
  cases h
  exact ev_ret rfl
theorem R_amount_e {L : Nat} {xs : Nat → Int} {d : Nat} (hd : 0 ≤ d)   (x0 : Int) (M : am_M) (r : Int) (h : R_amount   x0 M = some r) : am_Ev L xs d me_246 0 (am_ar1 0 [.inl (x0)]) [] 126 138 M (some (.inl r), 126, 138, M) := by
  refine ev_k (pc' := 1) (ls' := [(0, .inl (x0))]) (st' := [.inl (x0)]) (nc' := 126) (np' := 138) (M' := M) 1 rfl ?_
  obtain ⟨hR, ⟨hc, h⟩ | ⟨hc, h⟩⟩ := c_ge_i h
  · refine ev_ifc 9 rfl hR.1 (by decide) (fun _ => ?_) (fun q => absurd hc q)
    refine ev_k (pc' := 10) (ls' := []) (st' := [.inl (x0)]) (nc' := 126) (np' := 138) (M' := M) 1 rfl ?_
    exact R_amount_10_t hd     (x0) M r h
  · refine ev_ifc 9 rfl hR.1 (by decide) (fun q => absurd q hc) (fun _ => ?_)
    refine ev_k (pc' := 10) (ls' := []) (st' := [.inl (-(x0))]) (nc' := 126) (np' := 138) (M' := M) 3 rfl ?_
    exact R_amount_10_t hd     (-(x0)) M r h
def R_walking    (x1 : Int) (x2 : Int) (x3 : Int) (x4 : Int) (x5 : Int) (M : am_M) : Option (Int × am_M) := ob (R_standsReady (x1) (x2) (0) (0) (x3) (x4) (x5) M) fun M1 => oc (R_tells (118) (60) M1) fun v2 M3 => some (v2, M3)
theorem R_walking_e {L : Nat} {xs : Nat → Int} {d : Nat} (hd : 4 ≤ d)   (x1 : Int) (x2 : Int) (x3 : Int) (x4 : Int) (x5 : Int) (M : am_M) (r : Int × am_M) (h : R_walking   x1 x2 x3 x4 x5 M = some r) : am_Ev L xs d me_248 0 (am_ar1 0 [.inr (.inr (some 73)), .inl (x1), .inl (x2), .inl (x3), .inl (x4), .inl (x5)]) [] 126 138 M (some (.inl r.1), 126, 138, r.2) := by
  refine ev_k (pc' := 10) (ls' := [(0, .inr (.inr (some 73))), (1, .inl (x1)), (2, .inl (x2)), (3, .inl (x3)), (4, .inl (x4)), (5, .inl (x5))]) (st' := [.inl (x5), .inl (x4), .inl (x3), .inl (0), .inl (0), .inl (x2), .inl (x1), .inr (.inr (some 73))]) (nc' := 126) (np' := 138) (M' := M) 8 rfl ?_
  obtain ⟨M1, hv, h⟩ := ob_i h
  refine ev_call (t := 249) (as := [.inr (.inr (some 73)), .inl (x1), .inl (x2), .inl (0), .inl (0), .inl (x3), .inl (x4), .inl (x5)]) (rest := []) rfl rfl rfl (by omega) (R_standsReady_e (by omega) (x1) (x2) (0) (0) (x3) (x4) (x5) M _ hv) ?_
  refine ev_k (pc' := 18) (ls' := [(0, .inr (.inr (some 73))), (1, .inl (x1)), (2, .inl (x2)), (3, .inl (x3)), (4, .inl (x4)), (5, .inl (x5))]) (st' := [.inl (60), .inl (118), .inr (.inr (some 73))]) (nc' := 126) (np' := 138) (M' := M1) 3 rfl ?_
  obtain ⟨v2, M3, hv, h⟩ := oc_i h
  refine ev_call (t := 250) (as := [.inr (.inr (some 73)), .inl (118), .inl (60)]) (rest := []) rfl rfl rfl (by omega) (R_tells_e (by omega) (118) (60) M1 _ hv) ?_
  refine ev_k (pc' := 21) (ls' := [(0, .inr (.inr (some 73))), (1, .inl (x1)), (2, .inl (x2)), (3, .inl (x3)), (4, .inl (x4)), (5, .inl (x5))]) (st' := [.inl (v2)]) (nc' := 126) (np' := 138) (M' := M3) 0 rfl ?_
  cases h
  exact ev_ret rfl
def R_walkingTo_40    (s1 : Int) (s2 : Int) (s3 : Int) (s4 : Int) (M : am_M) : Option (Int × am_M) := oc (R_walking (s1) (s2) (s3) (s4) (M 73 45) M) fun v1 M2 => some (v1, M2)
def R_walkingTo    (x1 : Int) (x2 : Int) (M : am_M) : Option (Int × am_M) := rd M 95 100 (x1) fun v1 => rd M 75 144 (v1) fun v2 => rd M 96 100 (x1) fun v3 => rd M 97 100 (x1) fun v4 => rd M 98 100 (x1) fun v5 => c_le (b_and (v5) (x2)) (0)
       ((R_walkingTo_40    (v2) (v3) (v4) (0) M))
       ((R_walkingTo_40    (v2) (v3) (v4) (1) M))
theorem R_walkingTo_40_t {L : Nat} {xs : Nat → Int} {d : Nat} (hd : 5 ≤ d)     (s1 : Int) (s2 : Int) (s3 : Int) (s4 : Int) (M : am_M) (r : Int × am_M) (h : R_walkingTo_40    s1 s2 s3 s4 M = some r) : am_Ev L xs d me_247 40 [(0, .inr (.inr (some 73)))] [.inl (s4), .inl (s3), .inl (s2), .inl (s1), .inr (.inr (some 73))] 126 138 M (some (.inl r.1), 126, 138, r.2) := by
  refine ev_k (pc' := 44) (ls' := [(0, .inr (.inr (some 73)))]) (st' := [.inl (M 73 45), .inl (s4), .inl (s3), .inl (s2), .inl (s1), .inr (.inr (some 73))]) (nc' := 126) (np' := 138) (M' := M) 2 rfl ?_
  obtain ⟨v1, M2, hv, h⟩ := oc_i h
  refine ev_call (t := 248) (as := [.inr (.inr (some 73)), .inl (s1), .inl (s2), .inl (s3), .inl (s4), .inl (M 73 45)]) (rest := []) rfl rfl rfl (by omega) (R_walking_e (by omega) (s1) (s2) (s3) (s4) (M 73 45) M _ hv) ?_
  refine ev_k (pc' := 47) (ls' := [(0, .inr (.inr (some 73)))]) (st' := [.inl (v1)]) (nc' := 126) (np' := 138) (M' := M2) 0 rfl ?_
  cases h
  exact ev_ret rfl
theorem R_walkingTo_e {L : Nat} {xs : Nat → Int} {d : Nat} (hd : 5 ≤ d)   (x1 : Int) (x2 : Int) (M : am_M) (r : Int × am_M) (h : R_walkingTo   x1 x2 M = some r) : am_Ev L xs d me_247 0 (am_ar1 0 [.inr (.inr (some 73)), .inl (x1), .inl (x2)]) [] 126 138 M (some (.inl r.1), 126, 138, r.2) := by
  refine ev_k (pc' := 10) (ls' := [(0, .inr (.inr (some 73))), (1, .inl (x1)), (2, .inl (x2))]) (st' := [.inl (x1), .inr (.inr (some 95)), .inr (.inr (some 75)), .inr (.inr (some 73))]) (nc' := 126) (np' := 138) (M' := M) 6 rfl ?_
  obtain ⟨hc, v1, ev, h⟩ := rd_i h
  refine ev_ald (k := 95) (t := 0) (Or.inl ⟨rfl, rfl⟩) rfl (by decide) (by decide) rfl hc ev ?_
  refine ev_k (pc' := 11) (ls' := [(0, .inr (.inr (some 73))), (1, .inl (x1)), (2, .inl (x2))]) (st' := [.inl (v1), .inr (.inr (some 75)), .inr (.inr (some 73))]) (nc' := 126) (np' := 138) (M' := M) 0 rfl ?_
  obtain ⟨hc, v2, ev, h⟩ := rd_i h
  refine ev_ald (k := 75) (t := 0) (Or.inl ⟨rfl, rfl⟩) rfl (by decide) (by decide) rfl hc ev ?_
  refine ev_k (pc' := 17) (ls' := [(0, .inr (.inr (some 73))), (1, .inl (x1)), (2, .inl (x2))]) (st' := [.inl (x1), .inr (.inr (some 96)), .inl (v2), .inr (.inr (some 73))]) (nc' := 126) (np' := 138) (M' := M) 3 rfl ?_
  obtain ⟨hc, v3, ev, h⟩ := rd_i h
  refine ev_ald (k := 96) (t := 0) (Or.inl ⟨rfl, rfl⟩) rfl (by decide) (by decide) rfl hc ev ?_
  refine ev_k (pc' := 23) (ls' := [(0, .inr (.inr (some 73))), (1, .inl (x1)), (2, .inl (x2))]) (st' := [.inl (x1), .inr (.inr (some 97)), .inl (v3), .inl (v2), .inr (.inr (some 73))]) (nc' := 126) (np' := 138) (M' := M) 3 rfl ?_
  obtain ⟨hc, v4, ev, h⟩ := rd_i h
  refine ev_ald (k := 97) (t := 0) (Or.inl ⟨rfl, rfl⟩) rfl (by decide) (by decide) rfl hc ev ?_
  refine ev_k (pc' := 29) (ls' := [(0, .inr (.inr (some 73))), (1, .inl (x1)), (2, .inl (x2))]) (st' := [.inl (x1), .inr (.inr (some 98)), .inl (v4), .inl (v3), .inl (v2), .inr (.inr (some 73))]) (nc' := 126) (np' := 138) (M' := M) 3 rfl ?_
  obtain ⟨hc, v5, ev, h⟩ := rd_i h
  refine ev_ald (k := 98) (t := 0) (Or.inl ⟨rfl, rfl⟩) rfl (by decide) (by decide) rfl hc ev ?_
  refine ev_k (pc' := 32) (ls' := [(0, .inr (.inr (some 73))), (1, .inl (x1)), (2, .inl (x2))]) (st' := [.inl (b_and (v5) (x2)), .inl (v4), .inl (v3), .inl (v2), .inr (.inr (some 73))]) (nc' := 126) (np' := 138) (M' := M) 2 rfl ?_
  obtain ⟨hR, ⟨hc, h⟩ | ⟨hc, h⟩⟩ := c_le_i h
  · refine ev_ifc 39 rfl hR.1 (by decide) (fun _ => ?_) (fun q => absurd hc q)
    refine ev_k (pc' := 40) (ls' := [(0, .inr (.inr (some 73)))]) (st' := [.inl (0), .inl (v4), .inl (v3), .inl (v2), .inr (.inr (some 73))]) (nc' := 126) (np' := 138) (M' := M) 1 rfl ?_
    exact R_walkingTo_40_t hd     (v2) (v3) (v4) (0) M r h
  · refine ev_ifc 39 rfl hR.1 (by decide) (fun q => absurd q hc) (fun _ => ?_)
    refine ev_k (pc' := 40) (ls' := [(0, .inr (.inr (some 73)))]) (st' := [.inl (1), .inl (v4), .inl (v3), .inl (v2), .inr (.inr (some 73))]) (nc' := 126) (np' := 138) (M' := M) 2 rfl ?_
    exact R_walkingTo_40_t hd     (v2) (v3) (v4) (1) M r h
def R_goes_121     (M : am_M) : Option (am_M) := some (M)
def R_goes_75     (M : am_M) : Option (am_M) := some (M)
def R_goes_61    (x3 : Int) (s2 : Int) (s3 : Int) (M : am_M) : Option (am_M) := oc (R_walkingTo (s2) (s3) M) fun v1 M2 => oc (R_passes (v1) M2) fun v3 M4 => c_eq (v3) (0)
       (R_goes_75     M4)
       (fw M4 73 47 (x3) fun M5 => (R_goes_75     M5))
def R_goes    (x1 : Int) (M : am_M) : Option (am_M) := rd M 95 100 (M 73 47) fun v1 => ob (R_beside (v1) (x1) M) fun v2 => c_ne (v2) (-1)
       (rd M 100 144 (v2) fun v3 => c_eq (v3) (-1)
       (c_ne (M 73 47) ((M 73 46) - (1))
       (R_goes_121     M)
       (c_eq (M 73 41) (-1)
       (R_goes_121     M)
       (rd M 75 144 (v2) fun v4 => c_eq (v4) (3)
       (R_goes_121     M)
       (c_ge (M 73 46) (100)
       (R_goes_121     M)
       (ob (R_cuts (v2) M) fun M5 => (R_goes_121     M5))))))
       (ob (R_amount ((v3) - (M 73 47)) M) fun v6 => c_ne (v6) (1)
       (R_goes_75     M)
       (c_le (v3) (M 73 47)
       ((R_goes_61    (v3) (v3) (2) M))
       ((R_goes_61    (v3) (v3) (1) M)))))
       (some (M))
theorem R_goes_121_t {L : Nat} {xs : Nat → Int} {d : Nat} (hd : 6 ≤ d)      (M : am_M) (r : am_M) (h : R_goes_121     M = some r) : am_Ev L xs d me_245 121 [] [] 126 138 M (none, 126, 138, r) := by
  refine ev_k (pc' := 121) (ls' := []) (st' := []) (nc' := 126) (np' := 138) (M' := M) 0 rfl ?_
  cases h
  exact ev_ret rfl
theorem R_goes_75_t {L : Nat} {xs : Nat → Int} {d : Nat} (hd : 6 ≤ d)      (M : am_M) (r : am_M) (h : R_goes_75     M = some r) : am_Ev L xs d me_245 75 [] [] 126 138 M (none, 126, 138, r) := by
  refine ev_k (pc' := 75) (ls' := []) (st' := []) (nc' := 126) (np' := 138) (M' := M) 0 rfl ?_
  cases h
  exact ev_ret rfl
theorem R_goes_61_t {L : Nat} {xs : Nat → Int} {d : Nat} (hd : 6 ≤ d)     (x3 : Int) (s2 : Int) (s3 : Int) (M : am_M) (r : am_M) (h : R_goes_61    x3 s2 s3 M = some r) : am_Ev L xs d me_245 61 [(0, .inr (.inr (some 73))), (3, .inl (x3))] [.inl (s3), .inl (s2), .inr (.inr (some 73)), .inr (.inr (some 73))] 126 138 M (none, 126, 138, r) := by
  refine ev_k (pc' := 61) (ls' := [(0, .inr (.inr (some 73))), (3, .inl (x3))]) (st' := [.inl (s3), .inl (s2), .inr (.inr (some 73)), .inr (.inr (some 73))]) (nc' := 126) (np' := 138) (M' := M) 0 rfl ?_
  obtain ⟨v1, M2, hv, h⟩ := oc_i h
  refine ev_call (t := 247) (as := [.inr (.inr (some 73)), .inl (s2), .inl (s3)]) (rest := [.inr (.inr (some 73))]) rfl rfl rfl (by omega) (R_walkingTo_e (by omega) (s2) (s3) M _ hv) ?_
  refine ev_k (pc' := 64) (ls' := [(0, .inr (.inr (some 73))), (3, .inl (x3))]) (st' := [.inl (v1), .inr (.inr (some 73))]) (nc' := 126) (np' := 138) (M' := M2) 0 rfl ?_
  obtain ⟨v3, M4, hv, h⟩ := oc_i h
  refine ev_call (t := 256) (as := [.inr (.inr (some 73)), .inl (v1)]) (rest := []) rfl rfl rfl (by omega) (R_passes_e (by omega) (v1) M2 _ hv) ?_
  refine ev_k (pc' := 67) (ls' := [(0, .inr (.inr (some 73))), (3, .inl (x3))]) (st' := [.inl (v3)]) (nc' := 126) (np' := 138) (M' := M4) 0 rfl ?_
  obtain ⟨hR, ⟨hc, h⟩ | ⟨hc, h⟩⟩ := c_eq_i h
  · refine ev_ifc 75 rfl hR.1 (by decide) (fun _ => ?_) (fun q => absurd hc q)
    exact R_goes_75_t hd      M4 r h
  · refine ev_ifc 75 rfl hR.1 (by decide) (fun q => absurd q hc) (fun _ => ?_)
    refine ev_k (pc' := 75) (ls' := []) (st' := []) (nc' := 126) (np' := 138) (M' := am_up M4 73 47 (x3)) 3 rfl ?_
    obtain ⟨M5, eM, h⟩ := fw_i h
    rw [← eM]
    exact R_goes_75_t hd      M5 r h
theorem R_goes_e {L : Nat} {xs : Nat → Int} {d : Nat} (hd : 6 ≤ d)   (x1 : Int) (M : am_M) (r : am_M) (h : R_goes   x1 M = some r) : am_Ev L xs d me_245 0 (am_ar1 0 [.inr (.inr (some 73)), .inl (x1)]) [] 126 138 M (none, 126, 138, r) := by
  refine ev_k (pc' := 8) (ls' := [(0, .inr (.inr (some 73))), (1, .inl (x1))]) (st' := [.inl (M 73 47), .inr (.inr (some 95))]) (nc' := 126) (np' := 138) (M' := M) 4 rfl ?_
  obtain ⟨hc, v1, ev, h⟩ := rd_i h
  refine ev_ald (k := 95) (t := 0) (Or.inl ⟨rfl, rfl⟩) rfl (by decide) (by decide) rfl hc ev ?_
  refine ev_k (pc' := 10) (ls' := [(0, .inr (.inr (some 73))), (1, .inl (x1))]) (st' := [.inl (x1), .inl (v1)]) (nc' := 126) (np' := 138) (M' := M) 1 rfl ?_
  obtain ⟨v2, hv, h⟩ := ob_i h
  refine ev_call (t := 233) (as := [.inl (v1), .inl (x1)]) (rest := []) rfl rfl rfl (by omega) (R_beside_e (by omega) (v1) (x1) M _ hv) ?_
  refine ev_k (pc' := 16) (ls' := [(2, .inl (v2)), (0, .inr (.inr (some 73))), (1, .inl (x1))]) (st' := [.inl (-1), .inl (v2)]) (nc' := 126) (np' := 138) (M' := M) 3 rfl ?_
  obtain ⟨hR, ⟨hc, h⟩ | ⟨hc, h⟩⟩ := c_ne_i h
  · refine ev_icmp 20 rfl hR.1 hR.2 (by decide) (fun _ => ?_) (fun q => absurd hc q)
    refine ev_k (pc' := 25) (ls' := [(2, .inl (v2)), (0, .inr (.inr (some 73))), (1, .inl (x1))]) (st' := [.inl (v2), .inr (.inr (some 100))]) (nc' := 126) (np' := 138) (M' := M) 3 rfl ?_
    obtain ⟨hc, v3, ev, h⟩ := rd_i h
    refine ev_ald (k := 100) (t := 0) (Or.inl ⟨rfl, rfl⟩) rfl (by decide) (by decide) rfl hc ev ?_
    refine ev_k (pc' := 29) (ls' := [(3, .inl (v3)), (2, .inl (v2)), (0, .inr (.inr (some 73))), (1, .inl (x1))]) (st' := [.inl (-1), .inl (v3)]) (nc' := 126) (np' := 138) (M' := M) 3 rfl ?_
    obtain ⟨hR, ⟨hc, h⟩ | ⟨hc, h⟩⟩ := c_eq_i h
    · refine ev_icmp 76 rfl hR.1 hR.2 (by decide) (fun _ => ?_) (fun q => absurd hc q)
      refine ev_k (pc' := 86) (ls' := [(3, .inl (v3)), (2, .inl (v2)), (0, .inr (.inr (some 73))), (1, .inl (x1))]) (st' := [.inl ((M 73 46) - (1)), .inl (M 73 47)]) (nc' := 126) (np' := 138) (M' := M) 6 rfl ?_
      obtain ⟨hR, ⟨hc, h⟩ | ⟨hc, h⟩⟩ := c_ne_i h
      · refine ev_icmp 121 rfl hR.1 hR.2 (by decide) (fun _ => ?_) (fun q => absurd hc q)
        exact R_goes_121_t hd      M r h
      · refine ev_icmp 121 rfl hR.1 hR.2 (by decide) (fun q => absurd q hc) (fun _ => ?_)
        refine ev_k (pc' := 94) (ls' := [(3, .inl (v3)), (2, .inl (v2)), (0, .inr (.inr (some 73))), (1, .inl (x1))]) (st' := [.inl (-1), .inl (M 73 41)]) (nc' := 126) (np' := 138) (M' := M) 3 rfl ?_
        obtain ⟨hR, ⟨hc, h⟩ | ⟨hc, h⟩⟩ := c_eq_i h
        · refine ev_icmp 121 rfl hR.1 hR.2 (by decide) (fun _ => ?_) (fun q => absurd hc q)
          exact R_goes_121_t hd      M r h
        · refine ev_icmp 121 rfl hR.1 hR.2 (by decide) (fun q => absurd q hc) (fun _ => ?_)
          refine ev_k (pc' := 102) (ls' := [(3, .inl (v3)), (2, .inl (v2)), (0, .inr (.inr (some 73))), (1, .inl (x1))]) (st' := [.inl (v2), .inr (.inr (some 75))]) (nc' := 126) (np' := 138) (M' := M) 3 rfl ?_
          obtain ⟨hc, v4, ev, h⟩ := rd_i h
          refine ev_ald (k := 75) (t := 0) (Or.inl ⟨rfl, rfl⟩) rfl (by decide) (by decide) rfl hc ev ?_
          refine ev_k (pc' := 104) (ls' := [(3, .inl (v3)), (2, .inl (v2)), (0, .inr (.inr (some 73))), (1, .inl (x1))]) (st' := [.inl (3), .inl (v4)]) (nc' := 126) (np' := 138) (M' := M) 1 rfl ?_
          obtain ⟨hR, ⟨hc, h⟩ | ⟨hc, h⟩⟩ := c_eq_i h
          · refine ev_icmp 121 rfl hR.1 hR.2 (by decide) (fun _ => ?_) (fun q => absurd hc q)
            exact R_goes_121_t hd      M r h
          · refine ev_icmp 121 rfl hR.1 hR.2 (by decide) (fun q => absurd q hc) (fun _ => ?_)
            refine ev_k (pc' := 113) (ls' := [(3, .inl (v3)), (2, .inl (v2)), (0, .inr (.inr (some 73))), (1, .inl (x1))]) (st' := [.inl (100), .inl (M 73 46)]) (nc' := 126) (np' := 138) (M' := M) 3 rfl ?_
            obtain ⟨hR, ⟨hc, h⟩ | ⟨hc, h⟩⟩ := c_ge_i h
            · refine ev_icmp 121 rfl hR.1 hR.2 (by decide) (fun _ => ?_) (fun q => absurd hc q)
              exact R_goes_121_t hd      M r h
            · refine ev_icmp 121 rfl hR.1 hR.2 (by decide) (fun q => absurd q hc) (fun _ => ?_)
              refine ev_k (pc' := 118) (ls' := [(3, .inl (v3)), (2, .inl (v2)), (0, .inr (.inr (some 73))), (1, .inl (x1))]) (st' := [.inl (v2), .inr (.inr (some 73))]) (nc' := 126) (np' := 138) (M' := M) 2 rfl ?_
              obtain ⟨M5, hv, h⟩ := ob_i h
              refine ev_call (t := 257) (as := [.inr (.inr (some 73)), .inl (v2)]) (rest := []) rfl rfl rfl (by omega) (R_cuts_e (by omega) (v2) M _ hv) ?_
              exact R_goes_121_t hd      M5 r h
    · refine ev_icmp 76 rfl hR.1 hR.2 (by decide) (fun q => absurd q hc) (fun _ => ?_)
      refine ev_k (pc' := 38) (ls' := [(3, .inl (v3)), (2, .inl (v2)), (0, .inr (.inr (some 73))), (1, .inl (x1))]) (st' := [.inl ((v3) - (M 73 47))]) (nc' := 126) (np' := 138) (M' := M) 4 rfl ?_
      obtain ⟨v6, hv, h⟩ := ob_i h
      refine ev_call (t := 246) (as := [.inl ((v3) - (M 73 47))]) (rest := []) rfl rfl rfl (by omega) (R_amount_e (by omega) ((v3) - (M 73 47)) M _ hv) ?_
      refine ev_k (pc' := 42) (ls' := [(3, .inl (v3)), (2, .inl (v2)), (0, .inr (.inr (some 73))), (1, .inl (x1))]) (st' := [.inl (1), .inl (v6)]) (nc' := 126) (np' := 138) (M' := M) 1 rfl ?_
      obtain ⟨hR, ⟨hc, h⟩ | ⟨hc, h⟩⟩ := c_ne_i h
      · refine ev_icmp 75 rfl hR.1 hR.2 (by decide) (fun _ => ?_) (fun q => absurd hc q)
        exact R_goes_75_t hd      M r h
      · refine ev_icmp 75 rfl hR.1 hR.2 (by decide) (fun q => absurd q hc) (fun _ => ?_)
        refine ev_k (pc' := 53) (ls' := [(3, .inl (v3)), (2, .inl (v2)), (0, .inr (.inr (some 73))), (1, .inl (x1))]) (st' := [.inl (M 73 47), .inl (v3), .inl (v3), .inr (.inr (some 73)), .inr (.inr (some 73))]) (nc' := 126) (np' := 138) (M' := M) 6 rfl ?_
        obtain ⟨hR, ⟨hc, h⟩ | ⟨hc, h⟩⟩ := c_le_i h
        · refine ev_icmp 60 rfl hR.1 hR.2 (by decide) (fun _ => ?_) (fun q => absurd hc q)
          refine ev_k (pc' := 61) (ls' := [(0, .inr (.inr (some 73))), (3, .inl (v3))]) (st' := [.inl (2), .inl (v3), .inr (.inr (some 73)), .inr (.inr (some 73))]) (nc' := 126) (np' := 138) (M' := M) 1 rfl ?_
          exact R_goes_61_t hd     (v3) (v3) (2) M r h
        · refine ev_icmp 60 rfl hR.1 hR.2 (by decide) (fun q => absurd q hc) (fun _ => ?_)
          refine ev_k (pc' := 61) (ls' := [(0, .inr (.inr (some 73))), (3, .inl (v3))]) (st' := [.inl (1), .inl (v3), .inr (.inr (some 73)), .inr (.inr (some 73))]) (nc' := 126) (np' := 138) (M' := M) 2 rfl ?_
          exact R_goes_61_t hd     (v3) (v3) (1) M r h
  · refine ev_icmp 20 rfl hR.1 hR.2 (by decide) (fun q => absurd q hc) (fun _ => ?_)
    refine ev_k (pc' := 19) (ls' := [(2, .inl (v2)), (0, .inr (.inr (some 73))), (1, .inl (x1))]) (st' := []) (nc' := 126) (np' := 138) (M' := M) 0 rfl ?_
    cases h
    exact ev_ret rfl
def R_doesAct_168     (M : am_M) : Option (am_M) := some (M)
def R_doesAct    (x1 : Int) (M : am_M) : Option (am_M) := ck (am_R (x1)) ((if (x1) = (43) then
       (ob (R_changes  M) fun M1 => (R_doesAct_168     M1)) else
       (if (x1) = (46) then
       (ob (R_rests  M) fun M2 => (R_doesAct_168     M2)) else
       (if (x1) = (98) then
       (ob (R_marks (2) M) fun M3 => (R_doesAct_168     M3)) else
       (if (x1) = (101) then
       (ob (R_goes (1) M) fun M4 => (R_doesAct_168     M4)) else
       (if (x1) = (110) then
       (ob (R_goes (0) M) fun M5 => (R_doesAct_168     M5)) else
       (if (x1) = (111) then
       (ob (R_marks (1) M) fun M6 => (R_doesAct_168     M6)) else
       (if (x1) = (115) then
       (ob (R_goes (2) M) fun M7 => (R_doesAct_168     M7)) else
       (if (x1) = (119) then
       (ob (R_goes (3) M) fun M8 => (R_doesAct_168     M8)) else
       (rd M 99 100 (M 73 47) fun v9 => c_ne (v9) (0)
       (R_doesAct_168     M)
       (oc (R_passes (1) M) fun v10 M11 => c_eq (v10) (0)
       (R_doesAct_168     M11)
       (wz M11 99 100 (M11 73 47) (1) fun M12 => (R_doesAct_168     M12)))))))))))))
theorem R_doesAct_168_t {L : Nat} {xs : Nat → Int} {d : Nat} (hd : 7 ≤ d)      (M : am_M) (r : am_M) (h : R_doesAct_168     M = some r) : am_Ev L xs d me_244 168 [] [] 126 138 M (none, 126, 138, r) := by
  refine ev_k (pc' := 168) (ls' := []) (st' := []) (nc' := 126) (np' := 138) (M' := M) 0 rfl ?_
  cases h
  exact ev_ret rfl
theorem R_doesAct_e {L : Nat} {xs : Nat → Int} {d : Nat} (hd : 7 ≤ d)   (x1 : Int) (M : am_M) (r : am_M) (h : R_doesAct   x1 M = some r) : am_Ev L xs d me_244 0 (am_ar1 0 [.inr (.inr (some 73)), .inl (x1)]) [] 126 138 M (none, 126, 138, r) := by
  refine ev_k (pc' := 1) (ls' := [(0, .inr (.inr (some 73))), (1, .inl (x1))]) (st' := [.inl (x1)]) (nc' := 126) (np' := 138) (M' := M) 1 rfl ?_
  obtain ⟨hR, h⟩ := ck_i h
  rcases if_i h with ⟨hq, h⟩ | ⟨hq0, h⟩
  · refine ev_lsw 115 rfl hR rfl (114) (by rw [hq]; rfl) (by decide) ?_
    refine ev_k (pc' := 116) (ls' := [(0, .inr (.inr (some 73))), (1, .inl (x1))]) (st' := [.inr (.inr (some 73))]) (nc' := 126) (np' := 138) (M' := M) 1 rfl ?_
    obtain ⟨M1, hv, h⟩ := ob_i h
    refine ev_call (t := 262) (as := [.inr (.inr (some 73))]) (rest := []) rfl rfl rfl (by omega) (R_changes_e (by omega)  M _ hv) ?_
    refine ev_k (pc' := 168) (ls' := []) (st' := []) (nc' := 126) (np' := 138) (M' := M1) 1 rfl ?_
    exact R_doesAct_168_t hd      M1 r h
  · skip
    rcases if_i h with ⟨hq, h⟩ | ⟨hq1, h⟩
    · refine ev_lsw 108 rfl hR rfl (107) (by rw [hq]; rfl) (by decide) ?_
      refine ev_k (pc' := 109) (ls' := [(0, .inr (.inr (some 73))), (1, .inl (x1))]) (st' := [.inr (.inr (some 73))]) (nc' := 126) (np' := 138) (M' := M) 1 rfl ?_
      obtain ⟨M2, hv, h⟩ := ob_i h
      refine ev_call (t := 260) (as := [.inr (.inr (some 73))]) (rest := []) rfl rfl rfl (by omega) (R_rests_e (by omega)  M _ hv) ?_
      refine ev_k (pc' := 168) (ls' := []) (st' := []) (nc' := 126) (np' := 138) (M' := M2) 1 rfl ?_
      exact R_doesAct_168_t hd      M2 r h
    · skip
      rcases if_i h with ⟨hq, h⟩ | ⟨hq2, h⟩
      · refine ev_lsw 130 rfl hR rfl (129) (by rw [hq]; rfl) (by decide) ?_
        refine ev_k (pc' := 132) (ls' := [(0, .inr (.inr (some 73))), (1, .inl (x1))]) (st' := [.inl (2), .inr (.inr (some 73))]) (nc' := 126) (np' := 138) (M' := M) 2 rfl ?_
        obtain ⟨M3, hv, h⟩ := ob_i h
        refine ev_call (t := 263) (as := [.inr (.inr (some 73)), .inl (2)]) (rest := []) rfl rfl rfl (by omega) (R_marks_e (by omega) (2) M _ hv) ?_
        refine ev_k (pc' := 168) (ls' := []) (st' := []) (nc' := 126) (np' := 138) (M' := M3) 1 rfl ?_
        exact R_doesAct_168_t hd      M3 r h
      · skip
        rcases if_i h with ⟨hq, h⟩ | ⟨hq3, h⟩
        · refine ev_lsw 84 rfl hR rfl (83) (by rw [hq]; rfl) (by decide) ?_
          refine ev_k (pc' := 86) (ls' := [(0, .inr (.inr (some 73))), (1, .inl (x1))]) (st' := [.inl (1), .inr (.inr (some 73))]) (nc' := 126) (np' := 138) (M' := M) 2 rfl ?_
          obtain ⟨M4, hv, h⟩ := ob_i h
          refine ev_call (t := 245) (as := [.inr (.inr (some 73)), .inl (1)]) (rest := []) rfl rfl rfl (by omega) (R_goes_e (by omega) (1) M _ hv) ?_
          refine ev_k (pc' := 168) (ls' := []) (st' := []) (nc' := 126) (np' := 138) (M' := M4) 1 rfl ?_
          exact R_doesAct_168_t hd      M4 r h
        · skip
          rcases if_i h with ⟨hq, h⟩ | ⟨hq4, h⟩
          · refine ev_lsw 76 rfl hR rfl (75) (by rw [hq]; rfl) (by decide) ?_
            refine ev_k (pc' := 78) (ls' := [(0, .inr (.inr (some 73))), (1, .inl (x1))]) (st' := [.inl (0), .inr (.inr (some 73))]) (nc' := 126) (np' := 138) (M' := M) 2 rfl ?_
            obtain ⟨M5, hv, h⟩ := ob_i h
            refine ev_call (t := 245) (as := [.inr (.inr (some 73)), .inl (0)]) (rest := []) rfl rfl rfl (by omega) (R_goes_e (by omega) (0) M _ hv) ?_
            refine ev_k (pc' := 168) (ls' := []) (st' := []) (nc' := 126) (np' := 138) (M' := M5) 1 rfl ?_
            exact R_doesAct_168_t hd      M5 r h
          · skip
            rcases if_i h with ⟨hq, h⟩ | ⟨hq5, h⟩
            · refine ev_lsw 122 rfl hR rfl (121) (by rw [hq]; rfl) (by decide) ?_
              refine ev_k (pc' := 124) (ls' := [(0, .inr (.inr (some 73))), (1, .inl (x1))]) (st' := [.inl (1), .inr (.inr (some 73))]) (nc' := 126) (np' := 138) (M' := M) 2 rfl ?_
              obtain ⟨M6, hv, h⟩ := ob_i h
              refine ev_call (t := 263) (as := [.inr (.inr (some 73)), .inl (1)]) (rest := []) rfl rfl rfl (by omega) (R_marks_e (by omega) (1) M _ hv) ?_
              refine ev_k (pc' := 168) (ls' := []) (st' := []) (nc' := 126) (np' := 138) (M' := M6) 1 rfl ?_
              exact R_doesAct_168_t hd      M6 r h
            · skip
              rcases if_i h with ⟨hq, h⟩ | ⟨hq6, h⟩
              · refine ev_lsw 92 rfl hR rfl (91) (by rw [hq]; rfl) (by decide) ?_
                refine ev_k (pc' := 94) (ls' := [(0, .inr (.inr (some 73))), (1, .inl (x1))]) (st' := [.inl (2), .inr (.inr (some 73))]) (nc' := 126) (np' := 138) (M' := M) 2 rfl ?_
                obtain ⟨M7, hv, h⟩ := ob_i h
                refine ev_call (t := 245) (as := [.inr (.inr (some 73)), .inl (2)]) (rest := []) rfl rfl rfl (by omega) (R_goes_e (by omega) (2) M _ hv) ?_
                refine ev_k (pc' := 168) (ls' := []) (st' := []) (nc' := 126) (np' := 138) (M' := M7) 1 rfl ?_
                exact R_doesAct_168_t hd      M7 r h
              · skip
                rcases if_i h with ⟨hq, h⟩ | ⟨hq7, h⟩
                · refine ev_lsw 100 rfl hR rfl (99) (by rw [hq]; rfl) (by decide) ?_
                  refine ev_k (pc' := 102) (ls' := [(0, .inr (.inr (some 73))), (1, .inl (x1))]) (st' := [.inl (3), .inr (.inr (some 73))]) (nc' := 126) (np' := 138) (M' := M) 2 rfl ?_
                  obtain ⟨M8, hv, h⟩ := ob_i h
                  refine ev_call (t := 245) (as := [.inr (.inr (some 73)), .inl (3)]) (rest := []) rfl rfl rfl (by omega) (R_goes_e (by omega) (3) M _ hv) ?_
                  refine ev_k (pc' := 168) (ls' := []) (st' := []) (nc' := 126) (np' := 138) (M' := M8) 1 rfl ?_
                  exact R_doesAct_168_t hd      M8 r h
                · skip
                  refine ev_lsw 138 rfl hR rfl (137) ?_ (by decide) ?_
                  · exact am_lsd _ _ _ (by simp only [List.forall_mem_cons, List.not_mem_nil]; exact ⟨hq0, hq1, hq2, hq3, hq4, hq5, hq6, hq7, by simp⟩)
                  · skip
                    refine ev_k (pc' := 146) (ls' := [(0, .inr (.inr (some 73))), (1, .inl (x1))]) (st' := [.inl (M 73 47), .inr (.inr (some 99))]) (nc' := 126) (np' := 138) (M' := M) 4 rfl ?_
                    obtain ⟨hc, v9, ev, h⟩ := rd_i h
                    refine ev_ald (k := 99) (t := 2) (Or.inr ⟨rfl, Or.inr rfl⟩) rfl (by decide) (by decide) rfl hc ev ?_
                    refine ev_k (pc' := 147) (ls' := [(0, .inr (.inr (some 73))), (1, .inl (x1))]) (st' := [.inl (v9)]) (nc' := 126) (np' := 138) (M' := M) 0 rfl ?_
                    obtain ⟨hR, ⟨hc, h⟩ | ⟨hc, h⟩⟩ := c_ne_i h
                    · refine ev_ifc 168 rfl hR.1 (by decide) (fun _ => ?_) (fun q => absurd hc q)
                      exact R_doesAct_168_t hd      M r h
                    · refine ev_ifc 168 rfl hR.1 (by decide) (fun q => absurd q hc) (fun _ => ?_)
                      refine ev_k (pc' := 152) (ls' := [(0, .inr (.inr (some 73))), (1, .inl (x1))]) (st' := [.inl (1), .inr (.inr (some 73))]) (nc' := 126) (np' := 138) (M' := M) 2 rfl ?_
                      obtain ⟨v10, M11, hv, h⟩ := oc_i h
                      refine ev_call (t := 256) (as := [.inr (.inr (some 73)), .inl (1)]) (rest := []) rfl rfl rfl (by omega) (R_passes_e (by omega) (1) M _ hv) ?_
                      refine ev_k (pc' := 155) (ls' := [(0, .inr (.inr (some 73))), (1, .inl (x1))]) (st' := [.inl (v10)]) (nc' := 126) (np' := 138) (M' := M11) 0 rfl ?_
                      obtain ⟨hR, ⟨hc, h⟩ | ⟨hc, h⟩⟩ := c_eq_i h
                      · refine ev_ifc 168 rfl hR.1 (by decide) (fun _ => ?_) (fun q => absurd hc q)
                        exact R_doesAct_168_t hd      M11 r h
                      · refine ev_ifc 168 rfl hR.1 (by decide) (fun q => absurd q hc) (fun _ => ?_)
                        refine ev_k (pc' := 167) (ls' := [(0, .inr (.inr (some 73))), (1, .inl (x1))]) (st' := [.inl (1), .inl (M11 73 47), .inr (.inr (some 99))]) (nc' := 126) (np' := 138) (M' := M11) 5 rfl ?_
                        obtain ⟨⟨hc, hv⟩, M12, eM, h⟩ := wz_i h
                        refine ev_zast (k := 99) rfl (by decide) rfl hc hv eM ?_
                        exact R_doesAct_168_t hd      M12 r h
def R_doesActs_72    (x2 : Int) (M : am_M) : Option (Int × am_M) := some ((M 73 44) - (x2), M)
def R_doesActs_65   (k20 : Int → Int → am_M → Option (Int × am_M)) (x1 : Int) (x2 : Int) (s1 : Int) (s2 : Int) (M : am_M) : Option (Int × am_M) := fw M 73 75 ((s1) + (s2)) fun M1 => (k20 (x1) (x2) M1)
def R_doesActs_20    : Nat → Int → Int → am_M → Option (Int × am_M)
  | 0, _, _, _ => none
  | n + 1, x1, x2, M => c_ge (M 73 75) (x1)
       (R_doesActs_72    (x2) M)
       (c_ne (M 73 76) (0)
       (R_doesActs_72    (x2) M)
       (rd M 113 90 (M 73 75) fun v1 => ob (R_doesAct (v1) M) fun M2 => c_eq (M2 73 76) (0)
       ((R_doesActs_65   (R_doesActs_20    n) (x1) (x2) (M2 73 75) (1) M2))
       ((R_doesActs_65   (R_doesActs_20    n) (x1) (x2) (M2 73 75) (0) M2))))
def R_doesActs    (x1 : Int) (M : am_M) : Option (Int × am_M) := fw M 73 74 (0) fun M1 => fw M1 73 75 (0) fun M2 => fz M2 73 76 (0) fun M3 => (R_doesActs_20    am_big (x1) (M 73 44) M3)
theorem R_doesActs_72_t {L : Nat} {xs : Nat → Int} {d : Nat} (hd : 8 ≤ d)     (x2 : Int) (M : am_M) (r : Int × am_M) (h : R_doesActs_72    x2 M = some r) : am_Ev L xs d me_243 72 [(0, .inr (.inr (some 73))), (2, .inl (x2))] [] 126 138 M (some (.inl r.1), 126, 138, r.2) := by
  refine ev_k (pc' := 78) (ls' := [(0, .inr (.inr (some 73))), (2, .inl (x2))]) (st' := [.inl ((M 73 44) - (x2))]) (nc' := 126) (np' := 138) (M' := M) 4 rfl ?_
  cases h
  exact ev_ret rfl
theorem R_doesActs_65_t {L : Nat} {xs : Nat → Int} {d : Nat} (hd : 8 ≤ d)   (k20 : Int → Int → am_M → Option (Int × am_M)) (hk20 : ∀ (x1 : Int) (x2 : Int) (M : am_M) (r : Int × am_M), k20 x1 x2 M = some r → am_Ev L xs d me_243 20 [(0, .inr (.inr (some 73))), (1, .inl (x1)), (2, .inl (x2))] [] 126 138 M (some (.inl r.1), 126, 138, r.2)) (x1 : Int) (x2 : Int) (s1 : Int) (s2 : Int) (M : am_M) (r : Int × am_M) (h : R_doesActs_65   k20 x1 x2 s1 s2 M = some r) : am_Ev L xs d me_243 65 [(0, .inr (.inr (some 73))), (1, .inl (x1)), (2, .inl (x2))] [.inl (s2), .inl (s1), .inr (.inr (some 73))] 126 138 M (some (.inl r.1), 126, 138, r.2) := by
  refine ev_k (pc' := 69) (ls' := [(0, .inr (.inr (some 73))), (1, .inl (x1)), (2, .inl (x2))]) (st' := []) (nc' := 126) (np' := 138) (M' := am_up M 73 75 ((s1) + (s2))) 2 rfl ?_
  obtain ⟨M1, eM, h⟩ := fw_i h
  rw [← eM]
  refine ev_k (pc' := 20) (ls' := [(0, .inr (.inr (some 73))), (1, .inl (x1)), (2, .inl (x2))]) (st' := []) (nc' := 126) (np' := 138) (M' := M1) 1 rfl ?_
  exact hk20 (x1) (x2) M1 r h
theorem R_doesActs_20_t {L : Nat} {xs : Nat → Int} {d : Nat} (hd : 8 ≤ d)     : ∀ (n : Nat) (x1 : Int) (x2 : Int) (M : am_M) (r : Int × am_M), R_doesActs_20    n x1 x2 M = some r → am_Ev L xs d me_243 20 [(0, .inr (.inr (some 73))), (1, .inl (x1)), (2, .inl (x2))] [] 126 138 M (some (.inl r.1), 126, 138, r.2)
  | 0, _, _, M, r, h => by cases h
  | n + 1, x1, x2, M, r, h => by
    have ih := R_doesActs_20_t (L := L) (xs := xs) hd     n
    refine ev_k (pc' := 25) (ls' := [(0, .inr (.inr (some 73))), (1, .inl (x1)), (2, .inl (x2))]) (st' := [.inl (x1), .inl (M 73 75)]) (nc' := 126) (np' := 138) (M' := M) 3 rfl ?_
    obtain ⟨hR, ⟨hc, h⟩ | ⟨hc, h⟩⟩ := c_ge_i h
    · refine ev_icmp 72 rfl hR.1 hR.2 (by decide) (fun _ => ?_) (fun q => absurd hc q)
      exact R_doesActs_72_t hd     (x2) M r h
    · refine ev_icmp 72 rfl hR.1 hR.2 (by decide) (fun q => absurd q hc) (fun _ => ?_)
      refine ev_k (pc' := 32) (ls' := [(0, .inr (.inr (some 73))), (1, .inl (x1)), (2, .inl (x2))]) (st' := [.inl (M 73 76)]) (nc' := 126) (np' := 138) (M' := M) 2 rfl ?_
      obtain ⟨hR, ⟨hc, h⟩ | ⟨hc, h⟩⟩ := c_ne_i h
      · refine ev_ifc 72 rfl hR.1 (by decide) (fun _ => ?_) (fun q => absurd hc q)
        exact R_doesActs_72_t hd     (x2) M r h
      · refine ev_ifc 72 rfl hR.1 (by decide) (fun q => absurd q hc) (fun _ => ?_)
        refine ev_k (pc' := 44) (ls' := [(0, .inr (.inr (some 73))), (1, .inl (x1)), (2, .inl (x2))]) (st' := [.inl (M 73 75), .inr (.inr (some 113)), .inr (.inr (some 73))]) (nc' := 126) (np' := 138) (M' := M) 5 rfl ?_
        obtain ⟨hc, v1, ev, h⟩ := rd_i h
        refine ev_ald (k := 113) (t := 0) (Or.inl ⟨rfl, rfl⟩) rfl (by decide) (by decide) rfl hc ev ?_
        refine ev_k (pc' := 45) (ls' := [(0, .inr (.inr (some 73))), (1, .inl (x1)), (2, .inl (x2))]) (st' := [.inl (v1), .inr (.inr (some 73))]) (nc' := 126) (np' := 138) (M' := M) 0 rfl ?_
        obtain ⟨M2, hv, h⟩ := ob_i h
        refine ev_call (t := 244) (as := [.inr (.inr (some 73)), .inl (v1)]) (rest := []) rfl rfl rfl (by omega) (R_doesAct_e (by omega) (v1) M _ hv) ?_
        refine ev_k (pc' := 57) (ls' := [(0, .inr (.inr (some 73))), (1, .inl (x1)), (2, .inl (x2))]) (st' := [.inl (M2 73 76), .inl (M2 73 75), .inr (.inr (some 73))]) (nc' := 126) (np' := 138) (M' := M2) 5 rfl ?_
        obtain ⟨hR, ⟨hc, h⟩ | ⟨hc, h⟩⟩ := c_eq_i h
        · refine ev_ifc 64 rfl hR.1 (by decide) (fun _ => ?_) (fun q => absurd hc q)
          refine ev_k (pc' := 65) (ls' := [(0, .inr (.inr (some 73))), (1, .inl (x1)), (2, .inl (x2))]) (st' := [.inl (1), .inl (M2 73 75), .inr (.inr (some 73))]) (nc' := 126) (np' := 138) (M' := M2) 1 rfl ?_
          exact R_doesActs_65_t hd   (R_doesActs_20    n) ih (x1) (x2) (M2 73 75) (1) M2 r h
        · refine ev_ifc 64 rfl hR.1 (by decide) (fun q => absurd q hc) (fun _ => ?_)
          refine ev_k (pc' := 65) (ls' := [(0, .inr (.inr (some 73))), (1, .inl (x1)), (2, .inl (x2))]) (st' := [.inl (0), .inl (M2 73 75), .inr (.inr (some 73))]) (nc' := 126) (np' := 138) (M' := M2) 2 rfl ?_
          exact R_doesActs_65_t hd   (R_doesActs_20    n) ih (x1) (x2) (M2 73 75) (0) M2 r h
theorem R_doesActs_e {L : Nat} {xs : Nat → Int} {d : Nat} (hd : 8 ≤ d)   (x1 : Int) (M : am_M) (r : Int × am_M) (h : R_doesActs   x1 M = some r) : am_Ev L xs d me_243 0 (am_ar1 0 [.inr (.inr (some 73)), .inl (x1)]) [] 126 138 M (some (.inl r.1), 126, 138, r.2) := by
  refine ev_k (pc' := 10) (ls' := [(2, .inl (M 73 44)), (0, .inr (.inr (some 73))), (1, .inl (x1))]) (st' := []) (nc' := 126) (np' := 138) (M' := am_up M 73 74 (0)) 6 rfl ?_
  obtain ⟨M1, eM, h⟩ := fw_i h
  rw [← eM]
  refine ev_k (pc' := 15) (ls' := [(2, .inl (M 73 44)), (0, .inr (.inr (some 73))), (1, .inl (x1))]) (st' := []) (nc' := 126) (np' := 138) (M' := am_up M1 73 75 (0)) 3 rfl ?_
  obtain ⟨M2, eM, h⟩ := fw_i h
  rw [← eM]
  refine ev_k (pc' := 17) (ls' := [(2, .inl (M 73 44)), (0, .inr (.inr (some 73))), (1, .inl (x1))]) (st' := [.inl (0), .inr (.inr (some 73))]) (nc' := 126) (np' := 138) (M' := M2) 2 rfl ?_
  obtain ⟨hc, M3, eM, h⟩ := fz_i h
  refine ev_putz (k := 73) (j := 76) rfl rfl (by decide) rfl rfl hc eM ?_
  exact R_doesActs_20_t hd     am_big (x1) (M 73 44) M3 r h
def R_orders_20     (M : am_M) : Option (Int × am_M) := some (-1, M)
def R_orders_45    (s0 : Int) (M : am_M) : Option (Int × am_M) := some (s0, M)
def R_orders    (x1 : Int) (M : am_M) : Option (Int × am_M) := ck (am_R (x1)) (ob (R_lies (x1) (1) (80) M) fun v1 => c_eq (v1) (0)
       (R_orders_20     M)
       (c_le (x1) (M 73 1)
       (oc (R_takesActs (x1) M) fun v2 M3 => c_eq (v2) (0)
       ((R_orders_45    (M3 73 5) M3))
       (oc (R_doesActs (M3 73 68) M3) fun v4 M5 => (R_orders_45    (v4) M5)))
       (R_orders_20     M)))
theorem R_orders_20_t {L : Nat} {xs : Nat → Int} {d : Nat} (hd : 9 ≤ d)      (M : am_M) (r : Int × am_M) (h : R_orders_20     M = some r) : am_Ev L xs d me_236 20 [] [] 126 138 M (some (.inl r.1), 126, 138, r.2) := by
  refine ev_k (pc' := 21) (ls' := []) (st' := [.inl (-1)]) (nc' := 126) (np' := 138) (M' := M) 1 rfl ?_
  cases h
  exact ev_ret rfl
theorem R_orders_45_t {L : Nat} {xs : Nat → Int} {d : Nat} (hd : 9 ≤ d)     (s0 : Int) (M : am_M) (r : Int × am_M) (h : R_orders_45    s0 M = some r) : am_Ev L xs d me_236 45 [] [.inl (s0)] 126 138 M (some (.inl r.1), 126, 138, r.2) := by
  refine ev_k (pc' := 45) (ls' := []) (st' := [.inl (s0)]) (nc' := 126) (np' := 138) (M' := M) 0 rfl ?_
  cases h
  exact ev_ret rfl
theorem R_orders_e {L : Nat} {xs : Nat → Int} {d : Nat} (hd : 9 ≤ d)   (x1 : Int) (M : am_M) (r : Int × am_M) (h : R_orders   x1 M = some r) : am_Ev L xs d me_236 0 (am_ar1 0 [.inr (.inr (some 73)), .inl (x1)]) [] 126 138 M (some (.inl r.1), 126, 138, r.2) := by
  refine ev_k (pc' := 1) (ls' := [(0, .inr (.inr (some 73))), (1, .inl (x1))]) (st' := [.inl (x1)]) (nc' := 126) (np' := 138) (M' := M) 1 rfl ?_
  obtain ⟨hc, h⟩ := ck_i h
  refine ev_i2l rfl hc ?_
  refine ev_k (pc' := 6) (ls' := [(0, .inr (.inr (some 73))), (1, .inl (x1))]) (st' := [.inr (.inl (80)), .inr (.inl (1)), .inr (.inl (x1))]) (nc' := 126) (np' := 138) (M' := M) 2 rfl ?_
  obtain ⟨v1, hv, h⟩ := ob_i h
  refine ev_call (t := 193) (as := [.inr (.inl (x1)), .inr (.inl (1)), .inr (.inl (80))]) (rest := []) rfl rfl rfl (by omega) (R_lies_e (by omega) (x1) (1) (80) M _ hv) ?_
  refine ev_k (pc' := 9) (ls' := [(0, .inr (.inr (some 73))), (1, .inl (x1))]) (st' := [.inl (v1)]) (nc' := 126) (np' := 138) (M' := M) 0 rfl ?_
  obtain ⟨hR, ⟨hc, h⟩ | ⟨hc, h⟩⟩ := c_eq_i h
  · refine ev_ifc 20 rfl hR.1 (by decide) (fun _ => ?_) (fun q => absurd hc q)
    exact R_orders_20_t hd      M r h
  · refine ev_ifc 20 rfl hR.1 (by decide) (fun q => absurd q hc) (fun _ => ?_)
    refine ev_k (pc' := 17) (ls' := [(0, .inr (.inr (some 73))), (1, .inl (x1))]) (st' := [.inl (M 73 1), .inl (x1)]) (nc' := 126) (np' := 138) (M' := M) 3 rfl ?_
    obtain ⟨hR, ⟨hc, h⟩ | ⟨hc, h⟩⟩ := c_le_i h
    · refine ev_icmp 22 rfl hR.1 hR.2 (by decide) (fun _ => ?_) (fun q => absurd hc q)
      refine ev_k (pc' := 24) (ls' := [(0, .inr (.inr (some 73))), (1, .inl (x1))]) (st' := [.inl (x1), .inr (.inr (some 73))]) (nc' := 126) (np' := 138) (M' := M) 2 rfl ?_
      obtain ⟨v2, M3, hv, h⟩ := oc_i h
      refine ev_call (t := 237) (as := [.inr (.inr (some 73)), .inl (x1)]) (rest := []) rfl rfl rfl (by omega) (R_takesActs_e (by omega) (x1) M _ hv) ?_
      refine ev_k (pc' := 27) (ls' := [(0, .inr (.inr (some 73))), (1, .inl (x1))]) (st' := [.inl (v2)]) (nc' := 126) (np' := 138) (M' := M3) 0 rfl ?_
      obtain ⟨hR, ⟨hc, h⟩ | ⟨hc, h⟩⟩ := c_eq_i h
      · refine ev_ifc 41 rfl hR.1 (by decide) (fun _ => ?_) (fun q => absurd hc q)
        refine ev_k (pc' := 45) (ls' := []) (st' := [.inl (M3 73 5)]) (nc' := 126) (np' := 138) (M' := M3) 2 rfl ?_
        exact R_orders_45_t hd     (M3 73 5) M3 r h
      · refine ev_ifc 41 rfl hR.1 (by decide) (fun q => absurd q hc) (fun _ => ?_)
        refine ev_k (pc' := 35) (ls' := [(0, .inr (.inr (some 73))), (1, .inl (x1))]) (st' := [.inl (M3 73 68), .inr (.inr (some 73))]) (nc' := 126) (np' := 138) (M' := M3) 3 rfl ?_
        obtain ⟨v4, M5, hv, h⟩ := oc_i h
        refine ev_call (t := 243) (as := [.inr (.inr (some 73)), .inl (M3 73 68)]) (rest := []) rfl rfl rfl (by omega) (R_doesActs_e (by omega) (M3 73 68) M3 _ hv) ?_
        refine ev_k (pc' := 45) (ls' := []) (st' := [.inl (v4)]) (nc' := 126) (np' := 138) (M' := M5) 1 rfl ?_
        exact R_orders_45_t hd     (v4) M5 r h
    · refine ev_icmp 22 rfl hR.1 hR.2 (by decide) (fun q => absurd q hc) (fun _ => ?_)
      exact R_orders_20_t hd      M r h
def R_laysAside_33    : Nat → Int → Int → am_M → Option (am_M)
  | 0, _, _, _ => none
  | n + 1, x1, x2, M => c_ge (x2) (M 73 46)
       (wa M 107 2 (x1) (M 73 46) fun M1 => wa M1 108 2 (x1) (M1 73 47) fun M2 => wa M2 109 2 (x1) (M2 73 41) fun M3 => wa M3 110 2 (x1) (M3 73 44) fun M4 => wa M4 111 2 (x1) (M4 73 45) fun M5 => wa M5 112 2 (x1) (M5 73 2) fun M6 => some (M6))
       (rd M 95 100 (x2) fun v7 => wa M 102 200 (((100) * (x1)) + (x2)) (v7) fun M8 => rd M8 96 100 (x2) fun v9 => wa M8 103 200 (((100) * (x1)) + (x2)) (v9) fun M10 => rd M10 97 100 (x2) fun v11 => wa M10 104 200 (((100) * (x1)) + (x2)) (v11) fun M12 => rd M12 98 100 (x2) fun v13 => wa M12 105 200 (((100) * (x1)) + (x2)) (v13) fun M14 => rd M14 99 100 (x2) fun v15 => wz M14 106 200 (((100) * (x1)) + (x2)) (v15) fun M16 => (R_laysAside_33    n (x1) ((x2) + (1)) M16))
def R_laysAside_2    : Nat → Int → Int → am_M → Option (am_M)
  | 0, _, _, _ => none
  | n + 1, x1, x2, M => c_ge (x2) (6)
       ((R_laysAside_33    am_big (x1) (0) M))
       (rd M 93 6 (x2) fun v1 => wa M 101 12 (((6) * (x1)) + (x2)) (v1) fun M2 => (R_laysAside_2    n (x1) ((x2) + (1)) M2))
def R_laysAside    (x1 : Int) (M : am_M) : Option (am_M) := (R_laysAside_2    am_big (x1) (0) M)
theorem R_laysAside_33_t {L : Nat} {xs : Nat → Int} {d : Nat} (hd : 0 ≤ d)     : ∀ (n : Nat) (x1 : Int) (x2 : Int) (M : am_M) (r : am_M), R_laysAside_33    n x1 x2 M = some r → am_Ev L xs d me_265 33 [(0, .inr (.inr (some 73))), (1, .inl (x1)), (2, .inl (x2))] [] 126 138 M (none, 126, 138, r)
  | 0, _, _, M, r, h => by cases h
  | n + 1, x1, x2, M, r, h => by
    have ih := R_laysAside_33_t (L := L) (xs := xs) hd     n
    refine ev_k (pc' := 38) (ls' := [(0, .inr (.inr (some 73))), (1, .inl (x1)), (2, .inl (x2))]) (st' := [.inl (M 73 46), .inl (x2)]) (nc' := 126) (np' := 138) (M' := M) 3 rfl ?_
    obtain ⟨hR, ⟨hc, h⟩ | ⟨hc, h⟩⟩ := c_ge_i h
    · refine ev_icmp 132 rfl hR.1 hR.2 (by decide) (fun _ => ?_) (fun q => absurd hc q)
      refine ev_k (pc' := 141) (ls' := [(0, .inr (.inr (some 73))), (1, .inl (x1)), (2, .inl (x2))]) (st' := [.inl (M 73 46), .inl (x1), .inr (.inr (some 107))]) (nc' := 126) (np' := 138) (M' := M) 5 rfl ?_
      obtain ⟨hc, M1, eM, h⟩ := wa_i h
      refine ev_iast (k := 107) rfl (by decide) rfl hc eM ?_
      refine ev_k (pc' := 151) (ls' := [(0, .inr (.inr (some 73))), (1, .inl (x1)), (2, .inl (x2))]) (st' := [.inl (M1 73 47), .inl (x1), .inr (.inr (some 108))]) (nc' := 126) (np' := 138) (M' := M1) 5 rfl ?_
      obtain ⟨hc, M2, eM, h⟩ := wa_i h
      refine ev_iast (k := 108) rfl (by decide) rfl hc eM ?_
      refine ev_k (pc' := 161) (ls' := [(0, .inr (.inr (some 73))), (1, .inl (x1)), (2, .inl (x2))]) (st' := [.inl (M2 73 41), .inl (x1), .inr (.inr (some 109))]) (nc' := 126) (np' := 138) (M' := M2) 5 rfl ?_
      obtain ⟨hc, M3, eM, h⟩ := wa_i h
      refine ev_iast (k := 109) rfl (by decide) rfl hc eM ?_
      refine ev_k (pc' := 171) (ls' := [(0, .inr (.inr (some 73))), (1, .inl (x1)), (2, .inl (x2))]) (st' := [.inl (M3 73 44), .inl (x1), .inr (.inr (some 110))]) (nc' := 126) (np' := 138) (M' := M3) 5 rfl ?_
      obtain ⟨hc, M4, eM, h⟩ := wa_i h
      refine ev_iast (k := 110) rfl (by decide) rfl hc eM ?_
      refine ev_k (pc' := 181) (ls' := [(0, .inr (.inr (some 73))), (1, .inl (x1)), (2, .inl (x2))]) (st' := [.inl (M4 73 45), .inl (x1), .inr (.inr (some 111))]) (nc' := 126) (np' := 138) (M' := M4) 5 rfl ?_
      obtain ⟨hc, M5, eM, h⟩ := wa_i h
      refine ev_iast (k := 111) rfl (by decide) rfl hc eM ?_
      refine ev_k (pc' := 191) (ls' := [(0, .inr (.inr (some 73))), (1, .inl (x1)), (2, .inl (x2))]) (st' := [.inl (M5 73 2), .inl (x1), .inr (.inr (some 112))]) (nc' := 126) (np' := 138) (M' := M5) 5 rfl ?_
      obtain ⟨hc, M6, eM, h⟩ := wa_i h
      refine ev_iast (k := 112) rfl (by decide) rfl hc eM ?_
      refine ev_k (pc' := 192) (ls' := [(0, .inr (.inr (some 73))), (1, .inl (x1)), (2, .inl (x2))]) (st' := []) (nc' := 126) (np' := 138) (M' := M6) 0 rfl ?_
      cases h
      exact ev_ret rfl
    · refine ev_icmp 132 rfl hR.1 hR.2 (by decide) (fun q => absurd q hc) (fun _ => ?_)
      refine ev_k (pc' := 56) (ls' := [(0, .inr (.inr (some 73))), (1, .inl (x1)), (2, .inl (x2))]) (st' := [.inl (x2), .inr (.inr (some 95)), .inl (((100) * (x1)) + (x2)), .inr (.inr (some 102))]) (nc' := 126) (np' := 138) (M' := M) 10 rfl ?_
      obtain ⟨hc, v7, ev, h⟩ := rd_i h
      refine ev_ald (k := 95) (t := 0) (Or.inl ⟨rfl, rfl⟩) rfl (by decide) (by decide) rfl hc ev ?_
      refine ev_k (pc' := 57) (ls' := [(0, .inr (.inr (some 73))), (1, .inl (x1)), (2, .inl (x2))]) (st' := [.inl (v7), .inl (((100) * (x1)) + (x2)), .inr (.inr (some 102))]) (nc' := 126) (np' := 138) (M' := M) 0 rfl ?_
      obtain ⟨hc, M8, eM, h⟩ := wa_i h
      refine ev_iast (k := 102) rfl (by decide) rfl hc eM ?_
      refine ev_k (pc' := 73) (ls' := [(0, .inr (.inr (some 73))), (1, .inl (x1)), (2, .inl (x2))]) (st' := [.inl (x2), .inr (.inr (some 96)), .inl (((100) * (x1)) + (x2)), .inr (.inr (some 103))]) (nc' := 126) (np' := 138) (M' := M8) 10 rfl ?_
      obtain ⟨hc, v9, ev, h⟩ := rd_i h
      refine ev_ald (k := 96) (t := 0) (Or.inl ⟨rfl, rfl⟩) rfl (by decide) (by decide) rfl hc ev ?_
      refine ev_k (pc' := 74) (ls' := [(0, .inr (.inr (some 73))), (1, .inl (x1)), (2, .inl (x2))]) (st' := [.inl (v9), .inl (((100) * (x1)) + (x2)), .inr (.inr (some 103))]) (nc' := 126) (np' := 138) (M' := M8) 0 rfl ?_
      obtain ⟨hc, M10, eM, h⟩ := wa_i h
      refine ev_iast (k := 103) rfl (by decide) rfl hc eM ?_
      refine ev_k (pc' := 90) (ls' := [(0, .inr (.inr (some 73))), (1, .inl (x1)), (2, .inl (x2))]) (st' := [.inl (x2), .inr (.inr (some 97)), .inl (((100) * (x1)) + (x2)), .inr (.inr (some 104))]) (nc' := 126) (np' := 138) (M' := M10) 10 rfl ?_
      obtain ⟨hc, v11, ev, h⟩ := rd_i h
      refine ev_ald (k := 97) (t := 0) (Or.inl ⟨rfl, rfl⟩) rfl (by decide) (by decide) rfl hc ev ?_
      refine ev_k (pc' := 91) (ls' := [(0, .inr (.inr (some 73))), (1, .inl (x1)), (2, .inl (x2))]) (st' := [.inl (v11), .inl (((100) * (x1)) + (x2)), .inr (.inr (some 104))]) (nc' := 126) (np' := 138) (M' := M10) 0 rfl ?_
      obtain ⟨hc, M12, eM, h⟩ := wa_i h
      refine ev_iast (k := 104) rfl (by decide) rfl hc eM ?_
      refine ev_k (pc' := 107) (ls' := [(0, .inr (.inr (some 73))), (1, .inl (x1)), (2, .inl (x2))]) (st' := [.inl (x2), .inr (.inr (some 98)), .inl (((100) * (x1)) + (x2)), .inr (.inr (some 105))]) (nc' := 126) (np' := 138) (M' := M12) 10 rfl ?_
      obtain ⟨hc, v13, ev, h⟩ := rd_i h
      refine ev_ald (k := 98) (t := 0) (Or.inl ⟨rfl, rfl⟩) rfl (by decide) (by decide) rfl hc ev ?_
      refine ev_k (pc' := 108) (ls' := [(0, .inr (.inr (some 73))), (1, .inl (x1)), (2, .inl (x2))]) (st' := [.inl (v13), .inl (((100) * (x1)) + (x2)), .inr (.inr (some 105))]) (nc' := 126) (np' := 138) (M' := M12) 0 rfl ?_
      obtain ⟨hc, M14, eM, h⟩ := wa_i h
      refine ev_iast (k := 105) rfl (by decide) rfl hc eM ?_
      refine ev_k (pc' := 124) (ls' := [(0, .inr (.inr (some 73))), (1, .inl (x1)), (2, .inl (x2))]) (st' := [.inl (x2), .inr (.inr (some 99)), .inl (((100) * (x1)) + (x2)), .inr (.inr (some 106))]) (nc' := 126) (np' := 138) (M' := M14) 10 rfl ?_
      obtain ⟨hc, v15, ev, h⟩ := rd_i h
      refine ev_ald (k := 99) (t := 2) (Or.inr ⟨rfl, Or.inr rfl⟩) rfl (by decide) (by decide) rfl hc ev ?_
      refine ev_k (pc' := 125) (ls' := [(0, .inr (.inr (some 73))), (1, .inl (x1)), (2, .inl (x2))]) (st' := [.inl (v15), .inl (((100) * (x1)) + (x2)), .inr (.inr (some 106))]) (nc' := 126) (np' := 138) (M' := M14) 0 rfl ?_
      obtain ⟨⟨hc, hv⟩, M16, eM, h⟩ := wz_i h
      refine ev_zast (k := 106) rfl (by decide) rfl hc hv eM ?_
      refine ev_k (pc' := 33) (ls' := [(0, .inr (.inr (some 73))), (1, .inl (x1)), (2, .inl ((x2) + (1)))]) (st' := []) (nc' := 126) (np' := 138) (M' := M16) 2 rfl ?_
      exact ih (x1) ((x2) + (1)) M16 r h
theorem R_laysAside_2_t {L : Nat} {xs : Nat → Int} {d : Nat} (hd : 0 ≤ d)     : ∀ (n : Nat) (x1 : Int) (x2 : Int) (M : am_M) (r : am_M), R_laysAside_2    n x1 x2 M = some r → am_Ev L xs d me_265 2 [(0, .inr (.inr (some 73))), (1, .inl (x1)), (2, .inl (x2))] [] 126 138 M (none, 126, 138, r)
  | 0, _, _, M, r, h => by cases h
  | n + 1, x1, x2, M, r, h => by
    have ih := R_laysAside_2_t (L := L) (xs := xs) hd     n
    refine ev_k (pc' := 5) (ls' := [(0, .inr (.inr (some 73))), (1, .inl (x1)), (2, .inl (x2))]) (st' := [.inl (6), .inl (x2)]) (nc' := 126) (np' := 138) (M' := M) 2 rfl ?_
    obtain ⟨hR, ⟨hc, h⟩ | ⟨hc, h⟩⟩ := c_ge_i h
    · refine ev_icmp 31 rfl hR.1 hR.2 (by decide) (fun _ => ?_) (fun q => absurd hc q)
      refine ev_k (pc' := 33) (ls' := [(0, .inr (.inr (some 73))), (1, .inl (x1)), (2, .inl (0))]) (st' := []) (nc' := 126) (np' := 138) (M' := M) 2 rfl ?_
      exact R_laysAside_33_t hd     am_big (x1) (0) M r h
    · refine ev_icmp 31 rfl hR.1 hR.2 (by decide) (fun q => absurd q hc) (fun _ => ?_)
      refine ev_k (pc' := 23) (ls' := [(0, .inr (.inr (some 73))), (1, .inl (x1)), (2, .inl (x2))]) (st' := [.inl (x2), .inr (.inr (some 93)), .inl (((6) * (x1)) + (x2)), .inr (.inr (some 101))]) (nc' := 126) (np' := 138) (M' := M) 10 rfl ?_
      obtain ⟨hc, v1, ev, h⟩ := rd_i h
      refine ev_ald (k := 93) (t := 0) (Or.inl ⟨rfl, rfl⟩) rfl (by decide) (by decide) rfl hc ev ?_
      refine ev_k (pc' := 24) (ls' := [(0, .inr (.inr (some 73))), (1, .inl (x1)), (2, .inl (x2))]) (st' := [.inl (v1), .inl (((6) * (x1)) + (x2)), .inr (.inr (some 101))]) (nc' := 126) (np' := 138) (M' := M) 0 rfl ?_
      obtain ⟨hc, M2, eM, h⟩ := wa_i h
      refine ev_iast (k := 101) rfl (by decide) rfl hc eM ?_
      refine ev_k (pc' := 2) (ls' := [(0, .inr (.inr (some 73))), (1, .inl (x1)), (2, .inl ((x2) + (1)))]) (st' := []) (nc' := 126) (np' := 138) (M' := M2) 2 rfl ?_
      exact ih (x1) ((x2) + (1)) M2 r h
theorem R_laysAside_e {L : Nat} {xs : Nat → Int} {d : Nat} (hd : 0 ≤ d)   (x1 : Int) (M : am_M) (r : am_M) (h : R_laysAside   x1 M = some r) : am_Ev L xs d me_265 0 (am_ar1 0 [.inr (.inr (some 73)), .inl (x1)]) [] 126 138 M (none, 126, 138, r) := by
  refine ev_k (pc' := 2) (ls' := [(0, .inr (.inr (some 73))), (1, .inl (x1)), (2, .inl (0))]) (st' := []) (nc' := 126) (np' := 138) (M' := M) 2 rfl ?_
  exact R_laysAside_2_t hd     am_big (x1) (0) M r h
def R_bringsBack_65    : Nat → Int → Int → am_M → Option (am_M)
  | 0, _, _, _ => none
  | n + 1, x1, x2, M => c_ge (x2) (M 73 46)
       (rd M 108 2 (x1) fun v1 => fw M 73 47 (v1) fun M2 => rd M2 109 2 (x1) fun v3 => fw M2 73 41 (v3) fun M4 => rd M4 110 2 (x1) fun v5 => fw M4 73 44 (v5) fun M6 => rd M6 111 2 (x1) fun v7 => fw M6 73 45 (v7) fun M8 => rd M8 112 2 (x1) fun v9 => fw M8 73 2 (v9) fun M10 => some (M10))
       (rd M 102 200 (((100) * (x1)) + (x2)) fun v11 => wa M 95 100 (x2) (v11) fun M12 => rd M12 103 200 (((100) * (x1)) + (x2)) fun v13 => wa M12 96 100 (x2) (v13) fun M14 => rd M14 104 200 (((100) * (x1)) + (x2)) fun v15 => wa M14 97 100 (x2) (v15) fun M16 => rd M16 105 200 (((100) * (x1)) + (x2)) fun v17 => wa M16 98 100 (x2) (v17) fun M18 => rd M18 106 200 (((100) * (x1)) + (x2)) fun v19 => wz M18 99 100 (x2) (v19) fun M20 => rd M20 95 100 (x2) fun v21 => wa M20 100 144 (v21) (x2) fun M22 => (R_bringsBack_65    n (x1) ((x2) + (1)) M22))
def R_bringsBack_33    : Nat → Int → Int → am_M → Option (am_M)
  | 0, _, _, _ => none
  | n + 1, x1, x2, M => c_ge (x2) (144)
       (rd M 107 2 (x1) fun v1 => fw M 73 46 (v1) fun M2 => (R_bringsBack_65    am_big (x1) (0) M2))
       (wa M 100 144 (x2) (-1) fun M3 => (R_bringsBack_33    n (x1) ((x2) + (1)) M3))
def R_bringsBack_2    : Nat → Int → Int → am_M → Option (am_M)
  | 0, _, _, _ => none
  | n + 1, x1, x2, M => c_ge (x2) (6)
       ((R_bringsBack_33    am_big (x1) (0) M))
       (rd M 101 12 (((6) * (x1)) + (x2)) fun v1 => wa M 93 6 (x2) (v1) fun M2 => (R_bringsBack_2    n (x1) ((x2) + (1)) M2))
def R_bringsBack    (x1 : Int) (M : am_M) : Option (am_M) := (R_bringsBack_2    am_big (x1) (0) M)
theorem R_bringsBack_65_t {L : Nat} {xs : Nat → Int} {d : Nat} (hd : 0 ≤ d)     : ∀ (n : Nat) (x1 : Int) (x2 : Int) (M : am_M) (r : am_M), R_bringsBack_65    n x1 x2 M = some r → am_Ev L xs d me_266 65 [(0, .inr (.inr (some 73))), (1, .inl (x1)), (2, .inl (x2))] [] 126 138 M (none, 126, 138, r)
  | 0, _, _, M, r, h => by cases h
  | n + 1, x1, x2, M, r, h => by
    have ih := R_bringsBack_65_t (L := L) (xs := xs) hd     n
    refine ev_k (pc' := 70) (ls' := [(0, .inr (.inr (some 73))), (1, .inl (x1)), (2, .inl (x2))]) (st' := [.inl (M 73 46), .inl (x2)]) (nc' := 126) (np' := 138) (M' := M) 3 rfl ?_
    obtain ⟨hR, ⟨hc, h⟩ | ⟨hc, h⟩⟩ := c_ge_i h
    · refine ev_icmp 176 rfl hR.1 hR.2 (by decide) (fun _ => ?_) (fun q => absurd hc q)
      refine ev_k (pc' := 182) (ls' := [(0, .inr (.inr (some 73))), (1, .inl (x1)), (2, .inl (x2))]) (st' := [.inl (x1), .inr (.inr (some 108)), .inr (.inr (some 73))]) (nc' := 126) (np' := 138) (M' := M) 4 rfl ?_
      obtain ⟨hc, v1, ev, h⟩ := rd_i h
      refine ev_ald (k := 108) (t := 0) (Or.inl ⟨rfl, rfl⟩) rfl (by decide) (by decide) rfl hc ev ?_
      refine ev_k (pc' := 186) (ls' := [(0, .inr (.inr (some 73))), (1, .inl (x1)), (2, .inl (x2))]) (st' := []) (nc' := 126) (np' := 138) (M' := am_up M 73 47 (v1)) 1 rfl ?_
      obtain ⟨M2, eM, h⟩ := fw_i h
      rw [← eM]
      refine ev_k (pc' := 192) (ls' := [(0, .inr (.inr (some 73))), (1, .inl (x1)), (2, .inl (x2))]) (st' := [.inl (x1), .inr (.inr (some 109)), .inr (.inr (some 73))]) (nc' := 126) (np' := 138) (M' := M2) 4 rfl ?_
      obtain ⟨hc, v3, ev, h⟩ := rd_i h
      refine ev_ald (k := 109) (t := 0) (Or.inl ⟨rfl, rfl⟩) rfl (by decide) (by decide) rfl hc ev ?_
      refine ev_k (pc' := 196) (ls' := [(0, .inr (.inr (some 73))), (1, .inl (x1)), (2, .inl (x2))]) (st' := []) (nc' := 126) (np' := 138) (M' := am_up M2 73 41 (v3)) 1 rfl ?_
      obtain ⟨M4, eM, h⟩ := fw_i h
      rw [← eM]
      refine ev_k (pc' := 202) (ls' := [(0, .inr (.inr (some 73))), (1, .inl (x1)), (2, .inl (x2))]) (st' := [.inl (x1), .inr (.inr (some 110)), .inr (.inr (some 73))]) (nc' := 126) (np' := 138) (M' := M4) 4 rfl ?_
      obtain ⟨hc, v5, ev, h⟩ := rd_i h
      refine ev_ald (k := 110) (t := 0) (Or.inl ⟨rfl, rfl⟩) rfl (by decide) (by decide) rfl hc ev ?_
      refine ev_k (pc' := 206) (ls' := [(0, .inr (.inr (some 73))), (1, .inl (x1)), (2, .inl (x2))]) (st' := []) (nc' := 126) (np' := 138) (M' := am_up M4 73 44 (v5)) 1 rfl ?_
      obtain ⟨M6, eM, h⟩ := fw_i h
      rw [← eM]
      refine ev_k (pc' := 212) (ls' := [(0, .inr (.inr (some 73))), (1, .inl (x1)), (2, .inl (x2))]) (st' := [.inl (x1), .inr (.inr (some 111)), .inr (.inr (some 73))]) (nc' := 126) (np' := 138) (M' := M6) 4 rfl ?_
      obtain ⟨hc, v7, ev, h⟩ := rd_i h
      refine ev_ald (k := 111) (t := 0) (Or.inl ⟨rfl, rfl⟩) rfl (by decide) (by decide) rfl hc ev ?_
      refine ev_k (pc' := 216) (ls' := [(0, .inr (.inr (some 73))), (1, .inl (x1)), (2, .inl (x2))]) (st' := []) (nc' := 126) (np' := 138) (M' := am_up M6 73 45 (v7)) 1 rfl ?_
      obtain ⟨M8, eM, h⟩ := fw_i h
      rw [← eM]
      refine ev_k (pc' := 222) (ls' := [(0, .inr (.inr (some 73))), (1, .inl (x1)), (2, .inl (x2))]) (st' := [.inl (x1), .inr (.inr (some 112)), .inr (.inr (some 73))]) (nc' := 126) (np' := 138) (M' := M8) 4 rfl ?_
      obtain ⟨hc, v9, ev, h⟩ := rd_i h
      refine ev_ald (k := 112) (t := 0) (Or.inl ⟨rfl, rfl⟩) rfl (by decide) (by decide) rfl hc ev ?_
      refine ev_k (pc' := 226) (ls' := [(0, .inr (.inr (some 73))), (1, .inl (x1)), (2, .inl (x2))]) (st' := []) (nc' := 126) (np' := 138) (M' := am_up M8 73 2 (v9)) 1 rfl ?_
      obtain ⟨M10, eM, h⟩ := fw_i h
      rw [← eM]
      refine ev_k (pc' := 226) (ls' := [(0, .inr (.inr (some 73))), (1, .inl (x1)), (2, .inl (x2))]) (st' := []) (nc' := 126) (np' := 138) (M' := M10) 0 rfl ?_
      cases h
      exact ev_ret rfl
    · refine ev_icmp 176 rfl hR.1 hR.2 (by decide) (fun q => absurd q hc) (fun _ => ?_)
      refine ev_k (pc' := 88) (ls' := [(0, .inr (.inr (some 73))), (1, .inl (x1)), (2, .inl (x2))]) (st' := [.inl (((100) * (x1)) + (x2)), .inr (.inr (some 102)), .inl (x2), .inr (.inr (some 95))]) (nc' := 126) (np' := 138) (M' := M) 10 rfl ?_
      obtain ⟨hc, v11, ev, h⟩ := rd_i h
      refine ev_ald (k := 102) (t := 0) (Or.inl ⟨rfl, rfl⟩) rfl (by decide) (by decide) rfl hc ev ?_
      refine ev_k (pc' := 89) (ls' := [(0, .inr (.inr (some 73))), (1, .inl (x1)), (2, .inl (x2))]) (st' := [.inl (v11), .inl (x2), .inr (.inr (some 95))]) (nc' := 126) (np' := 138) (M' := M) 0 rfl ?_
      obtain ⟨hc, M12, eM, h⟩ := wa_i h
      refine ev_iast (k := 95) rfl (by decide) rfl hc eM ?_
      refine ev_k (pc' := 105) (ls' := [(0, .inr (.inr (some 73))), (1, .inl (x1)), (2, .inl (x2))]) (st' := [.inl (((100) * (x1)) + (x2)), .inr (.inr (some 103)), .inl (x2), .inr (.inr (some 96))]) (nc' := 126) (np' := 138) (M' := M12) 10 rfl ?_
      obtain ⟨hc, v13, ev, h⟩ := rd_i h
      refine ev_ald (k := 103) (t := 0) (Or.inl ⟨rfl, rfl⟩) rfl (by decide) (by decide) rfl hc ev ?_
      refine ev_k (pc' := 106) (ls' := [(0, .inr (.inr (some 73))), (1, .inl (x1)), (2, .inl (x2))]) (st' := [.inl (v13), .inl (x2), .inr (.inr (some 96))]) (nc' := 126) (np' := 138) (M' := M12) 0 rfl ?_
      obtain ⟨hc, M14, eM, h⟩ := wa_i h
      refine ev_iast (k := 96) rfl (by decide) rfl hc eM ?_
      refine ev_k (pc' := 122) (ls' := [(0, .inr (.inr (some 73))), (1, .inl (x1)), (2, .inl (x2))]) (st' := [.inl (((100) * (x1)) + (x2)), .inr (.inr (some 104)), .inl (x2), .inr (.inr (some 97))]) (nc' := 126) (np' := 138) (M' := M14) 10 rfl ?_
      obtain ⟨hc, v15, ev, h⟩ := rd_i h
      refine ev_ald (k := 104) (t := 0) (Or.inl ⟨rfl, rfl⟩) rfl (by decide) (by decide) rfl hc ev ?_
      refine ev_k (pc' := 123) (ls' := [(0, .inr (.inr (some 73))), (1, .inl (x1)), (2, .inl (x2))]) (st' := [.inl (v15), .inl (x2), .inr (.inr (some 97))]) (nc' := 126) (np' := 138) (M' := M14) 0 rfl ?_
      obtain ⟨hc, M16, eM, h⟩ := wa_i h
      refine ev_iast (k := 97) rfl (by decide) rfl hc eM ?_
      refine ev_k (pc' := 139) (ls' := [(0, .inr (.inr (some 73))), (1, .inl (x1)), (2, .inl (x2))]) (st' := [.inl (((100) * (x1)) + (x2)), .inr (.inr (some 105)), .inl (x2), .inr (.inr (some 98))]) (nc' := 126) (np' := 138) (M' := M16) 10 rfl ?_
      obtain ⟨hc, v17, ev, h⟩ := rd_i h
      refine ev_ald (k := 105) (t := 0) (Or.inl ⟨rfl, rfl⟩) rfl (by decide) (by decide) rfl hc ev ?_
      refine ev_k (pc' := 140) (ls' := [(0, .inr (.inr (some 73))), (1, .inl (x1)), (2, .inl (x2))]) (st' := [.inl (v17), .inl (x2), .inr (.inr (some 98))]) (nc' := 126) (np' := 138) (M' := M16) 0 rfl ?_
      obtain ⟨hc, M18, eM, h⟩ := wa_i h
      refine ev_iast (k := 98) rfl (by decide) rfl hc eM ?_
      refine ev_k (pc' := 156) (ls' := [(0, .inr (.inr (some 73))), (1, .inl (x1)), (2, .inl (x2))]) (st' := [.inl (((100) * (x1)) + (x2)), .inr (.inr (some 106)), .inl (x2), .inr (.inr (some 99))]) (nc' := 126) (np' := 138) (M' := M18) 10 rfl ?_
      obtain ⟨hc, v19, ev, h⟩ := rd_i h
      refine ev_ald (k := 106) (t := 2) (Or.inr ⟨rfl, Or.inr rfl⟩) rfl (by decide) (by decide) rfl hc ev ?_
      refine ev_k (pc' := 157) (ls' := [(0, .inr (.inr (some 73))), (1, .inl (x1)), (2, .inl (x2))]) (st' := [.inl (v19), .inl (x2), .inr (.inr (some 99))]) (nc' := 126) (np' := 138) (M' := M18) 0 rfl ?_
      obtain ⟨⟨hc, hv⟩, M20, eM, h⟩ := wz_i h
      refine ev_zast (k := 99) rfl (by decide) rfl hc hv eM ?_
      refine ev_k (pc' := 167) (ls' := [(0, .inr (.inr (some 73))), (1, .inl (x1)), (2, .inl (x2))]) (st' := [.inl (x2), .inr (.inr (some 95)), .inr (.inr (some 100))]) (nc' := 126) (np' := 138) (M' := M20) 5 rfl ?_
      obtain ⟨hc, v21, ev, h⟩ := rd_i h
      refine ev_ald (k := 95) (t := 0) (Or.inl ⟨rfl, rfl⟩) rfl (by decide) (by decide) rfl hc ev ?_
      refine ev_k (pc' := 169) (ls' := [(0, .inr (.inr (some 73))), (1, .inl (x1)), (2, .inl (x2))]) (st' := [.inl (x2), .inl (v21), .inr (.inr (some 100))]) (nc' := 126) (np' := 138) (M' := M20) 1 rfl ?_
      obtain ⟨hc, M22, eM, h⟩ := wa_i h
      refine ev_iast (k := 100) rfl (by decide) rfl hc eM ?_
      refine ev_k (pc' := 65) (ls' := [(0, .inr (.inr (some 73))), (1, .inl (x1)), (2, .inl ((x2) + (1)))]) (st' := []) (nc' := 126) (np' := 138) (M' := M22) 2 rfl ?_
      exact ih (x1) ((x2) + (1)) M22 r h
theorem R_bringsBack_33_t {L : Nat} {xs : Nat → Int} {d : Nat} (hd : 0 ≤ d)     : ∀ (n : Nat) (x1 : Int) (x2 : Int) (M : am_M) (r : am_M), R_bringsBack_33    n x1 x2 M = some r → am_Ev L xs d me_266 33 [(0, .inr (.inr (some 73))), (1, .inl (x1)), (2, .inl (x2))] [] 126 138 M (none, 126, 138, r)
  | 0, _, _, M, r, h => by cases h
  | n + 1, x1, x2, M, r, h => by
    have ih := R_bringsBack_33_t (L := L) (xs := xs) hd     n
    refine ev_k (pc' := 37) (ls' := [(0, .inr (.inr (some 73))), (1, .inl (x1)), (2, .inl (x2))]) (st' := [.inl (144), .inl (x2)]) (nc' := 126) (np' := 138) (M' := M) 2 rfl ?_
    obtain ⟨hR, ⟨hc, h⟩ | ⟨hc, h⟩⟩ := c_ge_i h
    · refine ev_icmp 53 rfl hR.1 hR.2 (by decide) (fun _ => ?_) (fun q => absurd hc q)
      refine ev_k (pc' := 59) (ls' := [(0, .inr (.inr (some 73))), (1, .inl (x1)), (2, .inl (x2))]) (st' := [.inl (x1), .inr (.inr (some 107)), .inr (.inr (some 73))]) (nc' := 126) (np' := 138) (M' := M) 4 rfl ?_
      obtain ⟨hc, v1, ev, h⟩ := rd_i h
      refine ev_ald (k := 107) (t := 0) (Or.inl ⟨rfl, rfl⟩) rfl (by decide) (by decide) rfl hc ev ?_
      refine ev_k (pc' := 63) (ls' := [(0, .inr (.inr (some 73))), (1, .inl (x1)), (2, .inl (x2))]) (st' := []) (nc' := 126) (np' := 138) (M' := am_up M 73 46 (v1)) 1 rfl ?_
      obtain ⟨M2, eM, h⟩ := fw_i h
      rw [← eM]
      refine ev_k (pc' := 65) (ls' := [(0, .inr (.inr (some 73))), (1, .inl (x1)), (2, .inl (0))]) (st' := []) (nc' := 126) (np' := 138) (M' := M2) 2 rfl ?_
      exact R_bringsBack_65_t hd     am_big (x1) (0) M2 r h
    · refine ev_icmp 53 rfl hR.1 hR.2 (by decide) (fun q => absurd q hc) (fun _ => ?_)
      refine ev_k (pc' := 46) (ls' := [(0, .inr (.inr (some 73))), (1, .inl (x1)), (2, .inl (x2))]) (st' := [.inl (-1), .inl (x2), .inr (.inr (some 100))]) (nc' := 126) (np' := 138) (M' := M) 4 rfl ?_
      obtain ⟨hc, M3, eM, h⟩ := wa_i h
      refine ev_iast (k := 100) rfl (by decide) rfl hc eM ?_
      refine ev_k (pc' := 33) (ls' := [(0, .inr (.inr (some 73))), (1, .inl (x1)), (2, .inl ((x2) + (1)))]) (st' := []) (nc' := 126) (np' := 138) (M' := M3) 2 rfl ?_
      exact ih (x1) ((x2) + (1)) M3 r h
theorem R_bringsBack_2_t {L : Nat} {xs : Nat → Int} {d : Nat} (hd : 0 ≤ d)     : ∀ (n : Nat) (x1 : Int) (x2 : Int) (M : am_M) (r : am_M), R_bringsBack_2    n x1 x2 M = some r → am_Ev L xs d me_266 2 [(0, .inr (.inr (some 73))), (1, .inl (x1)), (2, .inl (x2))] [] 126 138 M (none, 126, 138, r)
  | 0, _, _, M, r, h => by cases h
  | n + 1, x1, x2, M, r, h => by
    have ih := R_bringsBack_2_t (L := L) (xs := xs) hd     n
    refine ev_k (pc' := 5) (ls' := [(0, .inr (.inr (some 73))), (1, .inl (x1)), (2, .inl (x2))]) (st' := [.inl (6), .inl (x2)]) (nc' := 126) (np' := 138) (M' := M) 2 rfl ?_
    obtain ⟨hR, ⟨hc, h⟩ | ⟨hc, h⟩⟩ := c_ge_i h
    · refine ev_icmp 31 rfl hR.1 hR.2 (by decide) (fun _ => ?_) (fun q => absurd hc q)
      refine ev_k (pc' := 33) (ls' := [(0, .inr (.inr (some 73))), (1, .inl (x1)), (2, .inl (0))]) (st' := []) (nc' := 126) (np' := 138) (M' := M) 2 rfl ?_
      exact R_bringsBack_33_t hd     am_big (x1) (0) M r h
    · refine ev_icmp 31 rfl hR.1 hR.2 (by decide) (fun q => absurd q hc) (fun _ => ?_)
      refine ev_k (pc' := 23) (ls' := [(0, .inr (.inr (some 73))), (1, .inl (x1)), (2, .inl (x2))]) (st' := [.inl (((6) * (x1)) + (x2)), .inr (.inr (some 101)), .inl (x2), .inr (.inr (some 93))]) (nc' := 126) (np' := 138) (M' := M) 10 rfl ?_
      obtain ⟨hc, v1, ev, h⟩ := rd_i h
      refine ev_ald (k := 101) (t := 0) (Or.inl ⟨rfl, rfl⟩) rfl (by decide) (by decide) rfl hc ev ?_
      refine ev_k (pc' := 24) (ls' := [(0, .inr (.inr (some 73))), (1, .inl (x1)), (2, .inl (x2))]) (st' := [.inl (v1), .inl (x2), .inr (.inr (some 93))]) (nc' := 126) (np' := 138) (M' := M) 0 rfl ?_
      obtain ⟨hc, M2, eM, h⟩ := wa_i h
      refine ev_iast (k := 93) rfl (by decide) rfl hc eM ?_
      refine ev_k (pc' := 2) (ls' := [(0, .inr (.inr (some 73))), (1, .inl (x1)), (2, .inl ((x2) + (1)))]) (st' := []) (nc' := 126) (np' := 138) (M' := M2) 2 rfl ?_
      exact ih (x1) ((x2) + (1)) M2 r h
theorem R_bringsBack_e {L : Nat} {xs : Nat → Int} {d : Nat} (hd : 0 ≤ d)   (x1 : Int) (M : am_M) (r : am_M) (h : R_bringsBack   x1 M = some r) : am_Ev L xs d me_266 0 (am_ar1 0 [.inr (.inr (some 73)), .inl (x1)]) [] 126 138 M (none, 126, 138, r) := by
  refine ev_k (pc' := 2) (ls' := [(0, .inr (.inr (some 73))), (1, .inl (x1)), (2, .inl (0))]) (st' := []) (nc' := 126) (np' := 138) (M' := M) 2 rfl ?_
  exact R_bringsBack_2_t hd     am_big (x1) (0) M r h
def R_tried_32     (M : am_M) : Option (Int × am_M) := some (-1, M)
def R_tried_175    (x4 : Int) (M : am_M) : Option (Int × am_M) := ob (R_bringsBack (0) M) fun M1 => some (x4, M1)
def R_tried_156    (s0 : Int) (M : am_M) : Option (Int × am_M) := (R_tried_175    (s0) M)
def R_tried_173    (s0 : Int) (M : am_M) : Option (Int × am_M) := (R_tried_175    (s0) M)
def R_tried    (x1 : Int) (x2 : Int) (M : am_M) : Option (Int × am_M) := ck (am_R (x1)) (ob (R_lies (x1) (1) (80) M) fun v1 => c_eq (v1) (0)
       (R_tried_32     M)
       (ck (am_R (x2)) (ob (R_lies (x2) (0) (5) M) fun v2 => c_eq (v2) (0)
       (R_tried_32     M)
       (c_le (x1) (M 73 1)
       (oc (R_takesActs (x1) M) fun v3 M4 => c_ne (v3) (0)
       (ob (R_laysAside (0) M4) fun M5 => oc (R_doesActs (M5 73 68) M5) fun v6 M7 => ck (am_R (x2)) ((if (x2) = (0) then
       ((R_tried_175    (v6) M7)) else
       (if (x2) = (1) then
       ((R_tried_175    (M7 73 74) M7)) else
       (if (x2) = (2) then
       ((R_tried_175    (M7 73 75) M7)) else
       (if (x2) = (3) then
       (rd M7 95 100 (M7 73 47) fun v8 => (R_tried_175    (v8) M7)) else
       (if (x2) = (4) then
       (c_ne (M7 73 41) (-1)
       (rd M7 93 6 (M7 73 41) fun v9 => (R_tried_156    (v9) M7))
       ((R_tried_156    (-2) M7))) else
       (c_eq (M7 73 76) (0)
       ((R_tried_173    (0) M7))
       ((R_tried_173    (1) M7))))))))))
       (some (M4 73 5, M4)))
       (R_tried_32     M)))))
theorem R_tried_32_t {L : Nat} {xs : Nat → Int} {d : Nat} (hd : 9 ≤ d)      (M : am_M) (r : Int × am_M) (h : R_tried_32     M = some r) : am_Ev L xs d me_264 32 [] [] 126 138 M (some (.inl r.1), 126, 138, r.2) := by
  refine ev_k (pc' := 33) (ls' := []) (st' := [.inl (-1)]) (nc' := 126) (np' := 138) (M' := M) 1 rfl ?_
  cases h
  exact ev_ret rfl
theorem R_tried_175_t {L : Nat} {xs : Nat → Int} {d : Nat} (hd : 9 ≤ d)     (x4 : Int) (M : am_M) (r : Int × am_M) (h : R_tried_175    x4 M = some r) : am_Ev L xs d me_264 175 [(0, .inr (.inr (some 73))), (4, .inl (x4))] [] 126 138 M (some (.inl r.1), 126, 138, r.2) := by
  refine ev_k (pc' := 177) (ls' := [(0, .inr (.inr (some 73))), (4, .inl (x4))]) (st' := [.inl (0), .inr (.inr (some 73))]) (nc' := 126) (np' := 138) (M' := M) 2 rfl ?_
  obtain ⟨M1, hv, h⟩ := ob_i h
  refine ev_call (t := 266) (as := [.inr (.inr (some 73)), .inl (0)]) (rest := []) rfl rfl rfl (by omega) (R_bringsBack_e (by omega) (0) M _ hv) ?_
  refine ev_k (pc' := 182) (ls' := [(0, .inr (.inr (some 73))), (4, .inl (x4))]) (st' := [.inl (x4)]) (nc' := 126) (np' := 138) (M' := M1) 1 rfl ?_
  cases h
  exact ev_ret rfl
theorem R_tried_156_t {L : Nat} {xs : Nat → Int} {d : Nat} (hd : 9 ≤ d)     (s0 : Int) (M : am_M) (r : Int × am_M) (h : R_tried_156    s0 M = some r) : am_Ev L xs d me_264 156 [(0, .inr (.inr (some 73)))] [.inl (s0)] 126 138 M (some (.inl r.1), 126, 138, r.2) := by
  refine ev_k (pc' := 175) (ls' := [(0, .inr (.inr (some 73))), (4, .inl (s0))]) (st' := []) (nc' := 126) (np' := 138) (M' := M) 2 rfl ?_
  exact R_tried_175_t hd     (s0) M r h
theorem R_tried_173_t {L : Nat} {xs : Nat → Int} {d : Nat} (hd : 9 ≤ d)     (s0 : Int) (M : am_M) (r : Int × am_M) (h : R_tried_173    s0 M = some r) : am_Ev L xs d me_264 173 [(0, .inr (.inr (some 73)))] [.inl (s0)] 126 138 M (some (.inl r.1), 126, 138, r.2) := by
  refine ev_k (pc' := 175) (ls' := [(0, .inr (.inr (some 73))), (4, .inl (s0))]) (st' := []) (nc' := 126) (np' := 138) (M' := M) 1 rfl ?_
  exact R_tried_175_t hd     (s0) M r h
theorem R_tried_e {L : Nat} {xs : Nat → Int} {d : Nat} (hd : 9 ≤ d)   (x1 : Int) (x2 : Int) (M : am_M) (r : Int × am_M) (h : R_tried   x1 x2 M = some r) : am_Ev L xs d me_264 0 (am_ar1 0 [.inr (.inr (some 73)), .inl (x1), .inl (x2)]) [] 126 138 M (some (.inl r.1), 126, 138, r.2) := by
  refine ev_k (pc' := 1) (ls' := [(0, .inr (.inr (some 73))), (1, .inl (x1)), (2, .inl (x2))]) (st' := [.inl (x1)]) (nc' := 126) (np' := 138) (M' := M) 1 rfl ?_
  obtain ⟨hc, h⟩ := ck_i h
  refine ev_i2l rfl hc ?_
  refine ev_k (pc' := 6) (ls' := [(0, .inr (.inr (some 73))), (1, .inl (x1)), (2, .inl (x2))]) (st' := [.inr (.inl (80)), .inr (.inl (1)), .inr (.inl (x1))]) (nc' := 126) (np' := 138) (M' := M) 2 rfl ?_
  obtain ⟨v1, hv, h⟩ := ob_i h
  refine ev_call (t := 193) (as := [.inr (.inl (x1)), .inr (.inl (1)), .inr (.inl (80))]) (rest := []) rfl rfl rfl (by omega) (R_lies_e (by omega) (x1) (1) (80) M _ hv) ?_
  refine ev_k (pc' := 9) (ls' := [(0, .inr (.inr (some 73))), (1, .inl (x1)), (2, .inl (x2))]) (st' := [.inl (v1)]) (nc' := 126) (np' := 138) (M' := M) 0 rfl ?_
  obtain ⟨hR, ⟨hc, h⟩ | ⟨hc, h⟩⟩ := c_eq_i h
  · refine ev_ifc 32 rfl hR.1 (by decide) (fun _ => ?_) (fun q => absurd hc q)
    exact R_tried_32_t hd      M r h
  · refine ev_ifc 32 rfl hR.1 (by decide) (fun q => absurd q hc) (fun _ => ?_)
    refine ev_k (pc' := 13) (ls' := [(0, .inr (.inr (some 73))), (1, .inl (x1)), (2, .inl (x2))]) (st' := [.inl (x2)]) (nc' := 126) (np' := 138) (M' := M) 1 rfl ?_
    obtain ⟨hc, h⟩ := ck_i h
    refine ev_i2l rfl hc ?_
    refine ev_k (pc' := 18) (ls' := [(0, .inr (.inr (some 73))), (1, .inl (x1)), (2, .inl (x2))]) (st' := [.inr (.inl (5)), .inr (.inl (0)), .inr (.inl (x2))]) (nc' := 126) (np' := 138) (M' := M) 2 rfl ?_
    obtain ⟨v2, hv, h⟩ := ob_i h
    refine ev_call (t := 193) (as := [.inr (.inl (x2)), .inr (.inl (0)), .inr (.inl (5))]) (rest := []) rfl rfl rfl (by omega) (R_lies_e (by omega) (x2) (0) (5) M _ hv) ?_
    refine ev_k (pc' := 21) (ls' := [(0, .inr (.inr (some 73))), (1, .inl (x1)), (2, .inl (x2))]) (st' := [.inl (v2)]) (nc' := 126) (np' := 138) (M' := M) 0 rfl ?_
    obtain ⟨hR, ⟨hc, h⟩ | ⟨hc, h⟩⟩ := c_eq_i h
    · refine ev_ifc 32 rfl hR.1 (by decide) (fun _ => ?_) (fun q => absurd hc q)
      exact R_tried_32_t hd      M r h
    · refine ev_ifc 32 rfl hR.1 (by decide) (fun q => absurd q hc) (fun _ => ?_)
      refine ev_k (pc' := 29) (ls' := [(0, .inr (.inr (some 73))), (1, .inl (x1)), (2, .inl (x2))]) (st' := [.inl (M 73 1), .inl (x1)]) (nc' := 126) (np' := 138) (M' := M) 3 rfl ?_
      obtain ⟨hR, ⟨hc, h⟩ | ⟨hc, h⟩⟩ := c_le_i h
      · refine ev_icmp 34 rfl hR.1 hR.2 (by decide) (fun _ => ?_) (fun q => absurd hc q)
        refine ev_k (pc' := 36) (ls' := [(0, .inr (.inr (some 73))), (1, .inl (x1)), (2, .inl (x2))]) (st' := [.inl (x1), .inr (.inr (some 73))]) (nc' := 126) (np' := 138) (M' := M) 2 rfl ?_
        obtain ⟨v3, M4, hv, h⟩ := oc_i h
        refine ev_call (t := 237) (as := [.inr (.inr (some 73)), .inl (x1)]) (rest := []) rfl rfl rfl (by omega) (R_takesActs_e (by omega) (x1) M _ hv) ?_
        refine ev_k (pc' := 39) (ls' := [(0, .inr (.inr (some 73))), (1, .inl (x1)), (2, .inl (x2))]) (st' := [.inl (v3)]) (nc' := 126) (np' := 138) (M' := M4) 0 rfl ?_
        obtain ⟨hR, ⟨hc, h⟩ | ⟨hc, h⟩⟩ := c_ne_i h
        · refine ev_ifc 47 rfl hR.1 (by decide) (fun _ => ?_) (fun q => absurd hc q)
          refine ev_k (pc' := 49) (ls' := [(0, .inr (.inr (some 73))), (1, .inl (x1)), (2, .inl (x2))]) (st' := [.inl (0), .inr (.inr (some 73))]) (nc' := 126) (np' := 138) (M' := M4) 2 rfl ?_
          obtain ⟨M5, hv, h⟩ := ob_i h
          refine ev_call (t := 265) (as := [.inr (.inr (some 73)), .inl (0)]) (rest := []) rfl rfl rfl (by omega) (R_laysAside_e (by omega) (0) M4 _ hv) ?_
          refine ev_k (pc' := 57) (ls' := [(0, .inr (.inr (some 73))), (1, .inl (x1)), (2, .inl (x2))]) (st' := [.inl (M5 73 68), .inr (.inr (some 73))]) (nc' := 126) (np' := 138) (M' := M5) 3 rfl ?_
          obtain ⟨v6, M7, hv, h⟩ := oc_i h
          refine ev_call (t := 243) (as := [.inr (.inr (some 73)), .inl (M5 73 68)]) (rest := []) rfl rfl rfl (by omega) (R_doesActs_e (by omega) (M5 73 68) M5 _ hv) ?_
          refine ev_k (pc' := 62) (ls' := [(3, .inl (v6)), (0, .inr (.inr (some 73))), (1, .inl (x1)), (2, .inl (x2))]) (st' := [.inl (x2)]) (nc' := 126) (np' := 138) (M' := M7) 2 rfl ?_
          obtain ⟨hR, h⟩ := ck_i h
          rcases if_i h with ⟨hq, h⟩ | ⟨hq0, h⟩
          · refine ev_tsw 96 rfl hR (34) (Or.inr ⟨by rw [hq]; decide, by rw [hq]; rfl⟩) (by decide) ?_
            refine ev_k (pc' := 175) (ls' := [(0, .inr (.inr (some 73))), (4, .inl (v6))]) (st' := []) (nc' := 126) (np' := 138) (M' := M7) 3 rfl ?_
            exact R_tried_175_t hd     (v6) M7 r h
          · skip
            rcases if_i h with ⟨hq, h⟩ | ⟨hq1, h⟩
            · refine ev_tsw 102 rfl hR (40) (Or.inr ⟨by rw [hq]; decide, by rw [hq]; rfl⟩) (by decide) ?_
              refine ev_k (pc' := 175) (ls' := [(0, .inr (.inr (some 73))), (4, .inl (M7 73 74))]) (st' := []) (nc' := 126) (np' := 138) (M' := M7) 4 rfl ?_
              exact R_tried_175_t hd     (M7 73 74) M7 r h
            · skip
              rcases if_i h with ⟨hq, h⟩ | ⟨hq2, h⟩
              · refine ev_tsw 111 rfl hR (49) (Or.inr ⟨by rw [hq]; decide, by rw [hq]; rfl⟩) (by decide) ?_
                refine ev_k (pc' := 175) (ls' := [(0, .inr (.inr (some 73))), (4, .inl (M7 73 75))]) (st' := []) (nc' := 126) (np' := 138) (M' := M7) 4 rfl ?_
                exact R_tried_175_t hd     (M7 73 75) M7 r h
              · skip
                rcases if_i h with ⟨hq, h⟩ | ⟨hq3, h⟩
                · refine ev_tsw 120 rfl hR (58) (Or.inr ⟨by rw [hq]; decide, by rw [hq]; rfl⟩) (by decide) ?_
                  refine ev_k (pc' := 128) (ls' := [(3, .inl (v6)), (0, .inr (.inr (some 73))), (1, .inl (x1)), (2, .inl (x2))]) (st' := [.inl (M7 73 47), .inr (.inr (some 95))]) (nc' := 126) (np' := 138) (M' := M7) 4 rfl ?_
                  obtain ⟨hc, v8, ev, h⟩ := rd_i h
                  refine ev_ald (k := 95) (t := 0) (Or.inl ⟨rfl, rfl⟩) rfl (by decide) (by decide) rfl hc ev ?_
                  refine ev_k (pc' := 175) (ls' := [(0, .inr (.inr (some 73))), (4, .inl (v8))]) (st' := []) (nc' := 126) (np' := 138) (M' := M7) 2 rfl ?_
                  exact R_tried_175_t hd     (v8) M7 r h
                · skip
                  rcases if_i h with ⟨hq, h⟩ | ⟨hq4, h⟩
                  · refine ev_tsw 134 rfl hR (72) (Or.inr ⟨by rw [hq]; decide, by rw [hq]; rfl⟩) (by decide) ?_
                    refine ev_k (pc' := 139) (ls' := [(3, .inl (v6)), (0, .inr (.inr (some 73))), (1, .inl (x1)), (2, .inl (x2))]) (st' := [.inl (-1), .inl (M7 73 41)]) (nc' := 126) (np' := 138) (M' := M7) 3 rfl ?_
                    obtain ⟨hR, ⟨hc, h⟩ | ⟨hc, h⟩⟩ := c_ne_i h
                    · refine ev_icmp 147 rfl hR.1 hR.2 (by decide) (fun _ => ?_) (fun q => absurd hc q)
                      refine ev_k (pc' := 155) (ls' := [(3, .inl (v6)), (0, .inr (.inr (some 73))), (1, .inl (x1)), (2, .inl (x2))]) (st' := [.inl (M7 73 41), .inr (.inr (some 93))]) (nc' := 126) (np' := 138) (M' := M7) 4 rfl ?_
                      obtain ⟨hc, v9, ev, h⟩ := rd_i h
                      refine ev_ald (k := 93) (t := 0) (Or.inl ⟨rfl, rfl⟩) rfl (by decide) (by decide) rfl hc ev ?_
                      exact R_tried_156_t hd     (v9) M7 r h
                    · refine ev_icmp 147 rfl hR.1 hR.2 (by decide) (fun q => absurd q hc) (fun _ => ?_)
                      refine ev_k (pc' := 156) (ls' := [(0, .inr (.inr (some 73)))]) (st' := [.inl (-2)]) (nc' := 126) (np' := 138) (M' := M7) 2 rfl ?_
                      exact R_tried_156_t hd     (-2) M7 r h
                  · skip
                    have hho : ((x2) < 0 ∨ 4 < (x2)) ∨ ((x2) = 0 ∨ (x2) = 1 ∨ (x2) = 2 ∨ (x2) = 3 ∨ (x2) = 4) := by omega
                    refine ev_tsw 161 rfl hR (99) ?_ (by decide) ?_
                    · rcases hho with hho | hho
                      · exact Or.inl ⟨hho, rfl⟩
                      · rcases hho with hho | hho | hho | hho | hho
                        · exact absurd hho hq0
                        · exact absurd hho hq1
                        · exact absurd hho hq2
                        · exact absurd hho hq3
                        · exact absurd hho hq4
                    · skip
                      refine ev_k (pc' := 165) (ls' := [(3, .inl (v6)), (0, .inr (.inr (some 73))), (1, .inl (x1)), (2, .inl (x2))]) (st' := [.inl (M7 73 76)]) (nc' := 126) (np' := 138) (M' := M7) 2 rfl ?_
                      obtain ⟨hR, ⟨hc, h⟩ | ⟨hc, h⟩⟩ := c_eq_i h
                      · refine ev_ifc 172 rfl hR.1 (by decide) (fun _ => ?_) (fun q => absurd hc q)
                        refine ev_k (pc' := 173) (ls' := [(0, .inr (.inr (some 73)))]) (st' := [.inl (0)]) (nc' := 126) (np' := 138) (M' := M7) 1 rfl ?_
                        exact R_tried_173_t hd     (0) M7 r h
                      · refine ev_ifc 172 rfl hR.1 (by decide) (fun q => absurd q hc) (fun _ => ?_)
                        refine ev_k (pc' := 173) (ls' := [(0, .inr (.inr (some 73)))]) (st' := [.inl (1)]) (nc' := 126) (np' := 138) (M' := M7) 2 rfl ?_
                        exact R_tried_173_t hd     (1) M7 r h
        · refine ev_ifc 47 rfl hR.1 (by decide) (fun q => absurd q hc) (fun _ => ?_)
          refine ev_k (pc' := 46) (ls' := [(0, .inr (.inr (some 73))), (1, .inl (x1)), (2, .inl (x2))]) (st' := [.inl (M4 73 5)]) (nc' := 126) (np' := 138) (M' := M4) 2 rfl ?_
          cases h
          exact ev_ret rfl
      · refine ev_icmp 34 rfl hR.1 hR.2 (by decide) (fun q => absurd q hc) (fun _ => ?_)
        exact R_tried_32_t hd      M r h
def R_growing    (x1 : Int) (x2 : Int) (x3 : Int) (x4 : Int) (M : am_M) : Option (Int × am_M) := ob (R_standsReady (x1) (x2) (0) (0) (x3) (0) (x4) M) fun M1 => oc (R_tells (103) (20) M1) fun v2 M3 => some (v2, M3)
theorem R_growing_e {L : Nat} {xs : Nat → Int} {d : Nat} (hd : 4 ≤ d)   (x1 : Int) (x2 : Int) (x3 : Int) (x4 : Int) (M : am_M) (r : Int × am_M) (h : R_growing   x1 x2 x3 x4 M = some r) : am_Ev L xs d me_268 0 (am_ar1 0 [.inr (.inr (some 73)), .inl (x1), .inl (x2), .inl (x3), .inl (x4)]) [] 126 138 M (some (.inl r.1), 126, 138, r.2) := by
  refine ev_k (pc' := 9) (ls' := [(0, .inr (.inr (some 73))), (1, .inl (x1)), (2, .inl (x2)), (3, .inl (x3)), (4, .inl (x4))]) (st' := [.inl (x4), .inl (0), .inl (x3), .inl (0), .inl (0), .inl (x2), .inl (x1), .inr (.inr (some 73))]) (nc' := 126) (np' := 138) (M' := M) 8 rfl ?_
  obtain ⟨M1, hv, h⟩ := ob_i h
  refine ev_call (t := 249) (as := [.inr (.inr (some 73)), .inl (x1), .inl (x2), .inl (0), .inl (0), .inl (x3), .inl (0), .inl (x4)]) (rest := []) rfl rfl rfl (by omega) (R_standsReady_e (by omega) (x1) (x2) (0) (0) (x3) (0) (x4) M _ hv) ?_
  refine ev_k (pc' := 17) (ls' := [(0, .inr (.inr (some 73))), (1, .inl (x1)), (2, .inl (x2)), (3, .inl (x3)), (4, .inl (x4))]) (st' := [.inl (20), .inl (103), .inr (.inr (some 73))]) (nc' := 126) (np' := 138) (M' := M1) 3 rfl ?_
  obtain ⟨v2, M3, hv, h⟩ := oc_i h
  refine ev_call (t := 250) (as := [.inr (.inr (some 73)), .inl (103), .inl (20)]) (rest := []) rfl rfl rfl (by omega) (R_tells_e (by omega) (103) (20) M1 _ hv) ?_
  refine ev_k (pc' := 20) (ls' := [(0, .inr (.inr (some 73))), (1, .inl (x1)), (2, .inl (x2)), (3, .inl (x3)), (4, .inl (x4))]) (st' := [.inl (v2)]) (nc' := 126) (np' := 138) (M' := M3) 0 rfl ?_
  cases h
  exact ev_ret rfl
def R_days_162    (x2 : Int) (M : am_M) : Option (Int × am_M) := some (x2, M)
def R_days_120   (k18 : Int → Int → Int → am_M → Option (Int × am_M)) : Nat → Int → Int → Int → Int → am_M → Option (Int × am_M)
  | 0, _, _, _, _, _ => none
  | n + 1, x1, x2, x3, x4, M => c_ge (x4) (6)
       (fw M 73 44 (0) fun M1 => fw M1 73 45 ((M1 73 45) + (1)) fun M2 => (k18 (x1) (x2) ((x3) + (1)) M2))
       (wa M 93 6 (x4) (0) fun M3 => (R_days_120   k18 n (x1) (x2) (x3) ((x4) + (1)) M3))
def R_days_36   (k18 : Int → Int → Int → am_M → Option (Int × am_M)) : Nat → Int → Int → Int → Int → am_M → Option (Int × am_M)
  | 0, _, _, _, _, _ => none
  | n + 1, x1, x2, x3, x4, M => c_ge (x4) (M 73 46)
       ((R_days_120   k18 am_big (x1) (x2) (x3) (0) M))
       (rd M 97 100 (x4) fun v1 => rd M 95 100 (x4) fun v2 => rd M 75 144 (v2) fun v3 => rd M 96 100 (x4) fun v4 => oc (R_growing (v3) (v4) (v1) (M 73 45) M) fun v5 M6 => ob (R_held ((v1) + (v5)) (99) M6) fun v7 => wa M6 97 100 (x4) (v7) fun M8 => rd M8 97 100 (x4) fun v9 => (R_days_36   k18 n (x1) ((x2) + ((v9) - (v1))) (x3) ((x4) + (1)) M8))
def R_days_18    : Nat → Int → Int → Int → am_M → Option (Int × am_M)
  | 0, _, _, _, _ => none
  | n + 1, x1, x2, x3, M => c_ge (x3) (x1)
       (R_days_162    (x2) M)
       (c_ge (M 73 45) (9999)
       (R_days_162    (x2) M)
       ((R_days_36   (R_days_18    n) am_big (x1) (x2) (x3) (0) M)))
def R_days    (x1 : Int) (M : am_M) : Option (Int × am_M) := ck (am_R (x1)) (ob (R_lies (x1) (1) (60) M) fun v1 => c_ne (v1) (0)
       ((R_days_18    am_big (x1) (0) (0) M))
       (some (-1, M)))
theorem R_days_162_t {L : Nat} {xs : Nat → Int} {d : Nat} (hd : 5 ≤ d)     (x2 : Int) (M : am_M) (r : Int × am_M) (h : R_days_162    x2 M = some r) : am_Ev L xs d me_267 162 [(2, .inl (x2))] [] 126 138 M (some (.inl r.1), 126, 138, r.2) := by
  refine ev_k (pc' := 163) (ls' := [(2, .inl (x2))]) (st' := [.inl (x2)]) (nc' := 126) (np' := 138) (M' := M) 1 rfl ?_
  cases h
  exact ev_ret rfl
theorem R_days_120_t {L : Nat} {xs : Nat → Int} {d : Nat} (hd : 5 ≤ d)   (k18 : Int → Int → Int → am_M → Option (Int × am_M)) (hk18 : ∀ (x1 : Int) (x2 : Int) (x3 : Int) (M : am_M) (r : Int × am_M), k18 x1 x2 x3 M = some r → am_Ev L xs d me_267 18 [(0, .inr (.inr (some 73))), (1, .inl (x1)), (2, .inl (x2)), (3, .inl (x3))] [] 126 138 M (some (.inl r.1), 126, 138, r.2)) : ∀ (n : Nat) (x1 : Int) (x2 : Int) (x3 : Int) (x4 : Int) (M : am_M) (r : Int × am_M), R_days_120   k18 n x1 x2 x3 x4 M = some r → am_Ev L xs d me_267 120 [(0, .inr (.inr (some 73))), (1, .inl (x1)), (2, .inl (x2)), (3, .inl (x3)), (4, .inl (x4))] [] 126 138 M (some (.inl r.1), 126, 138, r.2)
  | 0, _, _, _, _, M, r, h => by cases h
  | n + 1, x1, x2, x3, x4, M, r, h => by
    have ih := R_days_120_t (L := L) (xs := xs) hd   k18 hk18 n
    refine ev_k (pc' := 124) (ls' := [(0, .inr (.inr (some 73))), (1, .inl (x1)), (2, .inl (x2)), (3, .inl (x3)), (4, .inl (x4))]) (st' := [.inl (6), .inl (x4)]) (nc' := 126) (np' := 138) (M' := M) 2 rfl ?_
    obtain ⟨hR, ⟨hc, h⟩ | ⟨hc, h⟩⟩ := c_ge_i h
    · refine ev_icmp 141 rfl hR.1 hR.2 (by decide) (fun _ => ?_) (fun q => absurd hc q)
      refine ev_k (pc' := 146) (ls' := [(0, .inr (.inr (some 73))), (1, .inl (x1)), (2, .inl (x2)), (3, .inl (x3)), (4, .inl (x4))]) (st' := []) (nc' := 126) (np' := 138) (M' := am_up M 73 44 (0)) 3 rfl ?_
      obtain ⟨M1, eM, h⟩ := fw_i h
      rw [← eM]
      refine ev_k (pc' := 156) (ls' := [(0, .inr (.inr (some 73))), (1, .inl (x1)), (2, .inl (x2)), (3, .inl (x3)), (4, .inl (x4))]) (st' := []) (nc' := 126) (np' := 138) (M' := am_up M1 73 45 ((M1 73 45) + (1))) 6 rfl ?_
      obtain ⟨M2, eM, h⟩ := fw_i h
      rw [← eM]
      refine ev_k (pc' := 18) (ls' := [(0, .inr (.inr (some 73))), (1, .inl (x1)), (2, .inl (x2)), (3, .inl ((x3) + (1)))]) (st' := []) (nc' := 126) (np' := 138) (M' := M2) 2 rfl ?_
      exact hk18 (x1) (x2) ((x3) + (1)) M2 r h
    · refine ev_icmp 141 rfl hR.1 hR.2 (by decide) (fun q => absurd q hc) (fun _ => ?_)
      refine ev_k (pc' := 134) (ls' := [(0, .inr (.inr (some 73))), (1, .inl (x1)), (2, .inl (x2)), (3, .inl (x3)), (4, .inl (x4))]) (st' := [.inl (0), .inl (x4), .inr (.inr (some 93))]) (nc' := 126) (np' := 138) (M' := M) 4 rfl ?_
      obtain ⟨hc, M3, eM, h⟩ := wa_i h
      refine ev_iast (k := 93) rfl (by decide) rfl hc eM ?_
      refine ev_k (pc' := 120) (ls' := [(0, .inr (.inr (some 73))), (1, .inl (x1)), (2, .inl (x2)), (3, .inl (x3)), (4, .inl ((x4) + (1)))]) (st' := []) (nc' := 126) (np' := 138) (M' := M3) 2 rfl ?_
      exact ih (x1) (x2) (x3) ((x4) + (1)) M3 r h
theorem R_days_36_t {L : Nat} {xs : Nat → Int} {d : Nat} (hd : 5 ≤ d)   (k18 : Int → Int → Int → am_M → Option (Int × am_M)) (hk18 : ∀ (x1 : Int) (x2 : Int) (x3 : Int) (M : am_M) (r : Int × am_M), k18 x1 x2 x3 M = some r → am_Ev L xs d me_267 18 [(0, .inr (.inr (some 73))), (1, .inl (x1)), (2, .inl (x2)), (3, .inl (x3))] [] 126 138 M (some (.inl r.1), 126, 138, r.2)) : ∀ (n : Nat) (x1 : Int) (x2 : Int) (x3 : Int) (x4 : Int) (M : am_M) (r : Int × am_M), R_days_36   k18 n x1 x2 x3 x4 M = some r → am_Ev L xs d me_267 36 [(0, .inr (.inr (some 73))), (1, .inl (x1)), (2, .inl (x2)), (3, .inl (x3)), (4, .inl (x4))] [] 126 138 M (some (.inl r.1), 126, 138, r.2)
  | 0, _, _, _, _, M, r, h => by cases h
  | n + 1, x1, x2, x3, x4, M, r, h => by
    have ih := R_days_36_t (L := L) (xs := xs) hd   k18 hk18 n
    refine ev_k (pc' := 42) (ls' := [(0, .inr (.inr (some 73))), (1, .inl (x1)), (2, .inl (x2)), (3, .inl (x3)), (4, .inl (x4))]) (st' := [.inl (M 73 46), .inl (x4)]) (nc' := 126) (np' := 138) (M' := M) 3 rfl ?_
    obtain ⟨hR, ⟨hc, h⟩ | ⟨hc, h⟩⟩ := c_ge_i h
    · refine ev_icmp 117 rfl hR.1 hR.2 (by decide) (fun _ => ?_) (fun q => absurd hc q)
      refine ev_k (pc' := 120) (ls' := [(0, .inr (.inr (some 73))), (1, .inl (x1)), (2, .inl (x2)), (3, .inl (x3)), (4, .inl (0))]) (st' := []) (nc' := 126) (np' := 138) (M' := M) 2 rfl ?_
      exact R_days_120_t hd   k18 hk18 am_big (x1) (x2) (x3) (0) M r h
    · refine ev_icmp 117 rfl hR.1 hR.2 (by decide) (fun q => absurd q hc) (fun _ => ?_)
      refine ev_k (pc' := 51) (ls' := [(0, .inr (.inr (some 73))), (1, .inl (x1)), (2, .inl (x2)), (3, .inl (x3)), (4, .inl (x4))]) (st' := [.inl (x4), .inr (.inr (some 97))]) (nc' := 126) (np' := 138) (M' := M) 3 rfl ?_
      obtain ⟨hc, v1, ev, h⟩ := rd_i h
      refine ev_ald (k := 97) (t := 0) (Or.inl ⟨rfl, rfl⟩) rfl (by decide) (by decide) rfl hc ev ?_
      refine ev_k (pc' := 73) (ls' := [(5, .inl (v1)), (0, .inr (.inr (some 73))), (1, .inl (x1)), (2, .inl (x2)), (3, .inl (x3)), (4, .inl (x4))]) (st' := [.inl (x4), .inr (.inr (some 95)), .inr (.inr (some 75)), .inr (.inr (some 73)), .inl (v1), .inl (x4), .inr (.inr (some 97))]) (nc' := 126) (np' := 138) (M' := M) 11 rfl ?_
      obtain ⟨hc, v2, ev, h⟩ := rd_i h
      refine ev_ald (k := 95) (t := 0) (Or.inl ⟨rfl, rfl⟩) rfl (by decide) (by decide) rfl hc ev ?_
      refine ev_k (pc' := 74) (ls' := [(5, .inl (v1)), (0, .inr (.inr (some 73))), (1, .inl (x1)), (2, .inl (x2)), (3, .inl (x3)), (4, .inl (x4))]) (st' := [.inl (v2), .inr (.inr (some 75)), .inr (.inr (some 73)), .inl (v1), .inl (x4), .inr (.inr (some 97))]) (nc' := 126) (np' := 138) (M' := M) 0 rfl ?_
      obtain ⟨hc, v3, ev, h⟩ := rd_i h
      refine ev_ald (k := 75) (t := 0) (Or.inl ⟨rfl, rfl⟩) rfl (by decide) (by decide) rfl hc ev ?_
      refine ev_k (pc' := 81) (ls' := [(5, .inl (v1)), (0, .inr (.inr (some 73))), (1, .inl (x1)), (2, .inl (x2)), (3, .inl (x3)), (4, .inl (x4))]) (st' := [.inl (x4), .inr (.inr (some 96)), .inl (v3), .inr (.inr (some 73)), .inl (v1), .inl (x4), .inr (.inr (some 97))]) (nc' := 126) (np' := 138) (M' := M) 3 rfl ?_
      obtain ⟨hc, v4, ev, h⟩ := rd_i h
      refine ev_ald (k := 96) (t := 0) (Or.inl ⟨rfl, rfl⟩) rfl (by decide) (by decide) rfl hc ev ?_
      refine ev_k (pc' := 88) (ls' := [(5, .inl (v1)), (0, .inr (.inr (some 73))), (1, .inl (x1)), (2, .inl (x2)), (3, .inl (x3)), (4, .inl (x4))]) (st' := [.inl (M 73 45), .inl (v1), .inl (v4), .inl (v3), .inr (.inr (some 73)), .inl (v1), .inl (x4), .inr (.inr (some 97))]) (nc' := 126) (np' := 138) (M' := M) 3 rfl ?_
      obtain ⟨v5, M6, hv, h⟩ := oc_i h
      refine ev_call (t := 268) (as := [.inr (.inr (some 73)), .inl (v3), .inl (v4), .inl (v1), .inl (M 73 45)]) (rest := [.inl (v1), .inl (x4), .inr (.inr (some 97))]) rfl rfl rfl (by omega) (R_growing_e (by omega) (v3) (v4) (v1) (M 73 45) M _ hv) ?_
      refine ev_k (pc' := 94) (ls' := [(5, .inl (v1)), (0, .inr (.inr (some 73))), (1, .inl (x1)), (2, .inl (x2)), (3, .inl (x3)), (4, .inl (x4))]) (st' := [.inl (99), .inl ((v1) + (v5)), .inl (x4), .inr (.inr (some 97))]) (nc' := 126) (np' := 138) (M' := M6) 2 rfl ?_
      obtain ⟨v7, hv, h⟩ := ob_i h
      refine ev_call (t := 255) (as := [.inl ((v1) + (v5)), .inl (99)]) (rest := [.inl (x4), .inr (.inr (some 97))]) rfl rfl rfl (by omega) (R_held_e (by omega) ((v1) + (v5)) (99) M6 _ hv) ?_
      refine ev_k (pc' := 97) (ls' := [(5, .inl (v1)), (0, .inr (.inr (some 73))), (1, .inl (x1)), (2, .inl (x2)), (3, .inl (x3)), (4, .inl (x4))]) (st' := [.inl (v7), .inl (x4), .inr (.inr (some 97))]) (nc' := 126) (np' := 138) (M' := M6) 0 rfl ?_
      obtain ⟨hc, M8, eM, h⟩ := wa_i h
      refine ev_iast (k := 97) rfl (by decide) rfl hc eM ?_
      refine ev_k (pc' := 105) (ls' := [(5, .inl (v1)), (0, .inr (.inr (some 73))), (1, .inl (x1)), (2, .inl (x2)), (3, .inl (x3)), (4, .inl (x4))]) (st' := [.inl (x4), .inr (.inr (some 97)), .inl (x2)]) (nc' := 126) (np' := 138) (M' := M8) 4 rfl ?_
      obtain ⟨hc, v9, ev, h⟩ := rd_i h
      refine ev_ald (k := 97) (t := 0) (Or.inl ⟨rfl, rfl⟩) rfl (by decide) (by decide) rfl hc ev ?_
      refine ev_k (pc' := 36) (ls' := [(0, .inr (.inr (some 73))), (1, .inl (x1)), (2, .inl ((x2) + ((v9) - (v1)))), (3, .inl (x3)), (4, .inl ((x4) + (1)))]) (st' := []) (nc' := 126) (np' := 138) (M' := M8) 6 rfl ?_
      exact ih (x1) ((x2) + ((v9) - (v1))) (x3) ((x4) + (1)) M8 r h
theorem R_days_18_t {L : Nat} {xs : Nat → Int} {d : Nat} (hd : 5 ≤ d)     : ∀ (n : Nat) (x1 : Int) (x2 : Int) (x3 : Int) (M : am_M) (r : Int × am_M), R_days_18    n x1 x2 x3 M = some r → am_Ev L xs d me_267 18 [(0, .inr (.inr (some 73))), (1, .inl (x1)), (2, .inl (x2)), (3, .inl (x3))] [] 126 138 M (some (.inl r.1), 126, 138, r.2)
  | 0, _, _, _, M, r, h => by cases h
  | n + 1, x1, x2, x3, M, r, h => by
    have ih := R_days_18_t (L := L) (xs := xs) hd     n
    refine ev_k (pc' := 20) (ls' := [(0, .inr (.inr (some 73))), (1, .inl (x1)), (2, .inl (x2)), (3, .inl (x3))]) (st' := [.inl (x1), .inl (x3)]) (nc' := 126) (np' := 138) (M' := M) 2 rfl ?_
    obtain ⟨hR, ⟨hc, h⟩ | ⟨hc, h⟩⟩ := c_ge_i h
    · refine ev_icmp 162 rfl hR.1 hR.2 (by decide) (fun _ => ?_) (fun q => absurd hc q)
      exact R_days_162_t hd     (x2) M r h
    · refine ev_icmp 162 rfl hR.1 hR.2 (by decide) (fun q => absurd q hc) (fun _ => ?_)
      refine ev_k (pc' := 30) (ls' := [(0, .inr (.inr (some 73))), (1, .inl (x1)), (2, .inl (x2)), (3, .inl (x3))]) (st' := [.inl (9999), .inl (M 73 45)]) (nc' := 126) (np' := 138) (M' := M) 3 rfl ?_
      obtain ⟨hR, ⟨hc, h⟩ | ⟨hc, h⟩⟩ := c_ge_i h
      · refine ev_icmp 162 rfl hR.1 hR.2 (by decide) (fun _ => ?_) (fun q => absurd hc q)
        exact R_days_162_t hd     (x2) M r h
      · refine ev_icmp 162 rfl hR.1 hR.2 (by decide) (fun q => absurd q hc) (fun _ => ?_)
        refine ev_k (pc' := 36) (ls' := [(0, .inr (.inr (some 73))), (1, .inl (x1)), (2, .inl (x2)), (3, .inl (x3)), (4, .inl (0))]) (st' := []) (nc' := 126) (np' := 138) (M' := M) 2 rfl ?_
        exact R_days_36_t hd   (R_days_18    n) ih am_big (x1) (x2) (x3) (0) M r h
theorem R_days_e {L : Nat} {xs : Nat → Int} {d : Nat} (hd : 5 ≤ d)   (x1 : Int) (M : am_M) (r : Int × am_M) (h : R_days   x1 M = some r) : am_Ev L xs d me_267 0 (am_ar1 0 [.inr (.inr (some 73)), .inl (x1)]) [] 126 138 M (some (.inl r.1), 126, 138, r.2) := by
  refine ev_k (pc' := 1) (ls' := [(0, .inr (.inr (some 73))), (1, .inl (x1))]) (st' := [.inl (x1)]) (nc' := 126) (np' := 138) (M' := M) 1 rfl ?_
  obtain ⟨hc, h⟩ := ck_i h
  refine ev_i2l rfl hc ?_
  refine ev_k (pc' := 6) (ls' := [(0, .inr (.inr (some 73))), (1, .inl (x1))]) (st' := [.inr (.inl (60)), .inr (.inl (1)), .inr (.inl (x1))]) (nc' := 126) (np' := 138) (M' := M) 2 rfl ?_
  obtain ⟨v1, hv, h⟩ := ob_i h
  refine ev_call (t := 193) (as := [.inr (.inl (x1)), .inr (.inl (1)), .inr (.inl (60))]) (rest := []) rfl rfl rfl (by omega) (R_lies_e (by omega) (x1) (1) (60) M _ hv) ?_
  refine ev_k (pc' := 9) (ls' := [(0, .inr (.inr (some 73))), (1, .inl (x1))]) (st' := [.inl (v1)]) (nc' := 126) (np' := 138) (M' := M) 0 rfl ?_
  obtain ⟨hR, ⟨hc, h⟩ | ⟨hc, h⟩⟩ := c_ne_i h
  · refine ev_ifc 14 rfl hR.1 (by decide) (fun _ => ?_) (fun q => absurd hc q)
    refine ev_k (pc' := 18) (ls' := [(0, .inr (.inr (some 73))), (1, .inl (x1)), (2, .inl (0)), (3, .inl (0))]) (st' := []) (nc' := 126) (np' := 138) (M' := M) 4 rfl ?_
    exact R_days_18_t hd     am_big (x1) (0) (0) M r h
  · refine ev_ifc 14 rfl hR.1 (by decide) (fun q => absurd q hc) (fun _ => ?_)
    refine ev_k (pc' := 13) (ls' := [(0, .inr (.inr (some 73))), (1, .inl (x1))]) (st' := [.inl (-1)]) (nc' := 126) (np' := 138) (M' := M) 1 rfl ?_
    cases h
    exact ev_ret rfl
def R_minutesBack_7    : Nat → Int → Int → am_M → Option (Int × am_M)
  | 0, _, _, _ => none
  | n + 1, x1, x2, M => c_le (x2) (0)
       (some (x1, M))
       (oc (R_walkingTo ((x2) - (1)) (2) M) fun v1 M2 => (R_minutesBack_7    n ((x1) + (v1)) ((x2) + (-1)) M2))
def R_minutesBack     (M : am_M) : Option (Int × am_M) := (R_minutesBack_7    am_big (0) (M 73 47) M)
theorem R_minutesBack_7_t {L : Nat} {xs : Nat → Int} {d : Nat} (hd : 6 ≤ d)     : ∀ (n : Nat) (x1 : Int) (x2 : Int) (M : am_M) (r : Int × am_M), R_minutesBack_7    n x1 x2 M = some r → am_Ev L xs d me_270 7 [(0, .inr (.inr (some 73))), (1, .inl (x1)), (2, .inl (x2))] [] 126 138 M (some (.inl r.1), 126, 138, r.2)
  | 0, _, _, M, r, h => by cases h
  | n + 1, x1, x2, M, r, h => by
    have ih := R_minutesBack_7_t (L := L) (xs := xs) hd     n
    refine ev_k (pc' := 8) (ls' := [(0, .inr (.inr (some 73))), (1, .inl (x1)), (2, .inl (x2))]) (st' := [.inl (x2)]) (nc' := 126) (np' := 138) (M' := M) 1 rfl ?_
    obtain ⟨hR, ⟨hc, h⟩ | ⟨hc, h⟩⟩ := c_le_i h
    · refine ev_ifc 28 rfl hR.1 (by decide) (fun _ => ?_) (fun q => absurd hc q)
      refine ev_k (pc' := 29) (ls' := [(0, .inr (.inr (some 73))), (1, .inl (x1)), (2, .inl (x2))]) (st' := [.inl (x1)]) (nc' := 126) (np' := 138) (M' := M) 1 rfl ?_
      cases h
      exact ev_ret rfl
    · refine ev_ifc 28 rfl hR.1 (by decide) (fun q => absurd q hc) (fun _ => ?_)
      refine ev_k (pc' := 17) (ls' := [(0, .inr (.inr (some 73))), (1, .inl (x1)), (2, .inl (x2))]) (st' := [.inl (2), .inl ((x2) - (1)), .inr (.inr (some 73)), .inl (x1)]) (nc' := 126) (np' := 138) (M' := M) 6 rfl ?_
      obtain ⟨v1, M2, hv, h⟩ := oc_i h
      refine ev_call (t := 247) (as := [.inr (.inr (some 73)), .inl ((x2) - (1)), .inl (2)]) (rest := [.inl (x1)]) rfl rfl rfl (by omega) (R_walkingTo_e (by omega) ((x2) - (1)) (2) M _ hv) ?_
      refine ev_k (pc' := 7) (ls' := [(0, .inr (.inr (some 73))), (1, .inl ((x1) + (v1))), (2, .inl ((x2) + (-1)))]) (st' := []) (nc' := 126) (np' := 138) (M' := M2) 4 rfl ?_
      exact ih ((x1) + (v1)) ((x2) + (-1)) M2 r h
theorem R_minutesBack_e {L : Nat} {xs : Nat → Int} {d : Nat} (hd : 6 ≤ d)    (M : am_M) (r : Int × am_M) (h : R_minutesBack    M = some r) : am_Ev L xs d me_270 0 (am_ar1 0 [.inr (.inr (some 73))]) [] 126 138 M (some (.inl r.1), 126, 138, r.2) := by
  refine ev_k (pc' := 7) (ls' := [(0, .inr (.inr (some 73))), (1, .inl (0)), (2, .inl (M 73 47))]) (st' := []) (nc' := 126) (np' := 138) (M' := M) 5 rfl ?_
  exact R_minutesBack_7_t hd     am_big (0) (M 73 47) M r h
def R_back_67   (k14 : Int → Int → Int → Int → Int → am_M → Option (Int × am_M)) (x1 : Int) (x2 : Int) (x3 : Int) (x4 : Int) (x5 : Int) (M : am_M) : Option (Int × am_M) := (k14 (x1) (x2) (x3) (x4) ((x5) + (-1)) M)
def R_back_65   (k14 : Int → Int → Int → Int → Int → am_M → Option (Int × am_M)) (x1 : Int) (x2 : Int) (x3 : Int) (x5 : Int) (s0 : Int) (M : am_M) : Option (Int × am_M) := (R_back_67   k14 (x1) (x2) (x3) (s0) (x5) M)
def R_back_34   (k14 : Int → Int → Int → Int → Int → am_M → Option (Int × am_M)) (x1 : Int) (x3 : Int) (x4 : Int) (x5 : Int) (s0 : Int) (s1 : Int) (M : am_M) : Option (Int × am_M) := ob (R_isBlind (x5) M) fun v1 => c_ne (v1) (0)
       (c_ne (x4) (-2)
       ((R_back_65   k14 (x1) ((s0) + (s1)) ((x3) + (1)) (x5) (x4) M))
       ((R_back_65   k14 (x1) ((s0) + (s1)) ((x3) + (1)) (x5) (x5) M)))
       ((R_back_67   k14 (x1) ((s0) + (s1)) (x3) (x4) (x5) M))
def R_back_14    : Nat → Int → Int → Int → Int → Int → am_M → Option (Int × am_M)
  | 0, _, _, _, _, _, _ => none
  | n + 1, x1, x2, x3, x4, x5, M => c_le (x5) (0)
       (ck (am_R (x1)) ((if (x1) = (0) then
       (oc (R_minutesBack  M) fun v1 M2 => some (v1, M2)) else
       (if (x1) = (1) then
       (some (x2, M)) else
       (if (x1) = (2) then
       (some (x3, M)) else
       (if (x1) = (3) then
       (some (x4, M)) else
       (some (-1, M))))))))
       (ob (R_isFork (x5) M) fun v3 => c_eq (v3) (0)
       ((R_back_34   (R_back_14    n) (x1) (x3) (x4) (x5) (x2) (0) M))
       ((R_back_34   (R_back_14    n) (x1) (x3) (x4) (x5) (x2) (1) M)))
def R_back    (x1 : Int) (M : am_M) : Option (Int × am_M) := (R_back_14    am_big (x1) (0) (0) (-2) (M 73 47) M)
theorem R_back_67_t {L : Nat} {xs : Nat → Int} {d : Nat} (hd : 7 ≤ d)   (k14 : Int → Int → Int → Int → Int → am_M → Option (Int × am_M)) (hk14 : ∀ (x1 : Int) (x2 : Int) (x3 : Int) (x4 : Int) (x5 : Int) (M : am_M) (r : Int × am_M), k14 x1 x2 x3 x4 x5 M = some r → am_Ev L xs d me_269 14 [(0, .inr (.inr (some 73))), (1, .inl (x1)), (2, .inl (x2)), (3, .inl (x3)), (4, .inl (x4)), (5, .inl (x5))] [] 126 138 M (some (.inl r.1), 126, 138, r.2)) (x1 : Int) (x2 : Int) (x3 : Int) (x4 : Int) (x5 : Int) (M : am_M) (r : Int × am_M) (h : R_back_67   k14 x1 x2 x3 x4 x5 M = some r) : am_Ev L xs d me_269 67 [(0, .inr (.inr (some 73))), (1, .inl (x1)), (2, .inl (x2)), (3, .inl (x3)), (4, .inl (x4)), (5, .inl (x5))] [] 126 138 M (some (.inl r.1), 126, 138, r.2) := by
  refine ev_k (pc' := 14) (ls' := [(0, .inr (.inr (some 73))), (1, .inl (x1)), (2, .inl (x2)), (3, .inl (x3)), (4, .inl (x4)), (5, .inl ((x5) + (-1)))]) (st' := []) (nc' := 126) (np' := 138) (M' := M) 2 rfl ?_
  exact hk14 (x1) (x2) (x3) (x4) ((x5) + (-1)) M r h
theorem R_back_65_t {L : Nat} {xs : Nat → Int} {d : Nat} (hd : 7 ≤ d)   (k14 : Int → Int → Int → Int → Int → am_M → Option (Int × am_M)) (hk14 : ∀ (x1 : Int) (x2 : Int) (x3 : Int) (x4 : Int) (x5 : Int) (M : am_M) (r : Int × am_M), k14 x1 x2 x3 x4 x5 M = some r → am_Ev L xs d me_269 14 [(0, .inr (.inr (some 73))), (1, .inl (x1)), (2, .inl (x2)), (3, .inl (x3)), (4, .inl (x4)), (5, .inl (x5))] [] 126 138 M (some (.inl r.1), 126, 138, r.2)) (x1 : Int) (x2 : Int) (x3 : Int) (x5 : Int) (s0 : Int) (M : am_M) (r : Int × am_M) (h : R_back_65   k14 x1 x2 x3 x5 s0 M = some r) : am_Ev L xs d me_269 65 [(0, .inr (.inr (some 73))), (1, .inl (x1)), (2, .inl (x2)), (3, .inl (x3)), (5, .inl (x5))] [.inl (s0)] 126 138 M (some (.inl r.1), 126, 138, r.2) := by
  refine ev_k (pc' := 67) (ls' := [(0, .inr (.inr (some 73))), (1, .inl (x1)), (2, .inl (x2)), (3, .inl (x3)), (4, .inl (s0)), (5, .inl (x5))]) (st' := []) (nc' := 126) (np' := 138) (M' := M) 1 rfl ?_
  exact R_back_67_t hd   k14 hk14 (x1) (x2) (x3) (s0) (x5) M r h
theorem R_back_34_t {L : Nat} {xs : Nat → Int} {d : Nat} (hd : 7 ≤ d)   (k14 : Int → Int → Int → Int → Int → am_M → Option (Int × am_M)) (hk14 : ∀ (x1 : Int) (x2 : Int) (x3 : Int) (x4 : Int) (x5 : Int) (M : am_M) (r : Int × am_M), k14 x1 x2 x3 x4 x5 M = some r → am_Ev L xs d me_269 14 [(0, .inr (.inr (some 73))), (1, .inl (x1)), (2, .inl (x2)), (3, .inl (x3)), (4, .inl (x4)), (5, .inl (x5))] [] 126 138 M (some (.inl r.1), 126, 138, r.2)) (x1 : Int) (x3 : Int) (x4 : Int) (x5 : Int) (s0 : Int) (s1 : Int) (M : am_M) (r : Int × am_M) (h : R_back_34   k14 x1 x3 x4 x5 s0 s1 M = some r) : am_Ev L xs d me_269 34 [(0, .inr (.inr (some 73))), (1, .inl (x1)), (3, .inl (x3)), (4, .inl (x4)), (5, .inl (x5))] [.inl (s1), .inl (s0)] 126 138 M (some (.inl r.1), 126, 138, r.2) := by
  refine ev_k (pc' := 39) (ls' := [(2, .inl ((s0) + (s1))), (0, .inr (.inr (some 73))), (1, .inl (x1)), (3, .inl (x3)), (4, .inl (x4)), (5, .inl (x5))]) (st' := [.inl (x5), .inr (.inr (some 73))]) (nc' := 126) (np' := 138) (M' := M) 4 rfl ?_
  obtain ⟨v1, hv, h⟩ := ob_i h
  refine ev_call (t := 235) (as := [.inr (.inr (some 73)), .inl (x5)]) (rest := []) rfl rfl rfl (by omega) (R_isBlind_e (by omega) (x5) M _ hv) ?_
  refine ev_k (pc' := 42) (ls' := [(2, .inl ((s0) + (s1))), (0, .inr (.inr (some 73))), (1, .inl (x1)), (3, .inl (x3)), (4, .inl (x4)), (5, .inl (x5))]) (st' := [.inl (v1)]) (nc' := 126) (np' := 138) (M' := M) 0 rfl ?_
  obtain ⟨hR, ⟨hc, h⟩ | ⟨hc, h⟩⟩ := c_ne_i h
  · refine ev_ifc 48 rfl hR.1 (by decide) (fun _ => ?_) (fun q => absurd hc q)
    refine ev_k (pc' := 55) (ls' := [(3, .inl ((x3) + (1))), (2, .inl ((s0) + (s1))), (0, .inr (.inr (some 73))), (1, .inl (x1)), (4, .inl (x4)), (5, .inl (x5))]) (st' := [.inl (-2), .inl (x4)]) (nc' := 126) (np' := 138) (M' := M) 3 rfl ?_
    obtain ⟨hR, ⟨hc, h⟩ | ⟨hc, h⟩⟩ := c_ne_i h
    · refine ev_icmp 63 rfl hR.1 hR.2 (by decide) (fun _ => ?_) (fun q => absurd hc q)
      refine ev_k (pc' := 65) (ls' := [(0, .inr (.inr (some 73))), (1, .inl (x1)), (2, .inl ((s0) + (s1))), (3, .inl ((x3) + (1))), (5, .inl (x5))]) (st' := [.inl (x4)]) (nc' := 126) (np' := 138) (M' := M) 1 rfl ?_
      exact R_back_65_t hd   k14 hk14 (x1) ((s0) + (s1)) ((x3) + (1)) (x5) (x4) M r h
    · refine ev_icmp 63 rfl hR.1 hR.2 (by decide) (fun q => absurd q hc) (fun _ => ?_)
      refine ev_k (pc' := 65) (ls' := [(0, .inr (.inr (some 73))), (1, .inl (x1)), (2, .inl ((s0) + (s1))), (3, .inl ((x3) + (1))), (5, .inl (x5))]) (st' := [.inl (x5)]) (nc' := 126) (np' := 138) (M' := M) 2 rfl ?_
      exact R_back_65_t hd   k14 hk14 (x1) ((s0) + (s1)) ((x3) + (1)) (x5) (x5) M r h
  · refine ev_ifc 48 rfl hR.1 (by decide) (fun q => absurd q hc) (fun _ => ?_)
    refine ev_k (pc' := 67) (ls' := [(0, .inr (.inr (some 73))), (1, .inl (x1)), (2, .inl ((s0) + (s1))), (3, .inl (x3)), (4, .inl (x4)), (5, .inl (x5))]) (st' := []) (nc' := 126) (np' := 138) (M' := M) 1 rfl ?_
    exact R_back_67_t hd   k14 hk14 (x1) ((s0) + (s1)) (x3) (x4) (x5) M r h
theorem R_back_14_t {L : Nat} {xs : Nat → Int} {d : Nat} (hd : 7 ≤ d)     : ∀ (n : Nat) (x1 : Int) (x2 : Int) (x3 : Int) (x4 : Int) (x5 : Int) (M : am_M) (r : Int × am_M), R_back_14    n x1 x2 x3 x4 x5 M = some r → am_Ev L xs d me_269 14 [(0, .inr (.inr (some 73))), (1, .inl (x1)), (2, .inl (x2)), (3, .inl (x3)), (4, .inl (x4)), (5, .inl (x5))] [] 126 138 M (some (.inl r.1), 126, 138, r.2)
  | 0, _, _, _, _, _, M, r, h => by cases h
  | n + 1, x1, x2, x3, x4, x5, M, r, h => by
    have ih := R_back_14_t (L := L) (xs := xs) hd     n
    refine ev_k (pc' := 16) (ls' := [(0, .inr (.inr (some 73))), (1, .inl (x1)), (2, .inl (x2)), (3, .inl (x3)), (4, .inl (x4)), (5, .inl (x5))]) (st' := [.inl (x5)]) (nc' := 126) (np' := 138) (M' := M) 1 rfl ?_
    obtain ⟨hR, ⟨hc, h⟩ | ⟨hc, h⟩⟩ := c_le_i h
    · refine ev_ifc 73 rfl hR.1 (by decide) (fun _ => ?_) (fun q => absurd hc q)
      refine ev_k (pc' := 74) (ls' := [(0, .inr (.inr (some 73))), (1, .inl (x1)), (2, .inl (x2)), (3, .inl (x3)), (4, .inl (x4)), (5, .inl (x5))]) (st' := [.inl (x1)]) (nc' := 126) (np' := 138) (M' := M) 1 rfl ?_
      obtain ⟨hR, h⟩ := ck_i h
      rcases if_i h with ⟨hq, h⟩ | ⟨hq0, h⟩
      · refine ev_tsw 104 rfl hR (30) (Or.inr ⟨by rw [hq]; decide, by rw [hq]; rfl⟩) (by decide) ?_
        refine ev_k (pc' := 105) (ls' := [(0, .inr (.inr (some 73))), (1, .inl (x1)), (2, .inl (x2)), (3, .inl (x3)), (4, .inl (x4)), (5, .inl (x5))]) (st' := [.inr (.inr (some 73))]) (nc' := 126) (np' := 138) (M' := M) 1 rfl ?_
        obtain ⟨v1, M2, hv, h⟩ := oc_i h
        refine ev_call (t := 270) (as := [.inr (.inr (some 73))]) (rest := []) rfl rfl rfl (by omega) (R_minutesBack_e (by omega)  M _ hv) ?_
        refine ev_k (pc' := 108) (ls' := [(0, .inr (.inr (some 73))), (1, .inl (x1)), (2, .inl (x2)), (3, .inl (x3)), (4, .inl (x4)), (5, .inl (x5))]) (st' := [.inl (v1)]) (nc' := 126) (np' := 138) (M' := M2) 0 rfl ?_
        cases h
        exact ev_ret rfl
      · skip
        rcases if_i h with ⟨hq, h⟩ | ⟨hq1, h⟩
        · refine ev_tsw 109 rfl hR (35) (Or.inr ⟨by rw [hq]; decide, by rw [hq]; rfl⟩) (by decide) ?_
          refine ev_k (pc' := 110) (ls' := [(0, .inr (.inr (some 73))), (1, .inl (x1)), (2, .inl (x2)), (3, .inl (x3)), (4, .inl (x4)), (5, .inl (x5))]) (st' := [.inl (x2)]) (nc' := 126) (np' := 138) (M' := M) 1 rfl ?_
          cases h
          exact ev_ret rfl
        · skip
          rcases if_i h with ⟨hq, h⟩ | ⟨hq2, h⟩
          · refine ev_tsw 111 rfl hR (37) (Or.inr ⟨by rw [hq]; decide, by rw [hq]; rfl⟩) (by decide) ?_
            refine ev_k (pc' := 112) (ls' := [(0, .inr (.inr (some 73))), (1, .inl (x1)), (2, .inl (x2)), (3, .inl (x3)), (4, .inl (x4)), (5, .inl (x5))]) (st' := [.inl (x3)]) (nc' := 126) (np' := 138) (M' := M) 1 rfl ?_
            cases h
            exact ev_ret rfl
          · skip
            rcases if_i h with ⟨hq, h⟩ | ⟨hq3, h⟩
            · refine ev_tsw 113 rfl hR (39) (Or.inr ⟨by rw [hq]; decide, by rw [hq]; rfl⟩) (by decide) ?_
              refine ev_k (pc' := 115) (ls' := [(0, .inr (.inr (some 73))), (1, .inl (x1)), (2, .inl (x2)), (3, .inl (x3)), (4, .inl (x4)), (5, .inl (x5))]) (st' := [.inl (x4)]) (nc' := 126) (np' := 138) (M' := M) 1 rfl ?_
              cases h
              exact ev_ret rfl
            · skip
              have hho : ((x1) < 0 ∨ 3 < (x1)) ∨ ((x1) = 0 ∨ (x1) = 1 ∨ (x1) = 2 ∨ (x1) = 3) := by omega
              refine ev_tsw 116 rfl hR (42) ?_ (by decide) ?_
              · rcases hho with hho | hho
                · exact Or.inl ⟨hho, rfl⟩
                · rcases hho with hho | hho | hho | hho
                  · exact absurd hho hq0
                  · exact absurd hho hq1
                  · exact absurd hho hq2
                  · exact absurd hho hq3
              · skip
                refine ev_k (pc' := 117) (ls' := [(0, .inr (.inr (some 73))), (1, .inl (x1)), (2, .inl (x2)), (3, .inl (x3)), (4, .inl (x4)), (5, .inl (x5))]) (st' := [.inl (-1)]) (nc' := 126) (np' := 138) (M' := M) 1 rfl ?_
                cases h
                exact ev_ret rfl
    · refine ev_ifc 73 rfl hR.1 (by decide) (fun q => absurd q hc) (fun _ => ?_)
      refine ev_k (pc' := 23) (ls' := [(0, .inr (.inr (some 73))), (1, .inl (x1)), (2, .inl (x2)), (3, .inl (x3)), (4, .inl (x4)), (5, .inl (x5))]) (st' := [.inl (x5), .inr (.inr (some 73)), .inl (x2)]) (nc' := 126) (np' := 138) (M' := M) 3 rfl ?_
      obtain ⟨v3, hv, h⟩ := ob_i h
      refine ev_call (t := 232) (as := [.inr (.inr (some 73)), .inl (x5)]) (rest := [.inl (x2)]) rfl rfl rfl (by omega) (R_isFork_e (by omega) (x5) M _ hv) ?_
      refine ev_k (pc' := 26) (ls' := [(0, .inr (.inr (some 73))), (1, .inl (x1)), (2, .inl (x2)), (3, .inl (x3)), (4, .inl (x4)), (5, .inl (x5))]) (st' := [.inl (v3), .inl (x2)]) (nc' := 126) (np' := 138) (M' := M) 0 rfl ?_
      obtain ⟨hR, ⟨hc, h⟩ | ⟨hc, h⟩⟩ := c_eq_i h
      · refine ev_ifc 33 rfl hR.1 (by decide) (fun _ => ?_) (fun q => absurd hc q)
        refine ev_k (pc' := 34) (ls' := [(0, .inr (.inr (some 73))), (1, .inl (x1)), (3, .inl (x3)), (4, .inl (x4)), (5, .inl (x5))]) (st' := [.inl (0), .inl (x2)]) (nc' := 126) (np' := 138) (M' := M) 1 rfl ?_
        exact R_back_34_t hd   (R_back_14    n) ih (x1) (x3) (x4) (x5) (x2) (0) M r h
      · refine ev_ifc 33 rfl hR.1 (by decide) (fun q => absurd q hc) (fun _ => ?_)
        refine ev_k (pc' := 34) (ls' := [(0, .inr (.inr (some 73))), (1, .inl (x1)), (3, .inl (x3)), (4, .inl (x4)), (5, .inl (x5))]) (st' := [.inl (1), .inl (x2)]) (nc' := 126) (np' := 138) (M' := M) 2 rfl ?_
        exact R_back_34_t hd   (R_back_14    n) ih (x1) (x3) (x4) (x5) (x2) (1) M r h
theorem R_back_e {L : Nat} {xs : Nat → Int} {d : Nat} (hd : 7 ≤ d)   (x1 : Int) (M : am_M) (r : Int × am_M) (h : R_back   x1 M = some r) : am_Ev L xs d me_269 0 (am_ar1 0 [.inr (.inr (some 73)), .inl (x1)]) [] 126 138 M (some (.inl r.1), 126, 138, r.2) := by
  refine ev_k (pc' := 14) (ls' := [(0, .inr (.inr (some 73))), (1, .inl (x1)), (2, .inl (0)), (3, .inl (0)), (4, .inl (-2)), (5, .inl (M 73 47))]) (st' := []) (nc' := 126) (np' := 138) (M' := M) 9 rfl ?_
  exact R_back_14_t hd     am_big (x1) (0) (0) (-2) (M 73 47) M r h
def R_dividing_6    : Nat → Int → Int → am_M → Option (Int)
  | 0, _, _, _ => none
  | n + 1, x4, x6, M => ck (am_R6 (x6) ∧ am_R6 (0)) (tw (if (x6) > (0) then 1 else if (x6) = (0) then 0 else -1) fun v1 => c_eq (v1) (0)
       (some (x4))
       (ck (am_R6 (x4) ∧ am_R6 (x6) ∧ ((x6) : Int) ≠ 0) (tw (Int.tmod (x4) (x6)) fun v2 => (R_dividing_6    n (x6) (v2) M))))
def R_dividing    (x0 : Int) (x2 : Int) (M : am_M) : Option (Int) := (R_dividing_6    am_big (x0) (x2) M)
theorem R_dividing_6_t {L : Nat} {xs : Nat → Int} {d : Nat} (hd : 0 ≤ d)     : ∀ (n : Nat) (x4 : Int) (x6 : Int) (M : am_M) (r : Int), R_dividing_6    n x4 x6 M = some r → am_Ev L xs d me_273 6 [(4, .inr (.inl (x4))), (6, .inr (.inl (x6)))] [] 126 138 M (some (.inr (.inl r)), 126, 138, M)
  | 0, _, _, M, r, h => by cases h
  | n + 1, x4, x6, M, r, h => by
    have ih := R_dividing_6_t (L := L) (xs := xs) hd     n
    refine ev_k (pc' := 9) (ls' := [(4, .inr (.inl (x4))), (6, .inr (.inl (x6)))]) (st' := [.inr (.inl (0)), .inr (.inl (x6))]) (nc' := 126) (np' := 138) (M' := M) 2 rfl ?_
    obtain ⟨hc, h⟩ := ck_i h
    obtain ⟨v1, ev, h⟩ := tw_i h
    refine ev_lcmp rfl hc ?_
    rw [← ev]
    refine ev_k (pc' := 10) (ls' := [(4, .inr (.inl (x4))), (6, .inr (.inl (x6)))]) (st' := [.inl (v1)]) (nc' := 126) (np' := 138) (M' := M) 0 rfl ?_
    obtain ⟨hR, ⟨hc, h⟩ | ⟨hc, h⟩⟩ := c_eq_i h
    · refine ev_ifc 31 rfl hR.1 (by decide) (fun _ => ?_) (fun q => absurd hc q)
      refine ev_k (pc' := 33) (ls' := [(4, .inr (.inl (x4))), (6, .inr (.inl (x6)))]) (st' := [.inr (.inl (x4))]) (nc' := 126) (np' := 138) (M' := M) 1 rfl ?_
      cases h
      exact ev_ret rfl
    · refine ev_ifc 31 rfl hR.1 (by decide) (fun q => absurd q hc) (fun _ => ?_)
      refine ev_k (pc' := 17) (ls' := [(4, .inr (.inl (x4))), (6, .inr (.inl (x6)))]) (st' := [.inr (.inl (x6)), .inr (.inl (x4))]) (nc' := 126) (np' := 138) (M' := M) 2 rfl ?_
      obtain ⟨hc, h⟩ := ck_i h
      obtain ⟨v2, ev, h⟩ := tw_i h
      refine ev_lrem rfl hc ?_
      refine ev_k (pc' := 18) (ls' := [(4, .inr (.inl (x4))), (6, .inr (.inl (x6)))]) (st' := [.inr (.inl (Int.tmod (x4) (x6)))]) (nc' := 126) (np' := 138) (M' := M) 0 rfl ?_
      rw [← ev]
      refine ev_k (pc' := 6) (ls' := [(4, .inr (.inl (x6))), (6, .inr (.inl (v2)))]) (st' := []) (nc' := 126) (np' := 138) (M' := M) 6 rfl ?_
      exact ih (x6) (v2) M r h
theorem R_dividing_e {L : Nat} {xs : Nat → Int} {d : Nat} (hd : 0 ≤ d)   (x0 : Int) (x2 : Int) (M : am_M) (r : Int) (h : R_dividing   x0 x2 M = some r) : am_Ev L xs d me_273 0 (am_ar1 0 [.inr (.inl (x0)), .inr (.inl (x2))]) [] 126 138 M (some (.inr (.inl r)), 126, 138, M) := by
  refine ev_k (pc' := 6) (ls' := [(4, .inr (.inl (x0))), (6, .inr (.inl (x2)))]) (st' := []) (nc' := 126) (np' := 138) (M' := M) 4 rfl ?_
  exact R_dividing_6_t hd     am_big (x0) (x2) M r h
