def Country_armOf_1_20    (s0 : Int) (M : am_M) : Option (Int) := some (s0)
def Country_armOf_1_19     (M : am_M) : Option (Int) := (Country_armOf_1_20    (0) M)
def Country_armOf_1    (x1 : Int) (M : am_M) : Option (Int) := c_lt (x1) (0)
       (Country_armOf_1_19     M)
       (c_ge (x1) (6)
       (Country_armOf_1_19     M)
       (rd M 4 6 (x1) fun v1 => (Country_armOf_1_20    (v1) M)))
theorem Country_armOf_1_20_t {L : Nat} {xs : Nat → Int} {d : Nat} (hd : 0 ≤ d)     (s0 : Int) (M : am_M) (r : Int) (h : Country_armOf_1_20    s0 M = some r) : am_Ev L xs d me_63 20 [] [.inl (s0)] 126 138 M (some (.inl r), 126, 138, M) := by
  refine ev_k (pc' := 20) (ls' := []) (st' := [.inl (s0)]) (nc' := 126) (np' := 138) (M' := M) 0 rfl ?_
  cases h
  exact ev_ret rfl
theorem Country_armOf_1_19_t {L : Nat} {xs : Nat → Int} {d : Nat} (hd : 0 ≤ d)      (M : am_M) (r : Int) (h : Country_armOf_1_19     M = some r) : am_Ev L xs d me_63 19 [] [] 126 138 M (some (.inl r), 126, 138, M) := by
  refine ev_k (pc' := 20) (ls' := []) (st' := [.inl (0)]) (nc' := 126) (np' := 138) (M' := M) 1 rfl ?_
  exact Country_armOf_1_20_t hd     (0) M r h
theorem Country_armOf_1_e {L : Nat} {xs : Nat → Int} {d : Nat} (hd : 0 ≤ d)   (x1 : Int) (M : am_M) (r : Int) (h : Country_armOf_1   x1 M = some r) : am_Ev L xs d me_63 0 (am_ar1 0 [.inr (.inr (some 1)), .inl (x1)]) [] 126 138 M (some (.inl r), 126, 138, M) := by
  refine ev_k (pc' := 1) (ls' := [(0, .inr (.inr (some 1))), (1, .inl (x1))]) (st' := [.inl (x1)]) (nc' := 126) (np' := 138) (M' := M) 1 rfl ?_
  obtain ⟨hR, ⟨hc, h⟩ | ⟨hc, h⟩⟩ := c_lt_i h
  · refine ev_ifc 19 rfl hR.1 (by decide) (fun _ => ?_) (fun q => absurd hc q)
    exact Country_armOf_1_19_t hd      M r h
  · refine ev_ifc 19 rfl hR.1 (by decide) (fun q => absurd q hc) (fun _ => ?_)
    refine ev_k (pc' := 7) (ls' := [(0, .inr (.inr (some 1))), (1, .inl (x1))]) (st' := [.inl (6), .inl (x1)]) (nc' := 126) (np' := 138) (M' := M) 2 rfl ?_
    obtain ⟨hR, ⟨hc, h⟩ | ⟨hc, h⟩⟩ := c_ge_i h
    · refine ev_icmp 19 rfl hR.1 hR.2 (by decide) (fun _ => ?_) (fun q => absurd hc q)
      exact Country_armOf_1_19_t hd      M r h
    · refine ev_icmp 19 rfl hR.1 hR.2 (by decide) (fun q => absurd q hc) (fun _ => ?_)
      refine ev_k (pc' := 15) (ls' := [(0, .inr (.inr (some 1))), (1, .inl (x1))]) (st' := [.inl (x1), .inr (.inr (some 4))]) (nc' := 126) (np' := 138) (M' := M) 3 rfl ?_
      obtain ⟨hc, v1, ev, h⟩ := rd_i h
      refine ev_ald (k := 4) (t := 0) (Or.inl ⟨rfl, rfl⟩) rfl (by decide) (by decide) rfl hc ev ?_
      refine ev_k (pc' := 20) (ls' := []) (st' := [.inl (v1)]) (nc' := 126) (np' := 138) (M' := M) 1 rfl ?_
      exact Country_armOf_1_20_t hd     (v1) M r h
def Country_isTold_1_13    (s0 : Int) (M : am_M) : Option (Int) := ck ((s0) = 0 ∨ (s0) = 1) (some (s0))
def Country_isTold_1    (x1 : Int) (M : am_M) : Option (Int) := ob (Country_armOf_1 (x1) M) fun v1 => c_le (v1) (0)
       ((Country_isTold_1_13    (0) M))
       ((Country_isTold_1_13    (1) M))
theorem Country_isTold_1_13_t {L : Nat} {xs : Nat → Int} {d : Nat} (hd : 1 ≤ d)     (s0 : Int) (M : am_M) (r : Int) (h : Country_isTold_1_13    s0 M = some r) : am_Ev L xs d me_62 13 [] [.inl (s0)] 126 138 M (some (.inl r), 126, 138, M) := by
  refine ev_k (pc' := 13) (ls' := []) (st' := [.inl (s0)]) (nc' := 126) (np' := 138) (M' := M) 0 rfl ?_
  obtain ⟨hc, h⟩ := ck_i h
  cases h
  exact ev_retz rfl rfl hc
theorem Country_isTold_1_e {L : Nat} {xs : Nat → Int} {d : Nat} (hd : 1 ≤ d)   (x1 : Int) (M : am_M) (r : Int) (h : Country_isTold_1   x1 M = some r) : am_Ev L xs d me_62 0 (am_ar1 0 [.inr (.inr (some 1)), .inl (x1)]) [] 126 138 M (some (.inl r), 126, 138, M) := by
  refine ev_k (pc' := 2) (ls' := [(0, .inr (.inr (some 1))), (1, .inl (x1))]) (st' := [.inl (x1), .inr (.inr (some 1))]) (nc' := 126) (np' := 138) (M' := M) 2 rfl ?_
  obtain ⟨v1, hv, h⟩ := ob_i h
  refine ev_call (t := 63) (as := [.inr (.inr (some 1)), .inl (x1)]) (rest := []) rfl rfl rfl (by omega) (Country_armOf_1_e (by omega) (x1) M _ hv) ?_
  refine ev_k (pc' := 5) (ls' := [(0, .inr (.inr (some 1))), (1, .inl (x1))]) (st' := [.inl (v1)]) (nc' := 126) (np' := 138) (M' := M) 0 rfl ?_
  obtain ⟨hR, ⟨hc, h⟩ | ⟨hc, h⟩⟩ := c_le_i h
  · refine ev_ifc 12 rfl hR.1 (by decide) (fun _ => ?_) (fun q => absurd hc q)
    refine ev_k (pc' := 13) (ls' := []) (st' := [.inl (0)]) (nc' := 126) (np' := 138) (M' := M) 1 rfl ?_
    exact Country_isTold_1_13_t hd     (0) M r h
  · refine ev_ifc 12 rfl hR.1 (by decide) (fun q => absurd q hc) (fun _ => ?_)
    refine ev_k (pc' := 13) (ls' := []) (st' := [.inl (1)]) (nc' := 126) (np' := 138) (M' := M) 2 rfl ?_
    exact Country_isTold_1_13_t hd     (1) M r h
def P_person_66     (M : am_M) : Option (Int × am_M) := some (1, M)
def P_person_21     (M : am_M) : Option (Int × am_M) := some (0, M)
def P_person    (x1 : Int) (x2 : Int) (M : am_M) : Option (Int × am_M) := c_lt (x1) (0)
       (P_person_21     M)
       (c_ge (x1) (6)
       (P_person_21     M)
       (c_lt (x2) (1)
       (P_person_21     M)
       (c_le (x2) (9)
       (ob (Country_tell_1 (x1) (x2) M) fun M1 => ob (Trip_setTired_26 (x1) (0) M1) fun M2 => ob (Country_isTold_1 (M2 26 9) M2) fun v3 => c_ne (v3) (0)
       (P_person_66     M2)
       (fw M2 26 9 (x1) fun M4 => (P_person_66     M4)))
       (P_person_21     M))))
theorem P_person_66_t {L : Nat} {xs : Nat → Int} {d : Nat} (hd : 2 ≤ d)      (M : am_M) (r : Int × am_M) (h : P_person_66     M = some r) : am_Ev L xs d me_57 66 [] [] 126 138 M (some (.inl r.1), 126, 138, r.2) := by
  refine ev_k (pc' := 67) (ls' := []) (st' := [.inl (1)]) (nc' := 126) (np' := 138) (M' := M) 1 rfl ?_
  cases h
  exact ev_ret rfl
theorem P_person_21_t {L : Nat} {xs : Nat → Int} {d : Nat} (hd : 2 ≤ d)      (M : am_M) (r : Int × am_M) (h : P_person_21     M = some r) : am_Ev L xs d me_57 21 [] [] 126 138 M (some (.inl r.1), 126, 138, r.2) := by
  refine ev_k (pc' := 22) (ls' := []) (st' := [.inl (0)]) (nc' := 126) (np' := 138) (M' := M) 1 rfl ?_
  cases h
  exact ev_ret rfl
theorem P_person_e {L : Nat} {xs : Nat → Int} {d : Nat} (hd : 2 ≤ d)   (x1 : Int) (x2 : Int) (M : am_M) (r : Int × am_M) (h : P_person   x1 x2 M = some r) : am_Ev L xs d me_57 0 (am_ar1 0 [.inr (.inr (some 0)), .inl (x1), .inl (x2)]) [] 126 138 M (some (.inl r.1), 126, 138, r.2) := by
  refine ev_k (pc' := 1) (ls' := [(0, .inr (.inr (some 0))), (1, .inl (x1)), (2, .inl (x2))]) (st' := [.inl (x1)]) (nc' := 126) (np' := 138) (M' := M) 1 rfl ?_
  obtain ⟨hR, ⟨hc, h⟩ | ⟨hc, h⟩⟩ := c_lt_i h
  · refine ev_ifc 21 rfl hR.1 (by decide) (fun _ => ?_) (fun q => absurd hc q)
    exact P_person_21_t hd      M r h
  · refine ev_ifc 21 rfl hR.1 (by decide) (fun q => absurd q hc) (fun _ => ?_)
    refine ev_k (pc' := 7) (ls' := [(0, .inr (.inr (some 0))), (1, .inl (x1)), (2, .inl (x2))]) (st' := [.inl (6), .inl (x1)]) (nc' := 126) (np' := 138) (M' := M) 2 rfl ?_
    obtain ⟨hR, ⟨hc, h⟩ | ⟨hc, h⟩⟩ := c_ge_i h
    · refine ev_icmp 21 rfl hR.1 hR.2 (by decide) (fun _ => ?_) (fun q => absurd hc q)
      exact P_person_21_t hd      M r h
    · refine ev_icmp 21 rfl hR.1 hR.2 (by decide) (fun q => absurd q hc) (fun _ => ?_)
      refine ev_k (pc' := 12) (ls' := [(0, .inr (.inr (some 0))), (1, .inl (x1)), (2, .inl (x2))]) (st' := [.inl (1), .inl (x2)]) (nc' := 126) (np' := 138) (M' := M) 2 rfl ?_
      obtain ⟨hR, ⟨hc, h⟩ | ⟨hc, h⟩⟩ := c_lt_i h
      · refine ev_icmp 21 rfl hR.1 hR.2 (by decide) (fun _ => ?_) (fun q => absurd hc q)
        exact P_person_21_t hd      M r h
      · refine ev_icmp 21 rfl hR.1 hR.2 (by decide) (fun q => absurd q hc) (fun _ => ?_)
        refine ev_k (pc' := 18) (ls' := [(0, .inr (.inr (some 0))), (1, .inl (x1)), (2, .inl (x2))]) (st' := [.inl (9), .inl (x2)]) (nc' := 126) (np' := 138) (M' := M) 2 rfl ?_
        obtain ⟨hR, ⟨hc, h⟩ | ⟨hc, h⟩⟩ := c_le_i h
        · refine ev_icmp 23 rfl hR.1 hR.2 (by decide) (fun _ => ?_) (fun q => absurd hc q)
          refine ev_k (pc' := 29) (ls' := [(0, .inr (.inr (some 0))), (1, .inl (x1)), (2, .inl (x2))]) (st' := [.inl (x2), .inl (x1), .inr (.inr (some 1))]) (nc' := 126) (np' := 138) (M' := M) 4 rfl ?_
          obtain ⟨M1, hv, h⟩ := ob_i h
          refine ev_call (t := 58) (as := [.inr (.inr (some 1)), .inl (x1), .inl (x2)]) (rest := []) rfl rfl rfl (by omega) (Country_tell_1_e (by omega) (x1) (x2) M _ hv) ?_
          refine ev_k (pc' := 38) (ls' := [(0, .inr (.inr (some 0))), (1, .inl (x1)), (2, .inl (x2))]) (st' := [.inl (0), .inl (x1), .inr (.inr (some 26))]) (nc' := 126) (np' := 138) (M' := M1) 4 rfl ?_
          obtain ⟨M2, hv, h⟩ := ob_i h
          refine ev_call (t := 59) (as := [.inr (.inr (some 26)), .inl (x1), .inl (0)]) (rest := []) rfl rfl rfl (by omega) (Trip_setTired_26_e (by omega) (x1) (0) M1 _ hv) ?_
          refine ev_k (pc' := 52) (ls' := [(0, .inr (.inr (some 0))), (1, .inl (x1)), (2, .inl (x2))]) (st' := [.inl (M2 26 9), .inr (.inr (some 1))]) (nc' := 126) (np' := 138) (M' := M2) 5 rfl ?_
          obtain ⟨v3, hv, h⟩ := ob_i h
          refine ev_call (t := 62) (as := [.inr (.inr (some 1)), .inl (M2 26 9)]) (rest := []) rfl rfl rfl (by omega) (Country_isTold_1_e (by omega) (M2 26 9) M2 _ hv) ?_
          refine ev_k (pc' := 55) (ls' := [(0, .inr (.inr (some 0))), (1, .inl (x1)), (2, .inl (x2))]) (st' := [.inl (v3)]) (nc' := 126) (np' := 138) (M' := M2) 0 rfl ?_
          obtain ⟨hR, ⟨hc, h⟩ | ⟨hc, h⟩⟩ := c_ne_i h
          · refine ev_ifc 66 rfl hR.1 (by decide) (fun _ => ?_) (fun q => absurd hc q)
            exact P_person_66_t hd      M2 r h
          · refine ev_ifc 66 rfl hR.1 (by decide) (fun q => absurd q hc) (fun _ => ?_)
            refine ev_k (pc' := 66) (ls' := []) (st' := []) (nc' := 126) (np' := 138) (M' := am_up M2 26 9 (x1)) 4 rfl ?_
            obtain ⟨M4, eM, h⟩ := fw_i h
            rw [← eM]
            exact P_person_66_t hd      M4 r h
        · refine ev_icmp 23 rfl hR.1 hR.2 (by decide) (fun q => absurd q hc) (fun _ => ?_)
          exact P_person_21_t hd      M r h
def P_ahead    (x1 : Int) (M : am_M) : Option (Int × am_M) := ob (Country_isTold_1 (x1) M) fun v1 => c_ne (v1) (0)
       (fw M 26 9 (x1) fun M2 => some (1, M2))
       (some (0, M))
theorem P_ahead_e {L : Nat} {xs : Nat → Int} {d : Nat} (hd : 2 ≤ d)   (x1 : Int) (M : am_M) (r : Int × am_M) (h : P_ahead   x1 M = some r) : am_Ev L xs d me_64 0 (am_ar1 0 [.inr (.inr (some 0)), .inl (x1)]) [] 126 138 M (some (.inl r.1), 126, 138, r.2) := by
  refine ev_k (pc' := 5) (ls' := [(0, .inr (.inr (some 0))), (1, .inl (x1))]) (st' := [.inl (x1), .inr (.inr (some 1))]) (nc' := 126) (np' := 138) (M' := M) 3 rfl ?_
  obtain ⟨v1, hv, h⟩ := ob_i h
  refine ev_call (t := 62) (as := [.inr (.inr (some 1)), .inl (x1)]) (rest := []) rfl rfl rfl (by omega) (Country_isTold_1_e (by omega) (x1) M _ hv) ?_
  refine ev_k (pc' := 8) (ls' := [(0, .inr (.inr (some 0))), (1, .inl (x1))]) (st' := [.inl (v1)]) (nc' := 126) (np' := 138) (M' := M) 0 rfl ?_
  obtain ⟨hR, ⟨hc, h⟩ | ⟨hc, h⟩⟩ := c_ne_i h
  · refine ev_ifc 13 rfl hR.1 (by decide) (fun _ => ?_) (fun q => absurd hc q)
    refine ev_k (pc' := 21) (ls' := [(0, .inr (.inr (some 0))), (1, .inl (x1))]) (st' := []) (nc' := 126) (np' := 138) (M' := am_up M 26 9 (x1)) 4 rfl ?_
    obtain ⟨M2, eM, h⟩ := fw_i h
    rw [← eM]
    refine ev_k (pc' := 22) (ls' := [(0, .inr (.inr (some 0))), (1, .inl (x1))]) (st' := [.inl (1)]) (nc' := 126) (np' := 138) (M' := M2) 1 rfl ?_
    cases h
    exact ev_ret rfl
  · refine ev_ifc 13 rfl hR.1 (by decide) (fun q => absurd q hc) (fun _ => ?_)
    refine ev_k (pc' := 12) (ls' := [(0, .inr (.inr (some 0))), (1, .inl (x1))]) (st' := [.inl (0)]) (nc' := 126) (np' := 138) (M' := M) 1 rfl ?_
    cases h
    exact ev_ret rfl
def P_width_10     (M : am_M) : Option (Int × am_M) := some (0, M)
def P_width    (x1 : Int) (M : am_M) : Option (Int × am_M) := c_lt (x1) (1)
       (P_width_10     M)
       (c_le (x1) (4)
       (fw M 1 3 (x1) fun M1 => some (1, M1))
       (P_width_10     M))
theorem P_width_10_t {L : Nat} {xs : Nat → Int} {d : Nat} (hd : 0 ≤ d)      (M : am_M) (r : Int × am_M) (h : P_width_10     M = some r) : am_Ev L xs d me_65 10 [] [] 126 138 M (some (.inl r.1), 126, 138, r.2) := by
  refine ev_k (pc' := 11) (ls' := []) (st' := [.inl (0)]) (nc' := 126) (np' := 138) (M' := M) 1 rfl ?_
  cases h
  exact ev_ret rfl
theorem P_width_e {L : Nat} {xs : Nat → Int} {d : Nat} (hd : 0 ≤ d)   (x1 : Int) (M : am_M) (r : Int × am_M) (h : P_width   x1 M = some r) : am_Ev L xs d me_65 0 (am_ar1 0 [.inr (.inr (some 0)), .inl (x1)]) [] 126 138 M (some (.inl r.1), 126, 138, r.2) := by
  refine ev_k (pc' := 2) (ls' := [(0, .inr (.inr (some 0))), (1, .inl (x1))]) (st' := [.inl (1), .inl (x1)]) (nc' := 126) (np' := 138) (M' := M) 2 rfl ?_
  obtain ⟨hR, ⟨hc, h⟩ | ⟨hc, h⟩⟩ := c_lt_i h
  · refine ev_icmp 10 rfl hR.1 hR.2 (by decide) (fun _ => ?_) (fun q => absurd hc q)
    exact P_width_10_t hd      M r h
  · refine ev_icmp 10 rfl hR.1 hR.2 (by decide) (fun q => absurd q hc) (fun _ => ?_)
    refine ev_k (pc' := 7) (ls' := [(0, .inr (.inr (some 0))), (1, .inl (x1))]) (st' := [.inl (4), .inl (x1)]) (nc' := 126) (np' := 138) (M' := M) 2 rfl ?_
    obtain ⟨hR, ⟨hc, h⟩ | ⟨hc, h⟩⟩ := c_le_i h
    · refine ev_icmp 12 rfl hR.1 hR.2 (by decide) (fun _ => ?_) (fun q => absurd hc q)
      refine ev_k (pc' := 20) (ls' := [(0, .inr (.inr (some 0))), (1, .inl (x1))]) (st' := []) (nc' := 126) (np' := 138) (M' := am_up M 1 3 (x1)) 4 rfl ?_
      obtain ⟨M1, eM, h⟩ := fw_i h
      rw [← eM]
      refine ev_k (pc' := 21) (ls' := [(0, .inr (.inr (some 0))), (1, .inl (x1))]) (st' := [.inl (1)]) (nc' := 126) (np' := 138) (M' := M1) 1 rfl ?_
      cases h
      exact ev_ret rfl
    · refine ev_icmp 12 rfl hR.1 hR.2 (by decide) (fun q => absurd q hc) (fun _ => ?_)
      exact P_width_10_t hd      M r h
def P_light_11     (M : am_M) : Option (Int × am_M) := some (0, M)
def P_light    (x1 : Int) (M : am_M) : Option (Int × am_M) := c_lt (x1) (0)
       (P_light_11     M)
       (c_le (x1) (999)
       (fw M 1 4 (x1) fun M1 => some (1, M1))
       (P_light_11     M))
theorem P_light_11_t {L : Nat} {xs : Nat → Int} {d : Nat} (hd : 0 ≤ d)      (M : am_M) (r : Int × am_M) (h : P_light_11     M = some r) : am_Ev L xs d me_66 11 [] [] 126 138 M (some (.inl r.1), 126, 138, r.2) := by
  refine ev_k (pc' := 12) (ls' := []) (st' := [.inl (0)]) (nc' := 126) (np' := 138) (M' := M) 1 rfl ?_
  cases h
  exact ev_ret rfl
theorem P_light_e {L : Nat} {xs : Nat → Int} {d : Nat} (hd : 0 ≤ d)   (x1 : Int) (M : am_M) (r : Int × am_M) (h : P_light   x1 M = some r) : am_Ev L xs d me_66 0 (am_ar1 0 [.inr (.inr (some 0)), .inl (x1)]) [] 126 138 M (some (.inl r.1), 126, 138, r.2) := by
  refine ev_k (pc' := 1) (ls' := [(0, .inr (.inr (some 0))), (1, .inl (x1))]) (st' := [.inl (x1)]) (nc' := 126) (np' := 138) (M' := M) 1 rfl ?_
  obtain ⟨hR, ⟨hc, h⟩ | ⟨hc, h⟩⟩ := c_lt_i h
  · refine ev_ifc 11 rfl hR.1 (by decide) (fun _ => ?_) (fun q => absurd hc q)
    exact P_light_11_t hd      M r h
  · refine ev_ifc 11 rfl hR.1 (by decide) (fun q => absurd q hc) (fun _ => ?_)
    refine ev_k (pc' := 8) (ls' := [(0, .inr (.inr (some 0))), (1, .inl (x1))]) (st' := [.inl (999), .inl (x1)]) (nc' := 126) (np' := 138) (M' := M) 2 rfl ?_
    obtain ⟨hR, ⟨hc, h⟩ | ⟨hc, h⟩⟩ := c_le_i h
    · refine ev_icmp 13 rfl hR.1 hR.2 (by decide) (fun _ => ?_) (fun q => absurd hc q)
      refine ev_k (pc' := 21) (ls' := [(0, .inr (.inr (some 0))), (1, .inl (x1))]) (st' := []) (nc' := 126) (np' := 138) (M' := am_up M 1 4 (x1)) 4 rfl ?_
      obtain ⟨M1, eM, h⟩ := fw_i h
      rw [← eM]
      refine ev_k (pc' := 22) (ls' := [(0, .inr (.inr (some 0))), (1, .inl (x1))]) (st' := [.inl (1)]) (nc' := 126) (np' := 138) (M' := M1) 1 rfl ?_
      cases h
      exact ev_ret rfl
    · refine ev_icmp 13 rfl hR.1 hR.2 (by decide) (fun q => absurd q hc) (fun _ => ?_)
      exact P_light_11_t hd      M r h
def Outing_here_50_30    (s0 : Int) (M : am_M) : Option (Int) := some (s0)
def Outing_here_50_14     (M : am_M) : Option (Int) := (Outing_here_50_30    (-2) M)
def Outing_here_50     (M : am_M) : Option (Int) := c_lt (M 50 6) (0)
       (Outing_here_50_14     M)
       (ck (M 50 4 ≠ 0) (ck (M 50 4 ≠ 0) (ob (Tape_at (M 50 5) M) fun v1 => (Outing_here_50_30    (v1) M))))
theorem Outing_here_50_30_t {L : Nat} {xs : Nat → Int} {d : Nat} (hd : 1 ≤ d)     (s0 : Int) (M : am_M) (r : Int) (h : Outing_here_50_30    s0 M = some r) : am_Ev L xs d me_71 30 [] [.inl (s0)] 126 138 M (some (.inl r), 126, 138, M) := by
  refine ev_k (pc' := 30) (ls' := []) (st' := [.inl (s0)]) (nc' := 126) (np' := 138) (M' := M) 0 rfl ?_
  cases h
  exact ev_ret rfl
theorem Outing_here_50_14_t {L : Nat} {xs : Nat → Int} {d : Nat} (hd : 1 ≤ d)      (M : am_M) (r : Int) (h : Outing_here_50_14     M = some r) : am_Ev L xs d me_71 14 [] [] 126 138 M (some (.inl r), 126, 138, M) := by
  refine ev_k (pc' := 30) (ls' := []) (st' := [.inl (-2)]) (nc' := 126) (np' := 138) (M' := M) 2 rfl ?_
  exact Outing_here_50_30_t hd     (-2) M r h
theorem Outing_here_50_e {L : Nat} {xs : Nat → Int} {d : Nat} (hd : 1 ≤ d)    (M : am_M) (r : Int) (h : Outing_here_50    M = some r) : am_Ev L xs d me_71 0 (am_ar1 0 [.inr (.inr (some 50))]) [] 126 138 M (some (.inl r), 126, 138, M) := by
  refine ev_k (pc' := 4) (ls' := [(0, .inr (.inr (some 50)))]) (st' := [.inl (M 50 6)]) (nc' := 126) (np' := 138) (M' := M) 2 rfl ?_
  obtain ⟨hR, ⟨hc, h⟩ | ⟨hc, h⟩⟩ := c_lt_i h
  · refine ev_ifc 14 rfl hR.1 (by decide) (fun _ => ?_) (fun q => absurd hc q)
    exact Outing_here_50_14_t hd      M r h
  · refine ev_ifc 14 rfl hR.1 (by decide) (fun q => absurd q hc) (fun _ => ?_)
    refine ev_k (pc' := 8) (ls' := [(0, .inr (.inr (some 50)))]) (st' := [.inr (.inr (some 50))]) (nc' := 126) (np' := 138) (M' := M) 1 rfl ?_
    obtain ⟨hc, h⟩ := ck_i h
    refine ev_getn (k := 50) rfl rfl (by decide) rfl rfl hc ?_
    refine ev_k (pc' := 20) (ls' := [(0, .inr (.inr (some 50)))]) (st' := [.inr (.inr (some 50))]) (nc' := 126) (np' := 138) (M' := M) 2 rfl ?_
    obtain ⟨hc, h⟩ := ck_i h
    refine ev_getn (k := 50) rfl rfl (by decide) rfl rfl hc ?_
    refine ev_k (pc' := 27) (ls' := [(0, .inr (.inr (some 50)))]) (st' := [.inl (M 50 5), .inr (.inr (some 14))]) (nc' := 126) (np' := 138) (M' := M) 2 rfl ?_
    obtain ⟨v1, hv, h⟩ := ob_i h
    refine ev_call (t := 23) (as := [.inr (.inr (some 14)), .inl (M 50 5)]) (rest := []) rfl rfl rfl (by omega) (Tape_at_e (by omega) (M 50 5) M _ hv) ?_
    exact Outing_here_50_30_t hd     (v1) M r h
def Outing_readRow_50_48  (rc70 : Int → am_M → Option am_M)   (M : am_M) : Option (am_M) := some (M)
def Outing_readRow_50_7  (rc70 : Int → am_M → Option am_M)  : Nat → Int → Int → am_M → Option (am_M)
  | 0, _, _, _ => none
  | n + 1, x1, x2, M => c_ge (x2) (80)
       (Outing_readRow_50_48  rc70   M)
       (c_ne (M 50 6) (0)
       (Outing_readRow_50_48  rc70   M)
       (ob (Outing_here_50  M) fun v1 => c_eq (v1) (-1)
       (Outing_readRow_50_48  rc70   M)
       (ob (Outing_here_50  M) fun v2 => c_eq (v2) (41)
       (Outing_readRow_50_48  rc70   M)
       (ob (rc70 (x1) M) fun M3 => (Outing_readRow_50_7  rc70  n (x1) ((x2) + (1)) M3)))))
def Outing_readRow_50  (rc70 : Int → am_M → Option am_M)  (x1 : Int) (M : am_M) : Option (am_M) := ob (rc70 (x1) M) fun M1 => (Outing_readRow_50_7  rc70  am_big (x1) (0) M1)
theorem Outing_readRow_50_48_t {L : Nat} {xs : Nat → Int} {d : Nat} (hd : 2 ≤ d) (rc70 : Int → am_M → Option am_M) (hrc70 : ∀ (a0 : Int) (M : am_M) (r : am_M), rc70 a0 M = some r → am_Ev L xs (d - 1) me_70 0 (am_ar1 0 [.inr (.inr (some 50)), .inl (a0)]) [] 126 138 M (none, 126, 138, r))    (M : am_M) (r : am_M) (h : Outing_readRow_50_48  rc70   M = some r) : am_Ev L xs d me_69 48 [] [] 126 138 M (none, 126, 138, r) := by
  refine ev_k (pc' := 48) (ls' := []) (st' := []) (nc' := 126) (np' := 138) (M' := M) 0 rfl ?_
  cases h
  exact ev_ret rfl
theorem Outing_readRow_50_7_t {L : Nat} {xs : Nat → Int} {d : Nat} (hd : 2 ≤ d) (rc70 : Int → am_M → Option am_M) (hrc70 : ∀ (a0 : Int) (M : am_M) (r : am_M), rc70 a0 M = some r → am_Ev L xs (d - 1) me_70 0 (am_ar1 0 [.inr (.inr (some 50)), .inl (a0)]) [] 126 138 M (none, 126, 138, r))   : ∀ (n : Nat) (x1 : Int) (x2 : Int) (M : am_M) (r : am_M), Outing_readRow_50_7  rc70  n x1 x2 M = some r → am_Ev L xs d me_69 7 [(0, .inr (.inr (some 50))), (1, .inl (x1)), (2, .inl (x2))] [] 126 138 M (none, 126, 138, r)
  | 0, _, _, M, r, h => by cases h
  | n + 1, x1, x2, M, r, h => by
    have ih := Outing_readRow_50_7_t (L := L) (xs := xs) hd rc70 hrc70   n
    refine ev_k (pc' := 10) (ls' := [(0, .inr (.inr (some 50))), (1, .inl (x1)), (2, .inl (x2))]) (st' := [.inl (80), .inl (x2)]) (nc' := 126) (np' := 138) (M' := M) 2 rfl ?_
    obtain ⟨hR, ⟨hc, h⟩ | ⟨hc, h⟩⟩ := c_ge_i h
    · refine ev_icmp 48 rfl hR.1 hR.2 (by decide) (fun _ => ?_) (fun q => absurd hc q)
      exact Outing_readRow_50_48_t hd rc70 hrc70    M r h
    · refine ev_icmp 48 rfl hR.1 hR.2 (by decide) (fun q => absurd q hc) (fun _ => ?_)
      refine ev_k (pc' := 17) (ls' := [(0, .inr (.inr (some 50))), (1, .inl (x1)), (2, .inl (x2))]) (st' := [.inl (M 50 6)]) (nc' := 126) (np' := 138) (M' := M) 2 rfl ?_
      obtain ⟨hR, ⟨hc, h⟩ | ⟨hc, h⟩⟩ := c_ne_i h
      · refine ev_ifc 48 rfl hR.1 (by decide) (fun _ => ?_) (fun q => absurd hc q)
        exact Outing_readRow_50_48_t hd rc70 hrc70    M r h
      · refine ev_ifc 48 rfl hR.1 (by decide) (fun q => absurd q hc) (fun _ => ?_)
        refine ev_k (pc' := 21) (ls' := [(0, .inr (.inr (some 50))), (1, .inl (x1)), (2, .inl (x2))]) (st' := [.inr (.inr (some 50))]) (nc' := 126) (np' := 138) (M' := M) 1 rfl ?_
        obtain ⟨v1, hv, h⟩ := ob_i h
        refine ev_call (t := 71) (as := [.inr (.inr (some 50))]) (rest := []) rfl rfl rfl (by omega) (Outing_here_50_e (by omega)  M _ hv) ?_
        refine ev_k (pc' := 25) (ls' := [(0, .inr (.inr (some 50))), (1, .inl (x1)), (2, .inl (x2))]) (st' := [.inl (-1), .inl (v1)]) (nc' := 126) (np' := 138) (M' := M) 1 rfl ?_
        obtain ⟨hR, ⟨hc, h⟩ | ⟨hc, h⟩⟩ := c_eq_i h
        · refine ev_icmp 48 rfl hR.1 hR.2 (by decide) (fun _ => ?_) (fun q => absurd hc q)
          exact Outing_readRow_50_48_t hd rc70 hrc70    M r h
        · refine ev_icmp 48 rfl hR.1 hR.2 (by decide) (fun q => absurd q hc) (fun _ => ?_)
          refine ev_k (pc' := 29) (ls' := [(0, .inr (.inr (some 50))), (1, .inl (x1)), (2, .inl (x2))]) (st' := [.inr (.inr (some 50))]) (nc' := 126) (np' := 138) (M' := M) 1 rfl ?_
          obtain ⟨v2, hv, h⟩ := ob_i h
          refine ev_call (t := 71) (as := [.inr (.inr (some 50))]) (rest := []) rfl rfl rfl (by omega) (Outing_here_50_e (by omega)  M _ hv) ?_
          refine ev_k (pc' := 34) (ls' := [(0, .inr (.inr (some 50))), (1, .inl (x1)), (2, .inl (x2))]) (st' := [.inl (41), .inl (v2)]) (nc' := 126) (np' := 138) (M' := M) 1 rfl ?_
          obtain ⟨hR, ⟨hc, h⟩ | ⟨hc, h⟩⟩ := c_eq_i h
          · refine ev_icmp 48 rfl hR.1 hR.2 (by decide) (fun _ => ?_) (fun q => absurd hc q)
            exact Outing_readRow_50_48_t hd rc70 hrc70    M r h
          · refine ev_icmp 48 rfl hR.1 hR.2 (by decide) (fun q => absurd q hc) (fun _ => ?_)
            refine ev_k (pc' := 39) (ls' := [(0, .inr (.inr (some 50))), (1, .inl (x1)), (2, .inl (x2))]) (st' := [.inl (x1), .inr (.inr (some 50))]) (nc' := 126) (np' := 138) (M' := M) 2 rfl ?_
            obtain ⟨M3, hv, h⟩ := ob_i h
            refine ev_call (t := 70) (as := [.inr (.inr (some 50)), .inl (x1)]) (rest := []) rfl rfl rfl (by omega) (hrc70 (x1) M _ hv) ?_
            refine ev_k (pc' := 7) (ls' := [(0, .inr (.inr (some 50))), (1, .inl (x1)), (2, .inl ((x2) + (1)))]) (st' := []) (nc' := 126) (np' := 138) (M' := M3) 2 rfl ?_
            exact ih (x1) ((x2) + (1)) M3 r h
theorem Outing_readRow_50_e {L : Nat} {xs : Nat → Int} {d : Nat} (hd : 2 ≤ d) (rc70 : Int → am_M → Option am_M) (hrc70 : ∀ (a0 : Int) (M : am_M) (r : am_M), rc70 a0 M = some r → am_Ev L xs (d - 1) me_70 0 (am_ar1 0 [.inr (.inr (some 50)), .inl (a0)]) [] 126 138 M (none, 126, 138, r)) (x1 : Int) (M : am_M) (r : am_M) (h : Outing_readRow_50  rc70 x1 M = some r) : am_Ev L xs d me_69 0 (am_ar1 0 [.inr (.inr (some 50)), .inl (x1)]) [] 126 138 M (none, 126, 138, r) := by
  refine ev_k (pc' := 2) (ls' := [(0, .inr (.inr (some 50))), (1, .inl (x1))]) (st' := [.inl (x1), .inr (.inr (some 50))]) (nc' := 126) (np' := 138) (M' := M) 2 rfl ?_
  obtain ⟨M1, hv, h⟩ := ob_i h
  refine ev_call (t := 70) (as := [.inr (.inr (some 50)), .inl (x1)]) (rest := []) rfl rfl rfl (by omega) (hrc70 (x1) M _ hv) ?_
  refine ev_k (pc' := 7) (ls' := [(0, .inr (.inr (some 50))), (1, .inl (x1)), (2, .inl (0))]) (st' := []) (nc' := 126) (np' := 138) (M' := M1) 2 rfl ?_
  exact Outing_readRow_50_7_t hd rc70 hrc70   am_big (x1) (0) M1 r h
def Outing_wayOf    (x0 : Int) (M : am_M) : Option (Int) := ck (am_R (x0)) ((if (x0) = (101) then
       (some (1)) else
       (if (x0) = (110) then
       (some (0)) else
       (if (x0) = (115) then
       (some (2)) else
       (if (x0) = (119) then
       (some (3)) else
       (some (-1)))))))
theorem Outing_wayOf_e {L : Nat} {xs : Nat → Int} {d : Nat} (hd : 0 ≤ d)   (x0 : Int) (M : am_M) (r : Int) (h : Outing_wayOf   x0 M = some r) : am_Ev L xs d me_77 0 (am_ar1 0 [.inl (x0)]) [] 126 138 M (some (.inl r), 126, 138, M) := by
  refine ev_k (pc' := 1) (ls' := [(0, .inl (x0))]) (st' := [.inl (x0)]) (nc' := 126) (np' := 138) (M' := M) 1 rfl ?_
  obtain ⟨hR, h⟩ := ck_i h
  rcases if_i h with ⟨hq, h⟩ | ⟨hq0, h⟩
  · refine ev_lsw 46 rfl hR rfl (45) (by rw [hq]; rfl) (by decide) ?_
    refine ev_k (pc' := 47) (ls' := [(0, .inl (x0))]) (st' := [.inl (1)]) (nc' := 126) (np' := 138) (M' := M) 1 rfl ?_
    cases h
    exact ev_ret rfl
  · skip
    rcases if_i h with ⟨hq, h⟩ | ⟨hq1, h⟩
    · refine ev_lsw 44 rfl hR rfl (43) (by rw [hq]; rfl) (by decide) ?_
      refine ev_k (pc' := 45) (ls' := [(0, .inl (x0))]) (st' := [.inl (0)]) (nc' := 126) (np' := 138) (M' := M) 1 rfl ?_
      cases h
      exact ev_ret rfl
    · skip
      rcases if_i h with ⟨hq, h⟩ | ⟨hq2, h⟩
      · refine ev_lsw 48 rfl hR rfl (47) (by rw [hq]; rfl) (by decide) ?_
        refine ev_k (pc' := 49) (ls' := [(0, .inl (x0))]) (st' := [.inl (2)]) (nc' := 126) (np' := 138) (M' := M) 1 rfl ?_
        cases h
        exact ev_ret rfl
      · skip
        rcases if_i h with ⟨hq, h⟩ | ⟨hq3, h⟩
        · refine ev_lsw 50 rfl hR rfl (49) (by rw [hq]; rfl) (by decide) ?_
          refine ev_k (pc' := 51) (ls' := [(0, .inl (x0))]) (st' := [.inl (3)]) (nc' := 126) (np' := 138) (M' := M) 1 rfl ?_
          cases h
          exact ev_ret rfl
        · skip
          refine ev_lsw 52 rfl hR rfl (51) ?_ (by decide) ?_
          · exact am_lsd _ _ _ (by simp only [List.forall_mem_cons, List.not_mem_nil]; exact ⟨hq0, hq1, hq2, hq3, by simp⟩)
          · skip
            refine ev_k (pc' := 53) (ls' := [(0, .inl (x0))]) (st' := [.inl (-1)]) (nc' := 126) (np' := 138) (M' := M) 1 rfl ?_
            cases h
            exact ev_ret rfl
def Outing_isAct_42    (s0 : Int) (M : am_M) : Option (Int) := ck ((s0) = 0 ∨ (s0) = 1) (some (s0))
def Outing_isAct_37     (M : am_M) : Option (Int) := (Outing_isAct_42    (1) M)
def Outing_isAct    (x0 : Int) (M : am_M) : Option (Int) := ob (Outing_wayOf (x0) M) fun v1 => c_ge (v1) (0)
       (Outing_isAct_37     M)
       (c_eq (x0) (46)
       (Outing_isAct_37     M)
       (c_eq (x0) (43)
       (Outing_isAct_37     M)
       (c_eq (x0) (111)
       (Outing_isAct_37     M)
       (c_eq (x0) (98)
       (Outing_isAct_37     M)
       (c_ne (x0) (120)
       ((Outing_isAct_42    (0) M))
       (Outing_isAct_37     M))))))
theorem Outing_isAct_42_t {L : Nat} {xs : Nat → Int} {d : Nat} (hd : 1 ≤ d)     (s0 : Int) (M : am_M) (r : Int) (h : Outing_isAct_42    s0 M = some r) : am_Ev L xs d me_76 42 [] [.inl (s0)] 126 138 M (some (.inl r), 126, 138, M) := by
  refine ev_k (pc' := 42) (ls' := []) (st' := [.inl (s0)]) (nc' := 126) (np' := 138) (M' := M) 0 rfl ?_
  obtain ⟨hc, h⟩ := ck_i h
  cases h
  exact ev_retz rfl rfl hc
theorem Outing_isAct_37_t {L : Nat} {xs : Nat → Int} {d : Nat} (hd : 1 ≤ d)      (M : am_M) (r : Int) (h : Outing_isAct_37     M = some r) : am_Ev L xs d me_76 37 [] [] 126 138 M (some (.inl r), 126, 138, M) := by
  refine ev_k (pc' := 42) (ls' := []) (st' := [.inl (1)]) (nc' := 126) (np' := 138) (M' := M) 2 rfl ?_
  exact Outing_isAct_42_t hd     (1) M r h
theorem Outing_isAct_e {L : Nat} {xs : Nat → Int} {d : Nat} (hd : 1 ≤ d)   (x0 : Int) (M : am_M) (r : Int) (h : Outing_isAct   x0 M = some r) : am_Ev L xs d me_76 0 (am_ar1 0 [.inl (x0)]) [] 126 138 M (some (.inl r), 126, 138, M) := by
  refine ev_k (pc' := 1) (ls' := [(0, .inl (x0))]) (st' := [.inl (x0)]) (nc' := 126) (np' := 138) (M' := M) 1 rfl ?_
  obtain ⟨v1, hv, h⟩ := ob_i h
  refine ev_call (t := 77) (as := [.inl (x0)]) (rest := []) rfl rfl rfl (by omega) (Outing_wayOf_e (by omega) (x0) M _ hv) ?_
  refine ev_k (pc' := 4) (ls' := [(0, .inl (x0))]) (st' := [.inl (v1)]) (nc' := 126) (np' := 138) (M' := M) 0 rfl ?_
  obtain ⟨hR, ⟨hc, h⟩ | ⟨hc, h⟩⟩ := c_ge_i h
  · refine ev_ifc 37 rfl hR.1 (by decide) (fun _ => ?_) (fun q => absurd hc q)
    exact Outing_isAct_37_t hd      M r h
  · refine ev_ifc 37 rfl hR.1 (by decide) (fun q => absurd q hc) (fun _ => ?_)
    refine ev_k (pc' := 10) (ls' := [(0, .inl (x0))]) (st' := [.inl (46), .inl (x0)]) (nc' := 126) (np' := 138) (M' := M) 2 rfl ?_
    obtain ⟨hR, ⟨hc, h⟩ | ⟨hc, h⟩⟩ := c_eq_i h
    · refine ev_icmp 37 rfl hR.1 hR.2 (by decide) (fun _ => ?_) (fun q => absurd hc q)
      exact Outing_isAct_37_t hd      M r h
    · refine ev_icmp 37 rfl hR.1 hR.2 (by decide) (fun q => absurd q hc) (fun _ => ?_)
      refine ev_k (pc' := 16) (ls' := [(0, .inl (x0))]) (st' := [.inl (43), .inl (x0)]) (nc' := 126) (np' := 138) (M' := M) 2 rfl ?_
      obtain ⟨hR, ⟨hc, h⟩ | ⟨hc, h⟩⟩ := c_eq_i h
      · refine ev_icmp 37 rfl hR.1 hR.2 (by decide) (fun _ => ?_) (fun q => absurd hc q)
        exact Outing_isAct_37_t hd      M r h
      · refine ev_icmp 37 rfl hR.1 hR.2 (by decide) (fun q => absurd q hc) (fun _ => ?_)
        refine ev_k (pc' := 22) (ls' := [(0, .inl (x0))]) (st' := [.inl (111), .inl (x0)]) (nc' := 126) (np' := 138) (M' := M) 2 rfl ?_
        obtain ⟨hR, ⟨hc, h⟩ | ⟨hc, h⟩⟩ := c_eq_i h
        · refine ev_icmp 37 rfl hR.1 hR.2 (by decide) (fun _ => ?_) (fun q => absurd hc q)
          exact Outing_isAct_37_t hd      M r h
        · refine ev_icmp 37 rfl hR.1 hR.2 (by decide) (fun q => absurd q hc) (fun _ => ?_)
          refine ev_k (pc' := 28) (ls' := [(0, .inl (x0))]) (st' := [.inl (98), .inl (x0)]) (nc' := 126) (np' := 138) (M' := M) 2 rfl ?_
          obtain ⟨hR, ⟨hc, h⟩ | ⟨hc, h⟩⟩ := c_eq_i h
          · refine ev_icmp 37 rfl hR.1 hR.2 (by decide) (fun _ => ?_) (fun q => absurd hc q)
            exact Outing_isAct_37_t hd      M r h
          · refine ev_icmp 37 rfl hR.1 hR.2 (by decide) (fun q => absurd q hc) (fun _ => ?_)
            refine ev_k (pc' := 34) (ls' := [(0, .inl (x0))]) (st' := [.inl (120), .inl (x0)]) (nc' := 126) (np' := 138) (M' := M) 2 rfl ?_
            obtain ⟨hR, ⟨hc, h⟩ | ⟨hc, h⟩⟩ := c_ne_i h
            · refine ev_icmp 41 rfl hR.1 hR.2 (by decide) (fun _ => ?_) (fun q => absurd hc q)
              refine ev_k (pc' := 42) (ls' := []) (st' := [.inl (0)]) (nc' := 126) (np' := 138) (M' := M) 1 rfl ?_
              exact Outing_isAct_42_t hd     (0) M r h
            · refine ev_icmp 41 rfl hR.1 hR.2 (by decide) (fun q => absurd q hc) (fun _ => ?_)
              exact Outing_isAct_37_t hd      M r h
def Outing_fail_50_16     (M : am_M) : Option (am_M) := some (M)
def Outing_fail_50    (x1 : Int) (x2 : Int) (M : am_M) : Option (am_M) := c_ne (M 50 6) (0)
       (Outing_fail_50_16     M)
       (ob (P_faultAt (x1) (x2) M) fun v1 => fw M 50 6 (v1) fun M2 => (Outing_fail_50_16     M2))
theorem Outing_fail_50_16_t {L : Nat} {xs : Nat → Int} {d : Nat} (hd : 1 ≤ d)      (M : am_M) (r : am_M) (h : Outing_fail_50_16     M = some r) : am_Ev L xs d me_73 16 [] [] 126 138 M (none, 126, 138, r) := by
  refine ev_k (pc' := 16) (ls' := []) (st' := []) (nc' := 126) (np' := 138) (M' := M) 0 rfl ?_
  cases h
  exact ev_ret rfl
theorem Outing_fail_50_e {L : Nat} {xs : Nat → Int} {d : Nat} (hd : 1 ≤ d)   (x1 : Int) (x2 : Int) (M : am_M) (r : am_M) (h : Outing_fail_50   x1 x2 M = some r) : am_Ev L xs d me_73 0 (am_ar1 0 [.inr (.inr (some 50)), .inl (x1), .inl (x2)]) [] 126 138 M (none, 126, 138, r) := by
  refine ev_k (pc' := 4) (ls' := [(0, .inr (.inr (some 50))), (1, .inl (x1)), (2, .inl (x2))]) (st' := [.inl (M 50 6)]) (nc' := 126) (np' := 138) (M' := M) 2 rfl ?_
  obtain ⟨hR, ⟨hc, h⟩ | ⟨hc, h⟩⟩ := c_ne_i h
  · refine ev_ifc 16 rfl hR.1 (by decide) (fun _ => ?_) (fun q => absurd hc q)
    exact Outing_fail_50_16_t hd      M r h
  · refine ev_ifc 16 rfl hR.1 (by decide) (fun q => absurd q hc) (fun _ => ?_)
    refine ev_k (pc' := 10) (ls' := [(0, .inr (.inr (some 50))), (1, .inl (x1)), (2, .inl (x2))]) (st' := [.inl (x2), .inl (x1), .inr (.inr (some 50))]) (nc' := 126) (np' := 138) (M' := M) 3 rfl ?_
    obtain ⟨v1, hv, h⟩ := ob_i h
    refine ev_call (t := 24) (as := [.inl (x1), .inl (x2)]) (rest := [.inr (.inr (some 50))]) rfl rfl rfl (by omega) (P_faultAt_e (by omega) (x1) (x2) M _ hv) ?_
    refine ev_k (pc' := 16) (ls' := []) (st' := []) (nc' := 126) (np' := 138) (M' := am_up M 50 6 (v1)) 1 rfl ?_
    obtain ⟨M2, eM, h⟩ := fw_i h
    rw [← eM]
    exact Outing_fail_50_16_t hd      M2 r h
def Outing_append_50_39     (M : am_M) : Option (am_M) := some (M)
def Outing_append_50    (x1 : Int) (x2 : Int) (M : am_M) : Option (am_M) := c_lt (M 50 3) (90)
       (wa M 51 90 (M 50 3) (x1) fun M1 => fw M1 50 3 ((M1 50 3) + (1)) fun M2 => (Outing_append_50_39     M2))
       (ob (Outing_fail_50 (6) (x2) M) fun M3 => (Outing_append_50_39     M3))
theorem Outing_append_50_39_t {L : Nat} {xs : Nat → Int} {d : Nat} (hd : 2 ≤ d)      (M : am_M) (r : am_M) (h : Outing_append_50_39     M = some r) : am_Ev L xs d me_75 39 [] [] 126 138 M (none, 126, 138, r) := by
  refine ev_k (pc' := 39) (ls' := []) (st' := []) (nc' := 126) (np' := 138) (M' := M) 0 rfl ?_
  cases h
  exact ev_ret rfl
theorem Outing_append_50_e {L : Nat} {xs : Nat → Int} {d : Nat} (hd : 2 ≤ d)   (x1 : Int) (x2 : Int) (M : am_M) (r : am_M) (h : Outing_append_50   x1 x2 M = some r) : am_Ev L xs d me_75 0 (am_ar1 0 [.inr (.inr (some 50)), .inl (x1), .inl (x2)]) [] 126 138 M (none, 126, 138, r) := by
  refine ev_k (pc' := 6) (ls' := [(0, .inr (.inr (some 50))), (1, .inl (x1)), (2, .inl (x2))]) (st' := [.inl (90), .inl (M 50 3)]) (nc' := 126) (np' := 138) (M' := M) 3 rfl ?_
  obtain ⟨hR, ⟨hc, h⟩ | ⟨hc, h⟩⟩ := c_lt_i h
  · refine ev_icmp 19 rfl hR.1 hR.2 (by decide) (fun _ => ?_) (fun q => absurd hc q)
    refine ev_k (pc' := 28) (ls' := [(0, .inr (.inr (some 50))), (1, .inl (x1)), (2, .inl (x2))]) (st' := [.inl (x1), .inl (M 50 3), .inr (.inr (some 51))]) (nc' := 126) (np' := 138) (M' := M) 5 rfl ?_
    obtain ⟨hc, M1, eM, h⟩ := wa_i h
    refine ev_iast (k := 51) rfl (by decide) rfl hc eM ?_
    refine ev_k (pc' := 39) (ls' := []) (st' := []) (nc' := 126) (np' := 138) (M' := am_up M1 50 3 ((M1 50 3) + (1))) 6 rfl ?_
    obtain ⟨M2, eM, h⟩ := fw_i h
    rw [← eM]
    exact Outing_append_50_39_t hd      M2 r h
  · refine ev_icmp 19 rfl hR.1 hR.2 (by decide) (fun q => absurd q hc) (fun _ => ?_)
    refine ev_k (pc' := 13) (ls' := [(0, .inr (.inr (some 50))), (1, .inl (x1)), (2, .inl (x2))]) (st' := [.inl (x2), .inl (6), .inr (.inr (some 50))]) (nc' := 126) (np' := 138) (M' := M) 3 rfl ?_
    obtain ⟨M3, hv, h⟩ := ob_i h
    refine ev_call (t := 73) (as := [.inr (.inr (some 50)), .inl (6), .inl (x2)]) (rest := []) rfl rfl rfl (by omega) (Outing_fail_50_e (by omega) (6) (x2) M _ hv) ?_
    refine ev_k (pc' := 39) (ls' := []) (st' := []) (nc' := 126) (np' := 138) (M' := M3) 1 rfl ?_
    exact Outing_append_50_39_t hd      M3 r h
def Outing_repeat_50_82     (M : am_M) : Option (am_M) := some (M)
def Outing_repeat_50_29    : Nat → Int → Int → Int → Int → Int → am_M → Option (am_M)
  | 0, _, _, _, _, _, _ => none
  | n + 1, x1, x2, x3, x4, x5, M => c_ge (x5) ((x4) * ((x2) - (1)))
       (Outing_repeat_50_82     M)
       (c_lt (x1) (0)
       (Outing_repeat_50_82     M)
       (c_ge ((x1) + (x5)) (M 50 3)
       (Outing_repeat_50_82     M)
       (c_ne (M 50 6) (0)
       (Outing_repeat_50_82     M)
       (rd M 51 90 ((x1) + (x5)) fun v1 => ob (Outing_append_50 (v1) (x3) M) fun M2 => (Outing_repeat_50_29    n (x1) (x2) (x3) (x4) ((x5) + (1)) M2)))))
def Outing_repeat_50_26    (x1 : Int) (x2 : Int) (x3 : Int) (x4 : Int) (M : am_M) : Option (am_M) := (Outing_repeat_50_29    am_big (x1) (x2) (x3) (x4) (0) M)
def Outing_repeat_50    (x1 : Int) (x2 : Int) (x3 : Int) (M : am_M) : Option (am_M) := c_le ((x1) + (((M 50 3) - (x1)) * (x2))) (90)
       (Outing_repeat_50_26    (x1) (x2) (x3) ((M 50 3) - (x1)) M)
       (ob (Outing_fail_50 (6) (x3) M) fun M1 => (Outing_repeat_50_26    (x1) (x2) (x3) ((M 50 3) - (x1)) M1))
theorem Outing_repeat_50_82_t {L : Nat} {xs : Nat → Int} {d : Nat} (hd : 3 ≤ d)      (M : am_M) (r : am_M) (h : Outing_repeat_50_82     M = some r) : am_Ev L xs d me_74 82 [] [] 126 138 M (none, 126, 138, r) := by
  refine ev_k (pc' := 82) (ls' := []) (st' := []) (nc' := 126) (np' := 138) (M' := M) 0 rfl ?_
  cases h
  exact ev_ret rfl
theorem Outing_repeat_50_29_t {L : Nat} {xs : Nat → Int} {d : Nat} (hd : 3 ≤ d)     : ∀ (n : Nat) (x1 : Int) (x2 : Int) (x3 : Int) (x4 : Int) (x5 : Int) (M : am_M) (r : am_M), Outing_repeat_50_29    n x1 x2 x3 x4 x5 M = some r → am_Ev L xs d me_74 29 [(0, .inr (.inr (some 50))), (1, .inl (x1)), (2, .inl (x2)), (3, .inl (x3)), (4, .inl (x4)), (5, .inl (x5))] [] 126 138 M (none, 126, 138, r)
  | 0, _, _, _, _, _, M, r, h => by cases h
  | n + 1, x1, x2, x3, x4, x5, M, r, h => by
    have ih := Outing_repeat_50_29_t (L := L) (xs := xs) hd     n
    refine ev_k (pc' := 37) (ls' := [(0, .inr (.inr (some 50))), (1, .inl (x1)), (2, .inl (x2)), (3, .inl (x3)), (4, .inl (x4)), (5, .inl (x5))]) (st' := [.inl ((x4) * ((x2) - (1))), .inl (x5)]) (nc' := 126) (np' := 138) (M' := M) 6 rfl ?_
    obtain ⟨hR, ⟨hc, h⟩ | ⟨hc, h⟩⟩ := c_ge_i h
    · refine ev_icmp 82 rfl hR.1 hR.2 (by decide) (fun _ => ?_) (fun q => absurd hc q)
      exact Outing_repeat_50_82_t hd      M r h
    · refine ev_icmp 82 rfl hR.1 hR.2 (by decide) (fun q => absurd q hc) (fun _ => ?_)
      refine ev_k (pc' := 41) (ls' := [(0, .inr (.inr (some 50))), (1, .inl (x1)), (2, .inl (x2)), (3, .inl (x3)), (4, .inl (x4)), (5, .inl (x5))]) (st' := [.inl (x1)]) (nc' := 126) (np' := 138) (M' := M) 1 rfl ?_
      obtain ⟨hR, ⟨hc, h⟩ | ⟨hc, h⟩⟩ := c_lt_i h
      · refine ev_ifc 82 rfl hR.1 (by decide) (fun _ => ?_) (fun q => absurd hc q)
        exact Outing_repeat_50_82_t hd      M r h
      · refine ev_ifc 82 rfl hR.1 (by decide) (fun q => absurd q hc) (fun _ => ?_)
        refine ev_k (pc' := 52) (ls' := [(0, .inr (.inr (some 50))), (1, .inl (x1)), (2, .inl (x2)), (3, .inl (x3)), (4, .inl (x4)), (5, .inl (x5))]) (st' := [.inl (M 50 3), .inl ((x1) + (x5))]) (nc' := 126) (np' := 138) (M' := M) 5 rfl ?_
        obtain ⟨hR, ⟨hc, h⟩ | ⟨hc, h⟩⟩ := c_ge_i h
        · refine ev_icmp 82 rfl hR.1 hR.2 (by decide) (fun _ => ?_) (fun q => absurd hc q)
          exact Outing_repeat_50_82_t hd      M r h
        · refine ev_icmp 82 rfl hR.1 hR.2 (by decide) (fun q => absurd q hc) (fun _ => ?_)
          refine ev_k (pc' := 59) (ls' := [(0, .inr (.inr (some 50))), (1, .inl (x1)), (2, .inl (x2)), (3, .inl (x3)), (4, .inl (x4)), (5, .inl (x5))]) (st' := [.inl (M 50 6)]) (nc' := 126) (np' := 138) (M' := M) 2 rfl ?_
          obtain ⟨hR, ⟨hc, h⟩ | ⟨hc, h⟩⟩ := c_ne_i h
          · refine ev_ifc 82 rfl hR.1 (by decide) (fun _ => ?_) (fun q => absurd hc q)
            exact Outing_repeat_50_82_t hd      M r h
          · refine ev_ifc 82 rfl hR.1 (by decide) (fun q => absurd q hc) (fun _ => ?_)
            refine ev_k (pc' := 71) (ls' := [(0, .inr (.inr (some 50))), (1, .inl (x1)), (2, .inl (x2)), (3, .inl (x3)), (4, .inl (x4)), (5, .inl (x5))]) (st' := [.inl ((x1) + (x5)), .inr (.inr (some 51)), .inr (.inr (some 50))]) (nc' := 126) (np' := 138) (M' := M) 6 rfl ?_
            obtain ⟨hc, v1, ev, h⟩ := rd_i h
            refine ev_ald (k := 51) (t := 0) (Or.inl ⟨rfl, rfl⟩) rfl (by decide) (by decide) rfl hc ev ?_
            refine ev_k (pc' := 73) (ls' := [(0, .inr (.inr (some 50))), (1, .inl (x1)), (2, .inl (x2)), (3, .inl (x3)), (4, .inl (x4)), (5, .inl (x5))]) (st' := [.inl (x3), .inl (v1), .inr (.inr (some 50))]) (nc' := 126) (np' := 138) (M' := M) 1 rfl ?_
            obtain ⟨M2, hv, h⟩ := ob_i h
            refine ev_call (t := 75) (as := [.inr (.inr (some 50)), .inl (v1), .inl (x3)]) (rest := []) rfl rfl rfl (by omega) (Outing_append_50_e (by omega) (v1) (x3) M _ hv) ?_
            refine ev_k (pc' := 29) (ls' := [(0, .inr (.inr (some 50))), (1, .inl (x1)), (2, .inl (x2)), (3, .inl (x3)), (4, .inl (x4)), (5, .inl ((x5) + (1)))]) (st' := []) (nc' := 126) (np' := 138) (M' := M2) 2 rfl ?_
            exact ih (x1) (x2) (x3) (x4) ((x5) + (1)) M2 r h
theorem Outing_repeat_50_26_t {L : Nat} {xs : Nat → Int} {d : Nat} (hd : 3 ≤ d)     (x1 : Int) (x2 : Int) (x3 : Int) (x4 : Int) (M : am_M) (r : am_M) (h : Outing_repeat_50_26    x1 x2 x3 x4 M = some r) : am_Ev L xs d me_74 26 [(0, .inr (.inr (some 50))), (1, .inl (x1)), (2, .inl (x2)), (3, .inl (x3)), (4, .inl (x4))] [] 126 138 M (none, 126, 138, r) := by
  refine ev_k (pc' := 29) (ls' := [(0, .inr (.inr (some 50))), (1, .inl (x1)), (2, .inl (x2)), (3, .inl (x3)), (4, .inl (x4)), (5, .inl (0))]) (st' := []) (nc' := 126) (np' := 138) (M' := M) 2 rfl ?_
  exact Outing_repeat_50_29_t hd     am_big (x1) (x2) (x3) (x4) (0) M r h
theorem Outing_repeat_50_e {L : Nat} {xs : Nat → Int} {d : Nat} (hd : 3 ≤ d)   (x1 : Int) (x2 : Int) (x3 : Int) (M : am_M) (r : am_M) (h : Outing_repeat_50   x1 x2 x3 M = some r) : am_Ev L xs d me_74 0 (am_ar1 0 [.inr (.inr (some 50)), .inl (x1), .inl (x2), .inl (x3)]) [] 126 138 M (none, 126, 138, r) := by
  refine ev_k (pc' := 16) (ls' := [(4, .inl ((M 50 3) - (x1))), (0, .inr (.inr (some 50))), (1, .inl (x1)), (2, .inl (x2)), (3, .inl (x3))]) (st' := [.inl (90), .inl ((x1) + (((M 50 3) - (x1)) * (x2)))]) (nc' := 126) (np' := 138) (M' := M) 11 rfl ?_
  obtain ⟨hR, ⟨hc, h⟩ | ⟨hc, h⟩⟩ := c_le_i h
  · refine ev_icmp 26 rfl hR.1 hR.2 (by decide) (fun _ => ?_) (fun q => absurd hc q)
    exact Outing_repeat_50_26_t hd     (x1) (x2) (x3) ((M 50 3) - (x1)) M r h
  · refine ev_icmp 26 rfl hR.1 hR.2 (by decide) (fun q => absurd q hc) (fun _ => ?_)
    refine ev_k (pc' := 23) (ls' := [(4, .inl ((M 50 3) - (x1))), (0, .inr (.inr (some 50))), (1, .inl (x1)), (2, .inl (x2)), (3, .inl (x3))]) (st' := [.inl (x3), .inl (6), .inr (.inr (some 50))]) (nc' := 126) (np' := 138) (M' := M) 3 rfl ?_
    obtain ⟨M1, hv, h⟩ := ob_i h
    refine ev_call (t := 73) (as := [.inr (.inr (some 50)), .inl (6), .inl (x3)]) (rest := []) rfl rfl rfl (by omega) (Outing_fail_50_e (by omega) (6) (x3) M _ hv) ?_
    exact Outing_repeat_50_26_t hd     (x1) (x2) (x3) ((M 50 3) - (x1)) M1 r h
def Outing_readAct_50_117  (rc72 : Int → Int → Int → am_M → Option am_M)   (M : am_M) : Option (am_M) := some (M)
def Outing_readAct_50_43  (rc72 : Int → Int → Int → am_M → Option am_M)  (x1 : Int) (x2 : Int) (x3 : Int) (M : am_M) : Option (am_M) := ob (Outing_here_50  M) fun v1 => c_ne (v1) (40)
       (ob (Outing_isAct (v1) M) fun v2 => c_eq (v2) (0)
       (ob (Outing_fail_50 (1) (M 50 5) M) fun M3 => (Outing_readAct_50_117  rc72   M3))
       (fw M 50 5 ((M 50 5) + (1)) fun M4 => ob (Outing_append_50 (v1) (x2) M4) fun M5 => ob (Outing_repeat_50 (M4 50 3) (x3) (x2) M5) fun M6 => (Outing_readAct_50_117  rc72   M6)))
       (ob (rc72 (x2) (x3) (x1) M) fun M7 => (Outing_readAct_50_117  rc72   M7))
def Outing_readAct_50  (rc72 : Int → Int → Int → am_M → Option am_M)  (x1 : Int) (M : am_M) : Option (am_M) := ob (Outing_here_50  M) fun v1 => c_lt (v1) (50)
       (Outing_readAct_50_43  rc72  (x1) (M 50 5) (1) M)
       (ob (Outing_here_50  M) fun v2 => c_gt (v2) (57)
       (Outing_readAct_50_43  rc72  (x1) (M 50 5) (1) M)
       (ob (Outing_here_50  M) fun v3 => fw M 50 5 ((M 50 5) + (1)) fun M4 => (Outing_readAct_50_43  rc72  (x1) (M 50 5) ((v3) - (48)) M4)))
theorem Outing_readAct_50_117_t {L : Nat} {xs : Nat → Int} {d : Nat} (hd : 4 ≤ d) (rc72 : Int → Int → Int → am_M → Option am_M) (hrc72 : ∀ (a0 : Int) (a1 : Int) (a2 : Int) (M : am_M) (r : am_M), rc72 a0 a1 a2 M = some r → am_Ev L xs (d - 1) me_72 0 (am_ar1 0 [.inr (.inr (some 50)), .inl (a0), .inl (a1), .inl (a2)]) [] 126 138 M (none, 126, 138, r))    (M : am_M) (r : am_M) (h : Outing_readAct_50_117  rc72   M = some r) : am_Ev L xs d me_70 117 [] [] 126 138 M (none, 126, 138, r) := by
  refine ev_k (pc' := 117) (ls' := []) (st' := []) (nc' := 126) (np' := 138) (M' := M) 0 rfl ?_
  cases h
  exact ev_ret rfl
theorem Outing_readAct_50_43_t {L : Nat} {xs : Nat → Int} {d : Nat} (hd : 4 ≤ d) (rc72 : Int → Int → Int → am_M → Option am_M) (hrc72 : ∀ (a0 : Int) (a1 : Int) (a2 : Int) (M : am_M) (r : am_M), rc72 a0 a1 a2 M = some r → am_Ev L xs (d - 1) me_72 0 (am_ar1 0 [.inr (.inr (some 50)), .inl (a0), .inl (a1), .inl (a2)]) [] 126 138 M (none, 126, 138, r))   (x1 : Int) (x2 : Int) (x3 : Int) (M : am_M) (r : am_M) (h : Outing_readAct_50_43  rc72  x1 x2 x3 M = some r) : am_Ev L xs d me_70 43 [(0, .inr (.inr (some 50))), (1, .inl (x1)), (2, .inl (x2)), (3, .inl (x3))] [] 126 138 M (none, 126, 138, r) := by
  refine ev_k (pc' := 44) (ls' := [(0, .inr (.inr (some 50))), (1, .inl (x1)), (2, .inl (x2)), (3, .inl (x3))]) (st' := [.inr (.inr (some 50))]) (nc' := 126) (np' := 138) (M' := M) 1 rfl ?_
  obtain ⟨v1, hv, h⟩ := ob_i h
  refine ev_call (t := 71) (as := [.inr (.inr (some 50))]) (rest := []) rfl rfl rfl (by omega) (Outing_here_50_e (by omega)  M _ hv) ?_
  refine ev_k (pc' := 53) (ls' := [(4, .inl (v1)), (0, .inr (.inr (some 50))), (1, .inl (x1)), (2, .inl (x2)), (3, .inl (x3))]) (st' := [.inl (40), .inl (v1)]) (nc' := 126) (np' := 138) (M' := M) 3 rfl ?_
  obtain ⟨hR, ⟨hc, h⟩ | ⟨hc, h⟩⟩ := c_ne_i h
  · refine ev_icmp 66 rfl hR.1 hR.2 (by decide) (fun _ => ?_) (fun q => absurd hc q)
    refine ev_k (pc' := 68) (ls' := [(4, .inl (v1)), (0, .inr (.inr (some 50))), (1, .inl (x1)), (2, .inl (x2)), (3, .inl (x3))]) (st' := [.inl (v1)]) (nc' := 126) (np' := 138) (M' := M) 1 rfl ?_
    obtain ⟨v2, hv, h⟩ := ob_i h
    refine ev_call (t := 76) (as := [.inl (v1)]) (rest := []) rfl rfl rfl (by omega) (Outing_isAct_e (by omega) (v1) M _ hv) ?_
    refine ev_k (pc' := 71) (ls' := [(4, .inl (v1)), (0, .inr (.inr (some 50))), (1, .inl (x1)), (2, .inl (x2)), (3, .inl (x3))]) (st' := [.inl (v2)]) (nc' := 126) (np' := 138) (M' := M) 0 rfl ?_
    obtain ⟨hR, ⟨hc, h⟩ | ⟨hc, h⟩⟩ := c_eq_i h
    · refine ev_ifc 108 rfl hR.1 (by decide) (fun _ => ?_) (fun q => absurd hc q)
      refine ev_k (pc' := 114) (ls' := [(4, .inl (v1)), (0, .inr (.inr (some 50))), (1, .inl (x1)), (2, .inl (x2)), (3, .inl (x3))]) (st' := [.inl (M 50 5), .inl (1), .inr (.inr (some 50))]) (nc' := 126) (np' := 138) (M' := M) 4 rfl ?_
      obtain ⟨M3, hv, h⟩ := ob_i h
      refine ev_call (t := 73) (as := [.inr (.inr (some 50)), .inl (1), .inl (M 50 5)]) (rest := []) rfl rfl rfl (by omega) (Outing_fail_50_e (by omega) (1) (M 50 5) M _ hv) ?_
      exact Outing_readAct_50_117_t hd rc72 hrc72    M3 r h
    · refine ev_ifc 108 rfl hR.1 (by decide) (fun q => absurd q hc) (fun _ => ?_)
      refine ev_k (pc' := 84) (ls' := [(4, .inl (v1)), (0, .inr (.inr (some 50))), (1, .inl (x1)), (2, .inl (x2)), (3, .inl (x3))]) (st' := []) (nc' := 126) (np' := 138) (M' := am_up M 50 5 ((M 50 5) + (1))) 6 rfl ?_
      obtain ⟨M4, eM, h⟩ := fw_i h
      rw [← eM]
      refine ev_k (pc' := 94) (ls' := [(5, .inl (M4 50 3)), (4, .inl (v1)), (0, .inr (.inr (some 50))), (1, .inl (x1)), (2, .inl (x2)), (3, .inl (x3))]) (st' := [.inl (x2), .inl (v1), .inr (.inr (some 50))]) (nc' := 126) (np' := 138) (M' := M4) 6 rfl ?_
      obtain ⟨M5, hv, h⟩ := ob_i h
      refine ev_call (t := 75) (as := [.inr (.inr (some 50)), .inl (v1), .inl (x2)]) (rest := []) rfl rfl rfl (by omega) (Outing_append_50_e (by omega) (v1) (x2) M4 _ hv) ?_
      refine ev_k (pc' := 102) (ls' := [(5, .inl (M4 50 3)), (4, .inl (v1)), (0, .inr (.inr (some 50))), (1, .inl (x1)), (2, .inl (x2)), (3, .inl (x3))]) (st' := [.inl (x2), .inl (x3), .inl (M4 50 3), .inr (.inr (some 50))]) (nc' := 126) (np' := 138) (M' := M5) 4 rfl ?_
      obtain ⟨M6, hv, h⟩ := ob_i h
      refine ev_call (t := 74) (as := [.inr (.inr (some 50)), .inl (M4 50 3), .inl (x3), .inl (x2)]) (rest := []) rfl rfl rfl (by omega) (Outing_repeat_50_e (by omega) (M4 50 3) (x3) (x2) M5 _ hv) ?_
      refine ev_k (pc' := 117) (ls' := []) (st' := []) (nc' := 126) (np' := 138) (M' := M6) 1 rfl ?_
      exact Outing_readAct_50_117_t hd rc72 hrc72    M6 r h
  · refine ev_icmp 66 rfl hR.1 hR.2 (by decide) (fun q => absurd q hc) (fun _ => ?_)
    refine ev_k (pc' := 60) (ls' := [(4, .inl (v1)), (0, .inr (.inr (some 50))), (1, .inl (x1)), (2, .inl (x2)), (3, .inl (x3))]) (st' := [.inl (x1), .inl (x3), .inl (x2), .inr (.inr (some 50))]) (nc' := 126) (np' := 138) (M' := M) 4 rfl ?_
    obtain ⟨M7, hv, h⟩ := ob_i h
    refine ev_call (t := 72) (as := [.inr (.inr (some 50)), .inl (x2), .inl (x3), .inl (x1)]) (rest := []) rfl rfl rfl (by omega) (hrc72 (x2) (x3) (x1) M _ hv) ?_
    refine ev_k (pc' := 117) (ls' := []) (st' := []) (nc' := 126) (np' := 138) (M' := M7) 1 rfl ?_
    exact Outing_readAct_50_117_t hd rc72 hrc72    M7 r h
theorem Outing_readAct_50_e {L : Nat} {xs : Nat → Int} {d : Nat} (hd : 4 ≤ d) (rc72 : Int → Int → Int → am_M → Option am_M) (hrc72 : ∀ (a0 : Int) (a1 : Int) (a2 : Int) (M : am_M) (r : am_M), rc72 a0 a1 a2 M = some r → am_Ev L xs (d - 1) me_72 0 (am_ar1 0 [.inr (.inr (some 50)), .inl (a0), .inl (a1), .inl (a2)]) [] 126 138 M (none, 126, 138, r)) (x1 : Int) (M : am_M) (r : am_M) (h : Outing_readAct_50  rc72 x1 M = some r) : am_Ev L xs d me_70 0 (am_ar1 0 [.inr (.inr (some 50)), .inl (x1)]) [] 126 138 M (none, 126, 138, r) := by
  refine ev_k (pc' := 8) (ls' := [(3, .inl (1)), (2, .inl (M 50 5)), (0, .inr (.inr (some 50))), (1, .inl (x1))]) (st' := [.inr (.inr (some 50))]) (nc' := 126) (np' := 138) (M' := M) 6 rfl ?_
  obtain ⟨v1, hv, h⟩ := ob_i h
  refine ev_call (t := 71) (as := [.inr (.inr (some 50))]) (rest := []) rfl rfl rfl (by omega) (Outing_here_50_e (by omega)  M _ hv) ?_
  refine ev_k (pc' := 13) (ls' := [(3, .inl (1)), (2, .inl (M 50 5)), (0, .inr (.inr (some 50))), (1, .inl (x1))]) (st' := [.inl (50), .inl (v1)]) (nc' := 126) (np' := 138) (M' := M) 1 rfl ?_
  obtain ⟨hR, ⟨hc, h⟩ | ⟨hc, h⟩⟩ := c_lt_i h
  · refine ev_icmp 43 rfl hR.1 hR.2 (by decide) (fun _ => ?_) (fun q => absurd hc q)
    exact Outing_readAct_50_43_t hd rc72 hrc72   (x1) (M 50 5) (1) M r h
  · refine ev_icmp 43 rfl hR.1 hR.2 (by decide) (fun q => absurd q hc) (fun _ => ?_)
    refine ev_k (pc' := 17) (ls' := [(3, .inl (1)), (2, .inl (M 50 5)), (0, .inr (.inr (some 50))), (1, .inl (x1))]) (st' := [.inr (.inr (some 50))]) (nc' := 126) (np' := 138) (M' := M) 1 rfl ?_
    obtain ⟨v2, hv, h⟩ := ob_i h
    refine ev_call (t := 71) (as := [.inr (.inr (some 50))]) (rest := []) rfl rfl rfl (by omega) (Outing_here_50_e (by omega)  M _ hv) ?_
    refine ev_k (pc' := 22) (ls' := [(3, .inl (1)), (2, .inl (M 50 5)), (0, .inr (.inr (some 50))), (1, .inl (x1))]) (st' := [.inl (57), .inl (v2)]) (nc' := 126) (np' := 138) (M' := M) 1 rfl ?_
    obtain ⟨hR, ⟨hc, h⟩ | ⟨hc, h⟩⟩ := c_gt_i h
    · refine ev_icmp 43 rfl hR.1 hR.2 (by decide) (fun _ => ?_) (fun q => absurd hc q)
      exact Outing_readAct_50_43_t hd rc72 hrc72   (x1) (M 50 5) (1) M r h
    · refine ev_icmp 43 rfl hR.1 hR.2 (by decide) (fun q => absurd q hc) (fun _ => ?_)
      refine ev_k (pc' := 26) (ls' := [(3, .inl (1)), (2, .inl (M 50 5)), (0, .inr (.inr (some 50))), (1, .inl (x1))]) (st' := [.inr (.inr (some 50))]) (nc' := 126) (np' := 138) (M' := M) 1 rfl ?_
      obtain ⟨v3, hv, h⟩ := ob_i h
      refine ev_call (t := 71) (as := [.inr (.inr (some 50))]) (rest := []) rfl rfl rfl (by omega) (Outing_here_50_e (by omega)  M _ hv) ?_
      refine ev_k (pc' := 43) (ls' := [(0, .inr (.inr (some 50))), (1, .inl (x1)), (2, .inl (M 50 5)), (3, .inl ((v3) - (48)))]) (st' := []) (nc' := 126) (np' := 138) (M' := am_up M 50 5 ((M 50 5) + (1))) 9 rfl ?_
      obtain ⟨M4, eM, h⟩ := fw_i h
      rw [← eM]
      exact Outing_readAct_50_43_t hd rc72 hrc72   (x1) (M 50 5) ((v3) - (48)) M4 r h
def Outing_readGroup_50_77  (rc69 : Int → am_M → Option am_M)   (M : am_M) : Option (am_M) := some (M)
def Outing_readGroup_50  (rc69 : Int → am_M → Option am_M)  (x1 : Int) (x2 : Int) (x3 : Int) (M : am_M) : Option (am_M) := c_lt (x3) (2)
       (fw M 50 5 ((M 50 5) + (1)) fun M1 => ob (rc69 ((x3) + (1)) M1) fun M2 => ob (Outing_here_50  M2) fun v3 => c_ne (v3) (41)
       (ob (Outing_fail_50 (1) (M2 50 5) M2) fun M4 => (Outing_readGroup_50_77  rc69   M4))
       (fw M2 50 5 ((M2 50 5) + (1)) fun M5 => ob (Outing_repeat_50 (M1 50 3) (x2) (x1) M5) fun M6 => (Outing_readGroup_50_77  rc69   M6)))
       (ob (Outing_fail_50 (5) (M 50 5) M) fun M7 => some (M7))
theorem Outing_readGroup_50_77_t {L : Nat} {xs : Nat → Int} {d : Nat} (hd : 4 ≤ d) (rc69 : Int → am_M → Option am_M) (hrc69 : ∀ (a0 : Int) (M : am_M) (r : am_M), rc69 a0 M = some r → am_Ev L xs (d - 1) me_69 0 (am_ar1 0 [.inr (.inr (some 50)), .inl (a0)]) [] 126 138 M (none, 126, 138, r))    (M : am_M) (r : am_M) (h : Outing_readGroup_50_77  rc69   M = some r) : am_Ev L xs d me_72 77 [] [] 126 138 M (none, 126, 138, r) := by
  refine ev_k (pc' := 77) (ls' := []) (st' := []) (nc' := 126) (np' := 138) (M' := M) 0 rfl ?_
  cases h
  exact ev_ret rfl
theorem Outing_readGroup_50_e {L : Nat} {xs : Nat → Int} {d : Nat} (hd : 4 ≤ d) (rc69 : Int → am_M → Option am_M) (hrc69 : ∀ (a0 : Int) (M : am_M) (r : am_M), rc69 a0 M = some r → am_Ev L xs (d - 1) me_69 0 (am_ar1 0 [.inr (.inr (some 50)), .inl (a0)]) [] 126 138 M (none, 126, 138, r)) (x1 : Int) (x2 : Int) (x3 : Int) (M : am_M) (r : am_M) (h : Outing_readGroup_50  rc69 x1 x2 x3 M = some r) : am_Ev L xs d me_72 0 (am_ar1 0 [.inr (.inr (some 50)), .inl (x1), .inl (x2), .inl (x3)]) [] 126 138 M (none, 126, 138, r) := by
  refine ev_k (pc' := 2) (ls' := [(0, .inr (.inr (some 50))), (1, .inl (x1)), (2, .inl (x2)), (3, .inl (x3))]) (st' := [.inl (2), .inl (x3)]) (nc' := 126) (np' := 138) (M' := M) 2 rfl ?_
  obtain ⟨hR, ⟨hc, h⟩ | ⟨hc, h⟩⟩ := c_lt_i h
  · refine ev_icmp 15 rfl hR.1 hR.2 (by decide) (fun _ => ?_) (fun q => absurd hc q)
    refine ev_k (pc' := 25) (ls' := [(0, .inr (.inr (some 50))), (1, .inl (x1)), (2, .inl (x2)), (3, .inl (x3))]) (st' := []) (nc' := 126) (np' := 138) (M' := am_up M 50 5 ((M 50 5) + (1))) 6 rfl ?_
    obtain ⟨M1, eM, h⟩ := fw_i h
    rw [← eM]
    refine ev_k (pc' := 35) (ls' := [(4, .inl (M1 50 3)), (0, .inr (.inr (some 50))), (1, .inl (x1)), (2, .inl (x2)), (3, .inl (x3))]) (st' := [.inl ((x3) + (1)), .inr (.inr (some 50))]) (nc' := 126) (np' := 138) (M' := M1) 7 rfl ?_
    obtain ⟨M2, hv, h⟩ := ob_i h
    refine ev_call (t := 69) (as := [.inr (.inr (some 50)), .inl ((x3) + (1))]) (rest := []) rfl rfl rfl (by omega) (hrc69 ((x3) + (1)) M1 _ hv) ?_
    refine ev_k (pc' := 39) (ls' := [(4, .inl (M1 50 3)), (0, .inr (.inr (some 50))), (1, .inl (x1)), (2, .inl (x2)), (3, .inl (x3))]) (st' := [.inr (.inr (some 50))]) (nc' := 126) (np' := 138) (M' := M2) 1 rfl ?_
    obtain ⟨v3, hv, h⟩ := ob_i h
    refine ev_call (t := 71) (as := [.inr (.inr (some 50))]) (rest := []) rfl rfl rfl (by omega) (Outing_here_50_e (by omega)  M2 _ hv) ?_
    refine ev_k (pc' := 44) (ls' := [(4, .inl (M1 50 3)), (0, .inr (.inr (some 50))), (1, .inl (x1)), (2, .inl (x2)), (3, .inl (x3))]) (st' := [.inl (41), .inl (v3)]) (nc' := 126) (np' := 138) (M' := M2) 1 rfl ?_
    obtain ⟨hR, ⟨hc, h⟩ | ⟨hc, h⟩⟩ := c_ne_i h
    · refine ev_icmp 68 rfl hR.1 hR.2 (by decide) (fun _ => ?_) (fun q => absurd hc q)
      refine ev_k (pc' := 74) (ls' := [(4, .inl (M1 50 3)), (0, .inr (.inr (some 50))), (1, .inl (x1)), (2, .inl (x2)), (3, .inl (x3))]) (st' := [.inl (M2 50 5), .inl (1), .inr (.inr (some 50))]) (nc' := 126) (np' := 138) (M' := M2) 4 rfl ?_
      obtain ⟨M4, hv, h⟩ := ob_i h
      refine ev_call (t := 73) (as := [.inr (.inr (some 50)), .inl (1), .inl (M2 50 5)]) (rest := []) rfl rfl rfl (by omega) (Outing_fail_50_e (by omega) (1) (M2 50 5) M2 _ hv) ?_
      exact Outing_readGroup_50_77_t hd rc69 hrc69    M4 r h
    · refine ev_icmp 68 rfl hR.1 hR.2 (by decide) (fun q => absurd q hc) (fun _ => ?_)
      refine ev_k (pc' := 57) (ls' := [(4, .inl (M1 50 3)), (0, .inr (.inr (some 50))), (1, .inl (x1)), (2, .inl (x2)), (3, .inl (x3))]) (st' := []) (nc' := 126) (np' := 138) (M' := am_up M2 50 5 ((M2 50 5) + (1))) 6 rfl ?_
      obtain ⟨M5, eM, h⟩ := fw_i h
      rw [← eM]
      refine ev_k (pc' := 62) (ls' := [(4, .inl (M1 50 3)), (0, .inr (.inr (some 50))), (1, .inl (x1)), (2, .inl (x2)), (3, .inl (x3))]) (st' := [.inl (x1), .inl (x2), .inl (M1 50 3), .inr (.inr (some 50))]) (nc' := 126) (np' := 138) (M' := M5) 4 rfl ?_
      obtain ⟨M6, hv, h⟩ := ob_i h
      refine ev_call (t := 74) (as := [.inr (.inr (some 50)), .inl (M1 50 3), .inl (x2), .inl (x1)]) (rest := []) rfl rfl rfl (by omega) (Outing_repeat_50_e (by omega) (M1 50 3) (x2) (x1) M5 _ hv) ?_
      refine ev_k (pc' := 77) (ls' := []) (st' := []) (nc' := 126) (np' := 138) (M' := M6) 1 rfl ?_
      exact Outing_readGroup_50_77_t hd rc69 hrc69    M6 r h
  · refine ev_icmp 15 rfl hR.1 hR.2 (by decide) (fun q => absurd q hc) (fun _ => ?_)
    refine ev_k (pc' := 11) (ls' := [(0, .inr (.inr (some 50))), (1, .inl (x1)), (2, .inl (x2)), (3, .inl (x3))]) (st' := [.inl (M 50 5), .inl (5), .inr (.inr (some 50))]) (nc' := 126) (np' := 138) (M' := M) 4 rfl ?_
    obtain ⟨M7, hv, h⟩ := ob_i h
    refine ev_call (t := 73) (as := [.inr (.inr (some 50)), .inl (5), .inl (M 50 5)]) (rest := []) rfl rfl rfl (by omega) (Outing_fail_50_e (by omega) (5) (M 50 5) M _ hv) ?_
    refine ev_k (pc' := 14) (ls' := [(0, .inr (.inr (some 50))), (1, .inl (x1)), (2, .inl (x2)), (3, .inl (x3))]) (st' := []) (nc' := 126) (np' := 138) (M' := M7) 0 rfl ?_
    cases h
    exact ev_ret rfl
def K_Outing_readRow_R : Nat → Nat → Int → Int → Int →  am_M → Option am_M
  | 0, _, _, _, _, _ => none
  | n + 1, w, a0, a1, a2, M => match w with
    | 0 => Outing_readRow_50 (fun b0 M => K_Outing_readRow_R n 1 b0 0 0 M) a0 M
    | 1 => Outing_readAct_50 (fun b0 b1 b2 M => K_Outing_readRow_R n 2 b0 b1 b2 M) a0 M
    | _ => Outing_readGroup_50 (fun b0 M => K_Outing_readRow_R n 0 b0 0 0 M) a0 a1 a2 M
def K_Outing_readRow (a0 : Int) (M : am_M) : Option am_M := K_Outing_readRow_R 40 0 a0 0 0 M
def K_Outing_readAct (a0 : Int) (M : am_M) : Option am_M := K_Outing_readRow_R 40 1 a0 0 0 M
def K_Outing_readGroup (a0 : Int) (a1 : Int) (a2 : Int) (M : am_M) : Option am_M := K_Outing_readRow_R 40 2 a0 a1 a2 M
theorem K_Outing_readRow_R_all {L : Nat} {xs : Nat → Int} : ∀ n : Nat, (∀ (d : Nat), 4 + n ≤ d → ∀ (a0 : Int) (M : am_M) (r : am_M), K_Outing_readRow_R n 0 a0 0 0 M = some r → am_Ev L xs d me_69 0 (am_ar1 0 [.inr (.inr (some 50)), .inl (a0)]) [] 126 138 M (none, 126, 138, r)) ∧ (∀ (d : Nat), 4 + n ≤ d → ∀ (a0 : Int) (M : am_M) (r : am_M), K_Outing_readRow_R n 1 a0 0 0 M = some r → am_Ev L xs d me_70 0 (am_ar1 0 [.inr (.inr (some 50)), .inl (a0)]) [] 126 138 M (none, 126, 138, r)) ∧ (∀ (d : Nat), 4 + n ≤ d → ∀ (a0 : Int) (a1 : Int) (a2 : Int) (M : am_M) (r : am_M), K_Outing_readRow_R n 2 a0 a1 a2 M = some r → am_Ev L xs d me_72 0 (am_ar1 0 [.inr (.inr (some 50)), .inl (a0), .inl (a1), .inl (a2)]) [] 126 138 M (none, 126, 138, r))
  | 0 => ⟨fun d hd a0 M r h => (by cases h), fun d hd a0 M r h => (by cases h), fun d hd a0 a1 a2 M r h => (by cases h)⟩
  | n + 1 => by
    have ih := K_Outing_readRow_R_all (L := L) (xs := xs) n
    obtain ⟨ih69, ih70, ih72⟩ := ih
    exact ⟨fun d hd a0 M r h => Outing_readRow_50_e (by omega) _ (ih70 (d - 1) (by omega)) a0 M r h, fun d hd a0 M r h => Outing_readAct_50_e (by omega) _ (ih72 (d - 1) (by omega)) a0 M r h, fun d hd a0 a1 a2 M r h => Outing_readGroup_50_e (by omega) _ (ih69 (d - 1) (by omega)) a0 a1 a2 M r h⟩
theorem K_Outing_readRow_e {L : Nat} {xs : Nat → Int} {d : Nat} (hd : 44 ≤ d) (a0 : Int) (M : am_M) (r : am_M) (h : K_Outing_readRow a0 M = some r) : am_Ev L xs d me_69 0 (am_ar1 0 [.inr (.inr (some 50)), .inl (a0)]) [] 126 138 M (none, 126, 138, r) :=
  (K_Outing_readRow_R_all (L := L) (xs := xs) 40).1 d (by omega) a0 M r h
theorem K_Outing_readAct_e {L : Nat} {xs : Nat → Int} {d : Nat} (hd : 44 ≤ d) (a0 : Int) (M : am_M) (r : am_M) (h : K_Outing_readAct a0 M = some r) : am_Ev L xs d me_70 0 (am_ar1 0 [.inr (.inr (some 50)), .inl (a0)]) [] 126 138 M (none, 126, 138, r) :=
  (K_Outing_readRow_R_all (L := L) (xs := xs) 40).2.1 d (by omega) a0 M r h
theorem K_Outing_readGroup_e {L : Nat} {xs : Nat → Int} {d : Nat} (hd : 44 ≤ d) (a0 : Int) (a1 : Int) (a2 : Int) (M : am_M) (r : am_M) (h : K_Outing_readGroup a0 a1 a2 M = some r) : am_Ev L xs d me_72 0 (am_ar1 0 [.inr (.inr (some 50)), .inl (a0), .inl (a1), .inl (a2)]) [] 126 138 M (none, 126, 138, r) :=
  (K_Outing_readRow_R_all (L := L) (xs := xs) 40).2.2 d (by omega) a0 a1 a2 M r h
def Outing_readActs_50_42     (M : am_M) : Option (Int × am_M) := some (M 50 6, M)
def Outing_readActs_50     (M : am_M) : Option (Int × am_M) := fw M 50 4 (1) fun M1 => fw M1 50 5 (0) fun M2 => fw M2 50 6 (0) fun M3 => fw M3 50 3 (0) fun M4 => ob (K_Outing_readRow (0) M4) fun M5 => ob (Outing_here_50  M5) fun v6 => c_eq (v6) (-1)
       (Outing_readActs_50_42     M5)
       (ob (Outing_fail_50 (1) (M5 50 5) M5) fun M7 => (Outing_readActs_50_42     M7))
theorem Outing_readActs_50_42_t {L : Nat} {xs : Nat → Int} {d : Nat} (hd : 45 ≤ d)      (M : am_M) (r : Int × am_M) (h : Outing_readActs_50_42     M = some r) : am_Ev L xs d me_68 42 [(0, .inr (.inr (some 50)))] [] 126 138 M (some (.inl r.1), 126, 138, r.2) := by
  refine ev_k (pc' := 46) (ls' := [(0, .inr (.inr (some 50)))]) (st' := [.inl (M 50 6)]) (nc' := 126) (np' := 138) (M' := M) 2 rfl ?_
  cases h
  exact ev_ret rfl
theorem Outing_readActs_50_e {L : Nat} {xs : Nat → Int} {d : Nat} (hd : 45 ≤ d)    (M : am_M) (r : Int × am_M) (h : Outing_readActs_50    M = some r) : am_Ev L xs d me_68 0 (am_ar1 0 [.inr (.inr (some 50)), .inr (.inr (some 14))]) [] 126 138 M (some (.inl r.1), 126, 138, r.2) := by
  refine ev_k (pc' := 5) (ls' := [(0, .inr (.inr (some 50))), (1, .inr (.inr (some 14)))]) (st' := []) (nc' := 126) (np' := 138) (M' := am_up M 50 4 (1)) 3 rfl ?_
  obtain ⟨M1, eM, h⟩ := fw_i h
  rw [← eM]
  refine ev_k (pc' := 10) (ls' := [(0, .inr (.inr (some 50))), (1, .inr (.inr (some 14)))]) (st' := []) (nc' := 126) (np' := 138) (M' := am_up M1 50 5 (0)) 3 rfl ?_
  obtain ⟨M2, eM, h⟩ := fw_i h
  rw [← eM]
  refine ev_k (pc' := 15) (ls' := [(0, .inr (.inr (some 50))), (1, .inr (.inr (some 14)))]) (st' := []) (nc' := 126) (np' := 138) (M' := am_up M2 50 6 (0)) 3 rfl ?_
  obtain ⟨M3, eM, h⟩ := fw_i h
  rw [← eM]
  refine ev_k (pc' := 20) (ls' := [(0, .inr (.inr (some 50))), (1, .inr (.inr (some 14)))]) (st' := []) (nc' := 126) (np' := 138) (M' := am_up M3 50 3 (0)) 3 rfl ?_
  obtain ⟨M4, eM, h⟩ := fw_i h
  rw [← eM]
  refine ev_k (pc' := 22) (ls' := [(0, .inr (.inr (some 50))), (1, .inr (.inr (some 14)))]) (st' := [.inl (0), .inr (.inr (some 50))]) (nc' := 126) (np' := 138) (M' := M4) 2 rfl ?_
  obtain ⟨M5, hv, h⟩ := ob_i h
  refine ev_call (t := 69) (as := [.inr (.inr (some 50)), .inl (0)]) (rest := []) rfl rfl rfl (by omega) (K_Outing_readRow_e (by omega) (0) M4 _ hv) ?_
  refine ev_k (pc' := 26) (ls' := [(0, .inr (.inr (some 50))), (1, .inr (.inr (some 14)))]) (st' := [.inr (.inr (some 50))]) (nc' := 126) (np' := 138) (M' := M5) 1 rfl ?_
  obtain ⟨v6, hv, h⟩ := ob_i h
  refine ev_call (t := 71) (as := [.inr (.inr (some 50))]) (rest := []) rfl rfl rfl (by omega) (Outing_here_50_e (by omega)  M5 _ hv) ?_
  refine ev_k (pc' := 30) (ls' := [(0, .inr (.inr (some 50))), (1, .inr (.inr (some 14)))]) (st' := [.inl (-1), .inl (v6)]) (nc' := 126) (np' := 138) (M' := M5) 1 rfl ?_
  obtain ⟨hR, ⟨hc, h⟩ | ⟨hc, h⟩⟩ := c_eq_i h
  · refine ev_icmp 42 rfl hR.1 hR.2 (by decide) (fun _ => ?_) (fun q => absurd hc q)
    exact Outing_readActs_50_42_t hd      M5 r h
  · refine ev_icmp 42 rfl hR.1 hR.2 (by decide) (fun q => absurd q hc) (fun _ => ?_)
    refine ev_k (pc' := 39) (ls' := [(0, .inr (.inr (some 50))), (1, .inr (.inr (some 14)))]) (st' := [.inl (M5 50 5), .inl (1), .inr (.inr (some 50))]) (nc' := 126) (np' := 138) (M' := M5) 4 rfl ?_
    obtain ⟨M7, hv, h⟩ := ob_i h
    refine ev_call (t := 73) (as := [.inr (.inr (some 50)), .inl (1), .inl (M5 50 5)]) (rest := []) rfl rfl rfl (by omega) (Outing_fail_50_e (by omega) (1) (M5 50 5) M5 _ hv) ?_
    exact Outing_readActs_50_42_t hd      M7 r h
def Outing_spend_50_26_54    (s0 : Int) (M : am_M) : Option (Int × am_M) := ck ((s0) = 0 ∨ (s0) = 1) (some (s0, M))
def Outing_spend_50_26_42     (M : am_M) : Option (Int × am_M) := c_ne (M 50 9) (0)
       ((Outing_spend_50_26_54    (0) M))
       ((Outing_spend_50_26_54    (1) M))
def Outing_spend_50_26_22    (x2 : Int) (s1 : Int) (M : am_M) : Option (Int × am_M) := fz M 50 9 (s1) fun M1 => c_ne (M1 50 9) (0)
       (Outing_spend_50_26_42     M1)
       (fw M1 26 12 ((M1 26 12) + (x2)) fun M2 => (Outing_spend_50_26_42     M2))
def Outing_spend_50_26    (x2 : Int) (M : am_M) : Option (Int × am_M) := c_le ((M 26 12) + (x2)) (M 1 4)
       ((Outing_spend_50_26_22    (x2) (0) M))
       ((Outing_spend_50_26_22    (x2) (1) M))
theorem Outing_spend_50_26_54_t {L : Nat} {xs : Nat → Int} {d : Nat} (hd : 0 ≤ d)     (s0 : Int) (M : am_M) (r : Int × am_M) (h : Outing_spend_50_26_54    s0 M = some r) : am_Ev L xs d me_81 54 [] [.inl (s0)] 126 138 M (some (.inl r.1), 126, 138, r.2) := by
  refine ev_k (pc' := 54) (ls' := []) (st' := [.inl (s0)]) (nc' := 126) (np' := 138) (M' := M) 0 rfl ?_
  obtain ⟨hc, h⟩ := ck_i h
  cases h
  exact ev_retz rfl rfl hc
theorem Outing_spend_50_26_42_t {L : Nat} {xs : Nat → Int} {d : Nat} (hd : 0 ≤ d)      (M : am_M) (r : Int × am_M) (h : Outing_spend_50_26_42     M = some r) : am_Ev L xs d me_81 42 [(0, .inr (.inr (some 50)))] [] 126 138 M (some (.inl r.1), 126, 138, r.2) := by
  refine ev_k (pc' := 46) (ls' := [(0, .inr (.inr (some 50)))]) (st' := [.inl (M 50 9)]) (nc' := 126) (np' := 138) (M' := M) 2 rfl ?_
  obtain ⟨hR, ⟨hc, h⟩ | ⟨hc, h⟩⟩ := c_ne_i h
  · refine ev_ifc 53 rfl hR.1 (by decide) (fun _ => ?_) (fun q => absurd hc q)
    refine ev_k (pc' := 54) (ls' := []) (st' := [.inl (0)]) (nc' := 126) (np' := 138) (M' := M) 1 rfl ?_
    exact Outing_spend_50_26_54_t hd     (0) M r h
  · refine ev_ifc 53 rfl hR.1 (by decide) (fun q => absurd q hc) (fun _ => ?_)
    refine ev_k (pc' := 54) (ls' := []) (st' := [.inl (1)]) (nc' := 126) (np' := 138) (M' := M) 2 rfl ?_
    exact Outing_spend_50_26_54_t hd     (1) M r h
theorem Outing_spend_50_26_22_t {L : Nat} {xs : Nat → Int} {d : Nat} (hd : 0 ≤ d)     (x2 : Int) (s1 : Int) (M : am_M) (r : Int × am_M) (h : Outing_spend_50_26_22    x2 s1 M = some r) : am_Ev L xs d me_81 22 [(0, .inr (.inr (some 50))), (1, .inr (.inr (some 26))), (2, .inl (x2))] [.inl (s1), .inr (.inr (some 50))] 126 138 M (some (.inl r.1), 126, 138, r.2) := by
  refine ev_k (pc' := 22) (ls' := [(0, .inr (.inr (some 50))), (1, .inr (.inr (some 26))), (2, .inl (x2))]) (st' := [.inl (s1), .inr (.inr (some 50))]) (nc' := 126) (np' := 138) (M' := M) 0 rfl ?_
  obtain ⟨hc, M1, eM, h⟩ := fz_i h
  refine ev_putz (k := 50) (j := 9) rfl rfl (by decide) rfl rfl hc eM ?_
  refine ev_k (pc' := 29) (ls' := [(0, .inr (.inr (some 50))), (1, .inr (.inr (some 26))), (2, .inl (x2))]) (st' := [.inl (M1 50 9)]) (nc' := 126) (np' := 138) (M' := M1) 2 rfl ?_
  obtain ⟨hR, ⟨hc, h⟩ | ⟨hc, h⟩⟩ := c_ne_i h
  · refine ev_ifc 42 rfl hR.1 (by decide) (fun _ => ?_) (fun q => absurd hc q)
    exact Outing_spend_50_26_42_t hd      M1 r h
  · refine ev_ifc 42 rfl hR.1 (by decide) (fun q => absurd q hc) (fun _ => ?_)
    refine ev_k (pc' := 42) (ls' := [(0, .inr (.inr (some 50)))]) (st' := []) (nc' := 126) (np' := 138) (M' := am_up M1 26 12 ((M1 26 12) + (x2))) 6 rfl ?_
    obtain ⟨M2, eM, h⟩ := fw_i h
    rw [← eM]
    exact Outing_spend_50_26_42_t hd      M2 r h
theorem Outing_spend_50_26_e {L : Nat} {xs : Nat → Int} {d : Nat} (hd : 0 ≤ d)   (x2 : Int) (M : am_M) (r : Int × am_M) (h : Outing_spend_50_26   x2 M = some r) : am_Ev L xs d me_81 0 (am_ar1 0 [.inr (.inr (some 50)), .inr (.inr (some 26)), .inl (x2)]) [] 126 138 M (some (.inl r.1), 126, 138, r.2) := by
  refine ev_k (pc' := 14) (ls' := [(0, .inr (.inr (some 50))), (1, .inr (.inr (some 26))), (2, .inl (x2))]) (st' := [.inl (M 1 4), .inl ((M 26 12) + (x2)), .inr (.inr (some 50))]) (nc' := 126) (np' := 138) (M' := M) 8 rfl ?_
  obtain ⟨hR, ⟨hc, h⟩ | ⟨hc, h⟩⟩ := c_le_i h
  · refine ev_icmp 21 rfl hR.1 hR.2 (by decide) (fun _ => ?_) (fun q => absurd hc q)
    refine ev_k (pc' := 22) (ls' := [(0, .inr (.inr (some 50))), (1, .inr (.inr (some 26))), (2, .inl (x2))]) (st' := [.inl (0), .inr (.inr (some 50))]) (nc' := 126) (np' := 138) (M' := M) 1 rfl ?_
    exact Outing_spend_50_26_22_t hd     (x2) (0) M r h
  · refine ev_icmp 21 rfl hR.1 hR.2 (by decide) (fun q => absurd q hc) (fun _ => ?_)
    refine ev_k (pc' := 22) (ls' := [(0, .inr (.inr (some 50))), (1, .inr (.inr (some 26))), (2, .inl (x2))]) (st' := [.inl (1), .inr (.inr (some 50))]) (nc' := 126) (np' := 138) (M' := M) 2 rfl ?_
    exact Outing_spend_50_26_22_t hd     (x2) (1) M r h
def J_floorMod_18    (x2 : Int) (M : am_M) : Option (Int) := some (x2)
def J_floorMod    (x0 : Int) (x1 : Int) (M : am_M) : Option (Int) := ck (am_R (x0) ∧ am_R (x1) ∧ ((x1) : Int) ≠ 0) (tw (Int.tmod (x0) (x1)) fun v1 => c_ge (b_xor (x0) (x1)) (0)
       (J_floorMod_18    (v1) M)
       (c_eq (v1) (0)
       (J_floorMod_18    (v1) M)
       (some ((v1) + (x1)))))
theorem J_floorMod_18_t {L : Nat} {xs : Nat → Int} {d : Nat} (hd : 0 ≤ d)     (x2 : Int) (M : am_M) (r : Int) (h : J_floorMod_18    x2 M = some r) : am_Ev L xs d me_89 18 [(2, .inl (x2))] [] 126 138 M (some (.inl r), 126, 138, M) := by
  refine ev_k (pc' := 19) (ls' := [(2, .inl (x2))]) (st' := [.inl (x2)]) (nc' := 126) (np' := 138) (M' := M) 1 rfl ?_
  cases h
  exact ev_ret rfl
theorem J_floorMod_e {L : Nat} {xs : Nat → Int} {d : Nat} (hd : 0 ≤ d)   (x0 : Int) (x1 : Int) (M : am_M) (r : Int) (h : J_floorMod   x0 x1 M = some r) : am_Ev L xs d me_89 0 (am_ar1 0 [.inl (x0), .inl (x1)]) [] 126 138 M (some (.inl r), 126, 138, M) := by
  refine ev_k (pc' := 2) (ls' := [(0, .inl (x0)), (1, .inl (x1))]) (st' := [.inl (x1), .inl (x0)]) (nc' := 126) (np' := 138) (M' := M) 2 rfl ?_
  obtain ⟨hc, h⟩ := ck_i h
  obtain ⟨v1, ev, h⟩ := tw_i h
  refine ev_irem rfl hc ?_
  refine ev_k (pc' := 3) (ls' := [(0, .inl (x0)), (1, .inl (x1))]) (st' := [.inl (Int.tmod (x0) (x1))]) (nc' := 126) (np' := 138) (M' := M) 0 rfl ?_
  rw [← ev]
  refine ev_k (pc' := 7) (ls' := [(2, .inl (v1)), (0, .inl (x0)), (1, .inl (x1))]) (st' := [.inl (b_xor (x0) (x1))]) (nc' := 126) (np' := 138) (M' := M) 4 rfl ?_
  obtain ⟨hR, ⟨hc, h⟩ | ⟨hc, h⟩⟩ := c_ge_i h
  · refine ev_ifc 18 rfl hR.1 (by decide) (fun _ => ?_) (fun q => absurd hc q)
    exact J_floorMod_18_t hd     (v1) M r h
  · refine ev_ifc 18 rfl hR.1 (by decide) (fun q => absurd q hc) (fun _ => ?_)
    refine ev_k (pc' := 11) (ls' := [(2, .inl (v1)), (0, .inl (x0)), (1, .inl (x1))]) (st' := [.inl (v1)]) (nc' := 126) (np' := 138) (M' := M) 1 rfl ?_
    obtain ⟨hR, ⟨hc, h⟩ | ⟨hc, h⟩⟩ := c_eq_i h
    · refine ev_ifc 18 rfl hR.1 (by decide) (fun _ => ?_) (fun q => absurd hc q)
      exact J_floorMod_18_t hd     (v1) M r h
    · refine ev_ifc 18 rfl hR.1 (by decide) (fun q => absurd q hc) (fun _ => ?_)
      refine ev_k (pc' := 17) (ls' := [(2, .inl (v1)), (0, .inl (x0)), (1, .inl (x1))]) (st' := [.inl ((v1) + (x1))]) (nc' := 126) (np' := 138) (M' := M) 3 rfl ?_
      cases h
      exact ev_ret rfl
def Country_nextTold_1_2    : Nat → Int → Int → am_M → Option (Int)
  | 0, _, _, _ => none
  | n + 1, x1, x2, M => c_gt (x2) (6)
       (some (x1))
       (ob (J_floorMod ((x1) + (x2)) (6) M) fun v1 => ob (Country_isTold_1 (v1) M) fun v2 => c_eq (v2) (0)
       ((Country_nextTold_1_2    n (x1) ((x2) + (1)) M))
       (some (v1)))
def Country_nextTold_1    (x1 : Int) (M : am_M) : Option (Int) := (Country_nextTold_1_2    am_big (x1) (1) M)
theorem Country_nextTold_1_2_t {L : Nat} {xs : Nat → Int} {d : Nat} (hd : 2 ≤ d)     : ∀ (n : Nat) (x1 : Int) (x2 : Int) (M : am_M) (r : Int), Country_nextTold_1_2    n x1 x2 M = some r → am_Ev L xs d me_88 2 [(0, .inr (.inr (some 1))), (1, .inl (x1)), (2, .inl (x2))] [] 126 138 M (some (.inl r), 126, 138, M)
  | 0, _, _, M, r, h => by cases h
  | n + 1, x1, x2, M, r, h => by
    have ih := Country_nextTold_1_2_t (L := L) (xs := xs) hd     n
    refine ev_k (pc' := 5) (ls' := [(0, .inr (.inr (some 1))), (1, .inl (x1)), (2, .inl (x2))]) (st' := [.inl (6), .inl (x2)]) (nc' := 126) (np' := 138) (M' := M) 2 rfl ?_
    obtain ⟨hR, ⟨hc, h⟩ | ⟨hc, h⟩⟩ := c_gt_i h
    · refine ev_icmp 33 rfl hR.1 hR.2 (by decide) (fun _ => ?_) (fun q => absurd hc q)
      refine ev_k (pc' := 34) (ls' := [(0, .inr (.inr (some 1))), (1, .inl (x1)), (2, .inl (x2))]) (st' := [.inl (x1)]) (nc' := 126) (np' := 138) (M' := M) 1 rfl ?_
      cases h
      exact ev_ret rfl
    · refine ev_icmp 33 rfl hR.1 hR.2 (by decide) (fun q => absurd q hc) (fun _ => ?_)
      refine ev_k (pc' := 13) (ls' := [(0, .inr (.inr (some 1))), (1, .inl (x1)), (2, .inl (x2))]) (st' := [.inl (6), .inl ((x1) + (x2))]) (nc' := 126) (np' := 138) (M' := M) 4 rfl ?_
      obtain ⟨v1, hv, h⟩ := ob_i h
      refine ev_call (t := 89) (as := [.inl ((x1) + (x2)), .inl (6)]) (rest := []) rfl rfl rfl (by omega) (J_floorMod_e (by omega) ((x1) + (x2)) (6) M _ hv) ?_
      refine ev_k (pc' := 19) (ls' := [(3, .inl (v1)), (0, .inr (.inr (some 1))), (1, .inl (x1)), (2, .inl (x2))]) (st' := [.inl (v1), .inr (.inr (some 1))]) (nc' := 126) (np' := 138) (M' := M) 3 rfl ?_
      obtain ⟨v2, hv, h⟩ := ob_i h
      refine ev_call (t := 62) (as := [.inr (.inr (some 1)), .inl (v1)]) (rest := []) rfl rfl rfl (by omega) (Country_isTold_1_e (by omega) (v1) M _ hv) ?_
      refine ev_k (pc' := 22) (ls' := [(3, .inl (v1)), (0, .inr (.inr (some 1))), (1, .inl (x1)), (2, .inl (x2))]) (st' := [.inl (v2)]) (nc' := 126) (np' := 138) (M' := M) 0 rfl ?_
      obtain ⟨hR, ⟨hc, h⟩ | ⟨hc, h⟩⟩ := c_eq_i h
      · refine ev_ifc 27 rfl hR.1 (by decide) (fun _ => ?_) (fun q => absurd hc q)
        refine ev_k (pc' := 2) (ls' := [(0, .inr (.inr (some 1))), (1, .inl (x1)), (2, .inl ((x2) + (1)))]) (st' := []) (nc' := 126) (np' := 138) (M' := M) 2 rfl ?_
        exact ih (x1) ((x2) + (1)) M r h
      · refine ev_ifc 27 rfl hR.1 (by decide) (fun q => absurd q hc) (fun _ => ?_)
        refine ev_k (pc' := 26) (ls' := [(3, .inl (v1)), (0, .inr (.inr (some 1))), (1, .inl (x1)), (2, .inl (x2))]) (st' := [.inl (v1)]) (nc' := 126) (np' := 138) (M' := M) 1 rfl ?_
        cases h
        exact ev_ret rfl
theorem Country_nextTold_1_e {L : Nat} {xs : Nat → Int} {d : Nat} (hd : 2 ≤ d)   (x1 : Int) (M : am_M) (r : Int) (h : Country_nextTold_1   x1 M = some r) : am_Ev L xs d me_88 0 (am_ar1 0 [.inr (.inr (some 1)), .inl (x1)]) [] 126 138 M (some (.inl r), 126, 138, M) := by
  refine ev_k (pc' := 2) (ls' := [(0, .inr (.inr (some 1))), (1, .inl (x1)), (2, .inl (1))]) (st' := []) (nc' := 126) (np' := 138) (M' := M) 2 rfl ?_
  exact Country_nextTold_1_2_t hd     am_big (x1) (1) M r h
def Outing_change_50_26_38     (M : am_M) : Option (am_M) := some (M)
def Outing_change_50_26     (M : am_M) : Option (am_M) := ob (Country_isTold_1 (M 26 9) M) fun v1 => c_eq (v1) (0)
       (Outing_change_50_26_38     M)
       (oc (Outing_spend_50_26 (0) M) fun v2 M3 => c_eq (v2) (0)
       (Outing_change_50_26_38     M3)
       (ob (Country_nextTold_1 (M3 26 9) M3) fun v4 => fw M3 26 9 (v4) fun M5 => (Outing_change_50_26_38     M5)))
theorem Outing_change_50_26_38_t {L : Nat} {xs : Nat → Int} {d : Nat} (hd : 3 ≤ d)      (M : am_M) (r : am_M) (h : Outing_change_50_26_38     M = some r) : am_Ev L xs d me_87 38 [] [] 126 138 M (none, 126, 138, r) := by
  refine ev_k (pc' := 38) (ls' := []) (st' := []) (nc' := 126) (np' := 138) (M' := M) 0 rfl ?_
  cases h
  exact ev_ret rfl
theorem Outing_change_50_26_e {L : Nat} {xs : Nat → Int} {d : Nat} (hd : 3 ≤ d)    (M : am_M) (r : am_M) (h : Outing_change_50_26    M = some r) : am_Ev L xs d me_87 0 (am_ar1 0 [.inr (.inr (some 50)), .inr (.inr (some 26))]) [] 126 138 M (none, 126, 138, r) := by
  refine ev_k (pc' := 8) (ls' := [(0, .inr (.inr (some 50))), (1, .inr (.inr (some 26)))]) (st' := [.inl (M 26 9), .inr (.inr (some 1))]) (nc' := 126) (np' := 138) (M' := M) 4 rfl ?_
  obtain ⟨v1, hv, h⟩ := ob_i h
  refine ev_call (t := 62) (as := [.inr (.inr (some 1)), .inl (M 26 9)]) (rest := []) rfl rfl rfl (by omega) (Country_isTold_1_e (by omega) (M 26 9) M _ hv) ?_
  refine ev_k (pc' := 11) (ls' := [(0, .inr (.inr (some 50))), (1, .inr (.inr (some 26)))]) (st' := [.inl (v1)]) (nc' := 126) (np' := 138) (M' := M) 0 rfl ?_
  obtain ⟨hR, ⟨hc, h⟩ | ⟨hc, h⟩⟩ := c_eq_i h
  · refine ev_ifc 38 rfl hR.1 (by decide) (fun _ => ?_) (fun q => absurd hc q)
    exact Outing_change_50_26_38_t hd      M r h
  · refine ev_ifc 38 rfl hR.1 (by decide) (fun q => absurd q hc) (fun _ => ?_)
    refine ev_k (pc' := 17) (ls' := [(0, .inr (.inr (some 50))), (1, .inr (.inr (some 26)))]) (st' := [.inl (0), .inr (.inr (some 26)), .inr (.inr (some 50))]) (nc' := 126) (np' := 138) (M' := M) 3 rfl ?_
    obtain ⟨v2, M3, hv, h⟩ := oc_i h
    refine ev_call (t := 81) (as := [.inr (.inr (some 50)), .inr (.inr (some 26)), .inl (0)]) (rest := []) rfl rfl rfl (by omega) (Outing_spend_50_26_e (by omega) (0) M _ hv) ?_
    refine ev_k (pc' := 20) (ls' := [(0, .inr (.inr (some 50))), (1, .inr (.inr (some 26)))]) (st' := [.inl (v2)]) (nc' := 126) (np' := 138) (M' := M3) 0 rfl ?_
    obtain ⟨hR, ⟨hc, h⟩ | ⟨hc, h⟩⟩ := c_eq_i h
    · refine ev_ifc 38 rfl hR.1 (by decide) (fun _ => ?_) (fun q => absurd hc q)
      exact Outing_change_50_26_38_t hd      M3 r h
    · refine ev_ifc 38 rfl hR.1 (by decide) (fun q => absurd q hc) (fun _ => ?_)
      refine ev_k (pc' := 32) (ls' := [(0, .inr (.inr (some 50))), (1, .inr (.inr (some 26)))]) (st' := [.inl (M3 26 9), .inr (.inr (some 1)), .inr (.inr (some 26))]) (nc' := 126) (np' := 138) (M' := M3) 5 rfl ?_
      obtain ⟨v4, hv, h⟩ := ob_i h
      refine ev_call (t := 88) (as := [.inr (.inr (some 1)), .inl (M3 26 9)]) (rest := [.inr (.inr (some 26))]) rfl rfl rfl (by omega) (Country_nextTold_1_e (by omega) (M3 26 9) M3 _ hv) ?_
      refine ev_k (pc' := 38) (ls' := []) (st' := []) (nc' := 126) (np' := 138) (M' := am_up M3 26 9 (v4)) 1 rfl ?_
      obtain ⟨M5, eM, h⟩ := fw_i h
      rw [← eM]
      exact Outing_change_50_26_38_t hd      M5 r h
def Trip_tiredOf_26_20    (s0 : Int) (M : am_M) : Option (Int) := some (s0)
def Trip_tiredOf_26_19     (M : am_M) : Option (Int) := (Trip_tiredOf_26_20    (0) M)
def Trip_tiredOf_26    (x1 : Int) (M : am_M) : Option (Int) := c_lt (x1) (0)
       (Trip_tiredOf_26_19     M)
       (c_ge (x1) (6)
       (Trip_tiredOf_26_19     M)
       (rd M 27 6 (x1) fun v1 => (Trip_tiredOf_26_20    (v1) M)))
theorem Trip_tiredOf_26_20_t {L : Nat} {xs : Nat → Int} {d : Nat} (hd : 0 ≤ d)     (s0 : Int) (M : am_M) (r : Int) (h : Trip_tiredOf_26_20    s0 M = some r) : am_Ev L xs d me_82 20 [] [.inl (s0)] 126 138 M (some (.inl r), 126, 138, M) := by
  refine ev_k (pc' := 20) (ls' := []) (st' := [.inl (s0)]) (nc' := 126) (np' := 138) (M' := M) 0 rfl ?_
  cases h
  exact ev_ret rfl
theorem Trip_tiredOf_26_19_t {L : Nat} {xs : Nat → Int} {d : Nat} (hd : 0 ≤ d)      (M : am_M) (r : Int) (h : Trip_tiredOf_26_19     M = some r) : am_Ev L xs d me_82 19 [] [] 126 138 M (some (.inl r), 126, 138, M) := by
  refine ev_k (pc' := 20) (ls' := []) (st' := [.inl (0)]) (nc' := 126) (np' := 138) (M' := M) 1 rfl ?_
  exact Trip_tiredOf_26_20_t hd     (0) M r h
theorem Trip_tiredOf_26_e {L : Nat} {xs : Nat → Int} {d : Nat} (hd : 0 ≤ d)   (x1 : Int) (M : am_M) (r : Int) (h : Trip_tiredOf_26   x1 M = some r) : am_Ev L xs d me_82 0 (am_ar1 0 [.inr (.inr (some 26)), .inl (x1)]) [] 126 138 M (some (.inl r), 126, 138, M) := by
  refine ev_k (pc' := 1) (ls' := [(0, .inr (.inr (some 26))), (1, .inl (x1))]) (st' := [.inl (x1)]) (nc' := 126) (np' := 138) (M' := M) 1 rfl ?_
  obtain ⟨hR, ⟨hc, h⟩ | ⟨hc, h⟩⟩ := c_lt_i h
  · refine ev_ifc 19 rfl hR.1 (by decide) (fun _ => ?_) (fun q => absurd hc q)
    exact Trip_tiredOf_26_19_t hd      M r h
  · refine ev_ifc 19 rfl hR.1 (by decide) (fun q => absurd q hc) (fun _ => ?_)
    refine ev_k (pc' := 7) (ls' := [(0, .inr (.inr (some 26))), (1, .inl (x1))]) (st' := [.inl (6), .inl (x1)]) (nc' := 126) (np' := 138) (M' := M) 2 rfl ?_
    obtain ⟨hR, ⟨hc, h⟩ | ⟨hc, h⟩⟩ := c_ge_i h
    · refine ev_icmp 19 rfl hR.1 hR.2 (by decide) (fun _ => ?_) (fun q => absurd hc q)
      exact Trip_tiredOf_26_19_t hd      M r h
    · refine ev_icmp 19 rfl hR.1 hR.2 (by decide) (fun q => absurd q hc) (fun _ => ?_)
      refine ev_k (pc' := 15) (ls' := [(0, .inr (.inr (some 26))), (1, .inl (x1))]) (st' := [.inl (x1), .inr (.inr (some 27))]) (nc' := 126) (np' := 138) (M' := M) 3 rfl ?_
      obtain ⟨hc, v1, ev, h⟩ := rd_i h
      refine ev_ald (k := 27) (t := 0) (Or.inl ⟨rfl, rfl⟩) rfl (by decide) (by decide) rfl hc ev ?_
      refine ev_k (pc' := 20) (ls' := []) (st' := [.inl (v1)]) (nc' := 126) (np' := 138) (M' := M) 1 rfl ?_
      exact Trip_tiredOf_26_20_t hd     (v1) M r h
def Law_say_5    (x1 : Int) (x2 : Int) (x3 : Int) (x4 : Int) (x5 : Int) (x6 : Int) (x7 : Int) (M : am_M) : Option (am_M) := wa M 12 7 (0) (x1) fun M1 => wa M1 12 7 (1) (x2) fun M2 => wa M2 12 7 (2) (x3) fun M3 => wa M3 12 7 (3) (x4) fun M4 => wa M4 12 7 (4) (x5) fun M5 => wa M5 12 7 (5) (x6) fun M6 => wa M6 12 7 (6) (x7) fun M7 => some (M7)
theorem Law_say_5_e {L : Nat} {xs : Nat → Int} {d : Nat} (hd : 0 ≤ d)   (x1 : Int) (x2 : Int) (x3 : Int) (x4 : Int) (x5 : Int) (x6 : Int) (x7 : Int) (M : am_M) (r : am_M) (h : Law_say_5   x1 x2 x3 x4 x5 x6 x7 M = some r) : am_Ev L xs d me_84 0 (am_ar1 0 [.inr (.inr (some 5)), .inl (x1), .inl (x2), .inl (x3), .inl (x4), .inl (x5), .inl (x6), .inl (x7)]) [] 126 138 M (none, 126, 138, r) := by
  refine ev_k (pc' := 6) (ls' := [(0, .inr (.inr (some 5))), (1, .inl (x1)), (2, .inl (x2)), (3, .inl (x3)), (4, .inl (x4)), (5, .inl (x5)), (6, .inl (x6)), (7, .inl (x7))]) (st' := [.inl (x1), .inl (0), .inr (.inr (some 12))]) (nc' := 126) (np' := 138) (M' := M) 4 rfl ?_
  obtain ⟨hc, M1, eM, h⟩ := wa_i h
  refine ev_iast (k := 12) rfl (by decide) rfl hc eM ?_
  refine ev_k (pc' := 13) (ls' := [(0, .inr (.inr (some 5))), (1, .inl (x1)), (2, .inl (x2)), (3, .inl (x3)), (4, .inl (x4)), (5, .inl (x5)), (6, .inl (x6)), (7, .inl (x7))]) (st' := [.inl (x2), .inl (1), .inr (.inr (some 12))]) (nc' := 126) (np' := 138) (M' := M1) 4 rfl ?_
  obtain ⟨hc, M2, eM, h⟩ := wa_i h
  refine ev_iast (k := 12) rfl (by decide) rfl hc eM ?_
  refine ev_k (pc' := 20) (ls' := [(0, .inr (.inr (some 5))), (1, .inl (x1)), (2, .inl (x2)), (3, .inl (x3)), (4, .inl (x4)), (5, .inl (x5)), (6, .inl (x6)), (7, .inl (x7))]) (st' := [.inl (x3), .inl (2), .inr (.inr (some 12))]) (nc' := 126) (np' := 138) (M' := M2) 4 rfl ?_
  obtain ⟨hc, M3, eM, h⟩ := wa_i h
  refine ev_iast (k := 12) rfl (by decide) rfl hc eM ?_
  refine ev_k (pc' := 28) (ls' := [(0, .inr (.inr (some 5))), (1, .inl (x1)), (2, .inl (x2)), (3, .inl (x3)), (4, .inl (x4)), (5, .inl (x5)), (6, .inl (x6)), (7, .inl (x7))]) (st' := [.inl (x4), .inl (3), .inr (.inr (some 12))]) (nc' := 126) (np' := 138) (M' := M3) 4 rfl ?_
  obtain ⟨hc, M4, eM, h⟩ := wa_i h
  refine ev_iast (k := 12) rfl (by decide) rfl hc eM ?_
  refine ev_k (pc' := 36) (ls' := [(0, .inr (.inr (some 5))), (1, .inl (x1)), (2, .inl (x2)), (3, .inl (x3)), (4, .inl (x4)), (5, .inl (x5)), (6, .inl (x6)), (7, .inl (x7))]) (st' := [.inl (x5), .inl (4), .inr (.inr (some 12))]) (nc' := 126) (np' := 138) (M' := M4) 4 rfl ?_
  obtain ⟨hc, M5, eM, h⟩ := wa_i h
  refine ev_iast (k := 12) rfl (by decide) rfl hc eM ?_
  refine ev_k (pc' := 44) (ls' := [(0, .inr (.inr (some 5))), (1, .inl (x1)), (2, .inl (x2)), (3, .inl (x3)), (4, .inl (x4)), (5, .inl (x5)), (6, .inl (x6)), (7, .inl (x7))]) (st' := [.inl (x6), .inl (5), .inr (.inr (some 12))]) (nc' := 126) (np' := 138) (M' := M5) 4 rfl ?_
  obtain ⟨hc, M6, eM, h⟩ := wa_i h
  refine ev_iast (k := 12) rfl (by decide) rfl hc eM ?_
  refine ev_k (pc' := 53) (ls' := [(0, .inr (.inr (some 5))), (1, .inl (x1)), (2, .inl (x2)), (3, .inl (x3)), (4, .inl (x4)), (5, .inl (x5)), (6, .inl (x6)), (7, .inl (x7))]) (st' := [.inl (x7), .inl (6), .inr (.inr (some 12))]) (nc' := 126) (np' := 138) (M' := M6) 4 rfl ?_
  obtain ⟨hc, M7, eM, h⟩ := wa_i h
  refine ev_iast (k := 12) rfl (by decide) rfl hc eM ?_
  refine ev_k (pc' := 54) (ls' := [(0, .inr (.inr (some 5))), (1, .inl (x1)), (2, .inl (x2)), (3, .inl (x3)), (4, .inl (x4)), (5, .inl (x5)), (6, .inl (x6)), (7, .inl (x7))]) (st' := []) (nc' := 126) (np' := 138) (M' := M7) 0 rfl ?_
  cases h
  exact ev_ret rfl
