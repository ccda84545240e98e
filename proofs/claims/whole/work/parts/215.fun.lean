def R_straying    (x1 : Int) (M : am_M) : Option (Int × am_M) := rd M 95 100 (x1) fun v1 => rd M 75 144 (v1) fun v2 => rd M 96 100 (x1) fun v3 => rd M 97 100 (x1) fun v4 => ob (R_standsReady (v2) (v3) (0) (0) (v4) (0) (M 73 45) M) fun M5 => oc (R_tells (100) (10) M5) fun v6 M7 => some (v6, M7)
theorem R_straying_e {L : Nat} {xs : Nat → Int} {d : Nat} (hd : 4 ≤ d)   (x1 : Int) (M : am_M) (r : Int × am_M) (h : R_straying   x1 M = some r) : am_Ev L xs d me_272 0 (am_ar1 0 [.inr (.inr (some 73)), .inl (x1)]) [] 126 138 M (some (.inl r.1), 126, 138, r.2) := by
  refine ev_k (pc' := 10) (ls' := [(0, .inr (.inr (some 73))), (1, .inl (x1))]) (st' := [.inl (x1), .inr (.inr (some 95)), .inr (.inr (some 75)), .inr (.inr (some 73))]) (nc' := 126) (np' := 138) (M' := M) 6 rfl ?_
  obtain ⟨hc, v1, ev, h⟩ := rd_i h
  refine ev_ald (k := 95) (t := 0) (Or.inl ⟨rfl, rfl⟩) rfl (by decide) (by decide) rfl hc ev ?_
  refine ev_k (pc' := 11) (ls' := [(0, .inr (.inr (some 73))), (1, .inl (x1))]) (st' := [.inl (v1), .inr (.inr (some 75)), .inr (.inr (some 73))]) (nc' := 126) (np' := 138) (M' := M) 0 rfl ?_
  obtain ⟨hc, v2, ev, h⟩ := rd_i h
  refine ev_ald (k := 75) (t := 0) (Or.inl ⟨rfl, rfl⟩) rfl (by decide) (by decide) rfl hc ev ?_
  refine ev_k (pc' := 17) (ls' := [(0, .inr (.inr (some 73))), (1, .inl (x1))]) (st' := [.inl (x1), .inr (.inr (some 96)), .inl (v2), .inr (.inr (some 73))]) (nc' := 126) (np' := 138) (M' := M) 3 rfl ?_
  obtain ⟨hc, v3, ev, h⟩ := rd_i h
  refine ev_ald (k := 96) (t := 0) (Or.inl ⟨rfl, rfl⟩) rfl (by decide) (by decide) rfl hc ev ?_
  refine ev_k (pc' := 25) (ls' := [(0, .inr (.inr (some 73))), (1, .inl (x1))]) (st' := [.inl (x1), .inr (.inr (some 97)), .inl (0), .inl (0), .inl (v3), .inl (v2), .inr (.inr (some 73))]) (nc' := 126) (np' := 138) (M' := M) 5 rfl ?_
  obtain ⟨hc, v4, ev, h⟩ := rd_i h
  refine ev_ald (k := 97) (t := 0) (Or.inl ⟨rfl, rfl⟩) rfl (by decide) (by decide) rfl hc ev ?_
  refine ev_k (pc' := 31) (ls' := [(0, .inr (.inr (some 73))), (1, .inl (x1))]) (st' := [.inl (M 73 45), .inl (0), .inl (v4), .inl (0), .inl (0), .inl (v3), .inl (v2), .inr (.inr (some 73))]) (nc' := 126) (np' := 138) (M' := M) 3 rfl ?_
  obtain ⟨M5, hv, h⟩ := ob_i h
  refine ev_call (t := 249) (as := [.inr (.inr (some 73)), .inl (v2), .inl (v3), .inl (0), .inl (0), .inl (v4), .inl (0), .inl (M 73 45)]) (rest := []) rfl rfl rfl (by omega) (R_standsReady_e (by omega) (v2) (v3) (0) (0) (v4) (0) (M 73 45) M _ hv) ?_
  refine ev_k (pc' := 39) (ls' := [(0, .inr (.inr (some 73))), (1, .inl (x1))]) (st' := [.inl (10), .inl (100), .inr (.inr (some 73))]) (nc' := 126) (np' := 138) (M' := M5) 3 rfl ?_
  obtain ⟨v6, M7, hv, h⟩ := oc_i h
  refine ev_call (t := 250) (as := [.inr (.inr (some 73)), .inl (100), .inl (10)]) (rest := []) rfl rfl rfl (by omega) (R_tells_e (by omega) (100) (10) M5 _ hv) ?_
  refine ev_k (pc' := 42) (ls' := [(0, .inr (.inr (some 73))), (1, .inl (x1))]) (st' := [.inl (v6)]) (nc' := 126) (np' := 138) (M' := M7) 0 rfl ?_
  cases h
  exact ev_ret rfl
def R_safe_107    (s0 : Int) (M : am_M) : Option (Int × am_M) := some (s0, M)
def R_safe_77   (k39 : Int → Int → Int → Int → am_M → Option (Int × am_M)) (x1 : Int) (x2 : Int) (x4 : Int) (x6 : Int) (M : am_M) : Option (Int × am_M) := (k39 (x1) (x2) (x4) ((x6) + (-1)) M)
def R_safe_39    : Nat → Int → Int → Int → Int → am_M → Option (Int × am_M)
  | 0, _, _, _, _, _ => none
  | n + 1, x1, x2, x4, x6, M => c_le (x6) (0)
       (ob (R_dividing (x2) (x4) M) fun v1 => c_ne (x1) (0)
       (ck (am_R6 (x4) ∧ am_R6 (v1) ∧ ((v1) : Int) ≠ 0) (tw (Int.tdiv (x4) (v1)) fun v2 => (R_safe_107    (v2) M)))
       (ck (am_R6 (x2) ∧ am_R6 (v1) ∧ ((v1) : Int) ≠ 0) (tw (Int.tdiv (x2) (v1)) fun v3 => (R_safe_107    (v3) M))))
       (ob (R_isBlind (x6) M) fun v4 => c_ne (v4) (0)
       (oc (R_straying (x6) M) fun v5 M6 => ck (am_R ((10) - (v5))) ((R_safe_77   (R_safe_39    n) (x1) ((x2) * ((10) - (v5))) ((x4) * (10)) (x6) M6)))
       ((R_safe_77   (R_safe_39    n) (x1) (x2) (x4) (x6) M)))
def R_safe    (x1 : Int) (M : am_M) : Option (Int × am_M) := ck (am_R (x1)) (ob (R_lies (x1) (0) (1) M) fun v1 => c_ne (v1) (0)
       (oc (R_back (2) M) fun v2 M3 => c_le (v2) (18)
       ((R_safe_39    am_big (x1) (1) (1) (M3 73 47) M3))
       (some (-3, M3)))
       (some (-1, M)))
theorem R_safe_107_t {L : Nat} {xs : Nat → Int} {d : Nat} (hd : 8 ≤ d)     (s0 : Int) (M : am_M) (r : Int × am_M) (h : R_safe_107    s0 M = some r) : am_Ev L xs d me_271 107 [] [.inr (.inl (s0))] 126 138 M (some (.inr (.inl r.1)), 126, 138, r.2) := by
  refine ev_k (pc' := 107) (ls' := []) (st' := [.inr (.inl (s0))]) (nc' := 126) (np' := 138) (M' := M) 0 rfl ?_
  cases h
  exact ev_ret rfl
theorem R_safe_77_t {L : Nat} {xs : Nat → Int} {d : Nat} (hd : 8 ≤ d)   (k39 : Int → Int → Int → Int → am_M → Option (Int × am_M)) (hk39 : ∀ (x1 : Int) (x2 : Int) (x4 : Int) (x6 : Int) (M : am_M) (r : Int × am_M), k39 x1 x2 x4 x6 M = some r → am_Ev L xs d me_271 39 [(0, .inr (.inr (some 73))), (1, .inl (x1)), (2, .inr (.inl (x2))), (4, .inr (.inl (x4))), (6, .inl (x6))] [] 126 138 M (some (.inr (.inl r.1)), 126, 138, r.2)) (x1 : Int) (x2 : Int) (x4 : Int) (x6 : Int) (M : am_M) (r : Int × am_M) (h : R_safe_77   k39 x1 x2 x4 x6 M = some r) : am_Ev L xs d me_271 77 [(0, .inr (.inr (some 73))), (1, .inl (x1)), (2, .inr (.inl (x2))), (4, .inr (.inl (x4))), (6, .inl (x6))] [] 126 138 M (some (.inr (.inl r.1)), 126, 138, r.2) := by
  refine ev_k (pc' := 39) (ls' := [(0, .inr (.inr (some 73))), (1, .inl (x1)), (2, .inr (.inl (x2))), (4, .inr (.inl (x4))), (6, .inl ((x6) + (-1)))]) (st' := []) (nc' := 126) (np' := 138) (M' := M) 2 rfl ?_
  exact hk39 (x1) (x2) (x4) ((x6) + (-1)) M r h
theorem R_safe_39_t {L : Nat} {xs : Nat → Int} {d : Nat} (hd : 8 ≤ d)     : ∀ (n : Nat) (x1 : Int) (x2 : Int) (x4 : Int) (x6 : Int) (M : am_M) (r : Int × am_M), R_safe_39    n x1 x2 x4 x6 M = some r → am_Ev L xs d me_271 39 [(0, .inr (.inr (some 73))), (1, .inl (x1)), (2, .inr (.inl (x2))), (4, .inr (.inl (x4))), (6, .inl (x6))] [] 126 138 M (some (.inr (.inl r.1)), 126, 138, r.2)
  | 0, _, _, _, _, M, r, h => by cases h
  | n + 1, x1, x2, x4, x6, M, r, h => by
    have ih := R_safe_39_t (L := L) (xs := xs) hd     n
    refine ev_k (pc' := 41) (ls' := [(0, .inr (.inr (some 73))), (1, .inl (x1)), (2, .inr (.inl (x2))), (4, .inr (.inl (x4))), (6, .inl (x6))]) (st' := [.inl (x6)]) (nc' := 126) (np' := 138) (M' := M) 1 rfl ?_
    obtain ⟨hR, ⟨hc, h⟩ | ⟨hc, h⟩⟩ := c_le_i h
    · refine ev_ifc 83 rfl hR.1 (by decide) (fun _ => ?_) (fun q => absurd hc q)
      refine ev_k (pc' := 86) (ls' := [(0, .inr (.inr (some 73))), (1, .inl (x1)), (2, .inr (.inl (x2))), (4, .inr (.inl (x4))), (6, .inl (x6))]) (st' := [.inr (.inl (x4)), .inr (.inl (x2))]) (nc' := 126) (np' := 138) (M' := M) 2 rfl ?_
      obtain ⟨v1, hv, h⟩ := ob_i h
      refine ev_call (t := 273) (as := [.inr (.inl (x2)), .inr (.inl (x4))]) (rest := []) rfl rfl rfl (by omega) (R_dividing_e (by omega) (x2) (x4) M _ hv) ?_
      refine ev_k (pc' := 92) (ls' := [(6, .inr (.inl (v1))), (0, .inr (.inr (some 73))), (1, .inl (x1)), (2, .inr (.inl (x2))), (4, .inr (.inl (x4)))]) (st' := [.inl (x1)]) (nc' := 126) (np' := 138) (M' := M) 2 rfl ?_
      obtain ⟨hR, ⟨hc, h⟩ | ⟨hc, h⟩⟩ := c_ne_i h
      · refine ev_ifc 102 rfl hR.1 (by decide) (fun _ => ?_) (fun q => absurd hc q)
        refine ev_k (pc' := 106) (ls' := [(6, .inr (.inl (v1))), (0, .inr (.inr (some 73))), (1, .inl (x1)), (2, .inr (.inl (x2))), (4, .inr (.inl (x4)))]) (st' := [.inr (.inl (v1)), .inr (.inl (x4))]) (nc' := 126) (np' := 138) (M' := M) 2 rfl ?_
        obtain ⟨hc, h⟩ := ck_i h
        obtain ⟨v2, ev, h⟩ := tw_i h
        refine ev_ldiv rfl hc ?_
        refine ev_k (pc' := 107) (ls' := []) (st' := [.inr (.inl (Int.tdiv (x4) (v1)))]) (nc' := 126) (np' := 138) (M' := M) 0 rfl ?_
        rw [← ev]
        exact R_safe_107_t hd     (v2) M r h
      · refine ev_ifc 102 rfl hR.1 (by decide) (fun q => absurd q hc) (fun _ => ?_)
        refine ev_k (pc' := 98) (ls' := [(6, .inr (.inl (v1))), (0, .inr (.inr (some 73))), (1, .inl (x1)), (2, .inr (.inl (x2))), (4, .inr (.inl (x4)))]) (st' := [.inr (.inl (v1)), .inr (.inl (x2))]) (nc' := 126) (np' := 138) (M' := M) 2 rfl ?_
        obtain ⟨hc, h⟩ := ck_i h
        obtain ⟨v3, ev, h⟩ := tw_i h
        refine ev_ldiv rfl hc ?_
        refine ev_k (pc' := 99) (ls' := [(6, .inr (.inl (v1))), (0, .inr (.inr (some 73))), (1, .inl (x1)), (2, .inr (.inl (x2))), (4, .inr (.inl (x4)))]) (st' := [.inr (.inl (Int.tdiv (x2) (v1)))]) (nc' := 126) (np' := 138) (M' := M) 0 rfl ?_
        rw [← ev]
        refine ev_k (pc' := 107) (ls' := []) (st' := [.inr (.inl (v3))]) (nc' := 126) (np' := 138) (M' := M) 1 rfl ?_
        exact R_safe_107_t hd     (v3) M r h
    · refine ev_ifc 83 rfl hR.1 (by decide) (fun q => absurd q hc) (fun _ => ?_)
      refine ev_k (pc' := 47) (ls' := [(0, .inr (.inr (some 73))), (1, .inl (x1)), (2, .inr (.inl (x2))), (4, .inr (.inl (x4))), (6, .inl (x6))]) (st' := [.inl (x6), .inr (.inr (some 73))]) (nc' := 126) (np' := 138) (M' := M) 2 rfl ?_
      obtain ⟨v4, hv, h⟩ := ob_i h
      refine ev_call (t := 235) (as := [.inr (.inr (some 73)), .inl (x6)]) (rest := []) rfl rfl rfl (by omega) (R_isBlind_e (by omega) (x6) M _ hv) ?_
      refine ev_k (pc' := 50) (ls' := [(0, .inr (.inr (some 73))), (1, .inl (x1)), (2, .inr (.inl (x2))), (4, .inr (.inl (x4))), (6, .inl (x6))]) (st' := [.inl (v4)]) (nc' := 126) (np' := 138) (M' := M) 0 rfl ?_
      obtain ⟨hR, ⟨hc, h⟩ | ⟨hc, h⟩⟩ := c_ne_i h
      · refine ev_ifc 56 rfl hR.1 (by decide) (fun _ => ?_) (fun q => absurd hc q)
        refine ev_k (pc' := 62) (ls' := [(0, .inr (.inr (some 73))), (1, .inl (x1)), (2, .inr (.inl (x2))), (4, .inr (.inl (x4))), (6, .inl (x6))]) (st' := [.inl (x6), .inr (.inr (some 73)), .inl (10), .inr (.inl (x2))]) (nc' := 126) (np' := 138) (M' := M) 4 rfl ?_
        obtain ⟨v5, M6, hv, h⟩ := oc_i h
        refine ev_call (t := 272) (as := [.inr (.inr (some 73)), .inl (x6)]) (rest := [.inl (10), .inr (.inl (x2))]) rfl rfl rfl (by omega) (R_straying_e (by omega) (x6) M _ hv) ?_
        refine ev_k (pc' := 66) (ls' := [(0, .inr (.inr (some 73))), (1, .inl (x1)), (2, .inr (.inl (x2))), (4, .inr (.inl (x4))), (6, .inl (x6))]) (st' := [.inl ((10) - (v5)), .inr (.inl (x2))]) (nc' := 126) (np' := 138) (M' := M6) 1 rfl ?_
        obtain ⟨hc, h⟩ := ck_i h
        refine ev_i2l rfl hc ?_
        refine ev_k (pc' := 77) (ls' := [(0, .inr (.inr (some 73))), (1, .inl (x1)), (2, .inr (.inl ((x2) * ((10) - (v5))))), (4, .inr (.inl ((x4) * (10)))), (6, .inl (x6))]) (st' := []) (nc' := 126) (np' := 138) (M' := M6) 6 rfl ?_
        exact R_safe_77_t hd   (R_safe_39    n) ih (x1) ((x2) * ((10) - (v5))) ((x4) * (10)) (x6) M6 r h
      · refine ev_ifc 56 rfl hR.1 (by decide) (fun q => absurd q hc) (fun _ => ?_)
        refine ev_k (pc' := 77) (ls' := [(0, .inr (.inr (some 73))), (1, .inl (x1)), (2, .inr (.inl (x2))), (4, .inr (.inl (x4))), (6, .inl (x6))]) (st' := []) (nc' := 126) (np' := 138) (M' := M) 1 rfl ?_
        exact R_safe_77_t hd   (R_safe_39    n) ih (x1) (x2) (x4) (x6) M r h
theorem R_safe_e {L : Nat} {xs : Nat → Int} {d : Nat} (hd : 8 ≤ d)   (x1 : Int) (M : am_M) (r : Int × am_M) (h : R_safe   x1 M = some r) : am_Ev L xs d me_271 0 (am_ar1 0 [.inr (.inr (some 73)), .inl (x1)]) [] 126 138 M (some (.inr (.inl r.1)), 126, 138, r.2) := by
  refine ev_k (pc' := 1) (ls' := [(0, .inr (.inr (some 73))), (1, .inl (x1))]) (st' := [.inl (x1)]) (nc' := 126) (np' := 138) (M' := M) 1 rfl ?_
  obtain ⟨hc, h⟩ := ck_i h
  refine ev_i2l rfl hc ?_
  refine ev_k (pc' := 4) (ls' := [(0, .inr (.inr (some 73))), (1, .inl (x1))]) (st' := [.inr (.inl (1)), .inr (.inl (0)), .inr (.inl (x1))]) (nc' := 126) (np' := 138) (M' := M) 2 rfl ?_
  obtain ⟨v1, hv, h⟩ := ob_i h
  refine ev_call (t := 193) (as := [.inr (.inl (x1)), .inr (.inl (0)), .inr (.inl (1))]) (rest := []) rfl rfl rfl (by omega) (R_lies_e (by omega) (x1) (0) (1) M _ hv) ?_
  refine ev_k (pc' := 7) (ls' := [(0, .inr (.inr (some 73))), (1, .inl (x1))]) (st' := [.inl (v1)]) (nc' := 126) (np' := 138) (M' := M) 0 rfl ?_
  obtain ⟨hR, ⟨hc, h⟩ | ⟨hc, h⟩⟩ := c_ne_i h
  · refine ev_ifc 14 rfl hR.1 (by decide) (fun _ => ?_) (fun q => absurd hc q)
    refine ev_k (pc' := 16) (ls' := [(0, .inr (.inr (some 73))), (1, .inl (x1))]) (st' := [.inl (2), .inr (.inr (some 73))]) (nc' := 126) (np' := 138) (M' := M) 2 rfl ?_
    obtain ⟨v2, M3, hv, h⟩ := oc_i h
    refine ev_call (t := 269) (as := [.inr (.inr (some 73)), .inl (2)]) (rest := []) rfl rfl rfl (by omega) (R_back_e (by omega) (2) M _ hv) ?_
    refine ev_k (pc' := 21) (ls' := [(0, .inr (.inr (some 73))), (1, .inl (x1))]) (st' := [.inl (18), .inl (v2)]) (nc' := 126) (np' := 138) (M' := M3) 1 rfl ?_
    obtain ⟨hR, ⟨hc, h⟩ | ⟨hc, h⟩⟩ := c_le_i h
    · refine ev_icmp 28 rfl hR.1 hR.2 (by decide) (fun _ => ?_) (fun q => absurd hc q)
      refine ev_k (pc' := 39) (ls' := [(0, .inr (.inr (some 73))), (1, .inl (x1)), (2, .inr (.inl (1))), (4, .inr (.inl (1))), (6, .inl (M3 73 47))]) (st' := []) (nc' := 126) (np' := 138) (M' := M3) 7 rfl ?_
      exact R_safe_39_t hd     am_big (x1) (1) (1) (M3 73 47) M3 r h
    · refine ev_icmp 28 rfl hR.1 hR.2 (by decide) (fun q => absurd q hc) (fun _ => ?_)
      refine ev_k (pc' := 27) (ls' := [(0, .inr (.inr (some 73))), (1, .inl (x1))]) (st' := [.inr (.inl (-3))]) (nc' := 126) (np' := 138) (M' := M3) 1 rfl ?_
      cases h
      exact ev_ret rfl
  · refine ev_ifc 14 rfl hR.1 (by decide) (fun q => absurd q hc) (fun _ => ?_)
    refine ev_k (pc' := 13) (ls' := [(0, .inr (.inr (some 73))), (1, .inl (x1))]) (st' := [.inr (.inl (-1))]) (nc' := 126) (np' := 138) (M' := M) 1 rfl ?_
    cases h
    exact ev_ret rfl
def R_draw     (M : am_M) : Option (Int × am_M) := ck (am_R (((25173) * (M 73 2)) + (13849)) ∧ am_R (65536) ∧ ((65536) : Int) ≠ 0) (tw (Int.tmod (((25173) * (M 73 2)) + (13849)) (65536)) fun v1 => fw M 73 2 (v1) fun M2 => ck (am_R (M2 73 2) ∧ am_R (10) ∧ ((10) : Int) ≠ 0) (tw (Int.tmod (M2 73 2) (10)) fun v3 => some (v3, M2)))
theorem R_draw_e {L : Nat} {xs : Nat → Int} {d : Nat} (hd : 0 ≤ d)    (M : am_M) (r : Int × am_M) (h : R_draw    M = some r) : am_Ev L xs d me_275 0 (am_ar1 0 [.inr (.inr (some 73))]) [] 126 138 M (some (.inl r.1), 126, 138, r.2) := by
  refine ev_k (pc' := 16) (ls' := [(0, .inr (.inr (some 73)))]) (st' := [.inl (65536), .inl (((25173) * (M 73 2)) + (13849)), .inr (.inr (some 73))]) (nc' := 126) (np' := 138) (M' := M) 8 rfl ?_
  obtain ⟨hc, h⟩ := ck_i h
  obtain ⟨v1, ev, h⟩ := tw_i h
  refine ev_irem rfl hc ?_
  refine ev_k (pc' := 17) (ls' := [(0, .inr (.inr (some 73)))]) (st' := [.inl (Int.tmod (((25173) * (M 73 2)) + (13849)) (65536)), .inr (.inr (some 73))]) (nc' := 126) (np' := 138) (M' := M) 0 rfl ?_
  rw [← ev]
  refine ev_k (pc' := 20) (ls' := [(0, .inr (.inr (some 73)))]) (st' := []) (nc' := 126) (np' := 138) (M' := am_up M 73 2 (v1)) 1 rfl ?_
  obtain ⟨M2, eM, h⟩ := fw_i h
  rw [← eM]
  refine ev_k (pc' := 26) (ls' := [(0, .inr (.inr (some 73)))]) (st' := [.inl (10), .inl (M2 73 2)]) (nc' := 126) (np' := 138) (M' := M2) 3 rfl ?_
  obtain ⟨hc, h⟩ := ck_i h
  obtain ⟨v3, ev, h⟩ := tw_i h
  refine ev_irem rfl hc ?_
  refine ev_k (pc' := 27) (ls' := [(0, .inr (.inr (some 73)))]) (st' := [.inl (Int.tmod (M2 73 2) (10))]) (nc' := 126) (np' := 138) (M' := M2) 0 rfl ?_
  rw [← ev]
  refine ev_k (pc' := 27) (ls' := [(0, .inr (.inr (some 73)))]) (st' := [.inl (v3)]) (nc' := 126) (np' := 138) (M' := M2) 0 rfl ?_
  cases h
  exact ev_ret rfl
def R_home_87   (k10 : Int → am_M → Option (Int × am_M)) (x1 : Int) (M : am_M) : Option (Int × am_M) := (k10 (x1) M)
def R_home_56   (k10 : Int → am_M → Option (Int × am_M)) (x1 : Int) (s0 : Int) (M : am_M) : Option (Int × am_M) := oc (R_walkingTo ((M 73 47) - (1)) (2) M) fun v1 M2 => oc (R_passes ((v1) + (s0)) M2) fun v3 M4 => c_eq (v3) (0)
       (R_home_87   k10 (x1) M4)
       (fw M4 73 47 ((M4 73 47) - (1)) fun M5 => (R_home_87   k10 (x1) M5))
def R_home_90    (x1 : Int) (M : am_M) : Option (Int × am_M) := some ((M 73 44) - (x1), M)
def R_home_55   (k10 : Int → am_M → Option (Int × am_M)) (x1 : Int) (M : am_M) : Option (Int × am_M) := (R_home_56   k10 (x1) (0) M)
def R_home_10    : Nat → Int → am_M → Option (Int × am_M)
  | 0, _, _ => none
  | n + 1, x1, M => c_le (M 73 47) (0)
       (R_home_90    (x1) M)
       (c_ne (M 73 76) (0)
       (R_home_90    (x1) M)
       (ob (R_isBlind (M 73 47) M) fun v1 => c_eq (v1) (0)
       (R_home_55   (R_home_10    n) (x1) M)
       (oc (R_draw  M) fun v2 M3 => oc (R_straying (M3 73 47) M3) fun v4 M5 => c_ge (v2) (v4)
       (R_home_55   (R_home_10    n) (x1) M5)
       ((R_home_56   (R_home_10    n) (x1) (30) M5)))))
def R_home     (M : am_M) : Option (Int × am_M) := fz M 73 76 (0) fun M1 => (R_home_10    am_big (M 73 44) M1)
theorem R_home_87_t {L : Nat} {xs : Nat → Int} {d : Nat} (hd : 6 ≤ d)   (k10 : Int → am_M → Option (Int × am_M)) (hk10 : ∀ (x1 : Int) (M : am_M) (r : Int × am_M), k10 x1 M = some r → am_Ev L xs d me_274 10 [(0, .inr (.inr (some 73))), (1, .inl (x1))] [] 126 138 M (some (.inl r.1), 126, 138, r.2)) (x1 : Int) (M : am_M) (r : Int × am_M) (h : R_home_87   k10 x1 M = some r) : am_Ev L xs d me_274 87 [(0, .inr (.inr (some 73))), (1, .inl (x1))] [] 126 138 M (some (.inl r.1), 126, 138, r.2) := by
  refine ev_k (pc' := 10) (ls' := [(0, .inr (.inr (some 73))), (1, .inl (x1))]) (st' := []) (nc' := 126) (np' := 138) (M' := M) 1 rfl ?_
  exact hk10 (x1) M r h
theorem R_home_56_t {L : Nat} {xs : Nat → Int} {d : Nat} (hd : 6 ≤ d)   (k10 : Int → am_M → Option (Int × am_M)) (hk10 : ∀ (x1 : Int) (M : am_M) (r : Int × am_M), k10 x1 M = some r → am_Ev L xs d me_274 10 [(0, .inr (.inr (some 73))), (1, .inl (x1))] [] 126 138 M (some (.inl r.1), 126, 138, r.2)) (x1 : Int) (s0 : Int) (M : am_M) (r : Int × am_M) (h : R_home_56   k10 x1 s0 M = some r) : am_Ev L xs d me_274 56 [(0, .inr (.inr (some 73))), (1, .inl (x1))] [.inl (s0)] 126 138 M (some (.inl r.1), 126, 138, r.2) := by
  refine ev_k (pc' := 66) (ls' := [(2, .inl (s0)), (0, .inr (.inr (some 73))), (1, .inl (x1))]) (st' := [.inl (2), .inl ((M 73 47) - (1)), .inr (.inr (some 73)), .inr (.inr (some 73))]) (nc' := 126) (np' := 138) (M' := M) 8 rfl ?_
  obtain ⟨v1, M2, hv, h⟩ := oc_i h
  refine ev_call (t := 247) (as := [.inr (.inr (some 73)), .inl ((M 73 47) - (1)), .inl (2)]) (rest := [.inr (.inr (some 73))]) rfl rfl rfl (by omega) (R_walkingTo_e (by omega) ((M 73 47) - (1)) (2) M _ hv) ?_
  refine ev_k (pc' := 71) (ls' := [(2, .inl (s0)), (0, .inr (.inr (some 73))), (1, .inl (x1))]) (st' := [.inl ((v1) + (s0)), .inr (.inr (some 73))]) (nc' := 126) (np' := 138) (M' := M2) 2 rfl ?_
  obtain ⟨v3, M4, hv, h⟩ := oc_i h
  refine ev_call (t := 256) (as := [.inr (.inr (some 73)), .inl ((v1) + (s0))]) (rest := []) rfl rfl rfl (by omega) (R_passes_e (by omega) ((v1) + (s0)) M2 _ hv) ?_
  refine ev_k (pc' := 74) (ls' := [(2, .inl (s0)), (0, .inr (.inr (some 73))), (1, .inl (x1))]) (st' := [.inl (v3)]) (nc' := 126) (np' := 138) (M' := M4) 0 rfl ?_
  obtain ⟨hR, ⟨hc, h⟩ | ⟨hc, h⟩⟩ := c_eq_i h
  · refine ev_ifc 87 rfl hR.1 (by decide) (fun _ => ?_) (fun q => absurd hc q)
    exact R_home_87_t hd   k10 hk10 (x1) M4 r h
  · refine ev_ifc 87 rfl hR.1 (by decide) (fun q => absurd q hc) (fun _ => ?_)
    refine ev_k (pc' := 87) (ls' := [(0, .inr (.inr (some 73))), (1, .inl (x1))]) (st' := []) (nc' := 126) (np' := 138) (M' := am_up M4 73 47 ((M4 73 47) - (1))) 6 rfl ?_
    obtain ⟨M5, eM, h⟩ := fw_i h
    rw [← eM]
    exact R_home_87_t hd   k10 hk10 (x1) M5 r h
theorem R_home_90_t {L : Nat} {xs : Nat → Int} {d : Nat} (hd : 6 ≤ d)     (x1 : Int) (M : am_M) (r : Int × am_M) (h : R_home_90    x1 M = some r) : am_Ev L xs d me_274 90 [(0, .inr (.inr (some 73))), (1, .inl (x1))] [] 126 138 M (some (.inl r.1), 126, 138, r.2) := by
  refine ev_k (pc' := 96) (ls' := [(0, .inr (.inr (some 73))), (1, .inl (x1))]) (st' := [.inl ((M 73 44) - (x1))]) (nc' := 126) (np' := 138) (M' := M) 4 rfl ?_
  cases h
  exact ev_ret rfl
theorem R_home_55_t {L : Nat} {xs : Nat → Int} {d : Nat} (hd : 6 ≤ d)   (k10 : Int → am_M → Option (Int × am_M)) (hk10 : ∀ (x1 : Int) (M : am_M) (r : Int × am_M), k10 x1 M = some r → am_Ev L xs d me_274 10 [(0, .inr (.inr (some 73))), (1, .inl (x1))] [] 126 138 M (some (.inl r.1), 126, 138, r.2)) (x1 : Int) (M : am_M) (r : Int × am_M) (h : R_home_55   k10 x1 M = some r) : am_Ev L xs d me_274 55 [(0, .inr (.inr (some 73))), (1, .inl (x1))] [] 126 138 M (some (.inl r.1), 126, 138, r.2) := by
  refine ev_k (pc' := 56) (ls' := [(0, .inr (.inr (some 73))), (1, .inl (x1))]) (st' := [.inl (0)]) (nc' := 126) (np' := 138) (M' := M) 1 rfl ?_
  exact R_home_56_t hd   k10 hk10 (x1) (0) M r h
theorem R_home_10_t {L : Nat} {xs : Nat → Int} {d : Nat} (hd : 6 ≤ d)     : ∀ (n : Nat) (x1 : Int) (M : am_M) (r : Int × am_M), R_home_10    n x1 M = some r → am_Ev L xs d me_274 10 [(0, .inr (.inr (some 73))), (1, .inl (x1))] [] 126 138 M (some (.inl r.1), 126, 138, r.2)
  | 0, _, M, r, h => by cases h
  | n + 1, x1, M, r, h => by
    have ih := R_home_10_t (L := L) (xs := xs) hd     n
    refine ev_k (pc' := 14) (ls' := [(0, .inr (.inr (some 73))), (1, .inl (x1))]) (st' := [.inl (M 73 47)]) (nc' := 126) (np' := 138) (M' := M) 2 rfl ?_
    obtain ⟨hR, ⟨hc, h⟩ | ⟨hc, h⟩⟩ := c_le_i h
    · refine ev_ifc 90 rfl hR.1 (by decide) (fun _ => ?_) (fun q => absurd hc q)
      exact R_home_90_t hd     (x1) M r h
    · refine ev_ifc 90 rfl hR.1 (by decide) (fun q => absurd q hc) (fun _ => ?_)
      refine ev_k (pc' := 21) (ls' := [(0, .inr (.inr (some 73))), (1, .inl (x1))]) (st' := [.inl (M 73 76)]) (nc' := 126) (np' := 138) (M' := M) 2 rfl ?_
      obtain ⟨hR, ⟨hc, h⟩ | ⟨hc, h⟩⟩ := c_ne_i h
      · refine ev_ifc 90 rfl hR.1 (by decide) (fun _ => ?_) (fun q => absurd hc q)
        exact R_home_90_t hd     (x1) M r h
      · refine ev_ifc 90 rfl hR.1 (by decide) (fun q => absurd q hc) (fun _ => ?_)
        refine ev_k (pc' := 29) (ls' := [(0, .inr (.inr (some 73))), (1, .inl (x1))]) (st' := [.inl (M 73 47), .inr (.inr (some 73))]) (nc' := 126) (np' := 138) (M' := M) 3 rfl ?_
        obtain ⟨v1, hv, h⟩ := ob_i h
        refine ev_call (t := 235) (as := [.inr (.inr (some 73)), .inl (M 73 47)]) (rest := []) rfl rfl rfl (by omega) (R_isBlind_e (by omega) (M 73 47) M _ hv) ?_
        refine ev_k (pc' := 32) (ls' := [(0, .inr (.inr (some 73))), (1, .inl (x1))]) (st' := [.inl (v1)]) (nc' := 126) (np' := 138) (M' := M) 0 rfl ?_
        obtain ⟨hR, ⟨hc, h⟩ | ⟨hc, h⟩⟩ := c_eq_i h
        · refine ev_ifc 55 rfl hR.1 (by decide) (fun _ => ?_) (fun q => absurd hc q)
          exact R_home_55_t hd   (R_home_10    n) ih (x1) M r h
        · refine ev_ifc 55 rfl hR.1 (by decide) (fun q => absurd q hc) (fun _ => ?_)
          refine ev_k (pc' := 36) (ls' := [(0, .inr (.inr (some 73))), (1, .inl (x1))]) (st' := [.inr (.inr (some 73))]) (nc' := 126) (np' := 138) (M' := M) 1 rfl ?_
          obtain ⟨v2, M3, hv, h⟩ := oc_i h
          refine ev_call (t := 275) (as := [.inr (.inr (some 73))]) (rest := []) rfl rfl rfl (by omega) (R_draw_e (by omega)  M _ hv) ?_
          refine ev_k (pc' := 44) (ls' := [(0, .inr (.inr (some 73))), (1, .inl (x1))]) (st' := [.inl (M3 73 47), .inr (.inr (some 73)), .inl (v2)]) (nc' := 126) (np' := 138) (M' := M3) 3 rfl ?_
          obtain ⟨v4, M5, hv, h⟩ := oc_i h
          refine ev_call (t := 272) (as := [.inr (.inr (some 73)), .inl (M3 73 47)]) (rest := [.inl (v2)]) rfl rfl rfl (by omega) (R_straying_e (by omega) (M3 73 47) M3 _ hv) ?_
          refine ev_k (pc' := 47) (ls' := [(0, .inr (.inr (some 73))), (1, .inl (x1))]) (st' := [.inl (v4), .inl (v2)]) (nc' := 126) (np' := 138) (M' := M5) 0 rfl ?_
          obtain ⟨hR, ⟨hc, h⟩ | ⟨hc, h⟩⟩ := c_ge_i h
          · refine ev_icmp 55 rfl hR.1 hR.2 (by decide) (fun _ => ?_) (fun q => absurd hc q)
            exact R_home_55_t hd   (R_home_10    n) ih (x1) M5 r h
          · refine ev_icmp 55 rfl hR.1 hR.2 (by decide) (fun q => absurd q hc) (fun _ => ?_)
            refine ev_k (pc' := 56) (ls' := [(0, .inr (.inr (some 73))), (1, .inl (x1))]) (st' := [.inl (30)]) (nc' := 126) (np' := 138) (M' := M5) 2 rfl ?_
            exact R_home_56_t hd   (R_home_10    n) ih (x1) (30) M5 r h
theorem R_home_e {L : Nat} {xs : Nat → Int} {d : Nat} (hd : 6 ≤ d)    (M : am_M) (r : Int × am_M) (h : R_home    M = some r) : am_Ev L xs d me_274 0 (am_ar1 0 [.inr (.inr (some 73))]) [] 126 138 M (some (.inl r.1), 126, 138, r.2) := by
  refine ev_k (pc' := 7) (ls' := [(1, .inl (M 73 44)), (0, .inr (.inr (some 73)))]) (st' := [.inl (0), .inr (.inr (some 73))]) (nc' := 126) (np' := 138) (M' := M) 5 rfl ?_
  obtain ⟨hc, M1, eM, h⟩ := fz_i h
  refine ev_putz (k := 73) (j := 76) rfl rfl (by decide) rfl rfl hc eM ?_
  exact R_home_10_t hd     am_big (M 73 44) M1 r h
def R_turn_30     (M : am_M) : Option (Int × am_M) := some (-1, M)
def R_turn_155    (s0 : Int) (M : am_M) : Option (Int × am_M) := some (s0, M)
def R_turn_145    (x2 : Int) (x3 : Int) (x4 : Int) (M : am_M) : Option (Int × am_M) := c_ne (x2) (0)
       ((R_turn_155    (x4) M))
       ((R_turn_155    (x3) M))
def R_turn_134   (k63 : Int → Int → Int → Int → Int → am_M → Option (Int × am_M)) (x2 : Int) (x3 : Int) (x4 : Int) (x5 : Int) (x6 : Int) (M : am_M) : Option (Int × am_M) := ob (R_bringsBack (0) M) fun M1 => (k63 (x2) (x3) (x4) (x5) ((x6) + (1)) M1)
def R_turn_97   (k63 : Int → Int → Int → Int → Int → am_M → Option (Int × am_M)) (x2 : Int) (x3 : Int) (x4 : Int) (x6 : Int) (x7 : Int) (s0 : Int) (M : am_M) : Option (Int × am_M) := oc (R_minutesBack  M) fun v1 M2 => c_eq (s0) (0)
       (R_turn_134   k63 (x2) (x3) (x4) (s0) (x6) M2)
       (c_gt ((M2 73 44) + (v1)) (M2 73 43)
       (R_turn_134   k63 (x2) (x3) (x4) (s0) (x6) M2)
       ((R_turn_134   k63 (x2) (x6) ((x7) + (v1)) (s0) (x6) M2)))
def R_turn_63    : Nat → Int → Int → Int → Int → Int → am_M → Option (Int × am_M)
  | 0, _, _, _, _, _, _ => none
  | n + 1, x2, x3, x4, x5, x6, M => c_gt (x6) (M 73 68)
       (R_turn_145    (x2) (x3) (x4) M)
       (c_eq (x5) (0)
       (R_turn_145    (x2) (x3) (x4) M)
       (oc (R_doesActs (x6) M) fun v1 M2 => c_ne (M2 73 76) (0)
       ((R_turn_97   (R_turn_63    n) (x2) (x3) (x4) (x6) (v1) (0) M2))
       ((R_turn_97   (R_turn_63    n) (x2) (x3) (x4) (x6) (v1) (1) M2))))
def R_turn    (x1 : Int) (x2 : Int) (M : am_M) : Option (Int × am_M) := ck (am_R (x1)) (ob (R_lies (x1) (1) (80) M) fun v1 => c_eq (v1) (0)
       (R_turn_30     M)
       (ck (am_R (x2)) (ob (R_lies (x2) (0) (1) M) fun v2 => c_eq (v2) (0)
       (R_turn_30     M)
       (c_le (x1) (M 73 1)
       (oc (R_takesActs (x1) M) fun v3 M4 => c_ne (v3) (0)
       (ob (R_laysAside (0) M4) fun M5 => (R_turn_63    am_big (x2) (-2) (-2) (1) (0) M5))
       (some (M4 73 5, M4)))
       (R_turn_30     M)))))
theorem R_turn_30_t {L : Nat} {xs : Nat → Int} {d : Nat} (hd : 9 ≤ d)      (M : am_M) (r : Int × am_M) (h : R_turn_30     M = some r) : am_Ev L xs d me_276 30 [] [] 126 138 M (some (.inl r.1), 126, 138, r.2) := by
  refine ev_k (pc' := 31) (ls' := []) (st' := [.inl (-1)]) (nc' := 126) (np' := 138) (M' := M) 1 rfl ?_
  cases h
  exact ev_ret rfl
theorem R_turn_155_t {L : Nat} {xs : Nat → Int} {d : Nat} (hd : 9 ≤ d)     (s0 : Int) (M : am_M) (r : Int × am_M) (h : R_turn_155    s0 M = some r) : am_Ev L xs d me_276 155 [] [.inl (s0)] 126 138 M (some (.inl r.1), 126, 138, r.2) := by
  refine ev_k (pc' := 155) (ls' := []) (st' := [.inl (s0)]) (nc' := 126) (np' := 138) (M' := M) 0 rfl ?_
  cases h
  exact ev_ret rfl
theorem R_turn_145_t {L : Nat} {xs : Nat → Int} {d : Nat} (hd : 9 ≤ d)     (x2 : Int) (x3 : Int) (x4 : Int) (M : am_M) (r : Int × am_M) (h : R_turn_145    x2 x3 x4 M = some r) : am_Ev L xs d me_276 145 [(2, .inl (x2)), (3, .inl (x3)), (4, .inl (x4))] [] 126 138 M (some (.inl r.1), 126, 138, r.2) := by
  refine ev_k (pc' := 146) (ls' := [(2, .inl (x2)), (3, .inl (x3)), (4, .inl (x4))]) (st' := [.inl (x2)]) (nc' := 126) (np' := 138) (M' := M) 1 rfl ?_
  obtain ⟨hR, ⟨hc, h⟩ | ⟨hc, h⟩⟩ := c_ne_i h
  · refine ev_ifc 153 rfl hR.1 (by decide) (fun _ => ?_) (fun q => absurd hc q)
    refine ev_k (pc' := 155) (ls' := []) (st' := [.inl (x4)]) (nc' := 126) (np' := 138) (M' := M) 1 rfl ?_
    exact R_turn_155_t hd     (x4) M r h
  · refine ev_ifc 153 rfl hR.1 (by decide) (fun q => absurd q hc) (fun _ => ?_)
    refine ev_k (pc' := 155) (ls' := []) (st' := [.inl (x3)]) (nc' := 126) (np' := 138) (M' := M) 2 rfl ?_
    exact R_turn_155_t hd     (x3) M r h
theorem R_turn_134_t {L : Nat} {xs : Nat → Int} {d : Nat} (hd : 9 ≤ d)   (k63 : Int → Int → Int → Int → Int → am_M → Option (Int × am_M)) (hk63 : ∀ (x2 : Int) (x3 : Int) (x4 : Int) (x5 : Int) (x6 : Int) (M : am_M) (r : Int × am_M), k63 x2 x3 x4 x5 x6 M = some r → am_Ev L xs d me_276 63 [(0, .inr (.inr (some 73))), (2, .inl (x2)), (3, .inl (x3)), (4, .inl (x4)), (5, .inl (x5)), (6, .inl (x6))] [] 126 138 M (some (.inl r.1), 126, 138, r.2)) (x2 : Int) (x3 : Int) (x4 : Int) (x5 : Int) (x6 : Int) (M : am_M) (r : Int × am_M) (h : R_turn_134   k63 x2 x3 x4 x5 x6 M = some r) : am_Ev L xs d me_276 134 [(0, .inr (.inr (some 73))), (2, .inl (x2)), (3, .inl (x3)), (4, .inl (x4)), (5, .inl (x5)), (6, .inl (x6))] [] 126 138 M (some (.inl r.1), 126, 138, r.2) := by
  refine ev_k (pc' := 136) (ls' := [(0, .inr (.inr (some 73))), (2, .inl (x2)), (3, .inl (x3)), (4, .inl (x4)), (5, .inl (x5)), (6, .inl (x6))]) (st' := [.inl (0), .inr (.inr (some 73))]) (nc' := 126) (np' := 138) (M' := M) 2 rfl ?_
  obtain ⟨M1, hv, h⟩ := ob_i h
  refine ev_call (t := 266) (as := [.inr (.inr (some 73)), .inl (0)]) (rest := []) rfl rfl rfl (by omega) (R_bringsBack_e (by omega) (0) M _ hv) ?_
  refine ev_k (pc' := 63) (ls' := [(0, .inr (.inr (some 73))), (2, .inl (x2)), (3, .inl (x3)), (4, .inl (x4)), (5, .inl (x5)), (6, .inl ((x6) + (1)))]) (st' := []) (nc' := 126) (np' := 138) (M' := M1) 2 rfl ?_
  exact hk63 (x2) (x3) (x4) (x5) ((x6) + (1)) M1 r h
theorem R_turn_97_t {L : Nat} {xs : Nat → Int} {d : Nat} (hd : 9 ≤ d)   (k63 : Int → Int → Int → Int → Int → am_M → Option (Int × am_M)) (hk63 : ∀ (x2 : Int) (x3 : Int) (x4 : Int) (x5 : Int) (x6 : Int) (M : am_M) (r : Int × am_M), k63 x2 x3 x4 x5 x6 M = some r → am_Ev L xs d me_276 63 [(0, .inr (.inr (some 73))), (2, .inl (x2)), (3, .inl (x3)), (4, .inl (x4)), (5, .inl (x5)), (6, .inl (x6))] [] 126 138 M (some (.inl r.1), 126, 138, r.2)) (x2 : Int) (x3 : Int) (x4 : Int) (x6 : Int) (x7 : Int) (s0 : Int) (M : am_M) (r : Int × am_M) (h : R_turn_97   k63 x2 x3 x4 x6 x7 s0 M = some r) : am_Ev L xs d me_276 97 [(0, .inr (.inr (some 73))), (2, .inl (x2)), (3, .inl (x3)), (4, .inl (x4)), (6, .inl (x6)), (7, .inl (x7))] [.inl (s0)] 126 138 M (some (.inl r.1), 126, 138, r.2) := by
  refine ev_k (pc' := 100) (ls' := [(5, .inl (s0)), (0, .inr (.inr (some 73))), (2, .inl (x2)), (3, .inl (x3)), (4, .inl (x4)), (6, .inl (x6)), (7, .inl (x7))]) (st' := [.inr (.inr (some 73))]) (nc' := 126) (np' := 138) (M' := M) 2 rfl ?_
  obtain ⟨v1, M2, hv, h⟩ := oc_i h
  refine ev_call (t := 270) (as := [.inr (.inr (some 73))]) (rest := []) rfl rfl rfl (by omega) (R_minutesBack_e (by omega)  M _ hv) ?_
  refine ev_k (pc' := 107) (ls' := [(8, .inl (v1)), (5, .inl (s0)), (0, .inr (.inr (some 73))), (2, .inl (x2)), (3, .inl (x3)), (4, .inl (x4)), (6, .inl (x6)), (7, .inl (x7))]) (st' := [.inl (s0)]) (nc' := 126) (np' := 138) (M' := M2) 2 rfl ?_
  obtain ⟨hR, ⟨hc, h⟩ | ⟨hc, h⟩⟩ := c_eq_i h
  · refine ev_ifc 134 rfl hR.1 (by decide) (fun _ => ?_) (fun q => absurd hc q)
    exact R_turn_134_t hd   k63 hk63 (x2) (x3) (x4) (s0) (x6) M2 r h
  · refine ev_ifc 134 rfl hR.1 (by decide) (fun q => absurd q hc) (fun _ => ?_)
    refine ev_k (pc' := 121) (ls' := [(8, .inl (v1)), (5, .inl (s0)), (0, .inr (.inr (some 73))), (2, .inl (x2)), (3, .inl (x3)), (4, .inl (x4)), (6, .inl (x6)), (7, .inl (x7))]) (st' := [.inl (M2 73 43), .inl ((M2 73 44) + (v1))]) (nc' := 126) (np' := 138) (M' := M2) 6 rfl ?_
    obtain ⟨hR, ⟨hc, h⟩ | ⟨hc, h⟩⟩ := c_gt_i h
    · refine ev_icmp 134 rfl hR.1 hR.2 (by decide) (fun _ => ?_) (fun q => absurd hc q)
      exact R_turn_134_t hd   k63 hk63 (x2) (x3) (x4) (s0) (x6) M2 r h
    · refine ev_icmp 134 rfl hR.1 hR.2 (by decide) (fun q => absurd q hc) (fun _ => ?_)
      refine ev_k (pc' := 134) (ls' := [(0, .inr (.inr (some 73))), (2, .inl (x2)), (3, .inl (x6)), (4, .inl ((x7) + (v1))), (5, .inl (s0)), (6, .inl (x6))]) (st' := []) (nc' := 126) (np' := 138) (M' := M2) 6 rfl ?_
      exact R_turn_134_t hd   k63 hk63 (x2) (x6) ((x7) + (v1)) (s0) (x6) M2 r h
theorem R_turn_63_t {L : Nat} {xs : Nat → Int} {d : Nat} (hd : 9 ≤ d)     : ∀ (n : Nat) (x2 : Int) (x3 : Int) (x4 : Int) (x5 : Int) (x6 : Int) (M : am_M) (r : Int × am_M), R_turn_63    n x2 x3 x4 x5 x6 M = some r → am_Ev L xs d me_276 63 [(0, .inr (.inr (some 73))), (2, .inl (x2)), (3, .inl (x3)), (4, .inl (x4)), (5, .inl (x5)), (6, .inl (x6))] [] 126 138 M (some (.inl r.1), 126, 138, r.2)
  | 0, _, _, _, _, _, M, r, h => by cases h
  | n + 1, x2, x3, x4, x5, x6, M, r, h => by
    have ih := R_turn_63_t (L := L) (xs := xs) hd     n
    refine ev_k (pc' := 69) (ls' := [(0, .inr (.inr (some 73))), (2, .inl (x2)), (3, .inl (x3)), (4, .inl (x4)), (5, .inl (x5)), (6, .inl (x6))]) (st' := [.inl (M 73 68), .inl (x6)]) (nc' := 126) (np' := 138) (M' := M) 3 rfl ?_
    obtain ⟨hR, ⟨hc, h⟩ | ⟨hc, h⟩⟩ := c_gt_i h
    · refine ev_icmp 145 rfl hR.1 hR.2 (by decide) (fun _ => ?_) (fun q => absurd hc q)
      exact R_turn_145_t hd     (x2) (x3) (x4) M r h
    · refine ev_icmp 145 rfl hR.1 hR.2 (by decide) (fun q => absurd q hc) (fun _ => ?_)
      refine ev_k (pc' := 74) (ls' := [(0, .inr (.inr (some 73))), (2, .inl (x2)), (3, .inl (x3)), (4, .inl (x4)), (5, .inl (x5)), (6, .inl (x6))]) (st' := [.inl (x5)]) (nc' := 126) (np' := 138) (M' := M) 1 rfl ?_
      obtain ⟨hR, ⟨hc, h⟩ | ⟨hc, h⟩⟩ := c_eq_i h
      · refine ev_ifc 145 rfl hR.1 (by decide) (fun _ => ?_) (fun q => absurd hc q)
        exact R_turn_145_t hd     (x2) (x3) (x4) M r h
      · refine ev_ifc 145 rfl hR.1 (by decide) (fun q => absurd q hc) (fun _ => ?_)
        refine ev_k (pc' := 80) (ls' := [(0, .inr (.inr (some 73))), (2, .inl (x2)), (3, .inl (x3)), (4, .inl (x4)), (5, .inl (x5)), (6, .inl (x6))]) (st' := [.inl (x6), .inr (.inr (some 73))]) (nc' := 126) (np' := 138) (M' := M) 2 rfl ?_
        obtain ⟨v1, M2, hv, h⟩ := oc_i h
        refine ev_call (t := 243) (as := [.inr (.inr (some 73)), .inl (x6)]) (rest := []) rfl rfl rfl (by omega) (R_doesActs_e (by omega) (x6) M _ hv) ?_
        refine ev_k (pc' := 89) (ls' := [(7, .inl (v1)), (0, .inr (.inr (some 73))), (2, .inl (x2)), (3, .inl (x3)), (4, .inl (x4)), (5, .inl (x5)), (6, .inl (x6))]) (st' := [.inl (M2 73 76)]) (nc' := 126) (np' := 138) (M' := M2) 3 rfl ?_
        obtain ⟨hR, ⟨hc, h⟩ | ⟨hc, h⟩⟩ := c_ne_i h
        · refine ev_ifc 96 rfl hR.1 (by decide) (fun _ => ?_) (fun q => absurd hc q)
          refine ev_k (pc' := 97) (ls' := [(0, .inr (.inr (some 73))), (2, .inl (x2)), (3, .inl (x3)), (4, .inl (x4)), (6, .inl (x6)), (7, .inl (v1))]) (st' := [.inl (0)]) (nc' := 126) (np' := 138) (M' := M2) 1 rfl ?_
          exact R_turn_97_t hd   (R_turn_63    n) ih (x2) (x3) (x4) (x6) (v1) (0) M2 r h
        · refine ev_ifc 96 rfl hR.1 (by decide) (fun q => absurd q hc) (fun _ => ?_)
          refine ev_k (pc' := 97) (ls' := [(0, .inr (.inr (some 73))), (2, .inl (x2)), (3, .inl (x3)), (4, .inl (x4)), (6, .inl (x6)), (7, .inl (v1))]) (st' := [.inl (1)]) (nc' := 126) (np' := 138) (M' := M2) 2 rfl ?_
          exact R_turn_97_t hd   (R_turn_63    n) ih (x2) (x3) (x4) (x6) (v1) (1) M2 r h
theorem R_turn_e {L : Nat} {xs : Nat → Int} {d : Nat} (hd : 9 ≤ d)   (x1 : Int) (x2 : Int) (M : am_M) (r : Int × am_M) (h : R_turn   x1 x2 M = some r) : am_Ev L xs d me_276 0 (am_ar1 0 [.inr (.inr (some 73)), .inl (x1), .inl (x2)]) [] 126 138 M (some (.inl r.1), 126, 138, r.2) := by
  refine ev_k (pc' := 1) (ls' := [(0, .inr (.inr (some 73))), (1, .inl (x1)), (2, .inl (x2))]) (st' := [.inl (x1)]) (nc' := 126) (np' := 138) (M' := M) 1 rfl ?_
  obtain ⟨hc, h⟩ := ck_i h
  refine ev_i2l rfl hc ?_
  refine ev_k (pc' := 6) (ls' := [(0, .inr (.inr (some 73))), (1, .inl (x1)), (2, .inl (x2))]) (st' := [.inr (.inl (80)), .inr (.inl (1)), .inr (.inl (x1))]) (nc' := 126) (np' := 138) (M' := M) 2 rfl ?_
  obtain ⟨v1, hv, h⟩ := ob_i h
  refine ev_call (t := 193) (as := [.inr (.inl (x1)), .inr (.inl (1)), .inr (.inl (80))]) (rest := []) rfl rfl rfl (by omega) (R_lies_e (by omega) (x1) (1) (80) M _ hv) ?_
  refine ev_k (pc' := 9) (ls' := [(0, .inr (.inr (some 73))), (1, .inl (x1)), (2, .inl (x2))]) (st' := [.inl (v1)]) (nc' := 126) (np' := 138) (M' := M) 0 rfl ?_
  obtain ⟨hR, ⟨hc, h⟩ | ⟨hc, h⟩⟩ := c_eq_i h
  · refine ev_ifc 30 rfl hR.1 (by decide) (fun _ => ?_) (fun q => absurd hc q)
    exact R_turn_30_t hd      M r h
  · refine ev_ifc 30 rfl hR.1 (by decide) (fun q => absurd q hc) (fun _ => ?_)
    refine ev_k (pc' := 13) (ls' := [(0, .inr (.inr (some 73))), (1, .inl (x1)), (2, .inl (x2))]) (st' := [.inl (x2)]) (nc' := 126) (np' := 138) (M' := M) 1 rfl ?_
    obtain ⟨hc, h⟩ := ck_i h
    refine ev_i2l rfl hc ?_
    refine ev_k (pc' := 16) (ls' := [(0, .inr (.inr (some 73))), (1, .inl (x1)), (2, .inl (x2))]) (st' := [.inr (.inl (1)), .inr (.inl (0)), .inr (.inl (x2))]) (nc' := 126) (np' := 138) (M' := M) 2 rfl ?_
    obtain ⟨v2, hv, h⟩ := ob_i h
    refine ev_call (t := 193) (as := [.inr (.inl (x2)), .inr (.inl (0)), .inr (.inl (1))]) (rest := []) rfl rfl rfl (by omega) (R_lies_e (by omega) (x2) (0) (1) M _ hv) ?_
    refine ev_k (pc' := 19) (ls' := [(0, .inr (.inr (some 73))), (1, .inl (x1)), (2, .inl (x2))]) (st' := [.inl (v2)]) (nc' := 126) (np' := 138) (M' := M) 0 rfl ?_
    obtain ⟨hR, ⟨hc, h⟩ | ⟨hc, h⟩⟩ := c_eq_i h
    · refine ev_ifc 30 rfl hR.1 (by decide) (fun _ => ?_) (fun q => absurd hc q)
      exact R_turn_30_t hd      M r h
    · refine ev_ifc 30 rfl hR.1 (by decide) (fun q => absurd q hc) (fun _ => ?_)
      refine ev_k (pc' := 27) (ls' := [(0, .inr (.inr (some 73))), (1, .inl (x1)), (2, .inl (x2))]) (st' := [.inl (M 73 1), .inl (x1)]) (nc' := 126) (np' := 138) (M' := M) 3 rfl ?_
      obtain ⟨hR, ⟨hc, h⟩ | ⟨hc, h⟩⟩ := c_le_i h
      · refine ev_icmp 32 rfl hR.1 hR.2 (by decide) (fun _ => ?_) (fun q => absurd hc q)
        refine ev_k (pc' := 34) (ls' := [(0, .inr (.inr (some 73))), (1, .inl (x1)), (2, .inl (x2))]) (st' := [.inl (x1), .inr (.inr (some 73))]) (nc' := 126) (np' := 138) (M' := M) 2 rfl ?_
        obtain ⟨v3, M4, hv, h⟩ := oc_i h
        refine ev_call (t := 237) (as := [.inr (.inr (some 73)), .inl (x1)]) (rest := []) rfl rfl rfl (by omega) (R_takesActs_e (by omega) (x1) M _ hv) ?_
        refine ev_k (pc' := 37) (ls' := [(0, .inr (.inr (some 73))), (1, .inl (x1)), (2, .inl (x2))]) (st' := [.inl (v3)]) (nc' := 126) (np' := 138) (M' := M4) 0 rfl ?_
        obtain ⟨hR, ⟨hc, h⟩ | ⟨hc, h⟩⟩ := c_ne_i h
        · refine ev_ifc 45 rfl hR.1 (by decide) (fun _ => ?_) (fun q => absurd hc q)
          refine ev_k (pc' := 47) (ls' := [(0, .inr (.inr (some 73))), (1, .inl (x1)), (2, .inl (x2))]) (st' := [.inl (0), .inr (.inr (some 73))]) (nc' := 126) (np' := 138) (M' := M4) 2 rfl ?_
          obtain ⟨M5, hv, h⟩ := ob_i h
          refine ev_call (t := 265) (as := [.inr (.inr (some 73)), .inl (0)]) (rest := []) rfl rfl rfl (by omega) (R_laysAside_e (by omega) (0) M4 _ hv) ?_
          refine ev_k (pc' := 63) (ls' := [(0, .inr (.inr (some 73))), (2, .inl (x2)), (3, .inl (-2)), (4, .inl (-2)), (5, .inl (1)), (6, .inl (0))]) (st' := []) (nc' := 126) (np' := 138) (M' := M5) 8 rfl ?_
          exact R_turn_63_t hd     am_big (x2) (-2) (-2) (1) (0) M5 r h
        · refine ev_ifc 45 rfl hR.1 (by decide) (fun q => absurd q hc) (fun _ => ?_)
          refine ev_k (pc' := 44) (ls' := [(0, .inr (.inr (some 73))), (1, .inl (x1)), (2, .inl (x2))]) (st' := [.inl (M4 73 5)]) (nc' := 126) (np' := 138) (M' := M4) 2 rfl ?_
          cases h
          exact ev_ret rfl
      · refine ev_icmp 32 rfl hR.1 hR.2 (by decide) (fun q => absurd q hc) (fun _ => ?_)
        exact R_turn_30_t hd      M r h
def R_farBy_57    (s0 : Int) (M : am_M) : Option (Int) := some (s0)
def R_farBy_33     (M : am_M) : Option (Int) := (R_farBy_57    (1000000000) M)
def R_farBy    (x1 : Int) (x2 : Int) (M : am_M) : Option (Int) := ob (R_beside (x1) (x2) M) fun v1 => c_eq (v1) (-1)
       (R_farBy_33     M)
       (rd M 75 144 (v1) fun v2 => c_eq (v2) (3)
       (R_farBy_33     M)
       (rd M 118 144 (v1) fun v3 => c_ne (v3) (1000000000)
       (rd M 118 144 (v1) fun v4 => rd M 75 144 (v1) fun v5 => rd M 117 7 (v5) fun v6 => (R_farBy_57    ((v4) + (v6)) M))
       (R_farBy_33     M)))
theorem R_farBy_57_t {L : Nat} {xs : Nat → Int} {d : Nat} (hd : 2 ≤ d)     (s0 : Int) (M : am_M) (r : Int) (h : R_farBy_57    s0 M = some r) : am_Ev L xs d me_279 57 [] [.inl (s0)] 126 138 M (some (.inl r), 126, 138, M) := by
  refine ev_k (pc' := 57) (ls' := []) (st' := [.inl (s0)]) (nc' := 126) (np' := 138) (M' := M) 0 rfl ?_
  cases h
  exact ev_ret rfl
theorem R_farBy_33_t {L : Nat} {xs : Nat → Int} {d : Nat} (hd : 2 ≤ d)      (M : am_M) (r : Int) (h : R_farBy_33     M = some r) : am_Ev L xs d me_279 33 [] [] 126 138 M (some (.inl r), 126, 138, M) := by
  refine ev_k (pc' := 57) (ls' := []) (st' := [.inl (1000000000)]) (nc' := 126) (np' := 138) (M' := M) 2 rfl ?_
  exact R_farBy_57_t hd     (1000000000) M r h
theorem R_farBy_e {L : Nat} {xs : Nat → Int} {d : Nat} (hd : 2 ≤ d)   (x1 : Int) (x2 : Int) (M : am_M) (r : Int) (h : R_farBy   x1 x2 M = some r) : am_Ev L xs d me_279 0 (am_ar1 0 [.inr (.inr (some 73)), .inl (x1), .inl (x2)]) [] 126 138 M (some (.inl r), 126, 138, M) := by
  refine ev_k (pc' := 2) (ls' := [(0, .inr (.inr (some 73))), (1, .inl (x1)), (2, .inl (x2))]) (st' := [.inl (x2), .inl (x1)]) (nc' := 126) (np' := 138) (M' := M) 2 rfl ?_
  obtain ⟨v1, hv, h⟩ := ob_i h
  refine ev_call (t := 233) (as := [.inl (x1), .inl (x2)]) (rest := []) rfl rfl rfl (by omega) (R_beside_e (by omega) (x1) (x2) M _ hv) ?_
  refine ev_k (pc' := 8) (ls' := [(3, .inl (v1)), (0, .inr (.inr (some 73))), (1, .inl (x1)), (2, .inl (x2))]) (st' := [.inl (-1), .inl (v1)]) (nc' := 126) (np' := 138) (M' := M) 3 rfl ?_
  obtain ⟨hR, ⟨hc, h⟩ | ⟨hc, h⟩⟩ := c_eq_i h
  · refine ev_icmp 33 rfl hR.1 hR.2 (by decide) (fun _ => ?_) (fun q => absurd hc q)
    exact R_farBy_33_t hd      M r h
  · refine ev_icmp 33 rfl hR.1 hR.2 (by decide) (fun q => absurd q hc) (fun _ => ?_)
    refine ev_k (pc' := 16) (ls' := [(3, .inl (v1)), (0, .inr (.inr (some 73))), (1, .inl (x1)), (2, .inl (x2))]) (st' := [.inl (v1), .inr (.inr (some 75))]) (nc' := 126) (np' := 138) (M' := M) 3 rfl ?_
    obtain ⟨hc, v2, ev, h⟩ := rd_i h
    refine ev_ald (k := 75) (t := 0) (Or.inl ⟨rfl, rfl⟩) rfl (by decide) (by decide) rfl hc ev ?_
    refine ev_k (pc' := 18) (ls' := [(3, .inl (v1)), (0, .inr (.inr (some 73))), (1, .inl (x1)), (2, .inl (x2))]) (st' := [.inl (3), .inl (v2)]) (nc' := 126) (np' := 138) (M' := M) 1 rfl ?_
    obtain ⟨hR, ⟨hc, h⟩ | ⟨hc, h⟩⟩ := c_eq_i h
    · refine ev_icmp 33 rfl hR.1 hR.2 (by decide) (fun _ => ?_) (fun q => absurd hc q)
      exact R_farBy_33_t hd      M r h
    · refine ev_icmp 33 rfl hR.1 hR.2 (by decide) (fun q => absurd q hc) (fun _ => ?_)
      refine ev_k (pc' := 26) (ls' := [(3, .inl (v1)), (0, .inr (.inr (some 73))), (1, .inl (x1)), (2, .inl (x2))]) (st' := [.inl (v1), .inr (.inr (some 118))]) (nc' := 126) (np' := 138) (M' := M) 3 rfl ?_
      obtain ⟨hc, v3, ev, h⟩ := rd_i h
      refine ev_ald (k := 118) (t := 0) (Or.inl ⟨rfl, rfl⟩) rfl (by decide) (by decide) rfl hc ev ?_
      refine ev_k (pc' := 30) (ls' := [(3, .inl (v1)), (0, .inr (.inr (some 73))), (1, .inl (x1)), (2, .inl (x2))]) (st' := [.inl (1000000000), .inl (v3)]) (nc' := 126) (np' := 138) (M' := M) 1 rfl ?_
      obtain ⟨hR, ⟨hc, h⟩ | ⟨hc, h⟩⟩ := c_ne_i h
      · refine ev_icmp 39 rfl hR.1 hR.2 (by decide) (fun _ => ?_) (fun q => absurd hc q)
        refine ev_k (pc' := 44) (ls' := [(3, .inl (v1)), (0, .inr (.inr (some 73))), (1, .inl (x1)), (2, .inl (x2))]) (st' := [.inl (v1), .inr (.inr (some 118))]) (nc' := 126) (np' := 138) (M' := M) 3 rfl ?_
        obtain ⟨hc, v4, ev, h⟩ := rd_i h
        refine ev_ald (k := 118) (t := 0) (Or.inl ⟨rfl, rfl⟩) rfl (by decide) (by decide) rfl hc ev ?_
        refine ev_k (pc' := 54) (ls' := [(3, .inl (v1)), (0, .inr (.inr (some 73))), (1, .inl (x1)), (2, .inl (x2))]) (st' := [.inl (v1), .inr (.inr (some 75)), .inr (.inr (some 117)), .inl (v4)]) (nc' := 126) (np' := 138) (M' := M) 5 rfl ?_
        obtain ⟨hc, v5, ev, h⟩ := rd_i h
        refine ev_ald (k := 75) (t := 0) (Or.inl ⟨rfl, rfl⟩) rfl (by decide) (by decide) rfl hc ev ?_
        refine ev_k (pc' := 55) (ls' := [(3, .inl (v1)), (0, .inr (.inr (some 73))), (1, .inl (x1)), (2, .inl (x2))]) (st' := [.inl (v5), .inr (.inr (some 117)), .inl (v4)]) (nc' := 126) (np' := 138) (M' := M) 0 rfl ?_
        obtain ⟨hc, v6, ev, h⟩ := rd_i h
        refine ev_ald (k := 117) (t := 0) (Or.inl ⟨rfl, rfl⟩) rfl (by decide) (by decide) rfl hc ev ?_
        refine ev_k (pc' := 57) (ls' := []) (st' := [.inl ((v4) + (v6))]) (nc' := 126) (np' := 138) (M' := M) 1 rfl ?_
        exact R_farBy_57_t hd     ((v4) + (v6)) M r h
      · refine ev_icmp 39 rfl hR.1 hR.2 (by decide) (fun q => absurd q hc) (fun _ => ?_)
        exact R_farBy_33_t hd      M r h
def R_laysFarTo_61   (k37 : Int → Int → am_M → Option (am_M)) (x1 : Int) (x2 : Int) (s1 : Int) (s2 : Int) (M : am_M) : Option (am_M) := wa M 118 144 (s1) (s2) fun M1 => (k37 (x1) ((x2) + (1)) M1)
def R_laysFarTo_128   (k70 : Int → am_M → Option (am_M)) (k78 : Int → Int → am_M → Option (am_M)) (k88 : Int → Int → Int → am_M → Option (am_M)) (x2 : Int) (x3 : Int) (x4 : Int) (M : am_M) : Option (am_M) := (k88 (x2) (x3) ((x4) + (1)) M)
def R_laysFarTo_88   (k70 : Int → am_M → Option (am_M)) (k78 : Int → Int → am_M → Option (am_M)) : Nat → Int → Int → Int → am_M → Option (am_M)
  | 0, _, _, _, _ => none
  | n + 1, x2, x3, x4, M => c_ge (x4) (4)
       ((k78 (x2) ((x3) + (1)) M))
       (ob (R_farBy (x3) (x4) M) fun v1 => rd M 118 144 (x3) fun v2 => c_lt (v1) (v2)
       (ob (R_farBy (x3) (x4) M) fun v3 => wa M 118 144 (x3) (v3) fun M4 => (R_laysFarTo_128   k70 k78 (R_laysFarTo_88   k70 k78 n) (1) (x3) (x4) M4))
       ((R_laysFarTo_128   k70 k78 (R_laysFarTo_88   k70 k78 n) (x2) (x3) (x4) M)))
def R_laysFarTo_78   (k70 : Int → am_M → Option (am_M)) : Nat → Int → Int → am_M → Option (am_M)
  | 0, _, _, _ => none
  | n + 1, x2, x3, M => c_ge (x3) (144)
       ((k70 (x2) M))
       ((R_laysFarTo_88   k70 (R_laysFarTo_78   k70 n) am_big (x2) (x3) (0) M))
def R_laysFarTo_70    : Nat → Int → am_M → Option (am_M)
  | 0, _, _ => none
  | n + 1, x2, M => c_eq (x2) (0)
       (some (M))
       ((R_laysFarTo_78   (R_laysFarTo_70    n) am_big (0) (0) M))
def R_laysFarTo_37    : Nat → Int → Int → am_M → Option (am_M)
  | 0, _, _, _ => none
  | n + 1, x1, x2, M => c_ge (x2) (144)
       ((R_laysFarTo_70    am_big (1) M))
       (c_ne (x2) (x1)
       ((R_laysFarTo_61   (R_laysFarTo_37    n) (x1) (x2) (x2) (1000000000) M))
       ((R_laysFarTo_61   (R_laysFarTo_37    n) (x1) (x2) (x2) (0) M)))
def R_laysFarTo_2    : Nat → Int → Int → am_M → Option (am_M)
  | 0, _, _, _ => none
  | n + 1, x1, x2, M => c_ge (x2) (7)
       ((R_laysFarTo_37    am_big (x1) (0) M))
       (oc (R_cutting (x2) (M 73 42) M) fun v1 M2 => wa M2 117 7 (x2) (((1000) * (v1)) + (1)) fun M3 => (R_laysFarTo_2    n (x1) ((x2) + (1)) M3))
def R_laysFarTo    (x1 : Int) (M : am_M) : Option (am_M) := (R_laysFarTo_2    am_big (x1) (0) M)
theorem R_laysFarTo_61_t {L : Nat} {xs : Nat → Int} {d : Nat} (hd : 5 ≤ d)   (k37 : Int → Int → am_M → Option (am_M)) (hk37 : ∀ (x1 : Int) (x2 : Int) (M : am_M) (r : am_M), k37 x1 x2 M = some r → am_Ev L xs d me_278 37 [(0, .inr (.inr (some 73))), (1, .inl (x1)), (2, .inl (x2))] [] 126 138 M (none, 126, 138, r)) (x1 : Int) (x2 : Int) (s1 : Int) (s2 : Int) (M : am_M) (r : am_M) (h : R_laysFarTo_61   k37 x1 x2 s1 s2 M = some r) : am_Ev L xs d me_278 61 [(0, .inr (.inr (some 73))), (1, .inl (x1)), (2, .inl (x2))] [.inl (s2), .inl (s1), .inr (.inr (some 118))] 126 138 M (none, 126, 138, r) := by
  refine ev_k (pc' := 61) (ls' := [(0, .inr (.inr (some 73))), (1, .inl (x1)), (2, .inl (x2))]) (st' := [.inl (s2), .inl (s1), .inr (.inr (some 118))]) (nc' := 126) (np' := 138) (M' := M) 0 rfl ?_
  obtain ⟨hc, M1, eM, h⟩ := wa_i h
  refine ev_iast (k := 118) rfl (by decide) rfl hc eM ?_
  refine ev_k (pc' := 37) (ls' := [(0, .inr (.inr (some 73))), (1, .inl (x1)), (2, .inl ((x2) + (1)))]) (st' := []) (nc' := 126) (np' := 138) (M' := M1) 2 rfl ?_
  exact hk37 (x1) ((x2) + (1)) M1 r h
theorem R_laysFarTo_128_t {L : Nat} {xs : Nat → Int} {d : Nat} (hd : 5 ≤ d)   (k70 : Int → am_M → Option (am_M)) (k78 : Int → Int → am_M → Option (am_M)) (k88 : Int → Int → Int → am_M → Option (am_M)) (hk70 : ∀ (x2 : Int) (M : am_M) (r : am_M), k70 x2 M = some r → am_Ev L xs d me_278 70 [(0, .inr (.inr (some 73))), (2, .inl (x2))] [] 126 138 M (none, 126, 138, r)) (hk78 : ∀ (x2 : Int) (x3 : Int) (M : am_M) (r : am_M), k78 x2 x3 M = some r → am_Ev L xs d me_278 78 [(0, .inr (.inr (some 73))), (2, .inl (x2)), (3, .inl (x3))] [] 126 138 M (none, 126, 138, r)) (hk88 : ∀ (x2 : Int) (x3 : Int) (x4 : Int) (M : am_M) (r : am_M), k88 x2 x3 x4 M = some r → am_Ev L xs d me_278 88 [(0, .inr (.inr (some 73))), (2, .inl (x2)), (3, .inl (x3)), (4, .inl (x4))] [] 126 138 M (none, 126, 138, r)) (x2 : Int) (x3 : Int) (x4 : Int) (M : am_M) (r : am_M) (h : R_laysFarTo_128   k70 k78 k88 x2 x3 x4 M = some r) : am_Ev L xs d me_278 128 [(0, .inr (.inr (some 73))), (2, .inl (x2)), (3, .inl (x3)), (4, .inl (x4))] [] 126 138 M (none, 126, 138, r) := by
  refine ev_k (pc' := 88) (ls' := [(0, .inr (.inr (some 73))), (2, .inl (x2)), (3, .inl (x3)), (4, .inl ((x4) + (1)))]) (st' := []) (nc' := 126) (np' := 138) (M' := M) 2 rfl ?_
  exact hk88 (x2) (x3) ((x4) + (1)) M r h
theorem R_laysFarTo_88_t {L : Nat} {xs : Nat → Int} {d : Nat} (hd : 5 ≤ d)   (k70 : Int → am_M → Option (am_M)) (k78 : Int → Int → am_M → Option (am_M)) (hk70 : ∀ (x2 : Int) (M : am_M) (r : am_M), k70 x2 M = some r → am_Ev L xs d me_278 70 [(0, .inr (.inr (some 73))), (2, .inl (x2))] [] 126 138 M (none, 126, 138, r)) (hk78 : ∀ (x2 : Int) (x3 : Int) (M : am_M) (r : am_M), k78 x2 x3 M = some r → am_Ev L xs d me_278 78 [(0, .inr (.inr (some 73))), (2, .inl (x2)), (3, .inl (x3))] [] 126 138 M (none, 126, 138, r)) : ∀ (n : Nat) (x2 : Int) (x3 : Int) (x4 : Int) (M : am_M) (r : am_M), R_laysFarTo_88   k70 k78 n x2 x3 x4 M = some r → am_Ev L xs d me_278 88 [(0, .inr (.inr (some 73))), (2, .inl (x2)), (3, .inl (x3)), (4, .inl (x4))] [] 126 138 M (none, 126, 138, r)
  | 0, _, _, _, M, r, h => by cases h
  | n + 1, x2, x3, x4, M, r, h => by
    have ih := R_laysFarTo_88_t (L := L) (xs := xs) hd   k70 k78 hk70 hk78 n
    refine ev_k (pc' := 91) (ls' := [(0, .inr (.inr (some 73))), (2, .inl (x2)), (3, .inl (x3)), (4, .inl (x4))]) (st' := [.inl (4), .inl (x4)]) (nc' := 126) (np' := 138) (M' := M) 2 rfl ?_
    obtain ⟨hR, ⟨hc, h⟩ | ⟨hc, h⟩⟩ := c_ge_i h
    · refine ev_icmp 134 rfl hR.1 hR.2 (by decide) (fun _ => ?_) (fun q => absurd hc q)
      refine ev_k (pc' := 78) (ls' := [(0, .inr (.inr (some 73))), (2, .inl (x2)), (3, .inl ((x3) + (1)))]) (st' := []) (nc' := 126) (np' := 138) (M' := M) 2 rfl ?_
      exact hk78 (x2) ((x3) + (1)) M r h
    · refine ev_icmp 134 rfl hR.1 hR.2 (by decide) (fun q => absurd q hc) (fun _ => ?_)
      refine ev_k (pc' := 98) (ls' := [(0, .inr (.inr (some 73))), (2, .inl (x2)), (3, .inl (x3)), (4, .inl (x4))]) (st' := [.inl (x4), .inl (x3), .inr (.inr (some 73))]) (nc' := 126) (np' := 138) (M' := M) 3 rfl ?_
      obtain ⟨v1, hv, h⟩ := ob_i h
      refine ev_call (t := 279) (as := [.inr (.inr (some 73)), .inl (x3), .inl (x4)]) (rest := []) rfl rfl rfl (by omega) (R_farBy_e (by omega) (x3) (x4) M _ hv) ?_
      refine ev_k (pc' := 106) (ls' := [(0, .inr (.inr (some 73))), (2, .inl (x2)), (3, .inl (x3)), (4, .inl (x4))]) (st' := [.inl (x3), .inr (.inr (some 118)), .inl (v1)]) (nc' := 126) (np' := 138) (M' := M) 3 rfl ?_
      obtain ⟨hc, v2, ev, h⟩ := rd_i h
      refine ev_ald (k := 118) (t := 0) (Or.inl ⟨rfl, rfl⟩) rfl (by decide) (by decide) rfl hc ev ?_
      refine ev_k (pc' := 107) (ls' := [(0, .inr (.inr (some 73))), (2, .inl (x2)), (3, .inl (x3)), (4, .inl (x4))]) (st' := [.inl (v2), .inl (v1)]) (nc' := 126) (np' := 138) (M' := M) 0 rfl ?_
      obtain ⟨hR, ⟨hc, h⟩ | ⟨hc, h⟩⟩ := c_lt_i h
      · refine ev_icmp 113 rfl hR.1 hR.2 (by decide) (fun _ => ?_) (fun q => absurd hc q)
        refine ev_k (pc' := 122) (ls' := [(0, .inr (.inr (some 73))), (2, .inl (x2)), (3, .inl (x3)), (4, .inl (x4))]) (st' := [.inl (x4), .inl (x3), .inr (.inr (some 73)), .inl (x3), .inr (.inr (some 118))]) (nc' := 126) (np' := 138) (M' := M) 6 rfl ?_
        obtain ⟨v3, hv, h⟩ := ob_i h
        refine ev_call (t := 279) (as := [.inr (.inr (some 73)), .inl (x3), .inl (x4)]) (rest := [.inl (x3), .inr (.inr (some 118))]) rfl rfl rfl (by omega) (R_farBy_e (by omega) (x3) (x4) M _ hv) ?_
        refine ev_k (pc' := 125) (ls' := [(0, .inr (.inr (some 73))), (2, .inl (x2)), (3, .inl (x3)), (4, .inl (x4))]) (st' := [.inl (v3), .inl (x3), .inr (.inr (some 118))]) (nc' := 126) (np' := 138) (M' := M) 0 rfl ?_
        obtain ⟨hc, M4, eM, h⟩ := wa_i h
        refine ev_iast (k := 118) rfl (by decide) rfl hc eM ?_
        refine ev_k (pc' := 128) (ls' := [(0, .inr (.inr (some 73))), (2, .inl (1)), (3, .inl (x3)), (4, .inl (x4))]) (st' := []) (nc' := 126) (np' := 138) (M' := M4) 2 rfl ?_
        exact R_laysFarTo_128_t hd   k70 k78 (R_laysFarTo_88   k70 k78 n) hk70 hk78 ih (1) (x3) (x4) M4 r h
      · refine ev_icmp 113 rfl hR.1 hR.2 (by decide) (fun q => absurd q hc) (fun _ => ?_)
        refine ev_k (pc' := 128) (ls' := [(0, .inr (.inr (some 73))), (2, .inl (x2)), (3, .inl (x3)), (4, .inl (x4))]) (st' := []) (nc' := 126) (np' := 138) (M' := M) 1 rfl ?_
        exact R_laysFarTo_128_t hd   k70 k78 (R_laysFarTo_88   k70 k78 n) hk70 hk78 ih (x2) (x3) (x4) M r h
theorem R_laysFarTo_78_t {L : Nat} {xs : Nat → Int} {d : Nat} (hd : 5 ≤ d)   (k70 : Int → am_M → Option (am_M)) (hk70 : ∀ (x2 : Int) (M : am_M) (r : am_M), k70 x2 M = some r → am_Ev L xs d me_278 70 [(0, .inr (.inr (some 73))), (2, .inl (x2))] [] 126 138 M (none, 126, 138, r)) : ∀ (n : Nat) (x2 : Int) (x3 : Int) (M : am_M) (r : am_M), R_laysFarTo_78   k70 n x2 x3 M = some r → am_Ev L xs d me_278 78 [(0, .inr (.inr (some 73))), (2, .inl (x2)), (3, .inl (x3))] [] 126 138 M (none, 126, 138, r)
  | 0, _, _, M, r, h => by cases h
  | n + 1, x2, x3, M, r, h => by
    have ih := R_laysFarTo_78_t (L := L) (xs := xs) hd   k70 hk70 n
    refine ev_k (pc' := 82) (ls' := [(0, .inr (.inr (some 73))), (2, .inl (x2)), (3, .inl (x3))]) (st' := [.inl (144), .inl (x3)]) (nc' := 126) (np' := 138) (M' := M) 2 rfl ?_
    obtain ⟨hR, ⟨hc, h⟩ | ⟨hc, h⟩⟩ := c_ge_i h
    · refine ev_icmp 140 rfl hR.1 hR.2 (by decide) (fun _ => ?_) (fun q => absurd hc q)
      refine ev_k (pc' := 70) (ls' := [(0, .inr (.inr (some 73))), (2, .inl (x2))]) (st' := []) (nc' := 126) (np' := 138) (M' := M) 1 rfl ?_
      exact hk70 (x2) M r h
    · refine ev_icmp 140 rfl hR.1 hR.2 (by decide) (fun q => absurd q hc) (fun _ => ?_)
      refine ev_k (pc' := 88) (ls' := [(0, .inr (.inr (some 73))), (2, .inl (x2)), (3, .inl (x3)), (4, .inl (0))]) (st' := []) (nc' := 126) (np' := 138) (M' := M) 2 rfl ?_
      exact R_laysFarTo_88_t hd   k70 (R_laysFarTo_78   k70 n) hk70 ih am_big (x2) (x3) (0) M r h
theorem R_laysFarTo_70_t {L : Nat} {xs : Nat → Int} {d : Nat} (hd : 5 ≤ d)     : ∀ (n : Nat) (x2 : Int) (M : am_M) (r : am_M), R_laysFarTo_70    n x2 M = some r → am_Ev L xs d me_278 70 [(0, .inr (.inr (some 73))), (2, .inl (x2))] [] 126 138 M (none, 126, 138, r)
  | 0, _, M, r, h => by cases h
  | n + 1, x2, M, r, h => by
    have ih := R_laysFarTo_70_t (L := L) (xs := xs) hd     n
    refine ev_k (pc' := 71) (ls' := [(0, .inr (.inr (some 73))), (2, .inl (x2))]) (st' := [.inl (x2)]) (nc' := 126) (np' := 138) (M' := M) 1 rfl ?_
    obtain ⟨hR, ⟨hc, h⟩ | ⟨hc, h⟩⟩ := c_eq_i h
    · refine ev_ifc 143 rfl hR.1 (by decide) (fun _ => ?_) (fun q => absurd hc q)
      refine ev_k (pc' := 143) (ls' := [(0, .inr (.inr (some 73))), (2, .inl (x2))]) (st' := []) (nc' := 126) (np' := 138) (M' := M) 0 rfl ?_
      cases h
      exact ev_ret rfl
    · refine ev_ifc 143 rfl hR.1 (by decide) (fun q => absurd q hc) (fun _ => ?_)
      refine ev_k (pc' := 78) (ls' := [(0, .inr (.inr (some 73))), (2, .inl (0)), (3, .inl (0))]) (st' := []) (nc' := 126) (np' := 138) (M' := M) 4 rfl ?_
      exact R_laysFarTo_78_t hd   (R_laysFarTo_70    n) ih am_big (0) (0) M r h
theorem R_laysFarTo_37_t {L : Nat} {xs : Nat → Int} {d : Nat} (hd : 5 ≤ d)     : ∀ (n : Nat) (x1 : Int) (x2 : Int) (M : am_M) (r : am_M), R_laysFarTo_37    n x1 x2 M = some r → am_Ev L xs d me_278 37 [(0, .inr (.inr (some 73))), (1, .inl (x1)), (2, .inl (x2))] [] 126 138 M (none, 126, 138, r)
  | 0, _, _, M, r, h => by cases h
  | n + 1, x1, x2, M, r, h => by
    have ih := R_laysFarTo_37_t (L := L) (xs := xs) hd     n
    refine ev_k (pc' := 41) (ls' := [(0, .inr (.inr (some 73))), (1, .inl (x1)), (2, .inl (x2))]) (st' := [.inl (144), .inl (x2)]) (nc' := 126) (np' := 138) (M' := M) 2 rfl ?_
    obtain ⟨hR, ⟨hc, h⟩ | ⟨hc, h⟩⟩ := c_ge_i h
    · refine ev_icmp 68 rfl hR.1 hR.2 (by decide) (fun _ => ?_) (fun q => absurd hc q)
      refine ev_k (pc' := 70) (ls' := [(0, .inr (.inr (some 73))), (2, .inl (1))]) (st' := []) (nc' := 126) (np' := 138) (M' := M) 2 rfl ?_
      exact R_laysFarTo_70_t hd     am_big (1) M r h
    · refine ev_icmp 68 rfl hR.1 hR.2 (by decide) (fun q => absurd q hc) (fun _ => ?_)
      refine ev_k (pc' := 51) (ls' := [(0, .inr (.inr (some 73))), (1, .inl (x1)), (2, .inl (x2))]) (st' := [.inl (x1), .inl (x2), .inl (x2), .inr (.inr (some 118))]) (nc' := 126) (np' := 138) (M' := M) 5 rfl ?_
      obtain ⟨hR, ⟨hc, h⟩ | ⟨hc, h⟩⟩ := c_ne_i h
      · refine ev_icmp 58 rfl hR.1 hR.2 (by decide) (fun _ => ?_) (fun q => absurd hc q)
        refine ev_k (pc' := 61) (ls' := [(0, .inr (.inr (some 73))), (1, .inl (x1)), (2, .inl (x2))]) (st' := [.inl (1000000000), .inl (x2), .inr (.inr (some 118))]) (nc' := 126) (np' := 138) (M' := M) 1 rfl ?_
        exact R_laysFarTo_61_t hd   (R_laysFarTo_37    n) ih (x1) (x2) (x2) (1000000000) M r h
      · refine ev_icmp 58 rfl hR.1 hR.2 (by decide) (fun q => absurd q hc) (fun _ => ?_)
        refine ev_k (pc' := 61) (ls' := [(0, .inr (.inr (some 73))), (1, .inl (x1)), (2, .inl (x2))]) (st' := [.inl (0), .inl (x2), .inr (.inr (some 118))]) (nc' := 126) (np' := 138) (M' := M) 2 rfl ?_
        exact R_laysFarTo_61_t hd   (R_laysFarTo_37    n) ih (x1) (x2) (x2) (0) M r h
theorem R_laysFarTo_2_t {L : Nat} {xs : Nat → Int} {d : Nat} (hd : 5 ≤ d)     : ∀ (n : Nat) (x1 : Int) (x2 : Int) (M : am_M) (r : am_M), R_laysFarTo_2    n x1 x2 M = some r → am_Ev L xs d me_278 2 [(0, .inr (.inr (some 73))), (1, .inl (x1)), (2, .inl (x2))] [] 126 138 M (none, 126, 138, r)
  | 0, _, _, M, r, h => by cases h
  | n + 1, x1, x2, M, r, h => by
    have ih := R_laysFarTo_2_t (L := L) (xs := xs) hd     n
    refine ev_k (pc' := 5) (ls' := [(0, .inr (.inr (some 73))), (1, .inl (x1)), (2, .inl (x2))]) (st' := [.inl (7), .inl (x2)]) (nc' := 126) (np' := 138) (M' := M) 2 rfl ?_
    obtain ⟨hR, ⟨hc, h⟩ | ⟨hc, h⟩⟩ := c_ge_i h
    · refine ev_icmp 35 rfl hR.1 hR.2 (by decide) (fun _ => ?_) (fun q => absurd hc q)
      refine ev_k (pc' := 37) (ls' := [(0, .inr (.inr (some 73))), (1, .inl (x1)), (2, .inl (0))]) (st' := []) (nc' := 126) (np' := 138) (M' := M) 2 rfl ?_
      exact R_laysFarTo_37_t hd     am_big (x1) (0) M r h
    · refine ev_icmp 35 rfl hR.1 hR.2 (by decide) (fun q => absurd q hc) (fun _ => ?_)
      refine ev_k (pc' := 22) (ls' := [(0, .inr (.inr (some 73))), (1, .inl (x1)), (2, .inl (x2))]) (st' := [.inl (M 73 42), .inl (x2), .inr (.inr (some 73)), .inl (1000), .inl (x2), .inr (.inr (some 117))]) (nc' := 126) (np' := 138) (M' := M) 8 rfl ?_
      obtain ⟨v1, M2, hv, h⟩ := oc_i h
      refine ev_call (t := 258) (as := [.inr (.inr (some 73)), .inl (x2), .inl (M 73 42)]) (rest := [.inl (1000), .inl (x2), .inr (.inr (some 117))]) rfl rfl rfl (by omega) (R_cutting_e (by omega) (x2) (M 73 42) M _ hv) ?_
      refine ev_k (pc' := 28) (ls' := [(0, .inr (.inr (some 73))), (1, .inl (x1)), (2, .inl (x2))]) (st' := [.inl (((1000) * (v1)) + (1)), .inl (x2), .inr (.inr (some 117))]) (nc' := 126) (np' := 138) (M' := M2) 3 rfl ?_
      obtain ⟨hc, M3, eM, h⟩ := wa_i h
      refine ev_iast (k := 117) rfl (by decide) rfl hc eM ?_
      refine ev_k (pc' := 2) (ls' := [(0, .inr (.inr (some 73))), (1, .inl (x1)), (2, .inl ((x2) + (1)))]) (st' := []) (nc' := 126) (np' := 138) (M' := M3) 2 rfl ?_
      exact ih (x1) ((x2) + (1)) M3 r h
theorem R_laysFarTo_e {L : Nat} {xs : Nat → Int} {d : Nat} (hd : 5 ≤ d)   (x1 : Int) (M : am_M) (r : am_M) (h : R_laysFarTo   x1 M = some r) : am_Ev L xs d me_278 0 (am_ar1 0 [.inr (.inr (some 73)), .inl (x1)]) [] 126 138 M (none, 126, 138, r) := by
  refine ev_k (pc' := 2) (ls' := [(0, .inr (.inr (some 73))), (1, .inl (x1)), (2, .inl (0))]) (st' := []) (nc' := 126) (np' := 138) (M' := M) 2 rfl ?_
  exact R_laysFarTo_2_t hd     am_big (x1) (0) M r h
def R_soonest_148     (M : am_M) : Option (Int × am_M) := some (-2, M)
def R_soonest_112    : Nat → Int → Int → Int → am_M → Option (Int × am_M)
  | 0, _, _, _, _ => none
  | n + 1, x1, x2, x4, M => c_ge (x4) (4)
       (R_soonest_148     M)
       (c_eq (x1) (x2)
       (R_soonest_148     M)
       (ob (R_farBy (x1) (x4) M) fun v1 => rd M 118 144 (x1) fun v2 => c_ne (v1) (v2)
       ((R_soonest_112    n (x1) (x2) ((x4) + (1)) M))
       (some (x4, M))))
def R_soonest_108    (s0 : Int) (M : am_M) : Option (Int × am_M) := some (s0, M)
def R_soonest_54     (M : am_M) : Option (Int × am_M) := some (-1, M)
def R_soonest    (x1 : Int) (x2 : Int) (x3 : Int) (M : am_M) : Option (Int × am_M) := ob (R_isCell (x1) M) fun v1 => c_eq (v1) (0)
       (R_soonest_54     M)
       (ob (R_isCell (x2) M) fun v2 => c_eq (v2) (0)
       (R_soonest_54     M)
       (rd M 75 144 (x1) fun v3 => c_eq (v3) (3)
       (R_soonest_54     M)
       (rd M 75 144 (x2) fun v4 => c_eq (v4) (3)
       (R_soonest_54     M)
       (ck (am_R (x3)) (ob (R_lies (x3) (0) (2) M) fun v5 => c_eq (v5) (0)
       (R_soonest_54     M)
       (c_ne (M 73 41) (-1)
       (ob (R_laysFarTo (x2) M) fun M6 => rd M6 118 144 (x1) fun v7 => c_ne (v7) (1000000000)
       (c_ge (x3) (2)
       ((R_soonest_112    am_big (x1) (x2) (0) M6))
       (c_ne (x3) (0)
       (rd M6 118 144 (x1) fun v8 => ck (am_R (v8) ∧ am_R (1000) ∧ ((1000) : Int) ≠ 0) (tw (Int.tmod (v8) (1000)) fun v9 => (R_soonest_108    (v9) M6)))
       (rd M6 118 144 (x1) fun v10 => ck (am_R (v10) ∧ am_R (1000) ∧ ((1000) : Int) ≠ 0) (tw (Int.tdiv (v10) (1000)) fun v11 => (R_soonest_108    (v11) M6)))))
       (some (-2, M6)))
       (R_soonest_54     M)))))))
theorem R_soonest_148_t {L : Nat} {xs : Nat → Int} {d : Nat} (hd : 6 ≤ d)      (M : am_M) (r : Int × am_M) (h : R_soonest_148     M = some r) : am_Ev L xs d me_277 148 [] [] 126 138 M (some (.inl r.1), 126, 138, r.2) := by
  refine ev_k (pc' := 150) (ls' := []) (st' := [.inl (-2)]) (nc' := 126) (np' := 138) (M' := M) 1 rfl ?_
  cases h
  exact ev_ret rfl
theorem R_soonest_112_t {L : Nat} {xs : Nat → Int} {d : Nat} (hd : 6 ≤ d)     : ∀ (n : Nat) (x1 : Int) (x2 : Int) (x4 : Int) (M : am_M) (r : Int × am_M), R_soonest_112    n x1 x2 x4 M = some r → am_Ev L xs d me_277 112 [(0, .inr (.inr (some 73))), (1, .inl (x1)), (2, .inl (x2)), (4, .inl (x4))] [] 126 138 M (some (.inl r.1), 126, 138, r.2)
  | 0, _, _, _, M, r, h => by cases h
  | n + 1, x1, x2, x4, M, r, h => by
    have ih := R_soonest_112_t (L := L) (xs := xs) hd     n
    refine ev_k (pc' := 115) (ls' := [(0, .inr (.inr (some 73))), (1, .inl (x1)), (2, .inl (x2)), (4, .inl (x4))]) (st' := [.inl (4), .inl (x4)]) (nc' := 126) (np' := 138) (M' := M) 2 rfl ?_
    obtain ⟨hR, ⟨hc, h⟩ | ⟨hc, h⟩⟩ := c_ge_i h
    · refine ev_icmp 148 rfl hR.1 hR.2 (by decide) (fun _ => ?_) (fun q => absurd hc q)
      exact R_soonest_148_t hd      M r h
    · refine ev_icmp 148 rfl hR.1 hR.2 (by decide) (fun q => absurd q hc) (fun _ => ?_)
      refine ev_k (pc' := 120) (ls' := [(0, .inr (.inr (some 73))), (1, .inl (x1)), (2, .inl (x2)), (4, .inl (x4))]) (st' := [.inl (x2), .inl (x1)]) (nc' := 126) (np' := 138) (M' := M) 2 rfl ?_
      obtain ⟨hR, ⟨hc, h⟩ | ⟨hc, h⟩⟩ := c_eq_i h
      · refine ev_icmp 148 rfl hR.1 hR.2 (by decide) (fun _ => ?_) (fun q => absurd hc q)
        exact R_soonest_148_t hd      M r h
      · refine ev_icmp 148 rfl hR.1 hR.2 (by decide) (fun q => absurd q hc) (fun _ => ?_)
        refine ev_k (pc' := 127) (ls' := [(0, .inr (.inr (some 73))), (1, .inl (x1)), (2, .inl (x2)), (4, .inl (x4))]) (st' := [.inl (x4), .inl (x1), .inr (.inr (some 73))]) (nc' := 126) (np' := 138) (M' := M) 3 rfl ?_
        obtain ⟨v1, hv, h⟩ := ob_i h
        refine ev_call (t := 279) (as := [.inr (.inr (some 73)), .inl (x1), .inl (x4)]) (rest := []) rfl rfl rfl (by omega) (R_farBy_e (by omega) (x1) (x4) M _ hv) ?_
        refine ev_k (pc' := 135) (ls' := [(0, .inr (.inr (some 73))), (1, .inl (x1)), (2, .inl (x2)), (4, .inl (x4))]) (st' := [.inl (x1), .inr (.inr (some 118)), .inl (v1)]) (nc' := 126) (np' := 138) (M' := M) 3 rfl ?_
        obtain ⟨hc, v2, ev, h⟩ := rd_i h
        refine ev_ald (k := 118) (t := 0) (Or.inl ⟨rfl, rfl⟩) rfl (by decide) (by decide) rfl hc ev ?_
        refine ev_k (pc' := 136) (ls' := [(0, .inr (.inr (some 73))), (1, .inl (x1)), (2, .inl (x2)), (4, .inl (x4))]) (st' := [.inl (v2), .inl (v1)]) (nc' := 126) (np' := 138) (M' := M) 0 rfl ?_
        obtain ⟨hR, ⟨hc, h⟩ | ⟨hc, h⟩⟩ := c_ne_i h
        · refine ev_icmp 142 rfl hR.1 hR.2 (by decide) (fun _ => ?_) (fun q => absurd hc q)
          refine ev_k (pc' := 112) (ls' := [(0, .inr (.inr (some 73))), (1, .inl (x1)), (2, .inl (x2)), (4, .inl ((x4) + (1)))]) (st' := []) (nc' := 126) (np' := 138) (M' := M) 2 rfl ?_
          exact ih (x1) (x2) ((x4) + (1)) M r h
        · refine ev_icmp 142 rfl hR.1 hR.2 (by decide) (fun q => absurd q hc) (fun _ => ?_)
          refine ev_k (pc' := 141) (ls' := [(0, .inr (.inr (some 73))), (1, .inl (x1)), (2, .inl (x2)), (4, .inl (x4))]) (st' := [.inl (x4)]) (nc' := 126) (np' := 138) (M' := M) 1 rfl ?_
          cases h
          exact ev_ret rfl
theorem R_soonest_108_t {L : Nat} {xs : Nat → Int} {d : Nat} (hd : 6 ≤ d)     (s0 : Int) (M : am_M) (r : Int × am_M) (h : R_soonest_108    s0 M = some r) : am_Ev L xs d me_277 108 [] [.inl (s0)] 126 138 M (some (.inl r.1), 126, 138, r.2) := by
  refine ev_k (pc' := 108) (ls' := []) (st' := [.inl (s0)]) (nc' := 126) (np' := 138) (M' := M) 0 rfl ?_
  cases h
  exact ev_ret rfl
theorem R_soonest_54_t {L : Nat} {xs : Nat → Int} {d : Nat} (hd : 6 ≤ d)      (M : am_M) (r : Int × am_M) (h : R_soonest_54     M = some r) : am_Ev L xs d me_277 54 [] [] 126 138 M (some (.inl r.1), 126, 138, r.2) := by
  refine ev_k (pc' := 55) (ls' := []) (st' := [.inl (-1)]) (nc' := 126) (np' := 138) (M' := M) 1 rfl ?_
  cases h
  exact ev_ret rfl
theorem R_soonest_e {L : Nat} {xs : Nat → Int} {d : Nat} (hd : 6 ≤ d)   (x1 : Int) (x2 : Int) (x3 : Int) (M : am_M) (r : Int × am_M) (h : R_soonest   x1 x2 x3 M = some r) : am_Ev L xs d me_277 0 (am_ar1 0 [.inr (.inr (some 73)), .inl (x1), .inl (x2), .inl (x3)]) [] 126 138 M (some (.inl r.1), 126, 138, r.2) := by
  refine ev_k (pc' := 1) (ls' := [(0, .inr (.inr (some 73))), (1, .inl (x1)), (2, .inl (x2)), (3, .inl (x3))]) (st' := [.inl (x1)]) (nc' := 126) (np' := 138) (M' := M) 1 rfl ?_
  obtain ⟨v1, hv, h⟩ := ob_i h
  refine ev_call (t := 230) (as := [.inl (x1)]) (rest := []) rfl rfl rfl (by omega) (R_isCell_e (by omega) (x1) M _ hv) ?_
  refine ev_k (pc' := 4) (ls' := [(0, .inr (.inr (some 73))), (1, .inl (x1)), (2, .inl (x2)), (3, .inl (x3))]) (st' := [.inl (v1)]) (nc' := 126) (np' := 138) (M' := M) 0 rfl ?_
  obtain ⟨hR, ⟨hc, h⟩ | ⟨hc, h⟩⟩ := c_eq_i h
  · refine ev_ifc 54 rfl hR.1 (by decide) (fun _ => ?_) (fun q => absurd hc q)
    exact R_soonest_54_t hd      M r h
  · refine ev_ifc 54 rfl hR.1 (by decide) (fun q => absurd q hc) (fun _ => ?_)
    refine ev_k (pc' := 8) (ls' := [(0, .inr (.inr (some 73))), (1, .inl (x1)), (2, .inl (x2)), (3, .inl (x3))]) (st' := [.inl (x2)]) (nc' := 126) (np' := 138) (M' := M) 1 rfl ?_
    obtain ⟨v2, hv, h⟩ := ob_i h
    refine ev_call (t := 230) (as := [.inl (x2)]) (rest := []) rfl rfl rfl (by omega) (R_isCell_e (by omega) (x2) M _ hv) ?_
    refine ev_k (pc' := 11) (ls' := [(0, .inr (.inr (some 73))), (1, .inl (x1)), (2, .inl (x2)), (3, .inl (x3))]) (st' := [.inl (v2)]) (nc' := 126) (np' := 138) (M' := M) 0 rfl ?_
    obtain ⟨hR, ⟨hc, h⟩ | ⟨hc, h⟩⟩ := c_eq_i h
    · refine ev_ifc 54 rfl hR.1 (by decide) (fun _ => ?_) (fun q => absurd hc q)
      exact R_soonest_54_t hd      M r h
    · refine ev_ifc 54 rfl hR.1 (by decide) (fun q => absurd q hc) (fun _ => ?_)
      refine ev_k (pc' := 19) (ls' := [(0, .inr (.inr (some 73))), (1, .inl (x1)), (2, .inl (x2)), (3, .inl (x3))]) (st' := [.inl (x1), .inr (.inr (some 75))]) (nc' := 126) (np' := 138) (M' := M) 3 rfl ?_
      obtain ⟨hc, v3, ev, h⟩ := rd_i h
      refine ev_ald (k := 75) (t := 0) (Or.inl ⟨rfl, rfl⟩) rfl (by decide) (by decide) rfl hc ev ?_
      refine ev_k (pc' := 21) (ls' := [(0, .inr (.inr (some 73))), (1, .inl (x1)), (2, .inl (x2)), (3, .inl (x3))]) (st' := [.inl (3), .inl (v3)]) (nc' := 126) (np' := 138) (M' := M) 1 rfl ?_
      obtain ⟨hR, ⟨hc, h⟩ | ⟨hc, h⟩⟩ := c_eq_i h
      · refine ev_icmp 54 rfl hR.1 hR.2 (by decide) (fun _ => ?_) (fun q => absurd hc q)
        exact R_soonest_54_t hd      M r h
      · refine ev_icmp 54 rfl hR.1 hR.2 (by decide) (fun q => absurd q hc) (fun _ => ?_)
        refine ev_k (pc' := 29) (ls' := [(0, .inr (.inr (some 73))), (1, .inl (x1)), (2, .inl (x2)), (3, .inl (x3))]) (st' := [.inl (x2), .inr (.inr (some 75))]) (nc' := 126) (np' := 138) (M' := M) 3 rfl ?_
        obtain ⟨hc, v4, ev, h⟩ := rd_i h
        refine ev_ald (k := 75) (t := 0) (Or.inl ⟨rfl, rfl⟩) rfl (by decide) (by decide) rfl hc ev ?_
        refine ev_k (pc' := 31) (ls' := [(0, .inr (.inr (some 73))), (1, .inl (x1)), (2, .inl (x2)), (3, .inl (x3))]) (st' := [.inl (3), .inl (v4)]) (nc' := 126) (np' := 138) (M' := M) 1 rfl ?_
        obtain ⟨hR, ⟨hc, h⟩ | ⟨hc, h⟩⟩ := c_eq_i h
        · refine ev_icmp 54 rfl hR.1 hR.2 (by decide) (fun _ => ?_) (fun q => absurd hc q)
          exact R_soonest_54_t hd      M r h
        · refine ev_icmp 54 rfl hR.1 hR.2 (by decide) (fun q => absurd q hc) (fun _ => ?_)
          refine ev_k (pc' := 35) (ls' := [(0, .inr (.inr (some 73))), (1, .inl (x1)), (2, .inl (x2)), (3, .inl (x3))]) (st' := [.inl (x3)]) (nc' := 126) (np' := 138) (M' := M) 1 rfl ?_
          obtain ⟨hc, h⟩ := ck_i h
          refine ev_i2l rfl hc ?_
          refine ev_k (pc' := 40) (ls' := [(0, .inr (.inr (some 73))), (1, .inl (x1)), (2, .inl (x2)), (3, .inl (x3))]) (st' := [.inr (.inl (2)), .inr (.inl (0)), .inr (.inl (x3))]) (nc' := 126) (np' := 138) (M' := M) 2 rfl ?_
          obtain ⟨v5, hv, h⟩ := ob_i h
          refine ev_call (t := 193) (as := [.inr (.inl (x3)), .inr (.inl (0)), .inr (.inl (2))]) (rest := []) rfl rfl rfl (by omega) (R_lies_e (by omega) (x3) (0) (2) M _ hv) ?_
          refine ev_k (pc' := 43) (ls' := [(0, .inr (.inr (some 73))), (1, .inl (x1)), (2, .inl (x2)), (3, .inl (x3))]) (st' := [.inl (v5)]) (nc' := 126) (np' := 138) (M' := M) 0 rfl ?_
          obtain ⟨hR, ⟨hc, h⟩ | ⟨hc, h⟩⟩ := c_eq_i h
          · refine ev_ifc 54 rfl hR.1 (by decide) (fun _ => ?_) (fun q => absurd hc q)
            exact R_soonest_54_t hd      M r h
          · refine ev_ifc 54 rfl hR.1 (by decide) (fun q => absurd q hc) (fun _ => ?_)
            refine ev_k (pc' := 51) (ls' := [(0, .inr (.inr (some 73))), (1, .inl (x1)), (2, .inl (x2)), (3, .inl (x3))]) (st' := [.inl (-1), .inl (M 73 41)]) (nc' := 126) (np' := 138) (M' := M) 3 rfl ?_
            obtain ⟨hR, ⟨hc, h⟩ | ⟨hc, h⟩⟩ := c_ne_i h
            · refine ev_icmp 56 rfl hR.1 hR.2 (by decide) (fun _ => ?_) (fun q => absurd hc q)
              refine ev_k (pc' := 58) (ls' := [(0, .inr (.inr (some 73))), (1, .inl (x1)), (2, .inl (x2)), (3, .inl (x3))]) (st' := [.inl (x2), .inr (.inr (some 73))]) (nc' := 126) (np' := 138) (M' := M) 2 rfl ?_
              obtain ⟨M6, hv, h⟩ := ob_i h
              refine ev_call (t := 278) (as := [.inr (.inr (some 73)), .inl (x2)]) (rest := []) rfl rfl rfl (by omega) (R_laysFarTo_e (by omega) (x2) M _ hv) ?_
              refine ev_k (pc' := 66) (ls' := [(0, .inr (.inr (some 73))), (1, .inl (x1)), (2, .inl (x2)), (3, .inl (x3))]) (st' := [.inl (x1), .inr (.inr (some 118))]) (nc' := 126) (np' := 138) (M' := M6) 3 rfl ?_
              obtain ⟨hc, v7, ev, h⟩ := rd_i h
              refine ev_ald (k := 118) (t := 0) (Or.inl ⟨rfl, rfl⟩) rfl (by decide) (by decide) rfl hc ev ?_
              refine ev_k (pc' := 70) (ls' := [(0, .inr (.inr (some 73))), (1, .inl (x1)), (2, .inl (x2)), (3, .inl (x3))]) (st' := [.inl (1000000000), .inl (v7)]) (nc' := 126) (np' := 138) (M' := M6) 1 rfl ?_
              obtain ⟨hR, ⟨hc, h⟩ | ⟨hc, h⟩⟩ := c_ne_i h
              · refine ev_icmp 76 rfl hR.1 hR.2 (by decide) (fun _ => ?_) (fun q => absurd hc q)
                refine ev_k (pc' := 78) (ls' := [(0, .inr (.inr (some 73))), (1, .inl (x1)), (2, .inl (x2)), (3, .inl (x3))]) (st' := [.inl (2), .inl (x3)]) (nc' := 126) (np' := 138) (M' := M6) 2 rfl ?_
                obtain ⟨hR, ⟨hc, h⟩ | ⟨hc, h⟩⟩ := c_ge_i h
                · refine ev_icmp 109 rfl hR.1 hR.2 (by decide) (fun _ => ?_) (fun q => absurd hc q)
                  refine ev_k (pc' := 112) (ls' := [(0, .inr (.inr (some 73))), (1, .inl (x1)), (2, .inl (x2)), (4, .inl (0))]) (st' := []) (nc' := 126) (np' := 138) (M' := M6) 2 rfl ?_
                  exact R_soonest_112_t hd     am_big (x1) (x2) (0) M6 r h
                · refine ev_icmp 109 rfl hR.1 hR.2 (by decide) (fun q => absurd q hc) (fun _ => ?_)
                  refine ev_k (pc' := 82) (ls' := [(0, .inr (.inr (some 73))), (1, .inl (x1)), (2, .inl (x2)), (3, .inl (x3))]) (st' := [.inl (x3)]) (nc' := 126) (np' := 138) (M' := M6) 1 rfl ?_
                  obtain ⟨hR, ⟨hc, h⟩ | ⟨hc, h⟩⟩ := c_ne_i h
                  · refine ev_ifc 98 rfl hR.1 (by decide) (fun _ => ?_) (fun q => absurd hc q)
                    refine ev_k (pc' := 103) (ls' := [(0, .inr (.inr (some 73))), (1, .inl (x1)), (2, .inl (x2)), (3, .inl (x3))]) (st' := [.inl (x1), .inr (.inr (some 118))]) (nc' := 126) (np' := 138) (M' := M6) 3 rfl ?_
                    obtain ⟨hc, v8, ev, h⟩ := rd_i h
                    refine ev_ald (k := 118) (t := 0) (Or.inl ⟨rfl, rfl⟩) rfl (by decide) (by decide) rfl hc ev ?_
                    refine ev_k (pc' := 107) (ls' := [(0, .inr (.inr (some 73))), (1, .inl (x1)), (2, .inl (x2)), (3, .inl (x3))]) (st' := [.inl (1000), .inl (v8)]) (nc' := 126) (np' := 138) (M' := M6) 1 rfl ?_
                    obtain ⟨hc, h⟩ := ck_i h
                    obtain ⟨v9, ev, h⟩ := tw_i h
                    refine ev_irem rfl hc ?_
                    refine ev_k (pc' := 108) (ls' := []) (st' := [.inl (Int.tmod (v8) (1000))]) (nc' := 126) (np' := 138) (M' := M6) 0 rfl ?_
                    rw [← ev]
                    exact R_soonest_108_t hd     (v9) M6 r h
                  · refine ev_ifc 98 rfl hR.1 (by decide) (fun q => absurd q hc) (fun _ => ?_)
                    refine ev_k (pc' := 90) (ls' := [(0, .inr (.inr (some 73))), (1, .inl (x1)), (2, .inl (x2)), (3, .inl (x3))]) (st' := [.inl (x1), .inr (.inr (some 118))]) (nc' := 126) (np' := 138) (M' := M6) 3 rfl ?_
                    obtain ⟨hc, v10, ev, h⟩ := rd_i h
                    refine ev_ald (k := 118) (t := 0) (Or.inl ⟨rfl, rfl⟩) rfl (by decide) (by decide) rfl hc ev ?_
                    refine ev_k (pc' := 94) (ls' := [(0, .inr (.inr (some 73))), (1, .inl (x1)), (2, .inl (x2)), (3, .inl (x3))]) (st' := [.inl (1000), .inl (v10)]) (nc' := 126) (np' := 138) (M' := M6) 1 rfl ?_
                    obtain ⟨hc, h⟩ := ck_i h
                    obtain ⟨v11, ev, h⟩ := tw_i h
                    refine ev_idiv rfl hc ?_
                    refine ev_k (pc' := 95) (ls' := [(0, .inr (.inr (some 73))), (1, .inl (x1)), (2, .inl (x2)), (3, .inl (x3))]) (st' := [.inl (Int.tdiv (v10) (1000))]) (nc' := 126) (np' := 138) (M' := M6) 0 rfl ?_
                    rw [← ev]
                    refine ev_k (pc' := 108) (ls' := []) (st' := [.inl (v11)]) (nc' := 126) (np' := 138) (M' := M6) 1 rfl ?_
                    exact R_soonest_108_t hd     (v11) M6 r h
              · refine ev_icmp 76 rfl hR.1 hR.2 (by decide) (fun q => absurd q hc) (fun _ => ?_)
                refine ev_k (pc' := 75) (ls' := [(0, .inr (.inr (some 73))), (1, .inl (x1)), (2, .inl (x2)), (3, .inl (x3))]) (st' := [.inl (-2)]) (nc' := 126) (np' := 138) (M' := M6) 1 rfl ?_
                cases h
                exact ev_ret rfl
            · refine ev_icmp 56 rfl hR.1 hR.2 (by decide) (fun q => absurd q hc) (fun _ => ?_)
              exact R_soonest_54_t hd      M r h
def R_laysSteps_26   (k2 : Int → Int → am_M → Option (am_M)) (x1 : Int) (x2 : Int) (s1 : Int) (s2 : Int) (M : am_M) : Option (am_M) := wa M 119 144 (s1) (s2) fun M1 => (k2 (x1) ((x2) + (1)) M1)
def R_laysSteps_128   (k37 : Int → Int → am_M → Option (am_M)) (k46 : Int → Int → Int → am_M → Option (am_M)) (k57 : Int → Int → Int → Int → am_M → Option (am_M)) (x2 : Int) (x3 : Int) (x4 : Int) (x5 : Int) (M : am_M) : Option (am_M) := (k57 (x2) (x3) (x4) ((x5) + (1)) M)
def R_laysSteps_134   (k37 : Int → Int → am_M → Option (am_M)) (k46 : Int → Int → Int → am_M → Option (am_M)) (x2 : Int) (x3 : Int) (x4 : Int) (M : am_M) : Option (am_M) := (k46 (x2) (x3) ((x4) + (1)) M)
def R_laysSteps_57   (k37 : Int → Int → am_M → Option (am_M)) (k46 : Int → Int → Int → am_M → Option (am_M)) : Nat → Int → Int → Int → Int → am_M → Option (am_M)
  | 0, _, _, _, _, _ => none
  | n + 1, x2, x3, x4, x5, M => c_ge (x5) (4)
       (R_laysSteps_134   k37 k46 (x2) (x3) (x4) M)
       (rd M 119 144 (x4) fun v1 => c_ne (v1) (x3)
       (R_laysSteps_134   k37 k46 (x2) (x3) (x4) M)
       (ob (R_beside (x4) (x5) M) fun v2 => c_eq (v2) (-1)
       (R_laysSteps_128   k37 k46 (R_laysSteps_57   k37 k46 n) (x2) (x3) (x4) (x5) M)
       (rd M 75 144 (v2) fun v3 => c_eq (v3) (3)
       (R_laysSteps_128   k37 k46 (R_laysSteps_57   k37 k46 n) (x2) (x3) (x4) (x5) M)
       (rd M 119 144 (v2) fun v4 => c_gt (v4) ((x3) + (1))
       (wa M 119 144 (v2) ((x3) + (1)) fun M5 => (R_laysSteps_128   k37 k46 (R_laysSteps_57   k37 k46 n) (1) (x3) (x4) (x5) M5))
       ((R_laysSteps_128   k37 k46 (R_laysSteps_57   k37 k46 n) (x2) (x3) (x4) (x5) M))))))
def R_laysSteps_46   (k37 : Int → Int → am_M → Option (am_M)) : Nat → Int → Int → Int → am_M → Option (am_M)
  | 0, _, _, _, _ => none
  | n + 1, x2, x3, x4, M => c_ge (x4) (144)
       ((k37 (x2) ((x3) + (1)) M))
       ((R_laysSteps_57   k37 (R_laysSteps_46   k37 n) am_big (x2) (x3) (x4) (0) M))
def R_laysSteps_37    : Nat → Int → Int → am_M → Option (am_M)
  | 0, _, _, _ => none
  | n + 1, x2, x3, M => c_eq (x2) (0)
       (some (M))
       ((R_laysSteps_46   (R_laysSteps_37    n) am_big (0) (x3) (0) M))
def R_laysSteps_2    : Nat → Int → Int → am_M → Option (am_M)
  | 0, _, _, _ => none
  | n + 1, x1, x2, M => c_ge (x2) (144)
       ((R_laysSteps_37    am_big (1) (0) M))
       (c_ne (x2) (x1)
       ((R_laysSteps_26   (R_laysSteps_2    n) (x1) (x2) (x2) (1000000000) M))
       ((R_laysSteps_26   (R_laysSteps_2    n) (x1) (x2) (x2) (0) M)))
def R_laysSteps    (x1 : Int) (M : am_M) : Option (am_M) := (R_laysSteps_2    am_big (x1) (0) M)
theorem R_laysSteps_26_t {L : Nat} {xs : Nat → Int} {d : Nat} (hd : 2 ≤ d)   (k2 : Int → Int → am_M → Option (am_M)) (hk2 : ∀ (x1 : Int) (x2 : Int) (M : am_M) (r : am_M), k2 x1 x2 M = some r → am_Ev L xs d me_281 2 [(0, .inr (.inr (some 73))), (1, .inl (x1)), (2, .inl (x2))] [] 126 138 M (none, 126, 138, r)) (x1 : Int) (x2 : Int) (s1 : Int) (s2 : Int) (M : am_M) (r : am_M) (h : R_laysSteps_26   k2 x1 x2 s1 s2 M = some r) : am_Ev L xs d me_281 26 [(0, .inr (.inr (some 73))), (1, .inl (x1)), (2, .inl (x2))] [.inl (s2), .inl (s1), .inr (.inr (some 119))] 126 138 M (none, 126, 138, r) := by
  refine ev_k (pc' := 26) (ls' := [(0, .inr (.inr (some 73))), (1, .inl (x1)), (2, .inl (x2))]) (st' := [.inl (s2), .inl (s1), .inr (.inr (some 119))]) (nc' := 126) (np' := 138) (M' := M) 0 rfl ?_
  obtain ⟨hc, M1, eM, h⟩ := wa_i h
  refine ev_iast (k := 119) rfl (by decide) rfl hc eM ?_
  refine ev_k (pc' := 2) (ls' := [(0, .inr (.inr (some 73))), (1, .inl (x1)), (2, .inl ((x2) + (1)))]) (st' := []) (nc' := 126) (np' := 138) (M' := M1) 2 rfl ?_
  exact hk2 (x1) ((x2) + (1)) M1 r h
theorem R_laysSteps_128_t {L : Nat} {xs : Nat → Int} {d : Nat} (hd : 2 ≤ d)   (k37 : Int → Int → am_M → Option (am_M)) (k46 : Int → Int → Int → am_M → Option (am_M)) (k57 : Int → Int → Int → Int → am_M → Option (am_M)) (hk37 : ∀ (x2 : Int) (x3 : Int) (M : am_M) (r : am_M), k37 x2 x3 M = some r → am_Ev L xs d me_281 37 [(0, .inr (.inr (some 73))), (2, .inl (x2)), (3, .inl (x3))] [] 126 138 M (none, 126, 138, r)) (hk46 : ∀ (x2 : Int) (x3 : Int) (x4 : Int) (M : am_M) (r : am_M), k46 x2 x3 x4 M = some r → am_Ev L xs d me_281 46 [(0, .inr (.inr (some 73))), (2, .inl (x2)), (3, .inl (x3)), (4, .inl (x4))] [] 126 138 M (none, 126, 138, r)) (hk57 : ∀ (x2 : Int) (x3 : Int) (x4 : Int) (x5 : Int) (M : am_M) (r : am_M), k57 x2 x3 x4 x5 M = some r → am_Ev L xs d me_281 57 [(0, .inr (.inr (some 73))), (2, .inl (x2)), (3, .inl (x3)), (4, .inl (x4)), (5, .inl (x5))] [] 126 138 M (none, 126, 138, r)) (x2 : Int) (x3 : Int) (x4 : Int) (x5 : Int) (M : am_M) (r : am_M) (h : R_laysSteps_128   k37 k46 k57 x2 x3 x4 x5 M = some r) : am_Ev L xs d me_281 128 [(0, .inr (.inr (some 73))), (2, .inl (x2)), (3, .inl (x3)), (4, .inl (x4)), (5, .inl (x5))] [] 126 138 M (none, 126, 138, r) := by
  refine ev_k (pc' := 57) (ls' := [(0, .inr (.inr (some 73))), (2, .inl (x2)), (3, .inl (x3)), (4, .inl (x4)), (5, .inl ((x5) + (1)))]) (st' := []) (nc' := 126) (np' := 138) (M' := M) 2 rfl ?_
  exact hk57 (x2) (x3) (x4) ((x5) + (1)) M r h
theorem R_laysSteps_134_t {L : Nat} {xs : Nat → Int} {d : Nat} (hd : 2 ≤ d)   (k37 : Int → Int → am_M → Option (am_M)) (k46 : Int → Int → Int → am_M → Option (am_M)) (hk37 : ∀ (x2 : Int) (x3 : Int) (M : am_M) (r : am_M), k37 x2 x3 M = some r → am_Ev L xs d me_281 37 [(0, .inr (.inr (some 73))), (2, .inl (x2)), (3, .inl (x3))] [] 126 138 M (none, 126, 138, r)) (hk46 : ∀ (x2 : Int) (x3 : Int) (x4 : Int) (M : am_M) (r : am_M), k46 x2 x3 x4 M = some r → am_Ev L xs d me_281 46 [(0, .inr (.inr (some 73))), (2, .inl (x2)), (3, .inl (x3)), (4, .inl (x4))] [] 126 138 M (none, 126, 138, r)) (x2 : Int) (x3 : Int) (x4 : Int) (M : am_M) (r : am_M) (h : R_laysSteps_134   k37 k46 x2 x3 x4 M = some r) : am_Ev L xs d me_281 134 [(0, .inr (.inr (some 73))), (2, .inl (x2)), (3, .inl (x3)), (4, .inl (x4))] [] 126 138 M (none, 126, 138, r) := by
  refine ev_k (pc' := 46) (ls' := [(0, .inr (.inr (some 73))), (2, .inl (x2)), (3, .inl (x3)), (4, .inl ((x4) + (1)))]) (st' := []) (nc' := 126) (np' := 138) (M' := M) 2 rfl ?_
  exact hk46 (x2) (x3) ((x4) + (1)) M r h
theorem R_laysSteps_57_t {L : Nat} {xs : Nat → Int} {d : Nat} (hd : 2 ≤ d)   (k37 : Int → Int → am_M → Option (am_M)) (k46 : Int → Int → Int → am_M → Option (am_M)) (hk37 : ∀ (x2 : Int) (x3 : Int) (M : am_M) (r : am_M), k37 x2 x3 M = some r → am_Ev L xs d me_281 37 [(0, .inr (.inr (some 73))), (2, .inl (x2)), (3, .inl (x3))] [] 126 138 M (none, 126, 138, r)) (hk46 : ∀ (x2 : Int) (x3 : Int) (x4 : Int) (M : am_M) (r : am_M), k46 x2 x3 x4 M = some r → am_Ev L xs d me_281 46 [(0, .inr (.inr (some 73))), (2, .inl (x2)), (3, .inl (x3)), (4, .inl (x4))] [] 126 138 M (none, 126, 138, r)) : ∀ (n : Nat) (x2 : Int) (x3 : Int) (x4 : Int) (x5 : Int) (M : am_M) (r : am_M), R_laysSteps_57   k37 k46 n x2 x3 x4 x5 M = some r → am_Ev L xs d me_281 57 [(0, .inr (.inr (some 73))), (2, .inl (x2)), (3, .inl (x3)), (4, .inl (x4)), (5, .inl (x5))] [] 126 138 M (none, 126, 138, r)
  | 0, _, _, _, _, M, r, h => by cases h
  | n + 1, x2, x3, x4, x5, M, r, h => by
    have ih := R_laysSteps_57_t (L := L) (xs := xs) hd   k37 k46 hk37 hk46 n
    refine ev_k (pc' := 60) (ls' := [(0, .inr (.inr (some 73))), (2, .inl (x2)), (3, .inl (x3)), (4, .inl (x4)), (5, .inl (x5))]) (st' := [.inl (4), .inl (x5)]) (nc' := 126) (np' := 138) (M' := M) 2 rfl ?_
    obtain ⟨hR, ⟨hc, h⟩ | ⟨hc, h⟩⟩ := c_ge_i h
    · refine ev_icmp 134 rfl hR.1 hR.2 (by decide) (fun _ => ?_) (fun q => absurd hc q)
      exact R_laysSteps_134_t hd   k37 k46 hk37 hk46 (x2) (x3) (x4) M r h
    · refine ev_icmp 134 rfl hR.1 hR.2 (by decide) (fun q => absurd q hc) (fun _ => ?_)
      refine ev_k (pc' := 69) (ls' := [(0, .inr (.inr (some 73))), (2, .inl (x2)), (3, .inl (x3)), (4, .inl (x4)), (5, .inl (x5))]) (st' := [.inl (x4), .inr (.inr (some 119))]) (nc' := 126) (np' := 138) (M' := M) 3 rfl ?_
      obtain ⟨hc, v1, ev, h⟩ := rd_i h
      refine ev_ald (k := 119) (t := 0) (Or.inl ⟨rfl, rfl⟩) rfl (by decide) (by decide) rfl hc ev ?_
      refine ev_k (pc' := 71) (ls' := [(0, .inr (.inr (some 73))), (2, .inl (x2)), (3, .inl (x3)), (4, .inl (x4)), (5, .inl (x5))]) (st' := [.inl (x3), .inl (v1)]) (nc' := 126) (np' := 138) (M' := M) 1 rfl ?_
      obtain ⟨hR, ⟨hc, h⟩ | ⟨hc, h⟩⟩ := c_ne_i h
      · refine ev_icmp 134 rfl hR.1 hR.2 (by decide) (fun _ => ?_) (fun q => absurd hc q)
        exact R_laysSteps_134_t hd   k37 k46 hk37 hk46 (x2) (x3) (x4) M r h
      · refine ev_icmp 134 rfl hR.1 hR.2 (by decide) (fun q => absurd q hc) (fun _ => ?_)
        refine ev_k (pc' := 78) (ls' := [(0, .inr (.inr (some 73))), (2, .inl (x2)), (3, .inl (x3)), (4, .inl (x4)), (5, .inl (x5))]) (st' := [.inl (x5), .inl (x4)]) (nc' := 126) (np' := 138) (M' := M) 2 rfl ?_
        obtain ⟨v2, hv, h⟩ := ob_i h
        refine ev_call (t := 233) (as := [.inl (x4), .inl (x5)]) (rest := []) rfl rfl rfl (by omega) (R_beside_e (by omega) (x4) (x5) M _ hv) ?_
        refine ev_k (pc' := 86) (ls' := [(6, .inl (v2)), (0, .inr (.inr (some 73))), (2, .inl (x2)), (3, .inl (x3)), (4, .inl (x4)), (5, .inl (x5))]) (st' := [.inl (-1), .inl (v2)]) (nc' := 126) (np' := 138) (M' := M) 3 rfl ?_
        obtain ⟨hR, ⟨hc, h⟩ | ⟨hc, h⟩⟩ := c_eq_i h
        · refine ev_icmp 128 rfl hR.1 hR.2 (by decide) (fun _ => ?_) (fun q => absurd hc q)
          exact R_laysSteps_128_t hd   k37 k46 (R_laysSteps_57   k37 k46 n) hk37 hk46 ih (x2) (x3) (x4) (x5) M r h
        · refine ev_icmp 128 rfl hR.1 hR.2 (by decide) (fun q => absurd q hc) (fun _ => ?_)
          refine ev_k (pc' := 95) (ls' := [(6, .inl (v2)), (0, .inr (.inr (some 73))), (2, .inl (x2)), (3, .inl (x3)), (4, .inl (x4)), (5, .inl (x5))]) (st' := [.inl (v2), .inr (.inr (some 75))]) (nc' := 126) (np' := 138) (M' := M) 3 rfl ?_
          obtain ⟨hc, v3, ev, h⟩ := rd_i h
          refine ev_ald (k := 75) (t := 0) (Or.inl ⟨rfl, rfl⟩) rfl (by decide) (by decide) rfl hc ev ?_
          refine ev_k (pc' := 97) (ls' := [(6, .inl (v2)), (0, .inr (.inr (some 73))), (2, .inl (x2)), (3, .inl (x3)), (4, .inl (x4)), (5, .inl (x5))]) (st' := [.inl (3), .inl (v3)]) (nc' := 126) (np' := 138) (M' := M) 1 rfl ?_
          obtain ⟨hR, ⟨hc, h⟩ | ⟨hc, h⟩⟩ := c_eq_i h
          · refine ev_icmp 128 rfl hR.1 hR.2 (by decide) (fun _ => ?_) (fun q => absurd hc q)
            exact R_laysSteps_128_t hd   k37 k46 (R_laysSteps_57   k37 k46 n) hk37 hk46 ih (x2) (x3) (x4) (x5) M r h
          · refine ev_icmp 128 rfl hR.1 hR.2 (by decide) (fun q => absurd q hc) (fun _ => ?_)
            refine ev_k (pc' := 106) (ls' := [(6, .inl (v2)), (0, .inr (.inr (some 73))), (2, .inl (x2)), (3, .inl (x3)), (4, .inl (x4)), (5, .inl (x5))]) (st' := [.inl (v2), .inr (.inr (some 119))]) (nc' := 126) (np' := 138) (M' := M) 3 rfl ?_
            obtain ⟨hc, v4, ev, h⟩ := rd_i h
            refine ev_ald (k := 119) (t := 0) (Or.inl ⟨rfl, rfl⟩) rfl (by decide) (by decide) rfl hc ev ?_
            refine ev_k (pc' := 110) (ls' := [(6, .inl (v2)), (0, .inr (.inr (some 73))), (2, .inl (x2)), (3, .inl (x3)), (4, .inl (x4)), (5, .inl (x5))]) (st' := [.inl ((x3) + (1)), .inl (v4)]) (nc' := 126) (np' := 138) (M' := M) 3 rfl ?_
            obtain ⟨hR, ⟨hc, h⟩ | ⟨hc, h⟩⟩ := c_gt_i h
            · refine ev_icmp 116 rfl hR.1 hR.2 (by decide) (fun _ => ?_) (fun q => absurd hc q)
              refine ev_k (pc' := 125) (ls' := [(6, .inl (v2)), (0, .inr (.inr (some 73))), (2, .inl (x2)), (3, .inl (x3)), (4, .inl (x4)), (5, .inl (x5))]) (st' := [.inl ((x3) + (1)), .inl (v2), .inr (.inr (some 119))]) (nc' := 126) (np' := 138) (M' := M) 6 rfl ?_
              obtain ⟨hc, M5, eM, h⟩ := wa_i h
              refine ev_iast (k := 119) rfl (by decide) rfl hc eM ?_
              refine ev_k (pc' := 128) (ls' := [(0, .inr (.inr (some 73))), (2, .inl (1)), (3, .inl (x3)), (4, .inl (x4)), (5, .inl (x5))]) (st' := []) (nc' := 126) (np' := 138) (M' := M5) 2 rfl ?_
              exact R_laysSteps_128_t hd   k37 k46 (R_laysSteps_57   k37 k46 n) hk37 hk46 ih (1) (x3) (x4) (x5) M5 r h
            · refine ev_icmp 116 rfl hR.1 hR.2 (by decide) (fun q => absurd q hc) (fun _ => ?_)
              refine ev_k (pc' := 128) (ls' := [(0, .inr (.inr (some 73))), (2, .inl (x2)), (3, .inl (x3)), (4, .inl (x4)), (5, .inl (x5))]) (st' := []) (nc' := 126) (np' := 138) (M' := M) 1 rfl ?_
              exact R_laysSteps_128_t hd   k37 k46 (R_laysSteps_57   k37 k46 n) hk37 hk46 ih (x2) (x3) (x4) (x5) M r h
theorem R_laysSteps_46_t {L : Nat} {xs : Nat → Int} {d : Nat} (hd : 2 ≤ d)   (k37 : Int → Int → am_M → Option (am_M)) (hk37 : ∀ (x2 : Int) (x3 : Int) (M : am_M) (r : am_M), k37 x2 x3 M = some r → am_Ev L xs d me_281 37 [(0, .inr (.inr (some 73))), (2, .inl (x2)), (3, .inl (x3))] [] 126 138 M (none, 126, 138, r)) : ∀ (n : Nat) (x2 : Int) (x3 : Int) (x4 : Int) (M : am_M) (r : am_M), R_laysSteps_46   k37 n x2 x3 x4 M = some r → am_Ev L xs d me_281 46 [(0, .inr (.inr (some 73))), (2, .inl (x2)), (3, .inl (x3)), (4, .inl (x4))] [] 126 138 M (none, 126, 138, r)
  | 0, _, _, _, M, r, h => by cases h
  | n + 1, x2, x3, x4, M, r, h => by
    have ih := R_laysSteps_46_t (L := L) (xs := xs) hd   k37 hk37 n
    refine ev_k (pc' := 51) (ls' := [(0, .inr (.inr (some 73))), (2, .inl (x2)), (3, .inl (x3)), (4, .inl (x4))]) (st' := [.inl (144), .inl (x4)]) (nc' := 126) (np' := 138) (M' := M) 2 rfl ?_
    obtain ⟨hR, ⟨hc, h⟩ | ⟨hc, h⟩⟩ := c_ge_i h
    · refine ev_icmp 140 rfl hR.1 hR.2 (by decide) (fun _ => ?_) (fun q => absurd hc q)
      refine ev_k (pc' := 37) (ls' := [(0, .inr (.inr (some 73))), (2, .inl (x2)), (3, .inl ((x3) + (1)))]) (st' := []) (nc' := 126) (np' := 138) (M' := M) 2 rfl ?_
      exact hk37 (x2) ((x3) + (1)) M r h
    · refine ev_icmp 140 rfl hR.1 hR.2 (by decide) (fun q => absurd q hc) (fun _ => ?_)
      refine ev_k (pc' := 57) (ls' := [(0, .inr (.inr (some 73))), (2, .inl (x2)), (3, .inl (x3)), (4, .inl (x4)), (5, .inl (0))]) (st' := []) (nc' := 126) (np' := 138) (M' := M) 2 rfl ?_
      exact R_laysSteps_57_t hd   k37 (R_laysSteps_46   k37 n) hk37 ih am_big (x2) (x3) (x4) (0) M r h
theorem R_laysSteps_37_t {L : Nat} {xs : Nat → Int} {d : Nat} (hd : 2 ≤ d)     : ∀ (n : Nat) (x2 : Int) (x3 : Int) (M : am_M) (r : am_M), R_laysSteps_37    n x2 x3 M = some r → am_Ev L xs d me_281 37 [(0, .inr (.inr (some 73))), (2, .inl (x2)), (3, .inl (x3))] [] 126 138 M (none, 126, 138, r)
  | 0, _, _, M, r, h => by cases h
  | n + 1, x2, x3, M, r, h => by
    have ih := R_laysSteps_37_t (L := L) (xs := xs) hd     n
    refine ev_k (pc' := 38) (ls' := [(0, .inr (.inr (some 73))), (2, .inl (x2)), (3, .inl (x3))]) (st' := [.inl (x2)]) (nc' := 126) (np' := 138) (M' := M) 1 rfl ?_
    obtain ⟨hR, ⟨hc, h⟩ | ⟨hc, h⟩⟩ := c_eq_i h
    · refine ev_ifc 146 rfl hR.1 (by decide) (fun _ => ?_) (fun q => absurd hc q)
      refine ev_k (pc' := 146) (ls' := [(0, .inr (.inr (some 73))), (2, .inl (x2)), (3, .inl (x3))]) (st' := []) (nc' := 126) (np' := 138) (M' := M) 0 rfl ?_
      cases h
      exact ev_ret rfl
    · refine ev_ifc 146 rfl hR.1 (by decide) (fun q => absurd q hc) (fun _ => ?_)
      refine ev_k (pc' := 46) (ls' := [(0, .inr (.inr (some 73))), (2, .inl (0)), (3, .inl (x3)), (4, .inl (0))]) (st' := []) (nc' := 126) (np' := 138) (M' := M) 4 rfl ?_
      exact R_laysSteps_46_t hd   (R_laysSteps_37    n) ih am_big (0) (x3) (0) M r h
theorem R_laysSteps_2_t {L : Nat} {xs : Nat → Int} {d : Nat} (hd : 2 ≤ d)     : ∀ (n : Nat) (x1 : Int) (x2 : Int) (M : am_M) (r : am_M), R_laysSteps_2    n x1 x2 M = some r → am_Ev L xs d me_281 2 [(0, .inr (.inr (some 73))), (1, .inl (x1)), (2, .inl (x2))] [] 126 138 M (none, 126, 138, r)
  | 0, _, _, M, r, h => by cases h
  | n + 1, x1, x2, M, r, h => by
    have ih := R_laysSteps_2_t (L := L) (xs := xs) hd     n
    refine ev_k (pc' := 6) (ls' := [(0, .inr (.inr (some 73))), (1, .inl (x1)), (2, .inl (x2))]) (st' := [.inl (144), .inl (x2)]) (nc' := 126) (np' := 138) (M' := M) 2 rfl ?_
    obtain ⟨hR, ⟨hc, h⟩ | ⟨hc, h⟩⟩ := c_ge_i h
    · refine ev_icmp 33 rfl hR.1 hR.2 (by decide) (fun _ => ?_) (fun q => absurd hc q)
      refine ev_k (pc' := 37) (ls' := [(0, .inr (.inr (some 73))), (2, .inl (1)), (3, .inl (0))]) (st' := []) (nc' := 126) (np' := 138) (M' := M) 4 rfl ?_
      exact R_laysSteps_37_t hd     am_big (1) (0) M r h
    · refine ev_icmp 33 rfl hR.1 hR.2 (by decide) (fun q => absurd q hc) (fun _ => ?_)
      refine ev_k (pc' := 16) (ls' := [(0, .inr (.inr (some 73))), (1, .inl (x1)), (2, .inl (x2))]) (st' := [.inl (x1), .inl (x2), .inl (x2), .inr (.inr (some 119))]) (nc' := 126) (np' := 138) (M' := M) 5 rfl ?_
      obtain ⟨hR, ⟨hc, h⟩ | ⟨hc, h⟩⟩ := c_ne_i h
      · refine ev_icmp 23 rfl hR.1 hR.2 (by decide) (fun _ => ?_) (fun q => absurd hc q)
        refine ev_k (pc' := 26) (ls' := [(0, .inr (.inr (some 73))), (1, .inl (x1)), (2, .inl (x2))]) (st' := [.inl (1000000000), .inl (x2), .inr (.inr (some 119))]) (nc' := 126) (np' := 138) (M' := M) 1 rfl ?_
        exact R_laysSteps_26_t hd   (R_laysSteps_2    n) ih (x1) (x2) (x2) (1000000000) M r h
      · refine ev_icmp 23 rfl hR.1 hR.2 (by decide) (fun q => absurd q hc) (fun _ => ?_)
        refine ev_k (pc' := 26) (ls' := [(0, .inr (.inr (some 73))), (1, .inl (x1)), (2, .inl (x2))]) (st' := [.inl (0), .inl (x2), .inr (.inr (some 119))]) (nc' := 126) (np' := 138) (M' := M) 2 rfl ?_
        exact R_laysSteps_26_t hd   (R_laysSteps_2    n) ih (x1) (x2) (x2) (0) M r h
theorem R_laysSteps_e {L : Nat} {xs : Nat → Int} {d : Nat} (hd : 2 ≤ d)   (x1 : Int) (M : am_M) (r : am_M) (h : R_laysSteps   x1 M = some r) : am_Ev L xs d me_281 0 (am_ar1 0 [.inr (.inr (some 73)), .inl (x1)]) [] 126 138 M (none, 126, 138, r) := by
  refine ev_k (pc' := 2) (ls' := [(0, .inr (.inr (some 73))), (1, .inl (x1)), (2, .inl (0))]) (st' := []) (nc' := 126) (np' := 138) (M' := M) 2 rfl ?_
  exact R_laysSteps_2_t hd     am_big (x1) (0) M r h
def R_camp_80   (k29 : Int → Int → Int → am_M → Option (Int × am_M)) (x1 : Int) (x2 : Int) (x3 : Int) (M : am_M) : Option (Int × am_M) := (k29 (x1) (x2) ((x3) + (1)) M)
def R_camp_78   (k29 : Int → Int → Int → am_M → Option (Int × am_M)) (x1 : Int) (x3 : Int) (M : am_M) : Option (Int × am_M) := (R_camp_80   k29 (x1) (x3) (x3) M)
def R_camp_110    (s0 : Int) (M : am_M) : Option (Int × am_M) := some (s0, M)
def R_camp_29    : Nat → Int → Int → Int → am_M → Option (Int × am_M)
  | 0, _, _, _, _ => none
  | n + 1, x1, x2, x3, M => c_ge (x3) (144)
       (c_ne (x2) (-1)
       (c_ne (x1) (0)
       (rd M 119 144 (x2) fun v1 => (R_camp_110    (v1) M))
       ((R_camp_110    (x2) M)))
       ((R_camp_110    (-2) M)))
       (rd M 75 144 (x3) fun v2 => c_ne (v2) (5)
       (R_camp_80   (R_camp_29    n) (x1) (x2) (x3) M)
       (rd M 119 144 (x3) fun v3 => c_ge (v3) (1000000000)
       (R_camp_80   (R_camp_29    n) (x1) (x2) (x3) M)
       (c_eq (x2) (-1)
       (R_camp_78   (R_camp_29    n) (x1) (x3) M)
       (rd M 119 144 (x3) fun v4 => rd M 119 144 (x2) fun v5 => c_ge (v4) (v5)
       (R_camp_80   (R_camp_29    n) (x1) (x2) (x3) M)
       (R_camp_78   (R_camp_29    n) (x1) (x3) M)))))
def R_camp    (x1 : Int) (M : am_M) : Option (Int × am_M) := ck (am_R (x1)) (ob (R_lies (x1) (0) (1) M) fun v1 => c_ne (v1) (0)
       (rd M 95 100 (M 73 47) fun v2 => ob (R_laysSteps (v2) M) fun M3 => (R_camp_29    am_big (x1) (-1) (0) M3))
       (some (-1, M)))
theorem R_camp_80_t {L : Nat} {xs : Nat → Int} {d : Nat} (hd : 3 ≤ d)   (k29 : Int → Int → Int → am_M → Option (Int × am_M)) (hk29 : ∀ (x1 : Int) (x2 : Int) (x3 : Int) (M : am_M) (r : Int × am_M), k29 x1 x2 x3 M = some r → am_Ev L xs d me_280 29 [(0, .inr (.inr (some 73))), (1, .inl (x1)), (2, .inl (x2)), (3, .inl (x3))] [] 126 138 M (some (.inl r.1), 126, 138, r.2)) (x1 : Int) (x2 : Int) (x3 : Int) (M : am_M) (r : Int × am_M) (h : R_camp_80   k29 x1 x2 x3 M = some r) : am_Ev L xs d me_280 80 [(0, .inr (.inr (some 73))), (1, .inl (x1)), (2, .inl (x2)), (3, .inl (x3))] [] 126 138 M (some (.inl r.1), 126, 138, r.2) := by
  refine ev_k (pc' := 29) (ls' := [(0, .inr (.inr (some 73))), (1, .inl (x1)), (2, .inl (x2)), (3, .inl ((x3) + (1)))]) (st' := []) (nc' := 126) (np' := 138) (M' := M) 2 rfl ?_
  exact hk29 (x1) (x2) ((x3) + (1)) M r h
theorem R_camp_78_t {L : Nat} {xs : Nat → Int} {d : Nat} (hd : 3 ≤ d)   (k29 : Int → Int → Int → am_M → Option (Int × am_M)) (hk29 : ∀ (x1 : Int) (x2 : Int) (x3 : Int) (M : am_M) (r : Int × am_M), k29 x1 x2 x3 M = some r → am_Ev L xs d me_280 29 [(0, .inr (.inr (some 73))), (1, .inl (x1)), (2, .inl (x2)), (3, .inl (x3))] [] 126 138 M (some (.inl r.1), 126, 138, r.2)) (x1 : Int) (x3 : Int) (M : am_M) (r : Int × am_M) (h : R_camp_78   k29 x1 x3 M = some r) : am_Ev L xs d me_280 78 [(0, .inr (.inr (some 73))), (1, .inl (x1)), (3, .inl (x3))] [] 126 138 M (some (.inl r.1), 126, 138, r.2) := by
  refine ev_k (pc' := 80) (ls' := [(0, .inr (.inr (some 73))), (1, .inl (x1)), (2, .inl (x3)), (3, .inl (x3))]) (st' := []) (nc' := 126) (np' := 138) (M' := M) 2 rfl ?_
  exact R_camp_80_t hd   k29 hk29 (x1) (x3) (x3) M r h
theorem R_camp_110_t {L : Nat} {xs : Nat → Int} {d : Nat} (hd : 3 ≤ d)     (s0 : Int) (M : am_M) (r : Int × am_M) (h : R_camp_110    s0 M = some r) : am_Ev L xs d me_280 110 [] [.inl (s0)] 126 138 M (some (.inl r.1), 126, 138, r.2) := by
  refine ev_k (pc' := 110) (ls' := []) (st' := [.inl (s0)]) (nc' := 126) (np' := 138) (M' := M) 0 rfl ?_
  cases h
  exact ev_ret rfl
theorem R_camp_29_t {L : Nat} {xs : Nat → Int} {d : Nat} (hd : 3 ≤ d)     : ∀ (n : Nat) (x1 : Int) (x2 : Int) (x3 : Int) (M : am_M) (r : Int × am_M), R_camp_29    n x1 x2 x3 M = some r → am_Ev L xs d me_280 29 [(0, .inr (.inr (some 73))), (1, .inl (x1)), (2, .inl (x2)), (3, .inl (x3))] [] 126 138 M (some (.inl r.1), 126, 138, r.2)
  | 0, _, _, _, M, r, h => by cases h
  | n + 1, x1, x2, x3, M, r, h => by
    have ih := R_camp_29_t (L := L) (xs := xs) hd     n
    refine ev_k (pc' := 33) (ls' := [(0, .inr (.inr (some 73))), (1, .inl (x1)), (2, .inl (x2)), (3, .inl (x3))]) (st' := [.inl (144), .inl (x3)]) (nc' := 126) (np' := 138) (M' := M) 2 rfl ?_
    obtain ⟨hR, ⟨hc, h⟩ | ⟨hc, h⟩⟩ := c_ge_i h
    · refine ev_icmp 86 rfl hR.1 hR.2 (by decide) (fun _ => ?_) (fun q => absurd hc q)
      refine ev_k (pc' := 88) (ls' := [(0, .inr (.inr (some 73))), (1, .inl (x1)), (2, .inl (x2)), (3, .inl (x3))]) (st' := [.inl (-1), .inl (x2)]) (nc' := 126) (np' := 138) (M' := M) 2 rfl ?_
      obtain ⟨hR, ⟨hc, h⟩ | ⟨hc, h⟩⟩ := c_ne_i h
      · refine ev_icmp 96 rfl hR.1 hR.2 (by decide) (fun _ => ?_) (fun q => absurd hc q)
        refine ev_k (pc' := 97) (ls' := [(0, .inr (.inr (some 73))), (1, .inl (x1)), (2, .inl (x2)), (3, .inl (x3))]) (st' := [.inl (x1)]) (nc' := 126) (np' := 138) (M' := M) 1 rfl ?_
        obtain ⟨hR, ⟨hc, h⟩ | ⟨hc, h⟩⟩ := c_ne_i h
        · refine ev_ifc 104 rfl hR.1 (by decide) (fun _ => ?_) (fun q => absurd hc q)
          refine ev_k (pc' := 109) (ls' := [(0, .inr (.inr (some 73))), (1, .inl (x1)), (2, .inl (x2)), (3, .inl (x3))]) (st' := [.inl (x2), .inr (.inr (some 119))]) (nc' := 126) (np' := 138) (M' := M) 3 rfl ?_
          obtain ⟨hc, v1, ev, h⟩ := rd_i h
          refine ev_ald (k := 119) (t := 0) (Or.inl ⟨rfl, rfl⟩) rfl (by decide) (by decide) rfl hc ev ?_
          exact R_camp_110_t hd     (v1) M r h
        · refine ev_ifc 104 rfl hR.1 (by decide) (fun q => absurd q hc) (fun _ => ?_)
          refine ev_k (pc' := 110) (ls' := []) (st' := [.inl (x2)]) (nc' := 126) (np' := 138) (M' := M) 2 rfl ?_
          exact R_camp_110_t hd     (x2) M r h
      · refine ev_icmp 96 rfl hR.1 hR.2 (by decide) (fun q => absurd q hc) (fun _ => ?_)
        refine ev_k (pc' := 110) (ls' := []) (st' := [.inl (-2)]) (nc' := 126) (np' := 138) (M' := M) 2 rfl ?_
        exact R_camp_110_t hd     (-2) M r h
    · refine ev_icmp 86 rfl hR.1 hR.2 (by decide) (fun q => absurd q hc) (fun _ => ?_)
      refine ev_k (pc' := 41) (ls' := [(0, .inr (.inr (some 73))), (1, .inl (x1)), (2, .inl (x2)), (3, .inl (x3))]) (st' := [.inl (x3), .inr (.inr (some 75))]) (nc' := 126) (np' := 138) (M' := M) 3 rfl ?_
      obtain ⟨hc, v2, ev, h⟩ := rd_i h
      refine ev_ald (k := 75) (t := 0) (Or.inl ⟨rfl, rfl⟩) rfl (by decide) (by decide) rfl hc ev ?_
      refine ev_k (pc' := 43) (ls' := [(0, .inr (.inr (some 73))), (1, .inl (x1)), (2, .inl (x2)), (3, .inl (x3))]) (st' := [.inl (5), .inl (v2)]) (nc' := 126) (np' := 138) (M' := M) 1 rfl ?_
      obtain ⟨hR, ⟨hc, h⟩ | ⟨hc, h⟩⟩ := c_ne_i h
      · refine ev_icmp 80 rfl hR.1 hR.2 (by decide) (fun _ => ?_) (fun q => absurd hc q)
        exact R_camp_80_t hd   (R_camp_29    n) ih (x1) (x2) (x3) M r h
      · refine ev_icmp 80 rfl hR.1 hR.2 (by decide) (fun q => absurd q hc) (fun _ => ?_)
        refine ev_k (pc' := 51) (ls' := [(0, .inr (.inr (some 73))), (1, .inl (x1)), (2, .inl (x2)), (3, .inl (x3))]) (st' := [.inl (x3), .inr (.inr (some 119))]) (nc' := 126) (np' := 138) (M' := M) 3 rfl ?_
        obtain ⟨hc, v3, ev, h⟩ := rd_i h
        refine ev_ald (k := 119) (t := 0) (Or.inl ⟨rfl, rfl⟩) rfl (by decide) (by decide) rfl hc ev ?_
        refine ev_k (pc' := 55) (ls' := [(0, .inr (.inr (some 73))), (1, .inl (x1)), (2, .inl (x2)), (3, .inl (x3))]) (st' := [.inl (1000000000), .inl (v3)]) (nc' := 126) (np' := 138) (M' := M) 1 rfl ?_
        obtain ⟨hR, ⟨hc, h⟩ | ⟨hc, h⟩⟩ := c_ge_i h
        · refine ev_icmp 80 rfl hR.1 hR.2 (by decide) (fun _ => ?_) (fun q => absurd hc q)
          exact R_camp_80_t hd   (R_camp_29    n) ih (x1) (x2) (x3) M r h
        · refine ev_icmp 80 rfl hR.1 hR.2 (by decide) (fun q => absurd q hc) (fun _ => ?_)
          refine ev_k (pc' := 60) (ls' := [(0, .inr (.inr (some 73))), (1, .inl (x1)), (2, .inl (x2)), (3, .inl (x3))]) (st' := [.inl (-1), .inl (x2)]) (nc' := 126) (np' := 138) (M' := M) 2 rfl ?_
          obtain ⟨hR, ⟨hc, h⟩ | ⟨hc, h⟩⟩ := c_eq_i h
          · refine ev_icmp 78 rfl hR.1 hR.2 (by decide) (fun _ => ?_) (fun q => absurd hc q)
            exact R_camp_78_t hd   (R_camp_29    n) ih (x1) (x3) M r h
          · refine ev_icmp 78 rfl hR.1 hR.2 (by decide) (fun q => absurd q hc) (fun _ => ?_)
            refine ev_k (pc' := 68) (ls' := [(0, .inr (.inr (some 73))), (1, .inl (x1)), (2, .inl (x2)), (3, .inl (x3))]) (st' := [.inl (x3), .inr (.inr (some 119))]) (nc' := 126) (np' := 138) (M' := M) 3 rfl ?_
            obtain ⟨hc, v4, ev, h⟩ := rd_i h
            refine ev_ald (k := 119) (t := 0) (Or.inl ⟨rfl, rfl⟩) rfl (by decide) (by decide) rfl hc ev ?_
            refine ev_k (pc' := 74) (ls' := [(0, .inr (.inr (some 73))), (1, .inl (x1)), (2, .inl (x2)), (3, .inl (x3))]) (st' := [.inl (x2), .inr (.inr (some 119)), .inl (v4)]) (nc' := 126) (np' := 138) (M' := M) 3 rfl ?_
            obtain ⟨hc, v5, ev, h⟩ := rd_i h
            refine ev_ald (k := 119) (t := 0) (Or.inl ⟨rfl, rfl⟩) rfl (by decide) (by decide) rfl hc ev ?_
            refine ev_k (pc' := 75) (ls' := [(0, .inr (.inr (some 73))), (1, .inl (x1)), (2, .inl (x2)), (3, .inl (x3))]) (st' := [.inl (v5), .inl (v4)]) (nc' := 126) (np' := 138) (M' := M) 0 rfl ?_
            obtain ⟨hR, ⟨hc, h⟩ | ⟨hc, h⟩⟩ := c_ge_i h
            · refine ev_icmp 80 rfl hR.1 hR.2 (by decide) (fun _ => ?_) (fun q => absurd hc q)
              exact R_camp_80_t hd   (R_camp_29    n) ih (x1) (x2) (x3) M r h
            · refine ev_icmp 80 rfl hR.1 hR.2 (by decide) (fun q => absurd q hc) (fun _ => ?_)
              exact R_camp_78_t hd   (R_camp_29    n) ih (x1) (x3) M r h
theorem R_camp_e {L : Nat} {xs : Nat → Int} {d : Nat} (hd : 3 ≤ d)   (x1 : Int) (M : am_M) (r : Int × am_M) (h : R_camp   x1 M = some r) : am_Ev L xs d me_280 0 (am_ar1 0 [.inr (.inr (some 73)), .inl (x1)]) [] 126 138 M (some (.inl r.1), 126, 138, r.2) := by
  refine ev_k (pc' := 1) (ls' := [(0, .inr (.inr (some 73))), (1, .inl (x1))]) (st' := [.inl (x1)]) (nc' := 126) (np' := 138) (M' := M) 1 rfl ?_
  obtain ⟨hc, h⟩ := ck_i h
  refine ev_i2l rfl hc ?_
  refine ev_k (pc' := 4) (ls' := [(0, .inr (.inr (some 73))), (1, .inl (x1))]) (st' := [.inr (.inl (1)), .inr (.inl (0)), .inr (.inl (x1))]) (nc' := 126) (np' := 138) (M' := M) 2 rfl ?_
  obtain ⟨v1, hv, h⟩ := ob_i h
  refine ev_call (t := 193) (as := [.inr (.inl (x1)), .inr (.inl (0)), .inr (.inl (1))]) (rest := []) rfl rfl rfl (by omega) (R_lies_e (by omega) (x1) (0) (1) M _ hv) ?_
  refine ev_k (pc' := 7) (ls' := [(0, .inr (.inr (some 73))), (1, .inl (x1))]) (st' := [.inl (v1)]) (nc' := 126) (np' := 138) (M' := M) 0 rfl ?_
  obtain ⟨hR, ⟨hc, h⟩ | ⟨hc, h⟩⟩ := c_ne_i h
  · refine ev_ifc 12 rfl hR.1 (by decide) (fun _ => ?_) (fun q => absurd hc q)
    refine ev_k (pc' := 21) (ls' := [(0, .inr (.inr (some 73))), (1, .inl (x1))]) (st' := [.inl (M 73 47), .inr (.inr (some 95)), .inr (.inr (some 73))]) (nc' := 126) (np' := 138) (M' := M) 5 rfl ?_
    obtain ⟨hc, v2, ev, h⟩ := rd_i h
    refine ev_ald (k := 95) (t := 0) (Or.inl ⟨rfl, rfl⟩) rfl (by decide) (by decide) rfl hc ev ?_
    refine ev_k (pc' := 22) (ls' := [(0, .inr (.inr (some 73))), (1, .inl (x1))]) (st' := [.inl (v2), .inr (.inr (some 73))]) (nc' := 126) (np' := 138) (M' := M) 0 rfl ?_
    obtain ⟨M3, hv, h⟩ := ob_i h
    refine ev_call (t := 281) (as := [.inr (.inr (some 73)), .inl (v2)]) (rest := []) rfl rfl rfl (by omega) (R_laysSteps_e (by omega) (v2) M _ hv) ?_
    refine ev_k (pc' := 29) (ls' := [(0, .inr (.inr (some 73))), (1, .inl (x1)), (2, .inl (-1)), (3, .inl (0))]) (st' := []) (nc' := 126) (np' := 138) (M' := M3) 4 rfl ?_
    exact R_camp_29_t hd     am_big (x1) (-1) (0) M3 r h
  · refine ev_ifc 12 rfl hR.1 (by decide) (fun q => absurd q hc) (fun _ => ?_)
    refine ev_k (pc' := 11) (ls' := [(0, .inr (.inr (some 73))), (1, .inl (x1))]) (st' := [.inl (-1)]) (nc' := 126) (np' := 138) (M' := M) 1 rfl ?_
    cases h
    exact ev_ret rfl
def R_sizeOf_4    : Nat → Int → Int → am_M → Option (Int)
  | 0, _, _, _ => none
  | n + 1, x1, x2, M => c_eq (x2) (0)
       (some (x1))
       ((R_sizeOf_4    n ((x1) + (1)) (b_and (x2) ((x2) - (1))) M))
def R_sizeOf    (x0 : Int) (M : am_M) : Option (Int) := (R_sizeOf_4    am_big (0) (x0) M)
theorem R_sizeOf_4_t {L : Nat} {xs : Nat → Int} {d : Nat} (hd : 0 ≤ d)     : ∀ (n : Nat) (x1 : Int) (x2 : Int) (M : am_M) (r : Int), R_sizeOf_4    n x1 x2 M = some r → am_Ev L xs d me_283 4 [(1, .inl (x1)), (2, .inl (x2))] [] 126 138 M (some (.inl r), 126, 138, M)
  | 0, _, _, M, r, h => by cases h
  | n + 1, x1, x2, M, r, h => by
    have ih := R_sizeOf_4_t (L := L) (xs := xs) hd     n
    refine ev_k (pc' := 5) (ls' := [(1, .inl (x1)), (2, .inl (x2))]) (st' := [.inl (x2)]) (nc' := 126) (np' := 138) (M' := M) 1 rfl ?_
    obtain ⟨hR, ⟨hc, h⟩ | ⟨hc, h⟩⟩ := c_eq_i h
    · refine ev_ifc 20 rfl hR.1 (by decide) (fun _ => ?_) (fun q => absurd hc q)
      refine ev_k (pc' := 21) (ls' := [(1, .inl (x1)), (2, .inl (x2))]) (st' := [.inl (x1)]) (nc' := 126) (np' := 138) (M' := M) 1 rfl ?_
      cases h
      exact ev_ret rfl
    · refine ev_ifc 20 rfl hR.1 (by decide) (fun q => absurd q hc) (fun _ => ?_)
      refine ev_k (pc' := 4) (ls' := [(1, .inl ((x1) + (1))), (2, .inl (b_and (x2) ((x2) - (1))))]) (st' := []) (nc' := 126) (np' := 138) (M' := M) 8 rfl ?_
      exact ih ((x1) + (1)) (b_and (x2) ((x2) - (1))) M r h
theorem R_sizeOf_e {L : Nat} {xs : Nat → Int} {d : Nat} (hd : 0 ≤ d)   (x0 : Int) (M : am_M) (r : Int) (h : R_sizeOf   x0 M = some r) : am_Ev L xs d me_283 0 (am_ar1 0 [.inl (x0)]) [] 126 138 M (some (.inl r), 126, 138, M) := by
  refine ev_k (pc' := 4) (ls' := [(1, .inl (0)), (2, .inl (x0))]) (st' := []) (nc' := 126) (np' := 138) (M' := M) 4 rfl ?_
  exact R_sizeOf_4_t hd     am_big (0) (x0) M r h
