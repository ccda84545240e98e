def R_isSeenSo_68    (s0 : Int) (M : am_M) : Option (Int) := ck ((s0) = 0 ∨ (s0) = 1) (some (s0))
def R_isSeenSo_67     (M : am_M) : Option (Int) := (R_isSeenSo_68    (0) M)
def R_isSeenSo_60    (s0 : Int) (s1 : Int) (M : am_M) : Option (Int) := c_ne (s0) (s1)
       (R_isSeenSo_67     M)
       ((R_isSeenSo_68    (1) M))
def R_isSeenSo_55    (s0 : Int) (M : am_M) : Option (Int) := (R_isSeenSo_60    (s0) (1) M)
def R_isSeenSo_35    (x1 : Int) (x2 : Int) (s0 : Int) (s1 : Int) (M : am_M) : Option (Int) := c_ne (s0) (s1)
       (R_isSeenSo_67     M)
       (ob (R_isFork (x1) M) fun v1 => c_eq (x2) (102)
       (R_isSeenSo_55    (v1) M)
       (c_ne (x2) (50)
       ((R_isSeenSo_60    (v1) (0) M))
       (R_isSeenSo_55    (v1) M)))
def R_isSeenSo_30    (x1 : Int) (x2 : Int) (s0 : Int) (M : am_M) : Option (Int) := (R_isSeenSo_35    (x1) (x2) (s0) (1) M)
def R_isSeenSo_16    (x1 : Int) (x2 : Int) (s0 : Int) (M : am_M) : Option (Int) := c_eq (x2) (109)
       (R_isSeenSo_30    (x1) (x2) (s0) M)
       (c_ne (x2) (50)
       ((R_isSeenSo_35    (x1) (x2) (s0) (0) M))
       (R_isSeenSo_30    (x1) (x2) (s0) M))
def R_isSeenSo    (x1 : Int) (x2 : Int) (M : am_M) : Option (Int) := rd M 98 100 (x1) fun v1 => c_le (b_and (v1) (2)) (0)
       ((R_isSeenSo_16    (x1) (x2) (0) M))
       ((R_isSeenSo_16    (x1) (x2) (1) M))
theorem R_isSeenSo_68_t {L : Nat} {xs : Nat → Int} {d : Nat} (hd : 3 ≤ d)     (s0 : Int) (M : am_M) (r : Int) (h : R_isSeenSo_68    s0 M = some r) : am_Ev L xs d me_307 68 [] [.inl (s0)] 126 138 M (some (.inl r), 126, 138, M) := by
  refine ev_k (pc' := 68) (ls' := []) (st' := [.inl (s0)]) (nc' := 126) (np' := 138) (M' := M) 0 rfl ?_
  obtain ⟨hc, h⟩ := ck_i h
  cases h
  exact ev_retz rfl rfl hc
theorem R_isSeenSo_67_t {L : Nat} {xs : Nat → Int} {d : Nat} (hd : 3 ≤ d)      (M : am_M) (r : Int) (h : R_isSeenSo_67     M = some r) : am_Ev L xs d me_307 67 [] [] 126 138 M (some (.inl r), 126, 138, M) := by
  refine ev_k (pc' := 68) (ls' := []) (st' := [.inl (0)]) (nc' := 126) (np' := 138) (M' := M) 1 rfl ?_
  exact R_isSeenSo_68_t hd     (0) M r h
theorem R_isSeenSo_60_t {L : Nat} {xs : Nat → Int} {d : Nat} (hd : 3 ≤ d)     (s0 : Int) (s1 : Int) (M : am_M) (r : Int) (h : R_isSeenSo_60    s0 s1 M = some r) : am_Ev L xs d me_307 60 [] [.inl (s1), .inl (s0)] 126 138 M (some (.inl r), 126, 138, M) := by
  refine ev_k (pc' := 60) (ls' := []) (st' := [.inl (s1), .inl (s0)]) (nc' := 126) (np' := 138) (M' := M) 0 rfl ?_
  obtain ⟨hR, ⟨hc, h⟩ | ⟨hc, h⟩⟩ := c_ne_i h
  · refine ev_icmp 67 rfl hR.1 hR.2 (by decide) (fun _ => ?_) (fun q => absurd hc q)
    exact R_isSeenSo_67_t hd      M r h
  · refine ev_icmp 67 rfl hR.1 hR.2 (by decide) (fun q => absurd q hc) (fun _ => ?_)
    refine ev_k (pc' := 68) (ls' := []) (st' := [.inl (1)]) (nc' := 126) (np' := 138) (M' := M) 2 rfl ?_
    exact R_isSeenSo_68_t hd     (1) M r h
theorem R_isSeenSo_55_t {L : Nat} {xs : Nat → Int} {d : Nat} (hd : 3 ≤ d)     (s0 : Int) (M : am_M) (r : Int) (h : R_isSeenSo_55    s0 M = some r) : am_Ev L xs d me_307 55 [] [.inl (s0)] 126 138 M (some (.inl r), 126, 138, M) := by
  refine ev_k (pc' := 60) (ls' := []) (st' := [.inl (1), .inl (s0)]) (nc' := 126) (np' := 138) (M' := M) 2 rfl ?_
  exact R_isSeenSo_60_t hd     (s0) (1) M r h
theorem R_isSeenSo_35_t {L : Nat} {xs : Nat → Int} {d : Nat} (hd : 3 ≤ d)     (x1 : Int) (x2 : Int) (s0 : Int) (s1 : Int) (M : am_M) (r : Int) (h : R_isSeenSo_35    x1 x2 s0 s1 M = some r) : am_Ev L xs d me_307 35 [(0, .inr (.inr (some 73))), (1, .inl (x1)), (2, .inl (x2))] [.inl (s1), .inl (s0)] 126 138 M (some (.inl r), 126, 138, M) := by
  refine ev_k (pc' := 35) (ls' := [(0, .inr (.inr (some 73))), (1, .inl (x1)), (2, .inl (x2))]) (st' := [.inl (s1), .inl (s0)]) (nc' := 126) (np' := 138) (M' := M) 0 rfl ?_
  obtain ⟨hR, ⟨hc, h⟩ | ⟨hc, h⟩⟩ := c_ne_i h
  · refine ev_icmp 67 rfl hR.1 hR.2 (by decide) (fun _ => ?_) (fun q => absurd hc q)
    exact R_isSeenSo_67_t hd      M r h
  · refine ev_icmp 67 rfl hR.1 hR.2 (by decide) (fun q => absurd q hc) (fun _ => ?_)
    refine ev_k (pc' := 40) (ls' := [(0, .inr (.inr (some 73))), (1, .inl (x1)), (2, .inl (x2))]) (st' := [.inl (x1), .inr (.inr (some 73))]) (nc' := 126) (np' := 138) (M' := M) 2 rfl ?_
    obtain ⟨v1, hv, h⟩ := ob_i h
    refine ev_call (t := 232) (as := [.inr (.inr (some 73)), .inl (x1)]) (rest := []) rfl rfl rfl (by omega) (R_isFork_e (by omega) (x1) M _ hv) ?_
    refine ev_k (pc' := 46) (ls' := [(0, .inr (.inr (some 73))), (1, .inl (x1)), (2, .inl (x2))]) (st' := [.inl (102), .inl (x2), .inl (v1)]) (nc' := 126) (np' := 138) (M' := M) 2 rfl ?_
    obtain ⟨hR, ⟨hc, h⟩ | ⟨hc, h⟩⟩ := c_eq_i h
    · refine ev_icmp 55 rfl hR.1 hR.2 (by decide) (fun _ => ?_) (fun q => absurd hc q)
      exact R_isSeenSo_55_t hd     (v1) M r h
    · refine ev_icmp 55 rfl hR.1 hR.2 (by decide) (fun q => absurd q hc) (fun _ => ?_)
      refine ev_k (pc' := 52) (ls' := [(0, .inr (.inr (some 73))), (1, .inl (x1)), (2, .inl (x2))]) (st' := [.inl (50), .inl (x2), .inl (v1)]) (nc' := 126) (np' := 138) (M' := M) 2 rfl ?_
      obtain ⟨hR, ⟨hc, h⟩ | ⟨hc, h⟩⟩ := c_ne_i h
      · refine ev_icmp 59 rfl hR.1 hR.2 (by decide) (fun _ => ?_) (fun q => absurd hc q)
        refine ev_k (pc' := 60) (ls' := []) (st' := [.inl (0), .inl (v1)]) (nc' := 126) (np' := 138) (M' := M) 1 rfl ?_
        exact R_isSeenSo_60_t hd     (v1) (0) M r h
      · refine ev_icmp 59 rfl hR.1 hR.2 (by decide) (fun q => absurd q hc) (fun _ => ?_)
        exact R_isSeenSo_55_t hd     (v1) M r h
theorem R_isSeenSo_30_t {L : Nat} {xs : Nat → Int} {d : Nat} (hd : 3 ≤ d)     (x1 : Int) (x2 : Int) (s0 : Int) (M : am_M) (r : Int) (h : R_isSeenSo_30    x1 x2 s0 M = some r) : am_Ev L xs d me_307 30 [(0, .inr (.inr (some 73))), (1, .inl (x1)), (2, .inl (x2))] [.inl (s0)] 126 138 M (some (.inl r), 126, 138, M) := by
  refine ev_k (pc' := 35) (ls' := [(0, .inr (.inr (some 73))), (1, .inl (x1)), (2, .inl (x2))]) (st' := [.inl (1), .inl (s0)]) (nc' := 126) (np' := 138) (M' := M) 2 rfl ?_
  exact R_isSeenSo_35_t hd     (x1) (x2) (s0) (1) M r h
theorem R_isSeenSo_16_t {L : Nat} {xs : Nat → Int} {d : Nat} (hd : 3 ≤ d)     (x1 : Int) (x2 : Int) (s0 : Int) (M : am_M) (r : Int) (h : R_isSeenSo_16    x1 x2 s0 M = some r) : am_Ev L xs d me_307 16 [(0, .inr (.inr (some 73))), (1, .inl (x1)), (2, .inl (x2))] [.inl (s0)] 126 138 M (some (.inl r), 126, 138, M) := by
  refine ev_k (pc' := 21) (ls' := [(3, .inl (s0)), (0, .inr (.inr (some 73))), (1, .inl (x1)), (2, .inl (x2))]) (st' := [.inl (109), .inl (x2), .inl (s0)]) (nc' := 126) (np' := 138) (M' := M) 4 rfl ?_
  obtain ⟨hR, ⟨hc, h⟩ | ⟨hc, h⟩⟩ := c_eq_i h
  · refine ev_icmp 30 rfl hR.1 hR.2 (by decide) (fun _ => ?_) (fun q => absurd hc q)
    exact R_isSeenSo_30_t hd     (x1) (x2) (s0) M r h
  · refine ev_icmp 30 rfl hR.1 hR.2 (by decide) (fun q => absurd q hc) (fun _ => ?_)
    refine ev_k (pc' := 27) (ls' := [(3, .inl (s0)), (0, .inr (.inr (some 73))), (1, .inl (x1)), (2, .inl (x2))]) (st' := [.inl (50), .inl (x2), .inl (s0)]) (nc' := 126) (np' := 138) (M' := M) 2 rfl ?_
    obtain ⟨hR, ⟨hc, h⟩ | ⟨hc, h⟩⟩ := c_ne_i h
    · refine ev_icmp 34 rfl hR.1 hR.2 (by decide) (fun _ => ?_) (fun q => absurd hc q)
      refine ev_k (pc' := 35) (ls' := [(0, .inr (.inr (some 73))), (1, .inl (x1)), (2, .inl (x2))]) (st' := [.inl (0), .inl (s0)]) (nc' := 126) (np' := 138) (M' := M) 1 rfl ?_
      exact R_isSeenSo_35_t hd     (x1) (x2) (s0) (0) M r h
    · refine ev_icmp 34 rfl hR.1 hR.2 (by decide) (fun q => absurd q hc) (fun _ => ?_)
      exact R_isSeenSo_30_t hd     (x1) (x2) (s0) M r h
theorem R_isSeenSo_e {L : Nat} {xs : Nat → Int} {d : Nat} (hd : 3 ≤ d)   (x1 : Int) (x2 : Int) (M : am_M) (r : Int) (h : R_isSeenSo   x1 x2 M = some r) : am_Ev L xs d me_307 0 (am_ar1 0 [.inr (.inr (some 73)), .inl (x1), .inl (x2)]) [] 126 138 M (some (.inl r), 126, 138, M) := by
  refine ev_k (pc' := 5) (ls' := [(0, .inr (.inr (some 73))), (1, .inl (x1)), (2, .inl (x2))]) (st' := [.inl (x1), .inr (.inr (some 98))]) (nc' := 126) (np' := 138) (M' := M) 3 rfl ?_
  obtain ⟨hc, v1, ev, h⟩ := rd_i h
  refine ev_ald (k := 98) (t := 0) (Or.inl ⟨rfl, rfl⟩) rfl (by decide) (by decide) rfl hc ev ?_
  refine ev_k (pc' := 8) (ls' := [(0, .inr (.inr (some 73))), (1, .inl (x1)), (2, .inl (x2))]) (st' := [.inl (b_and (v1) (2))]) (nc' := 126) (np' := 138) (M' := M) 2 rfl ?_
  obtain ⟨hR, ⟨hc, h⟩ | ⟨hc, h⟩⟩ := c_le_i h
  · refine ev_ifc 15 rfl hR.1 (by decide) (fun _ => ?_) (fun q => absurd hc q)
    refine ev_k (pc' := 16) (ls' := [(0, .inr (.inr (some 73))), (1, .inl (x1)), (2, .inl (x2))]) (st' := [.inl (0)]) (nc' := 126) (np' := 138) (M' := M) 1 rfl ?_
    exact R_isSeenSo_16_t hd     (x1) (x2) (0) M r h
  · refine ev_ifc 15 rfl hR.1 (by decide) (fun q => absurd q hc) (fun _ => ?_)
    refine ev_k (pc' := 16) (ls' := [(0, .inr (.inr (some 73))), (1, .inl (x1)), (2, .inl (x2))]) (st' := [.inl (1)]) (nc' := 126) (np' := 138) (M' := M) 2 rfl ?_
    exact R_isSeenSo_16_t hd     (x1) (x2) (1) M r h
def R_areSeenFrom_2    : Nat → Int → Int → Int → am_M → Option (Int)
  | 0, _, _, _, _ => none
  | n + 1, x1, x2, x3, M => c_ge (x3) (x2)
       (some (1))
       (ob (R_byteAt (x3) M) fun v1 => ob (R_isSeenSo ((x1) - (x3)) (v1) M) fun v2 => c_ne (v2) (0)
       ((R_areSeenFrom_2    n (x1) (x2) ((x3) + (1)) M))
       (some (0)))
def R_areSeenFrom    (x1 : Int) (x2 : Int) (M : am_M) : Option (Int) := (R_areSeenFrom_2    am_big (x1) (x2) (0) M)
theorem R_areSeenFrom_2_t {L : Nat} {xs : Nat → Int} {d : Nat} (hd : 4 ≤ d)     : ∀ (n : Nat) (x1 : Int) (x2 : Int) (x3 : Int) (M : am_M) (r : Int), R_areSeenFrom_2    n x1 x2 x3 M = some r → am_Ev L xs d me_306 2 [(0, .inr (.inr (some 73))), (1, .inl (x1)), (2, .inl (x2)), (3, .inl (x3))] [] 126 138 M (some (.inl r), 126, 138, M)
  | 0, _, _, _, M, r, h => by cases h
  | n + 1, x1, x2, x3, M, r, h => by
    have ih := R_areSeenFrom_2_t (L := L) (xs := xs) hd     n
    refine ev_k (pc' := 4) (ls' := [(0, .inr (.inr (some 73))), (1, .inl (x1)), (2, .inl (x2)), (3, .inl (x3))]) (st' := [.inl (x2), .inl (x3)]) (nc' := 126) (np' := 138) (M' := M) 2 rfl ?_
    obtain ⟨hR, ⟨hc, h⟩ | ⟨hc, h⟩⟩ := c_ge_i h
    · refine ev_icmp 30 rfl hR.1 hR.2 (by decide) (fun _ => ?_) (fun q => absurd hc q)
      refine ev_k (pc' := 31) (ls' := [(0, .inr (.inr (some 73))), (1, .inl (x1)), (2, .inl (x2)), (3, .inl (x3))]) (st' := [.inl (1)]) (nc' := 126) (np' := 138) (M' := M) 1 rfl ?_
      cases h
      exact ev_ret rfl
    · refine ev_icmp 30 rfl hR.1 hR.2 (by decide) (fun q => absurd q hc) (fun _ => ?_)
      refine ev_k (pc' := 13) (ls' := [(0, .inr (.inr (some 73))), (1, .inl (x1)), (2, .inl (x2)), (3, .inl (x3))]) (st' := [.inl (x3), .inr (.inr (some 73)), .inl ((x1) - (x3)), .inr (.inr (some 73))]) (nc' := 126) (np' := 138) (M' := M) 6 rfl ?_
      obtain ⟨v1, hv, h⟩ := ob_i h
      refine ev_call (t := 295) (as := [.inr (.inr (some 73)), .inl (x3)]) (rest := [.inl ((x1) - (x3)), .inr (.inr (some 73))]) rfl rfl rfl (by omega) (R_byteAt_e (by omega) (x3) M _ hv) ?_
      refine ev_k (pc' := 16) (ls' := [(0, .inr (.inr (some 73))), (1, .inl (x1)), (2, .inl (x2)), (3, .inl (x3))]) (st' := [.inl (v1), .inl ((x1) - (x3)), .inr (.inr (some 73))]) (nc' := 126) (np' := 138) (M' := M) 0 rfl ?_
      obtain ⟨v2, hv, h⟩ := ob_i h
      refine ev_call (t := 307) (as := [.inr (.inr (some 73)), .inl ((x1) - (x3)), .inl (v1)]) (rest := []) rfl rfl rfl (by omega) (R_isSeenSo_e (by omega) ((x1) - (x3)) (v1) M _ hv) ?_
      refine ev_k (pc' := 19) (ls' := [(0, .inr (.inr (some 73))), (1, .inl (x1)), (2, .inl (x2)), (3, .inl (x3))]) (st' := [.inl (v2)]) (nc' := 126) (np' := 138) (M' := M) 0 rfl ?_
      obtain ⟨hR, ⟨hc, h⟩ | ⟨hc, h⟩⟩ := c_ne_i h
      · refine ev_ifc 24 rfl hR.1 (by decide) (fun _ => ?_) (fun q => absurd hc q)
        refine ev_k (pc' := 2) (ls' := [(0, .inr (.inr (some 73))), (1, .inl (x1)), (2, .inl (x2)), (3, .inl ((x3) + (1)))]) (st' := []) (nc' := 126) (np' := 138) (M' := M) 2 rfl ?_
        exact ih (x1) (x2) ((x3) + (1)) M r h
      · refine ev_ifc 24 rfl hR.1 (by decide) (fun q => absurd q hc) (fun _ => ?_)
        refine ev_k (pc' := 23) (ls' := [(0, .inr (.inr (some 73))), (1, .inl (x1)), (2, .inl (x2)), (3, .inl (x3))]) (st' := [.inl (0)]) (nc' := 126) (np' := 138) (M' := M) 1 rfl ?_
        cases h
        exact ev_ret rfl
theorem R_areSeenFrom_e {L : Nat} {xs : Nat → Int} {d : Nat} (hd : 4 ≤ d)   (x1 : Int) (x2 : Int) (M : am_M) (r : Int) (h : R_areSeenFrom   x1 x2 M = some r) : am_Ev L xs d me_306 0 (am_ar1 0 [.inr (.inr (some 73)), .inl (x1), .inl (x2)]) [] 126 138 M (some (.inl r), 126, 138, M) := by
  refine ev_k (pc' := 2) (ls' := [(0, .inr (.inr (some 73))), (1, .inl (x1)), (2, .inl (x2)), (3, .inl (0))]) (st' := []) (nc' := 126) (np' := 138) (M' := M) 2 rfl ?_
  exact R_areSeenFrom_2_t hd     am_big (x1) (x2) (0) M r h
def R_sights_32     (M : am_M) : Option (Int × am_M) := some (-1, M)
def R_sights_141   (k96 : Int → Int → Int → Int → Int → Int → am_M → Option (Int × am_M)) (x1 : Int) (x2 : Int) (x3 : Int) (x4 : Int) (x5 : Int) (x6 : Int) (M : am_M) : Option (Int × am_M) := (k96 (x1) (x2) (x3) (x4) (x5) ((x6) + (1)) M)
def R_sights_135   (k96 : Int → Int → Int → Int → Int → Int → am_M → Option (Int × am_M)) (x1 : Int) (x2 : Int) (x3 : Int) (x6 : Int) (s0 : Int) (M : am_M) : Option (Int × am_M) := (R_sights_141   k96 (x1) (x2) (x3) (s0) (x6) (x6) M)
def R_sights_167    (s0 : Int) (M : am_M) : Option (Int × am_M) := some (s0, M)
def R_sights_96    : Nat → Int → Int → Int → Int → Int → Int → am_M → Option (Int × am_M)
  | 0, _, _, _, _, _, _, _ => none
  | n + 1, x1, x2, x3, x4, x5, x6, M => c_ge (x6) (M 73 46)
       (c_ne (x2) (0)
       (c_ne (x2) (1)
       ((R_sights_167    (x5) M))
       ((R_sights_167    (x4) M)))
       ((R_sights_167    (x3) M)))
       (ob (R_areSeenFrom (x6) (x1) M) fun v1 => c_ne (v1) (0)
       (c_ne (x4) (-2)
       ((R_sights_135   (R_sights_96    n) (x1) (x2) ((x3) + (1)) (x6) (x4) M))
       ((R_sights_135   (R_sights_96    n) (x1) (x2) ((x3) + (1)) (x6) (x6) M)))
       ((R_sights_141   (R_sights_96    n) (x1) (x2) (x3) (x4) (x5) (x6) M)))
def R_sights_63   (k41 : Int → Int → Int → am_M → Option (Int × am_M)) (x1 : Int) (x2 : Int) (x3 : Int) (M : am_M) : Option (Int × am_M) := (k41 (x1) (x2) ((x3) + (1)) M)
def R_sights_41    : Nat → Int → Int → Int → am_M → Option (Int × am_M)
  | 0, _, _, _, _ => none
  | n + 1, x1, x2, x3, M => c_ge (x3) (x1)
       (c_ge (M 73 5) (0)
       ((R_sights_96    am_big (x1) (x2) (0) (-2) (-2) ((x1) - (1)) M))
       (some (M 73 5, M)))
       (ob (R_byteAt (x3) M) fun v1 => ob (R_isSight (v1) M) fun v2 => c_ne (v2) (0)
       (R_sights_63   (R_sights_41    n) (x1) (x2) (x3) M)
       (ob (R_wrongs (1) (x3) M) fun M3 => (R_sights_63   (R_sights_41    n) (x1) (x2) (x3) M3)))
def R_sights    (x1 : Int) (x2 : Int) (M : am_M) : Option (Int × am_M) := ck (am_R (x1)) (ob (R_lies (x1) (1) (20) M) fun v1 => c_eq (v1) (0)
       (R_sights_32     M)
       (ck (am_R (x2)) (ob (R_lies (x2) (0) (2) M) fun v2 => c_eq (v2) (0)
       (R_sights_32     M)
       (c_le (x1) (M 73 1)
       (ob (R_begins (x1) M) fun M3 => (R_sights_41    am_big (x1) (x2) (0) M3))
       (R_sights_32     M)))))
theorem R_sights_32_t {L : Nat} {xs : Nat → Int} {d : Nat} (hd : 5 ≤ d)      (M : am_M) (r : Int × am_M) (h : R_sights_32     M = some r) : am_Ev L xs d me_304 32 [] [] 126 138 M (some (.inl r.1), 126, 138, r.2) := by
  refine ev_k (pc' := 33) (ls' := []) (st' := [.inl (-1)]) (nc' := 126) (np' := 138) (M' := M) 1 rfl ?_
  cases h
  exact ev_ret rfl
theorem R_sights_141_t {L : Nat} {xs : Nat → Int} {d : Nat} (hd : 5 ≤ d)   (k96 : Int → Int → Int → Int → Int → Int → am_M → Option (Int × am_M)) (hk96 : ∀ (x1 : Int) (x2 : Int) (x3 : Int) (x4 : Int) (x5 : Int) (x6 : Int) (M : am_M) (r : Int × am_M), k96 x1 x2 x3 x4 x5 x6 M = some r → am_Ev L xs d me_304 96 [(0, .inr (.inr (some 73))), (1, .inl (x1)), (2, .inl (x2)), (3, .inl (x3)), (4, .inl (x4)), (5, .inl (x5)), (6, .inl (x6))] [] 126 138 M (some (.inl r.1), 126, 138, r.2)) (x1 : Int) (x2 : Int) (x3 : Int) (x4 : Int) (x5 : Int) (x6 : Int) (M : am_M) (r : Int × am_M) (h : R_sights_141   k96 x1 x2 x3 x4 x5 x6 M = some r) : am_Ev L xs d me_304 141 [(0, .inr (.inr (some 73))), (1, .inl (x1)), (2, .inl (x2)), (3, .inl (x3)), (4, .inl (x4)), (5, .inl (x5)), (6, .inl (x6))] [] 126 138 M (some (.inl r.1), 126, 138, r.2) := by
  refine ev_k (pc' := 96) (ls' := [(0, .inr (.inr (some 73))), (1, .inl (x1)), (2, .inl (x2)), (3, .inl (x3)), (4, .inl (x4)), (5, .inl (x5)), (6, .inl ((x6) + (1)))]) (st' := []) (nc' := 126) (np' := 138) (M' := M) 2 rfl ?_
  exact hk96 (x1) (x2) (x3) (x4) (x5) ((x6) + (1)) M r h
theorem R_sights_135_t {L : Nat} {xs : Nat → Int} {d : Nat} (hd : 5 ≤ d)   (k96 : Int → Int → Int → Int → Int → Int → am_M → Option (Int × am_M)) (hk96 : ∀ (x1 : Int) (x2 : Int) (x3 : Int) (x4 : Int) (x5 : Int) (x6 : Int) (M : am_M) (r : Int × am_M), k96 x1 x2 x3 x4 x5 x6 M = some r → am_Ev L xs d me_304 96 [(0, .inr (.inr (some 73))), (1, .inl (x1)), (2, .inl (x2)), (3, .inl (x3)), (4, .inl (x4)), (5, .inl (x5)), (6, .inl (x6))] [] 126 138 M (some (.inl r.1), 126, 138, r.2)) (x1 : Int) (x2 : Int) (x3 : Int) (x6 : Int) (s0 : Int) (M : am_M) (r : Int × am_M) (h : R_sights_135   k96 x1 x2 x3 x6 s0 M = some r) : am_Ev L xs d me_304 135 [(0, .inr (.inr (some 73))), (1, .inl (x1)), (2, .inl (x2)), (3, .inl (x3)), (6, .inl (x6))] [.inl (s0)] 126 138 M (some (.inl r.1), 126, 138, r.2) := by
  refine ev_k (pc' := 141) (ls' := [(0, .inr (.inr (some 73))), (1, .inl (x1)), (2, .inl (x2)), (3, .inl (x3)), (4, .inl (s0)), (5, .inl (x6)), (6, .inl (x6))]) (st' := []) (nc' := 126) (np' := 138) (M' := M) 3 rfl ?_
  exact R_sights_141_t hd   k96 hk96 (x1) (x2) (x3) (s0) (x6) (x6) M r h
theorem R_sights_167_t {L : Nat} {xs : Nat → Int} {d : Nat} (hd : 5 ≤ d)     (s0 : Int) (M : am_M) (r : Int × am_M) (h : R_sights_167    s0 M = some r) : am_Ev L xs d me_304 167 [] [.inl (s0)] 126 138 M (some (.inl r.1), 126, 138, r.2) := by
  refine ev_k (pc' := 167) (ls' := []) (st' := [.inl (s0)]) (nc' := 126) (np' := 138) (M' := M) 0 rfl ?_
  cases h
  exact ev_ret rfl
theorem R_sights_96_t {L : Nat} {xs : Nat → Int} {d : Nat} (hd : 5 ≤ d)     : ∀ (n : Nat) (x1 : Int) (x2 : Int) (x3 : Int) (x4 : Int) (x5 : Int) (x6 : Int) (M : am_M) (r : Int × am_M), R_sights_96    n x1 x2 x3 x4 x5 x6 M = some r → am_Ev L xs d me_304 96 [(0, .inr (.inr (some 73))), (1, .inl (x1)), (2, .inl (x2)), (3, .inl (x3)), (4, .inl (x4)), (5, .inl (x5)), (6, .inl (x6))] [] 126 138 M (some (.inl r.1), 126, 138, r.2)
  | 0, _, _, _, _, _, _, M, r, h => by cases h
  | n + 1, x1, x2, x3, x4, x5, x6, M, r, h => by
    have ih := R_sights_96_t (L := L) (xs := xs) hd     n
    refine ev_k (pc' := 102) (ls' := [(0, .inr (.inr (some 73))), (1, .inl (x1)), (2, .inl (x2)), (3, .inl (x3)), (4, .inl (x4)), (5, .inl (x5)), (6, .inl (x6))]) (st' := [.inl (M 73 46), .inl (x6)]) (nc' := 126) (np' := 138) (M' := M) 3 rfl ?_
    obtain ⟨hR, ⟨hc, h⟩ | ⟨hc, h⟩⟩ := c_ge_i h
    · refine ev_icmp 147 rfl hR.1 hR.2 (by decide) (fun _ => ?_) (fun q => absurd hc q)
      refine ev_k (pc' := 148) (ls' := [(0, .inr (.inr (some 73))), (1, .inl (x1)), (2, .inl (x2)), (3, .inl (x3)), (4, .inl (x4)), (5, .inl (x5)), (6, .inl (x6))]) (st' := [.inl (x2)]) (nc' := 126) (np' := 138) (M' := M) 1 rfl ?_
      obtain ⟨hR, ⟨hc, h⟩ | ⟨hc, h⟩⟩ := c_ne_i h
      · refine ev_ifc 155 rfl hR.1 (by decide) (fun _ => ?_) (fun q => absurd hc q)
        refine ev_k (pc' := 157) (ls' := [(0, .inr (.inr (some 73))), (1, .inl (x1)), (2, .inl (x2)), (3, .inl (x3)), (4, .inl (x4)), (5, .inl (x5)), (6, .inl (x6))]) (st' := [.inl (1), .inl (x2)]) (nc' := 126) (np' := 138) (M' := M) 2 rfl ?_
        obtain ⟨hR, ⟨hc, h⟩ | ⟨hc, h⟩⟩ := c_ne_i h
        · refine ev_icmp 165 rfl hR.1 hR.2 (by decide) (fun _ => ?_) (fun q => absurd hc q)
          refine ev_k (pc' := 167) (ls' := []) (st' := [.inl (x5)]) (nc' := 126) (np' := 138) (M' := M) 1 rfl ?_
          exact R_sights_167_t hd     (x5) M r h
        · refine ev_icmp 165 rfl hR.1 hR.2 (by decide) (fun q => absurd q hc) (fun _ => ?_)
          refine ev_k (pc' := 167) (ls' := []) (st' := [.inl (x4)]) (nc' := 126) (np' := 138) (M' := M) 2 rfl ?_
          exact R_sights_167_t hd     (x4) M r h
      · refine ev_ifc 155 rfl hR.1 (by decide) (fun q => absurd q hc) (fun _ => ?_)
        refine ev_k (pc' := 167) (ls' := []) (st' := [.inl (x3)]) (nc' := 126) (np' := 138) (M' := M) 2 rfl ?_
        exact R_sights_167_t hd     (x3) M r h
    · refine ev_icmp 147 rfl hR.1 hR.2 (by decide) (fun q => absurd q hc) (fun _ => ?_)
      refine ev_k (pc' := 109) (ls' := [(0, .inr (.inr (some 73))), (1, .inl (x1)), (2, .inl (x2)), (3, .inl (x3)), (4, .inl (x4)), (5, .inl (x5)), (6, .inl (x6))]) (st' := [.inl (x1), .inl (x6), .inr (.inr (some 73))]) (nc' := 126) (np' := 138) (M' := M) 3 rfl ?_
      obtain ⟨v1, hv, h⟩ := ob_i h
      refine ev_call (t := 306) (as := [.inr (.inr (some 73)), .inl (x6), .inl (x1)]) (rest := []) rfl rfl rfl (by omega) (R_areSeenFrom_e (by omega) (x6) (x1) M _ hv) ?_
      refine ev_k (pc' := 112) (ls' := [(0, .inr (.inr (some 73))), (1, .inl (x1)), (2, .inl (x2)), (3, .inl (x3)), (4, .inl (x4)), (5, .inl (x5)), (6, .inl (x6))]) (st' := [.inl (v1)]) (nc' := 126) (np' := 138) (M' := M) 0 rfl ?_
      obtain ⟨hR, ⟨hc, h⟩ | ⟨hc, h⟩⟩ := c_ne_i h
      · refine ev_ifc 118 rfl hR.1 (by decide) (fun _ => ?_) (fun q => absurd hc q)
        refine ev_k (pc' := 125) (ls' := [(3, .inl ((x3) + (1))), (0, .inr (.inr (some 73))), (1, .inl (x1)), (2, .inl (x2)), (4, .inl (x4)), (5, .inl (x5)), (6, .inl (x6))]) (st' := [.inl (-2), .inl (x4)]) (nc' := 126) (np' := 138) (M' := M) 3 rfl ?_
        obtain ⟨hR, ⟨hc, h⟩ | ⟨hc, h⟩⟩ := c_ne_i h
        · refine ev_icmp 133 rfl hR.1 hR.2 (by decide) (fun _ => ?_) (fun q => absurd hc q)
          refine ev_k (pc' := 135) (ls' := [(0, .inr (.inr (some 73))), (1, .inl (x1)), (2, .inl (x2)), (3, .inl ((x3) + (1))), (6, .inl (x6))]) (st' := [.inl (x4)]) (nc' := 126) (np' := 138) (M' := M) 1 rfl ?_
          exact R_sights_135_t hd   (R_sights_96    n) ih (x1) (x2) ((x3) + (1)) (x6) (x4) M r h
        · refine ev_icmp 133 rfl hR.1 hR.2 (by decide) (fun q => absurd q hc) (fun _ => ?_)
          refine ev_k (pc' := 135) (ls' := [(0, .inr (.inr (some 73))), (1, .inl (x1)), (2, .inl (x2)), (3, .inl ((x3) + (1))), (6, .inl (x6))]) (st' := [.inl (x6)]) (nc' := 126) (np' := 138) (M' := M) 2 rfl ?_
          exact R_sights_135_t hd   (R_sights_96    n) ih (x1) (x2) ((x3) + (1)) (x6) (x6) M r h
      · refine ev_ifc 118 rfl hR.1 (by decide) (fun q => absurd q hc) (fun _ => ?_)
        refine ev_k (pc' := 141) (ls' := [(0, .inr (.inr (some 73))), (1, .inl (x1)), (2, .inl (x2)), (3, .inl (x3)), (4, .inl (x4)), (5, .inl (x5)), (6, .inl (x6))]) (st' := []) (nc' := 126) (np' := 138) (M' := M) 1 rfl ?_
        exact R_sights_141_t hd   (R_sights_96    n) ih (x1) (x2) (x3) (x4) (x5) (x6) M r h
theorem R_sights_63_t {L : Nat} {xs : Nat → Int} {d : Nat} (hd : 5 ≤ d)   (k41 : Int → Int → Int → am_M → Option (Int × am_M)) (hk41 : ∀ (x1 : Int) (x2 : Int) (x3 : Int) (M : am_M) (r : Int × am_M), k41 x1 x2 x3 M = some r → am_Ev L xs d me_304 41 [(0, .inr (.inr (some 73))), (1, .inl (x1)), (2, .inl (x2)), (3, .inl (x3))] [] 126 138 M (some (.inl r.1), 126, 138, r.2)) (x1 : Int) (x2 : Int) (x3 : Int) (M : am_M) (r : Int × am_M) (h : R_sights_63   k41 x1 x2 x3 M = some r) : am_Ev L xs d me_304 63 [(0, .inr (.inr (some 73))), (1, .inl (x1)), (2, .inl (x2)), (3, .inl (x3))] [] 126 138 M (some (.inl r.1), 126, 138, r.2) := by
  refine ev_k (pc' := 41) (ls' := [(0, .inr (.inr (some 73))), (1, .inl (x1)), (2, .inl (x2)), (3, .inl ((x3) + (1)))]) (st' := []) (nc' := 126) (np' := 138) (M' := M) 2 rfl ?_
  exact hk41 (x1) (x2) ((x3) + (1)) M r h
theorem R_sights_41_t {L : Nat} {xs : Nat → Int} {d : Nat} (hd : 5 ≤ d)     : ∀ (n : Nat) (x1 : Int) (x2 : Int) (x3 : Int) (M : am_M) (r : Int × am_M), R_sights_41    n x1 x2 x3 M = some r → am_Ev L xs d me_304 41 [(0, .inr (.inr (some 73))), (1, .inl (x1)), (2, .inl (x2)), (3, .inl (x3))] [] 126 138 M (some (.inl r.1), 126, 138, r.2)
  | 0, _, _, _, M, r, h => by cases h
  | n + 1, x1, x2, x3, M, r, h => by
    have ih := R_sights_41_t (L := L) (xs := xs) hd     n
    refine ev_k (pc' := 43) (ls' := [(0, .inr (.inr (some 73))), (1, .inl (x1)), (2, .inl (x2)), (3, .inl (x3))]) (st' := [.inl (x1), .inl (x3)]) (nc' := 126) (np' := 138) (M' := M) 2 rfl ?_
    obtain ⟨hR, ⟨hc, h⟩ | ⟨hc, h⟩⟩ := c_ge_i h
    · refine ev_icmp 69 rfl hR.1 hR.2 (by decide) (fun _ => ?_) (fun q => absurd hc q)
      refine ev_k (pc' := 73) (ls' := [(0, .inr (.inr (some 73))), (1, .inl (x1)), (2, .inl (x2)), (3, .inl (x3))]) (st' := [.inl (M 73 5)]) (nc' := 126) (np' := 138) (M' := M) 2 rfl ?_
      obtain ⟨hR, ⟨hc, h⟩ | ⟨hc, h⟩⟩ := c_ge_i h
      · refine ev_ifc 81 rfl hR.1 (by decide) (fun _ => ?_) (fun q => absurd hc q)
        refine ev_k (pc' := 96) (ls' := [(0, .inr (.inr (some 73))), (1, .inl (x1)), (2, .inl (x2)), (3, .inl (0)), (4, .inl (-2)), (5, .inl (-2)), (6, .inl ((x1) - (1)))]) (st' := []) (nc' := 126) (np' := 138) (M' := M) 10 rfl ?_
        exact R_sights_96_t hd     am_big (x1) (x2) (0) (-2) (-2) ((x1) - (1)) M r h
      · refine ev_ifc 81 rfl hR.1 (by decide) (fun q => absurd q hc) (fun _ => ?_)
        refine ev_k (pc' := 80) (ls' := [(0, .inr (.inr (some 73))), (1, .inl (x1)), (2, .inl (x2)), (3, .inl (x3))]) (st' := [.inl (M 73 5)]) (nc' := 126) (np' := 138) (M' := M) 2 rfl ?_
        cases h
        exact ev_ret rfl
    · refine ev_icmp 69 rfl hR.1 hR.2 (by decide) (fun q => absurd q hc) (fun _ => ?_)
      refine ev_k (pc' := 48) (ls' := [(0, .inr (.inr (some 73))), (1, .inl (x1)), (2, .inl (x2)), (3, .inl (x3))]) (st' := [.inl (x3), .inr (.inr (some 73))]) (nc' := 126) (np' := 138) (M' := M) 2 rfl ?_
      obtain ⟨v1, hv, h⟩ := ob_i h
      refine ev_call (t := 295) (as := [.inr (.inr (some 73)), .inl (x3)]) (rest := []) rfl rfl rfl (by omega) (R_byteAt_e (by omega) (x3) M _ hv) ?_
      refine ev_k (pc' := 51) (ls' := [(0, .inr (.inr (some 73))), (1, .inl (x1)), (2, .inl (x2)), (3, .inl (x3))]) (st' := [.inl (v1)]) (nc' := 126) (np' := 138) (M' := M) 0 rfl ?_
      obtain ⟨v2, hv, h⟩ := ob_i h
      refine ev_call (t := 305) (as := [.inl (v1)]) (rest := []) rfl rfl rfl (by omega) (R_isSight_e (by omega) (v1) M _ hv) ?_
      refine ev_k (pc' := 54) (ls' := [(0, .inr (.inr (some 73))), (1, .inl (x1)), (2, .inl (x2)), (3, .inl (x3))]) (st' := [.inl (v2)]) (nc' := 126) (np' := 138) (M' := M) 0 rfl ?_
      obtain ⟨hR, ⟨hc, h⟩ | ⟨hc, h⟩⟩ := c_ne_i h
      · refine ev_ifc 63 rfl hR.1 (by decide) (fun _ => ?_) (fun q => absurd hc q)
        exact R_sights_63_t hd   (R_sights_41    n) ih (x1) (x2) (x3) M r h
      · refine ev_ifc 63 rfl hR.1 (by decide) (fun q => absurd q hc) (fun _ => ?_)
        refine ev_k (pc' := 60) (ls' := [(0, .inr (.inr (some 73))), (1, .inl (x1)), (2, .inl (x2)), (3, .inl (x3))]) (st' := [.inl (x3), .inl (1), .inr (.inr (some 73))]) (nc' := 126) (np' := 138) (M' := M) 3 rfl ?_
        obtain ⟨M3, hv, h⟩ := ob_i h
        refine ev_call (t := 199) (as := [.inr (.inr (some 73)), .inl (1), .inl (x3)]) (rest := []) rfl rfl rfl (by omega) (R_wrongs_e (by omega) (1) (x3) M _ hv) ?_
        exact R_sights_63_t hd   (R_sights_41    n) ih (x1) (x2) (x3) M3 r h
theorem R_sights_e {L : Nat} {xs : Nat → Int} {d : Nat} (hd : 5 ≤ d)   (x1 : Int) (x2 : Int) (M : am_M) (r : Int × am_M) (h : R_sights   x1 x2 M = some r) : am_Ev L xs d me_304 0 (am_ar1 0 [.inr (.inr (some 73)), .inl (x1), .inl (x2)]) [] 126 138 M (some (.inl r.1), 126, 138, r.2) := by
  refine ev_k (pc' := 1) (ls' := [(0, .inr (.inr (some 73))), (1, .inl (x1)), (2, .inl (x2))]) (st' := [.inl (x1)]) (nc' := 126) (np' := 138) (M' := M) 1 rfl ?_
  obtain ⟨hc, h⟩ := ck_i h
  refine ev_i2l rfl hc ?_
  refine ev_k (pc' := 6) (ls' := [(0, .inr (.inr (some 73))), (1, .inl (x1)), (2, .inl (x2))]) (st' := [.inr (.inl (20)), .inr (.inl (1)), .inr (.inl (x1))]) (nc' := 126) (np' := 138) (M' := M) 2 rfl ?_
  obtain ⟨v1, hv, h⟩ := ob_i h
  refine ev_call (t := 193) (as := [.inr (.inl (x1)), .inr (.inl (1)), .inr (.inl (20))]) (rest := []) rfl rfl rfl (by omega) (R_lies_e (by omega) (x1) (1) (20) M _ hv) ?_
  refine ev_k (pc' := 9) (ls' := [(0, .inr (.inr (some 73))), (1, .inl (x1)), (2, .inl (x2))]) (st' := [.inl (v1)]) (nc' := 126) (np' := 138) (M' := M) 0 rfl ?_
  obtain ⟨hR, ⟨hc, h⟩ | ⟨hc, h⟩⟩ := c_eq_i h
  · refine ev_ifc 32 rfl hR.1 (by decide) (fun _ => ?_) (fun q => absurd hc q)
    exact R_sights_32_t hd      M r h
  · refine ev_ifc 32 rfl hR.1 (by decide) (fun q => absurd q hc) (fun _ => ?_)
    refine ev_k (pc' := 13) (ls' := [(0, .inr (.inr (some 73))), (1, .inl (x1)), (2, .inl (x2))]) (st' := [.inl (x2)]) (nc' := 126) (np' := 138) (M' := M) 1 rfl ?_
    obtain ⟨hc, h⟩ := ck_i h
    refine ev_i2l rfl hc ?_
    refine ev_k (pc' := 18) (ls' := [(0, .inr (.inr (some 73))), (1, .inl (x1)), (2, .inl (x2))]) (st' := [.inr (.inl (2)), .inr (.inl (0)), .inr (.inl (x2))]) (nc' := 126) (np' := 138) (M' := M) 2 rfl ?_
    obtain ⟨v2, hv, h⟩ := ob_i h
    refine ev_call (t := 193) (as := [.inr (.inl (x2)), .inr (.inl (0)), .inr (.inl (2))]) (rest := []) rfl rfl rfl (by omega) (R_lies_e (by omega) (x2) (0) (2) M _ hv) ?_
    refine ev_k (pc' := 21) (ls' := [(0, .inr (.inr (some 73))), (1, .inl (x1)), (2, .inl (x2))]) (st' := [.inl (v2)]) (nc' := 126) (np' := 138) (M' := M) 0 rfl ?_
    obtain ⟨hR, ⟨hc, h⟩ | ⟨hc, h⟩⟩ := c_eq_i h
    · refine ev_ifc 32 rfl hR.1 (by decide) (fun _ => ?_) (fun q => absurd hc q)
      exact R_sights_32_t hd      M r h
    · refine ev_ifc 32 rfl hR.1 (by decide) (fun q => absurd q hc) (fun _ => ?_)
      refine ev_k (pc' := 29) (ls' := [(0, .inr (.inr (some 73))), (1, .inl (x1)), (2, .inl (x2))]) (st' := [.inl (M 73 1), .inl (x1)]) (nc' := 126) (np' := 138) (M' := M) 3 rfl ?_
      obtain ⟨hR, ⟨hc, h⟩ | ⟨hc, h⟩⟩ := c_le_i h
      · refine ev_icmp 34 rfl hR.1 hR.2 (by decide) (fun _ => ?_) (fun q => absurd hc q)
        refine ev_k (pc' := 36) (ls' := [(0, .inr (.inr (some 73))), (1, .inl (x1)), (2, .inl (x2))]) (st' := [.inl (x1), .inr (.inr (some 73))]) (nc' := 126) (np' := 138) (M' := M) 2 rfl ?_
        obtain ⟨M3, hv, h⟩ := ob_i h
        refine ev_call (t := 194) (as := [.inr (.inr (some 73)), .inl (x1)]) (rest := []) rfl rfl rfl (by omega) (R_begins_e (by omega) (x1) M _ hv) ?_
        refine ev_k (pc' := 41) (ls' := [(0, .inr (.inr (some 73))), (1, .inl (x1)), (2, .inl (x2)), (3, .inl (0))]) (st' := []) (nc' := 126) (np' := 138) (M' := M3) 2 rfl ?_
        exact R_sights_41_t hd     am_big (x1) (x2) (0) M3 r h
      · refine ev_icmp 34 rfl hR.1 hR.2 (by decide) (fun q => absurd q hc) (fun _ => ?_)
        exact R_sights_32_t hd      M r h
def R_seed    (x1 : Int) (M : am_M) : Option (Int × am_M) := ck (am_R (x1)) (ob (R_lies (x1) (0) (65535) M) fun v1 => c_ne (v1) (0)
       (fw M 73 2 (x1) fun M2 => some (1, M2))
       (some (0, M)))
theorem R_seed_e {L : Nat} {xs : Nat → Int} {d : Nat} (hd : 1 ≤ d)   (x1 : Int) (M : am_M) (r : Int × am_M) (h : R_seed   x1 M = some r) : am_Ev L xs d me_308 0 (am_ar1 0 [.inr (.inr (some 73)), .inl (x1)]) [] 126 138 M (some (.inl r.1), 126, 138, r.2) := by
  refine ev_k (pc' := 1) (ls' := [(0, .inr (.inr (some 73))), (1, .inl (x1))]) (st' := [.inl (x1)]) (nc' := 126) (np' := 138) (M' := M) 1 rfl ?_
  obtain ⟨hc, h⟩ := ck_i h
  refine ev_i2l rfl hc ?_
  refine ev_k (pc' := 6) (ls' := [(0, .inr (.inr (some 73))), (1, .inl (x1))]) (st' := [.inr (.inl (65535)), .inr (.inl (0)), .inr (.inl (x1))]) (nc' := 126) (np' := 138) (M' := M) 2 rfl ?_
  obtain ⟨v1, hv, h⟩ := ob_i h
  refine ev_call (t := 193) (as := [.inr (.inl (x1)), .inr (.inl (0)), .inr (.inl (65535))]) (rest := []) rfl rfl rfl (by omega) (R_lies_e (by omega) (x1) (0) (65535) M _ hv) ?_
  refine ev_k (pc' := 9) (ls' := [(0, .inr (.inr (some 73))), (1, .inl (x1))]) (st' := [.inl (v1)]) (nc' := 126) (np' := 138) (M' := M) 0 rfl ?_
  obtain ⟨hR, ⟨hc, h⟩ | ⟨hc, h⟩⟩ := c_ne_i h
  · refine ev_ifc 14 rfl hR.1 (by decide) (fun _ => ?_) (fun q => absurd hc q)
    refine ev_k (pc' := 19) (ls' := [(0, .inr (.inr (some 73))), (1, .inl (x1))]) (st' := []) (nc' := 126) (np' := 138) (M' := am_up M 73 2 (x1)) 3 rfl ?_
    obtain ⟨M2, eM, h⟩ := fw_i h
    rw [← eM]
    refine ev_k (pc' := 20) (ls' := [(0, .inr (.inr (some 73))), (1, .inl (x1))]) (st' := [.inl (1)]) (nc' := 126) (np' := 138) (M' := M2) 1 rfl ?_
    cases h
    exact ev_ret rfl
  · refine ev_ifc 14 rfl hR.1 (by decide) (fun q => absurd q hc) (fun _ => ?_)
    refine ev_k (pc' := 13) (ls' := [(0, .inr (.inr (some 73))), (1, .inl (x1))]) (st' := [.inl (0)]) (nc' := 126) (np' := 138) (M' := M) 1 rfl ?_
    cases h
    exact ev_ret rfl
def R_keep     (M : am_M) : Option (Int × am_M) := fz M 73 66 (1) fun M1 => ob (R_laysAside (1) M1) fun M2 => some (M2 73 46, M2)
theorem R_keep_e {L : Nat} {xs : Nat → Int} {d : Nat} (hd : 1 ≤ d)    (M : am_M) (r : Int × am_M) (h : R_keep    M = some r) : am_Ev L xs d me_309 0 (am_ar1 0 [.inr (.inr (some 73))]) [] 126 138 M (some (.inl r.1), 126, 138, r.2) := by
  refine ev_k (pc' := 2) (ls' := [(0, .inr (.inr (some 73)))]) (st' := [.inl (1), .inr (.inr (some 73))]) (nc' := 126) (np' := 138) (M' := M) 2 rfl ?_
  obtain ⟨hc, M1, eM, h⟩ := fz_i h
  refine ev_putz (k := 73) (j := 66) rfl rfl (by decide) rfl rfl hc eM ?_
  refine ev_k (pc' := 7) (ls' := [(0, .inr (.inr (some 73)))]) (st' := [.inl (1), .inr (.inr (some 73))]) (nc' := 126) (np' := 138) (M' := M1) 2 rfl ?_
  obtain ⟨M2, hv, h⟩ := ob_i h
  refine ev_call (t := 265) (as := [.inr (.inr (some 73)), .inl (1)]) (rest := []) rfl rfl rfl (by omega) (R_laysAside_e (by omega) (1) M1 _ hv) ?_
  refine ev_k (pc' := 14) (ls' := [(0, .inr (.inr (some 73)))]) (st' := [.inl (M2 73 46)]) (nc' := 126) (np' := 138) (M' := M2) 2 rfl ?_
  cases h
  exact ev_ret rfl
def R_undo     (M : am_M) : Option (Int × am_M) := c_ne (M 73 66) (0)
       (ob (R_bringsBack (1) M) fun M1 => some (1, M1))
       (some (0, M))
theorem R_undo_e {L : Nat} {xs : Nat → Int} {d : Nat} (hd : 1 ≤ d)    (M : am_M) (r : Int × am_M) (h : R_undo    M = some r) : am_Ev L xs d me_310 0 (am_ar1 0 [.inr (.inr (some 73))]) [] 126 138 M (some (.inl r.1), 126, 138, r.2) := by
  refine ev_k (pc' := 4) (ls' := [(0, .inr (.inr (some 73)))]) (st' := [.inl (M 73 66)]) (nc' := 126) (np' := 138) (M' := M) 2 rfl ?_
  obtain ⟨hR, ⟨hc, h⟩ | ⟨hc, h⟩⟩ := c_ne_i h
  · refine ev_ifc 9 rfl hR.1 (by decide) (fun _ => ?_) (fun q => absurd hc q)
    refine ev_k (pc' := 11) (ls' := [(0, .inr (.inr (some 73)))]) (st' := [.inl (1), .inr (.inr (some 73))]) (nc' := 126) (np' := 138) (M' := M) 2 rfl ?_
    obtain ⟨M1, hv, h⟩ := ob_i h
    refine ev_call (t := 266) (as := [.inr (.inr (some 73)), .inl (1)]) (rest := []) rfl rfl rfl (by omega) (R_bringsBack_e (by omega) (1) M _ hv) ?_
    refine ev_k (pc' := 15) (ls' := [(0, .inr (.inr (some 73)))]) (st' := [.inl (1)]) (nc' := 126) (np' := 138) (M' := M1) 1 rfl ?_
    cases h
    exact ev_ret rfl
  · refine ev_ifc 9 rfl hR.1 (by decide) (fun q => absurd q hc) (fun _ => ?_)
    refine ev_k (pc' := 8) (ls' := [(0, .inr (.inr (some 73)))]) (st' := [.inl (0)]) (nc' := 126) (np' := 138) (M' := M) 1 rfl ?_
    cases h
    exact ev_ret rfl
def R_check_20     (M : am_M) : Option (Int × am_M) := some (-2, M)
def R_check_58   (k30 : Int → Int → am_M → Option (Int × am_M)) (x1 : Int) (x2 : Int) (s0 : Int) (s1 : Int) (M : am_M) : Option (Int × am_M) := c_eq (s0) (s1)
       ((k30 (x1) ((x2) + (1)) M))
       (some (x2, M))
def R_check_30    : Nat → Int → Int → am_M → Option (Int × am_M)
  | 0, _, _, _ => none
  | n + 1, x1, x2, M => c_ge (x2) (x1)
       (some (-1, M))
       (ob (R_byteAt (x2) M) fun v1 => c_ge (x2) (M 73 46)
       ((R_check_58   (R_check_30    n) (x1) (x2) (v1) (0) M))
       (rd M 97 100 (x2) fun v2 => (R_check_58   (R_check_30    n) (x1) (x2) (v1) (v2) M)))
def R_check    (x1 : Int) (M : am_M) : Option (Int × am_M) := ck (am_R (x1)) (ob (R_lies (x1) (0) (100) M) fun v1 => c_eq (v1) (0)
       (R_check_20     M)
       (c_le (x1) (M 73 1)
       (fw M 73 1 (0) fun M2 => (R_check_30    am_big (x1) (0) M2))
       (R_check_20     M)))
theorem R_check_20_t {L : Nat} {xs : Nat → Int} {d : Nat} (hd : 1 ≤ d)      (M : am_M) (r : Int × am_M) (h : R_check_20     M = some r) : am_Ev L xs d me_311 20 [] [] 126 138 M (some (.inl r.1), 126, 138, r.2) := by
  refine ev_k (pc' := 22) (ls' := []) (st' := [.inl (-2)]) (nc' := 126) (np' := 138) (M' := M) 1 rfl ?_
  cases h
  exact ev_ret rfl
theorem R_check_58_t {L : Nat} {xs : Nat → Int} {d : Nat} (hd : 1 ≤ d)   (k30 : Int → Int → am_M → Option (Int × am_M)) (hk30 : ∀ (x1 : Int) (x2 : Int) (M : am_M) (r : Int × am_M), k30 x1 x2 M = some r → am_Ev L xs d me_311 30 [(0, .inr (.inr (some 73))), (1, .inl (x1)), (2, .inl (x2))] [] 126 138 M (some (.inl r.1), 126, 138, r.2)) (x1 : Int) (x2 : Int) (s0 : Int) (s1 : Int) (M : am_M) (r : Int × am_M) (h : R_check_58   k30 x1 x2 s0 s1 M = some r) : am_Ev L xs d me_311 58 [(0, .inr (.inr (some 73))), (1, .inl (x1)), (2, .inl (x2))] [.inl (s1), .inl (s0)] 126 138 M (some (.inl r.1), 126, 138, r.2) := by
  refine ev_k (pc' := 58) (ls' := [(0, .inr (.inr (some 73))), (1, .inl (x1)), (2, .inl (x2))]) (st' := [.inl (s1), .inl (s0)]) (nc' := 126) (np' := 138) (M' := M) 0 rfl ?_
  obtain ⟨hR, ⟨hc, h⟩ | ⟨hc, h⟩⟩ := c_eq_i h
  · refine ev_icmp 63 rfl hR.1 hR.2 (by decide) (fun _ => ?_) (fun q => absurd hc q)
    refine ev_k (pc' := 30) (ls' := [(0, .inr (.inr (some 73))), (1, .inl (x1)), (2, .inl ((x2) + (1)))]) (st' := []) (nc' := 126) (np' := 138) (M' := M) 2 rfl ?_
    exact hk30 (x1) ((x2) + (1)) M r h
  · refine ev_icmp 63 rfl hR.1 hR.2 (by decide) (fun q => absurd q hc) (fun _ => ?_)
    refine ev_k (pc' := 62) (ls' := [(0, .inr (.inr (some 73))), (1, .inl (x1)), (2, .inl (x2))]) (st' := [.inl (x2)]) (nc' := 126) (np' := 138) (M' := M) 1 rfl ?_
    cases h
    exact ev_ret rfl
theorem R_check_30_t {L : Nat} {xs : Nat → Int} {d : Nat} (hd : 1 ≤ d)     : ∀ (n : Nat) (x1 : Int) (x2 : Int) (M : am_M) (r : Int × am_M), R_check_30    n x1 x2 M = some r → am_Ev L xs d me_311 30 [(0, .inr (.inr (some 73))), (1, .inl (x1)), (2, .inl (x2))] [] 126 138 M (some (.inl r.1), 126, 138, r.2)
  | 0, _, _, M, r, h => by cases h
  | n + 1, x1, x2, M, r, h => by
    have ih := R_check_30_t (L := L) (xs := xs) hd     n
    refine ev_k (pc' := 32) (ls' := [(0, .inr (.inr (some 73))), (1, .inl (x1)), (2, .inl (x2))]) (st' := [.inl (x1), .inl (x2)]) (nc' := 126) (np' := 138) (M' := M) 2 rfl ?_
    obtain ⟨hR, ⟨hc, h⟩ | ⟨hc, h⟩⟩ := c_ge_i h
    · refine ev_icmp 69 rfl hR.1 hR.2 (by decide) (fun _ => ?_) (fun q => absurd hc q)
      refine ev_k (pc' := 70) (ls' := [(0, .inr (.inr (some 73))), (1, .inl (x1)), (2, .inl (x2))]) (st' := [.inl (-1)]) (nc' := 126) (np' := 138) (M' := M) 1 rfl ?_
      cases h
      exact ev_ret rfl
    · refine ev_icmp 69 rfl hR.1 hR.2 (by decide) (fun q => absurd q hc) (fun _ => ?_)
      refine ev_k (pc' := 37) (ls' := [(0, .inr (.inr (some 73))), (1, .inl (x1)), (2, .inl (x2))]) (st' := [.inl (x2), .inr (.inr (some 73))]) (nc' := 126) (np' := 138) (M' := M) 2 rfl ?_
      obtain ⟨v1, hv, h⟩ := ob_i h
      refine ev_call (t := 295) (as := [.inr (.inr (some 73)), .inl (x2)]) (rest := []) rfl rfl rfl (by omega) (R_byteAt_e (by omega) (x2) M _ hv) ?_
      refine ev_k (pc' := 45) (ls' := [(0, .inr (.inr (some 73))), (1, .inl (x1)), (2, .inl (x2))]) (st' := [.inl (M 73 46), .inl (x2), .inl (v1)]) (nc' := 126) (np' := 138) (M' := M) 3 rfl ?_
      obtain ⟨hR, ⟨hc, h⟩ | ⟨hc, h⟩⟩ := c_ge_i h
      · refine ev_icmp 57 rfl hR.1 hR.2 (by decide) (fun _ => ?_) (fun q => absurd hc q)
        refine ev_k (pc' := 58) (ls' := [(0, .inr (.inr (some 73))), (1, .inl (x1)), (2, .inl (x2))]) (st' := [.inl (0), .inl (v1)]) (nc' := 126) (np' := 138) (M' := M) 1 rfl ?_
        exact R_check_58_t hd   (R_check_30    n) ih (x1) (x2) (v1) (0) M r h
      · refine ev_icmp 57 rfl hR.1 hR.2 (by decide) (fun q => absurd q hc) (fun _ => ?_)
        refine ev_k (pc' := 53) (ls' := [(0, .inr (.inr (some 73))), (1, .inl (x1)), (2, .inl (x2))]) (st' := [.inl (x2), .inr (.inr (some 97)), .inl (v1)]) (nc' := 126) (np' := 138) (M' := M) 3 rfl ?_
        obtain ⟨hc, v2, ev, h⟩ := rd_i h
        refine ev_ald (k := 97) (t := 0) (Or.inl ⟨rfl, rfl⟩) rfl (by decide) (by decide) rfl hc ev ?_
        refine ev_k (pc' := 58) (ls' := [(0, .inr (.inr (some 73))), (1, .inl (x1)), (2, .inl (x2))]) (st' := [.inl (v2), .inl (v1)]) (nc' := 126) (np' := 138) (M' := M) 1 rfl ?_
        exact R_check_58_t hd   (R_check_30    n) ih (x1) (x2) (v1) (v2) M r h
theorem R_check_e {L : Nat} {xs : Nat → Int} {d : Nat} (hd : 1 ≤ d)   (x1 : Int) (M : am_M) (r : Int × am_M) (h : R_check   x1 M = some r) : am_Ev L xs d me_311 0 (am_ar1 0 [.inr (.inr (some 73)), .inl (x1)]) [] 126 138 M (some (.inl r.1), 126, 138, r.2) := by
  refine ev_k (pc' := 1) (ls' := [(0, .inr (.inr (some 73))), (1, .inl (x1))]) (st' := [.inl (x1)]) (nc' := 126) (np' := 138) (M' := M) 1 rfl ?_
  obtain ⟨hc, h⟩ := ck_i h
  refine ev_i2l rfl hc ?_
  refine ev_k (pc' := 6) (ls' := [(0, .inr (.inr (some 73))), (1, .inl (x1))]) (st' := [.inr (.inl (100)), .inr (.inl (0)), .inr (.inl (x1))]) (nc' := 126) (np' := 138) (M' := M) 2 rfl ?_
  obtain ⟨v1, hv, h⟩ := ob_i h
  refine ev_call (t := 193) (as := [.inr (.inl (x1)), .inr (.inl (0)), .inr (.inl (100))]) (rest := []) rfl rfl rfl (by omega) (R_lies_e (by omega) (x1) (0) (100) M _ hv) ?_
  refine ev_k (pc' := 9) (ls' := [(0, .inr (.inr (some 73))), (1, .inl (x1))]) (st' := [.inl (v1)]) (nc' := 126) (np' := 138) (M' := M) 0 rfl ?_
  obtain ⟨hR, ⟨hc, h⟩ | ⟨hc, h⟩⟩ := c_eq_i h
  · refine ev_ifc 20 rfl hR.1 (by decide) (fun _ => ?_) (fun q => absurd hc q)
    exact R_check_20_t hd      M r h
  · refine ev_ifc 20 rfl hR.1 (by decide) (fun q => absurd q hc) (fun _ => ?_)
    refine ev_k (pc' := 17) (ls' := [(0, .inr (.inr (some 73))), (1, .inl (x1))]) (st' := [.inl (M 73 1), .inl (x1)]) (nc' := 126) (np' := 138) (M' := M) 3 rfl ?_
    obtain ⟨hR, ⟨hc, h⟩ | ⟨hc, h⟩⟩ := c_le_i h
    · refine ev_icmp 23 rfl hR.1 hR.2 (by decide) (fun _ => ?_) (fun q => absurd hc q)
      refine ev_k (pc' := 28) (ls' := [(0, .inr (.inr (some 73))), (1, .inl (x1))]) (st' := []) (nc' := 126) (np' := 138) (M' := am_up M 73 1 (0)) 3 rfl ?_
      obtain ⟨M2, eM, h⟩ := fw_i h
      rw [← eM]
      refine ev_k (pc' := 30) (ls' := [(0, .inr (.inr (some 73))), (1, .inl (x1)), (2, .inl (0))]) (st' := []) (nc' := 126) (np' := 138) (M' := M2) 2 rfl ?_
      exact R_check_30_t hd     am_big (x1) (0) M2 r h
    · refine ev_icmp 23 rfl hR.1 hR.2 (by decide) (fun q => absurd q hc) (fun _ => ?_)
      exact R_check_20_t hd      M r h
def R_count_122    (s0 : Int) (M : am_M) : Option (Int) := some (s0)
def R_count    (x1 : Int) (M : am_M) : Option (Int) := ob (R_isCell (am_nm ((x1) - (100))) M) fun v1 => c_eq (v1) (0)
       (ck (am_R (x1)) ((if (x1) = (0) then
       (some (M 73 45)) else
       (if (x1) = (1) then
       (some (M 73 44)) else
       (if (x1) = (2) then
       (some (M 73 46)) else
       (if (x1) = (3) then
       (some (M 73 47)) else
       (if (x1) = (4) then
       (ob (R_toldPeople  M) fun v2 => some (v2)) else
       (if (x1) = (5) then
       (c_ne (M 73 41) (-1)
       ((R_count_122    (M 73 41) M))
       ((R_count_122    (-2) M))) else
       (if (x1) = (6) then
       (some (M 73 19)) else
       (if (x1) = (7) then
       (some (M 73 1)) else
       (if (x1) = (8) then
       (some (M 73 2)) else
       (if (x1) = (9) then
       (some (M 73 42)) else
       (if (x1) = (10) then
       (some (M 73 43)) else
       (some (-1)))))))))))))))
       (rd M 75 144 (am_nm ((x1) - (100))) fun v3 => some (v3))
theorem R_count_122_t {L : Nat} {xs : Nat → Int} {d : Nat} (hd : 2 ≤ d)     (s0 : Int) (M : am_M) (r : Int) (h : R_count_122    s0 M = some r) : am_Ev L xs d me_312 122 [] [.inl (s0)] 126 138 M (some (.inl r), 126, 138, M) := by
  refine ev_k (pc' := 122) (ls' := []) (st' := [.inl (s0)]) (nc' := 126) (np' := 138) (M' := M) 0 rfl ?_
  cases h
  exact ev_ret rfl
theorem R_count_e {L : Nat} {xs : Nat → Int} {d : Nat} (hd : 2 ≤ d)   (x1 : Int) (M : am_M) (r : Int) (h : R_count   x1 M = some r) : am_Ev L xs d me_312 0 (am_ar1 0 [.inr (.inr (some 73)), .inl (x1)]) [] 126 138 M (some (.inl r), 126, 138, M) := by
  refine ev_k (pc' := 4) (ls' := [(0, .inr (.inr (some 73))), (1, .inl (x1))]) (st' := [.inl (am_nm ((x1) - (100)))]) (nc' := 126) (np' := 138) (M' := M) 3 rfl ?_
  obtain ⟨v1, hv, h⟩ := ob_i h
  refine ev_call (t := 230) (as := [.inl (am_nm ((x1) - (100)))]) (rest := []) rfl rfl rfl (by omega) (R_isCell_e (by omega) (am_nm ((x1) - (100))) M _ hv) ?_
  refine ev_k (pc' := 7) (ls' := [(0, .inr (.inr (some 73))), (1, .inl (x1))]) (st' := [.inl (v1)]) (nc' := 126) (np' := 138) (M' := M) 0 rfl ?_
  obtain ⟨hR, ⟨hc, h⟩ | ⟨hc, h⟩⟩ := c_eq_i h
  · refine ev_ifc 20 rfl hR.1 (by decide) (fun _ => ?_) (fun q => absurd hc q)
    refine ev_k (pc' := 21) (ls' := [(0, .inr (.inr (some 73))), (1, .inl (x1))]) (st' := [.inl (x1)]) (nc' := 126) (np' := 138) (M' := M) 1 rfl ?_
    obtain ⟨hR, h⟩ := ck_i h
    rcases if_i h with ⟨hq, h⟩ | ⟨hq0, h⟩
    · refine ev_tsw 80 rfl hR (59) (Or.inr ⟨by rw [hq]; decide, by rw [hq]; rfl⟩) (by decide) ?_
      refine ev_k (pc' := 84) (ls' := [(0, .inr (.inr (some 73))), (1, .inl (x1))]) (st' := [.inl (M 73 45)]) (nc' := 126) (np' := 138) (M' := M) 2 rfl ?_
      cases h
      exact ev_ret rfl
    · skip
      rcases if_i h with ⟨hq, h⟩ | ⟨hq1, h⟩
      · refine ev_tsw 85 rfl hR (64) (Or.inr ⟨by rw [hq]; decide, by rw [hq]; rfl⟩) (by decide) ?_
        refine ev_k (pc' := 89) (ls' := [(0, .inr (.inr (some 73))), (1, .inl (x1))]) (st' := [.inl (M 73 44)]) (nc' := 126) (np' := 138) (M' := M) 2 rfl ?_
        cases h
        exact ev_ret rfl
      · skip
        rcases if_i h with ⟨hq, h⟩ | ⟨hq2, h⟩
        · refine ev_tsw 90 rfl hR (69) (Or.inr ⟨by rw [hq]; decide, by rw [hq]; rfl⟩) (by decide) ?_
          refine ev_k (pc' := 94) (ls' := [(0, .inr (.inr (some 73))), (1, .inl (x1))]) (st' := [.inl (M 73 46)]) (nc' := 126) (np' := 138) (M' := M) 2 rfl ?_
          cases h
          exact ev_ret rfl
        · skip
          rcases if_i h with ⟨hq, h⟩ | ⟨hq3, h⟩
          · refine ev_tsw 95 rfl hR (74) (Or.inr ⟨by rw [hq]; decide, by rw [hq]; rfl⟩) (by decide) ?_
            refine ev_k (pc' := 99) (ls' := [(0, .inr (.inr (some 73))), (1, .inl (x1))]) (st' := [.inl (M 73 47)]) (nc' := 126) (np' := 138) (M' := M) 2 rfl ?_
            cases h
            exact ev_ret rfl
          · skip
            rcases if_i h with ⟨hq, h⟩ | ⟨hq4, h⟩
            · refine ev_tsw 100 rfl hR (79) (Or.inr ⟨by rw [hq]; decide, by rw [hq]; rfl⟩) (by decide) ?_
              refine ev_k (pc' := 101) (ls' := [(0, .inr (.inr (some 73))), (1, .inl (x1))]) (st' := [.inr (.inr (some 73))]) (nc' := 126) (np' := 138) (M' := M) 1 rfl ?_
              obtain ⟨v2, hv, h⟩ := ob_i h
              refine ev_call (t := 284) (as := [.inr (.inr (some 73))]) (rest := []) rfl rfl rfl (by omega) (R_toldPeople_e (by omega)  M _ hv) ?_
              refine ev_k (pc' := 104) (ls' := [(0, .inr (.inr (some 73))), (1, .inl (x1))]) (st' := [.inl (v2)]) (nc' := 126) (np' := 138) (M' := M) 0 rfl ?_
              cases h
              exact ev_ret rfl
            · skip
              rcases if_i h with ⟨hq, h⟩ | ⟨hq5, h⟩
              · refine ev_tsw 105 rfl hR (84) (Or.inr ⟨by rw [hq]; decide, by rw [hq]; rfl⟩) (by decide) ?_
                refine ev_k (pc' := 110) (ls' := [(0, .inr (.inr (some 73))), (1, .inl (x1))]) (st' := [.inl (-1), .inl (M 73 41)]) (nc' := 126) (np' := 138) (M' := M) 3 rfl ?_
                obtain ⟨hR, ⟨hc, h⟩ | ⟨hc, h⟩⟩ := c_ne_i h
                · refine ev_icmp 118 rfl hR.1 hR.2 (by decide) (fun _ => ?_) (fun q => absurd hc q)
                  refine ev_k (pc' := 122) (ls' := []) (st' := [.inl (M 73 41)]) (nc' := 126) (np' := 138) (M' := M) 2 rfl ?_
                  exact R_count_122_t hd     (M 73 41) M r h
                · refine ev_icmp 118 rfl hR.1 hR.2 (by decide) (fun q => absurd q hc) (fun _ => ?_)
                  refine ev_k (pc' := 122) (ls' := []) (st' := [.inl (-2)]) (nc' := 126) (np' := 138) (M' := M) 2 rfl ?_
                  exact R_count_122_t hd     (-2) M r h
              · skip
                rcases if_i h with ⟨hq, h⟩ | ⟨hq6, h⟩
                · refine ev_tsw 123 rfl hR (102) (Or.inr ⟨by rw [hq]; decide, by rw [hq]; rfl⟩) (by decide) ?_
                  refine ev_k (pc' := 127) (ls' := [(0, .inr (.inr (some 73))), (1, .inl (x1))]) (st' := [.inl (M 73 19)]) (nc' := 126) (np' := 138) (M' := M) 2 rfl ?_
                  cases h
                  exact ev_ret rfl
                · skip
                  rcases if_i h with ⟨hq, h⟩ | ⟨hq7, h⟩
                  · refine ev_tsw 128 rfl hR (107) (Or.inr ⟨by rw [hq]; decide, by rw [hq]; rfl⟩) (by decide) ?_
                    refine ev_k (pc' := 132) (ls' := [(0, .inr (.inr (some 73))), (1, .inl (x1))]) (st' := [.inl (M 73 1)]) (nc' := 126) (np' := 138) (M' := M) 2 rfl ?_
                    cases h
                    exact ev_ret rfl
                  · skip
                    rcases if_i h with ⟨hq, h⟩ | ⟨hq8, h⟩
                    · refine ev_tsw 133 rfl hR (112) (Or.inr ⟨by rw [hq]; decide, by rw [hq]; rfl⟩) (by decide) ?_
                      refine ev_k (pc' := 137) (ls' := [(0, .inr (.inr (some 73))), (1, .inl (x1))]) (st' := [.inl (M 73 2)]) (nc' := 126) (np' := 138) (M' := M) 2 rfl ?_
                      cases h
                      exact ev_ret rfl
                    · skip
                      rcases if_i h with ⟨hq, h⟩ | ⟨hq9, h⟩
                      · refine ev_tsw 138 rfl hR (117) (Or.inr ⟨by rw [hq]; decide, by rw [hq]; rfl⟩) (by decide) ?_
                        refine ev_k (pc' := 142) (ls' := [(0, .inr (.inr (some 73))), (1, .inl (x1))]) (st' := [.inl (M 73 42)]) (nc' := 126) (np' := 138) (M' := M) 2 rfl ?_
                        cases h
                        exact ev_ret rfl
                      · skip
                        rcases if_i h with ⟨hq, h⟩ | ⟨hq10, h⟩
                        · refine ev_tsw 143 rfl hR (122) (Or.inr ⟨by rw [hq]; decide, by rw [hq]; rfl⟩) (by decide) ?_
                          refine ev_k (pc' := 147) (ls' := [(0, .inr (.inr (some 73))), (1, .inl (x1))]) (st' := [.inl (M 73 43)]) (nc' := 126) (np' := 138) (M' := M) 2 rfl ?_
                          cases h
                          exact ev_ret rfl
                        · skip
                          have hho : ((x1) < 0 ∨ 10 < (x1)) ∨ ((x1) = 0 ∨ (x1) = 1 ∨ (x1) = 2 ∨ (x1) = 3 ∨ (x1) = 4 ∨ (x1) = 5 ∨ (x1) = 6 ∨ (x1) = 7 ∨ (x1) = 8 ∨ (x1) = 9 ∨ (x1) = 10) := by omega
                          refine ev_tsw 148 rfl hR (127) ?_ (by decide) ?_
                          · rcases hho with hho | hho
                            · exact Or.inl ⟨hho, rfl⟩
                            · rcases hho with hho | hho | hho | hho | hho | hho | hho | hho | hho | hho | hho
                              · exact absurd hho hq0
                              · exact absurd hho hq1
                              · exact absurd hho hq2
                              · exact absurd hho hq3
                              · exact absurd hho hq4
                              · exact absurd hho hq5
                              · exact absurd hho hq6
                              · exact absurd hho hq7
                              · exact absurd hho hq8
                              · exact absurd hho hq9
                              · exact absurd hho hq10
                          · skip
                            refine ev_k (pc' := 149) (ls' := [(0, .inr (.inr (some 73))), (1, .inl (x1))]) (st' := [.inl (-1)]) (nc' := 126) (np' := 138) (M' := M) 1 rfl ?_
                            cases h
                            exact ev_ret rfl
  · refine ev_ifc 20 rfl hR.1 (by decide) (fun q => absurd q hc) (fun _ => ?_)
    refine ev_k (pc' := 18) (ls' := [(0, .inr (.inr (some 73))), (1, .inl (x1))]) (st' := [.inl (am_nm ((x1) - (100))), .inr (.inr (some 75))]) (nc' := 126) (np' := 138) (M' := M) 5 rfl ?_
    obtain ⟨hc, v3, ev, h⟩ := rd_i h
    refine ev_ald (k := 75) (t := 0) (Or.inl ⟨rfl, rfl⟩) rfl (by decide) (by decide) rfl hc ev ?_
    refine ev_k (pc' := 19) (ls' := [(0, .inr (.inr (some 73))), (1, .inl (x1))]) (st' := [.inl (v3)]) (nc' := 126) (np' := 138) (M' := M) 0 rfl ?_
    cases h
    exact ev_ret rfl
def J_fill_2_n5_5    : Nat → Int → Int → Int → am_M → Option (am_M)
  | 0, _, _, _, _ => none
  | n + 1, x1, x2, x3, M => c_ge (x2) (x3)
       (some (M))
       (wa M 2 144 (x2) (x1) fun M1 => (J_fill_2_n5_5    n (x1) ((x2) + (1)) (x3) M1))
def J_fill_2_n5    (x1 : Int) (M : am_M) : Option (am_M) := (J_fill_2_n5_5    am_big (x1) (0) (((144 : Nat) : Int)) M)
theorem J_fill_2_n5_5_t {L : Nat} {xs : Nat → Int} {d : Nat} (hd : 0 ≤ d)     : ∀ (n : Nat) (x1 : Int) (x2 : Int) (x3 : Int) (M : am_M) (r : am_M), J_fill_2_n5_5    n x1 x2 x3 M = some r → am_Ev L xs d me_2 5 [(0, .inr (.inr (some 2))), (1, .inl (x1)), (2, .inl (x2)), (3, .inl (x3))] [] 5 3 M (none, 5, 3, r)
  | 0, _, _, _, M, r, h => by cases h
  | n + 1, x1, x2, x3, M, r, h => by
    have ih := J_fill_2_n5_5_t (L := L) (xs := xs) hd     n
    refine ev_k (pc' := 7) (ls' := [(0, .inr (.inr (some 2))), (1, .inl (x1)), (2, .inl (x2)), (3, .inl (x3))]) (st' := [.inl (x3), .inl (x2)]) (nc' := 5) (np' := 3) (M' := M) 2 rfl ?_
    obtain ⟨hR, ⟨hc, h⟩ | ⟨hc, h⟩⟩ := c_ge_i h
    · refine ev_icmp 20 rfl hR.1 hR.2 (by decide) (fun _ => ?_) (fun q => absurd hc q)
      refine ev_k (pc' := 20) (ls' := [(0, .inr (.inr (some 2))), (1, .inl (x1)), (2, .inl (x2)), (3, .inl (x3))]) (st' := []) (nc' := 5) (np' := 3) (M' := M) 0 rfl ?_
      cases h
      exact ev_ret rfl
    · refine ev_icmp 20 rfl hR.1 hR.2 (by decide) (fun q => absurd q hc) (fun _ => ?_)
      refine ev_k (pc' := 13) (ls' := [(0, .inr (.inr (some 2))), (1, .inl (x1)), (2, .inl (x2)), (3, .inl (x3))]) (st' := [.inl (x1), .inl (x2), .inr (.inr (some 2))]) (nc' := 5) (np' := 3) (M' := M) 3 rfl ?_
      obtain ⟨hc, M1, eM, h⟩ := wa_i h
      refine ev_iast (k := 2) rfl (by decide) rfl hc eM ?_
      refine ev_k (pc' := 5) (ls' := [(0, .inr (.inr (some 2))), (1, .inl (x1)), (2, .inl ((x2) + (1))), (3, .inl (x3))]) (st' := []) (nc' := 5) (np' := 3) (M' := M1) 2 rfl ?_
      exact ih (x1) ((x2) + (1)) (x3) M1 r h
theorem J_fill_2_n5_e {L : Nat} {xs : Nat → Int} {d : Nat} (hd : 0 ≤ d)   (x1 : Int) (M : am_M) (r : am_M) (h : J_fill_2_n5   x1 M = some r) : am_Ev L xs d me_2 0 (am_ar1 0 [.inr (.inr (some 2)), .inl (x1)]) [] 5 3 M (none, 5, 3, r) := by
  refine ev_k (pc' := 5) (ls' := [(0, .inr (.inr (some 2))), (1, .inl (x1)), (2, .inl (0)), (3, .inl (((144 : Nat) : Int)))]) (st' := []) (nc' := 5) (np' := 3) (M' := M) 5 rfl ?_
  exact J_fill_2_n5_5_t hd     am_big (x1) (0) (((144 : Nat) : Int)) M r h
def Country_new_1_n2     (M : am_M) : Option (am_M) := nw M 2 fun M1 => nw M1 3 fun M2 => nw M2 4 fun M3 => fw M3 1 3 (1) fun M4 => fw M4 1 4 (600) fun M5 => ob (J_fill_2_n5 (2) M5) fun M6 => some (M6)
theorem Country_new_1_n2_e {L : Nat} {xs : Nat → Int} {d : Nat} (hd : 1 ≤ d)    (M : am_M) (r : am_M) (h : Country_new_1_n2    M = some r) : am_Ev L xs d me_1 0 (am_ar1 0 [.inr (.inr (some 1))]) [] 2 0 M (none, 5, 3, r) := by
  refine ev_k (pc' := 10) (ls' := [(0, .inr (.inr (some 1)))]) (st' := [.inr (.inr (some 2)), .inr (.inr (some 1))]) (nc' := 3) (np' := 0) (M' := am_zr M 2) 5 rfl ?_
  obtain ⟨M1, eM, h⟩ := nw_i h
  rw [← eM]
  refine ev_k (pc' := 19) (ls' := [(0, .inr (.inr (some 1)))]) (st' := [.inr (.inr (some 3)), .inr (.inr (some 1))]) (nc' := 4) (np' := 1) (M' := am_zr M1 3) 4 rfl ?_
  obtain ⟨M2, eM, h⟩ := nw_i h
  rw [← eM]
  refine ev_k (pc' := 27) (ls' := [(0, .inr (.inr (some 1)))]) (st' := [.inr (.inr (some 4)), .inr (.inr (some 1))]) (nc' := 5) (np' := 2) (M' := am_zr M2 4) 4 rfl ?_
  obtain ⟨M3, eM, h⟩ := nw_i h
  rw [← eM]
  refine ev_k (pc' := 35) (ls' := [(0, .inr (.inr (some 1)))]) (st' := []) (nc' := 5) (np' := 3) (M' := am_up M3 1 3 (1)) 4 rfl ?_
  obtain ⟨M4, eM, h⟩ := fw_i h
  rw [← eM]
  refine ev_k (pc' := 42) (ls' := [(0, .inr (.inr (some 1)))]) (st' := []) (nc' := 5) (np' := 3) (M' := am_up M4 1 4 (600)) 3 rfl ?_
  obtain ⟨M5, eM, h⟩ := fw_i h
  rw [← eM]
  refine ev_k (pc' := 47) (ls' := [(0, .inr (.inr (some 1)))]) (st' := [.inl (2), .inr (.inr (some 2))]) (nc' := 5) (np' := 3) (M' := M5) 3 rfl ?_
  obtain ⟨M6, hv, h⟩ := ob_i h
  refine ev_call (t := 2) (as := [.inr (.inr (some 2)), .inl (2)]) (rest := []) rfl rfl rfl (by omega) (J_fill_2_n5_e (by omega) (2) M5 _ hv) ?_
  refine ev_k (pc' := 50) (ls' := [(0, .inr (.inr (some 1)))]) (st' := []) (nc' := 5) (np' := 3) (M' := M6) 0 rfl ?_
  cases h
  exact ev_ret rfl
def Law_new_5_n6     (M : am_M) : Option (am_M) := nw M 6 fun M1 => nw M1 7 fun M2 => nw M2 8 fun M3 => nw M3 9 fun M4 => nw M4 10 fun M5 => nw M5 11 fun M6 => nw M6 12 fun M7 => nw M7 13 fun M8 => some (M8)
theorem Law_new_5_n6_e {L : Nat} {xs : Nat → Int} {d : Nat} (hd : 0 ≤ d)    (M : am_M) (r : am_M) (h : Law_new_5_n6    M = some r) : am_Ev L xs d me_3 0 (am_ar1 0 [.inr (.inr (some 5))]) [] 6 3 M (none, 14, 11, r) := by
  refine ev_k (pc' := 10) (ls' := [(0, .inr (.inr (some 5)))]) (st' := [.inr (.inr (some 6)), .inr (.inr (some 5))]) (nc' := 7) (np' := 3) (M' := am_zr M 6) 5 rfl ?_
  obtain ⟨M1, eM, h⟩ := nw_i h
  rw [← eM]
  refine ev_k (pc' := 19) (ls' := [(0, .inr (.inr (some 5)))]) (st' := [.inr (.inr (some 7)), .inr (.inr (some 5))]) (nc' := 8) (np' := 4) (M' := am_zr M1 7) 4 rfl ?_
  obtain ⟨M2, eM, h⟩ := nw_i h
  rw [← eM]
  refine ev_k (pc' := 27) (ls' := [(0, .inr (.inr (some 5)))]) (st' := [.inr (.inr (some 8)), .inr (.inr (some 5))]) (nc' := 9) (np' := 5) (M' := am_zr M2 8) 4 rfl ?_
  obtain ⟨M3, eM, h⟩ := nw_i h
  rw [← eM]
  refine ev_k (pc' := 35) (ls' := [(0, .inr (.inr (some 5)))]) (st' := [.inr (.inr (some 9)), .inr (.inr (some 5))]) (nc' := 10) (np' := 6) (M' := am_zr M3 9) 4 rfl ?_
  obtain ⟨M4, eM, h⟩ := nw_i h
  rw [← eM]
  refine ev_k (pc' := 43) (ls' := [(0, .inr (.inr (some 5)))]) (st' := [.inr (.inr (some 10)), .inr (.inr (some 5))]) (nc' := 11) (np' := 7) (M' := am_zr M4 10) 4 rfl ?_
  obtain ⟨M5, eM, h⟩ := nw_i h
  rw [← eM]
  refine ev_k (pc' := 51) (ls' := [(0, .inr (.inr (some 5)))]) (st' := [.inr (.inr (some 11)), .inr (.inr (some 5))]) (nc' := 12) (np' := 8) (M' := am_zr M5 11) 4 rfl ?_
  obtain ⟨M6, eM, h⟩ := nw_i h
  rw [← eM]
  refine ev_k (pc' := 59) (ls' := [(0, .inr (.inr (some 5)))]) (st' := [.inr (.inr (some 12)), .inr (.inr (some 5))]) (nc' := 13) (np' := 9) (M' := am_zr M6 12) 4 rfl ?_
  obtain ⟨M7, eM, h⟩ := nw_i h
  rw [← eM]
  refine ev_k (pc' := 67) (ls' := [(0, .inr (.inr (some 5)))]) (st' := [.inr (.inr (some 13)), .inr (.inr (some 5))]) (nc' := 14) (np' := 10) (M' := am_zr M7 13) 4 rfl ?_
  obtain ⟨M8, eM, h⟩ := nw_i h
  rw [← eM]
  refine ev_k (pc' := 70) (ls' := [(0, .inr (.inr (some 5)))]) (st' := []) (nc' := 14) (np' := 11) (M' := M8) 1 rfl ?_
  cases h
  exact ev_ret rfl
def Tape_new_n15     (M : am_M) : Option (am_M) := nw M 15 fun M1 => some (M1)
theorem Tape_new_n15_e {L : Nat} {xs : Nat → Int} {d : Nat} (hd : 0 ≤ d)    (M : am_M) (r : am_M) (h : Tape_new_n15    M = some r) : am_Ev L xs d me_4 0 (am_ar1 0 [.inr (.inr (some 14))]) [] 15 11 M (none, 16, 12, r) := by
  refine ev_k (pc' := 10) (ls' := [(0, .inr (.inr (some 14)))]) (st' := [.inr (.inr (some 15)), .inr (.inr (some 14))]) (nc' := 16) (np' := 11) (M' := am_zr M 15) 5 rfl ?_
  obtain ⟨M1, eM, h⟩ := nw_i h
  rw [← eM]
  refine ev_k (pc' := 13) (ls' := [(0, .inr (.inr (some 14)))]) (st' := []) (nc' := 16) (np' := 12) (M' := M1) 1 rfl ?_
  cases h
  exact ev_ret rfl
def Law_new_17_n18     (M : am_M) : Option (am_M) := nw M 18 fun M1 => nw M1 19 fun M2 => nw M2 20 fun M3 => nw M3 21 fun M4 => nw M4 22 fun M5 => nw M5 23 fun M6 => nw M6 24 fun M7 => nw M7 25 fun M8 => some (M8)
theorem Law_new_17_n18_e {L : Nat} {xs : Nat → Int} {d : Nat} (hd : 0 ≤ d)    (M : am_M) (r : am_M) (h : Law_new_17_n18    M = some r) : am_Ev L xs d me_3 0 (am_ar1 0 [.inr (.inr (some 17))]) [] 18 15 M (none, 26, 23, r) := by
  refine ev_k (pc' := 10) (ls' := [(0, .inr (.inr (some 17)))]) (st' := [.inr (.inr (some 18)), .inr (.inr (some 17))]) (nc' := 19) (np' := 15) (M' := am_zr M 18) 5 rfl ?_
  obtain ⟨M1, eM, h⟩ := nw_i h
  rw [← eM]
  refine ev_k (pc' := 19) (ls' := [(0, .inr (.inr (some 17)))]) (st' := [.inr (.inr (some 19)), .inr (.inr (some 17))]) (nc' := 20) (np' := 16) (M' := am_zr M1 19) 4 rfl ?_
  obtain ⟨M2, eM, h⟩ := nw_i h
  rw [← eM]
  refine ev_k (pc' := 27) (ls' := [(0, .inr (.inr (some 17)))]) (st' := [.inr (.inr (some 20)), .inr (.inr (some 17))]) (nc' := 21) (np' := 17) (M' := am_zr M2 20) 4 rfl ?_
  obtain ⟨M3, eM, h⟩ := nw_i h
  rw [← eM]
  refine ev_k (pc' := 35) (ls' := [(0, .inr (.inr (some 17)))]) (st' := [.inr (.inr (some 21)), .inr (.inr (some 17))]) (nc' := 22) (np' := 18) (M' := am_zr M3 21) 4 rfl ?_
  obtain ⟨M4, eM, h⟩ := nw_i h
  rw [← eM]
  refine ev_k (pc' := 43) (ls' := [(0, .inr (.inr (some 17)))]) (st' := [.inr (.inr (some 22)), .inr (.inr (some 17))]) (nc' := 23) (np' := 19) (M' := am_zr M4 22) 4 rfl ?_
  obtain ⟨M5, eM, h⟩ := nw_i h
  rw [← eM]
  refine ev_k (pc' := 51) (ls' := [(0, .inr (.inr (some 17)))]) (st' := [.inr (.inr (some 23)), .inr (.inr (some 17))]) (nc' := 24) (np' := 20) (M' := am_zr M5 23) 4 rfl ?_
  obtain ⟨M6, eM, h⟩ := nw_i h
  rw [← eM]
  refine ev_k (pc' := 59) (ls' := [(0, .inr (.inr (some 17)))]) (st' := [.inr (.inr (some 24)), .inr (.inr (some 17))]) (nc' := 25) (np' := 21) (M' := am_zr M6 24) 4 rfl ?_
  obtain ⟨M7, eM, h⟩ := nw_i h
  rw [← eM]
  refine ev_k (pc' := 67) (ls' := [(0, .inr (.inr (some 17)))]) (st' := [.inr (.inr (some 25)), .inr (.inr (some 17))]) (nc' := 26) (np' := 22) (M' := am_zr M7 25) 4 rfl ?_
  obtain ⟨M8, eM, h⟩ := nw_i h
  rw [← eM]
  refine ev_k (pc' := 70) (ls' := [(0, .inr (.inr (some 17)))]) (st' := []) (nc' := 26) (np' := 23) (M' := M8) 1 rfl ?_
  cases h
  exact ev_ret rfl
def LawReader_new_16_n17     (M : am_M) : Option (am_M) := nw M 17 fun M1 => ob (Law_new_17_n18  M1) fun M2 => some (M2)
theorem LawReader_new_16_n17_e {L : Nat} {xs : Nat → Int} {d : Nat} (hd : 1 ≤ d)    (M : am_M) (r : am_M) (h : LawReader_new_16_n17    M = some r) : am_Ev L xs d me_5 0 (am_ar1 0 [.inr (.inr (some 16))]) [] 17 15 M (none, 26, 24, r) := by
  refine ev_k (pc' := 8) (ls' := [(0, .inr (.inr (some 16)))]) (st' := [.inr (.inr (some 17)), .inr (.inr (some 16))]) (nc' := 18) (np' := 15) (M' := am_zr M 17) 4 rfl ?_
  obtain ⟨M1, eM, h⟩ := nw_i h
  rw [← eM]
  refine ev_k (pc' := 9) (ls' := [(0, .inr (.inr (some 16)))]) (st' := [.inr (.inr (some 17)), .inr (.inr (some 17)), .inr (.inr (some 16))]) (nc' := 18) (np' := 15) (M' := M1) 1 rfl ?_
  obtain ⟨M2, hv, h⟩ := ob_i h
  refine ev_call (t := 3) (as := [.inr (.inr (some 17))]) (rest := [.inr (.inr (some 17)), .inr (.inr (some 16))]) rfl rfl rfl (by omega) (Law_new_17_n18_e (by omega)  M1 _ hv) ?_
  refine ev_k (pc' := 15) (ls' := [(0, .inr (.inr (some 16)))]) (st' := []) (nc' := 26) (np' := 24) (M' := M2) 1 rfl ?_
  cases h
  exact ev_ret rfl
def J_fill_33_n34_5    : Nat → Int → Int → Int → am_M → Option (am_M)
  | 0, _, _, _, _ => none
  | n + 1, x1, x2, x3, M => c_ge (x2) (x3)
       (some (M))
       (wa M 33 144 (x2) (x1) fun M1 => (J_fill_33_n34_5    n (x1) ((x2) + (1)) (x3) M1))
def J_fill_33_n34    (x1 : Int) (M : am_M) : Option (am_M) := (J_fill_33_n34_5    am_big (x1) (0) (((144 : Nat) : Int)) M)
theorem J_fill_33_n34_5_t {L : Nat} {xs : Nat → Int} {d : Nat} (hd : 0 ≤ d)     : ∀ (n : Nat) (x1 : Int) (x2 : Int) (x3 : Int) (M : am_M) (r : am_M), J_fill_33_n34_5    n x1 x2 x3 M = some r → am_Ev L xs d me_2 5 [(0, .inr (.inr (some 33))), (1, .inl (x1)), (2, .inl (x2)), (3, .inl (x3))] [] 34 34 M (none, 34, 34, r)
  | 0, _, _, _, M, r, h => by cases h
  | n + 1, x1, x2, x3, M, r, h => by
    have ih := J_fill_33_n34_5_t (L := L) (xs := xs) hd     n
    refine ev_k (pc' := 7) (ls' := [(0, .inr (.inr (some 33))), (1, .inl (x1)), (2, .inl (x2)), (3, .inl (x3))]) (st' := [.inl (x3), .inl (x2)]) (nc' := 34) (np' := 34) (M' := M) 2 rfl ?_
    obtain ⟨hR, ⟨hc, h⟩ | ⟨hc, h⟩⟩ := c_ge_i h
    · refine ev_icmp 20 rfl hR.1 hR.2 (by decide) (fun _ => ?_) (fun q => absurd hc q)
      refine ev_k (pc' := 20) (ls' := [(0, .inr (.inr (some 33))), (1, .inl (x1)), (2, .inl (x2)), (3, .inl (x3))]) (st' := []) (nc' := 34) (np' := 34) (M' := M) 0 rfl ?_
      cases h
      exact ev_ret rfl
    · refine ev_icmp 20 rfl hR.1 hR.2 (by decide) (fun q => absurd q hc) (fun _ => ?_)
      refine ev_k (pc' := 13) (ls' := [(0, .inr (.inr (some 33))), (1, .inl (x1)), (2, .inl (x2)), (3, .inl (x3))]) (st' := [.inl (x1), .inl (x2), .inr (.inr (some 33))]) (nc' := 34) (np' := 34) (M' := M) 3 rfl ?_
      obtain ⟨hc, M1, eM, h⟩ := wa_i h
      refine ev_iast (k := 33) rfl (by decide) rfl hc eM ?_
      refine ev_k (pc' := 5) (ls' := [(0, .inr (.inr (some 33))), (1, .inl (x1)), (2, .inl ((x2) + (1))), (3, .inl (x3))]) (st' := []) (nc' := 34) (np' := 34) (M' := M1) 2 rfl ?_
      exact ih (x1) ((x2) + (1)) (x3) M1 r h
theorem J_fill_33_n34_e {L : Nat} {xs : Nat → Int} {d : Nat} (hd : 0 ≤ d)   (x1 : Int) (M : am_M) (r : am_M) (h : J_fill_33_n34   x1 M = some r) : am_Ev L xs d me_2 0 (am_ar1 0 [.inr (.inr (some 33)), .inl (x1)]) [] 34 34 M (none, 34, 34, r) := by
  refine ev_k (pc' := 5) (ls' := [(0, .inr (.inr (some 33))), (1, .inl (x1)), (2, .inl (0)), (3, .inl (((144 : Nat) : Int)))]) (st' := []) (nc' := 34) (np' := 34) (M' := M) 5 rfl ?_
  exact J_fill_33_n34_5_t hd     am_big (x1) (0) (((144 : Nat) : Int)) M r h
def Country_isCell_n34_16    (s0 : Int) (M : am_M) : Option (Int) := ck ((s0) = 0 ∨ (s0) = 1) (some (s0))
def Country_isCell_n34_15     (M : am_M) : Option (Int) := (Country_isCell_n34_16    (0) M)
def Country_isCell_n34    (x0 : Int) (M : am_M) : Option (Int) := c_lt (x0) (0)
       (Country_isCell_n34_15     M)
       (c_ge (x0) (144)
       (Country_isCell_n34_15     M)
       ((Country_isCell_n34_16    (1) M)))
theorem Country_isCell_n34_16_t {L : Nat} {xs : Nat → Int} {d : Nat} (hd : 0 ≤ d)     (s0 : Int) (M : am_M) (r : Int) (h : Country_isCell_n34_16    s0 M = some r) : am_Ev L xs d me_9 16 [] [.inl (s0)] 34 34 M (some (.inl r), 34, 34, M) := by
  refine ev_k (pc' := 16) (ls' := []) (st' := [.inl (s0)]) (nc' := 34) (np' := 34) (M' := M) 0 rfl ?_
  obtain ⟨hc, h⟩ := ck_i h
  cases h
  exact ev_retz rfl rfl hc
theorem Country_isCell_n34_15_t {L : Nat} {xs : Nat → Int} {d : Nat} (hd : 0 ≤ d)      (M : am_M) (r : Int) (h : Country_isCell_n34_15     M = some r) : am_Ev L xs d me_9 15 [] [] 34 34 M (some (.inl r), 34, 34, M) := by
  refine ev_k (pc' := 16) (ls' := []) (st' := [.inl (0)]) (nc' := 34) (np' := 34) (M' := M) 1 rfl ?_
  exact Country_isCell_n34_16_t hd     (0) M r h
theorem Country_isCell_n34_e {L : Nat} {xs : Nat → Int} {d : Nat} (hd : 0 ≤ d)   (x0 : Int) (M : am_M) (r : Int) (h : Country_isCell_n34   x0 M = some r) : am_Ev L xs d me_9 0 (am_ar1 0 [.inl (x0)]) [] 34 34 M (some (.inl r), 34, 34, M) := by
  refine ev_k (pc' := 1) (ls' := [(0, .inl (x0))]) (st' := [.inl (x0)]) (nc' := 34) (np' := 34) (M' := M) 1 rfl ?_
  obtain ⟨hR, ⟨hc, h⟩ | ⟨hc, h⟩⟩ := c_lt_i h
  · refine ev_ifc 15 rfl hR.1 (by decide) (fun _ => ?_) (fun q => absurd hc q)
    exact Country_isCell_n34_15_t hd      M r h
  · refine ev_ifc 15 rfl hR.1 (by decide) (fun q => absurd q hc) (fun _ => ?_)
    refine ev_k (pc' := 8) (ls' := [(0, .inl (x0))]) (st' := [.inl (144), .inl (x0)]) (nc' := 34) (np' := 34) (M' := M) 2 rfl ?_
    obtain ⟨hR, ⟨hc, h⟩ | ⟨hc, h⟩⟩ := c_ge_i h
    · refine ev_icmp 15 rfl hR.1 hR.2 (by decide) (fun _ => ?_) (fun q => absurd hc q)
      exact Country_isCell_n34_15_t hd      M r h
    · refine ev_icmp 15 rfl hR.1 hR.2 (by decide) (fun q => absurd q hc) (fun _ => ?_)
      refine ev_k (pc' := 16) (ls' := []) (st' := [.inl (1)]) (nc' := 34) (np' := 34) (M' := M) 2 rfl ?_
      exact Country_isCell_n34_16_t hd     (1) M r h
def Trip_append_26_n34_97     (M : am_M) : Option (am_M) := some (M)
def Trip_append_26_n34    (x1 : Int) (M : am_M) : Option (am_M) := c_ge (M 26 10) (100)
       (Trip_append_26_n34_97     M)
       (ob (Country_isCell_n34 (x1) M) fun v1 => c_eq (v1) (0)
       (Trip_append_26_n34_97     M)
       (wa M 28 100 (M 26 10) (x1) fun M2 => wa M2 29 100 (M2 26 10) (M2 1 3) fun M3 => wa M3 30 100 (M3 26 10) (0) fun M4 => wa M4 31 100 (M4 26 10) (0) fun M5 => wa M5 32 100 (M5 26 10) (0) fun M6 => wa M6 33 144 (x1) (1) fun M7 => fw M7 26 11 (M7 26 10) fun M8 => fw M8 26 10 ((M8 26 10) + (1)) fun M9 => (Trip_append_26_n34_97     M9)))
theorem Trip_append_26_n34_97_t {L : Nat} {xs : Nat → Int} {d : Nat} (hd : 1 ≤ d)      (M : am_M) (r : am_M) (h : Trip_append_26_n34_97     M = some r) : am_Ev L xs d me_8 97 [] [] 34 34 M (none, 34, 34, r) := by
  refine ev_k (pc' := 97) (ls' := []) (st' := []) (nc' := 34) (np' := 34) (M' := M) 0 rfl ?_
  cases h
  exact ev_ret rfl
theorem Trip_append_26_n34_e {L : Nat} {xs : Nat → Int} {d : Nat} (hd : 1 ≤ d)   (x1 : Int) (M : am_M) (r : am_M) (h : Trip_append_26_n34   x1 M = some r) : am_Ev L xs d me_8 0 (am_ar1 0 [.inr (.inr (some 26)), .inl (x1)]) [] 34 34 M (none, 34, 34, r) := by
  refine ev_k (pc' := 6) (ls' := [(0, .inr (.inr (some 26))), (1, .inl (x1))]) (st' := [.inl (100), .inl (M 26 10)]) (nc' := 34) (np' := 34) (M' := M) 3 rfl ?_
  obtain ⟨hR, ⟨hc, h⟩ | ⟨hc, h⟩⟩ := c_ge_i h
  · refine ev_icmp 97 rfl hR.1 hR.2 (by decide) (fun _ => ?_) (fun q => absurd hc q)
    exact Trip_append_26_n34_97_t hd      M r h
  · refine ev_icmp 97 rfl hR.1 hR.2 (by decide) (fun q => absurd q hc) (fun _ => ?_)
    refine ev_k (pc' := 10) (ls' := [(0, .inr (.inr (some 26))), (1, .inl (x1))]) (st' := [.inl (x1)]) (nc' := 34) (np' := 34) (M' := M) 1 rfl ?_
    obtain ⟨v1, hv, h⟩ := ob_i h
    refine ev_call (t := 9) (as := [.inl (x1)]) (rest := []) rfl rfl rfl (by omega) (Country_isCell_n34_e (by omega) (x1) M _ hv) ?_
    refine ev_k (pc' := 13) (ls' := [(0, .inr (.inr (some 26))), (1, .inl (x1))]) (st' := [.inl (v1)]) (nc' := 34) (np' := 34) (M' := M) 0 rfl ?_
    obtain ⟨hR, ⟨hc, h⟩ | ⟨hc, h⟩⟩ := c_eq_i h
    · refine ev_ifc 97 rfl hR.1 (by decide) (fun _ => ?_) (fun q => absurd hc q)
      exact Trip_append_26_n34_97_t hd      M r h
    · refine ev_ifc 97 rfl hR.1 (by decide) (fun q => absurd q hc) (fun _ => ?_)
      refine ev_k (pc' := 25) (ls' := [(0, .inr (.inr (some 26))), (1, .inl (x1))]) (st' := [.inl (x1), .inl (M 26 10), .inr (.inr (some 28))]) (nc' := 34) (np' := 34) (M' := M) 5 rfl ?_
      obtain ⟨hc, M2, eM, h⟩ := wa_i h
      refine ev_iast (k := 28) rfl (by decide) rfl hc eM ?_
      refine ev_k (pc' := 41) (ls' := [(0, .inr (.inr (some 26))), (1, .inl (x1))]) (st' := [.inl (M2 1 3), .inl (M2 26 10), .inr (.inr (some 29))]) (nc' := 34) (np' := 34) (M' := M2) 7 rfl ?_
      obtain ⟨hc, M3, eM, h⟩ := wa_i h
      refine ev_iast (k := 29) rfl (by decide) rfl hc eM ?_
      refine ev_k (pc' := 51) (ls' := [(0, .inr (.inr (some 26))), (1, .inl (x1))]) (st' := [.inl (0), .inl (M3 26 10), .inr (.inr (some 30))]) (nc' := 34) (np' := 34) (M' := M3) 5 rfl ?_
      obtain ⟨hc, M4, eM, h⟩ := wa_i h
      refine ev_iast (k := 30) rfl (by decide) rfl hc eM ?_
      refine ev_k (pc' := 61) (ls' := [(0, .inr (.inr (some 26))), (1, .inl (x1))]) (st' := [.inl (0), .inl (M4 26 10), .inr (.inr (some 31))]) (nc' := 34) (np' := 34) (M' := M4) 5 rfl ?_
      obtain ⟨hc, M5, eM, h⟩ := wa_i h
      refine ev_iast (k := 31) rfl (by decide) rfl hc eM ?_
      refine ev_k (pc' := 71) (ls' := [(0, .inr (.inr (some 26))), (1, .inl (x1))]) (st' := [.inl (0), .inl (M5 26 10), .inr (.inr (some 32))]) (nc' := 34) (np' := 34) (M' := M5) 5 rfl ?_
      obtain ⟨hc, M6, eM, h⟩ := wa_i h
      refine ev_iast (k := 32) rfl (by decide) rfl hc eM ?_
      refine ev_k (pc' := 78) (ls' := [(0, .inr (.inr (some 26))), (1, .inl (x1))]) (st' := [.inl (1), .inl (x1), .inr (.inr (some 33))]) (nc' := 34) (np' := 34) (M' := M6) 4 rfl ?_
      obtain ⟨hc, M7, eM, h⟩ := wa_i h
      refine ev_iast (k := 33) rfl (by decide) rfl hc eM ?_
      refine ev_k (pc' := 87) (ls' := [(0, .inr (.inr (some 26))), (1, .inl (x1))]) (st' := []) (nc' := 34) (np' := 34) (M' := am_up M7 26 11 (M7 26 10)) 4 rfl ?_
      obtain ⟨M8, eM, h⟩ := fw_i h
      rw [← eM]
      refine ev_k (pc' := 97) (ls' := []) (st' := []) (nc' := 34) (np' := 34) (M' := am_up M8 26 10 ((M8 26 10) + (1))) 6 rfl ?_
      obtain ⟨M9, eM, h⟩ := fw_i h
      rw [← eM]
      exact Trip_append_26_n34_97_t hd      M9 r h
def Trip_beginAt_26_n34    (x1 : Int) (M : am_M) : Option (am_M) := ob (J_fill_33_n34 (0) M) fun M1 => fw M1 26 10 (0) fun M2 => ob (Trip_append_26_n34 (x1) M2) fun M3 => some (M3)
theorem Trip_beginAt_26_n34_e {L : Nat} {xs : Nat → Int} {d : Nat} (hd : 2 ≤ d)   (x1 : Int) (M : am_M) (r : am_M) (h : Trip_beginAt_26_n34   x1 M = some r) : am_Ev L xs d me_7 0 (am_ar1 0 [.inr (.inr (some 26)), .inl (x1)]) [] 34 34 M (none, 34, 34, r) := by
  refine ev_k (pc' := 5) (ls' := [(0, .inr (.inr (some 26))), (1, .inl (x1))]) (st' := [.inl (0), .inr (.inr (some 33))]) (nc' := 34) (np' := 34) (M' := M) 3 rfl ?_
  obtain ⟨M1, hv, h⟩ := ob_i h
  refine ev_call (t := 2) (as := [.inr (.inr (some 33)), .inl (0)]) (rest := []) rfl rfl rfl (by omega) (J_fill_33_n34_e (by omega) (0) M _ hv) ?_
  refine ev_k (pc' := 13) (ls' := [(0, .inr (.inr (some 26))), (1, .inl (x1))]) (st' := []) (nc' := 34) (np' := 34) (M' := am_up M1 26 10 (0)) 3 rfl ?_
  obtain ⟨M2, eM, h⟩ := fw_i h
  rw [← eM]
  refine ev_k (pc' := 15) (ls' := [(0, .inr (.inr (some 26))), (1, .inl (x1))]) (st' := [.inl (x1), .inr (.inr (some 26))]) (nc' := 34) (np' := 34) (M' := M2) 2 rfl ?_
  obtain ⟨M3, hv, h⟩ := ob_i h
  refine ev_call (t := 8) (as := [.inr (.inr (some 26)), .inl (x1)]) (rest := []) rfl rfl rfl (by omega) (Trip_append_26_n34_e (by omega) (x1) M2 _ hv) ?_
  refine ev_k (pc' := 18) (ls' := [(0, .inr (.inr (some 26))), (1, .inl (x1))]) (st' := []) (nc' := 34) (np' := 34) (M' := M3) 0 rfl ?_
  cases h
  exact ev_ret rfl
def Trip_new_26_1_5_n27     (M : am_M) : Option (am_M) := nw M 27 fun M1 => nw M1 28 fun M2 => nw M2 29 fun M3 => nw M3 30 fun M4 => nw M4 31 fun M5 => nw M5 32 fun M6 => nw M6 33 fun M7 => fw M7 26 9 (-2) fun M8 => fw M8 26 14 (1) fun M9 => ob (Trip_beginAt_26_n34 (0) M9) fun M10 => some (M10)
theorem Trip_new_26_1_5_n27_e {L : Nat} {xs : Nat → Int} {d : Nat} (hd : 3 ≤ d)    (M : am_M) (r : am_M) (h : Trip_new_26_1_5_n27    M = some r) : am_Ev L xs d me_6 0 (am_ar1 0 [.inr (.inr (some 26)), .inr (.inr (some 1)), .inr (.inr (some 5))]) [] 27 25 M (none, 34, 34, r) := by
  refine ev_k (pc' := 9) (ls' := [(0, .inr (.inr (some 26))), (1, .inr (.inr (some 1))), (2, .inr (.inr (some 5)))]) (st' := [.inr (.inr (some 27)), .inr (.inr (some 26))]) (nc' := 28) (np' := 25) (M' := am_zr M 27) 5 rfl ?_
  obtain ⟨M1, eM, h⟩ := nw_i h
  rw [← eM]
  refine ev_k (pc' := 17) (ls' := [(0, .inr (.inr (some 26))), (1, .inr (.inr (some 1))), (2, .inr (.inr (some 5)))]) (st' := [.inr (.inr (some 28)), .inr (.inr (some 26))]) (nc' := 29) (np' := 26) (M' := am_zr M1 28) 4 rfl ?_
  obtain ⟨M2, eM, h⟩ := nw_i h
  rw [← eM]
  refine ev_k (pc' := 25) (ls' := [(0, .inr (.inr (some 26))), (1, .inr (.inr (some 1))), (2, .inr (.inr (some 5)))]) (st' := [.inr (.inr (some 29)), .inr (.inr (some 26))]) (nc' := 30) (np' := 27) (M' := am_zr M2 29) 4 rfl ?_
  obtain ⟨M3, eM, h⟩ := nw_i h
  rw [← eM]
  refine ev_k (pc' := 33) (ls' := [(0, .inr (.inr (some 26))), (1, .inr (.inr (some 1))), (2, .inr (.inr (some 5)))]) (st' := [.inr (.inr (some 30)), .inr (.inr (some 26))]) (nc' := 31) (np' := 28) (M' := am_zr M3 30) 4 rfl ?_
  obtain ⟨M4, eM, h⟩ := nw_i h
  rw [← eM]
  refine ev_k (pc' := 41) (ls' := [(0, .inr (.inr (some 26))), (1, .inr (.inr (some 1))), (2, .inr (.inr (some 5)))]) (st' := [.inr (.inr (some 31)), .inr (.inr (some 26))]) (nc' := 32) (np' := 29) (M' := am_zr M4 31) 4 rfl ?_
  obtain ⟨M5, eM, h⟩ := nw_i h
  rw [← eM]
  refine ev_k (pc' := 49) (ls' := [(0, .inr (.inr (some 26))), (1, .inr (.inr (some 1))), (2, .inr (.inr (some 5)))]) (st' := [.inr (.inr (some 32)), .inr (.inr (some 26))]) (nc' := 33) (np' := 30) (M' := am_zr M5 32) 4 rfl ?_
  obtain ⟨M6, eM, h⟩ := nw_i h
  rw [← eM]
  refine ev_k (pc' := 58) (ls' := [(0, .inr (.inr (some 26))), (1, .inr (.inr (some 1))), (2, .inr (.inr (some 5)))]) (st' := [.inr (.inr (some 33)), .inr (.inr (some 26))]) (nc' := 34) (np' := 31) (M' := am_zr M6 33) 4 rfl ?_
  obtain ⟨M7, eM, h⟩ := nw_i h
  rw [← eM]
  refine ev_k (pc' := 67) (ls' := [(0, .inr (.inr (some 26))), (1, .inr (.inr (some 1))), (2, .inr (.inr (some 5)))]) (st' := []) (nc' := 34) (np' := 32) (M' := am_up M7 26 9 (-2)) 4 rfl ?_
  obtain ⟨M8, eM, h⟩ := fw_i h
  rw [← eM]
  refine ev_k (pc' := 72) (ls' := [(0, .inr (.inr (some 26))), (1, .inr (.inr (some 1))), (2, .inr (.inr (some 5)))]) (st' := []) (nc' := 34) (np' := 32) (M' := am_up M8 26 14 (1)) 3 rfl ?_
  obtain ⟨M9, eM, h⟩ := fw_i h
  rw [← eM]
  refine ev_k (pc' := 84) (ls' := [(0, .inr (.inr (some 26))), (1, .inr (.inr (some 1))), (2, .inr (.inr (some 5)))]) (st' := [.inl (0), .inr (.inr (some 26))]) (nc' := 34) (np' := 34) (M' := M9) 8 rfl ?_
  obtain ⟨M10, hv, h⟩ := ob_i h
  refine ev_call (t := 7) (as := [.inr (.inr (some 26)), .inl (0)]) (rest := []) rfl rfl rfl (by omega) (Trip_beginAt_26_n34_e (by omega) (0) M9 _ hv) ?_
  refine ev_k (pc' := 87) (ls' := [(0, .inr (.inr (some 26))), (1, .inr (.inr (some 1))), (2, .inr (.inr (some 5)))]) (st' := []) (nc' := 34) (np' := 34) (M' := M10) 0 rfl ?_
  cases h
  exact ev_ret rfl
def J_fill_41_n42_5    : Nat → Int → Int → Int → am_M → Option (am_M)
  | 0, _, _, _, _ => none
  | n + 1, x1, x2, x3, M => c_ge (x2) (x3)
       (some (M))
       (wa M 41 144 (x2) (x1) fun M1 => (J_fill_41_n42_5    n (x1) ((x2) + (1)) (x3) M1))
def J_fill_41_n42    (x1 : Int) (M : am_M) : Option (am_M) := (J_fill_41_n42_5    am_big (x1) (0) (((144 : Nat) : Int)) M)
theorem J_fill_41_n42_5_t {L : Nat} {xs : Nat → Int} {d : Nat} (hd : 0 ≤ d)     : ∀ (n : Nat) (x1 : Int) (x2 : Int) (x3 : Int) (M : am_M) (r : am_M), J_fill_41_n42_5    n x1 x2 x3 M = some r → am_Ev L xs d me_2 5 [(0, .inr (.inr (some 41))), (1, .inl (x1)), (2, .inl (x2)), (3, .inl (x3))] [] 42 44 M (none, 42, 44, r)
  | 0, _, _, _, M, r, h => by cases h
  | n + 1, x1, x2, x3, M, r, h => by
    have ih := J_fill_41_n42_5_t (L := L) (xs := xs) hd     n
    refine ev_k (pc' := 7) (ls' := [(0, .inr (.inr (some 41))), (1, .inl (x1)), (2, .inl (x2)), (3, .inl (x3))]) (st' := [.inl (x3), .inl (x2)]) (nc' := 42) (np' := 44) (M' := M) 2 rfl ?_
    obtain ⟨hR, ⟨hc, h⟩ | ⟨hc, h⟩⟩ := c_ge_i h
    · refine ev_icmp 20 rfl hR.1 hR.2 (by decide) (fun _ => ?_) (fun q => absurd hc q)
      refine ev_k (pc' := 20) (ls' := [(0, .inr (.inr (some 41))), (1, .inl (x1)), (2, .inl (x2)), (3, .inl (x3))]) (st' := []) (nc' := 42) (np' := 44) (M' := M) 0 rfl ?_
      cases h
      exact ev_ret rfl
    · refine ev_icmp 20 rfl hR.1 hR.2 (by decide) (fun q => absurd q hc) (fun _ => ?_)
      refine ev_k (pc' := 13) (ls' := [(0, .inr (.inr (some 41))), (1, .inl (x1)), (2, .inl (x2)), (3, .inl (x3))]) (st' := [.inl (x1), .inl (x2), .inr (.inr (some 41))]) (nc' := 42) (np' := 44) (M' := M) 3 rfl ?_
      obtain ⟨hc, M1, eM, h⟩ := wa_i h
      refine ev_iast (k := 41) rfl (by decide) rfl hc eM ?_
      refine ev_k (pc' := 5) (ls' := [(0, .inr (.inr (some 41))), (1, .inl (x1)), (2, .inl ((x2) + (1))), (3, .inl (x3))]) (st' := []) (nc' := 42) (np' := 44) (M' := M1) 2 rfl ?_
      exact ih (x1) ((x2) + (1)) (x3) M1 r h
theorem J_fill_41_n42_e {L : Nat} {xs : Nat → Int} {d : Nat} (hd : 0 ≤ d)   (x1 : Int) (M : am_M) (r : am_M) (h : J_fill_41_n42   x1 M = some r) : am_Ev L xs d me_2 0 (am_ar1 0 [.inr (.inr (some 41)), .inl (x1)]) [] 42 44 M (none, 42, 44, r) := by
  refine ev_k (pc' := 5) (ls' := [(0, .inr (.inr (some 41))), (1, .inl (x1)), (2, .inl (0)), (3, .inl (((144 : Nat) : Int)))]) (st' := []) (nc' := 42) (np' := 44) (M' := M) 5 rfl ?_
  exact J_fill_41_n42_5_t hd     am_big (x1) (0) (((144 : Nat) : Int)) M r h
def Country_isCell_n42_16    (s0 : Int) (M : am_M) : Option (Int) := ck ((s0) = 0 ∨ (s0) = 1) (some (s0))
def Country_isCell_n42_15     (M : am_M) : Option (Int) := (Country_isCell_n42_16    (0) M)
def Country_isCell_n42    (x0 : Int) (M : am_M) : Option (Int) := c_lt (x0) (0)
       (Country_isCell_n42_15     M)
       (c_ge (x0) (144)
       (Country_isCell_n42_15     M)
       ((Country_isCell_n42_16    (1) M)))
theorem Country_isCell_n42_16_t {L : Nat} {xs : Nat → Int} {d : Nat} (hd : 0 ≤ d)     (s0 : Int) (M : am_M) (r : Int) (h : Country_isCell_n42_16    s0 M = some r) : am_Ev L xs d me_9 16 [] [.inl (s0)] 42 44 M (some (.inl r), 42, 44, M) := by
  refine ev_k (pc' := 16) (ls' := []) (st' := [.inl (s0)]) (nc' := 42) (np' := 44) (M' := M) 0 rfl ?_
  obtain ⟨hc, h⟩ := ck_i h
  cases h
  exact ev_retz rfl rfl hc
theorem Country_isCell_n42_15_t {L : Nat} {xs : Nat → Int} {d : Nat} (hd : 0 ≤ d)      (M : am_M) (r : Int) (h : Country_isCell_n42_15     M = some r) : am_Ev L xs d me_9 15 [] [] 42 44 M (some (.inl r), 42, 44, M) := by
  refine ev_k (pc' := 16) (ls' := []) (st' := [.inl (0)]) (nc' := 42) (np' := 44) (M' := M) 1 rfl ?_
  exact Country_isCell_n42_16_t hd     (0) M r h
theorem Country_isCell_n42_e {L : Nat} {xs : Nat → Int} {d : Nat} (hd : 0 ≤ d)   (x0 : Int) (M : am_M) (r : Int) (h : Country_isCell_n42   x0 M = some r) : am_Ev L xs d me_9 0 (am_ar1 0 [.inl (x0)]) [] 42 44 M (some (.inl r), 42, 44, M) := by
  refine ev_k (pc' := 1) (ls' := [(0, .inl (x0))]) (st' := [.inl (x0)]) (nc' := 42) (np' := 44) (M' := M) 1 rfl ?_
  obtain ⟨hR, ⟨hc, h⟩ | ⟨hc, h⟩⟩ := c_lt_i h
  · refine ev_ifc 15 rfl hR.1 (by decide) (fun _ => ?_) (fun q => absurd hc q)
    exact Country_isCell_n42_15_t hd      M r h
  · refine ev_ifc 15 rfl hR.1 (by decide) (fun q => absurd q hc) (fun _ => ?_)
    refine ev_k (pc' := 8) (ls' := [(0, .inl (x0))]) (st' := [.inl (144), .inl (x0)]) (nc' := 42) (np' := 44) (M' := M) 2 rfl ?_
    obtain ⟨hR, ⟨hc, h⟩ | ⟨hc, h⟩⟩ := c_ge_i h
    · refine ev_icmp 15 rfl hR.1 hR.2 (by decide) (fun _ => ?_) (fun q => absurd hc q)
      exact Country_isCell_n42_15_t hd      M r h
    · refine ev_icmp 15 rfl hR.1 hR.2 (by decide) (fun q => absurd q hc) (fun _ => ?_)
      refine ev_k (pc' := 16) (ls' := []) (st' := [.inl (1)]) (nc' := 42) (np' := 44) (M' := M) 2 rfl ?_
      exact Country_isCell_n42_16_t hd     (1) M r h
def Trip_append_34_n42_97     (M : am_M) : Option (am_M) := some (M)
def Trip_append_34_n42    (x1 : Int) (M : am_M) : Option (am_M) := c_ge (M 34 10) (100)
       (Trip_append_34_n42_97     M)
       (ob (Country_isCell_n42 (x1) M) fun v1 => c_eq (v1) (0)
       (Trip_append_34_n42_97     M)
       (wa M 36 100 (M 34 10) (x1) fun M2 => wa M2 37 100 (M2 34 10) (M2 1 3) fun M3 => wa M3 38 100 (M3 34 10) (0) fun M4 => wa M4 39 100 (M4 34 10) (0) fun M5 => wa M5 40 100 (M5 34 10) (0) fun M6 => wa M6 41 144 (x1) (1) fun M7 => fw M7 34 11 (M7 34 10) fun M8 => fw M8 34 10 ((M8 34 10) + (1)) fun M9 => (Trip_append_34_n42_97     M9)))
theorem Trip_append_34_n42_97_t {L : Nat} {xs : Nat → Int} {d : Nat} (hd : 1 ≤ d)      (M : am_M) (r : am_M) (h : Trip_append_34_n42_97     M = some r) : am_Ev L xs d me_8 97 [] [] 42 44 M (none, 42, 44, r) := by
  refine ev_k (pc' := 97) (ls' := []) (st' := []) (nc' := 42) (np' := 44) (M' := M) 0 rfl ?_
  cases h
  exact ev_ret rfl
theorem Trip_append_34_n42_e {L : Nat} {xs : Nat → Int} {d : Nat} (hd : 1 ≤ d)   (x1 : Int) (M : am_M) (r : am_M) (h : Trip_append_34_n42   x1 M = some r) : am_Ev L xs d me_8 0 (am_ar1 0 [.inr (.inr (some 34)), .inl (x1)]) [] 42 44 M (none, 42, 44, r) := by
  refine ev_k (pc' := 6) (ls' := [(0, .inr (.inr (some 34))), (1, .inl (x1))]) (st' := [.inl (100), .inl (M 34 10)]) (nc' := 42) (np' := 44) (M' := M) 3 rfl ?_
  obtain ⟨hR, ⟨hc, h⟩ | ⟨hc, h⟩⟩ := c_ge_i h
  · refine ev_icmp 97 rfl hR.1 hR.2 (by decide) (fun _ => ?_) (fun q => absurd hc q)
    exact Trip_append_34_n42_97_t hd      M r h
  · refine ev_icmp 97 rfl hR.1 hR.2 (by decide) (fun q => absurd q hc) (fun _ => ?_)
    refine ev_k (pc' := 10) (ls' := [(0, .inr (.inr (some 34))), (1, .inl (x1))]) (st' := [.inl (x1)]) (nc' := 42) (np' := 44) (M' := M) 1 rfl ?_
    obtain ⟨v1, hv, h⟩ := ob_i h
    refine ev_call (t := 9) (as := [.inl (x1)]) (rest := []) rfl rfl rfl (by omega) (Country_isCell_n42_e (by omega) (x1) M _ hv) ?_
    refine ev_k (pc' := 13) (ls' := [(0, .inr (.inr (some 34))), (1, .inl (x1))]) (st' := [.inl (v1)]) (nc' := 42) (np' := 44) (M' := M) 0 rfl ?_
    obtain ⟨hR, ⟨hc, h⟩ | ⟨hc, h⟩⟩ := c_eq_i h
    · refine ev_ifc 97 rfl hR.1 (by decide) (fun _ => ?_) (fun q => absurd hc q)
      exact Trip_append_34_n42_97_t hd      M r h
    · refine ev_ifc 97 rfl hR.1 (by decide) (fun q => absurd q hc) (fun _ => ?_)
      refine ev_k (pc' := 25) (ls' := [(0, .inr (.inr (some 34))), (1, .inl (x1))]) (st' := [.inl (x1), .inl (M 34 10), .inr (.inr (some 36))]) (nc' := 42) (np' := 44) (M' := M) 5 rfl ?_
      obtain ⟨hc, M2, eM, h⟩ := wa_i h
      refine ev_iast (k := 36) rfl (by decide) rfl hc eM ?_
      refine ev_k (pc' := 41) (ls' := [(0, .inr (.inr (some 34))), (1, .inl (x1))]) (st' := [.inl (M2 1 3), .inl (M2 34 10), .inr (.inr (some 37))]) (nc' := 42) (np' := 44) (M' := M2) 7 rfl ?_
      obtain ⟨hc, M3, eM, h⟩ := wa_i h
      refine ev_iast (k := 37) rfl (by decide) rfl hc eM ?_
      refine ev_k (pc' := 51) (ls' := [(0, .inr (.inr (some 34))), (1, .inl (x1))]) (st' := [.inl (0), .inl (M3 34 10), .inr (.inr (some 38))]) (nc' := 42) (np' := 44) (M' := M3) 5 rfl ?_
      obtain ⟨hc, M4, eM, h⟩ := wa_i h
      refine ev_iast (k := 38) rfl (by decide) rfl hc eM ?_
      refine ev_k (pc' := 61) (ls' := [(0, .inr (.inr (some 34))), (1, .inl (x1))]) (st' := [.inl (0), .inl (M4 34 10), .inr (.inr (some 39))]) (nc' := 42) (np' := 44) (M' := M4) 5 rfl ?_
      obtain ⟨hc, M5, eM, h⟩ := wa_i h
      refine ev_iast (k := 39) rfl (by decide) rfl hc eM ?_
      refine ev_k (pc' := 71) (ls' := [(0, .inr (.inr (some 34))), (1, .inl (x1))]) (st' := [.inl (0), .inl (M5 34 10), .inr (.inr (some 40))]) (nc' := 42) (np' := 44) (M' := M5) 5 rfl ?_
      obtain ⟨hc, M6, eM, h⟩ := wa_i h
      refine ev_iast (k := 40) rfl (by decide) rfl hc eM ?_
      refine ev_k (pc' := 78) (ls' := [(0, .inr (.inr (some 34))), (1, .inl (x1))]) (st' := [.inl (1), .inl (x1), .inr (.inr (some 41))]) (nc' := 42) (np' := 44) (M' := M6) 4 rfl ?_
      obtain ⟨hc, M7, eM, h⟩ := wa_i h
      refine ev_iast (k := 41) rfl (by decide) rfl hc eM ?_
      refine ev_k (pc' := 87) (ls' := [(0, .inr (.inr (some 34))), (1, .inl (x1))]) (st' := []) (nc' := 42) (np' := 44) (M' := am_up M7 34 11 (M7 34 10)) 4 rfl ?_
      obtain ⟨M8, eM, h⟩ := fw_i h
      rw [← eM]
      refine ev_k (pc' := 97) (ls' := []) (st' := []) (nc' := 42) (np' := 44) (M' := am_up M8 34 10 ((M8 34 10) + (1))) 6 rfl ?_
      obtain ⟨M9, eM, h⟩ := fw_i h
      rw [← eM]
      exact Trip_append_34_n42_97_t hd      M9 r h
def Trip_beginAt_34_n42    (x1 : Int) (M : am_M) : Option (am_M) := ob (J_fill_41_n42 (0) M) fun M1 => fw M1 34 10 (0) fun M2 => ob (Trip_append_34_n42 (x1) M2) fun M3 => some (M3)
theorem Trip_beginAt_34_n42_e {L : Nat} {xs : Nat → Int} {d : Nat} (hd : 2 ≤ d)   (x1 : Int) (M : am_M) (r : am_M) (h : Trip_beginAt_34_n42   x1 M = some r) : am_Ev L xs d me_7 0 (am_ar1 0 [.inr (.inr (some 34)), .inl (x1)]) [] 42 44 M (none, 42, 44, r) := by
  refine ev_k (pc' := 5) (ls' := [(0, .inr (.inr (some 34))), (1, .inl (x1))]) (st' := [.inl (0), .inr (.inr (some 41))]) (nc' := 42) (np' := 44) (M' := M) 3 rfl ?_
  obtain ⟨M1, hv, h⟩ := ob_i h
  refine ev_call (t := 2) (as := [.inr (.inr (some 41)), .inl (0)]) (rest := []) rfl rfl rfl (by omega) (J_fill_41_n42_e (by omega) (0) M _ hv) ?_
  refine ev_k (pc' := 13) (ls' := [(0, .inr (.inr (some 34))), (1, .inl (x1))]) (st' := []) (nc' := 42) (np' := 44) (M' := am_up M1 34 10 (0)) 3 rfl ?_
  obtain ⟨M2, eM, h⟩ := fw_i h
  rw [← eM]
  refine ev_k (pc' := 15) (ls' := [(0, .inr (.inr (some 34))), (1, .inl (x1))]) (st' := [.inl (x1), .inr (.inr (some 34))]) (nc' := 42) (np' := 44) (M' := M2) 2 rfl ?_
  obtain ⟨M3, hv, h⟩ := ob_i h
  refine ev_call (t := 8) (as := [.inr (.inr (some 34)), .inl (x1)]) (rest := []) rfl rfl rfl (by omega) (Trip_append_34_n42_e (by omega) (x1) M2 _ hv) ?_
  refine ev_k (pc' := 18) (ls' := [(0, .inr (.inr (some 34))), (1, .inl (x1))]) (st' := []) (nc' := 42) (np' := 44) (M' := M3) 0 rfl ?_
  cases h
  exact ev_ret rfl
def Trip_new_34_1_5_n35     (M : am_M) : Option (am_M) := nw M 35 fun M1 => nw M1 36 fun M2 => nw M2 37 fun M3 => nw M3 38 fun M4 => nw M4 39 fun M5 => nw M5 40 fun M6 => nw M6 41 fun M7 => fw M7 34 9 (-2) fun M8 => fw M8 34 14 (1) fun M9 => ob (Trip_beginAt_34_n42 (0) M9) fun M10 => some (M10)
theorem Trip_new_34_1_5_n35_e {L : Nat} {xs : Nat → Int} {d : Nat} (hd : 3 ≤ d)    (M : am_M) (r : am_M) (h : Trip_new_34_1_5_n35    M = some r) : am_Ev L xs d me_6 0 (am_ar1 0 [.inr (.inr (some 34)), .inr (.inr (some 1)), .inr (.inr (some 5))]) [] 35 35 M (none, 42, 44, r) := by
  refine ev_k (pc' := 9) (ls' := [(0, .inr (.inr (some 34))), (1, .inr (.inr (some 1))), (2, .inr (.inr (some 5)))]) (st' := [.inr (.inr (some 35)), .inr (.inr (some 34))]) (nc' := 36) (np' := 35) (M' := am_zr M 35) 5 rfl ?_
  obtain ⟨M1, eM, h⟩ := nw_i h
  rw [← eM]
  refine ev_k (pc' := 17) (ls' := [(0, .inr (.inr (some 34))), (1, .inr (.inr (some 1))), (2, .inr (.inr (some 5)))]) (st' := [.inr (.inr (some 36)), .inr (.inr (some 34))]) (nc' := 37) (np' := 36) (M' := am_zr M1 36) 4 rfl ?_
  obtain ⟨M2, eM, h⟩ := nw_i h
  rw [← eM]
  refine ev_k (pc' := 25) (ls' := [(0, .inr (.inr (some 34))), (1, .inr (.inr (some 1))), (2, .inr (.inr (some 5)))]) (st' := [.inr (.inr (some 37)), .inr (.inr (some 34))]) (nc' := 38) (np' := 37) (M' := am_zr M2 37) 4 rfl ?_
  obtain ⟨M3, eM, h⟩ := nw_i h
  rw [← eM]
  refine ev_k (pc' := 33) (ls' := [(0, .inr (.inr (some 34))), (1, .inr (.inr (some 1))), (2, .inr (.inr (some 5)))]) (st' := [.inr (.inr (some 38)), .inr (.inr (some 34))]) (nc' := 39) (np' := 38) (M' := am_zr M3 38) 4 rfl ?_
  obtain ⟨M4, eM, h⟩ := nw_i h
  rw [← eM]
  refine ev_k (pc' := 41) (ls' := [(0, .inr (.inr (some 34))), (1, .inr (.inr (some 1))), (2, .inr (.inr (some 5)))]) (st' := [.inr (.inr (some 39)), .inr (.inr (some 34))]) (nc' := 40) (np' := 39) (M' := am_zr M4 39) 4 rfl ?_
  obtain ⟨M5, eM, h⟩ := nw_i h
  rw [← eM]
  refine ev_k (pc' := 49) (ls' := [(0, .inr (.inr (some 34))), (1, .inr (.inr (some 1))), (2, .inr (.inr (some 5)))]) (st' := [.inr (.inr (some 40)), .inr (.inr (some 34))]) (nc' := 41) (np' := 40) (M' := am_zr M5 40) 4 rfl ?_
  obtain ⟨M6, eM, h⟩ := nw_i h
  rw [← eM]
  refine ev_k (pc' := 58) (ls' := [(0, .inr (.inr (some 34))), (1, .inr (.inr (some 1))), (2, .inr (.inr (some 5)))]) (st' := [.inr (.inr (some 41)), .inr (.inr (some 34))]) (nc' := 42) (np' := 41) (M' := am_zr M6 41) 4 rfl ?_
  obtain ⟨M7, eM, h⟩ := nw_i h
  rw [← eM]
  refine ev_k (pc' := 67) (ls' := [(0, .inr (.inr (some 34))), (1, .inr (.inr (some 1))), (2, .inr (.inr (some 5)))]) (st' := []) (nc' := 42) (np' := 42) (M' := am_up M7 34 9 (-2)) 4 rfl ?_
  obtain ⟨M8, eM, h⟩ := fw_i h
  rw [← eM]
  refine ev_k (pc' := 72) (ls' := [(0, .inr (.inr (some 34))), (1, .inr (.inr (some 1))), (2, .inr (.inr (some 5)))]) (st' := []) (nc' := 42) (np' := 42) (M' := am_up M8 34 14 (1)) 3 rfl ?_
  obtain ⟨M9, eM, h⟩ := fw_i h
  rw [← eM]
  refine ev_k (pc' := 84) (ls' := [(0, .inr (.inr (some 34))), (1, .inr (.inr (some 1))), (2, .inr (.inr (some 5)))]) (st' := [.inl (0), .inr (.inr (some 34))]) (nc' := 42) (np' := 44) (M' := M9) 8 rfl ?_
  obtain ⟨M10, hv, h⟩ := ob_i h
  refine ev_call (t := 7) (as := [.inr (.inr (some 34)), .inl (0)]) (rest := []) rfl rfl rfl (by omega) (Trip_beginAt_34_n42_e (by omega) (0) M9 _ hv) ?_
  refine ev_k (pc' := 87) (ls' := [(0, .inr (.inr (some 34))), (1, .inr (.inr (some 1))), (2, .inr (.inr (some 5)))]) (st' := []) (nc' := 42) (np' := 44) (M' := M10) 0 rfl ?_
  cases h
  exact ev_ret rfl
def J_fill_49_n50_5    : Nat → Int → Int → Int → am_M → Option (am_M)
  | 0, _, _, _, _ => none
  | n + 1, x1, x2, x3, M => c_ge (x2) (x3)
       (some (M))
       (wa M 49 144 (x2) (x1) fun M1 => (J_fill_49_n50_5    n (x1) ((x2) + (1)) (x3) M1))
def J_fill_49_n50    (x1 : Int) (M : am_M) : Option (am_M) := (J_fill_49_n50_5    am_big (x1) (0) (((144 : Nat) : Int)) M)
theorem J_fill_49_n50_5_t {L : Nat} {xs : Nat → Int} {d : Nat} (hd : 0 ≤ d)     : ∀ (n : Nat) (x1 : Int) (x2 : Int) (x3 : Int) (M : am_M) (r : am_M), J_fill_49_n50_5    n x1 x2 x3 M = some r → am_Ev L xs d me_2 5 [(0, .inr (.inr (some 49))), (1, .inl (x1)), (2, .inl (x2)), (3, .inl (x3))] [] 50 54 M (none, 50, 54, r)
  | 0, _, _, _, M, r, h => by cases h
  | n + 1, x1, x2, x3, M, r, h => by
    have ih := J_fill_49_n50_5_t (L := L) (xs := xs) hd     n
    refine ev_k (pc' := 7) (ls' := [(0, .inr (.inr (some 49))), (1, .inl (x1)), (2, .inl (x2)), (3, .inl (x3))]) (st' := [.inl (x3), .inl (x2)]) (nc' := 50) (np' := 54) (M' := M) 2 rfl ?_
    obtain ⟨hR, ⟨hc, h⟩ | ⟨hc, h⟩⟩ := c_ge_i h
    · refine ev_icmp 20 rfl hR.1 hR.2 (by decide) (fun _ => ?_) (fun q => absurd hc q)
      refine ev_k (pc' := 20) (ls' := [(0, .inr (.inr (some 49))), (1, .inl (x1)), (2, .inl (x2)), (3, .inl (x3))]) (st' := []) (nc' := 50) (np' := 54) (M' := M) 0 rfl ?_
      cases h
      exact ev_ret rfl
    · refine ev_icmp 20 rfl hR.1 hR.2 (by decide) (fun q => absurd q hc) (fun _ => ?_)
      refine ev_k (pc' := 13) (ls' := [(0, .inr (.inr (some 49))), (1, .inl (x1)), (2, .inl (x2)), (3, .inl (x3))]) (st' := [.inl (x1), .inl (x2), .inr (.inr (some 49))]) (nc' := 50) (np' := 54) (M' := M) 3 rfl ?_
      obtain ⟨hc, M1, eM, h⟩ := wa_i h
      refine ev_iast (k := 49) rfl (by decide) rfl hc eM ?_
      refine ev_k (pc' := 5) (ls' := [(0, .inr (.inr (some 49))), (1, .inl (x1)), (2, .inl ((x2) + (1))), (3, .inl (x3))]) (st' := []) (nc' := 50) (np' := 54) (M' := M1) 2 rfl ?_
      exact ih (x1) ((x2) + (1)) (x3) M1 r h
theorem J_fill_49_n50_e {L : Nat} {xs : Nat → Int} {d : Nat} (hd : 0 ≤ d)   (x1 : Int) (M : am_M) (r : am_M) (h : J_fill_49_n50   x1 M = some r) : am_Ev L xs d me_2 0 (am_ar1 0 [.inr (.inr (some 49)), .inl (x1)]) [] 50 54 M (none, 50, 54, r) := by
  refine ev_k (pc' := 5) (ls' := [(0, .inr (.inr (some 49))), (1, .inl (x1)), (2, .inl (0)), (3, .inl (((144 : Nat) : Int)))]) (st' := []) (nc' := 50) (np' := 54) (M' := M) 5 rfl ?_
  exact J_fill_49_n50_5_t hd     am_big (x1) (0) (((144 : Nat) : Int)) M r h
def Country_isCell_n50_16    (s0 : Int) (M : am_M) : Option (Int) := ck ((s0) = 0 ∨ (s0) = 1) (some (s0))
def Country_isCell_n50_15     (M : am_M) : Option (Int) := (Country_isCell_n50_16    (0) M)
def Country_isCell_n50    (x0 : Int) (M : am_M) : Option (Int) := c_lt (x0) (0)
       (Country_isCell_n50_15     M)
       (c_ge (x0) (144)
       (Country_isCell_n50_15     M)
       ((Country_isCell_n50_16    (1) M)))
theorem Country_isCell_n50_16_t {L : Nat} {xs : Nat → Int} {d : Nat} (hd : 0 ≤ d)     (s0 : Int) (M : am_M) (r : Int) (h : Country_isCell_n50_16    s0 M = some r) : am_Ev L xs d me_9 16 [] [.inl (s0)] 50 54 M (some (.inl r), 50, 54, M) := by
  refine ev_k (pc' := 16) (ls' := []) (st' := [.inl (s0)]) (nc' := 50) (np' := 54) (M' := M) 0 rfl ?_
  obtain ⟨hc, h⟩ := ck_i h
  cases h
  exact ev_retz rfl rfl hc
theorem Country_isCell_n50_15_t {L : Nat} {xs : Nat → Int} {d : Nat} (hd : 0 ≤ d)      (M : am_M) (r : Int) (h : Country_isCell_n50_15     M = some r) : am_Ev L xs d me_9 15 [] [] 50 54 M (some (.inl r), 50, 54, M) := by
  refine ev_k (pc' := 16) (ls' := []) (st' := [.inl (0)]) (nc' := 50) (np' := 54) (M' := M) 1 rfl ?_
  exact Country_isCell_n50_16_t hd     (0) M r h
theorem Country_isCell_n50_e {L : Nat} {xs : Nat → Int} {d : Nat} (hd : 0 ≤ d)   (x0 : Int) (M : am_M) (r : Int) (h : Country_isCell_n50   x0 M = some r) : am_Ev L xs d me_9 0 (am_ar1 0 [.inl (x0)]) [] 50 54 M (some (.inl r), 50, 54, M) := by
  refine ev_k (pc' := 1) (ls' := [(0, .inl (x0))]) (st' := [.inl (x0)]) (nc' := 50) (np' := 54) (M' := M) 1 rfl ?_
  obtain ⟨hR, ⟨hc, h⟩ | ⟨hc, h⟩⟩ := c_lt_i h
  · refine ev_ifc 15 rfl hR.1 (by decide) (fun _ => ?_) (fun q => absurd hc q)
    exact Country_isCell_n50_15_t hd      M r h
  · refine ev_ifc 15 rfl hR.1 (by decide) (fun q => absurd q hc) (fun _ => ?_)
    refine ev_k (pc' := 8) (ls' := [(0, .inl (x0))]) (st' := [.inl (144), .inl (x0)]) (nc' := 50) (np' := 54) (M' := M) 2 rfl ?_
    obtain ⟨hR, ⟨hc, h⟩ | ⟨hc, h⟩⟩ := c_ge_i h
    · refine ev_icmp 15 rfl hR.1 hR.2 (by decide) (fun _ => ?_) (fun q => absurd hc q)
      exact Country_isCell_n50_15_t hd      M r h
    · refine ev_icmp 15 rfl hR.1 hR.2 (by decide) (fun q => absurd q hc) (fun _ => ?_)
      refine ev_k (pc' := 16) (ls' := []) (st' := [.inl (1)]) (nc' := 50) (np' := 54) (M' := M) 2 rfl ?_
      exact Country_isCell_n50_16_t hd     (1) M r h
def Trip_append_42_n50_97     (M : am_M) : Option (am_M) := some (M)
def Trip_append_42_n50    (x1 : Int) (M : am_M) : Option (am_M) := c_ge (M 42 10) (100)
       (Trip_append_42_n50_97     M)
       (ob (Country_isCell_n50 (x1) M) fun v1 => c_eq (v1) (0)
       (Trip_append_42_n50_97     M)
       (wa M 44 100 (M 42 10) (x1) fun M2 => wa M2 45 100 (M2 42 10) (M2 1 3) fun M3 => wa M3 46 100 (M3 42 10) (0) fun M4 => wa M4 47 100 (M4 42 10) (0) fun M5 => wa M5 48 100 (M5 42 10) (0) fun M6 => wa M6 49 144 (x1) (1) fun M7 => fw M7 42 11 (M7 42 10) fun M8 => fw M8 42 10 ((M8 42 10) + (1)) fun M9 => (Trip_append_42_n50_97     M9)))
theorem Trip_append_42_n50_97_t {L : Nat} {xs : Nat → Int} {d : Nat} (hd : 1 ≤ d)      (M : am_M) (r : am_M) (h : Trip_append_42_n50_97     M = some r) : am_Ev L xs d me_8 97 [] [] 50 54 M (none, 50, 54, r) := by
  refine ev_k (pc' := 97) (ls' := []) (st' := []) (nc' := 50) (np' := 54) (M' := M) 0 rfl ?_
  cases h
  exact ev_ret rfl
theorem Trip_append_42_n50_e {L : Nat} {xs : Nat → Int} {d : Nat} (hd : 1 ≤ d)   (x1 : Int) (M : am_M) (r : am_M) (h : Trip_append_42_n50   x1 M = some r) : am_Ev L xs d me_8 0 (am_ar1 0 [.inr (.inr (some 42)), .inl (x1)]) [] 50 54 M (none, 50, 54, r) := by
  refine ev_k (pc' := 6) (ls' := [(0, .inr (.inr (some 42))), (1, .inl (x1))]) (st' := [.inl (100), .inl (M 42 10)]) (nc' := 50) (np' := 54) (M' := M) 3 rfl ?_
  obtain ⟨hR, ⟨hc, h⟩ | ⟨hc, h⟩⟩ := c_ge_i h
  · refine ev_icmp 97 rfl hR.1 hR.2 (by decide) (fun _ => ?_) (fun q => absurd hc q)
    exact Trip_append_42_n50_97_t hd      M r h
  · refine ev_icmp 97 rfl hR.1 hR.2 (by decide) (fun q => absurd q hc) (fun _ => ?_)
    refine ev_k (pc' := 10) (ls' := [(0, .inr (.inr (some 42))), (1, .inl (x1))]) (st' := [.inl (x1)]) (nc' := 50) (np' := 54) (M' := M) 1 rfl ?_
    obtain ⟨v1, hv, h⟩ := ob_i h
    refine ev_call (t := 9) (as := [.inl (x1)]) (rest := []) rfl rfl rfl (by omega) (Country_isCell_n50_e (by omega) (x1) M _ hv) ?_
    refine ev_k (pc' := 13) (ls' := [(0, .inr (.inr (some 42))), (1, .inl (x1))]) (st' := [.inl (v1)]) (nc' := 50) (np' := 54) (M' := M) 0 rfl ?_
    obtain ⟨hR, ⟨hc, h⟩ | ⟨hc, h⟩⟩ := c_eq_i h
    · refine ev_ifc 97 rfl hR.1 (by decide) (fun _ => ?_) (fun q => absurd hc q)
      exact Trip_append_42_n50_97_t hd      M r h
    · refine ev_ifc 97 rfl hR.1 (by decide) (fun q => absurd q hc) (fun _ => ?_)
      refine ev_k (pc' := 25) (ls' := [(0, .inr (.inr (some 42))), (1, .inl (x1))]) (st' := [.inl (x1), .inl (M 42 10), .inr (.inr (some 44))]) (nc' := 50) (np' := 54) (M' := M) 5 rfl ?_
      obtain ⟨hc, M2, eM, h⟩ := wa_i h
      refine ev_iast (k := 44) rfl (by decide) rfl hc eM ?_
      refine ev_k (pc' := 41) (ls' := [(0, .inr (.inr (some 42))), (1, .inl (x1))]) (st' := [.inl (M2 1 3), .inl (M2 42 10), .inr (.inr (some 45))]) (nc' := 50) (np' := 54) (M' := M2) 7 rfl ?_
      obtain ⟨hc, M3, eM, h⟩ := wa_i h
      refine ev_iast (k := 45) rfl (by decide) rfl hc eM ?_
      refine ev_k (pc' := 51) (ls' := [(0, .inr (.inr (some 42))), (1, .inl (x1))]) (st' := [.inl (0), .inl (M3 42 10), .inr (.inr (some 46))]) (nc' := 50) (np' := 54) (M' := M3) 5 rfl ?_
      obtain ⟨hc, M4, eM, h⟩ := wa_i h
      refine ev_iast (k := 46) rfl (by decide) rfl hc eM ?_
      refine ev_k (pc' := 61) (ls' := [(0, .inr (.inr (some 42))), (1, .inl (x1))]) (st' := [.inl (0), .inl (M4 42 10), .inr (.inr (some 47))]) (nc' := 50) (np' := 54) (M' := M4) 5 rfl ?_
      obtain ⟨hc, M5, eM, h⟩ := wa_i h
      refine ev_iast (k := 47) rfl (by decide) rfl hc eM ?_
      refine ev_k (pc' := 71) (ls' := [(0, .inr (.inr (some 42))), (1, .inl (x1))]) (st' := [.inl (0), .inl (M5 42 10), .inr (.inr (some 48))]) (nc' := 50) (np' := 54) (M' := M5) 5 rfl ?_
      obtain ⟨hc, M6, eM, h⟩ := wa_i h
      refine ev_iast (k := 48) rfl (by decide) rfl hc eM ?_
      refine ev_k (pc' := 78) (ls' := [(0, .inr (.inr (some 42))), (1, .inl (x1))]) (st' := [.inl (1), .inl (x1), .inr (.inr (some 49))]) (nc' := 50) (np' := 54) (M' := M6) 4 rfl ?_
      obtain ⟨hc, M7, eM, h⟩ := wa_i h
      refine ev_iast (k := 49) rfl (by decide) rfl hc eM ?_
      refine ev_k (pc' := 87) (ls' := [(0, .inr (.inr (some 42))), (1, .inl (x1))]) (st' := []) (nc' := 50) (np' := 54) (M' := am_up M7 42 11 (M7 42 10)) 4 rfl ?_
      obtain ⟨M8, eM, h⟩ := fw_i h
      rw [← eM]
      refine ev_k (pc' := 97) (ls' := []) (st' := []) (nc' := 50) (np' := 54) (M' := am_up M8 42 10 ((M8 42 10) + (1))) 6 rfl ?_
      obtain ⟨M9, eM, h⟩ := fw_i h
      rw [← eM]
      exact Trip_append_42_n50_97_t hd      M9 r h
def Trip_beginAt_42_n50    (x1 : Int) (M : am_M) : Option (am_M) := ob (J_fill_49_n50 (0) M) fun M1 => fw M1 42 10 (0) fun M2 => ob (Trip_append_42_n50 (x1) M2) fun M3 => some (M3)
theorem Trip_beginAt_42_n50_e {L : Nat} {xs : Nat → Int} {d : Nat} (hd : 2 ≤ d)   (x1 : Int) (M : am_M) (r : am_M) (h : Trip_beginAt_42_n50   x1 M = some r) : am_Ev L xs d me_7 0 (am_ar1 0 [.inr (.inr (some 42)), .inl (x1)]) [] 50 54 M (none, 50, 54, r) := by
  refine ev_k (pc' := 5) (ls' := [(0, .inr (.inr (some 42))), (1, .inl (x1))]) (st' := [.inl (0), .inr (.inr (some 49))]) (nc' := 50) (np' := 54) (M' := M) 3 rfl ?_
  obtain ⟨M1, hv, h⟩ := ob_i h
  refine ev_call (t := 2) (as := [.inr (.inr (some 49)), .inl (0)]) (rest := []) rfl rfl rfl (by omega) (J_fill_49_n50_e (by omega) (0) M _ hv) ?_
  refine ev_k (pc' := 13) (ls' := [(0, .inr (.inr (some 42))), (1, .inl (x1))]) (st' := []) (nc' := 50) (np' := 54) (M' := am_up M1 42 10 (0)) 3 rfl ?_
  obtain ⟨M2, eM, h⟩ := fw_i h
  rw [← eM]
  refine ev_k (pc' := 15) (ls' := [(0, .inr (.inr (some 42))), (1, .inl (x1))]) (st' := [.inl (x1), .inr (.inr (some 42))]) (nc' := 50) (np' := 54) (M' := M2) 2 rfl ?_
  obtain ⟨M3, hv, h⟩ := ob_i h
  refine ev_call (t := 8) (as := [.inr (.inr (some 42)), .inl (x1)]) (rest := []) rfl rfl rfl (by omega) (Trip_append_42_n50_e (by omega) (x1) M2 _ hv) ?_
  refine ev_k (pc' := 18) (ls' := [(0, .inr (.inr (some 42))), (1, .inl (x1))]) (st' := []) (nc' := 50) (np' := 54) (M' := M3) 0 rfl ?_
  cases h
  exact ev_ret rfl
def Trip_new_42_1_5_n43     (M : am_M) : Option (am_M) := nw M 43 fun M1 => nw M1 44 fun M2 => nw M2 45 fun M3 => nw M3 46 fun M4 => nw M4 47 fun M5 => nw M5 48 fun M6 => nw M6 49 fun M7 => fw M7 42 9 (-2) fun M8 => fw M8 42 14 (1) fun M9 => ob (Trip_beginAt_42_n50 (0) M9) fun M10 => some (M10)
theorem Trip_new_42_1_5_n43_e {L : Nat} {xs : Nat → Int} {d : Nat} (hd : 3 ≤ d)    (M : am_M) (r : am_M) (h : Trip_new_42_1_5_n43    M = some r) : am_Ev L xs d me_6 0 (am_ar1 0 [.inr (.inr (some 42)), .inr (.inr (some 1)), .inr (.inr (some 5))]) [] 43 45 M (none, 50, 54, r) := by
  refine ev_k (pc' := 9) (ls' := [(0, .inr (.inr (some 42))), (1, .inr (.inr (some 1))), (2, .inr (.inr (some 5)))]) (st' := [.inr (.inr (some 43)), .inr (.inr (some 42))]) (nc' := 44) (np' := 45) (M' := am_zr M 43) 5 rfl ?_
  obtain ⟨M1, eM, h⟩ := nw_i h
  rw [← eM]
  refine ev_k (pc' := 17) (ls' := [(0, .inr (.inr (some 42))), (1, .inr (.inr (some 1))), (2, .inr (.inr (some 5)))]) (st' := [.inr (.inr (some 44)), .inr (.inr (some 42))]) (nc' := 45) (np' := 46) (M' := am_zr M1 44) 4 rfl ?_
  obtain ⟨M2, eM, h⟩ := nw_i h
  rw [← eM]
  refine ev_k (pc' := 25) (ls' := [(0, .inr (.inr (some 42))), (1, .inr (.inr (some 1))), (2, .inr (.inr (some 5)))]) (st' := [.inr (.inr (some 45)), .inr (.inr (some 42))]) (nc' := 46) (np' := 47) (M' := am_zr M2 45) 4 rfl ?_
  obtain ⟨M3, eM, h⟩ := nw_i h
  rw [← eM]
  refine ev_k (pc' := 33) (ls' := [(0, .inr (.inr (some 42))), (1, .inr (.inr (some 1))), (2, .inr (.inr (some 5)))]) (st' := [.inr (.inr (some 46)), .inr (.inr (some 42))]) (nc' := 47) (np' := 48) (M' := am_zr M3 46) 4 rfl ?_
  obtain ⟨M4, eM, h⟩ := nw_i h
  rw [← eM]
  refine ev_k (pc' := 41) (ls' := [(0, .inr (.inr (some 42))), (1, .inr (.inr (some 1))), (2, .inr (.inr (some 5)))]) (st' := [.inr (.inr (some 47)), .inr (.inr (some 42))]) (nc' := 48) (np' := 49) (M' := am_zr M4 47) 4 rfl ?_
  obtain ⟨M5, eM, h⟩ := nw_i h
  rw [← eM]
  refine ev_k (pc' := 49) (ls' := [(0, .inr (.inr (some 42))), (1, .inr (.inr (some 1))), (2, .inr (.inr (some 5)))]) (st' := [.inr (.inr (some 48)), .inr (.inr (some 42))]) (nc' := 49) (np' := 50) (M' := am_zr M5 48) 4 rfl ?_
  obtain ⟨M6, eM, h⟩ := nw_i h
  rw [← eM]
  refine ev_k (pc' := 58) (ls' := [(0, .inr (.inr (some 42))), (1, .inr (.inr (some 1))), (2, .inr (.inr (some 5)))]) (st' := [.inr (.inr (some 49)), .inr (.inr (some 42))]) (nc' := 50) (np' := 51) (M' := am_zr M6 49) 4 rfl ?_
  obtain ⟨M7, eM, h⟩ := nw_i h
  rw [← eM]
  refine ev_k (pc' := 67) (ls' := [(0, .inr (.inr (some 42))), (1, .inr (.inr (some 1))), (2, .inr (.inr (some 5)))]) (st' := []) (nc' := 50) (np' := 52) (M' := am_up M7 42 9 (-2)) 4 rfl ?_
  obtain ⟨M8, eM, h⟩ := fw_i h
  rw [← eM]
  refine ev_k (pc' := 72) (ls' := [(0, .inr (.inr (some 42))), (1, .inr (.inr (some 1))), (2, .inr (.inr (some 5)))]) (st' := []) (nc' := 50) (np' := 52) (M' := am_up M8 42 14 (1)) 3 rfl ?_
  obtain ⟨M9, eM, h⟩ := fw_i h
  rw [← eM]
  refine ev_k (pc' := 84) (ls' := [(0, .inr (.inr (some 42))), (1, .inr (.inr (some 1))), (2, .inr (.inr (some 5)))]) (st' := [.inl (0), .inr (.inr (some 42))]) (nc' := 50) (np' := 54) (M' := M9) 8 rfl ?_
  obtain ⟨M10, hv, h⟩ := ob_i h
  refine ev_call (t := 7) (as := [.inr (.inr (some 42)), .inl (0)]) (rest := []) rfl rfl rfl (by omega) (Trip_beginAt_42_n50_e (by omega) (0) M9 _ hv) ?_
  refine ev_k (pc' := 87) (ls' := [(0, .inr (.inr (some 42))), (1, .inr (.inr (some 1))), (2, .inr (.inr (some 5)))]) (st' := []) (nc' := 50) (np' := 54) (M' := M10) 0 rfl ?_
  cases h
  exact ev_ret rfl
def Outing_new_50_1_5_n51     (M : am_M) : Option (am_M) := nw M 51 fun M1 => some (M1)
theorem Outing_new_50_1_5_n51_e {L : Nat} {xs : Nat → Int} {d : Nat} (hd : 0 ≤ d)    (M : am_M) (r : am_M) (h : Outing_new_50_1_5_n51    M = some r) : am_Ev L xs d me_10 0 (am_ar1 0 [.inr (.inr (some 50)), .inr (.inr (some 1)), .inr (.inr (some 5))]) [] 51 55 M (none, 52, 58, r) := by
  refine ev_k (pc' := 9) (ls' := [(0, .inr (.inr (some 50))), (1, .inr (.inr (some 1))), (2, .inr (.inr (some 5)))]) (st' := [.inr (.inr (some 51)), .inr (.inr (some 50))]) (nc' := 52) (np' := 55) (M' := am_zr M 51) 5 rfl ?_
  obtain ⟨M1, eM, h⟩ := nw_i h
  rw [← eM]
  refine ev_k (pc' := 22) (ls' := [(0, .inr (.inr (some 50))), (1, .inr (.inr (some 1))), (2, .inr (.inr (some 5)))]) (st' := []) (nc' := 52) (np' := 58) (M' := M1) 7 rfl ?_
  cases h
  exact ev_ret rfl
def Routes_new_52_1_5_n53     (M : am_M) : Option (am_M) := nw M 53 fun M1 => nw M1 54 fun M2 => nw M2 55 fun M3 => nw M3 56 fun M4 => some (M4)
theorem Routes_new_52_1_5_n53_e {L : Nat} {xs : Nat → Int} {d : Nat} (hd : 0 ≤ d)    (M : am_M) (r : am_M) (h : Routes_new_52_1_5_n53    M = some r) : am_Ev L xs d me_11 0 (am_ar1 0 [.inr (.inr (some 52)), .inr (.inr (some 1)), .inr (.inr (some 5))]) [] 53 59 M (none, 57, 65, r) := by
  refine ev_k (pc' := 10) (ls' := [(0, .inr (.inr (some 52))), (1, .inr (.inr (some 1))), (2, .inr (.inr (some 5)))]) (st' := [.inr (.inr (some 53)), .inr (.inr (some 52))]) (nc' := 54) (np' := 59) (M' := am_zr M 53) 5 rfl ?_
  obtain ⟨M1, eM, h⟩ := nw_i h
  rw [← eM]
  refine ev_k (pc' := 19) (ls' := [(0, .inr (.inr (some 52))), (1, .inr (.inr (some 1))), (2, .inr (.inr (some 5)))]) (st' := [.inr (.inr (some 54)), .inr (.inr (some 52))]) (nc' := 55) (np' := 60) (M' := am_zr M1 54) 4 rfl ?_
  obtain ⟨M2, eM, h⟩ := nw_i h
  rw [← eM]
  refine ev_k (pc' := 28) (ls' := [(0, .inr (.inr (some 52))), (1, .inr (.inr (some 1))), (2, .inr (.inr (some 5)))]) (st' := [.inr (.inr (some 55)), .inr (.inr (some 52))]) (nc' := 56) (np' := 61) (M' := am_zr M2 55) 4 rfl ?_
  obtain ⟨M3, eM, h⟩ := nw_i h
  rw [← eM]
  refine ev_k (pc' := 36) (ls' := [(0, .inr (.inr (some 52))), (1, .inr (.inr (some 1))), (2, .inr (.inr (some 5)))]) (st' := [.inr (.inr (some 56)), .inr (.inr (some 52))]) (nc' := 57) (np' := 62) (M' := am_zr M3 56) 4 rfl ?_
  obtain ⟨M4, eM, h⟩ := nw_i h
  rw [← eM]
  refine ev_k (pc' := 49) (ls' := [(0, .inr (.inr (some 52))), (1, .inr (.inr (some 1))), (2, .inr (.inr (some 5)))]) (st' := []) (nc' := 57) (np' := 65) (M' := M4) 7 rfl ?_
  cases h
  exact ev_ret rfl
