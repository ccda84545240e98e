def Tape_hasRoom_17    (s0 : Int) (M : am_M) : Option (Int) := ck ((s0) = 0 ∨ (s0) = 1) (some (s0))
def Tape_hasRoom    (x1 : Int) (M : am_M) : Option (Int) := c_gt ((M 14 1) + (x1)) (260)
       ((Tape_hasRoom_17    (0) M))
       ((Tape_hasRoom_17    (1) M))
theorem Tape_hasRoom_17_t {L : Nat} {xs : Nat → Int} {d : Nat} (hd : 0 ≤ d)     (s0 : Int) (M : am_M) (r : Int) (h : Tape_hasRoom_17    s0 M = some r) : am_Ev L xs d me_17 17 [] [.inl (s0)] 126 138 M (some (.inl r), 126, 138, M) := by
  refine ev_k (pc' := 17) (ls' := []) (st' := [.inl (s0)]) (nc' := 126) (np' := 138) (M' := M) 0 rfl ?_
  obtain ⟨hc, h⟩ := ck_i h
  cases h
  exact ev_retz rfl rfl hc
theorem Tape_hasRoom_e {L : Nat} {xs : Nat → Int} {d : Nat} (hd : 0 ≤ d)   (x1 : Int) (M : am_M) (r : Int) (h : Tape_hasRoom   x1 M = some r) : am_Ev L xs d me_17 0 (am_ar1 0 [.inr (.inr (some 14)), .inl (x1)]) [] 126 138 M (some (.inl r), 126, 138, M) := by
  refine ev_k (pc' := 9) (ls' := [(0, .inr (.inr (some 14))), (1, .inl (x1))]) (st' := [.inl (260), .inl ((M 14 1) + (x1))]) (nc' := 126) (np' := 138) (M' := M) 5 rfl ?_
  obtain ⟨hR, ⟨hc, h⟩ | ⟨hc, h⟩⟩ := c_gt_i h
  · refine ev_icmp 16 rfl hR.1 hR.2 (by decide) (fun _ => ?_) (fun q => absurd hc q)
    refine ev_k (pc' := 17) (ls' := []) (st' := [.inl (0)]) (nc' := 126) (np' := 138) (M' := M) 1 rfl ?_
    exact Tape_hasRoom_17_t hd     (0) M r h
  · refine ev_icmp 16 rfl hR.1 hR.2 (by decide) (fun q => absurd q hc) (fun _ => ?_)
    refine ev_k (pc' := 17) (ls' := []) (st' := [.inl (1)]) (nc' := 126) (np' := 138) (M' := M) 2 rfl ?_
    exact Tape_hasRoom_17_t hd     (1) M r h
def Tape_put_49     (M : am_M) : Option (am_M) := some (M)
def Tape_put_3    : Nat → Int → Int → am_M → Option (am_M)
  | 0, _, _, _ => none
  | n + 1, x1, x2, M => c_lt (x2) (0)
       (Tape_put_49     M)
       (c_ge (M 14 1) (260)
       (Tape_put_49     M)
       (wa M 15 260 (M 14 1) (b_and (b_ushr (x1) (x2)) (255)) fun M1 => fw M1 14 1 ((M1 14 1) + (1)) fun M2 => (Tape_put_3    n (x1) ((x2) + (-8)) M2)))
def Tape_put    (x1 : Int) (M : am_M) : Option (am_M) := (Tape_put_3    am_big (x1) (24) M)
theorem Tape_put_49_t {L : Nat} {xs : Nat → Int} {d : Nat} (hd : 0 ≤ d)      (M : am_M) (r : am_M) (h : Tape_put_49     M = some r) : am_Ev L xs d me_18 49 [] [] 126 138 M (none, 126, 138, r) := by
  refine ev_k (pc' := 49) (ls' := []) (st' := []) (nc' := 126) (np' := 138) (M' := M) 0 rfl ?_
  cases h
  exact ev_ret rfl
theorem Tape_put_3_t {L : Nat} {xs : Nat → Int} {d : Nat} (hd : 0 ≤ d)     : ∀ (n : Nat) (x1 : Int) (x2 : Int) (M : am_M) (r : am_M), Tape_put_3    n x1 x2 M = some r → am_Ev L xs d me_18 3 [(0, .inr (.inr (some 14))), (1, .inl (x1)), (2, .inl (x2))] [] 126 138 M (none, 126, 138, r)
  | 0, _, _, M, r, h => by cases h
  | n + 1, x1, x2, M, r, h => by
    have ih := Tape_put_3_t (L := L) (xs := xs) hd     n
    refine ev_k (pc' := 4) (ls' := [(0, .inr (.inr (some 14))), (1, .inl (x1)), (2, .inl (x2))]) (st' := [.inl (x2)]) (nc' := 126) (np' := 138) (M' := M) 1 rfl ?_
    obtain ⟨hR, ⟨hc, h⟩ | ⟨hc, h⟩⟩ := c_lt_i h
    · refine ev_ifc 49 rfl hR.1 (by decide) (fun _ => ?_) (fun q => absurd hc q)
      exact Tape_put_49_t hd      M r h
    · refine ev_ifc 49 rfl hR.1 (by decide) (fun q => absurd q hc) (fun _ => ?_)
      refine ev_k (pc' := 14) (ls' := [(0, .inr (.inr (some 14))), (1, .inl (x1)), (2, .inl (x2))]) (st' := [.inl (260), .inl (M 14 1)]) (nc' := 126) (np' := 138) (M' := M) 3 rfl ?_
      obtain ⟨hR, ⟨hc, h⟩ | ⟨hc, h⟩⟩ := c_ge_i h
      · refine ev_icmp 49 rfl hR.1 hR.2 (by decide) (fun _ => ?_) (fun q => absurd hc q)
        exact Tape_put_49_t hd      M r h
      · refine ev_icmp 49 rfl hR.1 hR.2 (by decide) (fun q => absurd q hc) (fun _ => ?_)
        refine ev_k (pc' := 32) (ls' := [(0, .inr (.inr (some 14))), (1, .inl (x1)), (2, .inl (x2))]) (st' := [.inl (b_and (b_ushr (x1) (x2)) (255)), .inl (M 14 1), .inr (.inr (some 15))]) (nc' := 126) (np' := 138) (M' := M) 9 rfl ?_
        obtain ⟨hc, M1, eM, h⟩ := wa_i h
        refine ev_iast (k := 15) rfl (by decide) rfl hc eM ?_
        refine ev_k (pc' := 43) (ls' := [(0, .inr (.inr (some 14))), (1, .inl (x1)), (2, .inl (x2))]) (st' := []) (nc' := 126) (np' := 138) (M' := am_up M1 14 1 ((M1 14 1) + (1))) 6 rfl ?_
        obtain ⟨M2, eM, h⟩ := fw_i h
        rw [← eM]
        refine ev_k (pc' := 3) (ls' := [(0, .inr (.inr (some 14))), (1, .inl (x1)), (2, .inl ((x2) + (-8)))]) (st' := []) (nc' := 126) (np' := 138) (M' := M2) 2 rfl ?_
        exact ih (x1) ((x2) + (-8)) M2 r h
theorem Tape_put_e {L : Nat} {xs : Nat → Int} {d : Nat} (hd : 0 ≤ d)   (x1 : Int) (M : am_M) (r : am_M) (h : Tape_put   x1 M = some r) : am_Ev L xs d me_18 0 (am_ar1 0 [.inr (.inr (some 14)), .inl (x1)]) [] 126 138 M (none, 126, 138, r) := by
  refine ev_k (pc' := 3) (ls' := [(0, .inr (.inr (some 14))), (1, .inl (x1)), (2, .inl (24))]) (st' := []) (nc' := 126) (np' := 138) (M' := M) 2 rfl ?_
  exact Tape_put_3_t hd     am_big (x1) (24) M r h
def Tape_size     (M : am_M) : Option (Int) := some (M 14 1)
theorem Tape_size_e {L : Nat} {xs : Nat → Int} {d : Nat} (hd : 0 ≤ d)    (M : am_M) (r : Int) (h : Tape_size    M = some r) : am_Ev L xs d me_19 0 (am_ar1 0 [.inr (.inr (some 14))]) [] 126 138 M (some (.inl r), 126, 138, M) := by
  refine ev_k (pc' := 4) (ls' := [(0, .inr (.inr (some 14)))]) (st' := [.inl (M 14 1)]) (nc' := 126) (np' := 138) (M' := M) 2 rfl ?_
  cases h
  exact ev_ret rfl
def P_feed    (x1 : Int) (x2 : Int) (x3 : Int) (x4 : Int) (x5 : Int) (M : am_M) : Option (Int × am_M) := ob (Tape_hasRoom (20) M) fun v1 => c_ne (v1) (0)
       (ob (Tape_put (x1) M) fun M2 => ob (Tape_put (x2) M2) fun M3 => ob (Tape_put (x3) M3) fun M4 => ob (Tape_put (x4) M4) fun M5 => ob (Tape_put (x5) M5) fun M6 => ob (Tape_size  M6) fun v7 => some (v7, M6))
       (some (-1, M))
theorem P_feed_e {L : Nat} {xs : Nat → Int} {d : Nat} (hd : 1 ≤ d)   (x1 : Int) (x2 : Int) (x3 : Int) (x4 : Int) (x5 : Int) (M : am_M) (r : Int × am_M) (h : P_feed   x1 x2 x3 x4 x5 M = some r) : am_Ev L xs d me_16 0 (am_ar1 0 [.inr (.inr (some 0)), .inl (x1), .inl (x2), .inl (x3), .inl (x4), .inl (x5)]) [] 126 138 M (some (.inl r.1), 126, 138, r.2) := by
  refine ev_k (pc' := 6) (ls' := [(0, .inr (.inr (some 0))), (1, .inl (x1)), (2, .inl (x2)), (3, .inl (x3)), (4, .inl (x4)), (5, .inl (x5))]) (st' := [.inl (20), .inr (.inr (some 14))]) (nc' := 126) (np' := 138) (M' := M) 3 rfl ?_
  obtain ⟨v1, hv, h⟩ := ob_i h
  refine ev_call (t := 17) (as := [.inr (.inr (some 14)), .inl (20)]) (rest := []) rfl rfl rfl (by omega) (Tape_hasRoom_e (by omega) (20) M _ hv) ?_
  refine ev_k (pc' := 9) (ls' := [(0, .inr (.inr (some 0))), (1, .inl (x1)), (2, .inl (x2)), (3, .inl (x3)), (4, .inl (x4)), (5, .inl (x5))]) (st' := [.inl (v1)]) (nc' := 126) (np' := 138) (M' := M) 0 rfl ?_
  obtain ⟨hR, ⟨hc, h⟩ | ⟨hc, h⟩⟩ := c_ne_i h
  · refine ev_ifc 14 rfl hR.1 (by decide) (fun _ => ?_) (fun q => absurd hc q)
    refine ev_k (pc' := 19) (ls' := [(0, .inr (.inr (some 0))), (1, .inl (x1)), (2, .inl (x2)), (3, .inl (x3)), (4, .inl (x4)), (5, .inl (x5))]) (st' := [.inl (x1), .inr (.inr (some 14))]) (nc' := 126) (np' := 138) (M' := M) 3 rfl ?_
    obtain ⟨M2, hv, h⟩ := ob_i h
    refine ev_call (t := 18) (as := [.inr (.inr (some 14)), .inl (x1)]) (rest := []) rfl rfl rfl (by omega) (Tape_put_e (by omega) (x1) M _ hv) ?_
    refine ev_k (pc' := 27) (ls' := [(0, .inr (.inr (some 0))), (1, .inl (x1)), (2, .inl (x2)), (3, .inl (x3)), (4, .inl (x4)), (5, .inl (x5))]) (st' := [.inl (x2), .inr (.inr (some 14))]) (nc' := 126) (np' := 138) (M' := M2) 3 rfl ?_
    obtain ⟨M3, hv, h⟩ := ob_i h
    refine ev_call (t := 18) (as := [.inr (.inr (some 14)), .inl (x2)]) (rest := []) rfl rfl rfl (by omega) (Tape_put_e (by omega) (x2) M2 _ hv) ?_
    refine ev_k (pc' := 35) (ls' := [(0, .inr (.inr (some 0))), (1, .inl (x1)), (2, .inl (x2)), (3, .inl (x3)), (4, .inl (x4)), (5, .inl (x5))]) (st' := [.inl (x3), .inr (.inr (some 14))]) (nc' := 126) (np' := 138) (M' := M3) 3 rfl ?_
    obtain ⟨M4, hv, h⟩ := ob_i h
    refine ev_call (t := 18) (as := [.inr (.inr (some 14)), .inl (x3)]) (rest := []) rfl rfl rfl (by omega) (Tape_put_e (by omega) (x3) M3 _ hv) ?_
    refine ev_k (pc' := 44) (ls' := [(0, .inr (.inr (some 0))), (1, .inl (x1)), (2, .inl (x2)), (3, .inl (x3)), (4, .inl (x4)), (5, .inl (x5))]) (st' := [.inl (x4), .inr (.inr (some 14))]) (nc' := 126) (np' := 138) (M' := M4) 3 rfl ?_
    obtain ⟨M5, hv, h⟩ := ob_i h
    refine ev_call (t := 18) (as := [.inr (.inr (some 14)), .inl (x4)]) (rest := []) rfl rfl rfl (by omega) (Tape_put_e (by omega) (x4) M4 _ hv) ?_
    refine ev_k (pc' := 53) (ls' := [(0, .inr (.inr (some 0))), (1, .inl (x1)), (2, .inl (x2)), (3, .inl (x3)), (4, .inl (x4)), (5, .inl (x5))]) (st' := [.inl (x5), .inr (.inr (some 14))]) (nc' := 126) (np' := 138) (M' := M5) 3 rfl ?_
    obtain ⟨M6, hv, h⟩ := ob_i h
    refine ev_call (t := 18) (as := [.inr (.inr (some 14)), .inl (x5)]) (rest := []) rfl rfl rfl (by omega) (Tape_put_e (by omega) (x5) M5 _ hv) ?_
    refine ev_k (pc' := 60) (ls' := [(0, .inr (.inr (some 0))), (1, .inl (x1)), (2, .inl (x2)), (3, .inl (x3)), (4, .inl (x4)), (5, .inl (x5))]) (st' := [.inr (.inr (some 14))]) (nc' := 126) (np' := 138) (M' := M6) 2 rfl ?_
    obtain ⟨v7, hv, h⟩ := ob_i h
    refine ev_call (t := 19) (as := [.inr (.inr (some 14))]) (rest := []) rfl rfl rfl (by omega) (Tape_size_e (by omega)  M6 _ hv) ?_
    refine ev_k (pc' := 63) (ls' := [(0, .inr (.inr (some 0))), (1, .inl (x1)), (2, .inl (x2)), (3, .inl (x3)), (4, .inl (x4)), (5, .inl (x5))]) (st' := [.inl (v7)]) (nc' := 126) (np' := 138) (M' := M6) 0 rfl ?_
    cases h
    exact ev_ret rfl
  · refine ev_ifc 14 rfl hR.1 (by decide) (fun q => absurd q hc) (fun _ => ?_)
    refine ev_k (pc' := 13) (ls' := [(0, .inr (.inr (some 0))), (1, .inl (x1)), (2, .inl (x2)), (3, .inl (x3)), (4, .inl (x4)), (5, .inl (x5))]) (st' := [.inl (-1)]) (nc' := 126) (np' := 138) (M' := M) 1 rfl ?_
    cases h
    exact ev_ret rfl
def Tape_take_18     (M : am_M) : Option (Int × am_M) := some (0, M)
def Tape_take    (x1 : Int) (x2 : Int) (x3 : Int) (M : am_M) : Option (Int × am_M) := c_lt (x1) (x2)
       (Tape_take_18     M)
       (c_gt (x1) (x3)
       (Tape_take_18     M)
       (c_le (x1) (M 14 1)
       (fw M 14 2 (x1) fun M1 => fw M1 14 1 (0) fun M2 => some (1, M2))
       (Tape_take_18     M)))
theorem Tape_take_18_t {L : Nat} {xs : Nat → Int} {d : Nat} (hd : 0 ≤ d)      (M : am_M) (r : Int × am_M) (h : Tape_take_18     M = some r) : am_Ev L xs d me_21 18 [] [] 126 138 M (some (.inl r.1), 126, 138, r.2) := by
  refine ev_k (pc' := 19) (ls' := []) (st' := [.inl (0)]) (nc' := 126) (np' := 138) (M' := M) 1 rfl ?_
  cases h
  exact ev_ret rfl
theorem Tape_take_e {L : Nat} {xs : Nat → Int} {d : Nat} (hd : 0 ≤ d)   (x1 : Int) (x2 : Int) (x3 : Int) (M : am_M) (r : Int × am_M) (h : Tape_take   x1 x2 x3 M = some r) : am_Ev L xs d me_21 0 (am_ar1 0 [.inr (.inr (some 14)), .inl (x1), .inl (x2), .inl (x3)]) [] 126 138 M (some (.inl r.1), 126, 138, r.2) := by
  refine ev_k (pc' := 2) (ls' := [(0, .inr (.inr (some 14))), (1, .inl (x1)), (2, .inl (x2)), (3, .inl (x3))]) (st' := [.inl (x2), .inl (x1)]) (nc' := 126) (np' := 138) (M' := M) 2 rfl ?_
  obtain ⟨hR, ⟨hc, h⟩ | ⟨hc, h⟩⟩ := c_lt_i h
  · refine ev_icmp 18 rfl hR.1 hR.2 (by decide) (fun _ => ?_) (fun q => absurd hc q)
    exact Tape_take_18_t hd      M r h
  · refine ev_icmp 18 rfl hR.1 hR.2 (by decide) (fun q => absurd q hc) (fun _ => ?_)
    refine ev_k (pc' := 7) (ls' := [(0, .inr (.inr (some 14))), (1, .inl (x1)), (2, .inl (x2)), (3, .inl (x3))]) (st' := [.inl (x3), .inl (x1)]) (nc' := 126) (np' := 138) (M' := M) 2 rfl ?_
    obtain ⟨hR, ⟨hc, h⟩ | ⟨hc, h⟩⟩ := c_gt_i h
    · refine ev_icmp 18 rfl hR.1 hR.2 (by decide) (fun _ => ?_) (fun q => absurd hc q)
      exact Tape_take_18_t hd      M r h
    · refine ev_icmp 18 rfl hR.1 hR.2 (by decide) (fun q => absurd q hc) (fun _ => ?_)
      refine ev_k (pc' := 15) (ls' := [(0, .inr (.inr (some 14))), (1, .inl (x1)), (2, .inl (x2)), (3, .inl (x3))]) (st' := [.inl (M 14 1), .inl (x1)]) (nc' := 126) (np' := 138) (M' := M) 3 rfl ?_
      obtain ⟨hR, ⟨hc, h⟩ | ⟨hc, h⟩⟩ := c_le_i h
      · refine ev_icmp 20 rfl hR.1 hR.2 (by decide) (fun _ => ?_) (fun q => absurd hc q)
        refine ev_k (pc' := 25) (ls' := [(0, .inr (.inr (some 14))), (1, .inl (x1)), (2, .inl (x2)), (3, .inl (x3))]) (st' := []) (nc' := 126) (np' := 138) (M' := am_up M 14 2 (x1)) 3 rfl ?_
        obtain ⟨M1, eM, h⟩ := fw_i h
        rw [← eM]
        refine ev_k (pc' := 30) (ls' := [(0, .inr (.inr (some 14))), (1, .inl (x1)), (2, .inl (x2)), (3, .inl (x3))]) (st' := []) (nc' := 126) (np' := 138) (M' := am_up M1 14 1 (0)) 3 rfl ?_
        obtain ⟨M2, eM, h⟩ := fw_i h
        rw [← eM]
        refine ev_k (pc' := 31) (ls' := [(0, .inr (.inr (some 14))), (1, .inl (x1)), (2, .inl (x2)), (3, .inl (x3))]) (st' := [.inl (1)]) (nc' := 126) (np' := 138) (M' := M2) 1 rfl ?_
        cases h
        exact ev_ret rfl
      · refine ev_icmp 20 rfl hR.1 hR.2 (by decide) (fun q => absurd q hc) (fun _ => ?_)
        exact Tape_take_18_t hd      M r h
def Tape_at_29    (s0 : Int) (M : am_M) : Option (Int) := some (s0)
def Tape_at_28     (M : am_M) : Option (Int) := (Tape_at_29    (-1) M)
def Tape_at    (x1 : Int) (M : am_M) : Option (Int) := c_lt (x1) (0)
       (Tape_at_28     M)
       (c_ge (x1) (M 14 2)
       (Tape_at_28     M)
       (c_ge (x1) (260)
       (Tape_at_28     M)
       (rd M 15 260 (x1) fun v1 => (Tape_at_29    (v1) M))))
theorem Tape_at_29_t {L : Nat} {xs : Nat → Int} {d : Nat} (hd : 0 ≤ d)     (s0 : Int) (M : am_M) (r : Int) (h : Tape_at_29    s0 M = some r) : am_Ev L xs d me_23 29 [] [.inl (s0)] 126 138 M (some (.inl r), 126, 138, M) := by
  refine ev_k (pc' := 29) (ls' := []) (st' := [.inl (s0)]) (nc' := 126) (np' := 138) (M' := M) 0 rfl ?_
  cases h
  exact ev_ret rfl
theorem Tape_at_28_t {L : Nat} {xs : Nat → Int} {d : Nat} (hd : 0 ≤ d)      (M : am_M) (r : Int) (h : Tape_at_28     M = some r) : am_Ev L xs d me_23 28 [] [] 126 138 M (some (.inl r), 126, 138, M) := by
  refine ev_k (pc' := 29) (ls' := []) (st' := [.inl (-1)]) (nc' := 126) (np' := 138) (M' := M) 1 rfl ?_
  exact Tape_at_29_t hd     (-1) M r h
theorem Tape_at_e {L : Nat} {xs : Nat → Int} {d : Nat} (hd : 0 ≤ d)   (x1 : Int) (M : am_M) (r : Int) (h : Tape_at   x1 M = some r) : am_Ev L xs d me_23 0 (am_ar1 0 [.inr (.inr (some 14)), .inl (x1)]) [] 126 138 M (some (.inl r), 126, 138, M) := by
  refine ev_k (pc' := 1) (ls' := [(0, .inr (.inr (some 14))), (1, .inl (x1))]) (st' := [.inl (x1)]) (nc' := 126) (np' := 138) (M' := M) 1 rfl ?_
  obtain ⟨hR, ⟨hc, h⟩ | ⟨hc, h⟩⟩ := c_lt_i h
  · refine ev_ifc 28 rfl hR.1 (by decide) (fun _ => ?_) (fun q => absurd hc q)
    exact Tape_at_28_t hd      M r h
  · refine ev_ifc 28 rfl hR.1 (by decide) (fun q => absurd q hc) (fun _ => ?_)
    refine ev_k (pc' := 9) (ls' := [(0, .inr (.inr (some 14))), (1, .inl (x1))]) (st' := [.inl (M 14 2), .inl (x1)]) (nc' := 126) (np' := 138) (M' := M) 3 rfl ?_
    obtain ⟨hR, ⟨hc, h⟩ | ⟨hc, h⟩⟩ := c_ge_i h
    · refine ev_icmp 28 rfl hR.1 hR.2 (by decide) (fun _ => ?_) (fun q => absurd hc q)
      exact Tape_at_28_t hd      M r h
    · refine ev_icmp 28 rfl hR.1 hR.2 (by decide) (fun q => absurd q hc) (fun _ => ?_)
      refine ev_k (pc' := 16) (ls' := [(0, .inr (.inr (some 14))), (1, .inl (x1))]) (st' := [.inl (260), .inl (x1)]) (nc' := 126) (np' := 138) (M' := M) 2 rfl ?_
      obtain ⟨hR, ⟨hc, h⟩ | ⟨hc, h⟩⟩ := c_ge_i h
      · refine ev_icmp 28 rfl hR.1 hR.2 (by decide) (fun _ => ?_) (fun q => absurd hc q)
        exact Tape_at_28_t hd      M r h
      · refine ev_icmp 28 rfl hR.1 hR.2 (by decide) (fun q => absurd q hc) (fun _ => ?_)
        refine ev_k (pc' := 24) (ls' := [(0, .inr (.inr (some 14))), (1, .inl (x1))]) (st' := [.inl (x1), .inr (.inr (some 15))]) (nc' := 126) (np' := 138) (M' := M) 3 rfl ?_
        obtain ⟨hc, v1, ev, h⟩ := rd_i h
        refine ev_ald (k := 15) (t := 0) (Or.inl ⟨rfl, rfl⟩) rfl (by decide) (by decide) rfl hc ev ?_
        refine ev_k (pc' := 29) (ls' := []) (st' := [.inl (v1)]) (nc' := 126) (np' := 138) (M' := M) 1 rfl ?_
        exact Tape_at_29_t hd     (v1) M r h
def Country_cellsNotJungle_1_24   (k4 : Int → Int → am_M → Option (Int)) (x1 : Int) (x2 : Int) (M : am_M) : Option (Int) := (k4 (x1) ((x2) + (1)) M)
def Country_cellsNotJungle_1_4    : Nat → Int → Int → am_M → Option (Int)
  | 0, _, _, _ => none
  | n + 1, x1, x2, M => c_ge (x2) (144)
       (some (x1))
       (rd M 2 144 (x2) fun v1 => c_eq (v1) (2)
       (Country_cellsNotJungle_1_24   (Country_cellsNotJungle_1_4    n) (x1) (x2) M)
       ((Country_cellsNotJungle_1_24   (Country_cellsNotJungle_1_4    n) ((x1) + (1)) (x2) M)))
def Country_cellsNotJungle_1     (M : am_M) : Option (Int) := (Country_cellsNotJungle_1_4    am_big (0) (0) M)
theorem Country_cellsNotJungle_1_24_t {L : Nat} {xs : Nat → Int} {d : Nat} (hd : 0 ≤ d)   (k4 : Int → Int → am_M → Option (Int)) (hk4 : ∀ (x1 : Int) (x2 : Int) (M : am_M) (r : Int), k4 x1 x2 M = some r → am_Ev L xs d me_30 4 [(0, .inr (.inr (some 1))), (1, .inl (x1)), (2, .inl (x2))] [] 126 138 M (some (.inl r), 126, 138, M)) (x1 : Int) (x2 : Int) (M : am_M) (r : Int) (h : Country_cellsNotJungle_1_24   k4 x1 x2 M = some r) : am_Ev L xs d me_30 24 [(0, .inr (.inr (some 1))), (1, .inl (x1)), (2, .inl (x2))] [] 126 138 M (some (.inl r), 126, 138, M) := by
  refine ev_k (pc' := 4) (ls' := [(0, .inr (.inr (some 1))), (1, .inl (x1)), (2, .inl ((x2) + (1)))]) (st' := []) (nc' := 126) (np' := 138) (M' := M) 2 rfl ?_
  exact hk4 (x1) ((x2) + (1)) M r h
theorem Country_cellsNotJungle_1_4_t {L : Nat} {xs : Nat → Int} {d : Nat} (hd : 0 ≤ d)     : ∀ (n : Nat) (x1 : Int) (x2 : Int) (M : am_M) (r : Int), Country_cellsNotJungle_1_4    n x1 x2 M = some r → am_Ev L xs d me_30 4 [(0, .inr (.inr (some 1))), (1, .inl (x1)), (2, .inl (x2))] [] 126 138 M (some (.inl r), 126, 138, M)
  | 0, _, _, M, r, h => by cases h
  | n + 1, x1, x2, M, r, h => by
    have ih := Country_cellsNotJungle_1_4_t (L := L) (xs := xs) hd     n
    refine ev_k (pc' := 8) (ls' := [(0, .inr (.inr (some 1))), (1, .inl (x1)), (2, .inl (x2))]) (st' := [.inl (144), .inl (x2)]) (nc' := 126) (np' := 138) (M' := M) 2 rfl ?_
    obtain ⟨hR, ⟨hc, h⟩ | ⟨hc, h⟩⟩ := c_ge_i h
    · refine ev_icmp 30 rfl hR.1 hR.2 (by decide) (fun _ => ?_) (fun q => absurd hc q)
      refine ev_k (pc' := 31) (ls' := [(0, .inr (.inr (some 1))), (1, .inl (x1)), (2, .inl (x2))]) (st' := [.inl (x1)]) (nc' := 126) (np' := 138) (M' := M) 1 rfl ?_
      cases h
      exact ev_ret rfl
    · refine ev_icmp 30 rfl hR.1 hR.2 (by decide) (fun q => absurd q hc) (fun _ => ?_)
      refine ev_k (pc' := 16) (ls' := [(0, .inr (.inr (some 1))), (1, .inl (x1)), (2, .inl (x2))]) (st' := [.inl (x2), .inr (.inr (some 2))]) (nc' := 126) (np' := 138) (M' := M) 3 rfl ?_
      obtain ⟨hc, v1, ev, h⟩ := rd_i h
      refine ev_ald (k := 2) (t := 0) (Or.inl ⟨rfl, rfl⟩) rfl (by decide) (by decide) rfl hc ev ?_
      refine ev_k (pc' := 18) (ls' := [(0, .inr (.inr (some 1))), (1, .inl (x1)), (2, .inl (x2))]) (st' := [.inl (2), .inl (v1)]) (nc' := 126) (np' := 138) (M' := M) 1 rfl ?_
      obtain ⟨hR, ⟨hc, h⟩ | ⟨hc, h⟩⟩ := c_eq_i h
      · refine ev_icmp 24 rfl hR.1 hR.2 (by decide) (fun _ => ?_) (fun q => absurd hc q)
        exact Country_cellsNotJungle_1_24_t hd   (Country_cellsNotJungle_1_4    n) ih (x1) (x2) M r h
      · refine ev_icmp 24 rfl hR.1 hR.2 (by decide) (fun q => absurd q hc) (fun _ => ?_)
        refine ev_k (pc' := 24) (ls' := [(0, .inr (.inr (some 1))), (1, .inl ((x1) + (1))), (2, .inl (x2))]) (st' := []) (nc' := 126) (np' := 138) (M' := M) 1 rfl ?_
        exact Country_cellsNotJungle_1_24_t hd   (Country_cellsNotJungle_1_4    n) ih ((x1) + (1)) (x2) M r h
theorem Country_cellsNotJungle_1_e {L : Nat} {xs : Nat → Int} {d : Nat} (hd : 0 ≤ d)    (M : am_M) (r : Int) (h : Country_cellsNotJungle_1    M = some r) : am_Ev L xs d me_30 0 (am_ar1 0 [.inr (.inr (some 1))]) [] 126 138 M (some (.inl r), 126, 138, M) := by
  refine ev_k (pc' := 4) (ls' := [(0, .inr (.inr (some 1))), (1, .inl (0)), (2, .inl (0))]) (st' := []) (nc' := 126) (np' := 138) (M' := M) 4 rfl ?_
  exact Country_cellsNotJungle_1_4_t hd     am_big (0) (0) M r h
def P_faultAt    (x0 : Int) (x1 : Int) (M : am_M) : Option (Int) := some (((-1000) * (x0)) - (x1))
theorem P_faultAt_e {L : Nat} {xs : Nat → Int} {d : Nat} (hd : 0 ≤ d)   (x0 : Int) (x1 : Int) (M : am_M) (r : Int) (h : P_faultAt   x0 x1 M = some r) : am_Ev L xs d me_24 0 (am_ar1 0 [.inl (x0), .inl (x1)]) [] 126 138 M (some (.inl r), 126, 138, M) := by
  refine ev_k (pc' := 7) (ls' := [(0, .inl (x0)), (1, .inl (x1))]) (st' := [.inl (((-1000) * (x0)) - (x1))]) (nc' := 126) (np' := 138) (M' := M) 5 rfl ?_
  cases h
  exact ev_ret rfl
def Country_repeatRow_1_48   (k2 : Int → Int → Int → am_M → Option (Int × am_M)) (x1 : Int) (x2 : Int) (x3 : Int) (M : am_M) : Option (Int × am_M) := (k2 (x1) (x2) ((x3) + (1)) M)
def Country_repeatRow_1_2    : Nat → Int → Int → Int → am_M → Option (Int × am_M)
  | 0, _, _, _, _ => none
  | n + 1, x1, x2, x3, M => c_ge (x3) (12)
       (some ((x2) + (1), M))
       (c_lt (((12) * (x1)) + (x3)) (12)
       (Country_repeatRow_1_48   (Country_repeatRow_1_2    n) (x1) (x2) (x3) M)
       (c_ge (((12) * (x1)) + (x3)) (144)
       (Country_repeatRow_1_48   (Country_repeatRow_1_2    n) (x1) (x2) (x3) M)
       (rd M 3 144 ((((12) * (x1)) + (x3)) - (12)) fun v1 => wa M 3 144 (((12) * (x1)) + (x3)) (v1) fun M2 => (Country_repeatRow_1_48   (Country_repeatRow_1_2    n) (x1) (x2) (x3) M2))))
def Country_repeatRow_1    (x1 : Int) (x2 : Int) (M : am_M) : Option (Int × am_M) := (Country_repeatRow_1_2    am_big (x1) (x2) (0) M)
theorem Country_repeatRow_1_48_t {L : Nat} {xs : Nat → Int} {d : Nat} (hd : 0 ≤ d)   (k2 : Int → Int → Int → am_M → Option (Int × am_M)) (hk2 : ∀ (x1 : Int) (x2 : Int) (x3 : Int) (M : am_M) (r : Int × am_M), k2 x1 x2 x3 M = some r → am_Ev L xs d me_25 2 [(0, .inr (.inr (some 1))), (1, .inl (x1)), (2, .inl (x2)), (3, .inl (x3))] [] 126 138 M (some (.inl r.1), 126, 138, r.2)) (x1 : Int) (x2 : Int) (x3 : Int) (M : am_M) (r : Int × am_M) (h : Country_repeatRow_1_48   k2 x1 x2 x3 M = some r) : am_Ev L xs d me_25 48 [(0, .inr (.inr (some 1))), (1, .inl (x1)), (2, .inl (x2)), (3, .inl (x3))] [] 126 138 M (some (.inl r.1), 126, 138, r.2) := by
  refine ev_k (pc' := 2) (ls' := [(0, .inr (.inr (some 1))), (1, .inl (x1)), (2, .inl (x2)), (3, .inl ((x3) + (1)))]) (st' := []) (nc' := 126) (np' := 138) (M' := M) 2 rfl ?_
  exact hk2 (x1) (x2) ((x3) + (1)) M r h
theorem Country_repeatRow_1_2_t {L : Nat} {xs : Nat → Int} {d : Nat} (hd : 0 ≤ d)     : ∀ (n : Nat) (x1 : Int) (x2 : Int) (x3 : Int) (M : am_M) (r : Int × am_M), Country_repeatRow_1_2    n x1 x2 x3 M = some r → am_Ev L xs d me_25 2 [(0, .inr (.inr (some 1))), (1, .inl (x1)), (2, .inl (x2)), (3, .inl (x3))] [] 126 138 M (some (.inl r.1), 126, 138, r.2)
  | 0, _, _, _, M, r, h => by cases h
  | n + 1, x1, x2, x3, M, r, h => by
    have ih := Country_repeatRow_1_2_t (L := L) (xs := xs) hd     n
    refine ev_k (pc' := 5) (ls' := [(0, .inr (.inr (some 1))), (1, .inl (x1)), (2, .inl (x2)), (3, .inl (x3))]) (st' := [.inl (12), .inl (x3)]) (nc' := 126) (np' := 138) (M' := M) 2 rfl ?_
    obtain ⟨hR, ⟨hc, h⟩ | ⟨hc, h⟩⟩ := c_ge_i h
    · refine ev_icmp 54 rfl hR.1 hR.2 (by decide) (fun _ => ?_) (fun q => absurd hc q)
      refine ev_k (pc' := 57) (ls' := [(0, .inr (.inr (some 1))), (1, .inl (x1)), (2, .inl (x2)), (3, .inl (x3))]) (st' := [.inl ((x2) + (1))]) (nc' := 126) (np' := 138) (M' := M) 3 rfl ?_
      cases h
      exact ev_ret rfl
    · refine ev_icmp 54 rfl hR.1 hR.2 (by decide) (fun q => absurd q hc) (fun _ => ?_)
      refine ev_k (pc' := 20) (ls' := [(4, .inl (((12) * (x1)) + (x3))), (0, .inr (.inr (some 1))), (1, .inl (x1)), (2, .inl (x2)), (3, .inl (x3))]) (st' := [.inl (12), .inl (((12) * (x1)) + (x3))]) (nc' := 126) (np' := 138) (M' := M) 8 rfl ?_
      obtain ⟨hR, ⟨hc, h⟩ | ⟨hc, h⟩⟩ := c_lt_i h
      · refine ev_icmp 48 rfl hR.1 hR.2 (by decide) (fun _ => ?_) (fun q => absurd hc q)
        exact Country_repeatRow_1_48_t hd   (Country_repeatRow_1_2    n) ih (x1) (x2) (x3) M r h
      · refine ev_icmp 48 rfl hR.1 hR.2 (by decide) (fun q => absurd q hc) (fun _ => ?_)
        refine ev_k (pc' := 28) (ls' := [(4, .inl (((12) * (x1)) + (x3))), (0, .inr (.inr (some 1))), (1, .inl (x1)), (2, .inl (x2)), (3, .inl (x3))]) (st' := [.inl (144), .inl (((12) * (x1)) + (x3))]) (nc' := 126) (np' := 138) (M' := M) 2 rfl ?_
        obtain ⟨hR, ⟨hc, h⟩ | ⟨hc, h⟩⟩ := c_ge_i h
        · refine ev_icmp 48 rfl hR.1 hR.2 (by decide) (fun _ => ?_) (fun q => absurd hc q)
          exact Country_repeatRow_1_48_t hd   (Country_repeatRow_1_2    n) ih (x1) (x2) (x3) M r h
        · refine ev_icmp 48 rfl hR.1 hR.2 (by decide) (fun q => absurd q hc) (fun _ => ?_)
          refine ev_k (pc' := 46) (ls' := [(4, .inl (((12) * (x1)) + (x3))), (0, .inr (.inr (some 1))), (1, .inl (x1)), (2, .inl (x2)), (3, .inl (x3))]) (st' := [.inl ((((12) * (x1)) + (x3)) - (12)), .inr (.inr (some 3)), .inl (((12) * (x1)) + (x3)), .inr (.inr (some 3))]) (nc' := 126) (np' := 138) (M' := M) 8 rfl ?_
          obtain ⟨hc, v1, ev, h⟩ := rd_i h
          refine ev_ald (k := 3) (t := 0) (Or.inl ⟨rfl, rfl⟩) rfl (by decide) (by decide) rfl hc ev ?_
          refine ev_k (pc' := 47) (ls' := [(4, .inl (((12) * (x1)) + (x3))), (0, .inr (.inr (some 1))), (1, .inl (x1)), (2, .inl (x2)), (3, .inl (x3))]) (st' := [.inl (v1), .inl (((12) * (x1)) + (x3)), .inr (.inr (some 3))]) (nc' := 126) (np' := 138) (M' := M) 0 rfl ?_
          obtain ⟨hc, M2, eM, h⟩ := wa_i h
          refine ev_iast (k := 3) rfl (by decide) rfl hc eM ?_
          exact Country_repeatRow_1_48_t hd   (Country_repeatRow_1_2    n) ih (x1) (x2) (x3) M2 r h
theorem Country_repeatRow_1_e {L : Nat} {xs : Nat → Int} {d : Nat} (hd : 0 ≤ d)   (x1 : Int) (x2 : Int) (M : am_M) (r : Int × am_M) (h : Country_repeatRow_1   x1 x2 M = some r) : am_Ev L xs d me_25 0 (am_ar1 0 [.inr (.inr (some 1)), .inl (x1), .inl (x2)]) [] 126 138 M (some (.inl r.1), 126, 138, r.2) := by
  refine ev_k (pc' := 2) (ls' := [(0, .inr (.inr (some 1))), (1, .inl (x1)), (2, .inl (x2)), (3, .inl (0))]) (st' := []) (nc' := 126) (np' := 138) (M' := M) 2 rfl ?_
  exact Country_repeatRow_1_2_t hd     am_big (x1) (x2) (0) M r h
def Country_kindOfLetter    (x0 : Int) (M : am_M) : Option (Int) := ck (am_R (x0)) ((if (x0) = (98) then
       (some (3)) else
       (if (x0) = (106) then
       (some (2)) else
       (if (x0) = (111) then
       (some (0)) else
       (if (x0) = (112) then
       (some (6)) else
       (if (x0) = (114) then
       (some (4)) else
       (if (x0) = (115) then
       (some (5)) else
       (if (x0) = (116) then
       (some (1)) else
       (some (-1))))))))))
theorem Country_kindOfLetter_e {L : Nat} {xs : Nat → Int} {d : Nat} (hd : 0 ≤ d)   (x0 : Int) (M : am_M) (r : Int) (h : Country_kindOfLetter   x0 M = some r) : am_Ev L xs d me_27 0 (am_ar1 0 [.inl (x0)]) [] 126 138 M (some (.inl r), 126, 138, M) := by
  refine ev_k (pc' := 1) (ls' := [(0, .inl (x0))]) (st' := [.inl (x0)]) (nc' := 126) (np' := 138) (M' := M) 1 rfl ?_
  obtain ⟨hR, h⟩ := ck_i h
  rcases if_i h with ⟨hq, h⟩ | ⟨hq0, h⟩
  · refine ev_tsw 98 rfl hR (97) (Or.inr ⟨by rw [hq]; decide, by rw [hq]; rfl⟩) (by decide) ?_
    refine ev_k (pc' := 99) (ls' := [(0, .inl (x0))]) (st' := [.inl (3)]) (nc' := 126) (np' := 138) (M' := M) 1 rfl ?_
    cases h
    exact ev_ret rfl
  · skip
    rcases if_i h with ⟨hq, h⟩ | ⟨hq1, h⟩
    · refine ev_tsw 96 rfl hR (95) (Or.inr ⟨by rw [hq]; decide, by rw [hq]; rfl⟩) (by decide) ?_
      refine ev_k (pc' := 97) (ls' := [(0, .inl (x0))]) (st' := [.inl (2)]) (nc' := 126) (np' := 138) (M' := M) 1 rfl ?_
      cases h
      exact ev_ret rfl
    · skip
      rcases if_i h with ⟨hq, h⟩ | ⟨hq2, h⟩
      · refine ev_tsw 92 rfl hR (91) (Or.inr ⟨by rw [hq]; decide, by rw [hq]; rfl⟩) (by decide) ?_
        refine ev_k (pc' := 93) (ls' := [(0, .inl (x0))]) (st' := [.inl (0)]) (nc' := 126) (np' := 138) (M' := M) 1 rfl ?_
        cases h
        exact ev_ret rfl
      · skip
        rcases if_i h with ⟨hq, h⟩ | ⟨hq3, h⟩
        · refine ev_tsw 104 rfl hR (103) (Or.inr ⟨by rw [hq]; decide, by rw [hq]; rfl⟩) (by decide) ?_
          refine ev_k (pc' := 106) (ls' := [(0, .inl (x0))]) (st' := [.inl (6)]) (nc' := 126) (np' := 138) (M' := M) 1 rfl ?_
          cases h
          exact ev_ret rfl
        · skip
          rcases if_i h with ⟨hq, h⟩ | ⟨hq4, h⟩
          · refine ev_tsw 100 rfl hR (99) (Or.inr ⟨by rw [hq]; decide, by rw [hq]; rfl⟩) (by decide) ?_
            refine ev_k (pc' := 101) (ls' := [(0, .inl (x0))]) (st' := [.inl (4)]) (nc' := 126) (np' := 138) (M' := M) 1 rfl ?_
            cases h
            exact ev_ret rfl
          · skip
            rcases if_i h with ⟨hq, h⟩ | ⟨hq5, h⟩
            · refine ev_tsw 102 rfl hR (101) (Or.inr ⟨by rw [hq]; decide, by rw [hq]; rfl⟩) (by decide) ?_
              refine ev_k (pc' := 103) (ls' := [(0, .inl (x0))]) (st' := [.inl (5)]) (nc' := 126) (np' := 138) (M' := M) 1 rfl ?_
              cases h
              exact ev_ret rfl
            · skip
              rcases if_i h with ⟨hq, h⟩ | ⟨hq6, h⟩
              · refine ev_tsw 94 rfl hR (93) (Or.inr ⟨by rw [hq]; decide, by rw [hq]; rfl⟩) (by decide) ?_
                refine ev_k (pc' := 95) (ls' := [(0, .inl (x0))]) (st' := [.inl (1)]) (nc' := 126) (np' := 138) (M' := M) 1 rfl ?_
                cases h
                exact ev_ret rfl
              · skip
                have hho : ((x0) < 98 ∨ 116 < (x0)) ∨ ((x0) = 98 ∨ (x0) = 99 ∨ (x0) = 100 ∨ (x0) = 101 ∨ (x0) = 102 ∨ (x0) = 103 ∨ (x0) = 104 ∨ (x0) = 105 ∨ (x0) = 106 ∨ (x0) = 107 ∨ (x0) = 108 ∨ (x0) = 109 ∨ (x0) = 110 ∨ (x0) = 111 ∨ (x0) = 112 ∨ (x0) = 113 ∨ (x0) = 114 ∨ (x0) = 115 ∨ (x0) = 116) := by omega
                refine ev_tsw 107 rfl hR (106) ?_ (by decide) ?_
                · rcases hho with hho | hho
                  · exact Or.inl ⟨hho, rfl⟩
                  · rcases hho with hho | hho | hho | hho | hho | hho | hho | hho | hho | hho | hho | hho | hho | hho | hho | hho | hho | hho | hho
                    · exact absurd hho hq0
                    · exact Or.inr ⟨by rw [hho]; decide, by rw [hho]; rfl⟩
                    · exact Or.inr ⟨by rw [hho]; decide, by rw [hho]; rfl⟩
                    · exact Or.inr ⟨by rw [hho]; decide, by rw [hho]; rfl⟩
                    · exact Or.inr ⟨by rw [hho]; decide, by rw [hho]; rfl⟩
                    · exact Or.inr ⟨by rw [hho]; decide, by rw [hho]; rfl⟩
                    · exact Or.inr ⟨by rw [hho]; decide, by rw [hho]; rfl⟩
                    · exact Or.inr ⟨by rw [hho]; decide, by rw [hho]; rfl⟩
                    · exact absurd hho hq1
                    · exact Or.inr ⟨by rw [hho]; decide, by rw [hho]; rfl⟩
                    · exact Or.inr ⟨by rw [hho]; decide, by rw [hho]; rfl⟩
                    · exact Or.inr ⟨by rw [hho]; decide, by rw [hho]; rfl⟩
                    · exact Or.inr ⟨by rw [hho]; decide, by rw [hho]; rfl⟩
                    · exact absurd hho hq2
                    · exact absurd hho hq3
                    · exact Or.inr ⟨by rw [hho]; decide, by rw [hho]; rfl⟩
                    · exact absurd hho hq4
                    · exact absurd hho hq5
                    · exact absurd hho hq6
                · skip
                  refine ev_k (pc' := 108) (ls' := [(0, .inl (x0))]) (st' := [.inl (-1)]) (nc' := 126) (np' := 138) (M' := M) 1 rfl ?_
                  cases h
                  exact ev_ret rfl
def P_isDigit_17    (s0 : Int) (M : am_M) : Option (Int) := ck ((s0) = 0 ∨ (s0) = 1) (some (s0))
def P_isDigit_16     (M : am_M) : Option (Int) := (P_isDigit_17    (0) M)
def P_isDigit    (x0 : Int) (M : am_M) : Option (Int) := c_lt (x0) (48)
       (P_isDigit_16     M)
       (c_gt (x0) (57)
       (P_isDigit_16     M)
       ((P_isDigit_17    (1) M)))
theorem P_isDigit_17_t {L : Nat} {xs : Nat → Int} {d : Nat} (hd : 0 ≤ d)     (s0 : Int) (M : am_M) (r : Int) (h : P_isDigit_17    s0 M = some r) : am_Ev L xs d me_28 17 [] [.inl (s0)] 126 138 M (some (.inl r), 126, 138, M) := by
  refine ev_k (pc' := 17) (ls' := []) (st' := [.inl (s0)]) (nc' := 126) (np' := 138) (M' := M) 0 rfl ?_
  obtain ⟨hc, h⟩ := ck_i h
  cases h
  exact ev_retz rfl rfl hc
theorem P_isDigit_16_t {L : Nat} {xs : Nat → Int} {d : Nat} (hd : 0 ≤ d)      (M : am_M) (r : Int) (h : P_isDigit_16     M = some r) : am_Ev L xs d me_28 16 [] [] 126 138 M (some (.inl r), 126, 138, M) := by
  refine ev_k (pc' := 17) (ls' := []) (st' := [.inl (0)]) (nc' := 126) (np' := 138) (M' := M) 1 rfl ?_
  exact P_isDigit_17_t hd     (0) M r h
theorem P_isDigit_e {L : Nat} {xs : Nat → Int} {d : Nat} (hd : 0 ≤ d)   (x0 : Int) (M : am_M) (r : Int) (h : P_isDigit   x0 M = some r) : am_Ev L xs d me_28 0 (am_ar1 0 [.inl (x0)]) [] 126 138 M (some (.inl r), 126, 138, M) := by
  refine ev_k (pc' := 3) (ls' := [(0, .inl (x0))]) (st' := [.inl (48), .inl (x0)]) (nc' := 126) (np' := 138) (M' := M) 2 rfl ?_
  obtain ⟨hR, ⟨hc, h⟩ | ⟨hc, h⟩⟩ := c_lt_i h
  · refine ev_icmp 16 rfl hR.1 hR.2 (by decide) (fun _ => ?_) (fun q => absurd hc q)
    exact P_isDigit_16_t hd      M r h
  · refine ev_icmp 16 rfl hR.1 hR.2 (by decide) (fun q => absurd q hc) (fun _ => ?_)
    refine ev_k (pc' := 9) (ls' := [(0, .inl (x0))]) (st' := [.inl (57), .inl (x0)]) (nc' := 126) (np' := 138) (M' := M) 2 rfl ?_
    obtain ⟨hR, ⟨hc, h⟩ | ⟨hc, h⟩⟩ := c_gt_i h
    · refine ev_icmp 16 rfl hR.1 hR.2 (by decide) (fun _ => ?_) (fun q => absurd hc q)
      exact P_isDigit_16_t hd      M r h
    · refine ev_icmp 16 rfl hR.1 hR.2 (by decide) (fun q => absurd q hc) (fun _ => ?_)
      refine ev_k (pc' := 17) (ls' := []) (st' := [.inl (1)]) (nc' := 126) (np' := 138) (M' := M) 2 rfl ?_
      exact P_isDigit_17_t hd     (1) M r h
def Country_isCell_16    (s0 : Int) (M : am_M) : Option (Int) := ck ((s0) = 0 ∨ (s0) = 1) (some (s0))
def Country_isCell_15     (M : am_M) : Option (Int) := (Country_isCell_16    (0) M)
def Country_isCell    (x0 : Int) (M : am_M) : Option (Int) := c_lt (x0) (0)
       (Country_isCell_15     M)
       (c_ge (x0) (144)
       (Country_isCell_15     M)
       ((Country_isCell_16    (1) M)))
theorem Country_isCell_16_t {L : Nat} {xs : Nat → Int} {d : Nat} (hd : 0 ≤ d)     (s0 : Int) (M : am_M) (r : Int) (h : Country_isCell_16    s0 M = some r) : am_Ev L xs d me_9 16 [] [.inl (s0)] 126 138 M (some (.inl r), 126, 138, M) := by
  refine ev_k (pc' := 16) (ls' := []) (st' := [.inl (s0)]) (nc' := 126) (np' := 138) (M' := M) 0 rfl ?_
  obtain ⟨hc, h⟩ := ck_i h
  cases h
  exact ev_retz rfl rfl hc
theorem Country_isCell_15_t {L : Nat} {xs : Nat → Int} {d : Nat} (hd : 0 ≤ d)      (M : am_M) (r : Int) (h : Country_isCell_15     M = some r) : am_Ev L xs d me_9 15 [] [] 126 138 M (some (.inl r), 126, 138, M) := by
  refine ev_k (pc' := 16) (ls' := []) (st' := [.inl (0)]) (nc' := 126) (np' := 138) (M' := M) 1 rfl ?_
  exact Country_isCell_16_t hd     (0) M r h
theorem Country_isCell_e {L : Nat} {xs : Nat → Int} {d : Nat} (hd : 0 ≤ d)   (x0 : Int) (M : am_M) (r : Int) (h : Country_isCell   x0 M = some r) : am_Ev L xs d me_9 0 (am_ar1 0 [.inl (x0)]) [] 126 138 M (some (.inl r), 126, 138, M) := by
  refine ev_k (pc' := 1) (ls' := [(0, .inl (x0))]) (st' := [.inl (x0)]) (nc' := 126) (np' := 138) (M' := M) 1 rfl ?_
  obtain ⟨hR, ⟨hc, h⟩ | ⟨hc, h⟩⟩ := c_lt_i h
  · refine ev_ifc 15 rfl hR.1 (by decide) (fun _ => ?_) (fun q => absurd hc q)
    exact Country_isCell_15_t hd      M r h
  · refine ev_ifc 15 rfl hR.1 (by decide) (fun q => absurd q hc) (fun _ => ?_)
    refine ev_k (pc' := 8) (ls' := [(0, .inl (x0))]) (st' := [.inl (144), .inl (x0)]) (nc' := 126) (np' := 138) (M' := M) 2 rfl ?_
    obtain ⟨hR, ⟨hc, h⟩ | ⟨hc, h⟩⟩ := c_ge_i h
    · refine ev_icmp 15 rfl hR.1 hR.2 (by decide) (fun _ => ?_) (fun q => absurd hc q)
      exact Country_isCell_15_t hd      M r h
    · refine ev_icmp 15 rfl hR.1 hR.2 (by decide) (fun q => absurd q hc) (fun _ => ?_)
      refine ev_k (pc' := 16) (ls' := []) (st' := [.inl (1)]) (nc' := 126) (np' := 138) (M' := M) 2 rfl ?_
      exact Country_isCell_16_t hd     (1) M r h
def Country_layRun_1_27   (k3 : Int → Int → Int → Int → am_M → Option (am_M)) (x1 : Int) (x2 : Int) (x3 : Int) (x4 : Int) (M : am_M) : Option (am_M) := (k3 (x1) (x2) (x3) ((x4) + (1)) M)
def Country_layRun_1_3    : Nat → Int → Int → Int → Int → am_M → Option (am_M)
  | 0, _, _, _, _, _ => none
  | n + 1, x1, x2, x3, x4, M => c_ge (x4) ((x1) + (x2))
       (some (M))
       (ob (Country_isCell (x4) M) fun v1 => c_eq (v1) (0)
       (Country_layRun_1_27   (Country_layRun_1_3    n) (x1) (x2) (x3) (x4) M)
       (wa M 3 144 (x4) (x3) fun M2 => (Country_layRun_1_27   (Country_layRun_1_3    n) (x1) (x2) (x3) (x4) M2)))
def Country_layRun_1    (x1 : Int) (x2 : Int) (x3 : Int) (M : am_M) : Option (am_M) := (Country_layRun_1_3    am_big (x1) (x2) (x3) (x1) M)
theorem Country_layRun_1_27_t {L : Nat} {xs : Nat → Int} {d : Nat} (hd : 1 ≤ d)   (k3 : Int → Int → Int → Int → am_M → Option (am_M)) (hk3 : ∀ (x1 : Int) (x2 : Int) (x3 : Int) (x4 : Int) (M : am_M) (r : am_M), k3 x1 x2 x3 x4 M = some r → am_Ev L xs d me_29 3 [(0, .inr (.inr (some 1))), (1, .inl (x1)), (2, .inl (x2)), (3, .inl (x3)), (4, .inl (x4))] [] 126 138 M (none, 126, 138, r)) (x1 : Int) (x2 : Int) (x3 : Int) (x4 : Int) (M : am_M) (r : am_M) (h : Country_layRun_1_27   k3 x1 x2 x3 x4 M = some r) : am_Ev L xs d me_29 27 [(0, .inr (.inr (some 1))), (1, .inl (x1)), (2, .inl (x2)), (3, .inl (x3)), (4, .inl (x4))] [] 126 138 M (none, 126, 138, r) := by
  refine ev_k (pc' := 3) (ls' := [(0, .inr (.inr (some 1))), (1, .inl (x1)), (2, .inl (x2)), (3, .inl (x3)), (4, .inl ((x4) + (1)))]) (st' := []) (nc' := 126) (np' := 138) (M' := M) 2 rfl ?_
  exact hk3 (x1) (x2) (x3) ((x4) + (1)) M r h
theorem Country_layRun_1_3_t {L : Nat} {xs : Nat → Int} {d : Nat} (hd : 1 ≤ d)     : ∀ (n : Nat) (x1 : Int) (x2 : Int) (x3 : Int) (x4 : Int) (M : am_M) (r : am_M), Country_layRun_1_3    n x1 x2 x3 x4 M = some r → am_Ev L xs d me_29 3 [(0, .inr (.inr (some 1))), (1, .inl (x1)), (2, .inl (x2)), (3, .inl (x3)), (4, .inl (x4))] [] 126 138 M (none, 126, 138, r)
  | 0, _, _, _, _, M, r, h => by cases h
  | n + 1, x1, x2, x3, x4, M, r, h => by
    have ih := Country_layRun_1_3_t (L := L) (xs := xs) hd     n
    refine ev_k (pc' := 8) (ls' := [(0, .inr (.inr (some 1))), (1, .inl (x1)), (2, .inl (x2)), (3, .inl (x3)), (4, .inl (x4))]) (st' := [.inl ((x1) + (x2)), .inl (x4)]) (nc' := 126) (np' := 138) (M' := M) 4 rfl ?_
    obtain ⟨hR, ⟨hc, h⟩ | ⟨hc, h⟩⟩ := c_ge_i h
    · refine ev_icmp 33 rfl hR.1 hR.2 (by decide) (fun _ => ?_) (fun q => absurd hc q)
      refine ev_k (pc' := 33) (ls' := [(0, .inr (.inr (some 1))), (1, .inl (x1)), (2, .inl (x2)), (3, .inl (x3)), (4, .inl (x4))]) (st' := []) (nc' := 126) (np' := 138) (M' := M) 0 rfl ?_
      cases h
      exact ev_ret rfl
    · refine ev_icmp 33 rfl hR.1 hR.2 (by decide) (fun q => absurd q hc) (fun _ => ?_)
      refine ev_k (pc' := 13) (ls' := [(0, .inr (.inr (some 1))), (1, .inl (x1)), (2, .inl (x2)), (3, .inl (x3)), (4, .inl (x4))]) (st' := [.inl (x4)]) (nc' := 126) (np' := 138) (M' := M) 1 rfl ?_
      obtain ⟨v1, hv, h⟩ := ob_i h
      refine ev_call (t := 9) (as := [.inl (x4)]) (rest := []) rfl rfl rfl (by omega) (Country_isCell_e (by omega) (x4) M _ hv) ?_
      refine ev_k (pc' := 16) (ls' := [(0, .inr (.inr (some 1))), (1, .inl (x1)), (2, .inl (x2)), (3, .inl (x3)), (4, .inl (x4))]) (st' := [.inl (v1)]) (nc' := 126) (np' := 138) (M' := M) 0 rfl ?_
      obtain ⟨hR, ⟨hc, h⟩ | ⟨hc, h⟩⟩ := c_eq_i h
      · refine ev_ifc 27 rfl hR.1 (by decide) (fun _ => ?_) (fun q => absurd hc q)
        exact Country_layRun_1_27_t hd   (Country_layRun_1_3    n) ih (x1) (x2) (x3) (x4) M r h
      · refine ev_ifc 27 rfl hR.1 (by decide) (fun q => absurd q hc) (fun _ => ?_)
        refine ev_k (pc' := 26) (ls' := [(0, .inr (.inr (some 1))), (1, .inl (x1)), (2, .inl (x2)), (3, .inl (x3)), (4, .inl (x4))]) (st' := [.inl (x3), .inl (x4), .inr (.inr (some 3))]) (nc' := 126) (np' := 138) (M' := M) 4 rfl ?_
        obtain ⟨hc, M2, eM, h⟩ := wa_i h
        refine ev_iast (k := 3) rfl (by decide) rfl hc eM ?_
        exact Country_layRun_1_27_t hd   (Country_layRun_1_3    n) ih (x1) (x2) (x3) (x4) M2 r h
theorem Country_layRun_1_e {L : Nat} {xs : Nat → Int} {d : Nat} (hd : 1 ≤ d)   (x1 : Int) (x2 : Int) (x3 : Int) (M : am_M) (r : am_M) (h : Country_layRun_1   x1 x2 x3 M = some r) : am_Ev L xs d me_29 0 (am_ar1 0 [.inr (.inr (some 1)), .inl (x1), .inl (x2), .inl (x3)]) [] 126 138 M (none, 126, 138, r) := by
  refine ev_k (pc' := 3) (ls' := [(0, .inr (.inr (some 1))), (1, .inl (x1)), (2, .inl (x2)), (3, .inl (x3)), (4, .inl (x1))]) (st' := []) (nc' := 126) (np' := 138) (M' := M) 2 rfl ?_
  exact Country_layRun_1_3_t hd     am_big (x1) (x2) (x3) (x1) M r h
def Country_readRow_1_112   (k9 : Int → Int → Int → Int → am_M → Option (Int × am_M)) (x2 : Int) (x4 : Int) (x5 : Int) (x6 : Int) (x7 : Int) (x8 : Int) (M : am_M) : Option (Int × am_M) := c_le ((x5) + (x8)) (12)
       (ob (Tape_at (x7) M) fun v1 => ob (Country_kindOfLetter (v1) M) fun v2 => ob (Country_layRun_1 (((12) * (x2)) + (x5)) (x8) (v2) M) fun M3 => (k9 (x2) (x4) ((x5) + (x8)) ((x6) + (1)) M3))
       (ob (P_faultAt (6) (x7) M) fun v4 => some (v4, M))
def Country_readRow_1_100   (k9 : Int → Int → Int → Int → am_M → Option (Int × am_M)) (x2 : Int) (x4 : Int) (x5 : Int) (x6 : Int) (x7 : Int) (x8 : Int) (x9 : Int) (M : am_M) : Option (Int × am_M) := c_ne (x8) (0)
       (Country_readRow_1_112   k9 (x2) (x4) (x5) (x6) (x7) (x8) M)
       (ob (P_faultAt (3) (x9) M) fun v1 => some (v1, M))
def Country_readRow_1_183    (s0 : Int) (M : am_M) : Option (Int × am_M) := some (s0, M)
def Country_readRow_1_165    (x4 : Int) (x5 : Int) (M : am_M) : Option (Int × am_M) := c_ge (x5) (12)
       ((Country_readRow_1_183    (x4) M))
       (ob (P_faultAt (1) (x4) M) fun v1 => (Country_readRow_1_183    (v1) M))
def Country_readRow_1_9    : Nat → Int → Int → Int → Int → am_M → Option (Int × am_M)
  | 0, _, _, _, _, _ => none
  | n + 1, x2, x4, x5, x6, M => c_gt (x6) (12)
       (Country_readRow_1_165    (x4) (x5) M)
       (ob (Tape_at (x4) M) fun v1 => ob (Country_kindOfLetter (v1) M) fun v2 => c_lt (v2) (0)
       (Country_readRow_1_165    (x4) (x5) M)
       (ob (Tape_at ((x4) + (1)) M) fun v3 => ob (P_isDigit (v3) M) fun v4 => c_eq (v4) (0)
       (Country_readRow_1_112   (Country_readRow_1_9    n) (x2) ((x4) + (1)) (x5) (x6) (x4) (1) M)
       (ob (Tape_at ((x4) + (1)) M) fun v5 => ob (Tape_at (((x4) + (1)) + (1)) M) fun v6 => ob (P_isDigit (v6) M) fun v7 => c_eq (v7) (0)
       (Country_readRow_1_100   (Country_readRow_1_9    n) (x2) (((x4) + (1)) + (1)) (x5) (x6) (x4) ((v5) - (48)) ((x4) + (1)) M)
       (ob (Tape_at (((x4) + (1)) + (1)) M) fun v8 => (Country_readRow_1_100   (Country_readRow_1_9    n) (x2) ((((x4) + (1)) + (1)) + (1)) (x5) (x6) (x4) ((((10) * ((v5) - (48))) + (v8)) - (48)) ((x4) + (1)) M)))))
def Country_readRow_1    (x2 : Int) (x3 : Int) (M : am_M) : Option (Int × am_M) := (Country_readRow_1_9    am_big (x2) (x3) (0) (0) M)
theorem Country_readRow_1_112_t {L : Nat} {xs : Nat → Int} {d : Nat} (hd : 2 ≤ d)   (k9 : Int → Int → Int → Int → am_M → Option (Int × am_M)) (hk9 : ∀ (x2 : Int) (x4 : Int) (x5 : Int) (x6 : Int) (M : am_M) (r : Int × am_M), k9 x2 x4 x5 x6 M = some r → am_Ev L xs d me_26 9 [(0, .inr (.inr (some 1))), (1, .inr (.inr (some 14))), (2, .inl (x2)), (4, .inl (x4)), (5, .inl (x5)), (6, .inl (x6))] [] 126 138 M (some (.inl r.1), 126, 138, r.2)) (x2 : Int) (x4 : Int) (x5 : Int) (x6 : Int) (x7 : Int) (x8 : Int) (M : am_M) (r : Int × am_M) (h : Country_readRow_1_112   k9 x2 x4 x5 x6 x7 x8 M = some r) : am_Ev L xs d me_26 112 [(0, .inr (.inr (some 1))), (1, .inr (.inr (some 14))), (2, .inl (x2)), (4, .inl (x4)), (5, .inl (x5)), (6, .inl (x6)), (7, .inl (x7)), (8, .inl (x8))] [] 126 138 M (some (.inl r.1), 126, 138, r.2) := by
  refine ev_k (pc' := 119) (ls' := [(0, .inr (.inr (some 1))), (1, .inr (.inr (some 14))), (2, .inl (x2)), (4, .inl (x4)), (5, .inl (x5)), (6, .inl (x6)), (7, .inl (x7)), (8, .inl (x8))]) (st' := [.inl (12), .inl ((x5) + (x8))]) (nc' := 126) (np' := 138) (M' := M) 4 rfl ?_
  obtain ⟨hR, ⟨hc, h⟩ | ⟨hc, h⟩⟩ := c_le_i h
  · refine ev_icmp 130 rfl hR.1 hR.2 (by decide) (fun _ => ?_) (fun q => absurd hc q)
    refine ev_k (pc' := 143) (ls' := [(0, .inr (.inr (some 1))), (1, .inr (.inr (some 14))), (2, .inl (x2)), (4, .inl (x4)), (5, .inl (x5)), (6, .inl (x6)), (7, .inl (x7)), (8, .inl (x8))]) (st' := [.inl (x7), .inr (.inr (some 14)), .inl (x8), .inl (((12) * (x2)) + (x5)), .inr (.inr (some 1))]) (nc' := 126) (np' := 138) (M' := M) 9 rfl ?_
    obtain ⟨v1, hv, h⟩ := ob_i h
    refine ev_call (t := 23) (as := [.inr (.inr (some 14)), .inl (x7)]) (rest := [.inl (x8), .inl (((12) * (x2)) + (x5)), .inr (.inr (some 1))]) rfl rfl rfl (by omega) (Tape_at_e (by omega) (x7) M _ hv) ?_
    refine ev_k (pc' := 146) (ls' := [(0, .inr (.inr (some 1))), (1, .inr (.inr (some 14))), (2, .inl (x2)), (4, .inl (x4)), (5, .inl (x5)), (6, .inl (x6)), (7, .inl (x7)), (8, .inl (x8))]) (st' := [.inl (v1), .inl (x8), .inl (((12) * (x2)) + (x5)), .inr (.inr (some 1))]) (nc' := 126) (np' := 138) (M' := M) 0 rfl ?_
    obtain ⟨v2, hv, h⟩ := ob_i h
    refine ev_call (t := 27) (as := [.inl (v1)]) (rest := [.inl (x8), .inl (((12) * (x2)) + (x5)), .inr (.inr (some 1))]) rfl rfl rfl (by omega) (Country_kindOfLetter_e (by omega) (v1) M _ hv) ?_
    refine ev_k (pc' := 149) (ls' := [(0, .inr (.inr (some 1))), (1, .inr (.inr (some 14))), (2, .inl (x2)), (4, .inl (x4)), (5, .inl (x5)), (6, .inl (x6)), (7, .inl (x7)), (8, .inl (x8))]) (st' := [.inl (v2), .inl (x8), .inl (((12) * (x2)) + (x5)), .inr (.inr (some 1))]) (nc' := 126) (np' := 138) (M' := M) 0 rfl ?_
    obtain ⟨M3, hv, h⟩ := ob_i h
    refine ev_call (t := 29) (as := [.inr (.inr (some 1)), .inl (((12) * (x2)) + (x5)), .inl (x8), .inl (v2)]) (rest := []) rfl rfl rfl (by omega) (Country_layRun_1_e (by omega) (((12) * (x2)) + (x5)) (x8) (v2) M _ hv) ?_
    refine ev_k (pc' := 9) (ls' := [(0, .inr (.inr (some 1))), (1, .inr (.inr (some 14))), (2, .inl (x2)), (4, .inl (x4)), (5, .inl ((x5) + (x8))), (6, .inl ((x6) + (1)))]) (st' := []) (nc' := 126) (np' := 138) (M' := M3) 6 rfl ?_
    exact hk9 (x2) (x4) ((x5) + (x8)) ((x6) + (1)) M3 r h
  · refine ev_icmp 130 rfl hR.1 hR.2 (by decide) (fun q => absurd q hc) (fun _ => ?_)
    refine ev_k (pc' := 126) (ls' := [(0, .inr (.inr (some 1))), (1, .inr (.inr (some 14))), (2, .inl (x2)), (4, .inl (x4)), (5, .inl (x5)), (6, .inl (x6)), (7, .inl (x7)), (8, .inl (x8))]) (st' := [.inl (x7), .inl (6)]) (nc' := 126) (np' := 138) (M' := M) 2 rfl ?_
    obtain ⟨v4, hv, h⟩ := ob_i h
    refine ev_call (t := 24) (as := [.inl (6), .inl (x7)]) (rest := []) rfl rfl rfl (by omega) (P_faultAt_e (by omega) (6) (x7) M _ hv) ?_
    refine ev_k (pc' := 129) (ls' := [(0, .inr (.inr (some 1))), (1, .inr (.inr (some 14))), (2, .inl (x2)), (4, .inl (x4)), (5, .inl (x5)), (6, .inl (x6)), (7, .inl (x7)), (8, .inl (x8))]) (st' := [.inl (v4)]) (nc' := 126) (np' := 138) (M' := M) 0 rfl ?_
    cases h
    exact ev_ret rfl
theorem Country_readRow_1_100_t {L : Nat} {xs : Nat → Int} {d : Nat} (hd : 2 ≤ d)   (k9 : Int → Int → Int → Int → am_M → Option (Int × am_M)) (hk9 : ∀ (x2 : Int) (x4 : Int) (x5 : Int) (x6 : Int) (M : am_M) (r : Int × am_M), k9 x2 x4 x5 x6 M = some r → am_Ev L xs d me_26 9 [(0, .inr (.inr (some 1))), (1, .inr (.inr (some 14))), (2, .inl (x2)), (4, .inl (x4)), (5, .inl (x5)), (6, .inl (x6))] [] 126 138 M (some (.inl r.1), 126, 138, r.2)) (x2 : Int) (x4 : Int) (x5 : Int) (x6 : Int) (x7 : Int) (x8 : Int) (x9 : Int) (M : am_M) (r : Int × am_M) (h : Country_readRow_1_100   k9 x2 x4 x5 x6 x7 x8 x9 M = some r) : am_Ev L xs d me_26 100 [(0, .inr (.inr (some 1))), (1, .inr (.inr (some 14))), (2, .inl (x2)), (4, .inl (x4)), (5, .inl (x5)), (6, .inl (x6)), (7, .inl (x7)), (8, .inl (x8)), (9, .inl (x9))] [] 126 138 M (some (.inl r.1), 126, 138, r.2) := by
  refine ev_k (pc' := 102) (ls' := [(0, .inr (.inr (some 1))), (1, .inr (.inr (some 14))), (2, .inl (x2)), (4, .inl (x4)), (5, .inl (x5)), (6, .inl (x6)), (7, .inl (x7)), (8, .inl (x8)), (9, .inl (x9))]) (st' := [.inl (x8)]) (nc' := 126) (np' := 138) (M' := M) 1 rfl ?_
  obtain ⟨hR, ⟨hc, h⟩ | ⟨hc, h⟩⟩ := c_ne_i h
  · refine ev_ifc 112 rfl hR.1 (by decide) (fun _ => ?_) (fun q => absurd hc q)
    exact Country_readRow_1_112_t hd   k9 hk9 (x2) (x4) (x5) (x6) (x7) (x8) M r h
  · refine ev_ifc 112 rfl hR.1 (by decide) (fun q => absurd q hc) (fun _ => ?_)
    refine ev_k (pc' := 108) (ls' := [(0, .inr (.inr (some 1))), (1, .inr (.inr (some 14))), (2, .inl (x2)), (4, .inl (x4)), (5, .inl (x5)), (6, .inl (x6)), (7, .inl (x7)), (8, .inl (x8)), (9, .inl (x9))]) (st' := [.inl (x9), .inl (3)]) (nc' := 126) (np' := 138) (M' := M) 2 rfl ?_
    obtain ⟨v1, hv, h⟩ := ob_i h
    refine ev_call (t := 24) (as := [.inl (3), .inl (x9)]) (rest := []) rfl rfl rfl (by omega) (P_faultAt_e (by omega) (3) (x9) M _ hv) ?_
    refine ev_k (pc' := 111) (ls' := [(0, .inr (.inr (some 1))), (1, .inr (.inr (some 14))), (2, .inl (x2)), (4, .inl (x4)), (5, .inl (x5)), (6, .inl (x6)), (7, .inl (x7)), (8, .inl (x8)), (9, .inl (x9))]) (st' := [.inl (v1)]) (nc' := 126) (np' := 138) (M' := M) 0 rfl ?_
    cases h
    exact ev_ret rfl
theorem Country_readRow_1_183_t {L : Nat} {xs : Nat → Int} {d : Nat} (hd : 2 ≤ d)     (s0 : Int) (M : am_M) (r : Int × am_M) (h : Country_readRow_1_183    s0 M = some r) : am_Ev L xs d me_26 183 [] [.inl (s0)] 126 138 M (some (.inl r.1), 126, 138, r.2) := by
  refine ev_k (pc' := 183) (ls' := []) (st' := [.inl (s0)]) (nc' := 126) (np' := 138) (M' := M) 0 rfl ?_
  cases h
  exact ev_ret rfl
theorem Country_readRow_1_165_t {L : Nat} {xs : Nat → Int} {d : Nat} (hd : 2 ≤ d)     (x4 : Int) (x5 : Int) (M : am_M) (r : Int × am_M) (h : Country_readRow_1_165    x4 x5 M = some r) : am_Ev L xs d me_26 165 [(4, .inl (x4)), (5, .inl (x5))] [] 126 138 M (some (.inl r.1), 126, 138, r.2) := by
  refine ev_k (pc' := 169) (ls' := [(4, .inl (x4)), (5, .inl (x5))]) (st' := [.inl (12), .inl (x5)]) (nc' := 126) (np' := 138) (M' := M) 2 rfl ?_
  obtain ⟨hR, ⟨hc, h⟩ | ⟨hc, h⟩⟩ := c_ge_i h
  · refine ev_icmp 181 rfl hR.1 hR.2 (by decide) (fun _ => ?_) (fun q => absurd hc q)
    refine ev_k (pc' := 183) (ls' := []) (st' := [.inl (x4)]) (nc' := 126) (np' := 138) (M' := M) 1 rfl ?_
    exact Country_readRow_1_183_t hd     (x4) M r h
  · refine ev_icmp 181 rfl hR.1 hR.2 (by decide) (fun q => absurd q hc) (fun _ => ?_)
    refine ev_k (pc' := 175) (ls' := [(4, .inl (x4)), (5, .inl (x5))]) (st' := [.inl (x4), .inl (1)]) (nc' := 126) (np' := 138) (M' := M) 2 rfl ?_
    obtain ⟨v1, hv, h⟩ := ob_i h
    refine ev_call (t := 24) (as := [.inl (1), .inl (x4)]) (rest := []) rfl rfl rfl (by omega) (P_faultAt_e (by omega) (1) (x4) M _ hv) ?_
    refine ev_k (pc' := 183) (ls' := []) (st' := [.inl (v1)]) (nc' := 126) (np' := 138) (M' := M) 1 rfl ?_
    exact Country_readRow_1_183_t hd     (v1) M r h
theorem Country_readRow_1_9_t {L : Nat} {xs : Nat → Int} {d : Nat} (hd : 2 ≤ d)     : ∀ (n : Nat) (x2 : Int) (x4 : Int) (x5 : Int) (x6 : Int) (M : am_M) (r : Int × am_M), Country_readRow_1_9    n x2 x4 x5 x6 M = some r → am_Ev L xs d me_26 9 [(0, .inr (.inr (some 1))), (1, .inr (.inr (some 14))), (2, .inl (x2)), (4, .inl (x4)), (5, .inl (x5)), (6, .inl (x6))] [] 126 138 M (some (.inl r.1), 126, 138, r.2)
  | 0, _, _, _, _, M, r, h => by cases h
  | n + 1, x2, x4, x5, x6, M, r, h => by
    have ih := Country_readRow_1_9_t (L := L) (xs := xs) hd     n
    refine ev_k (pc' := 13) (ls' := [(0, .inr (.inr (some 1))), (1, .inr (.inr (some 14))), (2, .inl (x2)), (4, .inl (x4)), (5, .inl (x5)), (6, .inl (x6))]) (st' := [.inl (12), .inl (x6)]) (nc' := 126) (np' := 138) (M' := M) 2 rfl ?_
    obtain ⟨hR, ⟨hc, h⟩ | ⟨hc, h⟩⟩ := c_gt_i h
    · refine ev_icmp 165 rfl hR.1 hR.2 (by decide) (fun _ => ?_) (fun q => absurd hc q)
      exact Country_readRow_1_165_t hd     (x4) (x5) M r h
    · refine ev_icmp 165 rfl hR.1 hR.2 (by decide) (fun q => absurd q hc) (fun _ => ?_)
      refine ev_k (pc' := 19) (ls' := [(0, .inr (.inr (some 1))), (1, .inr (.inr (some 14))), (2, .inl (x2)), (4, .inl (x4)), (5, .inl (x5)), (6, .inl (x6))]) (st' := [.inl (x4), .inr (.inr (some 14))]) (nc' := 126) (np' := 138) (M' := M) 2 rfl ?_
      obtain ⟨v1, hv, h⟩ := ob_i h
      refine ev_call (t := 23) (as := [.inr (.inr (some 14)), .inl (x4)]) (rest := []) rfl rfl rfl (by omega) (Tape_at_e (by omega) (x4) M _ hv) ?_
      refine ev_k (pc' := 22) (ls' := [(0, .inr (.inr (some 1))), (1, .inr (.inr (some 14))), (2, .inl (x2)), (4, .inl (x4)), (5, .inl (x5)), (6, .inl (x6))]) (st' := [.inl (v1)]) (nc' := 126) (np' := 138) (M' := M) 0 rfl ?_
      obtain ⟨v2, hv, h⟩ := ob_i h
      refine ev_call (t := 27) (as := [.inl (v1)]) (rest := []) rfl rfl rfl (by omega) (Country_kindOfLetter_e (by omega) (v1) M _ hv) ?_
      refine ev_k (pc' := 25) (ls' := [(0, .inr (.inr (some 1))), (1, .inr (.inr (some 14))), (2, .inl (x2)), (4, .inl (x4)), (5, .inl (x5)), (6, .inl (x6))]) (st' := [.inl (v2)]) (nc' := 126) (np' := 138) (M' := M) 0 rfl ?_
      obtain ⟨hR, ⟨hc, h⟩ | ⟨hc, h⟩⟩ := c_lt_i h
      · refine ev_ifc 165 rfl hR.1 (by decide) (fun _ => ?_) (fun q => absurd hc q)
        exact Country_readRow_1_165_t hd     (x4) (x5) M r h
      · refine ev_ifc 165 rfl hR.1 (by decide) (fun q => absurd q hc) (fun _ => ?_)
        refine ev_k (pc' := 41) (ls' := [(4, .inl ((x4) + (1))), (8, .inl (1)), (7, .inl (x4)), (0, .inr (.inr (some 1))), (1, .inr (.inr (some 14))), (2, .inl (x2)), (5, .inl (x5)), (6, .inl (x6))]) (st' := [.inl ((x4) + (1)), .inr (.inr (some 14))]) (nc' := 126) (np' := 138) (M' := M) 7 rfl ?_
        obtain ⟨v3, hv, h⟩ := ob_i h
        refine ev_call (t := 23) (as := [.inr (.inr (some 14)), .inl ((x4) + (1))]) (rest := []) rfl rfl rfl (by omega) (Tape_at_e (by omega) ((x4) + (1)) M _ hv) ?_
        refine ev_k (pc' := 44) (ls' := [(4, .inl ((x4) + (1))), (8, .inl (1)), (7, .inl (x4)), (0, .inr (.inr (some 1))), (1, .inr (.inr (some 14))), (2, .inl (x2)), (5, .inl (x5)), (6, .inl (x6))]) (st' := [.inl (v3)]) (nc' := 126) (np' := 138) (M' := M) 0 rfl ?_
        obtain ⟨v4, hv, h⟩ := ob_i h
        refine ev_call (t := 28) (as := [.inl (v3)]) (rest := []) rfl rfl rfl (by omega) (P_isDigit_e (by omega) (v3) M _ hv) ?_
        refine ev_k (pc' := 47) (ls' := [(4, .inl ((x4) + (1))), (8, .inl (1)), (7, .inl (x4)), (0, .inr (.inr (some 1))), (1, .inr (.inr (some 14))), (2, .inl (x2)), (5, .inl (x5)), (6, .inl (x6))]) (st' := [.inl (v4)]) (nc' := 126) (np' := 138) (M' := M) 0 rfl ?_
        obtain ⟨hR, ⟨hc, h⟩ | ⟨hc, h⟩⟩ := c_eq_i h
        · refine ev_ifc 112 rfl hR.1 (by decide) (fun _ => ?_) (fun q => absurd hc q)
          exact Country_readRow_1_112_t hd   (Country_readRow_1_9    n) ih (x2) ((x4) + (1)) (x5) (x6) (x4) (1) M r h
        · refine ev_ifc 112 rfl hR.1 (by decide) (fun q => absurd q hc) (fun _ => ?_)
          refine ev_k (pc' := 57) (ls' := [(9, .inl ((x4) + (1))), (4, .inl ((x4) + (1))), (8, .inl (1)), (7, .inl (x4)), (0, .inr (.inr (some 1))), (1, .inr (.inr (some 14))), (2, .inl (x2)), (5, .inl (x5)), (6, .inl (x6))]) (st' := [.inl ((x4) + (1)), .inr (.inr (some 14))]) (nc' := 126) (np' := 138) (M' := M) 4 rfl ?_
          obtain ⟨v5, hv, h⟩ := ob_i h
          refine ev_call (t := 23) (as := [.inr (.inr (some 14)), .inl ((x4) + (1))]) (rest := []) rfl rfl rfl (by omega) (Tape_at_e (by omega) ((x4) + (1)) M _ hv) ?_
          refine ev_k (pc' := 71) (ls' := [(4, .inl (((x4) + (1)) + (1))), (8, .inl ((v5) - (48))), (9, .inl ((x4) + (1))), (7, .inl (x4)), (0, .inr (.inr (some 1))), (1, .inr (.inr (some 14))), (2, .inl (x2)), (5, .inl (x5)), (6, .inl (x6))]) (st' := [.inl (((x4) + (1)) + (1)), .inr (.inr (some 14))]) (nc' := 126) (np' := 138) (M' := M) 6 rfl ?_
          obtain ⟨v6, hv, h⟩ := ob_i h
          refine ev_call (t := 23) (as := [.inr (.inr (some 14)), .inl (((x4) + (1)) + (1))]) (rest := []) rfl rfl rfl (by omega) (Tape_at_e (by omega) (((x4) + (1)) + (1)) M _ hv) ?_
          refine ev_k (pc' := 74) (ls' := [(4, .inl (((x4) + (1)) + (1))), (8, .inl ((v5) - (48))), (9, .inl ((x4) + (1))), (7, .inl (x4)), (0, .inr (.inr (some 1))), (1, .inr (.inr (some 14))), (2, .inl (x2)), (5, .inl (x5)), (6, .inl (x6))]) (st' := [.inl (v6)]) (nc' := 126) (np' := 138) (M' := M) 0 rfl ?_
          obtain ⟨v7, hv, h⟩ := ob_i h
          refine ev_call (t := 28) (as := [.inl (v6)]) (rest := []) rfl rfl rfl (by omega) (P_isDigit_e (by omega) (v6) M _ hv) ?_
          refine ev_k (pc' := 77) (ls' := [(4, .inl (((x4) + (1)) + (1))), (8, .inl ((v5) - (48))), (9, .inl ((x4) + (1))), (7, .inl (x4)), (0, .inr (.inr (some 1))), (1, .inr (.inr (some 14))), (2, .inl (x2)), (5, .inl (x5)), (6, .inl (x6))]) (st' := [.inl (v7)]) (nc' := 126) (np' := 138) (M' := M) 0 rfl ?_
          obtain ⟨hR, ⟨hc, h⟩ | ⟨hc, h⟩⟩ := c_eq_i h
          · refine ev_ifc 100 rfl hR.1 (by decide) (fun _ => ?_) (fun q => absurd hc q)
            exact Country_readRow_1_100_t hd   (Country_readRow_1_9    n) ih (x2) (((x4) + (1)) + (1)) (x5) (x6) (x4) ((v5) - (48)) ((x4) + (1)) M r h
          · refine ev_ifc 100 rfl hR.1 (by decide) (fun q => absurd q hc) (fun _ => ?_)
            refine ev_k (pc' := 88) (ls' := [(4, .inl (((x4) + (1)) + (1))), (8, .inl ((v5) - (48))), (9, .inl ((x4) + (1))), (7, .inl (x4)), (0, .inr (.inr (some 1))), (1, .inr (.inr (some 14))), (2, .inl (x2)), (5, .inl (x5)), (6, .inl (x6))]) (st' := [.inl (((x4) + (1)) + (1)), .inr (.inr (some 14)), .inl ((10) * ((v5) - (48)))]) (nc' := 126) (np' := 138) (M' := M) 5 rfl ?_
            obtain ⟨v8, hv, h⟩ := ob_i h
            refine ev_call (t := 23) (as := [.inr (.inr (some 14)), .inl (((x4) + (1)) + (1))]) (rest := [.inl ((10) * ((v5) - (48)))]) rfl rfl rfl (by omega) (Tape_at_e (by omega) (((x4) + (1)) + (1)) M _ hv) ?_
            refine ev_k (pc' := 100) (ls' := [(0, .inr (.inr (some 1))), (1, .inr (.inr (some 14))), (2, .inl (x2)), (4, .inl ((((x4) + (1)) + (1)) + (1))), (5, .inl (x5)), (6, .inl (x6)), (7, .inl (x4)), (8, .inl ((((10) * ((v5) - (48))) + (v8)) - (48))), (9, .inl ((x4) + (1)))]) (st' := []) (nc' := 126) (np' := 138) (M' := M) 5 rfl ?_
            exact Country_readRow_1_100_t hd   (Country_readRow_1_9    n) ih (x2) ((((x4) + (1)) + (1)) + (1)) (x5) (x6) (x4) ((((10) * ((v5) - (48))) + (v8)) - (48)) ((x4) + (1)) M r h
theorem Country_readRow_1_e {L : Nat} {xs : Nat → Int} {d : Nat} (hd : 2 ≤ d)   (x2 : Int) (x3 : Int) (M : am_M) (r : Int × am_M) (h : Country_readRow_1   x2 x3 M = some r) : am_Ev L xs d me_26 0 (am_ar1 0 [.inr (.inr (some 1)), .inr (.inr (some 14)), .inl (x2), .inl (x3)]) [] 126 138 M (some (.inl r.1), 126, 138, r.2) := by
  refine ev_k (pc' := 9) (ls' := [(0, .inr (.inr (some 1))), (1, .inr (.inr (some 14))), (2, .inl (x2)), (4, .inl (x3)), (5, .inl (0)), (6, .inl (0))]) (st' := []) (nc' := 126) (np' := 138) (M' := M) 6 rfl ?_
  exact Country_readRow_1_9_t hd     am_big (x2) (x3) (0) (0) M r h
def Country_readForest_1_63   (k4 : Int → Int → am_M → Option (Int × am_M)) (x3 : Int) (s0 : Int) (M : am_M) : Option (Int × am_M) := c_ge (s0) (0)
       ((k4 (s0) ((x3) + (1)) M))
       (some (s0, M))
def Country_readForest_1_56   (k4 : Int → Int → am_M → Option (Int × am_M)) (x2 : Int) (x3 : Int) (M : am_M) : Option (Int × am_M) := oc (Country_readRow_1 (x3) (x2) M) fun v1 M2 => (Country_readForest_1_63   k4 (x3) (v1) M2)
def Country_readForest_1_33   (k4 : Int → Int → am_M → Option (Int × am_M)) (x2 : Int) (x3 : Int) (M : am_M) : Option (Int × am_M) := c_le (x3) (0)
       (Country_readForest_1_56   k4 (x2) (x3) M)
       (ob (Tape_at (x2) M) fun v1 => c_ne (v1) (61)
       (Country_readForest_1_56   k4 (x2) (x3) M)
       (oc (Country_repeatRow_1 (x3) (x2) M) fun v2 M3 => (Country_readForest_1_63   k4 (x3) (v2) M3)))
def Country_readForest_1_4    : Nat → Int → Int → am_M → Option (Int × am_M)
  | 0, _, _, _ => none
  | n + 1, x2, x3, M => c_ge (x3) (12)
       (ob (Tape_at (x2) M) fun v1 => c_eq (v1) (-1)
       (cpy M 3 144 2 144 (0) (0) (144) fun M2 => ob (Country_cellsNotJungle_1  M2) fun v3 => some (v3, M2))
       (ob (P_faultAt (1) (x2) M) fun v4 => some (v4, M)))
       (c_le (x3) (0)
       (Country_readForest_1_33   (Country_readForest_1_4    n) (x2) (x3) M)
       (ob (Tape_at (x2) M) fun v5 => c_eq (v5) (47)
       ((Country_readForest_1_33   (Country_readForest_1_4    n) ((x2) + (1)) (x3) M))
       (ob (P_faultAt (1) (x2) M) fun v6 => some (v6, M))))
def Country_readForest_1     (M : am_M) : Option (Int × am_M) := (Country_readForest_1_4    am_big (0) (0) M)
theorem Country_readForest_1_63_t {L : Nat} {xs : Nat → Int} {d : Nat} (hd : 3 ≤ d)   (k4 : Int → Int → am_M → Option (Int × am_M)) (hk4 : ∀ (x2 : Int) (x3 : Int) (M : am_M) (r : Int × am_M), k4 x2 x3 M = some r → am_Ev L xs d me_22 4 [(0, .inr (.inr (some 1))), (1, .inr (.inr (some 14))), (2, .inl (x2)), (3, .inl (x3))] [] 126 138 M (some (.inl r.1), 126, 138, r.2)) (x3 : Int) (s0 : Int) (M : am_M) (r : Int × am_M) (h : Country_readForest_1_63   k4 x3 s0 M = some r) : am_Ev L xs d me_22 63 [(0, .inr (.inr (some 1))), (1, .inr (.inr (some 14))), (3, .inl (x3))] [.inl (s0)] 126 138 M (some (.inl r.1), 126, 138, r.2) := by
  refine ev_k (pc' := 65) (ls' := [(2, .inl (s0)), (0, .inr (.inr (some 1))), (1, .inr (.inr (some 14))), (3, .inl (x3))]) (st' := [.inl (s0)]) (nc' := 126) (np' := 138) (M' := M) 2 rfl ?_
  obtain ⟨hR, ⟨hc, h⟩ | ⟨hc, h⟩⟩ := c_ge_i h
  · refine ev_ifc 70 rfl hR.1 (by decide) (fun _ => ?_) (fun q => absurd hc q)
    refine ev_k (pc' := 4) (ls' := [(0, .inr (.inr (some 1))), (1, .inr (.inr (some 14))), (2, .inl (s0)), (3, .inl ((x3) + (1)))]) (st' := []) (nc' := 126) (np' := 138) (M' := M) 2 rfl ?_
    exact hk4 (s0) ((x3) + (1)) M r h
  · refine ev_ifc 70 rfl hR.1 (by decide) (fun q => absurd q hc) (fun _ => ?_)
    refine ev_k (pc' := 69) (ls' := [(2, .inl (s0)), (0, .inr (.inr (some 1))), (1, .inr (.inr (some 14))), (3, .inl (x3))]) (st' := [.inl (s0)]) (nc' := 126) (np' := 138) (M' := M) 1 rfl ?_
    cases h
    exact ev_ret rfl
theorem Country_readForest_1_56_t {L : Nat} {xs : Nat → Int} {d : Nat} (hd : 3 ≤ d)   (k4 : Int → Int → am_M → Option (Int × am_M)) (hk4 : ∀ (x2 : Int) (x3 : Int) (M : am_M) (r : Int × am_M), k4 x2 x3 M = some r → am_Ev L xs d me_22 4 [(0, .inr (.inr (some 1))), (1, .inr (.inr (some 14))), (2, .inl (x2)), (3, .inl (x3))] [] 126 138 M (some (.inl r.1), 126, 138, r.2)) (x2 : Int) (x3 : Int) (M : am_M) (r : Int × am_M) (h : Country_readForest_1_56   k4 x2 x3 M = some r) : am_Ev L xs d me_22 56 [(0, .inr (.inr (some 1))), (1, .inr (.inr (some 14))), (2, .inl (x2)), (3, .inl (x3))] [] 126 138 M (some (.inl r.1), 126, 138, r.2) := by
  refine ev_k (pc' := 60) (ls' := [(0, .inr (.inr (some 1))), (1, .inr (.inr (some 14))), (2, .inl (x2)), (3, .inl (x3))]) (st' := [.inl (x2), .inl (x3), .inr (.inr (some 14)), .inr (.inr (some 1))]) (nc' := 126) (np' := 138) (M' := M) 4 rfl ?_
  obtain ⟨v1, M2, hv, h⟩ := oc_i h
  refine ev_call (t := 26) (as := [.inr (.inr (some 1)), .inr (.inr (some 14)), .inl (x3), .inl (x2)]) (rest := []) rfl rfl rfl (by omega) (Country_readRow_1_e (by omega) (x3) (x2) M _ hv) ?_
  exact Country_readForest_1_63_t hd   k4 hk4 (x3) (v1) M2 r h
theorem Country_readForest_1_33_t {L : Nat} {xs : Nat → Int} {d : Nat} (hd : 3 ≤ d)   (k4 : Int → Int → am_M → Option (Int × am_M)) (hk4 : ∀ (x2 : Int) (x3 : Int) (M : am_M) (r : Int × am_M), k4 x2 x3 M = some r → am_Ev L xs d me_22 4 [(0, .inr (.inr (some 1))), (1, .inr (.inr (some 14))), (2, .inl (x2)), (3, .inl (x3))] [] 126 138 M (some (.inl r.1), 126, 138, r.2)) (x2 : Int) (x3 : Int) (M : am_M) (r : Int × am_M) (h : Country_readForest_1_33   k4 x2 x3 M = some r) : am_Ev L xs d me_22 33 [(0, .inr (.inr (some 1))), (1, .inr (.inr (some 14))), (2, .inl (x2)), (3, .inl (x3))] [] 126 138 M (some (.inl r.1), 126, 138, r.2) := by
  refine ev_k (pc' := 34) (ls' := [(0, .inr (.inr (some 1))), (1, .inr (.inr (some 14))), (2, .inl (x2)), (3, .inl (x3))]) (st' := [.inl (x3)]) (nc' := 126) (np' := 138) (M' := M) 1 rfl ?_
  obtain ⟨hR, ⟨hc, h⟩ | ⟨hc, h⟩⟩ := c_le_i h
  · refine ev_ifc 56 rfl hR.1 (by decide) (fun _ => ?_) (fun q => absurd hc q)
    exact Country_readForest_1_56_t hd   k4 hk4 (x2) (x3) M r h
  · refine ev_ifc 56 rfl hR.1 (by decide) (fun q => absurd q hc) (fun _ => ?_)
    refine ev_k (pc' := 39) (ls' := [(0, .inr (.inr (some 1))), (1, .inr (.inr (some 14))), (2, .inl (x2)), (3, .inl (x3))]) (st' := [.inl (x2), .inr (.inr (some 14))]) (nc' := 126) (np' := 138) (M' := M) 2 rfl ?_
    obtain ⟨v1, hv, h⟩ := ob_i h
    refine ev_call (t := 23) (as := [.inr (.inr (some 14)), .inl (x2)]) (rest := []) rfl rfl rfl (by omega) (Tape_at_e (by omega) (x2) M _ hv) ?_
    refine ev_k (pc' := 44) (ls' := [(0, .inr (.inr (some 1))), (1, .inr (.inr (some 14))), (2, .inl (x2)), (3, .inl (x3))]) (st' := [.inl (61), .inl (v1)]) (nc' := 126) (np' := 138) (M' := M) 1 rfl ?_
    obtain ⟨hR, ⟨hc, h⟩ | ⟨hc, h⟩⟩ := c_ne_i h
    · refine ev_icmp 56 rfl hR.1 hR.2 (by decide) (fun _ => ?_) (fun q => absurd hc q)
      exact Country_readForest_1_56_t hd   k4 hk4 (x2) (x3) M r h
    · refine ev_icmp 56 rfl hR.1 hR.2 (by decide) (fun q => absurd q hc) (fun _ => ?_)
      refine ev_k (pc' := 50) (ls' := [(0, .inr (.inr (some 1))), (1, .inr (.inr (some 14))), (2, .inl (x2)), (3, .inl (x3))]) (st' := [.inl (x2), .inl (x3), .inr (.inr (some 1))]) (nc' := 126) (np' := 138) (M' := M) 3 rfl ?_
      obtain ⟨v2, M3, hv, h⟩ := oc_i h
      refine ev_call (t := 25) (as := [.inr (.inr (some 1)), .inl (x3), .inl (x2)]) (rest := []) rfl rfl rfl (by omega) (Country_repeatRow_1_e (by omega) (x3) (x2) M _ hv) ?_
      refine ev_k (pc' := 63) (ls' := [(0, .inr (.inr (some 1))), (1, .inr (.inr (some 14))), (3, .inl (x3))]) (st' := [.inl (v2)]) (nc' := 126) (np' := 138) (M' := M3) 1 rfl ?_
      exact Country_readForest_1_63_t hd   k4 hk4 (x3) (v2) M3 r h
theorem Country_readForest_1_4_t {L : Nat} {xs : Nat → Int} {d : Nat} (hd : 3 ≤ d)     : ∀ (n : Nat) (x2 : Int) (x3 : Int) (M : am_M) (r : Int × am_M), Country_readForest_1_4    n x2 x3 M = some r → am_Ev L xs d me_22 4 [(0, .inr (.inr (some 1))), (1, .inr (.inr (some 14))), (2, .inl (x2)), (3, .inl (x3))] [] 126 138 M (some (.inl r.1), 126, 138, r.2)
  | 0, _, _, M, r, h => by cases h
  | n + 1, x2, x3, M, r, h => by
    have ih := Country_readForest_1_4_t (L := L) (xs := xs) hd     n
    refine ev_k (pc' := 7) (ls' := [(0, .inr (.inr (some 1))), (1, .inr (.inr (some 14))), (2, .inl (x2)), (3, .inl (x3))]) (st' := [.inl (12), .inl (x3)]) (nc' := 126) (np' := 138) (M' := M) 2 rfl ?_
    obtain ⟨hR, ⟨hc, h⟩ | ⟨hc, h⟩⟩ := c_ge_i h
    · refine ev_icmp 76 rfl hR.1 hR.2 (by decide) (fun _ => ?_) (fun q => absurd hc q)
      refine ev_k (pc' := 78) (ls' := [(0, .inr (.inr (some 1))), (1, .inr (.inr (some 14))), (2, .inl (x2)), (3, .inl (x3))]) (st' := [.inl (x2), .inr (.inr (some 14))]) (nc' := 126) (np' := 138) (M' := M) 2 rfl ?_
      obtain ⟨v1, hv, h⟩ := ob_i h
      refine ev_call (t := 23) (as := [.inr (.inr (some 14)), .inl (x2)]) (rest := []) rfl rfl rfl (by omega) (Tape_at_e (by omega) (x2) M _ hv) ?_
      refine ev_k (pc' := 82) (ls' := [(0, .inr (.inr (some 1))), (1, .inr (.inr (some 14))), (2, .inl (x2)), (3, .inl (x3))]) (st' := [.inl (-1), .inl (v1)]) (nc' := 126) (np' := 138) (M' := M) 1 rfl ?_
      obtain ⟨hR, ⟨hc, h⟩ | ⟨hc, h⟩⟩ := c_eq_i h
      · refine ev_icmp 91 rfl hR.1 hR.2 (by decide) (fun _ => ?_) (fun q => absurd hc q)
        refine ev_k (pc' := 104) (ls' := [(0, .inr (.inr (some 1))), (1, .inr (.inr (some 14))), (2, .inl (x2)), (3, .inl (x3))]) (st' := [.inl (144), .inl (0), .inr (.inr (some 2)), .inl (0), .inr (.inr (some 3))]) (nc' := 126) (np' := 138) (M' := M) 7 rfl ?_
        obtain ⟨hc, M2, eM, h⟩ := cpy_i h
        refine ev_cpy (s := 3) (dd := 2) rfl rfl (by decide) (by decide) rfl rfl hc rfl (by decide) eM ?_
        refine ev_k (pc' := 108) (ls' := [(0, .inr (.inr (some 1))), (1, .inr (.inr (some 14))), (2, .inl (x2)), (3, .inl (x3))]) (st' := [.inr (.inr (some 1))]) (nc' := 126) (np' := 138) (M' := M2) 1 rfl ?_
        obtain ⟨v3, hv, h⟩ := ob_i h
        refine ev_call (t := 30) (as := [.inr (.inr (some 1))]) (rest := []) rfl rfl rfl (by omega) (Country_cellsNotJungle_1_e (by omega)  M2 _ hv) ?_
        refine ev_k (pc' := 111) (ls' := [(0, .inr (.inr (some 1))), (1, .inr (.inr (some 14))), (2, .inl (x2)), (3, .inl (x3))]) (st' := [.inl (v3)]) (nc' := 126) (np' := 138) (M' := M2) 0 rfl ?_
        cases h
        exact ev_ret rfl
      · refine ev_icmp 91 rfl hR.1 hR.2 (by decide) (fun q => absurd q hc) (fun _ => ?_)
        refine ev_k (pc' := 87) (ls' := [(0, .inr (.inr (some 1))), (1, .inr (.inr (some 14))), (2, .inl (x2)), (3, .inl (x3))]) (st' := [.inl (x2), .inl (1)]) (nc' := 126) (np' := 138) (M' := M) 2 rfl ?_
        obtain ⟨v4, hv, h⟩ := ob_i h
        refine ev_call (t := 24) (as := [.inl (1), .inl (x2)]) (rest := []) rfl rfl rfl (by omega) (P_faultAt_e (by omega) (1) (x2) M _ hv) ?_
        refine ev_k (pc' := 90) (ls' := [(0, .inr (.inr (some 1))), (1, .inr (.inr (some 14))), (2, .inl (x2)), (3, .inl (x3))]) (st' := [.inl (v4)]) (nc' := 126) (np' := 138) (M' := M) 0 rfl ?_
        cases h
        exact ev_ret rfl
    · refine ev_icmp 76 rfl hR.1 hR.2 (by decide) (fun q => absurd q hc) (fun _ => ?_)
      refine ev_k (pc' := 11) (ls' := [(0, .inr (.inr (some 1))), (1, .inr (.inr (some 14))), (2, .inl (x2)), (3, .inl (x3))]) (st' := [.inl (x3)]) (nc' := 126) (np' := 138) (M' := M) 1 rfl ?_
      obtain ⟨hR, ⟨hc, h⟩ | ⟨hc, h⟩⟩ := c_le_i h
      · refine ev_ifc 33 rfl hR.1 (by decide) (fun _ => ?_) (fun q => absurd hc q)
        exact Country_readForest_1_33_t hd   (Country_readForest_1_4    n) ih (x2) (x3) M r h
      · refine ev_ifc 33 rfl hR.1 (by decide) (fun q => absurd q hc) (fun _ => ?_)
        refine ev_k (pc' := 16) (ls' := [(0, .inr (.inr (some 1))), (1, .inr (.inr (some 14))), (2, .inl (x2)), (3, .inl (x3))]) (st' := [.inl (x2), .inr (.inr (some 14))]) (nc' := 126) (np' := 138) (M' := M) 2 rfl ?_
        obtain ⟨v5, hv, h⟩ := ob_i h
        refine ev_call (t := 23) (as := [.inr (.inr (some 14)), .inl (x2)]) (rest := []) rfl rfl rfl (by omega) (Tape_at_e (by omega) (x2) M _ hv) ?_
        refine ev_k (pc' := 21) (ls' := [(0, .inr (.inr (some 1))), (1, .inr (.inr (some 14))), (2, .inl (x2)), (3, .inl (x3))]) (st' := [.inl (47), .inl (v5)]) (nc' := 126) (np' := 138) (M' := M) 1 rfl ?_
        obtain ⟨hR, ⟨hc, h⟩ | ⟨hc, h⟩⟩ := c_eq_i h
        · refine ev_icmp 30 rfl hR.1 hR.2 (by decide) (fun _ => ?_) (fun q => absurd hc q)
          refine ev_k (pc' := 33) (ls' := [(0, .inr (.inr (some 1))), (1, .inr (.inr (some 14))), (2, .inl ((x2) + (1))), (3, .inl (x3))]) (st' := []) (nc' := 126) (np' := 138) (M' := M) 1 rfl ?_
          exact Country_readForest_1_33_t hd   (Country_readForest_1_4    n) ih ((x2) + (1)) (x3) M r h
        · refine ev_icmp 30 rfl hR.1 hR.2 (by decide) (fun q => absurd q hc) (fun _ => ?_)
          refine ev_k (pc' := 26) (ls' := [(0, .inr (.inr (some 1))), (1, .inr (.inr (some 14))), (2, .inl (x2)), (3, .inl (x3))]) (st' := [.inl (x2), .inl (1)]) (nc' := 126) (np' := 138) (M' := M) 2 rfl ?_
          obtain ⟨v6, hv, h⟩ := ob_i h
          refine ev_call (t := 24) (as := [.inl (1), .inl (x2)]) (rest := []) rfl rfl rfl (by omega) (P_faultAt_e (by omega) (1) (x2) M _ hv) ?_
          refine ev_k (pc' := 29) (ls' := [(0, .inr (.inr (some 1))), (1, .inr (.inr (some 14))), (2, .inl (x2)), (3, .inl (x3))]) (st' := [.inl (v6)]) (nc' := 126) (np' := 138) (M' := M) 0 rfl ?_
          cases h
          exact ev_ret rfl
theorem Country_readForest_1_e {L : Nat} {xs : Nat → Int} {d : Nat} (hd : 3 ≤ d)    (M : am_M) (r : Int × am_M) (h : Country_readForest_1    M = some r) : am_Ev L xs d me_22 0 (am_ar1 0 [.inr (.inr (some 1)), .inr (.inr (some 14))]) [] 126 138 M (some (.inl r.1), 126, 138, r.2) := by
  refine ev_k (pc' := 4) (ls' := [(0, .inr (.inr (some 1))), (1, .inr (.inr (some 14))), (2, .inl (0)), (3, .inl (0))]) (st' := []) (nc' := 126) (np' := 138) (M' := M) 4 rfl ?_
  exact Country_readForest_1_4_t hd     am_big (0) (0) M r h
def Trip_isPlace_26_23    (s0 : Int) (M : am_M) : Option (Int) := ck ((s0) = 0 ∨ (s0) = 1) (some (s0))
def Trip_isPlace_26_22     (M : am_M) : Option (Int) := (Trip_isPlace_26_23    (0) M)
def Trip_isPlace_26    (x1 : Int) (M : am_M) : Option (Int) := c_lt (x1) (0)
       (Trip_isPlace_26_22     M)
       (c_ge (x1) (M 26 10)
       (Trip_isPlace_26_22     M)
       (c_ge (x1) (100)
       (Trip_isPlace_26_22     M)
       ((Trip_isPlace_26_23    (1) M))))
theorem Trip_isPlace_26_23_t {L : Nat} {xs : Nat → Int} {d : Nat} (hd : 0 ≤ d)     (s0 : Int) (M : am_M) (r : Int) (h : Trip_isPlace_26_23    s0 M = some r) : am_Ev L xs d me_32 23 [] [.inl (s0)] 126 138 M (some (.inl r), 126, 138, M) := by
  refine ev_k (pc' := 23) (ls' := []) (st' := [.inl (s0)]) (nc' := 126) (np' := 138) (M' := M) 0 rfl ?_
  obtain ⟨hc, h⟩ := ck_i h
  cases h
  exact ev_retz rfl rfl hc
theorem Trip_isPlace_26_22_t {L : Nat} {xs : Nat → Int} {d : Nat} (hd : 0 ≤ d)      (M : am_M) (r : Int) (h : Trip_isPlace_26_22     M = some r) : am_Ev L xs d me_32 22 [] [] 126 138 M (some (.inl r), 126, 138, M) := by
  refine ev_k (pc' := 23) (ls' := []) (st' := [.inl (0)]) (nc' := 126) (np' := 138) (M' := M) 1 rfl ?_
  exact Trip_isPlace_26_23_t hd     (0) M r h
theorem Trip_isPlace_26_e {L : Nat} {xs : Nat → Int} {d : Nat} (hd : 0 ≤ d)   (x1 : Int) (M : am_M) (r : Int) (h : Trip_isPlace_26   x1 M = some r) : am_Ev L xs d me_32 0 (am_ar1 0 [.inr (.inr (some 26)), .inl (x1)]) [] 126 138 M (some (.inl r), 126, 138, M) := by
  refine ev_k (pc' := 1) (ls' := [(0, .inr (.inr (some 26))), (1, .inl (x1))]) (st' := [.inl (x1)]) (nc' := 126) (np' := 138) (M' := M) 1 rfl ?_
  obtain ⟨hR, ⟨hc, h⟩ | ⟨hc, h⟩⟩ := c_lt_i h
  · refine ev_ifc 22 rfl hR.1 (by decide) (fun _ => ?_) (fun q => absurd hc q)
    exact Trip_isPlace_26_22_t hd      M r h
  · refine ev_ifc 22 rfl hR.1 (by decide) (fun q => absurd q hc) (fun _ => ?_)
    refine ev_k (pc' := 9) (ls' := [(0, .inr (.inr (some 26))), (1, .inl (x1))]) (st' := [.inl (M 26 10), .inl (x1)]) (nc' := 126) (np' := 138) (M' := M) 3 rfl ?_
    obtain ⟨hR, ⟨hc, h⟩ | ⟨hc, h⟩⟩ := c_ge_i h
    · refine ev_icmp 22 rfl hR.1 hR.2 (by decide) (fun _ => ?_) (fun q => absurd hc q)
      exact Trip_isPlace_26_22_t hd      M r h
    · refine ev_icmp 22 rfl hR.1 hR.2 (by decide) (fun q => absurd q hc) (fun _ => ?_)
      refine ev_k (pc' := 15) (ls' := [(0, .inr (.inr (some 26))), (1, .inl (x1))]) (st' := [.inl (100), .inl (x1)]) (nc' := 126) (np' := 138) (M' := M) 2 rfl ?_
      obtain ⟨hR, ⟨hc, h⟩ | ⟨hc, h⟩⟩ := c_ge_i h
      · refine ev_icmp 22 rfl hR.1 hR.2 (by decide) (fun _ => ?_) (fun q => absurd hc q)
        exact Trip_isPlace_26_22_t hd      M r h
      · refine ev_icmp 22 rfl hR.1 hR.2 (by decide) (fun q => absurd q hc) (fun _ => ?_)
        refine ev_k (pc' := 23) (ls' := []) (st' := [.inl (1)]) (nc' := 126) (np' := 138) (M' := M) 2 rfl ?_
        exact Trip_isPlace_26_23_t hd     (1) M r h
def Trip_cellAt_26_18    (s0 : Int) (M : am_M) : Option (Int) := some (s0)
def Trip_cellAt_26    (x1 : Int) (M : am_M) : Option (Int) := ob (Trip_isPlace_26 (x1) M) fun v1 => c_eq (v1) (0)
       ((Trip_cellAt_26_18    (-1) M))
       (rd M 28 100 (x1) fun v2 => (Trip_cellAt_26_18    (v2) M))
theorem Trip_cellAt_26_18_t {L : Nat} {xs : Nat → Int} {d : Nat} (hd : 1 ≤ d)     (s0 : Int) (M : am_M) (r : Int) (h : Trip_cellAt_26_18    s0 M = some r) : am_Ev L xs d me_31 18 [] [.inl (s0)] 126 138 M (some (.inl r), 126, 138, M) := by
  refine ev_k (pc' := 18) (ls' := []) (st' := [.inl (s0)]) (nc' := 126) (np' := 138) (M' := M) 0 rfl ?_
  cases h
  exact ev_ret rfl
theorem Trip_cellAt_26_e {L : Nat} {xs : Nat → Int} {d : Nat} (hd : 1 ≤ d)   (x1 : Int) (M : am_M) (r : Int) (h : Trip_cellAt_26   x1 M = some r) : am_Ev L xs d me_31 0 (am_ar1 0 [.inr (.inr (some 26)), .inl (x1)]) [] 126 138 M (some (.inl r), 126, 138, M) := by
  refine ev_k (pc' := 2) (ls' := [(0, .inr (.inr (some 26))), (1, .inl (x1))]) (st' := [.inl (x1), .inr (.inr (some 26))]) (nc' := 126) (np' := 138) (M' := M) 2 rfl ?_
  obtain ⟨v1, hv, h⟩ := ob_i h
  refine ev_call (t := 32) (as := [.inr (.inr (some 26)), .inl (x1)]) (rest := []) rfl rfl rfl (by omega) (Trip_isPlace_26_e (by omega) (x1) M _ hv) ?_
  refine ev_k (pc' := 5) (ls' := [(0, .inr (.inr (some 26))), (1, .inl (x1))]) (st' := [.inl (v1)]) (nc' := 126) (np' := 138) (M' := M) 0 rfl ?_
  obtain ⟨hR, ⟨hc, h⟩ | ⟨hc, h⟩⟩ := c_eq_i h
  · refine ev_ifc 17 rfl hR.1 (by decide) (fun _ => ?_) (fun q => absurd hc q)
    refine ev_k (pc' := 18) (ls' := []) (st' := [.inl (-1)]) (nc' := 126) (np' := 138) (M' := M) 1 rfl ?_
    exact Trip_cellAt_26_18_t hd     (-1) M r h
  · refine ev_ifc 17 rfl hR.1 (by decide) (fun q => absurd q hc) (fun _ => ?_)
    refine ev_k (pc' := 13) (ls' := [(0, .inr (.inr (some 26))), (1, .inl (x1))]) (st' := [.inl (x1), .inr (.inr (some 28))]) (nc' := 126) (np' := 138) (M' := M) 3 rfl ?_
    obtain ⟨hc, v2, ev, h⟩ := rd_i h
    refine ev_ald (k := 28) (t := 0) (Or.inl ⟨rfl, rfl⟩) rfl (by decide) (by decide) rfl hc ev ?_
    refine ev_k (pc' := 18) (ls' := []) (st' := [.inl (v2)]) (nc' := 126) (np' := 138) (M' := M) 1 rfl ?_
    exact Trip_cellAt_26_18_t hd     (v2) M r h
def J_fill_33_5    : Nat → Int → Int → Int → am_M → Option (am_M)
  | 0, _, _, _, _ => none
  | n + 1, x1, x2, x3, M => c_ge (x2) (x3)
       (some (M))
       (wa M 33 144 (x2) (x1) fun M1 => (J_fill_33_5    n (x1) ((x2) + (1)) (x3) M1))
def J_fill_33    (x1 : Int) (M : am_M) : Option (am_M) := (J_fill_33_5    am_big (x1) (0) (((144 : Nat) : Int)) M)
theorem J_fill_33_5_t {L : Nat} {xs : Nat → Int} {d : Nat} (hd : 0 ≤ d)     : ∀ (n : Nat) (x1 : Int) (x2 : Int) (x3 : Int) (M : am_M) (r : am_M), J_fill_33_5    n x1 x2 x3 M = some r → am_Ev L xs d me_2 5 [(0, .inr (.inr (some 33))), (1, .inl (x1)), (2, .inl (x2)), (3, .inl (x3))] [] 126 138 M (none, 126, 138, r)
  | 0, _, _, _, M, r, h => by cases h
  | n + 1, x1, x2, x3, M, r, h => by
    have ih := J_fill_33_5_t (L := L) (xs := xs) hd     n
    refine ev_k (pc' := 7) (ls' := [(0, .inr (.inr (some 33))), (1, .inl (x1)), (2, .inl (x2)), (3, .inl (x3))]) (st' := [.inl (x3), .inl (x2)]) (nc' := 126) (np' := 138) (M' := M) 2 rfl ?_
    obtain ⟨hR, ⟨hc, h⟩ | ⟨hc, h⟩⟩ := c_ge_i h
    · refine ev_icmp 20 rfl hR.1 hR.2 (by decide) (fun _ => ?_) (fun q => absurd hc q)
      refine ev_k (pc' := 20) (ls' := [(0, .inr (.inr (some 33))), (1, .inl (x1)), (2, .inl (x2)), (3, .inl (x3))]) (st' := []) (nc' := 126) (np' := 138) (M' := M) 0 rfl ?_
      cases h
      exact ev_ret rfl
    · refine ev_icmp 20 rfl hR.1 hR.2 (by decide) (fun q => absurd q hc) (fun _ => ?_)
      refine ev_k (pc' := 13) (ls' := [(0, .inr (.inr (some 33))), (1, .inl (x1)), (2, .inl (x2)), (3, .inl (x3))]) (st' := [.inl (x1), .inl (x2), .inr (.inr (some 33))]) (nc' := 126) (np' := 138) (M' := M) 3 rfl ?_
      obtain ⟨hc, M1, eM, h⟩ := wa_i h
      refine ev_iast (k := 33) rfl (by decide) rfl hc eM ?_
      refine ev_k (pc' := 5) (ls' := [(0, .inr (.inr (some 33))), (1, .inl (x1)), (2, .inl ((x2) + (1))), (3, .inl (x3))]) (st' := []) (nc' := 126) (np' := 138) (M' := M1) 2 rfl ?_
      exact ih (x1) ((x2) + (1)) (x3) M1 r h
theorem J_fill_33_e {L : Nat} {xs : Nat → Int} {d : Nat} (hd : 0 ≤ d)   (x1 : Int) (M : am_M) (r : am_M) (h : J_fill_33   x1 M = some r) : am_Ev L xs d me_2 0 (am_ar1 0 [.inr (.inr (some 33)), .inl (x1)]) [] 126 138 M (none, 126, 138, r) := by
  refine ev_k (pc' := 5) (ls' := [(0, .inr (.inr (some 33))), (1, .inl (x1)), (2, .inl (0)), (3, .inl (((144 : Nat) : Int)))]) (st' := []) (nc' := 126) (np' := 138) (M' := M) 5 rfl ?_
  exact J_fill_33_5_t hd     am_big (x1) (0) (((144 : Nat) : Int)) M r h
def Trip_append_26_97     (M : am_M) : Option (am_M) := some (M)
def Trip_append_26    (x1 : Int) (M : am_M) : Option (am_M) := c_ge (M 26 10) (100)
       (Trip_append_26_97     M)
       (ob (Country_isCell (x1) M) fun v1 => c_eq (v1) (0)
       (Trip_append_26_97     M)
       (wa M 28 100 (M 26 10) (x1) fun M2 => wa M2 29 100 (M2 26 10) (M2 1 3) fun M3 => wa M3 30 100 (M3 26 10) (0) fun M4 => wa M4 31 100 (M4 26 10) (0) fun M5 => wa M5 32 100 (M5 26 10) (0) fun M6 => wa M6 33 144 (x1) (1) fun M7 => fw M7 26 11 (M7 26 10) fun M8 => fw M8 26 10 ((M8 26 10) + (1)) fun M9 => (Trip_append_26_97     M9)))
theorem Trip_append_26_97_t {L : Nat} {xs : Nat → Int} {d : Nat} (hd : 1 ≤ d)      (M : am_M) (r : am_M) (h : Trip_append_26_97     M = some r) : am_Ev L xs d me_8 97 [] [] 126 138 M (none, 126, 138, r) := by
  refine ev_k (pc' := 97) (ls' := []) (st' := []) (nc' := 126) (np' := 138) (M' := M) 0 rfl ?_
  cases h
  exact ev_ret rfl
theorem Trip_append_26_e {L : Nat} {xs : Nat → Int} {d : Nat} (hd : 1 ≤ d)   (x1 : Int) (M : am_M) (r : am_M) (h : Trip_append_26   x1 M = some r) : am_Ev L xs d me_8 0 (am_ar1 0 [.inr (.inr (some 26)), .inl (x1)]) [] 126 138 M (none, 126, 138, r) := by
  refine ev_k (pc' := 6) (ls' := [(0, .inr (.inr (some 26))), (1, .inl (x1))]) (st' := [.inl (100), .inl (M 26 10)]) (nc' := 126) (np' := 138) (M' := M) 3 rfl ?_
  obtain ⟨hR, ⟨hc, h⟩ | ⟨hc, h⟩⟩ := c_ge_i h
  · refine ev_icmp 97 rfl hR.1 hR.2 (by decide) (fun _ => ?_) (fun q => absurd hc q)
    exact Trip_append_26_97_t hd      M r h
  · refine ev_icmp 97 rfl hR.1 hR.2 (by decide) (fun q => absurd q hc) (fun _ => ?_)
    refine ev_k (pc' := 10) (ls' := [(0, .inr (.inr (some 26))), (1, .inl (x1))]) (st' := [.inl (x1)]) (nc' := 126) (np' := 138) (M' := M) 1 rfl ?_
    obtain ⟨v1, hv, h⟩ := ob_i h
    refine ev_call (t := 9) (as := [.inl (x1)]) (rest := []) rfl rfl rfl (by omega) (Country_isCell_e (by omega) (x1) M _ hv) ?_
    refine ev_k (pc' := 13) (ls' := [(0, .inr (.inr (some 26))), (1, .inl (x1))]) (st' := [.inl (v1)]) (nc' := 126) (np' := 138) (M' := M) 0 rfl ?_
    obtain ⟨hR, ⟨hc, h⟩ | ⟨hc, h⟩⟩ := c_eq_i h
    · refine ev_ifc 97 rfl hR.1 (by decide) (fun _ => ?_) (fun q => absurd hc q)
      exact Trip_append_26_97_t hd      M r h
    · refine ev_ifc 97 rfl hR.1 (by decide) (fun q => absurd q hc) (fun _ => ?_)
      refine ev_k (pc' := 25) (ls' := [(0, .inr (.inr (some 26))), (1, .inl (x1))]) (st' := [.inl (x1), .inl (M 26 10), .inr (.inr (some 28))]) (nc' := 126) (np' := 138) (M' := M) 5 rfl ?_
      obtain ⟨hc, M2, eM, h⟩ := wa_i h
      refine ev_iast (k := 28) rfl (by decide) rfl hc eM ?_
      refine ev_k (pc' := 41) (ls' := [(0, .inr (.inr (some 26))), (1, .inl (x1))]) (st' := [.inl (M2 1 3), .inl (M2 26 10), .inr (.inr (some 29))]) (nc' := 126) (np' := 138) (M' := M2) 7 rfl ?_
      obtain ⟨hc, M3, eM, h⟩ := wa_i h
      refine ev_iast (k := 29) rfl (by decide) rfl hc eM ?_
      refine ev_k (pc' := 51) (ls' := [(0, .inr (.inr (some 26))), (1, .inl (x1))]) (st' := [.inl (0), .inl (M3 26 10), .inr (.inr (some 30))]) (nc' := 126) (np' := 138) (M' := M3) 5 rfl ?_
      obtain ⟨hc, M4, eM, h⟩ := wa_i h
      refine ev_iast (k := 30) rfl (by decide) rfl hc eM ?_
      refine ev_k (pc' := 61) (ls' := [(0, .inr (.inr (some 26))), (1, .inl (x1))]) (st' := [.inl (0), .inl (M4 26 10), .inr (.inr (some 31))]) (nc' := 126) (np' := 138) (M' := M4) 5 rfl ?_
      obtain ⟨hc, M5, eM, h⟩ := wa_i h
      refine ev_iast (k := 31) rfl (by decide) rfl hc eM ?_
      refine ev_k (pc' := 71) (ls' := [(0, .inr (.inr (some 26))), (1, .inl (x1))]) (st' := [.inl (0), .inl (M5 26 10), .inr (.inr (some 32))]) (nc' := 126) (np' := 138) (M' := M5) 5 rfl ?_
      obtain ⟨hc, M6, eM, h⟩ := wa_i h
      refine ev_iast (k := 32) rfl (by decide) rfl hc eM ?_
      refine ev_k (pc' := 78) (ls' := [(0, .inr (.inr (some 26))), (1, .inl (x1))]) (st' := [.inl (1), .inl (x1), .inr (.inr (some 33))]) (nc' := 126) (np' := 138) (M' := M6) 4 rfl ?_
      obtain ⟨hc, M7, eM, h⟩ := wa_i h
      refine ev_iast (k := 33) rfl (by decide) rfl hc eM ?_
      refine ev_k (pc' := 87) (ls' := [(0, .inr (.inr (some 26))), (1, .inl (x1))]) (st' := []) (nc' := 126) (np' := 138) (M' := am_up M7 26 11 (M7 26 10)) 4 rfl ?_
      obtain ⟨M8, eM, h⟩ := fw_i h
      rw [← eM]
      refine ev_k (pc' := 97) (ls' := []) (st' := []) (nc' := 126) (np' := 138) (M' := am_up M8 26 10 ((M8 26 10) + (1))) 6 rfl ?_
      obtain ⟨M9, eM, h⟩ := fw_i h
      rw [← eM]
      exact Trip_append_26_97_t hd      M9 r h
def Trip_beginAt_26    (x1 : Int) (M : am_M) : Option (am_M) := ob (J_fill_33 (0) M) fun M1 => fw M1 26 10 (0) fun M2 => ob (Trip_append_26 (x1) M2) fun M3 => some (M3)
theorem Trip_beginAt_26_e {L : Nat} {xs : Nat → Int} {d : Nat} (hd : 2 ≤ d)   (x1 : Int) (M : am_M) (r : am_M) (h : Trip_beginAt_26   x1 M = some r) : am_Ev L xs d me_7 0 (am_ar1 0 [.inr (.inr (some 26)), .inl (x1)]) [] 126 138 M (none, 126, 138, r) := by
  refine ev_k (pc' := 5) (ls' := [(0, .inr (.inr (some 26))), (1, .inl (x1))]) (st' := [.inl (0), .inr (.inr (some 33))]) (nc' := 126) (np' := 138) (M' := M) 3 rfl ?_
  obtain ⟨M1, hv, h⟩ := ob_i h
  refine ev_call (t := 2) (as := [.inr (.inr (some 33)), .inl (0)]) (rest := []) rfl rfl rfl (by omega) (J_fill_33_e (by omega) (0) M _ hv) ?_
  refine ev_k (pc' := 13) (ls' := [(0, .inr (.inr (some 26))), (1, .inl (x1))]) (st' := []) (nc' := 126) (np' := 138) (M' := am_up M1 26 10 (0)) 3 rfl ?_
  obtain ⟨M2, eM, h⟩ := fw_i h
  rw [← eM]
  refine ev_k (pc' := 15) (ls' := [(0, .inr (.inr (some 26))), (1, .inl (x1))]) (st' := [.inl (x1), .inr (.inr (some 26))]) (nc' := 126) (np' := 138) (M' := M2) 2 rfl ?_
  obtain ⟨M3, hv, h⟩ := ob_i h
  refine ev_call (t := 8) (as := [.inr (.inr (some 26)), .inl (x1)]) (rest := []) rfl rfl rfl (by omega) (Trip_append_26_e (by omega) (x1) M2 _ hv) ?_
  refine ev_k (pc' := 18) (ls' := [(0, .inr (.inr (some 26))), (1, .inl (x1))]) (st' := []) (nc' := 126) (np' := 138) (M' := M3) 0 rfl ?_
  cases h
  exact ev_ret rfl
def P_forest_53    (x2 : Int) (M : am_M) : Option (Int × am_M) := some (x2, M)
def P_forest    (x1 : Int) (M : am_M) : Option (Int × am_M) := oc (Tape_take (x1) (1) (200) M) fun v1 M2 => c_ne (v1) (0)
       (oc (Country_readForest_1  M2) fun v3 M4 => c_lt (v3) (0)
       (P_forest_53    (v3) M4)
       (ob (Trip_cellAt_26 (0) M4) fun v5 => ob (Trip_beginAt_26 (v5) M4) fun M6 => fz M6 0 7 (0) fun M7 => (P_forest_53    (v3) M7)))
       (some (-1, M2))
theorem P_forest_53_t {L : Nat} {xs : Nat → Int} {d : Nat} (hd : 4 ≤ d)     (x2 : Int) (M : am_M) (r : Int × am_M) (h : P_forest_53    x2 M = some r) : am_Ev L xs d me_20 53 [(2, .inl (x2))] [] 126 138 M (some (.inl r.1), 126, 138, r.2) := by
  refine ev_k (pc' := 54) (ls' := [(2, .inl (x2))]) (st' := [.inl (x2)]) (nc' := 126) (np' := 138) (M' := M) 1 rfl ?_
  cases h
  exact ev_ret rfl
theorem P_forest_e {L : Nat} {xs : Nat → Int} {d : Nat} (hd : 4 ≤ d)   (x1 : Int) (M : am_M) (r : Int × am_M) (h : P_forest   x1 M = some r) : am_Ev L xs d me_20 0 (am_ar1 0 [.inr (.inr (some 0)), .inl (x1)]) [] 126 138 M (some (.inl r.1), 126, 138, r.2) := by
  refine ev_k (pc' := 9) (ls' := [(0, .inr (.inr (some 0))), (1, .inl (x1))]) (st' := [.inl (200), .inl (1), .inl (x1), .inr (.inr (some 14))]) (nc' := 126) (np' := 138) (M' := M) 5 rfl ?_
  obtain ⟨v1, M2, hv, h⟩ := oc_i h
  refine ev_call (t := 21) (as := [.inr (.inr (some 14)), .inl (x1), .inl (1), .inl (200)]) (rest := []) rfl rfl rfl (by omega) (Tape_take_e (by omega) (x1) (1) (200) M _ hv) ?_
  refine ev_k (pc' := 12) (ls' := [(0, .inr (.inr (some 0))), (1, .inl (x1))]) (st' := [.inl (v1)]) (nc' := 126) (np' := 138) (M' := M2) 0 rfl ?_
  obtain ⟨hR, ⟨hc, h⟩ | ⟨hc, h⟩⟩ := c_ne_i h
  · refine ev_ifc 17 rfl hR.1 (by decide) (fun _ => ?_) (fun q => absurd hc q)
    refine ev_k (pc' := 25) (ls' := [(0, .inr (.inr (some 0))), (1, .inl (x1))]) (st' := [.inr (.inr (some 14)), .inr (.inr (some 1))]) (nc' := 126) (np' := 138) (M' := M2) 4 rfl ?_
    obtain ⟨v3, M4, hv, h⟩ := oc_i h
    refine ev_call (t := 22) (as := [.inr (.inr (some 1)), .inr (.inr (some 14))]) (rest := []) rfl rfl rfl (by omega) (Country_readForest_1_e (by omega)  M2 _ hv) ?_
    refine ev_k (pc' := 30) (ls' := [(2, .inl (v3)), (0, .inr (.inr (some 0))), (1, .inl (x1))]) (st' := [.inl (v3)]) (nc' := 126) (np' := 138) (M' := M4) 2 rfl ?_
    obtain ⟨hR, ⟨hc, h⟩ | ⟨hc, h⟩⟩ := c_lt_i h
    · refine ev_ifc 53 rfl hR.1 (by decide) (fun _ => ?_) (fun q => absurd hc q)
      exact P_forest_53_t hd     (v3) M4 r h
    · refine ev_ifc 53 rfl hR.1 (by decide) (fun q => absurd q hc) (fun _ => ?_)
      refine ev_k (pc' := 42) (ls' := [(2, .inl (v3)), (0, .inr (.inr (some 0))), (1, .inl (x1))]) (st' := [.inl (0), .inr (.inr (some 26)), .inr (.inr (some 26))]) (nc' := 126) (np' := 138) (M' := M4) 5 rfl ?_
      obtain ⟨v5, hv, h⟩ := ob_i h
      refine ev_call (t := 31) (as := [.inr (.inr (some 26)), .inl (0)]) (rest := [.inr (.inr (some 26))]) rfl rfl rfl (by omega) (Trip_cellAt_26_e (by omega) (0) M4 _ hv) ?_
      refine ev_k (pc' := 45) (ls' := [(2, .inl (v3)), (0, .inr (.inr (some 0))), (1, .inl (x1))]) (st' := [.inl (v5), .inr (.inr (some 26))]) (nc' := 126) (np' := 138) (M' := M4) 0 rfl ?_
      obtain ⟨M6, hv, h⟩ := ob_i h
      refine ev_call (t := 7) (as := [.inr (.inr (some 26)), .inl (v5)]) (rest := []) rfl rfl rfl (by omega) (Trip_beginAt_26_e (by omega) (v5) M4 _ hv) ?_
      refine ev_k (pc' := 50) (ls' := [(2, .inl (v3)), (0, .inr (.inr (some 0))), (1, .inl (x1))]) (st' := [.inl (0), .inr (.inr (some 0))]) (nc' := 126) (np' := 138) (M' := M6) 2 rfl ?_
      obtain ⟨hc, M7, eM, h⟩ := fz_i h
      refine ev_putz (k := 0) (j := 7) rfl rfl (by decide) rfl rfl hc eM ?_
      exact P_forest_53_t hd     (v3) M7 r h
  · refine ev_ifc 17 rfl hR.1 (by decide) (fun q => absurd q hc) (fun _ => ?_)
    refine ev_k (pc' := 16) (ls' := [(0, .inr (.inr (some 0))), (1, .inl (x1))]) (st' := [.inl (-1)]) (nc' := 126) (np' := 138) (M' := M2) 1 rfl ?_
    cases h
    exact ev_ret rfl
def Law_clear_17     (M : am_M) : Option (am_M) := fw M 17 2 (0) fun M1 => fw M1 17 7 (0) fun M2 => some (M2)
theorem Law_clear_17_e {L : Nat} {xs : Nat → Int} {d : Nat} (hd : 0 ≤ d)    (M : am_M) (r : am_M) (h : Law_clear_17    M = some r) : am_Ev L xs d me_35 0 (am_ar1 0 [.inr (.inr (some 17))]) [] 126 138 M (none, 126, 138, r) := by
  refine ev_k (pc' := 5) (ls' := [(0, .inr (.inr (some 17)))]) (st' := []) (nc' := 126) (np' := 138) (M' := am_up M 17 2 (0)) 3 rfl ?_
  obtain ⟨M1, eM, h⟩ := fw_i h
  rw [← eM]
  refine ev_k (pc' := 10) (ls' := [(0, .inr (.inr (some 17)))]) (st' := []) (nc' := 126) (np' := 138) (M' := am_up M1 17 7 (0)) 3 rfl ?_
  obtain ⟨M2, eM, h⟩ := fw_i h
  rw [← eM]
  refine ev_k (pc' := 10) (ls' := [(0, .inr (.inr (some 17)))]) (st' := []) (nc' := 126) (np' := 138) (M' := M2) 0 rfl ?_
  cases h
  exact ev_ret rfl
def LawReader_here_16_30    (s0 : Int) (M : am_M) : Option (Int) := some (s0)
def LawReader_here_16_14     (M : am_M) : Option (Int) := (LawReader_here_16_30    (-2) M)
def LawReader_here_16     (M : am_M) : Option (Int) := c_lt (M 16 3) (0)
       (LawReader_here_16_14     M)
       (ck (M 16 1 ≠ 0) (ck (M 16 1 ≠ 0) (ob (Tape_at (M 16 2) M) fun v1 => (LawReader_here_16_30    (v1) M))))
theorem LawReader_here_16_30_t {L : Nat} {xs : Nat → Int} {d : Nat} (hd : 1 ≤ d)     (s0 : Int) (M : am_M) (r : Int) (h : LawReader_here_16_30    s0 M = some r) : am_Ev L xs d me_37 30 [] [.inl (s0)] 126 138 M (some (.inl r), 126, 138, M) := by
  refine ev_k (pc' := 30) (ls' := []) (st' := [.inl (s0)]) (nc' := 126) (np' := 138) (M' := M) 0 rfl ?_
  cases h
  exact ev_ret rfl
theorem LawReader_here_16_14_t {L : Nat} {xs : Nat → Int} {d : Nat} (hd : 1 ≤ d)      (M : am_M) (r : Int) (h : LawReader_here_16_14     M = some r) : am_Ev L xs d me_37 14 [] [] 126 138 M (some (.inl r), 126, 138, M) := by
  refine ev_k (pc' := 30) (ls' := []) (st' := [.inl (-2)]) (nc' := 126) (np' := 138) (M' := M) 2 rfl ?_
  exact LawReader_here_16_30_t hd     (-2) M r h
theorem LawReader_here_16_e {L : Nat} {xs : Nat → Int} {d : Nat} (hd : 1 ≤ d)    (M : am_M) (r : Int) (h : LawReader_here_16    M = some r) : am_Ev L xs d me_37 0 (am_ar1 0 [.inr (.inr (some 16))]) [] 126 138 M (some (.inl r), 126, 138, M) := by
  refine ev_k (pc' := 4) (ls' := [(0, .inr (.inr (some 16)))]) (st' := [.inl (M 16 3)]) (nc' := 126) (np' := 138) (M' := M) 2 rfl ?_
  obtain ⟨hR, ⟨hc, h⟩ | ⟨hc, h⟩⟩ := c_lt_i h
  · refine ev_ifc 14 rfl hR.1 (by decide) (fun _ => ?_) (fun q => absurd hc q)
    exact LawReader_here_16_14_t hd      M r h
  · refine ev_ifc 14 rfl hR.1 (by decide) (fun q => absurd q hc) (fun _ => ?_)
    refine ev_k (pc' := 8) (ls' := [(0, .inr (.inr (some 16)))]) (st' := [.inr (.inr (some 16))]) (nc' := 126) (np' := 138) (M' := M) 1 rfl ?_
    obtain ⟨hc, h⟩ := ck_i h
    refine ev_getn (k := 16) rfl rfl (by decide) rfl rfl hc ?_
    refine ev_k (pc' := 20) (ls' := [(0, .inr (.inr (some 16)))]) (st' := [.inr (.inr (some 16))]) (nc' := 126) (np' := 138) (M' := M) 2 rfl ?_
    obtain ⟨hc, h⟩ := ck_i h
    refine ev_getn (k := 16) rfl rfl (by decide) rfl rfl hc ?_
    refine ev_k (pc' := 27) (ls' := [(0, .inr (.inr (some 16)))]) (st' := [.inl (M 16 2), .inr (.inr (some 14))]) (nc' := 126) (np' := 138) (M' := M) 2 rfl ?_
    obtain ⟨v1, hv, h⟩ := ob_i h
    refine ev_call (t := 23) (as := [.inr (.inr (some 14)), .inl (M 16 2)]) (rest := []) rfl rfl rfl (by omega) (Tape_at_e (by omega) (M 16 2) M _ hv) ?_
    exact LawReader_here_16_30_t hd     (v1) M r h
def LawReader_isClauseLetter_41    (s0 : Int) (M : am_M) : Option (Int) := ck ((s0) = 0 ∨ (s0) = 1) (some (s0))
def LawReader_isClauseLetter_36     (M : am_M) : Option (Int) := (LawReader_isClauseLetter_41    (1) M)
def LawReader_isClauseLetter    (x0 : Int) (M : am_M) : Option (Int) := c_eq (x0) (99)
       (LawReader_isClauseLetter_36     M)
       (c_eq (x0) (118)
       (LawReader_isClauseLetter_36     M)
       (c_eq (x0) (103)
       (LawReader_isClauseLetter_36     M)
       (c_eq (x0) (110)
       (LawReader_isClauseLetter_36     M)
       (c_eq (x0) (101)
       (LawReader_isClauseLetter_36     M)
       (c_ne (x0) (100)
       ((LawReader_isClauseLetter_41    (0) M))
       (LawReader_isClauseLetter_36     M))))))
theorem LawReader_isClauseLetter_41_t {L : Nat} {xs : Nat → Int} {d : Nat} (hd : 0 ≤ d)     (s0 : Int) (M : am_M) (r : Int) (h : LawReader_isClauseLetter_41    s0 M = some r) : am_Ev L xs d me_38 41 [] [.inl (s0)] 126 138 M (some (.inl r), 126, 138, M) := by
  refine ev_k (pc' := 41) (ls' := []) (st' := [.inl (s0)]) (nc' := 126) (np' := 138) (M' := M) 0 rfl ?_
  obtain ⟨hc, h⟩ := ck_i h
  cases h
  exact ev_retz rfl rfl hc
theorem LawReader_isClauseLetter_36_t {L : Nat} {xs : Nat → Int} {d : Nat} (hd : 0 ≤ d)      (M : am_M) (r : Int) (h : LawReader_isClauseLetter_36     M = some r) : am_Ev L xs d me_38 36 [] [] 126 138 M (some (.inl r), 126, 138, M) := by
  refine ev_k (pc' := 41) (ls' := []) (st' := [.inl (1)]) (nc' := 126) (np' := 138) (M' := M) 2 rfl ?_
  exact LawReader_isClauseLetter_41_t hd     (1) M r h
theorem LawReader_isClauseLetter_e {L : Nat} {xs : Nat → Int} {d : Nat} (hd : 0 ≤ d)   (x0 : Int) (M : am_M) (r : Int) (h : LawReader_isClauseLetter   x0 M = some r) : am_Ev L xs d me_38 0 (am_ar1 0 [.inl (x0)]) [] 126 138 M (some (.inl r), 126, 138, M) := by
  refine ev_k (pc' := 3) (ls' := [(0, .inl (x0))]) (st' := [.inl (99), .inl (x0)]) (nc' := 126) (np' := 138) (M' := M) 2 rfl ?_
  obtain ⟨hR, ⟨hc, h⟩ | ⟨hc, h⟩⟩ := c_eq_i h
  · refine ev_icmp 36 rfl hR.1 hR.2 (by decide) (fun _ => ?_) (fun q => absurd hc q)
    exact LawReader_isClauseLetter_36_t hd      M r h
  · refine ev_icmp 36 rfl hR.1 hR.2 (by decide) (fun q => absurd q hc) (fun _ => ?_)
    refine ev_k (pc' := 9) (ls' := [(0, .inl (x0))]) (st' := [.inl (118), .inl (x0)]) (nc' := 126) (np' := 138) (M' := M) 2 rfl ?_
    obtain ⟨hR, ⟨hc, h⟩ | ⟨hc, h⟩⟩ := c_eq_i h
    · refine ev_icmp 36 rfl hR.1 hR.2 (by decide) (fun _ => ?_) (fun q => absurd hc q)
      exact LawReader_isClauseLetter_36_t hd      M r h
    · refine ev_icmp 36 rfl hR.1 hR.2 (by decide) (fun q => absurd q hc) (fun _ => ?_)
      refine ev_k (pc' := 15) (ls' := [(0, .inl (x0))]) (st' := [.inl (103), .inl (x0)]) (nc' := 126) (np' := 138) (M' := M) 2 rfl ?_
      obtain ⟨hR, ⟨hc, h⟩ | ⟨hc, h⟩⟩ := c_eq_i h
      · refine ev_icmp 36 rfl hR.1 hR.2 (by decide) (fun _ => ?_) (fun q => absurd hc q)
        exact LawReader_isClauseLetter_36_t hd      M r h
      · refine ev_icmp 36 rfl hR.1 hR.2 (by decide) (fun q => absurd q hc) (fun _ => ?_)
        refine ev_k (pc' := 21) (ls' := [(0, .inl (x0))]) (st' := [.inl (110), .inl (x0)]) (nc' := 126) (np' := 138) (M' := M) 2 rfl ?_
        obtain ⟨hR, ⟨hc, h⟩ | ⟨hc, h⟩⟩ := c_eq_i h
        · refine ev_icmp 36 rfl hR.1 hR.2 (by decide) (fun _ => ?_) (fun q => absurd hc q)
          exact LawReader_isClauseLetter_36_t hd      M r h
        · refine ev_icmp 36 rfl hR.1 hR.2 (by decide) (fun q => absurd q hc) (fun _ => ?_)
          refine ev_k (pc' := 27) (ls' := [(0, .inl (x0))]) (st' := [.inl (101), .inl (x0)]) (nc' := 126) (np' := 138) (M' := M) 2 rfl ?_
          obtain ⟨hR, ⟨hc, h⟩ | ⟨hc, h⟩⟩ := c_eq_i h
          · refine ev_icmp 36 rfl hR.1 hR.2 (by decide) (fun _ => ?_) (fun q => absurd hc q)
            exact LawReader_isClauseLetter_36_t hd      M r h
          · refine ev_icmp 36 rfl hR.1 hR.2 (by decide) (fun q => absurd q hc) (fun _ => ?_)
            refine ev_k (pc' := 33) (ls' := [(0, .inl (x0))]) (st' := [.inl (100), .inl (x0)]) (nc' := 126) (np' := 138) (M' := M) 2 rfl ?_
            obtain ⟨hR, ⟨hc, h⟩ | ⟨hc, h⟩⟩ := c_ne_i h
            · refine ev_icmp 40 rfl hR.1 hR.2 (by decide) (fun _ => ?_) (fun q => absurd hc q)
              refine ev_k (pc' := 41) (ls' := []) (st' := [.inl (0)]) (nc' := 126) (np' := 138) (M' := M) 1 rfl ?_
              exact LawReader_isClauseLetter_41_t hd     (0) M r h
            · refine ev_icmp 40 rfl hR.1 hR.2 (by decide) (fun q => absurd q hc) (fun _ => ?_)
              exact LawReader_isClauseLetter_36_t hd      M r h
def Law_emit_17    (x1 : Int) (x2 : Int) (M : am_M) : Option (Int × am_M) := c_lt (M 17 2) (240)
       (wa M 18 240 (M 17 2) (x1) fun M1 => wa M1 19 240 (M1 17 2) (x2) fun M2 => fw M2 17 2 ((M2 17 2) + (1)) fun M3 => some ((M3 17 2) - (1), M3))
       (some (-1, M))
theorem Law_emit_17_e {L : Nat} {xs : Nat → Int} {d : Nat} (hd : 0 ≤ d)   (x1 : Int) (x2 : Int) (M : am_M) (r : Int × am_M) (h : Law_emit_17   x1 x2 M = some r) : am_Ev L xs d me_46 0 (am_ar1 0 [.inr (.inr (some 17)), .inl (x1), .inl (x2)]) [] 126 138 M (some (.inl r.1), 126, 138, r.2) := by
  refine ev_k (pc' := 7) (ls' := [(0, .inr (.inr (some 17))), (1, .inl (x1)), (2, .inl (x2))]) (st' := [.inl (240), .inl (M 17 2)]) (nc' := 126) (np' := 138) (M' := M) 3 rfl ?_
  obtain ⟨hR, ⟨hc, h⟩ | ⟨hc, h⟩⟩ := c_lt_i h
  · refine ev_icmp 12 rfl hR.1 hR.2 (by decide) (fun _ => ?_) (fun q => absurd hc q)
    refine ev_k (pc' := 21) (ls' := [(0, .inr (.inr (some 17))), (1, .inl (x1)), (2, .inl (x2))]) (st' := [.inl (x1), .inl (M 17 2), .inr (.inr (some 18))]) (nc' := 126) (np' := 138) (M' := M) 5 rfl ?_
    obtain ⟨hc, M1, eM, h⟩ := wa_i h
    refine ev_iast (k := 18) rfl (by decide) rfl hc eM ?_
    refine ev_k (pc' := 31) (ls' := [(0, .inr (.inr (some 17))), (1, .inl (x1)), (2, .inl (x2))]) (st' := [.inl (x2), .inl (M1 17 2), .inr (.inr (some 19))]) (nc' := 126) (np' := 138) (M' := M1) 5 rfl ?_
    obtain ⟨hc, M2, eM, h⟩ := wa_i h
    refine ev_iast (k := 19) rfl (by decide) rfl hc eM ?_
    refine ev_k (pc' := 42) (ls' := [(0, .inr (.inr (some 17))), (1, .inl (x1)), (2, .inl (x2))]) (st' := []) (nc' := 126) (np' := 138) (M' := am_up M2 17 2 ((M2 17 2) + (1))) 6 rfl ?_
    obtain ⟨M3, eM, h⟩ := fw_i h
    rw [← eM]
    refine ev_k (pc' := 48) (ls' := [(0, .inr (.inr (some 17))), (1, .inl (x1)), (2, .inl (x2))]) (st' := [.inl ((M3 17 2) - (1))]) (nc' := 126) (np' := 138) (M' := M3) 4 rfl ?_
    cases h
    exact ev_ret rfl
  · refine ev_icmp 12 rfl hR.1 hR.2 (by decide) (fun q => absurd q hc) (fun _ => ?_)
    refine ev_k (pc' := 11) (ls' := [(0, .inr (.inr (some 17))), (1, .inl (x1)), (2, .inl (x2))]) (st' := [.inl (-1)]) (nc' := 126) (np' := 138) (M' := M) 1 rfl ?_
    cases h
    exact ev_ret rfl
def LawReader_readSum_16_32  (rc41 : Int → am_M → Option am_M) (k7 : Int → Int → am_M → Option (am_M)) (x1 : Int) (x2 : Int) (M : am_M) : Option (am_M) := ob (LawReader_here_16  M) fun v1 => fw M 16 2 ((M 16 2) + (1)) fun M2 => ob (rc41 (x1) M2) fun M3 => oc (Law_emit_17 (v1) (0) M3) fun v4 M5 => (k7 (x1) ((x2) + (1)) M5)
def LawReader_readSum_16_68  (rc41 : Int → am_M → Option am_M)   (M : am_M) : Option (am_M) := some (M)
def LawReader_readSum_16_7  (rc41 : Int → am_M → Option am_M)  : Nat → Int → Int → am_M → Option (am_M)
  | 0, _, _, _ => none
  | n + 1, x1, x2, M => c_ge (x2) (240)
       (LawReader_readSum_16_68  rc41   M)
       (ob (LawReader_here_16  M) fun v1 => c_eq (v1) (43)
       (LawReader_readSum_16_32  rc41 (LawReader_readSum_16_7  rc41  n) (x1) (x2) M)
       (ob (LawReader_here_16  M) fun v2 => c_ne (v2) (45)
       (LawReader_readSum_16_68  rc41   M)
       (LawReader_readSum_16_32  rc41 (LawReader_readSum_16_7  rc41  n) (x1) (x2) M)))
def LawReader_readSum_16  (rc41 : Int → am_M → Option am_M)  (x1 : Int) (M : am_M) : Option (am_M) := ob (rc41 (x1) M) fun M1 => (LawReader_readSum_16_7  rc41  am_big (x1) (0) M1)
theorem LawReader_readSum_16_32_t {L : Nat} {xs : Nat → Int} {d : Nat} (hd : 2 ≤ d) (rc41 : Int → am_M → Option am_M) (hrc41 : ∀ (a0 : Int) (M : am_M) (r : am_M), rc41 a0 M = some r → am_Ev L xs (d - 1) me_41 0 (am_ar1 0 [.inr (.inr (some 16)), .inl (a0)]) [] 126 138 M (none, 126, 138, r)) (k7 : Int → Int → am_M → Option (am_M)) (hk7 : ∀ (x1 : Int) (x2 : Int) (M : am_M) (r : am_M), k7 x1 x2 M = some r → am_Ev L xs d me_40 7 [(0, .inr (.inr (some 16))), (1, .inl (x1)), (2, .inl (x2))] [] 126 138 M (none, 126, 138, r)) (x1 : Int) (x2 : Int) (M : am_M) (r : am_M) (h : LawReader_readSum_16_32  rc41 k7 x1 x2 M = some r) : am_Ev L xs d me_40 32 [(0, .inr (.inr (some 16))), (1, .inl (x1)), (2, .inl (x2))] [] 126 138 M (none, 126, 138, r) := by
  refine ev_k (pc' := 33) (ls' := [(0, .inr (.inr (some 16))), (1, .inl (x1)), (2, .inl (x2))]) (st' := [.inr (.inr (some 16))]) (nc' := 126) (np' := 138) (M' := M) 1 rfl ?_
  obtain ⟨v1, hv, h⟩ := ob_i h
  refine ev_call (t := 37) (as := [.inr (.inr (some 16))]) (rest := []) rfl rfl rfl (by omega) (LawReader_here_16_e (by omega)  M _ hv) ?_
  refine ev_k (pc' := 47) (ls' := [(3, .inl (v1)), (0, .inr (.inr (some 16))), (1, .inl (x1)), (2, .inl (x2))]) (st' := []) (nc' := 126) (np' := 138) (M' := am_up M 16 2 ((M 16 2) + (1))) 7 rfl ?_
  obtain ⟨M2, eM, h⟩ := fw_i h
  rw [← eM]
  refine ev_k (pc' := 49) (ls' := [(3, .inl (v1)), (0, .inr (.inr (some 16))), (1, .inl (x1)), (2, .inl (x2))]) (st' := [.inl (x1), .inr (.inr (some 16))]) (nc' := 126) (np' := 138) (M' := M2) 2 rfl ?_
  obtain ⟨M3, hv, h⟩ := ob_i h
  refine ev_call (t := 41) (as := [.inr (.inr (some 16)), .inl (x1)]) (rest := []) rfl rfl rfl (by omega) (hrc41 (x1) M2 _ hv) ?_
  refine ev_k (pc' := 58) (ls' := [(3, .inl (v1)), (0, .inr (.inr (some 16))), (1, .inl (x1)), (2, .inl (x2))]) (st' := [.inl (0), .inl (v1), .inr (.inr (some 17))]) (nc' := 126) (np' := 138) (M' := M3) 4 rfl ?_
  obtain ⟨v4, M5, hv, h⟩ := oc_i h
  refine ev_call (t := 46) (as := [.inr (.inr (some 17)), .inl (v1), .inl (0)]) (rest := []) rfl rfl rfl (by omega) (Law_emit_17_e (by omega) (v1) (0) M3 _ hv) ?_
  refine ev_k (pc' := 7) (ls' := [(0, .inr (.inr (some 16))), (1, .inl (x1)), (2, .inl ((x2) + (1)))]) (st' := []) (nc' := 126) (np' := 138) (M' := M5) 3 rfl ?_
  exact hk7 (x1) ((x2) + (1)) M5 r h
theorem LawReader_readSum_16_68_t {L : Nat} {xs : Nat → Int} {d : Nat} (hd : 2 ≤ d) (rc41 : Int → am_M → Option am_M) (hrc41 : ∀ (a0 : Int) (M : am_M) (r : am_M), rc41 a0 M = some r → am_Ev L xs (d - 1) me_41 0 (am_ar1 0 [.inr (.inr (some 16)), .inl (a0)]) [] 126 138 M (none, 126, 138, r))    (M : am_M) (r : am_M) (h : LawReader_readSum_16_68  rc41   M = some r) : am_Ev L xs d me_40 68 [] [] 126 138 M (none, 126, 138, r) := by
  refine ev_k (pc' := 68) (ls' := []) (st' := []) (nc' := 126) (np' := 138) (M' := M) 0 rfl ?_
  cases h
  exact ev_ret rfl
theorem LawReader_readSum_16_7_t {L : Nat} {xs : Nat → Int} {d : Nat} (hd : 2 ≤ d) (rc41 : Int → am_M → Option am_M) (hrc41 : ∀ (a0 : Int) (M : am_M) (r : am_M), rc41 a0 M = some r → am_Ev L xs (d - 1) me_41 0 (am_ar1 0 [.inr (.inr (some 16)), .inl (a0)]) [] 126 138 M (none, 126, 138, r))   : ∀ (n : Nat) (x1 : Int) (x2 : Int) (M : am_M) (r : am_M), LawReader_readSum_16_7  rc41  n x1 x2 M = some r → am_Ev L xs d me_40 7 [(0, .inr (.inr (some 16))), (1, .inl (x1)), (2, .inl (x2))] [] 126 138 M (none, 126, 138, r)
  | 0, _, _, M, r, h => by cases h
  | n + 1, x1, x2, M, r, h => by
    have ih := LawReader_readSum_16_7_t (L := L) (xs := xs) hd rc41 hrc41   n
    refine ev_k (pc' := 11) (ls' := [(0, .inr (.inr (some 16))), (1, .inl (x1)), (2, .inl (x2))]) (st' := [.inl (240), .inl (x2)]) (nc' := 126) (np' := 138) (M' := M) 2 rfl ?_
    obtain ⟨hR, ⟨hc, h⟩ | ⟨hc, h⟩⟩ := c_ge_i h
    · refine ev_icmp 68 rfl hR.1 hR.2 (by decide) (fun _ => ?_) (fun q => absurd hc q)
      exact LawReader_readSum_16_68_t hd rc41 hrc41    M r h
    · refine ev_icmp 68 rfl hR.1 hR.2 (by decide) (fun q => absurd q hc) (fun _ => ?_)
      refine ev_k (pc' := 15) (ls' := [(0, .inr (.inr (some 16))), (1, .inl (x1)), (2, .inl (x2))]) (st' := [.inr (.inr (some 16))]) (nc' := 126) (np' := 138) (M' := M) 1 rfl ?_
      obtain ⟨v1, hv, h⟩ := ob_i h
      refine ev_call (t := 37) (as := [.inr (.inr (some 16))]) (rest := []) rfl rfl rfl (by omega) (LawReader_here_16_e (by omega)  M _ hv) ?_
      refine ev_k (pc' := 20) (ls' := [(0, .inr (.inr (some 16))), (1, .inl (x1)), (2, .inl (x2))]) (st' := [.inl (43), .inl (v1)]) (nc' := 126) (np' := 138) (M' := M) 1 rfl ?_
      obtain ⟨hR, ⟨hc, h⟩ | ⟨hc, h⟩⟩ := c_eq_i h
      · refine ev_icmp 32 rfl hR.1 hR.2 (by decide) (fun _ => ?_) (fun q => absurd hc q)
        exact LawReader_readSum_16_32_t hd rc41 hrc41 (LawReader_readSum_16_7  rc41  n) ih (x1) (x2) M r h
      · refine ev_icmp 32 rfl hR.1 hR.2 (by decide) (fun q => absurd q hc) (fun _ => ?_)
        refine ev_k (pc' := 24) (ls' := [(0, .inr (.inr (some 16))), (1, .inl (x1)), (2, .inl (x2))]) (st' := [.inr (.inr (some 16))]) (nc' := 126) (np' := 138) (M' := M) 1 rfl ?_
        obtain ⟨v2, hv, h⟩ := ob_i h
        refine ev_call (t := 37) (as := [.inr (.inr (some 16))]) (rest := []) rfl rfl rfl (by omega) (LawReader_here_16_e (by omega)  M _ hv) ?_
        refine ev_k (pc' := 29) (ls' := [(0, .inr (.inr (some 16))), (1, .inl (x1)), (2, .inl (x2))]) (st' := [.inl (45), .inl (v2)]) (nc' := 126) (np' := 138) (M' := M) 1 rfl ?_
        obtain ⟨hR, ⟨hc, h⟩ | ⟨hc, h⟩⟩ := c_ne_i h
        · refine ev_icmp 68 rfl hR.1 hR.2 (by decide) (fun _ => ?_) (fun q => absurd hc q)
          exact LawReader_readSum_16_68_t hd rc41 hrc41    M r h
        · refine ev_icmp 68 rfl hR.1 hR.2 (by decide) (fun q => absurd q hc) (fun _ => ?_)
          exact LawReader_readSum_16_32_t hd rc41 hrc41 (LawReader_readSum_16_7  rc41  n) ih (x1) (x2) M r h
theorem LawReader_readSum_16_e {L : Nat} {xs : Nat → Int} {d : Nat} (hd : 2 ≤ d) (rc41 : Int → am_M → Option am_M) (hrc41 : ∀ (a0 : Int) (M : am_M) (r : am_M), rc41 a0 M = some r → am_Ev L xs (d - 1) me_41 0 (am_ar1 0 [.inr (.inr (some 16)), .inl (a0)]) [] 126 138 M (none, 126, 138, r)) (x1 : Int) (M : am_M) (r : am_M) (h : LawReader_readSum_16  rc41 x1 M = some r) : am_Ev L xs d me_40 0 (am_ar1 0 [.inr (.inr (some 16)), .inl (x1)]) [] 126 138 M (none, 126, 138, r) := by
  refine ev_k (pc' := 2) (ls' := [(0, .inr (.inr (some 16))), (1, .inl (x1))]) (st' := [.inl (x1), .inr (.inr (some 16))]) (nc' := 126) (np' := 138) (M' := M) 2 rfl ?_
  obtain ⟨M1, hv, h⟩ := ob_i h
  refine ev_call (t := 41) (as := [.inr (.inr (some 16)), .inl (x1)]) (rest := []) rfl rfl rfl (by omega) (hrc41 (x1) M _ hv) ?_
  refine ev_k (pc' := 7) (ls' := [(0, .inr (.inr (some 16))), (1, .inl (x1)), (2, .inl (0))]) (st' := []) (nc' := 126) (np' := 138) (M' := M1) 2 rfl ?_
  exact LawReader_readSum_16_7_t hd rc41 hrc41   am_big (x1) (0) M1 r h
