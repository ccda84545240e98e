def Search_whichAt_63_28    (s0 : Int) (M : am_M) : Option (Int) := some (s0)
def Search_whichAt_63_27     (M : am_M) : Option (Int) := (Search_whichAt_63_28    (-1) M)
def Search_whichAt_63    (x1 : Int) (M : am_M) : Option (Int) := c_lt (x1) (0)
       (Search_whichAt_63_27     M)
       (c_ge (x1) (M 63 2)
       (Search_whichAt_63_27     M)
       (c_ge (x1) (6)
       (Search_whichAt_63_27     M)
       (rd M 67 6 (x1) fun v1 => (Search_whichAt_63_28    (v1) M))))
theorem Search_whichAt_63_28_t {L : Nat} {xs : Nat → Int} {d : Nat} (hd : 0 ≤ d)     (s0 : Int) (M : am_M) (r : Int) (h : Search_whichAt_63_28    s0 M = some r) : am_Ev L xs d me_170 28 [] [.inl (s0)] 126 138 M (some (.inl r), 126, 138, M) := by
  refine ev_k (pc' := 28) (ls' := []) (st' := [.inl (s0)]) (nc' := 126) (np' := 138) (M' := M) 0 rfl ?_
  cases h
  exact ev_ret rfl
theorem Search_whichAt_63_27_t {L : Nat} {xs : Nat → Int} {d : Nat} (hd : 0 ≤ d)      (M : am_M) (r : Int) (h : Search_whichAt_63_27     M = some r) : am_Ev L xs d me_170 27 [] [] 126 138 M (some (.inl r), 126, 138, M) := by
  refine ev_k (pc' := 28) (ls' := []) (st' := [.inl (-1)]) (nc' := 126) (np' := 138) (M' := M) 1 rfl ?_
  exact Search_whichAt_63_28_t hd     (-1) M r h
theorem Search_whichAt_63_e {L : Nat} {xs : Nat → Int} {d : Nat} (hd : 0 ≤ d)   (x1 : Int) (M : am_M) (r : Int) (h : Search_whichAt_63   x1 M = some r) : am_Ev L xs d me_170 0 (am_ar1 0 [.inr (.inr (some 63)), .inl (x1)]) [] 126 138 M (some (.inl r), 126, 138, M) := by
  refine ev_k (pc' := 1) (ls' := [(0, .inr (.inr (some 63))), (1, .inl (x1))]) (st' := [.inl (x1)]) (nc' := 126) (np' := 138) (M' := M) 1 rfl ?_
  obtain ⟨hR, ⟨hc, h⟩ | ⟨hc, h⟩⟩ := c_lt_i h
  · refine ev_ifc 27 rfl hR.1 (by decide) (fun _ => ?_) (fun q => absurd hc q)
    exact Search_whichAt_63_27_t hd      M r h
  · refine ev_ifc 27 rfl hR.1 (by decide) (fun q => absurd q hc) (fun _ => ?_)
    refine ev_k (pc' := 9) (ls' := [(0, .inr (.inr (some 63))), (1, .inl (x1))]) (st' := [.inl (M 63 2), .inl (x1)]) (nc' := 126) (np' := 138) (M' := M) 3 rfl ?_
    obtain ⟨hR, ⟨hc, h⟩ | ⟨hc, h⟩⟩ := c_ge_i h
    · refine ev_icmp 27 rfl hR.1 hR.2 (by decide) (fun _ => ?_) (fun q => absurd hc q)
      exact Search_whichAt_63_27_t hd      M r h
    · refine ev_icmp 27 rfl hR.1 hR.2 (by decide) (fun q => absurd q hc) (fun _ => ?_)
      refine ev_k (pc' := 15) (ls' := [(0, .inr (.inr (some 63))), (1, .inl (x1))]) (st' := [.inl (6), .inl (x1)]) (nc' := 126) (np' := 138) (M' := M) 2 rfl ?_
      obtain ⟨hR, ⟨hc, h⟩ | ⟨hc, h⟩⟩ := c_ge_i h
      · refine ev_icmp 27 rfl hR.1 hR.2 (by decide) (fun _ => ?_) (fun q => absurd hc q)
        exact Search_whichAt_63_27_t hd      M r h
      · refine ev_icmp 27 rfl hR.1 hR.2 (by decide) (fun q => absurd q hc) (fun _ => ?_)
        refine ev_k (pc' := 23) (ls' := [(0, .inr (.inr (some 63))), (1, .inl (x1))]) (st' := [.inl (x1), .inr (.inr (some 67))]) (nc' := 126) (np' := 138) (M' := M) 3 rfl ?_
        obtain ⟨hc, v1, ev, h⟩ := rd_i h
        refine ev_ald (k := 67) (t := 0) (Or.inl ⟨rfl, rfl⟩) rfl (by decide) (by decide) rfl hc ev ?_
        refine ev_k (pc' := 28) (ls' := []) (st' := [.inl (v1)]) (nc' := 126) (np' := 138) (M' := M) 1 rfl ?_
        exact Search_whichAt_63_28_t hd     (v1) M r h
def P_seek_110    (s0 : Int) (M : am_M) : Option (Int × am_M) := some (s0, M)
def P_seek_65    (x2 : Int) (M : am_M) : Option (Int × am_M) := ob (Trip_cellAt_26 (M 26 11) M) fun v1 => ob (Search_findBest_63 (v1) M) fun M2 => c_ne (x2) (10)
       (ob (Search_whichAt_63 (x2) M2) fun v3 => (P_seek_110    (v3) M2))
       ((P_seek_110    (M2 63 5) M2))
def P_seek_27     (M : am_M) : Option (Int × am_M) := some (-1, M)
def P_seek_62     (M : am_M) : Option (Int × am_M) := some (-4, M)
def P_seek    (x1 : Int) (x2 : Int) (M : am_M) : Option (Int × am_M) := c_lt (x1) (1)
       (P_seek_27     M)
       (c_gt (x1) (6)
       (P_seek_27     M)
       (oc (Tape_take ((2) * (x1)) (2) (12) M) fun v1 M2 => c_ne (v1) (0)
       (oc (Search_readCells_63 (x1) M2) fun v3 M4 => c_ne (v3) (0)
       (c_eq (x2) (10)
       (P_seek_65    (x2) M4)
       (c_lt (x2) (0)
       (P_seek_62     M4)
       (c_lt (x2) (x1)
       (P_seek_65    (x2) M4)
       (P_seek_62     M4))))
       (some (-2, M4)))
       (P_seek_27     M2)))
theorem P_seek_110_t {L : Nat} {xs : Nat → Int} {d : Nat} (hd : 44 ≤ d)     (s0 : Int) (M : am_M) (r : Int × am_M) (h : P_seek_110    s0 M = some r) : am_Ev L xs d me_164 110 [] [.inl (s0)] 126 138 M (some (.inl r.1), 126, 138, r.2) := by
  refine ev_k (pc' := 110) (ls' := []) (st' := [.inl (s0)]) (nc' := 126) (np' := 138) (M' := M) 0 rfl ?_
  cases h
  exact ev_ret rfl
theorem P_seek_65_t {L : Nat} {xs : Nat → Int} {d : Nat} (hd : 44 ≤ d)     (x2 : Int) (M : am_M) (r : Int × am_M) (h : P_seek_65    x2 M = some r) : am_Ev L xs d me_164 65 [(0, .inr (.inr (some 0))), (2, .inl (x2))] [] 126 138 M (some (.inl r.1), 126, 138, r.2) := by
  refine ev_k (pc' := 80) (ls' := [(0, .inr (.inr (some 0))), (2, .inl (x2))]) (st' := [.inl (M 26 11), .inr (.inr (some 26)), .inr (.inr (some 63))]) (nc' := 126) (np' := 138) (M' := M) 7 rfl ?_
  obtain ⟨v1, hv, h⟩ := ob_i h
  refine ev_call (t := 31) (as := [.inr (.inr (some 26)), .inl (M 26 11)]) (rest := [.inr (.inr (some 63))]) rfl rfl rfl (by omega) (Trip_cellAt_26_e (by omega) (M 26 11) M _ hv) ?_
  refine ev_k (pc' := 83) (ls' := [(0, .inr (.inr (some 0))), (2, .inl (x2))]) (st' := [.inl (v1), .inr (.inr (some 63))]) (nc' := 126) (np' := 138) (M' := M) 0 rfl ?_
  obtain ⟨M2, hv, h⟩ := ob_i h
  refine ev_call (t := 166) (as := [.inr (.inr (some 63)), .inl (v1)]) (rest := []) rfl rfl rfl (by omega) (Search_findBest_63_e (by omega) (v1) M _ hv) ?_
  refine ev_k (pc' := 89) (ls' := [(0, .inr (.inr (some 0))), (2, .inl (x2))]) (st' := [.inl (10), .inl (x2)]) (nc' := 126) (np' := 138) (M' := M2) 2 rfl ?_
  obtain ⟨hR, ⟨hc, h⟩ | ⟨hc, h⟩⟩ := c_ne_i h
  · refine ev_icmp 102 rfl hR.1 hR.2 (by decide) (fun _ => ?_) (fun q => absurd hc q)
    refine ev_k (pc' := 107) (ls' := [(0, .inr (.inr (some 0))), (2, .inl (x2))]) (st' := [.inl (x2), .inr (.inr (some 63))]) (nc' := 126) (np' := 138) (M' := M2) 3 rfl ?_
    obtain ⟨v3, hv, h⟩ := ob_i h
    refine ev_call (t := 170) (as := [.inr (.inr (some 63)), .inl (x2)]) (rest := []) rfl rfl rfl (by omega) (Search_whichAt_63_e (by omega) (x2) M2 _ hv) ?_
    exact P_seek_110_t hd     (v3) M2 r h
  · refine ev_icmp 102 rfl hR.1 hR.2 (by decide) (fun q => absurd q hc) (fun _ => ?_)
    refine ev_k (pc' := 110) (ls' := []) (st' := [.inl (M2 63 5)]) (nc' := 126) (np' := 138) (M' := M2) 4 rfl ?_
    exact P_seek_110_t hd     (M2 63 5) M2 r h
theorem P_seek_27_t {L : Nat} {xs : Nat → Int} {d : Nat} (hd : 44 ≤ d)      (M : am_M) (r : Int × am_M) (h : P_seek_27     M = some r) : am_Ev L xs d me_164 27 [] [] 126 138 M (some (.inl r.1), 126, 138, r.2) := by
  refine ev_k (pc' := 28) (ls' := []) (st' := [.inl (-1)]) (nc' := 126) (np' := 138) (M' := M) 1 rfl ?_
  cases h
  exact ev_ret rfl
theorem P_seek_62_t {L : Nat} {xs : Nat → Int} {d : Nat} (hd : 44 ≤ d)      (M : am_M) (r : Int × am_M) (h : P_seek_62     M = some r) : am_Ev L xs d me_164 62 [] [] 126 138 M (some (.inl r.1), 126, 138, r.2) := by
  refine ev_k (pc' := 64) (ls' := []) (st' := [.inl (-4)]) (nc' := 126) (np' := 138) (M' := M) 1 rfl ?_
  cases h
  exact ev_ret rfl
theorem P_seek_e {L : Nat} {xs : Nat → Int} {d : Nat} (hd : 44 ≤ d)   (x1 : Int) (x2 : Int) (M : am_M) (r : Int × am_M) (h : P_seek   x1 x2 M = some r) : am_Ev L xs d me_164 0 (am_ar1 0 [.inr (.inr (some 0)), .inl (x1), .inl (x2)]) [] 126 138 M (some (.inl r.1), 126, 138, r.2) := by
  refine ev_k (pc' := 2) (ls' := [(0, .inr (.inr (some 0))), (1, .inl (x1)), (2, .inl (x2))]) (st' := [.inl (1), .inl (x1)]) (nc' := 126) (np' := 138) (M' := M) 2 rfl ?_
  obtain ⟨hR, ⟨hc, h⟩ | ⟨hc, h⟩⟩ := c_lt_i h
  · refine ev_icmp 27 rfl hR.1 hR.2 (by decide) (fun _ => ?_) (fun q => absurd hc q)
    exact P_seek_27_t hd      M r h
  · refine ev_icmp 27 rfl hR.1 hR.2 (by decide) (fun q => absurd q hc) (fun _ => ?_)
    refine ev_k (pc' := 8) (ls' := [(0, .inr (.inr (some 0))), (1, .inl (x1)), (2, .inl (x2))]) (st' := [.inl (6), .inl (x1)]) (nc' := 126) (np' := 138) (M' := M) 2 rfl ?_
    obtain ⟨hR, ⟨hc, h⟩ | ⟨hc, h⟩⟩ := c_gt_i h
    · refine ev_icmp 27 rfl hR.1 hR.2 (by decide) (fun _ => ?_) (fun q => absurd hc q)
      exact P_seek_27_t hd      M r h
    · refine ev_icmp 27 rfl hR.1 hR.2 (by decide) (fun q => absurd q hc) (fun _ => ?_)
      refine ev_k (pc' := 21) (ls' := [(0, .inr (.inr (some 0))), (1, .inl (x1)), (2, .inl (x2))]) (st' := [.inl (12), .inl (2), .inl ((2) * (x1)), .inr (.inr (some 14))]) (nc' := 126) (np' := 138) (M' := M) 7 rfl ?_
      obtain ⟨v1, M2, hv, h⟩ := oc_i h
      refine ev_call (t := 21) (as := [.inr (.inr (some 14)), .inl ((2) * (x1)), .inl (2), .inl (12)]) (rest := []) rfl rfl rfl (by omega) (Tape_take_e (by omega) ((2) * (x1)) (2) (12) M _ hv) ?_
      refine ev_k (pc' := 24) (ls' := [(0, .inr (.inr (some 0))), (1, .inl (x1)), (2, .inl (x2))]) (st' := [.inl (v1)]) (nc' := 126) (np' := 138) (M' := M2) 0 rfl ?_
      obtain ⟨hR, ⟨hc, h⟩ | ⟨hc, h⟩⟩ := c_ne_i h
      · refine ev_ifc 29 rfl hR.1 (by decide) (fun _ => ?_) (fun q => absurd hc q)
        refine ev_k (pc' := 38) (ls' := [(0, .inr (.inr (some 0))), (1, .inl (x1)), (2, .inl (x2))]) (st' := [.inl (x1), .inr (.inr (some 14)), .inr (.inr (some 63))]) (nc' := 126) (np' := 138) (M' := M2) 5 rfl ?_
        obtain ⟨v3, M4, hv, h⟩ := oc_i h
        refine ev_call (t := 165) (as := [.inr (.inr (some 63)), .inr (.inr (some 14)), .inl (x1)]) (rest := []) rfl rfl rfl (by omega) (Search_readCells_63_e (by omega) (x1) M2 _ hv) ?_
        refine ev_k (pc' := 41) (ls' := [(0, .inr (.inr (some 0))), (1, .inl (x1)), (2, .inl (x2))]) (st' := [.inl (v3)]) (nc' := 126) (np' := 138) (M' := M4) 0 rfl ?_
        obtain ⟨hR, ⟨hc, h⟩ | ⟨hc, h⟩⟩ := c_ne_i h
        · refine ev_ifc 47 rfl hR.1 (by decide) (fun _ => ?_) (fun q => absurd hc q)
          refine ev_k (pc' := 50) (ls' := [(0, .inr (.inr (some 0))), (1, .inl (x1)), (2, .inl (x2))]) (st' := [.inl (10), .inl (x2)]) (nc' := 126) (np' := 138) (M' := M4) 2 rfl ?_
          obtain ⟨hR, ⟨hc, h⟩ | ⟨hc, h⟩⟩ := c_eq_i h
          · refine ev_icmp 65 rfl hR.1 hR.2 (by decide) (fun _ => ?_) (fun q => absurd hc q)
            exact P_seek_65_t hd     (x2) M4 r h
          · refine ev_icmp 65 rfl hR.1 hR.2 (by decide) (fun q => absurd q hc) (fun _ => ?_)
            refine ev_k (pc' := 54) (ls' := [(0, .inr (.inr (some 0))), (1, .inl (x1)), (2, .inl (x2))]) (st' := [.inl (x2)]) (nc' := 126) (np' := 138) (M' := M4) 1 rfl ?_
            obtain ⟨hR, ⟨hc, h⟩ | ⟨hc, h⟩⟩ := c_lt_i h
            · refine ev_ifc 62 rfl hR.1 (by decide) (fun _ => ?_) (fun q => absurd hc q)
              exact P_seek_62_t hd      M4 r h
            · refine ev_ifc 62 rfl hR.1 (by decide) (fun q => absurd q hc) (fun _ => ?_)
              refine ev_k (pc' := 59) (ls' := [(0, .inr (.inr (some 0))), (1, .inl (x1)), (2, .inl (x2))]) (st' := [.inl (x1), .inl (x2)]) (nc' := 126) (np' := 138) (M' := M4) 2 rfl ?_
              obtain ⟨hR, ⟨hc, h⟩ | ⟨hc, h⟩⟩ := c_lt_i h
              · refine ev_icmp 65 rfl hR.1 hR.2 (by decide) (fun _ => ?_) (fun q => absurd hc q)
                exact P_seek_65_t hd     (x2) M4 r h
              · refine ev_icmp 65 rfl hR.1 hR.2 (by decide) (fun q => absurd q hc) (fun _ => ?_)
                exact P_seek_62_t hd      M4 r h
        · refine ev_ifc 47 rfl hR.1 (by decide) (fun q => absurd q hc) (fun _ => ?_)
          refine ev_k (pc' := 46) (ls' := [(0, .inr (.inr (some 0))), (1, .inl (x1)), (2, .inl (x2))]) (st' := [.inl (-2)]) (nc' := 126) (np' := 138) (M' := M4) 1 rfl ?_
          cases h
          exact ev_ret rfl
      · refine ev_ifc 29 rfl hR.1 (by decide) (fun q => absurd q hc) (fun _ => ?_)
        exact P_seek_27_t hd      M2 r h
def Overgrowth_readBlazes_68_195   (k8 : Int → Int → Int → am_M → Option (Int × am_M)) (k136 : Int → Int → Int → Int → Int → Int → Int → Int → Int → am_M → Option (Int × am_M)) (x2 : Int) (x3 : Int) (x4 : Int) (x5 : Int) (x6 : Int) (x7 : Int) (x8 : Int) (x9 : Int) (x10 : Int) (M : am_M) : Option (Int × am_M) := oc (Law_growing_5 (x5) (x6) (x9) (x3) M) fun v1 M2 => ob (J_min (99) ((x9) + (v1)) M2) fun v3 => (k136 (x2) (x3) (x4) (x5) (x6) (x7) (x8) (v3) ((x10) + (1)) M2)
def Overgrowth_readBlazes_68_185   (k8 : Int → Int → Int → am_M → Option (Int × am_M)) (k136 : Int → Int → Int → Int → Int → Int → Int → Int → Int → am_M → Option (Int × am_M)) (x2 : Int) (x3 : Int) (x4 : Int) (x5 : Int) (x6 : Int) (x7 : Int) (x8 : Int) (x9 : Int) (x10 : Int) (s1 : Int) (s2 : Int) (M : am_M) : Option (Int × am_M) := wa M 70 8 (s1) (s2) fun M1 => wa M1 71 8 (x4) (x10) fun M2 => (Overgrowth_readBlazes_68_195   k8 k136 (x2) (x3) (x4) (x5) (x6) (x7) (x8) (x9) (x10) M2)
def Overgrowth_readBlazes_68_136   (k8 : Int → Int → Int → am_M → Option (Int × am_M)) : Nat → Int → Int → Int → Int → Int → Int → Int → Int → Int → am_M → Option (Int × am_M)
  | 0, _, _, _, _, _, _, _, _, _, _ => none
  | n + 1, x2, x3, x4, x5, x6, x7, x8, x9, x10, M => c_gt (x10) (60)
       (fw M 68 10 ((M 68 10) + (1)) fun M1 => (k8 (x2) (x3) ((x4) + (1)) M1))
       (c_lt (x9) (x7)
       (Overgrowth_readBlazes_68_195   k8 (Overgrowth_readBlazes_68_136   k8 n) (x2) (x3) (x4) (x5) (x6) (x7) (x8) (x9) (x10) M)
       (c_gt (x9) (x8)
       (Overgrowth_readBlazes_68_195   k8 (Overgrowth_readBlazes_68_136   k8 n) (x2) (x3) (x4) (x5) (x6) (x7) (x8) (x9) (x10) M)
       (rd M 70 8 (x4) fun v2 => c_ge (v2) (0)
       (rd M 70 8 (x4) fun v3 => (Overgrowth_readBlazes_68_185   k8 (Overgrowth_readBlazes_68_136   k8 n) (x2) (x3) (x4) (x5) (x6) (x7) (x8) (x9) (x10) (x4) (v3) M))
       ((Overgrowth_readBlazes_68_185   k8 (Overgrowth_readBlazes_68_136   k8 n) (x2) (x3) (x4) (x5) (x6) (x7) (x8) (x9) (x10) (x4) (x10) M)))))
def Overgrowth_readBlazes_68_241     (M : am_M) : Option (Int × am_M) := some (1, M)
def Overgrowth_readBlazes_68_110     (M : am_M) : Option (Int × am_M) := some (0, M)
def Overgrowth_readBlazes_68_8    : Nat → Int → Int → Int → am_M → Option (Int × am_M)
  | 0, _, _, _, _ => none
  | n + 1, x2, x3, x4, M => c_ge (x4) (x2)
       (Overgrowth_readBlazes_68_241     M)
       (c_ge (x4) (8)
       (Overgrowth_readBlazes_68_241     M)
       (ob (Tape_at ((4) * (x4)) M) fun v1 => ob (Tape_at (((4) * (x4)) + (1)) M) fun v2 => ob (Tape_at (((4) * (x4)) + (2)) M) fun v3 => ob (Tape_at (((4) * (x4)) + (3)) M) fun v4 => c_lt (v1) (0)
       (Overgrowth_readBlazes_68_110     M)
       (c_ge (v1) (7)
       (Overgrowth_readBlazes_68_110     M)
       (c_lt (v2) (1)
       (Overgrowth_readBlazes_68_110     M)
       (c_gt (v2) (4)
       (Overgrowth_readBlazes_68_110     M)
       (c_lt (v3) (0)
       (Overgrowth_readBlazes_68_110     M)
       (c_gt (v3) (v4)
       (Overgrowth_readBlazes_68_110     M)
       (c_le (v4) (99)
       (wa M 70 8 (x4) (-2) fun M5 => wa M5 71 8 (x4) (-2) fun M6 => (Overgrowth_readBlazes_68_136   (Overgrowth_readBlazes_68_8    n) am_big (x2) (x3) (x4) (v1) (v2) (v3) (v4) (0) (0) M6))
       (Overgrowth_readBlazes_68_110     M)))))))))
def Overgrowth_readBlazes_68    (x2 : Int) (x3 : Int) (M : am_M) : Option (Int × am_M) := fw M 68 10 (0) fun M1 => (Overgrowth_readBlazes_68_8    am_big (x2) (x3) (0) M1)
theorem Overgrowth_readBlazes_68_195_t {L : Nat} {xs : Nat → Int} {d : Nat} (hd : 3 ≤ d)   (k8 : Int → Int → Int → am_M → Option (Int × am_M)) (k136 : Int → Int → Int → Int → Int → Int → Int → Int → Int → am_M → Option (Int × am_M)) (hk8 : ∀ (x2 : Int) (x3 : Int) (x4 : Int) (M : am_M) (r : Int × am_M), k8 x2 x3 x4 M = some r → am_Ev L xs d me_172 8 [(0, .inr (.inr (some 68))), (1, .inr (.inr (some 14))), (2, .inl (x2)), (3, .inl (x3)), (4, .inl (x4))] [] 126 138 M (some (.inl r.1), 126, 138, r.2)) (hk136 : ∀ (x2 : Int) (x3 : Int) (x4 : Int) (x5 : Int) (x6 : Int) (x7 : Int) (x8 : Int) (x9 : Int) (x10 : Int) (M : am_M) (r : Int × am_M), k136 x2 x3 x4 x5 x6 x7 x8 x9 x10 M = some r → am_Ev L xs d me_172 136 [(0, .inr (.inr (some 68))), (1, .inr (.inr (some 14))), (2, .inl (x2)), (3, .inl (x3)), (4, .inl (x4)), (5, .inl (x5)), (6, .inl (x6)), (7, .inl (x7)), (8, .inl (x8)), (9, .inl (x9)), (10, .inl (x10))] [] 126 138 M (some (.inl r.1), 126, 138, r.2)) (x2 : Int) (x3 : Int) (x4 : Int) (x5 : Int) (x6 : Int) (x7 : Int) (x8 : Int) (x9 : Int) (x10 : Int) (M : am_M) (r : Int × am_M) (h : Overgrowth_readBlazes_68_195   k8 k136 x2 x3 x4 x5 x6 x7 x8 x9 x10 M = some r) : am_Ev L xs d me_172 195 [(0, .inr (.inr (some 68))), (1, .inr (.inr (some 14))), (2, .inl (x2)), (3, .inl (x3)), (4, .inl (x4)), (5, .inl (x5)), (6, .inl (x6)), (7, .inl (x7)), (8, .inl (x8)), (9, .inl (x9)), (10, .inl (x10))] [] 126 138 M (some (.inl r.1), 126, 138, r.2) := by
  refine ev_k (pc' := 210) (ls' := [(0, .inr (.inr (some 68))), (1, .inr (.inr (some 14))), (2, .inl (x2)), (3, .inl (x3)), (4, .inl (x4)), (5, .inl (x5)), (6, .inl (x6)), (7, .inl (x7)), (8, .inl (x8)), (9, .inl (x9)), (10, .inl (x10))]) (st' := [.inl (x3), .inl (x9), .inl (x6), .inl (x5), .inr (.inr (some 5)), .inl (x9), .inl (99)]) (nc' := 126) (np' := 138) (M' := M) 8 rfl ?_
  obtain ⟨v1, M2, hv, h⟩ := oc_i h
  refine ev_call (t := 112) (as := [.inr (.inr (some 5)), .inl (x5), .inl (x6), .inl (x9), .inl (x3)]) (rest := [.inl (x9), .inl (99)]) rfl rfl rfl (by omega) (Law_growing_5_e (by omega) (x5) (x6) (x9) (x3) M _ hv) ?_
  refine ev_k (pc' := 214) (ls' := [(0, .inr (.inr (some 68))), (1, .inr (.inr (some 14))), (2, .inl (x2)), (3, .inl (x3)), (4, .inl (x4)), (5, .inl (x5)), (6, .inl (x6)), (7, .inl (x7)), (8, .inl (x8)), (9, .inl (x9)), (10, .inl (x10))]) (st' := [.inl ((x9) + (v1)), .inl (99)]) (nc' := 126) (np' := 138) (M' := M2) 1 rfl ?_
  obtain ⟨v3, hv, h⟩ := ob_i h
  refine ev_call (t := 60) (as := [.inl (99), .inl ((x9) + (v1))]) (rest := []) rfl rfl rfl (by omega) (J_min_e (by omega) (99) ((x9) + (v1)) M2 _ hv) ?_
  refine ev_k (pc' := 136) (ls' := [(0, .inr (.inr (some 68))), (1, .inr (.inr (some 14))), (2, .inl (x2)), (3, .inl (x3)), (4, .inl (x4)), (5, .inl (x5)), (6, .inl (x6)), (7, .inl (x7)), (8, .inl (x8)), (9, .inl (v3)), (10, .inl ((x10) + (1)))]) (st' := []) (nc' := 126) (np' := 138) (M' := M2) 3 rfl ?_
  exact hk136 (x2) (x3) (x4) (x5) (x6) (x7) (x8) (v3) ((x10) + (1)) M2 r h
theorem Overgrowth_readBlazes_68_185_t {L : Nat} {xs : Nat → Int} {d : Nat} (hd : 3 ≤ d)   (k8 : Int → Int → Int → am_M → Option (Int × am_M)) (k136 : Int → Int → Int → Int → Int → Int → Int → Int → Int → am_M → Option (Int × am_M)) (hk8 : ∀ (x2 : Int) (x3 : Int) (x4 : Int) (M : am_M) (r : Int × am_M), k8 x2 x3 x4 M = some r → am_Ev L xs d me_172 8 [(0, .inr (.inr (some 68))), (1, .inr (.inr (some 14))), (2, .inl (x2)), (3, .inl (x3)), (4, .inl (x4))] [] 126 138 M (some (.inl r.1), 126, 138, r.2)) (hk136 : ∀ (x2 : Int) (x3 : Int) (x4 : Int) (x5 : Int) (x6 : Int) (x7 : Int) (x8 : Int) (x9 : Int) (x10 : Int) (M : am_M) (r : Int × am_M), k136 x2 x3 x4 x5 x6 x7 x8 x9 x10 M = some r → am_Ev L xs d me_172 136 [(0, .inr (.inr (some 68))), (1, .inr (.inr (some 14))), (2, .inl (x2)), (3, .inl (x3)), (4, .inl (x4)), (5, .inl (x5)), (6, .inl (x6)), (7, .inl (x7)), (8, .inl (x8)), (9, .inl (x9)), (10, .inl (x10))] [] 126 138 M (some (.inl r.1), 126, 138, r.2)) (x2 : Int) (x3 : Int) (x4 : Int) (x5 : Int) (x6 : Int) (x7 : Int) (x8 : Int) (x9 : Int) (x10 : Int) (s1 : Int) (s2 : Int) (M : am_M) (r : Int × am_M) (h : Overgrowth_readBlazes_68_185   k8 k136 x2 x3 x4 x5 x6 x7 x8 x9 x10 s1 s2 M = some r) : am_Ev L xs d me_172 185 [(0, .inr (.inr (some 68))), (1, .inr (.inr (some 14))), (2, .inl (x2)), (3, .inl (x3)), (4, .inl (x4)), (5, .inl (x5)), (6, .inl (x6)), (7, .inl (x7)), (8, .inl (x8)), (9, .inl (x9)), (10, .inl (x10))] [.inl (s2), .inl (s1), .inr (.inr (some 70))] 126 138 M (some (.inl r.1), 126, 138, r.2) := by
  refine ev_k (pc' := 185) (ls' := [(0, .inr (.inr (some 68))), (1, .inr (.inr (some 14))), (2, .inl (x2)), (3, .inl (x3)), (4, .inl (x4)), (5, .inl (x5)), (6, .inl (x6)), (7, .inl (x7)), (8, .inl (x8)), (9, .inl (x9)), (10, .inl (x10))]) (st' := [.inl (s2), .inl (s1), .inr (.inr (some 70))]) (nc' := 126) (np' := 138) (M' := M) 0 rfl ?_
  obtain ⟨hc, M1, eM, h⟩ := wa_i h
  refine ev_iast (k := 70) rfl (by decide) rfl hc eM ?_
  refine ev_k (pc' := 194) (ls' := [(0, .inr (.inr (some 68))), (1, .inr (.inr (some 14))), (2, .inl (x2)), (3, .inl (x3)), (4, .inl (x4)), (5, .inl (x5)), (6, .inl (x6)), (7, .inl (x7)), (8, .inl (x8)), (9, .inl (x9)), (10, .inl (x10))]) (st' := [.inl (x10), .inl (x4), .inr (.inr (some 71))]) (nc' := 126) (np' := 138) (M' := M1) 4 rfl ?_
  obtain ⟨hc, M2, eM, h⟩ := wa_i h
  refine ev_iast (k := 71) rfl (by decide) rfl hc eM ?_
  exact Overgrowth_readBlazes_68_195_t hd   k8 k136 hk8 hk136 (x2) (x3) (x4) (x5) (x6) (x7) (x8) (x9) (x10) M2 r h
theorem Overgrowth_readBlazes_68_136_t {L : Nat} {xs : Nat → Int} {d : Nat} (hd : 3 ≤ d)   (k8 : Int → Int → Int → am_M → Option (Int × am_M)) (hk8 : ∀ (x2 : Int) (x3 : Int) (x4 : Int) (M : am_M) (r : Int × am_M), k8 x2 x3 x4 M = some r → am_Ev L xs d me_172 8 [(0, .inr (.inr (some 68))), (1, .inr (.inr (some 14))), (2, .inl (x2)), (3, .inl (x3)), (4, .inl (x4))] [] 126 138 M (some (.inl r.1), 126, 138, r.2)) : ∀ (n : Nat) (x2 : Int) (x3 : Int) (x4 : Int) (x5 : Int) (x6 : Int) (x7 : Int) (x8 : Int) (x9 : Int) (x10 : Int) (M : am_M) (r : Int × am_M), Overgrowth_readBlazes_68_136   k8 n x2 x3 x4 x5 x6 x7 x8 x9 x10 M = some r → am_Ev L xs d me_172 136 [(0, .inr (.inr (some 68))), (1, .inr (.inr (some 14))), (2, .inl (x2)), (3, .inl (x3)), (4, .inl (x4)), (5, .inl (x5)), (6, .inl (x6)), (7, .inl (x7)), (8, .inl (x8)), (9, .inl (x9)), (10, .inl (x10))] [] 126 138 M (some (.inl r.1), 126, 138, r.2)
  | 0, _, _, _, _, _, _, _, _, _, M, r, h => by cases h
  | n + 1, x2, x3, x4, x5, x6, x7, x8, x9, x10, M, r, h => by
    have ih := Overgrowth_readBlazes_68_136_t (L := L) (xs := xs) hd   k8 hk8 n
    refine ev_k (pc' := 140) (ls' := [(0, .inr (.inr (some 68))), (1, .inr (.inr (some 14))), (2, .inl (x2)), (3, .inl (x3)), (4, .inl (x4)), (5, .inl (x5)), (6, .inl (x6)), (7, .inl (x7)), (8, .inl (x8)), (9, .inl (x9)), (10, .inl (x10))]) (st' := [.inl (60), .inl (x10)]) (nc' := 126) (np' := 138) (M' := M) 2 rfl ?_
    obtain ⟨hR, ⟨hc, h⟩ | ⟨hc, h⟩⟩ := c_gt_i h
    · refine ev_icmp 225 rfl hR.1 hR.2 (by decide) (fun _ => ?_) (fun q => absurd hc q)
      refine ev_k (pc' := 235) (ls' := [(0, .inr (.inr (some 68))), (1, .inr (.inr (some 14))), (2, .inl (x2)), (3, .inl (x3)), (4, .inl (x4)), (5, .inl (x5)), (6, .inl (x6)), (7, .inl (x7)), (8, .inl (x8)), (9, .inl (x9)), (10, .inl (x10))]) (st' := []) (nc' := 126) (np' := 138) (M' := am_up M 68 10 ((M 68 10) + (1))) 6 rfl ?_
      obtain ⟨M1, eM, h⟩ := fw_i h
      rw [← eM]
      refine ev_k (pc' := 8) (ls' := [(0, .inr (.inr (some 68))), (1, .inr (.inr (some 14))), (2, .inl (x2)), (3, .inl (x3)), (4, .inl ((x4) + (1)))]) (st' := []) (nc' := 126) (np' := 138) (M' := M1) 2 rfl ?_
      exact hk8 (x2) (x3) ((x4) + (1)) M1 r h
    · refine ev_icmp 225 rfl hR.1 hR.2 (by decide) (fun q => absurd q hc) (fun _ => ?_)
      refine ev_k (pc' := 147) (ls' := [(0, .inr (.inr (some 68))), (1, .inr (.inr (some 14))), (2, .inl (x2)), (3, .inl (x3)), (4, .inl (x4)), (5, .inl (x5)), (6, .inl (x6)), (7, .inl (x7)), (8, .inl (x8)), (9, .inl (x9)), (10, .inl (x10))]) (st' := [.inl (x7), .inl (x9)]) (nc' := 126) (np' := 138) (M' := M) 2 rfl ?_
      obtain ⟨hR, ⟨hc, h⟩ | ⟨hc, h⟩⟩ := c_lt_i h
      · refine ev_icmp 195 rfl hR.1 hR.2 (by decide) (fun _ => ?_) (fun q => absurd hc q)
        exact Overgrowth_readBlazes_68_195_t hd   k8 (Overgrowth_readBlazes_68_136   k8 n) hk8 ih (x2) (x3) (x4) (x5) (x6) (x7) (x8) (x9) (x10) M r h
      · refine ev_icmp 195 rfl hR.1 hR.2 (by decide) (fun q => absurd q hc) (fun _ => ?_)
        refine ev_k (pc' := 154) (ls' := [(0, .inr (.inr (some 68))), (1, .inr (.inr (some 14))), (2, .inl (x2)), (3, .inl (x3)), (4, .inl (x4)), (5, .inl (x5)), (6, .inl (x6)), (7, .inl (x7)), (8, .inl (x8)), (9, .inl (x9)), (10, .inl (x10))]) (st' := [.inl (x8), .inl (x9)]) (nc' := 126) (np' := 138) (M' := M) 2 rfl ?_
        obtain ⟨hR, ⟨hc, h⟩ | ⟨hc, h⟩⟩ := c_gt_i h
        · refine ev_icmp 195 rfl hR.1 hR.2 (by decide) (fun _ => ?_) (fun q => absurd hc q)
          exact Overgrowth_readBlazes_68_195_t hd   k8 (Overgrowth_readBlazes_68_136   k8 n) hk8 ih (x2) (x3) (x4) (x5) (x6) (x7) (x8) (x9) (x10) M r h
        · refine ev_icmp 195 rfl hR.1 hR.2 (by decide) (fun q => absurd q hc) (fun _ => ?_)
          refine ev_k (pc' := 169) (ls' := [(0, .inr (.inr (some 68))), (1, .inr (.inr (some 14))), (2, .inl (x2)), (3, .inl (x3)), (4, .inl (x4)), (5, .inl (x5)), (6, .inl (x6)), (7, .inl (x7)), (8, .inl (x8)), (9, .inl (x9)), (10, .inl (x10))]) (st' := [.inl (x4), .inr (.inr (some 70)), .inl (x4), .inr (.inr (some 70))]) (nc' := 126) (np' := 138) (M' := M) 6 rfl ?_
          obtain ⟨hc, v2, ev, h⟩ := rd_i h
          refine ev_ald (k := 70) (t := 0) (Or.inl ⟨rfl, rfl⟩) rfl (by decide) (by decide) rfl hc ev ?_
          refine ev_k (pc' := 170) (ls' := [(0, .inr (.inr (some 68))), (1, .inr (.inr (some 14))), (2, .inl (x2)), (3, .inl (x3)), (4, .inl (x4)), (5, .inl (x5)), (6, .inl (x6)), (7, .inl (x7)), (8, .inl (x8)), (9, .inl (x9)), (10, .inl (x10))]) (st' := [.inl (v2), .inl (x4), .inr (.inr (some 70))]) (nc' := 126) (np' := 138) (M' := M) 0 rfl ?_
          obtain ⟨hR, ⟨hc, h⟩ | ⟨hc, h⟩⟩ := c_ge_i h
          · refine ev_ifc 178 rfl hR.1 (by decide) (fun _ => ?_) (fun q => absurd hc q)
            refine ev_k (pc' := 184) (ls' := [(0, .inr (.inr (some 68))), (1, .inr (.inr (some 14))), (2, .inl (x2)), (3, .inl (x3)), (4, .inl (x4)), (5, .inl (x5)), (6, .inl (x6)), (7, .inl (x7)), (8, .inl (x8)), (9, .inl (x9)), (10, .inl (x10))]) (st' := [.inl (x4), .inr (.inr (some 70)), .inl (x4), .inr (.inr (some 70))]) (nc' := 126) (np' := 138) (M' := M) 3 rfl ?_
            obtain ⟨hc, v3, ev, h⟩ := rd_i h
            refine ev_ald (k := 70) (t := 0) (Or.inl ⟨rfl, rfl⟩) rfl (by decide) (by decide) rfl hc ev ?_
            exact Overgrowth_readBlazes_68_185_t hd   k8 (Overgrowth_readBlazes_68_136   k8 n) hk8 ih (x2) (x3) (x4) (x5) (x6) (x7) (x8) (x9) (x10) (x4) (v3) M r h
          · refine ev_ifc 178 rfl hR.1 (by decide) (fun q => absurd q hc) (fun _ => ?_)
            refine ev_k (pc' := 185) (ls' := [(0, .inr (.inr (some 68))), (1, .inr (.inr (some 14))), (2, .inl (x2)), (3, .inl (x3)), (4, .inl (x4)), (5, .inl (x5)), (6, .inl (x6)), (7, .inl (x7)), (8, .inl (x8)), (9, .inl (x9)), (10, .inl (x10))]) (st' := [.inl (x10), .inl (x4), .inr (.inr (some 70))]) (nc' := 126) (np' := 138) (M' := M) 2 rfl ?_
            exact Overgrowth_readBlazes_68_185_t hd   k8 (Overgrowth_readBlazes_68_136   k8 n) hk8 ih (x2) (x3) (x4) (x5) (x6) (x7) (x8) (x9) (x10) (x4) (x10) M r h
theorem Overgrowth_readBlazes_68_241_t {L : Nat} {xs : Nat → Int} {d : Nat} (hd : 3 ≤ d)      (M : am_M) (r : Int × am_M) (h : Overgrowth_readBlazes_68_241     M = some r) : am_Ev L xs d me_172 241 [] [] 126 138 M (some (.inl r.1), 126, 138, r.2) := by
  refine ev_k (pc' := 242) (ls' := []) (st' := [.inl (1)]) (nc' := 126) (np' := 138) (M' := M) 1 rfl ?_
  cases h
  exact ev_ret rfl
theorem Overgrowth_readBlazes_68_110_t {L : Nat} {xs : Nat → Int} {d : Nat} (hd : 3 ≤ d)      (M : am_M) (r : Int × am_M) (h : Overgrowth_readBlazes_68_110     M = some r) : am_Ev L xs d me_172 110 [] [] 126 138 M (some (.inl r.1), 126, 138, r.2) := by
  refine ev_k (pc' := 111) (ls' := []) (st' := [.inl (0)]) (nc' := 126) (np' := 138) (M' := M) 1 rfl ?_
  cases h
  exact ev_ret rfl
theorem Overgrowth_readBlazes_68_8_t {L : Nat} {xs : Nat → Int} {d : Nat} (hd : 3 ≤ d)     : ∀ (n : Nat) (x2 : Int) (x3 : Int) (x4 : Int) (M : am_M) (r : Int × am_M), Overgrowth_readBlazes_68_8    n x2 x3 x4 M = some r → am_Ev L xs d me_172 8 [(0, .inr (.inr (some 68))), (1, .inr (.inr (some 14))), (2, .inl (x2)), (3, .inl (x3)), (4, .inl (x4))] [] 126 138 M (some (.inl r.1), 126, 138, r.2)
  | 0, _, _, _, M, r, h => by cases h
  | n + 1, x2, x3, x4, M, r, h => by
    have ih := Overgrowth_readBlazes_68_8_t (L := L) (xs := xs) hd     n
    refine ev_k (pc' := 11) (ls' := [(0, .inr (.inr (some 68))), (1, .inr (.inr (some 14))), (2, .inl (x2)), (3, .inl (x3)), (4, .inl (x4))]) (st' := [.inl (x2), .inl (x4)]) (nc' := 126) (np' := 138) (M' := M) 2 rfl ?_
    obtain ⟨hR, ⟨hc, h⟩ | ⟨hc, h⟩⟩ := c_ge_i h
    · refine ev_icmp 241 rfl hR.1 hR.2 (by decide) (fun _ => ?_) (fun q => absurd hc q)
      exact Overgrowth_readBlazes_68_241_t hd      M r h
    · refine ev_icmp 241 rfl hR.1 hR.2 (by decide) (fun q => absurd q hc) (fun _ => ?_)
      refine ev_k (pc' := 18) (ls' := [(0, .inr (.inr (some 68))), (1, .inr (.inr (some 14))), (2, .inl (x2)), (3, .inl (x3)), (4, .inl (x4))]) (st' := [.inl (8), .inl (x4)]) (nc' := 126) (np' := 138) (M' := M) 2 rfl ?_
      obtain ⟨hR, ⟨hc, h⟩ | ⟨hc, h⟩⟩ := c_ge_i h
      · refine ev_icmp 241 rfl hR.1 hR.2 (by decide) (fun _ => ?_) (fun q => absurd hc q)
        exact Overgrowth_readBlazes_68_241_t hd      M r h
      · refine ev_icmp 241 rfl hR.1 hR.2 (by decide) (fun q => absurd q hc) (fun _ => ?_)
        refine ev_k (pc' := 26) (ls' := [(0, .inr (.inr (some 68))), (1, .inr (.inr (some 14))), (2, .inl (x2)), (3, .inl (x3)), (4, .inl (x4))]) (st' := [.inl ((4) * (x4)), .inr (.inr (some 14))]) (nc' := 126) (np' := 138) (M' := M) 4 rfl ?_
        obtain ⟨v1, hv, h⟩ := ob_i h
        refine ev_call (t := 23) (as := [.inr (.inr (some 14)), .inl ((4) * (x4))]) (rest := []) rfl rfl rfl (by omega) (Tape_at_e (by omega) ((4) * (x4)) M _ hv) ?_
        refine ev_k (pc' := 38) (ls' := [(5, .inl (v1)), (0, .inr (.inr (some 68))), (1, .inr (.inr (some 14))), (2, .inl (x2)), (3, .inl (x3)), (4, .inl (x4))]) (st' := [.inl (((4) * (x4)) + (1)), .inr (.inr (some 14))]) (nc' := 126) (np' := 138) (M' := M) 7 rfl ?_
        obtain ⟨v2, hv, h⟩ := ob_i h
        refine ev_call (t := 23) (as := [.inr (.inr (some 14)), .inl (((4) * (x4)) + (1))]) (rest := []) rfl rfl rfl (by omega) (Tape_at_e (by omega) (((4) * (x4)) + (1)) M _ hv) ?_
        refine ev_k (pc' := 50) (ls' := [(6, .inl (v2)), (5, .inl (v1)), (0, .inr (.inr (some 68))), (1, .inr (.inr (some 14))), (2, .inl (x2)), (3, .inl (x3)), (4, .inl (x4))]) (st' := [.inl (((4) * (x4)) + (2)), .inr (.inr (some 14))]) (nc' := 126) (np' := 138) (M' := M) 7 rfl ?_
        obtain ⟨v3, hv, h⟩ := ob_i h
        refine ev_call (t := 23) (as := [.inr (.inr (some 14)), .inl (((4) * (x4)) + (2))]) (rest := []) rfl rfl rfl (by omega) (Tape_at_e (by omega) (((4) * (x4)) + (2)) M _ hv) ?_
        refine ev_k (pc' := 62) (ls' := [(7, .inl (v3)), (6, .inl (v2)), (5, .inl (v1)), (0, .inr (.inr (some 68))), (1, .inr (.inr (some 14))), (2, .inl (x2)), (3, .inl (x3)), (4, .inl (x4))]) (st' := [.inl (((4) * (x4)) + (3)), .inr (.inr (some 14))]) (nc' := 126) (np' := 138) (M' := M) 7 rfl ?_
        obtain ⟨v4, hv, h⟩ := ob_i h
        refine ev_call (t := 23) (as := [.inr (.inr (some 14)), .inl (((4) * (x4)) + (3))]) (rest := []) rfl rfl rfl (by omega) (Tape_at_e (by omega) (((4) * (x4)) + (3)) M _ hv) ?_
        refine ev_k (pc' := 69) (ls' := [(8, .inl (v4)), (7, .inl (v3)), (6, .inl (v2)), (5, .inl (v1)), (0, .inr (.inr (some 68))), (1, .inr (.inr (some 14))), (2, .inl (x2)), (3, .inl (x3)), (4, .inl (x4))]) (st' := [.inl (v1)]) (nc' := 126) (np' := 138) (M' := M) 2 rfl ?_
        obtain ⟨hR, ⟨hc, h⟩ | ⟨hc, h⟩⟩ := c_lt_i h
        · refine ev_ifc 110 rfl hR.1 (by decide) (fun _ => ?_) (fun q => absurd hc q)
          exact Overgrowth_readBlazes_68_110_t hd      M r h
        · refine ev_ifc 110 rfl hR.1 (by decide) (fun q => absurd q hc) (fun _ => ?_)
          refine ev_k (pc' := 76) (ls' := [(8, .inl (v4)), (7, .inl (v3)), (6, .inl (v2)), (5, .inl (v1)), (0, .inr (.inr (some 68))), (1, .inr (.inr (some 14))), (2, .inl (x2)), (3, .inl (x3)), (4, .inl (x4))]) (st' := [.inl (7), .inl (v1)]) (nc' := 126) (np' := 138) (M' := M) 2 rfl ?_
          obtain ⟨hR, ⟨hc, h⟩ | ⟨hc, h⟩⟩ := c_ge_i h
          · refine ev_icmp 110 rfl hR.1 hR.2 (by decide) (fun _ => ?_) (fun q => absurd hc q)
            exact Overgrowth_readBlazes_68_110_t hd      M r h
          · refine ev_icmp 110 rfl hR.1 hR.2 (by decide) (fun q => absurd q hc) (fun _ => ?_)
            refine ev_k (pc' := 82) (ls' := [(8, .inl (v4)), (7, .inl (v3)), (6, .inl (v2)), (5, .inl (v1)), (0, .inr (.inr (some 68))), (1, .inr (.inr (some 14))), (2, .inl (x2)), (3, .inl (x3)), (4, .inl (x4))]) (st' := [.inl (1), .inl (v2)]) (nc' := 126) (np' := 138) (M' := M) 2 rfl ?_
            obtain ⟨hR, ⟨hc, h⟩ | ⟨hc, h⟩⟩ := c_lt_i h
            · refine ev_icmp 110 rfl hR.1 hR.2 (by decide) (fun _ => ?_) (fun q => absurd hc q)
              exact Overgrowth_readBlazes_68_110_t hd      M r h
            · refine ev_icmp 110 rfl hR.1 hR.2 (by decide) (fun q => absurd q hc) (fun _ => ?_)
              refine ev_k (pc' := 88) (ls' := [(8, .inl (v4)), (7, .inl (v3)), (6, .inl (v2)), (5, .inl (v1)), (0, .inr (.inr (some 68))), (1, .inr (.inr (some 14))), (2, .inl (x2)), (3, .inl (x3)), (4, .inl (x4))]) (st' := [.inl (4), .inl (v2)]) (nc' := 126) (np' := 138) (M' := M) 2 rfl ?_
              obtain ⟨hR, ⟨hc, h⟩ | ⟨hc, h⟩⟩ := c_gt_i h
              · refine ev_icmp 110 rfl hR.1 hR.2 (by decide) (fun _ => ?_) (fun q => absurd hc q)
                exact Overgrowth_readBlazes_68_110_t hd      M r h
              · refine ev_icmp 110 rfl hR.1 hR.2 (by decide) (fun q => absurd q hc) (fun _ => ?_)
                refine ev_k (pc' := 93) (ls' := [(8, .inl (v4)), (7, .inl (v3)), (6, .inl (v2)), (5, .inl (v1)), (0, .inr (.inr (some 68))), (1, .inr (.inr (some 14))), (2, .inl (x2)), (3, .inl (x3)), (4, .inl (x4))]) (st' := [.inl (v3)]) (nc' := 126) (np' := 138) (M' := M) 1 rfl ?_
                obtain ⟨hR, ⟨hc, h⟩ | ⟨hc, h⟩⟩ := c_lt_i h
                · refine ev_ifc 110 rfl hR.1 (by decide) (fun _ => ?_) (fun q => absurd hc q)
                  exact Overgrowth_readBlazes_68_110_t hd      M r h
                · refine ev_ifc 110 rfl hR.1 (by decide) (fun q => absurd q hc) (fun _ => ?_)
                  refine ev_k (pc' := 100) (ls' := [(8, .inl (v4)), (7, .inl (v3)), (6, .inl (v2)), (5, .inl (v1)), (0, .inr (.inr (some 68))), (1, .inr (.inr (some 14))), (2, .inl (x2)), (3, .inl (x3)), (4, .inl (x4))]) (st' := [.inl (v4), .inl (v3)]) (nc' := 126) (np' := 138) (M' := M) 2 rfl ?_
                  obtain ⟨hR, ⟨hc, h⟩ | ⟨hc, h⟩⟩ := c_gt_i h
                  · refine ev_icmp 110 rfl hR.1 hR.2 (by decide) (fun _ => ?_) (fun q => absurd hc q)
                    exact Overgrowth_readBlazes_68_110_t hd      M r h
                  · refine ev_icmp 110 rfl hR.1 hR.2 (by decide) (fun q => absurd q hc) (fun _ => ?_)
                    refine ev_k (pc' := 107) (ls' := [(8, .inl (v4)), (7, .inl (v3)), (6, .inl (v2)), (5, .inl (v1)), (0, .inr (.inr (some 68))), (1, .inr (.inr (some 14))), (2, .inl (x2)), (3, .inl (x3)), (4, .inl (x4))]) (st' := [.inl (99), .inl (v4)]) (nc' := 126) (np' := 138) (M' := M) 2 rfl ?_
                    obtain ⟨hR, ⟨hc, h⟩ | ⟨hc, h⟩⟩ := c_le_i h
                    · refine ev_icmp 112 rfl hR.1 hR.2 (by decide) (fun _ => ?_) (fun q => absurd hc q)
                      refine ev_k (pc' := 120) (ls' := [(8, .inl (v4)), (7, .inl (v3)), (6, .inl (v2)), (5, .inl (v1)), (0, .inr (.inr (some 68))), (1, .inr (.inr (some 14))), (2, .inl (x2)), (3, .inl (x3)), (4, .inl (x4))]) (st' := [.inl (-2), .inl (x4), .inr (.inr (some 70))]) (nc' := 126) (np' := 138) (M' := M) 4 rfl ?_
                      obtain ⟨hc, M5, eM, h⟩ := wa_i h
                      refine ev_iast (k := 70) rfl (by decide) rfl hc eM ?_
                      refine ev_k (pc' := 129) (ls' := [(8, .inl (v4)), (7, .inl (v3)), (6, .inl (v2)), (5, .inl (v1)), (0, .inr (.inr (some 68))), (1, .inr (.inr (some 14))), (2, .inl (x2)), (3, .inl (x3)), (4, .inl (x4))]) (st' := [.inl (-2), .inl (x4), .inr (.inr (some 71))]) (nc' := 126) (np' := 138) (M' := M5) 4 rfl ?_
                      obtain ⟨hc, M6, eM, h⟩ := wa_i h
                      refine ev_iast (k := 71) rfl (by decide) rfl hc eM ?_
                      refine ev_k (pc' := 136) (ls' := [(0, .inr (.inr (some 68))), (1, .inr (.inr (some 14))), (2, .inl (x2)), (3, .inl (x3)), (4, .inl (x4)), (5, .inl (v1)), (6, .inl (v2)), (7, .inl (v3)), (8, .inl (v4)), (9, .inl (0)), (10, .inl (0))]) (st' := []) (nc' := 126) (np' := 138) (M' := M6) 4 rfl ?_
                      exact Overgrowth_readBlazes_68_136_t hd   (Overgrowth_readBlazes_68_8    n) ih am_big (x2) (x3) (x4) (v1) (v2) (v3) (v4) (0) (0) M6 r h
                    · refine ev_icmp 112 rfl hR.1 hR.2 (by decide) (fun q => absurd q hc) (fun _ => ?_)
                      exact Overgrowth_readBlazes_68_110_t hd      M r h
theorem Overgrowth_readBlazes_68_e {L : Nat} {xs : Nat → Int} {d : Nat} (hd : 3 ≤ d)   (x2 : Int) (x3 : Int) (M : am_M) (r : Int × am_M) (h : Overgrowth_readBlazes_68   x2 x3 M = some r) : am_Ev L xs d me_172 0 (am_ar1 0 [.inr (.inr (some 68)), .inr (.inr (some 14)), .inl (x2), .inl (x3)]) [] 126 138 M (some (.inl r.1), 126, 138, r.2) := by
  refine ev_k (pc' := 5) (ls' := [(0, .inr (.inr (some 68))), (1, .inr (.inr (some 14))), (2, .inl (x2)), (3, .inl (x3))]) (st' := []) (nc' := 126) (np' := 138) (M' := am_up M 68 10 (0)) 3 rfl ?_
  obtain ⟨M1, eM, h⟩ := fw_i h
  rw [← eM]
  refine ev_k (pc' := 8) (ls' := [(0, .inr (.inr (some 68))), (1, .inr (.inr (some 14))), (2, .inl (x2)), (3, .inl (x3)), (4, .inl (0))]) (st' := []) (nc' := 126) (np' := 138) (M' := M1) 2 rfl ?_
  exact Overgrowth_readBlazes_68_8_t hd     am_big (x2) (x3) (0) M1 r h
def Overgrowth_firstDayOf_68_29    (s0 : Int) (M : am_M) : Option (Int) := some (s0)
def Overgrowth_firstDayOf_68_27     (M : am_M) : Option (Int) := (Overgrowth_firstDayOf_68_29    (-2) M)
def Overgrowth_firstDayOf_68    (x1 : Int) (M : am_M) : Option (Int) := c_lt (x1) (0)
       (Overgrowth_firstDayOf_68_27     M)
       (c_ge (x1) (M 68 10)
       (Overgrowth_firstDayOf_68_27     M)
       (c_ge (x1) (8)
       (Overgrowth_firstDayOf_68_27     M)
       (rd M 70 8 (x1) fun v1 => (Overgrowth_firstDayOf_68_29    (v1) M))))
theorem Overgrowth_firstDayOf_68_29_t {L : Nat} {xs : Nat → Int} {d : Nat} (hd : 0 ≤ d)     (s0 : Int) (M : am_M) (r : Int) (h : Overgrowth_firstDayOf_68_29    s0 M = some r) : am_Ev L xs d me_175 29 [] [.inl (s0)] 126 138 M (some (.inl r), 126, 138, M) := by
  refine ev_k (pc' := 29) (ls' := []) (st' := [.inl (s0)]) (nc' := 126) (np' := 138) (M' := M) 0 rfl ?_
  cases h
  exact ev_ret rfl
theorem Overgrowth_firstDayOf_68_27_t {L : Nat} {xs : Nat → Int} {d : Nat} (hd : 0 ≤ d)      (M : am_M) (r : Int) (h : Overgrowth_firstDayOf_68_27     M = some r) : am_Ev L xs d me_175 27 [] [] 126 138 M (some (.inl r), 126, 138, M) := by
  refine ev_k (pc' := 29) (ls' := []) (st' := [.inl (-2)]) (nc' := 126) (np' := 138) (M' := M) 1 rfl ?_
  exact Overgrowth_firstDayOf_68_29_t hd     (-2) M r h
theorem Overgrowth_firstDayOf_68_e {L : Nat} {xs : Nat → Int} {d : Nat} (hd : 0 ≤ d)   (x1 : Int) (M : am_M) (r : Int) (h : Overgrowth_firstDayOf_68   x1 M = some r) : am_Ev L xs d me_175 0 (am_ar1 0 [.inr (.inr (some 68)), .inl (x1)]) [] 126 138 M (some (.inl r), 126, 138, M) := by
  refine ev_k (pc' := 1) (ls' := [(0, .inr (.inr (some 68))), (1, .inl (x1))]) (st' := [.inl (x1)]) (nc' := 126) (np' := 138) (M' := M) 1 rfl ?_
  obtain ⟨hR, ⟨hc, h⟩ | ⟨hc, h⟩⟩ := c_lt_i h
  · refine ev_ifc 27 rfl hR.1 (by decide) (fun _ => ?_) (fun q => absurd hc q)
    exact Overgrowth_firstDayOf_68_27_t hd      M r h
  · refine ev_ifc 27 rfl hR.1 (by decide) (fun q => absurd q hc) (fun _ => ?_)
    refine ev_k (pc' := 9) (ls' := [(0, .inr (.inr (some 68))), (1, .inl (x1))]) (st' := [.inl (M 68 10), .inl (x1)]) (nc' := 126) (np' := 138) (M' := M) 3 rfl ?_
    obtain ⟨hR, ⟨hc, h⟩ | ⟨hc, h⟩⟩ := c_ge_i h
    · refine ev_icmp 27 rfl hR.1 hR.2 (by decide) (fun _ => ?_) (fun q => absurd hc q)
      exact Overgrowth_firstDayOf_68_27_t hd      M r h
    · refine ev_icmp 27 rfl hR.1 hR.2 (by decide) (fun q => absurd q hc) (fun _ => ?_)
      refine ev_k (pc' := 15) (ls' := [(0, .inr (.inr (some 68))), (1, .inl (x1))]) (st' := [.inl (8), .inl (x1)]) (nc' := 126) (np' := 138) (M' := M) 2 rfl ?_
      obtain ⟨hR, ⟨hc, h⟩ | ⟨hc, h⟩⟩ := c_ge_i h
      · refine ev_icmp 27 rfl hR.1 hR.2 (by decide) (fun _ => ?_) (fun q => absurd hc q)
        exact Overgrowth_firstDayOf_68_27_t hd      M r h
      · refine ev_icmp 27 rfl hR.1 hR.2 (by decide) (fun q => absurd q hc) (fun _ => ?_)
        refine ev_k (pc' := 23) (ls' := [(0, .inr (.inr (some 68))), (1, .inl (x1))]) (st' := [.inl (x1), .inr (.inr (some 70))]) (nc' := 126) (np' := 138) (M' := M) 3 rfl ?_
        obtain ⟨hc, v1, ev, h⟩ := rd_i h
        refine ev_ald (k := 70) (t := 0) (Or.inl ⟨rfl, rfl⟩) rfl (by decide) (by decide) rfl hc ev ?_
        refine ev_k (pc' := 29) (ls' := []) (st' := [.inl (v1)]) (nc' := 126) (np' := 138) (M' := M) 1 rfl ?_
        exact Overgrowth_firstDayOf_68_29_t hd     (v1) M r h
def Overgrowth_soonestLast_68_44    (x2 : Int) (M : am_M) : Option (Int) := some (x2)
def Overgrowth_soonestLast_68_38   (k5 : Int → Int → Int → am_M → Option (Int)) (x1 : Int) (x2 : Int) (x3 : Int) (M : am_M) : Option (Int) := (k5 (x1) (x2) ((x3) + (1)) M)
def Overgrowth_soonestLast_68_5    : Nat → Int → Int → Int → am_M → Option (Int)
  | 0, _, _, _, _ => none
  | n + 1, x1, x2, x3, M => c_ge (x3) (M 68 10)
       (Overgrowth_soonestLast_68_44    (x2) M)
       (c_ge (x3) (8)
       (Overgrowth_soonestLast_68_44    (x2) M)
       (c_ne (b_and (b_shr (x1) (x3)) (1)) (0)
       (Overgrowth_soonestLast_68_38   (Overgrowth_soonestLast_68_5    n) (x1) (x2) (x3) M)
       (rd M 71 8 (x3) fun v1 => ob (J_min (x2) (v1) M) fun v2 => (Overgrowth_soonestLast_68_38   (Overgrowth_soonestLast_68_5    n) (x1) (v2) (x3) M))))
def Overgrowth_soonestLast_68    (x1 : Int) (M : am_M) : Option (Int) := (Overgrowth_soonestLast_68_5    am_big (x1) (1000000000) (0) M)
theorem Overgrowth_soonestLast_68_44_t {L : Nat} {xs : Nat → Int} {d : Nat} (hd : 1 ≤ d)     (x2 : Int) (M : am_M) (r : Int) (h : Overgrowth_soonestLast_68_44    x2 M = some r) : am_Ev L xs d me_174 44 [(2, .inl (x2))] [] 126 138 M (some (.inl r), 126, 138, M) := by
  refine ev_k (pc' := 45) (ls' := [(2, .inl (x2))]) (st' := [.inl (x2)]) (nc' := 126) (np' := 138) (M' := M) 1 rfl ?_
  cases h
  exact ev_ret rfl
theorem Overgrowth_soonestLast_68_38_t {L : Nat} {xs : Nat → Int} {d : Nat} (hd : 1 ≤ d)   (k5 : Int → Int → Int → am_M → Option (Int)) (hk5 : ∀ (x1 : Int) (x2 : Int) (x3 : Int) (M : am_M) (r : Int), k5 x1 x2 x3 M = some r → am_Ev L xs d me_174 5 [(0, .inr (.inr (some 68))), (1, .inl (x1)), (2, .inl (x2)), (3, .inl (x3))] [] 126 138 M (some (.inl r), 126, 138, M)) (x1 : Int) (x2 : Int) (x3 : Int) (M : am_M) (r : Int) (h : Overgrowth_soonestLast_68_38   k5 x1 x2 x3 M = some r) : am_Ev L xs d me_174 38 [(0, .inr (.inr (some 68))), (1, .inl (x1)), (2, .inl (x2)), (3, .inl (x3))] [] 126 138 M (some (.inl r), 126, 138, M) := by
  refine ev_k (pc' := 5) (ls' := [(0, .inr (.inr (some 68))), (1, .inl (x1)), (2, .inl (x2)), (3, .inl ((x3) + (1)))]) (st' := []) (nc' := 126) (np' := 138) (M' := M) 2 rfl ?_
  exact hk5 (x1) (x2) ((x3) + (1)) M r h
theorem Overgrowth_soonestLast_68_5_t {L : Nat} {xs : Nat → Int} {d : Nat} (hd : 1 ≤ d)     : ∀ (n : Nat) (x1 : Int) (x2 : Int) (x3 : Int) (M : am_M) (r : Int), Overgrowth_soonestLast_68_5    n x1 x2 x3 M = some r → am_Ev L xs d me_174 5 [(0, .inr (.inr (some 68))), (1, .inl (x1)), (2, .inl (x2)), (3, .inl (x3))] [] 126 138 M (some (.inl r), 126, 138, M)
  | 0, _, _, _, M, r, h => by cases h
  | n + 1, x1, x2, x3, M, r, h => by
    have ih := Overgrowth_soonestLast_68_5_t (L := L) (xs := xs) hd     n
    refine ev_k (pc' := 10) (ls' := [(0, .inr (.inr (some 68))), (1, .inl (x1)), (2, .inl (x2)), (3, .inl (x3))]) (st' := [.inl (M 68 10), .inl (x3)]) (nc' := 126) (np' := 138) (M' := M) 3 rfl ?_
    obtain ⟨hR, ⟨hc, h⟩ | ⟨hc, h⟩⟩ := c_ge_i h
    · refine ev_icmp 44 rfl hR.1 hR.2 (by decide) (fun _ => ?_) (fun q => absurd hc q)
      exact Overgrowth_soonestLast_68_44_t hd     (x2) M r h
    · refine ev_icmp 44 rfl hR.1 hR.2 (by decide) (fun q => absurd q hc) (fun _ => ?_)
      refine ev_k (pc' := 16) (ls' := [(0, .inr (.inr (some 68))), (1, .inl (x1)), (2, .inl (x2)), (3, .inl (x3))]) (st' := [.inl (8), .inl (x3)]) (nc' := 126) (np' := 138) (M' := M) 2 rfl ?_
      obtain ⟨hR, ⟨hc, h⟩ | ⟨hc, h⟩⟩ := c_ge_i h
      · refine ev_icmp 44 rfl hR.1 hR.2 (by decide) (fun _ => ?_) (fun q => absurd hc q)
        exact Overgrowth_soonestLast_68_44_t hd     (x2) M r h
      · refine ev_icmp 44 rfl hR.1 hR.2 (by decide) (fun q => absurd q hc) (fun _ => ?_)
        refine ev_k (pc' := 24) (ls' := [(0, .inr (.inr (some 68))), (1, .inl (x1)), (2, .inl (x2)), (3, .inl (x3))]) (st' := [.inl (b_and (b_shr (x1) (x3)) (1))]) (nc' := 126) (np' := 138) (M' := M) 5 rfl ?_
        obtain ⟨hR, ⟨hc, h⟩ | ⟨hc, h⟩⟩ := c_ne_i h
        · refine ev_ifc 38 rfl hR.1 (by decide) (fun _ => ?_) (fun q => absurd hc q)
          exact Overgrowth_soonestLast_68_38_t hd   (Overgrowth_soonestLast_68_5    n) ih (x1) (x2) (x3) M r h
        · refine ev_ifc 38 rfl hR.1 (by decide) (fun q => absurd q hc) (fun _ => ?_)
          refine ev_k (pc' := 33) (ls' := [(0, .inr (.inr (some 68))), (1, .inl (x1)), (2, .inl (x2)), (3, .inl (x3))]) (st' := [.inl (x3), .inr (.inr (some 71)), .inl (x2)]) (nc' := 126) (np' := 138) (M' := M) 4 rfl ?_
          obtain ⟨hc, v1, ev, h⟩ := rd_i h
          refine ev_ald (k := 71) (t := 0) (Or.inl ⟨rfl, rfl⟩) rfl (by decide) (by decide) rfl hc ev ?_
          refine ev_k (pc' := 34) (ls' := [(0, .inr (.inr (some 68))), (1, .inl (x1)), (2, .inl (x2)), (3, .inl (x3))]) (st' := [.inl (v1), .inl (x2)]) (nc' := 126) (np' := 138) (M' := M) 0 rfl ?_
          obtain ⟨v2, hv, h⟩ := ob_i h
          refine ev_call (t := 60) (as := [.inl (x2), .inl (v1)]) (rest := []) rfl rfl rfl (by omega) (J_min_e (by omega) (x2) (v1) M _ hv) ?_
          refine ev_k (pc' := 38) (ls' := [(0, .inr (.inr (some 68))), (1, .inl (x1)), (2, .inl (v2)), (3, .inl (x3))]) (st' := []) (nc' := 126) (np' := 138) (M' := M) 1 rfl ?_
          exact Overgrowth_soonestLast_68_38_t hd   (Overgrowth_soonestLast_68_5    n) ih (x1) (v2) (x3) M r h
theorem Overgrowth_soonestLast_68_e {L : Nat} {xs : Nat → Int} {d : Nat} (hd : 1 ≤ d)   (x1 : Int) (M : am_M) (r : Int) (h : Overgrowth_soonestLast_68   x1 M = some r) : am_Ev L xs d me_174 0 (am_ar1 0 [.inr (.inr (some 68)), .inl (x1)]) [] 126 138 M (some (.inl r), 126, 138, M) := by
  refine ev_k (pc' := 5) (ls' := [(0, .inr (.inr (some 68))), (1, .inl (x1)), (2, .inl (1000000000)), (3, .inl (0))]) (st' := []) (nc' := 126) (np' := 138) (M' := M) 4 rfl ?_
  exact Overgrowth_soonestLast_68_5_t hd     am_big (x1) (1000000000) (0) M r h
def Overgrowth_fewestDays_68_106    (x2 : Int) (M : am_M) : Option (Int) := some (x2)
def Overgrowth_fewestDays_68_100   (k6 : Int → Int → Int → am_M → Option (Int)) (x1 : Int) (x2 : Int) (x3 : Int) (M : am_M) : Option (Int) := (k6 (x1) (x2) ((x3) + (1)) M)
def Overgrowth_fewestDays_68_94   (k6 : Int → Int → Int → am_M → Option (Int)) (k47 : Int → Int → Int → Int → Int → am_M → Option (Int)) (x1 : Int) (x2 : Int) (x3 : Int) (x4 : Int) (x5 : Int) (M : am_M) : Option (Int) := (k47 (x1) (x2) (x3) (x4) ((x5) + (1)) M)
def Overgrowth_fewestDays_68_47   (k6 : Int → Int → Int → am_M → Option (Int)) : Nat → Int → Int → Int → Int → Int → am_M → Option (Int)
  | 0, _, _, _, _, _, _ => none
  | n + 1, x1, x2, x3, x4, x5, M => c_ge (x5) (M 68 10)
       (Overgrowth_fewestDays_68_100   k6 (x1) (x2) (x3) M)
       (c_ge (x5) (8)
       (Overgrowth_fewestDays_68_100   k6 (x1) (x2) (x3) M)
       (rd M 70 8 (x5) fun v1 => c_gt (v1) (x4)
       (Overgrowth_fewestDays_68_94   k6 (Overgrowth_fewestDays_68_47   k6 n) (x1) (x2) (x3) (x4) (x5) M)
       (rd M 71 8 (x5) fun v2 => c_lt (v2) (x4)
       (Overgrowth_fewestDays_68_94   k6 (Overgrowth_fewestDays_68_47   k6 n) (x1) (x2) (x3) (x4) (x5) M)
       ((Overgrowth_fewestDays_68_94   k6 (Overgrowth_fewestDays_68_47   k6 n) (b_or (x1) (b_shl (1) (x5))) (x2) (x3) (x4) (x5) M)))))
def Overgrowth_fewestDays_68_6    : Nat → Int → Int → Int → am_M → Option (Int)
  | 0, _, _, _, _ => none
  | n + 1, x1, x2, x3, M => c_ge (x3) (M 68 10)
       (Overgrowth_fewestDays_68_106    (x2) M)
       (c_eq (x1) ((b_shl (1) (M 68 10)) - (1))
       (Overgrowth_fewestDays_68_106    (x2) M)
       (ob (Overgrowth_soonestLast_68 (x1) M) fun v1 => c_ge (v1) (0)
       ((Overgrowth_fewestDays_68_47   (Overgrowth_fewestDays_68_6    n) am_big (x1) ((x2) + (1)) (x3) (v1) (0) M))
       (some (-2))))
def Overgrowth_fewestDays_68     (M : am_M) : Option (Int) := (Overgrowth_fewestDays_68_6    am_big (0) (0) (0) M)
theorem Overgrowth_fewestDays_68_106_t {L : Nat} {xs : Nat → Int} {d : Nat} (hd : 2 ≤ d)     (x2 : Int) (M : am_M) (r : Int) (h : Overgrowth_fewestDays_68_106    x2 M = some r) : am_Ev L xs d me_173 106 [(2, .inl (x2))] [] 126 138 M (some (.inl r), 126, 138, M) := by
  refine ev_k (pc' := 107) (ls' := [(2, .inl (x2))]) (st' := [.inl (x2)]) (nc' := 126) (np' := 138) (M' := M) 1 rfl ?_
  cases h
  exact ev_ret rfl
theorem Overgrowth_fewestDays_68_100_t {L : Nat} {xs : Nat → Int} {d : Nat} (hd : 2 ≤ d)   (k6 : Int → Int → Int → am_M → Option (Int)) (hk6 : ∀ (x1 : Int) (x2 : Int) (x3 : Int) (M : am_M) (r : Int), k6 x1 x2 x3 M = some r → am_Ev L xs d me_173 6 [(0, .inr (.inr (some 68))), (1, .inl (x1)), (2, .inl (x2)), (3, .inl (x3))] [] 126 138 M (some (.inl r), 126, 138, M)) (x1 : Int) (x2 : Int) (x3 : Int) (M : am_M) (r : Int) (h : Overgrowth_fewestDays_68_100   k6 x1 x2 x3 M = some r) : am_Ev L xs d me_173 100 [(0, .inr (.inr (some 68))), (1, .inl (x1)), (2, .inl (x2)), (3, .inl (x3))] [] 126 138 M (some (.inl r), 126, 138, M) := by
  refine ev_k (pc' := 6) (ls' := [(0, .inr (.inr (some 68))), (1, .inl (x1)), (2, .inl (x2)), (3, .inl ((x3) + (1)))]) (st' := []) (nc' := 126) (np' := 138) (M' := M) 2 rfl ?_
  exact hk6 (x1) (x2) ((x3) + (1)) M r h
theorem Overgrowth_fewestDays_68_94_t {L : Nat} {xs : Nat → Int} {d : Nat} (hd : 2 ≤ d)   (k6 : Int → Int → Int → am_M → Option (Int)) (k47 : Int → Int → Int → Int → Int → am_M → Option (Int)) (hk6 : ∀ (x1 : Int) (x2 : Int) (x3 : Int) (M : am_M) (r : Int), k6 x1 x2 x3 M = some r → am_Ev L xs d me_173 6 [(0, .inr (.inr (some 68))), (1, .inl (x1)), (2, .inl (x2)), (3, .inl (x3))] [] 126 138 M (some (.inl r), 126, 138, M)) (hk47 : ∀ (x1 : Int) (x2 : Int) (x3 : Int) (x4 : Int) (x5 : Int) (M : am_M) (r : Int), k47 x1 x2 x3 x4 x5 M = some r → am_Ev L xs d me_173 47 [(0, .inr (.inr (some 68))), (1, .inl (x1)), (2, .inl (x2)), (3, .inl (x3)), (4, .inl (x4)), (5, .inl (x5))] [] 126 138 M (some (.inl r), 126, 138, M)) (x1 : Int) (x2 : Int) (x3 : Int) (x4 : Int) (x5 : Int) (M : am_M) (r : Int) (h : Overgrowth_fewestDays_68_94   k6 k47 x1 x2 x3 x4 x5 M = some r) : am_Ev L xs d me_173 94 [(0, .inr (.inr (some 68))), (1, .inl (x1)), (2, .inl (x2)), (3, .inl (x3)), (4, .inl (x4)), (5, .inl (x5))] [] 126 138 M (some (.inl r), 126, 138, M) := by
  refine ev_k (pc' := 47) (ls' := [(0, .inr (.inr (some 68))), (1, .inl (x1)), (2, .inl (x2)), (3, .inl (x3)), (4, .inl (x4)), (5, .inl ((x5) + (1)))]) (st' := []) (nc' := 126) (np' := 138) (M' := M) 2 rfl ?_
  exact hk47 (x1) (x2) (x3) (x4) ((x5) + (1)) M r h
theorem Overgrowth_fewestDays_68_47_t {L : Nat} {xs : Nat → Int} {d : Nat} (hd : 2 ≤ d)   (k6 : Int → Int → Int → am_M → Option (Int)) (hk6 : ∀ (x1 : Int) (x2 : Int) (x3 : Int) (M : am_M) (r : Int), k6 x1 x2 x3 M = some r → am_Ev L xs d me_173 6 [(0, .inr (.inr (some 68))), (1, .inl (x1)), (2, .inl (x2)), (3, .inl (x3))] [] 126 138 M (some (.inl r), 126, 138, M)) : ∀ (n : Nat) (x1 : Int) (x2 : Int) (x3 : Int) (x4 : Int) (x5 : Int) (M : am_M) (r : Int), Overgrowth_fewestDays_68_47   k6 n x1 x2 x3 x4 x5 M = some r → am_Ev L xs d me_173 47 [(0, .inr (.inr (some 68))), (1, .inl (x1)), (2, .inl (x2)), (3, .inl (x3)), (4, .inl (x4)), (5, .inl (x5))] [] 126 138 M (some (.inl r), 126, 138, M)
  | 0, _, _, _, _, _, M, r, h => by cases h
  | n + 1, x1, x2, x3, x4, x5, M, r, h => by
    have ih := Overgrowth_fewestDays_68_47_t (L := L) (xs := xs) hd   k6 hk6 n
    refine ev_k (pc' := 53) (ls' := [(0, .inr (.inr (some 68))), (1, .inl (x1)), (2, .inl (x2)), (3, .inl (x3)), (4, .inl (x4)), (5, .inl (x5))]) (st' := [.inl (M 68 10), .inl (x5)]) (nc' := 126) (np' := 138) (M' := M) 3 rfl ?_
    obtain ⟨hR, ⟨hc, h⟩ | ⟨hc, h⟩⟩ := c_ge_i h
    · refine ev_icmp 100 rfl hR.1 hR.2 (by decide) (fun _ => ?_) (fun q => absurd hc q)
      exact Overgrowth_fewestDays_68_100_t hd   k6 hk6 (x1) (x2) (x3) M r h
    · refine ev_icmp 100 rfl hR.1 hR.2 (by decide) (fun q => absurd q hc) (fun _ => ?_)
      refine ev_k (pc' := 60) (ls' := [(0, .inr (.inr (some 68))), (1, .inl (x1)), (2, .inl (x2)), (3, .inl (x3)), (4, .inl (x4)), (5, .inl (x5))]) (st' := [.inl (8), .inl (x5)]) (nc' := 126) (np' := 138) (M' := M) 2 rfl ?_
      obtain ⟨hR, ⟨hc, h⟩ | ⟨hc, h⟩⟩ := c_ge_i h
      · refine ev_icmp 100 rfl hR.1 hR.2 (by decide) (fun _ => ?_) (fun q => absurd hc q)
        exact Overgrowth_fewestDays_68_100_t hd   k6 hk6 (x1) (x2) (x3) M r h
      · refine ev_icmp 100 rfl hR.1 hR.2 (by decide) (fun q => absurd q hc) (fun _ => ?_)
        refine ev_k (pc' := 69) (ls' := [(0, .inr (.inr (some 68))), (1, .inl (x1)), (2, .inl (x2)), (3, .inl (x3)), (4, .inl (x4)), (5, .inl (x5))]) (st' := [.inl (x5), .inr (.inr (some 70))]) (nc' := 126) (np' := 138) (M' := M) 3 rfl ?_
        obtain ⟨hc, v1, ev, h⟩ := rd_i h
        refine ev_ald (k := 70) (t := 0) (Or.inl ⟨rfl, rfl⟩) rfl (by decide) (by decide) rfl hc ev ?_
        refine ev_k (pc' := 72) (ls' := [(0, .inr (.inr (some 68))), (1, .inl (x1)), (2, .inl (x2)), (3, .inl (x3)), (4, .inl (x4)), (5, .inl (x5))]) (st' := [.inl (x4), .inl (v1)]) (nc' := 126) (np' := 138) (M' := M) 1 rfl ?_
        obtain ⟨hR, ⟨hc, h⟩ | ⟨hc, h⟩⟩ := c_gt_i h
        · refine ev_icmp 94 rfl hR.1 hR.2 (by decide) (fun _ => ?_) (fun q => absurd hc q)
          exact Overgrowth_fewestDays_68_94_t hd   k6 (Overgrowth_fewestDays_68_47   k6 n) hk6 ih (x1) (x2) (x3) (x4) (x5) M r h
        · refine ev_icmp 94 rfl hR.1 hR.2 (by decide) (fun q => absurd q hc) (fun _ => ?_)
          refine ev_k (pc' := 81) (ls' := [(0, .inr (.inr (some 68))), (1, .inl (x1)), (2, .inl (x2)), (3, .inl (x3)), (4, .inl (x4)), (5, .inl (x5))]) (st' := [.inl (x5), .inr (.inr (some 71))]) (nc' := 126) (np' := 138) (M' := M) 3 rfl ?_
          obtain ⟨hc, v2, ev, h⟩ := rd_i h
          refine ev_ald (k := 71) (t := 0) (Or.inl ⟨rfl, rfl⟩) rfl (by decide) (by decide) rfl hc ev ?_
          refine ev_k (pc' := 84) (ls' := [(0, .inr (.inr (some 68))), (1, .inl (x1)), (2, .inl (x2)), (3, .inl (x3)), (4, .inl (x4)), (5, .inl (x5))]) (st' := [.inl (x4), .inl (v2)]) (nc' := 126) (np' := 138) (M' := M) 1 rfl ?_
          obtain ⟨hR, ⟨hc, h⟩ | ⟨hc, h⟩⟩ := c_lt_i h
          · refine ev_icmp 94 rfl hR.1 hR.2 (by decide) (fun _ => ?_) (fun q => absurd hc q)
            exact Overgrowth_fewestDays_68_94_t hd   k6 (Overgrowth_fewestDays_68_47   k6 n) hk6 ih (x1) (x2) (x3) (x4) (x5) M r h
          · refine ev_icmp 94 rfl hR.1 hR.2 (by decide) (fun q => absurd q hc) (fun _ => ?_)
            refine ev_k (pc' := 94) (ls' := [(0, .inr (.inr (some 68))), (1, .inl (b_or (x1) (b_shl (1) (x5)))), (2, .inl (x2)), (3, .inl (x3)), (4, .inl (x4)), (5, .inl (x5))]) (st' := []) (nc' := 126) (np' := 138) (M' := M) 6 rfl ?_
            exact Overgrowth_fewestDays_68_94_t hd   k6 (Overgrowth_fewestDays_68_47   k6 n) hk6 ih (b_or (x1) (b_shl (1) (x5))) (x2) (x3) (x4) (x5) M r h
theorem Overgrowth_fewestDays_68_6_t {L : Nat} {xs : Nat → Int} {d : Nat} (hd : 2 ≤ d)     : ∀ (n : Nat) (x1 : Int) (x2 : Int) (x3 : Int) (M : am_M) (r : Int), Overgrowth_fewestDays_68_6    n x1 x2 x3 M = some r → am_Ev L xs d me_173 6 [(0, .inr (.inr (some 68))), (1, .inl (x1)), (2, .inl (x2)), (3, .inl (x3))] [] 126 138 M (some (.inl r), 126, 138, M)
  | 0, _, _, _, M, r, h => by cases h
  | n + 1, x1, x2, x3, M, r, h => by
    have ih := Overgrowth_fewestDays_68_6_t (L := L) (xs := xs) hd     n
    refine ev_k (pc' := 11) (ls' := [(0, .inr (.inr (some 68))), (1, .inl (x1)), (2, .inl (x2)), (3, .inl (x3))]) (st' := [.inl (M 68 10), .inl (x3)]) (nc' := 126) (np' := 138) (M' := M) 3 rfl ?_
    obtain ⟨hR, ⟨hc, h⟩ | ⟨hc, h⟩⟩ := c_ge_i h
    · refine ev_icmp 106 rfl hR.1 hR.2 (by decide) (fun _ => ?_) (fun q => absurd hc q)
      exact Overgrowth_fewestDays_68_106_t hd     (x2) M r h
    · refine ev_icmp 106 rfl hR.1 hR.2 (by decide) (fun q => absurd q hc) (fun _ => ?_)
      refine ev_k (pc' := 23) (ls' := [(0, .inr (.inr (some 68))), (1, .inl (x1)), (2, .inl (x2)), (3, .inl (x3))]) (st' := [.inl ((b_shl (1) (M 68 10)) - (1)), .inl (x1)]) (nc' := 126) (np' := 138) (M' := M) 7 rfl ?_
      obtain ⟨hR, ⟨hc, h⟩ | ⟨hc, h⟩⟩ := c_eq_i h
      · refine ev_icmp 106 rfl hR.1 hR.2 (by decide) (fun _ => ?_) (fun q => absurd hc q)
        exact Overgrowth_fewestDays_68_106_t hd     (x2) M r h
      · refine ev_icmp 106 rfl hR.1 hR.2 (by decide) (fun q => absurd q hc) (fun _ => ?_)
        refine ev_k (pc' := 28) (ls' := [(0, .inr (.inr (some 68))), (1, .inl (x1)), (2, .inl (x2)), (3, .inl (x3))]) (st' := [.inl (x1), .inr (.inr (some 68))]) (nc' := 126) (np' := 138) (M' := M) 2 rfl ?_
        obtain ⟨v1, hv, h⟩ := ob_i h
        refine ev_call (t := 174) (as := [.inr (.inr (some 68)), .inl (x1)]) (rest := []) rfl rfl rfl (by omega) (Overgrowth_soonestLast_68_e (by omega) (x1) M _ hv) ?_
        refine ev_k (pc' := 35) (ls' := [(4, .inl (v1)), (0, .inr (.inr (some 68))), (1, .inl (x1)), (2, .inl (x2)), (3, .inl (x3))]) (st' := [.inl (v1)]) (nc' := 126) (np' := 138) (M' := M) 2 rfl ?_
        obtain ⟨hR, ⟨hc, h⟩ | ⟨hc, h⟩⟩ := c_ge_i h
        · refine ev_ifc 41 rfl hR.1 (by decide) (fun _ => ?_) (fun q => absurd hc q)
          refine ev_k (pc' := 47) (ls' := [(0, .inr (.inr (some 68))), (1, .inl (x1)), (2, .inl ((x2) + (1))), (3, .inl (x3)), (4, .inl (v1)), (5, .inl (0))]) (st' := []) (nc' := 126) (np' := 138) (M' := M) 3 rfl ?_
          exact Overgrowth_fewestDays_68_47_t hd   (Overgrowth_fewestDays_68_6    n) ih am_big (x1) ((x2) + (1)) (x3) (v1) (0) M r h
        · refine ev_ifc 41 rfl hR.1 (by decide) (fun q => absurd q hc) (fun _ => ?_)
          refine ev_k (pc' := 40) (ls' := [(4, .inl (v1)), (0, .inr (.inr (some 68))), (1, .inl (x1)), (2, .inl (x2)), (3, .inl (x3))]) (st' := [.inl (-2)]) (nc' := 126) (np' := 138) (M' := M) 1 rfl ?_
          cases h
          exact ev_ret rfl
theorem Overgrowth_fewestDays_68_e {L : Nat} {xs : Nat → Int} {d : Nat} (hd : 2 ≤ d)    (M : am_M) (r : Int) (h : Overgrowth_fewestDays_68    M = some r) : am_Ev L xs d me_173 0 (am_ar1 0 [.inr (.inr (some 68))]) [] 126 138 M (some (.inl r), 126, 138, M) := by
  refine ev_k (pc' := 6) (ls' := [(0, .inr (.inr (some 68))), (1, .inl (0)), (2, .inl (0)), (3, .inl (0))]) (st' := []) (nc' := 126) (np' := 138) (M' := M) 6 rfl ?_
  exact Overgrowth_fewestDays_68_6_t hd     am_big (0) (0) (0) M r h
def Overgrowth_lastDayOf_68_29    (s0 : Int) (M : am_M) : Option (Int) := some (s0)
def Overgrowth_lastDayOf_68_27     (M : am_M) : Option (Int) := (Overgrowth_lastDayOf_68_29    (-2) M)
def Overgrowth_lastDayOf_68    (x1 : Int) (M : am_M) : Option (Int) := c_lt (x1) (0)
       (Overgrowth_lastDayOf_68_27     M)
       (c_ge (x1) (M 68 10)
       (Overgrowth_lastDayOf_68_27     M)
       (c_ge (x1) (8)
       (Overgrowth_lastDayOf_68_27     M)
       (rd M 71 8 (x1) fun v1 => (Overgrowth_lastDayOf_68_29    (v1) M))))
theorem Overgrowth_lastDayOf_68_29_t {L : Nat} {xs : Nat → Int} {d : Nat} (hd : 0 ≤ d)     (s0 : Int) (M : am_M) (r : Int) (h : Overgrowth_lastDayOf_68_29    s0 M = some r) : am_Ev L xs d me_176 29 [] [.inl (s0)] 126 138 M (some (.inl r), 126, 138, M) := by
  refine ev_k (pc' := 29) (ls' := []) (st' := [.inl (s0)]) (nc' := 126) (np' := 138) (M' := M) 0 rfl ?_
  cases h
  exact ev_ret rfl
theorem Overgrowth_lastDayOf_68_27_t {L : Nat} {xs : Nat → Int} {d : Nat} (hd : 0 ≤ d)      (M : am_M) (r : Int) (h : Overgrowth_lastDayOf_68_27     M = some r) : am_Ev L xs d me_176 27 [] [] 126 138 M (some (.inl r), 126, 138, M) := by
  refine ev_k (pc' := 29) (ls' := []) (st' := [.inl (-2)]) (nc' := 126) (np' := 138) (M' := M) 1 rfl ?_
  exact Overgrowth_lastDayOf_68_29_t hd     (-2) M r h
theorem Overgrowth_lastDayOf_68_e {L : Nat} {xs : Nat → Int} {d : Nat} (hd : 0 ≤ d)   (x1 : Int) (M : am_M) (r : Int) (h : Overgrowth_lastDayOf_68   x1 M = some r) : am_Ev L xs d me_176 0 (am_ar1 0 [.inr (.inr (some 68)), .inl (x1)]) [] 126 138 M (some (.inl r), 126, 138, M) := by
  refine ev_k (pc' := 1) (ls' := [(0, .inr (.inr (some 68))), (1, .inl (x1))]) (st' := [.inl (x1)]) (nc' := 126) (np' := 138) (M' := M) 1 rfl ?_
  obtain ⟨hR, ⟨hc, h⟩ | ⟨hc, h⟩⟩ := c_lt_i h
  · refine ev_ifc 27 rfl hR.1 (by decide) (fun _ => ?_) (fun q => absurd hc q)
    exact Overgrowth_lastDayOf_68_27_t hd      M r h
  · refine ev_ifc 27 rfl hR.1 (by decide) (fun q => absurd q hc) (fun _ => ?_)
    refine ev_k (pc' := 9) (ls' := [(0, .inr (.inr (some 68))), (1, .inl (x1))]) (st' := [.inl (M 68 10), .inl (x1)]) (nc' := 126) (np' := 138) (M' := M) 3 rfl ?_
    obtain ⟨hR, ⟨hc, h⟩ | ⟨hc, h⟩⟩ := c_ge_i h
    · refine ev_icmp 27 rfl hR.1 hR.2 (by decide) (fun _ => ?_) (fun q => absurd hc q)
      exact Overgrowth_lastDayOf_68_27_t hd      M r h
    · refine ev_icmp 27 rfl hR.1 hR.2 (by decide) (fun q => absurd q hc) (fun _ => ?_)
      refine ev_k (pc' := 15) (ls' := [(0, .inr (.inr (some 68))), (1, .inl (x1))]) (st' := [.inl (8), .inl (x1)]) (nc' := 126) (np' := 138) (M' := M) 2 rfl ?_
      obtain ⟨hR, ⟨hc, h⟩ | ⟨hc, h⟩⟩ := c_ge_i h
      · refine ev_icmp 27 rfl hR.1 hR.2 (by decide) (fun _ => ?_) (fun q => absurd hc q)
        exact Overgrowth_lastDayOf_68_27_t hd      M r h
      · refine ev_icmp 27 rfl hR.1 hR.2 (by decide) (fun q => absurd q hc) (fun _ => ?_)
        refine ev_k (pc' := 23) (ls' := [(0, .inr (.inr (some 68))), (1, .inl (x1))]) (st' := [.inl (x1), .inr (.inr (some 71))]) (nc' := 126) (np' := 138) (M' := M) 3 rfl ?_
        obtain ⟨hc, v1, ev, h⟩ := rd_i h
        refine ev_ald (k := 71) (t := 0) (Or.inl ⟨rfl, rfl⟩) rfl (by decide) (by decide) rfl hc ev ?_
        refine ev_k (pc' := 29) (ls' := []) (st' := [.inl (v1)]) (nc' := 126) (np' := 138) (M' := M) 1 rfl ?_
        exact Overgrowth_lastDayOf_68_29_t hd     (v1) M r h
def P_blazes_27     (M : am_M) : Option (Int × am_M) := some (-1, M)
def P_blazes_118     (M : am_M) : Option (Int × am_M) := some (-4, M)
def P_blazes_92    (x1 : Int) (x2 : Int) (M : am_M) : Option (Int × am_M) := c_lt (x2) (20)
       (P_blazes_118     M)
       (c_ge (x2) ((20) + (x1))
       (P_blazes_118     M)
       (ob (Overgrowth_lastDayOf_68 ((x2) - (20)) M) fun v1 => some (v1, M)))
def P_blazes    (x1 : Int) (x2 : Int) (M : am_M) : Option (Int × am_M) := c_lt (x1) (1)
       (P_blazes_27     M)
       (c_gt (x1) (8)
       (P_blazes_27     M)
       (oc (Tape_take ((4) * (x1)) (4) (32) M) fun v1 M2 => c_ne (v1) (0)
       (oc (Overgrowth_readBlazes_68 (x1) (M2 26 13) M2) fun v3 M4 => c_ne (v3) (0)
       (c_ne (x2) (0)
       (c_lt (x2) (10)
       (P_blazes_92    (x1) (x2) M4)
       (c_ge (x2) ((10) + (x1))
       (P_blazes_92    (x1) (x2) M4)
       (ob (Overgrowth_firstDayOf_68 ((x2) - (10)) M4) fun v5 => some (v5, M4))))
       (ob (Overgrowth_fewestDays_68  M4) fun v6 => some (v6, M4)))
       (some (-3, M4)))
       (P_blazes_27     M2)))
theorem P_blazes_27_t {L : Nat} {xs : Nat → Int} {d : Nat} (hd : 4 ≤ d)      (M : am_M) (r : Int × am_M) (h : P_blazes_27     M = some r) : am_Ev L xs d me_171 27 [] [] 126 138 M (some (.inl r.1), 126, 138, r.2) := by
  refine ev_k (pc' := 28) (ls' := []) (st' := [.inl (-1)]) (nc' := 126) (np' := 138) (M' := M) 1 rfl ?_
  cases h
  exact ev_ret rfl
theorem P_blazes_118_t {L : Nat} {xs : Nat → Int} {d : Nat} (hd : 4 ≤ d)      (M : am_M) (r : Int × am_M) (h : P_blazes_118     M = some r) : am_Ev L xs d me_171 118 [] [] 126 138 M (some (.inl r.1), 126, 138, r.2) := by
  refine ev_k (pc' := 120) (ls' := []) (st' := [.inl (-4)]) (nc' := 126) (np' := 138) (M' := M) 1 rfl ?_
  cases h
  exact ev_ret rfl
theorem P_blazes_92_t {L : Nat} {xs : Nat → Int} {d : Nat} (hd : 4 ≤ d)     (x1 : Int) (x2 : Int) (M : am_M) (r : Int × am_M) (h : P_blazes_92    x1 x2 M = some r) : am_Ev L xs d me_171 92 [(0, .inr (.inr (some 0))), (1, .inl (x1)), (2, .inl (x2))] [] 126 138 M (some (.inl r.1), 126, 138, r.2) := by
  refine ev_k (pc' := 95) (ls' := [(0, .inr (.inr (some 0))), (1, .inl (x1)), (2, .inl (x2))]) (st' := [.inl (20), .inl (x2)]) (nc' := 126) (np' := 138) (M' := M) 2 rfl ?_
  obtain ⟨hR, ⟨hc, h⟩ | ⟨hc, h⟩⟩ := c_lt_i h
  · refine ev_icmp 118 rfl hR.1 hR.2 (by decide) (fun _ => ?_) (fun q => absurd hc q)
    exact P_blazes_118_t hd      M r h
  · refine ev_icmp 118 rfl hR.1 hR.2 (by decide) (fun q => absurd q hc) (fun _ => ?_)
    refine ev_k (pc' := 103) (ls' := [(0, .inr (.inr (some 0))), (1, .inl (x1)), (2, .inl (x2))]) (st' := [.inl ((20) + (x1)), .inl (x2)]) (nc' := 126) (np' := 138) (M' := M) 4 rfl ?_
    obtain ⟨hR, ⟨hc, h⟩ | ⟨hc, h⟩⟩ := c_ge_i h
    · refine ev_icmp 118 rfl hR.1 hR.2 (by decide) (fun _ => ?_) (fun q => absurd hc q)
      exact P_blazes_118_t hd      M r h
    · refine ev_icmp 118 rfl hR.1 hR.2 (by decide) (fun q => absurd q hc) (fun _ => ?_)
      refine ev_k (pc' := 114) (ls' := [(0, .inr (.inr (some 0))), (1, .inl (x1)), (2, .inl (x2))]) (st' := [.inl ((x2) - (20)), .inr (.inr (some 68))]) (nc' := 126) (np' := 138) (M' := M) 5 rfl ?_
      obtain ⟨v1, hv, h⟩ := ob_i h
      refine ev_call (t := 176) (as := [.inr (.inr (some 68)), .inl ((x2) - (20))]) (rest := []) rfl rfl rfl (by omega) (Overgrowth_lastDayOf_68_e (by omega) ((x2) - (20)) M _ hv) ?_
      refine ev_k (pc' := 117) (ls' := [(0, .inr (.inr (some 0))), (1, .inl (x1)), (2, .inl (x2))]) (st' := [.inl (v1)]) (nc' := 126) (np' := 138) (M' := M) 0 rfl ?_
      cases h
      exact ev_ret rfl
theorem P_blazes_e {L : Nat} {xs : Nat → Int} {d : Nat} (hd : 4 ≤ d)   (x1 : Int) (x2 : Int) (M : am_M) (r : Int × am_M) (h : P_blazes   x1 x2 M = some r) : am_Ev L xs d me_171 0 (am_ar1 0 [.inr (.inr (some 0)), .inl (x1), .inl (x2)]) [] 126 138 M (some (.inl r.1), 126, 138, r.2) := by
  refine ev_k (pc' := 2) (ls' := [(0, .inr (.inr (some 0))), (1, .inl (x1)), (2, .inl (x2))]) (st' := [.inl (1), .inl (x1)]) (nc' := 126) (np' := 138) (M' := M) 2 rfl ?_
  obtain ⟨hR, ⟨hc, h⟩ | ⟨hc, h⟩⟩ := c_lt_i h
  · refine ev_icmp 27 rfl hR.1 hR.2 (by decide) (fun _ => ?_) (fun q => absurd hc q)
    exact P_blazes_27_t hd      M r h
  · refine ev_icmp 27 rfl hR.1 hR.2 (by decide) (fun q => absurd q hc) (fun _ => ?_)
    refine ev_k (pc' := 8) (ls' := [(0, .inr (.inr (some 0))), (1, .inl (x1)), (2, .inl (x2))]) (st' := [.inl (8), .inl (x1)]) (nc' := 126) (np' := 138) (M' := M) 2 rfl ?_
    obtain ⟨hR, ⟨hc, h⟩ | ⟨hc, h⟩⟩ := c_gt_i h
    · refine ev_icmp 27 rfl hR.1 hR.2 (by decide) (fun _ => ?_) (fun q => absurd hc q)
      exact P_blazes_27_t hd      M r h
    · refine ev_icmp 27 rfl hR.1 hR.2 (by decide) (fun q => absurd q hc) (fun _ => ?_)
      refine ev_k (pc' := 21) (ls' := [(0, .inr (.inr (some 0))), (1, .inl (x1)), (2, .inl (x2))]) (st' := [.inl (32), .inl (4), .inl ((4) * (x1)), .inr (.inr (some 14))]) (nc' := 126) (np' := 138) (M' := M) 7 rfl ?_
      obtain ⟨v1, M2, hv, h⟩ := oc_i h
      refine ev_call (t := 21) (as := [.inr (.inr (some 14)), .inl ((4) * (x1)), .inl (4), .inl (32)]) (rest := []) rfl rfl rfl (by omega) (Tape_take_e (by omega) ((4) * (x1)) (4) (32) M _ hv) ?_
      refine ev_k (pc' := 24) (ls' := [(0, .inr (.inr (some 0))), (1, .inl (x1)), (2, .inl (x2))]) (st' := [.inl (v1)]) (nc' := 126) (np' := 138) (M' := M2) 0 rfl ?_
      obtain ⟨hR, ⟨hc, h⟩ | ⟨hc, h⟩⟩ := c_ne_i h
      · refine ev_ifc 29 rfl hR.1 (by decide) (fun _ => ?_) (fun q => absurd hc q)
        refine ev_k (pc' := 45) (ls' := [(0, .inr (.inr (some 0))), (1, .inl (x1)), (2, .inl (x2))]) (st' := [.inl (M2 26 13), .inl (x1), .inr (.inr (some 14)), .inr (.inr (some 68))]) (nc' := 126) (np' := 138) (M' := M2) 8 rfl ?_
        obtain ⟨v3, M4, hv, h⟩ := oc_i h
        refine ev_call (t := 172) (as := [.inr (.inr (some 68)), .inr (.inr (some 14)), .inl (x1), .inl (M2 26 13)]) (rest := []) rfl rfl rfl (by omega) (Overgrowth_readBlazes_68_e (by omega) (x1) (M2 26 13) M2 _ hv) ?_
        refine ev_k (pc' := 48) (ls' := [(0, .inr (.inr (some 0))), (1, .inl (x1)), (2, .inl (x2))]) (st' := [.inl (v3)]) (nc' := 126) (np' := 138) (M' := M4) 0 rfl ?_
        obtain ⟨hR, ⟨hc, h⟩ | ⟨hc, h⟩⟩ := c_ne_i h
        · refine ev_ifc 54 rfl hR.1 (by decide) (fun _ => ?_) (fun q => absurd hc q)
          refine ev_k (pc' := 55) (ls' := [(0, .inr (.inr (some 0))), (1, .inl (x1)), (2, .inl (x2))]) (st' := [.inl (x2)]) (nc' := 126) (np' := 138) (M' := M4) 1 rfl ?_
          obtain ⟨hR, ⟨hc, h⟩ | ⟨hc, h⟩⟩ := c_ne_i h
          · refine ev_ifc 66 rfl hR.1 (by decide) (fun _ => ?_) (fun q => absurd hc q)
            refine ev_k (pc' := 69) (ls' := [(0, .inr (.inr (some 0))), (1, .inl (x1)), (2, .inl (x2))]) (st' := [.inl (10), .inl (x2)]) (nc' := 126) (np' := 138) (M' := M4) 2 rfl ?_
            obtain ⟨hR, ⟨hc, h⟩ | ⟨hc, h⟩⟩ := c_lt_i h
            · refine ev_icmp 92 rfl hR.1 hR.2 (by decide) (fun _ => ?_) (fun q => absurd hc q)
              exact P_blazes_92_t hd     (x1) (x2) M4 r h
            · refine ev_icmp 92 rfl hR.1 hR.2 (by decide) (fun q => absurd q hc) (fun _ => ?_)
              refine ev_k (pc' := 77) (ls' := [(0, .inr (.inr (some 0))), (1, .inl (x1)), (2, .inl (x2))]) (st' := [.inl ((10) + (x1)), .inl (x2)]) (nc' := 126) (np' := 138) (M' := M4) 4 rfl ?_
              obtain ⟨hR, ⟨hc, h⟩ | ⟨hc, h⟩⟩ := c_ge_i h
              · refine ev_icmp 92 rfl hR.1 hR.2 (by decide) (fun _ => ?_) (fun q => absurd hc q)
                exact P_blazes_92_t hd     (x1) (x2) M4 r h
              · refine ev_icmp 92 rfl hR.1 hR.2 (by decide) (fun q => absurd q hc) (fun _ => ?_)
                refine ev_k (pc' := 88) (ls' := [(0, .inr (.inr (some 0))), (1, .inl (x1)), (2, .inl (x2))]) (st' := [.inl ((x2) - (10)), .inr (.inr (some 68))]) (nc' := 126) (np' := 138) (M' := M4) 5 rfl ?_
                obtain ⟨v5, hv, h⟩ := ob_i h
                refine ev_call (t := 175) (as := [.inr (.inr (some 68)), .inl ((x2) - (10))]) (rest := []) rfl rfl rfl (by omega) (Overgrowth_firstDayOf_68_e (by omega) ((x2) - (10)) M4 _ hv) ?_
                refine ev_k (pc' := 91) (ls' := [(0, .inr (.inr (some 0))), (1, .inl (x1)), (2, .inl (x2))]) (st' := [.inl (v5)]) (nc' := 126) (np' := 138) (M' := M4) 0 rfl ?_
                cases h
                exact ev_ret rfl
          · refine ev_ifc 66 rfl hR.1 (by decide) (fun q => absurd q hc) (fun _ => ?_)
            refine ev_k (pc' := 62) (ls' := [(0, .inr (.inr (some 0))), (1, .inl (x1)), (2, .inl (x2))]) (st' := [.inr (.inr (some 68))]) (nc' := 126) (np' := 138) (M' := M4) 2 rfl ?_
            obtain ⟨v6, hv, h⟩ := ob_i h
            refine ev_call (t := 173) (as := [.inr (.inr (some 68))]) (rest := []) rfl rfl rfl (by omega) (Overgrowth_fewestDays_68_e (by omega)  M4 _ hv) ?_
            refine ev_k (pc' := 65) (ls' := [(0, .inr (.inr (some 0))), (1, .inl (x1)), (2, .inl (x2))]) (st' := [.inl (v6)]) (nc' := 126) (np' := 138) (M' := M4) 0 rfl ?_
            cases h
            exact ev_ret rfl
        · refine ev_ifc 54 rfl hR.1 (by decide) (fun q => absurd q hc) (fun _ => ?_)
          refine ev_k (pc' := 53) (ls' := [(0, .inr (.inr (some 0))), (1, .inl (x1)), (2, .inl (x2))]) (st' := [.inl (-3)]) (nc' := 126) (np' := 138) (M' := M4) 1 rfl ?_
          cases h
          exact ev_ret rfl
      · refine ev_ifc 29 rfl hR.1 (by decide) (fun q => absurd q hc) (fun _ => ?_)
        exact P_blazes_27_t hd      M2 r h
def Trip_isSight_29    (s0 : Int) (M : am_M) : Option (Int) := ck ((s0) = 0 ∨ (s0) = 1) (some (s0))
def Trip_isSight_24     (M : am_M) : Option (Int) := (Trip_isSight_29    (1) M)
def Trip_isSight    (x0 : Int) (M : am_M) : Option (Int) := c_eq (x0) (109)
       (Trip_isSight_24     M)
       (c_eq (x0) (102)
       (Trip_isSight_24     M)
       (c_eq (x0) (50)
       (Trip_isSight_24     M)
       (c_ne (x0) (46)
       ((Trip_isSight_29    (0) M))
       (Trip_isSight_24     M))))
theorem Trip_isSight_29_t {L : Nat} {xs : Nat → Int} {d : Nat} (hd : 0 ≤ d)     (s0 : Int) (M : am_M) (r : Int) (h : Trip_isSight_29    s0 M = some r) : am_Ev L xs d me_178 29 [] [.inl (s0)] 126 138 M (some (.inl r), 126, 138, M) := by
  refine ev_k (pc' := 29) (ls' := []) (st' := [.inl (s0)]) (nc' := 126) (np' := 138) (M' := M) 0 rfl ?_
  obtain ⟨hc, h⟩ := ck_i h
  cases h
  exact ev_retz rfl rfl hc
theorem Trip_isSight_24_t {L : Nat} {xs : Nat → Int} {d : Nat} (hd : 0 ≤ d)      (M : am_M) (r : Int) (h : Trip_isSight_24     M = some r) : am_Ev L xs d me_178 24 [] [] 126 138 M (some (.inl r), 126, 138, M) := by
  refine ev_k (pc' := 29) (ls' := []) (st' := [.inl (1)]) (nc' := 126) (np' := 138) (M' := M) 2 rfl ?_
  exact Trip_isSight_29_t hd     (1) M r h
theorem Trip_isSight_e {L : Nat} {xs : Nat → Int} {d : Nat} (hd : 0 ≤ d)   (x0 : Int) (M : am_M) (r : Int) (h : Trip_isSight   x0 M = some r) : am_Ev L xs d me_178 0 (am_ar1 0 [.inl (x0)]) [] 126 138 M (some (.inl r), 126, 138, M) := by
  refine ev_k (pc' := 3) (ls' := [(0, .inl (x0))]) (st' := [.inl (109), .inl (x0)]) (nc' := 126) (np' := 138) (M' := M) 2 rfl ?_
  obtain ⟨hR, ⟨hc, h⟩ | ⟨hc, h⟩⟩ := c_eq_i h
  · refine ev_icmp 24 rfl hR.1 hR.2 (by decide) (fun _ => ?_) (fun q => absurd hc q)
    exact Trip_isSight_24_t hd      M r h
  · refine ev_icmp 24 rfl hR.1 hR.2 (by decide) (fun q => absurd q hc) (fun _ => ?_)
    refine ev_k (pc' := 9) (ls' := [(0, .inl (x0))]) (st' := [.inl (102), .inl (x0)]) (nc' := 126) (np' := 138) (M' := M) 2 rfl ?_
    obtain ⟨hR, ⟨hc, h⟩ | ⟨hc, h⟩⟩ := c_eq_i h
    · refine ev_icmp 24 rfl hR.1 hR.2 (by decide) (fun _ => ?_) (fun q => absurd hc q)
      exact Trip_isSight_24_t hd      M r h
    · refine ev_icmp 24 rfl hR.1 hR.2 (by decide) (fun q => absurd q hc) (fun _ => ?_)
      refine ev_k (pc' := 15) (ls' := [(0, .inl (x0))]) (st' := [.inl (50), .inl (x0)]) (nc' := 126) (np' := 138) (M' := M) 2 rfl ?_
      obtain ⟨hR, ⟨hc, h⟩ | ⟨hc, h⟩⟩ := c_eq_i h
      · refine ev_icmp 24 rfl hR.1 hR.2 (by decide) (fun _ => ?_) (fun q => absurd hc q)
        exact Trip_isSight_24_t hd      M r h
      · refine ev_icmp 24 rfl hR.1 hR.2 (by decide) (fun q => absurd q hc) (fun _ => ?_)
        refine ev_k (pc' := 21) (ls' := [(0, .inl (x0))]) (st' := [.inl (46), .inl (x0)]) (nc' := 126) (np' := 138) (M' := M) 2 rfl ?_
        obtain ⟨hR, ⟨hc, h⟩ | ⟨hc, h⟩⟩ := c_ne_i h
        · refine ev_icmp 28 rfl hR.1 hR.2 (by decide) (fun _ => ?_) (fun q => absurd hc q)
          refine ev_k (pc' := 29) (ls' := []) (st' := [.inl (0)]) (nc' := 126) (np' := 138) (M' := M) 1 rfl ?_
          exact Trip_isSight_29_t hd     (0) M r h
        · refine ev_icmp 28 rfl hR.1 hR.2 (by decide) (fun q => absurd q hc) (fun _ => ?_)
          exact Trip_isSight_24_t hd      M r h
def Trip_sightAt_26_35    (s0 : Int) (M : am_M) : Option (Int) := some (s0)
def Trip_sightAt_26_47    (s0 : Int) (M : am_M) : Option (Int) := some (s0)
def Trip_sightAt_26_15    (x1 : Int) (s0 : Int) (M : am_M) : Option (Int) := ob (Trip_isFork_26 (x1) M) fun v1 => c_eq (v1) (0)
       (c_eq (s0) (0)
       ((Trip_sightAt_26_47    (46) M))
       ((Trip_sightAt_26_47    (109) M)))
       (c_eq (s0) (0)
       ((Trip_sightAt_26_35    (102) M))
       ((Trip_sightAt_26_35    (50) M)))
def Trip_sightAt_26    (x1 : Int) (M : am_M) : Option (Int) := ob (Trip_marksAt_26 (x1) M) fun v1 => c_eq (b_and (v1) (2)) (0)
       ((Trip_sightAt_26_15    (x1) (0) M))
       ((Trip_sightAt_26_15    (x1) (1) M))
theorem Trip_sightAt_26_35_t {L : Nat} {xs : Nat → Int} {d : Nat} (hd : 3 ≤ d)     (s0 : Int) (M : am_M) (r : Int) (h : Trip_sightAt_26_35    s0 M = some r) : am_Ev L xs d me_180 35 [] [.inl (s0)] 126 138 M (some (.inl r), 126, 138, M) := by
  refine ev_k (pc' := 35) (ls' := []) (st' := [.inl (s0)]) (nc' := 126) (np' := 138) (M' := M) 0 rfl ?_
  cases h
  exact ev_ret rfl
theorem Trip_sightAt_26_47_t {L : Nat} {xs : Nat → Int} {d : Nat} (hd : 3 ≤ d)     (s0 : Int) (M : am_M) (r : Int) (h : Trip_sightAt_26_47    s0 M = some r) : am_Ev L xs d me_180 47 [] [.inl (s0)] 126 138 M (some (.inl r), 126, 138, M) := by
  refine ev_k (pc' := 47) (ls' := []) (st' := [.inl (s0)]) (nc' := 126) (np' := 138) (M' := M) 0 rfl ?_
  cases h
  exact ev_ret rfl
theorem Trip_sightAt_26_15_t {L : Nat} {xs : Nat → Int} {d : Nat} (hd : 3 ≤ d)     (x1 : Int) (s0 : Int) (M : am_M) (r : Int) (h : Trip_sightAt_26_15    x1 s0 M = some r) : am_Ev L xs d me_180 15 [(0, .inr (.inr (some 26))), (1, .inl (x1))] [.inl (s0)] 126 138 M (some (.inl r), 126, 138, M) := by
  refine ev_k (pc' := 18) (ls' := [(2, .inl (s0)), (0, .inr (.inr (some 26))), (1, .inl (x1))]) (st' := [.inl (x1), .inr (.inr (some 26))]) (nc' := 126) (np' := 138) (M' := M) 3 rfl ?_
  obtain ⟨v1, hv, h⟩ := ob_i h
  refine ev_call (t := 118) (as := [.inr (.inr (some 26)), .inl (x1)]) (rest := []) rfl rfl rfl (by omega) (Trip_isFork_26_e (by omega) (x1) M _ hv) ?_
  refine ev_k (pc' := 21) (ls' := [(2, .inl (s0)), (0, .inr (.inr (some 26))), (1, .inl (x1))]) (st' := [.inl (v1)]) (nc' := 126) (np' := 138) (M' := M) 0 rfl ?_
  obtain ⟨hR, ⟨hc, h⟩ | ⟨hc, h⟩⟩ := c_eq_i h
  · refine ev_ifc 36 rfl hR.1 (by decide) (fun _ => ?_) (fun q => absurd hc q)
    refine ev_k (pc' := 37) (ls' := [(2, .inl (s0)), (0, .inr (.inr (some 26))), (1, .inl (x1))]) (st' := [.inl (s0)]) (nc' := 126) (np' := 138) (M' := M) 1 rfl ?_
    obtain ⟨hR, ⟨hc, h⟩ | ⟨hc, h⟩⟩ := c_eq_i h
    · refine ev_ifc 45 rfl hR.1 (by decide) (fun _ => ?_) (fun q => absurd hc q)
      refine ev_k (pc' := 47) (ls' := []) (st' := [.inl (46)]) (nc' := 126) (np' := 138) (M' := M) 1 rfl ?_
      exact Trip_sightAt_26_47_t hd     (46) M r h
    · refine ev_ifc 45 rfl hR.1 (by decide) (fun q => absurd q hc) (fun _ => ?_)
      refine ev_k (pc' := 47) (ls' := []) (st' := [.inl (109)]) (nc' := 126) (np' := 138) (M' := M) 2 rfl ?_
      exact Trip_sightAt_26_47_t hd     (109) M r h
  · refine ev_ifc 36 rfl hR.1 (by decide) (fun q => absurd q hc) (fun _ => ?_)
    refine ev_k (pc' := 25) (ls' := [(2, .inl (s0)), (0, .inr (.inr (some 26))), (1, .inl (x1))]) (st' := [.inl (s0)]) (nc' := 126) (np' := 138) (M' := M) 1 rfl ?_
    obtain ⟨hR, ⟨hc, h⟩ | ⟨hc, h⟩⟩ := c_eq_i h
    · refine ev_ifc 33 rfl hR.1 (by decide) (fun _ => ?_) (fun q => absurd hc q)
      refine ev_k (pc' := 35) (ls' := []) (st' := [.inl (102)]) (nc' := 126) (np' := 138) (M' := M) 1 rfl ?_
      exact Trip_sightAt_26_35_t hd     (102) M r h
    · refine ev_ifc 33 rfl hR.1 (by decide) (fun q => absurd q hc) (fun _ => ?_)
      refine ev_k (pc' := 35) (ls' := []) (st' := [.inl (50)]) (nc' := 126) (np' := 138) (M' := M) 2 rfl ?_
      exact Trip_sightAt_26_35_t hd     (50) M r h
theorem Trip_sightAt_26_e {L : Nat} {xs : Nat → Int} {d : Nat} (hd : 3 ≤ d)   (x1 : Int) (M : am_M) (r : Int) (h : Trip_sightAt_26   x1 M = some r) : am_Ev L xs d me_180 0 (am_ar1 0 [.inr (.inr (some 26)), .inl (x1)]) [] 126 138 M (some (.inl r), 126, 138, M) := by
  refine ev_k (pc' := 2) (ls' := [(0, .inr (.inr (some 26))), (1, .inl (x1))]) (st' := [.inl (x1), .inr (.inr (some 26))]) (nc' := 126) (np' := 138) (M' := M) 2 rfl ?_
  obtain ⟨v1, hv, h⟩ := ob_i h
  refine ev_call (t := 91) (as := [.inr (.inr (some 26)), .inl (x1)]) (rest := []) rfl rfl rfl (by omega) (Trip_marksAt_26_e (by omega) (x1) M _ hv) ?_
  refine ev_k (pc' := 7) (ls' := [(0, .inr (.inr (some 26))), (1, .inl (x1))]) (st' := [.inl (b_and (v1) (2))]) (nc' := 126) (np' := 138) (M' := M) 2 rfl ?_
  obtain ⟨hR, ⟨hc, h⟩ | ⟨hc, h⟩⟩ := c_eq_i h
  · refine ev_ifc 14 rfl hR.1 (by decide) (fun _ => ?_) (fun q => absurd hc q)
    refine ev_k (pc' := 15) (ls' := [(0, .inr (.inr (some 26))), (1, .inl (x1))]) (st' := [.inl (0)]) (nc' := 126) (np' := 138) (M' := M) 1 rfl ?_
    exact Trip_sightAt_26_15_t hd     (x1) (0) M r h
  · refine ev_ifc 14 rfl hR.1 (by decide) (fun q => absurd q hc) (fun _ => ?_)
    refine ev_k (pc' := 15) (ls' := [(0, .inr (.inr (some 26))), (1, .inl (x1))]) (st' := [.inl (1)]) (nc' := 126) (np' := 138) (M' := M) 2 rfl ?_
    exact Trip_sightAt_26_15_t hd     (x1) (1) M r h
def P_sightsFrom_50    (x3 : Int) (M : am_M) : Option (Int) := ck ((x3) = 0 ∨ (x3) = 1) (some (x3))
def P_sightsFrom_43   (k5 : Int → Int → Int → Int → am_M → Option (Int)) (x1 : Int) (x2 : Int) (x4 : Int) (s0 : Int) (M : am_M) : Option (Int) := (k5 (x1) (x2) (s0) ((x4) + (1)) M)
def P_sightsFrom_5    : Nat → Int → Int → Int → Int → am_M → Option (Int)
  | 0, _, _, _, _, _ => none
  | n + 1, x1, x2, x3, x4, M => c_ge (x4) (x2)
       (P_sightsFrom_50    (x3) M)
       (c_eq (x3) (0)
       (P_sightsFrom_50    (x3) M)
       (ob (Trip_sightAt_26 ((x1) - (x4)) M) fun v1 => ob (Tape_at (x4) M) fun v2 => c_ne (v1) (v2)
       ((P_sightsFrom_43   (P_sightsFrom_5    n) (x1) (x2) (x4) (0) M))
       ((P_sightsFrom_43   (P_sightsFrom_5    n) (x1) (x2) (x4) (1) M))))
def P_sightsFrom    (x1 : Int) (x2 : Int) (M : am_M) : Option (Int) := (P_sightsFrom_5    am_big (x1) (x2) (1) (0) M)
theorem P_sightsFrom_50_t {L : Nat} {xs : Nat → Int} {d : Nat} (hd : 4 ≤ d)     (x3 : Int) (M : am_M) (r : Int) (h : P_sightsFrom_50    x3 M = some r) : am_Ev L xs d me_179 50 [(3, .inl (x3))] [] 126 138 M (some (.inl r), 126, 138, M) := by
  refine ev_k (pc' := 51) (ls' := [(3, .inl (x3))]) (st' := [.inl (x3)]) (nc' := 126) (np' := 138) (M' := M) 1 rfl ?_
  obtain ⟨hc, h⟩ := ck_i h
  cases h
  exact ev_retz rfl rfl hc
theorem P_sightsFrom_43_t {L : Nat} {xs : Nat → Int} {d : Nat} (hd : 4 ≤ d)   (k5 : Int → Int → Int → Int → am_M → Option (Int)) (hk5 : ∀ (x1 : Int) (x2 : Int) (x3 : Int) (x4 : Int) (M : am_M) (r : Int), k5 x1 x2 x3 x4 M = some r → am_Ev L xs d me_179 5 [(0, .inr (.inr (some 0))), (1, .inl (x1)), (2, .inl (x2)), (3, .inl (x3)), (4, .inl (x4))] [] 126 138 M (some (.inl r), 126, 138, M)) (x1 : Int) (x2 : Int) (x4 : Int) (s0 : Int) (M : am_M) (r : Int) (h : P_sightsFrom_43   k5 x1 x2 x4 s0 M = some r) : am_Ev L xs d me_179 43 [(0, .inr (.inr (some 0))), (1, .inl (x1)), (2, .inl (x2)), (4, .inl (x4))] [.inl (s0)] 126 138 M (some (.inl r), 126, 138, M) := by
  refine ev_k (pc' := 5) (ls' := [(0, .inr (.inr (some 0))), (1, .inl (x1)), (2, .inl (x2)), (3, .inl (s0)), (4, .inl ((x4) + (1)))]) (st' := []) (nc' := 126) (np' := 138) (M' := M) 3 rfl ?_
  exact hk5 (x1) (x2) (s0) ((x4) + (1)) M r h
theorem P_sightsFrom_5_t {L : Nat} {xs : Nat → Int} {d : Nat} (hd : 4 ≤ d)     : ∀ (n : Nat) (x1 : Int) (x2 : Int) (x3 : Int) (x4 : Int) (M : am_M) (r : Int), P_sightsFrom_5    n x1 x2 x3 x4 M = some r → am_Ev L xs d me_179 5 [(0, .inr (.inr (some 0))), (1, .inl (x1)), (2, .inl (x2)), (3, .inl (x3)), (4, .inl (x4))] [] 126 138 M (some (.inl r), 126, 138, M)
  | 0, _, _, _, _, M, r, h => by cases h
  | n + 1, x1, x2, x3, x4, M, r, h => by
    have ih := P_sightsFrom_5_t (L := L) (xs := xs) hd     n
    refine ev_k (pc' := 8) (ls' := [(0, .inr (.inr (some 0))), (1, .inl (x1)), (2, .inl (x2)), (3, .inl (x3)), (4, .inl (x4))]) (st' := [.inl (x2), .inl (x4)]) (nc' := 126) (np' := 138) (M' := M) 2 rfl ?_
    obtain ⟨hR, ⟨hc, h⟩ | ⟨hc, h⟩⟩ := c_ge_i h
    · refine ev_icmp 50 rfl hR.1 hR.2 (by decide) (fun _ => ?_) (fun q => absurd hc q)
      exact P_sightsFrom_50_t hd     (x3) M r h
    · refine ev_icmp 50 rfl hR.1 hR.2 (by decide) (fun q => absurd q hc) (fun _ => ?_)
      refine ev_k (pc' := 12) (ls' := [(0, .inr (.inr (some 0))), (1, .inl (x1)), (2, .inl (x2)), (3, .inl (x3)), (4, .inl (x4))]) (st' := [.inl (x3)]) (nc' := 126) (np' := 138) (M' := M) 1 rfl ?_
      obtain ⟨hR, ⟨hc, h⟩ | ⟨hc, h⟩⟩ := c_eq_i h
      · refine ev_ifc 50 rfl hR.1 (by decide) (fun _ => ?_) (fun q => absurd hc q)
        exact P_sightsFrom_50_t hd     (x3) M r h
      · refine ev_ifc 50 rfl hR.1 (by decide) (fun q => absurd q hc) (fun _ => ?_)
        refine ev_k (pc' := 23) (ls' := [(0, .inr (.inr (some 0))), (1, .inl (x1)), (2, .inl (x2)), (3, .inl (x3)), (4, .inl (x4))]) (st' := [.inl ((x1) - (x4)), .inr (.inr (some 26))]) (nc' := 126) (np' := 138) (M' := M) 5 rfl ?_
        obtain ⟨v1, hv, h⟩ := ob_i h
        refine ev_call (t := 180) (as := [.inr (.inr (some 26)), .inl ((x1) - (x4))]) (rest := []) rfl rfl rfl (by omega) (Trip_sightAt_26_e (by omega) ((x1) - (x4)) M _ hv) ?_
        refine ev_k (pc' := 32) (ls' := [(0, .inr (.inr (some 0))), (1, .inl (x1)), (2, .inl (x2)), (3, .inl (x3)), (4, .inl (x4))]) (st' := [.inl (x4), .inr (.inr (some 14)), .inl (v1)]) (nc' := 126) (np' := 138) (M' := M) 3 rfl ?_
        obtain ⟨v2, hv, h⟩ := ob_i h
        refine ev_call (t := 23) (as := [.inr (.inr (some 14)), .inl (x4)]) (rest := [.inl (v1)]) rfl rfl rfl (by omega) (Tape_at_e (by omega) (x4) M _ hv) ?_
        refine ev_k (pc' := 35) (ls' := [(0, .inr (.inr (some 0))), (1, .inl (x1)), (2, .inl (x2)), (3, .inl (x3)), (4, .inl (x4))]) (st' := [.inl (v2), .inl (v1)]) (nc' := 126) (np' := 138) (M' := M) 0 rfl ?_
        obtain ⟨hR, ⟨hc, h⟩ | ⟨hc, h⟩⟩ := c_ne_i h
        · refine ev_icmp 42 rfl hR.1 hR.2 (by decide) (fun _ => ?_) (fun q => absurd hc q)
          refine ev_k (pc' := 43) (ls' := [(0, .inr (.inr (some 0))), (1, .inl (x1)), (2, .inl (x2)), (4, .inl (x4))]) (st' := [.inl (0)]) (nc' := 126) (np' := 138) (M' := M) 1 rfl ?_
          exact P_sightsFrom_43_t hd   (P_sightsFrom_5    n) ih (x1) (x2) (x4) (0) M r h
        · refine ev_icmp 42 rfl hR.1 hR.2 (by decide) (fun q => absurd q hc) (fun _ => ?_)
          refine ev_k (pc' := 43) (ls' := [(0, .inr (.inr (some 0))), (1, .inl (x1)), (2, .inl (x2)), (4, .inl (x4))]) (st' := [.inl (1)]) (nc' := 126) (np' := 138) (M' := M) 2 rfl ?_
          exact P_sightsFrom_43_t hd   (P_sightsFrom_5    n) ih (x1) (x2) (x4) (1) M r h
theorem P_sightsFrom_e {L : Nat} {xs : Nat → Int} {d : Nat} (hd : 4 ≤ d)   (x1 : Int) (x2 : Int) (M : am_M) (r : Int) (h : P_sightsFrom   x1 x2 M = some r) : am_Ev L xs d me_179 0 (am_ar1 0 [.inr (.inr (some 0)), .inl (x1), .inl (x2)]) [] 126 138 M (some (.inl r), 126, 138, M) := by
  refine ev_k (pc' := 5) (ls' := [(0, .inr (.inr (some 0))), (1, .inl (x1)), (2, .inl (x2)), (3, .inl (1)), (4, .inl (0))]) (st' := []) (nc' := 126) (np' := 138) (M' := M) 4 rfl ?_
  exact P_sightsFrom_5_t hd     am_big (x1) (x2) (1) (0) M r h
def P_sights_116   (k73 : Int → Int → Int → Int → Int → Int → am_M → Option (Int × am_M)) (x1 : Int) (x2 : Int) (x3 : Int) (x4 : Int) (x5 : Int) (x6 : Int) (M : am_M) : Option (Int × am_M) := (k73 (x1) (x2) (x3) (x4) (x5) ((x6) + (1)) M)
def P_sights_140    (s0 : Int) (M : am_M) : Option (Int × am_M) := some (s0, M)
def P_sights_110   (k73 : Int → Int → Int → Int → Int → Int → am_M → Option (Int × am_M)) (x1 : Int) (x2 : Int) (x3 : Int) (x6 : Int) (s0 : Int) (M : am_M) : Option (Int × am_M) := (P_sights_116   k73 (x1) (x2) (x3) (s0) (x6) (x6) M)
def P_sights_73    : Nat → Int → Int → Int → Int → Int → Int → am_M → Option (Int × am_M)
  | 0, _, _, _, _, _, _, _ => none
  | n + 1, x1, x2, x3, x4, x5, x6, M => c_ge (x6) (M 26 10)
       (c_ne (x2) (0)
       (c_ne (x2) (1)
       ((P_sights_140    (x5) M))
       ((P_sights_140    (x4) M)))
       (some (x3, M)))
       (ob (P_sightsFrom (x6) (x1) M) fun v1 => c_eq (v1) (0)
       (P_sights_116   (P_sights_73    n) (x1) (x2) (x3) (x4) (x5) (x6) M)
       (c_ge (x4) (0)
       ((P_sights_110   (P_sights_73    n) (x1) (x2) ((x3) + (1)) (x6) (x4) M))
       ((P_sights_110   (P_sights_73    n) (x1) (x2) ((x3) + (1)) (x6) (x6) M))))
def P_sights_27    : Nat → Int → Int → Int → am_M → Option (Int × am_M)
  | 0, _, _, _, _ => none
  | n + 1, x1, x2, x3, M => c_ge (x3) (x1)
       ((P_sights_73    am_big (x1) (x2) (0) (-2) (-2) ((x1) - (1)) M))
       (ob (Tape_at (x3) M) fun v1 => ob (Trip_isSight (v1) M) fun v2 => c_ne (v2) (0)
       ((P_sights_27    n (x1) (x2) ((x3) + (1)) M))
       (ob (P_faultAt (1) (x3) M) fun v3 => some (v3, M)))
def P_sights_23     (M : am_M) : Option (Int × am_M) := some (-1, M)
def P_sights    (x1 : Int) (x2 : Int) (M : am_M) : Option (Int × am_M) := c_lt (x2) (0)
       (P_sights_23     M)
       (c_gt (x2) (2)
       (P_sights_23     M)
       (oc (Tape_take (x1) (1) (20) M) fun v1 M2 => c_ne (v1) (0)
       ((P_sights_27    am_big (x1) (x2) (0) M2))
       (P_sights_23     M2)))
theorem P_sights_116_t {L : Nat} {xs : Nat → Int} {d : Nat} (hd : 5 ≤ d)   (k73 : Int → Int → Int → Int → Int → Int → am_M → Option (Int × am_M)) (hk73 : ∀ (x1 : Int) (x2 : Int) (x3 : Int) (x4 : Int) (x5 : Int) (x6 : Int) (M : am_M) (r : Int × am_M), k73 x1 x2 x3 x4 x5 x6 M = some r → am_Ev L xs d me_177 73 [(0, .inr (.inr (some 0))), (1, .inl (x1)), (2, .inl (x2)), (3, .inl (x3)), (4, .inl (x4)), (5, .inl (x5)), (6, .inl (x6))] [] 126 138 M (some (.inl r.1), 126, 138, r.2)) (x1 : Int) (x2 : Int) (x3 : Int) (x4 : Int) (x5 : Int) (x6 : Int) (M : am_M) (r : Int × am_M) (h : P_sights_116   k73 x1 x2 x3 x4 x5 x6 M = some r) : am_Ev L xs d me_177 116 [(0, .inr (.inr (some 0))), (1, .inl (x1)), (2, .inl (x2)), (3, .inl (x3)), (4, .inl (x4)), (5, .inl (x5)), (6, .inl (x6))] [] 126 138 M (some (.inl r.1), 126, 138, r.2) := by
  refine ev_k (pc' := 73) (ls' := [(0, .inr (.inr (some 0))), (1, .inl (x1)), (2, .inl (x2)), (3, .inl (x3)), (4, .inl (x4)), (5, .inl (x5)), (6, .inl ((x6) + (1)))]) (st' := []) (nc' := 126) (np' := 138) (M' := M) 2 rfl ?_
  exact hk73 (x1) (x2) (x3) (x4) (x5) ((x6) + (1)) M r h
theorem P_sights_140_t {L : Nat} {xs : Nat → Int} {d : Nat} (hd : 5 ≤ d)     (s0 : Int) (M : am_M) (r : Int × am_M) (h : P_sights_140    s0 M = some r) : am_Ev L xs d me_177 140 [] [.inl (s0)] 126 138 M (some (.inl r.1), 126, 138, r.2) := by
  refine ev_k (pc' := 140) (ls' := []) (st' := [.inl (s0)]) (nc' := 126) (np' := 138) (M' := M) 0 rfl ?_
  cases h
  exact ev_ret rfl
theorem P_sights_110_t {L : Nat} {xs : Nat → Int} {d : Nat} (hd : 5 ≤ d)   (k73 : Int → Int → Int → Int → Int → Int → am_M → Option (Int × am_M)) (hk73 : ∀ (x1 : Int) (x2 : Int) (x3 : Int) (x4 : Int) (x5 : Int) (x6 : Int) (M : am_M) (r : Int × am_M), k73 x1 x2 x3 x4 x5 x6 M = some r → am_Ev L xs d me_177 73 [(0, .inr (.inr (some 0))), (1, .inl (x1)), (2, .inl (x2)), (3, .inl (x3)), (4, .inl (x4)), (5, .inl (x5)), (6, .inl (x6))] [] 126 138 M (some (.inl r.1), 126, 138, r.2)) (x1 : Int) (x2 : Int) (x3 : Int) (x6 : Int) (s0 : Int) (M : am_M) (r : Int × am_M) (h : P_sights_110   k73 x1 x2 x3 x6 s0 M = some r) : am_Ev L xs d me_177 110 [(0, .inr (.inr (some 0))), (1, .inl (x1)), (2, .inl (x2)), (3, .inl (x3)), (6, .inl (x6))] [.inl (s0)] 126 138 M (some (.inl r.1), 126, 138, r.2) := by
  refine ev_k (pc' := 116) (ls' := [(0, .inr (.inr (some 0))), (1, .inl (x1)), (2, .inl (x2)), (3, .inl (x3)), (4, .inl (s0)), (5, .inl (x6)), (6, .inl (x6))]) (st' := []) (nc' := 126) (np' := 138) (M' := M) 3 rfl ?_
  exact P_sights_116_t hd   k73 hk73 (x1) (x2) (x3) (s0) (x6) (x6) M r h
theorem P_sights_73_t {L : Nat} {xs : Nat → Int} {d : Nat} (hd : 5 ≤ d)     : ∀ (n : Nat) (x1 : Int) (x2 : Int) (x3 : Int) (x4 : Int) (x5 : Int) (x6 : Int) (M : am_M) (r : Int × am_M), P_sights_73    n x1 x2 x3 x4 x5 x6 M = some r → am_Ev L xs d me_177 73 [(0, .inr (.inr (some 0))), (1, .inl (x1)), (2, .inl (x2)), (3, .inl (x3)), (4, .inl (x4)), (5, .inl (x5)), (6, .inl (x6))] [] 126 138 M (some (.inl r.1), 126, 138, r.2)
  | 0, _, _, _, _, _, _, M, r, h => by cases h
  | n + 1, x1, x2, x3, x4, x5, x6, M, r, h => by
    have ih := P_sights_73_t (L := L) (xs := xs) hd     n
    refine ev_k (pc' := 82) (ls' := [(0, .inr (.inr (some 0))), (1, .inl (x1)), (2, .inl (x2)), (3, .inl (x3)), (4, .inl (x4)), (5, .inl (x5)), (6, .inl (x6))]) (st' := [.inl (M 26 10), .inl (x6)]) (nc' := 126) (np' := 138) (M' := M) 4 rfl ?_
    obtain ⟨hR, ⟨hc, h⟩ | ⟨hc, h⟩⟩ := c_ge_i h
    · refine ev_icmp 122 rfl hR.1 hR.2 (by decide) (fun _ => ?_) (fun q => absurd hc q)
      refine ev_k (pc' := 123) (ls' := [(0, .inr (.inr (some 0))), (1, .inl (x1)), (2, .inl (x2)), (3, .inl (x3)), (4, .inl (x4)), (5, .inl (x5)), (6, .inl (x6))]) (st' := [.inl (x2)]) (nc' := 126) (np' := 138) (M' := M) 1 rfl ?_
      obtain ⟨hR, ⟨hc, h⟩ | ⟨hc, h⟩⟩ := c_ne_i h
      · refine ev_ifc 128 rfl hR.1 (by decide) (fun _ => ?_) (fun q => absurd hc q)
        refine ev_k (pc' := 130) (ls' := [(0, .inr (.inr (some 0))), (1, .inl (x1)), (2, .inl (x2)), (3, .inl (x3)), (4, .inl (x4)), (5, .inl (x5)), (6, .inl (x6))]) (st' := [.inl (1), .inl (x2)]) (nc' := 126) (np' := 138) (M' := M) 2 rfl ?_
        obtain ⟨hR, ⟨hc, h⟩ | ⟨hc, h⟩⟩ := c_ne_i h
        · refine ev_icmp 138 rfl hR.1 hR.2 (by decide) (fun _ => ?_) (fun q => absurd hc q)
          refine ev_k (pc' := 140) (ls' := []) (st' := [.inl (x5)]) (nc' := 126) (np' := 138) (M' := M) 1 rfl ?_
          exact P_sights_140_t hd     (x5) M r h
        · refine ev_icmp 138 rfl hR.1 hR.2 (by decide) (fun q => absurd q hc) (fun _ => ?_)
          refine ev_k (pc' := 140) (ls' := []) (st' := [.inl (x4)]) (nc' := 126) (np' := 138) (M' := M) 2 rfl ?_
          exact P_sights_140_t hd     (x4) M r h
      · refine ev_ifc 128 rfl hR.1 (by decide) (fun q => absurd q hc) (fun _ => ?_)
        refine ev_k (pc' := 127) (ls' := [(0, .inr (.inr (some 0))), (1, .inl (x1)), (2, .inl (x2)), (3, .inl (x3)), (4, .inl (x4)), (5, .inl (x5)), (6, .inl (x6))]) (st' := [.inl (x3)]) (nc' := 126) (np' := 138) (M' := M) 1 rfl ?_
        cases h
        exact ev_ret rfl
    · refine ev_icmp 122 rfl hR.1 hR.2 (by decide) (fun q => absurd q hc) (fun _ => ?_)
      refine ev_k (pc' := 89) (ls' := [(0, .inr (.inr (some 0))), (1, .inl (x1)), (2, .inl (x2)), (3, .inl (x3)), (4, .inl (x4)), (5, .inl (x5)), (6, .inl (x6))]) (st' := [.inl (x1), .inl (x6), .inr (.inr (some 0))]) (nc' := 126) (np' := 138) (M' := M) 3 rfl ?_
      obtain ⟨v1, hv, h⟩ := ob_i h
      refine ev_call (t := 179) (as := [.inr (.inr (some 0)), .inl (x6), .inl (x1)]) (rest := []) rfl rfl rfl (by omega) (P_sightsFrom_e (by omega) (x6) (x1) M _ hv) ?_
      refine ev_k (pc' := 92) (ls' := [(0, .inr (.inr (some 0))), (1, .inl (x1)), (2, .inl (x2)), (3, .inl (x3)), (4, .inl (x4)), (5, .inl (x5)), (6, .inl (x6))]) (st' := [.inl (v1)]) (nc' := 126) (np' := 138) (M' := M) 0 rfl ?_
      obtain ⟨hR, ⟨hc, h⟩ | ⟨hc, h⟩⟩ := c_eq_i h
      · refine ev_ifc 116 rfl hR.1 (by decide) (fun _ => ?_) (fun q => absurd hc q)
        exact P_sights_116_t hd   (P_sights_73    n) ih (x1) (x2) (x3) (x4) (x5) (x6) M r h
      · refine ev_ifc 116 rfl hR.1 (by decide) (fun q => absurd q hc) (fun _ => ?_)
        refine ev_k (pc' := 100) (ls' := [(3, .inl ((x3) + (1))), (0, .inr (.inr (some 0))), (1, .inl (x1)), (2, .inl (x2)), (4, .inl (x4)), (5, .inl (x5)), (6, .inl (x6))]) (st' := [.inl (x4)]) (nc' := 126) (np' := 138) (M' := M) 2 rfl ?_
        obtain ⟨hR, ⟨hc, h⟩ | ⟨hc, h⟩⟩ := c_ge_i h
        · refine ev_ifc 108 rfl hR.1 (by decide) (fun _ => ?_) (fun q => absurd hc q)
          refine ev_k (pc' := 110) (ls' := [(0, .inr (.inr (some 0))), (1, .inl (x1)), (2, .inl (x2)), (3, .inl ((x3) + (1))), (6, .inl (x6))]) (st' := [.inl (x4)]) (nc' := 126) (np' := 138) (M' := M) 1 rfl ?_
          exact P_sights_110_t hd   (P_sights_73    n) ih (x1) (x2) ((x3) + (1)) (x6) (x4) M r h
        · refine ev_ifc 108 rfl hR.1 (by decide) (fun q => absurd q hc) (fun _ => ?_)
          refine ev_k (pc' := 110) (ls' := [(0, .inr (.inr (some 0))), (1, .inl (x1)), (2, .inl (x2)), (3, .inl ((x3) + (1))), (6, .inl (x6))]) (st' := [.inl (x6)]) (nc' := 126) (np' := 138) (M' := M) 2 rfl ?_
          exact P_sights_110_t hd   (P_sights_73    n) ih (x1) (x2) ((x3) + (1)) (x6) (x6) M r h
theorem P_sights_27_t {L : Nat} {xs : Nat → Int} {d : Nat} (hd : 5 ≤ d)     : ∀ (n : Nat) (x1 : Int) (x2 : Int) (x3 : Int) (M : am_M) (r : Int × am_M), P_sights_27    n x1 x2 x3 M = some r → am_Ev L xs d me_177 27 [(0, .inr (.inr (some 0))), (1, .inl (x1)), (2, .inl (x2)), (3, .inl (x3))] [] 126 138 M (some (.inl r.1), 126, 138, r.2)
  | 0, _, _, _, M, r, h => by cases h
  | n + 1, x1, x2, x3, M, r, h => by
    have ih := P_sights_27_t (L := L) (xs := xs) hd     n
    refine ev_k (pc' := 29) (ls' := [(0, .inr (.inr (some 0))), (1, .inl (x1)), (2, .inl (x2)), (3, .inl (x3))]) (st' := [.inl (x1), .inl (x3)]) (nc' := 126) (np' := 138) (M' := M) 2 rfl ?_
    obtain ⟨hR, ⟨hc, h⟩ | ⟨hc, h⟩⟩ := c_ge_i h
    · refine ev_icmp 58 rfl hR.1 hR.2 (by decide) (fun _ => ?_) (fun q => absurd hc q)
      refine ev_k (pc' := 73) (ls' := [(0, .inr (.inr (some 0))), (1, .inl (x1)), (2, .inl (x2)), (3, .inl (0)), (4, .inl (-2)), (5, .inl (-2)), (6, .inl ((x1) - (1)))]) (st' := []) (nc' := 126) (np' := 138) (M' := M) 10 rfl ?_
      exact P_sights_73_t hd     am_big (x1) (x2) (0) (-2) (-2) ((x1) - (1)) M r h
    · refine ev_icmp 58 rfl hR.1 hR.2 (by decide) (fun q => absurd q hc) (fun _ => ?_)
      refine ev_k (pc' := 37) (ls' := [(0, .inr (.inr (some 0))), (1, .inl (x1)), (2, .inl (x2)), (3, .inl (x3))]) (st' := [.inl (x3), .inr (.inr (some 14))]) (nc' := 126) (np' := 138) (M' := M) 3 rfl ?_
      obtain ⟨v1, hv, h⟩ := ob_i h
      refine ev_call (t := 23) (as := [.inr (.inr (some 14)), .inl (x3)]) (rest := []) rfl rfl rfl (by omega) (Tape_at_e (by omega) (x3) M _ hv) ?_
      refine ev_k (pc' := 40) (ls' := [(0, .inr (.inr (some 0))), (1, .inl (x1)), (2, .inl (x2)), (3, .inl (x3))]) (st' := [.inl (v1)]) (nc' := 126) (np' := 138) (M' := M) 0 rfl ?_
      obtain ⟨v2, hv, h⟩ := ob_i h
      refine ev_call (t := 178) (as := [.inl (v1)]) (rest := []) rfl rfl rfl (by omega) (Trip_isSight_e (by omega) (v1) M _ hv) ?_
      refine ev_k (pc' := 43) (ls' := [(0, .inr (.inr (some 0))), (1, .inl (x1)), (2, .inl (x2)), (3, .inl (x3))]) (st' := [.inl (v2)]) (nc' := 126) (np' := 138) (M' := M) 0 rfl ?_
      obtain ⟨hR, ⟨hc, h⟩ | ⟨hc, h⟩⟩ := c_ne_i h
      · refine ev_ifc 52 rfl hR.1 (by decide) (fun _ => ?_) (fun q => absurd hc q)
        refine ev_k (pc' := 27) (ls' := [(0, .inr (.inr (some 0))), (1, .inl (x1)), (2, .inl (x2)), (3, .inl ((x3) + (1)))]) (st' := []) (nc' := 126) (np' := 138) (M' := M) 2 rfl ?_
        exact ih (x1) (x2) ((x3) + (1)) M r h
      · refine ev_ifc 52 rfl hR.1 (by decide) (fun q => absurd q hc) (fun _ => ?_)
        refine ev_k (pc' := 48) (ls' := [(0, .inr (.inr (some 0))), (1, .inl (x1)), (2, .inl (x2)), (3, .inl (x3))]) (st' := [.inl (x3), .inl (1)]) (nc' := 126) (np' := 138) (M' := M) 2 rfl ?_
        obtain ⟨v3, hv, h⟩ := ob_i h
        refine ev_call (t := 24) (as := [.inl (1), .inl (x3)]) (rest := []) rfl rfl rfl (by omega) (P_faultAt_e (by omega) (1) (x3) M _ hv) ?_
        refine ev_k (pc' := 51) (ls' := [(0, .inr (.inr (some 0))), (1, .inl (x1)), (2, .inl (x2)), (3, .inl (x3))]) (st' := [.inl (v3)]) (nc' := 126) (np' := 138) (M' := M) 0 rfl ?_
        cases h
        exact ev_ret rfl
theorem P_sights_23_t {L : Nat} {xs : Nat → Int} {d : Nat} (hd : 5 ≤ d)      (M : am_M) (r : Int × am_M) (h : P_sights_23     M = some r) : am_Ev L xs d me_177 23 [] [] 126 138 M (some (.inl r.1), 126, 138, r.2) := by
  refine ev_k (pc' := 24) (ls' := []) (st' := [.inl (-1)]) (nc' := 126) (np' := 138) (M' := M) 1 rfl ?_
  cases h
  exact ev_ret rfl
theorem P_sights_e {L : Nat} {xs : Nat → Int} {d : Nat} (hd : 5 ≤ d)   (x1 : Int) (x2 : Int) (M : am_M) (r : Int × am_M) (h : P_sights   x1 x2 M = some r) : am_Ev L xs d me_177 0 (am_ar1 0 [.inr (.inr (some 0)), .inl (x1), .inl (x2)]) [] 126 138 M (some (.inl r.1), 126, 138, r.2) := by
  refine ev_k (pc' := 1) (ls' := [(0, .inr (.inr (some 0))), (1, .inl (x1)), (2, .inl (x2))]) (st' := [.inl (x2)]) (nc' := 126) (np' := 138) (M' := M) 1 rfl ?_
  obtain ⟨hR, ⟨hc, h⟩ | ⟨hc, h⟩⟩ := c_lt_i h
  · refine ev_ifc 23 rfl hR.1 (by decide) (fun _ => ?_) (fun q => absurd hc q)
    exact P_sights_23_t hd      M r h
  · refine ev_ifc 23 rfl hR.1 (by decide) (fun q => absurd q hc) (fun _ => ?_)
    refine ev_k (pc' := 6) (ls' := [(0, .inr (.inr (some 0))), (1, .inl (x1)), (2, .inl (x2))]) (st' := [.inl (2), .inl (x2)]) (nc' := 126) (np' := 138) (M' := M) 2 rfl ?_
    obtain ⟨hR, ⟨hc, h⟩ | ⟨hc, h⟩⟩ := c_gt_i h
    · refine ev_icmp 23 rfl hR.1 hR.2 (by decide) (fun _ => ?_) (fun q => absurd hc q)
      exact P_sights_23_t hd      M r h
    · refine ev_icmp 23 rfl hR.1 hR.2 (by decide) (fun q => absurd q hc) (fun _ => ?_)
      refine ev_k (pc' := 17) (ls' := [(0, .inr (.inr (some 0))), (1, .inl (x1)), (2, .inl (x2))]) (st' := [.inl (20), .inl (1), .inl (x1), .inr (.inr (some 14))]) (nc' := 126) (np' := 138) (M' := M) 5 rfl ?_
      obtain ⟨v1, M2, hv, h⟩ := oc_i h
      refine ev_call (t := 21) (as := [.inr (.inr (some 14)), .inl (x1), .inl (1), .inl (20)]) (rest := []) rfl rfl rfl (by omega) (Tape_take_e (by omega) (x1) (1) (20) M _ hv) ?_
      refine ev_k (pc' := 20) (ls' := [(0, .inr (.inr (some 0))), (1, .inl (x1)), (2, .inl (x2))]) (st' := [.inl (v1)]) (nc' := 126) (np' := 138) (M' := M2) 0 rfl ?_
      obtain ⟨hR, ⟨hc, h⟩ | ⟨hc, h⟩⟩ := c_ne_i h
      · refine ev_ifc 25 rfl hR.1 (by decide) (fun _ => ?_) (fun q => absurd hc q)
        refine ev_k (pc' := 27) (ls' := [(0, .inr (.inr (some 0))), (1, .inl (x1)), (2, .inl (x2)), (3, .inl (0))]) (st' := []) (nc' := 126) (np' := 138) (M' := M2) 2 rfl ?_
        exact P_sights_27_t hd     am_big (x1) (x2) (0) M2 r h
      · refine ev_ifc 25 rfl hR.1 (by decide) (fun q => absurd q hc) (fun _ => ?_)
        exact P_sights_23_t hd      M2 r h
def P_personIs_20     (M : am_M) : Option (Int) := some (-1)
def P_personIs_45    (s0 : Int) (M : am_M) : Option (Int) := some (s0)
def P_personIs    (x1 : Int) (x2 : Int) (M : am_M) : Option (Int) := ob (Country_isTold_1 (x1) M) fun v1 => c_eq (v1) (0)
       (P_personIs_20     M)
       (c_lt (x2) (0)
       (P_personIs_20     M)
       (c_le (x2) (1)
       (c_ne (x2) (0)
       (ob (Trip_tiredOf_26 (x1) M) fun v2 => (P_personIs_45    (v2) M))
       (ob (Country_armOf_1 (x1) M) fun v3 => (P_personIs_45    (v3) M)))
       (P_personIs_20     M)))
theorem P_personIs_20_t {L : Nat} {xs : Nat → Int} {d : Nat} (hd : 2 ≤ d)      (M : am_M) (r : Int) (h : P_personIs_20     M = some r) : am_Ev L xs d me_181 20 [] [] 126 138 M (some (.inl r), 126, 138, M) := by
  refine ev_k (pc' := 21) (ls' := []) (st' := [.inl (-1)]) (nc' := 126) (np' := 138) (M' := M) 1 rfl ?_
  cases h
  exact ev_ret rfl
theorem P_personIs_45_t {L : Nat} {xs : Nat → Int} {d : Nat} (hd : 2 ≤ d)     (s0 : Int) (M : am_M) (r : Int) (h : P_personIs_45    s0 M = some r) : am_Ev L xs d me_181 45 [] [.inl (s0)] 126 138 M (some (.inl r), 126, 138, M) := by
  refine ev_k (pc' := 45) (ls' := []) (st' := [.inl (s0)]) (nc' := 126) (np' := 138) (M' := M) 0 rfl ?_
  cases h
  exact ev_ret rfl
theorem P_personIs_e {L : Nat} {xs : Nat → Int} {d : Nat} (hd : 2 ≤ d)   (x1 : Int) (x2 : Int) (M : am_M) (r : Int) (h : P_personIs   x1 x2 M = some r) : am_Ev L xs d me_181 0 (am_ar1 0 [.inr (.inr (some 0)), .inl (x1), .inl (x2)]) [] 126 138 M (some (.inl r), 126, 138, M) := by
  refine ev_k (pc' := 5) (ls' := [(0, .inr (.inr (some 0))), (1, .inl (x1)), (2, .inl (x2))]) (st' := [.inl (x1), .inr (.inr (some 1))]) (nc' := 126) (np' := 138) (M' := M) 3 rfl ?_
  obtain ⟨v1, hv, h⟩ := ob_i h
  refine ev_call (t := 62) (as := [.inr (.inr (some 1)), .inl (x1)]) (rest := []) rfl rfl rfl (by omega) (Country_isTold_1_e (by omega) (x1) M _ hv) ?_
  refine ev_k (pc' := 8) (ls' := [(0, .inr (.inr (some 0))), (1, .inl (x1)), (2, .inl (x2))]) (st' := [.inl (v1)]) (nc' := 126) (np' := 138) (M' := M) 0 rfl ?_
  obtain ⟨hR, ⟨hc, h⟩ | ⟨hc, h⟩⟩ := c_eq_i h
  · refine ev_ifc 20 rfl hR.1 (by decide) (fun _ => ?_) (fun q => absurd hc q)
    exact P_personIs_20_t hd      M r h
  · refine ev_ifc 20 rfl hR.1 (by decide) (fun q => absurd q hc) (fun _ => ?_)
    refine ev_k (pc' := 12) (ls' := [(0, .inr (.inr (some 0))), (1, .inl (x1)), (2, .inl (x2))]) (st' := [.inl (x2)]) (nc' := 126) (np' := 138) (M' := M) 1 rfl ?_
    obtain ⟨hR, ⟨hc, h⟩ | ⟨hc, h⟩⟩ := c_lt_i h
    · refine ev_ifc 20 rfl hR.1 (by decide) (fun _ => ?_) (fun q => absurd hc q)
      exact P_personIs_20_t hd      M r h
    · refine ev_ifc 20 rfl hR.1 (by decide) (fun q => absurd q hc) (fun _ => ?_)
      refine ev_k (pc' := 17) (ls' := [(0, .inr (.inr (some 0))), (1, .inl (x1)), (2, .inl (x2))]) (st' := [.inl (1), .inl (x2)]) (nc' := 126) (np' := 138) (M' := M) 2 rfl ?_
      obtain ⟨hR, ⟨hc, h⟩ | ⟨hc, h⟩⟩ := c_le_i h
      · refine ev_icmp 22 rfl hR.1 hR.2 (by decide) (fun _ => ?_) (fun q => absurd hc q)
        refine ev_k (pc' := 23) (ls' := [(0, .inr (.inr (some 0))), (1, .inl (x1)), (2, .inl (x2))]) (st' := [.inl (x2)]) (nc' := 126) (np' := 138) (M' := M) 1 rfl ?_
        obtain ⟨hR, ⟨hc, h⟩ | ⟨hc, h⟩⟩ := c_ne_i h
        · refine ev_ifc 37 rfl hR.1 (by decide) (fun _ => ?_) (fun q => absurd hc q)
          refine ev_k (pc' := 42) (ls' := [(0, .inr (.inr (some 0))), (1, .inl (x1)), (2, .inl (x2))]) (st' := [.inl (x1), .inr (.inr (some 26))]) (nc' := 126) (np' := 138) (M' := M) 3 rfl ?_
          obtain ⟨v2, hv, h⟩ := ob_i h
          refine ev_call (t := 82) (as := [.inr (.inr (some 26)), .inl (x1)]) (rest := []) rfl rfl rfl (by omega) (Trip_tiredOf_26_e (by omega) (x1) M _ hv) ?_
          exact P_personIs_45_t hd     (v2) M r h
        · refine ev_ifc 37 rfl hR.1 (by decide) (fun q => absurd q hc) (fun _ => ?_)
          refine ev_k (pc' := 31) (ls' := [(0, .inr (.inr (some 0))), (1, .inl (x1)), (2, .inl (x2))]) (st' := [.inl (x1), .inr (.inr (some 1))]) (nc' := 126) (np' := 138) (M' := M) 3 rfl ?_
          obtain ⟨v3, hv, h⟩ := ob_i h
          refine ev_call (t := 63) (as := [.inr (.inr (some 1)), .inl (x1)]) (rest := []) rfl rfl rfl (by omega) (Country_armOf_1_e (by omega) (x1) M _ hv) ?_
          refine ev_k (pc' := 45) (ls' := []) (st' := [.inl (v3)]) (nc' := 126) (np' := 138) (M' := M) 1 rfl ?_
          exact P_personIs_45_t hd     (v3) M r h
      · refine ev_icmp 22 rfl hR.1 hR.2 (by decide) (fun q => absurd q hc) (fun _ => ?_)
        exact P_personIs_20_t hd      M r h
def P_seed_11     (M : am_M) : Option (Int × am_M) := some (0, M)
def P_seed    (x1 : Int) (M : am_M) : Option (Int × am_M) := c_lt (x1) (0)
       (P_seed_11     M)
       (c_le (x1) (65535)
       (fw M 26 14 (x1) fun M1 => some (1, M1))
       (P_seed_11     M))
theorem P_seed_11_t {L : Nat} {xs : Nat → Int} {d : Nat} (hd : 0 ≤ d)      (M : am_M) (r : Int × am_M) (h : P_seed_11     M = some r) : am_Ev L xs d me_182 11 [] [] 126 138 M (some (.inl r.1), 126, 138, r.2) := by
  refine ev_k (pc' := 12) (ls' := []) (st' := [.inl (0)]) (nc' := 126) (np' := 138) (M' := M) 1 rfl ?_
  cases h
  exact ev_ret rfl
theorem P_seed_e {L : Nat} {xs : Nat → Int} {d : Nat} (hd : 0 ≤ d)   (x1 : Int) (M : am_M) (r : Int × am_M) (h : P_seed   x1 M = some r) : am_Ev L xs d me_182 0 (am_ar1 0 [.inr (.inr (some 0)), .inl (x1)]) [] 126 138 M (some (.inl r.1), 126, 138, r.2) := by
  refine ev_k (pc' := 1) (ls' := [(0, .inr (.inr (some 0))), (1, .inl (x1))]) (st' := [.inl (x1)]) (nc' := 126) (np' := 138) (M' := M) 1 rfl ?_
  obtain ⟨hR, ⟨hc, h⟩ | ⟨hc, h⟩⟩ := c_lt_i h
  · refine ev_ifc 11 rfl hR.1 (by decide) (fun _ => ?_) (fun q => absurd hc q)
    exact P_seed_11_t hd      M r h
  · refine ev_ifc 11 rfl hR.1 (by decide) (fun q => absurd q hc) (fun _ => ?_)
    refine ev_k (pc' := 8) (ls' := [(0, .inr (.inr (some 0))), (1, .inl (x1))]) (st' := [.inl (65535), .inl (x1)]) (nc' := 126) (np' := 138) (M' := M) 2 rfl ?_
    obtain ⟨hR, ⟨hc, h⟩ | ⟨hc, h⟩⟩ := c_le_i h
    · refine ev_icmp 13 rfl hR.1 hR.2 (by decide) (fun _ => ?_) (fun q => absurd hc q)
      refine ev_k (pc' := 21) (ls' := [(0, .inr (.inr (some 0))), (1, .inl (x1))]) (st' := []) (nc' := 126) (np' := 138) (M' := am_up M 26 14 (x1)) 4 rfl ?_
      obtain ⟨M1, eM, h⟩ := fw_i h
      rw [← eM]
      refine ev_k (pc' := 22) (ls' := [(0, .inr (.inr (some 0))), (1, .inl (x1))]) (st' := [.inl (1)]) (nc' := 126) (np' := 138) (M' := M1) 1 rfl ?_
      cases h
      exact ev_ret rfl
    · refine ev_icmp 13 rfl hR.1 hR.2 (by decide) (fun q => absurd q hc) (fun _ => ?_)
      exact P_seed_11_t hd      M r h
