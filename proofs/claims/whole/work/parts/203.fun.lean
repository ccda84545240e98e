def Law_reckon_5_423   (k11 : Int → Int → Int → Int → Int → am_M → Option (Int × am_M)) (x2 : Int) (x3 : Int) (x4 : Int) (x5 : Int) (x6 : Int) (M : am_M) : Option (Int × am_M) := (k11 (x2) (x3) (x4) (x5) ((x6) + (1)) M)
def Law_reckon_5_186   (k11 : Int → Int → Int → Int → Int → am_M → Option (Int × am_M)) (x2 : Int) (x3 : Int) (x4 : Int) (x6 : Int) (s0 : Int) (M : am_M) : Option (Int × am_M) := (Law_reckon_5_423   k11 (x2) (x3) (x4) (s0) (x6) M)
def Law_reckon_5_172   (k11 : Int → Int → Int → Int → Int → am_M → Option (Int × am_M)) (x2 : Int) (x3 : Int) (x4 : Int) (x5 : Int) (x6 : Int) (x8 : Int) (M : am_M) : Option (Int × am_M) := c_le (x8) (x5)
       ((Law_reckon_5_186   k11 (x2) (x3) (x4) (x6) (x5) M))
       ((Law_reckon_5_186   k11 (x2) (x3) (x4) (x6) (x8) M))
def Law_reckon_5_421   (k11 : Int → Int → Int → Int → Int → am_M → Option (Int × am_M)) (x2 : Int) (x3 : Int) (x5 : Int) (x6 : Int) (s0 : Int) (M : am_M) : Option (Int × am_M) := (Law_reckon_5_423   k11 (x2) (x3) (s0) (x5) (x6) M)
def Law_reckon_5_409   (k11 : Int → Int → Int → Int → Int → am_M → Option (Int × am_M)) (x2 : Int) (x3 : Int) (x5 : Int) (x6 : Int) (s0 : Int) (M : am_M) : Option (Int × am_M) := c_eq (s0) (0)
       ((Law_reckon_5_421   k11 (x2) (x3) (x5) (x6) (0) M))
       ((Law_reckon_5_421   k11 (x2) (x3) (x5) (x6) (1) M))
def Law_reckon_5_217   (k11 : Int → Int → Int → Int → Int → am_M → Option (Int × am_M)) (x2 : Int) (x3 : Int) (x4 : Int) (x5 : Int) (x6 : Int) (x7 : Int) (M : am_M) : Option (Int × am_M) := rd M 13 40 ((x3) + (-1)) fun v1 => ck (am_R (x7)) ((if (x7) = (3) then
       ((Law_reckon_5_423   k11 (x2) ((x3) + (-1)) (v1) (x5) (x6) M)) else
       (if (x7) = (4) then
       ((Law_reckon_5_423   k11 (x2) ((x3) + (-1)) (v1) (x5) (x6) M)) else
       (if (x7) = (37) then
       (ck (am_R (v1) ∧ am_R (x4) ∧ ((x4) : Int) ≠ 0) (tw (Int.tmod (v1) (x4)) fun v2 => (Law_reckon_5_423   k11 (x2) ((x3) + (-1)) (v2) (x5) (x6) M))) else
       (if (x7) = (42) then
       ((Law_reckon_5_423   k11 (x2) ((x3) + (-1)) (am_nm ((v1) * (x4))) (x5) (x6) M)) else
       (if (x7) = (43) then
       ((Law_reckon_5_423   k11 (x2) ((x3) + (-1)) (am_nm ((v1) + (x4))) (x5) (x6) M)) else
       (if (x7) = (45) then
       ((Law_reckon_5_423   k11 (x2) ((x3) + (-1)) (am_nm ((v1) - (x4))) (x5) (x6) M)) else
       (if (x7) = (47) then
       (ck (am_R (v1) ∧ am_R (x4) ∧ ((x4) : Int) ≠ 0) (tw (am_nm (Int.tdiv (v1) (x4))) fun v3 => (Law_reckon_5_423   k11 (x2) ((x3) + (-1)) (v3) (x5) (x6) M))) else
       (c_ne (x7) (60)
       (c_ne (x7) (62)
       (c_ne (v1) (x4)
       ((Law_reckon_5_409   k11 (x2) ((x3) + (-1)) (x5) (x6) (0) M))
       ((Law_reckon_5_409   k11 (x2) ((x3) + (-1)) (x5) (x6) (1) M)))
       (c_le (v1) (x4)
       ((Law_reckon_5_409   k11 (x2) ((x3) + (-1)) (x5) (x6) (0) M))
       ((Law_reckon_5_409   k11 (x2) ((x3) + (-1)) (x5) (x6) (1) M))))
       (c_ge (v1) (x4)
       ((Law_reckon_5_409   k11 (x2) ((x3) + (-1)) (x5) (x6) (0) M))
       ((Law_reckon_5_409   k11 (x2) ((x3) + (-1)) (x5) (x6) (1) M))))))))))))
def Law_reckon_5_215     (M : am_M) : Option (Int × am_M) := some (0, M)
def Law_reckon_5_191   (k11 : Int → Int → Int → Int → Int → am_M → Option (Int × am_M)) (x2 : Int) (x3 : Int) (x4 : Int) (x5 : Int) (x6 : Int) (x7 : Int) (M : am_M) : Option (Int × am_M) := c_lt (x3) (1)
       (Law_reckon_5_215     M)
       (c_ne (x4) (0)
       (Law_reckon_5_217   k11 (x2) (x3) (x4) (x5) (x6) (x7) M)
       (c_eq (x7) (47)
       (Law_reckon_5_215     M)
       (c_ne (x7) (37)
       (Law_reckon_5_217   k11 (x2) (x3) (x4) (x5) (x6) (x7) M)
       (Law_reckon_5_215     M))))
def Law_reckon_5_161   (k11 : Int → Int → Int → Int → Int → am_M → Option (Int × am_M)) (x2 : Int) (x3 : Int) (x4 : Int) (x5 : Int) (x6 : Int) (x7 : Int) (x8 : Int) (M : am_M) : Option (Int × am_M) := c_ne (x7) (4)
       (Law_reckon_5_191   k11 (x2) (x3) (x4) (x5) (x6) (x7) M)
       (c_ne (x4) (0)
       (Law_reckon_5_191   k11 (x2) (x3) (x4) (x5) (x6) (x7) M)
       (Law_reckon_5_172   k11 (x2) (x3) (x4) (x5) (x6) (x8) M))
def Law_reckon_5_124   (k11 : Int → Int → Int → Int → Int → am_M → Option (Int × am_M)) (x2 : Int) (x3 : Int) (x5 : Int) (x6 : Int) (s0 : Int) (M : am_M) : Option (Int × am_M) := (Law_reckon_5_423   k11 (x2) (x3) (s0) (x5) (x6) M)
def Law_reckon_5_96   (k11 : Int → Int → Int → Int → Int → am_M → Option (Int × am_M)) (x2 : Int) (x3 : Int) (x4 : Int) (x5 : Int) (x6 : Int) (x7 : Int) (x8 : Int) (M : am_M) : Option (Int × am_M) := wa M 13 40 (x3) (x4) fun M1 => c_ne (x7) (0)
       (rd M1 12 7 (x8) fun v2 => (Law_reckon_5_124   k11 (x2) ((x3) + (1)) (x5) (x6) (v2) M1))
       ((Law_reckon_5_124   k11 (x2) ((x3) + (1)) (x5) (x6) (x8) M1))
def Law_reckon_5_94     (M : am_M) : Option (Int × am_M) := some (0, M)
def Law_reckon_5_70   (k11 : Int → Int → Int → Int → Int → am_M → Option (Int × am_M)) (x2 : Int) (x3 : Int) (x4 : Int) (x5 : Int) (x6 : Int) (x7 : Int) (x8 : Int) (M : am_M) : Option (Int × am_M) := c_ge (x3) (40)
       (Law_reckon_5_94     M)
       (c_lt (x8) (0)
       (Law_reckon_5_94     M)
       (c_ne (x7) (1)
       (Law_reckon_5_96   k11 (x2) (x3) (x4) (x5) (x6) (x7) (x8) M)
       (c_lt (x8) (7)
       (Law_reckon_5_96   k11 (x2) (x3) (x4) (x5) (x6) (x7) (x8) M)
       (Law_reckon_5_94     M))))
def Law_reckon_5_429    (x4 : Int) (M : am_M) : Option (Int × am_M) := some (x4, M)
def Law_reckon_5_145   (k11 : Int → Int → Int → Int → Int → am_M → Option (Int × am_M)) (x2 : Int) (x3 : Int) (x5 : Int) (x6 : Int) (s0 : Int) (M : am_M) : Option (Int × am_M) := (Law_reckon_5_423   k11 (x2) (x3) (s0) (x5) (x6) M)
def Law_reckon_5_11    : Nat → Int → Int → Int → Int → Int → am_M → Option (Int × am_M)
  | 0, _, _, _, _, _, _ => none
  | n + 1, x2, x3, x4, x5, x6, M => c_ge (x6) (240)
       (Law_reckon_5_429    (x4) M)
       (c_lt (x5) (0)
       (Law_reckon_5_429    (x4) M)
       (c_ge (x5) (x2)
       (Law_reckon_5_429    (x4) M)
       (c_ge (x5) (240)
       (Law_reckon_5_429    (x4) M)
       (rd M 6 240 (x5) fun v1 => rd M 7 240 (x5) fun v2 => c_eq (v1) (0)
       (Law_reckon_5_70   (Law_reckon_5_11    n) (x2) (x3) (x4) ((x5) + (1)) (x6) (v1) (v2) M)
       (c_ne (v1) (1)
       (c_ne (v1) (2)
       (c_ne (v1) (3)
       (Law_reckon_5_161   (Law_reckon_5_11    n) (x2) (x3) (x4) ((x5) + (1)) (x6) (v1) (v2) M)
       (c_ne (x4) (0)
       (Law_reckon_5_172   (Law_reckon_5_11    n) (x2) (x3) (x4) ((x5) + (1)) (x6) (v2) M)
       (Law_reckon_5_161   (Law_reckon_5_11    n) (x2) (x3) (x4) ((x5) + (1)) (x6) (v1) (v2) M)))
       (c_ne (x4) (0)
       ((Law_reckon_5_145   (Law_reckon_5_11    n) (x2) (x3) ((x5) + (1)) (x6) (0) M))
       ((Law_reckon_5_145   (Law_reckon_5_11    n) (x2) (x3) ((x5) + (1)) (x6) (1) M))))
       (Law_reckon_5_70   (Law_reckon_5_11    n) (x2) (x3) (x4) ((x5) + (1)) (x6) (v1) (v2) M))))))
def Law_reckon_5    (x1 : Int) (x2 : Int) (M : am_M) : Option (Int × am_M) := (Law_reckon_5_11    am_big (x2) (0) (0) (x1) (0) M)
theorem Law_reckon_5_423_t {L : Nat} {xs : Nat → Int} {d : Nat} (hd : 0 ≤ d)   (k11 : Int → Int → Int → Int → Int → am_M → Option (Int × am_M)) (hk11 : ∀ (x2 : Int) (x3 : Int) (x4 : Int) (x5 : Int) (x6 : Int) (M : am_M) (r : Int × am_M), k11 x2 x3 x4 x5 x6 M = some r → am_Ev L xs d me_86 11 [(0, .inr (.inr (some 5))), (2, .inl (x2)), (3, .inl (x3)), (4, .inl (x4)), (5, .inl (x5)), (6, .inl (x6))] [] 126 138 M (some (.inl r.1), 126, 138, r.2)) (x2 : Int) (x3 : Int) (x4 : Int) (x5 : Int) (x6 : Int) (M : am_M) (r : Int × am_M) (h : Law_reckon_5_423   k11 x2 x3 x4 x5 x6 M = some r) : am_Ev L xs d me_86 423 [(0, .inr (.inr (some 5))), (2, .inl (x2)), (3, .inl (x3)), (4, .inl (x4)), (5, .inl (x5)), (6, .inl (x6))] [] 126 138 M (some (.inl r.1), 126, 138, r.2) := by
  refine ev_k (pc' := 11) (ls' := [(0, .inr (.inr (some 5))), (2, .inl (x2)), (3, .inl (x3)), (4, .inl (x4)), (5, .inl (x5)), (6, .inl ((x6) + (1)))]) (st' := []) (nc' := 126) (np' := 138) (M' := M) 2 rfl ?_
  exact hk11 (x2) (x3) (x4) (x5) ((x6) + (1)) M r h
theorem Law_reckon_5_186_t {L : Nat} {xs : Nat → Int} {d : Nat} (hd : 0 ≤ d)   (k11 : Int → Int → Int → Int → Int → am_M → Option (Int × am_M)) (hk11 : ∀ (x2 : Int) (x3 : Int) (x4 : Int) (x5 : Int) (x6 : Int) (M : am_M) (r : Int × am_M), k11 x2 x3 x4 x5 x6 M = some r → am_Ev L xs d me_86 11 [(0, .inr (.inr (some 5))), (2, .inl (x2)), (3, .inl (x3)), (4, .inl (x4)), (5, .inl (x5)), (6, .inl (x6))] [] 126 138 M (some (.inl r.1), 126, 138, r.2)) (x2 : Int) (x3 : Int) (x4 : Int) (x6 : Int) (s0 : Int) (M : am_M) (r : Int × am_M) (h : Law_reckon_5_186   k11 x2 x3 x4 x6 s0 M = some r) : am_Ev L xs d me_86 186 [(0, .inr (.inr (some 5))), (2, .inl (x2)), (3, .inl (x3)), (4, .inl (x4)), (6, .inl (x6))] [.inl (s0)] 126 138 M (some (.inl r.1), 126, 138, r.2) := by
  refine ev_k (pc' := 423) (ls' := [(0, .inr (.inr (some 5))), (2, .inl (x2)), (3, .inl (x3)), (4, .inl (x4)), (5, .inl (s0)), (6, .inl (x6))]) (st' := []) (nc' := 126) (np' := 138) (M' := M) 2 rfl ?_
  exact Law_reckon_5_423_t hd   k11 hk11 (x2) (x3) (x4) (s0) (x6) M r h
theorem Law_reckon_5_172_t {L : Nat} {xs : Nat → Int} {d : Nat} (hd : 0 ≤ d)   (k11 : Int → Int → Int → Int → Int → am_M → Option (Int × am_M)) (hk11 : ∀ (x2 : Int) (x3 : Int) (x4 : Int) (x5 : Int) (x6 : Int) (M : am_M) (r : Int × am_M), k11 x2 x3 x4 x5 x6 M = some r → am_Ev L xs d me_86 11 [(0, .inr (.inr (some 5))), (2, .inl (x2)), (3, .inl (x3)), (4, .inl (x4)), (5, .inl (x5)), (6, .inl (x6))] [] 126 138 M (some (.inl r.1), 126, 138, r.2)) (x2 : Int) (x3 : Int) (x4 : Int) (x5 : Int) (x6 : Int) (x8 : Int) (M : am_M) (r : Int × am_M) (h : Law_reckon_5_172   k11 x2 x3 x4 x5 x6 x8 M = some r) : am_Ev L xs d me_86 172 [(0, .inr (.inr (some 5))), (2, .inl (x2)), (3, .inl (x3)), (4, .inl (x4)), (5, .inl (x5)), (6, .inl (x6)), (8, .inl (x8))] [] 126 138 M (some (.inl r.1), 126, 138, r.2) := by
  refine ev_k (pc' := 176) (ls' := [(0, .inr (.inr (some 5))), (2, .inl (x2)), (3, .inl (x3)), (4, .inl (x4)), (5, .inl (x5)), (6, .inl (x6)), (8, .inl (x8))]) (st' := [.inl (x5), .inl (x8)]) (nc' := 126) (np' := 138) (M' := M) 2 rfl ?_
  obtain ⟨hR, ⟨hc, h⟩ | ⟨hc, h⟩⟩ := c_le_i h
  · refine ev_icmp 184 rfl hR.1 hR.2 (by decide) (fun _ => ?_) (fun q => absurd hc q)
    refine ev_k (pc' := 186) (ls' := [(0, .inr (.inr (some 5))), (2, .inl (x2)), (3, .inl (x3)), (4, .inl (x4)), (6, .inl (x6))]) (st' := [.inl (x5)]) (nc' := 126) (np' := 138) (M' := M) 1 rfl ?_
    exact Law_reckon_5_186_t hd   k11 hk11 (x2) (x3) (x4) (x6) (x5) M r h
  · refine ev_icmp 184 rfl hR.1 hR.2 (by decide) (fun q => absurd q hc) (fun _ => ?_)
    refine ev_k (pc' := 186) (ls' := [(0, .inr (.inr (some 5))), (2, .inl (x2)), (3, .inl (x3)), (4, .inl (x4)), (6, .inl (x6))]) (st' := [.inl (x8)]) (nc' := 126) (np' := 138) (M' := M) 2 rfl ?_
    exact Law_reckon_5_186_t hd   k11 hk11 (x2) (x3) (x4) (x6) (x8) M r h
theorem Law_reckon_5_421_t {L : Nat} {xs : Nat → Int} {d : Nat} (hd : 0 ≤ d)   (k11 : Int → Int → Int → Int → Int → am_M → Option (Int × am_M)) (hk11 : ∀ (x2 : Int) (x3 : Int) (x4 : Int) (x5 : Int) (x6 : Int) (M : am_M) (r : Int × am_M), k11 x2 x3 x4 x5 x6 M = some r → am_Ev L xs d me_86 11 [(0, .inr (.inr (some 5))), (2, .inl (x2)), (3, .inl (x3)), (4, .inl (x4)), (5, .inl (x5)), (6, .inl (x6))] [] 126 138 M (some (.inl r.1), 126, 138, r.2)) (x2 : Int) (x3 : Int) (x5 : Int) (x6 : Int) (s0 : Int) (M : am_M) (r : Int × am_M) (h : Law_reckon_5_421   k11 x2 x3 x5 x6 s0 M = some r) : am_Ev L xs d me_86 421 [(0, .inr (.inr (some 5))), (2, .inl (x2)), (3, .inl (x3)), (5, .inl (x5)), (6, .inl (x6))] [.inl (s0)] 126 138 M (some (.inl r.1), 126, 138, r.2) := by
  refine ev_k (pc' := 423) (ls' := [(0, .inr (.inr (some 5))), (2, .inl (x2)), (3, .inl (x3)), (4, .inl (s0)), (5, .inl (x5)), (6, .inl (x6))]) (st' := []) (nc' := 126) (np' := 138) (M' := M) 1 rfl ?_
  exact Law_reckon_5_423_t hd   k11 hk11 (x2) (x3) (s0) (x5) (x6) M r h
theorem Law_reckon_5_409_t {L : Nat} {xs : Nat → Int} {d : Nat} (hd : 0 ≤ d)   (k11 : Int → Int → Int → Int → Int → am_M → Option (Int × am_M)) (hk11 : ∀ (x2 : Int) (x3 : Int) (x4 : Int) (x5 : Int) (x6 : Int) (M : am_M) (r : Int × am_M), k11 x2 x3 x4 x5 x6 M = some r → am_Ev L xs d me_86 11 [(0, .inr (.inr (some 5))), (2, .inl (x2)), (3, .inl (x3)), (4, .inl (x4)), (5, .inl (x5)), (6, .inl (x6))] [] 126 138 M (some (.inl r.1), 126, 138, r.2)) (x2 : Int) (x3 : Int) (x5 : Int) (x6 : Int) (s0 : Int) (M : am_M) (r : Int × am_M) (h : Law_reckon_5_409   k11 x2 x3 x5 x6 s0 M = some r) : am_Ev L xs d me_86 409 [(0, .inr (.inr (some 5))), (2, .inl (x2)), (3, .inl (x3)), (5, .inl (x5)), (6, .inl (x6))] [.inl (s0)] 126 138 M (some (.inl r.1), 126, 138, r.2) := by
  refine ev_k (pc' := 413) (ls' := [(10, .inl (s0)), (0, .inr (.inr (some 5))), (2, .inl (x2)), (3, .inl (x3)), (5, .inl (x5)), (6, .inl (x6))]) (st' := [.inl (s0)]) (nc' := 126) (np' := 138) (M' := M) 2 rfl ?_
  obtain ⟨hR, ⟨hc, h⟩ | ⟨hc, h⟩⟩ := c_eq_i h
  · refine ev_ifc 420 rfl hR.1 (by decide) (fun _ => ?_) (fun q => absurd hc q)
    refine ev_k (pc' := 421) (ls' := [(0, .inr (.inr (some 5))), (2, .inl (x2)), (3, .inl (x3)), (5, .inl (x5)), (6, .inl (x6))]) (st' := [.inl (0)]) (nc' := 126) (np' := 138) (M' := M) 1 rfl ?_
    exact Law_reckon_5_421_t hd   k11 hk11 (x2) (x3) (x5) (x6) (0) M r h
  · refine ev_ifc 420 rfl hR.1 (by decide) (fun q => absurd q hc) (fun _ => ?_)
    refine ev_k (pc' := 421) (ls' := [(0, .inr (.inr (some 5))), (2, .inl (x2)), (3, .inl (x3)), (5, .inl (x5)), (6, .inl (x6))]) (st' := [.inl (1)]) (nc' := 126) (np' := 138) (M' := M) 2 rfl ?_
    exact Law_reckon_5_421_t hd   k11 hk11 (x2) (x3) (x5) (x6) (1) M r h
theorem Law_reckon_5_217_t {L : Nat} {xs : Nat → Int} {d : Nat} (hd : 0 ≤ d)   (k11 : Int → Int → Int → Int → Int → am_M → Option (Int × am_M)) (hk11 : ∀ (x2 : Int) (x3 : Int) (x4 : Int) (x5 : Int) (x6 : Int) (M : am_M) (r : Int × am_M), k11 x2 x3 x4 x5 x6 M = some r → am_Ev L xs d me_86 11 [(0, .inr (.inr (some 5))), (2, .inl (x2)), (3, .inl (x3)), (4, .inl (x4)), (5, .inl (x5)), (6, .inl (x6))] [] 126 138 M (some (.inl r.1), 126, 138, r.2)) (x2 : Int) (x3 : Int) (x4 : Int) (x5 : Int) (x6 : Int) (x7 : Int) (M : am_M) (r : Int × am_M) (h : Law_reckon_5_217   k11 x2 x3 x4 x5 x6 x7 M = some r) : am_Ev L xs d me_86 217 [(0, .inr (.inr (some 5))), (2, .inl (x2)), (3, .inl (x3)), (4, .inl (x4)), (5, .inl (x5)), (6, .inl (x6)), (7, .inl (x7))] [] 126 138 M (some (.inl r.1), 126, 138, r.2) := by
  refine ev_k (pc' := 225) (ls' := [(3, .inl ((x3) + (-1))), (0, .inr (.inr (some 5))), (2, .inl (x2)), (4, .inl (x4)), (5, .inl (x5)), (6, .inl (x6)), (7, .inl (x7))]) (st' := [.inl ((x3) + (-1)), .inr (.inr (some 13))]) (nc' := 126) (np' := 138) (M' := M) 4 rfl ?_
  obtain ⟨hc, v1, ev, h⟩ := rd_i h
  refine ev_ald (k := 13) (t := 0) (Or.inl ⟨rfl, rfl⟩) rfl (by decide) (by decide) rfl hc ev ?_
  refine ev_k (pc' := 230) (ls' := [(9, .inl (v1)), (3, .inl ((x3) + (-1))), (0, .inr (.inr (some 5))), (2, .inl (x2)), (4, .inl (x4)), (5, .inl (x5)), (6, .inl (x6)), (7, .inl (x7))]) (st' := [.inl (x7)]) (nc' := 126) (np' := 138) (M' := M) 2 rfl ?_
  obtain ⟨hR, h⟩ := ck_i h
  rcases if_i h with ⟨hq, h⟩ | ⟨hq0, h⟩
  · refine ev_lsw 346 rfl hR rfl (116) (by rw [hq]; rfl) (by decide) ?_
    refine ev_k (pc' := 423) (ls' := [(0, .inr (.inr (some 5))), (2, .inl (x2)), (3, .inl ((x3) + (-1))), (4, .inl (v1)), (5, .inl (x5)), (6, .inl (x6))]) (st' := []) (nc' := 126) (np' := 138) (M' := M) 3 rfl ?_
    exact Law_reckon_5_423_t hd   k11 hk11 (x2) ((x3) + (-1)) (v1) (x5) (x6) M r h
  · skip
    rcases if_i h with ⟨hq, h⟩ | ⟨hq1, h⟩
    · refine ev_lsw 346 rfl hR rfl (116) (by rw [hq]; rfl) (by decide) ?_
      refine ev_k (pc' := 423) (ls' := [(0, .inr (.inr (some 5))), (2, .inl (x2)), (3, .inl ((x3) + (-1))), (4, .inl (v1)), (5, .inl (x5)), (6, .inl (x6))]) (st' := []) (nc' := 126) (np' := 138) (M' := M) 3 rfl ?_
      exact Law_reckon_5_423_t hd   k11 hk11 (x2) ((x3) + (-1)) (v1) (x5) (x6) M r h
    · skip
      rcases if_i h with ⟨hq, h⟩ | ⟨hq2, h⟩
      · refine ev_lsw 336 rfl hR rfl (106) (by rw [hq]; rfl) (by decide) ?_
        refine ev_k (pc' := 340) (ls' := [(9, .inl (v1)), (3, .inl ((x3) + (-1))), (0, .inr (.inr (some 5))), (2, .inl (x2)), (4, .inl (x4)), (5, .inl (x5)), (6, .inl (x6)), (7, .inl (x7))]) (st' := [.inl (x4), .inl (v1)]) (nc' := 126) (np' := 138) (M' := M) 2 rfl ?_
        obtain ⟨hc, h⟩ := ck_i h
        obtain ⟨v2, ev, h⟩ := tw_i h
        refine ev_irem rfl hc ?_
        refine ev_k (pc' := 341) (ls' := [(9, .inl (v1)), (3, .inl ((x3) + (-1))), (0, .inr (.inr (some 5))), (2, .inl (x2)), (4, .inl (x4)), (5, .inl (x5)), (6, .inl (x6)), (7, .inl (x7))]) (st' := [.inl (Int.tmod (v1) (x4))]) (nc' := 126) (np' := 138) (M' := M) 0 rfl ?_
        rw [← ev]
        refine ev_k (pc' := 423) (ls' := [(0, .inr (.inr (some 5))), (2, .inl (x2)), (3, .inl ((x3) + (-1))), (4, .inl (v2)), (5, .inl (x5)), (6, .inl (x6))]) (st' := []) (nc' := 126) (np' := 138) (M' := M) 2 rfl ?_
        exact Law_reckon_5_423_t hd   k11 hk11 (x2) ((x3) + (-1)) (v2) (x5) (x6) M r h
      · skip
        rcases if_i h with ⟨hq, h⟩ | ⟨hq3, h⟩
        · refine ev_lsw 316 rfl hR rfl (86) (by rw [hq]; rfl) (by decide) ?_
          refine ev_k (pc' := 423) (ls' := [(0, .inr (.inr (some 5))), (2, .inl (x2)), (3, .inl ((x3) + (-1))), (4, .inl (am_nm ((v1) * (x4)))), (5, .inl (x5)), (6, .inl (x6))]) (st' := []) (nc' := 126) (np' := 138) (M' := M) 5 rfl ?_
          exact Law_reckon_5_423_t hd   k11 hk11 (x2) ((x3) + (-1)) (am_nm ((v1) * (x4))) (x5) (x6) M r h
        · skip
          rcases if_i h with ⟨hq, h⟩ | ⟨hq4, h⟩
          · refine ev_lsw 296 rfl hR rfl (66) (by rw [hq]; rfl) (by decide) ?_
            refine ev_k (pc' := 423) (ls' := [(0, .inr (.inr (some 5))), (2, .inl (x2)), (3, .inl ((x3) + (-1))), (4, .inl (am_nm ((v1) + (x4)))), (5, .inl (x5)), (6, .inl (x6))]) (st' := []) (nc' := 126) (np' := 138) (M' := M) 5 rfl ?_
            exact Law_reckon_5_423_t hd   k11 hk11 (x2) ((x3) + (-1)) (am_nm ((v1) + (x4))) (x5) (x6) M r h
          · skip
            rcases if_i h with ⟨hq, h⟩ | ⟨hq5, h⟩
            · refine ev_lsw 306 rfl hR rfl (76) (by rw [hq]; rfl) (by decide) ?_
              refine ev_k (pc' := 423) (ls' := [(0, .inr (.inr (some 5))), (2, .inl (x2)), (3, .inl ((x3) + (-1))), (4, .inl (am_nm ((v1) - (x4)))), (5, .inl (x5)), (6, .inl (x6))]) (st' := []) (nc' := 126) (np' := 138) (M' := M) 5 rfl ?_
              exact Law_reckon_5_423_t hd   k11 hk11 (x2) ((x3) + (-1)) (am_nm ((v1) - (x4))) (x5) (x6) M r h
            · skip
              rcases if_i h with ⟨hq, h⟩ | ⟨hq6, h⟩
              · refine ev_lsw 326 rfl hR rfl (96) (by rw [hq]; rfl) (by decide) ?_
                refine ev_k (pc' := 330) (ls' := [(9, .inl (v1)), (3, .inl ((x3) + (-1))), (0, .inr (.inr (some 5))), (2, .inl (x2)), (4, .inl (x4)), (5, .inl (x5)), (6, .inl (x6)), (7, .inl (x7))]) (st' := [.inl (x4), .inl (v1)]) (nc' := 126) (np' := 138) (M' := M) 2 rfl ?_
                obtain ⟨hc, h⟩ := ck_i h
                obtain ⟨v3, ev, h⟩ := tw_i h
                refine ev_idiv rfl hc ?_
                refine ev_k (pc' := 331) (ls' := [(9, .inl (v1)), (3, .inl ((x3) + (-1))), (0, .inr (.inr (some 5))), (2, .inl (x2)), (4, .inl (x4)), (5, .inl (x5)), (6, .inl (x6)), (7, .inl (x7))]) (st' := [.inl (am_nm (Int.tdiv (v1) (x4)))]) (nc' := 126) (np' := 138) (M' := M) 0 rfl ?_
                rw [← ev]
                refine ev_k (pc' := 423) (ls' := [(0, .inr (.inr (some 5))), (2, .inl (x2)), (3, .inl ((x3) + (-1))), (4, .inl (v3)), (5, .inl (x5)), (6, .inl (x6))]) (st' := []) (nc' := 126) (np' := 138) (M' := M) 2 rfl ?_
                exact Law_reckon_5_423_t hd   k11 hk11 (x2) ((x3) + (-1)) (v3) (x5) (x6) M r h
              · skip
                refine ev_lsw 353 rfl hR rfl (123) ?_ (by decide) ?_
                · exact am_lsd _ _ _ (by simp only [List.forall_mem_cons, List.not_mem_nil]; exact ⟨hq0, hq1, hq2, hq3, hq4, hq5, hq6, by simp⟩)
                · skip
                  refine ev_k (pc' := 357) (ls' := [(9, .inl (v1)), (3, .inl ((x3) + (-1))), (0, .inr (.inr (some 5))), (2, .inl (x2)), (4, .inl (x4)), (5, .inl (x5)), (6, .inl (x6)), (7, .inl (x7))]) (st' := [.inl (60), .inl (x7)]) (nc' := 126) (np' := 138) (M' := M) 2 rfl ?_
                  obtain ⟨hR, ⟨hc, h⟩ | ⟨hc, h⟩⟩ := c_ne_i h
                  · refine ev_icmp 375 rfl hR.1 hR.2 (by decide) (fun _ => ?_) (fun q => absurd hc q)
                    refine ev_k (pc' := 379) (ls' := [(9, .inl (v1)), (3, .inl ((x3) + (-1))), (0, .inr (.inr (some 5))), (2, .inl (x2)), (4, .inl (x4)), (5, .inl (x5)), (6, .inl (x6)), (7, .inl (x7))]) (st' := [.inl (62), .inl (x7)]) (nc' := 126) (np' := 138) (M' := M) 2 rfl ?_
                    obtain ⟨hR, ⟨hc, h⟩ | ⟨hc, h⟩⟩ := c_ne_i h
                    · refine ev_icmp 397 rfl hR.1 hR.2 (by decide) (fun _ => ?_) (fun q => absurd hc q)
                      refine ev_k (pc' := 401) (ls' := [(9, .inl (v1)), (3, .inl ((x3) + (-1))), (0, .inr (.inr (some 5))), (2, .inl (x2)), (4, .inl (x4)), (5, .inl (x5)), (6, .inl (x6)), (7, .inl (x7))]) (st' := [.inl (x4), .inl (v1)]) (nc' := 126) (np' := 138) (M' := M) 2 rfl ?_
                      obtain ⟨hR, ⟨hc, h⟩ | ⟨hc, h⟩⟩ := c_ne_i h
                      · refine ev_icmp 408 rfl hR.1 hR.2 (by decide) (fun _ => ?_) (fun q => absurd hc q)
                        refine ev_k (pc' := 409) (ls' := [(0, .inr (.inr (some 5))), (2, .inl (x2)), (3, .inl ((x3) + (-1))), (5, .inl (x5)), (6, .inl (x6))]) (st' := [.inl (0)]) (nc' := 126) (np' := 138) (M' := M) 1 rfl ?_
                        exact Law_reckon_5_409_t hd   k11 hk11 (x2) ((x3) + (-1)) (x5) (x6) (0) M r h
                      · refine ev_icmp 408 rfl hR.1 hR.2 (by decide) (fun q => absurd q hc) (fun _ => ?_)
                        refine ev_k (pc' := 409) (ls' := [(0, .inr (.inr (some 5))), (2, .inl (x2)), (3, .inl ((x3) + (-1))), (5, .inl (x5)), (6, .inl (x6))]) (st' := [.inl (1)]) (nc' := 126) (np' := 138) (M' := M) 2 rfl ?_
                        exact Law_reckon_5_409_t hd   k11 hk11 (x2) ((x3) + (-1)) (x5) (x6) (1) M r h
                    · refine ev_icmp 397 rfl hR.1 hR.2 (by decide) (fun q => absurd q hc) (fun _ => ?_)
                      refine ev_k (pc' := 386) (ls' := [(9, .inl (v1)), (3, .inl ((x3) + (-1))), (0, .inr (.inr (some 5))), (2, .inl (x2)), (4, .inl (x4)), (5, .inl (x5)), (6, .inl (x6)), (7, .inl (x7))]) (st' := [.inl (x4), .inl (v1)]) (nc' := 126) (np' := 138) (M' := M) 2 rfl ?_
                      obtain ⟨hR, ⟨hc, h⟩ | ⟨hc, h⟩⟩ := c_le_i h
                      · refine ev_icmp 393 rfl hR.1 hR.2 (by decide) (fun _ => ?_) (fun q => absurd hc q)
                        refine ev_k (pc' := 409) (ls' := [(0, .inr (.inr (some 5))), (2, .inl (x2)), (3, .inl ((x3) + (-1))), (5, .inl (x5)), (6, .inl (x6))]) (st' := [.inl (0)]) (nc' := 126) (np' := 138) (M' := M) 2 rfl ?_
                        exact Law_reckon_5_409_t hd   k11 hk11 (x2) ((x3) + (-1)) (x5) (x6) (0) M r h
                      · refine ev_icmp 393 rfl hR.1 hR.2 (by decide) (fun q => absurd q hc) (fun _ => ?_)
                        refine ev_k (pc' := 409) (ls' := [(0, .inr (.inr (some 5))), (2, .inl (x2)), (3, .inl ((x3) + (-1))), (5, .inl (x5)), (6, .inl (x6))]) (st' := [.inl (1)]) (nc' := 126) (np' := 138) (M' := M) 2 rfl ?_
                        exact Law_reckon_5_409_t hd   k11 hk11 (x2) ((x3) + (-1)) (x5) (x6) (1) M r h
                  · refine ev_icmp 375 rfl hR.1 hR.2 (by decide) (fun q => absurd q hc) (fun _ => ?_)
                    refine ev_k (pc' := 364) (ls' := [(9, .inl (v1)), (3, .inl ((x3) + (-1))), (0, .inr (.inr (some 5))), (2, .inl (x2)), (4, .inl (x4)), (5, .inl (x5)), (6, .inl (x6)), (7, .inl (x7))]) (st' := [.inl (x4), .inl (v1)]) (nc' := 126) (np' := 138) (M' := M) 2 rfl ?_
                    obtain ⟨hR, ⟨hc, h⟩ | ⟨hc, h⟩⟩ := c_ge_i h
                    · refine ev_icmp 371 rfl hR.1 hR.2 (by decide) (fun _ => ?_) (fun q => absurd hc q)
                      refine ev_k (pc' := 409) (ls' := [(0, .inr (.inr (some 5))), (2, .inl (x2)), (3, .inl ((x3) + (-1))), (5, .inl (x5)), (6, .inl (x6))]) (st' := [.inl (0)]) (nc' := 126) (np' := 138) (M' := M) 2 rfl ?_
                      exact Law_reckon_5_409_t hd   k11 hk11 (x2) ((x3) + (-1)) (x5) (x6) (0) M r h
                    · refine ev_icmp 371 rfl hR.1 hR.2 (by decide) (fun q => absurd q hc) (fun _ => ?_)
                      refine ev_k (pc' := 409) (ls' := [(0, .inr (.inr (some 5))), (2, .inl (x2)), (3, .inl ((x3) + (-1))), (5, .inl (x5)), (6, .inl (x6))]) (st' := [.inl (1)]) (nc' := 126) (np' := 138) (M' := M) 2 rfl ?_
                      exact Law_reckon_5_409_t hd   k11 hk11 (x2) ((x3) + (-1)) (x5) (x6) (1) M r h
theorem Law_reckon_5_215_t {L : Nat} {xs : Nat → Int} {d : Nat} (hd : 0 ≤ d)      (M : am_M) (r : Int × am_M) (h : Law_reckon_5_215     M = some r) : am_Ev L xs d me_86 215 [] [] 126 138 M (some (.inl r.1), 126, 138, r.2) := by
  refine ev_k (pc' := 216) (ls' := []) (st' := [.inl (0)]) (nc' := 126) (np' := 138) (M' := M) 1 rfl ?_
  cases h
  exact ev_ret rfl
theorem Law_reckon_5_191_t {L : Nat} {xs : Nat → Int} {d : Nat} (hd : 0 ≤ d)   (k11 : Int → Int → Int → Int → Int → am_M → Option (Int × am_M)) (hk11 : ∀ (x2 : Int) (x3 : Int) (x4 : Int) (x5 : Int) (x6 : Int) (M : am_M) (r : Int × am_M), k11 x2 x3 x4 x5 x6 M = some r → am_Ev L xs d me_86 11 [(0, .inr (.inr (some 5))), (2, .inl (x2)), (3, .inl (x3)), (4, .inl (x4)), (5, .inl (x5)), (6, .inl (x6))] [] 126 138 M (some (.inl r.1), 126, 138, r.2)) (x2 : Int) (x3 : Int) (x4 : Int) (x5 : Int) (x6 : Int) (x7 : Int) (M : am_M) (r : Int × am_M) (h : Law_reckon_5_191   k11 x2 x3 x4 x5 x6 x7 M = some r) : am_Ev L xs d me_86 191 [(0, .inr (.inr (some 5))), (2, .inl (x2)), (3, .inl (x3)), (4, .inl (x4)), (5, .inl (x5)), (6, .inl (x6)), (7, .inl (x7))] [] 126 138 M (some (.inl r.1), 126, 138, r.2) := by
  refine ev_k (pc' := 193) (ls' := [(0, .inr (.inr (some 5))), (2, .inl (x2)), (3, .inl (x3)), (4, .inl (x4)), (5, .inl (x5)), (6, .inl (x6)), (7, .inl (x7))]) (st' := [.inl (1), .inl (x3)]) (nc' := 126) (np' := 138) (M' := M) 2 rfl ?_
  obtain ⟨hR, ⟨hc, h⟩ | ⟨hc, h⟩⟩ := c_lt_i h
  · refine ev_icmp 215 rfl hR.1 hR.2 (by decide) (fun _ => ?_) (fun q => absurd hc q)
    exact Law_reckon_5_215_t hd      M r h
  · refine ev_icmp 215 rfl hR.1 hR.2 (by decide) (fun q => absurd q hc) (fun _ => ?_)
    refine ev_k (pc' := 198) (ls' := [(0, .inr (.inr (some 5))), (2, .inl (x2)), (3, .inl (x3)), (4, .inl (x4)), (5, .inl (x5)), (6, .inl (x6)), (7, .inl (x7))]) (st' := [.inl (x4)]) (nc' := 126) (np' := 138) (M' := M) 1 rfl ?_
    obtain ⟨hR, ⟨hc, h⟩ | ⟨hc, h⟩⟩ := c_ne_i h
    · refine ev_ifc 217 rfl hR.1 (by decide) (fun _ => ?_) (fun q => absurd hc q)
      exact Law_reckon_5_217_t hd   k11 hk11 (x2) (x3) (x4) (x5) (x6) (x7) M r h
    · refine ev_ifc 217 rfl hR.1 (by decide) (fun q => absurd q hc) (fun _ => ?_)
      refine ev_k (pc' := 205) (ls' := [(0, .inr (.inr (some 5))), (2, .inl (x2)), (3, .inl (x3)), (4, .inl (x4)), (5, .inl (x5)), (6, .inl (x6)), (7, .inl (x7))]) (st' := [.inl (47), .inl (x7)]) (nc' := 126) (np' := 138) (M' := M) 2 rfl ?_
      obtain ⟨hR, ⟨hc, h⟩ | ⟨hc, h⟩⟩ := c_eq_i h
      · refine ev_icmp 215 rfl hR.1 hR.2 (by decide) (fun _ => ?_) (fun q => absurd hc q)
        exact Law_reckon_5_215_t hd      M r h
      · refine ev_icmp 215 rfl hR.1 hR.2 (by decide) (fun q => absurd q hc) (fun _ => ?_)
        refine ev_k (pc' := 212) (ls' := [(0, .inr (.inr (some 5))), (2, .inl (x2)), (3, .inl (x3)), (4, .inl (x4)), (5, .inl (x5)), (6, .inl (x6)), (7, .inl (x7))]) (st' := [.inl (37), .inl (x7)]) (nc' := 126) (np' := 138) (M' := M) 2 rfl ?_
        obtain ⟨hR, ⟨hc, h⟩ | ⟨hc, h⟩⟩ := c_ne_i h
        · refine ev_icmp 217 rfl hR.1 hR.2 (by decide) (fun _ => ?_) (fun q => absurd hc q)
          exact Law_reckon_5_217_t hd   k11 hk11 (x2) (x3) (x4) (x5) (x6) (x7) M r h
        · refine ev_icmp 217 rfl hR.1 hR.2 (by decide) (fun q => absurd q hc) (fun _ => ?_)
          exact Law_reckon_5_215_t hd      M r h
theorem Law_reckon_5_161_t {L : Nat} {xs : Nat → Int} {d : Nat} (hd : 0 ≤ d)   (k11 : Int → Int → Int → Int → Int → am_M → Option (Int × am_M)) (hk11 : ∀ (x2 : Int) (x3 : Int) (x4 : Int) (x5 : Int) (x6 : Int) (M : am_M) (r : Int × am_M), k11 x2 x3 x4 x5 x6 M = some r → am_Ev L xs d me_86 11 [(0, .inr (.inr (some 5))), (2, .inl (x2)), (3, .inl (x3)), (4, .inl (x4)), (5, .inl (x5)), (6, .inl (x6))] [] 126 138 M (some (.inl r.1), 126, 138, r.2)) (x2 : Int) (x3 : Int) (x4 : Int) (x5 : Int) (x6 : Int) (x7 : Int) (x8 : Int) (M : am_M) (r : Int × am_M) (h : Law_reckon_5_161   k11 x2 x3 x4 x5 x6 x7 x8 M = some r) : am_Ev L xs d me_86 161 [(0, .inr (.inr (some 5))), (2, .inl (x2)), (3, .inl (x3)), (4, .inl (x4)), (5, .inl (x5)), (6, .inl (x6)), (7, .inl (x7)), (8, .inl (x8))] [] 126 138 M (some (.inl r.1), 126, 138, r.2) := by
  refine ev_k (pc' := 164) (ls' := [(0, .inr (.inr (some 5))), (2, .inl (x2)), (3, .inl (x3)), (4, .inl (x4)), (5, .inl (x5)), (6, .inl (x6)), (7, .inl (x7)), (8, .inl (x8))]) (st' := [.inl (4), .inl (x7)]) (nc' := 126) (np' := 138) (M' := M) 2 rfl ?_
  obtain ⟨hR, ⟨hc, h⟩ | ⟨hc, h⟩⟩ := c_ne_i h
  · refine ev_icmp 191 rfl hR.1 hR.2 (by decide) (fun _ => ?_) (fun q => absurd hc q)
    exact Law_reckon_5_191_t hd   k11 hk11 (x2) (x3) (x4) (x5) (x6) (x7) M r h
  · refine ev_icmp 191 rfl hR.1 hR.2 (by decide) (fun q => absurd q hc) (fun _ => ?_)
    refine ev_k (pc' := 169) (ls' := [(0, .inr (.inr (some 5))), (2, .inl (x2)), (3, .inl (x3)), (4, .inl (x4)), (5, .inl (x5)), (6, .inl (x6)), (7, .inl (x7)), (8, .inl (x8))]) (st' := [.inl (x4)]) (nc' := 126) (np' := 138) (M' := M) 1 rfl ?_
    obtain ⟨hR, ⟨hc, h⟩ | ⟨hc, h⟩⟩ := c_ne_i h
    · refine ev_ifc 191 rfl hR.1 (by decide) (fun _ => ?_) (fun q => absurd hc q)
      exact Law_reckon_5_191_t hd   k11 hk11 (x2) (x3) (x4) (x5) (x6) (x7) M r h
    · refine ev_ifc 191 rfl hR.1 (by decide) (fun q => absurd q hc) (fun _ => ?_)
      exact Law_reckon_5_172_t hd   k11 hk11 (x2) (x3) (x4) (x5) (x6) (x8) M r h
theorem Law_reckon_5_124_t {L : Nat} {xs : Nat → Int} {d : Nat} (hd : 0 ≤ d)   (k11 : Int → Int → Int → Int → Int → am_M → Option (Int × am_M)) (hk11 : ∀ (x2 : Int) (x3 : Int) (x4 : Int) (x5 : Int) (x6 : Int) (M : am_M) (r : Int × am_M), k11 x2 x3 x4 x5 x6 M = some r → am_Ev L xs d me_86 11 [(0, .inr (.inr (some 5))), (2, .inl (x2)), (3, .inl (x3)), (4, .inl (x4)), (5, .inl (x5)), (6, .inl (x6))] [] 126 138 M (some (.inl r.1), 126, 138, r.2)) (x2 : Int) (x3 : Int) (x5 : Int) (x6 : Int) (s0 : Int) (M : am_M) (r : Int × am_M) (h : Law_reckon_5_124   k11 x2 x3 x5 x6 s0 M = some r) : am_Ev L xs d me_86 124 [(0, .inr (.inr (some 5))), (2, .inl (x2)), (3, .inl (x3)), (5, .inl (x5)), (6, .inl (x6))] [.inl (s0)] 126 138 M (some (.inl r.1), 126, 138, r.2) := by
  refine ev_k (pc' := 423) (ls' := [(0, .inr (.inr (some 5))), (2, .inl (x2)), (3, .inl (x3)), (4, .inl (s0)), (5, .inl (x5)), (6, .inl (x6))]) (st' := []) (nc' := 126) (np' := 138) (M' := M) 2 rfl ?_
  exact Law_reckon_5_423_t hd   k11 hk11 (x2) (x3) (s0) (x5) (x6) M r h
theorem Law_reckon_5_96_t {L : Nat} {xs : Nat → Int} {d : Nat} (hd : 0 ≤ d)   (k11 : Int → Int → Int → Int → Int → am_M → Option (Int × am_M)) (hk11 : ∀ (x2 : Int) (x3 : Int) (x4 : Int) (x5 : Int) (x6 : Int) (M : am_M) (r : Int × am_M), k11 x2 x3 x4 x5 x6 M = some r → am_Ev L xs d me_86 11 [(0, .inr (.inr (some 5))), (2, .inl (x2)), (3, .inl (x3)), (4, .inl (x4)), (5, .inl (x5)), (6, .inl (x6))] [] 126 138 M (some (.inl r.1), 126, 138, r.2)) (x2 : Int) (x3 : Int) (x4 : Int) (x5 : Int) (x6 : Int) (x7 : Int) (x8 : Int) (M : am_M) (r : Int × am_M) (h : Law_reckon_5_96   k11 x2 x3 x4 x5 x6 x7 x8 M = some r) : am_Ev L xs d me_86 96 [(0, .inr (.inr (some 5))), (2, .inl (x2)), (3, .inl (x3)), (4, .inl (x4)), (5, .inl (x5)), (6, .inl (x6)), (7, .inl (x7)), (8, .inl (x8))] [] 126 138 M (some (.inl r.1), 126, 138, r.2) := by
  refine ev_k (pc' := 103) (ls' := [(0, .inr (.inr (some 5))), (2, .inl (x2)), (3, .inl (x3)), (4, .inl (x4)), (5, .inl (x5)), (6, .inl (x6)), (7, .inl (x7)), (8, .inl (x8))]) (st' := [.inl (x4), .inl (x3), .inr (.inr (some 13))]) (nc' := 126) (np' := 138) (M' := M) 4 rfl ?_
  obtain ⟨hc, M1, eM, h⟩ := wa_i h
  refine ev_iast (k := 13) rfl (by decide) rfl hc eM ?_
  refine ev_k (pc' := 109) (ls' := [(3, .inl ((x3) + (1))), (0, .inr (.inr (some 5))), (2, .inl (x2)), (4, .inl (x4)), (5, .inl (x5)), (6, .inl (x6)), (7, .inl (x7)), (8, .inl (x8))]) (st' := [.inl (x7)]) (nc' := 126) (np' := 138) (M' := M1) 2 rfl ?_
  obtain ⟨hR, ⟨hc, h⟩ | ⟨hc, h⟩⟩ := c_ne_i h
  · refine ev_ifc 117 rfl hR.1 (by decide) (fun _ => ?_) (fun q => absurd hc q)
    refine ev_k (pc' := 123) (ls' := [(3, .inl ((x3) + (1))), (0, .inr (.inr (some 5))), (2, .inl (x2)), (4, .inl (x4)), (5, .inl (x5)), (6, .inl (x6)), (7, .inl (x7)), (8, .inl (x8))]) (st' := [.inl (x8), .inr (.inr (some 12))]) (nc' := 126) (np' := 138) (M' := M1) 3 rfl ?_
    obtain ⟨hc, v2, ev, h⟩ := rd_i h
    refine ev_ald (k := 12) (t := 0) (Or.inl ⟨rfl, rfl⟩) rfl (by decide) (by decide) rfl hc ev ?_
    exact Law_reckon_5_124_t hd   k11 hk11 (x2) ((x3) + (1)) (x5) (x6) (v2) M1 r h
  · refine ev_ifc 117 rfl hR.1 (by decide) (fun q => absurd q hc) (fun _ => ?_)
    refine ev_k (pc' := 124) (ls' := [(0, .inr (.inr (some 5))), (2, .inl (x2)), (3, .inl ((x3) + (1))), (5, .inl (x5)), (6, .inl (x6))]) (st' := [.inl (x8)]) (nc' := 126) (np' := 138) (M' := M1) 2 rfl ?_
    exact Law_reckon_5_124_t hd   k11 hk11 (x2) ((x3) + (1)) (x5) (x6) (x8) M1 r h
theorem Law_reckon_5_94_t {L : Nat} {xs : Nat → Int} {d : Nat} (hd : 0 ≤ d)      (M : am_M) (r : Int × am_M) (h : Law_reckon_5_94     M = some r) : am_Ev L xs d me_86 94 [] [] 126 138 M (some (.inl r.1), 126, 138, r.2) := by
  refine ev_k (pc' := 95) (ls' := []) (st' := [.inl (0)]) (nc' := 126) (np' := 138) (M' := M) 1 rfl ?_
  cases h
  exact ev_ret rfl
theorem Law_reckon_5_70_t {L : Nat} {xs : Nat → Int} {d : Nat} (hd : 0 ≤ d)   (k11 : Int → Int → Int → Int → Int → am_M → Option (Int × am_M)) (hk11 : ∀ (x2 : Int) (x3 : Int) (x4 : Int) (x5 : Int) (x6 : Int) (M : am_M) (r : Int × am_M), k11 x2 x3 x4 x5 x6 M = some r → am_Ev L xs d me_86 11 [(0, .inr (.inr (some 5))), (2, .inl (x2)), (3, .inl (x3)), (4, .inl (x4)), (5, .inl (x5)), (6, .inl (x6))] [] 126 138 M (some (.inl r.1), 126, 138, r.2)) (x2 : Int) (x3 : Int) (x4 : Int) (x5 : Int) (x6 : Int) (x7 : Int) (x8 : Int) (M : am_M) (r : Int × am_M) (h : Law_reckon_5_70   k11 x2 x3 x4 x5 x6 x7 x8 M = some r) : am_Ev L xs d me_86 70 [(0, .inr (.inr (some 5))), (2, .inl (x2)), (3, .inl (x3)), (4, .inl (x4)), (5, .inl (x5)), (6, .inl (x6)), (7, .inl (x7)), (8, .inl (x8))] [] 126 138 M (some (.inl r.1), 126, 138, r.2) := by
  refine ev_k (pc' := 73) (ls' := [(0, .inr (.inr (some 5))), (2, .inl (x2)), (3, .inl (x3)), (4, .inl (x4)), (5, .inl (x5)), (6, .inl (x6)), (7, .inl (x7)), (8, .inl (x8))]) (st' := [.inl (40), .inl (x3)]) (nc' := 126) (np' := 138) (M' := M) 2 rfl ?_
  obtain ⟨hR, ⟨hc, h⟩ | ⟨hc, h⟩⟩ := c_ge_i h
  · refine ev_icmp 94 rfl hR.1 hR.2 (by decide) (fun _ => ?_) (fun q => absurd hc q)
    exact Law_reckon_5_94_t hd      M r h
  · refine ev_icmp 94 rfl hR.1 hR.2 (by decide) (fun q => absurd q hc) (fun _ => ?_)
    refine ev_k (pc' := 78) (ls' := [(0, .inr (.inr (some 5))), (2, .inl (x2)), (3, .inl (x3)), (4, .inl (x4)), (5, .inl (x5)), (6, .inl (x6)), (7, .inl (x7)), (8, .inl (x8))]) (st' := [.inl (x8)]) (nc' := 126) (np' := 138) (M' := M) 1 rfl ?_
    obtain ⟨hR, ⟨hc, h⟩ | ⟨hc, h⟩⟩ := c_lt_i h
    · refine ev_ifc 94 rfl hR.1 (by decide) (fun _ => ?_) (fun q => absurd hc q)
      exact Law_reckon_5_94_t hd      M r h
    · refine ev_ifc 94 rfl hR.1 (by decide) (fun q => absurd q hc) (fun _ => ?_)
      refine ev_k (pc' := 84) (ls' := [(0, .inr (.inr (some 5))), (2, .inl (x2)), (3, .inl (x3)), (4, .inl (x4)), (5, .inl (x5)), (6, .inl (x6)), (7, .inl (x7)), (8, .inl (x8))]) (st' := [.inl (1), .inl (x7)]) (nc' := 126) (np' := 138) (M' := M) 2 rfl ?_
      obtain ⟨hR, ⟨hc, h⟩ | ⟨hc, h⟩⟩ := c_ne_i h
      · refine ev_icmp 96 rfl hR.1 hR.2 (by decide) (fun _ => ?_) (fun q => absurd hc q)
        exact Law_reckon_5_96_t hd   k11 hk11 (x2) (x3) (x4) (x5) (x6) (x7) (x8) M r h
      · refine ev_icmp 96 rfl hR.1 hR.2 (by decide) (fun q => absurd q hc) (fun _ => ?_)
        refine ev_k (pc' := 91) (ls' := [(0, .inr (.inr (some 5))), (2, .inl (x2)), (3, .inl (x3)), (4, .inl (x4)), (5, .inl (x5)), (6, .inl (x6)), (7, .inl (x7)), (8, .inl (x8))]) (st' := [.inl (7), .inl (x8)]) (nc' := 126) (np' := 138) (M' := M) 2 rfl ?_
        obtain ⟨hR, ⟨hc, h⟩ | ⟨hc, h⟩⟩ := c_lt_i h
        · refine ev_icmp 96 rfl hR.1 hR.2 (by decide) (fun _ => ?_) (fun q => absurd hc q)
          exact Law_reckon_5_96_t hd   k11 hk11 (x2) (x3) (x4) (x5) (x6) (x7) (x8) M r h
        · refine ev_icmp 96 rfl hR.1 hR.2 (by decide) (fun q => absurd q hc) (fun _ => ?_)
          exact Law_reckon_5_94_t hd      M r h
theorem Law_reckon_5_429_t {L : Nat} {xs : Nat → Int} {d : Nat} (hd : 0 ≤ d)     (x4 : Int) (M : am_M) (r : Int × am_M) (h : Law_reckon_5_429    x4 M = some r) : am_Ev L xs d me_86 429 [(4, .inl (x4))] [] 126 138 M (some (.inl r.1), 126, 138, r.2) := by
  refine ev_k (pc' := 431) (ls' := [(4, .inl (x4))]) (st' := [.inl (x4)]) (nc' := 126) (np' := 138) (M' := M) 1 rfl ?_
  cases h
  exact ev_ret rfl
theorem Law_reckon_5_145_t {L : Nat} {xs : Nat → Int} {d : Nat} (hd : 0 ≤ d)   (k11 : Int → Int → Int → Int → Int → am_M → Option (Int × am_M)) (hk11 : ∀ (x2 : Int) (x3 : Int) (x4 : Int) (x5 : Int) (x6 : Int) (M : am_M) (r : Int × am_M), k11 x2 x3 x4 x5 x6 M = some r → am_Ev L xs d me_86 11 [(0, .inr (.inr (some 5))), (2, .inl (x2)), (3, .inl (x3)), (4, .inl (x4)), (5, .inl (x5)), (6, .inl (x6))] [] 126 138 M (some (.inl r.1), 126, 138, r.2)) (x2 : Int) (x3 : Int) (x5 : Int) (x6 : Int) (s0 : Int) (M : am_M) (r : Int × am_M) (h : Law_reckon_5_145   k11 x2 x3 x5 x6 s0 M = some r) : am_Ev L xs d me_86 145 [(0, .inr (.inr (some 5))), (2, .inl (x2)), (3, .inl (x3)), (5, .inl (x5)), (6, .inl (x6))] [.inl (s0)] 126 138 M (some (.inl r.1), 126, 138, r.2) := by
  refine ev_k (pc' := 423) (ls' := [(0, .inr (.inr (some 5))), (2, .inl (x2)), (3, .inl (x3)), (4, .inl (s0)), (5, .inl (x5)), (6, .inl (x6))]) (st' := []) (nc' := 126) (np' := 138) (M' := M) 2 rfl ?_
  exact Law_reckon_5_423_t hd   k11 hk11 (x2) (x3) (s0) (x5) (x6) M r h
theorem Law_reckon_5_11_t {L : Nat} {xs : Nat → Int} {d : Nat} (hd : 0 ≤ d)     : ∀ (n : Nat) (x2 : Int) (x3 : Int) (x4 : Int) (x5 : Int) (x6 : Int) (M : am_M) (r : Int × am_M), Law_reckon_5_11    n x2 x3 x4 x5 x6 M = some r → am_Ev L xs d me_86 11 [(0, .inr (.inr (some 5))), (2, .inl (x2)), (3, .inl (x3)), (4, .inl (x4)), (5, .inl (x5)), (6, .inl (x6))] [] 126 138 M (some (.inl r.1), 126, 138, r.2)
  | 0, _, _, _, _, _, M, r, h => by cases h
  | n + 1, x2, x3, x4, x5, x6, M, r, h => by
    have ih := Law_reckon_5_11_t (L := L) (xs := xs) hd     n
    refine ev_k (pc' := 16) (ls' := [(0, .inr (.inr (some 5))), (2, .inl (x2)), (3, .inl (x3)), (4, .inl (x4)), (5, .inl (x5)), (6, .inl (x6))]) (st' := [.inl (240), .inl (x6)]) (nc' := 126) (np' := 138) (M' := M) 2 rfl ?_
    obtain ⟨hR, ⟨hc, h⟩ | ⟨hc, h⟩⟩ := c_ge_i h
    · refine ev_icmp 429 rfl hR.1 hR.2 (by decide) (fun _ => ?_) (fun q => absurd hc q)
      exact Law_reckon_5_429_t hd     (x4) M r h
    · refine ev_icmp 429 rfl hR.1 hR.2 (by decide) (fun q => absurd q hc) (fun _ => ?_)
      refine ev_k (pc' := 21) (ls' := [(0, .inr (.inr (some 5))), (2, .inl (x2)), (3, .inl (x3)), (4, .inl (x4)), (5, .inl (x5)), (6, .inl (x6))]) (st' := [.inl (x5)]) (nc' := 126) (np' := 138) (M' := M) 1 rfl ?_
      obtain ⟨hR, ⟨hc, h⟩ | ⟨hc, h⟩⟩ := c_lt_i h
      · refine ev_ifc 429 rfl hR.1 (by decide) (fun _ => ?_) (fun q => absurd hc q)
        exact Law_reckon_5_429_t hd     (x4) M r h
      · refine ev_ifc 429 rfl hR.1 (by decide) (fun q => absurd q hc) (fun _ => ?_)
        refine ev_k (pc' := 27) (ls' := [(0, .inr (.inr (some 5))), (2, .inl (x2)), (3, .inl (x3)), (4, .inl (x4)), (5, .inl (x5)), (6, .inl (x6))]) (st' := [.inl (x2), .inl (x5)]) (nc' := 126) (np' := 138) (M' := M) 2 rfl ?_
        obtain ⟨hR, ⟨hc, h⟩ | ⟨hc, h⟩⟩ := c_ge_i h
        · refine ev_icmp 429 rfl hR.1 hR.2 (by decide) (fun _ => ?_) (fun q => absurd hc q)
          exact Law_reckon_5_429_t hd     (x4) M r h
        · refine ev_icmp 429 rfl hR.1 hR.2 (by decide) (fun q => absurd q hc) (fun _ => ?_)
          refine ev_k (pc' := 35) (ls' := [(0, .inr (.inr (some 5))), (2, .inl (x2)), (3, .inl (x3)), (4, .inl (x4)), (5, .inl (x5)), (6, .inl (x6))]) (st' := [.inl (240), .inl (x5)]) (nc' := 126) (np' := 138) (M' := M) 2 rfl ?_
          obtain ⟨hR, ⟨hc, h⟩ | ⟨hc, h⟩⟩ := c_ge_i h
          · refine ev_icmp 429 rfl hR.1 hR.2 (by decide) (fun _ => ?_) (fun q => absurd hc q)
            exact Law_reckon_5_429_t hd     (x4) M r h
          · refine ev_icmp 429 rfl hR.1 hR.2 (by decide) (fun q => absurd q hc) (fun _ => ?_)
            refine ev_k (pc' := 44) (ls' := [(0, .inr (.inr (some 5))), (2, .inl (x2)), (3, .inl (x3)), (4, .inl (x4)), (5, .inl (x5)), (6, .inl (x6))]) (st' := [.inl (x5), .inr (.inr (some 6))]) (nc' := 126) (np' := 138) (M' := M) 3 rfl ?_
            obtain ⟨hc, v1, ev, h⟩ := rd_i h
            refine ev_ald (k := 6) (t := 0) (Or.inl ⟨rfl, rfl⟩) rfl (by decide) (by decide) rfl hc ev ?_
            refine ev_k (pc' := 53) (ls' := [(7, .inl (v1)), (0, .inr (.inr (some 5))), (2, .inl (x2)), (3, .inl (x3)), (4, .inl (x4)), (5, .inl (x5)), (6, .inl (x6))]) (st' := [.inl (x5), .inr (.inr (some 7))]) (nc' := 126) (np' := 138) (M' := M) 4 rfl ?_
            obtain ⟨hc, v2, ev, h⟩ := rd_i h
            refine ev_ald (k := 7) (t := 0) (Or.inl ⟨rfl, rfl⟩) rfl (by decide) (by decide) rfl hc ev ?_
            refine ev_k (pc' := 61) (ls' := [(5, .inl ((x5) + (1))), (8, .inl (v2)), (7, .inl (v1)), (0, .inr (.inr (some 5))), (2, .inl (x2)), (3, .inl (x3)), (4, .inl (x4)), (6, .inl (x6))]) (st' := [.inl (v1)]) (nc' := 126) (np' := 138) (M' := M) 3 rfl ?_
            obtain ⟨hR, ⟨hc, h⟩ | ⟨hc, h⟩⟩ := c_eq_i h
            · refine ev_ifc 70 rfl hR.1 (by decide) (fun _ => ?_) (fun q => absurd hc q)
              exact Law_reckon_5_70_t hd   (Law_reckon_5_11    n) ih (x2) (x3) (x4) ((x5) + (1)) (x6) (v1) (v2) M r h
            · refine ev_ifc 70 rfl hR.1 (by decide) (fun q => absurd q hc) (fun _ => ?_)
              refine ev_k (pc' := 67) (ls' := [(5, .inl ((x5) + (1))), (8, .inl (v2)), (7, .inl (v1)), (0, .inr (.inr (some 5))), (2, .inl (x2)), (3, .inl (x3)), (4, .inl (x4)), (6, .inl (x6))]) (st' := [.inl (1), .inl (v1)]) (nc' := 126) (np' := 138) (M' := M) 2 rfl ?_
              obtain ⟨hR, ⟨hc, h⟩ | ⟨hc, h⟩⟩ := c_ne_i h
              · refine ev_icmp 129 rfl hR.1 hR.2 (by decide) (fun _ => ?_) (fun q => absurd hc q)
                refine ev_k (pc' := 132) (ls' := [(5, .inl ((x5) + (1))), (8, .inl (v2)), (7, .inl (v1)), (0, .inr (.inr (some 5))), (2, .inl (x2)), (3, .inl (x3)), (4, .inl (x4)), (6, .inl (x6))]) (st' := [.inl (2), .inl (v1)]) (nc' := 126) (np' := 138) (M' := M) 2 rfl ?_
                obtain ⟨hR, ⟨hc, h⟩ | ⟨hc, h⟩⟩ := c_ne_i h
                · refine ev_icmp 150 rfl hR.1 hR.2 (by decide) (fun _ => ?_) (fun q => absurd hc q)
                  refine ev_k (pc' := 153) (ls' := [(5, .inl ((x5) + (1))), (8, .inl (v2)), (7, .inl (v1)), (0, .inr (.inr (some 5))), (2, .inl (x2)), (3, .inl (x3)), (4, .inl (x4)), (6, .inl (x6))]) (st' := [.inl (3), .inl (v1)]) (nc' := 126) (np' := 138) (M' := M) 2 rfl ?_
                  obtain ⟨hR, ⟨hc, h⟩ | ⟨hc, h⟩⟩ := c_ne_i h
                  · refine ev_icmp 161 rfl hR.1 hR.2 (by decide) (fun _ => ?_) (fun q => absurd hc q)
                    exact Law_reckon_5_161_t hd   (Law_reckon_5_11    n) ih (x2) (x3) (x4) ((x5) + (1)) (x6) (v1) (v2) M r h
                  · refine ev_icmp 161 rfl hR.1 hR.2 (by decide) (fun q => absurd q hc) (fun _ => ?_)
                    refine ev_k (pc' := 158) (ls' := [(5, .inl ((x5) + (1))), (8, .inl (v2)), (7, .inl (v1)), (0, .inr (.inr (some 5))), (2, .inl (x2)), (3, .inl (x3)), (4, .inl (x4)), (6, .inl (x6))]) (st' := [.inl (x4)]) (nc' := 126) (np' := 138) (M' := M) 1 rfl ?_
                    obtain ⟨hR, ⟨hc, h⟩ | ⟨hc, h⟩⟩ := c_ne_i h
                    · refine ev_ifc 172 rfl hR.1 (by decide) (fun _ => ?_) (fun q => absurd hc q)
                      exact Law_reckon_5_172_t hd   (Law_reckon_5_11    n) ih (x2) (x3) (x4) ((x5) + (1)) (x6) (v2) M r h
                    · refine ev_ifc 172 rfl hR.1 (by decide) (fun q => absurd q hc) (fun _ => ?_)
                      exact Law_reckon_5_161_t hd   (Law_reckon_5_11    n) ih (x2) (x3) (x4) ((x5) + (1)) (x6) (v1) (v2) M r h
                · refine ev_icmp 150 rfl hR.1 hR.2 (by decide) (fun q => absurd q hc) (fun _ => ?_)
                  refine ev_k (pc' := 137) (ls' := [(5, .inl ((x5) + (1))), (8, .inl (v2)), (7, .inl (v1)), (0, .inr (.inr (some 5))), (2, .inl (x2)), (3, .inl (x3)), (4, .inl (x4)), (6, .inl (x6))]) (st' := [.inl (x4)]) (nc' := 126) (np' := 138) (M' := M) 1 rfl ?_
                  obtain ⟨hR, ⟨hc, h⟩ | ⟨hc, h⟩⟩ := c_ne_i h
                  · refine ev_ifc 144 rfl hR.1 (by decide) (fun _ => ?_) (fun q => absurd hc q)
                    refine ev_k (pc' := 145) (ls' := [(0, .inr (.inr (some 5))), (2, .inl (x2)), (3, .inl (x3)), (5, .inl ((x5) + (1))), (6, .inl (x6))]) (st' := [.inl (0)]) (nc' := 126) (np' := 138) (M' := M) 1 rfl ?_
                    exact Law_reckon_5_145_t hd   (Law_reckon_5_11    n) ih (x2) (x3) ((x5) + (1)) (x6) (0) M r h
                  · refine ev_ifc 144 rfl hR.1 (by decide) (fun q => absurd q hc) (fun _ => ?_)
                    refine ev_k (pc' := 145) (ls' := [(0, .inr (.inr (some 5))), (2, .inl (x2)), (3, .inl (x3)), (5, .inl ((x5) + (1))), (6, .inl (x6))]) (st' := [.inl (1)]) (nc' := 126) (np' := 138) (M' := M) 2 rfl ?_
                    exact Law_reckon_5_145_t hd   (Law_reckon_5_11    n) ih (x2) (x3) ((x5) + (1)) (x6) (1) M r h
              · refine ev_icmp 129 rfl hR.1 hR.2 (by decide) (fun q => absurd q hc) (fun _ => ?_)
                exact Law_reckon_5_70_t hd   (Law_reckon_5_11    n) ih (x2) (x3) (x4) ((x5) + (1)) (x6) (v1) (v2) M r h
theorem Law_reckon_5_e {L : Nat} {xs : Nat → Int} {d : Nat} (hd : 0 ≤ d)   (x1 : Int) (x2 : Int) (M : am_M) (r : Int × am_M) (h : Law_reckon_5   x1 x2 M = some r) : am_Ev L xs d me_86 0 (am_ar1 0 [.inr (.inr (some 5)), .inl (x1), .inl (x2)]) [] 126 138 M (some (.inl r.1), 126, 138, r.2) := by
  refine ev_k (pc' := 11) (ls' := [(0, .inr (.inr (some 5))), (2, .inl (x2)), (3, .inl (0)), (4, .inl (0)), (5, .inl (x1)), (6, .inl (0))]) (st' := []) (nc' := 126) (np' := 138) (M' := M) 8 rfl ?_
  exact Law_reckon_5_11_t hd     am_big (x2) (0) (0) (x1) (0) M r h
def Law_ask_5_76     (M : am_M) : Option (Int × am_M) := some (0, M)
def Law_ask_5_70   (k2 : Int → Int → Int → am_M → Option (Int × am_M)) (x1 : Int) (x2 : Int) (x3 : Int) (M : am_M) : Option (Int × am_M) := (k2 (x1) (x2) ((x3) + (1)) M)
def Law_ask_5_2    : Nat → Int → Int → Int → am_M → Option (Int × am_M)
  | 0, _, _, _, _ => none
  | n + 1, x1, x2, x3, M => c_ge (x3) (M 5 7)
       (Law_ask_5_76     M)
       (c_ge (x3) (16)
       (Law_ask_5_76     M)
       (rd M 8 16 (x3) fun v1 => c_ne (v1) (x1)
       (Law_ask_5_70   (Law_ask_5_2    n) (x1) (x2) (x3) M)
       (rd M 10 16 (x3) fun v2 => rd M 11 16 (x3) fun v3 => oc (Law_reckon_5 (v2) (v3) M) fun v4 M5 => c_eq (v4) (0)
       (Law_ask_5_70   (Law_ask_5_2    n) (x1) (x2) (x3) M5)
       (rd M5 9 16 (x3) fun v6 => rd M5 10 16 (x3) fun v7 => oc (Law_reckon_5 (v6) (v7) M5) fun v8 M9 => ob (J_min (x2) (v8) M9) fun v10 => ob (J_max (0) (v10) M9) fun v11 => some (v11, M9)))))
def Law_ask_5    (x1 : Int) (x2 : Int) (M : am_M) : Option (Int × am_M) := (Law_ask_5_2    am_big (x1) (x2) (0) M)
theorem Law_ask_5_76_t {L : Nat} {xs : Nat → Int} {d : Nat} (hd : 1 ≤ d)      (M : am_M) (r : Int × am_M) (h : Law_ask_5_76     M = some r) : am_Ev L xs d me_85 76 [] [] 126 138 M (some (.inl r.1), 126, 138, r.2) := by
  refine ev_k (pc' := 77) (ls' := []) (st' := [.inl (0)]) (nc' := 126) (np' := 138) (M' := M) 1 rfl ?_
  cases h
  exact ev_ret rfl
theorem Law_ask_5_70_t {L : Nat} {xs : Nat → Int} {d : Nat} (hd : 1 ≤ d)   (k2 : Int → Int → Int → am_M → Option (Int × am_M)) (hk2 : ∀ (x1 : Int) (x2 : Int) (x3 : Int) (M : am_M) (r : Int × am_M), k2 x1 x2 x3 M = some r → am_Ev L xs d me_85 2 [(0, .inr (.inr (some 5))), (1, .inl (x1)), (2, .inl (x2)), (3, .inl (x3))] [] 126 138 M (some (.inl r.1), 126, 138, r.2)) (x1 : Int) (x2 : Int) (x3 : Int) (M : am_M) (r : Int × am_M) (h : Law_ask_5_70   k2 x1 x2 x3 M = some r) : am_Ev L xs d me_85 70 [(0, .inr (.inr (some 5))), (1, .inl (x1)), (2, .inl (x2)), (3, .inl (x3))] [] 126 138 M (some (.inl r.1), 126, 138, r.2) := by
  refine ev_k (pc' := 2) (ls' := [(0, .inr (.inr (some 5))), (1, .inl (x1)), (2, .inl (x2)), (3, .inl ((x3) + (1)))]) (st' := []) (nc' := 126) (np' := 138) (M' := M) 2 rfl ?_
  exact hk2 (x1) (x2) ((x3) + (1)) M r h
theorem Law_ask_5_2_t {L : Nat} {xs : Nat → Int} {d : Nat} (hd : 1 ≤ d)     : ∀ (n : Nat) (x1 : Int) (x2 : Int) (x3 : Int) (M : am_M) (r : Int × am_M), Law_ask_5_2    n x1 x2 x3 M = some r → am_Ev L xs d me_85 2 [(0, .inr (.inr (some 5))), (1, .inl (x1)), (2, .inl (x2)), (3, .inl (x3))] [] 126 138 M (some (.inl r.1), 126, 138, r.2)
  | 0, _, _, _, M, r, h => by cases h
  | n + 1, x1, x2, x3, M, r, h => by
    have ih := Law_ask_5_2_t (L := L) (xs := xs) hd     n
    refine ev_k (pc' := 7) (ls' := [(0, .inr (.inr (some 5))), (1, .inl (x1)), (2, .inl (x2)), (3, .inl (x3))]) (st' := [.inl (M 5 7), .inl (x3)]) (nc' := 126) (np' := 138) (M' := M) 3 rfl ?_
    obtain ⟨hR, ⟨hc, h⟩ | ⟨hc, h⟩⟩ := c_ge_i h
    · refine ev_icmp 76 rfl hR.1 hR.2 (by decide) (fun _ => ?_) (fun q => absurd hc q)
      exact Law_ask_5_76_t hd      M r h
    · refine ev_icmp 76 rfl hR.1 hR.2 (by decide) (fun q => absurd q hc) (fun _ => ?_)
      refine ev_k (pc' := 13) (ls' := [(0, .inr (.inr (some 5))), (1, .inl (x1)), (2, .inl (x2)), (3, .inl (x3))]) (st' := [.inl (16), .inl (x3)]) (nc' := 126) (np' := 138) (M' := M) 2 rfl ?_
      obtain ⟨hR, ⟨hc, h⟩ | ⟨hc, h⟩⟩ := c_ge_i h
      · refine ev_icmp 76 rfl hR.1 hR.2 (by decide) (fun _ => ?_) (fun q => absurd hc q)
        exact Law_ask_5_76_t hd      M r h
      · refine ev_icmp 76 rfl hR.1 hR.2 (by decide) (fun q => absurd q hc) (fun _ => ?_)
        refine ev_k (pc' := 21) (ls' := [(0, .inr (.inr (some 5))), (1, .inl (x1)), (2, .inl (x2)), (3, .inl (x3))]) (st' := [.inl (x3), .inr (.inr (some 8))]) (nc' := 126) (np' := 138) (M' := M) 3 rfl ?_
        obtain ⟨hc, v1, ev, h⟩ := rd_i h
        refine ev_ald (k := 8) (t := 0) (Or.inl ⟨rfl, rfl⟩) rfl (by decide) (by decide) rfl hc ev ?_
        refine ev_k (pc' := 23) (ls' := [(0, .inr (.inr (some 5))), (1, .inl (x1)), (2, .inl (x2)), (3, .inl (x3))]) (st' := [.inl (x1), .inl (v1)]) (nc' := 126) (np' := 138) (M' := M) 1 rfl ?_
        obtain ⟨hR, ⟨hc, h⟩ | ⟨hc, h⟩⟩ := c_ne_i h
        · refine ev_icmp 70 rfl hR.1 hR.2 (by decide) (fun _ => ?_) (fun q => absurd hc q)
          exact Law_ask_5_70_t hd   (Law_ask_5_2    n) ih (x1) (x2) (x3) M r h
        · refine ev_icmp 70 rfl hR.1 hR.2 (by decide) (fun q => absurd q hc) (fun _ => ?_)
          refine ev_k (pc' := 32) (ls' := [(0, .inr (.inr (some 5))), (1, .inl (x1)), (2, .inl (x2)), (3, .inl (x3))]) (st' := [.inl (x3), .inr (.inr (some 10)), .inr (.inr (some 5))]) (nc' := 126) (np' := 138) (M' := M) 4 rfl ?_
          obtain ⟨hc, v2, ev, h⟩ := rd_i h
          refine ev_ald (k := 10) (t := 0) (Or.inl ⟨rfl, rfl⟩) rfl (by decide) (by decide) rfl hc ev ?_
          refine ev_k (pc' := 38) (ls' := [(0, .inr (.inr (some 5))), (1, .inl (x1)), (2, .inl (x2)), (3, .inl (x3))]) (st' := [.inl (x3), .inr (.inr (some 11)), .inl (v2), .inr (.inr (some 5))]) (nc' := 126) (np' := 138) (M' := M) 3 rfl ?_
          obtain ⟨hc, v3, ev, h⟩ := rd_i h
          refine ev_ald (k := 11) (t := 0) (Or.inl ⟨rfl, rfl⟩) rfl (by decide) (by decide) rfl hc ev ?_
          refine ev_k (pc' := 39) (ls' := [(0, .inr (.inr (some 5))), (1, .inl (x1)), (2, .inl (x2)), (3, .inl (x3))]) (st' := [.inl (v3), .inl (v2), .inr (.inr (some 5))]) (nc' := 126) (np' := 138) (M' := M) 0 rfl ?_
          obtain ⟨v4, M5, hv, h⟩ := oc_i h
          refine ev_call (t := 86) (as := [.inr (.inr (some 5)), .inl (v2), .inl (v3)]) (rest := []) rfl rfl rfl (by omega) (Law_reckon_5_e (by omega) (v2) (v3) M _ hv) ?_
          refine ev_k (pc' := 42) (ls' := [(0, .inr (.inr (some 5))), (1, .inl (x1)), (2, .inl (x2)), (3, .inl (x3))]) (st' := [.inl (v4)]) (nc' := 126) (np' := 138) (M' := M5) 0 rfl ?_
          obtain ⟨hR, ⟨hc, h⟩ | ⟨hc, h⟩⟩ := c_eq_i h
          · refine ev_ifc 70 rfl hR.1 (by decide) (fun _ => ?_) (fun q => absurd hc q)
            exact Law_ask_5_70_t hd   (Law_ask_5_2    n) ih (x1) (x2) (x3) M5 r h
          · refine ev_ifc 70 rfl hR.1 (by decide) (fun q => absurd q hc) (fun _ => ?_)
            refine ev_k (pc' := 53) (ls' := [(0, .inr (.inr (some 5))), (1, .inl (x1)), (2, .inl (x2)), (3, .inl (x3))]) (st' := [.inl (x3), .inr (.inr (some 9)), .inr (.inr (some 5)), .inl (x2), .inl (0)]) (nc' := 126) (np' := 138) (M' := M5) 6 rfl ?_
            obtain ⟨hc, v6, ev, h⟩ := rd_i h
            refine ev_ald (k := 9) (t := 0) (Or.inl ⟨rfl, rfl⟩) rfl (by decide) (by decide) rfl hc ev ?_
            refine ev_k (pc' := 59) (ls' := [(0, .inr (.inr (some 5))), (1, .inl (x1)), (2, .inl (x2)), (3, .inl (x3))]) (st' := [.inl (x3), .inr (.inr (some 10)), .inl (v6), .inr (.inr (some 5)), .inl (x2), .inl (0)]) (nc' := 126) (np' := 138) (M' := M5) 3 rfl ?_
            obtain ⟨hc, v7, ev, h⟩ := rd_i h
            refine ev_ald (k := 10) (t := 0) (Or.inl ⟨rfl, rfl⟩) rfl (by decide) (by decide) rfl hc ev ?_
            refine ev_k (pc' := 60) (ls' := [(0, .inr (.inr (some 5))), (1, .inl (x1)), (2, .inl (x2)), (3, .inl (x3))]) (st' := [.inl (v7), .inl (v6), .inr (.inr (some 5)), .inl (x2), .inl (0)]) (nc' := 126) (np' := 138) (M' := M5) 0 rfl ?_
            obtain ⟨v8, M9, hv, h⟩ := oc_i h
            refine ev_call (t := 86) (as := [.inr (.inr (some 5)), .inl (v6), .inl (v7)]) (rest := [.inl (x2), .inl (0)]) rfl rfl rfl (by omega) (Law_reckon_5_e (by omega) (v6) (v7) M5 _ hv) ?_
            refine ev_k (pc' := 63) (ls' := [(0, .inr (.inr (some 5))), (1, .inl (x1)), (2, .inl (x2)), (3, .inl (x3))]) (st' := [.inl (v8), .inl (x2), .inl (0)]) (nc' := 126) (np' := 138) (M' := M9) 0 rfl ?_
            obtain ⟨v10, hv, h⟩ := ob_i h
            refine ev_call (t := 60) (as := [.inl (x2), .inl (v8)]) (rest := [.inl (0)]) rfl rfl rfl (by omega) (J_min_e (by omega) (x2) (v8) M9 _ hv) ?_
            refine ev_k (pc' := 66) (ls' := [(0, .inr (.inr (some 5))), (1, .inl (x1)), (2, .inl (x2)), (3, .inl (x3))]) (st' := [.inl (v10), .inl (0)]) (nc' := 126) (np' := 138) (M' := M9) 0 rfl ?_
            obtain ⟨v11, hv, h⟩ := ob_i h
            refine ev_call (t := 61) (as := [.inl (0), .inl (v10)]) (rest := []) rfl rfl rfl (by omega) (J_max_e (by omega) (0) (v10) M9 _ hv) ?_
            refine ev_k (pc' := 69) (ls' := [(0, .inr (.inr (some 5))), (1, .inl (x1)), (2, .inl (x2)), (3, .inl (x3))]) (st' := [.inl (v11)]) (nc' := 126) (np' := 138) (M' := M9) 0 rfl ?_
            cases h
            exact ev_ret rfl
theorem Law_ask_5_e {L : Nat} {xs : Nat → Int} {d : Nat} (hd : 1 ≤ d)   (x1 : Int) (x2 : Int) (M : am_M) (r : Int × am_M) (h : Law_ask_5   x1 x2 M = some r) : am_Ev L xs d me_85 0 (am_ar1 0 [.inr (.inr (some 5)), .inl (x1), .inl (x2)]) [] 126 138 M (some (.inl r.1), 126, 138, r.2) := by
  refine ev_k (pc' := 2) (ls' := [(0, .inr (.inr (some 5))), (1, .inl (x1)), (2, .inl (x2)), (3, .inl (0))]) (st' := []) (nc' := 126) (np' := 138) (M' := M) 2 rfl ?_
  exact Law_ask_5_2_t hd     am_big (x1) (x2) (0) M r h
def Law_resting_5    (x1 : Int) (x2 : Int) (x3 : Int) (M : am_M) : Option (Int × am_M) := ob (Law_say_5 (0) (0) (x1) (x2) (0) (0) (x3) M) fun M1 => oc (Law_ask_5 (101) (20) M1) fun v2 M3 => some (v2, M3)
theorem Law_resting_5_e {L : Nat} {xs : Nat → Int} {d : Nat} (hd : 2 ≤ d)   (x1 : Int) (x2 : Int) (x3 : Int) (M : am_M) (r : Int × am_M) (h : Law_resting_5   x1 x2 x3 M = some r) : am_Ev L xs d me_83 0 (am_ar1 0 [.inr (.inr (some 5)), .inl (x1), .inl (x2), .inl (x3)]) [] 126 138 M (some (.inl r.1), 126, 138, r.2) := by
  refine ev_k (pc' := 8) (ls' := [(0, .inr (.inr (some 5))), (1, .inl (x1)), (2, .inl (x2)), (3, .inl (x3))]) (st' := [.inl (x3), .inl (0), .inl (0), .inl (x2), .inl (x1), .inl (0), .inl (0), .inr (.inr (some 5))]) (nc' := 126) (np' := 138) (M' := M) 8 rfl ?_
  obtain ⟨M1, hv, h⟩ := ob_i h
  refine ev_call (t := 84) (as := [.inr (.inr (some 5)), .inl (0), .inl (0), .inl (x1), .inl (x2), .inl (0), .inl (0), .inl (x3)]) (rest := []) rfl rfl rfl (by omega) (Law_say_5_e (by omega) (0) (0) (x1) (x2) (0) (0) (x3) M _ hv) ?_
  refine ev_k (pc' := 16) (ls' := [(0, .inr (.inr (some 5))), (1, .inl (x1)), (2, .inl (x2)), (3, .inl (x3))]) (st' := [.inl (20), .inl (101), .inr (.inr (some 5))]) (nc' := 126) (np' := 138) (M' := M1) 3 rfl ?_
  obtain ⟨v2, M3, hv, h⟩ := oc_i h
  refine ev_call (t := 85) (as := [.inr (.inr (some 5)), .inl (101), .inl (20)]) (rest := []) rfl rfl rfl (by omega) (Law_ask_5_e (by omega) (101) (20) M1 _ hv) ?_
  refine ev_k (pc' := 19) (ls' := [(0, .inr (.inr (some 5))), (1, .inl (x1)), (2, .inl (x2)), (3, .inl (x3))]) (st' := [.inl (v2)]) (nc' := 126) (np' := 138) (M' := M3) 0 rfl ?_
  cases h
  exact ev_ret rfl
def Outing_rest_50_26_68     (M : am_M) : Option (am_M) := some (M)
def Outing_rest_50_26_62   (k12 : Int → am_M → Option (am_M)) (x2 : Int) (M : am_M) : Option (am_M) := (k12 ((x2) + (1)) M)
def Outing_rest_50_26_12    : Nat → Int → am_M → Option (am_M)
  | 0, _, _ => none
  | n + 1, x2, M => c_ge (x2) (6)
       (Outing_rest_50_26_68     M)
       (ob (Country_isTold_1 (x2) M) fun v1 => c_eq (v1) (0)
       (Outing_rest_50_26_62   (Outing_rest_50_26_12    n) (x2) M)
       (ob (Trip_tiredOf_26 (x2) M) fun v2 => ob (Country_armOf_1 (x2) M) fun v3 => oc (Law_resting_5 (v3) (v2) (M 26 13) M) fun v4 M5 => ob (Trip_setTired_26 (x2) ((v2) - (v4)) M5) fun M6 => (Outing_rest_50_26_62   (Outing_rest_50_26_12    n) (x2) M6)))
def Outing_rest_50_26     (M : am_M) : Option (am_M) := oc (Outing_spend_50_26 (10) M) fun v1 M2 => c_eq (v1) (0)
       (Outing_rest_50_26_68     M2)
       ((Outing_rest_50_26_12    am_big (0) M2))
theorem Outing_rest_50_26_68_t {L : Nat} {xs : Nat → Int} {d : Nat} (hd : 3 ≤ d)      (M : am_M) (r : am_M) (h : Outing_rest_50_26_68     M = some r) : am_Ev L xs d me_80 68 [] [] 126 138 M (none, 126, 138, r) := by
  refine ev_k (pc' := 68) (ls' := []) (st' := []) (nc' := 126) (np' := 138) (M' := M) 0 rfl ?_
  cases h
  exact ev_ret rfl
theorem Outing_rest_50_26_62_t {L : Nat} {xs : Nat → Int} {d : Nat} (hd : 3 ≤ d)   (k12 : Int → am_M → Option (am_M)) (hk12 : ∀ (x2 : Int) (M : am_M) (r : am_M), k12 x2 M = some r → am_Ev L xs d me_80 12 [(0, .inr (.inr (some 50))), (1, .inr (.inr (some 26))), (2, .inl (x2))] [] 126 138 M (none, 126, 138, r)) (x2 : Int) (M : am_M) (r : am_M) (h : Outing_rest_50_26_62   k12 x2 M = some r) : am_Ev L xs d me_80 62 [(0, .inr (.inr (some 50))), (1, .inr (.inr (some 26))), (2, .inl (x2))] [] 126 138 M (none, 126, 138, r) := by
  refine ev_k (pc' := 12) (ls' := [(0, .inr (.inr (some 50))), (1, .inr (.inr (some 26))), (2, .inl ((x2) + (1)))]) (st' := []) (nc' := 126) (np' := 138) (M' := M) 2 rfl ?_
  exact hk12 ((x2) + (1)) M r h
theorem Outing_rest_50_26_12_t {L : Nat} {xs : Nat → Int} {d : Nat} (hd : 3 ≤ d)     : ∀ (n : Nat) (x2 : Int) (M : am_M) (r : am_M), Outing_rest_50_26_12    n x2 M = some r → am_Ev L xs d me_80 12 [(0, .inr (.inr (some 50))), (1, .inr (.inr (some 26))), (2, .inl (x2))] [] 126 138 M (none, 126, 138, r)
  | 0, _, M, r, h => by cases h
  | n + 1, x2, M, r, h => by
    have ih := Outing_rest_50_26_12_t (L := L) (xs := xs) hd     n
    refine ev_k (pc' := 15) (ls' := [(0, .inr (.inr (some 50))), (1, .inr (.inr (some 26))), (2, .inl (x2))]) (st' := [.inl (6), .inl (x2)]) (nc' := 126) (np' := 138) (M' := M) 2 rfl ?_
    obtain ⟨hR, ⟨hc, h⟩ | ⟨hc, h⟩⟩ := c_ge_i h
    · refine ev_icmp 68 rfl hR.1 hR.2 (by decide) (fun _ => ?_) (fun q => absurd hc q)
      exact Outing_rest_50_26_68_t hd      M r h
    · refine ev_icmp 68 rfl hR.1 hR.2 (by decide) (fun q => absurd q hc) (fun _ => ?_)
      refine ev_k (pc' := 23) (ls' := [(0, .inr (.inr (some 50))), (1, .inr (.inr (some 26))), (2, .inl (x2))]) (st' := [.inl (x2), .inr (.inr (some 1))]) (nc' := 126) (np' := 138) (M' := M) 3 rfl ?_
      obtain ⟨v1, hv, h⟩ := ob_i h
      refine ev_call (t := 62) (as := [.inr (.inr (some 1)), .inl (x2)]) (rest := []) rfl rfl rfl (by omega) (Country_isTold_1_e (by omega) (x2) M _ hv) ?_
      refine ev_k (pc' := 26) (ls' := [(0, .inr (.inr (some 50))), (1, .inr (.inr (some 26))), (2, .inl (x2))]) (st' := [.inl (v1)]) (nc' := 126) (np' := 138) (M' := M) 0 rfl ?_
      obtain ⟨hR, ⟨hc, h⟩ | ⟨hc, h⟩⟩ := c_eq_i h
      · refine ev_ifc 62 rfl hR.1 (by decide) (fun _ => ?_) (fun q => absurd hc q)
        exact Outing_rest_50_26_62_t hd   (Outing_rest_50_26_12    n) ih (x2) M r h
      · refine ev_ifc 62 rfl hR.1 (by decide) (fun q => absurd q hc) (fun _ => ?_)
        refine ev_k (pc' := 31) (ls' := [(0, .inr (.inr (some 50))), (1, .inr (.inr (some 26))), (2, .inl (x2))]) (st' := [.inl (x2), .inr (.inr (some 26))]) (nc' := 126) (np' := 138) (M' := M) 2 rfl ?_
        obtain ⟨v2, hv, h⟩ := ob_i h
        refine ev_call (t := 82) (as := [.inr (.inr (some 26)), .inl (x2)]) (rest := []) rfl rfl rfl (by omega) (Trip_tiredOf_26_e (by omega) (x2) M _ hv) ?_
        refine ev_k (pc' := 47) (ls' := [(3, .inl (v2)), (0, .inr (.inr (some 50))), (1, .inr (.inr (some 26))), (2, .inl (x2))]) (st' := [.inl (x2), .inr (.inr (some 1)), .inr (.inr (some 5)), .inl (v2), .inl (x2), .inr (.inr (some 26))]) (nc' := 126) (np' := 138) (M' := M) 9 rfl ?_
        obtain ⟨v3, hv, h⟩ := ob_i h
        refine ev_call (t := 63) (as := [.inr (.inr (some 1)), .inl (x2)]) (rest := [.inr (.inr (some 5)), .inl (v2), .inl (x2), .inr (.inr (some 26))]) rfl rfl rfl (by omega) (Country_armOf_1_e (by omega) (x2) M _ hv) ?_
        refine ev_k (pc' := 55) (ls' := [(3, .inl (v2)), (0, .inr (.inr (some 50))), (1, .inr (.inr (some 26))), (2, .inl (x2))]) (st' := [.inl (M 26 13), .inl (v2), .inl (v3), .inr (.inr (some 5)), .inl (v2), .inl (x2), .inr (.inr (some 26))]) (nc' := 126) (np' := 138) (M' := M) 3 rfl ?_
        obtain ⟨v4, M5, hv, h⟩ := oc_i h
        refine ev_call (t := 83) (as := [.inr (.inr (some 5)), .inl (v3), .inl (v2), .inl (M 26 13)]) (rest := [.inl (v2), .inl (x2), .inr (.inr (some 26))]) rfl rfl rfl (by omega) (Law_resting_5_e (by omega) (v3) (v2) (M 26 13) M _ hv) ?_
        refine ev_k (pc' := 59) (ls' := [(3, .inl (v2)), (0, .inr (.inr (some 50))), (1, .inr (.inr (some 26))), (2, .inl (x2))]) (st' := [.inl ((v2) - (v4)), .inl (x2), .inr (.inr (some 26))]) (nc' := 126) (np' := 138) (M' := M5) 1 rfl ?_
        obtain ⟨M6, hv, h⟩ := ob_i h
        refine ev_call (t := 59) (as := [.inr (.inr (some 26)), .inl (x2), .inl ((v2) - (v4))]) (rest := []) rfl rfl rfl (by omega) (Trip_setTired_26_e (by omega) (x2) ((v2) - (v4)) M5 _ hv) ?_
        exact Outing_rest_50_26_62_t hd   (Outing_rest_50_26_12    n) ih (x2) M6 r h
theorem Outing_rest_50_26_e {L : Nat} {xs : Nat → Int} {d : Nat} (hd : 3 ≤ d)    (M : am_M) (r : am_M) (h : Outing_rest_50_26    M = some r) : am_Ev L xs d me_80 0 (am_ar1 0 [.inr (.inr (some 50)), .inr (.inr (some 26))]) [] 126 138 M (none, 126, 138, r) := by
  refine ev_k (pc' := 4) (ls' := [(0, .inr (.inr (some 50))), (1, .inr (.inr (some 26)))]) (st' := [.inl (10), .inr (.inr (some 26)), .inr (.inr (some 50))]) (nc' := 126) (np' := 138) (M' := M) 3 rfl ?_
  obtain ⟨v1, M2, hv, h⟩ := oc_i h
  refine ev_call (t := 81) (as := [.inr (.inr (some 50)), .inr (.inr (some 26)), .inl (10)]) (rest := []) rfl rfl rfl (by omega) (Outing_spend_50_26_e (by omega) (10) M _ hv) ?_
  refine ev_k (pc' := 7) (ls' := [(0, .inr (.inr (some 50))), (1, .inr (.inr (some 26)))]) (st' := [.inl (v1)]) (nc' := 126) (np' := 138) (M' := M2) 0 rfl ?_
  obtain ⟨hR, ⟨hc, h⟩ | ⟨hc, h⟩⟩ := c_eq_i h
  · refine ev_ifc 68 rfl hR.1 (by decide) (fun _ => ?_) (fun q => absurd hc q)
    exact Outing_rest_50_26_68_t hd      M2 r h
  · refine ev_ifc 68 rfl hR.1 (by decide) (fun q => absurd q hc) (fun _ => ?_)
    refine ev_k (pc' := 12) (ls' := [(0, .inr (.inr (some 50))), (1, .inr (.inr (some 26))), (2, .inl (0))]) (st' := []) (nc' := 126) (np' := 138) (M' := M2) 2 rfl ?_
    exact Outing_rest_50_26_12_t hd     am_big (0) M2 r h
def Trip_marksAt_26_18    (s0 : Int) (M : am_M) : Option (Int) := some (s0)
def Trip_marksAt_26    (x1 : Int) (M : am_M) : Option (Int) := ob (Trip_isPlace_26 (x1) M) fun v1 => c_eq (v1) (0)
       ((Trip_marksAt_26_18    (0) M))
       (rd M 31 100 (x1) fun v2 => (Trip_marksAt_26_18    (v2) M))
theorem Trip_marksAt_26_18_t {L : Nat} {xs : Nat → Int} {d : Nat} (hd : 1 ≤ d)     (s0 : Int) (M : am_M) (r : Int) (h : Trip_marksAt_26_18    s0 M = some r) : am_Ev L xs d me_91 18 [] [.inl (s0)] 126 138 M (some (.inl r), 126, 138, M) := by
  refine ev_k (pc' := 18) (ls' := []) (st' := [.inl (s0)]) (nc' := 126) (np' := 138) (M' := M) 0 rfl ?_
  cases h
  exact ev_ret rfl
theorem Trip_marksAt_26_e {L : Nat} {xs : Nat → Int} {d : Nat} (hd : 1 ≤ d)   (x1 : Int) (M : am_M) (r : Int) (h : Trip_marksAt_26   x1 M = some r) : am_Ev L xs d me_91 0 (am_ar1 0 [.inr (.inr (some 26)), .inl (x1)]) [] 126 138 M (some (.inl r), 126, 138, M) := by
  refine ev_k (pc' := 2) (ls' := [(0, .inr (.inr (some 26))), (1, .inl (x1))]) (st' := [.inl (x1), .inr (.inr (some 26))]) (nc' := 126) (np' := 138) (M' := M) 2 rfl ?_
  obtain ⟨v1, hv, h⟩ := ob_i h
  refine ev_call (t := 32) (as := [.inr (.inr (some 26)), .inl (x1)]) (rest := []) rfl rfl rfl (by omega) (Trip_isPlace_26_e (by omega) (x1) M _ hv) ?_
  refine ev_k (pc' := 5) (ls' := [(0, .inr (.inr (some 26))), (1, .inl (x1))]) (st' := [.inl (v1)]) (nc' := 126) (np' := 138) (M' := M) 0 rfl ?_
  obtain ⟨hR, ⟨hc, h⟩ | ⟨hc, h⟩⟩ := c_eq_i h
  · refine ev_ifc 17 rfl hR.1 (by decide) (fun _ => ?_) (fun q => absurd hc q)
    refine ev_k (pc' := 18) (ls' := []) (st' := [.inl (0)]) (nc' := 126) (np' := 138) (M' := M) 1 rfl ?_
    exact Trip_marksAt_26_18_t hd     (0) M r h
  · refine ev_ifc 17 rfl hR.1 (by decide) (fun q => absurd q hc) (fun _ => ?_)
    refine ev_k (pc' := 13) (ls' := [(0, .inr (.inr (some 26))), (1, .inl (x1))]) (st' := [.inl (x1), .inr (.inr (some 31))]) (nc' := 126) (np' := 138) (M' := M) 3 rfl ?_
    obtain ⟨hc, v2, ev, h⟩ := rd_i h
    refine ev_ald (k := 31) (t := 0) (Or.inl ⟨rfl, rfl⟩) rfl (by decide) (by decide) rfl hc ev ?_
    refine ev_k (pc' := 18) (ls' := []) (st' := [.inl (v2)]) (nc' := 126) (np' := 138) (M' := M) 1 rfl ?_
    exact Trip_marksAt_26_18_t hd     (v2) M r h
def Trip_putMark_26_24     (M : am_M) : Option (am_M) := some (M)
def Trip_putMark_26    (x1 : Int) (M : am_M) : Option (am_M) := ob (Trip_isPlace_26 (M 26 11) M) fun v1 => c_eq (v1) (0)
       (Trip_putMark_26_24     M)
       (rd M 31 100 (M 26 11) fun v2 => wa M 31 100 (M 26 11) (b_or (v2) (x1)) fun M3 => (Trip_putMark_26_24     M3))
theorem Trip_putMark_26_24_t {L : Nat} {xs : Nat → Int} {d : Nat} (hd : 1 ≤ d)      (M : am_M) (r : am_M) (h : Trip_putMark_26_24     M = some r) : am_Ev L xs d me_92 24 [] [] 126 138 M (none, 126, 138, r) := by
  refine ev_k (pc' := 24) (ls' := []) (st' := []) (nc' := 126) (np' := 138) (M' := M) 0 rfl ?_
  cases h
  exact ev_ret rfl
theorem Trip_putMark_26_e {L : Nat} {xs : Nat → Int} {d : Nat} (hd : 1 ≤ d)   (x1 : Int) (M : am_M) (r : am_M) (h : Trip_putMark_26   x1 M = some r) : am_Ev L xs d me_92 0 (am_ar1 0 [.inr (.inr (some 26)), .inl (x1)]) [] 126 138 M (none, 126, 138, r) := by
  refine ev_k (pc' := 5) (ls' := [(0, .inr (.inr (some 26))), (1, .inl (x1))]) (st' := [.inl (M 26 11), .inr (.inr (some 26))]) (nc' := 126) (np' := 138) (M' := M) 3 rfl ?_
  obtain ⟨v1, hv, h⟩ := ob_i h
  refine ev_call (t := 32) (as := [.inr (.inr (some 26)), .inl (M 26 11)]) (rest := []) rfl rfl rfl (by omega) (Trip_isPlace_26_e (by omega) (M 26 11) M _ hv) ?_
  refine ev_k (pc' := 8) (ls' := [(0, .inr (.inr (some 26))), (1, .inl (x1))]) (st' := [.inl (v1)]) (nc' := 126) (np' := 138) (M' := M) 0 rfl ?_
  obtain ⟨hR, ⟨hc, h⟩ | ⟨hc, h⟩⟩ := c_eq_i h
  · refine ev_ifc 24 rfl hR.1 (by decide) (fun _ => ?_) (fun q => absurd hc q)
    exact Trip_putMark_26_24_t hd      M r h
  · refine ev_ifc 24 rfl hR.1 (by decide) (fun q => absurd q hc) (fun _ => ?_)
    refine ev_k (pc' := 20) (ls' := [(0, .inr (.inr (some 26))), (1, .inl (x1))]) (st' := [.inl (M 26 11), .inr (.inr (some 31)), .inl (M 26 11), .inr (.inr (some 31))]) (nc' := 126) (np' := 138) (M' := M) 5 rfl ?_
    obtain ⟨hc, v2, ev, h⟩ := rd_i h
    refine ev_ald (k := 31) (t := 0) (Or.inl ⟨rfl, rfl⟩) rfl (by decide) (by decide) rfl hc ev ?_
    refine ev_k (pc' := 23) (ls' := [(0, .inr (.inr (some 26))), (1, .inl (x1))]) (st' := [.inl (b_or (v2) (x1)), .inl (M 26 11), .inr (.inr (some 31))]) (nc' := 126) (np' := 138) (M' := M) 2 rfl ?_
    obtain ⟨hc, M3, eM, h⟩ := wa_i h
    refine ev_iast (k := 31) rfl (by decide) rfl hc eM ?_
    exact Trip_putMark_26_24_t hd      M3 r h
def Outing_mark_50_26_27     (M : am_M) : Option (am_M) := some (M)
def Outing_mark_50_26    (x2 : Int) (M : am_M) : Option (am_M) := ob (Trip_marksAt_26 (M 26 11) M) fun v1 => c_ne (b_and (v1) (x2)) (0)
       (Outing_mark_50_26_27     M)
       (oc (Outing_spend_50_26 (2) M) fun v2 M3 => c_eq (v2) (0)
       (Outing_mark_50_26_27     M3)
       (ob (Trip_putMark_26 (x2) M3) fun M4 => (Outing_mark_50_26_27     M4)))
theorem Outing_mark_50_26_27_t {L : Nat} {xs : Nat → Int} {d : Nat} (hd : 2 ≤ d)      (M : am_M) (r : am_M) (h : Outing_mark_50_26_27     M = some r) : am_Ev L xs d me_90 27 [] [] 126 138 M (none, 126, 138, r) := by
  refine ev_k (pc' := 27) (ls' := []) (st' := []) (nc' := 126) (np' := 138) (M' := M) 0 rfl ?_
  cases h
  exact ev_ret rfl
theorem Outing_mark_50_26_e {L : Nat} {xs : Nat → Int} {d : Nat} (hd : 2 ≤ d)   (x2 : Int) (M : am_M) (r : am_M) (h : Outing_mark_50_26   x2 M = some r) : am_Ev L xs d me_90 0 (am_ar1 0 [.inr (.inr (some 50)), .inr (.inr (some 26)), .inl (x2)]) [] 126 138 M (none, 126, 138, r) := by
  refine ev_k (pc' := 5) (ls' := [(0, .inr (.inr (some 50))), (1, .inr (.inr (some 26))), (2, .inl (x2))]) (st' := [.inl (M 26 11), .inr (.inr (some 26))]) (nc' := 126) (np' := 138) (M' := M) 3 rfl ?_
  obtain ⟨v1, hv, h⟩ := ob_i h
  refine ev_call (t := 91) (as := [.inr (.inr (some 26)), .inl (M 26 11)]) (rest := []) rfl rfl rfl (by omega) (Trip_marksAt_26_e (by omega) (M 26 11) M _ hv) ?_
  refine ev_k (pc' := 10) (ls' := [(0, .inr (.inr (some 50))), (1, .inr (.inr (some 26))), (2, .inl (x2))]) (st' := [.inl (b_and (v1) (x2))]) (nc' := 126) (np' := 138) (M' := M) 2 rfl ?_
  obtain ⟨hR, ⟨hc, h⟩ | ⟨hc, h⟩⟩ := c_ne_i h
  · refine ev_ifc 27 rfl hR.1 (by decide) (fun _ => ?_) (fun q => absurd hc q)
    exact Outing_mark_50_26_27_t hd      M r h
  · refine ev_ifc 27 rfl hR.1 (by decide) (fun q => absurd q hc) (fun _ => ?_)
    refine ev_k (pc' := 16) (ls' := [(0, .inr (.inr (some 50))), (1, .inr (.inr (some 26))), (2, .inl (x2))]) (st' := [.inl (2), .inr (.inr (some 26)), .inr (.inr (some 50))]) (nc' := 126) (np' := 138) (M' := M) 3 rfl ?_
    obtain ⟨v2, M3, hv, h⟩ := oc_i h
    refine ev_call (t := 81) (as := [.inr (.inr (some 50)), .inr (.inr (some 26)), .inl (2)]) (rest := []) rfl rfl rfl (by omega) (Outing_spend_50_26_e (by omega) (2) M _ hv) ?_
    refine ev_k (pc' := 19) (ls' := [(0, .inr (.inr (some 50))), (1, .inr (.inr (some 26))), (2, .inl (x2))]) (st' := [.inl (v2)]) (nc' := 126) (np' := 138) (M' := M3) 0 rfl ?_
    obtain ⟨hR, ⟨hc, h⟩ | ⟨hc, h⟩⟩ := c_eq_i h
    · refine ev_ifc 27 rfl hR.1 (by decide) (fun _ => ?_) (fun q => absurd hc q)
      exact Outing_mark_50_26_27_t hd      M3 r h
    · refine ev_ifc 27 rfl hR.1 (by decide) (fun q => absurd q hc) (fun _ => ?_)
      refine ev_k (pc' := 24) (ls' := [(0, .inr (.inr (some 50))), (1, .inr (.inr (some 26))), (2, .inl (x2))]) (st' := [.inl (x2), .inr (.inr (some 26))]) (nc' := 126) (np' := 138) (M' := M3) 2 rfl ?_
      obtain ⟨M4, hv, h⟩ := ob_i h
      refine ev_call (t := 92) (as := [.inr (.inr (some 26)), .inl (x2)]) (rest := []) rfl rfl rfl (by omega) (Trip_putMark_26_e (by omega) (x2) M3 _ hv) ?_
      exact Outing_mark_50_26_27_t hd      M4 r h
def Trip_sticksAt_26_18    (s0 : Int) (M : am_M) : Option (Int) := some (s0)
def Trip_sticksAt_26    (x1 : Int) (M : am_M) : Option (Int) := ob (Trip_isPlace_26 (x1) M) fun v1 => c_eq (v1) (0)
       ((Trip_sticksAt_26_18    (0) M))
       (rd M 32 100 (x1) fun v2 => (Trip_sticksAt_26_18    (v2) M))
theorem Trip_sticksAt_26_18_t {L : Nat} {xs : Nat → Int} {d : Nat} (hd : 1 ≤ d)     (s0 : Int) (M : am_M) (r : Int) (h : Trip_sticksAt_26_18    s0 M = some r) : am_Ev L xs d me_94 18 [] [.inl (s0)] 126 138 M (some (.inl r), 126, 138, M) := by
  refine ev_k (pc' := 18) (ls' := []) (st' := [.inl (s0)]) (nc' := 126) (np' := 138) (M' := M) 0 rfl ?_
  cases h
  exact ev_ret rfl
theorem Trip_sticksAt_26_e {L : Nat} {xs : Nat → Int} {d : Nat} (hd : 1 ≤ d)   (x1 : Int) (M : am_M) (r : Int) (h : Trip_sticksAt_26   x1 M = some r) : am_Ev L xs d me_94 0 (am_ar1 0 [.inr (.inr (some 26)), .inl (x1)]) [] 126 138 M (some (.inl r), 126, 138, M) := by
  refine ev_k (pc' := 2) (ls' := [(0, .inr (.inr (some 26))), (1, .inl (x1))]) (st' := [.inl (x1), .inr (.inr (some 26))]) (nc' := 126) (np' := 138) (M' := M) 2 rfl ?_
  obtain ⟨v1, hv, h⟩ := ob_i h
  refine ev_call (t := 32) (as := [.inr (.inr (some 26)), .inl (x1)]) (rest := []) rfl rfl rfl (by omega) (Trip_isPlace_26_e (by omega) (x1) M _ hv) ?_
  refine ev_k (pc' := 5) (ls' := [(0, .inr (.inr (some 26))), (1, .inl (x1))]) (st' := [.inl (v1)]) (nc' := 126) (np' := 138) (M' := M) 0 rfl ?_
  obtain ⟨hR, ⟨hc, h⟩ | ⟨hc, h⟩⟩ := c_eq_i h
  · refine ev_ifc 17 rfl hR.1 (by decide) (fun _ => ?_) (fun q => absurd hc q)
    refine ev_k (pc' := 18) (ls' := []) (st' := [.inl (0)]) (nc' := 126) (np' := 138) (M' := M) 1 rfl ?_
    exact Trip_sticksAt_26_18_t hd     (0) M r h
  · refine ev_ifc 17 rfl hR.1 (by decide) (fun q => absurd q hc) (fun _ => ?_)
    refine ev_k (pc' := 13) (ls' := [(0, .inr (.inr (some 26))), (1, .inl (x1))]) (st' := [.inl (x1), .inr (.inr (some 32))]) (nc' := 126) (np' := 138) (M' := M) 3 rfl ?_
    obtain ⟨hc, v2, ev, h⟩ := rd_i h
    refine ev_ald (k := 32) (t := 0) (Or.inl ⟨rfl, rfl⟩) rfl (by decide) (by decide) rfl hc ev ?_
    refine ev_k (pc' := 18) (ls' := []) (st' := [.inl (v2)]) (nc' := 126) (np' := 138) (M' := M) 1 rfl ?_
    exact Trip_sticksAt_26_18_t hd     (v2) M r h
def Trip_putStick_26_21     (M : am_M) : Option (am_M) := some (M)
def Trip_putStick_26     (M : am_M) : Option (am_M) := ob (Trip_isPlace_26 (M 26 11) M) fun v1 => c_eq (v1) (0)
       (Trip_putStick_26_21     M)
       (wa M 32 100 (M 26 11) (1) fun M2 => (Trip_putStick_26_21     M2))
theorem Trip_putStick_26_21_t {L : Nat} {xs : Nat → Int} {d : Nat} (hd : 1 ≤ d)      (M : am_M) (r : am_M) (h : Trip_putStick_26_21     M = some r) : am_Ev L xs d me_95 21 [] [] 126 138 M (none, 126, 138, r) := by
  refine ev_k (pc' := 21) (ls' := []) (st' := []) (nc' := 126) (np' := 138) (M' := M) 0 rfl ?_
  cases h
  exact ev_ret rfl
theorem Trip_putStick_26_e {L : Nat} {xs : Nat → Int} {d : Nat} (hd : 1 ≤ d)    (M : am_M) (r : am_M) (h : Trip_putStick_26    M = some r) : am_Ev L xs d me_95 0 (am_ar1 0 [.inr (.inr (some 26))]) [] 126 138 M (none, 126, 138, r) := by
  refine ev_k (pc' := 5) (ls' := [(0, .inr (.inr (some 26)))]) (st' := [.inl (M 26 11), .inr (.inr (some 26))]) (nc' := 126) (np' := 138) (M' := M) 3 rfl ?_
  obtain ⟨v1, hv, h⟩ := ob_i h
  refine ev_call (t := 32) (as := [.inr (.inr (some 26)), .inl (M 26 11)]) (rest := []) rfl rfl rfl (by omega) (Trip_isPlace_26_e (by omega) (M 26 11) M _ hv) ?_
  refine ev_k (pc' := 8) (ls' := [(0, .inr (.inr (some 26)))]) (st' := [.inl (v1)]) (nc' := 126) (np' := 138) (M' := M) 0 rfl ?_
  obtain ⟨hR, ⟨hc, h⟩ | ⟨hc, h⟩⟩ := c_eq_i h
  · refine ev_ifc 21 rfl hR.1 (by decide) (fun _ => ?_) (fun q => absurd hc q)
    exact Trip_putStick_26_21_t hd      M r h
  · refine ev_ifc 21 rfl hR.1 (by decide) (fun q => absurd q hc) (fun _ => ?_)
    refine ev_k (pc' := 20) (ls' := [(0, .inr (.inr (some 26)))]) (st' := [.inl (1), .inl (M 26 11), .inr (.inr (some 32))]) (nc' := 126) (np' := 138) (M' := M) 5 rfl ?_
    obtain ⟨hc, M2, eM, h⟩ := wa_i h
    refine ev_iast (k := 32) rfl (by decide) rfl hc eM ?_
    exact Trip_putStick_26_21_t hd      M2 r h
def Outing_lay_50_26_24     (M : am_M) : Option (am_M) := some (M)
def Outing_lay_50_26     (M : am_M) : Option (am_M) := ob (Trip_sticksAt_26 (M 26 11) M) fun v1 => c_ne (v1) (0)
       (Outing_lay_50_26_24     M)
       (oc (Outing_spend_50_26 (1) M) fun v2 M3 => c_eq (v2) (0)
       (Outing_lay_50_26_24     M3)
       (ob (Trip_putStick_26  M3) fun M4 => (Outing_lay_50_26_24     M4)))
theorem Outing_lay_50_26_24_t {L : Nat} {xs : Nat → Int} {d : Nat} (hd : 2 ≤ d)      (M : am_M) (r : am_M) (h : Outing_lay_50_26_24     M = some r) : am_Ev L xs d me_93 24 [] [] 126 138 M (none, 126, 138, r) := by
  refine ev_k (pc' := 24) (ls' := []) (st' := []) (nc' := 126) (np' := 138) (M' := M) 0 rfl ?_
  cases h
  exact ev_ret rfl
theorem Outing_lay_50_26_e {L : Nat} {xs : Nat → Int} {d : Nat} (hd : 2 ≤ d)    (M : am_M) (r : am_M) (h : Outing_lay_50_26    M = some r) : am_Ev L xs d me_93 0 (am_ar1 0 [.inr (.inr (some 50)), .inr (.inr (some 26))]) [] 126 138 M (none, 126, 138, r) := by
  refine ev_k (pc' := 5) (ls' := [(0, .inr (.inr (some 50))), (1, .inr (.inr (some 26)))]) (st' := [.inl (M 26 11), .inr (.inr (some 26))]) (nc' := 126) (np' := 138) (M' := M) 3 rfl ?_
  obtain ⟨v1, hv, h⟩ := ob_i h
  refine ev_call (t := 94) (as := [.inr (.inr (some 26)), .inl (M 26 11)]) (rest := []) rfl rfl rfl (by omega) (Trip_sticksAt_26_e (by omega) (M 26 11) M _ hv) ?_
  refine ev_k (pc' := 8) (ls' := [(0, .inr (.inr (some 50))), (1, .inr (.inr (some 26)))]) (st' := [.inl (v1)]) (nc' := 126) (np' := 138) (M' := M) 0 rfl ?_
  obtain ⟨hR, ⟨hc, h⟩ | ⟨hc, h⟩⟩ := c_ne_i h
  · refine ev_ifc 24 rfl hR.1 (by decide) (fun _ => ?_) (fun q => absurd hc q)
    exact Outing_lay_50_26_24_t hd      M r h
  · refine ev_ifc 24 rfl hR.1 (by decide) (fun q => absurd q hc) (fun _ => ?_)
    refine ev_k (pc' := 14) (ls' := [(0, .inr (.inr (some 50))), (1, .inr (.inr (some 26)))]) (st' := [.inl (1), .inr (.inr (some 26)), .inr (.inr (some 50))]) (nc' := 126) (np' := 138) (M' := M) 3 rfl ?_
    obtain ⟨v2, M3, hv, h⟩ := oc_i h
    refine ev_call (t := 81) (as := [.inr (.inr (some 50)), .inr (.inr (some 26)), .inl (1)]) (rest := []) rfl rfl rfl (by omega) (Outing_spend_50_26_e (by omega) (1) M _ hv) ?_
    refine ev_k (pc' := 17) (ls' := [(0, .inr (.inr (some 50))), (1, .inr (.inr (some 26)))]) (st' := [.inl (v2)]) (nc' := 126) (np' := 138) (M' := M3) 0 rfl ?_
    obtain ⟨hR, ⟨hc, h⟩ | ⟨hc, h⟩⟩ := c_eq_i h
    · refine ev_ifc 24 rfl hR.1 (by decide) (fun _ => ?_) (fun q => absurd hc q)
      exact Outing_lay_50_26_24_t hd      M3 r h
    · refine ev_ifc 24 rfl hR.1 (by decide) (fun q => absurd q hc) (fun _ => ?_)
      refine ev_k (pc' := 21) (ls' := [(0, .inr (.inr (some 50))), (1, .inr (.inr (some 26)))]) (st' := [.inr (.inr (some 26))]) (nc' := 126) (np' := 138) (M' := M3) 1 rfl ?_
      obtain ⟨M4, hv, h⟩ := ob_i h
      refine ev_call (t := 95) (as := [.inr (.inr (some 26))]) (rest := []) rfl rfl rfl (by omega) (Trip_putStick_26_e (by omega)  M3 _ hv) ?_
      exact Outing_lay_50_26_24_t hd      M4 r h
def Country_neighbour_80    (s0 : Int) (M : am_M) : Option (Int) := some (s0)
def Country_neighbour_105    (s0 : Int) (M : am_M) : Option (Int) := some (s0)
def Country_neighbour_66    (s0 : Int) (M : am_M) : Option (Int) := some (s0)
def Country_neighbour_93    (s0 : Int) (M : am_M) : Option (Int) := some (s0)
def Country_neighbour    (x0 : Int) (x1 : Int) (M : am_M) : Option (Int) := ob (Country_isCell (x0) M) fun v1 => c_ne (v1) (0)
       (ck (am_R (x0) ∧ am_R (12) ∧ ((12) : Int) ≠ 0) (tw (Int.tmod (x0) (12)) fun v2 => ck (am_R (x0) ∧ am_R (12) ∧ ((12) : Int) ≠ 0) (tw (Int.tdiv (x0) (12)) fun v3 => ck (am_R (x1)) ((if (x1) = (0) then
       (c_ge (v3) (11)
       ((Country_neighbour_66    (-1) M))
       ((Country_neighbour_66    ((x0) + (12)) M))) else
       (if (x1) = (1) then
       (c_ge (v2) (11)
       ((Country_neighbour_80    (-1) M))
       ((Country_neighbour_80    ((x0) + (1)) M))) else
       (if (x1) = (2) then
       (c_le (v3) (0)
       ((Country_neighbour_93    (-1) M))
       ((Country_neighbour_93    ((x0) - (12)) M))) else
       (if (x1) = (3) then
       (c_le (v2) (0)
       ((Country_neighbour_105    (-1) M))
       ((Country_neighbour_105    ((x0) - (1)) M))) else
       (some (-1))))))))))
       (some (-1))
theorem Country_neighbour_80_t {L : Nat} {xs : Nat → Int} {d : Nat} (hd : 1 ≤ d)     (s0 : Int) (M : am_M) (r : Int) (h : Country_neighbour_80    s0 M = some r) : am_Ev L xs d me_97 80 [] [.inl (s0)] 126 138 M (some (.inl r), 126, 138, M) := by
  refine ev_k (pc' := 80) (ls' := []) (st' := [.inl (s0)]) (nc' := 126) (np' := 138) (M' := M) 0 rfl ?_
  cases h
  exact ev_ret rfl
theorem Country_neighbour_105_t {L : Nat} {xs : Nat → Int} {d : Nat} (hd : 1 ≤ d)     (s0 : Int) (M : am_M) (r : Int) (h : Country_neighbour_105    s0 M = some r) : am_Ev L xs d me_97 105 [] [.inl (s0)] 126 138 M (some (.inl r), 126, 138, M) := by
  refine ev_k (pc' := 105) (ls' := []) (st' := [.inl (s0)]) (nc' := 126) (np' := 138) (M' := M) 0 rfl ?_
  cases h
  exact ev_ret rfl
theorem Country_neighbour_66_t {L : Nat} {xs : Nat → Int} {d : Nat} (hd : 1 ≤ d)     (s0 : Int) (M : am_M) (r : Int) (h : Country_neighbour_66    s0 M = some r) : am_Ev L xs d me_97 66 [] [.inl (s0)] 126 138 M (some (.inl r), 126, 138, M) := by
  refine ev_k (pc' := 66) (ls' := []) (st' := [.inl (s0)]) (nc' := 126) (np' := 138) (M' := M) 0 rfl ?_
  cases h
  exact ev_ret rfl
theorem Country_neighbour_93_t {L : Nat} {xs : Nat → Int} {d : Nat} (hd : 1 ≤ d)     (s0 : Int) (M : am_M) (r : Int) (h : Country_neighbour_93    s0 M = some r) : am_Ev L xs d me_97 93 [] [.inl (s0)] 126 138 M (some (.inl r), 126, 138, M) := by
  refine ev_k (pc' := 93) (ls' := []) (st' := [.inl (s0)]) (nc' := 126) (np' := 138) (M' := M) 0 rfl ?_
  cases h
  exact ev_ret rfl
theorem Country_neighbour_e {L : Nat} {xs : Nat → Int} {d : Nat} (hd : 1 ≤ d)   (x0 : Int) (x1 : Int) (M : am_M) (r : Int) (h : Country_neighbour   x0 x1 M = some r) : am_Ev L xs d me_97 0 (am_ar1 0 [.inl (x0), .inl (x1)]) [] 126 138 M (some (.inl r), 126, 138, M) := by
  refine ev_k (pc' := 1) (ls' := [(0, .inl (x0)), (1, .inl (x1))]) (st' := [.inl (x0)]) (nc' := 126) (np' := 138) (M' := M) 1 rfl ?_
  obtain ⟨v1, hv, h⟩ := ob_i h
  refine ev_call (t := 9) (as := [.inl (x0)]) (rest := []) rfl rfl rfl (by omega) (Country_isCell_e (by omega) (x0) M _ hv) ?_
  refine ev_k (pc' := 4) (ls' := [(0, .inl (x0)), (1, .inl (x1))]) (st' := [.inl (v1)]) (nc' := 126) (np' := 138) (M' := M) 0 rfl ?_
  obtain ⟨hR, ⟨hc, h⟩ | ⟨hc, h⟩⟩ := c_ne_i h
  · refine ev_ifc 9 rfl hR.1 (by decide) (fun _ => ?_) (fun q => absurd hc q)
    refine ev_k (pc' := 12) (ls' := [(0, .inl (x0)), (1, .inl (x1))]) (st' := [.inl (12), .inl (x0)]) (nc' := 126) (np' := 138) (M' := M) 2 rfl ?_
    obtain ⟨hc, h⟩ := ck_i h
    obtain ⟨v2, ev, h⟩ := tw_i h
    refine ev_irem rfl hc ?_
    refine ev_k (pc' := 13) (ls' := [(0, .inl (x0)), (1, .inl (x1))]) (st' := [.inl (Int.tmod (x0) (12))]) (nc' := 126) (np' := 138) (M' := M) 0 rfl ?_
    rw [← ev]
    refine ev_k (pc' := 17) (ls' := [(2, .inl (v2)), (0, .inl (x0)), (1, .inl (x1))]) (st' := [.inl (12), .inl (x0)]) (nc' := 126) (np' := 138) (M' := M) 3 rfl ?_
    obtain ⟨hc, h⟩ := ck_i h
    obtain ⟨v3, ev, h⟩ := tw_i h
    refine ev_idiv rfl hc ?_
    refine ev_k (pc' := 18) (ls' := [(2, .inl (v2)), (0, .inl (x0)), (1, .inl (x1))]) (st' := [.inl (Int.tdiv (x0) (12))]) (nc' := 126) (np' := 138) (M' := M) 0 rfl ?_
    rw [← ev]
    refine ev_k (pc' := 20) (ls' := [(3, .inl (v3)), (2, .inl (v2)), (0, .inl (x0)), (1, .inl (x1))]) (st' := [.inl (x1)]) (nc' := 126) (np' := 138) (M' := M) 2 rfl ?_
    obtain ⟨hR, h⟩ := ck_i h
    rcases if_i h with ⟨hq, h⟩ | ⟨hq0, h⟩
    · refine ev_tsw 52 rfl hR (32) (Or.inr ⟨by rw [hq]; decide, by rw [hq]; rfl⟩) (by decide) ?_
      refine ev_k (pc' := 55) (ls' := [(3, .inl (v3)), (2, .inl (v2)), (0, .inl (x0)), (1, .inl (x1))]) (st' := [.inl (11), .inl (v3)]) (nc' := 126) (np' := 138) (M' := M) 2 rfl ?_
      obtain ⟨hR, ⟨hc, h⟩ | ⟨hc, h⟩⟩ := c_ge_i h
      · refine ev_icmp 65 rfl hR.1 hR.2 (by decide) (fun _ => ?_) (fun q => absurd hc q)
        refine ev_k (pc' := 66) (ls' := []) (st' := [.inl (-1)]) (nc' := 126) (np' := 138) (M' := M) 1 rfl ?_
        exact Country_neighbour_66_t hd     (-1) M r h
      · refine ev_icmp 65 rfl hR.1 hR.2 (by decide) (fun q => absurd q hc) (fun _ => ?_)
        refine ev_k (pc' := 66) (ls' := []) (st' := [.inl ((x0) + (12))]) (nc' := 126) (np' := 138) (M' := M) 4 rfl ?_
        exact Country_neighbour_66_t hd     ((x0) + (12)) M r h
    · skip
      rcases if_i h with ⟨hq, h⟩ | ⟨hq1, h⟩
      · refine ev_tsw 67 rfl hR (47) (Or.inr ⟨by rw [hq]; decide, by rw [hq]; rfl⟩) (by decide) ?_
        refine ev_k (pc' := 70) (ls' := [(3, .inl (v3)), (2, .inl (v2)), (0, .inl (x0)), (1, .inl (x1))]) (st' := [.inl (11), .inl (v2)]) (nc' := 126) (np' := 138) (M' := M) 2 rfl ?_
        obtain ⟨hR, ⟨hc, h⟩ | ⟨hc, h⟩⟩ := c_ge_i h
        · refine ev_icmp 79 rfl hR.1 hR.2 (by decide) (fun _ => ?_) (fun q => absurd hc q)
          refine ev_k (pc' := 80) (ls' := []) (st' := [.inl (-1)]) (nc' := 126) (np' := 138) (M' := M) 1 rfl ?_
          exact Country_neighbour_80_t hd     (-1) M r h
        · refine ev_icmp 79 rfl hR.1 hR.2 (by decide) (fun q => absurd q hc) (fun _ => ?_)
          refine ev_k (pc' := 80) (ls' := []) (st' := [.inl ((x0) + (1))]) (nc' := 126) (np' := 138) (M' := M) 4 rfl ?_
          exact Country_neighbour_80_t hd     ((x0) + (1)) M r h
      · skip
        rcases if_i h with ⟨hq, h⟩ | ⟨hq2, h⟩
        · refine ev_tsw 81 rfl hR (61) (Or.inr ⟨by rw [hq]; decide, by rw [hq]; rfl⟩) (by decide) ?_
          refine ev_k (pc' := 82) (ls' := [(3, .inl (v3)), (2, .inl (v2)), (0, .inl (x0)), (1, .inl (x1))]) (st' := [.inl (v3)]) (nc' := 126) (np' := 138) (M' := M) 1 rfl ?_
          obtain ⟨hR, ⟨hc, h⟩ | ⟨hc, h⟩⟩ := c_le_i h
          · refine ev_ifc 92 rfl hR.1 (by decide) (fun _ => ?_) (fun q => absurd hc q)
            refine ev_k (pc' := 93) (ls' := []) (st' := [.inl (-1)]) (nc' := 126) (np' := 138) (M' := M) 1 rfl ?_
            exact Country_neighbour_93_t hd     (-1) M r h
          · refine ev_ifc 92 rfl hR.1 (by decide) (fun q => absurd q hc) (fun _ => ?_)
            refine ev_k (pc' := 93) (ls' := []) (st' := [.inl ((x0) - (12))]) (nc' := 126) (np' := 138) (M' := M) 4 rfl ?_
            exact Country_neighbour_93_t hd     ((x0) - (12)) M r h
        · skip
          rcases if_i h with ⟨hq, h⟩ | ⟨hq3, h⟩
          · refine ev_tsw 94 rfl hR (74) (Or.inr ⟨by rw [hq]; decide, by rw [hq]; rfl⟩) (by decide) ?_
            refine ev_k (pc' := 95) (ls' := [(3, .inl (v3)), (2, .inl (v2)), (0, .inl (x0)), (1, .inl (x1))]) (st' := [.inl (v2)]) (nc' := 126) (np' := 138) (M' := M) 1 rfl ?_
            obtain ⟨hR, ⟨hc, h⟩ | ⟨hc, h⟩⟩ := c_le_i h
            · refine ev_ifc 104 rfl hR.1 (by decide) (fun _ => ?_) (fun q => absurd hc q)
              refine ev_k (pc' := 105) (ls' := []) (st' := [.inl (-1)]) (nc' := 126) (np' := 138) (M' := M) 1 rfl ?_
              exact Country_neighbour_105_t hd     (-1) M r h
            · refine ev_ifc 104 rfl hR.1 (by decide) (fun q => absurd q hc) (fun _ => ?_)
              refine ev_k (pc' := 105) (ls' := []) (st' := [.inl ((x0) - (1))]) (nc' := 126) (np' := 138) (M' := M) 4 rfl ?_
              exact Country_neighbour_105_t hd     ((x0) - (1)) M r h
          · skip
            have hho : ((x1) < 0 ∨ 3 < (x1)) ∨ ((x1) = 0 ∨ (x1) = 1 ∨ (x1) = 2 ∨ (x1) = 3) := by omega
            refine ev_tsw 106 rfl hR (86) ?_ (by decide) ?_
            · rcases hho with hho | hho
              · exact Or.inl ⟨hho, rfl⟩
              · rcases hho with hho | hho | hho | hho
                · exact absurd hho hq0
                · exact absurd hho hq1
                · exact absurd hho hq2
                · exact absurd hho hq3
            · skip
              refine ev_k (pc' := 107) (ls' := [(3, .inl (v3)), (2, .inl (v2)), (0, .inl (x0)), (1, .inl (x1))]) (st' := [.inl (-1)]) (nc' := 126) (np' := 138) (M' := M) 1 rfl ?_
              cases h
              exact ev_ret rfl
  · refine ev_ifc 9 rfl hR.1 (by decide) (fun q => absurd q hc) (fun _ => ?_)
    refine ev_k (pc' := 8) (ls' := [(0, .inl (x0)), (1, .inl (x1))]) (st' := [.inl (-1)]) (nc' := 126) (np' := 138) (M' := M) 1 rfl ?_
    cases h
    exact ev_ret rfl
def Trip_isOnPath_26_21    (s0 : Int) (M : am_M) : Option (Int) := ck ((s0) = 0 ∨ (s0) = 1) (some (s0))
def Trip_isOnPath_26_20     (M : am_M) : Option (Int) := (Trip_isOnPath_26_21    (0) M)
def Trip_isOnPath_26    (x1 : Int) (M : am_M) : Option (Int) := ob (Country_isCell (x1) M) fun v1 => c_eq (v1) (0)
       (Trip_isOnPath_26_20     M)
       (rd M 33 144 (x1) fun v2 => c_eq (v2) (0)
       (Trip_isOnPath_26_20     M)
       ((Trip_isOnPath_26_21    (1) M)))
theorem Trip_isOnPath_26_21_t {L : Nat} {xs : Nat → Int} {d : Nat} (hd : 1 ≤ d)     (s0 : Int) (M : am_M) (r : Int) (h : Trip_isOnPath_26_21    s0 M = some r) : am_Ev L xs d me_104 21 [] [.inl (s0)] 126 138 M (some (.inl r), 126, 138, M) := by
  refine ev_k (pc' := 21) (ls' := []) (st' := [.inl (s0)]) (nc' := 126) (np' := 138) (M' := M) 0 rfl ?_
  obtain ⟨hc, h⟩ := ck_i h
  cases h
  exact ev_retz rfl rfl hc
theorem Trip_isOnPath_26_20_t {L : Nat} {xs : Nat → Int} {d : Nat} (hd : 1 ≤ d)      (M : am_M) (r : Int) (h : Trip_isOnPath_26_20     M = some r) : am_Ev L xs d me_104 20 [] [] 126 138 M (some (.inl r), 126, 138, M) := by
  refine ev_k (pc' := 21) (ls' := []) (st' := [.inl (0)]) (nc' := 126) (np' := 138) (M' := M) 1 rfl ?_
  exact Trip_isOnPath_26_21_t hd     (0) M r h
theorem Trip_isOnPath_26_e {L : Nat} {xs : Nat → Int} {d : Nat} (hd : 1 ≤ d)   (x1 : Int) (M : am_M) (r : Int) (h : Trip_isOnPath_26   x1 M = some r) : am_Ev L xs d me_104 0 (am_ar1 0 [.inr (.inr (some 26)), .inl (x1)]) [] 126 138 M (some (.inl r), 126, 138, M) := by
  refine ev_k (pc' := 1) (ls' := [(0, .inr (.inr (some 26))), (1, .inl (x1))]) (st' := [.inl (x1)]) (nc' := 126) (np' := 138) (M' := M) 1 rfl ?_
  obtain ⟨v1, hv, h⟩ := ob_i h
  refine ev_call (t := 9) (as := [.inl (x1)]) (rest := []) rfl rfl rfl (by omega) (Country_isCell_e (by omega) (x1) M _ hv) ?_
  refine ev_k (pc' := 4) (ls' := [(0, .inr (.inr (some 26))), (1, .inl (x1))]) (st' := [.inl (v1)]) (nc' := 126) (np' := 138) (M' := M) 0 rfl ?_
  obtain ⟨hR, ⟨hc, h⟩ | ⟨hc, h⟩⟩ := c_eq_i h
  · refine ev_ifc 20 rfl hR.1 (by decide) (fun _ => ?_) (fun q => absurd hc q)
    exact Trip_isOnPath_26_20_t hd      M r h
  · refine ev_ifc 20 rfl hR.1 (by decide) (fun q => absurd q hc) (fun _ => ?_)
    refine ev_k (pc' := 12) (ls' := [(0, .inr (.inr (some 26))), (1, .inl (x1))]) (st' := [.inl (x1), .inr (.inr (some 33))]) (nc' := 126) (np' := 138) (M' := M) 3 rfl ?_
    obtain ⟨hc, v2, ev, h⟩ := rd_i h
    refine ev_ald (k := 33) (t := 0) (Or.inl ⟨rfl, rfl⟩) rfl (by decide) (by decide) rfl hc ev ?_
    refine ev_k (pc' := 13) (ls' := [(0, .inr (.inr (some 26))), (1, .inl (x1))]) (st' := [.inl (v2)]) (nc' := 126) (np' := 138) (M' := M) 0 rfl ?_
    obtain ⟨hR, ⟨hc, h⟩ | ⟨hc, h⟩⟩ := c_eq_i h
    · refine ev_ifc 20 rfl hR.1 (by decide) (fun _ => ?_) (fun q => absurd hc q)
      exact Trip_isOnPath_26_20_t hd      M r h
    · refine ev_ifc 20 rfl hR.1 (by decide) (fun q => absurd q hc) (fun _ => ?_)
      refine ev_k (pc' := 21) (ls' := []) (st' := [.inl (1)]) (nc' := 126) (np' := 138) (M' := M) 2 rfl ?_
      exact Trip_isOnPath_26_21_t hd     (1) M r h
def Outing_canCut_50_26_60    (s0 : Int) (M : am_M) : Option (Int) := ck ((s0) = 0 ∨ (s0) = 1) (some (s0))
def Outing_canCut_50_26_59     (M : am_M) : Option (Int) := (Outing_canCut_50_26_60    (0) M)
def Outing_canCut_50_26    (x2 : Int) (M : am_M) : Option (Int) := c_ne (M 26 11) ((M 26 10) - (1))
       (Outing_canCut_50_26_59     M)
       (c_ge (M 26 10) (100)
       (Outing_canCut_50_26_59     M)
       (ob (Country_isTold_1 (M 26 9) M) fun v1 => c_eq (v1) (0)
       (Outing_canCut_50_26_59     M)
       (ob (Country_isBarred_1 (x2) M) fun v2 => c_ne (v2) (0)
       (Outing_canCut_50_26_59     M)
       (ob (Trip_isOnPath_26 (x2) M) fun v3 => c_ne (v3) (0)
       (Outing_canCut_50_26_59     M)
       ((Outing_canCut_50_26_60    (1) M))))))
theorem Outing_canCut_50_26_60_t {L : Nat} {xs : Nat → Int} {d : Nat} (hd : 2 ≤ d)     (s0 : Int) (M : am_M) (r : Int) (h : Outing_canCut_50_26_60    s0 M = some r) : am_Ev L xs d me_103 60 [] [.inl (s0)] 126 138 M (some (.inl r), 126, 138, M) := by
  refine ev_k (pc' := 60) (ls' := []) (st' := [.inl (s0)]) (nc' := 126) (np' := 138) (M' := M) 0 rfl ?_
  obtain ⟨hc, h⟩ := ck_i h
  cases h
  exact ev_retz rfl rfl hc
theorem Outing_canCut_50_26_59_t {L : Nat} {xs : Nat → Int} {d : Nat} (hd : 2 ≤ d)      (M : am_M) (r : Int) (h : Outing_canCut_50_26_59     M = some r) : am_Ev L xs d me_103 59 [] [] 126 138 M (some (.inl r), 126, 138, M) := by
  refine ev_k (pc' := 60) (ls' := []) (st' := [.inl (0)]) (nc' := 126) (np' := 138) (M' := M) 1 rfl ?_
  exact Outing_canCut_50_26_60_t hd     (0) M r h
theorem Outing_canCut_50_26_e {L : Nat} {xs : Nat → Int} {d : Nat} (hd : 2 ≤ d)   (x2 : Int) (M : am_M) (r : Int) (h : Outing_canCut_50_26   x2 M = some r) : am_Ev L xs d me_103 0 (am_ar1 0 [.inr (.inr (some 50)), .inr (.inr (some 26)), .inl (x2)]) [] 126 138 M (some (.inl r), 126, 138, M) := by
  refine ev_k (pc' := 10) (ls' := [(0, .inr (.inr (some 50))), (1, .inr (.inr (some 26))), (2, .inl (x2))]) (st' := [.inl ((M 26 10) - (1)), .inl (M 26 11)]) (nc' := 126) (np' := 138) (M' := M) 6 rfl ?_
  obtain ⟨hR, ⟨hc, h⟩ | ⟨hc, h⟩⟩ := c_ne_i h
  · refine ev_icmp 59 rfl hR.1 hR.2 (by decide) (fun _ => ?_) (fun q => absurd hc q)
    exact Outing_canCut_50_26_59_t hd      M r h
  · refine ev_icmp 59 rfl hR.1 hR.2 (by decide) (fun q => absurd q hc) (fun _ => ?_)
    refine ev_k (pc' := 19) (ls' := [(0, .inr (.inr (some 50))), (1, .inr (.inr (some 26))), (2, .inl (x2))]) (st' := [.inl (100), .inl (M 26 10)]) (nc' := 126) (np' := 138) (M' := M) 3 rfl ?_
    obtain ⟨hR, ⟨hc, h⟩ | ⟨hc, h⟩⟩ := c_ge_i h
    · refine ev_icmp 59 rfl hR.1 hR.2 (by decide) (fun _ => ?_) (fun q => absurd hc q)
      exact Outing_canCut_50_26_59_t hd      M r h
    · refine ev_icmp 59 rfl hR.1 hR.2 (by decide) (fun q => absurd q hc) (fun _ => ?_)
      refine ev_k (pc' := 30) (ls' := [(0, .inr (.inr (some 50))), (1, .inr (.inr (some 26))), (2, .inl (x2))]) (st' := [.inl (M 26 9), .inr (.inr (some 1))]) (nc' := 126) (np' := 138) (M' := M) 4 rfl ?_
      obtain ⟨v1, hv, h⟩ := ob_i h
      refine ev_call (t := 62) (as := [.inr (.inr (some 1)), .inl (M 26 9)]) (rest := []) rfl rfl rfl (by omega) (Country_isTold_1_e (by omega) (M 26 9) M _ hv) ?_
      refine ev_k (pc' := 33) (ls' := [(0, .inr (.inr (some 50))), (1, .inr (.inr (some 26))), (2, .inl (x2))]) (st' := [.inl (v1)]) (nc' := 126) (np' := 138) (M' := M) 0 rfl ?_
      obtain ⟨hR, ⟨hc, h⟩ | ⟨hc, h⟩⟩ := c_eq_i h
      · refine ev_ifc 59 rfl hR.1 (by decide) (fun _ => ?_) (fun q => absurd hc q)
        exact Outing_canCut_50_26_59_t hd      M r h
      · refine ev_ifc 59 rfl hR.1 (by decide) (fun q => absurd q hc) (fun _ => ?_)
        refine ev_k (pc' := 41) (ls' := [(0, .inr (.inr (some 50))), (1, .inr (.inr (some 26))), (2, .inl (x2))]) (st' := [.inl (x2), .inr (.inr (some 1))]) (nc' := 126) (np' := 138) (M' := M) 3 rfl ?_
        obtain ⟨v2, hv, h⟩ := ob_i h
        refine ev_call (t := 55) (as := [.inr (.inr (some 1)), .inl (x2)]) (rest := []) rfl rfl rfl (by omega) (Country_isBarred_1_e (by omega) (x2) M _ hv) ?_
        refine ev_k (pc' := 44) (ls' := [(0, .inr (.inr (some 50))), (1, .inr (.inr (some 26))), (2, .inl (x2))]) (st' := [.inl (v2)]) (nc' := 126) (np' := 138) (M' := M) 0 rfl ?_
        obtain ⟨hR, ⟨hc, h⟩ | ⟨hc, h⟩⟩ := c_ne_i h
        · refine ev_ifc 59 rfl hR.1 (by decide) (fun _ => ?_) (fun q => absurd hc q)
          exact Outing_canCut_50_26_59_t hd      M r h
        · refine ev_ifc 59 rfl hR.1 (by decide) (fun q => absurd q hc) (fun _ => ?_)
          refine ev_k (pc' := 49) (ls' := [(0, .inr (.inr (some 50))), (1, .inr (.inr (some 26))), (2, .inl (x2))]) (st' := [.inl (x2), .inr (.inr (some 26))]) (nc' := 126) (np' := 138) (M' := M) 2 rfl ?_
          obtain ⟨v3, hv, h⟩ := ob_i h
          refine ev_call (t := 104) (as := [.inr (.inr (some 26)), .inl (x2)]) (rest := []) rfl rfl rfl (by omega) (Trip_isOnPath_26_e (by omega) (x2) M _ hv) ?_
          refine ev_k (pc' := 52) (ls' := [(0, .inr (.inr (some 50))), (1, .inr (.inr (some 26))), (2, .inl (x2))]) (st' := [.inl (v3)]) (nc' := 126) (np' := 138) (M' := M) 0 rfl ?_
          obtain ⟨hR, ⟨hc, h⟩ | ⟨hc, h⟩⟩ := c_ne_i h
          · refine ev_ifc 59 rfl hR.1 (by decide) (fun _ => ?_) (fun q => absurd hc q)
            exact Outing_canCut_50_26_59_t hd      M r h
          · refine ev_ifc 59 rfl hR.1 (by decide) (fun q => absurd q hc) (fun _ => ?_)
            refine ev_k (pc' := 60) (ls' := []) (st' := [.inl (1)]) (nc' := 126) (np' := 138) (M' := M) 2 rfl ?_
            exact Outing_canCut_50_26_60_t hd     (1) M r h
def Law_tiring_5    (x1 : Int) (x2 : Int) (x3 : Int) (x4 : Int) (M : am_M) : Option (Int × am_M) := ob (Law_say_5 (x1) (0) (x2) (x3) (0) (0) (x4) M) fun M1 => oc (Law_ask_5 (110) (20) M1) fun v2 M3 => some (v2, M3)
theorem Law_tiring_5_e {L : Nat} {xs : Nat → Int} {d : Nat} (hd : 2 ≤ d)   (x1 : Int) (x2 : Int) (x3 : Int) (x4 : Int) (M : am_M) (r : Int × am_M) (h : Law_tiring_5   x1 x2 x3 x4 M = some r) : am_Ev L xs d me_105 0 (am_ar1 0 [.inr (.inr (some 5)), .inl (x1), .inl (x2), .inl (x3), .inl (x4)]) [] 126 138 M (some (.inl r.1), 126, 138, r.2) := by
  refine ev_k (pc' := 9) (ls' := [(0, .inr (.inr (some 5))), (1, .inl (x1)), (2, .inl (x2)), (3, .inl (x3)), (4, .inl (x4))]) (st' := [.inl (x4), .inl (0), .inl (0), .inl (x3), .inl (x2), .inl (0), .inl (x1), .inr (.inr (some 5))]) (nc' := 126) (np' := 138) (M' := M) 8 rfl ?_
  obtain ⟨M1, hv, h⟩ := ob_i h
  refine ev_call (t := 84) (as := [.inr (.inr (some 5)), .inl (x1), .inl (0), .inl (x2), .inl (x3), .inl (0), .inl (0), .inl (x4)]) (rest := []) rfl rfl rfl (by omega) (Law_say_5_e (by omega) (x1) (0) (x2) (x3) (0) (0) (x4) M _ hv) ?_
  refine ev_k (pc' := 17) (ls' := [(0, .inr (.inr (some 5))), (1, .inl (x1)), (2, .inl (x2)), (3, .inl (x3)), (4, .inl (x4))]) (st' := [.inl (20), .inl (110), .inr (.inr (some 5))]) (nc' := 126) (np' := 138) (M' := M1) 3 rfl ?_
  obtain ⟨v2, M3, hv, h⟩ := oc_i h
  refine ev_call (t := 85) (as := [.inr (.inr (some 5)), .inl (110), .inl (20)]) (rest := []) rfl rfl rfl (by omega) (Law_ask_5_e (by omega) (110) (20) M1 _ hv) ?_
  refine ev_k (pc' := 20) (ls' := [(0, .inr (.inr (some 5))), (1, .inl (x1)), (2, .inl (x2)), (3, .inl (x3)), (4, .inl (x4))]) (st' := [.inl (v2)]) (nc' := 126) (np' := 138) (M' := M3) 0 rfl ?_
  cases h
  exact ev_ret rfl
def Law_cutting_5    (x1 : Int) (x2 : Int) (x3 : Int) (x4 : Int) (x5 : Int) (M : am_M) : Option (Int × am_M) := ob (Law_say_5 (x1) (x2) (x3) (x4) (0) (0) (x5) M) fun M1 => oc (Law_ask_5 (99) (240) M1) fun v2 M3 => some (v2, M3)
theorem Law_cutting_5_e {L : Nat} {xs : Nat → Int} {d : Nat} (hd : 2 ≤ d)   (x1 : Int) (x2 : Int) (x3 : Int) (x4 : Int) (x5 : Int) (M : am_M) (r : Int × am_M) (h : Law_cutting_5   x1 x2 x3 x4 x5 M = some r) : am_Ev L xs d me_106 0 (am_ar1 0 [.inr (.inr (some 5)), .inl (x1), .inl (x2), .inl (x3), .inl (x4), .inl (x5)]) [] 126 138 M (some (.inl r.1), 126, 138, r.2) := by
  refine ev_k (pc' := 10) (ls' := [(0, .inr (.inr (some 5))), (1, .inl (x1)), (2, .inl (x2)), (3, .inl (x3)), (4, .inl (x4)), (5, .inl (x5))]) (st' := [.inl (x5), .inl (0), .inl (0), .inl (x4), .inl (x3), .inl (x2), .inl (x1), .inr (.inr (some 5))]) (nc' := 126) (np' := 138) (M' := M) 8 rfl ?_
  obtain ⟨M1, hv, h⟩ := ob_i h
  refine ev_call (t := 84) (as := [.inr (.inr (some 5)), .inl (x1), .inl (x2), .inl (x3), .inl (x4), .inl (0), .inl (0), .inl (x5)]) (rest := []) rfl rfl rfl (by omega) (Law_say_5_e (by omega) (x1) (x2) (x3) (x4) (0) (0) (x5) M _ hv) ?_
  refine ev_k (pc' := 19) (ls' := [(0, .inr (.inr (some 5))), (1, .inl (x1)), (2, .inl (x2)), (3, .inl (x3)), (4, .inl (x4)), (5, .inl (x5))]) (st' := [.inl (240), .inl (99), .inr (.inr (some 5))]) (nc' := 126) (np' := 138) (M' := M1) 3 rfl ?_
  obtain ⟨v2, M3, hv, h⟩ := oc_i h
  refine ev_call (t := 85) (as := [.inr (.inr (some 5)), .inl (99), .inl (240)]) (rest := []) rfl rfl rfl (by omega) (Law_ask_5_e (by omega) (99) (240) M1 _ hv) ?_
  refine ev_k (pc' := 22) (ls' := [(0, .inr (.inr (some 5))), (1, .inl (x1)), (2, .inl (x2)), (3, .inl (x3)), (4, .inl (x4)), (5, .inl (x5))]) (st' := [.inl (v2)]) (nc' := 126) (np' := 138) (M' := M3) 0 rfl ?_
  cases h
  exact ev_ret rfl
def Trip_kindAt_26    (x1 : Int) (M : am_M) : Option (Int) := ob (Trip_cellAt_26 (x1) M) fun v1 => ob (Country_kindAt_1 (v1) M) fun v2 => some (v2)
theorem Trip_kindAt_26_e {L : Nat} {xs : Nat → Int} {d : Nat} (hd : 2 ≤ d)   (x1 : Int) (M : am_M) (r : Int) (h : Trip_kindAt_26   x1 M = some r) : am_Ev L xs d me_99 0 (am_ar1 0 [.inr (.inr (some 26)), .inl (x1)]) [] 126 138 M (some (.inl r), 126, 138, M) := by
  refine ev_k (pc' := 6) (ls' := [(0, .inr (.inr (some 26))), (1, .inl (x1))]) (st' := [.inl (x1), .inr (.inr (some 26)), .inr (.inr (some 1))]) (nc' := 126) (np' := 138) (M' := M) 4 rfl ?_
  obtain ⟨v1, hv, h⟩ := ob_i h
  refine ev_call (t := 31) (as := [.inr (.inr (some 26)), .inl (x1)]) (rest := [.inr (.inr (some 1))]) rfl rfl rfl (by omega) (Trip_cellAt_26_e (by omega) (x1) M _ hv) ?_
  refine ev_k (pc' := 9) (ls' := [(0, .inr (.inr (some 26))), (1, .inl (x1))]) (st' := [.inl (v1), .inr (.inr (some 1))]) (nc' := 126) (np' := 138) (M' := M) 0 rfl ?_
  obtain ⟨v2, hv, h⟩ := ob_i h
  refine ev_call (t := 56) (as := [.inr (.inr (some 1)), .inl (v1)]) (rest := []) rfl rfl rfl (by omega) (Country_kindAt_1_e (by omega) (v1) M _ hv) ?_
  refine ev_k (pc' := 12) (ls' := [(0, .inr (.inr (some 26))), (1, .inl (x1))]) (st' := [.inl (v2)]) (nc' := 126) (np' := 138) (M' := M) 0 rfl ?_
  cases h
  exact ev_ret rfl
def Trip_widthAt_26_18    (s0 : Int) (M : am_M) : Option (Int) := some (s0)
def Trip_widthAt_26    (x1 : Int) (M : am_M) : Option (Int) := ob (Trip_isPlace_26 (x1) M) fun v1 => c_eq (v1) (0)
       ((Trip_widthAt_26_18    (0) M))
       (rd M 29 100 (x1) fun v2 => (Trip_widthAt_26_18    (v2) M))
theorem Trip_widthAt_26_18_t {L : Nat} {xs : Nat → Int} {d : Nat} (hd : 1 ≤ d)     (s0 : Int) (M : am_M) (r : Int) (h : Trip_widthAt_26_18    s0 M = some r) : am_Ev L xs d me_100 18 [] [.inl (s0)] 126 138 M (some (.inl r), 126, 138, M) := by
  refine ev_k (pc' := 18) (ls' := []) (st' := [.inl (s0)]) (nc' := 126) (np' := 138) (M' := M) 0 rfl ?_
  cases h
  exact ev_ret rfl
theorem Trip_widthAt_26_e {L : Nat} {xs : Nat → Int} {d : Nat} (hd : 1 ≤ d)   (x1 : Int) (M : am_M) (r : Int) (h : Trip_widthAt_26   x1 M = some r) : am_Ev L xs d me_100 0 (am_ar1 0 [.inr (.inr (some 26)), .inl (x1)]) [] 126 138 M (some (.inl r), 126, 138, M) := by
  refine ev_k (pc' := 2) (ls' := [(0, .inr (.inr (some 26))), (1, .inl (x1))]) (st' := [.inl (x1), .inr (.inr (some 26))]) (nc' := 126) (np' := 138) (M' := M) 2 rfl ?_
  obtain ⟨v1, hv, h⟩ := ob_i h
  refine ev_call (t := 32) (as := [.inr (.inr (some 26)), .inl (x1)]) (rest := []) rfl rfl rfl (by omega) (Trip_isPlace_26_e (by omega) (x1) M _ hv) ?_
  refine ev_k (pc' := 5) (ls' := [(0, .inr (.inr (some 26))), (1, .inl (x1))]) (st' := [.inl (v1)]) (nc' := 126) (np' := 138) (M' := M) 0 rfl ?_
  obtain ⟨hR, ⟨hc, h⟩ | ⟨hc, h⟩⟩ := c_eq_i h
  · refine ev_ifc 17 rfl hR.1 (by decide) (fun _ => ?_) (fun q => absurd hc q)
    refine ev_k (pc' := 18) (ls' := []) (st' := [.inl (0)]) (nc' := 126) (np' := 138) (M' := M) 1 rfl ?_
    exact Trip_widthAt_26_18_t hd     (0) M r h
  · refine ev_ifc 17 rfl hR.1 (by decide) (fun q => absurd q hc) (fun _ => ?_)
    refine ev_k (pc' := 13) (ls' := [(0, .inr (.inr (some 26))), (1, .inl (x1))]) (st' := [.inl (x1), .inr (.inr (some 29))]) (nc' := 126) (np' := 138) (M' := M) 3 rfl ?_
    obtain ⟨hc, v2, ev, h⟩ := rd_i h
    refine ev_ald (k := 29) (t := 0) (Or.inl ⟨rfl, rfl⟩) rfl (by decide) (by decide) rfl hc ev ?_
    refine ev_k (pc' := 18) (ls' := []) (st' := [.inl (v2)]) (nc' := 126) (np' := 138) (M' := M) 1 rfl ?_
    exact Trip_widthAt_26_18_t hd     (v2) M r h
def Trip_grownAt_26_18    (s0 : Int) (M : am_M) : Option (Int) := some (s0)
def Trip_grownAt_26    (x1 : Int) (M : am_M) : Option (Int) := ob (Trip_isPlace_26 (x1) M) fun v1 => c_eq (v1) (0)
       ((Trip_grownAt_26_18    (0) M))
       (rd M 30 100 (x1) fun v2 => (Trip_grownAt_26_18    (v2) M))
theorem Trip_grownAt_26_18_t {L : Nat} {xs : Nat → Int} {d : Nat} (hd : 1 ≤ d)     (s0 : Int) (M : am_M) (r : Int) (h : Trip_grownAt_26_18    s0 M = some r) : am_Ev L xs d me_101 18 [] [.inl (s0)] 126 138 M (some (.inl r), 126, 138, M) := by
  refine ev_k (pc' := 18) (ls' := []) (st' := [.inl (s0)]) (nc' := 126) (np' := 138) (M' := M) 0 rfl ?_
  cases h
  exact ev_ret rfl
theorem Trip_grownAt_26_e {L : Nat} {xs : Nat → Int} {d : Nat} (hd : 1 ≤ d)   (x1 : Int) (M : am_M) (r : Int) (h : Trip_grownAt_26   x1 M = some r) : am_Ev L xs d me_101 0 (am_ar1 0 [.inr (.inr (some 26)), .inl (x1)]) [] 126 138 M (some (.inl r), 126, 138, M) := by
  refine ev_k (pc' := 2) (ls' := [(0, .inr (.inr (some 26))), (1, .inl (x1))]) (st' := [.inl (x1), .inr (.inr (some 26))]) (nc' := 126) (np' := 138) (M' := M) 2 rfl ?_
  obtain ⟨v1, hv, h⟩ := ob_i h
  refine ev_call (t := 32) (as := [.inr (.inr (some 26)), .inl (x1)]) (rest := []) rfl rfl rfl (by omega) (Trip_isPlace_26_e (by omega) (x1) M _ hv) ?_
  refine ev_k (pc' := 5) (ls' := [(0, .inr (.inr (some 26))), (1, .inl (x1))]) (st' := [.inl (v1)]) (nc' := 126) (np' := 138) (M' := M) 0 rfl ?_
  obtain ⟨hR, ⟨hc, h⟩ | ⟨hc, h⟩⟩ := c_eq_i h
  · refine ev_ifc 17 rfl hR.1 (by decide) (fun _ => ?_) (fun q => absurd hc q)
    refine ev_k (pc' := 18) (ls' := []) (st' := [.inl (0)]) (nc' := 126) (np' := 138) (M' := M) 1 rfl ?_
    exact Trip_grownAt_26_18_t hd     (0) M r h
  · refine ev_ifc 17 rfl hR.1 (by decide) (fun q => absurd q hc) (fun _ => ?_)
    refine ev_k (pc' := 13) (ls' := [(0, .inr (.inr (some 26))), (1, .inl (x1))]) (st' := [.inl (x1), .inr (.inr (some 30))]) (nc' := 126) (np' := 138) (M' := M) 3 rfl ?_
    obtain ⟨hc, v2, ev, h⟩ := rd_i h
    refine ev_ald (k := 30) (t := 0) (Or.inl ⟨rfl, rfl⟩) rfl (by decide) (by decide) rfl hc ev ?_
    refine ev_k (pc' := 18) (ls' := []) (st' := [.inl (v2)]) (nc' := 126) (np' := 138) (M' := M) 1 rfl ?_
    exact Trip_grownAt_26_18_t hd     (v2) M r h
def Law_walking_5    (x1 : Int) (x2 : Int) (x3 : Int) (x4 : Int) (x5 : Int) (M : am_M) : Option (Int × am_M) := ob (Law_say_5 (x1) (x2) (0) (0) (x3) (x4) (x5) M) fun M1 => oc (Law_ask_5 (118) (60) M1) fun v2 M3 => some (v2, M3)
theorem Law_walking_5_e {L : Nat} {xs : Nat → Int} {d : Nat} (hd : 2 ≤ d)   (x1 : Int) (x2 : Int) (x3 : Int) (x4 : Int) (x5 : Int) (M : am_M) (r : Int × am_M) (h : Law_walking_5   x1 x2 x3 x4 x5 M = some r) : am_Ev L xs d me_102 0 (am_ar1 0 [.inr (.inr (some 5)), .inl (x1), .inl (x2), .inl (x3), .inl (x4), .inl (x5)]) [] 126 138 M (some (.inl r.1), 126, 138, r.2) := by
  refine ev_k (pc' := 10) (ls' := [(0, .inr (.inr (some 5))), (1, .inl (x1)), (2, .inl (x2)), (3, .inl (x3)), (4, .inl (x4)), (5, .inl (x5))]) (st' := [.inl (x5), .inl (x4), .inl (x3), .inl (0), .inl (0), .inl (x2), .inl (x1), .inr (.inr (some 5))]) (nc' := 126) (np' := 138) (M' := M) 8 rfl ?_
  obtain ⟨M1, hv, h⟩ := ob_i h
  refine ev_call (t := 84) (as := [.inr (.inr (some 5)), .inl (x1), .inl (x2), .inl (0), .inl (0), .inl (x3), .inl (x4), .inl (x5)]) (rest := []) rfl rfl rfl (by omega) (Law_say_5_e (by omega) (x1) (x2) (0) (0) (x3) (x4) (x5) M _ hv) ?_
  refine ev_k (pc' := 18) (ls' := [(0, .inr (.inr (some 5))), (1, .inl (x1)), (2, .inl (x2)), (3, .inl (x3)), (4, .inl (x4)), (5, .inl (x5))]) (st' := [.inl (60), .inl (118), .inr (.inr (some 5))]) (nc' := 126) (np' := 138) (M' := M1) 3 rfl ?_
  obtain ⟨v2, M3, hv, h⟩ := oc_i h
  refine ev_call (t := 85) (as := [.inr (.inr (some 5)), .inl (118), .inl (60)]) (rest := []) rfl rfl rfl (by omega) (Law_ask_5_e (by omega) (118) (60) M1 _ hv) ?_
  refine ev_k (pc' := 21) (ls' := [(0, .inr (.inr (some 5))), (1, .inl (x1)), (2, .inl (x2)), (3, .inl (x3)), (4, .inl (x4)), (5, .inl (x5))]) (st' := [.inl (v2)]) (nc' := 126) (np' := 138) (M' := M3) 0 rfl ?_
  cases h
  exact ev_ret rfl
