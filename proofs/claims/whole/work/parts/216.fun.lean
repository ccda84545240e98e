def R_toldPeople_27   (k4 : Int → Int → am_M → Option (Int)) (x2 : Int) (s0 : Int) (s1 : Int) (M : am_M) : Option (Int) := (k4 (b_or (s0) (s1)) ((x2) + (1)) M)
def R_toldPeople_4    : Nat → Int → Int → am_M → Option (Int)
  | 0, _, _, _ => none
  | n + 1, x1, x2, M => c_ge (x2) (6)
       (some (x1))
       (rd M 94 6 (x2) fun v1 => c_eq (v1) (0)
       ((R_toldPeople_27   (R_toldPeople_4    n) (x2) (x1) (0) M))
       ((R_toldPeople_27   (R_toldPeople_4    n) (x2) (x1) (b_shl (1) (x2)) M)))
def R_toldPeople     (M : am_M) : Option (Int) := (R_toldPeople_4    am_big (0) (0) M)
theorem R_toldPeople_27_t {L : Nat} {xs : Nat → Int} {d : Nat} (hd : 0 ≤ d)   (k4 : Int → Int → am_M → Option (Int)) (hk4 : ∀ (x1 : Int) (x2 : Int) (M : am_M) (r : Int), k4 x1 x2 M = some r → am_Ev L xs d me_284 4 [(0, .inr (.inr (some 73))), (1, .inl (x1)), (2, .inl (x2))] [] 126 138 M (some (.inl r), 126, 138, M)) (x2 : Int) (s0 : Int) (s1 : Int) (M : am_M) (r : Int) (h : R_toldPeople_27   k4 x2 s0 s1 M = some r) : am_Ev L xs d me_284 27 [(0, .inr (.inr (some 73))), (2, .inl (x2))] [.inl (s1), .inl (s0)] 126 138 M (some (.inl r), 126, 138, M) := by
  refine ev_k (pc' := 4) (ls' := [(0, .inr (.inr (some 73))), (1, .inl (b_or (s0) (s1))), (2, .inl ((x2) + (1)))]) (st' := []) (nc' := 126) (np' := 138) (M' := M) 4 rfl ?_
  exact hk4 (b_or (s0) (s1)) ((x2) + (1)) M r h
theorem R_toldPeople_4_t {L : Nat} {xs : Nat → Int} {d : Nat} (hd : 0 ≤ d)     : ∀ (n : Nat) (x1 : Int) (x2 : Int) (M : am_M) (r : Int), R_toldPeople_4    n x1 x2 M = some r → am_Ev L xs d me_284 4 [(0, .inr (.inr (some 73))), (1, .inl (x1)), (2, .inl (x2))] [] 126 138 M (some (.inl r), 126, 138, M)
  | 0, _, _, M, r, h => by cases h
  | n + 1, x1, x2, M, r, h => by
    have ih := R_toldPeople_4_t (L := L) (xs := xs) hd     n
    refine ev_k (pc' := 7) (ls' := [(0, .inr (.inr (some 73))), (1, .inl (x1)), (2, .inl (x2))]) (st' := [.inl (6), .inl (x2)]) (nc' := 126) (np' := 138) (M' := M) 2 rfl ?_
    obtain ⟨hR, ⟨hc, h⟩ | ⟨hc, h⟩⟩ := c_ge_i h
    · refine ev_icmp 35 rfl hR.1 hR.2 (by decide) (fun _ => ?_) (fun q => absurd hc q)
      refine ev_k (pc' := 36) (ls' := [(0, .inr (.inr (some 73))), (1, .inl (x1)), (2, .inl (x2))]) (st' := [.inl (x1)]) (nc' := 126) (np' := 138) (M' := M) 1 rfl ?_
      cases h
      exact ev_ret rfl
    · refine ev_icmp 35 rfl hR.1 hR.2 (by decide) (fun q => absurd q hc) (fun _ => ?_)
      refine ev_k (pc' := 16) (ls' := [(0, .inr (.inr (some 73))), (1, .inl (x1)), (2, .inl (x2))]) (st' := [.inl (x2), .inr (.inr (some 94)), .inl (x1)]) (nc' := 126) (np' := 138) (M' := M) 4 rfl ?_
      obtain ⟨hc, v1, ev, h⟩ := rd_i h
      refine ev_ald (k := 94) (t := 2) (Or.inr ⟨rfl, Or.inr rfl⟩) rfl (by decide) (by decide) rfl hc ev ?_
      refine ev_k (pc' := 17) (ls' := [(0, .inr (.inr (some 73))), (1, .inl (x1)), (2, .inl (x2))]) (st' := [.inl (v1), .inl (x1)]) (nc' := 126) (np' := 138) (M' := M) 0 rfl ?_
      obtain ⟨hR, ⟨hc, h⟩ | ⟨hc, h⟩⟩ := c_eq_i h
      · refine ev_ifc 26 rfl hR.1 (by decide) (fun _ => ?_) (fun q => absurd hc q)
        refine ev_k (pc' := 27) (ls' := [(0, .inr (.inr (some 73))), (2, .inl (x2))]) (st' := [.inl (0), .inl (x1)]) (nc' := 126) (np' := 138) (M' := M) 1 rfl ?_
        exact R_toldPeople_27_t hd   (R_toldPeople_4    n) ih (x2) (x1) (0) M r h
      · refine ev_ifc 26 rfl hR.1 (by decide) (fun q => absurd q hc) (fun _ => ?_)
        refine ev_k (pc' := 27) (ls' := [(0, .inr (.inr (some 73))), (2, .inl (x2))]) (st' := [.inl (b_shl (1) (x2)), .inl (x1)]) (nc' := 126) (np' := 138) (M' := M) 4 rfl ?_
        exact R_toldPeople_27_t hd   (R_toldPeople_4    n) ih (x2) (x1) (b_shl (1) (x2)) M r h
theorem R_toldPeople_e {L : Nat} {xs : Nat → Int} {d : Nat} (hd : 0 ≤ d)    (M : am_M) (r : Int) (h : R_toldPeople    M = some r) : am_Ev L xs d me_284 0 (am_ar1 0 [.inr (.inr (some 73))]) [] 126 138 M (some (.inl r), 126, 138, M) := by
  refine ev_k (pc' := 4) (ls' := [(0, .inr (.inr (some 73))), (1, .inl (0)), (2, .inl (0))]) (st' := []) (nc' := 126) (np' := 138) (M' := M) 4 rfl ?_
  exact R_toldPeople_4_t hd     am_big (0) (0) M r h
def R_has_14    (s0 : Int) (M : am_M) : Option (Int) := ck ((s0) = 0 ∨ (s0) = 1) (some (s0))
def R_has    (x0 : Int) (x1 : Int) (M : am_M) : Option (Int) := c_ne (b_and (b_shr (x0) (x1)) (1)) (1)
       ((R_has_14    (0) M))
       ((R_has_14    (1) M))
theorem R_has_14_t {L : Nat} {xs : Nat → Int} {d : Nat} (hd : 0 ≤ d)     (s0 : Int) (M : am_M) (r : Int) (h : R_has_14    s0 M = some r) : am_Ev L xs d me_285 14 [] [.inl (s0)] 126 138 M (some (.inl r), 126, 138, M) := by
  refine ev_k (pc' := 14) (ls' := []) (st' := [.inl (s0)]) (nc' := 126) (np' := 138) (M' := M) 0 rfl ?_
  obtain ⟨hc, h⟩ := ck_i h
  cases h
  exact ev_retz rfl rfl hc
theorem R_has_e {L : Nat} {xs : Nat → Int} {d : Nat} (hd : 0 ≤ d)   (x0 : Int) (x1 : Int) (M : am_M) (r : Int) (h : R_has   x0 x1 M = some r) : am_Ev L xs d me_285 0 (am_ar1 0 [.inl (x0), .inl (x1)]) [] 126 138 M (some (.inl r), 126, 138, M) := by
  refine ev_k (pc' := 6) (ls' := [(0, .inl (x0)), (1, .inl (x1))]) (st' := [.inl (1), .inl (b_and (b_shr (x0) (x1)) (1))]) (nc' := 126) (np' := 138) (M' := M) 6 rfl ?_
  obtain ⟨hR, ⟨hc, h⟩ | ⟨hc, h⟩⟩ := c_ne_i h
  · refine ev_icmp 13 rfl hR.1 hR.2 (by decide) (fun _ => ?_) (fun q => absurd hc q)
    refine ev_k (pc' := 14) (ls' := []) (st' := [.inl (0)]) (nc' := 126) (np' := 138) (M' := M) 1 rfl ?_
    exact R_has_14_t hd     (0) M r h
  · refine ev_icmp 13 rfl hR.1 hR.2 (by decide) (fun q => absurd q hc) (fun _ => ?_)
    refine ev_k (pc' := 14) (ls' := []) (st' := [.inl (1)]) (nc' := 126) (np' := 138) (M' := M) 2 rfl ?_
    exact R_has_14_t hd     (1) M r h
def R_powerOf_4    : Nat → Int → Int → Int → Int → am_M → Option (Int)
  | 0, _, _, _, _, _ => none
  | n + 1, x0, x1, x2, x3, M => c_ge (x3) (x1)
       (some (x2))
       ((R_powerOf_4    n (x0) (x1) ((x2) * (x0)) ((x3) + (1)) M))
def R_powerOf    (x0 : Int) (x1 : Int) (M : am_M) : Option (Int) := (R_powerOf_4    am_big (x0) (x1) (1) (0) M)
theorem R_powerOf_4_t {L : Nat} {xs : Nat → Int} {d : Nat} (hd : 0 ≤ d)     : ∀ (n : Nat) (x0 : Int) (x1 : Int) (x2 : Int) (x3 : Int) (M : am_M) (r : Int), R_powerOf_4    n x0 x1 x2 x3 M = some r → am_Ev L xs d me_286 4 [(0, .inl (x0)), (1, .inl (x1)), (2, .inl (x2)), (3, .inl (x3))] [] 126 138 M (some (.inl r), 126, 138, M)
  | 0, _, _, _, _, M, r, h => by cases h
  | n + 1, x0, x1, x2, x3, M, r, h => by
    have ih := R_powerOf_4_t (L := L) (xs := xs) hd     n
    refine ev_k (pc' := 6) (ls' := [(0, .inl (x0)), (1, .inl (x1)), (2, .inl (x2)), (3, .inl (x3))]) (st' := [.inl (x1), .inl (x3)]) (nc' := 126) (np' := 138) (M' := M) 2 rfl ?_
    obtain ⟨hR, ⟨hc, h⟩ | ⟨hc, h⟩⟩ := c_ge_i h
    · refine ev_icmp 19 rfl hR.1 hR.2 (by decide) (fun _ => ?_) (fun q => absurd hc q)
      refine ev_k (pc' := 20) (ls' := [(0, .inl (x0)), (1, .inl (x1)), (2, .inl (x2)), (3, .inl (x3))]) (st' := [.inl (x2)]) (nc' := 126) (np' := 138) (M' := M) 1 rfl ?_
      cases h
      exact ev_ret rfl
    · refine ev_icmp 19 rfl hR.1 hR.2 (by decide) (fun q => absurd q hc) (fun _ => ?_)
      refine ev_k (pc' := 4) (ls' := [(0, .inl (x0)), (1, .inl (x1)), (2, .inl ((x2) * (x0))), (3, .inl ((x3) + (1)))]) (st' := []) (nc' := 126) (np' := 138) (M' := M) 6 rfl ?_
      exact ih (x0) (x1) ((x2) * (x0)) ((x3) + (1)) M r h
theorem R_powerOf_e {L : Nat} {xs : Nat → Int} {d : Nat} (hd : 0 ≤ d)   (x0 : Int) (x1 : Int) (M : am_M) (r : Int) (h : R_powerOf   x0 x1 M = some r) : am_Ev L xs d me_286 0 (am_ar1 0 [.inl (x0), .inl (x1)]) [] 126 138 M (some (.inl r), 126, 138, M) := by
  refine ev_k (pc' := 4) (ls' := [(0, .inl (x0)), (1, .inl (x1)), (2, .inl (1)), (3, .inl (0))]) (st' := []) (nc' := 126) (np' := 138) (M' := M) 4 rfl ?_
  exact R_powerOf_4_t hd     am_big (x0) (x1) (1) (0) M r h
def R_opensRow_8    : Nat → Int → Int → Int → am_M → Option (am_M)
  | 0, _, _, _, _ => none
  | n + 1, x3, x4, x5, M => c_lt (x5) (0)
       (some (M))
       (ck (am_R (x4) ∧ am_R (x3) ∧ ((x3) : Int) ≠ 0) (tw (Int.tmod (x4) (x3)) fun v1 => wa M 121 6 (x5) (v1) fun M2 => ck (am_R (x4) ∧ am_R (x3) ∧ ((x3) : Int) ≠ 0) (tw (Int.tdiv (x4) (x3)) fun v3 => (R_opensRow_8    n (x3) (v3) ((x5) + (-1)) M2))))
def R_opensRow    (x1 : Int) (x2 : Int) (x3 : Int) (M : am_M) : Option (am_M) := (R_opensRow_8    am_big (x3) (x1) ((x2) - (1)) M)
theorem R_opensRow_8_t {L : Nat} {xs : Nat → Int} {d : Nat} (hd : 0 ≤ d)     : ∀ (n : Nat) (x3 : Int) (x4 : Int) (x5 : Int) (M : am_M) (r : am_M), R_opensRow_8    n x3 x4 x5 M = some r → am_Ev L xs d me_287 8 [(0, .inr (.inr (some 73))), (3, .inl (x3)), (4, .inl (x4)), (5, .inl (x5))] [] 126 138 M (none, 126, 138, r)
  | 0, _, _, _, M, r, h => by cases h
  | n + 1, x3, x4, x5, M, r, h => by
    have ih := R_opensRow_8_t (L := L) (xs := xs) hd     n
    refine ev_k (pc' := 10) (ls' := [(0, .inr (.inr (some 73))), (3, .inl (x3)), (4, .inl (x4)), (5, .inl (x5))]) (st' := [.inl (x5)]) (nc' := 126) (np' := 138) (M' := M) 1 rfl ?_
    obtain ⟨hR, ⟨hc, h⟩ | ⟨hc, h⟩⟩ := c_lt_i h
    · refine ev_ifc 36 rfl hR.1 (by decide) (fun _ => ?_) (fun q => absurd hc q)
      refine ev_k (pc' := 36) (ls' := [(0, .inr (.inr (some 73))), (3, .inl (x3)), (4, .inl (x4)), (5, .inl (x5))]) (st' := []) (nc' := 126) (np' := 138) (M' := M) 0 rfl ?_
      cases h
      exact ev_ret rfl
    · refine ev_ifc 36 rfl hR.1 (by decide) (fun q => absurd q hc) (fun _ => ?_)
      refine ev_k (pc' := 22) (ls' := [(0, .inr (.inr (some 73))), (3, .inl (x3)), (4, .inl (x4)), (5, .inl (x5))]) (st' := [.inl (x3), .inl (x4), .inl (x5), .inr (.inr (some 121))]) (nc' := 126) (np' := 138) (M' := M) 5 rfl ?_
      obtain ⟨hc, h⟩ := ck_i h
      obtain ⟨v1, ev, h⟩ := tw_i h
      refine ev_irem rfl hc ?_
      refine ev_k (pc' := 23) (ls' := [(0, .inr (.inr (some 73))), (3, .inl (x3)), (4, .inl (x4)), (5, .inl (x5))]) (st' := [.inl (Int.tmod (x4) (x3)), .inl (x5), .inr (.inr (some 121))]) (nc' := 126) (np' := 138) (M' := M) 0 rfl ?_
      rw [← ev]
      refine ev_k (pc' := 23) (ls' := [(0, .inr (.inr (some 73))), (3, .inl (x3)), (4, .inl (x4)), (5, .inl (x5))]) (st' := [.inl (v1), .inl (x5), .inr (.inr (some 121))]) (nc' := 126) (np' := 138) (M' := M) 0 rfl ?_
      obtain ⟨hc, M2, eM, h⟩ := wa_i h
      refine ev_iast (k := 121) rfl (by decide) rfl hc eM ?_
      refine ev_k (pc' := 27) (ls' := [(0, .inr (.inr (some 73))), (3, .inl (x3)), (4, .inl (x4)), (5, .inl (x5))]) (st' := [.inl (x3), .inl (x4)]) (nc' := 126) (np' := 138) (M' := M2) 2 rfl ?_
      obtain ⟨hc, h⟩ := ck_i h
      obtain ⟨v3, ev, h⟩ := tw_i h
      refine ev_idiv rfl hc ?_
      refine ev_k (pc' := 28) (ls' := [(0, .inr (.inr (some 73))), (3, .inl (x3)), (4, .inl (x4)), (5, .inl (x5))]) (st' := [.inl (Int.tdiv (x4) (x3))]) (nc' := 126) (np' := 138) (M' := M2) 0 rfl ?_
      rw [← ev]
      refine ev_k (pc' := 8) (ls' := [(0, .inr (.inr (some 73))), (3, .inl (x3)), (4, .inl (v3)), (5, .inl ((x5) + (-1)))]) (st' := []) (nc' := 126) (np' := 138) (M' := M2) 3 rfl ?_
      exact ih (x3) (v3) ((x5) + (-1)) M2 r h
theorem R_opensRow_e {L : Nat} {xs : Nat → Int} {d : Nat} (hd : 0 ≤ d)   (x1 : Int) (x2 : Int) (x3 : Int) (M : am_M) (r : am_M) (h : R_opensRow   x1 x2 x3 M = some r) : am_Ev L xs d me_287 0 (am_ar1 0 [.inr (.inr (some 73)), .inl (x1), .inl (x2), .inl (x3)]) [] 126 138 M (none, 126, 138, r) := by
  refine ev_k (pc' := 8) (ls' := [(0, .inr (.inr (some 73))), (3, .inl (x3)), (4, .inl (x1)), (5, .inl ((x2) - (1)))]) (st' := []) (nc' := 126) (np' := 138) (M' := M) 6 rfl ?_
  exact R_opensRow_8_t hd     am_big (x3) (x1) ((x2) - (1)) M r h
def R_yardsOf_160   (k35 : Int → Int → Int → Int → am_M → Option (Int × am_M)) (k85 : Int → Int → Int → Int → Int → Int → am_M → Option (Int × am_M)) (x1 : Int) (x2 : Int) (x3 : Int) (x4 : Int) (x5 : Int) (x6 : Int) (s1 : Int) (s2 : Int) (M : am_M) : Option (Int × am_M) := ob (R_held (s2) (99) M) fun v1 => wa M 123 6 (s1) (v1) fun M2 => (k85 (x1) (x2) (x3) (x4) (x5) ((x6) + (1)) M2)
def R_yardsOf_85   (k35 : Int → Int → Int → Int → am_M → Option (Int × am_M)) : Nat → Int → Int → Int → Int → Int → Int → am_M → Option (Int × am_M)
  | 0, _, _, _, _, _, _, _ => none
  | n + 1, x1, x2, x3, x4, x5, x6, M => c_ge (x6) (x2)
       ((k35 (x1) (x2) (x3) ((x4) + (1)) M))
       (c_ne (x6) (x5)
       (rd M 123 6 (x6) fun v1 => rd M 120 6 (x6) fun v2 => rd M 123 6 (x6) fun v3 => oc (R_resting (v2) (v3) M) fun v4 M5 => (R_yardsOf_160   k35 (R_yardsOf_85   k35 n) (x1) (x2) (x3) (x4) (x5) (x6) (x6) ((v1) - (v4)) M5))
       (rd M 123 6 (x6) fun v6 => rd M 120 6 (x6) fun v7 => rd M 123 6 (x6) fun v8 => oc (R_tiring (2) (v7) (v8) M) fun v9 M10 => (R_yardsOf_160   k35 (R_yardsOf_85   k35 n) (x1) (x2) (x3) (x4) (x5) (x6) (x6) ((v6) + (v9)) M10)))
def R_yardsOf_35    : Nat → Int → Int → Int → Int → am_M → Option (Int × am_M)
  | 0, _, _, _, _, _ => none
  | n + 1, x1, x2, x3, x4, M => c_ge (x4) (x1)
       (some (x3, M))
       (rd M 121 6 (x4) fun v1 => rd M 120 6 (v1) fun v2 => rd M 92 6 (v2) fun v3 => rd M 123 6 (v1) fun v4 => ob (R_held (((10) * (v3)) - (v4)) (1000000000) M) fun v5 => (R_yardsOf_85   (R_yardsOf_35    n) am_big (x1) (x2) ((x3) + (v5)) (x4) (v1) (0) M))
def R_yardsOf_2    : Nat → Int → Int → Int → am_M → Option (Int × am_M)
  | 0, _, _, _, _ => none
  | n + 1, x1, x2, x3, M => c_ge (x3) (x2)
       ((R_yardsOf_35    am_big (x1) (x2) (0) (0) M))
       (rd M 120 6 (x3) fun v1 => rd M 93 6 (v1) fun v2 => wa M 123 6 (x3) (v2) fun M3 => (R_yardsOf_2    n (x1) (x2) ((x3) + (1)) M3))
def R_yardsOf    (x1 : Int) (x2 : Int) (M : am_M) : Option (Int × am_M) := (R_yardsOf_2    am_big (x1) (x2) (0) M)
theorem R_yardsOf_160_t {L : Nat} {xs : Nat → Int} {d : Nat} (hd : 5 ≤ d)   (k35 : Int → Int → Int → Int → am_M → Option (Int × am_M)) (k85 : Int → Int → Int → Int → Int → Int → am_M → Option (Int × am_M)) (hk35 : ∀ (x1 : Int) (x2 : Int) (x3 : Int) (x4 : Int) (M : am_M) (r : Int × am_M), k35 x1 x2 x3 x4 M = some r → am_Ev L xs d me_288 35 [(0, .inr (.inr (some 73))), (1, .inl (x1)), (2, .inl (x2)), (3, .inl (x3)), (4, .inl (x4))] [] 126 138 M (some (.inl r.1), 126, 138, r.2)) (hk85 : ∀ (x1 : Int) (x2 : Int) (x3 : Int) (x4 : Int) (x5 : Int) (x6 : Int) (M : am_M) (r : Int × am_M), k85 x1 x2 x3 x4 x5 x6 M = some r → am_Ev L xs d me_288 85 [(0, .inr (.inr (some 73))), (1, .inl (x1)), (2, .inl (x2)), (3, .inl (x3)), (4, .inl (x4)), (5, .inl (x5)), (6, .inl (x6))] [] 126 138 M (some (.inl r.1), 126, 138, r.2)) (x1 : Int) (x2 : Int) (x3 : Int) (x4 : Int) (x5 : Int) (x6 : Int) (s1 : Int) (s2 : Int) (M : am_M) (r : Int × am_M) (h : R_yardsOf_160   k35 k85 x1 x2 x3 x4 x5 x6 s1 s2 M = some r) : am_Ev L xs d me_288 160 [(0, .inr (.inr (some 73))), (1, .inl (x1)), (2, .inl (x2)), (3, .inl (x3)), (4, .inl (x4)), (5, .inl (x5)), (6, .inl (x6))] [.inl (s2), .inl (s1), .inr (.inr (some 123))] 126 138 M (some (.inl r.1), 126, 138, r.2) := by
  refine ev_k (pc' := 162) (ls' := [(0, .inr (.inr (some 73))), (1, .inl (x1)), (2, .inl (x2)), (3, .inl (x3)), (4, .inl (x4)), (5, .inl (x5)), (6, .inl (x6))]) (st' := [.inl (99), .inl (s2), .inl (s1), .inr (.inr (some 123))]) (nc' := 126) (np' := 138) (M' := M) 1 rfl ?_
  obtain ⟨v1, hv, h⟩ := ob_i h
  refine ev_call (t := 255) (as := [.inl (s2), .inl (99)]) (rest := [.inl (s1), .inr (.inr (some 123))]) rfl rfl rfl (by omega) (R_held_e (by omega) (s2) (99) M _ hv) ?_
  refine ev_k (pc' := 165) (ls' := [(0, .inr (.inr (some 73))), (1, .inl (x1)), (2, .inl (x2)), (3, .inl (x3)), (4, .inl (x4)), (5, .inl (x5)), (6, .inl (x6))]) (st' := [.inl (v1), .inl (s1), .inr (.inr (some 123))]) (nc' := 126) (np' := 138) (M' := M) 0 rfl ?_
  obtain ⟨hc, M2, eM, h⟩ := wa_i h
  refine ev_iast (k := 123) rfl (by decide) rfl hc eM ?_
  refine ev_k (pc' := 85) (ls' := [(0, .inr (.inr (some 73))), (1, .inl (x1)), (2, .inl (x2)), (3, .inl (x3)), (4, .inl (x4)), (5, .inl (x5)), (6, .inl ((x6) + (1)))]) (st' := []) (nc' := 126) (np' := 138) (M' := M2) 2 rfl ?_
  exact hk85 (x1) (x2) (x3) (x4) (x5) ((x6) + (1)) M2 r h
theorem R_yardsOf_85_t {L : Nat} {xs : Nat → Int} {d : Nat} (hd : 5 ≤ d)   (k35 : Int → Int → Int → Int → am_M → Option (Int × am_M)) (hk35 : ∀ (x1 : Int) (x2 : Int) (x3 : Int) (x4 : Int) (M : am_M) (r : Int × am_M), k35 x1 x2 x3 x4 M = some r → am_Ev L xs d me_288 35 [(0, .inr (.inr (some 73))), (1, .inl (x1)), (2, .inl (x2)), (3, .inl (x3)), (4, .inl (x4))] [] 126 138 M (some (.inl r.1), 126, 138, r.2)) : ∀ (n : Nat) (x1 : Int) (x2 : Int) (x3 : Int) (x4 : Int) (x5 : Int) (x6 : Int) (M : am_M) (r : Int × am_M), R_yardsOf_85   k35 n x1 x2 x3 x4 x5 x6 M = some r → am_Ev L xs d me_288 85 [(0, .inr (.inr (some 73))), (1, .inl (x1)), (2, .inl (x2)), (3, .inl (x3)), (4, .inl (x4)), (5, .inl (x5)), (6, .inl (x6))] [] 126 138 M (some (.inl r.1), 126, 138, r.2)
  | 0, _, _, _, _, _, _, M, r, h => by cases h
  | n + 1, x1, x2, x3, x4, x5, x6, M, r, h => by
    have ih := R_yardsOf_85_t (L := L) (xs := xs) hd   k35 hk35 n
    refine ev_k (pc' := 88) (ls' := [(0, .inr (.inr (some 73))), (1, .inl (x1)), (2, .inl (x2)), (3, .inl (x3)), (4, .inl (x4)), (5, .inl (x5)), (6, .inl (x6))]) (st' := [.inl (x2), .inl (x6)]) (nc' := 126) (np' := 138) (M' := M) 2 rfl ?_
    obtain ⟨hR, ⟨hc, h⟩ | ⟨hc, h⟩⟩ := c_ge_i h
    · refine ev_icmp 172 rfl hR.1 hR.2 (by decide) (fun _ => ?_) (fun q => absurd hc q)
      refine ev_k (pc' := 35) (ls' := [(0, .inr (.inr (some 73))), (1, .inl (x1)), (2, .inl (x2)), (3, .inl (x3)), (4, .inl ((x4) + (1)))]) (st' := []) (nc' := 126) (np' := 138) (M' := M) 2 rfl ?_
      exact hk35 (x1) (x2) (x3) ((x4) + (1)) M r h
    · refine ev_icmp 172 rfl hR.1 hR.2 (by decide) (fun q => absurd q hc) (fun _ => ?_)
      refine ev_k (pc' := 101) (ls' := [(0, .inr (.inr (some 73))), (1, .inl (x1)), (2, .inl (x2)), (3, .inl (x3)), (4, .inl (x4)), (5, .inl (x5)), (6, .inl (x6))]) (st' := [.inl (x5), .inl (x6), .inl (x6), .inr (.inr (some 123))]) (nc' := 126) (np' := 138) (M' := M) 5 rfl ?_
      obtain ⟨hR, ⟨hc, h⟩ | ⟨hc, h⟩⟩ := c_ne_i h
      · refine ev_icmp 134 rfl hR.1 hR.2 (by decide) (fun _ => ?_) (fun q => absurd hc q)
        refine ev_k (pc' := 140) (ls' := [(0, .inr (.inr (some 73))), (1, .inl (x1)), (2, .inl (x2)), (3, .inl (x3)), (4, .inl (x4)), (5, .inl (x5)), (6, .inl (x6))]) (st' := [.inl (x6), .inr (.inr (some 123)), .inl (x6), .inr (.inr (some 123))]) (nc' := 126) (np' := 138) (M' := M) 3 rfl ?_
        obtain ⟨hc, v1, ev, h⟩ := rd_i h
        refine ev_ald (k := 123) (t := 0) (Or.inl ⟨rfl, rfl⟩) rfl (by decide) (by decide) rfl hc ev ?_
        refine ev_k (pc' := 148) (ls' := [(0, .inr (.inr (some 73))), (1, .inl (x1)), (2, .inl (x2)), (3, .inl (x3)), (4, .inl (x4)), (5, .inl (x5)), (6, .inl (x6))]) (st' := [.inl (x6), .inr (.inr (some 120)), .inr (.inr (some 73)), .inl (v1), .inl (x6), .inr (.inr (some 123))]) (nc' := 126) (np' := 138) (M' := M) 4 rfl ?_
        obtain ⟨hc, v2, ev, h⟩ := rd_i h
        refine ev_ald (k := 120) (t := 0) (Or.inl ⟨rfl, rfl⟩) rfl (by decide) (by decide) rfl hc ev ?_
        refine ev_k (pc' := 155) (ls' := [(0, .inr (.inr (some 73))), (1, .inl (x1)), (2, .inl (x2)), (3, .inl (x3)), (4, .inl (x4)), (5, .inl (x5)), (6, .inl (x6))]) (st' := [.inl (x6), .inr (.inr (some 123)), .inl (v2), .inr (.inr (some 73)), .inl (v1), .inl (x6), .inr (.inr (some 123))]) (nc' := 126) (np' := 138) (M' := M) 3 rfl ?_
        obtain ⟨hc, v3, ev, h⟩ := rd_i h
        refine ev_ald (k := 123) (t := 0) (Or.inl ⟨rfl, rfl⟩) rfl (by decide) (by decide) rfl hc ev ?_
        refine ev_k (pc' := 156) (ls' := [(0, .inr (.inr (some 73))), (1, .inl (x1)), (2, .inl (x2)), (3, .inl (x3)), (4, .inl (x4)), (5, .inl (x5)), (6, .inl (x6))]) (st' := [.inl (v3), .inl (v2), .inr (.inr (some 73)), .inl (v1), .inl (x6), .inr (.inr (some 123))]) (nc' := 126) (np' := 138) (M' := M) 0 rfl ?_
        obtain ⟨v4, M5, hv, h⟩ := oc_i h
        refine ev_call (t := 261) (as := [.inr (.inr (some 73)), .inl (v2), .inl (v3)]) (rest := [.inl (v1), .inl (x6), .inr (.inr (some 123))]) rfl rfl rfl (by omega) (R_resting_e (by omega) (v2) (v3) M _ hv) ?_
        refine ev_k (pc' := 160) (ls' := [(0, .inr (.inr (some 73))), (1, .inl (x1)), (2, .inl (x2)), (3, .inl (x3)), (4, .inl (x4)), (5, .inl (x5)), (6, .inl (x6))]) (st' := [.inl ((v1) - (v4)), .inl (x6), .inr (.inr (some 123))]) (nc' := 126) (np' := 138) (M' := M5) 1 rfl ?_
        exact R_yardsOf_160_t hd   k35 (R_yardsOf_85   k35 n) hk35 ih (x1) (x2) (x3) (x4) (x5) (x6) (x6) ((v1) - (v4)) M5 r h
      · refine ev_icmp 134 rfl hR.1 hR.2 (by decide) (fun q => absurd q hc) (fun _ => ?_)
        refine ev_k (pc' := 110) (ls' := [(0, .inr (.inr (some 73))), (1, .inl (x1)), (2, .inl (x2)), (3, .inl (x3)), (4, .inl (x4)), (5, .inl (x5)), (6, .inl (x6))]) (st' := [.inl (x6), .inr (.inr (some 123)), .inl (x6), .inr (.inr (some 123))]) (nc' := 126) (np' := 138) (M' := M) 3 rfl ?_
        obtain ⟨hc, v6, ev, h⟩ := rd_i h
        refine ev_ald (k := 123) (t := 0) (Or.inl ⟨rfl, rfl⟩) rfl (by decide) (by decide) rfl hc ev ?_
        refine ev_k (pc' := 119) (ls' := [(0, .inr (.inr (some 73))), (1, .inl (x1)), (2, .inl (x2)), (3, .inl (x3)), (4, .inl (x4)), (5, .inl (x5)), (6, .inl (x6))]) (st' := [.inl (x6), .inr (.inr (some 120)), .inl (2), .inr (.inr (some 73)), .inl (v6), .inl (x6), .inr (.inr (some 123))]) (nc' := 126) (np' := 138) (M' := M) 5 rfl ?_
        obtain ⟨hc, v7, ev, h⟩ := rd_i h
        refine ev_ald (k := 120) (t := 0) (Or.inl ⟨rfl, rfl⟩) rfl (by decide) (by decide) rfl hc ev ?_
        refine ev_k (pc' := 126) (ls' := [(0, .inr (.inr (some 73))), (1, .inl (x1)), (2, .inl (x2)), (3, .inl (x3)), (4, .inl (x4)), (5, .inl (x5)), (6, .inl (x6))]) (st' := [.inl (x6), .inr (.inr (some 123)), .inl (v7), .inl (2), .inr (.inr (some 73)), .inl (v6), .inl (x6), .inr (.inr (some 123))]) (nc' := 126) (np' := 138) (M' := M) 3 rfl ?_
        obtain ⟨hc, v8, ev, h⟩ := rd_i h
        refine ev_ald (k := 123) (t := 0) (Or.inl ⟨rfl, rfl⟩) rfl (by decide) (by decide) rfl hc ev ?_
        refine ev_k (pc' := 127) (ls' := [(0, .inr (.inr (some 73))), (1, .inl (x1)), (2, .inl (x2)), (3, .inl (x3)), (4, .inl (x4)), (5, .inl (x5)), (6, .inl (x6))]) (st' := [.inl (v8), .inl (v7), .inl (2), .inr (.inr (some 73)), .inl (v6), .inl (x6), .inr (.inr (some 123))]) (nc' := 126) (np' := 138) (M' := M) 0 rfl ?_
        obtain ⟨v9, M10, hv, h⟩ := oc_i h
        refine ev_call (t := 259) (as := [.inr (.inr (some 73)), .inl (2), .inl (v7), .inl (v8)]) (rest := [.inl (v6), .inl (x6), .inr (.inr (some 123))]) rfl rfl rfl (by omega) (R_tiring_e (by omega) (2) (v7) (v8) M _ hv) ?_
        refine ev_k (pc' := 160) (ls' := [(0, .inr (.inr (some 73))), (1, .inl (x1)), (2, .inl (x2)), (3, .inl (x3)), (4, .inl (x4)), (5, .inl (x5)), (6, .inl (x6))]) (st' := [.inl ((v6) + (v9)), .inl (x6), .inr (.inr (some 123))]) (nc' := 126) (np' := 138) (M' := M10) 2 rfl ?_
        exact R_yardsOf_160_t hd   k35 (R_yardsOf_85   k35 n) hk35 ih (x1) (x2) (x3) (x4) (x5) (x6) (x6) ((v6) + (v9)) M10 r h
theorem R_yardsOf_35_t {L : Nat} {xs : Nat → Int} {d : Nat} (hd : 5 ≤ d)     : ∀ (n : Nat) (x1 : Int) (x2 : Int) (x3 : Int) (x4 : Int) (M : am_M) (r : Int × am_M), R_yardsOf_35    n x1 x2 x3 x4 M = some r → am_Ev L xs d me_288 35 [(0, .inr (.inr (some 73))), (1, .inl (x1)), (2, .inl (x2)), (3, .inl (x3)), (4, .inl (x4))] [] 126 138 M (some (.inl r.1), 126, 138, r.2)
  | 0, _, _, _, _, M, r, h => by cases h
  | n + 1, x1, x2, x3, x4, M, r, h => by
    have ih := R_yardsOf_35_t (L := L) (xs := xs) hd     n
    refine ev_k (pc' := 38) (ls' := [(0, .inr (.inr (some 73))), (1, .inl (x1)), (2, .inl (x2)), (3, .inl (x3)), (4, .inl (x4))]) (st' := [.inl (x1), .inl (x4)]) (nc' := 126) (np' := 138) (M' := M) 2 rfl ?_
    obtain ⟨hR, ⟨hc, h⟩ | ⟨hc, h⟩⟩ := c_ge_i h
    · refine ev_icmp 178 rfl hR.1 hR.2 (by decide) (fun _ => ?_) (fun q => absurd hc q)
      refine ev_k (pc' := 179) (ls' := [(0, .inr (.inr (some 73))), (1, .inl (x1)), (2, .inl (x2)), (3, .inl (x3)), (4, .inl (x4))]) (st' := [.inl (x3)]) (nc' := 126) (np' := 138) (M' := M) 1 rfl ?_
      cases h
      exact ev_ret rfl
    · refine ev_icmp 178 rfl hR.1 hR.2 (by decide) (fun q => absurd q hc) (fun _ => ?_)
      refine ev_k (pc' := 47) (ls' := [(0, .inr (.inr (some 73))), (1, .inl (x1)), (2, .inl (x2)), (3, .inl (x3)), (4, .inl (x4))]) (st' := [.inl (x4), .inr (.inr (some 121))]) (nc' := 126) (np' := 138) (M' := M) 3 rfl ?_
      obtain ⟨hc, v1, ev, h⟩ := rd_i h
      refine ev_ald (k := 121) (t := 0) (Or.inl ⟨rfl, rfl⟩) rfl (by decide) (by decide) rfl hc ev ?_
      refine ev_k (pc' := 63) (ls' := [(5, .inl (v1)), (0, .inr (.inr (some 73))), (1, .inl (x1)), (2, .inl (x2)), (3, .inl (x3)), (4, .inl (x4))]) (st' := [.inl (v1), .inr (.inr (some 120)), .inr (.inr (some 92)), .inl (10), .inl (x3)]) (nc' := 126) (np' := 138) (M' := M) 8 rfl ?_
      obtain ⟨hc, v2, ev, h⟩ := rd_i h
      refine ev_ald (k := 120) (t := 0) (Or.inl ⟨rfl, rfl⟩) rfl (by decide) (by decide) rfl hc ev ?_
      refine ev_k (pc' := 64) (ls' := [(5, .inl (v1)), (0, .inr (.inr (some 73))), (1, .inl (x1)), (2, .inl (x2)), (3, .inl (x3)), (4, .inl (x4))]) (st' := [.inl (v2), .inr (.inr (some 92)), .inl (10), .inl (x3)]) (nc' := 126) (np' := 138) (M' := M) 0 rfl ?_
      obtain ⟨hc, v3, ev, h⟩ := rd_i h
      refine ev_ald (k := 92) (t := 0) (Or.inl ⟨rfl, rfl⟩) rfl (by decide) (by decide) rfl hc ev ?_
      refine ev_k (pc' := 72) (ls' := [(5, .inl (v1)), (0, .inr (.inr (some 73))), (1, .inl (x1)), (2, .inl (x2)), (3, .inl (x3)), (4, .inl (x4))]) (st' := [.inl (v1), .inr (.inr (some 123)), .inl ((10) * (v3)), .inl (x3)]) (nc' := 126) (np' := 138) (M' := M) 4 rfl ?_
      obtain ⟨hc, v4, ev, h⟩ := rd_i h
      refine ev_ald (k := 123) (t := 0) (Or.inl ⟨rfl, rfl⟩) rfl (by decide) (by decide) rfl hc ev ?_
      refine ev_k (pc' := 77) (ls' := [(5, .inl (v1)), (0, .inr (.inr (some 73))), (1, .inl (x1)), (2, .inl (x2)), (3, .inl (x3)), (4, .inl (x4))]) (st' := [.inl (1000000000), .inl (((10) * (v3)) - (v4)), .inl (x3)]) (nc' := 126) (np' := 138) (M' := M) 2 rfl ?_
      obtain ⟨v5, hv, h⟩ := ob_i h
      refine ev_call (t := 255) (as := [.inl (((10) * (v3)) - (v4)), .inl (1000000000)]) (rest := [.inl (x3)]) rfl rfl rfl (by omega) (R_held_e (by omega) (((10) * (v3)) - (v4)) (1000000000) M _ hv) ?_
      refine ev_k (pc' := 85) (ls' := [(0, .inr (.inr (some 73))), (1, .inl (x1)), (2, .inl (x2)), (3, .inl ((x3) + (v5))), (4, .inl (x4)), (5, .inl (v1)), (6, .inl (0))]) (st' := []) (nc' := 126) (np' := 138) (M' := M) 4 rfl ?_
      exact R_yardsOf_85_t hd   (R_yardsOf_35    n) ih am_big (x1) (x2) ((x3) + (v5)) (x4) (v1) (0) M r h
theorem R_yardsOf_2_t {L : Nat} {xs : Nat → Int} {d : Nat} (hd : 5 ≤ d)     : ∀ (n : Nat) (x1 : Int) (x2 : Int) (x3 : Int) (M : am_M) (r : Int × am_M), R_yardsOf_2    n x1 x2 x3 M = some r → am_Ev L xs d me_288 2 [(0, .inr (.inr (some 73))), (1, .inl (x1)), (2, .inl (x2)), (3, .inl (x3))] [] 126 138 M (some (.inl r.1), 126, 138, r.2)
  | 0, _, _, _, M, r, h => by cases h
  | n + 1, x1, x2, x3, M, r, h => by
    have ih := R_yardsOf_2_t (L := L) (xs := xs) hd     n
    refine ev_k (pc' := 4) (ls' := [(0, .inr (.inr (some 73))), (1, .inl (x1)), (2, .inl (x2)), (3, .inl (x3))]) (st' := [.inl (x2), .inl (x3)]) (nc' := 126) (np' := 138) (M' := M) 2 rfl ?_
    obtain ⟨hR, ⟨hc, h⟩ | ⟨hc, h⟩⟩ := c_ge_i h
    · refine ev_icmp 30 rfl hR.1 hR.2 (by decide) (fun _ => ?_) (fun q => absurd hc q)
      refine ev_k (pc' := 35) (ls' := [(0, .inr (.inr (some 73))), (1, .inl (x1)), (2, .inl (x2)), (3, .inl (0)), (4, .inl (0))]) (st' := []) (nc' := 126) (np' := 138) (M' := M) 4 rfl ?_
      exact R_yardsOf_35_t hd     am_big (x1) (x2) (0) (0) M r h
    · refine ev_icmp 30 rfl hR.1 hR.2 (by decide) (fun q => absurd q hc) (fun _ => ?_)
      refine ev_k (pc' := 21) (ls' := [(0, .inr (.inr (some 73))), (1, .inl (x1)), (2, .inl (x2)), (3, .inl (x3))]) (st' := [.inl (x3), .inr (.inr (some 120)), .inr (.inr (some 93)), .inl (x3), .inr (.inr (some 123))]) (nc' := 126) (np' := 138) (M' := M) 8 rfl ?_
      obtain ⟨hc, v1, ev, h⟩ := rd_i h
      refine ev_ald (k := 120) (t := 0) (Or.inl ⟨rfl, rfl⟩) rfl (by decide) (by decide) rfl hc ev ?_
      refine ev_k (pc' := 22) (ls' := [(0, .inr (.inr (some 73))), (1, .inl (x1)), (2, .inl (x2)), (3, .inl (x3))]) (st' := [.inl (v1), .inr (.inr (some 93)), .inl (x3), .inr (.inr (some 123))]) (nc' := 126) (np' := 138) (M' := M) 0 rfl ?_
      obtain ⟨hc, v2, ev, h⟩ := rd_i h
      refine ev_ald (k := 93) (t := 0) (Or.inl ⟨rfl, rfl⟩) rfl (by decide) (by decide) rfl hc ev ?_
      refine ev_k (pc' := 23) (ls' := [(0, .inr (.inr (some 73))), (1, .inl (x1)), (2, .inl (x2)), (3, .inl (x3))]) (st' := [.inl (v2), .inl (x3), .inr (.inr (some 123))]) (nc' := 126) (np' := 138) (M' := M) 0 rfl ?_
      obtain ⟨hc, M3, eM, h⟩ := wa_i h
      refine ev_iast (k := 123) rfl (by decide) rfl hc eM ?_
      refine ev_k (pc' := 2) (ls' := [(0, .inr (.inr (some 73))), (1, .inl (x1)), (2, .inl (x2)), (3, .inl ((x3) + (1)))]) (st' := []) (nc' := 126) (np' := 138) (M' := M3) 2 rfl ?_
      exact ih (x1) (x2) ((x3) + (1)) M3 r h
theorem R_yardsOf_e {L : Nat} {xs : Nat → Int} {d : Nat} (hd : 5 ≤ d)   (x1 : Int) (x2 : Int) (M : am_M) (r : Int × am_M) (h : R_yardsOf   x1 x2 M = some r) : am_Ev L xs d me_288 0 (am_ar1 0 [.inr (.inr (some 73)), .inl (x1), .inl (x2)]) [] 126 138 M (some (.inl r.1), 126, 138, r.2) := by
  refine ev_k (pc' := 2) (ls' := [(0, .inr (.inr (some 73))), (1, .inl (x1)), (2, .inl (x2)), (3, .inl (0))]) (st' := []) (nc' := 126) (np' := 138) (M' := M) 2 rfl ?_
  exact R_yardsOf_2_t hd     am_big (x1) (x2) (0) M r h
def R_keepsRow_2    : Nat → Int → Int → am_M → Option (am_M)
  | 0, _, _, _ => none
  | n + 1, x1, x2, M => c_ge (x2) (x1)
       (some (M))
       (rd M 121 6 (x2) fun v1 => wa M 122 6 (x2) (v1) fun M2 => (R_keepsRow_2    n (x1) ((x2) + (1)) M2))
def R_keepsRow    (x1 : Int) (M : am_M) : Option (am_M) := (R_keepsRow_2    am_big (x1) (0) M)
theorem R_keepsRow_2_t {L : Nat} {xs : Nat → Int} {d : Nat} (hd : 0 ≤ d)     : ∀ (n : Nat) (x1 : Int) (x2 : Int) (M : am_M) (r : am_M), R_keepsRow_2    n x1 x2 M = some r → am_Ev L xs d me_289 2 [(0, .inr (.inr (some 73))), (1, .inl (x1)), (2, .inl (x2))] [] 126 138 M (none, 126, 138, r)
  | 0, _, _, M, r, h => by cases h
  | n + 1, x1, x2, M, r, h => by
    have ih := R_keepsRow_2_t (L := L) (xs := xs) hd     n
    refine ev_k (pc' := 4) (ls' := [(0, .inr (.inr (some 73))), (1, .inl (x1)), (2, .inl (x2))]) (st' := [.inl (x1), .inl (x2)]) (nc' := 126) (np' := 138) (M' := M) 2 rfl ?_
    obtain ⟨hR, ⟨hc, h⟩ | ⟨hc, h⟩⟩ := c_ge_i h
    · refine ev_icmp 25 rfl hR.1 hR.2 (by decide) (fun _ => ?_) (fun q => absurd hc q)
      refine ev_k (pc' := 25) (ls' := [(0, .inr (.inr (some 73))), (1, .inl (x1)), (2, .inl (x2))]) (st' := []) (nc' := 126) (np' := 138) (M' := M) 0 rfl ?_
      cases h
      exact ev_ret rfl
    · refine ev_icmp 25 rfl hR.1 hR.2 (by decide) (fun q => absurd q hc) (fun _ => ?_)
      refine ev_k (pc' := 17) (ls' := [(0, .inr (.inr (some 73))), (1, .inl (x1)), (2, .inl (x2))]) (st' := [.inl (x2), .inr (.inr (some 121)), .inl (x2), .inr (.inr (some 122))]) (nc' := 126) (np' := 138) (M' := M) 6 rfl ?_
      obtain ⟨hc, v1, ev, h⟩ := rd_i h
      refine ev_ald (k := 121) (t := 0) (Or.inl ⟨rfl, rfl⟩) rfl (by decide) (by decide) rfl hc ev ?_
      refine ev_k (pc' := 18) (ls' := [(0, .inr (.inr (some 73))), (1, .inl (x1)), (2, .inl (x2))]) (st' := [.inl (v1), .inl (x2), .inr (.inr (some 122))]) (nc' := 126) (np' := 138) (M' := M) 0 rfl ?_
      obtain ⟨hc, M2, eM, h⟩ := wa_i h
      refine ev_iast (k := 122) rfl (by decide) rfl hc eM ?_
      refine ev_k (pc' := 2) (ls' := [(0, .inr (.inr (some 73))), (1, .inl (x1)), (2, .inl ((x2) + (1)))]) (st' := []) (nc' := 126) (np' := 138) (M' := M2) 2 rfl ?_
      exact ih (x1) ((x2) + (1)) M2 r h
theorem R_keepsRow_e {L : Nat} {xs : Nat → Int} {d : Nat} (hd : 0 ≤ d)   (x1 : Int) (M : am_M) (r : am_M) (h : R_keepsRow   x1 M = some r) : am_Ev L xs d me_289 0 (am_ar1 0 [.inr (.inr (some 73)), .inl (x1)]) [] 126 138 M (none, 126, 138, r) := by
  refine ev_k (pc' := 2) (ls' := [(0, .inr (.inr (some 73))), (1, .inl (x1)), (2, .inl (0))]) (st' := []) (nc' := 126) (np' := 138) (M' := M) 2 rfl ?_
  exact R_keepsRow_2_t hd     am_big (x1) (0) M r h
def R_byTurns_69     (M : am_M) : Option (Int × am_M) := some (-1, M)
def R_byTurns_168   (k120 : Int → Int → Int → Int → Int → am_M → Option (Int × am_M)) (x1 : Int) (x3 : Int) (x4 : Int) (x5 : Int) (x6 : Int) (M : am_M) : Option (Int × am_M) := (k120 (x1) (x3) (x4) (x5) ((x6) + (1)) M)
def R_byTurns_196    (s0 : Int) (M : am_M) : Option (Int × am_M) := some (s0, M)
def R_byTurns_120    : Nat → Int → Int → Int → Int → Int → am_M → Option (Int × am_M)
  | 0, _, _, _, _, _, _ => none
  | n + 1, x1, x3, x4, x5, x6, M => ob (R_powerOf (x4) (x1) M) fun v1 => c_ge (x6) (v1)
       (c_ne (x3) (10)
       (rd M 122 6 (x3) fun v2 => rd M 120 6 (v2) fun v3 => (R_byTurns_196    (v3) M))
       ((R_byTurns_196    (x5) M)))
       (ob (R_opensRow (x6) (x1) (x4) M) fun M4 => oc (R_yardsOf (x1) (x4) M4) fun v5 M6 => c_gt (v5) (x5)
       (ob (R_keepsRow (x1) M6) fun M7 => (R_byTurns_168   (R_byTurns_120    n) (x1) (x3) (x4) (v5) (x6) M7))
       ((R_byTurns_168   (R_byTurns_120    n) (x1) (x3) (x4) (x5) (x6) M6)))
def R_byTurns_108   (k77 : Int → Int → Int → Int → Int → am_M → Option (Int × am_M)) (x1 : Int) (x2 : Int) (x3 : Int) (x4 : Int) (x5 : Int) (M : am_M) : Option (Int × am_M) := (k77 (x1) (x2) (x3) (x4) ((x5) + (1)) M)
def R_byTurns_77    : Nat → Int → Int → Int → Int → Int → am_M → Option (Int × am_M)
  | 0, _, _, _, _, _, _ => none
  | n + 1, x1, x2, x3, x4, x5, M => c_ge (x5) (6)
       ((R_byTurns_120    am_big (x1) (x3) (x4) (-1) (0) M))
       (ob (R_has (x2) (x5) M) fun v1 => c_ne (v1) (0)
       (wa M 120 6 (x4) (x5) fun M2 => (R_byTurns_108   (R_byTurns_77    n) (x1) (x2) (x3) ((x4) + (1)) (x5) M2))
       ((R_byTurns_108   (R_byTurns_77    n) (x1) (x2) (x3) (x4) (x5) M)))
def R_byTurns_71    (x1 : Int) (x2 : Int) (x3 : Int) (M : am_M) : Option (Int × am_M) := (R_byTurns_77    am_big (x1) (x2) (x3) (0) (0) M)
def R_byTurns    (x1 : Int) (x2 : Int) (x3 : Int) (M : am_M) : Option (Int × am_M) := ck (am_R (x1)) (ob (R_lies (x1) (1) (6) M) fun v1 => c_eq (v1) (0)
       (R_byTurns_69     M)
       (ck (am_R (x2)) (ob (R_lies (x2) (1) (63) M) fun v2 => c_eq (v2) (0)
       (R_byTurns_69     M)
       (ob (R_sizeOf (x2) M) fun v3 => ck (am_R (v3)) (ob (R_lies (v3) (1) (4) M) fun v4 => c_eq (v4) (0)
       (R_byTurns_69     M)
       (ob (R_toldPeople  M) fun v5 => c_ne (b_and (x2) (b_xor (v5) (-1))) (0)
       (R_byTurns_69     M)
       (c_eq (x3) (10)
       (R_byTurns_71    (x1) (x2) (x3) M)
       (ck (am_R (x3)) (ck (am_R ((x1) - (1))) (ob (R_lies (x3) (0) ((x1) - (1)) M) fun v6 => c_ne (v6) (0)
       (R_byTurns_71    (x1) (x2) (x3) M)
       (R_byTurns_69     M)))))))))))
theorem R_byTurns_69_t {L : Nat} {xs : Nat → Int} {d : Nat} (hd : 6 ≤ d)      (M : am_M) (r : Int × am_M) (h : R_byTurns_69     M = some r) : am_Ev L xs d me_282 69 [] [] 126 138 M (some (.inl r.1), 126, 138, r.2) := by
  refine ev_k (pc' := 70) (ls' := []) (st' := [.inl (-1)]) (nc' := 126) (np' := 138) (M' := M) 1 rfl ?_
  cases h
  exact ev_ret rfl
theorem R_byTurns_168_t {L : Nat} {xs : Nat → Int} {d : Nat} (hd : 6 ≤ d)   (k120 : Int → Int → Int → Int → Int → am_M → Option (Int × am_M)) (hk120 : ∀ (x1 : Int) (x3 : Int) (x4 : Int) (x5 : Int) (x6 : Int) (M : am_M) (r : Int × am_M), k120 x1 x3 x4 x5 x6 M = some r → am_Ev L xs d me_282 120 [(0, .inr (.inr (some 73))), (1, .inl (x1)), (3, .inl (x3)), (4, .inl (x4)), (5, .inl (x5)), (6, .inl (x6))] [] 126 138 M (some (.inl r.1), 126, 138, r.2)) (x1 : Int) (x3 : Int) (x4 : Int) (x5 : Int) (x6 : Int) (M : am_M) (r : Int × am_M) (h : R_byTurns_168   k120 x1 x3 x4 x5 x6 M = some r) : am_Ev L xs d me_282 168 [(0, .inr (.inr (some 73))), (1, .inl (x1)), (3, .inl (x3)), (4, .inl (x4)), (5, .inl (x5)), (6, .inl (x6))] [] 126 138 M (some (.inl r.1), 126, 138, r.2) := by
  refine ev_k (pc' := 120) (ls' := [(0, .inr (.inr (some 73))), (1, .inl (x1)), (3, .inl (x3)), (4, .inl (x4)), (5, .inl (x5)), (6, .inl ((x6) + (1)))]) (st' := []) (nc' := 126) (np' := 138) (M' := M) 2 rfl ?_
  exact hk120 (x1) (x3) (x4) (x5) ((x6) + (1)) M r h
theorem R_byTurns_196_t {L : Nat} {xs : Nat → Int} {d : Nat} (hd : 6 ≤ d)     (s0 : Int) (M : am_M) (r : Int × am_M) (h : R_byTurns_196    s0 M = some r) : am_Ev L xs d me_282 196 [] [.inl (s0)] 126 138 M (some (.inl r.1), 126, 138, r.2) := by
  refine ev_k (pc' := 196) (ls' := []) (st' := [.inl (s0)]) (nc' := 126) (np' := 138) (M' := M) 0 rfl ?_
  cases h
  exact ev_ret rfl
theorem R_byTurns_120_t {L : Nat} {xs : Nat → Int} {d : Nat} (hd : 6 ≤ d)     : ∀ (n : Nat) (x1 : Int) (x3 : Int) (x4 : Int) (x5 : Int) (x6 : Int) (M : am_M) (r : Int × am_M), R_byTurns_120    n x1 x3 x4 x5 x6 M = some r → am_Ev L xs d me_282 120 [(0, .inr (.inr (some 73))), (1, .inl (x1)), (3, .inl (x3)), (4, .inl (x4)), (5, .inl (x5)), (6, .inl (x6))] [] 126 138 M (some (.inl r.1), 126, 138, r.2)
  | 0, _, _, _, _, _, M, r, h => by cases h
  | n + 1, x1, x3, x4, x5, x6, M, r, h => by
    have ih := R_byTurns_120_t (L := L) (xs := xs) hd     n
    refine ev_k (pc' := 125) (ls' := [(0, .inr (.inr (some 73))), (1, .inl (x1)), (3, .inl (x3)), (4, .inl (x4)), (5, .inl (x5)), (6, .inl (x6))]) (st' := [.inl (x1), .inl (x4), .inl (x6)]) (nc' := 126) (np' := 138) (M' := M) 3 rfl ?_
    obtain ⟨v1, hv, h⟩ := ob_i h
    refine ev_call (t := 286) (as := [.inl (x4), .inl (x1)]) (rest := [.inl (x6)]) rfl rfl rfl (by omega) (R_powerOf_e (by omega) (x4) (x1) M _ hv) ?_
    refine ev_k (pc' := 128) (ls' := [(0, .inr (.inr (some 73))), (1, .inl (x1)), (3, .inl (x3)), (4, .inl (x4)), (5, .inl (x5)), (6, .inl (x6))]) (st' := [.inl (v1), .inl (x6)]) (nc' := 126) (np' := 138) (M' := M) 0 rfl ?_
    obtain ⟨hR, ⟨hc, h⟩ | ⟨hc, h⟩⟩ := c_ge_i h
    · refine ev_icmp 174 rfl hR.1 hR.2 (by decide) (fun _ => ?_) (fun q => absurd hc q)
      refine ev_k (pc' := 177) (ls' := [(0, .inr (.inr (some 73))), (1, .inl (x1)), (3, .inl (x3)), (4, .inl (x4)), (5, .inl (x5)), (6, .inl (x6))]) (st' := [.inl (10), .inl (x3)]) (nc' := 126) (np' := 138) (M' := M) 2 rfl ?_
      obtain ⟨hR, ⟨hc, h⟩ | ⟨hc, h⟩⟩ := c_ne_i h
      · refine ev_icmp 185 rfl hR.1 hR.2 (by decide) (fun _ => ?_) (fun q => absurd hc q)
        refine ev_k (pc' := 194) (ls' := [(0, .inr (.inr (some 73))), (1, .inl (x1)), (3, .inl (x3)), (4, .inl (x4)), (5, .inl (x5)), (6, .inl (x6))]) (st' := [.inl (x3), .inr (.inr (some 122)), .inr (.inr (some 120))]) (nc' := 126) (np' := 138) (M' := M) 5 rfl ?_
        obtain ⟨hc, v2, ev, h⟩ := rd_i h
        refine ev_ald (k := 122) (t := 0) (Or.inl ⟨rfl, rfl⟩) rfl (by decide) (by decide) rfl hc ev ?_
        refine ev_k (pc' := 195) (ls' := [(0, .inr (.inr (some 73))), (1, .inl (x1)), (3, .inl (x3)), (4, .inl (x4)), (5, .inl (x5)), (6, .inl (x6))]) (st' := [.inl (v2), .inr (.inr (some 120))]) (nc' := 126) (np' := 138) (M' := M) 0 rfl ?_
        obtain ⟨hc, v3, ev, h⟩ := rd_i h
        refine ev_ald (k := 120) (t := 0) (Or.inl ⟨rfl, rfl⟩) rfl (by decide) (by decide) rfl hc ev ?_
        exact R_byTurns_196_t hd     (v3) M r h
      · refine ev_icmp 185 rfl hR.1 hR.2 (by decide) (fun q => absurd q hc) (fun _ => ?_)
        refine ev_k (pc' := 196) (ls' := []) (st' := [.inl (x5)]) (nc' := 126) (np' := 138) (M' := M) 2 rfl ?_
        exact R_byTurns_196_t hd     (x5) M r h
    · refine ev_icmp 174 rfl hR.1 hR.2 (by decide) (fun q => absurd q hc) (fun _ => ?_)
      refine ev_k (pc' := 137) (ls' := [(0, .inr (.inr (some 73))), (1, .inl (x1)), (3, .inl (x3)), (4, .inl (x4)), (5, .inl (x5)), (6, .inl (x6))]) (st' := [.inl (x4), .inl (x1), .inl (x6), .inr (.inr (some 73))]) (nc' := 126) (np' := 138) (M' := M) 4 rfl ?_
      obtain ⟨M4, hv, h⟩ := ob_i h
      refine ev_call (t := 287) (as := [.inr (.inr (some 73)), .inl (x6), .inl (x1), .inl (x4)]) (rest := []) rfl rfl rfl (by omega) (R_opensRow_e (by omega) (x6) (x1) (x4) M _ hv) ?_
      refine ev_k (pc' := 144) (ls' := [(0, .inr (.inr (some 73))), (1, .inl (x1)), (3, .inl (x3)), (4, .inl (x4)), (5, .inl (x5)), (6, .inl (x6))]) (st' := [.inl (x4), .inl (x1), .inr (.inr (some 73))]) (nc' := 126) (np' := 138) (M' := M4) 3 rfl ?_
      obtain ⟨v5, M6, hv, h⟩ := oc_i h
      refine ev_call (t := 288) (as := [.inr (.inr (some 73)), .inl (x1), .inl (x4)]) (rest := []) rfl rfl rfl (by omega) (R_yardsOf_e (by omega) (x1) (x4) M4 _ hv) ?_
      refine ev_k (pc' := 153) (ls' := [(7, .inl (v5)), (0, .inr (.inr (some 73))), (1, .inl (x1)), (3, .inl (x3)), (4, .inl (x4)), (5, .inl (x5)), (6, .inl (x6))]) (st' := [.inl (x5), .inl (v5)]) (nc' := 126) (np' := 138) (M' := M6) 3 rfl ?_
      obtain ⟨hR, ⟨hc, h⟩ | ⟨hc, h⟩⟩ := c_gt_i h
      · refine ev_icmp 159 rfl hR.1 hR.2 (by decide) (fun _ => ?_) (fun q => absurd hc q)
        refine ev_k (pc' := 165) (ls' := [(5, .inl (v5)), (7, .inl (v5)), (0, .inr (.inr (some 73))), (1, .inl (x1)), (3, .inl (x3)), (4, .inl (x4)), (6, .inl (x6))]) (st' := [.inl (x1), .inr (.inr (some 73))]) (nc' := 126) (np' := 138) (M' := M6) 4 rfl ?_
        obtain ⟨M7, hv, h⟩ := ob_i h
        refine ev_call (t := 289) (as := [.inr (.inr (some 73)), .inl (x1)]) (rest := []) rfl rfl rfl (by omega) (R_keepsRow_e (by omega) (x1) M6 _ hv) ?_
        exact R_byTurns_168_t hd   (R_byTurns_120    n) ih (x1) (x3) (x4) (v5) (x6) M7 r h
      · refine ev_icmp 159 rfl hR.1 hR.2 (by decide) (fun q => absurd q hc) (fun _ => ?_)
        refine ev_k (pc' := 168) (ls' := [(0, .inr (.inr (some 73))), (1, .inl (x1)), (3, .inl (x3)), (4, .inl (x4)), (5, .inl (x5)), (6, .inl (x6))]) (st' := []) (nc' := 126) (np' := 138) (M' := M6) 1 rfl ?_
        exact R_byTurns_168_t hd   (R_byTurns_120    n) ih (x1) (x3) (x4) (x5) (x6) M6 r h
theorem R_byTurns_108_t {L : Nat} {xs : Nat → Int} {d : Nat} (hd : 6 ≤ d)   (k77 : Int → Int → Int → Int → Int → am_M → Option (Int × am_M)) (hk77 : ∀ (x1 : Int) (x2 : Int) (x3 : Int) (x4 : Int) (x5 : Int) (M : am_M) (r : Int × am_M), k77 x1 x2 x3 x4 x5 M = some r → am_Ev L xs d me_282 77 [(0, .inr (.inr (some 73))), (1, .inl (x1)), (2, .inl (x2)), (3, .inl (x3)), (4, .inl (x4)), (5, .inl (x5))] [] 126 138 M (some (.inl r.1), 126, 138, r.2)) (x1 : Int) (x2 : Int) (x3 : Int) (x4 : Int) (x5 : Int) (M : am_M) (r : Int × am_M) (h : R_byTurns_108   k77 x1 x2 x3 x4 x5 M = some r) : am_Ev L xs d me_282 108 [(0, .inr (.inr (some 73))), (1, .inl (x1)), (2, .inl (x2)), (3, .inl (x3)), (4, .inl (x4)), (5, .inl (x5))] [] 126 138 M (some (.inl r.1), 126, 138, r.2) := by
  refine ev_k (pc' := 77) (ls' := [(0, .inr (.inr (some 73))), (1, .inl (x1)), (2, .inl (x2)), (3, .inl (x3)), (4, .inl (x4)), (5, .inl ((x5) + (1)))]) (st' := []) (nc' := 126) (np' := 138) (M' := M) 2 rfl ?_
  exact hk77 (x1) (x2) (x3) (x4) ((x5) + (1)) M r h
theorem R_byTurns_77_t {L : Nat} {xs : Nat → Int} {d : Nat} (hd : 6 ≤ d)     : ∀ (n : Nat) (x1 : Int) (x2 : Int) (x3 : Int) (x4 : Int) (x5 : Int) (M : am_M) (r : Int × am_M), R_byTurns_77    n x1 x2 x3 x4 x5 M = some r → am_Ev L xs d me_282 77 [(0, .inr (.inr (some 73))), (1, .inl (x1)), (2, .inl (x2)), (3, .inl (x3)), (4, .inl (x4)), (5, .inl (x5))] [] 126 138 M (some (.inl r.1), 126, 138, r.2)
  | 0, _, _, _, _, _, M, r, h => by cases h
  | n + 1, x1, x2, x3, x4, x5, M, r, h => by
    have ih := R_byTurns_77_t (L := L) (xs := xs) hd     n
    refine ev_k (pc' := 81) (ls' := [(0, .inr (.inr (some 73))), (1, .inl (x1)), (2, .inl (x2)), (3, .inl (x3)), (4, .inl (x4)), (5, .inl (x5))]) (st' := [.inl (6), .inl (x5)]) (nc' := 126) (np' := 138) (M' := M) 2 rfl ?_
    obtain ⟨hR, ⟨hc, h⟩ | ⟨hc, h⟩⟩ := c_ge_i h
    · refine ev_icmp 114 rfl hR.1 hR.2 (by decide) (fun _ => ?_) (fun q => absurd hc q)
      refine ev_k (pc' := 120) (ls' := [(0, .inr (.inr (some 73))), (1, .inl (x1)), (3, .inl (x3)), (4, .inl (x4)), (5, .inl (-1)), (6, .inl (0))]) (st' := []) (nc' := 126) (np' := 138) (M' := M) 4 rfl ?_
      exact R_byTurns_120_t hd     am_big (x1) (x3) (x4) (-1) (0) M r h
    · refine ev_icmp 114 rfl hR.1 hR.2 (by decide) (fun q => absurd q hc) (fun _ => ?_)
      refine ev_k (pc' := 87) (ls' := [(0, .inr (.inr (some 73))), (1, .inl (x1)), (2, .inl (x2)), (3, .inl (x3)), (4, .inl (x4)), (5, .inl (x5))]) (st' := [.inl (x5), .inl (x2)]) (nc' := 126) (np' := 138) (M' := M) 2 rfl ?_
      obtain ⟨v1, hv, h⟩ := ob_i h
      refine ev_call (t := 285) (as := [.inl (x2), .inl (x5)]) (rest := []) rfl rfl rfl (by omega) (R_has_e (by omega) (x2) (x5) M _ hv) ?_
      refine ev_k (pc' := 90) (ls' := [(0, .inr (.inr (some 73))), (1, .inl (x1)), (2, .inl (x2)), (3, .inl (x3)), (4, .inl (x4)), (5, .inl (x5))]) (st' := [.inl (v1)]) (nc' := 126) (np' := 138) (M' := M) 0 rfl ?_
      obtain ⟨hR, ⟨hc, h⟩ | ⟨hc, h⟩⟩ := c_ne_i h
      · refine ev_ifc 96 rfl hR.1 (by decide) (fun _ => ?_) (fun q => absurd hc q)
        refine ev_k (pc' := 104) (ls' := [(0, .inr (.inr (some 73))), (1, .inl (x1)), (2, .inl (x2)), (3, .inl (x3)), (4, .inl (x4)), (5, .inl (x5))]) (st' := [.inl (x5), .inl (x4), .inr (.inr (some 120))]) (nc' := 126) (np' := 138) (M' := M) 4 rfl ?_
        obtain ⟨hc, M2, eM, h⟩ := wa_i h
        refine ev_iast (k := 120) rfl (by decide) rfl hc eM ?_
        refine ev_k (pc' := 108) (ls' := [(0, .inr (.inr (some 73))), (1, .inl (x1)), (2, .inl (x2)), (3, .inl (x3)), (4, .inl ((x4) + (1))), (5, .inl (x5))]) (st' := []) (nc' := 126) (np' := 138) (M' := M2) 1 rfl ?_
        exact R_byTurns_108_t hd   (R_byTurns_77    n) ih (x1) (x2) (x3) ((x4) + (1)) (x5) M2 r h
      · refine ev_ifc 96 rfl hR.1 (by decide) (fun q => absurd q hc) (fun _ => ?_)
        refine ev_k (pc' := 108) (ls' := [(0, .inr (.inr (some 73))), (1, .inl (x1)), (2, .inl (x2)), (3, .inl (x3)), (4, .inl (x4)), (5, .inl (x5))]) (st' := []) (nc' := 126) (np' := 138) (M' := M) 1 rfl ?_
        exact R_byTurns_108_t hd   (R_byTurns_77    n) ih (x1) (x2) (x3) (x4) (x5) M r h
theorem R_byTurns_71_t {L : Nat} {xs : Nat → Int} {d : Nat} (hd : 6 ≤ d)     (x1 : Int) (x2 : Int) (x3 : Int) (M : am_M) (r : Int × am_M) (h : R_byTurns_71    x1 x2 x3 M = some r) : am_Ev L xs d me_282 71 [(0, .inr (.inr (some 73))), (1, .inl (x1)), (2, .inl (x2)), (3, .inl (x3))] [] 126 138 M (some (.inl r.1), 126, 138, r.2) := by
  refine ev_k (pc' := 77) (ls' := [(0, .inr (.inr (some 73))), (1, .inl (x1)), (2, .inl (x2)), (3, .inl (x3)), (4, .inl (0)), (5, .inl (0))]) (st' := []) (nc' := 126) (np' := 138) (M' := M) 4 rfl ?_
  exact R_byTurns_77_t hd     am_big (x1) (x2) (x3) (0) (0) M r h
theorem R_byTurns_e {L : Nat} {xs : Nat → Int} {d : Nat} (hd : 6 ≤ d)   (x1 : Int) (x2 : Int) (x3 : Int) (M : am_M) (r : Int × am_M) (h : R_byTurns   x1 x2 x3 M = some r) : am_Ev L xs d me_282 0 (am_ar1 0 [.inr (.inr (some 73)), .inl (x1), .inl (x2), .inl (x3)]) [] 126 138 M (some (.inl r.1), 126, 138, r.2) := by
  refine ev_k (pc' := 1) (ls' := [(0, .inr (.inr (some 73))), (1, .inl (x1)), (2, .inl (x2)), (3, .inl (x3))]) (st' := [.inl (x1)]) (nc' := 126) (np' := 138) (M' := M) 1 rfl ?_
  obtain ⟨hc, h⟩ := ck_i h
  refine ev_i2l rfl hc ?_
  refine ev_k (pc' := 6) (ls' := [(0, .inr (.inr (some 73))), (1, .inl (x1)), (2, .inl (x2)), (3, .inl (x3))]) (st' := [.inr (.inl (6)), .inr (.inl (1)), .inr (.inl (x1))]) (nc' := 126) (np' := 138) (M' := M) 2 rfl ?_
  obtain ⟨v1, hv, h⟩ := ob_i h
  refine ev_call (t := 193) (as := [.inr (.inl (x1)), .inr (.inl (1)), .inr (.inl (6))]) (rest := []) rfl rfl rfl (by omega) (R_lies_e (by omega) (x1) (1) (6) M _ hv) ?_
  refine ev_k (pc' := 9) (ls' := [(0, .inr (.inr (some 73))), (1, .inl (x1)), (2, .inl (x2)), (3, .inl (x3))]) (st' := [.inl (v1)]) (nc' := 126) (np' := 138) (M' := M) 0 rfl ?_
  obtain ⟨hR, ⟨hc, h⟩ | ⟨hc, h⟩⟩ := c_eq_i h
  · refine ev_ifc 69 rfl hR.1 (by decide) (fun _ => ?_) (fun q => absurd hc q)
    exact R_byTurns_69_t hd      M r h
  · refine ev_ifc 69 rfl hR.1 (by decide) (fun q => absurd q hc) (fun _ => ?_)
    refine ev_k (pc' := 13) (ls' := [(0, .inr (.inr (some 73))), (1, .inl (x1)), (2, .inl (x2)), (3, .inl (x3))]) (st' := [.inl (x2)]) (nc' := 126) (np' := 138) (M' := M) 1 rfl ?_
    obtain ⟨hc, h⟩ := ck_i h
    refine ev_i2l rfl hc ?_
    refine ev_k (pc' := 18) (ls' := [(0, .inr (.inr (some 73))), (1, .inl (x1)), (2, .inl (x2)), (3, .inl (x3))]) (st' := [.inr (.inl (63)), .inr (.inl (1)), .inr (.inl (x2))]) (nc' := 126) (np' := 138) (M' := M) 2 rfl ?_
    obtain ⟨v2, hv, h⟩ := ob_i h
    refine ev_call (t := 193) (as := [.inr (.inl (x2)), .inr (.inl (1)), .inr (.inl (63))]) (rest := []) rfl rfl rfl (by omega) (R_lies_e (by omega) (x2) (1) (63) M _ hv) ?_
    refine ev_k (pc' := 21) (ls' := [(0, .inr (.inr (some 73))), (1, .inl (x1)), (2, .inl (x2)), (3, .inl (x3))]) (st' := [.inl (v2)]) (nc' := 126) (np' := 138) (M' := M) 0 rfl ?_
    obtain ⟨hR, ⟨hc, h⟩ | ⟨hc, h⟩⟩ := c_eq_i h
    · refine ev_ifc 69 rfl hR.1 (by decide) (fun _ => ?_) (fun q => absurd hc q)
      exact R_byTurns_69_t hd      M r h
    · refine ev_ifc 69 rfl hR.1 (by decide) (fun q => absurd q hc) (fun _ => ?_)
      refine ev_k (pc' := 25) (ls' := [(0, .inr (.inr (some 73))), (1, .inl (x1)), (2, .inl (x2)), (3, .inl (x3))]) (st' := [.inl (x2)]) (nc' := 126) (np' := 138) (M' := M) 1 rfl ?_
      obtain ⟨v3, hv, h⟩ := ob_i h
      refine ev_call (t := 283) (as := [.inl (x2)]) (rest := []) rfl rfl rfl (by omega) (R_sizeOf_e (by omega) (x2) M _ hv) ?_
      refine ev_k (pc' := 28) (ls' := [(0, .inr (.inr (some 73))), (1, .inl (x1)), (2, .inl (x2)), (3, .inl (x3))]) (st' := [.inl (v3)]) (nc' := 126) (np' := 138) (M' := M) 0 rfl ?_
      obtain ⟨hc, h⟩ := ck_i h
      refine ev_i2l rfl hc ?_
      refine ev_k (pc' := 33) (ls' := [(0, .inr (.inr (some 73))), (1, .inl (x1)), (2, .inl (x2)), (3, .inl (x3))]) (st' := [.inr (.inl (4)), .inr (.inl (1)), .inr (.inl (v3))]) (nc' := 126) (np' := 138) (M' := M) 2 rfl ?_
      obtain ⟨v4, hv, h⟩ := ob_i h
      refine ev_call (t := 193) (as := [.inr (.inl (v3)), .inr (.inl (1)), .inr (.inl (4))]) (rest := []) rfl rfl rfl (by omega) (R_lies_e (by omega) (v3) (1) (4) M _ hv) ?_
      refine ev_k (pc' := 36) (ls' := [(0, .inr (.inr (some 73))), (1, .inl (x1)), (2, .inl (x2)), (3, .inl (x3))]) (st' := [.inl (v4)]) (nc' := 126) (np' := 138) (M' := M) 0 rfl ?_
      obtain ⟨hR, ⟨hc, h⟩ | ⟨hc, h⟩⟩ := c_eq_i h
      · refine ev_ifc 69 rfl hR.1 (by decide) (fun _ => ?_) (fun q => absurd hc q)
        exact R_byTurns_69_t hd      M r h
      · refine ev_ifc 69 rfl hR.1 (by decide) (fun q => absurd q hc) (fun _ => ?_)
        refine ev_k (pc' := 41) (ls' := [(0, .inr (.inr (some 73))), (1, .inl (x1)), (2, .inl (x2)), (3, .inl (x3))]) (st' := [.inr (.inr (some 73)), .inl (x2)]) (nc' := 126) (np' := 138) (M' := M) 2 rfl ?_
        obtain ⟨v5, hv, h⟩ := ob_i h
        refine ev_call (t := 284) (as := [.inr (.inr (some 73))]) (rest := [.inl (x2)]) rfl rfl rfl (by omega) (R_toldPeople_e (by omega)  M _ hv) ?_
        refine ev_k (pc' := 47) (ls' := [(0, .inr (.inr (some 73))), (1, .inl (x1)), (2, .inl (x2)), (3, .inl (x3))]) (st' := [.inl (b_and (x2) (b_xor (v5) (-1)))]) (nc' := 126) (np' := 138) (M' := M) 3 rfl ?_
        obtain ⟨hR, ⟨hc, h⟩ | ⟨hc, h⟩⟩ := c_ne_i h
        · refine ev_ifc 69 rfl hR.1 (by decide) (fun _ => ?_) (fun q => absurd hc q)
          exact R_byTurns_69_t hd      M r h
        · refine ev_ifc 69 rfl hR.1 (by decide) (fun q => absurd q hc) (fun _ => ?_)
          refine ev_k (pc' := 53) (ls' := [(0, .inr (.inr (some 73))), (1, .inl (x1)), (2, .inl (x2)), (3, .inl (x3))]) (st' := [.inl (10), .inl (x3)]) (nc' := 126) (np' := 138) (M' := M) 2 rfl ?_
          obtain ⟨hR, ⟨hc, h⟩ | ⟨hc, h⟩⟩ := c_eq_i h
          · refine ev_icmp 71 rfl hR.1 hR.2 (by decide) (fun _ => ?_) (fun q => absurd hc q)
            exact R_byTurns_71_t hd     (x1) (x2) (x3) M r h
          · refine ev_icmp 71 rfl hR.1 hR.2 (by decide) (fun q => absurd q hc) (fun _ => ?_)
            refine ev_k (pc' := 57) (ls' := [(0, .inr (.inr (some 73))), (1, .inl (x1)), (2, .inl (x2)), (3, .inl (x3))]) (st' := [.inl (x3)]) (nc' := 126) (np' := 138) (M' := M) 1 rfl ?_
            obtain ⟨hc, h⟩ := ck_i h
            refine ev_i2l rfl hc ?_
            refine ev_k (pc' := 62) (ls' := [(0, .inr (.inr (some 73))), (1, .inl (x1)), (2, .inl (x2)), (3, .inl (x3))]) (st' := [.inl ((x1) - (1)), .inr (.inl (0)), .inr (.inl (x3))]) (nc' := 126) (np' := 138) (M' := M) 4 rfl ?_
            obtain ⟨hc, h⟩ := ck_i h
            refine ev_i2l rfl hc ?_
            refine ev_k (pc' := 63) (ls' := [(0, .inr (.inr (some 73))), (1, .inl (x1)), (2, .inl (x2)), (3, .inl (x3))]) (st' := [.inr (.inl ((x1) - (1))), .inr (.inl (0)), .inr (.inl (x3))]) (nc' := 126) (np' := 138) (M' := M) 0 rfl ?_
            obtain ⟨v6, hv, h⟩ := ob_i h
            refine ev_call (t := 193) (as := [.inr (.inl (x3)), .inr (.inl (0)), .inr (.inl ((x1) - (1)))]) (rest := []) rfl rfl rfl (by omega) (R_lies_e (by omega) (x3) (0) ((x1) - (1)) M _ hv) ?_
            refine ev_k (pc' := 66) (ls' := [(0, .inr (.inr (some 73))), (1, .inl (x1)), (2, .inl (x2)), (3, .inl (x3))]) (st' := [.inl (v6)]) (nc' := 126) (np' := 138) (M' := M) 0 rfl ?_
            obtain ⟨hR, ⟨hc, h⟩ | ⟨hc, h⟩⟩ := c_ne_i h
            · refine ev_ifc 71 rfl hR.1 (by decide) (fun _ => ?_) (fun q => absurd hc q)
              exact R_byTurns_71_t hd     (x1) (x2) (x3) M r h
            · refine ev_ifc 71 rfl hR.1 (by decide) (fun q => absurd q hc) (fun _ => ?_)
              exact R_byTurns_69_t hd      M r h
def R_plannedFor_62    (x1 : Int) (x2 : Int) (x3 : Int) (x4 : Int) (x7 : Int) (s0 : Int) (M : am_M) : Option (Int × am_M) := oc (R_cutting (x1) (x4) M) fun v1 M2 => oc (R_walking (x1) (x4) (x7) (1) ((M2 73 45) + (x3)) M2) fun v3 M4 => oc (R_walking (x1) (x4) (x7) (0) ((M4 73 45) + (x3)) M4) fun v5 M6 => some (((((x2) * (v1)) + ((2) * (s0))) + ((s0) * (v3))) + (((x2) - (s0)) * (v5)), M6)
def R_plannedFor_6    : Nat → Int → Int → Int → Int → Int → Int → Int → Int → am_M → Option (Int × am_M)
  | 0, _, _, _, _, _, _, _, _, _ => none
  | n + 1, x1, x2, x3, x4, x5, x6, x7, x8, M => c_ge (x8) (x3)
       (c_ne (x6) (0)
       (ck (am_R (((x2) + (x5)) - (1)) ∧ am_R (x5) ∧ ((x5) : Int) ≠ 0) (tw (Int.tdiv (((x2) + (x5)) - (1)) (x5)) fun v1 => (R_plannedFor_62    (x1) (x2) (x3) (x4) (x7) (v1) M)))
       ((R_plannedFor_62    (x1) (x2) (x3) (x4) (x7) (0) M)))
       (oc (R_growing (x1) (x4) (x7) ((M 73 45) + (x8)) M) fun v2 M3 => ob (R_held ((x7) + (v2)) (99) M3) fun v4 => (R_plannedFor_6    n (x1) (x2) (x3) (x4) (x5) (x6) (v4) ((x8) + (1)) M3))
def R_plannedFor    (x1 : Int) (x2 : Int) (x3 : Int) (x4 : Int) (x5 : Int) (x6 : Int) (M : am_M) : Option (Int × am_M) := (R_plannedFor_6    am_big (x1) (x2) (x3) (x4) (x5) (x6) (0) (0) M)
theorem R_plannedFor_62_t {L : Nat} {xs : Nat → Int} {d : Nat} (hd : 5 ≤ d)     (x1 : Int) (x2 : Int) (x3 : Int) (x4 : Int) (x7 : Int) (s0 : Int) (M : am_M) (r : Int × am_M) (h : R_plannedFor_62    x1 x2 x3 x4 x7 s0 M = some r) : am_Ev L xs d me_291 62 [(0, .inr (.inr (some 73))), (1, .inl (x1)), (2, .inl (x2)), (3, .inl (x3)), (4, .inl (x4)), (7, .inl (x7))] [.inl (s0)] 126 138 M (some (.inl r.1), 126, 138, r.2) := by
  refine ev_k (pc' := 69) (ls' := [(8, .inl (s0)), (0, .inr (.inr (some 73))), (1, .inl (x1)), (2, .inl (x2)), (3, .inl (x3)), (4, .inl (x4)), (7, .inl (x7))]) (st' := [.inl (x4), .inl (x1), .inr (.inr (some 73)), .inl (x2)]) (nc' := 126) (np' := 138) (M' := M) 5 rfl ?_
  obtain ⟨v1, M2, hv, h⟩ := oc_i h
  refine ev_call (t := 258) (as := [.inr (.inr (some 73)), .inl (x1), .inl (x4)]) (rest := [.inl (x2)]) rfl rfl rfl (by omega) (R_cutting_e (by omega) (x1) (x4) M _ hv) ?_
  refine ev_k (pc' := 93) (ls' := [(8, .inl (s0)), (0, .inr (.inr (some 73))), (1, .inl (x1)), (2, .inl (x2)), (3, .inl (x3)), (4, .inl (x4)), (7, .inl (x7))]) (st' := [.inl ((M2 73 45) + (x3)), .inl (1), .inl (x7), .inl (x4), .inl (x1), .inr (.inr (some 73)), .inl (s0), .inl (((x2) * (v1)) + ((2) * (s0)))]) (nc' := 126) (np' := 138) (M' := M2) 15 rfl ?_
  obtain ⟨v3, M4, hv, h⟩ := oc_i h
  refine ev_call (t := 248) (as := [.inr (.inr (some 73)), .inl (x1), .inl (x4), .inl (x7), .inl (1), .inl ((M2 73 45) + (x3))]) (rest := [.inl (s0), .inl (((x2) * (v1)) + ((2) * (s0)))]) rfl rfl rfl (by omega) (R_walking_e (by omega) (x1) (x4) (x7) (1) ((M2 73 45) + (x3)) M2 _ hv) ?_
  refine ev_k (pc' := 115) (ls' := [(8, .inl (s0)), (0, .inr (.inr (some 73))), (1, .inl (x1)), (2, .inl (x2)), (3, .inl (x3)), (4, .inl (x4)), (7, .inl (x7))]) (st' := [.inl ((M4 73 45) + (x3)), .inl (0), .inl (x7), .inl (x4), .inl (x1), .inr (.inr (some 73)), .inl ((x2) - (s0)), .inl ((((x2) * (v1)) + ((2) * (s0))) + ((s0) * (v3)))]) (nc' := 126) (np' := 138) (M' := M4) 14 rfl ?_
  obtain ⟨v5, M6, hv, h⟩ := oc_i h
  refine ev_call (t := 248) (as := [.inr (.inr (some 73)), .inl (x1), .inl (x4), .inl (x7), .inl (0), .inl ((M4 73 45) + (x3))]) (rest := [.inl ((x2) - (s0)), .inl ((((x2) * (v1)) + ((2) * (s0))) + ((s0) * (v3)))]) rfl rfl rfl (by omega) (R_walking_e (by omega) (x1) (x4) (x7) (0) ((M4 73 45) + (x3)) M4 _ hv) ?_
  refine ev_k (pc' := 120) (ls' := [(8, .inl (s0)), (0, .inr (.inr (some 73))), (1, .inl (x1)), (2, .inl (x2)), (3, .inl (x3)), (4, .inl (x4)), (7, .inl (x7))]) (st' := [.inl (((((x2) * (v1)) + ((2) * (s0))) + ((s0) * (v3))) + (((x2) - (s0)) * (v5)))]) (nc' := 126) (np' := 138) (M' := M6) 2 rfl ?_
  cases h
  exact ev_ret rfl
theorem R_plannedFor_6_t {L : Nat} {xs : Nat → Int} {d : Nat} (hd : 5 ≤ d)     : ∀ (n : Nat) (x1 : Int) (x2 : Int) (x3 : Int) (x4 : Int) (x5 : Int) (x6 : Int) (x7 : Int) (x8 : Int) (M : am_M) (r : Int × am_M), R_plannedFor_6    n x1 x2 x3 x4 x5 x6 x7 x8 M = some r → am_Ev L xs d me_291 6 [(0, .inr (.inr (some 73))), (1, .inl (x1)), (2, .inl (x2)), (3, .inl (x3)), (4, .inl (x4)), (5, .inl (x5)), (6, .inl (x6)), (7, .inl (x7)), (8, .inl (x8))] [] 126 138 M (some (.inl r.1), 126, 138, r.2)
  | 0, _, _, _, _, _, _, _, _, M, r, h => by cases h
  | n + 1, x1, x2, x3, x4, x5, x6, x7, x8, M, r, h => by
    have ih := R_plannedFor_6_t (L := L) (xs := xs) hd     n
    refine ev_k (pc' := 9) (ls' := [(0, .inr (.inr (some 73))), (1, .inl (x1)), (2, .inl (x2)), (3, .inl (x3)), (4, .inl (x4)), (5, .inl (x5)), (6, .inl (x6)), (7, .inl (x7)), (8, .inl (x8))]) (st' := [.inl (x3), .inl (x8)]) (nc' := 126) (np' := 138) (M' := M) 2 rfl ?_
    obtain ⟨hR, ⟨hc, h⟩ | ⟨hc, h⟩⟩ := c_ge_i h
    · refine ev_icmp 44 rfl hR.1 hR.2 (by decide) (fun _ => ?_) (fun q => absurd hc q)
      refine ev_k (pc' := 46) (ls' := [(0, .inr (.inr (some 73))), (1, .inl (x1)), (2, .inl (x2)), (3, .inl (x3)), (4, .inl (x4)), (5, .inl (x5)), (6, .inl (x6)), (7, .inl (x7)), (8, .inl (x8))]) (st' := [.inl (x6)]) (nc' := 126) (np' := 138) (M' := M) 1 rfl ?_
      obtain ⟨hR, ⟨hc, h⟩ | ⟨hc, h⟩⟩ := c_ne_i h
      · refine ev_ifc 53 rfl hR.1 (by decide) (fun _ => ?_) (fun q => absurd hc q)
        refine ev_k (pc' := 61) (ls' := [(0, .inr (.inr (some 73))), (1, .inl (x1)), (2, .inl (x2)), (3, .inl (x3)), (4, .inl (x4)), (5, .inl (x5)), (6, .inl (x6)), (7, .inl (x7)), (8, .inl (x8))]) (st' := [.inl (x5), .inl (((x2) + (x5)) - (1))]) (nc' := 126) (np' := 138) (M' := M) 6 rfl ?_
        obtain ⟨hc, h⟩ := ck_i h
        obtain ⟨v1, ev, h⟩ := tw_i h
        refine ev_idiv rfl hc ?_
        refine ev_k (pc' := 62) (ls' := [(0, .inr (.inr (some 73))), (1, .inl (x1)), (2, .inl (x2)), (3, .inl (x3)), (4, .inl (x4)), (7, .inl (x7))]) (st' := [.inl (Int.tdiv (((x2) + (x5)) - (1)) (x5))]) (nc' := 126) (np' := 138) (M' := M) 0 rfl ?_
        rw [← ev]
        exact R_plannedFor_62_t hd     (x1) (x2) (x3) (x4) (x7) (v1) M r h
      · refine ev_ifc 53 rfl hR.1 (by decide) (fun q => absurd q hc) (fun _ => ?_)
        refine ev_k (pc' := 62) (ls' := [(0, .inr (.inr (some 73))), (1, .inl (x1)), (2, .inl (x2)), (3, .inl (x3)), (4, .inl (x4)), (7, .inl (x7))]) (st' := [.inl (0)]) (nc' := 126) (np' := 138) (M' := M) 2 rfl ?_
        exact R_plannedFor_62_t hd     (x1) (x2) (x3) (x4) (x7) (0) M r h
    · refine ev_icmp 44 rfl hR.1 hR.2 (by decide) (fun q => absurd q hc) (fun _ => ?_)
      refine ev_k (pc' := 27) (ls' := [(0, .inr (.inr (some 73))), (1, .inl (x1)), (2, .inl (x2)), (3, .inl (x3)), (4, .inl (x4)), (5, .inl (x5)), (6, .inl (x6)), (7, .inl (x7)), (8, .inl (x8))]) (st' := [.inl ((M 73 45) + (x8)), .inl (x7), .inl (x4), .inl (x1), .inr (.inr (some 73)), .inl (x7)]) (nc' := 126) (np' := 138) (M' := M) 9 rfl ?_
      obtain ⟨v2, M3, hv, h⟩ := oc_i h
      refine ev_call (t := 268) (as := [.inr (.inr (some 73)), .inl (x1), .inl (x4), .inl (x7), .inl ((M 73 45) + (x8))]) (rest := [.inl (x7)]) rfl rfl rfl (by omega) (R_growing_e (by omega) (x1) (x4) (x7) ((M 73 45) + (x8)) M _ hv) ?_
      refine ev_k (pc' := 33) (ls' := [(0, .inr (.inr (some 73))), (1, .inl (x1)), (2, .inl (x2)), (3, .inl (x3)), (4, .inl (x4)), (5, .inl (x5)), (6, .inl (x6)), (7, .inl (x7)), (8, .inl (x8))]) (st' := [.inl (99), .inl ((x7) + (v2))]) (nc' := 126) (np' := 138) (M' := M3) 2 rfl ?_
      obtain ⟨v4, hv, h⟩ := ob_i h
      refine ev_call (t := 255) (as := [.inl ((x7) + (v2)), .inl (99)]) (rest := []) rfl rfl rfl (by omega) (R_held_e (by omega) ((x7) + (v2)) (99) M3 _ hv) ?_
      refine ev_k (pc' := 6) (ls' := [(0, .inr (.inr (some 73))), (1, .inl (x1)), (2, .inl (x2)), (3, .inl (x3)), (4, .inl (x4)), (5, .inl (x5)), (6, .inl (x6)), (7, .inl (v4)), (8, .inl ((x8) + (1)))]) (st' := []) (nc' := 126) (np' := 138) (M' := M3) 3 rfl ?_
      exact ih (x1) (x2) (x3) (x4) (x5) (x6) (v4) ((x8) + (1)) M3 r h
theorem R_plannedFor_e {L : Nat} {xs : Nat → Int} {d : Nat} (hd : 5 ≤ d)   (x1 : Int) (x2 : Int) (x3 : Int) (x4 : Int) (x5 : Int) (x6 : Int) (M : am_M) (r : Int × am_M) (h : R_plannedFor   x1 x2 x3 x4 x5 x6 M = some r) : am_Ev L xs d me_291 0 (am_ar1 0 [.inr (.inr (some 73)), .inl (x1), .inl (x2), .inl (x3), .inl (x4), .inl (x5), .inl (x6)]) [] 126 138 M (some (.inl r.1), 126, 138, r.2) := by
  refine ev_k (pc' := 6) (ls' := [(0, .inr (.inr (some 73))), (1, .inl (x1)), (2, .inl (x2)), (3, .inl (x3)), (4, .inl (x4)), (5, .inl (x5)), (6, .inl (x6)), (7, .inl (0)), (8, .inl (0))]) (st' := []) (nc' := 126) (np' := 138) (M' := M) 4 rfl ?_
  exact R_plannedFor_6_t hd     am_big (x1) (x2) (x3) (x4) (x5) (x6) (0) (0) M r h
def R_planned_146   (k81 : Int → Int → Int → Int → Int → Int → Int → Int → Int → am_M → Option (Int × am_M)) (k90 : Int → Int → Int → Int → Int → Int → Int → Int → Int → Int → am_M → Option (Int × am_M)) (k100 : Int → Int → Int → Int → Int → Int → Int → Int → Int → Int → Int → am_M → Option (Int × am_M)) (x1 : Int) (x2 : Int) (x3 : Int) (x4 : Int) (x5 : Int) (x6 : Int) (x7 : Int) (x8 : Int) (x9 : Int) (x10 : Int) (x11 : Int) (M : am_M) : Option (Int × am_M) := (k100 (x1) (x2) (x3) (x4) (x5) (x6) (x7) (x8) (x9) (x10) ((x11) + (-2)) M)
def R_planned_100   (k81 : Int → Int → Int → Int → Int → Int → Int → Int → Int → am_M → Option (Int × am_M)) (k90 : Int → Int → Int → Int → Int → Int → Int → Int → Int → Int → am_M → Option (Int × am_M)) : Nat → Int → Int → Int → Int → Int → Int → Int → Int → Int → Int → Int → am_M → Option (Int × am_M)
  | 0, _, _, _, _, _, _, _, _, _, _, _, _ => none
  | n + 1, x1, x2, x3, x4, x5, x6, x7, x8, x9, x10, x11, M => c_lt (x11) (0)
       ((k90 (x1) (x2) (x3) (x4) (x5) (x6) (x7) (x8) (x9) ((x10) + (1)) M))
       (oc (R_plannedFor (x1) (x2) (x3) (x9) (x10) (x11) M) fun v1 M2 => c_lt (v1) (x5)
       ((R_planned_146   k81 k90 (R_planned_100   k81 k90 n) (x1) (x2) (x3) (x4) (v1) (x9) (x10) (x11) (x9) (x10) (x11) M2))
       ((R_planned_146   k81 k90 (R_planned_100   k81 k90 n) (x1) (x2) (x3) (x4) (x5) (x6) (x7) (x8) (x9) (x10) (x11) M2)))
def R_planned_90   (k81 : Int → Int → Int → Int → Int → Int → Int → Int → Int → am_M → Option (Int × am_M)) : Nat → Int → Int → Int → Int → Int → Int → Int → Int → Int → Int → am_M → Option (Int × am_M)
  | 0, _, _, _, _, _, _, _, _, _, _, _ => none
  | n + 1, x1, x2, x3, x4, x5, x6, x7, x8, x9, x10, M => c_ge (x10) (7)
       ((k81 (x1) (x2) (x3) (x4) (x5) (x6) (x7) (x8) ((x9) + (1)) M))
       ((R_planned_100   k81 (R_planned_90   k81 n) am_big (x1) (x2) (x3) (x4) (x5) (x6) (x7) (x8) (x9) (x10) (2) M))
def R_planned_198    (s0 : Int) (M : am_M) : Option (Int × am_M) := some (s0, M)
def R_planned_81    : Nat → Int → Int → Int → Int → Int → Int → Int → Int → Int → am_M → Option (Int × am_M)
  | 0, _, _, _, _, _, _, _, _, _, _ => none
  | n + 1, x1, x2, x3, x4, x5, x6, x7, x8, x9, M => c_ge (x9) (5)
       (c_ne (x4) (0)
       (c_ne (x4) (1)
       (c_ne (x4) (2)
       ((R_planned_198    (x8) M))
       ((R_planned_198    (x7) M)))
       ((R_planned_198    (x6) M)))
       ((R_planned_198    (x5) M)))
       ((R_planned_90   (R_planned_81    n) am_big (x1) (x2) (x3) (x4) (x5) (x6) (x7) (x8) (x9) (1) M))
def R_planned_62     (M : am_M) : Option (Int × am_M) := some (-1, M)
def R_planned    (x1 : Int) (x2 : Int) (x3 : Int) (x4 : Int) (M : am_M) : Option (Int × am_M) := ck (am_R (x1)) (ob (R_lies (x1) (0) (6) M) fun v1 => c_eq (v1) (0)
       (R_planned_62     M)
       (c_eq (x1) (3)
       (R_planned_62     M)
       (ck (am_R (x2)) (ob (R_lies (x2) (1) (99) M) fun v2 => c_eq (v2) (0)
       (R_planned_62     M)
       (ck (am_R (x3)) (ob (R_lies (x3) (0) (30) M) fun v3 => c_eq (v3) (0)
       (R_planned_62     M)
       (ck (am_R (x4)) (ob (R_lies (x4) (0) (3) M) fun v4 => c_eq (v4) (0)
       (R_planned_62     M)
       (c_ne (M 73 41) (-1)
       ((R_planned_81    am_big (x1) (x2) (x3) (x4) (1000000000) (0) (0) (0) (1) M))
       (R_planned_62     M))))))))))
theorem R_planned_146_t {L : Nat} {xs : Nat → Int} {d : Nat} (hd : 6 ≤ d)   (k81 : Int → Int → Int → Int → Int → Int → Int → Int → Int → am_M → Option (Int × am_M)) (k90 : Int → Int → Int → Int → Int → Int → Int → Int → Int → Int → am_M → Option (Int × am_M)) (k100 : Int → Int → Int → Int → Int → Int → Int → Int → Int → Int → Int → am_M → Option (Int × am_M)) (hk81 : ∀ (x1 : Int) (x2 : Int) (x3 : Int) (x4 : Int) (x5 : Int) (x6 : Int) (x7 : Int) (x8 : Int) (x9 : Int) (M : am_M) (r : Int × am_M), k81 x1 x2 x3 x4 x5 x6 x7 x8 x9 M = some r → am_Ev L xs d me_290 81 [(0, .inr (.inr (some 73))), (1, .inl (x1)), (2, .inl (x2)), (3, .inl (x3)), (4, .inl (x4)), (5, .inl (x5)), (6, .inl (x6)), (7, .inl (x7)), (8, .inl (x8)), (9, .inl (x9))] [] 126 138 M (some (.inl r.1), 126, 138, r.2)) (hk90 : ∀ (x1 : Int) (x2 : Int) (x3 : Int) (x4 : Int) (x5 : Int) (x6 : Int) (x7 : Int) (x8 : Int) (x9 : Int) (x10 : Int) (M : am_M) (r : Int × am_M), k90 x1 x2 x3 x4 x5 x6 x7 x8 x9 x10 M = some r → am_Ev L xs d me_290 90 [(0, .inr (.inr (some 73))), (1, .inl (x1)), (2, .inl (x2)), (3, .inl (x3)), (4, .inl (x4)), (5, .inl (x5)), (6, .inl (x6)), (7, .inl (x7)), (8, .inl (x8)), (9, .inl (x9)), (10, .inl (x10))] [] 126 138 M (some (.inl r.1), 126, 138, r.2)) (hk100 : ∀ (x1 : Int) (x2 : Int) (x3 : Int) (x4 : Int) (x5 : Int) (x6 : Int) (x7 : Int) (x8 : Int) (x9 : Int) (x10 : Int) (x11 : Int) (M : am_M) (r : Int × am_M), k100 x1 x2 x3 x4 x5 x6 x7 x8 x9 x10 x11 M = some r → am_Ev L xs d me_290 100 [(0, .inr (.inr (some 73))), (1, .inl (x1)), (2, .inl (x2)), (3, .inl (x3)), (4, .inl (x4)), (5, .inl (x5)), (6, .inl (x6)), (7, .inl (x7)), (8, .inl (x8)), (9, .inl (x9)), (10, .inl (x10)), (11, .inl (x11))] [] 126 138 M (some (.inl r.1), 126, 138, r.2)) (x1 : Int) (x2 : Int) (x3 : Int) (x4 : Int) (x5 : Int) (x6 : Int) (x7 : Int) (x8 : Int) (x9 : Int) (x10 : Int) (x11 : Int) (M : am_M) (r : Int × am_M) (h : R_planned_146   k81 k90 k100 x1 x2 x3 x4 x5 x6 x7 x8 x9 x10 x11 M = some r) : am_Ev L xs d me_290 146 [(0, .inr (.inr (some 73))), (1, .inl (x1)), (2, .inl (x2)), (3, .inl (x3)), (4, .inl (x4)), (5, .inl (x5)), (6, .inl (x6)), (7, .inl (x7)), (8, .inl (x8)), (9, .inl (x9)), (10, .inl (x10)), (11, .inl (x11))] [] 126 138 M (some (.inl r.1), 126, 138, r.2) := by
  refine ev_k (pc' := 100) (ls' := [(0, .inr (.inr (some 73))), (1, .inl (x1)), (2, .inl (x2)), (3, .inl (x3)), (4, .inl (x4)), (5, .inl (x5)), (6, .inl (x6)), (7, .inl (x7)), (8, .inl (x8)), (9, .inl (x9)), (10, .inl (x10)), (11, .inl ((x11) + (-2)))]) (st' := []) (nc' := 126) (np' := 138) (M' := M) 2 rfl ?_
  exact hk100 (x1) (x2) (x3) (x4) (x5) (x6) (x7) (x8) (x9) (x10) ((x11) + (-2)) M r h
theorem R_planned_100_t {L : Nat} {xs : Nat → Int} {d : Nat} (hd : 6 ≤ d)   (k81 : Int → Int → Int → Int → Int → Int → Int → Int → Int → am_M → Option (Int × am_M)) (k90 : Int → Int → Int → Int → Int → Int → Int → Int → Int → Int → am_M → Option (Int × am_M)) (hk81 : ∀ (x1 : Int) (x2 : Int) (x3 : Int) (x4 : Int) (x5 : Int) (x6 : Int) (x7 : Int) (x8 : Int) (x9 : Int) (M : am_M) (r : Int × am_M), k81 x1 x2 x3 x4 x5 x6 x7 x8 x9 M = some r → am_Ev L xs d me_290 81 [(0, .inr (.inr (some 73))), (1, .inl (x1)), (2, .inl (x2)), (3, .inl (x3)), (4, .inl (x4)), (5, .inl (x5)), (6, .inl (x6)), (7, .inl (x7)), (8, .inl (x8)), (9, .inl (x9))] [] 126 138 M (some (.inl r.1), 126, 138, r.2)) (hk90 : ∀ (x1 : Int) (x2 : Int) (x3 : Int) (x4 : Int) (x5 : Int) (x6 : Int) (x7 : Int) (x8 : Int) (x9 : Int) (x10 : Int) (M : am_M) (r : Int × am_M), k90 x1 x2 x3 x4 x5 x6 x7 x8 x9 x10 M = some r → am_Ev L xs d me_290 90 [(0, .inr (.inr (some 73))), (1, .inl (x1)), (2, .inl (x2)), (3, .inl (x3)), (4, .inl (x4)), (5, .inl (x5)), (6, .inl (x6)), (7, .inl (x7)), (8, .inl (x8)), (9, .inl (x9)), (10, .inl (x10))] [] 126 138 M (some (.inl r.1), 126, 138, r.2)) : ∀ (n : Nat) (x1 : Int) (x2 : Int) (x3 : Int) (x4 : Int) (x5 : Int) (x6 : Int) (x7 : Int) (x8 : Int) (x9 : Int) (x10 : Int) (x11 : Int) (M : am_M) (r : Int × am_M), R_planned_100   k81 k90 n x1 x2 x3 x4 x5 x6 x7 x8 x9 x10 x11 M = some r → am_Ev L xs d me_290 100 [(0, .inr (.inr (some 73))), (1, .inl (x1)), (2, .inl (x2)), (3, .inl (x3)), (4, .inl (x4)), (5, .inl (x5)), (6, .inl (x6)), (7, .inl (x7)), (8, .inl (x8)), (9, .inl (x9)), (10, .inl (x10)), (11, .inl (x11))] [] 126 138 M (some (.inl r.1), 126, 138, r.2)
  | 0, _, _, _, _, _, _, _, _, _, _, _, M, r, h => by cases h
  | n + 1, x1, x2, x3, x4, x5, x6, x7, x8, x9, x10, x11, M, r, h => by
    have ih := R_planned_100_t (L := L) (xs := xs) hd   k81 k90 hk81 hk90 n
    refine ev_k (pc' := 102) (ls' := [(0, .inr (.inr (some 73))), (1, .inl (x1)), (2, .inl (x2)), (3, .inl (x3)), (4, .inl (x4)), (5, .inl (x5)), (6, .inl (x6)), (7, .inl (x7)), (8, .inl (x8)), (9, .inl (x9)), (10, .inl (x10)), (11, .inl (x11))]) (st' := [.inl (x11)]) (nc' := 126) (np' := 138) (M' := M) 1 rfl ?_
    obtain ⟨hR, ⟨hc, h⟩ | ⟨hc, h⟩⟩ := c_lt_i h
    · refine ev_ifc 152 rfl hR.1 (by decide) (fun _ => ?_) (fun q => absurd hc q)
      refine ev_k (pc' := 90) (ls' := [(0, .inr (.inr (some 73))), (1, .inl (x1)), (2, .inl (x2)), (3, .inl (x3)), (4, .inl (x4)), (5, .inl (x5)), (6, .inl (x6)), (7, .inl (x7)), (8, .inl (x8)), (9, .inl (x9)), (10, .inl ((x10) + (1)))]) (st' := []) (nc' := 126) (np' := 138) (M' := M) 2 rfl ?_
      exact hk90 (x1) (x2) (x3) (x4) (x5) (x6) (x7) (x8) (x9) ((x10) + (1)) M r h
    · refine ev_ifc 152 rfl hR.1 (by decide) (fun q => absurd q hc) (fun _ => ?_)
      refine ev_k (pc' := 115) (ls' := [(0, .inr (.inr (some 73))), (1, .inl (x1)), (2, .inl (x2)), (3, .inl (x3)), (4, .inl (x4)), (5, .inl (x5)), (6, .inl (x6)), (7, .inl (x7)), (8, .inl (x8)), (9, .inl (x9)), (10, .inl (x10)), (11, .inl (x11))]) (st' := [.inl (x11), .inl (x10), .inl (x9), .inl (x3), .inl (x2), .inl (x1), .inr (.inr (some 73))]) (nc' := 126) (np' := 138) (M' := M) 7 rfl ?_
      obtain ⟨v1, M2, hv, h⟩ := oc_i h
      refine ev_call (t := 291) (as := [.inr (.inr (some 73)), .inl (x1), .inl (x2), .inl (x3), .inl (x9), .inl (x10), .inl (x11)]) (rest := []) rfl rfl rfl (by omega) (R_plannedFor_e (by omega) (x1) (x2) (x3) (x9) (x10) (x11) M _ hv) ?_
      refine ev_k (pc' := 124) (ls' := [(12, .inl (v1)), (0, .inr (.inr (some 73))), (1, .inl (x1)), (2, .inl (x2)), (3, .inl (x3)), (4, .inl (x4)), (5, .inl (x5)), (6, .inl (x6)), (7, .inl (x7)), (8, .inl (x8)), (9, .inl (x9)), (10, .inl (x10)), (11, .inl (x11))]) (st' := [.inl (x5), .inl (v1)]) (nc' := 126) (np' := 138) (M' := M2) 3 rfl ?_
      obtain ⟨hR, ⟨hc, h⟩ | ⟨hc, h⟩⟩ := c_lt_i h
      · refine ev_icmp 130 rfl hR.1 hR.2 (by decide) (fun _ => ?_) (fun q => absurd hc q)
        refine ev_k (pc' := 146) (ls' := [(0, .inr (.inr (some 73))), (1, .inl (x1)), (2, .inl (x2)), (3, .inl (x3)), (4, .inl (x4)), (5, .inl (v1)), (6, .inl (x9)), (7, .inl (x10)), (8, .inl (x11)), (9, .inl (x9)), (10, .inl (x10)), (11, .inl (x11))]) (st' := []) (nc' := 126) (np' := 138) (M' := M2) 8 rfl ?_
        exact R_planned_146_t hd   k81 k90 (R_planned_100   k81 k90 n) hk81 hk90 ih (x1) (x2) (x3) (x4) (v1) (x9) (x10) (x11) (x9) (x10) (x11) M2 r h
      · refine ev_icmp 130 rfl hR.1 hR.2 (by decide) (fun q => absurd q hc) (fun _ => ?_)
        refine ev_k (pc' := 146) (ls' := [(0, .inr (.inr (some 73))), (1, .inl (x1)), (2, .inl (x2)), (3, .inl (x3)), (4, .inl (x4)), (5, .inl (x5)), (6, .inl (x6)), (7, .inl (x7)), (8, .inl (x8)), (9, .inl (x9)), (10, .inl (x10)), (11, .inl (x11))]) (st' := []) (nc' := 126) (np' := 138) (M' := M2) 1 rfl ?_
        exact R_planned_146_t hd   k81 k90 (R_planned_100   k81 k90 n) hk81 hk90 ih (x1) (x2) (x3) (x4) (x5) (x6) (x7) (x8) (x9) (x10) (x11) M2 r h
theorem R_planned_90_t {L : Nat} {xs : Nat → Int} {d : Nat} (hd : 6 ≤ d)   (k81 : Int → Int → Int → Int → Int → Int → Int → Int → Int → am_M → Option (Int × am_M)) (hk81 : ∀ (x1 : Int) (x2 : Int) (x3 : Int) (x4 : Int) (x5 : Int) (x6 : Int) (x7 : Int) (x8 : Int) (x9 : Int) (M : am_M) (r : Int × am_M), k81 x1 x2 x3 x4 x5 x6 x7 x8 x9 M = some r → am_Ev L xs d me_290 81 [(0, .inr (.inr (some 73))), (1, .inl (x1)), (2, .inl (x2)), (3, .inl (x3)), (4, .inl (x4)), (5, .inl (x5)), (6, .inl (x6)), (7, .inl (x7)), (8, .inl (x8)), (9, .inl (x9))] [] 126 138 M (some (.inl r.1), 126, 138, r.2)) : ∀ (n : Nat) (x1 : Int) (x2 : Int) (x3 : Int) (x4 : Int) (x5 : Int) (x6 : Int) (x7 : Int) (x8 : Int) (x9 : Int) (x10 : Int) (M : am_M) (r : Int × am_M), R_planned_90   k81 n x1 x2 x3 x4 x5 x6 x7 x8 x9 x10 M = some r → am_Ev L xs d me_290 90 [(0, .inr (.inr (some 73))), (1, .inl (x1)), (2, .inl (x2)), (3, .inl (x3)), (4, .inl (x4)), (5, .inl (x5)), (6, .inl (x6)), (7, .inl (x7)), (8, .inl (x8)), (9, .inl (x9)), (10, .inl (x10))] [] 126 138 M (some (.inl r.1), 126, 138, r.2)
  | 0, _, _, _, _, _, _, _, _, _, _, M, r, h => by cases h
  | n + 1, x1, x2, x3, x4, x5, x6, x7, x8, x9, x10, M, r, h => by
    have ih := R_planned_90_t (L := L) (xs := xs) hd   k81 hk81 n
    refine ev_k (pc' := 94) (ls' := [(0, .inr (.inr (some 73))), (1, .inl (x1)), (2, .inl (x2)), (3, .inl (x3)), (4, .inl (x4)), (5, .inl (x5)), (6, .inl (x6)), (7, .inl (x7)), (8, .inl (x8)), (9, .inl (x9)), (10, .inl (x10))]) (st' := [.inl (7), .inl (x10)]) (nc' := 126) (np' := 138) (M' := M) 2 rfl ?_
    obtain ⟨hR, ⟨hc, h⟩ | ⟨hc, h⟩⟩ := c_ge_i h
    · refine ev_icmp 158 rfl hR.1 hR.2 (by decide) (fun _ => ?_) (fun q => absurd hc q)
      refine ev_k (pc' := 81) (ls' := [(0, .inr (.inr (some 73))), (1, .inl (x1)), (2, .inl (x2)), (3, .inl (x3)), (4, .inl (x4)), (5, .inl (x5)), (6, .inl (x6)), (7, .inl (x7)), (8, .inl (x8)), (9, .inl ((x9) + (1)))]) (st' := []) (nc' := 126) (np' := 138) (M' := M) 2 rfl ?_
      exact hk81 (x1) (x2) (x3) (x4) (x5) (x6) (x7) (x8) ((x9) + (1)) M r h
    · refine ev_icmp 158 rfl hR.1 hR.2 (by decide) (fun q => absurd q hc) (fun _ => ?_)
      refine ev_k (pc' := 100) (ls' := [(0, .inr (.inr (some 73))), (1, .inl (x1)), (2, .inl (x2)), (3, .inl (x3)), (4, .inl (x4)), (5, .inl (x5)), (6, .inl (x6)), (7, .inl (x7)), (8, .inl (x8)), (9, .inl (x9)), (10, .inl (x10)), (11, .inl (2))]) (st' := []) (nc' := 126) (np' := 138) (M' := M) 2 rfl ?_
      exact R_planned_100_t hd   k81 (R_planned_90   k81 n) hk81 ih am_big (x1) (x2) (x3) (x4) (x5) (x6) (x7) (x8) (x9) (x10) (2) M r h
theorem R_planned_198_t {L : Nat} {xs : Nat → Int} {d : Nat} (hd : 6 ≤ d)     (s0 : Int) (M : am_M) (r : Int × am_M) (h : R_planned_198    s0 M = some r) : am_Ev L xs d me_290 198 [] [.inl (s0)] 126 138 M (some (.inl r.1), 126, 138, r.2) := by
  refine ev_k (pc' := 198) (ls' := []) (st' := [.inl (s0)]) (nc' := 126) (np' := 138) (M' := M) 0 rfl ?_
  cases h
  exact ev_ret rfl
theorem R_planned_81_t {L : Nat} {xs : Nat → Int} {d : Nat} (hd : 6 ≤ d)     : ∀ (n : Nat) (x1 : Int) (x2 : Int) (x3 : Int) (x4 : Int) (x5 : Int) (x6 : Int) (x7 : Int) (x8 : Int) (x9 : Int) (M : am_M) (r : Int × am_M), R_planned_81    n x1 x2 x3 x4 x5 x6 x7 x8 x9 M = some r → am_Ev L xs d me_290 81 [(0, .inr (.inr (some 73))), (1, .inl (x1)), (2, .inl (x2)), (3, .inl (x3)), (4, .inl (x4)), (5, .inl (x5)), (6, .inl (x6)), (7, .inl (x7)), (8, .inl (x8)), (9, .inl (x9))] [] 126 138 M (some (.inl r.1), 126, 138, r.2)
  | 0, _, _, _, _, _, _, _, _, _, M, r, h => by cases h
  | n + 1, x1, x2, x3, x4, x5, x6, x7, x8, x9, M, r, h => by
    have ih := R_planned_81_t (L := L) (xs := xs) hd     n
    refine ev_k (pc' := 84) (ls' := [(0, .inr (.inr (some 73))), (1, .inl (x1)), (2, .inl (x2)), (3, .inl (x3)), (4, .inl (x4)), (5, .inl (x5)), (6, .inl (x6)), (7, .inl (x7)), (8, .inl (x8)), (9, .inl (x9))]) (st' := [.inl (5), .inl (x9)]) (nc' := 126) (np' := 138) (M' := M) 2 rfl ?_
    obtain ⟨hR, ⟨hc, h⟩ | ⟨hc, h⟩⟩ := c_ge_i h
    · refine ev_icmp 164 rfl hR.1 hR.2 (by decide) (fun _ => ?_) (fun q => absurd hc q)
      refine ev_k (pc' := 166) (ls' := [(0, .inr (.inr (some 73))), (1, .inl (x1)), (2, .inl (x2)), (3, .inl (x3)), (4, .inl (x4)), (5, .inl (x5)), (6, .inl (x6)), (7, .inl (x7)), (8, .inl (x8)), (9, .inl (x9))]) (st' := [.inl (x4)]) (nc' := 126) (np' := 138) (M' := M) 1 rfl ?_
      obtain ⟨hR, ⟨hc, h⟩ | ⟨hc, h⟩⟩ := c_ne_i h
      · refine ev_ifc 174 rfl hR.1 (by decide) (fun _ => ?_) (fun q => absurd hc q)
        refine ev_k (pc' := 177) (ls' := [(0, .inr (.inr (some 73))), (1, .inl (x1)), (2, .inl (x2)), (3, .inl (x3)), (4, .inl (x4)), (5, .inl (x5)), (6, .inl (x6)), (7, .inl (x7)), (8, .inl (x8)), (9, .inl (x9))]) (st' := [.inl (1), .inl (x4)]) (nc' := 126) (np' := 138) (M' := M) 2 rfl ?_
        obtain ⟨hR, ⟨hc, h⟩ | ⟨hc, h⟩⟩ := c_ne_i h
        · refine ev_icmp 185 rfl hR.1 hR.2 (by decide) (fun _ => ?_) (fun q => absurd hc q)
          refine ev_k (pc' := 188) (ls' := [(0, .inr (.inr (some 73))), (1, .inl (x1)), (2, .inl (x2)), (3, .inl (x3)), (4, .inl (x4)), (5, .inl (x5)), (6, .inl (x6)), (7, .inl (x7)), (8, .inl (x8)), (9, .inl (x9))]) (st' := [.inl (2), .inl (x4)]) (nc' := 126) (np' := 138) (M' := M) 2 rfl ?_
          obtain ⟨hR, ⟨hc, h⟩ | ⟨hc, h⟩⟩ := c_ne_i h
          · refine ev_icmp 196 rfl hR.1 hR.2 (by decide) (fun _ => ?_) (fun q => absurd hc q)
            refine ev_k (pc' := 198) (ls' := []) (st' := [.inl (x8)]) (nc' := 126) (np' := 138) (M' := M) 1 rfl ?_
            exact R_planned_198_t hd     (x8) M r h
          · refine ev_icmp 196 rfl hR.1 hR.2 (by decide) (fun q => absurd q hc) (fun _ => ?_)
            refine ev_k (pc' := 198) (ls' := []) (st' := [.inl (x7)]) (nc' := 126) (np' := 138) (M' := M) 2 rfl ?_
            exact R_planned_198_t hd     (x7) M r h
        · refine ev_icmp 185 rfl hR.1 hR.2 (by decide) (fun q => absurd q hc) (fun _ => ?_)
          refine ev_k (pc' := 198) (ls' := []) (st' := [.inl (x6)]) (nc' := 126) (np' := 138) (M' := M) 2 rfl ?_
          exact R_planned_198_t hd     (x6) M r h
      · refine ev_ifc 174 rfl hR.1 (by decide) (fun q => absurd q hc) (fun _ => ?_)
        refine ev_k (pc' := 198) (ls' := []) (st' := [.inl (x5)]) (nc' := 126) (np' := 138) (M' := M) 2 rfl ?_
        exact R_planned_198_t hd     (x5) M r h
    · refine ev_icmp 164 rfl hR.1 hR.2 (by decide) (fun q => absurd q hc) (fun _ => ?_)
      refine ev_k (pc' := 90) (ls' := [(0, .inr (.inr (some 73))), (1, .inl (x1)), (2, .inl (x2)), (3, .inl (x3)), (4, .inl (x4)), (5, .inl (x5)), (6, .inl (x6)), (7, .inl (x7)), (8, .inl (x8)), (9, .inl (x9)), (10, .inl (1))]) (st' := []) (nc' := 126) (np' := 138) (M' := M) 2 rfl ?_
      exact R_planned_90_t hd   (R_planned_81    n) ih am_big (x1) (x2) (x3) (x4) (x5) (x6) (x7) (x8) (x9) (1) M r h
theorem R_planned_62_t {L : Nat} {xs : Nat → Int} {d : Nat} (hd : 6 ≤ d)      (M : am_M) (r : Int × am_M) (h : R_planned_62     M = some r) : am_Ev L xs d me_290 62 [] [] 126 138 M (some (.inl r.1), 126, 138, r.2) := by
  refine ev_k (pc' := 63) (ls' := []) (st' := [.inl (-1)]) (nc' := 126) (np' := 138) (M' := M) 1 rfl ?_
  cases h
  exact ev_ret rfl
theorem R_planned_e {L : Nat} {xs : Nat → Int} {d : Nat} (hd : 6 ≤ d)   (x1 : Int) (x2 : Int) (x3 : Int) (x4 : Int) (M : am_M) (r : Int × am_M) (h : R_planned   x1 x2 x3 x4 M = some r) : am_Ev L xs d me_290 0 (am_ar1 0 [.inr (.inr (some 73)), .inl (x1), .inl (x2), .inl (x3), .inl (x4)]) [] 126 138 M (some (.inl r.1), 126, 138, r.2) := by
  refine ev_k (pc' := 1) (ls' := [(0, .inr (.inr (some 73))), (1, .inl (x1)), (2, .inl (x2)), (3, .inl (x3)), (4, .inl (x4))]) (st' := [.inl (x1)]) (nc' := 126) (np' := 138) (M' := M) 1 rfl ?_
  obtain ⟨hc, h⟩ := ck_i h
  refine ev_i2l rfl hc ?_
  refine ev_k (pc' := 6) (ls' := [(0, .inr (.inr (some 73))), (1, .inl (x1)), (2, .inl (x2)), (3, .inl (x3)), (4, .inl (x4))]) (st' := [.inr (.inl (6)), .inr (.inl (0)), .inr (.inl (x1))]) (nc' := 126) (np' := 138) (M' := M) 2 rfl ?_
  obtain ⟨v1, hv, h⟩ := ob_i h
  refine ev_call (t := 193) (as := [.inr (.inl (x1)), .inr (.inl (0)), .inr (.inl (6))]) (rest := []) rfl rfl rfl (by omega) (R_lies_e (by omega) (x1) (0) (6) M _ hv) ?_
  refine ev_k (pc' := 9) (ls' := [(0, .inr (.inr (some 73))), (1, .inl (x1)), (2, .inl (x2)), (3, .inl (x3)), (4, .inl (x4))]) (st' := [.inl (v1)]) (nc' := 126) (np' := 138) (M' := M) 0 rfl ?_
  obtain ⟨hR, ⟨hc, h⟩ | ⟨hc, h⟩⟩ := c_eq_i h
  · refine ev_ifc 62 rfl hR.1 (by decide) (fun _ => ?_) (fun q => absurd hc q)
    exact R_planned_62_t hd      M r h
  · refine ev_ifc 62 rfl hR.1 (by decide) (fun q => absurd q hc) (fun _ => ?_)
    refine ev_k (pc' := 14) (ls' := [(0, .inr (.inr (some 73))), (1, .inl (x1)), (2, .inl (x2)), (3, .inl (x3)), (4, .inl (x4))]) (st' := [.inl (3), .inl (x1)]) (nc' := 126) (np' := 138) (M' := M) 2 rfl ?_
    obtain ⟨hR, ⟨hc, h⟩ | ⟨hc, h⟩⟩ := c_eq_i h
    · refine ev_icmp 62 rfl hR.1 hR.2 (by decide) (fun _ => ?_) (fun q => absurd hc q)
      exact R_planned_62_t hd      M r h
    · refine ev_icmp 62 rfl hR.1 hR.2 (by decide) (fun q => absurd q hc) (fun _ => ?_)
      refine ev_k (pc' := 18) (ls' := [(0, .inr (.inr (some 73))), (1, .inl (x1)), (2, .inl (x2)), (3, .inl (x3)), (4, .inl (x4))]) (st' := [.inl (x2)]) (nc' := 126) (np' := 138) (M' := M) 1 rfl ?_
      obtain ⟨hc, h⟩ := ck_i h
      refine ev_i2l rfl hc ?_
      refine ev_k (pc' := 23) (ls' := [(0, .inr (.inr (some 73))), (1, .inl (x1)), (2, .inl (x2)), (3, .inl (x3)), (4, .inl (x4))]) (st' := [.inr (.inl (99)), .inr (.inl (1)), .inr (.inl (x2))]) (nc' := 126) (np' := 138) (M' := M) 2 rfl ?_
      obtain ⟨v2, hv, h⟩ := ob_i h
      refine ev_call (t := 193) (as := [.inr (.inl (x2)), .inr (.inl (1)), .inr (.inl (99))]) (rest := []) rfl rfl rfl (by omega) (R_lies_e (by omega) (x2) (1) (99) M _ hv) ?_
      refine ev_k (pc' := 26) (ls' := [(0, .inr (.inr (some 73))), (1, .inl (x1)), (2, .inl (x2)), (3, .inl (x3)), (4, .inl (x4))]) (st' := [.inl (v2)]) (nc' := 126) (np' := 138) (M' := M) 0 rfl ?_
      obtain ⟨hR, ⟨hc, h⟩ | ⟨hc, h⟩⟩ := c_eq_i h
      · refine ev_ifc 62 rfl hR.1 (by decide) (fun _ => ?_) (fun q => absurd hc q)
        exact R_planned_62_t hd      M r h
      · refine ev_ifc 62 rfl hR.1 (by decide) (fun q => absurd q hc) (fun _ => ?_)
        refine ev_k (pc' := 30) (ls' := [(0, .inr (.inr (some 73))), (1, .inl (x1)), (2, .inl (x2)), (3, .inl (x3)), (4, .inl (x4))]) (st' := [.inl (x3)]) (nc' := 126) (np' := 138) (M' := M) 1 rfl ?_
        obtain ⟨hc, h⟩ := ck_i h
        refine ev_i2l rfl hc ?_
        refine ev_k (pc' := 35) (ls' := [(0, .inr (.inr (some 73))), (1, .inl (x1)), (2, .inl (x2)), (3, .inl (x3)), (4, .inl (x4))]) (st' := [.inr (.inl (30)), .inr (.inl (0)), .inr (.inl (x3))]) (nc' := 126) (np' := 138) (M' := M) 2 rfl ?_
        obtain ⟨v3, hv, h⟩ := ob_i h
        refine ev_call (t := 193) (as := [.inr (.inl (x3)), .inr (.inl (0)), .inr (.inl (30))]) (rest := []) rfl rfl rfl (by omega) (R_lies_e (by omega) (x3) (0) (30) M _ hv) ?_
        refine ev_k (pc' := 38) (ls' := [(0, .inr (.inr (some 73))), (1, .inl (x1)), (2, .inl (x2)), (3, .inl (x3)), (4, .inl (x4))]) (st' := [.inl (v3)]) (nc' := 126) (np' := 138) (M' := M) 0 rfl ?_
        obtain ⟨hR, ⟨hc, h⟩ | ⟨hc, h⟩⟩ := c_eq_i h
        · refine ev_ifc 62 rfl hR.1 (by decide) (fun _ => ?_) (fun q => absurd hc q)
          exact R_planned_62_t hd      M r h
        · refine ev_ifc 62 rfl hR.1 (by decide) (fun q => absurd q hc) (fun _ => ?_)
          refine ev_k (pc' := 43) (ls' := [(0, .inr (.inr (some 73))), (1, .inl (x1)), (2, .inl (x2)), (3, .inl (x3)), (4, .inl (x4))]) (st' := [.inl (x4)]) (nc' := 126) (np' := 138) (M' := M) 1 rfl ?_
          obtain ⟨hc, h⟩ := ck_i h
          refine ev_i2l rfl hc ?_
          refine ev_k (pc' := 48) (ls' := [(0, .inr (.inr (some 73))), (1, .inl (x1)), (2, .inl (x2)), (3, .inl (x3)), (4, .inl (x4))]) (st' := [.inr (.inl (3)), .inr (.inl (0)), .inr (.inl (x4))]) (nc' := 126) (np' := 138) (M' := M) 2 rfl ?_
          obtain ⟨v4, hv, h⟩ := ob_i h
          refine ev_call (t := 193) (as := [.inr (.inl (x4)), .inr (.inl (0)), .inr (.inl (3))]) (rest := []) rfl rfl rfl (by omega) (R_lies_e (by omega) (x4) (0) (3) M _ hv) ?_
          refine ev_k (pc' := 51) (ls' := [(0, .inr (.inr (some 73))), (1, .inl (x1)), (2, .inl (x2)), (3, .inl (x3)), (4, .inl (x4))]) (st' := [.inl (v4)]) (nc' := 126) (np' := 138) (M' := M) 0 rfl ?_
          obtain ⟨hR, ⟨hc, h⟩ | ⟨hc, h⟩⟩ := c_eq_i h
          · refine ev_ifc 62 rfl hR.1 (by decide) (fun _ => ?_) (fun q => absurd hc q)
            exact R_planned_62_t hd      M r h
          · refine ev_ifc 62 rfl hR.1 (by decide) (fun q => absurd q hc) (fun _ => ?_)
            refine ev_k (pc' := 59) (ls' := [(0, .inr (.inr (some 73))), (1, .inl (x1)), (2, .inl (x2)), (3, .inl (x3)), (4, .inl (x4))]) (st' := [.inl (-1), .inl (M 73 41)]) (nc' := 126) (np' := 138) (M' := M) 3 rfl ?_
            obtain ⟨hR, ⟨hc, h⟩ | ⟨hc, h⟩⟩ := c_ne_i h
            · refine ev_icmp 64 rfl hR.1 hR.2 (by decide) (fun _ => ?_) (fun q => absurd hc q)
              refine ev_k (pc' := 81) (ls' := [(0, .inr (.inr (some 73))), (1, .inl (x1)), (2, .inl (x2)), (3, .inl (x3)), (4, .inl (x4)), (5, .inl (1000000000)), (6, .inl (0)), (7, .inl (0)), (8, .inl (0)), (9, .inl (1))]) (st' := []) (nc' := 126) (np' := 138) (M' := M) 10 rfl ?_
              exact R_planned_81_t hd     am_big (x1) (x2) (x3) (x4) (1000000000) (0) (0) (0) (1) M r h
            · refine ev_icmp 64 rfl hR.1 hR.2 (by decide) (fun q => absurd q hc) (fun _ => ?_)
              exact R_planned_62_t hd      M r h
def R_leg_183     (M : am_M) : Option (am_M) := some (M)
def R_leg_130    (x2 : Int) (x3 : Int) (s1 : Int) (s2 : Int) (M : am_M) : Option (am_M) := fw M 73 84 ((s1) + (s2)) fun M1 => ck (am_R (x3) ∧ am_R (x2) ∧ ((x2) : Int) ≠ 0) (tw (Int.tdiv (x3) (x2)) fun v2 => fw M1 73 86 ((M1 73 86) + (v2)) fun M3 => (R_leg_183     M3))
def R_leg_112    (x2 : Int) (x3 : Int) (x4 : Int) (M : am_M) : Option (am_M) := c_ne (x4) (114)
       ((R_leg_130    (x2) (x3) (M 73 84) (-(x3)) M))
       ((R_leg_130    (x2) (x3) (M 73 84) (x3) M))
def R_leg_167    (x2 : Int) (x3 : Int) (s1 : Int) (s2 : Int) (M : am_M) : Option (am_M) := fw M 73 85 ((s1) + (s2)) fun M1 => ck (am_R (x3) ∧ am_R (x2) ∧ ((x2) : Int) ≠ 0) (tw (Int.tdiv (x3) (x2)) fun v2 => fw M1 73 87 ((M1 73 87) + (v2)) fun M3 => (R_leg_183     M3))
def R_leg_88    (x2 : Int) (x3 : Int) (x4 : Int) (M : am_M) : Option (am_M) := fw M 73 3 ((M 73 3) + (1)) fun M1 => c_eq (x4) (108)
       (R_leg_112    (x2) (x3) (x4) M1)
       (c_ne (x4) (114)
       (c_ne (x4) (102)
       ((R_leg_167    (x2) (x3) (M1 73 85) (-(x3)) M1))
       ((R_leg_167    (x2) (x3) (M1 73 85) (x3) M1)))
       (R_leg_112    (x2) (x3) (x4) M1))
def R_leg_37    (x2 : Int) (s0 : Int) (M : am_M) : Option (am_M) := ob (R_here  M) fun v1 => ob (R_isGood  M) fun v2 => c_eq (v2) (0)
       (R_leg_88    (x2) (s0) (v1) M)
       (c_eq (v1) (108)
       (R_leg_88    (x2) (s0) (v1) M)
       (c_eq (v1) (114)
       (R_leg_88    (x2) (s0) (v1) M)
       (c_eq (v1) (102)
       (R_leg_88    (x2) (s0) (v1) M)
       (c_eq (v1) (98)
       (R_leg_88    (x2) (s0) (v1) M)
       (ob (R_wrongs (1) (M 73 3) M) fun M3 => (R_leg_88    (x2) (s0) (v1) M3))))))
def R_leg_22    (x2 : Int) (M : am_M) : Option (am_M) := ob (R_isGood  M) fun v1 => c_eq (v1) (0)
       ((R_leg_37    (x2) (0) M))
       (oc (R_number  M) fun v2 M3 => (R_leg_37    (x2) (v2) M3))
def R_leg    (x1 : Int) (x2 : Int) (M : am_M) : Option (am_M) := ob (R_seesDigit  M) fun v1 => c_eq (v1) (0)
       (R_leg_22    (x2) M)
       (c_ne (x1) (8)
       (R_leg_22    (x2) M)
       (ob (R_wrongs (4) (M 73 3) M) fun M2 => (R_leg_22    (x2) M2)))
theorem R_leg_183_t {L : Nat} {xs : Nat → Int} {d : Nat} (hd : 3 ≤ d)      (M : am_M) (r : am_M) (h : R_leg_183     M = some r) : am_Ev L xs d me_293 183 [] [] 126 138 M (none, 126, 138, r) := by
  refine ev_k (pc' := 183) (ls' := []) (st' := []) (nc' := 126) (np' := 138) (M' := M) 0 rfl ?_
  cases h
  exact ev_ret rfl
theorem R_leg_130_t {L : Nat} {xs : Nat → Int} {d : Nat} (hd : 3 ≤ d)     (x2 : Int) (x3 : Int) (s1 : Int) (s2 : Int) (M : am_M) (r : am_M) (h : R_leg_130    x2 x3 s1 s2 M = some r) : am_Ev L xs d me_293 130 [(0, .inr (.inr (some 73))), (2, .inl (x2)), (3, .inl (x3))] [.inl (s2), .inl (s1), .inr (.inr (some 73))] 126 138 M (none, 126, 138, r) := by
  refine ev_k (pc' := 134) (ls' := [(0, .inr (.inr (some 73))), (2, .inl (x2)), (3, .inl (x3))]) (st' := []) (nc' := 126) (np' := 138) (M' := am_up M 73 84 ((s1) + (s2))) 2 rfl ?_
  obtain ⟨M1, eM, h⟩ := fw_i h
  rw [← eM]
  refine ev_k (pc' := 141) (ls' := [(0, .inr (.inr (some 73))), (2, .inl (x2)), (3, .inl (x3))]) (st' := [.inl (x2), .inl (x3), .inl (M1 73 86), .inr (.inr (some 73))]) (nc' := 126) (np' := 138) (M' := M1) 5 rfl ?_
  obtain ⟨hc, h⟩ := ck_i h
  obtain ⟨v2, ev, h⟩ := tw_i h
  refine ev_idiv rfl hc ?_
  refine ev_k (pc' := 142) (ls' := [(0, .inr (.inr (some 73))), (2, .inl (x2)), (3, .inl (x3))]) (st' := [.inl (Int.tdiv (x3) (x2)), .inl (M1 73 86), .inr (.inr (some 73))]) (nc' := 126) (np' := 138) (M' := M1) 0 rfl ?_
  rw [← ev]
  refine ev_k (pc' := 146) (ls' := [(0, .inr (.inr (some 73))), (2, .inl (x2)), (3, .inl (x3))]) (st' := []) (nc' := 126) (np' := 138) (M' := am_up M1 73 86 ((M1 73 86) + (v2))) 2 rfl ?_
  obtain ⟨M3, eM, h⟩ := fw_i h
  rw [← eM]
  refine ev_k (pc' := 183) (ls' := []) (st' := []) (nc' := 126) (np' := 138) (M' := M3) 1 rfl ?_
  exact R_leg_183_t hd      M3 r h
theorem R_leg_112_t {L : Nat} {xs : Nat → Int} {d : Nat} (hd : 3 ≤ d)     (x2 : Int) (x3 : Int) (x4 : Int) (M : am_M) (r : am_M) (h : R_leg_112    x2 x3 x4 M = some r) : am_Ev L xs d me_293 112 [(0, .inr (.inr (some 73))), (2, .inl (x2)), (3, .inl (x3)), (4, .inl (x4))] [] 126 138 M (none, 126, 138, r) := by
  refine ev_k (pc' := 121) (ls' := [(0, .inr (.inr (some 73))), (2, .inl (x2)), (3, .inl (x3)), (4, .inl (x4))]) (st' := [.inl (114), .inl (x4), .inl (M 73 84), .inr (.inr (some 73))]) (nc' := 126) (np' := 138) (M' := M) 5 rfl ?_
  obtain ⟨hR, ⟨hc, h⟩ | ⟨hc, h⟩⟩ := c_ne_i h
  · refine ev_icmp 128 rfl hR.1 hR.2 (by decide) (fun _ => ?_) (fun q => absurd hc q)
    refine ev_k (pc' := 130) (ls' := [(0, .inr (.inr (some 73))), (2, .inl (x2)), (3, .inl (x3))]) (st' := [.inl (-(x3)), .inl (M 73 84), .inr (.inr (some 73))]) (nc' := 126) (np' := 138) (M' := M) 2 rfl ?_
    exact R_leg_130_t hd     (x2) (x3) (M 73 84) (-(x3)) M r h
  · refine ev_icmp 128 rfl hR.1 hR.2 (by decide) (fun q => absurd q hc) (fun _ => ?_)
    refine ev_k (pc' := 130) (ls' := [(0, .inr (.inr (some 73))), (2, .inl (x2)), (3, .inl (x3))]) (st' := [.inl (x3), .inl (M 73 84), .inr (.inr (some 73))]) (nc' := 126) (np' := 138) (M' := M) 2 rfl ?_
    exact R_leg_130_t hd     (x2) (x3) (M 73 84) (x3) M r h
theorem R_leg_167_t {L : Nat} {xs : Nat → Int} {d : Nat} (hd : 3 ≤ d)     (x2 : Int) (x3 : Int) (s1 : Int) (s2 : Int) (M : am_M) (r : am_M) (h : R_leg_167    x2 x3 s1 s2 M = some r) : am_Ev L xs d me_293 167 [(0, .inr (.inr (some 73))), (2, .inl (x2)), (3, .inl (x3))] [.inl (s2), .inl (s1), .inr (.inr (some 73))] 126 138 M (none, 126, 138, r) := by
  refine ev_k (pc' := 171) (ls' := [(0, .inr (.inr (some 73))), (2, .inl (x2)), (3, .inl (x3))]) (st' := []) (nc' := 126) (np' := 138) (M' := am_up M 73 85 ((s1) + (s2))) 2 rfl ?_
  obtain ⟨M1, eM, h⟩ := fw_i h
  rw [← eM]
  refine ev_k (pc' := 178) (ls' := [(0, .inr (.inr (some 73))), (2, .inl (x2)), (3, .inl (x3))]) (st' := [.inl (x2), .inl (x3), .inl (M1 73 87), .inr (.inr (some 73))]) (nc' := 126) (np' := 138) (M' := M1) 5 rfl ?_
  obtain ⟨hc, h⟩ := ck_i h
  obtain ⟨v2, ev, h⟩ := tw_i h
  refine ev_idiv rfl hc ?_
  refine ev_k (pc' := 179) (ls' := [(0, .inr (.inr (some 73))), (2, .inl (x2)), (3, .inl (x3))]) (st' := [.inl (Int.tdiv (x3) (x2)), .inl (M1 73 87), .inr (.inr (some 73))]) (nc' := 126) (np' := 138) (M' := M1) 0 rfl ?_
  rw [← ev]
  refine ev_k (pc' := 183) (ls' := []) (st' := []) (nc' := 126) (np' := 138) (M' := am_up M1 73 87 ((M1 73 87) + (v2))) 2 rfl ?_
  obtain ⟨M3, eM, h⟩ := fw_i h
  rw [← eM]
  exact R_leg_183_t hd      M3 r h
theorem R_leg_88_t {L : Nat} {xs : Nat → Int} {d : Nat} (hd : 3 ≤ d)     (x2 : Int) (x3 : Int) (x4 : Int) (M : am_M) (r : am_M) (h : R_leg_88    x2 x3 x4 M = some r) : am_Ev L xs d me_293 88 [(0, .inr (.inr (some 73))), (2, .inl (x2)), (3, .inl (x3)), (4, .inl (x4))] [] 126 138 M (none, 126, 138, r) := by
  refine ev_k (pc' := 98) (ls' := [(0, .inr (.inr (some 73))), (2, .inl (x2)), (3, .inl (x3)), (4, .inl (x4))]) (st' := []) (nc' := 126) (np' := 138) (M' := am_up M 73 3 ((M 73 3) + (1))) 6 rfl ?_
  obtain ⟨M1, eM, h⟩ := fw_i h
  rw [← eM]
  refine ev_k (pc' := 102) (ls' := [(0, .inr (.inr (some 73))), (2, .inl (x2)), (3, .inl (x3)), (4, .inl (x4))]) (st' := [.inl (108), .inl (x4)]) (nc' := 126) (np' := 138) (M' := M1) 2 rfl ?_
  obtain ⟨hR, ⟨hc, h⟩ | ⟨hc, h⟩⟩ := c_eq_i h
  · refine ev_icmp 112 rfl hR.1 hR.2 (by decide) (fun _ => ?_) (fun q => absurd hc q)
    exact R_leg_112_t hd     (x2) (x3) (x4) M1 r h
  · refine ev_icmp 112 rfl hR.1 hR.2 (by decide) (fun q => absurd q hc) (fun _ => ?_)
    refine ev_k (pc' := 109) (ls' := [(0, .inr (.inr (some 73))), (2, .inl (x2)), (3, .inl (x3)), (4, .inl (x4))]) (st' := [.inl (114), .inl (x4)]) (nc' := 126) (np' := 138) (M' := M1) 2 rfl ?_
    obtain ⟨hR, ⟨hc, h⟩ | ⟨hc, h⟩⟩ := c_ne_i h
    · refine ev_icmp 149 rfl hR.1 hR.2 (by decide) (fun _ => ?_) (fun q => absurd hc q)
      refine ev_k (pc' := 158) (ls' := [(0, .inr (.inr (some 73))), (2, .inl (x2)), (3, .inl (x3)), (4, .inl (x4))]) (st' := [.inl (102), .inl (x4), .inl (M1 73 85), .inr (.inr (some 73))]) (nc' := 126) (np' := 138) (M' := M1) 5 rfl ?_
      obtain ⟨hR, ⟨hc, h⟩ | ⟨hc, h⟩⟩ := c_ne_i h
      · refine ev_icmp 165 rfl hR.1 hR.2 (by decide) (fun _ => ?_) (fun q => absurd hc q)
        refine ev_k (pc' := 167) (ls' := [(0, .inr (.inr (some 73))), (2, .inl (x2)), (3, .inl (x3))]) (st' := [.inl (-(x3)), .inl (M1 73 85), .inr (.inr (some 73))]) (nc' := 126) (np' := 138) (M' := M1) 2 rfl ?_
        exact R_leg_167_t hd     (x2) (x3) (M1 73 85) (-(x3)) M1 r h
      · refine ev_icmp 165 rfl hR.1 hR.2 (by decide) (fun q => absurd q hc) (fun _ => ?_)
        refine ev_k (pc' := 167) (ls' := [(0, .inr (.inr (some 73))), (2, .inl (x2)), (3, .inl (x3))]) (st' := [.inl (x3), .inl (M1 73 85), .inr (.inr (some 73))]) (nc' := 126) (np' := 138) (M' := M1) 2 rfl ?_
        exact R_leg_167_t hd     (x2) (x3) (M1 73 85) (x3) M1 r h
    · refine ev_icmp 149 rfl hR.1 hR.2 (by decide) (fun q => absurd q hc) (fun _ => ?_)
      exact R_leg_112_t hd     (x2) (x3) (x4) M1 r h
theorem R_leg_37_t {L : Nat} {xs : Nat → Int} {d : Nat} (hd : 3 ≤ d)     (x2 : Int) (s0 : Int) (M : am_M) (r : am_M) (h : R_leg_37    x2 s0 M = some r) : am_Ev L xs d me_293 37 [(0, .inr (.inr (some 73))), (2, .inl (x2))] [.inl (s0)] 126 138 M (none, 126, 138, r) := by
  refine ev_k (pc' := 39) (ls' := [(3, .inl (s0)), (0, .inr (.inr (some 73))), (2, .inl (x2))]) (st' := [.inr (.inr (some 73))]) (nc' := 126) (np' := 138) (M' := M) 2 rfl ?_
  obtain ⟨v1, hv, h⟩ := ob_i h
  refine ev_call (t := 197) (as := [.inr (.inr (some 73))]) (rest := []) rfl rfl rfl (by omega) (R_here_e (by omega)  M _ hv) ?_
  refine ev_k (pc' := 45) (ls' := [(4, .inl (v1)), (3, .inl (s0)), (0, .inr (.inr (some 73))), (2, .inl (x2))]) (st' := [.inr (.inr (some 73))]) (nc' := 126) (np' := 138) (M' := M) 2 rfl ?_
  obtain ⟨v2, hv, h⟩ := ob_i h
  refine ev_call (t := 195) (as := [.inr (.inr (some 73))]) (rest := []) rfl rfl rfl (by omega) (R_isGood_e (by omega)  M _ hv) ?_
  refine ev_k (pc' := 48) (ls' := [(4, .inl (v1)), (3, .inl (s0)), (0, .inr (.inr (some 73))), (2, .inl (x2))]) (st' := [.inl (v2)]) (nc' := 126) (np' := 138) (M' := M) 0 rfl ?_
  obtain ⟨hR, ⟨hc, h⟩ | ⟨hc, h⟩⟩ := c_eq_i h
  · refine ev_ifc 88 rfl hR.1 (by decide) (fun _ => ?_) (fun q => absurd hc q)
    exact R_leg_88_t hd     (x2) (s0) (v1) M r h
  · refine ev_ifc 88 rfl hR.1 (by decide) (fun q => absurd q hc) (fun _ => ?_)
    refine ev_k (pc' := 55) (ls' := [(4, .inl (v1)), (3, .inl (s0)), (0, .inr (.inr (some 73))), (2, .inl (x2))]) (st' := [.inl (108), .inl (v1)]) (nc' := 126) (np' := 138) (M' := M) 2 rfl ?_
    obtain ⟨hR, ⟨hc, h⟩ | ⟨hc, h⟩⟩ := c_eq_i h
    · refine ev_icmp 88 rfl hR.1 hR.2 (by decide) (fun _ => ?_) (fun q => absurd hc q)
      exact R_leg_88_t hd     (x2) (s0) (v1) M r h
    · refine ev_icmp 88 rfl hR.1 hR.2 (by decide) (fun q => absurd q hc) (fun _ => ?_)
      refine ev_k (pc' := 62) (ls' := [(4, .inl (v1)), (3, .inl (s0)), (0, .inr (.inr (some 73))), (2, .inl (x2))]) (st' := [.inl (114), .inl (v1)]) (nc' := 126) (np' := 138) (M' := M) 2 rfl ?_
      obtain ⟨hR, ⟨hc, h⟩ | ⟨hc, h⟩⟩ := c_eq_i h
      · refine ev_icmp 88 rfl hR.1 hR.2 (by decide) (fun _ => ?_) (fun q => absurd hc q)
        exact R_leg_88_t hd     (x2) (s0) (v1) M r h
      · refine ev_icmp 88 rfl hR.1 hR.2 (by decide) (fun q => absurd q hc) (fun _ => ?_)
        refine ev_k (pc' := 69) (ls' := [(4, .inl (v1)), (3, .inl (s0)), (0, .inr (.inr (some 73))), (2, .inl (x2))]) (st' := [.inl (102), .inl (v1)]) (nc' := 126) (np' := 138) (M' := M) 2 rfl ?_
        obtain ⟨hR, ⟨hc, h⟩ | ⟨hc, h⟩⟩ := c_eq_i h
        · refine ev_icmp 88 rfl hR.1 hR.2 (by decide) (fun _ => ?_) (fun q => absurd hc q)
          exact R_leg_88_t hd     (x2) (s0) (v1) M r h
        · refine ev_icmp 88 rfl hR.1 hR.2 (by decide) (fun q => absurd q hc) (fun _ => ?_)
          refine ev_k (pc' := 76) (ls' := [(4, .inl (v1)), (3, .inl (s0)), (0, .inr (.inr (some 73))), (2, .inl (x2))]) (st' := [.inl (98), .inl (v1)]) (nc' := 126) (np' := 138) (M' := M) 2 rfl ?_
          obtain ⟨hR, ⟨hc, h⟩ | ⟨hc, h⟩⟩ := c_eq_i h
          · refine ev_icmp 88 rfl hR.1 hR.2 (by decide) (fun _ => ?_) (fun q => absurd hc q)
            exact R_leg_88_t hd     (x2) (s0) (v1) M r h
          · refine ev_icmp 88 rfl hR.1 hR.2 (by decide) (fun q => absurd q hc) (fun _ => ?_)
            refine ev_k (pc' := 85) (ls' := [(4, .inl (v1)), (3, .inl (s0)), (0, .inr (.inr (some 73))), (2, .inl (x2))]) (st' := [.inl (M 73 3), .inl (1), .inr (.inr (some 73))]) (nc' := 126) (np' := 138) (M' := M) 4 rfl ?_
            obtain ⟨M3, hv, h⟩ := ob_i h
            refine ev_call (t := 199) (as := [.inr (.inr (some 73)), .inl (1), .inl (M 73 3)]) (rest := []) rfl rfl rfl (by omega) (R_wrongs_e (by omega) (1) (M 73 3) M _ hv) ?_
            exact R_leg_88_t hd     (x2) (s0) (v1) M3 r h
theorem R_leg_22_t {L : Nat} {xs : Nat → Int} {d : Nat} (hd : 3 ≤ d)     (x2 : Int) (M : am_M) (r : am_M) (h : R_leg_22    x2 M = some r) : am_Ev L xs d me_293 22 [(0, .inr (.inr (some 73))), (2, .inl (x2))] [] 126 138 M (none, 126, 138, r) := by
  refine ev_k (pc' := 23) (ls' := [(0, .inr (.inr (some 73))), (2, .inl (x2))]) (st' := [.inr (.inr (some 73))]) (nc' := 126) (np' := 138) (M' := M) 1 rfl ?_
  obtain ⟨v1, hv, h⟩ := ob_i h
  refine ev_call (t := 195) (as := [.inr (.inr (some 73))]) (rest := []) rfl rfl rfl (by omega) (R_isGood_e (by omega)  M _ hv) ?_
  refine ev_k (pc' := 26) (ls' := [(0, .inr (.inr (some 73))), (2, .inl (x2))]) (st' := [.inl (v1)]) (nc' := 126) (np' := 138) (M' := M) 0 rfl ?_
  obtain ⟨hR, ⟨hc, h⟩ | ⟨hc, h⟩⟩ := c_eq_i h
  · refine ev_ifc 36 rfl hR.1 (by decide) (fun _ => ?_) (fun q => absurd hc q)
    refine ev_k (pc' := 37) (ls' := [(0, .inr (.inr (some 73))), (2, .inl (x2))]) (st' := [.inl (0)]) (nc' := 126) (np' := 138) (M' := M) 1 rfl ?_
    exact R_leg_37_t hd     (x2) (0) M r h
  · refine ev_ifc 36 rfl hR.1 (by decide) (fun q => absurd q hc) (fun _ => ?_)
    refine ev_k (pc' := 30) (ls' := [(0, .inr (.inr (some 73))), (2, .inl (x2))]) (st' := [.inr (.inr (some 73))]) (nc' := 126) (np' := 138) (M' := M) 1 rfl ?_
    obtain ⟨v2, M3, hv, h⟩ := oc_i h
    refine ev_call (t := 202) (as := [.inr (.inr (some 73))]) (rest := []) rfl rfl rfl (by omega) (R_number_e (by omega)  M _ hv) ?_
    refine ev_k (pc' := 37) (ls' := [(0, .inr (.inr (some 73))), (2, .inl (x2))]) (st' := [.inl (v2)]) (nc' := 126) (np' := 138) (M' := M3) 1 rfl ?_
    exact R_leg_37_t hd     (x2) (v2) M3 r h
theorem R_leg_e {L : Nat} {xs : Nat → Int} {d : Nat} (hd : 3 ≤ d)   (x1 : Int) (x2 : Int) (M : am_M) (r : am_M) (h : R_leg   x1 x2 M = some r) : am_Ev L xs d me_293 0 (am_ar1 0 [.inr (.inr (some 73)), .inl (x1), .inl (x2)]) [] 126 138 M (none, 126, 138, r) := by
  refine ev_k (pc' := 1) (ls' := [(0, .inr (.inr (some 73))), (1, .inl (x1)), (2, .inl (x2))]) (st' := [.inr (.inr (some 73))]) (nc' := 126) (np' := 138) (M' := M) 1 rfl ?_
  obtain ⟨v1, hv, h⟩ := ob_i h
  refine ev_call (t := 201) (as := [.inr (.inr (some 73))]) (rest := []) rfl rfl rfl (by omega) (R_seesDigit_e (by omega)  M _ hv) ?_
  refine ev_k (pc' := 4) (ls' := [(0, .inr (.inr (some 73))), (1, .inl (x1)), (2, .inl (x2))]) (st' := [.inl (v1)]) (nc' := 126) (np' := 138) (M' := M) 0 rfl ?_
  obtain ⟨hR, ⟨hc, h⟩ | ⟨hc, h⟩⟩ := c_eq_i h
  · refine ev_ifc 22 rfl hR.1 (by decide) (fun _ => ?_) (fun q => absurd hc q)
    exact R_leg_22_t hd     (x2) M r h
  · refine ev_ifc 22 rfl hR.1 (by decide) (fun q => absurd q hc) (fun _ => ?_)
    refine ev_k (pc' := 10) (ls' := [(0, .inr (.inr (some 73))), (1, .inl (x1)), (2, .inl (x2))]) (st' := [.inl (8), .inl (x1)]) (nc' := 126) (np' := 138) (M' := M) 2 rfl ?_
    obtain ⟨hR, ⟨hc, h⟩ | ⟨hc, h⟩⟩ := c_ne_i h
    · refine ev_icmp 22 rfl hR.1 hR.2 (by decide) (fun _ => ?_) (fun q => absurd hc q)
      exact R_leg_22_t hd     (x2) M r h
    · refine ev_icmp 22 rfl hR.1 hR.2 (by decide) (fun q => absurd q hc) (fun _ => ?_)
      refine ev_k (pc' := 19) (ls' := [(0, .inr (.inr (some 73))), (1, .inl (x1)), (2, .inl (x2))]) (st' := [.inl (M 73 3), .inl (4), .inr (.inr (some 73))]) (nc' := 126) (np' := 138) (M' := M) 4 rfl ?_
      obtain ⟨M2, hv, h⟩ := ob_i h
      refine ev_call (t := 199) (as := [.inr (.inr (some 73)), .inl (4), .inl (M 73 3)]) (rest := []) rfl rfl rfl (by omega) (R_wrongs_e (by omega) (4) (M 73 3) M _ hv) ?_
      exact R_leg_22_t hd     (x2) M2 r h
