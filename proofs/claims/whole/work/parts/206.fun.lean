def P_commonDivisor_45    (x4 : Int) (M : am_M) : Option (Int) := some (x4)
def P_commonDivisor_9    : Nat → Int → Int → Int → am_M → Option (Int)
  | 0, _, _, _, _ => none
  | n + 1, x4, x6, x8, M => c_ge (x8) (200)
       (P_commonDivisor_45    (x4) M)
       (ck (am_R6 (x6) ∧ am_R6 (0)) (tw (if (x6) > (0) then 1 else if (x6) = (0) then 0 else -1) fun v1 => c_eq (v1) (0)
       (P_commonDivisor_45    (x4) M)
       (ck (am_R6 (x4) ∧ am_R6 (x6) ∧ ((x6) : Int) ≠ 0) (tw (Int.tmod (x4) (x6)) fun v2 => (P_commonDivisor_9    n (x6) (v2) ((x8) + (1)) M)))))
def P_commonDivisor    (x0 : Int) (x2 : Int) (M : am_M) : Option (Int) := (P_commonDivisor_9    am_big (x0) (x2) (0) M)
theorem P_commonDivisor_45_t {L : Nat} {xs : Nat → Int} {d : Nat} (hd : 0 ≤ d)     (x4 : Int) (M : am_M) (r : Int) (h : P_commonDivisor_45    x4 M = some r) : am_Ev L xs d me_126 45 [(4, .inr (.inl (x4)))] [] 126 138 M (some (.inr (.inl r)), 126, 138, M) := by
  refine ev_k (pc' := 47) (ls' := [(4, .inr (.inl (x4)))]) (st' := [.inr (.inl (x4))]) (nc' := 126) (np' := 138) (M' := M) 1 rfl ?_
  cases h
  exact ev_ret rfl
theorem P_commonDivisor_9_t {L : Nat} {xs : Nat → Int} {d : Nat} (hd : 0 ≤ d)     : ∀ (n : Nat) (x4 : Int) (x6 : Int) (x8 : Int) (M : am_M) (r : Int), P_commonDivisor_9    n x4 x6 x8 M = some r → am_Ev L xs d me_126 9 [(4, .inr (.inl (x4))), (6, .inr (.inl (x6))), (8, .inl (x8))] [] 126 138 M (some (.inr (.inl r)), 126, 138, M)
  | 0, _, _, _, M, r, h => by cases h
  | n + 1, x4, x6, x8, M, r, h => by
    have ih := P_commonDivisor_9_t (L := L) (xs := xs) hd     n
    refine ev_k (pc' := 14) (ls' := [(4, .inr (.inl (x4))), (6, .inr (.inl (x6))), (8, .inl (x8))]) (st' := [.inl (200), .inl (x8)]) (nc' := 126) (np' := 138) (M' := M) 2 rfl ?_
    obtain ⟨hR, ⟨hc, h⟩ | ⟨hc, h⟩⟩ := c_ge_i h
    · refine ev_icmp 45 rfl hR.1 hR.2 (by decide) (fun _ => ?_) (fun q => absurd hc q)
      exact P_commonDivisor_45_t hd     (x4) M r h
    · refine ev_icmp 45 rfl hR.1 hR.2 (by decide) (fun q => absurd q hc) (fun _ => ?_)
      refine ev_k (pc' := 20) (ls' := [(4, .inr (.inl (x4))), (6, .inr (.inl (x6))), (8, .inl (x8))]) (st' := [.inr (.inl (0)), .inr (.inl (x6))]) (nc' := 126) (np' := 138) (M' := M) 2 rfl ?_
      obtain ⟨hc, h⟩ := ck_i h
      obtain ⟨v1, ev, h⟩ := tw_i h
      refine ev_lcmp rfl hc ?_
      rw [← ev]
      refine ev_k (pc' := 21) (ls' := [(4, .inr (.inl (x4))), (6, .inr (.inl (x6))), (8, .inl (x8))]) (st' := [.inl (v1)]) (nc' := 126) (np' := 138) (M' := M) 0 rfl ?_
      obtain ⟨hR, ⟨hc, h⟩ | ⟨hc, h⟩⟩ := c_eq_i h
      · refine ev_ifc 45 rfl hR.1 (by decide) (fun _ => ?_) (fun q => absurd hc q)
        exact P_commonDivisor_45_t hd     (x4) M r h
      · refine ev_ifc 45 rfl hR.1 (by decide) (fun q => absurd q hc) (fun _ => ?_)
        refine ev_k (pc' := 28) (ls' := [(4, .inr (.inl (x4))), (6, .inr (.inl (x6))), (8, .inl (x8))]) (st' := [.inr (.inl (x6)), .inr (.inl (x4))]) (nc' := 126) (np' := 138) (M' := M) 2 rfl ?_
        obtain ⟨hc, h⟩ := ck_i h
        obtain ⟨v2, ev, h⟩ := tw_i h
        refine ev_lrem rfl hc ?_
        refine ev_k (pc' := 29) (ls' := [(4, .inr (.inl (x4))), (6, .inr (.inl (x6))), (8, .inl (x8))]) (st' := [.inr (.inl (Int.tmod (x4) (x6)))]) (nc' := 126) (np' := 138) (M' := M) 0 rfl ?_
        rw [← ev]
        refine ev_k (pc' := 9) (ls' := [(4, .inr (.inl (x6))), (6, .inr (.inl (v2))), (8, .inl ((x8) + (1)))]) (st' := []) (nc' := 126) (np' := 138) (M' := M) 7 rfl ?_
        exact ih (x6) (v2) ((x8) + (1)) M r h
theorem P_commonDivisor_e {L : Nat} {xs : Nat → Int} {d : Nat} (hd : 0 ≤ d)   (x0 : Int) (x2 : Int) (M : am_M) (r : Int) (h : P_commonDivisor   x0 x2 M = some r) : am_Ev L xs d me_126 0 (am_ar1 0 [.inr (.inl (x0)), .inr (.inl (x2))]) [] 126 138 M (some (.inr (.inl r)), 126, 138, M) := by
  refine ev_k (pc' := 9) (ls' := [(4, .inr (.inl (x0))), (6, .inr (.inl (x2))), (8, .inl (0))]) (st' := []) (nc' := 126) (np' := 138) (M' := M) 6 rfl ?_
  exact P_commonDivisor_9_t hd     am_big (x0) (x2) (0) M r h
def Law_erring_5    (x1 : Int) (x2 : Int) (x3 : Int) (x4 : Int) (M : am_M) : Option (Int × am_M) := ob (Law_say_5 (x1) (x2) (0) (0) (x3) (0) (x4) M) fun M1 => oc (Law_ask_5 (100) (10) M1) fun v2 M3 => some (v2, M3)
theorem Law_erring_5_e {L : Nat} {xs : Nat → Int} {d : Nat} (hd : 2 ≤ d)   (x1 : Int) (x2 : Int) (x3 : Int) (x4 : Int) (M : am_M) (r : Int × am_M) (h : Law_erring_5   x1 x2 x3 x4 M = some r) : am_Ev L xs d me_125 0 (am_ar1 0 [.inr (.inr (some 5)), .inl (x1), .inl (x2), .inl (x3), .inl (x4)]) [] 126 138 M (some (.inl r.1), 126, 138, r.2) := by
  refine ev_k (pc' := 9) (ls' := [(0, .inr (.inr (some 5))), (1, .inl (x1)), (2, .inl (x2)), (3, .inl (x3)), (4, .inl (x4))]) (st' := [.inl (x4), .inl (0), .inl (x3), .inl (0), .inl (0), .inl (x2), .inl (x1), .inr (.inr (some 5))]) (nc' := 126) (np' := 138) (M' := M) 8 rfl ?_
  obtain ⟨M1, hv, h⟩ := ob_i h
  refine ev_call (t := 84) (as := [.inr (.inr (some 5)), .inl (x1), .inl (x2), .inl (0), .inl (0), .inl (x3), .inl (0), .inl (x4)]) (rest := []) rfl rfl rfl (by omega) (Law_say_5_e (by omega) (x1) (x2) (0) (0) (x3) (0) (x4) M _ hv) ?_
  refine ev_k (pc' := 17) (ls' := [(0, .inr (.inr (some 5))), (1, .inl (x1)), (2, .inl (x2)), (3, .inl (x3)), (4, .inl (x4))]) (st' := [.inl (10), .inl (100), .inr (.inr (some 5))]) (nc' := 126) (np' := 138) (M' := M1) 3 rfl ?_
  obtain ⟨v2, M3, hv, h⟩ := oc_i h
  refine ev_call (t := 85) (as := [.inr (.inr (some 5)), .inl (100), .inl (10)]) (rest := []) rfl rfl rfl (by omega) (Law_ask_5_e (by omega) (100) (10) M1 _ hv) ?_
  refine ev_k (pc' := 20) (ls' := [(0, .inr (.inr (some 5))), (1, .inl (x1)), (2, .inl (x2)), (3, .inl (x3)), (4, .inl (x4))]) (st' := [.inl (v2)]) (nc' := 126) (np' := 138) (M' := M3) 0 rfl ?_
  cases h
  exact ev_ret rfl
def Trip_wrongTenths_26    (x1 : Int) (M : am_M) : Option (Int × am_M) := ob (Trip_kindAt_26 (x1) M) fun v1 => ob (Trip_widthAt_26 (x1) M) fun v2 => ob (Trip_grownAt_26 (x1) M) fun v3 => oc (Law_erring_5 (v1) (v2) (v3) (M 26 13) M) fun v4 M5 => some (v4, M5)
theorem Trip_wrongTenths_26_e {L : Nat} {xs : Nat → Int} {d : Nat} (hd : 3 ≤ d)   (x1 : Int) (M : am_M) (r : Int × am_M) (h : Trip_wrongTenths_26   x1 M = some r) : am_Ev L xs d me_124 0 (am_ar1 0 [.inr (.inr (some 26)), .inl (x1)]) [] 126 138 M (some (.inl r.1), 126, 138, r.2) := by
  refine ev_k (pc' := 6) (ls' := [(0, .inr (.inr (some 26))), (1, .inl (x1))]) (st' := [.inl (x1), .inr (.inr (some 26)), .inr (.inr (some 5))]) (nc' := 126) (np' := 138) (M' := M) 4 rfl ?_
  obtain ⟨v1, hv, h⟩ := ob_i h
  refine ev_call (t := 99) (as := [.inr (.inr (some 26)), .inl (x1)]) (rest := [.inr (.inr (some 5))]) rfl rfl rfl (by omega) (Trip_kindAt_26_e (by omega) (x1) M _ hv) ?_
  refine ev_k (pc' := 11) (ls' := [(0, .inr (.inr (some 26))), (1, .inl (x1))]) (st' := [.inl (x1), .inr (.inr (some 26)), .inl (v1), .inr (.inr (some 5))]) (nc' := 126) (np' := 138) (M' := M) 2 rfl ?_
  obtain ⟨v2, hv, h⟩ := ob_i h
  refine ev_call (t := 100) (as := [.inr (.inr (some 26)), .inl (x1)]) (rest := [.inl (v1), .inr (.inr (some 5))]) rfl rfl rfl (by omega) (Trip_widthAt_26_e (by omega) (x1) M _ hv) ?_
  refine ev_k (pc' := 16) (ls' := [(0, .inr (.inr (some 26))), (1, .inl (x1))]) (st' := [.inl (x1), .inr (.inr (some 26)), .inl (v2), .inl (v1), .inr (.inr (some 5))]) (nc' := 126) (np' := 138) (M' := M) 2 rfl ?_
  obtain ⟨v3, hv, h⟩ := ob_i h
  refine ev_call (t := 101) (as := [.inr (.inr (some 26)), .inl (x1)]) (rest := [.inl (v2), .inl (v1), .inr (.inr (some 5))]) rfl rfl rfl (by omega) (Trip_grownAt_26_e (by omega) (x1) M _ hv) ?_
  refine ev_k (pc' := 23) (ls' := [(0, .inr (.inr (some 26))), (1, .inl (x1))]) (st' := [.inl (M 26 13), .inl (v3), .inl (v2), .inl (v1), .inr (.inr (some 5))]) (nc' := 126) (np' := 138) (M' := M) 2 rfl ?_
  obtain ⟨v4, M5, hv, h⟩ := oc_i h
  refine ev_call (t := 125) (as := [.inr (.inr (some 5)), .inl (v1), .inl (v2), .inl (v3), .inl (M 26 13)]) (rest := []) rfl rfl rfl (by omega) (Law_erring_5_e (by omega) (v1) (v2) (v3) (M 26 13) M _ hv) ?_
  refine ev_k (pc' := 26) (ls' := [(0, .inr (.inr (some 26))), (1, .inl (x1))]) (st' := [.inl (v4)]) (nc' := 126) (np' := 138) (M' := M5) 0 rfl ?_
  cases h
  exact ev_ret rfl
def P_safe_9     (M : am_M) : Option (Int × am_M) := some (-1, M)
def P_safe_84   (k43 : Int → Int → Int → Int → am_M → Option (Int × am_M)) (x1 : Int) (x2 : Int) (x4 : Int) (x6 : Int) (M : am_M) : Option (Int × am_M) := (k43 (x1) (x2) (x4) ((x6) + (-1)) M)
def P_safe_125    (s0 : Int) (M : am_M) : Option (Int × am_M) := some (s0, M)
def P_safe_43    : Nat → Int → Int → Int → Int → am_M → Option (Int × am_M)
  | 0, _, _, _, _, _ => none
  | n + 1, x1, x2, x4, x6, M => c_le (x6) (0)
       (ob (P_commonDivisor (x2) (x4) M) fun v1 => ck (am_R6 (v1) ∧ am_R6 (1)) (tw (if (v1) > (1) then 1 else if (v1) = (1) then 0 else -1) fun v2 => c_ge (v2) (0)
       (c_ne (x1) (0)
       (ck (am_R6 (x4) ∧ am_R6 (v1) ∧ ((v1) : Int) ≠ 0) (tw (Int.tdiv (x4) (v1)) fun v3 => (P_safe_125    (v3) M)))
       (ck (am_R6 (x2) ∧ am_R6 (v1) ∧ ((v1) : Int) ≠ 0) (tw (Int.tdiv (x2) (v1)) fun v4 => (P_safe_125    (v4) M))))
       (some (-1, M))))
       (ob (Trip_isBlind_26 (x6) M) fun v5 => c_eq (v5) (0)
       (P_safe_84   (P_safe_43    n) (x1) (x2) (x4) (x6) M)
       (oc (Trip_wrongTenths_26 (x6) M) fun v6 M7 => ck (am_R ((10) - (v6))) ((P_safe_84   (P_safe_43    n) (x1) ((x2) * ((10) - (v6))) ((x4) * (10)) (x6) M7))))
def P_safe    (x1 : Int) (M : am_M) : Option (Int × am_M) := c_lt (x1) (0)
       (P_safe_9     M)
       (c_le (x1) (1)
       (ob (Trip_blindBack_26  M) fun v1 => c_le (v1) (18)
       ((P_safe_43    am_big (x1) (1) (1) (M 26 11) M))
       (some (-3, M)))
       (P_safe_9     M))
theorem P_safe_9_t {L : Nat} {xs : Nat → Int} {d : Nat} (hd : 5 ≤ d)      (M : am_M) (r : Int × am_M) (h : P_safe_9     M = some r) : am_Ev L xs d me_123 9 [] [] 126 138 M (some (.inr (.inl r.1)), 126, 138, r.2) := by
  refine ev_k (pc' := 12) (ls' := []) (st' := [.inr (.inl (-1))]) (nc' := 126) (np' := 138) (M' := M) 1 rfl ?_
  cases h
  exact ev_ret rfl
theorem P_safe_84_t {L : Nat} {xs : Nat → Int} {d : Nat} (hd : 5 ≤ d)   (k43 : Int → Int → Int → Int → am_M → Option (Int × am_M)) (hk43 : ∀ (x1 : Int) (x2 : Int) (x4 : Int) (x6 : Int) (M : am_M) (r : Int × am_M), k43 x1 x2 x4 x6 M = some r → am_Ev L xs d me_123 43 [(0, .inr (.inr (some 0))), (1, .inl (x1)), (2, .inr (.inl (x2))), (4, .inr (.inl (x4))), (6, .inl (x6))] [] 126 138 M (some (.inr (.inl r.1)), 126, 138, r.2)) (x1 : Int) (x2 : Int) (x4 : Int) (x6 : Int) (M : am_M) (r : Int × am_M) (h : P_safe_84   k43 x1 x2 x4 x6 M = some r) : am_Ev L xs d me_123 84 [(0, .inr (.inr (some 0))), (1, .inl (x1)), (2, .inr (.inl (x2))), (4, .inr (.inl (x4))), (6, .inl (x6))] [] 126 138 M (some (.inr (.inl r.1)), 126, 138, r.2) := by
  refine ev_k (pc' := 43) (ls' := [(0, .inr (.inr (some 0))), (1, .inl (x1)), (2, .inr (.inl (x2))), (4, .inr (.inl (x4))), (6, .inl ((x6) + (-1)))]) (st' := []) (nc' := 126) (np' := 138) (M' := M) 2 rfl ?_
  exact hk43 (x1) (x2) (x4) ((x6) + (-1)) M r h
theorem P_safe_125_t {L : Nat} {xs : Nat → Int} {d : Nat} (hd : 5 ≤ d)     (s0 : Int) (M : am_M) (r : Int × am_M) (h : P_safe_125    s0 M = some r) : am_Ev L xs d me_123 125 [] [.inr (.inl (s0))] 126 138 M (some (.inr (.inl r.1)), 126, 138, r.2) := by
  refine ev_k (pc' := 125) (ls' := []) (st' := [.inr (.inl (s0))]) (nc' := 126) (np' := 138) (M' := M) 0 rfl ?_
  cases h
  exact ev_ret rfl
theorem P_safe_43_t {L : Nat} {xs : Nat → Int} {d : Nat} (hd : 5 ≤ d)     : ∀ (n : Nat) (x1 : Int) (x2 : Int) (x4 : Int) (x6 : Int) (M : am_M) (r : Int × am_M), P_safe_43    n x1 x2 x4 x6 M = some r → am_Ev L xs d me_123 43 [(0, .inr (.inr (some 0))), (1, .inl (x1)), (2, .inr (.inl (x2))), (4, .inr (.inl (x4))), (6, .inl (x6))] [] 126 138 M (some (.inr (.inl r.1)), 126, 138, r.2)
  | 0, _, _, _, _, M, r, h => by cases h
  | n + 1, x1, x2, x4, x6, M, r, h => by
    have ih := P_safe_43_t (L := L) (xs := xs) hd     n
    refine ev_k (pc' := 45) (ls' := [(0, .inr (.inr (some 0))), (1, .inl (x1)), (2, .inr (.inl (x2))), (4, .inr (.inl (x4))), (6, .inl (x6))]) (st' := [.inl (x6)]) (nc' := 126) (np' := 138) (M' := M) 1 rfl ?_
    obtain ⟨hR, ⟨hc, h⟩ | ⟨hc, h⟩⟩ := c_le_i h
    · refine ev_ifc 90 rfl hR.1 (by decide) (fun _ => ?_) (fun q => absurd hc q)
      refine ev_k (pc' := 93) (ls' := [(0, .inr (.inr (some 0))), (1, .inl (x1)), (2, .inr (.inl (x2))), (4, .inr (.inl (x4))), (6, .inl (x6))]) (st' := [.inr (.inl (x4)), .inr (.inl (x2))]) (nc' := 126) (np' := 138) (M' := M) 2 rfl ?_
      obtain ⟨v1, hv, h⟩ := ob_i h
      refine ev_call (t := 126) (as := [.inr (.inl (x2)), .inr (.inl (x4))]) (rest := []) rfl rfl rfl (by omega) (P_commonDivisor_e (by omega) (x2) (x4) M _ hv) ?_
      refine ev_k (pc' := 101) (ls' := [(6, .inr (.inl (v1))), (0, .inr (.inr (some 0))), (1, .inl (x1)), (2, .inr (.inl (x2))), (4, .inr (.inl (x4)))]) (st' := [.inr (.inl (1)), .inr (.inl (v1))]) (nc' := 126) (np' := 138) (M' := M) 3 rfl ?_
      obtain ⟨hc, h⟩ := ck_i h
      obtain ⟨v2, ev, h⟩ := tw_i h
      refine ev_lcmp rfl hc ?_
      rw [← ev]
      refine ev_k (pc' := 102) (ls' := [(6, .inr (.inl (v1))), (0, .inr (.inr (some 0))), (1, .inl (x1)), (2, .inr (.inl (x2))), (4, .inr (.inl (x4)))]) (st' := [.inl (v2)]) (nc' := 126) (np' := 138) (M' := M) 0 rfl ?_
      obtain ⟨hR, ⟨hc, h⟩ | ⟨hc, h⟩⟩ := c_ge_i h
      · refine ev_ifc 109 rfl hR.1 (by decide) (fun _ => ?_) (fun q => absurd hc q)
        refine ev_k (pc' := 110) (ls' := [(6, .inr (.inl (v1))), (0, .inr (.inr (some 0))), (1, .inl (x1)), (2, .inr (.inl (x2))), (4, .inr (.inl (x4)))]) (st' := [.inl (x1)]) (nc' := 126) (np' := 138) (M' := M) 1 rfl ?_
        obtain ⟨hR, ⟨hc, h⟩ | ⟨hc, h⟩⟩ := c_ne_i h
        · refine ev_ifc 120 rfl hR.1 (by decide) (fun _ => ?_) (fun q => absurd hc q)
          refine ev_k (pc' := 124) (ls' := [(6, .inr (.inl (v1))), (0, .inr (.inr (some 0))), (1, .inl (x1)), (2, .inr (.inl (x2))), (4, .inr (.inl (x4)))]) (st' := [.inr (.inl (v1)), .inr (.inl (x4))]) (nc' := 126) (np' := 138) (M' := M) 2 rfl ?_
          obtain ⟨hc, h⟩ := ck_i h
          obtain ⟨v3, ev, h⟩ := tw_i h
          refine ev_ldiv rfl hc ?_
          refine ev_k (pc' := 125) (ls' := []) (st' := [.inr (.inl (Int.tdiv (x4) (v1)))]) (nc' := 126) (np' := 138) (M' := M) 0 rfl ?_
          rw [← ev]
          exact P_safe_125_t hd     (v3) M r h
        · refine ev_ifc 120 rfl hR.1 (by decide) (fun q => absurd q hc) (fun _ => ?_)
          refine ev_k (pc' := 116) (ls' := [(6, .inr (.inl (v1))), (0, .inr (.inr (some 0))), (1, .inl (x1)), (2, .inr (.inl (x2))), (4, .inr (.inl (x4)))]) (st' := [.inr (.inl (v1)), .inr (.inl (x2))]) (nc' := 126) (np' := 138) (M' := M) 2 rfl ?_
          obtain ⟨hc, h⟩ := ck_i h
          obtain ⟨v4, ev, h⟩ := tw_i h
          refine ev_ldiv rfl hc ?_
          refine ev_k (pc' := 117) (ls' := [(6, .inr (.inl (v1))), (0, .inr (.inr (some 0))), (1, .inl (x1)), (2, .inr (.inl (x2))), (4, .inr (.inl (x4)))]) (st' := [.inr (.inl (Int.tdiv (x2) (v1)))]) (nc' := 126) (np' := 138) (M' := M) 0 rfl ?_
          rw [← ev]
          refine ev_k (pc' := 125) (ls' := []) (st' := [.inr (.inl (v4))]) (nc' := 126) (np' := 138) (M' := M) 1 rfl ?_
          exact P_safe_125_t hd     (v4) M r h
      · refine ev_ifc 109 rfl hR.1 (by decide) (fun q => absurd q hc) (fun _ => ?_)
        refine ev_k (pc' := 108) (ls' := [(6, .inr (.inl (v1))), (0, .inr (.inr (some 0))), (1, .inl (x1)), (2, .inr (.inl (x2))), (4, .inr (.inl (x4)))]) (st' := [.inr (.inl (-1))]) (nc' := 126) (np' := 138) (M' := M) 1 rfl ?_
        cases h
        exact ev_ret rfl
    · refine ev_ifc 90 rfl hR.1 (by decide) (fun q => absurd q hc) (fun _ => ?_)
      refine ev_k (pc' := 54) (ls' := [(0, .inr (.inr (some 0))), (1, .inl (x1)), (2, .inr (.inl (x2))), (4, .inr (.inl (x4))), (6, .inl (x6))]) (st' := [.inl (x6), .inr (.inr (some 26))]) (nc' := 126) (np' := 138) (M' := M) 3 rfl ?_
      obtain ⟨v5, hv, h⟩ := ob_i h
      refine ev_call (t := 121) (as := [.inr (.inr (some 26)), .inl (x6)]) (rest := []) rfl rfl rfl (by omega) (Trip_isBlind_26_e (by omega) (x6) M _ hv) ?_
      refine ev_k (pc' := 57) (ls' := [(0, .inr (.inr (some 0))), (1, .inl (x1)), (2, .inr (.inl (x2))), (4, .inr (.inl (x4))), (6, .inl (x6))]) (st' := [.inl (v5)]) (nc' := 126) (np' := 138) (M' := M) 0 rfl ?_
      obtain ⟨hR, ⟨hc, h⟩ | ⟨hc, h⟩⟩ := c_eq_i h
      · refine ev_ifc 84 rfl hR.1 (by decide) (fun _ => ?_) (fun q => absurd hc q)
        exact P_safe_84_t hd   (P_safe_43    n) ih (x1) (x2) (x4) (x6) M r h
      · refine ev_ifc 84 rfl hR.1 (by decide) (fun q => absurd q hc) (fun _ => ?_)
        refine ev_k (pc' := 69) (ls' := [(0, .inr (.inr (some 0))), (1, .inl (x1)), (2, .inr (.inl (x2))), (4, .inr (.inl (x4))), (6, .inl (x6))]) (st' := [.inl (x6), .inr (.inr (some 26)), .inl (10), .inr (.inl (x2))]) (nc' := 126) (np' := 138) (M' := M) 5 rfl ?_
        obtain ⟨v6, M7, hv, h⟩ := oc_i h
        refine ev_call (t := 124) (as := [.inr (.inr (some 26)), .inl (x6)]) (rest := [.inl (10), .inr (.inl (x2))]) rfl rfl rfl (by omega) (Trip_wrongTenths_26_e (by omega) (x6) M _ hv) ?_
        refine ev_k (pc' := 73) (ls' := [(0, .inr (.inr (some 0))), (1, .inl (x1)), (2, .inr (.inl (x2))), (4, .inr (.inl (x4))), (6, .inl (x6))]) (st' := [.inl ((10) - (v6)), .inr (.inl (x2))]) (nc' := 126) (np' := 138) (M' := M7) 1 rfl ?_
        obtain ⟨hc, h⟩ := ck_i h
        refine ev_i2l rfl hc ?_
        refine ev_k (pc' := 84) (ls' := [(0, .inr (.inr (some 0))), (1, .inl (x1)), (2, .inr (.inl ((x2) * ((10) - (v6))))), (4, .inr (.inl ((x4) * (10)))), (6, .inl (x6))]) (st' := []) (nc' := 126) (np' := 138) (M' := M7) 6 rfl ?_
        exact P_safe_84_t hd   (P_safe_43    n) ih (x1) ((x2) * ((10) - (v6))) ((x4) * (10)) (x6) M7 r h
theorem P_safe_e {L : Nat} {xs : Nat → Int} {d : Nat} (hd : 5 ≤ d)   (x1 : Int) (M : am_M) (r : Int × am_M) (h : P_safe   x1 M = some r) : am_Ev L xs d me_123 0 (am_ar1 0 [.inr (.inr (some 0)), .inl (x1)]) [] 126 138 M (some (.inr (.inl r.1)), 126, 138, r.2) := by
  refine ev_k (pc' := 1) (ls' := [(0, .inr (.inr (some 0))), (1, .inl (x1))]) (st' := [.inl (x1)]) (nc' := 126) (np' := 138) (M' := M) 1 rfl ?_
  obtain ⟨hR, ⟨hc, h⟩ | ⟨hc, h⟩⟩ := c_lt_i h
  · refine ev_ifc 9 rfl hR.1 (by decide) (fun _ => ?_) (fun q => absurd hc q)
    exact P_safe_9_t hd      M r h
  · refine ev_ifc 9 rfl hR.1 (by decide) (fun q => absurd q hc) (fun _ => ?_)
    refine ev_k (pc' := 6) (ls' := [(0, .inr (.inr (some 0))), (1, .inl (x1))]) (st' := [.inl (1), .inl (x1)]) (nc' := 126) (np' := 138) (M' := M) 2 rfl ?_
    obtain ⟨hR, ⟨hc, h⟩ | ⟨hc, h⟩⟩ := c_le_i h
    · refine ev_icmp 13 rfl hR.1 hR.2 (by decide) (fun _ => ?_) (fun q => absurd hc q)
      refine ev_k (pc' := 17) (ls' := [(0, .inr (.inr (some 0))), (1, .inl (x1))]) (st' := [.inr (.inr (some 26))]) (nc' := 126) (np' := 138) (M' := M) 2 rfl ?_
      obtain ⟨v1, hv, h⟩ := ob_i h
      refine ev_call (t := 120) (as := [.inr (.inr (some 26))]) (rest := []) rfl rfl rfl (by omega) (Trip_blindBack_26_e (by omega)  M _ hv) ?_
      refine ev_k (pc' := 22) (ls' := [(0, .inr (.inr (some 0))), (1, .inl (x1))]) (st' := [.inl (18), .inl (v1)]) (nc' := 126) (np' := 138) (M' := M) 1 rfl ?_
      obtain ⟨hR, ⟨hc, h⟩ | ⟨hc, h⟩⟩ := c_le_i h
      · refine ev_icmp 29 rfl hR.1 hR.2 (by decide) (fun _ => ?_) (fun q => absurd hc q)
        refine ev_k (pc' := 43) (ls' := [(0, .inr (.inr (some 0))), (1, .inl (x1)), (2, .inr (.inl (1))), (4, .inr (.inl (1))), (6, .inl (M 26 11))]) (st' := []) (nc' := 126) (np' := 138) (M' := M) 8 rfl ?_
        exact P_safe_43_t hd     am_big (x1) (1) (1) (M 26 11) M r h
      · refine ev_icmp 29 rfl hR.1 hR.2 (by decide) (fun q => absurd q hc) (fun _ => ?_)
        refine ev_k (pc' := 28) (ls' := [(0, .inr (.inr (some 0))), (1, .inl (x1))]) (st' := [.inr (.inl (-3))]) (nc' := 126) (np' := 138) (M' := M) 1 rfl ?_
        cases h
        exact ev_ret rfl
    · refine ev_icmp 13 rfl hR.1 hR.2 (by decide) (fun q => absurd q hc) (fun _ => ?_)
      exact P_safe_9_t hd      M r h
def Trip_minutesAstray_26_50    (s0 : Int) (M : am_M) : Option (Int × am_M) := some (s0, M)
def Trip_minutesAstray_26    (x1 : Int) (M : am_M) : Option (Int × am_M) := ob (Trip_isBlind_26 (x1) M) fun v1 => c_ne (v1) (0)
       (fw M 26 14 (b_and (((25173) * (M 26 14)) + (13849)) (65535)) fun M2 => ck (am_R (M2 26 14) ∧ am_R (10) ∧ ((10) : Int) ≠ 0) (tw (Int.tmod (M2 26 14) (10)) fun v3 => oc (Trip_wrongTenths_26 (x1) M2) fun v4 M5 => c_ge (v3) (v4)
       ((Trip_minutesAstray_26_50    (0) M5))
       ((Trip_minutesAstray_26_50    (30) M5))))
       (some (0, M))
theorem Trip_minutesAstray_26_50_t {L : Nat} {xs : Nat → Int} {d : Nat} (hd : 4 ≤ d)     (s0 : Int) (M : am_M) (r : Int × am_M) (h : Trip_minutesAstray_26_50    s0 M = some r) : am_Ev L xs d me_129 50 [] [.inl (s0)] 126 138 M (some (.inl r.1), 126, 138, r.2) := by
  refine ev_k (pc' := 50) (ls' := []) (st' := [.inl (s0)]) (nc' := 126) (np' := 138) (M' := M) 0 rfl ?_
  cases h
  exact ev_ret rfl
theorem Trip_minutesAstray_26_e {L : Nat} {xs : Nat → Int} {d : Nat} (hd : 4 ≤ d)   (x1 : Int) (M : am_M) (r : Int × am_M) (h : Trip_minutesAstray_26   x1 M = some r) : am_Ev L xs d me_129 0 (am_ar1 0 [.inr (.inr (some 26)), .inl (x1)]) [] 126 138 M (some (.inl r.1), 126, 138, r.2) := by
  refine ev_k (pc' := 2) (ls' := [(0, .inr (.inr (some 26))), (1, .inl (x1))]) (st' := [.inl (x1), .inr (.inr (some 26))]) (nc' := 126) (np' := 138) (M' := M) 2 rfl ?_
  obtain ⟨v1, hv, h⟩ := ob_i h
  refine ev_call (t := 121) (as := [.inr (.inr (some 26)), .inl (x1)]) (rest := []) rfl rfl rfl (by omega) (Trip_isBlind_26_e (by omega) (x1) M _ hv) ?_
  refine ev_k (pc' := 5) (ls' := [(0, .inr (.inr (some 26))), (1, .inl (x1))]) (st' := [.inl (v1)]) (nc' := 126) (np' := 138) (M' := M) 0 rfl ?_
  obtain ⟨hR, ⟨hc, h⟩ | ⟨hc, h⟩⟩ := c_ne_i h
  · refine ev_ifc 10 rfl hR.1 (by decide) (fun _ => ?_) (fun q => absurd hc q)
    refine ev_k (pc' := 29) (ls' := [(0, .inr (.inr (some 26))), (1, .inl (x1))]) (st' := []) (nc' := 126) (np' := 138) (M' := am_up M 26 14 (b_and (((25173) * (M 26 14)) + (13849)) (65535))) 10 rfl ?_
    obtain ⟨M2, eM, h⟩ := fw_i h
    rw [← eM]
    refine ev_k (pc' := 35) (ls' := [(0, .inr (.inr (some 26))), (1, .inl (x1))]) (st' := [.inl (10), .inl (M2 26 14)]) (nc' := 126) (np' := 138) (M' := M2) 3 rfl ?_
    obtain ⟨hc, h⟩ := ck_i h
    obtain ⟨v3, ev, h⟩ := tw_i h
    refine ev_irem rfl hc ?_
    refine ev_k (pc' := 36) (ls' := [(0, .inr (.inr (some 26))), (1, .inl (x1))]) (st' := [.inl (Int.tmod (M2 26 14) (10))]) (nc' := 126) (np' := 138) (M' := M2) 0 rfl ?_
    rw [← ev]
    refine ev_k (pc' := 38) (ls' := [(0, .inr (.inr (some 26))), (1, .inl (x1))]) (st' := [.inl (x1), .inr (.inr (some 26)), .inl (v3)]) (nc' := 126) (np' := 138) (M' := M2) 2 rfl ?_
    obtain ⟨v4, M5, hv, h⟩ := oc_i h
    refine ev_call (t := 124) (as := [.inr (.inr (some 26)), .inl (x1)]) (rest := [.inl (v3)]) rfl rfl rfl (by omega) (Trip_wrongTenths_26_e (by omega) (x1) M2 _ hv) ?_
    refine ev_k (pc' := 41) (ls' := [(0, .inr (.inr (some 26))), (1, .inl (x1))]) (st' := [.inl (v4), .inl (v3)]) (nc' := 126) (np' := 138) (M' := M5) 0 rfl ?_
    obtain ⟨hR, ⟨hc, h⟩ | ⟨hc, h⟩⟩ := c_ge_i h
    · refine ev_icmp 49 rfl hR.1 hR.2 (by decide) (fun _ => ?_) (fun q => absurd hc q)
      refine ev_k (pc' := 50) (ls' := []) (st' := [.inl (0)]) (nc' := 126) (np' := 138) (M' := M5) 1 rfl ?_
      exact Trip_minutesAstray_26_50_t hd     (0) M5 r h
    · refine ev_icmp 49 rfl hR.1 hR.2 (by decide) (fun q => absurd q hc) (fun _ => ?_)
      refine ev_k (pc' := 50) (ls' := []) (st' := [.inl (30)]) (nc' := 126) (np' := 138) (M' := M5) 2 rfl ?_
      exact Trip_minutesAstray_26_50_t hd     (30) M5 r h
  · refine ev_ifc 10 rfl hR.1 (by decide) (fun q => absurd q hc) (fun _ => ?_)
    refine ev_k (pc' := 9) (ls' := [(0, .inr (.inr (some 26))), (1, .inl (x1))]) (st' := [.inl (0)]) (nc' := 126) (np' := 138) (M' := M) 1 rfl ?_
    cases h
    exact ev_ret rfl
def Trip_goHome_26_81   (k12 : Int → Int → Int → am_M → Option (Int × am_M)) (x1 : Int) (x2 : Int) (x3 : Int) (M : am_M) : Option (Int × am_M) := (k12 (x1) (x2) ((x3) + (-1)) M)
def Trip_goHome_26_58   (k12 : Int → Int → Int → am_M → Option (Int × am_M)) (x1 : Int) (x3 : Int) (x4 : Int) (s0 : Int) (M : am_M) : Option (Int × am_M) := c_ne (s0) (0)
       (Trip_goHome_26_81   k12 (x1) (s0) (x3) M)
       (fw M 26 12 ((M 26 12) + (x4)) fun M1 => fw M1 26 11 ((x3) - (1)) fun M2 => (Trip_goHome_26_81   k12 (x1) (s0) (x3) M2))
def Trip_goHome_26_87    (x1 : Int) (M : am_M) : Option (Int × am_M) := some ((M 26 12) - (x1), M)
def Trip_goHome_26_12    : Nat → Int → Int → Int → am_M → Option (Int × am_M)
  | 0, _, _, _, _ => none
  | n + 1, x1, x2, x3, M => c_le (x3) (0)
       (Trip_goHome_26_87    (x1) M)
       (c_ne (x2) (0)
       (Trip_goHome_26_87    (x1) M)
       (oc (Trip_minutesOnto_26 ((x3) - (1)) (2) M) fun v1 M2 => oc (Trip_minutesAstray_26 (x3) M2) fun v3 M4 => c_le ((M4 26 12) + ((v1) + (v3))) (M4 1 4)
       ((Trip_goHome_26_58   (Trip_goHome_26_12    n) (x1) (x3) ((v1) + (v3)) (0) M4))
       ((Trip_goHome_26_58   (Trip_goHome_26_12    n) (x1) (x3) ((v1) + (v3)) (1) M4))))
def Trip_goHome_26     (M : am_M) : Option (Int × am_M) := (Trip_goHome_26_12    am_big (M 26 12) (0) (M 26 11) M)
theorem Trip_goHome_26_81_t {L : Nat} {xs : Nat → Int} {d : Nat} (hd : 5 ≤ d)   (k12 : Int → Int → Int → am_M → Option (Int × am_M)) (hk12 : ∀ (x1 : Int) (x2 : Int) (x3 : Int) (M : am_M) (r : Int × am_M), k12 x1 x2 x3 M = some r → am_Ev L xs d me_128 12 [(0, .inr (.inr (some 26))), (1, .inl (x1)), (2, .inl (x2)), (3, .inl (x3))] [] 126 138 M (some (.inl r.1), 126, 138, r.2)) (x1 : Int) (x2 : Int) (x3 : Int) (M : am_M) (r : Int × am_M) (h : Trip_goHome_26_81   k12 x1 x2 x3 M = some r) : am_Ev L xs d me_128 81 [(0, .inr (.inr (some 26))), (1, .inl (x1)), (2, .inl (x2)), (3, .inl (x3))] [] 126 138 M (some (.inl r.1), 126, 138, r.2) := by
  refine ev_k (pc' := 12) (ls' := [(0, .inr (.inr (some 26))), (1, .inl (x1)), (2, .inl (x2)), (3, .inl ((x3) + (-1)))]) (st' := []) (nc' := 126) (np' := 138) (M' := M) 2 rfl ?_
  exact hk12 (x1) (x2) ((x3) + (-1)) M r h
theorem Trip_goHome_26_58_t {L : Nat} {xs : Nat → Int} {d : Nat} (hd : 5 ≤ d)   (k12 : Int → Int → Int → am_M → Option (Int × am_M)) (hk12 : ∀ (x1 : Int) (x2 : Int) (x3 : Int) (M : am_M) (r : Int × am_M), k12 x1 x2 x3 M = some r → am_Ev L xs d me_128 12 [(0, .inr (.inr (some 26))), (1, .inl (x1)), (2, .inl (x2)), (3, .inl (x3))] [] 126 138 M (some (.inl r.1), 126, 138, r.2)) (x1 : Int) (x3 : Int) (x4 : Int) (s0 : Int) (M : am_M) (r : Int × am_M) (h : Trip_goHome_26_58   k12 x1 x3 x4 s0 M = some r) : am_Ev L xs d me_128 58 [(0, .inr (.inr (some 26))), (1, .inl (x1)), (3, .inl (x3)), (4, .inl (x4))] [.inl (s0)] 126 138 M (some (.inl r.1), 126, 138, r.2) := by
  refine ev_k (pc' := 60) (ls' := [(2, .inl (s0)), (0, .inr (.inr (some 26))), (1, .inl (x1)), (3, .inl (x3)), (4, .inl (x4))]) (st' := [.inl (s0)]) (nc' := 126) (np' := 138) (M' := M) 2 rfl ?_
  obtain ⟨hR, ⟨hc, h⟩ | ⟨hc, h⟩⟩ := c_ne_i h
  · refine ev_ifc 81 rfl hR.1 (by decide) (fun _ => ?_) (fun q => absurd hc q)
    exact Trip_goHome_26_81_t hd   k12 hk12 (x1) (s0) (x3) M r h
  · refine ev_ifc 81 rfl hR.1 (by decide) (fun q => absurd q hc) (fun _ => ?_)
    refine ev_k (pc' := 74) (ls' := [(2, .inl (s0)), (0, .inr (.inr (some 26))), (1, .inl (x1)), (3, .inl (x3)), (4, .inl (x4))]) (st' := []) (nc' := 126) (np' := 138) (M' := am_up M 26 12 ((M 26 12) + (x4))) 6 rfl ?_
    obtain ⟨M1, eM, h⟩ := fw_i h
    rw [← eM]
    refine ev_k (pc' := 81) (ls' := [(0, .inr (.inr (some 26))), (1, .inl (x1)), (2, .inl (s0)), (3, .inl (x3))]) (st' := []) (nc' := 126) (np' := 138) (M' := am_up M1 26 11 ((x3) - (1))) 5 rfl ?_
    obtain ⟨M2, eM, h⟩ := fw_i h
    rw [← eM]
    exact Trip_goHome_26_81_t hd   k12 hk12 (x1) (s0) (x3) M2 r h
theorem Trip_goHome_26_87_t {L : Nat} {xs : Nat → Int} {d : Nat} (hd : 5 ≤ d)     (x1 : Int) (M : am_M) (r : Int × am_M) (h : Trip_goHome_26_87    x1 M = some r) : am_Ev L xs d me_128 87 [(0, .inr (.inr (some 26))), (1, .inl (x1))] [] 126 138 M (some (.inl r.1), 126, 138, r.2) := by
  refine ev_k (pc' := 93) (ls' := [(0, .inr (.inr (some 26))), (1, .inl (x1))]) (st' := [.inl ((M 26 12) - (x1))]) (nc' := 126) (np' := 138) (M' := M) 4 rfl ?_
  cases h
  exact ev_ret rfl
theorem Trip_goHome_26_12_t {L : Nat} {xs : Nat → Int} {d : Nat} (hd : 5 ≤ d)     : ∀ (n : Nat) (x1 : Int) (x2 : Int) (x3 : Int) (M : am_M) (r : Int × am_M), Trip_goHome_26_12    n x1 x2 x3 M = some r → am_Ev L xs d me_128 12 [(0, .inr (.inr (some 26))), (1, .inl (x1)), (2, .inl (x2)), (3, .inl (x3))] [] 126 138 M (some (.inl r.1), 126, 138, r.2)
  | 0, _, _, _, M, r, h => by cases h
  | n + 1, x1, x2, x3, M, r, h => by
    have ih := Trip_goHome_26_12_t (L := L) (xs := xs) hd     n
    refine ev_k (pc' := 13) (ls' := [(0, .inr (.inr (some 26))), (1, .inl (x1)), (2, .inl (x2)), (3, .inl (x3))]) (st' := [.inl (x3)]) (nc' := 126) (np' := 138) (M' := M) 1 rfl ?_
    obtain ⟨hR, ⟨hc, h⟩ | ⟨hc, h⟩⟩ := c_le_i h
    · refine ev_ifc 87 rfl hR.1 (by decide) (fun _ => ?_) (fun q => absurd hc q)
      exact Trip_goHome_26_87_t hd     (x1) M r h
    · refine ev_ifc 87 rfl hR.1 (by decide) (fun q => absurd q hc) (fun _ => ?_)
      refine ev_k (pc' := 17) (ls' := [(0, .inr (.inr (some 26))), (1, .inl (x1)), (2, .inl (x2)), (3, .inl (x3))]) (st' := [.inl (x2)]) (nc' := 126) (np' := 138) (M' := M) 1 rfl ?_
      obtain ⟨hR, ⟨hc, h⟩ | ⟨hc, h⟩⟩ := c_ne_i h
      · refine ev_ifc 87 rfl hR.1 (by decide) (fun _ => ?_) (fun q => absurd hc q)
        exact Trip_goHome_26_87_t hd     (x1) M r h
      · refine ev_ifc 87 rfl hR.1 (by decide) (fun q => absurd q hc) (fun _ => ?_)
        refine ev_k (pc' := 25) (ls' := [(0, .inr (.inr (some 26))), (1, .inl (x1)), (2, .inl (x2)), (3, .inl (x3))]) (st' := [.inl (2), .inl ((x3) - (1)), .inr (.inr (some 26))]) (nc' := 126) (np' := 138) (M' := M) 5 rfl ?_
        obtain ⟨v1, M2, hv, h⟩ := oc_i h
        refine ev_call (t := 98) (as := [.inr (.inr (some 26)), .inl ((x3) - (1)), .inl (2)]) (rest := []) rfl rfl rfl (by omega) (Trip_minutesOnto_26_e (by omega) ((x3) - (1)) (2) M _ hv) ?_
        refine ev_k (pc' := 30) (ls' := [(0, .inr (.inr (some 26))), (1, .inl (x1)), (2, .inl (x2)), (3, .inl (x3))]) (st' := [.inl (x3), .inr (.inr (some 26)), .inl (v1)]) (nc' := 126) (np' := 138) (M' := M2) 2 rfl ?_
        obtain ⟨v3, M4, hv, h⟩ := oc_i h
        refine ev_call (t := 129) (as := [.inr (.inr (some 26)), .inl (x3)]) (rest := [.inl (v1)]) rfl rfl rfl (by omega) (Trip_minutesAstray_26_e (by omega) (x3) M2 _ hv) ?_
        refine ev_k (pc' := 50) (ls' := [(4, .inl ((v1) + (v3))), (0, .inr (.inr (some 26))), (1, .inl (x1)), (2, .inl (x2)), (3, .inl (x3))]) (st' := [.inl (M4 1 4), .inl ((M4 26 12) + ((v1) + (v3)))]) (nc' := 126) (np' := 138) (M' := M4) 9 rfl ?_
        obtain ⟨hR, ⟨hc, h⟩ | ⟨hc, h⟩⟩ := c_le_i h
        · refine ev_icmp 57 rfl hR.1 hR.2 (by decide) (fun _ => ?_) (fun q => absurd hc q)
          refine ev_k (pc' := 58) (ls' := [(0, .inr (.inr (some 26))), (1, .inl (x1)), (3, .inl (x3)), (4, .inl ((v1) + (v3)))]) (st' := [.inl (0)]) (nc' := 126) (np' := 138) (M' := M4) 1 rfl ?_
          exact Trip_goHome_26_58_t hd   (Trip_goHome_26_12    n) ih (x1) (x3) ((v1) + (v3)) (0) M4 r h
        · refine ev_icmp 57 rfl hR.1 hR.2 (by decide) (fun q => absurd q hc) (fun _ => ?_)
          refine ev_k (pc' := 58) (ls' := [(0, .inr (.inr (some 26))), (1, .inl (x1)), (3, .inl (x3)), (4, .inl ((v1) + (v3)))]) (st' := [.inl (1)]) (nc' := 126) (np' := 138) (M' := M4) 2 rfl ?_
          exact Trip_goHome_26_58_t hd   (Trip_goHome_26_12    n) ih (x1) (x3) ((v1) + (v3)) (1) M4 r h
theorem Trip_goHome_26_e {L : Nat} {xs : Nat → Int} {d : Nat} (hd : 5 ≤ d)    (M : am_M) (r : Int × am_M) (h : Trip_goHome_26    M = some r) : am_Ev L xs d me_128 0 (am_ar1 0 [.inr (.inr (some 26))]) [] 126 138 M (some (.inl r.1), 126, 138, r.2) := by
  refine ev_k (pc' := 12) (ls' := [(0, .inr (.inr (some 26))), (1, .inl (M 26 12)), (2, .inl (0)), (3, .inl (M 26 11))]) (st' := []) (nc' := 126) (np' := 138) (M' := M) 8 rfl ?_
  exact Trip_goHome_26_12_t hd     am_big (M 26 12) (0) (M 26 11) M r h
def P_home     (M : am_M) : Option (Int × am_M) := oc (Trip_goHome_26  M) fun v1 M2 => some (v1, M2)
theorem P_home_e {L : Nat} {xs : Nat → Int} {d : Nat} (hd : 6 ≤ d)    (M : am_M) (r : Int × am_M) (h : P_home    M = some r) : am_Ev L xs d me_127 0 (am_ar1 0 [.inr (.inr (some 0))]) [] 126 138 M (some (.inl r.1), 126, 138, r.2) := by
  refine ev_k (pc' := 4) (ls' := [(0, .inr (.inr (some 0)))]) (st' := [.inr (.inr (some 26))]) (nc' := 126) (np' := 138) (M' := M) 2 rfl ?_
  obtain ⟨v1, M2, hv, h⟩ := oc_i h
  refine ev_call (t := 128) (as := [.inr (.inr (some 26))]) (rest := []) rfl rfl rfl (by omega) (Trip_goHome_26_e (by omega)  M _ hv) ?_
  refine ev_k (pc' := 7) (ls' := [(0, .inr (.inr (some 0)))]) (st' := [.inl (v1)]) (nc' := 126) (np' := 138) (M' := M2) 0 rfl ?_
  cases h
  exact ev_ret rfl
def P_path_121    (s0 : Int) (M : am_M) : Option (Int) := some (s0)
def P_path_138    (s0 : Int) (M : am_M) : Option (Int) := some (s0)
def P_path_15     (M : am_M) : Option (Int) := some (-1)
def P_path    (x1 : Int) (x2 : Int) (M : am_M) : Option (Int) := c_lt (x1) (0)
       (P_path_15     M)
       (c_lt (x1) (M 26 10)
       (ck (am_R (x2)) ((if (x2) = (0) then
       (ob (Trip_cellAt_26 (x1) M) fun v1 => some (v1)) else
       (if (x2) = (1) then
       (ob (Trip_grownAt_26 (x1) M) fun v2 => some (v2)) else
       (if (x2) = (2) then
       (ob (Trip_widthAt_26 (x1) M) fun v3 => some (v3)) else
       (if (x2) = (3) then
       (ob (Trip_marksAt_26 (x1) M) fun v4 => some (v4)) else
       (if (x2) = (4) then
       (ob (Trip_sticksAt_26 (x1) M) fun v5 => some (v5)) else
       (if (x2) = (5) then
       (ob (Trip_isFork_26 (x1) M) fun v6 => c_eq (v6) (0)
       ((P_path_121    (0) M))
       ((P_path_121    (1) M))) else
       (if (x2) = (6) then
       (ob (Trip_isBlind_26 (x1) M) fun v7 => c_eq (v7) (0)
       ((P_path_138    (0) M))
       ((P_path_138    (1) M))) else
       (some (-1)))))))))))
       (P_path_15     M))
theorem P_path_121_t {L : Nat} {xs : Nat → Int} {d : Nat} (hd : 4 ≤ d)     (s0 : Int) (M : am_M) (r : Int) (h : P_path_121    s0 M = some r) : am_Ev L xs d me_130 121 [] [.inl (s0)] 126 138 M (some (.inl r), 126, 138, M) := by
  refine ev_k (pc' := 121) (ls' := []) (st' := [.inl (s0)]) (nc' := 126) (np' := 138) (M' := M) 0 rfl ?_
  cases h
  exact ev_ret rfl
theorem P_path_138_t {L : Nat} {xs : Nat → Int} {d : Nat} (hd : 4 ≤ d)     (s0 : Int) (M : am_M) (r : Int) (h : P_path_138    s0 M = some r) : am_Ev L xs d me_130 138 [] [.inl (s0)] 126 138 M (some (.inl r), 126, 138, M) := by
  refine ev_k (pc' := 138) (ls' := []) (st' := [.inl (s0)]) (nc' := 126) (np' := 138) (M' := M) 0 rfl ?_
  cases h
  exact ev_ret rfl
theorem P_path_15_t {L : Nat} {xs : Nat → Int} {d : Nat} (hd : 4 ≤ d)      (M : am_M) (r : Int) (h : P_path_15     M = some r) : am_Ev L xs d me_130 15 [] [] 126 138 M (some (.inl r), 126, 138, M) := by
  refine ev_k (pc' := 16) (ls' := []) (st' := [.inl (-1)]) (nc' := 126) (np' := 138) (M' := M) 1 rfl ?_
  cases h
  exact ev_ret rfl
theorem P_path_e {L : Nat} {xs : Nat → Int} {d : Nat} (hd : 4 ≤ d)   (x1 : Int) (x2 : Int) (M : am_M) (r : Int) (h : P_path   x1 x2 M = some r) : am_Ev L xs d me_130 0 (am_ar1 0 [.inr (.inr (some 0)), .inl (x1), .inl (x2)]) [] 126 138 M (some (.inl r), 126, 138, M) := by
  refine ev_k (pc' := 1) (ls' := [(0, .inr (.inr (some 0))), (1, .inl (x1)), (2, .inl (x2))]) (st' := [.inl (x1)]) (nc' := 126) (np' := 138) (M' := M) 1 rfl ?_
  obtain ⟨hR, ⟨hc, h⟩ | ⟨hc, h⟩⟩ := c_lt_i h
  · refine ev_ifc 15 rfl hR.1 (by decide) (fun _ => ?_) (fun q => absurd hc q)
    exact P_path_15_t hd      M r h
  · refine ev_ifc 15 rfl hR.1 (by decide) (fun q => absurd q hc) (fun _ => ?_)
    refine ev_k (pc' := 12) (ls' := [(0, .inr (.inr (some 0))), (1, .inl (x1)), (2, .inl (x2))]) (st' := [.inl (M 26 10), .inl (x1)]) (nc' := 126) (np' := 138) (M' := M) 4 rfl ?_
    obtain ⟨hR, ⟨hc, h⟩ | ⟨hc, h⟩⟩ := c_lt_i h
    · refine ev_icmp 17 rfl hR.1 hR.2 (by decide) (fun _ => ?_) (fun q => absurd hc q)
      refine ev_k (pc' := 18) (ls' := [(0, .inr (.inr (some 0))), (1, .inl (x1)), (2, .inl (x2))]) (st' := [.inl (x2)]) (nc' := 126) (np' := 138) (M' := M) 1 rfl ?_
      obtain ⟨hR, h⟩ := ck_i h
      rcases if_i h with ⟨hq, h⟩ | ⟨hq0, h⟩
      · refine ev_tsw 60 rfl hR (42) (Or.inr ⟨by rw [hq]; decide, by rw [hq]; rfl⟩) (by decide) ?_
        refine ev_k (pc' := 65) (ls' := [(0, .inr (.inr (some 0))), (1, .inl (x1)), (2, .inl (x2))]) (st' := [.inl (x1), .inr (.inr (some 26))]) (nc' := 126) (np' := 138) (M' := M) 3 rfl ?_
        obtain ⟨v1, hv, h⟩ := ob_i h
        refine ev_call (t := 31) (as := [.inr (.inr (some 26)), .inl (x1)]) (rest := []) rfl rfl rfl (by omega) (Trip_cellAt_26_e (by omega) (x1) M _ hv) ?_
        refine ev_k (pc' := 68) (ls' := [(0, .inr (.inr (some 0))), (1, .inl (x1)), (2, .inl (x2))]) (st' := [.inl (v1)]) (nc' := 126) (np' := 138) (M' := M) 0 rfl ?_
        cases h
        exact ev_ret rfl
      · skip
        rcases if_i h with ⟨hq, h⟩ | ⟨hq1, h⟩
        · refine ev_tsw 69 rfl hR (51) (Or.inr ⟨by rw [hq]; decide, by rw [hq]; rfl⟩) (by decide) ?_
          refine ev_k (pc' := 74) (ls' := [(0, .inr (.inr (some 0))), (1, .inl (x1)), (2, .inl (x2))]) (st' := [.inl (x1), .inr (.inr (some 26))]) (nc' := 126) (np' := 138) (M' := M) 3 rfl ?_
          obtain ⟨v2, hv, h⟩ := ob_i h
          refine ev_call (t := 101) (as := [.inr (.inr (some 26)), .inl (x1)]) (rest := []) rfl rfl rfl (by omega) (Trip_grownAt_26_e (by omega) (x1) M _ hv) ?_
          refine ev_k (pc' := 77) (ls' := [(0, .inr (.inr (some 0))), (1, .inl (x1)), (2, .inl (x2))]) (st' := [.inl (v2)]) (nc' := 126) (np' := 138) (M' := M) 0 rfl ?_
          cases h
          exact ev_ret rfl
        · skip
          rcases if_i h with ⟨hq, h⟩ | ⟨hq2, h⟩
          · refine ev_tsw 78 rfl hR (60) (Or.inr ⟨by rw [hq]; decide, by rw [hq]; rfl⟩) (by decide) ?_
            refine ev_k (pc' := 83) (ls' := [(0, .inr (.inr (some 0))), (1, .inl (x1)), (2, .inl (x2))]) (st' := [.inl (x1), .inr (.inr (some 26))]) (nc' := 126) (np' := 138) (M' := M) 3 rfl ?_
            obtain ⟨v3, hv, h⟩ := ob_i h
            refine ev_call (t := 100) (as := [.inr (.inr (some 26)), .inl (x1)]) (rest := []) rfl rfl rfl (by omega) (Trip_widthAt_26_e (by omega) (x1) M _ hv) ?_
            refine ev_k (pc' := 86) (ls' := [(0, .inr (.inr (some 0))), (1, .inl (x1)), (2, .inl (x2))]) (st' := [.inl (v3)]) (nc' := 126) (np' := 138) (M' := M) 0 rfl ?_
            cases h
            exact ev_ret rfl
          · skip
            rcases if_i h with ⟨hq, h⟩ | ⟨hq3, h⟩
            · refine ev_tsw 87 rfl hR (69) (Or.inr ⟨by rw [hq]; decide, by rw [hq]; rfl⟩) (by decide) ?_
              refine ev_k (pc' := 92) (ls' := [(0, .inr (.inr (some 0))), (1, .inl (x1)), (2, .inl (x2))]) (st' := [.inl (x1), .inr (.inr (some 26))]) (nc' := 126) (np' := 138) (M' := M) 3 rfl ?_
              obtain ⟨v4, hv, h⟩ := ob_i h
              refine ev_call (t := 91) (as := [.inr (.inr (some 26)), .inl (x1)]) (rest := []) rfl rfl rfl (by omega) (Trip_marksAt_26_e (by omega) (x1) M _ hv) ?_
              refine ev_k (pc' := 95) (ls' := [(0, .inr (.inr (some 0))), (1, .inl (x1)), (2, .inl (x2))]) (st' := [.inl (v4)]) (nc' := 126) (np' := 138) (M' := M) 0 rfl ?_
              cases h
              exact ev_ret rfl
            · skip
              rcases if_i h with ⟨hq, h⟩ | ⟨hq4, h⟩
              · refine ev_tsw 96 rfl hR (78) (Or.inr ⟨by rw [hq]; decide, by rw [hq]; rfl⟩) (by decide) ?_
                refine ev_k (pc' := 101) (ls' := [(0, .inr (.inr (some 0))), (1, .inl (x1)), (2, .inl (x2))]) (st' := [.inl (x1), .inr (.inr (some 26))]) (nc' := 126) (np' := 138) (M' := M) 3 rfl ?_
                obtain ⟨v5, hv, h⟩ := ob_i h
                refine ev_call (t := 94) (as := [.inr (.inr (some 26)), .inl (x1)]) (rest := []) rfl rfl rfl (by omega) (Trip_sticksAt_26_e (by omega) (x1) M _ hv) ?_
                refine ev_k (pc' := 104) (ls' := [(0, .inr (.inr (some 0))), (1, .inl (x1)), (2, .inl (x2))]) (st' := [.inl (v5)]) (nc' := 126) (np' := 138) (M' := M) 0 rfl ?_
                cases h
                exact ev_ret rfl
              · skip
                rcases if_i h with ⟨hq, h⟩ | ⟨hq5, h⟩
                · refine ev_tsw 105 rfl hR (87) (Or.inr ⟨by rw [hq]; decide, by rw [hq]; rfl⟩) (by decide) ?_
                  refine ev_k (pc' := 110) (ls' := [(0, .inr (.inr (some 0))), (1, .inl (x1)), (2, .inl (x2))]) (st' := [.inl (x1), .inr (.inr (some 26))]) (nc' := 126) (np' := 138) (M' := M) 3 rfl ?_
                  obtain ⟨v6, hv, h⟩ := ob_i h
                  refine ev_call (t := 118) (as := [.inr (.inr (some 26)), .inl (x1)]) (rest := []) rfl rfl rfl (by omega) (Trip_isFork_26_e (by omega) (x1) M _ hv) ?_
                  refine ev_k (pc' := 113) (ls' := [(0, .inr (.inr (some 0))), (1, .inl (x1)), (2, .inl (x2))]) (st' := [.inl (v6)]) (nc' := 126) (np' := 138) (M' := M) 0 rfl ?_
                  obtain ⟨hR, ⟨hc, h⟩ | ⟨hc, h⟩⟩ := c_eq_i h
                  · refine ev_ifc 120 rfl hR.1 (by decide) (fun _ => ?_) (fun q => absurd hc q)
                    refine ev_k (pc' := 121) (ls' := []) (st' := [.inl (0)]) (nc' := 126) (np' := 138) (M' := M) 1 rfl ?_
                    exact P_path_121_t hd     (0) M r h
                  · refine ev_ifc 120 rfl hR.1 (by decide) (fun q => absurd q hc) (fun _ => ?_)
                    refine ev_k (pc' := 121) (ls' := []) (st' := [.inl (1)]) (nc' := 126) (np' := 138) (M' := M) 2 rfl ?_
                    exact P_path_121_t hd     (1) M r h
                · skip
                  rcases if_i h with ⟨hq, h⟩ | ⟨hq6, h⟩
                  · refine ev_tsw 122 rfl hR (104) (Or.inr ⟨by rw [hq]; decide, by rw [hq]; rfl⟩) (by decide) ?_
                    refine ev_k (pc' := 127) (ls' := [(0, .inr (.inr (some 0))), (1, .inl (x1)), (2, .inl (x2))]) (st' := [.inl (x1), .inr (.inr (some 26))]) (nc' := 126) (np' := 138) (M' := M) 3 rfl ?_
                    obtain ⟨v7, hv, h⟩ := ob_i h
                    refine ev_call (t := 121) (as := [.inr (.inr (some 26)), .inl (x1)]) (rest := []) rfl rfl rfl (by omega) (Trip_isBlind_26_e (by omega) (x1) M _ hv) ?_
                    refine ev_k (pc' := 130) (ls' := [(0, .inr (.inr (some 0))), (1, .inl (x1)), (2, .inl (x2))]) (st' := [.inl (v7)]) (nc' := 126) (np' := 138) (M' := M) 0 rfl ?_
                    obtain ⟨hR, ⟨hc, h⟩ | ⟨hc, h⟩⟩ := c_eq_i h
                    · refine ev_ifc 137 rfl hR.1 (by decide) (fun _ => ?_) (fun q => absurd hc q)
                      refine ev_k (pc' := 138) (ls' := []) (st' := [.inl (0)]) (nc' := 126) (np' := 138) (M' := M) 1 rfl ?_
                      exact P_path_138_t hd     (0) M r h
                    · refine ev_ifc 137 rfl hR.1 (by decide) (fun q => absurd q hc) (fun _ => ?_)
                      refine ev_k (pc' := 138) (ls' := []) (st' := [.inl (1)]) (nc' := 126) (np' := 138) (M' := M) 2 rfl ?_
                      exact P_path_138_t hd     (1) M r h
                  · skip
                    have hho : ((x2) < 0 ∨ 6 < (x2)) ∨ ((x2) = 0 ∨ (x2) = 1 ∨ (x2) = 2 ∨ (x2) = 3 ∨ (x2) = 4 ∨ (x2) = 5 ∨ (x2) = 6) := by omega
                    refine ev_tsw 139 rfl hR (121) ?_ (by decide) ?_
                    · rcases hho with hho | hho
                      · exact Or.inl ⟨hho, rfl⟩
                      · rcases hho with hho | hho | hho | hho | hho | hho | hho
                        · exact absurd hho hq0
                        · exact absurd hho hq1
                        · exact absurd hho hq2
                        · exact absurd hho hq3
                        · exact absurd hho hq4
                        · exact absurd hho hq5
                        · exact absurd hho hq6
                    · skip
                      refine ev_k (pc' := 140) (ls' := [(0, .inr (.inr (some 0))), (1, .inl (x1)), (2, .inl (x2))]) (st' := [.inl (-1)]) (nc' := 126) (np' := 138) (M' := M) 1 rfl ?_
                      cases h
                      exact ev_ret rfl
    · refine ev_icmp 17 rfl hR.1 hR.2 (by decide) (fun q => absurd q hc) (fun _ => ?_)
      exact P_path_15_t hd      M r h
def Trip_minutesBack_34_9    : Nat → Int → Int → am_M → Option (Int × am_M)
  | 0, _, _, _ => none
  | n + 1, x1, x2, M => c_lt (x2) (0)
       (some (x1, M))
       (oc (Trip_minutesOnto_34 (x2) (2) M) fun v1 M2 => (Trip_minutesBack_34_9    n ((x1) + (v1)) ((x2) + (-1)) M2))
def Trip_minutesBack_34     (M : am_M) : Option (Int × am_M) := (Trip_minutesBack_34_9    am_big (0) ((M 34 11) - (1)) M)
theorem Trip_minutesBack_34_9_t {L : Nat} {xs : Nat → Int} {d : Nat} (hd : 4 ≤ d)     : ∀ (n : Nat) (x1 : Int) (x2 : Int) (M : am_M) (r : Int × am_M), Trip_minutesBack_34_9    n x1 x2 M = some r → am_Ev L xs d me_116 9 [(0, .inr (.inr (some 34))), (1, .inl (x1)), (2, .inl (x2))] [] 126 138 M (some (.inl r.1), 126, 138, r.2)
  | 0, _, _, M, r, h => by cases h
  | n + 1, x1, x2, M, r, h => by
    have ih := Trip_minutesBack_34_9_t (L := L) (xs := xs) hd     n
    refine ev_k (pc' := 10) (ls' := [(0, .inr (.inr (some 34))), (1, .inl (x1)), (2, .inl (x2))]) (st' := [.inl (x2)]) (nc' := 126) (np' := 138) (M' := M) 1 rfl ?_
    obtain ⟨hR, ⟨hc, h⟩ | ⟨hc, h⟩⟩ := c_lt_i h
    · refine ev_ifc 28 rfl hR.1 (by decide) (fun _ => ?_) (fun q => absurd hc q)
      refine ev_k (pc' := 29) (ls' := [(0, .inr (.inr (some 34))), (1, .inl (x1)), (2, .inl (x2))]) (st' := [.inl (x1)]) (nc' := 126) (np' := 138) (M' := M) 1 rfl ?_
      cases h
      exact ev_ret rfl
    · refine ev_ifc 28 rfl hR.1 (by decide) (fun q => absurd q hc) (fun _ => ?_)
      refine ev_k (pc' := 17) (ls' := [(0, .inr (.inr (some 34))), (1, .inl (x1)), (2, .inl (x2))]) (st' := [.inl (2), .inl (x2), .inr (.inr (some 34)), .inl (x1)]) (nc' := 126) (np' := 138) (M' := M) 4 rfl ?_
      obtain ⟨v1, M2, hv, h⟩ := oc_i h
      refine ev_call (t := 98) (as := [.inr (.inr (some 34)), .inl (x2), .inl (2)]) (rest := [.inl (x1)]) rfl rfl rfl (by omega) (Trip_minutesOnto_34_e (by omega) (x2) (2) M _ hv) ?_
      refine ev_k (pc' := 9) (ls' := [(0, .inr (.inr (some 34))), (1, .inl ((x1) + (v1))), (2, .inl ((x2) + (-1)))]) (st' := []) (nc' := 126) (np' := 138) (M' := M2) 4 rfl ?_
      exact ih ((x1) + (v1)) ((x2) + (-1)) M2 r h
theorem Trip_minutesBack_34_e {L : Nat} {xs : Nat → Int} {d : Nat} (hd : 4 ≤ d)    (M : am_M) (r : Int × am_M) (h : Trip_minutesBack_34    M = some r) : am_Ev L xs d me_116 0 (am_ar1 0 [.inr (.inr (some 34))]) [] 126 138 M (some (.inl r.1), 126, 138, r.2) := by
  refine ev_k (pc' := 9) (ls' := [(0, .inr (.inr (some 34))), (1, .inl (0)), (2, .inl ((M 34 11) - (1)))]) (st' := []) (nc' := 126) (np' := 138) (M' := M) 7 rfl ?_
  exact Trip_minutesBack_34_9_t hd     am_big (0) ((M 34 11) - (1)) M r h
def Outing_noteTurn_50_34_43     (M : am_M) : Option (am_M) := some (M)
def Outing_noteTurn_50_34    (x2 : Int) (x3 : Int) (M : am_M) : Option (am_M) := c_ne (M 50 9) (0)
       (Outing_noteTurn_50_34_43     M)
       (c_gt ((M 34 12) + (x3)) (M 1 4)
       (Outing_noteTurn_50_34_43     M)
       (fw M 50 10 (M 50 8) fun M1 => fw M1 50 11 (((M1 34 12) - (x2)) + (x3)) fun M2 => (Outing_noteTurn_50_34_43     M2)))
theorem Outing_noteTurn_50_34_43_t {L : Nat} {xs : Nat → Int} {d : Nat} (hd : 0 ≤ d)      (M : am_M) (r : am_M) (h : Outing_noteTurn_50_34_43     M = some r) : am_Ev L xs d me_133 43 [] [] 126 138 M (none, 126, 138, r) := by
  refine ev_k (pc' := 43) (ls' := []) (st' := []) (nc' := 126) (np' := 138) (M' := M) 0 rfl ?_
  cases h
  exact ev_ret rfl
theorem Outing_noteTurn_50_34_e {L : Nat} {xs : Nat → Int} {d : Nat} (hd : 0 ≤ d)   (x2 : Int) (x3 : Int) (M : am_M) (r : am_M) (h : Outing_noteTurn_50_34   x2 x3 M = some r) : am_Ev L xs d me_133 0 (am_ar1 0 [.inr (.inr (some 50)), .inr (.inr (some 34)), .inl (x2), .inl (x3)]) [] 126 138 M (none, 126, 138, r) := by
  refine ev_k (pc' := 4) (ls' := [(0, .inr (.inr (some 50))), (1, .inr (.inr (some 34))), (2, .inl (x2)), (3, .inl (x3))]) (st' := [.inl (M 50 9)]) (nc' := 126) (np' := 138) (M' := M) 2 rfl ?_
  obtain ⟨hR, ⟨hc, h⟩ | ⟨hc, h⟩⟩ := c_ne_i h
  · refine ev_ifc 43 rfl hR.1 (by decide) (fun _ => ?_) (fun q => absurd hc q)
    exact Outing_noteTurn_50_34_43_t hd      M r h
  · refine ev_ifc 43 rfl hR.1 (by decide) (fun q => absurd q hc) (fun _ => ?_)
    refine ev_k (pc' := 20) (ls' := [(0, .inr (.inr (some 50))), (1, .inr (.inr (some 34))), (2, .inl (x2)), (3, .inl (x3))]) (st' := [.inl (M 1 4), .inl ((M 34 12) + (x3))]) (nc' := 126) (np' := 138) (M' := M) 7 rfl ?_
    obtain ⟨hR, ⟨hc, h⟩ | ⟨hc, h⟩⟩ := c_gt_i h
    · refine ev_icmp 43 rfl hR.1 hR.2 (by decide) (fun _ => ?_) (fun q => absurd hc q)
      exact Outing_noteTurn_50_34_43_t hd      M r h
    · refine ev_icmp 43 rfl hR.1 hR.2 (by decide) (fun q => absurd q hc) (fun _ => ?_)
      refine ev_k (pc' := 31) (ls' := [(0, .inr (.inr (some 50))), (1, .inr (.inr (some 34))), (2, .inl (x2)), (3, .inl (x3))]) (st' := []) (nc' := 126) (np' := 138) (M' := am_up M 50 10 (M 50 8)) 4 rfl ?_
      obtain ⟨M1, eM, h⟩ := fw_i h
      rw [← eM]
      refine ev_k (pc' := 43) (ls' := []) (st' := []) (nc' := 126) (np' := 138) (M' := am_up M1 50 11 (((M1 34 12) - (x2)) + (x3))) 8 rfl ?_
      obtain ⟨M2, eM, h⟩ := fw_i h
      rw [← eM]
      exact Outing_noteTurn_50_34_43_t hd      M2 r h
def Outing_findTurn_50_34_139     (M : am_M) : Option (am_M) := some (M)
def Outing_findTurn_50_34_126   (k42 : Int → Int → Int → am_M → Option (am_M)) (x2 : Int) (x3 : Int) (x4 : Int) (M : am_M) : Option (am_M) := ob (Outing_noteTurn_50_34 (x2) (x3) M) fun M1 => (k42 (x2) (x3) ((x4) + (1)) M1)
def Outing_findTurn_50_34_42    : Nat → Int → Int → Int → am_M → Option (am_M)
  | 0, _, _, _, _ => none
  | n + 1, x2, x3, x4, M => c_ge (x4) (M 50 3)
       (Outing_findTurn_50_34_139     M)
       (c_ge (x4) (90)
       (Outing_findTurn_50_34_139     M)
       (c_ne (M 50 9) (0)
       (Outing_findTurn_50_34_139     M)
       (rd M 51 90 (x4) fun v1 => ob (Outing_doAct_50_34 (v1) M) fun M2 => c_le (M2 34 11) (M 34 11)
       (c_ge (M2 34 11) (M 34 11)
       (Outing_findTurn_50_34_126   (Outing_findTurn_50_34_42    n) (x2) (x3) (x4) M2)
       (oc (Trip_minutesOnto_34 (M2 34 11) (2) M2) fun v3 M4 => (Outing_findTurn_50_34_126   (Outing_findTurn_50_34_42    n) (x2) ((x3) - (v3)) (x4) M4)))
       (oc (Trip_minutesOnto_34 (M 34 11) (2) M2) fun v5 M6 => (Outing_findTurn_50_34_126   (Outing_findTurn_50_34_42    n) (x2) ((x3) + (v5)) (x4) M6)))))
def Outing_findTurn_50_34     (M : am_M) : Option (am_M) := oc (Trip_minutesBack_34  M) fun v1 M2 => fw M2 50 10 (-2) fun M3 => fw M3 50 11 (-2) fun M4 => fw M4 50 8 (0) fun M5 => fz M5 50 9 (0) fun M6 => ob (Outing_noteTurn_50_34 (M 34 12) (v1) M6) fun M7 => (Outing_findTurn_50_34_42    am_big (M 34 12) (v1) (0) M7)
theorem Outing_findTurn_50_34_139_t {L : Nat} {xs : Nat → Int} {d : Nat} (hd : 6 ≤ d)      (M : am_M) (r : am_M) (h : Outing_findTurn_50_34_139     M = some r) : am_Ev L xs d me_132 139 [] [] 126 138 M (none, 126, 138, r) := by
  refine ev_k (pc' := 139) (ls' := []) (st' := []) (nc' := 126) (np' := 138) (M' := M) 0 rfl ?_
  cases h
  exact ev_ret rfl
theorem Outing_findTurn_50_34_126_t {L : Nat} {xs : Nat → Int} {d : Nat} (hd : 6 ≤ d)   (k42 : Int → Int → Int → am_M → Option (am_M)) (hk42 : ∀ (x2 : Int) (x3 : Int) (x4 : Int) (M : am_M) (r : am_M), k42 x2 x3 x4 M = some r → am_Ev L xs d me_132 42 [(0, .inr (.inr (some 50))), (1, .inr (.inr (some 34))), (2, .inl (x2)), (3, .inl (x3)), (4, .inl (x4))] [] 126 138 M (none, 126, 138, r)) (x2 : Int) (x3 : Int) (x4 : Int) (M : am_M) (r : am_M) (h : Outing_findTurn_50_34_126   k42 x2 x3 x4 M = some r) : am_Ev L xs d me_132 126 [(0, .inr (.inr (some 50))), (1, .inr (.inr (some 34))), (2, .inl (x2)), (3, .inl (x3)), (4, .inl (x4))] [] 126 138 M (none, 126, 138, r) := by
  refine ev_k (pc' := 130) (ls' := [(0, .inr (.inr (some 50))), (1, .inr (.inr (some 34))), (2, .inl (x2)), (3, .inl (x3)), (4, .inl (x4))]) (st' := [.inl (x3), .inl (x2), .inr (.inr (some 34)), .inr (.inr (some 50))]) (nc' := 126) (np' := 138) (M' := M) 4 rfl ?_
  obtain ⟨M1, hv, h⟩ := ob_i h
  refine ev_call (t := 133) (as := [.inr (.inr (some 50)), .inr (.inr (some 34)), .inl (x2), .inl (x3)]) (rest := []) rfl rfl rfl (by omega) (Outing_noteTurn_50_34_e (by omega) (x2) (x3) M _ hv) ?_
  refine ev_k (pc' := 42) (ls' := [(0, .inr (.inr (some 50))), (1, .inr (.inr (some 34))), (2, .inl (x2)), (3, .inl (x3)), (4, .inl ((x4) + (1)))]) (st' := []) (nc' := 126) (np' := 138) (M' := M1) 2 rfl ?_
  exact hk42 (x2) (x3) ((x4) + (1)) M1 r h
theorem Outing_findTurn_50_34_42_t {L : Nat} {xs : Nat → Int} {d : Nat} (hd : 6 ≤ d)     : ∀ (n : Nat) (x2 : Int) (x3 : Int) (x4 : Int) (M : am_M) (r : am_M), Outing_findTurn_50_34_42    n x2 x3 x4 M = some r → am_Ev L xs d me_132 42 [(0, .inr (.inr (some 50))), (1, .inr (.inr (some 34))), (2, .inl (x2)), (3, .inl (x3)), (4, .inl (x4))] [] 126 138 M (none, 126, 138, r)
  | 0, _, _, _, M, r, h => by cases h
  | n + 1, x2, x3, x4, M, r, h => by
    have ih := Outing_findTurn_50_34_42_t (L := L) (xs := xs) hd     n
    refine ev_k (pc' := 48) (ls' := [(0, .inr (.inr (some 50))), (1, .inr (.inr (some 34))), (2, .inl (x2)), (3, .inl (x3)), (4, .inl (x4))]) (st' := [.inl (M 50 3), .inl (x4)]) (nc' := 126) (np' := 138) (M' := M) 3 rfl ?_
    obtain ⟨hR, ⟨hc, h⟩ | ⟨hc, h⟩⟩ := c_ge_i h
    · refine ev_icmp 139 rfl hR.1 hR.2 (by decide) (fun _ => ?_) (fun q => absurd hc q)
      exact Outing_findTurn_50_34_139_t hd      M r h
    · refine ev_icmp 139 rfl hR.1 hR.2 (by decide) (fun q => absurd q hc) (fun _ => ?_)
      refine ev_k (pc' := 55) (ls' := [(0, .inr (.inr (some 50))), (1, .inr (.inr (some 34))), (2, .inl (x2)), (3, .inl (x3)), (4, .inl (x4))]) (st' := [.inl (90), .inl (x4)]) (nc' := 126) (np' := 138) (M' := M) 2 rfl ?_
      obtain ⟨hR, ⟨hc, h⟩ | ⟨hc, h⟩⟩ := c_ge_i h
      · refine ev_icmp 139 rfl hR.1 hR.2 (by decide) (fun _ => ?_) (fun q => absurd hc q)
        exact Outing_findTurn_50_34_139_t hd      M r h
      · refine ev_icmp 139 rfl hR.1 hR.2 (by decide) (fun q => absurd q hc) (fun _ => ?_)
        refine ev_k (pc' := 62) (ls' := [(0, .inr (.inr (some 50))), (1, .inr (.inr (some 34))), (2, .inl (x2)), (3, .inl (x3)), (4, .inl (x4))]) (st' := [.inl (M 50 9)]) (nc' := 126) (np' := 138) (M' := M) 2 rfl ?_
        obtain ⟨hR, ⟨hc, h⟩ | ⟨hc, h⟩⟩ := c_ne_i h
        · refine ev_ifc 139 rfl hR.1 (by decide) (fun _ => ?_) (fun q => absurd hc q)
          exact Outing_findTurn_50_34_139_t hd      M r h
        · refine ev_ifc 139 rfl hR.1 (by decide) (fun q => absurd q hc) (fun _ => ?_)
          refine ev_k (pc' := 79) (ls' := [(5, .inl (M 34 11)), (0, .inr (.inr (some 50))), (1, .inr (.inr (some 34))), (2, .inl (x2)), (3, .inl (x3)), (4, .inl (x4))]) (st' := [.inl (x4), .inr (.inr (some 51)), .inr (.inr (some 34)), .inr (.inr (some 50))]) (nc' := 126) (np' := 138) (M' := M) 8 rfl ?_
          obtain ⟨hc, v1, ev, h⟩ := rd_i h
          refine ev_ald (k := 51) (t := 0) (Or.inl ⟨rfl, rfl⟩) rfl (by decide) (by decide) rfl hc ev ?_
          refine ev_k (pc' := 80) (ls' := [(5, .inl (M 34 11)), (0, .inr (.inr (some 50))), (1, .inr (.inr (some 34))), (2, .inl (x2)), (3, .inl (x3)), (4, .inl (x4))]) (st' := [.inl (v1), .inr (.inr (some 34)), .inr (.inr (some 50))]) (nc' := 126) (np' := 138) (M' := M) 0 rfl ?_
          obtain ⟨M2, hv, h⟩ := ob_i h
          refine ev_call (t := 79) (as := [.inr (.inr (some 50)), .inr (.inr (some 34)), .inl (v1)]) (rest := []) rfl rfl rfl (by omega) (Outing_doAct_50_34_e (by omega) (v1) M _ hv) ?_
          refine ev_k (pc' := 89) (ls' := [(5, .inl (M 34 11)), (0, .inr (.inr (some 50))), (1, .inr (.inr (some 34))), (2, .inl (x2)), (3, .inl (x3)), (4, .inl (x4))]) (st' := [.inl (M 34 11), .inl (M2 34 11)]) (nc' := 126) (np' := 138) (M' := M2) 3 rfl ?_
          obtain ⟨hR, ⟨hc, h⟩ | ⟨hc, h⟩⟩ := c_le_i h
          · refine ev_icmp 105 rfl hR.1 hR.2 (by decide) (fun _ => ?_) (fun q => absurd hc q)
            refine ev_k (pc' := 111) (ls' := [(5, .inl (M 34 11)), (0, .inr (.inr (some 50))), (1, .inr (.inr (some 34))), (2, .inl (x2)), (3, .inl (x3)), (4, .inl (x4))]) (st' := [.inl (M 34 11), .inl (M2 34 11)]) (nc' := 126) (np' := 138) (M' := M2) 3 rfl ?_
            obtain ⟨hR, ⟨hc, h⟩ | ⟨hc, h⟩⟩ := c_ge_i h
            · refine ev_icmp 126 rfl hR.1 hR.2 (by decide) (fun _ => ?_) (fun q => absurd hc q)
              exact Outing_findTurn_50_34_126_t hd   (Outing_findTurn_50_34_42    n) ih (x2) (x3) (x4) M2 r h
            · refine ev_icmp 126 rfl hR.1 hR.2 (by decide) (fun q => absurd q hc) (fun _ => ?_)
              refine ev_k (pc' := 121) (ls' := [(5, .inl (M 34 11)), (0, .inr (.inr (some 50))), (1, .inr (.inr (some 34))), (2, .inl (x2)), (3, .inl (x3)), (4, .inl (x4))]) (st' := [.inl (2), .inl (M2 34 11), .inr (.inr (some 34)), .inl (x3)]) (nc' := 126) (np' := 138) (M' := M2) 5 rfl ?_
              obtain ⟨v3, M4, hv, h⟩ := oc_i h
              refine ev_call (t := 98) (as := [.inr (.inr (some 34)), .inl (M2 34 11), .inl (2)]) (rest := [.inl (x3)]) rfl rfl rfl (by omega) (Trip_minutesOnto_34_e (by omega) (M2 34 11) (2) M2 _ hv) ?_
              refine ev_k (pc' := 126) (ls' := [(0, .inr (.inr (some 50))), (1, .inr (.inr (some 34))), (2, .inl (x2)), (3, .inl ((x3) - (v3))), (4, .inl (x4))]) (st' := []) (nc' := 126) (np' := 138) (M' := M4) 2 rfl ?_
              exact Outing_findTurn_50_34_126_t hd   (Outing_findTurn_50_34_42    n) ih (x2) ((x3) - (v3)) (x4) M4 r h
          · refine ev_icmp 105 rfl hR.1 hR.2 (by decide) (fun q => absurd q hc) (fun _ => ?_)
            refine ev_k (pc' := 97) (ls' := [(5, .inl (M 34 11)), (0, .inr (.inr (some 50))), (1, .inr (.inr (some 34))), (2, .inl (x2)), (3, .inl (x3)), (4, .inl (x4))]) (st' := [.inl (2), .inl (M 34 11), .inr (.inr (some 34)), .inl (x3)]) (nc' := 126) (np' := 138) (M' := M2) 4 rfl ?_
            obtain ⟨v5, M6, hv, h⟩ := oc_i h
            refine ev_call (t := 98) (as := [.inr (.inr (some 34)), .inl (M 34 11), .inl (2)]) (rest := [.inl (x3)]) rfl rfl rfl (by omega) (Trip_minutesOnto_34_e (by omega) (M 34 11) (2) M2 _ hv) ?_
            refine ev_k (pc' := 126) (ls' := [(0, .inr (.inr (some 50))), (1, .inr (.inr (some 34))), (2, .inl (x2)), (3, .inl ((x3) + (v5))), (4, .inl (x4))]) (st' := []) (nc' := 126) (np' := 138) (M' := M6) 3 rfl ?_
            exact Outing_findTurn_50_34_126_t hd   (Outing_findTurn_50_34_42    n) ih (x2) ((x3) + (v5)) (x4) M6 r h
theorem Outing_findTurn_50_34_e {L : Nat} {xs : Nat → Int} {d : Nat} (hd : 6 ≤ d)    (M : am_M) (r : am_M) (h : Outing_findTurn_50_34    M = some r) : am_Ev L xs d me_132 0 (am_ar1 0 [.inr (.inr (some 50)), .inr (.inr (some 34))]) [] 126 138 M (none, 126, 138, r) := by
  refine ev_k (pc' := 6) (ls' := [(2, .inl (M 34 12)), (0, .inr (.inr (some 50))), (1, .inr (.inr (some 34)))]) (st' := [.inr (.inr (some 34))]) (nc' := 126) (np' := 138) (M' := M) 4 rfl ?_
  obtain ⟨v1, M2, hv, h⟩ := oc_i h
  refine ev_call (t := 116) (as := [.inr (.inr (some 34))]) (rest := []) rfl rfl rfl (by omega) (Trip_minutesBack_34_e (by omega)  M _ hv) ?_
  refine ev_k (pc' := 16) (ls' := [(3, .inl (v1)), (2, .inl (M 34 12)), (0, .inr (.inr (some 50))), (1, .inr (.inr (some 34)))]) (st' := []) (nc' := 126) (np' := 138) (M' := am_up M2 50 10 (-2)) 4 rfl ?_
  obtain ⟨M3, eM, h⟩ := fw_i h
  rw [← eM]
  refine ev_k (pc' := 22) (ls' := [(3, .inl (v1)), (2, .inl (M 34 12)), (0, .inr (.inr (some 50))), (1, .inr (.inr (some 34)))]) (st' := []) (nc' := 126) (np' := 138) (M' := am_up M3 50 11 (-2)) 3 rfl ?_
  obtain ⟨M4, eM, h⟩ := fw_i h
  rw [← eM]
  refine ev_k (pc' := 27) (ls' := [(3, .inl (v1)), (2, .inl (M 34 12)), (0, .inr (.inr (some 50))), (1, .inr (.inr (some 34)))]) (st' := []) (nc' := 126) (np' := 138) (M' := am_up M4 50 8 (0)) 3 rfl ?_
  obtain ⟨M5, eM, h⟩ := fw_i h
  rw [← eM]
  refine ev_k (pc' := 29) (ls' := [(3, .inl (v1)), (2, .inl (M 34 12)), (0, .inr (.inr (some 50))), (1, .inr (.inr (some 34)))]) (st' := [.inl (0), .inr (.inr (some 50))]) (nc' := 126) (np' := 138) (M' := M5) 2 rfl ?_
  obtain ⟨hc, M6, eM, h⟩ := fz_i h
  refine ev_putz (k := 50) (j := 9) rfl rfl (by decide) rfl rfl hc eM ?_
  refine ev_k (pc' := 36) (ls' := [(3, .inl (v1)), (2, .inl (M 34 12)), (0, .inr (.inr (some 50))), (1, .inr (.inr (some 34)))]) (st' := [.inl (v1), .inl (M 34 12), .inr (.inr (some 34)), .inr (.inr (some 50))]) (nc' := 126) (np' := 138) (M' := M6) 4 rfl ?_
  obtain ⟨M7, hv, h⟩ := ob_i h
  refine ev_call (t := 133) (as := [.inr (.inr (some 50)), .inr (.inr (some 34)), .inl (M 34 12), .inl (v1)]) (rest := []) rfl rfl rfl (by omega) (Outing_noteTurn_50_34_e (by omega) (M 34 12) (v1) M6 _ hv) ?_
  refine ev_k (pc' := 42) (ls' := [(0, .inr (.inr (some 50))), (1, .inr (.inr (some 34))), (2, .inl (M 34 12)), (3, .inl (v1)), (4, .inl (0))]) (st' := []) (nc' := 126) (np' := 138) (M' := M7) 2 rfl ?_
  exact Outing_findTurn_50_34_42_t hd     am_big (M 34 12) (v1) (0) M7 r h
def P_turn_86    (s0 : Int) (M : am_M) : Option (Int × am_M) := some (s0, M)
def P_turn_23     (M : am_M) : Option (Int × am_M) := some (-1, M)
def P_turn    (x1 : Int) (x2 : Int) (M : am_M) : Option (Int × am_M) := c_lt (x2) (0)
       (P_turn_23     M)
       (c_gt (x2) (1)
       (P_turn_23     M)
       (oc (Tape_take (x1) (1) (80) M) fun v1 M2 => c_ne (v1) (0)
       (oc (Outing_readActs_50  M2) fun v3 M4 => c_ge (v3) (0)
       (ob (Trip_copyFrom_34_26  M4) fun M5 => ob (Outing_findTurn_50_34  M5) fun M6 => c_ne (x2) (0)
       ((P_turn_86    (M6 50 11) M6))
       ((P_turn_86    (M6 50 10) M6)))
       (some (v3, M4)))
       (P_turn_23     M2)))
theorem P_turn_86_t {L : Nat} {xs : Nat → Int} {d : Nat} (hd : 46 ≤ d)     (s0 : Int) (M : am_M) (r : Int × am_M) (h : P_turn_86    s0 M = some r) : am_Ev L xs d me_131 86 [] [.inl (s0)] 126 138 M (some (.inl r.1), 126, 138, r.2) := by
  refine ev_k (pc' := 86) (ls' := []) (st' := [.inl (s0)]) (nc' := 126) (np' := 138) (M' := M) 0 rfl ?_
  cases h
  exact ev_ret rfl
theorem P_turn_23_t {L : Nat} {xs : Nat → Int} {d : Nat} (hd : 46 ≤ d)      (M : am_M) (r : Int × am_M) (h : P_turn_23     M = some r) : am_Ev L xs d me_131 23 [] [] 126 138 M (some (.inl r.1), 126, 138, r.2) := by
  refine ev_k (pc' := 24) (ls' := []) (st' := [.inl (-1)]) (nc' := 126) (np' := 138) (M' := M) 1 rfl ?_
  cases h
  exact ev_ret rfl
theorem P_turn_e {L : Nat} {xs : Nat → Int} {d : Nat} (hd : 46 ≤ d)   (x1 : Int) (x2 : Int) (M : am_M) (r : Int × am_M) (h : P_turn   x1 x2 M = some r) : am_Ev L xs d me_131 0 (am_ar1 0 [.inr (.inr (some 0)), .inl (x1), .inl (x2)]) [] 126 138 M (some (.inl r.1), 126, 138, r.2) := by
  refine ev_k (pc' := 1) (ls' := [(0, .inr (.inr (some 0))), (1, .inl (x1)), (2, .inl (x2))]) (st' := [.inl (x2)]) (nc' := 126) (np' := 138) (M' := M) 1 rfl ?_
  obtain ⟨hR, ⟨hc, h⟩ | ⟨hc, h⟩⟩ := c_lt_i h
  · refine ev_ifc 23 rfl hR.1 (by decide) (fun _ => ?_) (fun q => absurd hc q)
    exact P_turn_23_t hd      M r h
  · refine ev_ifc 23 rfl hR.1 (by decide) (fun q => absurd q hc) (fun _ => ?_)
    refine ev_k (pc' := 6) (ls' := [(0, .inr (.inr (some 0))), (1, .inl (x1)), (2, .inl (x2))]) (st' := [.inl (1), .inl (x2)]) (nc' := 126) (np' := 138) (M' := M) 2 rfl ?_
    obtain ⟨hR, ⟨hc, h⟩ | ⟨hc, h⟩⟩ := c_gt_i h
    · refine ev_icmp 23 rfl hR.1 hR.2 (by decide) (fun _ => ?_) (fun q => absurd hc q)
      exact P_turn_23_t hd      M r h
    · refine ev_icmp 23 rfl hR.1 hR.2 (by decide) (fun q => absurd q hc) (fun _ => ?_)
      refine ev_k (pc' := 17) (ls' := [(0, .inr (.inr (some 0))), (1, .inl (x1)), (2, .inl (x2))]) (st' := [.inl (80), .inl (1), .inl (x1), .inr (.inr (some 14))]) (nc' := 126) (np' := 138) (M' := M) 5 rfl ?_
      obtain ⟨v1, M2, hv, h⟩ := oc_i h
      refine ev_call (t := 21) (as := [.inr (.inr (some 14)), .inl (x1), .inl (1), .inl (80)]) (rest := []) rfl rfl rfl (by omega) (Tape_take_e (by omega) (x1) (1) (80) M _ hv) ?_
      refine ev_k (pc' := 20) (ls' := [(0, .inr (.inr (some 0))), (1, .inl (x1)), (2, .inl (x2))]) (st' := [.inl (v1)]) (nc' := 126) (np' := 138) (M' := M2) 0 rfl ?_
      obtain ⟨hR, ⟨hc, h⟩ | ⟨hc, h⟩⟩ := c_ne_i h
      · refine ev_ifc 25 rfl hR.1 (by decide) (fun _ => ?_) (fun q => absurd hc q)
        refine ev_k (pc' := 33) (ls' := [(0, .inr (.inr (some 0))), (1, .inl (x1)), (2, .inl (x2))]) (st' := [.inr (.inr (some 14)), .inr (.inr (some 50))]) (nc' := 126) (np' := 138) (M' := M2) 4 rfl ?_
        obtain ⟨v3, M4, hv, h⟩ := oc_i h
        refine ev_call (t := 68) (as := [.inr (.inr (some 50)), .inr (.inr (some 14))]) (rest := []) rfl rfl rfl (by omega) (Outing_readActs_50_e (by omega)  M2 _ hv) ?_
        refine ev_k (pc' := 38) (ls' := [(3, .inl (v3)), (0, .inr (.inr (some 0))), (1, .inl (x1)), (2, .inl (x2))]) (st' := [.inl (v3)]) (nc' := 126) (np' := 138) (M' := M4) 2 rfl ?_
        obtain ⟨hR, ⟨hc, h⟩ | ⟨hc, h⟩⟩ := c_ge_i h
        · refine ev_ifc 43 rfl hR.1 (by decide) (fun _ => ?_) (fun q => absurd hc q)
          refine ev_k (pc' := 51) (ls' := [(3, .inl (v3)), (0, .inr (.inr (some 0))), (1, .inl (x1)), (2, .inl (x2))]) (st' := [.inr (.inr (some 26)), .inr (.inr (some 34))]) (nc' := 126) (np' := 138) (M' := M4) 4 rfl ?_
          obtain ⟨M5, hv, h⟩ := ob_i h
          refine ev_call (t := 108) (as := [.inr (.inr (some 34)), .inr (.inr (some 26))]) (rest := []) rfl rfl rfl (by omega) (Trip_copyFrom_34_26_e (by omega)  M4 _ hv) ?_
          refine ev_k (pc' := 62) (ls' := [(3, .inl (v3)), (0, .inr (.inr (some 0))), (1, .inl (x1)), (2, .inl (x2))]) (st' := [.inr (.inr (some 34)), .inr (.inr (some 50))]) (nc' := 126) (np' := 138) (M' := M5) 4 rfl ?_
          obtain ⟨M6, hv, h⟩ := ob_i h
          refine ev_call (t := 132) (as := [.inr (.inr (some 50)), .inr (.inr (some 34))]) (rest := []) rfl rfl rfl (by omega) (Outing_findTurn_50_34_e (by omega)  M5 _ hv) ?_
          refine ev_k (pc' := 66) (ls' := [(3, .inl (v3)), (0, .inr (.inr (some 0))), (1, .inl (x1)), (2, .inl (x2))]) (st' := [.inl (x2)]) (nc' := 126) (np' := 138) (M' := M6) 1 rfl ?_
          obtain ⟨hR, ⟨hc, h⟩ | ⟨hc, h⟩⟩ := c_ne_i h
          · refine ev_ifc 79 rfl hR.1 (by decide) (fun _ => ?_) (fun q => absurd hc q)
            refine ev_k (pc' := 86) (ls' := []) (st' := [.inl (M6 50 11)]) (nc' := 126) (np' := 138) (M' := M6) 3 rfl ?_
            exact P_turn_86_t hd     (M6 50 11) M6 r h
          · refine ev_ifc 79 rfl hR.1 (by decide) (fun q => absurd q hc) (fun _ => ?_)
            refine ev_k (pc' := 86) (ls' := []) (st' := [.inl (M6 50 10)]) (nc' := 126) (np' := 138) (M' := M6) 4 rfl ?_
            exact P_turn_86_t hd     (M6 50 10) M6 r h
        · refine ev_ifc 43 rfl hR.1 (by decide) (fun q => absurd q hc) (fun _ => ?_)
          refine ev_k (pc' := 42) (ls' := [(3, .inl (v3)), (0, .inr (.inr (some 0))), (1, .inl (x1)), (2, .inl (x2))]) (st' := [.inl (v3)]) (nc' := 126) (np' := 138) (M' := M4) 1 rfl ?_
          cases h
          exact ev_ret rfl
      · refine ev_ifc 25 rfl hR.1 (by decide) (fun q => absurd q hc) (fun _ => ?_)
        exact P_turn_23_t hd      M2 r h
def J_fill_53_5    : Nat → Int → Int → Int → am_M → Option (am_M)
  | 0, _, _, _, _ => none
  | n + 1, x1, x2, x3, M => c_ge (x2) (x3)
       (some (M))
       (wa M 53 144 (x2) (x1) fun M1 => (J_fill_53_5    n (x1) ((x2) + (1)) (x3) M1))
def J_fill_53    (x1 : Int) (M : am_M) : Option (am_M) := (J_fill_53_5    am_big (x1) (0) (((144 : Nat) : Int)) M)
theorem J_fill_53_5_t {L : Nat} {xs : Nat → Int} {d : Nat} (hd : 0 ≤ d)     : ∀ (n : Nat) (x1 : Int) (x2 : Int) (x3 : Int) (M : am_M) (r : am_M), J_fill_53_5    n x1 x2 x3 M = some r → am_Ev L xs d me_2 5 [(0, .inr (.inr (some 53))), (1, .inl (x1)), (2, .inl (x2)), (3, .inl (x3))] [] 126 138 M (none, 126, 138, r)
  | 0, _, _, _, M, r, h => by cases h
  | n + 1, x1, x2, x3, M, r, h => by
    have ih := J_fill_53_5_t (L := L) (xs := xs) hd     n
    refine ev_k (pc' := 7) (ls' := [(0, .inr (.inr (some 53))), (1, .inl (x1)), (2, .inl (x2)), (3, .inl (x3))]) (st' := [.inl (x3), .inl (x2)]) (nc' := 126) (np' := 138) (M' := M) 2 rfl ?_
    obtain ⟨hR, ⟨hc, h⟩ | ⟨hc, h⟩⟩ := c_ge_i h
    · refine ev_icmp 20 rfl hR.1 hR.2 (by decide) (fun _ => ?_) (fun q => absurd hc q)
      refine ev_k (pc' := 20) (ls' := [(0, .inr (.inr (some 53))), (1, .inl (x1)), (2, .inl (x2)), (3, .inl (x3))]) (st' := []) (nc' := 126) (np' := 138) (M' := M) 0 rfl ?_
      cases h
      exact ev_ret rfl
    · refine ev_icmp 20 rfl hR.1 hR.2 (by decide) (fun q => absurd q hc) (fun _ => ?_)
      refine ev_k (pc' := 13) (ls' := [(0, .inr (.inr (some 53))), (1, .inl (x1)), (2, .inl (x2)), (3, .inl (x3))]) (st' := [.inl (x1), .inl (x2), .inr (.inr (some 53))]) (nc' := 126) (np' := 138) (M' := M) 3 rfl ?_
      obtain ⟨hc, M1, eM, h⟩ := wa_i h
      refine ev_iast (k := 53) rfl (by decide) rfl hc eM ?_
      refine ev_k (pc' := 5) (ls' := [(0, .inr (.inr (some 53))), (1, .inl (x1)), (2, .inl ((x2) + (1))), (3, .inl (x3))]) (st' := []) (nc' := 126) (np' := 138) (M' := M1) 2 rfl ?_
      exact ih (x1) ((x2) + (1)) (x3) M1 r h
theorem J_fill_53_e {L : Nat} {xs : Nat → Int} {d : Nat} (hd : 0 ≤ d)   (x1 : Int) (M : am_M) (r : am_M) (h : J_fill_53   x1 M = some r) : am_Ev L xs d me_2 0 (am_ar1 0 [.inr (.inr (some 53)), .inl (x1)]) [] 126 138 M (none, 126, 138, r) := by
  refine ev_k (pc' := 5) (ls' := [(0, .inr (.inr (some 53))), (1, .inl (x1)), (2, .inl (0)), (3, .inl (((144 : Nat) : Int)))]) (st' := []) (nc' := 126) (np' := 138) (M' := M) 5 rfl ?_
  exact J_fill_53_5_t hd     am_big (x1) (0) (((144 : Nat) : Int)) M r h
def Routes_nearestOpen_52_42   (k7 : Int → Int → Int → am_M → Option (Int)) (x1 : Int) (x2 : Int) (x3 : Int) (M : am_M) : Option (Int) := (k7 (x1) (x2) ((x3) + (1)) M)
def Routes_nearestOpen_52_7    : Nat → Int → Int → Int → am_M → Option (Int)
  | 0, _, _, _, _ => none
  | n + 1, x1, x2, x3, M => c_ge (x3) (144)
       (some (x1))
       (rd M 54 144 (x3) fun v1 => c_ne (v1) (0)
       (Routes_nearestOpen_52_42   (Routes_nearestOpen_52_7    n) (x1) (x2) (x3) M)
       (rd M 53 144 (x3) fun v2 => c_ge (v2) (x2)
       (Routes_nearestOpen_52_42   (Routes_nearestOpen_52_7    n) (x1) (x2) (x3) M)
       (rd M 53 144 (x3) fun v3 => (Routes_nearestOpen_52_42   (Routes_nearestOpen_52_7    n) (x3) (v3) (x3) M))))
def Routes_nearestOpen_52     (M : am_M) : Option (Int) := (Routes_nearestOpen_52_7    am_big (-1) (1000000000) (0) M)
theorem Routes_nearestOpen_52_42_t {L : Nat} {xs : Nat → Int} {d : Nat} (hd : 0 ≤ d)   (k7 : Int → Int → Int → am_M → Option (Int)) (hk7 : ∀ (x1 : Int) (x2 : Int) (x3 : Int) (M : am_M) (r : Int), k7 x1 x2 x3 M = some r → am_Ev L xs d me_137 7 [(0, .inr (.inr (some 52))), (1, .inl (x1)), (2, .inl (x2)), (3, .inl (x3))] [] 126 138 M (some (.inl r), 126, 138, M)) (x1 : Int) (x2 : Int) (x3 : Int) (M : am_M) (r : Int) (h : Routes_nearestOpen_52_42   k7 x1 x2 x3 M = some r) : am_Ev L xs d me_137 42 [(0, .inr (.inr (some 52))), (1, .inl (x1)), (2, .inl (x2)), (3, .inl (x3))] [] 126 138 M (some (.inl r), 126, 138, M) := by
  refine ev_k (pc' := 7) (ls' := [(0, .inr (.inr (some 52))), (1, .inl (x1)), (2, .inl (x2)), (3, .inl ((x3) + (1)))]) (st' := []) (nc' := 126) (np' := 138) (M' := M) 2 rfl ?_
  exact hk7 (x1) (x2) ((x3) + (1)) M r h
theorem Routes_nearestOpen_52_7_t {L : Nat} {xs : Nat → Int} {d : Nat} (hd : 0 ≤ d)     : ∀ (n : Nat) (x1 : Int) (x2 : Int) (x3 : Int) (M : am_M) (r : Int), Routes_nearestOpen_52_7    n x1 x2 x3 M = some r → am_Ev L xs d me_137 7 [(0, .inr (.inr (some 52))), (1, .inl (x1)), (2, .inl (x2)), (3, .inl (x3))] [] 126 138 M (some (.inl r), 126, 138, M)
  | 0, _, _, _, M, r, h => by cases h
  | n + 1, x1, x2, x3, M, r, h => by
    have ih := Routes_nearestOpen_52_7_t (L := L) (xs := xs) hd     n
    refine ev_k (pc' := 11) (ls' := [(0, .inr (.inr (some 52))), (1, .inl (x1)), (2, .inl (x2)), (3, .inl (x3))]) (st' := [.inl (144), .inl (x3)]) (nc' := 126) (np' := 138) (M' := M) 2 rfl ?_
    obtain ⟨hR, ⟨hc, h⟩ | ⟨hc, h⟩⟩ := c_ge_i h
    · refine ev_icmp 48 rfl hR.1 hR.2 (by decide) (fun _ => ?_) (fun q => absurd hc q)
      refine ev_k (pc' := 49) (ls' := [(0, .inr (.inr (some 52))), (1, .inl (x1)), (2, .inl (x2)), (3, .inl (x3))]) (st' := [.inl (x1)]) (nc' := 126) (np' := 138) (M' := M) 1 rfl ?_
      cases h
      exact ev_ret rfl
    · refine ev_icmp 48 rfl hR.1 hR.2 (by decide) (fun q => absurd q hc) (fun _ => ?_)
      refine ev_k (pc' := 19) (ls' := [(0, .inr (.inr (some 52))), (1, .inl (x1)), (2, .inl (x2)), (3, .inl (x3))]) (st' := [.inl (x3), .inr (.inr (some 54))]) (nc' := 126) (np' := 138) (M' := M) 3 rfl ?_
      obtain ⟨hc, v1, ev, h⟩ := rd_i h
      refine ev_ald (k := 54) (t := 2) (Or.inr ⟨rfl, Or.inr rfl⟩) rfl (by decide) (by decide) rfl hc ev ?_
      refine ev_k (pc' := 20) (ls' := [(0, .inr (.inr (some 52))), (1, .inl (x1)), (2, .inl (x2)), (3, .inl (x3))]) (st' := [.inl (v1)]) (nc' := 126) (np' := 138) (M' := M) 0 rfl ?_
      obtain ⟨hR, ⟨hc, h⟩ | ⟨hc, h⟩⟩ := c_ne_i h
      · refine ev_ifc 42 rfl hR.1 (by decide) (fun _ => ?_) (fun q => absurd hc q)
        exact Routes_nearestOpen_52_42_t hd   (Routes_nearestOpen_52_7    n) ih (x1) (x2) (x3) M r h
      · refine ev_ifc 42 rfl hR.1 (by decide) (fun q => absurd q hc) (fun _ => ?_)
        refine ev_k (pc' := 28) (ls' := [(0, .inr (.inr (some 52))), (1, .inl (x1)), (2, .inl (x2)), (3, .inl (x3))]) (st' := [.inl (x3), .inr (.inr (some 53))]) (nc' := 126) (np' := 138) (M' := M) 3 rfl ?_
        obtain ⟨hc, v2, ev, h⟩ := rd_i h
        refine ev_ald (k := 53) (t := 0) (Or.inl ⟨rfl, rfl⟩) rfl (by decide) (by decide) rfl hc ev ?_
        refine ev_k (pc' := 30) (ls' := [(0, .inr (.inr (some 52))), (1, .inl (x1)), (2, .inl (x2)), (3, .inl (x3))]) (st' := [.inl (x2), .inl (v2)]) (nc' := 126) (np' := 138) (M' := M) 1 rfl ?_
        obtain ⟨hR, ⟨hc, h⟩ | ⟨hc, h⟩⟩ := c_ge_i h
        · refine ev_icmp 42 rfl hR.1 hR.2 (by decide) (fun _ => ?_) (fun q => absurd hc q)
          exact Routes_nearestOpen_52_42_t hd   (Routes_nearestOpen_52_7    n) ih (x1) (x2) (x3) M r h
        · refine ev_icmp 42 rfl hR.1 hR.2 (by decide) (fun q => absurd q hc) (fun _ => ?_)
          refine ev_k (pc' := 38) (ls' := [(0, .inr (.inr (some 52))), (1, .inl (x1)), (2, .inl (x2)), (3, .inl (x3))]) (st' := [.inl (x3), .inr (.inr (some 53))]) (nc' := 126) (np' := 138) (M' := M) 3 rfl ?_
          obtain ⟨hc, v3, ev, h⟩ := rd_i h
          refine ev_ald (k := 53) (t := 0) (Or.inl ⟨rfl, rfl⟩) rfl (by decide) (by decide) rfl hc ev ?_
          refine ev_k (pc' := 42) (ls' := [(0, .inr (.inr (some 52))), (1, .inl (x3)), (2, .inl (v3)), (3, .inl (x3))]) (st' := []) (nc' := 126) (np' := 138) (M' := M) 3 rfl ?_
          exact Routes_nearestOpen_52_42_t hd   (Routes_nearestOpen_52_7    n) ih (x3) (v3) (x3) M r h
theorem Routes_nearestOpen_52_e {L : Nat} {xs : Nat → Int} {d : Nat} (hd : 0 ≤ d)    (M : am_M) (r : Int) (h : Routes_nearestOpen_52    M = some r) : am_Ev L xs d me_137 0 (am_ar1 0 [.inr (.inr (some 52))]) [] 126 138 M (some (.inl r), 126, 138, M) := by
  refine ev_k (pc' := 7) (ls' := [(0, .inr (.inr (some 52))), (1, .inl (-1)), (2, .inl (1000000000)), (3, .inl (0))]) (st' := []) (nc' := 126) (np' := 138) (M' := M) 6 rfl ?_
  exact Routes_nearestOpen_52_7_t hd     am_big (-1) (1000000000) (0) M r h
def Routes_reachOf_52_18    (s0 : Int) (M : am_M) : Option (Int) := some (s0)
def Routes_reachOf_52    (x1 : Int) (M : am_M) : Option (Int) := ob (Country_isCell (x1) M) fun v1 => c_eq (v1) (0)
       ((Routes_reachOf_52_18    (1000000000) M))
       (rd M 53 144 (x1) fun v2 => (Routes_reachOf_52_18    (v2) M))
theorem Routes_reachOf_52_18_t {L : Nat} {xs : Nat → Int} {d : Nat} (hd : 1 ≤ d)     (s0 : Int) (M : am_M) (r : Int) (h : Routes_reachOf_52_18    s0 M = some r) : am_Ev L xs d me_140 18 [] [.inl (s0)] 126 138 M (some (.inl r), 126, 138, M) := by
  refine ev_k (pc' := 18) (ls' := []) (st' := [.inl (s0)]) (nc' := 126) (np' := 138) (M' := M) 0 rfl ?_
  cases h
  exact ev_ret rfl
theorem Routes_reachOf_52_e {L : Nat} {xs : Nat → Int} {d : Nat} (hd : 1 ≤ d)   (x1 : Int) (M : am_M) (r : Int) (h : Routes_reachOf_52   x1 M = some r) : am_Ev L xs d me_140 0 (am_ar1 0 [.inr (.inr (some 52)), .inl (x1)]) [] 126 138 M (some (.inl r), 126, 138, M) := by
  refine ev_k (pc' := 1) (ls' := [(0, .inr (.inr (some 52))), (1, .inl (x1))]) (st' := [.inl (x1)]) (nc' := 126) (np' := 138) (M' := M) 1 rfl ?_
  obtain ⟨v1, hv, h⟩ := ob_i h
  refine ev_call (t := 9) (as := [.inl (x1)]) (rest := []) rfl rfl rfl (by omega) (Country_isCell_e (by omega) (x1) M _ hv) ?_
  refine ev_k (pc' := 4) (ls' := [(0, .inr (.inr (some 52))), (1, .inl (x1))]) (st' := [.inl (v1)]) (nc' := 126) (np' := 138) (M' := M) 0 rfl ?_
  obtain ⟨hR, ⟨hc, h⟩ | ⟨hc, h⟩⟩ := c_eq_i h
  · refine ev_ifc 16 rfl hR.1 (by decide) (fun _ => ?_) (fun q => absurd hc q)
    refine ev_k (pc' := 18) (ls' := []) (st' := [.inl (1000000000)]) (nc' := 126) (np' := 138) (M' := M) 1 rfl ?_
    exact Routes_reachOf_52_18_t hd     (1000000000) M r h
  · refine ev_ifc 16 rfl hR.1 (by decide) (fun q => absurd q hc) (fun _ => ?_)
    refine ev_k (pc' := 12) (ls' := [(0, .inr (.inr (some 52))), (1, .inl (x1))]) (st' := [.inl (x1), .inr (.inr (some 53))]) (nc' := 126) (np' := 138) (M' := M) 3 rfl ?_
    obtain ⟨hc, v2, ev, h⟩ := rd_i h
    refine ev_ald (k := 53) (t := 0) (Or.inl ⟨rfl, rfl⟩) rfl (by decide) (by decide) rfl hc ev ?_
    refine ev_k (pc' := 18) (ls' := []) (st' := [.inl (v2)]) (nc' := 126) (np' := 138) (M' := M) 1 rfl ?_
    exact Routes_reachOf_52_18_t hd     (v2) M r h
def Routes_reachBy_52_40     (M : am_M) : Option (Int) := some (1000000000)
def Routes_reachBy_52    (x1 : Int) (M : am_M) : Option (Int) := ob (Country_kindAt_1 (x1) M) fun v1 => ob (Country_isBarred_1 (x1) M) fun v2 => c_ne (v2) (0)
       (Routes_reachBy_52_40     M)
       (c_lt (v1) (0)
       (Routes_reachBy_52_40     M)
       (c_ge (v1) (7)
       (Routes_reachBy_52_40     M)
       (ob (Routes_reachOf_52 (x1) M) fun v3 => c_ne (v3) (1000000000)
       (ob (Routes_reachOf_52 (x1) M) fun v4 => rd M 56 7 (v1) fun v5 => some ((v4) + (v5)))
       (Routes_reachBy_52_40     M))))
theorem Routes_reachBy_52_40_t {L : Nat} {xs : Nat → Int} {d : Nat} (hd : 2 ≤ d)      (M : am_M) (r : Int) (h : Routes_reachBy_52_40     M = some r) : am_Ev L xs d me_139 40 [] [] 126 138 M (some (.inl r), 126, 138, M) := by
  refine ev_k (pc' := 42) (ls' := []) (st' := [.inl (1000000000)]) (nc' := 126) (np' := 138) (M' := M) 1 rfl ?_
  cases h
  exact ev_ret rfl
theorem Routes_reachBy_52_e {L : Nat} {xs : Nat → Int} {d : Nat} (hd : 2 ≤ d)   (x1 : Int) (M : am_M) (r : Int) (h : Routes_reachBy_52   x1 M = some r) : am_Ev L xs d me_139 0 (am_ar1 0 [.inr (.inr (some 52)), .inl (x1)]) [] 126 138 M (some (.inl r), 126, 138, M) := by
  refine ev_k (pc' := 5) (ls' := [(0, .inr (.inr (some 52))), (1, .inl (x1))]) (st' := [.inl (x1), .inr (.inr (some 1))]) (nc' := 126) (np' := 138) (M' := M) 3 rfl ?_
  obtain ⟨v1, hv, h⟩ := ob_i h
  refine ev_call (t := 56) (as := [.inr (.inr (some 1)), .inl (x1)]) (rest := []) rfl rfl rfl (by omega) (Country_kindAt_1_e (by omega) (x1) M _ hv) ?_
  refine ev_k (pc' := 14) (ls' := [(2, .inl (v1)), (0, .inr (.inr (some 52))), (1, .inl (x1))]) (st' := [.inl (x1), .inr (.inr (some 1))]) (nc' := 126) (np' := 138) (M' := M) 4 rfl ?_
  obtain ⟨v2, hv, h⟩ := ob_i h
  refine ev_call (t := 55) (as := [.inr (.inr (some 1)), .inl (x1)]) (rest := []) rfl rfl rfl (by omega) (Country_isBarred_1_e (by omega) (x1) M _ hv) ?_
  refine ev_k (pc' := 17) (ls' := [(2, .inl (v1)), (0, .inr (.inr (some 52))), (1, .inl (x1))]) (st' := [.inl (v2)]) (nc' := 126) (np' := 138) (M' := M) 0 rfl ?_
  obtain ⟨hR, ⟨hc, h⟩ | ⟨hc, h⟩⟩ := c_ne_i h
  · refine ev_ifc 40 rfl hR.1 (by decide) (fun _ => ?_) (fun q => absurd hc q)
    exact Routes_reachBy_52_40_t hd      M r h
  · refine ev_ifc 40 rfl hR.1 (by decide) (fun q => absurd q hc) (fun _ => ?_)
    refine ev_k (pc' := 21) (ls' := [(2, .inl (v1)), (0, .inr (.inr (some 52))), (1, .inl (x1))]) (st' := [.inl (v1)]) (nc' := 126) (np' := 138) (M' := M) 1 rfl ?_
    obtain ⟨hR, ⟨hc, h⟩ | ⟨hc, h⟩⟩ := c_lt_i h
    · refine ev_ifc 40 rfl hR.1 (by decide) (fun _ => ?_) (fun q => absurd hc q)
      exact Routes_reachBy_52_40_t hd      M r h
    · refine ev_ifc 40 rfl hR.1 (by decide) (fun q => absurd q hc) (fun _ => ?_)
      refine ev_k (pc' := 27) (ls' := [(2, .inl (v1)), (0, .inr (.inr (some 52))), (1, .inl (x1))]) (st' := [.inl (7), .inl (v1)]) (nc' := 126) (np' := 138) (M' := M) 2 rfl ?_
      obtain ⟨hR, ⟨hc, h⟩ | ⟨hc, h⟩⟩ := c_ge_i h
      · refine ev_icmp 40 rfl hR.1 hR.2 (by decide) (fun _ => ?_) (fun q => absurd hc q)
        exact Routes_reachBy_52_40_t hd      M r h
      · refine ev_icmp 40 rfl hR.1 hR.2 (by decide) (fun q => absurd q hc) (fun _ => ?_)
        refine ev_k (pc' := 32) (ls' := [(2, .inl (v1)), (0, .inr (.inr (some 52))), (1, .inl (x1))]) (st' := [.inl (x1), .inr (.inr (some 52))]) (nc' := 126) (np' := 138) (M' := M) 2 rfl ?_
        obtain ⟨v3, hv, h⟩ := ob_i h
        refine ev_call (t := 140) (as := [.inr (.inr (some 52)), .inl (x1)]) (rest := []) rfl rfl rfl (by omega) (Routes_reachOf_52_e (by omega) (x1) M _ hv) ?_
        refine ev_k (pc' := 37) (ls' := [(2, .inl (v1)), (0, .inr (.inr (some 52))), (1, .inl (x1))]) (st' := [.inl (1000000000), .inl (v3)]) (nc' := 126) (np' := 138) (M' := M) 1 rfl ?_
        obtain ⟨hR, ⟨hc, h⟩ | ⟨hc, h⟩⟩ := c_ne_i h
        · refine ev_icmp 43 rfl hR.1 hR.2 (by decide) (fun _ => ?_) (fun q => absurd hc q)
          refine ev_k (pc' := 45) (ls' := [(2, .inl (v1)), (0, .inr (.inr (some 52))), (1, .inl (x1))]) (st' := [.inl (x1), .inr (.inr (some 52))]) (nc' := 126) (np' := 138) (M' := M) 2 rfl ?_
          obtain ⟨v4, hv, h⟩ := ob_i h
          refine ev_call (t := 140) (as := [.inr (.inr (some 52)), .inl (x1)]) (rest := []) rfl rfl rfl (by omega) (Routes_reachOf_52_e (by omega) (x1) M _ hv) ?_
          refine ev_k (pc' := 53) (ls' := [(2, .inl (v1)), (0, .inr (.inr (some 52))), (1, .inl (x1))]) (st' := [.inl (v1), .inr (.inr (some 56)), .inl (v4)]) (nc' := 126) (np' := 138) (M' := M) 3 rfl ?_
          obtain ⟨hc, v5, ev, h⟩ := rd_i h
          refine ev_ald (k := 56) (t := 0) (Or.inl ⟨rfl, rfl⟩) rfl (by decide) (by decide) rfl hc ev ?_
          refine ev_k (pc' := 55) (ls' := [(2, .inl (v1)), (0, .inr (.inr (some 52))), (1, .inl (x1))]) (st' := [.inl ((v4) + (v5))]) (nc' := 126) (np' := 138) (M' := M) 1 rfl ?_
          cases h
          exact ev_ret rfl
        · refine ev_icmp 43 rfl hR.1 hR.2 (by decide) (fun q => absurd q hc) (fun _ => ?_)
          exact Routes_reachBy_52_40_t hd      M r h
def Routes_settle_52_74   (k23 : Int → Int → Int → am_M → Option (am_M)) (x1 : Int) (x2 : Int) (x3 : Int) (M : am_M) : Option (am_M) := (k23 (x1) (x2) ((x3) + (1)) M)
def Routes_settle_52_23    : Nat → Int → Int → Int → am_M → Option (am_M)
  | 0, _, _, _, _ => none
  | n + 1, x1, x2, x3, M => c_ge (x3) (4)
       (some (M))
       (ob (Country_neighbour (x1) (x3) M) fun v1 => ob (Country_isCell (v1) M) fun v2 => c_eq (v2) (0)
       (Routes_settle_52_74   (Routes_settle_52_23    n) (x1) (x2) (x3) M)
       (ob (Country_isBarred_1 (v1) M) fun v3 => c_ne (v3) (0)
       (Routes_settle_52_74   (Routes_settle_52_23    n) (x1) (x2) (x3) M)
       (rd M 53 144 (v1) fun v4 => c_ge (x2) (v4)
       (Routes_settle_52_74   (Routes_settle_52_23    n) (x1) (x2) (x3) M)
       (wa M 53 144 (v1) (x2) fun M5 => (Routes_settle_52_74   (Routes_settle_52_23    n) (x1) (x2) (x3) M5)))))
def Routes_settle_52    (x1 : Int) (M : am_M) : Option (am_M) := ob (Country_isCell (x1) M) fun v1 => c_ne (v1) (0)
       (wz M 54 144 (x1) (1) fun M2 => ob (Routes_reachBy_52 (x1) M2) fun v3 => (Routes_settle_52_23    am_big (x1) (v3) (0) M2))
       (some (M))
theorem Routes_settle_52_74_t {L : Nat} {xs : Nat → Int} {d : Nat} (hd : 3 ≤ d)   (k23 : Int → Int → Int → am_M → Option (am_M)) (hk23 : ∀ (x1 : Int) (x2 : Int) (x3 : Int) (M : am_M) (r : am_M), k23 x1 x2 x3 M = some r → am_Ev L xs d me_138 23 [(0, .inr (.inr (some 52))), (1, .inl (x1)), (2, .inl (x2)), (3, .inl (x3))] [] 126 138 M (none, 126, 138, r)) (x1 : Int) (x2 : Int) (x3 : Int) (M : am_M) (r : am_M) (h : Routes_settle_52_74   k23 x1 x2 x3 M = some r) : am_Ev L xs d me_138 74 [(0, .inr (.inr (some 52))), (1, .inl (x1)), (2, .inl (x2)), (3, .inl (x3))] [] 126 138 M (none, 126, 138, r) := by
  refine ev_k (pc' := 23) (ls' := [(0, .inr (.inr (some 52))), (1, .inl (x1)), (2, .inl (x2)), (3, .inl ((x3) + (1)))]) (st' := []) (nc' := 126) (np' := 138) (M' := M) 2 rfl ?_
  exact hk23 (x1) (x2) ((x3) + (1)) M r h
theorem Routes_settle_52_23_t {L : Nat} {xs : Nat → Int} {d : Nat} (hd : 3 ≤ d)     : ∀ (n : Nat) (x1 : Int) (x2 : Int) (x3 : Int) (M : am_M) (r : am_M), Routes_settle_52_23    n x1 x2 x3 M = some r → am_Ev L xs d me_138 23 [(0, .inr (.inr (some 52))), (1, .inl (x1)), (2, .inl (x2)), (3, .inl (x3))] [] 126 138 M (none, 126, 138, r)
  | 0, _, _, _, M, r, h => by cases h
  | n + 1, x1, x2, x3, M, r, h => by
    have ih := Routes_settle_52_23_t (L := L) (xs := xs) hd     n
    refine ev_k (pc' := 25) (ls' := [(0, .inr (.inr (some 52))), (1, .inl (x1)), (2, .inl (x2)), (3, .inl (x3))]) (st' := [.inl (4), .inl (x3)]) (nc' := 126) (np' := 138) (M' := M) 2 rfl ?_
    obtain ⟨hR, ⟨hc, h⟩ | ⟨hc, h⟩⟩ := c_ge_i h
    · refine ev_icmp 80 rfl hR.1 hR.2 (by decide) (fun _ => ?_) (fun q => absurd hc q)
      refine ev_k (pc' := 80) (ls' := [(0, .inr (.inr (some 52))), (1, .inl (x1)), (2, .inl (x2)), (3, .inl (x3))]) (st' := []) (nc' := 126) (np' := 138) (M' := M) 0 rfl ?_
      cases h
      exact ev_ret rfl
    · refine ev_icmp 80 rfl hR.1 hR.2 (by decide) (fun q => absurd q hc) (fun _ => ?_)
      refine ev_k (pc' := 30) (ls' := [(0, .inr (.inr (some 52))), (1, .inl (x1)), (2, .inl (x2)), (3, .inl (x3))]) (st' := [.inl (x3), .inl (x1)]) (nc' := 126) (np' := 138) (M' := M) 2 rfl ?_
      obtain ⟨v1, hv, h⟩ := ob_i h
      refine ev_call (t := 97) (as := [.inl (x1), .inl (x3)]) (rest := []) rfl rfl rfl (by omega) (Country_neighbour_e (by omega) (x1) (x3) M _ hv) ?_
      refine ev_k (pc' := 37) (ls' := [(4, .inl (v1)), (0, .inr (.inr (some 52))), (1, .inl (x1)), (2, .inl (x2)), (3, .inl (x3))]) (st' := [.inl (v1)]) (nc' := 126) (np' := 138) (M' := M) 2 rfl ?_
      obtain ⟨v2, hv, h⟩ := ob_i h
      refine ev_call (t := 9) (as := [.inl (v1)]) (rest := []) rfl rfl rfl (by omega) (Country_isCell_e (by omega) (v1) M _ hv) ?_
      refine ev_k (pc' := 40) (ls' := [(4, .inl (v1)), (0, .inr (.inr (some 52))), (1, .inl (x1)), (2, .inl (x2)), (3, .inl (x3))]) (st' := [.inl (v2)]) (nc' := 126) (np' := 138) (M' := M) 0 rfl ?_
      obtain ⟨hR, ⟨hc, h⟩ | ⟨hc, h⟩⟩ := c_eq_i h
      · refine ev_ifc 74 rfl hR.1 (by decide) (fun _ => ?_) (fun q => absurd hc q)
        exact Routes_settle_52_74_t hd   (Routes_settle_52_23    n) ih (x1) (x2) (x3) M r h
      · refine ev_ifc 74 rfl hR.1 (by decide) (fun q => absurd q hc) (fun _ => ?_)
        refine ev_k (pc' := 49) (ls' := [(4, .inl (v1)), (0, .inr (.inr (some 52))), (1, .inl (x1)), (2, .inl (x2)), (3, .inl (x3))]) (st' := [.inl (v1), .inr (.inr (some 1))]) (nc' := 126) (np' := 138) (M' := M) 3 rfl ?_
        obtain ⟨v3, hv, h⟩ := ob_i h
        refine ev_call (t := 55) (as := [.inr (.inr (some 1)), .inl (v1)]) (rest := []) rfl rfl rfl (by omega) (Country_isBarred_1_e (by omega) (v1) M _ hv) ?_
        refine ev_k (pc' := 52) (ls' := [(4, .inl (v1)), (0, .inr (.inr (some 52))), (1, .inl (x1)), (2, .inl (x2)), (3, .inl (x3))]) (st' := [.inl (v3)]) (nc' := 126) (np' := 138) (M' := M) 0 rfl ?_
        obtain ⟨hR, ⟨hc, h⟩ | ⟨hc, h⟩⟩ := c_ne_i h
        · refine ev_ifc 74 rfl hR.1 (by decide) (fun _ => ?_) (fun q => absurd hc q)
          exact Routes_settle_52_74_t hd   (Routes_settle_52_23    n) ih (x1) (x2) (x3) M r h
        · refine ev_ifc 74 rfl hR.1 (by decide) (fun q => absurd q hc) (fun _ => ?_)
          refine ev_k (pc' := 62) (ls' := [(4, .inl (v1)), (0, .inr (.inr (some 52))), (1, .inl (x1)), (2, .inl (x2)), (3, .inl (x3))]) (st' := [.inl (v1), .inr (.inr (some 53)), .inl (x2)]) (nc' := 126) (np' := 138) (M' := M) 4 rfl ?_
          obtain ⟨hc, v4, ev, h⟩ := rd_i h
          refine ev_ald (k := 53) (t := 0) (Or.inl ⟨rfl, rfl⟩) rfl (by decide) (by decide) rfl hc ev ?_
          refine ev_k (pc' := 63) (ls' := [(4, .inl (v1)), (0, .inr (.inr (some 52))), (1, .inl (x1)), (2, .inl (x2)), (3, .inl (x3))]) (st' := [.inl (v4), .inl (x2)]) (nc' := 126) (np' := 138) (M' := M) 0 rfl ?_
          obtain ⟨hR, ⟨hc, h⟩ | ⟨hc, h⟩⟩ := c_ge_i h
          · refine ev_icmp 74 rfl hR.1 hR.2 (by decide) (fun _ => ?_) (fun q => absurd hc q)
            exact Routes_settle_52_74_t hd   (Routes_settle_52_23    n) ih (x1) (x2) (x3) M r h
          · refine ev_icmp 74 rfl hR.1 hR.2 (by decide) (fun q => absurd q hc) (fun _ => ?_)
            refine ev_k (pc' := 73) (ls' := [(4, .inl (v1)), (0, .inr (.inr (some 52))), (1, .inl (x1)), (2, .inl (x2)), (3, .inl (x3))]) (st' := [.inl (x2), .inl (v1), .inr (.inr (some 53))]) (nc' := 126) (np' := 138) (M' := M) 4 rfl ?_
            obtain ⟨hc, M5, eM, h⟩ := wa_i h
            refine ev_iast (k := 53) rfl (by decide) rfl hc eM ?_
            exact Routes_settle_52_74_t hd   (Routes_settle_52_23    n) ih (x1) (x2) (x3) M5 r h
theorem Routes_settle_52_e {L : Nat} {xs : Nat → Int} {d : Nat} (hd : 3 ≤ d)   (x1 : Int) (M : am_M) (r : am_M) (h : Routes_settle_52   x1 M = some r) : am_Ev L xs d me_138 0 (am_ar1 0 [.inr (.inr (some 52)), .inl (x1)]) [] 126 138 M (none, 126, 138, r) := by
  refine ev_k (pc' := 1) (ls' := [(0, .inr (.inr (some 52))), (1, .inl (x1))]) (st' := [.inl (x1)]) (nc' := 126) (np' := 138) (M' := M) 1 rfl ?_
  obtain ⟨v1, hv, h⟩ := ob_i h
  refine ev_call (t := 9) (as := [.inl (x1)]) (rest := []) rfl rfl rfl (by omega) (Country_isCell_e (by omega) (x1) M _ hv) ?_
  refine ev_k (pc' := 4) (ls' := [(0, .inr (.inr (some 52))), (1, .inl (x1))]) (st' := [.inl (v1)]) (nc' := 126) (np' := 138) (M' := M) 0 rfl ?_
  obtain ⟨hR, ⟨hc, h⟩ | ⟨hc, h⟩⟩ := c_ne_i h
  · refine ev_ifc 8 rfl hR.1 (by decide) (fun _ => ?_) (fun q => absurd hc q)
    refine ev_k (pc' := 14) (ls' := [(0, .inr (.inr (some 52))), (1, .inl (x1))]) (st' := [.inl (1), .inl (x1), .inr (.inr (some 54))]) (nc' := 126) (np' := 138) (M' := M) 4 rfl ?_
    obtain ⟨⟨hc, hv⟩, M2, eM, h⟩ := wz_i h
    refine ev_zast (k := 54) rfl (by decide) rfl hc hv eM ?_
    refine ev_k (pc' := 17) (ls' := [(0, .inr (.inr (some 52))), (1, .inl (x1))]) (st' := [.inl (x1), .inr (.inr (some 52))]) (nc' := 126) (np' := 138) (M' := M2) 2 rfl ?_
    obtain ⟨v3, hv, h⟩ := ob_i h
    refine ev_call (t := 139) (as := [.inr (.inr (some 52)), .inl (x1)]) (rest := []) rfl rfl rfl (by omega) (Routes_reachBy_52_e (by omega) (x1) M2 _ hv) ?_
    refine ev_k (pc' := 23) (ls' := [(0, .inr (.inr (some 52))), (1, .inl (x1)), (2, .inl (v3)), (3, .inl (0))]) (st' := []) (nc' := 126) (np' := 138) (M' := M2) 3 rfl ?_
    exact Routes_settle_52_23_t hd     am_big (x1) (v3) (0) M2 r h
  · refine ev_ifc 8 rfl hR.1 (by decide) (fun q => absurd q hc) (fun _ => ?_)
    refine ev_k (pc' := 7) (ls' := [(0, .inr (.inr (some 52))), (1, .inl (x1))]) (st' := []) (nc' := 126) (np' := 138) (M' := M) 0 rfl ?_
    cases h
    exact ev_ret rfl
def Routes_measureTo_52_47    : Nat → Int → am_M → Option (am_M)
  | 0, _, _ => none
  | n + 1, x2, M => c_ge (x2) (144)
       (some (M))
       (ob (Routes_nearestOpen_52  M) fun v1 => c_ge (v1) (0)
       (ob (Routes_settle_52 (v1) M) fun M2 => (Routes_measureTo_52_47    n ((x2) + (1)) M2))
       (some (M)))
def Routes_measureTo_52_45     (M : am_M) : Option (am_M) := (Routes_measureTo_52_47    am_big (0) M)
def Routes_measureTo_52_11    : Nat → Int → Int → am_M → Option (am_M)
  | 0, _, _, _ => none
  | n + 1, x1, x2, M => c_ge (x2) (144)
       (ob (Country_isCell (x1) M) fun v1 => c_eq (v1) (0)
       (Routes_measureTo_52_45     M)
       (wa M 53 144 (x1) (0) fun M2 => (Routes_measureTo_52_45     M2)))
       (wz M 54 144 (x2) (0) fun M3 => (Routes_measureTo_52_11    n (x1) ((x2) + (1)) M3))
def Routes_measureTo_52    (x1 : Int) (M : am_M) : Option (am_M) := ob (J_fill_53 (1000000000) M) fun M1 => (Routes_measureTo_52_11    am_big (x1) (0) M1)
theorem Routes_measureTo_52_47_t {L : Nat} {xs : Nat → Int} {d : Nat} (hd : 4 ≤ d)     : ∀ (n : Nat) (x2 : Int) (M : am_M) (r : am_M), Routes_measureTo_52_47    n x2 M = some r → am_Ev L xs d me_136 47 [(0, .inr (.inr (some 52))), (2, .inl (x2))] [] 126 138 M (none, 126, 138, r)
  | 0, _, M, r, h => by cases h
  | n + 1, x2, M, r, h => by
    have ih := Routes_measureTo_52_47_t (L := L) (xs := xs) hd     n
    refine ev_k (pc' := 51) (ls' := [(0, .inr (.inr (some 52))), (2, .inl (x2))]) (st' := [.inl (144), .inl (x2)]) (nc' := 126) (np' := 138) (M' := M) 2 rfl ?_
    obtain ⟨hR, ⟨hc, h⟩ | ⟨hc, h⟩⟩ := c_ge_i h
    · refine ev_icmp 75 rfl hR.1 hR.2 (by decide) (fun _ => ?_) (fun q => absurd hc q)
      refine ev_k (pc' := 75) (ls' := [(0, .inr (.inr (some 52))), (2, .inl (x2))]) (st' := []) (nc' := 126) (np' := 138) (M' := M) 0 rfl ?_
      cases h
      exact ev_ret rfl
    · refine ev_icmp 75 rfl hR.1 hR.2 (by decide) (fun q => absurd q hc) (fun _ => ?_)
      refine ev_k (pc' := 55) (ls' := [(0, .inr (.inr (some 52))), (2, .inl (x2))]) (st' := [.inr (.inr (some 52))]) (nc' := 126) (np' := 138) (M' := M) 1 rfl ?_
      obtain ⟨v1, hv, h⟩ := ob_i h
      refine ev_call (t := 137) (as := [.inr (.inr (some 52))]) (rest := []) rfl rfl rfl (by omega) (Routes_nearestOpen_52_e (by omega)  M _ hv) ?_
      refine ev_k (pc' := 60) (ls' := [(3, .inl (v1)), (0, .inr (.inr (some 52))), (2, .inl (x2))]) (st' := [.inl (v1)]) (nc' := 126) (np' := 138) (M' := M) 2 rfl ?_
      obtain ⟨hR, ⟨hc, h⟩ | ⟨hc, h⟩⟩ := c_ge_i h
      · refine ev_ifc 64 rfl hR.1 (by decide) (fun _ => ?_) (fun q => absurd hc q)
        refine ev_k (pc' := 66) (ls' := [(3, .inl (v1)), (0, .inr (.inr (some 52))), (2, .inl (x2))]) (st' := [.inl (v1), .inr (.inr (some 52))]) (nc' := 126) (np' := 138) (M' := M) 2 rfl ?_
        obtain ⟨M2, hv, h⟩ := ob_i h
        refine ev_call (t := 138) (as := [.inr (.inr (some 52)), .inl (v1)]) (rest := []) rfl rfl rfl (by omega) (Routes_settle_52_e (by omega) (v1) M _ hv) ?_
        refine ev_k (pc' := 47) (ls' := [(0, .inr (.inr (some 52))), (2, .inl ((x2) + (1)))]) (st' := []) (nc' := 126) (np' := 138) (M' := M2) 2 rfl ?_
        exact ih ((x2) + (1)) M2 r h
      · refine ev_ifc 64 rfl hR.1 (by decide) (fun q => absurd q hc) (fun _ => ?_)
        refine ev_k (pc' := 63) (ls' := [(3, .inl (v1)), (0, .inr (.inr (some 52))), (2, .inl (x2))]) (st' := []) (nc' := 126) (np' := 138) (M' := M) 0 rfl ?_
        cases h
        exact ev_ret rfl
theorem Routes_measureTo_52_45_t {L : Nat} {xs : Nat → Int} {d : Nat} (hd : 4 ≤ d)      (M : am_M) (r : am_M) (h : Routes_measureTo_52_45     M = some r) : am_Ev L xs d me_136 45 [(0, .inr (.inr (some 52)))] [] 126 138 M (none, 126, 138, r) := by
  refine ev_k (pc' := 47) (ls' := [(0, .inr (.inr (some 52))), (2, .inl (0))]) (st' := []) (nc' := 126) (np' := 138) (M' := M) 2 rfl ?_
  exact Routes_measureTo_52_47_t hd     am_big (0) M r h
theorem Routes_measureTo_52_11_t {L : Nat} {xs : Nat → Int} {d : Nat} (hd : 4 ≤ d)     : ∀ (n : Nat) (x1 : Int) (x2 : Int) (M : am_M) (r : am_M), Routes_measureTo_52_11    n x1 x2 M = some r → am_Ev L xs d me_136 11 [(0, .inr (.inr (some 52))), (1, .inl (x1)), (2, .inl (x2))] [] 126 138 M (none, 126, 138, r)
  | 0, _, _, M, r, h => by cases h
  | n + 1, x1, x2, M, r, h => by
    have ih := Routes_measureTo_52_11_t (L := L) (xs := xs) hd     n
    refine ev_k (pc' := 15) (ls' := [(0, .inr (.inr (some 52))), (1, .inl (x1)), (2, .inl (x2))]) (st' := [.inl (144), .inl (x2)]) (nc' := 126) (np' := 138) (M' := M) 2 rfl ?_
    obtain ⟨hR, ⟨hc, h⟩ | ⟨hc, h⟩⟩ := c_ge_i h
    · refine ev_icmp 31 rfl hR.1 hR.2 (by decide) (fun _ => ?_) (fun q => absurd hc q)
      refine ev_k (pc' := 32) (ls' := [(0, .inr (.inr (some 52))), (1, .inl (x1)), (2, .inl (x2))]) (st' := [.inl (x1)]) (nc' := 126) (np' := 138) (M' := M) 1 rfl ?_
      obtain ⟨v1, hv, h⟩ := ob_i h
      refine ev_call (t := 9) (as := [.inl (x1)]) (rest := []) rfl rfl rfl (by omega) (Country_isCell_e (by omega) (x1) M _ hv) ?_
      refine ev_k (pc' := 35) (ls' := [(0, .inr (.inr (some 52))), (1, .inl (x1)), (2, .inl (x2))]) (st' := [.inl (v1)]) (nc' := 126) (np' := 138) (M' := M) 0 rfl ?_
      obtain ⟨hR, ⟨hc, h⟩ | ⟨hc, h⟩⟩ := c_eq_i h
      · refine ev_ifc 45 rfl hR.1 (by decide) (fun _ => ?_) (fun q => absurd hc q)
        exact Routes_measureTo_52_45_t hd      M r h
      · refine ev_ifc 45 rfl hR.1 (by decide) (fun q => absurd q hc) (fun _ => ?_)
        refine ev_k (pc' := 44) (ls' := [(0, .inr (.inr (some 52))), (1, .inl (x1)), (2, .inl (x2))]) (st' := [.inl (0), .inl (x1), .inr (.inr (some 53))]) (nc' := 126) (np' := 138) (M' := M) 4 rfl ?_
        obtain ⟨hc, M2, eM, h⟩ := wa_i h
        refine ev_iast (k := 53) rfl (by decide) rfl hc eM ?_
        exact Routes_measureTo_52_45_t hd      M2 r h
    · refine ev_icmp 31 rfl hR.1 hR.2 (by decide) (fun q => absurd q hc) (fun _ => ?_)
      refine ev_k (pc' := 24) (ls' := [(0, .inr (.inr (some 52))), (1, .inl (x1)), (2, .inl (x2))]) (st' := [.inl (0), .inl (x2), .inr (.inr (some 54))]) (nc' := 126) (np' := 138) (M' := M) 4 rfl ?_
      obtain ⟨⟨hc, hv⟩, M3, eM, h⟩ := wz_i h
      refine ev_zast (k := 54) rfl (by decide) rfl hc hv eM ?_
      refine ev_k (pc' := 11) (ls' := [(0, .inr (.inr (some 52))), (1, .inl (x1)), (2, .inl ((x2) + (1)))]) (st' := []) (nc' := 126) (np' := 138) (M' := M3) 2 rfl ?_
      exact ih (x1) ((x2) + (1)) M3 r h
theorem Routes_measureTo_52_e {L : Nat} {xs : Nat → Int} {d : Nat} (hd : 4 ≤ d)   (x1 : Int) (M : am_M) (r : am_M) (h : Routes_measureTo_52   x1 M = some r) : am_Ev L xs d me_136 0 (am_ar1 0 [.inr (.inr (some 52)), .inl (x1)]) [] 126 138 M (none, 126, 138, r) := by
  refine ev_k (pc' := 6) (ls' := [(0, .inr (.inr (some 52))), (1, .inl (x1))]) (st' := [.inl (1000000000), .inr (.inr (some 53))]) (nc' := 126) (np' := 138) (M' := M) 3 rfl ?_
  obtain ⟨M1, hv, h⟩ := ob_i h
  refine ev_call (t := 2) (as := [.inr (.inr (some 53)), .inl (1000000000)]) (rest := []) rfl rfl rfl (by omega) (J_fill_53_e (by omega) (1000000000) M _ hv) ?_
  refine ev_k (pc' := 11) (ls' := [(0, .inr (.inr (some 52))), (1, .inl (x1)), (2, .inl (0))]) (st' := []) (nc' := 126) (np' := 138) (M' := M1) 2 rfl ?_
  exact Routes_measureTo_52_11_t hd     am_big (x1) (0) M1 r h
def Routes_firstStep_52_2    : Nat → Int → Int → Int → am_M → Option (Int)
  | 0, _, _, _, _ => none
  | n + 1, x1, x2, x3, M => c_ge (x3) (4)
       (some (-2))
       (ob (Country_neighbour (x1) (x3) M) fun v1 => ob (Routes_reachBy_52 (v1) M) fun v2 => c_ne (v2) (x2)
       ((Routes_firstStep_52_2    n (x1) (x2) ((x3) + (1)) M))
       (some (x3)))
def Routes_firstStep_52    (x1 : Int) (x2 : Int) (M : am_M) : Option (Int) := (Routes_firstStep_52_2    am_big (x1) (x2) (0) M)
theorem Routes_firstStep_52_2_t {L : Nat} {xs : Nat → Int} {d : Nat} (hd : 3 ≤ d)     : ∀ (n : Nat) (x1 : Int) (x2 : Int) (x3 : Int) (M : am_M) (r : Int), Routes_firstStep_52_2    n x1 x2 x3 M = some r → am_Ev L xs d me_141 2 [(0, .inr (.inr (some 52))), (1, .inl (x1)), (2, .inl (x2)), (3, .inl (x3))] [] 126 138 M (some (.inl r), 126, 138, M)
  | 0, _, _, _, M, r, h => by cases h
  | n + 1, x1, x2, x3, M, r, h => by
    have ih := Routes_firstStep_52_2_t (L := L) (xs := xs) hd     n
    refine ev_k (pc' := 4) (ls' := [(0, .inr (.inr (some 52))), (1, .inl (x1)), (2, .inl (x2)), (3, .inl (x3))]) (st' := [.inl (4), .inl (x3)]) (nc' := 126) (np' := 138) (M' := M) 2 rfl ?_
    obtain ⟨hR, ⟨hc, h⟩ | ⟨hc, h⟩⟩ := c_ge_i h
    · refine ev_icmp 28 rfl hR.1 hR.2 (by decide) (fun _ => ?_) (fun q => absurd hc q)
      refine ev_k (pc' := 30) (ls' := [(0, .inr (.inr (some 52))), (1, .inl (x1)), (2, .inl (x2)), (3, .inl (x3))]) (st' := [.inl (-2)]) (nc' := 126) (np' := 138) (M' := M) 1 rfl ?_
      cases h
      exact ev_ret rfl
    · refine ev_icmp 28 rfl hR.1 hR.2 (by decide) (fun q => absurd q hc) (fun _ => ?_)
      refine ev_k (pc' := 10) (ls' := [(0, .inr (.inr (some 52))), (1, .inl (x1)), (2, .inl (x2)), (3, .inl (x3))]) (st' := [.inl (x3), .inl (x1), .inr (.inr (some 52))]) (nc' := 126) (np' := 138) (M' := M) 3 rfl ?_
      obtain ⟨v1, hv, h⟩ := ob_i h
      refine ev_call (t := 97) (as := [.inl (x1), .inl (x3)]) (rest := [.inr (.inr (some 52))]) rfl rfl rfl (by omega) (Country_neighbour_e (by omega) (x1) (x3) M _ hv) ?_
      refine ev_k (pc' := 13) (ls' := [(0, .inr (.inr (some 52))), (1, .inl (x1)), (2, .inl (x2)), (3, .inl (x3))]) (st' := [.inl (v1), .inr (.inr (some 52))]) (nc' := 126) (np' := 138) (M' := M) 0 rfl ?_
      obtain ⟨v2, hv, h⟩ := ob_i h
      refine ev_call (t := 139) (as := [.inr (.inr (some 52)), .inl (v1)]) (rest := []) rfl rfl rfl (by omega) (Routes_reachBy_52_e (by omega) (v1) M _ hv) ?_
      refine ev_k (pc' := 17) (ls' := [(0, .inr (.inr (some 52))), (1, .inl (x1)), (2, .inl (x2)), (3, .inl (x3))]) (st' := [.inl (x2), .inl (v2)]) (nc' := 126) (np' := 138) (M' := M) 1 rfl ?_
      obtain ⟨hR, ⟨hc, h⟩ | ⟨hc, h⟩⟩ := c_ne_i h
      · refine ev_icmp 22 rfl hR.1 hR.2 (by decide) (fun _ => ?_) (fun q => absurd hc q)
        refine ev_k (pc' := 2) (ls' := [(0, .inr (.inr (some 52))), (1, .inl (x1)), (2, .inl (x2)), (3, .inl ((x3) + (1)))]) (st' := []) (nc' := 126) (np' := 138) (M' := M) 2 rfl ?_
        exact ih (x1) (x2) ((x3) + (1)) M r h
      · refine ev_icmp 22 rfl hR.1 hR.2 (by decide) (fun q => absurd q hc) (fun _ => ?_)
        refine ev_k (pc' := 21) (ls' := [(0, .inr (.inr (some 52))), (1, .inl (x1)), (2, .inl (x2)), (3, .inl (x3))]) (st' := [.inl (x3)]) (nc' := 126) (np' := 138) (M' := M) 1 rfl ?_
        cases h
        exact ev_ret rfl
theorem Routes_firstStep_52_e {L : Nat} {xs : Nat → Int} {d : Nat} (hd : 3 ≤ d)   (x1 : Int) (x2 : Int) (M : am_M) (r : Int) (h : Routes_firstStep_52   x1 x2 M = some r) : am_Ev L xs d me_141 0 (am_ar1 0 [.inr (.inr (some 52)), .inl (x1), .inl (x2)]) [] 126 138 M (some (.inl r), 126, 138, M) := by
  refine ev_k (pc' := 2) (ls' := [(0, .inr (.inr (some 52))), (1, .inl (x1)), (2, .inl (x2)), (3, .inl (0))]) (st' := []) (nc' := 126) (np' := 138) (M' := M) 2 rfl ?_
  exact Routes_firstStep_52_2_t hd     am_big (x1) (x2) (0) M r h
