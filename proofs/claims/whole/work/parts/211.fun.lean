def R_opens_18     (M : am_M) : Option (am_M) := fw M 73 8 ((M 73 8) + (1)) fun M1 => ob (R_here  M1) fun v2 => ob (R_puts (v2) M1) fun M3 => some (M3)
def R_opens     (M : am_M) : Option (am_M) := c_ne (M 73 8) (6)
       (R_opens_18     M)
       (ob (R_wrongs (5) (M 73 3) M) fun M1 => (R_opens_18     M1))
theorem R_opens_18_t {L : Nat} {xs : Nat → Int} {d : Nat} (hd : 1 ≤ d)      (M : am_M) (r : am_M) (h : R_opens_18     M = some r) : am_Ev L xs d me_207 18 [(0, .inr (.inr (some 73)))] [] 126 138 M (none, 126, 138, r) := by
  refine ev_k (pc' := 28) (ls' := [(0, .inr (.inr (some 73)))]) (st' := []) (nc' := 126) (np' := 138) (M' := am_up M 73 8 ((M 73 8) + (1))) 6 rfl ?_
  obtain ⟨M1, eM, h⟩ := fw_i h
  rw [← eM]
  refine ev_k (pc' := 30) (ls' := [(0, .inr (.inr (some 73)))]) (st' := [.inr (.inr (some 73)), .inr (.inr (some 73))]) (nc' := 126) (np' := 138) (M' := M1) 2 rfl ?_
  obtain ⟨v2, hv, h⟩ := ob_i h
  refine ev_call (t := 197) (as := [.inr (.inr (some 73))]) (rest := [.inr (.inr (some 73))]) rfl rfl rfl (by omega) (R_here_e (by omega)  M1 _ hv) ?_
  refine ev_k (pc' := 33) (ls' := [(0, .inr (.inr (some 73)))]) (st' := [.inl (v2), .inr (.inr (some 73))]) (nc' := 126) (np' := 138) (M' := M1) 0 rfl ?_
  obtain ⟨M3, hv, h⟩ := ob_i h
  refine ev_call (t := 208) (as := [.inr (.inr (some 73)), .inl (v2)]) (rest := []) rfl rfl rfl (by omega) (R_puts_e (by omega) (v2) M1 _ hv) ?_
  refine ev_k (pc' := 36) (ls' := [(0, .inr (.inr (some 73)))]) (st' := []) (nc' := 126) (np' := 138) (M' := M3) 0 rfl ?_
  cases h
  exact ev_ret rfl
theorem R_opens_e {L : Nat} {xs : Nat → Int} {d : Nat} (hd : 1 ≤ d)    (M : am_M) (r : am_M) (h : R_opens    M = some r) : am_Ev L xs d me_207 0 (am_ar1 0 [.inr (.inr (some 73))]) [] 126 138 M (none, 126, 138, r) := by
  refine ev_k (pc' := 6) (ls' := [(0, .inr (.inr (some 73)))]) (st' := [.inl (6), .inl (M 73 8)]) (nc' := 126) (np' := 138) (M' := M) 3 rfl ?_
  obtain ⟨hR, ⟨hc, h⟩ | ⟨hc, h⟩⟩ := c_ne_i h
  · refine ev_icmp 18 rfl hR.1 hR.2 (by decide) (fun _ => ?_) (fun q => absurd hc q)
    exact R_opens_18_t hd      M r h
  · refine ev_icmp 18 rfl hR.1 hR.2 (by decide) (fun q => absurd q hc) (fun _ => ?_)
    refine ev_k (pc' := 15) (ls' := [(0, .inr (.inr (some 73)))]) (st' := [.inl (M 73 3), .inl (5), .inr (.inr (some 73))]) (nc' := 126) (np' := 138) (M' := M) 4 rfl ?_
    obtain ⟨M1, hv, h⟩ := ob_i h
    refine ev_call (t := 199) (as := [.inr (.inr (some 73)), .inl (5), .inl (M 73 3)]) (rest := []) rfl rfl rfl (by omega) (R_wrongs_e (by omega) (5) (M 73 3) M _ hv) ?_
    exact R_opens_18_t hd      M1 r h
def R_isValue_47    (s0 : Int) (M : am_M) : Option (Int) := ck ((s0) = 0 ∨ (s0) = 1) (some (s0))
def R_isValue_42     (M : am_M) : Option (Int) := (R_isValue_47    (1) M)
def R_isValue    (x0 : Int) (M : am_M) : Option (Int) := c_eq (x0) (107)
       (R_isValue_42     M)
       (c_eq (x0) (119)
       (R_isValue_42     M)
       (c_eq (x0) (97)
       (R_isValue_42     M)
       (c_eq (x0) (116)
       (R_isValue_42     M)
       (c_eq (x0) (113)
       (R_isValue_42     M)
       (c_eq (x0) (102)
       (R_isValue_42     M)
       (c_ne (x0) (121)
       ((R_isValue_47    (0) M))
       (R_isValue_42     M)))))))
theorem R_isValue_47_t {L : Nat} {xs : Nat → Int} {d : Nat} (hd : 0 ≤ d)     (s0 : Int) (M : am_M) (r : Int) (h : R_isValue_47    s0 M = some r) : am_Ev L xs d me_211 47 [] [.inl (s0)] 126 138 M (some (.inl r), 126, 138, M) := by
  refine ev_k (pc' := 47) (ls' := []) (st' := [.inl (s0)]) (nc' := 126) (np' := 138) (M' := M) 0 rfl ?_
  obtain ⟨hc, h⟩ := ck_i h
  cases h
  exact ev_retz rfl rfl hc
theorem R_isValue_42_t {L : Nat} {xs : Nat → Int} {d : Nat} (hd : 0 ≤ d)      (M : am_M) (r : Int) (h : R_isValue_42     M = some r) : am_Ev L xs d me_211 42 [] [] 126 138 M (some (.inl r), 126, 138, M) := by
  refine ev_k (pc' := 47) (ls' := []) (st' := [.inl (1)]) (nc' := 126) (np' := 138) (M' := M) 2 rfl ?_
  exact R_isValue_47_t hd     (1) M r h
theorem R_isValue_e {L : Nat} {xs : Nat → Int} {d : Nat} (hd : 0 ≤ d)   (x0 : Int) (M : am_M) (r : Int) (h : R_isValue   x0 M = some r) : am_Ev L xs d me_211 0 (am_ar1 0 [.inl (x0)]) [] 126 138 M (some (.inl r), 126, 138, M) := by
  refine ev_k (pc' := 3) (ls' := [(0, .inl (x0))]) (st' := [.inl (107), .inl (x0)]) (nc' := 126) (np' := 138) (M' := M) 2 rfl ?_
  obtain ⟨hR, ⟨hc, h⟩ | ⟨hc, h⟩⟩ := c_eq_i h
  · refine ev_icmp 42 rfl hR.1 hR.2 (by decide) (fun _ => ?_) (fun q => absurd hc q)
    exact R_isValue_42_t hd      M r h
  · refine ev_icmp 42 rfl hR.1 hR.2 (by decide) (fun q => absurd q hc) (fun _ => ?_)
    refine ev_k (pc' := 9) (ls' := [(0, .inl (x0))]) (st' := [.inl (119), .inl (x0)]) (nc' := 126) (np' := 138) (M' := M) 2 rfl ?_
    obtain ⟨hR, ⟨hc, h⟩ | ⟨hc, h⟩⟩ := c_eq_i h
    · refine ev_icmp 42 rfl hR.1 hR.2 (by decide) (fun _ => ?_) (fun q => absurd hc q)
      exact R_isValue_42_t hd      M r h
    · refine ev_icmp 42 rfl hR.1 hR.2 (by decide) (fun q => absurd q hc) (fun _ => ?_)
      refine ev_k (pc' := 15) (ls' := [(0, .inl (x0))]) (st' := [.inl (97), .inl (x0)]) (nc' := 126) (np' := 138) (M' := M) 2 rfl ?_
      obtain ⟨hR, ⟨hc, h⟩ | ⟨hc, h⟩⟩ := c_eq_i h
      · refine ev_icmp 42 rfl hR.1 hR.2 (by decide) (fun _ => ?_) (fun q => absurd hc q)
        exact R_isValue_42_t hd      M r h
      · refine ev_icmp 42 rfl hR.1 hR.2 (by decide) (fun q => absurd q hc) (fun _ => ?_)
        refine ev_k (pc' := 21) (ls' := [(0, .inl (x0))]) (st' := [.inl (116), .inl (x0)]) (nc' := 126) (np' := 138) (M' := M) 2 rfl ?_
        obtain ⟨hR, ⟨hc, h⟩ | ⟨hc, h⟩⟩ := c_eq_i h
        · refine ev_icmp 42 rfl hR.1 hR.2 (by decide) (fun _ => ?_) (fun q => absurd hc q)
          exact R_isValue_42_t hd      M r h
        · refine ev_icmp 42 rfl hR.1 hR.2 (by decide) (fun q => absurd q hc) (fun _ => ?_)
          refine ev_k (pc' := 27) (ls' := [(0, .inl (x0))]) (st' := [.inl (113), .inl (x0)]) (nc' := 126) (np' := 138) (M' := M) 2 rfl ?_
          obtain ⟨hR, ⟨hc, h⟩ | ⟨hc, h⟩⟩ := c_eq_i h
          · refine ev_icmp 42 rfl hR.1 hR.2 (by decide) (fun _ => ?_) (fun q => absurd hc q)
            exact R_isValue_42_t hd      M r h
          · refine ev_icmp 42 rfl hR.1 hR.2 (by decide) (fun q => absurd q hc) (fun _ => ?_)
            refine ev_k (pc' := 33) (ls' := [(0, .inl (x0))]) (st' := [.inl (102), .inl (x0)]) (nc' := 126) (np' := 138) (M' := M) 2 rfl ?_
            obtain ⟨hR, ⟨hc, h⟩ | ⟨hc, h⟩⟩ := c_eq_i h
            · refine ev_icmp 42 rfl hR.1 hR.2 (by decide) (fun _ => ?_) (fun q => absurd hc q)
              exact R_isValue_42_t hd      M r h
            · refine ev_icmp 42 rfl hR.1 hR.2 (by decide) (fun q => absurd q hc) (fun _ => ?_)
              refine ev_k (pc' := 39) (ls' := [(0, .inl (x0))]) (st' := [.inl (121), .inl (x0)]) (nc' := 126) (np' := 138) (M' := M) 2 rfl ?_
              obtain ⟨hR, ⟨hc, h⟩ | ⟨hc, h⟩⟩ := c_ne_i h
              · refine ev_icmp 46 rfl hR.1 hR.2 (by decide) (fun _ => ?_) (fun q => absurd hc q)
                refine ev_k (pc' := 47) (ls' := []) (st' := [.inl (0)]) (nc' := 126) (np' := 138) (M' := M) 1 rfl ?_
                exact R_isValue_47_t hd     (0) M r h
              · refine ev_icmp 46 rfl hR.1 hR.2 (by decide) (fun q => absurd q hc) (fun _ => ?_)
                exact R_isValue_42_t hd      M r h
def R_emit    (x1 : Int) (x2 : Int) (M : am_M) : Option (am_M) := ob (R_isGood  M) fun v1 => c_ne (v1) (0)
       (wa M 87 240 (M 73 7) (x1) fun M2 => wa M2 88 240 (M2 73 7) (x2) fun M3 => fw M3 73 7 ((M3 73 7) + (1)) fun M4 => some (M4))
       (some (M))
theorem R_emit_e {L : Nat} {xs : Nat → Int} {d : Nat} (hd : 1 ≤ d)   (x1 : Int) (x2 : Int) (M : am_M) (r : am_M) (h : R_emit   x1 x2 M = some r) : am_Ev L xs d me_210 0 (am_ar1 0 [.inr (.inr (some 73)), .inl (x1), .inl (x2)]) [] 126 138 M (none, 126, 138, r) := by
  refine ev_k (pc' := 1) (ls' := [(0, .inr (.inr (some 73))), (1, .inl (x1)), (2, .inl (x2))]) (st' := [.inr (.inr (some 73))]) (nc' := 126) (np' := 138) (M' := M) 1 rfl ?_
  obtain ⟨v1, hv, h⟩ := ob_i h
  refine ev_call (t := 195) (as := [.inr (.inr (some 73))]) (rest := []) rfl rfl rfl (by omega) (R_isGood_e (by omega)  M _ hv) ?_
  refine ev_k (pc' := 4) (ls' := [(0, .inr (.inr (some 73))), (1, .inl (x1)), (2, .inl (x2))]) (st' := [.inl (v1)]) (nc' := 126) (np' := 138) (M' := M) 0 rfl ?_
  obtain ⟨hR, ⟨hc, h⟩ | ⟨hc, h⟩⟩ := c_ne_i h
  · refine ev_ifc 8 rfl hR.1 (by decide) (fun _ => ?_) (fun q => absurd hc q)
    refine ev_k (pc' := 17) (ls' := [(0, .inr (.inr (some 73))), (1, .inl (x1)), (2, .inl (x2))]) (st' := [.inl (x1), .inl (M 73 7), .inr (.inr (some 87))]) (nc' := 126) (np' := 138) (M' := M) 5 rfl ?_
    obtain ⟨hc, M2, eM, h⟩ := wa_i h
    refine ev_iast (k := 87) rfl (by decide) rfl hc eM ?_
    refine ev_k (pc' := 27) (ls' := [(0, .inr (.inr (some 73))), (1, .inl (x1)), (2, .inl (x2))]) (st' := [.inl (x2), .inl (M2 73 7), .inr (.inr (some 88))]) (nc' := 126) (np' := 138) (M' := M2) 5 rfl ?_
    obtain ⟨hc, M3, eM, h⟩ := wa_i h
    refine ev_iast (k := 88) rfl (by decide) rfl hc eM ?_
    refine ev_k (pc' := 38) (ls' := [(0, .inr (.inr (some 73))), (1, .inl (x1)), (2, .inl (x2))]) (st' := []) (nc' := 126) (np' := 138) (M' := am_up M3 73 7 ((M3 73 7) + (1))) 6 rfl ?_
    obtain ⟨M4, eM, h⟩ := fw_i h
    rw [← eM]
    refine ev_k (pc' := 38) (ls' := [(0, .inr (.inr (some 73))), (1, .inl (x1)), (2, .inl (x2))]) (st' := []) (nc' := 126) (np' := 138) (M' := M4) 0 rfl ?_
    cases h
    exact ev_ret rfl
  · refine ev_ifc 8 rfl hR.1 (by decide) (fun q => absurd q hc) (fun _ => ?_)
    refine ev_k (pc' := 7) (ls' := [(0, .inr (.inr (some 73))), (1, .inl (x1)), (2, .inl (x2))]) (st' := []) (nc' := 126) (np' := 138) (M' := M) 0 rfl ?_
    cases h
    exact ev_ret rfl
def R_reads_40   (k7 : Int → Int → am_M → Option (Int × am_M)) (x1 : Int) (x2 : Int) (M : am_M) : Option (Int × am_M) := ob (R_here  M) fun v1 => fw M 73 3 ((M 73 3) + (1)) fun M2 => (k7 (x1) ((((10) * (x2)) + (v1)) - (48)) M2)
def R_reads_66    (x2 : Int) (M : am_M) : Option (Int × am_M) := some (x2, M)
def R_reads_7    : Nat → Int → Int → am_M → Option (Int × am_M)
  | 0, _, _, _ => none
  | n + 1, x1, x2, M => ob (R_isGood  M) fun v1 => c_eq (v1) (0)
       (R_reads_66    (x2) M)
       (ob (R_seesDigit  M) fun v2 => c_eq (v2) (0)
       (R_reads_66    (x2) M)
       (c_ne (M 73 3) ((x1) + (5))
       (R_reads_40   (R_reads_7    n) (x1) (x2) M)
       (ob (R_wrongs (2) (M 73 3) M) fun M3 => (R_reads_40   (R_reads_7    n) (x1) (x2) M3))))
def R_reads     (M : am_M) : Option (Int × am_M) := (R_reads_7    am_big (M 73 3) (0) M)
theorem R_reads_40_t {L : Nat} {xs : Nat → Int} {d : Nat} (hd : 2 ≤ d)   (k7 : Int → Int → am_M → Option (Int × am_M)) (hk7 : ∀ (x1 : Int) (x2 : Int) (M : am_M) (r : Int × am_M), k7 x1 x2 M = some r → am_Ev L xs d me_209 7 [(0, .inr (.inr (some 73))), (1, .inl (x1)), (2, .inl (x2))] [] 126 138 M (some (.inl r.1), 126, 138, r.2)) (x1 : Int) (x2 : Int) (M : am_M) (r : Int × am_M) (h : R_reads_40   k7 x1 x2 M = some r) : am_Ev L xs d me_209 40 [(0, .inr (.inr (some 73))), (1, .inl (x1)), (2, .inl (x2))] [] 126 138 M (some (.inl r.1), 126, 138, r.2) := by
  refine ev_k (pc' := 45) (ls' := [(0, .inr (.inr (some 73))), (1, .inl (x1)), (2, .inl (x2))]) (st' := [.inr (.inr (some 73)), .inl ((10) * (x2))]) (nc' := 126) (np' := 138) (M' := M) 4 rfl ?_
  obtain ⟨v1, hv, h⟩ := ob_i h
  refine ev_call (t := 197) (as := [.inr (.inr (some 73))]) (rest := [.inl ((10) * (x2))]) rfl rfl rfl (by omega) (R_here_e (by omega)  M _ hv) ?_
  refine ev_k (pc' := 63) (ls' := [(2, .inl ((((10) * (x2)) + (v1)) - (48))), (0, .inr (.inr (some 73))), (1, .inl (x1))]) (st' := []) (nc' := 126) (np' := 138) (M' := am_up M 73 3 ((M 73 3) + (1))) 10 rfl ?_
  obtain ⟨M2, eM, h⟩ := fw_i h
  rw [← eM]
  refine ev_k (pc' := 7) (ls' := [(0, .inr (.inr (some 73))), (1, .inl (x1)), (2, .inl ((((10) * (x2)) + (v1)) - (48)))]) (st' := []) (nc' := 126) (np' := 138) (M' := M2) 1 rfl ?_
  exact hk7 (x1) ((((10) * (x2)) + (v1)) - (48)) M2 r h
theorem R_reads_66_t {L : Nat} {xs : Nat → Int} {d : Nat} (hd : 2 ≤ d)     (x2 : Int) (M : am_M) (r : Int × am_M) (h : R_reads_66    x2 M = some r) : am_Ev L xs d me_209 66 [(2, .inl (x2))] [] 126 138 M (some (.inl r.1), 126, 138, r.2) := by
  refine ev_k (pc' := 67) (ls' := [(2, .inl (x2))]) (st' := [.inl (x2)]) (nc' := 126) (np' := 138) (M' := M) 1 rfl ?_
  cases h
  exact ev_ret rfl
theorem R_reads_7_t {L : Nat} {xs : Nat → Int} {d : Nat} (hd : 2 ≤ d)     : ∀ (n : Nat) (x1 : Int) (x2 : Int) (M : am_M) (r : Int × am_M), R_reads_7    n x1 x2 M = some r → am_Ev L xs d me_209 7 [(0, .inr (.inr (some 73))), (1, .inl (x1)), (2, .inl (x2))] [] 126 138 M (some (.inl r.1), 126, 138, r.2)
  | 0, _, _, M, r, h => by cases h
  | n + 1, x1, x2, M, r, h => by
    have ih := R_reads_7_t (L := L) (xs := xs) hd     n
    refine ev_k (pc' := 8) (ls' := [(0, .inr (.inr (some 73))), (1, .inl (x1)), (2, .inl (x2))]) (st' := [.inr (.inr (some 73))]) (nc' := 126) (np' := 138) (M' := M) 1 rfl ?_
    obtain ⟨v1, hv, h⟩ := ob_i h
    refine ev_call (t := 195) (as := [.inr (.inr (some 73))]) (rest := []) rfl rfl rfl (by omega) (R_isGood_e (by omega)  M _ hv) ?_
    refine ev_k (pc' := 11) (ls' := [(0, .inr (.inr (some 73))), (1, .inl (x1)), (2, .inl (x2))]) (st' := [.inl (v1)]) (nc' := 126) (np' := 138) (M' := M) 0 rfl ?_
    obtain ⟨hR, ⟨hc, h⟩ | ⟨hc, h⟩⟩ := c_eq_i h
    · refine ev_ifc 66 rfl hR.1 (by decide) (fun _ => ?_) (fun q => absurd hc q)
      exact R_reads_66_t hd     (x2) M r h
    · refine ev_ifc 66 rfl hR.1 (by decide) (fun q => absurd q hc) (fun _ => ?_)
      refine ev_k (pc' := 15) (ls' := [(0, .inr (.inr (some 73))), (1, .inl (x1)), (2, .inl (x2))]) (st' := [.inr (.inr (some 73))]) (nc' := 126) (np' := 138) (M' := M) 1 rfl ?_
      obtain ⟨v2, hv, h⟩ := ob_i h
      refine ev_call (t := 201) (as := [.inr (.inr (some 73))]) (rest := []) rfl rfl rfl (by omega) (R_seesDigit_e (by omega)  M _ hv) ?_
      refine ev_k (pc' := 18) (ls' := [(0, .inr (.inr (some 73))), (1, .inl (x1)), (2, .inl (x2))]) (st' := [.inl (v2)]) (nc' := 126) (np' := 138) (M' := M) 0 rfl ?_
      obtain ⟨hR, ⟨hc, h⟩ | ⟨hc, h⟩⟩ := c_eq_i h
      · refine ev_ifc 66 rfl hR.1 (by decide) (fun _ => ?_) (fun q => absurd hc q)
        exact R_reads_66_t hd     (x2) M r h
      · refine ev_ifc 66 rfl hR.1 (by decide) (fun q => absurd q hc) (fun _ => ?_)
        refine ev_k (pc' := 28) (ls' := [(0, .inr (.inr (some 73))), (1, .inl (x1)), (2, .inl (x2))]) (st' := [.inl ((x1) + (5)), .inl (M 73 3)]) (nc' := 126) (np' := 138) (M' := M) 5 rfl ?_
        obtain ⟨hR, ⟨hc, h⟩ | ⟨hc, h⟩⟩ := c_ne_i h
        · refine ev_icmp 40 rfl hR.1 hR.2 (by decide) (fun _ => ?_) (fun q => absurd hc q)
          exact R_reads_40_t hd   (R_reads_7    n) ih (x1) (x2) M r h
        · refine ev_icmp 40 rfl hR.1 hR.2 (by decide) (fun q => absurd q hc) (fun _ => ?_)
          refine ev_k (pc' := 37) (ls' := [(0, .inr (.inr (some 73))), (1, .inl (x1)), (2, .inl (x2))]) (st' := [.inl (M 73 3), .inl (2), .inr (.inr (some 73))]) (nc' := 126) (np' := 138) (M' := M) 4 rfl ?_
          obtain ⟨M3, hv, h⟩ := ob_i h
          refine ev_call (t := 199) (as := [.inr (.inr (some 73)), .inl (2), .inl (M 73 3)]) (rest := []) rfl rfl rfl (by omega) (R_wrongs_e (by omega) (2) (M 73 3) M _ hv) ?_
          exact R_reads_40_t hd   (R_reads_7    n) ih (x1) (x2) M3 r h
theorem R_reads_e {L : Nat} {xs : Nat → Int} {d : Nat} (hd : 2 ≤ d)    (M : am_M) (r : Int × am_M) (h : R_reads    M = some r) : am_Ev L xs d me_209 0 (am_ar1 0 [.inr (.inr (some 73))]) [] 126 138 M (some (.inl r.1), 126, 138, r.2) := by
  refine ev_k (pc' := 7) (ls' := [(0, .inr (.inr (some 73))), (1, .inl (M 73 3)), (2, .inl (0))]) (st' := []) (nc' := 126) (np' := 138) (M' := M) 5 rfl ?_
  exact R_reads_7_t hd     am_big (M 73 3) (0) M r h
def R_factor_91     (M : am_M) : Option (am_M) := some (M)
def R_factor_23     (M : am_M) : Option (am_M) := ob (R_isGood  M) fun v1 => c_ne (v1) (0)
       (ob (R_seesDigit  M) fun v2 => c_eq (v2) (0)
       (ob (R_here  M) fun v3 => ob (R_isValue (v3) M) fun v4 => c_eq (v4) (0)
       (ob (R_wrongs (1) (M 73 3) M) fun M5 => (R_factor_91     M5))
       (ob (R_here  M) fun v6 => ob (R_emit (1) (v6) M) fun M7 => fw M7 73 3 ((M7 73 3) + (1)) fun M8 => (R_factor_91     M8)))
       (oc (R_reads  M) fun v9 M10 => ob (R_emit (0) (v9) M10) fun M11 => (R_factor_91     M11)))
       (some (M))
def R_factor_0    : Nat → am_M → Option (am_M)
  | 0, _ => none
  | n + 1, M => ob (R_isGood  M) fun v1 => c_eq (v1) (0)
       (R_factor_23     M)
       (ob (R_here  M) fun v2 => c_ne (v2) (91)
       (R_factor_23     M)
       (ob (R_opens  M) fun M3 => (R_factor_0    n  M3)))
def R_factor     (M : am_M) : Option (am_M) := R_factor_0    am_big  M
theorem R_factor_91_t {L : Nat} {xs : Nat → Int} {d : Nat} (hd : 3 ≤ d)      (M : am_M) (r : am_M) (h : R_factor_91     M = some r) : am_Ev L xs d me_206 91 [] [] 126 138 M (none, 126, 138, r) := by
  refine ev_k (pc' := 91) (ls' := []) (st' := []) (nc' := 126) (np' := 138) (M' := M) 0 rfl ?_
  cases h
  exact ev_ret rfl
theorem R_factor_23_t {L : Nat} {xs : Nat → Int} {d : Nat} (hd : 3 ≤ d)      (M : am_M) (r : am_M) (h : R_factor_23     M = some r) : am_Ev L xs d me_206 23 [(0, .inr (.inr (some 73)))] [] 126 138 M (none, 126, 138, r) := by
  refine ev_k (pc' := 24) (ls' := [(0, .inr (.inr (some 73)))]) (st' := [.inr (.inr (some 73))]) (nc' := 126) (np' := 138) (M' := M) 1 rfl ?_
  obtain ⟨v1, hv, h⟩ := ob_i h
  refine ev_call (t := 195) (as := [.inr (.inr (some 73))]) (rest := []) rfl rfl rfl (by omega) (R_isGood_e (by omega)  M _ hv) ?_
  refine ev_k (pc' := 27) (ls' := [(0, .inr (.inr (some 73)))]) (st' := [.inl (v1)]) (nc' := 126) (np' := 138) (M' := M) 0 rfl ?_
  obtain ⟨hR, ⟨hc, h⟩ | ⟨hc, h⟩⟩ := c_ne_i h
  · refine ev_ifc 31 rfl hR.1 (by decide) (fun _ => ?_) (fun q => absurd hc q)
    refine ev_k (pc' := 32) (ls' := [(0, .inr (.inr (some 73)))]) (st' := [.inr (.inr (some 73))]) (nc' := 126) (np' := 138) (M' := M) 1 rfl ?_
    obtain ⟨v2, hv, h⟩ := ob_i h
    refine ev_call (t := 201) (as := [.inr (.inr (some 73))]) (rest := []) rfl rfl rfl (by omega) (R_seesDigit_e (by omega)  M _ hv) ?_
    refine ev_k (pc' := 35) (ls' := [(0, .inr (.inr (some 73)))]) (st' := [.inl (v2)]) (nc' := 126) (np' := 138) (M' := M) 0 rfl ?_
    obtain ⟨hR, ⟨hc, h⟩ | ⟨hc, h⟩⟩ := c_eq_i h
    · refine ev_ifc 50 rfl hR.1 (by decide) (fun _ => ?_) (fun q => absurd hc q)
      refine ev_k (pc' := 51) (ls' := [(0, .inr (.inr (some 73)))]) (st' := [.inr (.inr (some 73))]) (nc' := 126) (np' := 138) (M' := M) 1 rfl ?_
      obtain ⟨v3, hv, h⟩ := ob_i h
      refine ev_call (t := 197) (as := [.inr (.inr (some 73))]) (rest := []) rfl rfl rfl (by omega) (R_here_e (by omega)  M _ hv) ?_
      refine ev_k (pc' := 54) (ls' := [(0, .inr (.inr (some 73)))]) (st' := [.inl (v3)]) (nc' := 126) (np' := 138) (M' := M) 0 rfl ?_
      obtain ⟨v4, hv, h⟩ := ob_i h
      refine ev_call (t := 211) (as := [.inl (v3)]) (rest := []) rfl rfl rfl (by omega) (R_isValue_e (by omega) (v3) M _ hv) ?_
      refine ev_k (pc' := 57) (ls' := [(0, .inr (.inr (some 73)))]) (st' := [.inl (v4)]) (nc' := 126) (np' := 138) (M' := M) 0 rfl ?_
      obtain ⟨hR, ⟨hc, h⟩ | ⟨hc, h⟩⟩ := c_eq_i h
      · refine ev_ifc 82 rfl hR.1 (by decide) (fun _ => ?_) (fun q => absurd hc q)
        refine ev_k (pc' := 88) (ls' := [(0, .inr (.inr (some 73)))]) (st' := [.inl (M 73 3), .inl (1), .inr (.inr (some 73))]) (nc' := 126) (np' := 138) (M' := M) 4 rfl ?_
        obtain ⟨M5, hv, h⟩ := ob_i h
        refine ev_call (t := 199) (as := [.inr (.inr (some 73)), .inl (1), .inl (M 73 3)]) (rest := []) rfl rfl rfl (by omega) (R_wrongs_e (by omega) (1) (M 73 3) M _ hv) ?_
        exact R_factor_91_t hd      M5 r h
      · refine ev_ifc 82 rfl hR.1 (by decide) (fun q => absurd q hc) (fun _ => ?_)
        refine ev_k (pc' := 63) (ls' := [(0, .inr (.inr (some 73)))]) (st' := [.inr (.inr (some 73)), .inl (1), .inr (.inr (some 73))]) (nc' := 126) (np' := 138) (M' := M) 3 rfl ?_
        obtain ⟨v6, hv, h⟩ := ob_i h
        refine ev_call (t := 197) (as := [.inr (.inr (some 73))]) (rest := [.inl (1), .inr (.inr (some 73))]) rfl rfl rfl (by omega) (R_here_e (by omega)  M _ hv) ?_
        refine ev_k (pc' := 66) (ls' := [(0, .inr (.inr (some 73)))]) (st' := [.inl (v6), .inl (1), .inr (.inr (some 73))]) (nc' := 126) (np' := 138) (M' := M) 0 rfl ?_
        obtain ⟨M7, hv, h⟩ := ob_i h
        refine ev_call (t := 210) (as := [.inr (.inr (some 73)), .inl (1), .inl (v6)]) (rest := []) rfl rfl rfl (by omega) (R_emit_e (by omega) (1) (v6) M _ hv) ?_
        refine ev_k (pc' := 79) (ls' := [(0, .inr (.inr (some 73)))]) (st' := []) (nc' := 126) (np' := 138) (M' := am_up M7 73 3 ((M7 73 3) + (1))) 6 rfl ?_
        obtain ⟨M8, eM, h⟩ := fw_i h
        rw [← eM]
        refine ev_k (pc' := 91) (ls' := []) (st' := []) (nc' := 126) (np' := 138) (M' := M8) 1 rfl ?_
        exact R_factor_91_t hd      M8 r h
    · refine ev_ifc 50 rfl hR.1 (by decide) (fun q => absurd q hc) (fun _ => ?_)
      refine ev_k (pc' := 41) (ls' := [(0, .inr (.inr (some 73)))]) (st' := [.inr (.inr (some 73)), .inl (0), .inr (.inr (some 73))]) (nc' := 126) (np' := 138) (M' := M) 3 rfl ?_
      obtain ⟨v9, M10, hv, h⟩ := oc_i h
      refine ev_call (t := 209) (as := [.inr (.inr (some 73))]) (rest := [.inl (0), .inr (.inr (some 73))]) rfl rfl rfl (by omega) (R_reads_e (by omega)  M _ hv) ?_
      refine ev_k (pc' := 44) (ls' := [(0, .inr (.inr (some 73)))]) (st' := [.inl (v9), .inl (0), .inr (.inr (some 73))]) (nc' := 126) (np' := 138) (M' := M10) 0 rfl ?_
      obtain ⟨M11, hv, h⟩ := ob_i h
      refine ev_call (t := 210) (as := [.inr (.inr (some 73)), .inl (0), .inl (v9)]) (rest := []) rfl rfl rfl (by omega) (R_emit_e (by omega) (0) (v9) M10 _ hv) ?_
      refine ev_k (pc' := 91) (ls' := []) (st' := []) (nc' := 126) (np' := 138) (M' := M11) 1 rfl ?_
      exact R_factor_91_t hd      M11 r h
  · refine ev_ifc 31 rfl hR.1 (by decide) (fun q => absurd q hc) (fun _ => ?_)
    refine ev_k (pc' := 30) (ls' := [(0, .inr (.inr (some 73)))]) (st' := []) (nc' := 126) (np' := 138) (M' := M) 0 rfl ?_
    cases h
    exact ev_ret rfl
theorem R_factor_0_t {L : Nat} {xs : Nat → Int} {d : Nat} (hd : 3 ≤ d)     : ∀ (n : Nat)  (M : am_M) (r : am_M), R_factor_0    n  M = some r → am_Ev L xs d me_206 0 [(0, .inr (.inr (some 73)))] [] 126 138 M (none, 126, 138, r)
  | 0, M, r, h => by cases h
  | n + 1, M, r, h => by
    have ih := R_factor_0_t (L := L) (xs := xs) hd     n
    refine ev_k (pc' := 1) (ls' := [(0, .inr (.inr (some 73)))]) (st' := [.inr (.inr (some 73))]) (nc' := 126) (np' := 138) (M' := M) 1 rfl ?_
    obtain ⟨v1, hv, h⟩ := ob_i h
    refine ev_call (t := 195) (as := [.inr (.inr (some 73))]) (rest := []) rfl rfl rfl (by omega) (R_isGood_e (by omega)  M _ hv) ?_
    refine ev_k (pc' := 4) (ls' := [(0, .inr (.inr (some 73)))]) (st' := [.inl (v1)]) (nc' := 126) (np' := 138) (M' := M) 0 rfl ?_
    obtain ⟨hR, ⟨hc, h⟩ | ⟨hc, h⟩⟩ := c_eq_i h
    · refine ev_ifc 23 rfl hR.1 (by decide) (fun _ => ?_) (fun q => absurd hc q)
      exact R_factor_23_t hd      M r h
    · refine ev_ifc 23 rfl hR.1 (by decide) (fun q => absurd q hc) (fun _ => ?_)
      refine ev_k (pc' := 8) (ls' := [(0, .inr (.inr (some 73)))]) (st' := [.inr (.inr (some 73))]) (nc' := 126) (np' := 138) (M' := M) 1 rfl ?_
      obtain ⟨v2, hv, h⟩ := ob_i h
      refine ev_call (t := 197) (as := [.inr (.inr (some 73))]) (rest := []) rfl rfl rfl (by omega) (R_here_e (by omega)  M _ hv) ?_
      refine ev_k (pc' := 13) (ls' := [(0, .inr (.inr (some 73)))]) (st' := [.inl (91), .inl (v2)]) (nc' := 126) (np' := 138) (M' := M) 1 rfl ?_
      obtain ⟨hR, ⟨hc, h⟩ | ⟨hc, h⟩⟩ := c_ne_i h
      · refine ev_icmp 23 rfl hR.1 hR.2 (by decide) (fun _ => ?_) (fun q => absurd hc q)
        exact R_factor_23_t hd      M r h
      · refine ev_icmp 23 rfl hR.1 hR.2 (by decide) (fun q => absurd q hc) (fun _ => ?_)
        refine ev_k (pc' := 17) (ls' := [(0, .inr (.inr (some 73)))]) (st' := [.inr (.inr (some 73))]) (nc' := 126) (np' := 138) (M' := M) 1 rfl ?_
        obtain ⟨M3, hv, h⟩ := ob_i h
        refine ev_call (t := 207) (as := [.inr (.inr (some 73))]) (rest := []) rfl rfl rfl (by omega) (R_opens_e (by omega)  M _ hv) ?_
        refine ev_k (pc' := 0) (ls' := [(0, .inr (.inr (some 73)))]) (st' := []) (nc' := 126) (np' := 138) (M' := M3) 1 rfl ?_
        exact ih  M3 r h
theorem R_factor_e {L : Nat} {xs : Nat → Int} {d : Nat} (hd : 3 ≤ d)    (M : am_M) (r : am_M) (h : R_factor    M = some r) : am_Ev L xs d me_206 0 (am_ar1 0 [.inr (.inr (some 73))]) [] 126 138 M (none, 126, 138, r) := by
  exact R_factor_0_t hd     am_big  M r h
def R_isTimes_23    (s0 : Int) (M : am_M) : Option (Int) := ck ((s0) = 0 ∨ (s0) = 1) (some (s0))
def R_isTimes_18     (M : am_M) : Option (Int) := (R_isTimes_23    (1) M)
def R_isTimes    (x0 : Int) (M : am_M) : Option (Int) := c_eq (x0) (42)
       (R_isTimes_18     M)
       (c_eq (x0) (47)
       (R_isTimes_18     M)
       (c_ne (x0) (37)
       ((R_isTimes_23    (0) M))
       (R_isTimes_18     M)))
theorem R_isTimes_23_t {L : Nat} {xs : Nat → Int} {d : Nat} (hd : 0 ≤ d)     (s0 : Int) (M : am_M) (r : Int) (h : R_isTimes_23    s0 M = some r) : am_Ev L xs d me_213 23 [] [.inl (s0)] 126 138 M (some (.inl r), 126, 138, M) := by
  refine ev_k (pc' := 23) (ls' := []) (st' := [.inl (s0)]) (nc' := 126) (np' := 138) (M' := M) 0 rfl ?_
  obtain ⟨hc, h⟩ := ck_i h
  cases h
  exact ev_retz rfl rfl hc
theorem R_isTimes_18_t {L : Nat} {xs : Nat → Int} {d : Nat} (hd : 0 ≤ d)      (M : am_M) (r : Int) (h : R_isTimes_18     M = some r) : am_Ev L xs d me_213 18 [] [] 126 138 M (some (.inl r), 126, 138, M) := by
  refine ev_k (pc' := 23) (ls' := []) (st' := [.inl (1)]) (nc' := 126) (np' := 138) (M' := M) 2 rfl ?_
  exact R_isTimes_23_t hd     (1) M r h
theorem R_isTimes_e {L : Nat} {xs : Nat → Int} {d : Nat} (hd : 0 ≤ d)   (x0 : Int) (M : am_M) (r : Int) (h : R_isTimes   x0 M = some r) : am_Ev L xs d me_213 0 (am_ar1 0 [.inl (x0)]) [] 126 138 M (some (.inl r), 126, 138, M) := by
  refine ev_k (pc' := 3) (ls' := [(0, .inl (x0))]) (st' := [.inl (42), .inl (x0)]) (nc' := 126) (np' := 138) (M' := M) 2 rfl ?_
  obtain ⟨hR, ⟨hc, h⟩ | ⟨hc, h⟩⟩ := c_eq_i h
  · refine ev_icmp 18 rfl hR.1 hR.2 (by decide) (fun _ => ?_) (fun q => absurd hc q)
    exact R_isTimes_18_t hd      M r h
  · refine ev_icmp 18 rfl hR.1 hR.2 (by decide) (fun q => absurd q hc) (fun _ => ?_)
    refine ev_k (pc' := 9) (ls' := [(0, .inl (x0))]) (st' := [.inl (47), .inl (x0)]) (nc' := 126) (np' := 138) (M' := M) 2 rfl ?_
    obtain ⟨hR, ⟨hc, h⟩ | ⟨hc, h⟩⟩ := c_eq_i h
    · refine ev_icmp 18 rfl hR.1 hR.2 (by decide) (fun _ => ?_) (fun q => absurd hc q)
      exact R_isTimes_18_t hd      M r h
    · refine ev_icmp 18 rfl hR.1 hR.2 (by decide) (fun q => absurd q hc) (fun _ => ?_)
      refine ev_k (pc' := 15) (ls' := [(0, .inl (x0))]) (st' := [.inl (37), .inl (x0)]) (nc' := 126) (np' := 138) (M' := M) 2 rfl ?_
      obtain ⟨hR, ⟨hc, h⟩ | ⟨hc, h⟩⟩ := c_ne_i h
      · refine ev_icmp 22 rfl hR.1 hR.2 (by decide) (fun _ => ?_) (fun q => absurd hc q)
        refine ev_k (pc' := 23) (ls' := []) (st' := [.inl (0)]) (nc' := 126) (np' := 138) (M' := M) 1 rfl ?_
        exact R_isTimes_23_t hd     (0) M r h
      · refine ev_icmp 22 rfl hR.1 hR.2 (by decide) (fun q => absurd q hc) (fun _ => ?_)
        exact R_isTimes_18_t hd      M r h
def R_isPlus_17    (s0 : Int) (M : am_M) : Option (Int) := ck ((s0) = 0 ∨ (s0) = 1) (some (s0))
def R_isPlus_12     (M : am_M) : Option (Int) := (R_isPlus_17    (1) M)
def R_isPlus    (x0 : Int) (M : am_M) : Option (Int) := c_eq (x0) (43)
       (R_isPlus_12     M)
       (c_ne (x0) (45)
       ((R_isPlus_17    (0) M))
       (R_isPlus_12     M))
theorem R_isPlus_17_t {L : Nat} {xs : Nat → Int} {d : Nat} (hd : 0 ≤ d)     (s0 : Int) (M : am_M) (r : Int) (h : R_isPlus_17    s0 M = some r) : am_Ev L xs d me_214 17 [] [.inl (s0)] 126 138 M (some (.inl r), 126, 138, M) := by
  refine ev_k (pc' := 17) (ls' := []) (st' := [.inl (s0)]) (nc' := 126) (np' := 138) (M' := M) 0 rfl ?_
  obtain ⟨hc, h⟩ := ck_i h
  cases h
  exact ev_retz rfl rfl hc
theorem R_isPlus_12_t {L : Nat} {xs : Nat → Int} {d : Nat} (hd : 0 ≤ d)      (M : am_M) (r : Int) (h : R_isPlus_12     M = some r) : am_Ev L xs d me_214 12 [] [] 126 138 M (some (.inl r), 126, 138, M) := by
  refine ev_k (pc' := 17) (ls' := []) (st' := [.inl (1)]) (nc' := 126) (np' := 138) (M' := M) 2 rfl ?_
  exact R_isPlus_17_t hd     (1) M r h
theorem R_isPlus_e {L : Nat} {xs : Nat → Int} {d : Nat} (hd : 0 ≤ d)   (x0 : Int) (M : am_M) (r : Int) (h : R_isPlus   x0 M = some r) : am_Ev L xs d me_214 0 (am_ar1 0 [.inl (x0)]) [] 126 138 M (some (.inl r), 126, 138, M) := by
  refine ev_k (pc' := 3) (ls' := [(0, .inl (x0))]) (st' := [.inl (43), .inl (x0)]) (nc' := 126) (np' := 138) (M' := M) 2 rfl ?_
  obtain ⟨hR, ⟨hc, h⟩ | ⟨hc, h⟩⟩ := c_eq_i h
  · refine ev_icmp 12 rfl hR.1 hR.2 (by decide) (fun _ => ?_) (fun q => absurd hc q)
    exact R_isPlus_12_t hd      M r h
  · refine ev_icmp 12 rfl hR.1 hR.2 (by decide) (fun q => absurd q hc) (fun _ => ?_)
    refine ev_k (pc' := 9) (ls' := [(0, .inl (x0))]) (st' := [.inl (45), .inl (x0)]) (nc' := 126) (np' := 138) (M' := M) 2 rfl ?_
    obtain ⟨hR, ⟨hc, h⟩ | ⟨hc, h⟩⟩ := c_ne_i h
    · refine ev_icmp 16 rfl hR.1 hR.2 (by decide) (fun _ => ?_) (fun q => absurd hc q)
      refine ev_k (pc' := 17) (ls' := []) (st' := [.inl (0)]) (nc' := 126) (np' := 138) (M' := M) 1 rfl ?_
      exact R_isPlus_17_t hd     (0) M r h
    · refine ev_icmp 16 rfl hR.1 hR.2 (by decide) (fun q => absurd q hc) (fun _ => ?_)
      exact R_isPlus_12_t hd      M r h
def R_top_22    (s0 : Int) (M : am_M) : Option (Int) := some (s0)
def R_top     (M : am_M) : Option (Int) := c_le (M 73 9) (0)
       ((R_top_22    (0) M))
       (rd M 89 240 ((M 73 9) - (1)) fun v1 => (R_top_22    (v1) M))
theorem R_top_22_t {L : Nat} {xs : Nat → Int} {d : Nat} (hd : 0 ≤ d)     (s0 : Int) (M : am_M) (r : Int) (h : R_top_22    s0 M = some r) : am_Ev L xs d me_216 22 [] [.inl (s0)] 126 138 M (some (.inl r), 126, 138, M) := by
  refine ev_k (pc' := 22) (ls' := []) (st' := [.inl (s0)]) (nc' := 126) (np' := 138) (M' := M) 0 rfl ?_
  cases h
  exact ev_ret rfl
theorem R_top_e {L : Nat} {xs : Nat → Int} {d : Nat} (hd : 0 ≤ d)    (M : am_M) (r : Int) (h : R_top    M = some r) : am_Ev L xs d me_216 0 (am_ar1 0 [.inr (.inr (some 73))]) [] 126 138 M (some (.inl r), 126, 138, M) := by
  refine ev_k (pc' := 4) (ls' := [(0, .inr (.inr (some 73)))]) (st' := [.inl (M 73 9)]) (nc' := 126) (np' := 138) (M' := M) 2 rfl ?_
  obtain ⟨hR, ⟨hc, h⟩ | ⟨hc, h⟩⟩ := c_le_i h
  · refine ev_ifc 21 rfl hR.1 (by decide) (fun _ => ?_) (fun q => absurd hc q)
    refine ev_k (pc' := 22) (ls' := []) (st' := [.inl (0)]) (nc' := 126) (np' := 138) (M' := M) 1 rfl ?_
    exact R_top_22_t hd     (0) M r h
  · refine ev_ifc 21 rfl hR.1 (by decide) (fun q => absurd q hc) (fun _ => ?_)
    refine ev_k (pc' := 17) (ls' := [(0, .inr (.inr (some 73)))]) (st' := [.inl ((M 73 9) - (1)), .inr (.inr (some 89))]) (nc' := 126) (np' := 138) (M' := M) 6 rfl ?_
    obtain ⟨hc, v1, ev, h⟩ := rd_i h
    refine ev_ald (k := 89) (t := 0) (Or.inl ⟨rfl, rfl⟩) rfl (by decide) (by decide) rfl hc ev ?_
    refine ev_k (pc' := 22) (ls' := []) (st' := [.inl (v1)]) (nc' := 126) (np' := 138) (M' := M) 1 rfl ?_
    exact R_top_22_t hd     (v1) M r h
def R_sums_24   (k0 : Int → am_M → Option (am_M)) (x1 : Int) (M : am_M) : Option (am_M) := ob (R_top  M) fun v1 => ob (R_emit (v1) (0) M) fun M2 => fw M2 73 9 ((M2 73 9) - (1)) fun M3 => (k0 (x1) M3)
def R_sums_46     (M : am_M) : Option (am_M) := some (M)
def R_sums_0    : Nat → Int → am_M → Option (am_M)
  | 0, _, _ => none
  | n + 1, x1, M => ob (R_top  M) fun v1 => ob (R_isTimes (v1) M) fun v2 => c_ne (v2) (0)
       (R_sums_24   (R_sums_0    n) (x1) M)
       (c_eq (x1) (0)
       (R_sums_46     M)
       (ob (R_top  M) fun v3 => ob (R_isPlus (v3) M) fun v4 => c_eq (v4) (0)
       (R_sums_46     M)
       (R_sums_24   (R_sums_0    n) (x1) M)))
def R_sums    (x1 : Int) (M : am_M) : Option (am_M) := R_sums_0    am_big (x1) M
theorem R_sums_24_t {L : Nat} {xs : Nat → Int} {d : Nat} (hd : 2 ≤ d)   (k0 : Int → am_M → Option (am_M)) (hk0 : ∀ (x1 : Int) (M : am_M) (r : am_M), k0 x1 M = some r → am_Ev L xs d me_215 0 [(0, .inr (.inr (some 73))), (1, .inl (x1))] [] 126 138 M (none, 126, 138, r)) (x1 : Int) (M : am_M) (r : am_M) (h : R_sums_24   k0 x1 M = some r) : am_Ev L xs d me_215 24 [(0, .inr (.inr (some 73))), (1, .inl (x1))] [] 126 138 M (none, 126, 138, r) := by
  refine ev_k (pc' := 26) (ls' := [(0, .inr (.inr (some 73))), (1, .inl (x1))]) (st' := [.inr (.inr (some 73)), .inr (.inr (some 73))]) (nc' := 126) (np' := 138) (M' := M) 2 rfl ?_
  obtain ⟨v1, hv, h⟩ := ob_i h
  refine ev_call (t := 216) (as := [.inr (.inr (some 73))]) (rest := [.inr (.inr (some 73))]) rfl rfl rfl (by omega) (R_top_e (by omega)  M _ hv) ?_
  refine ev_k (pc' := 30) (ls' := [(0, .inr (.inr (some 73))), (1, .inl (x1))]) (st' := [.inl (0), .inl (v1), .inr (.inr (some 73))]) (nc' := 126) (np' := 138) (M' := M) 1 rfl ?_
  obtain ⟨M2, hv, h⟩ := ob_i h
  refine ev_call (t := 210) (as := [.inr (.inr (some 73)), .inl (v1), .inl (0)]) (rest := []) rfl rfl rfl (by omega) (R_emit_e (by omega) (v1) (0) M _ hv) ?_
  refine ev_k (pc' := 43) (ls' := [(0, .inr (.inr (some 73))), (1, .inl (x1))]) (st' := []) (nc' := 126) (np' := 138) (M' := am_up M2 73 9 ((M2 73 9) - (1))) 6 rfl ?_
  obtain ⟨M3, eM, h⟩ := fw_i h
  rw [← eM]
  refine ev_k (pc' := 0) (ls' := [(0, .inr (.inr (some 73))), (1, .inl (x1))]) (st' := []) (nc' := 126) (np' := 138) (M' := M3) 1 rfl ?_
  exact hk0 (x1) M3 r h
theorem R_sums_46_t {L : Nat} {xs : Nat → Int} {d : Nat} (hd : 2 ≤ d)      (M : am_M) (r : am_M) (h : R_sums_46     M = some r) : am_Ev L xs d me_215 46 [] [] 126 138 M (none, 126, 138, r) := by
  refine ev_k (pc' := 46) (ls' := []) (st' := []) (nc' := 126) (np' := 138) (M' := M) 0 rfl ?_
  cases h
  exact ev_ret rfl
theorem R_sums_0_t {L : Nat} {xs : Nat → Int} {d : Nat} (hd : 2 ≤ d)     : ∀ (n : Nat) (x1 : Int) (M : am_M) (r : am_M), R_sums_0    n x1 M = some r → am_Ev L xs d me_215 0 [(0, .inr (.inr (some 73))), (1, .inl (x1))] [] 126 138 M (none, 126, 138, r)
  | 0, _, M, r, h => by cases h
  | n + 1, x1, M, r, h => by
    have ih := R_sums_0_t (L := L) (xs := xs) hd     n
    refine ev_k (pc' := 1) (ls' := [(0, .inr (.inr (some 73))), (1, .inl (x1))]) (st' := [.inr (.inr (some 73))]) (nc' := 126) (np' := 138) (M' := M) 1 rfl ?_
    obtain ⟨v1, hv, h⟩ := ob_i h
    refine ev_call (t := 216) (as := [.inr (.inr (some 73))]) (rest := []) rfl rfl rfl (by omega) (R_top_e (by omega)  M _ hv) ?_
    refine ev_k (pc' := 4) (ls' := [(0, .inr (.inr (some 73))), (1, .inl (x1))]) (st' := [.inl (v1)]) (nc' := 126) (np' := 138) (M' := M) 0 rfl ?_
    obtain ⟨v2, hv, h⟩ := ob_i h
    refine ev_call (t := 213) (as := [.inl (v1)]) (rest := []) rfl rfl rfl (by omega) (R_isTimes_e (by omega) (v1) M _ hv) ?_
    refine ev_k (pc' := 7) (ls' := [(0, .inr (.inr (some 73))), (1, .inl (x1))]) (st' := [.inl (v2)]) (nc' := 126) (np' := 138) (M' := M) 0 rfl ?_
    obtain ⟨hR, ⟨hc, h⟩ | ⟨hc, h⟩⟩ := c_ne_i h
    · refine ev_ifc 24 rfl hR.1 (by decide) (fun _ => ?_) (fun q => absurd hc q)
      exact R_sums_24_t hd   (R_sums_0    n) ih (x1) M r h
    · refine ev_ifc 24 rfl hR.1 (by decide) (fun q => absurd q hc) (fun _ => ?_)
      refine ev_k (pc' := 11) (ls' := [(0, .inr (.inr (some 73))), (1, .inl (x1))]) (st' := [.inl (x1)]) (nc' := 126) (np' := 138) (M' := M) 1 rfl ?_
      obtain ⟨hR, ⟨hc, h⟩ | ⟨hc, h⟩⟩ := c_eq_i h
      · refine ev_ifc 46 rfl hR.1 (by decide) (fun _ => ?_) (fun q => absurd hc q)
        exact R_sums_46_t hd      M r h
      · refine ev_ifc 46 rfl hR.1 (by decide) (fun q => absurd q hc) (fun _ => ?_)
        refine ev_k (pc' := 15) (ls' := [(0, .inr (.inr (some 73))), (1, .inl (x1))]) (st' := [.inr (.inr (some 73))]) (nc' := 126) (np' := 138) (M' := M) 1 rfl ?_
        obtain ⟨v3, hv, h⟩ := ob_i h
        refine ev_call (t := 216) (as := [.inr (.inr (some 73))]) (rest := []) rfl rfl rfl (by omega) (R_top_e (by omega)  M _ hv) ?_
        refine ev_k (pc' := 18) (ls' := [(0, .inr (.inr (some 73))), (1, .inl (x1))]) (st' := [.inl (v3)]) (nc' := 126) (np' := 138) (M' := M) 0 rfl ?_
        obtain ⟨v4, hv, h⟩ := ob_i h
        refine ev_call (t := 214) (as := [.inl (v3)]) (rest := []) rfl rfl rfl (by omega) (R_isPlus_e (by omega) (v3) M _ hv) ?_
        refine ev_k (pc' := 21) (ls' := [(0, .inr (.inr (some 73))), (1, .inl (x1))]) (st' := [.inl (v4)]) (nc' := 126) (np' := 138) (M' := M) 0 rfl ?_
        obtain ⟨hR, ⟨hc, h⟩ | ⟨hc, h⟩⟩ := c_eq_i h
        · refine ev_ifc 46 rfl hR.1 (by decide) (fun _ => ?_) (fun q => absurd hc q)
          exact R_sums_46_t hd      M r h
        · refine ev_ifc 46 rfl hR.1 (by decide) (fun q => absurd q hc) (fun _ => ?_)
          exact R_sums_24_t hd   (R_sums_0    n) ih (x1) M r h
theorem R_sums_e {L : Nat} {xs : Nat → Int} {d : Nat} (hd : 2 ≤ d)   (x1 : Int) (M : am_M) (r : am_M) (h : R_sums   x1 M = some r) : am_Ev L xs d me_215 0 (am_ar1 0 [.inr (.inr (some 73)), .inl (x1)]) [] 126 138 M (none, 126, 138, r) := by
  exact R_sums_0_t hd     am_big (x1) M r h
def R_stays_19    (x1 : Int) (M : am_M) : Option (Int × am_M) := ob (R_isPlus (x1) M) fun v1 => ob (R_sums (v1) M) fun M2 => ob (R_puts (x1) M2) fun M3 => some (1, M3)
def R_stays     (M : am_M) : Option (Int × am_M) := ob (R_here  M) fun v1 => ob (R_isTimes (v1) M) fun v2 => c_ne (v2) (0)
       (R_stays_19    (v1) M)
       (ob (R_isPlus (v1) M) fun v3 => c_eq (v3) (0)
       (ob (R_sums (1) M) fun M4 => c_eq (v1) (93)
       (ob (R_top  M4) fun v5 => c_eq (v5) (91)
       (fw M4 73 9 ((M4 73 9) - (1)) fun M6 => fw M6 73 8 ((M6 73 8) - (1)) fun M7 => fw M7 73 3 ((M7 73 3) + (1)) fun M8 => fz M8 73 27 (1) fun M9 => some (1, M9))
       (ob (R_wrongs (1) (M4 73 3) M4) fun M10 => some (0, M10)))
       (some (0, M4)))
       (R_stays_19    (v1) M))
theorem R_stays_19_t {L : Nat} {xs : Nat → Int} {d : Nat} (hd : 3 ≤ d)     (x1 : Int) (M : am_M) (r : Int × am_M) (h : R_stays_19    x1 M = some r) : am_Ev L xs d me_212 19 [(0, .inr (.inr (some 73))), (1, .inl (x1))] [] 126 138 M (some (.inl r.1), 126, 138, r.2) := by
  refine ev_k (pc' := 21) (ls' := [(0, .inr (.inr (some 73))), (1, .inl (x1))]) (st' := [.inl (x1), .inr (.inr (some 73))]) (nc' := 126) (np' := 138) (M' := M) 2 rfl ?_
  obtain ⟨v1, hv, h⟩ := ob_i h
  refine ev_call (t := 214) (as := [.inl (x1)]) (rest := [.inr (.inr (some 73))]) rfl rfl rfl (by omega) (R_isPlus_e (by omega) (x1) M _ hv) ?_
  refine ev_k (pc' := 24) (ls' := [(0, .inr (.inr (some 73))), (1, .inl (x1))]) (st' := [.inl (v1), .inr (.inr (some 73))]) (nc' := 126) (np' := 138) (M' := M) 0 rfl ?_
  obtain ⟨M2, hv, h⟩ := ob_i h
  refine ev_call (t := 215) (as := [.inr (.inr (some 73)), .inl (v1)]) (rest := []) rfl rfl rfl (by omega) (R_sums_e (by omega) (v1) M _ hv) ?_
  refine ev_k (pc' := 29) (ls' := [(0, .inr (.inr (some 73))), (1, .inl (x1))]) (st' := [.inl (x1), .inr (.inr (some 73))]) (nc' := 126) (np' := 138) (M' := M2) 2 rfl ?_
  obtain ⟨M3, hv, h⟩ := ob_i h
  refine ev_call (t := 208) (as := [.inr (.inr (some 73)), .inl (x1)]) (rest := []) rfl rfl rfl (by omega) (R_puts_e (by omega) (x1) M2 _ hv) ?_
  refine ev_k (pc' := 33) (ls' := [(0, .inr (.inr (some 73))), (1, .inl (x1))]) (st' := [.inl (1)]) (nc' := 126) (np' := 138) (M' := M3) 1 rfl ?_
  cases h
  exact ev_ret rfl
theorem R_stays_e {L : Nat} {xs : Nat → Int} {d : Nat} (hd : 3 ≤ d)    (M : am_M) (r : Int × am_M) (h : R_stays    M = some r) : am_Ev L xs d me_212 0 (am_ar1 0 [.inr (.inr (some 73))]) [] 126 138 M (some (.inl r.1), 126, 138, r.2) := by
  refine ev_k (pc' := 1) (ls' := [(0, .inr (.inr (some 73)))]) (st' := [.inr (.inr (some 73))]) (nc' := 126) (np' := 138) (M' := M) 1 rfl ?_
  obtain ⟨v1, hv, h⟩ := ob_i h
  refine ev_call (t := 197) (as := [.inr (.inr (some 73))]) (rest := []) rfl rfl rfl (by omega) (R_here_e (by omega)  M _ hv) ?_
  refine ev_k (pc' := 6) (ls' := [(1, .inl (v1)), (0, .inr (.inr (some 73)))]) (st' := [.inl (v1)]) (nc' := 126) (np' := 138) (M' := M) 2 rfl ?_
  obtain ⟨v2, hv, h⟩ := ob_i h
  refine ev_call (t := 213) (as := [.inl (v1)]) (rest := []) rfl rfl rfl (by omega) (R_isTimes_e (by omega) (v1) M _ hv) ?_
  refine ev_k (pc' := 9) (ls' := [(1, .inl (v1)), (0, .inr (.inr (some 73)))]) (st' := [.inl (v2)]) (nc' := 126) (np' := 138) (M' := M) 0 rfl ?_
  obtain ⟨hR, ⟨hc, h⟩ | ⟨hc, h⟩⟩ := c_ne_i h
  · refine ev_ifc 19 rfl hR.1 (by decide) (fun _ => ?_) (fun q => absurd hc q)
    exact R_stays_19_t hd     (v1) M r h
  · refine ev_ifc 19 rfl hR.1 (by decide) (fun q => absurd q hc) (fun _ => ?_)
    refine ev_k (pc' := 13) (ls' := [(1, .inl (v1)), (0, .inr (.inr (some 73)))]) (st' := [.inl (v1)]) (nc' := 126) (np' := 138) (M' := M) 1 rfl ?_
    obtain ⟨v3, hv, h⟩ := ob_i h
    refine ev_call (t := 214) (as := [.inl (v1)]) (rest := []) rfl rfl rfl (by omega) (R_isPlus_e (by omega) (v1) M _ hv) ?_
    refine ev_k (pc' := 16) (ls' := [(1, .inl (v1)), (0, .inr (.inr (some 73)))]) (st' := [.inl (v3)]) (nc' := 126) (np' := 138) (M' := M) 0 rfl ?_
    obtain ⟨hR, ⟨hc, h⟩ | ⟨hc, h⟩⟩ := c_eq_i h
    · refine ev_ifc 34 rfl hR.1 (by decide) (fun _ => ?_) (fun q => absurd hc q)
      refine ev_k (pc' := 36) (ls' := [(1, .inl (v1)), (0, .inr (.inr (some 73)))]) (st' := [.inl (1), .inr (.inr (some 73))]) (nc' := 126) (np' := 138) (M' := M) 2 rfl ?_
      obtain ⟨M4, hv, h⟩ := ob_i h
      refine ev_call (t := 215) (as := [.inr (.inr (some 73)), .inl (1)]) (rest := []) rfl rfl rfl (by omega) (R_sums_e (by omega) (1) M _ hv) ?_
      refine ev_k (pc' := 42) (ls' := [(1, .inl (v1)), (0, .inr (.inr (some 73)))]) (st' := [.inl (93), .inl (v1)]) (nc' := 126) (np' := 138) (M' := M4) 2 rfl ?_
      obtain ⟨hR, ⟨hc, h⟩ | ⟨hc, h⟩⟩ := c_eq_i h
      · refine ev_icmp 47 rfl hR.1 hR.2 (by decide) (fun _ => ?_) (fun q => absurd hc q)
        refine ev_k (pc' := 48) (ls' := [(1, .inl (v1)), (0, .inr (.inr (some 73)))]) (st' := [.inr (.inr (some 73))]) (nc' := 126) (np' := 138) (M' := M4) 1 rfl ?_
        obtain ⟨v5, hv, h⟩ := ob_i h
        refine ev_call (t := 216) (as := [.inr (.inr (some 73))]) (rest := []) rfl rfl rfl (by omega) (R_top_e (by omega)  M4 _ hv) ?_
        refine ev_k (pc' := 53) (ls' := [(1, .inl (v1)), (0, .inr (.inr (some 73)))]) (st' := [.inl (91), .inl (v5)]) (nc' := 126) (np' := 138) (M' := M4) 1 rfl ?_
        obtain ⟨hR, ⟨hc, h⟩ | ⟨hc, h⟩⟩ := c_eq_i h
        · refine ev_icmp 67 rfl hR.1 hR.2 (by decide) (fun _ => ?_) (fun q => absurd hc q)
          refine ev_k (pc' := 77) (ls' := [(1, .inl (v1)), (0, .inr (.inr (some 73)))]) (st' := []) (nc' := 126) (np' := 138) (M' := am_up M4 73 9 ((M4 73 9) - (1))) 6 rfl ?_
          obtain ⟨M6, eM, h⟩ := fw_i h
          rw [← eM]
          refine ev_k (pc' := 87) (ls' := [(1, .inl (v1)), (0, .inr (.inr (some 73)))]) (st' := []) (nc' := 126) (np' := 138) (M' := am_up M6 73 8 ((M6 73 8) - (1))) 6 rfl ?_
          obtain ⟨M7, eM, h⟩ := fw_i h
          rw [← eM]
          refine ev_k (pc' := 97) (ls' := [(1, .inl (v1)), (0, .inr (.inr (some 73)))]) (st' := []) (nc' := 126) (np' := 138) (M' := am_up M7 73 3 ((M7 73 3) + (1))) 6 rfl ?_
          obtain ⟨M8, eM, h⟩ := fw_i h
          rw [← eM]
          refine ev_k (pc' := 99) (ls' := [(1, .inl (v1)), (0, .inr (.inr (some 73)))]) (st' := [.inl (1), .inr (.inr (some 73))]) (nc' := 126) (np' := 138) (M' := M8) 2 rfl ?_
          obtain ⟨hc, M9, eM, h⟩ := fz_i h
          refine ev_putz (k := 73) (j := 27) rfl rfl (by decide) rfl rfl hc eM ?_
          refine ev_k (pc' := 103) (ls' := [(1, .inl (v1)), (0, .inr (.inr (some 73)))]) (st' := [.inl (1)]) (nc' := 126) (np' := 138) (M' := M9) 1 rfl ?_
          cases h
          exact ev_ret rfl
        · refine ev_icmp 67 rfl hR.1 hR.2 (by decide) (fun q => absurd q hc) (fun _ => ?_)
          refine ev_k (pc' := 62) (ls' := [(1, .inl (v1)), (0, .inr (.inr (some 73)))]) (st' := [.inl (M4 73 3), .inl (1), .inr (.inr (some 73))]) (nc' := 126) (np' := 138) (M' := M4) 4 rfl ?_
          obtain ⟨M10, hv, h⟩ := ob_i h
          refine ev_call (t := 199) (as := [.inr (.inr (some 73)), .inl (1), .inl (M4 73 3)]) (rest := []) rfl rfl rfl (by omega) (R_wrongs_e (by omega) (1) (M4 73 3) M4 _ hv) ?_
          refine ev_k (pc' := 66) (ls' := [(1, .inl (v1)), (0, .inr (.inr (some 73)))]) (st' := [.inl (0)]) (nc' := 126) (np' := 138) (M' := M10) 1 rfl ?_
          cases h
          exact ev_ret rfl
      · refine ev_icmp 47 rfl hR.1 hR.2 (by decide) (fun q => absurd q hc) (fun _ => ?_)
        refine ev_k (pc' := 46) (ls' := [(1, .inl (v1)), (0, .inr (.inr (some 73)))]) (st' := [.inl (0)]) (nc' := 126) (np' := 138) (M' := M4) 1 rfl ?_
        cases h
        exact ev_ret rfl
    · refine ev_ifc 34 rfl hR.1 (by decide) (fun q => absurd q hc) (fun _ => ?_)
      exact R_stays_19_t hd     (v1) M r h
def R_value_82     (M : am_M) : Option (am_M) := some (M)
def R_value_57     (M : am_M) : Option (am_M) := ob (R_isGood  M) fun v1 => c_eq (v1) (0)
       (R_value_82     M)
       (ob (R_top  M) fun v2 => c_ne (v2) (91)
       (R_value_82     M)
       (ob (R_wrongs (1) (M 73 3) M) fun M3 => (R_value_82     M3)))
def R_value_53   (k7 : Int → am_M → Option (am_M)) (s0 : Int) (M : am_M) : Option (am_M) := (k7 (s0) M)
def R_value_52   (k7 : Int → am_M → Option (am_M))  (M : am_M) : Option (am_M) := (R_value_53   k7 (0) M)
def R_value_29   (k7 : Int → am_M → Option (am_M))  (M : am_M) : Option (am_M) := fz M 73 27 (0) fun M1 => ob (R_isGood  M1) fun v2 => c_eq (v2) (0)
       (R_value_52   k7  M1)
       (oc (R_stays  M1) fun v3 M4 => c_eq (v3) (0)
       (R_value_52   k7  M4)
       ((R_value_53   k7 (1) M4)))
def R_value_7    : Nat → Int → am_M → Option (am_M)
  | 0, _, _ => none
  | n + 1, x1, M => c_eq (x1) (0)
       (R_value_57     M)
       (ob (R_isGood  M) fun v1 => c_eq (v1) (0)
       (R_value_57     M)
       (c_ne (M 73 27) (0)
       (R_value_29   (R_value_7    n)  M)
       (ob (R_factor  M) fun M2 => (R_value_29   (R_value_7    n)  M2))))
def R_value     (M : am_M) : Option (am_M) := fz M 73 27 (0) fun M1 => (R_value_7    am_big (1) M1)
theorem R_value_82_t {L : Nat} {xs : Nat → Int} {d : Nat} (hd : 4 ≤ d)      (M : am_M) (r : am_M) (h : R_value_82     M = some r) : am_Ev L xs d me_205 82 [] [] 126 138 M (none, 126, 138, r) := by
  refine ev_k (pc' := 82) (ls' := []) (st' := []) (nc' := 126) (np' := 138) (M' := M) 0 rfl ?_
  cases h
  exact ev_ret rfl
theorem R_value_57_t {L : Nat} {xs : Nat → Int} {d : Nat} (hd : 4 ≤ d)      (M : am_M) (r : am_M) (h : R_value_57     M = some r) : am_Ev L xs d me_205 57 [(0, .inr (.inr (some 73)))] [] 126 138 M (none, 126, 138, r) := by
  refine ev_k (pc' := 58) (ls' := [(0, .inr (.inr (some 73)))]) (st' := [.inr (.inr (some 73))]) (nc' := 126) (np' := 138) (M' := M) 1 rfl ?_
  obtain ⟨v1, hv, h⟩ := ob_i h
  refine ev_call (t := 195) (as := [.inr (.inr (some 73))]) (rest := []) rfl rfl rfl (by omega) (R_isGood_e (by omega)  M _ hv) ?_
  refine ev_k (pc' := 61) (ls' := [(0, .inr (.inr (some 73)))]) (st' := [.inl (v1)]) (nc' := 126) (np' := 138) (M' := M) 0 rfl ?_
  obtain ⟨hR, ⟨hc, h⟩ | ⟨hc, h⟩⟩ := c_eq_i h
  · refine ev_ifc 82 rfl hR.1 (by decide) (fun _ => ?_) (fun q => absurd hc q)
    exact R_value_82_t hd      M r h
  · refine ev_ifc 82 rfl hR.1 (by decide) (fun q => absurd q hc) (fun _ => ?_)
    refine ev_k (pc' := 65) (ls' := [(0, .inr (.inr (some 73)))]) (st' := [.inr (.inr (some 73))]) (nc' := 126) (np' := 138) (M' := M) 1 rfl ?_
    obtain ⟨v2, hv, h⟩ := ob_i h
    refine ev_call (t := 216) (as := [.inr (.inr (some 73))]) (rest := []) rfl rfl rfl (by omega) (R_top_e (by omega)  M _ hv) ?_
    refine ev_k (pc' := 70) (ls' := [(0, .inr (.inr (some 73)))]) (st' := [.inl (91), .inl (v2)]) (nc' := 126) (np' := 138) (M' := M) 1 rfl ?_
    obtain ⟨hR, ⟨hc, h⟩ | ⟨hc, h⟩⟩ := c_ne_i h
    · refine ev_icmp 82 rfl hR.1 hR.2 (by decide) (fun _ => ?_) (fun q => absurd hc q)
      exact R_value_82_t hd      M r h
    · refine ev_icmp 82 rfl hR.1 hR.2 (by decide) (fun q => absurd q hc) (fun _ => ?_)
      refine ev_k (pc' := 79) (ls' := [(0, .inr (.inr (some 73)))]) (st' := [.inl (M 73 3), .inl (1), .inr (.inr (some 73))]) (nc' := 126) (np' := 138) (M' := M) 4 rfl ?_
      obtain ⟨M3, hv, h⟩ := ob_i h
      refine ev_call (t := 199) (as := [.inr (.inr (some 73)), .inl (1), .inl (M 73 3)]) (rest := []) rfl rfl rfl (by omega) (R_wrongs_e (by omega) (1) (M 73 3) M _ hv) ?_
      exact R_value_82_t hd      M3 r h
theorem R_value_53_t {L : Nat} {xs : Nat → Int} {d : Nat} (hd : 4 ≤ d)   (k7 : Int → am_M → Option (am_M)) (hk7 : ∀ (x1 : Int) (M : am_M) (r : am_M), k7 x1 M = some r → am_Ev L xs d me_205 7 [(0, .inr (.inr (some 73))), (1, .inl (x1))] [] 126 138 M (none, 126, 138, r)) (s0 : Int) (M : am_M) (r : am_M) (h : R_value_53   k7 s0 M = some r) : am_Ev L xs d me_205 53 [(0, .inr (.inr (some 73)))] [.inl (s0)] 126 138 M (none, 126, 138, r) := by
  refine ev_k (pc' := 7) (ls' := [(0, .inr (.inr (some 73))), (1, .inl (s0))]) (st' := []) (nc' := 126) (np' := 138) (M' := M) 2 rfl ?_
  exact hk7 (s0) M r h
theorem R_value_52_t {L : Nat} {xs : Nat → Int} {d : Nat} (hd : 4 ≤ d)   (k7 : Int → am_M → Option (am_M)) (hk7 : ∀ (x1 : Int) (M : am_M) (r : am_M), k7 x1 M = some r → am_Ev L xs d me_205 7 [(0, .inr (.inr (some 73))), (1, .inl (x1))] [] 126 138 M (none, 126, 138, r))  (M : am_M) (r : am_M) (h : R_value_52   k7  M = some r) : am_Ev L xs d me_205 52 [(0, .inr (.inr (some 73)))] [] 126 138 M (none, 126, 138, r) := by
  refine ev_k (pc' := 53) (ls' := [(0, .inr (.inr (some 73)))]) (st' := [.inl (0)]) (nc' := 126) (np' := 138) (M' := M) 1 rfl ?_
  exact R_value_53_t hd   k7 hk7 (0) M r h
theorem R_value_29_t {L : Nat} {xs : Nat → Int} {d : Nat} (hd : 4 ≤ d)   (k7 : Int → am_M → Option (am_M)) (hk7 : ∀ (x1 : Int) (M : am_M) (r : am_M), k7 x1 M = some r → am_Ev L xs d me_205 7 [(0, .inr (.inr (some 73))), (1, .inl (x1))] [] 126 138 M (none, 126, 138, r))  (M : am_M) (r : am_M) (h : R_value_29   k7  M = some r) : am_Ev L xs d me_205 29 [(0, .inr (.inr (some 73)))] [] 126 138 M (none, 126, 138, r) := by
  refine ev_k (pc' := 31) (ls' := [(0, .inr (.inr (some 73)))]) (st' := [.inl (0), .inr (.inr (some 73))]) (nc' := 126) (np' := 138) (M' := M) 2 rfl ?_
  obtain ⟨hc, M1, eM, h⟩ := fz_i h
  refine ev_putz (k := 73) (j := 27) rfl rfl (by decide) rfl rfl hc eM ?_
  refine ev_k (pc' := 35) (ls' := [(0, .inr (.inr (some 73)))]) (st' := [.inr (.inr (some 73))]) (nc' := 126) (np' := 138) (M' := M1) 1 rfl ?_
  obtain ⟨v2, hv, h⟩ := ob_i h
  refine ev_call (t := 195) (as := [.inr (.inr (some 73))]) (rest := []) rfl rfl rfl (by omega) (R_isGood_e (by omega)  M1 _ hv) ?_
  refine ev_k (pc' := 38) (ls' := [(0, .inr (.inr (some 73)))]) (st' := [.inl (v2)]) (nc' := 126) (np' := 138) (M' := M1) 0 rfl ?_
  obtain ⟨hR, ⟨hc, h⟩ | ⟨hc, h⟩⟩ := c_eq_i h
  · refine ev_ifc 52 rfl hR.1 (by decide) (fun _ => ?_) (fun q => absurd hc q)
    exact R_value_52_t hd   k7 hk7  M1 r h
  · refine ev_ifc 52 rfl hR.1 (by decide) (fun q => absurd q hc) (fun _ => ?_)
    refine ev_k (pc' := 42) (ls' := [(0, .inr (.inr (some 73)))]) (st' := [.inr (.inr (some 73))]) (nc' := 126) (np' := 138) (M' := M1) 1 rfl ?_
    obtain ⟨v3, M4, hv, h⟩ := oc_i h
    refine ev_call (t := 212) (as := [.inr (.inr (some 73))]) (rest := []) rfl rfl rfl (by omega) (R_stays_e (by omega)  M1 _ hv) ?_
    refine ev_k (pc' := 45) (ls' := [(0, .inr (.inr (some 73)))]) (st' := [.inl (v3)]) (nc' := 126) (np' := 138) (M' := M4) 0 rfl ?_
    obtain ⟨hR, ⟨hc, h⟩ | ⟨hc, h⟩⟩ := c_eq_i h
    · refine ev_ifc 52 rfl hR.1 (by decide) (fun _ => ?_) (fun q => absurd hc q)
      exact R_value_52_t hd   k7 hk7  M4 r h
    · refine ev_ifc 52 rfl hR.1 (by decide) (fun q => absurd q hc) (fun _ => ?_)
      refine ev_k (pc' := 53) (ls' := [(0, .inr (.inr (some 73)))]) (st' := [.inl (1)]) (nc' := 126) (np' := 138) (M' := M4) 2 rfl ?_
      exact R_value_53_t hd   k7 hk7 (1) M4 r h
theorem R_value_7_t {L : Nat} {xs : Nat → Int} {d : Nat} (hd : 4 ≤ d)     : ∀ (n : Nat) (x1 : Int) (M : am_M) (r : am_M), R_value_7    n x1 M = some r → am_Ev L xs d me_205 7 [(0, .inr (.inr (some 73))), (1, .inl (x1))] [] 126 138 M (none, 126, 138, r)
  | 0, _, M, r, h => by cases h
  | n + 1, x1, M, r, h => by
    have ih := R_value_7_t (L := L) (xs := xs) hd     n
    refine ev_k (pc' := 8) (ls' := [(0, .inr (.inr (some 73))), (1, .inl (x1))]) (st' := [.inl (x1)]) (nc' := 126) (np' := 138) (M' := M) 1 rfl ?_
    obtain ⟨hR, ⟨hc, h⟩ | ⟨hc, h⟩⟩ := c_eq_i h
    · refine ev_ifc 57 rfl hR.1 (by decide) (fun _ => ?_) (fun q => absurd hc q)
      exact R_value_57_t hd      M r h
    · refine ev_ifc 57 rfl hR.1 (by decide) (fun q => absurd q hc) (fun _ => ?_)
      refine ev_k (pc' := 12) (ls' := [(0, .inr (.inr (some 73))), (1, .inl (x1))]) (st' := [.inr (.inr (some 73))]) (nc' := 126) (np' := 138) (M' := M) 1 rfl ?_
      obtain ⟨v1, hv, h⟩ := ob_i h
      refine ev_call (t := 195) (as := [.inr (.inr (some 73))]) (rest := []) rfl rfl rfl (by omega) (R_isGood_e (by omega)  M _ hv) ?_
      refine ev_k (pc' := 15) (ls' := [(0, .inr (.inr (some 73))), (1, .inl (x1))]) (st' := [.inl (v1)]) (nc' := 126) (np' := 138) (M' := M) 0 rfl ?_
      obtain ⟨hR, ⟨hc, h⟩ | ⟨hc, h⟩⟩ := c_eq_i h
      · refine ev_ifc 57 rfl hR.1 (by decide) (fun _ => ?_) (fun q => absurd hc q)
        exact R_value_57_t hd      M r h
      · refine ev_ifc 57 rfl hR.1 (by decide) (fun q => absurd q hc) (fun _ => ?_)
        refine ev_k (pc' := 22) (ls' := [(0, .inr (.inr (some 73))), (1, .inl (x1))]) (st' := [.inl (M 73 27)]) (nc' := 126) (np' := 138) (M' := M) 2 rfl ?_
        obtain ⟨hR, ⟨hc, h⟩ | ⟨hc, h⟩⟩ := c_ne_i h
        · refine ev_ifc 29 rfl hR.1 (by decide) (fun _ => ?_) (fun q => absurd hc q)
          exact R_value_29_t hd   (R_value_7    n) ih  M r h
        · refine ev_ifc 29 rfl hR.1 (by decide) (fun q => absurd q hc) (fun _ => ?_)
          refine ev_k (pc' := 26) (ls' := [(0, .inr (.inr (some 73))), (1, .inl (x1))]) (st' := [.inr (.inr (some 73))]) (nc' := 126) (np' := 138) (M' := M) 1 rfl ?_
          obtain ⟨M2, hv, h⟩ := ob_i h
          refine ev_call (t := 206) (as := [.inr (.inr (some 73))]) (rest := []) rfl rfl rfl (by omega) (R_factor_e (by omega)  M _ hv) ?_
          exact R_value_29_t hd   (R_value_7    n) ih  M2 r h
theorem R_value_e {L : Nat} {xs : Nat → Int} {d : Nat} (hd : 4 ≤ d)    (M : am_M) (r : am_M) (h : R_value    M = some r) : am_Ev L xs d me_205 0 (am_ar1 0 [.inr (.inr (some 73))]) [] 126 138 M (none, 126, 138, r) := by
  refine ev_k (pc' := 4) (ls' := [(1, .inl (1)), (0, .inr (.inr (some 73)))]) (st' := [.inl (0), .inr (.inr (some 73))]) (nc' := 126) (np' := 138) (M' := M) 4 rfl ?_
  obtain ⟨hc, M1, eM, h⟩ := fz_i h
  refine ev_putz (k := 73) (j := 27) rfl rfl (by decide) rfl rfl hc eM ?_
  exact R_value_7_t hd     am_big (1) M1 r h
def R_isCompared_23    (s0 : Int) (M : am_M) : Option (Int) := ck ((s0) = 0 ∨ (s0) = 1) (some (s0))
def R_isCompared_18     (M : am_M) : Option (Int) := (R_isCompared_23    (1) M)
def R_isCompared    (x0 : Int) (M : am_M) : Option (Int) := c_eq (x0) (60)
       (R_isCompared_18     M)
       (c_eq (x0) (62)
       (R_isCompared_18     M)
       (c_ne (x0) (61)
       ((R_isCompared_23    (0) M))
       (R_isCompared_18     M)))
theorem R_isCompared_23_t {L : Nat} {xs : Nat → Int} {d : Nat} (hd : 0 ≤ d)     (s0 : Int) (M : am_M) (r : Int) (h : R_isCompared_23    s0 M = some r) : am_Ev L xs d me_219 23 [] [.inl (s0)] 126 138 M (some (.inl r), 126, 138, M) := by
  refine ev_k (pc' := 23) (ls' := []) (st' := [.inl (s0)]) (nc' := 126) (np' := 138) (M' := M) 0 rfl ?_
  obtain ⟨hc, h⟩ := ck_i h
  cases h
  exact ev_retz rfl rfl hc
theorem R_isCompared_18_t {L : Nat} {xs : Nat → Int} {d : Nat} (hd : 0 ≤ d)      (M : am_M) (r : Int) (h : R_isCompared_18     M = some r) : am_Ev L xs d me_219 18 [] [] 126 138 M (some (.inl r), 126, 138, M) := by
  refine ev_k (pc' := 23) (ls' := []) (st' := [.inl (1)]) (nc' := 126) (np' := 138) (M' := M) 2 rfl ?_
  exact R_isCompared_23_t hd     (1) M r h
theorem R_isCompared_e {L : Nat} {xs : Nat → Int} {d : Nat} (hd : 0 ≤ d)   (x0 : Int) (M : am_M) (r : Int) (h : R_isCompared   x0 M = some r) : am_Ev L xs d me_219 0 (am_ar1 0 [.inl (x0)]) [] 126 138 M (some (.inl r), 126, 138, M) := by
  refine ev_k (pc' := 3) (ls' := [(0, .inl (x0))]) (st' := [.inl (60), .inl (x0)]) (nc' := 126) (np' := 138) (M' := M) 2 rfl ?_
  obtain ⟨hR, ⟨hc, h⟩ | ⟨hc, h⟩⟩ := c_eq_i h
  · refine ev_icmp 18 rfl hR.1 hR.2 (by decide) (fun _ => ?_) (fun q => absurd hc q)
    exact R_isCompared_18_t hd      M r h
  · refine ev_icmp 18 rfl hR.1 hR.2 (by decide) (fun q => absurd q hc) (fun _ => ?_)
    refine ev_k (pc' := 9) (ls' := [(0, .inl (x0))]) (st' := [.inl (62), .inl (x0)]) (nc' := 126) (np' := 138) (M' := M) 2 rfl ?_
    obtain ⟨hR, ⟨hc, h⟩ | ⟨hc, h⟩⟩ := c_eq_i h
    · refine ev_icmp 18 rfl hR.1 hR.2 (by decide) (fun _ => ?_) (fun q => absurd hc q)
      exact R_isCompared_18_t hd      M r h
    · refine ev_icmp 18 rfl hR.1 hR.2 (by decide) (fun q => absurd q hc) (fun _ => ?_)
      refine ev_k (pc' := 15) (ls' := [(0, .inl (x0))]) (st' := [.inl (61), .inl (x0)]) (nc' := 126) (np' := 138) (M' := M) 2 rfl ?_
      obtain ⟨hR, ⟨hc, h⟩ | ⟨hc, h⟩⟩ := c_ne_i h
      · refine ev_icmp 22 rfl hR.1 hR.2 (by decide) (fun _ => ?_) (fun q => absurd hc q)
        refine ev_k (pc' := 23) (ls' := []) (st' := [.inl (0)]) (nc' := 126) (np' := 138) (M' := M) 1 rfl ?_
        exact R_isCompared_23_t hd     (0) M r h
      · refine ev_icmp 22 rfl hR.1 hR.2 (by decide) (fun q => absurd q hc) (fun _ => ?_)
        exact R_isCompared_18_t hd      M r h
def R_ends_0    : Nat → am_M → Option (am_M)
  | 0, _ => none
  | n + 1, M => ob (R_top  M) fun v1 => c_ne (v1) (33)
       (some (M))
       (ob (R_emit (2) (0) M) fun M2 => fw M2 73 9 ((M2 73 9) - (1)) fun M3 => fw M3 73 8 ((M3 73 8) - (1)) fun M4 => (R_ends_0    n  M4))
def R_ends     (M : am_M) : Option (am_M) := R_ends_0    am_big  M
theorem R_ends_0_t {L : Nat} {xs : Nat → Int} {d : Nat} (hd : 2 ≤ d)     : ∀ (n : Nat)  (M : am_M) (r : am_M), R_ends_0    n  M = some r → am_Ev L xs d me_220 0 [(0, .inr (.inr (some 73)))] [] 126 138 M (none, 126, 138, r)
  | 0, M, r, h => by cases h
  | n + 1, M, r, h => by
    have ih := R_ends_0_t (L := L) (xs := xs) hd     n
    refine ev_k (pc' := 1) (ls' := [(0, .inr (.inr (some 73)))]) (st' := [.inr (.inr (some 73))]) (nc' := 126) (np' := 138) (M' := M) 1 rfl ?_
    obtain ⟨v1, hv, h⟩ := ob_i h
    refine ev_call (t := 216) (as := [.inr (.inr (some 73))]) (rest := []) rfl rfl rfl (by omega) (R_top_e (by omega)  M _ hv) ?_
    refine ev_k (pc' := 6) (ls' := [(0, .inr (.inr (some 73)))]) (st' := [.inl (33), .inl (v1)]) (nc' := 126) (np' := 138) (M' := M) 1 rfl ?_
    obtain ⟨hR, ⟨hc, h⟩ | ⟨hc, h⟩⟩ := c_ne_i h
    · refine ev_icmp 38 rfl hR.1 hR.2 (by decide) (fun _ => ?_) (fun q => absurd hc q)
      refine ev_k (pc' := 38) (ls' := [(0, .inr (.inr (some 73)))]) (st' := []) (nc' := 126) (np' := 138) (M' := M) 0 rfl ?_
      cases h
      exact ev_ret rfl
    · refine ev_icmp 38 rfl hR.1 hR.2 (by decide) (fun q => absurd q hc) (fun _ => ?_)
      refine ev_k (pc' := 12) (ls' := [(0, .inr (.inr (some 73)))]) (st' := [.inl (0), .inl (2), .inr (.inr (some 73))]) (nc' := 126) (np' := 138) (M' := M) 3 rfl ?_
      obtain ⟨M2, hv, h⟩ := ob_i h
      refine ev_call (t := 210) (as := [.inr (.inr (some 73)), .inl (2), .inl (0)]) (rest := []) rfl rfl rfl (by omega) (R_emit_e (by omega) (2) (0) M _ hv) ?_
      refine ev_k (pc' := 25) (ls' := [(0, .inr (.inr (some 73)))]) (st' := []) (nc' := 126) (np' := 138) (M' := am_up M2 73 9 ((M2 73 9) - (1))) 6 rfl ?_
      obtain ⟨M3, eM, h⟩ := fw_i h
      rw [← eM]
      refine ev_k (pc' := 35) (ls' := [(0, .inr (.inr (some 73)))]) (st' := []) (nc' := 126) (np' := 138) (M' := am_up M3 73 8 ((M3 73 8) - (1))) 6 rfl ?_
      obtain ⟨M4, eM, h⟩ := fw_i h
      rw [← eM]
      refine ev_k (pc' := 0) (ls' := [(0, .inr (.inr (some 73)))]) (st' := []) (nc' := 126) (np' := 138) (M' := M4) 1 rfl ?_
      exact ih  M4 r h
theorem R_ends_e {L : Nat} {xs : Nat → Int} {d : Nat} (hd : 2 ≤ d)    (M : am_M) (r : am_M) (h : R_ends    M = some r) : am_Ev L xs d me_220 0 (am_ar1 0 [.inr (.inr (some 73))]) [] 126 138 M (none, 126, 138, r) := by
  exact R_ends_0_t hd     am_big  M r h
def R_pieceOfC_43     (M : am_M) : Option (am_M) := ob (R_isGood  M) fun v1 => c_ne (v1) (0)
       (ob (R_here  M) fun v2 => ob (R_isCompared (v2) M) fun v3 => c_ne (v3) (0)
       (ob (R_puts (v2) M) fun M4 => ob (R_value  M4) fun M5 => ob (R_isGood  M5) fun v6 => c_ne (v6) (0)
       (ob (R_top  M5) fun v7 => ob (R_emit (v7) (0) M5) fun M8 => fw M8 73 9 ((M8 73 9) - (1)) fun M9 => ob (R_ends  M9) fun M10 => some (M10))
       (some (M5)))
       (ob (R_wrongs (1) (M 73 3) M) fun M11 => some (M11)))
       (some (M))
def R_pieceOfC_32     (M : am_M) : Option (am_M) := ob (R_isGood  M) fun v1 => c_eq (v1) (0)
       (R_pieceOfC_43     M)
       (ob (R_value  M) fun M2 => (R_pieceOfC_43     M2))
def R_pieceOfC_25   (k0 : am_M → Option (am_M))  (M : am_M) : Option (am_M) := ob (R_opens  M) fun M1 => (k0  M1)
def R_pieceOfC_0    : Nat → am_M → Option (am_M)
  | 0, _ => none
  | n + 1, M => ob (R_isGood  M) fun v1 => c_eq (v1) (0)
       (R_pieceOfC_32     M)
       (ob (R_here  M) fun v2 => c_eq (v2) (33)
       (R_pieceOfC_25   (R_pieceOfC_0    n)  M)
       (ob (R_here  M) fun v3 => c_ne (v3) (40)
       (R_pieceOfC_32     M)
       (R_pieceOfC_25   (R_pieceOfC_0    n)  M)))
def R_pieceOfC     (M : am_M) : Option (am_M) := R_pieceOfC_0    am_big  M
theorem R_pieceOfC_43_t {L : Nat} {xs : Nat → Int} {d : Nat} (hd : 5 ≤ d)      (M : am_M) (r : am_M) (h : R_pieceOfC_43     M = some r) : am_Ev L xs d me_218 43 [(0, .inr (.inr (some 73)))] [] 126 138 M (none, 126, 138, r) := by
  refine ev_k (pc' := 44) (ls' := [(0, .inr (.inr (some 73)))]) (st' := [.inr (.inr (some 73))]) (nc' := 126) (np' := 138) (M' := M) 1 rfl ?_
  obtain ⟨v1, hv, h⟩ := ob_i h
  refine ev_call (t := 195) (as := [.inr (.inr (some 73))]) (rest := []) rfl rfl rfl (by omega) (R_isGood_e (by omega)  M _ hv) ?_
  refine ev_k (pc' := 47) (ls' := [(0, .inr (.inr (some 73)))]) (st' := [.inl (v1)]) (nc' := 126) (np' := 138) (M' := M) 0 rfl ?_
  obtain ⟨hR, ⟨hc, h⟩ | ⟨hc, h⟩⟩ := c_ne_i h
  · refine ev_ifc 51 rfl hR.1 (by decide) (fun _ => ?_) (fun q => absurd hc q)
    refine ev_k (pc' := 52) (ls' := [(0, .inr (.inr (some 73)))]) (st' := [.inr (.inr (some 73))]) (nc' := 126) (np' := 138) (M' := M) 1 rfl ?_
    obtain ⟨v2, hv, h⟩ := ob_i h
    refine ev_call (t := 197) (as := [.inr (.inr (some 73))]) (rest := []) rfl rfl rfl (by omega) (R_here_e (by omega)  M _ hv) ?_
    refine ev_k (pc' := 57) (ls' := [(1, .inl (v2)), (0, .inr (.inr (some 73)))]) (st' := [.inl (v2)]) (nc' := 126) (np' := 138) (M' := M) 2 rfl ?_
    obtain ⟨v3, hv, h⟩ := ob_i h
    refine ev_call (t := 219) (as := [.inl (v2)]) (rest := []) rfl rfl rfl (by omega) (R_isCompared_e (by omega) (v2) M _ hv) ?_
    refine ev_k (pc' := 60) (ls' := [(1, .inl (v2)), (0, .inr (.inr (some 73)))]) (st' := [.inl (v3)]) (nc' := 126) (np' := 138) (M' := M) 0 rfl ?_
    obtain ⟨hR, ⟨hc, h⟩ | ⟨hc, h⟩⟩ := c_ne_i h
    · refine ev_ifc 73 rfl hR.1 (by decide) (fun _ => ?_) (fun q => absurd hc q)
      refine ev_k (pc' := 75) (ls' := [(1, .inl (v2)), (0, .inr (.inr (some 73)))]) (st' := [.inl (v2), .inr (.inr (some 73))]) (nc' := 126) (np' := 138) (M' := M) 2 rfl ?_
      obtain ⟨M4, hv, h⟩ := ob_i h
      refine ev_call (t := 208) (as := [.inr (.inr (some 73)), .inl (v2)]) (rest := []) rfl rfl rfl (by omega) (R_puts_e (by omega) (v2) M _ hv) ?_
      refine ev_k (pc' := 79) (ls' := [(1, .inl (v2)), (0, .inr (.inr (some 73)))]) (st' := [.inr (.inr (some 73))]) (nc' := 126) (np' := 138) (M' := M4) 1 rfl ?_
      obtain ⟨M5, hv, h⟩ := ob_i h
      refine ev_call (t := 205) (as := [.inr (.inr (some 73))]) (rest := []) rfl rfl rfl (by omega) (R_value_e (by omega)  M4 _ hv) ?_
      refine ev_k (pc' := 83) (ls' := [(1, .inl (v2)), (0, .inr (.inr (some 73)))]) (st' := [.inr (.inr (some 73))]) (nc' := 126) (np' := 138) (M' := M5) 1 rfl ?_
      obtain ⟨v6, hv, h⟩ := ob_i h
      refine ev_call (t := 195) (as := [.inr (.inr (some 73))]) (rest := []) rfl rfl rfl (by omega) (R_isGood_e (by omega)  M5 _ hv) ?_
      refine ev_k (pc' := 86) (ls' := [(1, .inl (v2)), (0, .inr (.inr (some 73)))]) (st' := [.inl (v6)]) (nc' := 126) (np' := 138) (M' := M5) 0 rfl ?_
      obtain ⟨hR, ⟨hc, h⟩ | ⟨hc, h⟩⟩ := c_ne_i h
      · refine ev_ifc 90 rfl hR.1 (by decide) (fun _ => ?_) (fun q => absurd hc q)
        refine ev_k (pc' := 92) (ls' := [(1, .inl (v2)), (0, .inr (.inr (some 73)))]) (st' := [.inr (.inr (some 73)), .inr (.inr (some 73))]) (nc' := 126) (np' := 138) (M' := M5) 2 rfl ?_
        obtain ⟨v7, hv, h⟩ := ob_i h
        refine ev_call (t := 216) (as := [.inr (.inr (some 73))]) (rest := [.inr (.inr (some 73))]) rfl rfl rfl (by omega) (R_top_e (by omega)  M5 _ hv) ?_
        refine ev_k (pc' := 96) (ls' := [(1, .inl (v2)), (0, .inr (.inr (some 73)))]) (st' := [.inl (0), .inl (v7), .inr (.inr (some 73))]) (nc' := 126) (np' := 138) (M' := M5) 1 rfl ?_
        obtain ⟨M8, hv, h⟩ := ob_i h
        refine ev_call (t := 210) (as := [.inr (.inr (some 73)), .inl (v7), .inl (0)]) (rest := []) rfl rfl rfl (by omega) (R_emit_e (by omega) (v7) (0) M5 _ hv) ?_
        refine ev_k (pc' := 109) (ls' := [(1, .inl (v2)), (0, .inr (.inr (some 73)))]) (st' := []) (nc' := 126) (np' := 138) (M' := am_up M8 73 9 ((M8 73 9) - (1))) 6 rfl ?_
        obtain ⟨M9, eM, h⟩ := fw_i h
        rw [← eM]
        refine ev_k (pc' := 110) (ls' := [(1, .inl (v2)), (0, .inr (.inr (some 73)))]) (st' := [.inr (.inr (some 73))]) (nc' := 126) (np' := 138) (M' := M9) 1 rfl ?_
        obtain ⟨M10, hv, h⟩ := ob_i h
        refine ev_call (t := 220) (as := [.inr (.inr (some 73))]) (rest := []) rfl rfl rfl (by omega) (R_ends_e (by omega)  M9 _ hv) ?_
        refine ev_k (pc' := 113) (ls' := [(1, .inl (v2)), (0, .inr (.inr (some 73)))]) (st' := []) (nc' := 126) (np' := 138) (M' := M10) 0 rfl ?_
        cases h
        exact ev_ret rfl
      · refine ev_ifc 90 rfl hR.1 (by decide) (fun q => absurd q hc) (fun _ => ?_)
        refine ev_k (pc' := 89) (ls' := [(1, .inl (v2)), (0, .inr (.inr (some 73)))]) (st' := []) (nc' := 126) (np' := 138) (M' := M5) 0 rfl ?_
        cases h
        exact ev_ret rfl
    · refine ev_ifc 73 rfl hR.1 (by decide) (fun q => absurd q hc) (fun _ => ?_)
      refine ev_k (pc' := 69) (ls' := [(1, .inl (v2)), (0, .inr (.inr (some 73)))]) (st' := [.inl (M 73 3), .inl (1), .inr (.inr (some 73))]) (nc' := 126) (np' := 138) (M' := M) 4 rfl ?_
      obtain ⟨M11, hv, h⟩ := ob_i h
      refine ev_call (t := 199) (as := [.inr (.inr (some 73)), .inl (1), .inl (M 73 3)]) (rest := []) rfl rfl rfl (by omega) (R_wrongs_e (by omega) (1) (M 73 3) M _ hv) ?_
      refine ev_k (pc' := 72) (ls' := [(1, .inl (v2)), (0, .inr (.inr (some 73)))]) (st' := []) (nc' := 126) (np' := 138) (M' := M11) 0 rfl ?_
      cases h
      exact ev_ret rfl
  · refine ev_ifc 51 rfl hR.1 (by decide) (fun q => absurd q hc) (fun _ => ?_)
    refine ev_k (pc' := 50) (ls' := [(0, .inr (.inr (some 73)))]) (st' := []) (nc' := 126) (np' := 138) (M' := M) 0 rfl ?_
    cases h
    exact ev_ret rfl
theorem R_pieceOfC_32_t {L : Nat} {xs : Nat → Int} {d : Nat} (hd : 5 ≤ d)      (M : am_M) (r : am_M) (h : R_pieceOfC_32     M = some r) : am_Ev L xs d me_218 32 [(0, .inr (.inr (some 73)))] [] 126 138 M (none, 126, 138, r) := by
  refine ev_k (pc' := 33) (ls' := [(0, .inr (.inr (some 73)))]) (st' := [.inr (.inr (some 73))]) (nc' := 126) (np' := 138) (M' := M) 1 rfl ?_
  obtain ⟨v1, hv, h⟩ := ob_i h
  refine ev_call (t := 195) (as := [.inr (.inr (some 73))]) (rest := []) rfl rfl rfl (by omega) (R_isGood_e (by omega)  M _ hv) ?_
  refine ev_k (pc' := 36) (ls' := [(0, .inr (.inr (some 73)))]) (st' := [.inl (v1)]) (nc' := 126) (np' := 138) (M' := M) 0 rfl ?_
  obtain ⟨hR, ⟨hc, h⟩ | ⟨hc, h⟩⟩ := c_eq_i h
  · refine ev_ifc 43 rfl hR.1 (by decide) (fun _ => ?_) (fun q => absurd hc q)
    exact R_pieceOfC_43_t hd      M r h
  · refine ev_ifc 43 rfl hR.1 (by decide) (fun q => absurd q hc) (fun _ => ?_)
    refine ev_k (pc' := 40) (ls' := [(0, .inr (.inr (some 73)))]) (st' := [.inr (.inr (some 73))]) (nc' := 126) (np' := 138) (M' := M) 1 rfl ?_
    obtain ⟨M2, hv, h⟩ := ob_i h
    refine ev_call (t := 205) (as := [.inr (.inr (some 73))]) (rest := []) rfl rfl rfl (by omega) (R_value_e (by omega)  M _ hv) ?_
    exact R_pieceOfC_43_t hd      M2 r h
theorem R_pieceOfC_25_t {L : Nat} {xs : Nat → Int} {d : Nat} (hd : 5 ≤ d)   (k0 : am_M → Option (am_M)) (hk0 : ∀  (M : am_M) (r : am_M), k0  M = some r → am_Ev L xs d me_218 0 [(0, .inr (.inr (some 73)))] [] 126 138 M (none, 126, 138, r))  (M : am_M) (r : am_M) (h : R_pieceOfC_25   k0  M = some r) : am_Ev L xs d me_218 25 [(0, .inr (.inr (some 73)))] [] 126 138 M (none, 126, 138, r) := by
  refine ev_k (pc' := 26) (ls' := [(0, .inr (.inr (some 73)))]) (st' := [.inr (.inr (some 73))]) (nc' := 126) (np' := 138) (M' := M) 1 rfl ?_
  obtain ⟨M1, hv, h⟩ := ob_i h
  refine ev_call (t := 207) (as := [.inr (.inr (some 73))]) (rest := []) rfl rfl rfl (by omega) (R_opens_e (by omega)  M _ hv) ?_
  refine ev_k (pc' := 0) (ls' := [(0, .inr (.inr (some 73)))]) (st' := []) (nc' := 126) (np' := 138) (M' := M1) 1 rfl ?_
  exact hk0  M1 r h
theorem R_pieceOfC_0_t {L : Nat} {xs : Nat → Int} {d : Nat} (hd : 5 ≤ d)     : ∀ (n : Nat)  (M : am_M) (r : am_M), R_pieceOfC_0    n  M = some r → am_Ev L xs d me_218 0 [(0, .inr (.inr (some 73)))] [] 126 138 M (none, 126, 138, r)
  | 0, M, r, h => by cases h
  | n + 1, M, r, h => by
    have ih := R_pieceOfC_0_t (L := L) (xs := xs) hd     n
    refine ev_k (pc' := 1) (ls' := [(0, .inr (.inr (some 73)))]) (st' := [.inr (.inr (some 73))]) (nc' := 126) (np' := 138) (M' := M) 1 rfl ?_
    obtain ⟨v1, hv, h⟩ := ob_i h
    refine ev_call (t := 195) (as := [.inr (.inr (some 73))]) (rest := []) rfl rfl rfl (by omega) (R_isGood_e (by omega)  M _ hv) ?_
    refine ev_k (pc' := 4) (ls' := [(0, .inr (.inr (some 73)))]) (st' := [.inl (v1)]) (nc' := 126) (np' := 138) (M' := M) 0 rfl ?_
    obtain ⟨hR, ⟨hc, h⟩ | ⟨hc, h⟩⟩ := c_eq_i h
    · refine ev_ifc 32 rfl hR.1 (by decide) (fun _ => ?_) (fun q => absurd hc q)
      exact R_pieceOfC_32_t hd      M r h
    · refine ev_ifc 32 rfl hR.1 (by decide) (fun q => absurd q hc) (fun _ => ?_)
      refine ev_k (pc' := 8) (ls' := [(0, .inr (.inr (some 73)))]) (st' := [.inr (.inr (some 73))]) (nc' := 126) (np' := 138) (M' := M) 1 rfl ?_
      obtain ⟨v2, hv, h⟩ := ob_i h
      refine ev_call (t := 197) (as := [.inr (.inr (some 73))]) (rest := []) rfl rfl rfl (by omega) (R_here_e (by omega)  M _ hv) ?_
      refine ev_k (pc' := 13) (ls' := [(0, .inr (.inr (some 73)))]) (st' := [.inl (33), .inl (v2)]) (nc' := 126) (np' := 138) (M' := M) 1 rfl ?_
      obtain ⟨hR, ⟨hc, h⟩ | ⟨hc, h⟩⟩ := c_eq_i h
      · refine ev_icmp 25 rfl hR.1 hR.2 (by decide) (fun _ => ?_) (fun q => absurd hc q)
        exact R_pieceOfC_25_t hd   (R_pieceOfC_0    n) ih  M r h
      · refine ev_icmp 25 rfl hR.1 hR.2 (by decide) (fun q => absurd q hc) (fun _ => ?_)
        refine ev_k (pc' := 17) (ls' := [(0, .inr (.inr (some 73)))]) (st' := [.inr (.inr (some 73))]) (nc' := 126) (np' := 138) (M' := M) 1 rfl ?_
        obtain ⟨v3, hv, h⟩ := ob_i h
        refine ev_call (t := 197) (as := [.inr (.inr (some 73))]) (rest := []) rfl rfl rfl (by omega) (R_here_e (by omega)  M _ hv) ?_
        refine ev_k (pc' := 22) (ls' := [(0, .inr (.inr (some 73)))]) (st' := [.inl (40), .inl (v3)]) (nc' := 126) (np' := 138) (M' := M) 1 rfl ?_
        obtain ⟨hR, ⟨hc, h⟩ | ⟨hc, h⟩⟩ := c_ne_i h
        · refine ev_icmp 32 rfl hR.1 hR.2 (by decide) (fun _ => ?_) (fun q => absurd hc q)
          exact R_pieceOfC_32_t hd      M r h
        · refine ev_icmp 32 rfl hR.1 hR.2 (by decide) (fun q => absurd q hc) (fun _ => ?_)
          exact R_pieceOfC_25_t hd   (R_pieceOfC_0    n) ih  M r h
theorem R_pieceOfC_e {L : Nat} {xs : Nat → Int} {d : Nat} (hd : 5 ≤ d)    (M : am_M) (r : am_M) (h : R_pieceOfC    M = some r) : am_Ev L xs d me_218 0 (am_ar1 0 [.inr (.inr (some 73))]) [] 126 138 M (none, 126, 138, r) := by
  exact R_pieceOfC_0_t hd     am_big  M r h
def R_joins_44     (M : am_M) : Option (am_M) := some (M)
def R_joins_22   (k0 : Int → am_M → Option (am_M)) (x1 : Int) (M : am_M) : Option (am_M) := ob (R_top  M) fun v1 => ob (R_emit (v1) (0) M) fun M2 => fw M2 73 9 ((M2 73 9) - (1)) fun M3 => (k0 (x1) M3)
def R_joins_0    : Nat → Int → am_M → Option (am_M)
  | 0, _, _ => none
  | n + 1, x1, M => ob (R_top  M) fun v1 => c_eq (v1) (38)
       (R_joins_22   (R_joins_0    n) (x1) M)
       (c_eq (x1) (0)
       (R_joins_44     M)
       (ob (R_top  M) fun v2 => c_ne (v2) (124)
       (R_joins_44     M)
       (R_joins_22   (R_joins_0    n) (x1) M)))
def R_joins    (x1 : Int) (M : am_M) : Option (am_M) := R_joins_0    am_big (x1) M
theorem R_joins_44_t {L : Nat} {xs : Nat → Int} {d : Nat} (hd : 2 ≤ d)      (M : am_M) (r : am_M) (h : R_joins_44     M = some r) : am_Ev L xs d me_222 44 [] [] 126 138 M (none, 126, 138, r) := by
  refine ev_k (pc' := 44) (ls' := []) (st' := []) (nc' := 126) (np' := 138) (M' := M) 0 rfl ?_
  cases h
  exact ev_ret rfl
theorem R_joins_22_t {L : Nat} {xs : Nat → Int} {d : Nat} (hd : 2 ≤ d)   (k0 : Int → am_M → Option (am_M)) (hk0 : ∀ (x1 : Int) (M : am_M) (r : am_M), k0 x1 M = some r → am_Ev L xs d me_222 0 [(0, .inr (.inr (some 73))), (1, .inl (x1))] [] 126 138 M (none, 126, 138, r)) (x1 : Int) (M : am_M) (r : am_M) (h : R_joins_22   k0 x1 M = some r) : am_Ev L xs d me_222 22 [(0, .inr (.inr (some 73))), (1, .inl (x1))] [] 126 138 M (none, 126, 138, r) := by
  refine ev_k (pc' := 24) (ls' := [(0, .inr (.inr (some 73))), (1, .inl (x1))]) (st' := [.inr (.inr (some 73)), .inr (.inr (some 73))]) (nc' := 126) (np' := 138) (M' := M) 2 rfl ?_
  obtain ⟨v1, hv, h⟩ := ob_i h
  refine ev_call (t := 216) (as := [.inr (.inr (some 73))]) (rest := [.inr (.inr (some 73))]) rfl rfl rfl (by omega) (R_top_e (by omega)  M _ hv) ?_
  refine ev_k (pc' := 28) (ls' := [(0, .inr (.inr (some 73))), (1, .inl (x1))]) (st' := [.inl (0), .inl (v1), .inr (.inr (some 73))]) (nc' := 126) (np' := 138) (M' := M) 1 rfl ?_
  obtain ⟨M2, hv, h⟩ := ob_i h
  refine ev_call (t := 210) (as := [.inr (.inr (some 73)), .inl (v1), .inl (0)]) (rest := []) rfl rfl rfl (by omega) (R_emit_e (by omega) (v1) (0) M _ hv) ?_
  refine ev_k (pc' := 41) (ls' := [(0, .inr (.inr (some 73))), (1, .inl (x1))]) (st' := []) (nc' := 126) (np' := 138) (M' := am_up M2 73 9 ((M2 73 9) - (1))) 6 rfl ?_
  obtain ⟨M3, eM, h⟩ := fw_i h
  rw [← eM]
  refine ev_k (pc' := 0) (ls' := [(0, .inr (.inr (some 73))), (1, .inl (x1))]) (st' := []) (nc' := 126) (np' := 138) (M' := M3) 1 rfl ?_
  exact hk0 (x1) M3 r h
theorem R_joins_0_t {L : Nat} {xs : Nat → Int} {d : Nat} (hd : 2 ≤ d)     : ∀ (n : Nat) (x1 : Int) (M : am_M) (r : am_M), R_joins_0    n x1 M = some r → am_Ev L xs d me_222 0 [(0, .inr (.inr (some 73))), (1, .inl (x1))] [] 126 138 M (none, 126, 138, r)
  | 0, _, M, r, h => by cases h
  | n + 1, x1, M, r, h => by
    have ih := R_joins_0_t (L := L) (xs := xs) hd     n
    refine ev_k (pc' := 1) (ls' := [(0, .inr (.inr (some 73))), (1, .inl (x1))]) (st' := [.inr (.inr (some 73))]) (nc' := 126) (np' := 138) (M' := M) 1 rfl ?_
    obtain ⟨v1, hv, h⟩ := ob_i h
    refine ev_call (t := 216) (as := [.inr (.inr (some 73))]) (rest := []) rfl rfl rfl (by omega) (R_top_e (by omega)  M _ hv) ?_
    refine ev_k (pc' := 6) (ls' := [(0, .inr (.inr (some 73))), (1, .inl (x1))]) (st' := [.inl (38), .inl (v1)]) (nc' := 126) (np' := 138) (M' := M) 1 rfl ?_
    obtain ⟨hR, ⟨hc, h⟩ | ⟨hc, h⟩⟩ := c_eq_i h
    · refine ev_icmp 22 rfl hR.1 hR.2 (by decide) (fun _ => ?_) (fun q => absurd hc q)
      exact R_joins_22_t hd   (R_joins_0    n) ih (x1) M r h
    · refine ev_icmp 22 rfl hR.1 hR.2 (by decide) (fun q => absurd q hc) (fun _ => ?_)
      refine ev_k (pc' := 10) (ls' := [(0, .inr (.inr (some 73))), (1, .inl (x1))]) (st' := [.inl (x1)]) (nc' := 126) (np' := 138) (M' := M) 1 rfl ?_
      obtain ⟨hR, ⟨hc, h⟩ | ⟨hc, h⟩⟩ := c_eq_i h
      · refine ev_ifc 44 rfl hR.1 (by decide) (fun _ => ?_) (fun q => absurd hc q)
        exact R_joins_44_t hd      M r h
      · refine ev_ifc 44 rfl hR.1 (by decide) (fun q => absurd q hc) (fun _ => ?_)
        refine ev_k (pc' := 14) (ls' := [(0, .inr (.inr (some 73))), (1, .inl (x1))]) (st' := [.inr (.inr (some 73))]) (nc' := 126) (np' := 138) (M' := M) 1 rfl ?_
        obtain ⟨v2, hv, h⟩ := ob_i h
        refine ev_call (t := 216) (as := [.inr (.inr (some 73))]) (rest := []) rfl rfl rfl (by omega) (R_top_e (by omega)  M _ hv) ?_
        refine ev_k (pc' := 19) (ls' := [(0, .inr (.inr (some 73))), (1, .inl (x1))]) (st' := [.inl (124), .inl (v2)]) (nc' := 126) (np' := 138) (M' := M) 1 rfl ?_
        obtain ⟨hR, ⟨hc, h⟩ | ⟨hc, h⟩⟩ := c_ne_i h
        · refine ev_icmp 44 rfl hR.1 hR.2 (by decide) (fun _ => ?_) (fun q => absurd hc q)
          exact R_joins_44_t hd      M r h
        · refine ev_icmp 44 rfl hR.1 hR.2 (by decide) (fun q => absurd q hc) (fun _ => ?_)
          exact R_joins_22_t hd   (R_joins_0    n) ih (x1) M r h
theorem R_joins_e {L : Nat} {xs : Nat → Int} {d : Nat} (hd : 2 ≤ d)   (x1 : Int) (M : am_M) (r : am_M) (h : R_joins   x1 M = some r) : am_Ev L xs d me_222 0 (am_ar1 0 [.inr (.inr (some 73)), .inl (x1)]) [] 126 138 M (none, 126, 138, r) := by
  exact R_joins_0_t hd     am_big (x1) M r h
def R_goesBehind_118     (M : am_M) : Option (Int × am_M) := some (0, M)
def R_goesBehind_104    (s1 : Int) (M : am_M) : Option (Int × am_M) := fz M 73 26 (s1) fun M1 => c_ne (M1 73 26) (0)
       (R_goesBehind_118     M1)
       (ob (R_ends  M1) fun M2 => (R_goesBehind_118     M2))
def R_goesBehind_29    (x1 : Int) (s1 : Int) (M : am_M) : Option (Int × am_M) := ob (R_joins (s1) M) fun M1 => ob (R_puts (x1) M1) fun M2 => some (1, M2)
def R_goesBehind_17    (x1 : Int) (M : am_M) : Option (Int × am_M) := c_ne (x1) (124)
       ((R_goesBehind_29    (x1) (0) M))
       ((R_goesBehind_29    (x1) (1) M))
def R_goesBehind     (M : am_M) : Option (Int × am_M) := ob (R_here  M) fun v1 => c_eq (v1) (38)
       (R_goesBehind_17    (v1) M)
       (c_ne (v1) (124)
       (c_eq (v1) (41)
       (ob (R_joins (1) M) fun M2 => fw M2 73 9 ((M2 73 9) - (1)) fun M3 => fw M3 73 8 ((M3 73 8) - (1)) fun M4 => fw M4 73 3 ((M4 73 3) + (1)) fun M5 => c_ne (M5 73 9) (0)
       ((R_goesBehind_104    (0) M5))
       ((R_goesBehind_104    (1) M5)))
       (ob (R_wrongs (1) (M 73 3) M) fun M6 => some (0, M6)))
       (R_goesBehind_17    (v1) M))
theorem R_goesBehind_118_t {L : Nat} {xs : Nat → Int} {d : Nat} (hd : 3 ≤ d)      (M : am_M) (r : Int × am_M) (h : R_goesBehind_118     M = some r) : am_Ev L xs d me_221 118 [] [] 126 138 M (some (.inl r.1), 126, 138, r.2) := by
  refine ev_k (pc' := 119) (ls' := []) (st' := [.inl (0)]) (nc' := 126) (np' := 138) (M' := M) 1 rfl ?_
  cases h
  exact ev_ret rfl
theorem R_goesBehind_104_t {L : Nat} {xs : Nat → Int} {d : Nat} (hd : 3 ≤ d)     (s1 : Int) (M : am_M) (r : Int × am_M) (h : R_goesBehind_104    s1 M = some r) : am_Ev L xs d me_221 104 [(0, .inr (.inr (some 73)))] [.inl (s1), .inr (.inr (some 73))] 126 138 M (some (.inl r.1), 126, 138, r.2) := by
  refine ev_k (pc' := 104) (ls' := [(0, .inr (.inr (some 73)))]) (st' := [.inl (s1), .inr (.inr (some 73))]) (nc' := 126) (np' := 138) (M' := M) 0 rfl ?_
  obtain ⟨hc, M1, eM, h⟩ := fz_i h
  refine ev_putz (k := 73) (j := 26) rfl rfl (by decide) rfl rfl hc eM ?_
  refine ev_k (pc' := 111) (ls' := [(0, .inr (.inr (some 73)))]) (st' := [.inl (M1 73 26)]) (nc' := 126) (np' := 138) (M' := M1) 2 rfl ?_
  obtain ⟨hR, ⟨hc, h⟩ | ⟨hc, h⟩⟩ := c_ne_i h
  · refine ev_ifc 118 rfl hR.1 (by decide) (fun _ => ?_) (fun q => absurd hc q)
    exact R_goesBehind_118_t hd      M1 r h
  · refine ev_ifc 118 rfl hR.1 (by decide) (fun q => absurd q hc) (fun _ => ?_)
    refine ev_k (pc' := 115) (ls' := [(0, .inr (.inr (some 73)))]) (st' := [.inr (.inr (some 73))]) (nc' := 126) (np' := 138) (M' := M1) 1 rfl ?_
    obtain ⟨M2, hv, h⟩ := ob_i h
    refine ev_call (t := 220) (as := [.inr (.inr (some 73))]) (rest := []) rfl rfl rfl (by omega) (R_ends_e (by omega)  M1 _ hv) ?_
    exact R_goesBehind_118_t hd      M2 r h
theorem R_goesBehind_29_t {L : Nat} {xs : Nat → Int} {d : Nat} (hd : 3 ≤ d)     (x1 : Int) (s1 : Int) (M : am_M) (r : Int × am_M) (h : R_goesBehind_29    x1 s1 M = some r) : am_Ev L xs d me_221 29 [(0, .inr (.inr (some 73))), (1, .inl (x1))] [.inl (s1), .inr (.inr (some 73))] 126 138 M (some (.inl r.1), 126, 138, r.2) := by
  refine ev_k (pc' := 29) (ls' := [(0, .inr (.inr (some 73))), (1, .inl (x1))]) (st' := [.inl (s1), .inr (.inr (some 73))]) (nc' := 126) (np' := 138) (M' := M) 0 rfl ?_
  obtain ⟨M1, hv, h⟩ := ob_i h
  refine ev_call (t := 222) (as := [.inr (.inr (some 73)), .inl (s1)]) (rest := []) rfl rfl rfl (by omega) (R_joins_e (by omega) (s1) M _ hv) ?_
  refine ev_k (pc' := 34) (ls' := [(0, .inr (.inr (some 73))), (1, .inl (x1))]) (st' := [.inl (x1), .inr (.inr (some 73))]) (nc' := 126) (np' := 138) (M' := M1) 2 rfl ?_
  obtain ⟨M2, hv, h⟩ := ob_i h
  refine ev_call (t := 208) (as := [.inr (.inr (some 73)), .inl (x1)]) (rest := []) rfl rfl rfl (by omega) (R_puts_e (by omega) (x1) M1 _ hv) ?_
  refine ev_k (pc' := 38) (ls' := [(0, .inr (.inr (some 73))), (1, .inl (x1))]) (st' := [.inl (1)]) (nc' := 126) (np' := 138) (M' := M2) 1 rfl ?_
  cases h
  exact ev_ret rfl
theorem R_goesBehind_17_t {L : Nat} {xs : Nat → Int} {d : Nat} (hd : 3 ≤ d)     (x1 : Int) (M : am_M) (r : Int × am_M) (h : R_goesBehind_17    x1 M = some r) : am_Ev L xs d me_221 17 [(0, .inr (.inr (some 73))), (1, .inl (x1))] [] 126 138 M (some (.inl r.1), 126, 138, r.2) := by
  refine ev_k (pc' := 21) (ls' := [(0, .inr (.inr (some 73))), (1, .inl (x1))]) (st' := [.inl (124), .inl (x1), .inr (.inr (some 73))]) (nc' := 126) (np' := 138) (M' := M) 3 rfl ?_
  obtain ⟨hR, ⟨hc, h⟩ | ⟨hc, h⟩⟩ := c_ne_i h
  · refine ev_icmp 28 rfl hR.1 hR.2 (by decide) (fun _ => ?_) (fun q => absurd hc q)
    refine ev_k (pc' := 29) (ls' := [(0, .inr (.inr (some 73))), (1, .inl (x1))]) (st' := [.inl (0), .inr (.inr (some 73))]) (nc' := 126) (np' := 138) (M' := M) 1 rfl ?_
    exact R_goesBehind_29_t hd     (x1) (0) M r h
  · refine ev_icmp 28 rfl hR.1 hR.2 (by decide) (fun q => absurd q hc) (fun _ => ?_)
    refine ev_k (pc' := 29) (ls' := [(0, .inr (.inr (some 73))), (1, .inl (x1))]) (st' := [.inl (1), .inr (.inr (some 73))]) (nc' := 126) (np' := 138) (M' := M) 2 rfl ?_
    exact R_goesBehind_29_t hd     (x1) (1) M r h
theorem R_goesBehind_e {L : Nat} {xs : Nat → Int} {d : Nat} (hd : 3 ≤ d)    (M : am_M) (r : Int × am_M) (h : R_goesBehind    M = some r) : am_Ev L xs d me_221 0 (am_ar1 0 [.inr (.inr (some 73))]) [] 126 138 M (some (.inl r.1), 126, 138, r.2) := by
  refine ev_k (pc' := 1) (ls' := [(0, .inr (.inr (some 73)))]) (st' := [.inr (.inr (some 73))]) (nc' := 126) (np' := 138) (M' := M) 1 rfl ?_
  obtain ⟨v1, hv, h⟩ := ob_i h
  refine ev_call (t := 197) (as := [.inr (.inr (some 73))]) (rest := []) rfl rfl rfl (by omega) (R_here_e (by omega)  M _ hv) ?_
  refine ev_k (pc' := 8) (ls' := [(1, .inl (v1)), (0, .inr (.inr (some 73)))]) (st' := [.inl (38), .inl (v1)]) (nc' := 126) (np' := 138) (M' := M) 3 rfl ?_
  obtain ⟨hR, ⟨hc, h⟩ | ⟨hc, h⟩⟩ := c_eq_i h
  · refine ev_icmp 17 rfl hR.1 hR.2 (by decide) (fun _ => ?_) (fun q => absurd hc q)
    exact R_goesBehind_17_t hd     (v1) M r h
  · refine ev_icmp 17 rfl hR.1 hR.2 (by decide) (fun q => absurd q hc) (fun _ => ?_)
    refine ev_k (pc' := 14) (ls' := [(1, .inl (v1)), (0, .inr (.inr (some 73)))]) (st' := [.inl (124), .inl (v1)]) (nc' := 126) (np' := 138) (M' := M) 2 rfl ?_
    obtain ⟨hR, ⟨hc, h⟩ | ⟨hc, h⟩⟩ := c_ne_i h
    · refine ev_icmp 39 rfl hR.1 hR.2 (by decide) (fun _ => ?_) (fun q => absurd hc q)
      refine ev_k (pc' := 42) (ls' := [(1, .inl (v1)), (0, .inr (.inr (some 73)))]) (st' := [.inl (41), .inl (v1)]) (nc' := 126) (np' := 138) (M' := M) 2 rfl ?_
      obtain ⟨hR, ⟨hc, h⟩ | ⟨hc, h⟩⟩ := c_eq_i h
      · refine ev_icmp 56 rfl hR.1 hR.2 (by decide) (fun _ => ?_) (fun q => absurd hc q)
        refine ev_k (pc' := 58) (ls' := [(1, .inl (v1)), (0, .inr (.inr (some 73)))]) (st' := [.inl (1), .inr (.inr (some 73))]) (nc' := 126) (np' := 138) (M' := M) 2 rfl ?_
        obtain ⟨M2, hv, h⟩ := ob_i h
        refine ev_call (t := 222) (as := [.inr (.inr (some 73)), .inl (1)]) (rest := []) rfl rfl rfl (by omega) (R_joins_e (by omega) (1) M _ hv) ?_
        refine ev_k (pc' := 71) (ls' := [(1, .inl (v1)), (0, .inr (.inr (some 73)))]) (st' := []) (nc' := 126) (np' := 138) (M' := am_up M2 73 9 ((M2 73 9) - (1))) 6 rfl ?_
        obtain ⟨M3, eM, h⟩ := fw_i h
        rw [← eM]
        refine ev_k (pc' := 81) (ls' := [(1, .inl (v1)), (0, .inr (.inr (some 73)))]) (st' := []) (nc' := 126) (np' := 138) (M' := am_up M3 73 8 ((M3 73 8) - (1))) 6 rfl ?_
        obtain ⟨M4, eM, h⟩ := fw_i h
        rw [← eM]
        refine ev_k (pc' := 91) (ls' := [(1, .inl (v1)), (0, .inr (.inr (some 73)))]) (st' := []) (nc' := 126) (np' := 138) (M' := am_up M4 73 3 ((M4 73 3) + (1))) 6 rfl ?_
        obtain ⟨M5, eM, h⟩ := fw_i h
        rw [← eM]
        refine ev_k (pc' := 96) (ls' := [(1, .inl (v1)), (0, .inr (.inr (some 73)))]) (st' := [.inl (M5 73 9), .inr (.inr (some 73))]) (nc' := 126) (np' := 138) (M' := M5) 3 rfl ?_
        obtain ⟨hR, ⟨hc, h⟩ | ⟨hc, h⟩⟩ := c_ne_i h
        · refine ev_ifc 103 rfl hR.1 (by decide) (fun _ => ?_) (fun q => absurd hc q)
          refine ev_k (pc' := 104) (ls' := [(0, .inr (.inr (some 73)))]) (st' := [.inl (0), .inr (.inr (some 73))]) (nc' := 126) (np' := 138) (M' := M5) 1 rfl ?_
          exact R_goesBehind_104_t hd     (0) M5 r h
        · refine ev_ifc 103 rfl hR.1 (by decide) (fun q => absurd q hc) (fun _ => ?_)
          refine ev_k (pc' := 104) (ls' := [(0, .inr (.inr (some 73)))]) (st' := [.inl (1), .inr (.inr (some 73))]) (nc' := 126) (np' := 138) (M' := M5) 2 rfl ?_
          exact R_goesBehind_104_t hd     (1) M5 r h
      · refine ev_icmp 56 rfl hR.1 hR.2 (by decide) (fun q => absurd q hc) (fun _ => ?_)
        refine ev_k (pc' := 51) (ls' := [(1, .inl (v1)), (0, .inr (.inr (some 73)))]) (st' := [.inl (M 73 3), .inl (1), .inr (.inr (some 73))]) (nc' := 126) (np' := 138) (M' := M) 4 rfl ?_
        obtain ⟨M6, hv, h⟩ := ob_i h
        refine ev_call (t := 199) (as := [.inr (.inr (some 73)), .inl (1), .inl (M 73 3)]) (rest := []) rfl rfl rfl (by omega) (R_wrongs_e (by omega) (1) (M 73 3) M _ hv) ?_
        refine ev_k (pc' := 55) (ls' := [(1, .inl (v1)), (0, .inr (.inr (some 73)))]) (st' := [.inl (0)]) (nc' := 126) (np' := 138) (M' := M6) 1 rfl ?_
        cases h
        exact ev_ret rfl
    · refine ev_icmp 39 rfl hR.1 hR.2 (by decide) (fun q => absurd q hc) (fun _ => ?_)
      exact R_goesBehind_17_t hd     (v1) M r h
def R_condition_74     (M : am_M) : Option (am_M) := some (M)
def R_condition_59   (k37 : Int → am_M → Option (am_M)) (x1 : Int) (M : am_M) : Option (am_M) := ob (R_isGood  M) fun v1 => c_eq (v1) (0)
       (k37 (x1) M)
       (oc (R_goesBehind  M) fun v2 M3 => (k37 (v2) M3))
def R_condition_37    : Nat → Int → am_M → Option (am_M)
  | 0, _, _ => none
  | n + 1, x1, M => ob (R_isGood  M) fun v1 => c_eq (v1) (0)
       (R_condition_74     M)
       (c_ne (M 73 26) (0)
       (R_condition_74     M)
       (c_eq (x1) (0)
       (R_condition_59   (R_condition_37    n) (x1) M)
       (ob (R_pieceOfC  M) fun M2 => (R_condition_59   (R_condition_37    n) (x1) M2))))
def R_condition_23     (M : am_M) : Option (am_M) := ob (R_isGood  M) fun v1 => c_ne (v1) (0)
       (ob (R_opens  M) fun M2 => (R_condition_37    am_big (1) M2))
       (some (M))
def R_condition     (M : am_M) : Option (am_M) := fz M 73 26 (0) fun M1 => ob (R_here  M1) fun v2 => c_eq (v2) (40)
       (R_condition_23     M1)
       (ob (R_wrongs (1) (M1 73 3) M1) fun M3 => (R_condition_23     M3))
theorem R_condition_74_t {L : Nat} {xs : Nat → Int} {d : Nat} (hd : 6 ≤ d)      (M : am_M) (r : am_M) (h : R_condition_74     M = some r) : am_Ev L xs d me_217 74 [] [] 126 138 M (none, 126, 138, r) := by
  refine ev_k (pc' := 74) (ls' := []) (st' := []) (nc' := 126) (np' := 138) (M' := M) 0 rfl ?_
  cases h
  exact ev_ret rfl
theorem R_condition_59_t {L : Nat} {xs : Nat → Int} {d : Nat} (hd : 6 ≤ d)   (k37 : Int → am_M → Option (am_M)) (hk37 : ∀ (x1 : Int) (M : am_M) (r : am_M), k37 x1 M = some r → am_Ev L xs d me_217 37 [(0, .inr (.inr (some 73))), (1, .inl (x1))] [] 126 138 M (none, 126, 138, r)) (x1 : Int) (M : am_M) (r : am_M) (h : R_condition_59   k37 x1 M = some r) : am_Ev L xs d me_217 59 [(0, .inr (.inr (some 73))), (1, .inl (x1))] [] 126 138 M (none, 126, 138, r) := by
  refine ev_k (pc' := 60) (ls' := [(0, .inr (.inr (some 73))), (1, .inl (x1))]) (st' := [.inr (.inr (some 73))]) (nc' := 126) (np' := 138) (M' := M) 1 rfl ?_
  obtain ⟨v1, hv, h⟩ := ob_i h
  refine ev_call (t := 195) (as := [.inr (.inr (some 73))]) (rest := []) rfl rfl rfl (by omega) (R_isGood_e (by omega)  M _ hv) ?_
  refine ev_k (pc' := 63) (ls' := [(0, .inr (.inr (some 73))), (1, .inl (x1))]) (st' := [.inl (v1)]) (nc' := 126) (np' := 138) (M' := M) 0 rfl ?_
  obtain ⟨hR, ⟨hc, h⟩ | ⟨hc, h⟩⟩ := c_eq_i h
  · refine ev_ifc 37 rfl hR.1 (by decide) (fun _ => ?_) (fun q => absurd hc q)
    exact hk37 (x1) M r h
  · refine ev_ifc 37 rfl hR.1 (by decide) (fun q => absurd q hc) (fun _ => ?_)
    refine ev_k (pc' := 67) (ls' := [(0, .inr (.inr (some 73))), (1, .inl (x1))]) (st' := [.inr (.inr (some 73))]) (nc' := 126) (np' := 138) (M' := M) 1 rfl ?_
    obtain ⟨v2, M3, hv, h⟩ := oc_i h
    refine ev_call (t := 221) (as := [.inr (.inr (some 73))]) (rest := []) rfl rfl rfl (by omega) (R_goesBehind_e (by omega)  M _ hv) ?_
    refine ev_k (pc' := 37) (ls' := [(0, .inr (.inr (some 73))), (1, .inl (v2))]) (st' := []) (nc' := 126) (np' := 138) (M' := M3) 2 rfl ?_
    exact hk37 (v2) M3 r h
theorem R_condition_37_t {L : Nat} {xs : Nat → Int} {d : Nat} (hd : 6 ≤ d)     : ∀ (n : Nat) (x1 : Int) (M : am_M) (r : am_M), R_condition_37    n x1 M = some r → am_Ev L xs d me_217 37 [(0, .inr (.inr (some 73))), (1, .inl (x1))] [] 126 138 M (none, 126, 138, r)
  | 0, _, M, r, h => by cases h
  | n + 1, x1, M, r, h => by
    have ih := R_condition_37_t (L := L) (xs := xs) hd     n
    refine ev_k (pc' := 38) (ls' := [(0, .inr (.inr (some 73))), (1, .inl (x1))]) (st' := [.inr (.inr (some 73))]) (nc' := 126) (np' := 138) (M' := M) 1 rfl ?_
    obtain ⟨v1, hv, h⟩ := ob_i h
    refine ev_call (t := 195) (as := [.inr (.inr (some 73))]) (rest := []) rfl rfl rfl (by omega) (R_isGood_e (by omega)  M _ hv) ?_
    refine ev_k (pc' := 41) (ls' := [(0, .inr (.inr (some 73))), (1, .inl (x1))]) (st' := [.inl (v1)]) (nc' := 126) (np' := 138) (M' := M) 0 rfl ?_
    obtain ⟨hR, ⟨hc, h⟩ | ⟨hc, h⟩⟩ := c_eq_i h
    · refine ev_ifc 74 rfl hR.1 (by decide) (fun _ => ?_) (fun q => absurd hc q)
      exact R_condition_74_t hd      M r h
    · refine ev_ifc 74 rfl hR.1 (by decide) (fun q => absurd q hc) (fun _ => ?_)
      refine ev_k (pc' := 48) (ls' := [(0, .inr (.inr (some 73))), (1, .inl (x1))]) (st' := [.inl (M 73 26)]) (nc' := 126) (np' := 138) (M' := M) 2 rfl ?_
      obtain ⟨hR, ⟨hc, h⟩ | ⟨hc, h⟩⟩ := c_ne_i h
      · refine ev_ifc 74 rfl hR.1 (by decide) (fun _ => ?_) (fun q => absurd hc q)
        exact R_condition_74_t hd      M r h
      · refine ev_ifc 74 rfl hR.1 (by decide) (fun q => absurd q hc) (fun _ => ?_)
        refine ev_k (pc' := 52) (ls' := [(0, .inr (.inr (some 73))), (1, .inl (x1))]) (st' := [.inl (x1)]) (nc' := 126) (np' := 138) (M' := M) 1 rfl ?_
        obtain ⟨hR, ⟨hc, h⟩ | ⟨hc, h⟩⟩ := c_eq_i h
        · refine ev_ifc 59 rfl hR.1 (by decide) (fun _ => ?_) (fun q => absurd hc q)
          exact R_condition_59_t hd   (R_condition_37    n) ih (x1) M r h
        · refine ev_ifc 59 rfl hR.1 (by decide) (fun q => absurd q hc) (fun _ => ?_)
          refine ev_k (pc' := 56) (ls' := [(0, .inr (.inr (some 73))), (1, .inl (x1))]) (st' := [.inr (.inr (some 73))]) (nc' := 126) (np' := 138) (M' := M) 1 rfl ?_
          obtain ⟨M2, hv, h⟩ := ob_i h
          refine ev_call (t := 218) (as := [.inr (.inr (some 73))]) (rest := []) rfl rfl rfl (by omega) (R_pieceOfC_e (by omega)  M _ hv) ?_
          exact R_condition_59_t hd   (R_condition_37    n) ih (x1) M2 r h
theorem R_condition_23_t {L : Nat} {xs : Nat → Int} {d : Nat} (hd : 6 ≤ d)      (M : am_M) (r : am_M) (h : R_condition_23     M = some r) : am_Ev L xs d me_217 23 [(0, .inr (.inr (some 73)))] [] 126 138 M (none, 126, 138, r) := by
  refine ev_k (pc' := 24) (ls' := [(0, .inr (.inr (some 73)))]) (st' := [.inr (.inr (some 73))]) (nc' := 126) (np' := 138) (M' := M) 1 rfl ?_
  obtain ⟨v1, hv, h⟩ := ob_i h
  refine ev_call (t := 195) (as := [.inr (.inr (some 73))]) (rest := []) rfl rfl rfl (by omega) (R_isGood_e (by omega)  M _ hv) ?_
  refine ev_k (pc' := 27) (ls' := [(0, .inr (.inr (some 73)))]) (st' := [.inl (v1)]) (nc' := 126) (np' := 138) (M' := M) 0 rfl ?_
  obtain ⟨hR, ⟨hc, h⟩ | ⟨hc, h⟩⟩ := c_ne_i h
  · refine ev_ifc 31 rfl hR.1 (by decide) (fun _ => ?_) (fun q => absurd hc q)
    refine ev_k (pc' := 32) (ls' := [(0, .inr (.inr (some 73)))]) (st' := [.inr (.inr (some 73))]) (nc' := 126) (np' := 138) (M' := M) 1 rfl ?_
    obtain ⟨M2, hv, h⟩ := ob_i h
    refine ev_call (t := 207) (as := [.inr (.inr (some 73))]) (rest := []) rfl rfl rfl (by omega) (R_opens_e (by omega)  M _ hv) ?_
    refine ev_k (pc' := 37) (ls' := [(0, .inr (.inr (some 73))), (1, .inl (1))]) (st' := []) (nc' := 126) (np' := 138) (M' := M2) 2 rfl ?_
    exact R_condition_37_t hd     am_big (1) M2 r h
  · refine ev_ifc 31 rfl hR.1 (by decide) (fun q => absurd q hc) (fun _ => ?_)
    refine ev_k (pc' := 30) (ls' := [(0, .inr (.inr (some 73)))]) (st' := []) (nc' := 126) (np' := 138) (M' := M) 0 rfl ?_
    cases h
    exact ev_ret rfl
theorem R_condition_e {L : Nat} {xs : Nat → Int} {d : Nat} (hd : 6 ≤ d)    (M : am_M) (r : am_M) (h : R_condition    M = some r) : am_Ev L xs d me_217 0 (am_ar1 0 [.inr (.inr (some 73))]) [] 126 138 M (none, 126, 138, r) := by
  refine ev_k (pc' := 2) (ls' := [(0, .inr (.inr (some 73)))]) (st' := [.inl (0), .inr (.inr (some 73))]) (nc' := 126) (np' := 138) (M' := M) 2 rfl ?_
  obtain ⟨hc, M1, eM, h⟩ := fz_i h
  refine ev_putz (k := 73) (j := 26) rfl rfl (by decide) rfl rfl hc eM ?_
  refine ev_k (pc' := 6) (ls' := [(0, .inr (.inr (some 73)))]) (st' := [.inr (.inr (some 73))]) (nc' := 126) (np' := 138) (M' := M1) 1 rfl ?_
  obtain ⟨v2, hv, h⟩ := ob_i h
  refine ev_call (t := 197) (as := [.inr (.inr (some 73))]) (rest := []) rfl rfl rfl (by omega) (R_here_e (by omega)  M1 _ hv) ?_
  refine ev_k (pc' := 11) (ls' := [(0, .inr (.inr (some 73)))]) (st' := [.inl (40), .inl (v2)]) (nc' := 126) (np' := 138) (M' := M1) 1 rfl ?_
  obtain ⟨hR, ⟨hc, h⟩ | ⟨hc, h⟩⟩ := c_eq_i h
  · refine ev_icmp 23 rfl hR.1 hR.2 (by decide) (fun _ => ?_) (fun q => absurd hc q)
    exact R_condition_23_t hd      M1 r h
  · refine ev_icmp 23 rfl hR.1 hR.2 (by decide) (fun q => absurd q hc) (fun _ => ?_)
    refine ev_k (pc' := 20) (ls' := [(0, .inr (.inr (some 73)))]) (st' := [.inl (M1 73 3), .inl (1), .inr (.inr (some 73))]) (nc' := 126) (np' := 138) (M' := M1) 4 rfl ?_
    obtain ⟨M3, hv, h⟩ := ob_i h
    refine ev_call (t := 199) (as := [.inr (.inr (some 73)), .inl (1), .inl (M1 73 3)]) (rest := []) rfl rfl rfl (by omega) (R_wrongs_e (by omega) (1) (M1 73 3) M1 _ hv) ?_
    exact R_condition_23_t hd      M3 r h
def R_clause_150     (M : am_M) : Option (am_M) := wa M 86 16 (M 73 6) (M 73 7) fun M1 => fw M1 73 6 ((M1 73 6) + (1)) fun M2 => some (M2)
def R_clause_71    (x1 : Int) (M : am_M) : Option (am_M) := ob (R_isGood  M) fun v1 => c_ne (v1) (0)
       (wa M 83 16 (M 73 6) (x1) fun M2 => wa M2 84 16 (M2 73 6) (M2 73 7) fun M3 => fw M3 73 3 ((M3 73 3) + (1)) fun M4 => fw M4 73 9 (0) fun M5 => fw M5 73 8 (0) fun M6 => ob (R_value  M6) fun M7 => wa M7 85 16 (M7 73 6) (M7 73 7) fun M8 => ob (R_isGood  M8) fun v9 => c_eq (v9) (0)
       (R_clause_150     M8)
       (ob (R_condition  M8) fun M10 => (R_clause_150     M10)))
       (some (M))
def R_clause_53    (x1 : Int) (M : am_M) : Option (am_M) := c_ne (M 73 6) (16)
       (R_clause_71    (x1) M)
       (ob (R_wrongs (4) (M 73 3) M) fun M1 => (R_clause_71    (x1) M1))
def R_clause     (M : am_M) : Option (am_M) := ob (R_here  M) fun v1 => c_eq (v1) (99)
       (R_clause_53    (v1) M)
       (c_eq (v1) (118)
       (R_clause_53    (v1) M)
       (c_eq (v1) (103)
       (R_clause_53    (v1) M)
       (c_eq (v1) (110)
       (R_clause_53    (v1) M)
       (c_eq (v1) (101)
       (R_clause_53    (v1) M)
       (c_eq (v1) (100)
       (R_clause_53    (v1) M)
       (ob (R_wrongs (1) (M 73 3) M) fun M2 => (R_clause_71    (v1) M2)))))))
theorem R_clause_150_t {L : Nat} {xs : Nat → Int} {d : Nat} (hd : 7 ≤ d)      (M : am_M) (r : am_M) (h : R_clause_150     M = some r) : am_Ev L xs d me_204 150 [(0, .inr (.inr (some 73)))] [] 126 138 M (none, 126, 138, r) := by
  refine ev_k (pc' := 162) (ls' := [(0, .inr (.inr (some 73)))]) (st' := [.inl (M 73 7), .inl (M 73 6), .inr (.inr (some 86))]) (nc' := 126) (np' := 138) (M' := M) 6 rfl ?_
  obtain ⟨hc, M1, eM, h⟩ := wa_i h
  refine ev_iast (k := 86) rfl (by decide) rfl hc eM ?_
  refine ev_k (pc' := 173) (ls' := [(0, .inr (.inr (some 73)))]) (st' := []) (nc' := 126) (np' := 138) (M' := am_up M1 73 6 ((M1 73 6) + (1))) 6 rfl ?_
  obtain ⟨M2, eM, h⟩ := fw_i h
  rw [← eM]
  refine ev_k (pc' := 173) (ls' := [(0, .inr (.inr (some 73)))]) (st' := []) (nc' := 126) (np' := 138) (M' := M2) 0 rfl ?_
  cases h
  exact ev_ret rfl
theorem R_clause_71_t {L : Nat} {xs : Nat → Int} {d : Nat} (hd : 7 ≤ d)     (x1 : Int) (M : am_M) (r : am_M) (h : R_clause_71    x1 M = some r) : am_Ev L xs d me_204 71 [(0, .inr (.inr (some 73))), (1, .inl (x1))] [] 126 138 M (none, 126, 138, r) := by
  refine ev_k (pc' := 72) (ls' := [(0, .inr (.inr (some 73))), (1, .inl (x1))]) (st' := [.inr (.inr (some 73))]) (nc' := 126) (np' := 138) (M' := M) 1 rfl ?_
  obtain ⟨v1, hv, h⟩ := ob_i h
  refine ev_call (t := 195) (as := [.inr (.inr (some 73))]) (rest := []) rfl rfl rfl (by omega) (R_isGood_e (by omega)  M _ hv) ?_
  refine ev_k (pc' := 75) (ls' := [(0, .inr (.inr (some 73))), (1, .inl (x1))]) (st' := [.inl (v1)]) (nc' := 126) (np' := 138) (M' := M) 0 rfl ?_
  obtain ⟨hR, ⟨hc, h⟩ | ⟨hc, h⟩⟩ := c_ne_i h
  · refine ev_ifc 79 rfl hR.1 (by decide) (fun _ => ?_) (fun q => absurd hc q)
    refine ev_k (pc' := 88) (ls' := [(0, .inr (.inr (some 73))), (1, .inl (x1))]) (st' := [.inl (x1), .inl (M 73 6), .inr (.inr (some 83))]) (nc' := 126) (np' := 138) (M' := M) 5 rfl ?_
    obtain ⟨hc, M2, eM, h⟩ := wa_i h
    refine ev_iast (k := 83) rfl (by decide) rfl hc eM ?_
    refine ev_k (pc' := 101) (ls' := [(0, .inr (.inr (some 73))), (1, .inl (x1))]) (st' := [.inl (M2 73 7), .inl (M2 73 6), .inr (.inr (some 84))]) (nc' := 126) (np' := 138) (M' := M2) 6 rfl ?_
    obtain ⟨hc, M3, eM, h⟩ := wa_i h
    refine ev_iast (k := 84) rfl (by decide) rfl hc eM ?_
    refine ev_k (pc' := 112) (ls' := [(0, .inr (.inr (some 73))), (1, .inl (x1))]) (st' := []) (nc' := 126) (np' := 138) (M' := am_up M3 73 3 ((M3 73 3) + (1))) 6 rfl ?_
    obtain ⟨M4, eM, h⟩ := fw_i h
    rw [← eM]
    refine ev_k (pc' := 117) (ls' := [(0, .inr (.inr (some 73))), (1, .inl (x1))]) (st' := []) (nc' := 126) (np' := 138) (M' := am_up M4 73 9 (0)) 3 rfl ?_
    obtain ⟨M5, eM, h⟩ := fw_i h
    rw [← eM]
    refine ev_k (pc' := 122) (ls' := [(0, .inr (.inr (some 73))), (1, .inl (x1))]) (st' := []) (nc' := 126) (np' := 138) (M' := am_up M5 73 8 (0)) 3 rfl ?_
    obtain ⟨M6, eM, h⟩ := fw_i h
    rw [← eM]
    refine ev_k (pc' := 123) (ls' := [(0, .inr (.inr (some 73))), (1, .inl (x1))]) (st' := [.inr (.inr (some 73))]) (nc' := 126) (np' := 138) (M' := M6) 1 rfl ?_
    obtain ⟨M7, hv, h⟩ := ob_i h
    refine ev_call (t := 205) (as := [.inr (.inr (some 73))]) (rest := []) rfl rfl rfl (by omega) (R_value_e (by omega)  M6 _ hv) ?_
    refine ev_k (pc' := 138) (ls' := [(0, .inr (.inr (some 73))), (1, .inl (x1))]) (st' := [.inl (M7 73 7), .inl (M7 73 6), .inr (.inr (some 85))]) (nc' := 126) (np' := 138) (M' := M7) 6 rfl ?_
    obtain ⟨hc, M8, eM, h⟩ := wa_i h
    refine ev_iast (k := 85) rfl (by decide) rfl hc eM ?_
    refine ev_k (pc' := 140) (ls' := [(0, .inr (.inr (some 73))), (1, .inl (x1))]) (st' := [.inr (.inr (some 73))]) (nc' := 126) (np' := 138) (M' := M8) 1 rfl ?_
    obtain ⟨v9, hv, h⟩ := ob_i h
    refine ev_call (t := 195) (as := [.inr (.inr (some 73))]) (rest := []) rfl rfl rfl (by omega) (R_isGood_e (by omega)  M8 _ hv) ?_
    refine ev_k (pc' := 143) (ls' := [(0, .inr (.inr (some 73))), (1, .inl (x1))]) (st' := [.inl (v9)]) (nc' := 126) (np' := 138) (M' := M8) 0 rfl ?_
    obtain ⟨hR, ⟨hc, h⟩ | ⟨hc, h⟩⟩ := c_eq_i h
    · refine ev_ifc 150 rfl hR.1 (by decide) (fun _ => ?_) (fun q => absurd hc q)
      exact R_clause_150_t hd      M8 r h
    · refine ev_ifc 150 rfl hR.1 (by decide) (fun q => absurd q hc) (fun _ => ?_)
      refine ev_k (pc' := 147) (ls' := [(0, .inr (.inr (some 73))), (1, .inl (x1))]) (st' := [.inr (.inr (some 73))]) (nc' := 126) (np' := 138) (M' := M8) 1 rfl ?_
      obtain ⟨M10, hv, h⟩ := ob_i h
      refine ev_call (t := 217) (as := [.inr (.inr (some 73))]) (rest := []) rfl rfl rfl (by omega) (R_condition_e (by omega)  M8 _ hv) ?_
      exact R_clause_150_t hd      M10 r h
  · refine ev_ifc 79 rfl hR.1 (by decide) (fun q => absurd q hc) (fun _ => ?_)
    refine ev_k (pc' := 78) (ls' := [(0, .inr (.inr (some 73))), (1, .inl (x1))]) (st' := []) (nc' := 126) (np' := 138) (M' := M) 0 rfl ?_
    cases h
    exact ev_ret rfl
theorem R_clause_53_t {L : Nat} {xs : Nat → Int} {d : Nat} (hd : 7 ≤ d)     (x1 : Int) (M : am_M) (r : am_M) (h : R_clause_53    x1 M = some r) : am_Ev L xs d me_204 53 [(0, .inr (.inr (some 73))), (1, .inl (x1))] [] 126 138 M (none, 126, 138, r) := by
  refine ev_k (pc' := 59) (ls' := [(0, .inr (.inr (some 73))), (1, .inl (x1))]) (st' := [.inl (16), .inl (M 73 6)]) (nc' := 126) (np' := 138) (M' := M) 3 rfl ?_
  obtain ⟨hR, ⟨hc, h⟩ | ⟨hc, h⟩⟩ := c_ne_i h
  · refine ev_icmp 71 rfl hR.1 hR.2 (by decide) (fun _ => ?_) (fun q => absurd hc q)
    exact R_clause_71_t hd     (x1) M r h
  · refine ev_icmp 71 rfl hR.1 hR.2 (by decide) (fun q => absurd q hc) (fun _ => ?_)
    refine ev_k (pc' := 68) (ls' := [(0, .inr (.inr (some 73))), (1, .inl (x1))]) (st' := [.inl (M 73 3), .inl (4), .inr (.inr (some 73))]) (nc' := 126) (np' := 138) (M' := M) 4 rfl ?_
    obtain ⟨M1, hv, h⟩ := ob_i h
    refine ev_call (t := 199) (as := [.inr (.inr (some 73)), .inl (4), .inl (M 73 3)]) (rest := []) rfl rfl rfl (by omega) (R_wrongs_e (by omega) (4) (M 73 3) M _ hv) ?_
    exact R_clause_71_t hd     (x1) M1 r h
theorem R_clause_e {L : Nat} {xs : Nat → Int} {d : Nat} (hd : 7 ≤ d)    (M : am_M) (r : am_M) (h : R_clause    M = some r) : am_Ev L xs d me_204 0 (am_ar1 0 [.inr (.inr (some 73))]) [] 126 138 M (none, 126, 138, r) := by
  refine ev_k (pc' := 1) (ls' := [(0, .inr (.inr (some 73)))]) (st' := [.inr (.inr (some 73))]) (nc' := 126) (np' := 138) (M' := M) 1 rfl ?_
  obtain ⟨v1, hv, h⟩ := ob_i h
  refine ev_call (t := 197) (as := [.inr (.inr (some 73))]) (rest := []) rfl rfl rfl (by omega) (R_here_e (by omega)  M _ hv) ?_
  refine ev_k (pc' := 8) (ls' := [(1, .inl (v1)), (0, .inr (.inr (some 73)))]) (st' := [.inl (99), .inl (v1)]) (nc' := 126) (np' := 138) (M' := M) 3 rfl ?_
  obtain ⟨hR, ⟨hc, h⟩ | ⟨hc, h⟩⟩ := c_eq_i h
  · refine ev_icmp 53 rfl hR.1 hR.2 (by decide) (fun _ => ?_) (fun q => absurd hc q)
    exact R_clause_53_t hd     (v1) M r h
  · refine ev_icmp 53 rfl hR.1 hR.2 (by decide) (fun q => absurd q hc) (fun _ => ?_)
    refine ev_k (pc' := 14) (ls' := [(1, .inl (v1)), (0, .inr (.inr (some 73)))]) (st' := [.inl (118), .inl (v1)]) (nc' := 126) (np' := 138) (M' := M) 2 rfl ?_
    obtain ⟨hR, ⟨hc, h⟩ | ⟨hc, h⟩⟩ := c_eq_i h
    · refine ev_icmp 53 rfl hR.1 hR.2 (by decide) (fun _ => ?_) (fun q => absurd hc q)
      exact R_clause_53_t hd     (v1) M r h
    · refine ev_icmp 53 rfl hR.1 hR.2 (by decide) (fun q => absurd q hc) (fun _ => ?_)
      refine ev_k (pc' := 20) (ls' := [(1, .inl (v1)), (0, .inr (.inr (some 73)))]) (st' := [.inl (103), .inl (v1)]) (nc' := 126) (np' := 138) (M' := M) 2 rfl ?_
      obtain ⟨hR, ⟨hc, h⟩ | ⟨hc, h⟩⟩ := c_eq_i h
      · refine ev_icmp 53 rfl hR.1 hR.2 (by decide) (fun _ => ?_) (fun q => absurd hc q)
        exact R_clause_53_t hd     (v1) M r h
      · refine ev_icmp 53 rfl hR.1 hR.2 (by decide) (fun q => absurd q hc) (fun _ => ?_)
        refine ev_k (pc' := 26) (ls' := [(1, .inl (v1)), (0, .inr (.inr (some 73)))]) (st' := [.inl (110), .inl (v1)]) (nc' := 126) (np' := 138) (M' := M) 2 rfl ?_
        obtain ⟨hR, ⟨hc, h⟩ | ⟨hc, h⟩⟩ := c_eq_i h
        · refine ev_icmp 53 rfl hR.1 hR.2 (by decide) (fun _ => ?_) (fun q => absurd hc q)
          exact R_clause_53_t hd     (v1) M r h
        · refine ev_icmp 53 rfl hR.1 hR.2 (by decide) (fun q => absurd q hc) (fun _ => ?_)
          refine ev_k (pc' := 32) (ls' := [(1, .inl (v1)), (0, .inr (.inr (some 73)))]) (st' := [.inl (101), .inl (v1)]) (nc' := 126) (np' := 138) (M' := M) 2 rfl ?_
          obtain ⟨hR, ⟨hc, h⟩ | ⟨hc, h⟩⟩ := c_eq_i h
          · refine ev_icmp 53 rfl hR.1 hR.2 (by decide) (fun _ => ?_) (fun q => absurd hc q)
            exact R_clause_53_t hd     (v1) M r h
          · refine ev_icmp 53 rfl hR.1 hR.2 (by decide) (fun q => absurd q hc) (fun _ => ?_)
            refine ev_k (pc' := 38) (ls' := [(1, .inl (v1)), (0, .inr (.inr (some 73)))]) (st' := [.inl (100), .inl (v1)]) (nc' := 126) (np' := 138) (M' := M) 2 rfl ?_
            obtain ⟨hR, ⟨hc, h⟩ | ⟨hc, h⟩⟩ := c_eq_i h
            · refine ev_icmp 53 rfl hR.1 hR.2 (by decide) (fun _ => ?_) (fun q => absurd hc q)
              exact R_clause_53_t hd     (v1) M r h
            · refine ev_icmp 53 rfl hR.1 hR.2 (by decide) (fun q => absurd q hc) (fun _ => ?_)
              refine ev_k (pc' := 47) (ls' := [(1, .inl (v1)), (0, .inr (.inr (some 73)))]) (st' := [.inl (M 73 3), .inl (1), .inr (.inr (some 73))]) (nc' := 126) (np' := 138) (M' := M) 4 rfl ?_
              obtain ⟨M2, hv, h⟩ := ob_i h
              refine ev_call (t := 199) (as := [.inr (.inr (some 73)), .inl (1), .inl (M 73 3)]) (rest := []) rfl rfl rfl (by omega) (R_wrongs_e (by omega) (1) (M 73 3) M _ hv) ?_
              refine ev_k (pc' := 71) (ls' := [(0, .inr (.inr (some 73))), (1, .inl (v1))]) (st' := []) (nc' := 126) (np' := 138) (M' := M2) 1 rfl ?_
              exact R_clause_71_t hd     (v1) M2 r h
