def R_lawm_20     (M : am_M) : Option (Int × am_M) := some (-1, M)
def R_lawm_199    : Nat → Int → am_M → Option (Int × am_M)
  | 0, _, _ => none
  | n + 1, x3, M => c_ge (x3) (M 73 7)
       (some (M 73 6, M))
       (rd M 87 240 (x3) fun v1 => wa M 81 240 (x3) (v1) fun M2 => rd M2 88 240 (x3) fun v3 => wa M2 82 240 (x3) (v3) fun M4 => (R_lawm_199    n ((x3) + (1)) M4))
def R_lawm_135    : Nat → Int → am_M → Option (Int × am_M)
  | 0, _, _ => none
  | n + 1, x3, M => c_ge (x3) (M 73 6)
       ((R_lawm_199    am_big (0) M))
       (rd M 83 16 (x3) fun v1 => wa M 77 16 (x3) (v1) fun M2 => rd M2 84 16 (x3) fun v3 => wa M2 78 16 (x3) (v3) fun M4 => rd M4 85 16 (x3) fun v5 => wa M4 79 16 (x3) (v5) fun M6 => rd M6 86 16 (x3) fun v7 => wa M6 80 16 (x3) (v7) fun M8 => (R_lawm_135    n ((x3) + (1)) M8))
def R_lawm_113     (M : am_M) : Option (Int × am_M) := c_ge (M 73 5) (0)
       (fw M 73 19 (M 73 6) fun M1 => (R_lawm_135    am_big (0) M1))
       (some (M 73 5, M))
def R_lawm_100   (k39 : Int → am_M → Option (Int × am_M)) (x2 : Int) (M : am_M) : Option (Int × am_M) := fw M 73 3 ((M 73 3) + (1)) fun M1 => (k39 (x2) M1)
def R_lawm_77   (k39 : Int → am_M → Option (Int × am_M)) (s0 : Int) (M : am_M) : Option (Int × am_M) := c_eq (s0) (0)
       (k39 (s0) M)
       (ob (R_here  M) fun v1 => c_eq (v1) (59)
       (R_lawm_100   k39 (s0) M)
       (ob (R_wrongs (1) (M 73 3) M) fun M2 => (R_lawm_100   k39 (s0) M2)))
def R_lawm_76   (k39 : Int → am_M → Option (Int × am_M))  (M : am_M) : Option (Int × am_M) := (R_lawm_77   k39 (0) M)
def R_lawm_39    : Nat → Int → am_M → Option (Int × am_M)
  | 0, _, _ => none
  | n + 1, x2, M => c_eq (x2) (0)
       (R_lawm_113     M)
       (ob (R_isGood  M) fun v1 => c_eq (v1) (0)
       (R_lawm_113     M)
       (ob (R_clause  M) fun M2 => ob (R_isGood  M2) fun v3 => c_eq (v3) (0)
       (R_lawm_76   (R_lawm_39    n)  M2)
       (c_ge (M2 73 3) (M2 73 4)
       (R_lawm_76   (R_lawm_39    n)  M2)
       ((R_lawm_77   (R_lawm_39    n) (1) M2)))))
def R_lawm    (x1 : Int) (M : am_M) : Option (Int × am_M) := ck (am_R (x1)) (ob (R_lies (x1) (1) (240) M) fun v1 => c_eq (v1) (0)
       (R_lawm_20     M)
       (c_le (x1) (M 73 1)
       (ob (R_begins (x1) M) fun M2 => fw M2 73 6 (0) fun M3 => fw M3 73 7 (0) fun M4 => (R_lawm_39    am_big (1) M4))
       (R_lawm_20     M)))
theorem R_lawm_20_t {L : Nat} {xs : Nat → Int} {d : Nat} (hd : 8 ≤ d)      (M : am_M) (r : Int × am_M) (h : R_lawm_20     M = some r) : am_Ev L xs d me_203 20 [] [] 126 138 M (some (.inl r.1), 126, 138, r.2) := by
  refine ev_k (pc' := 21) (ls' := []) (st' := [.inl (-1)]) (nc' := 126) (np' := 138) (M' := M) 1 rfl ?_
  cases h
  exact ev_ret rfl
theorem R_lawm_199_t {L : Nat} {xs : Nat → Int} {d : Nat} (hd : 8 ≤ d)     : ∀ (n : Nat) (x3 : Int) (M : am_M) (r : Int × am_M), R_lawm_199    n x3 M = some r → am_Ev L xs d me_203 199 [(0, .inr (.inr (some 73))), (3, .inl (x3))] [] 126 138 M (some (.inl r.1), 126, 138, r.2)
  | 0, _, M, r, h => by cases h
  | n + 1, x3, M, r, h => by
    have ih := R_lawm_199_t (L := L) (xs := xs) hd     n
    refine ev_k (pc' := 204) (ls' := [(0, .inr (.inr (some 73))), (3, .inl (x3))]) (st' := [.inl (M 73 7), .inl (x3)]) (nc' := 126) (np' := 138) (M' := M) 3 rfl ?_
    obtain ⟨hR, ⟨hc, h⟩ | ⟨hc, h⟩⟩ := c_ge_i h
    · refine ev_icmp 237 rfl hR.1 hR.2 (by decide) (fun _ => ?_) (fun q => absurd hc q)
      refine ev_k (pc' := 241) (ls' := [(0, .inr (.inr (some 73))), (3, .inl (x3))]) (st' := [.inl (M 73 6)]) (nc' := 126) (np' := 138) (M' := M) 2 rfl ?_
      cases h
      exact ev_ret rfl
    · refine ev_icmp 237 rfl hR.1 hR.2 (by decide) (fun q => absurd q hc) (fun _ => ?_)
      refine ev_k (pc' := 217) (ls' := [(0, .inr (.inr (some 73))), (3, .inl (x3))]) (st' := [.inl (x3), .inr (.inr (some 87)), .inl (x3), .inr (.inr (some 81))]) (nc' := 126) (np' := 138) (M' := M) 6 rfl ?_
      obtain ⟨hc, v1, ev, h⟩ := rd_i h
      refine ev_ald (k := 87) (t := 0) (Or.inl ⟨rfl, rfl⟩) rfl (by decide) (by decide) rfl hc ev ?_
      refine ev_k (pc' := 218) (ls' := [(0, .inr (.inr (some 73))), (3, .inl (x3))]) (st' := [.inl (v1), .inl (x3), .inr (.inr (some 81))]) (nc' := 126) (np' := 138) (M' := M) 0 rfl ?_
      obtain ⟨hc, M2, eM, h⟩ := wa_i h
      refine ev_iast (k := 81) rfl (by decide) rfl hc eM ?_
      refine ev_k (pc' := 229) (ls' := [(0, .inr (.inr (some 73))), (3, .inl (x3))]) (st' := [.inl (x3), .inr (.inr (some 88)), .inl (x3), .inr (.inr (some 82))]) (nc' := 126) (np' := 138) (M' := M2) 6 rfl ?_
      obtain ⟨hc, v3, ev, h⟩ := rd_i h
      refine ev_ald (k := 88) (t := 0) (Or.inl ⟨rfl, rfl⟩) rfl (by decide) (by decide) rfl hc ev ?_
      refine ev_k (pc' := 230) (ls' := [(0, .inr (.inr (some 73))), (3, .inl (x3))]) (st' := [.inl (v3), .inl (x3), .inr (.inr (some 82))]) (nc' := 126) (np' := 138) (M' := M2) 0 rfl ?_
      obtain ⟨hc, M4, eM, h⟩ := wa_i h
      refine ev_iast (k := 82) rfl (by decide) rfl hc eM ?_
      refine ev_k (pc' := 199) (ls' := [(0, .inr (.inr (some 73))), (3, .inl ((x3) + (1)))]) (st' := []) (nc' := 126) (np' := 138) (M' := M4) 2 rfl ?_
      exact ih ((x3) + (1)) M4 r h
theorem R_lawm_135_t {L : Nat} {xs : Nat → Int} {d : Nat} (hd : 8 ≤ d)     : ∀ (n : Nat) (x3 : Int) (M : am_M) (r : Int × am_M), R_lawm_135    n x3 M = some r → am_Ev L xs d me_203 135 [(0, .inr (.inr (some 73))), (3, .inl (x3))] [] 126 138 M (some (.inl r.1), 126, 138, r.2)
  | 0, _, M, r, h => by cases h
  | n + 1, x3, M, r, h => by
    have ih := R_lawm_135_t (L := L) (xs := xs) hd     n
    refine ev_k (pc' := 140) (ls' := [(0, .inr (.inr (some 73))), (3, .inl (x3))]) (st' := [.inl (M 73 6), .inl (x3)]) (nc' := 126) (np' := 138) (M' := M) 3 rfl ?_
    obtain ⟨hR, ⟨hc, h⟩ | ⟨hc, h⟩⟩ := c_ge_i h
    · refine ev_icmp 197 rfl hR.1 hR.2 (by decide) (fun _ => ?_) (fun q => absurd hc q)
      refine ev_k (pc' := 199) (ls' := [(0, .inr (.inr (some 73))), (3, .inl (0))]) (st' := []) (nc' := 126) (np' := 138) (M' := M) 2 rfl ?_
      exact R_lawm_199_t hd     am_big (0) M r h
    · refine ev_icmp 197 rfl hR.1 hR.2 (by decide) (fun q => absurd q hc) (fun _ => ?_)
      refine ev_k (pc' := 153) (ls' := [(0, .inr (.inr (some 73))), (3, .inl (x3))]) (st' := [.inl (x3), .inr (.inr (some 83)), .inl (x3), .inr (.inr (some 77))]) (nc' := 126) (np' := 138) (M' := M) 6 rfl ?_
      obtain ⟨hc, v1, ev, h⟩ := rd_i h
      refine ev_ald (k := 83) (t := 0) (Or.inl ⟨rfl, rfl⟩) rfl (by decide) (by decide) rfl hc ev ?_
      refine ev_k (pc' := 154) (ls' := [(0, .inr (.inr (some 73))), (3, .inl (x3))]) (st' := [.inl (v1), .inl (x3), .inr (.inr (some 77))]) (nc' := 126) (np' := 138) (M' := M) 0 rfl ?_
      obtain ⟨hc, M2, eM, h⟩ := wa_i h
      refine ev_iast (k := 77) rfl (by decide) rfl hc eM ?_
      refine ev_k (pc' := 165) (ls' := [(0, .inr (.inr (some 73))), (3, .inl (x3))]) (st' := [.inl (x3), .inr (.inr (some 84)), .inl (x3), .inr (.inr (some 78))]) (nc' := 126) (np' := 138) (M' := M2) 6 rfl ?_
      obtain ⟨hc, v3, ev, h⟩ := rd_i h
      refine ev_ald (k := 84) (t := 0) (Or.inl ⟨rfl, rfl⟩) rfl (by decide) (by decide) rfl hc ev ?_
      refine ev_k (pc' := 166) (ls' := [(0, .inr (.inr (some 73))), (3, .inl (x3))]) (st' := [.inl (v3), .inl (x3), .inr (.inr (some 78))]) (nc' := 126) (np' := 138) (M' := M2) 0 rfl ?_
      obtain ⟨hc, M4, eM, h⟩ := wa_i h
      refine ev_iast (k := 78) rfl (by decide) rfl hc eM ?_
      refine ev_k (pc' := 177) (ls' := [(0, .inr (.inr (some 73))), (3, .inl (x3))]) (st' := [.inl (x3), .inr (.inr (some 85)), .inl (x3), .inr (.inr (some 79))]) (nc' := 126) (np' := 138) (M' := M4) 6 rfl ?_
      obtain ⟨hc, v5, ev, h⟩ := rd_i h
      refine ev_ald (k := 85) (t := 0) (Or.inl ⟨rfl, rfl⟩) rfl (by decide) (by decide) rfl hc ev ?_
      refine ev_k (pc' := 178) (ls' := [(0, .inr (.inr (some 73))), (3, .inl (x3))]) (st' := [.inl (v5), .inl (x3), .inr (.inr (some 79))]) (nc' := 126) (np' := 138) (M' := M4) 0 rfl ?_
      obtain ⟨hc, M6, eM, h⟩ := wa_i h
      refine ev_iast (k := 79) rfl (by decide) rfl hc eM ?_
      refine ev_k (pc' := 189) (ls' := [(0, .inr (.inr (some 73))), (3, .inl (x3))]) (st' := [.inl (x3), .inr (.inr (some 86)), .inl (x3), .inr (.inr (some 80))]) (nc' := 126) (np' := 138) (M' := M6) 6 rfl ?_
      obtain ⟨hc, v7, ev, h⟩ := rd_i h
      refine ev_ald (k := 86) (t := 0) (Or.inl ⟨rfl, rfl⟩) rfl (by decide) (by decide) rfl hc ev ?_
      refine ev_k (pc' := 190) (ls' := [(0, .inr (.inr (some 73))), (3, .inl (x3))]) (st' := [.inl (v7), .inl (x3), .inr (.inr (some 80))]) (nc' := 126) (np' := 138) (M' := M6) 0 rfl ?_
      obtain ⟨hc, M8, eM, h⟩ := wa_i h
      refine ev_iast (k := 80) rfl (by decide) rfl hc eM ?_
      refine ev_k (pc' := 135) (ls' := [(0, .inr (.inr (some 73))), (3, .inl ((x3) + (1)))]) (st' := []) (nc' := 126) (np' := 138) (M' := M8) 2 rfl ?_
      exact ih ((x3) + (1)) M8 r h
theorem R_lawm_113_t {L : Nat} {xs : Nat → Int} {d : Nat} (hd : 8 ≤ d)      (M : am_M) (r : Int × am_M) (h : R_lawm_113     M = some r) : am_Ev L xs d me_203 113 [(0, .inr (.inr (some 73)))] [] 126 138 M (some (.inl r.1), 126, 138, r.2) := by
  refine ev_k (pc' := 117) (ls' := [(0, .inr (.inr (some 73)))]) (st' := [.inl (M 73 5)]) (nc' := 126) (np' := 138) (M' := M) 2 rfl ?_
  obtain ⟨hR, ⟨hc, h⟩ | ⟨hc, h⟩⟩ := c_ge_i h
  · refine ev_ifc 125 rfl hR.1 (by decide) (fun _ => ?_) (fun q => absurd hc q)
    refine ev_k (pc' := 133) (ls' := [(0, .inr (.inr (some 73)))]) (st' := []) (nc' := 126) (np' := 138) (M' := am_up M 73 19 (M 73 6)) 4 rfl ?_
    obtain ⟨M1, eM, h⟩ := fw_i h
    rw [← eM]
    refine ev_k (pc' := 135) (ls' := [(0, .inr (.inr (some 73))), (3, .inl (0))]) (st' := []) (nc' := 126) (np' := 138) (M' := M1) 2 rfl ?_
    exact R_lawm_135_t hd     am_big (0) M1 r h
  · refine ev_ifc 125 rfl hR.1 (by decide) (fun q => absurd q hc) (fun _ => ?_)
    refine ev_k (pc' := 124) (ls' := [(0, .inr (.inr (some 73)))]) (st' := [.inl (M 73 5)]) (nc' := 126) (np' := 138) (M' := M) 2 rfl ?_
    cases h
    exact ev_ret rfl
theorem R_lawm_100_t {L : Nat} {xs : Nat → Int} {d : Nat} (hd : 8 ≤ d)   (k39 : Int → am_M → Option (Int × am_M)) (hk39 : ∀ (x2 : Int) (M : am_M) (r : Int × am_M), k39 x2 M = some r → am_Ev L xs d me_203 39 [(0, .inr (.inr (some 73))), (2, .inl (x2))] [] 126 138 M (some (.inl r.1), 126, 138, r.2)) (x2 : Int) (M : am_M) (r : Int × am_M) (h : R_lawm_100   k39 x2 M = some r) : am_Ev L xs d me_203 100 [(0, .inr (.inr (some 73))), (2, .inl (x2))] [] 126 138 M (some (.inl r.1), 126, 138, r.2) := by
  refine ev_k (pc' := 110) (ls' := [(0, .inr (.inr (some 73))), (2, .inl (x2))]) (st' := []) (nc' := 126) (np' := 138) (M' := am_up M 73 3 ((M 73 3) + (1))) 6 rfl ?_
  obtain ⟨M1, eM, h⟩ := fw_i h
  rw [← eM]
  refine ev_k (pc' := 39) (ls' := [(0, .inr (.inr (some 73))), (2, .inl (x2))]) (st' := []) (nc' := 126) (np' := 138) (M' := M1) 1 rfl ?_
  exact hk39 (x2) M1 r h
theorem R_lawm_77_t {L : Nat} {xs : Nat → Int} {d : Nat} (hd : 8 ≤ d)   (k39 : Int → am_M → Option (Int × am_M)) (hk39 : ∀ (x2 : Int) (M : am_M) (r : Int × am_M), k39 x2 M = some r → am_Ev L xs d me_203 39 [(0, .inr (.inr (some 73))), (2, .inl (x2))] [] 126 138 M (some (.inl r.1), 126, 138, r.2)) (s0 : Int) (M : am_M) (r : Int × am_M) (h : R_lawm_77   k39 s0 M = some r) : am_Ev L xs d me_203 77 [(0, .inr (.inr (some 73)))] [.inl (s0)] 126 138 M (some (.inl r.1), 126, 138, r.2) := by
  refine ev_k (pc' := 79) (ls' := [(2, .inl (s0)), (0, .inr (.inr (some 73)))]) (st' := [.inl (s0)]) (nc' := 126) (np' := 138) (M' := M) 2 rfl ?_
  obtain ⟨hR, ⟨hc, h⟩ | ⟨hc, h⟩⟩ := c_eq_i h
  · refine ev_ifc 39 rfl hR.1 (by decide) (fun _ => ?_) (fun q => absurd hc q)
    exact hk39 (s0) M r h
  · refine ev_ifc 39 rfl hR.1 (by decide) (fun q => absurd q hc) (fun _ => ?_)
    refine ev_k (pc' := 83) (ls' := [(2, .inl (s0)), (0, .inr (.inr (some 73)))]) (st' := [.inr (.inr (some 73))]) (nc' := 126) (np' := 138) (M' := M) 1 rfl ?_
    obtain ⟨v1, hv, h⟩ := ob_i h
    refine ev_call (t := 197) (as := [.inr (.inr (some 73))]) (rest := []) rfl rfl rfl (by omega) (R_here_e (by omega)  M _ hv) ?_
    refine ev_k (pc' := 88) (ls' := [(2, .inl (s0)), (0, .inr (.inr (some 73)))]) (st' := [.inl (59), .inl (v1)]) (nc' := 126) (np' := 138) (M' := M) 1 rfl ?_
    obtain ⟨hR, ⟨hc, h⟩ | ⟨hc, h⟩⟩ := c_eq_i h
    · refine ev_icmp 100 rfl hR.1 hR.2 (by decide) (fun _ => ?_) (fun q => absurd hc q)
      exact R_lawm_100_t hd   k39 hk39 (s0) M r h
    · refine ev_icmp 100 rfl hR.1 hR.2 (by decide) (fun q => absurd q hc) (fun _ => ?_)
      refine ev_k (pc' := 97) (ls' := [(2, .inl (s0)), (0, .inr (.inr (some 73)))]) (st' := [.inl (M 73 3), .inl (1), .inr (.inr (some 73))]) (nc' := 126) (np' := 138) (M' := M) 4 rfl ?_
      obtain ⟨M2, hv, h⟩ := ob_i h
      refine ev_call (t := 199) (as := [.inr (.inr (some 73)), .inl (1), .inl (M 73 3)]) (rest := []) rfl rfl rfl (by omega) (R_wrongs_e (by omega) (1) (M 73 3) M _ hv) ?_
      exact R_lawm_100_t hd   k39 hk39 (s0) M2 r h
theorem R_lawm_76_t {L : Nat} {xs : Nat → Int} {d : Nat} (hd : 8 ≤ d)   (k39 : Int → am_M → Option (Int × am_M)) (hk39 : ∀ (x2 : Int) (M : am_M) (r : Int × am_M), k39 x2 M = some r → am_Ev L xs d me_203 39 [(0, .inr (.inr (some 73))), (2, .inl (x2))] [] 126 138 M (some (.inl r.1), 126, 138, r.2))  (M : am_M) (r : Int × am_M) (h : R_lawm_76   k39  M = some r) : am_Ev L xs d me_203 76 [(0, .inr (.inr (some 73)))] [] 126 138 M (some (.inl r.1), 126, 138, r.2) := by
  refine ev_k (pc' := 77) (ls' := [(0, .inr (.inr (some 73)))]) (st' := [.inl (0)]) (nc' := 126) (np' := 138) (M' := M) 1 rfl ?_
  exact R_lawm_77_t hd   k39 hk39 (0) M r h
theorem R_lawm_39_t {L : Nat} {xs : Nat → Int} {d : Nat} (hd : 8 ≤ d)     : ∀ (n : Nat) (x2 : Int) (M : am_M) (r : Int × am_M), R_lawm_39    n x2 M = some r → am_Ev L xs d me_203 39 [(0, .inr (.inr (some 73))), (2, .inl (x2))] [] 126 138 M (some (.inl r.1), 126, 138, r.2)
  | 0, _, M, r, h => by cases h
  | n + 1, x2, M, r, h => by
    have ih := R_lawm_39_t (L := L) (xs := xs) hd     n
    refine ev_k (pc' := 40) (ls' := [(0, .inr (.inr (some 73))), (2, .inl (x2))]) (st' := [.inl (x2)]) (nc' := 126) (np' := 138) (M' := M) 1 rfl ?_
    obtain ⟨hR, ⟨hc, h⟩ | ⟨hc, h⟩⟩ := c_eq_i h
    · refine ev_ifc 113 rfl hR.1 (by decide) (fun _ => ?_) (fun q => absurd hc q)
      exact R_lawm_113_t hd      M r h
    · refine ev_ifc 113 rfl hR.1 (by decide) (fun q => absurd q hc) (fun _ => ?_)
      refine ev_k (pc' := 44) (ls' := [(0, .inr (.inr (some 73))), (2, .inl (x2))]) (st' := [.inr (.inr (some 73))]) (nc' := 126) (np' := 138) (M' := M) 1 rfl ?_
      obtain ⟨v1, hv, h⟩ := ob_i h
      refine ev_call (t := 195) (as := [.inr (.inr (some 73))]) (rest := []) rfl rfl rfl (by omega) (R_isGood_e (by omega)  M _ hv) ?_
      refine ev_k (pc' := 47) (ls' := [(0, .inr (.inr (some 73))), (2, .inl (x2))]) (st' := [.inl (v1)]) (nc' := 126) (np' := 138) (M' := M) 0 rfl ?_
      obtain ⟨hR, ⟨hc, h⟩ | ⟨hc, h⟩⟩ := c_eq_i h
      · refine ev_ifc 113 rfl hR.1 (by decide) (fun _ => ?_) (fun q => absurd hc q)
        exact R_lawm_113_t hd      M r h
      · refine ev_ifc 113 rfl hR.1 (by decide) (fun q => absurd q hc) (fun _ => ?_)
        refine ev_k (pc' := 51) (ls' := [(0, .inr (.inr (some 73))), (2, .inl (x2))]) (st' := [.inr (.inr (some 73))]) (nc' := 126) (np' := 138) (M' := M) 1 rfl ?_
        obtain ⟨M2, hv, h⟩ := ob_i h
        refine ev_call (t := 204) (as := [.inr (.inr (some 73))]) (rest := []) rfl rfl rfl (by omega) (R_clause_e (by omega)  M _ hv) ?_
        refine ev_k (pc' := 55) (ls' := [(0, .inr (.inr (some 73))), (2, .inl (x2))]) (st' := [.inr (.inr (some 73))]) (nc' := 126) (np' := 138) (M' := M2) 1 rfl ?_
        obtain ⟨v3, hv, h⟩ := ob_i h
        refine ev_call (t := 195) (as := [.inr (.inr (some 73))]) (rest := []) rfl rfl rfl (by omega) (R_isGood_e (by omega)  M2 _ hv) ?_
        refine ev_k (pc' := 58) (ls' := [(0, .inr (.inr (some 73))), (2, .inl (x2))]) (st' := [.inl (v3)]) (nc' := 126) (np' := 138) (M' := M2) 0 rfl ?_
        obtain ⟨hR, ⟨hc, h⟩ | ⟨hc, h⟩⟩ := c_eq_i h
        · refine ev_ifc 76 rfl hR.1 (by decide) (fun _ => ?_) (fun q => absurd hc q)
          exact R_lawm_76_t hd   (R_lawm_39    n) ih  M2 r h
        · refine ev_ifc 76 rfl hR.1 (by decide) (fun q => absurd q hc) (fun _ => ?_)
          refine ev_k (pc' := 69) (ls' := [(0, .inr (.inr (some 73))), (2, .inl (x2))]) (st' := [.inl (M2 73 4), .inl (M2 73 3)]) (nc' := 126) (np' := 138) (M' := M2) 4 rfl ?_
          obtain ⟨hR, ⟨hc, h⟩ | ⟨hc, h⟩⟩ := c_ge_i h
          · refine ev_icmp 76 rfl hR.1 hR.2 (by decide) (fun _ => ?_) (fun q => absurd hc q)
            exact R_lawm_76_t hd   (R_lawm_39    n) ih  M2 r h
          · refine ev_icmp 76 rfl hR.1 hR.2 (by decide) (fun q => absurd q hc) (fun _ => ?_)
            refine ev_k (pc' := 77) (ls' := [(0, .inr (.inr (some 73)))]) (st' := [.inl (1)]) (nc' := 126) (np' := 138) (M' := M2) 2 rfl ?_
            exact R_lawm_77_t hd   (R_lawm_39    n) ih (1) M2 r h
theorem R_lawm_e {L : Nat} {xs : Nat → Int} {d : Nat} (hd : 8 ≤ d)   (x1 : Int) (M : am_M) (r : Int × am_M) (h : R_lawm   x1 M = some r) : am_Ev L xs d me_203 0 (am_ar1 0 [.inr (.inr (some 73)), .inl (x1)]) [] 126 138 M (some (.inl r.1), 126, 138, r.2) := by
  refine ev_k (pc' := 1) (ls' := [(0, .inr (.inr (some 73))), (1, .inl (x1))]) (st' := [.inl (x1)]) (nc' := 126) (np' := 138) (M' := M) 1 rfl ?_
  obtain ⟨hc, h⟩ := ck_i h
  refine ev_i2l rfl hc ?_
  refine ev_k (pc' := 6) (ls' := [(0, .inr (.inr (some 73))), (1, .inl (x1))]) (st' := [.inr (.inl (240)), .inr (.inl (1)), .inr (.inl (x1))]) (nc' := 126) (np' := 138) (M' := M) 2 rfl ?_
  obtain ⟨v1, hv, h⟩ := ob_i h
  refine ev_call (t := 193) (as := [.inr (.inl (x1)), .inr (.inl (1)), .inr (.inl (240))]) (rest := []) rfl rfl rfl (by omega) (R_lies_e (by omega) (x1) (1) (240) M _ hv) ?_
  refine ev_k (pc' := 9) (ls' := [(0, .inr (.inr (some 73))), (1, .inl (x1))]) (st' := [.inl (v1)]) (nc' := 126) (np' := 138) (M' := M) 0 rfl ?_
  obtain ⟨hR, ⟨hc, h⟩ | ⟨hc, h⟩⟩ := c_eq_i h
  · refine ev_ifc 20 rfl hR.1 (by decide) (fun _ => ?_) (fun q => absurd hc q)
    exact R_lawm_20_t hd      M r h
  · refine ev_ifc 20 rfl hR.1 (by decide) (fun q => absurd q hc) (fun _ => ?_)
    refine ev_k (pc' := 17) (ls' := [(0, .inr (.inr (some 73))), (1, .inl (x1))]) (st' := [.inl (M 73 1), .inl (x1)]) (nc' := 126) (np' := 138) (M' := M) 3 rfl ?_
    obtain ⟨hR, ⟨hc, h⟩ | ⟨hc, h⟩⟩ := c_le_i h
    · refine ev_icmp 22 rfl hR.1 hR.2 (by decide) (fun _ => ?_) (fun q => absurd hc q)
      refine ev_k (pc' := 24) (ls' := [(0, .inr (.inr (some 73))), (1, .inl (x1))]) (st' := [.inl (x1), .inr (.inr (some 73))]) (nc' := 126) (np' := 138) (M' := M) 2 rfl ?_
      obtain ⟨M2, hv, h⟩ := ob_i h
      refine ev_call (t := 194) (as := [.inr (.inr (some 73)), .inl (x1)]) (rest := []) rfl rfl rfl (by omega) (R_begins_e (by omega) (x1) M _ hv) ?_
      refine ev_k (pc' := 32) (ls' := [(0, .inr (.inr (some 73))), (1, .inl (x1))]) (st' := []) (nc' := 126) (np' := 138) (M' := am_up M2 73 6 (0)) 3 rfl ?_
      obtain ⟨M3, eM, h⟩ := fw_i h
      rw [← eM]
      refine ev_k (pc' := 37) (ls' := [(0, .inr (.inr (some 73))), (1, .inl (x1))]) (st' := []) (nc' := 126) (np' := 138) (M' := am_up M3 73 7 (0)) 3 rfl ?_
      obtain ⟨M4, eM, h⟩ := fw_i h
      rw [← eM]
      refine ev_k (pc' := 39) (ls' := [(0, .inr (.inr (some 73))), (2, .inl (1))]) (st' := []) (nc' := 126) (np' := 138) (M' := M4) 2 rfl ?_
      exact R_lawm_39_t hd     am_big (1) M4 r h
    · refine ev_icmp 22 rfl hR.1 hR.2 (by decide) (fun q => absurd q hc) (fun _ => ?_)
      exact R_lawm_20_t hd      M r h
def R_person_24     (M : am_M) : Option (Int × am_M) := some (0, M)
def R_person_60     (M : am_M) : Option (Int × am_M) := some (1, M)
def R_person    (x1 : Int) (x2 : Int) (M : am_M) : Option (Int × am_M) := ck (am_R (x1)) (ob (R_lies (x1) (0) (5) M) fun v1 => c_eq (v1) (0)
       (R_person_24     M)
       (ck (am_R (x2)) (ob (R_lies (x2) (1) (9) M) fun v2 => c_ne (v2) (0)
       (wz M 94 6 (x1) (1) fun M3 => wa M3 92 6 (x1) (x2) fun M4 => wa M4 93 6 (x1) (0) fun M5 => c_ne (M5 73 41) (-1)
       (R_person_60     M5)
       (fw M5 73 41 (x1) fun M6 => (R_person_60     M6)))
       (R_person_24     M))))
theorem R_person_24_t {L : Nat} {xs : Nat → Int} {d : Nat} (hd : 1 ≤ d)      (M : am_M) (r : Int × am_M) (h : R_person_24     M = some r) : am_Ev L xs d me_223 24 [] [] 126 138 M (some (.inl r.1), 126, 138, r.2) := by
  refine ev_k (pc' := 25) (ls' := []) (st' := [.inl (0)]) (nc' := 126) (np' := 138) (M' := M) 1 rfl ?_
  cases h
  exact ev_ret rfl
theorem R_person_60_t {L : Nat} {xs : Nat → Int} {d : Nat} (hd : 1 ≤ d)      (M : am_M) (r : Int × am_M) (h : R_person_60     M = some r) : am_Ev L xs d me_223 60 [] [] 126 138 M (some (.inl r.1), 126, 138, r.2) := by
  refine ev_k (pc' := 61) (ls' := []) (st' := [.inl (1)]) (nc' := 126) (np' := 138) (M' := M) 1 rfl ?_
  cases h
  exact ev_ret rfl
theorem R_person_e {L : Nat} {xs : Nat → Int} {d : Nat} (hd : 1 ≤ d)   (x1 : Int) (x2 : Int) (M : am_M) (r : Int × am_M) (h : R_person   x1 x2 M = some r) : am_Ev L xs d me_223 0 (am_ar1 0 [.inr (.inr (some 73)), .inl (x1), .inl (x2)]) [] 126 138 M (some (.inl r.1), 126, 138, r.2) := by
  refine ev_k (pc' := 1) (ls' := [(0, .inr (.inr (some 73))), (1, .inl (x1)), (2, .inl (x2))]) (st' := [.inl (x1)]) (nc' := 126) (np' := 138) (M' := M) 1 rfl ?_
  obtain ⟨hc, h⟩ := ck_i h
  refine ev_i2l rfl hc ?_
  refine ev_k (pc' := 6) (ls' := [(0, .inr (.inr (some 73))), (1, .inl (x1)), (2, .inl (x2))]) (st' := [.inr (.inl (5)), .inr (.inl (0)), .inr (.inl (x1))]) (nc' := 126) (np' := 138) (M' := M) 2 rfl ?_
  obtain ⟨v1, hv, h⟩ := ob_i h
  refine ev_call (t := 193) (as := [.inr (.inl (x1)), .inr (.inl (0)), .inr (.inl (5))]) (rest := []) rfl rfl rfl (by omega) (R_lies_e (by omega) (x1) (0) (5) M _ hv) ?_
  refine ev_k (pc' := 9) (ls' := [(0, .inr (.inr (some 73))), (1, .inl (x1)), (2, .inl (x2))]) (st' := [.inl (v1)]) (nc' := 126) (np' := 138) (M' := M) 0 rfl ?_
  obtain ⟨hR, ⟨hc, h⟩ | ⟨hc, h⟩⟩ := c_eq_i h
  · refine ev_ifc 24 rfl hR.1 (by decide) (fun _ => ?_) (fun q => absurd hc q)
    exact R_person_24_t hd      M r h
  · refine ev_ifc 24 rfl hR.1 (by decide) (fun q => absurd q hc) (fun _ => ?_)
    refine ev_k (pc' := 13) (ls' := [(0, .inr (.inr (some 73))), (1, .inl (x1)), (2, .inl (x2))]) (st' := [.inl (x2)]) (nc' := 126) (np' := 138) (M' := M) 1 rfl ?_
    obtain ⟨hc, h⟩ := ck_i h
    refine ev_i2l rfl hc ?_
    refine ev_k (pc' := 18) (ls' := [(0, .inr (.inr (some 73))), (1, .inl (x1)), (2, .inl (x2))]) (st' := [.inr (.inl (9)), .inr (.inl (1)), .inr (.inl (x2))]) (nc' := 126) (np' := 138) (M' := M) 2 rfl ?_
    obtain ⟨v2, hv, h⟩ := ob_i h
    refine ev_call (t := 193) (as := [.inr (.inl (x2)), .inr (.inl (1)), .inr (.inl (9))]) (rest := []) rfl rfl rfl (by omega) (R_lies_e (by omega) (x2) (1) (9) M _ hv) ?_
    refine ev_k (pc' := 21) (ls' := [(0, .inr (.inr (some 73))), (1, .inl (x1)), (2, .inl (x2))]) (st' := [.inl (v2)]) (nc' := 126) (np' := 138) (M' := M) 0 rfl ?_
    obtain ⟨hR, ⟨hc, h⟩ | ⟨hc, h⟩⟩ := c_ne_i h
    · refine ev_ifc 26 rfl hR.1 (by decide) (fun _ => ?_) (fun q => absurd hc q)
      refine ev_k (pc' := 32) (ls' := [(0, .inr (.inr (some 73))), (1, .inl (x1)), (2, .inl (x2))]) (st' := [.inl (1), .inl (x1), .inr (.inr (some 94))]) (nc' := 126) (np' := 138) (M' := M) 4 rfl ?_
      obtain ⟨⟨hc, hv⟩, M3, eM, h⟩ := wz_i h
      refine ev_zast (k := 94) rfl (by decide) rfl hc hv eM ?_
      refine ev_k (pc' := 39) (ls' := [(0, .inr (.inr (some 73))), (1, .inl (x1)), (2, .inl (x2))]) (st' := [.inl (x2), .inl (x1), .inr (.inr (some 92))]) (nc' := 126) (np' := 138) (M' := M3) 4 rfl ?_
      obtain ⟨hc, M4, eM, h⟩ := wa_i h
      refine ev_iast (k := 92) rfl (by decide) rfl hc eM ?_
      refine ev_k (pc' := 46) (ls' := [(0, .inr (.inr (some 73))), (1, .inl (x1)), (2, .inl (x2))]) (st' := [.inl (0), .inl (x1), .inr (.inr (some 93))]) (nc' := 126) (np' := 138) (M' := M4) 4 rfl ?_
      obtain ⟨hc, M5, eM, h⟩ := wa_i h
      refine ev_iast (k := 93) rfl (by decide) rfl hc eM ?_
      refine ev_k (pc' := 52) (ls' := [(0, .inr (.inr (some 73))), (1, .inl (x1)), (2, .inl (x2))]) (st' := [.inl (-1), .inl (M5 73 41)]) (nc' := 126) (np' := 138) (M' := M5) 3 rfl ?_
      obtain ⟨hR, ⟨hc, h⟩ | ⟨hc, h⟩⟩ := c_ne_i h
      · refine ev_icmp 60 rfl hR.1 hR.2 (by decide) (fun _ => ?_) (fun q => absurd hc q)
        exact R_person_60_t hd      M5 r h
      · refine ev_icmp 60 rfl hR.1 hR.2 (by decide) (fun q => absurd q hc) (fun _ => ?_)
        refine ev_k (pc' := 60) (ls' := []) (st' := []) (nc' := 126) (np' := 138) (M' := am_up M5 73 41 (x1)) 3 rfl ?_
        obtain ⟨M6, eM, h⟩ := fw_i h
        rw [← eM]
        exact R_person_60_t hd      M6 r h
    · refine ev_ifc 26 rfl hR.1 (by decide) (fun q => absurd q hc) (fun _ => ?_)
      exact R_person_24_t hd      M r h
def R_isPerson_26    (s0 : Int) (M : am_M) : Option (Int) := ck ((s0) = 0 ∨ (s0) = 1) (some (s0))
def R_isPerson_25     (M : am_M) : Option (Int) := (R_isPerson_26    (0) M)
def R_isPerson    (x1 : Int) (M : am_M) : Option (Int) := ck (am_R (x1)) (ob (R_lies (x1) (0) (5) M) fun v1 => c_eq (v1) (0)
       (R_isPerson_25     M)
       (rd M 94 6 (x1) fun v2 => c_eq (v2) (0)
       (R_isPerson_25     M)
       ((R_isPerson_26    (1) M))))
theorem R_isPerson_26_t {L : Nat} {xs : Nat → Int} {d : Nat} (hd : 1 ≤ d)     (s0 : Int) (M : am_M) (r : Int) (h : R_isPerson_26    s0 M = some r) : am_Ev L xs d me_225 26 [] [.inl (s0)] 126 138 M (some (.inl r), 126, 138, M) := by
  refine ev_k (pc' := 26) (ls' := []) (st' := [.inl (s0)]) (nc' := 126) (np' := 138) (M' := M) 0 rfl ?_
  obtain ⟨hc, h⟩ := ck_i h
  cases h
  exact ev_retz rfl rfl hc
theorem R_isPerson_25_t {L : Nat} {xs : Nat → Int} {d : Nat} (hd : 1 ≤ d)      (M : am_M) (r : Int) (h : R_isPerson_25     M = some r) : am_Ev L xs d me_225 25 [] [] 126 138 M (some (.inl r), 126, 138, M) := by
  refine ev_k (pc' := 26) (ls' := []) (st' := [.inl (0)]) (nc' := 126) (np' := 138) (M' := M) 1 rfl ?_
  exact R_isPerson_26_t hd     (0) M r h
theorem R_isPerson_e {L : Nat} {xs : Nat → Int} {d : Nat} (hd : 1 ≤ d)   (x1 : Int) (M : am_M) (r : Int) (h : R_isPerson   x1 M = some r) : am_Ev L xs d me_225 0 (am_ar1 0 [.inr (.inr (some 73)), .inl (x1)]) [] 126 138 M (some (.inl r), 126, 138, M) := by
  refine ev_k (pc' := 1) (ls' := [(0, .inr (.inr (some 73))), (1, .inl (x1))]) (st' := [.inl (x1)]) (nc' := 126) (np' := 138) (M' := M) 1 rfl ?_
  obtain ⟨hc, h⟩ := ck_i h
  refine ev_i2l rfl hc ?_
  refine ev_k (pc' := 6) (ls' := [(0, .inr (.inr (some 73))), (1, .inl (x1))]) (st' := [.inr (.inl (5)), .inr (.inl (0)), .inr (.inl (x1))]) (nc' := 126) (np' := 138) (M' := M) 2 rfl ?_
  obtain ⟨v1, hv, h⟩ := ob_i h
  refine ev_call (t := 193) (as := [.inr (.inl (x1)), .inr (.inl (0)), .inr (.inl (5))]) (rest := []) rfl rfl rfl (by omega) (R_lies_e (by omega) (x1) (0) (5) M _ hv) ?_
  refine ev_k (pc' := 9) (ls' := [(0, .inr (.inr (some 73))), (1, .inl (x1))]) (st' := [.inl (v1)]) (nc' := 126) (np' := 138) (M' := M) 0 rfl ?_
  obtain ⟨hR, ⟨hc, h⟩ | ⟨hc, h⟩⟩ := c_eq_i h
  · refine ev_ifc 25 rfl hR.1 (by decide) (fun _ => ?_) (fun q => absurd hc q)
    exact R_isPerson_25_t hd      M r h
  · refine ev_ifc 25 rfl hR.1 (by decide) (fun q => absurd q hc) (fun _ => ?_)
    refine ev_k (pc' := 17) (ls' := [(0, .inr (.inr (some 73))), (1, .inl (x1))]) (st' := [.inl (x1), .inr (.inr (some 94))]) (nc' := 126) (np' := 138) (M' := M) 3 rfl ?_
    obtain ⟨hc, v2, ev, h⟩ := rd_i h
    refine ev_ald (k := 94) (t := 2) (Or.inr ⟨rfl, Or.inr rfl⟩) rfl (by decide) (by decide) rfl hc ev ?_
    refine ev_k (pc' := 18) (ls' := [(0, .inr (.inr (some 73))), (1, .inl (x1))]) (st' := [.inl (v2)]) (nc' := 126) (np' := 138) (M' := M) 0 rfl ?_
    obtain ⟨hR, ⟨hc, h⟩ | ⟨hc, h⟩⟩ := c_eq_i h
    · refine ev_ifc 25 rfl hR.1 (by decide) (fun _ => ?_) (fun q => absurd hc q)
      exact R_isPerson_25_t hd      M r h
    · refine ev_ifc 25 rfl hR.1 (by decide) (fun q => absurd q hc) (fun _ => ?_)
      refine ev_k (pc' := 26) (ls' := []) (st' := [.inl (1)]) (nc' := 126) (np' := 138) (M' := M) 2 rfl ?_
      exact R_isPerson_26_t hd     (1) M r h
def R_ahead    (x1 : Int) (M : am_M) : Option (Int × am_M) := ob (R_isPerson (x1) M) fun v1 => c_ne (v1) (0)
       (fw M 73 41 (x1) fun M2 => some (1, M2))
       (some (0, M))
theorem R_ahead_e {L : Nat} {xs : Nat → Int} {d : Nat} (hd : 2 ≤ d)   (x1 : Int) (M : am_M) (r : Int × am_M) (h : R_ahead   x1 M = some r) : am_Ev L xs d me_224 0 (am_ar1 0 [.inr (.inr (some 73)), .inl (x1)]) [] 126 138 M (some (.inl r.1), 126, 138, r.2) := by
  refine ev_k (pc' := 2) (ls' := [(0, .inr (.inr (some 73))), (1, .inl (x1))]) (st' := [.inl (x1), .inr (.inr (some 73))]) (nc' := 126) (np' := 138) (M' := M) 2 rfl ?_
  obtain ⟨v1, hv, h⟩ := ob_i h
  refine ev_call (t := 225) (as := [.inr (.inr (some 73)), .inl (x1)]) (rest := []) rfl rfl rfl (by omega) (R_isPerson_e (by omega) (x1) M _ hv) ?_
  refine ev_k (pc' := 5) (ls' := [(0, .inr (.inr (some 73))), (1, .inl (x1))]) (st' := [.inl (v1)]) (nc' := 126) (np' := 138) (M' := M) 0 rfl ?_
  obtain ⟨hR, ⟨hc, h⟩ | ⟨hc, h⟩⟩ := c_ne_i h
  · refine ev_ifc 10 rfl hR.1 (by decide) (fun _ => ?_) (fun q => absurd hc q)
    refine ev_k (pc' := 15) (ls' := [(0, .inr (.inr (some 73))), (1, .inl (x1))]) (st' := []) (nc' := 126) (np' := 138) (M' := am_up M 73 41 (x1)) 3 rfl ?_
    obtain ⟨M2, eM, h⟩ := fw_i h
    rw [← eM]
    refine ev_k (pc' := 16) (ls' := [(0, .inr (.inr (some 73))), (1, .inl (x1))]) (st' := [.inl (1)]) (nc' := 126) (np' := 138) (M' := M2) 1 rfl ?_
    cases h
    exact ev_ret rfl
  · refine ev_ifc 10 rfl hR.1 (by decide) (fun q => absurd q hc) (fun _ => ?_)
    refine ev_k (pc' := 9) (ls' := [(0, .inr (.inr (some 73))), (1, .inl (x1))]) (st' := [.inl (0)]) (nc' := 126) (np' := 138) (M' := M) 1 rfl ?_
    cases h
    exact ev_ret rfl
def R_width    (x1 : Int) (M : am_M) : Option (Int × am_M) := ck (am_R (x1)) (ob (R_lies (x1) (1) (4) M) fun v1 => c_ne (v1) (0)
       (fw M 73 42 (x1) fun M2 => some (1, M2))
       (some (0, M)))
theorem R_width_e {L : Nat} {xs : Nat → Int} {d : Nat} (hd : 1 ≤ d)   (x1 : Int) (M : am_M) (r : Int × am_M) (h : R_width   x1 M = some r) : am_Ev L xs d me_226 0 (am_ar1 0 [.inr (.inr (some 73)), .inl (x1)]) [] 126 138 M (some (.inl r.1), 126, 138, r.2) := by
  refine ev_k (pc' := 1) (ls' := [(0, .inr (.inr (some 73))), (1, .inl (x1))]) (st' := [.inl (x1)]) (nc' := 126) (np' := 138) (M' := M) 1 rfl ?_
  obtain ⟨hc, h⟩ := ck_i h
  refine ev_i2l rfl hc ?_
  refine ev_k (pc' := 6) (ls' := [(0, .inr (.inr (some 73))), (1, .inl (x1))]) (st' := [.inr (.inl (4)), .inr (.inl (1)), .inr (.inl (x1))]) (nc' := 126) (np' := 138) (M' := M) 2 rfl ?_
  obtain ⟨v1, hv, h⟩ := ob_i h
  refine ev_call (t := 193) (as := [.inr (.inl (x1)), .inr (.inl (1)), .inr (.inl (4))]) (rest := []) rfl rfl rfl (by omega) (R_lies_e (by omega) (x1) (1) (4) M _ hv) ?_
  refine ev_k (pc' := 9) (ls' := [(0, .inr (.inr (some 73))), (1, .inl (x1))]) (st' := [.inl (v1)]) (nc' := 126) (np' := 138) (M' := M) 0 rfl ?_
  obtain ⟨hR, ⟨hc, h⟩ | ⟨hc, h⟩⟩ := c_ne_i h
  · refine ev_ifc 14 rfl hR.1 (by decide) (fun _ => ?_) (fun q => absurd hc q)
    refine ev_k (pc' := 19) (ls' := [(0, .inr (.inr (some 73))), (1, .inl (x1))]) (st' := []) (nc' := 126) (np' := 138) (M' := am_up M 73 42 (x1)) 3 rfl ?_
    obtain ⟨M2, eM, h⟩ := fw_i h
    rw [← eM]
    refine ev_k (pc' := 20) (ls' := [(0, .inr (.inr (some 73))), (1, .inl (x1))]) (st' := [.inl (1)]) (nc' := 126) (np' := 138) (M' := M2) 1 rfl ?_
    cases h
    exact ev_ret rfl
  · refine ev_ifc 14 rfl hR.1 (by decide) (fun q => absurd q hc) (fun _ => ?_)
    refine ev_k (pc' := 13) (ls' := [(0, .inr (.inr (some 73))), (1, .inl (x1))]) (st' := [.inl (0)]) (nc' := 126) (np' := 138) (M' := M) 1 rfl ?_
    cases h
    exact ev_ret rfl
def R_light    (x1 : Int) (M : am_M) : Option (Int × am_M) := ck (am_R (x1)) (ob (R_lies (x1) (0) (999) M) fun v1 => c_ne (v1) (0)
       (fw M 73 43 (x1) fun M2 => some (1, M2))
       (some (0, M)))
theorem R_light_e {L : Nat} {xs : Nat → Int} {d : Nat} (hd : 1 ≤ d)   (x1 : Int) (M : am_M) (r : Int × am_M) (h : R_light   x1 M = some r) : am_Ev L xs d me_227 0 (am_ar1 0 [.inr (.inr (some 73)), .inl (x1)]) [] 126 138 M (some (.inl r.1), 126, 138, r.2) := by
  refine ev_k (pc' := 1) (ls' := [(0, .inr (.inr (some 73))), (1, .inl (x1))]) (st' := [.inl (x1)]) (nc' := 126) (np' := 138) (M' := M) 1 rfl ?_
  obtain ⟨hc, h⟩ := ck_i h
  refine ev_i2l rfl hc ?_
  refine ev_k (pc' := 6) (ls' := [(0, .inr (.inr (some 73))), (1, .inl (x1))]) (st' := [.inr (.inl (999)), .inr (.inl (0)), .inr (.inl (x1))]) (nc' := 126) (np' := 138) (M' := M) 2 rfl ?_
  obtain ⟨v1, hv, h⟩ := ob_i h
  refine ev_call (t := 193) (as := [.inr (.inl (x1)), .inr (.inl (0)), .inr (.inl (999))]) (rest := []) rfl rfl rfl (by omega) (R_lies_e (by omega) (x1) (0) (999) M _ hv) ?_
  refine ev_k (pc' := 9) (ls' := [(0, .inr (.inr (some 73))), (1, .inl (x1))]) (st' := [.inl (v1)]) (nc' := 126) (np' := 138) (M' := M) 0 rfl ?_
  obtain ⟨hR, ⟨hc, h⟩ | ⟨hc, h⟩⟩ := c_ne_i h
  · refine ev_ifc 14 rfl hR.1 (by decide) (fun _ => ?_) (fun q => absurd hc q)
    refine ev_k (pc' := 19) (ls' := [(0, .inr (.inr (some 73))), (1, .inl (x1))]) (st' := []) (nc' := 126) (np' := 138) (M' := am_up M 73 43 (x1)) 3 rfl ?_
    obtain ⟨M2, eM, h⟩ := fw_i h
    rw [← eM]
    refine ev_k (pc' := 20) (ls' := [(0, .inr (.inr (some 73))), (1, .inl (x1))]) (st' := [.inl (1)]) (nc' := 126) (np' := 138) (M' := M2) 1 rfl ?_
    cases h
    exact ev_ret rfl
  · refine ev_ifc 14 rfl hR.1 (by decide) (fun q => absurd q hc) (fun _ => ?_)
    refine ev_k (pc' := 13) (ls' := [(0, .inr (.inr (some 73))), (1, .inl (x1))]) (st' := [.inl (0)]) (nc' := 126) (np' := 138) (M' := M) 1 rfl ?_
    cases h
    exact ev_ret rfl
def R_personIs_41    (s0 : Int) (M : am_M) : Option (Int) := some (s0)
def R_personIs_40     (M : am_M) : Option (Int) := (R_personIs_41    (-1) M)
def R_personIs    (x1 : Int) (x2 : Int) (M : am_M) : Option (Int) := ob (R_isPerson (x1) M) fun v1 => c_eq (v1) (0)
       (R_personIs_40     M)
       (ck (am_R (x2)) (ob (R_lies (x2) (0) (1) M) fun v2 => c_eq (v2) (0)
       (R_personIs_40     M)
       (c_ne (x2) (0)
       (rd M 93 6 (x1) fun v3 => (R_personIs_41    (v3) M))
       (rd M 92 6 (x1) fun v4 => (R_personIs_41    (v4) M)))))
theorem R_personIs_41_t {L : Nat} {xs : Nat → Int} {d : Nat} (hd : 2 ≤ d)     (s0 : Int) (M : am_M) (r : Int) (h : R_personIs_41    s0 M = some r) : am_Ev L xs d me_228 41 [] [.inl (s0)] 126 138 M (some (.inl r), 126, 138, M) := by
  refine ev_k (pc' := 41) (ls' := []) (st' := [.inl (s0)]) (nc' := 126) (np' := 138) (M' := M) 0 rfl ?_
  cases h
  exact ev_ret rfl
theorem R_personIs_40_t {L : Nat} {xs : Nat → Int} {d : Nat} (hd : 2 ≤ d)      (M : am_M) (r : Int) (h : R_personIs_40     M = some r) : am_Ev L xs d me_228 40 [] [] 126 138 M (some (.inl r), 126, 138, M) := by
  refine ev_k (pc' := 41) (ls' := []) (st' := [.inl (-1)]) (nc' := 126) (np' := 138) (M' := M) 1 rfl ?_
  exact R_personIs_41_t hd     (-1) M r h
theorem R_personIs_e {L : Nat} {xs : Nat → Int} {d : Nat} (hd : 2 ≤ d)   (x1 : Int) (x2 : Int) (M : am_M) (r : Int) (h : R_personIs   x1 x2 M = some r) : am_Ev L xs d me_228 0 (am_ar1 0 [.inr (.inr (some 73)), .inl (x1), .inl (x2)]) [] 126 138 M (some (.inl r), 126, 138, M) := by
  refine ev_k (pc' := 2) (ls' := [(0, .inr (.inr (some 73))), (1, .inl (x1)), (2, .inl (x2))]) (st' := [.inl (x1), .inr (.inr (some 73))]) (nc' := 126) (np' := 138) (M' := M) 2 rfl ?_
  obtain ⟨v1, hv, h⟩ := ob_i h
  refine ev_call (t := 225) (as := [.inr (.inr (some 73)), .inl (x1)]) (rest := []) rfl rfl rfl (by omega) (R_isPerson_e (by omega) (x1) M _ hv) ?_
  refine ev_k (pc' := 5) (ls' := [(0, .inr (.inr (some 73))), (1, .inl (x1)), (2, .inl (x2))]) (st' := [.inl (v1)]) (nc' := 126) (np' := 138) (M' := M) 0 rfl ?_
  obtain ⟨hR, ⟨hc, h⟩ | ⟨hc, h⟩⟩ := c_eq_i h
  · refine ev_ifc 40 rfl hR.1 (by decide) (fun _ => ?_) (fun q => absurd hc q)
    exact R_personIs_40_t hd      M r h
  · refine ev_ifc 40 rfl hR.1 (by decide) (fun q => absurd q hc) (fun _ => ?_)
    refine ev_k (pc' := 9) (ls' := [(0, .inr (.inr (some 73))), (1, .inl (x1)), (2, .inl (x2))]) (st' := [.inl (x2)]) (nc' := 126) (np' := 138) (M' := M) 1 rfl ?_
    obtain ⟨hc, h⟩ := ck_i h
    refine ev_i2l rfl hc ?_
    refine ev_k (pc' := 12) (ls' := [(0, .inr (.inr (some 73))), (1, .inl (x1)), (2, .inl (x2))]) (st' := [.inr (.inl (1)), .inr (.inl (0)), .inr (.inl (x2))]) (nc' := 126) (np' := 138) (M' := M) 2 rfl ?_
    obtain ⟨v2, hv, h⟩ := ob_i h
    refine ev_call (t := 193) (as := [.inr (.inl (x2)), .inr (.inl (0)), .inr (.inl (1))]) (rest := []) rfl rfl rfl (by omega) (R_lies_e (by omega) (x2) (0) (1) M _ hv) ?_
    refine ev_k (pc' := 15) (ls' := [(0, .inr (.inr (some 73))), (1, .inl (x1)), (2, .inl (x2))]) (st' := [.inl (v2)]) (nc' := 126) (np' := 138) (M' := M) 0 rfl ?_
    obtain ⟨hR, ⟨hc, h⟩ | ⟨hc, h⟩⟩ := c_eq_i h
    · refine ev_ifc 40 rfl hR.1 (by decide) (fun _ => ?_) (fun q => absurd hc q)
      exact R_personIs_40_t hd      M r h
    · refine ev_ifc 40 rfl hR.1 (by decide) (fun q => absurd q hc) (fun _ => ?_)
      refine ev_k (pc' := 19) (ls' := [(0, .inr (.inr (some 73))), (1, .inl (x1)), (2, .inl (x2))]) (st' := [.inl (x2)]) (nc' := 126) (np' := 138) (M' := M) 1 rfl ?_
      obtain ⟨hR, ⟨hc, h⟩ | ⟨hc, h⟩⟩ := c_ne_i h
      · refine ev_ifc 31 rfl hR.1 (by decide) (fun _ => ?_) (fun q => absurd hc q)
        refine ev_k (pc' := 36) (ls' := [(0, .inr (.inr (some 73))), (1, .inl (x1)), (2, .inl (x2))]) (st' := [.inl (x1), .inr (.inr (some 93))]) (nc' := 126) (np' := 138) (M' := M) 3 rfl ?_
        obtain ⟨hc, v3, ev, h⟩ := rd_i h
        refine ev_ald (k := 93) (t := 0) (Or.inl ⟨rfl, rfl⟩) rfl (by decide) (by decide) rfl hc ev ?_
        refine ev_k (pc' := 41) (ls' := []) (st' := [.inl (v3)]) (nc' := 126) (np' := 138) (M' := M) 1 rfl ?_
        exact R_personIs_41_t hd     (v3) M r h
      · refine ev_ifc 31 rfl hR.1 (by decide) (fun q => absurd q hc) (fun _ => ?_)
        refine ev_k (pc' := 27) (ls' := [(0, .inr (.inr (some 73))), (1, .inl (x1)), (2, .inl (x2))]) (st' := [.inl (x1), .inr (.inr (some 92))]) (nc' := 126) (np' := 138) (M' := M) 3 rfl ?_
        obtain ⟨hc, v4, ev, h⟩ := rd_i h
        refine ev_ald (k := 92) (t := 0) (Or.inl ⟨rfl, rfl⟩) rfl (by decide) (by decide) rfl hc ev ?_
        refine ev_k (pc' := 41) (ls' := []) (st' := [.inl (v4)]) (nc' := 126) (np' := 138) (M' := M) 1 rfl ?_
        exact R_personIs_41_t hd     (v4) M r h
def R_isCell    (x0 : Int) (M : am_M) : Option (Int) := ck (am_R (x0)) (ob (R_lies (x0) (0) (143) M) fun v1 => ck ((v1) = 0 ∨ (v1) = 1) (some (v1)))
theorem R_isCell_e {L : Nat} {xs : Nat → Int} {d : Nat} (hd : 1 ≤ d)   (x0 : Int) (M : am_M) (r : Int) (h : R_isCell   x0 M = some r) : am_Ev L xs d me_230 0 (am_ar1 0 [.inl (x0)]) [] 126 138 M (some (.inl r), 126, 138, M) := by
  refine ev_k (pc' := 1) (ls' := [(0, .inl (x0))]) (st' := [.inl (x0)]) (nc' := 126) (np' := 138) (M' := M) 1 rfl ?_
  obtain ⟨hc, h⟩ := ck_i h
  refine ev_i2l rfl hc ?_
  refine ev_k (pc' := 6) (ls' := [(0, .inl (x0))]) (st' := [.inr (.inl (143)), .inr (.inl (0)), .inr (.inl (x0))]) (nc' := 126) (np' := 138) (M' := M) 2 rfl ?_
  obtain ⟨v1, hv, h⟩ := ob_i h
  refine ev_call (t := 193) (as := [.inr (.inl (x0)), .inr (.inl (0)), .inr (.inl (143))]) (rest := []) rfl rfl rfl (by omega) (R_lies_e (by omega) (x0) (0) (143) M _ hv) ?_
  refine ev_k (pc' := 9) (ls' := [(0, .inl (x0))]) (st' := [.inl (v1)]) (nc' := 126) (np' := 138) (M' := M) 0 rfl ?_
  obtain ⟨hc, h⟩ := ck_i h
  cases h
  exact ev_retz rfl rfl hc
def R_start_17     (M : am_M) : Option (Int × am_M) := some (0, M)
def R_start    (x1 : Int) (M : am_M) : Option (Int × am_M) := ob (R_isCell (x1) M) fun v1 => c_eq (v1) (0)
       (R_start_17     M)
       (rd M 75 144 (x1) fun v2 => c_ne (v2) (3)
       (ob (R_beginsPath (x1) M) fun M3 => some (1, M3))
       (R_start_17     M))
theorem R_start_17_t {L : Nat} {xs : Nat → Int} {d : Nat} (hd : 2 ≤ d)      (M : am_M) (r : Int × am_M) (h : R_start_17     M = some r) : am_Ev L xs d me_229 17 [] [] 126 138 M (some (.inl r.1), 126, 138, r.2) := by
  refine ev_k (pc' := 18) (ls' := []) (st' := [.inl (0)]) (nc' := 126) (np' := 138) (M' := M) 1 rfl ?_
  cases h
  exact ev_ret rfl
theorem R_start_e {L : Nat} {xs : Nat → Int} {d : Nat} (hd : 2 ≤ d)   (x1 : Int) (M : am_M) (r : Int × am_M) (h : R_start   x1 M = some r) : am_Ev L xs d me_229 0 (am_ar1 0 [.inr (.inr (some 73)), .inl (x1)]) [] 126 138 M (some (.inl r.1), 126, 138, r.2) := by
  refine ev_k (pc' := 1) (ls' := [(0, .inr (.inr (some 73))), (1, .inl (x1))]) (st' := [.inl (x1)]) (nc' := 126) (np' := 138) (M' := M) 1 rfl ?_
  obtain ⟨v1, hv, h⟩ := ob_i h
  refine ev_call (t := 230) (as := [.inl (x1)]) (rest := []) rfl rfl rfl (by omega) (R_isCell_e (by omega) (x1) M _ hv) ?_
  refine ev_k (pc' := 4) (ls' := [(0, .inr (.inr (some 73))), (1, .inl (x1))]) (st' := [.inl (v1)]) (nc' := 126) (np' := 138) (M' := M) 0 rfl ?_
  obtain ⟨hR, ⟨hc, h⟩ | ⟨hc, h⟩⟩ := c_eq_i h
  · refine ev_ifc 17 rfl hR.1 (by decide) (fun _ => ?_) (fun q => absurd hc q)
    exact R_start_17_t hd      M r h
  · refine ev_ifc 17 rfl hR.1 (by decide) (fun q => absurd q hc) (fun _ => ?_)
    refine ev_k (pc' := 12) (ls' := [(0, .inr (.inr (some 73))), (1, .inl (x1))]) (st' := [.inl (x1), .inr (.inr (some 75))]) (nc' := 126) (np' := 138) (M' := M) 3 rfl ?_
    obtain ⟨hc, v2, ev, h⟩ := rd_i h
    refine ev_ald (k := 75) (t := 0) (Or.inl ⟨rfl, rfl⟩) rfl (by decide) (by decide) rfl hc ev ?_
    refine ev_k (pc' := 14) (ls' := [(0, .inr (.inr (some 73))), (1, .inl (x1))]) (st' := [.inl (3), .inl (v2)]) (nc' := 126) (np' := 138) (M' := M) 1 rfl ?_
    obtain ⟨hR, ⟨hc, h⟩ | ⟨hc, h⟩⟩ := c_ne_i h
    · refine ev_icmp 19 rfl hR.1 hR.2 (by decide) (fun _ => ?_) (fun q => absurd hc q)
      refine ev_k (pc' := 21) (ls' := [(0, .inr (.inr (some 73))), (1, .inl (x1))]) (st' := [.inl (x1), .inr (.inr (some 73))]) (nc' := 126) (np' := 138) (M' := M) 2 rfl ?_
      obtain ⟨M3, hv, h⟩ := ob_i h
      refine ev_call (t := 188) (as := [.inr (.inr (some 73)), .inl (x1)]) (rest := []) rfl rfl rfl (by omega) (R_beginsPath_e (by omega) (x1) M _ hv) ?_
      refine ev_k (pc' := 25) (ls' := [(0, .inr (.inr (some 73))), (1, .inl (x1))]) (st' := [.inl (1)]) (nc' := 126) (np' := 138) (M' := M3) 1 rfl ?_
      cases h
      exact ev_ret rfl
    · refine ev_icmp 19 rfl hR.1 hR.2 (by decide) (fun q => absurd q hc) (fun _ => ?_)
      exact R_start_17_t hd      M r h
def R_beside_83    (s0 : Int) (M : am_M) : Option (Int) := some (s0)
def R_beside_82     (M : am_M) : Option (Int) := (R_beside_83    (-1) M)
def R_beside_47    (x2 : Int) (s0 : Int) (s1 : Int) (M : am_M) : Option (Int) := ck (am_R (x2)) (ob (R_lies (x2) (0) (11) M) fun v1 => c_eq (v1) (0)
       (R_beside_82     M)
       (ck (am_R ((s0) + (s1))) (ob (R_lies ((s0) + (s1)) (0) (11) M) fun v2 => c_eq (v2) (0)
       (R_beside_82     M)
       ((R_beside_83    (((12) * ((s0) + (s1))) + (x2)) M)))))
def R_beside_23    (x0 : Int) (x1 : Int) (s0 : Int) (s1 : Int) (M : am_M) : Option (Int) := ck (am_R (x0) ∧ am_R (12) ∧ ((12) : Int) ≠ 0) (tw (Int.tdiv (x0) (12)) fun v1 => c_ne (x1) (0)
       (c_ne (x1) (2)
       ((R_beside_47    ((s0) + (s1)) (v1) (0) M))
       ((R_beside_47    ((s0) + (s1)) (v1) (-1) M)))
       ((R_beside_47    ((s0) + (s1)) (v1) (1) M)))
def R_beside    (x0 : Int) (x1 : Int) (M : am_M) : Option (Int) := ck (am_R (x0) ∧ am_R (12) ∧ ((12) : Int) ≠ 0) (tw (Int.tmod (x0) (12)) fun v1 => c_ne (x1) (1)
       (c_ne (x1) (3)
       ((R_beside_23    (x0) (x1) (v1) (0) M))
       ((R_beside_23    (x0) (x1) (v1) (-1) M)))
       ((R_beside_23    (x0) (x1) (v1) (1) M)))
theorem R_beside_83_t {L : Nat} {xs : Nat → Int} {d : Nat} (hd : 1 ≤ d)     (s0 : Int) (M : am_M) (r : Int) (h : R_beside_83    s0 M = some r) : am_Ev L xs d me_233 83 [] [.inl (s0)] 126 138 M (some (.inl r), 126, 138, M) := by
  refine ev_k (pc' := 83) (ls' := []) (st' := [.inl (s0)]) (nc' := 126) (np' := 138) (M' := M) 0 rfl ?_
  cases h
  exact ev_ret rfl
theorem R_beside_82_t {L : Nat} {xs : Nat → Int} {d : Nat} (hd : 1 ≤ d)      (M : am_M) (r : Int) (h : R_beside_82     M = some r) : am_Ev L xs d me_233 82 [] [] 126 138 M (some (.inl r), 126, 138, M) := by
  refine ev_k (pc' := 83) (ls' := []) (st' := [.inl (-1)]) (nc' := 126) (np' := 138) (M' := M) 1 rfl ?_
  exact R_beside_83_t hd     (-1) M r h
theorem R_beside_47_t {L : Nat} {xs : Nat → Int} {d : Nat} (hd : 1 ≤ d)     (x2 : Int) (s0 : Int) (s1 : Int) (M : am_M) (r : Int) (h : R_beside_47    x2 s0 s1 M = some r) : am_Ev L xs d me_233 47 [(2, .inl (x2))] [.inl (s1), .inl (s0)] 126 138 M (some (.inl r), 126, 138, M) := by
  refine ev_k (pc' := 50) (ls' := [(3, .inl ((s0) + (s1))), (2, .inl (x2))]) (st' := [.inl (x2)]) (nc' := 126) (np' := 138) (M' := M) 3 rfl ?_
  obtain ⟨hc, h⟩ := ck_i h
  refine ev_i2l rfl hc ?_
  refine ev_k (pc' := 55) (ls' := [(3, .inl ((s0) + (s1))), (2, .inl (x2))]) (st' := [.inr (.inl (11)), .inr (.inl (0)), .inr (.inl (x2))]) (nc' := 126) (np' := 138) (M' := M) 2 rfl ?_
  obtain ⟨v1, hv, h⟩ := ob_i h
  refine ev_call (t := 193) (as := [.inr (.inl (x2)), .inr (.inl (0)), .inr (.inl (11))]) (rest := []) rfl rfl rfl (by omega) (R_lies_e (by omega) (x2) (0) (11) M _ hv) ?_
  refine ev_k (pc' := 58) (ls' := [(3, .inl ((s0) + (s1))), (2, .inl (x2))]) (st' := [.inl (v1)]) (nc' := 126) (np' := 138) (M' := M) 0 rfl ?_
  obtain ⟨hR, ⟨hc, h⟩ | ⟨hc, h⟩⟩ := c_eq_i h
  · refine ev_ifc 82 rfl hR.1 (by decide) (fun _ => ?_) (fun q => absurd hc q)
    exact R_beside_82_t hd      M r h
  · refine ev_ifc 82 rfl hR.1 (by decide) (fun q => absurd q hc) (fun _ => ?_)
    refine ev_k (pc' := 62) (ls' := [(3, .inl ((s0) + (s1))), (2, .inl (x2))]) (st' := [.inl ((s0) + (s1))]) (nc' := 126) (np' := 138) (M' := M) 1 rfl ?_
    obtain ⟨hc, h⟩ := ck_i h
    refine ev_i2l rfl hc ?_
    refine ev_k (pc' := 67) (ls' := [(3, .inl ((s0) + (s1))), (2, .inl (x2))]) (st' := [.inr (.inl (11)), .inr (.inl (0)), .inr (.inl ((s0) + (s1)))]) (nc' := 126) (np' := 138) (M' := M) 2 rfl ?_
    obtain ⟨v2, hv, h⟩ := ob_i h
    refine ev_call (t := 193) (as := [.inr (.inl ((s0) + (s1))), .inr (.inl (0)), .inr (.inl (11))]) (rest := []) rfl rfl rfl (by omega) (R_lies_e (by omega) ((s0) + (s1)) (0) (11) M _ hv) ?_
    refine ev_k (pc' := 70) (ls' := [(3, .inl ((s0) + (s1))), (2, .inl (x2))]) (st' := [.inl (v2)]) (nc' := 126) (np' := 138) (M' := M) 0 rfl ?_
    obtain ⟨hR, ⟨hc, h⟩ | ⟨hc, h⟩⟩ := c_eq_i h
    · refine ev_ifc 82 rfl hR.1 (by decide) (fun _ => ?_) (fun q => absurd hc q)
      exact R_beside_82_t hd      M r h
    · refine ev_ifc 82 rfl hR.1 (by decide) (fun q => absurd q hc) (fun _ => ?_)
      refine ev_k (pc' := 83) (ls' := []) (st' := [.inl (((12) * ((s0) + (s1))) + (x2))]) (nc' := 126) (np' := 138) (M' := M) 6 rfl ?_
      exact R_beside_83_t hd     (((12) * ((s0) + (s1))) + (x2)) M r h
theorem R_beside_23_t {L : Nat} {xs : Nat → Int} {d : Nat} (hd : 1 ≤ d)     (x0 : Int) (x1 : Int) (s0 : Int) (s1 : Int) (M : am_M) (r : Int) (h : R_beside_23    x0 x1 s0 s1 M = some r) : am_Ev L xs d me_233 23 [(0, .inl (x0)), (1, .inl (x1))] [.inl (s1), .inl (s0)] 126 138 M (some (.inl r), 126, 138, M) := by
  refine ev_k (pc' := 28) (ls' := [(2, .inl ((s0) + (s1))), (0, .inl (x0)), (1, .inl (x1))]) (st' := [.inl (12), .inl (x0)]) (nc' := 126) (np' := 138) (M' := M) 4 rfl ?_
  obtain ⟨hc, h⟩ := ck_i h
  obtain ⟨v1, ev, h⟩ := tw_i h
  refine ev_idiv rfl hc ?_
  refine ev_k (pc' := 29) (ls' := [(2, .inl ((s0) + (s1))), (0, .inl (x0)), (1, .inl (x1))]) (st' := [.inl (Int.tdiv (x0) (12))]) (nc' := 126) (np' := 138) (M' := M) 0 rfl ?_
  rw [← ev]
  refine ev_k (pc' := 30) (ls' := [(2, .inl ((s0) + (s1))), (0, .inl (x0)), (1, .inl (x1))]) (st' := [.inl (x1), .inl (v1)]) (nc' := 126) (np' := 138) (M' := M) 1 rfl ?_
  obtain ⟨hR, ⟨hc, h⟩ | ⟨hc, h⟩⟩ := c_ne_i h
  · refine ev_ifc 37 rfl hR.1 (by decide) (fun _ => ?_) (fun q => absurd hc q)
    refine ev_k (pc' := 39) (ls' := [(2, .inl ((s0) + (s1))), (0, .inl (x0)), (1, .inl (x1))]) (st' := [.inl (2), .inl (x1), .inl (v1)]) (nc' := 126) (np' := 138) (M' := M) 2 rfl ?_
    obtain ⟨hR, ⟨hc, h⟩ | ⟨hc, h⟩⟩ := c_ne_i h
    · refine ev_icmp 46 rfl hR.1 hR.2 (by decide) (fun _ => ?_) (fun q => absurd hc q)
      refine ev_k (pc' := 47) (ls' := [(2, .inl ((s0) + (s1)))]) (st' := [.inl (0), .inl (v1)]) (nc' := 126) (np' := 138) (M' := M) 1 rfl ?_
      exact R_beside_47_t hd     ((s0) + (s1)) (v1) (0) M r h
    · refine ev_icmp 46 rfl hR.1 hR.2 (by decide) (fun q => absurd q hc) (fun _ => ?_)
      refine ev_k (pc' := 47) (ls' := [(2, .inl ((s0) + (s1)))]) (st' := [.inl (-1), .inl (v1)]) (nc' := 126) (np' := 138) (M' := M) 2 rfl ?_
      exact R_beside_47_t hd     ((s0) + (s1)) (v1) (-1) M r h
  · refine ev_ifc 37 rfl hR.1 (by decide) (fun q => absurd q hc) (fun _ => ?_)
    refine ev_k (pc' := 47) (ls' := [(2, .inl ((s0) + (s1)))]) (st' := [.inl (1), .inl (v1)]) (nc' := 126) (np' := 138) (M' := M) 2 rfl ?_
    exact R_beside_47_t hd     ((s0) + (s1)) (v1) (1) M r h
theorem R_beside_e {L : Nat} {xs : Nat → Int} {d : Nat} (hd : 1 ≤ d)   (x0 : Int) (x1 : Int) (M : am_M) (r : Int) (h : R_beside   x0 x1 M = some r) : am_Ev L xs d me_233 0 (am_ar1 0 [.inl (x0), .inl (x1)]) [] 126 138 M (some (.inl r), 126, 138, M) := by
  refine ev_k (pc' := 3) (ls' := [(0, .inl (x0)), (1, .inl (x1))]) (st' := [.inl (12), .inl (x0)]) (nc' := 126) (np' := 138) (M' := M) 2 rfl ?_
  obtain ⟨hc, h⟩ := ck_i h
  obtain ⟨v1, ev, h⟩ := tw_i h
  refine ev_irem rfl hc ?_
  refine ev_k (pc' := 4) (ls' := [(0, .inl (x0)), (1, .inl (x1))]) (st' := [.inl (Int.tmod (x0) (12))]) (nc' := 126) (np' := 138) (M' := M) 0 rfl ?_
  rw [← ev]
  refine ev_k (pc' := 6) (ls' := [(0, .inl (x0)), (1, .inl (x1))]) (st' := [.inl (1), .inl (x1), .inl (v1)]) (nc' := 126) (np' := 138) (M' := M) 2 rfl ?_
  obtain ⟨hR, ⟨hc, h⟩ | ⟨hc, h⟩⟩ := c_ne_i h
  · refine ev_icmp 13 rfl hR.1 hR.2 (by decide) (fun _ => ?_) (fun q => absurd hc q)
    refine ev_k (pc' := 15) (ls' := [(0, .inl (x0)), (1, .inl (x1))]) (st' := [.inl (3), .inl (x1), .inl (v1)]) (nc' := 126) (np' := 138) (M' := M) 2 rfl ?_
    obtain ⟨hR, ⟨hc, h⟩ | ⟨hc, h⟩⟩ := c_ne_i h
    · refine ev_icmp 22 rfl hR.1 hR.2 (by decide) (fun _ => ?_) (fun q => absurd hc q)
      refine ev_k (pc' := 23) (ls' := [(0, .inl (x0)), (1, .inl (x1))]) (st' := [.inl (0), .inl (v1)]) (nc' := 126) (np' := 138) (M' := M) 1 rfl ?_
      exact R_beside_23_t hd     (x0) (x1) (v1) (0) M r h
    · refine ev_icmp 22 rfl hR.1 hR.2 (by decide) (fun q => absurd q hc) (fun _ => ?_)
      refine ev_k (pc' := 23) (ls' := [(0, .inl (x0)), (1, .inl (x1))]) (st' := [.inl (-1), .inl (v1)]) (nc' := 126) (np' := 138) (M' := M) 2 rfl ?_
      exact R_beside_23_t hd     (x0) (x1) (v1) (-1) M r h
  · refine ev_icmp 13 rfl hR.1 hR.2 (by decide) (fun q => absurd q hc) (fun _ => ?_)
    refine ev_k (pc' := 23) (ls' := [(0, .inl (x0)), (1, .inl (x1))]) (st' := [.inl (1), .inl (v1)]) (nc' := 126) (np' := 138) (M' := M) 2 rfl ?_
    exact R_beside_23_t hd     (x0) (x1) (v1) (1) M r h
def R_looksLikeWay_25    (s0 : Int) (M : am_M) : Option (Int) := ck ((s0) = 0 ∨ (s0) = 1) (some (s0))
def R_looksLikeWay_20     (M : am_M) : Option (Int) := (R_looksLikeWay_25    (1) M)
def R_looksLikeWay    (x1 : Int) (M : am_M) : Option (Int) := c_eq (x1) (0)
       (R_looksLikeWay_20     M)
       (c_eq (x1) (4)
       (R_looksLikeWay_20     M)
       (c_eq (x1) (5)
       (R_looksLikeWay_20     M)
       (c_ne (x1) (6)
       ((R_looksLikeWay_25    (0) M))
       (R_looksLikeWay_20     M))))
theorem R_looksLikeWay_25_t {L : Nat} {xs : Nat → Int} {d : Nat} (hd : 0 ≤ d)     (s0 : Int) (M : am_M) (r : Int) (h : R_looksLikeWay_25    s0 M = some r) : am_Ev L xs d me_234 25 [] [.inl (s0)] 126 138 M (some (.inl r), 126, 138, M) := by
  refine ev_k (pc' := 25) (ls' := []) (st' := [.inl (s0)]) (nc' := 126) (np' := 138) (M' := M) 0 rfl ?_
  obtain ⟨hc, h⟩ := ck_i h
  cases h
  exact ev_retz rfl rfl hc
theorem R_looksLikeWay_20_t {L : Nat} {xs : Nat → Int} {d : Nat} (hd : 0 ≤ d)      (M : am_M) (r : Int) (h : R_looksLikeWay_20     M = some r) : am_Ev L xs d me_234 20 [] [] 126 138 M (some (.inl r), 126, 138, M) := by
  refine ev_k (pc' := 25) (ls' := []) (st' := [.inl (1)]) (nc' := 126) (np' := 138) (M' := M) 2 rfl ?_
  exact R_looksLikeWay_25_t hd     (1) M r h
theorem R_looksLikeWay_e {L : Nat} {xs : Nat → Int} {d : Nat} (hd : 0 ≤ d)   (x1 : Int) (M : am_M) (r : Int) (h : R_looksLikeWay   x1 M = some r) : am_Ev L xs d me_234 0 (am_ar1 0 [.inr (.inr (some 73)), .inl (x1)]) [] 126 138 M (some (.inl r), 126, 138, M) := by
  refine ev_k (pc' := 1) (ls' := [(0, .inr (.inr (some 73))), (1, .inl (x1))]) (st' := [.inl (x1)]) (nc' := 126) (np' := 138) (M' := M) 1 rfl ?_
  obtain ⟨hR, ⟨hc, h⟩ | ⟨hc, h⟩⟩ := c_eq_i h
  · refine ev_ifc 20 rfl hR.1 (by decide) (fun _ => ?_) (fun q => absurd hc q)
    exact R_looksLikeWay_20_t hd      M r h
  · refine ev_ifc 20 rfl hR.1 (by decide) (fun q => absurd q hc) (fun _ => ?_)
    refine ev_k (pc' := 6) (ls' := [(0, .inr (.inr (some 73))), (1, .inl (x1))]) (st' := [.inl (4), .inl (x1)]) (nc' := 126) (np' := 138) (M' := M) 2 rfl ?_
    obtain ⟨hR, ⟨hc, h⟩ | ⟨hc, h⟩⟩ := c_eq_i h
    · refine ev_icmp 20 rfl hR.1 hR.2 (by decide) (fun _ => ?_) (fun q => absurd hc q)
      exact R_looksLikeWay_20_t hd      M r h
    · refine ev_icmp 20 rfl hR.1 hR.2 (by decide) (fun q => absurd q hc) (fun _ => ?_)
      refine ev_k (pc' := 11) (ls' := [(0, .inr (.inr (some 73))), (1, .inl (x1))]) (st' := [.inl (5), .inl (x1)]) (nc' := 126) (np' := 138) (M' := M) 2 rfl ?_
      obtain ⟨hR, ⟨hc, h⟩ | ⟨hc, h⟩⟩ := c_eq_i h
      · refine ev_icmp 20 rfl hR.1 hR.2 (by decide) (fun _ => ?_) (fun q => absurd hc q)
        exact R_looksLikeWay_20_t hd      M r h
      · refine ev_icmp 20 rfl hR.1 hR.2 (by decide) (fun q => absurd q hc) (fun _ => ?_)
        refine ev_k (pc' := 17) (ls' := [(0, .inr (.inr (some 73))), (1, .inl (x1))]) (st' := [.inl (6), .inl (x1)]) (nc' := 126) (np' := 138) (M' := M) 2 rfl ?_
        obtain ⟨hR, ⟨hc, h⟩ | ⟨hc, h⟩⟩ := c_ne_i h
        · refine ev_icmp 24 rfl hR.1 hR.2 (by decide) (fun _ => ?_) (fun q => absurd hc q)
          refine ev_k (pc' := 25) (ls' := []) (st' := [.inl (0)]) (nc' := 126) (np' := 138) (M' := M) 1 rfl ?_
          exact R_looksLikeWay_25_t hd     (0) M r h
        · refine ev_icmp 24 rfl hR.1 hR.2 (by decide) (fun q => absurd q hc) (fun _ => ?_)
          exact R_looksLikeWay_20_t hd      M r h
def R_isFork_89   (k2 : Int → Int → am_M → Option (Int)) (x1 : Int) (x2 : Int) (M : am_M) : Option (Int) := (k2 (x1) ((x2) + (1)) M)
def R_isFork_87     (M : am_M) : Option (Int) := some (1)
def R_isFork_64   (k2 : Int → Int → am_M → Option (Int)) (x1 : Int) (x2 : Int) (x3 : Int) (M : am_M) : Option (Int) := rd M 100 144 (x3) fun v1 => c_ne (v1) (-1)
       (R_isFork_87     M)
       (rd M 75 144 (x3) fun v2 => ob (R_looksLikeWay (v2) M) fun v3 => c_eq (v3) (0)
       (R_isFork_89   k2 (x1) (x2) M)
       (R_isFork_87     M))
def R_isFork_95     (M : am_M) : Option (Int) := some (0)
def R_isFork_2    : Nat → Int → Int → am_M → Option (Int)
  | 0, _, _, _ => none
  | n + 1, x1, x2, M => c_ge (x2) (4)
       (R_isFork_95     M)
       (c_le (x1) (0)
       (R_isFork_95     M)
       (rd M 95 100 (x1) fun v1 => ob (R_beside (v1) (x2) M) fun v2 => c_eq (v2) (-1)
       (R_isFork_89   (R_isFork_2    n) (x1) (x2) M)
       (rd M 95 100 ((x1) - (1)) fun v3 => c_eq (v2) (v3)
       (R_isFork_89   (R_isFork_2    n) (x1) (x2) M)
       (c_ge ((x1) + (1)) (M 73 46)
       (R_isFork_64   (R_isFork_2    n) (x1) (x2) (v2) M)
       (rd M 95 100 ((x1) + (1)) fun v4 => c_ne (v2) (v4)
       (R_isFork_64   (R_isFork_2    n) (x1) (x2) (v2) M)
       ((R_isFork_89   (R_isFork_2    n) (x1) (x2) M)))))))
def R_isFork    (x1 : Int) (M : am_M) : Option (Int) := (R_isFork_2    am_big (x1) (0) M)
theorem R_isFork_89_t {L : Nat} {xs : Nat → Int} {d : Nat} (hd : 2 ≤ d)   (k2 : Int → Int → am_M → Option (Int)) (hk2 : ∀ (x1 : Int) (x2 : Int) (M : am_M) (r : Int), k2 x1 x2 M = some r → am_Ev L xs d me_232 2 [(0, .inr (.inr (some 73))), (1, .inl (x1)), (2, .inl (x2))] [] 126 138 M (some (.inl r), 126, 138, M)) (x1 : Int) (x2 : Int) (M : am_M) (r : Int) (h : R_isFork_89   k2 x1 x2 M = some r) : am_Ev L xs d me_232 89 [(0, .inr (.inr (some 73))), (1, .inl (x1)), (2, .inl (x2))] [] 126 138 M (some (.inl r), 126, 138, M) := by
  refine ev_k (pc' := 2) (ls' := [(0, .inr (.inr (some 73))), (1, .inl (x1)), (2, .inl ((x2) + (1)))]) (st' := []) (nc' := 126) (np' := 138) (M' := M) 2 rfl ?_
  exact hk2 (x1) ((x2) + (1)) M r h
theorem R_isFork_87_t {L : Nat} {xs : Nat → Int} {d : Nat} (hd : 2 ≤ d)      (M : am_M) (r : Int) (h : R_isFork_87     M = some r) : am_Ev L xs d me_232 87 [] [] 126 138 M (some (.inl r), 126, 138, M) := by
  refine ev_k (pc' := 88) (ls' := []) (st' := [.inl (1)]) (nc' := 126) (np' := 138) (M' := M) 1 rfl ?_
  cases h
  exact ev_ret rfl
theorem R_isFork_64_t {L : Nat} {xs : Nat → Int} {d : Nat} (hd : 2 ≤ d)   (k2 : Int → Int → am_M → Option (Int)) (hk2 : ∀ (x1 : Int) (x2 : Int) (M : am_M) (r : Int), k2 x1 x2 M = some r → am_Ev L xs d me_232 2 [(0, .inr (.inr (some 73))), (1, .inl (x1)), (2, .inl (x2))] [] 126 138 M (some (.inl r), 126, 138, M)) (x1 : Int) (x2 : Int) (x3 : Int) (M : am_M) (r : Int) (h : R_isFork_64   k2 x1 x2 x3 M = some r) : am_Ev L xs d me_232 64 [(0, .inr (.inr (some 73))), (1, .inl (x1)), (2, .inl (x2)), (3, .inl (x3))] [] 126 138 M (some (.inl r), 126, 138, M) := by
  refine ev_k (pc' := 69) (ls' := [(0, .inr (.inr (some 73))), (1, .inl (x1)), (2, .inl (x2)), (3, .inl (x3))]) (st' := [.inl (x3), .inr (.inr (some 100))]) (nc' := 126) (np' := 138) (M' := M) 3 rfl ?_
  obtain ⟨hc, v1, ev, h⟩ := rd_i h
  refine ev_ald (k := 100) (t := 0) (Or.inl ⟨rfl, rfl⟩) rfl (by decide) (by decide) rfl hc ev ?_
  refine ev_k (pc' := 71) (ls' := [(0, .inr (.inr (some 73))), (1, .inl (x1)), (2, .inl (x2)), (3, .inl (x3))]) (st' := [.inl (-1), .inl (v1)]) (nc' := 126) (np' := 138) (M' := M) 1 rfl ?_
  obtain ⟨hR, ⟨hc, h⟩ | ⟨hc, h⟩⟩ := c_ne_i h
  · refine ev_icmp 87 rfl hR.1 hR.2 (by decide) (fun _ => ?_) (fun q => absurd hc q)
    exact R_isFork_87_t hd      M r h
  · refine ev_icmp 87 rfl hR.1 hR.2 (by decide) (fun q => absurd q hc) (fun _ => ?_)
    refine ev_k (pc' := 80) (ls' := [(0, .inr (.inr (some 73))), (1, .inl (x1)), (2, .inl (x2)), (3, .inl (x3))]) (st' := [.inl (x3), .inr (.inr (some 75)), .inr (.inr (some 73))]) (nc' := 126) (np' := 138) (M' := M) 4 rfl ?_
    obtain ⟨hc, v2, ev, h⟩ := rd_i h
    refine ev_ald (k := 75) (t := 0) (Or.inl ⟨rfl, rfl⟩) rfl (by decide) (by decide) rfl hc ev ?_
    refine ev_k (pc' := 81) (ls' := [(0, .inr (.inr (some 73))), (1, .inl (x1)), (2, .inl (x2)), (3, .inl (x3))]) (st' := [.inl (v2), .inr (.inr (some 73))]) (nc' := 126) (np' := 138) (M' := M) 0 rfl ?_
    obtain ⟨v3, hv, h⟩ := ob_i h
    refine ev_call (t := 234) (as := [.inr (.inr (some 73)), .inl (v2)]) (rest := []) rfl rfl rfl (by omega) (R_looksLikeWay_e (by omega) (v2) M _ hv) ?_
    refine ev_k (pc' := 84) (ls' := [(0, .inr (.inr (some 73))), (1, .inl (x1)), (2, .inl (x2)), (3, .inl (x3))]) (st' := [.inl (v3)]) (nc' := 126) (np' := 138) (M' := M) 0 rfl ?_
    obtain ⟨hR, ⟨hc, h⟩ | ⟨hc, h⟩⟩ := c_eq_i h
    · refine ev_ifc 89 rfl hR.1 (by decide) (fun _ => ?_) (fun q => absurd hc q)
      exact R_isFork_89_t hd   k2 hk2 (x1) (x2) M r h
    · refine ev_ifc 89 rfl hR.1 (by decide) (fun q => absurd q hc) (fun _ => ?_)
      exact R_isFork_87_t hd      M r h
theorem R_isFork_95_t {L : Nat} {xs : Nat → Int} {d : Nat} (hd : 2 ≤ d)      (M : am_M) (r : Int) (h : R_isFork_95     M = some r) : am_Ev L xs d me_232 95 [] [] 126 138 M (some (.inl r), 126, 138, M) := by
  refine ev_k (pc' := 96) (ls' := []) (st' := [.inl (0)]) (nc' := 126) (np' := 138) (M' := M) 1 rfl ?_
  cases h
  exact ev_ret rfl
theorem R_isFork_2_t {L : Nat} {xs : Nat → Int} {d : Nat} (hd : 2 ≤ d)     : ∀ (n : Nat) (x1 : Int) (x2 : Int) (M : am_M) (r : Int), R_isFork_2    n x1 x2 M = some r → am_Ev L xs d me_232 2 [(0, .inr (.inr (some 73))), (1, .inl (x1)), (2, .inl (x2))] [] 126 138 M (some (.inl r), 126, 138, M)
  | 0, _, _, M, r, h => by cases h
  | n + 1, x1, x2, M, r, h => by
    have ih := R_isFork_2_t (L := L) (xs := xs) hd     n
    refine ev_k (pc' := 4) (ls' := [(0, .inr (.inr (some 73))), (1, .inl (x1)), (2, .inl (x2))]) (st' := [.inl (4), .inl (x2)]) (nc' := 126) (np' := 138) (M' := M) 2 rfl ?_
    obtain ⟨hR, ⟨hc, h⟩ | ⟨hc, h⟩⟩ := c_ge_i h
    · refine ev_icmp 95 rfl hR.1 hR.2 (by decide) (fun _ => ?_) (fun q => absurd hc q)
      exact R_isFork_95_t hd      M r h
    · refine ev_icmp 95 rfl hR.1 hR.2 (by decide) (fun q => absurd q hc) (fun _ => ?_)
      refine ev_k (pc' := 8) (ls' := [(0, .inr (.inr (some 73))), (1, .inl (x1)), (2, .inl (x2))]) (st' := [.inl (x1)]) (nc' := 126) (np' := 138) (M' := M) 1 rfl ?_
      obtain ⟨hR, ⟨hc, h⟩ | ⟨hc, h⟩⟩ := c_le_i h
      · refine ev_ifc 95 rfl hR.1 (by decide) (fun _ => ?_) (fun q => absurd hc q)
        exact R_isFork_95_t hd      M r h
      · refine ev_ifc 95 rfl hR.1 (by decide) (fun q => absurd q hc) (fun _ => ?_)
        refine ev_k (pc' := 16) (ls' := [(0, .inr (.inr (some 73))), (1, .inl (x1)), (2, .inl (x2))]) (st' := [.inl (x1), .inr (.inr (some 95))]) (nc' := 126) (np' := 138) (M' := M) 3 rfl ?_
        obtain ⟨hc, v1, ev, h⟩ := rd_i h
        refine ev_ald (k := 95) (t := 0) (Or.inl ⟨rfl, rfl⟩) rfl (by decide) (by decide) rfl hc ev ?_
        refine ev_k (pc' := 18) (ls' := [(0, .inr (.inr (some 73))), (1, .inl (x1)), (2, .inl (x2))]) (st' := [.inl (x2), .inl (v1)]) (nc' := 126) (np' := 138) (M' := M) 1 rfl ?_
        obtain ⟨v2, hv, h⟩ := ob_i h
        refine ev_call (t := 233) (as := [.inl (v1), .inl (x2)]) (rest := []) rfl rfl rfl (by omega) (R_beside_e (by omega) (v1) (x2) M _ hv) ?_
        refine ev_k (pc' := 24) (ls' := [(3, .inl (v2)), (0, .inr (.inr (some 73))), (1, .inl (x1)), (2, .inl (x2))]) (st' := [.inl (-1), .inl (v2)]) (nc' := 126) (np' := 138) (M' := M) 3 rfl ?_
        obtain ⟨hR, ⟨hc, h⟩ | ⟨hc, h⟩⟩ := c_eq_i h
        · refine ev_icmp 89 rfl hR.1 hR.2 (by decide) (fun _ => ?_) (fun q => absurd hc q)
          exact R_isFork_89_t hd   (R_isFork_2    n) ih (x1) (x2) M r h
        · refine ev_icmp 89 rfl hR.1 hR.2 (by decide) (fun q => absurd q hc) (fun _ => ?_)
          refine ev_k (pc' := 35) (ls' := [(3, .inl (v2)), (0, .inr (.inr (some 73))), (1, .inl (x1)), (2, .inl (x2))]) (st' := [.inl ((x1) - (1)), .inr (.inr (some 95)), .inl (v2)]) (nc' := 126) (np' := 138) (M' := M) 6 rfl ?_
          obtain ⟨hc, v3, ev, h⟩ := rd_i h
          refine ev_ald (k := 95) (t := 0) (Or.inl ⟨rfl, rfl⟩) rfl (by decide) (by decide) rfl hc ev ?_
          refine ev_k (pc' := 36) (ls' := [(3, .inl (v2)), (0, .inr (.inr (some 73))), (1, .inl (x1)), (2, .inl (x2))]) (st' := [.inl (v3), .inl (v2)]) (nc' := 126) (np' := 138) (M' := M) 0 rfl ?_
          obtain ⟨hR, ⟨hc, h⟩ | ⟨hc, h⟩⟩ := c_eq_i h
          · refine ev_icmp 89 rfl hR.1 hR.2 (by decide) (fun _ => ?_) (fun q => absurd hc q)
            exact R_isFork_89_t hd   (R_isFork_2    n) ih (x1) (x2) M r h
          · refine ev_icmp 89 rfl hR.1 hR.2 (by decide) (fun q => absurd q hc) (fun _ => ?_)
            refine ev_k (pc' := 46) (ls' := [(3, .inl (v2)), (0, .inr (.inr (some 73))), (1, .inl (x1)), (2, .inl (x2))]) (st' := [.inl (M 73 46), .inl ((x1) + (1))]) (nc' := 126) (np' := 138) (M' := M) 5 rfl ?_
            obtain ⟨hR, ⟨hc, h⟩ | ⟨hc, h⟩⟩ := c_ge_i h
            · refine ev_icmp 64 rfl hR.1 hR.2 (by decide) (fun _ => ?_) (fun q => absurd hc q)
              exact R_isFork_64_t hd   (R_isFork_2    n) ih (x1) (x2) (v2) M r h
            · refine ev_icmp 64 rfl hR.1 hR.2 (by decide) (fun q => absurd q hc) (fun _ => ?_)
              refine ev_k (pc' := 57) (ls' := [(3, .inl (v2)), (0, .inr (.inr (some 73))), (1, .inl (x1)), (2, .inl (x2))]) (st' := [.inl ((x1) + (1)), .inr (.inr (some 95)), .inl (v2)]) (nc' := 126) (np' := 138) (M' := M) 6 rfl ?_
              obtain ⟨hc, v4, ev, h⟩ := rd_i h
              refine ev_ald (k := 95) (t := 0) (Or.inl ⟨rfl, rfl⟩) rfl (by decide) (by decide) rfl hc ev ?_
              refine ev_k (pc' := 58) (ls' := [(3, .inl (v2)), (0, .inr (.inr (some 73))), (1, .inl (x1)), (2, .inl (x2))]) (st' := [.inl (v4), .inl (v2)]) (nc' := 126) (np' := 138) (M' := M) 0 rfl ?_
              obtain ⟨hR, ⟨hc, h⟩ | ⟨hc, h⟩⟩ := c_ne_i h
              · refine ev_icmp 64 rfl hR.1 hR.2 (by decide) (fun _ => ?_) (fun q => absurd hc q)
                exact R_isFork_64_t hd   (R_isFork_2    n) ih (x1) (x2) (v2) M r h
              · refine ev_icmp 64 rfl hR.1 hR.2 (by decide) (fun q => absurd q hc) (fun _ => ?_)
                refine ev_k (pc' := 89) (ls' := [(0, .inr (.inr (some 73))), (1, .inl (x1)), (2, .inl (x2))]) (st' := []) (nc' := 126) (np' := 138) (M' := M) 1 rfl ?_
                exact R_isFork_89_t hd   (R_isFork_2    n) ih (x1) (x2) M r h
theorem R_isFork_e {L : Nat} {xs : Nat → Int} {d : Nat} (hd : 2 ≤ d)   (x1 : Int) (M : am_M) (r : Int) (h : R_isFork   x1 M = some r) : am_Ev L xs d me_232 0 (am_ar1 0 [.inr (.inr (some 73)), .inl (x1)]) [] 126 138 M (some (.inl r), 126, 138, M) := by
  refine ev_k (pc' := 2) (ls' := [(0, .inr (.inr (some 73))), (1, .inl (x1)), (2, .inl (0))]) (st' := []) (nc' := 126) (np' := 138) (M' := M) 2 rfl ?_
  exact R_isFork_2_t hd     am_big (x1) (0) M r h
def R_isBlind_35    (s0 : Int) (M : am_M) : Option (Int) := ck ((s0) = 0 ∨ (s0) = 1) (some (s0))
def R_isBlind_34     (M : am_M) : Option (Int) := (R_isBlind_35    (0) M)
def R_isBlind    (x1 : Int) (M : am_M) : Option (Int) := ob (R_isFork (x1) M) fun v1 => c_eq (v1) (0)
       (R_isBlind_34     M)
       (rd M 99 100 (x1) fun v2 => c_ne (v2) (0)
       (R_isBlind_34     M)
       (rd M 98 100 ((x1) - (1)) fun v3 => c_ne (b_and (v3) (2)) (0)
       (R_isBlind_34     M)
       ((R_isBlind_35    (1) M))))
theorem R_isBlind_35_t {L : Nat} {xs : Nat → Int} {d : Nat} (hd : 3 ≤ d)     (s0 : Int) (M : am_M) (r : Int) (h : R_isBlind_35    s0 M = some r) : am_Ev L xs d me_235 35 [] [.inl (s0)] 126 138 M (some (.inl r), 126, 138, M) := by
  refine ev_k (pc' := 35) (ls' := []) (st' := [.inl (s0)]) (nc' := 126) (np' := 138) (M' := M) 0 rfl ?_
  obtain ⟨hc, h⟩ := ck_i h
  cases h
  exact ev_retz rfl rfl hc
theorem R_isBlind_34_t {L : Nat} {xs : Nat → Int} {d : Nat} (hd : 3 ≤ d)      (M : am_M) (r : Int) (h : R_isBlind_34     M = some r) : am_Ev L xs d me_235 34 [] [] 126 138 M (some (.inl r), 126, 138, M) := by
  refine ev_k (pc' := 35) (ls' := []) (st' := [.inl (0)]) (nc' := 126) (np' := 138) (M' := M) 1 rfl ?_
  exact R_isBlind_35_t hd     (0) M r h
theorem R_isBlind_e {L : Nat} {xs : Nat → Int} {d : Nat} (hd : 3 ≤ d)   (x1 : Int) (M : am_M) (r : Int) (h : R_isBlind   x1 M = some r) : am_Ev L xs d me_235 0 (am_ar1 0 [.inr (.inr (some 73)), .inl (x1)]) [] 126 138 M (some (.inl r), 126, 138, M) := by
  refine ev_k (pc' := 2) (ls' := [(0, .inr (.inr (some 73))), (1, .inl (x1))]) (st' := [.inl (x1), .inr (.inr (some 73))]) (nc' := 126) (np' := 138) (M' := M) 2 rfl ?_
  obtain ⟨v1, hv, h⟩ := ob_i h
  refine ev_call (t := 232) (as := [.inr (.inr (some 73)), .inl (x1)]) (rest := []) rfl rfl rfl (by omega) (R_isFork_e (by omega) (x1) M _ hv) ?_
  refine ev_k (pc' := 5) (ls' := [(0, .inr (.inr (some 73))), (1, .inl (x1))]) (st' := [.inl (v1)]) (nc' := 126) (np' := 138) (M' := M) 0 rfl ?_
  obtain ⟨hR, ⟨hc, h⟩ | ⟨hc, h⟩⟩ := c_eq_i h
  · refine ev_ifc 34 rfl hR.1 (by decide) (fun _ => ?_) (fun q => absurd hc q)
    exact R_isBlind_34_t hd      M r h
  · refine ev_ifc 34 rfl hR.1 (by decide) (fun q => absurd q hc) (fun _ => ?_)
    refine ev_k (pc' := 13) (ls' := [(0, .inr (.inr (some 73))), (1, .inl (x1))]) (st' := [.inl (x1), .inr (.inr (some 99))]) (nc' := 126) (np' := 138) (M' := M) 3 rfl ?_
    obtain ⟨hc, v2, ev, h⟩ := rd_i h
    refine ev_ald (k := 99) (t := 2) (Or.inr ⟨rfl, Or.inr rfl⟩) rfl (by decide) (by decide) rfl hc ev ?_
    refine ev_k (pc' := 14) (ls' := [(0, .inr (.inr (some 73))), (1, .inl (x1))]) (st' := [.inl (v2)]) (nc' := 126) (np' := 138) (M' := M) 0 rfl ?_
    obtain ⟨hR, ⟨hc, h⟩ | ⟨hc, h⟩⟩ := c_ne_i h
    · refine ev_ifc 34 rfl hR.1 (by decide) (fun _ => ?_) (fun q => absurd hc q)
      exact R_isBlind_34_t hd      M r h
    · refine ev_ifc 34 rfl hR.1 (by decide) (fun q => absurd q hc) (fun _ => ?_)
      refine ev_k (pc' := 24) (ls' := [(0, .inr (.inr (some 73))), (1, .inl (x1))]) (st' := [.inl ((x1) - (1)), .inr (.inr (some 98))]) (nc' := 126) (np' := 138) (M' := M) 5 rfl ?_
      obtain ⟨hc, v3, ev, h⟩ := rd_i h
      refine ev_ald (k := 98) (t := 0) (Or.inl ⟨rfl, rfl⟩) rfl (by decide) (by decide) rfl hc ev ?_
      refine ev_k (pc' := 27) (ls' := [(0, .inr (.inr (some 73))), (1, .inl (x1))]) (st' := [.inl (b_and (v3) (2))]) (nc' := 126) (np' := 138) (M' := M) 2 rfl ?_
      obtain ⟨hR, ⟨hc, h⟩ | ⟨hc, h⟩⟩ := c_ne_i h
      · refine ev_ifc 34 rfl hR.1 (by decide) (fun _ => ?_) (fun q => absurd hc q)
        exact R_isBlind_34_t hd      M r h
      · refine ev_ifc 34 rfl hR.1 (by decide) (fun q => absurd q hc) (fun _ => ?_)
        refine ev_k (pc' := 35) (ls' := []) (st' := [.inl (1)]) (nc' := 126) (np' := 138) (M' := M) 2 rfl ?_
        exact R_isBlind_35_t hd     (1) M r h
def R_path_130    (s0 : Int) (M : am_M) : Option (Int) := some (s0)
def R_path_116    (s0 : Int) (M : am_M) : Option (Int) := some (s0)
def R_path_102    (s0 : Int) (M : am_M) : Option (Int) := some (s0)
def R_path    (x1 : Int) (x2 : Int) (M : am_M) : Option (Int) := ck (am_R (x1)) (ck (am_R ((M 73 46) - (1))) (ob (R_lies (x1) (0) ((M 73 46) - (1)) M) fun v1 => c_ne (v1) (0)
       (ck (am_R (x2)) ((if (x2) = (0) then
       (rd M 95 100 (x1) fun v2 => some (v2)) else
       (if (x2) = (1) then
       (rd M 97 100 (x1) fun v3 => some (v3)) else
       (if (x2) = (2) then
       (rd M 96 100 (x1) fun v4 => some (v4)) else
       (if (x2) = (3) then
       (rd M 98 100 (x1) fun v5 => some (v5)) else
       (if (x2) = (4) then
       (rd M 99 100 (x1) fun v6 => c_eq (v6) (0)
       ((R_path_102    (0) M))
       ((R_path_102    (1) M))) else
       (if (x2) = (5) then
       (ob (R_isFork (x1) M) fun v7 => c_eq (v7) (0)
       ((R_path_116    (0) M))
       ((R_path_116    (1) M))) else
       (if (x2) = (6) then
       (ob (R_isBlind (x1) M) fun v8 => c_eq (v8) (0)
       ((R_path_130    (0) M))
       ((R_path_130    (1) M))) else
       (some (-1)))))))))))
       (some (-1))))
theorem R_path_130_t {L : Nat} {xs : Nat → Int} {d : Nat} (hd : 4 ≤ d)     (s0 : Int) (M : am_M) (r : Int) (h : R_path_130    s0 M = some r) : am_Ev L xs d me_231 130 [] [.inl (s0)] 126 138 M (some (.inl r), 126, 138, M) := by
  refine ev_k (pc' := 130) (ls' := []) (st' := [.inl (s0)]) (nc' := 126) (np' := 138) (M' := M) 0 rfl ?_
  cases h
  exact ev_ret rfl
theorem R_path_116_t {L : Nat} {xs : Nat → Int} {d : Nat} (hd : 4 ≤ d)     (s0 : Int) (M : am_M) (r : Int) (h : R_path_116    s0 M = some r) : am_Ev L xs d me_231 116 [] [.inl (s0)] 126 138 M (some (.inl r), 126, 138, M) := by
  refine ev_k (pc' := 116) (ls' := []) (st' := [.inl (s0)]) (nc' := 126) (np' := 138) (M' := M) 0 rfl ?_
  cases h
  exact ev_ret rfl
theorem R_path_102_t {L : Nat} {xs : Nat → Int} {d : Nat} (hd : 4 ≤ d)     (s0 : Int) (M : am_M) (r : Int) (h : R_path_102    s0 M = some r) : am_Ev L xs d me_231 102 [] [.inl (s0)] 126 138 M (some (.inl r), 126, 138, M) := by
  refine ev_k (pc' := 102) (ls' := []) (st' := [.inl (s0)]) (nc' := 126) (np' := 138) (M' := M) 0 rfl ?_
  cases h
  exact ev_ret rfl
theorem R_path_e {L : Nat} {xs : Nat → Int} {d : Nat} (hd : 4 ≤ d)   (x1 : Int) (x2 : Int) (M : am_M) (r : Int) (h : R_path   x1 x2 M = some r) : am_Ev L xs d me_231 0 (am_ar1 0 [.inr (.inr (some 73)), .inl (x1), .inl (x2)]) [] 126 138 M (some (.inl r), 126, 138, M) := by
  refine ev_k (pc' := 1) (ls' := [(0, .inr (.inr (some 73))), (1, .inl (x1)), (2, .inl (x2))]) (st' := [.inl (x1)]) (nc' := 126) (np' := 138) (M' := M) 1 rfl ?_
  obtain ⟨hc, h⟩ := ck_i h
  refine ev_i2l rfl hc ?_
  refine ev_k (pc' := 9) (ls' := [(0, .inr (.inr (some 73))), (1, .inl (x1)), (2, .inl (x2))]) (st' := [.inl ((M 73 46) - (1)), .inr (.inl (0)), .inr (.inl (x1))]) (nc' := 126) (np' := 138) (M' := M) 5 rfl ?_
  obtain ⟨hc, h⟩ := ck_i h
  refine ev_i2l rfl hc ?_
  refine ev_k (pc' := 10) (ls' := [(0, .inr (.inr (some 73))), (1, .inl (x1)), (2, .inl (x2))]) (st' := [.inr (.inl ((M 73 46) - (1))), .inr (.inl (0)), .inr (.inl (x1))]) (nc' := 126) (np' := 138) (M' := M) 0 rfl ?_
  obtain ⟨v1, hv, h⟩ := ob_i h
  refine ev_call (t := 193) (as := [.inr (.inl (x1)), .inr (.inl (0)), .inr (.inl ((M 73 46) - (1)))]) (rest := []) rfl rfl rfl (by omega) (R_lies_e (by omega) (x1) (0) ((M 73 46) - (1)) M _ hv) ?_
  refine ev_k (pc' := 13) (ls' := [(0, .inr (.inr (some 73))), (1, .inl (x1)), (2, .inl (x2))]) (st' := [.inl (v1)]) (nc' := 126) (np' := 138) (M' := M) 0 rfl ?_
  obtain ⟨hR, ⟨hc, h⟩ | ⟨hc, h⟩⟩ := c_ne_i h
  · refine ev_ifc 18 rfl hR.1 (by decide) (fun _ => ?_) (fun q => absurd hc q)
    refine ev_k (pc' := 19) (ls' := [(0, .inr (.inr (some 73))), (1, .inl (x1)), (2, .inl (x2))]) (st' := [.inl (x2)]) (nc' := 126) (np' := 138) (M' := M) 1 rfl ?_
    obtain ⟨hR, h⟩ := ck_i h
    rcases if_i h with ⟨hq, h⟩ | ⟨hq0, h⟩
    · refine ev_tsw 60 rfl hR (41) (Or.inr ⟨by rw [hq]; decide, by rw [hq]; rfl⟩) (by decide) ?_
      refine ev_k (pc' := 65) (ls' := [(0, .inr (.inr (some 73))), (1, .inl (x1)), (2, .inl (x2))]) (st' := [.inl (x1), .inr (.inr (some 95))]) (nc' := 126) (np' := 138) (M' := M) 3 rfl ?_
      obtain ⟨hc, v2, ev, h⟩ := rd_i h
      refine ev_ald (k := 95) (t := 0) (Or.inl ⟨rfl, rfl⟩) rfl (by decide) (by decide) rfl hc ev ?_
      refine ev_k (pc' := 66) (ls' := [(0, .inr (.inr (some 73))), (1, .inl (x1)), (2, .inl (x2))]) (st' := [.inl (v2)]) (nc' := 126) (np' := 138) (M' := M) 0 rfl ?_
      cases h
      exact ev_ret rfl
    · skip
      rcases if_i h with ⟨hq, h⟩ | ⟨hq1, h⟩
      · refine ev_tsw 67 rfl hR (48) (Or.inr ⟨by rw [hq]; decide, by rw [hq]; rfl⟩) (by decide) ?_
        refine ev_k (pc' := 72) (ls' := [(0, .inr (.inr (some 73))), (1, .inl (x1)), (2, .inl (x2))]) (st' := [.inl (x1), .inr (.inr (some 97))]) (nc' := 126) (np' := 138) (M' := M) 3 rfl ?_
        obtain ⟨hc, v3, ev, h⟩ := rd_i h
        refine ev_ald (k := 97) (t := 0) (Or.inl ⟨rfl, rfl⟩) rfl (by decide) (by decide) rfl hc ev ?_
        refine ev_k (pc' := 73) (ls' := [(0, .inr (.inr (some 73))), (1, .inl (x1)), (2, .inl (x2))]) (st' := [.inl (v3)]) (nc' := 126) (np' := 138) (M' := M) 0 rfl ?_
        cases h
        exact ev_ret rfl
      · skip
        rcases if_i h with ⟨hq, h⟩ | ⟨hq2, h⟩
        · refine ev_tsw 74 rfl hR (55) (Or.inr ⟨by rw [hq]; decide, by rw [hq]; rfl⟩) (by decide) ?_
          refine ev_k (pc' := 79) (ls' := [(0, .inr (.inr (some 73))), (1, .inl (x1)), (2, .inl (x2))]) (st' := [.inl (x1), .inr (.inr (some 96))]) (nc' := 126) (np' := 138) (M' := M) 3 rfl ?_
          obtain ⟨hc, v4, ev, h⟩ := rd_i h
          refine ev_ald (k := 96) (t := 0) (Or.inl ⟨rfl, rfl⟩) rfl (by decide) (by decide) rfl hc ev ?_
          refine ev_k (pc' := 80) (ls' := [(0, .inr (.inr (some 73))), (1, .inl (x1)), (2, .inl (x2))]) (st' := [.inl (v4)]) (nc' := 126) (np' := 138) (M' := M) 0 rfl ?_
          cases h
          exact ev_ret rfl
        · skip
          rcases if_i h with ⟨hq, h⟩ | ⟨hq3, h⟩
          · refine ev_tsw 81 rfl hR (62) (Or.inr ⟨by rw [hq]; decide, by rw [hq]; rfl⟩) (by decide) ?_
            refine ev_k (pc' := 86) (ls' := [(0, .inr (.inr (some 73))), (1, .inl (x1)), (2, .inl (x2))]) (st' := [.inl (x1), .inr (.inr (some 98))]) (nc' := 126) (np' := 138) (M' := M) 3 rfl ?_
            obtain ⟨hc, v5, ev, h⟩ := rd_i h
            refine ev_ald (k := 98) (t := 0) (Or.inl ⟨rfl, rfl⟩) rfl (by decide) (by decide) rfl hc ev ?_
            refine ev_k (pc' := 87) (ls' := [(0, .inr (.inr (some 73))), (1, .inl (x1)), (2, .inl (x2))]) (st' := [.inl (v5)]) (nc' := 126) (np' := 138) (M' := M) 0 rfl ?_
            cases h
            exact ev_ret rfl
          · skip
            rcases if_i h with ⟨hq, h⟩ | ⟨hq4, h⟩
            · refine ev_tsw 88 rfl hR (69) (Or.inr ⟨by rw [hq]; decide, by rw [hq]; rfl⟩) (by decide) ?_
              refine ev_k (pc' := 93) (ls' := [(0, .inr (.inr (some 73))), (1, .inl (x1)), (2, .inl (x2))]) (st' := [.inl (x1), .inr (.inr (some 99))]) (nc' := 126) (np' := 138) (M' := M) 3 rfl ?_
              obtain ⟨hc, v6, ev, h⟩ := rd_i h
              refine ev_ald (k := 99) (t := 2) (Or.inr ⟨rfl, Or.inr rfl⟩) rfl (by decide) (by decide) rfl hc ev ?_
              refine ev_k (pc' := 94) (ls' := [(0, .inr (.inr (some 73))), (1, .inl (x1)), (2, .inl (x2))]) (st' := [.inl (v6)]) (nc' := 126) (np' := 138) (M' := M) 0 rfl ?_
              obtain ⟨hR, ⟨hc, h⟩ | ⟨hc, h⟩⟩ := c_eq_i h
              · refine ev_ifc 101 rfl hR.1 (by decide) (fun _ => ?_) (fun q => absurd hc q)
                refine ev_k (pc' := 102) (ls' := []) (st' := [.inl (0)]) (nc' := 126) (np' := 138) (M' := M) 1 rfl ?_
                exact R_path_102_t hd     (0) M r h
              · refine ev_ifc 101 rfl hR.1 (by decide) (fun q => absurd q hc) (fun _ => ?_)
                refine ev_k (pc' := 102) (ls' := []) (st' := [.inl (1)]) (nc' := 126) (np' := 138) (M' := M) 2 rfl ?_
                exact R_path_102_t hd     (1) M r h
            · skip
              rcases if_i h with ⟨hq, h⟩ | ⟨hq5, h⟩
              · refine ev_tsw 103 rfl hR (84) (Or.inr ⟨by rw [hq]; decide, by rw [hq]; rfl⟩) (by decide) ?_
                refine ev_k (pc' := 105) (ls' := [(0, .inr (.inr (some 73))), (1, .inl (x1)), (2, .inl (x2))]) (st' := [.inl (x1), .inr (.inr (some 73))]) (nc' := 126) (np' := 138) (M' := M) 2 rfl ?_
                obtain ⟨v7, hv, h⟩ := ob_i h
                refine ev_call (t := 232) (as := [.inr (.inr (some 73)), .inl (x1)]) (rest := []) rfl rfl rfl (by omega) (R_isFork_e (by omega) (x1) M _ hv) ?_
                refine ev_k (pc' := 108) (ls' := [(0, .inr (.inr (some 73))), (1, .inl (x1)), (2, .inl (x2))]) (st' := [.inl (v7)]) (nc' := 126) (np' := 138) (M' := M) 0 rfl ?_
                obtain ⟨hR, ⟨hc, h⟩ | ⟨hc, h⟩⟩ := c_eq_i h
                · refine ev_ifc 115 rfl hR.1 (by decide) (fun _ => ?_) (fun q => absurd hc q)
                  refine ev_k (pc' := 116) (ls' := []) (st' := [.inl (0)]) (nc' := 126) (np' := 138) (M' := M) 1 rfl ?_
                  exact R_path_116_t hd     (0) M r h
                · refine ev_ifc 115 rfl hR.1 (by decide) (fun q => absurd q hc) (fun _ => ?_)
                  refine ev_k (pc' := 116) (ls' := []) (st' := [.inl (1)]) (nc' := 126) (np' := 138) (M' := M) 2 rfl ?_
                  exact R_path_116_t hd     (1) M r h
              · skip
                rcases if_i h with ⟨hq, h⟩ | ⟨hq6, h⟩
                · refine ev_tsw 117 rfl hR (98) (Or.inr ⟨by rw [hq]; decide, by rw [hq]; rfl⟩) (by decide) ?_
                  refine ev_k (pc' := 119) (ls' := [(0, .inr (.inr (some 73))), (1, .inl (x1)), (2, .inl (x2))]) (st' := [.inl (x1), .inr (.inr (some 73))]) (nc' := 126) (np' := 138) (M' := M) 2 rfl ?_
                  obtain ⟨v8, hv, h⟩ := ob_i h
                  refine ev_call (t := 235) (as := [.inr (.inr (some 73)), .inl (x1)]) (rest := []) rfl rfl rfl (by omega) (R_isBlind_e (by omega) (x1) M _ hv) ?_
                  refine ev_k (pc' := 122) (ls' := [(0, .inr (.inr (some 73))), (1, .inl (x1)), (2, .inl (x2))]) (st' := [.inl (v8)]) (nc' := 126) (np' := 138) (M' := M) 0 rfl ?_
                  obtain ⟨hR, ⟨hc, h⟩ | ⟨hc, h⟩⟩ := c_eq_i h
                  · refine ev_ifc 129 rfl hR.1 (by decide) (fun _ => ?_) (fun q => absurd hc q)
                    refine ev_k (pc' := 130) (ls' := []) (st' := [.inl (0)]) (nc' := 126) (np' := 138) (M' := M) 1 rfl ?_
                    exact R_path_130_t hd     (0) M r h
                  · refine ev_ifc 129 rfl hR.1 (by decide) (fun q => absurd q hc) (fun _ => ?_)
                    refine ev_k (pc' := 130) (ls' := []) (st' := [.inl (1)]) (nc' := 126) (np' := 138) (M' := M) 2 rfl ?_
                    exact R_path_130_t hd     (1) M r h
                · skip
                  have hho : ((x2) < 0 ∨ 6 < (x2)) ∨ ((x2) = 0 ∨ (x2) = 1 ∨ (x2) = 2 ∨ (x2) = 3 ∨ (x2) = 4 ∨ (x2) = 5 ∨ (x2) = 6) := by omega
                  refine ev_tsw 131 rfl hR (112) ?_ (by decide) ?_
                  · rcases hho with hho | hho
                    · exact Or.inl ⟨hho, rfl⟩
                    · rcases hho with hho | hho | hho | hho | hho | hho | hho
                      · exact absurd hho hq0
                      · exact absurd hho hq1
                      · exact absurd hho hq2
                      · exact absurd hho hq3
                      · exact absurd hho hq4
                      · exact absurd hho hq5
                      · exact absurd hho hq6
                  · skip
                    refine ev_k (pc' := 132) (ls' := [(0, .inr (.inr (some 73))), (1, .inl (x1)), (2, .inl (x2))]) (st' := [.inl (-1)]) (nc' := 126) (np' := 138) (M' := M) 1 rfl ?_
                    cases h
                    exact ev_ret rfl
  · refine ev_ifc 18 rfl hR.1 (by decide) (fun q => absurd q hc) (fun _ => ?_)
    refine ev_k (pc' := 17) (ls' := [(0, .inr (.inr (some 73))), (1, .inl (x1)), (2, .inl (x2))]) (st' := [.inl (-1)]) (nc' := 126) (np' := 138) (M' := M) 1 rfl ?_
    cases h
    exact ev_ret rfl
def R_repeats_38    : Nat → Int → Int → Int → Int → am_M → Option (am_M)
  | 0, _, _, _, _, _ => none
  | n + 1, x1, x2, x4, x5, M => c_ge (x5) ((x4) * (x2))
       (fw M 73 68 ((x1) + ((x4) * (x2))) fun M1 => some (M1))
       (ck (am_R (x5) ∧ am_R (x4) ∧ ((x4) : Int) ≠ 0) (tw (Int.tmod (x5) (x4)) fun v2 => rd M 113 90 ((x1) + (v2)) fun v3 => wa M 113 90 ((x1) + (x5)) (v3) fun M4 => (R_repeats_38    n (x1) (x2) (x4) ((x5) + (1)) M4)))
def R_repeats_26    (x1 : Int) (x2 : Int) (x4 : Int) (M : am_M) : Option (am_M) := ob (R_isGood  M) fun v1 => c_ne (v1) (0)
       ((R_repeats_38    am_big (x1) (x2) (x4) (x4) M))
       (some (M))
def R_repeats    (x1 : Int) (x2 : Int) (x3 : Int) (M : am_M) : Option (am_M) := c_le ((x1) + (((M 73 68) - (x1)) * (x2))) (90)
       (R_repeats_26    (x1) (x2) ((M 73 68) - (x1)) M)
       (ob (R_wrongs (6) (x3) M) fun M1 => (R_repeats_26    (x1) (x2) ((M 73 68) - (x1)) M1))
theorem R_repeats_38_t {L : Nat} {xs : Nat → Int} {d : Nat} (hd : 1 ≤ d)     : ∀ (n : Nat) (x1 : Int) (x2 : Int) (x4 : Int) (x5 : Int) (M : am_M) (r : am_M), R_repeats_38    n x1 x2 x4 x5 M = some r → am_Ev L xs d me_239 38 [(0, .inr (.inr (some 73))), (1, .inl (x1)), (2, .inl (x2)), (4, .inl (x4)), (5, .inl (x5))] [] 126 138 M (none, 126, 138, r)
  | 0, _, _, _, _, M, r, h => by cases h
  | n + 1, x1, x2, x4, x5, M, r, h => by
    have ih := R_repeats_38_t (L := L) (xs := xs) hd     n
    refine ev_k (pc' := 44) (ls' := [(0, .inr (.inr (some 73))), (1, .inl (x1)), (2, .inl (x2)), (4, .inl (x4)), (5, .inl (x5))]) (st' := [.inl ((x4) * (x2)), .inl (x5)]) (nc' := 126) (np' := 138) (M' := M) 4 rfl ?_
    obtain ⟨hR, ⟨hc, h⟩ | ⟨hc, h⟩⟩ := c_ge_i h
    · refine ev_icmp 74 rfl hR.1 hR.2 (by decide) (fun _ => ?_) (fun q => absurd hc q)
      refine ev_k (pc' := 84) (ls' := [(0, .inr (.inr (some 73))), (1, .inl (x1)), (2, .inl (x2)), (4, .inl (x4)), (5, .inl (x5))]) (st' := []) (nc' := 126) (np' := 138) (M' := am_up M 73 68 ((x1) + ((x4) * (x2)))) 7 rfl ?_
      obtain ⟨M1, eM, h⟩ := fw_i h
      rw [← eM]
      refine ev_k (pc' := 84) (ls' := [(0, .inr (.inr (some 73))), (1, .inl (x1)), (2, .inl (x2)), (4, .inl (x4)), (5, .inl (x5))]) (st' := []) (nc' := 126) (np' := 138) (M' := M1) 0 rfl ?_
      cases h
      exact ev_ret rfl
    · refine ev_icmp 74 rfl hR.1 hR.2 (by decide) (fun q => absurd q hc) (fun _ => ?_)
      refine ev_k (pc' := 64) (ls' := [(0, .inr (.inr (some 73))), (1, .inl (x1)), (2, .inl (x2)), (4, .inl (x4)), (5, .inl (x5))]) (st' := [.inl (x4), .inl (x5), .inl (x1), .inr (.inr (some 113)), .inl ((x1) + (x5)), .inr (.inr (some 113))]) (nc' := 126) (np' := 138) (M' := M) 10 rfl ?_
      obtain ⟨hc, h⟩ := ck_i h
      obtain ⟨v2, ev, h⟩ := tw_i h
      refine ev_irem rfl hc ?_
      refine ev_k (pc' := 65) (ls' := [(0, .inr (.inr (some 73))), (1, .inl (x1)), (2, .inl (x2)), (4, .inl (x4)), (5, .inl (x5))]) (st' := [.inl (Int.tmod (x5) (x4)), .inl (x1), .inr (.inr (some 113)), .inl ((x1) + (x5)), .inr (.inr (some 113))]) (nc' := 126) (np' := 138) (M' := M) 0 rfl ?_
      rw [← ev]
      refine ev_k (pc' := 66) (ls' := [(0, .inr (.inr (some 73))), (1, .inl (x1)), (2, .inl (x2)), (4, .inl (x4)), (5, .inl (x5))]) (st' := [.inl ((x1) + (v2)), .inr (.inr (some 113)), .inl ((x1) + (x5)), .inr (.inr (some 113))]) (nc' := 126) (np' := 138) (M' := M) 1 rfl ?_
      obtain ⟨hc, v3, ev, h⟩ := rd_i h
      refine ev_ald (k := 113) (t := 0) (Or.inl ⟨rfl, rfl⟩) rfl (by decide) (by decide) rfl hc ev ?_
      refine ev_k (pc' := 67) (ls' := [(0, .inr (.inr (some 73))), (1, .inl (x1)), (2, .inl (x2)), (4, .inl (x4)), (5, .inl (x5))]) (st' := [.inl (v3), .inl ((x1) + (x5)), .inr (.inr (some 113))]) (nc' := 126) (np' := 138) (M' := M) 0 rfl ?_
      obtain ⟨hc, M4, eM, h⟩ := wa_i h
      refine ev_iast (k := 113) rfl (by decide) rfl hc eM ?_
      refine ev_k (pc' := 38) (ls' := [(0, .inr (.inr (some 73))), (1, .inl (x1)), (2, .inl (x2)), (4, .inl (x4)), (5, .inl ((x5) + (1)))]) (st' := []) (nc' := 126) (np' := 138) (M' := M4) 2 rfl ?_
      exact ih (x1) (x2) (x4) ((x5) + (1)) M4 r h
theorem R_repeats_26_t {L : Nat} {xs : Nat → Int} {d : Nat} (hd : 1 ≤ d)     (x1 : Int) (x2 : Int) (x4 : Int) (M : am_M) (r : am_M) (h : R_repeats_26    x1 x2 x4 M = some r) : am_Ev L xs d me_239 26 [(0, .inr (.inr (some 73))), (1, .inl (x1)), (2, .inl (x2)), (4, .inl (x4))] [] 126 138 M (none, 126, 138, r) := by
  refine ev_k (pc' := 27) (ls' := [(0, .inr (.inr (some 73))), (1, .inl (x1)), (2, .inl (x2)), (4, .inl (x4))]) (st' := [.inr (.inr (some 73))]) (nc' := 126) (np' := 138) (M' := M) 1 rfl ?_
  obtain ⟨v1, hv, h⟩ := ob_i h
  refine ev_call (t := 195) (as := [.inr (.inr (some 73))]) (rest := []) rfl rfl rfl (by omega) (R_isGood_e (by omega)  M _ hv) ?_
  refine ev_k (pc' := 30) (ls' := [(0, .inr (.inr (some 73))), (1, .inl (x1)), (2, .inl (x2)), (4, .inl (x4))]) (st' := [.inl (v1)]) (nc' := 126) (np' := 138) (M' := M) 0 rfl ?_
  obtain ⟨hR, ⟨hc, h⟩ | ⟨hc, h⟩⟩ := c_ne_i h
  · refine ev_ifc 34 rfl hR.1 (by decide) (fun _ => ?_) (fun q => absurd hc q)
    refine ev_k (pc' := 38) (ls' := [(0, .inr (.inr (some 73))), (1, .inl (x1)), (2, .inl (x2)), (4, .inl (x4)), (5, .inl (x4))]) (st' := []) (nc' := 126) (np' := 138) (M' := M) 2 rfl ?_
    exact R_repeats_38_t hd     am_big (x1) (x2) (x4) (x4) M r h
  · refine ev_ifc 34 rfl hR.1 (by decide) (fun q => absurd q hc) (fun _ => ?_)
    refine ev_k (pc' := 33) (ls' := [(0, .inr (.inr (some 73))), (1, .inl (x1)), (2, .inl (x2)), (4, .inl (x4))]) (st' := []) (nc' := 126) (np' := 138) (M' := M) 0 rfl ?_
    cases h
    exact ev_ret rfl
theorem R_repeats_e {L : Nat} {xs : Nat → Int} {d : Nat} (hd : 1 ≤ d)   (x1 : Int) (x2 : Int) (x3 : Int) (M : am_M) (r : am_M) (h : R_repeats   x1 x2 x3 M = some r) : am_Ev L xs d me_239 0 (am_ar1 0 [.inr (.inr (some 73)), .inl (x1), .inl (x2), .inl (x3)]) [] 126 138 M (none, 126, 138, r) := by
  refine ev_k (pc' := 16) (ls' := [(4, .inl ((M 73 68) - (x1))), (0, .inr (.inr (some 73))), (1, .inl (x1)), (2, .inl (x2)), (3, .inl (x3))]) (st' := [.inl (90), .inl ((x1) + (((M 73 68) - (x1)) * (x2)))]) (nc' := 126) (np' := 138) (M' := M) 11 rfl ?_
  obtain ⟨hR, ⟨hc, h⟩ | ⟨hc, h⟩⟩ := c_le_i h
  · refine ev_icmp 26 rfl hR.1 hR.2 (by decide) (fun _ => ?_) (fun q => absurd hc q)
    exact R_repeats_26_t hd     (x1) (x2) ((M 73 68) - (x1)) M r h
  · refine ev_icmp 26 rfl hR.1 hR.2 (by decide) (fun q => absurd q hc) (fun _ => ?_)
    refine ev_k (pc' := 23) (ls' := [(4, .inl ((M 73 68) - (x1))), (0, .inr (.inr (some 73))), (1, .inl (x1)), (2, .inl (x2)), (3, .inl (x3))]) (st' := [.inl (x3), .inl (6), .inr (.inr (some 73))]) (nc' := 126) (np' := 138) (M' := M) 3 rfl ?_
    obtain ⟨M1, hv, h⟩ := ob_i h
    refine ev_call (t := 199) (as := [.inr (.inr (some 73)), .inl (6), .inl (x3)]) (rest := []) rfl rfl rfl (by omega) (R_wrongs_e (by omega) (6) (x3) M _ hv) ?_
    exact R_repeats_26_t hd     (x1) (x2) ((M 73 68) - (x1)) M1 r h
def R_timesTold     (M : am_M) : Option (Int × am_M) := ob (R_here  M) fun v1 => ck (am_R (v1)) (ob (R_lies (v1) (50) (57) M) fun v2 => c_ne (v2) (0)
       (fw M 73 3 ((M 73 3) + (1)) fun M3 => rd M3 74 260 ((M3 73 3) - (1)) fun v4 => some ((v4) - (48), M3))
       (some (1, M)))
theorem R_timesTold_e {L : Nat} {xs : Nat → Int} {d : Nat} (hd : 1 ≤ d)    (M : am_M) (r : Int × am_M) (h : R_timesTold    M = some r) : am_Ev L xs d me_240 0 (am_ar1 0 [.inr (.inr (some 73))]) [] 126 138 M (some (.inl r.1), 126, 138, r.2) := by
  refine ev_k (pc' := 1) (ls' := [(0, .inr (.inr (some 73)))]) (st' := [.inr (.inr (some 73))]) (nc' := 126) (np' := 138) (M' := M) 1 rfl ?_
  obtain ⟨v1, hv, h⟩ := ob_i h
  refine ev_call (t := 197) (as := [.inr (.inr (some 73))]) (rest := []) rfl rfl rfl (by omega) (R_here_e (by omega)  M _ hv) ?_
  refine ev_k (pc' := 4) (ls' := [(0, .inr (.inr (some 73)))]) (st' := [.inl (v1)]) (nc' := 126) (np' := 138) (M' := M) 0 rfl ?_
  obtain ⟨hc, h⟩ := ck_i h
  refine ev_i2l rfl hc ?_
  refine ev_k (pc' := 11) (ls' := [(0, .inr (.inr (some 73)))]) (st' := [.inr (.inl (57)), .inr (.inl (50)), .inr (.inl (v1))]) (nc' := 126) (np' := 138) (M' := M) 2 rfl ?_
  obtain ⟨v2, hv, h⟩ := ob_i h
  refine ev_call (t := 193) (as := [.inr (.inl (v1)), .inr (.inl (50)), .inr (.inl (57))]) (rest := []) rfl rfl rfl (by omega) (R_lies_e (by omega) (v1) (50) (57) M _ hv) ?_
  refine ev_k (pc' := 14) (ls' := [(0, .inr (.inr (some 73)))]) (st' := [.inl (v2)]) (nc' := 126) (np' := 138) (M' := M) 0 rfl ?_
  obtain ⟨hR, ⟨hc, h⟩ | ⟨hc, h⟩⟩ := c_ne_i h
  · refine ev_ifc 19 rfl hR.1 (by decide) (fun _ => ?_) (fun q => absurd hc q)
    refine ev_k (pc' := 29) (ls' := [(0, .inr (.inr (some 73)))]) (st' := []) (nc' := 126) (np' := 138) (M' := am_up M 73 3 ((M 73 3) + (1))) 6 rfl ?_
    obtain ⟨M3, eM, h⟩ := fw_i h
    rw [← eM]
    refine ev_k (pc' := 39) (ls' := [(0, .inr (.inr (some 73)))]) (st' := [.inl ((M3 73 3) - (1)), .inr (.inr (some 74))]) (nc' := 126) (np' := 138) (M' := M3) 6 rfl ?_
    obtain ⟨hc, v4, ev, h⟩ := rd_i h
    refine ev_ald (k := 74) (t := 1) (Or.inr ⟨rfl, Or.inl rfl⟩) rfl (by decide) (by decide) rfl hc ev ?_
    refine ev_k (pc' := 43) (ls' := [(0, .inr (.inr (some 73)))]) (st' := [.inl ((v4) - (48))]) (nc' := 126) (np' := 138) (M' := M3) 2 rfl ?_
    cases h
    exact ev_ret rfl
  · refine ev_ifc 19 rfl hR.1 (by decide) (fun q => absurd q hc) (fun _ => ?_)
    refine ev_k (pc' := 18) (ls' := [(0, .inr (.inr (some 73)))]) (st' := [.inl (1)]) (nc' := 126) (np' := 138) (M' := M) 1 rfl ?_
    cases h
    exact ev_ret rfl
def R_isWay_29    (s0 : Int) (M : am_M) : Option (Int) := ck ((s0) = 0 ∨ (s0) = 1) (some (s0))
def R_isWay_24     (M : am_M) : Option (Int) := (R_isWay_29    (1) M)
def R_isWay    (x0 : Int) (M : am_M) : Option (Int) := c_eq (x0) (110)
       (R_isWay_24     M)
       (c_eq (x0) (101)
       (R_isWay_24     M)
       (c_eq (x0) (115)
       (R_isWay_24     M)
       (c_ne (x0) (119)
       ((R_isWay_29    (0) M))
       (R_isWay_24     M))))
theorem R_isWay_29_t {L : Nat} {xs : Nat → Int} {d : Nat} (hd : 0 ≤ d)     (s0 : Int) (M : am_M) (r : Int) (h : R_isWay_29    s0 M = some r) : am_Ev L xs d me_242 29 [] [.inl (s0)] 126 138 M (some (.inl r), 126, 138, M) := by
  refine ev_k (pc' := 29) (ls' := []) (st' := [.inl (s0)]) (nc' := 126) (np' := 138) (M' := M) 0 rfl ?_
  obtain ⟨hc, h⟩ := ck_i h
  cases h
  exact ev_retz rfl rfl hc
theorem R_isWay_24_t {L : Nat} {xs : Nat → Int} {d : Nat} (hd : 0 ≤ d)      (M : am_M) (r : Int) (h : R_isWay_24     M = some r) : am_Ev L xs d me_242 24 [] [] 126 138 M (some (.inl r), 126, 138, M) := by
  refine ev_k (pc' := 29) (ls' := []) (st' := [.inl (1)]) (nc' := 126) (np' := 138) (M' := M) 2 rfl ?_
  exact R_isWay_29_t hd     (1) M r h
theorem R_isWay_e {L : Nat} {xs : Nat → Int} {d : Nat} (hd : 0 ≤ d)   (x0 : Int) (M : am_M) (r : Int) (h : R_isWay   x0 M = some r) : am_Ev L xs d me_242 0 (am_ar1 0 [.inl (x0)]) [] 126 138 M (some (.inl r), 126, 138, M) := by
  refine ev_k (pc' := 3) (ls' := [(0, .inl (x0))]) (st' := [.inl (110), .inl (x0)]) (nc' := 126) (np' := 138) (M' := M) 2 rfl ?_
  obtain ⟨hR, ⟨hc, h⟩ | ⟨hc, h⟩⟩ := c_eq_i h
  · refine ev_icmp 24 rfl hR.1 hR.2 (by decide) (fun _ => ?_) (fun q => absurd hc q)
    exact R_isWay_24_t hd      M r h
  · refine ev_icmp 24 rfl hR.1 hR.2 (by decide) (fun q => absurd q hc) (fun _ => ?_)
    refine ev_k (pc' := 9) (ls' := [(0, .inl (x0))]) (st' := [.inl (101), .inl (x0)]) (nc' := 126) (np' := 138) (M' := M) 2 rfl ?_
    obtain ⟨hR, ⟨hc, h⟩ | ⟨hc, h⟩⟩ := c_eq_i h
    · refine ev_icmp 24 rfl hR.1 hR.2 (by decide) (fun _ => ?_) (fun q => absurd hc q)
      exact R_isWay_24_t hd      M r h
    · refine ev_icmp 24 rfl hR.1 hR.2 (by decide) (fun q => absurd q hc) (fun _ => ?_)
      refine ev_k (pc' := 15) (ls' := [(0, .inl (x0))]) (st' := [.inl (115), .inl (x0)]) (nc' := 126) (np' := 138) (M' := M) 2 rfl ?_
      obtain ⟨hR, ⟨hc, h⟩ | ⟨hc, h⟩⟩ := c_eq_i h
      · refine ev_icmp 24 rfl hR.1 hR.2 (by decide) (fun _ => ?_) (fun q => absurd hc q)
        exact R_isWay_24_t hd      M r h
      · refine ev_icmp 24 rfl hR.1 hR.2 (by decide) (fun q => absurd q hc) (fun _ => ?_)
        refine ev_k (pc' := 21) (ls' := [(0, .inl (x0))]) (st' := [.inl (119), .inl (x0)]) (nc' := 126) (np' := 138) (M' := M) 2 rfl ?_
        obtain ⟨hR, ⟨hc, h⟩ | ⟨hc, h⟩⟩ := c_ne_i h
        · refine ev_icmp 28 rfl hR.1 hR.2 (by decide) (fun _ => ?_) (fun q => absurd hc q)
          refine ev_k (pc' := 29) (ls' := []) (st' := [.inl (0)]) (nc' := 126) (np' := 138) (M' := M) 1 rfl ?_
          exact R_isWay_29_t hd     (0) M r h
        · refine ev_icmp 28 rfl hR.1 hR.2 (by decide) (fun q => absurd q hc) (fun _ => ?_)
          exact R_isWay_24_t hd      M r h
def R_isAct_42    (s0 : Int) (M : am_M) : Option (Int) := ck ((s0) = 0 ∨ (s0) = 1) (some (s0))
def R_isAct_37     (M : am_M) : Option (Int) := (R_isAct_42    (1) M)
def R_isAct    (x0 : Int) (M : am_M) : Option (Int) := ob (R_isWay (x0) M) fun v1 => c_ne (v1) (0)
       (R_isAct_37     M)
       (c_eq (x0) (46)
       (R_isAct_37     M)
       (c_eq (x0) (43)
       (R_isAct_37     M)
       (c_eq (x0) (111)
       (R_isAct_37     M)
       (c_eq (x0) (98)
       (R_isAct_37     M)
       (c_ne (x0) (120)
       ((R_isAct_42    (0) M))
       (R_isAct_37     M))))))
theorem R_isAct_42_t {L : Nat} {xs : Nat → Int} {d : Nat} (hd : 1 ≤ d)     (s0 : Int) (M : am_M) (r : Int) (h : R_isAct_42    s0 M = some r) : am_Ev L xs d me_241 42 [] [.inl (s0)] 126 138 M (some (.inl r), 126, 138, M) := by
  refine ev_k (pc' := 42) (ls' := []) (st' := [.inl (s0)]) (nc' := 126) (np' := 138) (M' := M) 0 rfl ?_
  obtain ⟨hc, h⟩ := ck_i h
  cases h
  exact ev_retz rfl rfl hc
theorem R_isAct_37_t {L : Nat} {xs : Nat → Int} {d : Nat} (hd : 1 ≤ d)      (M : am_M) (r : Int) (h : R_isAct_37     M = some r) : am_Ev L xs d me_241 37 [] [] 126 138 M (some (.inl r), 126, 138, M) := by
  refine ev_k (pc' := 42) (ls' := []) (st' := [.inl (1)]) (nc' := 126) (np' := 138) (M' := M) 2 rfl ?_
  exact R_isAct_42_t hd     (1) M r h
theorem R_isAct_e {L : Nat} {xs : Nat → Int} {d : Nat} (hd : 1 ≤ d)   (x0 : Int) (M : am_M) (r : Int) (h : R_isAct   x0 M = some r) : am_Ev L xs d me_241 0 (am_ar1 0 [.inl (x0)]) [] 126 138 M (some (.inl r), 126, 138, M) := by
  refine ev_k (pc' := 1) (ls' := [(0, .inl (x0))]) (st' := [.inl (x0)]) (nc' := 126) (np' := 138) (M' := M) 1 rfl ?_
  obtain ⟨v1, hv, h⟩ := ob_i h
  refine ev_call (t := 242) (as := [.inl (x0)]) (rest := []) rfl rfl rfl (by omega) (R_isWay_e (by omega) (x0) M _ hv) ?_
  refine ev_k (pc' := 4) (ls' := [(0, .inl (x0))]) (st' := [.inl (v1)]) (nc' := 126) (np' := 138) (M' := M) 0 rfl ?_
  obtain ⟨hR, ⟨hc, h⟩ | ⟨hc, h⟩⟩ := c_ne_i h
  · refine ev_ifc 37 rfl hR.1 (by decide) (fun _ => ?_) (fun q => absurd hc q)
    exact R_isAct_37_t hd      M r h
  · refine ev_ifc 37 rfl hR.1 (by decide) (fun q => absurd q hc) (fun _ => ?_)
    refine ev_k (pc' := 10) (ls' := [(0, .inl (x0))]) (st' := [.inl (46), .inl (x0)]) (nc' := 126) (np' := 138) (M' := M) 2 rfl ?_
    obtain ⟨hR, ⟨hc, h⟩ | ⟨hc, h⟩⟩ := c_eq_i h
    · refine ev_icmp 37 rfl hR.1 hR.2 (by decide) (fun _ => ?_) (fun q => absurd hc q)
      exact R_isAct_37_t hd      M r h
    · refine ev_icmp 37 rfl hR.1 hR.2 (by decide) (fun q => absurd q hc) (fun _ => ?_)
      refine ev_k (pc' := 16) (ls' := [(0, .inl (x0))]) (st' := [.inl (43), .inl (x0)]) (nc' := 126) (np' := 138) (M' := M) 2 rfl ?_
      obtain ⟨hR, ⟨hc, h⟩ | ⟨hc, h⟩⟩ := c_eq_i h
      · refine ev_icmp 37 rfl hR.1 hR.2 (by decide) (fun _ => ?_) (fun q => absurd hc q)
        exact R_isAct_37_t hd      M r h
      · refine ev_icmp 37 rfl hR.1 hR.2 (by decide) (fun q => absurd q hc) (fun _ => ?_)
        refine ev_k (pc' := 22) (ls' := [(0, .inl (x0))]) (st' := [.inl (111), .inl (x0)]) (nc' := 126) (np' := 138) (M' := M) 2 rfl ?_
        obtain ⟨hR, ⟨hc, h⟩ | ⟨hc, h⟩⟩ := c_eq_i h
        · refine ev_icmp 37 rfl hR.1 hR.2 (by decide) (fun _ => ?_) (fun q => absurd hc q)
          exact R_isAct_37_t hd      M r h
        · refine ev_icmp 37 rfl hR.1 hR.2 (by decide) (fun q => absurd q hc) (fun _ => ?_)
          refine ev_k (pc' := 28) (ls' := [(0, .inl (x0))]) (st' := [.inl (98), .inl (x0)]) (nc' := 126) (np' := 138) (M' := M) 2 rfl ?_
          obtain ⟨hR, ⟨hc, h⟩ | ⟨hc, h⟩⟩ := c_eq_i h
          · refine ev_icmp 37 rfl hR.1 hR.2 (by decide) (fun _ => ?_) (fun q => absurd hc q)
            exact R_isAct_37_t hd      M r h
          · refine ev_icmp 37 rfl hR.1 hR.2 (by decide) (fun q => absurd q hc) (fun _ => ?_)
            refine ev_k (pc' := 34) (ls' := [(0, .inl (x0))]) (st' := [.inl (120), .inl (x0)]) (nc' := 126) (np' := 138) (M' := M) 2 rfl ?_
            obtain ⟨hR, ⟨hc, h⟩ | ⟨hc, h⟩⟩ := c_ne_i h
            · refine ev_icmp 41 rfl hR.1 hR.2 (by decide) (fun _ => ?_) (fun q => absurd hc q)
              refine ev_k (pc' := 42) (ls' := []) (st' := [.inl (0)]) (nc' := 126) (np' := 138) (M' := M) 1 rfl ?_
              exact R_isAct_42_t hd     (0) M r h
            · refine ev_icmp 41 rfl hR.1 hR.2 (by decide) (fun q => absurd q hc) (fun _ => ?_)
              exact R_isAct_37_t hd      M r h
