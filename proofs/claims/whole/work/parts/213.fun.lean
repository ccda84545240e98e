def R_act_228    : Nat → Int → Int → am_M → Option (am_M)
  | 0, _, _, _ => none
  | n + 1, x2, x3, M => c_ge (x3) (x2)
       (fw M 73 68 ((M 73 68) + (x2)) fun M1 => fz M1 73 70 (1) fun M2 => fw M2 73 3 ((M2 73 3) + (1)) fun M3 => some (M3))
       (ob (R_here  M) fun v4 => wa M 113 90 ((M 73 68) + (x3)) (v4) fun M5 => (R_act_228    n (x2) ((x3) + (1)) M5))
def R_act_218    (x2 : Int) (M : am_M) : Option (am_M) := ob (R_isGood  M) fun v1 => c_ne (v1) (0)
       ((R_act_228    am_big (x2) (0) M))
       (some (M))
def R_act_111    (x1 : Int) (x2 : Int) (M : am_M) : Option (am_M) := ob (R_isGood  M) fun v1 => c_ne (v1) (0)
       (wa M 114 2 (M 73 69) (M 73 68) fun M2 => wa M2 115 2 (M2 73 69) (x2) fun M3 => wa M3 116 2 (M3 73 69) (x1) fun M4 => fw M4 73 69 ((M4 73 69) + (1)) fun M5 => fz M5 73 70 (0) fun M6 => fw M6 73 3 ((M6 73 3) + (1)) fun M7 => some (M7))
       (some (M))
def R_act_80    (x1 : Int) (M : am_M) : Option (am_M) := oc (R_timesTold  M) fun v1 M2 => ob (R_here  M2) fun v3 => c_ne (v3) (40)
       (ob (R_here  M2) fun v4 => ob (R_isAct (v4) M2) fun v5 => c_ne (v5) (0)
       (c_le ((M2 73 68) + (v1)) (90)
       (R_act_218    (v1) M2)
       (ob (R_wrongs (6) (x1) M2) fun M6 => (R_act_218    (v1) M6)))
       (ob (R_wrongs (1) (M2 73 3) M2) fun M7 => (R_act_218    (v1) M7)))
       (c_ne (M2 73 69) (2)
       (R_act_111    (x1) (v1) M2)
       (ob (R_wrongs (5) (M2 73 3) M2) fun M8 => (R_act_111    (x1) (v1) M8)))
def R_act     (M : am_M) : Option (am_M) := ob (R_here  M) fun v1 => c_ne (v1) (41)
       (R_act_80    (M 73 3) M)
       (c_le (M 73 69) (0)
       (R_act_80    (M 73 3) M)
       (c_eq (M 73 70) (0)
       (R_act_80    (M 73 3) M)
       (fw M 73 69 ((M 73 69) - (1)) fun M2 => fw M2 73 3 ((M2 73 3) + (1)) fun M3 => rd M3 114 2 (M3 73 69) fun v4 => rd M3 115 2 (M3 73 69) fun v5 => rd M3 116 2 (M3 73 69) fun v6 => ob (R_repeats (v4) (v5) (v6) M3) fun M7 => some (M7))))
theorem R_act_228_t {L : Nat} {xs : Nat → Int} {d : Nat} (hd : 2 ≤ d)     : ∀ (n : Nat) (x2 : Int) (x3 : Int) (M : am_M) (r : am_M), R_act_228    n x2 x3 M = some r → am_Ev L xs d me_238 228 [(0, .inr (.inr (some 73))), (2, .inl (x2)), (3, .inl (x3))] [] 126 138 M (none, 126, 138, r)
  | 0, _, _, M, r, h => by cases h
  | n + 1, x2, x3, M, r, h => by
    have ih := R_act_228_t (L := L) (xs := xs) hd     n
    refine ev_k (pc' := 230) (ls' := [(0, .inr (.inr (some 73))), (2, .inl (x2)), (3, .inl (x3))]) (st' := [.inl (x2), .inl (x3)]) (nc' := 126) (np' := 138) (M' := M) 2 rfl ?_
    obtain ⟨hR, ⟨hc, h⟩ | ⟨hc, h⟩⟩ := c_ge_i h
    · refine ev_icmp 254 rfl hR.1 hR.2 (by decide) (fun _ => ?_) (fun q => absurd hc q)
      refine ev_k (pc' := 264) (ls' := [(0, .inr (.inr (some 73))), (2, .inl (x2)), (3, .inl (x3))]) (st' := []) (nc' := 126) (np' := 138) (M' := am_up M 73 68 ((M 73 68) + (x2))) 6 rfl ?_
      obtain ⟨M1, eM, h⟩ := fw_i h
      rw [← eM]
      refine ev_k (pc' := 266) (ls' := [(0, .inr (.inr (some 73))), (2, .inl (x2)), (3, .inl (x3))]) (st' := [.inl (1), .inr (.inr (some 73))]) (nc' := 126) (np' := 138) (M' := M1) 2 rfl ?_
      obtain ⟨hc, M2, eM, h⟩ := fz_i h
      refine ev_putz (k := 73) (j := 70) rfl rfl (by decide) rfl rfl hc eM ?_
      refine ev_k (pc' := 279) (ls' := [(0, .inr (.inr (some 73))), (2, .inl (x2)), (3, .inl (x3))]) (st' := []) (nc' := 126) (np' := 138) (M' := am_up M2 73 3 ((M2 73 3) + (1))) 6 rfl ?_
      obtain ⟨M3, eM, h⟩ := fw_i h
      rw [← eM]
      refine ev_k (pc' := 279) (ls' := [(0, .inr (.inr (some 73))), (2, .inl (x2)), (3, .inl (x3))]) (st' := []) (nc' := 126) (np' := 138) (M' := M3) 0 rfl ?_
      cases h
      exact ev_ret rfl
    · refine ev_icmp 254 rfl hR.1 hR.2 (by decide) (fun q => absurd q hc) (fun _ => ?_)
      refine ev_k (pc' := 244) (ls' := [(0, .inr (.inr (some 73))), (2, .inl (x2)), (3, .inl (x3))]) (st' := [.inr (.inr (some 73)), .inl ((M 73 68) + (x3)), .inr (.inr (some 113))]) (nc' := 126) (np' := 138) (M' := M) 7 rfl ?_
      obtain ⟨v4, hv, h⟩ := ob_i h
      refine ev_call (t := 197) (as := [.inr (.inr (some 73))]) (rest := [.inl ((M 73 68) + (x3)), .inr (.inr (some 113))]) rfl rfl rfl (by omega) (R_here_e (by omega)  M _ hv) ?_
      refine ev_k (pc' := 247) (ls' := [(0, .inr (.inr (some 73))), (2, .inl (x2)), (3, .inl (x3))]) (st' := [.inl (v4), .inl ((M 73 68) + (x3)), .inr (.inr (some 113))]) (nc' := 126) (np' := 138) (M' := M) 0 rfl ?_
      obtain ⟨hc, M5, eM, h⟩ := wa_i h
      refine ev_iast (k := 113) rfl (by decide) rfl hc eM ?_
      refine ev_k (pc' := 228) (ls' := [(0, .inr (.inr (some 73))), (2, .inl (x2)), (3, .inl ((x3) + (1)))]) (st' := []) (nc' := 126) (np' := 138) (M' := M5) 2 rfl ?_
      exact ih (x2) ((x3) + (1)) M5 r h
theorem R_act_218_t {L : Nat} {xs : Nat → Int} {d : Nat} (hd : 2 ≤ d)     (x2 : Int) (M : am_M) (r : am_M) (h : R_act_218    x2 M = some r) : am_Ev L xs d me_238 218 [(0, .inr (.inr (some 73))), (2, .inl (x2))] [] 126 138 M (none, 126, 138, r) := by
  refine ev_k (pc' := 219) (ls' := [(0, .inr (.inr (some 73))), (2, .inl (x2))]) (st' := [.inr (.inr (some 73))]) (nc' := 126) (np' := 138) (M' := M) 1 rfl ?_
  obtain ⟨v1, hv, h⟩ := ob_i h
  refine ev_call (t := 195) (as := [.inr (.inr (some 73))]) (rest := []) rfl rfl rfl (by omega) (R_isGood_e (by omega)  M _ hv) ?_
  refine ev_k (pc' := 222) (ls' := [(0, .inr (.inr (some 73))), (2, .inl (x2))]) (st' := [.inl (v1)]) (nc' := 126) (np' := 138) (M' := M) 0 rfl ?_
  obtain ⟨hR, ⟨hc, h⟩ | ⟨hc, h⟩⟩ := c_ne_i h
  · refine ev_ifc 226 rfl hR.1 (by decide) (fun _ => ?_) (fun q => absurd hc q)
    refine ev_k (pc' := 228) (ls' := [(0, .inr (.inr (some 73))), (2, .inl (x2)), (3, .inl (0))]) (st' := []) (nc' := 126) (np' := 138) (M' := M) 2 rfl ?_
    exact R_act_228_t hd     am_big (x2) (0) M r h
  · refine ev_ifc 226 rfl hR.1 (by decide) (fun q => absurd q hc) (fun _ => ?_)
    refine ev_k (pc' := 225) (ls' := [(0, .inr (.inr (some 73))), (2, .inl (x2))]) (st' := []) (nc' := 126) (np' := 138) (M' := M) 0 rfl ?_
    cases h
    exact ev_ret rfl
theorem R_act_111_t {L : Nat} {xs : Nat → Int} {d : Nat} (hd : 2 ≤ d)     (x1 : Int) (x2 : Int) (M : am_M) (r : am_M) (h : R_act_111    x1 x2 M = some r) : am_Ev L xs d me_238 111 [(0, .inr (.inr (some 73))), (1, .inl (x1)), (2, .inl (x2))] [] 126 138 M (none, 126, 138, r) := by
  refine ev_k (pc' := 112) (ls' := [(0, .inr (.inr (some 73))), (1, .inl (x1)), (2, .inl (x2))]) (st' := [.inr (.inr (some 73))]) (nc' := 126) (np' := 138) (M' := M) 1 rfl ?_
  obtain ⟨v1, hv, h⟩ := ob_i h
  refine ev_call (t := 195) (as := [.inr (.inr (some 73))]) (rest := []) rfl rfl rfl (by omega) (R_isGood_e (by omega)  M _ hv) ?_
  refine ev_k (pc' := 115) (ls' := [(0, .inr (.inr (some 73))), (1, .inl (x1)), (2, .inl (x2))]) (st' := [.inl (v1)]) (nc' := 126) (np' := 138) (M' := M) 0 rfl ?_
  obtain ⟨hR, ⟨hc, h⟩ | ⟨hc, h⟩⟩ := c_ne_i h
  · refine ev_ifc 119 rfl hR.1 (by decide) (fun _ => ?_) (fun q => absurd hc q)
    refine ev_k (pc' := 131) (ls' := [(0, .inr (.inr (some 73))), (1, .inl (x1)), (2, .inl (x2))]) (st' := [.inl (M 73 68), .inl (M 73 69), .inr (.inr (some 114))]) (nc' := 126) (np' := 138) (M' := M) 6 rfl ?_
    obtain ⟨hc, M2, eM, h⟩ := wa_i h
    refine ev_iast (k := 114) rfl (by decide) rfl hc eM ?_
    refine ev_k (pc' := 141) (ls' := [(0, .inr (.inr (some 73))), (1, .inl (x1)), (2, .inl (x2))]) (st' := [.inl (x2), .inl (M2 73 69), .inr (.inr (some 115))]) (nc' := 126) (np' := 138) (M' := M2) 5 rfl ?_
    obtain ⟨hc, M3, eM, h⟩ := wa_i h
    refine ev_iast (k := 115) rfl (by decide) rfl hc eM ?_
    refine ev_k (pc' := 151) (ls' := [(0, .inr (.inr (some 73))), (1, .inl (x1)), (2, .inl (x2))]) (st' := [.inl (x1), .inl (M3 73 69), .inr (.inr (some 116))]) (nc' := 126) (np' := 138) (M' := M3) 5 rfl ?_
    obtain ⟨hc, M4, eM, h⟩ := wa_i h
    refine ev_iast (k := 116) rfl (by decide) rfl hc eM ?_
    refine ev_k (pc' := 162) (ls' := [(0, .inr (.inr (some 73))), (1, .inl (x1)), (2, .inl (x2))]) (st' := []) (nc' := 126) (np' := 138) (M' := am_up M4 73 69 ((M4 73 69) + (1))) 6 rfl ?_
    obtain ⟨M5, eM, h⟩ := fw_i h
    rw [← eM]
    refine ev_k (pc' := 164) (ls' := [(0, .inr (.inr (some 73))), (1, .inl (x1)), (2, .inl (x2))]) (st' := [.inl (0), .inr (.inr (some 73))]) (nc' := 126) (np' := 138) (M' := M5) 2 rfl ?_
    obtain ⟨hc, M6, eM, h⟩ := fz_i h
    refine ev_putz (k := 73) (j := 70) rfl rfl (by decide) rfl rfl hc eM ?_
    refine ev_k (pc' := 177) (ls' := [(0, .inr (.inr (some 73))), (1, .inl (x1)), (2, .inl (x2))]) (st' := []) (nc' := 126) (np' := 138) (M' := am_up M6 73 3 ((M6 73 3) + (1))) 6 rfl ?_
    obtain ⟨M7, eM, h⟩ := fw_i h
    rw [← eM]
    refine ev_k (pc' := 177) (ls' := [(0, .inr (.inr (some 73))), (1, .inl (x1)), (2, .inl (x2))]) (st' := []) (nc' := 126) (np' := 138) (M' := M7) 0 rfl ?_
    cases h
    exact ev_ret rfl
  · refine ev_ifc 119 rfl hR.1 (by decide) (fun q => absurd q hc) (fun _ => ?_)
    refine ev_k (pc' := 118) (ls' := [(0, .inr (.inr (some 73))), (1, .inl (x1)), (2, .inl (x2))]) (st' := []) (nc' := 126) (np' := 138) (M' := M) 0 rfl ?_
    cases h
    exact ev_ret rfl
theorem R_act_80_t {L : Nat} {xs : Nat → Int} {d : Nat} (hd : 2 ≤ d)     (x1 : Int) (M : am_M) (r : am_M) (h : R_act_80    x1 M = some r) : am_Ev L xs d me_238 80 [(0, .inr (.inr (some 73))), (1, .inl (x1))] [] 126 138 M (none, 126, 138, r) := by
  refine ev_k (pc' := 81) (ls' := [(0, .inr (.inr (some 73))), (1, .inl (x1))]) (st' := [.inr (.inr (some 73))]) (nc' := 126) (np' := 138) (M' := M) 1 rfl ?_
  obtain ⟨v1, M2, hv, h⟩ := oc_i h
  refine ev_call (t := 240) (as := [.inr (.inr (some 73))]) (rest := []) rfl rfl rfl (by omega) (R_timesTold_e (by omega)  M _ hv) ?_
  refine ev_k (pc' := 86) (ls' := [(2, .inl (v1)), (0, .inr (.inr (some 73))), (1, .inl (x1))]) (st' := [.inr (.inr (some 73))]) (nc' := 126) (np' := 138) (M' := M2) 2 rfl ?_
  obtain ⟨v3, hv, h⟩ := ob_i h
  refine ev_call (t := 197) (as := [.inr (.inr (some 73))]) (rest := []) rfl rfl rfl (by omega) (R_here_e (by omega)  M2 _ hv) ?_
  refine ev_k (pc' := 91) (ls' := [(2, .inl (v1)), (0, .inr (.inr (some 73))), (1, .inl (x1))]) (st' := [.inl (40), .inl (v3)]) (nc' := 126) (np' := 138) (M' := M2) 1 rfl ?_
  obtain ⟨hR, ⟨hc, h⟩ | ⟨hc, h⟩⟩ := c_ne_i h
  · refine ev_icmp 178 rfl hR.1 hR.2 (by decide) (fun _ => ?_) (fun q => absurd hc q)
    refine ev_k (pc' := 179) (ls' := [(2, .inl (v1)), (0, .inr (.inr (some 73))), (1, .inl (x1))]) (st' := [.inr (.inr (some 73))]) (nc' := 126) (np' := 138) (M' := M2) 1 rfl ?_
    obtain ⟨v4, hv, h⟩ := ob_i h
    refine ev_call (t := 197) (as := [.inr (.inr (some 73))]) (rest := []) rfl rfl rfl (by omega) (R_here_e (by omega)  M2 _ hv) ?_
    refine ev_k (pc' := 182) (ls' := [(2, .inl (v1)), (0, .inr (.inr (some 73))), (1, .inl (x1))]) (st' := [.inl (v4)]) (nc' := 126) (np' := 138) (M' := M2) 0 rfl ?_
    obtain ⟨v5, hv, h⟩ := ob_i h
    refine ev_call (t := 241) (as := [.inl (v4)]) (rest := []) rfl rfl rfl (by omega) (R_isAct_e (by omega) (v4) M2 _ hv) ?_
    refine ev_k (pc' := 185) (ls' := [(2, .inl (v1)), (0, .inr (.inr (some 73))), (1, .inl (x1))]) (st' := [.inl (v5)]) (nc' := 126) (np' := 138) (M' := M2) 0 rfl ?_
    obtain ⟨hR, ⟨hc, h⟩ | ⟨hc, h⟩⟩ := c_ne_i h
    · refine ev_ifc 200 rfl hR.1 (by decide) (fun _ => ?_) (fun q => absurd hc q)
      refine ev_k (pc' := 208) (ls' := [(2, .inl (v1)), (0, .inr (.inr (some 73))), (1, .inl (x1))]) (st' := [.inl (90), .inl ((M2 73 68) + (v1))]) (nc' := 126) (np' := 138) (M' := M2) 5 rfl ?_
      obtain ⟨hR, ⟨hc, h⟩ | ⟨hc, h⟩⟩ := c_le_i h
      · refine ev_icmp 218 rfl hR.1 hR.2 (by decide) (fun _ => ?_) (fun q => absurd hc q)
        exact R_act_218_t hd     (v1) M2 r h
      · refine ev_icmp 218 rfl hR.1 hR.2 (by decide) (fun q => absurd q hc) (fun _ => ?_)
        refine ev_k (pc' := 215) (ls' := [(2, .inl (v1)), (0, .inr (.inr (some 73))), (1, .inl (x1))]) (st' := [.inl (x1), .inl (6), .inr (.inr (some 73))]) (nc' := 126) (np' := 138) (M' := M2) 3 rfl ?_
        obtain ⟨M6, hv, h⟩ := ob_i h
        refine ev_call (t := 199) (as := [.inr (.inr (some 73)), .inl (6), .inl (x1)]) (rest := []) rfl rfl rfl (by omega) (R_wrongs_e (by omega) (6) (x1) M2 _ hv) ?_
        exact R_act_218_t hd     (v1) M6 r h
    · refine ev_ifc 200 rfl hR.1 (by decide) (fun q => absurd q hc) (fun _ => ?_)
      refine ev_k (pc' := 194) (ls' := [(2, .inl (v1)), (0, .inr (.inr (some 73))), (1, .inl (x1))]) (st' := [.inl (M2 73 3), .inl (1), .inr (.inr (some 73))]) (nc' := 126) (np' := 138) (M' := M2) 4 rfl ?_
      obtain ⟨M7, hv, h⟩ := ob_i h
      refine ev_call (t := 199) (as := [.inr (.inr (some 73)), .inl (1), .inl (M2 73 3)]) (rest := []) rfl rfl rfl (by omega) (R_wrongs_e (by omega) (1) (M2 73 3) M2 _ hv) ?_
      refine ev_k (pc' := 218) (ls' := [(0, .inr (.inr (some 73))), (2, .inl (v1))]) (st' := []) (nc' := 126) (np' := 138) (M' := M7) 1 rfl ?_
      exact R_act_218_t hd     (v1) M7 r h
  · refine ev_icmp 178 rfl hR.1 hR.2 (by decide) (fun q => absurd q hc) (fun _ => ?_)
    refine ev_k (pc' := 99) (ls' := [(2, .inl (v1)), (0, .inr (.inr (some 73))), (1, .inl (x1))]) (st' := [.inl (2), .inl (M2 73 69)]) (nc' := 126) (np' := 138) (M' := M2) 3 rfl ?_
    obtain ⟨hR, ⟨hc, h⟩ | ⟨hc, h⟩⟩ := c_ne_i h
    · refine ev_icmp 111 rfl hR.1 hR.2 (by decide) (fun _ => ?_) (fun q => absurd hc q)
      exact R_act_111_t hd     (x1) (v1) M2 r h
    · refine ev_icmp 111 rfl hR.1 hR.2 (by decide) (fun q => absurd q hc) (fun _ => ?_)
      refine ev_k (pc' := 108) (ls' := [(2, .inl (v1)), (0, .inr (.inr (some 73))), (1, .inl (x1))]) (st' := [.inl (M2 73 3), .inl (5), .inr (.inr (some 73))]) (nc' := 126) (np' := 138) (M' := M2) 4 rfl ?_
      obtain ⟨M8, hv, h⟩ := ob_i h
      refine ev_call (t := 199) (as := [.inr (.inr (some 73)), .inl (5), .inl (M2 73 3)]) (rest := []) rfl rfl rfl (by omega) (R_wrongs_e (by omega) (5) (M2 73 3) M2 _ hv) ?_
      exact R_act_111_t hd     (x1) (v1) M8 r h
theorem R_act_e {L : Nat} {xs : Nat → Int} {d : Nat} (hd : 2 ≤ d)    (M : am_M) (r : am_M) (h : R_act    M = some r) : am_Ev L xs d me_238 0 (am_ar1 0 [.inr (.inr (some 73))]) [] 126 138 M (none, 126, 138, r) := by
  refine ev_k (pc' := 6) (ls' := [(1, .inl (M 73 3)), (0, .inr (.inr (some 73)))]) (st' := [.inr (.inr (some 73))]) (nc' := 126) (np' := 138) (M' := M) 4 rfl ?_
  obtain ⟨v1, hv, h⟩ := ob_i h
  refine ev_call (t := 197) (as := [.inr (.inr (some 73))]) (rest := []) rfl rfl rfl (by omega) (R_here_e (by omega)  M _ hv) ?_
  refine ev_k (pc' := 11) (ls' := [(1, .inl (M 73 3)), (0, .inr (.inr (some 73)))]) (st' := [.inl (41), .inl (v1)]) (nc' := 126) (np' := 138) (M' := M) 1 rfl ?_
  obtain ⟨hR, ⟨hc, h⟩ | ⟨hc, h⟩⟩ := c_ne_i h
  · refine ev_icmp 80 rfl hR.1 hR.2 (by decide) (fun _ => ?_) (fun q => absurd hc q)
    exact R_act_80_t hd     (M 73 3) M r h
  · refine ev_icmp 80 rfl hR.1 hR.2 (by decide) (fun q => absurd q hc) (fun _ => ?_)
    refine ev_k (pc' := 18) (ls' := [(1, .inl (M 73 3)), (0, .inr (.inr (some 73)))]) (st' := [.inl (M 73 69)]) (nc' := 126) (np' := 138) (M' := M) 2 rfl ?_
    obtain ⟨hR, ⟨hc, h⟩ | ⟨hc, h⟩⟩ := c_le_i h
    · refine ev_ifc 80 rfl hR.1 (by decide) (fun _ => ?_) (fun q => absurd hc q)
      exact R_act_80_t hd     (M 73 3) M r h
    · refine ev_ifc 80 rfl hR.1 (by decide) (fun q => absurd q hc) (fun _ => ?_)
      refine ev_k (pc' := 25) (ls' := [(1, .inl (M 73 3)), (0, .inr (.inr (some 73)))]) (st' := [.inl (M 73 70)]) (nc' := 126) (np' := 138) (M' := M) 2 rfl ?_
      obtain ⟨hR, ⟨hc, h⟩ | ⟨hc, h⟩⟩ := c_eq_i h
      · refine ev_ifc 80 rfl hR.1 (by decide) (fun _ => ?_) (fun q => absurd hc q)
        exact R_act_80_t hd     (M 73 3) M r h
      · refine ev_ifc 80 rfl hR.1 (by decide) (fun q => absurd q hc) (fun _ => ?_)
        refine ev_k (pc' := 38) (ls' := [(1, .inl (M 73 3)), (0, .inr (.inr (some 73)))]) (st' := []) (nc' := 126) (np' := 138) (M' := am_up M 73 69 ((M 73 69) - (1))) 6 rfl ?_
        obtain ⟨M2, eM, h⟩ := fw_i h
        rw [← eM]
        refine ev_k (pc' := 48) (ls' := [(1, .inl (M 73 3)), (0, .inr (.inr (some 73)))]) (st' := []) (nc' := 126) (np' := 138) (M' := am_up M2 73 3 ((M2 73 3) + (1))) 6 rfl ?_
        obtain ⟨M3, eM, h⟩ := fw_i h
        rw [← eM]
        refine ev_k (pc' := 57) (ls' := [(1, .inl (M 73 3)), (0, .inr (.inr (some 73)))]) (st' := [.inl (M3 73 69), .inr (.inr (some 114)), .inr (.inr (some 73))]) (nc' := 126) (np' := 138) (M' := M3) 5 rfl ?_
        obtain ⟨hc, v4, ev, h⟩ := rd_i h
        refine ev_ald (k := 114) (t := 0) (Or.inl ⟨rfl, rfl⟩) rfl (by decide) (by decide) rfl hc ev ?_
        refine ev_k (pc' := 66) (ls' := [(1, .inl (M 73 3)), (0, .inr (.inr (some 73)))]) (st' := [.inl (M3 73 69), .inr (.inr (some 115)), .inl (v4), .inr (.inr (some 73))]) (nc' := 126) (np' := 138) (M' := M3) 4 rfl ?_
        obtain ⟨hc, v5, ev, h⟩ := rd_i h
        refine ev_ald (k := 115) (t := 0) (Or.inl ⟨rfl, rfl⟩) rfl (by decide) (by decide) rfl hc ev ?_
        refine ev_k (pc' := 75) (ls' := [(1, .inl (M 73 3)), (0, .inr (.inr (some 73)))]) (st' := [.inl (M3 73 69), .inr (.inr (some 116)), .inl (v5), .inl (v4), .inr (.inr (some 73))]) (nc' := 126) (np' := 138) (M' := M3) 4 rfl ?_
        obtain ⟨hc, v6, ev, h⟩ := rd_i h
        refine ev_ald (k := 116) (t := 0) (Or.inl ⟨rfl, rfl⟩) rfl (by decide) (by decide) rfl hc ev ?_
        refine ev_k (pc' := 76) (ls' := [(1, .inl (M 73 3)), (0, .inr (.inr (some 73)))]) (st' := [.inl (v6), .inl (v5), .inl (v4), .inr (.inr (some 73))]) (nc' := 126) (np' := 138) (M' := M3) 0 rfl ?_
        obtain ⟨M7, hv, h⟩ := ob_i h
        refine ev_call (t := 239) (as := [.inr (.inr (some 73)), .inl (v4), .inl (v5), .inl (v6)]) (rest := []) rfl rfl rfl (by omega) (R_repeats_e (by omega) (v4) (v5) (v6) M3 _ hv) ?_
        refine ev_k (pc' := 79) (ls' := [(1, .inl (M 73 3)), (0, .inr (.inr (some 73)))]) (st' := []) (nc' := 126) (np' := 138) (M' := M7) 0 rfl ?_
        cases h
        exact ev_ret rfl
def R_takesActs_68     (M : am_M) : Option (Int × am_M) := ob (R_isGood  M) fun v1 => ck ((v1) = 0 ∨ (v1) = 1) (some (v1, M))
def R_takesActs_45     (M : am_M) : Option (Int × am_M) := ob (R_isGood  M) fun v1 => c_eq (v1) (0)
       (R_takesActs_68     M)
       (c_le (M 73 69) (0)
       (R_takesActs_68     M)
       (ob (R_wrongs (1) (M 73 3) M) fun M2 => (R_takesActs_68     M2)))
def R_takesActs_20    : Nat → am_M → Option (Int × am_M)
  | 0, _ => none
  | n + 1, M => ob (R_isGood  M) fun v1 => c_eq (v1) (0)
       (R_takesActs_45     M)
       (c_ge (M 73 3) (M 73 4)
       (R_takesActs_45     M)
       (ob (R_act  M) fun M2 => (R_takesActs_20    n  M2)))
def R_takesActs    (x1 : Int) (M : am_M) : Option (Int × am_M) := ob (R_begins (x1) M) fun M1 => fw M1 73 68 (0) fun M2 => fw M2 73 69 (0) fun M3 => fz M3 73 70 (0) fun M4 => (R_takesActs_20    am_big  M4)
theorem R_takesActs_68_t {L : Nat} {xs : Nat → Int} {d : Nat} (hd : 3 ≤ d)      (M : am_M) (r : Int × am_M) (h : R_takesActs_68     M = some r) : am_Ev L xs d me_237 68 [(0, .inr (.inr (some 73)))] [] 126 138 M (some (.inl r.1), 126, 138, r.2) := by
  refine ev_k (pc' := 69) (ls' := [(0, .inr (.inr (some 73)))]) (st' := [.inr (.inr (some 73))]) (nc' := 126) (np' := 138) (M' := M) 1 rfl ?_
  obtain ⟨v1, hv, h⟩ := ob_i h
  refine ev_call (t := 195) (as := [.inr (.inr (some 73))]) (rest := []) rfl rfl rfl (by omega) (R_isGood_e (by omega)  M _ hv) ?_
  refine ev_k (pc' := 72) (ls' := [(0, .inr (.inr (some 73)))]) (st' := [.inl (v1)]) (nc' := 126) (np' := 138) (M' := M) 0 rfl ?_
  obtain ⟨hc, h⟩ := ck_i h
  cases h
  exact ev_retz rfl rfl hc
theorem R_takesActs_45_t {L : Nat} {xs : Nat → Int} {d : Nat} (hd : 3 ≤ d)      (M : am_M) (r : Int × am_M) (h : R_takesActs_45     M = some r) : am_Ev L xs d me_237 45 [(0, .inr (.inr (some 73)))] [] 126 138 M (some (.inl r.1), 126, 138, r.2) := by
  refine ev_k (pc' := 46) (ls' := [(0, .inr (.inr (some 73)))]) (st' := [.inr (.inr (some 73))]) (nc' := 126) (np' := 138) (M' := M) 1 rfl ?_
  obtain ⟨v1, hv, h⟩ := ob_i h
  refine ev_call (t := 195) (as := [.inr (.inr (some 73))]) (rest := []) rfl rfl rfl (by omega) (R_isGood_e (by omega)  M _ hv) ?_
  refine ev_k (pc' := 49) (ls' := [(0, .inr (.inr (some 73)))]) (st' := [.inl (v1)]) (nc' := 126) (np' := 138) (M' := M) 0 rfl ?_
  obtain ⟨hR, ⟨hc, h⟩ | ⟨hc, h⟩⟩ := c_eq_i h
  · refine ev_ifc 68 rfl hR.1 (by decide) (fun _ => ?_) (fun q => absurd hc q)
    exact R_takesActs_68_t hd      M r h
  · refine ev_ifc 68 rfl hR.1 (by decide) (fun q => absurd q hc) (fun _ => ?_)
    refine ev_k (pc' := 56) (ls' := [(0, .inr (.inr (some 73)))]) (st' := [.inl (M 73 69)]) (nc' := 126) (np' := 138) (M' := M) 2 rfl ?_
    obtain ⟨hR, ⟨hc, h⟩ | ⟨hc, h⟩⟩ := c_le_i h
    · refine ev_ifc 68 rfl hR.1 (by decide) (fun _ => ?_) (fun q => absurd hc q)
      exact R_takesActs_68_t hd      M r h
    · refine ev_ifc 68 rfl hR.1 (by decide) (fun q => absurd q hc) (fun _ => ?_)
      refine ev_k (pc' := 65) (ls' := [(0, .inr (.inr (some 73)))]) (st' := [.inl (M 73 3), .inl (1), .inr (.inr (some 73))]) (nc' := 126) (np' := 138) (M' := M) 4 rfl ?_
      obtain ⟨M2, hv, h⟩ := ob_i h
      refine ev_call (t := 199) (as := [.inr (.inr (some 73)), .inl (1), .inl (M 73 3)]) (rest := []) rfl rfl rfl (by omega) (R_wrongs_e (by omega) (1) (M 73 3) M _ hv) ?_
      exact R_takesActs_68_t hd      M2 r h
theorem R_takesActs_20_t {L : Nat} {xs : Nat → Int} {d : Nat} (hd : 3 ≤ d)     : ∀ (n : Nat)  (M : am_M) (r : Int × am_M), R_takesActs_20    n  M = some r → am_Ev L xs d me_237 20 [(0, .inr (.inr (some 73)))] [] 126 138 M (some (.inl r.1), 126, 138, r.2)
  | 0, M, r, h => by cases h
  | n + 1, M, r, h => by
    have ih := R_takesActs_20_t (L := L) (xs := xs) hd     n
    refine ev_k (pc' := 21) (ls' := [(0, .inr (.inr (some 73)))]) (st' := [.inr (.inr (some 73))]) (nc' := 126) (np' := 138) (M' := M) 1 rfl ?_
    obtain ⟨v1, hv, h⟩ := ob_i h
    refine ev_call (t := 195) (as := [.inr (.inr (some 73))]) (rest := []) rfl rfl rfl (by omega) (R_isGood_e (by omega)  M _ hv) ?_
    refine ev_k (pc' := 24) (ls' := [(0, .inr (.inr (some 73)))]) (st' := [.inl (v1)]) (nc' := 126) (np' := 138) (M' := M) 0 rfl ?_
    obtain ⟨hR, ⟨hc, h⟩ | ⟨hc, h⟩⟩ := c_eq_i h
    · refine ev_ifc 45 rfl hR.1 (by decide) (fun _ => ?_) (fun q => absurd hc q)
      exact R_takesActs_45_t hd      M r h
    · refine ev_ifc 45 rfl hR.1 (by decide) (fun q => absurd q hc) (fun _ => ?_)
      refine ev_k (pc' := 35) (ls' := [(0, .inr (.inr (some 73)))]) (st' := [.inl (M 73 4), .inl (M 73 3)]) (nc' := 126) (np' := 138) (M' := M) 4 rfl ?_
      obtain ⟨hR, ⟨hc, h⟩ | ⟨hc, h⟩⟩ := c_ge_i h
      · refine ev_icmp 45 rfl hR.1 hR.2 (by decide) (fun _ => ?_) (fun q => absurd hc q)
        exact R_takesActs_45_t hd      M r h
      · refine ev_icmp 45 rfl hR.1 hR.2 (by decide) (fun q => absurd q hc) (fun _ => ?_)
        refine ev_k (pc' := 39) (ls' := [(0, .inr (.inr (some 73)))]) (st' := [.inr (.inr (some 73))]) (nc' := 126) (np' := 138) (M' := M) 1 rfl ?_
        obtain ⟨M2, hv, h⟩ := ob_i h
        refine ev_call (t := 238) (as := [.inr (.inr (some 73))]) (rest := []) rfl rfl rfl (by omega) (R_act_e (by omega)  M _ hv) ?_
        refine ev_k (pc' := 20) (ls' := [(0, .inr (.inr (some 73)))]) (st' := []) (nc' := 126) (np' := 138) (M' := M2) 1 rfl ?_
        exact ih  M2 r h
theorem R_takesActs_e {L : Nat} {xs : Nat → Int} {d : Nat} (hd : 3 ≤ d)   (x1 : Int) (M : am_M) (r : Int × am_M) (h : R_takesActs   x1 M = some r) : am_Ev L xs d me_237 0 (am_ar1 0 [.inr (.inr (some 73)), .inl (x1)]) [] 126 138 M (some (.inl r.1), 126, 138, r.2) := by
  refine ev_k (pc' := 2) (ls' := [(0, .inr (.inr (some 73))), (1, .inl (x1))]) (st' := [.inl (x1), .inr (.inr (some 73))]) (nc' := 126) (np' := 138) (M' := M) 2 rfl ?_
  obtain ⟨M1, hv, h⟩ := ob_i h
  refine ev_call (t := 194) (as := [.inr (.inr (some 73)), .inl (x1)]) (rest := []) rfl rfl rfl (by omega) (R_begins_e (by omega) (x1) M _ hv) ?_
  refine ev_k (pc' := 10) (ls' := [(0, .inr (.inr (some 73))), (1, .inl (x1))]) (st' := []) (nc' := 126) (np' := 138) (M' := am_up M1 73 68 (0)) 3 rfl ?_
  obtain ⟨M2, eM, h⟩ := fw_i h
  rw [← eM]
  refine ev_k (pc' := 15) (ls' := [(0, .inr (.inr (some 73))), (1, .inl (x1))]) (st' := []) (nc' := 126) (np' := 138) (M' := am_up M2 73 69 (0)) 3 rfl ?_
  obtain ⟨M3, eM, h⟩ := fw_i h
  rw [← eM]
  refine ev_k (pc' := 17) (ls' := [(0, .inr (.inr (some 73))), (1, .inl (x1))]) (st' := [.inl (0), .inr (.inr (some 73))]) (nc' := 126) (np' := 138) (M' := M3) 2 rfl ?_
  obtain ⟨hc, M4, eM, h⟩ := fz_i h
  refine ev_putz (k := 73) (j := 70) rfl rfl (by decide) rfl rfl hc eM ?_
  exact R_takesActs_20_t hd     am_big  M4 r h
def R_passes    (x1 : Int) (M : am_M) : Option (Int × am_M) := c_le ((M 73 44) + (x1)) (M 73 43)
       (fw M 73 44 ((M 73 44) + (x1)) fun M1 => some (1, M1))
       (fz M 73 76 (1) fun M2 => some (0, M2))
theorem R_passes_e {L : Nat} {xs : Nat → Int} {d : Nat} (hd : 0 ≤ d)   (x1 : Int) (M : am_M) (r : Int × am_M) (h : R_passes   x1 M = some r) : am_Ev L xs d me_256 0 (am_ar1 0 [.inr (.inr (some 73)), .inl (x1)]) [] 126 138 M (some (.inl r.1), 126, 138, r.2) := by
  refine ev_k (pc' := 10) (ls' := [(0, .inr (.inr (some 73))), (1, .inl (x1))]) (st' := [.inl (M 73 43), .inl ((M 73 44) + (x1))]) (nc' := 126) (np' := 138) (M' := M) 6 rfl ?_
  obtain ⟨hR, ⟨hc, h⟩ | ⟨hc, h⟩⟩ := c_le_i h
  · refine ev_icmp 20 rfl hR.1 hR.2 (by decide) (fun _ => ?_) (fun q => absurd hc q)
    refine ev_k (pc' := 30) (ls' := [(0, .inr (.inr (some 73))), (1, .inl (x1))]) (st' := []) (nc' := 126) (np' := 138) (M' := am_up M 73 44 ((M 73 44) + (x1))) 6 rfl ?_
    obtain ⟨M1, eM, h⟩ := fw_i h
    rw [← eM]
    refine ev_k (pc' := 31) (ls' := [(0, .inr (.inr (some 73))), (1, .inl (x1))]) (st' := [.inl (1)]) (nc' := 126) (np' := 138) (M' := M1) 1 rfl ?_
    cases h
    exact ev_ret rfl
  · refine ev_icmp 20 rfl hR.1 hR.2 (by decide) (fun q => absurd q hc) (fun _ => ?_)
    refine ev_k (pc' := 15) (ls' := [(0, .inr (.inr (some 73))), (1, .inl (x1))]) (st' := [.inl (1), .inr (.inr (some 73))]) (nc' := 126) (np' := 138) (M' := M) 2 rfl ?_
    obtain ⟨hc, M2, eM, h⟩ := fz_i h
    refine ev_putz (k := 73) (j := 76) rfl rfl (by decide) rfl rfl hc eM ?_
    refine ev_k (pc' := 19) (ls' := [(0, .inr (.inr (some 73))), (1, .inl (x1))]) (st' := [.inl (0)]) (nc' := 126) (np' := 138) (M' := M2) 1 rfl ?_
    cases h
    exact ev_ret rfl
def R_changes_16     (M : am_M) : Option (am_M) := some (M)
def R_changes_27    : Nat → Int → am_M → Option (am_M)
  | 0, _, _ => none
  | n + 1, x1, M => rd M 94 6 (x1) fun v1 => c_ne (v1) (0)
       (fw M 73 41 (x1) fun M2 => some (M2))
       (ck (am_R ((x1) + (1)) ∧ am_R (6) ∧ ((6) : Int) ≠ 0) (tw (Int.tmod ((x1) + (1)) (6)) fun v3 => (R_changes_27    n (v3) M)))
def R_changes     (M : am_M) : Option (am_M) := c_eq (M 73 41) (-1)
       (R_changes_16     M)
       (oc (R_passes (0) M) fun v1 M2 => c_ne (v1) (0)
       (ck (am_R ((M2 73 41) + (1)) ∧ am_R (6) ∧ ((6) : Int) ≠ 0) (tw (Int.tmod ((M2 73 41) + (1)) (6)) fun v3 => (R_changes_27    am_big (v3) M2)))
       (R_changes_16     M2))
theorem R_changes_16_t {L : Nat} {xs : Nat → Int} {d : Nat} (hd : 1 ≤ d)      (M : am_M) (r : am_M) (h : R_changes_16     M = some r) : am_Ev L xs d me_262 16 [] [] 126 138 M (none, 126, 138, r) := by
  refine ev_k (pc' := 16) (ls' := []) (st' := []) (nc' := 126) (np' := 138) (M' := M) 0 rfl ?_
  cases h
  exact ev_ret rfl
theorem R_changes_27_t {L : Nat} {xs : Nat → Int} {d : Nat} (hd : 1 ≤ d)     : ∀ (n : Nat) (x1 : Int) (M : am_M) (r : am_M), R_changes_27    n x1 M = some r → am_Ev L xs d me_262 27 [(0, .inr (.inr (some 73))), (1, .inl (x1))] [] 126 138 M (none, 126, 138, r)
  | 0, _, M, r, h => by cases h
  | n + 1, x1, M, r, h => by
    have ih := R_changes_27_t (L := L) (xs := xs) hd     n
    refine ev_k (pc' := 32) (ls' := [(0, .inr (.inr (some 73))), (1, .inl (x1))]) (st' := [.inl (x1), .inr (.inr (some 94))]) (nc' := 126) (np' := 138) (M' := M) 3 rfl ?_
    obtain ⟨hc, v1, ev, h⟩ := rd_i h
    refine ev_ald (k := 94) (t := 2) (Or.inr ⟨rfl, Or.inr rfl⟩) rfl (by decide) (by decide) rfl hc ev ?_
    refine ev_k (pc' := 33) (ls' := [(0, .inr (.inr (some 73))), (1, .inl (x1))]) (st' := [.inl (v1)]) (nc' := 126) (np' := 138) (M' := M) 0 rfl ?_
    obtain ⟨hR, ⟨hc, h⟩ | ⟨hc, h⟩⟩ := c_ne_i h
    · refine ev_ifc 46 rfl hR.1 (by decide) (fun _ => ?_) (fun q => absurd hc q)
      refine ev_k (pc' := 51) (ls' := [(0, .inr (.inr (some 73))), (1, .inl (x1))]) (st' := []) (nc' := 126) (np' := 138) (M' := am_up M 73 41 (x1)) 3 rfl ?_
      obtain ⟨M2, eM, h⟩ := fw_i h
      rw [← eM]
      refine ev_k (pc' := 51) (ls' := [(0, .inr (.inr (some 73))), (1, .inl (x1))]) (st' := []) (nc' := 126) (np' := 138) (M' := M2) 0 rfl ?_
      cases h
      exact ev_ret rfl
    · refine ev_ifc 46 rfl hR.1 (by decide) (fun q => absurd q hc) (fun _ => ?_)
      refine ev_k (pc' := 41) (ls' := [(0, .inr (.inr (some 73))), (1, .inl (x1))]) (st' := [.inl (6), .inl ((x1) + (1))]) (nc' := 126) (np' := 138) (M' := M) 4 rfl ?_
      obtain ⟨hc, h⟩ := ck_i h
      obtain ⟨v3, ev, h⟩ := tw_i h
      refine ev_irem rfl hc ?_
      refine ev_k (pc' := 42) (ls' := [(0, .inr (.inr (some 73))), (1, .inl (x1))]) (st' := [.inl (Int.tmod ((x1) + (1)) (6))]) (nc' := 126) (np' := 138) (M' := M) 0 rfl ?_
      rw [← ev]
      refine ev_k (pc' := 27) (ls' := [(0, .inr (.inr (some 73))), (1, .inl (v3))]) (st' := []) (nc' := 126) (np' := 138) (M' := M) 2 rfl ?_
      exact ih (v3) M r h
theorem R_changes_e {L : Nat} {xs : Nat → Int} {d : Nat} (hd : 1 ≤ d)    (M : am_M) (r : am_M) (h : R_changes    M = some r) : am_Ev L xs d me_262 0 (am_ar1 0 [.inr (.inr (some 73))]) [] 126 138 M (none, 126, 138, r) := by
  refine ev_k (pc' := 5) (ls' := [(0, .inr (.inr (some 73)))]) (st' := [.inl (-1), .inl (M 73 41)]) (nc' := 126) (np' := 138) (M' := M) 3 rfl ?_
  obtain ⟨hR, ⟨hc, h⟩ | ⟨hc, h⟩⟩ := c_eq_i h
  · refine ev_icmp 16 rfl hR.1 hR.2 (by decide) (fun _ => ?_) (fun q => absurd hc q)
    exact R_changes_16_t hd      M r h
  · refine ev_icmp 16 rfl hR.1 hR.2 (by decide) (fun q => absurd q hc) (fun _ => ?_)
    refine ev_k (pc' := 10) (ls' := [(0, .inr (.inr (some 73)))]) (st' := [.inl (0), .inr (.inr (some 73))]) (nc' := 126) (np' := 138) (M' := M) 2 rfl ?_
    obtain ⟨v1, M2, hv, h⟩ := oc_i h
    refine ev_call (t := 256) (as := [.inr (.inr (some 73)), .inl (0)]) (rest := []) rfl rfl rfl (by omega) (R_passes_e (by omega) (0) M _ hv) ?_
    refine ev_k (pc' := 13) (ls' := [(0, .inr (.inr (some 73)))]) (st' := [.inl (v1)]) (nc' := 126) (np' := 138) (M' := M2) 0 rfl ?_
    obtain ⟨hR, ⟨hc, h⟩ | ⟨hc, h⟩⟩ := c_ne_i h
    · refine ev_ifc 17 rfl hR.1 (by decide) (fun _ => ?_) (fun q => absurd hc q)
      refine ev_k (pc' := 25) (ls' := [(0, .inr (.inr (some 73)))]) (st' := [.inl (6), .inl ((M2 73 41) + (1))]) (nc' := 126) (np' := 138) (M' := M2) 5 rfl ?_
      obtain ⟨hc, h⟩ := ck_i h
      obtain ⟨v3, ev, h⟩ := tw_i h
      refine ev_irem rfl hc ?_
      refine ev_k (pc' := 26) (ls' := [(0, .inr (.inr (some 73)))]) (st' := [.inl (Int.tmod ((M2 73 41) + (1)) (6))]) (nc' := 126) (np' := 138) (M' := M2) 0 rfl ?_
      rw [← ev]
      refine ev_k (pc' := 27) (ls' := [(0, .inr (.inr (some 73))), (1, .inl (v3))]) (st' := []) (nc' := 126) (np' := 138) (M' := M2) 1 rfl ?_
      exact R_changes_27_t hd     am_big (v3) M2 r h
    · refine ev_ifc 17 rfl hR.1 (by decide) (fun q => absurd q hc) (fun _ => ?_)
      exact R_changes_16_t hd      M2 r h
def R_standsReady    (x1 : Int) (x2 : Int) (x3 : Int) (x4 : Int) (x5 : Int) (x6 : Int) (x7 : Int) (M : am_M) : Option (am_M) := fw M 73 29 (x1) fun M1 => fw M1 73 30 (x2) fun M2 => fw M2 73 31 (x3) fun M3 => fw M3 73 32 (x4) fun M4 => fw M4 73 33 (x5) fun M5 => fw M5 73 34 (x6) fun M6 => fw M6 73 35 (x7) fun M7 => some (M7)
theorem R_standsReady_e {L : Nat} {xs : Nat → Int} {d : Nat} (hd : 0 ≤ d)   (x1 : Int) (x2 : Int) (x3 : Int) (x4 : Int) (x5 : Int) (x6 : Int) (x7 : Int) (M : am_M) (r : am_M) (h : R_standsReady   x1 x2 x3 x4 x5 x6 x7 M = some r) : am_Ev L xs d me_249 0 (am_ar1 0 [.inr (.inr (some 73)), .inl (x1), .inl (x2), .inl (x3), .inl (x4), .inl (x5), .inl (x6), .inl (x7)]) [] 126 138 M (none, 126, 138, r) := by
  refine ev_k (pc' := 5) (ls' := [(0, .inr (.inr (some 73))), (1, .inl (x1)), (2, .inl (x2)), (3, .inl (x3)), (4, .inl (x4)), (5, .inl (x5)), (6, .inl (x6)), (7, .inl (x7))]) (st' := []) (nc' := 126) (np' := 138) (M' := am_up M 73 29 (x1)) 3 rfl ?_
  obtain ⟨M1, eM, h⟩ := fw_i h
  rw [← eM]
  refine ev_k (pc' := 10) (ls' := [(0, .inr (.inr (some 73))), (1, .inl (x1)), (2, .inl (x2)), (3, .inl (x3)), (4, .inl (x4)), (5, .inl (x5)), (6, .inl (x6)), (7, .inl (x7))]) (st' := []) (nc' := 126) (np' := 138) (M' := am_up M1 73 30 (x2)) 3 rfl ?_
  obtain ⟨M2, eM, h⟩ := fw_i h
  rw [← eM]
  refine ev_k (pc' := 15) (ls' := [(0, .inr (.inr (some 73))), (1, .inl (x1)), (2, .inl (x2)), (3, .inl (x3)), (4, .inl (x4)), (5, .inl (x5)), (6, .inl (x6)), (7, .inl (x7))]) (st' := []) (nc' := 126) (np' := 138) (M' := am_up M2 73 31 (x3)) 3 rfl ?_
  obtain ⟨M3, eM, h⟩ := fw_i h
  rw [← eM]
  refine ev_k (pc' := 21) (ls' := [(0, .inr (.inr (some 73))), (1, .inl (x1)), (2, .inl (x2)), (3, .inl (x3)), (4, .inl (x4)), (5, .inl (x5)), (6, .inl (x6)), (7, .inl (x7))]) (st' := []) (nc' := 126) (np' := 138) (M' := am_up M3 73 32 (x4)) 3 rfl ?_
  obtain ⟨M4, eM, h⟩ := fw_i h
  rw [← eM]
  refine ev_k (pc' := 27) (ls' := [(0, .inr (.inr (some 73))), (1, .inl (x1)), (2, .inl (x2)), (3, .inl (x3)), (4, .inl (x4)), (5, .inl (x5)), (6, .inl (x6)), (7, .inl (x7))]) (st' := []) (nc' := 126) (np' := 138) (M' := am_up M4 73 33 (x5)) 3 rfl ?_
  obtain ⟨M5, eM, h⟩ := fw_i h
  rw [← eM]
  refine ev_k (pc' := 33) (ls' := [(0, .inr (.inr (some 73))), (1, .inl (x1)), (2, .inl (x2)), (3, .inl (x3)), (4, .inl (x4)), (5, .inl (x5)), (6, .inl (x6)), (7, .inl (x7))]) (st' := []) (nc' := 126) (np' := 138) (M' := am_up M5 73 34 (x6)) 3 rfl ?_
  obtain ⟨M6, eM, h⟩ := fw_i h
  rw [← eM]
  refine ev_k (pc' := 39) (ls' := [(0, .inr (.inr (some 73))), (1, .inl (x1)), (2, .inl (x2)), (3, .inl (x3)), (4, .inl (x4)), (5, .inl (x5)), (6, .inl (x6)), (7, .inl (x7))]) (st' := []) (nc' := 126) (np' := 138) (M' := am_up M6 73 35 (x7)) 3 rfl ?_
  obtain ⟨M7, eM, h⟩ := fw_i h
  rw [← eM]
  refine ev_k (pc' := 39) (ls' := [(0, .inr (.inr (some 73))), (1, .inl (x1)), (2, .inl (x2)), (3, .inl (x3)), (4, .inl (x4)), (5, .inl (x5)), (6, .inl (x6)), (7, .inl (x7))]) (st' := []) (nc' := 126) (np' := 138) (M' := M7) 0 rfl ?_
  cases h
  exact ev_ret rfl
def R_valueOf    (x1 : Int) (M : am_M) : Option (Int) := ck (am_R (x1)) ((if (x1) = (97) then
       (some (M 73 31)) else
       (if (x1) = (102) then
       (some (M 73 34)) else
       (if (x1) = (107) then
       (some (M 73 29)) else
       (if (x1) = (113) then
       (some (M 73 33)) else
       (if (x1) = (116) then
       (some (M 73 32)) else
       (if (x1) = (119) then
       (some (M 73 30)) else
       (some (M 73 35)))))))))
theorem R_valueOf_e {L : Nat} {xs : Nat → Int} {d : Nat} (hd : 0 ≤ d)   (x1 : Int) (M : am_M) (r : Int) (h : R_valueOf   x1 M = some r) : am_Ev L xs d me_254 0 (am_ar1 0 [.inr (.inr (some 73)), .inl (x1)]) [] 126 138 M (some (.inl r), 126, 138, M) := by
  refine ev_k (pc' := 1) (ls' := [(0, .inr (.inr (some 73))), (1, .inl (x1))]) (st' := [.inl (x1)]) (nc' := 126) (np' := 138) (M' := M) 1 rfl ?_
  obtain ⟨hR, h⟩ := ck_i h
  rcases if_i h with ⟨hq, h⟩ | ⟨hq0, h⟩
  · refine ev_lsw 70 rfl hR rfl (69) (by rw [hq]; rfl) (by decide) ?_
    refine ev_k (pc' := 74) (ls' := [(0, .inr (.inr (some 73))), (1, .inl (x1))]) (st' := [.inl (M 73 31)]) (nc' := 126) (np' := 138) (M' := M) 2 rfl ?_
    cases h
    exact ev_ret rfl
  · skip
    rcases if_i h with ⟨hq, h⟩ | ⟨hq1, h⟩
    · refine ev_lsw 85 rfl hR rfl (84) (by rw [hq]; rfl) (by decide) ?_
      refine ev_k (pc' := 89) (ls' := [(0, .inr (.inr (some 73))), (1, .inl (x1))]) (st' := [.inl (M 73 34)]) (nc' := 126) (np' := 138) (M' := M) 2 rfl ?_
      cases h
      exact ev_ret rfl
    · skip
      rcases if_i h with ⟨hq, h⟩ | ⟨hq2, h⟩
      · refine ev_lsw 60 rfl hR rfl (59) (by rw [hq]; rfl) (by decide) ?_
        refine ev_k (pc' := 64) (ls' := [(0, .inr (.inr (some 73))), (1, .inl (x1))]) (st' := [.inl (M 73 29)]) (nc' := 126) (np' := 138) (M' := M) 2 rfl ?_
        cases h
        exact ev_ret rfl
      · skip
        rcases if_i h with ⟨hq, h⟩ | ⟨hq3, h⟩
        · refine ev_lsw 80 rfl hR rfl (79) (by rw [hq]; rfl) (by decide) ?_
          refine ev_k (pc' := 84) (ls' := [(0, .inr (.inr (some 73))), (1, .inl (x1))]) (st' := [.inl (M 73 33)]) (nc' := 126) (np' := 138) (M' := M) 2 rfl ?_
          cases h
          exact ev_ret rfl
        · skip
          rcases if_i h with ⟨hq, h⟩ | ⟨hq4, h⟩
          · refine ev_lsw 75 rfl hR rfl (74) (by rw [hq]; rfl) (by decide) ?_
            refine ev_k (pc' := 79) (ls' := [(0, .inr (.inr (some 73))), (1, .inl (x1))]) (st' := [.inl (M 73 32)]) (nc' := 126) (np' := 138) (M' := M) 2 rfl ?_
            cases h
            exact ev_ret rfl
          · skip
            rcases if_i h with ⟨hq, h⟩ | ⟨hq5, h⟩
            · refine ev_lsw 65 rfl hR rfl (64) (by rw [hq]; rfl) (by decide) ?_
              refine ev_k (pc' := 69) (ls' := [(0, .inr (.inr (some 73))), (1, .inl (x1))]) (st' := [.inl (M 73 30)]) (nc' := 126) (np' := 138) (M' := M) 2 rfl ?_
              cases h
              exact ev_ret rfl
            · skip
              refine ev_lsw 90 rfl hR rfl (89) ?_ (by decide) ?_
              · exact am_lsd _ _ _ (by simp only [List.forall_mem_cons, List.not_mem_nil]; exact ⟨hq0, hq1, hq2, hq3, hq4, hq5, by simp⟩)
              · skip
                refine ev_k (pc' := 94) (ls' := [(0, .inr (.inr (some 73))), (1, .inl (x1))]) (st' := [.inl (M 73 35)]) (nc' := 126) (np' := 138) (M' := M) 2 rfl ?_
                cases h
                exact ev_ret rfl
def R_worked_103    (s0 : Int) (M : am_M) : Option (Int) := some (s0)
def R_worked_136    (s0 : Int) (M : am_M) : Option (Int) := some (s0)
def R_worked_114    (s0 : Int) (M : am_M) : Option (Int) := some (s0)
def R_worked_91    (s0 : Int) (M : am_M) : Option (Int) := some (s0)
def R_worked_125    (s0 : Int) (M : am_M) : Option (Int) := some (s0)
def R_worked    (x0 : Int) (x1 : Int) (x2 : Int) (M : am_M) : Option (Int) := ck (am_R (x0)) ((if (x0) = (37) then
       (c_ne (x2) (0)
       (ck (am_R (x1) ∧ am_R (x2) ∧ ((x2) : Int) ≠ 0) (tw (Int.tmod (x1) (x2)) fun v1 => (R_worked_103    (v1) M)))
       ((R_worked_103    (0) M))) else
       (if (x0) = (42) then
       (some (am_nm ((x1) * (x2)))) else
       (if (x0) = (43) then
       (some (am_nm ((x1) + (x2)))) else
       (if (x0) = (45) then
       (some (am_nm ((x1) - (x2)))) else
       (if (x0) = (47) then
       (c_ne (x2) (0)
       (ck (am_R (x1) ∧ am_R (x2) ∧ ((x2) : Int) ≠ 0) (tw (am_nm (Int.tdiv (x1) (x2))) fun v2 => (R_worked_91    (v2) M)))
       ((R_worked_91    (0) M))) else
       (if (x0) = (60) then
       (c_ge (x1) (x2)
       ((R_worked_114    (0) M))
       ((R_worked_114    (1) M))) else
       (if (x0) = (62) then
       (c_le (x1) (x2)
       ((R_worked_125    (0) M))
       ((R_worked_125    (1) M))) else
       (c_ne (x1) (x2)
       ((R_worked_136    (0) M))
       ((R_worked_136    (1) M)))))))))))
theorem R_worked_103_t {L : Nat} {xs : Nat → Int} {d : Nat} (hd : 0 ≤ d)     (s0 : Int) (M : am_M) (r : Int) (h : R_worked_103    s0 M = some r) : am_Ev L xs d me_253 103 [] [.inl (s0)] 126 138 M (some (.inl r), 126, 138, M) := by
  refine ev_k (pc' := 103) (ls' := []) (st' := [.inl (s0)]) (nc' := 126) (np' := 138) (M' := M) 0 rfl ?_
  cases h
  exact ev_ret rfl
theorem R_worked_136_t {L : Nat} {xs : Nat → Int} {d : Nat} (hd : 0 ≤ d)     (s0 : Int) (M : am_M) (r : Int) (h : R_worked_136    s0 M = some r) : am_Ev L xs d me_253 136 [] [.inl (s0)] 126 138 M (some (.inl r), 126, 138, M) := by
  refine ev_k (pc' := 136) (ls' := []) (st' := [.inl (s0)]) (nc' := 126) (np' := 138) (M' := M) 0 rfl ?_
  cases h
  exact ev_ret rfl
theorem R_worked_114_t {L : Nat} {xs : Nat → Int} {d : Nat} (hd : 0 ≤ d)     (s0 : Int) (M : am_M) (r : Int) (h : R_worked_114    s0 M = some r) : am_Ev L xs d me_253 114 [] [.inl (s0)] 126 138 M (some (.inl r), 126, 138, M) := by
  refine ev_k (pc' := 114) (ls' := []) (st' := [.inl (s0)]) (nc' := 126) (np' := 138) (M' := M) 0 rfl ?_
  cases h
  exact ev_ret rfl
theorem R_worked_91_t {L : Nat} {xs : Nat → Int} {d : Nat} (hd : 0 ≤ d)     (s0 : Int) (M : am_M) (r : Int) (h : R_worked_91    s0 M = some r) : am_Ev L xs d me_253 91 [] [.inl (s0)] 126 138 M (some (.inl r), 126, 138, M) := by
  refine ev_k (pc' := 91) (ls' := []) (st' := [.inl (s0)]) (nc' := 126) (np' := 138) (M' := M) 0 rfl ?_
  cases h
  exact ev_ret rfl
theorem R_worked_125_t {L : Nat} {xs : Nat → Int} {d : Nat} (hd : 0 ≤ d)     (s0 : Int) (M : am_M) (r : Int) (h : R_worked_125    s0 M = some r) : am_Ev L xs d me_253 125 [] [.inl (s0)] 126 138 M (some (.inl r), 126, 138, M) := by
  refine ev_k (pc' := 125) (ls' := []) (st' := [.inl (s0)]) (nc' := 126) (np' := 138) (M' := M) 0 rfl ?_
  cases h
  exact ev_ret rfl
theorem R_worked_e {L : Nat} {xs : Nat → Int} {d : Nat} (hd : 0 ≤ d)   (x0 : Int) (x1 : Int) (x2 : Int) (M : am_M) (r : Int) (h : R_worked   x0 x1 x2 M = some r) : am_Ev L xs d me_253 0 (am_ar1 0 [.inl (x0), .inl (x1), .inl (x2)]) [] 126 138 M (some (.inl r), 126, 138, M) := by
  refine ev_k (pc' := 1) (ls' := [(0, .inl (x0)), (1, .inl (x1)), (2, .inl (x2))]) (st' := [.inl (x0)]) (nc' := 126) (np' := 138) (M' := M) 1 rfl ?_
  obtain ⟨hR, h⟩ := ck_i h
  rcases if_i h with ⟨hq, h⟩ | ⟨hq0, h⟩
  · refine ev_lsw 92 rfl hR rfl (91) (by rw [hq]; rfl) (by decide) ?_
    refine ev_k (pc' := 93) (ls' := [(0, .inl (x0)), (1, .inl (x1)), (2, .inl (x2))]) (st' := [.inl (x2)]) (nc' := 126) (np' := 138) (M' := M) 1 rfl ?_
    obtain ⟨hR, ⟨hc, h⟩ | ⟨hc, h⟩⟩ := c_ne_i h
    · refine ev_ifc 100 rfl hR.1 (by decide) (fun _ => ?_) (fun q => absurd hc q)
      refine ev_k (pc' := 102) (ls' := [(0, .inl (x0)), (1, .inl (x1)), (2, .inl (x2))]) (st' := [.inl (x2), .inl (x1)]) (nc' := 126) (np' := 138) (M' := M) 2 rfl ?_
      obtain ⟨hc, h⟩ := ck_i h
      obtain ⟨v1, ev, h⟩ := tw_i h
      refine ev_irem rfl hc ?_
      refine ev_k (pc' := 103) (ls' := []) (st' := [.inl (Int.tmod (x1) (x2))]) (nc' := 126) (np' := 138) (M' := M) 0 rfl ?_
      rw [← ev]
      exact R_worked_103_t hd     (v1) M r h
    · refine ev_ifc 100 rfl hR.1 (by decide) (fun q => absurd q hc) (fun _ => ?_)
      refine ev_k (pc' := 103) (ls' := []) (st' := [.inl (0)]) (nc' := 126) (np' := 138) (M' := M) 2 rfl ?_
      exact R_worked_103_t hd     (0) M r h
  · skip
    rcases if_i h with ⟨hq, h⟩ | ⟨hq1, h⟩
    · refine ev_lsw 76 rfl hR rfl (75) (by rw [hq]; rfl) (by decide) ?_
      refine ev_k (pc' := 79) (ls' := [(0, .inl (x0)), (1, .inl (x1)), (2, .inl (x2))]) (st' := [.inl (am_nm ((x1) * (x2)))]) (nc' := 126) (np' := 138) (M' := M) 3 rfl ?_
      cases h
      exact ev_ret rfl
    · skip
      rcases if_i h with ⟨hq, h⟩ | ⟨hq2, h⟩
      · refine ev_lsw 68 rfl hR rfl (67) (by rw [hq]; rfl) (by decide) ?_
        refine ev_k (pc' := 71) (ls' := [(0, .inl (x0)), (1, .inl (x1)), (2, .inl (x2))]) (st' := [.inl (am_nm ((x1) + (x2)))]) (nc' := 126) (np' := 138) (M' := M) 3 rfl ?_
        cases h
        exact ev_ret rfl
      · skip
        rcases if_i h with ⟨hq, h⟩ | ⟨hq3, h⟩
        · refine ev_lsw 72 rfl hR rfl (71) (by rw [hq]; rfl) (by decide) ?_
          refine ev_k (pc' := 75) (ls' := [(0, .inl (x0)), (1, .inl (x1)), (2, .inl (x2))]) (st' := [.inl (am_nm ((x1) - (x2)))]) (nc' := 126) (np' := 138) (M' := M) 3 rfl ?_
          cases h
          exact ev_ret rfl
        · skip
          rcases if_i h with ⟨hq, h⟩ | ⟨hq4, h⟩
          · refine ev_lsw 80 rfl hR rfl (79) (by rw [hq]; rfl) (by decide) ?_
            refine ev_k (pc' := 81) (ls' := [(0, .inl (x0)), (1, .inl (x1)), (2, .inl (x2))]) (st' := [.inl (x2)]) (nc' := 126) (np' := 138) (M' := M) 1 rfl ?_
            obtain ⟨hR, ⟨hc, h⟩ | ⟨hc, h⟩⟩ := c_ne_i h
            · refine ev_ifc 88 rfl hR.1 (by decide) (fun _ => ?_) (fun q => absurd hc q)
              refine ev_k (pc' := 90) (ls' := [(0, .inl (x0)), (1, .inl (x1)), (2, .inl (x2))]) (st' := [.inl (x2), .inl (x1)]) (nc' := 126) (np' := 138) (M' := M) 2 rfl ?_
              obtain ⟨hc, h⟩ := ck_i h
              obtain ⟨v2, ev, h⟩ := tw_i h
              refine ev_idiv rfl hc ?_
              refine ev_k (pc' := 91) (ls' := []) (st' := [.inl (am_nm (Int.tdiv (x1) (x2)))]) (nc' := 126) (np' := 138) (M' := M) 0 rfl ?_
              rw [← ev]
              exact R_worked_91_t hd     (v2) M r h
            · refine ev_ifc 88 rfl hR.1 (by decide) (fun q => absurd q hc) (fun _ => ?_)
              refine ev_k (pc' := 91) (ls' := []) (st' := [.inl (0)]) (nc' := 126) (np' := 138) (M' := M) 2 rfl ?_
              exact R_worked_91_t hd     (0) M r h
          · skip
            rcases if_i h with ⟨hq, h⟩ | ⟨hq5, h⟩
            · refine ev_lsw 104 rfl hR rfl (103) (by rw [hq]; rfl) (by decide) ?_
              refine ev_k (pc' := 106) (ls' := [(0, .inl (x0)), (1, .inl (x1)), (2, .inl (x2))]) (st' := [.inl (x2), .inl (x1)]) (nc' := 126) (np' := 138) (M' := M) 2 rfl ?_
              obtain ⟨hR, ⟨hc, h⟩ | ⟨hc, h⟩⟩ := c_ge_i h
              · refine ev_icmp 113 rfl hR.1 hR.2 (by decide) (fun _ => ?_) (fun q => absurd hc q)
                refine ev_k (pc' := 114) (ls' := []) (st' := [.inl (0)]) (nc' := 126) (np' := 138) (M' := M) 1 rfl ?_
                exact R_worked_114_t hd     (0) M r h
              · refine ev_icmp 113 rfl hR.1 hR.2 (by decide) (fun q => absurd q hc) (fun _ => ?_)
                refine ev_k (pc' := 114) (ls' := []) (st' := [.inl (1)]) (nc' := 126) (np' := 138) (M' := M) 2 rfl ?_
                exact R_worked_114_t hd     (1) M r h
            · skip
              rcases if_i h with ⟨hq, h⟩ | ⟨hq6, h⟩
              · refine ev_lsw 115 rfl hR rfl (114) (by rw [hq]; rfl) (by decide) ?_
                refine ev_k (pc' := 117) (ls' := [(0, .inl (x0)), (1, .inl (x1)), (2, .inl (x2))]) (st' := [.inl (x2), .inl (x1)]) (nc' := 126) (np' := 138) (M' := M) 2 rfl ?_
                obtain ⟨hR, ⟨hc, h⟩ | ⟨hc, h⟩⟩ := c_le_i h
                · refine ev_icmp 124 rfl hR.1 hR.2 (by decide) (fun _ => ?_) (fun q => absurd hc q)
                  refine ev_k (pc' := 125) (ls' := []) (st' := [.inl (0)]) (nc' := 126) (np' := 138) (M' := M) 1 rfl ?_
                  exact R_worked_125_t hd     (0) M r h
                · refine ev_icmp 124 rfl hR.1 hR.2 (by decide) (fun q => absurd q hc) (fun _ => ?_)
                  refine ev_k (pc' := 125) (ls' := []) (st' := [.inl (1)]) (nc' := 126) (np' := 138) (M' := M) 2 rfl ?_
                  exact R_worked_125_t hd     (1) M r h
              · skip
                refine ev_lsw 126 rfl hR rfl (125) ?_ (by decide) ?_
                · exact am_lsd _ _ _ (by simp only [List.forall_mem_cons, List.not_mem_nil]; exact ⟨hq0, hq1, hq2, hq3, hq4, hq5, hq6, by simp⟩)
                · skip
                  refine ev_k (pc' := 128) (ls' := [(0, .inl (x0)), (1, .inl (x1)), (2, .inl (x2))]) (st' := [.inl (x2), .inl (x1)]) (nc' := 126) (np' := 138) (M' := M) 2 rfl ?_
                  obtain ⟨hR, ⟨hc, h⟩ | ⟨hc, h⟩⟩ := c_ne_i h
                  · refine ev_icmp 135 rfl hR.1 hR.2 (by decide) (fun _ => ?_) (fun q => absurd hc q)
                    refine ev_k (pc' := 136) (ls' := []) (st' := [.inl (0)]) (nc' := 126) (np' := 138) (M' := M) 1 rfl ?_
                    exact R_worked_136_t hd     (0) M r h
                  · refine ev_icmp 135 rfl hR.1 hR.2 (by decide) (fun q => absurd q hc) (fun _ => ?_)
                    refine ev_k (pc' := 136) (ls' := []) (st' := [.inl (1)]) (nc' := 126) (np' := 138) (M' := M) 2 rfl ?_
                    exact R_worked_136_t hd     (1) M r h
def R_does_45     (M : am_M) : Option (am_M) := some (M)
def R_does_42    (x2 : Int) (x3 : Int) (s0 : Int) (s1 : Int) (M : am_M) : Option (am_M) := c_eq (s0) (s1)
       (rd M 90 240 (x3) fun v1 => wa M 90 240 (x2) (v1) fun M2 => rd M2 91 240 (x3) fun v3 => wz M2 91 240 (x2) (v3) fun M4 => some (M4))
       (R_does_45     M)
def R_does_16    (x1 : Int) (x2 : Int) (x3 : Int) (M : am_M) : Option (am_M) := rd M 91 240 (x2) fun v1 => c_ne (v1) (0)
       (R_does_45     M)
       (rd M 90 240 (x2) fun v2 => c_ne (x1) (38)
       ((R_does_42    (x2) (x3) (v2) (0) M))
       ((R_does_42    (x2) (x3) (v2) (1) M)))
def R_does_120    (x1 : Int) (x2 : Int) (x3 : Int) (s1 : Int) (s2 : Int) (M : am_M) : Option (am_M) := wz M 91 240 (s1) (s2) fun M1 => rd M1 90 240 (x2) fun v2 => rd M1 90 240 (x3) fun v3 => ob (R_worked (x1) (v2) (v3) M1) fun v4 => wa M1 90 240 (x2) (v4) fun M5 => some (M5)
def R_does_115    (x1 : Int) (x2 : Int) (x3 : Int) (s1 : Int) (M : am_M) : Option (am_M) := (R_does_120    (x1) (x2) (x3) (s1) (1) M)
def R_does_119    (x1 : Int) (x2 : Int) (x3 : Int) (s1 : Int) (M : am_M) : Option (am_M) := (R_does_120    (x1) (x2) (x3) (s1) (0) M)
def R_does_106    (x1 : Int) (x2 : Int) (x3 : Int) (s1 : Int) (M : am_M) : Option (am_M) := rd M 90 240 (x3) fun v1 => c_ne (v1) (0)
       (R_does_119    (x1) (x2) (x3) (s1) M)
       (R_does_115    (x1) (x2) (x3) (s1) M)
def R_does    (x1 : Int) (x2 : Int) (M : am_M) : Option (am_M) := c_eq (x1) (38)
       (R_does_16    (x1) (x2) ((x2) + (1)) M)
       (c_ne (x1) (124)
       (rd M 91 240 (x2) fun v1 => c_ne (v1) (0)
       (R_does_115    (x1) (x2) ((x2) + (1)) (x2) M)
       (rd M 91 240 ((x2) + (1)) fun v2 => c_ne (v2) (0)
       (R_does_115    (x1) (x2) ((x2) + (1)) (x2) M)
       (c_eq (x1) (47)
       (R_does_106    (x1) (x2) ((x2) + (1)) (x2) M)
       (c_ne (x1) (37)
       (R_does_119    (x1) (x2) ((x2) + (1)) (x2) M)
       (R_does_106    (x1) (x2) ((x2) + (1)) (x2) M)))))
       (R_does_16    (x1) (x2) ((x2) + (1)) M))
theorem R_does_45_t {L : Nat} {xs : Nat → Int} {d : Nat} (hd : 1 ≤ d)      (M : am_M) (r : am_M) (h : R_does_45     M = some r) : am_Ev L xs d me_252 45 [] [] 126 138 M (none, 126, 138, r) := by
  refine ev_k (pc' := 45) (ls' := []) (st' := []) (nc' := 126) (np' := 138) (M' := M) 0 rfl ?_
  cases h
  exact ev_ret rfl
theorem R_does_42_t {L : Nat} {xs : Nat → Int} {d : Nat} (hd : 1 ≤ d)     (x2 : Int) (x3 : Int) (s0 : Int) (s1 : Int) (M : am_M) (r : am_M) (h : R_does_42    x2 x3 s0 s1 M = some r) : am_Ev L xs d me_252 42 [(0, .inr (.inr (some 73))), (2, .inl (x2)), (3, .inl (x3))] [.inl (s1), .inl (s0)] 126 138 M (none, 126, 138, r) := by
  refine ev_k (pc' := 42) (ls' := [(0, .inr (.inr (some 73))), (2, .inl (x2)), (3, .inl (x3))]) (st' := [.inl (s1), .inl (s0)]) (nc' := 126) (np' := 138) (M' := M) 0 rfl ?_
  obtain ⟨hR, ⟨hc, h⟩ | ⟨hc, h⟩⟩ := c_eq_i h
  · refine ev_icmp 46 rfl hR.1 hR.2 (by decide) (fun _ => ?_) (fun q => absurd hc q)
    refine ev_k (pc' := 56) (ls' := [(0, .inr (.inr (some 73))), (2, .inl (x2)), (3, .inl (x3))]) (st' := [.inl (x3), .inr (.inr (some 90)), .inl (x2), .inr (.inr (some 90))]) (nc' := 126) (np' := 138) (M' := M) 6 rfl ?_
    obtain ⟨hc, v1, ev, h⟩ := rd_i h
    refine ev_ald (k := 90) (t := 0) (Or.inl ⟨rfl, rfl⟩) rfl (by decide) (by decide) rfl hc ev ?_
    refine ev_k (pc' := 57) (ls' := [(0, .inr (.inr (some 73))), (2, .inl (x2)), (3, .inl (x3))]) (st' := [.inl (v1), .inl (x2), .inr (.inr (some 90))]) (nc' := 126) (np' := 138) (M' := M) 0 rfl ?_
    obtain ⟨hc, M2, eM, h⟩ := wa_i h
    refine ev_iast (k := 90) rfl (by decide) rfl hc eM ?_
    refine ev_k (pc' := 68) (ls' := [(0, .inr (.inr (some 73))), (2, .inl (x2)), (3, .inl (x3))]) (st' := [.inl (x3), .inr (.inr (some 91)), .inl (x2), .inr (.inr (some 91))]) (nc' := 126) (np' := 138) (M' := M2) 6 rfl ?_
    obtain ⟨hc, v3, ev, h⟩ := rd_i h
    refine ev_ald (k := 91) (t := 2) (Or.inr ⟨rfl, Or.inr rfl⟩) rfl (by decide) (by decide) rfl hc ev ?_
    refine ev_k (pc' := 69) (ls' := [(0, .inr (.inr (some 73))), (2, .inl (x2)), (3, .inl (x3))]) (st' := [.inl (v3), .inl (x2), .inr (.inr (some 91))]) (nc' := 126) (np' := 138) (M' := M2) 0 rfl ?_
    obtain ⟨⟨hc, hv⟩, M4, eM, h⟩ := wz_i h
    refine ev_zast (k := 91) rfl (by decide) rfl hc hv eM ?_
    refine ev_k (pc' := 70) (ls' := [(0, .inr (.inr (some 73))), (2, .inl (x2)), (3, .inl (x3))]) (st' := []) (nc' := 126) (np' := 138) (M' := M4) 0 rfl ?_
    cases h
    exact ev_ret rfl
  · refine ev_icmp 46 rfl hR.1 hR.2 (by decide) (fun q => absurd q hc) (fun _ => ?_)
    exact R_does_45_t hd      M r h
theorem R_does_16_t {L : Nat} {xs : Nat → Int} {d : Nat} (hd : 1 ≤ d)     (x1 : Int) (x2 : Int) (x3 : Int) (M : am_M) (r : am_M) (h : R_does_16    x1 x2 x3 M = some r) : am_Ev L xs d me_252 16 [(0, .inr (.inr (some 73))), (1, .inl (x1)), (2, .inl (x2)), (3, .inl (x3))] [] 126 138 M (none, 126, 138, r) := by
  refine ev_k (pc' := 21) (ls' := [(0, .inr (.inr (some 73))), (1, .inl (x1)), (2, .inl (x2)), (3, .inl (x3))]) (st' := [.inl (x2), .inr (.inr (some 91))]) (nc' := 126) (np' := 138) (M' := M) 3 rfl ?_
  obtain ⟨hc, v1, ev, h⟩ := rd_i h
  refine ev_ald (k := 91) (t := 2) (Or.inr ⟨rfl, Or.inr rfl⟩) rfl (by decide) (by decide) rfl hc ev ?_
  refine ev_k (pc' := 22) (ls' := [(0, .inr (.inr (some 73))), (1, .inl (x1)), (2, .inl (x2)), (3, .inl (x3))]) (st' := [.inl (v1)]) (nc' := 126) (np' := 138) (M' := M) 0 rfl ?_
  obtain ⟨hR, ⟨hc, h⟩ | ⟨hc, h⟩⟩ := c_ne_i h
  · refine ev_ifc 45 rfl hR.1 (by decide) (fun _ => ?_) (fun q => absurd hc q)
    exact R_does_45_t hd      M r h
  · refine ev_ifc 45 rfl hR.1 (by decide) (fun q => absurd q hc) (fun _ => ?_)
    refine ev_k (pc' := 30) (ls' := [(0, .inr (.inr (some 73))), (1, .inl (x1)), (2, .inl (x2)), (3, .inl (x3))]) (st' := [.inl (x2), .inr (.inr (some 90))]) (nc' := 126) (np' := 138) (M' := M) 3 rfl ?_
    obtain ⟨hc, v2, ev, h⟩ := rd_i h
    refine ev_ald (k := 90) (t := 0) (Or.inl ⟨rfl, rfl⟩) rfl (by decide) (by decide) rfl hc ev ?_
    refine ev_k (pc' := 34) (ls' := [(0, .inr (.inr (some 73))), (1, .inl (x1)), (2, .inl (x2)), (3, .inl (x3))]) (st' := [.inl (38), .inl (x1), .inl (v2)]) (nc' := 126) (np' := 138) (M' := M) 2 rfl ?_
    obtain ⟨hR, ⟨hc, h⟩ | ⟨hc, h⟩⟩ := c_ne_i h
    · refine ev_icmp 41 rfl hR.1 hR.2 (by decide) (fun _ => ?_) (fun q => absurd hc q)
      refine ev_k (pc' := 42) (ls' := [(0, .inr (.inr (some 73))), (2, .inl (x2)), (3, .inl (x3))]) (st' := [.inl (0), .inl (v2)]) (nc' := 126) (np' := 138) (M' := M) 1 rfl ?_
      exact R_does_42_t hd     (x2) (x3) (v2) (0) M r h
    · refine ev_icmp 41 rfl hR.1 hR.2 (by decide) (fun q => absurd q hc) (fun _ => ?_)
      refine ev_k (pc' := 42) (ls' := [(0, .inr (.inr (some 73))), (2, .inl (x2)), (3, .inl (x3))]) (st' := [.inl (1), .inl (v2)]) (nc' := 126) (np' := 138) (M' := M) 2 rfl ?_
      exact R_does_42_t hd     (x2) (x3) (v2) (1) M r h
theorem R_does_120_t {L : Nat} {xs : Nat → Int} {d : Nat} (hd : 1 ≤ d)     (x1 : Int) (x2 : Int) (x3 : Int) (s1 : Int) (s2 : Int) (M : am_M) (r : am_M) (h : R_does_120    x1 x2 x3 s1 s2 M = some r) : am_Ev L xs d me_252 120 [(0, .inr (.inr (some 73))), (1, .inl (x1)), (2, .inl (x2)), (3, .inl (x3))] [.inl (s2), .inl (s1), .inr (.inr (some 91))] 126 138 M (none, 126, 138, r) := by
  refine ev_k (pc' := 120) (ls' := [(0, .inr (.inr (some 73))), (1, .inl (x1)), (2, .inl (x2)), (3, .inl (x3))]) (st' := [.inl (s2), .inl (s1), .inr (.inr (some 91))]) (nc' := 126) (np' := 138) (M' := M) 0 rfl ?_
  obtain ⟨⟨hc, hv⟩, M1, eM, h⟩ := wz_i h
  refine ev_zast (k := 91) rfl (by decide) rfl hc hv eM ?_
  refine ev_k (pc' := 132) (ls' := [(0, .inr (.inr (some 73))), (1, .inl (x1)), (2, .inl (x2)), (3, .inl (x3))]) (st' := [.inl (x2), .inr (.inr (some 90)), .inl (x1), .inl (x2), .inr (.inr (some 90))]) (nc' := 126) (np' := 138) (M' := M1) 7 rfl ?_
  obtain ⟨hc, v2, ev, h⟩ := rd_i h
  refine ev_ald (k := 90) (t := 0) (Or.inl ⟨rfl, rfl⟩) rfl (by decide) (by decide) rfl hc ev ?_
  refine ev_k (pc' := 138) (ls' := [(0, .inr (.inr (some 73))), (1, .inl (x1)), (2, .inl (x2)), (3, .inl (x3))]) (st' := [.inl (x3), .inr (.inr (some 90)), .inl (v2), .inl (x1), .inl (x2), .inr (.inr (some 90))]) (nc' := 126) (np' := 138) (M' := M1) 3 rfl ?_
  obtain ⟨hc, v3, ev, h⟩ := rd_i h
  refine ev_ald (k := 90) (t := 0) (Or.inl ⟨rfl, rfl⟩) rfl (by decide) (by decide) rfl hc ev ?_
  refine ev_k (pc' := 139) (ls' := [(0, .inr (.inr (some 73))), (1, .inl (x1)), (2, .inl (x2)), (3, .inl (x3))]) (st' := [.inl (v3), .inl (v2), .inl (x1), .inl (x2), .inr (.inr (some 90))]) (nc' := 126) (np' := 138) (M' := M1) 0 rfl ?_
  obtain ⟨v4, hv, h⟩ := ob_i h
  refine ev_call (t := 253) (as := [.inl (x1), .inl (v2), .inl (v3)]) (rest := [.inl (x2), .inr (.inr (some 90))]) rfl rfl rfl (by omega) (R_worked_e (by omega) (x1) (v2) (v3) M1 _ hv) ?_
  refine ev_k (pc' := 142) (ls' := [(0, .inr (.inr (some 73))), (1, .inl (x1)), (2, .inl (x2)), (3, .inl (x3))]) (st' := [.inl (v4), .inl (x2), .inr (.inr (some 90))]) (nc' := 126) (np' := 138) (M' := M1) 0 rfl ?_
  obtain ⟨hc, M5, eM, h⟩ := wa_i h
  refine ev_iast (k := 90) rfl (by decide) rfl hc eM ?_
  refine ev_k (pc' := 143) (ls' := [(0, .inr (.inr (some 73))), (1, .inl (x1)), (2, .inl (x2)), (3, .inl (x3))]) (st' := []) (nc' := 126) (np' := 138) (M' := M5) 0 rfl ?_
  cases h
  exact ev_ret rfl
theorem R_does_115_t {L : Nat} {xs : Nat → Int} {d : Nat} (hd : 1 ≤ d)     (x1 : Int) (x2 : Int) (x3 : Int) (s1 : Int) (M : am_M) (r : am_M) (h : R_does_115    x1 x2 x3 s1 M = some r) : am_Ev L xs d me_252 115 [(0, .inr (.inr (some 73))), (1, .inl (x1)), (2, .inl (x2)), (3, .inl (x3))] [.inl (s1), .inr (.inr (some 91))] 126 138 M (none, 126, 138, r) := by
  refine ev_k (pc' := 120) (ls' := [(0, .inr (.inr (some 73))), (1, .inl (x1)), (2, .inl (x2)), (3, .inl (x3))]) (st' := [.inl (1), .inl (s1), .inr (.inr (some 91))]) (nc' := 126) (np' := 138) (M' := M) 2 rfl ?_
  exact R_does_120_t hd     (x1) (x2) (x3) (s1) (1) M r h
theorem R_does_119_t {L : Nat} {xs : Nat → Int} {d : Nat} (hd : 1 ≤ d)     (x1 : Int) (x2 : Int) (x3 : Int) (s1 : Int) (M : am_M) (r : am_M) (h : R_does_119    x1 x2 x3 s1 M = some r) : am_Ev L xs d me_252 119 [(0, .inr (.inr (some 73))), (1, .inl (x1)), (2, .inl (x2)), (3, .inl (x3))] [.inl (s1), .inr (.inr (some 91))] 126 138 M (none, 126, 138, r) := by
  refine ev_k (pc' := 120) (ls' := [(0, .inr (.inr (some 73))), (1, .inl (x1)), (2, .inl (x2)), (3, .inl (x3))]) (st' := [.inl (0), .inl (s1), .inr (.inr (some 91))]) (nc' := 126) (np' := 138) (M' := M) 1 rfl ?_
  exact R_does_120_t hd     (x1) (x2) (x3) (s1) (0) M r h
theorem R_does_106_t {L : Nat} {xs : Nat → Int} {d : Nat} (hd : 1 ≤ d)     (x1 : Int) (x2 : Int) (x3 : Int) (s1 : Int) (M : am_M) (r : am_M) (h : R_does_106    x1 x2 x3 s1 M = some r) : am_Ev L xs d me_252 106 [(0, .inr (.inr (some 73))), (1, .inl (x1)), (2, .inl (x2)), (3, .inl (x3))] [.inl (s1), .inr (.inr (some 91))] 126 138 M (none, 126, 138, r) := by
  refine ev_k (pc' := 111) (ls' := [(0, .inr (.inr (some 73))), (1, .inl (x1)), (2, .inl (x2)), (3, .inl (x3))]) (st' := [.inl (x3), .inr (.inr (some 90)), .inl (s1), .inr (.inr (some 91))]) (nc' := 126) (np' := 138) (M' := M) 3 rfl ?_
  obtain ⟨hc, v1, ev, h⟩ := rd_i h
  refine ev_ald (k := 90) (t := 0) (Or.inl ⟨rfl, rfl⟩) rfl (by decide) (by decide) rfl hc ev ?_
  refine ev_k (pc' := 112) (ls' := [(0, .inr (.inr (some 73))), (1, .inl (x1)), (2, .inl (x2)), (3, .inl (x3))]) (st' := [.inl (v1), .inl (s1), .inr (.inr (some 91))]) (nc' := 126) (np' := 138) (M' := M) 0 rfl ?_
  obtain ⟨hR, ⟨hc, h⟩ | ⟨hc, h⟩⟩ := c_ne_i h
  · refine ev_ifc 119 rfl hR.1 (by decide) (fun _ => ?_) (fun q => absurd hc q)
    exact R_does_119_t hd     (x1) (x2) (x3) (s1) M r h
  · refine ev_ifc 119 rfl hR.1 (by decide) (fun q => absurd q hc) (fun _ => ?_)
    exact R_does_115_t hd     (x1) (x2) (x3) (s1) M r h
theorem R_does_e {L : Nat} {xs : Nat → Int} {d : Nat} (hd : 1 ≤ d)   (x1 : Int) (x2 : Int) (M : am_M) (r : am_M) (h : R_does   x1 x2 M = some r) : am_Ev L xs d me_252 0 (am_ar1 0 [.inr (.inr (some 73)), .inl (x1), .inl (x2)]) [] 126 138 M (none, 126, 138, r) := by
  refine ev_k (pc' := 7) (ls' := [(3, .inl ((x2) + (1))), (0, .inr (.inr (some 73))), (1, .inl (x1)), (2, .inl (x2))]) (st' := [.inl (38), .inl (x1)]) (nc' := 126) (np' := 138) (M' := M) 6 rfl ?_
  obtain ⟨hR, ⟨hc, h⟩ | ⟨hc, h⟩⟩ := c_eq_i h
  · refine ev_icmp 16 rfl hR.1 hR.2 (by decide) (fun _ => ?_) (fun q => absurd hc q)
    exact R_does_16_t hd     (x1) (x2) ((x2) + (1)) M r h
  · refine ev_icmp 16 rfl hR.1 hR.2 (by decide) (fun q => absurd q hc) (fun _ => ?_)
    refine ev_k (pc' := 13) (ls' := [(3, .inl ((x2) + (1))), (0, .inr (.inr (some 73))), (1, .inl (x1)), (2, .inl (x2))]) (st' := [.inl (124), .inl (x1)]) (nc' := 126) (np' := 138) (M' := M) 2 rfl ?_
    obtain ⟨hR, ⟨hc, h⟩ | ⟨hc, h⟩⟩ := c_ne_i h
    · refine ev_icmp 71 rfl hR.1 hR.2 (by decide) (fun _ => ?_) (fun q => absurd hc q)
      refine ev_k (pc' := 81) (ls' := [(3, .inl ((x2) + (1))), (0, .inr (.inr (some 73))), (1, .inl (x1)), (2, .inl (x2))]) (st' := [.inl (x2), .inr (.inr (some 91)), .inl (x2), .inr (.inr (some 91))]) (nc' := 126) (np' := 138) (M' := M) 6 rfl ?_
      obtain ⟨hc, v1, ev, h⟩ := rd_i h
      refine ev_ald (k := 91) (t := 2) (Or.inr ⟨rfl, Or.inr rfl⟩) rfl (by decide) (by decide) rfl hc ev ?_
      refine ev_k (pc' := 82) (ls' := [(3, .inl ((x2) + (1))), (0, .inr (.inr (some 73))), (1, .inl (x1)), (2, .inl (x2))]) (st' := [.inl (v1), .inl (x2), .inr (.inr (some 91))]) (nc' := 126) (np' := 138) (M' := M) 0 rfl ?_
      obtain ⟨hR, ⟨hc, h⟩ | ⟨hc, h⟩⟩ := c_ne_i h
      · refine ev_ifc 115 rfl hR.1 (by decide) (fun _ => ?_) (fun q => absurd hc q)
        exact R_does_115_t hd     (x1) (x2) ((x2) + (1)) (x2) M r h
      · refine ev_ifc 115 rfl hR.1 (by decide) (fun q => absurd q hc) (fun _ => ?_)
        refine ev_k (pc' := 90) (ls' := [(3, .inl ((x2) + (1))), (0, .inr (.inr (some 73))), (1, .inl (x1)), (2, .inl (x2))]) (st' := [.inl ((x2) + (1)), .inr (.inr (some 91)), .inl (x2), .inr (.inr (some 91))]) (nc' := 126) (np' := 138) (M' := M) 3 rfl ?_
        obtain ⟨hc, v2, ev, h⟩ := rd_i h
        refine ev_ald (k := 91) (t := 2) (Or.inr ⟨rfl, Or.inr rfl⟩) rfl (by decide) (by decide) rfl hc ev ?_
        refine ev_k (pc' := 91) (ls' := [(3, .inl ((x2) + (1))), (0, .inr (.inr (some 73))), (1, .inl (x1)), (2, .inl (x2))]) (st' := [.inl (v2), .inl (x2), .inr (.inr (some 91))]) (nc' := 126) (np' := 138) (M' := M) 0 rfl ?_
        obtain ⟨hR, ⟨hc, h⟩ | ⟨hc, h⟩⟩ := c_ne_i h
        · refine ev_ifc 115 rfl hR.1 (by decide) (fun _ => ?_) (fun q => absurd hc q)
          exact R_does_115_t hd     (x1) (x2) ((x2) + (1)) (x2) M r h
        · refine ev_ifc 115 rfl hR.1 (by decide) (fun q => absurd q hc) (fun _ => ?_)
          refine ev_k (pc' := 97) (ls' := [(3, .inl ((x2) + (1))), (0, .inr (.inr (some 73))), (1, .inl (x1)), (2, .inl (x2))]) (st' := [.inl (47), .inl (x1), .inl (x2), .inr (.inr (some 91))]) (nc' := 126) (np' := 138) (M' := M) 2 rfl ?_
          obtain ⟨hR, ⟨hc, h⟩ | ⟨hc, h⟩⟩ := c_eq_i h
          · refine ev_icmp 106 rfl hR.1 hR.2 (by decide) (fun _ => ?_) (fun q => absurd hc q)
            exact R_does_106_t hd     (x1) (x2) ((x2) + (1)) (x2) M r h
          · refine ev_icmp 106 rfl hR.1 hR.2 (by decide) (fun q => absurd q hc) (fun _ => ?_)
            refine ev_k (pc' := 103) (ls' := [(3, .inl ((x2) + (1))), (0, .inr (.inr (some 73))), (1, .inl (x1)), (2, .inl (x2))]) (st' := [.inl (37), .inl (x1), .inl (x2), .inr (.inr (some 91))]) (nc' := 126) (np' := 138) (M' := M) 2 rfl ?_
            obtain ⟨hR, ⟨hc, h⟩ | ⟨hc, h⟩⟩ := c_ne_i h
            · refine ev_icmp 119 rfl hR.1 hR.2 (by decide) (fun _ => ?_) (fun q => absurd hc q)
              exact R_does_119_t hd     (x1) (x2) ((x2) + (1)) (x2) M r h
            · refine ev_icmp 119 rfl hR.1 hR.2 (by decide) (fun q => absurd q hc) (fun _ => ?_)
              exact R_does_106_t hd     (x1) (x2) ((x2) + (1)) (x2) M r h
    · refine ev_icmp 71 rfl hR.1 hR.2 (by decide) (fun q => absurd q hc) (fun _ => ?_)
      exact R_does_16_t hd     (x1) (x2) ((x2) + (1)) M r h
def R_works_121   (k5 : Int → Int → Int → am_M → Option (am_M)) (x2 : Int) (x3 : Int) (x4 : Int) (M : am_M) : Option (am_M) := (k5 (x2) (x3) ((x4) + (1)) M)
def R_works_117   (k5 : Int → Int → Int → am_M → Option (am_M)) (x2 : Int) (x3 : Int) (x4 : Int) (s1 : Int) (s2 : Int) (M : am_M) : Option (am_M) := wa M 90 240 (s1) (s2) fun M1 => (R_works_121   k5 (x2) ((x3) + (1)) (x4) M1)
def R_works_5    : Nat → Int → Int → Int → am_M → Option (am_M)
  | 0, _, _, _, _ => none
  | n + 1, x2, x3, x4, M => c_ge (x4) (x2)
       (some (M))
       (rd M 81 240 (x4) fun v1 => c_le (v1) (2)
       (rd M 81 240 (x4) fun v2 => c_ne (v2) (2)
       (wz M 91 240 (x3) (0) fun M3 => rd M3 81 240 (x4) fun v4 => c_ne (v4) (0)
       (rd M3 82 240 (x4) fun v5 => ob (R_valueOf (v5) M3) fun v6 => (R_works_117   (R_works_5    n) (x2) (x3) (x4) (x3) (v6) M3))
       (rd M3 82 240 (x4) fun v7 => (R_works_117   (R_works_5    n) (x2) (x3) (x4) (x3) (v7) M3)))
       (rd M 90 240 ((x3) - (1)) fun v8 => wa M 90 240 ((x3) - (1)) ((1) - (v8)) fun M9 => (R_works_121   (R_works_5    n) (x2) (x3) (x4) M9)))
       (rd M 81 240 (x4) fun v10 => ob (R_does (v10) (((x3) + (-1)) - (1)) M) fun M11 => (R_works_121   (R_works_5    n) (x2) ((x3) + (-1)) (x4) M11)))
def R_works    (x1 : Int) (x2 : Int) (M : am_M) : Option (am_M) := (R_works_5    am_big (x2) (0) (x1) M)
theorem R_works_121_t {L : Nat} {xs : Nat → Int} {d : Nat} (hd : 2 ≤ d)   (k5 : Int → Int → Int → am_M → Option (am_M)) (hk5 : ∀ (x2 : Int) (x3 : Int) (x4 : Int) (M : am_M) (r : am_M), k5 x2 x3 x4 M = some r → am_Ev L xs d me_251 5 [(0, .inr (.inr (some 73))), (2, .inl (x2)), (3, .inl (x3)), (4, .inl (x4))] [] 126 138 M (none, 126, 138, r)) (x2 : Int) (x3 : Int) (x4 : Int) (M : am_M) (r : am_M) (h : R_works_121   k5 x2 x3 x4 M = some r) : am_Ev L xs d me_251 121 [(0, .inr (.inr (some 73))), (2, .inl (x2)), (3, .inl (x3)), (4, .inl (x4))] [] 126 138 M (none, 126, 138, r) := by
  refine ev_k (pc' := 5) (ls' := [(0, .inr (.inr (some 73))), (2, .inl (x2)), (3, .inl (x3)), (4, .inl ((x4) + (1)))]) (st' := []) (nc' := 126) (np' := 138) (M' := M) 2 rfl ?_
  exact hk5 (x2) (x3) ((x4) + (1)) M r h
theorem R_works_117_t {L : Nat} {xs : Nat → Int} {d : Nat} (hd : 2 ≤ d)   (k5 : Int → Int → Int → am_M → Option (am_M)) (hk5 : ∀ (x2 : Int) (x3 : Int) (x4 : Int) (M : am_M) (r : am_M), k5 x2 x3 x4 M = some r → am_Ev L xs d me_251 5 [(0, .inr (.inr (some 73))), (2, .inl (x2)), (3, .inl (x3)), (4, .inl (x4))] [] 126 138 M (none, 126, 138, r)) (x2 : Int) (x3 : Int) (x4 : Int) (s1 : Int) (s2 : Int) (M : am_M) (r : am_M) (h : R_works_117   k5 x2 x3 x4 s1 s2 M = some r) : am_Ev L xs d me_251 117 [(0, .inr (.inr (some 73))), (2, .inl (x2)), (3, .inl (x3)), (4, .inl (x4))] [.inl (s2), .inl (s1), .inr (.inr (some 90))] 126 138 M (none, 126, 138, r) := by
  refine ev_k (pc' := 117) (ls' := [(0, .inr (.inr (some 73))), (2, .inl (x2)), (3, .inl (x3)), (4, .inl (x4))]) (st' := [.inl (s2), .inl (s1), .inr (.inr (some 90))]) (nc' := 126) (np' := 138) (M' := M) 0 rfl ?_
  obtain ⟨hc, M1, eM, h⟩ := wa_i h
  refine ev_iast (k := 90) rfl (by decide) rfl hc eM ?_
  refine ev_k (pc' := 121) (ls' := [(0, .inr (.inr (some 73))), (2, .inl (x2)), (3, .inl ((x3) + (1))), (4, .inl (x4))]) (st' := []) (nc' := 126) (np' := 138) (M' := M1) 1 rfl ?_
  exact R_works_121_t hd   k5 hk5 (x2) ((x3) + (1)) (x4) M1 r h
theorem R_works_5_t {L : Nat} {xs : Nat → Int} {d : Nat} (hd : 2 ≤ d)     : ∀ (n : Nat) (x2 : Int) (x3 : Int) (x4 : Int) (M : am_M) (r : am_M), R_works_5    n x2 x3 x4 M = some r → am_Ev L xs d me_251 5 [(0, .inr (.inr (some 73))), (2, .inl (x2)), (3, .inl (x3)), (4, .inl (x4))] [] 126 138 M (none, 126, 138, r)
  | 0, _, _, _, M, r, h => by cases h
  | n + 1, x2, x3, x4, M, r, h => by
    have ih := R_works_5_t (L := L) (xs := xs) hd     n
    refine ev_k (pc' := 8) (ls' := [(0, .inr (.inr (some 73))), (2, .inl (x2)), (3, .inl (x3)), (4, .inl (x4))]) (st' := [.inl (x2), .inl (x4)]) (nc' := 126) (np' := 138) (M' := M) 2 rfl ?_
    obtain ⟨hR, ⟨hc, h⟩ | ⟨hc, h⟩⟩ := c_ge_i h
    · refine ev_icmp 127 rfl hR.1 hR.2 (by decide) (fun _ => ?_) (fun q => absurd hc q)
      refine ev_k (pc' := 127) (ls' := [(0, .inr (.inr (some 73))), (2, .inl (x2)), (3, .inl (x3)), (4, .inl (x4))]) (st' := []) (nc' := 126) (np' := 138) (M' := M) 0 rfl ?_
      cases h
      exact ev_ret rfl
    · refine ev_icmp 127 rfl hR.1 hR.2 (by decide) (fun q => absurd q hc) (fun _ => ?_)
      refine ev_k (pc' := 17) (ls' := [(0, .inr (.inr (some 73))), (2, .inl (x2)), (3, .inl (x3)), (4, .inl (x4))]) (st' := [.inl (x4), .inr (.inr (some 81))]) (nc' := 126) (np' := 138) (M' := M) 3 rfl ?_
      obtain ⟨hc, v1, ev, h⟩ := rd_i h
      refine ev_ald (k := 81) (t := 0) (Or.inl ⟨rfl, rfl⟩) rfl (by decide) (by decide) rfl hc ev ?_
      refine ev_k (pc' := 19) (ls' := [(0, .inr (.inr (some 73))), (2, .inl (x2)), (3, .inl (x3)), (4, .inl (x4))]) (st' := [.inl (2), .inl (v1)]) (nc' := 126) (np' := 138) (M' := M) 1 rfl ?_
      obtain ⟨hR, ⟨hc, h⟩ | ⟨hc, h⟩⟩ := c_le_i h
      · refine ev_icmp 42 rfl hR.1 hR.2 (by decide) (fun _ => ?_) (fun q => absurd hc q)
        refine ev_k (pc' := 48) (ls' := [(0, .inr (.inr (some 73))), (2, .inl (x2)), (3, .inl (x3)), (4, .inl (x4))]) (st' := [.inl (x4), .inr (.inr (some 81))]) (nc' := 126) (np' := 138) (M' := M) 3 rfl ?_
        obtain ⟨hc, v2, ev, h⟩ := rd_i h
        refine ev_ald (k := 81) (t := 0) (Or.inl ⟨rfl, rfl⟩) rfl (by decide) (by decide) rfl hc ev ?_
        refine ev_k (pc' := 50) (ls' := [(0, .inr (.inr (some 73))), (2, .inl (x2)), (3, .inl (x3)), (4, .inl (x4))]) (st' := [.inl (2), .inl (v2)]) (nc' := 126) (np' := 138) (M' := M) 1 rfl ?_
        obtain ⟨hR, ⟨hc, h⟩ | ⟨hc, h⟩⟩ := c_ne_i h
        · refine ev_icmp 74 rfl hR.1 hR.2 (by decide) (fun _ => ?_) (fun q => absurd hc q)
          refine ev_k (pc' := 80) (ls' := [(0, .inr (.inr (some 73))), (2, .inl (x2)), (3, .inl (x3)), (4, .inl (x4))]) (st' := [.inl (0), .inl (x3), .inr (.inr (some 91))]) (nc' := 126) (np' := 138) (M' := M) 4 rfl ?_
          obtain ⟨⟨hc, hv⟩, M3, eM, h⟩ := wz_i h
          refine ev_zast (k := 91) rfl (by decide) rfl hc hv eM ?_
          refine ev_k (pc' := 92) (ls' := [(0, .inr (.inr (some 73))), (2, .inl (x2)), (3, .inl (x3)), (4, .inl (x4))]) (st' := [.inl (x4), .inr (.inr (some 81)), .inl (x3), .inr (.inr (some 90))]) (nc' := 126) (np' := 138) (M' := M3) 6 rfl ?_
          obtain ⟨hc, v4, ev, h⟩ := rd_i h
          refine ev_ald (k := 81) (t := 0) (Or.inl ⟨rfl, rfl⟩) rfl (by decide) (by decide) rfl hc ev ?_
          refine ev_k (pc' := 93) (ls' := [(0, .inr (.inr (some 73))), (2, .inl (x2)), (3, .inl (x3)), (4, .inl (x4))]) (st' := [.inl (v4), .inl (x3), .inr (.inr (some 90))]) (nc' := 126) (np' := 138) (M' := M3) 0 rfl ?_
          obtain ⟨hR, ⟨hc, h⟩ | ⟨hc, h⟩⟩ := c_ne_i h
          · refine ev_ifc 106 rfl hR.1 (by decide) (fun _ => ?_) (fun q => absurd hc q)
            refine ev_k (pc' := 113) (ls' := [(0, .inr (.inr (some 73))), (2, .inl (x2)), (3, .inl (x3)), (4, .inl (x4))]) (st' := [.inl (x4), .inr (.inr (some 82)), .inr (.inr (some 73)), .inl (x3), .inr (.inr (some 90))]) (nc' := 126) (np' := 138) (M' := M3) 4 rfl ?_
            obtain ⟨hc, v5, ev, h⟩ := rd_i h
            refine ev_ald (k := 82) (t := 0) (Or.inl ⟨rfl, rfl⟩) rfl (by decide) (by decide) rfl hc ev ?_
            refine ev_k (pc' := 114) (ls' := [(0, .inr (.inr (some 73))), (2, .inl (x2)), (3, .inl (x3)), (4, .inl (x4))]) (st' := [.inl (v5), .inr (.inr (some 73)), .inl (x3), .inr (.inr (some 90))]) (nc' := 126) (np' := 138) (M' := M3) 0 rfl ?_
            obtain ⟨v6, hv, h⟩ := ob_i h
            refine ev_call (t := 254) (as := [.inr (.inr (some 73)), .inl (v5)]) (rest := [.inl (x3), .inr (.inr (some 90))]) rfl rfl rfl (by omega) (R_valueOf_e (by omega) (v5) M3 _ hv) ?_
            exact R_works_117_t hd   (R_works_5    n) ih (x2) (x3) (x4) (x3) (v6) M3 r h
          · refine ev_ifc 106 rfl hR.1 (by decide) (fun q => absurd q hc) (fun _ => ?_)
            refine ev_k (pc' := 102) (ls' := [(0, .inr (.inr (some 73))), (2, .inl (x2)), (3, .inl (x3)), (4, .inl (x4))]) (st' := [.inl (x4), .inr (.inr (some 82)), .inl (x3), .inr (.inr (some 90))]) (nc' := 126) (np' := 138) (M' := M3) 3 rfl ?_
            obtain ⟨hc, v7, ev, h⟩ := rd_i h
            refine ev_ald (k := 82) (t := 0) (Or.inl ⟨rfl, rfl⟩) rfl (by decide) (by decide) rfl hc ev ?_
            refine ev_k (pc' := 117) (ls' := [(0, .inr (.inr (some 73))), (2, .inl (x2)), (3, .inl (x3)), (4, .inl (x4))]) (st' := [.inl (v7), .inl (x3), .inr (.inr (some 90))]) (nc' := 126) (np' := 138) (M' := M3) 1 rfl ?_
            exact R_works_117_t hd   (R_works_5    n) ih (x2) (x3) (x4) (x3) (v7) M3 r h
        · refine ev_icmp 74 rfl hR.1 hR.2 (by decide) (fun q => absurd q hc) (fun _ => ?_)
          refine ev_k (pc' := 68) (ls' := [(0, .inr (.inr (some 73))), (2, .inl (x2)), (3, .inl (x3)), (4, .inl (x4))]) (st' := [.inl ((x3) - (1)), .inr (.inr (some 90)), .inl (1), .inl ((x3) - (1)), .inr (.inr (some 90))]) (nc' := 126) (np' := 138) (M' := M) 11 rfl ?_
          obtain ⟨hc, v8, ev, h⟩ := rd_i h
          refine ev_ald (k := 90) (t := 0) (Or.inl ⟨rfl, rfl⟩) rfl (by decide) (by decide) rfl hc ev ?_
          refine ev_k (pc' := 70) (ls' := [(0, .inr (.inr (some 73))), (2, .inl (x2)), (3, .inl (x3)), (4, .inl (x4))]) (st' := [.inl ((1) - (v8)), .inl ((x3) - (1)), .inr (.inr (some 90))]) (nc' := 126) (np' := 138) (M' := M) 1 rfl ?_
          obtain ⟨hc, M9, eM, h⟩ := wa_i h
          refine ev_iast (k := 90) rfl (by decide) rfl hc eM ?_
          refine ev_k (pc' := 121) (ls' := [(0, .inr (.inr (some 73))), (2, .inl (x2)), (3, .inl (x3)), (4, .inl (x4))]) (st' := []) (nc' := 126) (np' := 138) (M' := M9) 1 rfl ?_
          exact R_works_121_t hd   (R_works_5    n) ih (x2) (x3) (x4) M9 r h
      · refine ev_icmp 42 rfl hR.1 hR.2 (by decide) (fun q => absurd q hc) (fun _ => ?_)
        refine ev_k (pc' := 32) (ls' := [(3, .inl ((x3) + (-1))), (0, .inr (.inr (some 73))), (2, .inl (x2)), (4, .inl (x4))]) (st' := [.inl (x4), .inr (.inr (some 81)), .inr (.inr (some 73))]) (nc' := 126) (np' := 138) (M' := M) 5 rfl ?_
        obtain ⟨hc, v10, ev, h⟩ := rd_i h
        refine ev_ald (k := 81) (t := 0) (Or.inl ⟨rfl, rfl⟩) rfl (by decide) (by decide) rfl hc ev ?_
        refine ev_k (pc' := 36) (ls' := [(3, .inl ((x3) + (-1))), (0, .inr (.inr (some 73))), (2, .inl (x2)), (4, .inl (x4))]) (st' := [.inl (((x3) + (-1)) - (1)), .inl (v10), .inr (.inr (some 73))]) (nc' := 126) (np' := 138) (M' := M) 3 rfl ?_
        obtain ⟨M11, hv, h⟩ := ob_i h
        refine ev_call (t := 252) (as := [.inr (.inr (some 73)), .inl (v10), .inl (((x3) + (-1)) - (1))]) (rest := []) rfl rfl rfl (by omega) (R_does_e (by omega) (v10) (((x3) + (-1)) - (1)) M _ hv) ?_
        refine ev_k (pc' := 121) (ls' := [(0, .inr (.inr (some 73))), (2, .inl (x2)), (3, .inl ((x3) + (-1))), (4, .inl (x4))]) (st' := []) (nc' := 126) (np' := 138) (M' := M11) 1 rfl ?_
        exact R_works_121_t hd   (R_works_5    n) ih (x2) ((x3) + (-1)) (x4) M11 r h
theorem R_works_e {L : Nat} {xs : Nat → Int} {d : Nat} (hd : 2 ≤ d)   (x1 : Int) (x2 : Int) (M : am_M) (r : am_M) (h : R_works   x1 x2 M = some r) : am_Ev L xs d me_251 0 (am_ar1 0 [.inr (.inr (some 73)), .inl (x1), .inl (x2)]) [] 126 138 M (none, 126, 138, r) := by
  refine ev_k (pc' := 5) (ls' := [(0, .inr (.inr (some 73))), (2, .inl (x2)), (3, .inl (0)), (4, .inl (x1))]) (st' := []) (nc' := 126) (np' := 138) (M' := M) 4 rfl ?_
  exact R_works_5_t hd     am_big (x2) (0) (x1) M r h
def R_held_18    (s0 : Int) (M : am_M) : Option (Int) := some (s0)
def R_held    (x0 : Int) (x1 : Int) (M : am_M) : Option (Int) := c_ge (x0) (0)
       (c_le (x0) (x1)
       ((R_held_18    (x0) M))
       ((R_held_18    (x1) M)))
       ((R_held_18    (0) M))
theorem R_held_18_t {L : Nat} {xs : Nat → Int} {d : Nat} (hd : 0 ≤ d)     (s0 : Int) (M : am_M) (r : Int) (h : R_held_18    s0 M = some r) : am_Ev L xs d me_255 18 [] [.inl (s0)] 126 138 M (some (.inl r), 126, 138, M) := by
  refine ev_k (pc' := 18) (ls' := []) (st' := [.inl (s0)]) (nc' := 126) (np' := 138) (M' := M) 0 rfl ?_
  cases h
  exact ev_ret rfl
theorem R_held_e {L : Nat} {xs : Nat → Int} {d : Nat} (hd : 0 ≤ d)   (x0 : Int) (x1 : Int) (M : am_M) (r : Int) (h : R_held   x0 x1 M = some r) : am_Ev L xs d me_255 0 (am_ar1 0 [.inl (x0), .inl (x1)]) [] 126 138 M (some (.inl r), 126, 138, M) := by
  refine ev_k (pc' := 1) (ls' := [(0, .inl (x0)), (1, .inl (x1))]) (st' := [.inl (x0)]) (nc' := 126) (np' := 138) (M' := M) 1 rfl ?_
  obtain ⟨hR, ⟨hc, h⟩ | ⟨hc, h⟩⟩ := c_ge_i h
  · refine ev_ifc 8 rfl hR.1 (by decide) (fun _ => ?_) (fun q => absurd hc q)
    refine ev_k (pc' := 10) (ls' := [(0, .inl (x0)), (1, .inl (x1))]) (st' := [.inl (x1), .inl (x0)]) (nc' := 126) (np' := 138) (M' := M) 2 rfl ?_
    obtain ⟨hR, ⟨hc, h⟩ | ⟨hc, h⟩⟩ := c_le_i h
    · refine ev_icmp 17 rfl hR.1 hR.2 (by decide) (fun _ => ?_) (fun q => absurd hc q)
      refine ev_k (pc' := 18) (ls' := []) (st' := [.inl (x0)]) (nc' := 126) (np' := 138) (M' := M) 1 rfl ?_
      exact R_held_18_t hd     (x0) M r h
    · refine ev_icmp 17 rfl hR.1 hR.2 (by decide) (fun q => absurd q hc) (fun _ => ?_)
      refine ev_k (pc' := 18) (ls' := []) (st' := [.inl (x1)]) (nc' := 126) (np' := 138) (M' := M) 2 rfl ?_
      exact R_held_18_t hd     (x1) M r h
  · refine ev_ifc 8 rfl hR.1 (by decide) (fun q => absurd q hc) (fun _ => ?_)
    refine ev_k (pc' := 18) (ls' := []) (st' := [.inl (0)]) (nc' := 126) (np' := 138) (M' := M) 2 rfl ?_
    exact R_held_18_t hd     (0) M r h
def R_tells_100    (s0 : Int) (M : am_M) : Option (Int × am_M) := some (s0, M)
def R_tells_101   (k2 : Int → Int → Int → am_M → Option (Int × am_M)) (x1 : Int) (x2 : Int) (x3 : Int) (M : am_M) : Option (Int × am_M) := (k2 (x1) (x2) ((x3) + (1)) M)
def R_tells_2    : Nat → Int → Int → Int → am_M → Option (Int × am_M)
  | 0, _, _, _, _ => none
  | n + 1, x1, x2, x3, M => c_ge (x3) (M 73 19)
       (some (0, M))
       (rd M 77 16 (x3) fun v1 => c_eq (v1) (x1)
       (rd M 79 16 (x3) fun v2 => rd M 80 16 (x3) fun v3 => ob (R_works (v2) (v3) M) fun M4 => rd M4 91 240 (0) fun v5 => c_ne (v5) (0)
       (R_tells_101   (R_tells_2    n) (x1) (x2) (x3) M4)
       (rd M4 90 240 (0) fun v6 => c_eq (v6) (1)
       (rd M4 78 16 (x3) fun v7 => rd M4 79 16 (x3) fun v8 => ob (R_works (v7) (v8) M4) fun M9 => rd M9 91 240 (0) fun v10 => c_eq (v10) (0)
       (rd M9 90 240 (0) fun v11 => ob (R_held (v11) (x2) M9) fun v12 => (R_tells_100    (v12) M9))
       ((R_tells_100    (0) M9)))
       ((R_tells_101   (R_tells_2    n) (x1) (x2) (x3) M4))))
       ((R_tells_101   (R_tells_2    n) (x1) (x2) (x3) M)))
def R_tells    (x1 : Int) (x2 : Int) (M : am_M) : Option (Int × am_M) := (R_tells_2    am_big (x1) (x2) (0) M)
theorem R_tells_100_t {L : Nat} {xs : Nat → Int} {d : Nat} (hd : 3 ≤ d)     (s0 : Int) (M : am_M) (r : Int × am_M) (h : R_tells_100    s0 M = some r) : am_Ev L xs d me_250 100 [] [.inl (s0)] 126 138 M (some (.inl r.1), 126, 138, r.2) := by
  refine ev_k (pc' := 100) (ls' := []) (st' := [.inl (s0)]) (nc' := 126) (np' := 138) (M' := M) 0 rfl ?_
  cases h
  exact ev_ret rfl
theorem R_tells_101_t {L : Nat} {xs : Nat → Int} {d : Nat} (hd : 3 ≤ d)   (k2 : Int → Int → Int → am_M → Option (Int × am_M)) (hk2 : ∀ (x1 : Int) (x2 : Int) (x3 : Int) (M : am_M) (r : Int × am_M), k2 x1 x2 x3 M = some r → am_Ev L xs d me_250 2 [(0, .inr (.inr (some 73))), (1, .inl (x1)), (2, .inl (x2)), (3, .inl (x3))] [] 126 138 M (some (.inl r.1), 126, 138, r.2)) (x1 : Int) (x2 : Int) (x3 : Int) (M : am_M) (r : Int × am_M) (h : R_tells_101   k2 x1 x2 x3 M = some r) : am_Ev L xs d me_250 101 [(0, .inr (.inr (some 73))), (1, .inl (x1)), (2, .inl (x2)), (3, .inl (x3))] [] 126 138 M (some (.inl r.1), 126, 138, r.2) := by
  refine ev_k (pc' := 2) (ls' := [(0, .inr (.inr (some 73))), (1, .inl (x1)), (2, .inl (x2)), (3, .inl ((x3) + (1)))]) (st' := []) (nc' := 126) (np' := 138) (M' := M) 2 rfl ?_
  exact hk2 (x1) (x2) ((x3) + (1)) M r h
theorem R_tells_2_t {L : Nat} {xs : Nat → Int} {d : Nat} (hd : 3 ≤ d)     : ∀ (n : Nat) (x1 : Int) (x2 : Int) (x3 : Int) (M : am_M) (r : Int × am_M), R_tells_2    n x1 x2 x3 M = some r → am_Ev L xs d me_250 2 [(0, .inr (.inr (some 73))), (1, .inl (x1)), (2, .inl (x2)), (3, .inl (x3))] [] 126 138 M (some (.inl r.1), 126, 138, r.2)
  | 0, _, _, _, M, r, h => by cases h
  | n + 1, x1, x2, x3, M, r, h => by
    have ih := R_tells_2_t (L := L) (xs := xs) hd     n
    refine ev_k (pc' := 7) (ls' := [(0, .inr (.inr (some 73))), (1, .inl (x1)), (2, .inl (x2)), (3, .inl (x3))]) (st' := [.inl (M 73 19), .inl (x3)]) (nc' := 126) (np' := 138) (M' := M) 3 rfl ?_
    obtain ⟨hR, ⟨hc, h⟩ | ⟨hc, h⟩⟩ := c_ge_i h
    · refine ev_icmp 107 rfl hR.1 hR.2 (by decide) (fun _ => ?_) (fun q => absurd hc q)
      refine ev_k (pc' := 108) (ls' := [(0, .inr (.inr (some 73))), (1, .inl (x1)), (2, .inl (x2)), (3, .inl (x3))]) (st' := [.inl (0)]) (nc' := 126) (np' := 138) (M' := M) 1 rfl ?_
      cases h
      exact ev_ret rfl
    · refine ev_icmp 107 rfl hR.1 hR.2 (by decide) (fun q => absurd q hc) (fun _ => ?_)
      refine ev_k (pc' := 15) (ls' := [(0, .inr (.inr (some 73))), (1, .inl (x1)), (2, .inl (x2)), (3, .inl (x3))]) (st' := [.inl (x3), .inr (.inr (some 77))]) (nc' := 126) (np' := 138) (M' := M) 3 rfl ?_
      obtain ⟨hc, v1, ev, h⟩ := rd_i h
      refine ev_ald (k := 77) (t := 0) (Or.inl ⟨rfl, rfl⟩) rfl (by decide) (by decide) rfl hc ev ?_
      refine ev_k (pc' := 17) (ls' := [(0, .inr (.inr (some 73))), (1, .inl (x1)), (2, .inl (x2)), (3, .inl (x3))]) (st' := [.inl (x1), .inl (v1)]) (nc' := 126) (np' := 138) (M' := M) 1 rfl ?_
      obtain ⟨hR, ⟨hc, h⟩ | ⟨hc, h⟩⟩ := c_eq_i h
      · refine ev_icmp 23 rfl hR.1 hR.2 (by decide) (fun _ => ?_) (fun q => absurd hc q)
        refine ev_k (pc' := 29) (ls' := [(0, .inr (.inr (some 73))), (1, .inl (x1)), (2, .inl (x2)), (3, .inl (x3))]) (st' := [.inl (x3), .inr (.inr (some 79)), .inr (.inr (some 73))]) (nc' := 126) (np' := 138) (M' := M) 4 rfl ?_
        obtain ⟨hc, v2, ev, h⟩ := rd_i h
        refine ev_ald (k := 79) (t := 0) (Or.inl ⟨rfl, rfl⟩) rfl (by decide) (by decide) rfl hc ev ?_
        refine ev_k (pc' := 35) (ls' := [(0, .inr (.inr (some 73))), (1, .inl (x1)), (2, .inl (x2)), (3, .inl (x3))]) (st' := [.inl (x3), .inr (.inr (some 80)), .inl (v2), .inr (.inr (some 73))]) (nc' := 126) (np' := 138) (M' := M) 3 rfl ?_
        obtain ⟨hc, v3, ev, h⟩ := rd_i h
        refine ev_ald (k := 80) (t := 0) (Or.inl ⟨rfl, rfl⟩) rfl (by decide) (by decide) rfl hc ev ?_
        refine ev_k (pc' := 36) (ls' := [(0, .inr (.inr (some 73))), (1, .inl (x1)), (2, .inl (x2)), (3, .inl (x3))]) (st' := [.inl (v3), .inl (v2), .inr (.inr (some 73))]) (nc' := 126) (np' := 138) (M' := M) 0 rfl ?_
        obtain ⟨M4, hv, h⟩ := ob_i h
        refine ev_call (t := 251) (as := [.inr (.inr (some 73)), .inl (v2), .inl (v3)]) (rest := []) rfl rfl rfl (by omega) (R_works_e (by omega) (v2) (v3) M _ hv) ?_
        refine ev_k (pc' := 44) (ls' := [(0, .inr (.inr (some 73))), (1, .inl (x1)), (2, .inl (x2)), (3, .inl (x3))]) (st' := [.inl (0), .inr (.inr (some 91))]) (nc' := 126) (np' := 138) (M' := M4) 3 rfl ?_
        obtain ⟨hc, v5, ev, h⟩ := rd_i h
        refine ev_ald (k := 91) (t := 2) (Or.inr ⟨rfl, Or.inr rfl⟩) rfl (by decide) (by decide) rfl hc ev ?_
        refine ev_k (pc' := 45) (ls' := [(0, .inr (.inr (some 73))), (1, .inl (x1)), (2, .inl (x2)), (3, .inl (x3))]) (st' := [.inl (v5)]) (nc' := 126) (np' := 138) (M' := M4) 0 rfl ?_
        obtain ⟨hR, ⟨hc, h⟩ | ⟨hc, h⟩⟩ := c_ne_i h
        · refine ev_ifc 101 rfl hR.1 (by decide) (fun _ => ?_) (fun q => absurd hc q)
          exact R_tells_101_t hd   (R_tells_2    n) ih (x1) (x2) (x3) M4 r h
        · refine ev_ifc 101 rfl hR.1 (by decide) (fun q => absurd q hc) (fun _ => ?_)
          refine ev_k (pc' := 53) (ls' := [(0, .inr (.inr (some 73))), (1, .inl (x1)), (2, .inl (x2)), (3, .inl (x3))]) (st' := [.inl (0), .inr (.inr (some 90))]) (nc' := 126) (np' := 138) (M' := M4) 3 rfl ?_
          obtain ⟨hc, v6, ev, h⟩ := rd_i h
          refine ev_ald (k := 90) (t := 0) (Or.inl ⟨rfl, rfl⟩) rfl (by decide) (by decide) rfl hc ev ?_
          refine ev_k (pc' := 55) (ls' := [(0, .inr (.inr (some 73))), (1, .inl (x1)), (2, .inl (x2)), (3, .inl (x3))]) (st' := [.inl (1), .inl (v6)]) (nc' := 126) (np' := 138) (M' := M4) 1 rfl ?_
          obtain ⟨hR, ⟨hc, h⟩ | ⟨hc, h⟩⟩ := c_eq_i h
          · refine ev_icmp 61 rfl hR.1 hR.2 (by decide) (fun _ => ?_) (fun q => absurd hc q)
            refine ev_k (pc' := 67) (ls' := [(0, .inr (.inr (some 73))), (1, .inl (x1)), (2, .inl (x2)), (3, .inl (x3))]) (st' := [.inl (x3), .inr (.inr (some 78)), .inr (.inr (some 73))]) (nc' := 126) (np' := 138) (M' := M4) 4 rfl ?_
            obtain ⟨hc, v7, ev, h⟩ := rd_i h
            refine ev_ald (k := 78) (t := 0) (Or.inl ⟨rfl, rfl⟩) rfl (by decide) (by decide) rfl hc ev ?_
            refine ev_k (pc' := 73) (ls' := [(0, .inr (.inr (some 73))), (1, .inl (x1)), (2, .inl (x2)), (3, .inl (x3))]) (st' := [.inl (x3), .inr (.inr (some 79)), .inl (v7), .inr (.inr (some 73))]) (nc' := 126) (np' := 138) (M' := M4) 3 rfl ?_
            obtain ⟨hc, v8, ev, h⟩ := rd_i h
            refine ev_ald (k := 79) (t := 0) (Or.inl ⟨rfl, rfl⟩) rfl (by decide) (by decide) rfl hc ev ?_
            refine ev_k (pc' := 74) (ls' := [(0, .inr (.inr (some 73))), (1, .inl (x1)), (2, .inl (x2)), (3, .inl (x3))]) (st' := [.inl (v8), .inl (v7), .inr (.inr (some 73))]) (nc' := 126) (np' := 138) (M' := M4) 0 rfl ?_
            obtain ⟨M9, hv, h⟩ := ob_i h
            refine ev_call (t := 251) (as := [.inr (.inr (some 73)), .inl (v7), .inl (v8)]) (rest := []) rfl rfl rfl (by omega) (R_works_e (by omega) (v7) (v8) M4 _ hv) ?_
            refine ev_k (pc' := 82) (ls' := [(0, .inr (.inr (some 73))), (1, .inl (x1)), (2, .inl (x2)), (3, .inl (x3))]) (st' := [.inl (0), .inr (.inr (some 91))]) (nc' := 126) (np' := 138) (M' := M9) 3 rfl ?_
            obtain ⟨hc, v10, ev, h⟩ := rd_i h
            refine ev_ald (k := 91) (t := 2) (Or.inr ⟨rfl, Or.inr rfl⟩) rfl (by decide) (by decide) rfl hc ev ?_
            refine ev_k (pc' := 83) (ls' := [(0, .inr (.inr (some 73))), (1, .inl (x1)), (2, .inl (x2)), (3, .inl (x3))]) (st' := [.inl (v10)]) (nc' := 126) (np' := 138) (M' := M9) 0 rfl ?_
            obtain ⟨hR, ⟨hc, h⟩ | ⟨hc, h⟩⟩ := c_eq_i h
            · refine ev_ifc 90 rfl hR.1 (by decide) (fun _ => ?_) (fun q => absurd hc q)
              refine ev_k (pc' := 95) (ls' := [(0, .inr (.inr (some 73))), (1, .inl (x1)), (2, .inl (x2)), (3, .inl (x3))]) (st' := [.inl (0), .inr (.inr (some 90))]) (nc' := 126) (np' := 138) (M' := M9) 3 rfl ?_
              obtain ⟨hc, v11, ev, h⟩ := rd_i h
              refine ev_ald (k := 90) (t := 0) (Or.inl ⟨rfl, rfl⟩) rfl (by decide) (by decide) rfl hc ev ?_
              refine ev_k (pc' := 97) (ls' := [(0, .inr (.inr (some 73))), (1, .inl (x1)), (2, .inl (x2)), (3, .inl (x3))]) (st' := [.inl (x2), .inl (v11)]) (nc' := 126) (np' := 138) (M' := M9) 1 rfl ?_
              obtain ⟨v12, hv, h⟩ := ob_i h
              refine ev_call (t := 255) (as := [.inl (v11), .inl (x2)]) (rest := []) rfl rfl rfl (by omega) (R_held_e (by omega) (v11) (x2) M9 _ hv) ?_
              exact R_tells_100_t hd     (v12) M9 r h
            · refine ev_ifc 90 rfl hR.1 (by decide) (fun q => absurd q hc) (fun _ => ?_)
              refine ev_k (pc' := 100) (ls' := []) (st' := [.inl (0)]) (nc' := 126) (np' := 138) (M' := M9) 2 rfl ?_
              exact R_tells_100_t hd     (0) M9 r h
          · refine ev_icmp 61 rfl hR.1 hR.2 (by decide) (fun q => absurd q hc) (fun _ => ?_)
            refine ev_k (pc' := 101) (ls' := [(0, .inr (.inr (some 73))), (1, .inl (x1)), (2, .inl (x2)), (3, .inl (x3))]) (st' := []) (nc' := 126) (np' := 138) (M' := M4) 1 rfl ?_
            exact R_tells_101_t hd   (R_tells_2    n) ih (x1) (x2) (x3) M4 r h
      · refine ev_icmp 23 rfl hR.1 hR.2 (by decide) (fun q => absurd q hc) (fun _ => ?_)
        refine ev_k (pc' := 101) (ls' := [(0, .inr (.inr (some 73))), (1, .inl (x1)), (2, .inl (x2)), (3, .inl (x3))]) (st' := []) (nc' := 126) (np' := 138) (M' := M) 1 rfl ?_
        exact R_tells_101_t hd   (R_tells_2    n) ih (x1) (x2) (x3) M r h
theorem R_tells_e {L : Nat} {xs : Nat → Int} {d : Nat} (hd : 3 ≤ d)   (x1 : Int) (x2 : Int) (M : am_M) (r : Int × am_M) (h : R_tells   x1 x2 M = some r) : am_Ev L xs d me_250 0 (am_ar1 0 [.inr (.inr (some 73)), .inl (x1), .inl (x2)]) [] 126 138 M (some (.inl r.1), 126, 138, r.2) := by
  refine ev_k (pc' := 2) (ls' := [(0, .inr (.inr (some 73))), (1, .inl (x1)), (2, .inl (x2)), (3, .inl (0))]) (st' := []) (nc' := 126) (np' := 138) (M' := M) 2 rfl ?_
  exact R_tells_2_t hd     am_big (x1) (x2) (0) M r h
def R_resting    (x1 : Int) (x2 : Int) (M : am_M) : Option (Int × am_M) := rd M 92 6 (x1) fun v1 => ob (R_standsReady (0) (0) (v1) (x2) (0) (0) (M 73 45) M) fun M2 => oc (R_tells (101) (20) M2) fun v3 M4 => some (v3, M4)
theorem R_resting_e {L : Nat} {xs : Nat → Int} {d : Nat} (hd : 4 ≤ d)   (x1 : Int) (x2 : Int) (M : am_M) (r : Int × am_M) (h : R_resting   x1 x2 M = some r) : am_Ev L xs d me_261 0 (am_ar1 0 [.inr (.inr (some 73)), .inl (x1), .inl (x2)]) [] 126 138 M (some (.inl r.1), 126, 138, r.2) := by
  refine ev_k (pc' := 8) (ls' := [(0, .inr (.inr (some 73))), (1, .inl (x1)), (2, .inl (x2))]) (st' := [.inl (x1), .inr (.inr (some 92)), .inl (0), .inl (0), .inr (.inr (some 73))]) (nc' := 126) (np' := 138) (M' := M) 6 rfl ?_
  obtain ⟨hc, v1, ev, h⟩ := rd_i h
  refine ev_ald (k := 92) (t := 0) (Or.inl ⟨rfl, rfl⟩) rfl (by decide) (by decide) rfl hc ev ?_
  refine ev_k (pc' := 16) (ls' := [(0, .inr (.inr (some 73))), (1, .inl (x1)), (2, .inl (x2))]) (st' := [.inl (M 73 45), .inl (0), .inl (0), .inl (x2), .inl (v1), .inl (0), .inl (0), .inr (.inr (some 73))]) (nc' := 126) (np' := 138) (M' := M) 5 rfl ?_
  obtain ⟨M2, hv, h⟩ := ob_i h
  refine ev_call (t := 249) (as := [.inr (.inr (some 73)), .inl (0), .inl (0), .inl (v1), .inl (x2), .inl (0), .inl (0), .inl (M 73 45)]) (rest := []) rfl rfl rfl (by omega) (R_standsReady_e (by omega) (0) (0) (v1) (x2) (0) (0) (M 73 45) M _ hv) ?_
  refine ev_k (pc' := 24) (ls' := [(0, .inr (.inr (some 73))), (1, .inl (x1)), (2, .inl (x2))]) (st' := [.inl (20), .inl (101), .inr (.inr (some 73))]) (nc' := 126) (np' := 138) (M' := M2) 3 rfl ?_
  obtain ⟨v3, M4, hv, h⟩ := oc_i h
  refine ev_call (t := 250) (as := [.inr (.inr (some 73)), .inl (101), .inl (20)]) (rest := []) rfl rfl rfl (by omega) (R_tells_e (by omega) (101) (20) M2 _ hv) ?_
  refine ev_k (pc' := 27) (ls' := [(0, .inr (.inr (some 73))), (1, .inl (x1)), (2, .inl (x2))]) (st' := [.inl (v3)]) (nc' := 126) (np' := 138) (M' := M4) 0 rfl ?_
  cases h
  exact ev_ret rfl
def R_rests_56   (k12 : Int → am_M → Option (am_M)) (x1 : Int) (M : am_M) : Option (am_M) := (k12 ((x1) + (1)) M)
def R_rests_12    : Nat → Int → am_M → Option (am_M)
  | 0, _, _ => none
  | n + 1, x1, M => c_ge (x1) (6)
       (some (M))
       (rd M 94 6 (x1) fun v1 => c_eq (v1) (0)
       (R_rests_56   (R_rests_12    n) (x1) M)
       (rd M 93 6 (x1) fun v2 => rd M 93 6 (x1) fun v3 => oc (R_resting (x1) (v3) M) fun v4 M5 => ob (R_held ((v2) - (v4)) (99) M5) fun v6 => wa M5 93 6 (x1) (v6) fun M7 => (R_rests_56   (R_rests_12    n) (x1) M7)))
def R_rests     (M : am_M) : Option (am_M) := oc (R_passes (10) M) fun v1 M2 => c_ne (v1) (0)
       ((R_rests_12    am_big (0) M2))
       (some (M2))
theorem R_rests_56_t {L : Nat} {xs : Nat → Int} {d : Nat} (hd : 5 ≤ d)   (k12 : Int → am_M → Option (am_M)) (hk12 : ∀ (x1 : Int) (M : am_M) (r : am_M), k12 x1 M = some r → am_Ev L xs d me_260 12 [(0, .inr (.inr (some 73))), (1, .inl (x1))] [] 126 138 M (none, 126, 138, r)) (x1 : Int) (M : am_M) (r : am_M) (h : R_rests_56   k12 x1 M = some r) : am_Ev L xs d me_260 56 [(0, .inr (.inr (some 73))), (1, .inl (x1))] [] 126 138 M (none, 126, 138, r) := by
  refine ev_k (pc' := 12) (ls' := [(0, .inr (.inr (some 73))), (1, .inl ((x1) + (1)))]) (st' := []) (nc' := 126) (np' := 138) (M' := M) 2 rfl ?_
  exact hk12 ((x1) + (1)) M r h
theorem R_rests_12_t {L : Nat} {xs : Nat → Int} {d : Nat} (hd : 5 ≤ d)     : ∀ (n : Nat) (x1 : Int) (M : am_M) (r : am_M), R_rests_12    n x1 M = some r → am_Ev L xs d me_260 12 [(0, .inr (.inr (some 73))), (1, .inl (x1))] [] 126 138 M (none, 126, 138, r)
  | 0, _, M, r, h => by cases h
  | n + 1, x1, M, r, h => by
    have ih := R_rests_12_t (L := L) (xs := xs) hd     n
    refine ev_k (pc' := 15) (ls' := [(0, .inr (.inr (some 73))), (1, .inl (x1))]) (st' := [.inl (6), .inl (x1)]) (nc' := 126) (np' := 138) (M' := M) 2 rfl ?_
    obtain ⟨hR, ⟨hc, h⟩ | ⟨hc, h⟩⟩ := c_ge_i h
    · refine ev_icmp 62 rfl hR.1 hR.2 (by decide) (fun _ => ?_) (fun q => absurd hc q)
      refine ev_k (pc' := 62) (ls' := [(0, .inr (.inr (some 73))), (1, .inl (x1))]) (st' := []) (nc' := 126) (np' := 138) (M' := M) 0 rfl ?_
      cases h
      exact ev_ret rfl
    · refine ev_icmp 62 rfl hR.1 hR.2 (by decide) (fun q => absurd q hc) (fun _ => ?_)
      refine ev_k (pc' := 23) (ls' := [(0, .inr (.inr (some 73))), (1, .inl (x1))]) (st' := [.inl (x1), .inr (.inr (some 94))]) (nc' := 126) (np' := 138) (M' := M) 3 rfl ?_
      obtain ⟨hc, v1, ev, h⟩ := rd_i h
      refine ev_ald (k := 94) (t := 2) (Or.inr ⟨rfl, Or.inr rfl⟩) rfl (by decide) (by decide) rfl hc ev ?_
      refine ev_k (pc' := 24) (ls' := [(0, .inr (.inr (some 73))), (1, .inl (x1))]) (st' := [.inl (v1)]) (nc' := 126) (np' := 138) (M' := M) 0 rfl ?_
      obtain ⟨hR, ⟨hc, h⟩ | ⟨hc, h⟩⟩ := c_eq_i h
      · refine ev_ifc 56 rfl hR.1 (by decide) (fun _ => ?_) (fun q => absurd hc q)
        exact R_rests_56_t hd   (R_rests_12    n) ih (x1) M r h
      · refine ev_ifc 56 rfl hR.1 (by decide) (fun q => absurd q hc) (fun _ => ?_)
        refine ev_k (pc' := 37) (ls' := [(0, .inr (.inr (some 73))), (1, .inl (x1))]) (st' := [.inl (x1), .inr (.inr (some 93)), .inl (x1), .inr (.inr (some 93))]) (nc' := 126) (np' := 138) (M' := M) 6 rfl ?_
        obtain ⟨hc, v2, ev, h⟩ := rd_i h
        refine ev_ald (k := 93) (t := 0) (Or.inl ⟨rfl, rfl⟩) rfl (by decide) (by decide) rfl hc ev ?_
        refine ev_k (pc' := 45) (ls' := [(0, .inr (.inr (some 73))), (1, .inl (x1))]) (st' := [.inl (x1), .inr (.inr (some 93)), .inl (x1), .inr (.inr (some 73)), .inl (v2), .inl (x1), .inr (.inr (some 93))]) (nc' := 126) (np' := 138) (M' := M) 5 rfl ?_
        obtain ⟨hc, v3, ev, h⟩ := rd_i h
        refine ev_ald (k := 93) (t := 0) (Or.inl ⟨rfl, rfl⟩) rfl (by decide) (by decide) rfl hc ev ?_
        refine ev_k (pc' := 46) (ls' := [(0, .inr (.inr (some 73))), (1, .inl (x1))]) (st' := [.inl (v3), .inl (x1), .inr (.inr (some 73)), .inl (v2), .inl (x1), .inr (.inr (some 93))]) (nc' := 126) (np' := 138) (M' := M) 0 rfl ?_
        obtain ⟨v4, M5, hv, h⟩ := oc_i h
        refine ev_call (t := 261) (as := [.inr (.inr (some 73)), .inl (x1), .inl (v3)]) (rest := [.inl (v2), .inl (x1), .inr (.inr (some 93))]) rfl rfl rfl (by omega) (R_resting_e (by omega) (x1) (v3) M _ hv) ?_
        refine ev_k (pc' := 52) (ls' := [(0, .inr (.inr (some 73))), (1, .inl (x1))]) (st' := [.inl (99), .inl ((v2) - (v4)), .inl (x1), .inr (.inr (some 93))]) (nc' := 126) (np' := 138) (M' := M5) 2 rfl ?_
        obtain ⟨v6, hv, h⟩ := ob_i h
        refine ev_call (t := 255) (as := [.inl ((v2) - (v4)), .inl (99)]) (rest := [.inl (x1), .inr (.inr (some 93))]) rfl rfl rfl (by omega) (R_held_e (by omega) ((v2) - (v4)) (99) M5 _ hv) ?_
        refine ev_k (pc' := 55) (ls' := [(0, .inr (.inr (some 73))), (1, .inl (x1))]) (st' := [.inl (v6), .inl (x1), .inr (.inr (some 93))]) (nc' := 126) (np' := 138) (M' := M5) 0 rfl ?_
        obtain ⟨hc, M7, eM, h⟩ := wa_i h
        refine ev_iast (k := 93) rfl (by decide) rfl hc eM ?_
        exact R_rests_56_t hd   (R_rests_12    n) ih (x1) M7 r h
theorem R_rests_e {L : Nat} {xs : Nat → Int} {d : Nat} (hd : 5 ≤ d)    (M : am_M) (r : am_M) (h : R_rests    M = some r) : am_Ev L xs d me_260 0 (am_ar1 0 [.inr (.inr (some 73))]) [] 126 138 M (none, 126, 138, r) := by
  refine ev_k (pc' := 3) (ls' := [(0, .inr (.inr (some 73)))]) (st' := [.inl (10), .inr (.inr (some 73))]) (nc' := 126) (np' := 138) (M' := M) 2 rfl ?_
  obtain ⟨v1, M2, hv, h⟩ := oc_i h
  refine ev_call (t := 256) (as := [.inr (.inr (some 73)), .inl (10)]) (rest := []) rfl rfl rfl (by omega) (R_passes_e (by omega) (10) M _ hv) ?_
  refine ev_k (pc' := 6) (ls' := [(0, .inr (.inr (some 73)))]) (st' := [.inl (v1)]) (nc' := 126) (np' := 138) (M' := M2) 0 rfl ?_
  obtain ⟨hR, ⟨hc, h⟩ | ⟨hc, h⟩⟩ := c_ne_i h
  · refine ev_ifc 10 rfl hR.1 (by decide) (fun _ => ?_) (fun q => absurd hc q)
    refine ev_k (pc' := 12) (ls' := [(0, .inr (.inr (some 73))), (1, .inl (0))]) (st' := []) (nc' := 126) (np' := 138) (M' := M2) 2 rfl ?_
    exact R_rests_12_t hd     am_big (0) M2 r h
  · refine ev_ifc 10 rfl hR.1 (by decide) (fun q => absurd q hc) (fun _ => ?_)
    refine ev_k (pc' := 9) (ls' := [(0, .inr (.inr (some 73)))]) (st' := []) (nc' := 126) (np' := 138) (M' := M2) 0 rfl ?_
    cases h
    exact ev_ret rfl
def R_marks_35     (M : am_M) : Option (am_M) := some (M)
def R_marks    (x1 : Int) (M : am_M) : Option (am_M) := rd M 98 100 (M 73 47) fun v1 => c_ne (b_and (v1) (x1)) (0)
       (R_marks_35     M)
       (oc (R_passes (2) M) fun v2 M3 => c_eq (v2) (0)
       (R_marks_35     M3)
       (rd M3 98 100 (M3 73 47) fun v4 => wa M3 98 100 (M3 73 47) (b_or (v4) (x1)) fun M5 => (R_marks_35     M5)))
theorem R_marks_35_t {L : Nat} {xs : Nat → Int} {d : Nat} (hd : 1 ≤ d)      (M : am_M) (r : am_M) (h : R_marks_35     M = some r) : am_Ev L xs d me_263 35 [] [] 126 138 M (none, 126, 138, r) := by
  refine ev_k (pc' := 35) (ls' := []) (st' := []) (nc' := 126) (np' := 138) (M' := M) 0 rfl ?_
  cases h
  exact ev_ret rfl
theorem R_marks_e {L : Nat} {xs : Nat → Int} {d : Nat} (hd : 1 ≤ d)   (x1 : Int) (M : am_M) (r : am_M) (h : R_marks   x1 M = some r) : am_Ev L xs d me_263 0 (am_ar1 0 [.inr (.inr (some 73)), .inl (x1)]) [] 126 138 M (none, 126, 138, r) := by
  refine ev_k (pc' := 8) (ls' := [(0, .inr (.inr (some 73))), (1, .inl (x1))]) (st' := [.inl (M 73 47), .inr (.inr (some 98))]) (nc' := 126) (np' := 138) (M' := M) 4 rfl ?_
  obtain ⟨hc, v1, ev, h⟩ := rd_i h
  refine ev_ald (k := 98) (t := 0) (Or.inl ⟨rfl, rfl⟩) rfl (by decide) (by decide) rfl hc ev ?_
  refine ev_k (pc' := 11) (ls' := [(0, .inr (.inr (some 73))), (1, .inl (x1))]) (st' := [.inl (b_and (v1) (x1))]) (nc' := 126) (np' := 138) (M' := M) 2 rfl ?_
  obtain ⟨hR, ⟨hc, h⟩ | ⟨hc, h⟩⟩ := c_ne_i h
  · refine ev_ifc 35 rfl hR.1 (by decide) (fun _ => ?_) (fun q => absurd hc q)
    exact R_marks_35_t hd      M r h
  · refine ev_ifc 35 rfl hR.1 (by decide) (fun q => absurd q hc) (fun _ => ?_)
    refine ev_k (pc' := 16) (ls' := [(0, .inr (.inr (some 73))), (1, .inl (x1))]) (st' := [.inl (2), .inr (.inr (some 73))]) (nc' := 126) (np' := 138) (M' := M) 2 rfl ?_
    obtain ⟨v2, M3, hv, h⟩ := oc_i h
    refine ev_call (t := 256) (as := [.inr (.inr (some 73)), .inl (2)]) (rest := []) rfl rfl rfl (by omega) (R_passes_e (by omega) (2) M _ hv) ?_
    refine ev_k (pc' := 19) (ls' := [(0, .inr (.inr (some 73))), (1, .inl (x1))]) (st' := [.inl (v2)]) (nc' := 126) (np' := 138) (M' := M3) 0 rfl ?_
    obtain ⟨hR, ⟨hc, h⟩ | ⟨hc, h⟩⟩ := c_eq_i h
    · refine ev_ifc 35 rfl hR.1 (by decide) (fun _ => ?_) (fun q => absurd hc q)
      exact R_marks_35_t hd      M3 r h
    · refine ev_ifc 35 rfl hR.1 (by decide) (fun q => absurd q hc) (fun _ => ?_)
      refine ev_k (pc' := 31) (ls' := [(0, .inr (.inr (some 73))), (1, .inl (x1))]) (st' := [.inl (M3 73 47), .inr (.inr (some 98)), .inl (M3 73 47), .inr (.inr (some 98))]) (nc' := 126) (np' := 138) (M' := M3) 5 rfl ?_
      obtain ⟨hc, v4, ev, h⟩ := rd_i h
      refine ev_ald (k := 98) (t := 0) (Or.inl ⟨rfl, rfl⟩) rfl (by decide) (by decide) rfl hc ev ?_
      refine ev_k (pc' := 34) (ls' := [(0, .inr (.inr (some 73))), (1, .inl (x1))]) (st' := [.inl (b_or (v4) (x1)), .inl (M3 73 47), .inr (.inr (some 98))]) (nc' := 126) (np' := 138) (M' := M3) 2 rfl ?_
      obtain ⟨hc, M5, eM, h⟩ := wa_i h
      refine ev_iast (k := 98) rfl (by decide) rfl hc eM ?_
      exact R_marks_35_t hd      M5 r h
def R_cutting    (x1 : Int) (x2 : Int) (M : am_M) : Option (Int × am_M) := rd M 92 6 (M 73 41) fun v1 => rd M 93 6 (M 73 41) fun v2 => ob (R_standsReady (x1) (x2) (v1) (v2) (0) (0) (M 73 45) M) fun M3 => oc (R_tells (99) (240) M3) fun v4 M5 => some (v4, M5)
theorem R_cutting_e {L : Nat} {xs : Nat → Int} {d : Nat} (hd : 4 ≤ d)   (x1 : Int) (x2 : Int) (M : am_M) (r : Int × am_M) (h : R_cutting   x1 x2 M = some r) : am_Ev L xs d me_258 0 (am_ar1 0 [.inr (.inr (some 73)), .inl (x1), .inl (x2)]) [] 126 138 M (some (.inl r.1), 126, 138, r.2) := by
  refine ev_k (pc' := 11) (ls' := [(0, .inr (.inr (some 73))), (1, .inl (x1)), (2, .inl (x2))]) (st' := [.inl (M 73 41), .inr (.inr (some 92)), .inl (x2), .inl (x1), .inr (.inr (some 73))]) (nc' := 126) (np' := 138) (M' := M) 7 rfl ?_
  obtain ⟨hc, v1, ev, h⟩ := rd_i h
  refine ev_ald (k := 92) (t := 0) (Or.inl ⟨rfl, rfl⟩) rfl (by decide) (by decide) rfl hc ev ?_
  refine ev_k (pc' := 20) (ls' := [(0, .inr (.inr (some 73))), (1, .inl (x1)), (2, .inl (x2))]) (st' := [.inl (M 73 41), .inr (.inr (some 93)), .inl (v1), .inl (x2), .inl (x1), .inr (.inr (some 73))]) (nc' := 126) (np' := 138) (M' := M) 4 rfl ?_
  obtain ⟨hc, v2, ev, h⟩ := rd_i h
  refine ev_ald (k := 93) (t := 0) (Or.inl ⟨rfl, rfl⟩) rfl (by decide) (by decide) rfl hc ev ?_
  refine ev_k (pc' := 27) (ls' := [(0, .inr (.inr (some 73))), (1, .inl (x1)), (2, .inl (x2))]) (st' := [.inl (M 73 45), .inl (0), .inl (0), .inl (v2), .inl (v1), .inl (x2), .inl (x1), .inr (.inr (some 73))]) (nc' := 126) (np' := 138) (M' := M) 4 rfl ?_
  obtain ⟨M3, hv, h⟩ := ob_i h
  refine ev_call (t := 249) (as := [.inr (.inr (some 73)), .inl (x1), .inl (x2), .inl (v1), .inl (v2), .inl (0), .inl (0), .inl (M 73 45)]) (rest := []) rfl rfl rfl (by omega) (R_standsReady_e (by omega) (x1) (x2) (v1) (v2) (0) (0) (M 73 45) M _ hv) ?_
  refine ev_k (pc' := 36) (ls' := [(0, .inr (.inr (some 73))), (1, .inl (x1)), (2, .inl (x2))]) (st' := [.inl (240), .inl (99), .inr (.inr (some 73))]) (nc' := 126) (np' := 138) (M' := M3) 3 rfl ?_
  obtain ⟨v4, M5, hv, h⟩ := oc_i h
  refine ev_call (t := 250) (as := [.inr (.inr (some 73)), .inl (99), .inl (240)]) (rest := []) rfl rfl rfl (by omega) (R_tells_e (by omega) (99) (240) M3 _ hv) ?_
  refine ev_k (pc' := 39) (ls' := [(0, .inr (.inr (some 73))), (1, .inl (x1)), (2, .inl (x2))]) (st' := [.inl (v4)]) (nc' := 126) (np' := 138) (M' := M5) 0 rfl ?_
  cases h
  exact ev_ret rfl
def R_tiring    (x1 : Int) (x2 : Int) (x3 : Int) (M : am_M) : Option (Int × am_M) := rd M 92 6 (x2) fun v1 => ob (R_standsReady (x1) (0) (v1) (x3) (0) (0) (M 73 45) M) fun M2 => oc (R_tells (110) (20) M2) fun v3 M4 => some (v3, M4)
theorem R_tiring_e {L : Nat} {xs : Nat → Int} {d : Nat} (hd : 4 ≤ d)   (x1 : Int) (x2 : Int) (x3 : Int) (M : am_M) (r : Int × am_M) (h : R_tiring   x1 x2 x3 M = some r) : am_Ev L xs d me_259 0 (am_ar1 0 [.inr (.inr (some 73)), .inl (x1), .inl (x2), .inl (x3)]) [] 126 138 M (some (.inl r.1), 126, 138, r.2) := by
  refine ev_k (pc' := 8) (ls' := [(0, .inr (.inr (some 73))), (1, .inl (x1)), (2, .inl (x2)), (3, .inl (x3))]) (st' := [.inl (x2), .inr (.inr (some 92)), .inl (0), .inl (x1), .inr (.inr (some 73))]) (nc' := 126) (np' := 138) (M' := M) 6 rfl ?_
  obtain ⟨hc, v1, ev, h⟩ := rd_i h
  refine ev_ald (k := 92) (t := 0) (Or.inl ⟨rfl, rfl⟩) rfl (by decide) (by decide) rfl hc ev ?_
  refine ev_k (pc' := 16) (ls' := [(0, .inr (.inr (some 73))), (1, .inl (x1)), (2, .inl (x2)), (3, .inl (x3))]) (st' := [.inl (M 73 45), .inl (0), .inl (0), .inl (x3), .inl (v1), .inl (0), .inl (x1), .inr (.inr (some 73))]) (nc' := 126) (np' := 138) (M' := M) 5 rfl ?_
  obtain ⟨M2, hv, h⟩ := ob_i h
  refine ev_call (t := 249) (as := [.inr (.inr (some 73)), .inl (x1), .inl (0), .inl (v1), .inl (x3), .inl (0), .inl (0), .inl (M 73 45)]) (rest := []) rfl rfl rfl (by omega) (R_standsReady_e (by omega) (x1) (0) (v1) (x3) (0) (0) (M 73 45) M _ hv) ?_
  refine ev_k (pc' := 24) (ls' := [(0, .inr (.inr (some 73))), (1, .inl (x1)), (2, .inl (x2)), (3, .inl (x3))]) (st' := [.inl (20), .inl (110), .inr (.inr (some 73))]) (nc' := 126) (np' := 138) (M' := M2) 3 rfl ?_
  obtain ⟨v3, M4, hv, h⟩ := oc_i h
  refine ev_call (t := 250) (as := [.inr (.inr (some 73)), .inl (110), .inl (20)]) (rest := []) rfl rfl rfl (by omega) (R_tells_e (by omega) (110) (20) M2 _ hv) ?_
  refine ev_k (pc' := 27) (ls' := [(0, .inr (.inr (some 73))), (1, .inl (x1)), (2, .inl (x2)), (3, .inl (x3))]) (st' := [.inl (v3)]) (nc' := 126) (np' := 138) (M' := M4) 0 rfl ?_
  cases h
  exact ev_ret rfl
def R_cuts    (x1 : Int) (M : am_M) : Option (am_M) := rd M 75 144 (x1) fun v1 => oc (R_cutting (v1) (M 73 42) M) fun v2 M3 => rd M3 75 144 (x1) fun v4 => rd M3 93 6 (M3 73 41) fun v5 => oc (R_tiring (v4) (M3 73 41) (v5) M3) fun v6 M7 => oc (R_passes (v2) M7) fun v8 M9 => c_ne (v8) (0)
       (rd M9 93 6 (M9 73 41) fun v10 => ob (R_held ((v10) + (v6)) (99) M9) fun v11 => wa M9 93 6 (M9 73 41) (v11) fun M12 => ob (R_comesBehind (x1) M12) fun M13 => fw M13 73 47 ((M13 73 47) + (1)) fun M14 => fw M14 73 74 ((M14 73 74) + (1)) fun M15 => some (M15))
       (some (M9))
theorem R_cuts_e {L : Nat} {xs : Nat → Int} {d : Nat} (hd : 5 ≤ d)   (x1 : Int) (M : am_M) (r : am_M) (h : R_cuts   x1 M = some r) : am_Ev L xs d me_257 0 (am_ar1 0 [.inr (.inr (some 73)), .inl (x1)]) [] 126 138 M (none, 126, 138, r) := by
  refine ev_k (pc' := 6) (ls' := [(0, .inr (.inr (some 73))), (1, .inl (x1))]) (st' := [.inl (x1), .inr (.inr (some 75)), .inr (.inr (some 73))]) (nc' := 126) (np' := 138) (M' := M) 4 rfl ?_
  obtain ⟨hc, v1, ev, h⟩ := rd_i h
  refine ev_ald (k := 75) (t := 0) (Or.inl ⟨rfl, rfl⟩) rfl (by decide) (by decide) rfl hc ev ?_
  refine ev_k (pc' := 11) (ls' := [(0, .inr (.inr (some 73))), (1, .inl (x1))]) (st' := [.inl (M 73 42), .inl (v1), .inr (.inr (some 73))]) (nc' := 126) (np' := 138) (M' := M) 2 rfl ?_
  obtain ⟨v2, M3, hv, h⟩ := oc_i h
  refine ev_call (t := 258) (as := [.inr (.inr (some 73)), .inl (v1), .inl (M 73 42)]) (rest := []) rfl rfl rfl (by omega) (R_cutting_e (by omega) (v1) (M 73 42) M _ hv) ?_
  refine ev_k (pc' := 21) (ls' := [(2, .inl (v2)), (0, .inr (.inr (some 73))), (1, .inl (x1))]) (st' := [.inl (x1), .inr (.inr (some 75)), .inr (.inr (some 73))]) (nc' := 126) (np' := 138) (M' := M3) 5 rfl ?_
  obtain ⟨hc, v4, ev, h⟩ := rd_i h
  refine ev_ald (k := 75) (t := 0) (Or.inl ⟨rfl, rfl⟩) rfl (by decide) (by decide) rfl hc ev ?_
  refine ev_k (pc' := 34) (ls' := [(2, .inl (v2)), (0, .inr (.inr (some 73))), (1, .inl (x1))]) (st' := [.inl (M3 73 41), .inr (.inr (some 93)), .inl (M3 73 41), .inl (v4), .inr (.inr (some 73))]) (nc' := 126) (np' := 138) (M' := M3) 6 rfl ?_
  obtain ⟨hc, v5, ev, h⟩ := rd_i h
  refine ev_ald (k := 93) (t := 0) (Or.inl ⟨rfl, rfl⟩) rfl (by decide) (by decide) rfl hc ev ?_
  refine ev_k (pc' := 35) (ls' := [(2, .inl (v2)), (0, .inr (.inr (some 73))), (1, .inl (x1))]) (st' := [.inl (v5), .inl (M3 73 41), .inl (v4), .inr (.inr (some 73))]) (nc' := 126) (np' := 138) (M' := M3) 0 rfl ?_
  obtain ⟨v6, M7, hv, h⟩ := oc_i h
  refine ev_call (t := 259) (as := [.inr (.inr (some 73)), .inl (v4), .inl (M3 73 41), .inl (v5)]) (rest := []) rfl rfl rfl (by omega) (R_tiring_e (by omega) (v4) (M3 73 41) (v5) M3 _ hv) ?_
  refine ev_k (pc' := 41) (ls' := [(3, .inl (v6)), (2, .inl (v2)), (0, .inr (.inr (some 73))), (1, .inl (x1))]) (st' := [.inl (v2), .inr (.inr (some 73))]) (nc' := 126) (np' := 138) (M' := M7) 3 rfl ?_
  obtain ⟨v8, M9, hv, h⟩ := oc_i h
  refine ev_call (t := 256) (as := [.inr (.inr (some 73)), .inl (v2)]) (rest := []) rfl rfl rfl (by omega) (R_passes_e (by omega) (v2) M7 _ hv) ?_
  refine ev_k (pc' := 44) (ls' := [(3, .inl (v6)), (2, .inl (v2)), (0, .inr (.inr (some 73))), (1, .inl (x1))]) (st' := [.inl (v8)]) (nc' := 126) (np' := 138) (M' := M9) 0 rfl ?_
  obtain ⟨hR, ⟨hc, h⟩ | ⟨hc, h⟩⟩ := c_ne_i h
  · refine ev_ifc 48 rfl hR.1 (by decide) (fun _ => ?_) (fun q => absurd hc q)
    refine ev_k (pc' := 64) (ls' := [(3, .inl (v6)), (2, .inl (v2)), (0, .inr (.inr (some 73))), (1, .inl (x1))]) (st' := [.inl (M9 73 41), .inr (.inr (some 93)), .inl (M9 73 41), .inr (.inr (some 93))]) (nc' := 126) (np' := 138) (M' := M9) 8 rfl ?_
    obtain ⟨hc, v10, ev, h⟩ := rd_i h
    refine ev_ald (k := 93) (t := 0) (Or.inl ⟨rfl, rfl⟩) rfl (by decide) (by decide) rfl hc ev ?_
    refine ev_k (pc' := 69) (ls' := [(3, .inl (v6)), (2, .inl (v2)), (0, .inr (.inr (some 73))), (1, .inl (x1))]) (st' := [.inl (99), .inl ((v10) + (v6)), .inl (M9 73 41), .inr (.inr (some 93))]) (nc' := 126) (np' := 138) (M' := M9) 3 rfl ?_
    obtain ⟨v11, hv, h⟩ := ob_i h
    refine ev_call (t := 255) (as := [.inl ((v10) + (v6)), .inl (99)]) (rest := [.inl (M9 73 41), .inr (.inr (some 93))]) rfl rfl rfl (by omega) (R_held_e (by omega) ((v10) + (v6)) (99) M9 _ hv) ?_
    refine ev_k (pc' := 72) (ls' := [(3, .inl (v6)), (2, .inl (v2)), (0, .inr (.inr (some 73))), (1, .inl (x1))]) (st' := [.inl (v11), .inl (M9 73 41), .inr (.inr (some 93))]) (nc' := 126) (np' := 138) (M' := M9) 0 rfl ?_
    obtain ⟨hc, M12, eM, h⟩ := wa_i h
    refine ev_iast (k := 93) rfl (by decide) rfl hc eM ?_
    refine ev_k (pc' := 75) (ls' := [(3, .inl (v6)), (2, .inl (v2)), (0, .inr (.inr (some 73))), (1, .inl (x1))]) (st' := [.inl (x1), .inr (.inr (some 73))]) (nc' := 126) (np' := 138) (M' := M12) 2 rfl ?_
    obtain ⟨M13, hv, h⟩ := ob_i h
    refine ev_call (t := 189) (as := [.inr (.inr (some 73)), .inl (x1)]) (rest := []) rfl rfl rfl (by omega) (R_comesBehind_e (by omega) (x1) M12 _ hv) ?_
    refine ev_k (pc' := 88) (ls' := [(3, .inl (v6)), (2, .inl (v2)), (0, .inr (.inr (some 73))), (1, .inl (x1))]) (st' := []) (nc' := 126) (np' := 138) (M' := am_up M13 73 47 ((M13 73 47) + (1))) 6 rfl ?_
    obtain ⟨M14, eM, h⟩ := fw_i h
    rw [← eM]
    refine ev_k (pc' := 98) (ls' := [(3, .inl (v6)), (2, .inl (v2)), (0, .inr (.inr (some 73))), (1, .inl (x1))]) (st' := []) (nc' := 126) (np' := 138) (M' := am_up M14 73 74 ((M14 73 74) + (1))) 6 rfl ?_
    obtain ⟨M15, eM, h⟩ := fw_i h
    rw [← eM]
    refine ev_k (pc' := 98) (ls' := [(3, .inl (v6)), (2, .inl (v2)), (0, .inr (.inr (some 73))), (1, .inl (x1))]) (st' := []) (nc' := 126) (np' := 138) (M' := M15) 0 rfl ?_
    cases h
    exact ev_ret rfl
  · refine ev_ifc 48 rfl hR.1 (by decide) (fun q => absurd q hc) (fun _ => ?_)
    refine ev_k (pc' := 47) (ls' := [(3, .inl (v6)), (2, .inl (v2)), (0, .inr (.inr (some 73))), (1, .inl (x1))]) (st' := []) (nc' := 126) (np' := 138) (M' := M9) 0 rfl ?_
    cases h
    exact ev_ret rfl
