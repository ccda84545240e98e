def Routes_findSoonest_52_26_9    : Nat → Int → Int → Int → Int → Int → am_M → Option (Int × am_M)
  | 0, _, _, _, _, _, _ => none
  | n + 1, x2, x3, x4, x5, x6, M => c_ge (x6) (7)
       (ob (Routes_measureTo_52 (x3) M) fun M1 => ob (Routes_reachOf_52 (x2) M1) fun v2 => c_ne (v2) (1000000000)
       (ck (am_R (x4)) ((if (x4) = (0) then
       (ck (am_R (v2) ∧ am_R (256) ∧ ((256) : Int) ≠ 0) (tw (Int.tdiv (v2) (256)) fun v3 => some (v3, M1))) else
       (if (x4) = (1) then
       (ck (am_R (v2) ∧ am_R (256) ∧ ((256) : Int) ≠ 0) (tw (Int.tmod (v2) (256)) fun v4 => some (v4, M1))) else
       (ob (Routes_firstStep_52 (x2) (v2) M1) fun v5 => some (v5, M1))))))
       (some (-2, M1)))
       (ob (Country_armOf_1 (x5) M) fun v6 => ob (Trip_tiredOf_26 (x5) M) fun v7 => oc (Law_cutting_5 (x6) (M 1 3) (v6) (v7) (M 26 13) M) fun v8 M9 => wa M9 56 7 (x6) (((256) * (v8)) + (1)) fun M10 => (Routes_findSoonest_52_26_9    n (x2) (x3) (x4) (x5) ((x6) + (1)) M10))
def Routes_findSoonest_52_26    (x2 : Int) (x3 : Int) (x4 : Int) (M : am_M) : Option (Int × am_M) := (Routes_findSoonest_52_26_9    am_big (x2) (x3) (x4) (M 26 9) (0) M)
theorem Routes_findSoonest_52_26_9_t {L : Nat} {xs : Nat → Int} {d : Nat} (hd : 5 ≤ d)     : ∀ (n : Nat) (x2 : Int) (x3 : Int) (x4 : Int) (x5 : Int) (x6 : Int) (M : am_M) (r : Int × am_M), Routes_findSoonest_52_26_9    n x2 x3 x4 x5 x6 M = some r → am_Ev L xs d me_135 9 [(0, .inr (.inr (some 52))), (1, .inr (.inr (some 26))), (2, .inl (x2)), (3, .inl (x3)), (4, .inl (x4)), (5, .inl (x5)), (6, .inl (x6))] [] 126 138 M (some (.inl r.1), 126, 138, r.2)
  | 0, _, _, _, _, _, M, r, h => by cases h
  | n + 1, x2, x3, x4, x5, x6, M, r, h => by
    have ih := Routes_findSoonest_52_26_9_t (L := L) (xs := xs) hd     n
    refine ev_k (pc' := 13) (ls' := [(0, .inr (.inr (some 52))), (1, .inr (.inr (some 26))), (2, .inl (x2)), (3, .inl (x3)), (4, .inl (x4)), (5, .inl (x5)), (6, .inl (x6))]) (st' := [.inl (7), .inl (x6)]) (nc' := 126) (np' := 138) (M' := M) 2 rfl ?_
    obtain ⟨hR, ⟨hc, h⟩ | ⟨hc, h⟩⟩ := c_ge_i h
    · refine ev_icmp 74 rfl hR.1 hR.2 (by decide) (fun _ => ?_) (fun q => absurd hc q)
      refine ev_k (pc' := 76) (ls' := [(0, .inr (.inr (some 52))), (1, .inr (.inr (some 26))), (2, .inl (x2)), (3, .inl (x3)), (4, .inl (x4)), (5, .inl (x5)), (6, .inl (x6))]) (st' := [.inl (x3), .inr (.inr (some 52))]) (nc' := 126) (np' := 138) (M' := M) 2 rfl ?_
      obtain ⟨M1, hv, h⟩ := ob_i h
      refine ev_call (t := 136) (as := [.inr (.inr (some 52)), .inl (x3)]) (rest := []) rfl rfl rfl (by omega) (Routes_measureTo_52_e (by omega) (x3) M _ hv) ?_
      refine ev_k (pc' := 81) (ls' := [(0, .inr (.inr (some 52))), (1, .inr (.inr (some 26))), (2, .inl (x2)), (3, .inl (x3)), (4, .inl (x4)), (5, .inl (x5)), (6, .inl (x6))]) (st' := [.inl (x2), .inr (.inr (some 52))]) (nc' := 126) (np' := 138) (M' := M1) 2 rfl ?_
      obtain ⟨v2, hv, h⟩ := ob_i h
      refine ev_call (t := 140) (as := [.inr (.inr (some 52)), .inl (x2)]) (rest := []) rfl rfl rfl (by omega) (Routes_reachOf_52_e (by omega) (x2) M1 _ hv) ?_
      refine ev_k (pc' := 90) (ls' := [(6, .inl (v2)), (0, .inr (.inr (some 52))), (1, .inr (.inr (some 26))), (2, .inl (x2)), (3, .inl (x3)), (4, .inl (x4)), (5, .inl (x5))]) (st' := [.inl (1000000000), .inl (v2)]) (nc' := 126) (np' := 138) (M' := M1) 3 rfl ?_
      obtain ⟨hR, ⟨hc, h⟩ | ⟨hc, h⟩⟩ := c_ne_i h
      · refine ev_icmp 96 rfl hR.1 hR.2 (by decide) (fun _ => ?_) (fun q => absurd hc q)
        refine ev_k (pc' := 98) (ls' := [(6, .inl (v2)), (0, .inr (.inr (some 52))), (1, .inr (.inr (some 26))), (2, .inl (x2)), (3, .inl (x3)), (4, .inl (x4)), (5, .inl (x5))]) (st' := [.inl (x4)]) (nc' := 126) (np' := 138) (M' := M1) 1 rfl ?_
        obtain ⟨hR, h⟩ := ck_i h
        rcases if_i h with ⟨hq, h⟩ | ⟨hq0, h⟩
        · refine ev_lsw 124 rfl hR rfl (26) (by rw [hq]; rfl) (by decide) ?_
          refine ev_k (pc' := 129) (ls' := [(6, .inl (v2)), (0, .inr (.inr (some 52))), (1, .inr (.inr (some 26))), (2, .inl (x2)), (3, .inl (x3)), (4, .inl (x4)), (5, .inl (x5))]) (st' := [.inl (256), .inl (v2)]) (nc' := 126) (np' := 138) (M' := M1) 2 rfl ?_
          obtain ⟨hc, h⟩ := ck_i h
          obtain ⟨v3, ev, h⟩ := tw_i h
          refine ev_idiv rfl hc ?_
          refine ev_k (pc' := 130) (ls' := [(6, .inl (v2)), (0, .inr (.inr (some 52))), (1, .inr (.inr (some 26))), (2, .inl (x2)), (3, .inl (x3)), (4, .inl (x4)), (5, .inl (x5))]) (st' := [.inl (Int.tdiv (v2) (256))]) (nc' := 126) (np' := 138) (M' := M1) 0 rfl ?_
          rw [← ev]
          refine ev_k (pc' := 130) (ls' := [(6, .inl (v2)), (0, .inr (.inr (some 52))), (1, .inr (.inr (some 26))), (2, .inl (x2)), (3, .inl (x3)), (4, .inl (x4)), (5, .inl (x5))]) (st' := [.inl (v3)]) (nc' := 126) (np' := 138) (M' := M1) 0 rfl ?_
          cases h
          exact ev_ret rfl
        · skip
          rcases if_i h with ⟨hq, h⟩ | ⟨hq1, h⟩
          · refine ev_lsw 131 rfl hR rfl (33) (by rw [hq]; rfl) (by decide) ?_
            refine ev_k (pc' := 136) (ls' := [(6, .inl (v2)), (0, .inr (.inr (some 52))), (1, .inr (.inr (some 26))), (2, .inl (x2)), (3, .inl (x3)), (4, .inl (x4)), (5, .inl (x5))]) (st' := [.inl (256), .inl (v2)]) (nc' := 126) (np' := 138) (M' := M1) 2 rfl ?_
            obtain ⟨hc, h⟩ := ck_i h
            obtain ⟨v4, ev, h⟩ := tw_i h
            refine ev_irem rfl hc ?_
            refine ev_k (pc' := 137) (ls' := [(6, .inl (v2)), (0, .inr (.inr (some 52))), (1, .inr (.inr (some 26))), (2, .inl (x2)), (3, .inl (x3)), (4, .inl (x4)), (5, .inl (x5))]) (st' := [.inl (Int.tmod (v2) (256))]) (nc' := 126) (np' := 138) (M' := M1) 0 rfl ?_
            rw [← ev]
            refine ev_k (pc' := 137) (ls' := [(6, .inl (v2)), (0, .inr (.inr (some 52))), (1, .inr (.inr (some 26))), (2, .inl (x2)), (3, .inl (x3)), (4, .inl (x4)), (5, .inl (x5))]) (st' := [.inl (v4)]) (nc' := 126) (np' := 138) (M' := M1) 0 rfl ?_
            cases h
            exact ev_ret rfl
          · skip
            refine ev_lsw 138 rfl hR rfl (40) ?_ (by decide) ?_
            · exact am_lsd _ _ _ (by simp only [List.forall_mem_cons, List.not_mem_nil]; exact ⟨hq0, hq1, by simp⟩)
            · skip
              refine ev_k (pc' := 142) (ls' := [(6, .inl (v2)), (0, .inr (.inr (some 52))), (1, .inr (.inr (some 26))), (2, .inl (x2)), (3, .inl (x3)), (4, .inl (x4)), (5, .inl (x5))]) (st' := [.inl (v2), .inl (x2), .inr (.inr (some 52))]) (nc' := 126) (np' := 138) (M' := M1) 3 rfl ?_
              obtain ⟨v5, hv, h⟩ := ob_i h
              refine ev_call (t := 141) (as := [.inr (.inr (some 52)), .inl (x2), .inl (v2)]) (rest := []) rfl rfl rfl (by omega) (Routes_firstStep_52_e (by omega) (x2) (v2) M1 _ hv) ?_
              refine ev_k (pc' := 145) (ls' := [(6, .inl (v2)), (0, .inr (.inr (some 52))), (1, .inr (.inr (some 26))), (2, .inl (x2)), (3, .inl (x3)), (4, .inl (x4)), (5, .inl (x5))]) (st' := [.inl (v5)]) (nc' := 126) (np' := 138) (M' := M1) 0 rfl ?_
              cases h
              exact ev_ret rfl
      · refine ev_icmp 96 rfl hR.1 hR.2 (by decide) (fun q => absurd q hc) (fun _ => ?_)
        refine ev_k (pc' := 95) (ls' := [(6, .inl (v2)), (0, .inr (.inr (some 52))), (1, .inr (.inr (some 26))), (2, .inl (x2)), (3, .inl (x3)), (4, .inl (x4)), (5, .inl (x5))]) (st' := [.inl (-2)]) (nc' := 126) (np' := 138) (M' := M1) 1 rfl ?_
        cases h
        exact ev_ret rfl
    · refine ev_icmp 74 rfl hR.1 hR.2 (by decide) (fun q => absurd q hc) (fun _ => ?_)
      refine ev_k (pc' := 35) (ls' := [(0, .inr (.inr (some 52))), (1, .inr (.inr (some 26))), (2, .inl (x2)), (3, .inl (x3)), (4, .inl (x4)), (5, .inl (x5)), (6, .inl (x6))]) (st' := [.inl (x5), .inr (.inr (some 1)), .inl (M 1 3), .inl (x6), .inr (.inr (some 5))]) (nc' := 126) (np' := 138) (M' := M) 9 rfl ?_
      obtain ⟨v6, hv, h⟩ := ob_i h
      refine ev_call (t := 63) (as := [.inr (.inr (some 1)), .inl (x5)]) (rest := [.inl (M 1 3), .inl (x6), .inr (.inr (some 5))]) rfl rfl rfl (by omega) (Country_armOf_1_e (by omega) (x5) M _ hv) ?_
      refine ev_k (pc' := 41) (ls' := [(0, .inr (.inr (some 52))), (1, .inr (.inr (some 26))), (2, .inl (x2)), (3, .inl (x3)), (4, .inl (x4)), (5, .inl (x5)), (6, .inl (x6))]) (st' := [.inl (x5), .inr (.inr (some 26)), .inl (v6), .inl (M 1 3), .inl (x6), .inr (.inr (some 5))]) (nc' := 126) (np' := 138) (M' := M) 2 rfl ?_
      obtain ⟨v7, hv, h⟩ := ob_i h
      refine ev_call (t := 82) (as := [.inr (.inr (some 26)), .inl (x5)]) (rest := [.inl (v6), .inl (M 1 3), .inl (x6), .inr (.inr (some 5))]) rfl rfl rfl (by omega) (Trip_tiredOf_26_e (by omega) (x5) M _ hv) ?_
      refine ev_k (pc' := 48) (ls' := [(0, .inr (.inr (some 52))), (1, .inr (.inr (some 26))), (2, .inl (x2)), (3, .inl (x3)), (4, .inl (x4)), (5, .inl (x5)), (6, .inl (x6))]) (st' := [.inl (M 26 13), .inl (v7), .inl (v6), .inl (M 1 3), .inl (x6), .inr (.inr (some 5))]) (nc' := 126) (np' := 138) (M' := M) 2 rfl ?_
      obtain ⟨v8, M9, hv, h⟩ := oc_i h
      refine ev_call (t := 106) (as := [.inr (.inr (some 5)), .inl (x6), .inl (M 1 3), .inl (v6), .inl (v7), .inl (M 26 13)]) (rest := []) rfl rfl rfl (by omega) (Law_cutting_5_e (by omega) (x6) (M 1 3) (v6) (v7) (M 26 13) M _ hv) ?_
      refine ev_k (pc' := 67) (ls' := [(7, .inl (v8)), (0, .inr (.inr (some 52))), (1, .inr (.inr (some 26))), (2, .inl (x2)), (3, .inl (x3)), (4, .inl (x4)), (5, .inl (x5)), (6, .inl (x6))]) (st' := [.inl (((256) * (v8)) + (1)), .inl (x6), .inr (.inr (some 56))]) (nc' := 126) (np' := 138) (M' := M9) 9 rfl ?_
      obtain ⟨hc, M10, eM, h⟩ := wa_i h
      refine ev_iast (k := 56) rfl (by decide) rfl hc eM ?_
      refine ev_k (pc' := 9) (ls' := [(0, .inr (.inr (some 52))), (1, .inr (.inr (some 26))), (2, .inl (x2)), (3, .inl (x3)), (4, .inl (x4)), (5, .inl (x5)), (6, .inl ((x6) + (1)))]) (st' := []) (nc' := 126) (np' := 138) (M' := M10) 2 rfl ?_
      exact ih (x2) (x3) (x4) (x5) ((x6) + (1)) M10 r h
theorem Routes_findSoonest_52_26_e {L : Nat} {xs : Nat → Int} {d : Nat} (hd : 5 ≤ d)   (x2 : Int) (x3 : Int) (x4 : Int) (M : am_M) (r : Int × am_M) (h : Routes_findSoonest_52_26   x2 x3 x4 M = some r) : am_Ev L xs d me_135 0 (am_ar1 0 [.inr (.inr (some 52)), .inr (.inr (some 26)), .inl (x2), .inl (x3), .inl (x4)]) [] 126 138 M (some (.inl r.1), 126, 138, r.2) := by
  refine ev_k (pc' := 9) (ls' := [(0, .inr (.inr (some 52))), (1, .inr (.inr (some 26))), (2, .inl (x2)), (3, .inl (x3)), (4, .inl (x4)), (5, .inl (M 26 9)), (6, .inl (0))]) (st' := []) (nc' := 126) (np' := 138) (M' := M) 5 rfl ?_
  exact Routes_findSoonest_52_26_9_t hd     am_big (x2) (x3) (x4) (M 26 9) (0) M r h
def P_soonest_48     (M : am_M) : Option (Int × am_M) := some (-1, M)
def P_soonest_66    (s0 : Int) (M : am_M) : Option (Int × am_M) := some (s0, M)
def P_soonest    (x1 : Int) (x2 : Int) (x3 : Int) (M : am_M) : Option (Int × am_M) := c_lt (x3) (0)
       (P_soonest_48     M)
       (c_gt (x3) (2)
       (P_soonest_48     M)
       (ob (Country_isBarred_1 (x1) M) fun v1 => c_ne (v1) (0)
       (P_soonest_48     M)
       (ob (Country_isBarred_1 (x2) M) fun v2 => c_ne (v2) (0)
       (P_soonest_48     M)
       (ob (Country_isTold_1 (M 26 9) M) fun v3 => c_ne (v3) (0)
       (c_ne (x1) (x2)
       (oc (Routes_findSoonest_52_26 (x1) (x2) (x3) M) fun v4 M5 => some (v4, M5))
       (c_ne (x3) (2)
       ((P_soonest_66    (0) M))
       ((P_soonest_66    (-2) M))))
       (P_soonest_48     M)))))
theorem P_soonest_48_t {L : Nat} {xs : Nat → Int} {d : Nat} (hd : 6 ≤ d)      (M : am_M) (r : Int × am_M) (h : P_soonest_48     M = some r) : am_Ev L xs d me_134 48 [] [] 126 138 M (some (.inl r.1), 126, 138, r.2) := by
  refine ev_k (pc' := 49) (ls' := []) (st' := [.inl (-1)]) (nc' := 126) (np' := 138) (M' := M) 1 rfl ?_
  cases h
  exact ev_ret rfl
theorem P_soonest_66_t {L : Nat} {xs : Nat → Int} {d : Nat} (hd : 6 ≤ d)     (s0 : Int) (M : am_M) (r : Int × am_M) (h : P_soonest_66    s0 M = some r) : am_Ev L xs d me_134 66 [] [.inl (s0)] 126 138 M (some (.inl r.1), 126, 138, r.2) := by
  refine ev_k (pc' := 66) (ls' := []) (st' := [.inl (s0)]) (nc' := 126) (np' := 138) (M' := M) 0 rfl ?_
  cases h
  exact ev_ret rfl
theorem P_soonest_e {L : Nat} {xs : Nat → Int} {d : Nat} (hd : 6 ≤ d)   (x1 : Int) (x2 : Int) (x3 : Int) (M : am_M) (r : Int × am_M) (h : P_soonest   x1 x2 x3 M = some r) : am_Ev L xs d me_134 0 (am_ar1 0 [.inr (.inr (some 0)), .inl (x1), .inl (x2), .inl (x3)]) [] 126 138 M (some (.inl r.1), 126, 138, r.2) := by
  refine ev_k (pc' := 1) (ls' := [(0, .inr (.inr (some 0))), (1, .inl (x1)), (2, .inl (x2)), (3, .inl (x3))]) (st' := [.inl (x3)]) (nc' := 126) (np' := 138) (M' := M) 1 rfl ?_
  obtain ⟨hR, ⟨hc, h⟩ | ⟨hc, h⟩⟩ := c_lt_i h
  · refine ev_ifc 48 rfl hR.1 (by decide) (fun _ => ?_) (fun q => absurd hc q)
    exact P_soonest_48_t hd      M r h
  · refine ev_ifc 48 rfl hR.1 (by decide) (fun q => absurd q hc) (fun _ => ?_)
    refine ev_k (pc' := 6) (ls' := [(0, .inr (.inr (some 0))), (1, .inl (x1)), (2, .inl (x2)), (3, .inl (x3))]) (st' := [.inl (2), .inl (x3)]) (nc' := 126) (np' := 138) (M' := M) 2 rfl ?_
    obtain ⟨hR, ⟨hc, h⟩ | ⟨hc, h⟩⟩ := c_gt_i h
    · refine ev_icmp 48 rfl hR.1 hR.2 (by decide) (fun _ => ?_) (fun q => absurd hc q)
      exact P_soonest_48_t hd      M r h
    · refine ev_icmp 48 rfl hR.1 hR.2 (by decide) (fun q => absurd q hc) (fun _ => ?_)
      refine ev_k (pc' := 14) (ls' := [(0, .inr (.inr (some 0))), (1, .inl (x1)), (2, .inl (x2)), (3, .inl (x3))]) (st' := [.inl (x1), .inr (.inr (some 1))]) (nc' := 126) (np' := 138) (M' := M) 3 rfl ?_
      obtain ⟨v1, hv, h⟩ := ob_i h
      refine ev_call (t := 55) (as := [.inr (.inr (some 1)), .inl (x1)]) (rest := []) rfl rfl rfl (by omega) (Country_isBarred_1_e (by omega) (x1) M _ hv) ?_
      refine ev_k (pc' := 17) (ls' := [(0, .inr (.inr (some 0))), (1, .inl (x1)), (2, .inl (x2)), (3, .inl (x3))]) (st' := [.inl (v1)]) (nc' := 126) (np' := 138) (M' := M) 0 rfl ?_
      obtain ⟨hR, ⟨hc, h⟩ | ⟨hc, h⟩⟩ := c_ne_i h
      · refine ev_ifc 48 rfl hR.1 (by decide) (fun _ => ?_) (fun q => absurd hc q)
        exact P_soonest_48_t hd      M r h
      · refine ev_ifc 48 rfl hR.1 (by decide) (fun q => absurd q hc) (fun _ => ?_)
        refine ev_k (pc' := 25) (ls' := [(0, .inr (.inr (some 0))), (1, .inl (x1)), (2, .inl (x2)), (3, .inl (x3))]) (st' := [.inl (x2), .inr (.inr (some 1))]) (nc' := 126) (np' := 138) (M' := M) 3 rfl ?_
        obtain ⟨v2, hv, h⟩ := ob_i h
        refine ev_call (t := 55) (as := [.inr (.inr (some 1)), .inl (x2)]) (rest := []) rfl rfl rfl (by omega) (Country_isBarred_1_e (by omega) (x2) M _ hv) ?_
        refine ev_k (pc' := 28) (ls' := [(0, .inr (.inr (some 0))), (1, .inl (x1)), (2, .inl (x2)), (3, .inl (x3))]) (st' := [.inl (v2)]) (nc' := 126) (np' := 138) (M' := M) 0 rfl ?_
        obtain ⟨hR, ⟨hc, h⟩ | ⟨hc, h⟩⟩ := c_ne_i h
        · refine ev_ifc 48 rfl hR.1 (by decide) (fun _ => ?_) (fun q => absurd hc q)
          exact P_soonest_48_t hd      M r h
        · refine ev_ifc 48 rfl hR.1 (by decide) (fun q => absurd q hc) (fun _ => ?_)
          refine ev_k (pc' := 42) (ls' := [(0, .inr (.inr (some 0))), (1, .inl (x1)), (2, .inl (x2)), (3, .inl (x3))]) (st' := [.inl (M 26 9), .inr (.inr (some 1))]) (nc' := 126) (np' := 138) (M' := M) 5 rfl ?_
          obtain ⟨v3, hv, h⟩ := ob_i h
          refine ev_call (t := 62) (as := [.inr (.inr (some 1)), .inl (M 26 9)]) (rest := []) rfl rfl rfl (by omega) (Country_isTold_1_e (by omega) (M 26 9) M _ hv) ?_
          refine ev_k (pc' := 45) (ls' := [(0, .inr (.inr (some 0))), (1, .inl (x1)), (2, .inl (x2)), (3, .inl (x3))]) (st' := [.inl (v3)]) (nc' := 126) (np' := 138) (M' := M) 0 rfl ?_
          obtain ⟨hR, ⟨hc, h⟩ | ⟨hc, h⟩⟩ := c_ne_i h
          · refine ev_ifc 50 rfl hR.1 (by decide) (fun _ => ?_) (fun q => absurd hc q)
            refine ev_k (pc' := 52) (ls' := [(0, .inr (.inr (some 0))), (1, .inl (x1)), (2, .inl (x2)), (3, .inl (x3))]) (st' := [.inl (x2), .inl (x1)]) (nc' := 126) (np' := 138) (M' := M) 2 rfl ?_
            obtain ⟨hR, ⟨hc, h⟩ | ⟨hc, h⟩⟩ := c_ne_i h
            · refine ev_icmp 67 rfl hR.1 hR.2 (by decide) (fun _ => ?_) (fun q => absurd hc q)
              refine ev_k (pc' := 78) (ls' := [(0, .inr (.inr (some 0))), (1, .inl (x1)), (2, .inl (x2)), (3, .inl (x3))]) (st' := [.inl (x3), .inl (x2), .inl (x1), .inr (.inr (some 26)), .inr (.inr (some 52))]) (nc' := 126) (np' := 138) (M' := M) 7 rfl ?_
              obtain ⟨v4, M5, hv, h⟩ := oc_i h
              refine ev_call (t := 135) (as := [.inr (.inr (some 52)), .inr (.inr (some 26)), .inl (x1), .inl (x2), .inl (x3)]) (rest := []) rfl rfl rfl (by omega) (Routes_findSoonest_52_26_e (by omega) (x1) (x2) (x3) M _ hv) ?_
              refine ev_k (pc' := 81) (ls' := [(0, .inr (.inr (some 0))), (1, .inl (x1)), (2, .inl (x2)), (3, .inl (x3))]) (st' := [.inl (v4)]) (nc' := 126) (np' := 138) (M' := M5) 0 rfl ?_
              cases h
              exact ev_ret rfl
            · refine ev_icmp 67 rfl hR.1 hR.2 (by decide) (fun q => absurd q hc) (fun _ => ?_)
              refine ev_k (pc' := 57) (ls' := [(0, .inr (.inr (some 0))), (1, .inl (x1)), (2, .inl (x2)), (3, .inl (x3))]) (st' := [.inl (2), .inl (x3)]) (nc' := 126) (np' := 138) (M' := M) 2 rfl ?_
              obtain ⟨hR, ⟨hc, h⟩ | ⟨hc, h⟩⟩ := c_ne_i h
              · refine ev_icmp 65 rfl hR.1 hR.2 (by decide) (fun _ => ?_) (fun q => absurd hc q)
                refine ev_k (pc' := 66) (ls' := []) (st' := [.inl (0)]) (nc' := 126) (np' := 138) (M' := M) 1 rfl ?_
                exact P_soonest_66_t hd     (0) M r h
              · refine ev_icmp 65 rfl hR.1 hR.2 (by decide) (fun q => absurd q hc) (fun _ => ?_)
                refine ev_k (pc' := 66) (ls' := []) (st' := [.inl (-2)]) (nc' := 126) (np' := 138) (M' := M) 2 rfl ?_
                exact P_soonest_66_t hd     (-2) M r h
          · refine ev_ifc 50 rfl hR.1 (by decide) (fun q => absurd q hc) (fun _ => ?_)
            exact P_soonest_48_t hd      M r h
def Routes_countSteps_52_139   (k36 : Int → Int → am_M → Option (am_M)) (k59 : Int → Int → Int → Int → am_M → Option (am_M)) (x2 : Int) (x3 : Int) (x4 : Int) (x5 : Int) (M : am_M) : Option (am_M) := (k59 (x2) (x3) (x4) ((x5) + (1)) M)
def Routes_countSteps_52_59   (k36 : Int → Int → am_M → Option (am_M)) : Nat → Int → Int → Int → Int → am_M → Option (am_M)
  | 0, _, _, _, _, _ => none
  | n + 1, x2, x3, x4, x5, M => c_ge (x5) (4)
       ((k36 (x2) ((x3) + (1)) M))
       (ob (Country_neighbour (x4) (x5) M) fun v1 => ob (Country_isCell (v1) M) fun v2 => c_eq (v2) (0)
       (Routes_countSteps_52_139   k36 (Routes_countSteps_52_59   k36 n) (x2) (x3) (x4) (x5) M)
       (ob (Country_isBarred_1 (v1) M) fun v3 => c_ne (v3) (0)
       (Routes_countSteps_52_139   k36 (Routes_countSteps_52_59   k36 n) (x2) (x3) (x4) (x5) M)
       (rd M 53 144 (v1) fun v4 => c_ne (v4) (1000000000)
       (Routes_countSteps_52_139   k36 (Routes_countSteps_52_59   k36 n) (x2) (x3) (x4) (x5) M)
       (c_ge (x2) (144)
       (Routes_countSteps_52_139   k36 (Routes_countSteps_52_59   k36 n) (x2) (x3) (x4) (x5) M)
       (ob (Routes_reachOf_52 (x4) M) fun v5 => wa M 53 144 (v1) ((v5) + (1)) fun M6 => wa M6 55 144 (x2) (v1) fun M7 => (Routes_countSteps_52_139   k36 (Routes_countSteps_52_59   k36 n) ((x2) + (1)) (x3) (x4) (x5) M7))))))
def Routes_countSteps_52_151     (M : am_M) : Option (am_M) := some (M)
def Routes_countSteps_52_36    : Nat → Int → Int → am_M → Option (am_M)
  | 0, _, _, _ => none
  | n + 1, x2, x3, M => c_ge (x3) (x2)
       (Routes_countSteps_52_151     M)
       (c_ge (x3) (144)
       (Routes_countSteps_52_151     M)
       (rd M 55 144 (x3) fun v1 => (Routes_countSteps_52_59   (Routes_countSteps_52_36    n) am_big (x2) (x3) (v1) (0) M)))
def Routes_countSteps_52_34    (x2 : Int) (M : am_M) : Option (am_M) := (Routes_countSteps_52_36    am_big (x2) (0) M)
def Routes_countSteps_52    (x1 : Int) (M : am_M) : Option (am_M) := ob (J_fill_53 (1000000000) M) fun M1 => ob (Country_isCell (x1) M1) fun v2 => c_eq (v2) (0)
       (Routes_countSteps_52_34    (0) M1)
       (wa M1 53 144 (x1) (0) fun M3 => wa M3 55 144 (0) (x1) fun M4 => (Routes_countSteps_52_34    (1) M4))
theorem Routes_countSteps_52_139_t {L : Nat} {xs : Nat → Int} {d : Nat} (hd : 2 ≤ d)   (k36 : Int → Int → am_M → Option (am_M)) (k59 : Int → Int → Int → Int → am_M → Option (am_M)) (hk36 : ∀ (x2 : Int) (x3 : Int) (M : am_M) (r : am_M), k36 x2 x3 M = some r → am_Ev L xs d me_144 36 [(0, .inr (.inr (some 52))), (2, .inl (x2)), (3, .inl (x3))] [] 126 138 M (none, 126, 138, r)) (hk59 : ∀ (x2 : Int) (x3 : Int) (x4 : Int) (x5 : Int) (M : am_M) (r : am_M), k59 x2 x3 x4 x5 M = some r → am_Ev L xs d me_144 59 [(0, .inr (.inr (some 52))), (2, .inl (x2)), (3, .inl (x3)), (4, .inl (x4)), (5, .inl (x5))] [] 126 138 M (none, 126, 138, r)) (x2 : Int) (x3 : Int) (x4 : Int) (x5 : Int) (M : am_M) (r : am_M) (h : Routes_countSteps_52_139   k36 k59 x2 x3 x4 x5 M = some r) : am_Ev L xs d me_144 139 [(0, .inr (.inr (some 52))), (2, .inl (x2)), (3, .inl (x3)), (4, .inl (x4)), (5, .inl (x5))] [] 126 138 M (none, 126, 138, r) := by
  refine ev_k (pc' := 59) (ls' := [(0, .inr (.inr (some 52))), (2, .inl (x2)), (3, .inl (x3)), (4, .inl (x4)), (5, .inl ((x5) + (1)))]) (st' := []) (nc' := 126) (np' := 138) (M' := M) 2 rfl ?_
  exact hk59 (x2) (x3) (x4) ((x5) + (1)) M r h
theorem Routes_countSteps_52_59_t {L : Nat} {xs : Nat → Int} {d : Nat} (hd : 2 ≤ d)   (k36 : Int → Int → am_M → Option (am_M)) (hk36 : ∀ (x2 : Int) (x3 : Int) (M : am_M) (r : am_M), k36 x2 x3 M = some r → am_Ev L xs d me_144 36 [(0, .inr (.inr (some 52))), (2, .inl (x2)), (3, .inl (x3))] [] 126 138 M (none, 126, 138, r)) : ∀ (n : Nat) (x2 : Int) (x3 : Int) (x4 : Int) (x5 : Int) (M : am_M) (r : am_M), Routes_countSteps_52_59   k36 n x2 x3 x4 x5 M = some r → am_Ev L xs d me_144 59 [(0, .inr (.inr (some 52))), (2, .inl (x2)), (3, .inl (x3)), (4, .inl (x4)), (5, .inl (x5))] [] 126 138 M (none, 126, 138, r)
  | 0, _, _, _, _, M, r, h => by cases h
  | n + 1, x2, x3, x4, x5, M, r, h => by
    have ih := Routes_countSteps_52_59_t (L := L) (xs := xs) hd   k36 hk36 n
    refine ev_k (pc' := 62) (ls' := [(0, .inr (.inr (some 52))), (2, .inl (x2)), (3, .inl (x3)), (4, .inl (x4)), (5, .inl (x5))]) (st' := [.inl (4), .inl (x5)]) (nc' := 126) (np' := 138) (M' := M) 2 rfl ?_
    obtain ⟨hR, ⟨hc, h⟩ | ⟨hc, h⟩⟩ := c_ge_i h
    · refine ev_icmp 145 rfl hR.1 hR.2 (by decide) (fun _ => ?_) (fun q => absurd hc q)
      refine ev_k (pc' := 36) (ls' := [(0, .inr (.inr (some 52))), (2, .inl (x2)), (3, .inl ((x3) + (1)))]) (st' := []) (nc' := 126) (np' := 138) (M' := M) 2 rfl ?_
      exact hk36 (x2) ((x3) + (1)) M r h
    · refine ev_icmp 145 rfl hR.1 hR.2 (by decide) (fun q => absurd q hc) (fun _ => ?_)
      refine ev_k (pc' := 69) (ls' := [(0, .inr (.inr (some 52))), (2, .inl (x2)), (3, .inl (x3)), (4, .inl (x4)), (5, .inl (x5))]) (st' := [.inl (x5), .inl (x4)]) (nc' := 126) (np' := 138) (M' := M) 2 rfl ?_
      obtain ⟨v1, hv, h⟩ := ob_i h
      refine ev_call (t := 97) (as := [.inl (x4), .inl (x5)]) (rest := []) rfl rfl rfl (by omega) (Country_neighbour_e (by omega) (x4) (x5) M _ hv) ?_
      refine ev_k (pc' := 76) (ls' := [(6, .inl (v1)), (0, .inr (.inr (some 52))), (2, .inl (x2)), (3, .inl (x3)), (4, .inl (x4)), (5, .inl (x5))]) (st' := [.inl (v1)]) (nc' := 126) (np' := 138) (M' := M) 2 rfl ?_
      obtain ⟨v2, hv, h⟩ := ob_i h
      refine ev_call (t := 9) (as := [.inl (v1)]) (rest := []) rfl rfl rfl (by omega) (Country_isCell_e (by omega) (v1) M _ hv) ?_
      refine ev_k (pc' := 79) (ls' := [(6, .inl (v1)), (0, .inr (.inr (some 52))), (2, .inl (x2)), (3, .inl (x3)), (4, .inl (x4)), (5, .inl (x5))]) (st' := [.inl (v2)]) (nc' := 126) (np' := 138) (M' := M) 0 rfl ?_
      obtain ⟨hR, ⟨hc, h⟩ | ⟨hc, h⟩⟩ := c_eq_i h
      · refine ev_ifc 139 rfl hR.1 (by decide) (fun _ => ?_) (fun q => absurd hc q)
        exact Routes_countSteps_52_139_t hd   k36 (Routes_countSteps_52_59   k36 n) hk36 ih (x2) (x3) (x4) (x5) M r h
      · refine ev_ifc 139 rfl hR.1 (by decide) (fun q => absurd q hc) (fun _ => ?_)
        refine ev_k (pc' := 88) (ls' := [(6, .inl (v1)), (0, .inr (.inr (some 52))), (2, .inl (x2)), (3, .inl (x3)), (4, .inl (x4)), (5, .inl (x5))]) (st' := [.inl (v1), .inr (.inr (some 1))]) (nc' := 126) (np' := 138) (M' := M) 3 rfl ?_
        obtain ⟨v3, hv, h⟩ := ob_i h
        refine ev_call (t := 55) (as := [.inr (.inr (some 1)), .inl (v1)]) (rest := []) rfl rfl rfl (by omega) (Country_isBarred_1_e (by omega) (v1) M _ hv) ?_
        refine ev_k (pc' := 91) (ls' := [(6, .inl (v1)), (0, .inr (.inr (some 52))), (2, .inl (x2)), (3, .inl (x3)), (4, .inl (x4)), (5, .inl (x5))]) (st' := [.inl (v3)]) (nc' := 126) (np' := 138) (M' := M) 0 rfl ?_
        obtain ⟨hR, ⟨hc, h⟩ | ⟨hc, h⟩⟩ := c_ne_i h
        · refine ev_ifc 139 rfl hR.1 (by decide) (fun _ => ?_) (fun q => absurd hc q)
          exact Routes_countSteps_52_139_t hd   k36 (Routes_countSteps_52_59   k36 n) hk36 ih (x2) (x3) (x4) (x5) M r h
        · refine ev_ifc 139 rfl hR.1 (by decide) (fun q => absurd q hc) (fun _ => ?_)
          refine ev_k (pc' := 100) (ls' := [(6, .inl (v1)), (0, .inr (.inr (some 52))), (2, .inl (x2)), (3, .inl (x3)), (4, .inl (x4)), (5, .inl (x5))]) (st' := [.inl (v1), .inr (.inr (some 53))]) (nc' := 126) (np' := 138) (M' := M) 3 rfl ?_
          obtain ⟨hc, v4, ev, h⟩ := rd_i h
          refine ev_ald (k := 53) (t := 0) (Or.inl ⟨rfl, rfl⟩) rfl (by decide) (by decide) rfl hc ev ?_
          refine ev_k (pc' := 103) (ls' := [(6, .inl (v1)), (0, .inr (.inr (some 52))), (2, .inl (x2)), (3, .inl (x3)), (4, .inl (x4)), (5, .inl (x5))]) (st' := [.inl (1000000000), .inl (v4)]) (nc' := 126) (np' := 138) (M' := M) 1 rfl ?_
          obtain ⟨hR, ⟨hc, h⟩ | ⟨hc, h⟩⟩ := c_ne_i h
          · refine ev_icmp 139 rfl hR.1 hR.2 (by decide) (fun _ => ?_) (fun q => absurd hc q)
            exact Routes_countSteps_52_139_t hd   k36 (Routes_countSteps_52_59   k36 n) hk36 ih (x2) (x3) (x4) (x5) M r h
          · refine ev_icmp 139 rfl hR.1 hR.2 (by decide) (fun q => absurd q hc) (fun _ => ?_)
            refine ev_k (pc' := 110) (ls' := [(6, .inl (v1)), (0, .inr (.inr (some 52))), (2, .inl (x2)), (3, .inl (x3)), (4, .inl (x4)), (5, .inl (x5))]) (st' := [.inl (144), .inl (x2)]) (nc' := 126) (np' := 138) (M' := M) 2 rfl ?_
            obtain ⟨hR, ⟨hc, h⟩ | ⟨hc, h⟩⟩ := c_ge_i h
            · refine ev_icmp 139 rfl hR.1 hR.2 (by decide) (fun _ => ?_) (fun q => absurd hc q)
              exact Routes_countSteps_52_139_t hd   k36 (Routes_countSteps_52_59   k36 n) hk36 ih (x2) (x3) (x4) (x5) M r h
            · refine ev_icmp 139 rfl hR.1 hR.2 (by decide) (fun q => absurd q hc) (fun _ => ?_)
              refine ev_k (pc' := 122) (ls' := [(6, .inl (v1)), (0, .inr (.inr (some 52))), (2, .inl (x2)), (3, .inl (x3)), (4, .inl (x4)), (5, .inl (x5))]) (st' := [.inl (x4), .inr (.inr (some 52)), .inl (v1), .inr (.inr (some 53))]) (nc' := 126) (np' := 138) (M' := M) 5 rfl ?_
              obtain ⟨v5, hv, h⟩ := ob_i h
              refine ev_call (t := 140) (as := [.inr (.inr (some 52)), .inl (x4)]) (rest := [.inl (v1), .inr (.inr (some 53))]) rfl rfl rfl (by omega) (Routes_reachOf_52_e (by omega) (x4) M _ hv) ?_
              refine ev_k (pc' := 127) (ls' := [(6, .inl (v1)), (0, .inr (.inr (some 52))), (2, .inl (x2)), (3, .inl (x3)), (4, .inl (x4)), (5, .inl (x5))]) (st' := [.inl ((v5) + (1)), .inl (v1), .inr (.inr (some 53))]) (nc' := 126) (np' := 138) (M' := M) 2 rfl ?_
              obtain ⟨hc, M6, eM, h⟩ := wa_i h
              refine ev_iast (k := 53) rfl (by decide) rfl hc eM ?_
              refine ev_k (pc' := 135) (ls' := [(6, .inl (v1)), (0, .inr (.inr (some 52))), (2, .inl (x2)), (3, .inl (x3)), (4, .inl (x4)), (5, .inl (x5))]) (st' := [.inl (v1), .inl (x2), .inr (.inr (some 55))]) (nc' := 126) (np' := 138) (M' := M6) 4 rfl ?_
              obtain ⟨hc, M7, eM, h⟩ := wa_i h
              refine ev_iast (k := 55) rfl (by decide) rfl hc eM ?_
              refine ev_k (pc' := 139) (ls' := [(0, .inr (.inr (some 52))), (2, .inl ((x2) + (1))), (3, .inl (x3)), (4, .inl (x4)), (5, .inl (x5))]) (st' := []) (nc' := 126) (np' := 138) (M' := M7) 1 rfl ?_
              exact Routes_countSteps_52_139_t hd   k36 (Routes_countSteps_52_59   k36 n) hk36 ih ((x2) + (1)) (x3) (x4) (x5) M7 r h
theorem Routes_countSteps_52_151_t {L : Nat} {xs : Nat → Int} {d : Nat} (hd : 2 ≤ d)      (M : am_M) (r : am_M) (h : Routes_countSteps_52_151     M = some r) : am_Ev L xs d me_144 151 [] [] 126 138 M (none, 126, 138, r) := by
  refine ev_k (pc' := 151) (ls' := []) (st' := []) (nc' := 126) (np' := 138) (M' := M) 0 rfl ?_
  cases h
  exact ev_ret rfl
theorem Routes_countSteps_52_36_t {L : Nat} {xs : Nat → Int} {d : Nat} (hd : 2 ≤ d)     : ∀ (n : Nat) (x2 : Int) (x3 : Int) (M : am_M) (r : am_M), Routes_countSteps_52_36    n x2 x3 M = some r → am_Ev L xs d me_144 36 [(0, .inr (.inr (some 52))), (2, .inl (x2)), (3, .inl (x3))] [] 126 138 M (none, 126, 138, r)
  | 0, _, _, M, r, h => by cases h
  | n + 1, x2, x3, M, r, h => by
    have ih := Routes_countSteps_52_36_t (L := L) (xs := xs) hd     n
    refine ev_k (pc' := 38) (ls' := [(0, .inr (.inr (some 52))), (2, .inl (x2)), (3, .inl (x3))]) (st' := [.inl (x2), .inl (x3)]) (nc' := 126) (np' := 138) (M' := M) 2 rfl ?_
    obtain ⟨hR, ⟨hc, h⟩ | ⟨hc, h⟩⟩ := c_ge_i h
    · refine ev_icmp 151 rfl hR.1 hR.2 (by decide) (fun _ => ?_) (fun q => absurd hc q)
      exact Routes_countSteps_52_151_t hd      M r h
    · refine ev_icmp 151 rfl hR.1 hR.2 (by decide) (fun q => absurd q hc) (fun _ => ?_)
      refine ev_k (pc' := 45) (ls' := [(0, .inr (.inr (some 52))), (2, .inl (x2)), (3, .inl (x3))]) (st' := [.inl (144), .inl (x3)]) (nc' := 126) (np' := 138) (M' := M) 2 rfl ?_
      obtain ⟨hR, ⟨hc, h⟩ | ⟨hc, h⟩⟩ := c_ge_i h
      · refine ev_icmp 151 rfl hR.1 hR.2 (by decide) (fun _ => ?_) (fun q => absurd hc q)
        exact Routes_countSteps_52_151_t hd      M r h
      · refine ev_icmp 151 rfl hR.1 hR.2 (by decide) (fun q => absurd q hc) (fun _ => ?_)
        refine ev_k (pc' := 53) (ls' := [(0, .inr (.inr (some 52))), (2, .inl (x2)), (3, .inl (x3))]) (st' := [.inl (x3), .inr (.inr (some 55))]) (nc' := 126) (np' := 138) (M' := M) 3 rfl ?_
        obtain ⟨hc, v1, ev, h⟩ := rd_i h
        refine ev_ald (k := 55) (t := 0) (Or.inl ⟨rfl, rfl⟩) rfl (by decide) (by decide) rfl hc ev ?_
        refine ev_k (pc' := 59) (ls' := [(0, .inr (.inr (some 52))), (2, .inl (x2)), (3, .inl (x3)), (4, .inl (v1)), (5, .inl (0))]) (st' := []) (nc' := 126) (np' := 138) (M' := M) 3 rfl ?_
        exact Routes_countSteps_52_59_t hd   (Routes_countSteps_52_36    n) ih am_big (x2) (x3) (v1) (0) M r h
theorem Routes_countSteps_52_34_t {L : Nat} {xs : Nat → Int} {d : Nat} (hd : 2 ≤ d)     (x2 : Int) (M : am_M) (r : am_M) (h : Routes_countSteps_52_34    x2 M = some r) : am_Ev L xs d me_144 34 [(0, .inr (.inr (some 52))), (2, .inl (x2))] [] 126 138 M (none, 126, 138, r) := by
  refine ev_k (pc' := 36) (ls' := [(0, .inr (.inr (some 52))), (2, .inl (x2)), (3, .inl (0))]) (st' := []) (nc' := 126) (np' := 138) (M' := M) 2 rfl ?_
  exact Routes_countSteps_52_36_t hd     am_big (x2) (0) M r h
theorem Routes_countSteps_52_e {L : Nat} {xs : Nat → Int} {d : Nat} (hd : 2 ≤ d)   (x1 : Int) (M : am_M) (r : am_M) (h : Routes_countSteps_52   x1 M = some r) : am_Ev L xs d me_144 0 (am_ar1 0 [.inr (.inr (some 52)), .inl (x1)]) [] 126 138 M (none, 126, 138, r) := by
  refine ev_k (pc' := 6) (ls' := [(0, .inr (.inr (some 52))), (1, .inl (x1))]) (st' := [.inl (1000000000), .inr (.inr (some 53))]) (nc' := 126) (np' := 138) (M' := M) 3 rfl ?_
  obtain ⟨M1, hv, h⟩ := ob_i h
  refine ev_call (t := 2) (as := [.inr (.inr (some 53)), .inl (1000000000)]) (rest := []) rfl rfl rfl (by omega) (J_fill_53_e (by omega) (1000000000) M _ hv) ?_
  refine ev_k (pc' := 12) (ls' := [(2, .inl (0)), (0, .inr (.inr (some 52))), (1, .inl (x1))]) (st' := [.inl (x1)]) (nc' := 126) (np' := 138) (M' := M1) 3 rfl ?_
  obtain ⟨v2, hv, h⟩ := ob_i h
  refine ev_call (t := 9) (as := [.inl (x1)]) (rest := []) rfl rfl rfl (by omega) (Country_isCell_e (by omega) (x1) M1 _ hv) ?_
  refine ev_k (pc' := 15) (ls' := [(2, .inl (0)), (0, .inr (.inr (some 52))), (1, .inl (x1))]) (st' := [.inl (v2)]) (nc' := 126) (np' := 138) (M' := M1) 0 rfl ?_
  obtain ⟨hR, ⟨hc, h⟩ | ⟨hc, h⟩⟩ := c_eq_i h
  · refine ev_ifc 34 rfl hR.1 (by decide) (fun _ => ?_) (fun q => absurd hc q)
    exact Routes_countSteps_52_34_t hd     (0) M1 r h
  · refine ev_ifc 34 rfl hR.1 (by decide) (fun q => absurd q hc) (fun _ => ?_)
    refine ev_k (pc' := 24) (ls' := [(2, .inl (0)), (0, .inr (.inr (some 52))), (1, .inl (x1))]) (st' := [.inl (0), .inl (x1), .inr (.inr (some 53))]) (nc' := 126) (np' := 138) (M' := M1) 4 rfl ?_
    obtain ⟨hc, M3, eM, h⟩ := wa_i h
    refine ev_iast (k := 53) rfl (by decide) rfl hc eM ?_
    refine ev_k (pc' := 31) (ls' := [(2, .inl (0)), (0, .inr (.inr (some 52))), (1, .inl (x1))]) (st' := [.inl (x1), .inl (0), .inr (.inr (some 55))]) (nc' := 126) (np' := 138) (M' := M3) 4 rfl ?_
    obtain ⟨hc, M4, eM, h⟩ := wa_i h
    refine ev_iast (k := 55) rfl (by decide) rfl hc eM ?_
    refine ev_k (pc' := 34) (ls' := [(0, .inr (.inr (some 52))), (2, .inl (1))]) (st' := []) (nc' := 126) (np' := 138) (M' := M4) 2 rfl ?_
    exact Routes_countSteps_52_34_t hd     (1) M4 r h
def Routes_nearestStream_52_56   (k13 : Int → Int → Int → am_M → Option (Int × am_M)) (x2 : Int) (x3 : Int) (x4 : Int) (M : am_M) : Option (Int × am_M) := (k13 (x2) (x3) ((x4) + (1)) M)
def Routes_nearestStream_52_13    : Nat → Int → Int → Int → am_M → Option (Int × am_M)
  | 0, _, _, _, _ => none
  | n + 1, x2, x3, x4, M => c_ge (x4) (144)
       (some (x2, M))
       (ob (Country_kindAt_1 (x4) M) fun v1 => c_ne (v1) (5)
       (Routes_nearestStream_52_56   (Routes_nearestStream_52_13    n) (x2) (x3) (x4) M)
       (rd M 53 144 (x4) fun v2 => c_ge (v2) (x3)
       (Routes_nearestStream_52_56   (Routes_nearestStream_52_13    n) (x2) (x3) (x4) M)
       (rd M 53 144 (x4) fun v3 => (Routes_nearestStream_52_56   (Routes_nearestStream_52_13    n) (x4) (v3) (x4) M))))
def Routes_nearestStream_52    (x1 : Int) (M : am_M) : Option (Int × am_M) := ob (Routes_countSteps_52 (x1) M) fun M1 => (Routes_nearestStream_52_13    am_big (-1) (1000000000) (0) M1)
theorem Routes_nearestStream_52_56_t {L : Nat} {xs : Nat → Int} {d : Nat} (hd : 3 ≤ d)   (k13 : Int → Int → Int → am_M → Option (Int × am_M)) (hk13 : ∀ (x2 : Int) (x3 : Int) (x4 : Int) (M : am_M) (r : Int × am_M), k13 x2 x3 x4 M = some r → am_Ev L xs d me_143 13 [(0, .inr (.inr (some 52))), (2, .inl (x2)), (3, .inl (x3)), (4, .inl (x4))] [] 126 138 M (some (.inl r.1), 126, 138, r.2)) (x2 : Int) (x3 : Int) (x4 : Int) (M : am_M) (r : Int × am_M) (h : Routes_nearestStream_52_56   k13 x2 x3 x4 M = some r) : am_Ev L xs d me_143 56 [(0, .inr (.inr (some 52))), (2, .inl (x2)), (3, .inl (x3)), (4, .inl (x4))] [] 126 138 M (some (.inl r.1), 126, 138, r.2) := by
  refine ev_k (pc' := 13) (ls' := [(0, .inr (.inr (some 52))), (2, .inl (x2)), (3, .inl (x3)), (4, .inl ((x4) + (1)))]) (st' := []) (nc' := 126) (np' := 138) (M' := M) 2 rfl ?_
  exact hk13 (x2) (x3) ((x4) + (1)) M r h
theorem Routes_nearestStream_52_13_t {L : Nat} {xs : Nat → Int} {d : Nat} (hd : 3 ≤ d)     : ∀ (n : Nat) (x2 : Int) (x3 : Int) (x4 : Int) (M : am_M) (r : Int × am_M), Routes_nearestStream_52_13    n x2 x3 x4 M = some r → am_Ev L xs d me_143 13 [(0, .inr (.inr (some 52))), (2, .inl (x2)), (3, .inl (x3)), (4, .inl (x4))] [] 126 138 M (some (.inl r.1), 126, 138, r.2)
  | 0, _, _, _, M, r, h => by cases h
  | n + 1, x2, x3, x4, M, r, h => by
    have ih := Routes_nearestStream_52_13_t (L := L) (xs := xs) hd     n
    refine ev_k (pc' := 18) (ls' := [(0, .inr (.inr (some 52))), (2, .inl (x2)), (3, .inl (x3)), (4, .inl (x4))]) (st' := [.inl (144), .inl (x4)]) (nc' := 126) (np' := 138) (M' := M) 2 rfl ?_
    obtain ⟨hR, ⟨hc, h⟩ | ⟨hc, h⟩⟩ := c_ge_i h
    · refine ev_icmp 62 rfl hR.1 hR.2 (by decide) (fun _ => ?_) (fun q => absurd hc q)
      refine ev_k (pc' := 63) (ls' := [(0, .inr (.inr (some 52))), (2, .inl (x2)), (3, .inl (x3)), (4, .inl (x4))]) (st' := [.inl (x2)]) (nc' := 126) (np' := 138) (M' := M) 1 rfl ?_
      cases h
      exact ev_ret rfl
    · refine ev_icmp 62 rfl hR.1 hR.2 (by decide) (fun q => absurd q hc) (fun _ => ?_)
      refine ev_k (pc' := 27) (ls' := [(0, .inr (.inr (some 52))), (2, .inl (x2)), (3, .inl (x3)), (4, .inl (x4))]) (st' := [.inl (x4), .inr (.inr (some 1))]) (nc' := 126) (np' := 138) (M' := M) 3 rfl ?_
      obtain ⟨v1, hv, h⟩ := ob_i h
      refine ev_call (t := 56) (as := [.inr (.inr (some 1)), .inl (x4)]) (rest := []) rfl rfl rfl (by omega) (Country_kindAt_1_e (by omega) (x4) M _ hv) ?_
      refine ev_k (pc' := 31) (ls' := [(0, .inr (.inr (some 52))), (2, .inl (x2)), (3, .inl (x3)), (4, .inl (x4))]) (st' := [.inl (5), .inl (v1)]) (nc' := 126) (np' := 138) (M' := M) 1 rfl ?_
      obtain ⟨hR, ⟨hc, h⟩ | ⟨hc, h⟩⟩ := c_ne_i h
      · refine ev_icmp 56 rfl hR.1 hR.2 (by decide) (fun _ => ?_) (fun q => absurd hc q)
        exact Routes_nearestStream_52_56_t hd   (Routes_nearestStream_52_13    n) ih (x2) (x3) (x4) M r h
      · refine ev_icmp 56 rfl hR.1 hR.2 (by decide) (fun q => absurd q hc) (fun _ => ?_)
        refine ev_k (pc' := 40) (ls' := [(0, .inr (.inr (some 52))), (2, .inl (x2)), (3, .inl (x3)), (4, .inl (x4))]) (st' := [.inl (x4), .inr (.inr (some 53))]) (nc' := 126) (np' := 138) (M' := M) 3 rfl ?_
        obtain ⟨hc, v2, ev, h⟩ := rd_i h
        refine ev_ald (k := 53) (t := 0) (Or.inl ⟨rfl, rfl⟩) rfl (by decide) (by decide) rfl hc ev ?_
        refine ev_k (pc' := 42) (ls' := [(0, .inr (.inr (some 52))), (2, .inl (x2)), (3, .inl (x3)), (4, .inl (x4))]) (st' := [.inl (x3), .inl (v2)]) (nc' := 126) (np' := 138) (M' := M) 1 rfl ?_
        obtain ⟨hR, ⟨hc, h⟩ | ⟨hc, h⟩⟩ := c_ge_i h
        · refine ev_icmp 56 rfl hR.1 hR.2 (by decide) (fun _ => ?_) (fun q => absurd hc q)
          exact Routes_nearestStream_52_56_t hd   (Routes_nearestStream_52_13    n) ih (x2) (x3) (x4) M r h
        · refine ev_icmp 56 rfl hR.1 hR.2 (by decide) (fun q => absurd q hc) (fun _ => ?_)
          refine ev_k (pc' := 51) (ls' := [(0, .inr (.inr (some 52))), (2, .inl (x2)), (3, .inl (x3)), (4, .inl (x4))]) (st' := [.inl (x4), .inr (.inr (some 53))]) (nc' := 126) (np' := 138) (M' := M) 3 rfl ?_
          obtain ⟨hc, v3, ev, h⟩ := rd_i h
          refine ev_ald (k := 53) (t := 0) (Or.inl ⟨rfl, rfl⟩) rfl (by decide) (by decide) rfl hc ev ?_
          refine ev_k (pc' := 56) (ls' := [(0, .inr (.inr (some 52))), (2, .inl (x4)), (3, .inl (v3)), (4, .inl (x4))]) (st' := []) (nc' := 126) (np' := 138) (M' := M) 3 rfl ?_
          exact Routes_nearestStream_52_56_t hd   (Routes_nearestStream_52_13    n) ih (x4) (v3) (x4) M r h
theorem Routes_nearestStream_52_e {L : Nat} {xs : Nat → Int} {d : Nat} (hd : 3 ≤ d)   (x1 : Int) (M : am_M) (r : Int × am_M) (h : Routes_nearestStream_52   x1 M = some r) : am_Ev L xs d me_143 0 (am_ar1 0 [.inr (.inr (some 52)), .inl (x1)]) [] 126 138 M (some (.inl r.1), 126, 138, r.2) := by
  refine ev_k (pc' := 2) (ls' := [(0, .inr (.inr (some 52))), (1, .inl (x1))]) (st' := [.inl (x1), .inr (.inr (some 52))]) (nc' := 126) (np' := 138) (M' := M) 2 rfl ?_
  obtain ⟨M1, hv, h⟩ := ob_i h
  refine ev_call (t := 144) (as := [.inr (.inr (some 52)), .inl (x1)]) (rest := []) rfl rfl rfl (by omega) (Routes_countSteps_52_e (by omega) (x1) M _ hv) ?_
  refine ev_k (pc' := 13) (ls' := [(0, .inr (.inr (some 52))), (2, .inl (-1)), (3, .inl (1000000000)), (4, .inl (0))]) (st' := []) (nc' := 126) (np' := 138) (M' := M1) 6 rfl ?_
  exact Routes_nearestStream_52_13_t hd     am_big (-1) (1000000000) (0) M1 r h
def Routes_stepsTo_52    (x1 : Int) (M : am_M) : Option (Int) := ob (Routes_reachOf_52 (x1) M) fun v1 => some (v1)
theorem Routes_stepsTo_52_e {L : Nat} {xs : Nat → Int} {d : Nat} (hd : 2 ≤ d)   (x1 : Int) (M : am_M) (r : Int) (h : Routes_stepsTo_52   x1 M = some r) : am_Ev L xs d me_145 0 (am_ar1 0 [.inr (.inr (some 52)), .inl (x1)]) [] 126 138 M (some (.inl r), 126, 138, M) := by
  refine ev_k (pc' := 2) (ls' := [(0, .inr (.inr (some 52))), (1, .inl (x1))]) (st' := [.inl (x1), .inr (.inr (some 52))]) (nc' := 126) (np' := 138) (M' := M) 2 rfl ?_
  obtain ⟨v1, hv, h⟩ := ob_i h
  refine ev_call (t := 140) (as := [.inr (.inr (some 52)), .inl (x1)]) (rest := []) rfl rfl rfl (by omega) (Routes_reachOf_52_e (by omega) (x1) M _ hv) ?_
  refine ev_k (pc' := 5) (ls' := [(0, .inr (.inr (some 52))), (1, .inl (x1))]) (st' := [.inl (v1)]) (nc' := 126) (np' := 138) (M' := M) 0 rfl ?_
  cases h
  exact ev_ret rfl
def P_camp_56    (s0 : Int) (M : am_M) : Option (Int × am_M) := some (s0, M)
def P_camp_9     (M : am_M) : Option (Int × am_M) := some (-1, M)
def P_camp    (x1 : Int) (M : am_M) : Option (Int × am_M) := c_lt (x1) (0)
       (P_camp_9     M)
       (c_le (x1) (1)
       (ob (Trip_cellAt_26 (M 26 11) M) fun v1 => oc (Routes_nearestStream_52 (v1) M) fun v2 M3 => c_ge (v2) (0)
       (c_ne (x1) (0)
       (ob (Routes_stepsTo_52 (v2) M3) fun v4 => (P_camp_56    (v4) M3))
       ((P_camp_56    (v2) M3)))
       (some (-2, M3)))
       (P_camp_9     M))
theorem P_camp_56_t {L : Nat} {xs : Nat → Int} {d : Nat} (hd : 4 ≤ d)     (s0 : Int) (M : am_M) (r : Int × am_M) (h : P_camp_56    s0 M = some r) : am_Ev L xs d me_142 56 [] [.inl (s0)] 126 138 M (some (.inl r.1), 126, 138, r.2) := by
  refine ev_k (pc' := 56) (ls' := []) (st' := [.inl (s0)]) (nc' := 126) (np' := 138) (M' := M) 0 rfl ?_
  cases h
  exact ev_ret rfl
theorem P_camp_9_t {L : Nat} {xs : Nat → Int} {d : Nat} (hd : 4 ≤ d)      (M : am_M) (r : Int × am_M) (h : P_camp_9     M = some r) : am_Ev L xs d me_142 9 [] [] 126 138 M (some (.inl r.1), 126, 138, r.2) := by
  refine ev_k (pc' := 10) (ls' := []) (st' := [.inl (-1)]) (nc' := 126) (np' := 138) (M' := M) 1 rfl ?_
  cases h
  exact ev_ret rfl
theorem P_camp_e {L : Nat} {xs : Nat → Int} {d : Nat} (hd : 4 ≤ d)   (x1 : Int) (M : am_M) (r : Int × am_M) (h : P_camp   x1 M = some r) : am_Ev L xs d me_142 0 (am_ar1 0 [.inr (.inr (some 0)), .inl (x1)]) [] 126 138 M (some (.inl r.1), 126, 138, r.2) := by
  refine ev_k (pc' := 1) (ls' := [(0, .inr (.inr (some 0))), (1, .inl (x1))]) (st' := [.inl (x1)]) (nc' := 126) (np' := 138) (M' := M) 1 rfl ?_
  obtain ⟨hR, ⟨hc, h⟩ | ⟨hc, h⟩⟩ := c_lt_i h
  · refine ev_ifc 9 rfl hR.1 (by decide) (fun _ => ?_) (fun q => absurd hc q)
    exact P_camp_9_t hd      M r h
  · refine ev_ifc 9 rfl hR.1 (by decide) (fun q => absurd q hc) (fun _ => ?_)
    refine ev_k (pc' := 6) (ls' := [(0, .inr (.inr (some 0))), (1, .inl (x1))]) (st' := [.inl (1), .inl (x1)]) (nc' := 126) (np' := 138) (M' := M) 2 rfl ?_
    obtain ⟨hR, ⟨hc, h⟩ | ⟨hc, h⟩⟩ := c_le_i h
    · refine ev_icmp 11 rfl hR.1 hR.2 (by decide) (fun _ => ?_) (fun q => absurd hc q)
      refine ev_k (pc' := 26) (ls' := [(0, .inr (.inr (some 0))), (1, .inl (x1))]) (st' := [.inl (M 26 11), .inr (.inr (some 26)), .inr (.inr (some 52))]) (nc' := 126) (np' := 138) (M' := M) 7 rfl ?_
      obtain ⟨v1, hv, h⟩ := ob_i h
      refine ev_call (t := 31) (as := [.inr (.inr (some 26)), .inl (M 26 11)]) (rest := [.inr (.inr (some 52))]) rfl rfl rfl (by omega) (Trip_cellAt_26_e (by omega) (M 26 11) M _ hv) ?_
      refine ev_k (pc' := 29) (ls' := [(0, .inr (.inr (some 0))), (1, .inl (x1))]) (st' := [.inl (v1), .inr (.inr (some 52))]) (nc' := 126) (np' := 138) (M' := M) 0 rfl ?_
      obtain ⟨v2, M3, hv, h⟩ := oc_i h
      refine ev_call (t := 143) (as := [.inr (.inr (some 52)), .inl (v1)]) (rest := []) rfl rfl rfl (by omega) (Routes_nearestStream_52_e (by omega) (v1) M _ hv) ?_
      refine ev_k (pc' := 34) (ls' := [(2, .inl (v2)), (0, .inr (.inr (some 0))), (1, .inl (x1))]) (st' := [.inl (v2)]) (nc' := 126) (np' := 138) (M' := M3) 2 rfl ?_
      obtain ⟨hR, ⟨hc, h⟩ | ⟨hc, h⟩⟩ := c_ge_i h
      · refine ev_ifc 40 rfl hR.1 (by decide) (fun _ => ?_) (fun q => absurd hc q)
        refine ev_k (pc' := 41) (ls' := [(2, .inl (v2)), (0, .inr (.inr (some 0))), (1, .inl (x1))]) (st' := [.inl (x1)]) (nc' := 126) (np' := 138) (M' := M3) 1 rfl ?_
        obtain ⟨hR, ⟨hc, h⟩ | ⟨hc, h⟩⟩ := c_ne_i h
        · refine ev_ifc 48 rfl hR.1 (by decide) (fun _ => ?_) (fun q => absurd hc q)
          refine ev_k (pc' := 53) (ls' := [(2, .inl (v2)), (0, .inr (.inr (some 0))), (1, .inl (x1))]) (st' := [.inl (v2), .inr (.inr (some 52))]) (nc' := 126) (np' := 138) (M' := M3) 3 rfl ?_
          obtain ⟨v4, hv, h⟩ := ob_i h
          refine ev_call (t := 145) (as := [.inr (.inr (some 52)), .inl (v2)]) (rest := []) rfl rfl rfl (by omega) (Routes_stepsTo_52_e (by omega) (v2) M3 _ hv) ?_
          exact P_camp_56_t hd     (v4) M3 r h
        · refine ev_ifc 48 rfl hR.1 (by decide) (fun q => absurd q hc) (fun _ => ?_)
          refine ev_k (pc' := 56) (ls' := []) (st' := [.inl (v2)]) (nc' := 126) (np' := 138) (M' := M3) 2 rfl ?_
          exact P_camp_56_t hd     (v2) M3 r h
      · refine ev_ifc 40 rfl hR.1 (by decide) (fun q => absurd q hc) (fun _ => ?_)
        refine ev_k (pc' := 39) (ls' := [(2, .inl (v2)), (0, .inr (.inr (some 0))), (1, .inl (x1))]) (st' := [.inl (-2)]) (nc' := 126) (np' := 138) (M' := M3) 1 rfl ?_
        cases h
        exact ev_ret rfl
    · refine ev_icmp 11 rfl hR.1 hR.2 (by decide) (fun q => absurd q hc) (fun _ => ?_)
      exact P_camp_9_t hd      M r h
def Country_toldBits_1_25   (k4 : Int → Int → am_M → Option (Int)) (x1 : Int) (x2 : Int) (M : am_M) : Option (Int) := (k4 (x1) ((x2) + (1)) M)
def Country_toldBits_1_4    : Nat → Int → Int → am_M → Option (Int)
  | 0, _, _, _ => none
  | n + 1, x1, x2, M => c_ge (x2) (6)
       (some (x1))
       (rd M 4 6 (x2) fun v1 => c_le (v1) (0)
       (Country_toldBits_1_25   (Country_toldBits_1_4    n) (x1) (x2) M)
       ((Country_toldBits_1_25   (Country_toldBits_1_4    n) (b_or (x1) (b_shl (1) (x2))) (x2) M)))
def Country_toldBits_1     (M : am_M) : Option (Int) := (Country_toldBits_1_4    am_big (0) (0) M)
theorem Country_toldBits_1_25_t {L : Nat} {xs : Nat → Int} {d : Nat} (hd : 0 ≤ d)   (k4 : Int → Int → am_M → Option (Int)) (hk4 : ∀ (x1 : Int) (x2 : Int) (M : am_M) (r : Int), k4 x1 x2 M = some r → am_Ev L xs d me_148 4 [(0, .inr (.inr (some 1))), (1, .inl (x1)), (2, .inl (x2))] [] 126 138 M (some (.inl r), 126, 138, M)) (x1 : Int) (x2 : Int) (M : am_M) (r : Int) (h : Country_toldBits_1_25   k4 x1 x2 M = some r) : am_Ev L xs d me_148 25 [(0, .inr (.inr (some 1))), (1, .inl (x1)), (2, .inl (x2))] [] 126 138 M (some (.inl r), 126, 138, M) := by
  refine ev_k (pc' := 4) (ls' := [(0, .inr (.inr (some 1))), (1, .inl (x1)), (2, .inl ((x2) + (1)))]) (st' := []) (nc' := 126) (np' := 138) (M' := M) 2 rfl ?_
  exact hk4 (x1) ((x2) + (1)) M r h
theorem Country_toldBits_1_4_t {L : Nat} {xs : Nat → Int} {d : Nat} (hd : 0 ≤ d)     : ∀ (n : Nat) (x1 : Int) (x2 : Int) (M : am_M) (r : Int), Country_toldBits_1_4    n x1 x2 M = some r → am_Ev L xs d me_148 4 [(0, .inr (.inr (some 1))), (1, .inl (x1)), (2, .inl (x2))] [] 126 138 M (some (.inl r), 126, 138, M)
  | 0, _, _, M, r, h => by cases h
  | n + 1, x1, x2, M, r, h => by
    have ih := Country_toldBits_1_4_t (L := L) (xs := xs) hd     n
    refine ev_k (pc' := 7) (ls' := [(0, .inr (.inr (some 1))), (1, .inl (x1)), (2, .inl (x2))]) (st' := [.inl (6), .inl (x2)]) (nc' := 126) (np' := 138) (M' := M) 2 rfl ?_
    obtain ⟨hR, ⟨hc, h⟩ | ⟨hc, h⟩⟩ := c_ge_i h
    · refine ev_icmp 31 rfl hR.1 hR.2 (by decide) (fun _ => ?_) (fun q => absurd hc q)
      refine ev_k (pc' := 32) (ls' := [(0, .inr (.inr (some 1))), (1, .inl (x1)), (2, .inl (x2))]) (st' := [.inl (x1)]) (nc' := 126) (np' := 138) (M' := M) 1 rfl ?_
      cases h
      exact ev_ret rfl
    · refine ev_icmp 31 rfl hR.1 hR.2 (by decide) (fun q => absurd q hc) (fun _ => ?_)
      refine ev_k (pc' := 15) (ls' := [(0, .inr (.inr (some 1))), (1, .inl (x1)), (2, .inl (x2))]) (st' := [.inl (x2), .inr (.inr (some 4))]) (nc' := 126) (np' := 138) (M' := M) 3 rfl ?_
      obtain ⟨hc, v1, ev, h⟩ := rd_i h
      refine ev_ald (k := 4) (t := 0) (Or.inl ⟨rfl, rfl⟩) rfl (by decide) (by decide) rfl hc ev ?_
      refine ev_k (pc' := 16) (ls' := [(0, .inr (.inr (some 1))), (1, .inl (x1)), (2, .inl (x2))]) (st' := [.inl (v1)]) (nc' := 126) (np' := 138) (M' := M) 0 rfl ?_
      obtain ⟨hR, ⟨hc, h⟩ | ⟨hc, h⟩⟩ := c_le_i h
      · refine ev_ifc 25 rfl hR.1 (by decide) (fun _ => ?_) (fun q => absurd hc q)
        exact Country_toldBits_1_25_t hd   (Country_toldBits_1_4    n) ih (x1) (x2) M r h
      · refine ev_ifc 25 rfl hR.1 (by decide) (fun q => absurd q hc) (fun _ => ?_)
        refine ev_k (pc' := 25) (ls' := [(0, .inr (.inr (some 1))), (1, .inl (b_or (x1) (b_shl (1) (x2)))), (2, .inl (x2))]) (st' := []) (nc' := 126) (np' := 138) (M' := M) 6 rfl ?_
        exact Country_toldBits_1_25_t hd   (Country_toldBits_1_4    n) ih (b_or (x1) (b_shl (1) (x2))) (x2) M r h
theorem Country_toldBits_1_e {L : Nat} {xs : Nat → Int} {d : Nat} (hd : 0 ≤ d)    (M : am_M) (r : Int) (h : Country_toldBits_1    M = some r) : am_Ev L xs d me_148 0 (am_ar1 0 [.inr (.inr (some 1))]) [] 126 138 M (some (.inl r), 126, 138, M) := by
  refine ev_k (pc' := 4) (ls' := [(0, .inr (.inr (some 1))), (1, .inl (0)), (2, .inl (0))]) (st' := []) (nc' := 126) (np' := 138) (M' := M) 4 rfl ?_
  exact Country_toldBits_1_4_t hd     am_big (0) (0) M r h
def J_bitCount    (x0 : Int) (M : am_M) : Option (Int) := some (b_and (((b_and (((b_and ((x0) - (b_and (b_ushr (x0) (1)) (1431655765))) (858993459)) + (b_and (b_ushr ((x0) - (b_and (b_ushr (x0) (1)) (1431655765))) (2)) (858993459))) + (b_ushr ((b_and ((x0) - (b_and (b_ushr (x0) (1)) (1431655765))) (858993459)) + (b_and (b_ushr ((x0) - (b_and (b_ushr (x0) (1)) (1431655765))) (2)) (858993459))) (4))) (252645135)) + (b_ushr (b_and (((b_and ((x0) - (b_and (b_ushr (x0) (1)) (1431655765))) (858993459)) + (b_and (b_ushr ((x0) - (b_and (b_ushr (x0) (1)) (1431655765))) (2)) (858993459))) + (b_ushr ((b_and ((x0) - (b_and (b_ushr (x0) (1)) (1431655765))) (858993459)) + (b_and (b_ushr ((x0) - (b_and (b_ushr (x0) (1)) (1431655765))) (2)) (858993459))) (4))) (252645135)) (8))) + (b_ushr ((b_and (((b_and ((x0) - (b_and (b_ushr (x0) (1)) (1431655765))) (858993459)) + (b_and (b_ushr ((x0) - (b_and (b_ushr (x0) (1)) (1431655765))) (2)) (858993459))) + (b_ushr ((b_and ((x0) - (b_and (b_ushr (x0) (1)) (1431655765))) (858993459)) + (b_and (b_ushr ((x0) - (b_and (b_ushr (x0) (1)) (1431655765))) (2)) (858993459))) (4))) (252645135)) + (b_ushr (b_and (((b_and ((x0) - (b_and (b_ushr (x0) (1)) (1431655765))) (858993459)) + (b_and (b_ushr ((x0) - (b_and (b_ushr (x0) (1)) (1431655765))) (2)) (858993459))) + (b_ushr ((b_and ((x0) - (b_and (b_ushr (x0) (1)) (1431655765))) (858993459)) + (b_and (b_ushr ((x0) - (b_and (b_ushr (x0) (1)) (1431655765))) (2)) (858993459))) (4))) (252645135)) (8))) (16))) (63))
theorem J_bitCount_e {L : Nat} {xs : Nat → Int} {d : Nat} (hd : 0 ≤ d)   (x0 : Int) (M : am_M) (r : Int) (h : J_bitCount   x0 M = some r) : am_Ev L xs d me_149 0 (am_ar1 0 [.inl (x0)]) [] 126 138 M (some (.inl r), 126, 138, M) := by
  refine ev_k (pc' := 52) (ls' := [(0, .inl (((b_and (((b_and ((x0) - (b_and (b_ushr (x0) (1)) (1431655765))) (858993459)) + (b_and (b_ushr ((x0) - (b_and (b_ushr (x0) (1)) (1431655765))) (2)) (858993459))) + (b_ushr ((b_and ((x0) - (b_and (b_ushr (x0) (1)) (1431655765))) (858993459)) + (b_and (b_ushr ((x0) - (b_and (b_ushr (x0) (1)) (1431655765))) (2)) (858993459))) (4))) (252645135)) + (b_ushr (b_and (((b_and ((x0) - (b_and (b_ushr (x0) (1)) (1431655765))) (858993459)) + (b_and (b_ushr ((x0) - (b_and (b_ushr (x0) (1)) (1431655765))) (2)) (858993459))) + (b_ushr ((b_and ((x0) - (b_and (b_ushr (x0) (1)) (1431655765))) (858993459)) + (b_and (b_ushr ((x0) - (b_and (b_ushr (x0) (1)) (1431655765))) (2)) (858993459))) (4))) (252645135)) (8))) + (b_ushr ((b_and (((b_and ((x0) - (b_and (b_ushr (x0) (1)) (1431655765))) (858993459)) + (b_and (b_ushr ((x0) - (b_and (b_ushr (x0) (1)) (1431655765))) (2)) (858993459))) + (b_ushr ((b_and ((x0) - (b_and (b_ushr (x0) (1)) (1431655765))) (858993459)) + (b_and (b_ushr ((x0) - (b_and (b_ushr (x0) (1)) (1431655765))) (2)) (858993459))) (4))) (252645135)) + (b_ushr (b_and (((b_and ((x0) - (b_and (b_ushr (x0) (1)) (1431655765))) (858993459)) + (b_and (b_ushr ((x0) - (b_and (b_ushr (x0) (1)) (1431655765))) (2)) (858993459))) + (b_ushr ((b_and ((x0) - (b_and (b_ushr (x0) (1)) (1431655765))) (858993459)) + (b_and (b_ushr ((x0) - (b_and (b_ushr (x0) (1)) (1431655765))) (2)) (858993459))) (4))) (252645135)) (8))) (16))))]) (st' := [.inl (b_and (((b_and (((b_and ((x0) - (b_and (b_ushr (x0) (1)) (1431655765))) (858993459)) + (b_and (b_ushr ((x0) - (b_and (b_ushr (x0) (1)) (1431655765))) (2)) (858993459))) + (b_ushr ((b_and ((x0) - (b_and (b_ushr (x0) (1)) (1431655765))) (858993459)) + (b_and (b_ushr ((x0) - (b_and (b_ushr (x0) (1)) (1431655765))) (2)) (858993459))) (4))) (252645135)) + (b_ushr (b_and (((b_and ((x0) - (b_and (b_ushr (x0) (1)) (1431655765))) (858993459)) + (b_and (b_ushr ((x0) - (b_and (b_ushr (x0) (1)) (1431655765))) (2)) (858993459))) + (b_ushr ((b_and ((x0) - (b_and (b_ushr (x0) (1)) (1431655765))) (858993459)) + (b_and (b_ushr ((x0) - (b_and (b_ushr (x0) (1)) (1431655765))) (2)) (858993459))) (4))) (252645135)) (8))) + (b_ushr ((b_and (((b_and ((x0) - (b_and (b_ushr (x0) (1)) (1431655765))) (858993459)) + (b_and (b_ushr ((x0) - (b_and (b_ushr (x0) (1)) (1431655765))) (2)) (858993459))) + (b_ushr ((b_and ((x0) - (b_and (b_ushr (x0) (1)) (1431655765))) (858993459)) + (b_and (b_ushr ((x0) - (b_and (b_ushr (x0) (1)) (1431655765))) (2)) (858993459))) (4))) (252645135)) + (b_ushr (b_and (((b_and ((x0) - (b_and (b_ushr (x0) (1)) (1431655765))) (858993459)) + (b_and (b_ushr ((x0) - (b_and (b_ushr (x0) (1)) (1431655765))) (2)) (858993459))) + (b_ushr ((b_and ((x0) - (b_and (b_ushr (x0) (1)) (1431655765))) (858993459)) + (b_and (b_ushr ((x0) - (b_and (b_ushr (x0) (1)) (1431655765))) (2)) (858993459))) (4))) (252645135)) (8))) (16))) (63))]) (nc' := 126) (np' := 138) (M' := M) 41 rfl ?_
  cases h
  exact ev_ret rfl
def Shifts_choosePeople_57_26     (M : am_M) : Option (Int × am_M) := some (0, M)
def Shifts_choosePeople_57_77   (k35 : Int → Int → am_M → Option (Int × am_M)) (x1 : Int) (x2 : Int) (M : am_M) : Option (Int × am_M) := (k35 (x1) ((x2) + (1)) M)
def Shifts_choosePeople_57_35    : Nat → Int → Int → am_M → Option (Int × am_M)
  | 0, _, _, _ => none
  | n + 1, x1, x2, M => c_ge (x2) (6)
       (some (1, M))
       (c_eq (b_and (b_shr (x1) (x2)) (1)) (0)
       (Shifts_choosePeople_57_77   (Shifts_choosePeople_57_35    n) (x1) (x2) M)
       (c_ge (M 57 3) (4)
       (Shifts_choosePeople_57_77   (Shifts_choosePeople_57_35    n) (x1) (x2) M)
       (wa M 58 4 (M 57 3) (x2) fun M1 => fw M1 57 3 ((M1 57 3) + (1)) fun M2 => (Shifts_choosePeople_57_77   (Shifts_choosePeople_57_35    n) (x1) (x2) M2))))
def Shifts_choosePeople_57    (x1 : Int) (M : am_M) : Option (Int × am_M) := c_le (x1) (0)
       (Shifts_choosePeople_57_26     M)
       (ob (Country_toldBits_1  M) fun v1 => c_ne (b_and (x1) (b_xor (v1) (-1))) (0)
       (Shifts_choosePeople_57_26     M)
       (ob (J_bitCount (x1) M) fun v2 => c_le (v2) (4)
       (fw M 57 3 (0) fun M3 => (Shifts_choosePeople_57_35    am_big (x1) (0) M3))
       (Shifts_choosePeople_57_26     M)))
theorem Shifts_choosePeople_57_26_t {L : Nat} {xs : Nat → Int} {d : Nat} (hd : 1 ≤ d)      (M : am_M) (r : Int × am_M) (h : Shifts_choosePeople_57_26     M = some r) : am_Ev L xs d me_147 26 [] [] 126 138 M (some (.inl r.1), 126, 138, r.2) := by
  refine ev_k (pc' := 27) (ls' := []) (st' := [.inl (0)]) (nc' := 126) (np' := 138) (M' := M) 1 rfl ?_
  cases h
  exact ev_ret rfl
theorem Shifts_choosePeople_57_77_t {L : Nat} {xs : Nat → Int} {d : Nat} (hd : 1 ≤ d)   (k35 : Int → Int → am_M → Option (Int × am_M)) (hk35 : ∀ (x1 : Int) (x2 : Int) (M : am_M) (r : Int × am_M), k35 x1 x2 M = some r → am_Ev L xs d me_147 35 [(0, .inr (.inr (some 57))), (1, .inl (x1)), (2, .inl (x2))] [] 126 138 M (some (.inl r.1), 126, 138, r.2)) (x1 : Int) (x2 : Int) (M : am_M) (r : Int × am_M) (h : Shifts_choosePeople_57_77   k35 x1 x2 M = some r) : am_Ev L xs d me_147 77 [(0, .inr (.inr (some 57))), (1, .inl (x1)), (2, .inl (x2))] [] 126 138 M (some (.inl r.1), 126, 138, r.2) := by
  refine ev_k (pc' := 35) (ls' := [(0, .inr (.inr (some 57))), (1, .inl (x1)), (2, .inl ((x2) + (1)))]) (st' := []) (nc' := 126) (np' := 138) (M' := M) 2 rfl ?_
  exact hk35 (x1) ((x2) + (1)) M r h
theorem Shifts_choosePeople_57_35_t {L : Nat} {xs : Nat → Int} {d : Nat} (hd : 1 ≤ d)     : ∀ (n : Nat) (x1 : Int) (x2 : Int) (M : am_M) (r : Int × am_M), Shifts_choosePeople_57_35    n x1 x2 M = some r → am_Ev L xs d me_147 35 [(0, .inr (.inr (some 57))), (1, .inl (x1)), (2, .inl (x2))] [] 126 138 M (some (.inl r.1), 126, 138, r.2)
  | 0, _, _, M, r, h => by cases h
  | n + 1, x1, x2, M, r, h => by
    have ih := Shifts_choosePeople_57_35_t (L := L) (xs := xs) hd     n
    refine ev_k (pc' := 38) (ls' := [(0, .inr (.inr (some 57))), (1, .inl (x1)), (2, .inl (x2))]) (st' := [.inl (6), .inl (x2)]) (nc' := 126) (np' := 138) (M' := M) 2 rfl ?_
    obtain ⟨hR, ⟨hc, h⟩ | ⟨hc, h⟩⟩ := c_ge_i h
    · refine ev_icmp 83 rfl hR.1 hR.2 (by decide) (fun _ => ?_) (fun q => absurd hc q)
      refine ev_k (pc' := 84) (ls' := [(0, .inr (.inr (some 57))), (1, .inl (x1)), (2, .inl (x2))]) (st' := [.inl (1)]) (nc' := 126) (np' := 138) (M' := M) 1 rfl ?_
      cases h
      exact ev_ret rfl
    · refine ev_icmp 83 rfl hR.1 hR.2 (by decide) (fun q => absurd q hc) (fun _ => ?_)
      refine ev_k (pc' := 46) (ls' := [(0, .inr (.inr (some 57))), (1, .inl (x1)), (2, .inl (x2))]) (st' := [.inl (b_and (b_shr (x1) (x2)) (1))]) (nc' := 126) (np' := 138) (M' := M) 5 rfl ?_
      obtain ⟨hR, ⟨hc, h⟩ | ⟨hc, h⟩⟩ := c_eq_i h
      · refine ev_ifc 77 rfl hR.1 (by decide) (fun _ => ?_) (fun q => absurd hc q)
        exact Shifts_choosePeople_57_77_t hd   (Shifts_choosePeople_57_35    n) ih (x1) (x2) M r h
      · refine ev_ifc 77 rfl hR.1 (by decide) (fun q => absurd q hc) (fun _ => ?_)
        refine ev_k (pc' := 54) (ls' := [(0, .inr (.inr (some 57))), (1, .inl (x1)), (2, .inl (x2))]) (st' := [.inl (4), .inl (M 57 3)]) (nc' := 126) (np' := 138) (M' := M) 3 rfl ?_
        obtain ⟨hR, ⟨hc, h⟩ | ⟨hc, h⟩⟩ := c_ge_i h
        · refine ev_icmp 77 rfl hR.1 hR.2 (by decide) (fun _ => ?_) (fun q => absurd hc q)
          exact Shifts_choosePeople_57_77_t hd   (Shifts_choosePeople_57_35    n) ih (x1) (x2) M r h
        · refine ev_icmp 77 rfl hR.1 hR.2 (by decide) (fun q => absurd q hc) (fun _ => ?_)
          refine ev_k (pc' := 66) (ls' := [(0, .inr (.inr (some 57))), (1, .inl (x1)), (2, .inl (x2))]) (st' := [.inl (x2), .inl (M 57 3), .inr (.inr (some 58))]) (nc' := 126) (np' := 138) (M' := M) 5 rfl ?_
          obtain ⟨hc, M1, eM, h⟩ := wa_i h
          refine ev_iast (k := 58) rfl (by decide) rfl hc eM ?_
          refine ev_k (pc' := 77) (ls' := [(0, .inr (.inr (some 57))), (1, .inl (x1)), (2, .inl (x2))]) (st' := []) (nc' := 126) (np' := 138) (M' := am_up M1 57 3 ((M1 57 3) + (1))) 6 rfl ?_
          obtain ⟨M2, eM, h⟩ := fw_i h
          rw [← eM]
          exact Shifts_choosePeople_57_77_t hd   (Shifts_choosePeople_57_35    n) ih (x1) (x2) M2 r h
theorem Shifts_choosePeople_57_e {L : Nat} {xs : Nat → Int} {d : Nat} (hd : 1 ≤ d)   (x1 : Int) (M : am_M) (r : Int × am_M) (h : Shifts_choosePeople_57   x1 M = some r) : am_Ev L xs d me_147 0 (am_ar1 0 [.inr (.inr (some 57)), .inl (x1)]) [] 126 138 M (some (.inl r.1), 126, 138, r.2) := by
  refine ev_k (pc' := 1) (ls' := [(0, .inr (.inr (some 57))), (1, .inl (x1))]) (st' := [.inl (x1)]) (nc' := 126) (np' := 138) (M' := M) 1 rfl ?_
  obtain ⟨hR, ⟨hc, h⟩ | ⟨hc, h⟩⟩ := c_le_i h
  · refine ev_ifc 26 rfl hR.1 (by decide) (fun _ => ?_) (fun q => absurd hc q)
    exact Shifts_choosePeople_57_26_t hd      M r h
  · refine ev_ifc 26 rfl hR.1 (by decide) (fun q => absurd q hc) (fun _ => ?_)
    refine ev_k (pc' := 9) (ls' := [(0, .inr (.inr (some 57))), (1, .inl (x1))]) (st' := [.inr (.inr (some 1)), .inl (x1)]) (nc' := 126) (np' := 138) (M' := M) 3 rfl ?_
    obtain ⟨v1, hv, h⟩ := ob_i h
    refine ev_call (t := 148) (as := [.inr (.inr (some 1))]) (rest := [.inl (x1)]) rfl rfl rfl (by omega) (Country_toldBits_1_e (by omega)  M _ hv) ?_
    refine ev_k (pc' := 15) (ls' := [(0, .inr (.inr (some 57))), (1, .inl (x1))]) (st' := [.inl (b_and (x1) (b_xor (v1) (-1)))]) (nc' := 126) (np' := 138) (M' := M) 3 rfl ?_
    obtain ⟨hR, ⟨hc, h⟩ | ⟨hc, h⟩⟩ := c_ne_i h
    · refine ev_ifc 26 rfl hR.1 (by decide) (fun _ => ?_) (fun q => absurd hc q)
      exact Shifts_choosePeople_57_26_t hd      M r h
    · refine ev_ifc 26 rfl hR.1 (by decide) (fun q => absurd q hc) (fun _ => ?_)
      refine ev_k (pc' := 19) (ls' := [(0, .inr (.inr (some 57))), (1, .inl (x1))]) (st' := [.inl (x1)]) (nc' := 126) (np' := 138) (M' := M) 1 rfl ?_
      obtain ⟨v2, hv, h⟩ := ob_i h
      refine ev_call (t := 149) (as := [.inl (x1)]) (rest := []) rfl rfl rfl (by omega) (J_bitCount_e (by omega) (x1) M _ hv) ?_
      refine ev_k (pc' := 23) (ls' := [(0, .inr (.inr (some 57))), (1, .inl (x1))]) (st' := [.inl (4), .inl (v2)]) (nc' := 126) (np' := 138) (M' := M) 1 rfl ?_
      obtain ⟨hR, ⟨hc, h⟩ | ⟨hc, h⟩⟩ := c_le_i h
      · refine ev_icmp 28 rfl hR.1 hR.2 (by decide) (fun _ => ?_) (fun q => absurd hc q)
        refine ev_k (pc' := 33) (ls' := [(0, .inr (.inr (some 57))), (1, .inl (x1))]) (st' := []) (nc' := 126) (np' := 138) (M' := am_up M 57 3 (0)) 3 rfl ?_
        obtain ⟨M3, eM, h⟩ := fw_i h
        rw [← eM]
        refine ev_k (pc' := 35) (ls' := [(0, .inr (.inr (some 57))), (1, .inl (x1)), (2, .inl (0))]) (st' := []) (nc' := 126) (np' := 138) (M' := M3) 2 rfl ?_
        exact Shifts_choosePeople_57_35_t hd     am_big (x1) (0) M3 r h
      · refine ev_icmp 28 rfl hR.1 hR.2 (by decide) (fun q => absurd q hc) (fun _ => ?_)
        exact Shifts_choosePeople_57_26_t hd      M r h
def J_fill_60_5    : Nat → Int → Int → Int → am_M → Option (am_M)
  | 0, _, _, _, _ => none
  | n + 1, x1, x2, x3, M => c_ge (x2) (x3)
       (some (M))
       (wa M 60 800 (x2) (x1) fun M1 => (J_fill_60_5    n (x1) ((x2) + (1)) (x3) M1))
def J_fill_60    (x1 : Int) (M : am_M) : Option (am_M) := (J_fill_60_5    am_big (x1) (0) (((800 : Nat) : Int)) M)
theorem J_fill_60_5_t {L : Nat} {xs : Nat → Int} {d : Nat} (hd : 0 ≤ d)     : ∀ (n : Nat) (x1 : Int) (x2 : Int) (x3 : Int) (M : am_M) (r : am_M), J_fill_60_5    n x1 x2 x3 M = some r → am_Ev L xs d me_2 5 [(0, .inr (.inr (some 60))), (1, .inl (x1)), (2, .inl (x2)), (3, .inl (x3))] [] 126 138 M (none, 126, 138, r)
  | 0, _, _, _, M, r, h => by cases h
  | n + 1, x1, x2, x3, M, r, h => by
    have ih := J_fill_60_5_t (L := L) (xs := xs) hd     n
    refine ev_k (pc' := 7) (ls' := [(0, .inr (.inr (some 60))), (1, .inl (x1)), (2, .inl (x2)), (3, .inl (x3))]) (st' := [.inl (x3), .inl (x2)]) (nc' := 126) (np' := 138) (M' := M) 2 rfl ?_
    obtain ⟨hR, ⟨hc, h⟩ | ⟨hc, h⟩⟩ := c_ge_i h
    · refine ev_icmp 20 rfl hR.1 hR.2 (by decide) (fun _ => ?_) (fun q => absurd hc q)
      refine ev_k (pc' := 20) (ls' := [(0, .inr (.inr (some 60))), (1, .inl (x1)), (2, .inl (x2)), (3, .inl (x3))]) (st' := []) (nc' := 126) (np' := 138) (M' := M) 0 rfl ?_
      cases h
      exact ev_ret rfl
    · refine ev_icmp 20 rfl hR.1 hR.2 (by decide) (fun q => absurd q hc) (fun _ => ?_)
      refine ev_k (pc' := 13) (ls' := [(0, .inr (.inr (some 60))), (1, .inl (x1)), (2, .inl (x2)), (3, .inl (x3))]) (st' := [.inl (x1), .inl (x2), .inr (.inr (some 60))]) (nc' := 126) (np' := 138) (M' := M) 3 rfl ?_
      obtain ⟨hc, M1, eM, h⟩ := wa_i h
      refine ev_iast (k := 60) rfl (by decide) rfl hc eM ?_
      refine ev_k (pc' := 5) (ls' := [(0, .inr (.inr (some 60))), (1, .inl (x1)), (2, .inl ((x2) + (1))), (3, .inl (x3))]) (st' := []) (nc' := 126) (np' := 138) (M' := M1) 2 rfl ?_
      exact ih (x1) ((x2) + (1)) (x3) M1 r h
theorem J_fill_60_e {L : Nat} {xs : Nat → Int} {d : Nat} (hd : 0 ≤ d)   (x1 : Int) (M : am_M) (r : am_M) (h : J_fill_60   x1 M = some r) : am_Ev L xs d me_2 0 (am_ar1 0 [.inr (.inr (some 60)), .inl (x1)]) [] 126 138 M (none, 126, 138, r) := by
  refine ev_k (pc' := 5) (ls' := [(0, .inr (.inr (some 60))), (1, .inl (x1)), (2, .inl (0)), (3, .inl (((800 : Nat) : Int)))]) (st' := []) (nc' := 126) (np' := 138) (M' := M) 5 rfl ?_
  exact J_fill_60_5_t hd     am_big (x1) (0) (((800 : Nat) : Int)) M r h
def Shifts_memberAt_57_19    (s0 : Int) (M : am_M) : Option (Int) := some (s0)
def Shifts_memberAt_57_18     (M : am_M) : Option (Int) := (Shifts_memberAt_57_19    (-1) M)
def Shifts_memberAt_57    (x1 : Int) (M : am_M) : Option (Int) := c_lt (x1) (0)
       (Shifts_memberAt_57_18     M)
       (c_ge (x1) (4)
       (Shifts_memberAt_57_18     M)
       (rd M 58 4 (x1) fun v1 => (Shifts_memberAt_57_19    (v1) M)))
theorem Shifts_memberAt_57_19_t {L : Nat} {xs : Nat → Int} {d : Nat} (hd : 0 ≤ d)     (s0 : Int) (M : am_M) (r : Int) (h : Shifts_memberAt_57_19    s0 M = some r) : am_Ev L xs d me_153 19 [] [.inl (s0)] 126 138 M (some (.inl r), 126, 138, M) := by
  refine ev_k (pc' := 19) (ls' := []) (st' := [.inl (s0)]) (nc' := 126) (np' := 138) (M' := M) 0 rfl ?_
  cases h
  exact ev_ret rfl
theorem Shifts_memberAt_57_18_t {L : Nat} {xs : Nat → Int} {d : Nat} (hd : 0 ≤ d)      (M : am_M) (r : Int) (h : Shifts_memberAt_57_18     M = some r) : am_Ev L xs d me_153 18 [] [] 126 138 M (some (.inl r), 126, 138, M) := by
  refine ev_k (pc' := 19) (ls' := []) (st' := [.inl (-1)]) (nc' := 126) (np' := 138) (M' := M) 1 rfl ?_
  exact Shifts_memberAt_57_19_t hd     (-1) M r h
theorem Shifts_memberAt_57_e {L : Nat} {xs : Nat → Int} {d : Nat} (hd : 0 ≤ d)   (x1 : Int) (M : am_M) (r : Int) (h : Shifts_memberAt_57   x1 M = some r) : am_Ev L xs d me_153 0 (am_ar1 0 [.inr (.inr (some 57)), .inl (x1)]) [] 126 138 M (some (.inl r), 126, 138, M) := by
  refine ev_k (pc' := 1) (ls' := [(0, .inr (.inr (some 57))), (1, .inl (x1))]) (st' := [.inl (x1)]) (nc' := 126) (np' := 138) (M' := M) 1 rfl ?_
  obtain ⟨hR, ⟨hc, h⟩ | ⟨hc, h⟩⟩ := c_lt_i h
  · refine ev_ifc 18 rfl hR.1 (by decide) (fun _ => ?_) (fun q => absurd hc q)
    exact Shifts_memberAt_57_18_t hd      M r h
  · refine ev_ifc 18 rfl hR.1 (by decide) (fun q => absurd q hc) (fun _ => ?_)
    refine ev_k (pc' := 6) (ls' := [(0, .inr (.inr (some 57))), (1, .inl (x1))]) (st' := [.inl (4), .inl (x1)]) (nc' := 126) (np' := 138) (M' := M) 2 rfl ?_
    obtain ⟨hR, ⟨hc, h⟩ | ⟨hc, h⟩⟩ := c_ge_i h
    · refine ev_icmp 18 rfl hR.1 hR.2 (by decide) (fun _ => ?_) (fun q => absurd hc q)
      exact Shifts_memberAt_57_18_t hd      M r h
    · refine ev_icmp 18 rfl hR.1 hR.2 (by decide) (fun q => absurd q hc) (fun _ => ?_)
      refine ev_k (pc' := 14) (ls' := [(0, .inr (.inr (some 57))), (1, .inl (x1))]) (st' := [.inl (x1), .inr (.inr (some 58))]) (nc' := 126) (np' := 138) (M' := M) 3 rfl ?_
      obtain ⟨hc, v1, ev, h⟩ := rd_i h
      refine ev_ald (k := 58) (t := 0) (Or.inl ⟨rfl, rfl⟩) rfl (by decide) (by decide) rfl hc ev ?_
      refine ev_k (pc' := 19) (ls' := []) (st' := [.inl (v1)]) (nc' := 126) (np' := 138) (M' := M) 1 rfl ?_
      exact Shifts_memberAt_57_19_t hd     (v1) M r h
def Shifts_tiredIn_57_29    (s0 : Int) (M : am_M) : Option (Int) := some (s0)
def Shifts_tiredIn_57_28     (M : am_M) : Option (Int) := (Shifts_tiredIn_57_29    (0) M)
def Shifts_tiredIn_57    (x1 : Int) (x2 : Int) (M : am_M) : Option (Int) := c_lt (((4) * (x1)) + (x2)) (0)
       (Shifts_tiredIn_57_28     M)
       (c_ge (((4) * (x1)) + (x2)) (((28 : Nat) : Int))
       (Shifts_tiredIn_57_28     M)
       (rd M 59 28 (((4) * (x1)) + (x2)) fun v1 => (Shifts_tiredIn_57_29    (v1) M)))
theorem Shifts_tiredIn_57_29_t {L : Nat} {xs : Nat → Int} {d : Nat} (hd : 0 ≤ d)     (s0 : Int) (M : am_M) (r : Int) (h : Shifts_tiredIn_57_29    s0 M = some r) : am_Ev L xs d me_154 29 [] [.inl (s0)] 126 138 M (some (.inl r), 126, 138, M) := by
  refine ev_k (pc' := 29) (ls' := []) (st' := [.inl (s0)]) (nc' := 126) (np' := 138) (M' := M) 0 rfl ?_
  cases h
  exact ev_ret rfl
theorem Shifts_tiredIn_57_28_t {L : Nat} {xs : Nat → Int} {d : Nat} (hd : 0 ≤ d)      (M : am_M) (r : Int) (h : Shifts_tiredIn_57_28     M = some r) : am_Ev L xs d me_154 28 [] [] 126 138 M (some (.inl r), 126, 138, M) := by
  refine ev_k (pc' := 29) (ls' := []) (st' := [.inl (0)]) (nc' := 126) (np' := 138) (M' := M) 1 rfl ?_
  exact Shifts_tiredIn_57_29_t hd     (0) M r h
theorem Shifts_tiredIn_57_e {L : Nat} {xs : Nat → Int} {d : Nat} (hd : 0 ≤ d)   (x1 : Int) (x2 : Int) (M : am_M) (r : Int) (h : Shifts_tiredIn_57   x1 x2 M = some r) : am_Ev L xs d me_154 0 (am_ar1 0 [.inr (.inr (some 57)), .inl (x1), .inl (x2)]) [] 126 138 M (some (.inl r), 126, 138, M) := by
  refine ev_k (pc' := 7) (ls' := [(3, .inl (((4) * (x1)) + (x2))), (0, .inr (.inr (some 57))), (1, .inl (x1)), (2, .inl (x2))]) (st' := [.inl (((4) * (x1)) + (x2))]) (nc' := 126) (np' := 138) (M' := M) 7 rfl ?_
  obtain ⟨hR, ⟨hc, h⟩ | ⟨hc, h⟩⟩ := c_lt_i h
  · refine ev_ifc 28 rfl hR.1 (by decide) (fun _ => ?_) (fun q => absurd hc q)
    exact Shifts_tiredIn_57_28_t hd      M r h
  · refine ev_ifc 28 rfl hR.1 (by decide) (fun q => absurd q hc) (fun _ => ?_)
    refine ev_k (pc' := 16) (ls' := [(3, .inl (((4) * (x1)) + (x2))), (0, .inr (.inr (some 57))), (1, .inl (x1)), (2, .inl (x2))]) (st' := [.inl (((28 : Nat) : Int)), .inl (((4) * (x1)) + (x2))]) (nc' := 126) (np' := 138) (M' := M) 4 rfl ?_
    obtain ⟨hR, ⟨hc, h⟩ | ⟨hc, h⟩⟩ := c_ge_i h
    · refine ev_icmp 28 rfl hR.1 hR.2 (by decide) (fun _ => ?_) (fun q => absurd hc q)
      exact Shifts_tiredIn_57_28_t hd      M r h
    · refine ev_icmp 28 rfl hR.1 hR.2 (by decide) (fun q => absurd q hc) (fun _ => ?_)
      refine ev_k (pc' := 24) (ls' := [(3, .inl (((4) * (x1)) + (x2))), (0, .inr (.inr (some 57))), (1, .inl (x1)), (2, .inl (x2))]) (st' := [.inl (((4) * (x1)) + (x2)), .inr (.inr (some 59))]) (nc' := 126) (np' := 138) (M' := M) 3 rfl ?_
      obtain ⟨hc, v1, ev, h⟩ := rd_i h
      refine ev_ald (k := 59) (t := 0) (Or.inl ⟨rfl, rfl⟩) rfl (by decide) (by decide) rfl hc ev ?_
      refine ev_k (pc' := 29) (ls' := []) (st' := [.inl (v1)]) (nc' := 126) (np' := 138) (M' := M) 1 rfl ?_
      exact Shifts_tiredIn_57_29_t hd     (v1) M r h
def Shifts_passTurn_57_176   (k2 : Int → Int → Int → am_M → Option (am_M)) (x1 : Int) (x2 : Int) (x3 : Int) (M : am_M) : Option (am_M) := (k2 (x1) (x2) ((x3) + (1)) M)
def Shifts_passTurn_57_150   (k2 : Int → Int → Int → am_M → Option (am_M)) (x1 : Int) (x2 : Int) (x3 : Int) (x4 : Int) (x5 : Int) (x6 : Int) (M : am_M) : Option (am_M) := rd M 60 800 (x5) fun v1 => ob (J_min (99) ((x4) + (v1)) M) fun v2 => ob (J_max (0) (v2) M) fun v3 => wa M 59 28 (x6) (v3) fun M4 => (Shifts_passTurn_57_176   k2 (x1) (x2) (x3) M4)
def Shifts_passTurn_57_149   (k2 : Int → Int → Int → am_M → Option (am_M)) (x1 : Int) (x2 : Int) (x3 : Int) (x4 : Int) (x5 : Int) (x6 : Int) (s1 : Int) (s2 : Int) (M : am_M) : Option (am_M) := wa M 60 800 (s1) (s2) fun M1 => (Shifts_passTurn_57_150   k2 (x1) (x2) (x3) (x4) (x5) (x6) M1)
def Shifts_passTurn_57_32   (k2 : Int → Int → Int → am_M → Option (am_M)) (x1 : Int) (x2 : Int) (x3 : Int) (x4 : Int) (s0 : Int) (s1 : Int) (M : am_M) : Option (am_M) := c_lt (((s0) * (s1)) + (x4)) (0)
       (Shifts_passTurn_57_176   k2 (x1) (x2) (x3) M)
       (c_ge (((s0) * (s1)) + (x4)) (((800 : Nat) : Int))
       (Shifts_passTurn_57_176   k2 (x1) (x2) (x3) M)
       (c_lt (((4) * ((x1) + (1))) + (x3)) (0)
       (Shifts_passTurn_57_176   k2 (x1) (x2) (x3) M)
       (c_ge (((4) * ((x1) + (1))) + (x3)) (((28 : Nat) : Int))
       (Shifts_passTurn_57_176   k2 (x1) (x2) (x3) M)
       (rd M 60 800 (((s0) * (s1)) + (x4)) fun v1 => c_ne (v1) (-100)
       (Shifts_passTurn_57_150   k2 (x1) (x2) (x3) (x4) (((s0) * (s1)) + (x4)) (((4) * ((x1) + (1))) + (x3)) M)
       (ob (Shifts_memberAt_57 (x3) M) fun v2 => ob (Country_armOf_1 (v2) M) fun v3 => c_ne (x3) (x2)
       (oc (Law_resting_5 (v3) (x4) (M 57 10) M) fun v4 M5 => (Shifts_passTurn_57_149   k2 (x1) (x2) (x3) (x4) (((s0) * (s1)) + (x4)) (((4) * ((x1) + (1))) + (x3)) (((s0) * (s1)) + (x4)) (-(v4)) M5))
       (oc (Law_tiring_5 (2) (v3) (x4) (M 57 10) M) fun v6 M7 => (Shifts_passTurn_57_149   k2 (x1) (x2) (x3) (x4) (((s0) * (s1)) + (x4)) (((4) * ((x1) + (1))) + (x3)) (((s0) * (s1)) + (x4)) (v6) M7)))))))
def Shifts_passTurn_57_2    : Nat → Int → Int → Int → am_M → Option (am_M)
  | 0, _, _, _, _ => none
  | n + 1, x1, x2, x3, M => c_ge (x3) (M 57 3)
       (some (M))
       (ob (Shifts_tiredIn_57 (x1) (x3) M) fun v1 => c_ne (x3) (x2)
       ((Shifts_passTurn_57_32   (Shifts_passTurn_57_2    n) (x1) (x2) (x3) (v1) (100) ((4) + (x3)) M))
       ((Shifts_passTurn_57_32   (Shifts_passTurn_57_2    n) (x1) (x2) (x3) (v1) (100) (x3) M)))
def Shifts_passTurn_57    (x1 : Int) (x2 : Int) (M : am_M) : Option (am_M) := (Shifts_passTurn_57_2    am_big (x1) (x2) (0) M)
theorem Shifts_passTurn_57_176_t {L : Nat} {xs : Nat → Int} {d : Nat} (hd : 3 ≤ d)   (k2 : Int → Int → Int → am_M → Option (am_M)) (hk2 : ∀ (x1 : Int) (x2 : Int) (x3 : Int) (M : am_M) (r : am_M), k2 x1 x2 x3 M = some r → am_Ev L xs d me_155 2 [(0, .inr (.inr (some 57))), (1, .inl (x1)), (2, .inl (x2)), (3, .inl (x3))] [] 126 138 M (none, 126, 138, r)) (x1 : Int) (x2 : Int) (x3 : Int) (M : am_M) (r : am_M) (h : Shifts_passTurn_57_176   k2 x1 x2 x3 M = some r) : am_Ev L xs d me_155 176 [(0, .inr (.inr (some 57))), (1, .inl (x1)), (2, .inl (x2)), (3, .inl (x3))] [] 126 138 M (none, 126, 138, r) := by
  refine ev_k (pc' := 2) (ls' := [(0, .inr (.inr (some 57))), (1, .inl (x1)), (2, .inl (x2)), (3, .inl ((x3) + (1)))]) (st' := []) (nc' := 126) (np' := 138) (M' := M) 2 rfl ?_
  exact hk2 (x1) (x2) ((x3) + (1)) M r h
theorem Shifts_passTurn_57_150_t {L : Nat} {xs : Nat → Int} {d : Nat} (hd : 3 ≤ d)   (k2 : Int → Int → Int → am_M → Option (am_M)) (hk2 : ∀ (x1 : Int) (x2 : Int) (x3 : Int) (M : am_M) (r : am_M), k2 x1 x2 x3 M = some r → am_Ev L xs d me_155 2 [(0, .inr (.inr (some 57))), (1, .inl (x1)), (2, .inl (x2)), (3, .inl (x3))] [] 126 138 M (none, 126, 138, r)) (x1 : Int) (x2 : Int) (x3 : Int) (x4 : Int) (x5 : Int) (x6 : Int) (M : am_M) (r : am_M) (h : Shifts_passTurn_57_150   k2 x1 x2 x3 x4 x5 x6 M = some r) : am_Ev L xs d me_155 150 [(0, .inr (.inr (some 57))), (1, .inl (x1)), (2, .inl (x2)), (3, .inl (x3)), (4, .inl (x4)), (5, .inl (x5)), (6, .inl (x6))] [] 126 138 M (none, 126, 138, r) := by
  refine ev_k (pc' := 167) (ls' := [(0, .inr (.inr (some 57))), (1, .inl (x1)), (2, .inl (x2)), (3, .inl (x3)), (4, .inl (x4)), (5, .inl (x5)), (6, .inl (x6))]) (st' := [.inl (x5), .inr (.inr (some 60)), .inl (x4), .inl (99), .inl (0), .inl (x6), .inr (.inr (some 59))]) (nc' := 126) (np' := 138) (M' := M) 9 rfl ?_
  obtain ⟨hc, v1, ev, h⟩ := rd_i h
  refine ev_ald (k := 60) (t := 0) (Or.inl ⟨rfl, rfl⟩) rfl (by decide) (by decide) rfl hc ev ?_
  refine ev_k (pc' := 169) (ls' := [(0, .inr (.inr (some 57))), (1, .inl (x1)), (2, .inl (x2)), (3, .inl (x3)), (4, .inl (x4)), (5, .inl (x5)), (6, .inl (x6))]) (st' := [.inl ((x4) + (v1)), .inl (99), .inl (0), .inl (x6), .inr (.inr (some 59))]) (nc' := 126) (np' := 138) (M' := M) 1 rfl ?_
  obtain ⟨v2, hv, h⟩ := ob_i h
  refine ev_call (t := 60) (as := [.inl (99), .inl ((x4) + (v1))]) (rest := [.inl (0), .inl (x6), .inr (.inr (some 59))]) rfl rfl rfl (by omega) (J_min_e (by omega) (99) ((x4) + (v1)) M _ hv) ?_
  refine ev_k (pc' := 172) (ls' := [(0, .inr (.inr (some 57))), (1, .inl (x1)), (2, .inl (x2)), (3, .inl (x3)), (4, .inl (x4)), (5, .inl (x5)), (6, .inl (x6))]) (st' := [.inl (v2), .inl (0), .inl (x6), .inr (.inr (some 59))]) (nc' := 126) (np' := 138) (M' := M) 0 rfl ?_
  obtain ⟨v3, hv, h⟩ := ob_i h
  refine ev_call (t := 61) (as := [.inl (0), .inl (v2)]) (rest := [.inl (x6), .inr (.inr (some 59))]) rfl rfl rfl (by omega) (J_max_e (by omega) (0) (v2) M _ hv) ?_
  refine ev_k (pc' := 175) (ls' := [(0, .inr (.inr (some 57))), (1, .inl (x1)), (2, .inl (x2)), (3, .inl (x3)), (4, .inl (x4)), (5, .inl (x5)), (6, .inl (x6))]) (st' := [.inl (v3), .inl (x6), .inr (.inr (some 59))]) (nc' := 126) (np' := 138) (M' := M) 0 rfl ?_
  obtain ⟨hc, M4, eM, h⟩ := wa_i h
  refine ev_iast (k := 59) rfl (by decide) rfl hc eM ?_
  exact Shifts_passTurn_57_176_t hd   k2 hk2 (x1) (x2) (x3) M4 r h
theorem Shifts_passTurn_57_149_t {L : Nat} {xs : Nat → Int} {d : Nat} (hd : 3 ≤ d)   (k2 : Int → Int → Int → am_M → Option (am_M)) (hk2 : ∀ (x1 : Int) (x2 : Int) (x3 : Int) (M : am_M) (r : am_M), k2 x1 x2 x3 M = some r → am_Ev L xs d me_155 2 [(0, .inr (.inr (some 57))), (1, .inl (x1)), (2, .inl (x2)), (3, .inl (x3))] [] 126 138 M (none, 126, 138, r)) (x1 : Int) (x2 : Int) (x3 : Int) (x4 : Int) (x5 : Int) (x6 : Int) (s1 : Int) (s2 : Int) (M : am_M) (r : am_M) (h : Shifts_passTurn_57_149   k2 x1 x2 x3 x4 x5 x6 s1 s2 M = some r) : am_Ev L xs d me_155 149 [(0, .inr (.inr (some 57))), (1, .inl (x1)), (2, .inl (x2)), (3, .inl (x3)), (4, .inl (x4)), (5, .inl (x5)), (6, .inl (x6))] [.inl (s2), .inl (s1), .inr (.inr (some 60))] 126 138 M (none, 126, 138, r) := by
  refine ev_k (pc' := 149) (ls' := [(0, .inr (.inr (some 57))), (1, .inl (x1)), (2, .inl (x2)), (3, .inl (x3)), (4, .inl (x4)), (5, .inl (x5)), (6, .inl (x6))]) (st' := [.inl (s2), .inl (s1), .inr (.inr (some 60))]) (nc' := 126) (np' := 138) (M' := M) 0 rfl ?_
  obtain ⟨hc, M1, eM, h⟩ := wa_i h
  refine ev_iast (k := 60) rfl (by decide) rfl hc eM ?_
  exact Shifts_passTurn_57_150_t hd   k2 hk2 (x1) (x2) (x3) (x4) (x5) (x6) M1 r h
theorem Shifts_passTurn_57_32_t {L : Nat} {xs : Nat → Int} {d : Nat} (hd : 3 ≤ d)   (k2 : Int → Int → Int → am_M → Option (am_M)) (hk2 : ∀ (x1 : Int) (x2 : Int) (x3 : Int) (M : am_M) (r : am_M), k2 x1 x2 x3 M = some r → am_Ev L xs d me_155 2 [(0, .inr (.inr (some 57))), (1, .inl (x1)), (2, .inl (x2)), (3, .inl (x3))] [] 126 138 M (none, 126, 138, r)) (x1 : Int) (x2 : Int) (x3 : Int) (x4 : Int) (s0 : Int) (s1 : Int) (M : am_M) (r : am_M) (h : Shifts_passTurn_57_32   k2 x1 x2 x3 x4 s0 s1 M = some r) : am_Ev L xs d me_155 32 [(0, .inr (.inr (some 57))), (1, .inl (x1)), (2, .inl (x2)), (3, .inl (x3)), (4, .inl (x4))] [.inl (s1), .inl (s0)] 126 138 M (none, 126, 138, r) := by
  refine ev_k (pc' := 49) (ls' := [(6, .inl (((4) * ((x1) + (1))) + (x3))), (5, .inl (((s0) * (s1)) + (x4))), (0, .inr (.inr (some 57))), (1, .inl (x1)), (2, .inl (x2)), (3, .inl (x3)), (4, .inl (x4))]) (st' := [.inl (((s0) * (s1)) + (x4))]) (nc' := 126) (np' := 138) (M' := M) 13 rfl ?_
  obtain ⟨hR, ⟨hc, h⟩ | ⟨hc, h⟩⟩ := c_lt_i h
  · refine ev_ifc 176 rfl hR.1 (by decide) (fun _ => ?_) (fun q => absurd hc q)
    exact Shifts_passTurn_57_176_t hd   k2 hk2 (x1) (x2) (x3) M r h
  · refine ev_ifc 176 rfl hR.1 (by decide) (fun q => absurd q hc) (fun _ => ?_)
    refine ev_k (pc' := 59) (ls' := [(6, .inl (((4) * ((x1) + (1))) + (x3))), (5, .inl (((s0) * (s1)) + (x4))), (0, .inr (.inr (some 57))), (1, .inl (x1)), (2, .inl (x2)), (3, .inl (x3)), (4, .inl (x4))]) (st' := [.inl (((800 : Nat) : Int)), .inl (((s0) * (s1)) + (x4))]) (nc' := 126) (np' := 138) (M' := M) 4 rfl ?_
    obtain ⟨hR, ⟨hc, h⟩ | ⟨hc, h⟩⟩ := c_ge_i h
    · refine ev_icmp 176 rfl hR.1 hR.2 (by decide) (fun _ => ?_) (fun q => absurd hc q)
      exact Shifts_passTurn_57_176_t hd   k2 hk2 (x1) (x2) (x3) M r h
    · refine ev_icmp 176 rfl hR.1 hR.2 (by decide) (fun q => absurd q hc) (fun _ => ?_)
      refine ev_k (pc' := 64) (ls' := [(6, .inl (((4) * ((x1) + (1))) + (x3))), (5, .inl (((s0) * (s1)) + (x4))), (0, .inr (.inr (some 57))), (1, .inl (x1)), (2, .inl (x2)), (3, .inl (x3)), (4, .inl (x4))]) (st' := [.inl (((4) * ((x1) + (1))) + (x3))]) (nc' := 126) (np' := 138) (M' := M) 1 rfl ?_
      obtain ⟨hR, ⟨hc, h⟩ | ⟨hc, h⟩⟩ := c_lt_i h
      · refine ev_ifc 176 rfl hR.1 (by decide) (fun _ => ?_) (fun q => absurd hc q)
        exact Shifts_passTurn_57_176_t hd   k2 hk2 (x1) (x2) (x3) M r h
      · refine ev_ifc 176 rfl hR.1 (by decide) (fun q => absurd q hc) (fun _ => ?_)
        refine ev_k (pc' := 74) (ls' := [(6, .inl (((4) * ((x1) + (1))) + (x3))), (5, .inl (((s0) * (s1)) + (x4))), (0, .inr (.inr (some 57))), (1, .inl (x1)), (2, .inl (x2)), (3, .inl (x3)), (4, .inl (x4))]) (st' := [.inl (((28 : Nat) : Int)), .inl (((4) * ((x1) + (1))) + (x3))]) (nc' := 126) (np' := 138) (M' := M) 4 rfl ?_
        obtain ⟨hR, ⟨hc, h⟩ | ⟨hc, h⟩⟩ := c_ge_i h
        · refine ev_icmp 176 rfl hR.1 hR.2 (by decide) (fun _ => ?_) (fun q => absurd hc q)
          exact Shifts_passTurn_57_176_t hd   k2 hk2 (x1) (x2) (x3) M r h
        · refine ev_icmp 176 rfl hR.1 hR.2 (by decide) (fun q => absurd q hc) (fun _ => ?_)
          refine ev_k (pc' := 83) (ls' := [(6, .inl (((4) * ((x1) + (1))) + (x3))), (5, .inl (((s0) * (s1)) + (x4))), (0, .inr (.inr (some 57))), (1, .inl (x1)), (2, .inl (x2)), (3, .inl (x3)), (4, .inl (x4))]) (st' := [.inl (((s0) * (s1)) + (x4)), .inr (.inr (some 60))]) (nc' := 126) (np' := 138) (M' := M) 3 rfl ?_
          obtain ⟨hc, v1, ev, h⟩ := rd_i h
          refine ev_ald (k := 60) (t := 0) (Or.inl ⟨rfl, rfl⟩) rfl (by decide) (by decide) rfl hc ev ?_
          refine ev_k (pc' := 86) (ls' := [(6, .inl (((4) * ((x1) + (1))) + (x3))), (5, .inl (((s0) * (s1)) + (x4))), (0, .inr (.inr (some 57))), (1, .inl (x1)), (2, .inl (x2)), (3, .inl (x3)), (4, .inl (x4))]) (st' := [.inl (-100), .inl (v1)]) (nc' := 126) (np' := 138) (M' := M) 1 rfl ?_
          obtain ⟨hR, ⟨hc, h⟩ | ⟨hc, h⟩⟩ := c_ne_i h
          · refine ev_icmp 150 rfl hR.1 hR.2 (by decide) (fun _ => ?_) (fun q => absurd hc q)
            exact Shifts_passTurn_57_150_t hd   k2 hk2 (x1) (x2) (x3) (x4) (((s0) * (s1)) + (x4)) (((4) * ((x1) + (1))) + (x3)) M r h
          · refine ev_icmp 150 rfl hR.1 hR.2 (by decide) (fun q => absurd q hc) (fun _ => ?_)
            refine ev_k (pc' := 95) (ls' := [(6, .inl (((4) * ((x1) + (1))) + (x3))), (5, .inl (((s0) * (s1)) + (x4))), (0, .inr (.inr (some 57))), (1, .inl (x1)), (2, .inl (x2)), (3, .inl (x3)), (4, .inl (x4))]) (st' := [.inl (x3), .inr (.inr (some 57)), .inr (.inr (some 1))]) (nc' := 126) (np' := 138) (M' := M) 4 rfl ?_
            obtain ⟨v2, hv, h⟩ := ob_i h
            refine ev_call (t := 153) (as := [.inr (.inr (some 57)), .inl (x3)]) (rest := [.inr (.inr (some 1))]) rfl rfl rfl (by omega) (Shifts_memberAt_57_e (by omega) (x3) M _ hv) ?_
            refine ev_k (pc' := 98) (ls' := [(6, .inl (((4) * ((x1) + (1))) + (x3))), (5, .inl (((s0) * (s1)) + (x4))), (0, .inr (.inr (some 57))), (1, .inl (x1)), (2, .inl (x2)), (3, .inl (x3)), (4, .inl (x4))]) (st' := [.inl (v2), .inr (.inr (some 1))]) (nc' := 126) (np' := 138) (M' := M) 0 rfl ?_
            obtain ⟨v3, hv, h⟩ := ob_i h
            refine ev_call (t := 63) (as := [.inr (.inr (some 1)), .inl (v2)]) (rest := []) rfl rfl rfl (by omega) (Country_armOf_1_e (by omega) (v2) M _ hv) ?_
            refine ev_k (pc' := 111) (ls' := [(7, .inl (v3)), (6, .inl (((4) * ((x1) + (1))) + (x3))), (5, .inl (((s0) * (s1)) + (x4))), (0, .inr (.inr (some 57))), (1, .inl (x1)), (2, .inl (x2)), (3, .inl (x3)), (4, .inl (x4))]) (st' := [.inl (x2), .inl (x3), .inl (((s0) * (s1)) + (x4)), .inr (.inr (some 60))]) (nc' := 126) (np' := 138) (M' := M) 6 rfl ?_
            obtain ⟨hR, ⟨hc, h⟩ | ⟨hc, h⟩⟩ := c_ne_i h
            · refine ev_icmp 133 rfl hR.1 hR.2 (by decide) (fun _ => ?_) (fun q => absurd hc q)
              refine ev_k (pc' := 145) (ls' := [(7, .inl (v3)), (6, .inl (((4) * ((x1) + (1))) + (x3))), (5, .inl (((s0) * (s1)) + (x4))), (0, .inr (.inr (some 57))), (1, .inl (x1)), (2, .inl (x2)), (3, .inl (x3)), (4, .inl (x4))]) (st' := [.inl (M 57 10), .inl (x4), .inl (v3), .inr (.inr (some 5)), .inl (((s0) * (s1)) + (x4)), .inr (.inr (some 60))]) (nc' := 126) (np' := 138) (M' := M) 6 rfl ?_
              obtain ⟨v4, M5, hv, h⟩ := oc_i h
              refine ev_call (t := 83) (as := [.inr (.inr (some 5)), .inl (v3), .inl (x4), .inl (M 57 10)]) (rest := [.inl (((s0) * (s1)) + (x4)), .inr (.inr (some 60))]) rfl rfl rfl (by omega) (Law_resting_5_e (by omega) (v3) (x4) (M 57 10) M _ hv) ?_
              refine ev_k (pc' := 149) (ls' := [(0, .inr (.inr (some 57))), (1, .inl (x1)), (2, .inl (x2)), (3, .inl (x3)), (4, .inl (x4)), (5, .inl (((s0) * (s1)) + (x4))), (6, .inl (((4) * ((x1) + (1))) + (x3)))]) (st' := [.inl (-(v4)), .inl (((s0) * (s1)) + (x4)), .inr (.inr (some 60))]) (nc' := 126) (np' := 138) (M' := M5) 1 rfl ?_
              exact Shifts_passTurn_57_149_t hd   k2 hk2 (x1) (x2) (x3) (x4) (((s0) * (s1)) + (x4)) (((4) * ((x1) + (1))) + (x3)) (((s0) * (s1)) + (x4)) (-(v4)) M5 r h
            · refine ev_icmp 133 rfl hR.1 hR.2 (by decide) (fun q => absurd q hc) (fun _ => ?_)
              refine ev_k (pc' := 127) (ls' := [(7, .inl (v3)), (6, .inl (((4) * ((x1) + (1))) + (x3))), (5, .inl (((s0) * (s1)) + (x4))), (0, .inr (.inr (some 57))), (1, .inl (x1)), (2, .inl (x2)), (3, .inl (x3)), (4, .inl (x4))]) (st' := [.inl (M 57 10), .inl (x4), .inl (v3), .inl (2), .inr (.inr (some 5)), .inl (((s0) * (s1)) + (x4)), .inr (.inr (some 60))]) (nc' := 126) (np' := 138) (M' := M) 7 rfl ?_
              obtain ⟨v6, M7, hv, h⟩ := oc_i h
              refine ev_call (t := 105) (as := [.inr (.inr (some 5)), .inl (2), .inl (v3), .inl (x4), .inl (M 57 10)]) (rest := [.inl (((s0) * (s1)) + (x4)), .inr (.inr (some 60))]) rfl rfl rfl (by omega) (Law_tiring_5_e (by omega) (2) (v3) (x4) (M 57 10) M _ hv) ?_
              refine ev_k (pc' := 149) (ls' := [(0, .inr (.inr (some 57))), (1, .inl (x1)), (2, .inl (x2)), (3, .inl (x3)), (4, .inl (x4)), (5, .inl (((s0) * (s1)) + (x4))), (6, .inl (((4) * ((x1) + (1))) + (x3)))]) (st' := [.inl (v6), .inl (((s0) * (s1)) + (x4)), .inr (.inr (some 60))]) (nc' := 126) (np' := 138) (M' := M7) 1 rfl ?_
              exact Shifts_passTurn_57_149_t hd   k2 hk2 (x1) (x2) (x3) (x4) (((s0) * (s1)) + (x4)) (((4) * ((x1) + (1))) + (x3)) (((s0) * (s1)) + (x4)) (v6) M7 r h
theorem Shifts_passTurn_57_2_t {L : Nat} {xs : Nat → Int} {d : Nat} (hd : 3 ≤ d)     : ∀ (n : Nat) (x1 : Int) (x2 : Int) (x3 : Int) (M : am_M) (r : am_M), Shifts_passTurn_57_2    n x1 x2 x3 M = some r → am_Ev L xs d me_155 2 [(0, .inr (.inr (some 57))), (1, .inl (x1)), (2, .inl (x2)), (3, .inl (x3))] [] 126 138 M (none, 126, 138, r)
  | 0, _, _, _, M, r, h => by cases h
  | n + 1, x1, x2, x3, M, r, h => by
    have ih := Shifts_passTurn_57_2_t (L := L) (xs := xs) hd     n
    refine ev_k (pc' := 7) (ls' := [(0, .inr (.inr (some 57))), (1, .inl (x1)), (2, .inl (x2)), (3, .inl (x3))]) (st' := [.inl (M 57 3), .inl (x3)]) (nc' := 126) (np' := 138) (M' := M) 3 rfl ?_
    obtain ⟨hR, ⟨hc, h⟩ | ⟨hc, h⟩⟩ := c_ge_i h
    · refine ev_icmp 182 rfl hR.1 hR.2 (by decide) (fun _ => ?_) (fun q => absurd hc q)
      refine ev_k (pc' := 182) (ls' := [(0, .inr (.inr (some 57))), (1, .inl (x1)), (2, .inl (x2)), (3, .inl (x3))]) (st' := []) (nc' := 126) (np' := 138) (M' := M) 0 rfl ?_
      cases h
      exact ev_ret rfl
    · refine ev_icmp 182 rfl hR.1 hR.2 (by decide) (fun q => absurd q hc) (fun _ => ?_)
      refine ev_k (pc' := 13) (ls' := [(0, .inr (.inr (some 57))), (1, .inl (x1)), (2, .inl (x2)), (3, .inl (x3))]) (st' := [.inl (x3), .inl (x1), .inr (.inr (some 57))]) (nc' := 126) (np' := 138) (M' := M) 3 rfl ?_
      obtain ⟨v1, hv, h⟩ := ob_i h
      refine ev_call (t := 154) (as := [.inr (.inr (some 57)), .inl (x1), .inl (x3)]) (rest := []) rfl rfl rfl (by omega) (Shifts_tiredIn_57_e (by omega) (x1) (x3) M _ hv) ?_
      refine ev_k (pc' := 22) (ls' := [(4, .inl (v1)), (0, .inr (.inr (some 57))), (1, .inl (x1)), (2, .inl (x2)), (3, .inl (x3))]) (st' := [.inl (x2), .inl (x3), .inl (100)]) (nc' := 126) (np' := 138) (M' := M) 4 rfl ?_
      obtain ⟨hR, ⟨hc, h⟩ | ⟨hc, h⟩⟩ := c_ne_i h
      · refine ev_icmp 29 rfl hR.1 hR.2 (by decide) (fun _ => ?_) (fun q => absurd hc q)
        refine ev_k (pc' := 32) (ls' := [(0, .inr (.inr (some 57))), (1, .inl (x1)), (2, .inl (x2)), (3, .inl (x3)), (4, .inl (v1))]) (st' := [.inl ((4) + (x3)), .inl (100)]) (nc' := 126) (np' := 138) (M' := M) 3 rfl ?_
        exact Shifts_passTurn_57_32_t hd   (Shifts_passTurn_57_2    n) ih (x1) (x2) (x3) (v1) (100) ((4) + (x3)) M r h
      · refine ev_icmp 29 rfl hR.1 hR.2 (by decide) (fun q => absurd q hc) (fun _ => ?_)
        refine ev_k (pc' := 32) (ls' := [(0, .inr (.inr (some 57))), (1, .inl (x1)), (2, .inl (x2)), (3, .inl (x3)), (4, .inl (v1))]) (st' := [.inl (x3), .inl (100)]) (nc' := 126) (np' := 138) (M' := M) 2 rfl ?_
        exact Shifts_passTurn_57_32_t hd   (Shifts_passTurn_57_2    n) ih (x1) (x2) (x3) (v1) (100) (x3) M r h
theorem Shifts_passTurn_57_e {L : Nat} {xs : Nat → Int} {d : Nat} (hd : 3 ≤ d)   (x1 : Int) (x2 : Int) (M : am_M) (r : am_M) (h : Shifts_passTurn_57   x1 x2 M = some r) : am_Ev L xs d me_155 0 (am_ar1 0 [.inr (.inr (some 57)), .inl (x1), .inl (x2)]) [] 126 138 M (none, 126, 138, r) := by
  refine ev_k (pc' := 2) (ls' := [(0, .inr (.inr (some 57))), (1, .inl (x1)), (2, .inl (x2)), (3, .inl (0))]) (st' := []) (nc' := 126) (np' := 138) (M' := M) 2 rfl ?_
  exact Shifts_passTurn_57_2_t hd     am_big (x1) (x2) (0) M r h
def Shifts_noteRow_57_28     (M : am_M) : Option (am_M) := some (M)
def Shifts_noteRow_57    (x1 : Int) (M : am_M) : Option (am_M) := c_le (x1) (M 57 11)
       (Shifts_noteRow_57_28     M)
       (fw M 57 11 (x1) fun M1 => cpy M1 61 6 62 6 (0) (0) (6) fun M2 => (Shifts_noteRow_57_28     M2))
theorem Shifts_noteRow_57_28_t {L : Nat} {xs : Nat → Int} {d : Nat} (hd : 0 ≤ d)      (M : am_M) (r : am_M) (h : Shifts_noteRow_57_28     M = some r) : am_Ev L xs d me_152 28 [] [] 126 138 M (none, 126, 138, r) := by
  refine ev_k (pc' := 28) (ls' := []) (st' := []) (nc' := 126) (np' := 138) (M' := M) 0 rfl ?_
  cases h
  exact ev_ret rfl
theorem Shifts_noteRow_57_e {L : Nat} {xs : Nat → Int} {d : Nat} (hd : 0 ≤ d)   (x1 : Int) (M : am_M) (r : am_M) (h : Shifts_noteRow_57   x1 M = some r) : am_Ev L xs d me_152 0 (am_ar1 0 [.inr (.inr (some 57)), .inl (x1)]) [] 126 138 M (none, 126, 138, r) := by
  refine ev_k (pc' := 5) (ls' := [(0, .inr (.inr (some 57))), (1, .inl (x1))]) (st' := [.inl (M 57 11), .inl (x1)]) (nc' := 126) (np' := 138) (M' := M) 3 rfl ?_
  obtain ⟨hR, ⟨hc, h⟩ | ⟨hc, h⟩⟩ := c_le_i h
  · refine ev_icmp 28 rfl hR.1 hR.2 (by decide) (fun _ => ?_) (fun q => absurd hc q)
    exact Shifts_noteRow_57_28_t hd      M r h
  · refine ev_icmp 28 rfl hR.1 hR.2 (by decide) (fun q => absurd q hc) (fun _ => ?_)
    refine ev_k (pc' := 13) (ls' := [(0, .inr (.inr (some 57))), (1, .inl (x1))]) (st' := []) (nc' := 126) (np' := 138) (M' := am_up M 57 11 (x1)) 3 rfl ?_
    obtain ⟨M1, eM, h⟩ := fw_i h
    rw [← eM]
    refine ev_k (pc' := 25) (ls' := [(0, .inr (.inr (some 57))), (1, .inl (x1))]) (st' := [.inl (6), .inl (0), .inr (.inr (some 62)), .inl (0), .inr (.inr (some 61))]) (nc' := 126) (np' := 138) (M' := M1) 7 rfl ?_
    obtain ⟨hc, M2, eM, h⟩ := cpy_i h
    refine ev_cpy (s := 61) (dd := 62) rfl rfl (by decide) (by decide) rfl rfl hc rfl (by decide) eM ?_
    exact Shifts_noteRow_57_28_t hd      M2 r h
def Shifts_fillTurn_57_14  (rc151 : Int → Int → am_M → Option am_M)  (x2 : Int) (M : am_M) : Option (am_M) := ob (Shifts_noteRow_57 (x2) M) fun M1 => some (M1)
def Shifts_fillTurn_57_106  (rc151 : Int → Int → am_M → Option am_M) (k22 : Int → Int → Int → am_M → Option (am_M)) (x1 : Int) (x2 : Int) (x3 : Int) (M : am_M) : Option (am_M) := (k22 (x1) (x2) ((x3) + (1)) M)
def Shifts_fillTurn_57_22  (rc151 : Int → Int → am_M → Option am_M)  : Nat → Int → Int → Int → am_M → Option (am_M)
  | 0, _, _, _, _ => none
  | n + 1, x1, x2, x3, M => c_ge (x3) (M 57 3)
       (some (M))
       (c_le ((x2) + (((M 57 8) - (x1)) * (M 57 9))) (M 57 11)
       (Shifts_fillTurn_57_106  rc151 (Shifts_fillTurn_57_22  rc151  n) (x1) (x2) (x3) M)
       (wa M 61 6 (x1) (x3) fun M1 => ob (Shifts_memberAt_57 (x3) M1) fun v2 => ob (Country_armOf_1 (v2) M1) fun v3 => ob (Shifts_tiredIn_57 (x1) (x3) M1) fun v4 => ob (J_max (0) (((10) * (v3)) - (v4)) M1) fun v5 => ob (Shifts_passTurn_57 (x1) (x3) M1) fun M6 => ob (rc151 ((x1) + (1)) ((x2) + (v5)) M6) fun M7 => (Shifts_fillTurn_57_106  rc151 (Shifts_fillTurn_57_22  rc151  n) (x1) (x2) (x3) M7)))
def Shifts_fillTurn_57  (rc151 : Int → Int → am_M → Option am_M)  (x1 : Int) (x2 : Int) (M : am_M) : Option (am_M) := c_ge (x1) (M 57 8)
       (Shifts_fillTurn_57_14  rc151  (x2) M)
       (c_lt (x1) (6)
       ((Shifts_fillTurn_57_22  rc151  am_big (x1) (x2) (0) M))
       (Shifts_fillTurn_57_14  rc151  (x2) M))
theorem Shifts_fillTurn_57_14_t {L : Nat} {xs : Nat → Int} {d : Nat} (hd : 4 ≤ d) (rc151 : Int → Int → am_M → Option am_M) (hrc151 : ∀ (a0 : Int) (a1 : Int) (M : am_M) (r : am_M), rc151 a0 a1 M = some r → am_Ev L xs (d - 1) me_151 0 (am_ar1 0 [.inr (.inr (some 57)), .inl (a0), .inl (a1)]) [] 126 138 M (none, 126, 138, r))   (x2 : Int) (M : am_M) (r : am_M) (h : Shifts_fillTurn_57_14  rc151  x2 M = some r) : am_Ev L xs d me_151 14 [(0, .inr (.inr (some 57))), (2, .inl (x2))] [] 126 138 M (none, 126, 138, r) := by
  refine ev_k (pc' := 16) (ls' := [(0, .inr (.inr (some 57))), (2, .inl (x2))]) (st' := [.inl (x2), .inr (.inr (some 57))]) (nc' := 126) (np' := 138) (M' := M) 2 rfl ?_
  obtain ⟨M1, hv, h⟩ := ob_i h
  refine ev_call (t := 152) (as := [.inr (.inr (some 57)), .inl (x2)]) (rest := []) rfl rfl rfl (by omega) (Shifts_noteRow_57_e (by omega) (x2) M _ hv) ?_
  refine ev_k (pc' := 19) (ls' := [(0, .inr (.inr (some 57))), (2, .inl (x2))]) (st' := []) (nc' := 126) (np' := 138) (M' := M1) 0 rfl ?_
  cases h
  exact ev_ret rfl
theorem Shifts_fillTurn_57_106_t {L : Nat} {xs : Nat → Int} {d : Nat} (hd : 4 ≤ d) (rc151 : Int → Int → am_M → Option am_M) (hrc151 : ∀ (a0 : Int) (a1 : Int) (M : am_M) (r : am_M), rc151 a0 a1 M = some r → am_Ev L xs (d - 1) me_151 0 (am_ar1 0 [.inr (.inr (some 57)), .inl (a0), .inl (a1)]) [] 126 138 M (none, 126, 138, r)) (k22 : Int → Int → Int → am_M → Option (am_M)) (hk22 : ∀ (x1 : Int) (x2 : Int) (x3 : Int) (M : am_M) (r : am_M), k22 x1 x2 x3 M = some r → am_Ev L xs d me_151 22 [(0, .inr (.inr (some 57))), (1, .inl (x1)), (2, .inl (x2)), (3, .inl (x3))] [] 126 138 M (none, 126, 138, r)) (x1 : Int) (x2 : Int) (x3 : Int) (M : am_M) (r : am_M) (h : Shifts_fillTurn_57_106  rc151 k22 x1 x2 x3 M = some r) : am_Ev L xs d me_151 106 [(0, .inr (.inr (some 57))), (1, .inl (x1)), (2, .inl (x2)), (3, .inl (x3))] [] 126 138 M (none, 126, 138, r) := by
  refine ev_k (pc' := 22) (ls' := [(0, .inr (.inr (some 57))), (1, .inl (x1)), (2, .inl (x2)), (3, .inl ((x3) + (1)))]) (st' := []) (nc' := 126) (np' := 138) (M' := M) 2 rfl ?_
  exact hk22 (x1) (x2) ((x3) + (1)) M r h
theorem Shifts_fillTurn_57_22_t {L : Nat} {xs : Nat → Int} {d : Nat} (hd : 4 ≤ d) (rc151 : Int → Int → am_M → Option am_M) (hrc151 : ∀ (a0 : Int) (a1 : Int) (M : am_M) (r : am_M), rc151 a0 a1 M = some r → am_Ev L xs (d - 1) me_151 0 (am_ar1 0 [.inr (.inr (some 57)), .inl (a0), .inl (a1)]) [] 126 138 M (none, 126, 138, r))   : ∀ (n : Nat) (x1 : Int) (x2 : Int) (x3 : Int) (M : am_M) (r : am_M), Shifts_fillTurn_57_22  rc151  n x1 x2 x3 M = some r → am_Ev L xs d me_151 22 [(0, .inr (.inr (some 57))), (1, .inl (x1)), (2, .inl (x2)), (3, .inl (x3))] [] 126 138 M (none, 126, 138, r)
  | 0, _, _, _, M, r, h => by cases h
  | n + 1, x1, x2, x3, M, r, h => by
    have ih := Shifts_fillTurn_57_22_t (L := L) (xs := xs) hd rc151 hrc151   n
    refine ev_k (pc' := 27) (ls' := [(0, .inr (.inr (some 57))), (1, .inl (x1)), (2, .inl (x2)), (3, .inl (x3))]) (st' := [.inl (M 57 3), .inl (x3)]) (nc' := 126) (np' := 138) (M' := M) 3 rfl ?_
    obtain ⟨hR, ⟨hc, h⟩ | ⟨hc, h⟩⟩ := c_ge_i h
    · refine ev_icmp 112 rfl hR.1 hR.2 (by decide) (fun _ => ?_) (fun q => absurd hc q)
      refine ev_k (pc' := 112) (ls' := [(0, .inr (.inr (some 57))), (1, .inl (x1)), (2, .inl (x2)), (3, .inl (x3))]) (st' := []) (nc' := 126) (np' := 138) (M' := M) 0 rfl ?_
      cases h
      exact ev_ret rfl
    · refine ev_icmp 112 rfl hR.1 hR.2 (by decide) (fun q => absurd q hc) (fun _ => ?_)
      refine ev_k (pc' := 47) (ls' := [(0, .inr (.inr (some 57))), (1, .inl (x1)), (2, .inl (x2)), (3, .inl (x3))]) (st' := [.inl (M 57 11), .inl ((x2) + (((M 57 8) - (x1)) * (M 57 9)))]) (nc' := 126) (np' := 138) (M' := M) 11 rfl ?_
      obtain ⟨hR, ⟨hc, h⟩ | ⟨hc, h⟩⟩ := c_le_i h
      · refine ev_icmp 106 rfl hR.1 hR.2 (by decide) (fun _ => ?_) (fun q => absurd hc q)
        exact Shifts_fillTurn_57_106_t hd rc151 hrc151 (Shifts_fillTurn_57_22  rc151  n) ih (x1) (x2) (x3) M r h
      · refine ev_icmp 106 rfl hR.1 hR.2 (by decide) (fun q => absurd q hc) (fun _ => ?_)
        refine ev_k (pc' := 56) (ls' := [(0, .inr (.inr (some 57))), (1, .inl (x1)), (2, .inl (x2)), (3, .inl (x3))]) (st' := [.inl (x3), .inl (x1), .inr (.inr (some 61))]) (nc' := 126) (np' := 138) (M' := M) 4 rfl ?_
        obtain ⟨hc, M1, eM, h⟩ := wa_i h
        refine ev_iast (k := 61) rfl (by decide) rfl hc eM ?_
        refine ev_k (pc' := 63) (ls' := [(0, .inr (.inr (some 57))), (1, .inl (x1)), (2, .inl (x2)), (3, .inl (x3))]) (st' := [.inl (x3), .inr (.inr (some 57)), .inr (.inr (some 1))]) (nc' := 126) (np' := 138) (M' := M1) 4 rfl ?_
        obtain ⟨v2, hv, h⟩ := ob_i h
        refine ev_call (t := 153) (as := [.inr (.inr (some 57)), .inl (x3)]) (rest := [.inr (.inr (some 1))]) rfl rfl rfl (by omega) (Shifts_memberAt_57_e (by omega) (x3) M1 _ hv) ?_
        refine ev_k (pc' := 66) (ls' := [(0, .inr (.inr (some 57))), (1, .inl (x1)), (2, .inl (x2)), (3, .inl (x3))]) (st' := [.inl (v2), .inr (.inr (some 1))]) (nc' := 126) (np' := 138) (M' := M1) 0 rfl ?_
        obtain ⟨v3, hv, h⟩ := ob_i h
        refine ev_call (t := 63) (as := [.inr (.inr (some 1)), .inl (v2)]) (rest := []) rfl rfl rfl (by omega) (Country_armOf_1_e (by omega) (v2) M1 _ hv) ?_
        refine ev_k (pc' := 80) (ls' := [(4, .inl (v3)), (0, .inr (.inr (some 57))), (1, .inl (x1)), (2, .inl (x2)), (3, .inl (x3))]) (st' := [.inl (x3), .inl (x1), .inr (.inr (some 57)), .inl ((10) * (v3)), .inl (0)]) (nc' := 126) (np' := 138) (M' := M1) 8 rfl ?_
        obtain ⟨v4, hv, h⟩ := ob_i h
        refine ev_call (t := 154) (as := [.inr (.inr (some 57)), .inl (x1), .inl (x3)]) (rest := [.inl ((10) * (v3)), .inl (0)]) rfl rfl rfl (by omega) (Shifts_tiredIn_57_e (by omega) (x1) (x3) M1 _ hv) ?_
        refine ev_k (pc' := 84) (ls' := [(4, .inl (v3)), (0, .inr (.inr (some 57))), (1, .inl (x1)), (2, .inl (x2)), (3, .inl (x3))]) (st' := [.inl (((10) * (v3)) - (v4)), .inl (0)]) (nc' := 126) (np' := 138) (M' := M1) 1 rfl ?_
        obtain ⟨v5, hv, h⟩ := ob_i h
        refine ev_call (t := 61) (as := [.inl (0), .inl (((10) * (v3)) - (v4))]) (rest := []) rfl rfl rfl (by omega) (J_max_e (by omega) (0) (((10) * (v3)) - (v4)) M1 _ hv) ?_
        refine ev_k (pc' := 92) (ls' := [(5, .inl (v5)), (4, .inl (v3)), (0, .inr (.inr (some 57))), (1, .inl (x1)), (2, .inl (x2)), (3, .inl (x3))]) (st' := [.inl (x3), .inl (x1), .inr (.inr (some 57))]) (nc' := 126) (np' := 138) (M' := M1) 4 rfl ?_
        obtain ⟨M6, hv, h⟩ := ob_i h
        refine ev_call (t := 155) (as := [.inr (.inr (some 57)), .inl (x1), .inl (x3)]) (rest := []) rfl rfl rfl (by omega) (Shifts_passTurn_57_e (by omega) (x1) (x3) M1 _ hv) ?_
        refine ev_k (pc' := 103) (ls' := [(5, .inl (v5)), (4, .inl (v3)), (0, .inr (.inr (some 57))), (1, .inl (x1)), (2, .inl (x2)), (3, .inl (x3))]) (st' := [.inl ((x2) + (v5)), .inl ((x1) + (1)), .inr (.inr (some 57))]) (nc' := 126) (np' := 138) (M' := M6) 7 rfl ?_
        obtain ⟨M7, hv, h⟩ := ob_i h
        refine ev_call (t := 151) (as := [.inr (.inr (some 57)), .inl ((x1) + (1)), .inl ((x2) + (v5))]) (rest := []) rfl rfl rfl (by omega) (hrc151 ((x1) + (1)) ((x2) + (v5)) M6 _ hv) ?_
        exact Shifts_fillTurn_57_106_t hd rc151 hrc151 (Shifts_fillTurn_57_22  rc151  n) ih (x1) (x2) (x3) M7 r h
theorem Shifts_fillTurn_57_e {L : Nat} {xs : Nat → Int} {d : Nat} (hd : 4 ≤ d) (rc151 : Int → Int → am_M → Option am_M) (hrc151 : ∀ (a0 : Int) (a1 : Int) (M : am_M) (r : am_M), rc151 a0 a1 M = some r → am_Ev L xs (d - 1) me_151 0 (am_ar1 0 [.inr (.inr (some 57)), .inl (a0), .inl (a1)]) [] 126 138 M (none, 126, 138, r)) (x1 : Int) (x2 : Int) (M : am_M) (r : am_M) (h : Shifts_fillTurn_57  rc151 x1 x2 M = some r) : am_Ev L xs d me_151 0 (am_ar1 0 [.inr (.inr (some 57)), .inl (x1), .inl (x2)]) [] 126 138 M (none, 126, 138, r) := by
  refine ev_k (pc' := 5) (ls' := [(0, .inr (.inr (some 57))), (1, .inl (x1)), (2, .inl (x2))]) (st' := [.inl (M 57 8), .inl (x1)]) (nc' := 126) (np' := 138) (M' := M) 3 rfl ?_
  obtain ⟨hR, ⟨hc, h⟩ | ⟨hc, h⟩⟩ := c_ge_i h
  · refine ev_icmp 14 rfl hR.1 hR.2 (by decide) (fun _ => ?_) (fun q => absurd hc q)
    exact Shifts_fillTurn_57_14_t hd rc151 hrc151   (x2) M r h
  · refine ev_icmp 14 rfl hR.1 hR.2 (by decide) (fun q => absurd q hc) (fun _ => ?_)
    refine ev_k (pc' := 11) (ls' := [(0, .inr (.inr (some 57))), (1, .inl (x1)), (2, .inl (x2))]) (st' := [.inl (6), .inl (x1)]) (nc' := 126) (np' := 138) (M' := M) 2 rfl ?_
    obtain ⟨hR, ⟨hc, h⟩ | ⟨hc, h⟩⟩ := c_lt_i h
    · refine ev_icmp 20 rfl hR.1 hR.2 (by decide) (fun _ => ?_) (fun q => absurd hc q)
      refine ev_k (pc' := 22) (ls' := [(0, .inr (.inr (some 57))), (1, .inl (x1)), (2, .inl (x2)), (3, .inl (0))]) (st' := []) (nc' := 126) (np' := 138) (M' := M) 2 rfl ?_
      exact Shifts_fillTurn_57_22_t hd rc151 hrc151   am_big (x1) (x2) (0) M r h
    · refine ev_icmp 20 rfl hR.1 hR.2 (by decide) (fun q => absurd q hc) (fun _ => ?_)
      exact Shifts_fillTurn_57_14_t hd rc151 hrc151   (x2) M r h
def K_Shifts_fillTurn_R : Nat → Nat → Int → Int →  am_M → Option am_M
  | 0, _, _, _, _ => none
  | n + 1, w, a0, a1, M => match w with
    | _ => Shifts_fillTurn_57 (fun b0 b1 M => K_Shifts_fillTurn_R n 0 b0 b1 M) a0 a1 M
def K_Shifts_fillTurn (a0 : Int) (a1 : Int) (M : am_M) : Option am_M := K_Shifts_fillTurn_R 40 0 a0 a1 M
theorem K_Shifts_fillTurn_R_all {L : Nat} {xs : Nat → Int} : ∀ n : Nat, (∀ (d : Nat), 4 + n ≤ d → ∀ (a0 : Int) (a1 : Int) (M : am_M) (r : am_M), K_Shifts_fillTurn_R n 0 a0 a1 M = some r → am_Ev L xs d me_151 0 (am_ar1 0 [.inr (.inr (some 57)), .inl (a0), .inl (a1)]) [] 126 138 M (none, 126, 138, r))
  | 0 => fun d hd a0 a1 M r h => (by cases h)
  | n + 1 => by
    have ih := K_Shifts_fillTurn_R_all (L := L) (xs := xs) n
    have ih151 := ih
    exact fun d hd a0 a1 M r h => Shifts_fillTurn_57_e (by omega) _ (ih151 (d - 1) (by omega)) a0 a1 M r h
theorem K_Shifts_fillTurn_e {L : Nat} {xs : Nat → Int} {d : Nat} (hd : 44 ≤ d) (a0 : Int) (a1 : Int) (M : am_M) (r : am_M) (h : K_Shifts_fillTurn a0 a1 M = some r) : am_Ev L xs d me_151 0 (am_ar1 0 [.inr (.inr (some 57)), .inl (a0), .inl (a1)]) [] 126 138 M (none, 126, 138, r) :=
  (K_Shifts_fillTurn_R_all (L := L) (xs := xs) 40) d (by omega) a0 a1 M r h
def Shifts_findBest_57_26_96     (M : am_M) : Option (am_M) := ob (K_Shifts_fillTurn (0) (0) M) fun M1 => some (M1)
def Shifts_findBest_57_26_34    : Nat → Int → am_M → Option (am_M)
  | 0, _, _ => none
  | n + 1, x3, M => c_ge (x3) (M 57 3)
       (Shifts_findBest_57_26_96     M)
       (c_ge (x3) (4)
       (Shifts_findBest_57_26_96     M)
       (rd M 58 4 (x3) fun v1 => ob (Trip_tiredOf_26 (v1) M) fun v2 => wa M 59 28 (x3) (v2) fun M3 => rd M3 58 4 (x3) fun v4 => ob (Country_armOf_1 (v4) M3) fun v5 => ob (J_max (M3 57 9) ((10) * (v5)) M3) fun v6 => fw M3 57 9 (v6) fun M7 => (Shifts_findBest_57_26_34    n ((x3) + (1)) M7)))
def Shifts_findBest_57_26    (x2 : Int) (M : am_M) : Option (am_M) := fw M 57 8 (x2) fun M1 => fw M1 57 10 (M1 26 13) fun M2 => fw M2 57 11 (-1) fun M3 => fw M3 57 9 (0) fun M4 => ob (J_fill_60 (-100) M4) fun M5 => (Shifts_findBest_57_26_34    am_big (0) M5)
theorem Shifts_findBest_57_26_96_t {L : Nat} {xs : Nat → Int} {d : Nat} (hd : 45 ≤ d)      (M : am_M) (r : am_M) (h : Shifts_findBest_57_26_96     M = some r) : am_Ev L xs d me_150 96 [(0, .inr (.inr (some 57)))] [] 126 138 M (none, 126, 138, r) := by
  refine ev_k (pc' := 99) (ls' := [(0, .inr (.inr (some 57)))]) (st' := [.inl (0), .inl (0), .inr (.inr (some 57))]) (nc' := 126) (np' := 138) (M' := M) 3 rfl ?_
  obtain ⟨M1, hv, h⟩ := ob_i h
  refine ev_call (t := 151) (as := [.inr (.inr (some 57)), .inl (0), .inl (0)]) (rest := []) rfl rfl rfl (by omega) (K_Shifts_fillTurn_e (by omega) (0) (0) M _ hv) ?_
  refine ev_k (pc' := 102) (ls' := [(0, .inr (.inr (some 57)))]) (st' := []) (nc' := 126) (np' := 138) (M' := M1) 0 rfl ?_
  cases h
  exact ev_ret rfl
theorem Shifts_findBest_57_26_34_t {L : Nat} {xs : Nat → Int} {d : Nat} (hd : 45 ≤ d)     : ∀ (n : Nat) (x3 : Int) (M : am_M) (r : am_M), Shifts_findBest_57_26_34    n x3 M = some r → am_Ev L xs d me_150 34 [(0, .inr (.inr (some 57))), (1, .inr (.inr (some 26))), (3, .inl (x3))] [] 126 138 M (none, 126, 138, r)
  | 0, _, M, r, h => by cases h
  | n + 1, x3, M, r, h => by
    have ih := Shifts_findBest_57_26_34_t (L := L) (xs := xs) hd     n
    refine ev_k (pc' := 39) (ls' := [(0, .inr (.inr (some 57))), (1, .inr (.inr (some 26))), (3, .inl (x3))]) (st' := [.inl (M 57 3), .inl (x3)]) (nc' := 126) (np' := 138) (M' := M) 3 rfl ?_
    obtain ⟨hR, ⟨hc, h⟩ | ⟨hc, h⟩⟩ := c_ge_i h
    · refine ev_icmp 96 rfl hR.1 hR.2 (by decide) (fun _ => ?_) (fun q => absurd hc q)
      exact Shifts_findBest_57_26_96_t hd      M r h
    · refine ev_icmp 96 rfl hR.1 hR.2 (by decide) (fun q => absurd q hc) (fun _ => ?_)
      refine ev_k (pc' := 44) (ls' := [(0, .inr (.inr (some 57))), (1, .inr (.inr (some 26))), (3, .inl (x3))]) (st' := [.inl (4), .inl (x3)]) (nc' := 126) (np' := 138) (M' := M) 2 rfl ?_
      obtain ⟨hR, ⟨hc, h⟩ | ⟨hc, h⟩⟩ := c_ge_i h
      · refine ev_icmp 96 rfl hR.1 hR.2 (by decide) (fun _ => ?_) (fun q => absurd hc q)
        exact Shifts_findBest_57_26_96_t hd      M r h
      · refine ev_icmp 96 rfl hR.1 hR.2 (by decide) (fun q => absurd q hc) (fun _ => ?_)
        refine ev_k (pc' := 58) (ls' := [(0, .inr (.inr (some 57))), (1, .inr (.inr (some 26))), (3, .inl (x3))]) (st' := [.inl (x3), .inr (.inr (some 58)), .inr (.inr (some 26)), .inl (x3), .inr (.inr (some 59))]) (nc' := 126) (np' := 138) (M' := M) 7 rfl ?_
        obtain ⟨hc, v1, ev, h⟩ := rd_i h
        refine ev_ald (k := 58) (t := 0) (Or.inl ⟨rfl, rfl⟩) rfl (by decide) (by decide) rfl hc ev ?_
        refine ev_k (pc' := 59) (ls' := [(0, .inr (.inr (some 57))), (1, .inr (.inr (some 26))), (3, .inl (x3))]) (st' := [.inl (v1), .inr (.inr (some 26)), .inl (x3), .inr (.inr (some 59))]) (nc' := 126) (np' := 138) (M' := M) 0 rfl ?_
        obtain ⟨v2, hv, h⟩ := ob_i h
        refine ev_call (t := 82) (as := [.inr (.inr (some 26)), .inl (v1)]) (rest := [.inl (x3), .inr (.inr (some 59))]) rfl rfl rfl (by omega) (Trip_tiredOf_26_e (by omega) (v1) M _ hv) ?_
        refine ev_k (pc' := 62) (ls' := [(0, .inr (.inr (some 57))), (1, .inr (.inr (some 26))), (3, .inl (x3))]) (st' := [.inl (v2), .inl (x3), .inr (.inr (some 59))]) (nc' := 126) (np' := 138) (M' := M) 0 rfl ?_
        obtain ⟨hc, M3, eM, h⟩ := wa_i h
        refine ev_iast (k := 59) rfl (by decide) rfl hc eM ?_
        refine ev_k (pc' := 79) (ls' := [(0, .inr (.inr (some 57))), (1, .inr (.inr (some 26))), (3, .inl (x3))]) (st' := [.inl (x3), .inr (.inr (some 58)), .inr (.inr (some 1)), .inl (10), .inl (M3 57 9), .inr (.inr (some 57))]) (nc' := 126) (np' := 138) (M' := M3) 9 rfl ?_
        obtain ⟨hc, v4, ev, h⟩ := rd_i h
        refine ev_ald (k := 58) (t := 0) (Or.inl ⟨rfl, rfl⟩) rfl (by decide) (by decide) rfl hc ev ?_
        refine ev_k (pc' := 80) (ls' := [(0, .inr (.inr (some 57))), (1, .inr (.inr (some 26))), (3, .inl (x3))]) (st' := [.inl (v4), .inr (.inr (some 1)), .inl (10), .inl (M3 57 9), .inr (.inr (some 57))]) (nc' := 126) (np' := 138) (M' := M3) 0 rfl ?_
        obtain ⟨v5, hv, h⟩ := ob_i h
        refine ev_call (t := 63) (as := [.inr (.inr (some 1)), .inl (v4)]) (rest := [.inl (10), .inl (M3 57 9), .inr (.inr (some 57))]) rfl rfl rfl (by omega) (Country_armOf_1_e (by omega) (v4) M3 _ hv) ?_
        refine ev_k (pc' := 84) (ls' := [(0, .inr (.inr (some 57))), (1, .inr (.inr (some 26))), (3, .inl (x3))]) (st' := [.inl ((10) * (v5)), .inl (M3 57 9), .inr (.inr (some 57))]) (nc' := 126) (np' := 138) (M' := M3) 1 rfl ?_
        obtain ⟨v6, hv, h⟩ := ob_i h
        refine ev_call (t := 61) (as := [.inl (M3 57 9), .inl ((10) * (v5))]) (rest := [.inr (.inr (some 57))]) rfl rfl rfl (by omega) (J_max_e (by omega) (M3 57 9) ((10) * (v5)) M3 _ hv) ?_
        refine ev_k (pc' := 90) (ls' := [(0, .inr (.inr (some 57))), (1, .inr (.inr (some 26))), (3, .inl (x3))]) (st' := []) (nc' := 126) (np' := 138) (M' := am_up M3 57 9 (v6)) 1 rfl ?_
        obtain ⟨M7, eM, h⟩ := fw_i h
        rw [← eM]
        refine ev_k (pc' := 34) (ls' := [(0, .inr (.inr (some 57))), (1, .inr (.inr (some 26))), (3, .inl ((x3) + (1)))]) (st' := []) (nc' := 126) (np' := 138) (M' := M7) 2 rfl ?_
        exact ih ((x3) + (1)) M7 r h
theorem Shifts_findBest_57_26_e {L : Nat} {xs : Nat → Int} {d : Nat} (hd : 45 ≤ d)   (x2 : Int) (M : am_M) (r : am_M) (h : Shifts_findBest_57_26   x2 M = some r) : am_Ev L xs d me_150 0 (am_ar1 0 [.inr (.inr (some 57)), .inr (.inr (some 26)), .inl (x2)]) [] 126 138 M (none, 126, 138, r) := by
  refine ev_k (pc' := 5) (ls' := [(0, .inr (.inr (some 57))), (1, .inr (.inr (some 26))), (2, .inl (x2))]) (st' := []) (nc' := 126) (np' := 138) (M' := am_up M 57 8 (x2)) 3 rfl ?_
  obtain ⟨M1, eM, h⟩ := fw_i h
  rw [← eM]
  refine ev_k (pc' := 13) (ls' := [(0, .inr (.inr (some 57))), (1, .inr (.inr (some 26))), (2, .inl (x2))]) (st' := []) (nc' := 126) (np' := 138) (M' := am_up M1 57 10 (M1 26 13)) 4 rfl ?_
  obtain ⟨M2, eM, h⟩ := fw_i h
  rw [← eM]
  refine ev_k (pc' := 18) (ls' := [(0, .inr (.inr (some 57))), (1, .inr (.inr (some 26))), (2, .inl (x2))]) (st' := []) (nc' := 126) (np' := 138) (M' := am_up M2 57 11 (-1)) 3 rfl ?_
  obtain ⟨M3, eM, h⟩ := fw_i h
  rw [← eM]
  refine ev_k (pc' := 23) (ls' := [(0, .inr (.inr (some 57))), (1, .inr (.inr (some 26))), (2, .inl (x2))]) (st' := []) (nc' := 126) (np' := 138) (M' := am_up M3 57 9 (0)) 3 rfl ?_
  obtain ⟨M4, eM, h⟩ := fw_i h
  rw [← eM]
  refine ev_k (pc' := 29) (ls' := [(0, .inr (.inr (some 57))), (1, .inr (.inr (some 26))), (2, .inl (x2))]) (st' := [.inl (-100), .inr (.inr (some 60))]) (nc' := 126) (np' := 138) (M' := M4) 3 rfl ?_
  obtain ⟨M5, hv, h⟩ := ob_i h
  refine ev_call (t := 2) (as := [.inr (.inr (some 60)), .inl (-100)]) (rest := []) rfl rfl rfl (by omega) (J_fill_60_e (by omega) (-100) M4 _ hv) ?_
  refine ev_k (pc' := 34) (ls' := [(0, .inr (.inr (some 57))), (1, .inr (.inr (some 26))), (3, .inl (0))]) (st' := []) (nc' := 126) (np' := 138) (M' := M5) 2 rfl ?_
  exact Shifts_findBest_57_26_34_t hd     am_big (0) M5 r h
