def BlazedPathLaw_law_999_n0_1039 (L : Nat) (xs : Nat → Int)  (k18 : Int → am_M → Option (Int × am_M)) (x3 : Int) (M : am_M) : Option (Int × am_M) := (k18 ((x3) + (6)) M)
def BlazedPathLaw_law_999_n0_769 (L : Nat) (xs : Nat → Int)  (k18 : Int → am_M → Option (Int × am_M)) (x3 : Int) (M : am_M) : Option (Int × am_M) := ck (0 ≤ ((x3) + (1)) ∧ ((x3) + (1)) < (L : Int)) (tw (xs ((x3) + (1)).toNat) fun v1 => ck (0 ≤ ((x3) + (2)) ∧ ((x3) + (2)) < (L : Int)) (tw (xs ((x3) + (2)).toNat) fun v2 => ck (0 ≤ ((x3) + (3)) ∧ ((x3) + (3)) < (L : Int)) (tw (xs ((x3) + (3)).toNat) fun v3 => oc (P_paces (v1) (v2) (v3) M) fun v4 M5 => ck (0 ≤ ((x3) + (1)) ∧ ((x3) + (1)) < (L : Int)) (tw (xs ((x3) + (1)).toNat) fun v6 => ck (0 ≤ ((x3) + (2)) ∧ ((x3) + (2)) < (L : Int)) (tw (xs ((x3) + (2)).toNat) fun v7 => ck (0 ≤ ((x3) + (3)) ∧ ((x3) + (3)) < (L : Int)) (tw (xs ((x3) + (3)).toNat) fun v8 => oc (R_paces (v6) (v7) (v8) M5) fun v9 M10 => c_eq (v4) (v9)
       (BlazedPathLaw_law_999_n0_1039 L xs  k18 (x3) M10)
       (some (0, M10))))))))
def BlazedPathLaw_law_999_n0_650 (L : Nat) (xs : Nat → Int)  (k18 : Int → am_M → Option (Int × am_M)) (x3 : Int) (M : am_M) : Option (Int × am_M) := ck (0 ≤ ((x3) + (1)) ∧ ((x3) + (1)) < (L : Int)) (tw (xs ((x3) + (1)).toNat) fun v1 => oc (P_camp (v1) M) fun v2 M3 => ck (0 ≤ ((x3) + (1)) ∧ ((x3) + (1)) < (L : Int)) (tw (xs ((x3) + (1)).toNat) fun v4 => oc (R_camp (v4) M3) fun v5 M6 => c_eq (v2) (v5)
       (BlazedPathLaw_law_999_n0_1039 L xs  k18 (x3) M6)
       (some (0, M6))))
def BlazedPathLaw_law_999_n0_911 (L : Nat) (xs : Nat → Int)  (k18 : Int → am_M → Option (Int × am_M)) (x3 : Int) (M : am_M) : Option (Int × am_M) := ck (0 ≤ ((x3) + (1)) ∧ ((x3) + (1)) < (L : Int)) (tw (xs ((x3) + (1)).toNat) fun v1 => ck (0 ≤ ((x3) + (2)) ∧ ((x3) + (2)) < (L : Int)) (tw (xs ((x3) + (2)).toNat) fun v2 => ob (P_personIs (v1) (v2) M) fun v3 => ck (0 ≤ ((x3) + (1)) ∧ ((x3) + (1)) < (L : Int)) (tw (xs ((x3) + (1)).toNat) fun v4 => ck (0 ≤ ((x3) + (2)) ∧ ((x3) + (2)) < (L : Int)) (tw (xs ((x3) + (2)).toNat) fun v5 => ob (R_personIs (v4) (v5) M) fun v6 => c_eq (v3) (v6)
       (BlazedPathLaw_law_999_n0_1039 L xs  k18 (x3) M)
       (some (0, M))))))
def BlazedPathLaw_law_999_n0_528 (L : Nat) (xs : Nat → Int)  (k18 : Int → am_M → Option (Int × am_M)) (x3 : Int) (M : am_M) : Option (Int × am_M) := oc (P_home  M) fun v1 M2 => oc (R_home  M2) fun v3 M4 => c_eq (v1) (v3)
       (BlazedPathLaw_law_999_n0_1039 L xs  k18 (x3) M4)
       (some (0, M4))
def BlazedPathLaw_law_999_n0_402 (L : Nat) (xs : Nat → Int)  (k18 : Int → am_M → Option (Int × am_M)) (x3 : Int) (M : am_M) : Option (Int × am_M) := ck (0 ≤ ((x3) + (1)) ∧ ((x3) + (1)) < (L : Int)) (tw (xs ((x3) + (1)).toNat) fun v1 => oc (P_orders (v1) M) fun v2 M3 => ck (0 ≤ ((x3) + (1)) ∧ ((x3) + (1)) < (L : Int)) (tw (xs ((x3) + (1)).toNat) fun v4 => oc (R_orders (v4) M3) fun v5 M6 => c_eq (v2) (v5)
       (BlazedPathLaw_law_999_n0_1039 L xs  k18 (x3) M6)
       (some (0, M6))))
def BlazedPathLaw_law_999_n0_277 (L : Nat) (xs : Nat → Int)  (k18 : Int → am_M → Option (Int × am_M)) (x3 : Int) (M : am_M) : Option (Int × am_M) := ck (0 ≤ ((x3) + (1)) ∧ ((x3) + (1)) < (L : Int)) (tw (xs ((x3) + (1)).toNat) fun v1 => oc (P_start (v1) M) fun v2 M3 => ck (0 ≤ ((x3) + (1)) ∧ ((x3) + (1)) < (L : Int)) (tw (xs ((x3) + (1)).toNat) fun v4 => oc (R_start (v4) M3) fun v5 M6 => c_eq (v2) (v5)
       (BlazedPathLaw_law_999_n0_1039 L xs  k18 (x3) M6)
       (some (0, M6))))
def BlazedPathLaw_law_999_n0_541 (L : Nat) (xs : Nat → Int)  (k18 : Int → am_M → Option (Int × am_M)) (x3 : Int) (M : am_M) : Option (Int × am_M) := ck (0 ≤ ((x3) + (1)) ∧ ((x3) + (1)) < (L : Int)) (tw (xs ((x3) + (1)).toNat) fun v1 => ck (0 ≤ ((x3) + (2)) ∧ ((x3) + (2)) < (L : Int)) (tw (xs ((x3) + (2)).toNat) fun v2 => ob (P_path (v1) (v2) M) fun v3 => ck (0 ≤ ((x3) + (1)) ∧ ((x3) + (1)) < (L : Int)) (tw (xs ((x3) + (1)).toNat) fun v4 => ck (0 ≤ ((x3) + (2)) ∧ ((x3) + (2)) < (L : Int)) (tw (xs ((x3) + (2)).toNat) fun v5 => ob (R_path (v4) (v5) M) fun v6 => c_eq (v3) (v6)
       (BlazedPathLaw_law_999_n0_1039 L xs  k18 (x3) M)
       (some (0, M))))))
def BlazedPathLaw_law_999_n0_673 (L : Nat) (xs : Nat → Int)  (k18 : Int → am_M → Option (Int × am_M)) (x3 : Int) (M : am_M) : Option (Int × am_M) := ck (0 ≤ ((x3) + (1)) ∧ ((x3) + (1)) < (L : Int)) (tw (xs ((x3) + (1)).toNat) fun v1 => ck (0 ≤ ((x3) + (2)) ∧ ((x3) + (2)) < (L : Int)) (tw (xs ((x3) + (2)).toNat) fun v2 => ck (0 ≤ ((x3) + (3)) ∧ ((x3) + (3)) < (L : Int)) (tw (xs ((x3) + (3)).toNat) fun v3 => oc (P_byTurns (v1) (v2) (v3) M) fun v4 M5 => ck (0 ≤ ((x3) + (1)) ∧ ((x3) + (1)) < (L : Int)) (tw (xs ((x3) + (1)).toNat) fun v6 => ck (0 ≤ ((x3) + (2)) ∧ ((x3) + (2)) < (L : Int)) (tw (xs ((x3) + (2)).toNat) fun v7 => ck (0 ≤ ((x3) + (3)) ∧ ((x3) + (3)) < (L : Int)) (tw (xs ((x3) + (3)).toNat) fun v8 => oc (R_byTurns (v6) (v7) (v8) M5) fun v9 M10 => c_eq (v4) (v9)
       (BlazedPathLaw_law_999_n0_1039 L xs  k18 (x3) M10)
       (some (0, M10))))))))
def BlazedPathLaw_law_999_n0_168 (L : Nat) (xs : Nat → Int)  (k18 : Int → am_M → Option (Int × am_M)) (x3 : Int) (M : am_M) : Option (Int × am_M) := ck (0 ≤ ((x3) + (1)) ∧ ((x3) + (1)) < (L : Int)) (tw (xs ((x3) + (1)).toNat) fun v1 => ck (0 ≤ ((x3) + (2)) ∧ ((x3) + (2)) < (L : Int)) (tw (xs ((x3) + (2)).toNat) fun v2 => ck (0 ≤ ((x3) + (3)) ∧ ((x3) + (3)) < (L : Int)) (tw (xs ((x3) + (3)).toNat) fun v3 => ck (0 ≤ ((x3) + (4)) ∧ ((x3) + (4)) < (L : Int)) (tw (xs ((x3) + (4)).toNat) fun v4 => ck (0 ≤ ((x3) + (5)) ∧ ((x3) + (5)) < (L : Int)) (tw (xs ((x3) + (5)).toNat) fun v5 => oc (P_feed (v1) (v2) (v3) (v4) (v5) M) fun v6 M7 => ck (0 ≤ ((x3) + (1)) ∧ ((x3) + (1)) < (L : Int)) (tw (xs ((x3) + (1)).toNat) fun v8 => ck (0 ≤ ((x3) + (2)) ∧ ((x3) + (2)) < (L : Int)) (tw (xs ((x3) + (2)).toNat) fun v9 => ck (0 ≤ ((x3) + (3)) ∧ ((x3) + (3)) < (L : Int)) (tw (xs ((x3) + (3)).toNat) fun v10 => ck (0 ≤ ((x3) + (4)) ∧ ((x3) + (4)) < (L : Int)) (tw (xs ((x3) + (4)).toNat) fun v11 => ck (0 ≤ ((x3) + (5)) ∧ ((x3) + (5)) < (L : Int)) (tw (xs ((x3) + (5)).toNat) fun v12 => oc (R_feed (v8) (v9) (v10) (v11) (v12) M7) fun v13 M14 => c_eq (v6) (v13)
       (BlazedPathLaw_law_999_n0_1039 L xs  k18 (x3) M14)
       (some (0, M14))))))))))))
def BlazedPathLaw_law_999_n0_425 (L : Nat) (xs : Nat → Int)  (k18 : Int → am_M → Option (Int × am_M)) (x3 : Int) (M : am_M) : Option (Int × am_M) := ck (0 ≤ ((x3) + (1)) ∧ ((x3) + (1)) < (L : Int)) (tw (xs ((x3) + (1)).toNat) fun v1 => ck (0 ≤ ((x3) + (2)) ∧ ((x3) + (2)) < (L : Int)) (tw (xs ((x3) + (2)).toNat) fun v2 => oc (P_tried (v1) (v2) M) fun v3 M4 => ck (0 ≤ ((x3) + (1)) ∧ ((x3) + (1)) < (L : Int)) (tw (xs ((x3) + (1)).toNat) fun v5 => ck (0 ≤ ((x3) + (2)) ∧ ((x3) + (2)) < (L : Int)) (tw (xs ((x3) + (2)).toNat) fun v6 => oc (R_tried (v5) (v6) M4) fun v7 M8 => c_eq (v3) (v7)
       (BlazedPathLaw_law_999_n0_1039 L xs  k18 (x3) M8)
       (some (0, M8))))))
def BlazedPathLaw_law_999_n0_300 (L : Nat) (xs : Nat → Int)  (k18 : Int → am_M → Option (Int × am_M)) (x3 : Int) (M : am_M) : Option (Int × am_M) := ck (0 ≤ ((x3) + (1)) ∧ ((x3) + (1)) < (L : Int)) (tw (xs ((x3) + (1)).toNat) fun v1 => ck (0 ≤ ((x3) + (2)) ∧ ((x3) + (2)) < (L : Int)) (tw (xs ((x3) + (2)).toNat) fun v2 => oc (P_person (v1) (v2) M) fun v3 M4 => ck (0 ≤ ((x3) + (1)) ∧ ((x3) + (1)) < (L : Int)) (tw (xs ((x3) + (1)).toNat) fun v5 => ck (0 ≤ ((x3) + (2)) ∧ ((x3) + (2)) < (L : Int)) (tw (xs ((x3) + (2)).toNat) fun v6 => oc (R_person (v5) (v6) M4) fun v7 M8 => c_eq (v3) (v7)
       (BlazedPathLaw_law_999_n0_1039 L xs  k18 (x3) M8)
       (some (0, M8))))))
def BlazedPathLaw_law_999_n0_812 (L : Nat) (xs : Nat → Int)  (k18 : Int → am_M → Option (Int × am_M)) (x3 : Int) (M : am_M) : Option (Int × am_M) := ck (0 ≤ ((x3) + (1)) ∧ ((x3) + (1)) < (L : Int)) (tw (xs ((x3) + (1)).toNat) fun v1 => ck (0 ≤ ((x3) + (2)) ∧ ((x3) + (2)) < (L : Int)) (tw (xs ((x3) + (2)).toNat) fun v2 => oc (P_seek (v1) (v2) M) fun v3 M4 => ck (0 ≤ ((x3) + (1)) ∧ ((x3) + (1)) < (L : Int)) (tw (xs ((x3) + (1)).toNat) fun v5 => ck (0 ≤ ((x3) + (2)) ∧ ((x3) + (2)) < (L : Int)) (tw (xs ((x3) + (2)).toNat) fun v6 => oc (R_seek (v5) (v6) M4) fun v7 M8 => c_eq (v3) (v7)
       (BlazedPathLaw_law_999_n0_1039 L xs  k18 (x3) M8)
       (some (0, M8))))))
def BlazedPathLaw_law_999_n0_944 (L : Nat) (xs : Nat → Int)  (k18 : Int → am_M → Option (Int × am_M)) (x3 : Int) (M : am_M) : Option (Int × am_M) := ck (0 ≤ ((x3) + (1)) ∧ ((x3) + (1)) < (L : Int)) (tw (xs ((x3) + (1)).toNat) fun v1 => oc (P_seed (v1) M) fun v2 M3 => ck (0 ≤ ((x3) + (1)) ∧ ((x3) + (1)) < (L : Int)) (tw (xs ((x3) + (1)).toNat) fun v4 => oc (R_seed (v4) M3) fun v5 M6 => c_eq (v2) (v5)
       (BlazedPathLaw_law_999_n0_1039 L xs  k18 (x3) M6)
       (some (0, M6))))
def BlazedPathLaw_law_999_n0_574 (L : Nat) (xs : Nat → Int)  (k18 : Int → am_M → Option (Int × am_M)) (x3 : Int) (M : am_M) : Option (Int × am_M) := ck (0 ≤ ((x3) + (1)) ∧ ((x3) + (1)) < (L : Int)) (tw (xs ((x3) + (1)).toNat) fun v1 => ck (0 ≤ ((x3) + (2)) ∧ ((x3) + (2)) < (L : Int)) (tw (xs ((x3) + (2)).toNat) fun v2 => oc (P_turn (v1) (v2) M) fun v3 M4 => ck (0 ≤ ((x3) + (1)) ∧ ((x3) + (1)) < (L : Int)) (tw (xs ((x3) + (1)).toNat) fun v5 => ck (0 ≤ ((x3) + (2)) ∧ ((x3) + (2)) < (L : Int)) (tw (xs ((x3) + (2)).toNat) fun v6 => oc (R_turn (v5) (v6) M4) fun v7 M8 => c_eq (v3) (v7)
       (BlazedPathLaw_law_999_n0_1039 L xs  k18 (x3) M8)
       (some (0, M8))))))
def BlazedPathLaw_law_999_n0_967 (L : Nat) (xs : Nat → Int)  (k18 : Int → am_M → Option (Int × am_M)) (x3 : Int) (M : am_M) : Option (Int × am_M) := oc (P_keep  M) fun v1 M2 => oc (R_keep  M2) fun v3 M4 => c_eq (v1) (v3)
       (BlazedPathLaw_law_999_n0_1039 L xs  k18 (x3) M4)
       (some (0, M4))
def BlazedPathLaw_law_999_n0_458 (L : Nat) (xs : Nat → Int)  (k18 : Int → am_M → Option (Int × am_M)) (x3 : Int) (M : am_M) : Option (Int × am_M) := ck (0 ≤ ((x3) + (1)) ∧ ((x3) + (1)) < (L : Int)) (tw (xs ((x3) + (1)).toNat) fun v1 => oc (P_days (v1) M) fun v2 M3 => ck (0 ≤ ((x3) + (1)) ∧ ((x3) + (1)) < (L : Int)) (tw (xs ((x3) + (1)).toNat) fun v4 => oc (R_days (v4) M3) fun v5 M6 => c_eq (v2) (v5)
       (BlazedPathLaw_law_999_n0_1039 L xs  k18 (x3) M6)
       (some (0, M6))))
def BlazedPathLaw_law_999_n0_716 (L : Nat) (xs : Nat → Int)  (k18 : Int → am_M → Option (Int × am_M)) (x3 : Int) (M : am_M) : Option (Int × am_M) := ck (0 ≤ ((x3) + (1)) ∧ ((x3) + (1)) < (L : Int)) (tw (xs ((x3) + (1)).toNat) fun v1 => ck (0 ≤ ((x3) + (2)) ∧ ((x3) + (2)) < (L : Int)) (tw (xs ((x3) + (2)).toNat) fun v2 => ck (0 ≤ ((x3) + (3)) ∧ ((x3) + (3)) < (L : Int)) (tw (xs ((x3) + (3)).toNat) fun v3 => ck (0 ≤ ((x3) + (4)) ∧ ((x3) + (4)) < (L : Int)) (tw (xs ((x3) + (4)).toNat) fun v4 => oc (P_planned (v1) (v2) (v3) (v4) M) fun v5 M6 => ck (0 ≤ ((x3) + (1)) ∧ ((x3) + (1)) < (L : Int)) (tw (xs ((x3) + (1)).toNat) fun v7 => ck (0 ≤ ((x3) + (2)) ∧ ((x3) + (2)) < (L : Int)) (tw (xs ((x3) + (2)).toNat) fun v8 => ck (0 ≤ ((x3) + (3)) ∧ ((x3) + (3)) < (L : Int)) (tw (xs ((x3) + (3)).toNat) fun v9 => ck (0 ≤ ((x3) + (4)) ∧ ((x3) + (4)) < (L : Int)) (tw (xs ((x3) + (4)).toNat) fun v10 => oc (R_planned (v7) (v8) (v9) (v10) M6) fun v11 M12 => c_eq (v5) (v11)
       (BlazedPathLaw_law_999_n0_1039 L xs  k18 (x3) M12)
       (some (0, M12))))))))))
def BlazedPathLaw_law_999_n0_333 (L : Nat) (xs : Nat → Int)  (k18 : Int → am_M → Option (Int × am_M)) (x3 : Int) (M : am_M) : Option (Int × am_M) := ck (0 ≤ ((x3) + (1)) ∧ ((x3) + (1)) < (L : Int)) (tw (xs ((x3) + (1)).toNat) fun v1 => oc (P_ahead (v1) M) fun v2 M3 => ck (0 ≤ ((x3) + (1)) ∧ ((x3) + (1)) < (L : Int)) (tw (xs ((x3) + (1)).toNat) fun v4 => oc (R_ahead (v4) M3) fun v5 M6 => c_eq (v2) (v5)
       (BlazedPathLaw_law_999_n0_1039 L xs  k18 (x3) M6)
       (some (0, M6))))
def BlazedPathLaw_law_999_n0_845 (L : Nat) (xs : Nat → Int)  (k18 : Int → am_M → Option (Int × am_M)) (x3 : Int) (M : am_M) : Option (Int × am_M) := ck (0 ≤ ((x3) + (1)) ∧ ((x3) + (1)) < (L : Int)) (tw (xs ((x3) + (1)).toNat) fun v1 => ck (0 ≤ ((x3) + (2)) ∧ ((x3) + (2)) < (L : Int)) (tw (xs ((x3) + (2)).toNat) fun v2 => oc (P_blazes (v1) (v2) M) fun v3 M4 => ck (0 ≤ ((x3) + (1)) ∧ ((x3) + (1)) < (L : Int)) (tw (xs ((x3) + (1)).toNat) fun v5 => ck (0 ≤ ((x3) + (2)) ∧ ((x3) + (2)) < (L : Int)) (tw (xs ((x3) + (2)).toNat) fun v6 => oc (R_blazes (v5) (v6) M4) fun v7 M8 => c_eq (v3) (v7)
       (BlazedPathLaw_law_999_n0_1039 L xs  k18 (x3) M8)
       (some (0, M8))))))
def BlazedPathLaw_law_999_n0_980 (L : Nat) (xs : Nat → Int)  (k18 : Int → am_M → Option (Int × am_M)) (x3 : Int) (M : am_M) : Option (Int × am_M) := oc (P_undo  M) fun v1 M2 => oc (R_undo  M2) fun v3 M4 => c_eq (v1) (v3)
       (BlazedPathLaw_law_999_n0_1039 L xs  k18 (x3) M4)
       (some (0, M4))
def BlazedPathLaw_law_999_n0_1016 (L : Nat) (xs : Nat → Int)  (k18 : Int → am_M → Option (Int × am_M)) (x3 : Int) (M : am_M) : Option (Int × am_M) := ck (0 ≤ ((x3) + (1)) ∧ ((x3) + (1)) < (L : Int)) (tw (xs ((x3) + (1)).toNat) fun v1 => ob (P_count (v1) M) fun v2 => ck (0 ≤ ((x3) + (1)) ∧ ((x3) + (1)) < (L : Int)) (tw (xs ((x3) + (1)).toNat) fun v3 => ob (R_count (v3) M) fun v4 => c_eq (v2) (v4)
       (BlazedPathLaw_law_999_n0_1039 L xs  k18 (x3) M)
       (some (0, M))))
def BlazedPathLaw_law_999_n0_607 (L : Nat) (xs : Nat → Int)  (k18 : Int → am_M → Option (Int × am_M)) (x3 : Int) (M : am_M) : Option (Int × am_M) := ck (0 ≤ ((x3) + (1)) ∧ ((x3) + (1)) < (L : Int)) (tw (xs ((x3) + (1)).toNat) fun v1 => ck (0 ≤ ((x3) + (2)) ∧ ((x3) + (2)) < (L : Int)) (tw (xs ((x3) + (2)).toNat) fun v2 => ck (0 ≤ ((x3) + (3)) ∧ ((x3) + (3)) < (L : Int)) (tw (xs ((x3) + (3)).toNat) fun v3 => oc (P_soonest (v1) (v2) (v3) M) fun v4 M5 => ck (0 ≤ ((x3) + (1)) ∧ ((x3) + (1)) < (L : Int)) (tw (xs ((x3) + (1)).toNat) fun v6 => ck (0 ≤ ((x3) + (2)) ∧ ((x3) + (2)) < (L : Int)) (tw (xs ((x3) + (2)).toNat) fun v7 => ck (0 ≤ ((x3) + (3)) ∧ ((x3) + (3)) < (L : Int)) (tw (xs ((x3) + (3)).toNat) fun v8 => oc (R_soonest (v6) (v7) (v8) M5) fun v9 M10 => c_eq (v4) (v9)
       (BlazedPathLaw_law_999_n0_1039 L xs  k18 (x3) M10)
       (some (0, M10))))))))
def BlazedPathLaw_law_999_n0_481 (L : Nat) (xs : Nat → Int)  (k18 : Int → am_M → Option (Int × am_M)) (x3 : Int) (M : am_M) : Option (Int × am_M) := ck (0 ≤ ((x3) + (1)) ∧ ((x3) + (1)) < (L : Int)) (tw (xs ((x3) + (1)).toNat) fun v1 => oc (P_back (v1) M) fun v2 M3 => ck (0 ≤ ((x3) + (1)) ∧ ((x3) + (1)) < (L : Int)) (tw (xs ((x3) + (1)).toNat) fun v4 => oc (R_back (v4) M3) fun v5 M6 => c_eq (v2) (v5)
       (BlazedPathLaw_law_999_n0_1039 L xs  k18 (x3) M6)
       (some (0, M6))))
def BlazedPathLaw_law_999_n0_993 (L : Nat) (xs : Nat → Int)  (k18 : Int → am_M → Option (Int × am_M)) (x3 : Int) (M : am_M) : Option (Int × am_M) := ck (0 ≤ ((x3) + (1)) ∧ ((x3) + (1)) < (L : Int)) (tw (xs ((x3) + (1)).toNat) fun v1 => oc (P_check (v1) M) fun v2 M3 => ck (0 ≤ ((x3) + (1)) ∧ ((x3) + (1)) < (L : Int)) (tw (xs ((x3) + (1)).toNat) fun v4 => oc (R_check (v4) M3) fun v5 M6 => c_eq (v2) (v5)
       (BlazedPathLaw_law_999_n0_1039 L xs  k18 (x3) M6)
       (some (0, M6))))
def BlazedPathLaw_law_999_n0_356 (L : Nat) (xs : Nat → Int)  (k18 : Int → am_M → Option (Int × am_M)) (x3 : Int) (M : am_M) : Option (Int × am_M) := ck (0 ≤ ((x3) + (1)) ∧ ((x3) + (1)) < (L : Int)) (tw (xs ((x3) + (1)).toNat) fun v1 => oc (P_width (v1) M) fun v2 M3 => ck (0 ≤ ((x3) + (1)) ∧ ((x3) + (1)) < (L : Int)) (tw (xs ((x3) + (1)).toNat) fun v4 => oc (R_width (v4) M3) fun v5 M6 => c_eq (v2) (v5)
       (BlazedPathLaw_law_999_n0_1039 L xs  k18 (x3) M6)
       (some (0, M6))))
def BlazedPathLaw_law_999_n0_231 (L : Nat) (xs : Nat → Int)  (k18 : Int → am_M → Option (Int × am_M)) (x3 : Int) (M : am_M) : Option (Int × am_M) := ck (0 ≤ ((x3) + (1)) ∧ ((x3) + (1)) < (L : Int)) (tw (xs ((x3) + (1)).toNat) fun v1 => oc (P_forest (v1) M) fun v2 M3 => ck (0 ≤ ((x3) + (1)) ∧ ((x3) + (1)) < (L : Int)) (tw (xs ((x3) + (1)).toNat) fun v4 => oc (R_forest (v4) M3) fun v5 M6 => c_eq (v2) (v5)
       (BlazedPathLaw_law_999_n0_1039 L xs  k18 (x3) M6)
       (some (0, M6))))
def BlazedPathLaw_law_999_n0_878 (L : Nat) (xs : Nat → Int)  (k18 : Int → am_M → Option (Int × am_M)) (x3 : Int) (M : am_M) : Option (Int × am_M) := ck (0 ≤ ((x3) + (1)) ∧ ((x3) + (1)) < (L : Int)) (tw (xs ((x3) + (1)).toNat) fun v1 => ck (0 ≤ ((x3) + (2)) ∧ ((x3) + (2)) < (L : Int)) (tw (xs ((x3) + (2)).toNat) fun v2 => oc (P_sights (v1) (v2) M) fun v3 M4 => ck (0 ≤ ((x3) + (1)) ∧ ((x3) + (1)) < (L : Int)) (tw (xs ((x3) + (1)).toNat) fun v5 => ck (0 ≤ ((x3) + (2)) ∧ ((x3) + (2)) < (L : Int)) (tw (xs ((x3) + (2)).toNat) fun v6 => oc (R_sights (v5) (v6) M4) fun v7 M8 => c_eq (v3) (v7)
       (BlazedPathLaw_law_999_n0_1039 L xs  k18 (x3) M8)
       (some (0, M8))))))
def BlazedPathLaw_law_999_n0_504 (L : Nat) (xs : Nat → Int)  (k18 : Int → am_M → Option (Int × am_M)) (x3 : Int) (M : am_M) : Option (Int × am_M) := ck (0 ≤ ((x3) + (1)) ∧ ((x3) + (1)) < (L : Int)) (tw (xs ((x3) + (1)).toNat) fun v1 => oc (P_safe (v1) M) fun v2 M3 => ck (0 ≤ ((x3) + (1)) ∧ ((x3) + (1)) < (L : Int)) (tw (xs ((x3) + (1)).toNat) fun v4 => oc (R_safe (v4) M3) fun v5 M6 => ck (am_R6 (v2) ∧ am_R6 (v5)) (tw (if (v2) > (v5) then 1 else if (v2) = (v5) then 0 else -1) fun v7 => c_eq (v7) (0)
       (BlazedPathLaw_law_999_n0_1039 L xs  k18 (x3) M6)
       (some (0, M6)))))
def BlazedPathLaw_law_999_n0_379 (L : Nat) (xs : Nat → Int)  (k18 : Int → am_M → Option (Int × am_M)) (x3 : Int) (M : am_M) : Option (Int × am_M) := ck (0 ≤ ((x3) + (1)) ∧ ((x3) + (1)) < (L : Int)) (tw (xs ((x3) + (1)).toNat) fun v1 => oc (P_light (v1) M) fun v2 M3 => ck (0 ≤ ((x3) + (1)) ∧ ((x3) + (1)) < (L : Int)) (tw (xs ((x3) + (1)).toNat) fun v4 => oc (R_light (v4) M3) fun v5 M6 => c_eq (v2) (v5)
       (BlazedPathLaw_law_999_n0_1039 L xs  k18 (x3) M6)
       (some (0, M6))))
def BlazedPathLaw_law_999_n0_254 (L : Nat) (xs : Nat → Int)  (k18 : Int → am_M → Option (Int × am_M)) (x3 : Int) (M : am_M) : Option (Int × am_M) := ck (0 ≤ ((x3) + (1)) ∧ ((x3) + (1)) < (L : Int)) (tw (xs ((x3) + (1)).toNat) fun v1 => oc (P_law (v1) M) fun v2 M3 => ck (0 ≤ ((x3) + (1)) ∧ ((x3) + (1)) < (L : Int)) (tw (xs ((x3) + (1)).toNat) fun v4 => oc (R_lawm (v4) M3) fun v5 M6 => c_eq (v2) (v5)
       (BlazedPathLaw_law_999_n0_1039 L xs  k18 (x3) M6)
       (some (0, M6))))
def BlazedPathLaw_law_999_n0_18 (L : Nat) (xs : Nat → Int)   : Nat → Int → am_M → Option (Int × am_M)
  | 0, _, _ => none
  | n + 1, x3, M => c_gt (x3) (((L : Int)) - (6))
       (some (1, M))
       (ck (0 ≤ (x3) ∧ (x3) < (L : Int)) (tw (xs (x3).toNat) fun v1 => ck (am_R (b_and (v1) (31))) ((if (b_and (v1) (31)) = (0) then
       (BlazedPathLaw_law_999_n0_168 L xs  (BlazedPathLaw_law_999_n0_18 L xs   n) (x3) M) else
       (if (b_and (v1) (31)) = (1) then
       (BlazedPathLaw_law_999_n0_231 L xs  (BlazedPathLaw_law_999_n0_18 L xs   n) (x3) M) else
       (if (b_and (v1) (31)) = (2) then
       (BlazedPathLaw_law_999_n0_254 L xs  (BlazedPathLaw_law_999_n0_18 L xs   n) (x3) M) else
       (if (b_and (v1) (31)) = (3) then
       (BlazedPathLaw_law_999_n0_277 L xs  (BlazedPathLaw_law_999_n0_18 L xs   n) (x3) M) else
       (if (b_and (v1) (31)) = (4) then
       (BlazedPathLaw_law_999_n0_300 L xs  (BlazedPathLaw_law_999_n0_18 L xs   n) (x3) M) else
       (if (b_and (v1) (31)) = (5) then
       (BlazedPathLaw_law_999_n0_333 L xs  (BlazedPathLaw_law_999_n0_18 L xs   n) (x3) M) else
       (if (b_and (v1) (31)) = (6) then
       (BlazedPathLaw_law_999_n0_356 L xs  (BlazedPathLaw_law_999_n0_18 L xs   n) (x3) M) else
       (if (b_and (v1) (31)) = (7) then
       (BlazedPathLaw_law_999_n0_379 L xs  (BlazedPathLaw_law_999_n0_18 L xs   n) (x3) M) else
       (if (b_and (v1) (31)) = (8) then
       (BlazedPathLaw_law_999_n0_402 L xs  (BlazedPathLaw_law_999_n0_18 L xs   n) (x3) M) else
       (if (b_and (v1) (31)) = (9) then
       (BlazedPathLaw_law_999_n0_425 L xs  (BlazedPathLaw_law_999_n0_18 L xs   n) (x3) M) else
       (if (b_and (v1) (31)) = (10) then
       (BlazedPathLaw_law_999_n0_458 L xs  (BlazedPathLaw_law_999_n0_18 L xs   n) (x3) M) else
       (if (b_and (v1) (31)) = (11) then
       (BlazedPathLaw_law_999_n0_481 L xs  (BlazedPathLaw_law_999_n0_18 L xs   n) (x3) M) else
       (if (b_and (v1) (31)) = (12) then
       (BlazedPathLaw_law_999_n0_504 L xs  (BlazedPathLaw_law_999_n0_18 L xs   n) (x3) M) else
       (if (b_and (v1) (31)) = (13) then
       (BlazedPathLaw_law_999_n0_528 L xs  (BlazedPathLaw_law_999_n0_18 L xs   n) (x3) M) else
       (if (b_and (v1) (31)) = (14) then
       (BlazedPathLaw_law_999_n0_541 L xs  (BlazedPathLaw_law_999_n0_18 L xs   n) (x3) M) else
       (if (b_and (v1) (31)) = (15) then
       (BlazedPathLaw_law_999_n0_574 L xs  (BlazedPathLaw_law_999_n0_18 L xs   n) (x3) M) else
       (if (b_and (v1) (31)) = (16) then
       (BlazedPathLaw_law_999_n0_607 L xs  (BlazedPathLaw_law_999_n0_18 L xs   n) (x3) M) else
       (if (b_and (v1) (31)) = (17) then
       (BlazedPathLaw_law_999_n0_650 L xs  (BlazedPathLaw_law_999_n0_18 L xs   n) (x3) M) else
       (if (b_and (v1) (31)) = (18) then
       (BlazedPathLaw_law_999_n0_673 L xs  (BlazedPathLaw_law_999_n0_18 L xs   n) (x3) M) else
       (if (b_and (v1) (31)) = (19) then
       (BlazedPathLaw_law_999_n0_716 L xs  (BlazedPathLaw_law_999_n0_18 L xs   n) (x3) M) else
       (if (b_and (v1) (31)) = (20) then
       (BlazedPathLaw_law_999_n0_769 L xs  (BlazedPathLaw_law_999_n0_18 L xs   n) (x3) M) else
       (if (b_and (v1) (31)) = (21) then
       (BlazedPathLaw_law_999_n0_812 L xs  (BlazedPathLaw_law_999_n0_18 L xs   n) (x3) M) else
       (if (b_and (v1) (31)) = (22) then
       (BlazedPathLaw_law_999_n0_845 L xs  (BlazedPathLaw_law_999_n0_18 L xs   n) (x3) M) else
       (if (b_and (v1) (31)) = (23) then
       (BlazedPathLaw_law_999_n0_878 L xs  (BlazedPathLaw_law_999_n0_18 L xs   n) (x3) M) else
       (if (b_and (v1) (31)) = (24) then
       (BlazedPathLaw_law_999_n0_911 L xs  (BlazedPathLaw_law_999_n0_18 L xs   n) (x3) M) else
       (if (b_and (v1) (31)) = (25) then
       (BlazedPathLaw_law_999_n0_944 L xs  (BlazedPathLaw_law_999_n0_18 L xs   n) (x3) M) else
       (if (b_and (v1) (31)) = (26) then
       (BlazedPathLaw_law_999_n0_967 L xs  (BlazedPathLaw_law_999_n0_18 L xs   n) (x3) M) else
       (if (b_and (v1) (31)) = (27) then
       (BlazedPathLaw_law_999_n0_980 L xs  (BlazedPathLaw_law_999_n0_18 L xs   n) (x3) M) else
       (if (b_and (v1) (31)) = (28) then
       (BlazedPathLaw_law_999_n0_993 L xs  (BlazedPathLaw_law_999_n0_18 L xs   n) (x3) M) else
       (if (b_and (v1) (31)) = (29) then
       (BlazedPathLaw_law_999_n0_1016 L xs  (BlazedPathLaw_law_999_n0_18 L xs   n) (x3) M) else
       (BlazedPathLaw_law_999_n0_1039 L xs  (BlazedPathLaw_law_999_n0_18 L xs   n) (x3) M))))))))))))))))))))))))))))))))))
def BlazedPathLaw_law_999_n0 (L : Nat) (xs : Nat → Int)    (M : am_M) : Option (Int × am_M) := nw M 0 fun M1 => ob (P_new_n1  M1) fun M2 => nw M2 73 fun M3 => ob (R_new_n74  M3) fun M4 => (BlazedPathLaw_law_999_n0_18 L xs   am_big (0) M4)
set_option maxHeartbeats 20000000 in
set_option maxRecDepth 100000 in
theorem BlazedPathLaw_law_999_n0_1039_t {L : Nat} {xs : Nat → Int} {d : Nat} (hd : 88 ≤ d)   (k18 : Int → am_M → Option (Int × am_M)) (hk18 : ∀ (x3 : Int) (M : am_M) (r : Int × am_M), k18 x3 M = some r → am_Ev L xs d me_313 18 [(0, .inr (.inr (some 999))), (1, .inr (.inr (some 0))), (2, .inr (.inr (some 73))), (3, .inl (x3))] [] 126 138 M (some (.inl r.1), 126, 138, r.2)) (x3 : Int) (M : am_M) (r : Int × am_M) (h : BlazedPathLaw_law_999_n0_1039 L xs  k18 x3 M = some r) : am_Ev L xs d me_313 1039 [(0, .inr (.inr (some 999))), (1, .inr (.inr (some 0))), (2, .inr (.inr (some 73))), (3, .inl (x3))] [] 126 138 M (some (.inl r.1), 126, 138, r.2) := by
  refine ev_k (pc' := 18) (ls' := [(0, .inr (.inr (some 999))), (1, .inr (.inr (some 0))), (2, .inr (.inr (some 73))), (3, .inl ((x3) + (6)))]) (st' := []) (nc' := 126) (np' := 138) (M' := M) 2 rfl ?_
  exact hk18 ((x3) + (6)) M r h
set_option maxHeartbeats 20000000 in
set_option maxRecDepth 100000 in
theorem BlazedPathLaw_law_999_n0_769_t {L : Nat} {xs : Nat → Int} {d : Nat} (hd : 88 ≤ d)   (k18 : Int → am_M → Option (Int × am_M)) (hk18 : ∀ (x3 : Int) (M : am_M) (r : Int × am_M), k18 x3 M = some r → am_Ev L xs d me_313 18 [(0, .inr (.inr (some 999))), (1, .inr (.inr (some 0))), (2, .inr (.inr (some 73))), (3, .inl (x3))] [] 126 138 M (some (.inl r.1), 126, 138, r.2)) (x3 : Int) (M : am_M) (r : Int × am_M) (h : BlazedPathLaw_law_999_n0_769 L xs  k18 x3 M = some r) : am_Ev L xs d me_313 769 [(0, .inr (.inr (some 999))), (1, .inr (.inr (some 0))), (2, .inr (.inr (some 73))), (3, .inl (x3))] [] 126 138 M (some (.inl r.1), 126, 138, r.2) := by
  refine ev_k (pc' := 774) (ls' := [(0, .inr (.inr (some 999))), (1, .inr (.inr (some 0))), (2, .inr (.inr (some 73))), (3, .inl (x3))]) (st' := [.inl ((x3) + (1)), .inr (.inr (some 999)), .inr (.inr (some 0))]) (nc' := 126) (np' := 138) (M' := M) 5 rfl ?_
  obtain ⟨hc, h⟩ := ck_i h
  obtain ⟨v1, ev, h⟩ := tw_i h
  refine ev_sld rfl rfl hc ev ?_
  refine ev_k (pc' := 779) (ls' := [(0, .inr (.inr (some 999))), (1, .inr (.inr (some 0))), (2, .inr (.inr (some 73))), (3, .inl (x3))]) (st' := [.inl ((x3) + (2)), .inr (.inr (some 999)), .inl (v1), .inr (.inr (some 0))]) (nc' := 126) (np' := 138) (M' := M) 4 rfl ?_
  obtain ⟨hc, h⟩ := ck_i h
  obtain ⟨v2, ev, h⟩ := tw_i h
  refine ev_sld rfl rfl hc ev ?_
  refine ev_k (pc' := 784) (ls' := [(0, .inr (.inr (some 999))), (1, .inr (.inr (some 0))), (2, .inr (.inr (some 73))), (3, .inl (x3))]) (st' := [.inl ((x3) + (3)), .inr (.inr (some 999)), .inl (v2), .inl (v1), .inr (.inr (some 0))]) (nc' := 126) (np' := 138) (M' := M) 4 rfl ?_
  obtain ⟨hc, h⟩ := ck_i h
  obtain ⟨v3, ev, h⟩ := tw_i h
  refine ev_sld rfl rfl hc ev ?_
  refine ev_k (pc' := 785) (ls' := [(0, .inr (.inr (some 999))), (1, .inr (.inr (some 0))), (2, .inr (.inr (some 73))), (3, .inl (x3))]) (st' := [.inl (v3), .inl (v2), .inl (v1), .inr (.inr (some 0))]) (nc' := 126) (np' := 138) (M' := M) 0 rfl ?_
  obtain ⟨v4, M5, hv, h⟩ := oc_i h
  refine ev_call (t := 160) (as := [.inr (.inr (some 0)), .inl (v1), .inl (v2), .inl (v3)]) (rest := []) rfl rfl rfl (by omega) (P_paces_e (by omega) (v1) (v2) (v3) M _ hv) ?_
  refine ev_k (pc' := 793) (ls' := [(0, .inr (.inr (some 999))), (1, .inr (.inr (some 0))), (2, .inr (.inr (some 73))), (3, .inl (x3))]) (st' := [.inl ((x3) + (1)), .inr (.inr (some 999)), .inr (.inr (some 73)), .inl (v4)]) (nc' := 126) (np' := 138) (M' := M5) 5 rfl ?_
  obtain ⟨hc, h⟩ := ck_i h
  obtain ⟨v6, ev, h⟩ := tw_i h
  refine ev_sld rfl rfl hc ev ?_
  refine ev_k (pc' := 798) (ls' := [(0, .inr (.inr (some 999))), (1, .inr (.inr (some 0))), (2, .inr (.inr (some 73))), (3, .inl (x3))]) (st' := [.inl ((x3) + (2)), .inr (.inr (some 999)), .inl (v6), .inr (.inr (some 73)), .inl (v4)]) (nc' := 126) (np' := 138) (M' := M5) 4 rfl ?_
  obtain ⟨hc, h⟩ := ck_i h
  obtain ⟨v7, ev, h⟩ := tw_i h
  refine ev_sld rfl rfl hc ev ?_
  refine ev_k (pc' := 803) (ls' := [(0, .inr (.inr (some 999))), (1, .inr (.inr (some 0))), (2, .inr (.inr (some 73))), (3, .inl (x3))]) (st' := [.inl ((x3) + (3)), .inr (.inr (some 999)), .inl (v7), .inl (v6), .inr (.inr (some 73)), .inl (v4)]) (nc' := 126) (np' := 138) (M' := M5) 4 rfl ?_
  obtain ⟨hc, h⟩ := ck_i h
  obtain ⟨v8, ev, h⟩ := tw_i h
  refine ev_sld rfl rfl hc ev ?_
  refine ev_k (pc' := 804) (ls' := [(0, .inr (.inr (some 999))), (1, .inr (.inr (some 0))), (2, .inr (.inr (some 73))), (3, .inl (x3))]) (st' := [.inl (v8), .inl (v7), .inl (v6), .inr (.inr (some 73)), .inl (v4)]) (nc' := 126) (np' := 138) (M' := M5) 0 rfl ?_
  obtain ⟨v9, M10, hv, h⟩ := oc_i h
  refine ev_call (t := 292) (as := [.inr (.inr (some 73)), .inl (v6), .inl (v7), .inl (v8)]) (rest := [.inl (v4)]) rfl rfl rfl (by omega) (R_paces_e (by omega) (v6) (v7) (v8) M5 _ hv) ?_
  refine ev_k (pc' := 807) (ls' := [(0, .inr (.inr (some 999))), (1, .inr (.inr (some 0))), (2, .inr (.inr (some 73))), (3, .inl (x3))]) (st' := [.inl (v9), .inl (v4)]) (nc' := 126) (np' := 138) (M' := M10) 0 rfl ?_
  obtain ⟨hR, ⟨hc, h⟩ | ⟨hc, h⟩⟩ := c_eq_i h
  · refine ev_icmp 1039 rfl hR.1 hR.2 (by decide) (fun _ => ?_) (fun q => absurd hc q)
    exact BlazedPathLaw_law_999_n0_1039_t hd   k18 hk18 (x3) M10 r h
  · refine ev_icmp 1039 rfl hR.1 hR.2 (by decide) (fun q => absurd q hc) (fun _ => ?_)
    refine ev_k (pc' := 811) (ls' := [(0, .inr (.inr (some 999))), (1, .inr (.inr (some 0))), (2, .inr (.inr (some 73))), (3, .inl (x3))]) (st' := [.inl (0)]) (nc' := 126) (np' := 138) (M' := M10) 1 rfl ?_
    cases h
    exact ev_ret rfl
set_option maxHeartbeats 20000000 in
set_option maxRecDepth 100000 in
theorem BlazedPathLaw_law_999_n0_650_t {L : Nat} {xs : Nat → Int} {d : Nat} (hd : 88 ≤ d)   (k18 : Int → am_M → Option (Int × am_M)) (hk18 : ∀ (x3 : Int) (M : am_M) (r : Int × am_M), k18 x3 M = some r → am_Ev L xs d me_313 18 [(0, .inr (.inr (some 999))), (1, .inr (.inr (some 0))), (2, .inr (.inr (some 73))), (3, .inl (x3))] [] 126 138 M (some (.inl r.1), 126, 138, r.2)) (x3 : Int) (M : am_M) (r : Int × am_M) (h : BlazedPathLaw_law_999_n0_650 L xs  k18 x3 M = some r) : am_Ev L xs d me_313 650 [(0, .inr (.inr (some 999))), (1, .inr (.inr (some 0))), (2, .inr (.inr (some 73))), (3, .inl (x3))] [] 126 138 M (some (.inl r.1), 126, 138, r.2) := by
  refine ev_k (pc' := 655) (ls' := [(0, .inr (.inr (some 999))), (1, .inr (.inr (some 0))), (2, .inr (.inr (some 73))), (3, .inl (x3))]) (st' := [.inl ((x3) + (1)), .inr (.inr (some 999)), .inr (.inr (some 0))]) (nc' := 126) (np' := 138) (M' := M) 5 rfl ?_
  obtain ⟨hc, h⟩ := ck_i h
  obtain ⟨v1, ev, h⟩ := tw_i h
  refine ev_sld rfl rfl hc ev ?_
  refine ev_k (pc' := 656) (ls' := [(0, .inr (.inr (some 999))), (1, .inr (.inr (some 0))), (2, .inr (.inr (some 73))), (3, .inl (x3))]) (st' := [.inl (v1), .inr (.inr (some 0))]) (nc' := 126) (np' := 138) (M' := M) 0 rfl ?_
  obtain ⟨v2, M3, hv, h⟩ := oc_i h
  refine ev_call (t := 142) (as := [.inr (.inr (some 0)), .inl (v1)]) (rest := []) rfl rfl rfl (by omega) (P_camp_e (by omega) (v1) M _ hv) ?_
  refine ev_k (pc' := 664) (ls' := [(0, .inr (.inr (some 999))), (1, .inr (.inr (some 0))), (2, .inr (.inr (some 73))), (3, .inl (x3))]) (st' := [.inl ((x3) + (1)), .inr (.inr (some 999)), .inr (.inr (some 73)), .inl (v2)]) (nc' := 126) (np' := 138) (M' := M3) 5 rfl ?_
  obtain ⟨hc, h⟩ := ck_i h
  obtain ⟨v4, ev, h⟩ := tw_i h
  refine ev_sld rfl rfl hc ev ?_
  refine ev_k (pc' := 665) (ls' := [(0, .inr (.inr (some 999))), (1, .inr (.inr (some 0))), (2, .inr (.inr (some 73))), (3, .inl (x3))]) (st' := [.inl (v4), .inr (.inr (some 73)), .inl (v2)]) (nc' := 126) (np' := 138) (M' := M3) 0 rfl ?_
  obtain ⟨v5, M6, hv, h⟩ := oc_i h
  refine ev_call (t := 280) (as := [.inr (.inr (some 73)), .inl (v4)]) (rest := [.inl (v2)]) rfl rfl rfl (by omega) (R_camp_e (by omega) (v4) M3 _ hv) ?_
  refine ev_k (pc' := 668) (ls' := [(0, .inr (.inr (some 999))), (1, .inr (.inr (some 0))), (2, .inr (.inr (some 73))), (3, .inl (x3))]) (st' := [.inl (v5), .inl (v2)]) (nc' := 126) (np' := 138) (M' := M6) 0 rfl ?_
  obtain ⟨hR, ⟨hc, h⟩ | ⟨hc, h⟩⟩ := c_eq_i h
  · refine ev_icmp 1039 rfl hR.1 hR.2 (by decide) (fun _ => ?_) (fun q => absurd hc q)
    exact BlazedPathLaw_law_999_n0_1039_t hd   k18 hk18 (x3) M6 r h
  · refine ev_icmp 1039 rfl hR.1 hR.2 (by decide) (fun q => absurd q hc) (fun _ => ?_)
    refine ev_k (pc' := 672) (ls' := [(0, .inr (.inr (some 999))), (1, .inr (.inr (some 0))), (2, .inr (.inr (some 73))), (3, .inl (x3))]) (st' := [.inl (0)]) (nc' := 126) (np' := 138) (M' := M6) 1 rfl ?_
    cases h
    exact ev_ret rfl
set_option maxHeartbeats 20000000 in
set_option maxRecDepth 100000 in
theorem BlazedPathLaw_law_999_n0_911_t {L : Nat} {xs : Nat → Int} {d : Nat} (hd : 88 ≤ d)   (k18 : Int → am_M → Option (Int × am_M)) (hk18 : ∀ (x3 : Int) (M : am_M) (r : Int × am_M), k18 x3 M = some r → am_Ev L xs d me_313 18 [(0, .inr (.inr (some 999))), (1, .inr (.inr (some 0))), (2, .inr (.inr (some 73))), (3, .inl (x3))] [] 126 138 M (some (.inl r.1), 126, 138, r.2)) (x3 : Int) (M : am_M) (r : Int × am_M) (h : BlazedPathLaw_law_999_n0_911 L xs  k18 x3 M = some r) : am_Ev L xs d me_313 911 [(0, .inr (.inr (some 999))), (1, .inr (.inr (some 0))), (2, .inr (.inr (some 73))), (3, .inl (x3))] [] 126 138 M (some (.inl r.1), 126, 138, r.2) := by
  refine ev_k (pc' := 916) (ls' := [(0, .inr (.inr (some 999))), (1, .inr (.inr (some 0))), (2, .inr (.inr (some 73))), (3, .inl (x3))]) (st' := [.inl ((x3) + (1)), .inr (.inr (some 999)), .inr (.inr (some 0))]) (nc' := 126) (np' := 138) (M' := M) 5 rfl ?_
  obtain ⟨hc, h⟩ := ck_i h
  obtain ⟨v1, ev, h⟩ := tw_i h
  refine ev_sld rfl rfl hc ev ?_
  refine ev_k (pc' := 921) (ls' := [(0, .inr (.inr (some 999))), (1, .inr (.inr (some 0))), (2, .inr (.inr (some 73))), (3, .inl (x3))]) (st' := [.inl ((x3) + (2)), .inr (.inr (some 999)), .inl (v1), .inr (.inr (some 0))]) (nc' := 126) (np' := 138) (M' := M) 4 rfl ?_
  obtain ⟨hc, h⟩ := ck_i h
  obtain ⟨v2, ev, h⟩ := tw_i h
  refine ev_sld rfl rfl hc ev ?_
  refine ev_k (pc' := 922) (ls' := [(0, .inr (.inr (some 999))), (1, .inr (.inr (some 0))), (2, .inr (.inr (some 73))), (3, .inl (x3))]) (st' := [.inl (v2), .inl (v1), .inr (.inr (some 0))]) (nc' := 126) (np' := 138) (M' := M) 0 rfl ?_
  obtain ⟨v3, hv, h⟩ := ob_i h
  refine ev_call (t := 181) (as := [.inr (.inr (some 0)), .inl (v1), .inl (v2)]) (rest := []) rfl rfl rfl (by omega) (P_personIs_e (by omega) (v1) (v2) M _ hv) ?_
  refine ev_k (pc' := 930) (ls' := [(0, .inr (.inr (some 999))), (1, .inr (.inr (some 0))), (2, .inr (.inr (some 73))), (3, .inl (x3))]) (st' := [.inl ((x3) + (1)), .inr (.inr (some 999)), .inr (.inr (some 73)), .inl (v3)]) (nc' := 126) (np' := 138) (M' := M) 5 rfl ?_
  obtain ⟨hc, h⟩ := ck_i h
  obtain ⟨v4, ev, h⟩ := tw_i h
  refine ev_sld rfl rfl hc ev ?_
  refine ev_k (pc' := 935) (ls' := [(0, .inr (.inr (some 999))), (1, .inr (.inr (some 0))), (2, .inr (.inr (some 73))), (3, .inl (x3))]) (st' := [.inl ((x3) + (2)), .inr (.inr (some 999)), .inl (v4), .inr (.inr (some 73)), .inl (v3)]) (nc' := 126) (np' := 138) (M' := M) 4 rfl ?_
  obtain ⟨hc, h⟩ := ck_i h
  obtain ⟨v5, ev, h⟩ := tw_i h
  refine ev_sld rfl rfl hc ev ?_
  refine ev_k (pc' := 936) (ls' := [(0, .inr (.inr (some 999))), (1, .inr (.inr (some 0))), (2, .inr (.inr (some 73))), (3, .inl (x3))]) (st' := [.inl (v5), .inl (v4), .inr (.inr (some 73)), .inl (v3)]) (nc' := 126) (np' := 138) (M' := M) 0 rfl ?_
  obtain ⟨v6, hv, h⟩ := ob_i h
  refine ev_call (t := 228) (as := [.inr (.inr (some 73)), .inl (v4), .inl (v5)]) (rest := [.inl (v3)]) rfl rfl rfl (by omega) (R_personIs_e (by omega) (v4) (v5) M _ hv) ?_
  refine ev_k (pc' := 939) (ls' := [(0, .inr (.inr (some 999))), (1, .inr (.inr (some 0))), (2, .inr (.inr (some 73))), (3, .inl (x3))]) (st' := [.inl (v6), .inl (v3)]) (nc' := 126) (np' := 138) (M' := M) 0 rfl ?_
  obtain ⟨hR, ⟨hc, h⟩ | ⟨hc, h⟩⟩ := c_eq_i h
  · refine ev_icmp 1039 rfl hR.1 hR.2 (by decide) (fun _ => ?_) (fun q => absurd hc q)
    exact BlazedPathLaw_law_999_n0_1039_t hd   k18 hk18 (x3) M r h
  · refine ev_icmp 1039 rfl hR.1 hR.2 (by decide) (fun q => absurd q hc) (fun _ => ?_)
    refine ev_k (pc' := 943) (ls' := [(0, .inr (.inr (some 999))), (1, .inr (.inr (some 0))), (2, .inr (.inr (some 73))), (3, .inl (x3))]) (st' := [.inl (0)]) (nc' := 126) (np' := 138) (M' := M) 1 rfl ?_
    cases h
    exact ev_ret rfl
set_option maxHeartbeats 20000000 in
set_option maxRecDepth 100000 in
theorem BlazedPathLaw_law_999_n0_528_t {L : Nat} {xs : Nat → Int} {d : Nat} (hd : 88 ≤ d)   (k18 : Int → am_M → Option (Int × am_M)) (hk18 : ∀ (x3 : Int) (M : am_M) (r : Int × am_M), k18 x3 M = some r → am_Ev L xs d me_313 18 [(0, .inr (.inr (some 999))), (1, .inr (.inr (some 0))), (2, .inr (.inr (some 73))), (3, .inl (x3))] [] 126 138 M (some (.inl r.1), 126, 138, r.2)) (x3 : Int) (M : am_M) (r : Int × am_M) (h : BlazedPathLaw_law_999_n0_528 L xs  k18 x3 M = some r) : am_Ev L xs d me_313 528 [(0, .inr (.inr (some 999))), (1, .inr (.inr (some 0))), (2, .inr (.inr (some 73))), (3, .inl (x3))] [] 126 138 M (some (.inl r.1), 126, 138, r.2) := by
  refine ev_k (pc' := 529) (ls' := [(0, .inr (.inr (some 999))), (1, .inr (.inr (some 0))), (2, .inr (.inr (some 73))), (3, .inl (x3))]) (st' := [.inr (.inr (some 0))]) (nc' := 126) (np' := 138) (M' := M) 1 rfl ?_
  obtain ⟨v1, M2, hv, h⟩ := oc_i h
  refine ev_call (t := 127) (as := [.inr (.inr (some 0))]) (rest := []) rfl rfl rfl (by omega) (P_home_e (by omega)  M _ hv) ?_
  refine ev_k (pc' := 533) (ls' := [(0, .inr (.inr (some 999))), (1, .inr (.inr (some 0))), (2, .inr (.inr (some 73))), (3, .inl (x3))]) (st' := [.inr (.inr (some 73)), .inl (v1)]) (nc' := 126) (np' := 138) (M' := M2) 1 rfl ?_
  obtain ⟨v3, M4, hv, h⟩ := oc_i h
  refine ev_call (t := 274) (as := [.inr (.inr (some 73))]) (rest := [.inl (v1)]) rfl rfl rfl (by omega) (R_home_e (by omega)  M2 _ hv) ?_
  refine ev_k (pc' := 536) (ls' := [(0, .inr (.inr (some 999))), (1, .inr (.inr (some 0))), (2, .inr (.inr (some 73))), (3, .inl (x3))]) (st' := [.inl (v3), .inl (v1)]) (nc' := 126) (np' := 138) (M' := M4) 0 rfl ?_
  obtain ⟨hR, ⟨hc, h⟩ | ⟨hc, h⟩⟩ := c_eq_i h
  · refine ev_icmp 1039 rfl hR.1 hR.2 (by decide) (fun _ => ?_) (fun q => absurd hc q)
    exact BlazedPathLaw_law_999_n0_1039_t hd   k18 hk18 (x3) M4 r h
  · refine ev_icmp 1039 rfl hR.1 hR.2 (by decide) (fun q => absurd q hc) (fun _ => ?_)
    refine ev_k (pc' := 540) (ls' := [(0, .inr (.inr (some 999))), (1, .inr (.inr (some 0))), (2, .inr (.inr (some 73))), (3, .inl (x3))]) (st' := [.inl (0)]) (nc' := 126) (np' := 138) (M' := M4) 1 rfl ?_
    cases h
    exact ev_ret rfl
set_option maxHeartbeats 20000000 in
set_option maxRecDepth 100000 in
theorem BlazedPathLaw_law_999_n0_402_t {L : Nat} {xs : Nat → Int} {d : Nat} (hd : 88 ≤ d)   (k18 : Int → am_M → Option (Int × am_M)) (hk18 : ∀ (x3 : Int) (M : am_M) (r : Int × am_M), k18 x3 M = some r → am_Ev L xs d me_313 18 [(0, .inr (.inr (some 999))), (1, .inr (.inr (some 0))), (2, .inr (.inr (some 73))), (3, .inl (x3))] [] 126 138 M (some (.inl r.1), 126, 138, r.2)) (x3 : Int) (M : am_M) (r : Int × am_M) (h : BlazedPathLaw_law_999_n0_402 L xs  k18 x3 M = some r) : am_Ev L xs d me_313 402 [(0, .inr (.inr (some 999))), (1, .inr (.inr (some 0))), (2, .inr (.inr (some 73))), (3, .inl (x3))] [] 126 138 M (some (.inl r.1), 126, 138, r.2) := by
  refine ev_k (pc' := 407) (ls' := [(0, .inr (.inr (some 999))), (1, .inr (.inr (some 0))), (2, .inr (.inr (some 73))), (3, .inl (x3))]) (st' := [.inl ((x3) + (1)), .inr (.inr (some 999)), .inr (.inr (some 0))]) (nc' := 126) (np' := 138) (M' := M) 5 rfl ?_
  obtain ⟨hc, h⟩ := ck_i h
  obtain ⟨v1, ev, h⟩ := tw_i h
  refine ev_sld rfl rfl hc ev ?_
  refine ev_k (pc' := 408) (ls' := [(0, .inr (.inr (some 999))), (1, .inr (.inr (some 0))), (2, .inr (.inr (some 73))), (3, .inl (x3))]) (st' := [.inl (v1), .inr (.inr (some 0))]) (nc' := 126) (np' := 138) (M' := M) 0 rfl ?_
  obtain ⟨v2, M3, hv, h⟩ := oc_i h
  refine ev_call (t := 67) (as := [.inr (.inr (some 0)), .inl (v1)]) (rest := []) rfl rfl rfl (by omega) (P_orders_e (by omega) (v1) M _ hv) ?_
  refine ev_k (pc' := 416) (ls' := [(0, .inr (.inr (some 999))), (1, .inr (.inr (some 0))), (2, .inr (.inr (some 73))), (3, .inl (x3))]) (st' := [.inl ((x3) + (1)), .inr (.inr (some 999)), .inr (.inr (some 73)), .inl (v2)]) (nc' := 126) (np' := 138) (M' := M3) 5 rfl ?_
  obtain ⟨hc, h⟩ := ck_i h
  obtain ⟨v4, ev, h⟩ := tw_i h
  refine ev_sld rfl rfl hc ev ?_
  refine ev_k (pc' := 417) (ls' := [(0, .inr (.inr (some 999))), (1, .inr (.inr (some 0))), (2, .inr (.inr (some 73))), (3, .inl (x3))]) (st' := [.inl (v4), .inr (.inr (some 73)), .inl (v2)]) (nc' := 126) (np' := 138) (M' := M3) 0 rfl ?_
  obtain ⟨v5, M6, hv, h⟩ := oc_i h
  refine ev_call (t := 236) (as := [.inr (.inr (some 73)), .inl (v4)]) (rest := [.inl (v2)]) rfl rfl rfl (by omega) (R_orders_e (by omega) (v4) M3 _ hv) ?_
  refine ev_k (pc' := 420) (ls' := [(0, .inr (.inr (some 999))), (1, .inr (.inr (some 0))), (2, .inr (.inr (some 73))), (3, .inl (x3))]) (st' := [.inl (v5), .inl (v2)]) (nc' := 126) (np' := 138) (M' := M6) 0 rfl ?_
  obtain ⟨hR, ⟨hc, h⟩ | ⟨hc, h⟩⟩ := c_eq_i h
  · refine ev_icmp 1039 rfl hR.1 hR.2 (by decide) (fun _ => ?_) (fun q => absurd hc q)
    exact BlazedPathLaw_law_999_n0_1039_t hd   k18 hk18 (x3) M6 r h
  · refine ev_icmp 1039 rfl hR.1 hR.2 (by decide) (fun q => absurd q hc) (fun _ => ?_)
    refine ev_k (pc' := 424) (ls' := [(0, .inr (.inr (some 999))), (1, .inr (.inr (some 0))), (2, .inr (.inr (some 73))), (3, .inl (x3))]) (st' := [.inl (0)]) (nc' := 126) (np' := 138) (M' := M6) 1 rfl ?_
    cases h
    exact ev_ret rfl
set_option maxHeartbeats 20000000 in
set_option maxRecDepth 100000 in
theorem BlazedPathLaw_law_999_n0_277_t {L : Nat} {xs : Nat → Int} {d : Nat} (hd : 88 ≤ d)   (k18 : Int → am_M → Option (Int × am_M)) (hk18 : ∀ (x3 : Int) (M : am_M) (r : Int × am_M), k18 x3 M = some r → am_Ev L xs d me_313 18 [(0, .inr (.inr (some 999))), (1, .inr (.inr (some 0))), (2, .inr (.inr (some 73))), (3, .inl (x3))] [] 126 138 M (some (.inl r.1), 126, 138, r.2)) (x3 : Int) (M : am_M) (r : Int × am_M) (h : BlazedPathLaw_law_999_n0_277 L xs  k18 x3 M = some r) : am_Ev L xs d me_313 277 [(0, .inr (.inr (some 999))), (1, .inr (.inr (some 0))), (2, .inr (.inr (some 73))), (3, .inl (x3))] [] 126 138 M (some (.inl r.1), 126, 138, r.2) := by
  refine ev_k (pc' := 282) (ls' := [(0, .inr (.inr (some 999))), (1, .inr (.inr (some 0))), (2, .inr (.inr (some 73))), (3, .inl (x3))]) (st' := [.inl ((x3) + (1)), .inr (.inr (some 999)), .inr (.inr (some 0))]) (nc' := 126) (np' := 138) (M' := M) 5 rfl ?_
  obtain ⟨hc, h⟩ := ck_i h
  obtain ⟨v1, ev, h⟩ := tw_i h
  refine ev_sld rfl rfl hc ev ?_
  refine ev_k (pc' := 283) (ls' := [(0, .inr (.inr (some 999))), (1, .inr (.inr (some 0))), (2, .inr (.inr (some 73))), (3, .inl (x3))]) (st' := [.inl (v1), .inr (.inr (some 0))]) (nc' := 126) (np' := 138) (M' := M) 0 rfl ?_
  obtain ⟨v2, M3, hv, h⟩ := oc_i h
  refine ev_call (t := 54) (as := [.inr (.inr (some 0)), .inl (v1)]) (rest := []) rfl rfl rfl (by omega) (P_start_e (by omega) (v1) M _ hv) ?_
  refine ev_k (pc' := 291) (ls' := [(0, .inr (.inr (some 999))), (1, .inr (.inr (some 0))), (2, .inr (.inr (some 73))), (3, .inl (x3))]) (st' := [.inl ((x3) + (1)), .inr (.inr (some 999)), .inr (.inr (some 73)), .inl (v2)]) (nc' := 126) (np' := 138) (M' := M3) 5 rfl ?_
  obtain ⟨hc, h⟩ := ck_i h
  obtain ⟨v4, ev, h⟩ := tw_i h
  refine ev_sld rfl rfl hc ev ?_
  refine ev_k (pc' := 292) (ls' := [(0, .inr (.inr (some 999))), (1, .inr (.inr (some 0))), (2, .inr (.inr (some 73))), (3, .inl (x3))]) (st' := [.inl (v4), .inr (.inr (some 73)), .inl (v2)]) (nc' := 126) (np' := 138) (M' := M3) 0 rfl ?_
  obtain ⟨v5, M6, hv, h⟩ := oc_i h
  refine ev_call (t := 229) (as := [.inr (.inr (some 73)), .inl (v4)]) (rest := [.inl (v2)]) rfl rfl rfl (by omega) (R_start_e (by omega) (v4) M3 _ hv) ?_
  refine ev_k (pc' := 295) (ls' := [(0, .inr (.inr (some 999))), (1, .inr (.inr (some 0))), (2, .inr (.inr (some 73))), (3, .inl (x3))]) (st' := [.inl (v5), .inl (v2)]) (nc' := 126) (np' := 138) (M' := M6) 0 rfl ?_
  obtain ⟨hR, ⟨hc, h⟩ | ⟨hc, h⟩⟩ := c_eq_i h
  · refine ev_icmp 1039 rfl hR.1 hR.2 (by decide) (fun _ => ?_) (fun q => absurd hc q)
    exact BlazedPathLaw_law_999_n0_1039_t hd   k18 hk18 (x3) M6 r h
  · refine ev_icmp 1039 rfl hR.1 hR.2 (by decide) (fun q => absurd q hc) (fun _ => ?_)
    refine ev_k (pc' := 299) (ls' := [(0, .inr (.inr (some 999))), (1, .inr (.inr (some 0))), (2, .inr (.inr (some 73))), (3, .inl (x3))]) (st' := [.inl (0)]) (nc' := 126) (np' := 138) (M' := M6) 1 rfl ?_
    cases h
    exact ev_ret rfl
set_option maxHeartbeats 20000000 in
set_option maxRecDepth 100000 in
theorem BlazedPathLaw_law_999_n0_541_t {L : Nat} {xs : Nat → Int} {d : Nat} (hd : 88 ≤ d)   (k18 : Int → am_M → Option (Int × am_M)) (hk18 : ∀ (x3 : Int) (M : am_M) (r : Int × am_M), k18 x3 M = some r → am_Ev L xs d me_313 18 [(0, .inr (.inr (some 999))), (1, .inr (.inr (some 0))), (2, .inr (.inr (some 73))), (3, .inl (x3))] [] 126 138 M (some (.inl r.1), 126, 138, r.2)) (x3 : Int) (M : am_M) (r : Int × am_M) (h : BlazedPathLaw_law_999_n0_541 L xs  k18 x3 M = some r) : am_Ev L xs d me_313 541 [(0, .inr (.inr (some 999))), (1, .inr (.inr (some 0))), (2, .inr (.inr (some 73))), (3, .inl (x3))] [] 126 138 M (some (.inl r.1), 126, 138, r.2) := by
  refine ev_k (pc' := 546) (ls' := [(0, .inr (.inr (some 999))), (1, .inr (.inr (some 0))), (2, .inr (.inr (some 73))), (3, .inl (x3))]) (st' := [.inl ((x3) + (1)), .inr (.inr (some 999)), .inr (.inr (some 0))]) (nc' := 126) (np' := 138) (M' := M) 5 rfl ?_
  obtain ⟨hc, h⟩ := ck_i h
  obtain ⟨v1, ev, h⟩ := tw_i h
  refine ev_sld rfl rfl hc ev ?_
  refine ev_k (pc' := 551) (ls' := [(0, .inr (.inr (some 999))), (1, .inr (.inr (some 0))), (2, .inr (.inr (some 73))), (3, .inl (x3))]) (st' := [.inl ((x3) + (2)), .inr (.inr (some 999)), .inl (v1), .inr (.inr (some 0))]) (nc' := 126) (np' := 138) (M' := M) 4 rfl ?_
  obtain ⟨hc, h⟩ := ck_i h
  obtain ⟨v2, ev, h⟩ := tw_i h
  refine ev_sld rfl rfl hc ev ?_
  refine ev_k (pc' := 552) (ls' := [(0, .inr (.inr (some 999))), (1, .inr (.inr (some 0))), (2, .inr (.inr (some 73))), (3, .inl (x3))]) (st' := [.inl (v2), .inl (v1), .inr (.inr (some 0))]) (nc' := 126) (np' := 138) (M' := M) 0 rfl ?_
  obtain ⟨v3, hv, h⟩ := ob_i h
  refine ev_call (t := 130) (as := [.inr (.inr (some 0)), .inl (v1), .inl (v2)]) (rest := []) rfl rfl rfl (by omega) (P_path_e (by omega) (v1) (v2) M _ hv) ?_
  refine ev_k (pc' := 560) (ls' := [(0, .inr (.inr (some 999))), (1, .inr (.inr (some 0))), (2, .inr (.inr (some 73))), (3, .inl (x3))]) (st' := [.inl ((x3) + (1)), .inr (.inr (some 999)), .inr (.inr (some 73)), .inl (v3)]) (nc' := 126) (np' := 138) (M' := M) 5 rfl ?_
  obtain ⟨hc, h⟩ := ck_i h
  obtain ⟨v4, ev, h⟩ := tw_i h
  refine ev_sld rfl rfl hc ev ?_
  refine ev_k (pc' := 565) (ls' := [(0, .inr (.inr (some 999))), (1, .inr (.inr (some 0))), (2, .inr (.inr (some 73))), (3, .inl (x3))]) (st' := [.inl ((x3) + (2)), .inr (.inr (some 999)), .inl (v4), .inr (.inr (some 73)), .inl (v3)]) (nc' := 126) (np' := 138) (M' := M) 4 rfl ?_
  obtain ⟨hc, h⟩ := ck_i h
  obtain ⟨v5, ev, h⟩ := tw_i h
  refine ev_sld rfl rfl hc ev ?_
  refine ev_k (pc' := 566) (ls' := [(0, .inr (.inr (some 999))), (1, .inr (.inr (some 0))), (2, .inr (.inr (some 73))), (3, .inl (x3))]) (st' := [.inl (v5), .inl (v4), .inr (.inr (some 73)), .inl (v3)]) (nc' := 126) (np' := 138) (M' := M) 0 rfl ?_
  obtain ⟨v6, hv, h⟩ := ob_i h
  refine ev_call (t := 231) (as := [.inr (.inr (some 73)), .inl (v4), .inl (v5)]) (rest := [.inl (v3)]) rfl rfl rfl (by omega) (R_path_e (by omega) (v4) (v5) M _ hv) ?_
  refine ev_k (pc' := 569) (ls' := [(0, .inr (.inr (some 999))), (1, .inr (.inr (some 0))), (2, .inr (.inr (some 73))), (3, .inl (x3))]) (st' := [.inl (v6), .inl (v3)]) (nc' := 126) (np' := 138) (M' := M) 0 rfl ?_
  obtain ⟨hR, ⟨hc, h⟩ | ⟨hc, h⟩⟩ := c_eq_i h
  · refine ev_icmp 1039 rfl hR.1 hR.2 (by decide) (fun _ => ?_) (fun q => absurd hc q)
    exact BlazedPathLaw_law_999_n0_1039_t hd   k18 hk18 (x3) M r h
  · refine ev_icmp 1039 rfl hR.1 hR.2 (by decide) (fun q => absurd q hc) (fun _ => ?_)
    refine ev_k (pc' := 573) (ls' := [(0, .inr (.inr (some 999))), (1, .inr (.inr (some 0))), (2, .inr (.inr (some 73))), (3, .inl (x3))]) (st' := [.inl (0)]) (nc' := 126) (np' := 138) (M' := M) 1 rfl ?_
    cases h
    exact ev_ret rfl
set_option maxHeartbeats 20000000 in
set_option maxRecDepth 100000 in
theorem BlazedPathLaw_law_999_n0_673_t {L : Nat} {xs : Nat → Int} {d : Nat} (hd : 88 ≤ d)   (k18 : Int → am_M → Option (Int × am_M)) (hk18 : ∀ (x3 : Int) (M : am_M) (r : Int × am_M), k18 x3 M = some r → am_Ev L xs d me_313 18 [(0, .inr (.inr (some 999))), (1, .inr (.inr (some 0))), (2, .inr (.inr (some 73))), (3, .inl (x3))] [] 126 138 M (some (.inl r.1), 126, 138, r.2)) (x3 : Int) (M : am_M) (r : Int × am_M) (h : BlazedPathLaw_law_999_n0_673 L xs  k18 x3 M = some r) : am_Ev L xs d me_313 673 [(0, .inr (.inr (some 999))), (1, .inr (.inr (some 0))), (2, .inr (.inr (some 73))), (3, .inl (x3))] [] 126 138 M (some (.inl r.1), 126, 138, r.2) := by
  refine ev_k (pc' := 678) (ls' := [(0, .inr (.inr (some 999))), (1, .inr (.inr (some 0))), (2, .inr (.inr (some 73))), (3, .inl (x3))]) (st' := [.inl ((x3) + (1)), .inr (.inr (some 999)), .inr (.inr (some 0))]) (nc' := 126) (np' := 138) (M' := M) 5 rfl ?_
  obtain ⟨hc, h⟩ := ck_i h
  obtain ⟨v1, ev, h⟩ := tw_i h
  refine ev_sld rfl rfl hc ev ?_
  refine ev_k (pc' := 683) (ls' := [(0, .inr (.inr (some 999))), (1, .inr (.inr (some 0))), (2, .inr (.inr (some 73))), (3, .inl (x3))]) (st' := [.inl ((x3) + (2)), .inr (.inr (some 999)), .inl (v1), .inr (.inr (some 0))]) (nc' := 126) (np' := 138) (M' := M) 4 rfl ?_
  obtain ⟨hc, h⟩ := ck_i h
  obtain ⟨v2, ev, h⟩ := tw_i h
  refine ev_sld rfl rfl hc ev ?_
  refine ev_k (pc' := 688) (ls' := [(0, .inr (.inr (some 999))), (1, .inr (.inr (some 0))), (2, .inr (.inr (some 73))), (3, .inl (x3))]) (st' := [.inl ((x3) + (3)), .inr (.inr (some 999)), .inl (v2), .inl (v1), .inr (.inr (some 0))]) (nc' := 126) (np' := 138) (M' := M) 4 rfl ?_
  obtain ⟨hc, h⟩ := ck_i h
  obtain ⟨v3, ev, h⟩ := tw_i h
  refine ev_sld rfl rfl hc ev ?_
  refine ev_k (pc' := 689) (ls' := [(0, .inr (.inr (some 999))), (1, .inr (.inr (some 0))), (2, .inr (.inr (some 73))), (3, .inl (x3))]) (st' := [.inl (v3), .inl (v2), .inl (v1), .inr (.inr (some 0))]) (nc' := 126) (np' := 138) (M' := M) 0 rfl ?_
  obtain ⟨v4, M5, hv, h⟩ := oc_i h
  refine ev_call (t := 146) (as := [.inr (.inr (some 0)), .inl (v1), .inl (v2), .inl (v3)]) (rest := []) rfl rfl rfl (by omega) (P_byTurns_e (by omega) (v1) (v2) (v3) M _ hv) ?_
  refine ev_k (pc' := 697) (ls' := [(0, .inr (.inr (some 999))), (1, .inr (.inr (some 0))), (2, .inr (.inr (some 73))), (3, .inl (x3))]) (st' := [.inl ((x3) + (1)), .inr (.inr (some 999)), .inr (.inr (some 73)), .inl (v4)]) (nc' := 126) (np' := 138) (M' := M5) 5 rfl ?_
  obtain ⟨hc, h⟩ := ck_i h
  obtain ⟨v6, ev, h⟩ := tw_i h
  refine ev_sld rfl rfl hc ev ?_
  refine ev_k (pc' := 702) (ls' := [(0, .inr (.inr (some 999))), (1, .inr (.inr (some 0))), (2, .inr (.inr (some 73))), (3, .inl (x3))]) (st' := [.inl ((x3) + (2)), .inr (.inr (some 999)), .inl (v6), .inr (.inr (some 73)), .inl (v4)]) (nc' := 126) (np' := 138) (M' := M5) 4 rfl ?_
  obtain ⟨hc, h⟩ := ck_i h
  obtain ⟨v7, ev, h⟩ := tw_i h
  refine ev_sld rfl rfl hc ev ?_
  refine ev_k (pc' := 707) (ls' := [(0, .inr (.inr (some 999))), (1, .inr (.inr (some 0))), (2, .inr (.inr (some 73))), (3, .inl (x3))]) (st' := [.inl ((x3) + (3)), .inr (.inr (some 999)), .inl (v7), .inl (v6), .inr (.inr (some 73)), .inl (v4)]) (nc' := 126) (np' := 138) (M' := M5) 4 rfl ?_
  obtain ⟨hc, h⟩ := ck_i h
  obtain ⟨v8, ev, h⟩ := tw_i h
  refine ev_sld rfl rfl hc ev ?_
  refine ev_k (pc' := 708) (ls' := [(0, .inr (.inr (some 999))), (1, .inr (.inr (some 0))), (2, .inr (.inr (some 73))), (3, .inl (x3))]) (st' := [.inl (v8), .inl (v7), .inl (v6), .inr (.inr (some 73)), .inl (v4)]) (nc' := 126) (np' := 138) (M' := M5) 0 rfl ?_
  obtain ⟨v9, M10, hv, h⟩ := oc_i h
  refine ev_call (t := 282) (as := [.inr (.inr (some 73)), .inl (v6), .inl (v7), .inl (v8)]) (rest := [.inl (v4)]) rfl rfl rfl (by omega) (R_byTurns_e (by omega) (v6) (v7) (v8) M5 _ hv) ?_
  refine ev_k (pc' := 711) (ls' := [(0, .inr (.inr (some 999))), (1, .inr (.inr (some 0))), (2, .inr (.inr (some 73))), (3, .inl (x3))]) (st' := [.inl (v9), .inl (v4)]) (nc' := 126) (np' := 138) (M' := M10) 0 rfl ?_
  obtain ⟨hR, ⟨hc, h⟩ | ⟨hc, h⟩⟩ := c_eq_i h
  · refine ev_icmp 1039 rfl hR.1 hR.2 (by decide) (fun _ => ?_) (fun q => absurd hc q)
    exact BlazedPathLaw_law_999_n0_1039_t hd   k18 hk18 (x3) M10 r h
  · refine ev_icmp 1039 rfl hR.1 hR.2 (by decide) (fun q => absurd q hc) (fun _ => ?_)
    refine ev_k (pc' := 715) (ls' := [(0, .inr (.inr (some 999))), (1, .inr (.inr (some 0))), (2, .inr (.inr (some 73))), (3, .inl (x3))]) (st' := [.inl (0)]) (nc' := 126) (np' := 138) (M' := M10) 1 rfl ?_
    cases h
    exact ev_ret rfl
set_option maxHeartbeats 20000000 in
set_option maxRecDepth 100000 in
theorem BlazedPathLaw_law_999_n0_168_t {L : Nat} {xs : Nat → Int} {d : Nat} (hd : 88 ≤ d)   (k18 : Int → am_M → Option (Int × am_M)) (hk18 : ∀ (x3 : Int) (M : am_M) (r : Int × am_M), k18 x3 M = some r → am_Ev L xs d me_313 18 [(0, .inr (.inr (some 999))), (1, .inr (.inr (some 0))), (2, .inr (.inr (some 73))), (3, .inl (x3))] [] 126 138 M (some (.inl r.1), 126, 138, r.2)) (x3 : Int) (M : am_M) (r : Int × am_M) (h : BlazedPathLaw_law_999_n0_168 L xs  k18 x3 M = some r) : am_Ev L xs d me_313 168 [(0, .inr (.inr (some 999))), (1, .inr (.inr (some 0))), (2, .inr (.inr (some 73))), (3, .inl (x3))] [] 126 138 M (some (.inl r.1), 126, 138, r.2) := by
  refine ev_k (pc' := 173) (ls' := [(0, .inr (.inr (some 999))), (1, .inr (.inr (some 0))), (2, .inr (.inr (some 73))), (3, .inl (x3))]) (st' := [.inl ((x3) + (1)), .inr (.inr (some 999)), .inr (.inr (some 0))]) (nc' := 126) (np' := 138) (M' := M) 5 rfl ?_
  obtain ⟨hc, h⟩ := ck_i h
  obtain ⟨v1, ev, h⟩ := tw_i h
  refine ev_sld rfl rfl hc ev ?_
  refine ev_k (pc' := 178) (ls' := [(0, .inr (.inr (some 999))), (1, .inr (.inr (some 0))), (2, .inr (.inr (some 73))), (3, .inl (x3))]) (st' := [.inl ((x3) + (2)), .inr (.inr (some 999)), .inl (v1), .inr (.inr (some 0))]) (nc' := 126) (np' := 138) (M' := M) 4 rfl ?_
  obtain ⟨hc, h⟩ := ck_i h
  obtain ⟨v2, ev, h⟩ := tw_i h
  refine ev_sld rfl rfl hc ev ?_
  refine ev_k (pc' := 183) (ls' := [(0, .inr (.inr (some 999))), (1, .inr (.inr (some 0))), (2, .inr (.inr (some 73))), (3, .inl (x3))]) (st' := [.inl ((x3) + (3)), .inr (.inr (some 999)), .inl (v2), .inl (v1), .inr (.inr (some 0))]) (nc' := 126) (np' := 138) (M' := M) 4 rfl ?_
  obtain ⟨hc, h⟩ := ck_i h
  obtain ⟨v3, ev, h⟩ := tw_i h
  refine ev_sld rfl rfl hc ev ?_
  refine ev_k (pc' := 188) (ls' := [(0, .inr (.inr (some 999))), (1, .inr (.inr (some 0))), (2, .inr (.inr (some 73))), (3, .inl (x3))]) (st' := [.inl ((x3) + (4)), .inr (.inr (some 999)), .inl (v3), .inl (v2), .inl (v1), .inr (.inr (some 0))]) (nc' := 126) (np' := 138) (M' := M) 4 rfl ?_
  obtain ⟨hc, h⟩ := ck_i h
  obtain ⟨v4, ev, h⟩ := tw_i h
  refine ev_sld rfl rfl hc ev ?_
  refine ev_k (pc' := 193) (ls' := [(0, .inr (.inr (some 999))), (1, .inr (.inr (some 0))), (2, .inr (.inr (some 73))), (3, .inl (x3))]) (st' := [.inl ((x3) + (5)), .inr (.inr (some 999)), .inl (v4), .inl (v3), .inl (v2), .inl (v1), .inr (.inr (some 0))]) (nc' := 126) (np' := 138) (M' := M) 4 rfl ?_
  obtain ⟨hc, h⟩ := ck_i h
  obtain ⟨v5, ev, h⟩ := tw_i h
  refine ev_sld rfl rfl hc ev ?_
  refine ev_k (pc' := 194) (ls' := [(0, .inr (.inr (some 999))), (1, .inr (.inr (some 0))), (2, .inr (.inr (some 73))), (3, .inl (x3))]) (st' := [.inl (v5), .inl (v4), .inl (v3), .inl (v2), .inl (v1), .inr (.inr (some 0))]) (nc' := 126) (np' := 138) (M' := M) 0 rfl ?_
  obtain ⟨v6, M7, hv, h⟩ := oc_i h
  refine ev_call (t := 16) (as := [.inr (.inr (some 0)), .inl (v1), .inl (v2), .inl (v3), .inl (v4), .inl (v5)]) (rest := []) rfl rfl rfl (by omega) (P_feed_e (by omega) (v1) (v2) (v3) (v4) (v5) M _ hv) ?_
  refine ev_k (pc' := 202) (ls' := [(0, .inr (.inr (some 999))), (1, .inr (.inr (some 0))), (2, .inr (.inr (some 73))), (3, .inl (x3))]) (st' := [.inl ((x3) + (1)), .inr (.inr (some 999)), .inr (.inr (some 73)), .inl (v6)]) (nc' := 126) (np' := 138) (M' := M7) 5 rfl ?_
  obtain ⟨hc, h⟩ := ck_i h
  obtain ⟨v8, ev, h⟩ := tw_i h
  refine ev_sld rfl rfl hc ev ?_
  refine ev_k (pc' := 207) (ls' := [(0, .inr (.inr (some 999))), (1, .inr (.inr (some 0))), (2, .inr (.inr (some 73))), (3, .inl (x3))]) (st' := [.inl ((x3) + (2)), .inr (.inr (some 999)), .inl (v8), .inr (.inr (some 73)), .inl (v6)]) (nc' := 126) (np' := 138) (M' := M7) 4 rfl ?_
  obtain ⟨hc, h⟩ := ck_i h
  obtain ⟨v9, ev, h⟩ := tw_i h
  refine ev_sld rfl rfl hc ev ?_
  refine ev_k (pc' := 212) (ls' := [(0, .inr (.inr (some 999))), (1, .inr (.inr (some 0))), (2, .inr (.inr (some 73))), (3, .inl (x3))]) (st' := [.inl ((x3) + (3)), .inr (.inr (some 999)), .inl (v9), .inl (v8), .inr (.inr (some 73)), .inl (v6)]) (nc' := 126) (np' := 138) (M' := M7) 4 rfl ?_
  obtain ⟨hc, h⟩ := ck_i h
  obtain ⟨v10, ev, h⟩ := tw_i h
  refine ev_sld rfl rfl hc ev ?_
  refine ev_k (pc' := 217) (ls' := [(0, .inr (.inr (some 999))), (1, .inr (.inr (some 0))), (2, .inr (.inr (some 73))), (3, .inl (x3))]) (st' := [.inl ((x3) + (4)), .inr (.inr (some 999)), .inl (v10), .inl (v9), .inl (v8), .inr (.inr (some 73)), .inl (v6)]) (nc' := 126) (np' := 138) (M' := M7) 4 rfl ?_
  obtain ⟨hc, h⟩ := ck_i h
  obtain ⟨v11, ev, h⟩ := tw_i h
  refine ev_sld rfl rfl hc ev ?_
  refine ev_k (pc' := 222) (ls' := [(0, .inr (.inr (some 999))), (1, .inr (.inr (some 0))), (2, .inr (.inr (some 73))), (3, .inl (x3))]) (st' := [.inl ((x3) + (5)), .inr (.inr (some 999)), .inl (v11), .inl (v10), .inl (v9), .inl (v8), .inr (.inr (some 73)), .inl (v6)]) (nc' := 126) (np' := 138) (M' := M7) 4 rfl ?_
  obtain ⟨hc, h⟩ := ck_i h
  obtain ⟨v12, ev, h⟩ := tw_i h
  refine ev_sld rfl rfl hc ev ?_
  refine ev_k (pc' := 223) (ls' := [(0, .inr (.inr (some 999))), (1, .inr (.inr (some 0))), (2, .inr (.inr (some 73))), (3, .inl (x3))]) (st' := [.inl (v12), .inl (v11), .inl (v10), .inl (v9), .inl (v8), .inr (.inr (some 73)), .inl (v6)]) (nc' := 126) (np' := 138) (M' := M7) 0 rfl ?_
  obtain ⟨v13, M14, hv, h⟩ := oc_i h
  refine ev_call (t := 190) (as := [.inr (.inr (some 73)), .inl (v8), .inl (v9), .inl (v10), .inl (v11), .inl (v12)]) (rest := [.inl (v6)]) rfl rfl rfl (by omega) (R_feed_e (by omega) (v8) (v9) (v10) (v11) (v12) M7 _ hv) ?_
  refine ev_k (pc' := 226) (ls' := [(0, .inr (.inr (some 999))), (1, .inr (.inr (some 0))), (2, .inr (.inr (some 73))), (3, .inl (x3))]) (st' := [.inl (v13), .inl (v6)]) (nc' := 126) (np' := 138) (M' := M14) 0 rfl ?_
  obtain ⟨hR, ⟨hc, h⟩ | ⟨hc, h⟩⟩ := c_eq_i h
  · refine ev_icmp 1039 rfl hR.1 hR.2 (by decide) (fun _ => ?_) (fun q => absurd hc q)
    exact BlazedPathLaw_law_999_n0_1039_t hd   k18 hk18 (x3) M14 r h
  · refine ev_icmp 1039 rfl hR.1 hR.2 (by decide) (fun q => absurd q hc) (fun _ => ?_)
    refine ev_k (pc' := 230) (ls' := [(0, .inr (.inr (some 999))), (1, .inr (.inr (some 0))), (2, .inr (.inr (some 73))), (3, .inl (x3))]) (st' := [.inl (0)]) (nc' := 126) (np' := 138) (M' := M14) 1 rfl ?_
    cases h
    exact ev_ret rfl
set_option maxHeartbeats 20000000 in
set_option maxRecDepth 100000 in
theorem BlazedPathLaw_law_999_n0_425_t {L : Nat} {xs : Nat → Int} {d : Nat} (hd : 88 ≤ d)   (k18 : Int → am_M → Option (Int × am_M)) (hk18 : ∀ (x3 : Int) (M : am_M) (r : Int × am_M), k18 x3 M = some r → am_Ev L xs d me_313 18 [(0, .inr (.inr (some 999))), (1, .inr (.inr (some 0))), (2, .inr (.inr (some 73))), (3, .inl (x3))] [] 126 138 M (some (.inl r.1), 126, 138, r.2)) (x3 : Int) (M : am_M) (r : Int × am_M) (h : BlazedPathLaw_law_999_n0_425 L xs  k18 x3 M = some r) : am_Ev L xs d me_313 425 [(0, .inr (.inr (some 999))), (1, .inr (.inr (some 0))), (2, .inr (.inr (some 73))), (3, .inl (x3))] [] 126 138 M (some (.inl r.1), 126, 138, r.2) := by
  refine ev_k (pc' := 430) (ls' := [(0, .inr (.inr (some 999))), (1, .inr (.inr (some 0))), (2, .inr (.inr (some 73))), (3, .inl (x3))]) (st' := [.inl ((x3) + (1)), .inr (.inr (some 999)), .inr (.inr (some 0))]) (nc' := 126) (np' := 138) (M' := M) 5 rfl ?_
  obtain ⟨hc, h⟩ := ck_i h
  obtain ⟨v1, ev, h⟩ := tw_i h
  refine ev_sld rfl rfl hc ev ?_
  refine ev_k (pc' := 435) (ls' := [(0, .inr (.inr (some 999))), (1, .inr (.inr (some 0))), (2, .inr (.inr (some 73))), (3, .inl (x3))]) (st' := [.inl ((x3) + (2)), .inr (.inr (some 999)), .inl (v1), .inr (.inr (some 0))]) (nc' := 126) (np' := 138) (M' := M) 4 rfl ?_
  obtain ⟨hc, h⟩ := ck_i h
  obtain ⟨v2, ev, h⟩ := tw_i h
  refine ev_sld rfl rfl hc ev ?_
  refine ev_k (pc' := 436) (ls' := [(0, .inr (.inr (some 999))), (1, .inr (.inr (some 0))), (2, .inr (.inr (some 73))), (3, .inl (x3))]) (st' := [.inl (v2), .inl (v1), .inr (.inr (some 0))]) (nc' := 126) (np' := 138) (M' := M) 0 rfl ?_
  obtain ⟨v3, M4, hv, h⟩ := oc_i h
  refine ev_call (t := 107) (as := [.inr (.inr (some 0)), .inl (v1), .inl (v2)]) (rest := []) rfl rfl rfl (by omega) (P_tried_e (by omega) (v1) (v2) M _ hv) ?_
  refine ev_k (pc' := 444) (ls' := [(0, .inr (.inr (some 999))), (1, .inr (.inr (some 0))), (2, .inr (.inr (some 73))), (3, .inl (x3))]) (st' := [.inl ((x3) + (1)), .inr (.inr (some 999)), .inr (.inr (some 73)), .inl (v3)]) (nc' := 126) (np' := 138) (M' := M4) 5 rfl ?_
  obtain ⟨hc, h⟩ := ck_i h
  obtain ⟨v5, ev, h⟩ := tw_i h
  refine ev_sld rfl rfl hc ev ?_
  refine ev_k (pc' := 449) (ls' := [(0, .inr (.inr (some 999))), (1, .inr (.inr (some 0))), (2, .inr (.inr (some 73))), (3, .inl (x3))]) (st' := [.inl ((x3) + (2)), .inr (.inr (some 999)), .inl (v5), .inr (.inr (some 73)), .inl (v3)]) (nc' := 126) (np' := 138) (M' := M4) 4 rfl ?_
  obtain ⟨hc, h⟩ := ck_i h
  obtain ⟨v6, ev, h⟩ := tw_i h
  refine ev_sld rfl rfl hc ev ?_
  refine ev_k (pc' := 450) (ls' := [(0, .inr (.inr (some 999))), (1, .inr (.inr (some 0))), (2, .inr (.inr (some 73))), (3, .inl (x3))]) (st' := [.inl (v6), .inl (v5), .inr (.inr (some 73)), .inl (v3)]) (nc' := 126) (np' := 138) (M' := M4) 0 rfl ?_
  obtain ⟨v7, M8, hv, h⟩ := oc_i h
  refine ev_call (t := 264) (as := [.inr (.inr (some 73)), .inl (v5), .inl (v6)]) (rest := [.inl (v3)]) rfl rfl rfl (by omega) (R_tried_e (by omega) (v5) (v6) M4 _ hv) ?_
  refine ev_k (pc' := 453) (ls' := [(0, .inr (.inr (some 999))), (1, .inr (.inr (some 0))), (2, .inr (.inr (some 73))), (3, .inl (x3))]) (st' := [.inl (v7), .inl (v3)]) (nc' := 126) (np' := 138) (M' := M8) 0 rfl ?_
  obtain ⟨hR, ⟨hc, h⟩ | ⟨hc, h⟩⟩ := c_eq_i h
  · refine ev_icmp 1039 rfl hR.1 hR.2 (by decide) (fun _ => ?_) (fun q => absurd hc q)
    exact BlazedPathLaw_law_999_n0_1039_t hd   k18 hk18 (x3) M8 r h
  · refine ev_icmp 1039 rfl hR.1 hR.2 (by decide) (fun q => absurd q hc) (fun _ => ?_)
    refine ev_k (pc' := 457) (ls' := [(0, .inr (.inr (some 999))), (1, .inr (.inr (some 0))), (2, .inr (.inr (some 73))), (3, .inl (x3))]) (st' := [.inl (0)]) (nc' := 126) (np' := 138) (M' := M8) 1 rfl ?_
    cases h
    exact ev_ret rfl
set_option maxHeartbeats 20000000 in
set_option maxRecDepth 100000 in
theorem BlazedPathLaw_law_999_n0_300_t {L : Nat} {xs : Nat → Int} {d : Nat} (hd : 88 ≤ d)   (k18 : Int → am_M → Option (Int × am_M)) (hk18 : ∀ (x3 : Int) (M : am_M) (r : Int × am_M), k18 x3 M = some r → am_Ev L xs d me_313 18 [(0, .inr (.inr (some 999))), (1, .inr (.inr (some 0))), (2, .inr (.inr (some 73))), (3, .inl (x3))] [] 126 138 M (some (.inl r.1), 126, 138, r.2)) (x3 : Int) (M : am_M) (r : Int × am_M) (h : BlazedPathLaw_law_999_n0_300 L xs  k18 x3 M = some r) : am_Ev L xs d me_313 300 [(0, .inr (.inr (some 999))), (1, .inr (.inr (some 0))), (2, .inr (.inr (some 73))), (3, .inl (x3))] [] 126 138 M (some (.inl r.1), 126, 138, r.2) := by
  refine ev_k (pc' := 305) (ls' := [(0, .inr (.inr (some 999))), (1, .inr (.inr (some 0))), (2, .inr (.inr (some 73))), (3, .inl (x3))]) (st' := [.inl ((x3) + (1)), .inr (.inr (some 999)), .inr (.inr (some 0))]) (nc' := 126) (np' := 138) (M' := M) 5 rfl ?_
  obtain ⟨hc, h⟩ := ck_i h
  obtain ⟨v1, ev, h⟩ := tw_i h
  refine ev_sld rfl rfl hc ev ?_
  refine ev_k (pc' := 310) (ls' := [(0, .inr (.inr (some 999))), (1, .inr (.inr (some 0))), (2, .inr (.inr (some 73))), (3, .inl (x3))]) (st' := [.inl ((x3) + (2)), .inr (.inr (some 999)), .inl (v1), .inr (.inr (some 0))]) (nc' := 126) (np' := 138) (M' := M) 4 rfl ?_
  obtain ⟨hc, h⟩ := ck_i h
  obtain ⟨v2, ev, h⟩ := tw_i h
  refine ev_sld rfl rfl hc ev ?_
  refine ev_k (pc' := 311) (ls' := [(0, .inr (.inr (some 999))), (1, .inr (.inr (some 0))), (2, .inr (.inr (some 73))), (3, .inl (x3))]) (st' := [.inl (v2), .inl (v1), .inr (.inr (some 0))]) (nc' := 126) (np' := 138) (M' := M) 0 rfl ?_
  obtain ⟨v3, M4, hv, h⟩ := oc_i h
  refine ev_call (t := 57) (as := [.inr (.inr (some 0)), .inl (v1), .inl (v2)]) (rest := []) rfl rfl rfl (by omega) (P_person_e (by omega) (v1) (v2) M _ hv) ?_
  refine ev_k (pc' := 319) (ls' := [(0, .inr (.inr (some 999))), (1, .inr (.inr (some 0))), (2, .inr (.inr (some 73))), (3, .inl (x3))]) (st' := [.inl ((x3) + (1)), .inr (.inr (some 999)), .inr (.inr (some 73)), .inl (v3)]) (nc' := 126) (np' := 138) (M' := M4) 5 rfl ?_
  obtain ⟨hc, h⟩ := ck_i h
  obtain ⟨v5, ev, h⟩ := tw_i h
  refine ev_sld rfl rfl hc ev ?_
  refine ev_k (pc' := 324) (ls' := [(0, .inr (.inr (some 999))), (1, .inr (.inr (some 0))), (2, .inr (.inr (some 73))), (3, .inl (x3))]) (st' := [.inl ((x3) + (2)), .inr (.inr (some 999)), .inl (v5), .inr (.inr (some 73)), .inl (v3)]) (nc' := 126) (np' := 138) (M' := M4) 4 rfl ?_
  obtain ⟨hc, h⟩ := ck_i h
  obtain ⟨v6, ev, h⟩ := tw_i h
  refine ev_sld rfl rfl hc ev ?_
  refine ev_k (pc' := 325) (ls' := [(0, .inr (.inr (some 999))), (1, .inr (.inr (some 0))), (2, .inr (.inr (some 73))), (3, .inl (x3))]) (st' := [.inl (v6), .inl (v5), .inr (.inr (some 73)), .inl (v3)]) (nc' := 126) (np' := 138) (M' := M4) 0 rfl ?_
  obtain ⟨v7, M8, hv, h⟩ := oc_i h
  refine ev_call (t := 223) (as := [.inr (.inr (some 73)), .inl (v5), .inl (v6)]) (rest := [.inl (v3)]) rfl rfl rfl (by omega) (R_person_e (by omega) (v5) (v6) M4 _ hv) ?_
  refine ev_k (pc' := 328) (ls' := [(0, .inr (.inr (some 999))), (1, .inr (.inr (some 0))), (2, .inr (.inr (some 73))), (3, .inl (x3))]) (st' := [.inl (v7), .inl (v3)]) (nc' := 126) (np' := 138) (M' := M8) 0 rfl ?_
  obtain ⟨hR, ⟨hc, h⟩ | ⟨hc, h⟩⟩ := c_eq_i h
  · refine ev_icmp 1039 rfl hR.1 hR.2 (by decide) (fun _ => ?_) (fun q => absurd hc q)
    exact BlazedPathLaw_law_999_n0_1039_t hd   k18 hk18 (x3) M8 r h
  · refine ev_icmp 1039 rfl hR.1 hR.2 (by decide) (fun q => absurd q hc) (fun _ => ?_)
    refine ev_k (pc' := 332) (ls' := [(0, .inr (.inr (some 999))), (1, .inr (.inr (some 0))), (2, .inr (.inr (some 73))), (3, .inl (x3))]) (st' := [.inl (0)]) (nc' := 126) (np' := 138) (M' := M8) 1 rfl ?_
    cases h
    exact ev_ret rfl
set_option maxHeartbeats 20000000 in
set_option maxRecDepth 100000 in
theorem BlazedPathLaw_law_999_n0_812_t {L : Nat} {xs : Nat → Int} {d : Nat} (hd : 88 ≤ d)   (k18 : Int → am_M → Option (Int × am_M)) (hk18 : ∀ (x3 : Int) (M : am_M) (r : Int × am_M), k18 x3 M = some r → am_Ev L xs d me_313 18 [(0, .inr (.inr (some 999))), (1, .inr (.inr (some 0))), (2, .inr (.inr (some 73))), (3, .inl (x3))] [] 126 138 M (some (.inl r.1), 126, 138, r.2)) (x3 : Int) (M : am_M) (r : Int × am_M) (h : BlazedPathLaw_law_999_n0_812 L xs  k18 x3 M = some r) : am_Ev L xs d me_313 812 [(0, .inr (.inr (some 999))), (1, .inr (.inr (some 0))), (2, .inr (.inr (some 73))), (3, .inl (x3))] [] 126 138 M (some (.inl r.1), 126, 138, r.2) := by
  refine ev_k (pc' := 817) (ls' := [(0, .inr (.inr (some 999))), (1, .inr (.inr (some 0))), (2, .inr (.inr (some 73))), (3, .inl (x3))]) (st' := [.inl ((x3) + (1)), .inr (.inr (some 999)), .inr (.inr (some 0))]) (nc' := 126) (np' := 138) (M' := M) 5 rfl ?_
  obtain ⟨hc, h⟩ := ck_i h
  obtain ⟨v1, ev, h⟩ := tw_i h
  refine ev_sld rfl rfl hc ev ?_
  refine ev_k (pc' := 822) (ls' := [(0, .inr (.inr (some 999))), (1, .inr (.inr (some 0))), (2, .inr (.inr (some 73))), (3, .inl (x3))]) (st' := [.inl ((x3) + (2)), .inr (.inr (some 999)), .inl (v1), .inr (.inr (some 0))]) (nc' := 126) (np' := 138) (M' := M) 4 rfl ?_
  obtain ⟨hc, h⟩ := ck_i h
  obtain ⟨v2, ev, h⟩ := tw_i h
  refine ev_sld rfl rfl hc ev ?_
  refine ev_k (pc' := 823) (ls' := [(0, .inr (.inr (some 999))), (1, .inr (.inr (some 0))), (2, .inr (.inr (some 73))), (3, .inl (x3))]) (st' := [.inl (v2), .inl (v1), .inr (.inr (some 0))]) (nc' := 126) (np' := 138) (M' := M) 0 rfl ?_
  obtain ⟨v3, M4, hv, h⟩ := oc_i h
  refine ev_call (t := 164) (as := [.inr (.inr (some 0)), .inl (v1), .inl (v2)]) (rest := []) rfl rfl rfl (by omega) (P_seek_e (by omega) (v1) (v2) M _ hv) ?_
  refine ev_k (pc' := 831) (ls' := [(0, .inr (.inr (some 999))), (1, .inr (.inr (some 0))), (2, .inr (.inr (some 73))), (3, .inl (x3))]) (st' := [.inl ((x3) + (1)), .inr (.inr (some 999)), .inr (.inr (some 73)), .inl (v3)]) (nc' := 126) (np' := 138) (M' := M4) 5 rfl ?_
  obtain ⟨hc, h⟩ := ck_i h
  obtain ⟨v5, ev, h⟩ := tw_i h
  refine ev_sld rfl rfl hc ev ?_
  refine ev_k (pc' := 836) (ls' := [(0, .inr (.inr (some 999))), (1, .inr (.inr (some 0))), (2, .inr (.inr (some 73))), (3, .inl (x3))]) (st' := [.inl ((x3) + (2)), .inr (.inr (some 999)), .inl (v5), .inr (.inr (some 73)), .inl (v3)]) (nc' := 126) (np' := 138) (M' := M4) 4 rfl ?_
  obtain ⟨hc, h⟩ := ck_i h
  obtain ⟨v6, ev, h⟩ := tw_i h
  refine ev_sld rfl rfl hc ev ?_
  refine ev_k (pc' := 837) (ls' := [(0, .inr (.inr (some 999))), (1, .inr (.inr (some 0))), (2, .inr (.inr (some 73))), (3, .inl (x3))]) (st' := [.inl (v6), .inl (v5), .inr (.inr (some 73)), .inl (v3)]) (nc' := 126) (np' := 138) (M' := M4) 0 rfl ?_
  obtain ⟨v7, M8, hv, h⟩ := oc_i h
  refine ev_call (t := 294) (as := [.inr (.inr (some 73)), .inl (v5), .inl (v6)]) (rest := [.inl (v3)]) rfl rfl rfl (by omega) (R_seek_e (by omega) (v5) (v6) M4 _ hv) ?_
  refine ev_k (pc' := 840) (ls' := [(0, .inr (.inr (some 999))), (1, .inr (.inr (some 0))), (2, .inr (.inr (some 73))), (3, .inl (x3))]) (st' := [.inl (v7), .inl (v3)]) (nc' := 126) (np' := 138) (M' := M8) 0 rfl ?_
  obtain ⟨hR, ⟨hc, h⟩ | ⟨hc, h⟩⟩ := c_eq_i h
  · refine ev_icmp 1039 rfl hR.1 hR.2 (by decide) (fun _ => ?_) (fun q => absurd hc q)
    exact BlazedPathLaw_law_999_n0_1039_t hd   k18 hk18 (x3) M8 r h
  · refine ev_icmp 1039 rfl hR.1 hR.2 (by decide) (fun q => absurd q hc) (fun _ => ?_)
    refine ev_k (pc' := 844) (ls' := [(0, .inr (.inr (some 999))), (1, .inr (.inr (some 0))), (2, .inr (.inr (some 73))), (3, .inl (x3))]) (st' := [.inl (0)]) (nc' := 126) (np' := 138) (M' := M8) 1 rfl ?_
    cases h
    exact ev_ret rfl
set_option maxHeartbeats 20000000 in
set_option maxRecDepth 100000 in
theorem BlazedPathLaw_law_999_n0_944_t {L : Nat} {xs : Nat → Int} {d : Nat} (hd : 88 ≤ d)   (k18 : Int → am_M → Option (Int × am_M)) (hk18 : ∀ (x3 : Int) (M : am_M) (r : Int × am_M), k18 x3 M = some r → am_Ev L xs d me_313 18 [(0, .inr (.inr (some 999))), (1, .inr (.inr (some 0))), (2, .inr (.inr (some 73))), (3, .inl (x3))] [] 126 138 M (some (.inl r.1), 126, 138, r.2)) (x3 : Int) (M : am_M) (r : Int × am_M) (h : BlazedPathLaw_law_999_n0_944 L xs  k18 x3 M = some r) : am_Ev L xs d me_313 944 [(0, .inr (.inr (some 999))), (1, .inr (.inr (some 0))), (2, .inr (.inr (some 73))), (3, .inl (x3))] [] 126 138 M (some (.inl r.1), 126, 138, r.2) := by
  refine ev_k (pc' := 949) (ls' := [(0, .inr (.inr (some 999))), (1, .inr (.inr (some 0))), (2, .inr (.inr (some 73))), (3, .inl (x3))]) (st' := [.inl ((x3) + (1)), .inr (.inr (some 999)), .inr (.inr (some 0))]) (nc' := 126) (np' := 138) (M' := M) 5 rfl ?_
  obtain ⟨hc, h⟩ := ck_i h
  obtain ⟨v1, ev, h⟩ := tw_i h
  refine ev_sld rfl rfl hc ev ?_
  refine ev_k (pc' := 950) (ls' := [(0, .inr (.inr (some 999))), (1, .inr (.inr (some 0))), (2, .inr (.inr (some 73))), (3, .inl (x3))]) (st' := [.inl (v1), .inr (.inr (some 0))]) (nc' := 126) (np' := 138) (M' := M) 0 rfl ?_
  obtain ⟨v2, M3, hv, h⟩ := oc_i h
  refine ev_call (t := 182) (as := [.inr (.inr (some 0)), .inl (v1)]) (rest := []) rfl rfl rfl (by omega) (P_seed_e (by omega) (v1) M _ hv) ?_
  refine ev_k (pc' := 958) (ls' := [(0, .inr (.inr (some 999))), (1, .inr (.inr (some 0))), (2, .inr (.inr (some 73))), (3, .inl (x3))]) (st' := [.inl ((x3) + (1)), .inr (.inr (some 999)), .inr (.inr (some 73)), .inl (v2)]) (nc' := 126) (np' := 138) (M' := M3) 5 rfl ?_
  obtain ⟨hc, h⟩ := ck_i h
  obtain ⟨v4, ev, h⟩ := tw_i h
  refine ev_sld rfl rfl hc ev ?_
  refine ev_k (pc' := 959) (ls' := [(0, .inr (.inr (some 999))), (1, .inr (.inr (some 0))), (2, .inr (.inr (some 73))), (3, .inl (x3))]) (st' := [.inl (v4), .inr (.inr (some 73)), .inl (v2)]) (nc' := 126) (np' := 138) (M' := M3) 0 rfl ?_
  obtain ⟨v5, M6, hv, h⟩ := oc_i h
  refine ev_call (t := 308) (as := [.inr (.inr (some 73)), .inl (v4)]) (rest := [.inl (v2)]) rfl rfl rfl (by omega) (R_seed_e (by omega) (v4) M3 _ hv) ?_
  refine ev_k (pc' := 962) (ls' := [(0, .inr (.inr (some 999))), (1, .inr (.inr (some 0))), (2, .inr (.inr (some 73))), (3, .inl (x3))]) (st' := [.inl (v5), .inl (v2)]) (nc' := 126) (np' := 138) (M' := M6) 0 rfl ?_
  obtain ⟨hR, ⟨hc, h⟩ | ⟨hc, h⟩⟩ := c_eq_i h
  · refine ev_icmp 1039 rfl hR.1 hR.2 (by decide) (fun _ => ?_) (fun q => absurd hc q)
    exact BlazedPathLaw_law_999_n0_1039_t hd   k18 hk18 (x3) M6 r h
  · refine ev_icmp 1039 rfl hR.1 hR.2 (by decide) (fun q => absurd q hc) (fun _ => ?_)
    refine ev_k (pc' := 966) (ls' := [(0, .inr (.inr (some 999))), (1, .inr (.inr (some 0))), (2, .inr (.inr (some 73))), (3, .inl (x3))]) (st' := [.inl (0)]) (nc' := 126) (np' := 138) (M' := M6) 1 rfl ?_
    cases h
    exact ev_ret rfl
set_option maxHeartbeats 20000000 in
set_option maxRecDepth 100000 in
theorem BlazedPathLaw_law_999_n0_574_t {L : Nat} {xs : Nat → Int} {d : Nat} (hd : 88 ≤ d)   (k18 : Int → am_M → Option (Int × am_M)) (hk18 : ∀ (x3 : Int) (M : am_M) (r : Int × am_M), k18 x3 M = some r → am_Ev L xs d me_313 18 [(0, .inr (.inr (some 999))), (1, .inr (.inr (some 0))), (2, .inr (.inr (some 73))), (3, .inl (x3))] [] 126 138 M (some (.inl r.1), 126, 138, r.2)) (x3 : Int) (M : am_M) (r : Int × am_M) (h : BlazedPathLaw_law_999_n0_574 L xs  k18 x3 M = some r) : am_Ev L xs d me_313 574 [(0, .inr (.inr (some 999))), (1, .inr (.inr (some 0))), (2, .inr (.inr (some 73))), (3, .inl (x3))] [] 126 138 M (some (.inl r.1), 126, 138, r.2) := by
  refine ev_k (pc' := 579) (ls' := [(0, .inr (.inr (some 999))), (1, .inr (.inr (some 0))), (2, .inr (.inr (some 73))), (3, .inl (x3))]) (st' := [.inl ((x3) + (1)), .inr (.inr (some 999)), .inr (.inr (some 0))]) (nc' := 126) (np' := 138) (M' := M) 5 rfl ?_
  obtain ⟨hc, h⟩ := ck_i h
  obtain ⟨v1, ev, h⟩ := tw_i h
  refine ev_sld rfl rfl hc ev ?_
  refine ev_k (pc' := 584) (ls' := [(0, .inr (.inr (some 999))), (1, .inr (.inr (some 0))), (2, .inr (.inr (some 73))), (3, .inl (x3))]) (st' := [.inl ((x3) + (2)), .inr (.inr (some 999)), .inl (v1), .inr (.inr (some 0))]) (nc' := 126) (np' := 138) (M' := M) 4 rfl ?_
  obtain ⟨hc, h⟩ := ck_i h
  obtain ⟨v2, ev, h⟩ := tw_i h
  refine ev_sld rfl rfl hc ev ?_
  refine ev_k (pc' := 585) (ls' := [(0, .inr (.inr (some 999))), (1, .inr (.inr (some 0))), (2, .inr (.inr (some 73))), (3, .inl (x3))]) (st' := [.inl (v2), .inl (v1), .inr (.inr (some 0))]) (nc' := 126) (np' := 138) (M' := M) 0 rfl ?_
  obtain ⟨v3, M4, hv, h⟩ := oc_i h
  refine ev_call (t := 131) (as := [.inr (.inr (some 0)), .inl (v1), .inl (v2)]) (rest := []) rfl rfl rfl (by omega) (P_turn_e (by omega) (v1) (v2) M _ hv) ?_
  refine ev_k (pc' := 593) (ls' := [(0, .inr (.inr (some 999))), (1, .inr (.inr (some 0))), (2, .inr (.inr (some 73))), (3, .inl (x3))]) (st' := [.inl ((x3) + (1)), .inr (.inr (some 999)), .inr (.inr (some 73)), .inl (v3)]) (nc' := 126) (np' := 138) (M' := M4) 5 rfl ?_
  obtain ⟨hc, h⟩ := ck_i h
  obtain ⟨v5, ev, h⟩ := tw_i h
  refine ev_sld rfl rfl hc ev ?_
  refine ev_k (pc' := 598) (ls' := [(0, .inr (.inr (some 999))), (1, .inr (.inr (some 0))), (2, .inr (.inr (some 73))), (3, .inl (x3))]) (st' := [.inl ((x3) + (2)), .inr (.inr (some 999)), .inl (v5), .inr (.inr (some 73)), .inl (v3)]) (nc' := 126) (np' := 138) (M' := M4) 4 rfl ?_
  obtain ⟨hc, h⟩ := ck_i h
  obtain ⟨v6, ev, h⟩ := tw_i h
  refine ev_sld rfl rfl hc ev ?_
  refine ev_k (pc' := 599) (ls' := [(0, .inr (.inr (some 999))), (1, .inr (.inr (some 0))), (2, .inr (.inr (some 73))), (3, .inl (x3))]) (st' := [.inl (v6), .inl (v5), .inr (.inr (some 73)), .inl (v3)]) (nc' := 126) (np' := 138) (M' := M4) 0 rfl ?_
  obtain ⟨v7, M8, hv, h⟩ := oc_i h
  refine ev_call (t := 276) (as := [.inr (.inr (some 73)), .inl (v5), .inl (v6)]) (rest := [.inl (v3)]) rfl rfl rfl (by omega) (R_turn_e (by omega) (v5) (v6) M4 _ hv) ?_
  refine ev_k (pc' := 602) (ls' := [(0, .inr (.inr (some 999))), (1, .inr (.inr (some 0))), (2, .inr (.inr (some 73))), (3, .inl (x3))]) (st' := [.inl (v7), .inl (v3)]) (nc' := 126) (np' := 138) (M' := M8) 0 rfl ?_
  obtain ⟨hR, ⟨hc, h⟩ | ⟨hc, h⟩⟩ := c_eq_i h
  · refine ev_icmp 1039 rfl hR.1 hR.2 (by decide) (fun _ => ?_) (fun q => absurd hc q)
    exact BlazedPathLaw_law_999_n0_1039_t hd   k18 hk18 (x3) M8 r h
  · refine ev_icmp 1039 rfl hR.1 hR.2 (by decide) (fun q => absurd q hc) (fun _ => ?_)
    refine ev_k (pc' := 606) (ls' := [(0, .inr (.inr (some 999))), (1, .inr (.inr (some 0))), (2, .inr (.inr (some 73))), (3, .inl (x3))]) (st' := [.inl (0)]) (nc' := 126) (np' := 138) (M' := M8) 1 rfl ?_
    cases h
    exact ev_ret rfl
set_option maxHeartbeats 20000000 in
set_option maxRecDepth 100000 in
theorem BlazedPathLaw_law_999_n0_967_t {L : Nat} {xs : Nat → Int} {d : Nat} (hd : 88 ≤ d)   (k18 : Int → am_M → Option (Int × am_M)) (hk18 : ∀ (x3 : Int) (M : am_M) (r : Int × am_M), k18 x3 M = some r → am_Ev L xs d me_313 18 [(0, .inr (.inr (some 999))), (1, .inr (.inr (some 0))), (2, .inr (.inr (some 73))), (3, .inl (x3))] [] 126 138 M (some (.inl r.1), 126, 138, r.2)) (x3 : Int) (M : am_M) (r : Int × am_M) (h : BlazedPathLaw_law_999_n0_967 L xs  k18 x3 M = some r) : am_Ev L xs d me_313 967 [(0, .inr (.inr (some 999))), (1, .inr (.inr (some 0))), (2, .inr (.inr (some 73))), (3, .inl (x3))] [] 126 138 M (some (.inl r.1), 126, 138, r.2) := by
  refine ev_k (pc' := 968) (ls' := [(0, .inr (.inr (some 999))), (1, .inr (.inr (some 0))), (2, .inr (.inr (some 73))), (3, .inl (x3))]) (st' := [.inr (.inr (some 0))]) (nc' := 126) (np' := 138) (M' := M) 1 rfl ?_
  obtain ⟨v1, M2, hv, h⟩ := oc_i h
  refine ev_call (t := 183) (as := [.inr (.inr (some 0))]) (rest := []) rfl rfl rfl (by omega) (P_keep_e (by omega)  M _ hv) ?_
  refine ev_k (pc' := 972) (ls' := [(0, .inr (.inr (some 999))), (1, .inr (.inr (some 0))), (2, .inr (.inr (some 73))), (3, .inl (x3))]) (st' := [.inr (.inr (some 73)), .inl (v1)]) (nc' := 126) (np' := 138) (M' := M2) 1 rfl ?_
  obtain ⟨v3, M4, hv, h⟩ := oc_i h
  refine ev_call (t := 309) (as := [.inr (.inr (some 73))]) (rest := [.inl (v1)]) rfl rfl rfl (by omega) (R_keep_e (by omega)  M2 _ hv) ?_
  refine ev_k (pc' := 975) (ls' := [(0, .inr (.inr (some 999))), (1, .inr (.inr (some 0))), (2, .inr (.inr (some 73))), (3, .inl (x3))]) (st' := [.inl (v3), .inl (v1)]) (nc' := 126) (np' := 138) (M' := M4) 0 rfl ?_
  obtain ⟨hR, ⟨hc, h⟩ | ⟨hc, h⟩⟩ := c_eq_i h
  · refine ev_icmp 1039 rfl hR.1 hR.2 (by decide) (fun _ => ?_) (fun q => absurd hc q)
    exact BlazedPathLaw_law_999_n0_1039_t hd   k18 hk18 (x3) M4 r h
  · refine ev_icmp 1039 rfl hR.1 hR.2 (by decide) (fun q => absurd q hc) (fun _ => ?_)
    refine ev_k (pc' := 979) (ls' := [(0, .inr (.inr (some 999))), (1, .inr (.inr (some 0))), (2, .inr (.inr (some 73))), (3, .inl (x3))]) (st' := [.inl (0)]) (nc' := 126) (np' := 138) (M' := M4) 1 rfl ?_
    cases h
    exact ev_ret rfl
set_option maxHeartbeats 20000000 in
set_option maxRecDepth 100000 in
theorem BlazedPathLaw_law_999_n0_458_t {L : Nat} {xs : Nat → Int} {d : Nat} (hd : 88 ≤ d)   (k18 : Int → am_M → Option (Int × am_M)) (hk18 : ∀ (x3 : Int) (M : am_M) (r : Int × am_M), k18 x3 M = some r → am_Ev L xs d me_313 18 [(0, .inr (.inr (some 999))), (1, .inr (.inr (some 0))), (2, .inr (.inr (some 73))), (3, .inl (x3))] [] 126 138 M (some (.inl r.1), 126, 138, r.2)) (x3 : Int) (M : am_M) (r : Int × am_M) (h : BlazedPathLaw_law_999_n0_458 L xs  k18 x3 M = some r) : am_Ev L xs d me_313 458 [(0, .inr (.inr (some 999))), (1, .inr (.inr (some 0))), (2, .inr (.inr (some 73))), (3, .inl (x3))] [] 126 138 M (some (.inl r.1), 126, 138, r.2) := by
  refine ev_k (pc' := 463) (ls' := [(0, .inr (.inr (some 999))), (1, .inr (.inr (some 0))), (2, .inr (.inr (some 73))), (3, .inl (x3))]) (st' := [.inl ((x3) + (1)), .inr (.inr (some 999)), .inr (.inr (some 0))]) (nc' := 126) (np' := 138) (M' := M) 5 rfl ?_
  obtain ⟨hc, h⟩ := ck_i h
  obtain ⟨v1, ev, h⟩ := tw_i h
  refine ev_sld rfl rfl hc ev ?_
  refine ev_k (pc' := 464) (ls' := [(0, .inr (.inr (some 999))), (1, .inr (.inr (some 0))), (2, .inr (.inr (some 73))), (3, .inl (x3))]) (st' := [.inl (v1), .inr (.inr (some 0))]) (nc' := 126) (np' := 138) (M' := M) 0 rfl ?_
  obtain ⟨v2, M3, hv, h⟩ := oc_i h
  refine ev_call (t := 109) (as := [.inr (.inr (some 0)), .inl (v1)]) (rest := []) rfl rfl rfl (by omega) (P_days_e (by omega) (v1) M _ hv) ?_
  refine ev_k (pc' := 472) (ls' := [(0, .inr (.inr (some 999))), (1, .inr (.inr (some 0))), (2, .inr (.inr (some 73))), (3, .inl (x3))]) (st' := [.inl ((x3) + (1)), .inr (.inr (some 999)), .inr (.inr (some 73)), .inl (v2)]) (nc' := 126) (np' := 138) (M' := M3) 5 rfl ?_
  obtain ⟨hc, h⟩ := ck_i h
  obtain ⟨v4, ev, h⟩ := tw_i h
  refine ev_sld rfl rfl hc ev ?_
  refine ev_k (pc' := 473) (ls' := [(0, .inr (.inr (some 999))), (1, .inr (.inr (some 0))), (2, .inr (.inr (some 73))), (3, .inl (x3))]) (st' := [.inl (v4), .inr (.inr (some 73)), .inl (v2)]) (nc' := 126) (np' := 138) (M' := M3) 0 rfl ?_
  obtain ⟨v5, M6, hv, h⟩ := oc_i h
  refine ev_call (t := 267) (as := [.inr (.inr (some 73)), .inl (v4)]) (rest := [.inl (v2)]) rfl rfl rfl (by omega) (R_days_e (by omega) (v4) M3 _ hv) ?_
  refine ev_k (pc' := 476) (ls' := [(0, .inr (.inr (some 999))), (1, .inr (.inr (some 0))), (2, .inr (.inr (some 73))), (3, .inl (x3))]) (st' := [.inl (v5), .inl (v2)]) (nc' := 126) (np' := 138) (M' := M6) 0 rfl ?_
  obtain ⟨hR, ⟨hc, h⟩ | ⟨hc, h⟩⟩ := c_eq_i h
  · refine ev_icmp 1039 rfl hR.1 hR.2 (by decide) (fun _ => ?_) (fun q => absurd hc q)
    exact BlazedPathLaw_law_999_n0_1039_t hd   k18 hk18 (x3) M6 r h
  · refine ev_icmp 1039 rfl hR.1 hR.2 (by decide) (fun q => absurd q hc) (fun _ => ?_)
    refine ev_k (pc' := 480) (ls' := [(0, .inr (.inr (some 999))), (1, .inr (.inr (some 0))), (2, .inr (.inr (some 73))), (3, .inl (x3))]) (st' := [.inl (0)]) (nc' := 126) (np' := 138) (M' := M6) 1 rfl ?_
    cases h
    exact ev_ret rfl
set_option maxHeartbeats 20000000 in
set_option maxRecDepth 100000 in
theorem BlazedPathLaw_law_999_n0_716_t {L : Nat} {xs : Nat → Int} {d : Nat} (hd : 88 ≤ d)   (k18 : Int → am_M → Option (Int × am_M)) (hk18 : ∀ (x3 : Int) (M : am_M) (r : Int × am_M), k18 x3 M = some r → am_Ev L xs d me_313 18 [(0, .inr (.inr (some 999))), (1, .inr (.inr (some 0))), (2, .inr (.inr (some 73))), (3, .inl (x3))] [] 126 138 M (some (.inl r.1), 126, 138, r.2)) (x3 : Int) (M : am_M) (r : Int × am_M) (h : BlazedPathLaw_law_999_n0_716 L xs  k18 x3 M = some r) : am_Ev L xs d me_313 716 [(0, .inr (.inr (some 999))), (1, .inr (.inr (some 0))), (2, .inr (.inr (some 73))), (3, .inl (x3))] [] 126 138 M (some (.inl r.1), 126, 138, r.2) := by
  refine ev_k (pc' := 721) (ls' := [(0, .inr (.inr (some 999))), (1, .inr (.inr (some 0))), (2, .inr (.inr (some 73))), (3, .inl (x3))]) (st' := [.inl ((x3) + (1)), .inr (.inr (some 999)), .inr (.inr (some 0))]) (nc' := 126) (np' := 138) (M' := M) 5 rfl ?_
  obtain ⟨hc, h⟩ := ck_i h
  obtain ⟨v1, ev, h⟩ := tw_i h
  refine ev_sld rfl rfl hc ev ?_
  refine ev_k (pc' := 726) (ls' := [(0, .inr (.inr (some 999))), (1, .inr (.inr (some 0))), (2, .inr (.inr (some 73))), (3, .inl (x3))]) (st' := [.inl ((x3) + (2)), .inr (.inr (some 999)), .inl (v1), .inr (.inr (some 0))]) (nc' := 126) (np' := 138) (M' := M) 4 rfl ?_
  obtain ⟨hc, h⟩ := ck_i h
  obtain ⟨v2, ev, h⟩ := tw_i h
  refine ev_sld rfl rfl hc ev ?_
  refine ev_k (pc' := 731) (ls' := [(0, .inr (.inr (some 999))), (1, .inr (.inr (some 0))), (2, .inr (.inr (some 73))), (3, .inl (x3))]) (st' := [.inl ((x3) + (3)), .inr (.inr (some 999)), .inl (v2), .inl (v1), .inr (.inr (some 0))]) (nc' := 126) (np' := 138) (M' := M) 4 rfl ?_
  obtain ⟨hc, h⟩ := ck_i h
  obtain ⟨v3, ev, h⟩ := tw_i h
  refine ev_sld rfl rfl hc ev ?_
  refine ev_k (pc' := 736) (ls' := [(0, .inr (.inr (some 999))), (1, .inr (.inr (some 0))), (2, .inr (.inr (some 73))), (3, .inl (x3))]) (st' := [.inl ((x3) + (4)), .inr (.inr (some 999)), .inl (v3), .inl (v2), .inl (v1), .inr (.inr (some 0))]) (nc' := 126) (np' := 138) (M' := M) 4 rfl ?_
  obtain ⟨hc, h⟩ := ck_i h
  obtain ⟨v4, ev, h⟩ := tw_i h
  refine ev_sld rfl rfl hc ev ?_
  refine ev_k (pc' := 737) (ls' := [(0, .inr (.inr (some 999))), (1, .inr (.inr (some 0))), (2, .inr (.inr (some 73))), (3, .inl (x3))]) (st' := [.inl (v4), .inl (v3), .inl (v2), .inl (v1), .inr (.inr (some 0))]) (nc' := 126) (np' := 138) (M' := M) 0 rfl ?_
  obtain ⟨v5, M6, hv, h⟩ := oc_i h
  refine ev_call (t := 157) (as := [.inr (.inr (some 0)), .inl (v1), .inl (v2), .inl (v3), .inl (v4)]) (rest := []) rfl rfl rfl (by omega) (P_planned_e (by omega) (v1) (v2) (v3) (v4) M _ hv) ?_
  refine ev_k (pc' := 745) (ls' := [(0, .inr (.inr (some 999))), (1, .inr (.inr (some 0))), (2, .inr (.inr (some 73))), (3, .inl (x3))]) (st' := [.inl ((x3) + (1)), .inr (.inr (some 999)), .inr (.inr (some 73)), .inl (v5)]) (nc' := 126) (np' := 138) (M' := M6) 5 rfl ?_
  obtain ⟨hc, h⟩ := ck_i h
  obtain ⟨v7, ev, h⟩ := tw_i h
  refine ev_sld rfl rfl hc ev ?_
  refine ev_k (pc' := 750) (ls' := [(0, .inr (.inr (some 999))), (1, .inr (.inr (some 0))), (2, .inr (.inr (some 73))), (3, .inl (x3))]) (st' := [.inl ((x3) + (2)), .inr (.inr (some 999)), .inl (v7), .inr (.inr (some 73)), .inl (v5)]) (nc' := 126) (np' := 138) (M' := M6) 4 rfl ?_
  obtain ⟨hc, h⟩ := ck_i h
  obtain ⟨v8, ev, h⟩ := tw_i h
  refine ev_sld rfl rfl hc ev ?_
  refine ev_k (pc' := 755) (ls' := [(0, .inr (.inr (some 999))), (1, .inr (.inr (some 0))), (2, .inr (.inr (some 73))), (3, .inl (x3))]) (st' := [.inl ((x3) + (3)), .inr (.inr (some 999)), .inl (v8), .inl (v7), .inr (.inr (some 73)), .inl (v5)]) (nc' := 126) (np' := 138) (M' := M6) 4 rfl ?_
  obtain ⟨hc, h⟩ := ck_i h
  obtain ⟨v9, ev, h⟩ := tw_i h
  refine ev_sld rfl rfl hc ev ?_
  refine ev_k (pc' := 760) (ls' := [(0, .inr (.inr (some 999))), (1, .inr (.inr (some 0))), (2, .inr (.inr (some 73))), (3, .inl (x3))]) (st' := [.inl ((x3) + (4)), .inr (.inr (some 999)), .inl (v9), .inl (v8), .inl (v7), .inr (.inr (some 73)), .inl (v5)]) (nc' := 126) (np' := 138) (M' := M6) 4 rfl ?_
  obtain ⟨hc, h⟩ := ck_i h
  obtain ⟨v10, ev, h⟩ := tw_i h
  refine ev_sld rfl rfl hc ev ?_
  refine ev_k (pc' := 761) (ls' := [(0, .inr (.inr (some 999))), (1, .inr (.inr (some 0))), (2, .inr (.inr (some 73))), (3, .inl (x3))]) (st' := [.inl (v10), .inl (v9), .inl (v8), .inl (v7), .inr (.inr (some 73)), .inl (v5)]) (nc' := 126) (np' := 138) (M' := M6) 0 rfl ?_
  obtain ⟨v11, M12, hv, h⟩ := oc_i h
  refine ev_call (t := 290) (as := [.inr (.inr (some 73)), .inl (v7), .inl (v8), .inl (v9), .inl (v10)]) (rest := [.inl (v5)]) rfl rfl rfl (by omega) (R_planned_e (by omega) (v7) (v8) (v9) (v10) M6 _ hv) ?_
  refine ev_k (pc' := 764) (ls' := [(0, .inr (.inr (some 999))), (1, .inr (.inr (some 0))), (2, .inr (.inr (some 73))), (3, .inl (x3))]) (st' := [.inl (v11), .inl (v5)]) (nc' := 126) (np' := 138) (M' := M12) 0 rfl ?_
  obtain ⟨hR, ⟨hc, h⟩ | ⟨hc, h⟩⟩ := c_eq_i h
  · refine ev_icmp 1039 rfl hR.1 hR.2 (by decide) (fun _ => ?_) (fun q => absurd hc q)
    exact BlazedPathLaw_law_999_n0_1039_t hd   k18 hk18 (x3) M12 r h
  · refine ev_icmp 1039 rfl hR.1 hR.2 (by decide) (fun q => absurd q hc) (fun _ => ?_)
    refine ev_k (pc' := 768) (ls' := [(0, .inr (.inr (some 999))), (1, .inr (.inr (some 0))), (2, .inr (.inr (some 73))), (3, .inl (x3))]) (st' := [.inl (0)]) (nc' := 126) (np' := 138) (M' := M12) 1 rfl ?_
    cases h
    exact ev_ret rfl
set_option maxHeartbeats 20000000 in
set_option maxRecDepth 100000 in
theorem BlazedPathLaw_law_999_n0_333_t {L : Nat} {xs : Nat → Int} {d : Nat} (hd : 88 ≤ d)   (k18 : Int → am_M → Option (Int × am_M)) (hk18 : ∀ (x3 : Int) (M : am_M) (r : Int × am_M), k18 x3 M = some r → am_Ev L xs d me_313 18 [(0, .inr (.inr (some 999))), (1, .inr (.inr (some 0))), (2, .inr (.inr (some 73))), (3, .inl (x3))] [] 126 138 M (some (.inl r.1), 126, 138, r.2)) (x3 : Int) (M : am_M) (r : Int × am_M) (h : BlazedPathLaw_law_999_n0_333 L xs  k18 x3 M = some r) : am_Ev L xs d me_313 333 [(0, .inr (.inr (some 999))), (1, .inr (.inr (some 0))), (2, .inr (.inr (some 73))), (3, .inl (x3))] [] 126 138 M (some (.inl r.1), 126, 138, r.2) := by
  refine ev_k (pc' := 338) (ls' := [(0, .inr (.inr (some 999))), (1, .inr (.inr (some 0))), (2, .inr (.inr (some 73))), (3, .inl (x3))]) (st' := [.inl ((x3) + (1)), .inr (.inr (some 999)), .inr (.inr (some 0))]) (nc' := 126) (np' := 138) (M' := M) 5 rfl ?_
  obtain ⟨hc, h⟩ := ck_i h
  obtain ⟨v1, ev, h⟩ := tw_i h
  refine ev_sld rfl rfl hc ev ?_
  refine ev_k (pc' := 339) (ls' := [(0, .inr (.inr (some 999))), (1, .inr (.inr (some 0))), (2, .inr (.inr (some 73))), (3, .inl (x3))]) (st' := [.inl (v1), .inr (.inr (some 0))]) (nc' := 126) (np' := 138) (M' := M) 0 rfl ?_
  obtain ⟨v2, M3, hv, h⟩ := oc_i h
  refine ev_call (t := 64) (as := [.inr (.inr (some 0)), .inl (v1)]) (rest := []) rfl rfl rfl (by omega) (P_ahead_e (by omega) (v1) M _ hv) ?_
  refine ev_k (pc' := 347) (ls' := [(0, .inr (.inr (some 999))), (1, .inr (.inr (some 0))), (2, .inr (.inr (some 73))), (3, .inl (x3))]) (st' := [.inl ((x3) + (1)), .inr (.inr (some 999)), .inr (.inr (some 73)), .inl (v2)]) (nc' := 126) (np' := 138) (M' := M3) 5 rfl ?_
  obtain ⟨hc, h⟩ := ck_i h
  obtain ⟨v4, ev, h⟩ := tw_i h
  refine ev_sld rfl rfl hc ev ?_
  refine ev_k (pc' := 348) (ls' := [(0, .inr (.inr (some 999))), (1, .inr (.inr (some 0))), (2, .inr (.inr (some 73))), (3, .inl (x3))]) (st' := [.inl (v4), .inr (.inr (some 73)), .inl (v2)]) (nc' := 126) (np' := 138) (M' := M3) 0 rfl ?_
  obtain ⟨v5, M6, hv, h⟩ := oc_i h
  refine ev_call (t := 224) (as := [.inr (.inr (some 73)), .inl (v4)]) (rest := [.inl (v2)]) rfl rfl rfl (by omega) (R_ahead_e (by omega) (v4) M3 _ hv) ?_
  refine ev_k (pc' := 351) (ls' := [(0, .inr (.inr (some 999))), (1, .inr (.inr (some 0))), (2, .inr (.inr (some 73))), (3, .inl (x3))]) (st' := [.inl (v5), .inl (v2)]) (nc' := 126) (np' := 138) (M' := M6) 0 rfl ?_
  obtain ⟨hR, ⟨hc, h⟩ | ⟨hc, h⟩⟩ := c_eq_i h
  · refine ev_icmp 1039 rfl hR.1 hR.2 (by decide) (fun _ => ?_) (fun q => absurd hc q)
    exact BlazedPathLaw_law_999_n0_1039_t hd   k18 hk18 (x3) M6 r h
  · refine ev_icmp 1039 rfl hR.1 hR.2 (by decide) (fun q => absurd q hc) (fun _ => ?_)
    refine ev_k (pc' := 355) (ls' := [(0, .inr (.inr (some 999))), (1, .inr (.inr (some 0))), (2, .inr (.inr (some 73))), (3, .inl (x3))]) (st' := [.inl (0)]) (nc' := 126) (np' := 138) (M' := M6) 1 rfl ?_
    cases h
    exact ev_ret rfl
set_option maxHeartbeats 20000000 in
set_option maxRecDepth 100000 in
theorem BlazedPathLaw_law_999_n0_845_t {L : Nat} {xs : Nat → Int} {d : Nat} (hd : 88 ≤ d)   (k18 : Int → am_M → Option (Int × am_M)) (hk18 : ∀ (x3 : Int) (M : am_M) (r : Int × am_M), k18 x3 M = some r → am_Ev L xs d me_313 18 [(0, .inr (.inr (some 999))), (1, .inr (.inr (some 0))), (2, .inr (.inr (some 73))), (3, .inl (x3))] [] 126 138 M (some (.inl r.1), 126, 138, r.2)) (x3 : Int) (M : am_M) (r : Int × am_M) (h : BlazedPathLaw_law_999_n0_845 L xs  k18 x3 M = some r) : am_Ev L xs d me_313 845 [(0, .inr (.inr (some 999))), (1, .inr (.inr (some 0))), (2, .inr (.inr (some 73))), (3, .inl (x3))] [] 126 138 M (some (.inl r.1), 126, 138, r.2) := by
  refine ev_k (pc' := 850) (ls' := [(0, .inr (.inr (some 999))), (1, .inr (.inr (some 0))), (2, .inr (.inr (some 73))), (3, .inl (x3))]) (st' := [.inl ((x3) + (1)), .inr (.inr (some 999)), .inr (.inr (some 0))]) (nc' := 126) (np' := 138) (M' := M) 5 rfl ?_
  obtain ⟨hc, h⟩ := ck_i h
  obtain ⟨v1, ev, h⟩ := tw_i h
  refine ev_sld rfl rfl hc ev ?_
  refine ev_k (pc' := 855) (ls' := [(0, .inr (.inr (some 999))), (1, .inr (.inr (some 0))), (2, .inr (.inr (some 73))), (3, .inl (x3))]) (st' := [.inl ((x3) + (2)), .inr (.inr (some 999)), .inl (v1), .inr (.inr (some 0))]) (nc' := 126) (np' := 138) (M' := M) 4 rfl ?_
  obtain ⟨hc, h⟩ := ck_i h
  obtain ⟨v2, ev, h⟩ := tw_i h
  refine ev_sld rfl rfl hc ev ?_
  refine ev_k (pc' := 856) (ls' := [(0, .inr (.inr (some 999))), (1, .inr (.inr (some 0))), (2, .inr (.inr (some 73))), (3, .inl (x3))]) (st' := [.inl (v2), .inl (v1), .inr (.inr (some 0))]) (nc' := 126) (np' := 138) (M' := M) 0 rfl ?_
  obtain ⟨v3, M4, hv, h⟩ := oc_i h
  refine ev_call (t := 171) (as := [.inr (.inr (some 0)), .inl (v1), .inl (v2)]) (rest := []) rfl rfl rfl (by omega) (P_blazes_e (by omega) (v1) (v2) M _ hv) ?_
  refine ev_k (pc' := 864) (ls' := [(0, .inr (.inr (some 999))), (1, .inr (.inr (some 0))), (2, .inr (.inr (some 73))), (3, .inl (x3))]) (st' := [.inl ((x3) + (1)), .inr (.inr (some 999)), .inr (.inr (some 73)), .inl (v3)]) (nc' := 126) (np' := 138) (M' := M4) 5 rfl ?_
  obtain ⟨hc, h⟩ := ck_i h
  obtain ⟨v5, ev, h⟩ := tw_i h
  refine ev_sld rfl rfl hc ev ?_
  refine ev_k (pc' := 869) (ls' := [(0, .inr (.inr (some 999))), (1, .inr (.inr (some 0))), (2, .inr (.inr (some 73))), (3, .inl (x3))]) (st' := [.inl ((x3) + (2)), .inr (.inr (some 999)), .inl (v5), .inr (.inr (some 73)), .inl (v3)]) (nc' := 126) (np' := 138) (M' := M4) 4 rfl ?_
  obtain ⟨hc, h⟩ := ck_i h
  obtain ⟨v6, ev, h⟩ := tw_i h
  refine ev_sld rfl rfl hc ev ?_
  refine ev_k (pc' := 870) (ls' := [(0, .inr (.inr (some 999))), (1, .inr (.inr (some 0))), (2, .inr (.inr (some 73))), (3, .inl (x3))]) (st' := [.inl (v6), .inl (v5), .inr (.inr (some 73)), .inl (v3)]) (nc' := 126) (np' := 138) (M' := M4) 0 rfl ?_
  obtain ⟨v7, M8, hv, h⟩ := oc_i h
  refine ev_call (t := 299) (as := [.inr (.inr (some 73)), .inl (v5), .inl (v6)]) (rest := [.inl (v3)]) rfl rfl rfl (by omega) (R_blazes_e (by omega) (v5) (v6) M4 _ hv) ?_
  refine ev_k (pc' := 873) (ls' := [(0, .inr (.inr (some 999))), (1, .inr (.inr (some 0))), (2, .inr (.inr (some 73))), (3, .inl (x3))]) (st' := [.inl (v7), .inl (v3)]) (nc' := 126) (np' := 138) (M' := M8) 0 rfl ?_
  obtain ⟨hR, ⟨hc, h⟩ | ⟨hc, h⟩⟩ := c_eq_i h
  · refine ev_icmp 1039 rfl hR.1 hR.2 (by decide) (fun _ => ?_) (fun q => absurd hc q)
    exact BlazedPathLaw_law_999_n0_1039_t hd   k18 hk18 (x3) M8 r h
  · refine ev_icmp 1039 rfl hR.1 hR.2 (by decide) (fun q => absurd q hc) (fun _ => ?_)
    refine ev_k (pc' := 877) (ls' := [(0, .inr (.inr (some 999))), (1, .inr (.inr (some 0))), (2, .inr (.inr (some 73))), (3, .inl (x3))]) (st' := [.inl (0)]) (nc' := 126) (np' := 138) (M' := M8) 1 rfl ?_
    cases h
    exact ev_ret rfl
set_option maxHeartbeats 20000000 in
set_option maxRecDepth 100000 in
theorem BlazedPathLaw_law_999_n0_980_t {L : Nat} {xs : Nat → Int} {d : Nat} (hd : 88 ≤ d)   (k18 : Int → am_M → Option (Int × am_M)) (hk18 : ∀ (x3 : Int) (M : am_M) (r : Int × am_M), k18 x3 M = some r → am_Ev L xs d me_313 18 [(0, .inr (.inr (some 999))), (1, .inr (.inr (some 0))), (2, .inr (.inr (some 73))), (3, .inl (x3))] [] 126 138 M (some (.inl r.1), 126, 138, r.2)) (x3 : Int) (M : am_M) (r : Int × am_M) (h : BlazedPathLaw_law_999_n0_980 L xs  k18 x3 M = some r) : am_Ev L xs d me_313 980 [(0, .inr (.inr (some 999))), (1, .inr (.inr (some 0))), (2, .inr (.inr (some 73))), (3, .inl (x3))] [] 126 138 M (some (.inl r.1), 126, 138, r.2) := by
  refine ev_k (pc' := 981) (ls' := [(0, .inr (.inr (some 999))), (1, .inr (.inr (some 0))), (2, .inr (.inr (some 73))), (3, .inl (x3))]) (st' := [.inr (.inr (some 0))]) (nc' := 126) (np' := 138) (M' := M) 1 rfl ?_
  obtain ⟨v1, M2, hv, h⟩ := oc_i h
  refine ev_call (t := 184) (as := [.inr (.inr (some 0))]) (rest := []) rfl rfl rfl (by omega) (P_undo_e (by omega)  M _ hv) ?_
  refine ev_k (pc' := 985) (ls' := [(0, .inr (.inr (some 999))), (1, .inr (.inr (some 0))), (2, .inr (.inr (some 73))), (3, .inl (x3))]) (st' := [.inr (.inr (some 73)), .inl (v1)]) (nc' := 126) (np' := 138) (M' := M2) 1 rfl ?_
  obtain ⟨v3, M4, hv, h⟩ := oc_i h
  refine ev_call (t := 310) (as := [.inr (.inr (some 73))]) (rest := [.inl (v1)]) rfl rfl rfl (by omega) (R_undo_e (by omega)  M2 _ hv) ?_
  refine ev_k (pc' := 988) (ls' := [(0, .inr (.inr (some 999))), (1, .inr (.inr (some 0))), (2, .inr (.inr (some 73))), (3, .inl (x3))]) (st' := [.inl (v3), .inl (v1)]) (nc' := 126) (np' := 138) (M' := M4) 0 rfl ?_
  obtain ⟨hR, ⟨hc, h⟩ | ⟨hc, h⟩⟩ := c_eq_i h
  · refine ev_icmp 1039 rfl hR.1 hR.2 (by decide) (fun _ => ?_) (fun q => absurd hc q)
    exact BlazedPathLaw_law_999_n0_1039_t hd   k18 hk18 (x3) M4 r h
  · refine ev_icmp 1039 rfl hR.1 hR.2 (by decide) (fun q => absurd q hc) (fun _ => ?_)
    refine ev_k (pc' := 992) (ls' := [(0, .inr (.inr (some 999))), (1, .inr (.inr (some 0))), (2, .inr (.inr (some 73))), (3, .inl (x3))]) (st' := [.inl (0)]) (nc' := 126) (np' := 138) (M' := M4) 1 rfl ?_
    cases h
    exact ev_ret rfl
set_option maxHeartbeats 20000000 in
set_option maxRecDepth 100000 in
theorem BlazedPathLaw_law_999_n0_1016_t {L : Nat} {xs : Nat → Int} {d : Nat} (hd : 88 ≤ d)   (k18 : Int → am_M → Option (Int × am_M)) (hk18 : ∀ (x3 : Int) (M : am_M) (r : Int × am_M), k18 x3 M = some r → am_Ev L xs d me_313 18 [(0, .inr (.inr (some 999))), (1, .inr (.inr (some 0))), (2, .inr (.inr (some 73))), (3, .inl (x3))] [] 126 138 M (some (.inl r.1), 126, 138, r.2)) (x3 : Int) (M : am_M) (r : Int × am_M) (h : BlazedPathLaw_law_999_n0_1016 L xs  k18 x3 M = some r) : am_Ev L xs d me_313 1016 [(0, .inr (.inr (some 999))), (1, .inr (.inr (some 0))), (2, .inr (.inr (some 73))), (3, .inl (x3))] [] 126 138 M (some (.inl r.1), 126, 138, r.2) := by
  refine ev_k (pc' := 1021) (ls' := [(0, .inr (.inr (some 999))), (1, .inr (.inr (some 0))), (2, .inr (.inr (some 73))), (3, .inl (x3))]) (st' := [.inl ((x3) + (1)), .inr (.inr (some 999)), .inr (.inr (some 0))]) (nc' := 126) (np' := 138) (M' := M) 5 rfl ?_
  obtain ⟨hc, h⟩ := ck_i h
  obtain ⟨v1, ev, h⟩ := tw_i h
  refine ev_sld rfl rfl hc ev ?_
  refine ev_k (pc' := 1022) (ls' := [(0, .inr (.inr (some 999))), (1, .inr (.inr (some 0))), (2, .inr (.inr (some 73))), (3, .inl (x3))]) (st' := [.inl (v1), .inr (.inr (some 0))]) (nc' := 126) (np' := 138) (M' := M) 0 rfl ?_
  obtain ⟨v2, hv, h⟩ := ob_i h
  refine ev_call (t := 186) (as := [.inr (.inr (some 0)), .inl (v1)]) (rest := []) rfl rfl rfl (by omega) (P_count_e (by omega) (v1) M _ hv) ?_
  refine ev_k (pc' := 1030) (ls' := [(0, .inr (.inr (some 999))), (1, .inr (.inr (some 0))), (2, .inr (.inr (some 73))), (3, .inl (x3))]) (st' := [.inl ((x3) + (1)), .inr (.inr (some 999)), .inr (.inr (some 73)), .inl (v2)]) (nc' := 126) (np' := 138) (M' := M) 5 rfl ?_
  obtain ⟨hc, h⟩ := ck_i h
  obtain ⟨v3, ev, h⟩ := tw_i h
  refine ev_sld rfl rfl hc ev ?_
  refine ev_k (pc' := 1031) (ls' := [(0, .inr (.inr (some 999))), (1, .inr (.inr (some 0))), (2, .inr (.inr (some 73))), (3, .inl (x3))]) (st' := [.inl (v3), .inr (.inr (some 73)), .inl (v2)]) (nc' := 126) (np' := 138) (M' := M) 0 rfl ?_
  obtain ⟨v4, hv, h⟩ := ob_i h
  refine ev_call (t := 312) (as := [.inr (.inr (some 73)), .inl (v3)]) (rest := [.inl (v2)]) rfl rfl rfl (by omega) (R_count_e (by omega) (v3) M _ hv) ?_
  refine ev_k (pc' := 1034) (ls' := [(0, .inr (.inr (some 999))), (1, .inr (.inr (some 0))), (2, .inr (.inr (some 73))), (3, .inl (x3))]) (st' := [.inl (v4), .inl (v2)]) (nc' := 126) (np' := 138) (M' := M) 0 rfl ?_
  obtain ⟨hR, ⟨hc, h⟩ | ⟨hc, h⟩⟩ := c_eq_i h
  · refine ev_icmp 1039 rfl hR.1 hR.2 (by decide) (fun _ => ?_) (fun q => absurd hc q)
    exact BlazedPathLaw_law_999_n0_1039_t hd   k18 hk18 (x3) M r h
  · refine ev_icmp 1039 rfl hR.1 hR.2 (by decide) (fun q => absurd q hc) (fun _ => ?_)
    refine ev_k (pc' := 1038) (ls' := [(0, .inr (.inr (some 999))), (1, .inr (.inr (some 0))), (2, .inr (.inr (some 73))), (3, .inl (x3))]) (st' := [.inl (0)]) (nc' := 126) (np' := 138) (M' := M) 1 rfl ?_
    cases h
    exact ev_ret rfl
set_option maxHeartbeats 20000000 in
set_option maxRecDepth 100000 in
theorem BlazedPathLaw_law_999_n0_607_t {L : Nat} {xs : Nat → Int} {d : Nat} (hd : 88 ≤ d)   (k18 : Int → am_M → Option (Int × am_M)) (hk18 : ∀ (x3 : Int) (M : am_M) (r : Int × am_M), k18 x3 M = some r → am_Ev L xs d me_313 18 [(0, .inr (.inr (some 999))), (1, .inr (.inr (some 0))), (2, .inr (.inr (some 73))), (3, .inl (x3))] [] 126 138 M (some (.inl r.1), 126, 138, r.2)) (x3 : Int) (M : am_M) (r : Int × am_M) (h : BlazedPathLaw_law_999_n0_607 L xs  k18 x3 M = some r) : am_Ev L xs d me_313 607 [(0, .inr (.inr (some 999))), (1, .inr (.inr (some 0))), (2, .inr (.inr (some 73))), (3, .inl (x3))] [] 126 138 M (some (.inl r.1), 126, 138, r.2) := by
  refine ev_k (pc' := 612) (ls' := [(0, .inr (.inr (some 999))), (1, .inr (.inr (some 0))), (2, .inr (.inr (some 73))), (3, .inl (x3))]) (st' := [.inl ((x3) + (1)), .inr (.inr (some 999)), .inr (.inr (some 0))]) (nc' := 126) (np' := 138) (M' := M) 5 rfl ?_
  obtain ⟨hc, h⟩ := ck_i h
  obtain ⟨v1, ev, h⟩ := tw_i h
  refine ev_sld rfl rfl hc ev ?_
  refine ev_k (pc' := 617) (ls' := [(0, .inr (.inr (some 999))), (1, .inr (.inr (some 0))), (2, .inr (.inr (some 73))), (3, .inl (x3))]) (st' := [.inl ((x3) + (2)), .inr (.inr (some 999)), .inl (v1), .inr (.inr (some 0))]) (nc' := 126) (np' := 138) (M' := M) 4 rfl ?_
  obtain ⟨hc, h⟩ := ck_i h
  obtain ⟨v2, ev, h⟩ := tw_i h
  refine ev_sld rfl rfl hc ev ?_
  refine ev_k (pc' := 622) (ls' := [(0, .inr (.inr (some 999))), (1, .inr (.inr (some 0))), (2, .inr (.inr (some 73))), (3, .inl (x3))]) (st' := [.inl ((x3) + (3)), .inr (.inr (some 999)), .inl (v2), .inl (v1), .inr (.inr (some 0))]) (nc' := 126) (np' := 138) (M' := M) 4 rfl ?_
  obtain ⟨hc, h⟩ := ck_i h
  obtain ⟨v3, ev, h⟩ := tw_i h
  refine ev_sld rfl rfl hc ev ?_
  refine ev_k (pc' := 623) (ls' := [(0, .inr (.inr (some 999))), (1, .inr (.inr (some 0))), (2, .inr (.inr (some 73))), (3, .inl (x3))]) (st' := [.inl (v3), .inl (v2), .inl (v1), .inr (.inr (some 0))]) (nc' := 126) (np' := 138) (M' := M) 0 rfl ?_
  obtain ⟨v4, M5, hv, h⟩ := oc_i h
  refine ev_call (t := 134) (as := [.inr (.inr (some 0)), .inl (v1), .inl (v2), .inl (v3)]) (rest := []) rfl rfl rfl (by omega) (P_soonest_e (by omega) (v1) (v2) (v3) M _ hv) ?_
  refine ev_k (pc' := 631) (ls' := [(0, .inr (.inr (some 999))), (1, .inr (.inr (some 0))), (2, .inr (.inr (some 73))), (3, .inl (x3))]) (st' := [.inl ((x3) + (1)), .inr (.inr (some 999)), .inr (.inr (some 73)), .inl (v4)]) (nc' := 126) (np' := 138) (M' := M5) 5 rfl ?_
  obtain ⟨hc, h⟩ := ck_i h
  obtain ⟨v6, ev, h⟩ := tw_i h
  refine ev_sld rfl rfl hc ev ?_
  refine ev_k (pc' := 636) (ls' := [(0, .inr (.inr (some 999))), (1, .inr (.inr (some 0))), (2, .inr (.inr (some 73))), (3, .inl (x3))]) (st' := [.inl ((x3) + (2)), .inr (.inr (some 999)), .inl (v6), .inr (.inr (some 73)), .inl (v4)]) (nc' := 126) (np' := 138) (M' := M5) 4 rfl ?_
  obtain ⟨hc, h⟩ := ck_i h
  obtain ⟨v7, ev, h⟩ := tw_i h
  refine ev_sld rfl rfl hc ev ?_
  refine ev_k (pc' := 641) (ls' := [(0, .inr (.inr (some 999))), (1, .inr (.inr (some 0))), (2, .inr (.inr (some 73))), (3, .inl (x3))]) (st' := [.inl ((x3) + (3)), .inr (.inr (some 999)), .inl (v7), .inl (v6), .inr (.inr (some 73)), .inl (v4)]) (nc' := 126) (np' := 138) (M' := M5) 4 rfl ?_
  obtain ⟨hc, h⟩ := ck_i h
  obtain ⟨v8, ev, h⟩ := tw_i h
  refine ev_sld rfl rfl hc ev ?_
  refine ev_k (pc' := 642) (ls' := [(0, .inr (.inr (some 999))), (1, .inr (.inr (some 0))), (2, .inr (.inr (some 73))), (3, .inl (x3))]) (st' := [.inl (v8), .inl (v7), .inl (v6), .inr (.inr (some 73)), .inl (v4)]) (nc' := 126) (np' := 138) (M' := M5) 0 rfl ?_
  obtain ⟨v9, M10, hv, h⟩ := oc_i h
  refine ev_call (t := 277) (as := [.inr (.inr (some 73)), .inl (v6), .inl (v7), .inl (v8)]) (rest := [.inl (v4)]) rfl rfl rfl (by omega) (R_soonest_e (by omega) (v6) (v7) (v8) M5 _ hv) ?_
  refine ev_k (pc' := 645) (ls' := [(0, .inr (.inr (some 999))), (1, .inr (.inr (some 0))), (2, .inr (.inr (some 73))), (3, .inl (x3))]) (st' := [.inl (v9), .inl (v4)]) (nc' := 126) (np' := 138) (M' := M10) 0 rfl ?_
  obtain ⟨hR, ⟨hc, h⟩ | ⟨hc, h⟩⟩ := c_eq_i h
  · refine ev_icmp 1039 rfl hR.1 hR.2 (by decide) (fun _ => ?_) (fun q => absurd hc q)
    exact BlazedPathLaw_law_999_n0_1039_t hd   k18 hk18 (x3) M10 r h
  · refine ev_icmp 1039 rfl hR.1 hR.2 (by decide) (fun q => absurd q hc) (fun _ => ?_)
    refine ev_k (pc' := 649) (ls' := [(0, .inr (.inr (some 999))), (1, .inr (.inr (some 0))), (2, .inr (.inr (some 73))), (3, .inl (x3))]) (st' := [.inl (0)]) (nc' := 126) (np' := 138) (M' := M10) 1 rfl ?_
    cases h
    exact ev_ret rfl
set_option maxHeartbeats 20000000 in
set_option maxRecDepth 100000 in
theorem BlazedPathLaw_law_999_n0_481_t {L : Nat} {xs : Nat → Int} {d : Nat} (hd : 88 ≤ d)   (k18 : Int → am_M → Option (Int × am_M)) (hk18 : ∀ (x3 : Int) (M : am_M) (r : Int × am_M), k18 x3 M = some r → am_Ev L xs d me_313 18 [(0, .inr (.inr (some 999))), (1, .inr (.inr (some 0))), (2, .inr (.inr (some 73))), (3, .inl (x3))] [] 126 138 M (some (.inl r.1), 126, 138, r.2)) (x3 : Int) (M : am_M) (r : Int × am_M) (h : BlazedPathLaw_law_999_n0_481 L xs  k18 x3 M = some r) : am_Ev L xs d me_313 481 [(0, .inr (.inr (some 999))), (1, .inr (.inr (some 0))), (2, .inr (.inr (some 73))), (3, .inl (x3))] [] 126 138 M (some (.inl r.1), 126, 138, r.2) := by
  refine ev_k (pc' := 486) (ls' := [(0, .inr (.inr (some 999))), (1, .inr (.inr (some 0))), (2, .inr (.inr (some 73))), (3, .inl (x3))]) (st' := [.inl ((x3) + (1)), .inr (.inr (some 999)), .inr (.inr (some 0))]) (nc' := 126) (np' := 138) (M' := M) 5 rfl ?_
  obtain ⟨hc, h⟩ := ck_i h
  obtain ⟨v1, ev, h⟩ := tw_i h
  refine ev_sld rfl rfl hc ev ?_
  refine ev_k (pc' := 487) (ls' := [(0, .inr (.inr (some 999))), (1, .inr (.inr (some 0))), (2, .inr (.inr (some 73))), (3, .inl (x3))]) (st' := [.inl (v1), .inr (.inr (some 0))]) (nc' := 126) (np' := 138) (M' := M) 0 rfl ?_
  obtain ⟨v2, M3, hv, h⟩ := oc_i h
  refine ev_call (t := 115) (as := [.inr (.inr (some 0)), .inl (v1)]) (rest := []) rfl rfl rfl (by omega) (P_back_e (by omega) (v1) M _ hv) ?_
  refine ev_k (pc' := 495) (ls' := [(0, .inr (.inr (some 999))), (1, .inr (.inr (some 0))), (2, .inr (.inr (some 73))), (3, .inl (x3))]) (st' := [.inl ((x3) + (1)), .inr (.inr (some 999)), .inr (.inr (some 73)), .inl (v2)]) (nc' := 126) (np' := 138) (M' := M3) 5 rfl ?_
  obtain ⟨hc, h⟩ := ck_i h
  obtain ⟨v4, ev, h⟩ := tw_i h
  refine ev_sld rfl rfl hc ev ?_
  refine ev_k (pc' := 496) (ls' := [(0, .inr (.inr (some 999))), (1, .inr (.inr (some 0))), (2, .inr (.inr (some 73))), (3, .inl (x3))]) (st' := [.inl (v4), .inr (.inr (some 73)), .inl (v2)]) (nc' := 126) (np' := 138) (M' := M3) 0 rfl ?_
  obtain ⟨v5, M6, hv, h⟩ := oc_i h
  refine ev_call (t := 269) (as := [.inr (.inr (some 73)), .inl (v4)]) (rest := [.inl (v2)]) rfl rfl rfl (by omega) (R_back_e (by omega) (v4) M3 _ hv) ?_
  refine ev_k (pc' := 499) (ls' := [(0, .inr (.inr (some 999))), (1, .inr (.inr (some 0))), (2, .inr (.inr (some 73))), (3, .inl (x3))]) (st' := [.inl (v5), .inl (v2)]) (nc' := 126) (np' := 138) (M' := M6) 0 rfl ?_
  obtain ⟨hR, ⟨hc, h⟩ | ⟨hc, h⟩⟩ := c_eq_i h
  · refine ev_icmp 1039 rfl hR.1 hR.2 (by decide) (fun _ => ?_) (fun q => absurd hc q)
    exact BlazedPathLaw_law_999_n0_1039_t hd   k18 hk18 (x3) M6 r h
  · refine ev_icmp 1039 rfl hR.1 hR.2 (by decide) (fun q => absurd q hc) (fun _ => ?_)
    refine ev_k (pc' := 503) (ls' := [(0, .inr (.inr (some 999))), (1, .inr (.inr (some 0))), (2, .inr (.inr (some 73))), (3, .inl (x3))]) (st' := [.inl (0)]) (nc' := 126) (np' := 138) (M' := M6) 1 rfl ?_
    cases h
    exact ev_ret rfl
set_option maxHeartbeats 20000000 in
set_option maxRecDepth 100000 in
theorem BlazedPathLaw_law_999_n0_993_t {L : Nat} {xs : Nat → Int} {d : Nat} (hd : 88 ≤ d)   (k18 : Int → am_M → Option (Int × am_M)) (hk18 : ∀ (x3 : Int) (M : am_M) (r : Int × am_M), k18 x3 M = some r → am_Ev L xs d me_313 18 [(0, .inr (.inr (some 999))), (1, .inr (.inr (some 0))), (2, .inr (.inr (some 73))), (3, .inl (x3))] [] 126 138 M (some (.inl r.1), 126, 138, r.2)) (x3 : Int) (M : am_M) (r : Int × am_M) (h : BlazedPathLaw_law_999_n0_993 L xs  k18 x3 M = some r) : am_Ev L xs d me_313 993 [(0, .inr (.inr (some 999))), (1, .inr (.inr (some 0))), (2, .inr (.inr (some 73))), (3, .inl (x3))] [] 126 138 M (some (.inl r.1), 126, 138, r.2) := by
  refine ev_k (pc' := 998) (ls' := [(0, .inr (.inr (some 999))), (1, .inr (.inr (some 0))), (2, .inr (.inr (some 73))), (3, .inl (x3))]) (st' := [.inl ((x3) + (1)), .inr (.inr (some 999)), .inr (.inr (some 0))]) (nc' := 126) (np' := 138) (M' := M) 5 rfl ?_
  obtain ⟨hc, h⟩ := ck_i h
  obtain ⟨v1, ev, h⟩ := tw_i h
  refine ev_sld rfl rfl hc ev ?_
  refine ev_k (pc' := 999) (ls' := [(0, .inr (.inr (some 999))), (1, .inr (.inr (some 0))), (2, .inr (.inr (some 73))), (3, .inl (x3))]) (st' := [.inl (v1), .inr (.inr (some 0))]) (nc' := 126) (np' := 138) (M' := M) 0 rfl ?_
  obtain ⟨v2, M3, hv, h⟩ := oc_i h
  refine ev_call (t := 185) (as := [.inr (.inr (some 0)), .inl (v1)]) (rest := []) rfl rfl rfl (by omega) (P_check_e (by omega) (v1) M _ hv) ?_
  refine ev_k (pc' := 1007) (ls' := [(0, .inr (.inr (some 999))), (1, .inr (.inr (some 0))), (2, .inr (.inr (some 73))), (3, .inl (x3))]) (st' := [.inl ((x3) + (1)), .inr (.inr (some 999)), .inr (.inr (some 73)), .inl (v2)]) (nc' := 126) (np' := 138) (M' := M3) 5 rfl ?_
  obtain ⟨hc, h⟩ := ck_i h
  obtain ⟨v4, ev, h⟩ := tw_i h
  refine ev_sld rfl rfl hc ev ?_
  refine ev_k (pc' := 1008) (ls' := [(0, .inr (.inr (some 999))), (1, .inr (.inr (some 0))), (2, .inr (.inr (some 73))), (3, .inl (x3))]) (st' := [.inl (v4), .inr (.inr (some 73)), .inl (v2)]) (nc' := 126) (np' := 138) (M' := M3) 0 rfl ?_
  obtain ⟨v5, M6, hv, h⟩ := oc_i h
  refine ev_call (t := 311) (as := [.inr (.inr (some 73)), .inl (v4)]) (rest := [.inl (v2)]) rfl rfl rfl (by omega) (R_check_e (by omega) (v4) M3 _ hv) ?_
  refine ev_k (pc' := 1011) (ls' := [(0, .inr (.inr (some 999))), (1, .inr (.inr (some 0))), (2, .inr (.inr (some 73))), (3, .inl (x3))]) (st' := [.inl (v5), .inl (v2)]) (nc' := 126) (np' := 138) (M' := M6) 0 rfl ?_
  obtain ⟨hR, ⟨hc, h⟩ | ⟨hc, h⟩⟩ := c_eq_i h
  · refine ev_icmp 1039 rfl hR.1 hR.2 (by decide) (fun _ => ?_) (fun q => absurd hc q)
    exact BlazedPathLaw_law_999_n0_1039_t hd   k18 hk18 (x3) M6 r h
  · refine ev_icmp 1039 rfl hR.1 hR.2 (by decide) (fun q => absurd q hc) (fun _ => ?_)
    refine ev_k (pc' := 1015) (ls' := [(0, .inr (.inr (some 999))), (1, .inr (.inr (some 0))), (2, .inr (.inr (some 73))), (3, .inl (x3))]) (st' := [.inl (0)]) (nc' := 126) (np' := 138) (M' := M6) 1 rfl ?_
    cases h
    exact ev_ret rfl
set_option maxHeartbeats 20000000 in
set_option maxRecDepth 100000 in
theorem BlazedPathLaw_law_999_n0_356_t {L : Nat} {xs : Nat → Int} {d : Nat} (hd : 88 ≤ d)   (k18 : Int → am_M → Option (Int × am_M)) (hk18 : ∀ (x3 : Int) (M : am_M) (r : Int × am_M), k18 x3 M = some r → am_Ev L xs d me_313 18 [(0, .inr (.inr (some 999))), (1, .inr (.inr (some 0))), (2, .inr (.inr (some 73))), (3, .inl (x3))] [] 126 138 M (some (.inl r.1), 126, 138, r.2)) (x3 : Int) (M : am_M) (r : Int × am_M) (h : BlazedPathLaw_law_999_n0_356 L xs  k18 x3 M = some r) : am_Ev L xs d me_313 356 [(0, .inr (.inr (some 999))), (1, .inr (.inr (some 0))), (2, .inr (.inr (some 73))), (3, .inl (x3))] [] 126 138 M (some (.inl r.1), 126, 138, r.2) := by
  refine ev_k (pc' := 361) (ls' := [(0, .inr (.inr (some 999))), (1, .inr (.inr (some 0))), (2, .inr (.inr (some 73))), (3, .inl (x3))]) (st' := [.inl ((x3) + (1)), .inr (.inr (some 999)), .inr (.inr (some 0))]) (nc' := 126) (np' := 138) (M' := M) 5 rfl ?_
  obtain ⟨hc, h⟩ := ck_i h
  obtain ⟨v1, ev, h⟩ := tw_i h
  refine ev_sld rfl rfl hc ev ?_
  refine ev_k (pc' := 362) (ls' := [(0, .inr (.inr (some 999))), (1, .inr (.inr (some 0))), (2, .inr (.inr (some 73))), (3, .inl (x3))]) (st' := [.inl (v1), .inr (.inr (some 0))]) (nc' := 126) (np' := 138) (M' := M) 0 rfl ?_
  obtain ⟨v2, M3, hv, h⟩ := oc_i h
  refine ev_call (t := 65) (as := [.inr (.inr (some 0)), .inl (v1)]) (rest := []) rfl rfl rfl (by omega) (P_width_e (by omega) (v1) M _ hv) ?_
  refine ev_k (pc' := 370) (ls' := [(0, .inr (.inr (some 999))), (1, .inr (.inr (some 0))), (2, .inr (.inr (some 73))), (3, .inl (x3))]) (st' := [.inl ((x3) + (1)), .inr (.inr (some 999)), .inr (.inr (some 73)), .inl (v2)]) (nc' := 126) (np' := 138) (M' := M3) 5 rfl ?_
  obtain ⟨hc, h⟩ := ck_i h
  obtain ⟨v4, ev, h⟩ := tw_i h
  refine ev_sld rfl rfl hc ev ?_
  refine ev_k (pc' := 371) (ls' := [(0, .inr (.inr (some 999))), (1, .inr (.inr (some 0))), (2, .inr (.inr (some 73))), (3, .inl (x3))]) (st' := [.inl (v4), .inr (.inr (some 73)), .inl (v2)]) (nc' := 126) (np' := 138) (M' := M3) 0 rfl ?_
  obtain ⟨v5, M6, hv, h⟩ := oc_i h
  refine ev_call (t := 226) (as := [.inr (.inr (some 73)), .inl (v4)]) (rest := [.inl (v2)]) rfl rfl rfl (by omega) (R_width_e (by omega) (v4) M3 _ hv) ?_
  refine ev_k (pc' := 374) (ls' := [(0, .inr (.inr (some 999))), (1, .inr (.inr (some 0))), (2, .inr (.inr (some 73))), (3, .inl (x3))]) (st' := [.inl (v5), .inl (v2)]) (nc' := 126) (np' := 138) (M' := M6) 0 rfl ?_
  obtain ⟨hR, ⟨hc, h⟩ | ⟨hc, h⟩⟩ := c_eq_i h
  · refine ev_icmp 1039 rfl hR.1 hR.2 (by decide) (fun _ => ?_) (fun q => absurd hc q)
    exact BlazedPathLaw_law_999_n0_1039_t hd   k18 hk18 (x3) M6 r h
  · refine ev_icmp 1039 rfl hR.1 hR.2 (by decide) (fun q => absurd q hc) (fun _ => ?_)
    refine ev_k (pc' := 378) (ls' := [(0, .inr (.inr (some 999))), (1, .inr (.inr (some 0))), (2, .inr (.inr (some 73))), (3, .inl (x3))]) (st' := [.inl (0)]) (nc' := 126) (np' := 138) (M' := M6) 1 rfl ?_
    cases h
    exact ev_ret rfl
set_option maxHeartbeats 20000000 in
set_option maxRecDepth 100000 in
theorem BlazedPathLaw_law_999_n0_231_t {L : Nat} {xs : Nat → Int} {d : Nat} (hd : 88 ≤ d)   (k18 : Int → am_M → Option (Int × am_M)) (hk18 : ∀ (x3 : Int) (M : am_M) (r : Int × am_M), k18 x3 M = some r → am_Ev L xs d me_313 18 [(0, .inr (.inr (some 999))), (1, .inr (.inr (some 0))), (2, .inr (.inr (some 73))), (3, .inl (x3))] [] 126 138 M (some (.inl r.1), 126, 138, r.2)) (x3 : Int) (M : am_M) (r : Int × am_M) (h : BlazedPathLaw_law_999_n0_231 L xs  k18 x3 M = some r) : am_Ev L xs d me_313 231 [(0, .inr (.inr (some 999))), (1, .inr (.inr (some 0))), (2, .inr (.inr (some 73))), (3, .inl (x3))] [] 126 138 M (some (.inl r.1), 126, 138, r.2) := by
  refine ev_k (pc' := 236) (ls' := [(0, .inr (.inr (some 999))), (1, .inr (.inr (some 0))), (2, .inr (.inr (some 73))), (3, .inl (x3))]) (st' := [.inl ((x3) + (1)), .inr (.inr (some 999)), .inr (.inr (some 0))]) (nc' := 126) (np' := 138) (M' := M) 5 rfl ?_
  obtain ⟨hc, h⟩ := ck_i h
  obtain ⟨v1, ev, h⟩ := tw_i h
  refine ev_sld rfl rfl hc ev ?_
  refine ev_k (pc' := 237) (ls' := [(0, .inr (.inr (some 999))), (1, .inr (.inr (some 0))), (2, .inr (.inr (some 73))), (3, .inl (x3))]) (st' := [.inl (v1), .inr (.inr (some 0))]) (nc' := 126) (np' := 138) (M' := M) 0 rfl ?_
  obtain ⟨v2, M3, hv, h⟩ := oc_i h
  refine ev_call (t := 20) (as := [.inr (.inr (some 0)), .inl (v1)]) (rest := []) rfl rfl rfl (by omega) (P_forest_e (by omega) (v1) M _ hv) ?_
  refine ev_k (pc' := 245) (ls' := [(0, .inr (.inr (some 999))), (1, .inr (.inr (some 0))), (2, .inr (.inr (some 73))), (3, .inl (x3))]) (st' := [.inl ((x3) + (1)), .inr (.inr (some 999)), .inr (.inr (some 73)), .inl (v2)]) (nc' := 126) (np' := 138) (M' := M3) 5 rfl ?_
  obtain ⟨hc, h⟩ := ck_i h
  obtain ⟨v4, ev, h⟩ := tw_i h
  refine ev_sld rfl rfl hc ev ?_
  refine ev_k (pc' := 246) (ls' := [(0, .inr (.inr (some 999))), (1, .inr (.inr (some 0))), (2, .inr (.inr (some 73))), (3, .inl (x3))]) (st' := [.inl (v4), .inr (.inr (some 73)), .inl (v2)]) (nc' := 126) (np' := 138) (M' := M3) 0 rfl ?_
  obtain ⟨v5, M6, hv, h⟩ := oc_i h
  refine ev_call (t := 192) (as := [.inr (.inr (some 73)), .inl (v4)]) (rest := [.inl (v2)]) rfl rfl rfl (by omega) (R_forest_e (by omega) (v4) M3 _ hv) ?_
  refine ev_k (pc' := 249) (ls' := [(0, .inr (.inr (some 999))), (1, .inr (.inr (some 0))), (2, .inr (.inr (some 73))), (3, .inl (x3))]) (st' := [.inl (v5), .inl (v2)]) (nc' := 126) (np' := 138) (M' := M6) 0 rfl ?_
  obtain ⟨hR, ⟨hc, h⟩ | ⟨hc, h⟩⟩ := c_eq_i h
  · refine ev_icmp 1039 rfl hR.1 hR.2 (by decide) (fun _ => ?_) (fun q => absurd hc q)
    exact BlazedPathLaw_law_999_n0_1039_t hd   k18 hk18 (x3) M6 r h
  · refine ev_icmp 1039 rfl hR.1 hR.2 (by decide) (fun q => absurd q hc) (fun _ => ?_)
    refine ev_k (pc' := 253) (ls' := [(0, .inr (.inr (some 999))), (1, .inr (.inr (some 0))), (2, .inr (.inr (some 73))), (3, .inl (x3))]) (st' := [.inl (0)]) (nc' := 126) (np' := 138) (M' := M6) 1 rfl ?_
    cases h
    exact ev_ret rfl
set_option maxHeartbeats 20000000 in
set_option maxRecDepth 100000 in
theorem BlazedPathLaw_law_999_n0_878_t {L : Nat} {xs : Nat → Int} {d : Nat} (hd : 88 ≤ d)   (k18 : Int → am_M → Option (Int × am_M)) (hk18 : ∀ (x3 : Int) (M : am_M) (r : Int × am_M), k18 x3 M = some r → am_Ev L xs d me_313 18 [(0, .inr (.inr (some 999))), (1, .inr (.inr (some 0))), (2, .inr (.inr (some 73))), (3, .inl (x3))] [] 126 138 M (some (.inl r.1), 126, 138, r.2)) (x3 : Int) (M : am_M) (r : Int × am_M) (h : BlazedPathLaw_law_999_n0_878 L xs  k18 x3 M = some r) : am_Ev L xs d me_313 878 [(0, .inr (.inr (some 999))), (1, .inr (.inr (some 0))), (2, .inr (.inr (some 73))), (3, .inl (x3))] [] 126 138 M (some (.inl r.1), 126, 138, r.2) := by
  refine ev_k (pc' := 883) (ls' := [(0, .inr (.inr (some 999))), (1, .inr (.inr (some 0))), (2, .inr (.inr (some 73))), (3, .inl (x3))]) (st' := [.inl ((x3) + (1)), .inr (.inr (some 999)), .inr (.inr (some 0))]) (nc' := 126) (np' := 138) (M' := M) 5 rfl ?_
  obtain ⟨hc, h⟩ := ck_i h
  obtain ⟨v1, ev, h⟩ := tw_i h
  refine ev_sld rfl rfl hc ev ?_
  refine ev_k (pc' := 888) (ls' := [(0, .inr (.inr (some 999))), (1, .inr (.inr (some 0))), (2, .inr (.inr (some 73))), (3, .inl (x3))]) (st' := [.inl ((x3) + (2)), .inr (.inr (some 999)), .inl (v1), .inr (.inr (some 0))]) (nc' := 126) (np' := 138) (M' := M) 4 rfl ?_
  obtain ⟨hc, h⟩ := ck_i h
  obtain ⟨v2, ev, h⟩ := tw_i h
  refine ev_sld rfl rfl hc ev ?_
  refine ev_k (pc' := 889) (ls' := [(0, .inr (.inr (some 999))), (1, .inr (.inr (some 0))), (2, .inr (.inr (some 73))), (3, .inl (x3))]) (st' := [.inl (v2), .inl (v1), .inr (.inr (some 0))]) (nc' := 126) (np' := 138) (M' := M) 0 rfl ?_
  obtain ⟨v3, M4, hv, h⟩ := oc_i h
  refine ev_call (t := 177) (as := [.inr (.inr (some 0)), .inl (v1), .inl (v2)]) (rest := []) rfl rfl rfl (by omega) (P_sights_e (by omega) (v1) (v2) M _ hv) ?_
  refine ev_k (pc' := 897) (ls' := [(0, .inr (.inr (some 999))), (1, .inr (.inr (some 0))), (2, .inr (.inr (some 73))), (3, .inl (x3))]) (st' := [.inl ((x3) + (1)), .inr (.inr (some 999)), .inr (.inr (some 73)), .inl (v3)]) (nc' := 126) (np' := 138) (M' := M4) 5 rfl ?_
  obtain ⟨hc, h⟩ := ck_i h
  obtain ⟨v5, ev, h⟩ := tw_i h
  refine ev_sld rfl rfl hc ev ?_
  refine ev_k (pc' := 902) (ls' := [(0, .inr (.inr (some 999))), (1, .inr (.inr (some 0))), (2, .inr (.inr (some 73))), (3, .inl (x3))]) (st' := [.inl ((x3) + (2)), .inr (.inr (some 999)), .inl (v5), .inr (.inr (some 73)), .inl (v3)]) (nc' := 126) (np' := 138) (M' := M4) 4 rfl ?_
  obtain ⟨hc, h⟩ := ck_i h
  obtain ⟨v6, ev, h⟩ := tw_i h
  refine ev_sld rfl rfl hc ev ?_
  refine ev_k (pc' := 903) (ls' := [(0, .inr (.inr (some 999))), (1, .inr (.inr (some 0))), (2, .inr (.inr (some 73))), (3, .inl (x3))]) (st' := [.inl (v6), .inl (v5), .inr (.inr (some 73)), .inl (v3)]) (nc' := 126) (np' := 138) (M' := M4) 0 rfl ?_
  obtain ⟨v7, M8, hv, h⟩ := oc_i h
  refine ev_call (t := 304) (as := [.inr (.inr (some 73)), .inl (v5), .inl (v6)]) (rest := [.inl (v3)]) rfl rfl rfl (by omega) (R_sights_e (by omega) (v5) (v6) M4 _ hv) ?_
  refine ev_k (pc' := 906) (ls' := [(0, .inr (.inr (some 999))), (1, .inr (.inr (some 0))), (2, .inr (.inr (some 73))), (3, .inl (x3))]) (st' := [.inl (v7), .inl (v3)]) (nc' := 126) (np' := 138) (M' := M8) 0 rfl ?_
  obtain ⟨hR, ⟨hc, h⟩ | ⟨hc, h⟩⟩ := c_eq_i h
  · refine ev_icmp 1039 rfl hR.1 hR.2 (by decide) (fun _ => ?_) (fun q => absurd hc q)
    exact BlazedPathLaw_law_999_n0_1039_t hd   k18 hk18 (x3) M8 r h
  · refine ev_icmp 1039 rfl hR.1 hR.2 (by decide) (fun q => absurd q hc) (fun _ => ?_)
    refine ev_k (pc' := 910) (ls' := [(0, .inr (.inr (some 999))), (1, .inr (.inr (some 0))), (2, .inr (.inr (some 73))), (3, .inl (x3))]) (st' := [.inl (0)]) (nc' := 126) (np' := 138) (M' := M8) 1 rfl ?_
    cases h
    exact ev_ret rfl
set_option maxHeartbeats 20000000 in
set_option maxRecDepth 100000 in
theorem BlazedPathLaw_law_999_n0_504_t {L : Nat} {xs : Nat → Int} {d : Nat} (hd : 88 ≤ d)   (k18 : Int → am_M → Option (Int × am_M)) (hk18 : ∀ (x3 : Int) (M : am_M) (r : Int × am_M), k18 x3 M = some r → am_Ev L xs d me_313 18 [(0, .inr (.inr (some 999))), (1, .inr (.inr (some 0))), (2, .inr (.inr (some 73))), (3, .inl (x3))] [] 126 138 M (some (.inl r.1), 126, 138, r.2)) (x3 : Int) (M : am_M) (r : Int × am_M) (h : BlazedPathLaw_law_999_n0_504 L xs  k18 x3 M = some r) : am_Ev L xs d me_313 504 [(0, .inr (.inr (some 999))), (1, .inr (.inr (some 0))), (2, .inr (.inr (some 73))), (3, .inl (x3))] [] 126 138 M (some (.inl r.1), 126, 138, r.2) := by
  refine ev_k (pc' := 509) (ls' := [(0, .inr (.inr (some 999))), (1, .inr (.inr (some 0))), (2, .inr (.inr (some 73))), (3, .inl (x3))]) (st' := [.inl ((x3) + (1)), .inr (.inr (some 999)), .inr (.inr (some 0))]) (nc' := 126) (np' := 138) (M' := M) 5 rfl ?_
  obtain ⟨hc, h⟩ := ck_i h
  obtain ⟨v1, ev, h⟩ := tw_i h
  refine ev_sld rfl rfl hc ev ?_
  refine ev_k (pc' := 510) (ls' := [(0, .inr (.inr (some 999))), (1, .inr (.inr (some 0))), (2, .inr (.inr (some 73))), (3, .inl (x3))]) (st' := [.inl (v1), .inr (.inr (some 0))]) (nc' := 126) (np' := 138) (M' := M) 0 rfl ?_
  obtain ⟨v2, M3, hv, h⟩ := oc_i h
  refine ev_call (t := 123) (as := [.inr (.inr (some 0)), .inl (v1)]) (rest := []) rfl rfl rfl (by omega) (P_safe_e (by omega) (v1) M _ hv) ?_
  refine ev_k (pc' := 518) (ls' := [(0, .inr (.inr (some 999))), (1, .inr (.inr (some 0))), (2, .inr (.inr (some 73))), (3, .inl (x3))]) (st' := [.inl ((x3) + (1)), .inr (.inr (some 999)), .inr (.inr (some 73)), .inr (.inl (v2))]) (nc' := 126) (np' := 138) (M' := M3) 5 rfl ?_
  obtain ⟨hc, h⟩ := ck_i h
  obtain ⟨v4, ev, h⟩ := tw_i h
  refine ev_sld rfl rfl hc ev ?_
  refine ev_k (pc' := 519) (ls' := [(0, .inr (.inr (some 999))), (1, .inr (.inr (some 0))), (2, .inr (.inr (some 73))), (3, .inl (x3))]) (st' := [.inl (v4), .inr (.inr (some 73)), .inr (.inl (v2))]) (nc' := 126) (np' := 138) (M' := M3) 0 rfl ?_
  obtain ⟨v5, M6, hv, h⟩ := oc_i h
  refine ev_call (t := 271) (as := [.inr (.inr (some 73)), .inl (v4)]) (rest := [.inr (.inl (v2))]) rfl rfl rfl (by omega) (R_safe_e (by omega) (v4) M3 _ hv) ?_
  refine ev_k (pc' := 522) (ls' := [(0, .inr (.inr (some 999))), (1, .inr (.inr (some 0))), (2, .inr (.inr (some 73))), (3, .inl (x3))]) (st' := [.inr (.inl (v5)), .inr (.inl (v2))]) (nc' := 126) (np' := 138) (M' := M6) 0 rfl ?_
  obtain ⟨hc, h⟩ := ck_i h
  obtain ⟨v7, ev, h⟩ := tw_i h
  refine ev_lcmp rfl hc ?_
  rw [← ev]
  refine ev_k (pc' := 523) (ls' := [(0, .inr (.inr (some 999))), (1, .inr (.inr (some 0))), (2, .inr (.inr (some 73))), (3, .inl (x3))]) (st' := [.inl (v7)]) (nc' := 126) (np' := 138) (M' := M6) 0 rfl ?_
  obtain ⟨hR, ⟨hc, h⟩ | ⟨hc, h⟩⟩ := c_eq_i h
  · refine ev_ifc 1039 rfl hR.1 (by decide) (fun _ => ?_) (fun q => absurd hc q)
    exact BlazedPathLaw_law_999_n0_1039_t hd   k18 hk18 (x3) M6 r h
  · refine ev_ifc 1039 rfl hR.1 (by decide) (fun q => absurd q hc) (fun _ => ?_)
    refine ev_k (pc' := 527) (ls' := [(0, .inr (.inr (some 999))), (1, .inr (.inr (some 0))), (2, .inr (.inr (some 73))), (3, .inl (x3))]) (st' := [.inl (0)]) (nc' := 126) (np' := 138) (M' := M6) 1 rfl ?_
    cases h
    exact ev_ret rfl
set_option maxHeartbeats 20000000 in
set_option maxRecDepth 100000 in
theorem BlazedPathLaw_law_999_n0_379_t {L : Nat} {xs : Nat → Int} {d : Nat} (hd : 88 ≤ d)   (k18 : Int → am_M → Option (Int × am_M)) (hk18 : ∀ (x3 : Int) (M : am_M) (r : Int × am_M), k18 x3 M = some r → am_Ev L xs d me_313 18 [(0, .inr (.inr (some 999))), (1, .inr (.inr (some 0))), (2, .inr (.inr (some 73))), (3, .inl (x3))] [] 126 138 M (some (.inl r.1), 126, 138, r.2)) (x3 : Int) (M : am_M) (r : Int × am_M) (h : BlazedPathLaw_law_999_n0_379 L xs  k18 x3 M = some r) : am_Ev L xs d me_313 379 [(0, .inr (.inr (some 999))), (1, .inr (.inr (some 0))), (2, .inr (.inr (some 73))), (3, .inl (x3))] [] 126 138 M (some (.inl r.1), 126, 138, r.2) := by
  refine ev_k (pc' := 384) (ls' := [(0, .inr (.inr (some 999))), (1, .inr (.inr (some 0))), (2, .inr (.inr (some 73))), (3, .inl (x3))]) (st' := [.inl ((x3) + (1)), .inr (.inr (some 999)), .inr (.inr (some 0))]) (nc' := 126) (np' := 138) (M' := M) 5 rfl ?_
  obtain ⟨hc, h⟩ := ck_i h
  obtain ⟨v1, ev, h⟩ := tw_i h
  refine ev_sld rfl rfl hc ev ?_
  refine ev_k (pc' := 385) (ls' := [(0, .inr (.inr (some 999))), (1, .inr (.inr (some 0))), (2, .inr (.inr (some 73))), (3, .inl (x3))]) (st' := [.inl (v1), .inr (.inr (some 0))]) (nc' := 126) (np' := 138) (M' := M) 0 rfl ?_
  obtain ⟨v2, M3, hv, h⟩ := oc_i h
  refine ev_call (t := 66) (as := [.inr (.inr (some 0)), .inl (v1)]) (rest := []) rfl rfl rfl (by omega) (P_light_e (by omega) (v1) M _ hv) ?_
  refine ev_k (pc' := 393) (ls' := [(0, .inr (.inr (some 999))), (1, .inr (.inr (some 0))), (2, .inr (.inr (some 73))), (3, .inl (x3))]) (st' := [.inl ((x3) + (1)), .inr (.inr (some 999)), .inr (.inr (some 73)), .inl (v2)]) (nc' := 126) (np' := 138) (M' := M3) 5 rfl ?_
  obtain ⟨hc, h⟩ := ck_i h
  obtain ⟨v4, ev, h⟩ := tw_i h
  refine ev_sld rfl rfl hc ev ?_
  refine ev_k (pc' := 394) (ls' := [(0, .inr (.inr (some 999))), (1, .inr (.inr (some 0))), (2, .inr (.inr (some 73))), (3, .inl (x3))]) (st' := [.inl (v4), .inr (.inr (some 73)), .inl (v2)]) (nc' := 126) (np' := 138) (M' := M3) 0 rfl ?_
  obtain ⟨v5, M6, hv, h⟩ := oc_i h
  refine ev_call (t := 227) (as := [.inr (.inr (some 73)), .inl (v4)]) (rest := [.inl (v2)]) rfl rfl rfl (by omega) (R_light_e (by omega) (v4) M3 _ hv) ?_
  refine ev_k (pc' := 397) (ls' := [(0, .inr (.inr (some 999))), (1, .inr (.inr (some 0))), (2, .inr (.inr (some 73))), (3, .inl (x3))]) (st' := [.inl (v5), .inl (v2)]) (nc' := 126) (np' := 138) (M' := M6) 0 rfl ?_
  obtain ⟨hR, ⟨hc, h⟩ | ⟨hc, h⟩⟩ := c_eq_i h
  · refine ev_icmp 1039 rfl hR.1 hR.2 (by decide) (fun _ => ?_) (fun q => absurd hc q)
    exact BlazedPathLaw_law_999_n0_1039_t hd   k18 hk18 (x3) M6 r h
  · refine ev_icmp 1039 rfl hR.1 hR.2 (by decide) (fun q => absurd q hc) (fun _ => ?_)
    refine ev_k (pc' := 401) (ls' := [(0, .inr (.inr (some 999))), (1, .inr (.inr (some 0))), (2, .inr (.inr (some 73))), (3, .inl (x3))]) (st' := [.inl (0)]) (nc' := 126) (np' := 138) (M' := M6) 1 rfl ?_
    cases h
    exact ev_ret rfl
set_option maxHeartbeats 20000000 in
set_option maxRecDepth 100000 in
theorem BlazedPathLaw_law_999_n0_254_t {L : Nat} {xs : Nat → Int} {d : Nat} (hd : 88 ≤ d)   (k18 : Int → am_M → Option (Int × am_M)) (hk18 : ∀ (x3 : Int) (M : am_M) (r : Int × am_M), k18 x3 M = some r → am_Ev L xs d me_313 18 [(0, .inr (.inr (some 999))), (1, .inr (.inr (some 0))), (2, .inr (.inr (some 73))), (3, .inl (x3))] [] 126 138 M (some (.inl r.1), 126, 138, r.2)) (x3 : Int) (M : am_M) (r : Int × am_M) (h : BlazedPathLaw_law_999_n0_254 L xs  k18 x3 M = some r) : am_Ev L xs d me_313 254 [(0, .inr (.inr (some 999))), (1, .inr (.inr (some 0))), (2, .inr (.inr (some 73))), (3, .inl (x3))] [] 126 138 M (some (.inl r.1), 126, 138, r.2) := by
  refine ev_k (pc' := 259) (ls' := [(0, .inr (.inr (some 999))), (1, .inr (.inr (some 0))), (2, .inr (.inr (some 73))), (3, .inl (x3))]) (st' := [.inl ((x3) + (1)), .inr (.inr (some 999)), .inr (.inr (some 0))]) (nc' := 126) (np' := 138) (M' := M) 5 rfl ?_
  obtain ⟨hc, h⟩ := ck_i h
  obtain ⟨v1, ev, h⟩ := tw_i h
  refine ev_sld rfl rfl hc ev ?_
  refine ev_k (pc' := 260) (ls' := [(0, .inr (.inr (some 999))), (1, .inr (.inr (some 0))), (2, .inr (.inr (some 73))), (3, .inl (x3))]) (st' := [.inl (v1), .inr (.inr (some 0))]) (nc' := 126) (np' := 138) (M' := M) 0 rfl ?_
  obtain ⟨v2, M3, hv, h⟩ := oc_i h
  refine ev_call (t := 33) (as := [.inr (.inr (some 0)), .inl (v1)]) (rest := []) rfl rfl rfl (by omega) (P_law_e (by omega) (v1) M _ hv) ?_
  refine ev_k (pc' := 268) (ls' := [(0, .inr (.inr (some 999))), (1, .inr (.inr (some 0))), (2, .inr (.inr (some 73))), (3, .inl (x3))]) (st' := [.inl ((x3) + (1)), .inr (.inr (some 999)), .inr (.inr (some 73)), .inl (v2)]) (nc' := 126) (np' := 138) (M' := M3) 5 rfl ?_
  obtain ⟨hc, h⟩ := ck_i h
  obtain ⟨v4, ev, h⟩ := tw_i h
  refine ev_sld rfl rfl hc ev ?_
  refine ev_k (pc' := 269) (ls' := [(0, .inr (.inr (some 999))), (1, .inr (.inr (some 0))), (2, .inr (.inr (some 73))), (3, .inl (x3))]) (st' := [.inl (v4), .inr (.inr (some 73)), .inl (v2)]) (nc' := 126) (np' := 138) (M' := M3) 0 rfl ?_
  obtain ⟨v5, M6, hv, h⟩ := oc_i h
  refine ev_call (t := 203) (as := [.inr (.inr (some 73)), .inl (v4)]) (rest := [.inl (v2)]) rfl rfl rfl (by omega) (R_lawm_e (by omega) (v4) M3 _ hv) ?_
  refine ev_k (pc' := 272) (ls' := [(0, .inr (.inr (some 999))), (1, .inr (.inr (some 0))), (2, .inr (.inr (some 73))), (3, .inl (x3))]) (st' := [.inl (v5), .inl (v2)]) (nc' := 126) (np' := 138) (M' := M6) 0 rfl ?_
  obtain ⟨hR, ⟨hc, h⟩ | ⟨hc, h⟩⟩ := c_eq_i h
  · refine ev_icmp 1039 rfl hR.1 hR.2 (by decide) (fun _ => ?_) (fun q => absurd hc q)
    exact BlazedPathLaw_law_999_n0_1039_t hd   k18 hk18 (x3) M6 r h
  · refine ev_icmp 1039 rfl hR.1 hR.2 (by decide) (fun q => absurd q hc) (fun _ => ?_)
    refine ev_k (pc' := 276) (ls' := [(0, .inr (.inr (some 999))), (1, .inr (.inr (some 0))), (2, .inr (.inr (some 73))), (3, .inl (x3))]) (st' := [.inl (0)]) (nc' := 126) (np' := 138) (M' := M6) 1 rfl ?_
    cases h
    exact ev_ret rfl
set_option maxHeartbeats 20000000 in
set_option maxRecDepth 100000 in
theorem BlazedPathLaw_law_999_n0_18_t {L : Nat} {xs : Nat → Int} {d : Nat} (hd : 88 ≤ d)     : ∀ (n : Nat) (x3 : Int) (M : am_M) (r : Int × am_M), BlazedPathLaw_law_999_n0_18 L xs   n x3 M = some r → am_Ev L xs d me_313 18 [(0, .inr (.inr (some 999))), (1, .inr (.inr (some 0))), (2, .inr (.inr (some 73))), (3, .inl (x3))] [] 126 138 M (some (.inl r.1), 126, 138, r.2)
  | 0, _, M, r, h => by cases h
  | n + 1, x3, M, r, h => by
    have ih := BlazedPathLaw_law_999_n0_18_t (L := L) (xs := xs) hd     n
    refine ev_k (pc' := 24) (ls' := [(0, .inr (.inr (some 999))), (1, .inr (.inr (some 0))), (2, .inr (.inr (some 73))), (3, .inl (x3))]) (st' := [.inl (((L : Int)) - (6)), .inl (x3)]) (nc' := 126) (np' := 138) (M' := M) 5 rfl ?_
    obtain ⟨hR, ⟨hc, h⟩ | ⟨hc, h⟩⟩ := c_gt_i h
    · refine ev_icmp 1045 rfl hR.1 hR.2 (by decide) (fun _ => ?_) (fun q => absurd hc q)
      refine ev_k (pc' := 1046) (ls' := [(0, .inr (.inr (some 999))), (1, .inr (.inr (some 0))), (2, .inr (.inr (some 73))), (3, .inl (x3))]) (st' := [.inl (1)]) (nc' := 126) (np' := 138) (M' := M) 1 rfl ?_
      cases h
      exact ev_ret rfl
    · refine ev_icmp 1045 rfl hR.1 hR.2 (by decide) (fun q => absurd q hc) (fun _ => ?_)
      refine ev_k (pc' := 29) (ls' := [(0, .inr (.inr (some 999))), (1, .inr (.inr (some 0))), (2, .inr (.inr (some 73))), (3, .inl (x3))]) (st' := [.inl (x3), .inr (.inr (some 999))]) (nc' := 126) (np' := 138) (M' := M) 2 rfl ?_
      obtain ⟨hc, h⟩ := ck_i h
      obtain ⟨v1, ev, h⟩ := tw_i h
      refine ev_sld rfl rfl hc ev ?_
      refine ev_k (pc' := 33) (ls' := [(0, .inr (.inr (some 999))), (1, .inr (.inr (some 0))), (2, .inr (.inr (some 73))), (3, .inl (x3))]) (st' := [.inl (b_and (v1) (31))]) (nc' := 126) (np' := 138) (M' := M) 2 rfl ?_
      obtain ⟨hR, h⟩ := ck_i h
      rcases if_i h with ⟨hq, h⟩ | ⟨hq0, h⟩
      · refine ev_tsw 168 rfl hR (135) (Or.inr ⟨by rw [hq]; decide, by rw [hq]; rfl⟩) (by decide) ?_
        exact BlazedPathLaw_law_999_n0_168_t hd   (BlazedPathLaw_law_999_n0_18 L xs   n) ih (x3) M r h
      · skip
        rcases if_i h with ⟨hq, h⟩ | ⟨hq1, h⟩
        · refine ev_tsw 231 rfl hR (198) (Or.inr ⟨by rw [hq]; decide, by rw [hq]; rfl⟩) (by decide) ?_
          exact BlazedPathLaw_law_999_n0_231_t hd   (BlazedPathLaw_law_999_n0_18 L xs   n) ih (x3) M r h
        · skip
          rcases if_i h with ⟨hq, h⟩ | ⟨hq2, h⟩
          · refine ev_tsw 254 rfl hR (221) (Or.inr ⟨by rw [hq]; decide, by rw [hq]; rfl⟩) (by decide) ?_
            exact BlazedPathLaw_law_999_n0_254_t hd   (BlazedPathLaw_law_999_n0_18 L xs   n) ih (x3) M r h
          · skip
            rcases if_i h with ⟨hq, h⟩ | ⟨hq3, h⟩
            · refine ev_tsw 277 rfl hR (244) (Or.inr ⟨by rw [hq]; decide, by rw [hq]; rfl⟩) (by decide) ?_
              exact BlazedPathLaw_law_999_n0_277_t hd   (BlazedPathLaw_law_999_n0_18 L xs   n) ih (x3) M r h
            · skip
              rcases if_i h with ⟨hq, h⟩ | ⟨hq4, h⟩
              · refine ev_tsw 300 rfl hR (267) (Or.inr ⟨by rw [hq]; decide, by rw [hq]; rfl⟩) (by decide) ?_
                exact BlazedPathLaw_law_999_n0_300_t hd   (BlazedPathLaw_law_999_n0_18 L xs   n) ih (x3) M r h
              · skip
                rcases if_i h with ⟨hq, h⟩ | ⟨hq5, h⟩
                · refine ev_tsw 333 rfl hR (300) (Or.inr ⟨by rw [hq]; decide, by rw [hq]; rfl⟩) (by decide) ?_
                  exact BlazedPathLaw_law_999_n0_333_t hd   (BlazedPathLaw_law_999_n0_18 L xs   n) ih (x3) M r h
                · skip
                  rcases if_i h with ⟨hq, h⟩ | ⟨hq6, h⟩
                  · refine ev_tsw 356 rfl hR (323) (Or.inr ⟨by rw [hq]; decide, by rw [hq]; rfl⟩) (by decide) ?_
                    exact BlazedPathLaw_law_999_n0_356_t hd   (BlazedPathLaw_law_999_n0_18 L xs   n) ih (x3) M r h
                  · skip
                    rcases if_i h with ⟨hq, h⟩ | ⟨hq7, h⟩
                    · refine ev_tsw 379 rfl hR (346) (Or.inr ⟨by rw [hq]; decide, by rw [hq]; rfl⟩) (by decide) ?_
                      exact BlazedPathLaw_law_999_n0_379_t hd   (BlazedPathLaw_law_999_n0_18 L xs   n) ih (x3) M r h
                    · skip
                      rcases if_i h with ⟨hq, h⟩ | ⟨hq8, h⟩
                      · refine ev_tsw 402 rfl hR (369) (Or.inr ⟨by rw [hq]; decide, by rw [hq]; rfl⟩) (by decide) ?_
                        exact BlazedPathLaw_law_999_n0_402_t hd   (BlazedPathLaw_law_999_n0_18 L xs   n) ih (x3) M r h
                      · skip
                        rcases if_i h with ⟨hq, h⟩ | ⟨hq9, h⟩
                        · refine ev_tsw 425 rfl hR (392) (Or.inr ⟨by rw [hq]; decide, by rw [hq]; rfl⟩) (by decide) ?_
                          exact BlazedPathLaw_law_999_n0_425_t hd   (BlazedPathLaw_law_999_n0_18 L xs   n) ih (x3) M r h
                        · skip
                          rcases if_i h with ⟨hq, h⟩ | ⟨hq10, h⟩
                          · refine ev_tsw 458 rfl hR (425) (Or.inr ⟨by rw [hq]; decide, by rw [hq]; rfl⟩) (by decide) ?_
                            exact BlazedPathLaw_law_999_n0_458_t hd   (BlazedPathLaw_law_999_n0_18 L xs   n) ih (x3) M r h
                          · skip
                            rcases if_i h with ⟨hq, h⟩ | ⟨hq11, h⟩
                            · refine ev_tsw 481 rfl hR (448) (Or.inr ⟨by rw [hq]; decide, by rw [hq]; rfl⟩) (by decide) ?_
                              exact BlazedPathLaw_law_999_n0_481_t hd   (BlazedPathLaw_law_999_n0_18 L xs   n) ih (x3) M r h
                            · skip
                              rcases if_i h with ⟨hq, h⟩ | ⟨hq12, h⟩
                              · refine ev_tsw 504 rfl hR (471) (Or.inr ⟨by rw [hq]; decide, by rw [hq]; rfl⟩) (by decide) ?_
                                exact BlazedPathLaw_law_999_n0_504_t hd   (BlazedPathLaw_law_999_n0_18 L xs   n) ih (x3) M r h
                              · skip
                                rcases if_i h with ⟨hq, h⟩ | ⟨hq13, h⟩
                                · refine ev_tsw 528 rfl hR (495) (Or.inr ⟨by rw [hq]; decide, by rw [hq]; rfl⟩) (by decide) ?_
                                  exact BlazedPathLaw_law_999_n0_528_t hd   (BlazedPathLaw_law_999_n0_18 L xs   n) ih (x3) M r h
                                · skip
                                  rcases if_i h with ⟨hq, h⟩ | ⟨hq14, h⟩
                                  · refine ev_tsw 541 rfl hR (508) (Or.inr ⟨by rw [hq]; decide, by rw [hq]; rfl⟩) (by decide) ?_
                                    exact BlazedPathLaw_law_999_n0_541_t hd   (BlazedPathLaw_law_999_n0_18 L xs   n) ih (x3) M r h
                                  · skip
                                    rcases if_i h with ⟨hq, h⟩ | ⟨hq15, h⟩
                                    · refine ev_tsw 574 rfl hR (541) (Or.inr ⟨by rw [hq]; decide, by rw [hq]; rfl⟩) (by decide) ?_
                                      exact BlazedPathLaw_law_999_n0_574_t hd   (BlazedPathLaw_law_999_n0_18 L xs   n) ih (x3) M r h
                                    · skip
                                      rcases if_i h with ⟨hq, h⟩ | ⟨hq16, h⟩
                                      · refine ev_tsw 607 rfl hR (574) (Or.inr ⟨by rw [hq]; decide, by rw [hq]; rfl⟩) (by decide) ?_
                                        exact BlazedPathLaw_law_999_n0_607_t hd   (BlazedPathLaw_law_999_n0_18 L xs   n) ih (x3) M r h
                                      · skip
                                        rcases if_i h with ⟨hq, h⟩ | ⟨hq17, h⟩
                                        · refine ev_tsw 650 rfl hR (617) (Or.inr ⟨by rw [hq]; decide, by rw [hq]; rfl⟩) (by decide) ?_
                                          exact BlazedPathLaw_law_999_n0_650_t hd   (BlazedPathLaw_law_999_n0_18 L xs   n) ih (x3) M r h
                                        · skip
                                          rcases if_i h with ⟨hq, h⟩ | ⟨hq18, h⟩
                                          · refine ev_tsw 673 rfl hR (640) (Or.inr ⟨by rw [hq]; decide, by rw [hq]; rfl⟩) (by decide) ?_
                                            exact BlazedPathLaw_law_999_n0_673_t hd   (BlazedPathLaw_law_999_n0_18 L xs   n) ih (x3) M r h
                                          · skip
                                            rcases if_i h with ⟨hq, h⟩ | ⟨hq19, h⟩
                                            · refine ev_tsw 716 rfl hR (683) (Or.inr ⟨by rw [hq]; decide, by rw [hq]; rfl⟩) (by decide) ?_
                                              exact BlazedPathLaw_law_999_n0_716_t hd   (BlazedPathLaw_law_999_n0_18 L xs   n) ih (x3) M r h
                                            · skip
                                              rcases if_i h with ⟨hq, h⟩ | ⟨hq20, h⟩
                                              · refine ev_tsw 769 rfl hR (736) (Or.inr ⟨by rw [hq]; decide, by rw [hq]; rfl⟩) (by decide) ?_
                                                exact BlazedPathLaw_law_999_n0_769_t hd   (BlazedPathLaw_law_999_n0_18 L xs   n) ih (x3) M r h
                                              · skip
                                                rcases if_i h with ⟨hq, h⟩ | ⟨hq21, h⟩
                                                · refine ev_tsw 812 rfl hR (779) (Or.inr ⟨by rw [hq]; decide, by rw [hq]; rfl⟩) (by decide) ?_
                                                  exact BlazedPathLaw_law_999_n0_812_t hd   (BlazedPathLaw_law_999_n0_18 L xs   n) ih (x3) M r h
                                                · skip
                                                  rcases if_i h with ⟨hq, h⟩ | ⟨hq22, h⟩
                                                  · refine ev_tsw 845 rfl hR (812) (Or.inr ⟨by rw [hq]; decide, by rw [hq]; rfl⟩) (by decide) ?_
                                                    exact BlazedPathLaw_law_999_n0_845_t hd   (BlazedPathLaw_law_999_n0_18 L xs   n) ih (x3) M r h
                                                  · skip
                                                    rcases if_i h with ⟨hq, h⟩ | ⟨hq23, h⟩
                                                    · refine ev_tsw 878 rfl hR (845) (Or.inr ⟨by rw [hq]; decide, by rw [hq]; rfl⟩) (by decide) ?_
                                                      exact BlazedPathLaw_law_999_n0_878_t hd   (BlazedPathLaw_law_999_n0_18 L xs   n) ih (x3) M r h
                                                    · skip
                                                      rcases if_i h with ⟨hq, h⟩ | ⟨hq24, h⟩
                                                      · refine ev_tsw 911 rfl hR (878) (Or.inr ⟨by rw [hq]; decide, by rw [hq]; rfl⟩) (by decide) ?_
                                                        exact BlazedPathLaw_law_999_n0_911_t hd   (BlazedPathLaw_law_999_n0_18 L xs   n) ih (x3) M r h
                                                      · skip
                                                        rcases if_i h with ⟨hq, h⟩ | ⟨hq25, h⟩
                                                        · refine ev_tsw 944 rfl hR (911) (Or.inr ⟨by rw [hq]; decide, by rw [hq]; rfl⟩) (by decide) ?_
                                                          exact BlazedPathLaw_law_999_n0_944_t hd   (BlazedPathLaw_law_999_n0_18 L xs   n) ih (x3) M r h
                                                        · skip
                                                          rcases if_i h with ⟨hq, h⟩ | ⟨hq26, h⟩
                                                          · refine ev_tsw 967 rfl hR (934) (Or.inr ⟨by rw [hq]; decide, by rw [hq]; rfl⟩) (by decide) ?_
                                                            exact BlazedPathLaw_law_999_n0_967_t hd   (BlazedPathLaw_law_999_n0_18 L xs   n) ih (x3) M r h
                                                          · skip
                                                            rcases if_i h with ⟨hq, h⟩ | ⟨hq27, h⟩
                                                            · refine ev_tsw 980 rfl hR (947) (Or.inr ⟨by rw [hq]; decide, by rw [hq]; rfl⟩) (by decide) ?_
                                                              exact BlazedPathLaw_law_999_n0_980_t hd   (BlazedPathLaw_law_999_n0_18 L xs   n) ih (x3) M r h
                                                            · skip
                                                              rcases if_i h with ⟨hq, h⟩ | ⟨hq28, h⟩
                                                              · refine ev_tsw 993 rfl hR (960) (Or.inr ⟨by rw [hq]; decide, by rw [hq]; rfl⟩) (by decide) ?_
                                                                exact BlazedPathLaw_law_999_n0_993_t hd   (BlazedPathLaw_law_999_n0_18 L xs   n) ih (x3) M r h
                                                              · skip
                                                                rcases if_i h with ⟨hq, h⟩ | ⟨hq29, h⟩
                                                                · refine ev_tsw 1016 rfl hR (983) (Or.inr ⟨by rw [hq]; decide, by rw [hq]; rfl⟩) (by decide) ?_
                                                                  exact BlazedPathLaw_law_999_n0_1016_t hd   (BlazedPathLaw_law_999_n0_18 L xs   n) ih (x3) M r h
                                                                · skip
                                                                  have hho : ((b_and (v1) (31)) < 0 ∨ 29 < (b_and (v1) (31))) ∨ ((b_and (v1) (31)) = 0 ∨ (b_and (v1) (31)) = 1 ∨ (b_and (v1) (31)) = 2 ∨ (b_and (v1) (31)) = 3 ∨ (b_and (v1) (31)) = 4 ∨ (b_and (v1) (31)) = 5 ∨ (b_and (v1) (31)) = 6 ∨ (b_and (v1) (31)) = 7 ∨ (b_and (v1) (31)) = 8 ∨ (b_and (v1) (31)) = 9 ∨ (b_and (v1) (31)) = 10 ∨ (b_and (v1) (31)) = 11 ∨ (b_and (v1) (31)) = 12 ∨ (b_and (v1) (31)) = 13 ∨ (b_and (v1) (31)) = 14 ∨ (b_and (v1) (31)) = 15 ∨ (b_and (v1) (31)) = 16 ∨ (b_and (v1) (31)) = 17 ∨ (b_and (v1) (31)) = 18 ∨ (b_and (v1) (31)) = 19 ∨ (b_and (v1) (31)) = 20 ∨ (b_and (v1) (31)) = 21 ∨ (b_and (v1) (31)) = 22 ∨ (b_and (v1) (31)) = 23 ∨ (b_and (v1) (31)) = 24 ∨ (b_and (v1) (31)) = 25 ∨ (b_and (v1) (31)) = 26 ∨ (b_and (v1) (31)) = 27 ∨ (b_and (v1) (31)) = 28 ∨ (b_and (v1) (31)) = 29) := by omega
                                                                  refine ev_tsw 1039 rfl hR (1006) ?_ (by decide) ?_
                                                                  · rcases hho with hho | hho
                                                                    · exact Or.inl ⟨hho, rfl⟩
                                                                    · rcases hho with hho | hho | hho | hho | hho | hho | hho | hho | hho | hho | hho | hho | hho | hho | hho | hho | hho | hho | hho | hho | hho | hho | hho | hho | hho | hho | hho | hho | hho | hho
                                                                      · exact absurd hho hq0
                                                                      · exact absurd hho hq1
                                                                      · exact absurd hho hq2
                                                                      · exact absurd hho hq3
                                                                      · exact absurd hho hq4
                                                                      · exact absurd hho hq5
                                                                      · exact absurd hho hq6
                                                                      · exact absurd hho hq7
                                                                      · exact absurd hho hq8
                                                                      · exact absurd hho hq9
                                                                      · exact absurd hho hq10
                                                                      · exact absurd hho hq11
                                                                      · exact absurd hho hq12
                                                                      · exact absurd hho hq13
                                                                      · exact absurd hho hq14
                                                                      · exact absurd hho hq15
                                                                      · exact absurd hho hq16
                                                                      · exact absurd hho hq17
                                                                      · exact absurd hho hq18
                                                                      · exact absurd hho hq19
                                                                      · exact absurd hho hq20
                                                                      · exact absurd hho hq21
                                                                      · exact absurd hho hq22
                                                                      · exact absurd hho hq23
                                                                      · exact absurd hho hq24
                                                                      · exact absurd hho hq25
                                                                      · exact absurd hho hq26
                                                                      · exact absurd hho hq27
                                                                      · exact absurd hho hq28
                                                                      · exact absurd hho hq29
                                                                  · skip
                                                                    exact BlazedPathLaw_law_999_n0_1039_t hd   (BlazedPathLaw_law_999_n0_18 L xs   n) ih (x3) M r h
set_option maxHeartbeats 20000000 in
set_option maxRecDepth 100000 in
theorem BlazedPathLaw_law_999_n0_e {L : Nat} {xs : Nat → Int} {d : Nat} (hd : 88 ≤ d)    (M : am_M) (r : Int × am_M) (h : BlazedPathLaw_law_999_n0 L xs   M = some r) : am_Ev L xs d me_313 0 (am_ar1 0 [.inr (.inr (some 999))]) [] 0 0 M (some (.inl r.1), 126, 138, r.2) := by
  refine ev_k (pc' := 3) (ls' := [(0, .inr (.inr (some 999)))]) (st' := [.inr (.inr (some 0))]) (nc' := 1) (np' := 0) (M' := am_zr M 0) 1 rfl ?_
  obtain ⟨M1, eM, h⟩ := nw_i h
  rw [← eM]
  refine ev_k (pc' := 4) (ls' := [(0, .inr (.inr (some 999)))]) (st' := [.inr (.inr (some 0)), .inr (.inr (some 0))]) (nc' := 1) (np' := 0) (M' := M1) 1 rfl ?_
  obtain ⟨M2, hv, h⟩ := ob_i h
  refine ev_call (t := 0) (as := [.inr (.inr (some 0))]) (rest := [.inr (.inr (some 0))]) rfl rfl rfl (by omega) (P_new_n1_e (by omega)  M1 _ hv) ?_
  refine ev_k (pc' := 11) (ls' := [(1, .inr (.inr (some 0))), (0, .inr (.inr (some 999)))]) (st' := [.inr (.inr (some 73))]) (nc' := 74) (np' := 86) (M' := am_zr M2 73) 2 rfl ?_
  obtain ⟨M3, eM, h⟩ := nw_i h
  rw [← eM]
  refine ev_k (pc' := 12) (ls' := [(1, .inr (.inr (some 0))), (0, .inr (.inr (some 999)))]) (st' := [.inr (.inr (some 73)), .inr (.inr (some 73))]) (nc' := 74) (np' := 86) (M' := M3) 1 rfl ?_
  obtain ⟨M4, hv, h⟩ := ob_i h
  refine ev_call (t := 187) (as := [.inr (.inr (some 73))]) (rest := [.inr (.inr (some 73))]) rfl rfl rfl (by omega) (R_new_n74_e (by omega)  M3 _ hv) ?_
  refine ev_k (pc' := 18) (ls' := [(0, .inr (.inr (some 999))), (1, .inr (.inr (some 0))), (2, .inr (.inr (some 73))), (3, .inl (0))]) (st' := []) (nc' := 126) (np' := 138) (M' := M4) 3 rfl ?_
  exact BlazedPathLaw_law_999_n0_18_t hd     am_big (0) M4 r h
