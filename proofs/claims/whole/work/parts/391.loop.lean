-- the law's loop: every call is answered alike
def ST (n : Nat) (M : am_M) : Prop := IV n M ∧ BR M
theorem IV.mo {n : Nat} {M : am_M} (h : IV n M) : IV (n + 1) M := by
  obtain ⟨F, g, t, u, hW, hC, hR⟩ := h
  exact ⟨F, g, t, u, hW, hC.cg (fun _ _ => rfl) (by omega), hR⟩
theorem ST.mo {n : Nat} {M : am_M} (h : ST n M) : ST (n + 1) M := ⟨h.1.mo, h.2⟩
theorem BR.ch {lp lr : List Nat} {M N O : am_M} (h : BR M) (a : Ch lp M N) (b : Ch lr N O) (h1 : 74 ∉ lp) (h2 : 74 ∉ lr) : BR O := fun i hi => by
  rw [b 74 h2, a 74 h1]
  exact h i hi
theorem i8_b {v : Int} : -128 ≤ (Int32.ofInt v).toInt8.toInt32.toInt ∧ (Int32.ofInt v).toInt8.toInt32.toInt ≤ 127 := by
  rw [Int8.toInt_toInt32, Int32.toInt_toInt8, Int32.toInt_ofInt, Int32.size, Int.bmod_def, Int.bmod_def]
  repeat' split
  all_goals omega
theorem push_B : ∀ (n : Nat) (x s : Int) (M N : am_M), R_push_3 n x s M = some N → BR M → BR N
  | 0, x, s, M, N, h, _ => by cases h
  | n + 1, x, s, M, N, h, hB => by
    rw [R_push_3] at h
    obtain ⟨hR, ⟨hc, h⟩ | ⟨hc, h⟩⟩ := c_lt_i h
    · cases h
      exact hB
    · obtain ⟨hw, M1, e1, h⟩ := w8_i h
      obtain ⟨M2, e2, h⟩ := fw_i h
      refine push_B n _ _ M2 N h (fun i hi => ?_)
      rw [e2, upo (by decide), e1, up_s]
      split
      · exact i8_b
      · exact hB i hi
theorem feed_B {a b c d e : Int} {M : am_M} {r : Int × am_M} (h : R_feed a b c d e M = some r) (hB : BR M) : BR r.2 := by
  unfold R_feed at h
  obtain ⟨hR, ⟨hc, h⟩ | ⟨hc, h⟩⟩ := c_le_i h
  · obtain ⟨M1, h1, h⟩ := ob_i h
    obtain ⟨M2, h2, h⟩ := ob_i h
    obtain ⟨M3, h3, h⟩ := ob_i h
    obtain ⟨M4, h4, h⟩ := ob_i h
    obtain ⟨M5, h5, h⟩ := ob_i h
    cases h
    exact push_B _ _ _ _ _ h5 (push_B _ _ _ _ _ h4 (push_B _ _ _ _ _ h3 (push_B _ _ _ _ _ h2 (push_B _ _ _ _ _ h1 hB))))
  · cases h
    exact hB
theorem lb_feed {L : Nat} {xs : Nat → Int} {k18 : Int → am_M → Option (Int × am_M)} {x3 : Int} {n : Nat} {M : am_M} (hL : 0 ≤ x3 ∧ x3 + 6 ≤ L) (hx : ∀ j, am_R (xs j)) (h : ST n M) : ∃ N, ST (n + 1) N ∧ BlazedPathLaw_law_999_n0_168 L xs k18 x3 M = k18 (x3 + 6) N := by
  obtain ⟨v, M1, M2, e1, e2, hv, h2⟩ := (P_feed_ok (hx _) (hx _) (hx _) (hx _) (hx _) : OK2 n (P_feed (xs (x3 + 1).toNat) (xs (x3 + 2).toNat) (xs (x3 + 3).toNat) (xs (x3 + 4).toNat) (xs (x3 + 5).toNat)) (R_feed (xs (x3 + 1).toNat) (xs (x3 + 2).toNat) (xs (x3 + 3).toNat) (xs (x3 + 4).toNat) (xs (x3 + 5).toNat))) M h.1
  refine ⟨M2, ⟨h2, feed_B e2 (fun i hi => by rw [show M1 74 = M 74 from P_feed_c _ _ _ _ _ M _ e1 74 (by decide)]; exact h.2 i hi)⟩, ?_⟩
  unfold BlazedPathLaw_law_999_n0_168 BlazedPathLaw_law_999_n0_1039
  rw [ck_p (by omega), tw_p, ck_p (by omega), tw_p, ck_p (by omega), tw_p, ck_p (by omega), tw_p, ck_p (by omega), tw_p, e1, oc_s, ck_p (by omega), tw_p, ck_p (by omega), tw_p, ck_p (by omega), tw_p, ck_p (by omega), tw_p, ck_p (by omega), tw_p, e2, oc_s, c_eq_p hv hv, if_pos rfl]
theorem lb_forest {L : Nat} {xs : Nat → Int} {k18 : Int → am_M → Option (Int × am_M)} {x3 : Int} {n : Nat} {M : am_M} (hL : 0 ≤ x3 ∧ x3 + 6 ≤ L) (hx : ∀ j, am_R (xs j)) (h : ST n M) : ∃ N, ST (n + 1) N ∧ BlazedPathLaw_law_999_n0_231 L xs k18 x3 M = k18 (x3 + 6) N := by
  obtain ⟨v, M1, M2, e1, e2, hv, h2⟩ := (P_forest_ok (hx _) : OK2 n (P_forest (xs (x3 + 1).toNat)) (R_forest (xs (x3 + 1).toNat))) M h.1
  refine ⟨M2, ⟨h2, h.2.ch (P_forest_c _ M _ e1) (R_forest_c _ M1 _ e2) (by decide) (by decide)⟩, ?_⟩
  unfold BlazedPathLaw_law_999_n0_231 BlazedPathLaw_law_999_n0_1039
  rw [ck_p (by omega), tw_p, e1, oc_s, ck_p (by omega), tw_p, e2, oc_s, c_eq_p hv hv, if_pos rfl]
theorem lb_law {L : Nat} {xs : Nat → Int} {k18 : Int → am_M → Option (Int × am_M)} {x3 : Int} {n : Nat} {M : am_M} (hL : 0 ≤ x3 ∧ x3 + 6 ≤ L) (hx : ∀ j, am_R (xs j)) (h : ST n M) : ∃ N, ST (n + 1) N ∧ BlazedPathLaw_law_999_n0_254 L xs k18 x3 M = k18 (x3 + 6) N := by
  obtain ⟨v, M1, M2, e1, e2, hv, h2⟩ := (P_law_ok (hx _) : OK2 n (P_law (xs (x3 + 1).toNat)) (R_lawm (xs (x3 + 1).toNat))) M h.1
  refine ⟨M2, ⟨h2, h.2.ch (P_law_c _ M _ e1) (R_lawm_c _ M1 _ e2) (by decide) (by decide)⟩, ?_⟩
  unfold BlazedPathLaw_law_999_n0_254 BlazedPathLaw_law_999_n0_1039
  rw [ck_p (by omega), tw_p, e1, oc_s, ck_p (by omega), tw_p, e2, oc_s, c_eq_p hv hv, if_pos rfl]
theorem lb_start {L : Nat} {xs : Nat → Int} {k18 : Int → am_M → Option (Int × am_M)} {x3 : Int} {n : Nat} {M : am_M} (hL : 0 ≤ x3 ∧ x3 + 6 ≤ L) (hx : ∀ j, am_R (xs j)) (h : ST n M) : ∃ N, ST (n + 1) N ∧ BlazedPathLaw_law_999_n0_277 L xs k18 x3 M = k18 (x3 + 6) N := by
  obtain ⟨v, M1, M2, e1, e2, hv, h2⟩ := (P_start_ok (hx _) : OK2 n (P_start (xs (x3 + 1).toNat)) (R_start (xs (x3 + 1).toNat))) M h.1
  refine ⟨M2, ⟨h2, h.2.ch (P_start_c _ M _ e1) (R_start_c _ M1 _ e2) (by decide) (by decide)⟩, ?_⟩
  unfold BlazedPathLaw_law_999_n0_277 BlazedPathLaw_law_999_n0_1039
  rw [ck_p (by omega), tw_p, e1, oc_s, ck_p (by omega), tw_p, e2, oc_s, c_eq_p hv hv, if_pos rfl]
theorem lb_person {L : Nat} {xs : Nat → Int} {k18 : Int → am_M → Option (Int × am_M)} {x3 : Int} {n : Nat} {M : am_M} (hL : 0 ≤ x3 ∧ x3 + 6 ≤ L) (hx : ∀ j, am_R (xs j)) (h : ST n M) : ∃ N, ST (n + 1) N ∧ BlazedPathLaw_law_999_n0_300 L xs k18 x3 M = k18 (x3 + 6) N := by
  obtain ⟨v, M1, M2, e1, e2, hv, h2⟩ := (P_person_ok (hx _) (hx _) : OK2 n (P_person (xs (x3 + 1).toNat) (xs (x3 + 2).toNat)) (R_person (xs (x3 + 1).toNat) (xs (x3 + 2).toNat))) M h.1
  refine ⟨M2, ⟨h2, h.2.ch (P_person_c _ _ M _ e1) (R_person_c _ _ M1 _ e2) (by decide) (by decide)⟩, ?_⟩
  unfold BlazedPathLaw_law_999_n0_300 BlazedPathLaw_law_999_n0_1039
  rw [ck_p (by omega), tw_p, ck_p (by omega), tw_p, e1, oc_s, ck_p (by omega), tw_p, ck_p (by omega), tw_p, e2, oc_s, c_eq_p hv hv, if_pos rfl]
theorem lb_ahead {L : Nat} {xs : Nat → Int} {k18 : Int → am_M → Option (Int × am_M)} {x3 : Int} {n : Nat} {M : am_M} (hL : 0 ≤ x3 ∧ x3 + 6 ≤ L) (hx : ∀ j, am_R (xs j)) (h : ST n M) : ∃ N, ST (n + 1) N ∧ BlazedPathLaw_law_999_n0_333 L xs k18 x3 M = k18 (x3 + 6) N := by
  obtain ⟨v, M1, M2, e1, e2, hv, h2⟩ := (P_ahead_ok (hx _) : OK2 n (P_ahead (xs (x3 + 1).toNat)) (R_ahead (xs (x3 + 1).toNat))) M h.1
  refine ⟨M2, ⟨h2, h.2.ch (P_ahead_c _ M _ e1) (R_ahead_c _ M1 _ e2) (by decide) (by decide)⟩, ?_⟩
  unfold BlazedPathLaw_law_999_n0_333 BlazedPathLaw_law_999_n0_1039
  rw [ck_p (by omega), tw_p, e1, oc_s, ck_p (by omega), tw_p, e2, oc_s, c_eq_p hv hv, if_pos rfl]
theorem lb_width {L : Nat} {xs : Nat → Int} {k18 : Int → am_M → Option (Int × am_M)} {x3 : Int} {n : Nat} {M : am_M} (hL : 0 ≤ x3 ∧ x3 + 6 ≤ L) (hx : ∀ j, am_R (xs j)) (h : ST n M) : ∃ N, ST (n + 1) N ∧ BlazedPathLaw_law_999_n0_356 L xs k18 x3 M = k18 (x3 + 6) N := by
  obtain ⟨v, M1, M2, e1, e2, hv, h2⟩ := (P_width_ok (hx _) : OK2 n (P_width (xs (x3 + 1).toNat)) (R_width (xs (x3 + 1).toNat))) M h.1
  refine ⟨M2, ⟨h2, h.2.ch (P_width_c _ M _ e1) (R_width_c _ M1 _ e2) (by decide) (by decide)⟩, ?_⟩
  unfold BlazedPathLaw_law_999_n0_356 BlazedPathLaw_law_999_n0_1039
  rw [ck_p (by omega), tw_p, e1, oc_s, ck_p (by omega), tw_p, e2, oc_s, c_eq_p hv hv, if_pos rfl]
theorem lb_light {L : Nat} {xs : Nat → Int} {k18 : Int → am_M → Option (Int × am_M)} {x3 : Int} {n : Nat} {M : am_M} (hL : 0 ≤ x3 ∧ x3 + 6 ≤ L) (hx : ∀ j, am_R (xs j)) (h : ST n M) : ∃ N, ST (n + 1) N ∧ BlazedPathLaw_law_999_n0_379 L xs k18 x3 M = k18 (x3 + 6) N := by
  obtain ⟨v, M1, M2, e1, e2, hv, h2⟩ := (P_light_ok (hx _) : OK2 n (P_light (xs (x3 + 1).toNat)) (R_light (xs (x3 + 1).toNat))) M h.1
  refine ⟨M2, ⟨h2, h.2.ch (P_light_c _ M _ e1) (R_light_c _ M1 _ e2) (by decide) (by decide)⟩, ?_⟩
  unfold BlazedPathLaw_law_999_n0_379 BlazedPathLaw_law_999_n0_1039
  rw [ck_p (by omega), tw_p, e1, oc_s, ck_p (by omega), tw_p, e2, oc_s, c_eq_p hv hv, if_pos rfl]
theorem lb_orders {L : Nat} {xs : Nat → Int} {k18 : Int → am_M → Option (Int × am_M)} {x3 : Int} {n : Nat} {M : am_M} (hL : 0 ≤ x3 ∧ x3 + 6 ≤ L) (hx : ∀ j, am_R (xs j)) (h : ST n M) : ∃ N, ST (n + 1) N ∧ BlazedPathLaw_law_999_n0_402 L xs k18 x3 M = k18 (x3 + 6) N := by
  obtain ⟨v, M1, M2, e1, e2, hv, h2⟩ := (P_orders_ok (hx _) : OKb n (P_orders (xs (x3 + 1).toNat)) (R_orders (xs (x3 + 1).toNat))) M h.1 h.2
  refine ⟨M2, ⟨h2, h.2.ch (P_orders_c _ M _ e1) (R_orders_c _ M1 _ e2) (by decide) (by decide)⟩, ?_⟩
  unfold BlazedPathLaw_law_999_n0_402 BlazedPathLaw_law_999_n0_1039
  rw [ck_p (by omega), tw_p, e1, oc_s, ck_p (by omega), tw_p, e2, oc_s, c_eq_p hv hv, if_pos rfl]
theorem lb_tried {L : Nat} {xs : Nat → Int} {k18 : Int → am_M → Option (Int × am_M)} {x3 : Int} {n : Nat} {M : am_M} (hL : 0 ≤ x3 ∧ x3 + 6 ≤ L) (hx : ∀ j, am_R (xs j)) (h : ST n M) : ∃ N, ST (n + 1) N ∧ BlazedPathLaw_law_999_n0_425 L xs k18 x3 M = k18 (x3 + 6) N := by
  obtain ⟨v, M1, M2, e1, e2, hv, h2⟩ := (P_tried_ok (hx _) (hx _) : OKb n (P_tried (xs (x3 + 1).toNat) (xs (x3 + 2).toNat)) (R_tried (xs (x3 + 1).toNat) (xs (x3 + 2).toNat))) M h.1 h.2
  refine ⟨M2, ⟨h2, h.2.ch (P_tried_c _ _ M _ e1) (R_tried_c _ _ M1 _ e2) (by decide) (by decide)⟩, ?_⟩
  unfold BlazedPathLaw_law_999_n0_425 BlazedPathLaw_law_999_n0_1039
  rw [ck_p (by omega), tw_p, ck_p (by omega), tw_p, e1, oc_s, ck_p (by omega), tw_p, ck_p (by omega), tw_p, e2, oc_s, c_eq_p hv hv, if_pos rfl]
theorem lb_days {L : Nat} {xs : Nat → Int} {k18 : Int → am_M → Option (Int × am_M)} {x3 : Int} {n : Nat} {M : am_M} (hL : 0 ≤ x3 ∧ x3 + 6 ≤ L) (hx : ∀ j, am_R (xs j)) (h : ST n M) (hn : n ≤ 600) : ∃ N, ST (n + 1) N ∧ BlazedPathLaw_law_999_n0_458 L xs k18 x3 M = k18 (x3 + 6) N := by
  obtain ⟨v, M1, M2, e1, e2, hv, h2⟩ := (P_days_ok hn (hx _) : OK2 n (P_days (xs (x3 + 1).toNat)) (R_days (xs (x3 + 1).toNat))) M h.1
  refine ⟨M2, ⟨h2, h.2.ch (P_days_c _ M _ e1) (R_days_c _ M1 _ e2) (by decide) (by decide)⟩, ?_⟩
  unfold BlazedPathLaw_law_999_n0_458 BlazedPathLaw_law_999_n0_1039
  rw [ck_p (by omega), tw_p, e1, oc_s, ck_p (by omega), tw_p, e2, oc_s, c_eq_p hv hv, if_pos rfl]
theorem lb_back {L : Nat} {xs : Nat → Int} {k18 : Int → am_M → Option (Int × am_M)} {x3 : Int} {n : Nat} {M : am_M} (hL : 0 ≤ x3 ∧ x3 + 6 ≤ L) (hx : ∀ j, am_R (xs j)) (h : ST n M) : ∃ N, ST (n + 1) N ∧ BlazedPathLaw_law_999_n0_481 L xs k18 x3 M = k18 (x3 + 6) N := by
  obtain ⟨v, M1, M2, e1, e2, hv, h2⟩ := (P_back_ok (hx _) : OK2 n (P_back (xs (x3 + 1).toNat)) (R_back (xs (x3 + 1).toNat))) M h.1
  refine ⟨M2, ⟨h2, h.2.ch (P_back_c _ M _ e1) (R_back_c _ M1 _ e2) (by decide) (by decide)⟩, ?_⟩
  unfold BlazedPathLaw_law_999_n0_481 BlazedPathLaw_law_999_n0_1039
  rw [ck_p (by omega), tw_p, e1, oc_s, ck_p (by omega), tw_p, e2, oc_s, c_eq_p hv hv, if_pos rfl]
theorem lb_safe {L : Nat} {xs : Nat → Int} {k18 : Int → am_M → Option (Int × am_M)} {x3 : Int} {n : Nat} {M : am_M} (hL : 0 ≤ x3 ∧ x3 + 6 ≤ L) (hx : ∀ j, am_R (xs j)) (h : ST n M) : ∃ N, ST (n + 1) N ∧ BlazedPathLaw_law_999_n0_504 L xs k18 x3 M = k18 (x3 + 6) N := by
  obtain ⟨v, M1, M2, e1, e2, hv, h2⟩ := (P_safe_ok (hx _) : OK6 n (P_safe (xs (x3 + 1).toNat)) (R_safe (xs (x3 + 1).toNat))) M h.1
  refine ⟨M2, ⟨h2, h.2.ch (P_safe_c _ M _ e1) (R_safe_c _ M1 _ e2) (by decide) (by decide)⟩, ?_⟩
  unfold BlazedPathLaw_law_999_n0_504 BlazedPathLaw_law_999_n0_1039
  rw [ck_p (by omega), tw_p, e1, oc_s, ck_p (by omega), tw_p, e2, oc_s, ck_p ⟨hv, hv⟩, tw_p, if_neg (by omega), if_pos rfl, c_eq_p (by decide) (by decide), if_pos rfl]
theorem lb_home {L : Nat} {xs : Nat → Int} {k18 : Int → am_M → Option (Int × am_M)} {x3 : Int} {n : Nat} {M : am_M} (hL : 0 ≤ x3 ∧ x3 + 6 ≤ L) (hx : ∀ j, am_R (xs j)) (h : ST n M) : ∃ N, ST (n + 1) N ∧ BlazedPathLaw_law_999_n0_528 L xs k18 x3 M = k18 (x3 + 6) N := by
  obtain ⟨v, M1, M2, e1, e2, hv, h2⟩ := (P_home_ok : OK2 n (P_home) (R_home)) M h.1
  refine ⟨M2, ⟨h2, h.2.ch (P_home_c M _ e1) (R_home_c M1 _ e2) (by decide) (by decide)⟩, ?_⟩
  unfold BlazedPathLaw_law_999_n0_528 BlazedPathLaw_law_999_n0_1039
  rw [e1, oc_s, e2, oc_s, c_eq_p hv hv, if_pos rfl]
theorem lb_path {L : Nat} {xs : Nat → Int} {k18 : Int → am_M → Option (Int × am_M)} {x3 : Int} {n : Nat} {M : am_M} (hL : 0 ≤ x3 ∧ x3 + 6 ≤ L) (hx : ∀ j, am_R (xs j)) (h : ST n M) : ∃ N, ST (n + 1) N ∧ BlazedPathLaw_law_999_n0_541 L xs k18 x3 M = k18 (x3 + 6) N := by
  obtain ⟨v, e1, e2, hv⟩ := (P_path_ok (hx _) (hx _) : OK1 n (P_path (xs (x3 + 1).toNat) (xs (x3 + 2).toNat)) (R_path (xs (x3 + 1).toNat) (xs (x3 + 2).toNat))) M h.1
  refine ⟨M, h.mo, ?_⟩
  unfold BlazedPathLaw_law_999_n0_541 BlazedPathLaw_law_999_n0_1039
  rw [ck_p (by omega), tw_p, ck_p (by omega), tw_p, e1, ob_s, ck_p (by omega), tw_p, ck_p (by omega), tw_p, e2, ob_s, c_eq_p hv hv, if_pos rfl]
theorem lb_turn {L : Nat} {xs : Nat → Int} {k18 : Int → am_M → Option (Int × am_M)} {x3 : Int} {n : Nat} {M : am_M} (hL : 0 ≤ x3 ∧ x3 + 6 ≤ L) (hx : ∀ j, am_R (xs j)) (h : ST n M) : ∃ N, ST (n + 1) N ∧ BlazedPathLaw_law_999_n0_574 L xs k18 x3 M = k18 (x3 + 6) N := by
  obtain ⟨v, M1, M2, e1, e2, hv, h2⟩ := (P_turn_ok (hx _) (hx _) : OKb n (P_turn (xs (x3 + 1).toNat) (xs (x3 + 2).toNat)) (R_turn (xs (x3 + 1).toNat) (xs (x3 + 2).toNat))) M h.1 h.2
  refine ⟨M2, ⟨h2, h.2.ch (P_turn_c _ _ M _ e1) (R_turn_c _ _ M1 _ e2) (by decide) (by decide)⟩, ?_⟩
  unfold BlazedPathLaw_law_999_n0_574 BlazedPathLaw_law_999_n0_1039
  rw [ck_p (by omega), tw_p, ck_p (by omega), tw_p, e1, oc_s, ck_p (by omega), tw_p, ck_p (by omega), tw_p, e2, oc_s, c_eq_p hv hv, if_pos rfl]
theorem lb_soonest {L : Nat} {xs : Nat → Int} {k18 : Int → am_M → Option (Int × am_M)} {x3 : Int} {n : Nat} {M : am_M} (hL : 0 ≤ x3 ∧ x3 + 6 ≤ L) (hx : ∀ j, am_R (xs j)) (h : ST n M) : ∃ N, ST (n + 1) N ∧ BlazedPathLaw_law_999_n0_607 L xs k18 x3 M = k18 (x3 + 6) N := by
  obtain ⟨v, M1, M2, e1, e2, hv, h2⟩ := (P_soonest_ok (hx _) (hx _) (hx _) : OK2 n (P_soonest (xs (x3 + 1).toNat) (xs (x3 + 2).toNat) (xs (x3 + 3).toNat)) (R_soonest (xs (x3 + 1).toNat) (xs (x3 + 2).toNat) (xs (x3 + 3).toNat))) M h.1
  refine ⟨M2, ⟨h2, h.2.ch (P_soonest_c _ _ _ M _ e1) (R_soonest_c _ _ _ M1 _ e2) (by decide) (by decide)⟩, ?_⟩
  unfold BlazedPathLaw_law_999_n0_607 BlazedPathLaw_law_999_n0_1039
  rw [ck_p (by omega), tw_p, ck_p (by omega), tw_p, ck_p (by omega), tw_p, e1, oc_s, ck_p (by omega), tw_p, ck_p (by omega), tw_p, ck_p (by omega), tw_p, e2, oc_s, c_eq_p hv hv, if_pos rfl]
theorem lb_camp {L : Nat} {xs : Nat → Int} {k18 : Int → am_M → Option (Int × am_M)} {x3 : Int} {n : Nat} {M : am_M} (hL : 0 ≤ x3 ∧ x3 + 6 ≤ L) (hx : ∀ j, am_R (xs j)) (h : ST n M) : ∃ N, ST (n + 1) N ∧ BlazedPathLaw_law_999_n0_650 L xs k18 x3 M = k18 (x3 + 6) N := by
  obtain ⟨v, M1, M2, e1, e2, hv, h2⟩ := (P_camp_ok (hx _) : OK2 n (P_camp (xs (x3 + 1).toNat)) (R_camp (xs (x3 + 1).toNat))) M h.1
  refine ⟨M2, ⟨h2, h.2.ch (P_camp_c _ M _ e1) (R_camp_c _ M1 _ e2) (by decide) (by decide)⟩, ?_⟩
  unfold BlazedPathLaw_law_999_n0_650 BlazedPathLaw_law_999_n0_1039
  rw [ck_p (by omega), tw_p, e1, oc_s, ck_p (by omega), tw_p, e2, oc_s, c_eq_p hv hv, if_pos rfl]
theorem lb_byTurns {L : Nat} {xs : Nat → Int} {k18 : Int → am_M → Option (Int × am_M)} {x3 : Int} {n : Nat} {M : am_M} (hL : 0 ≤ x3 ∧ x3 + 6 ≤ L) (hx : ∀ j, am_R (xs j)) (h : ST n M) : ∃ N, ST (n + 1) N ∧ BlazedPathLaw_law_999_n0_673 L xs k18 x3 M = k18 (x3 + 6) N := by
  obtain ⟨v, M1, M2, e1, e2, hv, h2⟩ := (P_byTurns_ok (hx _) (hx _) (hx _) : OK2 n (P_byTurns (xs (x3 + 1).toNat) (xs (x3 + 2).toNat) (xs (x3 + 3).toNat)) (R_byTurns (xs (x3 + 1).toNat) (xs (x3 + 2).toNat) (xs (x3 + 3).toNat))) M h.1
  refine ⟨M2, ⟨h2, h.2.ch (P_byTurns_c _ _ _ M _ e1) (R_byTurns_c _ _ _ M1 _ e2) (by decide) (by decide)⟩, ?_⟩
  unfold BlazedPathLaw_law_999_n0_673 BlazedPathLaw_law_999_n0_1039
  rw [ck_p (by omega), tw_p, ck_p (by omega), tw_p, ck_p (by omega), tw_p, e1, oc_s, ck_p (by omega), tw_p, ck_p (by omega), tw_p, ck_p (by omega), tw_p, e2, oc_s, c_eq_p hv hv, if_pos rfl]
theorem lb_planned {L : Nat} {xs : Nat → Int} {k18 : Int → am_M → Option (Int × am_M)} {x3 : Int} {n : Nat} {M : am_M} (hL : 0 ≤ x3 ∧ x3 + 6 ≤ L) (hx : ∀ j, am_R (xs j)) (h : ST n M) : ∃ N, ST (n + 1) N ∧ BlazedPathLaw_law_999_n0_716 L xs k18 x3 M = k18 (x3 + 6) N := by
  obtain ⟨v, M1, M2, e1, e2, hv, h2⟩ := (P_planned_ok (hx _) (hx _) (hx _) (hx _) : OK2 n (P_planned (xs (x3 + 1).toNat) (xs (x3 + 2).toNat) (xs (x3 + 3).toNat) (xs (x3 + 4).toNat)) (R_planned (xs (x3 + 1).toNat) (xs (x3 + 2).toNat) (xs (x3 + 3).toNat) (xs (x3 + 4).toNat))) M h.1
  refine ⟨M2, ⟨h2, h.2.ch (P_planned_c _ _ _ _ M _ e1) (R_planned_c _ _ _ _ M1 _ e2) (by decide) (by decide)⟩, ?_⟩
  unfold BlazedPathLaw_law_999_n0_716 BlazedPathLaw_law_999_n0_1039
  rw [ck_p (by omega), tw_p, ck_p (by omega), tw_p, ck_p (by omega), tw_p, ck_p (by omega), tw_p, e1, oc_s, ck_p (by omega), tw_p, ck_p (by omega), tw_p, ck_p (by omega), tw_p, ck_p (by omega), tw_p, e2, oc_s, c_eq_p hv hv, if_pos rfl]
theorem lb_paces {L : Nat} {xs : Nat → Int} {k18 : Int → am_M → Option (Int × am_M)} {x3 : Int} {n : Nat} {M : am_M} (hL : 0 ≤ x3 ∧ x3 + 6 ≤ L) (hx : ∀ j, am_R (xs j)) (h : ST n M) : ∃ N, ST (n + 1) N ∧ BlazedPathLaw_law_999_n0_769 L xs k18 x3 M = k18 (x3 + 6) N := by
  obtain ⟨v, M1, M2, e1, e2, hv, h2⟩ := (P_paces_ok (hx _) (hx _) (hx _) : OK2 n (P_paces (xs (x3 + 1).toNat) (xs (x3 + 2).toNat) (xs (x3 + 3).toNat)) (R_paces (xs (x3 + 1).toNat) (xs (x3 + 2).toNat) (xs (x3 + 3).toNat))) M h.1
  refine ⟨M2, ⟨h2, h.2.ch (P_paces_c _ _ _ M _ e1) (R_paces_c _ _ _ M1 _ e2) (by decide) (by decide)⟩, ?_⟩
  unfold BlazedPathLaw_law_999_n0_769 BlazedPathLaw_law_999_n0_1039
  rw [ck_p (by omega), tw_p, ck_p (by omega), tw_p, ck_p (by omega), tw_p, e1, oc_s, ck_p (by omega), tw_p, ck_p (by omega), tw_p, ck_p (by omega), tw_p, e2, oc_s, c_eq_p hv hv, if_pos rfl]
theorem lb_seek {L : Nat} {xs : Nat → Int} {k18 : Int → am_M → Option (Int × am_M)} {x3 : Int} {n : Nat} {M : am_M} (hL : 0 ≤ x3 ∧ x3 + 6 ≤ L) (hx : ∀ j, am_R (xs j)) (h : ST n M) : ∃ N, ST (n + 1) N ∧ BlazedPathLaw_law_999_n0_812 L xs k18 x3 M = k18 (x3 + 6) N := by
  obtain ⟨v, M1, M2, e1, e2, hv, h2⟩ := (P_seek_ok (hx _) (hx _) : OK2 n (P_seek (xs (x3 + 1).toNat) (xs (x3 + 2).toNat)) (R_seek (xs (x3 + 1).toNat) (xs (x3 + 2).toNat))) M h.1
  refine ⟨M2, ⟨h2, h.2.ch (P_seek_c _ _ M _ e1) (R_seek_c _ _ M1 _ e2) (by decide) (by decide)⟩, ?_⟩
  unfold BlazedPathLaw_law_999_n0_812 BlazedPathLaw_law_999_n0_1039
  rw [ck_p (by omega), tw_p, ck_p (by omega), tw_p, e1, oc_s, ck_p (by omega), tw_p, ck_p (by omega), tw_p, e2, oc_s, c_eq_p hv hv, if_pos rfl]
theorem lb_blazes {L : Nat} {xs : Nat → Int} {k18 : Int → am_M → Option (Int × am_M)} {x3 : Int} {n : Nat} {M : am_M} (hL : 0 ≤ x3 ∧ x3 + 6 ≤ L) (hx : ∀ j, am_R (xs j)) (h : ST n M) : ∃ N, ST (n + 1) N ∧ BlazedPathLaw_law_999_n0_845 L xs k18 x3 M = k18 (x3 + 6) N := by
  obtain ⟨v, M1, M2, e1, e2, hv, h2⟩ := (P_blazes_ok (hx _) (hx _) : OK2 n (P_blazes (xs (x3 + 1).toNat) (xs (x3 + 2).toNat)) (R_blazes (xs (x3 + 1).toNat) (xs (x3 + 2).toNat))) M h.1
  refine ⟨M2, ⟨h2, h.2.ch (P_blazes_c _ _ M _ e1) (R_blazes_c _ _ M1 _ e2) (by decide) (by decide)⟩, ?_⟩
  unfold BlazedPathLaw_law_999_n0_845 BlazedPathLaw_law_999_n0_1039
  rw [ck_p (by omega), tw_p, ck_p (by omega), tw_p, e1, oc_s, ck_p (by omega), tw_p, ck_p (by omega), tw_p, e2, oc_s, c_eq_p hv hv, if_pos rfl]
theorem lb_sights {L : Nat} {xs : Nat → Int} {k18 : Int → am_M → Option (Int × am_M)} {x3 : Int} {n : Nat} {M : am_M} (hL : 0 ≤ x3 ∧ x3 + 6 ≤ L) (hx : ∀ j, am_R (xs j)) (h : ST n M) : ∃ N, ST (n + 1) N ∧ BlazedPathLaw_law_999_n0_878 L xs k18 x3 M = k18 (x3 + 6) N := by
  obtain ⟨v, M1, M2, e1, e2, hv, h2⟩ := (P_sights_ok (hx _) (hx _) : OK2 n (P_sights (xs (x3 + 1).toNat) (xs (x3 + 2).toNat)) (R_sights (xs (x3 + 1).toNat) (xs (x3 + 2).toNat))) M h.1
  refine ⟨M2, ⟨h2, h.2.ch (P_sights_c _ _ M _ e1) (R_sights_c _ _ M1 _ e2) (by decide) (by decide)⟩, ?_⟩
  unfold BlazedPathLaw_law_999_n0_878 BlazedPathLaw_law_999_n0_1039
  rw [ck_p (by omega), tw_p, ck_p (by omega), tw_p, e1, oc_s, ck_p (by omega), tw_p, ck_p (by omega), tw_p, e2, oc_s, c_eq_p hv hv, if_pos rfl]
theorem lb_personIs {L : Nat} {xs : Nat → Int} {k18 : Int → am_M → Option (Int × am_M)} {x3 : Int} {n : Nat} {M : am_M} (hL : 0 ≤ x3 ∧ x3 + 6 ≤ L) (hx : ∀ j, am_R (xs j)) (h : ST n M) : ∃ N, ST (n + 1) N ∧ BlazedPathLaw_law_999_n0_911 L xs k18 x3 M = k18 (x3 + 6) N := by
  obtain ⟨v, e1, e2, hv⟩ := (P_personIs_ok (hx _) (hx _) : OK1 n (P_personIs (xs (x3 + 1).toNat) (xs (x3 + 2).toNat)) (R_personIs (xs (x3 + 1).toNat) (xs (x3 + 2).toNat))) M h.1
  refine ⟨M, h.mo, ?_⟩
  unfold BlazedPathLaw_law_999_n0_911 BlazedPathLaw_law_999_n0_1039
  rw [ck_p (by omega), tw_p, ck_p (by omega), tw_p, e1, ob_s, ck_p (by omega), tw_p, ck_p (by omega), tw_p, e2, ob_s, c_eq_p hv hv, if_pos rfl]
theorem lb_seed {L : Nat} {xs : Nat → Int} {k18 : Int → am_M → Option (Int × am_M)} {x3 : Int} {n : Nat} {M : am_M} (hL : 0 ≤ x3 ∧ x3 + 6 ≤ L) (hx : ∀ j, am_R (xs j)) (h : ST n M) : ∃ N, ST (n + 1) N ∧ BlazedPathLaw_law_999_n0_944 L xs k18 x3 M = k18 (x3 + 6) N := by
  obtain ⟨v, M1, M2, e1, e2, hv, h2⟩ := (P_seed_ok (hx _) : OK2 n (P_seed (xs (x3 + 1).toNat)) (R_seed (xs (x3 + 1).toNat))) M h.1
  refine ⟨M2, ⟨h2, h.2.ch (P_seed_c _ M _ e1) (R_seed_c _ M1 _ e2) (by decide) (by decide)⟩, ?_⟩
  unfold BlazedPathLaw_law_999_n0_944 BlazedPathLaw_law_999_n0_1039
  rw [ck_p (by omega), tw_p, e1, oc_s, ck_p (by omega), tw_p, e2, oc_s, c_eq_p hv hv, if_pos rfl]
theorem lb_keep {L : Nat} {xs : Nat → Int} {k18 : Int → am_M → Option (Int × am_M)} {x3 : Int} {n : Nat} {M : am_M} (hL : 0 ≤ x3 ∧ x3 + 6 ≤ L) (hx : ∀ j, am_R (xs j)) (h : ST n M) : ∃ N, ST (n + 1) N ∧ BlazedPathLaw_law_999_n0_967 L xs k18 x3 M = k18 (x3 + 6) N := by
  obtain ⟨v, M1, M2, e1, e2, hv, h2⟩ := (P_keep_ok : OK2 n (P_keep) (R_keep)) M h.1
  refine ⟨M2, ⟨h2, h.2.ch (P_keep_c M _ e1) (R_keep_c M1 _ e2) (by decide) (by decide)⟩, ?_⟩
  unfold BlazedPathLaw_law_999_n0_967 BlazedPathLaw_law_999_n0_1039
  rw [e1, oc_s, e2, oc_s, c_eq_p hv hv, if_pos rfl]
theorem lb_undo {L : Nat} {xs : Nat → Int} {k18 : Int → am_M → Option (Int × am_M)} {x3 : Int} {n : Nat} {M : am_M} (hL : 0 ≤ x3 ∧ x3 + 6 ≤ L) (hx : ∀ j, am_R (xs j)) (h : ST n M) : ∃ N, ST (n + 1) N ∧ BlazedPathLaw_law_999_n0_980 L xs k18 x3 M = k18 (x3 + 6) N := by
  obtain ⟨v, M1, M2, e1, e2, hv, h2⟩ := (P_undo_ok : OK2 n (P_undo) (R_undo)) M h.1
  refine ⟨M2, ⟨h2, h.2.ch (P_undo_c M _ e1) (R_undo_c M1 _ e2) (by decide) (by decide)⟩, ?_⟩
  unfold BlazedPathLaw_law_999_n0_980 BlazedPathLaw_law_999_n0_1039
  rw [e1, oc_s, e2, oc_s, c_eq_p hv hv, if_pos rfl]
theorem lb_check {L : Nat} {xs : Nat → Int} {k18 : Int → am_M → Option (Int × am_M)} {x3 : Int} {n : Nat} {M : am_M} (hL : 0 ≤ x3 ∧ x3 + 6 ≤ L) (hx : ∀ j, am_R (xs j)) (h : ST n M) : ∃ N, ST (n + 1) N ∧ BlazedPathLaw_law_999_n0_993 L xs k18 x3 M = k18 (x3 + 6) N := by
  obtain ⟨v, M1, M2, e1, e2, hv, h2⟩ := (P_check_ok (hx _) : OK2 n (P_check (xs (x3 + 1).toNat)) (R_check (xs (x3 + 1).toNat))) M h.1
  refine ⟨M2, ⟨h2, h.2.ch (P_check_c _ M _ e1) (R_check_c _ M1 _ e2) (by decide) (by decide)⟩, ?_⟩
  unfold BlazedPathLaw_law_999_n0_993 BlazedPathLaw_law_999_n0_1039
  rw [ck_p (by omega), tw_p, e1, oc_s, ck_p (by omega), tw_p, e2, oc_s, c_eq_p hv hv, if_pos rfl]
theorem lb_count {L : Nat} {xs : Nat → Int} {k18 : Int → am_M → Option (Int × am_M)} {x3 : Int} {n : Nat} {M : am_M} (hL : 0 ≤ x3 ∧ x3 + 6 ≤ L) (hx : ∀ j, am_R (xs j)) (h : ST n M) : ∃ N, ST (n + 1) N ∧ BlazedPathLaw_law_999_n0_1016 L xs k18 x3 M = k18 (x3 + 6) N := by
  obtain ⟨v, e1, e2, hv⟩ := (P_count_ok (hx _) : OK1 n (P_count (xs (x3 + 1).toNat)) (R_count (xs (x3 + 1).toNat))) M h.1
  refine ⟨M, h.mo, ?_⟩
  unfold BlazedPathLaw_law_999_n0_1016 BlazedPathLaw_law_999_n0_1039
  rw [ck_p (by omega), tw_p, e1, ob_s, ck_p (by omega), tw_p, e2, ob_s, c_eq_p hv hv, if_pos rfl]
theorem law_loop {L : Nat} {xs : Nat → Int} (hL : L ≤ 3072) (hx : ∀ j, am_R (xs j)) : ∀ (fu n : Nat) (M : am_M), 600 < fu + n → n ≤ 513 → ST n M → ∃ N, BlazedPathLaw_law_999_n0_18 L xs fu ((6 * n : Nat) : Int) M = some (1, N)
  | 0, n, M, hf, hn, h => by omega
  | fu + 1, n, M, hf, hn, h => by
    rw [BlazedPathLaw_law_999_n0_18, c_gt_p (by omega) (by omega)]
    by_cases q : (L : Int) - 6 < ((6 * n : Nat) : Int)
    · rw [if_pos q]
      exact ⟨M, rfl⟩
    · have hl : 0 ≤ ((6 * n : Nat) : Int) ∧ ((6 * n : Nat) : Int) + 6 ≤ L := by omega
      have ih : ∀ N, ST (n + 1) N → ∃ N', BlazedPathLaw_law_999_n0_18 L xs fu (((6 * n : Nat) : Int) + 6) N = some (1, N') := fun N hN => by
        have := law_loop hL hx fu (n + 1) N (by omega) (by omega) hN
        rw [show ((6 * (n + 1) : Nat) : Int) = ((6 * n : Nat) : Int) + 6 by omega] at this
        exact this
      have hgo : ∀ {r : Option (Int × am_M)}, (∃ N, ST (n + 1) N ∧ r = BlazedPathLaw_law_999_n0_18 L xs fu (((6 * n : Nat) : Int) + 6) N) → ∃ N', r = some (1, N') := fun hr => by
        obtain ⟨N, h1, h2⟩ := hr
        rw [h2]
        exact ih N h1
      rw [if_neg q, ck_p (by omega), tw_p, ck_p (b_and_R _ _)]
      generalize b_and (xs ((6 * n : Nat) : Int).toNat) 31 = w
      by_cases q0 : w = 0
      · rw [if_pos q0]
        exact hgo (lb_feed hl hx h)
      rw [if_neg q0]
      by_cases q1 : w = 1
      · rw [if_pos q1]
        exact hgo (lb_forest hl hx h)
      rw [if_neg q1]
      by_cases q2 : w = 2
      · rw [if_pos q2]
        exact hgo (lb_law hl hx h)
      rw [if_neg q2]
      by_cases q3 : w = 3
      · rw [if_pos q3]
        exact hgo (lb_start hl hx h)
      rw [if_neg q3]
      by_cases q4 : w = 4
      · rw [if_pos q4]
        exact hgo (lb_person hl hx h)
      rw [if_neg q4]
      by_cases q5 : w = 5
      · rw [if_pos q5]
        exact hgo (lb_ahead hl hx h)
      rw [if_neg q5]
      by_cases q6 : w = 6
      · rw [if_pos q6]
        exact hgo (lb_width hl hx h)
      rw [if_neg q6]
      by_cases q7 : w = 7
      · rw [if_pos q7]
        exact hgo (lb_light hl hx h)
      rw [if_neg q7]
      by_cases q8 : w = 8
      · rw [if_pos q8]
        exact hgo (lb_orders hl hx h)
      rw [if_neg q8]
      by_cases q9 : w = 9
      · rw [if_pos q9]
        exact hgo (lb_tried hl hx h)
      rw [if_neg q9]
      by_cases q10 : w = 10
      · rw [if_pos q10]
        exact hgo (lb_days hl hx h (by omega))
      rw [if_neg q10]
      by_cases q11 : w = 11
      · rw [if_pos q11]
        exact hgo (lb_back hl hx h)
      rw [if_neg q11]
      by_cases q12 : w = 12
      · rw [if_pos q12]
        exact hgo (lb_safe hl hx h)
      rw [if_neg q12]
      by_cases q13 : w = 13
      · rw [if_pos q13]
        exact hgo (lb_home hl hx h)
      rw [if_neg q13]
      by_cases q14 : w = 14
      · rw [if_pos q14]
        exact hgo (lb_path hl hx h)
      rw [if_neg q14]
      by_cases q15 : w = 15
      · rw [if_pos q15]
        exact hgo (lb_turn hl hx h)
      rw [if_neg q15]
      by_cases q16 : w = 16
      · rw [if_pos q16]
        exact hgo (lb_soonest hl hx h)
      rw [if_neg q16]
      by_cases q17 : w = 17
      · rw [if_pos q17]
        exact hgo (lb_camp hl hx h)
      rw [if_neg q17]
      by_cases q18 : w = 18
      · rw [if_pos q18]
        exact hgo (lb_byTurns hl hx h)
      rw [if_neg q18]
      by_cases q19 : w = 19
      · rw [if_pos q19]
        exact hgo (lb_planned hl hx h)
      rw [if_neg q19]
      by_cases q20 : w = 20
      · rw [if_pos q20]
        exact hgo (lb_paces hl hx h)
      rw [if_neg q20]
      by_cases q21 : w = 21
      · rw [if_pos q21]
        exact hgo (lb_seek hl hx h)
      rw [if_neg q21]
      by_cases q22 : w = 22
      · rw [if_pos q22]
        exact hgo (lb_blazes hl hx h)
      rw [if_neg q22]
      by_cases q23 : w = 23
      · rw [if_pos q23]
        exact hgo (lb_sights hl hx h)
      rw [if_neg q23]
      by_cases q24 : w = 24
      · rw [if_pos q24]
        exact hgo (lb_personIs hl hx h)
      rw [if_neg q24]
      by_cases q25 : w = 25
      · rw [if_pos q25]
        exact hgo (lb_seed hl hx h)
      rw [if_neg q25]
      by_cases q26 : w = 26
      · rw [if_pos q26]
        exact hgo (lb_keep hl hx h)
      rw [if_neg q26]
      by_cases q27 : w = 27
      · rw [if_pos q27]
        exact hgo (lb_undo hl hx h)
      rw [if_neg q27]
      by_cases q28 : w = 28
      · rw [if_pos q28]
        exact hgo (lb_check hl hx h)
      rw [if_neg q28]
      by_cases q29 : w = 29
      · rw [if_pos q29]
        exact hgo (lb_count hl hx h)
      rw [if_neg q29]
      exact hgo ⟨M, h.mo, rfl⟩
/-- the whole, of numbers -/
theorem law_num (L : Nat) (xs : Nat → Int) (hL : L ≤ 3072) (hx : ∀ j, am_R (xs j)) : ∃ M : am_M, BlazedPathLaw_law_999_n0 L xs (fun _ _ => 0) = some (1, M) := by
  obtain ⟨N, h1, h2, h3⟩ := law_new
  obtain ⟨M, h4⟩ := law_loop hL hx am_big 0 N (by show 600 < 1000000 + 0; omega) (by omega) ⟨h2, h3⟩
  exact ⟨M, by rw [h1 L xs]; exact h4⟩
theorem law_all : am_LAW := am_law_of law_num
