theorem Routes_settle_52_74_c   (k23 : Int → Int → Int → am_M → Option (am_M)) (hk23 : ∀ (x1 : Int) (x2 : Int) (x3 : Int) (M : am_M) (r : am_M), k23 x1 x2 x3 M = some r → Ch [53, 54] M r) (x1 : Int) (x2 : Int) (x3 : Int) (M : am_M) (r : am_M) (h : Routes_settle_52_74   k23 x1 x2 x3 M = some r) : Ch [53, 54] M r := by
  have hC : Ch [53, 54] M M := Ch.rf
  exact hC.tr (hk23 (x1) (x2) ((x3) + (1)) M r h) (by decide)
theorem Routes_settle_52_23_c     : ∀ (n : Nat) (x1 : Int) (x2 : Int) (x3 : Int) (M : am_M) (r : am_M), Routes_settle_52_23    n x1 x2 x3 M = some r → Ch [53, 54] M r
  | 0, _, _, _, M, r, h => by cases h
  | n + 1, x1, x2, x3, M, r, h => by
    have ih := Routes_settle_52_23_c     n
    have hC : Ch [53, 54] M M := Ch.rf
    obtain ⟨hR, ⟨hc, h⟩ | ⟨hc, h⟩⟩ := c_ge_i h
    · skip
      cases h
      exact hC
    · skip
      obtain ⟨v1, hv, h⟩ := ob_i h
      obtain ⟨v2, hv, h⟩ := ob_i h
      obtain ⟨hR, ⟨hc, h⟩ | ⟨hc, h⟩⟩ := c_eq_i h
      · skip
        exact hC.tr (Routes_settle_52_74_c   (Routes_settle_52_23    n) ih (x1) (x2) (x3) M r h) (by decide)
      · skip
        obtain ⟨v3, hv, h⟩ := ob_i h
        obtain ⟨hR, ⟨hc, h⟩ | ⟨hc, h⟩⟩ := c_ne_i h
        · skip
          exact hC.tr (Routes_settle_52_74_c   (Routes_settle_52_23    n) ih (x1) (x2) (x3) M r h) (by decide)
        · skip
          obtain ⟨hc, v4, ev, h⟩ := rd_i h
          obtain ⟨hR, ⟨hc, h⟩ | ⟨hc, h⟩⟩ := c_ge_i h
          · skip
            exact hC.tr (Routes_settle_52_74_c   (Routes_settle_52_23    n) ih (x1) (x2) (x3) M r h) (by decide)
          · skip
            obtain ⟨hc, M5, eM, h⟩ := wa_i h
            have hC := hC.up (by decide) eM
            exact hC.tr (Routes_settle_52_74_c   (Routes_settle_52_23    n) ih (x1) (x2) (x3) M5 r h) (by decide)
theorem Routes_settle_52_c     (x1 : Int) (M : am_M) (r : am_M) (h : Routes_settle_52    x1 M = some r) : Ch [53, 54] M r := by
  have hC : Ch [53, 54] M M := Ch.rf
  obtain ⟨v1, hv, h⟩ := ob_i h
  obtain ⟨hR, ⟨hc, h⟩ | ⟨hc, h⟩⟩ := c_ne_i h
  · skip
    obtain ⟨⟨hc, hv⟩, M2, eM, h⟩ := wz_i h
    have hC := hC.up (by decide) eM
    obtain ⟨v3, hv, h⟩ := ob_i h
    exact hC.tr (Routes_settle_52_23_c     am_big (x1) (v3) (0) M2 r h) (by decide)
  · skip
    cases h
    exact hC
theorem Routes_measureTo_52_47_c     : ∀ (n : Nat) (x2 : Int) (M : am_M) (r : am_M), Routes_measureTo_52_47    n x2 M = some r → Ch [53, 54] M r
  | 0, _, M, r, h => by cases h
  | n + 1, x2, M, r, h => by
    have ih := Routes_measureTo_52_47_c     n
    have hC : Ch [53, 54] M M := Ch.rf
    obtain ⟨hR, ⟨hc, h⟩ | ⟨hc, h⟩⟩ := c_ge_i h
    · skip
      cases h
      exact hC
    · skip
      obtain ⟨v1, hv, h⟩ := ob_i h
      obtain ⟨hR, ⟨hc, h⟩ | ⟨hc, h⟩⟩ := c_ge_i h
      · skip
        obtain ⟨M2, hv, h⟩ := ob_i h
        have hC := hC.tr (Routes_settle_52_c (v1) M _ hv) (by decide)
        exact hC.tr (ih ((x2) + (1)) M2 r h) (by decide)
      · skip
        cases h
        exact hC
theorem Routes_measureTo_52_45_c      (M : am_M) (r : am_M) (h : Routes_measureTo_52_45     M = some r) : Ch [53, 54] M r := by
  have hC : Ch [53, 54] M M := Ch.rf
  exact hC.tr (Routes_measureTo_52_47_c     am_big (0) M r h) (by decide)
theorem Routes_measureTo_52_11_c     : ∀ (n : Nat) (x1 : Int) (x2 : Int) (M : am_M) (r : am_M), Routes_measureTo_52_11    n x1 x2 M = some r → Ch [53, 54] M r
  | 0, _, _, M, r, h => by cases h
  | n + 1, x1, x2, M, r, h => by
    have ih := Routes_measureTo_52_11_c     n
    have hC : Ch [53, 54] M M := Ch.rf
    obtain ⟨hR, ⟨hc, h⟩ | ⟨hc, h⟩⟩ := c_ge_i h
    · skip
      obtain ⟨v1, hv, h⟩ := ob_i h
      obtain ⟨hR, ⟨hc, h⟩ | ⟨hc, h⟩⟩ := c_eq_i h
      · skip
        exact hC.tr (Routes_measureTo_52_45_c      M r h) (by decide)
      · skip
        obtain ⟨hc, M2, eM, h⟩ := wa_i h
        have hC := hC.up (by decide) eM
        exact hC.tr (Routes_measureTo_52_45_c      M2 r h) (by decide)
    · skip
      obtain ⟨⟨hc, hv⟩, M3, eM, h⟩ := wz_i h
      have hC := hC.up (by decide) eM
      exact hC.tr (ih (x1) ((x2) + (1)) M3 r h) (by decide)
theorem Routes_measureTo_52_c     (x1 : Int) (M : am_M) (r : am_M) (h : Routes_measureTo_52    x1 M = some r) : Ch [53, 54] M r := by
  have hC : Ch [53, 54] M M := Ch.rf
  obtain ⟨M1, hv, h⟩ := ob_i h
  have hC := hC.tr (J_fill_53_c (1000000000) M _ hv) (by decide)
  exact hC.tr (Routes_measureTo_52_11_c     am_big (x1) (0) M1 r h) (by decide)
theorem Routes_findSoonest_52_26_9_c     : ∀ (n : Nat) (x2 : Int) (x3 : Int) (x4 : Int) (x5 : Int) (x6 : Int) (M : am_M) (r : Int × am_M), Routes_findSoonest_52_26_9    n x2 x3 x4 x5 x6 M = some r → Ch [12, 13, 53, 54, 56] M r.2
  | 0, _, _, _, _, _, M, r, h => by cases h
  | n + 1, x2, x3, x4, x5, x6, M, r, h => by
    have ih := Routes_findSoonest_52_26_9_c     n
    have hC : Ch [12, 13, 53, 54, 56] M M := Ch.rf
    obtain ⟨hR, ⟨hc, h⟩ | ⟨hc, h⟩⟩ := c_ge_i h
    · skip
      obtain ⟨M1, hv, h⟩ := ob_i h
      have hC := hC.tr (Routes_measureTo_52_c (x3) M _ hv) (by decide)
      obtain ⟨v2, hv, h⟩ := ob_i h
      obtain ⟨hR, ⟨hc, h⟩ | ⟨hc, h⟩⟩ := c_ne_i h
      · skip
        obtain ⟨hR, h⟩ := ck_i h
        rcases if_i h with ⟨hq, h⟩ | ⟨hq0, h⟩
        · skip
          obtain ⟨hc, h⟩ := ck_i h
          obtain ⟨v3, ev, h⟩ := tw_i h
          cases h
          exact hC
        · skip
          rcases if_i h with ⟨hq, h⟩ | ⟨hq1, h⟩
          · skip
            obtain ⟨hc, h⟩ := ck_i h
            obtain ⟨v4, ev, h⟩ := tw_i h
            cases h
            exact hC
          · skip
            · skip
              obtain ⟨v5, hv, h⟩ := ob_i h
              cases h
              exact hC
      · skip
        cases h
        exact hC
    · skip
      obtain ⟨v6, hv, h⟩ := ob_i h
      obtain ⟨v7, hv, h⟩ := ob_i h
      obtain ⟨v8, M9, hv, h⟩ := oc_i h
      have hC := hC.tr (Law_cutting_5_c (x6) (M 1 3) (v6) (v7) (M 26 13) M _ hv) (by decide)
      obtain ⟨hc, M10, eM, h⟩ := wa_i h
      have hC := hC.up (by decide) eM
      exact hC.tr (ih (x2) (x3) (x4) (x5) ((x6) + (1)) M10 r h) (by decide)
theorem Routes_findSoonest_52_26_c     (x2 : Int) (x3 : Int) (x4 : Int) (M : am_M) (r : Int × am_M) (h : Routes_findSoonest_52_26    x2 x3 x4 M = some r) : Ch [12, 13, 53, 54, 56] M r.2 := by
  have hC : Ch [12, 13, 53, 54, 56] M M := Ch.rf
  exact hC.tr (Routes_findSoonest_52_26_9_c     am_big (x2) (x3) (x4) (M 26 9) (0) M r h) (by decide)
theorem P_soonest_48_c      (M : am_M) (r : Int × am_M) (h : P_soonest_48     M = some r) : Ch [12, 13, 53, 54, 56] M r.2 := by
  have hC : Ch [12, 13, 53, 54, 56] M M := Ch.rf
  cases h
  exact hC
theorem P_soonest_66_c     (s0 : Int) (M : am_M) (r : Int × am_M) (h : P_soonest_66    s0 M = some r) : Ch [12, 13, 53, 54, 56] M r.2 := by
  have hC : Ch [12, 13, 53, 54, 56] M M := Ch.rf
  cases h
  exact hC
theorem P_soonest_c     (x1 : Int) (x2 : Int) (x3 : Int) (M : am_M) (r : Int × am_M) (h : P_soonest    x1 x2 x3 M = some r) : Ch [12, 13, 53, 54, 56] M r.2 := by
  have hC : Ch [12, 13, 53, 54, 56] M M := Ch.rf
  obtain ⟨hR, ⟨hc, h⟩ | ⟨hc, h⟩⟩ := c_lt_i h
  · skip
    exact hC.tr (P_soonest_48_c      M r h) (by decide)
  · skip
    obtain ⟨hR, ⟨hc, h⟩ | ⟨hc, h⟩⟩ := c_gt_i h
    · skip
      exact hC.tr (P_soonest_48_c      M r h) (by decide)
    · skip
      obtain ⟨v1, hv, h⟩ := ob_i h
      obtain ⟨hR, ⟨hc, h⟩ | ⟨hc, h⟩⟩ := c_ne_i h
      · skip
        exact hC.tr (P_soonest_48_c      M r h) (by decide)
      · skip
        obtain ⟨v2, hv, h⟩ := ob_i h
        obtain ⟨hR, ⟨hc, h⟩ | ⟨hc, h⟩⟩ := c_ne_i h
        · skip
          exact hC.tr (P_soonest_48_c      M r h) (by decide)
        · skip
          obtain ⟨v3, hv, h⟩ := ob_i h
          obtain ⟨hR, ⟨hc, h⟩ | ⟨hc, h⟩⟩ := c_ne_i h
          · skip
            obtain ⟨hR, ⟨hc, h⟩ | ⟨hc, h⟩⟩ := c_ne_i h
            · skip
              obtain ⟨v4, M5, hv, h⟩ := oc_i h
              have hC := hC.tr (Routes_findSoonest_52_26_c (x1) (x2) (x3) M _ hv) (by decide)
              cases h
              exact hC
            · skip
              obtain ⟨hR, ⟨hc, h⟩ | ⟨hc, h⟩⟩ := c_ne_i h
              · skip
                exact hC.tr (P_soonest_66_c     (0) M r h) (by decide)
              · skip
                exact hC.tr (P_soonest_66_c     (-2) M r h) (by decide)
          · skip
            exact hC.tr (P_soonest_48_c      M r h) (by decide)
theorem Routes_countSteps_52_139_c   (k36 : Int → Int → am_M → Option (am_M)) (k59 : Int → Int → Int → Int → am_M → Option (am_M)) (hk36 : ∀ (x2 : Int) (x3 : Int) (M : am_M) (r : am_M), k36 x2 x3 M = some r → Ch [53, 55] M r) (hk59 : ∀ (x2 : Int) (x3 : Int) (x4 : Int) (x5 : Int) (M : am_M) (r : am_M), k59 x2 x3 x4 x5 M = some r → Ch [53, 55] M r) (x2 : Int) (x3 : Int) (x4 : Int) (x5 : Int) (M : am_M) (r : am_M) (h : Routes_countSteps_52_139   k36 k59 x2 x3 x4 x5 M = some r) : Ch [53, 55] M r := by
  have hC : Ch [53, 55] M M := Ch.rf
  exact hC.tr (hk59 (x2) (x3) (x4) ((x5) + (1)) M r h) (by decide)
theorem Routes_countSteps_52_59_c   (k36 : Int → Int → am_M → Option (am_M)) (hk36 : ∀ (x2 : Int) (x3 : Int) (M : am_M) (r : am_M), k36 x2 x3 M = some r → Ch [53, 55] M r) : ∀ (n : Nat) (x2 : Int) (x3 : Int) (x4 : Int) (x5 : Int) (M : am_M) (r : am_M), Routes_countSteps_52_59   k36 n x2 x3 x4 x5 M = some r → Ch [53, 55] M r
  | 0, _, _, _, _, M, r, h => by cases h
  | n + 1, x2, x3, x4, x5, M, r, h => by
    have ih := Routes_countSteps_52_59_c   k36 hk36 n
    have hC : Ch [53, 55] M M := Ch.rf
    obtain ⟨hR, ⟨hc, h⟩ | ⟨hc, h⟩⟩ := c_ge_i h
    · skip
      exact hC.tr (hk36 (x2) ((x3) + (1)) M r h) (by decide)
    · skip
      obtain ⟨v1, hv, h⟩ := ob_i h
      obtain ⟨v2, hv, h⟩ := ob_i h
      obtain ⟨hR, ⟨hc, h⟩ | ⟨hc, h⟩⟩ := c_eq_i h
      · skip
        exact hC.tr (Routes_countSteps_52_139_c   k36 (Routes_countSteps_52_59   k36 n) hk36 ih (x2) (x3) (x4) (x5) M r h) (by decide)
      · skip
        obtain ⟨v3, hv, h⟩ := ob_i h
        obtain ⟨hR, ⟨hc, h⟩ | ⟨hc, h⟩⟩ := c_ne_i h
        · skip
          exact hC.tr (Routes_countSteps_52_139_c   k36 (Routes_countSteps_52_59   k36 n) hk36 ih (x2) (x3) (x4) (x5) M r h) (by decide)
        · skip
          obtain ⟨hc, v4, ev, h⟩ := rd_i h
          obtain ⟨hR, ⟨hc, h⟩ | ⟨hc, h⟩⟩ := c_ne_i h
          · skip
            exact hC.tr (Routes_countSteps_52_139_c   k36 (Routes_countSteps_52_59   k36 n) hk36 ih (x2) (x3) (x4) (x5) M r h) (by decide)
          · skip
            obtain ⟨hR, ⟨hc, h⟩ | ⟨hc, h⟩⟩ := c_ge_i h
            · skip
              exact hC.tr (Routes_countSteps_52_139_c   k36 (Routes_countSteps_52_59   k36 n) hk36 ih (x2) (x3) (x4) (x5) M r h) (by decide)
            · skip
              obtain ⟨v5, hv, h⟩ := ob_i h
              obtain ⟨hc, M6, eM, h⟩ := wa_i h
              have hC := hC.up (by decide) eM
              obtain ⟨hc, M7, eM, h⟩ := wa_i h
              have hC := hC.up (by decide) eM
              exact hC.tr (Routes_countSteps_52_139_c   k36 (Routes_countSteps_52_59   k36 n) hk36 ih ((x2) + (1)) (x3) (x4) (x5) M7 r h) (by decide)
theorem Routes_countSteps_52_151_c      (M : am_M) (r : am_M) (h : Routes_countSteps_52_151     M = some r) : Ch [53, 55] M r := by
  have hC : Ch [53, 55] M M := Ch.rf
  cases h
  exact hC
theorem Routes_countSteps_52_36_c     : ∀ (n : Nat) (x2 : Int) (x3 : Int) (M : am_M) (r : am_M), Routes_countSteps_52_36    n x2 x3 M = some r → Ch [53, 55] M r
  | 0, _, _, M, r, h => by cases h
  | n + 1, x2, x3, M, r, h => by
    have ih := Routes_countSteps_52_36_c     n
    have hC : Ch [53, 55] M M := Ch.rf
    obtain ⟨hR, ⟨hc, h⟩ | ⟨hc, h⟩⟩ := c_ge_i h
    · skip
      exact hC.tr (Routes_countSteps_52_151_c      M r h) (by decide)
    · skip
      obtain ⟨hR, ⟨hc, h⟩ | ⟨hc, h⟩⟩ := c_ge_i h
      · skip
        exact hC.tr (Routes_countSteps_52_151_c      M r h) (by decide)
      · skip
        obtain ⟨hc, v1, ev, h⟩ := rd_i h
        exact hC.tr (Routes_countSteps_52_59_c   (Routes_countSteps_52_36    n) ih am_big (x2) (x3) (v1) (0) M r h) (by decide)
theorem Routes_countSteps_52_34_c     (x2 : Int) (M : am_M) (r : am_M) (h : Routes_countSteps_52_34    x2 M = some r) : Ch [53, 55] M r := by
  have hC : Ch [53, 55] M M := Ch.rf
  exact hC.tr (Routes_countSteps_52_36_c     am_big (x2) (0) M r h) (by decide)
theorem Routes_countSteps_52_c     (x1 : Int) (M : am_M) (r : am_M) (h : Routes_countSteps_52    x1 M = some r) : Ch [53, 55] M r := by
  have hC : Ch [53, 55] M M := Ch.rf
  obtain ⟨M1, hv, h⟩ := ob_i h
  have hC := hC.tr (J_fill_53_c (1000000000) M _ hv) (by decide)
  obtain ⟨v2, hv, h⟩ := ob_i h
  obtain ⟨hR, ⟨hc, h⟩ | ⟨hc, h⟩⟩ := c_eq_i h
  · skip
    exact hC.tr (Routes_countSteps_52_34_c     (0) M1 r h) (by decide)
  · skip
    obtain ⟨hc, M3, eM, h⟩ := wa_i h
    have hC := hC.up (by decide) eM
    obtain ⟨hc, M4, eM, h⟩ := wa_i h
    have hC := hC.up (by decide) eM
    exact hC.tr (Routes_countSteps_52_34_c     (1) M4 r h) (by decide)
theorem Routes_nearestStream_52_56_c   (k13 : Int → Int → Int → am_M → Option (Int × am_M)) (hk13 : ∀ (x2 : Int) (x3 : Int) (x4 : Int) (M : am_M) (r : Int × am_M), k13 x2 x3 x4 M = some r → Ch [53, 55] M r.2) (x2 : Int) (x3 : Int) (x4 : Int) (M : am_M) (r : Int × am_M) (h : Routes_nearestStream_52_56   k13 x2 x3 x4 M = some r) : Ch [53, 55] M r.2 := by
  have hC : Ch [53, 55] M M := Ch.rf
  exact hC.tr (hk13 (x2) (x3) ((x4) + (1)) M r h) (by decide)
theorem Routes_nearestStream_52_13_c     : ∀ (n : Nat) (x2 : Int) (x3 : Int) (x4 : Int) (M : am_M) (r : Int × am_M), Routes_nearestStream_52_13    n x2 x3 x4 M = some r → Ch [53, 55] M r.2
  | 0, _, _, _, M, r, h => by cases h
  | n + 1, x2, x3, x4, M, r, h => by
    have ih := Routes_nearestStream_52_13_c     n
    have hC : Ch [53, 55] M M := Ch.rf
    obtain ⟨hR, ⟨hc, h⟩ | ⟨hc, h⟩⟩ := c_ge_i h
    · skip
      cases h
      exact hC
    · skip
      obtain ⟨v1, hv, h⟩ := ob_i h
      obtain ⟨hR, ⟨hc, h⟩ | ⟨hc, h⟩⟩ := c_ne_i h
      · skip
        exact hC.tr (Routes_nearestStream_52_56_c   (Routes_nearestStream_52_13    n) ih (x2) (x3) (x4) M r h) (by decide)
      · skip
        obtain ⟨hc, v2, ev, h⟩ := rd_i h
        obtain ⟨hR, ⟨hc, h⟩ | ⟨hc, h⟩⟩ := c_ge_i h
        · skip
          exact hC.tr (Routes_nearestStream_52_56_c   (Routes_nearestStream_52_13    n) ih (x2) (x3) (x4) M r h) (by decide)
        · skip
          obtain ⟨hc, v3, ev, h⟩ := rd_i h
          exact hC.tr (Routes_nearestStream_52_56_c   (Routes_nearestStream_52_13    n) ih (x4) (v3) (x4) M r h) (by decide)
theorem Routes_nearestStream_52_c     (x1 : Int) (M : am_M) (r : Int × am_M) (h : Routes_nearestStream_52    x1 M = some r) : Ch [53, 55] M r.2 := by
  have hC : Ch [53, 55] M M := Ch.rf
  obtain ⟨M1, hv, h⟩ := ob_i h
  have hC := hC.tr (Routes_countSteps_52_c (x1) M _ hv) (by decide)
  exact hC.tr (Routes_nearestStream_52_13_c     am_big (-1) (1000000000) (0) M1 r h) (by decide)
theorem P_camp_56_c     (s0 : Int) (M : am_M) (r : Int × am_M) (h : P_camp_56    s0 M = some r) : Ch [53, 55] M r.2 := by
  have hC : Ch [53, 55] M M := Ch.rf
  cases h
  exact hC
theorem P_camp_9_c      (M : am_M) (r : Int × am_M) (h : P_camp_9     M = some r) : Ch [53, 55] M r.2 := by
  have hC : Ch [53, 55] M M := Ch.rf
  cases h
  exact hC
theorem P_camp_c     (x1 : Int) (M : am_M) (r : Int × am_M) (h : P_camp    x1 M = some r) : Ch [53, 55] M r.2 := by
  have hC : Ch [53, 55] M M := Ch.rf
  obtain ⟨hR, ⟨hc, h⟩ | ⟨hc, h⟩⟩ := c_lt_i h
  · skip
    exact hC.tr (P_camp_9_c      M r h) (by decide)
  · skip
    obtain ⟨hR, ⟨hc, h⟩ | ⟨hc, h⟩⟩ := c_le_i h
    · skip
      obtain ⟨v1, hv, h⟩ := ob_i h
      obtain ⟨v2, M3, hv, h⟩ := oc_i h
      have hC := hC.tr (Routes_nearestStream_52_c (v1) M _ hv) (by decide)
      obtain ⟨hR, ⟨hc, h⟩ | ⟨hc, h⟩⟩ := c_ge_i h
      · skip
        obtain ⟨hR, ⟨hc, h⟩ | ⟨hc, h⟩⟩ := c_ne_i h
        · skip
          obtain ⟨v4, hv, h⟩ := ob_i h
          exact hC.tr (P_camp_56_c     (v4) M3 r h) (by decide)
        · skip
          exact hC.tr (P_camp_56_c     (v2) M3 r h) (by decide)
      · skip
        cases h
        exact hC
    · skip
      exact hC.tr (P_camp_9_c      M r h) (by decide)
theorem Shifts_choosePeople_57_26_c      (M : am_M) (r : Int × am_M) (h : Shifts_choosePeople_57_26     M = some r) : Ch [57, 58] M r.2 := by
  have hC : Ch [57, 58] M M := Ch.rf
  cases h
  exact hC
theorem Shifts_choosePeople_57_77_c   (k35 : Int → Int → am_M → Option (Int × am_M)) (hk35 : ∀ (x1 : Int) (x2 : Int) (M : am_M) (r : Int × am_M), k35 x1 x2 M = some r → Ch [57, 58] M r.2) (x1 : Int) (x2 : Int) (M : am_M) (r : Int × am_M) (h : Shifts_choosePeople_57_77   k35 x1 x2 M = some r) : Ch [57, 58] M r.2 := by
  have hC : Ch [57, 58] M M := Ch.rf
  exact hC.tr (hk35 (x1) ((x2) + (1)) M r h) (by decide)
theorem Shifts_choosePeople_57_35_c     : ∀ (n : Nat) (x1 : Int) (x2 : Int) (M : am_M) (r : Int × am_M), Shifts_choosePeople_57_35    n x1 x2 M = some r → Ch [57, 58] M r.2
  | 0, _, _, M, r, h => by cases h
  | n + 1, x1, x2, M, r, h => by
    have ih := Shifts_choosePeople_57_35_c     n
    have hC : Ch [57, 58] M M := Ch.rf
    obtain ⟨hR, ⟨hc, h⟩ | ⟨hc, h⟩⟩ := c_ge_i h
    · skip
      cases h
      exact hC
    · skip
      obtain ⟨hR, ⟨hc, h⟩ | ⟨hc, h⟩⟩ := c_eq_i h
      · skip
        exact hC.tr (Shifts_choosePeople_57_77_c   (Shifts_choosePeople_57_35    n) ih (x1) (x2) M r h) (by decide)
      · skip
        obtain ⟨hR, ⟨hc, h⟩ | ⟨hc, h⟩⟩ := c_ge_i h
        · skip
          exact hC.tr (Shifts_choosePeople_57_77_c   (Shifts_choosePeople_57_35    n) ih (x1) (x2) M r h) (by decide)
        · skip
          obtain ⟨hc, M1, eM, h⟩ := wa_i h
          have hC := hC.up (by decide) eM
          obtain ⟨M2, eM, h⟩ := fw_i h
          have hC := hC.up (by decide) eM
          exact hC.tr (Shifts_choosePeople_57_77_c   (Shifts_choosePeople_57_35    n) ih (x1) (x2) M2 r h) (by decide)
theorem Shifts_choosePeople_57_c     (x1 : Int) (M : am_M) (r : Int × am_M) (h : Shifts_choosePeople_57    x1 M = some r) : Ch [57, 58] M r.2 := by
  have hC : Ch [57, 58] M M := Ch.rf
  obtain ⟨hR, ⟨hc, h⟩ | ⟨hc, h⟩⟩ := c_le_i h
  · skip
    exact hC.tr (Shifts_choosePeople_57_26_c      M r h) (by decide)
  · skip
    obtain ⟨v1, hv, h⟩ := ob_i h
    obtain ⟨hR, ⟨hc, h⟩ | ⟨hc, h⟩⟩ := c_ne_i h
    · skip
      exact hC.tr (Shifts_choosePeople_57_26_c      M r h) (by decide)
    · skip
      obtain ⟨v2, hv, h⟩ := ob_i h
      obtain ⟨hR, ⟨hc, h⟩ | ⟨hc, h⟩⟩ := c_le_i h
      · skip
        obtain ⟨M3, eM, h⟩ := fw_i h
        have hC := hC.up (by decide) eM
        exact hC.tr (Shifts_choosePeople_57_35_c     am_big (x1) (0) M3 r h) (by decide)
      · skip
        exact hC.tr (Shifts_choosePeople_57_26_c      M r h) (by decide)
theorem J_fill_60_5_c     : ∀ (n : Nat) (x1 : Int) (x2 : Int) (x3 : Int) (M : am_M) (r : am_M), J_fill_60_5    n x1 x2 x3 M = some r → Ch [60] M r
  | 0, _, _, _, M, r, h => by cases h
  | n + 1, x1, x2, x3, M, r, h => by
    have ih := J_fill_60_5_c     n
    have hC : Ch [60] M M := Ch.rf
    obtain ⟨hR, ⟨hc, h⟩ | ⟨hc, h⟩⟩ := c_ge_i h
    · skip
      cases h
      exact hC
    · skip
      obtain ⟨hc, M1, eM, h⟩ := wa_i h
      have hC := hC.up (by decide) eM
      exact hC.tr (ih (x1) ((x2) + (1)) (x3) M1 r h) (by decide)
theorem J_fill_60_c     (x1 : Int) (M : am_M) (r : am_M) (h : J_fill_60    x1 M = some r) : Ch [60] M r := by
  have hC : Ch [60] M M := Ch.rf
  exact hC.tr (J_fill_60_5_c     am_big (x1) (0) (((800 : Nat) : Int)) M r h) (by decide)
theorem Shifts_passTurn_57_176_c   (k2 : Int → Int → Int → am_M → Option (am_M)) (hk2 : ∀ (x1 : Int) (x2 : Int) (x3 : Int) (M : am_M) (r : am_M), k2 x1 x2 x3 M = some r → Ch [12, 13, 59, 60] M r) (x1 : Int) (x2 : Int) (x3 : Int) (M : am_M) (r : am_M) (h : Shifts_passTurn_57_176   k2 x1 x2 x3 M = some r) : Ch [12, 13, 59, 60] M r := by
  have hC : Ch [12, 13, 59, 60] M M := Ch.rf
  exact hC.tr (hk2 (x1) (x2) ((x3) + (1)) M r h) (by decide)
theorem Shifts_passTurn_57_150_c   (k2 : Int → Int → Int → am_M → Option (am_M)) (hk2 : ∀ (x1 : Int) (x2 : Int) (x3 : Int) (M : am_M) (r : am_M), k2 x1 x2 x3 M = some r → Ch [12, 13, 59, 60] M r) (x1 : Int) (x2 : Int) (x3 : Int) (x4 : Int) (x5 : Int) (x6 : Int) (M : am_M) (r : am_M) (h : Shifts_passTurn_57_150   k2 x1 x2 x3 x4 x5 x6 M = some r) : Ch [12, 13, 59, 60] M r := by
  have hC : Ch [12, 13, 59, 60] M M := Ch.rf
  obtain ⟨hc, v1, ev, h⟩ := rd_i h
  obtain ⟨v2, hv, h⟩ := ob_i h
  obtain ⟨v3, hv, h⟩ := ob_i h
  obtain ⟨hc, M4, eM, h⟩ := wa_i h
  have hC := hC.up (by decide) eM
  exact hC.tr (Shifts_passTurn_57_176_c   k2 hk2 (x1) (x2) (x3) M4 r h) (by decide)
theorem Shifts_passTurn_57_149_c   (k2 : Int → Int → Int → am_M → Option (am_M)) (hk2 : ∀ (x1 : Int) (x2 : Int) (x3 : Int) (M : am_M) (r : am_M), k2 x1 x2 x3 M = some r → Ch [12, 13, 59, 60] M r) (x1 : Int) (x2 : Int) (x3 : Int) (x4 : Int) (x5 : Int) (x6 : Int) (s1 : Int) (s2 : Int) (M : am_M) (r : am_M) (h : Shifts_passTurn_57_149   k2 x1 x2 x3 x4 x5 x6 s1 s2 M = some r) : Ch [12, 13, 59, 60] M r := by
  have hC : Ch [12, 13, 59, 60] M M := Ch.rf
  obtain ⟨hc, M1, eM, h⟩ := wa_i h
  have hC := hC.up (by decide) eM
  exact hC.tr (Shifts_passTurn_57_150_c   k2 hk2 (x1) (x2) (x3) (x4) (x5) (x6) M1 r h) (by decide)
theorem Shifts_passTurn_57_32_c   (k2 : Int → Int → Int → am_M → Option (am_M)) (hk2 : ∀ (x1 : Int) (x2 : Int) (x3 : Int) (M : am_M) (r : am_M), k2 x1 x2 x3 M = some r → Ch [12, 13, 59, 60] M r) (x1 : Int) (x2 : Int) (x3 : Int) (x4 : Int) (s0 : Int) (s1 : Int) (M : am_M) (r : am_M) (h : Shifts_passTurn_57_32   k2 x1 x2 x3 x4 s0 s1 M = some r) : Ch [12, 13, 59, 60] M r := by
  have hC : Ch [12, 13, 59, 60] M M := Ch.rf
  obtain ⟨hR, ⟨hc, h⟩ | ⟨hc, h⟩⟩ := c_lt_i h
  · skip
    exact hC.tr (Shifts_passTurn_57_176_c   k2 hk2 (x1) (x2) (x3) M r h) (by decide)
  · skip
    obtain ⟨hR, ⟨hc, h⟩ | ⟨hc, h⟩⟩ := c_ge_i h
    · skip
      exact hC.tr (Shifts_passTurn_57_176_c   k2 hk2 (x1) (x2) (x3) M r h) (by decide)
    · skip
      obtain ⟨hR, ⟨hc, h⟩ | ⟨hc, h⟩⟩ := c_lt_i h
      · skip
        exact hC.tr (Shifts_passTurn_57_176_c   k2 hk2 (x1) (x2) (x3) M r h) (by decide)
      · skip
        obtain ⟨hR, ⟨hc, h⟩ | ⟨hc, h⟩⟩ := c_ge_i h
        · skip
          exact hC.tr (Shifts_passTurn_57_176_c   k2 hk2 (x1) (x2) (x3) M r h) (by decide)
        · skip
          obtain ⟨hc, v1, ev, h⟩ := rd_i h
          obtain ⟨hR, ⟨hc, h⟩ | ⟨hc, h⟩⟩ := c_ne_i h
          · skip
            exact hC.tr (Shifts_passTurn_57_150_c   k2 hk2 (x1) (x2) (x3) (x4) (((s0) * (s1)) + (x4)) (((4) * ((x1) + (1))) + (x3)) M r h) (by decide)
          · skip
            obtain ⟨v2, hv, h⟩ := ob_i h
            obtain ⟨v3, hv, h⟩ := ob_i h
            obtain ⟨hR, ⟨hc, h⟩ | ⟨hc, h⟩⟩ := c_ne_i h
            · skip
              obtain ⟨v4, M5, hv, h⟩ := oc_i h
              have hC := hC.tr (Law_resting_5_c (v3) (x4) (M 57 10) M _ hv) (by decide)
              exact hC.tr (Shifts_passTurn_57_149_c   k2 hk2 (x1) (x2) (x3) (x4) (((s0) * (s1)) + (x4)) (((4) * ((x1) + (1))) + (x3)) (((s0) * (s1)) + (x4)) (-(v4)) M5 r h) (by decide)
            · skip
              obtain ⟨v6, M7, hv, h⟩ := oc_i h
              have hC := hC.tr (Law_tiring_5_c (2) (v3) (x4) (M 57 10) M _ hv) (by decide)
              exact hC.tr (Shifts_passTurn_57_149_c   k2 hk2 (x1) (x2) (x3) (x4) (((s0) * (s1)) + (x4)) (((4) * ((x1) + (1))) + (x3)) (((s0) * (s1)) + (x4)) (v6) M7 r h) (by decide)
theorem Shifts_passTurn_57_2_c     : ∀ (n : Nat) (x1 : Int) (x2 : Int) (x3 : Int) (M : am_M) (r : am_M), Shifts_passTurn_57_2    n x1 x2 x3 M = some r → Ch [12, 13, 59, 60] M r
  | 0, _, _, _, M, r, h => by cases h
  | n + 1, x1, x2, x3, M, r, h => by
    have ih := Shifts_passTurn_57_2_c     n
    have hC : Ch [12, 13, 59, 60] M M := Ch.rf
    obtain ⟨hR, ⟨hc, h⟩ | ⟨hc, h⟩⟩ := c_ge_i h
    · skip
      cases h
      exact hC
    · skip
      obtain ⟨v1, hv, h⟩ := ob_i h
      obtain ⟨hR, ⟨hc, h⟩ | ⟨hc, h⟩⟩ := c_ne_i h
      · skip
        exact hC.tr (Shifts_passTurn_57_32_c   (Shifts_passTurn_57_2    n) ih (x1) (x2) (x3) (v1) (100) ((4) + (x3)) M r h) (by decide)
      · skip
        exact hC.tr (Shifts_passTurn_57_32_c   (Shifts_passTurn_57_2    n) ih (x1) (x2) (x3) (v1) (100) (x3) M r h) (by decide)
theorem Shifts_passTurn_57_c     (x1 : Int) (x2 : Int) (M : am_M) (r : am_M) (h : Shifts_passTurn_57    x1 x2 M = some r) : Ch [12, 13, 59, 60] M r := by
  have hC : Ch [12, 13, 59, 60] M M := Ch.rf
  exact hC.tr (Shifts_passTurn_57_2_c     am_big (x1) (x2) (0) M r h) (by decide)
theorem Shifts_noteRow_57_28_c      (M : am_M) (r : am_M) (h : Shifts_noteRow_57_28     M = some r) : Ch [57, 62] M r := by
  have hC : Ch [57, 62] M M := Ch.rf
  cases h
  exact hC
theorem Shifts_noteRow_57_c     (x1 : Int) (M : am_M) (r : am_M) (h : Shifts_noteRow_57    x1 M = some r) : Ch [57, 62] M r := by
  have hC : Ch [57, 62] M M := Ch.rf
  obtain ⟨hR, ⟨hc, h⟩ | ⟨hc, h⟩⟩ := c_le_i h
  · skip
    exact hC.tr (Shifts_noteRow_57_28_c      M r h) (by decide)
  · skip
    obtain ⟨M1, eM, h⟩ := fw_i h
    have hC := hC.up (by decide) eM
    obtain ⟨hc, M2, eM, h⟩ := cpy_i h
    have hC := hC.cp (by decide) eM
    exact hC.tr (Shifts_noteRow_57_28_c      M2 r h) (by decide)
theorem Shifts_fillTurn_57_14_c (rc151 : Int → Int → am_M → Option am_M) (hrc151 : ∀ (a0 : Int) (a1 : Int) (M r : am_M), rc151 a0 a1 M = some r → Ch [12, 13, 57, 59, 60, 61, 62] M r)   (x2 : Int) (M : am_M) (r : am_M) (h : Shifts_fillTurn_57_14  rc151  x2 M = some r) : Ch [12, 13, 57, 59, 60, 61, 62] M r := by
  have hC : Ch [12, 13, 57, 59, 60, 61, 62] M M := Ch.rf
  obtain ⟨M1, hv, h⟩ := ob_i h
  have hC := hC.tr (Shifts_noteRow_57_c (x2) M _ hv) (by decide)
  cases h
  exact hC
theorem Shifts_fillTurn_57_106_c (rc151 : Int → Int → am_M → Option am_M) (hrc151 : ∀ (a0 : Int) (a1 : Int) (M r : am_M), rc151 a0 a1 M = some r → Ch [12, 13, 57, 59, 60, 61, 62] M r) (k22 : Int → Int → Int → am_M → Option (am_M)) (hk22 : ∀ (x1 : Int) (x2 : Int) (x3 : Int) (M : am_M) (r : am_M), k22 x1 x2 x3 M = some r → Ch [12, 13, 57, 59, 60, 61, 62] M r) (x1 : Int) (x2 : Int) (x3 : Int) (M : am_M) (r : am_M) (h : Shifts_fillTurn_57_106  rc151 k22 x1 x2 x3 M = some r) : Ch [12, 13, 57, 59, 60, 61, 62] M r := by
  have hC : Ch [12, 13, 57, 59, 60, 61, 62] M M := Ch.rf
  exact hC.tr (hk22 (x1) (x2) ((x3) + (1)) M r h) (by decide)
theorem Shifts_fillTurn_57_22_c (rc151 : Int → Int → am_M → Option am_M) (hrc151 : ∀ (a0 : Int) (a1 : Int) (M r : am_M), rc151 a0 a1 M = some r → Ch [12, 13, 57, 59, 60, 61, 62] M r)   : ∀ (n : Nat) (x1 : Int) (x2 : Int) (x3 : Int) (M : am_M) (r : am_M), Shifts_fillTurn_57_22  rc151  n x1 x2 x3 M = some r → Ch [12, 13, 57, 59, 60, 61, 62] M r
  | 0, _, _, _, M, r, h => by cases h
  | n + 1, x1, x2, x3, M, r, h => by
    have ih := Shifts_fillTurn_57_22_c rc151 hrc151   n
    have hC : Ch [12, 13, 57, 59, 60, 61, 62] M M := Ch.rf
    obtain ⟨hR, ⟨hc, h⟩ | ⟨hc, h⟩⟩ := c_ge_i h
    · skip
      cases h
      exact hC
    · skip
      obtain ⟨hR, ⟨hc, h⟩ | ⟨hc, h⟩⟩ := c_le_i h
      · skip
        exact hC.tr (Shifts_fillTurn_57_106_c rc151 hrc151 (Shifts_fillTurn_57_22  rc151  n) ih (x1) (x2) (x3) M r h) (by decide)
      · skip
        obtain ⟨hc, M1, eM, h⟩ := wa_i h
        have hC := hC.up (by decide) eM
        obtain ⟨v2, hv, h⟩ := ob_i h
        obtain ⟨v3, hv, h⟩ := ob_i h
        obtain ⟨v4, hv, h⟩ := ob_i h
        obtain ⟨v5, hv, h⟩ := ob_i h
        obtain ⟨M6, hv, h⟩ := ob_i h
        have hC := hC.tr (Shifts_passTurn_57_c (x1) (x3) M1 _ hv) (by decide)
        obtain ⟨M7, hv, h⟩ := ob_i h
        have hC := hC.tr (hrc151 ((x1) + (1)) ((x2) + (v5)) M6 _ hv) (by decide)
        exact hC.tr (Shifts_fillTurn_57_106_c rc151 hrc151 (Shifts_fillTurn_57_22  rc151  n) ih (x1) (x2) (x3) M7 r h) (by decide)
theorem Shifts_fillTurn_57_c (rc151 : Int → Int → am_M → Option am_M) (hrc151 : ∀ (a0 : Int) (a1 : Int) (M r : am_M), rc151 a0 a1 M = some r → Ch [12, 13, 57, 59, 60, 61, 62] M r)   (x1 : Int) (x2 : Int) (M : am_M) (r : am_M) (h : Shifts_fillTurn_57  rc151  x1 x2 M = some r) : Ch [12, 13, 57, 59, 60, 61, 62] M r := by
  have hC : Ch [12, 13, 57, 59, 60, 61, 62] M M := Ch.rf
  obtain ⟨hR, ⟨hc, h⟩ | ⟨hc, h⟩⟩ := c_ge_i h
  · skip
    exact hC.tr (Shifts_fillTurn_57_14_c rc151 hrc151   (x2) M r h) (by decide)
  · skip
    obtain ⟨hR, ⟨hc, h⟩ | ⟨hc, h⟩⟩ := c_lt_i h
    · skip
      exact hC.tr (Shifts_fillTurn_57_22_c rc151 hrc151   am_big (x1) (x2) (0) M r h) (by decide)
    · skip
      exact hC.tr (Shifts_fillTurn_57_14_c rc151 hrc151   (x2) M r h) (by decide)
theorem K_Shifts_fillTurn_R_c : ∀ (n w : Nat) (a0 : Int) (a1 : Int) (M r : am_M), K_Shifts_fillTurn_R n w a0 a1 M = some r → Ch [12, 13, 57, 59, 60, 61, 62] M r
  | 0, _, _, _, M, r, h => by cases h
  | n + 1, w, a0, a1, M, r, h => by
    have ih := K_Shifts_fillTurn_R_c n
    exact (Shifts_fillTurn_57_c _ (fun b0 b1 M r h => (ih 0 b0 b1 M r h).mo (by decide)) a0 a1 M r h).mo (by decide)
theorem K_Shifts_fillTurn_c (a0 : Int) (a1 : Int) (M r : am_M) (h : K_Shifts_fillTurn a0 a1 M = some r) : Ch [12, 13, 57, 59, 60, 61, 62] M r := K_Shifts_fillTurn_R_c _ _ a0 a1 M r h
theorem Shifts_findBest_57_26_96_c      (M : am_M) (r : am_M) (h : Shifts_findBest_57_26_96     M = some r) : Ch [12, 13, 57, 59, 60, 61, 62] M r := by
  have hC : Ch [12, 13, 57, 59, 60, 61, 62] M M := Ch.rf
  obtain ⟨M1, hv, h⟩ := ob_i h
  have hC := hC.tr (K_Shifts_fillTurn_c (0) (0) M _ hv) (by decide)
  cases h
  exact hC
theorem Shifts_findBest_57_26_34_c     : ∀ (n : Nat) (x3 : Int) (M : am_M) (r : am_M), Shifts_findBest_57_26_34    n x3 M = some r → Ch [12, 13, 57, 59, 60, 61, 62] M r
  | 0, _, M, r, h => by cases h
  | n + 1, x3, M, r, h => by
    have ih := Shifts_findBest_57_26_34_c     n
    have hC : Ch [12, 13, 57, 59, 60, 61, 62] M M := Ch.rf
    obtain ⟨hR, ⟨hc, h⟩ | ⟨hc, h⟩⟩ := c_ge_i h
    · skip
      exact hC.tr (Shifts_findBest_57_26_96_c      M r h) (by decide)
    · skip
      obtain ⟨hR, ⟨hc, h⟩ | ⟨hc, h⟩⟩ := c_ge_i h
      · skip
        exact hC.tr (Shifts_findBest_57_26_96_c      M r h) (by decide)
      · skip
        obtain ⟨hc, v1, ev, h⟩ := rd_i h
        obtain ⟨v2, hv, h⟩ := ob_i h
        obtain ⟨hc, M3, eM, h⟩ := wa_i h
        have hC := hC.up (by decide) eM
        obtain ⟨hc, v4, ev, h⟩ := rd_i h
        obtain ⟨v5, hv, h⟩ := ob_i h
        obtain ⟨v6, hv, h⟩ := ob_i h
        obtain ⟨M7, eM, h⟩ := fw_i h
        have hC := hC.up (by decide) eM
        exact hC.tr (ih ((x3) + (1)) M7 r h) (by decide)
theorem Shifts_findBest_57_26_c     (x2 : Int) (M : am_M) (r : am_M) (h : Shifts_findBest_57_26    x2 M = some r) : Ch [12, 13, 57, 59, 60, 61, 62] M r := by
  have hC : Ch [12, 13, 57, 59, 60, 61, 62] M M := Ch.rf
  obtain ⟨M1, eM, h⟩ := fw_i h
  have hC := hC.up (by decide) eM
  obtain ⟨M2, eM, h⟩ := fw_i h
  have hC := hC.up (by decide) eM
  obtain ⟨M3, eM, h⟩ := fw_i h
  have hC := hC.up (by decide) eM
  obtain ⟨M4, eM, h⟩ := fw_i h
  have hC := hC.up (by decide) eM
  obtain ⟨M5, hv, h⟩ := ob_i h
  have hC := hC.tr (J_fill_60_c (-100) M4 _ hv) (by decide)
  exact hC.tr (Shifts_findBest_57_26_34_c     am_big (0) M5 r h) (by decide)
theorem P_byTurns_49_c      (M : am_M) (r : Int × am_M) (h : P_byTurns_49     M = some r) : Ch [12, 13, 57, 58, 59, 60, 61, 62] M r.2 := by
  have hC : Ch [12, 13, 57, 58, 59, 60, 61, 62] M M := Ch.rf
  cases h
  exact hC
theorem P_byTurns_87_c     (s0 : Int) (M : am_M) (r : Int × am_M) (h : P_byTurns_87    s0 M = some r) : Ch [12, 13, 57, 58, 59, 60, 61, 62] M r.2 := by
  have hC : Ch [12, 13, 57, 58, 59, 60, 61, 62] M M := Ch.rf
  cases h
  exact hC
theorem P_byTurns_38_c     (x1 : Int) (x2 : Int) (x3 : Int) (M : am_M) (r : Int × am_M) (h : P_byTurns_38    x1 x2 x3 M = some r) : Ch [12, 13, 57, 58, 59, 60, 61, 62] M r.2 := by
  have hC : Ch [12, 13, 57, 58, 59, 60, 61, 62] M M := Ch.rf
  obtain ⟨v1, M2, hv, h⟩ := oc_i h
  have hC := hC.tr (Shifts_choosePeople_57_c (x2) M _ hv) (by decide)
  obtain ⟨hR, ⟨hc, h⟩ | ⟨hc, h⟩⟩ := c_ne_i h
  · skip
    obtain ⟨M3, hv, h⟩ := ob_i h
    have hC := hC.tr (Shifts_findBest_57_26_c (x1) M2 _ hv) (by decide)
    obtain ⟨hR, ⟨hc, h⟩ | ⟨hc, h⟩⟩ := c_ne_i h
    · skip
      obtain ⟨v4, hv, h⟩ := ob_i h
      exact hC.tr (P_byTurns_87_c     (v4) M3 r h) (by decide)
    · skip
      exact hC.tr (P_byTurns_87_c     (M3 57 11) M3 r h) (by decide)
  · skip
    exact hC.tr (P_byTurns_49_c      M2 r h) (by decide)
theorem P_byTurns_14_c     (x1 : Int) (x2 : Int) (x3 : Int) (s0 : Int) (M : am_M) (r : Int × am_M) (h : P_byTurns_14    x1 x2 x3 s0 M = some r) : Ch [12, 13, 57, 58, 59, 60, 61, 62] M r.2 := by
  have hC : Ch [12, 13, 57, 58, 59, 60, 61, 62] M M := Ch.rf
  obtain ⟨hR, ⟨hc, h⟩ | ⟨hc, h⟩⟩ := c_lt_i h
  · skip
    exact hC.tr (P_byTurns_49_c      M r h) (by decide)
  · skip
    obtain ⟨hR, ⟨hc, h⟩ | ⟨hc, h⟩⟩ := c_gt_i h
    · skip
      exact hC.tr (P_byTurns_49_c      M r h) (by decide)
    · skip
      obtain ⟨hR, ⟨hc, h⟩ | ⟨hc, h⟩⟩ := c_eq_i h
      · skip
        exact hC.tr (P_byTurns_38_c     (x1) (x2) (x3) M r h) (by decide)
      · skip
        obtain ⟨hR, ⟨hc, h⟩ | ⟨hc, h⟩⟩ := c_eq_i h
        · skip
          exact hC.tr (P_byTurns_49_c      M r h) (by decide)
        · skip
          exact hC.tr (P_byTurns_38_c     (x1) (x2) (x3) M r h) (by decide)
theorem P_byTurns_13_c     (x1 : Int) (x2 : Int) (x3 : Int) (M : am_M) (r : Int × am_M) (h : P_byTurns_13    x1 x2 x3 M = some r) : Ch [12, 13, 57, 58, 59, 60, 61, 62] M r.2 := by
  have hC : Ch [12, 13, 57, 58, 59, 60, 61, 62] M M := Ch.rf
  exact hC.tr (P_byTurns_14_c     (x1) (x2) (x3) (0) M r h) (by decide)
theorem P_byTurns_c     (x1 : Int) (x2 : Int) (x3 : Int) (M : am_M) (r : Int × am_M) (h : P_byTurns    x1 x2 x3 M = some r) : Ch [12, 13, 57, 58, 59, 60, 61, 62] M r.2 := by
  have hC : Ch [12, 13, 57, 58, 59, 60, 61, 62] M M := Ch.rf
  obtain ⟨hR, ⟨hc, h⟩ | ⟨hc, h⟩⟩ := c_lt_i h
  · skip
    exact hC.tr (P_byTurns_13_c     (x1) (x2) (x3) M r h) (by decide)
  · skip
    obtain ⟨hR, ⟨hc, h⟩ | ⟨hc, h⟩⟩ := c_ge_i h
    · skip
      exact hC.tr (P_byTurns_13_c     (x1) (x2) (x3) M r h) (by decide)
    · skip
      exact hC.tr (P_byTurns_14_c     (x1) (x2) (x3) (1) M r h) (by decide)
theorem Overgrowth_notePlan_68_29_c      (M : am_M) (r : am_M) (h : Overgrowth_notePlan_68_29     M = some r) : Ch [68] M r := by
  have hC : Ch [68] M M := Ch.rf
  cases h
  exact hC
theorem Overgrowth_notePlan_68_c     (x1 : Int) (x2 : Int) (x3 : Int) (x4 : Int) (M : am_M) (r : am_M) (h : Overgrowth_notePlan_68    x1 x2 x3 x4 M = some r) : Ch [68] M r := by
  have hC : Ch [68] M M := Ch.rf
  obtain ⟨hR, ⟨hc, h⟩ | ⟨hc, h⟩⟩ := c_ge_i h
  · skip
    exact hC.tr (Overgrowth_notePlan_68_29_c      M r h) (by decide)
  · skip
    obtain ⟨M1, eM, h⟩ := fw_i h
    have hC := hC.up (by decide) eM
    obtain ⟨M2, eM, h⟩ := fw_i h
    have hC := hC.up (by decide) eM
    obtain ⟨M3, eM, h⟩ := fw_i h
    have hC := hC.up (by decide) eM
    obtain ⟨M4, eM, h⟩ := fw_i h
    have hC := hC.up (by decide) eM
    exact hC.tr (Overgrowth_notePlan_68_29_c      M4 r h) (by decide)
theorem Overgrowth_planPath_68_26_147_c   (k15 : Int → Int → Int → Int → Int → am_M → Option (am_M)) (hk15 : ∀ (x2 : Int) (x3 : Int) (x4 : Int) (x5 : Int) (x6 : Int) (M : am_M) (r : am_M), k15 x2 x3 x4 x5 x6 M = some r → Ch [12, 13, 68] M r) : ∀ (n : Nat) (x2 : Int) (x3 : Int) (x4 : Int) (x5 : Int) (x6 : Int) (x7 : Int) (x9 : Int) (x10 : Int) (x11 : Int) (M : am_M) (r : am_M), Overgrowth_planPath_68_26_147   k15 n x2 x3 x4 x5 x6 x7 x9 x10 x11 M = some r → Ch [12, 13, 68] M r
  | 0, _, _, _, _, _, _, _, _, _, M, r, h => by cases h
  | n + 1, x2, x3, x4, x5, x6, x7, x9, x10, x11, M, r, h => by
    have ih := Overgrowth_planPath_68_26_147_c   k15 hk15 n
    have hC : Ch [12, 13, 68] M M := Ch.rf
    obtain ⟨hR, ⟨hc, h⟩ | ⟨hc, h⟩⟩ := c_gt_i h
    · skip
      exact hC.tr (hk15 (x2) (x3) (x4) (x5) ((x6) + (1)) M r h) (by decide)
    · skip
      obtain ⟨hc, h⟩ := ck_i h
      obtain ⟨v1, ev, h⟩ := tw_i h
      obtain ⟨M2, hv, h⟩ := ob_i h
      have hC := hC.tr (Overgrowth_notePlan_68_c (((x3) * ((x7) + (x9))) + ((v1) * (((2) + (x10)) - (x9)))) (x6) (x11) (2) M _ hv) (by decide)
      obtain ⟨M3, hv, h⟩ := ob_i h
      have hC := hC.tr (Overgrowth_notePlan_68_c ((x3) * ((x7) + (x9))) (x6) (x11) (0) M2 _ hv) (by decide)
      exact hC.tr (ih (x2) (x3) (x4) (x5) (x6) (x7) (x9) (x10) ((x11) + (1)) M3 r h) (by decide)
theorem Overgrowth_planPath_68_26_58_c   (k15 : Int → Int → Int → Int → Int → am_M → Option (am_M)) (hk15 : ∀ (x2 : Int) (x3 : Int) (x4 : Int) (x5 : Int) (x6 : Int) (M : am_M) (r : am_M), k15 x2 x3 x4 x5 x6 M = some r → Ch [12, 13, 68] M r) : ∀ (n : Nat) (x2 : Int) (x3 : Int) (x4 : Int) (x5 : Int) (x6 : Int) (x7 : Int) (x8 : Int) (x9 : Int) (M : am_M) (r : am_M), Overgrowth_planPath_68_26_58   k15 n x2 x3 x4 x5 x6 x7 x8 x9 M = some r → Ch [12, 13, 68] M r
  | 0, _, _, _, _, _, _, _, _, M, r, h => by cases h
  | n + 1, x2, x3, x4, x5, x6, x7, x8, x9, M, r, h => by
    have ih := Overgrowth_planPath_68_26_58_c   k15 hk15 n
    have hC : Ch [12, 13, 68] M M := Ch.rf
    obtain ⟨hR, ⟨hc, h⟩ | ⟨hc, h⟩⟩ := c_ge_i h
    · skip
      obtain ⟨v1, M2, hv, h⟩ := oc_i h
      have hC := hC.tr (Law_walking_5_c (x2) (x6) (x8) (0) ((M 26 13) + (x4)) M _ hv) (by decide)
      obtain ⟨v3, M4, hv, h⟩ := oc_i h
      have hC := hC.tr (Law_walking_5_c (x2) (x6) (x8) (1) ((M2 26 13) + (x4)) M2 _ hv) (by decide)
      exact hC.tr (Overgrowth_planPath_68_26_147_c   k15 hk15 am_big (x2) (x3) (x4) (x5) (x6) (x7) (v1) (v3) (1) M4 r h) (by decide)
    · skip
      obtain ⟨v5, M6, hv, h⟩ := oc_i h
      have hC := hC.tr (Law_growing_5_c (x2) (x6) (x8) ((M 26 13) + (x9)) M _ hv) (by decide)
      obtain ⟨v7, hv, h⟩ := ob_i h
      exact hC.tr (ih (x2) (x3) (x4) (x5) (x6) (x7) (v7) ((x9) + (1)) M6 r h) (by decide)
theorem Overgrowth_planPath_68_26_15_c     : ∀ (n : Nat) (x2 : Int) (x3 : Int) (x4 : Int) (x5 : Int) (x6 : Int) (M : am_M) (r : am_M), Overgrowth_planPath_68_26_15    n x2 x3 x4 x5 x6 M = some r → Ch [12, 13, 68] M r
  | 0, _, _, _, _, _, M, r, h => by cases h
  | n + 1, x2, x3, x4, x5, x6, M, r, h => by
    have ih := Overgrowth_planPath_68_26_15_c     n
    have hC : Ch [12, 13, 68] M M := Ch.rf
    obtain ⟨hR, ⟨hc, h⟩ | ⟨hc, h⟩⟩ := c_gt_i h
    · skip
      cases h
      exact hC
    · skip
      obtain ⟨v1, hv, h⟩ := ob_i h
      obtain ⟨v2, hv, h⟩ := ob_i h
      obtain ⟨v3, M4, hv, h⟩ := oc_i h
      have hC := hC.tr (Law_cutting_5_c (x2) (x6) (v1) (v2) (M 26 13) M _ hv) (by decide)
      exact hC.tr (Overgrowth_planPath_68_26_58_c   (Overgrowth_planPath_68_26_15    n) ih am_big (x2) (x3) (x4) (x5) (x6) (v3) (0) (0) M4 r h) (by decide)
theorem Overgrowth_planPath_68_26_c     (x2 : Int) (x3 : Int) (x4 : Int) (M : am_M) (r : am_M) (h : Overgrowth_planPath_68_26    x2 x3 x4 M = some r) : Ch [12, 13, 68] M r := by
  have hC : Ch [12, 13, 68] M M := Ch.rf
  obtain ⟨M1, eM, h⟩ := fw_i h
  have hC := hC.up (by decide) eM
  exact hC.tr (Overgrowth_planPath_68_26_15_c     am_big (x2) (x3) (x4) (M1 26 9) (1) M1 r h) (by decide)
theorem P_planned_64_c      (M : am_M) (r : Int × am_M) (h : P_planned_64     M = some r) : Ch [12, 13, 68] M r.2 := by
  have hC : Ch [12, 13, 68] M M := Ch.rf
  cases h
  exact hC
theorem P_planned_c     (x1 : Int) (x2 : Int) (x3 : Int) (x4 : Int) (M : am_M) (r : Int × am_M) (h : P_planned    x1 x2 x3 x4 M = some r) : Ch [12, 13, 68] M r.2 := by
  have hC : Ch [12, 13, 68] M M := Ch.rf
  obtain ⟨hR, ⟨hc, h⟩ | ⟨hc, h⟩⟩ := c_lt_i h
  · skip
    exact hC.tr (P_planned_64_c      M r h) (by decide)
  · skip
    obtain ⟨hR, ⟨hc, h⟩ | ⟨hc, h⟩⟩ := c_ge_i h
    · skip
      exact hC.tr (P_planned_64_c      M r h) (by decide)
    · skip
      obtain ⟨hR, ⟨hc, h⟩ | ⟨hc, h⟩⟩ := c_eq_i h
      · skip
        exact hC.tr (P_planned_64_c      M r h) (by decide)
      · skip
        obtain ⟨hR, ⟨hc, h⟩ | ⟨hc, h⟩⟩ := c_lt_i h
        · skip
          exact hC.tr (P_planned_64_c      M r h) (by decide)
        · skip
          obtain ⟨hR, ⟨hc, h⟩ | ⟨hc, h⟩⟩ := c_gt_i h
          · skip
            exact hC.tr (P_planned_64_c      M r h) (by decide)
          · skip
            obtain ⟨hR, ⟨hc, h⟩ | ⟨hc, h⟩⟩ := c_lt_i h
            · skip
              exact hC.tr (P_planned_64_c      M r h) (by decide)
            · skip
              obtain ⟨hR, ⟨hc, h⟩ | ⟨hc, h⟩⟩ := c_gt_i h
              · skip
                exact hC.tr (P_planned_64_c      M r h) (by decide)
              · skip
                obtain ⟨hR, ⟨hc, h⟩ | ⟨hc, h⟩⟩ := c_lt_i h
                · skip
                  exact hC.tr (P_planned_64_c      M r h) (by decide)
                · skip
                  obtain ⟨hR, ⟨hc, h⟩ | ⟨hc, h⟩⟩ := c_gt_i h
                  · skip
                    exact hC.tr (P_planned_64_c      M r h) (by decide)
                  · skip
                    obtain ⟨v1, hv, h⟩ := ob_i h
                    obtain ⟨hR, ⟨hc, h⟩ | ⟨hc, h⟩⟩ := c_ne_i h
                    · skip
                      obtain ⟨M2, hv, h⟩ := ob_i h
                      have hC := hC.tr (Overgrowth_planPath_68_26_c (x1) (x2) (x3) M _ hv) (by decide)
                      obtain ⟨hR, h⟩ := ck_i h
                      rcases if_i h with ⟨hq, h⟩ | ⟨hq0, h⟩
                      · skip
                        cases h
                        exact hC
                      · skip
                        rcases if_i h with ⟨hq, h⟩ | ⟨hq1, h⟩
                        · skip
                          cases h
                          exact hC
                        · skip
                          rcases if_i h with ⟨hq, h⟩ | ⟨hq2, h⟩
                          · skip
                            cases h
                            exact hC
                          · skip
                            · skip
                              cases h
                              exact hC
                    · skip
                      exact hC.tr (P_planned_64_c      M r h) (by decide)
theorem Legs_addLeg_72_61_c     (x3 : Int) (s1 : Int) (s2 : Int) (M : am_M) (r : Int × am_M) (h : Legs_addLeg_72_61    x3 s1 s2 M = some r) : Ch [72] M r.2 := by
  have hC : Ch [72] M M := Ch.rf
  obtain ⟨M1, eM, h⟩ := fw_i h
  have hC := hC.up (by decide) eM
  obtain ⟨M2, eM, h⟩ := fw_i h
  have hC := hC.up (by decide) eM
  cases h
  exact hC
theorem Legs_addLeg_72_94_c     (x3 : Int) (s1 : Int) (s2 : Int) (M : am_M) (r : Int × am_M) (h : Legs_addLeg_72_94    x3 s1 s2 M = some r) : Ch [72] M r.2 := by
  have hC : Ch [72] M M := Ch.rf
  obtain ⟨M1, eM, h⟩ := fw_i h
  have hC := hC.up (by decide) eM
  obtain ⟨M2, eM, h⟩ := fw_i h
  have hC := hC.up (by decide) eM
  cases h
  exact hC
theorem Legs_addLeg_72_c     (x1 : Int) (x2 : Int) (x3 : Int) (M : am_M) (r : Int × am_M) (h : Legs_addLeg_72    x1 x2 x3 M = some r) : Ch [72] M r.2 := by
  have hC : Ch [72] M M := Ch.rf
  obtain ⟨hR, h⟩ := ck_i h
  rcases if_i h with ⟨hq, h⟩ | ⟨hq0, h⟩
  · skip
    obtain ⟨hR, ⟨hc, h⟩ | ⟨hc, h⟩⟩ := c_ne_i h
    · skip
      exact hC.tr (Legs_addLeg_72_94_c     (x3) (M 72 1) (-(x2)) M r h) (by decide)
    · skip
      exact hC.tr (Legs_addLeg_72_94_c     (x3) (M 72 1) (x2) M r h) (by decide)
  · skip
    rcases if_i h with ⟨hq, h⟩ | ⟨hq1, h⟩
    · skip
      obtain ⟨hR, ⟨hc, h⟩ | ⟨hc, h⟩⟩ := c_ne_i h
      · skip
        exact hC.tr (Legs_addLeg_72_94_c     (x3) (M 72 1) (-(x2)) M r h) (by decide)
      · skip
        exact hC.tr (Legs_addLeg_72_94_c     (x3) (M 72 1) (x2) M r h) (by decide)
    · skip
      rcases if_i h with ⟨hq, h⟩ | ⟨hq2, h⟩
      · skip
        obtain ⟨hR, ⟨hc, h⟩ | ⟨hc, h⟩⟩ := c_ne_i h
        · skip
          exact hC.tr (Legs_addLeg_72_61_c     (x3) (M 72 0) (-(x2)) M r h) (by decide)
        · skip
          exact hC.tr (Legs_addLeg_72_61_c     (x3) (M 72 0) (x2) M r h) (by decide)
      · skip
        rcases if_i h with ⟨hq, h⟩ | ⟨hq3, h⟩
        · skip
          obtain ⟨hR, ⟨hc, h⟩ | ⟨hc, h⟩⟩ := c_ne_i h
          · skip
            exact hC.tr (Legs_addLeg_72_61_c     (x3) (M 72 0) (-(x2)) M r h) (by decide)
          · skip
            exact hC.tr (Legs_addLeg_72_61_c     (x3) (M 72 0) (x2) M r h) (by decide)
        · skip
          · skip
            cases h
            exact hC
theorem Legs_readLegs_72_171_c      (M : am_M) (r : Int × am_M) (h : Legs_readLegs_72_171     M = some r) : Ch [72] M r.2 := by
  have hC : Ch [72] M M := Ch.rf
  cases h
  exact hC
theorem Legs_readLegs_72_150_c   (k25 : Int → Int → Int → am_M → Option (Int × am_M)) (hk25 : ∀ (x2 : Int) (x3 : Int) (x4 : Int) (M : am_M) (r : Int × am_M), k25 x2 x3 x4 M = some r → Ch [72] M r.2) (x2 : Int) (x3 : Int) (x4 : Int) (s1 : Int) (s2 : Int) (s3 : Int) (M : am_M) (r : Int × am_M) (h : Legs_readLegs_72_150   k25 x2 x3 x4 s1 s2 s3 M = some r) : Ch [72] M r.2 := by
  have hC : Ch [72] M M := Ch.rf
  obtain ⟨v1, M2, hv, h⟩ := oc_i h
  have hC := hC.tr (Legs_addLeg_72_c (s1) (s2) (s3) M _ hv) (by decide)
  obtain ⟨hR, ⟨hc, h⟩ | ⟨hc, h⟩⟩ := c_ne_i h
  · skip
    exact hC.tr (hk25 (x2) ((x3) + (1)) ((x4) + (1)) M2 r h) (by decide)
  · skip
    obtain ⟨v3, hv, h⟩ := ob_i h
    cases h
    exact hC
theorem Legs_readLegs_72_117_c   (k25 : Int → Int → Int → am_M → Option (Int × am_M)) (hk25 : ∀ (x2 : Int) (x3 : Int) (x4 : Int) (M : am_M) (r : Int × am_M), k25 x2 x3 x4 M = some r → Ch [72] M r.2) (x2 : Int) (x3 : Int) (x4 : Int) (x5 : Int) (x6 : Int) (M : am_M) (r : Int × am_M) (h : Legs_readLegs_72_117   k25 x2 x3 x4 x5 x6 M = some r) : Ch [72] M r.2 := by
  have hC : Ch [72] M M := Ch.rf
  obtain ⟨hR, ⟨hc, h⟩ | ⟨hc, h⟩⟩ := c_ne_i h
  · skip
    obtain ⟨v1, hv, h⟩ := ob_i h
    obtain ⟨hR, ⟨hc, h⟩ | ⟨hc, h⟩⟩ := c_ge_i h
    · skip
      obtain ⟨hc, h⟩ := ck_i h
      obtain ⟨v2, ev, h⟩ := tw_i h
      exact hC.tr (Legs_readLegs_72_150_c   k25 hk25 (x2) (x3) (x4) (v1) (x6) (v2) M r h) (by decide)
    · skip
      exact hC.tr (Legs_readLegs_72_150_c   k25 hk25 (x2) (x3) (x4) (v1) (x6) (0) M r h) (by decide)
  · skip
    obtain ⟨v3, hv, h⟩ := ob_i h
    cases h
    exact hC
theorem Legs_readLegs_72_25_c     : ∀ (n : Nat) (x2 : Int) (x3 : Int) (x4 : Int) (M : am_M) (r : Int × am_M), Legs_readLegs_72_25    n x2 x3 x4 M = some r → Ch [72] M r.2
  | 0, _, _, _, M, r, h => by cases h
  | n + 1, x2, x3, x4, M, r, h => by
    have ih := Legs_readLegs_72_25_c     n
    have hC : Ch [72] M M := Ch.rf
    obtain ⟨hR, ⟨hc, h⟩ | ⟨hc, h⟩⟩ := c_gt_i h
    · skip
      exact hC.tr (Legs_readLegs_72_171_c      M r h) (by decide)
    · skip
      obtain ⟨v1, hv, h⟩ := ob_i h
      obtain ⟨hR, ⟨hc, h⟩ | ⟨hc, h⟩⟩ := c_eq_i h
      · skip
        exact hC.tr (Legs_readLegs_72_171_c      M r h) (by decide)
      · skip
        obtain ⟨v2, hv, h⟩ := ob_i h
        obtain ⟨v3, hv, h⟩ := ob_i h
        obtain ⟨hR, ⟨hc, h⟩ | ⟨hc, h⟩⟩ := c_ne_i h
        · skip
          obtain ⟨hR, ⟨hc, h⟩ | ⟨hc, h⟩⟩ := c_ne_i h
          · skip
            obtain ⟨v4, hv, h⟩ := ob_i h
            obtain ⟨v5, hv, h⟩ := ob_i h
            obtain ⟨v6, hv, h⟩ := ob_i h
            obtain ⟨hR, ⟨hc, h⟩ | ⟨hc, h⟩⟩ := c_eq_i h
            · skip
              exact hC.tr (Legs_readLegs_72_117_c   (Legs_readLegs_72_25    n) ih (x2) ((x3) + (1)) (x4) (x3) ((v4) - (48)) M r h) (by decide)
            · skip
              obtain ⟨v7, hv, h⟩ := ob_i h
              exact hC.tr (Legs_readLegs_72_117_c   (Legs_readLegs_72_25    n) ih (x2) (((x3) + (1)) + (1)) (x4) (x3) ((((10) * ((v4) - (48))) + (v7)) - (48)) M r h) (by decide)
          · skip
            obtain ⟨v8, hv, h⟩ := ob_i h
            cases h
            exact hC
        · skip
          obtain ⟨v9, hv, h⟩ := ob_i h
          cases h
          exact hC
theorem Legs_readLegs_72_c     (x2 : Int) (M : am_M) (r : Int × am_M) (h : Legs_readLegs_72    x2 M = some r) : Ch [72] M r.2 := by
  have hC : Ch [72] M M := Ch.rf
  obtain ⟨M1, eM, h⟩ := fw_i h
  have hC := hC.up (by decide) eM
  obtain ⟨M2, eM, h⟩ := fw_i h
  have hC := hC.up (by decide) eM
  obtain ⟨M3, eM, h⟩ := fw_i h
  have hC := hC.up (by decide) eM
  obtain ⟨M4, eM, h⟩ := fw_i h
  have hC := hC.up (by decide) eM
  exact hC.tr (Legs_readLegs_72_25_c     am_big (x2) (0) (0) M4 r h) (by decide)
theorem P_paces_34_c      (M : am_M) (r : Int × am_M) (h : P_paces_34     M = some r) : Ch [14, 72] M r.2 := by
  have hC : Ch [14, 72] M M := Ch.rf
  cases h
  exact hC
theorem P_paces_68_c     (s0 : Int) (M : am_M) (r : Int × am_M) (h : P_paces_68    s0 M = some r) : Ch [14, 72] M r.2 := by
  have hC : Ch [14, 72] M M := Ch.rf
  cases h
  exact hC
theorem P_paces_c     (x1 : Int) (x2 : Int) (x3 : Int) (M : am_M) (r : Int × am_M) (h : P_paces    x1 x2 x3 M = some r) : Ch [14, 72] M r.2 := by
  have hC : Ch [14, 72] M M := Ch.rf
  obtain ⟨hR, ⟨hc, h⟩ | ⟨hc, h⟩⟩ := c_lt_i h
  · skip
    exact hC.tr (P_paces_34_c      M r h) (by decide)
  · skip
    obtain ⟨hR, ⟨hc, h⟩ | ⟨hc, h⟩⟩ := c_gt_i h
    · skip
      exact hC.tr (P_paces_34_c      M r h) (by decide)
    · skip
      obtain ⟨hR, ⟨hc, h⟩ | ⟨hc, h⟩⟩ := c_lt_i h
      · skip
        exact hC.tr (P_paces_34_c      M r h) (by decide)
      · skip
        obtain ⟨hR, ⟨hc, h⟩ | ⟨hc, h⟩⟩ := c_gt_i h
        · skip
          exact hC.tr (P_paces_34_c      M r h) (by decide)
        · skip
          obtain ⟨v1, M2, hv, h⟩ := oc_i h
          have hC := hC.tr (Tape_take_c (x1) (1) (40) M _ hv) (by decide)
          obtain ⟨hR, ⟨hc, h⟩ | ⟨hc, h⟩⟩ := c_ne_i h
          · skip
            obtain ⟨v3, M4, hv, h⟩ := oc_i h
            have hC := hC.tr (Legs_readLegs_72_c (x2) M2 _ hv) (by decide)
            obtain ⟨hR, ⟨hc, h⟩ | ⟨hc, h⟩⟩ := c_ge_i h
            · skip
              obtain ⟨v5, hv, h⟩ := ob_i h
              exact hC.tr (P_paces_68_c     (v5) M4 r h) (by decide)
            · skip
              exact hC.tr (P_paces_68_c     (v3) M4 r h) (by decide)
          · skip
            exact hC.tr (P_paces_34_c      M2 r h) (by decide)
theorem Search_readCells_63_59_c      (M : am_M) (r : Int × am_M) (h : Search_readCells_63_59     M = some r) : Ch [63, 64, 65] M r.2 := by
  have hC : Ch [63, 64, 65] M M := Ch.rf
  cases h
  exact hC
theorem Search_readCells_63_93_c      (M : am_M) (r : Int × am_M) (h : Search_readCells_63_93     M = some r) : Ch [63, 64, 65] M r.2 := by
  have hC : Ch [63, 64, 65] M M := Ch.rf
  cases h
  exact hC
theorem Search_readCells_63_7_c     : ∀ (n : Nat) (x2 : Int) (x3 : Int) (M : am_M) (r : Int × am_M), Search_readCells_63_7    n x2 x3 M = some r → Ch [63, 64, 65] M r.2
  | 0, _, _, M, r, h => by cases h
  | n + 1, x2, x3, M, r, h => by
    have ih := Search_readCells_63_7_c     n
    have hC : Ch [63, 64, 65] M M := Ch.rf
    obtain ⟨hR, ⟨hc, h⟩ | ⟨hc, h⟩⟩ := c_ge_i h
    · skip
      exact hC.tr (Search_readCells_63_93_c      M r h) (by decide)
    · skip
      obtain ⟨hR, ⟨hc, h⟩ | ⟨hc, h⟩⟩ := c_ge_i h
      · skip
        exact hC.tr (Search_readCells_63_93_c      M r h) (by decide)
      · skip
        obtain ⟨v1, hv, h⟩ := ob_i h
        obtain ⟨v2, hv, h⟩ := ob_i h
        obtain ⟨v3, hv, h⟩ := ob_i h
        obtain ⟨hR, ⟨hc, h⟩ | ⟨hc, h⟩⟩ := c_eq_i h
        · skip
          exact hC.tr (Search_readCells_63_59_c      M r h) (by decide)
        · skip
          obtain ⟨hR, ⟨hc, h⟩ | ⟨hc, h⟩⟩ := c_lt_i h
          · skip
            exact hC.tr (Search_readCells_63_59_c      M r h) (by decide)
          · skip
            obtain ⟨hR, ⟨hc, h⟩ | ⟨hc, h⟩⟩ := c_le_i h
            · skip
              obtain ⟨hc, M4, eM, h⟩ := wa_i h
              have hC := hC.up (by decide) eM
              obtain ⟨hc, M5, eM, h⟩ := wa_i h
              have hC := hC.up (by decide) eM
              obtain ⟨M6, eM, h⟩ := fw_i h
              have hC := hC.up (by decide) eM
              exact hC.tr (ih (x2) ((x3) + (1)) M6 r h) (by decide)
            · skip
              exact hC.tr (Search_readCells_63_59_c      M r h) (by decide)
theorem Search_readCells_63_c     (x2 : Int) (M : am_M) (r : Int × am_M) (h : Search_readCells_63    x2 M = some r) : Ch [63, 64, 65] M r.2 := by
  have hC : Ch [63, 64, 65] M M := Ch.rf
  obtain ⟨M1, eM, h⟩ := fw_i h
  have hC := hC.up (by decide) eM
  exact hC.tr (Search_readCells_63_7_c     am_big (x2) (0) M1 r h) (by decide)
theorem Search_goOn_63_24_c (rc167 : Int → Int → Int → Int → Int → am_M → Option am_M) (hrc167 : ∀ (a0 : Int) (a1 : Int) (a2 : Int) (a3 : Int) (a4 : Int) (M r : am_M), rc167 a0 a1 a2 a3 a4 M = some r → Ch [63, 66, 67] M r)   (x5 : Int) (M : am_M) (r : am_M) (h : Search_goOn_63_24  rc167  x5 M = some r) : Ch [63, 66, 67] M r := by
  have hC : Ch [63, 66, 67] M M := Ch.rf
  obtain ⟨M1, eM, h⟩ := fw_i h
  have hC := hC.up (by decide) eM
  obtain ⟨hc, M2, eM, h⟩ := cpy_i h
  have hC := hC.cp (by decide) eM
  cases h
  exact hC
theorem Search_goOn_63_139_c (rc167 : Int → Int → Int → Int → Int → am_M → Option am_M) (hrc167 : ∀ (a0 : Int) (a1 : Int) (a2 : Int) (a3 : Int) (a4 : Int) (M r : am_M), rc167 a0 a1 a2 a3 a4 M = some r → Ch [63, 66, 67] M r)    (M : am_M) (r : am_M) (h : Search_goOn_63_139  rc167   M = some r) : Ch [63, 66, 67] M r := by
  have hC : Ch [63, 66, 67] M M := Ch.rf
  cases h
  exact hC
theorem Search_goOn_63_133_c (rc167 : Int → Int → Int → Int → Int → am_M → Option am_M) (hrc167 : ∀ (a0 : Int) (a1 : Int) (a2 : Int) (a3 : Int) (a4 : Int) (M r : am_M), rc167 a0 a1 a2 a3 a4 M = some r → Ch [63, 66, 67] M r) (k49 : Int → Int → Int → Int → Int → Int → am_M → Option (am_M)) (hk49 : ∀ (x1 : Int) (x2 : Int) (x3 : Int) (x4 : Int) (x5 : Int) (x6 : Int) (M : am_M) (r : am_M), k49 x1 x2 x3 x4 x5 x6 M = some r → Ch [63, 66, 67] M r) (x1 : Int) (x2 : Int) (x3 : Int) (x4 : Int) (x5 : Int) (x6 : Int) (M : am_M) (r : am_M) (h : Search_goOn_63_133  rc167 k49 x1 x2 x3 x4 x5 x6 M = some r) : Ch [63, 66, 67] M r := by
  have hC : Ch [63, 66, 67] M M := Ch.rf
  exact hC.tr (hk49 (x1) (x2) (x3) (x4) (x5) ((x6) + (1)) M r h) (by decide)
theorem Search_goOn_63_49_c (rc167 : Int → Int → Int → Int → Int → am_M → Option am_M) (hrc167 : ∀ (a0 : Int) (a1 : Int) (a2 : Int) (a3 : Int) (a4 : Int) (M r : am_M), rc167 a0 a1 a2 a3 a4 M = some r → Ch [63, 66, 67] M r)   : ∀ (n : Nat) (x1 : Int) (x2 : Int) (x3 : Int) (x4 : Int) (x5 : Int) (x6 : Int) (M : am_M) (r : am_M), Search_goOn_63_49  rc167  n x1 x2 x3 x4 x5 x6 M = some r → Ch [63, 66, 67] M r
  | 0, _, _, _, _, _, _, M, r, h => by cases h
  | n + 1, x1, x2, x3, x4, x5, x6, M, r, h => by
    have ih := Search_goOn_63_49_c rc167 hrc167   n
    have hC : Ch [63, 66, 67] M M := Ch.rf
    obtain ⟨hR, ⟨hc, h⟩ | ⟨hc, h⟩⟩ := c_ge_i h
    · skip
      exact hC.tr (Search_goOn_63_139_c rc167 hrc167    M r h) (by decide)
    · skip
      obtain ⟨hR, ⟨hc, h⟩ | ⟨hc, h⟩⟩ := c_ge_i h
      · skip
        exact hC.tr (Search_goOn_63_139_c rc167 hrc167    M r h) (by decide)
      · skip
        obtain ⟨hR, ⟨hc, h⟩ | ⟨hc, h⟩⟩ := c_ne_i h
        · skip
          exact hC.tr (Search_goOn_63_133_c rc167 hrc167 (Search_goOn_63_49  rc167  n) ih (x1) (x2) (x3) (x4) (x5) (x6) M r h) (by decide)
        · skip
          obtain ⟨hc, M1, eM, h⟩ := wa_i h
          have hC := hC.up (by decide) eM
          obtain ⟨hc, v2, ev, h⟩ := rd_i h
          obtain ⟨v3, hv, h⟩ := ob_i h
          obtain ⟨hc, v4, ev, h⟩ := rd_i h
          obtain ⟨hc, v5, ev, h⟩ := rd_i h
          obtain ⟨M6, hv, h⟩ := ob_i h
          have hC := hC.tr (hrc167 ((x1) + (1)) (b_or (x2) (b_shl (1) (x6))) (v4) ((x4) + (v3)) ((x5) + ((v5) * ((x4) + (v3)))) M1 _ hv) (by decide)
          exact hC.tr (Search_goOn_63_133_c rc167 hrc167 (Search_goOn_63_49  rc167  n) ih (x1) (x2) (x3) (x4) (x5) (x6) M6 r h) (by decide)
theorem Search_goOn_63_c (rc167 : Int → Int → Int → Int → Int → am_M → Option am_M) (hrc167 : ∀ (a0 : Int) (a1 : Int) (a2 : Int) (a3 : Int) (a4 : Int) (M r : am_M), rc167 a0 a1 a2 a3 a4 M = some r → Ch [63, 66, 67] M r)   (x1 : Int) (x2 : Int) (x3 : Int) (x4 : Int) (x5 : Int) (M : am_M) (r : am_M) (h : Search_goOn_63  rc167  x1 x2 x3 x4 x5 M = some r) : Ch [63, 66, 67] M r := by
  have hC : Ch [63, 66, 67] M M := Ch.rf
  obtain ⟨hR, ⟨hc, h⟩ | ⟨hc, h⟩⟩ := c_lt_i h
  · skip
    obtain ⟨hR, ⟨hc, h⟩ | ⟨hc, h⟩⟩ := c_ge_i h
    · skip
      exact hC.tr (Search_goOn_63_24_c rc167 hrc167   (x5) M r h) (by decide)
    · skip
      obtain ⟨hR, ⟨hc, h⟩ | ⟨hc, h⟩⟩ := c_lt_i h
      · skip
        exact hC.tr (Search_goOn_63_49_c rc167 hrc167   am_big (x1) (x2) (x3) (x4) (x5) (0) M r h) (by decide)
      · skip
        exact hC.tr (Search_goOn_63_24_c rc167 hrc167   (x5) M r h) (by decide)
  · skip
    cases h
    exact hC
theorem K_Search_goOn_R_c : ∀ (n w : Nat) (a0 : Int) (a1 : Int) (a2 : Int) (a3 : Int) (a4 : Int) (M r : am_M), K_Search_goOn_R n w a0 a1 a2 a3 a4 M = some r → Ch [63, 66, 67] M r
  | 0, _, _, _, _, _, _, M, r, h => by cases h
  | n + 1, w, a0, a1, a2, a3, a4, M, r, h => by
    have ih := K_Search_goOn_R_c n
    exact (Search_goOn_63_c _ (fun b0 b1 b2 b3 b4 M r h => (ih 0 b0 b1 b2 b3 b4 M r h).mo (by decide)) a0 a1 a2 a3 a4 M r h).mo (by decide)
theorem K_Search_goOn_c (a0 : Int) (a1 : Int) (a2 : Int) (a3 : Int) (a4 : Int) (M r : am_M) (h : K_Search_goOn a0 a1 a2 a3 a4 M = some r) : Ch [63, 66, 67] M r := K_Search_goOn_R_c _ _ a0 a1 a2 a3 a4 M r h
theorem Search_findBest_63_c     (x1 : Int) (M : am_M) (r : am_M) (h : Search_findBest_63    x1 M = some r) : Ch [63, 66, 67] M r := by
  have hC : Ch [63, 66, 67] M M := Ch.rf
  obtain ⟨M1, eM, h⟩ := fw_i h
  have hC := hC.up (by decide) eM
  obtain ⟨M2, hv, h⟩ := ob_i h
  have hC := hC.tr (K_Search_goOn_c (0) (0) (x1) (0) (0) M1 _ hv) (by decide)
  cases h
  exact hC
theorem P_seek_110_c     (s0 : Int) (M : am_M) (r : Int × am_M) (h : P_seek_110    s0 M = some r) : Ch [14, 63, 64, 65, 66, 67] M r.2 := by
  have hC : Ch [14, 63, 64, 65, 66, 67] M M := Ch.rf
  cases h
  exact hC
theorem P_seek_65_c     (x2 : Int) (M : am_M) (r : Int × am_M) (h : P_seek_65    x2 M = some r) : Ch [14, 63, 64, 65, 66, 67] M r.2 := by
  have hC : Ch [14, 63, 64, 65, 66, 67] M M := Ch.rf
  obtain ⟨v1, hv, h⟩ := ob_i h
  obtain ⟨M2, hv, h⟩ := ob_i h
  have hC := hC.tr (Search_findBest_63_c (v1) M _ hv) (by decide)
  obtain ⟨hR, ⟨hc, h⟩ | ⟨hc, h⟩⟩ := c_ne_i h
  · skip
    obtain ⟨v3, hv, h⟩ := ob_i h
    exact hC.tr (P_seek_110_c     (v3) M2 r h) (by decide)
  · skip
    exact hC.tr (P_seek_110_c     (M2 63 5) M2 r h) (by decide)
theorem P_seek_27_c      (M : am_M) (r : Int × am_M) (h : P_seek_27     M = some r) : Ch [14, 63, 64, 65, 66, 67] M r.2 := by
  have hC : Ch [14, 63, 64, 65, 66, 67] M M := Ch.rf
  cases h
  exact hC
theorem P_seek_62_c      (M : am_M) (r : Int × am_M) (h : P_seek_62     M = some r) : Ch [14, 63, 64, 65, 66, 67] M r.2 := by
  have hC : Ch [14, 63, 64, 65, 66, 67] M M := Ch.rf
  cases h
  exact hC
theorem P_seek_c     (x1 : Int) (x2 : Int) (M : am_M) (r : Int × am_M) (h : P_seek    x1 x2 M = some r) : Ch [14, 63, 64, 65, 66, 67] M r.2 := by
  have hC : Ch [14, 63, 64, 65, 66, 67] M M := Ch.rf
  obtain ⟨hR, ⟨hc, h⟩ | ⟨hc, h⟩⟩ := c_lt_i h
  · skip
    exact hC.tr (P_seek_27_c      M r h) (by decide)
  · skip
    obtain ⟨hR, ⟨hc, h⟩ | ⟨hc, h⟩⟩ := c_gt_i h
    · skip
      exact hC.tr (P_seek_27_c      M r h) (by decide)
    · skip
      obtain ⟨v1, M2, hv, h⟩ := oc_i h
      have hC := hC.tr (Tape_take_c ((2) * (x1)) (2) (12) M _ hv) (by decide)
      obtain ⟨hR, ⟨hc, h⟩ | ⟨hc, h⟩⟩ := c_ne_i h
      · skip
        obtain ⟨v3, M4, hv, h⟩ := oc_i h
        have hC := hC.tr (Search_readCells_63_c (x1) M2 _ hv) (by decide)
        obtain ⟨hR, ⟨hc, h⟩ | ⟨hc, h⟩⟩ := c_ne_i h
        · skip
          obtain ⟨hR, ⟨hc, h⟩ | ⟨hc, h⟩⟩ := c_eq_i h
          · skip
            exact hC.tr (P_seek_65_c     (x2) M4 r h) (by decide)
          · skip
            obtain ⟨hR, ⟨hc, h⟩ | ⟨hc, h⟩⟩ := c_lt_i h
            · skip
              exact hC.tr (P_seek_62_c      M4 r h) (by decide)
            · skip
              obtain ⟨hR, ⟨hc, h⟩ | ⟨hc, h⟩⟩ := c_lt_i h
              · skip
                exact hC.tr (P_seek_65_c     (x2) M4 r h) (by decide)
              · skip
                exact hC.tr (P_seek_62_c      M4 r h) (by decide)
        · skip
          cases h
          exact hC
      · skip
        exact hC.tr (P_seek_27_c      M2 r h) (by decide)
theorem Overgrowth_readBlazes_68_195_c   (k8 : Int → Int → Int → am_M → Option (Int × am_M)) (k136 : Int → Int → Int → Int → Int → Int → Int → Int → Int → am_M → Option (Int × am_M)) (hk8 : ∀ (x2 : Int) (x3 : Int) (x4 : Int) (M : am_M) (r : Int × am_M), k8 x2 x3 x4 M = some r → Ch [12, 13, 68, 70, 71] M r.2) (hk136 : ∀ (x2 : Int) (x3 : Int) (x4 : Int) (x5 : Int) (x6 : Int) (x7 : Int) (x8 : Int) (x9 : Int) (x10 : Int) (M : am_M) (r : Int × am_M), k136 x2 x3 x4 x5 x6 x7 x8 x9 x10 M = some r → Ch [12, 13, 68, 70, 71] M r.2) (x2 : Int) (x3 : Int) (x4 : Int) (x5 : Int) (x6 : Int) (x7 : Int) (x8 : Int) (x9 : Int) (x10 : Int) (M : am_M) (r : Int × am_M) (h : Overgrowth_readBlazes_68_195   k8 k136 x2 x3 x4 x5 x6 x7 x8 x9 x10 M = some r) : Ch [12, 13, 68, 70, 71] M r.2 := by
  have hC : Ch [12, 13, 68, 70, 71] M M := Ch.rf
  obtain ⟨v1, M2, hv, h⟩ := oc_i h
  have hC := hC.tr (Law_growing_5_c (x5) (x6) (x9) (x3) M _ hv) (by decide)
  obtain ⟨v3, hv, h⟩ := ob_i h
  exact hC.tr (hk136 (x2) (x3) (x4) (x5) (x6) (x7) (x8) (v3) ((x10) + (1)) M2 r h) (by decide)
theorem Overgrowth_readBlazes_68_185_c   (k8 : Int → Int → Int → am_M → Option (Int × am_M)) (k136 : Int → Int → Int → Int → Int → Int → Int → Int → Int → am_M → Option (Int × am_M)) (hk8 : ∀ (x2 : Int) (x3 : Int) (x4 : Int) (M : am_M) (r : Int × am_M), k8 x2 x3 x4 M = some r → Ch [12, 13, 68, 70, 71] M r.2) (hk136 : ∀ (x2 : Int) (x3 : Int) (x4 : Int) (x5 : Int) (x6 : Int) (x7 : Int) (x8 : Int) (x9 : Int) (x10 : Int) (M : am_M) (r : Int × am_M), k136 x2 x3 x4 x5 x6 x7 x8 x9 x10 M = some r → Ch [12, 13, 68, 70, 71] M r.2) (x2 : Int) (x3 : Int) (x4 : Int) (x5 : Int) (x6 : Int) (x7 : Int) (x8 : Int) (x9 : Int) (x10 : Int) (s1 : Int) (s2 : Int) (M : am_M) (r : Int × am_M) (h : Overgrowth_readBlazes_68_185   k8 k136 x2 x3 x4 x5 x6 x7 x8 x9 x10 s1 s2 M = some r) : Ch [12, 13, 68, 70, 71] M r.2 := by
  have hC : Ch [12, 13, 68, 70, 71] M M := Ch.rf
  obtain ⟨hc, M1, eM, h⟩ := wa_i h
  have hC := hC.up (by decide) eM
  obtain ⟨hc, M2, eM, h⟩ := wa_i h
  have hC := hC.up (by decide) eM
  exact hC.tr (Overgrowth_readBlazes_68_195_c   k8 k136 hk8 hk136 (x2) (x3) (x4) (x5) (x6) (x7) (x8) (x9) (x10) M2 r h) (by decide)
theorem Overgrowth_readBlazes_68_136_c   (k8 : Int → Int → Int → am_M → Option (Int × am_M)) (hk8 : ∀ (x2 : Int) (x3 : Int) (x4 : Int) (M : am_M) (r : Int × am_M), k8 x2 x3 x4 M = some r → Ch [12, 13, 68, 70, 71] M r.2) : ∀ (n : Nat) (x2 : Int) (x3 : Int) (x4 : Int) (x5 : Int) (x6 : Int) (x7 : Int) (x8 : Int) (x9 : Int) (x10 : Int) (M : am_M) (r : Int × am_M), Overgrowth_readBlazes_68_136   k8 n x2 x3 x4 x5 x6 x7 x8 x9 x10 M = some r → Ch [12, 13, 68, 70, 71] M r.2
  | 0, _, _, _, _, _, _, _, _, _, M, r, h => by cases h
  | n + 1, x2, x3, x4, x5, x6, x7, x8, x9, x10, M, r, h => by
    have ih := Overgrowth_readBlazes_68_136_c   k8 hk8 n
    have hC : Ch [12, 13, 68, 70, 71] M M := Ch.rf
    obtain ⟨hR, ⟨hc, h⟩ | ⟨hc, h⟩⟩ := c_gt_i h
    · skip
      obtain ⟨M1, eM, h⟩ := fw_i h
      have hC := hC.up (by decide) eM
      exact hC.tr (hk8 (x2) (x3) ((x4) + (1)) M1 r h) (by decide)
    · skip
      obtain ⟨hR, ⟨hc, h⟩ | ⟨hc, h⟩⟩ := c_lt_i h
      · skip
        exact hC.tr (Overgrowth_readBlazes_68_195_c   k8 (Overgrowth_readBlazes_68_136   k8 n) hk8 ih (x2) (x3) (x4) (x5) (x6) (x7) (x8) (x9) (x10) M r h) (by decide)
      · skip
        obtain ⟨hR, ⟨hc, h⟩ | ⟨hc, h⟩⟩ := c_gt_i h
        · skip
          exact hC.tr (Overgrowth_readBlazes_68_195_c   k8 (Overgrowth_readBlazes_68_136   k8 n) hk8 ih (x2) (x3) (x4) (x5) (x6) (x7) (x8) (x9) (x10) M r h) (by decide)
        · skip
          obtain ⟨hc, v2, ev, h⟩ := rd_i h
          obtain ⟨hR, ⟨hc, h⟩ | ⟨hc, h⟩⟩ := c_ge_i h
          · skip
            obtain ⟨hc, v3, ev, h⟩ := rd_i h
            exact hC.tr (Overgrowth_readBlazes_68_185_c   k8 (Overgrowth_readBlazes_68_136   k8 n) hk8 ih (x2) (x3) (x4) (x5) (x6) (x7) (x8) (x9) (x10) (x4) (v3) M r h) (by decide)
          · skip
            exact hC.tr (Overgrowth_readBlazes_68_185_c   k8 (Overgrowth_readBlazes_68_136   k8 n) hk8 ih (x2) (x3) (x4) (x5) (x6) (x7) (x8) (x9) (x10) (x4) (x10) M r h) (by decide)
theorem Overgrowth_readBlazes_68_241_c      (M : am_M) (r : Int × am_M) (h : Overgrowth_readBlazes_68_241     M = some r) : Ch [12, 13, 68, 70, 71] M r.2 := by
  have hC : Ch [12, 13, 68, 70, 71] M M := Ch.rf
  cases h
  exact hC
theorem Overgrowth_readBlazes_68_110_c      (M : am_M) (r : Int × am_M) (h : Overgrowth_readBlazes_68_110     M = some r) : Ch [12, 13, 68, 70, 71] M r.2 := by
  have hC : Ch [12, 13, 68, 70, 71] M M := Ch.rf
  cases h
  exact hC
theorem Overgrowth_readBlazes_68_8_c     : ∀ (n : Nat) (x2 : Int) (x3 : Int) (x4 : Int) (M : am_M) (r : Int × am_M), Overgrowth_readBlazes_68_8    n x2 x3 x4 M = some r → Ch [12, 13, 68, 70, 71] M r.2
  | 0, _, _, _, M, r, h => by cases h
  | n + 1, x2, x3, x4, M, r, h => by
    have ih := Overgrowth_readBlazes_68_8_c     n
    have hC : Ch [12, 13, 68, 70, 71] M M := Ch.rf
    obtain ⟨hR, ⟨hc, h⟩ | ⟨hc, h⟩⟩ := c_ge_i h
    · skip
      exact hC.tr (Overgrowth_readBlazes_68_241_c      M r h) (by decide)
    · skip
      obtain ⟨hR, ⟨hc, h⟩ | ⟨hc, h⟩⟩ := c_ge_i h
      · skip
        exact hC.tr (Overgrowth_readBlazes_68_241_c      M r h) (by decide)
      · skip
        obtain ⟨v1, hv, h⟩ := ob_i h
        obtain ⟨v2, hv, h⟩ := ob_i h
        obtain ⟨v3, hv, h⟩ := ob_i h
        obtain ⟨v4, hv, h⟩ := ob_i h
        obtain ⟨hR, ⟨hc, h⟩ | ⟨hc, h⟩⟩ := c_lt_i h
        · skip
          exact hC.tr (Overgrowth_readBlazes_68_110_c      M r h) (by decide)
        · skip
          obtain ⟨hR, ⟨hc, h⟩ | ⟨hc, h⟩⟩ := c_ge_i h
          · skip
            exact hC.tr (Overgrowth_readBlazes_68_110_c      M r h) (by decide)
          · skip
            obtain ⟨hR, ⟨hc, h⟩ | ⟨hc, h⟩⟩ := c_lt_i h
            · skip
              exact hC.tr (Overgrowth_readBlazes_68_110_c      M r h) (by decide)
            · skip
              obtain ⟨hR, ⟨hc, h⟩ | ⟨hc, h⟩⟩ := c_gt_i h
              · skip
                exact hC.tr (Overgrowth_readBlazes_68_110_c      M r h) (by decide)
              · skip
                obtain ⟨hR, ⟨hc, h⟩ | ⟨hc, h⟩⟩ := c_lt_i h
                · skip
                  exact hC.tr (Overgrowth_readBlazes_68_110_c      M r h) (by decide)
                · skip
                  obtain ⟨hR, ⟨hc, h⟩ | ⟨hc, h⟩⟩ := c_gt_i h
                  · skip
                    exact hC.tr (Overgrowth_readBlazes_68_110_c      M r h) (by decide)
                  · skip
                    obtain ⟨hR, ⟨hc, h⟩ | ⟨hc, h⟩⟩ := c_le_i h
                    · skip
                      obtain ⟨hc, M5, eM, h⟩ := wa_i h
                      have hC := hC.up (by decide) eM
                      obtain ⟨hc, M6, eM, h⟩ := wa_i h
                      have hC := hC.up (by decide) eM
                      exact hC.tr (Overgrowth_readBlazes_68_136_c   (Overgrowth_readBlazes_68_8    n) ih am_big (x2) (x3) (x4) (v1) (v2) (v3) (v4) (0) (0) M6 r h) (by decide)
                    · skip
                      exact hC.tr (Overgrowth_readBlazes_68_110_c      M r h) (by decide)
theorem Overgrowth_readBlazes_68_c     (x2 : Int) (x3 : Int) (M : am_M) (r : Int × am_M) (h : Overgrowth_readBlazes_68    x2 x3 M = some r) : Ch [12, 13, 68, 70, 71] M r.2 := by
  have hC : Ch [12, 13, 68, 70, 71] M M := Ch.rf
  obtain ⟨M1, eM, h⟩ := fw_i h
  have hC := hC.up (by decide) eM
  exact hC.tr (Overgrowth_readBlazes_68_8_c     am_big (x2) (x3) (0) M1 r h) (by decide)
theorem P_blazes_27_c      (M : am_M) (r : Int × am_M) (h : P_blazes_27     M = some r) : Ch [12, 13, 14, 68, 70, 71] M r.2 := by
  have hC : Ch [12, 13, 14, 68, 70, 71] M M := Ch.rf
  cases h
  exact hC
theorem P_blazes_118_c      (M : am_M) (r : Int × am_M) (h : P_blazes_118     M = some r) : Ch [12, 13, 14, 68, 70, 71] M r.2 := by
  have hC : Ch [12, 13, 14, 68, 70, 71] M M := Ch.rf
  cases h
  exact hC
theorem P_blazes_92_c     (x1 : Int) (x2 : Int) (M : am_M) (r : Int × am_M) (h : P_blazes_92    x1 x2 M = some r) : Ch [12, 13, 14, 68, 70, 71] M r.2 := by
  have hC : Ch [12, 13, 14, 68, 70, 71] M M := Ch.rf
  obtain ⟨hR, ⟨hc, h⟩ | ⟨hc, h⟩⟩ := c_lt_i h
  · skip
    exact hC.tr (P_blazes_118_c      M r h) (by decide)
  · skip
    obtain ⟨hR, ⟨hc, h⟩ | ⟨hc, h⟩⟩ := c_ge_i h
    · skip
      exact hC.tr (P_blazes_118_c      M r h) (by decide)
    · skip
      obtain ⟨v1, hv, h⟩ := ob_i h
      cases h
      exact hC
theorem P_blazes_c     (x1 : Int) (x2 : Int) (M : am_M) (r : Int × am_M) (h : P_blazes    x1 x2 M = some r) : Ch [12, 13, 14, 68, 70, 71] M r.2 := by
  have hC : Ch [12, 13, 14, 68, 70, 71] M M := Ch.rf
  obtain ⟨hR, ⟨hc, h⟩ | ⟨hc, h⟩⟩ := c_lt_i h
  · skip
    exact hC.tr (P_blazes_27_c      M r h) (by decide)
  · skip
    obtain ⟨hR, ⟨hc, h⟩ | ⟨hc, h⟩⟩ := c_gt_i h
    · skip
      exact hC.tr (P_blazes_27_c      M r h) (by decide)
    · skip
      obtain ⟨v1, M2, hv, h⟩ := oc_i h
      have hC := hC.tr (Tape_take_c ((4) * (x1)) (4) (32) M _ hv) (by decide)
      obtain ⟨hR, ⟨hc, h⟩ | ⟨hc, h⟩⟩ := c_ne_i h
      · skip
        obtain ⟨v3, M4, hv, h⟩ := oc_i h
        have hC := hC.tr (Overgrowth_readBlazes_68_c (x1) (M2 26 13) M2 _ hv) (by decide)
        obtain ⟨hR, ⟨hc, h⟩ | ⟨hc, h⟩⟩ := c_ne_i h
        · skip
          obtain ⟨hR, ⟨hc, h⟩ | ⟨hc, h⟩⟩ := c_ne_i h
          · skip
            obtain ⟨hR, ⟨hc, h⟩ | ⟨hc, h⟩⟩ := c_lt_i h
            · skip
              exact hC.tr (P_blazes_92_c     (x1) (x2) M4 r h) (by decide)
            · skip
              obtain ⟨hR, ⟨hc, h⟩ | ⟨hc, h⟩⟩ := c_ge_i h
              · skip
                exact hC.tr (P_blazes_92_c     (x1) (x2) M4 r h) (by decide)
              · skip
                obtain ⟨v5, hv, h⟩ := ob_i h
                cases h
                exact hC
          · skip
            obtain ⟨v6, hv, h⟩ := ob_i h
            cases h
            exact hC
        · skip
          cases h
          exact hC
      · skip
        exact hC.tr (P_blazes_27_c      M2 r h) (by decide)
theorem P_sights_116_c   (k73 : Int → Int → Int → Int → Int → Int → am_M → Option (Int × am_M)) (hk73 : ∀ (x1 : Int) (x2 : Int) (x3 : Int) (x4 : Int) (x5 : Int) (x6 : Int) (M : am_M) (r : Int × am_M), k73 x1 x2 x3 x4 x5 x6 M = some r → Ch [14] M r.2) (x1 : Int) (x2 : Int) (x3 : Int) (x4 : Int) (x5 : Int) (x6 : Int) (M : am_M) (r : Int × am_M) (h : P_sights_116   k73 x1 x2 x3 x4 x5 x6 M = some r) : Ch [14] M r.2 := by
  have hC : Ch [14] M M := Ch.rf
  exact hC.tr (hk73 (x1) (x2) (x3) (x4) (x5) ((x6) + (1)) M r h) (by decide)
theorem P_sights_140_c     (s0 : Int) (M : am_M) (r : Int × am_M) (h : P_sights_140    s0 M = some r) : Ch [14] M r.2 := by
  have hC : Ch [14] M M := Ch.rf
  cases h
  exact hC
theorem P_sights_110_c   (k73 : Int → Int → Int → Int → Int → Int → am_M → Option (Int × am_M)) (hk73 : ∀ (x1 : Int) (x2 : Int) (x3 : Int) (x4 : Int) (x5 : Int) (x6 : Int) (M : am_M) (r : Int × am_M), k73 x1 x2 x3 x4 x5 x6 M = some r → Ch [14] M r.2) (x1 : Int) (x2 : Int) (x3 : Int) (x6 : Int) (s0 : Int) (M : am_M) (r : Int × am_M) (h : P_sights_110   k73 x1 x2 x3 x6 s0 M = some r) : Ch [14] M r.2 := by
  have hC : Ch [14] M M := Ch.rf
  exact hC.tr (P_sights_116_c   k73 hk73 (x1) (x2) (x3) (s0) (x6) (x6) M r h) (by decide)
theorem P_sights_73_c     : ∀ (n : Nat) (x1 : Int) (x2 : Int) (x3 : Int) (x4 : Int) (x5 : Int) (x6 : Int) (M : am_M) (r : Int × am_M), P_sights_73    n x1 x2 x3 x4 x5 x6 M = some r → Ch [14] M r.2
  | 0, _, _, _, _, _, _, M, r, h => by cases h
  | n + 1, x1, x2, x3, x4, x5, x6, M, r, h => by
    have ih := P_sights_73_c     n
    have hC : Ch [14] M M := Ch.rf
    obtain ⟨hR, ⟨hc, h⟩ | ⟨hc, h⟩⟩ := c_ge_i h
    · skip
      obtain ⟨hR, ⟨hc, h⟩ | ⟨hc, h⟩⟩ := c_ne_i h
      · skip
        obtain ⟨hR, ⟨hc, h⟩ | ⟨hc, h⟩⟩ := c_ne_i h
        · skip
          exact hC.tr (P_sights_140_c     (x5) M r h) (by decide)
        · skip
          exact hC.tr (P_sights_140_c     (x4) M r h) (by decide)
      · skip
        cases h
        exact hC
    · skip
      obtain ⟨v1, hv, h⟩ := ob_i h
      obtain ⟨hR, ⟨hc, h⟩ | ⟨hc, h⟩⟩ := c_eq_i h
      · skip
        exact hC.tr (P_sights_116_c   (P_sights_73    n) ih (x1) (x2) (x3) (x4) (x5) (x6) M r h) (by decide)
      · skip
        obtain ⟨hR, ⟨hc, h⟩ | ⟨hc, h⟩⟩ := c_ge_i h
        · skip
          exact hC.tr (P_sights_110_c   (P_sights_73    n) ih (x1) (x2) ((x3) + (1)) (x6) (x4) M r h) (by decide)
        · skip
          exact hC.tr (P_sights_110_c   (P_sights_73    n) ih (x1) (x2) ((x3) + (1)) (x6) (x6) M r h) (by decide)
theorem P_sights_27_c     : ∀ (n : Nat) (x1 : Int) (x2 : Int) (x3 : Int) (M : am_M) (r : Int × am_M), P_sights_27    n x1 x2 x3 M = some r → Ch [14] M r.2
  | 0, _, _, _, M, r, h => by cases h
  | n + 1, x1, x2, x3, M, r, h => by
    have ih := P_sights_27_c     n
    have hC : Ch [14] M M := Ch.rf
    obtain ⟨hR, ⟨hc, h⟩ | ⟨hc, h⟩⟩ := c_ge_i h
    · skip
      exact hC.tr (P_sights_73_c     am_big (x1) (x2) (0) (-2) (-2) ((x1) - (1)) M r h) (by decide)
    · skip
      obtain ⟨v1, hv, h⟩ := ob_i h
      obtain ⟨v2, hv, h⟩ := ob_i h
      obtain ⟨hR, ⟨hc, h⟩ | ⟨hc, h⟩⟩ := c_ne_i h
      · skip
        exact hC.tr (ih (x1) (x2) ((x3) + (1)) M r h) (by decide)
      · skip
        obtain ⟨v3, hv, h⟩ := ob_i h
        cases h
        exact hC
theorem P_sights_23_c      (M : am_M) (r : Int × am_M) (h : P_sights_23     M = some r) : Ch [14] M r.2 := by
  have hC : Ch [14] M M := Ch.rf
  cases h
  exact hC
theorem P_sights_c     (x1 : Int) (x2 : Int) (M : am_M) (r : Int × am_M) (h : P_sights    x1 x2 M = some r) : Ch [14] M r.2 := by
  have hC : Ch [14] M M := Ch.rf
  obtain ⟨hR, ⟨hc, h⟩ | ⟨hc, h⟩⟩ := c_lt_i h
  · skip
    exact hC.tr (P_sights_23_c      M r h) (by decide)
  · skip
    obtain ⟨hR, ⟨hc, h⟩ | ⟨hc, h⟩⟩ := c_gt_i h
    · skip
      exact hC.tr (P_sights_23_c      M r h) (by decide)
    · skip
      obtain ⟨v1, M2, hv, h⟩ := oc_i h
      have hC := hC.tr (Tape_take_c (x1) (1) (20) M _ hv) (by decide)
      obtain ⟨hR, ⟨hc, h⟩ | ⟨hc, h⟩⟩ := c_ne_i h
      · skip
        exact hC.tr (P_sights_27_c     am_big (x1) (x2) (0) M2 r h) (by decide)
      · skip
        exact hC.tr (P_sights_23_c      M2 r h) (by decide)
theorem P_seed_11_c      (M : am_M) (r : Int × am_M) (h : P_seed_11     M = some r) : Ch [26] M r.2 := by
  have hC : Ch [26] M M := Ch.rf
  cases h
  exact hC
theorem P_seed_c     (x1 : Int) (M : am_M) (r : Int × am_M) (h : P_seed    x1 M = some r) : Ch [26] M r.2 := by
  have hC : Ch [26] M M := Ch.rf
  obtain ⟨hR, ⟨hc, h⟩ | ⟨hc, h⟩⟩ := c_lt_i h
  · skip
    exact hC.tr (P_seed_11_c      M r h) (by decide)
  · skip
    obtain ⟨hR, ⟨hc, h⟩ | ⟨hc, h⟩⟩ := c_le_i h
    · skip
      obtain ⟨M1, eM, h⟩ := fw_i h
      have hC := hC.up (by decide) eM
      cases h
      exact hC
    · skip
      exact hC.tr (P_seed_11_c      M r h) (by decide)
theorem Trip_copyFrom_42_26_c      (M : am_M) (r : am_M) (h : Trip_copyFrom_42_26     M = some r) : Ch [42, 43, 44, 45, 46, 47, 48, 49] M r := by
  have hC : Ch [42, 43, 44, 45, 46, 47, 48, 49] M M := Ch.rf
  obtain ⟨hc, M1, eM, h⟩ := cpy_i h
  have hC := hC.cp (by decide) eM
  obtain ⟨hc, M2, eM, h⟩ := cpy_i h
  have hC := hC.cp (by decide) eM
  obtain ⟨hc, M3, eM, h⟩ := cpy_i h
  have hC := hC.cp (by decide) eM
  obtain ⟨hc, M4, eM, h⟩ := cpy_i h
  have hC := hC.cp (by decide) eM
  obtain ⟨hc, M5, eM, h⟩ := cpy_i h
  have hC := hC.cp (by decide) eM
  obtain ⟨hc, M6, eM, h⟩ := cpy_i h
  have hC := hC.cp (by decide) eM
  obtain ⟨hc, M7, eM, h⟩ := cpy_i h
  have hC := hC.cp (by decide) eM
  obtain ⟨M8, eM, h⟩ := fw_i h
  have hC := hC.up (by decide) eM
  obtain ⟨M9, eM, h⟩ := fw_i h
  have hC := hC.up (by decide) eM
  obtain ⟨M10, eM, h⟩ := fw_i h
  have hC := hC.up (by decide) eM
  obtain ⟨M11, eM, h⟩ := fw_i h
  have hC := hC.up (by decide) eM
  obtain ⟨M12, eM, h⟩ := fw_i h
  have hC := hC.up (by decide) eM
  obtain ⟨M13, eM, h⟩ := fw_i h
  have hC := hC.up (by decide) eM
  cases h
  exact hC
theorem P_keep_c      (M : am_M) (r : Int × am_M) (h : P_keep     M = some r) : Ch [0, 42, 43, 44, 45, 46, 47, 48, 49] M r.2 := by
  have hC : Ch [0, 42, 43, 44, 45, 46, 47, 48, 49] M M := Ch.rf
  obtain ⟨M1, hv, h⟩ := ob_i h
  have hC := hC.tr (Trip_copyFrom_42_26_c M _ hv) (by decide)
  obtain ⟨hc, M2, eM, h⟩ := fz_i h
  have hC := hC.up (by decide) eM
  cases h
  exact hC
theorem Trip_copyFrom_26_42_c      (M : am_M) (r : am_M) (h : Trip_copyFrom_26_42     M = some r) : Ch [26, 27, 28, 29, 30, 31, 32, 33] M r := by
  have hC : Ch [26, 27, 28, 29, 30, 31, 32, 33] M M := Ch.rf
  obtain ⟨hc, M1, eM, h⟩ := cpy_i h
  have hC := hC.cp (by decide) eM
  obtain ⟨hc, M2, eM, h⟩ := cpy_i h
  have hC := hC.cp (by decide) eM
  obtain ⟨hc, M3, eM, h⟩ := cpy_i h
  have hC := hC.cp (by decide) eM
  obtain ⟨hc, M4, eM, h⟩ := cpy_i h
  have hC := hC.cp (by decide) eM
  obtain ⟨hc, M5, eM, h⟩ := cpy_i h
  have hC := hC.cp (by decide) eM
  obtain ⟨hc, M6, eM, h⟩ := cpy_i h
  have hC := hC.cp (by decide) eM
  obtain ⟨hc, M7, eM, h⟩ := cpy_i h
  have hC := hC.cp (by decide) eM
  obtain ⟨M8, eM, h⟩ := fw_i h
  have hC := hC.up (by decide) eM
  obtain ⟨M9, eM, h⟩ := fw_i h
  have hC := hC.up (by decide) eM
  obtain ⟨M10, eM, h⟩ := fw_i h
  have hC := hC.up (by decide) eM
  obtain ⟨M11, eM, h⟩ := fw_i h
  have hC := hC.up (by decide) eM
  obtain ⟨M12, eM, h⟩ := fw_i h
  have hC := hC.up (by decide) eM
  obtain ⟨M13, eM, h⟩ := fw_i h
  have hC := hC.up (by decide) eM
  cases h
  exact hC
theorem P_undo_c      (M : am_M) (r : Int × am_M) (h : P_undo     M = some r) : Ch [26, 27, 28, 29, 30, 31, 32, 33] M r.2 := by
  have hC : Ch [26, 27, 28, 29, 30, 31, 32, 33] M M := Ch.rf
  obtain ⟨hR, ⟨hc, h⟩ | ⟨hc, h⟩⟩ := c_ne_i h
  · skip
    obtain ⟨M1, hv, h⟩ := ob_i h
    have hC := hC.tr (Trip_copyFrom_26_42_c M _ hv) (by decide)
    cases h
    exact hC
  · skip
    cases h
    exact hC
theorem P_check_19_c     : ∀ (n : Nat) (x1 : Int) (x2 : Int) (M : am_M) (r : Int × am_M), P_check_19    n x1 x2 M = some r → Ch [14] M r.2
  | 0, _, _, M, r, h => by cases h
  | n + 1, x1, x2, M, r, h => by
    have ih := P_check_19_c     n
    have hC : Ch [14] M M := Ch.rf
    obtain ⟨hR, ⟨hc, h⟩ | ⟨hc, h⟩⟩ := c_ge_i h
    · skip
      cases h
      exact hC
    · skip
      obtain ⟨v1, hv, h⟩ := ob_i h
      obtain ⟨v2, hv, h⟩ := ob_i h
      obtain ⟨hR, ⟨hc, h⟩ | ⟨hc, h⟩⟩ := c_eq_i h
      · skip
        exact hC.tr (ih (x1) ((x2) + (1)) M r h) (by decide)
      · skip
        cases h
        exact hC
theorem P_check_c     (x1 : Int) (M : am_M) (r : Int × am_M) (h : P_check    x1 M = some r) : Ch [14] M r.2 := by
  have hC : Ch [14] M M := Ch.rf
  obtain ⟨v1, M2, hv, h⟩ := oc_i h
  have hC := hC.tr (Tape_take_c (x1) (0) (100) M _ hv) (by decide)
  obtain ⟨hR, ⟨hc, h⟩ | ⟨hc, h⟩⟩ := c_ne_i h
  · skip
    exact hC.tr (P_check_19_c     am_big (x1) (0) M2 r h) (by decide)
  · skip
    cases h
    exact hC
theorem R_push_3_c     : ∀ (n : Nat) (x1 : Int) (x2 : Int) (M : am_M) (r : am_M), R_push_3    n x1 x2 M = some r → Ch [73, 74] M r
  | 0, _, _, M, r, h => by cases h
  | n + 1, x1, x2, M, r, h => by
    have ih := R_push_3_c     n
    have hC : Ch [73, 74] M M := Ch.rf
    obtain ⟨hR, ⟨hc, h⟩ | ⟨hc, h⟩⟩ := c_lt_i h
    · skip
      cases h
      exact hC
    · skip
      obtain ⟨hc, M1, eM, h⟩ := w8_i h
      have hC := hC.up (by decide) eM
      obtain ⟨M2, eM, h⟩ := fw_i h
      have hC := hC.up (by decide) eM
      exact hC.tr (ih (x1) ((x2) + (-8)) M2 r h) (by decide)
theorem R_push_c     (x1 : Int) (M : am_M) (r : am_M) (h : R_push    x1 M = some r) : Ch [73, 74] M r := by
  have hC : Ch [73, 74] M M := Ch.rf
  exact hC.tr (R_push_3_c     am_big (x1) (24) M r h) (by decide)
theorem R_feed_c     (x1 : Int) (x2 : Int) (x3 : Int) (x4 : Int) (x5 : Int) (M : am_M) (r : Int × am_M) (h : R_feed    x1 x2 x3 x4 x5 M = some r) : Ch [73, 74] M r.2 := by
  have hC : Ch [73, 74] M M := Ch.rf
  obtain ⟨hR, ⟨hc, h⟩ | ⟨hc, h⟩⟩ := c_le_i h
  · skip
    obtain ⟨M1, hv, h⟩ := ob_i h
    have hC := hC.tr (R_push_c (x1) M _ hv) (by decide)
    obtain ⟨M2, hv, h⟩ := ob_i h
    have hC := hC.tr (R_push_c (x2) M1 _ hv) (by decide)
    obtain ⟨M3, hv, h⟩ := ob_i h
    have hC := hC.tr (R_push_c (x3) M2 _ hv) (by decide)
    obtain ⟨M4, hv, h⟩ := ob_i h
    have hC := hC.tr (R_push_c (x4) M3 _ hv) (by decide)
    obtain ⟨M5, hv, h⟩ := ob_i h
    have hC := hC.tr (R_push_c (x5) M4 _ hv) (by decide)
    cases h
    exact hC
  · skip
    cases h
    exact hC
theorem R_begins_c     (x1 : Int) (M : am_M) (r : am_M) (h : R_begins    x1 M = some r) : Ch [73] M r := by
  have hC : Ch [73] M M := Ch.rf
  obtain ⟨M1, eM, h⟩ := fw_i h
  have hC := hC.up (by decide) eM
  obtain ⟨M2, eM, h⟩ := fw_i h
  have hC := hC.up (by decide) eM
  obtain ⟨M3, eM, h⟩ := fw_i h
  have hC := hC.up (by decide) eM
  obtain ⟨M4, eM, h⟩ := fw_i h
  have hC := hC.up (by decide) eM
  cases h
  exact hC
theorem R_wrongs_22_c     (s1 : Int) (M : am_M) (r : am_M) (h : R_wrongs_22    s1 M = some r) : Ch [73] M r := by
  have hC : Ch [73] M M := Ch.rf
  obtain ⟨M1, eM, h⟩ := fw_i h
  have hC := hC.up (by decide) eM
  cases h
  exact hC
theorem R_wrongs_c     (x1 : Int) (x2 : Int) (M : am_M) (r : am_M) (h : R_wrongs    x1 x2 M = some r) : Ch [73] M r := by
  have hC : Ch [73] M M := Ch.rf
  obtain ⟨hR, ⟨hc, h⟩ | ⟨hc, h⟩⟩ := c_ge_i h
  · skip
    exact hC.tr (R_wrongs_22_c     (((-1000) * (x1)) - (x2)) M r h) (by decide)
  · skip
    exact hC.tr (R_wrongs_22_c     (M 73 5) M r h) (by decide)
theorem R_number_90_c     (x2 : Int) (M : am_M) (r : Int × am_M) (h : R_number_90    x2 M = some r) : Ch [73] M r.2 := by
  have hC : Ch [73] M M := Ch.rf
  cases h
  exact hC
theorem R_number_73_c     (x1 : Int) (x2 : Int) (M : am_M) (r : Int × am_M) (h : R_number_73    x1 x2 M = some r) : Ch [73] M r.2 := by
  have hC : Ch [73] M M := Ch.rf
  obtain ⟨v1, hv, h⟩ := ob_i h
  obtain ⟨hR, ⟨hc, h⟩ | ⟨hc, h⟩⟩ := c_eq_i h
  · skip
    exact hC.tr (R_number_90_c     (x2) M r h) (by decide)
  · skip
    obtain ⟨hR, ⟨hc, h⟩ | ⟨hc, h⟩⟩ := c_ne_i h
    · skip
      exact hC.tr (R_number_90_c     (x2) M r h) (by decide)
    · skip
      obtain ⟨M2, hv, h⟩ := ob_i h
      have hC := hC.tr (R_wrongs_c (3) (x1) M _ hv) (by decide)
      exact hC.tr (R_number_90_c     (x2) M2 r h) (by decide)
theorem R_number_25_c     : ∀ (n : Nat) (x1 : Int) (x2 : Int) (x3 : Int) (M : am_M) (r : Int × am_M), R_number_25    n x1 x2 x3 M = some r → Ch [73] M r.2
  | 0, _, _, _, M, r, h => by cases h
  | n + 1, x1, x2, x3, M, r, h => by
    have ih := R_number_25_c     n
    have hC : Ch [73] M M := Ch.rf
    obtain ⟨hR, ⟨hc, h⟩ | ⟨hc, h⟩⟩ := c_ge_i h
    · skip
      exact hC.tr (R_number_73_c     (x1) (x2) M r h) (by decide)
    · skip
      obtain ⟨v1, hv, h⟩ := ob_i h
      obtain ⟨hR, ⟨hc, h⟩ | ⟨hc, h⟩⟩ := c_eq_i h
      · skip
        exact hC.tr (R_number_73_c     (x1) (x2) M r h) (by decide)
      · skip
        obtain ⟨v2, hv, h⟩ := ob_i h
        obtain ⟨hR, ⟨hc, h⟩ | ⟨hc, h⟩⟩ := c_eq_i h
        · skip
          exact hC.tr (R_number_73_c     (x1) (x2) M r h) (by decide)
        · skip
          obtain ⟨v3, hv, h⟩ := ob_i h
          obtain ⟨M4, eM, h⟩ := fw_i h
          have hC := hC.up (by decide) eM
          exact hC.tr (ih (x1) ((((10) * (x2)) + (v3)) - (48)) ((x3) + (1)) M4 r h) (by decide)
theorem R_number_21_c     (x1 : Int) (M : am_M) (r : Int × am_M) (h : R_number_21    x1 M = some r) : Ch [73] M r.2 := by
  have hC : Ch [73] M M := Ch.rf
  exact hC.tr (R_number_25_c     am_big (x1) (0) (0) M r h) (by decide)
theorem R_number_c      (M : am_M) (r : Int × am_M) (h : R_number     M = some r) : Ch [73] M r.2 := by
  have hC : Ch [73] M M := Ch.rf
  obtain ⟨v1, hv, h⟩ := ob_i h
  obtain ⟨hR, ⟨hc, h⟩ | ⟨hc, h⟩⟩ := c_ne_i h
  · skip
    exact hC.tr (R_number_21_c     (M 73 3) M r h) (by decide)
  · skip
    obtain ⟨M2, hv, h⟩ := ob_i h
    have hC := hC.tr (R_wrongs_c (1) (M 73 3) M _ hv) (by decide)
    exact hC.tr (R_number_21_c     (M 73 3) M2 r h) (by decide)
theorem R_run_108_c      (M : am_M) (r : am_M) (h : R_run_108     M = some r) : Ch [73, 76] M r := by
  have hC : Ch [73, 76] M M := Ch.rf
  cases h
  exact hC
theorem R_run_68_c     : ∀ (n : Nat) (x3 : Int) (x4 : Int) (x5 : Int) (M : am_M) (r : am_M), R_run_68    n x3 x4 x5 M = some r → Ch [73, 76] M r
  | 0, _, _, _, M, r, h => by cases h
  | n + 1, x3, x4, x5, M, r, h => by
    have ih := R_run_68_c     n
    have hC : Ch [73, 76] M M := Ch.rf
    obtain ⟨v1, hv, h⟩ := ob_i h
    obtain ⟨hR, ⟨hc, h⟩ | ⟨hc, h⟩⟩ := c_eq_i h
    · skip
      exact hC.tr (R_run_108_c      M r h) (by decide)
    · skip
      obtain ⟨hR, ⟨hc, h⟩ | ⟨hc, h⟩⟩ := c_ge_i h
      · skip
        exact hC.tr (R_run_108_c      M r h) (by decide)
      · skip
        obtain ⟨hc, M2, eM, h⟩ := wa_i h
        have hC := hC.up (by decide) eM
        obtain ⟨M3, eM, h⟩ := fw_i h
        have hC := hC.up (by decide) eM
        exact hC.tr (ih (x3) (x4) ((x5) + (1)) M3 r h) (by decide)
theorem R_run_65_c     (x3 : Int) (x4 : Int) (M : am_M) (r : am_M) (h : R_run_65    x3 x4 M = some r) : Ch [73, 76] M r := by
  have hC : Ch [73, 76] M M := Ch.rf
  exact hC.tr (R_run_68_c     am_big (x3) (x4) (0) M r h) (by decide)
theorem R_run_38_c     (x1 : Int) (x2 : Int) (x3 : Int) (s0 : Int) (M : am_M) (r : am_M) (h : R_run_38    x1 x2 x3 s0 M = some r) : Ch [73, 76] M r := by
  have hC : Ch [73, 76] M M := Ch.rf
  obtain ⟨v1, hv, h⟩ := ob_i h
  obtain ⟨hR, ⟨hc, h⟩ | ⟨hc, h⟩⟩ := c_eq_i h
  · skip
    exact hC.tr (R_run_65_c     (x3) (s0) M r h) (by decide)
  · skip
    obtain ⟨hR, ⟨hc, h⟩ | ⟨hc, h⟩⟩ := c_le_i h
    · skip
      exact hC.tr (R_run_65_c     (x3) (s0) M r h) (by decide)
    · skip
      obtain ⟨M2, hv, h⟩ := ob_i h
      have hC := hC.tr (R_wrongs_c (6) (x2) M _ hv) (by decide)
      exact hC.tr (R_run_65_c     (x3) (s0) M2 r h) (by decide)
theorem R_run_c     (x1 : Int) (M : am_M) (r : am_M) (h : R_run    x1 M = some r) : Ch [73, 76] M r := by
  have hC : Ch [73, 76] M M := Ch.rf
  obtain ⟨v1, hv, h⟩ := ob_i h
  obtain ⟨v2, hv, h⟩ := ob_i h
  obtain ⟨M3, eM, h⟩ := fw_i h
  have hC := hC.up (by decide) eM
  obtain ⟨v4, hv, h⟩ := ob_i h
  obtain ⟨hR, ⟨hc, h⟩ | ⟨hc, h⟩⟩ := c_eq_i h
  · skip
    exact hC.tr (R_run_38_c     (x1) (M 73 3) (v2) (1) M3 r h) (by decide)
  · skip
    obtain ⟨v5, M6, hv, h⟩ := oc_i h
    have hC := hC.tr (R_number_c M3 _ hv) (by decide)
    exact hC.tr (R_run_38_c     (x1) (M 73 3) (v2) (v5) M6 r h) (by decide)
theorem R_row_127_c   (k81 : Int → am_M → Option (am_M)) (hk81 : ∀ (x2 : Int) (M : am_M) (r : am_M), k81 x2 M = some r → Ch [73, 76] M r) (x2 : Int) (M : am_M) (r : am_M) (h : R_row_127   k81 x2 M = some r) : Ch [73, 76] M r := by
  have hC : Ch [73, 76] M M := Ch.rf
  obtain ⟨v1, hv, h⟩ := ob_i h
  obtain ⟨hR, ⟨hc, h⟩ | ⟨hc, h⟩⟩ := c_eq_i h
  · skip
    exact hC.tr (hk81 (x2) M r h) (by decide)
  · skip
    obtain ⟨M2, hv, h⟩ := ob_i h
    have hC := hC.tr (R_run_c (x2) M _ hv) (by decide)
    exact hC.tr (hk81 (x2) M2 r h) (by decide)
theorem R_row_107_c   (k81 : Int → am_M → Option (am_M)) (hk81 : ∀ (x2 : Int) (M : am_M) (r : am_M), k81 x2 M = some r → Ch [73, 76] M r) (x2 : Int) (M : am_M) (r : am_M) (h : R_row_107   k81 x2 M = some r) : Ch [73, 76] M r := by
  have hC : Ch [73, 76] M M := Ch.rf
  obtain ⟨v1, hv, h⟩ := ob_i h
  obtain ⟨v2, hv, h⟩ := ob_i h
  obtain ⟨hR, ⟨hc, h⟩ | ⟨hc, h⟩⟩ := c_ne_i h
  · skip
    exact hC.tr (R_row_127_c   k81 hk81 (x2) M r h) (by decide)
  · skip
    obtain ⟨M3, hv, h⟩ := ob_i h
    have hC := hC.tr (R_wrongs_c (1) (M 73 3) M _ hv) (by decide)
    exact hC.tr (R_row_127_c   k81 hk81 (x2) M3 r h) (by decide)
theorem R_row_142_c      (M : am_M) (r : am_M) (h : R_row_142     M = some r) : Ch [73, 76] M r := by
  have hC : Ch [73, 76] M M := Ch.rf
  cases h
  exact hC
theorem R_row_81_c     : ∀ (n : Nat) (x2 : Int) (M : am_M) (r : am_M), R_row_81    n x2 M = some r → Ch [73, 76] M r
  | 0, _, M, r, h => by cases h
  | n + 1, x2, M, r, h => by
    have ih := R_row_81_c     n
    have hC : Ch [73, 76] M M := Ch.rf
    obtain ⟨v1, hv, h⟩ := ob_i h
    obtain ⟨hR, ⟨hc, h⟩ | ⟨hc, h⟩⟩ := c_eq_i h
    · skip
      exact hC.tr (R_row_142_c      M r h) (by decide)
    · skip
      obtain ⟨hR, ⟨hc, h⟩ | ⟨hc, h⟩⟩ := c_lt_i h
      · skip
        exact hC.tr (R_row_107_c   (R_row_81    n) ih (x2) M r h) (by decide)
      · skip
        obtain ⟨v2, hv, h⟩ := ob_i h
        obtain ⟨v3, hv, h⟩ := ob_i h
        obtain ⟨hR, ⟨hc, h⟩ | ⟨hc, h⟩⟩ := c_eq_i h
        · skip
          exact hC.tr (R_row_142_c      M r h) (by decide)
        · skip
          exact hC.tr (R_row_107_c   (R_row_81    n) ih (x2) M r h) (by decide)
theorem R_row_22_c     : ∀ (n : Nat) (x3 : Int) (M : am_M) (r : am_M), R_row_22    n x3 M = some r → Ch [73, 76] M r
  | 0, _, M, r, h => by cases h
  | n + 1, x3, M, r, h => by
    have ih := R_row_22_c     n
    have hC : Ch [73, 76] M M := Ch.rf
    obtain ⟨hR, ⟨hc, h⟩ | ⟨hc, h⟩⟩ := c_ge_i h
    · skip
      obtain ⟨M1, eM, h⟩ := fw_i h
      have hC := hC.up (by decide) eM
      obtain ⟨M2, eM, h⟩ := fw_i h
      have hC := hC.up (by decide) eM
      cases h
      exact hC
    · skip
      obtain ⟨hc, v3, ev, h⟩ := rd_i h
      obtain ⟨hc, M4, eM, h⟩ := wa_i h
      have hC := hC.up (by decide) eM
      exact hC.tr (ih ((x3) + (1)) M4 r h) (by decide)
theorem R_row_c     (x1 : Int) (M : am_M) (r : am_M) (h : R_row    x1 M = some r) : Ch [73, 76] M r := by
  have hC : Ch [73, 76] M M := Ch.rf
  obtain ⟨v1, hv, h⟩ := ob_i h
  obtain ⟨hR, ⟨hc, h⟩ | ⟨hc, h⟩⟩ := c_ne_i h
  · skip
    exact hC.tr (R_row_81_c     am_big ((12) * ((x1) + (1))) M r h) (by decide)
  · skip
    obtain ⟨hR, ⟨hc, h⟩ | ⟨hc, h⟩⟩ := c_le_i h
    · skip
      exact hC.tr (R_row_81_c     am_big ((12) * ((x1) + (1))) M r h) (by decide)
    · skip
      exact hC.tr (R_row_22_c     am_big (0) M r h) (by decide)
theorem R_comesBehind_c     (x1 : Int) (M : am_M) (r : am_M) (h : R_comesBehind    x1 M = some r) : Ch [73, 95, 96, 97, 98, 99, 100] M r := by
  have hC : Ch [73, 95, 96, 97, 98, 99, 100] M M := Ch.rf
  obtain ⟨hc, M1, eM, h⟩ := wa_i h
  have hC := hC.up (by decide) eM
  obtain ⟨hc, M2, eM, h⟩ := wa_i h
  have hC := hC.up (by decide) eM
  obtain ⟨hc, M3, eM, h⟩ := wa_i h
  have hC := hC.up (by decide) eM
  obtain ⟨hc, M4, eM, h⟩ := wa_i h
  have hC := hC.up (by decide) eM
  obtain ⟨⟨hc, hv⟩, M5, eM, h⟩ := wz_i h
  have hC := hC.up (by decide) eM
  obtain ⟨hc, M6, eM, h⟩ := wa_i h
  have hC := hC.up (by decide) eM
  obtain ⟨M7, eM, h⟩ := fw_i h
  have hC := hC.up (by decide) eM
  cases h
  exact hC
theorem R_beginsPath_2_c     : ∀ (n : Nat) (x1 : Int) (x2 : Int) (M : am_M) (r : am_M), R_beginsPath_2    n x1 x2 M = some r → Ch [73, 95, 96, 97, 98, 99, 100] M r
  | 0, _, _, M, r, h => by cases h
  | n + 1, x1, x2, M, r, h => by
    have ih := R_beginsPath_2_c     n
    have hC : Ch [73, 95, 96, 97, 98, 99, 100] M M := Ch.rf
    obtain ⟨hR, ⟨hc, h⟩ | ⟨hc, h⟩⟩ := c_ge_i h
    · skip
      obtain ⟨M1, eM, h⟩ := fw_i h
      have hC := hC.up (by decide) eM
      obtain ⟨M2, eM, h⟩ := fw_i h
      have hC := hC.up (by decide) eM
      obtain ⟨M3, hv, h⟩ := ob_i h
      have hC := hC.tr (R_comesBehind_c (x1) M2 _ hv) (by decide)
      cases h
      exact hC
    · skip
      obtain ⟨hc, M4, eM, h⟩ := wa_i h
      have hC := hC.up (by decide) eM
      exact hC.tr (ih (x1) ((x2) + (1)) M4 r h) (by decide)
theorem R_beginsPath_c     (x1 : Int) (M : am_M) (r : am_M) (h : R_beginsPath    x1 M = some r) : Ch [73, 95, 96, 97, 98, 99, 100] M r := by
  have hC : Ch [73, 95, 96, 97, 98, 99, 100] M M := Ch.rf
  exact hC.tr (R_beginsPath_2_c     am_big (x1) (0) M r h) (by decide)
theorem R_forest_183_c   (k148 : Int → Int → am_M → Option (Int × am_M)) (hk148 : ∀ (x2 : Int) (x3 : Int) (M : am_M) (r : Int × am_M), k148 x2 x3 M = some r → Ch [73, 75, 76, 95, 96, 97, 98, 99, 100] M r.2) (x3 : Int) (s0 : Int) (s1 : Int) (M : am_M) (r : Int × am_M) (h : R_forest_183   k148 x3 s0 s1 M = some r) : Ch [73, 75, 76, 95, 96, 97, 98, 99, 100] M r.2 := by
  have hC : Ch [73, 75, 76, 95, 96, 97, 98, 99, 100] M M := Ch.rf
  exact hC.tr (hk148 ((s0) + (s1)) ((x3) + (1)) M r h) (by decide)
theorem R_forest_148_c     : ∀ (n : Nat) (x2 : Int) (x3 : Int) (M : am_M) (r : Int × am_M), R_forest_148    n x2 x3 M = some r → Ch [73, 75, 76, 95, 96, 97, 98, 99, 100] M r.2
  | 0, _, _, M, r, h => by cases h
  | n + 1, x2, x3, M, r, h => by
    have ih := R_forest_148_c     n
    have hC : Ch [73, 75, 76, 95, 96, 97, 98, 99, 100] M M := Ch.rf
    obtain ⟨hR, ⟨hc, h⟩ | ⟨hc, h⟩⟩ := c_ge_i h
    · skip
      obtain ⟨hc, M1, eM, h⟩ := fz_i h
      have hC := hC.up (by decide) eM
      obtain ⟨hc, v2, ev, h⟩ := rd_i h
      obtain ⟨M3, hv, h⟩ := ob_i h
      have hC := hC.tr (R_beginsPath_c (v2) M1 _ hv) (by decide)
      cases h
      exact hC
    · skip
      obtain ⟨hc, v4, ev, h⟩ := rd_i h
      obtain ⟨hc, M5, eM, h⟩ := wa_i h
      have hC := hC.up (by decide) eM
      obtain ⟨hc, v6, ev, h⟩ := rd_i h
      obtain ⟨hR, ⟨hc, h⟩ | ⟨hc, h⟩⟩ := c_ne_i h
      · skip
        exact hC.tr (R_forest_183_c   (R_forest_148    n) ih (x3) (x2) (1) M5 r h) (by decide)
      · skip
        exact hC.tr (R_forest_183_c   (R_forest_148    n) ih (x3) (x2) (0) M5 r h) (by decide)
theorem R_forest_132_c      (M : am_M) (r : Int × am_M) (h : R_forest_132     M = some r) : Ch [73, 75, 76, 95, 96, 97, 98, 99, 100] M r.2 := by
  have hC : Ch [73, 75, 76, 95, 96, 97, 98, 99, 100] M M := Ch.rf
  obtain ⟨hR, ⟨hc, h⟩ | ⟨hc, h⟩⟩ := c_ge_i h
  · skip
    exact hC.tr (R_forest_148_c     am_big (0) (0) M r h) (by decide)
  · skip
    cases h
    exact hC
theorem R_forest_105_c      (M : am_M) (r : Int × am_M) (h : R_forest_105     M = some r) : Ch [73, 75, 76, 95, 96, 97, 98, 99, 100] M r.2 := by
  have hC : Ch [73, 75, 76, 95, 96, 97, 98, 99, 100] M M := Ch.rf
  obtain ⟨v1, hv, h⟩ := ob_i h
  obtain ⟨hR, ⟨hc, h⟩ | ⟨hc, h⟩⟩ := c_eq_i h
  · skip
    exact hC.tr (R_forest_132_c      M r h) (by decide)
  · skip
    obtain ⟨hR, ⟨hc, h⟩ | ⟨hc, h⟩⟩ := c_ge_i h
    · skip
      exact hC.tr (R_forest_132_c      M r h) (by decide)
    · skip
      obtain ⟨M2, hv, h⟩ := ob_i h
      have hC := hC.tr (R_wrongs_c (1) (M 73 3) M _ hv) (by decide)
      exact hC.tr (R_forest_132_c      M2 r h) (by decide)
theorem R_forest_99_c   (k34 : Int → am_M → Option (Int × am_M)) (hk34 : ∀ (x2 : Int) (M : am_M) (r : Int × am_M), k34 x2 M = some r → Ch [73, 75, 76, 95, 96, 97, 98, 99, 100] M r.2) (x2 : Int) (M : am_M) (r : Int × am_M) (h : R_forest_99   k34 x2 M = some r) : Ch [73, 75, 76, 95, 96, 97, 98, 99, 100] M r.2 := by
  have hC : Ch [73, 75, 76, 95, 96, 97, 98, 99, 100] M M := Ch.rf
  exact hC.tr (hk34 ((x2) + (1)) M r h) (by decide)
theorem R_forest_83_c   (k34 : Int → am_M → Option (Int × am_M)) (hk34 : ∀ (x2 : Int) (M : am_M) (r : Int × am_M), k34 x2 M = some r → Ch [73, 75, 76, 95, 96, 97, 98, 99, 100] M r.2) (x2 : Int) (M : am_M) (r : Int × am_M) (h : R_forest_83   k34 x2 M = some r) : Ch [73, 75, 76, 95, 96, 97, 98, 99, 100] M r.2 := by
  have hC : Ch [73, 75, 76, 95, 96, 97, 98, 99, 100] M M := Ch.rf
  obtain ⟨hR, ⟨hc, h⟩ | ⟨hc, h⟩⟩ := c_ge_i h
  · skip
    exact hC.tr (R_forest_99_c   k34 hk34 (x2) M r h) (by decide)
  · skip
    obtain ⟨M1, eM, h⟩ := fw_i h
    have hC := hC.up (by decide) eM
    exact hC.tr (R_forest_99_c   k34 hk34 (x2) M1 r h) (by decide)
theorem R_forest_34_c     : ∀ (n : Nat) (x2 : Int) (M : am_M) (r : Int × am_M), R_forest_34    n x2 M = some r → Ch [73, 75, 76, 95, 96, 97, 98, 99, 100] M r.2
  | 0, _, M, r, h => by cases h
  | n + 1, x2, M, r, h => by
    have ih := R_forest_34_c     n
    have hC : Ch [73, 75, 76, 95, 96, 97, 98, 99, 100] M M := Ch.rf
    obtain ⟨hR, ⟨hc, h⟩ | ⟨hc, h⟩⟩ := c_ge_i h
    · skip
      exact hC.tr (R_forest_105_c      M r h) (by decide)
    · skip
      obtain ⟨v1, hv, h⟩ := ob_i h
      obtain ⟨hR, ⟨hc, h⟩ | ⟨hc, h⟩⟩ := c_eq_i h
      · skip
        exact hC.tr (R_forest_105_c      M r h) (by decide)
      · skip
        obtain ⟨M2, hv, h⟩ := ob_i h
        have hC := hC.tr (R_row_c (x2) M _ hv) (by decide)
        obtain ⟨v3, hv, h⟩ := ob_i h
        obtain ⟨hR, ⟨hc, h⟩ | ⟨hc, h⟩⟩ := c_eq_i h
        · skip
          exact hC.tr (R_forest_83_c   (R_forest_34    n) ih (x2) M2 r h) (by decide)
        · skip
          obtain ⟨hR, ⟨hc, h⟩ | ⟨hc, h⟩⟩ := c_ge_i h
          · skip
            exact hC.tr (R_forest_83_c   (R_forest_34    n) ih (x2) M2 r h) (by decide)
          · skip
            obtain ⟨v4, hv, h⟩ := ob_i h
            obtain ⟨hR, ⟨hc, h⟩ | ⟨hc, h⟩⟩ := c_eq_i h
            · skip
              exact hC.tr (R_forest_83_c   (R_forest_34    n) ih (x2) M2 r h) (by decide)
            · skip
              obtain ⟨M5, hv, h⟩ := ob_i h
              have hC := hC.tr (R_wrongs_c (1) (M2 73 3) M2 _ hv) (by decide)
              exact hC.tr (R_forest_83_c   (R_forest_34    n) ih (x2) M5 r h) (by decide)
theorem R_forest_20_c      (M : am_M) (r : Int × am_M) (h : R_forest_20     M = some r) : Ch [73, 75, 76, 95, 96, 97, 98, 99, 100] M r.2 := by
  have hC : Ch [73, 75, 76, 95, 96, 97, 98, 99, 100] M M := Ch.rf
  cases h
  exact hC
theorem R_forest_c     (x1 : Int) (M : am_M) (r : Int × am_M) (h : R_forest    x1 M = some r) : Ch [73, 75, 76, 95, 96, 97, 98, 99, 100] M r.2 := by
  have hC : Ch [73, 75, 76, 95, 96, 97, 98, 99, 100] M M := Ch.rf
  obtain ⟨hc, h⟩ := ck_i h
  obtain ⟨v1, hv, h⟩ := ob_i h
  obtain ⟨hR, ⟨hc, h⟩ | ⟨hc, h⟩⟩ := c_eq_i h
  · skip
    exact hC.tr (R_forest_20_c      M r h) (by decide)
  · skip
    obtain ⟨hR, ⟨hc, h⟩ | ⟨hc, h⟩⟩ := c_le_i h
    · skip
      obtain ⟨M2, hv, h⟩ := ob_i h
      have hC := hC.tr (R_begins_c (x1) M _ hv) (by decide)
      obtain ⟨M3, eM, h⟩ := fw_i h
      have hC := hC.up (by decide) eM
      exact hC.tr (R_forest_34_c     am_big (0) M3 r h) (by decide)
    · skip
      exact hC.tr (R_forest_20_c      M r h) (by decide)
theorem R_puts_c     (x1 : Int) (M : am_M) (r : am_M) (h : R_puts    x1 M = some r) : Ch [73, 89] M r := by
  have hC : Ch [73, 89] M M := Ch.rf
  obtain ⟨hc, M1, eM, h⟩ := wa_i h
  have hC := hC.up (by decide) eM
  obtain ⟨M2, eM, h⟩ := fw_i h
  have hC := hC.up (by decide) eM
  obtain ⟨M3, eM, h⟩ := fw_i h
  have hC := hC.up (by decide) eM
  cases h
  exact hC
theorem R_opens_18_c      (M : am_M) (r : am_M) (h : R_opens_18     M = some r) : Ch [73, 89] M r := by
  have hC : Ch [73, 89] M M := Ch.rf
  obtain ⟨M1, eM, h⟩ := fw_i h
  have hC := hC.up (by decide) eM
  obtain ⟨v2, hv, h⟩ := ob_i h
  obtain ⟨M3, hv, h⟩ := ob_i h
  have hC := hC.tr (R_puts_c (v2) M1 _ hv) (by decide)
  cases h
  exact hC
theorem R_opens_c      (M : am_M) (r : am_M) (h : R_opens     M = some r) : Ch [73, 89] M r := by
  have hC : Ch [73, 89] M M := Ch.rf
  obtain ⟨hR, ⟨hc, h⟩ | ⟨hc, h⟩⟩ := c_ne_i h
  · skip
    exact hC.tr (R_opens_18_c      M r h) (by decide)
  · skip
    obtain ⟨M1, hv, h⟩ := ob_i h
    have hC := hC.tr (R_wrongs_c (5) (M 73 3) M _ hv) (by decide)
    exact hC.tr (R_opens_18_c      M1 r h) (by decide)
theorem R_emit_c     (x1 : Int) (x2 : Int) (M : am_M) (r : am_M) (h : R_emit    x1 x2 M = some r) : Ch [73, 87, 88] M r := by
  have hC : Ch [73, 87, 88] M M := Ch.rf
  obtain ⟨v1, hv, h⟩ := ob_i h
  obtain ⟨hR, ⟨hc, h⟩ | ⟨hc, h⟩⟩ := c_ne_i h
  · skip
    obtain ⟨hc, M2, eM, h⟩ := wa_i h
    have hC := hC.up (by decide) eM
    obtain ⟨hc, M3, eM, h⟩ := wa_i h
    have hC := hC.up (by decide) eM
    obtain ⟨M4, eM, h⟩ := fw_i h
    have hC := hC.up (by decide) eM
    cases h
    exact hC
  · skip
    cases h
    exact hC
theorem R_reads_40_c   (k7 : Int → Int → am_M → Option (Int × am_M)) (hk7 : ∀ (x1 : Int) (x2 : Int) (M : am_M) (r : Int × am_M), k7 x1 x2 M = some r → Ch [73] M r.2) (x1 : Int) (x2 : Int) (M : am_M) (r : Int × am_M) (h : R_reads_40   k7 x1 x2 M = some r) : Ch [73] M r.2 := by
  have hC : Ch [73] M M := Ch.rf
  obtain ⟨v1, hv, h⟩ := ob_i h
  obtain ⟨M2, eM, h⟩ := fw_i h
  have hC := hC.up (by decide) eM
  exact hC.tr (hk7 (x1) ((((10) * (x2)) + (v1)) - (48)) M2 r h) (by decide)
theorem R_reads_66_c     (x2 : Int) (M : am_M) (r : Int × am_M) (h : R_reads_66    x2 M = some r) : Ch [73] M r.2 := by
  have hC : Ch [73] M M := Ch.rf
  cases h
  exact hC
theorem R_reads_7_c     : ∀ (n : Nat) (x1 : Int) (x2 : Int) (M : am_M) (r : Int × am_M), R_reads_7    n x1 x2 M = some r → Ch [73] M r.2
  | 0, _, _, M, r, h => by cases h
  | n + 1, x1, x2, M, r, h => by
    have ih := R_reads_7_c     n
    have hC : Ch [73] M M := Ch.rf
    obtain ⟨v1, hv, h⟩ := ob_i h
    obtain ⟨hR, ⟨hc, h⟩ | ⟨hc, h⟩⟩ := c_eq_i h
    · skip
      exact hC.tr (R_reads_66_c     (x2) M r h) (by decide)
    · skip
      obtain ⟨v2, hv, h⟩ := ob_i h
      obtain ⟨hR, ⟨hc, h⟩ | ⟨hc, h⟩⟩ := c_eq_i h
      · skip
        exact hC.tr (R_reads_66_c     (x2) M r h) (by decide)
      · skip
        obtain ⟨hR, ⟨hc, h⟩ | ⟨hc, h⟩⟩ := c_ne_i h
        · skip
          exact hC.tr (R_reads_40_c   (R_reads_7    n) ih (x1) (x2) M r h) (by decide)
        · skip
          obtain ⟨M3, hv, h⟩ := ob_i h
          have hC := hC.tr (R_wrongs_c (2) (M 73 3) M _ hv) (by decide)
          exact hC.tr (R_reads_40_c   (R_reads_7    n) ih (x1) (x2) M3 r h) (by decide)
theorem R_reads_c      (M : am_M) (r : Int × am_M) (h : R_reads     M = some r) : Ch [73] M r.2 := by
  have hC : Ch [73] M M := Ch.rf
  exact hC.tr (R_reads_7_c     am_big (M 73 3) (0) M r h) (by decide)
theorem R_factor_91_c      (M : am_M) (r : am_M) (h : R_factor_91     M = some r) : Ch [73, 87, 88, 89] M r := by
  have hC : Ch [73, 87, 88, 89] M M := Ch.rf
  cases h
  exact hC
theorem R_factor_23_c      (M : am_M) (r : am_M) (h : R_factor_23     M = some r) : Ch [73, 87, 88, 89] M r := by
  have hC : Ch [73, 87, 88, 89] M M := Ch.rf
  obtain ⟨v1, hv, h⟩ := ob_i h
  obtain ⟨hR, ⟨hc, h⟩ | ⟨hc, h⟩⟩ := c_ne_i h
  · skip
    obtain ⟨v2, hv, h⟩ := ob_i h
    obtain ⟨hR, ⟨hc, h⟩ | ⟨hc, h⟩⟩ := c_eq_i h
    · skip
      obtain ⟨v3, hv, h⟩ := ob_i h
      obtain ⟨v4, hv, h⟩ := ob_i h
      obtain ⟨hR, ⟨hc, h⟩ | ⟨hc, h⟩⟩ := c_eq_i h
      · skip
        obtain ⟨M5, hv, h⟩ := ob_i h
        have hC := hC.tr (R_wrongs_c (1) (M 73 3) M _ hv) (by decide)
        exact hC.tr (R_factor_91_c      M5 r h) (by decide)
      · skip
        obtain ⟨v6, hv, h⟩ := ob_i h
        obtain ⟨M7, hv, h⟩ := ob_i h
        have hC := hC.tr (R_emit_c (1) (v6) M _ hv) (by decide)
        obtain ⟨M8, eM, h⟩ := fw_i h
        have hC := hC.up (by decide) eM
        exact hC.tr (R_factor_91_c      M8 r h) (by decide)
    · skip
      obtain ⟨v9, M10, hv, h⟩ := oc_i h
      have hC := hC.tr (R_reads_c M _ hv) (by decide)
      obtain ⟨M11, hv, h⟩ := ob_i h
      have hC := hC.tr (R_emit_c (0) (v9) M10 _ hv) (by decide)
      exact hC.tr (R_factor_91_c      M11 r h) (by decide)
  · skip
    cases h
    exact hC
theorem R_factor_0_c     : ∀ (n : Nat)  (M : am_M) (r : am_M), R_factor_0    n  M = some r → Ch [73, 87, 88, 89] M r
  | 0, M, r, h => by cases h
  | n + 1, M, r, h => by
    have ih := R_factor_0_c     n
    have hC : Ch [73, 87, 88, 89] M M := Ch.rf
    obtain ⟨v1, hv, h⟩ := ob_i h
    obtain ⟨hR, ⟨hc, h⟩ | ⟨hc, h⟩⟩ := c_eq_i h
    · skip
      exact hC.tr (R_factor_23_c      M r h) (by decide)
    · skip
      obtain ⟨v2, hv, h⟩ := ob_i h
      obtain ⟨hR, ⟨hc, h⟩ | ⟨hc, h⟩⟩ := c_ne_i h
      · skip
        exact hC.tr (R_factor_23_c      M r h) (by decide)
      · skip
        obtain ⟨M3, hv, h⟩ := ob_i h
        have hC := hC.tr (R_opens_c M _ hv) (by decide)
        exact hC.tr (ih  M3 r h) (by decide)
theorem R_factor_c      (M : am_M) (r : am_M) (h : R_factor     M = some r) : Ch [73, 87, 88, 89] M r := by
  have hC : Ch [73, 87, 88, 89] M M := Ch.rf
  exact hC.tr (R_factor_0_c     am_big  M r h) (by decide)
theorem R_sums_24_c   (k0 : Int → am_M → Option (am_M)) (hk0 : ∀ (x1 : Int) (M : am_M) (r : am_M), k0 x1 M = some r → Ch [73, 87, 88] M r) (x1 : Int) (M : am_M) (r : am_M) (h : R_sums_24   k0 x1 M = some r) : Ch [73, 87, 88] M r := by
  have hC : Ch [73, 87, 88] M M := Ch.rf
  obtain ⟨v1, hv, h⟩ := ob_i h
  obtain ⟨M2, hv, h⟩ := ob_i h
  have hC := hC.tr (R_emit_c (v1) (0) M _ hv) (by decide)
  obtain ⟨M3, eM, h⟩ := fw_i h
  have hC := hC.up (by decide) eM
  exact hC.tr (hk0 (x1) M3 r h) (by decide)
theorem R_sums_46_c      (M : am_M) (r : am_M) (h : R_sums_46     M = some r) : Ch [73, 87, 88] M r := by
  have hC : Ch [73, 87, 88] M M := Ch.rf
  cases h
  exact hC
theorem R_sums_0_c     : ∀ (n : Nat) (x1 : Int) (M : am_M) (r : am_M), R_sums_0    n x1 M = some r → Ch [73, 87, 88] M r
  | 0, _, M, r, h => by cases h
  | n + 1, x1, M, r, h => by
    have ih := R_sums_0_c     n
    have hC : Ch [73, 87, 88] M M := Ch.rf
    obtain ⟨v1, hv, h⟩ := ob_i h
    obtain ⟨v2, hv, h⟩ := ob_i h
    obtain ⟨hR, ⟨hc, h⟩ | ⟨hc, h⟩⟩ := c_ne_i h
    · skip
      exact hC.tr (R_sums_24_c   (R_sums_0    n) ih (x1) M r h) (by decide)
    · skip
      obtain ⟨hR, ⟨hc, h⟩ | ⟨hc, h⟩⟩ := c_eq_i h
      · skip
        exact hC.tr (R_sums_46_c      M r h) (by decide)
      · skip
        obtain ⟨v3, hv, h⟩ := ob_i h
        obtain ⟨v4, hv, h⟩ := ob_i h
        obtain ⟨hR, ⟨hc, h⟩ | ⟨hc, h⟩⟩ := c_eq_i h
        · skip
          exact hC.tr (R_sums_46_c      M r h) (by decide)
        · skip
          exact hC.tr (R_sums_24_c   (R_sums_0    n) ih (x1) M r h) (by decide)
theorem R_sums_c     (x1 : Int) (M : am_M) (r : am_M) (h : R_sums    x1 M = some r) : Ch [73, 87, 88] M r := by
  have hC : Ch [73, 87, 88] M M := Ch.rf
  exact hC.tr (R_sums_0_c     am_big (x1) M r h) (by decide)
theorem R_stays_19_c     (x1 : Int) (M : am_M) (r : Int × am_M) (h : R_stays_19    x1 M = some r) : Ch [73, 87, 88, 89] M r.2 := by
  have hC : Ch [73, 87, 88, 89] M M := Ch.rf
  obtain ⟨v1, hv, h⟩ := ob_i h
  obtain ⟨M2, hv, h⟩ := ob_i h
  have hC := hC.tr (R_sums_c (v1) M _ hv) (by decide)
  obtain ⟨M3, hv, h⟩ := ob_i h
  have hC := hC.tr (R_puts_c (x1) M2 _ hv) (by decide)
  cases h
  exact hC
theorem R_stays_c      (M : am_M) (r : Int × am_M) (h : R_stays     M = some r) : Ch [73, 87, 88, 89] M r.2 := by
  have hC : Ch [73, 87, 88, 89] M M := Ch.rf
  obtain ⟨v1, hv, h⟩ := ob_i h
  obtain ⟨v2, hv, h⟩ := ob_i h
  obtain ⟨hR, ⟨hc, h⟩ | ⟨hc, h⟩⟩ := c_ne_i h
  · skip
    exact hC.tr (R_stays_19_c     (v1) M r h) (by decide)
  · skip
    obtain ⟨v3, hv, h⟩ := ob_i h
    obtain ⟨hR, ⟨hc, h⟩ | ⟨hc, h⟩⟩ := c_eq_i h
    · skip
      obtain ⟨M4, hv, h⟩ := ob_i h
      have hC := hC.tr (R_sums_c (1) M _ hv) (by decide)
      obtain ⟨hR, ⟨hc, h⟩ | ⟨hc, h⟩⟩ := c_eq_i h
      · skip
        obtain ⟨v5, hv, h⟩ := ob_i h
        obtain ⟨hR, ⟨hc, h⟩ | ⟨hc, h⟩⟩ := c_eq_i h
        · skip
          obtain ⟨M6, eM, h⟩ := fw_i h
          have hC := hC.up (by decide) eM
          obtain ⟨M7, eM, h⟩ := fw_i h
          have hC := hC.up (by decide) eM
          obtain ⟨M8, eM, h⟩ := fw_i h
          have hC := hC.up (by decide) eM
          obtain ⟨hc, M9, eM, h⟩ := fz_i h
          have hC := hC.up (by decide) eM
          cases h
          exact hC
        · skip
          obtain ⟨M10, hv, h⟩ := ob_i h
          have hC := hC.tr (R_wrongs_c (1) (M4 73 3) M4 _ hv) (by decide)
          cases h
          exact hC
      · skip
        cases h
        exact hC
    · skip
      exact hC.tr (R_stays_19_c     (v1) M r h) (by decide)
theorem R_value_82_c      (M : am_M) (r : am_M) (h : R_value_82     M = some r) : Ch [73, 87, 88, 89] M r := by
  have hC : Ch [73, 87, 88, 89] M M := Ch.rf
  cases h
  exact hC
theorem R_value_57_c      (M : am_M) (r : am_M) (h : R_value_57     M = some r) : Ch [73, 87, 88, 89] M r := by
  have hC : Ch [73, 87, 88, 89] M M := Ch.rf
  obtain ⟨v1, hv, h⟩ := ob_i h
  obtain ⟨hR, ⟨hc, h⟩ | ⟨hc, h⟩⟩ := c_eq_i h
  · skip
    exact hC.tr (R_value_82_c      M r h) (by decide)
  · skip
    obtain ⟨v2, hv, h⟩ := ob_i h
    obtain ⟨hR, ⟨hc, h⟩ | ⟨hc, h⟩⟩ := c_ne_i h
    · skip
      exact hC.tr (R_value_82_c      M r h) (by decide)
    · skip
      obtain ⟨M3, hv, h⟩ := ob_i h
      have hC := hC.tr (R_wrongs_c (1) (M 73 3) M _ hv) (by decide)
      exact hC.tr (R_value_82_c      M3 r h) (by decide)
theorem R_value_53_c   (k7 : Int → am_M → Option (am_M)) (hk7 : ∀ (x1 : Int) (M : am_M) (r : am_M), k7 x1 M = some r → Ch [73, 87, 88, 89] M r) (s0 : Int) (M : am_M) (r : am_M) (h : R_value_53   k7 s0 M = some r) : Ch [73, 87, 88, 89] M r := by
  have hC : Ch [73, 87, 88, 89] M M := Ch.rf
  exact hC.tr (hk7 (s0) M r h) (by decide)
theorem R_value_52_c   (k7 : Int → am_M → Option (am_M)) (hk7 : ∀ (x1 : Int) (M : am_M) (r : am_M), k7 x1 M = some r → Ch [73, 87, 88, 89] M r)  (M : am_M) (r : am_M) (h : R_value_52   k7  M = some r) : Ch [73, 87, 88, 89] M r := by
  have hC : Ch [73, 87, 88, 89] M M := Ch.rf
  exact hC.tr (R_value_53_c   k7 hk7 (0) M r h) (by decide)
theorem R_value_29_c   (k7 : Int → am_M → Option (am_M)) (hk7 : ∀ (x1 : Int) (M : am_M) (r : am_M), k7 x1 M = some r → Ch [73, 87, 88, 89] M r)  (M : am_M) (r : am_M) (h : R_value_29   k7  M = some r) : Ch [73, 87, 88, 89] M r := by
  have hC : Ch [73, 87, 88, 89] M M := Ch.rf
  obtain ⟨hc, M1, eM, h⟩ := fz_i h
  have hC := hC.up (by decide) eM
  obtain ⟨v2, hv, h⟩ := ob_i h
  obtain ⟨hR, ⟨hc, h⟩ | ⟨hc, h⟩⟩ := c_eq_i h
  · skip
    exact hC.tr (R_value_52_c   k7 hk7  M1 r h) (by decide)
  · skip
    obtain ⟨v3, M4, hv, h⟩ := oc_i h
    have hC := hC.tr (R_stays_c M1 _ hv) (by decide)
    obtain ⟨hR, ⟨hc, h⟩ | ⟨hc, h⟩⟩ := c_eq_i h
    · skip
      exact hC.tr (R_value_52_c   k7 hk7  M4 r h) (by decide)
    · skip
      exact hC.tr (R_value_53_c   k7 hk7 (1) M4 r h) (by decide)
theorem R_value_7_c     : ∀ (n : Nat) (x1 : Int) (M : am_M) (r : am_M), R_value_7    n x1 M = some r → Ch [73, 87, 88, 89] M r
  | 0, _, M, r, h => by cases h
  | n + 1, x1, M, r, h => by
    have ih := R_value_7_c     n
    have hC : Ch [73, 87, 88, 89] M M := Ch.rf
    obtain ⟨hR, ⟨hc, h⟩ | ⟨hc, h⟩⟩ := c_eq_i h
    · skip
      exact hC.tr (R_value_57_c      M r h) (by decide)
    · skip
      obtain ⟨v1, hv, h⟩ := ob_i h
      obtain ⟨hR, ⟨hc, h⟩ | ⟨hc, h⟩⟩ := c_eq_i h
      · skip
        exact hC.tr (R_value_57_c      M r h) (by decide)
      · skip
        obtain ⟨hR, ⟨hc, h⟩ | ⟨hc, h⟩⟩ := c_ne_i h
        · skip
          exact hC.tr (R_value_29_c   (R_value_7    n) ih  M r h) (by decide)
        · skip
          obtain ⟨M2, hv, h⟩ := ob_i h
          have hC := hC.tr (R_factor_c M _ hv) (by decide)
          exact hC.tr (R_value_29_c   (R_value_7    n) ih  M2 r h) (by decide)
theorem R_value_c      (M : am_M) (r : am_M) (h : R_value     M = some r) : Ch [73, 87, 88, 89] M r := by
  have hC : Ch [73, 87, 88, 89] M M := Ch.rf
  obtain ⟨hc, M1, eM, h⟩ := fz_i h
  have hC := hC.up (by decide) eM
  exact hC.tr (R_value_7_c     am_big (1) M1 r h) (by decide)
theorem R_ends_0_c     : ∀ (n : Nat)  (M : am_M) (r : am_M), R_ends_0    n  M = some r → Ch [73, 87, 88] M r
  | 0, M, r, h => by cases h
  | n + 1, M, r, h => by
    have ih := R_ends_0_c     n
    have hC : Ch [73, 87, 88] M M := Ch.rf
    obtain ⟨v1, hv, h⟩ := ob_i h
    obtain ⟨hR, ⟨hc, h⟩ | ⟨hc, h⟩⟩ := c_ne_i h
    · skip
      cases h
      exact hC
    · skip
      obtain ⟨M2, hv, h⟩ := ob_i h
      have hC := hC.tr (R_emit_c (2) (0) M _ hv) (by decide)
      obtain ⟨M3, eM, h⟩ := fw_i h
      have hC := hC.up (by decide) eM
      obtain ⟨M4, eM, h⟩ := fw_i h
      have hC := hC.up (by decide) eM
      exact hC.tr (ih  M4 r h) (by decide)
theorem R_ends_c      (M : am_M) (r : am_M) (h : R_ends     M = some r) : Ch [73, 87, 88] M r := by
  have hC : Ch [73, 87, 88] M M := Ch.rf
  exact hC.tr (R_ends_0_c     am_big  M r h) (by decide)
theorem R_pieceOfC_43_c      (M : am_M) (r : am_M) (h : R_pieceOfC_43     M = some r) : Ch [73, 87, 88, 89] M r := by
  have hC : Ch [73, 87, 88, 89] M M := Ch.rf
  obtain ⟨v1, hv, h⟩ := ob_i h
  obtain ⟨hR, ⟨hc, h⟩ | ⟨hc, h⟩⟩ := c_ne_i h
  · skip
    obtain ⟨v2, hv, h⟩ := ob_i h
    obtain ⟨v3, hv, h⟩ := ob_i h
    obtain ⟨hR, ⟨hc, h⟩ | ⟨hc, h⟩⟩ := c_ne_i h
    · skip
      obtain ⟨M4, hv, h⟩ := ob_i h
      have hC := hC.tr (R_puts_c (v2) M _ hv) (by decide)
      obtain ⟨M5, hv, h⟩ := ob_i h
      have hC := hC.tr (R_value_c M4 _ hv) (by decide)
      obtain ⟨v6, hv, h⟩ := ob_i h
      obtain ⟨hR, ⟨hc, h⟩ | ⟨hc, h⟩⟩ := c_ne_i h
      · skip
        obtain ⟨v7, hv, h⟩ := ob_i h
        obtain ⟨M8, hv, h⟩ := ob_i h
        have hC := hC.tr (R_emit_c (v7) (0) M5 _ hv) (by decide)
        obtain ⟨M9, eM, h⟩ := fw_i h
        have hC := hC.up (by decide) eM
        obtain ⟨M10, hv, h⟩ := ob_i h
        have hC := hC.tr (R_ends_c M9 _ hv) (by decide)
        cases h
        exact hC
      · skip
        cases h
        exact hC
    · skip
      obtain ⟨M11, hv, h⟩ := ob_i h
      have hC := hC.tr (R_wrongs_c (1) (M 73 3) M _ hv) (by decide)
      cases h
      exact hC
  · skip
    cases h
    exact hC
theorem R_pieceOfC_32_c      (M : am_M) (r : am_M) (h : R_pieceOfC_32     M = some r) : Ch [73, 87, 88, 89] M r := by
  have hC : Ch [73, 87, 88, 89] M M := Ch.rf
  obtain ⟨v1, hv, h⟩ := ob_i h
  obtain ⟨hR, ⟨hc, h⟩ | ⟨hc, h⟩⟩ := c_eq_i h
  · skip
    exact hC.tr (R_pieceOfC_43_c      M r h) (by decide)
  · skip
    obtain ⟨M2, hv, h⟩ := ob_i h
    have hC := hC.tr (R_value_c M _ hv) (by decide)
    exact hC.tr (R_pieceOfC_43_c      M2 r h) (by decide)
theorem R_pieceOfC_25_c   (k0 : am_M → Option (am_M)) (hk0 : ∀  (M : am_M) (r : am_M), k0  M = some r → Ch [73, 87, 88, 89] M r)  (M : am_M) (r : am_M) (h : R_pieceOfC_25   k0  M = some r) : Ch [73, 87, 88, 89] M r := by
  have hC : Ch [73, 87, 88, 89] M M := Ch.rf
  obtain ⟨M1, hv, h⟩ := ob_i h
  have hC := hC.tr (R_opens_c M _ hv) (by decide)
  exact hC.tr (hk0  M1 r h) (by decide)
theorem R_pieceOfC_0_c     : ∀ (n : Nat)  (M : am_M) (r : am_M), R_pieceOfC_0    n  M = some r → Ch [73, 87, 88, 89] M r
  | 0, M, r, h => by cases h
  | n + 1, M, r, h => by
    have ih := R_pieceOfC_0_c     n
    have hC : Ch [73, 87, 88, 89] M M := Ch.rf
    obtain ⟨v1, hv, h⟩ := ob_i h
    obtain ⟨hR, ⟨hc, h⟩ | ⟨hc, h⟩⟩ := c_eq_i h
    · skip
      exact hC.tr (R_pieceOfC_32_c      M r h) (by decide)
    · skip
      obtain ⟨v2, hv, h⟩ := ob_i h
      obtain ⟨hR, ⟨hc, h⟩ | ⟨hc, h⟩⟩ := c_eq_i h
      · skip
        exact hC.tr (R_pieceOfC_25_c   (R_pieceOfC_0    n) ih  M r h) (by decide)
      · skip
        obtain ⟨v3, hv, h⟩ := ob_i h
        obtain ⟨hR, ⟨hc, h⟩ | ⟨hc, h⟩⟩ := c_ne_i h
        · skip
          exact hC.tr (R_pieceOfC_32_c      M r h) (by decide)
        · skip
          exact hC.tr (R_pieceOfC_25_c   (R_pieceOfC_0    n) ih  M r h) (by decide)
theorem R_pieceOfC_c      (M : am_M) (r : am_M) (h : R_pieceOfC     M = some r) : Ch [73, 87, 88, 89] M r := by
  have hC : Ch [73, 87, 88, 89] M M := Ch.rf
  exact hC.tr (R_pieceOfC_0_c     am_big  M r h) (by decide)
theorem R_joins_44_c      (M : am_M) (r : am_M) (h : R_joins_44     M = some r) : Ch [73, 87, 88] M r := by
  have hC : Ch [73, 87, 88] M M := Ch.rf
  cases h
  exact hC
theorem R_joins_22_c   (k0 : Int → am_M → Option (am_M)) (hk0 : ∀ (x1 : Int) (M : am_M) (r : am_M), k0 x1 M = some r → Ch [73, 87, 88] M r) (x1 : Int) (M : am_M) (r : am_M) (h : R_joins_22   k0 x1 M = some r) : Ch [73, 87, 88] M r := by
  have hC : Ch [73, 87, 88] M M := Ch.rf
  obtain ⟨v1, hv, h⟩ := ob_i h
  obtain ⟨M2, hv, h⟩ := ob_i h
  have hC := hC.tr (R_emit_c (v1) (0) M _ hv) (by decide)
  obtain ⟨M3, eM, h⟩ := fw_i h
  have hC := hC.up (by decide) eM
  exact hC.tr (hk0 (x1) M3 r h) (by decide)
theorem R_joins_0_c     : ∀ (n : Nat) (x1 : Int) (M : am_M) (r : am_M), R_joins_0    n x1 M = some r → Ch [73, 87, 88] M r
  | 0, _, M, r, h => by cases h
  | n + 1, x1, M, r, h => by
    have ih := R_joins_0_c     n
    have hC : Ch [73, 87, 88] M M := Ch.rf
    obtain ⟨v1, hv, h⟩ := ob_i h
    obtain ⟨hR, ⟨hc, h⟩ | ⟨hc, h⟩⟩ := c_eq_i h
    · skip
      exact hC.tr (R_joins_22_c   (R_joins_0    n) ih (x1) M r h) (by decide)
    · skip
      obtain ⟨hR, ⟨hc, h⟩ | ⟨hc, h⟩⟩ := c_eq_i h
      · skip
        exact hC.tr (R_joins_44_c      M r h) (by decide)
      · skip
        obtain ⟨v2, hv, h⟩ := ob_i h
        obtain ⟨hR, ⟨hc, h⟩ | ⟨hc, h⟩⟩ := c_ne_i h
        · skip
          exact hC.tr (R_joins_44_c      M r h) (by decide)
        · skip
          exact hC.tr (R_joins_22_c   (R_joins_0    n) ih (x1) M r h) (by decide)
theorem R_joins_c     (x1 : Int) (M : am_M) (r : am_M) (h : R_joins    x1 M = some r) : Ch [73, 87, 88] M r := by
  have hC : Ch [73, 87, 88] M M := Ch.rf
  exact hC.tr (R_joins_0_c     am_big (x1) M r h) (by decide)
theorem R_goesBehind_118_c      (M : am_M) (r : Int × am_M) (h : R_goesBehind_118     M = some r) : Ch [73, 87, 88, 89] M r.2 := by
  have hC : Ch [73, 87, 88, 89] M M := Ch.rf
  cases h
  exact hC
theorem R_goesBehind_104_c     (s1 : Int) (M : am_M) (r : Int × am_M) (h : R_goesBehind_104    s1 M = some r) : Ch [73, 87, 88, 89] M r.2 := by
  have hC : Ch [73, 87, 88, 89] M M := Ch.rf
  obtain ⟨hc, M1, eM, h⟩ := fz_i h
  have hC := hC.up (by decide) eM
  obtain ⟨hR, ⟨hc, h⟩ | ⟨hc, h⟩⟩ := c_ne_i h
  · skip
    exact hC.tr (R_goesBehind_118_c      M1 r h) (by decide)
  · skip
    obtain ⟨M2, hv, h⟩ := ob_i h
    have hC := hC.tr (R_ends_c M1 _ hv) (by decide)
    exact hC.tr (R_goesBehind_118_c      M2 r h) (by decide)
theorem R_goesBehind_29_c     (x1 : Int) (s1 : Int) (M : am_M) (r : Int × am_M) (h : R_goesBehind_29    x1 s1 M = some r) : Ch [73, 87, 88, 89] M r.2 := by
  have hC : Ch [73, 87, 88, 89] M M := Ch.rf
  obtain ⟨M1, hv, h⟩ := ob_i h
  have hC := hC.tr (R_joins_c (s1) M _ hv) (by decide)
  obtain ⟨M2, hv, h⟩ := ob_i h
  have hC := hC.tr (R_puts_c (x1) M1 _ hv) (by decide)
  cases h
  exact hC
theorem R_goesBehind_17_c     (x1 : Int) (M : am_M) (r : Int × am_M) (h : R_goesBehind_17    x1 M = some r) : Ch [73, 87, 88, 89] M r.2 := by
  have hC : Ch [73, 87, 88, 89] M M := Ch.rf
  obtain ⟨hR, ⟨hc, h⟩ | ⟨hc, h⟩⟩ := c_ne_i h
  · skip
    exact hC.tr (R_goesBehind_29_c     (x1) (0) M r h) (by decide)
  · skip
    exact hC.tr (R_goesBehind_29_c     (x1) (1) M r h) (by decide)
theorem R_goesBehind_c      (M : am_M) (r : Int × am_M) (h : R_goesBehind     M = some r) : Ch [73, 87, 88, 89] M r.2 := by
  have hC : Ch [73, 87, 88, 89] M M := Ch.rf
  obtain ⟨v1, hv, h⟩ := ob_i h
  obtain ⟨hR, ⟨hc, h⟩ | ⟨hc, h⟩⟩ := c_eq_i h
  · skip
    exact hC.tr (R_goesBehind_17_c     (v1) M r h) (by decide)
  · skip
    obtain ⟨hR, ⟨hc, h⟩ | ⟨hc, h⟩⟩ := c_ne_i h
    · skip
      obtain ⟨hR, ⟨hc, h⟩ | ⟨hc, h⟩⟩ := c_eq_i h
      · skip
        obtain ⟨M2, hv, h⟩ := ob_i h
        have hC := hC.tr (R_joins_c (1) M _ hv) (by decide)
        obtain ⟨M3, eM, h⟩ := fw_i h
        have hC := hC.up (by decide) eM
        obtain ⟨M4, eM, h⟩ := fw_i h
        have hC := hC.up (by decide) eM
        obtain ⟨M5, eM, h⟩ := fw_i h
        have hC := hC.up (by decide) eM
        obtain ⟨hR, ⟨hc, h⟩ | ⟨hc, h⟩⟩ := c_ne_i h
        · skip
          exact hC.tr (R_goesBehind_104_c     (0) M5 r h) (by decide)
        · skip
          exact hC.tr (R_goesBehind_104_c     (1) M5 r h) (by decide)
      · skip
        obtain ⟨M6, hv, h⟩ := ob_i h
        have hC := hC.tr (R_wrongs_c (1) (M 73 3) M _ hv) (by decide)
        cases h
        exact hC
    · skip
      exact hC.tr (R_goesBehind_17_c     (v1) M r h) (by decide)
theorem R_condition_74_c      (M : am_M) (r : am_M) (h : R_condition_74     M = some r) : Ch [73, 87, 88, 89] M r := by
  have hC : Ch [73, 87, 88, 89] M M := Ch.rf
  cases h
  exact hC
theorem R_condition_59_c   (k37 : Int → am_M → Option (am_M)) (hk37 : ∀ (x1 : Int) (M : am_M) (r : am_M), k37 x1 M = some r → Ch [73, 87, 88, 89] M r) (x1 : Int) (M : am_M) (r : am_M) (h : R_condition_59   k37 x1 M = some r) : Ch [73, 87, 88, 89] M r := by
  have hC : Ch [73, 87, 88, 89] M M := Ch.rf
  obtain ⟨v1, hv, h⟩ := ob_i h
  obtain ⟨hR, ⟨hc, h⟩ | ⟨hc, h⟩⟩ := c_eq_i h
  · skip
    exact hC.tr (hk37 (x1) M r h) (by decide)
  · skip
    obtain ⟨v2, M3, hv, h⟩ := oc_i h
    have hC := hC.tr (R_goesBehind_c M _ hv) (by decide)
    exact hC.tr (hk37 (v2) M3 r h) (by decide)
theorem R_condition_37_c     : ∀ (n : Nat) (x1 : Int) (M : am_M) (r : am_M), R_condition_37    n x1 M = some r → Ch [73, 87, 88, 89] M r
  | 0, _, M, r, h => by cases h
  | n + 1, x1, M, r, h => by
    have ih := R_condition_37_c     n
    have hC : Ch [73, 87, 88, 89] M M := Ch.rf
    obtain ⟨v1, hv, h⟩ := ob_i h
    obtain ⟨hR, ⟨hc, h⟩ | ⟨hc, h⟩⟩ := c_eq_i h
    · skip
      exact hC.tr (R_condition_74_c      M r h) (by decide)
    · skip
      obtain ⟨hR, ⟨hc, h⟩ | ⟨hc, h⟩⟩ := c_ne_i h
      · skip
        exact hC.tr (R_condition_74_c      M r h) (by decide)
      · skip
        obtain ⟨hR, ⟨hc, h⟩ | ⟨hc, h⟩⟩ := c_eq_i h
        · skip
          exact hC.tr (R_condition_59_c   (R_condition_37    n) ih (x1) M r h) (by decide)
        · skip
          obtain ⟨M2, hv, h⟩ := ob_i h
          have hC := hC.tr (R_pieceOfC_c M _ hv) (by decide)
          exact hC.tr (R_condition_59_c   (R_condition_37    n) ih (x1) M2 r h) (by decide)
theorem R_condition_23_c      (M : am_M) (r : am_M) (h : R_condition_23     M = some r) : Ch [73, 87, 88, 89] M r := by
  have hC : Ch [73, 87, 88, 89] M M := Ch.rf
  obtain ⟨v1, hv, h⟩ := ob_i h
  obtain ⟨hR, ⟨hc, h⟩ | ⟨hc, h⟩⟩ := c_ne_i h
  · skip
    obtain ⟨M2, hv, h⟩ := ob_i h
    have hC := hC.tr (R_opens_c M _ hv) (by decide)
    exact hC.tr (R_condition_37_c     am_big (1) M2 r h) (by decide)
  · skip
    cases h
    exact hC
theorem R_condition_c      (M : am_M) (r : am_M) (h : R_condition     M = some r) : Ch [73, 87, 88, 89] M r := by
  have hC : Ch [73, 87, 88, 89] M M := Ch.rf
  obtain ⟨hc, M1, eM, h⟩ := fz_i h
  have hC := hC.up (by decide) eM
  obtain ⟨v2, hv, h⟩ := ob_i h
  obtain ⟨hR, ⟨hc, h⟩ | ⟨hc, h⟩⟩ := c_eq_i h
  · skip
    exact hC.tr (R_condition_23_c      M1 r h) (by decide)
  · skip
    obtain ⟨M3, hv, h⟩ := ob_i h
    have hC := hC.tr (R_wrongs_c (1) (M1 73 3) M1 _ hv) (by decide)
    exact hC.tr (R_condition_23_c      M3 r h) (by decide)
theorem R_clause_150_c      (M : am_M) (r : am_M) (h : R_clause_150     M = some r) : Ch [73, 83, 84, 85, 86, 87, 88, 89] M r := by
  have hC : Ch [73, 83, 84, 85, 86, 87, 88, 89] M M := Ch.rf
  obtain ⟨hc, M1, eM, h⟩ := wa_i h
  have hC := hC.up (by decide) eM
  obtain ⟨M2, eM, h⟩ := fw_i h
  have hC := hC.up (by decide) eM
  cases h
  exact hC
theorem R_clause_71_c     (x1 : Int) (M : am_M) (r : am_M) (h : R_clause_71    x1 M = some r) : Ch [73, 83, 84, 85, 86, 87, 88, 89] M r := by
  have hC : Ch [73, 83, 84, 85, 86, 87, 88, 89] M M := Ch.rf
  obtain ⟨v1, hv, h⟩ := ob_i h
  obtain ⟨hR, ⟨hc, h⟩ | ⟨hc, h⟩⟩ := c_ne_i h
  · skip
    obtain ⟨hc, M2, eM, h⟩ := wa_i h
    have hC := hC.up (by decide) eM
    obtain ⟨hc, M3, eM, h⟩ := wa_i h
    have hC := hC.up (by decide) eM
    obtain ⟨M4, eM, h⟩ := fw_i h
    have hC := hC.up (by decide) eM
    obtain ⟨M5, eM, h⟩ := fw_i h
    have hC := hC.up (by decide) eM
    obtain ⟨M6, eM, h⟩ := fw_i h
    have hC := hC.up (by decide) eM
    obtain ⟨M7, hv, h⟩ := ob_i h
    have hC := hC.tr (R_value_c M6 _ hv) (by decide)
    obtain ⟨hc, M8, eM, h⟩ := wa_i h
    have hC := hC.up (by decide) eM
    obtain ⟨v9, hv, h⟩ := ob_i h
    obtain ⟨hR, ⟨hc, h⟩ | ⟨hc, h⟩⟩ := c_eq_i h
    · skip
      exact hC.tr (R_clause_150_c      M8 r h) (by decide)
    · skip
      obtain ⟨M10, hv, h⟩ := ob_i h
      have hC := hC.tr (R_condition_c M8 _ hv) (by decide)
      exact hC.tr (R_clause_150_c      M10 r h) (by decide)
  · skip
    cases h
    exact hC
theorem R_clause_53_c     (x1 : Int) (M : am_M) (r : am_M) (h : R_clause_53    x1 M = some r) : Ch [73, 83, 84, 85, 86, 87, 88, 89] M r := by
  have hC : Ch [73, 83, 84, 85, 86, 87, 88, 89] M M := Ch.rf
  obtain ⟨hR, ⟨hc, h⟩ | ⟨hc, h⟩⟩ := c_ne_i h
  · skip
    exact hC.tr (R_clause_71_c     (x1) M r h) (by decide)
  · skip
    obtain ⟨M1, hv, h⟩ := ob_i h
    have hC := hC.tr (R_wrongs_c (4) (M 73 3) M _ hv) (by decide)
    exact hC.tr (R_clause_71_c     (x1) M1 r h) (by decide)
theorem R_clause_c      (M : am_M) (r : am_M) (h : R_clause     M = some r) : Ch [73, 83, 84, 85, 86, 87, 88, 89] M r := by
  have hC : Ch [73, 83, 84, 85, 86, 87, 88, 89] M M := Ch.rf
  obtain ⟨v1, hv, h⟩ := ob_i h
  obtain ⟨hR, ⟨hc, h⟩ | ⟨hc, h⟩⟩ := c_eq_i h
  · skip
    exact hC.tr (R_clause_53_c     (v1) M r h) (by decide)
  · skip
    obtain ⟨hR, ⟨hc, h⟩ | ⟨hc, h⟩⟩ := c_eq_i h
    · skip
      exact hC.tr (R_clause_53_c     (v1) M r h) (by decide)
    · skip
      obtain ⟨hR, ⟨hc, h⟩ | ⟨hc, h⟩⟩ := c_eq_i h
      · skip
        exact hC.tr (R_clause_53_c     (v1) M r h) (by decide)
      · skip
        obtain ⟨hR, ⟨hc, h⟩ | ⟨hc, h⟩⟩ := c_eq_i h
        · skip
          exact hC.tr (R_clause_53_c     (v1) M r h) (by decide)
        · skip
          obtain ⟨hR, ⟨hc, h⟩ | ⟨hc, h⟩⟩ := c_eq_i h
          · skip
            exact hC.tr (R_clause_53_c     (v1) M r h) (by decide)
          · skip
            obtain ⟨hR, ⟨hc, h⟩ | ⟨hc, h⟩⟩ := c_eq_i h
            · skip
              exact hC.tr (R_clause_53_c     (v1) M r h) (by decide)
            · skip
              obtain ⟨M2, hv, h⟩ := ob_i h
              have hC := hC.tr (R_wrongs_c (1) (M 73 3) M _ hv) (by decide)
              exact hC.tr (R_clause_71_c     (v1) M2 r h) (by decide)
theorem R_lawm_20_c      (M : am_M) (r : Int × am_M) (h : R_lawm_20     M = some r) : Ch [73, 77, 78, 79, 80, 81, 82, 83, 84, 85, 86, 87, 88, 89] M r.2 := by
  have hC : Ch [73, 77, 78, 79, 80, 81, 82, 83, 84, 85, 86, 87, 88, 89] M M := Ch.rf
  cases h
  exact hC
theorem R_lawm_199_c     : ∀ (n : Nat) (x3 : Int) (M : am_M) (r : Int × am_M), R_lawm_199    n x3 M = some r → Ch [73, 77, 78, 79, 80, 81, 82, 83, 84, 85, 86, 87, 88, 89] M r.2
  | 0, _, M, r, h => by cases h
  | n + 1, x3, M, r, h => by
    have ih := R_lawm_199_c     n
    have hC : Ch [73, 77, 78, 79, 80, 81, 82, 83, 84, 85, 86, 87, 88, 89] M M := Ch.rf
    obtain ⟨hR, ⟨hc, h⟩ | ⟨hc, h⟩⟩ := c_ge_i h
    · skip
      cases h
      exact hC
    · skip
      obtain ⟨hc, v1, ev, h⟩ := rd_i h
      obtain ⟨hc, M2, eM, h⟩ := wa_i h
      have hC := hC.up (by decide) eM
      obtain ⟨hc, v3, ev, h⟩ := rd_i h
      obtain ⟨hc, M4, eM, h⟩ := wa_i h
      have hC := hC.up (by decide) eM
      exact hC.tr (ih ((x3) + (1)) M4 r h) (by decide)
theorem R_lawm_135_c     : ∀ (n : Nat) (x3 : Int) (M : am_M) (r : Int × am_M), R_lawm_135    n x3 M = some r → Ch [73, 77, 78, 79, 80, 81, 82, 83, 84, 85, 86, 87, 88, 89] M r.2
  | 0, _, M, r, h => by cases h
  | n + 1, x3, M, r, h => by
    have ih := R_lawm_135_c     n
    have hC : Ch [73, 77, 78, 79, 80, 81, 82, 83, 84, 85, 86, 87, 88, 89] M M := Ch.rf
    obtain ⟨hR, ⟨hc, h⟩ | ⟨hc, h⟩⟩ := c_ge_i h
    · skip
      exact hC.tr (R_lawm_199_c     am_big (0) M r h) (by decide)
    · skip
      obtain ⟨hc, v1, ev, h⟩ := rd_i h
      obtain ⟨hc, M2, eM, h⟩ := wa_i h
      have hC := hC.up (by decide) eM
      obtain ⟨hc, v3, ev, h⟩ := rd_i h
      obtain ⟨hc, M4, eM, h⟩ := wa_i h
      have hC := hC.up (by decide) eM
      obtain ⟨hc, v5, ev, h⟩ := rd_i h
      obtain ⟨hc, M6, eM, h⟩ := wa_i h
      have hC := hC.up (by decide) eM
      obtain ⟨hc, v7, ev, h⟩ := rd_i h
      obtain ⟨hc, M8, eM, h⟩ := wa_i h
      have hC := hC.up (by decide) eM
      exact hC.tr (ih ((x3) + (1)) M8 r h) (by decide)
theorem R_lawm_113_c      (M : am_M) (r : Int × am_M) (h : R_lawm_113     M = some r) : Ch [73, 77, 78, 79, 80, 81, 82, 83, 84, 85, 86, 87, 88, 89] M r.2 := by
  have hC : Ch [73, 77, 78, 79, 80, 81, 82, 83, 84, 85, 86, 87, 88, 89] M M := Ch.rf
  obtain ⟨hR, ⟨hc, h⟩ | ⟨hc, h⟩⟩ := c_ge_i h
  · skip
    obtain ⟨M1, eM, h⟩ := fw_i h
    have hC := hC.up (by decide) eM
    exact hC.tr (R_lawm_135_c     am_big (0) M1 r h) (by decide)
  · skip
    cases h
    exact hC
theorem R_lawm_100_c   (k39 : Int → am_M → Option (Int × am_M)) (hk39 : ∀ (x2 : Int) (M : am_M) (r : Int × am_M), k39 x2 M = some r → Ch [73, 77, 78, 79, 80, 81, 82, 83, 84, 85, 86, 87, 88, 89] M r.2) (x2 : Int) (M : am_M) (r : Int × am_M) (h : R_lawm_100   k39 x2 M = some r) : Ch [73, 77, 78, 79, 80, 81, 82, 83, 84, 85, 86, 87, 88, 89] M r.2 := by
  have hC : Ch [73, 77, 78, 79, 80, 81, 82, 83, 84, 85, 86, 87, 88, 89] M M := Ch.rf
  obtain ⟨M1, eM, h⟩ := fw_i h
  have hC := hC.up (by decide) eM
  exact hC.tr (hk39 (x2) M1 r h) (by decide)
theorem R_lawm_77_c   (k39 : Int → am_M → Option (Int × am_M)) (hk39 : ∀ (x2 : Int) (M : am_M) (r : Int × am_M), k39 x2 M = some r → Ch [73, 77, 78, 79, 80, 81, 82, 83, 84, 85, 86, 87, 88, 89] M r.2) (s0 : Int) (M : am_M) (r : Int × am_M) (h : R_lawm_77   k39 s0 M = some r) : Ch [73, 77, 78, 79, 80, 81, 82, 83, 84, 85, 86, 87, 88, 89] M r.2 := by
  have hC : Ch [73, 77, 78, 79, 80, 81, 82, 83, 84, 85, 86, 87, 88, 89] M M := Ch.rf
  obtain ⟨hR, ⟨hc, h⟩ | ⟨hc, h⟩⟩ := c_eq_i h
  · skip
    exact hC.tr (hk39 (s0) M r h) (by decide)
  · skip
    obtain ⟨v1, hv, h⟩ := ob_i h
    obtain ⟨hR, ⟨hc, h⟩ | ⟨hc, h⟩⟩ := c_eq_i h
    · skip
      exact hC.tr (R_lawm_100_c   k39 hk39 (s0) M r h) (by decide)
    · skip
      obtain ⟨M2, hv, h⟩ := ob_i h
      have hC := hC.tr (R_wrongs_c (1) (M 73 3) M _ hv) (by decide)
      exact hC.tr (R_lawm_100_c   k39 hk39 (s0) M2 r h) (by decide)
theorem R_lawm_76_c   (k39 : Int → am_M → Option (Int × am_M)) (hk39 : ∀ (x2 : Int) (M : am_M) (r : Int × am_M), k39 x2 M = some r → Ch [73, 77, 78, 79, 80, 81, 82, 83, 84, 85, 86, 87, 88, 89] M r.2)  (M : am_M) (r : Int × am_M) (h : R_lawm_76   k39  M = some r) : Ch [73, 77, 78, 79, 80, 81, 82, 83, 84, 85, 86, 87, 88, 89] M r.2 := by
  have hC : Ch [73, 77, 78, 79, 80, 81, 82, 83, 84, 85, 86, 87, 88, 89] M M := Ch.rf
  exact hC.tr (R_lawm_77_c   k39 hk39 (0) M r h) (by decide)
theorem R_lawm_39_c     : ∀ (n : Nat) (x2 : Int) (M : am_M) (r : Int × am_M), R_lawm_39    n x2 M = some r → Ch [73, 77, 78, 79, 80, 81, 82, 83, 84, 85, 86, 87, 88, 89] M r.2
  | 0, _, M, r, h => by cases h
  | n + 1, x2, M, r, h => by
    have ih := R_lawm_39_c     n
    have hC : Ch [73, 77, 78, 79, 80, 81, 82, 83, 84, 85, 86, 87, 88, 89] M M := Ch.rf
    obtain ⟨hR, ⟨hc, h⟩ | ⟨hc, h⟩⟩ := c_eq_i h
    · skip
      exact hC.tr (R_lawm_113_c      M r h) (by decide)
    · skip
      obtain ⟨v1, hv, h⟩ := ob_i h
      obtain ⟨hR, ⟨hc, h⟩ | ⟨hc, h⟩⟩ := c_eq_i h
      · skip
        exact hC.tr (R_lawm_113_c      M r h) (by decide)
      · skip
        obtain ⟨M2, hv, h⟩ := ob_i h
        have hC := hC.tr (R_clause_c M _ hv) (by decide)
        obtain ⟨v3, hv, h⟩ := ob_i h
        obtain ⟨hR, ⟨hc, h⟩ | ⟨hc, h⟩⟩ := c_eq_i h
        · skip
          exact hC.tr (R_lawm_76_c   (R_lawm_39    n) ih  M2 r h) (by decide)
        · skip
          obtain ⟨hR, ⟨hc, h⟩ | ⟨hc, h⟩⟩ := c_ge_i h
          · skip
            exact hC.tr (R_lawm_76_c   (R_lawm_39    n) ih  M2 r h) (by decide)
          · skip
            exact hC.tr (R_lawm_77_c   (R_lawm_39    n) ih (1) M2 r h) (by decide)
theorem R_lawm_c     (x1 : Int) (M : am_M) (r : Int × am_M) (h : R_lawm    x1 M = some r) : Ch [73, 77, 78, 79, 80, 81, 82, 83, 84, 85, 86, 87, 88, 89] M r.2 := by
  have hC : Ch [73, 77, 78, 79, 80, 81, 82, 83, 84, 85, 86, 87, 88, 89] M M := Ch.rf
  obtain ⟨hc, h⟩ := ck_i h
  obtain ⟨v1, hv, h⟩ := ob_i h
  obtain ⟨hR, ⟨hc, h⟩ | ⟨hc, h⟩⟩ := c_eq_i h
  · skip
    exact hC.tr (R_lawm_20_c      M r h) (by decide)
  · skip
    obtain ⟨hR, ⟨hc, h⟩ | ⟨hc, h⟩⟩ := c_le_i h
    · skip
      obtain ⟨M2, hv, h⟩ := ob_i h
      have hC := hC.tr (R_begins_c (x1) M _ hv) (by decide)
      obtain ⟨M3, eM, h⟩ := fw_i h
      have hC := hC.up (by decide) eM
      obtain ⟨M4, eM, h⟩ := fw_i h
      have hC := hC.up (by decide) eM
      exact hC.tr (R_lawm_39_c     am_big (1) M4 r h) (by decide)
    · skip
      exact hC.tr (R_lawm_20_c      M r h) (by decide)
theorem R_person_24_c      (M : am_M) (r : Int × am_M) (h : R_person_24     M = some r) : Ch [73, 92, 93, 94] M r.2 := by
  have hC : Ch [73, 92, 93, 94] M M := Ch.rf
  cases h
  exact hC
theorem R_person_60_c      (M : am_M) (r : Int × am_M) (h : R_person_60     M = some r) : Ch [73, 92, 93, 94] M r.2 := by
  have hC : Ch [73, 92, 93, 94] M M := Ch.rf
  cases h
  exact hC
theorem R_person_c     (x1 : Int) (x2 : Int) (M : am_M) (r : Int × am_M) (h : R_person    x1 x2 M = some r) : Ch [73, 92, 93, 94] M r.2 := by
  have hC : Ch [73, 92, 93, 94] M M := Ch.rf
  obtain ⟨hc, h⟩ := ck_i h
  obtain ⟨v1, hv, h⟩ := ob_i h
  obtain ⟨hR, ⟨hc, h⟩ | ⟨hc, h⟩⟩ := c_eq_i h
  · skip
    exact hC.tr (R_person_24_c      M r h) (by decide)
  · skip
    obtain ⟨hc, h⟩ := ck_i h
    obtain ⟨v2, hv, h⟩ := ob_i h
    obtain ⟨hR, ⟨hc, h⟩ | ⟨hc, h⟩⟩ := c_ne_i h
    · skip
      obtain ⟨⟨hc, hv⟩, M3, eM, h⟩ := wz_i h
      have hC := hC.up (by decide) eM
      obtain ⟨hc, M4, eM, h⟩ := wa_i h
      have hC := hC.up (by decide) eM
      obtain ⟨hc, M5, eM, h⟩ := wa_i h
      have hC := hC.up (by decide) eM
      obtain ⟨hR, ⟨hc, h⟩ | ⟨hc, h⟩⟩ := c_ne_i h
      · skip
        exact hC.tr (R_person_60_c      M5 r h) (by decide)
      · skip
        obtain ⟨M6, eM, h⟩ := fw_i h
        have hC := hC.up (by decide) eM
        exact hC.tr (R_person_60_c      M6 r h) (by decide)
    · skip
      exact hC.tr (R_person_24_c      M r h) (by decide)
theorem R_ahead_c     (x1 : Int) (M : am_M) (r : Int × am_M) (h : R_ahead    x1 M = some r) : Ch [73] M r.2 := by
  have hC : Ch [73] M M := Ch.rf
  obtain ⟨v1, hv, h⟩ := ob_i h
  obtain ⟨hR, ⟨hc, h⟩ | ⟨hc, h⟩⟩ := c_ne_i h
  · skip
    obtain ⟨M2, eM, h⟩ := fw_i h
    have hC := hC.up (by decide) eM
    cases h
    exact hC
  · skip
    cases h
    exact hC
theorem R_width_c     (x1 : Int) (M : am_M) (r : Int × am_M) (h : R_width    x1 M = some r) : Ch [73] M r.2 := by
  have hC : Ch [73] M M := Ch.rf
  obtain ⟨hc, h⟩ := ck_i h
  obtain ⟨v1, hv, h⟩ := ob_i h
  obtain ⟨hR, ⟨hc, h⟩ | ⟨hc, h⟩⟩ := c_ne_i h
  · skip
    obtain ⟨M2, eM, h⟩ := fw_i h
    have hC := hC.up (by decide) eM
    cases h
    exact hC
  · skip
    cases h
    exact hC
theorem R_light_c     (x1 : Int) (M : am_M) (r : Int × am_M) (h : R_light    x1 M = some r) : Ch [73] M r.2 := by
  have hC : Ch [73] M M := Ch.rf
  obtain ⟨hc, h⟩ := ck_i h
  obtain ⟨v1, hv, h⟩ := ob_i h
  obtain ⟨hR, ⟨hc, h⟩ | ⟨hc, h⟩⟩ := c_ne_i h
  · skip
    obtain ⟨M2, eM, h⟩ := fw_i h
    have hC := hC.up (by decide) eM
    cases h
    exact hC
  · skip
    cases h
    exact hC
theorem R_start_17_c      (M : am_M) (r : Int × am_M) (h : R_start_17     M = some r) : Ch [73, 95, 96, 97, 98, 99, 100] M r.2 := by
  have hC : Ch [73, 95, 96, 97, 98, 99, 100] M M := Ch.rf
  cases h
  exact hC
theorem R_start_c     (x1 : Int) (M : am_M) (r : Int × am_M) (h : R_start    x1 M = some r) : Ch [73, 95, 96, 97, 98, 99, 100] M r.2 := by
  have hC : Ch [73, 95, 96, 97, 98, 99, 100] M M := Ch.rf
  obtain ⟨v1, hv, h⟩ := ob_i h
  obtain ⟨hR, ⟨hc, h⟩ | ⟨hc, h⟩⟩ := c_eq_i h
  · skip
    exact hC.tr (R_start_17_c      M r h) (by decide)
  · skip
    obtain ⟨hc, v2, ev, h⟩ := rd_i h
    obtain ⟨hR, ⟨hc, h⟩ | ⟨hc, h⟩⟩ := c_ne_i h
    · skip
      obtain ⟨M3, hv, h⟩ := ob_i h
      have hC := hC.tr (R_beginsPath_c (x1) M _ hv) (by decide)
      cases h
      exact hC
    · skip
      exact hC.tr (R_start_17_c      M r h) (by decide)
theorem R_repeats_38_c     : ∀ (n : Nat) (x1 : Int) (x2 : Int) (x4 : Int) (x5 : Int) (M : am_M) (r : am_M), R_repeats_38    n x1 x2 x4 x5 M = some r → Ch [73, 113] M r
  | 0, _, _, _, _, M, r, h => by cases h
  | n + 1, x1, x2, x4, x5, M, r, h => by
    have ih := R_repeats_38_c     n
    have hC : Ch [73, 113] M M := Ch.rf
    obtain ⟨hR, ⟨hc, h⟩ | ⟨hc, h⟩⟩ := c_ge_i h
    · skip
      obtain ⟨M1, eM, h⟩ := fw_i h
      have hC := hC.up (by decide) eM
      cases h
      exact hC
    · skip
      obtain ⟨hc, h⟩ := ck_i h
      obtain ⟨v2, ev, h⟩ := tw_i h
      obtain ⟨hc, v3, ev, h⟩ := rd_i h
      obtain ⟨hc, M4, eM, h⟩ := wa_i h
      have hC := hC.up (by decide) eM
      exact hC.tr (ih (x1) (x2) (x4) ((x5) + (1)) M4 r h) (by decide)
theorem R_repeats_26_c     (x1 : Int) (x2 : Int) (x4 : Int) (M : am_M) (r : am_M) (h : R_repeats_26    x1 x2 x4 M = some r) : Ch [73, 113] M r := by
  have hC : Ch [73, 113] M M := Ch.rf
  obtain ⟨v1, hv, h⟩ := ob_i h
  obtain ⟨hR, ⟨hc, h⟩ | ⟨hc, h⟩⟩ := c_ne_i h
  · skip
    exact hC.tr (R_repeats_38_c     am_big (x1) (x2) (x4) (x4) M r h) (by decide)
  · skip
    cases h
    exact hC
theorem R_repeats_c     (x1 : Int) (x2 : Int) (x3 : Int) (M : am_M) (r : am_M) (h : R_repeats    x1 x2 x3 M = some r) : Ch [73, 113] M r := by
  have hC : Ch [73, 113] M M := Ch.rf
  obtain ⟨hR, ⟨hc, h⟩ | ⟨hc, h⟩⟩ := c_le_i h
  · skip
    exact hC.tr (R_repeats_26_c     (x1) (x2) ((M 73 68) - (x1)) M r h) (by decide)
  · skip
    obtain ⟨M1, hv, h⟩ := ob_i h
    have hC := hC.tr (R_wrongs_c (6) (x3) M _ hv) (by decide)
    exact hC.tr (R_repeats_26_c     (x1) (x2) ((M 73 68) - (x1)) M1 r h) (by decide)
theorem R_timesTold_c      (M : am_M) (r : Int × am_M) (h : R_timesTold     M = some r) : Ch [73] M r.2 := by
  have hC : Ch [73] M M := Ch.rf
  obtain ⟨v1, hv, h⟩ := ob_i h
  obtain ⟨hc, h⟩ := ck_i h
  obtain ⟨v2, hv, h⟩ := ob_i h
  obtain ⟨hR, ⟨hc, h⟩ | ⟨hc, h⟩⟩ := c_ne_i h
  · skip
    obtain ⟨M3, eM, h⟩ := fw_i h
    have hC := hC.up (by decide) eM
    obtain ⟨hc, v4, ev, h⟩ := rd_i h
    cases h
    exact hC
  · skip
    cases h
    exact hC
theorem R_act_228_c     : ∀ (n : Nat) (x2 : Int) (x3 : Int) (M : am_M) (r : am_M), R_act_228    n x2 x3 M = some r → Ch [73, 113, 114, 115, 116] M r
  | 0, _, _, M, r, h => by cases h
  | n + 1, x2, x3, M, r, h => by
    have ih := R_act_228_c     n
    have hC : Ch [73, 113, 114, 115, 116] M M := Ch.rf
    obtain ⟨hR, ⟨hc, h⟩ | ⟨hc, h⟩⟩ := c_ge_i h
    · skip
      obtain ⟨M1, eM, h⟩ := fw_i h
      have hC := hC.up (by decide) eM
      obtain ⟨hc, M2, eM, h⟩ := fz_i h
      have hC := hC.up (by decide) eM
      obtain ⟨M3, eM, h⟩ := fw_i h
      have hC := hC.up (by decide) eM
      cases h
      exact hC
    · skip
      obtain ⟨v4, hv, h⟩ := ob_i h
      obtain ⟨hc, M5, eM, h⟩ := wa_i h
      have hC := hC.up (by decide) eM
      exact hC.tr (ih (x2) ((x3) + (1)) M5 r h) (by decide)
theorem R_act_218_c     (x2 : Int) (M : am_M) (r : am_M) (h : R_act_218    x2 M = some r) : Ch [73, 113, 114, 115, 116] M r := by
  have hC : Ch [73, 113, 114, 115, 116] M M := Ch.rf
  obtain ⟨v1, hv, h⟩ := ob_i h
  obtain ⟨hR, ⟨hc, h⟩ | ⟨hc, h⟩⟩ := c_ne_i h
  · skip
    exact hC.tr (R_act_228_c     am_big (x2) (0) M r h) (by decide)
  · skip
    cases h
    exact hC
theorem R_act_111_c     (x1 : Int) (x2 : Int) (M : am_M) (r : am_M) (h : R_act_111    x1 x2 M = some r) : Ch [73, 113, 114, 115, 116] M r := by
  have hC : Ch [73, 113, 114, 115, 116] M M := Ch.rf
  obtain ⟨v1, hv, h⟩ := ob_i h
  obtain ⟨hR, ⟨hc, h⟩ | ⟨hc, h⟩⟩ := c_ne_i h
  · skip
    obtain ⟨hc, M2, eM, h⟩ := wa_i h
    have hC := hC.up (by decide) eM
    obtain ⟨hc, M3, eM, h⟩ := wa_i h
    have hC := hC.up (by decide) eM
    obtain ⟨hc, M4, eM, h⟩ := wa_i h
    have hC := hC.up (by decide) eM
    obtain ⟨M5, eM, h⟩ := fw_i h
    have hC := hC.up (by decide) eM
    obtain ⟨hc, M6, eM, h⟩ := fz_i h
    have hC := hC.up (by decide) eM
    obtain ⟨M7, eM, h⟩ := fw_i h
    have hC := hC.up (by decide) eM
    cases h
    exact hC
  · skip
    cases h
    exact hC
theorem R_act_80_c     (x1 : Int) (M : am_M) (r : am_M) (h : R_act_80    x1 M = some r) : Ch [73, 113, 114, 115, 116] M r := by
  have hC : Ch [73, 113, 114, 115, 116] M M := Ch.rf
  obtain ⟨v1, M2, hv, h⟩ := oc_i h
  have hC := hC.tr (R_timesTold_c M _ hv) (by decide)
  obtain ⟨v3, hv, h⟩ := ob_i h
  obtain ⟨hR, ⟨hc, h⟩ | ⟨hc, h⟩⟩ := c_ne_i h
  · skip
    obtain ⟨v4, hv, h⟩ := ob_i h
    obtain ⟨v5, hv, h⟩ := ob_i h
    obtain ⟨hR, ⟨hc, h⟩ | ⟨hc, h⟩⟩ := c_ne_i h
    · skip
      obtain ⟨hR, ⟨hc, h⟩ | ⟨hc, h⟩⟩ := c_le_i h
      · skip
        exact hC.tr (R_act_218_c     (v1) M2 r h) (by decide)
      · skip
        obtain ⟨M6, hv, h⟩ := ob_i h
        have hC := hC.tr (R_wrongs_c (6) (x1) M2 _ hv) (by decide)
        exact hC.tr (R_act_218_c     (v1) M6 r h) (by decide)
    · skip
      obtain ⟨M7, hv, h⟩ := ob_i h
      have hC := hC.tr (R_wrongs_c (1) (M2 73 3) M2 _ hv) (by decide)
      exact hC.tr (R_act_218_c     (v1) M7 r h) (by decide)
  · skip
    obtain ⟨hR, ⟨hc, h⟩ | ⟨hc, h⟩⟩ := c_ne_i h
    · skip
      exact hC.tr (R_act_111_c     (x1) (v1) M2 r h) (by decide)
    · skip
      obtain ⟨M8, hv, h⟩ := ob_i h
      have hC := hC.tr (R_wrongs_c (5) (M2 73 3) M2 _ hv) (by decide)
      exact hC.tr (R_act_111_c     (x1) (v1) M8 r h) (by decide)
theorem R_act_c      (M : am_M) (r : am_M) (h : R_act     M = some r) : Ch [73, 113, 114, 115, 116] M r := by
  have hC : Ch [73, 113, 114, 115, 116] M M := Ch.rf
  obtain ⟨v1, hv, h⟩ := ob_i h
  obtain ⟨hR, ⟨hc, h⟩ | ⟨hc, h⟩⟩ := c_ne_i h
  · skip
    exact hC.tr (R_act_80_c     (M 73 3) M r h) (by decide)
  · skip
    obtain ⟨hR, ⟨hc, h⟩ | ⟨hc, h⟩⟩ := c_le_i h
    · skip
      exact hC.tr (R_act_80_c     (M 73 3) M r h) (by decide)
    · skip
      obtain ⟨hR, ⟨hc, h⟩ | ⟨hc, h⟩⟩ := c_eq_i h
      · skip
        exact hC.tr (R_act_80_c     (M 73 3) M r h) (by decide)
      · skip
        obtain ⟨M2, eM, h⟩ := fw_i h
        have hC := hC.up (by decide) eM
        obtain ⟨M3, eM, h⟩ := fw_i h
        have hC := hC.up (by decide) eM
        obtain ⟨hc, v4, ev, h⟩ := rd_i h
        obtain ⟨hc, v5, ev, h⟩ := rd_i h
        obtain ⟨hc, v6, ev, h⟩ := rd_i h
        obtain ⟨M7, hv, h⟩ := ob_i h
        have hC := hC.tr (R_repeats_c (v4) (v5) (v6) M3 _ hv) (by decide)
        cases h
        exact hC
theorem R_takesActs_68_c      (M : am_M) (r : Int × am_M) (h : R_takesActs_68     M = some r) : Ch [73, 113, 114, 115, 116] M r.2 := by
  have hC : Ch [73, 113, 114, 115, 116] M M := Ch.rf
  obtain ⟨v1, hv, h⟩ := ob_i h
  obtain ⟨hc, h⟩ := ck_i h
  cases h
  exact hC
theorem R_takesActs_45_c      (M : am_M) (r : Int × am_M) (h : R_takesActs_45     M = some r) : Ch [73, 113, 114, 115, 116] M r.2 := by
  have hC : Ch [73, 113, 114, 115, 116] M M := Ch.rf
  obtain ⟨v1, hv, h⟩ := ob_i h
  obtain ⟨hR, ⟨hc, h⟩ | ⟨hc, h⟩⟩ := c_eq_i h
  · skip
    exact hC.tr (R_takesActs_68_c      M r h) (by decide)
  · skip
    obtain ⟨hR, ⟨hc, h⟩ | ⟨hc, h⟩⟩ := c_le_i h
    · skip
      exact hC.tr (R_takesActs_68_c      M r h) (by decide)
    · skip
      obtain ⟨M2, hv, h⟩ := ob_i h
      have hC := hC.tr (R_wrongs_c (1) (M 73 3) M _ hv) (by decide)
      exact hC.tr (R_takesActs_68_c      M2 r h) (by decide)
theorem R_takesActs_20_c     : ∀ (n : Nat)  (M : am_M) (r : Int × am_M), R_takesActs_20    n  M = some r → Ch [73, 113, 114, 115, 116] M r.2
  | 0, M, r, h => by cases h
  | n + 1, M, r, h => by
    have ih := R_takesActs_20_c     n
    have hC : Ch [73, 113, 114, 115, 116] M M := Ch.rf
    obtain ⟨v1, hv, h⟩ := ob_i h
    obtain ⟨hR, ⟨hc, h⟩ | ⟨hc, h⟩⟩ := c_eq_i h
    · skip
      exact hC.tr (R_takesActs_45_c      M r h) (by decide)
    · skip
      obtain ⟨hR, ⟨hc, h⟩ | ⟨hc, h⟩⟩ := c_ge_i h
      · skip
        exact hC.tr (R_takesActs_45_c      M r h) (by decide)
      · skip
        obtain ⟨M2, hv, h⟩ := ob_i h
        have hC := hC.tr (R_act_c M _ hv) (by decide)
        exact hC.tr (ih  M2 r h) (by decide)
theorem R_takesActs_c     (x1 : Int) (M : am_M) (r : Int × am_M) (h : R_takesActs    x1 M = some r) : Ch [73, 113, 114, 115, 116] M r.2 := by
  have hC : Ch [73, 113, 114, 115, 116] M M := Ch.rf
  obtain ⟨M1, hv, h⟩ := ob_i h
  have hC := hC.tr (R_begins_c (x1) M _ hv) (by decide)
  obtain ⟨M2, eM, h⟩ := fw_i h
  have hC := hC.up (by decide) eM
  obtain ⟨M3, eM, h⟩ := fw_i h
  have hC := hC.up (by decide) eM
  obtain ⟨hc, M4, eM, h⟩ := fz_i h
  have hC := hC.up (by decide) eM
  exact hC.tr (R_takesActs_20_c     am_big  M4 r h) (by decide)
theorem R_passes_c     (x1 : Int) (M : am_M) (r : Int × am_M) (h : R_passes    x1 M = some r) : Ch [73] M r.2 := by
  have hC : Ch [73] M M := Ch.rf
  obtain ⟨hR, ⟨hc, h⟩ | ⟨hc, h⟩⟩ := c_le_i h
  · skip
    obtain ⟨M1, eM, h⟩ := fw_i h
    have hC := hC.up (by decide) eM
    cases h
    exact hC
  · skip
    obtain ⟨hc, M2, eM, h⟩ := fz_i h
    have hC := hC.up (by decide) eM
    cases h
    exact hC
theorem R_changes_16_c      (M : am_M) (r : am_M) (h : R_changes_16     M = some r) : Ch [73] M r := by
  have hC : Ch [73] M M := Ch.rf
  cases h
  exact hC
theorem R_changes_27_c     : ∀ (n : Nat) (x1 : Int) (M : am_M) (r : am_M), R_changes_27    n x1 M = some r → Ch [73] M r
  | 0, _, M, r, h => by cases h
  | n + 1, x1, M, r, h => by
    have ih := R_changes_27_c     n
    have hC : Ch [73] M M := Ch.rf
    obtain ⟨hc, v1, ev, h⟩ := rd_i h
    obtain ⟨hR, ⟨hc, h⟩ | ⟨hc, h⟩⟩ := c_ne_i h
    · skip
      obtain ⟨M2, eM, h⟩ := fw_i h
      have hC := hC.up (by decide) eM
      cases h
      exact hC
    · skip
      obtain ⟨hc, h⟩ := ck_i h
      obtain ⟨v3, ev, h⟩ := tw_i h
      exact hC.tr (ih (v3) M r h) (by decide)
theorem R_changes_c      (M : am_M) (r : am_M) (h : R_changes     M = some r) : Ch [73] M r := by
  have hC : Ch [73] M M := Ch.rf
  obtain ⟨hR, ⟨hc, h⟩ | ⟨hc, h⟩⟩ := c_eq_i h
  · skip
    exact hC.tr (R_changes_16_c      M r h) (by decide)
  · skip
    obtain ⟨v1, M2, hv, h⟩ := oc_i h
    have hC := hC.tr (R_passes_c (0) M _ hv) (by decide)
    obtain ⟨hR, ⟨hc, h⟩ | ⟨hc, h⟩⟩ := c_ne_i h
    · skip
      obtain ⟨hc, h⟩ := ck_i h
      obtain ⟨v3, ev, h⟩ := tw_i h
      exact hC.tr (R_changes_27_c     am_big (v3) M2 r h) (by decide)
    · skip
      exact hC.tr (R_changes_16_c      M2 r h) (by decide)
theorem R_standsReady_c     (x1 : Int) (x2 : Int) (x3 : Int) (x4 : Int) (x5 : Int) (x6 : Int) (x7 : Int) (M : am_M) (r : am_M) (h : R_standsReady    x1 x2 x3 x4 x5 x6 x7 M = some r) : Ch [73] M r := by
  have hC : Ch [73] M M := Ch.rf
  obtain ⟨M1, eM, h⟩ := fw_i h
  have hC := hC.up (by decide) eM
  obtain ⟨M2, eM, h⟩ := fw_i h
  have hC := hC.up (by decide) eM
  obtain ⟨M3, eM, h⟩ := fw_i h
  have hC := hC.up (by decide) eM
  obtain ⟨M4, eM, h⟩ := fw_i h
  have hC := hC.up (by decide) eM
  obtain ⟨M5, eM, h⟩ := fw_i h
  have hC := hC.up (by decide) eM
  obtain ⟨M6, eM, h⟩ := fw_i h
  have hC := hC.up (by decide) eM
  obtain ⟨M7, eM, h⟩ := fw_i h
  have hC := hC.up (by decide) eM
  cases h
  exact hC
theorem R_does_45_c      (M : am_M) (r : am_M) (h : R_does_45     M = some r) : Ch [90, 91] M r := by
  have hC : Ch [90, 91] M M := Ch.rf
  cases h
  exact hC
theorem R_does_42_c     (x2 : Int) (x3 : Int) (s0 : Int) (s1 : Int) (M : am_M) (r : am_M) (h : R_does_42    x2 x3 s0 s1 M = some r) : Ch [90, 91] M r := by
  have hC : Ch [90, 91] M M := Ch.rf
  obtain ⟨hR, ⟨hc, h⟩ | ⟨hc, h⟩⟩ := c_eq_i h
  · skip
    obtain ⟨hc, v1, ev, h⟩ := rd_i h
    obtain ⟨hc, M2, eM, h⟩ := wa_i h
    have hC := hC.up (by decide) eM
    obtain ⟨hc, v3, ev, h⟩ := rd_i h
    obtain ⟨⟨hc, hv⟩, M4, eM, h⟩ := wz_i h
    have hC := hC.up (by decide) eM
    cases h
    exact hC
  · skip
    exact hC.tr (R_does_45_c      M r h) (by decide)
theorem R_does_16_c     (x1 : Int) (x2 : Int) (x3 : Int) (M : am_M) (r : am_M) (h : R_does_16    x1 x2 x3 M = some r) : Ch [90, 91] M r := by
  have hC : Ch [90, 91] M M := Ch.rf
  obtain ⟨hc, v1, ev, h⟩ := rd_i h
  obtain ⟨hR, ⟨hc, h⟩ | ⟨hc, h⟩⟩ := c_ne_i h
  · skip
    exact hC.tr (R_does_45_c      M r h) (by decide)
  · skip
    obtain ⟨hc, v2, ev, h⟩ := rd_i h
    obtain ⟨hR, ⟨hc, h⟩ | ⟨hc, h⟩⟩ := c_ne_i h
    · skip
      exact hC.tr (R_does_42_c     (x2) (x3) (v2) (0) M r h) (by decide)
    · skip
      exact hC.tr (R_does_42_c     (x2) (x3) (v2) (1) M r h) (by decide)
theorem R_does_120_c     (x1 : Int) (x2 : Int) (x3 : Int) (s1 : Int) (s2 : Int) (M : am_M) (r : am_M) (h : R_does_120    x1 x2 x3 s1 s2 M = some r) : Ch [90, 91] M r := by
  have hC : Ch [90, 91] M M := Ch.rf
  obtain ⟨⟨hc, hv⟩, M1, eM, h⟩ := wz_i h
  have hC := hC.up (by decide) eM
  obtain ⟨hc, v2, ev, h⟩ := rd_i h
  obtain ⟨hc, v3, ev, h⟩ := rd_i h
  obtain ⟨v4, hv, h⟩ := ob_i h
  obtain ⟨hc, M5, eM, h⟩ := wa_i h
  have hC := hC.up (by decide) eM
  cases h
  exact hC
theorem R_does_115_c     (x1 : Int) (x2 : Int) (x3 : Int) (s1 : Int) (M : am_M) (r : am_M) (h : R_does_115    x1 x2 x3 s1 M = some r) : Ch [90, 91] M r := by
  have hC : Ch [90, 91] M M := Ch.rf
  exact hC.tr (R_does_120_c     (x1) (x2) (x3) (s1) (1) M r h) (by decide)
theorem R_does_119_c     (x1 : Int) (x2 : Int) (x3 : Int) (s1 : Int) (M : am_M) (r : am_M) (h : R_does_119    x1 x2 x3 s1 M = some r) : Ch [90, 91] M r := by
  have hC : Ch [90, 91] M M := Ch.rf
  exact hC.tr (R_does_120_c     (x1) (x2) (x3) (s1) (0) M r h) (by decide)
theorem R_does_106_c     (x1 : Int) (x2 : Int) (x3 : Int) (s1 : Int) (M : am_M) (r : am_M) (h : R_does_106    x1 x2 x3 s1 M = some r) : Ch [90, 91] M r := by
  have hC : Ch [90, 91] M M := Ch.rf
  obtain ⟨hc, v1, ev, h⟩ := rd_i h
  obtain ⟨hR, ⟨hc, h⟩ | ⟨hc, h⟩⟩ := c_ne_i h
  · skip
    exact hC.tr (R_does_119_c     (x1) (x2) (x3) (s1) M r h) (by decide)
  · skip
    exact hC.tr (R_does_115_c     (x1) (x2) (x3) (s1) M r h) (by decide)
theorem R_does_c     (x1 : Int) (x2 : Int) (M : am_M) (r : am_M) (h : R_does    x1 x2 M = some r) : Ch [90, 91] M r := by
  have hC : Ch [90, 91] M M := Ch.rf
  obtain ⟨hR, ⟨hc, h⟩ | ⟨hc, h⟩⟩ := c_eq_i h
  · skip
    exact hC.tr (R_does_16_c     (x1) (x2) ((x2) + (1)) M r h) (by decide)
  · skip
    obtain ⟨hR, ⟨hc, h⟩ | ⟨hc, h⟩⟩ := c_ne_i h
    · skip
      obtain ⟨hc, v1, ev, h⟩ := rd_i h
      obtain ⟨hR, ⟨hc, h⟩ | ⟨hc, h⟩⟩ := c_ne_i h
      · skip
        exact hC.tr (R_does_115_c     (x1) (x2) ((x2) + (1)) (x2) M r h) (by decide)
      · skip
        obtain ⟨hc, v2, ev, h⟩ := rd_i h
        obtain ⟨hR, ⟨hc, h⟩ | ⟨hc, h⟩⟩ := c_ne_i h
        · skip
          exact hC.tr (R_does_115_c     (x1) (x2) ((x2) + (1)) (x2) M r h) (by decide)
        · skip
          obtain ⟨hR, ⟨hc, h⟩ | ⟨hc, h⟩⟩ := c_eq_i h
          · skip
            exact hC.tr (R_does_106_c     (x1) (x2) ((x2) + (1)) (x2) M r h) (by decide)
          · skip
            obtain ⟨hR, ⟨hc, h⟩ | ⟨hc, h⟩⟩ := c_ne_i h
            · skip
              exact hC.tr (R_does_119_c     (x1) (x2) ((x2) + (1)) (x2) M r h) (by decide)
            · skip
              exact hC.tr (R_does_106_c     (x1) (x2) ((x2) + (1)) (x2) M r h) (by decide)
    · skip
      exact hC.tr (R_does_16_c     (x1) (x2) ((x2) + (1)) M r h) (by decide)
