theorem R_works_121_c   (k5 : Int → Int → Int → am_M → Option (am_M)) (hk5 : ∀ (x2 : Int) (x3 : Int) (x4 : Int) (M : am_M) (r : am_M), k5 x2 x3 x4 M = some r → Ch [90, 91] M r) (x2 : Int) (x3 : Int) (x4 : Int) (M : am_M) (r : am_M) (h : R_works_121   k5 x2 x3 x4 M = some r) : Ch [90, 91] M r := by
  have hC : Ch [90, 91] M M := Ch.rf
  exact hC.tr (hk5 (x2) (x3) ((x4) + (1)) M r h) (by decide)
theorem R_works_117_c   (k5 : Int → Int → Int → am_M → Option (am_M)) (hk5 : ∀ (x2 : Int) (x3 : Int) (x4 : Int) (M : am_M) (r : am_M), k5 x2 x3 x4 M = some r → Ch [90, 91] M r) (x2 : Int) (x3 : Int) (x4 : Int) (s1 : Int) (s2 : Int) (M : am_M) (r : am_M) (h : R_works_117   k5 x2 x3 x4 s1 s2 M = some r) : Ch [90, 91] M r := by
  have hC : Ch [90, 91] M M := Ch.rf
  obtain ⟨hc, M1, eM, h⟩ := wa_i h
  have hC := hC.up (by decide) eM
  exact hC.tr (R_works_121_c   k5 hk5 (x2) ((x3) + (1)) (x4) M1 r h) (by decide)
theorem R_works_5_c     : ∀ (n : Nat) (x2 : Int) (x3 : Int) (x4 : Int) (M : am_M) (r : am_M), R_works_5    n x2 x3 x4 M = some r → Ch [90, 91] M r
  | 0, _, _, _, M, r, h => by cases h
  | n + 1, x2, x3, x4, M, r, h => by
    have ih := R_works_5_c     n
    have hC : Ch [90, 91] M M := Ch.rf
    obtain ⟨hR, ⟨hc, h⟩ | ⟨hc, h⟩⟩ := c_ge_i h
    · skip
      cases h
      exact hC
    · skip
      obtain ⟨hc, v1, ev, h⟩ := rd_i h
      obtain ⟨hR, ⟨hc, h⟩ | ⟨hc, h⟩⟩ := c_le_i h
      · skip
        obtain ⟨hc, v2, ev, h⟩ := rd_i h
        obtain ⟨hR, ⟨hc, h⟩ | ⟨hc, h⟩⟩ := c_ne_i h
        · skip
          obtain ⟨⟨hc, hv⟩, M3, eM, h⟩ := wz_i h
          have hC := hC.up (by decide) eM
          obtain ⟨hc, v4, ev, h⟩ := rd_i h
          obtain ⟨hR, ⟨hc, h⟩ | ⟨hc, h⟩⟩ := c_ne_i h
          · skip
            obtain ⟨hc, v5, ev, h⟩ := rd_i h
            obtain ⟨v6, hv, h⟩ := ob_i h
            exact hC.tr (R_works_117_c   (R_works_5    n) ih (x2) (x3) (x4) (x3) (v6) M3 r h) (by decide)
          · skip
            obtain ⟨hc, v7, ev, h⟩ := rd_i h
            exact hC.tr (R_works_117_c   (R_works_5    n) ih (x2) (x3) (x4) (x3) (v7) M3 r h) (by decide)
        · skip
          obtain ⟨hc, v8, ev, h⟩ := rd_i h
          obtain ⟨hc, M9, eM, h⟩ := wa_i h
          have hC := hC.up (by decide) eM
          exact hC.tr (R_works_121_c   (R_works_5    n) ih (x2) (x3) (x4) M9 r h) (by decide)
      · skip
        obtain ⟨hc, v10, ev, h⟩ := rd_i h
        obtain ⟨M11, hv, h⟩ := ob_i h
        have hC := hC.tr (R_does_c (v10) (((x3) + (-1)) - (1)) M _ hv) (by decide)
        exact hC.tr (R_works_121_c   (R_works_5    n) ih (x2) ((x3) + (-1)) (x4) M11 r h) (by decide)
theorem R_works_c     (x1 : Int) (x2 : Int) (M : am_M) (r : am_M) (h : R_works    x1 x2 M = some r) : Ch [90, 91] M r := by
  have hC : Ch [90, 91] M M := Ch.rf
  exact hC.tr (R_works_5_c     am_big (x2) (0) (x1) M r h) (by decide)
theorem R_tells_100_c     (s0 : Int) (M : am_M) (r : Int × am_M) (h : R_tells_100    s0 M = some r) : Ch [90, 91] M r.2 := by
  have hC : Ch [90, 91] M M := Ch.rf
  cases h
  exact hC
theorem R_tells_101_c   (k2 : Int → Int → Int → am_M → Option (Int × am_M)) (hk2 : ∀ (x1 : Int) (x2 : Int) (x3 : Int) (M : am_M) (r : Int × am_M), k2 x1 x2 x3 M = some r → Ch [90, 91] M r.2) (x1 : Int) (x2 : Int) (x3 : Int) (M : am_M) (r : Int × am_M) (h : R_tells_101   k2 x1 x2 x3 M = some r) : Ch [90, 91] M r.2 := by
  have hC : Ch [90, 91] M M := Ch.rf
  exact hC.tr (hk2 (x1) (x2) ((x3) + (1)) M r h) (by decide)
theorem R_tells_2_c     : ∀ (n : Nat) (x1 : Int) (x2 : Int) (x3 : Int) (M : am_M) (r : Int × am_M), R_tells_2    n x1 x2 x3 M = some r → Ch [90, 91] M r.2
  | 0, _, _, _, M, r, h => by cases h
  | n + 1, x1, x2, x3, M, r, h => by
    have ih := R_tells_2_c     n
    have hC : Ch [90, 91] M M := Ch.rf
    obtain ⟨hR, ⟨hc, h⟩ | ⟨hc, h⟩⟩ := c_ge_i h
    · skip
      cases h
      exact hC
    · skip
      obtain ⟨hc, v1, ev, h⟩ := rd_i h
      obtain ⟨hR, ⟨hc, h⟩ | ⟨hc, h⟩⟩ := c_eq_i h
      · skip
        obtain ⟨hc, v2, ev, h⟩ := rd_i h
        obtain ⟨hc, v3, ev, h⟩ := rd_i h
        obtain ⟨M4, hv, h⟩ := ob_i h
        have hC := hC.tr (R_works_c (v2) (v3) M _ hv) (by decide)
        obtain ⟨hc, v5, ev, h⟩ := rd_i h
        obtain ⟨hR, ⟨hc, h⟩ | ⟨hc, h⟩⟩ := c_ne_i h
        · skip
          exact hC.tr (R_tells_101_c   (R_tells_2    n) ih (x1) (x2) (x3) M4 r h) (by decide)
        · skip
          obtain ⟨hc, v6, ev, h⟩ := rd_i h
          obtain ⟨hR, ⟨hc, h⟩ | ⟨hc, h⟩⟩ := c_eq_i h
          · skip
            obtain ⟨hc, v7, ev, h⟩ := rd_i h
            obtain ⟨hc, v8, ev, h⟩ := rd_i h
            obtain ⟨M9, hv, h⟩ := ob_i h
            have hC := hC.tr (R_works_c (v7) (v8) M4 _ hv) (by decide)
            obtain ⟨hc, v10, ev, h⟩ := rd_i h
            obtain ⟨hR, ⟨hc, h⟩ | ⟨hc, h⟩⟩ := c_eq_i h
            · skip
              obtain ⟨hc, v11, ev, h⟩ := rd_i h
              obtain ⟨v12, hv, h⟩ := ob_i h
              exact hC.tr (R_tells_100_c     (v12) M9 r h) (by decide)
            · skip
              exact hC.tr (R_tells_100_c     (0) M9 r h) (by decide)
          · skip
            exact hC.tr (R_tells_101_c   (R_tells_2    n) ih (x1) (x2) (x3) M4 r h) (by decide)
      · skip
        exact hC.tr (R_tells_101_c   (R_tells_2    n) ih (x1) (x2) (x3) M r h) (by decide)
theorem R_tells_c     (x1 : Int) (x2 : Int) (M : am_M) (r : Int × am_M) (h : R_tells    x1 x2 M = some r) : Ch [90, 91] M r.2 := by
  have hC : Ch [90, 91] M M := Ch.rf
  exact hC.tr (R_tells_2_c     am_big (x1) (x2) (0) M r h) (by decide)
theorem R_resting_c     (x1 : Int) (x2 : Int) (M : am_M) (r : Int × am_M) (h : R_resting    x1 x2 M = some r) : Ch [73, 90, 91] M r.2 := by
  have hC : Ch [73, 90, 91] M M := Ch.rf
  obtain ⟨hc, v1, ev, h⟩ := rd_i h
  obtain ⟨M2, hv, h⟩ := ob_i h
  have hC := hC.tr (R_standsReady_c (0) (0) (v1) (x2) (0) (0) (M 73 45) M _ hv) (by decide)
  obtain ⟨v3, M4, hv, h⟩ := oc_i h
  have hC := hC.tr (R_tells_c (101) (20) M2 _ hv) (by decide)
  cases h
  exact hC
theorem R_rests_56_c   (k12 : Int → am_M → Option (am_M)) (hk12 : ∀ (x1 : Int) (M : am_M) (r : am_M), k12 x1 M = some r → Ch [73, 90, 91, 93] M r) (x1 : Int) (M : am_M) (r : am_M) (h : R_rests_56   k12 x1 M = some r) : Ch [73, 90, 91, 93] M r := by
  have hC : Ch [73, 90, 91, 93] M M := Ch.rf
  exact hC.tr (hk12 ((x1) + (1)) M r h) (by decide)
theorem R_rests_12_c     : ∀ (n : Nat) (x1 : Int) (M : am_M) (r : am_M), R_rests_12    n x1 M = some r → Ch [73, 90, 91, 93] M r
  | 0, _, M, r, h => by cases h
  | n + 1, x1, M, r, h => by
    have ih := R_rests_12_c     n
    have hC : Ch [73, 90, 91, 93] M M := Ch.rf
    obtain ⟨hR, ⟨hc, h⟩ | ⟨hc, h⟩⟩ := c_ge_i h
    · skip
      cases h
      exact hC
    · skip
      obtain ⟨hc, v1, ev, h⟩ := rd_i h
      obtain ⟨hR, ⟨hc, h⟩ | ⟨hc, h⟩⟩ := c_eq_i h
      · skip
        exact hC.tr (R_rests_56_c   (R_rests_12    n) ih (x1) M r h) (by decide)
      · skip
        obtain ⟨hc, v2, ev, h⟩ := rd_i h
        obtain ⟨hc, v3, ev, h⟩ := rd_i h
        obtain ⟨v4, M5, hv, h⟩ := oc_i h
        have hC := hC.tr (R_resting_c (x1) (v3) M _ hv) (by decide)
        obtain ⟨v6, hv, h⟩ := ob_i h
        obtain ⟨hc, M7, eM, h⟩ := wa_i h
        have hC := hC.up (by decide) eM
        exact hC.tr (R_rests_56_c   (R_rests_12    n) ih (x1) M7 r h) (by decide)
theorem R_rests_c      (M : am_M) (r : am_M) (h : R_rests     M = some r) : Ch [73, 90, 91, 93] M r := by
  have hC : Ch [73, 90, 91, 93] M M := Ch.rf
  obtain ⟨v1, M2, hv, h⟩ := oc_i h
  have hC := hC.tr (R_passes_c (10) M _ hv) (by decide)
  obtain ⟨hR, ⟨hc, h⟩ | ⟨hc, h⟩⟩ := c_ne_i h
  · skip
    exact hC.tr (R_rests_12_c     am_big (0) M2 r h) (by decide)
  · skip
    cases h
    exact hC
theorem R_marks_35_c      (M : am_M) (r : am_M) (h : R_marks_35     M = some r) : Ch [73, 98] M r := by
  have hC : Ch [73, 98] M M := Ch.rf
  cases h
  exact hC
theorem R_marks_c     (x1 : Int) (M : am_M) (r : am_M) (h : R_marks    x1 M = some r) : Ch [73, 98] M r := by
  have hC : Ch [73, 98] M M := Ch.rf
  obtain ⟨hc, v1, ev, h⟩ := rd_i h
  obtain ⟨hR, ⟨hc, h⟩ | ⟨hc, h⟩⟩ := c_ne_i h
  · skip
    exact hC.tr (R_marks_35_c      M r h) (by decide)
  · skip
    obtain ⟨v2, M3, hv, h⟩ := oc_i h
    have hC := hC.tr (R_passes_c (2) M _ hv) (by decide)
    obtain ⟨hR, ⟨hc, h⟩ | ⟨hc, h⟩⟩ := c_eq_i h
    · skip
      exact hC.tr (R_marks_35_c      M3 r h) (by decide)
    · skip
      obtain ⟨hc, v4, ev, h⟩ := rd_i h
      obtain ⟨hc, M5, eM, h⟩ := wa_i h
      have hC := hC.up (by decide) eM
      exact hC.tr (R_marks_35_c      M5 r h) (by decide)
theorem R_cutting_c     (x1 : Int) (x2 : Int) (M : am_M) (r : Int × am_M) (h : R_cutting    x1 x2 M = some r) : Ch [73, 90, 91] M r.2 := by
  have hC : Ch [73, 90, 91] M M := Ch.rf
  obtain ⟨hc, v1, ev, h⟩ := rd_i h
  obtain ⟨hc, v2, ev, h⟩ := rd_i h
  obtain ⟨M3, hv, h⟩ := ob_i h
  have hC := hC.tr (R_standsReady_c (x1) (x2) (v1) (v2) (0) (0) (M 73 45) M _ hv) (by decide)
  obtain ⟨v4, M5, hv, h⟩ := oc_i h
  have hC := hC.tr (R_tells_c (99) (240) M3 _ hv) (by decide)
  cases h
  exact hC
theorem R_tiring_c     (x1 : Int) (x2 : Int) (x3 : Int) (M : am_M) (r : Int × am_M) (h : R_tiring    x1 x2 x3 M = some r) : Ch [73, 90, 91] M r.2 := by
  have hC : Ch [73, 90, 91] M M := Ch.rf
  obtain ⟨hc, v1, ev, h⟩ := rd_i h
  obtain ⟨M2, hv, h⟩ := ob_i h
  have hC := hC.tr (R_standsReady_c (x1) (0) (v1) (x3) (0) (0) (M 73 45) M _ hv) (by decide)
  obtain ⟨v3, M4, hv, h⟩ := oc_i h
  have hC := hC.tr (R_tells_c (110) (20) M2 _ hv) (by decide)
  cases h
  exact hC
theorem R_cuts_c     (x1 : Int) (M : am_M) (r : am_M) (h : R_cuts    x1 M = some r) : Ch [73, 90, 91, 93, 95, 96, 97, 98, 99, 100] M r := by
  have hC : Ch [73, 90, 91, 93, 95, 96, 97, 98, 99, 100] M M := Ch.rf
  obtain ⟨hc, v1, ev, h⟩ := rd_i h
  obtain ⟨v2, M3, hv, h⟩ := oc_i h
  have hC := hC.tr (R_cutting_c (v1) (M 73 42) M _ hv) (by decide)
  obtain ⟨hc, v4, ev, h⟩ := rd_i h
  obtain ⟨hc, v5, ev, h⟩ := rd_i h
  obtain ⟨v6, M7, hv, h⟩ := oc_i h
  have hC := hC.tr (R_tiring_c (v4) (M3 73 41) (v5) M3 _ hv) (by decide)
  obtain ⟨v8, M9, hv, h⟩ := oc_i h
  have hC := hC.tr (R_passes_c (v2) M7 _ hv) (by decide)
  obtain ⟨hR, ⟨hc, h⟩ | ⟨hc, h⟩⟩ := c_ne_i h
  · skip
    obtain ⟨hc, v10, ev, h⟩ := rd_i h
    obtain ⟨v11, hv, h⟩ := ob_i h
    obtain ⟨hc, M12, eM, h⟩ := wa_i h
    have hC := hC.up (by decide) eM
    obtain ⟨M13, hv, h⟩ := ob_i h
    have hC := hC.tr (R_comesBehind_c (x1) M12 _ hv) (by decide)
    obtain ⟨M14, eM, h⟩ := fw_i h
    have hC := hC.up (by decide) eM
    obtain ⟨M15, eM, h⟩ := fw_i h
    have hC := hC.up (by decide) eM
    cases h
    exact hC
  · skip
    cases h
    exact hC
theorem R_walking_c     (x1 : Int) (x2 : Int) (x3 : Int) (x4 : Int) (x5 : Int) (M : am_M) (r : Int × am_M) (h : R_walking    x1 x2 x3 x4 x5 M = some r) : Ch [73, 90, 91] M r.2 := by
  have hC : Ch [73, 90, 91] M M := Ch.rf
  obtain ⟨M1, hv, h⟩ := ob_i h
  have hC := hC.tr (R_standsReady_c (x1) (x2) (0) (0) (x3) (x4) (x5) M _ hv) (by decide)
  obtain ⟨v2, M3, hv, h⟩ := oc_i h
  have hC := hC.tr (R_tells_c (118) (60) M1 _ hv) (by decide)
  cases h
  exact hC
theorem R_walkingTo_40_c     (s1 : Int) (s2 : Int) (s3 : Int) (s4 : Int) (M : am_M) (r : Int × am_M) (h : R_walkingTo_40    s1 s2 s3 s4 M = some r) : Ch [73, 90, 91] M r.2 := by
  have hC : Ch [73, 90, 91] M M := Ch.rf
  obtain ⟨v1, M2, hv, h⟩ := oc_i h
  have hC := hC.tr (R_walking_c (s1) (s2) (s3) (s4) (M 73 45) M _ hv) (by decide)
  cases h
  exact hC
theorem R_walkingTo_c     (x1 : Int) (x2 : Int) (M : am_M) (r : Int × am_M) (h : R_walkingTo    x1 x2 M = some r) : Ch [73, 90, 91] M r.2 := by
  have hC : Ch [73, 90, 91] M M := Ch.rf
  obtain ⟨hc, v1, ev, h⟩ := rd_i h
  obtain ⟨hc, v2, ev, h⟩ := rd_i h
  obtain ⟨hc, v3, ev, h⟩ := rd_i h
  obtain ⟨hc, v4, ev, h⟩ := rd_i h
  obtain ⟨hc, v5, ev, h⟩ := rd_i h
  obtain ⟨hR, ⟨hc, h⟩ | ⟨hc, h⟩⟩ := c_le_i h
  · skip
    exact hC.tr (R_walkingTo_40_c     (v2) (v3) (v4) (0) M r h) (by decide)
  · skip
    exact hC.tr (R_walkingTo_40_c     (v2) (v3) (v4) (1) M r h) (by decide)
theorem R_goes_121_c      (M : am_M) (r : am_M) (h : R_goes_121     M = some r) : Ch [73, 90, 91, 93, 95, 96, 97, 98, 99, 100] M r := by
  have hC : Ch [73, 90, 91, 93, 95, 96, 97, 98, 99, 100] M M := Ch.rf
  cases h
  exact hC
theorem R_goes_75_c      (M : am_M) (r : am_M) (h : R_goes_75     M = some r) : Ch [73, 90, 91, 93, 95, 96, 97, 98, 99, 100] M r := by
  have hC : Ch [73, 90, 91, 93, 95, 96, 97, 98, 99, 100] M M := Ch.rf
  cases h
  exact hC
theorem R_goes_61_c     (x3 : Int) (s2 : Int) (s3 : Int) (M : am_M) (r : am_M) (h : R_goes_61    x3 s2 s3 M = some r) : Ch [73, 90, 91, 93, 95, 96, 97, 98, 99, 100] M r := by
  have hC : Ch [73, 90, 91, 93, 95, 96, 97, 98, 99, 100] M M := Ch.rf
  obtain ⟨v1, M2, hv, h⟩ := oc_i h
  have hC := hC.tr (R_walkingTo_c (s2) (s3) M _ hv) (by decide)
  obtain ⟨v3, M4, hv, h⟩ := oc_i h
  have hC := hC.tr (R_passes_c (v1) M2 _ hv) (by decide)
  obtain ⟨hR, ⟨hc, h⟩ | ⟨hc, h⟩⟩ := c_eq_i h
  · skip
    exact hC.tr (R_goes_75_c      M4 r h) (by decide)
  · skip
    obtain ⟨M5, eM, h⟩ := fw_i h
    have hC := hC.up (by decide) eM
    exact hC.tr (R_goes_75_c      M5 r h) (by decide)
theorem R_goes_c     (x1 : Int) (M : am_M) (r : am_M) (h : R_goes    x1 M = some r) : Ch [73, 90, 91, 93, 95, 96, 97, 98, 99, 100] M r := by
  have hC : Ch [73, 90, 91, 93, 95, 96, 97, 98, 99, 100] M M := Ch.rf
  obtain ⟨hc, v1, ev, h⟩ := rd_i h
  obtain ⟨v2, hv, h⟩ := ob_i h
  obtain ⟨hR, ⟨hc, h⟩ | ⟨hc, h⟩⟩ := c_ne_i h
  · skip
    obtain ⟨hc, v3, ev, h⟩ := rd_i h
    obtain ⟨hR, ⟨hc, h⟩ | ⟨hc, h⟩⟩ := c_eq_i h
    · skip
      obtain ⟨hR, ⟨hc, h⟩ | ⟨hc, h⟩⟩ := c_ne_i h
      · skip
        exact hC.tr (R_goes_121_c      M r h) (by decide)
      · skip
        obtain ⟨hR, ⟨hc, h⟩ | ⟨hc, h⟩⟩ := c_eq_i h
        · skip
          exact hC.tr (R_goes_121_c      M r h) (by decide)
        · skip
          obtain ⟨hc, v4, ev, h⟩ := rd_i h
          obtain ⟨hR, ⟨hc, h⟩ | ⟨hc, h⟩⟩ := c_eq_i h
          · skip
            exact hC.tr (R_goes_121_c      M r h) (by decide)
          · skip
            obtain ⟨hR, ⟨hc, h⟩ | ⟨hc, h⟩⟩ := c_ge_i h
            · skip
              exact hC.tr (R_goes_121_c      M r h) (by decide)
            · skip
              obtain ⟨M5, hv, h⟩ := ob_i h
              have hC := hC.tr (R_cuts_c (v2) M _ hv) (by decide)
              exact hC.tr (R_goes_121_c      M5 r h) (by decide)
    · skip
      obtain ⟨v6, hv, h⟩ := ob_i h
      obtain ⟨hR, ⟨hc, h⟩ | ⟨hc, h⟩⟩ := c_ne_i h
      · skip
        exact hC.tr (R_goes_75_c      M r h) (by decide)
      · skip
        obtain ⟨hR, ⟨hc, h⟩ | ⟨hc, h⟩⟩ := c_le_i h
        · skip
          exact hC.tr (R_goes_61_c     (v3) (v3) (2) M r h) (by decide)
        · skip
          exact hC.tr (R_goes_61_c     (v3) (v3) (1) M r h) (by decide)
  · skip
    cases h
    exact hC
theorem R_doesAct_168_c      (M : am_M) (r : am_M) (h : R_doesAct_168     M = some r) : Ch [73, 90, 91, 93, 95, 96, 97, 98, 99, 100] M r := by
  have hC : Ch [73, 90, 91, 93, 95, 96, 97, 98, 99, 100] M M := Ch.rf
  cases h
  exact hC
theorem R_doesAct_c     (x1 : Int) (M : am_M) (r : am_M) (h : R_doesAct    x1 M = some r) : Ch [73, 90, 91, 93, 95, 96, 97, 98, 99, 100] M r := by
  have hC : Ch [73, 90, 91, 93, 95, 96, 97, 98, 99, 100] M M := Ch.rf
  obtain ⟨hR, h⟩ := ck_i h
  rcases if_i h with ⟨hq, h⟩ | ⟨hq0, h⟩
  · skip
    obtain ⟨M1, hv, h⟩ := ob_i h
    have hC := hC.tr (R_changes_c M _ hv) (by decide)
    exact hC.tr (R_doesAct_168_c      M1 r h) (by decide)
  · skip
    rcases if_i h with ⟨hq, h⟩ | ⟨hq1, h⟩
    · skip
      obtain ⟨M2, hv, h⟩ := ob_i h
      have hC := hC.tr (R_rests_c M _ hv) (by decide)
      exact hC.tr (R_doesAct_168_c      M2 r h) (by decide)
    · skip
      rcases if_i h with ⟨hq, h⟩ | ⟨hq2, h⟩
      · skip
        obtain ⟨M3, hv, h⟩ := ob_i h
        have hC := hC.tr (R_marks_c (2) M _ hv) (by decide)
        exact hC.tr (R_doesAct_168_c      M3 r h) (by decide)
      · skip
        rcases if_i h with ⟨hq, h⟩ | ⟨hq3, h⟩
        · skip
          obtain ⟨M4, hv, h⟩ := ob_i h
          have hC := hC.tr (R_goes_c (1) M _ hv) (by decide)
          exact hC.tr (R_doesAct_168_c      M4 r h) (by decide)
        · skip
          rcases if_i h with ⟨hq, h⟩ | ⟨hq4, h⟩
          · skip
            obtain ⟨M5, hv, h⟩ := ob_i h
            have hC := hC.tr (R_goes_c (0) M _ hv) (by decide)
            exact hC.tr (R_doesAct_168_c      M5 r h) (by decide)
          · skip
            rcases if_i h with ⟨hq, h⟩ | ⟨hq5, h⟩
            · skip
              obtain ⟨M6, hv, h⟩ := ob_i h
              have hC := hC.tr (R_marks_c (1) M _ hv) (by decide)
              exact hC.tr (R_doesAct_168_c      M6 r h) (by decide)
            · skip
              rcases if_i h with ⟨hq, h⟩ | ⟨hq6, h⟩
              · skip
                obtain ⟨M7, hv, h⟩ := ob_i h
                have hC := hC.tr (R_goes_c (2) M _ hv) (by decide)
                exact hC.tr (R_doesAct_168_c      M7 r h) (by decide)
              · skip
                rcases if_i h with ⟨hq, h⟩ | ⟨hq7, h⟩
                · skip
                  obtain ⟨M8, hv, h⟩ := ob_i h
                  have hC := hC.tr (R_goes_c (3) M _ hv) (by decide)
                  exact hC.tr (R_doesAct_168_c      M8 r h) (by decide)
                · skip
                  · skip
                    obtain ⟨hc, v9, ev, h⟩ := rd_i h
                    obtain ⟨hR, ⟨hc, h⟩ | ⟨hc, h⟩⟩ := c_ne_i h
                    · skip
                      exact hC.tr (R_doesAct_168_c      M r h) (by decide)
                    · skip
                      obtain ⟨v10, M11, hv, h⟩ := oc_i h
                      have hC := hC.tr (R_passes_c (1) M _ hv) (by decide)
                      obtain ⟨hR, ⟨hc, h⟩ | ⟨hc, h⟩⟩ := c_eq_i h
                      · skip
                        exact hC.tr (R_doesAct_168_c      M11 r h) (by decide)
                      · skip
                        obtain ⟨⟨hc, hv⟩, M12, eM, h⟩ := wz_i h
                        have hC := hC.up (by decide) eM
                        exact hC.tr (R_doesAct_168_c      M12 r h) (by decide)
theorem R_doesActs_72_c     (x2 : Int) (M : am_M) (r : Int × am_M) (h : R_doesActs_72    x2 M = some r) : Ch [73, 90, 91, 93, 95, 96, 97, 98, 99, 100] M r.2 := by
  have hC : Ch [73, 90, 91, 93, 95, 96, 97, 98, 99, 100] M M := Ch.rf
  cases h
  exact hC
theorem R_doesActs_65_c   (k20 : Int → Int → am_M → Option (Int × am_M)) (hk20 : ∀ (x1 : Int) (x2 : Int) (M : am_M) (r : Int × am_M), k20 x1 x2 M = some r → Ch [73, 90, 91, 93, 95, 96, 97, 98, 99, 100] M r.2) (x1 : Int) (x2 : Int) (s1 : Int) (s2 : Int) (M : am_M) (r : Int × am_M) (h : R_doesActs_65   k20 x1 x2 s1 s2 M = some r) : Ch [73, 90, 91, 93, 95, 96, 97, 98, 99, 100] M r.2 := by
  have hC : Ch [73, 90, 91, 93, 95, 96, 97, 98, 99, 100] M M := Ch.rf
  obtain ⟨M1, eM, h⟩ := fw_i h
  have hC := hC.up (by decide) eM
  exact hC.tr (hk20 (x1) (x2) M1 r h) (by decide)
theorem R_doesActs_20_c     : ∀ (n : Nat) (x1 : Int) (x2 : Int) (M : am_M) (r : Int × am_M), R_doesActs_20    n x1 x2 M = some r → Ch [73, 90, 91, 93, 95, 96, 97, 98, 99, 100] M r.2
  | 0, _, _, M, r, h => by cases h
  | n + 1, x1, x2, M, r, h => by
    have ih := R_doesActs_20_c     n
    have hC : Ch [73, 90, 91, 93, 95, 96, 97, 98, 99, 100] M M := Ch.rf
    obtain ⟨hR, ⟨hc, h⟩ | ⟨hc, h⟩⟩ := c_ge_i h
    · skip
      exact hC.tr (R_doesActs_72_c     (x2) M r h) (by decide)
    · skip
      obtain ⟨hR, ⟨hc, h⟩ | ⟨hc, h⟩⟩ := c_ne_i h
      · skip
        exact hC.tr (R_doesActs_72_c     (x2) M r h) (by decide)
      · skip
        obtain ⟨hc, v1, ev, h⟩ := rd_i h
        obtain ⟨M2, hv, h⟩ := ob_i h
        have hC := hC.tr (R_doesAct_c (v1) M _ hv) (by decide)
        obtain ⟨hR, ⟨hc, h⟩ | ⟨hc, h⟩⟩ := c_eq_i h
        · skip
          exact hC.tr (R_doesActs_65_c   (R_doesActs_20    n) ih (x1) (x2) (M2 73 75) (1) M2 r h) (by decide)
        · skip
          exact hC.tr (R_doesActs_65_c   (R_doesActs_20    n) ih (x1) (x2) (M2 73 75) (0) M2 r h) (by decide)
theorem R_doesActs_c     (x1 : Int) (M : am_M) (r : Int × am_M) (h : R_doesActs    x1 M = some r) : Ch [73, 90, 91, 93, 95, 96, 97, 98, 99, 100] M r.2 := by
  have hC : Ch [73, 90, 91, 93, 95, 96, 97, 98, 99, 100] M M := Ch.rf
  obtain ⟨M1, eM, h⟩ := fw_i h
  have hC := hC.up (by decide) eM
  obtain ⟨M2, eM, h⟩ := fw_i h
  have hC := hC.up (by decide) eM
  obtain ⟨hc, M3, eM, h⟩ := fz_i h
  have hC := hC.up (by decide) eM
  exact hC.tr (R_doesActs_20_c     am_big (x1) (M 73 44) M3 r h) (by decide)
theorem R_orders_20_c      (M : am_M) (r : Int × am_M) (h : R_orders_20     M = some r) : Ch [73, 90, 91, 93, 95, 96, 97, 98, 99, 100, 113, 114, 115, 116] M r.2 := by
  have hC : Ch [73, 90, 91, 93, 95, 96, 97, 98, 99, 100, 113, 114, 115, 116] M M := Ch.rf
  cases h
  exact hC
theorem R_orders_45_c     (s0 : Int) (M : am_M) (r : Int × am_M) (h : R_orders_45    s0 M = some r) : Ch [73, 90, 91, 93, 95, 96, 97, 98, 99, 100, 113, 114, 115, 116] M r.2 := by
  have hC : Ch [73, 90, 91, 93, 95, 96, 97, 98, 99, 100, 113, 114, 115, 116] M M := Ch.rf
  cases h
  exact hC
theorem R_orders_c     (x1 : Int) (M : am_M) (r : Int × am_M) (h : R_orders    x1 M = some r) : Ch [73, 90, 91, 93, 95, 96, 97, 98, 99, 100, 113, 114, 115, 116] M r.2 := by
  have hC : Ch [73, 90, 91, 93, 95, 96, 97, 98, 99, 100, 113, 114, 115, 116] M M := Ch.rf
  obtain ⟨hc, h⟩ := ck_i h
  obtain ⟨v1, hv, h⟩ := ob_i h
  obtain ⟨hR, ⟨hc, h⟩ | ⟨hc, h⟩⟩ := c_eq_i h
  · skip
    exact hC.tr (R_orders_20_c      M r h) (by decide)
  · skip
    obtain ⟨hR, ⟨hc, h⟩ | ⟨hc, h⟩⟩ := c_le_i h
    · skip
      obtain ⟨v2, M3, hv, h⟩ := oc_i h
      have hC := hC.tr (R_takesActs_c (x1) M _ hv) (by decide)
      obtain ⟨hR, ⟨hc, h⟩ | ⟨hc, h⟩⟩ := c_eq_i h
      · skip
        exact hC.tr (R_orders_45_c     (M3 73 5) M3 r h) (by decide)
      · skip
        obtain ⟨v4, M5, hv, h⟩ := oc_i h
        have hC := hC.tr (R_doesActs_c (M3 73 68) M3 _ hv) (by decide)
        exact hC.tr (R_orders_45_c     (v4) M5 r h) (by decide)
    · skip
      exact hC.tr (R_orders_20_c      M r h) (by decide)
theorem R_laysAside_33_c     : ∀ (n : Nat) (x1 : Int) (x2 : Int) (M : am_M) (r : am_M), R_laysAside_33    n x1 x2 M = some r → Ch [101, 102, 103, 104, 105, 106, 107, 108, 109, 110, 111, 112] M r
  | 0, _, _, M, r, h => by cases h
  | n + 1, x1, x2, M, r, h => by
    have ih := R_laysAside_33_c     n
    have hC : Ch [101, 102, 103, 104, 105, 106, 107, 108, 109, 110, 111, 112] M M := Ch.rf
    obtain ⟨hR, ⟨hc, h⟩ | ⟨hc, h⟩⟩ := c_ge_i h
    · skip
      obtain ⟨hc, M1, eM, h⟩ := wa_i h
      have hC := hC.up (by decide) eM
      obtain ⟨hc, M2, eM, h⟩ := wa_i h
      have hC := hC.up (by decide) eM
      obtain ⟨hc, M3, eM, h⟩ := wa_i h
      have hC := hC.up (by decide) eM
      obtain ⟨hc, M4, eM, h⟩ := wa_i h
      have hC := hC.up (by decide) eM
      obtain ⟨hc, M5, eM, h⟩ := wa_i h
      have hC := hC.up (by decide) eM
      obtain ⟨hc, M6, eM, h⟩ := wa_i h
      have hC := hC.up (by decide) eM
      cases h
      exact hC
    · skip
      obtain ⟨hc, v7, ev, h⟩ := rd_i h
      obtain ⟨hc, M8, eM, h⟩ := wa_i h
      have hC := hC.up (by decide) eM
      obtain ⟨hc, v9, ev, h⟩ := rd_i h
      obtain ⟨hc, M10, eM, h⟩ := wa_i h
      have hC := hC.up (by decide) eM
      obtain ⟨hc, v11, ev, h⟩ := rd_i h
      obtain ⟨hc, M12, eM, h⟩ := wa_i h
      have hC := hC.up (by decide) eM
      obtain ⟨hc, v13, ev, h⟩ := rd_i h
      obtain ⟨hc, M14, eM, h⟩ := wa_i h
      have hC := hC.up (by decide) eM
      obtain ⟨hc, v15, ev, h⟩ := rd_i h
      obtain ⟨⟨hc, hv⟩, M16, eM, h⟩ := wz_i h
      have hC := hC.up (by decide) eM
      exact hC.tr (ih (x1) ((x2) + (1)) M16 r h) (by decide)
theorem R_laysAside_2_c     : ∀ (n : Nat) (x1 : Int) (x2 : Int) (M : am_M) (r : am_M), R_laysAside_2    n x1 x2 M = some r → Ch [101, 102, 103, 104, 105, 106, 107, 108, 109, 110, 111, 112] M r
  | 0, _, _, M, r, h => by cases h
  | n + 1, x1, x2, M, r, h => by
    have ih := R_laysAside_2_c     n
    have hC : Ch [101, 102, 103, 104, 105, 106, 107, 108, 109, 110, 111, 112] M M := Ch.rf
    obtain ⟨hR, ⟨hc, h⟩ | ⟨hc, h⟩⟩ := c_ge_i h
    · skip
      exact hC.tr (R_laysAside_33_c     am_big (x1) (0) M r h) (by decide)
    · skip
      obtain ⟨hc, v1, ev, h⟩ := rd_i h
      obtain ⟨hc, M2, eM, h⟩ := wa_i h
      have hC := hC.up (by decide) eM
      exact hC.tr (ih (x1) ((x2) + (1)) M2 r h) (by decide)
theorem R_laysAside_c     (x1 : Int) (M : am_M) (r : am_M) (h : R_laysAside    x1 M = some r) : Ch [101, 102, 103, 104, 105, 106, 107, 108, 109, 110, 111, 112] M r := by
  have hC : Ch [101, 102, 103, 104, 105, 106, 107, 108, 109, 110, 111, 112] M M := Ch.rf
  exact hC.tr (R_laysAside_2_c     am_big (x1) (0) M r h) (by decide)
theorem R_bringsBack_65_c     : ∀ (n : Nat) (x1 : Int) (x2 : Int) (M : am_M) (r : am_M), R_bringsBack_65    n x1 x2 M = some r → Ch [73, 93, 95, 96, 97, 98, 99, 100] M r
  | 0, _, _, M, r, h => by cases h
  | n + 1, x1, x2, M, r, h => by
    have ih := R_bringsBack_65_c     n
    have hC : Ch [73, 93, 95, 96, 97, 98, 99, 100] M M := Ch.rf
    obtain ⟨hR, ⟨hc, h⟩ | ⟨hc, h⟩⟩ := c_ge_i h
    · skip
      obtain ⟨hc, v1, ev, h⟩ := rd_i h
      obtain ⟨M2, eM, h⟩ := fw_i h
      have hC := hC.up (by decide) eM
      obtain ⟨hc, v3, ev, h⟩ := rd_i h
      obtain ⟨M4, eM, h⟩ := fw_i h
      have hC := hC.up (by decide) eM
      obtain ⟨hc, v5, ev, h⟩ := rd_i h
      obtain ⟨M6, eM, h⟩ := fw_i h
      have hC := hC.up (by decide) eM
      obtain ⟨hc, v7, ev, h⟩ := rd_i h
      obtain ⟨M8, eM, h⟩ := fw_i h
      have hC := hC.up (by decide) eM
      obtain ⟨hc, v9, ev, h⟩ := rd_i h
      obtain ⟨M10, eM, h⟩ := fw_i h
      have hC := hC.up (by decide) eM
      cases h
      exact hC
    · skip
      obtain ⟨hc, v11, ev, h⟩ := rd_i h
      obtain ⟨hc, M12, eM, h⟩ := wa_i h
      have hC := hC.up (by decide) eM
      obtain ⟨hc, v13, ev, h⟩ := rd_i h
      obtain ⟨hc, M14, eM, h⟩ := wa_i h
      have hC := hC.up (by decide) eM
      obtain ⟨hc, v15, ev, h⟩ := rd_i h
      obtain ⟨hc, M16, eM, h⟩ := wa_i h
      have hC := hC.up (by decide) eM
      obtain ⟨hc, v17, ev, h⟩ := rd_i h
      obtain ⟨hc, M18, eM, h⟩ := wa_i h
      have hC := hC.up (by decide) eM
      obtain ⟨hc, v19, ev, h⟩ := rd_i h
      obtain ⟨⟨hc, hv⟩, M20, eM, h⟩ := wz_i h
      have hC := hC.up (by decide) eM
      obtain ⟨hc, v21, ev, h⟩ := rd_i h
      obtain ⟨hc, M22, eM, h⟩ := wa_i h
      have hC := hC.up (by decide) eM
      exact hC.tr (ih (x1) ((x2) + (1)) M22 r h) (by decide)
theorem R_bringsBack_33_c     : ∀ (n : Nat) (x1 : Int) (x2 : Int) (M : am_M) (r : am_M), R_bringsBack_33    n x1 x2 M = some r → Ch [73, 93, 95, 96, 97, 98, 99, 100] M r
  | 0, _, _, M, r, h => by cases h
  | n + 1, x1, x2, M, r, h => by
    have ih := R_bringsBack_33_c     n
    have hC : Ch [73, 93, 95, 96, 97, 98, 99, 100] M M := Ch.rf
    obtain ⟨hR, ⟨hc, h⟩ | ⟨hc, h⟩⟩ := c_ge_i h
    · skip
      obtain ⟨hc, v1, ev, h⟩ := rd_i h
      obtain ⟨M2, eM, h⟩ := fw_i h
      have hC := hC.up (by decide) eM
      exact hC.tr (R_bringsBack_65_c     am_big (x1) (0) M2 r h) (by decide)
    · skip
      obtain ⟨hc, M3, eM, h⟩ := wa_i h
      have hC := hC.up (by decide) eM
      exact hC.tr (ih (x1) ((x2) + (1)) M3 r h) (by decide)
theorem R_bringsBack_2_c     : ∀ (n : Nat) (x1 : Int) (x2 : Int) (M : am_M) (r : am_M), R_bringsBack_2    n x1 x2 M = some r → Ch [73, 93, 95, 96, 97, 98, 99, 100] M r
  | 0, _, _, M, r, h => by cases h
  | n + 1, x1, x2, M, r, h => by
    have ih := R_bringsBack_2_c     n
    have hC : Ch [73, 93, 95, 96, 97, 98, 99, 100] M M := Ch.rf
    obtain ⟨hR, ⟨hc, h⟩ | ⟨hc, h⟩⟩ := c_ge_i h
    · skip
      exact hC.tr (R_bringsBack_33_c     am_big (x1) (0) M r h) (by decide)
    · skip
      obtain ⟨hc, v1, ev, h⟩ := rd_i h
      obtain ⟨hc, M2, eM, h⟩ := wa_i h
      have hC := hC.up (by decide) eM
      exact hC.tr (ih (x1) ((x2) + (1)) M2 r h) (by decide)
theorem R_bringsBack_c     (x1 : Int) (M : am_M) (r : am_M) (h : R_bringsBack    x1 M = some r) : Ch [73, 93, 95, 96, 97, 98, 99, 100] M r := by
  have hC : Ch [73, 93, 95, 96, 97, 98, 99, 100] M M := Ch.rf
  exact hC.tr (R_bringsBack_2_c     am_big (x1) (0) M r h) (by decide)
theorem R_tried_32_c      (M : am_M) (r : Int × am_M) (h : R_tried_32     M = some r) : Ch [73, 90, 91, 93, 95, 96, 97, 98, 99, 100, 101, 102, 103, 104, 105, 106, 107, 108, 109, 110, 111, 112, 113, 114, 115, 116] M r.2 := by
  have hC : Ch [73, 90, 91, 93, 95, 96, 97, 98, 99, 100, 101, 102, 103, 104, 105, 106, 107, 108, 109, 110, 111, 112, 113, 114, 115, 116] M M := Ch.rf
  cases h
  exact hC
theorem R_tried_175_c     (x4 : Int) (M : am_M) (r : Int × am_M) (h : R_tried_175    x4 M = some r) : Ch [73, 90, 91, 93, 95, 96, 97, 98, 99, 100, 101, 102, 103, 104, 105, 106, 107, 108, 109, 110, 111, 112, 113, 114, 115, 116] M r.2 := by
  have hC : Ch [73, 90, 91, 93, 95, 96, 97, 98, 99, 100, 101, 102, 103, 104, 105, 106, 107, 108, 109, 110, 111, 112, 113, 114, 115, 116] M M := Ch.rf
  obtain ⟨M1, hv, h⟩ := ob_i h
  have hC := hC.tr (R_bringsBack_c (0) M _ hv) (by decide)
  cases h
  exact hC
theorem R_tried_156_c     (s0 : Int) (M : am_M) (r : Int × am_M) (h : R_tried_156    s0 M = some r) : Ch [73, 90, 91, 93, 95, 96, 97, 98, 99, 100, 101, 102, 103, 104, 105, 106, 107, 108, 109, 110, 111, 112, 113, 114, 115, 116] M r.2 := by
  have hC : Ch [73, 90, 91, 93, 95, 96, 97, 98, 99, 100, 101, 102, 103, 104, 105, 106, 107, 108, 109, 110, 111, 112, 113, 114, 115, 116] M M := Ch.rf
  exact hC.tr (R_tried_175_c     (s0) M r h) (by decide)
theorem R_tried_173_c     (s0 : Int) (M : am_M) (r : Int × am_M) (h : R_tried_173    s0 M = some r) : Ch [73, 90, 91, 93, 95, 96, 97, 98, 99, 100, 101, 102, 103, 104, 105, 106, 107, 108, 109, 110, 111, 112, 113, 114, 115, 116] M r.2 := by
  have hC : Ch [73, 90, 91, 93, 95, 96, 97, 98, 99, 100, 101, 102, 103, 104, 105, 106, 107, 108, 109, 110, 111, 112, 113, 114, 115, 116] M M := Ch.rf
  exact hC.tr (R_tried_175_c     (s0) M r h) (by decide)
theorem R_tried_c     (x1 : Int) (x2 : Int) (M : am_M) (r : Int × am_M) (h : R_tried    x1 x2 M = some r) : Ch [73, 90, 91, 93, 95, 96, 97, 98, 99, 100, 101, 102, 103, 104, 105, 106, 107, 108, 109, 110, 111, 112, 113, 114, 115, 116] M r.2 := by
  have hC : Ch [73, 90, 91, 93, 95, 96, 97, 98, 99, 100, 101, 102, 103, 104, 105, 106, 107, 108, 109, 110, 111, 112, 113, 114, 115, 116] M M := Ch.rf
  obtain ⟨hc, h⟩ := ck_i h
  obtain ⟨v1, hv, h⟩ := ob_i h
  obtain ⟨hR, ⟨hc, h⟩ | ⟨hc, h⟩⟩ := c_eq_i h
  · skip
    exact hC.tr (R_tried_32_c      M r h) (by decide)
  · skip
    obtain ⟨hc, h⟩ := ck_i h
    obtain ⟨v2, hv, h⟩ := ob_i h
    obtain ⟨hR, ⟨hc, h⟩ | ⟨hc, h⟩⟩ := c_eq_i h
    · skip
      exact hC.tr (R_tried_32_c      M r h) (by decide)
    · skip
      obtain ⟨hR, ⟨hc, h⟩ | ⟨hc, h⟩⟩ := c_le_i h
      · skip
        obtain ⟨v3, M4, hv, h⟩ := oc_i h
        have hC := hC.tr (R_takesActs_c (x1) M _ hv) (by decide)
        obtain ⟨hR, ⟨hc, h⟩ | ⟨hc, h⟩⟩ := c_ne_i h
        · skip
          obtain ⟨M5, hv, h⟩ := ob_i h
          have hC := hC.tr (R_laysAside_c (0) M4 _ hv) (by decide)
          obtain ⟨v6, M7, hv, h⟩ := oc_i h
          have hC := hC.tr (R_doesActs_c (M5 73 68) M5 _ hv) (by decide)
          obtain ⟨hR, h⟩ := ck_i h
          rcases if_i h with ⟨hq, h⟩ | ⟨hq0, h⟩
          · skip
            exact hC.tr (R_tried_175_c     (v6) M7 r h) (by decide)
          · skip
            rcases if_i h with ⟨hq, h⟩ | ⟨hq1, h⟩
            · skip
              exact hC.tr (R_tried_175_c     (M7 73 74) M7 r h) (by decide)
            · skip
              rcases if_i h with ⟨hq, h⟩ | ⟨hq2, h⟩
              · skip
                exact hC.tr (R_tried_175_c     (M7 73 75) M7 r h) (by decide)
              · skip
                rcases if_i h with ⟨hq, h⟩ | ⟨hq3, h⟩
                · skip
                  obtain ⟨hc, v8, ev, h⟩ := rd_i h
                  exact hC.tr (R_tried_175_c     (v8) M7 r h) (by decide)
                · skip
                  rcases if_i h with ⟨hq, h⟩ | ⟨hq4, h⟩
                  · skip
                    obtain ⟨hR, ⟨hc, h⟩ | ⟨hc, h⟩⟩ := c_ne_i h
                    · skip
                      obtain ⟨hc, v9, ev, h⟩ := rd_i h
                      exact hC.tr (R_tried_156_c     (v9) M7 r h) (by decide)
                    · skip
                      exact hC.tr (R_tried_156_c     (-2) M7 r h) (by decide)
                  · skip
                    · skip
                      obtain ⟨hR, ⟨hc, h⟩ | ⟨hc, h⟩⟩ := c_eq_i h
                      · skip
                        exact hC.tr (R_tried_173_c     (0) M7 r h) (by decide)
                      · skip
                        exact hC.tr (R_tried_173_c     (1) M7 r h) (by decide)
        · skip
          cases h
          exact hC
      · skip
        exact hC.tr (R_tried_32_c      M r h) (by decide)
theorem R_growing_c     (x1 : Int) (x2 : Int) (x3 : Int) (x4 : Int) (M : am_M) (r : Int × am_M) (h : R_growing    x1 x2 x3 x4 M = some r) : Ch [73, 90, 91] M r.2 := by
  have hC : Ch [73, 90, 91] M M := Ch.rf
  obtain ⟨M1, hv, h⟩ := ob_i h
  have hC := hC.tr (R_standsReady_c (x1) (x2) (0) (0) (x3) (0) (x4) M _ hv) (by decide)
  obtain ⟨v2, M3, hv, h⟩ := oc_i h
  have hC := hC.tr (R_tells_c (103) (20) M1 _ hv) (by decide)
  cases h
  exact hC
theorem R_days_162_c     (x2 : Int) (M : am_M) (r : Int × am_M) (h : R_days_162    x2 M = some r) : Ch [73, 90, 91, 93, 97] M r.2 := by
  have hC : Ch [73, 90, 91, 93, 97] M M := Ch.rf
  cases h
  exact hC
theorem R_days_120_c   (k18 : Int → Int → Int → am_M → Option (Int × am_M)) (hk18 : ∀ (x1 : Int) (x2 : Int) (x3 : Int) (M : am_M) (r : Int × am_M), k18 x1 x2 x3 M = some r → Ch [73, 90, 91, 93, 97] M r.2) : ∀ (n : Nat) (x1 : Int) (x2 : Int) (x3 : Int) (x4 : Int) (M : am_M) (r : Int × am_M), R_days_120   k18 n x1 x2 x3 x4 M = some r → Ch [73, 90, 91, 93, 97] M r.2
  | 0, _, _, _, _, M, r, h => by cases h
  | n + 1, x1, x2, x3, x4, M, r, h => by
    have ih := R_days_120_c   k18 hk18 n
    have hC : Ch [73, 90, 91, 93, 97] M M := Ch.rf
    obtain ⟨hR, ⟨hc, h⟩ | ⟨hc, h⟩⟩ := c_ge_i h
    · skip
      obtain ⟨M1, eM, h⟩ := fw_i h
      have hC := hC.up (by decide) eM
      obtain ⟨M2, eM, h⟩ := fw_i h
      have hC := hC.up (by decide) eM
      exact hC.tr (hk18 (x1) (x2) ((x3) + (1)) M2 r h) (by decide)
    · skip
      obtain ⟨hc, M3, eM, h⟩ := wa_i h
      have hC := hC.up (by decide) eM
      exact hC.tr (ih (x1) (x2) (x3) ((x4) + (1)) M3 r h) (by decide)
theorem R_days_36_c   (k18 : Int → Int → Int → am_M → Option (Int × am_M)) (hk18 : ∀ (x1 : Int) (x2 : Int) (x3 : Int) (M : am_M) (r : Int × am_M), k18 x1 x2 x3 M = some r → Ch [73, 90, 91, 93, 97] M r.2) : ∀ (n : Nat) (x1 : Int) (x2 : Int) (x3 : Int) (x4 : Int) (M : am_M) (r : Int × am_M), R_days_36   k18 n x1 x2 x3 x4 M = some r → Ch [73, 90, 91, 93, 97] M r.2
  | 0, _, _, _, _, M, r, h => by cases h
  | n + 1, x1, x2, x3, x4, M, r, h => by
    have ih := R_days_36_c   k18 hk18 n
    have hC : Ch [73, 90, 91, 93, 97] M M := Ch.rf
    obtain ⟨hR, ⟨hc, h⟩ | ⟨hc, h⟩⟩ := c_ge_i h
    · skip
      exact hC.tr (R_days_120_c   k18 hk18 am_big (x1) (x2) (x3) (0) M r h) (by decide)
    · skip
      obtain ⟨hc, v1, ev, h⟩ := rd_i h
      obtain ⟨hc, v2, ev, h⟩ := rd_i h
      obtain ⟨hc, v3, ev, h⟩ := rd_i h
      obtain ⟨hc, v4, ev, h⟩ := rd_i h
      obtain ⟨v5, M6, hv, h⟩ := oc_i h
      have hC := hC.tr (R_growing_c (v3) (v4) (v1) (M 73 45) M _ hv) (by decide)
      obtain ⟨v7, hv, h⟩ := ob_i h
      obtain ⟨hc, M8, eM, h⟩ := wa_i h
      have hC := hC.up (by decide) eM
      obtain ⟨hc, v9, ev, h⟩ := rd_i h
      exact hC.tr (ih (x1) ((x2) + ((v9) - (v1))) (x3) ((x4) + (1)) M8 r h) (by decide)
theorem R_days_18_c     : ∀ (n : Nat) (x1 : Int) (x2 : Int) (x3 : Int) (M : am_M) (r : Int × am_M), R_days_18    n x1 x2 x3 M = some r → Ch [73, 90, 91, 93, 97] M r.2
  | 0, _, _, _, M, r, h => by cases h
  | n + 1, x1, x2, x3, M, r, h => by
    have ih := R_days_18_c     n
    have hC : Ch [73, 90, 91, 93, 97] M M := Ch.rf
    obtain ⟨hR, ⟨hc, h⟩ | ⟨hc, h⟩⟩ := c_ge_i h
    · skip
      exact hC.tr (R_days_162_c     (x2) M r h) (by decide)
    · skip
      obtain ⟨hR, ⟨hc, h⟩ | ⟨hc, h⟩⟩ := c_ge_i h
      · skip
        exact hC.tr (R_days_162_c     (x2) M r h) (by decide)
      · skip
        exact hC.tr (R_days_36_c   (R_days_18    n) ih am_big (x1) (x2) (x3) (0) M r h) (by decide)
theorem R_days_c     (x1 : Int) (M : am_M) (r : Int × am_M) (h : R_days    x1 M = some r) : Ch [73, 90, 91, 93, 97] M r.2 := by
  have hC : Ch [73, 90, 91, 93, 97] M M := Ch.rf
  obtain ⟨hc, h⟩ := ck_i h
  obtain ⟨v1, hv, h⟩ := ob_i h
  obtain ⟨hR, ⟨hc, h⟩ | ⟨hc, h⟩⟩ := c_ne_i h
  · skip
    exact hC.tr (R_days_18_c     am_big (x1) (0) (0) M r h) (by decide)
  · skip
    cases h
    exact hC
theorem R_minutesBack_7_c     : ∀ (n : Nat) (x1 : Int) (x2 : Int) (M : am_M) (r : Int × am_M), R_minutesBack_7    n x1 x2 M = some r → Ch [73, 90, 91] M r.2
  | 0, _, _, M, r, h => by cases h
  | n + 1, x1, x2, M, r, h => by
    have ih := R_minutesBack_7_c     n
    have hC : Ch [73, 90, 91] M M := Ch.rf
    obtain ⟨hR, ⟨hc, h⟩ | ⟨hc, h⟩⟩ := c_le_i h
    · skip
      cases h
      exact hC
    · skip
      obtain ⟨v1, M2, hv, h⟩ := oc_i h
      have hC := hC.tr (R_walkingTo_c ((x2) - (1)) (2) M _ hv) (by decide)
      exact hC.tr (ih ((x1) + (v1)) ((x2) + (-1)) M2 r h) (by decide)
theorem R_minutesBack_c      (M : am_M) (r : Int × am_M) (h : R_minutesBack     M = some r) : Ch [73, 90, 91] M r.2 := by
  have hC : Ch [73, 90, 91] M M := Ch.rf
  exact hC.tr (R_minutesBack_7_c     am_big (0) (M 73 47) M r h) (by decide)
theorem R_back_67_c   (k14 : Int → Int → Int → Int → Int → am_M → Option (Int × am_M)) (hk14 : ∀ (x1 : Int) (x2 : Int) (x3 : Int) (x4 : Int) (x5 : Int) (M : am_M) (r : Int × am_M), k14 x1 x2 x3 x4 x5 M = some r → Ch [73, 90, 91] M r.2) (x1 : Int) (x2 : Int) (x3 : Int) (x4 : Int) (x5 : Int) (M : am_M) (r : Int × am_M) (h : R_back_67   k14 x1 x2 x3 x4 x5 M = some r) : Ch [73, 90, 91] M r.2 := by
  have hC : Ch [73, 90, 91] M M := Ch.rf
  exact hC.tr (hk14 (x1) (x2) (x3) (x4) ((x5) + (-1)) M r h) (by decide)
theorem R_back_65_c   (k14 : Int → Int → Int → Int → Int → am_M → Option (Int × am_M)) (hk14 : ∀ (x1 : Int) (x2 : Int) (x3 : Int) (x4 : Int) (x5 : Int) (M : am_M) (r : Int × am_M), k14 x1 x2 x3 x4 x5 M = some r → Ch [73, 90, 91] M r.2) (x1 : Int) (x2 : Int) (x3 : Int) (x5 : Int) (s0 : Int) (M : am_M) (r : Int × am_M) (h : R_back_65   k14 x1 x2 x3 x5 s0 M = some r) : Ch [73, 90, 91] M r.2 := by
  have hC : Ch [73, 90, 91] M M := Ch.rf
  exact hC.tr (R_back_67_c   k14 hk14 (x1) (x2) (x3) (s0) (x5) M r h) (by decide)
theorem R_back_34_c   (k14 : Int → Int → Int → Int → Int → am_M → Option (Int × am_M)) (hk14 : ∀ (x1 : Int) (x2 : Int) (x3 : Int) (x4 : Int) (x5 : Int) (M : am_M) (r : Int × am_M), k14 x1 x2 x3 x4 x5 M = some r → Ch [73, 90, 91] M r.2) (x1 : Int) (x3 : Int) (x4 : Int) (x5 : Int) (s0 : Int) (s1 : Int) (M : am_M) (r : Int × am_M) (h : R_back_34   k14 x1 x3 x4 x5 s0 s1 M = some r) : Ch [73, 90, 91] M r.2 := by
  have hC : Ch [73, 90, 91] M M := Ch.rf
  obtain ⟨v1, hv, h⟩ := ob_i h
  obtain ⟨hR, ⟨hc, h⟩ | ⟨hc, h⟩⟩ := c_ne_i h
  · skip
    obtain ⟨hR, ⟨hc, h⟩ | ⟨hc, h⟩⟩ := c_ne_i h
    · skip
      exact hC.tr (R_back_65_c   k14 hk14 (x1) ((s0) + (s1)) ((x3) + (1)) (x5) (x4) M r h) (by decide)
    · skip
      exact hC.tr (R_back_65_c   k14 hk14 (x1) ((s0) + (s1)) ((x3) + (1)) (x5) (x5) M r h) (by decide)
  · skip
    exact hC.tr (R_back_67_c   k14 hk14 (x1) ((s0) + (s1)) (x3) (x4) (x5) M r h) (by decide)
theorem R_back_14_c     : ∀ (n : Nat) (x1 : Int) (x2 : Int) (x3 : Int) (x4 : Int) (x5 : Int) (M : am_M) (r : Int × am_M), R_back_14    n x1 x2 x3 x4 x5 M = some r → Ch [73, 90, 91] M r.2
  | 0, _, _, _, _, _, M, r, h => by cases h
  | n + 1, x1, x2, x3, x4, x5, M, r, h => by
    have ih := R_back_14_c     n
    have hC : Ch [73, 90, 91] M M := Ch.rf
    obtain ⟨hR, ⟨hc, h⟩ | ⟨hc, h⟩⟩ := c_le_i h
    · skip
      obtain ⟨hR, h⟩ := ck_i h
      rcases if_i h with ⟨hq, h⟩ | ⟨hq0, h⟩
      · skip
        obtain ⟨v1, M2, hv, h⟩ := oc_i h
        have hC := hC.tr (R_minutesBack_c M _ hv) (by decide)
        cases h
        exact hC
      · skip
        rcases if_i h with ⟨hq, h⟩ | ⟨hq1, h⟩
        · skip
          cases h
          exact hC
        · skip
          rcases if_i h with ⟨hq, h⟩ | ⟨hq2, h⟩
          · skip
            cases h
            exact hC
          · skip
            rcases if_i h with ⟨hq, h⟩ | ⟨hq3, h⟩
            · skip
              cases h
              exact hC
            · skip
              · skip
                cases h
                exact hC
    · skip
      obtain ⟨v3, hv, h⟩ := ob_i h
      obtain ⟨hR, ⟨hc, h⟩ | ⟨hc, h⟩⟩ := c_eq_i h
      · skip
        exact hC.tr (R_back_34_c   (R_back_14    n) ih (x1) (x3) (x4) (x5) (x2) (0) M r h) (by decide)
      · skip
        exact hC.tr (R_back_34_c   (R_back_14    n) ih (x1) (x3) (x4) (x5) (x2) (1) M r h) (by decide)
theorem R_back_c     (x1 : Int) (M : am_M) (r : Int × am_M) (h : R_back    x1 M = some r) : Ch [73, 90, 91] M r.2 := by
  have hC : Ch [73, 90, 91] M M := Ch.rf
  exact hC.tr (R_back_14_c     am_big (x1) (0) (0) (-2) (M 73 47) M r h) (by decide)
theorem R_straying_c     (x1 : Int) (M : am_M) (r : Int × am_M) (h : R_straying    x1 M = some r) : Ch [73, 90, 91] M r.2 := by
  have hC : Ch [73, 90, 91] M M := Ch.rf
  obtain ⟨hc, v1, ev, h⟩ := rd_i h
  obtain ⟨hc, v2, ev, h⟩ := rd_i h
  obtain ⟨hc, v3, ev, h⟩ := rd_i h
  obtain ⟨hc, v4, ev, h⟩ := rd_i h
  obtain ⟨M5, hv, h⟩ := ob_i h
  have hC := hC.tr (R_standsReady_c (v2) (v3) (0) (0) (v4) (0) (M 73 45) M _ hv) (by decide)
  obtain ⟨v6, M7, hv, h⟩ := oc_i h
  have hC := hC.tr (R_tells_c (100) (10) M5 _ hv) (by decide)
  cases h
  exact hC
theorem R_safe_107_c     (s0 : Int) (M : am_M) (r : Int × am_M) (h : R_safe_107    s0 M = some r) : Ch [73, 90, 91] M r.2 := by
  have hC : Ch [73, 90, 91] M M := Ch.rf
  cases h
  exact hC
theorem R_safe_77_c   (k39 : Int → Int → Int → Int → am_M → Option (Int × am_M)) (hk39 : ∀ (x1 : Int) (x2 : Int) (x4 : Int) (x6 : Int) (M : am_M) (r : Int × am_M), k39 x1 x2 x4 x6 M = some r → Ch [73, 90, 91] M r.2) (x1 : Int) (x2 : Int) (x4 : Int) (x6 : Int) (M : am_M) (r : Int × am_M) (h : R_safe_77   k39 x1 x2 x4 x6 M = some r) : Ch [73, 90, 91] M r.2 := by
  have hC : Ch [73, 90, 91] M M := Ch.rf
  exact hC.tr (hk39 (x1) (x2) (x4) ((x6) + (-1)) M r h) (by decide)
theorem R_safe_39_c     : ∀ (n : Nat) (x1 : Int) (x2 : Int) (x4 : Int) (x6 : Int) (M : am_M) (r : Int × am_M), R_safe_39    n x1 x2 x4 x6 M = some r → Ch [73, 90, 91] M r.2
  | 0, _, _, _, _, M, r, h => by cases h
  | n + 1, x1, x2, x4, x6, M, r, h => by
    have ih := R_safe_39_c     n
    have hC : Ch [73, 90, 91] M M := Ch.rf
    obtain ⟨hR, ⟨hc, h⟩ | ⟨hc, h⟩⟩ := c_le_i h
    · skip
      obtain ⟨v1, hv, h⟩ := ob_i h
      obtain ⟨hR, ⟨hc, h⟩ | ⟨hc, h⟩⟩ := c_ne_i h
      · skip
        obtain ⟨hc, h⟩ := ck_i h
        obtain ⟨v2, ev, h⟩ := tw_i h
        exact hC.tr (R_safe_107_c     (v2) M r h) (by decide)
      · skip
        obtain ⟨hc, h⟩ := ck_i h
        obtain ⟨v3, ev, h⟩ := tw_i h
        exact hC.tr (R_safe_107_c     (v3) M r h) (by decide)
    · skip
      obtain ⟨v4, hv, h⟩ := ob_i h
      obtain ⟨hR, ⟨hc, h⟩ | ⟨hc, h⟩⟩ := c_ne_i h
      · skip
        obtain ⟨v5, M6, hv, h⟩ := oc_i h
        have hC := hC.tr (R_straying_c (x6) M _ hv) (by decide)
        obtain ⟨hc, h⟩ := ck_i h
        exact hC.tr (R_safe_77_c   (R_safe_39    n) ih (x1) ((x2) * ((10) - (v5))) ((x4) * (10)) (x6) M6 r h) (by decide)
      · skip
        exact hC.tr (R_safe_77_c   (R_safe_39    n) ih (x1) (x2) (x4) (x6) M r h) (by decide)
theorem R_safe_c     (x1 : Int) (M : am_M) (r : Int × am_M) (h : R_safe    x1 M = some r) : Ch [73, 90, 91] M r.2 := by
  have hC : Ch [73, 90, 91] M M := Ch.rf
  obtain ⟨hc, h⟩ := ck_i h
  obtain ⟨v1, hv, h⟩ := ob_i h
  obtain ⟨hR, ⟨hc, h⟩ | ⟨hc, h⟩⟩ := c_ne_i h
  · skip
    obtain ⟨v2, M3, hv, h⟩ := oc_i h
    have hC := hC.tr (R_back_c (2) M _ hv) (by decide)
    obtain ⟨hR, ⟨hc, h⟩ | ⟨hc, h⟩⟩ := c_le_i h
    · skip
      exact hC.tr (R_safe_39_c     am_big (x1) (1) (1) (M3 73 47) M3 r h) (by decide)
    · skip
      cases h
      exact hC
  · skip
    cases h
    exact hC
theorem R_draw_c      (M : am_M) (r : Int × am_M) (h : R_draw     M = some r) : Ch [73] M r.2 := by
  have hC : Ch [73] M M := Ch.rf
  obtain ⟨hc, h⟩ := ck_i h
  obtain ⟨v1, ev, h⟩ := tw_i h
  obtain ⟨M2, eM, h⟩ := fw_i h
  have hC := hC.up (by decide) eM
  obtain ⟨hc, h⟩ := ck_i h
  obtain ⟨v3, ev, h⟩ := tw_i h
  cases h
  exact hC
theorem R_home_87_c   (k10 : Int → am_M → Option (Int × am_M)) (hk10 : ∀ (x1 : Int) (M : am_M) (r : Int × am_M), k10 x1 M = some r → Ch [73, 90, 91] M r.2) (x1 : Int) (M : am_M) (r : Int × am_M) (h : R_home_87   k10 x1 M = some r) : Ch [73, 90, 91] M r.2 := by
  have hC : Ch [73, 90, 91] M M := Ch.rf
  exact hC.tr (hk10 (x1) M r h) (by decide)
theorem R_home_56_c   (k10 : Int → am_M → Option (Int × am_M)) (hk10 : ∀ (x1 : Int) (M : am_M) (r : Int × am_M), k10 x1 M = some r → Ch [73, 90, 91] M r.2) (x1 : Int) (s0 : Int) (M : am_M) (r : Int × am_M) (h : R_home_56   k10 x1 s0 M = some r) : Ch [73, 90, 91] M r.2 := by
  have hC : Ch [73, 90, 91] M M := Ch.rf
  obtain ⟨v1, M2, hv, h⟩ := oc_i h
  have hC := hC.tr (R_walkingTo_c ((M 73 47) - (1)) (2) M _ hv) (by decide)
  obtain ⟨v3, M4, hv, h⟩ := oc_i h
  have hC := hC.tr (R_passes_c ((v1) + (s0)) M2 _ hv) (by decide)
  obtain ⟨hR, ⟨hc, h⟩ | ⟨hc, h⟩⟩ := c_eq_i h
  · skip
    exact hC.tr (R_home_87_c   k10 hk10 (x1) M4 r h) (by decide)
  · skip
    obtain ⟨M5, eM, h⟩ := fw_i h
    have hC := hC.up (by decide) eM
    exact hC.tr (R_home_87_c   k10 hk10 (x1) M5 r h) (by decide)
theorem R_home_90_c     (x1 : Int) (M : am_M) (r : Int × am_M) (h : R_home_90    x1 M = some r) : Ch [73, 90, 91] M r.2 := by
  have hC : Ch [73, 90, 91] M M := Ch.rf
  cases h
  exact hC
theorem R_home_55_c   (k10 : Int → am_M → Option (Int × am_M)) (hk10 : ∀ (x1 : Int) (M : am_M) (r : Int × am_M), k10 x1 M = some r → Ch [73, 90, 91] M r.2) (x1 : Int) (M : am_M) (r : Int × am_M) (h : R_home_55   k10 x1 M = some r) : Ch [73, 90, 91] M r.2 := by
  have hC : Ch [73, 90, 91] M M := Ch.rf
  exact hC.tr (R_home_56_c   k10 hk10 (x1) (0) M r h) (by decide)
theorem R_home_10_c     : ∀ (n : Nat) (x1 : Int) (M : am_M) (r : Int × am_M), R_home_10    n x1 M = some r → Ch [73, 90, 91] M r.2
  | 0, _, M, r, h => by cases h
  | n + 1, x1, M, r, h => by
    have ih := R_home_10_c     n
    have hC : Ch [73, 90, 91] M M := Ch.rf
    obtain ⟨hR, ⟨hc, h⟩ | ⟨hc, h⟩⟩ := c_le_i h
    · skip
      exact hC.tr (R_home_90_c     (x1) M r h) (by decide)
    · skip
      obtain ⟨hR, ⟨hc, h⟩ | ⟨hc, h⟩⟩ := c_ne_i h
      · skip
        exact hC.tr (R_home_90_c     (x1) M r h) (by decide)
      · skip
        obtain ⟨v1, hv, h⟩ := ob_i h
        obtain ⟨hR, ⟨hc, h⟩ | ⟨hc, h⟩⟩ := c_eq_i h
        · skip
          exact hC.tr (R_home_55_c   (R_home_10    n) ih (x1) M r h) (by decide)
        · skip
          obtain ⟨v2, M3, hv, h⟩ := oc_i h
          have hC := hC.tr (R_draw_c M _ hv) (by decide)
          obtain ⟨v4, M5, hv, h⟩ := oc_i h
          have hC := hC.tr (R_straying_c (M3 73 47) M3 _ hv) (by decide)
          obtain ⟨hR, ⟨hc, h⟩ | ⟨hc, h⟩⟩ := c_ge_i h
          · skip
            exact hC.tr (R_home_55_c   (R_home_10    n) ih (x1) M5 r h) (by decide)
          · skip
            exact hC.tr (R_home_56_c   (R_home_10    n) ih (x1) (30) M5 r h) (by decide)
theorem R_home_c      (M : am_M) (r : Int × am_M) (h : R_home     M = some r) : Ch [73, 90, 91] M r.2 := by
  have hC : Ch [73, 90, 91] M M := Ch.rf
  obtain ⟨hc, M1, eM, h⟩ := fz_i h
  have hC := hC.up (by decide) eM
  exact hC.tr (R_home_10_c     am_big (M 73 44) M1 r h) (by decide)
theorem R_turn_30_c      (M : am_M) (r : Int × am_M) (h : R_turn_30     M = some r) : Ch [73, 90, 91, 93, 95, 96, 97, 98, 99, 100, 101, 102, 103, 104, 105, 106, 107, 108, 109, 110, 111, 112, 113, 114, 115, 116] M r.2 := by
  have hC : Ch [73, 90, 91, 93, 95, 96, 97, 98, 99, 100, 101, 102, 103, 104, 105, 106, 107, 108, 109, 110, 111, 112, 113, 114, 115, 116] M M := Ch.rf
  cases h
  exact hC
theorem R_turn_155_c     (s0 : Int) (M : am_M) (r : Int × am_M) (h : R_turn_155    s0 M = some r) : Ch [73, 90, 91, 93, 95, 96, 97, 98, 99, 100, 101, 102, 103, 104, 105, 106, 107, 108, 109, 110, 111, 112, 113, 114, 115, 116] M r.2 := by
  have hC : Ch [73, 90, 91, 93, 95, 96, 97, 98, 99, 100, 101, 102, 103, 104, 105, 106, 107, 108, 109, 110, 111, 112, 113, 114, 115, 116] M M := Ch.rf
  cases h
  exact hC
theorem R_turn_145_c     (x2 : Int) (x3 : Int) (x4 : Int) (M : am_M) (r : Int × am_M) (h : R_turn_145    x2 x3 x4 M = some r) : Ch [73, 90, 91, 93, 95, 96, 97, 98, 99, 100, 101, 102, 103, 104, 105, 106, 107, 108, 109, 110, 111, 112, 113, 114, 115, 116] M r.2 := by
  have hC : Ch [73, 90, 91, 93, 95, 96, 97, 98, 99, 100, 101, 102, 103, 104, 105, 106, 107, 108, 109, 110, 111, 112, 113, 114, 115, 116] M M := Ch.rf
  obtain ⟨hR, ⟨hc, h⟩ | ⟨hc, h⟩⟩ := c_ne_i h
  · skip
    exact hC.tr (R_turn_155_c     (x4) M r h) (by decide)
  · skip
    exact hC.tr (R_turn_155_c     (x3) M r h) (by decide)
theorem R_turn_134_c   (k63 : Int → Int → Int → Int → Int → am_M → Option (Int × am_M)) (hk63 : ∀ (x2 : Int) (x3 : Int) (x4 : Int) (x5 : Int) (x6 : Int) (M : am_M) (r : Int × am_M), k63 x2 x3 x4 x5 x6 M = some r → Ch [73, 90, 91, 93, 95, 96, 97, 98, 99, 100, 101, 102, 103, 104, 105, 106, 107, 108, 109, 110, 111, 112, 113, 114, 115, 116] M r.2) (x2 : Int) (x3 : Int) (x4 : Int) (x5 : Int) (x6 : Int) (M : am_M) (r : Int × am_M) (h : R_turn_134   k63 x2 x3 x4 x5 x6 M = some r) : Ch [73, 90, 91, 93, 95, 96, 97, 98, 99, 100, 101, 102, 103, 104, 105, 106, 107, 108, 109, 110, 111, 112, 113, 114, 115, 116] M r.2 := by
  have hC : Ch [73, 90, 91, 93, 95, 96, 97, 98, 99, 100, 101, 102, 103, 104, 105, 106, 107, 108, 109, 110, 111, 112, 113, 114, 115, 116] M M := Ch.rf
  obtain ⟨M1, hv, h⟩ := ob_i h
  have hC := hC.tr (R_bringsBack_c (0) M _ hv) (by decide)
  exact hC.tr (hk63 (x2) (x3) (x4) (x5) ((x6) + (1)) M1 r h) (by decide)
theorem R_turn_97_c   (k63 : Int → Int → Int → Int → Int → am_M → Option (Int × am_M)) (hk63 : ∀ (x2 : Int) (x3 : Int) (x4 : Int) (x5 : Int) (x6 : Int) (M : am_M) (r : Int × am_M), k63 x2 x3 x4 x5 x6 M = some r → Ch [73, 90, 91, 93, 95, 96, 97, 98, 99, 100, 101, 102, 103, 104, 105, 106, 107, 108, 109, 110, 111, 112, 113, 114, 115, 116] M r.2) (x2 : Int) (x3 : Int) (x4 : Int) (x6 : Int) (x7 : Int) (s0 : Int) (M : am_M) (r : Int × am_M) (h : R_turn_97   k63 x2 x3 x4 x6 x7 s0 M = some r) : Ch [73, 90, 91, 93, 95, 96, 97, 98, 99, 100, 101, 102, 103, 104, 105, 106, 107, 108, 109, 110, 111, 112, 113, 114, 115, 116] M r.2 := by
  have hC : Ch [73, 90, 91, 93, 95, 96, 97, 98, 99, 100, 101, 102, 103, 104, 105, 106, 107, 108, 109, 110, 111, 112, 113, 114, 115, 116] M M := Ch.rf
  obtain ⟨v1, M2, hv, h⟩ := oc_i h
  have hC := hC.tr (R_minutesBack_c M _ hv) (by decide)
  obtain ⟨hR, ⟨hc, h⟩ | ⟨hc, h⟩⟩ := c_eq_i h
  · skip
    exact hC.tr (R_turn_134_c   k63 hk63 (x2) (x3) (x4) (s0) (x6) M2 r h) (by decide)
  · skip
    obtain ⟨hR, ⟨hc, h⟩ | ⟨hc, h⟩⟩ := c_gt_i h
    · skip
      exact hC.tr (R_turn_134_c   k63 hk63 (x2) (x3) (x4) (s0) (x6) M2 r h) (by decide)
    · skip
      exact hC.tr (R_turn_134_c   k63 hk63 (x2) (x6) ((x7) + (v1)) (s0) (x6) M2 r h) (by decide)
theorem R_turn_63_c     : ∀ (n : Nat) (x2 : Int) (x3 : Int) (x4 : Int) (x5 : Int) (x6 : Int) (M : am_M) (r : Int × am_M), R_turn_63    n x2 x3 x4 x5 x6 M = some r → Ch [73, 90, 91, 93, 95, 96, 97, 98, 99, 100, 101, 102, 103, 104, 105, 106, 107, 108, 109, 110, 111, 112, 113, 114, 115, 116] M r.2
  | 0, _, _, _, _, _, M, r, h => by cases h
  | n + 1, x2, x3, x4, x5, x6, M, r, h => by
    have ih := R_turn_63_c     n
    have hC : Ch [73, 90, 91, 93, 95, 96, 97, 98, 99, 100, 101, 102, 103, 104, 105, 106, 107, 108, 109, 110, 111, 112, 113, 114, 115, 116] M M := Ch.rf
    obtain ⟨hR, ⟨hc, h⟩ | ⟨hc, h⟩⟩ := c_gt_i h
    · skip
      exact hC.tr (R_turn_145_c     (x2) (x3) (x4) M r h) (by decide)
    · skip
      obtain ⟨hR, ⟨hc, h⟩ | ⟨hc, h⟩⟩ := c_eq_i h
      · skip
        exact hC.tr (R_turn_145_c     (x2) (x3) (x4) M r h) (by decide)
      · skip
        obtain ⟨v1, M2, hv, h⟩ := oc_i h
        have hC := hC.tr (R_doesActs_c (x6) M _ hv) (by decide)
        obtain ⟨hR, ⟨hc, h⟩ | ⟨hc, h⟩⟩ := c_ne_i h
        · skip
          exact hC.tr (R_turn_97_c   (R_turn_63    n) ih (x2) (x3) (x4) (x6) (v1) (0) M2 r h) (by decide)
        · skip
          exact hC.tr (R_turn_97_c   (R_turn_63    n) ih (x2) (x3) (x4) (x6) (v1) (1) M2 r h) (by decide)
theorem R_turn_c     (x1 : Int) (x2 : Int) (M : am_M) (r : Int × am_M) (h : R_turn    x1 x2 M = some r) : Ch [73, 90, 91, 93, 95, 96, 97, 98, 99, 100, 101, 102, 103, 104, 105, 106, 107, 108, 109, 110, 111, 112, 113, 114, 115, 116] M r.2 := by
  have hC : Ch [73, 90, 91, 93, 95, 96, 97, 98, 99, 100, 101, 102, 103, 104, 105, 106, 107, 108, 109, 110, 111, 112, 113, 114, 115, 116] M M := Ch.rf
  obtain ⟨hc, h⟩ := ck_i h
  obtain ⟨v1, hv, h⟩ := ob_i h
  obtain ⟨hR, ⟨hc, h⟩ | ⟨hc, h⟩⟩ := c_eq_i h
  · skip
    exact hC.tr (R_turn_30_c      M r h) (by decide)
  · skip
    obtain ⟨hc, h⟩ := ck_i h
    obtain ⟨v2, hv, h⟩ := ob_i h
    obtain ⟨hR, ⟨hc, h⟩ | ⟨hc, h⟩⟩ := c_eq_i h
    · skip
      exact hC.tr (R_turn_30_c      M r h) (by decide)
    · skip
      obtain ⟨hR, ⟨hc, h⟩ | ⟨hc, h⟩⟩ := c_le_i h
      · skip
        obtain ⟨v3, M4, hv, h⟩ := oc_i h
        have hC := hC.tr (R_takesActs_c (x1) M _ hv) (by decide)
        obtain ⟨hR, ⟨hc, h⟩ | ⟨hc, h⟩⟩ := c_ne_i h
        · skip
          obtain ⟨M5, hv, h⟩ := ob_i h
          have hC := hC.tr (R_laysAside_c (0) M4 _ hv) (by decide)
          exact hC.tr (R_turn_63_c     am_big (x2) (-2) (-2) (1) (0) M5 r h) (by decide)
        · skip
          cases h
          exact hC
      · skip
        exact hC.tr (R_turn_30_c      M r h) (by decide)
theorem R_laysFarTo_61_c   (k37 : Int → Int → am_M → Option (am_M)) (hk37 : ∀ (x1 : Int) (x2 : Int) (M : am_M) (r : am_M), k37 x1 x2 M = some r → Ch [73, 90, 91, 117, 118] M r) (x1 : Int) (x2 : Int) (s1 : Int) (s2 : Int) (M : am_M) (r : am_M) (h : R_laysFarTo_61   k37 x1 x2 s1 s2 M = some r) : Ch [73, 90, 91, 117, 118] M r := by
  have hC : Ch [73, 90, 91, 117, 118] M M := Ch.rf
  obtain ⟨hc, M1, eM, h⟩ := wa_i h
  have hC := hC.up (by decide) eM
  exact hC.tr (hk37 (x1) ((x2) + (1)) M1 r h) (by decide)
theorem R_laysFarTo_128_c   (k70 : Int → am_M → Option (am_M)) (k78 : Int → Int → am_M → Option (am_M)) (k88 : Int → Int → Int → am_M → Option (am_M)) (hk70 : ∀ (x2 : Int) (M : am_M) (r : am_M), k70 x2 M = some r → Ch [73, 90, 91, 117, 118] M r) (hk78 : ∀ (x2 : Int) (x3 : Int) (M : am_M) (r : am_M), k78 x2 x3 M = some r → Ch [73, 90, 91, 117, 118] M r) (hk88 : ∀ (x2 : Int) (x3 : Int) (x4 : Int) (M : am_M) (r : am_M), k88 x2 x3 x4 M = some r → Ch [73, 90, 91, 117, 118] M r) (x2 : Int) (x3 : Int) (x4 : Int) (M : am_M) (r : am_M) (h : R_laysFarTo_128   k70 k78 k88 x2 x3 x4 M = some r) : Ch [73, 90, 91, 117, 118] M r := by
  have hC : Ch [73, 90, 91, 117, 118] M M := Ch.rf
  exact hC.tr (hk88 (x2) (x3) ((x4) + (1)) M r h) (by decide)
theorem R_laysFarTo_88_c   (k70 : Int → am_M → Option (am_M)) (k78 : Int → Int → am_M → Option (am_M)) (hk70 : ∀ (x2 : Int) (M : am_M) (r : am_M), k70 x2 M = some r → Ch [73, 90, 91, 117, 118] M r) (hk78 : ∀ (x2 : Int) (x3 : Int) (M : am_M) (r : am_M), k78 x2 x3 M = some r → Ch [73, 90, 91, 117, 118] M r) : ∀ (n : Nat) (x2 : Int) (x3 : Int) (x4 : Int) (M : am_M) (r : am_M), R_laysFarTo_88   k70 k78 n x2 x3 x4 M = some r → Ch [73, 90, 91, 117, 118] M r
  | 0, _, _, _, M, r, h => by cases h
  | n + 1, x2, x3, x4, M, r, h => by
    have ih := R_laysFarTo_88_c   k70 k78 hk70 hk78 n
    have hC : Ch [73, 90, 91, 117, 118] M M := Ch.rf
    obtain ⟨hR, ⟨hc, h⟩ | ⟨hc, h⟩⟩ := c_ge_i h
    · skip
      exact hC.tr (hk78 (x2) ((x3) + (1)) M r h) (by decide)
    · skip
      obtain ⟨v1, hv, h⟩ := ob_i h
      obtain ⟨hc, v2, ev, h⟩ := rd_i h
      obtain ⟨hR, ⟨hc, h⟩ | ⟨hc, h⟩⟩ := c_lt_i h
      · skip
        obtain ⟨v3, hv, h⟩ := ob_i h
        obtain ⟨hc, M4, eM, h⟩ := wa_i h
        have hC := hC.up (by decide) eM
        exact hC.tr (R_laysFarTo_128_c   k70 k78 (R_laysFarTo_88   k70 k78 n) hk70 hk78 ih (1) (x3) (x4) M4 r h) (by decide)
      · skip
        exact hC.tr (R_laysFarTo_128_c   k70 k78 (R_laysFarTo_88   k70 k78 n) hk70 hk78 ih (x2) (x3) (x4) M r h) (by decide)
theorem R_laysFarTo_78_c   (k70 : Int → am_M → Option (am_M)) (hk70 : ∀ (x2 : Int) (M : am_M) (r : am_M), k70 x2 M = some r → Ch [73, 90, 91, 117, 118] M r) : ∀ (n : Nat) (x2 : Int) (x3 : Int) (M : am_M) (r : am_M), R_laysFarTo_78   k70 n x2 x3 M = some r → Ch [73, 90, 91, 117, 118] M r
  | 0, _, _, M, r, h => by cases h
  | n + 1, x2, x3, M, r, h => by
    have ih := R_laysFarTo_78_c   k70 hk70 n
    have hC : Ch [73, 90, 91, 117, 118] M M := Ch.rf
    obtain ⟨hR, ⟨hc, h⟩ | ⟨hc, h⟩⟩ := c_ge_i h
    · skip
      exact hC.tr (hk70 (x2) M r h) (by decide)
    · skip
      exact hC.tr (R_laysFarTo_88_c   k70 (R_laysFarTo_78   k70 n) hk70 ih am_big (x2) (x3) (0) M r h) (by decide)
theorem R_laysFarTo_70_c     : ∀ (n : Nat) (x2 : Int) (M : am_M) (r : am_M), R_laysFarTo_70    n x2 M = some r → Ch [73, 90, 91, 117, 118] M r
  | 0, _, M, r, h => by cases h
  | n + 1, x2, M, r, h => by
    have ih := R_laysFarTo_70_c     n
    have hC : Ch [73, 90, 91, 117, 118] M M := Ch.rf
    obtain ⟨hR, ⟨hc, h⟩ | ⟨hc, h⟩⟩ := c_eq_i h
    · skip
      cases h
      exact hC
    · skip
      exact hC.tr (R_laysFarTo_78_c   (R_laysFarTo_70    n) ih am_big (0) (0) M r h) (by decide)
theorem R_laysFarTo_37_c     : ∀ (n : Nat) (x1 : Int) (x2 : Int) (M : am_M) (r : am_M), R_laysFarTo_37    n x1 x2 M = some r → Ch [73, 90, 91, 117, 118] M r
  | 0, _, _, M, r, h => by cases h
  | n + 1, x1, x2, M, r, h => by
    have ih := R_laysFarTo_37_c     n
    have hC : Ch [73, 90, 91, 117, 118] M M := Ch.rf
    obtain ⟨hR, ⟨hc, h⟩ | ⟨hc, h⟩⟩ := c_ge_i h
    · skip
      exact hC.tr (R_laysFarTo_70_c     am_big (1) M r h) (by decide)
    · skip
      obtain ⟨hR, ⟨hc, h⟩ | ⟨hc, h⟩⟩ := c_ne_i h
      · skip
        exact hC.tr (R_laysFarTo_61_c   (R_laysFarTo_37    n) ih (x1) (x2) (x2) (1000000000) M r h) (by decide)
      · skip
        exact hC.tr (R_laysFarTo_61_c   (R_laysFarTo_37    n) ih (x1) (x2) (x2) (0) M r h) (by decide)
theorem R_laysFarTo_2_c     : ∀ (n : Nat) (x1 : Int) (x2 : Int) (M : am_M) (r : am_M), R_laysFarTo_2    n x1 x2 M = some r → Ch [73, 90, 91, 117, 118] M r
  | 0, _, _, M, r, h => by cases h
  | n + 1, x1, x2, M, r, h => by
    have ih := R_laysFarTo_2_c     n
    have hC : Ch [73, 90, 91, 117, 118] M M := Ch.rf
    obtain ⟨hR, ⟨hc, h⟩ | ⟨hc, h⟩⟩ := c_ge_i h
    · skip
      exact hC.tr (R_laysFarTo_37_c     am_big (x1) (0) M r h) (by decide)
    · skip
      obtain ⟨v1, M2, hv, h⟩ := oc_i h
      have hC := hC.tr (R_cutting_c (x2) (M 73 42) M _ hv) (by decide)
      obtain ⟨hc, M3, eM, h⟩ := wa_i h
      have hC := hC.up (by decide) eM
      exact hC.tr (ih (x1) ((x2) + (1)) M3 r h) (by decide)
theorem R_laysFarTo_c     (x1 : Int) (M : am_M) (r : am_M) (h : R_laysFarTo    x1 M = some r) : Ch [73, 90, 91, 117, 118] M r := by
  have hC : Ch [73, 90, 91, 117, 118] M M := Ch.rf
  exact hC.tr (R_laysFarTo_2_c     am_big (x1) (0) M r h) (by decide)
theorem R_soonest_148_c      (M : am_M) (r : Int × am_M) (h : R_soonest_148     M = some r) : Ch [73, 90, 91, 117, 118] M r.2 := by
  have hC : Ch [73, 90, 91, 117, 118] M M := Ch.rf
  cases h
  exact hC
theorem R_soonest_112_c     : ∀ (n : Nat) (x1 : Int) (x2 : Int) (x4 : Int) (M : am_M) (r : Int × am_M), R_soonest_112    n x1 x2 x4 M = some r → Ch [73, 90, 91, 117, 118] M r.2
  | 0, _, _, _, M, r, h => by cases h
  | n + 1, x1, x2, x4, M, r, h => by
    have ih := R_soonest_112_c     n
    have hC : Ch [73, 90, 91, 117, 118] M M := Ch.rf
    obtain ⟨hR, ⟨hc, h⟩ | ⟨hc, h⟩⟩ := c_ge_i h
    · skip
      exact hC.tr (R_soonest_148_c      M r h) (by decide)
    · skip
      obtain ⟨hR, ⟨hc, h⟩ | ⟨hc, h⟩⟩ := c_eq_i h
      · skip
        exact hC.tr (R_soonest_148_c      M r h) (by decide)
      · skip
        obtain ⟨v1, hv, h⟩ := ob_i h
        obtain ⟨hc, v2, ev, h⟩ := rd_i h
        obtain ⟨hR, ⟨hc, h⟩ | ⟨hc, h⟩⟩ := c_ne_i h
        · skip
          exact hC.tr (ih (x1) (x2) ((x4) + (1)) M r h) (by decide)
        · skip
          cases h
          exact hC
theorem R_soonest_108_c     (s0 : Int) (M : am_M) (r : Int × am_M) (h : R_soonest_108    s0 M = some r) : Ch [73, 90, 91, 117, 118] M r.2 := by
  have hC : Ch [73, 90, 91, 117, 118] M M := Ch.rf
  cases h
  exact hC
theorem R_soonest_54_c      (M : am_M) (r : Int × am_M) (h : R_soonest_54     M = some r) : Ch [73, 90, 91, 117, 118] M r.2 := by
  have hC : Ch [73, 90, 91, 117, 118] M M := Ch.rf
  cases h
  exact hC
theorem R_soonest_c     (x1 : Int) (x2 : Int) (x3 : Int) (M : am_M) (r : Int × am_M) (h : R_soonest    x1 x2 x3 M = some r) : Ch [73, 90, 91, 117, 118] M r.2 := by
  have hC : Ch [73, 90, 91, 117, 118] M M := Ch.rf
  obtain ⟨v1, hv, h⟩ := ob_i h
  obtain ⟨hR, ⟨hc, h⟩ | ⟨hc, h⟩⟩ := c_eq_i h
  · skip
    exact hC.tr (R_soonest_54_c      M r h) (by decide)
  · skip
    obtain ⟨v2, hv, h⟩ := ob_i h
    obtain ⟨hR, ⟨hc, h⟩ | ⟨hc, h⟩⟩ := c_eq_i h
    · skip
      exact hC.tr (R_soonest_54_c      M r h) (by decide)
    · skip
      obtain ⟨hc, v3, ev, h⟩ := rd_i h
      obtain ⟨hR, ⟨hc, h⟩ | ⟨hc, h⟩⟩ := c_eq_i h
      · skip
        exact hC.tr (R_soonest_54_c      M r h) (by decide)
      · skip
        obtain ⟨hc, v4, ev, h⟩ := rd_i h
        obtain ⟨hR, ⟨hc, h⟩ | ⟨hc, h⟩⟩ := c_eq_i h
        · skip
          exact hC.tr (R_soonest_54_c      M r h) (by decide)
        · skip
          obtain ⟨hc, h⟩ := ck_i h
          obtain ⟨v5, hv, h⟩ := ob_i h
          obtain ⟨hR, ⟨hc, h⟩ | ⟨hc, h⟩⟩ := c_eq_i h
          · skip
            exact hC.tr (R_soonest_54_c      M r h) (by decide)
          · skip
            obtain ⟨hR, ⟨hc, h⟩ | ⟨hc, h⟩⟩ := c_ne_i h
            · skip
              obtain ⟨M6, hv, h⟩ := ob_i h
              have hC := hC.tr (R_laysFarTo_c (x2) M _ hv) (by decide)
              obtain ⟨hc, v7, ev, h⟩ := rd_i h
              obtain ⟨hR, ⟨hc, h⟩ | ⟨hc, h⟩⟩ := c_ne_i h
              · skip
                obtain ⟨hR, ⟨hc, h⟩ | ⟨hc, h⟩⟩ := c_ge_i h
                · skip
                  exact hC.tr (R_soonest_112_c     am_big (x1) (x2) (0) M6 r h) (by decide)
                · skip
                  obtain ⟨hR, ⟨hc, h⟩ | ⟨hc, h⟩⟩ := c_ne_i h
                  · skip
                    obtain ⟨hc, v8, ev, h⟩ := rd_i h
                    obtain ⟨hc, h⟩ := ck_i h
                    obtain ⟨v9, ev, h⟩ := tw_i h
                    exact hC.tr (R_soonest_108_c     (v9) M6 r h) (by decide)
                  · skip
                    obtain ⟨hc, v10, ev, h⟩ := rd_i h
                    obtain ⟨hc, h⟩ := ck_i h
                    obtain ⟨v11, ev, h⟩ := tw_i h
                    exact hC.tr (R_soonest_108_c     (v11) M6 r h) (by decide)
              · skip
                cases h
                exact hC
            · skip
              exact hC.tr (R_soonest_54_c      M r h) (by decide)
theorem R_laysSteps_26_c   (k2 : Int → Int → am_M → Option (am_M)) (hk2 : ∀ (x1 : Int) (x2 : Int) (M : am_M) (r : am_M), k2 x1 x2 M = some r → Ch [119] M r) (x1 : Int) (x2 : Int) (s1 : Int) (s2 : Int) (M : am_M) (r : am_M) (h : R_laysSteps_26   k2 x1 x2 s1 s2 M = some r) : Ch [119] M r := by
  have hC : Ch [119] M M := Ch.rf
  obtain ⟨hc, M1, eM, h⟩ := wa_i h
  have hC := hC.up (by decide) eM
  exact hC.tr (hk2 (x1) ((x2) + (1)) M1 r h) (by decide)
theorem R_laysSteps_128_c   (k37 : Int → Int → am_M → Option (am_M)) (k46 : Int → Int → Int → am_M → Option (am_M)) (k57 : Int → Int → Int → Int → am_M → Option (am_M)) (hk37 : ∀ (x2 : Int) (x3 : Int) (M : am_M) (r : am_M), k37 x2 x3 M = some r → Ch [119] M r) (hk46 : ∀ (x2 : Int) (x3 : Int) (x4 : Int) (M : am_M) (r : am_M), k46 x2 x3 x4 M = some r → Ch [119] M r) (hk57 : ∀ (x2 : Int) (x3 : Int) (x4 : Int) (x5 : Int) (M : am_M) (r : am_M), k57 x2 x3 x4 x5 M = some r → Ch [119] M r) (x2 : Int) (x3 : Int) (x4 : Int) (x5 : Int) (M : am_M) (r : am_M) (h : R_laysSteps_128   k37 k46 k57 x2 x3 x4 x5 M = some r) : Ch [119] M r := by
  have hC : Ch [119] M M := Ch.rf
  exact hC.tr (hk57 (x2) (x3) (x4) ((x5) + (1)) M r h) (by decide)
theorem R_laysSteps_134_c   (k37 : Int → Int → am_M → Option (am_M)) (k46 : Int → Int → Int → am_M → Option (am_M)) (hk37 : ∀ (x2 : Int) (x3 : Int) (M : am_M) (r : am_M), k37 x2 x3 M = some r → Ch [119] M r) (hk46 : ∀ (x2 : Int) (x3 : Int) (x4 : Int) (M : am_M) (r : am_M), k46 x2 x3 x4 M = some r → Ch [119] M r) (x2 : Int) (x3 : Int) (x4 : Int) (M : am_M) (r : am_M) (h : R_laysSteps_134   k37 k46 x2 x3 x4 M = some r) : Ch [119] M r := by
  have hC : Ch [119] M M := Ch.rf
  exact hC.tr (hk46 (x2) (x3) ((x4) + (1)) M r h) (by decide)
theorem R_laysSteps_57_c   (k37 : Int → Int → am_M → Option (am_M)) (k46 : Int → Int → Int → am_M → Option (am_M)) (hk37 : ∀ (x2 : Int) (x3 : Int) (M : am_M) (r : am_M), k37 x2 x3 M = some r → Ch [119] M r) (hk46 : ∀ (x2 : Int) (x3 : Int) (x4 : Int) (M : am_M) (r : am_M), k46 x2 x3 x4 M = some r → Ch [119] M r) : ∀ (n : Nat) (x2 : Int) (x3 : Int) (x4 : Int) (x5 : Int) (M : am_M) (r : am_M), R_laysSteps_57   k37 k46 n x2 x3 x4 x5 M = some r → Ch [119] M r
  | 0, _, _, _, _, M, r, h => by cases h
  | n + 1, x2, x3, x4, x5, M, r, h => by
    have ih := R_laysSteps_57_c   k37 k46 hk37 hk46 n
    have hC : Ch [119] M M := Ch.rf
    obtain ⟨hR, ⟨hc, h⟩ | ⟨hc, h⟩⟩ := c_ge_i h
    · skip
      exact hC.tr (R_laysSteps_134_c   k37 k46 hk37 hk46 (x2) (x3) (x4) M r h) (by decide)
    · skip
      obtain ⟨hc, v1, ev, h⟩ := rd_i h
      obtain ⟨hR, ⟨hc, h⟩ | ⟨hc, h⟩⟩ := c_ne_i h
      · skip
        exact hC.tr (R_laysSteps_134_c   k37 k46 hk37 hk46 (x2) (x3) (x4) M r h) (by decide)
      · skip
        obtain ⟨v2, hv, h⟩ := ob_i h
        obtain ⟨hR, ⟨hc, h⟩ | ⟨hc, h⟩⟩ := c_eq_i h
        · skip
          exact hC.tr (R_laysSteps_128_c   k37 k46 (R_laysSteps_57   k37 k46 n) hk37 hk46 ih (x2) (x3) (x4) (x5) M r h) (by decide)
        · skip
          obtain ⟨hc, v3, ev, h⟩ := rd_i h
          obtain ⟨hR, ⟨hc, h⟩ | ⟨hc, h⟩⟩ := c_eq_i h
          · skip
            exact hC.tr (R_laysSteps_128_c   k37 k46 (R_laysSteps_57   k37 k46 n) hk37 hk46 ih (x2) (x3) (x4) (x5) M r h) (by decide)
          · skip
            obtain ⟨hc, v4, ev, h⟩ := rd_i h
            obtain ⟨hR, ⟨hc, h⟩ | ⟨hc, h⟩⟩ := c_gt_i h
            · skip
              obtain ⟨hc, M5, eM, h⟩ := wa_i h
              have hC := hC.up (by decide) eM
              exact hC.tr (R_laysSteps_128_c   k37 k46 (R_laysSteps_57   k37 k46 n) hk37 hk46 ih (1) (x3) (x4) (x5) M5 r h) (by decide)
            · skip
              exact hC.tr (R_laysSteps_128_c   k37 k46 (R_laysSteps_57   k37 k46 n) hk37 hk46 ih (x2) (x3) (x4) (x5) M r h) (by decide)
theorem R_laysSteps_46_c   (k37 : Int → Int → am_M → Option (am_M)) (hk37 : ∀ (x2 : Int) (x3 : Int) (M : am_M) (r : am_M), k37 x2 x3 M = some r → Ch [119] M r) : ∀ (n : Nat) (x2 : Int) (x3 : Int) (x4 : Int) (M : am_M) (r : am_M), R_laysSteps_46   k37 n x2 x3 x4 M = some r → Ch [119] M r
  | 0, _, _, _, M, r, h => by cases h
  | n + 1, x2, x3, x4, M, r, h => by
    have ih := R_laysSteps_46_c   k37 hk37 n
    have hC : Ch [119] M M := Ch.rf
    obtain ⟨hR, ⟨hc, h⟩ | ⟨hc, h⟩⟩ := c_ge_i h
    · skip
      exact hC.tr (hk37 (x2) ((x3) + (1)) M r h) (by decide)
    · skip
      exact hC.tr (R_laysSteps_57_c   k37 (R_laysSteps_46   k37 n) hk37 ih am_big (x2) (x3) (x4) (0) M r h) (by decide)
theorem R_laysSteps_37_c     : ∀ (n : Nat) (x2 : Int) (x3 : Int) (M : am_M) (r : am_M), R_laysSteps_37    n x2 x3 M = some r → Ch [119] M r
  | 0, _, _, M, r, h => by cases h
  | n + 1, x2, x3, M, r, h => by
    have ih := R_laysSteps_37_c     n
    have hC : Ch [119] M M := Ch.rf
    obtain ⟨hR, ⟨hc, h⟩ | ⟨hc, h⟩⟩ := c_eq_i h
    · skip
      cases h
      exact hC
    · skip
      exact hC.tr (R_laysSteps_46_c   (R_laysSteps_37    n) ih am_big (0) (x3) (0) M r h) (by decide)
theorem R_laysSteps_2_c     : ∀ (n : Nat) (x1 : Int) (x2 : Int) (M : am_M) (r : am_M), R_laysSteps_2    n x1 x2 M = some r → Ch [119] M r
  | 0, _, _, M, r, h => by cases h
  | n + 1, x1, x2, M, r, h => by
    have ih := R_laysSteps_2_c     n
    have hC : Ch [119] M M := Ch.rf
    obtain ⟨hR, ⟨hc, h⟩ | ⟨hc, h⟩⟩ := c_ge_i h
    · skip
      exact hC.tr (R_laysSteps_37_c     am_big (1) (0) M r h) (by decide)
    · skip
      obtain ⟨hR, ⟨hc, h⟩ | ⟨hc, h⟩⟩ := c_ne_i h
      · skip
        exact hC.tr (R_laysSteps_26_c   (R_laysSteps_2    n) ih (x1) (x2) (x2) (1000000000) M r h) (by decide)
      · skip
        exact hC.tr (R_laysSteps_26_c   (R_laysSteps_2    n) ih (x1) (x2) (x2) (0) M r h) (by decide)
theorem R_laysSteps_c     (x1 : Int) (M : am_M) (r : am_M) (h : R_laysSteps    x1 M = some r) : Ch [119] M r := by
  have hC : Ch [119] M M := Ch.rf
  exact hC.tr (R_laysSteps_2_c     am_big (x1) (0) M r h) (by decide)
theorem R_camp_80_c   (k29 : Int → Int → Int → am_M → Option (Int × am_M)) (hk29 : ∀ (x1 : Int) (x2 : Int) (x3 : Int) (M : am_M) (r : Int × am_M), k29 x1 x2 x3 M = some r → Ch [119] M r.2) (x1 : Int) (x2 : Int) (x3 : Int) (M : am_M) (r : Int × am_M) (h : R_camp_80   k29 x1 x2 x3 M = some r) : Ch [119] M r.2 := by
  have hC : Ch [119] M M := Ch.rf
  exact hC.tr (hk29 (x1) (x2) ((x3) + (1)) M r h) (by decide)
theorem R_camp_78_c   (k29 : Int → Int → Int → am_M → Option (Int × am_M)) (hk29 : ∀ (x1 : Int) (x2 : Int) (x3 : Int) (M : am_M) (r : Int × am_M), k29 x1 x2 x3 M = some r → Ch [119] M r.2) (x1 : Int) (x3 : Int) (M : am_M) (r : Int × am_M) (h : R_camp_78   k29 x1 x3 M = some r) : Ch [119] M r.2 := by
  have hC : Ch [119] M M := Ch.rf
  exact hC.tr (R_camp_80_c   k29 hk29 (x1) (x3) (x3) M r h) (by decide)
theorem R_camp_110_c     (s0 : Int) (M : am_M) (r : Int × am_M) (h : R_camp_110    s0 M = some r) : Ch [119] M r.2 := by
  have hC : Ch [119] M M := Ch.rf
  cases h
  exact hC
theorem R_camp_29_c     : ∀ (n : Nat) (x1 : Int) (x2 : Int) (x3 : Int) (M : am_M) (r : Int × am_M), R_camp_29    n x1 x2 x3 M = some r → Ch [119] M r.2
  | 0, _, _, _, M, r, h => by cases h
  | n + 1, x1, x2, x3, M, r, h => by
    have ih := R_camp_29_c     n
    have hC : Ch [119] M M := Ch.rf
    obtain ⟨hR, ⟨hc, h⟩ | ⟨hc, h⟩⟩ := c_ge_i h
    · skip
      obtain ⟨hR, ⟨hc, h⟩ | ⟨hc, h⟩⟩ := c_ne_i h
      · skip
        obtain ⟨hR, ⟨hc, h⟩ | ⟨hc, h⟩⟩ := c_ne_i h
        · skip
          obtain ⟨hc, v1, ev, h⟩ := rd_i h
          exact hC.tr (R_camp_110_c     (v1) M r h) (by decide)
        · skip
          exact hC.tr (R_camp_110_c     (x2) M r h) (by decide)
      · skip
        exact hC.tr (R_camp_110_c     (-2) M r h) (by decide)
    · skip
      obtain ⟨hc, v2, ev, h⟩ := rd_i h
      obtain ⟨hR, ⟨hc, h⟩ | ⟨hc, h⟩⟩ := c_ne_i h
      · skip
        exact hC.tr (R_camp_80_c   (R_camp_29    n) ih (x1) (x2) (x3) M r h) (by decide)
      · skip
        obtain ⟨hc, v3, ev, h⟩ := rd_i h
        obtain ⟨hR, ⟨hc, h⟩ | ⟨hc, h⟩⟩ := c_ge_i h
        · skip
          exact hC.tr (R_camp_80_c   (R_camp_29    n) ih (x1) (x2) (x3) M r h) (by decide)
        · skip
          obtain ⟨hR, ⟨hc, h⟩ | ⟨hc, h⟩⟩ := c_eq_i h
          · skip
            exact hC.tr (R_camp_78_c   (R_camp_29    n) ih (x1) (x3) M r h) (by decide)
          · skip
            obtain ⟨hc, v4, ev, h⟩ := rd_i h
            obtain ⟨hc, v5, ev, h⟩ := rd_i h
            obtain ⟨hR, ⟨hc, h⟩ | ⟨hc, h⟩⟩ := c_ge_i h
            · skip
              exact hC.tr (R_camp_80_c   (R_camp_29    n) ih (x1) (x2) (x3) M r h) (by decide)
            · skip
              exact hC.tr (R_camp_78_c   (R_camp_29    n) ih (x1) (x3) M r h) (by decide)
theorem R_camp_c     (x1 : Int) (M : am_M) (r : Int × am_M) (h : R_camp    x1 M = some r) : Ch [119] M r.2 := by
  have hC : Ch [119] M M := Ch.rf
  obtain ⟨hc, h⟩ := ck_i h
  obtain ⟨v1, hv, h⟩ := ob_i h
  obtain ⟨hR, ⟨hc, h⟩ | ⟨hc, h⟩⟩ := c_ne_i h
  · skip
    obtain ⟨hc, v2, ev, h⟩ := rd_i h
    obtain ⟨M3, hv, h⟩ := ob_i h
    have hC := hC.tr (R_laysSteps_c (v2) M _ hv) (by decide)
    exact hC.tr (R_camp_29_c     am_big (x1) (-1) (0) M3 r h) (by decide)
  · skip
    cases h
    exact hC
theorem R_opensRow_8_c     : ∀ (n : Nat) (x3 : Int) (x4 : Int) (x5 : Int) (M : am_M) (r : am_M), R_opensRow_8    n x3 x4 x5 M = some r → Ch [121] M r
  | 0, _, _, _, M, r, h => by cases h
  | n + 1, x3, x4, x5, M, r, h => by
    have ih := R_opensRow_8_c     n
    have hC : Ch [121] M M := Ch.rf
    obtain ⟨hR, ⟨hc, h⟩ | ⟨hc, h⟩⟩ := c_lt_i h
    · skip
      cases h
      exact hC
    · skip
      obtain ⟨hc, h⟩ := ck_i h
      obtain ⟨v1, ev, h⟩ := tw_i h
      obtain ⟨hc, M2, eM, h⟩ := wa_i h
      have hC := hC.up (by decide) eM
      obtain ⟨hc, h⟩ := ck_i h
      obtain ⟨v3, ev, h⟩ := tw_i h
      exact hC.tr (ih (x3) (v3) ((x5) + (-1)) M2 r h) (by decide)
theorem R_opensRow_c     (x1 : Int) (x2 : Int) (x3 : Int) (M : am_M) (r : am_M) (h : R_opensRow    x1 x2 x3 M = some r) : Ch [121] M r := by
  have hC : Ch [121] M M := Ch.rf
  exact hC.tr (R_opensRow_8_c     am_big (x3) (x1) ((x2) - (1)) M r h) (by decide)
theorem R_yardsOf_160_c   (k35 : Int → Int → Int → Int → am_M → Option (Int × am_M)) (k85 : Int → Int → Int → Int → Int → Int → am_M → Option (Int × am_M)) (hk35 : ∀ (x1 : Int) (x2 : Int) (x3 : Int) (x4 : Int) (M : am_M) (r : Int × am_M), k35 x1 x2 x3 x4 M = some r → Ch [73, 90, 91, 123] M r.2) (hk85 : ∀ (x1 : Int) (x2 : Int) (x3 : Int) (x4 : Int) (x5 : Int) (x6 : Int) (M : am_M) (r : Int × am_M), k85 x1 x2 x3 x4 x5 x6 M = some r → Ch [73, 90, 91, 123] M r.2) (x1 : Int) (x2 : Int) (x3 : Int) (x4 : Int) (x5 : Int) (x6 : Int) (s1 : Int) (s2 : Int) (M : am_M) (r : Int × am_M) (h : R_yardsOf_160   k35 k85 x1 x2 x3 x4 x5 x6 s1 s2 M = some r) : Ch [73, 90, 91, 123] M r.2 := by
  have hC : Ch [73, 90, 91, 123] M M := Ch.rf
  obtain ⟨v1, hv, h⟩ := ob_i h
  obtain ⟨hc, M2, eM, h⟩ := wa_i h
  have hC := hC.up (by decide) eM
  exact hC.tr (hk85 (x1) (x2) (x3) (x4) (x5) ((x6) + (1)) M2 r h) (by decide)
theorem R_yardsOf_85_c   (k35 : Int → Int → Int → Int → am_M → Option (Int × am_M)) (hk35 : ∀ (x1 : Int) (x2 : Int) (x3 : Int) (x4 : Int) (M : am_M) (r : Int × am_M), k35 x1 x2 x3 x4 M = some r → Ch [73, 90, 91, 123] M r.2) : ∀ (n : Nat) (x1 : Int) (x2 : Int) (x3 : Int) (x4 : Int) (x5 : Int) (x6 : Int) (M : am_M) (r : Int × am_M), R_yardsOf_85   k35 n x1 x2 x3 x4 x5 x6 M = some r → Ch [73, 90, 91, 123] M r.2
  | 0, _, _, _, _, _, _, M, r, h => by cases h
  | n + 1, x1, x2, x3, x4, x5, x6, M, r, h => by
    have ih := R_yardsOf_85_c   k35 hk35 n
    have hC : Ch [73, 90, 91, 123] M M := Ch.rf
    obtain ⟨hR, ⟨hc, h⟩ | ⟨hc, h⟩⟩ := c_ge_i h
    · skip
      exact hC.tr (hk35 (x1) (x2) (x3) ((x4) + (1)) M r h) (by decide)
    · skip
      obtain ⟨hR, ⟨hc, h⟩ | ⟨hc, h⟩⟩ := c_ne_i h
      · skip
        obtain ⟨hc, v1, ev, h⟩ := rd_i h
        obtain ⟨hc, v2, ev, h⟩ := rd_i h
        obtain ⟨hc, v3, ev, h⟩ := rd_i h
        obtain ⟨v4, M5, hv, h⟩ := oc_i h
        have hC := hC.tr (R_resting_c (v2) (v3) M _ hv) (by decide)
        exact hC.tr (R_yardsOf_160_c   k35 (R_yardsOf_85   k35 n) hk35 ih (x1) (x2) (x3) (x4) (x5) (x6) (x6) ((v1) - (v4)) M5 r h) (by decide)
      · skip
        obtain ⟨hc, v6, ev, h⟩ := rd_i h
        obtain ⟨hc, v7, ev, h⟩ := rd_i h
        obtain ⟨hc, v8, ev, h⟩ := rd_i h
        obtain ⟨v9, M10, hv, h⟩ := oc_i h
        have hC := hC.tr (R_tiring_c (2) (v7) (v8) M _ hv) (by decide)
        exact hC.tr (R_yardsOf_160_c   k35 (R_yardsOf_85   k35 n) hk35 ih (x1) (x2) (x3) (x4) (x5) (x6) (x6) ((v6) + (v9)) M10 r h) (by decide)
theorem R_yardsOf_35_c     : ∀ (n : Nat) (x1 : Int) (x2 : Int) (x3 : Int) (x4 : Int) (M : am_M) (r : Int × am_M), R_yardsOf_35    n x1 x2 x3 x4 M = some r → Ch [73, 90, 91, 123] M r.2
  | 0, _, _, _, _, M, r, h => by cases h
  | n + 1, x1, x2, x3, x4, M, r, h => by
    have ih := R_yardsOf_35_c     n
    have hC : Ch [73, 90, 91, 123] M M := Ch.rf
    obtain ⟨hR, ⟨hc, h⟩ | ⟨hc, h⟩⟩ := c_ge_i h
    · skip
      cases h
      exact hC
    · skip
      obtain ⟨hc, v1, ev, h⟩ := rd_i h
      obtain ⟨hc, v2, ev, h⟩ := rd_i h
      obtain ⟨hc, v3, ev, h⟩ := rd_i h
      obtain ⟨hc, v4, ev, h⟩ := rd_i h
      obtain ⟨v5, hv, h⟩ := ob_i h
      exact hC.tr (R_yardsOf_85_c   (R_yardsOf_35    n) ih am_big (x1) (x2) ((x3) + (v5)) (x4) (v1) (0) M r h) (by decide)
theorem R_yardsOf_2_c     : ∀ (n : Nat) (x1 : Int) (x2 : Int) (x3 : Int) (M : am_M) (r : Int × am_M), R_yardsOf_2    n x1 x2 x3 M = some r → Ch [73, 90, 91, 123] M r.2
  | 0, _, _, _, M, r, h => by cases h
  | n + 1, x1, x2, x3, M, r, h => by
    have ih := R_yardsOf_2_c     n
    have hC : Ch [73, 90, 91, 123] M M := Ch.rf
    obtain ⟨hR, ⟨hc, h⟩ | ⟨hc, h⟩⟩ := c_ge_i h
    · skip
      exact hC.tr (R_yardsOf_35_c     am_big (x1) (x2) (0) (0) M r h) (by decide)
    · skip
      obtain ⟨hc, v1, ev, h⟩ := rd_i h
      obtain ⟨hc, v2, ev, h⟩ := rd_i h
      obtain ⟨hc, M3, eM, h⟩ := wa_i h
      have hC := hC.up (by decide) eM
      exact hC.tr (ih (x1) (x2) ((x3) + (1)) M3 r h) (by decide)
theorem R_yardsOf_c     (x1 : Int) (x2 : Int) (M : am_M) (r : Int × am_M) (h : R_yardsOf    x1 x2 M = some r) : Ch [73, 90, 91, 123] M r.2 := by
  have hC : Ch [73, 90, 91, 123] M M := Ch.rf
  exact hC.tr (R_yardsOf_2_c     am_big (x1) (x2) (0) M r h) (by decide)
theorem R_keepsRow_2_c     : ∀ (n : Nat) (x1 : Int) (x2 : Int) (M : am_M) (r : am_M), R_keepsRow_2    n x1 x2 M = some r → Ch [122] M r
  | 0, _, _, M, r, h => by cases h
  | n + 1, x1, x2, M, r, h => by
    have ih := R_keepsRow_2_c     n
    have hC : Ch [122] M M := Ch.rf
    obtain ⟨hR, ⟨hc, h⟩ | ⟨hc, h⟩⟩ := c_ge_i h
    · skip
      cases h
      exact hC
    · skip
      obtain ⟨hc, v1, ev, h⟩ := rd_i h
      obtain ⟨hc, M2, eM, h⟩ := wa_i h
      have hC := hC.up (by decide) eM
      exact hC.tr (ih (x1) ((x2) + (1)) M2 r h) (by decide)
theorem R_keepsRow_c     (x1 : Int) (M : am_M) (r : am_M) (h : R_keepsRow    x1 M = some r) : Ch [122] M r := by
  have hC : Ch [122] M M := Ch.rf
  exact hC.tr (R_keepsRow_2_c     am_big (x1) (0) M r h) (by decide)
theorem R_byTurns_69_c      (M : am_M) (r : Int × am_M) (h : R_byTurns_69     M = some r) : Ch [73, 90, 91, 120, 121, 122, 123] M r.2 := by
  have hC : Ch [73, 90, 91, 120, 121, 122, 123] M M := Ch.rf
  cases h
  exact hC
theorem R_byTurns_168_c   (k120 : Int → Int → Int → Int → Int → am_M → Option (Int × am_M)) (hk120 : ∀ (x1 : Int) (x3 : Int) (x4 : Int) (x5 : Int) (x6 : Int) (M : am_M) (r : Int × am_M), k120 x1 x3 x4 x5 x6 M = some r → Ch [73, 90, 91, 120, 121, 122, 123] M r.2) (x1 : Int) (x3 : Int) (x4 : Int) (x5 : Int) (x6 : Int) (M : am_M) (r : Int × am_M) (h : R_byTurns_168   k120 x1 x3 x4 x5 x6 M = some r) : Ch [73, 90, 91, 120, 121, 122, 123] M r.2 := by
  have hC : Ch [73, 90, 91, 120, 121, 122, 123] M M := Ch.rf
  exact hC.tr (hk120 (x1) (x3) (x4) (x5) ((x6) + (1)) M r h) (by decide)
theorem R_byTurns_196_c     (s0 : Int) (M : am_M) (r : Int × am_M) (h : R_byTurns_196    s0 M = some r) : Ch [73, 90, 91, 120, 121, 122, 123] M r.2 := by
  have hC : Ch [73, 90, 91, 120, 121, 122, 123] M M := Ch.rf
  cases h
  exact hC
theorem R_byTurns_120_c     : ∀ (n : Nat) (x1 : Int) (x3 : Int) (x4 : Int) (x5 : Int) (x6 : Int) (M : am_M) (r : Int × am_M), R_byTurns_120    n x1 x3 x4 x5 x6 M = some r → Ch [73, 90, 91, 120, 121, 122, 123] M r.2
  | 0, _, _, _, _, _, M, r, h => by cases h
  | n + 1, x1, x3, x4, x5, x6, M, r, h => by
    have ih := R_byTurns_120_c     n
    have hC : Ch [73, 90, 91, 120, 121, 122, 123] M M := Ch.rf
    obtain ⟨v1, hv, h⟩ := ob_i h
    obtain ⟨hR, ⟨hc, h⟩ | ⟨hc, h⟩⟩ := c_ge_i h
    · skip
      obtain ⟨hR, ⟨hc, h⟩ | ⟨hc, h⟩⟩ := c_ne_i h
      · skip
        obtain ⟨hc, v2, ev, h⟩ := rd_i h
        obtain ⟨hc, v3, ev, h⟩ := rd_i h
        exact hC.tr (R_byTurns_196_c     (v3) M r h) (by decide)
      · skip
        exact hC.tr (R_byTurns_196_c     (x5) M r h) (by decide)
    · skip
      obtain ⟨M4, hv, h⟩ := ob_i h
      have hC := hC.tr (R_opensRow_c (x6) (x1) (x4) M _ hv) (by decide)
      obtain ⟨v5, M6, hv, h⟩ := oc_i h
      have hC := hC.tr (R_yardsOf_c (x1) (x4) M4 _ hv) (by decide)
      obtain ⟨hR, ⟨hc, h⟩ | ⟨hc, h⟩⟩ := c_gt_i h
      · skip
        obtain ⟨M7, hv, h⟩ := ob_i h
        have hC := hC.tr (R_keepsRow_c (x1) M6 _ hv) (by decide)
        exact hC.tr (R_byTurns_168_c   (R_byTurns_120    n) ih (x1) (x3) (x4) (v5) (x6) M7 r h) (by decide)
      · skip
        exact hC.tr (R_byTurns_168_c   (R_byTurns_120    n) ih (x1) (x3) (x4) (x5) (x6) M6 r h) (by decide)
theorem R_byTurns_108_c   (k77 : Int → Int → Int → Int → Int → am_M → Option (Int × am_M)) (hk77 : ∀ (x1 : Int) (x2 : Int) (x3 : Int) (x4 : Int) (x5 : Int) (M : am_M) (r : Int × am_M), k77 x1 x2 x3 x4 x5 M = some r → Ch [73, 90, 91, 120, 121, 122, 123] M r.2) (x1 : Int) (x2 : Int) (x3 : Int) (x4 : Int) (x5 : Int) (M : am_M) (r : Int × am_M) (h : R_byTurns_108   k77 x1 x2 x3 x4 x5 M = some r) : Ch [73, 90, 91, 120, 121, 122, 123] M r.2 := by
  have hC : Ch [73, 90, 91, 120, 121, 122, 123] M M := Ch.rf
  exact hC.tr (hk77 (x1) (x2) (x3) (x4) ((x5) + (1)) M r h) (by decide)
theorem R_byTurns_77_c     : ∀ (n : Nat) (x1 : Int) (x2 : Int) (x3 : Int) (x4 : Int) (x5 : Int) (M : am_M) (r : Int × am_M), R_byTurns_77    n x1 x2 x3 x4 x5 M = some r → Ch [73, 90, 91, 120, 121, 122, 123] M r.2
  | 0, _, _, _, _, _, M, r, h => by cases h
  | n + 1, x1, x2, x3, x4, x5, M, r, h => by
    have ih := R_byTurns_77_c     n
    have hC : Ch [73, 90, 91, 120, 121, 122, 123] M M := Ch.rf
    obtain ⟨hR, ⟨hc, h⟩ | ⟨hc, h⟩⟩ := c_ge_i h
    · skip
      exact hC.tr (R_byTurns_120_c     am_big (x1) (x3) (x4) (-1) (0) M r h) (by decide)
    · skip
      obtain ⟨v1, hv, h⟩ := ob_i h
      obtain ⟨hR, ⟨hc, h⟩ | ⟨hc, h⟩⟩ := c_ne_i h
      · skip
        obtain ⟨hc, M2, eM, h⟩ := wa_i h
        have hC := hC.up (by decide) eM
        exact hC.tr (R_byTurns_108_c   (R_byTurns_77    n) ih (x1) (x2) (x3) ((x4) + (1)) (x5) M2 r h) (by decide)
      · skip
        exact hC.tr (R_byTurns_108_c   (R_byTurns_77    n) ih (x1) (x2) (x3) (x4) (x5) M r h) (by decide)
theorem R_byTurns_71_c     (x1 : Int) (x2 : Int) (x3 : Int) (M : am_M) (r : Int × am_M) (h : R_byTurns_71    x1 x2 x3 M = some r) : Ch [73, 90, 91, 120, 121, 122, 123] M r.2 := by
  have hC : Ch [73, 90, 91, 120, 121, 122, 123] M M := Ch.rf
  exact hC.tr (R_byTurns_77_c     am_big (x1) (x2) (x3) (0) (0) M r h) (by decide)
theorem R_byTurns_c     (x1 : Int) (x2 : Int) (x3 : Int) (M : am_M) (r : Int × am_M) (h : R_byTurns    x1 x2 x3 M = some r) : Ch [73, 90, 91, 120, 121, 122, 123] M r.2 := by
  have hC : Ch [73, 90, 91, 120, 121, 122, 123] M M := Ch.rf
  obtain ⟨hc, h⟩ := ck_i h
  obtain ⟨v1, hv, h⟩ := ob_i h
  obtain ⟨hR, ⟨hc, h⟩ | ⟨hc, h⟩⟩ := c_eq_i h
  · skip
    exact hC.tr (R_byTurns_69_c      M r h) (by decide)
  · skip
    obtain ⟨hc, h⟩ := ck_i h
    obtain ⟨v2, hv, h⟩ := ob_i h
    obtain ⟨hR, ⟨hc, h⟩ | ⟨hc, h⟩⟩ := c_eq_i h
    · skip
      exact hC.tr (R_byTurns_69_c      M r h) (by decide)
    · skip
      obtain ⟨v3, hv, h⟩ := ob_i h
      obtain ⟨hc, h⟩ := ck_i h
      obtain ⟨v4, hv, h⟩ := ob_i h
      obtain ⟨hR, ⟨hc, h⟩ | ⟨hc, h⟩⟩ := c_eq_i h
      · skip
        exact hC.tr (R_byTurns_69_c      M r h) (by decide)
      · skip
        obtain ⟨v5, hv, h⟩ := ob_i h
        obtain ⟨hR, ⟨hc, h⟩ | ⟨hc, h⟩⟩ := c_ne_i h
        · skip
          exact hC.tr (R_byTurns_69_c      M r h) (by decide)
        · skip
          obtain ⟨hR, ⟨hc, h⟩ | ⟨hc, h⟩⟩ := c_eq_i h
          · skip
            exact hC.tr (R_byTurns_71_c     (x1) (x2) (x3) M r h) (by decide)
          · skip
            obtain ⟨hc, h⟩ := ck_i h
            obtain ⟨hc, h⟩ := ck_i h
            obtain ⟨v6, hv, h⟩ := ob_i h
            obtain ⟨hR, ⟨hc, h⟩ | ⟨hc, h⟩⟩ := c_ne_i h
            · skip
              exact hC.tr (R_byTurns_71_c     (x1) (x2) (x3) M r h) (by decide)
            · skip
              exact hC.tr (R_byTurns_69_c      M r h) (by decide)
theorem R_plannedFor_62_c     (x1 : Int) (x2 : Int) (x3 : Int) (x4 : Int) (x7 : Int) (s0 : Int) (M : am_M) (r : Int × am_M) (h : R_plannedFor_62    x1 x2 x3 x4 x7 s0 M = some r) : Ch [73, 90, 91] M r.2 := by
  have hC : Ch [73, 90, 91] M M := Ch.rf
  obtain ⟨v1, M2, hv, h⟩ := oc_i h
  have hC := hC.tr (R_cutting_c (x1) (x4) M _ hv) (by decide)
  obtain ⟨v3, M4, hv, h⟩ := oc_i h
  have hC := hC.tr (R_walking_c (x1) (x4) (x7) (1) ((M2 73 45) + (x3)) M2 _ hv) (by decide)
  obtain ⟨v5, M6, hv, h⟩ := oc_i h
  have hC := hC.tr (R_walking_c (x1) (x4) (x7) (0) ((M4 73 45) + (x3)) M4 _ hv) (by decide)
  cases h
  exact hC
theorem R_plannedFor_6_c     : ∀ (n : Nat) (x1 : Int) (x2 : Int) (x3 : Int) (x4 : Int) (x5 : Int) (x6 : Int) (x7 : Int) (x8 : Int) (M : am_M) (r : Int × am_M), R_plannedFor_6    n x1 x2 x3 x4 x5 x6 x7 x8 M = some r → Ch [73, 90, 91] M r.2
  | 0, _, _, _, _, _, _, _, _, M, r, h => by cases h
  | n + 1, x1, x2, x3, x4, x5, x6, x7, x8, M, r, h => by
    have ih := R_plannedFor_6_c     n
    have hC : Ch [73, 90, 91] M M := Ch.rf
    obtain ⟨hR, ⟨hc, h⟩ | ⟨hc, h⟩⟩ := c_ge_i h
    · skip
      obtain ⟨hR, ⟨hc, h⟩ | ⟨hc, h⟩⟩ := c_ne_i h
      · skip
        obtain ⟨hc, h⟩ := ck_i h
        obtain ⟨v1, ev, h⟩ := tw_i h
        exact hC.tr (R_plannedFor_62_c     (x1) (x2) (x3) (x4) (x7) (v1) M r h) (by decide)
      · skip
        exact hC.tr (R_plannedFor_62_c     (x1) (x2) (x3) (x4) (x7) (0) M r h) (by decide)
    · skip
      obtain ⟨v2, M3, hv, h⟩ := oc_i h
      have hC := hC.tr (R_growing_c (x1) (x4) (x7) ((M 73 45) + (x8)) M _ hv) (by decide)
      obtain ⟨v4, hv, h⟩ := ob_i h
      exact hC.tr (ih (x1) (x2) (x3) (x4) (x5) (x6) (v4) ((x8) + (1)) M3 r h) (by decide)
theorem R_plannedFor_c     (x1 : Int) (x2 : Int) (x3 : Int) (x4 : Int) (x5 : Int) (x6 : Int) (M : am_M) (r : Int × am_M) (h : R_plannedFor    x1 x2 x3 x4 x5 x6 M = some r) : Ch [73, 90, 91] M r.2 := by
  have hC : Ch [73, 90, 91] M M := Ch.rf
  exact hC.tr (R_plannedFor_6_c     am_big (x1) (x2) (x3) (x4) (x5) (x6) (0) (0) M r h) (by decide)
theorem R_planned_146_c   (k81 : Int → Int → Int → Int → Int → Int → Int → Int → Int → am_M → Option (Int × am_M)) (k90 : Int → Int → Int → Int → Int → Int → Int → Int → Int → Int → am_M → Option (Int × am_M)) (k100 : Int → Int → Int → Int → Int → Int → Int → Int → Int → Int → Int → am_M → Option (Int × am_M)) (hk81 : ∀ (x1 : Int) (x2 : Int) (x3 : Int) (x4 : Int) (x5 : Int) (x6 : Int) (x7 : Int) (x8 : Int) (x9 : Int) (M : am_M) (r : Int × am_M), k81 x1 x2 x3 x4 x5 x6 x7 x8 x9 M = some r → Ch [73, 90, 91] M r.2) (hk90 : ∀ (x1 : Int) (x2 : Int) (x3 : Int) (x4 : Int) (x5 : Int) (x6 : Int) (x7 : Int) (x8 : Int) (x9 : Int) (x10 : Int) (M : am_M) (r : Int × am_M), k90 x1 x2 x3 x4 x5 x6 x7 x8 x9 x10 M = some r → Ch [73, 90, 91] M r.2) (hk100 : ∀ (x1 : Int) (x2 : Int) (x3 : Int) (x4 : Int) (x5 : Int) (x6 : Int) (x7 : Int) (x8 : Int) (x9 : Int) (x10 : Int) (x11 : Int) (M : am_M) (r : Int × am_M), k100 x1 x2 x3 x4 x5 x6 x7 x8 x9 x10 x11 M = some r → Ch [73, 90, 91] M r.2) (x1 : Int) (x2 : Int) (x3 : Int) (x4 : Int) (x5 : Int) (x6 : Int) (x7 : Int) (x8 : Int) (x9 : Int) (x10 : Int) (x11 : Int) (M : am_M) (r : Int × am_M) (h : R_planned_146   k81 k90 k100 x1 x2 x3 x4 x5 x6 x7 x8 x9 x10 x11 M = some r) : Ch [73, 90, 91] M r.2 := by
  have hC : Ch [73, 90, 91] M M := Ch.rf
  exact hC.tr (hk100 (x1) (x2) (x3) (x4) (x5) (x6) (x7) (x8) (x9) (x10) ((x11) + (-2)) M r h) (by decide)
theorem R_planned_100_c   (k81 : Int → Int → Int → Int → Int → Int → Int → Int → Int → am_M → Option (Int × am_M)) (k90 : Int → Int → Int → Int → Int → Int → Int → Int → Int → Int → am_M → Option (Int × am_M)) (hk81 : ∀ (x1 : Int) (x2 : Int) (x3 : Int) (x4 : Int) (x5 : Int) (x6 : Int) (x7 : Int) (x8 : Int) (x9 : Int) (M : am_M) (r : Int × am_M), k81 x1 x2 x3 x4 x5 x6 x7 x8 x9 M = some r → Ch [73, 90, 91] M r.2) (hk90 : ∀ (x1 : Int) (x2 : Int) (x3 : Int) (x4 : Int) (x5 : Int) (x6 : Int) (x7 : Int) (x8 : Int) (x9 : Int) (x10 : Int) (M : am_M) (r : Int × am_M), k90 x1 x2 x3 x4 x5 x6 x7 x8 x9 x10 M = some r → Ch [73, 90, 91] M r.2) : ∀ (n : Nat) (x1 : Int) (x2 : Int) (x3 : Int) (x4 : Int) (x5 : Int) (x6 : Int) (x7 : Int) (x8 : Int) (x9 : Int) (x10 : Int) (x11 : Int) (M : am_M) (r : Int × am_M), R_planned_100   k81 k90 n x1 x2 x3 x4 x5 x6 x7 x8 x9 x10 x11 M = some r → Ch [73, 90, 91] M r.2
  | 0, _, _, _, _, _, _, _, _, _, _, _, M, r, h => by cases h
  | n + 1, x1, x2, x3, x4, x5, x6, x7, x8, x9, x10, x11, M, r, h => by
    have ih := R_planned_100_c   k81 k90 hk81 hk90 n
    have hC : Ch [73, 90, 91] M M := Ch.rf
    obtain ⟨hR, ⟨hc, h⟩ | ⟨hc, h⟩⟩ := c_lt_i h
    · skip
      exact hC.tr (hk90 (x1) (x2) (x3) (x4) (x5) (x6) (x7) (x8) (x9) ((x10) + (1)) M r h) (by decide)
    · skip
      obtain ⟨v1, M2, hv, h⟩ := oc_i h
      have hC := hC.tr (R_plannedFor_c (x1) (x2) (x3) (x9) (x10) (x11) M _ hv) (by decide)
      obtain ⟨hR, ⟨hc, h⟩ | ⟨hc, h⟩⟩ := c_lt_i h
      · skip
        exact hC.tr (R_planned_146_c   k81 k90 (R_planned_100   k81 k90 n) hk81 hk90 ih (x1) (x2) (x3) (x4) (v1) (x9) (x10) (x11) (x9) (x10) (x11) M2 r h) (by decide)
      · skip
        exact hC.tr (R_planned_146_c   k81 k90 (R_planned_100   k81 k90 n) hk81 hk90 ih (x1) (x2) (x3) (x4) (x5) (x6) (x7) (x8) (x9) (x10) (x11) M2 r h) (by decide)
theorem R_planned_90_c   (k81 : Int → Int → Int → Int → Int → Int → Int → Int → Int → am_M → Option (Int × am_M)) (hk81 : ∀ (x1 : Int) (x2 : Int) (x3 : Int) (x4 : Int) (x5 : Int) (x6 : Int) (x7 : Int) (x8 : Int) (x9 : Int) (M : am_M) (r : Int × am_M), k81 x1 x2 x3 x4 x5 x6 x7 x8 x9 M = some r → Ch [73, 90, 91] M r.2) : ∀ (n : Nat) (x1 : Int) (x2 : Int) (x3 : Int) (x4 : Int) (x5 : Int) (x6 : Int) (x7 : Int) (x8 : Int) (x9 : Int) (x10 : Int) (M : am_M) (r : Int × am_M), R_planned_90   k81 n x1 x2 x3 x4 x5 x6 x7 x8 x9 x10 M = some r → Ch [73, 90, 91] M r.2
  | 0, _, _, _, _, _, _, _, _, _, _, M, r, h => by cases h
  | n + 1, x1, x2, x3, x4, x5, x6, x7, x8, x9, x10, M, r, h => by
    have ih := R_planned_90_c   k81 hk81 n
    have hC : Ch [73, 90, 91] M M := Ch.rf
    obtain ⟨hR, ⟨hc, h⟩ | ⟨hc, h⟩⟩ := c_ge_i h
    · skip
      exact hC.tr (hk81 (x1) (x2) (x3) (x4) (x5) (x6) (x7) (x8) ((x9) + (1)) M r h) (by decide)
    · skip
      exact hC.tr (R_planned_100_c   k81 (R_planned_90   k81 n) hk81 ih am_big (x1) (x2) (x3) (x4) (x5) (x6) (x7) (x8) (x9) (x10) (2) M r h) (by decide)
theorem R_planned_198_c     (s0 : Int) (M : am_M) (r : Int × am_M) (h : R_planned_198    s0 M = some r) : Ch [73, 90, 91] M r.2 := by
  have hC : Ch [73, 90, 91] M M := Ch.rf
  cases h
  exact hC
theorem R_planned_81_c     : ∀ (n : Nat) (x1 : Int) (x2 : Int) (x3 : Int) (x4 : Int) (x5 : Int) (x6 : Int) (x7 : Int) (x8 : Int) (x9 : Int) (M : am_M) (r : Int × am_M), R_planned_81    n x1 x2 x3 x4 x5 x6 x7 x8 x9 M = some r → Ch [73, 90, 91] M r.2
  | 0, _, _, _, _, _, _, _, _, _, M, r, h => by cases h
  | n + 1, x1, x2, x3, x4, x5, x6, x7, x8, x9, M, r, h => by
    have ih := R_planned_81_c     n
    have hC : Ch [73, 90, 91] M M := Ch.rf
    obtain ⟨hR, ⟨hc, h⟩ | ⟨hc, h⟩⟩ := c_ge_i h
    · skip
      obtain ⟨hR, ⟨hc, h⟩ | ⟨hc, h⟩⟩ := c_ne_i h
      · skip
        obtain ⟨hR, ⟨hc, h⟩ | ⟨hc, h⟩⟩ := c_ne_i h
        · skip
          obtain ⟨hR, ⟨hc, h⟩ | ⟨hc, h⟩⟩ := c_ne_i h
          · skip
            exact hC.tr (R_planned_198_c     (x8) M r h) (by decide)
          · skip
            exact hC.tr (R_planned_198_c     (x7) M r h) (by decide)
        · skip
          exact hC.tr (R_planned_198_c     (x6) M r h) (by decide)
      · skip
        exact hC.tr (R_planned_198_c     (x5) M r h) (by decide)
    · skip
      exact hC.tr (R_planned_90_c   (R_planned_81    n) ih am_big (x1) (x2) (x3) (x4) (x5) (x6) (x7) (x8) (x9) (1) M r h) (by decide)
theorem R_planned_62_c      (M : am_M) (r : Int × am_M) (h : R_planned_62     M = some r) : Ch [73, 90, 91] M r.2 := by
  have hC : Ch [73, 90, 91] M M := Ch.rf
  cases h
  exact hC
theorem R_planned_c     (x1 : Int) (x2 : Int) (x3 : Int) (x4 : Int) (M : am_M) (r : Int × am_M) (h : R_planned    x1 x2 x3 x4 M = some r) : Ch [73, 90, 91] M r.2 := by
  have hC : Ch [73, 90, 91] M M := Ch.rf
  obtain ⟨hc, h⟩ := ck_i h
  obtain ⟨v1, hv, h⟩ := ob_i h
  obtain ⟨hR, ⟨hc, h⟩ | ⟨hc, h⟩⟩ := c_eq_i h
  · skip
    exact hC.tr (R_planned_62_c      M r h) (by decide)
  · skip
    obtain ⟨hR, ⟨hc, h⟩ | ⟨hc, h⟩⟩ := c_eq_i h
    · skip
      exact hC.tr (R_planned_62_c      M r h) (by decide)
    · skip
      obtain ⟨hc, h⟩ := ck_i h
      obtain ⟨v2, hv, h⟩ := ob_i h
      obtain ⟨hR, ⟨hc, h⟩ | ⟨hc, h⟩⟩ := c_eq_i h
      · skip
        exact hC.tr (R_planned_62_c      M r h) (by decide)
      · skip
        obtain ⟨hc, h⟩ := ck_i h
        obtain ⟨v3, hv, h⟩ := ob_i h
        obtain ⟨hR, ⟨hc, h⟩ | ⟨hc, h⟩⟩ := c_eq_i h
        · skip
          exact hC.tr (R_planned_62_c      M r h) (by decide)
        · skip
          obtain ⟨hc, h⟩ := ck_i h
          obtain ⟨v4, hv, h⟩ := ob_i h
          obtain ⟨hR, ⟨hc, h⟩ | ⟨hc, h⟩⟩ := c_eq_i h
          · skip
            exact hC.tr (R_planned_62_c      M r h) (by decide)
          · skip
            obtain ⟨hR, ⟨hc, h⟩ | ⟨hc, h⟩⟩ := c_ne_i h
            · skip
              exact hC.tr (R_planned_81_c     am_big (x1) (x2) (x3) (x4) (1000000000) (0) (0) (0) (1) M r h) (by decide)
            · skip
              exact hC.tr (R_planned_62_c      M r h) (by decide)
theorem R_leg_183_c      (M : am_M) (r : am_M) (h : R_leg_183     M = some r) : Ch [73] M r := by
  have hC : Ch [73] M M := Ch.rf
  cases h
  exact hC
theorem R_leg_130_c     (x2 : Int) (x3 : Int) (s1 : Int) (s2 : Int) (M : am_M) (r : am_M) (h : R_leg_130    x2 x3 s1 s2 M = some r) : Ch [73] M r := by
  have hC : Ch [73] M M := Ch.rf
  obtain ⟨M1, eM, h⟩ := fw_i h
  have hC := hC.up (by decide) eM
  obtain ⟨hc, h⟩ := ck_i h
  obtain ⟨v2, ev, h⟩ := tw_i h
  obtain ⟨M3, eM, h⟩ := fw_i h
  have hC := hC.up (by decide) eM
  exact hC.tr (R_leg_183_c      M3 r h) (by decide)
theorem R_leg_112_c     (x2 : Int) (x3 : Int) (x4 : Int) (M : am_M) (r : am_M) (h : R_leg_112    x2 x3 x4 M = some r) : Ch [73] M r := by
  have hC : Ch [73] M M := Ch.rf
  obtain ⟨hR, ⟨hc, h⟩ | ⟨hc, h⟩⟩ := c_ne_i h
  · skip
    exact hC.tr (R_leg_130_c     (x2) (x3) (M 73 84) (-(x3)) M r h) (by decide)
  · skip
    exact hC.tr (R_leg_130_c     (x2) (x3) (M 73 84) (x3) M r h) (by decide)
theorem R_leg_167_c     (x2 : Int) (x3 : Int) (s1 : Int) (s2 : Int) (M : am_M) (r : am_M) (h : R_leg_167    x2 x3 s1 s2 M = some r) : Ch [73] M r := by
  have hC : Ch [73] M M := Ch.rf
  obtain ⟨M1, eM, h⟩ := fw_i h
  have hC := hC.up (by decide) eM
  obtain ⟨hc, h⟩ := ck_i h
  obtain ⟨v2, ev, h⟩ := tw_i h
  obtain ⟨M3, eM, h⟩ := fw_i h
  have hC := hC.up (by decide) eM
  exact hC.tr (R_leg_183_c      M3 r h) (by decide)
theorem R_leg_88_c     (x2 : Int) (x3 : Int) (x4 : Int) (M : am_M) (r : am_M) (h : R_leg_88    x2 x3 x4 M = some r) : Ch [73] M r := by
  have hC : Ch [73] M M := Ch.rf
  obtain ⟨M1, eM, h⟩ := fw_i h
  have hC := hC.up (by decide) eM
  obtain ⟨hR, ⟨hc, h⟩ | ⟨hc, h⟩⟩ := c_eq_i h
  · skip
    exact hC.tr (R_leg_112_c     (x2) (x3) (x4) M1 r h) (by decide)
  · skip
    obtain ⟨hR, ⟨hc, h⟩ | ⟨hc, h⟩⟩ := c_ne_i h
    · skip
      obtain ⟨hR, ⟨hc, h⟩ | ⟨hc, h⟩⟩ := c_ne_i h
      · skip
        exact hC.tr (R_leg_167_c     (x2) (x3) (M1 73 85) (-(x3)) M1 r h) (by decide)
      · skip
        exact hC.tr (R_leg_167_c     (x2) (x3) (M1 73 85) (x3) M1 r h) (by decide)
    · skip
      exact hC.tr (R_leg_112_c     (x2) (x3) (x4) M1 r h) (by decide)
theorem R_leg_37_c     (x2 : Int) (s0 : Int) (M : am_M) (r : am_M) (h : R_leg_37    x2 s0 M = some r) : Ch [73] M r := by
  have hC : Ch [73] M M := Ch.rf
  obtain ⟨v1, hv, h⟩ := ob_i h
  obtain ⟨v2, hv, h⟩ := ob_i h
  obtain ⟨hR, ⟨hc, h⟩ | ⟨hc, h⟩⟩ := c_eq_i h
  · skip
    exact hC.tr (R_leg_88_c     (x2) (s0) (v1) M r h) (by decide)
  · skip
    obtain ⟨hR, ⟨hc, h⟩ | ⟨hc, h⟩⟩ := c_eq_i h
    · skip
      exact hC.tr (R_leg_88_c     (x2) (s0) (v1) M r h) (by decide)
    · skip
      obtain ⟨hR, ⟨hc, h⟩ | ⟨hc, h⟩⟩ := c_eq_i h
      · skip
        exact hC.tr (R_leg_88_c     (x2) (s0) (v1) M r h) (by decide)
      · skip
        obtain ⟨hR, ⟨hc, h⟩ | ⟨hc, h⟩⟩ := c_eq_i h
        · skip
          exact hC.tr (R_leg_88_c     (x2) (s0) (v1) M r h) (by decide)
        · skip
          obtain ⟨hR, ⟨hc, h⟩ | ⟨hc, h⟩⟩ := c_eq_i h
          · skip
            exact hC.tr (R_leg_88_c     (x2) (s0) (v1) M r h) (by decide)
          · skip
            obtain ⟨M3, hv, h⟩ := ob_i h
            have hC := hC.tr (R_wrongs_c (1) (M 73 3) M _ hv) (by decide)
            exact hC.tr (R_leg_88_c     (x2) (s0) (v1) M3 r h) (by decide)
theorem R_leg_22_c     (x2 : Int) (M : am_M) (r : am_M) (h : R_leg_22    x2 M = some r) : Ch [73] M r := by
  have hC : Ch [73] M M := Ch.rf
  obtain ⟨v1, hv, h⟩ := ob_i h
  obtain ⟨hR, ⟨hc, h⟩ | ⟨hc, h⟩⟩ := c_eq_i h
  · skip
    exact hC.tr (R_leg_37_c     (x2) (0) M r h) (by decide)
  · skip
    obtain ⟨v2, M3, hv, h⟩ := oc_i h
    have hC := hC.tr (R_number_c M _ hv) (by decide)
    exact hC.tr (R_leg_37_c     (x2) (v2) M3 r h) (by decide)
theorem R_leg_c     (x1 : Int) (x2 : Int) (M : am_M) (r : am_M) (h : R_leg    x1 x2 M = some r) : Ch [73] M r := by
  have hC : Ch [73] M M := Ch.rf
  obtain ⟨v1, hv, h⟩ := ob_i h
  obtain ⟨hR, ⟨hc, h⟩ | ⟨hc, h⟩⟩ := c_eq_i h
  · skip
    exact hC.tr (R_leg_22_c     (x2) M r h) (by decide)
  · skip
    obtain ⟨hR, ⟨hc, h⟩ | ⟨hc, h⟩⟩ := c_ne_i h
    · skip
      exact hC.tr (R_leg_22_c     (x2) M r h) (by decide)
    · skip
      obtain ⟨M2, hv, h⟩ := ob_i h
      have hC := hC.tr (R_wrongs_c (4) (M 73 3) M _ hv) (by decide)
      exact hC.tr (R_leg_22_c     (x2) M2 r h) (by decide)
theorem R_paces_105_c     (x3 : Int) (M : am_M) (r : Int × am_M) (h : R_paces_105    x3 M = some r) : Ch [73] M r.2 := by
  have hC : Ch [73] M M := Ch.rf
  obtain ⟨hR, ⟨hc, h⟩ | ⟨hc, h⟩⟩ := c_ge_i h
  · skip
    obtain ⟨hR, h⟩ := ck_i h
    rcases if_i h with ⟨hq, h⟩ | ⟨hq0, h⟩
    · skip
      cases h
      exact hC
    · skip
      rcases if_i h with ⟨hq, h⟩ | ⟨hq1, h⟩
      · skip
        cases h
        exact hC
      · skip
        rcases if_i h with ⟨hq, h⟩ | ⟨hq2, h⟩
        · skip
          cases h
          exact hC
        · skip
          rcases if_i h with ⟨hq, h⟩ | ⟨hq3, h⟩
          · skip
            cases h
            exact hC
          · skip
            · skip
              cases h
              exact hC
  · skip
    cases h
    exact hC
theorem R_paces_74_c     : ∀ (n : Nat) (x2 : Int) (x3 : Int) (x4 : Int) (M : am_M) (r : Int × am_M), R_paces_74    n x2 x3 x4 M = some r → Ch [73] M r.2
  | 0, _, _, _, M, r, h => by cases h
  | n + 1, x2, x3, x4, M, r, h => by
    have ih := R_paces_74_c     n
    have hC : Ch [73] M M := Ch.rf
    obtain ⟨v1, hv, h⟩ := ob_i h
    obtain ⟨hR, ⟨hc, h⟩ | ⟨hc, h⟩⟩ := c_eq_i h
    · skip
      exact hC.tr (R_paces_105_c     (x3) M r h) (by decide)
    · skip
      obtain ⟨hR, ⟨hc, h⟩ | ⟨hc, h⟩⟩ := c_ge_i h
      · skip
        exact hC.tr (R_paces_105_c     (x3) M r h) (by decide)
      · skip
        obtain ⟨M2, hv, h⟩ := ob_i h
        have hC := hC.tr (R_leg_c (x4) (x2) M _ hv) (by decide)
        exact hC.tr (ih (x2) (x3) ((x4) + (1)) M2 r h) (by decide)
theorem R_paces_44_c      (M : am_M) (r : Int × am_M) (h : R_paces_44     M = some r) : Ch [73] M r.2 := by
  have hC : Ch [73] M M := Ch.rf
  cases h
  exact hC
theorem R_paces_c     (x1 : Int) (x2 : Int) (x3 : Int) (M : am_M) (r : Int × am_M) (h : R_paces    x1 x2 x3 M = some r) : Ch [73] M r.2 := by
  have hC : Ch [73] M M := Ch.rf
  obtain ⟨hc, h⟩ := ck_i h
  obtain ⟨v1, hv, h⟩ := ob_i h
  obtain ⟨hR, ⟨hc, h⟩ | ⟨hc, h⟩⟩ := c_eq_i h
  · skip
    exact hC.tr (R_paces_44_c      M r h) (by decide)
  · skip
    obtain ⟨hc, h⟩ := ck_i h
    obtain ⟨v2, hv, h⟩ := ob_i h
    obtain ⟨hR, ⟨hc, h⟩ | ⟨hc, h⟩⟩ := c_eq_i h
    · skip
      exact hC.tr (R_paces_44_c      M r h) (by decide)
    · skip
      obtain ⟨hc, h⟩ := ck_i h
      obtain ⟨v3, hv, h⟩ := ob_i h
      obtain ⟨hR, ⟨hc, h⟩ | ⟨hc, h⟩⟩ := c_eq_i h
      · skip
        exact hC.tr (R_paces_44_c      M r h) (by decide)
      · skip
        obtain ⟨hR, ⟨hc, h⟩ | ⟨hc, h⟩⟩ := c_le_i h
        · skip
          obtain ⟨M4, hv, h⟩ := ob_i h
          have hC := hC.tr (R_begins_c (x1) M _ hv) (by decide)
          obtain ⟨M5, eM, h⟩ := fw_i h
          have hC := hC.up (by decide) eM
          obtain ⟨M6, eM, h⟩ := fw_i h
          have hC := hC.up (by decide) eM
          obtain ⟨M7, eM, h⟩ := fw_i h
          have hC := hC.up (by decide) eM
          obtain ⟨M8, eM, h⟩ := fw_i h
          have hC := hC.up (by decide) eM
          exact hC.tr (R_paces_74_c     am_big (x2) (x3) (0) M8 r h) (by decide)
        · skip
          exact hC.tr (R_paces_44_c      M r h) (by decide)
theorem R_seek_22_c      (M : am_M) (r : Int × am_M) (h : R_seek_22     M = some r) : Ch [73, 121, 122] M r.2 := by
  have hC : Ch [73, 121, 122] M M := Ch.rf
  cases h
  exact hC
theorem R_seek_178_c     (s0 : Int) (M : am_M) (r : Int × am_M) (h : R_seek_178    s0 M = some r) : Ch [73, 121, 122] M r.2 := by
  have hC : Ch [73, 121, 122] M M := Ch.rf
  cases h
  exact hC
theorem R_seek_156_c   (k107 : Int → Int → Int → Int → am_M → Option (Int × am_M)) (hk107 : ∀ (x1 : Int) (x2 : Int) (x3 : Int) (x4 : Int) (M : am_M) (r : Int × am_M), k107 x1 x2 x3 x4 M = some r → Ch [73, 121, 122] M r.2) (x1 : Int) (x2 : Int) (x3 : Int) (x4 : Int) (M : am_M) (r : Int × am_M) (h : R_seek_156   k107 x1 x2 x3 x4 M = some r) : Ch [73, 121, 122] M r.2 := by
  have hC : Ch [73, 121, 122] M M := Ch.rf
  exact hC.tr (hk107 (x1) (x2) (x3) ((x4) + (1)) M r h) (by decide)
theorem R_seek_107_c     : ∀ (n : Nat) (x1 : Int) (x2 : Int) (x3 : Int) (x4 : Int) (M : am_M) (r : Int × am_M), R_seek_107    n x1 x2 x3 x4 M = some r → Ch [73, 121, 122] M r.2
  | 0, _, _, _, _, M, r, h => by cases h
  | n + 1, x1, x2, x3, x4, M, r, h => by
    have ih := R_seek_107_c     n
    have hC : Ch [73, 121, 122] M M := Ch.rf
    obtain ⟨v1, hv, h⟩ := ob_i h
    obtain ⟨hR, ⟨hc, h⟩ | ⟨hc, h⟩⟩ := c_ge_i h
    · skip
      obtain ⟨hR, ⟨hc, h⟩ | ⟨hc, h⟩⟩ := c_ne_i h
      · skip
        obtain ⟨hc, v2, ev, h⟩ := rd_i h
        exact hC.tr (R_seek_178_c     (v2) M r h) (by decide)
      · skip
        exact hC.tr (R_seek_178_c     (x3) M r h) (by decide)
    · skip
      obtain ⟨M3, hv, h⟩ := ob_i h
      have hC := hC.tr (R_opensRow_c (x4) (x1) (x1) M _ hv) (by decide)
      obtain ⟨v4, hv, h⟩ := ob_i h
      obtain ⟨hR, ⟨hc, h⟩ | ⟨hc, h⟩⟩ := c_eq_i h
      · skip
        exact hC.tr (R_seek_156_c   (R_seek_107    n) ih (x1) (x2) (x3) (x4) M3 r h) (by decide)
      · skip
        obtain ⟨v5, hv, h⟩ := ob_i h
        obtain ⟨hR, ⟨hc, h⟩ | ⟨hc, h⟩⟩ := c_lt_i h
        · skip
          obtain ⟨v6, hv, h⟩ := ob_i h
          obtain ⟨M7, hv, h⟩ := ob_i h
          have hC := hC.tr (R_keepsRow_c (x1) M3 _ hv) (by decide)
          exact hC.tr (R_seek_156_c   (R_seek_107    n) ih (x1) (x2) (v6) (x4) M7 r h) (by decide)
        · skip
          exact hC.tr (R_seek_156_c   (R_seek_107    n) ih (x1) (x2) (x3) (x4) M3 r h) (by decide)
theorem R_seek_100_c     (x1 : Int) (x2 : Int) (M : am_M) (r : Int × am_M) (h : R_seek_100    x1 x2 M = some r) : Ch [73, 121, 122] M r.2 := by
  have hC : Ch [73, 121, 122] M M := Ch.rf
  exact hC.tr (R_seek_107_c     am_big (x1) (x2) (1000000000) (0) M r h) (by decide)
theorem R_seek_69_c      (M : am_M) (r : Int × am_M) (h : R_seek_69     M = some r) : Ch [73, 121, 122] M r.2 := by
  have hC : Ch [73, 121, 122] M M := Ch.rf
  cases h
  exact hC
theorem R_seek_31_c     : ∀ (n : Nat) (x1 : Int) (x2 : Int) (x3 : Int) (M : am_M) (r : Int × am_M), R_seek_31    n x1 x2 x3 M = some r → Ch [73, 121, 122] M r.2
  | 0, _, _, _, M, r, h => by cases h
  | n + 1, x1, x2, x3, M, r, h => by
    have ih := R_seek_31_c     n
    have hC : Ch [73, 121, 122] M M := Ch.rf
    obtain ⟨hR, ⟨hc, h⟩ | ⟨hc, h⟩⟩ := c_ge_i h
    · skip
      obtain ⟨hR, ⟨hc, h⟩ | ⟨hc, h⟩⟩ := c_eq_i h
      · skip
        exact hC.tr (R_seek_100_c     (x1) (x2) M r h) (by decide)
      · skip
        obtain ⟨hc, h⟩ := ck_i h
        obtain ⟨hc, h⟩ := ck_i h
        obtain ⟨v1, hv, h⟩ := ob_i h
        obtain ⟨hR, ⟨hc, h⟩ | ⟨hc, h⟩⟩ := c_ne_i h
        · skip
          exact hC.tr (R_seek_100_c     (x1) (x2) M r h) (by decide)
        · skip
          cases h
          exact hC
    · skip
      obtain ⟨v2, hv, h⟩ := ob_i h
      obtain ⟨v3, hv, h⟩ := ob_i h
      obtain ⟨hR, ⟨hc, h⟩ | ⟨hc, h⟩⟩ := c_eq_i h
      · skip
        exact hC.tr (R_seek_69_c      M r h) (by decide)
      · skip
        obtain ⟨v4, hv, h⟩ := ob_i h
        obtain ⟨hc, h⟩ := ck_i h
        obtain ⟨v5, hv, h⟩ := ob_i h
        obtain ⟨hR, ⟨hc, h⟩ | ⟨hc, h⟩⟩ := c_ne_i h
        · skip
          exact hC.tr (ih (x1) (x2) ((x3) + (1)) M r h) (by decide)
        · skip
          exact hC.tr (R_seek_69_c      M r h) (by decide)
theorem R_seek_c     (x1 : Int) (x2 : Int) (M : am_M) (r : Int × am_M) (h : R_seek    x1 x2 M = some r) : Ch [73, 121, 122] M r.2 := by
  have hC : Ch [73, 121, 122] M M := Ch.rf
  obtain ⟨hc, h⟩ := ck_i h
  obtain ⟨v1, hv, h⟩ := ob_i h
  obtain ⟨hR, ⟨hc, h⟩ | ⟨hc, h⟩⟩ := c_eq_i h
  · skip
    exact hC.tr (R_seek_22_c      M r h) (by decide)
  · skip
    obtain ⟨hR, ⟨hc, h⟩ | ⟨hc, h⟩⟩ := c_le_i h
    · skip
      obtain ⟨M2, eM, h⟩ := fw_i h
      have hC := hC.up (by decide) eM
      exact hC.tr (R_seek_31_c     am_big (x1) (x2) (0) M2 r h) (by decide)
    · skip
      exact hC.tr (R_seek_22_c      M r h) (by decide)
theorem R_fewestDays_25_c   (k2 : Int → Int → am_M → Option (Int × am_M)) (hk2 : ∀ (x1 : Int) (x2 : Int) (M : am_M) (r : Int × am_M), k2 x1 x2 M = some r → Ch [125] M r.2) (x1 : Int) (x2 : Int) (s1 : Int) (s2 : Int) (M : am_M) (r : Int × am_M) (h : R_fewestDays_25   k2 x1 x2 s1 s2 M = some r) : Ch [125] M r.2 := by
  have hC : Ch [125] M M := Ch.rf
  obtain ⟨hc, M1, eM, h⟩ := wa_i h
  have hC := hC.up (by decide) eM
  exact hC.tr (hk2 (x1) ((x2) + (1)) M1 r h) (by decide)
theorem R_fewestDays_100_c   (k34 : Int → Int → am_M → Option (Int × am_M)) (k43 : Int → Int → Int → am_M → Option (Int × am_M)) (hk34 : ∀ (x1 : Int) (x2 : Int) (M : am_M) (r : Int × am_M), k34 x1 x2 M = some r → Ch [125] M r.2) (hk43 : ∀ (x1 : Int) (x2 : Int) (x3 : Int) (M : am_M) (r : Int × am_M), k43 x1 x2 x3 M = some r → Ch [125] M r.2) (x1 : Int) (x2 : Int) (x3 : Int) (M : am_M) (r : Int × am_M) (h : R_fewestDays_100   k34 k43 x1 x2 x3 M = some r) : Ch [125] M r.2 := by
  have hC : Ch [125] M M := Ch.rf
  exact hC.tr (hk43 (x1) (x2) ((x3) + (1)) M r h) (by decide)
theorem R_fewestDays_43_c   (k34 : Int → Int → am_M → Option (Int × am_M)) (hk34 : ∀ (x1 : Int) (x2 : Int) (M : am_M) (r : Int × am_M), k34 x1 x2 M = some r → Ch [125] M r.2) : ∀ (n : Nat) (x1 : Int) (x2 : Int) (x3 : Int) (M : am_M) (r : Int × am_M), R_fewestDays_43   k34 n x1 x2 x3 M = some r → Ch [125] M r.2
  | 0, _, _, _, M, r, h => by cases h
  | n + 1, x1, x2, x3, M, r, h => by
    have ih := R_fewestDays_43_c   k34 hk34 n
    have hC : Ch [125] M M := Ch.rf
    obtain ⟨hR, ⟨hc, h⟩ | ⟨hc, h⟩⟩ := c_gt_i h
    · skip
      exact hC.tr (hk34 (x1) ((x2) + (1)) M r h) (by decide)
    · skip
      obtain ⟨v1, hv, h⟩ := ob_i h
      obtain ⟨hR, ⟨hc, h⟩ | ⟨hc, h⟩⟩ := c_ge_i h
      · skip
        exact hC.tr (R_fewestDays_100_c   k34 (R_fewestDays_43   k34 n) hk34 ih (x1) (x2) (x3) M r h) (by decide)
      · skip
        obtain ⟨hc, v2, ev, h⟩ := rd_i h
        obtain ⟨hc, v3, ev, h⟩ := rd_i h
        obtain ⟨hR, ⟨hc, h⟩ | ⟨hc, h⟩⟩ := c_ge_i h
        · skip
          exact hC.tr (R_fewestDays_100_c   k34 (R_fewestDays_43   k34 n) hk34 ih (x1) (x2) (x3) M r h) (by decide)
        · skip
          obtain ⟨hc, v4, ev, h⟩ := rd_i h
          obtain ⟨hc, M5, eM, h⟩ := wa_i h
          have hC := hC.up (by decide) eM
          exact hC.tr (R_fewestDays_100_c   k34 (R_fewestDays_43   k34 n) hk34 ih (x1) (x2) (x3) M5 r h) (by decide)
theorem R_fewestDays_34_c     : ∀ (n : Nat) (x1 : Int) (x2 : Int) (M : am_M) (r : Int × am_M), R_fewestDays_34    n x1 x2 M = some r → Ch [125] M r.2
  | 0, _, _, M, r, h => by cases h
  | n + 1, x1, x2, M, r, h => by
    have ih := R_fewestDays_34_c     n
    have hC : Ch [125] M M := Ch.rf
    obtain ⟨hR, ⟨hc, h⟩ | ⟨hc, h⟩⟩ := c_ge_i h
    · skip
      obtain ⟨hc, v1, ev, h⟩ := rd_i h
      cases h
      exact hC
    · skip
      exact hC.tr (R_fewestDays_43_c   (R_fewestDays_34    n) ih am_big (x1) (x2) (0) M r h) (by decide)
theorem R_fewestDays_2_c     : ∀ (n : Nat) (x1 : Int) (x2 : Int) (M : am_M) (r : Int × am_M), R_fewestDays_2    n x1 x2 M = some r → Ch [125] M r.2
  | 0, _, _, M, r, h => by cases h
  | n + 1, x1, x2, M, r, h => by
    have ih := R_fewestDays_2_c     n
    have hC : Ch [125] M M := Ch.rf
    obtain ⟨hR, ⟨hc, h⟩ | ⟨hc, h⟩⟩ := c_ge_i h
    · skip
      exact hC.tr (R_fewestDays_34_c     am_big (x1) (1) M r h) (by decide)
    · skip
      obtain ⟨hR, ⟨hc, h⟩ | ⟨hc, h⟩⟩ := c_ne_i h
      · skip
        exact hC.tr (R_fewestDays_25_c   (R_fewestDays_2    n) ih (x1) (x2) (x2) (1000000000) M r h) (by decide)
      · skip
        exact hC.tr (R_fewestDays_25_c   (R_fewestDays_2    n) ih (x1) (x2) (x2) (0) M r h) (by decide)
theorem R_fewestDays_c     (x1 : Int) (M : am_M) (r : Int × am_M) (h : R_fewestDays    x1 M = some r) : Ch [125] M r.2 := by
  have hC : Ch [125] M M := Ch.rf
  exact hC.tr (R_fewestDays_2_c     am_big (x1) (0) M r h) (by decide)
theorem R_daysOfBlaze_51_c   (k8 : Int → Int → Int → Int → am_M → Option (Int × am_M)) (hk8 : ∀ (x1 : Int) (x2 : Int) (x4 : Int) (x5 : Int) (M : am_M) (r : Int × am_M), k8 x1 x2 x4 x5 M = some r → Ch [73, 90, 91] M r.2) (x1 : Int) (x2 : Int) (x4 : Int) (x5 : Int) (M : am_M) (r : Int × am_M) (h : R_daysOfBlaze_51   k8 x1 x2 x4 x5 M = some r) : Ch [73, 90, 91] M r.2 := by
  have hC : Ch [73, 90, 91] M M := Ch.rf
  obtain ⟨v1, hv, h⟩ := ob_i h
  obtain ⟨v2, hv, h⟩ := ob_i h
  obtain ⟨v3, M4, hv, h⟩ := oc_i h
  have hC := hC.tr (R_growing_c (v1) (v2) (x4) (M 73 45) M _ hv) (by decide)
  obtain ⟨v5, hv, h⟩ := ob_i h
  exact hC.tr (hk8 (x1) (x2) (v5) ((x5) + (1)) M4 r h) (by decide)
theorem R_daysOfBlaze_8_c     : ∀ (n : Nat) (x1 : Int) (x2 : Int) (x4 : Int) (x5 : Int) (M : am_M) (r : Int × am_M), R_daysOfBlaze_8    n x1 x2 x4 x5 M = some r → Ch [73, 90, 91] M r.2
  | 0, _, _, _, _, M, r, h => by cases h
  | n + 1, x1, x2, x4, x5, M, r, h => by
    have ih := R_daysOfBlaze_8_c     n
    have hC : Ch [73, 90, 91] M M := Ch.rf
    obtain ⟨hR, ⟨hc, h⟩ | ⟨hc, h⟩⟩ := c_gt_i h
    · skip
      cases h
      exact hC
    · skip
      obtain ⟨hc, h⟩ := ck_i h
      obtain ⟨v1, hv, h⟩ := ob_i h
      obtain ⟨hc, h⟩ := ck_i h
      obtain ⟨v2, hv, h⟩ := ob_i h
      obtain ⟨hc, h⟩ := ck_i h
      obtain ⟨v3, hv, h⟩ := ob_i h
      obtain ⟨hR, ⟨hc, h⟩ | ⟨hc, h⟩⟩ := c_eq_i h
      · skip
        exact hC.tr (R_daysOfBlaze_51_c   (R_daysOfBlaze_8    n) ih (x1) (x2) (x4) (x5) M r h) (by decide)
      · skip
        exact hC.tr (R_daysOfBlaze_51_c   (R_daysOfBlaze_8    n) ih (x1) (q_or (x2) (q_shl (1) (x5))) (x4) (x5) M r h) (by decide)
theorem R_daysOfBlaze_c     (x1 : Int) (M : am_M) (r : Int × am_M) (h : R_daysOfBlaze    x1 M = some r) : Ch [73, 90, 91] M r.2 := by
  have hC : Ch [73, 90, 91] M M := Ch.rf
  exact hC.tr (R_daysOfBlaze_8_c     am_big (x1) (0) (0) (0) M r h) (by decide)
theorem R_blazes_22_c      (M : am_M) (r : Int × am_M) (h : R_blazes_22     M = some r) : Ch [73, 90, 91, 124, 125] M r.2 := by
  have hC : Ch [73, 90, 91, 124, 125] M M := Ch.rf
  cases h
  exact hC
theorem R_blazes_103_c      (M : am_M) (r : Int × am_M) (h : R_blazes_103     M = some r) : Ch [73, 90, 91, 124, 125] M r.2 := by
  have hC : Ch [73, 90, 91, 124, 125] M M := Ch.rf
  cases h
  exact hC
theorem R_blazes_200_c     (s1 : Int) (s2 : Int) (M : am_M) (r : Int × am_M) (h : R_blazes_200    s1 s2 M = some r) : Ch [73, 90, 91, 124, 125] M r.2 := by
  have hC : Ch [73, 90, 91, 124, 125] M M := Ch.rf
  obtain ⟨v1, hv, h⟩ := ob_i h
  cases h
  exact hC
theorem R_blazes_223_c     (s0 : Int) (M : am_M) (r : Int × am_M) (h : R_blazes_223    s0 M = some r) : Ch [73, 90, 91, 124, 125] M r.2 := by
  have hC : Ch [73, 90, 91, 124, 125] M M := Ch.rf
  cases h
  exact hC
theorem R_blazes_153_c     : ∀ (n : Nat) (x1 : Int) (x2 : Int) (x3 : Int) (M : am_M) (r : Int × am_M), R_blazes_153    n x1 x2 x3 M = some r → Ch [73, 90, 91, 124, 125] M r.2
  | 0, _, _, _, M, r, h => by cases h
  | n + 1, x1, x2, x3, M, r, h => by
    have ih := R_blazes_153_c     n
    have hC : Ch [73, 90, 91, 124, 125] M M := Ch.rf
    obtain ⟨hR, ⟨hc, h⟩ | ⟨hc, h⟩⟩ := c_ge_i h
    · skip
      obtain ⟨hR, ⟨hc, h⟩ | ⟨hc, h⟩⟩ := c_le_i h
      · skip
        obtain ⟨v1, M2, hv, h⟩ := oc_i h
        have hC := hC.tr (R_fewestDays_c (x1) M _ hv) (by decide)
        obtain ⟨hR, ⟨hc, h⟩ | ⟨hc, h⟩⟩ := c_lt_i h
        · skip
          exact hC.tr (R_blazes_223_c     (v1) M2 r h) (by decide)
        · skip
          exact hC.tr (R_blazes_223_c     (-2) M2 r h) (by decide)
      · skip
        obtain ⟨hc, h⟩ := ck_i h
        obtain ⟨v3, ev, h⟩ := tw_i h
        obtain ⟨hc, v4, ev, h⟩ := rd_i h
        obtain ⟨hR, ⟨hc, h⟩ | ⟨hc, h⟩⟩ := c_lt_i h
        · skip
          exact hC.tr (R_blazes_200_c     (v4) (0) M r h) (by decide)
        · skip
          exact hC.tr (R_blazes_200_c     (v4) (1) M r h) (by decide)
    · skip
      obtain ⟨v5, M6, hv, h⟩ := oc_i h
      have hC := hC.tr (R_daysOfBlaze_c (x3) M _ hv) (by decide)
      obtain ⟨hc, M7, eM, h⟩ := wa_i h
      have hC := hC.up (by decide) eM
      exact hC.tr (ih (x1) (x2) ((x3) + (1)) M7 r h) (by decide)
theorem R_blazes_151_c     (x1 : Int) (x2 : Int) (M : am_M) (r : Int × am_M) (h : R_blazes_151    x1 x2 M = some r) : Ch [73, 90, 91, 124, 125] M r.2 := by
  have hC : Ch [73, 90, 91, 124, 125] M M := Ch.rf
  exact hC.tr (R_blazes_153_c     am_big (x1) (x2) (0) M r h) (by decide)
theorem R_blazes_31_c     : ∀ (n : Nat) (x1 : Int) (x2 : Int) (x3 : Int) (M : am_M) (r : Int × am_M), R_blazes_31    n x1 x2 x3 M = some r → Ch [73, 90, 91, 124, 125] M r.2
  | 0, _, _, _, M, r, h => by cases h
  | n + 1, x1, x2, x3, M, r, h => by
    have ih := R_blazes_31_c     n
    have hC : Ch [73, 90, 91, 124, 125] M M := Ch.rf
    obtain ⟨hR, ⟨hc, h⟩ | ⟨hc, h⟩⟩ := c_ge_i h
    · skip
      obtain ⟨hR, ⟨hc, h⟩ | ⟨hc, h⟩⟩ := c_eq_i h
      · skip
        exact hC.tr (R_blazes_151_c     (x1) (x2) M r h) (by decide)
      · skip
        obtain ⟨hc, h⟩ := ck_i h
        obtain ⟨hc, h⟩ := ck_i h
        obtain ⟨v1, hv, h⟩ := ob_i h
        obtain ⟨hR, ⟨hc, h⟩ | ⟨hc, h⟩⟩ := c_ne_i h
        · skip
          exact hC.tr (R_blazes_151_c     (x1) (x2) M r h) (by decide)
        · skip
          obtain ⟨hc, h⟩ := ck_i h
          obtain ⟨hc, h⟩ := ck_i h
          obtain ⟨v2, hv, h⟩ := ob_i h
          obtain ⟨hR, ⟨hc, h⟩ | ⟨hc, h⟩⟩ := c_ne_i h
          · skip
            exact hC.tr (R_blazes_151_c     (x1) (x2) M r h) (by decide)
          · skip
            cases h
            exact hC
    · skip
      obtain ⟨v3, hv, h⟩ := ob_i h
      obtain ⟨hR, ⟨hc, h⟩ | ⟨hc, h⟩⟩ := c_ge_i h
      · skip
        exact hC.tr (R_blazes_103_c      M r h) (by decide)
      · skip
        obtain ⟨v4, hv, h⟩ := ob_i h
        obtain ⟨hc, h⟩ := ck_i h
        obtain ⟨v5, hv, h⟩ := ob_i h
        obtain ⟨hR, ⟨hc, h⟩ | ⟨hc, h⟩⟩ := c_eq_i h
        · skip
          exact hC.tr (R_blazes_103_c      M r h) (by decide)
        · skip
          obtain ⟨v6, hv, h⟩ := ob_i h
          obtain ⟨hR, ⟨hc, h⟩ | ⟨hc, h⟩⟩ := c_gt_i h
          · skip
            exact hC.tr (R_blazes_103_c      M r h) (by decide)
          · skip
            obtain ⟨v7, hv, h⟩ := ob_i h
            obtain ⟨v8, hv, h⟩ := ob_i h
            obtain ⟨hR, ⟨hc, h⟩ | ⟨hc, h⟩⟩ := c_le_i h
            · skip
              exact hC.tr (ih (x1) (x2) ((x3) + (1)) M r h) (by decide)
            · skip
              exact hC.tr (R_blazes_103_c      M r h) (by decide)
theorem R_blazes_c     (x1 : Int) (x2 : Int) (M : am_M) (r : Int × am_M) (h : R_blazes    x1 x2 M = some r) : Ch [73, 90, 91, 124, 125] M r.2 := by
  have hC : Ch [73, 90, 91, 124, 125] M M := Ch.rf
  obtain ⟨hc, h⟩ := ck_i h
  obtain ⟨v1, hv, h⟩ := ob_i h
  obtain ⟨hR, ⟨hc, h⟩ | ⟨hc, h⟩⟩ := c_eq_i h
  · skip
    exact hC.tr (R_blazes_22_c      M r h) (by decide)
  · skip
    obtain ⟨hR, ⟨hc, h⟩ | ⟨hc, h⟩⟩ := c_le_i h
    · skip
      obtain ⟨M2, eM, h⟩ := fw_i h
      have hC := hC.up (by decide) eM
      exact hC.tr (R_blazes_31_c     am_big (x1) (x2) (0) M2 r h) (by decide)
    · skip
      exact hC.tr (R_blazes_22_c      M r h) (by decide)
theorem R_sights_32_c      (M : am_M) (r : Int × am_M) (h : R_sights_32     M = some r) : Ch [73] M r.2 := by
  have hC : Ch [73] M M := Ch.rf
  cases h
  exact hC
theorem R_sights_141_c   (k96 : Int → Int → Int → Int → Int → Int → am_M → Option (Int × am_M)) (hk96 : ∀ (x1 : Int) (x2 : Int) (x3 : Int) (x4 : Int) (x5 : Int) (x6 : Int) (M : am_M) (r : Int × am_M), k96 x1 x2 x3 x4 x5 x6 M = some r → Ch [73] M r.2) (x1 : Int) (x2 : Int) (x3 : Int) (x4 : Int) (x5 : Int) (x6 : Int) (M : am_M) (r : Int × am_M) (h : R_sights_141   k96 x1 x2 x3 x4 x5 x6 M = some r) : Ch [73] M r.2 := by
  have hC : Ch [73] M M := Ch.rf
  exact hC.tr (hk96 (x1) (x2) (x3) (x4) (x5) ((x6) + (1)) M r h) (by decide)
theorem R_sights_135_c   (k96 : Int → Int → Int → Int → Int → Int → am_M → Option (Int × am_M)) (hk96 : ∀ (x1 : Int) (x2 : Int) (x3 : Int) (x4 : Int) (x5 : Int) (x6 : Int) (M : am_M) (r : Int × am_M), k96 x1 x2 x3 x4 x5 x6 M = some r → Ch [73] M r.2) (x1 : Int) (x2 : Int) (x3 : Int) (x6 : Int) (s0 : Int) (M : am_M) (r : Int × am_M) (h : R_sights_135   k96 x1 x2 x3 x6 s0 M = some r) : Ch [73] M r.2 := by
  have hC : Ch [73] M M := Ch.rf
  exact hC.tr (R_sights_141_c   k96 hk96 (x1) (x2) (x3) (s0) (x6) (x6) M r h) (by decide)
theorem R_sights_167_c     (s0 : Int) (M : am_M) (r : Int × am_M) (h : R_sights_167    s0 M = some r) : Ch [73] M r.2 := by
  have hC : Ch [73] M M := Ch.rf
  cases h
  exact hC
theorem R_sights_96_c     : ∀ (n : Nat) (x1 : Int) (x2 : Int) (x3 : Int) (x4 : Int) (x5 : Int) (x6 : Int) (M : am_M) (r : Int × am_M), R_sights_96    n x1 x2 x3 x4 x5 x6 M = some r → Ch [73] M r.2
  | 0, _, _, _, _, _, _, M, r, h => by cases h
  | n + 1, x1, x2, x3, x4, x5, x6, M, r, h => by
    have ih := R_sights_96_c     n
    have hC : Ch [73] M M := Ch.rf
    obtain ⟨hR, ⟨hc, h⟩ | ⟨hc, h⟩⟩ := c_ge_i h
    · skip
      obtain ⟨hR, ⟨hc, h⟩ | ⟨hc, h⟩⟩ := c_ne_i h
      · skip
        obtain ⟨hR, ⟨hc, h⟩ | ⟨hc, h⟩⟩ := c_ne_i h
        · skip
          exact hC.tr (R_sights_167_c     (x5) M r h) (by decide)
        · skip
          exact hC.tr (R_sights_167_c     (x4) M r h) (by decide)
      · skip
        exact hC.tr (R_sights_167_c     (x3) M r h) (by decide)
    · skip
      obtain ⟨v1, hv, h⟩ := ob_i h
      obtain ⟨hR, ⟨hc, h⟩ | ⟨hc, h⟩⟩ := c_ne_i h
      · skip
        obtain ⟨hR, ⟨hc, h⟩ | ⟨hc, h⟩⟩ := c_ne_i h
        · skip
          exact hC.tr (R_sights_135_c   (R_sights_96    n) ih (x1) (x2) ((x3) + (1)) (x6) (x4) M r h) (by decide)
        · skip
          exact hC.tr (R_sights_135_c   (R_sights_96    n) ih (x1) (x2) ((x3) + (1)) (x6) (x6) M r h) (by decide)
      · skip
        exact hC.tr (R_sights_141_c   (R_sights_96    n) ih (x1) (x2) (x3) (x4) (x5) (x6) M r h) (by decide)
theorem R_sights_63_c   (k41 : Int → Int → Int → am_M → Option (Int × am_M)) (hk41 : ∀ (x1 : Int) (x2 : Int) (x3 : Int) (M : am_M) (r : Int × am_M), k41 x1 x2 x3 M = some r → Ch [73] M r.2) (x1 : Int) (x2 : Int) (x3 : Int) (M : am_M) (r : Int × am_M) (h : R_sights_63   k41 x1 x2 x3 M = some r) : Ch [73] M r.2 := by
  have hC : Ch [73] M M := Ch.rf
  exact hC.tr (hk41 (x1) (x2) ((x3) + (1)) M r h) (by decide)
theorem R_sights_41_c     : ∀ (n : Nat) (x1 : Int) (x2 : Int) (x3 : Int) (M : am_M) (r : Int × am_M), R_sights_41    n x1 x2 x3 M = some r → Ch [73] M r.2
  | 0, _, _, _, M, r, h => by cases h
  | n + 1, x1, x2, x3, M, r, h => by
    have ih := R_sights_41_c     n
    have hC : Ch [73] M M := Ch.rf
    obtain ⟨hR, ⟨hc, h⟩ | ⟨hc, h⟩⟩ := c_ge_i h
    · skip
      obtain ⟨hR, ⟨hc, h⟩ | ⟨hc, h⟩⟩ := c_ge_i h
      · skip
        exact hC.tr (R_sights_96_c     am_big (x1) (x2) (0) (-2) (-2) ((x1) - (1)) M r h) (by decide)
      · skip
        cases h
        exact hC
    · skip
      obtain ⟨v1, hv, h⟩ := ob_i h
      obtain ⟨v2, hv, h⟩ := ob_i h
      obtain ⟨hR, ⟨hc, h⟩ | ⟨hc, h⟩⟩ := c_ne_i h
      · skip
        exact hC.tr (R_sights_63_c   (R_sights_41    n) ih (x1) (x2) (x3) M r h) (by decide)
      · skip
        obtain ⟨M3, hv, h⟩ := ob_i h
        have hC := hC.tr (R_wrongs_c (1) (x3) M _ hv) (by decide)
        exact hC.tr (R_sights_63_c   (R_sights_41    n) ih (x1) (x2) (x3) M3 r h) (by decide)
theorem R_sights_c     (x1 : Int) (x2 : Int) (M : am_M) (r : Int × am_M) (h : R_sights    x1 x2 M = some r) : Ch [73] M r.2 := by
  have hC : Ch [73] M M := Ch.rf
  obtain ⟨hc, h⟩ := ck_i h
  obtain ⟨v1, hv, h⟩ := ob_i h
  obtain ⟨hR, ⟨hc, h⟩ | ⟨hc, h⟩⟩ := c_eq_i h
  · skip
    exact hC.tr (R_sights_32_c      M r h) (by decide)
  · skip
    obtain ⟨hc, h⟩ := ck_i h
    obtain ⟨v2, hv, h⟩ := ob_i h
    obtain ⟨hR, ⟨hc, h⟩ | ⟨hc, h⟩⟩ := c_eq_i h
    · skip
      exact hC.tr (R_sights_32_c      M r h) (by decide)
    · skip
      obtain ⟨hR, ⟨hc, h⟩ | ⟨hc, h⟩⟩ := c_le_i h
      · skip
        obtain ⟨M3, hv, h⟩ := ob_i h
        have hC := hC.tr (R_begins_c (x1) M _ hv) (by decide)
        exact hC.tr (R_sights_41_c     am_big (x1) (x2) (0) M3 r h) (by decide)
      · skip
        exact hC.tr (R_sights_32_c      M r h) (by decide)
theorem R_seed_c     (x1 : Int) (M : am_M) (r : Int × am_M) (h : R_seed    x1 M = some r) : Ch [73] M r.2 := by
  have hC : Ch [73] M M := Ch.rf
  obtain ⟨hc, h⟩ := ck_i h
  obtain ⟨v1, hv, h⟩ := ob_i h
  obtain ⟨hR, ⟨hc, h⟩ | ⟨hc, h⟩⟩ := c_ne_i h
  · skip
    obtain ⟨M2, eM, h⟩ := fw_i h
    have hC := hC.up (by decide) eM
    cases h
    exact hC
  · skip
    cases h
    exact hC
theorem R_keep_c      (M : am_M) (r : Int × am_M) (h : R_keep     M = some r) : Ch [73, 101, 102, 103, 104, 105, 106, 107, 108, 109, 110, 111, 112] M r.2 := by
  have hC : Ch [73, 101, 102, 103, 104, 105, 106, 107, 108, 109, 110, 111, 112] M M := Ch.rf
  obtain ⟨hc, M1, eM, h⟩ := fz_i h
  have hC := hC.up (by decide) eM
  obtain ⟨M2, hv, h⟩ := ob_i h
  have hC := hC.tr (R_laysAside_c (1) M1 _ hv) (by decide)
  cases h
  exact hC
theorem R_undo_c      (M : am_M) (r : Int × am_M) (h : R_undo     M = some r) : Ch [73, 93, 95, 96, 97, 98, 99, 100] M r.2 := by
  have hC : Ch [73, 93, 95, 96, 97, 98, 99, 100] M M := Ch.rf
  obtain ⟨hR, ⟨hc, h⟩ | ⟨hc, h⟩⟩ := c_ne_i h
  · skip
    obtain ⟨M1, hv, h⟩ := ob_i h
    have hC := hC.tr (R_bringsBack_c (1) M _ hv) (by decide)
    cases h
    exact hC
  · skip
    cases h
    exact hC
theorem R_check_20_c      (M : am_M) (r : Int × am_M) (h : R_check_20     M = some r) : Ch [73] M r.2 := by
  have hC : Ch [73] M M := Ch.rf
  cases h
  exact hC
theorem R_check_58_c   (k30 : Int → Int → am_M → Option (Int × am_M)) (hk30 : ∀ (x1 : Int) (x2 : Int) (M : am_M) (r : Int × am_M), k30 x1 x2 M = some r → Ch [73] M r.2) (x1 : Int) (x2 : Int) (s0 : Int) (s1 : Int) (M : am_M) (r : Int × am_M) (h : R_check_58   k30 x1 x2 s0 s1 M = some r) : Ch [73] M r.2 := by
  have hC : Ch [73] M M := Ch.rf
  obtain ⟨hR, ⟨hc, h⟩ | ⟨hc, h⟩⟩ := c_eq_i h
  · skip
    exact hC.tr (hk30 (x1) ((x2) + (1)) M r h) (by decide)
  · skip
    cases h
    exact hC
theorem R_check_30_c     : ∀ (n : Nat) (x1 : Int) (x2 : Int) (M : am_M) (r : Int × am_M), R_check_30    n x1 x2 M = some r → Ch [73] M r.2
  | 0, _, _, M, r, h => by cases h
  | n + 1, x1, x2, M, r, h => by
    have ih := R_check_30_c     n
    have hC : Ch [73] M M := Ch.rf
    obtain ⟨hR, ⟨hc, h⟩ | ⟨hc, h⟩⟩ := c_ge_i h
    · skip
      cases h
      exact hC
    · skip
      obtain ⟨v1, hv, h⟩ := ob_i h
      obtain ⟨hR, ⟨hc, h⟩ | ⟨hc, h⟩⟩ := c_ge_i h
      · skip
        exact hC.tr (R_check_58_c   (R_check_30    n) ih (x1) (x2) (v1) (0) M r h) (by decide)
      · skip
        obtain ⟨hc, v2, ev, h⟩ := rd_i h
        exact hC.tr (R_check_58_c   (R_check_30    n) ih (x1) (x2) (v1) (v2) M r h) (by decide)
theorem R_check_c     (x1 : Int) (M : am_M) (r : Int × am_M) (h : R_check    x1 M = some r) : Ch [73] M r.2 := by
  have hC : Ch [73] M M := Ch.rf
  obtain ⟨hc, h⟩ := ck_i h
  obtain ⟨v1, hv, h⟩ := ob_i h
  obtain ⟨hR, ⟨hc, h⟩ | ⟨hc, h⟩⟩ := c_eq_i h
  · skip
    exact hC.tr (R_check_20_c      M r h) (by decide)
  · skip
    obtain ⟨hR, ⟨hc, h⟩ | ⟨hc, h⟩⟩ := c_le_i h
    · skip
      obtain ⟨M2, eM, h⟩ := fw_i h
      have hC := hC.up (by decide) eM
      exact hC.tr (R_check_30_c     am_big (x1) (0) M2 r h) (by decide)
    · skip
      exact hC.tr (R_check_20_c      M r h) (by decide)
