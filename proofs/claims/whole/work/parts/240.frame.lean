def Ch (l : List Nat) (M N : am_M) : Prop := ∀ k, k ∉ l → N k = M k
theorem Ch.rf {l : List Nat} {M : am_M} : Ch l M M := fun _ _ => rfl
theorem Ch.mo {l l' : List Nat} {M N : am_M} (h : Ch l M N) (hs : ∀ k, k ∈ l → k ∈ l') : Ch l' M N := fun k hk => h k (fun q => hk (hs k q))
theorem Ch.tr {l l' : List Nat} {M N O : am_M} (h : Ch l M N) (h2 : Ch l' N O) (hs : ∀ k, k ∈ l' → k ∈ l) : Ch l M O := fun k hk => (h2 k (fun q => hk (hs k q))).trans (h k hk)
theorem Ch.up {l : List Nat} {M N M1 : am_M} {k j : Nat} {v : Int} (h : Ch l M N) (hk : k ∈ l) (e : M1 = am_up N k j v) : Ch l M M1 := fun i hi => by
  subst e
  rw [am_upo (fun q => hi (by rw [q]; exact hk))]
  exact h i hi
theorem Ch.nw {l : List Nat} {M N M1 : am_M} {k : Nat} (h : Ch l M N) (hk : k ∈ l) (e : M1 = am_zr N k) : Ch l M M1 := fun i hi => by
  subst e
  rw [am_zro (fun q => hi (by rw [q]; exact hk))]
  exact h i hi
theorem Ch.cp {l : List Nat} {M N M1 : am_M} {s sp d dp n : Nat} (h : Ch l M N) (hk : d ∈ l) (e : M1 = am_cp N s sp d dp n) : Ch l M M1 := fun i hi => by
  subst e
  have hne : i ≠ d := fun q => hi (by rw [q]; exact hk)
  funext x
  unfold am_cp
  rw [if_neg hne, h i hi]
theorem Tape_put_49_c      (M : am_M) (r : am_M) (h : Tape_put_49     M = some r) : Ch [14, 15] M r := by
  have hC : Ch [14, 15] M M := Ch.rf
  cases h
  exact hC
theorem Tape_put_3_c     : ∀ (n : Nat) (x1 : Int) (x2 : Int) (M : am_M) (r : am_M), Tape_put_3    n x1 x2 M = some r → Ch [14, 15] M r
  | 0, _, _, M, r, h => by cases h
  | n + 1, x1, x2, M, r, h => by
    have ih := Tape_put_3_c     n
    have hC : Ch [14, 15] M M := Ch.rf
    obtain ⟨hR, ⟨hc, h⟩ | ⟨hc, h⟩⟩ := c_lt_i h
    · skip
      exact hC.tr (Tape_put_49_c      M r h) (by decide)
    · skip
      obtain ⟨hR, ⟨hc, h⟩ | ⟨hc, h⟩⟩ := c_ge_i h
      · skip
        exact hC.tr (Tape_put_49_c      M r h) (by decide)
      · skip
        obtain ⟨hc, M1, eM, h⟩ := wa_i h
        have hC := hC.up (by decide) eM
        obtain ⟨M2, eM, h⟩ := fw_i h
        have hC := hC.up (by decide) eM
        exact hC.tr (ih (x1) ((x2) + (-8)) M2 r h) (by decide)
theorem Tape_put_c     (x1 : Int) (M : am_M) (r : am_M) (h : Tape_put    x1 M = some r) : Ch [14, 15] M r := by
  have hC : Ch [14, 15] M M := Ch.rf
  exact hC.tr (Tape_put_3_c     am_big (x1) (24) M r h) (by decide)
theorem P_feed_c     (x1 : Int) (x2 : Int) (x3 : Int) (x4 : Int) (x5 : Int) (M : am_M) (r : Int × am_M) (h : P_feed    x1 x2 x3 x4 x5 M = some r) : Ch [14, 15] M r.2 := by
  have hC : Ch [14, 15] M M := Ch.rf
  obtain ⟨v1, hv, h⟩ := ob_i h
  obtain ⟨hR, ⟨hc, h⟩ | ⟨hc, h⟩⟩ := c_ne_i h
  · skip
    obtain ⟨M2, hv, h⟩ := ob_i h
    have hC := hC.tr (Tape_put_c (x1) M _ hv) (by decide)
    obtain ⟨M3, hv, h⟩ := ob_i h
    have hC := hC.tr (Tape_put_c (x2) M2 _ hv) (by decide)
    obtain ⟨M4, hv, h⟩ := ob_i h
    have hC := hC.tr (Tape_put_c (x3) M3 _ hv) (by decide)
    obtain ⟨M5, hv, h⟩ := ob_i h
    have hC := hC.tr (Tape_put_c (x4) M4 _ hv) (by decide)
    obtain ⟨M6, hv, h⟩ := ob_i h
    have hC := hC.tr (Tape_put_c (x5) M5 _ hv) (by decide)
    obtain ⟨v7, hv, h⟩ := ob_i h
    cases h
    exact hC
  · skip
    cases h
    exact hC
theorem Tape_take_18_c      (M : am_M) (r : Int × am_M) (h : Tape_take_18     M = some r) : Ch [14] M r.2 := by
  have hC : Ch [14] M M := Ch.rf
  cases h
  exact hC
theorem Tape_take_c     (x1 : Int) (x2 : Int) (x3 : Int) (M : am_M) (r : Int × am_M) (h : Tape_take    x1 x2 x3 M = some r) : Ch [14] M r.2 := by
  have hC : Ch [14] M M := Ch.rf
  obtain ⟨hR, ⟨hc, h⟩ | ⟨hc, h⟩⟩ := c_lt_i h
  · skip
    exact hC.tr (Tape_take_18_c      M r h) (by decide)
  · skip
    obtain ⟨hR, ⟨hc, h⟩ | ⟨hc, h⟩⟩ := c_gt_i h
    · skip
      exact hC.tr (Tape_take_18_c      M r h) (by decide)
    · skip
      obtain ⟨hR, ⟨hc, h⟩ | ⟨hc, h⟩⟩ := c_le_i h
      · skip
        obtain ⟨M1, eM, h⟩ := fw_i h
        have hC := hC.up (by decide) eM
        obtain ⟨M2, eM, h⟩ := fw_i h
        have hC := hC.up (by decide) eM
        cases h
        exact hC
      · skip
        exact hC.tr (Tape_take_18_c      M r h) (by decide)
theorem Country_repeatRow_1_48_c   (k2 : Int → Int → Int → am_M → Option (Int × am_M)) (hk2 : ∀ (x1 : Int) (x2 : Int) (x3 : Int) (M : am_M) (r : Int × am_M), k2 x1 x2 x3 M = some r → Ch [3] M r.2) (x1 : Int) (x2 : Int) (x3 : Int) (M : am_M) (r : Int × am_M) (h : Country_repeatRow_1_48   k2 x1 x2 x3 M = some r) : Ch [3] M r.2 := by
  have hC : Ch [3] M M := Ch.rf
  exact hC.tr (hk2 (x1) (x2) ((x3) + (1)) M r h) (by decide)
theorem Country_repeatRow_1_2_c     : ∀ (n : Nat) (x1 : Int) (x2 : Int) (x3 : Int) (M : am_M) (r : Int × am_M), Country_repeatRow_1_2    n x1 x2 x3 M = some r → Ch [3] M r.2
  | 0, _, _, _, M, r, h => by cases h
  | n + 1, x1, x2, x3, M, r, h => by
    have ih := Country_repeatRow_1_2_c     n
    have hC : Ch [3] M M := Ch.rf
    obtain ⟨hR, ⟨hc, h⟩ | ⟨hc, h⟩⟩ := c_ge_i h
    · skip
      cases h
      exact hC
    · skip
      obtain ⟨hR, ⟨hc, h⟩ | ⟨hc, h⟩⟩ := c_lt_i h
      · skip
        exact hC.tr (Country_repeatRow_1_48_c   (Country_repeatRow_1_2    n) ih (x1) (x2) (x3) M r h) (by decide)
      · skip
        obtain ⟨hR, ⟨hc, h⟩ | ⟨hc, h⟩⟩ := c_ge_i h
        · skip
          exact hC.tr (Country_repeatRow_1_48_c   (Country_repeatRow_1_2    n) ih (x1) (x2) (x3) M r h) (by decide)
        · skip
          obtain ⟨hc, v1, ev, h⟩ := rd_i h
          obtain ⟨hc, M2, eM, h⟩ := wa_i h
          have hC := hC.up (by decide) eM
          exact hC.tr (Country_repeatRow_1_48_c   (Country_repeatRow_1_2    n) ih (x1) (x2) (x3) M2 r h) (by decide)
theorem Country_repeatRow_1_c     (x1 : Int) (x2 : Int) (M : am_M) (r : Int × am_M) (h : Country_repeatRow_1    x1 x2 M = some r) : Ch [3] M r.2 := by
  have hC : Ch [3] M M := Ch.rf
  exact hC.tr (Country_repeatRow_1_2_c     am_big (x1) (x2) (0) M r h) (by decide)
theorem Country_layRun_1_27_c   (k3 : Int → Int → Int → Int → am_M → Option (am_M)) (hk3 : ∀ (x1 : Int) (x2 : Int) (x3 : Int) (x4 : Int) (M : am_M) (r : am_M), k3 x1 x2 x3 x4 M = some r → Ch [3] M r) (x1 : Int) (x2 : Int) (x3 : Int) (x4 : Int) (M : am_M) (r : am_M) (h : Country_layRun_1_27   k3 x1 x2 x3 x4 M = some r) : Ch [3] M r := by
  have hC : Ch [3] M M := Ch.rf
  exact hC.tr (hk3 (x1) (x2) (x3) ((x4) + (1)) M r h) (by decide)
theorem Country_layRun_1_3_c     : ∀ (n : Nat) (x1 : Int) (x2 : Int) (x3 : Int) (x4 : Int) (M : am_M) (r : am_M), Country_layRun_1_3    n x1 x2 x3 x4 M = some r → Ch [3] M r
  | 0, _, _, _, _, M, r, h => by cases h
  | n + 1, x1, x2, x3, x4, M, r, h => by
    have ih := Country_layRun_1_3_c     n
    have hC : Ch [3] M M := Ch.rf
    obtain ⟨hR, ⟨hc, h⟩ | ⟨hc, h⟩⟩ := c_ge_i h
    · skip
      cases h
      exact hC
    · skip
      obtain ⟨v1, hv, h⟩ := ob_i h
      obtain ⟨hR, ⟨hc, h⟩ | ⟨hc, h⟩⟩ := c_eq_i h
      · skip
        exact hC.tr (Country_layRun_1_27_c   (Country_layRun_1_3    n) ih (x1) (x2) (x3) (x4) M r h) (by decide)
      · skip
        obtain ⟨hc, M2, eM, h⟩ := wa_i h
        have hC := hC.up (by decide) eM
        exact hC.tr (Country_layRun_1_27_c   (Country_layRun_1_3    n) ih (x1) (x2) (x3) (x4) M2 r h) (by decide)
theorem Country_layRun_1_c     (x1 : Int) (x2 : Int) (x3 : Int) (M : am_M) (r : am_M) (h : Country_layRun_1    x1 x2 x3 M = some r) : Ch [3] M r := by
  have hC : Ch [3] M M := Ch.rf
  exact hC.tr (Country_layRun_1_3_c     am_big (x1) (x2) (x3) (x1) M r h) (by decide)
theorem Country_readRow_1_112_c   (k9 : Int → Int → Int → Int → am_M → Option (Int × am_M)) (hk9 : ∀ (x2 : Int) (x4 : Int) (x5 : Int) (x6 : Int) (M : am_M) (r : Int × am_M), k9 x2 x4 x5 x6 M = some r → Ch [3] M r.2) (x2 : Int) (x4 : Int) (x5 : Int) (x6 : Int) (x7 : Int) (x8 : Int) (M : am_M) (r : Int × am_M) (h : Country_readRow_1_112   k9 x2 x4 x5 x6 x7 x8 M = some r) : Ch [3] M r.2 := by
  have hC : Ch [3] M M := Ch.rf
  obtain ⟨hR, ⟨hc, h⟩ | ⟨hc, h⟩⟩ := c_le_i h
  · skip
    obtain ⟨v1, hv, h⟩ := ob_i h
    obtain ⟨v2, hv, h⟩ := ob_i h
    obtain ⟨M3, hv, h⟩ := ob_i h
    have hC := hC.tr (Country_layRun_1_c (((12) * (x2)) + (x5)) (x8) (v2) M _ hv) (by decide)
    exact hC.tr (hk9 (x2) (x4) ((x5) + (x8)) ((x6) + (1)) M3 r h) (by decide)
  · skip
    obtain ⟨v4, hv, h⟩ := ob_i h
    cases h
    exact hC
theorem Country_readRow_1_100_c   (k9 : Int → Int → Int → Int → am_M → Option (Int × am_M)) (hk9 : ∀ (x2 : Int) (x4 : Int) (x5 : Int) (x6 : Int) (M : am_M) (r : Int × am_M), k9 x2 x4 x5 x6 M = some r → Ch [3] M r.2) (x2 : Int) (x4 : Int) (x5 : Int) (x6 : Int) (x7 : Int) (x8 : Int) (x9 : Int) (M : am_M) (r : Int × am_M) (h : Country_readRow_1_100   k9 x2 x4 x5 x6 x7 x8 x9 M = some r) : Ch [3] M r.2 := by
  have hC : Ch [3] M M := Ch.rf
  obtain ⟨hR, ⟨hc, h⟩ | ⟨hc, h⟩⟩ := c_ne_i h
  · skip
    exact hC.tr (Country_readRow_1_112_c   k9 hk9 (x2) (x4) (x5) (x6) (x7) (x8) M r h) (by decide)
  · skip
    obtain ⟨v1, hv, h⟩ := ob_i h
    cases h
    exact hC
theorem Country_readRow_1_183_c     (s0 : Int) (M : am_M) (r : Int × am_M) (h : Country_readRow_1_183    s0 M = some r) : Ch [3] M r.2 := by
  have hC : Ch [3] M M := Ch.rf
  cases h
  exact hC
theorem Country_readRow_1_165_c     (x4 : Int) (x5 : Int) (M : am_M) (r : Int × am_M) (h : Country_readRow_1_165    x4 x5 M = some r) : Ch [3] M r.2 := by
  have hC : Ch [3] M M := Ch.rf
  obtain ⟨hR, ⟨hc, h⟩ | ⟨hc, h⟩⟩ := c_ge_i h
  · skip
    exact hC.tr (Country_readRow_1_183_c     (x4) M r h) (by decide)
  · skip
    obtain ⟨v1, hv, h⟩ := ob_i h
    exact hC.tr (Country_readRow_1_183_c     (v1) M r h) (by decide)
theorem Country_readRow_1_9_c     : ∀ (n : Nat) (x2 : Int) (x4 : Int) (x5 : Int) (x6 : Int) (M : am_M) (r : Int × am_M), Country_readRow_1_9    n x2 x4 x5 x6 M = some r → Ch [3] M r.2
  | 0, _, _, _, _, M, r, h => by cases h
  | n + 1, x2, x4, x5, x6, M, r, h => by
    have ih := Country_readRow_1_9_c     n
    have hC : Ch [3] M M := Ch.rf
    obtain ⟨hR, ⟨hc, h⟩ | ⟨hc, h⟩⟩ := c_gt_i h
    · skip
      exact hC.tr (Country_readRow_1_165_c     (x4) (x5) M r h) (by decide)
    · skip
      obtain ⟨v1, hv, h⟩ := ob_i h
      obtain ⟨v2, hv, h⟩ := ob_i h
      obtain ⟨hR, ⟨hc, h⟩ | ⟨hc, h⟩⟩ := c_lt_i h
      · skip
        exact hC.tr (Country_readRow_1_165_c     (x4) (x5) M r h) (by decide)
      · skip
        obtain ⟨v3, hv, h⟩ := ob_i h
        obtain ⟨v4, hv, h⟩ := ob_i h
        obtain ⟨hR, ⟨hc, h⟩ | ⟨hc, h⟩⟩ := c_eq_i h
        · skip
          exact hC.tr (Country_readRow_1_112_c   (Country_readRow_1_9    n) ih (x2) ((x4) + (1)) (x5) (x6) (x4) (1) M r h) (by decide)
        · skip
          obtain ⟨v5, hv, h⟩ := ob_i h
          obtain ⟨v6, hv, h⟩ := ob_i h
          obtain ⟨v7, hv, h⟩ := ob_i h
          obtain ⟨hR, ⟨hc, h⟩ | ⟨hc, h⟩⟩ := c_eq_i h
          · skip
            exact hC.tr (Country_readRow_1_100_c   (Country_readRow_1_9    n) ih (x2) (((x4) + (1)) + (1)) (x5) (x6) (x4) ((v5) - (48)) ((x4) + (1)) M r h) (by decide)
          · skip
            obtain ⟨v8, hv, h⟩ := ob_i h
            exact hC.tr (Country_readRow_1_100_c   (Country_readRow_1_9    n) ih (x2) ((((x4) + (1)) + (1)) + (1)) (x5) (x6) (x4) ((((10) * ((v5) - (48))) + (v8)) - (48)) ((x4) + (1)) M r h) (by decide)
theorem Country_readRow_1_c     (x2 : Int) (x3 : Int) (M : am_M) (r : Int × am_M) (h : Country_readRow_1    x2 x3 M = some r) : Ch [3] M r.2 := by
  have hC : Ch [3] M M := Ch.rf
  exact hC.tr (Country_readRow_1_9_c     am_big (x2) (x3) (0) (0) M r h) (by decide)
theorem Country_readForest_1_63_c   (k4 : Int → Int → am_M → Option (Int × am_M)) (hk4 : ∀ (x2 : Int) (x3 : Int) (M : am_M) (r : Int × am_M), k4 x2 x3 M = some r → Ch [2, 3] M r.2) (x3 : Int) (s0 : Int) (M : am_M) (r : Int × am_M) (h : Country_readForest_1_63   k4 x3 s0 M = some r) : Ch [2, 3] M r.2 := by
  have hC : Ch [2, 3] M M := Ch.rf
  obtain ⟨hR, ⟨hc, h⟩ | ⟨hc, h⟩⟩ := c_ge_i h
  · skip
    exact hC.tr (hk4 (s0) ((x3) + (1)) M r h) (by decide)
  · skip
    cases h
    exact hC
theorem Country_readForest_1_56_c   (k4 : Int → Int → am_M → Option (Int × am_M)) (hk4 : ∀ (x2 : Int) (x3 : Int) (M : am_M) (r : Int × am_M), k4 x2 x3 M = some r → Ch [2, 3] M r.2) (x2 : Int) (x3 : Int) (M : am_M) (r : Int × am_M) (h : Country_readForest_1_56   k4 x2 x3 M = some r) : Ch [2, 3] M r.2 := by
  have hC : Ch [2, 3] M M := Ch.rf
  obtain ⟨v1, M2, hv, h⟩ := oc_i h
  have hC := hC.tr (Country_readRow_1_c (x3) (x2) M _ hv) (by decide)
  exact hC.tr (Country_readForest_1_63_c   k4 hk4 (x3) (v1) M2 r h) (by decide)
theorem Country_readForest_1_33_c   (k4 : Int → Int → am_M → Option (Int × am_M)) (hk4 : ∀ (x2 : Int) (x3 : Int) (M : am_M) (r : Int × am_M), k4 x2 x3 M = some r → Ch [2, 3] M r.2) (x2 : Int) (x3 : Int) (M : am_M) (r : Int × am_M) (h : Country_readForest_1_33   k4 x2 x3 M = some r) : Ch [2, 3] M r.2 := by
  have hC : Ch [2, 3] M M := Ch.rf
  obtain ⟨hR, ⟨hc, h⟩ | ⟨hc, h⟩⟩ := c_le_i h
  · skip
    exact hC.tr (Country_readForest_1_56_c   k4 hk4 (x2) (x3) M r h) (by decide)
  · skip
    obtain ⟨v1, hv, h⟩ := ob_i h
    obtain ⟨hR, ⟨hc, h⟩ | ⟨hc, h⟩⟩ := c_ne_i h
    · skip
      exact hC.tr (Country_readForest_1_56_c   k4 hk4 (x2) (x3) M r h) (by decide)
    · skip
      obtain ⟨v2, M3, hv, h⟩ := oc_i h
      have hC := hC.tr (Country_repeatRow_1_c (x3) (x2) M _ hv) (by decide)
      exact hC.tr (Country_readForest_1_63_c   k4 hk4 (x3) (v2) M3 r h) (by decide)
theorem Country_readForest_1_4_c     : ∀ (n : Nat) (x2 : Int) (x3 : Int) (M : am_M) (r : Int × am_M), Country_readForest_1_4    n x2 x3 M = some r → Ch [2, 3] M r.2
  | 0, _, _, M, r, h => by cases h
  | n + 1, x2, x3, M, r, h => by
    have ih := Country_readForest_1_4_c     n
    have hC : Ch [2, 3] M M := Ch.rf
    obtain ⟨hR, ⟨hc, h⟩ | ⟨hc, h⟩⟩ := c_ge_i h
    · skip
      obtain ⟨v1, hv, h⟩ := ob_i h
      obtain ⟨hR, ⟨hc, h⟩ | ⟨hc, h⟩⟩ := c_eq_i h
      · skip
        obtain ⟨hc, M2, eM, h⟩ := cpy_i h
        have hC := hC.cp (by decide) eM
        obtain ⟨v3, hv, h⟩ := ob_i h
        cases h
        exact hC
      · skip
        obtain ⟨v4, hv, h⟩ := ob_i h
        cases h
        exact hC
    · skip
      obtain ⟨hR, ⟨hc, h⟩ | ⟨hc, h⟩⟩ := c_le_i h
      · skip
        exact hC.tr (Country_readForest_1_33_c   (Country_readForest_1_4    n) ih (x2) (x3) M r h) (by decide)
      · skip
        obtain ⟨v5, hv, h⟩ := ob_i h
        obtain ⟨hR, ⟨hc, h⟩ | ⟨hc, h⟩⟩ := c_eq_i h
        · skip
          exact hC.tr (Country_readForest_1_33_c   (Country_readForest_1_4    n) ih ((x2) + (1)) (x3) M r h) (by decide)
        · skip
          obtain ⟨v6, hv, h⟩ := ob_i h
          cases h
          exact hC
theorem Country_readForest_1_c      (M : am_M) (r : Int × am_M) (h : Country_readForest_1     M = some r) : Ch [2, 3] M r.2 := by
  have hC : Ch [2, 3] M M := Ch.rf
  exact hC.tr (Country_readForest_1_4_c     am_big (0) (0) M r h) (by decide)
theorem J_fill_33_5_c     : ∀ (n : Nat) (x1 : Int) (x2 : Int) (x3 : Int) (M : am_M) (r : am_M), J_fill_33_5    n x1 x2 x3 M = some r → Ch [33] M r
  | 0, _, _, _, M, r, h => by cases h
  | n + 1, x1, x2, x3, M, r, h => by
    have ih := J_fill_33_5_c     n
    have hC : Ch [33] M M := Ch.rf
    obtain ⟨hR, ⟨hc, h⟩ | ⟨hc, h⟩⟩ := c_ge_i h
    · skip
      cases h
      exact hC
    · skip
      obtain ⟨hc, M1, eM, h⟩ := wa_i h
      have hC := hC.up (by decide) eM
      exact hC.tr (ih (x1) ((x2) + (1)) (x3) M1 r h) (by decide)
theorem J_fill_33_c     (x1 : Int) (M : am_M) (r : am_M) (h : J_fill_33    x1 M = some r) : Ch [33] M r := by
  have hC : Ch [33] M M := Ch.rf
  exact hC.tr (J_fill_33_5_c     am_big (x1) (0) (((144 : Nat) : Int)) M r h) (by decide)
theorem Trip_append_26_97_c      (M : am_M) (r : am_M) (h : Trip_append_26_97     M = some r) : Ch [26, 28, 29, 30, 31, 32, 33] M r := by
  have hC : Ch [26, 28, 29, 30, 31, 32, 33] M M := Ch.rf
  cases h
  exact hC
theorem Trip_append_26_c     (x1 : Int) (M : am_M) (r : am_M) (h : Trip_append_26    x1 M = some r) : Ch [26, 28, 29, 30, 31, 32, 33] M r := by
  have hC : Ch [26, 28, 29, 30, 31, 32, 33] M M := Ch.rf
  obtain ⟨hR, ⟨hc, h⟩ | ⟨hc, h⟩⟩ := c_ge_i h
  · skip
    exact hC.tr (Trip_append_26_97_c      M r h) (by decide)
  · skip
    obtain ⟨v1, hv, h⟩ := ob_i h
    obtain ⟨hR, ⟨hc, h⟩ | ⟨hc, h⟩⟩ := c_eq_i h
    · skip
      exact hC.tr (Trip_append_26_97_c      M r h) (by decide)
    · skip
      obtain ⟨hc, M2, eM, h⟩ := wa_i h
      have hC := hC.up (by decide) eM
      obtain ⟨hc, M3, eM, h⟩ := wa_i h
      have hC := hC.up (by decide) eM
      obtain ⟨hc, M4, eM, h⟩ := wa_i h
      have hC := hC.up (by decide) eM
      obtain ⟨hc, M5, eM, h⟩ := wa_i h
      have hC := hC.up (by decide) eM
      obtain ⟨hc, M6, eM, h⟩ := wa_i h
      have hC := hC.up (by decide) eM
      obtain ⟨hc, M7, eM, h⟩ := wa_i h
      have hC := hC.up (by decide) eM
      obtain ⟨M8, eM, h⟩ := fw_i h
      have hC := hC.up (by decide) eM
      obtain ⟨M9, eM, h⟩ := fw_i h
      have hC := hC.up (by decide) eM
      exact hC.tr (Trip_append_26_97_c      M9 r h) (by decide)
theorem Trip_beginAt_26_c     (x1 : Int) (M : am_M) (r : am_M) (h : Trip_beginAt_26    x1 M = some r) : Ch [26, 28, 29, 30, 31, 32, 33] M r := by
  have hC : Ch [26, 28, 29, 30, 31, 32, 33] M M := Ch.rf
  obtain ⟨M1, hv, h⟩ := ob_i h
  have hC := hC.tr (J_fill_33_c (0) M _ hv) (by decide)
  obtain ⟨M2, eM, h⟩ := fw_i h
  have hC := hC.up (by decide) eM
  obtain ⟨M3, hv, h⟩ := ob_i h
  have hC := hC.tr (Trip_append_26_c (x1) M2 _ hv) (by decide)
  cases h
  exact hC
theorem P_forest_53_c     (x2 : Int) (M : am_M) (r : Int × am_M) (h : P_forest_53    x2 M = some r) : Ch [0, 2, 3, 14, 26, 28, 29, 30, 31, 32, 33] M r.2 := by
  have hC : Ch [0, 2, 3, 14, 26, 28, 29, 30, 31, 32, 33] M M := Ch.rf
  cases h
  exact hC
theorem P_forest_c     (x1 : Int) (M : am_M) (r : Int × am_M) (h : P_forest    x1 M = some r) : Ch [0, 2, 3, 14, 26, 28, 29, 30, 31, 32, 33] M r.2 := by
  have hC : Ch [0, 2, 3, 14, 26, 28, 29, 30, 31, 32, 33] M M := Ch.rf
  obtain ⟨v1, M2, hv, h⟩ := oc_i h
  have hC := hC.tr (Tape_take_c (x1) (1) (200) M _ hv) (by decide)
  obtain ⟨hR, ⟨hc, h⟩ | ⟨hc, h⟩⟩ := c_ne_i h
  · skip
    obtain ⟨v3, M4, hv, h⟩ := oc_i h
    have hC := hC.tr (Country_readForest_1_c M2 _ hv) (by decide)
    obtain ⟨hR, ⟨hc, h⟩ | ⟨hc, h⟩⟩ := c_lt_i h
    · skip
      exact hC.tr (P_forest_53_c     (v3) M4 r h) (by decide)
    · skip
      obtain ⟨v5, hv, h⟩ := ob_i h
      obtain ⟨M6, hv, h⟩ := ob_i h
      have hC := hC.tr (Trip_beginAt_26_c (v5) M4 _ hv) (by decide)
      obtain ⟨hc, M7, eM, h⟩ := fz_i h
      have hC := hC.up (by decide) eM
      exact hC.tr (P_forest_53_c     (v3) M7 r h) (by decide)
  · skip
    cases h
    exact hC
theorem Law_clear_17_c      (M : am_M) (r : am_M) (h : Law_clear_17     M = some r) : Ch [17] M r := by
  have hC : Ch [17] M M := Ch.rf
  obtain ⟨M1, eM, h⟩ := fw_i h
  have hC := hC.up (by decide) eM
  obtain ⟨M2, eM, h⟩ := fw_i h
  have hC := hC.up (by decide) eM
  cases h
  exact hC
theorem Law_emit_17_c     (x1 : Int) (x2 : Int) (M : am_M) (r : Int × am_M) (h : Law_emit_17    x1 x2 M = some r) : Ch [17, 18, 19] M r.2 := by
  have hC : Ch [17, 18, 19] M M := Ch.rf
  obtain ⟨hR, ⟨hc, h⟩ | ⟨hc, h⟩⟩ := c_lt_i h
  · skip
    obtain ⟨hc, M1, eM, h⟩ := wa_i h
    have hC := hC.up (by decide) eM
    obtain ⟨hc, M2, eM, h⟩ := wa_i h
    have hC := hC.up (by decide) eM
    obtain ⟨M3, eM, h⟩ := fw_i h
    have hC := hC.up (by decide) eM
    cases h
    exact hC
  · skip
    cases h
    exact hC
theorem LawReader_readSum_16_32_c (rc41 : Int → am_M → Option am_M) (hrc41 : ∀ (a0 : Int) (M r : am_M), rc41 a0 M = some r → Ch [16, 17, 18, 19] M r) (k7 : Int → Int → am_M → Option (am_M)) (hk7 : ∀ (x1 : Int) (x2 : Int) (M : am_M) (r : am_M), k7 x1 x2 M = some r → Ch [16, 17, 18, 19] M r) (x1 : Int) (x2 : Int) (M : am_M) (r : am_M) (h : LawReader_readSum_16_32  rc41 k7 x1 x2 M = some r) : Ch [16, 17, 18, 19] M r := by
  have hC : Ch [16, 17, 18, 19] M M := Ch.rf
  obtain ⟨v1, hv, h⟩ := ob_i h
  obtain ⟨M2, eM, h⟩ := fw_i h
  have hC := hC.up (by decide) eM
  obtain ⟨M3, hv, h⟩ := ob_i h
  have hC := hC.tr (hrc41 (x1) M2 _ hv) (by decide)
  obtain ⟨v4, M5, hv, h⟩ := oc_i h
  have hC := hC.tr (Law_emit_17_c (v1) (0) M3 _ hv) (by decide)
  exact hC.tr (hk7 (x1) ((x2) + (1)) M5 r h) (by decide)
theorem LawReader_readSum_16_68_c (rc41 : Int → am_M → Option am_M) (hrc41 : ∀ (a0 : Int) (M r : am_M), rc41 a0 M = some r → Ch [16, 17, 18, 19] M r)    (M : am_M) (r : am_M) (h : LawReader_readSum_16_68  rc41   M = some r) : Ch [16, 17, 18, 19] M r := by
  have hC : Ch [16, 17, 18, 19] M M := Ch.rf
  cases h
  exact hC
theorem LawReader_readSum_16_7_c (rc41 : Int → am_M → Option am_M) (hrc41 : ∀ (a0 : Int) (M r : am_M), rc41 a0 M = some r → Ch [16, 17, 18, 19] M r)   : ∀ (n : Nat) (x1 : Int) (x2 : Int) (M : am_M) (r : am_M), LawReader_readSum_16_7  rc41  n x1 x2 M = some r → Ch [16, 17, 18, 19] M r
  | 0, _, _, M, r, h => by cases h
  | n + 1, x1, x2, M, r, h => by
    have ih := LawReader_readSum_16_7_c rc41 hrc41   n
    have hC : Ch [16, 17, 18, 19] M M := Ch.rf
    obtain ⟨hR, ⟨hc, h⟩ | ⟨hc, h⟩⟩ := c_ge_i h
    · skip
      exact hC.tr (LawReader_readSum_16_68_c rc41 hrc41    M r h) (by decide)
    · skip
      obtain ⟨v1, hv, h⟩ := ob_i h
      obtain ⟨hR, ⟨hc, h⟩ | ⟨hc, h⟩⟩ := c_eq_i h
      · skip
        exact hC.tr (LawReader_readSum_16_32_c rc41 hrc41 (LawReader_readSum_16_7  rc41  n) ih (x1) (x2) M r h) (by decide)
      · skip
        obtain ⟨v2, hv, h⟩ := ob_i h
        obtain ⟨hR, ⟨hc, h⟩ | ⟨hc, h⟩⟩ := c_ne_i h
        · skip
          exact hC.tr (LawReader_readSum_16_68_c rc41 hrc41    M r h) (by decide)
        · skip
          exact hC.tr (LawReader_readSum_16_32_c rc41 hrc41 (LawReader_readSum_16_7  rc41  n) ih (x1) (x2) M r h) (by decide)
theorem LawReader_readSum_16_c (rc41 : Int → am_M → Option am_M) (hrc41 : ∀ (a0 : Int) (M r : am_M), rc41 a0 M = some r → Ch [16, 17, 18, 19] M r)   (x1 : Int) (M : am_M) (r : am_M) (h : LawReader_readSum_16  rc41  x1 M = some r) : Ch [16, 17, 18, 19] M r := by
  have hC : Ch [16, 17, 18, 19] M M := Ch.rf
  obtain ⟨M1, hv, h⟩ := ob_i h
  have hC := hC.tr (hrc41 (x1) M _ hv) (by decide)
  exact hC.tr (LawReader_readSum_16_7_c rc41 hrc41   am_big (x1) (0) M1 r h) (by decide)
theorem LawReader_readProduct_16_60_c (rc42 : Int → am_M → Option am_M) (hrc42 : ∀ (a0 : Int) (M r : am_M), rc42 a0 M = some r → Ch [16, 17, 18, 19] M r)    (M : am_M) (r : am_M) (h : LawReader_readProduct_16_60  rc42   M = some r) : Ch [16, 17, 18, 19] M r := by
  have hC : Ch [16, 17, 18, 19] M M := Ch.rf
  cases h
  exact hC
theorem LawReader_readProduct_16_7_c (rc42 : Int → am_M → Option am_M) (hrc42 : ∀ (a0 : Int) (M r : am_M), rc42 a0 M = some r → Ch [16, 17, 18, 19] M r)   : ∀ (n : Nat) (x1 : Int) (x2 : Int) (M : am_M) (r : am_M), LawReader_readProduct_16_7  rc42  n x1 x2 M = some r → Ch [16, 17, 18, 19] M r
  | 0, _, _, M, r, h => by cases h
  | n + 1, x1, x2, M, r, h => by
    have ih := LawReader_readProduct_16_7_c rc42 hrc42   n
    have hC : Ch [16, 17, 18, 19] M M := Ch.rf
    obtain ⟨hR, ⟨hc, h⟩ | ⟨hc, h⟩⟩ := c_ge_i h
    · skip
      exact hC.tr (LawReader_readProduct_16_60_c rc42 hrc42    M r h) (by decide)
    · skip
      obtain ⟨v1, hv, h⟩ := ob_i h
      obtain ⟨v2, hv, h⟩ := ob_i h
      obtain ⟨hR, ⟨hc, h⟩ | ⟨hc, h⟩⟩ := c_eq_i h
      · skip
        exact hC.tr (LawReader_readProduct_16_60_c rc42 hrc42    M r h) (by decide)
      · skip
        obtain ⟨v3, hv, h⟩ := ob_i h
        obtain ⟨M4, eM, h⟩ := fw_i h
        have hC := hC.up (by decide) eM
        obtain ⟨M5, hv, h⟩ := ob_i h
        have hC := hC.tr (hrc42 (x1) M4 _ hv) (by decide)
        obtain ⟨v6, M7, hv, h⟩ := oc_i h
        have hC := hC.tr (Law_emit_17_c (v3) (0) M5 _ hv) (by decide)
        exact hC.tr (ih (x1) ((x2) + (1)) M7 r h) (by decide)
theorem LawReader_readProduct_16_c (rc42 : Int → am_M → Option am_M) (hrc42 : ∀ (a0 : Int) (M r : am_M), rc42 a0 M = some r → Ch [16, 17, 18, 19] M r)   (x1 : Int) (M : am_M) (r : am_M) (h : LawReader_readProduct_16  rc42  x1 M = some r) : Ch [16, 17, 18, 19] M r := by
  have hC : Ch [16, 17, 18, 19] M M := Ch.rf
  obtain ⟨M1, hv, h⟩ := ob_i h
  have hC := hC.tr (hrc42 (x1) M _ hv) (by decide)
  exact hC.tr (LawReader_readProduct_16_7_c rc42 hrc42   am_big (x1) (0) M1 r h) (by decide)
theorem LawReader_fail_16_19_c      (M : am_M) (r : am_M) (h : LawReader_fail_16_19     M = some r) : Ch [16] M r := by
  have hC : Ch [16] M M := Ch.rf
  cases h
  exact hC
theorem LawReader_fail_16_c     (x1 : Int) (M : am_M) (r : am_M) (h : LawReader_fail_16    x1 M = some r) : Ch [16] M r := by
  have hC : Ch [16] M M := Ch.rf
  obtain ⟨hR, ⟨hc, h⟩ | ⟨hc, h⟩⟩ := c_ne_i h
  · skip
    exact hC.tr (LawReader_fail_16_19_c      M r h) (by decide)
  · skip
    obtain ⟨v1, hv, h⟩ := ob_i h
    obtain ⟨M2, eM, h⟩ := fw_i h
    have hC := hC.up (by decide) eM
    exact hC.tr (LawReader_fail_16_19_c      M2 r h) (by decide)
theorem LawReader_opens_16_c     (x1 : Int) (M : am_M) (r : Int × am_M) (h : LawReader_opens_16    x1 M = some r) : Ch [16] M r.2 := by
  have hC : Ch [16] M M := Ch.rf
  obtain ⟨hR, ⟨hc, h⟩ | ⟨hc, h⟩⟩ := c_lt_i h
  · skip
    obtain ⟨M1, eM, h⟩ := fw_i h
    have hC := hC.up (by decide) eM
    cases h
    exact hC
  · skip
    obtain ⟨M2, hv, h⟩ := ob_i h
    have hC := hC.tr (LawReader_fail_16_c (5) M _ hv) (by decide)
    cases h
    exact hC
theorem LawReader_expect_16_26_c      (M : am_M) (r : am_M) (h : LawReader_expect_16_26     M = some r) : Ch [16] M r := by
  have hC : Ch [16] M M := Ch.rf
  cases h
  exact hC
theorem LawReader_expect_16_c     (x1 : Int) (M : am_M) (r : am_M) (h : LawReader_expect_16    x1 M = some r) : Ch [16] M r := by
  have hC : Ch [16] M M := Ch.rf
  obtain ⟨v1, hv, h⟩ := ob_i h
  obtain ⟨hR, ⟨hc, h⟩ | ⟨hc, h⟩⟩ := c_ne_i h
  · skip
    obtain ⟨M2, hv, h⟩ := ob_i h
    have hC := hC.tr (LawReader_fail_16_c (1) M _ hv) (by decide)
    exact hC.tr (LawReader_expect_16_26_c      M2 r h) (by decide)
  · skip
    obtain ⟨M3, eM, h⟩ := fw_i h
    have hC := hC.up (by decide) eM
    exact hC.tr (LawReader_expect_16_26_c      M3 r h) (by decide)
theorem LawReader_readFactor_16_158_c (rc40 : Int → am_M → Option am_M) (hrc40 : ∀ (a0 : Int) (M r : am_M), rc40 a0 M = some r → Ch [16, 17, 18, 19] M r)    (M : am_M) (r : am_M) (h : LawReader_readFactor_16_158  rc40   M = some r) : Ch [16, 17, 18, 19] M r := by
  have hC : Ch [16, 17, 18, 19] M M := Ch.rf
  cases h
  exact hC
theorem LawReader_readFactor_16_140_c (rc40 : Int → am_M → Option am_M) (hrc40 : ∀ (a0 : Int) (M r : am_M), rc40 a0 M = some r → Ch [16, 17, 18, 19] M r)   (x3 : Int) (M : am_M) (r : am_M) (h : LawReader_readFactor_16_140  rc40  x3 M = some r) : Ch [16, 17, 18, 19] M r := by
  have hC : Ch [16, 17, 18, 19] M M := Ch.rf
  obtain ⟨v1, M2, hv, h⟩ := oc_i h
  have hC := hC.tr (Law_emit_17_c (0) (x3) M _ hv) (by decide)
  exact hC.tr (LawReader_readFactor_16_158_c rc40 hrc40    M2 r h) (by decide)
theorem LawReader_readFactor_16_125_c (rc40 : Int → am_M → Option am_M) (hrc40 : ∀ (a0 : Int) (M r : am_M), rc40 a0 M = some r → Ch [16, 17, 18, 19] M r)   (x3 : Int) (M : am_M) (r : am_M) (h : LawReader_readFactor_16_125  rc40  x3 M = some r) : Ch [16, 17, 18, 19] M r := by
  have hC : Ch [16, 17, 18, 19] M M := Ch.rf
  obtain ⟨v1, hv, h⟩ := ob_i h
  obtain ⟨v2, hv, h⟩ := ob_i h
  obtain ⟨hR, ⟨hc, h⟩ | ⟨hc, h⟩⟩ := c_eq_i h
  · skip
    exact hC.tr (LawReader_readFactor_16_140_c rc40 hrc40   (x3) M r h) (by decide)
  · skip
    obtain ⟨M3, hv, h⟩ := ob_i h
    have hC := hC.tr (LawReader_fail_16_c (2) M _ hv) (by decide)
    exact hC.tr (LawReader_readFactor_16_140_c rc40 hrc40   (x3) M3 r h) (by decide)
theorem LawReader_readFactor_16_80_c (rc40 : Int → am_M → Option am_M) (hrc40 : ∀ (a0 : Int) (M r : am_M), rc40 a0 M = some r → Ch [16, 17, 18, 19] M r)   : ∀ (n : Nat) (x3 : Int) (x4 : Int) (M : am_M) (r : am_M), LawReader_readFactor_16_80  rc40  n x3 x4 M = some r → Ch [16, 17, 18, 19] M r
  | 0, _, _, M, r, h => by cases h
  | n + 1, x3, x4, M, r, h => by
    have ih := LawReader_readFactor_16_80_c rc40 hrc40   n
    have hC : Ch [16, 17, 18, 19] M M := Ch.rf
    obtain ⟨hR, ⟨hc, h⟩ | ⟨hc, h⟩⟩ := c_ge_i h
    · skip
      exact hC.tr (LawReader_readFactor_16_125_c rc40 hrc40   (x3) M r h) (by decide)
    · skip
      obtain ⟨v1, hv, h⟩ := ob_i h
      obtain ⟨v2, hv, h⟩ := ob_i h
      obtain ⟨hR, ⟨hc, h⟩ | ⟨hc, h⟩⟩ := c_eq_i h
      · skip
        exact hC.tr (LawReader_readFactor_16_125_c rc40 hrc40   (x3) M r h) (by decide)
      · skip
        obtain ⟨v3, hv, h⟩ := ob_i h
        obtain ⟨M4, eM, h⟩ := fw_i h
        have hC := hC.up (by decide) eM
        exact hC.tr (ih ((((10) * (x3)) + (v3)) - (48)) ((x4) + (1)) M4 r h) (by decide)
theorem LawReader_readFactor_16_c (rc40 : Int → am_M → Option am_M) (hrc40 : ∀ (a0 : Int) (M r : am_M), rc40 a0 M = some r → Ch [16, 17, 18, 19] M r)   (x1 : Int) (M : am_M) (r : am_M) (h : LawReader_readFactor_16  rc40  x1 M = some r) : Ch [16, 17, 18, 19] M r := by
  have hC : Ch [16, 17, 18, 19] M M := Ch.rf
  obtain ⟨v1, hv, h⟩ := ob_i h
  obtain ⟨hR, ⟨hc, h⟩ | ⟨hc, h⟩⟩ := c_ne_i h
  · skip
    obtain ⟨v2, hv, h⟩ := ob_i h
    obtain ⟨hR, ⟨hc, h⟩ | ⟨hc, h⟩⟩ := c_lt_i h
    · skip
      obtain ⟨v3, hv, h⟩ := ob_i h
      obtain ⟨hR, ⟨hc, h⟩ | ⟨hc, h⟩⟩ := c_eq_i h
      · skip
        obtain ⟨M4, hv, h⟩ := ob_i h
        have hC := hC.tr (LawReader_fail_16_c (1) M _ hv) (by decide)
        exact hC.tr (LawReader_readFactor_16_158_c rc40 hrc40    M4 r h) (by decide)
      · skip
        exact hC.tr (LawReader_readFactor_16_80_c rc40 hrc40   am_big (0) (0) M r h) (by decide)
    · skip
      obtain ⟨v5, hv, h⟩ := ob_i h
      obtain ⟨v6, M7, hv, h⟩ := oc_i h
      have hC := hC.tr (Law_emit_17_c (1) (v5) M _ hv) (by decide)
      obtain ⟨M8, eM, h⟩ := fw_i h
      have hC := hC.up (by decide) eM
      exact hC.tr (LawReader_readFactor_16_158_c rc40 hrc40    M8 r h) (by decide)
  · skip
    obtain ⟨v9, M10, hv, h⟩ := oc_i h
    have hC := hC.tr (LawReader_opens_16_c (x1) M _ hv) (by decide)
    obtain ⟨hR, ⟨hc, h⟩ | ⟨hc, h⟩⟩ := c_eq_i h
    · skip
      exact hC.tr (LawReader_readFactor_16_158_c rc40 hrc40    M10 r h) (by decide)
    · skip
      obtain ⟨M11, hv, h⟩ := ob_i h
      have hC := hC.tr (hrc40 ((x1) + (1)) M10 _ hv) (by decide)
      obtain ⟨M12, hv, h⟩ := ob_i h
      have hC := hC.tr (LawReader_expect_16_c (93) M11 _ hv) (by decide)
      exact hC.tr (LawReader_readFactor_16_158_c rc40 hrc40    M12 r h) (by decide)
theorem K_LawReader_readSum_R_c : ∀ (n w : Nat) (a0 : Int) (M r : am_M), K_LawReader_readSum_R n w a0 M = some r → Ch [16, 17, 18, 19] M r
  | 0, _, _, M, r, h => by cases h
  | n + 1, w, a0, M, r, h => by
    have ih := K_LawReader_readSum_R_c n
    match w, h with
    | 0, h => exact (LawReader_readSum_16_c _ (fun b0 M r h => (ih 1 b0 M r h).mo (by decide)) a0 M r h).mo (by decide)
    | 1, h => exact (LawReader_readProduct_16_c _ (fun b0 M r h => (ih 2 b0 M r h).mo (by decide)) a0 M r h).mo (by decide)
    | _ + 2, h => exact (LawReader_readFactor_16_c _ (fun b0 M r h => (ih 0 b0 M r h).mo (by decide)) a0 M r h).mo (by decide)
theorem K_LawReader_readSum_c (a0 : Int) (M r : am_M) (h : K_LawReader_readSum a0 M = some r) : Ch [16, 17, 18, 19] M r := K_LawReader_readSum_R_c _ _ a0 M r h
theorem K_LawReader_readProduct_c (a0 : Int) (M r : am_M) (h : K_LawReader_readProduct a0 M = some r) : Ch [16, 17, 18, 19] M r := K_LawReader_readSum_R_c _ _ a0 M r h
theorem K_LawReader_readFactor_c (a0 : Int) (M r : am_M) (h : K_LawReader_readFactor a0 M = some r) : Ch [16, 17, 18, 19] M r := K_LawReader_readSum_R_c _ _ a0 M r h
theorem Law_setOperand_17_26_c      (M : am_M) (r : am_M) (h : Law_setOperand_17_26     M = some r) : Ch [19] M r := by
  have hC : Ch [19] M M := Ch.rf
  cases h
  exact hC
theorem Law_setOperand_17_c     (x1 : Int) (x2 : Int) (M : am_M) (r : am_M) (h : Law_setOperand_17    x1 x2 M = some r) : Ch [19] M r := by
  have hC : Ch [19] M M := Ch.rf
  obtain ⟨hR, ⟨hc, h⟩ | ⟨hc, h⟩⟩ := c_lt_i h
  · skip
    exact hC.tr (Law_setOperand_17_26_c      M r h) (by decide)
  · skip
    obtain ⟨hR, ⟨hc, h⟩ | ⟨hc, h⟩⟩ := c_ge_i h
    · skip
      exact hC.tr (Law_setOperand_17_26_c      M r h) (by decide)
    · skip
      obtain ⟨hR, ⟨hc, h⟩ | ⟨hc, h⟩⟩ := c_ge_i h
      · skip
        exact hC.tr (Law_setOperand_17_26_c      M r h) (by decide)
      · skip
        obtain ⟨hc, M1, eM, h⟩ := wa_i h
        have hC := hC.up (by decide) eM
        exact hC.tr (Law_setOperand_17_26_c      M1 r h) (by decide)
theorem LawReader_readChoice_16_69_c (rc49 : Int → am_M → Option am_M) (hrc49 : ∀ (a0 : Int) (M r : am_M), rc49 a0 M = some r → Ch [16, 17, 18, 19] M r)    (M : am_M) (r : am_M) (h : LawReader_readChoice_16_69  rc49   M = some r) : Ch [16, 17, 18, 19] M r := by
  have hC : Ch [16, 17, 18, 19] M M := Ch.rf
  cases h
  exact hC
theorem LawReader_readChoice_16_7_c (rc49 : Int → am_M → Option am_M) (hrc49 : ∀ (a0 : Int) (M r : am_M), rc49 a0 M = some r → Ch [16, 17, 18, 19] M r)   : ∀ (n : Nat) (x1 : Int) (x2 : Int) (M : am_M) (r : am_M), LawReader_readChoice_16_7  rc49  n x1 x2 M = some r → Ch [16, 17, 18, 19] M r
  | 0, _, _, M, r, h => by cases h
  | n + 1, x1, x2, M, r, h => by
    have ih := LawReader_readChoice_16_7_c rc49 hrc49   n
    have hC : Ch [16, 17, 18, 19] M M := Ch.rf
    obtain ⟨hR, ⟨hc, h⟩ | ⟨hc, h⟩⟩ := c_ge_i h
    · skip
      exact hC.tr (LawReader_readChoice_16_69_c rc49 hrc49    M r h) (by decide)
    · skip
      obtain ⟨v1, hv, h⟩ := ob_i h
      obtain ⟨hR, ⟨hc, h⟩ | ⟨hc, h⟩⟩ := c_ne_i h
      · skip
        exact hC.tr (LawReader_readChoice_16_69_c rc49 hrc49    M r h) (by decide)
      · skip
        obtain ⟨M2, eM, h⟩ := fw_i h
        have hC := hC.up (by decide) eM
        obtain ⟨v3, M4, hv, h⟩ := oc_i h
        have hC := hC.tr (Law_emit_17_c (3) (0) M2 _ hv) (by decide)
        obtain ⟨M5, hv, h⟩ := ob_i h
        have hC := hC.tr (hrc49 (x1) M4 _ hv) (by decide)
        obtain ⟨M6, hv, h⟩ := ob_i h
        have hC := hC.tr (Law_setOperand_17_c (v3) (M5 17 2) M5 _ hv) (by decide)
        exact hC.tr (ih (x1) ((x2) + (1)) M6 r h) (by decide)
theorem LawReader_readChoice_16_c (rc49 : Int → am_M → Option am_M) (hrc49 : ∀ (a0 : Int) (M r : am_M), rc49 a0 M = some r → Ch [16, 17, 18, 19] M r)   (x1 : Int) (M : am_M) (r : am_M) (h : LawReader_readChoice_16  rc49  x1 M = some r) : Ch [16, 17, 18, 19] M r := by
  have hC : Ch [16, 17, 18, 19] M M := Ch.rf
  obtain ⟨M1, hv, h⟩ := ob_i h
  have hC := hC.tr (hrc49 (x1) M _ hv) (by decide)
  exact hC.tr (LawReader_readChoice_16_7_c rc49 hrc49   am_big (x1) (0) M1 r h) (by decide)
theorem LawReader_readAll_16_69_c (rc50 : Int → am_M → Option am_M) (hrc50 : ∀ (a0 : Int) (M r : am_M), rc50 a0 M = some r → Ch [16, 17, 18, 19] M r)    (M : am_M) (r : am_M) (h : LawReader_readAll_16_69  rc50   M = some r) : Ch [16, 17, 18, 19] M r := by
  have hC : Ch [16, 17, 18, 19] M M := Ch.rf
  cases h
  exact hC
theorem LawReader_readAll_16_7_c (rc50 : Int → am_M → Option am_M) (hrc50 : ∀ (a0 : Int) (M r : am_M), rc50 a0 M = some r → Ch [16, 17, 18, 19] M r)   : ∀ (n : Nat) (x1 : Int) (x2 : Int) (M : am_M) (r : am_M), LawReader_readAll_16_7  rc50  n x1 x2 M = some r → Ch [16, 17, 18, 19] M r
  | 0, _, _, M, r, h => by cases h
  | n + 1, x1, x2, M, r, h => by
    have ih := LawReader_readAll_16_7_c rc50 hrc50   n
    have hC : Ch [16, 17, 18, 19] M M := Ch.rf
    obtain ⟨hR, ⟨hc, h⟩ | ⟨hc, h⟩⟩ := c_ge_i h
    · skip
      exact hC.tr (LawReader_readAll_16_69_c rc50 hrc50    M r h) (by decide)
    · skip
      obtain ⟨v1, hv, h⟩ := ob_i h
      obtain ⟨hR, ⟨hc, h⟩ | ⟨hc, h⟩⟩ := c_ne_i h
      · skip
        exact hC.tr (LawReader_readAll_16_69_c rc50 hrc50    M r h) (by decide)
      · skip
        obtain ⟨M2, eM, h⟩ := fw_i h
        have hC := hC.up (by decide) eM
        obtain ⟨v3, M4, hv, h⟩ := oc_i h
        have hC := hC.tr (Law_emit_17_c (4) (0) M2 _ hv) (by decide)
        obtain ⟨M5, hv, h⟩ := ob_i h
        have hC := hC.tr (hrc50 (x1) M4 _ hv) (by decide)
        obtain ⟨M6, hv, h⟩ := ob_i h
        have hC := hC.tr (Law_setOperand_17_c (v3) (M5 17 2) M5 _ hv) (by decide)
        exact hC.tr (ih (x1) ((x2) + (1)) M6 r h) (by decide)
theorem LawReader_readAll_16_c (rc50 : Int → am_M → Option am_M) (hrc50 : ∀ (a0 : Int) (M r : am_M), rc50 a0 M = some r → Ch [16, 17, 18, 19] M r)   (x1 : Int) (M : am_M) (r : am_M) (h : LawReader_readAll_16  rc50  x1 M = some r) : Ch [16, 17, 18, 19] M r := by
  have hC : Ch [16, 17, 18, 19] M M := Ch.rf
  obtain ⟨M1, hv, h⟩ := ob_i h
  have hC := hC.tr (hrc50 (x1) M _ hv) (by decide)
  exact hC.tr (LawReader_readAll_16_7_c rc50 hrc50   am_big (x1) (0) M1 r h) (by decide)
theorem LawReader_readTest_16_130_c (rc48 : Int → am_M → Option am_M) (rc50 : Int → am_M → Option am_M) (hrc48 : ∀ (a0 : Int) (M r : am_M), rc48 a0 M = some r → Ch [16, 17, 18, 19] M r) (hrc50 : ∀ (a0 : Int) (M r : am_M), rc50 a0 M = some r → Ch [16, 17, 18, 19] M r)    (M : am_M) (r : am_M) (h : LawReader_readTest_16_130  rc48 rc50   M = some r) : Ch [16, 17, 18, 19] M r := by
  have hC : Ch [16, 17, 18, 19] M M := Ch.rf
  cases h
  exact hC
theorem LawReader_readTest_16_97_c (rc48 : Int → am_M → Option am_M) (rc50 : Int → am_M → Option am_M) (hrc48 : ∀ (a0 : Int) (M r : am_M), rc48 a0 M = some r → Ch [16, 17, 18, 19] M r) (hrc50 : ∀ (a0 : Int) (M r : am_M), rc50 a0 M = some r → Ch [16, 17, 18, 19] M r)   (x1 : Int) (x3 : Int) (M : am_M) (r : am_M) (h : LawReader_readTest_16_97  rc48 rc50  x1 x3 M = some r) : Ch [16, 17, 18, 19] M r := by
  have hC : Ch [16, 17, 18, 19] M M := Ch.rf
  obtain ⟨M1, eM, h⟩ := fw_i h
  have hC := hC.up (by decide) eM
  obtain ⟨M2, hv, h⟩ := ob_i h
  have hC := hC.tr (K_LawReader_readSum_c (x1) M1 _ hv) (by decide)
  obtain ⟨v3, M4, hv, h⟩ := oc_i h
  have hC := hC.tr (Law_emit_17_c (x3) (0) M2 _ hv) (by decide)
  exact hC.tr (LawReader_readTest_16_130_c rc48 rc50 hrc48 hrc50    M4 r h) (by decide)
theorem LawReader_readTest_16_c (rc48 : Int → am_M → Option am_M) (rc50 : Int → am_M → Option am_M) (hrc48 : ∀ (a0 : Int) (M r : am_M), rc48 a0 M = some r → Ch [16, 17, 18, 19] M r) (hrc50 : ∀ (a0 : Int) (M r : am_M), rc50 a0 M = some r → Ch [16, 17, 18, 19] M r)   (x1 : Int) (M : am_M) (r : am_M) (h : LawReader_readTest_16  rc48 rc50  x1 M = some r) : Ch [16, 17, 18, 19] M r := by
  have hC : Ch [16, 17, 18, 19] M M := Ch.rf
  obtain ⟨v1, hv, h⟩ := ob_i h
  obtain ⟨hR, ⟨hc, h⟩ | ⟨hc, h⟩⟩ := c_ne_i h
  · skip
    obtain ⟨hR, ⟨hc, h⟩ | ⟨hc, h⟩⟩ := c_ne_i h
    · skip
      obtain ⟨M2, hv, h⟩ := ob_i h
      have hC := hC.tr (K_LawReader_readSum_c (x1) M _ hv) (by decide)
      obtain ⟨v3, hv, h⟩ := ob_i h
      obtain ⟨hR, ⟨hc, h⟩ | ⟨hc, h⟩⟩ := c_eq_i h
      · skip
        exact hC.tr (LawReader_readTest_16_97_c rc48 rc50 hrc48 hrc50   (x1) (v3) M2 r h) (by decide)
      · skip
        obtain ⟨hR, ⟨hc, h⟩ | ⟨hc, h⟩⟩ := c_eq_i h
        · skip
          exact hC.tr (LawReader_readTest_16_97_c rc48 rc50 hrc48 hrc50   (x1) (v3) M2 r h) (by decide)
        · skip
          obtain ⟨hR, ⟨hc, h⟩ | ⟨hc, h⟩⟩ := c_ne_i h
          · skip
            obtain ⟨M4, hv, h⟩ := ob_i h
            have hC := hC.tr (LawReader_fail_16_c (1) M2 _ hv) (by decide)
            exact hC.tr (LawReader_readTest_16_130_c rc48 rc50 hrc48 hrc50    M4 r h) (by decide)
          · skip
            exact hC.tr (LawReader_readTest_16_97_c rc48 rc50 hrc48 hrc50   (x1) (v3) M2 r h) (by decide)
    · skip
      obtain ⟨v5, M6, hv, h⟩ := oc_i h
      have hC := hC.tr (LawReader_opens_16_c (x1) M _ hv) (by decide)
      obtain ⟨hR, ⟨hc, h⟩ | ⟨hc, h⟩⟩ := c_eq_i h
      · skip
        exact hC.tr (LawReader_readTest_16_130_c rc48 rc50 hrc48 hrc50    M6 r h) (by decide)
      · skip
        obtain ⟨M7, hv, h⟩ := ob_i h
        have hC := hC.tr (hrc48 ((x1) + (1)) M6 _ hv) (by decide)
        obtain ⟨M8, hv, h⟩ := ob_i h
        have hC := hC.tr (LawReader_expect_16_c (41) M7 _ hv) (by decide)
        exact hC.tr (LawReader_readTest_16_130_c rc48 rc50 hrc48 hrc50    M8 r h) (by decide)
  · skip
    obtain ⟨v9, M10, hv, h⟩ := oc_i h
    have hC := hC.tr (LawReader_opens_16_c (x1) M _ hv) (by decide)
    obtain ⟨hR, ⟨hc, h⟩ | ⟨hc, h⟩⟩ := c_eq_i h
    · skip
      exact hC.tr (LawReader_readTest_16_130_c rc48 rc50 hrc48 hrc50    M10 r h) (by decide)
    · skip
      obtain ⟨M11, hv, h⟩ := ob_i h
      have hC := hC.tr (hrc50 ((x1) + (1)) M10 _ hv) (by decide)
      obtain ⟨v12, M13, hv, h⟩ := oc_i h
      have hC := hC.tr (Law_emit_17_c (2) (0) M11 _ hv) (by decide)
      exact hC.tr (LawReader_readTest_16_130_c rc48 rc50 hrc48 hrc50    M13 r h) (by decide)
theorem K_LawReader_readChoice_R_c : ∀ (n w : Nat) (a0 : Int) (M r : am_M), K_LawReader_readChoice_R n w a0 M = some r → Ch [16, 17, 18, 19] M r
  | 0, _, _, M, r, h => by cases h
  | n + 1, w, a0, M, r, h => by
    have ih := K_LawReader_readChoice_R_c n
    match w, h with
    | 0, h => exact (LawReader_readChoice_16_c _ (fun b0 M r h => (ih 1 b0 M r h).mo (by decide)) a0 M r h).mo (by decide)
    | 1, h => exact (LawReader_readAll_16_c _ (fun b0 M r h => (ih 2 b0 M r h).mo (by decide)) a0 M r h).mo (by decide)
    | _ + 2, h => exact (LawReader_readTest_16_c _ _ (fun b0 M r h => (ih 0 b0 M r h).mo (by decide)) (fun b0 M r h => (ih 2 b0 M r h).mo (by decide)) a0 M r h).mo (by decide)
theorem K_LawReader_readChoice_c (a0 : Int) (M r : am_M) (h : K_LawReader_readChoice a0 M = some r) : Ch [16, 17, 18, 19] M r := K_LawReader_readChoice_R_c _ _ a0 M r h
theorem K_LawReader_readAll_c (a0 : Int) (M r : am_M) (h : K_LawReader_readAll a0 M = some r) : Ch [16, 17, 18, 19] M r := K_LawReader_readChoice_R_c _ _ a0 M r h
theorem K_LawReader_readTest_c (a0 : Int) (M r : am_M) (h : K_LawReader_readTest a0 M = some r) : Ch [16, 17, 18, 19] M r := K_LawReader_readChoice_R_c _ _ a0 M r h
theorem Law_addClause_17_62_c      (M : am_M) (r : am_M) (h : Law_addClause_17_62     M = some r) : Ch [17, 20, 21, 22, 23] M r := by
  have hC : Ch [17, 20, 21, 22, 23] M M := Ch.rf
  cases h
  exact hC
theorem Law_addClause_17_c     (x1 : Int) (x2 : Int) (x3 : Int) (M : am_M) (r : am_M) (h : Law_addClause_17    x1 x2 x3 M = some r) : Ch [17, 20, 21, 22, 23] M r := by
  have hC : Ch [17, 20, 21, 22, 23] M M := Ch.rf
  obtain ⟨hR, ⟨hc, h⟩ | ⟨hc, h⟩⟩ := c_ge_i h
  · skip
    exact hC.tr (Law_addClause_17_62_c      M r h) (by decide)
  · skip
    obtain ⟨hc, M1, eM, h⟩ := wa_i h
    have hC := hC.up (by decide) eM
    obtain ⟨hc, M2, eM, h⟩ := wa_i h
    have hC := hC.up (by decide) eM
    obtain ⟨hc, M3, eM, h⟩ := wa_i h
    have hC := hC.up (by decide) eM
    obtain ⟨hc, M4, eM, h⟩ := wa_i h
    have hC := hC.up (by decide) eM
    obtain ⟨M5, eM, h⟩ := fw_i h
    have hC := hC.up (by decide) eM
    exact hC.tr (Law_addClause_17_62_c      M5 r h) (by decide)
theorem LawReader_readClause_16_98_c      (M : am_M) (r : am_M) (h : LawReader_readClause_16_98     M = some r) : Ch [16, 17, 18, 19, 20, 21, 22, 23] M r := by
  have hC : Ch [16, 17, 18, 19, 20, 21, 22, 23] M M := Ch.rf
  cases h
  exact hC
theorem LawReader_readClause_16_c      (M : am_M) (r : am_M) (h : LawReader_readClause_16     M = some r) : Ch [16, 17, 18, 19, 20, 21, 22, 23] M r := by
  have hC : Ch [16, 17, 18, 19, 20, 21, 22, 23] M M := Ch.rf
  obtain ⟨v1, hv, h⟩ := ob_i h
  obtain ⟨v2, hv, h⟩ := ob_i h
  obtain ⟨hR, ⟨hc, h⟩ | ⟨hc, h⟩⟩ := c_ne_i h
  · skip
    obtain ⟨hR, ⟨hc, h⟩ | ⟨hc, h⟩⟩ := c_lt_i h
    · skip
      obtain ⟨M3, eM, h⟩ := fw_i h
      have hC := hC.up (by decide) eM
      obtain ⟨M4, hv, h⟩ := ob_i h
      have hC := hC.tr (K_LawReader_readSum_c (0) M3 _ hv) (by decide)
      obtain ⟨M5, hv, h⟩ := ob_i h
      have hC := hC.tr (LawReader_expect_16_c (40) M4 _ hv) (by decide)
      obtain ⟨M6, hv, h⟩ := ob_i h
      have hC := hC.tr (K_LawReader_readChoice_c (1) M5 _ hv) (by decide)
      obtain ⟨M7, hv, h⟩ := ob_i h
      have hC := hC.tr (LawReader_expect_16_c (41) M6 _ hv) (by decide)
      obtain ⟨M8, hv, h⟩ := ob_i h
      have hC := hC.tr (Law_addClause_17_c (v1) (M3 17 2) (M4 17 2) M7 _ hv) (by decide)
      exact hC.tr (LawReader_readClause_16_98_c      M8 r h) (by decide)
    · skip
      obtain ⟨M9, hv, h⟩ := ob_i h
      have hC := hC.tr (LawReader_fail_16_c (4) M _ hv) (by decide)
      exact hC.tr (LawReader_readClause_16_98_c      M9 r h) (by decide)
  · skip
    obtain ⟨M10, hv, h⟩ := ob_i h
    have hC := hC.tr (LawReader_fail_16_c (1) M _ hv) (by decide)
    exact hC.tr (LawReader_readClause_16_98_c      M10 r h) (by decide)
theorem Law_copyFrom_5_17_c      (M : am_M) (r : am_M) (h : Law_copyFrom_5_17     M = some r) : Ch [5, 6, 7, 8, 9, 10, 11] M r := by
  have hC : Ch [5, 6, 7, 8, 9, 10, 11] M M := Ch.rf
  obtain ⟨hc, M1, eM, h⟩ := cpy_i h
  have hC := hC.cp (by decide) eM
  obtain ⟨hc, M2, eM, h⟩ := cpy_i h
  have hC := hC.cp (by decide) eM
  obtain ⟨hc, M3, eM, h⟩ := cpy_i h
  have hC := hC.cp (by decide) eM
  obtain ⟨hc, M4, eM, h⟩ := cpy_i h
  have hC := hC.cp (by decide) eM
  obtain ⟨hc, M5, eM, h⟩ := cpy_i h
  have hC := hC.cp (by decide) eM
  obtain ⟨hc, M6, eM, h⟩ := cpy_i h
  have hC := hC.cp (by decide) eM
  obtain ⟨M7, eM, h⟩ := fw_i h
  have hC := hC.up (by decide) eM
  obtain ⟨M8, eM, h⟩ := fw_i h
  have hC := hC.up (by decide) eM
  cases h
  exact hC
theorem LawReader_readInto_16_5_77_c      (M : am_M) (r : Int × am_M) (h : LawReader_readInto_16_5_77     M = some r) : Ch [5, 6, 7, 8, 9, 10, 11, 16, 17, 18, 19, 20, 21, 22, 23] M r.2 := by
  have hC : Ch [5, 6, 7, 8, 9, 10, 11, 16, 17, 18, 19, 20, 21, 22, 23] M M := Ch.rf
  obtain ⟨hR, ⟨hc, h⟩ | ⟨hc, h⟩⟩ := c_ge_i h
  · skip
    obtain ⟨M1, hv, h⟩ := ob_i h
    have hC := hC.tr (Law_copyFrom_5_17_c M _ hv) (by decide)
    cases h
    exact hC
  · skip
    cases h
    exact hC
theorem LawReader_readInto_16_5_64_c      (M : am_M) (r : Int × am_M) (h : LawReader_readInto_16_5_64     M = some r) : Ch [5, 6, 7, 8, 9, 10, 11, 16, 17, 18, 19, 20, 21, 22, 23] M r.2 := by
  have hC : Ch [5, 6, 7, 8, 9, 10, 11, 16, 17, 18, 19, 20, 21, 22, 23] M M := Ch.rf
  obtain ⟨v1, hv, h⟩ := ob_i h
  obtain ⟨hR, ⟨hc, h⟩ | ⟨hc, h⟩⟩ := c_eq_i h
  · skip
    exact hC.tr (LawReader_readInto_16_5_77_c      M r h) (by decide)
  · skip
    obtain ⟨M2, hv, h⟩ := ob_i h
    have hC := hC.tr (LawReader_fail_16_c (1) M _ hv) (by decide)
    exact hC.tr (LawReader_readInto_16_5_77_c      M2 r h) (by decide)
theorem LawReader_readInto_16_5_28_c     : ∀ (n : Nat) (x3 : Int) (M : am_M) (r : Int × am_M), LawReader_readInto_16_5_28    n x3 M = some r → Ch [5, 6, 7, 8, 9, 10, 11, 16, 17, 18, 19, 20, 21, 22, 23] M r.2
  | 0, _, M, r, h => by cases h
  | n + 1, x3, M, r, h => by
    have ih := LawReader_readInto_16_5_28_c     n
    have hC : Ch [5, 6, 7, 8, 9, 10, 11, 16, 17, 18, 19, 20, 21, 22, 23] M M := Ch.rf
    obtain ⟨hR, ⟨hc, h⟩ | ⟨hc, h⟩⟩ := c_ge_i h
    · skip
      exact hC.tr (LawReader_readInto_16_5_64_c      M r h) (by decide)
    · skip
      obtain ⟨v1, hv, h⟩ := ob_i h
      obtain ⟨hR, ⟨hc, h⟩ | ⟨hc, h⟩⟩ := c_ne_i h
      · skip
        exact hC.tr (LawReader_readInto_16_5_64_c      M r h) (by decide)
      · skip
        obtain ⟨M2, eM, h⟩ := fw_i h
        have hC := hC.up (by decide) eM
        obtain ⟨M3, hv, h⟩ := ob_i h
        have hC := hC.tr (LawReader_readClause_16_c M2 _ hv) (by decide)
        exact hC.tr (ih ((x3) + (1)) M3 r h) (by decide)
theorem LawReader_readInto_16_5_c      (M : am_M) (r : Int × am_M) (h : LawReader_readInto_16_5     M = some r) : Ch [5, 6, 7, 8, 9, 10, 11, 16, 17, 18, 19, 20, 21, 22, 23] M r.2 := by
  have hC : Ch [5, 6, 7, 8, 9, 10, 11, 16, 17, 18, 19, 20, 21, 22, 23] M M := Ch.rf
  obtain ⟨M1, eM, h⟩ := fw_i h
  have hC := hC.up (by decide) eM
  obtain ⟨M2, eM, h⟩ := fw_i h
  have hC := hC.up (by decide) eM
  obtain ⟨M3, eM, h⟩ := fw_i h
  have hC := hC.up (by decide) eM
  obtain ⟨M4, hv, h⟩ := ob_i h
  have hC := hC.tr (Law_clear_17_c M3 _ hv) (by decide)
  obtain ⟨M5, hv, h⟩ := ob_i h
  have hC := hC.tr (LawReader_readClause_16_c M4 _ hv) (by decide)
  exact hC.tr (LawReader_readInto_16_5_28_c     am_big (0) M5 r h) (by decide)
theorem P_law_c     (x1 : Int) (M : am_M) (r : Int × am_M) (h : P_law    x1 M = some r) : Ch [5, 6, 7, 8, 9, 10, 11, 14, 16, 17, 18, 19, 20, 21, 22, 23] M r.2 := by
  have hC : Ch [5, 6, 7, 8, 9, 10, 11, 14, 16, 17, 18, 19, 20, 21, 22, 23] M M := Ch.rf
  obtain ⟨v1, M2, hv, h⟩ := oc_i h
  have hC := hC.tr (Tape_take_c (x1) (1) (240) M _ hv) (by decide)
  obtain ⟨hR, ⟨hc, h⟩ | ⟨hc, h⟩⟩ := c_ne_i h
  · skip
    obtain ⟨v3, M4, hv, h⟩ := oc_i h
    have hC := hC.tr (LawReader_readInto_16_5_c M2 _ hv) (by decide)
    cases h
    exact hC
  · skip
    cases h
    exact hC
theorem P_start_c     (x1 : Int) (M : am_M) (r : Int × am_M) (h : P_start    x1 M = some r) : Ch [26, 28, 29, 30, 31, 32, 33] M r.2 := by
  have hC : Ch [26, 28, 29, 30, 31, 32, 33] M M := Ch.rf
  obtain ⟨v1, hv, h⟩ := ob_i h
  obtain ⟨hR, ⟨hc, h⟩ | ⟨hc, h⟩⟩ := c_eq_i h
  · skip
    obtain ⟨M2, hv, h⟩ := ob_i h
    have hC := hC.tr (Trip_beginAt_26_c (x1) M _ hv) (by decide)
    cases h
    exact hC
  · skip
    cases h
    exact hC
theorem Country_tell_1_17_c      (M : am_M) (r : am_M) (h : Country_tell_1_17     M = some r) : Ch [4] M r := by
  have hC : Ch [4] M M := Ch.rf
  cases h
  exact hC
theorem Country_tell_1_c     (x1 : Int) (x2 : Int) (M : am_M) (r : am_M) (h : Country_tell_1    x1 x2 M = some r) : Ch [4] M r := by
  have hC : Ch [4] M M := Ch.rf
  obtain ⟨hR, ⟨hc, h⟩ | ⟨hc, h⟩⟩ := c_lt_i h
  · skip
    exact hC.tr (Country_tell_1_17_c      M r h) (by decide)
  · skip
    obtain ⟨hR, ⟨hc, h⟩ | ⟨hc, h⟩⟩ := c_ge_i h
    · skip
      exact hC.tr (Country_tell_1_17_c      M r h) (by decide)
    · skip
      obtain ⟨hc, M1, eM, h⟩ := wa_i h
      have hC := hC.up (by decide) eM
      exact hC.tr (Country_tell_1_17_c      M1 r h) (by decide)
theorem Trip_setTired_26_26_c      (M : am_M) (r : am_M) (h : Trip_setTired_26_26     M = some r) : Ch [27] M r := by
  have hC : Ch [27] M M := Ch.rf
  cases h
  exact hC
theorem Trip_setTired_26_c     (x1 : Int) (x2 : Int) (M : am_M) (r : am_M) (h : Trip_setTired_26    x1 x2 M = some r) : Ch [27] M r := by
  have hC : Ch [27] M M := Ch.rf
  obtain ⟨hR, ⟨hc, h⟩ | ⟨hc, h⟩⟩ := c_lt_i h
  · skip
    exact hC.tr (Trip_setTired_26_26_c      M r h) (by decide)
  · skip
    obtain ⟨hR, ⟨hc, h⟩ | ⟨hc, h⟩⟩ := c_ge_i h
    · skip
      exact hC.tr (Trip_setTired_26_26_c      M r h) (by decide)
    · skip
      obtain ⟨v1, hv, h⟩ := ob_i h
      obtain ⟨v2, hv, h⟩ := ob_i h
      obtain ⟨hc, M3, eM, h⟩ := wa_i h
      have hC := hC.up (by decide) eM
      exact hC.tr (Trip_setTired_26_26_c      M3 r h) (by decide)
theorem P_person_66_c      (M : am_M) (r : Int × am_M) (h : P_person_66     M = some r) : Ch [4, 26, 27] M r.2 := by
  have hC : Ch [4, 26, 27] M M := Ch.rf
  cases h
  exact hC
theorem P_person_21_c      (M : am_M) (r : Int × am_M) (h : P_person_21     M = some r) : Ch [4, 26, 27] M r.2 := by
  have hC : Ch [4, 26, 27] M M := Ch.rf
  cases h
  exact hC
theorem P_person_c     (x1 : Int) (x2 : Int) (M : am_M) (r : Int × am_M) (h : P_person    x1 x2 M = some r) : Ch [4, 26, 27] M r.2 := by
  have hC : Ch [4, 26, 27] M M := Ch.rf
  obtain ⟨hR, ⟨hc, h⟩ | ⟨hc, h⟩⟩ := c_lt_i h
  · skip
    exact hC.tr (P_person_21_c      M r h) (by decide)
  · skip
    obtain ⟨hR, ⟨hc, h⟩ | ⟨hc, h⟩⟩ := c_ge_i h
    · skip
      exact hC.tr (P_person_21_c      M r h) (by decide)
    · skip
      obtain ⟨hR, ⟨hc, h⟩ | ⟨hc, h⟩⟩ := c_lt_i h
      · skip
        exact hC.tr (P_person_21_c      M r h) (by decide)
      · skip
        obtain ⟨hR, ⟨hc, h⟩ | ⟨hc, h⟩⟩ := c_le_i h
        · skip
          obtain ⟨M1, hv, h⟩ := ob_i h
          have hC := hC.tr (Country_tell_1_c (x1) (x2) M _ hv) (by decide)
          obtain ⟨M2, hv, h⟩ := ob_i h
          have hC := hC.tr (Trip_setTired_26_c (x1) (0) M1 _ hv) (by decide)
          obtain ⟨v3, hv, h⟩ := ob_i h
          obtain ⟨hR, ⟨hc, h⟩ | ⟨hc, h⟩⟩ := c_ne_i h
          · skip
            exact hC.tr (P_person_66_c      M2 r h) (by decide)
          · skip
            obtain ⟨M4, eM, h⟩ := fw_i h
            have hC := hC.up (by decide) eM
            exact hC.tr (P_person_66_c      M4 r h) (by decide)
        · skip
          exact hC.tr (P_person_21_c      M r h) (by decide)
theorem P_ahead_c     (x1 : Int) (M : am_M) (r : Int × am_M) (h : P_ahead    x1 M = some r) : Ch [26] M r.2 := by
  have hC : Ch [26] M M := Ch.rf
  obtain ⟨v1, hv, h⟩ := ob_i h
  obtain ⟨hR, ⟨hc, h⟩ | ⟨hc, h⟩⟩ := c_ne_i h
  · skip
    obtain ⟨M2, eM, h⟩ := fw_i h
    have hC := hC.up (by decide) eM
    cases h
    exact hC
  · skip
    cases h
    exact hC
theorem P_width_10_c      (M : am_M) (r : Int × am_M) (h : P_width_10     M = some r) : Ch [1] M r.2 := by
  have hC : Ch [1] M M := Ch.rf
  cases h
  exact hC
theorem P_width_c     (x1 : Int) (M : am_M) (r : Int × am_M) (h : P_width    x1 M = some r) : Ch [1] M r.2 := by
  have hC : Ch [1] M M := Ch.rf
  obtain ⟨hR, ⟨hc, h⟩ | ⟨hc, h⟩⟩ := c_lt_i h
  · skip
    exact hC.tr (P_width_10_c      M r h) (by decide)
  · skip
    obtain ⟨hR, ⟨hc, h⟩ | ⟨hc, h⟩⟩ := c_le_i h
    · skip
      obtain ⟨M1, eM, h⟩ := fw_i h
      have hC := hC.up (by decide) eM
      cases h
      exact hC
    · skip
      exact hC.tr (P_width_10_c      M r h) (by decide)
theorem P_light_11_c      (M : am_M) (r : Int × am_M) (h : P_light_11     M = some r) : Ch [1] M r.2 := by
  have hC : Ch [1] M M := Ch.rf
  cases h
  exact hC
theorem P_light_c     (x1 : Int) (M : am_M) (r : Int × am_M) (h : P_light    x1 M = some r) : Ch [1] M r.2 := by
  have hC : Ch [1] M M := Ch.rf
  obtain ⟨hR, ⟨hc, h⟩ | ⟨hc, h⟩⟩ := c_lt_i h
  · skip
    exact hC.tr (P_light_11_c      M r h) (by decide)
  · skip
    obtain ⟨hR, ⟨hc, h⟩ | ⟨hc, h⟩⟩ := c_le_i h
    · skip
      obtain ⟨M1, eM, h⟩ := fw_i h
      have hC := hC.up (by decide) eM
      cases h
      exact hC
    · skip
      exact hC.tr (P_light_11_c      M r h) (by decide)
theorem Outing_readRow_50_48_c (rc70 : Int → am_M → Option am_M) (hrc70 : ∀ (a0 : Int) (M r : am_M), rc70 a0 M = some r → Ch [50, 51] M r)    (M : am_M) (r : am_M) (h : Outing_readRow_50_48  rc70   M = some r) : Ch [50, 51] M r := by
  have hC : Ch [50, 51] M M := Ch.rf
  cases h
  exact hC
theorem Outing_readRow_50_7_c (rc70 : Int → am_M → Option am_M) (hrc70 : ∀ (a0 : Int) (M r : am_M), rc70 a0 M = some r → Ch [50, 51] M r)   : ∀ (n : Nat) (x1 : Int) (x2 : Int) (M : am_M) (r : am_M), Outing_readRow_50_7  rc70  n x1 x2 M = some r → Ch [50, 51] M r
  | 0, _, _, M, r, h => by cases h
  | n + 1, x1, x2, M, r, h => by
    have ih := Outing_readRow_50_7_c rc70 hrc70   n
    have hC : Ch [50, 51] M M := Ch.rf
    obtain ⟨hR, ⟨hc, h⟩ | ⟨hc, h⟩⟩ := c_ge_i h
    · skip
      exact hC.tr (Outing_readRow_50_48_c rc70 hrc70    M r h) (by decide)
    · skip
      obtain ⟨hR, ⟨hc, h⟩ | ⟨hc, h⟩⟩ := c_ne_i h
      · skip
        exact hC.tr (Outing_readRow_50_48_c rc70 hrc70    M r h) (by decide)
      · skip
        obtain ⟨v1, hv, h⟩ := ob_i h
        obtain ⟨hR, ⟨hc, h⟩ | ⟨hc, h⟩⟩ := c_eq_i h
        · skip
          exact hC.tr (Outing_readRow_50_48_c rc70 hrc70    M r h) (by decide)
        · skip
          obtain ⟨v2, hv, h⟩ := ob_i h
          obtain ⟨hR, ⟨hc, h⟩ | ⟨hc, h⟩⟩ := c_eq_i h
          · skip
            exact hC.tr (Outing_readRow_50_48_c rc70 hrc70    M r h) (by decide)
          · skip
            obtain ⟨M3, hv, h⟩ := ob_i h
            have hC := hC.tr (hrc70 (x1) M _ hv) (by decide)
            exact hC.tr (ih (x1) ((x2) + (1)) M3 r h) (by decide)
theorem Outing_readRow_50_c (rc70 : Int → am_M → Option am_M) (hrc70 : ∀ (a0 : Int) (M r : am_M), rc70 a0 M = some r → Ch [50, 51] M r)   (x1 : Int) (M : am_M) (r : am_M) (h : Outing_readRow_50  rc70  x1 M = some r) : Ch [50, 51] M r := by
  have hC : Ch [50, 51] M M := Ch.rf
  obtain ⟨M1, hv, h⟩ := ob_i h
  have hC := hC.tr (hrc70 (x1) M _ hv) (by decide)
  exact hC.tr (Outing_readRow_50_7_c rc70 hrc70   am_big (x1) (0) M1 r h) (by decide)
theorem Outing_fail_50_16_c      (M : am_M) (r : am_M) (h : Outing_fail_50_16     M = some r) : Ch [50] M r := by
  have hC : Ch [50] M M := Ch.rf
  cases h
  exact hC
theorem Outing_fail_50_c     (x1 : Int) (x2 : Int) (M : am_M) (r : am_M) (h : Outing_fail_50    x1 x2 M = some r) : Ch [50] M r := by
  have hC : Ch [50] M M := Ch.rf
  obtain ⟨hR, ⟨hc, h⟩ | ⟨hc, h⟩⟩ := c_ne_i h
  · skip
    exact hC.tr (Outing_fail_50_16_c      M r h) (by decide)
  · skip
    obtain ⟨v1, hv, h⟩ := ob_i h
    obtain ⟨M2, eM, h⟩ := fw_i h
    have hC := hC.up (by decide) eM
    exact hC.tr (Outing_fail_50_16_c      M2 r h) (by decide)
theorem Outing_append_50_39_c      (M : am_M) (r : am_M) (h : Outing_append_50_39     M = some r) : Ch [50, 51] M r := by
  have hC : Ch [50, 51] M M := Ch.rf
  cases h
  exact hC
theorem Outing_append_50_c     (x1 : Int) (x2 : Int) (M : am_M) (r : am_M) (h : Outing_append_50    x1 x2 M = some r) : Ch [50, 51] M r := by
  have hC : Ch [50, 51] M M := Ch.rf
  obtain ⟨hR, ⟨hc, h⟩ | ⟨hc, h⟩⟩ := c_lt_i h
  · skip
    obtain ⟨hc, M1, eM, h⟩ := wa_i h
    have hC := hC.up (by decide) eM
    obtain ⟨M2, eM, h⟩ := fw_i h
    have hC := hC.up (by decide) eM
    exact hC.tr (Outing_append_50_39_c      M2 r h) (by decide)
  · skip
    obtain ⟨M3, hv, h⟩ := ob_i h
    have hC := hC.tr (Outing_fail_50_c (6) (x2) M _ hv) (by decide)
    exact hC.tr (Outing_append_50_39_c      M3 r h) (by decide)
theorem Outing_repeat_50_82_c      (M : am_M) (r : am_M) (h : Outing_repeat_50_82     M = some r) : Ch [50, 51] M r := by
  have hC : Ch [50, 51] M M := Ch.rf
  cases h
  exact hC
theorem Outing_repeat_50_29_c     : ∀ (n : Nat) (x1 : Int) (x2 : Int) (x3 : Int) (x4 : Int) (x5 : Int) (M : am_M) (r : am_M), Outing_repeat_50_29    n x1 x2 x3 x4 x5 M = some r → Ch [50, 51] M r
  | 0, _, _, _, _, _, M, r, h => by cases h
  | n + 1, x1, x2, x3, x4, x5, M, r, h => by
    have ih := Outing_repeat_50_29_c     n
    have hC : Ch [50, 51] M M := Ch.rf
    obtain ⟨hR, ⟨hc, h⟩ | ⟨hc, h⟩⟩ := c_ge_i h
    · skip
      exact hC.tr (Outing_repeat_50_82_c      M r h) (by decide)
    · skip
      obtain ⟨hR, ⟨hc, h⟩ | ⟨hc, h⟩⟩ := c_lt_i h
      · skip
        exact hC.tr (Outing_repeat_50_82_c      M r h) (by decide)
      · skip
        obtain ⟨hR, ⟨hc, h⟩ | ⟨hc, h⟩⟩ := c_ge_i h
        · skip
          exact hC.tr (Outing_repeat_50_82_c      M r h) (by decide)
        · skip
          obtain ⟨hR, ⟨hc, h⟩ | ⟨hc, h⟩⟩ := c_ne_i h
          · skip
            exact hC.tr (Outing_repeat_50_82_c      M r h) (by decide)
          · skip
            obtain ⟨hc, v1, ev, h⟩ := rd_i h
            obtain ⟨M2, hv, h⟩ := ob_i h
            have hC := hC.tr (Outing_append_50_c (v1) (x3) M _ hv) (by decide)
            exact hC.tr (ih (x1) (x2) (x3) (x4) ((x5) + (1)) M2 r h) (by decide)
theorem Outing_repeat_50_26_c     (x1 : Int) (x2 : Int) (x3 : Int) (x4 : Int) (M : am_M) (r : am_M) (h : Outing_repeat_50_26    x1 x2 x3 x4 M = some r) : Ch [50, 51] M r := by
  have hC : Ch [50, 51] M M := Ch.rf
  exact hC.tr (Outing_repeat_50_29_c     am_big (x1) (x2) (x3) (x4) (0) M r h) (by decide)
theorem Outing_repeat_50_c     (x1 : Int) (x2 : Int) (x3 : Int) (M : am_M) (r : am_M) (h : Outing_repeat_50    x1 x2 x3 M = some r) : Ch [50, 51] M r := by
  have hC : Ch [50, 51] M M := Ch.rf
  obtain ⟨hR, ⟨hc, h⟩ | ⟨hc, h⟩⟩ := c_le_i h
  · skip
    exact hC.tr (Outing_repeat_50_26_c     (x1) (x2) (x3) ((M 50 3) - (x1)) M r h) (by decide)
  · skip
    obtain ⟨M1, hv, h⟩ := ob_i h
    have hC := hC.tr (Outing_fail_50_c (6) (x3) M _ hv) (by decide)
    exact hC.tr (Outing_repeat_50_26_c     (x1) (x2) (x3) ((M 50 3) - (x1)) M1 r h) (by decide)
theorem Outing_readAct_50_117_c (rc72 : Int → Int → Int → am_M → Option am_M) (hrc72 : ∀ (a0 : Int) (a1 : Int) (a2 : Int) (M r : am_M), rc72 a0 a1 a2 M = some r → Ch [50, 51] M r)    (M : am_M) (r : am_M) (h : Outing_readAct_50_117  rc72   M = some r) : Ch [50, 51] M r := by
  have hC : Ch [50, 51] M M := Ch.rf
  cases h
  exact hC
theorem Outing_readAct_50_43_c (rc72 : Int → Int → Int → am_M → Option am_M) (hrc72 : ∀ (a0 : Int) (a1 : Int) (a2 : Int) (M r : am_M), rc72 a0 a1 a2 M = some r → Ch [50, 51] M r)   (x1 : Int) (x2 : Int) (x3 : Int) (M : am_M) (r : am_M) (h : Outing_readAct_50_43  rc72  x1 x2 x3 M = some r) : Ch [50, 51] M r := by
  have hC : Ch [50, 51] M M := Ch.rf
  obtain ⟨v1, hv, h⟩ := ob_i h
  obtain ⟨hR, ⟨hc, h⟩ | ⟨hc, h⟩⟩ := c_ne_i h
  · skip
    obtain ⟨v2, hv, h⟩ := ob_i h
    obtain ⟨hR, ⟨hc, h⟩ | ⟨hc, h⟩⟩ := c_eq_i h
    · skip
      obtain ⟨M3, hv, h⟩ := ob_i h
      have hC := hC.tr (Outing_fail_50_c (1) (M 50 5) M _ hv) (by decide)
      exact hC.tr (Outing_readAct_50_117_c rc72 hrc72    M3 r h) (by decide)
    · skip
      obtain ⟨M4, eM, h⟩ := fw_i h
      have hC := hC.up (by decide) eM
      obtain ⟨M5, hv, h⟩ := ob_i h
      have hC := hC.tr (Outing_append_50_c (v1) (x2) M4 _ hv) (by decide)
      obtain ⟨M6, hv, h⟩ := ob_i h
      have hC := hC.tr (Outing_repeat_50_c (M4 50 3) (x3) (x2) M5 _ hv) (by decide)
      exact hC.tr (Outing_readAct_50_117_c rc72 hrc72    M6 r h) (by decide)
  · skip
    obtain ⟨M7, hv, h⟩ := ob_i h
    have hC := hC.tr (hrc72 (x2) (x3) (x1) M _ hv) (by decide)
    exact hC.tr (Outing_readAct_50_117_c rc72 hrc72    M7 r h) (by decide)
theorem Outing_readAct_50_c (rc72 : Int → Int → Int → am_M → Option am_M) (hrc72 : ∀ (a0 : Int) (a1 : Int) (a2 : Int) (M r : am_M), rc72 a0 a1 a2 M = some r → Ch [50, 51] M r)   (x1 : Int) (M : am_M) (r : am_M) (h : Outing_readAct_50  rc72  x1 M = some r) : Ch [50, 51] M r := by
  have hC : Ch [50, 51] M M := Ch.rf
  obtain ⟨v1, hv, h⟩ := ob_i h
  obtain ⟨hR, ⟨hc, h⟩ | ⟨hc, h⟩⟩ := c_lt_i h
  · skip
    exact hC.tr (Outing_readAct_50_43_c rc72 hrc72   (x1) (M 50 5) (1) M r h) (by decide)
  · skip
    obtain ⟨v2, hv, h⟩ := ob_i h
    obtain ⟨hR, ⟨hc, h⟩ | ⟨hc, h⟩⟩ := c_gt_i h
    · skip
      exact hC.tr (Outing_readAct_50_43_c rc72 hrc72   (x1) (M 50 5) (1) M r h) (by decide)
    · skip
      obtain ⟨v3, hv, h⟩ := ob_i h
      obtain ⟨M4, eM, h⟩ := fw_i h
      have hC := hC.up (by decide) eM
      exact hC.tr (Outing_readAct_50_43_c rc72 hrc72   (x1) (M 50 5) ((v3) - (48)) M4 r h) (by decide)
theorem Outing_readGroup_50_77_c (rc69 : Int → am_M → Option am_M) (hrc69 : ∀ (a0 : Int) (M r : am_M), rc69 a0 M = some r → Ch [50, 51] M r)    (M : am_M) (r : am_M) (h : Outing_readGroup_50_77  rc69   M = some r) : Ch [50, 51] M r := by
  have hC : Ch [50, 51] M M := Ch.rf
  cases h
  exact hC
theorem Outing_readGroup_50_c (rc69 : Int → am_M → Option am_M) (hrc69 : ∀ (a0 : Int) (M r : am_M), rc69 a0 M = some r → Ch [50, 51] M r)   (x1 : Int) (x2 : Int) (x3 : Int) (M : am_M) (r : am_M) (h : Outing_readGroup_50  rc69  x1 x2 x3 M = some r) : Ch [50, 51] M r := by
  have hC : Ch [50, 51] M M := Ch.rf
  obtain ⟨hR, ⟨hc, h⟩ | ⟨hc, h⟩⟩ := c_lt_i h
  · skip
    obtain ⟨M1, eM, h⟩ := fw_i h
    have hC := hC.up (by decide) eM
    obtain ⟨M2, hv, h⟩ := ob_i h
    have hC := hC.tr (hrc69 ((x3) + (1)) M1 _ hv) (by decide)
    obtain ⟨v3, hv, h⟩ := ob_i h
    obtain ⟨hR, ⟨hc, h⟩ | ⟨hc, h⟩⟩ := c_ne_i h
    · skip
      obtain ⟨M4, hv, h⟩ := ob_i h
      have hC := hC.tr (Outing_fail_50_c (1) (M2 50 5) M2 _ hv) (by decide)
      exact hC.tr (Outing_readGroup_50_77_c rc69 hrc69    M4 r h) (by decide)
    · skip
      obtain ⟨M5, eM, h⟩ := fw_i h
      have hC := hC.up (by decide) eM
      obtain ⟨M6, hv, h⟩ := ob_i h
      have hC := hC.tr (Outing_repeat_50_c (M1 50 3) (x2) (x1) M5 _ hv) (by decide)
      exact hC.tr (Outing_readGroup_50_77_c rc69 hrc69    M6 r h) (by decide)
  · skip
    obtain ⟨M7, hv, h⟩ := ob_i h
    have hC := hC.tr (Outing_fail_50_c (5) (M 50 5) M _ hv) (by decide)
    cases h
    exact hC
theorem K_Outing_readRow_R_c : ∀ (n w : Nat) (a0 : Int) (a1 : Int) (a2 : Int) (M r : am_M), K_Outing_readRow_R n w a0 a1 a2 M = some r → Ch [50, 51] M r
  | 0, _, _, _, _, M, r, h => by cases h
  | n + 1, w, a0, a1, a2, M, r, h => by
    have ih := K_Outing_readRow_R_c n
    match w, h with
    | 0, h => exact (Outing_readRow_50_c _ (fun b0 M r h => (ih 1 b0 0 0 M r h).mo (by decide)) a0 M r h).mo (by decide)
    | 1, h => exact (Outing_readAct_50_c _ (fun b0 b1 b2 M r h => (ih 2 b0 b1 b2 M r h).mo (by decide)) a0 M r h).mo (by decide)
    | _ + 2, h => exact (Outing_readGroup_50_c _ (fun b0 M r h => (ih 0 b0 0 0 M r h).mo (by decide)) a0 a1 a2 M r h).mo (by decide)
theorem K_Outing_readRow_c (a0 : Int) (M r : am_M) (h : K_Outing_readRow a0 M = some r) : Ch [50, 51] M r := K_Outing_readRow_R_c _ _ a0 0 0 M r h
theorem K_Outing_readAct_c (a0 : Int) (M r : am_M) (h : K_Outing_readAct a0 M = some r) : Ch [50, 51] M r := K_Outing_readRow_R_c _ _ a0 0 0 M r h
theorem K_Outing_readGroup_c (a0 : Int) (a1 : Int) (a2 : Int) (M r : am_M) (h : K_Outing_readGroup a0 a1 a2 M = some r) : Ch [50, 51] M r := K_Outing_readRow_R_c _ _ a0 a1 a2 M r h
theorem Outing_readActs_50_42_c      (M : am_M) (r : Int × am_M) (h : Outing_readActs_50_42     M = some r) : Ch [50, 51] M r.2 := by
  have hC : Ch [50, 51] M M := Ch.rf
  cases h
  exact hC
theorem Outing_readActs_50_c      (M : am_M) (r : Int × am_M) (h : Outing_readActs_50     M = some r) : Ch [50, 51] M r.2 := by
  have hC : Ch [50, 51] M M := Ch.rf
  obtain ⟨M1, eM, h⟩ := fw_i h
  have hC := hC.up (by decide) eM
  obtain ⟨M2, eM, h⟩ := fw_i h
  have hC := hC.up (by decide) eM
  obtain ⟨M3, eM, h⟩ := fw_i h
  have hC := hC.up (by decide) eM
  obtain ⟨M4, eM, h⟩ := fw_i h
  have hC := hC.up (by decide) eM
  obtain ⟨M5, hv, h⟩ := ob_i h
  have hC := hC.tr (K_Outing_readRow_c (0) M4 _ hv) (by decide)
  obtain ⟨v6, hv, h⟩ := ob_i h
  obtain ⟨hR, ⟨hc, h⟩ | ⟨hc, h⟩⟩ := c_eq_i h
  · skip
    exact hC.tr (Outing_readActs_50_42_c      M5 r h) (by decide)
  · skip
    obtain ⟨M7, hv, h⟩ := ob_i h
    have hC := hC.tr (Outing_fail_50_c (1) (M5 50 5) M5 _ hv) (by decide)
    exact hC.tr (Outing_readActs_50_42_c      M7 r h) (by decide)
theorem Outing_spend_50_26_54_c     (s0 : Int) (M : am_M) (r : Int × am_M) (h : Outing_spend_50_26_54    s0 M = some r) : Ch [26, 50] M r.2 := by
  have hC : Ch [26, 50] M M := Ch.rf
  obtain ⟨hc, h⟩ := ck_i h
  cases h
  exact hC
theorem Outing_spend_50_26_42_c      (M : am_M) (r : Int × am_M) (h : Outing_spend_50_26_42     M = some r) : Ch [26, 50] M r.2 := by
  have hC : Ch [26, 50] M M := Ch.rf
  obtain ⟨hR, ⟨hc, h⟩ | ⟨hc, h⟩⟩ := c_ne_i h
  · skip
    exact hC.tr (Outing_spend_50_26_54_c     (0) M r h) (by decide)
  · skip
    exact hC.tr (Outing_spend_50_26_54_c     (1) M r h) (by decide)
theorem Outing_spend_50_26_22_c     (x2 : Int) (s1 : Int) (M : am_M) (r : Int × am_M) (h : Outing_spend_50_26_22    x2 s1 M = some r) : Ch [26, 50] M r.2 := by
  have hC : Ch [26, 50] M M := Ch.rf
  obtain ⟨hc, M1, eM, h⟩ := fz_i h
  have hC := hC.up (by decide) eM
  obtain ⟨hR, ⟨hc, h⟩ | ⟨hc, h⟩⟩ := c_ne_i h
  · skip
    exact hC.tr (Outing_spend_50_26_42_c      M1 r h) (by decide)
  · skip
    obtain ⟨M2, eM, h⟩ := fw_i h
    have hC := hC.up (by decide) eM
    exact hC.tr (Outing_spend_50_26_42_c      M2 r h) (by decide)
theorem Outing_spend_50_26_c     (x2 : Int) (M : am_M) (r : Int × am_M) (h : Outing_spend_50_26    x2 M = some r) : Ch [26, 50] M r.2 := by
  have hC : Ch [26, 50] M M := Ch.rf
  obtain ⟨hR, ⟨hc, h⟩ | ⟨hc, h⟩⟩ := c_le_i h
  · skip
    exact hC.tr (Outing_spend_50_26_22_c     (x2) (0) M r h) (by decide)
  · skip
    exact hC.tr (Outing_spend_50_26_22_c     (x2) (1) M r h) (by decide)
theorem Outing_change_50_26_38_c      (M : am_M) (r : am_M) (h : Outing_change_50_26_38     M = some r) : Ch [26, 50] M r := by
  have hC : Ch [26, 50] M M := Ch.rf
  cases h
  exact hC
theorem Outing_change_50_26_c      (M : am_M) (r : am_M) (h : Outing_change_50_26     M = some r) : Ch [26, 50] M r := by
  have hC : Ch [26, 50] M M := Ch.rf
  obtain ⟨v1, hv, h⟩ := ob_i h
  obtain ⟨hR, ⟨hc, h⟩ | ⟨hc, h⟩⟩ := c_eq_i h
  · skip
    exact hC.tr (Outing_change_50_26_38_c      M r h) (by decide)
  · skip
    obtain ⟨v2, M3, hv, h⟩ := oc_i h
    have hC := hC.tr (Outing_spend_50_26_c (0) M _ hv) (by decide)
    obtain ⟨hR, ⟨hc, h⟩ | ⟨hc, h⟩⟩ := c_eq_i h
    · skip
      exact hC.tr (Outing_change_50_26_38_c      M3 r h) (by decide)
    · skip
      obtain ⟨v4, hv, h⟩ := ob_i h
      obtain ⟨M5, eM, h⟩ := fw_i h
      have hC := hC.up (by decide) eM
      exact hC.tr (Outing_change_50_26_38_c      M5 r h) (by decide)
theorem Law_say_5_c     (x1 : Int) (x2 : Int) (x3 : Int) (x4 : Int) (x5 : Int) (x6 : Int) (x7 : Int) (M : am_M) (r : am_M) (h : Law_say_5    x1 x2 x3 x4 x5 x6 x7 M = some r) : Ch [12] M r := by
  have hC : Ch [12] M M := Ch.rf
  obtain ⟨hc, M1, eM, h⟩ := wa_i h
  have hC := hC.up (by decide) eM
  obtain ⟨hc, M2, eM, h⟩ := wa_i h
  have hC := hC.up (by decide) eM
  obtain ⟨hc, M3, eM, h⟩ := wa_i h
  have hC := hC.up (by decide) eM
  obtain ⟨hc, M4, eM, h⟩ := wa_i h
  have hC := hC.up (by decide) eM
  obtain ⟨hc, M5, eM, h⟩ := wa_i h
  have hC := hC.up (by decide) eM
  obtain ⟨hc, M6, eM, h⟩ := wa_i h
  have hC := hC.up (by decide) eM
  obtain ⟨hc, M7, eM, h⟩ := wa_i h
  have hC := hC.up (by decide) eM
  cases h
  exact hC
theorem Law_reckon_5_423_c   (k11 : Int → Int → Int → Int → Int → am_M → Option (Int × am_M)) (hk11 : ∀ (x2 : Int) (x3 : Int) (x4 : Int) (x5 : Int) (x6 : Int) (M : am_M) (r : Int × am_M), k11 x2 x3 x4 x5 x6 M = some r → Ch [13] M r.2) (x2 : Int) (x3 : Int) (x4 : Int) (x5 : Int) (x6 : Int) (M : am_M) (r : Int × am_M) (h : Law_reckon_5_423   k11 x2 x3 x4 x5 x6 M = some r) : Ch [13] M r.2 := by
  have hC : Ch [13] M M := Ch.rf
  exact hC.tr (hk11 (x2) (x3) (x4) (x5) ((x6) + (1)) M r h) (by decide)
theorem Law_reckon_5_186_c   (k11 : Int → Int → Int → Int → Int → am_M → Option (Int × am_M)) (hk11 : ∀ (x2 : Int) (x3 : Int) (x4 : Int) (x5 : Int) (x6 : Int) (M : am_M) (r : Int × am_M), k11 x2 x3 x4 x5 x6 M = some r → Ch [13] M r.2) (x2 : Int) (x3 : Int) (x4 : Int) (x6 : Int) (s0 : Int) (M : am_M) (r : Int × am_M) (h : Law_reckon_5_186   k11 x2 x3 x4 x6 s0 M = some r) : Ch [13] M r.2 := by
  have hC : Ch [13] M M := Ch.rf
  exact hC.tr (Law_reckon_5_423_c   k11 hk11 (x2) (x3) (x4) (s0) (x6) M r h) (by decide)
theorem Law_reckon_5_172_c   (k11 : Int → Int → Int → Int → Int → am_M → Option (Int × am_M)) (hk11 : ∀ (x2 : Int) (x3 : Int) (x4 : Int) (x5 : Int) (x6 : Int) (M : am_M) (r : Int × am_M), k11 x2 x3 x4 x5 x6 M = some r → Ch [13] M r.2) (x2 : Int) (x3 : Int) (x4 : Int) (x5 : Int) (x6 : Int) (x8 : Int) (M : am_M) (r : Int × am_M) (h : Law_reckon_5_172   k11 x2 x3 x4 x5 x6 x8 M = some r) : Ch [13] M r.2 := by
  have hC : Ch [13] M M := Ch.rf
  obtain ⟨hR, ⟨hc, h⟩ | ⟨hc, h⟩⟩ := c_le_i h
  · skip
    exact hC.tr (Law_reckon_5_186_c   k11 hk11 (x2) (x3) (x4) (x6) (x5) M r h) (by decide)
  · skip
    exact hC.tr (Law_reckon_5_186_c   k11 hk11 (x2) (x3) (x4) (x6) (x8) M r h) (by decide)
theorem Law_reckon_5_421_c   (k11 : Int → Int → Int → Int → Int → am_M → Option (Int × am_M)) (hk11 : ∀ (x2 : Int) (x3 : Int) (x4 : Int) (x5 : Int) (x6 : Int) (M : am_M) (r : Int × am_M), k11 x2 x3 x4 x5 x6 M = some r → Ch [13] M r.2) (x2 : Int) (x3 : Int) (x5 : Int) (x6 : Int) (s0 : Int) (M : am_M) (r : Int × am_M) (h : Law_reckon_5_421   k11 x2 x3 x5 x6 s0 M = some r) : Ch [13] M r.2 := by
  have hC : Ch [13] M M := Ch.rf
  exact hC.tr (Law_reckon_5_423_c   k11 hk11 (x2) (x3) (s0) (x5) (x6) M r h) (by decide)
theorem Law_reckon_5_409_c   (k11 : Int → Int → Int → Int → Int → am_M → Option (Int × am_M)) (hk11 : ∀ (x2 : Int) (x3 : Int) (x4 : Int) (x5 : Int) (x6 : Int) (M : am_M) (r : Int × am_M), k11 x2 x3 x4 x5 x6 M = some r → Ch [13] M r.2) (x2 : Int) (x3 : Int) (x5 : Int) (x6 : Int) (s0 : Int) (M : am_M) (r : Int × am_M) (h : Law_reckon_5_409   k11 x2 x3 x5 x6 s0 M = some r) : Ch [13] M r.2 := by
  have hC : Ch [13] M M := Ch.rf
  obtain ⟨hR, ⟨hc, h⟩ | ⟨hc, h⟩⟩ := c_eq_i h
  · skip
    exact hC.tr (Law_reckon_5_421_c   k11 hk11 (x2) (x3) (x5) (x6) (0) M r h) (by decide)
  · skip
    exact hC.tr (Law_reckon_5_421_c   k11 hk11 (x2) (x3) (x5) (x6) (1) M r h) (by decide)
theorem Law_reckon_5_217_c   (k11 : Int → Int → Int → Int → Int → am_M → Option (Int × am_M)) (hk11 : ∀ (x2 : Int) (x3 : Int) (x4 : Int) (x5 : Int) (x6 : Int) (M : am_M) (r : Int × am_M), k11 x2 x3 x4 x5 x6 M = some r → Ch [13] M r.2) (x2 : Int) (x3 : Int) (x4 : Int) (x5 : Int) (x6 : Int) (x7 : Int) (M : am_M) (r : Int × am_M) (h : Law_reckon_5_217   k11 x2 x3 x4 x5 x6 x7 M = some r) : Ch [13] M r.2 := by
  have hC : Ch [13] M M := Ch.rf
  obtain ⟨hc, v1, ev, h⟩ := rd_i h
  obtain ⟨hR, h⟩ := ck_i h
  rcases if_i h with ⟨hq, h⟩ | ⟨hq0, h⟩
  · skip
    exact hC.tr (Law_reckon_5_423_c   k11 hk11 (x2) ((x3) + (-1)) (v1) (x5) (x6) M r h) (by decide)
  · skip
    rcases if_i h with ⟨hq, h⟩ | ⟨hq1, h⟩
    · skip
      exact hC.tr (Law_reckon_5_423_c   k11 hk11 (x2) ((x3) + (-1)) (v1) (x5) (x6) M r h) (by decide)
    · skip
      rcases if_i h with ⟨hq, h⟩ | ⟨hq2, h⟩
      · skip
        obtain ⟨hc, h⟩ := ck_i h
        obtain ⟨v2, ev, h⟩ := tw_i h
        exact hC.tr (Law_reckon_5_423_c   k11 hk11 (x2) ((x3) + (-1)) (v2) (x5) (x6) M r h) (by decide)
      · skip
        rcases if_i h with ⟨hq, h⟩ | ⟨hq3, h⟩
        · skip
          exact hC.tr (Law_reckon_5_423_c   k11 hk11 (x2) ((x3) + (-1)) (am_nm ((v1) * (x4))) (x5) (x6) M r h) (by decide)
        · skip
          rcases if_i h with ⟨hq, h⟩ | ⟨hq4, h⟩
          · skip
            exact hC.tr (Law_reckon_5_423_c   k11 hk11 (x2) ((x3) + (-1)) (am_nm ((v1) + (x4))) (x5) (x6) M r h) (by decide)
          · skip
            rcases if_i h with ⟨hq, h⟩ | ⟨hq5, h⟩
            · skip
              exact hC.tr (Law_reckon_5_423_c   k11 hk11 (x2) ((x3) + (-1)) (am_nm ((v1) - (x4))) (x5) (x6) M r h) (by decide)
            · skip
              rcases if_i h with ⟨hq, h⟩ | ⟨hq6, h⟩
              · skip
                obtain ⟨hc, h⟩ := ck_i h
                obtain ⟨v3, ev, h⟩ := tw_i h
                exact hC.tr (Law_reckon_5_423_c   k11 hk11 (x2) ((x3) + (-1)) (v3) (x5) (x6) M r h) (by decide)
              · skip
                · skip
                  obtain ⟨hR, ⟨hc, h⟩ | ⟨hc, h⟩⟩ := c_ne_i h
                  · skip
                    obtain ⟨hR, ⟨hc, h⟩ | ⟨hc, h⟩⟩ := c_ne_i h
                    · skip
                      obtain ⟨hR, ⟨hc, h⟩ | ⟨hc, h⟩⟩ := c_ne_i h
                      · skip
                        exact hC.tr (Law_reckon_5_409_c   k11 hk11 (x2) ((x3) + (-1)) (x5) (x6) (0) M r h) (by decide)
                      · skip
                        exact hC.tr (Law_reckon_5_409_c   k11 hk11 (x2) ((x3) + (-1)) (x5) (x6) (1) M r h) (by decide)
                    · skip
                      obtain ⟨hR, ⟨hc, h⟩ | ⟨hc, h⟩⟩ := c_le_i h
                      · skip
                        exact hC.tr (Law_reckon_5_409_c   k11 hk11 (x2) ((x3) + (-1)) (x5) (x6) (0) M r h) (by decide)
                      · skip
                        exact hC.tr (Law_reckon_5_409_c   k11 hk11 (x2) ((x3) + (-1)) (x5) (x6) (1) M r h) (by decide)
                  · skip
                    obtain ⟨hR, ⟨hc, h⟩ | ⟨hc, h⟩⟩ := c_ge_i h
                    · skip
                      exact hC.tr (Law_reckon_5_409_c   k11 hk11 (x2) ((x3) + (-1)) (x5) (x6) (0) M r h) (by decide)
                    · skip
                      exact hC.tr (Law_reckon_5_409_c   k11 hk11 (x2) ((x3) + (-1)) (x5) (x6) (1) M r h) (by decide)
theorem Law_reckon_5_215_c      (M : am_M) (r : Int × am_M) (h : Law_reckon_5_215     M = some r) : Ch [13] M r.2 := by
  have hC : Ch [13] M M := Ch.rf
  cases h
  exact hC
theorem Law_reckon_5_191_c   (k11 : Int → Int → Int → Int → Int → am_M → Option (Int × am_M)) (hk11 : ∀ (x2 : Int) (x3 : Int) (x4 : Int) (x5 : Int) (x6 : Int) (M : am_M) (r : Int × am_M), k11 x2 x3 x4 x5 x6 M = some r → Ch [13] M r.2) (x2 : Int) (x3 : Int) (x4 : Int) (x5 : Int) (x6 : Int) (x7 : Int) (M : am_M) (r : Int × am_M) (h : Law_reckon_5_191   k11 x2 x3 x4 x5 x6 x7 M = some r) : Ch [13] M r.2 := by
  have hC : Ch [13] M M := Ch.rf
  obtain ⟨hR, ⟨hc, h⟩ | ⟨hc, h⟩⟩ := c_lt_i h
  · skip
    exact hC.tr (Law_reckon_5_215_c      M r h) (by decide)
  · skip
    obtain ⟨hR, ⟨hc, h⟩ | ⟨hc, h⟩⟩ := c_ne_i h
    · skip
      exact hC.tr (Law_reckon_5_217_c   k11 hk11 (x2) (x3) (x4) (x5) (x6) (x7) M r h) (by decide)
    · skip
      obtain ⟨hR, ⟨hc, h⟩ | ⟨hc, h⟩⟩ := c_eq_i h
      · skip
        exact hC.tr (Law_reckon_5_215_c      M r h) (by decide)
      · skip
        obtain ⟨hR, ⟨hc, h⟩ | ⟨hc, h⟩⟩ := c_ne_i h
        · skip
          exact hC.tr (Law_reckon_5_217_c   k11 hk11 (x2) (x3) (x4) (x5) (x6) (x7) M r h) (by decide)
        · skip
          exact hC.tr (Law_reckon_5_215_c      M r h) (by decide)
theorem Law_reckon_5_161_c   (k11 : Int → Int → Int → Int → Int → am_M → Option (Int × am_M)) (hk11 : ∀ (x2 : Int) (x3 : Int) (x4 : Int) (x5 : Int) (x6 : Int) (M : am_M) (r : Int × am_M), k11 x2 x3 x4 x5 x6 M = some r → Ch [13] M r.2) (x2 : Int) (x3 : Int) (x4 : Int) (x5 : Int) (x6 : Int) (x7 : Int) (x8 : Int) (M : am_M) (r : Int × am_M) (h : Law_reckon_5_161   k11 x2 x3 x4 x5 x6 x7 x8 M = some r) : Ch [13] M r.2 := by
  have hC : Ch [13] M M := Ch.rf
  obtain ⟨hR, ⟨hc, h⟩ | ⟨hc, h⟩⟩ := c_ne_i h
  · skip
    exact hC.tr (Law_reckon_5_191_c   k11 hk11 (x2) (x3) (x4) (x5) (x6) (x7) M r h) (by decide)
  · skip
    obtain ⟨hR, ⟨hc, h⟩ | ⟨hc, h⟩⟩ := c_ne_i h
    · skip
      exact hC.tr (Law_reckon_5_191_c   k11 hk11 (x2) (x3) (x4) (x5) (x6) (x7) M r h) (by decide)
    · skip
      exact hC.tr (Law_reckon_5_172_c   k11 hk11 (x2) (x3) (x4) (x5) (x6) (x8) M r h) (by decide)
theorem Law_reckon_5_124_c   (k11 : Int → Int → Int → Int → Int → am_M → Option (Int × am_M)) (hk11 : ∀ (x2 : Int) (x3 : Int) (x4 : Int) (x5 : Int) (x6 : Int) (M : am_M) (r : Int × am_M), k11 x2 x3 x4 x5 x6 M = some r → Ch [13] M r.2) (x2 : Int) (x3 : Int) (x5 : Int) (x6 : Int) (s0 : Int) (M : am_M) (r : Int × am_M) (h : Law_reckon_5_124   k11 x2 x3 x5 x6 s0 M = some r) : Ch [13] M r.2 := by
  have hC : Ch [13] M M := Ch.rf
  exact hC.tr (Law_reckon_5_423_c   k11 hk11 (x2) (x3) (s0) (x5) (x6) M r h) (by decide)
theorem Law_reckon_5_96_c   (k11 : Int → Int → Int → Int → Int → am_M → Option (Int × am_M)) (hk11 : ∀ (x2 : Int) (x3 : Int) (x4 : Int) (x5 : Int) (x6 : Int) (M : am_M) (r : Int × am_M), k11 x2 x3 x4 x5 x6 M = some r → Ch [13] M r.2) (x2 : Int) (x3 : Int) (x4 : Int) (x5 : Int) (x6 : Int) (x7 : Int) (x8 : Int) (M : am_M) (r : Int × am_M) (h : Law_reckon_5_96   k11 x2 x3 x4 x5 x6 x7 x8 M = some r) : Ch [13] M r.2 := by
  have hC : Ch [13] M M := Ch.rf
  obtain ⟨hc, M1, eM, h⟩ := wa_i h
  have hC := hC.up (by decide) eM
  obtain ⟨hR, ⟨hc, h⟩ | ⟨hc, h⟩⟩ := c_ne_i h
  · skip
    obtain ⟨hc, v2, ev, h⟩ := rd_i h
    exact hC.tr (Law_reckon_5_124_c   k11 hk11 (x2) ((x3) + (1)) (x5) (x6) (v2) M1 r h) (by decide)
  · skip
    exact hC.tr (Law_reckon_5_124_c   k11 hk11 (x2) ((x3) + (1)) (x5) (x6) (x8) M1 r h) (by decide)
theorem Law_reckon_5_94_c      (M : am_M) (r : Int × am_M) (h : Law_reckon_5_94     M = some r) : Ch [13] M r.2 := by
  have hC : Ch [13] M M := Ch.rf
  cases h
  exact hC
theorem Law_reckon_5_70_c   (k11 : Int → Int → Int → Int → Int → am_M → Option (Int × am_M)) (hk11 : ∀ (x2 : Int) (x3 : Int) (x4 : Int) (x5 : Int) (x6 : Int) (M : am_M) (r : Int × am_M), k11 x2 x3 x4 x5 x6 M = some r → Ch [13] M r.2) (x2 : Int) (x3 : Int) (x4 : Int) (x5 : Int) (x6 : Int) (x7 : Int) (x8 : Int) (M : am_M) (r : Int × am_M) (h : Law_reckon_5_70   k11 x2 x3 x4 x5 x6 x7 x8 M = some r) : Ch [13] M r.2 := by
  have hC : Ch [13] M M := Ch.rf
  obtain ⟨hR, ⟨hc, h⟩ | ⟨hc, h⟩⟩ := c_ge_i h
  · skip
    exact hC.tr (Law_reckon_5_94_c      M r h) (by decide)
  · skip
    obtain ⟨hR, ⟨hc, h⟩ | ⟨hc, h⟩⟩ := c_lt_i h
    · skip
      exact hC.tr (Law_reckon_5_94_c      M r h) (by decide)
    · skip
      obtain ⟨hR, ⟨hc, h⟩ | ⟨hc, h⟩⟩ := c_ne_i h
      · skip
        exact hC.tr (Law_reckon_5_96_c   k11 hk11 (x2) (x3) (x4) (x5) (x6) (x7) (x8) M r h) (by decide)
      · skip
        obtain ⟨hR, ⟨hc, h⟩ | ⟨hc, h⟩⟩ := c_lt_i h
        · skip
          exact hC.tr (Law_reckon_5_96_c   k11 hk11 (x2) (x3) (x4) (x5) (x6) (x7) (x8) M r h) (by decide)
        · skip
          exact hC.tr (Law_reckon_5_94_c      M r h) (by decide)
theorem Law_reckon_5_429_c     (x4 : Int) (M : am_M) (r : Int × am_M) (h : Law_reckon_5_429    x4 M = some r) : Ch [13] M r.2 := by
  have hC : Ch [13] M M := Ch.rf
  cases h
  exact hC
theorem Law_reckon_5_145_c   (k11 : Int → Int → Int → Int → Int → am_M → Option (Int × am_M)) (hk11 : ∀ (x2 : Int) (x3 : Int) (x4 : Int) (x5 : Int) (x6 : Int) (M : am_M) (r : Int × am_M), k11 x2 x3 x4 x5 x6 M = some r → Ch [13] M r.2) (x2 : Int) (x3 : Int) (x5 : Int) (x6 : Int) (s0 : Int) (M : am_M) (r : Int × am_M) (h : Law_reckon_5_145   k11 x2 x3 x5 x6 s0 M = some r) : Ch [13] M r.2 := by
  have hC : Ch [13] M M := Ch.rf
  exact hC.tr (Law_reckon_5_423_c   k11 hk11 (x2) (x3) (s0) (x5) (x6) M r h) (by decide)
theorem Law_reckon_5_11_c     : ∀ (n : Nat) (x2 : Int) (x3 : Int) (x4 : Int) (x5 : Int) (x6 : Int) (M : am_M) (r : Int × am_M), Law_reckon_5_11    n x2 x3 x4 x5 x6 M = some r → Ch [13] M r.2
  | 0, _, _, _, _, _, M, r, h => by cases h
  | n + 1, x2, x3, x4, x5, x6, M, r, h => by
    have ih := Law_reckon_5_11_c     n
    have hC : Ch [13] M M := Ch.rf
    obtain ⟨hR, ⟨hc, h⟩ | ⟨hc, h⟩⟩ := c_ge_i h
    · skip
      exact hC.tr (Law_reckon_5_429_c     (x4) M r h) (by decide)
    · skip
      obtain ⟨hR, ⟨hc, h⟩ | ⟨hc, h⟩⟩ := c_lt_i h
      · skip
        exact hC.tr (Law_reckon_5_429_c     (x4) M r h) (by decide)
      · skip
        obtain ⟨hR, ⟨hc, h⟩ | ⟨hc, h⟩⟩ := c_ge_i h
        · skip
          exact hC.tr (Law_reckon_5_429_c     (x4) M r h) (by decide)
        · skip
          obtain ⟨hR, ⟨hc, h⟩ | ⟨hc, h⟩⟩ := c_ge_i h
          · skip
            exact hC.tr (Law_reckon_5_429_c     (x4) M r h) (by decide)
          · skip
            obtain ⟨hc, v1, ev, h⟩ := rd_i h
            obtain ⟨hc, v2, ev, h⟩ := rd_i h
            obtain ⟨hR, ⟨hc, h⟩ | ⟨hc, h⟩⟩ := c_eq_i h
            · skip
              exact hC.tr (Law_reckon_5_70_c   (Law_reckon_5_11    n) ih (x2) (x3) (x4) ((x5) + (1)) (x6) (v1) (v2) M r h) (by decide)
            · skip
              obtain ⟨hR, ⟨hc, h⟩ | ⟨hc, h⟩⟩ := c_ne_i h
              · skip
                obtain ⟨hR, ⟨hc, h⟩ | ⟨hc, h⟩⟩ := c_ne_i h
                · skip
                  obtain ⟨hR, ⟨hc, h⟩ | ⟨hc, h⟩⟩ := c_ne_i h
                  · skip
                    exact hC.tr (Law_reckon_5_161_c   (Law_reckon_5_11    n) ih (x2) (x3) (x4) ((x5) + (1)) (x6) (v1) (v2) M r h) (by decide)
                  · skip
                    obtain ⟨hR, ⟨hc, h⟩ | ⟨hc, h⟩⟩ := c_ne_i h
                    · skip
                      exact hC.tr (Law_reckon_5_172_c   (Law_reckon_5_11    n) ih (x2) (x3) (x4) ((x5) + (1)) (x6) (v2) M r h) (by decide)
                    · skip
                      exact hC.tr (Law_reckon_5_161_c   (Law_reckon_5_11    n) ih (x2) (x3) (x4) ((x5) + (1)) (x6) (v1) (v2) M r h) (by decide)
                · skip
                  obtain ⟨hR, ⟨hc, h⟩ | ⟨hc, h⟩⟩ := c_ne_i h
                  · skip
                    exact hC.tr (Law_reckon_5_145_c   (Law_reckon_5_11    n) ih (x2) (x3) ((x5) + (1)) (x6) (0) M r h) (by decide)
                  · skip
                    exact hC.tr (Law_reckon_5_145_c   (Law_reckon_5_11    n) ih (x2) (x3) ((x5) + (1)) (x6) (1) M r h) (by decide)
              · skip
                exact hC.tr (Law_reckon_5_70_c   (Law_reckon_5_11    n) ih (x2) (x3) (x4) ((x5) + (1)) (x6) (v1) (v2) M r h) (by decide)
theorem Law_reckon_5_c     (x1 : Int) (x2 : Int) (M : am_M) (r : Int × am_M) (h : Law_reckon_5    x1 x2 M = some r) : Ch [13] M r.2 := by
  have hC : Ch [13] M M := Ch.rf
  exact hC.tr (Law_reckon_5_11_c     am_big (x2) (0) (0) (x1) (0) M r h) (by decide)
theorem Law_ask_5_76_c      (M : am_M) (r : Int × am_M) (h : Law_ask_5_76     M = some r) : Ch [13] M r.2 := by
  have hC : Ch [13] M M := Ch.rf
  cases h
  exact hC
theorem Law_ask_5_70_c   (k2 : Int → Int → Int → am_M → Option (Int × am_M)) (hk2 : ∀ (x1 : Int) (x2 : Int) (x3 : Int) (M : am_M) (r : Int × am_M), k2 x1 x2 x3 M = some r → Ch [13] M r.2) (x1 : Int) (x2 : Int) (x3 : Int) (M : am_M) (r : Int × am_M) (h : Law_ask_5_70   k2 x1 x2 x3 M = some r) : Ch [13] M r.2 := by
  have hC : Ch [13] M M := Ch.rf
  exact hC.tr (hk2 (x1) (x2) ((x3) + (1)) M r h) (by decide)
theorem Law_ask_5_2_c     : ∀ (n : Nat) (x1 : Int) (x2 : Int) (x3 : Int) (M : am_M) (r : Int × am_M), Law_ask_5_2    n x1 x2 x3 M = some r → Ch [13] M r.2
  | 0, _, _, _, M, r, h => by cases h
  | n + 1, x1, x2, x3, M, r, h => by
    have ih := Law_ask_5_2_c     n
    have hC : Ch [13] M M := Ch.rf
    obtain ⟨hR, ⟨hc, h⟩ | ⟨hc, h⟩⟩ := c_ge_i h
    · skip
      exact hC.tr (Law_ask_5_76_c      M r h) (by decide)
    · skip
      obtain ⟨hR, ⟨hc, h⟩ | ⟨hc, h⟩⟩ := c_ge_i h
      · skip
        exact hC.tr (Law_ask_5_76_c      M r h) (by decide)
      · skip
        obtain ⟨hc, v1, ev, h⟩ := rd_i h
        obtain ⟨hR, ⟨hc, h⟩ | ⟨hc, h⟩⟩ := c_ne_i h
        · skip
          exact hC.tr (Law_ask_5_70_c   (Law_ask_5_2    n) ih (x1) (x2) (x3) M r h) (by decide)
        · skip
          obtain ⟨hc, v2, ev, h⟩ := rd_i h
          obtain ⟨hc, v3, ev, h⟩ := rd_i h
          obtain ⟨v4, M5, hv, h⟩ := oc_i h
          have hC := hC.tr (Law_reckon_5_c (v2) (v3) M _ hv) (by decide)
          obtain ⟨hR, ⟨hc, h⟩ | ⟨hc, h⟩⟩ := c_eq_i h
          · skip
            exact hC.tr (Law_ask_5_70_c   (Law_ask_5_2    n) ih (x1) (x2) (x3) M5 r h) (by decide)
          · skip
            obtain ⟨hc, v6, ev, h⟩ := rd_i h
            obtain ⟨hc, v7, ev, h⟩ := rd_i h
            obtain ⟨v8, M9, hv, h⟩ := oc_i h
            have hC := hC.tr (Law_reckon_5_c (v6) (v7) M5 _ hv) (by decide)
            obtain ⟨v10, hv, h⟩ := ob_i h
            obtain ⟨v11, hv, h⟩ := ob_i h
            cases h
            exact hC
theorem Law_ask_5_c     (x1 : Int) (x2 : Int) (M : am_M) (r : Int × am_M) (h : Law_ask_5    x1 x2 M = some r) : Ch [13] M r.2 := by
  have hC : Ch [13] M M := Ch.rf
  exact hC.tr (Law_ask_5_2_c     am_big (x1) (x2) (0) M r h) (by decide)
theorem Law_resting_5_c     (x1 : Int) (x2 : Int) (x3 : Int) (M : am_M) (r : Int × am_M) (h : Law_resting_5    x1 x2 x3 M = some r) : Ch [12, 13] M r.2 := by
  have hC : Ch [12, 13] M M := Ch.rf
  obtain ⟨M1, hv, h⟩ := ob_i h
  have hC := hC.tr (Law_say_5_c (0) (0) (x1) (x2) (0) (0) (x3) M _ hv) (by decide)
  obtain ⟨v2, M3, hv, h⟩ := oc_i h
  have hC := hC.tr (Law_ask_5_c (101) (20) M1 _ hv) (by decide)
  cases h
  exact hC
theorem Outing_rest_50_26_68_c      (M : am_M) (r : am_M) (h : Outing_rest_50_26_68     M = some r) : Ch [12, 13, 26, 27, 50] M r := by
  have hC : Ch [12, 13, 26, 27, 50] M M := Ch.rf
  cases h
  exact hC
theorem Outing_rest_50_26_62_c   (k12 : Int → am_M → Option (am_M)) (hk12 : ∀ (x2 : Int) (M : am_M) (r : am_M), k12 x2 M = some r → Ch [12, 13, 26, 27, 50] M r) (x2 : Int) (M : am_M) (r : am_M) (h : Outing_rest_50_26_62   k12 x2 M = some r) : Ch [12, 13, 26, 27, 50] M r := by
  have hC : Ch [12, 13, 26, 27, 50] M M := Ch.rf
  exact hC.tr (hk12 ((x2) + (1)) M r h) (by decide)
theorem Outing_rest_50_26_12_c     : ∀ (n : Nat) (x2 : Int) (M : am_M) (r : am_M), Outing_rest_50_26_12    n x2 M = some r → Ch [12, 13, 26, 27, 50] M r
  | 0, _, M, r, h => by cases h
  | n + 1, x2, M, r, h => by
    have ih := Outing_rest_50_26_12_c     n
    have hC : Ch [12, 13, 26, 27, 50] M M := Ch.rf
    obtain ⟨hR, ⟨hc, h⟩ | ⟨hc, h⟩⟩ := c_ge_i h
    · skip
      exact hC.tr (Outing_rest_50_26_68_c      M r h) (by decide)
    · skip
      obtain ⟨v1, hv, h⟩ := ob_i h
      obtain ⟨hR, ⟨hc, h⟩ | ⟨hc, h⟩⟩ := c_eq_i h
      · skip
        exact hC.tr (Outing_rest_50_26_62_c   (Outing_rest_50_26_12    n) ih (x2) M r h) (by decide)
      · skip
        obtain ⟨v2, hv, h⟩ := ob_i h
        obtain ⟨v3, hv, h⟩ := ob_i h
        obtain ⟨v4, M5, hv, h⟩ := oc_i h
        have hC := hC.tr (Law_resting_5_c (v3) (v2) (M 26 13) M _ hv) (by decide)
        obtain ⟨M6, hv, h⟩ := ob_i h
        have hC := hC.tr (Trip_setTired_26_c (x2) ((v2) - (v4)) M5 _ hv) (by decide)
        exact hC.tr (Outing_rest_50_26_62_c   (Outing_rest_50_26_12    n) ih (x2) M6 r h) (by decide)
theorem Outing_rest_50_26_c      (M : am_M) (r : am_M) (h : Outing_rest_50_26     M = some r) : Ch [12, 13, 26, 27, 50] M r := by
  have hC : Ch [12, 13, 26, 27, 50] M M := Ch.rf
  obtain ⟨v1, M2, hv, h⟩ := oc_i h
  have hC := hC.tr (Outing_spend_50_26_c (10) M _ hv) (by decide)
  obtain ⟨hR, ⟨hc, h⟩ | ⟨hc, h⟩⟩ := c_eq_i h
  · skip
    exact hC.tr (Outing_rest_50_26_68_c      M2 r h) (by decide)
  · skip
    exact hC.tr (Outing_rest_50_26_12_c     am_big (0) M2 r h) (by decide)
theorem Trip_putMark_26_24_c      (M : am_M) (r : am_M) (h : Trip_putMark_26_24     M = some r) : Ch [31] M r := by
  have hC : Ch [31] M M := Ch.rf
  cases h
  exact hC
theorem Trip_putMark_26_c     (x1 : Int) (M : am_M) (r : am_M) (h : Trip_putMark_26    x1 M = some r) : Ch [31] M r := by
  have hC : Ch [31] M M := Ch.rf
  obtain ⟨v1, hv, h⟩ := ob_i h
  obtain ⟨hR, ⟨hc, h⟩ | ⟨hc, h⟩⟩ := c_eq_i h
  · skip
    exact hC.tr (Trip_putMark_26_24_c      M r h) (by decide)
  · skip
    obtain ⟨hc, v2, ev, h⟩ := rd_i h
    obtain ⟨hc, M3, eM, h⟩ := wa_i h
    have hC := hC.up (by decide) eM
    exact hC.tr (Trip_putMark_26_24_c      M3 r h) (by decide)
theorem Outing_mark_50_26_27_c      (M : am_M) (r : am_M) (h : Outing_mark_50_26_27     M = some r) : Ch [26, 31, 50] M r := by
  have hC : Ch [26, 31, 50] M M := Ch.rf
  cases h
  exact hC
theorem Outing_mark_50_26_c     (x2 : Int) (M : am_M) (r : am_M) (h : Outing_mark_50_26    x2 M = some r) : Ch [26, 31, 50] M r := by
  have hC : Ch [26, 31, 50] M M := Ch.rf
  obtain ⟨v1, hv, h⟩ := ob_i h
  obtain ⟨hR, ⟨hc, h⟩ | ⟨hc, h⟩⟩ := c_ne_i h
  · skip
    exact hC.tr (Outing_mark_50_26_27_c      M r h) (by decide)
  · skip
    obtain ⟨v2, M3, hv, h⟩ := oc_i h
    have hC := hC.tr (Outing_spend_50_26_c (2) M _ hv) (by decide)
    obtain ⟨hR, ⟨hc, h⟩ | ⟨hc, h⟩⟩ := c_eq_i h
    · skip
      exact hC.tr (Outing_mark_50_26_27_c      M3 r h) (by decide)
    · skip
      obtain ⟨M4, hv, h⟩ := ob_i h
      have hC := hC.tr (Trip_putMark_26_c (x2) M3 _ hv) (by decide)
      exact hC.tr (Outing_mark_50_26_27_c      M4 r h) (by decide)
theorem Trip_putStick_26_21_c      (M : am_M) (r : am_M) (h : Trip_putStick_26_21     M = some r) : Ch [32] M r := by
  have hC : Ch [32] M M := Ch.rf
  cases h
  exact hC
theorem Trip_putStick_26_c      (M : am_M) (r : am_M) (h : Trip_putStick_26     M = some r) : Ch [32] M r := by
  have hC : Ch [32] M M := Ch.rf
  obtain ⟨v1, hv, h⟩ := ob_i h
  obtain ⟨hR, ⟨hc, h⟩ | ⟨hc, h⟩⟩ := c_eq_i h
  · skip
    exact hC.tr (Trip_putStick_26_21_c      M r h) (by decide)
  · skip
    obtain ⟨hc, M2, eM, h⟩ := wa_i h
    have hC := hC.up (by decide) eM
    exact hC.tr (Trip_putStick_26_21_c      M2 r h) (by decide)
theorem Outing_lay_50_26_24_c      (M : am_M) (r : am_M) (h : Outing_lay_50_26_24     M = some r) : Ch [26, 32, 50] M r := by
  have hC : Ch [26, 32, 50] M M := Ch.rf
  cases h
  exact hC
theorem Outing_lay_50_26_c      (M : am_M) (r : am_M) (h : Outing_lay_50_26     M = some r) : Ch [26, 32, 50] M r := by
  have hC : Ch [26, 32, 50] M M := Ch.rf
  obtain ⟨v1, hv, h⟩ := ob_i h
  obtain ⟨hR, ⟨hc, h⟩ | ⟨hc, h⟩⟩ := c_ne_i h
  · skip
    exact hC.tr (Outing_lay_50_26_24_c      M r h) (by decide)
  · skip
    obtain ⟨v2, M3, hv, h⟩ := oc_i h
    have hC := hC.tr (Outing_spend_50_26_c (1) M _ hv) (by decide)
    obtain ⟨hR, ⟨hc, h⟩ | ⟨hc, h⟩⟩ := c_eq_i h
    · skip
      exact hC.tr (Outing_lay_50_26_24_c      M3 r h) (by decide)
    · skip
      obtain ⟨M4, hv, h⟩ := ob_i h
      have hC := hC.tr (Trip_putStick_26_c M3 _ hv) (by decide)
      exact hC.tr (Outing_lay_50_26_24_c      M4 r h) (by decide)
theorem Law_tiring_5_c     (x1 : Int) (x2 : Int) (x3 : Int) (x4 : Int) (M : am_M) (r : Int × am_M) (h : Law_tiring_5    x1 x2 x3 x4 M = some r) : Ch [12, 13] M r.2 := by
  have hC : Ch [12, 13] M M := Ch.rf
  obtain ⟨M1, hv, h⟩ := ob_i h
  have hC := hC.tr (Law_say_5_c (x1) (0) (x2) (x3) (0) (0) (x4) M _ hv) (by decide)
  obtain ⟨v2, M3, hv, h⟩ := oc_i h
  have hC := hC.tr (Law_ask_5_c (110) (20) M1 _ hv) (by decide)
  cases h
  exact hC
theorem Law_cutting_5_c     (x1 : Int) (x2 : Int) (x3 : Int) (x4 : Int) (x5 : Int) (M : am_M) (r : Int × am_M) (h : Law_cutting_5    x1 x2 x3 x4 x5 M = some r) : Ch [12, 13] M r.2 := by
  have hC : Ch [12, 13] M M := Ch.rf
  obtain ⟨M1, hv, h⟩ := ob_i h
  have hC := hC.tr (Law_say_5_c (x1) (x2) (x3) (x4) (0) (0) (x5) M _ hv) (by decide)
  obtain ⟨v2, M3, hv, h⟩ := oc_i h
  have hC := hC.tr (Law_ask_5_c (99) (240) M1 _ hv) (by decide)
  cases h
  exact hC
theorem Law_walking_5_c     (x1 : Int) (x2 : Int) (x3 : Int) (x4 : Int) (x5 : Int) (M : am_M) (r : Int × am_M) (h : Law_walking_5    x1 x2 x3 x4 x5 M = some r) : Ch [12, 13] M r.2 := by
  have hC : Ch [12, 13] M M := Ch.rf
  obtain ⟨M1, hv, h⟩ := ob_i h
  have hC := hC.tr (Law_say_5_c (x1) (x2) (0) (0) (x3) (x4) (x5) M _ hv) (by decide)
  obtain ⟨v2, M3, hv, h⟩ := oc_i h
  have hC := hC.tr (Law_ask_5_c (118) (60) M1 _ hv) (by decide)
  cases h
  exact hC
theorem Trip_minutesOnto_26_15_c     (x1 : Int) (s0 : Int) (M : am_M) (r : Int × am_M) (h : Trip_minutesOnto_26_15    x1 s0 M = some r) : Ch [12, 13] M r.2 := by
  have hC : Ch [12, 13] M M := Ch.rf
  obtain ⟨v1, hv, h⟩ := ob_i h
  obtain ⟨v2, hv, h⟩ := ob_i h
  obtain ⟨v3, hv, h⟩ := ob_i h
  obtain ⟨v4, M5, hv, h⟩ := oc_i h
  have hC := hC.tr (Law_walking_5_c (v1) (v2) (v3) (s0) (M 26 13) M _ hv) (by decide)
  cases h
  exact hC
theorem Trip_minutesOnto_26_c     (x1 : Int) (x2 : Int) (M : am_M) (r : Int × am_M) (h : Trip_minutesOnto_26    x1 x2 M = some r) : Ch [12, 13] M r.2 := by
  have hC : Ch [12, 13] M M := Ch.rf
  obtain ⟨v1, hv, h⟩ := ob_i h
  obtain ⟨hR, ⟨hc, h⟩ | ⟨hc, h⟩⟩ := c_eq_i h
  · skip
    exact hC.tr (Trip_minutesOnto_26_15_c     (x1) (0) M r h) (by decide)
  · skip
    exact hC.tr (Trip_minutesOnto_26_15_c     (x1) (1) M r h) (by decide)
theorem Outing_goTo_50_26_222_c      (M : am_M) (r : am_M) (h : Outing_goTo_50_26_222     M = some r) : Ch [12, 13, 26, 27, 28, 29, 30, 31, 32, 33, 50] M r := by
  have hC : Ch [12, 13, 26, 27, 28, 29, 30, 31, 32, 33, 50] M M := Ch.rf
  cases h
  exact hC
theorem Outing_goTo_50_26_c     (x2 : Int) (M : am_M) (r : am_M) (h : Outing_goTo_50_26    x2 M = some r) : Ch [12, 13, 26, 27, 28, 29, 30, 31, 32, 33, 50] M r := by
  have hC : Ch [12, 13, 26, 27, 28, 29, 30, 31, 32, 33, 50] M M := Ch.rf
  obtain ⟨v1, hv, h⟩ := ob_i h
  obtain ⟨v2, hv, h⟩ := ob_i h
  obtain ⟨hR, ⟨hc, h⟩ | ⟨hc, h⟩⟩ := c_ge_i h
  · skip
    obtain ⟨v3, hv, h⟩ := ob_i h
    obtain ⟨hR, ⟨hc, h⟩ | ⟨hc, h⟩⟩ := c_ne_i h
    · skip
      obtain ⟨v4, hv, h⟩ := ob_i h
      obtain ⟨hR, ⟨hc, h⟩ | ⟨hc, h⟩⟩ := c_ne_i h
      · skip
        obtain ⟨v5, hv, h⟩ := ob_i h
        obtain ⟨hR, ⟨hc, h⟩ | ⟨hc, h⟩⟩ := c_eq_i h
        · skip
          exact hC.tr (Outing_goTo_50_26_222_c      M r h) (by decide)
        · skip
          obtain ⟨v6, hv, h⟩ := ob_i h
          obtain ⟨v7, hv, h⟩ := ob_i h
          obtain ⟨v8, hv, h⟩ := ob_i h
          obtain ⟨v9, M10, hv, h⟩ := oc_i h
          have hC := hC.tr (Law_tiring_5_c (v6) (v7) (v8) (M 26 13) M _ hv) (by decide)
          obtain ⟨v11, M12, hv, h⟩ := oc_i h
          have hC := hC.tr (Law_cutting_5_c (v6) (M10 1 3) (v7) (v8) (M10 26 13) M10 _ hv) (by decide)
          obtain ⟨v13, M14, hv, h⟩ := oc_i h
          have hC := hC.tr (Outing_spend_50_26_c (v11) M12 _ hv) (by decide)
          obtain ⟨hR, ⟨hc, h⟩ | ⟨hc, h⟩⟩ := c_eq_i h
          · skip
            exact hC.tr (Outing_goTo_50_26_222_c      M14 r h) (by decide)
          · skip
            obtain ⟨M15, hv, h⟩ := ob_i h
            have hC := hC.tr (Trip_setTired_26_c (M14 26 9) ((v8) + (v9)) M14 _ hv) (by decide)
            obtain ⟨M16, hv, h⟩ := ob_i h
            have hC := hC.tr (Trip_append_26_c (v2) M15 _ hv) (by decide)
            obtain ⟨M17, eM, h⟩ := fw_i h
            have hC := hC.up (by decide) eM
            exact hC.tr (Outing_goTo_50_26_222_c      M17 r h) (by decide)
      · skip
        obtain ⟨v18, M19, hv, h⟩ := oc_i h
        have hC := hC.tr (Trip_minutesOnto_26_c ((M 26 11) - (1)) (2) M _ hv) (by decide)
        obtain ⟨v20, M21, hv, h⟩ := oc_i h
        have hC := hC.tr (Outing_spend_50_26_c (v18) M19 _ hv) (by decide)
        obtain ⟨hR, ⟨hc, h⟩ | ⟨hc, h⟩⟩ := c_eq_i h
        · skip
          exact hC.tr (Outing_goTo_50_26_222_c      M21 r h) (by decide)
        · skip
          obtain ⟨M22, eM, h⟩ := fw_i h
          have hC := hC.up (by decide) eM
          exact hC.tr (Outing_goTo_50_26_222_c      M22 r h) (by decide)
    · skip
      obtain ⟨v23, M24, hv, h⟩ := oc_i h
      have hC := hC.tr (Trip_minutesOnto_26_c ((M 26 11) + (1)) (1) M _ hv) (by decide)
      obtain ⟨v25, M26, hv, h⟩ := oc_i h
      have hC := hC.tr (Outing_spend_50_26_c (v23) M24 _ hv) (by decide)
      obtain ⟨hR, ⟨hc, h⟩ | ⟨hc, h⟩⟩ := c_eq_i h
      · skip
        exact hC.tr (Outing_goTo_50_26_222_c      M26 r h) (by decide)
      · skip
        obtain ⟨M27, eM, h⟩ := fw_i h
        have hC := hC.up (by decide) eM
        exact hC.tr (Outing_goTo_50_26_222_c      M27 r h) (by decide)
  · skip
    cases h
    exact hC
theorem Outing_doAct_50_26_120_c      (M : am_M) (r : am_M) (h : Outing_doAct_50_26_120     M = some r) : Ch [12, 13, 26, 27, 28, 29, 30, 31, 32, 33, 50] M r := by
  have hC : Ch [12, 13, 26, 27, 28, 29, 30, 31, 32, 33, 50] M M := Ch.rf
  cases h
  exact hC
theorem Outing_doAct_50_26_103_c      (M : am_M) (r : am_M) (h : Outing_doAct_50_26_103     M = some r) : Ch [12, 13, 26, 27, 28, 29, 30, 31, 32, 33, 50] M r := by
  have hC : Ch [12, 13, 26, 27, 28, 29, 30, 31, 32, 33, 50] M M := Ch.rf
  obtain ⟨hR, ⟨hc, h⟩ | ⟨hc, h⟩⟩ := c_ne_i h
  · skip
    exact hC.tr (Outing_doAct_50_26_120_c      M r h) (by decide)
  · skip
    obtain ⟨M1, eM, h⟩ := fw_i h
    have hC := hC.up (by decide) eM
    exact hC.tr (Outing_doAct_50_26_120_c      M1 r h) (by decide)
theorem Outing_doAct_50_26_c     (x2 : Int) (M : am_M) (r : am_M) (h : Outing_doAct_50_26    x2 M = some r) : Ch [12, 13, 26, 27, 28, 29, 30, 31, 32, 33, 50] M r := by
  have hC : Ch [12, 13, 26, 27, 28, 29, 30, 31, 32, 33, 50] M M := Ch.rf
  obtain ⟨hR, h⟩ := ck_i h
  rcases if_i h with ⟨hq, h⟩ | ⟨hq0, h⟩
  · skip
    obtain ⟨M1, hv, h⟩ := ob_i h
    have hC := hC.tr (Outing_change_50_26_c M _ hv) (by decide)
    exact hC.tr (Outing_doAct_50_26_103_c      M1 r h) (by decide)
  · skip
    rcases if_i h with ⟨hq, h⟩ | ⟨hq1, h⟩
    · skip
      obtain ⟨M2, hv, h⟩ := ob_i h
      have hC := hC.tr (Outing_rest_50_26_c M _ hv) (by decide)
      exact hC.tr (Outing_doAct_50_26_103_c      M2 r h) (by decide)
    · skip
      rcases if_i h with ⟨hq, h⟩ | ⟨hq2, h⟩
      · skip
        obtain ⟨M3, hv, h⟩ := ob_i h
        have hC := hC.tr (Outing_mark_50_26_c (2) M _ hv) (by decide)
        exact hC.tr (Outing_doAct_50_26_103_c      M3 r h) (by decide)
      · skip
        rcases if_i h with ⟨hq, h⟩ | ⟨hq3, h⟩
        · skip
          obtain ⟨M4, hv, h⟩ := ob_i h
          have hC := hC.tr (Outing_mark_50_26_c (1) M _ hv) (by decide)
          exact hC.tr (Outing_doAct_50_26_103_c      M4 r h) (by decide)
        · skip
          rcases if_i h with ⟨hq, h⟩ | ⟨hq4, h⟩
          · skip
            obtain ⟨M5, hv, h⟩ := ob_i h
            have hC := hC.tr (Outing_lay_50_26_c M _ hv) (by decide)
            exact hC.tr (Outing_doAct_50_26_103_c      M5 r h) (by decide)
          · skip
            · skip
              obtain ⟨v6, hv, h⟩ := ob_i h
              obtain ⟨M7, hv, h⟩ := ob_i h
              have hC := hC.tr (Outing_goTo_50_26_c (v6) M _ hv) (by decide)
              exact hC.tr (Outing_doAct_50_26_103_c      M7 r h) (by decide)
theorem Outing_perform_50_26_60_c     (x2 : Int) (M : am_M) (r : Int × am_M) (h : Outing_perform_50_26_60    x2 M = some r) : Ch [12, 13, 26, 27, 28, 29, 30, 31, 32, 33, 50] M r.2 := by
  have hC : Ch [12, 13, 26, 27, 28, 29, 30, 31, 32, 33, 50] M M := Ch.rf
  cases h
  exact hC
theorem Outing_perform_50_26_22_c     : ∀ (n : Nat) (x2 : Int) (x3 : Int) (M : am_M) (r : Int × am_M), Outing_perform_50_26_22    n x2 x3 M = some r → Ch [12, 13, 26, 27, 28, 29, 30, 31, 32, 33, 50] M r.2
  | 0, _, _, M, r, h => by cases h
  | n + 1, x2, x3, M, r, h => by
    have ih := Outing_perform_50_26_22_c     n
    have hC : Ch [12, 13, 26, 27, 28, 29, 30, 31, 32, 33, 50] M M := Ch.rf
    obtain ⟨hR, ⟨hc, h⟩ | ⟨hc, h⟩⟩ := c_ge_i h
    · skip
      exact hC.tr (Outing_perform_50_26_60_c     (x2) M r h) (by decide)
    · skip
      obtain ⟨hR, ⟨hc, h⟩ | ⟨hc, h⟩⟩ := c_ge_i h
      · skip
        exact hC.tr (Outing_perform_50_26_60_c     (x2) M r h) (by decide)
      · skip
        obtain ⟨hR, ⟨hc, h⟩ | ⟨hc, h⟩⟩ := c_ne_i h
        · skip
          exact hC.tr (Outing_perform_50_26_60_c     (x2) M r h) (by decide)
        · skip
          obtain ⟨hc, v1, ev, h⟩ := rd_i h
          obtain ⟨M2, hv, h⟩ := ob_i h
          have hC := hC.tr (Outing_doAct_50_26_c (v1) M _ hv) (by decide)
          exact hC.tr (ih (x2) ((x3) + (1)) M2 r h) (by decide)
theorem Outing_perform_50_26_c      (M : am_M) (r : Int × am_M) (h : Outing_perform_50_26     M = some r) : Ch [12, 13, 26, 27, 28, 29, 30, 31, 32, 33, 50] M r.2 := by
  have hC : Ch [12, 13, 26, 27, 28, 29, 30, 31, 32, 33, 50] M M := Ch.rf
  obtain ⟨M1, eM, h⟩ := fw_i h
  have hC := hC.up (by decide) eM
  obtain ⟨M2, eM, h⟩ := fw_i h
  have hC := hC.up (by decide) eM
  obtain ⟨hc, M3, eM, h⟩ := fz_i h
  have hC := hC.up (by decide) eM
  exact hC.tr (Outing_perform_50_26_22_c     am_big (M 26 12) (0) M3 r h) (by decide)
theorem P_orders_47_c     (s0 : Int) (M : am_M) (r : Int × am_M) (h : P_orders_47    s0 M = some r) : Ch [12, 13, 14, 26, 27, 28, 29, 30, 31, 32, 33, 50, 51] M r.2 := by
  have hC : Ch [12, 13, 14, 26, 27, 28, 29, 30, 31, 32, 33, 50, 51] M M := Ch.rf
  cases h
  exact hC
theorem P_orders_c     (x1 : Int) (M : am_M) (r : Int × am_M) (h : P_orders    x1 M = some r) : Ch [12, 13, 14, 26, 27, 28, 29, 30, 31, 32, 33, 50, 51] M r.2 := by
  have hC : Ch [12, 13, 14, 26, 27, 28, 29, 30, 31, 32, 33, 50, 51] M M := Ch.rf
  obtain ⟨v1, M2, hv, h⟩ := oc_i h
  have hC := hC.tr (Tape_take_c (x1) (1) (80) M _ hv) (by decide)
  obtain ⟨hR, ⟨hc, h⟩ | ⟨hc, h⟩⟩ := c_ne_i h
  · skip
    obtain ⟨v3, M4, hv, h⟩ := oc_i h
    have hC := hC.tr (Outing_readActs_50_c M2 _ hv) (by decide)
    obtain ⟨hR, ⟨hc, h⟩ | ⟨hc, h⟩⟩ := c_ge_i h
    · skip
      obtain ⟨v5, M6, hv, h⟩ := oc_i h
      have hC := hC.tr (Outing_perform_50_26_c M4 _ hv) (by decide)
      exact hC.tr (P_orders_47_c     (v5) M6 r h) (by decide)
    · skip
      exact hC.tr (P_orders_47_c     (v3) M4 r h) (by decide)
  · skip
    cases h
    exact hC
theorem Trip_copyFrom_34_26_c      (M : am_M) (r : am_M) (h : Trip_copyFrom_34_26     M = some r) : Ch [34, 35, 36, 37, 38, 39, 40, 41] M r := by
  have hC : Ch [34, 35, 36, 37, 38, 39, 40, 41] M M := Ch.rf
  obtain ⟨hc, M1, eM, h⟩ := cpy_i h
  have hC := hC.cp (by decide) eM
  obtain ⟨hc, M2, eM, h⟩ := cpy_i h
  have hC := hC.cp (by decide) eM
  obtain ⟨hc, M3, eM, h⟩ := cpy_i h
  have hC := hC.cp (by decide) eM
  obtain ⟨hc, M4, eM, h⟩ := cpy_i h
  have hC := hC.cp (by decide) eM
  obtain ⟨hc, M5, eM, h⟩ := cpy_i h
  have hC := hC.cp (by decide) eM
  obtain ⟨hc, M6, eM, h⟩ := cpy_i h
  have hC := hC.cp (by decide) eM
  obtain ⟨hc, M7, eM, h⟩ := cpy_i h
  have hC := hC.cp (by decide) eM
  obtain ⟨M8, eM, h⟩ := fw_i h
  have hC := hC.up (by decide) eM
  obtain ⟨M9, eM, h⟩ := fw_i h
  have hC := hC.up (by decide) eM
  obtain ⟨M10, eM, h⟩ := fw_i h
  have hC := hC.up (by decide) eM
  obtain ⟨M11, eM, h⟩ := fw_i h
  have hC := hC.up (by decide) eM
  obtain ⟨M12, eM, h⟩ := fw_i h
  have hC := hC.up (by decide) eM
  obtain ⟨M13, eM, h⟩ := fw_i h
  have hC := hC.up (by decide) eM
  cases h
  exact hC
theorem Outing_spend_50_34_54_c     (s0 : Int) (M : am_M) (r : Int × am_M) (h : Outing_spend_50_34_54    s0 M = some r) : Ch [34, 50] M r.2 := by
  have hC : Ch [34, 50] M M := Ch.rf
  obtain ⟨hc, h⟩ := ck_i h
  cases h
  exact hC
theorem Outing_spend_50_34_42_c      (M : am_M) (r : Int × am_M) (h : Outing_spend_50_34_42     M = some r) : Ch [34, 50] M r.2 := by
  have hC : Ch [34, 50] M M := Ch.rf
  obtain ⟨hR, ⟨hc, h⟩ | ⟨hc, h⟩⟩ := c_ne_i h
  · skip
    exact hC.tr (Outing_spend_50_34_54_c     (0) M r h) (by decide)
  · skip
    exact hC.tr (Outing_spend_50_34_54_c     (1) M r h) (by decide)
theorem Outing_spend_50_34_22_c     (x2 : Int) (s1 : Int) (M : am_M) (r : Int × am_M) (h : Outing_spend_50_34_22    x2 s1 M = some r) : Ch [34, 50] M r.2 := by
  have hC : Ch [34, 50] M M := Ch.rf
  obtain ⟨hc, M1, eM, h⟩ := fz_i h
  have hC := hC.up (by decide) eM
  obtain ⟨hR, ⟨hc, h⟩ | ⟨hc, h⟩⟩ := c_ne_i h
  · skip
    exact hC.tr (Outing_spend_50_34_42_c      M1 r h) (by decide)
  · skip
    obtain ⟨M2, eM, h⟩ := fw_i h
    have hC := hC.up (by decide) eM
    exact hC.tr (Outing_spend_50_34_42_c      M2 r h) (by decide)
theorem Outing_spend_50_34_c     (x2 : Int) (M : am_M) (r : Int × am_M) (h : Outing_spend_50_34    x2 M = some r) : Ch [34, 50] M r.2 := by
  have hC : Ch [34, 50] M M := Ch.rf
  obtain ⟨hR, ⟨hc, h⟩ | ⟨hc, h⟩⟩ := c_le_i h
  · skip
    exact hC.tr (Outing_spend_50_34_22_c     (x2) (0) M r h) (by decide)
  · skip
    exact hC.tr (Outing_spend_50_34_22_c     (x2) (1) M r h) (by decide)
theorem Outing_change_50_34_38_c      (M : am_M) (r : am_M) (h : Outing_change_50_34_38     M = some r) : Ch [34, 50] M r := by
  have hC : Ch [34, 50] M M := Ch.rf
  cases h
  exact hC
theorem Outing_change_50_34_c      (M : am_M) (r : am_M) (h : Outing_change_50_34     M = some r) : Ch [34, 50] M r := by
  have hC : Ch [34, 50] M M := Ch.rf
  obtain ⟨v1, hv, h⟩ := ob_i h
  obtain ⟨hR, ⟨hc, h⟩ | ⟨hc, h⟩⟩ := c_eq_i h
  · skip
    exact hC.tr (Outing_change_50_34_38_c      M r h) (by decide)
  · skip
    obtain ⟨v2, M3, hv, h⟩ := oc_i h
    have hC := hC.tr (Outing_spend_50_34_c (0) M _ hv) (by decide)
    obtain ⟨hR, ⟨hc, h⟩ | ⟨hc, h⟩⟩ := c_eq_i h
    · skip
      exact hC.tr (Outing_change_50_34_38_c      M3 r h) (by decide)
    · skip
      obtain ⟨v4, hv, h⟩ := ob_i h
      obtain ⟨M5, eM, h⟩ := fw_i h
      have hC := hC.up (by decide) eM
      exact hC.tr (Outing_change_50_34_38_c      M5 r h) (by decide)
theorem Trip_setTired_34_26_c      (M : am_M) (r : am_M) (h : Trip_setTired_34_26     M = some r) : Ch [35] M r := by
  have hC : Ch [35] M M := Ch.rf
  cases h
  exact hC
theorem Trip_setTired_34_c     (x1 : Int) (x2 : Int) (M : am_M) (r : am_M) (h : Trip_setTired_34    x1 x2 M = some r) : Ch [35] M r := by
  have hC : Ch [35] M M := Ch.rf
  obtain ⟨hR, ⟨hc, h⟩ | ⟨hc, h⟩⟩ := c_lt_i h
  · skip
    exact hC.tr (Trip_setTired_34_26_c      M r h) (by decide)
  · skip
    obtain ⟨hR, ⟨hc, h⟩ | ⟨hc, h⟩⟩ := c_ge_i h
    · skip
      exact hC.tr (Trip_setTired_34_26_c      M r h) (by decide)
    · skip
      obtain ⟨v1, hv, h⟩ := ob_i h
      obtain ⟨v2, hv, h⟩ := ob_i h
      obtain ⟨hc, M3, eM, h⟩ := wa_i h
      have hC := hC.up (by decide) eM
      exact hC.tr (Trip_setTired_34_26_c      M3 r h) (by decide)
theorem Outing_rest_50_34_68_c      (M : am_M) (r : am_M) (h : Outing_rest_50_34_68     M = some r) : Ch [12, 13, 34, 35, 50] M r := by
  have hC : Ch [12, 13, 34, 35, 50] M M := Ch.rf
  cases h
  exact hC
theorem Outing_rest_50_34_62_c   (k12 : Int → am_M → Option (am_M)) (hk12 : ∀ (x2 : Int) (M : am_M) (r : am_M), k12 x2 M = some r → Ch [12, 13, 34, 35, 50] M r) (x2 : Int) (M : am_M) (r : am_M) (h : Outing_rest_50_34_62   k12 x2 M = some r) : Ch [12, 13, 34, 35, 50] M r := by
  have hC : Ch [12, 13, 34, 35, 50] M M := Ch.rf
  exact hC.tr (hk12 ((x2) + (1)) M r h) (by decide)
theorem Outing_rest_50_34_12_c     : ∀ (n : Nat) (x2 : Int) (M : am_M) (r : am_M), Outing_rest_50_34_12    n x2 M = some r → Ch [12, 13, 34, 35, 50] M r
  | 0, _, M, r, h => by cases h
  | n + 1, x2, M, r, h => by
    have ih := Outing_rest_50_34_12_c     n
    have hC : Ch [12, 13, 34, 35, 50] M M := Ch.rf
    obtain ⟨hR, ⟨hc, h⟩ | ⟨hc, h⟩⟩ := c_ge_i h
    · skip
      exact hC.tr (Outing_rest_50_34_68_c      M r h) (by decide)
    · skip
      obtain ⟨v1, hv, h⟩ := ob_i h
      obtain ⟨hR, ⟨hc, h⟩ | ⟨hc, h⟩⟩ := c_eq_i h
      · skip
        exact hC.tr (Outing_rest_50_34_62_c   (Outing_rest_50_34_12    n) ih (x2) M r h) (by decide)
      · skip
        obtain ⟨v2, hv, h⟩ := ob_i h
        obtain ⟨v3, hv, h⟩ := ob_i h
        obtain ⟨v4, M5, hv, h⟩ := oc_i h
        have hC := hC.tr (Law_resting_5_c (v3) (v2) (M 34 13) M _ hv) (by decide)
        obtain ⟨M6, hv, h⟩ := ob_i h
        have hC := hC.tr (Trip_setTired_34_c (x2) ((v2) - (v4)) M5 _ hv) (by decide)
        exact hC.tr (Outing_rest_50_34_62_c   (Outing_rest_50_34_12    n) ih (x2) M6 r h) (by decide)
theorem Outing_rest_50_34_c      (M : am_M) (r : am_M) (h : Outing_rest_50_34     M = some r) : Ch [12, 13, 34, 35, 50] M r := by
  have hC : Ch [12, 13, 34, 35, 50] M M := Ch.rf
  obtain ⟨v1, M2, hv, h⟩ := oc_i h
  have hC := hC.tr (Outing_spend_50_34_c (10) M _ hv) (by decide)
  obtain ⟨hR, ⟨hc, h⟩ | ⟨hc, h⟩⟩ := c_eq_i h
  · skip
    exact hC.tr (Outing_rest_50_34_68_c      M2 r h) (by decide)
  · skip
    exact hC.tr (Outing_rest_50_34_12_c     am_big (0) M2 r h) (by decide)
theorem Trip_putMark_34_24_c      (M : am_M) (r : am_M) (h : Trip_putMark_34_24     M = some r) : Ch [39] M r := by
  have hC : Ch [39] M M := Ch.rf
  cases h
  exact hC
theorem Trip_putMark_34_c     (x1 : Int) (M : am_M) (r : am_M) (h : Trip_putMark_34    x1 M = some r) : Ch [39] M r := by
  have hC : Ch [39] M M := Ch.rf
  obtain ⟨v1, hv, h⟩ := ob_i h
  obtain ⟨hR, ⟨hc, h⟩ | ⟨hc, h⟩⟩ := c_eq_i h
  · skip
    exact hC.tr (Trip_putMark_34_24_c      M r h) (by decide)
  · skip
    obtain ⟨hc, v2, ev, h⟩ := rd_i h
    obtain ⟨hc, M3, eM, h⟩ := wa_i h
    have hC := hC.up (by decide) eM
    exact hC.tr (Trip_putMark_34_24_c      M3 r h) (by decide)
theorem Outing_mark_50_34_27_c      (M : am_M) (r : am_M) (h : Outing_mark_50_34_27     M = some r) : Ch [34, 39, 50] M r := by
  have hC : Ch [34, 39, 50] M M := Ch.rf
  cases h
  exact hC
theorem Outing_mark_50_34_c     (x2 : Int) (M : am_M) (r : am_M) (h : Outing_mark_50_34    x2 M = some r) : Ch [34, 39, 50] M r := by
  have hC : Ch [34, 39, 50] M M := Ch.rf
  obtain ⟨v1, hv, h⟩ := ob_i h
  obtain ⟨hR, ⟨hc, h⟩ | ⟨hc, h⟩⟩ := c_ne_i h
  · skip
    exact hC.tr (Outing_mark_50_34_27_c      M r h) (by decide)
  · skip
    obtain ⟨v2, M3, hv, h⟩ := oc_i h
    have hC := hC.tr (Outing_spend_50_34_c (2) M _ hv) (by decide)
    obtain ⟨hR, ⟨hc, h⟩ | ⟨hc, h⟩⟩ := c_eq_i h
    · skip
      exact hC.tr (Outing_mark_50_34_27_c      M3 r h) (by decide)
    · skip
      obtain ⟨M4, hv, h⟩ := ob_i h
      have hC := hC.tr (Trip_putMark_34_c (x2) M3 _ hv) (by decide)
      exact hC.tr (Outing_mark_50_34_27_c      M4 r h) (by decide)
theorem Trip_putStick_34_21_c      (M : am_M) (r : am_M) (h : Trip_putStick_34_21     M = some r) : Ch [40] M r := by
  have hC : Ch [40] M M := Ch.rf
  cases h
  exact hC
theorem Trip_putStick_34_c      (M : am_M) (r : am_M) (h : Trip_putStick_34     M = some r) : Ch [40] M r := by
  have hC : Ch [40] M M := Ch.rf
  obtain ⟨v1, hv, h⟩ := ob_i h
  obtain ⟨hR, ⟨hc, h⟩ | ⟨hc, h⟩⟩ := c_eq_i h
  · skip
    exact hC.tr (Trip_putStick_34_21_c      M r h) (by decide)
  · skip
    obtain ⟨hc, M2, eM, h⟩ := wa_i h
    have hC := hC.up (by decide) eM
    exact hC.tr (Trip_putStick_34_21_c      M2 r h) (by decide)
theorem Outing_lay_50_34_24_c      (M : am_M) (r : am_M) (h : Outing_lay_50_34_24     M = some r) : Ch [34, 40, 50] M r := by
  have hC : Ch [34, 40, 50] M M := Ch.rf
  cases h
  exact hC
theorem Outing_lay_50_34_c      (M : am_M) (r : am_M) (h : Outing_lay_50_34     M = some r) : Ch [34, 40, 50] M r := by
  have hC : Ch [34, 40, 50] M M := Ch.rf
  obtain ⟨v1, hv, h⟩ := ob_i h
  obtain ⟨hR, ⟨hc, h⟩ | ⟨hc, h⟩⟩ := c_ne_i h
  · skip
    exact hC.tr (Outing_lay_50_34_24_c      M r h) (by decide)
  · skip
    obtain ⟨v2, M3, hv, h⟩ := oc_i h
    have hC := hC.tr (Outing_spend_50_34_c (1) M _ hv) (by decide)
    obtain ⟨hR, ⟨hc, h⟩ | ⟨hc, h⟩⟩ := c_eq_i h
    · skip
      exact hC.tr (Outing_lay_50_34_24_c      M3 r h) (by decide)
    · skip
      obtain ⟨M4, hv, h⟩ := ob_i h
      have hC := hC.tr (Trip_putStick_34_c M3 _ hv) (by decide)
      exact hC.tr (Outing_lay_50_34_24_c      M4 r h) (by decide)
theorem Trip_append_34_97_c      (M : am_M) (r : am_M) (h : Trip_append_34_97     M = some r) : Ch [34, 36, 37, 38, 39, 40, 41] M r := by
  have hC : Ch [34, 36, 37, 38, 39, 40, 41] M M := Ch.rf
  cases h
  exact hC
theorem Trip_append_34_c     (x1 : Int) (M : am_M) (r : am_M) (h : Trip_append_34    x1 M = some r) : Ch [34, 36, 37, 38, 39, 40, 41] M r := by
  have hC : Ch [34, 36, 37, 38, 39, 40, 41] M M := Ch.rf
  obtain ⟨hR, ⟨hc, h⟩ | ⟨hc, h⟩⟩ := c_ge_i h
  · skip
    exact hC.tr (Trip_append_34_97_c      M r h) (by decide)
  · skip
    obtain ⟨v1, hv, h⟩ := ob_i h
    obtain ⟨hR, ⟨hc, h⟩ | ⟨hc, h⟩⟩ := c_eq_i h
    · skip
      exact hC.tr (Trip_append_34_97_c      M r h) (by decide)
    · skip
      obtain ⟨hc, M2, eM, h⟩ := wa_i h
      have hC := hC.up (by decide) eM
      obtain ⟨hc, M3, eM, h⟩ := wa_i h
      have hC := hC.up (by decide) eM
      obtain ⟨hc, M4, eM, h⟩ := wa_i h
      have hC := hC.up (by decide) eM
      obtain ⟨hc, M5, eM, h⟩ := wa_i h
      have hC := hC.up (by decide) eM
      obtain ⟨hc, M6, eM, h⟩ := wa_i h
      have hC := hC.up (by decide) eM
      obtain ⟨hc, M7, eM, h⟩ := wa_i h
      have hC := hC.up (by decide) eM
      obtain ⟨M8, eM, h⟩ := fw_i h
      have hC := hC.up (by decide) eM
      obtain ⟨M9, eM, h⟩ := fw_i h
      have hC := hC.up (by decide) eM
      exact hC.tr (Trip_append_34_97_c      M9 r h) (by decide)
theorem Trip_minutesOnto_34_15_c     (x1 : Int) (s0 : Int) (M : am_M) (r : Int × am_M) (h : Trip_minutesOnto_34_15    x1 s0 M = some r) : Ch [12, 13] M r.2 := by
  have hC : Ch [12, 13] M M := Ch.rf
  obtain ⟨v1, hv, h⟩ := ob_i h
  obtain ⟨v2, hv, h⟩ := ob_i h
  obtain ⟨v3, hv, h⟩ := ob_i h
  obtain ⟨v4, M5, hv, h⟩ := oc_i h
  have hC := hC.tr (Law_walking_5_c (v1) (v2) (v3) (s0) (M 34 13) M _ hv) (by decide)
  cases h
  exact hC
theorem Trip_minutesOnto_34_c     (x1 : Int) (x2 : Int) (M : am_M) (r : Int × am_M) (h : Trip_minutesOnto_34    x1 x2 M = some r) : Ch [12, 13] M r.2 := by
  have hC : Ch [12, 13] M M := Ch.rf
  obtain ⟨v1, hv, h⟩ := ob_i h
  obtain ⟨hR, ⟨hc, h⟩ | ⟨hc, h⟩⟩ := c_eq_i h
  · skip
    exact hC.tr (Trip_minutesOnto_34_15_c     (x1) (0) M r h) (by decide)
  · skip
    exact hC.tr (Trip_minutesOnto_34_15_c     (x1) (1) M r h) (by decide)
theorem Outing_goTo_50_34_222_c      (M : am_M) (r : am_M) (h : Outing_goTo_50_34_222     M = some r) : Ch [12, 13, 34, 35, 36, 37, 38, 39, 40, 41, 50] M r := by
  have hC : Ch [12, 13, 34, 35, 36, 37, 38, 39, 40, 41, 50] M M := Ch.rf
  cases h
  exact hC
theorem Outing_goTo_50_34_c     (x2 : Int) (M : am_M) (r : am_M) (h : Outing_goTo_50_34    x2 M = some r) : Ch [12, 13, 34, 35, 36, 37, 38, 39, 40, 41, 50] M r := by
  have hC : Ch [12, 13, 34, 35, 36, 37, 38, 39, 40, 41, 50] M M := Ch.rf
  obtain ⟨v1, hv, h⟩ := ob_i h
  obtain ⟨v2, hv, h⟩ := ob_i h
  obtain ⟨hR, ⟨hc, h⟩ | ⟨hc, h⟩⟩ := c_ge_i h
  · skip
    obtain ⟨v3, hv, h⟩ := ob_i h
    obtain ⟨hR, ⟨hc, h⟩ | ⟨hc, h⟩⟩ := c_ne_i h
    · skip
      obtain ⟨v4, hv, h⟩ := ob_i h
      obtain ⟨hR, ⟨hc, h⟩ | ⟨hc, h⟩⟩ := c_ne_i h
      · skip
        obtain ⟨v5, hv, h⟩ := ob_i h
        obtain ⟨hR, ⟨hc, h⟩ | ⟨hc, h⟩⟩ := c_eq_i h
        · skip
          exact hC.tr (Outing_goTo_50_34_222_c      M r h) (by decide)
        · skip
          obtain ⟨v6, hv, h⟩ := ob_i h
          obtain ⟨v7, hv, h⟩ := ob_i h
          obtain ⟨v8, hv, h⟩ := ob_i h
          obtain ⟨v9, M10, hv, h⟩ := oc_i h
          have hC := hC.tr (Law_tiring_5_c (v6) (v7) (v8) (M 34 13) M _ hv) (by decide)
          obtain ⟨v11, M12, hv, h⟩ := oc_i h
          have hC := hC.tr (Law_cutting_5_c (v6) (M10 1 3) (v7) (v8) (M10 34 13) M10 _ hv) (by decide)
          obtain ⟨v13, M14, hv, h⟩ := oc_i h
          have hC := hC.tr (Outing_spend_50_34_c (v11) M12 _ hv) (by decide)
          obtain ⟨hR, ⟨hc, h⟩ | ⟨hc, h⟩⟩ := c_eq_i h
          · skip
            exact hC.tr (Outing_goTo_50_34_222_c      M14 r h) (by decide)
          · skip
            obtain ⟨M15, hv, h⟩ := ob_i h
            have hC := hC.tr (Trip_setTired_34_c (M14 34 9) ((v8) + (v9)) M14 _ hv) (by decide)
            obtain ⟨M16, hv, h⟩ := ob_i h
            have hC := hC.tr (Trip_append_34_c (v2) M15 _ hv) (by decide)
            obtain ⟨M17, eM, h⟩ := fw_i h
            have hC := hC.up (by decide) eM
            exact hC.tr (Outing_goTo_50_34_222_c      M17 r h) (by decide)
      · skip
        obtain ⟨v18, M19, hv, h⟩ := oc_i h
        have hC := hC.tr (Trip_minutesOnto_34_c ((M 34 11) - (1)) (2) M _ hv) (by decide)
        obtain ⟨v20, M21, hv, h⟩ := oc_i h
        have hC := hC.tr (Outing_spend_50_34_c (v18) M19 _ hv) (by decide)
        obtain ⟨hR, ⟨hc, h⟩ | ⟨hc, h⟩⟩ := c_eq_i h
        · skip
          exact hC.tr (Outing_goTo_50_34_222_c      M21 r h) (by decide)
        · skip
          obtain ⟨M22, eM, h⟩ := fw_i h
          have hC := hC.up (by decide) eM
          exact hC.tr (Outing_goTo_50_34_222_c      M22 r h) (by decide)
    · skip
      obtain ⟨v23, M24, hv, h⟩ := oc_i h
      have hC := hC.tr (Trip_minutesOnto_34_c ((M 34 11) + (1)) (1) M _ hv) (by decide)
      obtain ⟨v25, M26, hv, h⟩ := oc_i h
      have hC := hC.tr (Outing_spend_50_34_c (v23) M24 _ hv) (by decide)
      obtain ⟨hR, ⟨hc, h⟩ | ⟨hc, h⟩⟩ := c_eq_i h
      · skip
        exact hC.tr (Outing_goTo_50_34_222_c      M26 r h) (by decide)
      · skip
        obtain ⟨M27, eM, h⟩ := fw_i h
        have hC := hC.up (by decide) eM
        exact hC.tr (Outing_goTo_50_34_222_c      M27 r h) (by decide)
  · skip
    cases h
    exact hC
theorem Outing_doAct_50_34_120_c      (M : am_M) (r : am_M) (h : Outing_doAct_50_34_120     M = some r) : Ch [12, 13, 34, 35, 36, 37, 38, 39, 40, 41, 50] M r := by
  have hC : Ch [12, 13, 34, 35, 36, 37, 38, 39, 40, 41, 50] M M := Ch.rf
  cases h
  exact hC
theorem Outing_doAct_50_34_103_c      (M : am_M) (r : am_M) (h : Outing_doAct_50_34_103     M = some r) : Ch [12, 13, 34, 35, 36, 37, 38, 39, 40, 41, 50] M r := by
  have hC : Ch [12, 13, 34, 35, 36, 37, 38, 39, 40, 41, 50] M M := Ch.rf
  obtain ⟨hR, ⟨hc, h⟩ | ⟨hc, h⟩⟩ := c_ne_i h
  · skip
    exact hC.tr (Outing_doAct_50_34_120_c      M r h) (by decide)
  · skip
    obtain ⟨M1, eM, h⟩ := fw_i h
    have hC := hC.up (by decide) eM
    exact hC.tr (Outing_doAct_50_34_120_c      M1 r h) (by decide)
theorem Outing_doAct_50_34_c     (x2 : Int) (M : am_M) (r : am_M) (h : Outing_doAct_50_34    x2 M = some r) : Ch [12, 13, 34, 35, 36, 37, 38, 39, 40, 41, 50] M r := by
  have hC : Ch [12, 13, 34, 35, 36, 37, 38, 39, 40, 41, 50] M M := Ch.rf
  obtain ⟨hR, h⟩ := ck_i h
  rcases if_i h with ⟨hq, h⟩ | ⟨hq0, h⟩
  · skip
    obtain ⟨M1, hv, h⟩ := ob_i h
    have hC := hC.tr (Outing_change_50_34_c M _ hv) (by decide)
    exact hC.tr (Outing_doAct_50_34_103_c      M1 r h) (by decide)
  · skip
    rcases if_i h with ⟨hq, h⟩ | ⟨hq1, h⟩
    · skip
      obtain ⟨M2, hv, h⟩ := ob_i h
      have hC := hC.tr (Outing_rest_50_34_c M _ hv) (by decide)
      exact hC.tr (Outing_doAct_50_34_103_c      M2 r h) (by decide)
    · skip
      rcases if_i h with ⟨hq, h⟩ | ⟨hq2, h⟩
      · skip
        obtain ⟨M3, hv, h⟩ := ob_i h
        have hC := hC.tr (Outing_mark_50_34_c (2) M _ hv) (by decide)
        exact hC.tr (Outing_doAct_50_34_103_c      M3 r h) (by decide)
      · skip
        rcases if_i h with ⟨hq, h⟩ | ⟨hq3, h⟩
        · skip
          obtain ⟨M4, hv, h⟩ := ob_i h
          have hC := hC.tr (Outing_mark_50_34_c (1) M _ hv) (by decide)
          exact hC.tr (Outing_doAct_50_34_103_c      M4 r h) (by decide)
        · skip
          rcases if_i h with ⟨hq, h⟩ | ⟨hq4, h⟩
          · skip
            obtain ⟨M5, hv, h⟩ := ob_i h
            have hC := hC.tr (Outing_lay_50_34_c M _ hv) (by decide)
            exact hC.tr (Outing_doAct_50_34_103_c      M5 r h) (by decide)
          · skip
            · skip
              obtain ⟨v6, hv, h⟩ := ob_i h
              obtain ⟨M7, hv, h⟩ := ob_i h
              have hC := hC.tr (Outing_goTo_50_34_c (v6) M _ hv) (by decide)
              exact hC.tr (Outing_doAct_50_34_103_c      M7 r h) (by decide)
theorem Outing_perform_50_34_60_c     (x2 : Int) (M : am_M) (r : Int × am_M) (h : Outing_perform_50_34_60    x2 M = some r) : Ch [12, 13, 34, 35, 36, 37, 38, 39, 40, 41, 50] M r.2 := by
  have hC : Ch [12, 13, 34, 35, 36, 37, 38, 39, 40, 41, 50] M M := Ch.rf
  cases h
  exact hC
theorem Outing_perform_50_34_22_c     : ∀ (n : Nat) (x2 : Int) (x3 : Int) (M : am_M) (r : Int × am_M), Outing_perform_50_34_22    n x2 x3 M = some r → Ch [12, 13, 34, 35, 36, 37, 38, 39, 40, 41, 50] M r.2
  | 0, _, _, M, r, h => by cases h
  | n + 1, x2, x3, M, r, h => by
    have ih := Outing_perform_50_34_22_c     n
    have hC : Ch [12, 13, 34, 35, 36, 37, 38, 39, 40, 41, 50] M M := Ch.rf
    obtain ⟨hR, ⟨hc, h⟩ | ⟨hc, h⟩⟩ := c_ge_i h
    · skip
      exact hC.tr (Outing_perform_50_34_60_c     (x2) M r h) (by decide)
    · skip
      obtain ⟨hR, ⟨hc, h⟩ | ⟨hc, h⟩⟩ := c_ge_i h
      · skip
        exact hC.tr (Outing_perform_50_34_60_c     (x2) M r h) (by decide)
      · skip
        obtain ⟨hR, ⟨hc, h⟩ | ⟨hc, h⟩⟩ := c_ne_i h
        · skip
          exact hC.tr (Outing_perform_50_34_60_c     (x2) M r h) (by decide)
        · skip
          obtain ⟨hc, v1, ev, h⟩ := rd_i h
          obtain ⟨M2, hv, h⟩ := ob_i h
          have hC := hC.tr (Outing_doAct_50_34_c (v1) M _ hv) (by decide)
          exact hC.tr (ih (x2) ((x3) + (1)) M2 r h) (by decide)
theorem Outing_perform_50_34_c      (M : am_M) (r : Int × am_M) (h : Outing_perform_50_34     M = some r) : Ch [12, 13, 34, 35, 36, 37, 38, 39, 40, 41, 50] M r.2 := by
  have hC : Ch [12, 13, 34, 35, 36, 37, 38, 39, 40, 41, 50] M M := Ch.rf
  obtain ⟨M1, eM, h⟩ := fw_i h
  have hC := hC.up (by decide) eM
  obtain ⟨M2, eM, h⟩ := fw_i h
  have hC := hC.up (by decide) eM
  obtain ⟨hc, M3, eM, h⟩ := fz_i h
  have hC := hC.up (by decide) eM
  exact hC.tr (Outing_perform_50_34_22_c     am_big (M 34 12) (0) M3 r h) (by decide)
theorem P_tried_190_c     (s0 : Int) (M : am_M) (r : Int × am_M) (h : P_tried_190    s0 M = some r) : Ch [12, 13, 14, 34, 35, 36, 37, 38, 39, 40, 41, 50, 51] M r.2 := by
  have hC : Ch [12, 13, 14, 34, 35, 36, 37, 38, 39, 40, 41, 50, 51] M M := Ch.rf
  cases h
  exact hC
theorem P_tried_174_c     (s0 : Int) (M : am_M) (r : Int × am_M) (h : P_tried_174    s0 M = some r) : Ch [12, 13, 14, 34, 35, 36, 37, 38, 39, 40, 41, 50, 51] M r.2 := by
  have hC : Ch [12, 13, 14, 34, 35, 36, 37, 38, 39, 40, 41, 50, 51] M M := Ch.rf
  cases h
  exact hC
theorem P_tried_23_c      (M : am_M) (r : Int × am_M) (h : P_tried_23     M = some r) : Ch [12, 13, 14, 34, 35, 36, 37, 38, 39, 40, 41, 50, 51] M r.2 := by
  have hC : Ch [12, 13, 14, 34, 35, 36, 37, 38, 39, 40, 41, 50, 51] M M := Ch.rf
  cases h
  exact hC
theorem P_tried_c     (x1 : Int) (x2 : Int) (M : am_M) (r : Int × am_M) (h : P_tried    x1 x2 M = some r) : Ch [12, 13, 14, 34, 35, 36, 37, 38, 39, 40, 41, 50, 51] M r.2 := by
  have hC : Ch [12, 13, 14, 34, 35, 36, 37, 38, 39, 40, 41, 50, 51] M M := Ch.rf
  obtain ⟨hR, ⟨hc, h⟩ | ⟨hc, h⟩⟩ := c_lt_i h
  · skip
    exact hC.tr (P_tried_23_c      M r h) (by decide)
  · skip
    obtain ⟨hR, ⟨hc, h⟩ | ⟨hc, h⟩⟩ := c_gt_i h
    · skip
      exact hC.tr (P_tried_23_c      M r h) (by decide)
    · skip
      obtain ⟨v1, M2, hv, h⟩ := oc_i h
      have hC := hC.tr (Tape_take_c (x1) (1) (80) M _ hv) (by decide)
      obtain ⟨hR, ⟨hc, h⟩ | ⟨hc, h⟩⟩ := c_ne_i h
      · skip
        obtain ⟨v3, M4, hv, h⟩ := oc_i h
        have hC := hC.tr (Outing_readActs_50_c M2 _ hv) (by decide)
        obtain ⟨hR, ⟨hc, h⟩ | ⟨hc, h⟩⟩ := c_ge_i h
        · skip
          obtain ⟨M5, hv, h⟩ := ob_i h
          have hC := hC.tr (Trip_copyFrom_34_26_c M4 _ hv) (by decide)
          obtain ⟨v6, M7, hv, h⟩ := oc_i h
          have hC := hC.tr (Outing_perform_50_34_c M5 _ hv) (by decide)
          obtain ⟨hR, h⟩ := ck_i h
          rcases if_i h with ⟨hq, h⟩ | ⟨hq0, h⟩
          · skip
            cases h
            exact hC
          · skip
            rcases if_i h with ⟨hq, h⟩ | ⟨hq1, h⟩
            · skip
              cases h
              exact hC
            · skip
              rcases if_i h with ⟨hq, h⟩ | ⟨hq2, h⟩
              · skip
                cases h
                exact hC
              · skip
                rcases if_i h with ⟨hq, h⟩ | ⟨hq3, h⟩
                · skip
                  obtain ⟨v8, hv, h⟩ := ob_i h
                  cases h
                  exact hC
                · skip
                  rcases if_i h with ⟨hq, h⟩ | ⟨hq4, h⟩
                  · skip
                    obtain ⟨v9, hv, h⟩ := ob_i h
                    obtain ⟨hR, ⟨hc, h⟩ | ⟨hc, h⟩⟩ := c_eq_i h
                    · skip
                      exact hC.tr (P_tried_174_c     (-2) M7 r h) (by decide)
                    · skip
                      obtain ⟨v10, hv, h⟩ := ob_i h
                      exact hC.tr (P_tried_174_c     (v10) M7 r h) (by decide)
                  · skip
                    · skip
                      obtain ⟨hR, ⟨hc, h⟩ | ⟨hc, h⟩⟩ := c_eq_i h
                      · skip
                        exact hC.tr (P_tried_190_c     (0) M7 r h) (by decide)
                      · skip
                        exact hC.tr (P_tried_190_c     (1) M7 r h) (by decide)
        · skip
          cases h
          exact hC
      · skip
        exact hC.tr (P_tried_23_c      M2 r h) (by decide)
theorem J_fill_27_5_c     : ∀ (n : Nat) (x1 : Int) (x2 : Int) (x3 : Int) (M : am_M) (r : am_M), J_fill_27_5    n x1 x2 x3 M = some r → Ch [27] M r
  | 0, _, _, _, M, r, h => by cases h
  | n + 1, x1, x2, x3, M, r, h => by
    have ih := J_fill_27_5_c     n
    have hC : Ch [27] M M := Ch.rf
    obtain ⟨hR, ⟨hc, h⟩ | ⟨hc, h⟩⟩ := c_ge_i h
    · skip
      cases h
      exact hC
    · skip
      obtain ⟨hc, M1, eM, h⟩ := wa_i h
      have hC := hC.up (by decide) eM
      exact hC.tr (ih (x1) ((x2) + (1)) (x3) M1 r h) (by decide)
theorem J_fill_27_c     (x1 : Int) (M : am_M) (r : am_M) (h : J_fill_27    x1 M = some r) : Ch [27] M r := by
  have hC : Ch [27] M M := Ch.rf
  exact hC.tr (J_fill_27_5_c     am_big (x1) (0) (((6 : Nat) : Int)) M r h) (by decide)
theorem Trip_restAll_26_c      (M : am_M) (r : am_M) (h : Trip_restAll_26     M = some r) : Ch [27] M r := by
  have hC : Ch [27] M M := Ch.rf
  obtain ⟨M1, hv, h⟩ := ob_i h
  have hC := hC.tr (J_fill_27_c (0) M _ hv) (by decide)
  cases h
  exact hC
theorem Law_growing_5_c     (x1 : Int) (x2 : Int) (x3 : Int) (x4 : Int) (M : am_M) (r : Int × am_M) (h : Law_growing_5    x1 x2 x3 x4 M = some r) : Ch [12, 13] M r.2 := by
  have hC : Ch [12, 13] M M := Ch.rf
  obtain ⟨M1, hv, h⟩ := ob_i h
  have hC := hC.tr (Law_say_5_c (x1) (x2) (0) (0) (x3) (0) (x4) M _ hv) (by decide)
  obtain ⟨v2, M3, hv, h⟩ := oc_i h
  have hC := hC.tr (Law_ask_5_c (103) (20) M1 _ hv) (by decide)
  cases h
  exact hC
theorem Overgrowth_gainOf_68_26_49_c      (M : am_M) (r : Int × am_M) (h : Overgrowth_gainOf_68_26_49     M = some r) : Ch [12, 13, 69] M r.2 := by
  have hC : Ch [12, 13, 69] M M := Ch.rf
  cases h
  exact hC
theorem Overgrowth_gainOf_68_26_99_c     (x6 : Int) (M : am_M) (r : Int × am_M) (h : Overgrowth_gainOf_68_26_99    x6 M = some r) : Ch [12, 13, 69] M r.2 := by
  have hC : Ch [12, 13, 69] M M := Ch.rf
  obtain ⟨hc, v1, ev, h⟩ := rd_i h
  obtain ⟨hc, h⟩ := ck_i h
  obtain ⟨v2, ev, h⟩ := tw_i h
  cases h
  exact hC
theorem Overgrowth_gainOf_68_26_c     (x2 : Int) (M : am_M) (r : Int × am_M) (h : Overgrowth_gainOf_68_26    x2 M = some r) : Ch [12, 13, 69] M r.2 := by
  have hC : Ch [12, 13, 69] M M := Ch.rf
  obtain ⟨v1, hv, h⟩ := ob_i h
  obtain ⟨v2, hv, h⟩ := ob_i h
  obtain ⟨v3, hv, h⟩ := ob_i h
  obtain ⟨hR, ⟨hc, h⟩ | ⟨hc, h⟩⟩ := c_lt_i h
  · skip
    exact hC.tr (Overgrowth_gainOf_68_26_49_c      M r h) (by decide)
  · skip
    obtain ⟨hR, ⟨hc, h⟩ | ⟨hc, h⟩⟩ := c_lt_i h
    · skip
      obtain ⟨hc, v4, ev, h⟩ := rd_i h
      obtain ⟨hc, h⟩ := ck_i h
      obtain ⟨v5, ev, h⟩ := tw_i h
      obtain ⟨hR, ⟨hc, h⟩ | ⟨hc, h⟩⟩ := c_eq_i h
      · skip
        exact hC.tr (Overgrowth_gainOf_68_26_99_c     ((((((v1) * (4)) + (v2)) - (1)) * (100)) + (v3)) M r h) (by decide)
      · skip
        obtain ⟨v6, M7, hv, h⟩ := oc_i h
        have hC := hC.tr (Law_growing_5_c (v1) (v2) (v3) (M 26 13) M _ hv) (by decide)
        obtain ⟨hc, M8, eM, h⟩ := wa_i h
        have hC := hC.up (by decide) eM
        exact hC.tr (Overgrowth_gainOf_68_26_99_c     ((((((v1) * (4)) + (v2)) - (1)) * (100)) + (v3)) M8 r h) (by decide)
    · skip
      exact hC.tr (Overgrowth_gainOf_68_26_49_c      M r h) (by decide)
theorem Trip_setGrown_26_15_c      (M : am_M) (r : am_M) (h : Trip_setGrown_26_15     M = some r) : Ch [30] M r := by
  have hC : Ch [30] M M := Ch.rf
  cases h
  exact hC
theorem Trip_setGrown_26_c     (x1 : Int) (x2 : Int) (M : am_M) (r : am_M) (h : Trip_setGrown_26    x1 x2 M = some r) : Ch [30] M r := by
  have hC : Ch [30] M M := Ch.rf
  obtain ⟨v1, hv, h⟩ := ob_i h
  obtain ⟨hR, ⟨hc, h⟩ | ⟨hc, h⟩⟩ := c_eq_i h
  · skip
    exact hC.tr (Trip_setGrown_26_15_c      M r h) (by decide)
  · skip
    obtain ⟨hc, M2, eM, h⟩ := wa_i h
    have hC := hC.up (by decide) eM
    exact hC.tr (Trip_setGrown_26_15_c      M2 r h) (by decide)
theorem Overgrowth_passDays_68_26_34_c   (k5 : Int → Int → Int → am_M → Option (Int × am_M)) (hk5 : ∀ (x2 : Int) (x3 : Int) (x4 : Int) (M : am_M) (r : Int × am_M), k5 x2 x3 x4 M = some r → Ch [12, 13, 26, 27, 30, 68, 69] M r.2) : ∀ (n : Nat) (x2 : Int) (x3 : Int) (x4 : Int) (x5 : Int) (M : am_M) (r : Int × am_M), Overgrowth_passDays_68_26_34   k5 n x2 x3 x4 x5 M = some r → Ch [12, 13, 26, 27, 30, 68, 69] M r.2
  | 0, _, _, _, _, M, r, h => by cases h
  | n + 1, x2, x3, x4, x5, M, r, h => by
    have ih := Overgrowth_passDays_68_26_34_c   k5 hk5 n
    have hC : Ch [12, 13, 26, 27, 30, 68, 69] M M := Ch.rf
    obtain ⟨hR, ⟨hc, h⟩ | ⟨hc, h⟩⟩ := c_ge_i h
    · skip
      obtain ⟨M1, eM, h⟩ := fw_i h
      have hC := hC.up (by decide) eM
      obtain ⟨M2, hv, h⟩ := ob_i h
      have hC := hC.tr (Trip_restAll_26_c M1 _ hv) (by decide)
      obtain ⟨M3, eM, h⟩ := fw_i h
      have hC := hC.up (by decide) eM
      exact hC.tr (hk5 (x2) (x3) ((x4) + (1)) M3 r h) (by decide)
    · skip
      obtain ⟨v4, hv, h⟩ := ob_i h
      obtain ⟨v5, M6, hv, h⟩ := oc_i h
      have hC := hC.tr (Overgrowth_gainOf_68_26_c (x5) M _ hv) (by decide)
      obtain ⟨v7, hv, h⟩ := ob_i h
      obtain ⟨M8, hv, h⟩ := ob_i h
      have hC := hC.tr (Trip_setGrown_26_c (x5) (v7) M6 _ hv) (by decide)
      exact hC.tr (ih (x2) ((x3) + ((v7) - (v4))) (x4) ((x5) + (1)) M8 r h) (by decide)
theorem Overgrowth_passDays_68_26_115_c     (x3 : Int) (M : am_M) (r : Int × am_M) (h : Overgrowth_passDays_68_26_115    x3 M = some r) : Ch [12, 13, 26, 27, 30, 68, 69] M r.2 := by
  have hC : Ch [12, 13, 26, 27, 30, 68, 69] M M := Ch.rf
  cases h
  exact hC
theorem Overgrowth_passDays_68_26_5_c     : ∀ (n : Nat) (x2 : Int) (x3 : Int) (x4 : Int) (M : am_M) (r : Int × am_M), Overgrowth_passDays_68_26_5    n x2 x3 x4 M = some r → Ch [12, 13, 26, 27, 30, 68, 69] M r.2
  | 0, _, _, _, M, r, h => by cases h
  | n + 1, x2, x3, x4, M, r, h => by
    have ih := Overgrowth_passDays_68_26_5_c     n
    have hC : Ch [12, 13, 26, 27, 30, 68, 69] M M := Ch.rf
    obtain ⟨hR, ⟨hc, h⟩ | ⟨hc, h⟩⟩ := c_ge_i h
    · skip
      exact hC.tr (Overgrowth_passDays_68_26_115_c     (x3) M r h) (by decide)
    · skip
      obtain ⟨hR, ⟨hc, h⟩ | ⟨hc, h⟩⟩ := c_ge_i h
      · skip
        exact hC.tr (Overgrowth_passDays_68_26_115_c     (x3) M r h) (by decide)
      · skip
        obtain ⟨M1, eM, h⟩ := fw_i h
        have hC := hC.up (by decide) eM
        exact hC.tr (Overgrowth_passDays_68_26_34_c   (Overgrowth_passDays_68_26_5    n) ih am_big (x2) (x3) (x4) (0) M1 r h) (by decide)
theorem Overgrowth_passDays_68_26_c     (x2 : Int) (M : am_M) (r : Int × am_M) (h : Overgrowth_passDays_68_26    x2 M = some r) : Ch [12, 13, 26, 27, 30, 68, 69] M r.2 := by
  have hC : Ch [12, 13, 26, 27, 30, 68, 69] M M := Ch.rf
  exact hC.tr (Overgrowth_passDays_68_26_5_c     am_big (x2) (0) (0) M r h) (by decide)
theorem P_days_11_c      (M : am_M) (r : Int × am_M) (h : P_days_11     M = some r) : Ch [12, 13, 26, 27, 30, 68, 69] M r.2 := by
  have hC : Ch [12, 13, 26, 27, 30, 68, 69] M M := Ch.rf
  cases h
  exact hC
theorem P_days_c     (x1 : Int) (M : am_M) (r : Int × am_M) (h : P_days    x1 M = some r) : Ch [12, 13, 26, 27, 30, 68, 69] M r.2 := by
  have hC : Ch [12, 13, 26, 27, 30, 68, 69] M M := Ch.rf
  obtain ⟨hR, ⟨hc, h⟩ | ⟨hc, h⟩⟩ := c_lt_i h
  · skip
    exact hC.tr (P_days_11_c      M r h) (by decide)
  · skip
    obtain ⟨hR, ⟨hc, h⟩ | ⟨hc, h⟩⟩ := c_le_i h
    · skip
      obtain ⟨v1, M2, hv, h⟩ := oc_i h
      have hC := hC.tr (Overgrowth_passDays_68_26_c (x1) M _ hv) (by decide)
      cases h
      exact hC
    · skip
      exact hC.tr (P_days_11_c      M r h) (by decide)
theorem Trip_minutesBack_26_9_c     : ∀ (n : Nat) (x1 : Int) (x2 : Int) (M : am_M) (r : Int × am_M), Trip_minutesBack_26_9    n x1 x2 M = some r → Ch [12, 13] M r.2
  | 0, _, _, M, r, h => by cases h
  | n + 1, x1, x2, M, r, h => by
    have ih := Trip_minutesBack_26_9_c     n
    have hC : Ch [12, 13] M M := Ch.rf
    obtain ⟨hR, ⟨hc, h⟩ | ⟨hc, h⟩⟩ := c_lt_i h
    · skip
      cases h
      exact hC
    · skip
      obtain ⟨v1, M2, hv, h⟩ := oc_i h
      have hC := hC.tr (Trip_minutesOnto_26_c (x2) (2) M _ hv) (by decide)
      exact hC.tr (ih ((x1) + (v1)) ((x2) + (-1)) M2 r h) (by decide)
theorem Trip_minutesBack_26_c      (M : am_M) (r : Int × am_M) (h : Trip_minutesBack_26     M = some r) : Ch [12, 13] M r.2 := by
  have hC : Ch [12, 13] M M := Ch.rf
  exact hC.tr (Trip_minutesBack_26_9_c     am_big (0) ((M 26 11) - (1)) M r h) (by decide)
theorem P_back_c     (x1 : Int) (M : am_M) (r : Int × am_M) (h : P_back    x1 M = some r) : Ch [12, 13] M r.2 := by
  have hC : Ch [12, 13] M M := Ch.rf
  obtain ⟨hR, h⟩ := ck_i h
  rcases if_i h with ⟨hq, h⟩ | ⟨hq0, h⟩
  · skip
    obtain ⟨v1, M2, hv, h⟩ := oc_i h
    have hC := hC.tr (Trip_minutesBack_26_c M _ hv) (by decide)
    cases h
    exact hC
  · skip
    rcases if_i h with ⟨hq, h⟩ | ⟨hq1, h⟩
    · skip
      obtain ⟨v3, hv, h⟩ := ob_i h
      cases h
      exact hC
    · skip
      rcases if_i h with ⟨hq, h⟩ | ⟨hq2, h⟩
      · skip
        obtain ⟨v4, hv, h⟩ := ob_i h
        cases h
        exact hC
      · skip
        rcases if_i h with ⟨hq, h⟩ | ⟨hq3, h⟩
        · skip
          obtain ⟨v5, hv, h⟩ := ob_i h
          cases h
          exact hC
        · skip
          · skip
            cases h
            exact hC
theorem Law_erring_5_c     (x1 : Int) (x2 : Int) (x3 : Int) (x4 : Int) (M : am_M) (r : Int × am_M) (h : Law_erring_5    x1 x2 x3 x4 M = some r) : Ch [12, 13] M r.2 := by
  have hC : Ch [12, 13] M M := Ch.rf
  obtain ⟨M1, hv, h⟩ := ob_i h
  have hC := hC.tr (Law_say_5_c (x1) (x2) (0) (0) (x3) (0) (x4) M _ hv) (by decide)
  obtain ⟨v2, M3, hv, h⟩ := oc_i h
  have hC := hC.tr (Law_ask_5_c (100) (10) M1 _ hv) (by decide)
  cases h
  exact hC
theorem Trip_wrongTenths_26_c     (x1 : Int) (M : am_M) (r : Int × am_M) (h : Trip_wrongTenths_26    x1 M = some r) : Ch [12, 13] M r.2 := by
  have hC : Ch [12, 13] M M := Ch.rf
  obtain ⟨v1, hv, h⟩ := ob_i h
  obtain ⟨v2, hv, h⟩ := ob_i h
  obtain ⟨v3, hv, h⟩ := ob_i h
  obtain ⟨v4, M5, hv, h⟩ := oc_i h
  have hC := hC.tr (Law_erring_5_c (v1) (v2) (v3) (M 26 13) M _ hv) (by decide)
  cases h
  exact hC
theorem P_safe_9_c      (M : am_M) (r : Int × am_M) (h : P_safe_9     M = some r) : Ch [12, 13] M r.2 := by
  have hC : Ch [12, 13] M M := Ch.rf
  cases h
  exact hC
theorem P_safe_84_c   (k43 : Int → Int → Int → Int → am_M → Option (Int × am_M)) (hk43 : ∀ (x1 : Int) (x2 : Int) (x4 : Int) (x6 : Int) (M : am_M) (r : Int × am_M), k43 x1 x2 x4 x6 M = some r → Ch [12, 13] M r.2) (x1 : Int) (x2 : Int) (x4 : Int) (x6 : Int) (M : am_M) (r : Int × am_M) (h : P_safe_84   k43 x1 x2 x4 x6 M = some r) : Ch [12, 13] M r.2 := by
  have hC : Ch [12, 13] M M := Ch.rf
  exact hC.tr (hk43 (x1) (x2) (x4) ((x6) + (-1)) M r h) (by decide)
theorem P_safe_125_c     (s0 : Int) (M : am_M) (r : Int × am_M) (h : P_safe_125    s0 M = some r) : Ch [12, 13] M r.2 := by
  have hC : Ch [12, 13] M M := Ch.rf
  cases h
  exact hC
theorem P_safe_43_c     : ∀ (n : Nat) (x1 : Int) (x2 : Int) (x4 : Int) (x6 : Int) (M : am_M) (r : Int × am_M), P_safe_43    n x1 x2 x4 x6 M = some r → Ch [12, 13] M r.2
  | 0, _, _, _, _, M, r, h => by cases h
  | n + 1, x1, x2, x4, x6, M, r, h => by
    have ih := P_safe_43_c     n
    have hC : Ch [12, 13] M M := Ch.rf
    obtain ⟨hR, ⟨hc, h⟩ | ⟨hc, h⟩⟩ := c_le_i h
    · skip
      obtain ⟨v1, hv, h⟩ := ob_i h
      obtain ⟨hc, h⟩ := ck_i h
      obtain ⟨v2, ev, h⟩ := tw_i h
      obtain ⟨hR, ⟨hc, h⟩ | ⟨hc, h⟩⟩ := c_ge_i h
      · skip
        obtain ⟨hR, ⟨hc, h⟩ | ⟨hc, h⟩⟩ := c_ne_i h
        · skip
          obtain ⟨hc, h⟩ := ck_i h
          obtain ⟨v3, ev, h⟩ := tw_i h
          exact hC.tr (P_safe_125_c     (v3) M r h) (by decide)
        · skip
          obtain ⟨hc, h⟩ := ck_i h
          obtain ⟨v4, ev, h⟩ := tw_i h
          exact hC.tr (P_safe_125_c     (v4) M r h) (by decide)
      · skip
        cases h
        exact hC
    · skip
      obtain ⟨v5, hv, h⟩ := ob_i h
      obtain ⟨hR, ⟨hc, h⟩ | ⟨hc, h⟩⟩ := c_eq_i h
      · skip
        exact hC.tr (P_safe_84_c   (P_safe_43    n) ih (x1) (x2) (x4) (x6) M r h) (by decide)
      · skip
        obtain ⟨v6, M7, hv, h⟩ := oc_i h
        have hC := hC.tr (Trip_wrongTenths_26_c (x6) M _ hv) (by decide)
        obtain ⟨hc, h⟩ := ck_i h
        exact hC.tr (P_safe_84_c   (P_safe_43    n) ih (x1) ((x2) * ((10) - (v6))) ((x4) * (10)) (x6) M7 r h) (by decide)
theorem P_safe_c     (x1 : Int) (M : am_M) (r : Int × am_M) (h : P_safe    x1 M = some r) : Ch [12, 13] M r.2 := by
  have hC : Ch [12, 13] M M := Ch.rf
  obtain ⟨hR, ⟨hc, h⟩ | ⟨hc, h⟩⟩ := c_lt_i h
  · skip
    exact hC.tr (P_safe_9_c      M r h) (by decide)
  · skip
    obtain ⟨hR, ⟨hc, h⟩ | ⟨hc, h⟩⟩ := c_le_i h
    · skip
      obtain ⟨v1, hv, h⟩ := ob_i h
      obtain ⟨hR, ⟨hc, h⟩ | ⟨hc, h⟩⟩ := c_le_i h
      · skip
        exact hC.tr (P_safe_43_c     am_big (x1) (1) (1) (M 26 11) M r h) (by decide)
      · skip
        cases h
        exact hC
    · skip
      exact hC.tr (P_safe_9_c      M r h) (by decide)
theorem Trip_minutesAstray_26_50_c     (s0 : Int) (M : am_M) (r : Int × am_M) (h : Trip_minutesAstray_26_50    s0 M = some r) : Ch [12, 13, 26] M r.2 := by
  have hC : Ch [12, 13, 26] M M := Ch.rf
  cases h
  exact hC
theorem Trip_minutesAstray_26_c     (x1 : Int) (M : am_M) (r : Int × am_M) (h : Trip_minutesAstray_26    x1 M = some r) : Ch [12, 13, 26] M r.2 := by
  have hC : Ch [12, 13, 26] M M := Ch.rf
  obtain ⟨v1, hv, h⟩ := ob_i h
  obtain ⟨hR, ⟨hc, h⟩ | ⟨hc, h⟩⟩ := c_ne_i h
  · skip
    obtain ⟨M2, eM, h⟩ := fw_i h
    have hC := hC.up (by decide) eM
    obtain ⟨hc, h⟩ := ck_i h
    obtain ⟨v3, ev, h⟩ := tw_i h
    obtain ⟨v4, M5, hv, h⟩ := oc_i h
    have hC := hC.tr (Trip_wrongTenths_26_c (x1) M2 _ hv) (by decide)
    obtain ⟨hR, ⟨hc, h⟩ | ⟨hc, h⟩⟩ := c_ge_i h
    · skip
      exact hC.tr (Trip_minutesAstray_26_50_c     (0) M5 r h) (by decide)
    · skip
      exact hC.tr (Trip_minutesAstray_26_50_c     (30) M5 r h) (by decide)
  · skip
    cases h
    exact hC
theorem Trip_goHome_26_81_c   (k12 : Int → Int → Int → am_M → Option (Int × am_M)) (hk12 : ∀ (x1 : Int) (x2 : Int) (x3 : Int) (M : am_M) (r : Int × am_M), k12 x1 x2 x3 M = some r → Ch [12, 13, 26] M r.2) (x1 : Int) (x2 : Int) (x3 : Int) (M : am_M) (r : Int × am_M) (h : Trip_goHome_26_81   k12 x1 x2 x3 M = some r) : Ch [12, 13, 26] M r.2 := by
  have hC : Ch [12, 13, 26] M M := Ch.rf
  exact hC.tr (hk12 (x1) (x2) ((x3) + (-1)) M r h) (by decide)
theorem Trip_goHome_26_58_c   (k12 : Int → Int → Int → am_M → Option (Int × am_M)) (hk12 : ∀ (x1 : Int) (x2 : Int) (x3 : Int) (M : am_M) (r : Int × am_M), k12 x1 x2 x3 M = some r → Ch [12, 13, 26] M r.2) (x1 : Int) (x3 : Int) (x4 : Int) (s0 : Int) (M : am_M) (r : Int × am_M) (h : Trip_goHome_26_58   k12 x1 x3 x4 s0 M = some r) : Ch [12, 13, 26] M r.2 := by
  have hC : Ch [12, 13, 26] M M := Ch.rf
  obtain ⟨hR, ⟨hc, h⟩ | ⟨hc, h⟩⟩ := c_ne_i h
  · skip
    exact hC.tr (Trip_goHome_26_81_c   k12 hk12 (x1) (s0) (x3) M r h) (by decide)
  · skip
    obtain ⟨M1, eM, h⟩ := fw_i h
    have hC := hC.up (by decide) eM
    obtain ⟨M2, eM, h⟩ := fw_i h
    have hC := hC.up (by decide) eM
    exact hC.tr (Trip_goHome_26_81_c   k12 hk12 (x1) (s0) (x3) M2 r h) (by decide)
theorem Trip_goHome_26_87_c     (x1 : Int) (M : am_M) (r : Int × am_M) (h : Trip_goHome_26_87    x1 M = some r) : Ch [12, 13, 26] M r.2 := by
  have hC : Ch [12, 13, 26] M M := Ch.rf
  cases h
  exact hC
theorem Trip_goHome_26_12_c     : ∀ (n : Nat) (x1 : Int) (x2 : Int) (x3 : Int) (M : am_M) (r : Int × am_M), Trip_goHome_26_12    n x1 x2 x3 M = some r → Ch [12, 13, 26] M r.2
  | 0, _, _, _, M, r, h => by cases h
  | n + 1, x1, x2, x3, M, r, h => by
    have ih := Trip_goHome_26_12_c     n
    have hC : Ch [12, 13, 26] M M := Ch.rf
    obtain ⟨hR, ⟨hc, h⟩ | ⟨hc, h⟩⟩ := c_le_i h
    · skip
      exact hC.tr (Trip_goHome_26_87_c     (x1) M r h) (by decide)
    · skip
      obtain ⟨hR, ⟨hc, h⟩ | ⟨hc, h⟩⟩ := c_ne_i h
      · skip
        exact hC.tr (Trip_goHome_26_87_c     (x1) M r h) (by decide)
      · skip
        obtain ⟨v1, M2, hv, h⟩ := oc_i h
        have hC := hC.tr (Trip_minutesOnto_26_c ((x3) - (1)) (2) M _ hv) (by decide)
        obtain ⟨v3, M4, hv, h⟩ := oc_i h
        have hC := hC.tr (Trip_minutesAstray_26_c (x3) M2 _ hv) (by decide)
        obtain ⟨hR, ⟨hc, h⟩ | ⟨hc, h⟩⟩ := c_le_i h
        · skip
          exact hC.tr (Trip_goHome_26_58_c   (Trip_goHome_26_12    n) ih (x1) (x3) ((v1) + (v3)) (0) M4 r h) (by decide)
        · skip
          exact hC.tr (Trip_goHome_26_58_c   (Trip_goHome_26_12    n) ih (x1) (x3) ((v1) + (v3)) (1) M4 r h) (by decide)
theorem Trip_goHome_26_c      (M : am_M) (r : Int × am_M) (h : Trip_goHome_26     M = some r) : Ch [12, 13, 26] M r.2 := by
  have hC : Ch [12, 13, 26] M M := Ch.rf
  exact hC.tr (Trip_goHome_26_12_c     am_big (M 26 12) (0) (M 26 11) M r h) (by decide)
theorem P_home_c      (M : am_M) (r : Int × am_M) (h : P_home     M = some r) : Ch [12, 13, 26] M r.2 := by
  have hC : Ch [12, 13, 26] M M := Ch.rf
  obtain ⟨v1, M2, hv, h⟩ := oc_i h
  have hC := hC.tr (Trip_goHome_26_c M _ hv) (by decide)
  cases h
  exact hC
theorem Trip_minutesBack_34_9_c     : ∀ (n : Nat) (x1 : Int) (x2 : Int) (M : am_M) (r : Int × am_M), Trip_minutesBack_34_9    n x1 x2 M = some r → Ch [12, 13] M r.2
  | 0, _, _, M, r, h => by cases h
  | n + 1, x1, x2, M, r, h => by
    have ih := Trip_minutesBack_34_9_c     n
    have hC : Ch [12, 13] M M := Ch.rf
    obtain ⟨hR, ⟨hc, h⟩ | ⟨hc, h⟩⟩ := c_lt_i h
    · skip
      cases h
      exact hC
    · skip
      obtain ⟨v1, M2, hv, h⟩ := oc_i h
      have hC := hC.tr (Trip_minutesOnto_34_c (x2) (2) M _ hv) (by decide)
      exact hC.tr (ih ((x1) + (v1)) ((x2) + (-1)) M2 r h) (by decide)
theorem Trip_minutesBack_34_c      (M : am_M) (r : Int × am_M) (h : Trip_minutesBack_34     M = some r) : Ch [12, 13] M r.2 := by
  have hC : Ch [12, 13] M M := Ch.rf
  exact hC.tr (Trip_minutesBack_34_9_c     am_big (0) ((M 34 11) - (1)) M r h) (by decide)
theorem Outing_noteTurn_50_34_43_c      (M : am_M) (r : am_M) (h : Outing_noteTurn_50_34_43     M = some r) : Ch [50] M r := by
  have hC : Ch [50] M M := Ch.rf
  cases h
  exact hC
theorem Outing_noteTurn_50_34_c     (x2 : Int) (x3 : Int) (M : am_M) (r : am_M) (h : Outing_noteTurn_50_34    x2 x3 M = some r) : Ch [50] M r := by
  have hC : Ch [50] M M := Ch.rf
  obtain ⟨hR, ⟨hc, h⟩ | ⟨hc, h⟩⟩ := c_ne_i h
  · skip
    exact hC.tr (Outing_noteTurn_50_34_43_c      M r h) (by decide)
  · skip
    obtain ⟨hR, ⟨hc, h⟩ | ⟨hc, h⟩⟩ := c_gt_i h
    · skip
      exact hC.tr (Outing_noteTurn_50_34_43_c      M r h) (by decide)
    · skip
      obtain ⟨M1, eM, h⟩ := fw_i h
      have hC := hC.up (by decide) eM
      obtain ⟨M2, eM, h⟩ := fw_i h
      have hC := hC.up (by decide) eM
      exact hC.tr (Outing_noteTurn_50_34_43_c      M2 r h) (by decide)
theorem Outing_findTurn_50_34_139_c      (M : am_M) (r : am_M) (h : Outing_findTurn_50_34_139     M = some r) : Ch [12, 13, 34, 35, 36, 37, 38, 39, 40, 41, 50] M r := by
  have hC : Ch [12, 13, 34, 35, 36, 37, 38, 39, 40, 41, 50] M M := Ch.rf
  cases h
  exact hC
theorem Outing_findTurn_50_34_126_c   (k42 : Int → Int → Int → am_M → Option (am_M)) (hk42 : ∀ (x2 : Int) (x3 : Int) (x4 : Int) (M : am_M) (r : am_M), k42 x2 x3 x4 M = some r → Ch [12, 13, 34, 35, 36, 37, 38, 39, 40, 41, 50] M r) (x2 : Int) (x3 : Int) (x4 : Int) (M : am_M) (r : am_M) (h : Outing_findTurn_50_34_126   k42 x2 x3 x4 M = some r) : Ch [12, 13, 34, 35, 36, 37, 38, 39, 40, 41, 50] M r := by
  have hC : Ch [12, 13, 34, 35, 36, 37, 38, 39, 40, 41, 50] M M := Ch.rf
  obtain ⟨M1, hv, h⟩ := ob_i h
  have hC := hC.tr (Outing_noteTurn_50_34_c (x2) (x3) M _ hv) (by decide)
  exact hC.tr (hk42 (x2) (x3) ((x4) + (1)) M1 r h) (by decide)
theorem Outing_findTurn_50_34_42_c     : ∀ (n : Nat) (x2 : Int) (x3 : Int) (x4 : Int) (M : am_M) (r : am_M), Outing_findTurn_50_34_42    n x2 x3 x4 M = some r → Ch [12, 13, 34, 35, 36, 37, 38, 39, 40, 41, 50] M r
  | 0, _, _, _, M, r, h => by cases h
  | n + 1, x2, x3, x4, M, r, h => by
    have ih := Outing_findTurn_50_34_42_c     n
    have hC : Ch [12, 13, 34, 35, 36, 37, 38, 39, 40, 41, 50] M M := Ch.rf
    obtain ⟨hR, ⟨hc, h⟩ | ⟨hc, h⟩⟩ := c_ge_i h
    · skip
      exact hC.tr (Outing_findTurn_50_34_139_c      M r h) (by decide)
    · skip
      obtain ⟨hR, ⟨hc, h⟩ | ⟨hc, h⟩⟩ := c_ge_i h
      · skip
        exact hC.tr (Outing_findTurn_50_34_139_c      M r h) (by decide)
      · skip
        obtain ⟨hR, ⟨hc, h⟩ | ⟨hc, h⟩⟩ := c_ne_i h
        · skip
          exact hC.tr (Outing_findTurn_50_34_139_c      M r h) (by decide)
        · skip
          obtain ⟨hc, v1, ev, h⟩ := rd_i h
          obtain ⟨M2, hv, h⟩ := ob_i h
          have hC := hC.tr (Outing_doAct_50_34_c (v1) M _ hv) (by decide)
          obtain ⟨hR, ⟨hc, h⟩ | ⟨hc, h⟩⟩ := c_le_i h
          · skip
            obtain ⟨hR, ⟨hc, h⟩ | ⟨hc, h⟩⟩ := c_ge_i h
            · skip
              exact hC.tr (Outing_findTurn_50_34_126_c   (Outing_findTurn_50_34_42    n) ih (x2) (x3) (x4) M2 r h) (by decide)
            · skip
              obtain ⟨v3, M4, hv, h⟩ := oc_i h
              have hC := hC.tr (Trip_minutesOnto_34_c (M2 34 11) (2) M2 _ hv) (by decide)
              exact hC.tr (Outing_findTurn_50_34_126_c   (Outing_findTurn_50_34_42    n) ih (x2) ((x3) - (v3)) (x4) M4 r h) (by decide)
          · skip
            obtain ⟨v5, M6, hv, h⟩ := oc_i h
            have hC := hC.tr (Trip_minutesOnto_34_c (M 34 11) (2) M2 _ hv) (by decide)
            exact hC.tr (Outing_findTurn_50_34_126_c   (Outing_findTurn_50_34_42    n) ih (x2) ((x3) + (v5)) (x4) M6 r h) (by decide)
theorem Outing_findTurn_50_34_c      (M : am_M) (r : am_M) (h : Outing_findTurn_50_34     M = some r) : Ch [12, 13, 34, 35, 36, 37, 38, 39, 40, 41, 50] M r := by
  have hC : Ch [12, 13, 34, 35, 36, 37, 38, 39, 40, 41, 50] M M := Ch.rf
  obtain ⟨v1, M2, hv, h⟩ := oc_i h
  have hC := hC.tr (Trip_minutesBack_34_c M _ hv) (by decide)
  obtain ⟨M3, eM, h⟩ := fw_i h
  have hC := hC.up (by decide) eM
  obtain ⟨M4, eM, h⟩ := fw_i h
  have hC := hC.up (by decide) eM
  obtain ⟨M5, eM, h⟩ := fw_i h
  have hC := hC.up (by decide) eM
  obtain ⟨hc, M6, eM, h⟩ := fz_i h
  have hC := hC.up (by decide) eM
  obtain ⟨M7, hv, h⟩ := ob_i h
  have hC := hC.tr (Outing_noteTurn_50_34_c (M 34 12) (v1) M6 _ hv) (by decide)
  exact hC.tr (Outing_findTurn_50_34_42_c     am_big (M 34 12) (v1) (0) M7 r h) (by decide)
theorem P_turn_86_c     (s0 : Int) (M : am_M) (r : Int × am_M) (h : P_turn_86    s0 M = some r) : Ch [12, 13, 14, 34, 35, 36, 37, 38, 39, 40, 41, 50, 51] M r.2 := by
  have hC : Ch [12, 13, 14, 34, 35, 36, 37, 38, 39, 40, 41, 50, 51] M M := Ch.rf
  cases h
  exact hC
theorem P_turn_23_c      (M : am_M) (r : Int × am_M) (h : P_turn_23     M = some r) : Ch [12, 13, 14, 34, 35, 36, 37, 38, 39, 40, 41, 50, 51] M r.2 := by
  have hC : Ch [12, 13, 14, 34, 35, 36, 37, 38, 39, 40, 41, 50, 51] M M := Ch.rf
  cases h
  exact hC
theorem P_turn_c     (x1 : Int) (x2 : Int) (M : am_M) (r : Int × am_M) (h : P_turn    x1 x2 M = some r) : Ch [12, 13, 14, 34, 35, 36, 37, 38, 39, 40, 41, 50, 51] M r.2 := by
  have hC : Ch [12, 13, 14, 34, 35, 36, 37, 38, 39, 40, 41, 50, 51] M M := Ch.rf
  obtain ⟨hR, ⟨hc, h⟩ | ⟨hc, h⟩⟩ := c_lt_i h
  · skip
    exact hC.tr (P_turn_23_c      M r h) (by decide)
  · skip
    obtain ⟨hR, ⟨hc, h⟩ | ⟨hc, h⟩⟩ := c_gt_i h
    · skip
      exact hC.tr (P_turn_23_c      M r h) (by decide)
    · skip
      obtain ⟨v1, M2, hv, h⟩ := oc_i h
      have hC := hC.tr (Tape_take_c (x1) (1) (80) M _ hv) (by decide)
      obtain ⟨hR, ⟨hc, h⟩ | ⟨hc, h⟩⟩ := c_ne_i h
      · skip
        obtain ⟨v3, M4, hv, h⟩ := oc_i h
        have hC := hC.tr (Outing_readActs_50_c M2 _ hv) (by decide)
        obtain ⟨hR, ⟨hc, h⟩ | ⟨hc, h⟩⟩ := c_ge_i h
        · skip
          obtain ⟨M5, hv, h⟩ := ob_i h
          have hC := hC.tr (Trip_copyFrom_34_26_c M4 _ hv) (by decide)
          obtain ⟨M6, hv, h⟩ := ob_i h
          have hC := hC.tr (Outing_findTurn_50_34_c M5 _ hv) (by decide)
          obtain ⟨hR, ⟨hc, h⟩ | ⟨hc, h⟩⟩ := c_ne_i h
          · skip
            exact hC.tr (P_turn_86_c     (M6 50 11) M6 r h) (by decide)
          · skip
            exact hC.tr (P_turn_86_c     (M6 50 10) M6 r h) (by decide)
        · skip
          cases h
          exact hC
      · skip
        exact hC.tr (P_turn_23_c      M2 r h) (by decide)
theorem J_fill_53_5_c     : ∀ (n : Nat) (x1 : Int) (x2 : Int) (x3 : Int) (M : am_M) (r : am_M), J_fill_53_5    n x1 x2 x3 M = some r → Ch [53] M r
  | 0, _, _, _, M, r, h => by cases h
  | n + 1, x1, x2, x3, M, r, h => by
    have ih := J_fill_53_5_c     n
    have hC : Ch [53] M M := Ch.rf
    obtain ⟨hR, ⟨hc, h⟩ | ⟨hc, h⟩⟩ := c_ge_i h
    · skip
      cases h
      exact hC
    · skip
      obtain ⟨hc, M1, eM, h⟩ := wa_i h
      have hC := hC.up (by decide) eM
      exact hC.tr (ih (x1) ((x2) + (1)) (x3) M1 r h) (by decide)
theorem J_fill_53_c     (x1 : Int) (M : am_M) (r : am_M) (h : J_fill_53    x1 M = some r) : Ch [53] M r := by
  have hC : Ch [53] M M := Ch.rf
  exact hC.tr (J_fill_53_5_c     am_big (x1) (0) (((144 : Nat) : Int)) M r h) (by decide)
