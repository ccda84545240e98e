-- the class's state, the reference's state, alike
abbrev FT : Type := Int → Int → (Nat → Int) → Int
def FO (F : FT) : Prop := (∀ l m e, 0 ≤ m → 0 ≤ F l m e ∧ F l m e ≤ m) ∧ (∀ l m e e', (∀ j, j < 7 → e j = e' j) → F l m e = F l m e')
def LWP (F : FT) (M : am_M) : Prop := ∀ (l m : Int) (N : am_M), (∀ k, 5 ≤ k → k ≤ 11 → N k = M k) → am_R l → 0 ≤ m → m ≤ 240 → (∀ j, j < 7 → am_R (N 12 j)) → ∃ N', Law_ask_5 l m N = some (F l m (N 12), N')
def LWR (F : FT) (M : am_M) : Prop := ∀ (l m : Int) (N : am_M), (∀ k, 77 ≤ k → k ≤ 82 → N k = M k) → N 73 19 = M 73 19 → am_R l → 0 ≤ m → m ≤ 240 → (∀ j, j < 7 → am_R (N 73 (29 + j))) → ∃ N', R_tells l m N = some (F l m (fun j => N 73 (29 + j)), N')
def KR (u M : am_M) : Prop := (M 109 1 = u 0 0 ∧ M 107 1 = u 0 1 ∧ M 108 1 = u 0 2 ∧ M 110 1 = u 0 3 ∧ M 111 1 = u 0 4 ∧ M 112 1 = u 0 5) ∧ (∀ p : Nat, (p : Int) < u 0 1 → M 102 (100 + p) = u 2 p ∧ M 103 (100 + p) = u 3 p ∧ M 104 (100 + p) = u 4 p ∧ M 105 (100 + p) = u 5 p ∧ M 106 (100 + p) = u 6 p) ∧ (∀ p : Nat, p < 6 → M 101 (6 + p) = u 1 p)
def OG (n : Nat) (M : am_M) : Prop := 0 ≤ M 68 3 ∧ M 68 3 ≤ 60 * n ∧ ∀ i : Nat, i < 2800 → 0 ≤ M 69 i ∧ M 69 i < 32 * (M 68 3 + 1)
def PW (F : FT) (g t u : am_M) : Prop := WG g ∧ WT t ∧ (t 0 0 ≠ -1 → 0 < g 3 (t 0 0).toNat) ∧ (g 0 4 = 1 → WT u ∧ (u 0 0 ≠ -1 → 0 < g 3 (u 0 0).toNat)) ∧ FO F
def PC (F : FT) (g t u : am_M) (n : Nat) (M : am_M) : Prop := GP g M ∧ TP 26 t M ∧ (g 0 4 = 1 → TP 42 u M) ∧ LWP F M ∧ OG n M
def PR (F : FT) (g t u : am_M) (M : am_M) : Prop := GR g M ∧ TR t M ∧ (g 0 4 = 1 → KR u M) ∧ LWR F M
def IV (n : Nat) (M : am_M) : Prop := ∃ (F : FT) (g t u : am_M), PW F g t u ∧ PC F g t u n M ∧ PR F g t u M
theorem LWP.cg {F : FT} {M N : am_M} (h : LWP F M) (e : ∀ k, 5 ≤ k → k ≤ 11 → N k = M k) : LWP F N := fun l m O h1 => h l m O (fun k a b => (h1 k a b).trans (e k a b))
theorem LWR.cg {F : FT} {M N : am_M} (h : LWR F M) (e : ∀ k, 77 ≤ k → k ≤ 82 → N k = M k) (e2 : N 73 19 = M 73 19) : LWR F N := fun l m O h1 h2 => h l m O (fun k a b => (h1 k a b).trans (e k a b)) (h2.trans e2)
theorem TP.cg {b : Nat} {t M N : am_M} (h : TP b t M) (e : ∀ k, b ≤ k → k ≤ b + 7 → N k = M k) : TP b t N := by
  unfold TP at h ⊢
  rw [e b (by omega) (by omega), e (b + 1) (by omega) (by omega), e (b + 2) (by omega) (by omega), e (b + 3) (by omega) (by omega), e (b + 4) (by omega) (by omega), e (b + 5) (by omega) (by omega), e (b + 6) (by omega) (by omega), e (b + 7) (by omega) (by omega)]
  exact h
theorem TR.cg {t M N : am_M} (h : TR t M) (e : ∀ k, 73 ≤ k → N k = M k) : TR t N := by
  unfold TR at h ⊢
  rw [e 73 (by omega), e 95 (by omega), e 96 (by omega), e 97 (by omega), e 98 (by omega), e 99 (by omega), e 93 (by omega), e 100 (by omega)]
  exact h
theorem TR.cg' {t M N : am_M} (h : TR t M) (e : ∀ k, 73 ≤ k → k ≤ 100 → N k = M k) : TR t N := by
  unfold TR at h ⊢
  rw [e 73 (by omega) (by omega), e 95 (by omega) (by omega), e 96 (by omega) (by omega), e 97 (by omega) (by omega), e 98 (by omega) (by omega), e 99 (by omega) (by omega), e 93 (by omega) (by omega), e 100 (by omega) (by omega)]
  exact h
theorem GP.cg {g M N : am_M} (h : GP g M) (e : ∀ k, k < 16 → N k = M k) : GP g N := by
  unfold GP at h ⊢
  rw [e 0 (by omega), e 1 (by omega), e 2 (by omega), e 4 (by omega), e 5 (by omega), e 14 (by omega), e 15 (by omega)]
  exact h
theorem GR.cg {g M N : am_M} (h : GR g M) (e : ∀ k, 73 ≤ k → N k = M k) : GR g N := by
  unfold GR at h ⊢
  rw [e 73 (by omega), e 74 (by omega), e 75 (by omega), e 92 (by omega), e 94 (by omega)]
  exact h
theorem KR.cg {g M N : am_M} (h : KR g M) (e : ∀ k, 101 ≤ k → N k = M k) : KR g N := by
  unfold KR at h ⊢
  rw [e 101 (by omega), e 102 (by omega), e 103 (by omega), e 104 (by omega), e 105 (by omega), e 106 (by omega), e 107 (by omega), e 108 (by omega), e 109 (by omega), e 110 (by omega), e 111 (by omega), e 112 (by omega)]
  exact h
theorem KR.cg' {g M N : am_M} (h : KR g M) (e : ∀ k, 101 ≤ k → k ≤ 112 → N k = M k) : KR g N := by
  unfold KR at h ⊢
  rw [e 101 (by omega) (by omega), e 102 (by omega) (by omega), e 103 (by omega) (by omega), e 104 (by omega) (by omega), e 105 (by omega) (by omega), e 106 (by omega) (by omega), e 107 (by omega) (by omega), e 108 (by omega) (by omega), e 109 (by omega) (by omega), e 110 (by omega) (by omega), e 111 (by omega) (by omega), e 112 (by omega) (by omega)]
  exact h
theorem OG.cg {n m : Nat} {M N : am_M} (h : OG n M) (e : ∀ k, 68 ≤ k → k ≤ 69 → N k = M k) (hn : n ≤ m) : OG m N := by
  unfold OG at h ⊢
  rw [e 68 (by omega) (by omega), e 69 (by omega) (by omega)]
  exact ⟨h.1, by omega, h.2.2⟩
theorem PR.cg {F : FT} {g t u M N : am_M} (h : PR F g t u M) (e : ∀ k, 73 ≤ k → N k = M k) : PR F g t u N := ⟨h.1.cg e, h.2.1.cg e, fun q => (h.2.2.1 q).cg (fun k hk => e k (by omega)), h.2.2.2.cg (fun k a _ => e k (by omega)) (by rw [e 73 (by omega)])⟩
theorem PC.cg {F : FT} {g t u M N : am_M} {n m : Nat} (h : PC F g t u n M) (e : ∀ k, k < 73 → N k = M k) (hn : n ≤ m) : PC F g t u m N := ⟨h.1.cg (fun k hk => e k (by omega)), h.2.1.cg (fun k _ b => e k (by omega)), fun q => (h.2.2.1 q).cg (fun k _ b => e k (by omega)), h.2.2.2.1.cg (fun k _ b => e k (by omega)), h.2.2.2.2.cg (fun k _ b => e k (by omega)) hn⟩
/-- what a call owes: both answer, alike, and stay alike -/
def OK2 (n : Nat) (p : am_M → Option (Int × am_M)) (r : am_M → Option (Int × am_M)) : Prop := ∀ M, IV n M → ∃ v M1 M2, p M = some (v, M1) ∧ r M1 = some (v, M2) ∧ am_R v ∧ IV (n + 1) M2
def OK1 (n : Nat) (p r : am_M → Option Int) : Prop := ∀ M, IV n M → ∃ v, p M = some v ∧ r M = some v ∧ am_R v
theorem OK2.of {n : Nat} {p r : am_M → Option (Int × am_M)} {lp lr : List Nat} (hlp : ∀ k, k ∈ lp → k < 73) (hlr : ∀ k, k ∈ lr → 73 ≤ k) (hp : ∀ M x, p M = some x → Ch lp M x.2) (hr : ∀ M x, r M = some x → Ch lr M x.2)
    (h : ∀ (F : FT) (g t u : am_M), PW F g t u → ∃ (v : Int) (F' : FT) (g' t' u' : am_M), am_R v ∧ PW F' g' t' u' ∧ (∀ M, PC F g t u n M → ∃ M1, p M = some (v, M1) ∧ PC F' g' t' u' (n + 1) M1) ∧ (∀ M, PR F g t u M → ∃ M1, r M = some (v, M1) ∧ PR F' g' t' u' M1)) : OK2 n p r := by
  intro M ⟨F, g, t, u, hW, hC, hR⟩
  obtain ⟨v, F', g', t', u', hv, hW', h1, h2⟩ := h F g t u hW
  obtain ⟨M1, e1, hC1⟩ := h1 M hC
  have f1 : ∀ k, 73 ≤ k → M1 k = M k := fun k hk => hp M _ e1 k (fun q => by have := hlp k q; omega)
  obtain ⟨M2, e2, hR2⟩ := h2 M1 (hR.cg f1)
  have f2 : ∀ k, k < 73 → M2 k = M1 k := fun k hk => hr M1 _ e2 k (fun q => by have := hlr k q; omega)
  exact ⟨v, M1, M2, e1, e2, hv, F', g', t', u', hW', hC1.cg f2 (Nat.le_refl _), hR2⟩
theorem upo {M : am_M} {k j i : Nat} {v : Int} (h : i ≠ k) : am_up M k j v i = M i := am_upo h
theorem upx {M : am_M} {k j x : Nat} {v : Int} (h : x ≠ j) : am_up M k j v k x = M k x := by
  rw [up_s, if_neg h]
theorem upj {M : am_M} {k j : Nat} {v : Int} : am_up M k j v k j = v := by
  rw [up_s, if_pos rfl]
-- width
theorem P_width_ok {n : Nat} {x : Int} (hx : am_R x) : OK2 n (P_width x) (R_width x) := by
  refine OK2.of (lp := [1]) (lr := [73]) (by decide) (by decide) (fun M r h => P_width_c x M r h) (fun M r h => R_width_c x M r h) (fun F g t u hW => ?_)
  by_cases hc : 1 ≤ x ∧ x ≤ 4
  · refine ⟨1, F, am_up g 0 1 x, t, u, by decide, ?_, fun M hC => ⟨am_up M 1 3 x, ?_, ?_⟩, fun M hR => ⟨am_up M 73 42 x, ?_, ?_⟩⟩
    · obtain ⟨h1, h2, h3, h4, h5⟩ := hW
      unfold PW WG
      simp (disch := omega) only [c_lt_p, c_eq_p, c_ne_p, c_ge_p, c_gt_p, c_le_p, rd_p, wa_p, wz_p, w8_p, fz_p, fw_p, tw_p, ck_p, ob_s, oc_s, if_pos, if_neg, am_upo, up_s, ne_eq, not_true_eq_false, not_false_eq_true, true_or, or_true, true_and, and_true, false_and, and_false, ck_t, reduceIte, Int.tmod_eq_emod_of_nonneg, Int.tdiv_eq_ediv_of_nonneg]
      have := h1.1
      exact ⟨⟨by omega, h1.2⟩, h2, h3, h4, h5⟩
    · unfold P_width P_width_10
      simp (disch := omega) only [c_lt_p, c_eq_p, c_ne_p, c_ge_p, c_gt_p, c_le_p, rd_p, wa_p, wz_p, w8_p, fz_p, fw_p, tw_p, ck_p, ob_s, oc_s, if_pos, if_neg, am_upo, up_s, ne_eq, not_true_eq_false, not_false_eq_true, true_or, or_true, true_and, and_true, false_and, and_false, ck_t, reduceIte, Int.tmod_eq_emod_of_nonneg, Int.tdiv_eq_ediv_of_nonneg]
    · obtain ⟨h1, h2, h3, h4, h5⟩ := hC
      refine ⟨?_, h2.cg (fun k a b => upo (by omega)), fun q => (h3 (by rw [upx (by decide)] at q; exact q)).cg (fun k a b => upo (by omega)), h4.cg (fun k a b => upo (by omega)), h5.cg (fun k a b => upo (by omega)) (by omega)⟩
      unfold GP at h1 ⊢
      simp (disch := omega) only [c_lt_p, c_eq_p, c_ne_p, c_ge_p, c_gt_p, c_le_p, rd_p, wa_p, wz_p, w8_p, fz_p, fw_p, tw_p, ck_p, ob_s, oc_s, if_pos, if_neg, am_upo, up_s, ne_eq, not_true_eq_false, not_false_eq_true, true_or, or_true, true_and, and_true, false_and, and_false, ck_t, reduceIte, Int.tmod_eq_emod_of_nonneg, Int.tdiv_eq_ediv_of_nonneg]
      exact ⟨⟨h1.1.1, h1.1.2.2⟩, h1.2⟩
    · unfold R_width
      simp (disch := omega) only [c_lt_p, c_eq_p, c_ne_p, c_ge_p, c_gt_p, c_le_p, rd_p, wa_p, wz_p, w8_p, fz_p, fw_p, tw_p, ck_p, ob_s, oc_s, if_pos, if_neg, am_upo, up_s, ne_eq, not_true_eq_false, not_false_eq_true, true_or, or_true, true_and, and_true, false_and, and_false, ck_t, reduceIte, Int.tmod_eq_emod_of_nonneg, Int.tdiv_eq_ediv_of_nonneg, R_lies_eq]
    · obtain ⟨h1, h2, h3, h4⟩ := hR
      refine ⟨?_, ?_, fun q => (h3 (by rw [upx (by decide)] at q; exact q)).cg (fun k a => upo (by omega)), h4.cg (fun k a b => upo (by omega)) (upx (by decide))⟩
      · unfold GR at h1 ⊢
        simp (disch := omega) only [c_lt_p, c_eq_p, c_ne_p, c_ge_p, c_gt_p, c_le_p, rd_p, wa_p, wz_p, w8_p, fz_p, fw_p, tw_p, ck_p, ob_s, oc_s, if_pos, if_neg, am_upo, up_s, ne_eq, not_true_eq_false, not_false_eq_true, true_or, or_true, true_and, and_true, false_and, and_false, ck_t, reduceIte, Int.tmod_eq_emod_of_nonneg, Int.tdiv_eq_ediv_of_nonneg]
        exact ⟨⟨h1.1.1, h1.1.2.2⟩, h1.2⟩
      · unfold TR at h2 ⊢
        simp (disch := omega) only [c_lt_p, c_eq_p, c_ne_p, c_ge_p, c_gt_p, c_le_p, rd_p, wa_p, wz_p, w8_p, fz_p, fw_p, tw_p, ck_p, ob_s, oc_s, if_pos, if_neg, am_upo, up_s, ne_eq, not_true_eq_false, not_false_eq_true, true_or, or_true, true_and, and_true, false_and, and_false, ck_t, reduceIte, Int.tmod_eq_emod_of_nonneg, Int.tdiv_eq_ediv_of_nonneg]
        exact h2
  · refine ⟨0, F, g, t, u, by decide, hW, fun M hC => ⟨M, ?_, hC.cg (fun _ _ => rfl) (by omega)⟩, fun M hR => ⟨M, ?_, hR⟩⟩
    · unfold P_width P_width_10
      by_cases h2 : x < 1
      · simp (disch := omega) only [c_lt_p, c_eq_p, c_ne_p, c_ge_p, c_gt_p, c_le_p, rd_p, wa_p, wz_p, w8_p, fz_p, fw_p, tw_p, ck_p, ob_s, oc_s, if_pos, if_neg, am_upo, up_s, ne_eq, not_true_eq_false, not_false_eq_true, true_or, or_true, true_and, and_true, false_and, and_false, ck_t, reduceIte, Int.tmod_eq_emod_of_nonneg, Int.tdiv_eq_ediv_of_nonneg]
      · simp (disch := omega) only [c_lt_p, c_eq_p, c_ne_p, c_ge_p, c_gt_p, c_le_p, rd_p, wa_p, wz_p, w8_p, fz_p, fw_p, tw_p, ck_p, ob_s, oc_s, if_pos, if_neg, am_upo, up_s, ne_eq, not_true_eq_false, not_false_eq_true, true_or, or_true, true_and, and_true, false_and, and_false, ck_t, reduceIte, Int.tmod_eq_emod_of_nonneg, Int.tdiv_eq_ediv_of_nonneg]
    · unfold R_width
      simp (disch := omega) only [c_lt_p, c_eq_p, c_ne_p, c_ge_p, c_gt_p, c_le_p, rd_p, wa_p, wz_p, w8_p, fz_p, fw_p, tw_p, ck_p, ob_s, oc_s, if_pos, if_neg, am_upo, up_s, ne_eq, not_true_eq_false, not_false_eq_true, true_or, or_true, true_and, and_true, false_and, and_false, ck_t, reduceIte, Int.tmod_eq_emod_of_nonneg, Int.tdiv_eq_ediv_of_nonneg, R_lies_eq]
theorem P_light_ok {n : Nat} {x : Int} (hx : am_R x) : OK2 n (P_light x) (R_light x) := by
  refine OK2.of (lp := [1]) (lr := [73]) (by decide) (by decide) (fun M r h => P_light_c x M r h) (fun M r h => R_light_c x M r h) (fun F g t u hW => ?_)
  by_cases hc : 0 ≤ x ∧ x ≤ 999
  · refine ⟨1, F, am_up g 0 2 x, t, u, by decide, ?_, fun M hC => ⟨am_up M 1 4 x, ?_, ?_⟩, fun M hR => ⟨am_up M 73 43 x, ?_, ?_⟩⟩
    · obtain ⟨h1, h2, h3, h4, h5⟩ := hW
      unfold PW WG
      simp (disch := omega) only [c_lt_p, c_eq_p, c_ne_p, c_ge_p, c_gt_p, c_le_p, rd_p, wa_p, wz_p, w8_p, fz_p, fw_p, tw_p, ck_p, ob_s, oc_s, if_pos, if_neg, am_upo, up_s, ne_eq, not_true_eq_false, not_false_eq_true, true_or, or_true, true_and, and_true, false_and, and_false, ck_t, reduceIte, Int.tmod_eq_emod_of_nonneg, Int.tdiv_eq_ediv_of_nonneg]
      have := h1.1
      exact ⟨⟨by omega, h1.2⟩, h2, h3, h4, h5⟩
    · unfold P_light P_light_11
      simp (disch := omega) only [c_lt_p, c_eq_p, c_ne_p, c_ge_p, c_gt_p, c_le_p, rd_p, wa_p, wz_p, w8_p, fz_p, fw_p, tw_p, ck_p, ob_s, oc_s, if_pos, if_neg, am_upo, up_s, ne_eq, not_true_eq_false, not_false_eq_true, true_or, or_true, true_and, and_true, false_and, and_false, ck_t, reduceIte, Int.tmod_eq_emod_of_nonneg, Int.tdiv_eq_ediv_of_nonneg]
    · obtain ⟨h1, h2, h3, h4, h5⟩ := hC
      refine ⟨?_, h2.cg (fun k a b => upo (by omega)), fun q => (h3 (by rw [upx (by decide)] at q; exact q)).cg (fun k a b => upo (by omega)), h4.cg (fun k a b => upo (by omega)), h5.cg (fun k a b => upo (by omega)) (by omega)⟩
      unfold GP at h1 ⊢
      simp (disch := omega) only [c_lt_p, c_eq_p, c_ne_p, c_ge_p, c_gt_p, c_le_p, rd_p, wa_p, wz_p, w8_p, fz_p, fw_p, tw_p, ck_p, ob_s, oc_s, if_pos, if_neg, am_upo, up_s, ne_eq, not_true_eq_false, not_false_eq_true, true_or, or_true, true_and, and_true, false_and, and_false, ck_t, reduceIte, Int.tmod_eq_emod_of_nonneg, Int.tdiv_eq_ediv_of_nonneg]
      exact ⟨⟨h1.1.1, h1.1.2.1, h1.1.2.2.2⟩, h1.2⟩
    · unfold R_light
      simp (disch := omega) only [c_lt_p, c_eq_p, c_ne_p, c_ge_p, c_gt_p, c_le_p, rd_p, wa_p, wz_p, w8_p, fz_p, fw_p, tw_p, ck_p, ob_s, oc_s, if_pos, if_neg, am_upo, up_s, ne_eq, not_true_eq_false, not_false_eq_true, true_or, or_true, true_and, and_true, false_and, and_false, ck_t, reduceIte, Int.tmod_eq_emod_of_nonneg, Int.tdiv_eq_ediv_of_nonneg, R_lies_eq]
    · obtain ⟨h1, h2, h3, h4⟩ := hR
      refine ⟨?_, ?_, fun q => (h3 (by rw [upx (by decide)] at q; exact q)).cg (fun k a => upo (by omega)), h4.cg (fun k a b => upo (by omega)) (upx (by decide))⟩
      · unfold GR at h1 ⊢
        simp (disch := omega) only [c_lt_p, c_eq_p, c_ne_p, c_ge_p, c_gt_p, c_le_p, rd_p, wa_p, wz_p, w8_p, fz_p, fw_p, tw_p, ck_p, ob_s, oc_s, if_pos, if_neg, am_upo, up_s, ne_eq, not_true_eq_false, not_false_eq_true, true_or, or_true, true_and, and_true, false_and, and_false, ck_t, reduceIte, Int.tmod_eq_emod_of_nonneg, Int.tdiv_eq_ediv_of_nonneg]
        exact ⟨⟨h1.1.1, h1.1.2.1, h1.1.2.2.2⟩, h1.2⟩
      · unfold TR at h2 ⊢
        simp (disch := omega) only [c_lt_p, c_eq_p, c_ne_p, c_ge_p, c_gt_p, c_le_p, rd_p, wa_p, wz_p, w8_p, fz_p, fw_p, tw_p, ck_p, ob_s, oc_s, if_pos, if_neg, am_upo, up_s, ne_eq, not_true_eq_false, not_false_eq_true, true_or, or_true, true_and, and_true, false_and, and_false, ck_t, reduceIte, Int.tmod_eq_emod_of_nonneg, Int.tdiv_eq_ediv_of_nonneg]
        exact h2
  · refine ⟨0, F, g, t, u, by decide, hW, fun M hC => ⟨M, ?_, hC.cg (fun _ _ => rfl) (by omega)⟩, fun M hR => ⟨M, ?_, hR⟩⟩
    · unfold P_light P_light_11
      by_cases h2 : x < 0
      · simp (disch := omega) only [c_lt_p, c_eq_p, c_ne_p, c_ge_p, c_gt_p, c_le_p, rd_p, wa_p, wz_p, w8_p, fz_p, fw_p, tw_p, ck_p, ob_s, oc_s, if_pos, if_neg, am_upo, up_s, ne_eq, not_true_eq_false, not_false_eq_true, true_or, or_true, true_and, and_true, false_and, and_false, ck_t, reduceIte, Int.tmod_eq_emod_of_nonneg, Int.tdiv_eq_ediv_of_nonneg]
      · simp (disch := omega) only [c_lt_p, c_eq_p, c_ne_p, c_ge_p, c_gt_p, c_le_p, rd_p, wa_p, wz_p, w8_p, fz_p, fw_p, tw_p, ck_p, ob_s, oc_s, if_pos, if_neg, am_upo, up_s, ne_eq, not_true_eq_false, not_false_eq_true, true_or, or_true, true_and, and_true, false_and, and_false, ck_t, reduceIte, Int.tmod_eq_emod_of_nonneg, Int.tdiv_eq_ediv_of_nonneg]
    · unfold R_light
      simp (disch := omega) only [c_lt_p, c_eq_p, c_ne_p, c_ge_p, c_gt_p, c_le_p, rd_p, wa_p, wz_p, w8_p, fz_p, fw_p, tw_p, ck_p, ob_s, oc_s, if_pos, if_neg, am_upo, up_s, ne_eq, not_true_eq_false, not_false_eq_true, true_or, or_true, true_and, and_true, false_and, and_false, ck_t, reduceIte, Int.tmod_eq_emod_of_nonneg, Int.tdiv_eq_ediv_of_nonneg, R_lies_eq]
theorem P_seed_ok {n : Nat} {x : Int} (hx : am_R x) : OK2 n (P_seed x) (R_seed x) := by
  refine OK2.of (lp := [26]) (lr := [73]) (by decide) (by decide) (fun M r h => P_seed_c x M r h) (fun M r h => R_seed_c x M r h) (fun F g t u hW => ?_)
  by_cases hc : 0 ≤ x ∧ x ≤ 65535
  · refine ⟨1, F, g, am_up t 0 5 x, u, by decide, ?_, fun M hC => ⟨am_up M 26 14 x, ?_, ?_⟩, fun M hR => ⟨am_up M 73 2 x, ?_, ?_⟩⟩
    · obtain ⟨h1, h2, h3, h4, h5⟩ := hW
      unfold PW WT
      simp (disch := omega) only [c_lt_p, c_eq_p, c_ne_p, c_ge_p, c_gt_p, c_le_p, rd_p, wa_p, wz_p, w8_p, fz_p, fw_p, tw_p, ck_p, ob_s, oc_s, if_pos, if_neg, am_upo, up_s, ne_eq, not_true_eq_false, not_false_eq_true, true_or, or_true, true_and, and_true, false_and, and_false, ck_t, reduceIte, Int.tmod_eq_emod_of_nonneg, Int.tdiv_eq_ediv_of_nonneg]
      have := h2.1
      exact ⟨h1, ⟨by omega, h2.2⟩, h3, h4, h5⟩
    · unfold P_seed P_seed_11
      simp (disch := omega) only [c_lt_p, c_eq_p, c_ne_p, c_ge_p, c_gt_p, c_le_p, rd_p, wa_p, wz_p, w8_p, fz_p, fw_p, tw_p, ck_p, ob_s, oc_s, if_pos, if_neg, am_upo, up_s, ne_eq, not_true_eq_false, not_false_eq_true, true_or, or_true, true_and, and_true, false_and, and_false, ck_t, reduceIte, Int.tmod_eq_emod_of_nonneg, Int.tdiv_eq_ediv_of_nonneg]
    · obtain ⟨h1, h2, h3, h4, h5⟩ := hC
      refine ⟨h1.cg (fun k a => upo (by omega)), ?_, fun q => (h3 q).cg (fun k a b => upo (by omega)), h4.cg (fun k a b => upo (by omega)), h5.cg (fun k a b => upo (by omega)) (by omega)⟩
      unfold TP onB at h2 ⊢
      simp (disch := omega) only [c_lt_p, c_eq_p, c_ne_p, c_ge_p, c_gt_p, c_le_p, rd_p, wa_p, wz_p, w8_p, fz_p, fw_p, tw_p, ck_p, ob_s, oc_s, if_pos, if_neg, am_upo, up_s, ne_eq, not_true_eq_false, not_false_eq_true, true_or, or_true, true_and, and_true, false_and, and_false, ck_t, reduceIte, Int.tmod_eq_emod_of_nonneg, Int.tdiv_eq_ediv_of_nonneg]
      exact ⟨⟨h2.1.1, h2.1.2.1, h2.1.2.2.1, h2.1.2.2.2.1, h2.1.2.2.2.2.1⟩, h2.2⟩
    · unfold R_seed
      simp (disch := omega) only [c_lt_p, c_eq_p, c_ne_p, c_ge_p, c_gt_p, c_le_p, rd_p, wa_p, wz_p, w8_p, fz_p, fw_p, tw_p, ck_p, ob_s, oc_s, if_pos, if_neg, am_upo, up_s, ne_eq, not_true_eq_false, not_false_eq_true, true_or, or_true, true_and, and_true, false_and, and_false, ck_t, reduceIte, Int.tmod_eq_emod_of_nonneg, Int.tdiv_eq_ediv_of_nonneg, R_lies_eq]
    · obtain ⟨h1, h2, h3, h4⟩ := hR
      refine ⟨?_, ?_, fun q => (h3 q).cg (fun k a => upo (by omega)), h4.cg (fun k a b => upo (by omega)) (upx (by decide))⟩
      · unfold GR at h1 ⊢
        simp (disch := omega) only [c_lt_p, c_eq_p, c_ne_p, c_ge_p, c_gt_p, c_le_p, rd_p, wa_p, wz_p, w8_p, fz_p, fw_p, tw_p, ck_p, ob_s, oc_s, if_pos, if_neg, am_upo, up_s, ne_eq, not_true_eq_false, not_false_eq_true, true_or, or_true, true_and, and_true, false_and, and_false, ck_t, reduceIte, Int.tmod_eq_emod_of_nonneg, Int.tdiv_eq_ediv_of_nonneg]
        exact h1
      · unfold TR onB at h2 ⊢
        simp (disch := omega) only [c_lt_p, c_eq_p, c_ne_p, c_ge_p, c_gt_p, c_le_p, rd_p, wa_p, wz_p, w8_p, fz_p, fw_p, tw_p, ck_p, ob_s, oc_s, if_pos, if_neg, am_upo, up_s, ne_eq, not_true_eq_false, not_false_eq_true, true_or, or_true, true_and, and_true, false_and, and_false, ck_t, reduceIte, Int.tmod_eq_emod_of_nonneg, Int.tdiv_eq_ediv_of_nonneg]
        exact ⟨⟨h2.1.1, h2.1.2.1, h2.1.2.2.1, h2.1.2.2.2.1, h2.1.2.2.2.2.1⟩, h2.2⟩
  · refine ⟨0, F, g, t, u, by decide, hW, fun M hC => ⟨M, ?_, hC.cg (fun _ _ => rfl) (by omega)⟩, fun M hR => ⟨M, ?_, hR⟩⟩
    · unfold P_seed P_seed_11
      by_cases h2 : x < 0
      · simp (disch := omega) only [c_lt_p, c_eq_p, c_ne_p, c_ge_p, c_gt_p, c_le_p, rd_p, wa_p, wz_p, w8_p, fz_p, fw_p, tw_p, ck_p, ob_s, oc_s, if_pos, if_neg, am_upo, up_s, ne_eq, not_true_eq_false, not_false_eq_true, true_or, or_true, true_and, and_true, false_and, and_false, ck_t, reduceIte, Int.tmod_eq_emod_of_nonneg, Int.tdiv_eq_ediv_of_nonneg]
      · simp (disch := omega) only [c_lt_p, c_eq_p, c_ne_p, c_ge_p, c_gt_p, c_le_p, rd_p, wa_p, wz_p, w8_p, fz_p, fw_p, tw_p, ck_p, ob_s, oc_s, if_pos, if_neg, am_upo, up_s, ne_eq, not_true_eq_false, not_false_eq_true, true_or, or_true, true_and, and_true, false_and, and_false, ck_t, reduceIte, Int.tmod_eq_emod_of_nonneg, Int.tdiv_eq_ediv_of_nonneg]
    · unfold R_seed
      simp (disch := omega) only [c_lt_p, c_eq_p, c_ne_p, c_ge_p, c_gt_p, c_le_p, rd_p, wa_p, wz_p, w8_p, fz_p, fw_p, tw_p, ck_p, ob_s, oc_s, if_pos, if_neg, am_upo, up_s, ne_eq, not_true_eq_false, not_false_eq_true, true_or, or_true, true_and, and_true, false_and, and_false, ck_t, reduceIte, Int.tmod_eq_emod_of_nonneg, Int.tdiv_eq_ediv_of_nonneg, R_lies_eq]
