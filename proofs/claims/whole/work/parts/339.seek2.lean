-- seek: reading, the reference
abbrev okP (g : am_M) (i : Nat) : Prop := g 1 (2 * i) < 144 ∧ 1 ≤ g 1 (2 * i + 1) ∧ g 1 (2 * i + 1) ≤ 9
def okS (g : am_M) : Nat → Nat → Bool
  | 0, _ => true
  | k + 1, i => decide (okP g i) && okS g k (i + 1)
theorem okS_at {g : am_M} : ∀ (k i : Nat), okS g k i = true → ∀ j, i ≤ j → j < i + k → okP g j
  | 0, i, h, j, h1, h2 => by omega
  | k + 1, i, h, j, h1, h2 => by
    unfold okS at h
    rw [Bool.and_eq_true] at h
    by_cases q : j = i
    · rw [q]
      exact of_decide_eq_true h.1
    · exact okS_at k (i + 1) h.2 j (by omega) (by omega)
theorem GP.sr {g M N : am_M} (h : GP g M) (e : ∀ k, (k < 57 ∨ 67 < k) → N k = M k) : GP g N := by
  unfold GP at h ⊢
  rw [e 0 (by decide), e 1 (by decide), e 2 (by decide), e 4 (by decide), e 5 (by decide), e 14 (by decide), e 15 (by decide)]
  exact h
theorem rdc_lp {g : am_M} {x : Nat} (hg : WG g) (hx : x ≤ 6) : ∀ (k n i : Nat) (M : am_M), i + k = x → k < n → GP g M → M 14 2 = 2 * (x : Int) → M 63 2 = i → (∀ j : Nat, j < i → M 64 j = g 1 (2 * j) ∧ M 65 j = g 1 (2 * j + 1)) → ∃ N, Search_readCells_63_7 n (x : Int) (i : Int) M = some (if okS g k i then 1 else 0, N) ∧ (∀ c, c ≠ 63 → c ≠ 64 → c ≠ 65 → N c = M c) ∧ (okS g k i = true → N 63 2 = x ∧ ∀ j : Nat, j < x → N 64 j = g 1 (2 * j) ∧ N 65 j = g 1 (2 * j + 1))
  | 0, n + 1, i, M, e, hn, hG, h14, h63, hj => by
    refine ⟨M, ?_, fun _ _ _ _ => rfl, fun _ => ⟨by omega, fun j h => hj j (by omega)⟩⟩
    unfold Search_readCells_63_7 Search_readCells_63_93 okS
    rw [c_ge_p (by omega) (by omega), if_pos (by omega), if_pos rfl]
  | k + 1, n + 1, i, M, e, hn, hG, h14, h63, hj => by
    have b1 := hg.2.1 (2 * i) (by omega)
    have b2 := hg.2.1 (2 * i + 1) (by omega)
    have a1 : Tape_at (2 * (i : Int)) M = some (g 1 (2 * i)) := by
      rw [Tape_at_eq hG h14 (by omega) (by omega) (by omega)]
      unfold taS
      rw [if_pos (by omega), show (2 * (i : Int)).toNat = 2 * i by omega]
    have a2 : Tape_at (2 * (i : Int) + 1) M = some (g 1 (2 * i + 1)) := by
      rw [Tape_at_eq hG h14 (by omega) (by omega) (by omega)]
      unfold taS
      rw [if_pos (by omega), show (2 * (i : Int) + 1).toNat = 2 * i + 1 by omega]
    unfold Search_readCells_63_7 Search_readCells_63_59 Search_readCells_63_93 okS
    rw [c_ge_p (by omega) (by omega), if_neg (by omega), c_ge_p (by omega) (by omega), if_neg (by omega), a1, ob_s, a2, ob_s, Country_isCell_eq (by omega), ob_s]
    by_cases q : okP g i
    · rw [decide_eq_true q, Bool.true_and, if_pos ⟨b1.1, q.1⟩, c_eq_p (by decide) (by decide), if_neg (by decide), c_lt_p (by omega) (by omega), if_neg (by omega), c_le_p (by omega) (by omega), if_pos (by omega), wa_p (by omega), wa_p (by omega), fw_p]
      obtain ⟨Z, hZ⟩ : ∃ Z, Z = am_up (am_up (am_up M 64 i (g 1 (2 * i))) 65 i (g 1 (2 * i + 1))) 63 2 ((i : Int) + 1) := ⟨_, rfl⟩
      have zo : ∀ c, c ≠ 63 → c ≠ 64 → c ≠ 65 → Z c = M c := fun c h1 h2 h3 => by rw [hZ, upo h1, upo h3, upo h2]
      have z64 : Z 64 = upf (M 64) i (g 1 (2 * i)) := by rw [hZ, upo (show (64 : Nat) ≠ 63 by decide), upo (show (64 : Nat) ≠ 65 by decide), up_f]
      have z65 : Z 65 = upf (M 65) i (g 1 (2 * i + 1)) := by rw [hZ, upo (show (65 : Nat) ≠ 63 by decide), up_f, upo (show (65 : Nat) ≠ 64 by decide)]
      obtain ⟨N, c1, c2, c3⟩ := rdc_lp hg hx k n (i + 1) Z (by omega) (by omega) (hG.sr (fun c h => zo c (by omega) (by omega) (by omega))) (by rw [zo 14 (by decide) (by decide) (by decide)]; exact h14) (by rw [hZ, upj]; omega) (fun j h => by
        rw [z64, z65]
        by_cases z : j = i
        · rw [z, upf_e, upf_e]
          exact ⟨rfl, rfl⟩
        · rw [upf_n z, upf_n z]
          exact hj j (by omega))
      refine ⟨N, ?_, fun c h1 h2 h3 => by rw [c2 c h1 h2 h3, zo c h1 h2 h3], c3⟩
      rw [← c1]
      rw [show ((i : Int)).toNat = i by omega, upo (show (63 : Nat) ≠ 65 by decide), upo (show (63 : Nat) ≠ 64 by decide), h63, ← hZ]
      rfl
    · rw [decide_eq_false q, Bool.false_and, if_neg (show ¬ (false = true) by decide)]
      refine ⟨M, ?_, fun _ _ _ _ => rfl, fun h => by cases h⟩
      by_cases q1 : g 1 (2 * i) < 144
      · rw [if_pos ⟨b1.1, q1⟩, c_eq_p (by decide) (by decide), if_neg (by decide), c_lt_p (by omega) (by omega)]
        by_cases q2 : g 1 (2 * i + 1) < 1
        · rw [if_pos q2]
        · rw [if_neg q2, c_le_p (by omega) (by omega), if_neg (fun z => q ⟨q1, by omega, z⟩)]
      · rw [if_neg (fun z => q1 z.2), c_eq_p (by decide) (by decide), if_pos (by decide)]
theorem tk_s {l : List Int} {i : Nat} (h : i < l.length) : l.take (i + 1) = l.take i ++ [l.getD i 0] := by
  rw [List.take_add_one, List.getElem?_eq_getElem h, List.getD_eq_getElem?_getD, List.getElem?_eq_getElem h]
  rfl
theorem isO_lp {n : Nat} {l : List Int} {M : am_M} (hn : n ≤ 6) (hl : l.length = n) (hx : ∀ x, x ∈ l → 0 ≤ x ∧ x < n) (hM : ∀ j : Nat, j < n → M 121 j = l.getD j 0) : ∀ (k f i m : Nat), i + k = n → k < f → MK m (l.take i) → R_isOrder_4 f (n : Int) (m : Int) (i : Int) M = some (if fuB n l then 1 else 0)
  | 0, f + 1, i, m, e, hf, hm => by
    have hi : i = n := by omega
    subst hi
    rw [← hl, List.take_length] at hm
    have h1 := mk_full hm hn hx
    have h2 := hm.1
    have h3 : 1 ≤ 2 ^ i := Nat.one_le_two_pow
    have h4 : 2 ^ i ≤ 2 ^ 6 := Nat.pow_le_pow_right (by decide) hn
    have h4' : 2 ^ i ≤ 64 := h4
    unfold R_isOrder_4 R_isOrder_40
    rw [c_ge_p (by omega) (by omega), if_pos (by omega), shl_1 (by omega), c_ne_p (by omega) (by omega)]
    unfold fuB
    by_cases q : cn (meB l) i = i
    · have := h1.mpr q
      rw [if_neg (by omega), decide_eq_true q, ck_p (by decide)]
      rfl
    · have : m ≠ 2 ^ i - 1 := fun z => q (h1.mp z)
      rw [if_pos (by omega), decide_eq_false q, ck_p (by decide)]
      rfl
  | k + 1, f + 1, i, m, e, hf, hm => by
    have hb := gD_in (b := (n : Int)) (by omega) hx i
    have hm2 := hm.up (i := (l.getD i 0).toNat) (by omega)
    rw [show (((l.getD i 0).toNat : Nat) : Int) = l.getD i 0 by omega, ← tk_s (by omega)] at hm2
    have ih := isO_lp hn hl hx hM k f (i + 1) _ (by omega) (by omega) hm2
    have ho := (or_bit (m := m) (i := (l.getD i 0).toNat) hm.1 (by omega)).1
    rw [show (((l.getD i 0).toNat : Nat) : Int) = l.getD i 0 by omega] at ho
    unfold R_isOrder_4
    rw [c_ge_p (by omega) (by omega), if_neg (by omega), rd_p (by omega), show ((i : Int)).toNat = i by omega, hM i (by omega), ho, ← ih]
    rfl
theorem isOrder_eq {n : Nat} {l : List Int} {M : am_M} (hn : n ≤ 6) (hl : l.length = n) (hx : ∀ x, x ∈ l → 0 ≤ x ∧ x < n) (hM : ∀ j : Nat, j < n → M 121 j = l.getD j 0) : R_isOrder (n : Int) M = some (if fuB n l then 1 else 0) := isO_lp hn hl hx hM n am_big 0 0 (by omega) (by show _ < 1000000; omega) MK.nil
theorem sou_lp {n : Nat} {l : List Int} {g M : am_M} {c0 : Int} (hn : n ≤ 6) (hG : GR g M) (hl : l.length = n) (hx : ∀ x, x ∈ l → 0 ≤ x ∧ x < n) (hM : ∀ j : Nat, j < n → M 121 j = l.getD j 0) (h0 : 0 ≤ c0 ∧ c0 < 144) (hc : CW n (fun j => g 1 (2 * j)) (fun j => g 1 (2 * j + 1))) : ∀ (k f i : Nat), i + k = n → k < f → R_soughtBy_18 f (n : Int) (skF (fun j => g 1 (2 * j)) (fun j => g 1 (2 * j + 1)) (c0, 0, 0) (l.take i)).1 (skF (fun j => g 1 (2 * j)) (fun j => g 1 (2 * j + 1)) (c0, 0, 0) (l.take i)).2.1 (skF (fun j => g 1 (2 * j)) (fun j => g 1 (2 * j + 1)) (c0, 0, 0) (l.take i)).2.2 (i : Int) M = some (vaS (fun j => g 1 (2 * j)) (fun j => g 1 (2 * j + 1)) c0 l)
  | 0, f + 1, i, e, hf => by
    have hi : i = l.length := by omega
    unfold R_soughtBy_18
    rw [c_ge_p (by omega) (by omega), if_pos (by omega), hi, List.take_length]
    rfl
  | k + 1, f + 1, i, e, hf => by
    have ih := sou_lp hn hG hl hx hM h0 hc k f (i + 1) (by omega) (by omega)
    rw [tk_s (by omega), skF_app] at ih
    have hb := gD_in (b := (n : Int)) (by omega) hx i
    have hst := (skF_b hc (l.take i) 0 (c0, 0, 0) (by rw [List.length_take]; omega) (SKB.z h0) (fun x h => hx x (List.mem_of_mem_take h))).1
    obtain ⟨c1, c2⟩ := hc (l.getD i 0).toNat (by omega)
    have e1 : R_byteAt (2 * l.getD i 0) M = some (g 1 (2 * (l.getD i 0).toNat)) := by
      rw [R_byteAt_eq hG (by omega) (by omega), show (2 * l.getD i 0).toNat = 2 * (l.getD i 0).toNat by omega]
    have e2 : R_byteAt (2 * l.getD i 0 + 1) M = some (g 1 (2 * (l.getD i 0).toNat + 1)) := by
      rw [R_byteAt_eq hG (by omega) (by omega), show (2 * l.getD i 0 + 1).toNat = 2 * (l.getD i 0).toNat + 1 by omega]
    unfold R_soughtBy_18
    rw [c_ge_p (by omega) (by omega), if_neg (by omega), rd_p (by omega), show ((i : Int)).toNat = i by omega, hM i (by omega), e1, ob_s, R_stepsBetween_eq hst.1 c1, ob_s, rd_p (by omega), show ((i : Int)).toNat = i by omega, hM i (by omega), e1, ob_s, rd_p (by omega), show ((i : Int)).toNat = i by omega, hM i (by omega), e2, ob_s]
    exact ih
def anS (s : BS) (y : Int) : Int := if y = 10 then s.1 else (s.2.getD []).getD y.toNat 0
theorem rsk_lp {F : FT} {g t u : am_M} {n : Nat} {y : Int} (hW : PW F g t u) (hn : 1 ≤ n ∧ n ≤ 6) (hy : y = 10 ∨ (0 ≤ y ∧ y < n)) (hc : CW n (fun j => g 1 (2 * j)) (fun j => g 1 (2 * j + 1))) : ∀ (c f r : Nat) (s : BS) (M : am_M), r + c = n ^ n → c < f → PR F g t u M → (0 ≤ s.1 ∧ s.1 ≤ 1000000000) → (∀ l, s.2 = some l → ∀ j : Nat, j < n → M 122 j = l.getD j 0) → (∃ l, (foR n n (upB (fuB n) (vaS (fun j => g 1 (2 * j)) (fun j => g 1 (2 * j + 1)) (t 2 (t 0 2).toNat))) c r s).2 = some l) → ∃ N, R_seek_107 f (n : Int) y s.1 (r : Int) M = some (anS (foR n n (upB (fuB n) (vaS (fun j => g 1 (2 * j)) (fun j => g 1 (2 * j + 1)) (t 2 (t 0 2).toNat))) c r s) y, N) ∧ PR F g t u N
  | 0, f + 1, r, s, M, e, hf, hR, hs, hl, hfin => by
    have hp := pow_b (b := n) (n := n) hn.2 hn.2
    refine ⟨M, ?_, hR⟩
    unfold R_seek_107 R_seek_178
    rw [powerOf_eq hn.2, ob_s, c_ge_p (by omega) (by omega), if_pos (by omega), c_ne_p (by omega) (by omega)]
    obtain ⟨l, hl'⟩ := hfin
    have hl2 : s.2 = some l := hl'
    show _ = some (anS s y, M)
    unfold anS
    by_cases q : y = 10
    · rw [if_neg (fun h => h q), if_pos q]
    · rw [if_pos q, if_neg q, rd_p (by omega), hl l hl2 _ (by omega), hl2]
      rfl
  | c + 1, f + 1, r, s, M, e, hf, hR, hs, hl, hfin => by
    have hp := pow_b (b := n) (n := n) hn.2 hn.2
    have hlt := hW.2.1.1
    have ha := hW.2.1.at (p := t 0 2) (by omega) (by omega)
    obtain ⟨N1, a1, a2, a3⟩ := opensRow_eq (b := n) (n := n) (r := r) (by omega) hn.2 hn.2 (by omega) (M := M)
    have hR1 := hR.fa (N := N1) (fun k h => a3 k (by omega))
    have hdl := dg_len n n r
    have hdx := dg_in (b := n) (by omega) n r
    have io := isOrder_eq hn.2 hdl hdx a2
    have e47 : N1 73 47 = t 0 2 := hR1.2.1.1.2.2.1
    have e95 : N1 95 (t 0 2).toNat = t 2 (t 0 2).toNat := (hR1.2.1.2.1 (t 0 2).toNat (by omega)).1
    have so : R_soughtBy (n : Int) N1 = some (vaS (fun j => g 1 (2 * j)) (fun j => g 1 (2 * j + 1)) (t 2 (t 0 2).toNat) (dg n n r)) := by
      unfold R_soughtBy
      rw [e47, rd_p (by omega), e95]
      exact sou_lp hn.2 hR1.1 hdl hdx a2 (by omega) hc n am_big 0 (by omega) (by show _ < 1000000; omega)
    have hvb := (skF_b hc (dg n n r) 0 (t 2 (t 0 2).toNat, 0, 0) (by omega) (SKB.z (by omega)) hdx).1.2.2
    have hvb' : 0 ≤ vaS (fun j => g 1 (2 * j)) (fun j => g 1 (2 * j + 1)) (t 2 (t 0 2).toNat) (dg n n r) ∧ vaS (fun j => g 1 (2 * j)) (fun j => g 1 (2 * j + 1)) (t 2 (t 0 2).toNat) (dg n n r) ≤ 1188 * ((0 + (dg n n r).length : Nat) : Int) := hvb
    have hl1 : ∀ l, s.2 = some l → ∀ j : Nat, j < n → N1 122 j = l.getD j 0 := fun l h j hj => by rw [a3 122 (by decide)]; exact hl l h j hj
    unfold foR at hfin ⊢
    unfold R_seek_107 R_seek_156
    rw [powerOf_eq hn.2, ob_s, c_ge_p (by omega) (by omega), if_neg (by omega), a1, ob_s, io, ob_s]
    have skip : upB (fuB n) (vaS (fun j => g 1 (2 * j)) (fun j => g 1 (2 * j + 1)) (t 2 (t 0 2).toNat)) s (dg n n r) = s → ∃ N, R_seek_107 f (n : Int) y s.1 ((r : Int) + 1) N1 = some (anS (foR n n (upB (fuB n) (vaS (fun j => g 1 (2 * j)) (fun j => g 1 (2 * j + 1)) (t 2 (t 0 2).toNat))) c (r + 1) (upB (fuB n) (vaS (fun j => g 1 (2 * j)) (fun j => g 1 (2 * j + 1)) (t 2 (t 0 2).toNat)) s (dg n n r))) y, N) ∧ PR F g t u N := by
      intro z
      rw [z] at hfin ⊢
      exact rsk_lp hW hn hy hc c f (r + 1) s N1 (by omega) (by omega) hR1 hs hl1 hfin
    by_cases q : fuB n (dg n n r) = true
    · rw [if_pos q, c_eq_p (by decide) (by decide), if_neg (by decide), so, ob_s, c_lt_p (by omega) (by omega)]
      by_cases q2 : vaS (fun j => g 1 (2 * j)) (fun j => g 1 (2 * j + 1)) (t 2 (t 0 2).toNat) (dg n n r) < s.1
      · obtain ⟨N2, b1, b2, b3⟩ := keepsRow_eq hn.2 (M := N1)
        have et : upB (fuB n) (vaS (fun j => g 1 (2 * j)) (fun j => g 1 (2 * j + 1)) (t 2 (t 0 2).toNat)) s (dg n n r) = (vaS (fun j => g 1 (2 * j)) (fun j => g 1 (2 * j + 1)) (t 2 (t 0 2).toNat) (dg n n r), some (dg n n r)) := if_pos ⟨q, q2⟩
        rw [if_pos q2, ob_s, b1, ob_s]
        rw [et] at hfin ⊢
        exact rsk_lp hW hn hy hc c f (r + 1) (vaS (fun j => g 1 (2 * j)) (fun j => g 1 (2 * j + 1)) (t 2 (t 0 2).toNat) (dg n n r), some (dg n n r)) N2 (by omega) (by omega) (hR1.fa (fun k h => b3 k (by omega))) ⟨hvb'.1, by show vaS _ _ _ _ ≤ _; omega⟩ (fun l h j hj => by cases h; rw [b2 j hj, a2 j hj]) hfin
      · rw [if_neg q2]
        exact skip (if_neg (fun h => q2 h.2))
    · rw [if_neg q, c_eq_p (by decide) (by decide), if_pos (by decide)]
      exact skip (if_neg (fun h => q h.1))
/-- the rows' best -/
def seV (n : Nat) (g : am_M) (c0 : Int) : BS := tr n (upB (fuB n) (vaS (fun j => g 1 (2 * j)) (fun j => g 1 (2 * j + 1)) c0)) n [] (1000000000, none)
theorem idr {n : Nat} (hn : 1 ≤ n ∧ n ≤ 6) : ∃ c : List Int, c.length = n ∧ (∀ x, x ∈ c → 0 ≤ x ∧ x < n) ∧ fuB n c = true := by
  rcases (show n = 1 ∨ n = 2 ∨ n = 3 ∨ n = 4 ∨ n = 5 ∨ n = 6 by omega) with q | q | q | q | q | q <;> subst q
  · exact ⟨[0], by decide, by decide, by decide⟩
  · exact ⟨[0, 1], by decide, by decide, by decide⟩
  · exact ⟨[0, 1, 2], by decide, by decide, by decide⟩
  · exact ⟨[0, 1, 2, 3], by decide, by decide, by decide⟩
  · exact ⟨[0, 1, 2, 3, 4], by decide, by decide, by decide⟩
  · exact ⟨[0, 1, 2, 3, 4, 5], by decide, by decide, by decide⟩
theorem seV_fo {n : Nat} {g : am_M} {c0 : Int} (hn : 1 ≤ n) : foR n n (upB (fuB n) (vaS (fun j => g 1 (2 * j)) (fun j => g 1 (2 * j + 1)) c0)) (n ^ n) 0 (1000000000, none) = seV n g c0 := by
  have h := foR_tr (b := n) (by omega) (upB (fuB n) (vaS (fun j => g 1 (2 * j)) (fun j => g 1 (2 * j + 1)) c0)) n 0 0 (1000000000, none)
  rw [Nat.zero_add, Nat.zero_mul] at h
  exact h
theorem seV_so {n : Nat} {g : am_M} {c0 : Int} (hn : 1 ≤ n ∧ n ≤ 6) (h0 : 0 ≤ c0 ∧ c0 < 144) (hc : CW n (fun j => g 1 (2 * j)) (fun j => g 1 (2 * j + 1))) : ∃ l, (seV n g c0).2 = some l ∧ (0 ≤ (seV n g c0).1 ∧ (seV n g c0).1 ≤ 1000000000) ∧ ∀ x, x ∈ l → 0 ≤ x ∧ x < n := by
  have h1 := foR_go (P := fuB n) (val := vaS (fun j => g 1 (2 * j)) (fun j => g 1 (2 * j + 1)) c0) (n := n) (b := n) (by omega) (m := 1000000000) (n ^ n) 0 (1000000000, none) (Or.inl rfl)
  rw [seV_fo hn.1] at h1
  obtain ⟨c, c1, c2, c3⟩ := idr hn
  have h2 := tr_at (b := n) (P := fuB n) (val := vaS (fun j => g 1 (2 * j)) (fun j => g 1 (2 * j + 1)) c0) n [] c (1000000000, none) c1 c2 c3
  have hb : ∀ l : List Int, l.length = n → (∀ x, x ∈ l → 0 ≤ x ∧ x < n) → 0 ≤ vaS (fun j => g 1 (2 * j)) (fun j => g 1 (2 * j + 1)) c0 l ∧ vaS (fun j => g 1 (2 * j)) (fun j => g 1 (2 * j + 1)) c0 l ≤ 7128 := by
    intro l hl hx
    have h : 0 ≤ vaS (fun j => g 1 (2 * j)) (fun j => g 1 (2 * j + 1)) c0 l ∧ vaS (fun j => g 1 (2 * j)) (fun j => g 1 (2 * j + 1)) c0 l ≤ 1188 * ((0 + l.length : Nat) : Int) := (skF_b hc l 0 (c0, 0, 0) (by omega) (SKB.z h0) hx).1.2.2
    omega
  have h3 : (seV n g c0).1 ≤ vaS (fun j => g 1 (2 * j)) (fun j => g 1 (2 * j + 1)) c0 c := h2
  have h4 := hb c c1 c2
  rcases h1 with z | ⟨l, z1, z2, z3, z4⟩
  · rw [z] at h3
    have : (1000000000 : Int) ≤ vaS (fun j => g 1 (2 * j)) (fun j => g 1 (2 * j + 1)) c0 c := h3
    omega
  · have h5 := hb l z3 z4
    exact ⟨l, by rw [z1], by rw [z1]; exact ⟨h5.1, by show vaS _ _ _ _ ≤ _; omega⟩, z4⟩
theorem P_seek_65_eq {g t M : am_M} {n : Nat} {y : Int} (hw : WT t) (hT : TP 26 t M) (hn : 1 ≤ n ∧ n ≤ 6) (hy : y = 10 ∨ (0 ≤ y ∧ y < n)) (hc : CW n (fun j => g 1 (2 * j)) (fun j => g 1 (2 * j + 1))) (hX : CX n (fun j => g 1 (2 * j)) (fun j => g 1 (2 * j + 1)) M) : ∃ N, P_seek_65 y M = some (anS (seV n g (t 2 (t 0 2).toNat)) y, N) ∧ (∀ k, k ≠ 63 → k ≠ 66 → k ≠ 67 → N k = M k) := by
  have hl := hw.1
  have ha := hw.at (p := t 0 2) (by omega) (by omega)
  have ec : ceS t (t 0 2) = t 2 (t 0 2).toNat := if_pos (by omega)
  have e11 : M 26 11 = t 0 2 := hT.1.2.2.1
  obtain ⟨N, a1, a2, a3, a4⟩ := goOn_eq (n := n) (c0 := t 2 (t 0 2).toNat) hn.2 hc (by omega) n 40 [] 0 (1000000000, none) (am_up M 63 5 1000000000) (by rw [List.length_nil]; omega) (by omega) MK.nil (cn_0 n (fun j _ => by unfold meB; simp)) (fun x hx => by cases hx) (by unfold CX at hX ⊢; rw [upx (by decide), upo (by decide), upo (by decide)]; exact hX) (fun j hj => by rw [List.length_nil] at hj; omega) ⟨⟨upj, by decide, by decide⟩, fun l h => by cases h⟩
  have a1' : K_Search_goOn 0 0 (t 2 (t 0 2).toNat) 0 0 (am_up M 63 5 1000000000) = some N := a1
  have a2' : SB n N (seV n g (t 2 (t 0 2).toNat)) := a2
  obtain ⟨l, l1, l2, l3⟩ := seV_so hn (c0 := t 2 (t 0 2).toNat) (by omega) hc
  refine ⟨N, ?_, fun k h1 h2 h3 => by rw [a3.1 k h1 h2 h3, upo h1]⟩
  unfold P_seek_65 P_seek_110 Search_findBest_63 anS
  rw [e11, Trip_cellAt_26_eq hw hT (by omega), ob_s, ec, fw_p, a1', ob_s, ob_s, c_ne_p (by omega) (by omega)]
  by_cases q : y = 10
  · rw [if_neg (fun h => h q), if_pos q, a2'.1.1]
  · have e2 : N 63 2 = n := by rw [a3.2 2 (by decide), upx (by decide)]; exact hX.1
    rw [if_pos q, if_neg q, l1]
    unfold Search_whichAt_63 Search_whichAt_63_28
    rw [c_lt_p (by omega) (by omega), if_neg (by omega), e2, c_ge_p (by omega) (by omega), if_neg (by omega), c_ge_p (by omega) (by omega), if_neg (by omega), rd_p (by omega), a2'.2 l l1 _ (by omega), ob_s]
    rfl
theorem rsk_31 {F : FT} {g t u : am_M} {n : Nat} {y : Int} (hW : PW F g t u) (hn : 1 ≤ n ∧ n ≤ 6) (hy : am_R y) : ∀ (k f i : Nat) (M : am_M), i + k = n → k < f → PR F g t u M → (∀ j, j < i → okP g j) → ∃ N, R_seek_31 f (n : Int) y (i : Int) M = some (if okS g k i then (if y = 10 ∨ (0 ≤ y ∧ y < n) then anS (seV n g (t 2 (t 0 2).toNat)) y else -4) else -2, N) ∧ PR F g t u N
  | 0, f + 1, i, M, e, hf, hR, hj => by
    have hl := hW.2.1.1
    have ha := hW.2.1.at (p := t 0 2) (by omega) (by omega)
    have hc : CW n (fun j => g 1 (2 * j)) (fun j => g 1 (2 * j + 1)) := fun j h => by
      have := hj j (by omega)
      have := hW.1.2.1 (2 * j) (by omega)
      dsimp only
      omega
    unfold R_seek_31 okS R_seek_100
    rw [c_ge_p (by omega) (by omega), if_pos (by omega), if_pos rfl, c_eq_p (by omega) (by omega)]
    have fin : (y = 10 ∨ (0 ≤ y ∧ y < n)) → ∃ N, R_seek_107 am_big (n : Int) y 1000000000 0 M = some (anS (seV n g (t 2 (t 0 2).toNat)) y, N) ∧ PR F g t u N := by
      intro hy2
      obtain ⟨l, l1, l2, l3⟩ := seV_so hn (c0 := t 2 (t 0 2).toNat) (by omega) hc
      have h := rsk_lp hW hn hy2 hc (n ^ n) am_big 0 (1000000000, none) M (by omega) (by have := pow_b (b := n) (n := n) hn.2 hn.2; show _ < 1000000; omega) hR (by decide) (fun l h => by cases h) ⟨l, by rw [seV_fo hn.1]; exact l1⟩
      rw [seV_fo hn.1] at h
      exact h
    by_cases q : y = 10
    · rw [if_pos q, if_pos (Or.inl q)]
      exact fin (Or.inl q)
    · rw [if_neg q, ck_p hy, ck_p (by omega), R_lies_eq hy (by decide) (by omega), ob_s]
      by_cases q2 : 0 ≤ y ∧ y < n
      · rw [if_pos (show 0 ≤ y ∧ y ≤ (n : Int) - 1 by omega), c_ne_p (by decide) (by decide), if_pos (by decide), if_pos (Or.inr q2)]
        exact fin (Or.inr q2)
      · rw [if_neg (show ¬ (0 ≤ y ∧ y ≤ (n : Int) - 1) by omega), c_ne_p (by decide) (by decide), if_neg (by decide), if_neg (fun h => by omega)]
        exact ⟨M, rfl, hR⟩
  | k + 1, f + 1, i, M, e, hf, hR, hj => by
    have b1 := hW.1.2.1 (2 * i) (by omega)
    have b2 := hW.1.2.1 (2 * i + 1) (by omega)
    have e1 : R_byteAt (2 * (i : Int)) M = some (g 1 (2 * i)) := by
      rw [R_byteAt_eq hR.1 (by omega) (by omega), show (2 * (i : Int)).toNat = 2 * i by omega]
    have e2 : R_byteAt (2 * (i : Int) + 1) M = some (g 1 (2 * i + 1)) := by
      rw [R_byteAt_eq hR.1 (by omega) (by omega), show (2 * (i : Int) + 1).toNat = 2 * i + 1 by omega]
    unfold R_seek_31 R_seek_69 okS
    rw [c_ge_p (by omega) (by omega), if_neg (by omega), e1, ob_s, R_isCell_eq (by omega), ob_s]
    by_cases q : okP g i
    · obtain ⟨N, a1, a2⟩ := rsk_31 hW hn hy k f (i + 1) M (by omega) (by omega) hR (fun j h => by
        by_cases z : j = i
        · rw [z]
          exact q
        · exact hj j (by omega))
      refine ⟨N, ?_, a2⟩
      rw [decide_eq_true q, Bool.true_and, if_pos (by omega), c_eq_p (by decide) (by decide), if_neg (by decide), e2, ob_s, ck_p (by omega), R_lies_eq (by omega) (by decide) (by decide), ob_s, if_pos (by omega), c_ne_p (by decide) (by decide), if_pos (by decide)]
      exact a1
    · refine ⟨M, ?_, hR⟩
      rw [decide_eq_false q, Bool.false_and, if_neg (show ¬ (false = true) by decide)]
      by_cases q1 : g 1 (2 * i) < 144
      · rw [if_pos (by omega), c_eq_p (by decide) (by decide), if_neg (by decide), e2, ob_s, ck_p (by omega), R_lies_eq (by omega) (by decide) (by decide), ob_s, if_neg (fun z => q ⟨q1, z.1, z.2⟩), c_ne_p (by decide) (by decide), if_neg (by decide)]
      · rw [if_neg (by omega), c_eq_p (by decide) (by decide), if_pos (by decide)]
theorem P_seek_ok {n : Nat} {x y : Int} (hx : am_R x) (hy : am_R y) : OK2 n (P_seek x y) (R_seek x y) := by
  refine OK2.of (lp := [14, 63, 64, 65, 66, 67]) (lr := [73, 121, 122]) (by decide) (by decide) (fun M r h => (P_seek_c x y M r h).mo (by decide)) (fun M r h => (R_seek_c x y M r h).mo (by decide)) (fun F g t u hW => ?_)
  have h1 := hW.1.1
  have hl := hW.2.1.1
  have ha := hW.2.1.at (p := t 0 2) (by omega) (by omega)
  by_cases hc : (1 ≤ x ∧ x ≤ 6) ∧ 2 * x ≤ g 0 0
  · have hex : ((x.toNat : Nat) : Int) = x := by omega
    have hW' := hW.tk
    have hcw : okS (tkS g) x.toNat 0 = true → CW x.toNat (fun j => tkS g 1 (2 * j)) (fun j => tkS g 1 (2 * j + 1)) := fun h j hj => by
      have := okS_at x.toNat 0 h j (by omega) (by omega)
      have := hW'.1.2.1 (2 * j) (by omega)
      dsimp only
      omega
    refine ⟨if okS (tkS g) x.toNat 0 then (if y = 10 ∨ (0 ≤ y ∧ y < x) then anS (seV x.toNat (tkS g) (t 2 (t 0 2).toNat)) y else -4) else -2, F, tkS g, t, u, ?_, hW', fun M hC => ?_, fun M hR => ?_⟩
    · by_cases q : okS (tkS g) x.toNat 0 = true
      · obtain ⟨l, l1, l2, l3⟩ := seV_so (n := x.toNat) (g := tkS g) (by omega) (c0 := t 2 (t 0 2).toNat) (by omega) (hcw q)
        rw [if_pos q]
        unfold anS
        rw [l1]
        have hgd := gD_in (b := ((x.toNat : Nat) : Int)) (by omega) l3 y.toNat
        by_cases q2 : y = 10 ∨ (0 ≤ y ∧ y < x)
        · rw [if_pos q2]
          by_cases q3 : y = 10
          · rw [if_pos q3]
            omega
          · rw [if_neg q3]
            show am_R (l.getD y.toNat 0)
            omega
        · rw [if_neg q2]
          decide
      · rw [if_neg q]
        decide
    · have h2 := hC.tk (v := 2 * x)
      obtain ⟨M1, hM1⟩ : ∃ M1, M1 = am_up (am_up M 14 2 (2 * x)) 14 1 0 := ⟨_, rfl⟩
      rw [← hM1] at h2
      have e14 : M1 14 2 = 2 * ((x.toNat : Nat) : Int) := by rw [hM1, upx (by decide), upj, hex]
      obtain ⟨N1, a1, a2, a3⟩ := rdc_lp hW'.1 (x := x.toNat) (by omega) x.toNat am_big 0 (am_up M1 63 2 0) (by omega) (by show _ < 1000000; omega) (h2.1.sr (fun c h => upo (by omega))) (by rw [upo (by decide)]; exact e14) upj (fun j hj => by omega)
      have f1 : ∀ c, c ≠ 63 → c ≠ 64 → c ≠ 65 → N1 c = M1 c := fun c z1 z2 z3 => by rw [a2 c z1 z2 z3, upo z1]
      have hC1 : PC F (tkS g) t u n N1 := h2.ge (fun c _ _ _ z1 z2 => f1 c (by omega) (by omega) (by omega))
      have er : Search_readCells_63 x M1 = some (if okS (tkS g) x.toNat 0 then 1 else 0, N1) := by
        unfold Search_readCells_63
        rw [fw_p, ← hex]
        exact a1
      unfold P_seek P_seek_62
      rw [c_lt_p (by omega) (by omega), if_neg (by omega), c_gt_p (by omega) (by omega), if_neg (by omega), Tape_take_eq hW.1 hC.1 (by omega) (by decide) (by decide), if_pos (by omega), oc_s, c_ne_p (by decide) (by decide), if_pos (by decide), ← hM1, er, oc_s]
      by_cases q : okS (tkS g) x.toNat 0 = true
      · rw [if_pos q, if_pos q, c_ne_p (by decide) (by decide), if_pos (by decide), c_eq_p (by omega) (by omega)]
        have fin : (y = 10 ∨ (0 ≤ y ∧ y < x)) → ∃ M2, P_seek_65 y N1 = some (anS (seV x.toNat (tkS g) (t 2 (t 0 2).toNat)) y, M2) ∧ PC F (tkS g) t u (n + 1) M2 := fun hy2 => by
          obtain ⟨N, b1, b2⟩ := P_seek_65_eq (g := tkS g) (n := x.toNat) (y := y) hW.2.1 hC1.2.1 (by omega) (by omega) (hcw q) (a3 q)
          exact ⟨N, b1, (hC1.ge (fun c _ _ _ z1 z2 => b2 c (by omega) (by omega) (by omega))).cg (fun _ _ => rfl) (by omega)⟩
        by_cases q2 : y = 10
        · rw [if_pos q2, if_pos (Or.inl q2)]
          exact fin (Or.inl q2)
        · rw [if_neg q2, c_lt_p (by omega) (by omega)]
          by_cases q3 : y < 0
          · rw [if_pos q3, if_neg (by omega)]
            exact ⟨N1, rfl, hC1.cg (fun _ _ => rfl) (by omega)⟩
          · rw [if_neg q3, c_lt_p (by omega) (by omega)]
            by_cases q4 : y < x
            · rw [if_pos q4, if_pos (Or.inr ⟨by omega, q4⟩)]
              exact fin (Or.inr ⟨by omega, q4⟩)
            · rw [if_neg q4, if_neg (by omega)]
              exact ⟨N1, rfl, hC1.cg (fun _ _ => rfl) (by omega)⟩
      · rw [if_neg q, if_neg q, c_ne_p (by decide) (by decide), if_neg (by decide)]
        exact ⟨N1, rfl, hC1.cg (fun _ _ => rfl) (by omega)⟩
    · have e : M 73 1 = g 0 0 := hR.1.1.1
      obtain ⟨N, a1, a2⟩ := rsk_31 (n := x.toNat) (y := y) hW' (by omega) hy x.toNat am_big 0 (am_up M 73 1 0) (by omega) (by show _ < 1000000; omega) hR.tk (fun j h => by omega)
      refine ⟨N, ?_, a2⟩
      rw [hex] at a1
      unfold R_seek
      rw [ck_p hx, R_lies_eq hx (by decide) (by decide), ob_s, if_pos hc.1, c_eq_p (by decide) (by decide), if_neg (by decide), e, c_le_p (by omega) (by omega), if_pos hc.2, fw_p]
      exact a1
  · refine ⟨-1, F, g, t, u, by decide, hW, fun M hC => ⟨M, ?_, hC.cg (fun _ _ => rfl) (by omega)⟩, fun M hR => ⟨M, ?_, hR⟩⟩
    · unfold P_seek P_seek_27
      by_cases q1 : x < 1
      · rw [c_lt_p (by omega) (by omega), if_pos q1]
      · rw [c_lt_p (by omega) (by omega), if_neg q1, c_gt_p (by omega) (by omega)]
        by_cases q2 : 6 < x
        · rw [if_pos q2]
        · rw [if_neg q2, Tape_take_eq hW.1 hC.1 (by omega) (by decide) (by decide), if_neg (by omega), oc_s, c_ne_p (by decide) (by decide), if_neg (by decide)]
    · have e : M 73 1 = g 0 0 := hR.1.1.1
      unfold R_seek R_seek_22
      rw [ck_p hx, R_lies_eq hx (by decide) (by decide), ob_s]
      by_cases q1 : 1 ≤ x ∧ x ≤ 6
      · rw [if_pos q1, c_eq_p (by decide) (by decide), if_neg (by decide), e, c_le_p (by omega) (by omega), if_neg (fun h => hc ⟨q1, h⟩)]
      · rw [if_neg q1, c_eq_p (by decide) (by decide), if_pos (by decide)]
