-- byTurns: the reference
def XR (F : FT) (g t u : am_M) (b : Nat) (mem : Nat → Int) (M : am_M) : Prop := PR F g t u M ∧ ∀ k : Nat, k < b → M 120 k = mem k
def HF (M N : am_M) : Prop := ∀ c, 113 ≤ c → c ≠ 123 → N c = M c
theorem HF.tr {M N O : am_M} (a : HF M N) (b : HF N O) : HF M O := fun c h1 h2 => (b c h1 h2).trans (a c h1 h2)
theorem yo_85 {F : FT} {g t u : am_M} {b o : Nat} {mem : Nat → Int} {mo n sm tn : Int} {k35 : Int → Int → Int → Int → am_M → Option (Int × am_M)} {ti : Nat → Int} (hW : PW F g t u) (hm : MB g b mem mo) (hb : b ≤ 4) (ho : o < b) (hti : ∀ j : Nat, j < b → 0 ≤ ti j ∧ ti j ≤ 99) : ∀ (k f i : Nat) (M : am_M), i + k = b → k < f → XR F g t u b mem M → (∀ j : Nat, j < i → M 123 j = nxS F g t mem ti o j) → (∀ j : Nat, i ≤ j → j < b → M 123 j = ti j) → ∃ N, R_yardsOf_85 k35 f n (b : Int) sm tn (o : Int) (i : Int) M = k35 n (b : Int) sm (tn + 1) N ∧ (∀ j : Nat, j < b → N 123 j = nxS F g t mem ti o j) ∧ XR F g t u b mem N ∧ HF M N
  | 0, f + 1, i, M, e, hf, hX, h1, h2 => by
    refine ⟨M, ?_, fun j hj => h1 j (by omega), hX, fun _ _ _ => rfl⟩
    unfold R_yardsOf_85
    rw [c_ge_p (by omega) (by omega), if_pos (by omega)]
  | k + 1, f + 1, i, M, e, hf, hX, h1, h2 => by
    have hF := hW.2.2.2.2
    have hmi := (hm.2 i (by omega)).1
    have ht := hti i (by omega)
    have e123 := h2 i (by omega) (by omega)
    have e120 := hX.2 i (by omega)
    have ei : ((i : Int)).toNat = i := by omega
    have fin : ∀ (N1 : am_M) (v : Int), LG M N1 → v = ti i + dN F g t mem o i (ti i) → ∃ N, R_yardsOf_160 k35 (R_yardsOf_85 k35 f) n (b : Int) sm tn (o : Int) (i : Int) (i : Int) v N1 = k35 n (b : Int) sm (tn + 1) N ∧ (∀ j : Nat, j < b → N 123 j = nxS F g t mem ti o j) ∧ XR F g t u b mem N ∧ HF M N := by
      intro N1 v f1 hv
      have hd := dN_b hF g t mem o i (ti i)
      have f2 : HF M (am_up N1 123 i (hd0 v)) := fun c h1 h2 => by rw [upo h2, f1.1 c (by omega) (by omega) (by omega)]
      obtain ⟨N, b1, b2, b3, b4⟩ := yo_85 (n := n) (sm := sm) (tn := tn) (k35 := k35) hW hm hb ho hti k f (i + 1) (am_up N1 123 i (hd0 v)) (by omega) (by omega) ⟨(hX.1.lg f1).fa (fun c h => upo (by omega)), fun k hk => by rw [f2 120 (by decide) (by decide)]; exact hX.2 k hk⟩ (fun j hj => by
        by_cases z : j = i
        · rw [z, upj, hv]
          rfl
        · rw [upx z, f1.1 123 (by decide) (by decide) (by decide)]
          exact h1 j (by omega)) (fun j hj hj2 => by
        rw [upx (by omega), f1.1 123 (by decide) (by decide) (by decide)]
        exact h2 j (by omega) hj2)
      refine ⟨N, ?_, b2, b3, f2.tr b4⟩
      unfold R_yardsOf_160
      rw [R_hd0 (by omega), ob_s, wa_p (by omega), ei]
      exact b1
    unfold R_yardsOf_85
    rw [c_ge_p (by omega) (by omega), if_neg (by omega), c_ne_p (by omega) (by omega)]
    by_cases z : i = o
    · obtain ⟨N1, a1, a2⟩ := R_tiring_eq (k := 2) (p := mem i) (q := ti i) hF hX.1.2.2.2 hW.1 hW.2.1 hX.1.1 hX.1.2.1 (by decide) hmi.1 hmi.2 (by omega)
      rw [if_neg (by omega), rd_p (by omega), ei, e123, rd_p (by omega), ei, e120, rd_p (by omega), ei, e123, a1, oc_s]
      exact fin N1 _ a2 (by unfold dN; rw [if_pos z]; rfl)
    · obtain ⟨N1, a1, a2⟩ := R_resting_eq (p := mem i) (q := ti i) hF hX.1.2.2.2 hW.1 hW.2.1 hX.1.1 hX.1.2.1 hmi.1 hmi.2 (by omega)
      rw [if_pos (by omega), rd_p (by omega), ei, e123, rd_p (by omega), ei, e120, rd_p (by omega), ei, e123, a1, oc_s]
      exact fin N1 _ a2 (by unfold dN; rw [if_neg z]; rfl)
theorem yo_35 {F : FT} {g t u : am_M} {b n : Nat} {mem : Nat → Int} {mo : Int} {st0 : TS} {l : List Int} (hW : PW F g t u) (hm : MB g b mem mo) (hb : b ≤ 4) (hn : n ≤ 6) (h0 : TSB b 0 st0) (hl : l.length = n) (hx : ∀ x, x ∈ l → 0 ≤ x ∧ x < b) : ∀ (k f i : Nat) (M : am_M), i + k = n → k < f → XR F g t u b mem M → (∀ j : Nat, j < n → M 121 j = l.getD j 0) → (∀ j : Nat, j < b → M 123 j = (tuF F g t mem st0 (l.take i)).1 j) → ∃ N, R_yardsOf_35 f (n : Int) (b : Int) (tuF F g t mem st0 (l.take i)).2 (i : Int) M = some ((tuF F g t mem st0 l).2, N) ∧ XR F g t u b mem N ∧ HF M N
  | 0, f + 1, i, M, e, hf, hX, h1, h2 => by
    have hi : i = l.length := by omega
    refine ⟨M, ?_, hX, fun _ _ _ => rfl⟩
    unfold R_yardsOf_35
    rw [c_ge_p (by omega) (by omega), if_pos (by omega), hi, List.take_length]
  | k + 1, f + 1, i, M, e, hf, hX, h1, h2 => by
    have hst := (tuF_b (F := F) (t := t) hW.1 hm (l.take i) 0 st0 h0 (fun x h => hx x (List.mem_of_mem_take h))).1
    have hgd : 0 ≤ l.getD i 0 ∧ l.getD i 0 < b := by
      rw [List.getD_eq_getElem?_getD, List.getElem?_eq_getElem (show i < l.length by omega)]
      exact hx _ (List.getElem_mem _)
    have hmi := hm.2 (l.getD i 0).toNat (by omega)
    have ht := hst.1 (l.getD i 0).toNat (by omega)
    have hga := hW.1.2.2.2 (mem (l.getD i 0).toNat).toNat (by omega)
    have e92 := (hX.1.1.2.2.2 (mem (l.getD i 0).toNat).toNat (by omega)).1
    have eo : (((l.getD i 0).toNat : Nat) : Int) = l.getD i 0 := by omega
    have ei : ((i : Int)).toNat = i := by omega
    have esk : tuF F g t mem st0 (l.take (i + 1)) = tu1 F g t mem (tuF F g t mem st0 (l.take i)) (l.getD i 0) := by
      rw [tk_s (by omega), tuF_app]
      rfl
    obtain ⟨N1, a1, a2, a3, a4⟩ := yo_85 (n := (n : Int)) (sm := (tuF F g t mem st0 (l.take (i + 1))).2) (tn := (i : Int)) (k35 := R_yardsOf_35 f) (o := (l.getD i 0).toNat) hW hm hb (by omega) hst.1 b am_big 0 M (by omega) (by show _ < 1000000; omega) hX (fun j hj => by omega) (fun j _ hj => h2 j hj)
    obtain ⟨N2, b1, b2, b3⟩ := yo_35 hW hm hb hn h0 hl hx k f (i + 1) N1 (by omega) (by omega) a3 (fun j hj => by rw [a4 121 (by decide) (by decide)]; exact h1 j hj) (fun j hj => by rw [esk]; exact a2 j hj)
    refine ⟨N2, ?_, b2, a4.tr b3⟩
    rw [eo] at a1
    unfold R_yardsOf_35
    rw [c_ge_p (by omega) (by omega), if_neg (by omega), rd_p (by omega), ei, h1 i (by omega), rd_p (by omega), hX.2 _ (by omega), rd_p (by omega), e92, rd_p (by omega), h2 _ (by omega), R_mx0 (by omega) (by omega), ob_s]
    have es : (tuF F g t mem st0 (l.take i)).2 + mx0 (10 * g 3 (mem (l.getD i 0).toNat).toNat - (tuF F g t mem st0 (l.take i)).1 (l.getD i 0).toNat) = (tuF F g t mem st0 (l.take (i + 1))).2 := by
      rw [esk]
      rfl
    rw [es]
    show R_yardsOf_85 (R_yardsOf_35 f) am_big (n : Int) (b : Int) (tuF F g t mem st0 (l.take (i + 1))).2 (i : Int) (l.getD i 0) ((0 : Nat) : Int) M = _
    rw [a1, ← b1]
    rfl
theorem yo_2 {F : FT} {g t u : am_M} {b n : Nat} {mem : Nat → Int} {mo : Int} {l : List Int} (hW : PW F g t u) (hm : MB g b mem mo) (hb : b ≤ 4) (hn : n ≤ 6) (h0 : TSB b 0 (fun k => t 1 (mem k).toNat, (0 : Int))) (hl : l.length = n) (hx : ∀ x, x ∈ l → 0 ≤ x ∧ x < b) : ∀ (k f i : Nat) (M : am_M), i + k = b → k < f → XR F g t u b mem M → (∀ j : Nat, j < n → M 121 j = l.getD j 0) → (∀ j : Nat, j < i → M 123 j = t 1 (mem j).toNat) → ∃ N, R_yardsOf_2 f (n : Int) (b : Int) (i : Int) M = some ((tuF F g t mem (fun k => t 1 (mem k).toNat, 0) l).2, N) ∧ XR F g t u b mem N ∧ HF M N
  | 0, f + 1, i, M, e, hf, hX, h1, h2 => by
    obtain ⟨N, a1, a2, a3⟩ := yo_35 hW hm hb hn h0 hl hx n am_big 0 M (by omega) (by show _ < 1000000; omega) hX h1 (fun j hj => h2 j (by omega))
    refine ⟨N, ?_, a2, a3⟩
    unfold R_yardsOf_2
    rw [c_ge_p (by omega) (by omega), if_pos (by omega)]
    exact a1
  | k + 1, f + 1, i, M, e, hf, hX, h1, h2 => by
    have hmi := (hm.2 i (by omega)).1
    have e93 := hX.1.2.1.2.2.1 (mem i).toNat (by omega)
    have ei : ((i : Int)).toNat = i := by omega
    have f2 : HF M (am_up M 123 i (t 1 (mem i).toNat)) := fun c h1 h2 => upo h2
    obtain ⟨N, a1, a2, a3⟩ := yo_2 hW hm hb hn h0 hl hx k f (i + 1) (am_up M 123 i (t 1 (mem i).toNat)) (by omega) (by omega) ⟨hX.1.fa (fun c h => upo (by omega)), fun k hk => by rw [upo (by decide)]; exact hX.2 k hk⟩ (fun j hj => by rw [upo (by decide)]; exact h1 j hj) (fun j hj => by
      by_cases z : j = i
      · rw [z, upj]
      · rw [upx z]
        exact h2 j (by omega))
    refine ⟨N, ?_, a2, f2.tr a3⟩
    unfold R_yardsOf_2
    rw [c_ge_p (by omega) (by omega), if_neg (by omega), rd_p (by omega), ei, hX.2 i (by omega), rd_p (by omega), e93, wa_p (by omega), ei, ← a1]
    rfl
def byA (mem : Nat → Int) (s : BS) (y : Int) : Int := if y = 10 then -s.1 else mem ((s.2.getD []).getD y.toNat 0).toNat
theorem rby_lp {F : FT} {g t u : am_M} {b n : Nat} {mem : Nat → Int} {mo y : Int} (hW : PW F g t u) (hm : MB g b mem mo) (hb1 : 1 ≤ b) (hb : b ≤ 4) (hn : 1 ≤ n ∧ n ≤ 6) (h0 : TSB b 0 (fun k => t 1 (mem k).toNat, (0 : Int))) (hy : y = 10 ∨ (0 ≤ y ∧ y < n)) : ∀ (c f r : Nat) (s : BS) (M : am_M), r + c = b ^ n → c < f → XR F g t u b mem M → (-1000 ≤ s.1 ∧ s.1 ≤ 1) → (∀ l, s.2 = some l → ∀ j : Nat, j < n → M 122 j = l.getD j 0) → (∃ l, (foR b n (upB ttB (yaS F g t mem (fun k => t 1 (mem k).toNat, 0))) c r s).2 = some l ∧ ∀ x, x ∈ l → 0 ≤ x ∧ x < b) → ∃ N, R_byTurns_120 f (n : Int) y (b : Int) (-s.1) (r : Int) M = some (byA mem (foR b n (upB ttB (yaS F g t mem (fun k => t 1 (mem k).toNat, 0))) c r s) y, N) ∧ PR F g t u N
  | 0, f + 1, r, s, M, e, hf, hX, hs, hl, hfin => by
    have hp := pow_b (b := b) (n := n) (by omega) hn.2
    refine ⟨M, ?_, hX.1⟩
    unfold R_byTurns_120 R_byTurns_196
    rw [powerOf_eq hn.2, ob_s, c_ge_p (by omega) (by omega), if_pos (by omega), c_ne_p (by omega) (by omega)]
    obtain ⟨l, hl', hl3⟩ := hfin
    have hl2 : s.2 = some l := hl'
    show _ = some (byA mem s y, M)
    unfold byA
    by_cases q : y = 10
    · rw [if_neg (fun h => h q), if_pos q]
    · have hgd := gD_in (b := (b : Int)) (by omega) hl3 y.toNat
      rw [if_pos q, if_neg q, rd_p (by omega), hl l hl2 _ (by omega), hl2, rd_p (by omega), hX.2 _ (by omega)]
      rfl
  | c + 1, f + 1, r, s, M, e, hf, hX, hs, hl, hfin => by
    have hp := pow_b (b := b) (n := n) (by omega) hn.2
    obtain ⟨N1, a1, a2, a3⟩ := opensRow_eq (b := b) (n := n) (r := r) (by omega) (by omega) hn.2 (by omega) (M := M)
    have hdl := dg_len b n r
    have hdx := dg_in (b := b) (by omega) n r
    have hX1 : XR F g t u b mem N1 := ⟨hX.1.fa (fun k h => a3 k (by omega)), fun k hk => by rw [a3 120 (by decide)]; exact hX.2 k hk⟩
    obtain ⟨N2, b1, b2, b3⟩ := yo_2 hW hm hb hn.2 h0 hdl hdx b am_big 0 N1 (by omega) (by show _ < 1000000; omega) hX1 a2 (fun j hj => by omega)
    have b1' : R_yardsOf (n : Int) (b : Int) N1 = some ((tuF F g t mem (fun k => t 1 (mem k).toNat, 0) (dg b n r)).2, N2) := b1
    have hyb := (tuF_b (F := F) (t := t) hW.1 hm (dg b n r) 0 (fun k => t 1 (mem k).toNat, (0 : Int)) h0 hdx).1.2
    rw [Nat.zero_add, hdl] at hyb
    unfold foR at hfin ⊢
    unfold R_byTurns_120 R_byTurns_168
    rw [powerOf_eq hn.2, ob_s, c_ge_p (by omega) (by omega), if_neg (by omega), a1, ob_s, b1', oc_s, c_gt_p (by omega) (by omega)]
    have ev : yaS F g t mem (fun k => t 1 (mem k).toNat, 0) (dg b n r) = -(tuF F g t mem (fun k => t 1 (mem k).toNat, 0) (dg b n r)).2 := rfl
    by_cases q : -s.1 < (tuF F g t mem (fun k => t 1 (mem k).toNat, 0) (dg b n r)).2
    · obtain ⟨N3, c1, c2, c3⟩ := keepsRow_eq hn.2 (M := N2)
      have et : upB ttB (yaS F g t mem (fun k => t 1 (mem k).toNat, 0)) s (dg b n r) = (-(tuF F g t mem (fun k => t 1 (mem k).toNat, 0) (dg b n r)).2, some (dg b n r)) := if_pos ⟨rfl, by rw [ev]; omega⟩
      rw [if_pos q, c1, ob_s]
      rw [et] at hfin ⊢
      have h := rby_lp hW hm hb1 hb hn h0 hy c f (r + 1) (-(tuF F g t mem (fun k => t 1 (mem k).toNat, 0) (dg b n r)).2, some (dg b n r)) N3 (by omega) (by omega) ⟨b2.1.fa (fun k h => c3 k (by omega)), fun k hk => by rw [c3 120 (by decide)]; exact b2.2 k hk⟩ ⟨by show -1000 ≤ -(tuF F g t mem (fun k => t 1 (mem k).toNat, 0) (dg b n r)).2; omega, by show -(tuF F g t mem (fun k => t 1 (mem k).toNat, 0) (dg b n r)).2 ≤ 1; omega⟩ (fun l h j hj => by cases h; rw [c2 j hj, b3 121 (by decide) (by decide), a2 j hj]) hfin
      rw [show -(-(tuF F g t mem (fun k => t 1 (mem k).toNat, 0) (dg b n r)).2, some (dg b n r)).1 = (tuF F g t mem (fun k => t 1 (mem k).toNat, 0) (dg b n r)).2 from Int.neg_neg _] at h
      exact h
    · have et : upB ttB (yaS F g t mem (fun k => t 1 (mem k).toNat, 0)) s (dg b n r) = s := if_neg (fun h => by have h2 := h.2; rw [ev] at h2; omega)
      rw [if_neg q]
      rw [et] at hfin ⊢
      exact rby_lp hW hm hb1 hb hn h0 hy c f (r + 1) s N2 (by omega) (by omega) b2 hs (fun l h j hj => by rw [b3 122 (by decide) (by decide), a3 122 (by decide)]; exact hl l h j hj) hfin
theorem byV_fo {F : FT} {g t : am_M} {b n : Nat} {mem : Nat → Int} (hb : 1 ≤ b) : foR b n (upB ttB (yaS F g t mem (fun k => t 1 (mem k).toNat, 0))) (b ^ n) 0 (1, none) = byV F g t b n mem := by
  have h := foR_tr (b := b) (by omega) (upB ttB (yaS F g t mem (fun k => t 1 (mem k).toNat, 0))) n 0 0 (1, none)
  rw [Nat.zero_add, Nat.zero_mul] at h
  exact h
theorem byV_so {F : FT} {g t : am_M} {b n : Nat} {mem : Nat → Int} {mo : Int} (hg : WG g) (hm : MB g b mem mo) (hb : 1 ≤ b) (hn : n ≤ 6) (h0 : TSB b 0 (fun k => t 1 (mem k).toNat, (0 : Int))) : ∃ l, (byV F g t b n mem).2 = some l ∧ (-1000 ≤ (byV F g t b n mem).1 ∧ (byV F g t b n mem).1 ≤ 1) ∧ ∀ x, x ∈ l → 0 ≤ x ∧ x < b := by
  have h1 := foR_go (P := ttB) (val := yaS F g t mem (fun k => t 1 (mem k).toNat, 0)) (n := n) (b := b) (by omega) (m := 1) (b ^ n) 0 (1, none) (Or.inl rfl)
  rw [byV_fo hb] at h1
  have hbd : ∀ l : List Int, l.length = n → (∀ x, x ∈ l → 0 ≤ x ∧ x < b) → -540 ≤ yaS F g t mem (fun k => t 1 (mem k).toNat, 0) l ∧ yaS F g t mem (fun k => t 1 (mem k).toNat, 0) l ≤ 0 := by
    intro l hl hx
    have h := (tuF_b (F := F) (t := t) hg hm l 0 (fun k => t 1 (mem k).toNat, (0 : Int)) h0 hx).1.2
    rw [Nat.zero_add, hl] at h
    unfold yaS
    omega
  have h2 := tr_at (b := b) (P := ttB) (val := yaS F g t mem (fun k => t 1 (mem k).toNat, 0)) n [] (List.replicate n 0) (1, none) List.length_replicate (fun x hx => by have := List.eq_of_mem_replicate hx; omega) rfl
  have h3 : (byV F g t b n mem).1 ≤ yaS F g t mem (fun k => t 1 (mem k).toNat, 0) (List.replicate n 0) := h2
  have h4 := hbd (List.replicate n 0) List.length_replicate (fun x hx => by have := List.eq_of_mem_replicate hx; omega)
  rcases h1 with z | ⟨l, z1, z2, z3, z4⟩
  · rw [z] at h3
    have : (1 : Int) ≤ yaS F g t mem (fun k => t 1 (mem k).toNat, 0) (List.replicate n 0) := h3
    omega
  · have h5 := hbd l z3 z4
    exact ⟨l, by rw [z1], by rw [z1]; exact ⟨by show -1000 ≤ yaS F g t mem (fun k => t 1 (mem k).toNat, 0) l; omega, by show yaS F g t mem (fun k => t 1 (mem k).toNat, 0) l ≤ 1; omega⟩, z4⟩
theorem pm_1 {x : Nat} (h1 : 1 ≤ x) (h : x < 64) : 1 ≤ (pmS x 6 0).length := by
  have : ∀ y : Fin 64, y.val ≠ 0 → 1 ≤ (pmS y.val 6 0).length := by decide +kernel
  exact this ⟨x, h⟩ (by show x ≠ 0; omega)
abbrev byC (g : am_M) (x p y : Int) : Prop := (1 ≤ x ∧ x ≤ 6) ∧ (1 ≤ p ∧ p ≤ 63) ∧ (pmS p.toNat 6 0).length ≤ 4 ∧ b_and p (b_xor (tbS g 6 0 0) (-1)) = 0 ∧ (y = 10 ∨ (0 ≤ y ∧ y < x))
theorem cho_no {g M : am_M} {p : Int} (hg : WG g) (hG : GP g M) (hp : am_R p) (hc : ¬ ((1 ≤ p ∧ p ≤ 63) ∧ (pmS p.toNat 6 0).length ≤ 4 ∧ b_and p (b_xor (tbS g 6 0 0) (-1)) = 0)) : Shifts_choosePeople_57 p M = some (0, M) := by
  have htb := tbS_b g 6 0 0 (by omega) (by omega) (by omega)
  have hR := b_and_R p (b_xor (tbS g 6 0 0) (-1))
  unfold Shifts_choosePeople_57 Shifts_choosePeople_57_26
  rw [c_le_p (by omega) (by omega)]
  by_cases q1 : p ≤ 0
  · rw [if_pos q1]
  rw [if_neg q1, toldBits_eq hg hG, ob_s, c_ne_p hR (by decide)]
  by_cases q2 : b_and p (b_xor (tbS g 6 0 0) (-1)) = 0
  · have q3 : p ≤ 63 := by
      rcases Int.lt_or_le p 64 with z | z
      · omega
      · exfalso
        have h := big_no (m := p.toNat) (k := (tbS g 6 0 0).toNat) (by omega) (by omega) (by omega)
        rw [show ((p.toNat : Nat) : Int) = p by omega, show (((tbS g 6 0 0).toNat : Nat) : Int) = tbS g 6 0 0 by omega] at h
        exact h q2
    have hb := bc_eq (x := p.toNat) (by omega) (M := M)
    rw [show ((p.toNat : Nat) : Int) = p by omega] at hb
    have hle : (pmS p.toNat 6 0).length ≤ 6 := by
      have : ∀ y : Fin 64, (pmS y.val 6 0).length ≤ 6 := by decide +kernel
      exact this ⟨p.toNat, by omega⟩
    rw [if_neg (fun h => h q2), hb, ob_s, c_le_p (by omega) (by omega), if_neg (fun h => hc ⟨by omega, by omega, q2⟩)]
  · rw [if_pos q2]
theorem P_byTurns_no {F : FT} {g t u M : am_M} {n : Nat} {x p y : Int} (hW : PW F g t u) (hC : PC F g t u n M) (hx : am_R x) (hp : am_R p) (hy : am_R y) (hc : ¬ byC g x p y) : P_byTurns x p y M = some (-1, M) := by
  have h38 : (1 ≤ x ∧ x ≤ 6) → (y = 10 ∨ (0 ≤ y ∧ y < x)) → P_byTurns_38 x p y M = some (-1, M) := fun h1 h2 => by
    unfold P_byTurns_38 P_byTurns_49
    rw [cho_no hW.1 hC.1 hp (fun h => hc ⟨h1, h.1, h.2.1, h.2.2, h2⟩), oc_s, c_ne_p (by decide) (by decide), if_neg (by decide)]
  have h14 : ∀ s : Int, (s = 0 ∨ s = 1) → (s = 1 → 0 ≤ y ∧ y < x) → P_byTurns_14 x p y s M = some (-1, M) := fun s h0 h1 => by
    unfold P_byTurns_14 P_byTurns_49
    rw [c_lt_p (by omega) (by omega)]
    by_cases q1 : x < 1
    · rw [if_pos q1]
    rw [if_neg q1, c_gt_p (by omega) (by omega)]
    by_cases q2 : 6 < x
    · rw [if_pos q2]
    rw [if_neg q2, c_eq_p (by omega) (by omega)]
    by_cases q3 : y = 10
    · rw [if_pos q3]
      exact h38 (by omega) (Or.inl q3)
    rw [if_neg q3, c_eq_p (by omega) (by omega)]
    rcases h0 with z | z
    · rw [if_pos z]
    · rw [if_neg (by omega)]
      exact h38 (by omega) (Or.inr (h1 z))
  unfold P_byTurns P_byTurns_13
  rw [c_lt_p (by omega) (by omega)]
  by_cases q1 : y < 0
  · rw [if_pos q1]
    exact h14 0 (Or.inl rfl) (fun h => by omega)
  rw [if_neg q1, c_ge_p (by omega) (by omega)]
  by_cases q2 : x ≤ y
  · rw [if_pos q2]
    exact h14 0 (Or.inl rfl) (fun h => by omega)
  · rw [if_neg q2]
    exact h14 1 (Or.inr rfl) (fun _ => by omega)
theorem R_byTurns_no {F : FT} {g t u M : am_M} {x p y : Int} (hW : PW F g t u) (hR : PR F g t u M) (hx : am_R x) (hp : am_R p) (hy : am_R y) (hc : ¬ byC g x p y) : R_byTurns x p y M = some (-1, M) := by
  unfold R_byTurns R_byTurns_69
  rw [ck_p hx, R_lies_eq hx (by decide) (by decide), ob_s]
  by_cases q1 : 1 ≤ x ∧ x ≤ 6
  · rw [if_pos q1, c_eq_p (by decide) (by decide), if_neg (by decide), ck_p hp, R_lies_eq hp (by decide) (by decide), ob_s]
    by_cases q2 : 1 ≤ p ∧ p ≤ 63
    · have hs := sizeOf_eq (M := M) (x := p.toNat) (by omega)
      rw [show ((p.toNat : Nat) : Int) = p by omega] at hs
      have hle : (pmS p.toNat 6 0).length ≤ 6 := by
        have : ∀ y : Fin 64, (pmS y.val 6 0).length ≤ 6 := by decide +kernel
        exact this ⟨p.toNat, by omega⟩
      have h1 := pm_1 (x := p.toNat) (by omega) (by omega)
      rw [if_pos q2, c_eq_p (by decide) (by decide), if_neg (by decide), hs, ob_s, ck_p (by omega), R_lies_eq (by omega) (by decide) (by decide), ob_s]
      by_cases q3 : (pmS p.toNat 6 0).length ≤ 4
      · rw [if_pos (by omega), c_eq_p (by decide) (by decide), if_neg (by decide), toldPeople_eq hW.1 hR.1, ob_s, c_ne_p (b_and_R _ _) (by decide)]
        by_cases q4 : b_and p (b_xor (tbS g 6 0 0) (-1)) = 0
        · rw [if_neg (fun h => h q4), c_eq_p (by omega) (by omega), if_neg (fun h => hc ⟨q1, q2, q3, q4, Or.inl h⟩), ck_p hy, ck_p (by omega), R_lies_eq hy (by decide) (by omega), ob_s, if_neg (fun h => hc ⟨q1, q2, q3, q4, Or.inr (by omega)⟩), c_ne_p (by decide) (by decide), if_neg (by decide)]
        · rw [if_pos q4]
      · rw [if_neg (by omega), c_eq_p (by decide) (by decide), if_pos (by decide)]
    · rw [if_neg q2, c_eq_p (by decide) (by decide), if_pos (by decide)]
  · rw [if_neg q1, c_eq_p (by decide) (by decide), if_pos (by decide)]
theorem P_byTurns_ok {n : Nat} {x p y : Int} (hx : am_R x) (hp : am_R p) (hy : am_R y) : OK2 n (P_byTurns x p y) (R_byTurns x p y) := by
  refine OK2.of (lp := [12, 13, 57, 58, 59, 60, 61, 62]) (lr := [73, 90, 91, 120, 121, 122, 123]) (by decide) (by decide) (fun M r h => (P_byTurns_c x p y M r h).mo (by decide)) (fun M r h => (R_byTurns_c x p y M r h).mo (by decide)) (fun F g t u hW => ?_)
  by_cases hc : byC g x p y
  · obtain ⟨q1, q2, q3, q4, q5⟩ := hc
    have hep : ((p.toNat : Nat) : Int) = p := by omega
    have hex : ((x.toNat : Nat) : Int) = x := by omega
    have hl1 := pm_1 (x := p.toNat) (by omega) (by omega)
    have hmm : ∀ k : Nat, k < (pmS p.toNat 6 0).length → 0 ≤ (pmS p.toNat 6 0).getD k 0 ∧ (pmS p.toNat 6 0).getD k 0 < 6 := fun k hk => gD_in (b := 6) (by decide) (fun y hy => by have := pmS_in p.toNat 6 0 y hy; omega) k
    have hm : MB g (pmS p.toNat 6 0).length (fun k => (pmS p.toNat 6 0).getD k 0) 90 := ⟨by decide, fun k hk => ⟨hmm k hk, by have := hW.1.2.2.2 ((pmS p.toNat 6 0).getD k 0).toNat (by have := hmm k hk; omega); dsimp only; omega⟩⟩
    have h0 : TSB (pmS p.toNat 6 0).length 0 (fun k => t 1 ((fun k => (pmS p.toNat 6 0).getD k 0) k).toNat, (0 : Int)) := ⟨fun j hj => hW.2.1.2.2.1 _ (by have := hmm j hj; dsimp only; omega), Int.le_refl _, by show (0 : Int) ≤ 90 * ((0 : Nat) : Int); omega⟩
    obtain ⟨l, l1, l2, l3⟩ := byV_so (F := F) (n := x.toNat) hW.1 hm hl1 (by omega) h0
    refine ⟨byA (fun k => (pmS p.toNat 6 0).getD k 0) (byV F g t (pmS p.toNat 6 0).length x.toNat (fun k => (pmS p.toNat 6 0).getD k 0)) y, F, g, t, u, ?_, hW, fun M hC => ?_, fun M hR => ?_⟩
    · unfold byA
      rw [l1]
      have hgd := gD_in (b := (((pmS p.toNat 6 0).length : Nat) : Int)) (by omega) l3 y.toNat
      by_cases z : y = 10
      · rw [if_pos z]
        omega
      · rw [if_neg z]
        have := hmm (l.getD y.toNat 0).toNat (by omega)
        show am_R ((pmS p.toNat 6 0).getD (l.getD y.toNat 0).toNat 0)
        omega
    · have hb := bc_eq (x := p.toNat) (by omega) (M := M)
      rw [hep] at hb
      obtain ⟨M1, a1, a2, a3, a4⟩ := cho_lp (x := p.toNat) (by omega) 6 am_big 0 [] (am_up M 57 3 0) (by omega) (by decide) (by rw [List.nil_append]; exact q3) upj (fun j hj => by rw [List.length_nil] at hj; omega)
      rw [List.nil_append] at a2 a3
      rw [hep] at a1
      have ec : Shifts_choosePeople_57 p M = some (1, M1) := by
        unfold Shifts_choosePeople_57
        rw [c_le_p (by omega) (by omega), if_neg (by omega), toldBits_eq hW.1 hC.1, ob_s, c_ne_p (b_and_R _ _) (by decide), if_neg (fun h => h q4), hb, ob_s, c_le_p (by omega) (by omega), if_pos (by omega), fw_p]
        exact a1
      have hC1 : PC F g t u n M1 := hC.ge (fun c h1 h2 h3 h4 h5 => by rw [a4 c (by omega) (by omega), upo (by omega)])
      obtain ⟨N, b1, b2, b3, b4, b5, b6⟩ := findBest_eq (n := x.toNat) (b := (pmS p.toNat 6 0).length) (mem := fun k => (pmS p.toNat 6 0).getD k 0) hW q3 (by omega) hmm hC1 a2 a3
      rw [hex] at b1
      refine ⟨N, ?_, b6.cg (fun _ _ => rfl) (by omega)⟩
      have h38 : P_byTurns_38 x p y M = some (byA (fun k => (pmS p.toNat 6 0).getD k 0) (byV F g t (pmS p.toNat 6 0).length x.toNat (fun k => (pmS p.toNat 6 0).getD k 0)) y, N) := by
        unfold P_byTurns_38 P_byTurns_87 byA
        rw [ec, oc_s, c_ne_p (by decide) (by decide), if_pos (by decide), b1, ob_s, c_ne_p (by omega) (by omega)]
        by_cases z : y = 10
        · rw [if_neg (fun h => h z), if_pos z, b2.1.1]
        · have hgd := gD_in (b := (((pmS p.toNat 6 0).length : Nat) : Int)) (by omega) l3 y.toNat
          have e62 := b2.2 l l1 y.toNat (by omega)
          rw [if_pos z, if_neg z, l1]
          unfold Shifts_whoIn_57 Shifts_whoIn_57_32 Shifts_memberAt_57 Shifts_memberAt_57_19
          rw [c_lt_p (by omega) (by omega), if_neg (by omega), b4, c_ge_p (by omega) (by omega), if_neg (by omega), c_ge_p (by omega) (by omega), if_neg (by omega), rd_p (by omega), e62, c_lt_p (by omega) (by omega), if_neg (by omega), c_ge_p (by omega) (by omega), if_neg (by omega), rd_p (by omega), b5 _ (by omega), ob_s, ob_s]
          rfl
      have h14 : ∀ s : Int, (s = 0 ∨ s = 1) → (s = 0 → y = 10) → P_byTurns_14 x p y s M = P_byTurns_38 x p y M := fun s hs hs2 => by
        unfold P_byTurns_14
        rw [c_lt_p (by omega) (by omega), if_neg (by omega), c_gt_p (by omega) (by omega), if_neg (by omega), c_eq_p (by omega) (by omega)]
        by_cases z : y = 10
        · rw [if_pos z]
        · rw [if_neg z, c_eq_p (by omega) (by omega), if_neg (fun h => z (hs2 h))]
      rw [← h38]
      unfold P_byTurns P_byTurns_13
      rw [c_lt_p (by omega) (by omega)]
      by_cases z1 : y < 0
      · rw [if_pos z1]
        exact h14 0 (Or.inl rfl) (fun _ => by omega)
      rw [if_neg z1, c_ge_p (by omega) (by omega)]
      by_cases z2 : x ≤ y
      · rw [if_pos z2]
        exact h14 0 (Or.inl rfl) (fun _ => by omega)
      · rw [if_neg z2]
        exact h14 1 (Or.inr rfl) (fun h => by omega)
    · have hs := sizeOf_eq (M := M) (x := p.toNat) (by omega)
      rw [hep] at hs
      obtain ⟨M1, a1, a2, a3⟩ := rcho_lp (x := p.toNat) (n := x) (y := y) (by omega) 6 am_big 0 [] M (by omega) (by decide) (by rw [List.nil_append]; exact q3) (fun j hj => by rw [List.length_nil] at hj; omega)
      rw [List.nil_append] at a1 a2
      rw [hep] at a1
      have h := rby_lp (y := y) (n := x.toNat) (b := (pmS p.toNat 6 0).length) (mem := fun k => (pmS p.toNat 6 0).getD k 0) hW hm hl1 q3 (by omega) h0 (by omega) ((pmS p.toNat 6 0).length ^ x.toNat) am_big 0 (1, none) M1 (by omega) (by have := pow_b (b := (pmS p.toNat 6 0).length) (n := x.toNat) (by omega) (by omega); show _ < 1000000; omega) ⟨hR.fa (fun k h => a3 k (by omega)), a2⟩ (by decide) (fun l h => by cases h) ⟨l, by rw [byV_fo hl1]; exact l1, l3⟩
      rw [byV_fo hl1, hex] at h
      obtain ⟨N, c1, c2⟩ := h
      refine ⟨N, ?_, c2⟩
      have h71 : R_byTurns_71 x p y M = some (byA (fun k => (pmS p.toNat 6 0).getD k 0) (byV F g t (pmS p.toNat 6 0).length x.toNat (fun k => (pmS p.toNat 6 0).getD k 0)) y, N) := by
        rw [← c1]
        exact a1
      unfold R_byTurns
      rw [ck_p hx, R_lies_eq hx (by decide) (by decide), ob_s, if_pos q1, c_eq_p (by decide) (by decide), if_neg (by decide), ck_p hp, R_lies_eq hp (by decide) (by decide), ob_s, if_pos q2, c_eq_p (by decide) (by decide), if_neg (by decide), hs, ob_s, ck_p (by omega), R_lies_eq (by omega) (by decide) (by decide), ob_s, if_pos (by omega), c_eq_p (by decide) (by decide), if_neg (by decide), toldPeople_eq hW.1 hR.1, ob_s, c_ne_p (b_and_R _ _) (by decide), if_neg (fun h => h q4), c_eq_p (by omega) (by omega)]
      by_cases z : y = 10
      · rw [if_pos z]
        exact h71
      · rw [if_neg z, ck_p hy, ck_p (by omega), R_lies_eq hy (by decide) (by omega), ob_s, if_pos (by omega), c_ne_p (by decide) (by decide), if_pos (by decide)]
        exact h71
  · exact ⟨-1, F, g, t, u, by decide, hW, fun M hC => ⟨M, P_byTurns_no hW hC hx hp hy hc, hC.cg (fun _ _ => rfl) (by omega)⟩, fun M hR => ⟨M, R_byTurns_no hW hR hx hp hy hc, hR⟩⟩
