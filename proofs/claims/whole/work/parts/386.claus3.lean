-- all clauses of a law, read by both
def CLQ (X : Nat → SX → Prop) (B : Nat) (l f m t : Nat → Int) : Nat → List CLt → Prop
  | _, [] => True
  | i, c :: r => (CO c ∧ ∃ b : Nat, (l i = c.1 ∧ f i = b ∧ m i = ((b + c.2.1.1 : Nat) : Int) ∧ t i = ((b + c.2.1.1 + c.2.2.1 : Nat) : Int)) ∧ b + c.2.1.1 + c.2.2.1 ≤ B ∧ X b c.2.1 ∧ X (b + c.2.1.1) c.2.2) ∧ CLQ X B l f m t (i + 1) r
theorem CLQ.cg {X X' : Nat → SX → Prop} {B B' : Nat} {l f m t l' f' m' t' : Nat → Int} (hB : B ≤ B') (hX : ∀ b x, b + x.1 ≤ B → X b x → X' b x) : ∀ {L : List CLt} {i : Nat}, CLQ X B l f m t i L → (∀ j, i ≤ j → j < i + L.length → l' j = l j ∧ f' j = f j ∧ m' j = m j ∧ t' j = t j) → CLQ X' B' l' f' m' t' i L
  | [], _, _, _ => trivial
  | c :: r, i, ⟨⟨h1, b, ⟨a1, a2, a3, a4⟩, h2, h3, h4⟩, h5⟩, e => by
    have e0 := e i (Nat.le_refl _) (by rw [List.length_cons]; omega)
    exact ⟨⟨h1, b, ⟨by rw [e0.1]; exact a1, by rw [e0.2.1]; exact a2, by rw [e0.2.2.1]; exact a3, by rw [e0.2.2.2]; exact a4⟩, by omega, hX _ _ (by omega) h3, hX _ _ (by omega) h4⟩, CLQ.cg hB hX h5 (fun j j1 j2 => e j (by omega) (by rw [List.length_cons]; omega))⟩
theorem CLQ.sn {X : Nat → SX → Prop} {B : Nat} {l f m t : Nat → Int} {c : CLt} : ∀ {L : List CLt} {i : Nat}, CLQ X B l f m t i L → (CO c ∧ ∃ b : Nat, (l (i + L.length) = c.1 ∧ f (i + L.length) = b ∧ m (i + L.length) = ((b + c.2.1.1 : Nat) : Int) ∧ t (i + L.length) = ((b + c.2.1.1 + c.2.2.1 : Nat) : Int)) ∧ b + c.2.1.1 + c.2.2.1 ≤ B ∧ X b c.2.1 ∧ X (b + c.2.1.1) c.2.2) → CLQ X B l f m t i (L ++ [c])
  | [], _, _, h => ⟨h, trivial⟩
  | d :: r, i, ⟨h1, h5⟩, h => by
    have e : i + (d :: r).length = i + 1 + r.length := by rw [List.length_cons]; omega
    rw [e] at h
    exact ⟨h1, CLQ.sn h5 h⟩
theorem CLQ.lp {o p l f m t : Nat → Int} : ∀ {L : List CLt} {i : Nat}, CLQ (CE o p) 240 l f m t i L → CLP o p l f m t i L
  | [], _, _ => trivial
  | _ :: _, _, ⟨h, h5⟩ => ⟨h, CLQ.lp h5⟩
theorem CLQ.lr {o p l f m t : Nat → Int} : ∀ {L : List CLt} {i : Nat}, CLQ (REx o p) 240 l f m t i L → CLR o p l f m t i L
  | [], _, _ => trivial
  | _ :: _, _, ⟨h, h5⟩ => ⟨h, CLQ.lr h5⟩
def LPs (g : am_M) (n : Int) (L : List CLt) (p : Int) (M : am_M) : Prop := TX g n M ∧ ∃ s : Nat, VSt M p s 0 ∧ (s : Int) ≤ p ∧ s ≤ 240 ∧ M 17 7 = (L.length : Int) ∧ CLQ (CE (M 18) (M 19)) s (M 20) (M 21) (M 22) (M 23) 0 L
def LRs (g : am_M) (n : Int) (L : List CLt) (p : Int) (M : am_M) : Prop := GR g M ∧ ∃ t : Nat, (M 73 3 = p ∧ M 73 4 = n ∧ M 73 5 = 0 ∧ M 73 6 = (L.length : Int) ∧ M 73 7 = t) ∧ (t : Int) ≤ p ∧ CLQ (REx (M 87) (M 88)) t (M 83) (M 84) (M 85) (M 86) 0 L
theorem TX.lw {g M N : am_M} {n : Int} (h : TX g n M) (e : ∀ c, (c < 16 ∨ 23 < c) → N c = M c) : TX g n N := by
  refine ⟨?_, by rw [e 14 (by decide)]; exact h.2⟩
  have := h.1
  unfold GP at this ⊢
  rw [e 0 (by decide), e 1 (by decide), e 2 (by decide), e 4 (by decide), e 5 (by decide), e 14 (by decide), e 15 (by decide)]
  exact this
theorem sn_l {L : List CLt} {c : CLt} : (L ++ [c]).length = L.length + 1 := by
  rw [List.length_append]
  rfl
theorem LPs.cl {g M : am_M} {n p : Int} {L : List CLt} (hg : WG g) (hn : 1 ≤ n ∧ n ≤ 240) (hp : 0 ≤ p ∧ p ≤ n) (hL : L.length ≤ 16) (h : LPs g n L p M) : ∃ N, LawReader_readClause_16 M = some N ∧ (∀ c, (c < 16 ∨ 23 < c) → N c = M c) ∧ (((clF g n L.length p).1 < 0 ∧ -7000 ≤ (clF g n L.length p).1 ∧ ∃ (p' : Int) (s' : Nat), VSt N p' s' (clF g n L.length p).1) ∨ (∃ (p' : Int) (c : CLt), clF g n L.length p = (0, p', c) ∧ LPs g n (L ++ [c]) p' N)) := by
  obtain ⟨hX, s, hV, hs, hs2, h7, hC⟩ := h
  obtain ⟨N, a1, a2, p', s', bad, a3, a4⟩ := Pcl hg hn hp hs hX hV hL h7
  refine ⟨N, a1, a2.1, ?_⟩
  rcases a4 with ⟨z1, z2, z3⟩ | ⟨z1, z2, c, z3, z4, z5, z6, z7, z8, z9, z10, z11, z12, z13⟩
  · rw [z3]
    exact Or.inl ⟨z1, z2, p', s', a3⟩
  · refine Or.inr ⟨p', c, z3, hX.lw a2.1, s', by rw [← z1]; exact a3, z8, z9, by rw [sn_l]; exact z5, ?_⟩
    have hC' : CLQ (CE (N 18) (N 19)) s' (N 20) (N 21) (N 22) (N 23) 0 L := hC.cg (by omega) (fun b x hb hx => hx.cg (fun j j1 j2 => a2.2.1 j (by omega))) (fun j _ j2 => a2.2.2 j (by omega))
    refine hC'.sn ⟨z4, s, ?_, by omega, z10, z11⟩
    rw [Nat.zero_add]
    exact z6
theorem LRs.cl {g M : am_M} {n p : Int} {L : List CLt} (hg : WG g) (hn : 1 ≤ n ∧ n ≤ 240) (hp : 0 ≤ p ∧ p ≤ n) (hL : L.length ≤ 16) (h : LRs g n L p M) : ∃ N, R_clause M = some N ∧ RG 0 0 M N ∧ ((N 73 5 < 0 ∧ -7000 ≤ N 73 5 ∧ (clF g n L.length p).1 = N 73 5) ∨ (∃ (p' : Int) (c : CLt), clF g n L.length p = (0, p', c) ∧ LRs g n (L ++ [c]) p' N)) := by
  obtain ⟨hG, t, ⟨h3, h4, h5, h6, h7⟩, ht, hC⟩ := h
  obtain ⟨N, a1, a2, a4⟩ := Rcl hg hn hp ht hG h3 h4 h5 hL h6 h7
  refine ⟨N, a1, a2.lo (by omega) (by omega), ?_⟩
  rcases a4 with z | ⟨z2, p', c, z3, z4, z5, z6, z7, z8, z9, z10, z11⟩
  · exact Or.inl z
  · refine Or.inr ⟨p', c, z3, hG.rg a2, t + c.2.1.1 + c.2.2.1, ⟨z4, (a2.2.1 4 (by decide) (by decide) (by decide) (by decide)).trans h4, z5, by rw [sn_l]; exact z6, z7⟩, z8, ?_⟩
    have hC' : CLQ (REx (N 87) (N 88)) (t + c.2.1.1 + c.2.2.1) (N 83) (N 84) (N 85) (N 86) 0 L := hC.cg (by omega) (fun b x hb hx => hx.cg (fun j j1 j2 => a2.2.2.1 j (by omega))) (fun j _ j2 => a2.2.2.2 j (by omega))
    have hco : CO c := by
      rcases cl_s hg hn hp hL with w | ⟨_, p2, c2, w1, w2, _⟩
      · rw [z3] at w
        exact absurd w.1 (by dsimp only; omega)
      · rw [z3] at w1
        have : c = c2 := congrArg (fun r : Int × Int × CLt => r.2.2) w1
        rw [this]
        exact w2
    refine hC'.sn ⟨hco, t, ?_, Nat.le_refl _, z10, z11⟩
    rw [Nat.zero_add]
    exact z9
theorem LPs.p {g M : am_M} {n p : Int} {L : List CLt} (h : LPs g n L p M) : LPs g n L (p + 1) (am_up M 16 2 (p + 1)) := by
  obtain ⟨hX, s, hV, hs, hs2, h7, hC⟩ := h
  obtain ⟨v1, v2⟩ := hV.p (q := p + 1)
  refine ⟨hX.vg (v2 s), s, v1, by omega, hs2, by rw [upo (by decide)]; exact h7, ?_⟩
  rw [upo (by decide), upo (by decide), upo (by decide), upo (by decide), upo (by decide), upo (by decide)]
  exact hC
theorem LRs.p {g M : am_M} {n p : Int} {L : List CLt} (h : LRs g n L p M) : LRs g n L (p + 1) (am_up M 73 3 (p + 1)) := by
  obtain ⟨hG, t, ⟨h3, h4, h5, h6, h7⟩, ht, hC⟩ := h
  refine ⟨hG.o (by decide), t, ⟨upj, by rw [upx (by decide)]; exact h4, by rw [upx (by decide)]; exact h5, by rw [upx (by decide)]; exact h6, by rw [upx (by decide)]; exact h7⟩, by omega, ?_⟩
  rw [upo (by decide), upo (by decide), upo (by decide), upo (by decide), upo (by decide), upo (by decide)]
  exact hC
theorem r113_0 {M : am_M} {fu : Nat} : R_lawm_39 (fu + 1) 0 M = R_lawm_113 M := by
  rw [R_lawm_39, c_eq_p (by decide) (by decide), if_pos rfl]
theorem r113_b {M : am_M} {fu : Nat} (h : M 73 5 < 0 ∧ -7000 ≤ M 73 5) : R_lawm_39 (fu + 1) 1 M = R_lawm_113 M := by
  rw [R_lawm_39, c_eq_p (by decide) (by decide), if_neg (by decide), good_0 h.1 (by omega), ob_s, c_eq_p (by decide) (by decide), if_pos rfl]
theorem lw_lp {g : am_M} {n : Int} (hg : WG g) (hn : 1 ≤ n ∧ n ≤ 240) : ∀ (k : Nat) (p : Int) (L : List CLt), n - p ≤ k → 0 ≤ p ∧ p ≤ n → L.length ≤ 16 → (∀ c, c ∈ L → CO c) → ∃ (f : Int) (L' : List CLt), ((f < 0 ∧ -7000 ≤ f) ∨ (f = 0 ∧ L'.length ≤ 16 ∧ ∀ c, c ∈ L' → CO c)) ∧ (∀ (M : am_M) (fu : Nat) (x3 : Int), LPs g n L p M → 0 ≤ x3 ∧ x3 ≤ p → k + 1 < fu → ∃ N, (ob (LawReader_readClause_16 M) fun M5 => LawReader_readInto_16_5_28 fu x3 M5) = LawReader_readInto_16_5_77 N ∧ (∀ c, (c < 16 ∨ 23 < c) → N c = M c) ∧ N 16 3 = f ∧ (f = 0 → N 17 7 = (L'.length : Int) ∧ CLQ (CE (N 18) (N 19)) 240 (N 20) (N 21) (N 22) (N 23) 0 L')) ∧ (∀ (M : am_M) (fu : Nat), LRs g n L p M → k + 1 < fu → ∃ N, R_lawm_39 fu 1 M = R_lawm_113 N ∧ RG 0 0 M N ∧ N 73 5 = f ∧ (f = 0 → N 73 6 = (L'.length : Int) ∧ ∃ t : Nat, t ≤ 240 ∧ N 73 7 = t ∧ CLQ (REx (N 87) (N 88)) t (N 83) (N 84) (N 85) (N 86) 0 L'))
  | k, p, L, e, hp, hL, hLc => by
    have hcls := cl_s hg hn hp hL
    by_cases hb : (clF g n L.length p).1 < 0
    · have hb2 : -7000 ≤ (clF g n L.length p).1 := by
        rcases hcls with w | ⟨_, p', c, hc, _⟩
        · exact w.2
        · rw [hc] at hb
          exact absurd hb (by dsimp only; omega)
      refine ⟨(clF g n L.length p).1, [], Or.inl ⟨hb, hb2⟩, fun M fu x3 h hx hf => ?_, fun M fu h hf => ?_⟩
      · obtain ⟨N, a1, a2, a3⟩ := h.cl hg hn hp hL
        rcases a3 with ⟨z1, z2, p', s', z3⟩ | ⟨p', c, hc, _⟩
        · obtain ⟨fu, rfl⟩ : ∃ f', fu = f' + 1 := ⟨fu - 1, by omega⟩
          refine ⟨N, ?_, a2, z3.2.2.1, fun z => by omega⟩
          rw [a1, ob_s, LawReader_readInto_16_5_28]
          unfold LawReader_readInto_16_5_64
          rw [c_ge_p (by omega) (by decide), lhere_b z3 ⟨z1, z2⟩, ob_s, ob_s, c_ne_p (by decide) (by decide), if_pos (show ((-2 : Int) ≠ 59) by decide), c_eq_p (by decide) (by decide), if_neg (show ¬ ((-2 : Int) = -1) by decide), lfail_b z3 ⟨z1, z2⟩, ob_s]
          split <;> rfl
        · rw [hc] at hb
          exact absurd hb (by dsimp only; omega)
      · obtain ⟨N, a1, a2, a3⟩ := h.cl hg hn hp hL
        rcases a3 with ⟨z1, z2, z3⟩ | ⟨p', c, hc, _⟩
        · obtain ⟨fu, rfl⟩ : ∃ f', fu = f' + 1 + 1 := ⟨fu - 2, by omega⟩
          refine ⟨N, ?_, a2, z3.symm, fun z => by omega⟩
          rw [R_lawm_39, c_eq_p (by decide) (by decide), if_neg (by decide), good_1 h.2.choose_spec.1.2.2.1, ob_s, c_eq_p (by decide) (by decide), if_neg (by decide), a1, ob_s, good_0 z1 (by omega), ob_s, c_eq_p (by decide) (by decide), if_pos rfl]
          unfold R_lawm_76 R_lawm_77
          rw [c_eq_p (by decide) (by decide), if_pos rfl]
          exact r113_0
        · rw [hc] at hb
          exact absurd hb (by dsimp only; omega)
    obtain ⟨hk16, p', c, hc, hco, hpp, hpn⟩ : L.length < 16 ∧ ∃ (p' : Int) (c : CLt), clF g n L.length p = (0, p', c) ∧ CO c ∧ p < p' ∧ p' ≤ n := by
      rcases hcls with w | w
      · exact absurd w.1 hb
      · exact w
    have htb := taS_b hg (n := n) (by omega) p'
    have hte := ta_e hg (n := n) (by omega) (show 0 ≤ p' by omega)
    have hco' : ∀ d, d ∈ L ++ [c] → CO d := fun d hd => by
      rcases List.mem_append.mp hd with w | w
      · exact hLc d w
      · rw [List.mem_singleton.mp w]
        exact hco
    have hPc : ∀ M, LPs g n L p M → ∃ N, LawReader_readClause_16 M = some N ∧ (∀ c, (c < 16 ∨ 23 < c) → N c = M c) ∧ LPs g n (L ++ [c]) p' N := fun M h => by
      obtain ⟨N, a1, a2, a3⟩ := h.cl hg hn hp hL
      refine ⟨N, a1, a2, ?_⟩
      rcases a3 with ⟨z1, _⟩ | ⟨p2, c2, z1, z2⟩
      · exact absurd z1 hb
      · rw [hc] at z1
        have i1 : p' = p2 := congrArg (fun r : Int × Int × CLt => r.2.1) z1
        have i2 : c = c2 := congrArg (fun r : Int × Int × CLt => r.2.2) z1
        rw [i1, i2]
        exact z2
    have hRc : ∀ M, LRs g n L p M → ∃ N, R_clause M = some N ∧ RG 0 0 M N ∧ LRs g n (L ++ [c]) p' N := fun M h => by
      obtain ⟨N, a1, a2, a3⟩ := h.cl hg hn hp hL
      refine ⟨N, a1, a2, ?_⟩
      rcases a3 with ⟨z1, z2, z3⟩ | ⟨p2, c2, z1, z2⟩
      · exact absurd (by rw [z3]; exact z1) hb
      · rw [hc] at z1
        have i1 : p' = p2 := congrArg (fun r : Int × Int × CLt => r.2.1) z1
        have i2 : c = c2 := congrArg (fun r : Int × Int × CLt => r.2.2) z1
        rw [i1, i2]
        exact z2
    have hRb : ∀ (M : am_M) (fu : Nat), LRs g n L p M → ∃ N, R_lawm_39 (fu + 1) 1 M = (if n ≤ p' then R_lawm_39 fu 0 N else if taS g n p' = 59 then R_lawm_39 fu 1 (am_up N 73 3 (p' + 1)) else R_lawm_39 fu 1 (am_up (am_up N 73 5 (-1000 - p')) 73 3 (p' + 1))) ∧ RG 0 0 M N ∧ LRs g n (L ++ [c]) p' N := fun M fu h => by
      obtain ⟨N, a1, a2, a3⟩ := hRc M h
      refine ⟨N, ?_, a2, a3⟩
      obtain ⟨hG, t, ⟨h3, h4, h5, h6, h7⟩, ht, hC⟩ := a3
      rw [R_lawm_39, c_eq_p (by decide) (by decide), if_neg (by decide), good_1 h.2.choose_spec.1.2.2.1, ob_s, c_eq_p (by decide) (by decide), if_neg (by decide), a1, ob_s, good_1 h5, ob_s, c_eq_p (by decide) (by decide), if_neg (by decide), h3, h4, c_ge_p (by omega) (by omega)]
      unfold R_lawm_76 R_lawm_77 R_lawm_100
      by_cases q : n ≤ p'
      · rw [if_pos (by omega), if_pos q, c_eq_p (by decide) (by decide), if_pos rfl]
      · have hh := R_here_eq hG (show 0 ≤ p' by omega) (show n ≤ 260 by omega) (by omega) (by omega) h3 h4
        have hv : heV (taS g n p') = taS g n p' := heV_p (by omega)
        rw [if_neg (by omega), if_neg q, c_eq_p (by decide) (by decide), if_neg (by decide), hh, ob_s, hv, c_eq_p (by omega) (by decide)]
        by_cases q2 : taS g n p' = 59
        · rw [if_pos q2, if_pos q2, h3, fw_p]
        · rw [if_neg q2, if_neg q2, h3, wr_1 h5, ob_s, upx (show (3 : Nat) ≠ 5 by decide), h3, fw_p, show -1000 * 1 - p' = -1000 - p' by omega]
    by_cases q1 : taS g n p' = 59
    · have hlt := ta_n (g := g) (n := n) (p := p') (by omega) (by omega)
      obtain ⟨k, rfl⟩ : ∃ k', k = k' + 1 := ⟨k - 1, by omega⟩
      obtain ⟨f, L', d1, d2, d3⟩ := lw_lp hg hn k (p' + 1) (L ++ [c]) (by omega) (by omega) (by rw [sn_l]; omega) hco'
      refine ⟨f, L', d1, fun M fu x3 h hx hf => ?_, fun M fu h hf => ?_⟩
      · obtain ⟨N, a1, a2, a3⟩ := hPc M h
        obtain ⟨fu, rfl⟩ : ∃ f', fu = f' + 1 := ⟨fu - 1, by omega⟩
        obtain ⟨s, hV, _⟩ := a3.2
        obtain ⟨N2, b1, b2, b3⟩ := d2 _ fu (x3 + 1) a3.p (by omega) (by omega)
        refine ⟨N2, ?_, fun i hi => by rw [b2 i hi, upo (by omega)]; exact a2 i hi, b3⟩
        rw [a1, ob_s, LawReader_readInto_16_5_28, c_ge_p (by omega) (by decide), if_neg (by omega), lhere_0 (by omega) a3.1 (by omega) hV, ob_s, c_ne_p (by omega) (by decide), if_neg (fun z => z q1), hV.2.1, fw_p]
        exact b1
      · obtain ⟨fu, rfl⟩ : ∃ f', fu = f' + 1 := ⟨fu - 1, by omega⟩
        obtain ⟨N, a1, a2, a3⟩ := hRb M fu h
        obtain ⟨N2, b1, b2, b3⟩ := d3 _ fu a3.p (by omega)
        refine ⟨N2, ?_, (a2.up (by omega)).tr b2, b3⟩
        rw [a1, if_neg (by omega), if_pos q1]
        exact b1
    by_cases q2 : n ≤ p'
    · have ht1 := hte.mpr q2
      refine ⟨0, L ++ [c], Or.inr ⟨rfl, by rw [sn_l]; omega, hco'⟩, fun M fu x3 h hx hf => ?_, fun M fu h hf => ?_⟩
      · obtain ⟨N, a1, a2, a3⟩ := hPc M h
        obtain ⟨fu, rfl⟩ : ∃ f', fu = f' + 1 := ⟨fu - 1, by omega⟩
        obtain ⟨s, hV, hs, hs2, h7, hC⟩ := a3.2
        have hh := lhere_0 (by omega) a3.1 (by omega) hV
        refine ⟨N, ?_, a2, hV.2.2.1, fun _ => ⟨h7, hC.cg hs2 (fun _ _ _ hx => hx) (fun _ _ _ => ⟨rfl, rfl, rfl, rfl⟩)⟩⟩
        rw [a1, ob_s, LawReader_readInto_16_5_28]
        unfold LawReader_readInto_16_5_64
        rw [c_ge_p (by omega) (by decide), if_neg (by omega), hh, ob_s, ob_s, c_ne_p (by omega) (by decide), if_pos q1, c_eq_p (by omega) (by decide), if_pos ht1]
      · obtain ⟨fu, rfl⟩ : ∃ f', fu = f' + 1 + 1 := ⟨fu - 2, by omega⟩
        obtain ⟨N, a1, a2, a3⟩ := hRb M (fu + 1) h
        obtain ⟨hG, t, ⟨h3, h4, h5, h6, h7⟩, ht, hC⟩ := a3
        refine ⟨N, ?_, a2, h5, fun _ => ⟨h6, t, by omega, h7, hC⟩⟩
        rw [a1, if_pos q2]
        exact r113_0
    · have hne : taS g n p' ≠ -1 := fun z => q2 (hte.mp z)
      refine ⟨-1000 - p', [], Or.inl (by omega), fun M fu x3 h hx hf => ?_, fun M fu h hf => ?_⟩
      · obtain ⟨N, a1, a2, a3⟩ := hPc M h
        obtain ⟨fu, rfl⟩ : ∃ f', fu = f' + 1 := ⟨fu - 1, by omega⟩
        obtain ⟨s, hV, hs, hs2, h7, hC⟩ := a3.2
        have hh := lhere_0 (by omega) a3.1 (by omega) hV
        obtain ⟨N2, b1, b2, b3⟩ := lfail_0 (f := 1) hV
        refine ⟨N2, ?_, fun i hi => ((b3 0).1 i (by omega)).trans (a2 i hi), by rw [b2.2.2.1]; omega, fun z => by omega⟩
        rw [a1, ob_s, LawReader_readInto_16_5_28]
        unfold LawReader_readInto_16_5_64
        rw [c_ge_p (by omega) (by decide), if_neg (by omega), hh, ob_s, ob_s, c_ne_p (by omega) (by decide), if_pos q1, c_eq_p (by omega) (by decide), if_neg hne, b1, ob_s]
      · obtain ⟨fu, rfl⟩ : ∃ f', fu = f' + 1 + 1 := ⟨fu - 2, by omega⟩
        obtain ⟨N, a1, a2, a3⟩ := hRb M (fu + 1) h
        have e5 : (am_up (am_up N 73 5 (-1000 - p')) 73 3 (p' + 1)) 73 5 = -1000 - p' := by rw [upx (by decide), upj]
        refine ⟨am_up (am_up N 73 5 (-1000 - p')) 73 3 (p' + 1), ?_, (a2.up (by omega)).up (by omega), e5, fun z => by omega⟩
        rw [a1, if_neg q2, if_neg q1]
        exact r113_b (by rw [e5]; omega)
termination_by k => k
decreasing_by omega
