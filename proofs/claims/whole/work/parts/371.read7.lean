-- the law read: values, by the reference, on
theorem RVt.p {M : am_M} {n p q bad : Int} {b t : Nat} {vs : List SX} {ops : List Int} (h : RVt M n p b t vs ops bad) (hq : p ≤ q) : RVt (am_up M 73 3 q) n q b t vs ops bad := by
  obtain ⟨⟨e3, e4, e5, e7, e8, e9⟩, s1, r1, l1, l2, l3⟩ := h
  exact ⟨⟨upj, by rw [upx (by decide)]; exact e4, by rw [upx (by decide)]; exact e5, by rw [upx (by decide)]; exact e7, by rw [upx (by decide)]; exact e8, by rw [upx (by decide)]; exact e9⟩, s1.cg (fun j hj => by rw [upo (by decide)]), by rw [upo (by decide), upo (by decide)]; exact r1, by omega, l2, l3⟩
theorem Rem {M : am_M} {n p o w : Int} {b t : Nat} {vs : List SX} {ops : List Int} {x : SX} (h : RVt M n p b t vs ops 0) (ht : t < 240) (hx : x.1 = 1) (ox : XO x) (hR : ∀ o' p' : Nat → Int, o' t = o → p' t = w → REx o' p' t x) : ∃ N, R_emit o w M = some N ∧ RVf b M N ∧ N 73 3 = p ∧ (N 73 27 = M 73 27 ∧ N 73 26 = M 73 26) ∧ ∀ (O : am_M) (q : Int), (∀ k, k ≠ 73 → O k = N k) → (∀ j, j ≠ 3 → O 73 j = N 73 j) → O 73 3 = q → ((t + 1 + ops.length : Nat) : Int) ≤ q → RVt O n q b (t + 1) (x :: vs) ops 0 := by
  obtain ⟨⟨e3, e4, e5, e7, e8, e9⟩, s1, r1, l1, l2, l3⟩ := h
  have hbl := RVs.le r1
  refine ⟨am_up (am_up (am_up M 87 t o) 88 t w) 73 7 ((t : Int) + 1), ?_, (((RVf.rf.up (Or.inr (Or.inl ⟨Or.inl rfl, hbl⟩))).up (Or.inr (Or.inl ⟨Or.inr rfl, hbl⟩))).up (by omega)), by rw [upx (by decide), upo (by decide), upo (by decide)]; exact e3, ⟨by rw [upx (by decide), upo (by decide), upo (by decide)], by rw [upx (by decide), upo (by decide), upo (by decide)]⟩, fun O q h1 h2 h3 hq => ⟨⟨h3, ?_, ?_, ?_, ?_, ?_⟩, ?_, ?_, hq, l2, l3⟩⟩
  · unfold R_emit
    rw [good_1 e5, ob_s, c_ne_p (by decide) (by decide), if_pos (by decide), e7, wa_p (by omega), upo (show (73 : Nat) ≠ 87 by decide), e7, wa_p (by omega), upo (show (73 : Nat) ≠ 88 by decide), upo (show (73 : Nat) ≠ 87 by decide), e7, fw_p, show ((t : Int)).toNat = t by omega]
  · rw [h2 4 (by decide), upx (by decide), upo (by decide), upo (by decide)]
    exact e4
  · rw [h2 5 (by decide), upx (by decide), upo (by decide), upo (by decide)]
    exact e5
  · rw [h2 7 (by decide), upj]
    omega
  · rw [h2 8 (by decide), upx (by decide), upo (by decide), upo (by decide)]
    exact e8
  · rw [h2 9 (by decide), upx (by decide), upo (by decide), upo (by decide)]
    exact e9
  · exact s1.cg (fun j hj => by rw [h1 89 (by decide), upo (by decide), upo (by decide), upo (by decide)])
  · rw [h1 87 (by decide), h1 88 (by decide)]
    refine ⟨t, by omega, hR _ _ (by rw [upo (by decide), upo (by decide), upj]) (by rw [upo (by decide), upj]), ox, r1.cg (fun j a c => ⟨by rw [upo (by decide), upo (by decide), upx (by omega)], by rw [upo (by decide), upx (by omega), upo (by decide)]⟩)⟩
/-- a mark that opens -/
theorem Ropn {g M : am_M} {n p c : Int} {b t : Nat} {vs : List SX} {ops : List Int} (hg : WG g) (hG : GR g M) (hn : 1 ≤ n ∧ n ≤ 240) (hp : 0 ≤ p ∧ p < n) (hc : taS g n p = c) (hc' : c = 91 ∨ c = 40 ∨ c = 33) (h : RVt M n p b t vs ops 0) : ∃ N, R_opens M = some N ∧ RVf b M N ∧ (N 73 27 = M 73 27 ∧ N 73 26 = M 73 26) ∧ (opn ops = 6 → N 73 5 = -5000 - p) ∧ (opn ops ≠ 6 → RVt N n (p + 1) b t vs (c :: ops) 0) := by
  have hoc : opn (c :: ops) = opn ops + 1 := by
    show (if c = 91 ∨ c = 40 ∨ c = 33 then 1 else 0) + opn ops = _
    rw [if_pos hc']
    omega
  have l2 := h.2.2.2.2.1
  have h8 := h.1.2.2.2.2.1
  unfold R_opens
  rw [h8, c_ne_p (by omega) (by decide)]
  by_cases q : opn ops = 6
  · rw [if_neg (by omega), h.1.1, wr_1 h.1.2.2.1, ob_s]
    unfold R_opens_18
    have l1 := h.2.2.2.1
    have e9 := h.1.2.2.2.2.2
    rw [fw_p, R_here_eq (g := g) (n := n) (p := p) (hG.rvf (b := b) ((RVf.rf.up (by omega)).up (by omega))) hp.1 (by omega) (by omega) (by omega) (by rw [upx (by decide), upx (by decide)]; exact h.1.1) (by rw [upx (by decide), upx (by decide)]; exact h.1.2.1), ob_s]
    unfold R_puts
    rw [upx (show (9 : Nat) ≠ 8 by decide), upx (show (9 : Nat) ≠ 5 by decide), e9, wa_p (by omega), fw_p, fw_p, ob_s]
    refine ⟨_, rfl, ((((RVf.rf.up (by omega)).up (by omega)).up (Or.inl rfl)).up (by omega)).up (by omega), ⟨?_, ?_⟩, fun _ => ?_, fun z => absurd q z⟩
    · rw [upx (by decide), upx (by decide), upo (by decide), upx (by decide), upx (by decide)]
    · rw [upx (by decide), upx (by decide), upo (by decide), upx (by decide), upx (by decide)]
    · rw [upx (by decide), upx (by decide), upo (by decide), upx (by decide), upj]
      omega
  · rw [if_pos (by omega)]
    unfold R_opens_18
    rw [h8, fw_p]
    have hM1 : RVf b M (am_up M 73 8 ((opn ops : Int) + 1)) := RVf.rf.up (by omega)
    obtain ⟨⟨e3, e4, e5, e7, e8, e9⟩, s1, r1, l1, _, l3⟩ := h
    have eh := R_here_eq (g := g) (n := n) (p := p) (hG.rvf hM1) hp.1 (by omega) (by omega) (by omega) (by rw [upx (by decide)]; exact e3) (by rw [upx (by decide)]; exact e4)
    rw [hc, heV_p (by omega)] at eh
    rw [eh, ob_s]
    refine ⟨am_up (am_up (am_up (am_up M 73 8 ((opn ops : Int) + 1)) 89 ops.length c) 73 9 ((ops.length : Int) + 1)) 73 3 (p + 1), ?_, ((hM1.up (Or.inl rfl)).up (by omega)).up (by omega), ⟨?_, ?_⟩, fun z => absurd z q, fun _ => ⟨⟨upj, ?_, ?_, ?_, ?_, ?_⟩, ⟨?_, ?_⟩, ?_, by rw [List.length_cons]; omega, by omega, fun d hd => ?_⟩⟩
    · unfold R_puts
      rw [upx (show (9 : Nat) ≠ 8 by decide), e9, wa_p (by omega), upo (show (73 : Nat) ≠ 89 by decide), upx (show (9 : Nat) ≠ 8 by decide), e9, fw_p, fw_p, upx (show (3 : Nat) ≠ 9 by decide), upo (show (73 : Nat) ≠ 89 by decide), upx (show (3 : Nat) ≠ 8 by decide), e3, ob_s, show ((ops.length : Int)).toNat = ops.length by omega]
    · rw [upx (by decide), upx (by decide), upo (by decide), upx (by decide)]
    · rw [upx (by decide), upx (by decide), upo (by decide), upx (by decide)]
    · rw [upx (by decide), upx (by decide), upo (by decide), upx (by decide)]
      exact e4
    · rw [upx (by decide), upx (by decide), upo (by decide), upx (by decide)]
      exact e5
    · rw [upx (by decide), upx (by decide), upo (by decide), upx (by decide)]
      exact e7
    · rw [upx (by decide), upx (by decide), upo (by decide), upj, hoc]
      omega
    · rw [upx (by decide), upj, List.length_cons]
      omega
    · rw [upo (by decide), upo (by decide), upj]
    · exact s1.cg (fun j hj => by rw [upo (by decide), upo (by decide), upx (by omega), upo (by decide)])
    · rw [upo (by decide), upo (by decide), upo (by decide), upo (by decide), upo (by decide), upo (by decide), upo (by decide), upo (by decide)]
      exact r1
    · rcases List.mem_cons.mp hd with z | z
      · rw [z]
        omega
      · exact l3 d z
theorem Rrd_7 {g : am_M} {n x1 : Int} (hg : WG g) (hn : 1 ≤ n ∧ n ≤ 240) (hx1 : 0 ≤ x1 ∧ x1 ≤ 300) : ∀ (k fu : Nat) (a p : Int) (M : am_M), p + k = x1 + 5 → k + 2 < fu → 0 ≤ p ∧ p ≤ n → GR g M → M 73 3 = p → M 73 4 = n → M 73 5 = 0 → ∃ v N, R_reads_7 fu x1 a M = some (v, N) ∧ NF M N ∧ (dgB g n (nrd g n k p a).1 → N 73 5 = -2000 - (nrd g n k p a).1) ∧ (¬ dgB g n (nrd g n k p a).1 → v = (nrd g n k p a).2 ∧ N 73 3 = (nrd g n k p a).1 ∧ N 73 5 = 0)
  | k, 0, a, p, M, e, hf, hp, hG, e3, e4, e5 => by omega
  | k, fu + 1, a, p, M, e, hf, hp, hG, e3, e4, e5 => by
    have hd := R_seesDigit_eq hg hG hp.1 (show n ≤ 260 by omega) (by omega) (by omega) e3 e4
    have hh := R_here_eq hG hp.1 (show n ≤ 260 by omega) (by omega) (by omega) e3 e4
    rw [R_reads_7]
    unfold R_reads_66
    rw [good_1 e5, ob_s, c_eq_p (by decide) (by decide), if_neg (by decide), hd, ob_s]
    by_cases q : dgB g n p
    · have hpn := ta_n (g := g) (n := n) (p := p) hp.1 (by omega)
      rw [if_pos q, c_eq_p (by decide) (by decide), if_neg (by decide), e3, c_ne_p (by omega) (by omega)]
      cases k with
      | zero =>
        obtain ⟨fu, rfl⟩ : ∃ f', fu = f' + 1 := ⟨fu - 1, by omega⟩
        have f1 : NF M (am_up M 73 5 (-1000 * 2 - p)) := NF.rf.up (by omega)
        rw [if_neg (by omega), wr_1 e5, ob_s]
        unfold R_reads_40
        rw [R_here_eq (hG.nf f1) hp.1 (show n ≤ 260 by omega) (by omega) (by omega) (by rw [upx (by decide)]; exact e3) (by rw [upx (by decide)]; exact e4), ob_s, fw_p, R_reads_7]
        unfold R_reads_66
        rw [good_0 (by rw [upx (by decide), upj]; omega) (by rw [upx (by decide), upj]; omega), ob_s, c_eq_p (by decide) (by decide), if_pos (by decide)]
        refine ⟨_, _, rfl, f1.up (by omega), fun _ => ?_, fun z => absurd q z⟩
        show _ = -2000 - p
        rw [upx (by decide), upj]
        omega
      | succ k =>
        rw [if_pos (by omega)]
        unfold R_reads_40
        have f1 : NF M (am_up M 73 3 (p + 1)) := NF.rf.up (by omega)
        obtain ⟨v, N, a1, a2, a3, a4⟩ := Rrd_7 hg hn hx1 k fu (10 * a + taS g n p - 48) (p + 1) (am_up M 73 3 (p + 1)) (by omega) (by omega) (by omega) (hG.nf f1) upj (by rw [upx (by decide)]; exact e4) (by rw [upx (by decide)]; exact e5)
        have e1 : nrd g n (k + 1) p a = nrd g n k (p + 1) (10 * a + taS g n p - 48) := if_pos q
        rw [e1]
        refine ⟨v, N, ?_, f1.tr a2, a3, a4⟩
        rw [hh, ob_s, e3, fw_p, heV_p (by omega)]
        exact a1
    · rw [if_neg q, c_eq_p (by decide) (by decide), if_pos rfl]
      have e1 : nrd g n k p a = (p, a) := by
        cases k with
        | zero => rfl
        | succ k => exact if_neg q
      rw [e1]
      exact ⟨a, M, rfl, NF.rf, fun z => absurd z q, fun _ => ⟨rfl, e3, e5⟩⟩
