-- the law read: values, by the reference, whole
theorem RisV_eq {c : Int} {M : am_M} (h : am_R c) : R_isValue c M = some (if 0 ≤ lxS c then 1 else 0) := by
  unfold R_isValue R_isValue_42 R_isValue_47 lxS
  rw [c_eq_p h (by decide), c_eq_p h (by decide), c_eq_p h (by decide), c_eq_p h (by decide), c_eq_p h (by decide), c_eq_p h (by decide), c_ne_p h (by decide), ck_p (by decide), ck_p (by decide)]
  repeat' split
  all_goals first
    | rfl
    | omega
def QV (g : am_M) (n : Int) (beh : Bool) (p : Int) (vs : List SX) (ops : List Int) (b : Nat) (M N : am_M) : Prop := RVf b M N ∧ N 73 26 = M 73 26 ∧ ((N 73 5 < 0 ∧ -7000 ≤ N 73 5 ∧ (vfin g n beh p vs ops).1 = N 73 5) ∨ (∃ (p' : Int) (vs' : List SX) (ops' : List Int) (t' : Nat), vfin g n beh p vs ops = (0, p', vs', ops') ∧ RVt N n p' b t' vs' ops' 0 ∧ p ≤ p' ∧ p' ≤ n ∧ bnc ops' + 1 ≤ vs'.length))
theorem bad_57 {M : am_M} {fu : Nat} (h : M 73 5 < 0 ∧ -7000 ≤ M 73 5) : R_value_7 (fu + 1) 0 M = some M := by
  rw [R_value_7]
  unfold R_value_57 R_value_82
  rw [c_eq_p (by decide) (by decide), if_pos rfl, good_0 h.1 (by omega), ob_s, c_eq_p (by decide) (by decide), if_pos rfl]
theorem bad_29 {M : am_M} {fu : Nat} (h : M 73 5 < 0 ∧ -7000 ≤ M 73 5) : R_value_29 (R_value_7 (fu + 1)) M = some (am_up M 73 27 0) := by
  have h' : (am_up M 73 27 0) 73 5 < 0 ∧ -7000 ≤ (am_up M 73 27 0) 73 5 := by
    rw [upx (by decide)]
    exact h
  unfold R_value_29 R_value_52 R_value_53
  rw [fz_p (Or.inl rfl), good_0 h'.1 (by omega), ob_s, c_eq_p (by decide) (by decide), if_pos rfl]
  exact bad_57 h'
theorem bad_fac {M : am_M} {f1 : Nat} (h : M 73 5 < 0 ∧ -7000 ≤ M 73 5) : R_factor_0 (f1 + 1) M = some M := by
  rw [R_factor_0]
  unfold R_factor_23
  rw [good_0 h.1 (by omega), ob_s, c_eq_p (by decide) (by decide), if_pos rfl, ob_s, c_ne_p (by decide) (by decide), if_neg (by decide)]
theorem QV.bad {g : am_M} {n p : Int} {beh : Bool} {vs : List SX} {ops : List Int} {b : Nat} {M N : am_M} (f : RVf b M N) (h26 : N 73 26 = M 73 26) (h : N 73 5 < 0 ∧ -7000 ≤ N 73 5) (e : (vfin g n beh p vs ops).1 = N 73 5) : QV g n beh p vs ops b M (am_up N 73 27 0) := ⟨f.up (by omega), by rw [upx (by decide)]; exact h26, Or.inl (by rw [upx (by decide)]; exact ⟨h.1, h.2, e⟩)⟩
theorem QV.st {g : am_M} {n p p1 : Int} {beh beh1 : Bool} {vs vs1 : List SX} {ops ops1 : List Int} {b : Nat} {M M1 N : am_M} (f : RVf b M M1) (h26 : M1 73 26 = M 73 26) (e : vfin g n beh p vs ops = vfin g n beh1 p1 vs1 ops1) (hp : p ≤ p1) (h : QV g n beh1 p1 vs1 ops1 b M1 N) : QV g n beh p vs ops b M N := by
  obtain ⟨a1, a2, a3⟩ := h
  refine ⟨f.tr a1, a2.trans h26, ?_⟩
  rw [e]
  rcases a3 with z | ⟨p', vs', ops', t', z1, z2, z3, z4⟩
  · exact Or.inl z
  · exact Or.inr ⟨p', vs', ops', t', z1, z2, by omega, z4⟩
theorem SO.tl {c : Int} {ops : List Int} {M : am_M} (h : SO (c :: ops) M) : SO ops M := h.2
theorem rv_all {g : am_M} {n : Int} {b : Nat} (hg : WG g) (hn : 1 ≤ n ∧ n ≤ 240) : ∀ (k : Nat), (∀ (f1 fu : Nat) (p : Int) (vs : List SX) (ops : List Int) (t : Nat) (M : am_M), n - p ≤ k → k < f1 → k + 2 < fu → 0 ≤ p ∧ p ≤ n → GR g M → RVt M n p b t vs ops 0 → bnc ops ≤ vs.length → ∃ N, (ob (R_factor_0 f1 M) fun M2 => R_value_29 (R_value_7 fu) M2) = some N ∧ QV g n false p vs ops b M N) ∧ (∀ (fu : Nat) (p : Int) (vs : List SX) (ops : List Int) (t : Nat) (M : am_M), n - p ≤ k → k + 2 < fu → 0 ≤ p ∧ p ≤ n → GR g M → RVt M n p b t vs ops 0 → bnc ops + 1 ≤ vs.length → ∃ N, R_value_29 (R_value_7 fu) M = some N ∧ QV g n true p vs ops b M N) := by
  intro k
  induction k using Nat.strongRecOn with
  | _ k ih =>
  constructor
  · intro f1 fu p vs ops t M hk hf1 hfu hp hG h hb
    obtain ⟨f1, rfl⟩ : ∃ f', f1 = f' + 1 := ⟨f1 - 1, by omega⟩
    obtain ⟨fu, rfl⟩ : ∃ f', fu = f' + 1 := ⟨fu - 1, by omega⟩
    have htb := taS_b hg (n := n) (by omega) p
    have hhb := heV_b htb
    have hh := R_here_eq hG hp.1 (show n ≤ 260 by omega) (by omega) (by omega) h.1.1 h.1.2.1
    have hd := R_seesDigit_eq hg hG hp.1 (show n ≤ 260 by omega) (by omega) (by omega) h.1.1 h.1.2.1
    have hhe : ∀ c : Int, 0 < c → (heV (taS g n p) = c ↔ taS g n p = c) := fun c hc => by
      unfold heV
      split <;> omega
    have hfe := vf_e (g := g) (beh := false) (vs := vs) (ops := ops) hn.2 hp.1 hp.2
    unfold vB at hfe
    rw [if_neg (by decide)] at hfe
    have l1 := h.2.2.2.1
    rw [R_factor_0, good_1 h.1.2.2.1, ob_s, c_eq_p (by decide) (by decide), if_neg (by decide), hh, ob_s, c_ne_p (by omega) (by decide)]
    by_cases q1 : taS g n p = 91
    · have hpn := ta_n (g := g) (n := n) (p := p) hp.1 (by omega)
      rw [if_pos q1] at hfe
      rw [if_neg (fun z => z ((hhe 91 (by decide)).mpr q1))]
      obtain ⟨N, a1, a2, a3, a4, a5⟩ := Ropn hg hG hn ⟨hp.1, hpn⟩ q1 (Or.inl rfl) h
      rw [a1, ob_s]
      obtain ⟨f1, rfl⟩ : ∃ f', f1 = f' + 1 := ⟨f1 - 1, by omega⟩
      by_cases q2 : opn ops = 6
      · rw [if_pos q2] at hfe
        have hb5 := a4 q2
        rw [bad_fac (by omega), ob_s, bad_29 (by omega)]
        exact ⟨_, rfl, QV.bad a2 a3.2 (by omega) (by rw [hfe, hb5])⟩
      · rw [if_neg q2] at hfe
        obtain ⟨N2, b1, b2⟩ := (ih (k - 1) (by omega)).1 (f1 + 1) (fu + 1) (p + 1) vs (91 :: ops) t N (by omega) (by omega) (by omega) (by omega) (hG.rvf a2) (a5 q2) (by rw [bnc_o (Or.inl rfl)]; exact hb)
        exact ⟨N2, b1, QV.st a2 a3.2 hfe (by omega) b2⟩
    · rw [if_neg q1] at hfe
      rw [if_pos (fun z => q1 ((hhe 91 (by decide)).mp z))]
      unfold R_factor_23 R_factor_91
      rw [good_1 h.1.2.2.1, ob_s, c_ne_p (by decide) (by decide), if_pos (by decide), hd, ob_s]
      by_cases q2 : dgB g n p
      · have hpn := ta_n (g := g) (n := n) (p := p) hp.1 (by omega)
        rw [if_pos q2] at hfe
        rw [if_pos q2, c_eq_p (by decide) (by decide), if_neg (by decide)]
        obtain ⟨v, N, a1, a2, a3, a4⟩ := Rrd_7 hg hn (x1 := p) (by omega) 5 am_big 0 p M (by omega) (by show 7 < 1000000; omega) hp hG h.1.1 h.1.2.1 h.1.2.2.1
        have e1 : nrd g n 5 p 0 = nrd g n 4 (p + 1) (10 * 0 + taS g n p - 48) := if_pos q2
        have e2 := nrd_b (g := g) (n := n) 4 (p + 1) (10 * 0 + taS g n p - 48) (by omega)
        have e3 := nrd_b (g := g) (n := n) 5 p 0 (by omega)
        rw [← e1] at e2
        have e4 := e2.2.2.2 (by omega) (by omega)
        have e5 : ((0 : Int) + 1) * 10 ^ 5 = 100000 := by decide
        rw [e5] at e3
        have fN : RVf b M N := ⟨fun k h1 _ => a2.1 k h1, fun j h1 h2 _ _ => a2.2 j h1 h2, fun j _ => by rw [a2.1 87 (by decide), a2.1 88 (by decide)]; exact ⟨rfl, rfl⟩⟩
        have hrd : R_reads M = some (v, N) := by
          unfold R_reads
          rw [h.1.1]
          exact a1
        rw [hrd, oc_s]
        by_cases q3 : dgB g n (nrd g n 5 p 0).1
        · rw [if_pos q3] at hfe
          have hb5 := a3 q3
          have hem : R_emit 0 v N = some N := by
            unfold R_emit
            rw [good_0 (by omega) (by omega), ob_s, c_ne_p (by decide) (by decide), if_neg (by decide)]
          rw [hem, ob_s, ob_s, bad_29 (by omega)]
          exact ⟨_, rfl, QV.bad fN (a2.2 26 (by decide) (by decide)) (by omega) (by rw [hfe, hb5])⟩
        · rw [if_neg q3] at hfe
          obtain ⟨w1, w2, w3⟩ := a4 q3
          subst w1
          have hN : RVt N n (nrd g n 5 p 0).1 b t vs ops 0 := by
            obtain ⟨⟨c3, c4, c5, c7, c8, c9⟩, s1, r1, l1', l2, l3⟩ := h
            exact ⟨⟨w2, by rw [a2.2 4 (by decide) (by decide)]; exact c4, w3, by rw [a2.2 7 (by decide) (by decide)]; exact c7, by rw [a2.2 8 (by decide) (by decide)]; exact c8, by rw [a2.2 9 (by decide) (by decide)]; exact c9⟩, s1.cg (fun j hj => by rw [a2.1 89 (by decide)]), by rw [a2.1 87 (by decide), a2.1 88 (by decide)]; exact r1, by omega, l2, l3⟩
          obtain ⟨N2, g1, g2, g3, g4, g5⟩ := Rem (o := 0) (w := (nrd g n 5 p 0).2) (x := nuX (nrd g n 5 p 0).2) hN (by omega) rfl (nuX_O (by omega)) (fun o' p' h1 h2 => nuX_R h1 h2 (by omega))
          have hN2 := g5 N2 (nrd g n 5 p 0).1 (fun _ _ => rfl) (fun _ _ => rfl) g3 (by omega)
          rw [g1, ob_s, ob_s]
          obtain ⟨N3, i1, i2⟩ := (ih (k - 1) (by omega)).2 (fu + 1) (nrd g n 5 p 0).1 _ ops (t + 1) N2 (by omega) (by omega) (by omega) (hG.rvf (fN.tr g2)) hN2 (by rw [List.length_cons]; omega)
          exact ⟨N3, i1, QV.st (fN.tr g2) (g4.2.trans (a2.2 26 (by decide) (by decide))) hfe (by omega) i2⟩
      · rw [if_neg q2] at hfe
        have hlh : (0 ≤ lxS (heV (taS g n p))) ↔ (0 ≤ lxS (taS g n p)) := by
          unfold heV
          by_cases z : taS g n p < 0
          · rw [if_pos z, show taS g n p = -1 by omega]
            decide
          · rw [if_neg z]
        rw [if_neg q2, c_eq_p (by decide) (by decide), if_pos rfl, hh, ob_s, RisV_eq (by omega), ob_s]
        by_cases q3 : 0 ≤ lxS (taS g n p)
        · have hc := lx_c q3
          have hpn := ta_n (g := g) (n := n) (p := p) hp.1 (by omega)
          have hlb := lxS_b (taS g n p)
          rw [if_pos q3] at hfe
          rw [if_pos (hlh.mpr q3), c_eq_p (by decide) (by decide), if_neg (by decide), ob_s, heV_p (by omega)]
          obtain ⟨N2, g1, g2, g3, g4, g5⟩ := Rem (o := 1) (w := taS g n p) (x := leX (lxS (taS g n p)).toNat) h (by omega) rfl (leX_O (by omega)) (fun o' p' h1 h2 => leX_R h1 (by rw [lxS_c q3]; exact h2) (by omega))
          have f3 : RVf b M (am_up N2 73 3 (p + 1)) := g2.up (by omega)
          have hN2 := g5 (am_up N2 73 3 (p + 1)) (p + 1) (fun k hk => upo hk) (fun j hj => upx hj) upj (by omega)
          rw [g1, ob_s, g3, fw_p, ob_s]
          obtain ⟨N3, i1, i2⟩ := (ih (k - 1) (by omega)).2 (fu + 1) (p + 1) _ ops (t + 1) _ (by omega) (by omega) (by omega) (hG.rvf f3) hN2 (by rw [List.length_cons]; omega)
          exact ⟨N3, i1, QV.st f3 (by rw [upx (by decide)]; exact g4.2) hfe (by omega) i2⟩
        · rw [if_neg q3] at hfe
          rw [if_neg (fun z => q3 (hlh.mp z)), c_eq_p (by decide) (by decide), if_pos rfl, h.1.1, wr_1 h.1.2.2.1, ob_s, ob_s, bad_29 (by rw [upj]; omega)]
          exact ⟨_, rfl, QV.bad (RVf.rf.up (by omega)) (by rw [upx (by decide)]) (by rw [upj]; omega) (by rw [hfe, upj]; dsimp only; omega)⟩
  · intro fu p vs ops t M hk hfu hp hG h hb
    obtain ⟨fu, rfl⟩ : ∃ f', fu = f' + 1 := ⟨fu - 1, by omega⟩
    have htb := taS_b hg (n := n) (by omega) p
    have hhb := heV_b htb
    have f0 : RVf b M (am_up M 73 27 0) := RVf.rf.up (by omega)
    have h0 : RVt (am_up M 73 27 0) n p b t vs ops 0 := by
      obtain ⟨⟨c3, c4, c5, c7, c8, c9⟩, s1, r1, l1', l2, l3⟩ := h
      exact ⟨⟨by rw [upx (by decide)]; exact c3, by rw [upx (by decide)]; exact c4, by rw [upx (by decide)]; exact c5, by rw [upx (by decide)]; exact c7, by rw [upx (by decide)]; exact c8, by rw [upx (by decide)]; exact c9⟩, s1.cg (fun j hj => by rw [upo (by decide)]), by rw [upo (by decide), upo (by decide)]; exact r1, l1', l2, l3⟩
    have h27 : (am_up M 73 27 0) 73 27 = 0 := upj
    have h26 : (am_up M 73 27 0) 73 26 = M 73 26 := upx (by decide)
    unfold R_value_29 R_value_52 R_value_53
    rw [fz_p (Or.inl rfl)]
    generalize am_up M 73 27 0 = M1 at f0 h0 h27 h26
    have hG1 := hG.rvf f0
    have hh := R_here_eq hG1 hp.1 (show n ≤ 260 by omega) (by omega) (by omega) h0.1.1 h0.1.2.1
    have hhe : ∀ c : Int, 0 < c → (heV (taS g n p) = c ↔ taS g n p = c) := fun c hc => by
      unfold heV
      split <;> omega
    have hfe := vf_e (g := g) (beh := true) (vs := vs) (ops := ops) hn.2 hp.1 hp.2
    unfold vB at hfe
    rw [if_pos rfl] at hfe
    have l1 := h0.2.2.2.1
    have hti : tiO (heV (taS g n p)) ↔ tiO (taS g n p) := by
      have w1 := hhe 42 (by decide)
      have w2 := hhe 47 (by decide)
      have w3 := hhe 37 (by decide)
      omega
    have hpl : plO (heV (taS g n p)) ↔ plO (taS g n p) := by
      have w1 := hhe 43 (by decide)
      have w2 := hhe 45 (by decide)
      omega
    rw [good_1 h0.1.2.2.1, ob_s, c_eq_p (by decide) (by decide), if_neg (by decide)]
    unfold R_stays
    rw [hh, ob_s, Rti_eq (by omega), ob_s, Rpl_eq (by omega), ob_s]
    -- an operation
    have hop : ∀ (a : Bool), (tiO (taS g n p) ∨ plO (taS g n p)) → (plO (taS g n p) ↔ a = true) → vfin g n true p vs ops = vfin g n false (p + 1) (smS a ops vs).1 (taS g n p :: (smS a ops vs).2) → ∃ N, (oc (R_stays_19 (heV (taS g n p)) M1) fun v3 M4 => c_eq v3 0 (R_value_7 (fu + 1) 0 M4) (R_value_7 (fu + 1) 1 M4)) = some N ∧ QV g n true p vs ops b M N := fun a hc ha he => by
      have hpn := ta_n (g := g) (n := n) (p := p) hp.1 (by omega)
      obtain ⟨N1, t1, a1, a2, a3, a4, a5, a6⟩ := Rsums (a := a) (show p ≤ 240 by omega) ops vs t am_big M1 h0 hb (by show _ < 1000000; omega)
      obtain ⟨N2, c1, c2, c3, c4, c5⟩ := Rputs (c := taS g n p) a2 (by omega) (by omega) (Or.inr (opn_c (by omega))) (by rw [opn_c (by omega)]; exact a2.2.2.2.2.1)
      have hst : R_stays_19 (heV (taS g n p)) M1 = some (1, N2) := by
        unfold R_stays_19 R_sums
        rw [Rpl_eq (by omega), ob_s]
        have e1 : (if plO (heV (taS g n p)) then (1 : Int) else 0) = b1 a := by
          cases a with
          | true => rw [if_pos (hpl.mpr (ha.mpr rfl))]; rfl
          | false => rw [if_neg (fun z => by have := ha.mp (hpl.mp z); cases this)]; rfl
        rw [e1, a1, ob_s, heV_p (by omega), c1, ob_s]
      have e27 : N2 73 27 = 0 := by rw [c4, a5]; exact h27
      rw [hst, oc_s, c_eq_p (by decide) (by decide), if_neg (by decide), R_value_7, c_eq_p (by decide) (by decide), if_neg (by decide), good_1 c2.1.2.2.1, ob_s, c_eq_p (by decide) (by decide), if_neg (by decide), e27, c_ne_p (by decide) (by decide), if_neg (by decide)]
      have fM : RVf b M N2 := (f0.tr a3).tr c3
      obtain ⟨N3, i1, i2⟩ := (ih (n - (p + 1)).toNat (by omega)).1 am_big fu (p + 1) _ _ t1 N2 (by omega) (by show _ < 1000000; omega) (by omega) (by omega) (hG.rvf fM) c2 (by rw [bnc_c (by omega)]; omega)
      exact ⟨N3, i1, QV.st fM (by rw [c5, a6]; exact h26) he (by omega) i2⟩
    by_cases q1 : tiO (taS g n p)
    · rw [if_pos q1] at hfe
      rw [if_pos (hti.mpr q1), c_ne_p (by decide) (by decide), if_pos (by decide)]
      exact hop false (Or.inl q1) ⟨fun z => by omega, fun z => by cases z⟩ hfe
    rw [if_neg q1] at hfe
    rw [if_neg (fun z => q1 (hti.mp z)), c_ne_p (by decide) (by decide), if_neg (by decide)]
    by_cases q2 : plO (taS g n p)
    · rw [if_pos q2] at hfe
      rw [if_pos (hpl.mpr q2), c_eq_p (by decide) (by decide), if_neg (by decide)]
      exact hop true (Or.inr q2) ⟨fun _ => rfl, fun _ => q2⟩ hfe
    rw [if_neg q2] at hfe
    rw [if_neg (fun z => q2 (hpl.mp z)), c_eq_p (by decide) (by decide), if_pos rfl]
    obtain ⟨N1, t1, a1, a2, a3, a4, a5, a6⟩ := Rsums (a := true) (show p ≤ 240 by omega) ops vs t am_big M1 h0 hb (by show _ < 1000000; omega)
    have a1' : R_sums 1 M1 = some N1 := a1
    have ht := Rtop_eq a2 (show p ≤ 240 by omega)
    have hhr := hd_R a2.2.2.2.2.2
    have fM : RVf b M N1 := f0.tr a3
    have n26 : N1 73 26 = M 73 26 := a6.trans h26
    rw [a1', ob_s, c_eq_p (by omega) (by decide), ht, ob_s, c_eq_p (by omega) (by decide)]
    by_cases q3 : taS g n p = 93
    · rw [if_pos q3] at hfe
      rw [if_pos ((hhe 93 (by decide)).mpr q3)]
      by_cases q4 : hdO (smS true ops vs).2 = 91
      · have hpn := ta_n (g := g) (n := n) (p := p) hp.1 (by omega)
        rw [if_pos q4] at hfe
        rw [if_pos q4, fw_p, fw_p, fw_p, fz_p (Or.inr rfl), oc_s, c_eq_p (by decide) (by decide), if_neg (by decide)]
        generalize (smS true ops vs).1 = vs1 at hfe a2 a4
        generalize (smS true ops vs).2 = ops1 at hfe a2 a4 q4
        cases ops1 with
        | nil => exact absurd q4 (by decide)
        | cons c r =>
          have hc : c = 91 := q4
          subst hc
          rw [bnc_o (Or.inl rfl)] at a4
          have hfe' : vfin g n true p vs ops = vfin g n true (p + 1) vs1 r := hfe
          obtain ⟨⟨c3, c4, c5, c7, c8, c9⟩, s1, r1, l1', l2, l3⟩ := a2
          have ho : opn (91 :: r) = opn r + 1 := by
            show (if (91 : Int) = 91 ∨ _ then 1 else 0) + opn r = _
            rw [if_pos (Or.inl rfl)]
            omega
          rw [List.length_cons] at c9 l1'
          rw [upx (show (8 : Nat) ≠ 9 by decide), c9, c8, upx (show (3 : Nat) ≠ 8 by decide), upx (show (3 : Nat) ≠ 9 by decide), c3]
          have fO : RVf b N1 (am_up (am_up (am_up (am_up N1 73 9 (((r.length + 1 : Nat) : Int) - 1)) 73 8 ((opn (91 :: r) : Int) - 1)) 73 3 (p + 1)) 73 27 1) := (((RVf.rf.up (by omega)).up (by omega)).up (by omega)).up (by omega)
          have hO : RVt (am_up (am_up (am_up (am_up N1 73 9 (((r.length + 1 : Nat) : Int) - 1)) 73 8 ((opn (91 :: r) : Int) - 1)) 73 3 (p + 1)) 73 27 1) n (p + 1) b t1 vs1 r 0 := by
            refine ⟨⟨by rw [upx (by decide), upj], by rw [upx (by decide), upx (by decide), upx (by decide), upx (by decide)]; exact c4, by rw [upx (by decide), upx (by decide), upx (by decide), upx (by decide)]; exact c5, by rw [upx (by decide), upx (by decide), upx (by decide), upx (by decide)]; exact c7, by rw [upx (by decide), upx (by decide), upj, ho]; omega, by rw [upx (by decide), upx (by decide), upx (by decide), upj]; omega⟩, s1.tl.cg (fun j hj => by rw [upo (by decide), upo (by decide), upo (by decide), upo (by decide)]), by rw [upo (by decide), upo (by decide), upo (by decide), upo (by decide), upo (by decide), upo (by decide), upo (by decide), upo (by decide)]; exact r1, by omega, by omega, fun d hd => l3 d (List.mem_cons_of_mem _ hd)⟩
          have o27 : (am_up (am_up (am_up (am_up N1 73 9 (((r.length + 1 : Nat) : Int) - 1)) 73 8 ((opn (91 :: r) : Int) - 1)) 73 3 (p + 1)) 73 27 1) 73 27 = 1 := upj
          have o26 : (am_up (am_up (am_up (am_up N1 73 9 (((r.length + 1 : Nat) : Int) - 1)) 73 8 ((opn (91 :: r) : Int) - 1)) 73 3 (p + 1)) 73 27 1) 73 26 = N1 73 26 := by rw [upx (by decide), upx (by decide), upx (by decide), upx (by decide)]
          generalize am_up (am_up (am_up (am_up N1 73 9 (((r.length + 1 : Nat) : Int) - 1)) 73 8 ((opn (91 :: r) : Int) - 1)) 73 3 (p + 1)) 73 27 1 = O at fO hO o27 o26
          rw [R_value_7, c_eq_p (by decide) (by decide), if_neg (by decide), good_1 hO.1.2.2.1, ob_s, c_eq_p (by decide) (by decide), if_neg (by decide), o27, c_ne_p (by decide) (by decide), if_pos (by decide)]
          obtain ⟨N3, i1, i2⟩ := (ih (k - 1) (by omega)).2 fu (p + 1) vs1 r t1 O (by omega) (by omega) (by omega) (hG.rvf (fM.tr fO)) hO a4
          exact ⟨N3, i1, QV.st (fM.tr fO) (o26.trans n26) hfe' (by omega) i2⟩
      · rw [if_neg q4] at hfe
        rw [if_neg q4, a2.1.1, wr_1 a2.1.2.2.1, ob_s, oc_s, c_eq_p (by decide) (by decide), if_pos rfl, bad_57 (by rw [upj]; omega)]
        refine ⟨_, rfl, fM.up (by omega), by rw [upx (by decide)]; exact n26, Or.inl ?_⟩
        rw [upj, hfe]
        dsimp only
        omega
    · rw [if_neg q3] at hfe
      rw [if_neg (fun z => q3 ((hhe 93 (by decide)).mp z)), oc_s, c_eq_p (by decide) (by decide), if_pos rfl, R_value_7, c_eq_p (by decide) (by decide), if_pos rfl]
      unfold R_value_57 R_value_82
      rw [good_1 a2.1.2.2.1, ob_s, c_eq_p (by decide) (by decide), if_neg (by decide), ht, ob_s, c_ne_p (by omega) (by decide)]
      by_cases q4 : hdO (smS true ops vs).2 = 91
      · rw [if_pos q4] at hfe
        rw [if_neg (fun z => z q4), a2.1.1, wr_1 a2.1.2.2.1, ob_s]
        refine ⟨_, rfl, fM.up (by omega), by rw [upx (by decide)]; exact n26, Or.inl ?_⟩
        rw [upj, hfe]
        dsimp only
        omega
      · rw [if_neg q4] at hfe
        rw [if_pos q4]
        exact ⟨N1, rfl, fM, n26, Or.inr ⟨p, _, _, t1, hfe, a2, by omega, hp.2, a4⟩⟩
/-- the reference's reader of a value -/
theorem Rvalue_eq {g : am_M} {n p : Int} {b t : Nat} {vs : List SX} {ops : List Int} {M : am_M} (hg : WG g) (hn : 1 ≤ n ∧ n ≤ 240) (hp : 0 ≤ p ∧ p ≤ n) (hG : GR g M) (h : RVt M n p b t vs ops 0) (hb : bnc ops ≤ vs.length) : ∃ N, R_value M = some N ∧ QV g n false p vs ops b M N := by
  have f0 : RVf b M (am_up M 73 27 0) := RVf.rf.up (by omega)
  have h0 : RVt (am_up M 73 27 0) n p b t vs ops 0 := by
    obtain ⟨⟨c3, c4, c5, c7, c8, c9⟩, s1, r1, l1', l2, l3⟩ := h
    exact ⟨⟨by rw [upx (by decide)]; exact c3, by rw [upx (by decide)]; exact c4, by rw [upx (by decide)]; exact c5, by rw [upx (by decide)]; exact c7, by rw [upx (by decide)]; exact c8, by rw [upx (by decide)]; exact c9⟩, s1.cg (fun j hj => by rw [upo (by decide)]), by rw [upo (by decide), upo (by decide)]; exact r1, l1', l2, l3⟩
  obtain ⟨N, a1, a2⟩ := (rv_all (b := b) hg hn 240).1 am_big 999999 p vs ops t _ (by omega) (by show _ < 1000000; omega) (by omega) hp (hG.rvf f0) h0 hb
  refine ⟨N, ?_, QV.st f0 (upx (by decide)) rfl (by omega) a2⟩
  unfold R_value
  rw [fz_p (Or.inl rfl), show am_big = 999999 + 1 from rfl, R_value_7, c_eq_p (by decide) (by decide), if_neg (by decide), good_1 h0.1.2.2.1, ob_s, c_eq_p (by decide) (by decide), if_neg (by decide), upj, c_ne_p (by decide) (by decide), if_neg (by decide)]
  unfold R_factor
  exact a1
