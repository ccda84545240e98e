-- the last place to turn back
def SBl (t t' : am_M) (k : Int) : Prop := (t' 0 4 = t 0 4 ∧ t 0 1 ≤ t' 0 1) ∧ ∀ p : Nat, (p : Int) < k → t' 2 p = t 2 p ∧ t' 3 p = t 3 p ∧ t' 4 p = t 4 p ∧ t' 5 p = t 5 p
theorem SBl.rf {t : am_M} {k : Int} : SBl t t k := ⟨⟨rfl, by omega⟩, fun _ _ => ⟨rfl, rfl, rfl, rfl⟩⟩
theorem SBl.up {t t' : am_M} {k v : Int} {c j : Nat} (h : SBl t t' k) (hc : (c = 0 ∧ j ≠ 4 ∧ (j = 1 → t 0 1 ≤ v)) ∨ (c ≠ 0 ∧ (k ≤ j ∨ c = 1 ∨ c = 6))) : SBl t (am_up t' c j v) k := by
  have hcell : ∀ (d p : Nat), (p : Int) < k → d ≠ 0 → d ≠ 1 → d ≠ 6 → (am_up t' c j v) d p = t' d p := fun d p hp h0 h1 h6 => by
    by_cases e : d = c
    · subst e
      rw [upx (by omega)]
    · rw [upo e]
  refine ⟨?_, fun p hp => ?_⟩
  · rcases hc with ⟨e, h1, h2⟩ | ⟨e, _⟩
    · subst e
      rw [upx (by omega)]
      refine ⟨h.1.1, ?_⟩
      by_cases z : j = 1
      · subst z
        rw [upj]
        exact h2 rfl
      · rw [upx (by omega)]
        exact h.1.2
    · rw [upo (fun z => e z.symm)]
      exact h.1
  · rw [hcell 2 p hp (by decide) (by decide) (by decide), hcell 3 p hp (by decide) (by decide) (by decide), hcell 4 p hp (by decide) (by decide) (by decide), hcell 5 p hp (by decide) (by decide) (by decide)]
    exact h.2 p hp
theorem wa_sb {F : FT} {g t t' : am_M} {k f : Int} {p : Nat} (h : SBl t t' k) (hp : (p : Int) < k) (hk : k ≤ t 0 1) : waS F g t' p f = waS F g t p f := by
  obtain ⟨h2, h3, h4, h5⟩ := h.2 p hp
  have h1 := h.1.2
  have e1 : kdS g t' p = kdS g t p := by
    unfold kdS
    rw [if_pos (by omega), if_pos (by omega), show ((p : Int)).toNat = p by omega, h2]
  have e2 : wiS t' p = wiS t p := by
    unfold wiS
    rw [if_pos (by omega), if_pos (by omega), show ((p : Int)).toNat = p by omega, h3]
  have e3 : grS t' p = grS t p := by
    unfold grS
    rw [if_pos (by omega), if_pos (by omega), show ((p : Int)).toNat = p by omega, h4]
  have e4 : mkS t' p = mkS t p := by
    unfold mkS
    rw [if_pos (by omega), if_pos (by omega), show ((p : Int)).toNat = p by omega, h5]
  unfold waS
  rw [e1, e2, e3, e4, h.1.1]
theorem mb_sb {F : FT} {g t t' : am_M} {k : Int} (h : SBl t t' k) (hk : k ≤ t 0 1) : ∀ j : Nat, (j : Int) ≤ k → mbS F g t' j = mbS F g t j
  | 0, _ => rfl
  | j + 1, hj => by
    unfold mbS
    rw [mb_sb h hk j (by omega), wa_sb h (by omega) hk]
theorem reL_o {F : FT} {g : am_M} {c : Nat} (hc : c ≠ 1) : ∀ (k p : Nat) (t : am_M), reL F g k p t c = t c
  | 0, p, t => rfl
  | k + 1, p, t => by
    unfold reL
    rw [reL_o hc k (p + 1)]
    split
    · rw [upo hc]
    · rfl
abbrev QA (t t' : am_M) : Prop := SBl t t' (t 0 2) ∧ (t' 0 2 = t 0 2 ∨ t' 0 2 = t 0 2 - 1 ∨ t' 0 2 = t 0 2 + 1)
theorem spA_q {g t : am_M} {w : Int} {k : am_M → AR} (h1 : QA t (k (am_up t 0 3 (t 0 3 + w))).1) : QA t (spA g t w k).1 := by
  unfold spA
  split
  · exact h1
  · exact ⟨SBl.rf, Or.inl rfl⟩
theorem act_q {F : FT} {g t : am_M} {a : Int} (hw : WT t) : QA t (actS F g t a).1 := by
  have h1 := hw.1
  have h0 : QA t t := ⟨SBl.rf, Or.inl rfl⟩
  have hs : ∀ v, SBl t (am_up t 0 3 v) (t 0 2) := fun v => SBl.rf.up (Or.inl ⟨rfl, by decide, fun z => by omega⟩)
  unfold actS
  by_cases q1 : a = 43
  · rw [if_pos q1]
    by_cases q : t 0 0 = -1
    · rw [if_pos q]
      exact h0
    · rw [if_neg q]
      exact spA_q ⟨(hs _).up (Or.inl ⟨rfl, by decide, fun z => by omega⟩), Or.inl (by dsimp only; rw [upx (by decide), upx (by decide)])⟩
  rw [if_neg q1]
  by_cases q2 : a = 46
  · rw [if_pos q2]
    refine spA_q ⟨?_, Or.inl ?_⟩
    · have := hs (t 0 3 + 10)
      unfold SBl at this ⊢
      dsimp only
      rw [reL_o (by decide), reL_o (by decide), reL_o (by decide), reL_o (by decide), reL_o (by decide)]
      exact this
    · dsimp only
      rw [reL_o (by decide), upx (by decide)]
  rw [if_neg q2]
  have hmk : ∀ f, QA t (mkA g t f).1 := fun f => by
    unfold mkA
    by_cases q : b_and (mkS t (t 0 2)) f = 0
    · rw [if_pos q]
      exact spA_q ⟨(hs _).up (Or.inr ⟨by decide, Or.inl (by omega)⟩), Or.inl (by dsimp only; rw [upo (by decide), upx (by decide)])⟩
    · rw [if_neg q]
      exact h0
  by_cases q3 : a = 98
  · rw [if_pos q3]
    exact hmk 2
  rw [if_neg q3]
  by_cases q4 : a = 111
  · rw [if_pos q4]
    exact hmk 1
  rw [if_neg q4]
  by_cases q5 : a = 120
  · rw [if_pos q5]
    unfold skA
    by_cases q : skS t (t 0 2) = 0
    · rw [if_pos q]
      exact spA_q ⟨(hs _).up (Or.inr ⟨by decide, Or.inr (Or.inr rfl)⟩), Or.inl (by dsimp only; rw [upo (by decide), upx (by decide)])⟩
    · rw [if_neg q]
      exact h0
  rw [if_neg q5]
  unfold goA
  by_cases q6 : nbS (ceS t (t 0 2)) (wyS a) < 0
  · rw [if_pos q6]
    exact h0
  rw [if_neg q6]
  by_cases q7 : nbS (ceS t (t 0 2)) (wyS a) = ceS t (t 0 2 + 1)
  · rw [if_pos q7]
    exact spA_q ⟨(hs _).up (Or.inl ⟨rfl, by decide, fun z => by omega⟩), Or.inr (Or.inr (by dsimp only; rw [upj]))⟩
  rw [if_neg q7]
  by_cases q8 : nbS (ceS t (t 0 2)) (wyS a) = ceS t (t 0 2 - 1)
  · rw [if_pos q8]
    exact spA_q ⟨(hs _).up (Or.inl ⟨rfl, by decide, fun z => by omega⟩), Or.inr (Or.inl (by dsimp only; rw [upj]))⟩
  rw [if_neg q8]
  by_cases q9 : cutP g t (nbS (ceS t (t 0 2)) (wyS a))
  · rw [if_pos q9]
    have e1 := q9.1
    refine spA_q ⟨?_, Or.inr (Or.inr ?_)⟩
    · unfold apT
      have s1 := (hs (t 0 3 + cmS F g t (nbS (ceS t (t 0 2)) (wyS a)))).up (c := 1) (j := (t 0 0).toNat) (v := hd0 (t 1 (t 0 0).toNat + moS F g t (nbS (ceS t (t 0 2)) (wyS a)))) (Or.inr ⟨by decide, Or.inr (Or.inl rfl)⟩)
      have e01 : (am_up (am_up t 0 3 (t 0 3 + cmS F g t (nbS (ceS t (t 0 2)) (wyS a)))) 1 (t 0 0).toNat (hd0 (t 1 (t 0 0).toNat + moS F g t (nbS (ceS t (t 0 2)) (wyS a))))) 0 1 = t 0 1 := by rw [upo (by decide), upx (by decide)]
      dsimp only
      rw [e01]
      exact ((((((s1.up (Or.inr ⟨by decide, Or.inl (by omega)⟩)).up (Or.inr ⟨by decide, Or.inl (by omega)⟩)).up (Or.inr ⟨by decide, Or.inl (by omega)⟩)).up (Or.inr ⟨by decide, Or.inl (by omega)⟩)).up (Or.inr ⟨by decide, Or.inr (Or.inr rfl)⟩)).up (Or.inl ⟨rfl, by decide, fun z => by omega⟩)).up (Or.inl ⟨rfl, by decide, fun z => by omega⟩)
    · unfold apT
      dsimp only
      rw [upx (by decide), upj, upo (by decide), upx (by decide)]
      omega
  · rw [if_neg q9]
    exact h0
def noS (F : FT) (g : am_M) (s : Int) (t : am_M) (i : Int) (r : Int × Int) : Int × Int := if g 0 2 < t 0 3 + mbS F g t (t 0 2).toNat then r else (i, t 0 3 - s + mbS F g t (t 0 2).toNat)
def tuS (F : FT) (g : am_M) (ac : Nat → Int) (s : Int) : Nat → Nat → am_M → Int × Int → Int × Int
  | 0, _, _, r => r
  | k + 1, i, t, r => if (actS F g t (ac i)).2.1 = 0 then tuS F g ac s k (i + 1) (actS F g t (ac i)).1 (noS F g s (actS F g t (ac i)).1 ((i : Int) + 1) r) else r
theorem bk_step {F : FT} {g t t' N1 : am_M} {X : Int → am_M → Option am_M} (hF : FO F) (hg : WG g) (hw : WT t) (hw' : WT t') (hQ : QA t t') (hL : LWP F N1) (hG : GP g N1) (hT : TP 34 t' N1) : ∃ N2, c_le (N1 34 11) (t 0 2) (c_ge (N1 34 11) (t 0 2) (X (mbS F g t (t 0 2).toNat) N1) (oc (Trip_minutesOnto_34 (N1 34 11) 2 N1) fun v M => X (mbS F g t (t 0 2).toNat - v) M)) (oc (Trip_minutesOnto_34 (t 0 2) 2 N1) fun v M => X (mbS F g t (t 0 2).toNat + v) M) = X (mbS F g t' (t' 0 2).toNat) N2 ∧ LF N1 N2 := by
  have h1 := hw.1
  have h2 := hw'.1
  have e11 : N1 34 11 = t' 0 2 := hT.1.2.2.1
  have m0 := mb_sb (F := F) (g := g) hQ.1 (by omega) (t 0 2).toNat (by omega)
  rw [e11, c_le_p (by omega) (by omega), c_ge_p (by omega) (by omega)]
  rcases hQ.2 with q | q | q
  · rw [if_pos (by omega), if_pos (by omega), q, m0]
    exact ⟨N1, rfl, LF.rf⟩
  · obtain ⟨N2, a1, a2⟩ := Trip_minutesOnto_34_eq (p := t' 0 2) (f := 2) hF hL hg hw' hG hT (by omega) (Or.inr rfl)
    refine ⟨N2, ?_, a2⟩
    have m1 : mbS F g t' (t 0 2).toNat = mbS F g t' (t' 0 2).toNat + waS F g t' ((t' 0 2).toNat : Int) 2 := by
      rw [show (t 0 2).toNat = (t' 0 2).toNat + 1 by omega]
      rfl
    rw [show (((t' 0 2).toNat : Nat) : Int) = t' 0 2 by omega] at m1
    rw [if_pos (by omega), if_neg (by omega), a1, oc_s, show mbS F g t (t 0 2).toNat - waS F g t' (t' 0 2) 2 = mbS F g t' (t' 0 2).toNat by omega]
  · obtain ⟨N2, a1, a2⟩ := Trip_minutesOnto_34_eq (p := t 0 2) (f := 2) hF hL hg hw' hG hT (by omega) (Or.inr rfl)
    refine ⟨N2, ?_, a2⟩
    have m1 : mbS F g t' (t' 0 2).toNat = mbS F g t' (t 0 2).toNat + waS F g t' ((t 0 2).toNat : Int) 2 := by
      rw [show (t' 0 2).toNat = (t 0 2).toNat + 1 by omega]
      rfl
    rw [show (((t 0 2).toNat : Nat) : Int) = t 0 2 by omega] at m1
    rw [if_neg (by omega), a1, oc_s, show mbS F g t (t 0 2).toNat + waS F g t' (t 0 2) 2 = mbS F g t' (t' 0 2).toNat by omega]
theorem note_eq {F : FT} {g t M : am_M} {i s : Int} (hF : FO F) (hg : WG g) (hw : WT t) (hG : GP g M) (hT : TP 34 t M) (h9 : M 50 9 = 0) (h8 : M 50 8 = i) : ∃ N, Outing_noteTurn_50_34 s (mbS F g t (t 0 2).toNat) M = some N ∧ N 50 10 = (noS F g s t i (M 50 10, M 50 11)).1 ∧ N 50 11 = (noS F g s t i (M 50 10, M 50 11)).2 ∧ (∀ k, k ≠ 50 → N k = M k) ∧ ∀ j, j ≠ 10 → j ≠ 11 → N 50 j = M 50 j := by
  have h1 := hw.1
  have hb := mbS_b hF g t (t 0 2).toNat
  have hgl := hg.1
  have e12 : M 34 12 = t 0 3 := hT.1.2.2.2.1
  have e4 : M 1 4 = g 0 2 := hG.1.2.2.1
  unfold Outing_noteTurn_50_34 Outing_noteTurn_50_34_43 noS
  rw [h9, c_ne_p (by decide) (by decide), if_neg (by decide), e12, e4, c_gt_p (by omega) (by omega)]
  by_cases q : g 0 2 < t 0 3 + mbS F g t (t 0 2).toNat
  · rw [if_pos q, if_pos q]
    exact ⟨M, rfl, rfl, rfl, fun _ _ => rfl, fun _ _ _ => rfl⟩
  · rw [if_neg q, if_neg q, h8, fw_p, fw_p, upo (show (34 : Nat) ≠ 50 by decide), e12]
    refine ⟨_, rfl, by rw [upx (by decide), upj], by rw [upj], fun k hk => by rw [upo hk, upo hk], fun j h10 h11 => by rw [upx h11, upx h10]⟩
def TFr (M N : am_M) : Prop := ∀ k, k ≠ 12 → k ≠ 13 → k ≠ 50 → (k < 34 ∨ 41 < k) → N k = M k
theorem find_42 {F : FT} {g : am_M} {ac : Nat → Int} {m : Nat} {s : Int} (hF : FO F) (hg : WG g) (hm : m ≤ 90) (hac : ∀ i, i < m → am_R (ac i)) : ∀ (k f i : Nat) (t M : am_M), i + k = m → k < f → WT t → LT g t → GP g M → LWP F M → TP 34 t M → M 50 9 = 0 → M 50 3 = m → M 50 8 = i → (∀ j : Nat, j < m → M 51 j = ac j) → ∃ N, Outing_findTurn_50_34_42 f s (mbS F g t (t 0 2).toNat) (i : Int) M = some N ∧ N 50 10 = (tuS F g ac s k i t (M 50 10, M 50 11)).1 ∧ N 50 11 = (tuS F g ac s k i t (M 50 10, M 50 11)).2 ∧ TFr M N
  | 0, f + 1, i, t, M, e, hf, hw, hLT, hG, hL, hT, h9, h3, h8, h51 => by
    refine ⟨M, ?_, rfl, rfl, fun _ _ _ _ _ => rfl⟩
    unfold Outing_findTurn_50_34_42 Outing_findTurn_50_34_139
    rw [h3, c_ge_p (by omega) (by omega), if_pos (by omega)]
  | k + 1, f + 1, i, t, M, e, hf, hw, hLT, hG, hL, hT, h9, h3, h8, h51 => by
    obtain ⟨w1, w2, w3, w4⟩ := actS_W hF hg hw hLT (ac i)
    obtain ⟨N1, a1, a2, a3, a4, a5, a6⟩ := doAct_34_eq (a := ac i) hF hg hw hLT hG hL hT h9 (hac i (by omega))
    have e11 : M 34 11 = t 0 2 := hT.1.2.2.1
    unfold Outing_findTurn_50_34_42
    rw [h3, c_ge_p (by omega) (by omega), if_neg (by omega), c_ge_p (by omega) (by omega), if_neg (by omega), h9, c_ne_p (by decide) (by decide), if_neg (by decide), rd_p (by omega), show ((i : Int)).toNat = i by omega, h51 i (by omega), a1, ob_s, e11]
    obtain ⟨N2, b1, b2⟩ := bk_step (X := fun v M => Outing_findTurn_50_34_126 (Outing_findTurn_50_34_42 f) s v (i : Int) M) hF hg hw w1 (act_q (F := F) (g := g) (a := ac i) hw) (hL.vf a6 (by decide)) (hG.vf a6 (by decide)) a2
    rw [b1]
    have n50 : N2 50 = N1 50 := b2 50 (by decide) (by decide)
    have n3 : N2 50 3 = m := by rw [n50, a6.2 3 (by decide)]; exact h3
    have n51 : ∀ j : Nat, j < m → N2 51 j = ac j := fun j hj => by rw [b2 51 (by decide) (by decide), a6.1 51 (by decide) (by decide) (by decide) (by decide)]; exact h51 j hj
    have hG2 := (hG.vf a6 (by decide)).lf b2
    have hL2 := (hL.vf a6 (by decide)).lf b2
    have hT2 := a2.lf b2 (by decide)
    have f2 : TFr M N2 := fun c h1 h2 h3 h4 => by rw [b2 c h1 h2, a6.1 c h1 h2 h3 (by omega)]
    unfold Outing_findTurn_50_34_126 tuS
    by_cases q : (actS F g t (ac i)).2.1 = 0
    · rw [if_pos q]
      obtain ⟨N3, c1, c2, c3, c4, c5⟩ := note_eq (i := (i : Int) + 1) (s := s) hF hg w1 hG2 hT2 (by rw [n50]; omega) (by rw [n50]; omega)
      rw [c1, ob_s]
      have m10 : N2 50 10 = M 50 10 := by rw [n50, a6.2 10 (by decide)]
      have m11 : N2 50 11 = M 50 11 := by rw [n50, a6.2 11 (by decide)]
      rw [m10, m11] at c2 c3
      obtain ⟨N4, d1, d2, d3, d4⟩ := find_42 (s := s) hF hg hm hac k f (i + 1) _ N3 (by omega) (by omega) w1 w2 (hG2.cg (fun c _ => c4 c (by omega))) (hL2.cg (fun c _ _ => c4 c (by omega))) (hT2.cg (fun c _ _ => c4 c (by omega))) (by rw [c5 9 (by decide) (by decide), n50]; omega) (by rw [c5 3 (by decide) (by decide)]; exact n3) (by rw [c5 8 (by decide) (by decide), n50]; omega) (fun j hj => by rw [c4 51 (by decide)]; exact n51 j hj)
      rw [c2, c3] at d2 d3
      rw [show (i : Int) + 1 = ((i + 1 : Nat) : Int) by omega] at d2 d3 ⊢
      exact ⟨N4, d1, d2, d3, fun c h1 h2 h3 h4 => by rw [d4 c h1 h2 h3 h4, c4 c h3, f2 c h1 h2 h3 h4]⟩
    · rw [if_neg q]
      have n9 : N2 50 9 = 1 := by rw [n50]; omega
      unfold Outing_noteTurn_50_34 Outing_noteTurn_50_34_43
      rw [n9, c_ne_p (by decide) (by decide), if_pos (by decide), ob_s]
      obtain ⟨f, rfl⟩ : ∃ f', f = f' + 1 := ⟨f - 1, by omega⟩
      refine ⟨N2, ?_, by rw [n50, a6.2 10 (by decide)], by rw [n50, a6.2 11 (by decide)], f2⟩
      unfold Outing_findTurn_50_34_42 Outing_findTurn_50_34_139
      rw [n3, c_ge_p (by omega) (by omega), c_ge_p (by omega) (by decide), n9, c_ne_p (by decide) (by decide), if_pos (show (1 : Int) ≠ 0 by decide)]
      split
      · rfl
      · split <;> rfl
