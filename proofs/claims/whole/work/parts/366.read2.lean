-- the law read: values, by the class
def VSt (M : am_M) (p : Int) (s : Nat) (bad : Int) : Prop := M 16 1 = 1 ∧ M 16 2 = p ∧ M 16 3 = bad ∧ M 17 2 = s
def VG (s : Nat) (M N : am_M) : Prop := (∀ k, (k < 16 ∨ 19 < k) → N k = M k) ∧ N 17 7 = M 17 7 ∧ ∀ j, j < s → N 18 j = M 18 j ∧ N 19 j = M 19 j
theorem VG.rf {s : Nat} {M : am_M} : VG s M M := ⟨fun _ _ => rfl, rfl, fun _ _ => ⟨rfl, rfl⟩⟩
theorem VG.tr {s : Nat} {M N O : am_M} (a : VG s M N) (b : VG s N O) : VG s M O := ⟨fun k h => (b.1 k h).trans (a.1 k h), b.2.1.trans a.2.1, fun j h => ⟨(b.2.2 j h).1.trans (a.2.2 j h).1, (b.2.2 j h).2.trans (a.2.2 j h).2⟩⟩
theorem VG.lo {s s' : Nat} {M N : am_M} (a : VG s M N) (h : s' ≤ s) : VG s' M N := ⟨a.1, a.2.1, fun j hj => a.2.2 j (by omega)⟩
theorem TX.vg {g M N : am_M} {n : Int} {s : Nat} (h : TX g n M) (e : VG s M N) : TX g n N := by
  refine ⟨?_, by rw [e.1 14 (by decide)]; exact h.2⟩
  have := h.1
  unfold GP at this ⊢
  rw [e.1 0 (by decide), e.1 1 (by decide), e.1 2 (by decide), e.1 4 (by decide), e.1 5 (by decide), e.1 14 (by decide), e.1 15 (by decide)]
  exact this
theorem VSt.p {M : am_M} {p q bad : Int} {s : Nat} (h : VSt M p s bad) : VSt (am_up M 16 2 q) q s bad ∧ ∀ s', VG s' M (am_up M 16 2 q) := ⟨⟨by rw [upx (by decide)]; exact h.1, upj, by rw [upx (by decide)]; exact h.2.2.1, by rw [upo (by decide)]; exact h.2.2.2⟩, fun s' => ⟨fun k hk => upo (by omega), by rw [upo (by decide)], fun j hj => by rw [upo (by decide), upo (by decide)]; exact ⟨rfl, rfl⟩⟩⟩
theorem lhere_0 {g M : am_M} {n p : Int} {s : Nat} (hn : 0 ≤ n ∧ n ≤ 260) (hX : TX g n M) (hp : am_R p) (h : VSt M p s 0) : LawReader_here_16 M = some (taS g n p) := by
  unfold LawReader_here_16 LawReader_here_16_30
  rw [h.2.2.1, c_lt_p (by decide) (by decide), if_neg (by decide), ck_p (by rw [h.1]; decide), ck_p (by rw [h.1]; decide), h.2.1, Tape_at_eq hX.1 hX.2 hn.1 hn.2 hp, ob_s]
theorem lhere_b {M : am_M} {p bad : Int} {s : Nat} (h : VSt M p s bad) (hb : bad < 0 ∧ -7000 ≤ bad) : LawReader_here_16 M = some (-2) := by
  unfold LawReader_here_16 LawReader_here_16_14 LawReader_here_16_30
  rw [h.2.2.1, c_lt_p (by omega) (by decide), if_pos hb.1]
theorem lfail_0 {M : am_M} {p f : Int} {s : Nat} (h : VSt M p s 0) : ∃ N, LawReader_fail_16 f M = some N ∧ VSt N p s (-1000 * f - p) ∧ ∀ s', VG s' M N := by
  refine ⟨am_up M 16 3 (-1000 * f - p), ?_, ⟨by rw [upx (by decide)]; exact h.1, by rw [upx (by decide)]; exact h.2.1, upj, by rw [upo (by decide)]; exact h.2.2.2⟩, fun s' => ⟨fun k hk => upo (by omega), by rw [upo (by decide)], fun j hj => by rw [upo (by decide), upo (by decide)]; exact ⟨rfl, rfl⟩⟩⟩
  unfold LawReader_fail_16 LawReader_fail_16_19 P_faultAt
  rw [h.2.2.1, c_ne_p (by decide) (by decide), if_neg (by decide), ob_s, fw_p, h.2.1]
theorem lfail_b {M : am_M} {p bad f : Int} {s : Nat} (h : VSt M p s bad) (hb : bad < 0 ∧ -7000 ≤ bad) : LawReader_fail_16 f M = some M := by
  unfold LawReader_fail_16 LawReader_fail_16_19
  rw [h.2.2.1, c_ne_p (by omega) (by decide), if_pos (by omega)]
theorem lemit {M : am_M} {p bad v w : Int} {s s0 : Nat} (h : VSt M p s bad) (hs : s ≤ 240) (h0 : s0 ≤ s) : ∃ r N, Law_emit_17 v w M = some (r, N) ∧ VG s0 M N ∧ (s < 240 → r = s ∧ VSt N p (s + 1) bad ∧ N 18 s = v ∧ N 19 s = w ∧ VG s M N) ∧ (∃ s', VSt N p s' bad ∧ s ≤ s' ∧ s' ≤ 240) := by
  by_cases q : s < 240
  · have hV : VSt (am_up (am_up (am_up M 18 s v) 19 s w) 17 2 ((s : Int) + 1)) p (s + 1) bad := ⟨by rw [upo (by decide), upo (by decide), upo (by decide)]; exact h.1, by rw [upo (by decide), upo (by decide), upo (by decide)]; exact h.2.1, by rw [upo (by decide), upo (by decide), upo (by decide)]; exact h.2.2.1, by rw [upj]; omega⟩
    have hG : VG s M (am_up (am_up (am_up M 18 s v) 19 s w) 17 2 ((s : Int) + 1)) := ⟨fun k hk => by rw [upo (by omega), upo (by omega), upo (by omega)], by rw [upx (by decide), upo (by decide), upo (by decide)], fun j hj => by rw [upo (by decide), upo (by decide), upx (by omega), upo (by decide), upx (by omega), upo (by decide)]; exact ⟨rfl, rfl⟩⟩
    refine ⟨s, am_up (am_up (am_up M 18 s v) 19 s w) 17 2 ((s : Int) + 1), ?_, hG.lo h0, fun _ => ⟨rfl, hV, by rw [upo (by decide), upo (by decide), upj], by rw [upo (by decide), upj], hG⟩, s + 1, hV, by omega, by omega⟩
    unfold Law_emit_17
    rw [h.2.2.2, c_lt_p (by omega) (by decide), if_pos (by omega), wa_p (by omega), upo (show (17 : Nat) ≠ 18 by decide), h.2.2.2, wa_p (by omega), upo (show (17 : Nat) ≠ 19 by decide), upo (show (17 : Nat) ≠ 18 by decide), h.2.2.2, fw_p, show ((s : Int)).toNat = s by omega, upj, show (s : Int) + 1 - 1 = (s : Int) by omega]
  · refine ⟨-1, M, ?_, VG.rf, fun z => absurd z q, s, h, Nat.le_refl _, hs⟩
    unfold Law_emit_17
    rw [h.2.2.2, c_lt_p (by omega) (by decide), if_neg (by omega)]
theorem lidx_eq {c : Int} {M : am_M} (h : am_R c) : Law_letterIndex c M = some (lxS c) := by
  unfold Law_letterIndex lxS
  rw [ck_p h]
  repeat' split
  all_goals rfl
theorem lps_eq {c : Int} {M : am_M} (h : am_R c) : LawReader_isProductSign c M = some (if tiO c then 1 else 0) := by
  unfold LawReader_isProductSign LawReader_isProductSign_18 LawReader_isProductSign_23
  rw [c_eq_p h (by decide), c_eq_p h (by decide), c_ne_p h (by decide), ck_p (by decide), ck_p (by decide)]
  by_cases q1 : c = 42
  · rw [if_pos q1, if_pos (by omega)]
  rw [if_neg q1]
  by_cases q2 : c = 47
  · rw [if_pos q2, if_pos (by omega)]
  rw [if_neg q2]
  by_cases q3 : c = 37
  · rw [if_neg (fun h => h q3), if_pos (by omega)]
  · rw [if_pos q3, if_neg (by omega)]
/-- nothing more is read -/
theorem fac_b {M : am_M} {p bad d : Int} {s f : Nat} (h : VSt M p s bad) (hb : bad < 0 ∧ -7000 ≤ bad) : K_LawReader_readSum_R (f + 1) 2 d M = some M := by
  show LawReader_readFactor_16 (fun b0 M => K_LawReader_readSum_R f 0 b0 M) d M = some M
  unfold LawReader_readFactor_16 LawReader_readFactor_16_158
  rw [lhere_b h hb, ob_s, c_ne_p (by decide) (by decide), if_pos (by decide), lidx_eq (by decide), ob_s, c_lt_p (by decide) (by decide), if_pos (by decide), P_isDigit_eq (by decide), ob_s, c_eq_p (by decide) (by decide), if_pos (by decide), lfail_b h hb, ob_s]
theorem pro7_b {M : am_M} {p bad d x : Int} {s fu : Nat} {rc : Int → am_M → Option am_M} (h : VSt M p s bad) (hb : bad < 0 ∧ -7000 ≤ bad) (hx : am_R x) : LawReader_readProduct_16_7 rc (fu + 1) d x M = some M := by
  rw [LawReader_readProduct_16_7]
  unfold LawReader_readProduct_16_60
  rw [lhere_b h hb, ob_s, lps_eq (by decide), ob_s, c_eq_p (by decide) (by decide), if_pos (by decide), c_ge_p hx (by decide)]
  split <;> rfl
theorem sum7_b {M : am_M} {p bad d x : Int} {s fu : Nat} {rc : Int → am_M → Option am_M} (h : VSt M p s bad) (hb : bad < 0 ∧ -7000 ≤ bad) (hx : am_R x) : LawReader_readSum_16_7 rc (fu + 1) d x M = some M := by
  rw [LawReader_readSum_16_7]
  unfold LawReader_readSum_16_68
  rw [lhere_b h hb, ob_s, c_eq_p (by decide) (by decide), if_neg (by decide), ob_s, c_ne_p (by decide) (by decide), if_pos (by decide), c_ge_p hx (by decide)]
  split <;> rfl
theorem pro_b {M : am_M} {p bad d : Int} {s f : Nat} (h : VSt M p s bad) (hb : bad < 0 ∧ -7000 ≤ bad) : K_LawReader_readSum_R (f + 2) 1 d M = some M := by
  show LawReader_readProduct_16 (fun b0 M => K_LawReader_readSum_R (f + 1) 2 b0 M) d M = some M
  unfold LawReader_readProduct_16
  dsimp only
  rw [fac_b h hb, ob_s]
  exact pro7_b (fu := 999999) h hb (by decide)
theorem sum_b {M : am_M} {p bad d : Int} {s f : Nat} (h : VSt M p s bad) (hb : bad < 0 ∧ -7000 ≤ bad) : K_LawReader_readSum_R (f + 3) 0 d M = some M := by
  show LawReader_readSum_16 (fun b0 M => K_LawReader_readSum_R (f + 2) 1 b0 M) d M = some M
  unfold LawReader_readSum_16
  dsimp only
  rw [pro_b h hb, ob_s]
  exact sum7_b (fu := 999999) h hb (by decide)
/-- behind a reader of the class: the same end -/
def VO (g : am_M) (n : Int) (beh : Bool) (p : Int) (vs : List SX) (st0 : List SX) (ops : List Int) (D s w : Nat) (E : Int → Prop) (M N : am_M) : Prop := VG s M N ∧ ∃ (p' : Int) (s' : Nat) (bad : Int), VSt N p' s' bad ∧ s ≤ s' ∧ s' ≤ 240 ∧ ((bad < 0 ∧ -7000 ≤ bad ∧ (vfin g n beh p st0 ops).1 = bad) ∨ (bad = 0 ∧ ∃ x : SX, s' = s + x.1 ∧ XO x ∧ CE (N 18) (N 19) s x ∧ x.2.1 ≤ D ∧ (p ≤ p' ∧ (beh = false → p < p')) ∧ p' ≤ n ∧ (s' : Int) + p ≤ p' + w ∧ vfin g n beh p st0 ops = vfin g n true p' (x :: vs) ops ∧ E (taS g n p')))
def FacOK (g : am_M) (n : Int) (d f : Nat) : Prop := ∀ (p : Int) (vs : List SX) (ops : List Int) (s : Nat) (M : am_M), opn ops = d → 0 ≤ p ∧ p ≤ n → (s : Int) ≤ p → TX g n M → VSt M p s 0 → ∃ N, K_LawReader_readSum_R f 2 (d : Int) M = some N ∧ VO g n false p vs vs ops (13 - 2 * d) s s (fun _ => True) M N
def ProOK (g : am_M) (n : Int) (d f : Nat) : Prop := ∀ (p : Int) (vs : List SX) (ops : List Int) (s : Nat) (M : am_M), opn ops = d → ¬ tiO (hdO ops) → 0 ≤ p ∧ p ≤ n → (s : Int) ≤ p → TX g n M → VSt M p s 0 → ∃ N, K_LawReader_readSum_R f 1 (d : Int) M = some N ∧ VO g n false p vs vs ops (14 - 2 * d) s s (fun c => ¬ tiO c) M N
def SumOK (g : am_M) (n : Int) (d f : Nat) : Prop := ∀ (p : Int) (vs : List SX) (ops : List Int) (s : Nat) (M : am_M), opn ops = d → ¬ tiO (hdO ops) → ¬ plO (hdO ops) → 0 ≤ p ∧ p ≤ n → (s : Int) ≤ p → TX g n M → VSt M p s 0 → ∃ N, K_LawReader_readSum_R f 0 (d : Int) M = some N ∧ VO g n false p vs vs ops (15 - 2 * d) s s (fun c => ¬ tiO c ∧ ¬ plO c) M N
