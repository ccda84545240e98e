-- byTurns
def hd0 (v : Int) : Int := if v < 0 then 0 else if 99 < v then 99 else v
theorem hd0_b (v : Int) : 0 ≤ hd0 v ∧ hd0 v ≤ 99 := by
  unfold hd0
  split
  · omega
  · split <;> omega
def mx0 (v : Int) : Int := if v < 0 then 0 else v
theorem mx0_b (v : Int) : 0 ≤ mx0 v ∧ v ≤ mx0 v ∧ (mx0 v = 0 ∨ mx0 v = v) := by
  unfold mx0
  split <;> omega
theorem J_hd0 {v : Int} {M : am_M} (h : am_R v) : ∃ y, J_min 99 v M = some y ∧ J_max 0 y M = some (hd0 v) := by
  refine ⟨if v < 99 then v else 99, J_min_eq (by decide) h, ?_⟩
  rw [J_max_eq (by decide) (by split <;> omega)]
  unfold hd0
  congr 1
  repeat' split
  all_goals omega
theorem R_hd0 {v : Int} {M : am_M} (h : am_R v) : R_held v 99 M = some (hd0 v) := R_held_eq h (by decide)
theorem J_mx0 {v : Int} {M : am_M} (h : am_R v) : J_max 0 v M = some (mx0 v) := by
  rw [J_max_eq (by decide) h]
  unfold mx0
  congr 1
  repeat' split
  all_goals omega
theorem R_mx0 {v : Int} {M : am_M} (h : am_R v) (h2 : v ≤ 1000000000) : R_held v 1000000000 M = some (mx0 v) := by
  rw [R_held_eq h (by decide)]
  unfold mx0
  congr 1
  repeat' split
  all_goals omega
def tN (F : FT) (g t : am_M) (mem : Nat → Int) (k : Nat) (q : Int) : Int := F 110 20 (E7 2 0 (g 3 (mem k).toNat) q 0 0 (t 0 4))
def rN (F : FT) (g t : am_M) (mem : Nat → Int) (k : Nat) (q : Int) : Int := F 101 20 (E7 0 0 (g 3 (mem k).toNat) q 0 0 (t 0 4))
theorem tN_b {F : FT} (hF : FO F) (g t : am_M) (mem : Nat → Int) (k : Nat) (q : Int) : 0 ≤ tN F g t mem k q ∧ tN F g t mem k q ≤ 20 := hF.1 _ _ _ (by decide)
theorem rN_b {F : FT} (hF : FO F) (g t : am_M) (mem : Nat → Int) (k : Nat) (q : Int) : 0 ≤ rN F g t mem k q ∧ rN F g t mem k q ≤ 20 := hF.1 _ _ _ (by decide)
/-- how tired one changes in a turn -/
def dN (F : FT) (g t : am_M) (mem : Nat → Int) (one k : Nat) (q : Int) : Int := if k = one then tN F g t mem k q else -(rN F g t mem k q)
theorem dN_b {F : FT} (hF : FO F) (g t : am_M) (mem : Nat → Int) (one k : Nat) (q : Int) : -20 ≤ dN F g t mem one k q ∧ dN F g t mem one k q ≤ 20 := by
  have := tN_b hF g t mem k q
  have := rN_b hF g t mem k q
  unfold dN
  split <;> omega
def nxS (F : FT) (g t : am_M) (mem : Nat → Int) (ti : Nat → Int) (one : Nat) (k : Nat) : Int := hd0 (ti k + dN F g t mem one k (ti k))
abbrev TS : Type := (Nat → Int) × Int
def tu1 (F : FT) (g t : am_M) (mem : Nat → Int) (st : TS) (i : Int) : TS := (nxS F g t mem st.1 i.toNat, st.2 + mx0 (10 * g 3 (mem i.toNat).toNat - st.1 i.toNat))
def tuF (F : FT) (g t : am_M) (mem : Nat → Int) : TS → List Int → TS
  | st, [] => st
  | st, i :: l => tuF F g t mem (tu1 F g t mem st i) l
theorem tuF_app {F : FT} {g t : am_M} {mem : Nat → Int} : ∀ (l c : List Int) (st : TS), tuF F g t mem st (l ++ c) = tuF F g t mem (tuF F g t mem st l) c
  | [], c, st => rfl
  | i :: l, c, st => tuF_app l c (tu1 F g t mem st i)
def MB (g : am_M) (b : Nat) (mem : Nat → Int) (mo : Int) : Prop := (0 ≤ mo ∧ mo ≤ 90) ∧ ∀ k : Nat, k < b → (0 ≤ mem k ∧ mem k < 6) ∧ 10 * g 3 (mem k).toNat ≤ mo
def TSB (b : Nat) (k : Nat) (st : TS) : Prop := (∀ j : Nat, j < b → 0 ≤ st.1 j ∧ st.1 j ≤ 99) ∧ 0 ≤ st.2 ∧ st.2 ≤ 90 * k
theorem tu1_b {F : FT} {g t : am_M} {b : Nat} {mem : Nat → Int} {mo : Int} (hg : WG g) (hm : MB g b mem mo) {k : Nat} {st : TS} (h : TSB b k st) {i : Int} (hi : 0 ≤ i ∧ i < b) : TSB b (k + 1) (tu1 F g t mem st i) ∧ (tu1 F g t mem st i).2 ≤ st.2 + mo := by
  have h1 := h.1 i.toNat (by omega)
  have h2 := hm.2 i.toNat (by omega)
  have h3 := hg.2.2.2 (mem i.toNat).toNat (by omega)
  have h4 := mx0_b (10 * g 3 (mem i.toNat).toNat - st.1 i.toNat)
  have h5 := hm.1
  have h6 := h.2
  refine ⟨⟨fun j hj => hd0_b _, ?_, ?_⟩, ?_⟩
  · show 0 ≤ st.2 + _
    omega
  · show st.2 + _ ≤ _
    omega
  · show st.2 + _ ≤ _
    omega
theorem tuF_b {F : FT} {g t : am_M} {b : Nat} {mem : Nat → Int} {mo : Int} (hg : WG g) (hm : MB g b mem mo) : ∀ (l : List Int) (k : Nat) (st : TS), TSB b k st → (∀ x, x ∈ l → 0 ≤ x ∧ x < b) → TSB b (k + l.length) (tuF F g t mem st l) ∧ (tuF F g t mem st l).2 ≤ st.2 + l.length * mo
  | [], k, st, h, hx => ⟨h, by rw [List.length_nil]; show st.2 ≤ _; omega⟩
  | i :: l, k, st, h, hx => by
    obtain ⟨a1, a2⟩ := tu1_b (F := F) (t := t) hg hm h (hx i List.mem_cons_self)
    obtain ⟨b1, b2⟩ := tuF_b hg hm l (k + 1) (tu1 F g t mem st i) a1 (fun x h => hx x (List.mem_cons_of_mem _ h))
    rw [List.length_cons, show k + (l.length + 1) = k + 1 + l.length by omega]
    refine ⟨b1, ?_⟩
    show (tuF F g t mem (tu1 F g t mem st i) l).2 ≤ _
    rw [show ((l.length + 1 : Nat) : Int) = (l.length : Int) + 1 by omega, Int.add_mul, Int.one_mul]
    omega
/-- what the class noted of the law's answers -/
def CZ (F : FT) (g t : am_M) (b : Nat) (mem : Nat → Int) (M : am_M) : Prop := ∀ k q : Nat, k < b → q < 100 → (M 60 (100 * k + q) = -100 ∨ M 60 (100 * k + q) = tN F g t mem k q) ∧ (M 60 (100 * (4 + k) + q) = -100 ∨ M 60 (100 * (4 + k) + q) = -(rN F g t mem k q))
def SY (t : am_M) (b n : Nat) (mem : Nat → Int) (mo : Int) (M : am_M) : Prop := (M 57 3 = b ∧ M 57 8 = n ∧ M 57 9 = mo ∧ M 57 10 = t 0 4) ∧ ∀ k : Nat, k < b → M 58 k = mem k
def TF (M N : am_M) : Prop := (∀ c, c ≠ 12 → c ≠ 13 → c ≠ 57 → (c < 59 ∨ 62 < c) → N c = M c) ∧ ∀ j, j ≠ 11 → N 57 j = M 57 j
theorem TF.rf {M : am_M} : TF M M := ⟨fun _ _ _ _ _ => rfl, fun _ _ => rfl⟩
theorem TF.tr {M N O : am_M} (a : TF M N) (b : TF N O) : TF M O := ⟨fun k h1 h2 h3 h4 => (b.1 k h1 h2 h3 h4).trans (a.1 k h1 h2 h3 h4), fun j h => (b.2 j h).trans (a.2 j h)⟩
theorem LF.tf {M N : am_M} (a : LF M N) : TF M N := ⟨fun c h1 h2 _ _ => a c h1 h2, fun j _ => by rw [a 57 (by decide) (by decide)]⟩
theorem TF.up {M N : am_M} {c j : Nat} {v : Int} (a : TF M N) (h : 59 ≤ c ∧ c ≤ 62) : TF M (am_up N c j v) := ⟨fun k h1 h2 h3 h4 => by rw [upo (by omega)]; exact a.1 k h1 h2 h3 h4, fun i hi => by rw [upo (by omega)]; exact a.2 i hi⟩
theorem SY.tf {t : am_M} {b n : Nat} {mem : Nat → Int} {mo : Int} {M N : am_M} (h : SY t b n mem mo M) (e : TF M N) : SY t b n mem mo N := by
  unfold SY at *
  rw [e.2 3 (by decide), e.2 8 (by decide), e.2 9 (by decide), e.2 10 (by decide), e.1 58 (by decide) (by decide) (by decide) (by decide)]
  exact h
theorem GP.tf {g M N : am_M} (h : GP g M) (e : TF M N) : GP g N := by
  unfold GP at h ⊢
  rw [e.1 0 (by decide) (by decide) (by decide) (by decide), e.1 1 (by decide) (by decide) (by decide) (by decide), e.1 2 (by decide) (by decide) (by decide) (by decide), e.1 4 (by decide) (by decide) (by decide) (by decide), e.1 5 (by decide) (by decide) (by decide) (by decide), e.1 14 (by decide) (by decide) (by decide) (by decide), e.1 15 (by decide) (by decide) (by decide) (by decide)]
  exact h
theorem LWP.tf {F : FT} {M N : am_M} (h : LWP F M) (e : TF M N) : LWP F N := h.cg (fun k _ c => e.1 k (by omega) (by omega) (by omega) (by omega))
theorem memberAt_eq {t : am_M} {b n : Nat} {mem : Nat → Int} {mo : Int} {M : am_M} (h : SY t b n mem mo M) (hb : b ≤ 4) {k : Nat} (hk : k < b) : Shifts_memberAt_57 (k : Int) M = some (mem k) := by
  unfold Shifts_memberAt_57 Shifts_memberAt_57_19
  rw [c_lt_p (by omega) (by omega), if_neg (by omega), c_ge_p (by omega) (by omega), if_neg (by omega), rd_p (by omega), show ((k : Int)).toNat = k by omega, h.2 k hk]
theorem armOf_m {g M : am_M} {b : Nat} {mem : Nat → Int} {mo : Int} (hG : GP g M) (hm : MB g b mem mo) {k : Nat} (hk : k < b) : Country_armOf_1 (mem k) M = some (g 3 (mem k).toNat) := by
  have := (hm.2 k hk).1
  rw [Country_armOf_eq (by omega), if_pos this, hG.2.2.2 _ (by omega)]
theorem tiredIn_eq {M : am_M} {a k : Nat} (h : 4 * a + k < 28) : Shifts_tiredIn_57 (a : Int) (k : Int) M = some (M 59 (4 * a + k)) := by
  unfold Shifts_tiredIn_57 Shifts_tiredIn_57_29
  rw [c_lt_p (by omega) (by omega), if_neg (by omega), c_ge_p (by omega) (by omega), if_neg (by omega), rd_p (by omega), show (4 * (a : Int) + (k : Int)).toNat = 4 * a + k by omega]
/-- an answer of the law, noted or asked, and what comes of it -/
theorem pt_32 {F : FT} {g t M : am_M} {b n one i a : Nat} {mem : Nat → Int} {mo q : Int} {k2 : Int → Int → Int → am_M → Option am_M} (hF : FO F) (hg : WG g) (hw : WT t) (hm : MB g b mem mo) (hb : b ≤ 4) (ho : one < 10) (hi : i < b) (ha : a < 6) (hq : 0 ≤ q ∧ q ≤ 99) (hG : GP g M) (hL : LWP F M) (hS : SY t b n mem mo M) (hZ : CZ F g t b mem M) : ∃ N, Shifts_passTurn_57_32 k2 (a : Int) (one : Int) (i : Int) q 100 (if i = one then (i : Int) else 4 + (i : Int)) M = k2 (a : Int) (one : Int) ((i : Int) + 1) N ∧ N 59 = upf (M 59) (4 * (a + 1) + i) (hd0 (q + dN F g t mem one i q)) ∧ CZ F g t b mem N ∧ TF M N ∧ (∀ c, c ≠ 12 → c ≠ 13 → c ≠ 59 → c ≠ 60 → N c = M c) := by
  have hl := hw.1
  have hmm := (hm.2 i hi).1
  have hga := hg.2.2.2 (mem i).toNat (by omega)
  have hd := dN_b hF g t mem one i q
  have htn := tN_b hF g t mem i q
  have hrn := rN_b hF g t mem i q
  obtain ⟨s1, hs1⟩ : ∃ s1 : Nat, (if i = one then (i : Int) else 4 + (i : Int)) = (s1 : Int) ∧ s1 < 8 ∧ (s1 = i ∨ s1 = 4 + i) ∧ (i = one → s1 = i) ∧ (i ≠ one → s1 = 4 + i) := by
    by_cases z : i = one
    · exact ⟨i, by rw [if_pos z], by omega, Or.inl rfl, fun _ => rfl, fun h => absurd z h⟩
    · exact ⟨4 + i, by rw [if_neg z]; omega, by omega, Or.inr rfl, fun h => absurd h z, fun _ => rfl⟩
  have eidx : (100 * (s1 : Int) + q).toNat = 100 * s1 + q.toNat := by omega
  have hz := hZ i q.toNat hi (by omega)
  rw [show ((q.toNat : Nat) : Int) = q by omega] at hz
  have hval : M 60 (100 * s1 + q.toNat) = -100 ∨ M 60 (100 * s1 + q.toNat) = dN F g t mem one i q := by
    unfold dN
    by_cases z : i = one
    · rw [if_pos z, hs1.2.2.2.1 z]
      exact hz.1
    · rw [if_neg z, hs1.2.2.2.2 z]
      exact hz.2
  have h150 : ∀ N : am_M, N 60 (100 * s1 + q.toNat) = dN F g t mem one i q → ∃ O, Shifts_passTurn_57_150 k2 (a : Int) (one : Int) (i : Int) q (100 * (s1 : Int) + q) (4 * ((a : Int) + 1) + (i : Int)) N = k2 (a : Int) (one : Int) ((i : Int) + 1) O ∧ O = am_up N 59 (4 * (a + 1) + i) (hd0 (q + dN F g t mem one i q)) := by
    intro N hN
    refine ⟨_, ?_, rfl⟩
    obtain ⟨y, y1, y2⟩ := J_hd0 (v := q + dN F g t mem one i q) (M := N) (by omega)
    unfold Shifts_passTurn_57_150 Shifts_passTurn_57_176
    rw [rd_p (by omega), eidx, hN, y1, ob_s, y2, ob_s, wa_p (by omega), show (4 * ((a : Int) + 1) + (i : Int)).toNat = 4 * (a + 1) + i by omega]
  rw [hs1.1]
  unfold Shifts_passTurn_57_32
  rw [c_lt_p (by omega) (by omega), if_neg (by omega), c_ge_p (by omega) (by omega), if_neg (by omega), c_lt_p (by omega) (by omega), if_neg (by omega), c_ge_p (by omega) (by omega), if_neg (by omega), rd_p (by omega), eidx, c_ne_p (by omega) (by omega)]
  by_cases q1 : M 60 (100 * s1 + q.toNat) = -100
  · rw [if_neg (fun h => h q1), memberAt_eq hS hb hi, ob_s, armOf_m hG hm hi, ob_s, hS.1.2.2.2, c_ne_p (by omega) (by omega)]
    have fin : ∀ (N1 : am_M), LF M N1 → ∃ N, Shifts_passTurn_57_149 k2 (a : Int) (one : Int) (i : Int) q (100 * (s1 : Int) + q) (4 * ((a : Int) + 1) + (i : Int)) (100 * (s1 : Int) + q) (dN F g t mem one i q) N1 = k2 (a : Int) (one : Int) ((i : Int) + 1) N ∧ N 59 = upf (M 59) (4 * (a + 1) + i) (hd0 (q + dN F g t mem one i q)) ∧ CZ F g t b mem N ∧ TF M N ∧ (∀ c, c ≠ 12 → c ≠ 13 → c ≠ 59 → c ≠ 60 → N c = M c) := by
      intro N1 f1
      obtain ⟨O, o1, o2⟩ := h150 (am_up N1 60 (100 * s1 + q.toNat) (dN F g t mem one i q)) upj
      refine ⟨O, ?_, ?_, ?_, ?_, ?_⟩
      · unfold Shifts_passTurn_57_149
        rw [wa_p (by omega), eidx]
        exact o1
      · rw [o2, up_f, upo (by decide), f1 59 (by decide) (by decide)]
      · intro k p hk hp
        have z0 := hZ k p hk hp
        have e60 : O 60 = upf (M 60) (100 * s1 + q.toNat) (dN F g t mem one i q) := by rw [o2, upo (by decide), up_f, f1 60 (by decide) (by decide)]
        rw [e60]
        refine ⟨?_, ?_⟩
        · by_cases z : 100 * k + p = 100 * s1 + q.toNat
          · have z1 : k = s1 ∧ p = q.toNat := by omega
            have z2 : s1 = i := by omega
            have z3 : i = one := by
              by_cases z4 : i = one
              · exact z4
              · have := hs1.2.2.2.2 z4
                omega
            rw [z, upf_e]
            right
            unfold dN
            rw [if_pos z3, z1.1, z2, z1.2, show ((q.toNat : Nat) : Int) = q by omega]
          · rw [upf_n z]
            exact z0.1
        · by_cases z : 100 * (4 + k) + p = 100 * s1 + q.toNat
          · have z1 : 4 + k = s1 ∧ p = q.toNat := by omega
            have z3 : i ≠ one := fun z4 => by
              have := hs1.2.2.2.1 z4
              omega
            have z2 : k = i := by
              have := hs1.2.2.2.2 z3
              omega
            rw [z, upf_e]
            right
            unfold dN
            rw [if_neg z3, z2, z1.2, show ((q.toNat : Nat) : Int) = q by omega]
          · rw [upf_n z]
            exact z0.2
      · rw [o2]
        exact (f1.tf.up (by decide)).up (by decide)
      · intro c h1 h2 h3 h4
        rw [o2, upo h3, upo h4]
        exact f1 c h1 h2
    by_cases z : i = one
    · obtain ⟨N1, a1, a2⟩ := Law_tiring_eq (k := 2) (a := g 3 (mem i).toNat) (t := q) (y := t 0 4) hF hL (by decide) (by omega) (by omega) (by omega)
      rw [if_neg (by omega), a1, oc_s]
      have := fin N1 a2
      unfold dN at this ⊢
      rw [if_pos z] at this ⊢
      exact this
    · obtain ⟨N1, a1, a2⟩ := Law_resting_eq (a := g 3 (mem i).toNat) (t := q) (y := t 0 4) hF hL (by omega) (by omega) (by omega)
      rw [if_pos (by omega), a1, oc_s]
      have := fin N1 a2
      unfold dN at this ⊢
      rw [if_neg z] at this ⊢
      exact this
  · rw [if_pos q1]
    obtain ⟨O, o1, o2⟩ := h150 M (by rcases hval with z | z; exact absurd z q1; exact z)
    refine ⟨O, o1, ?_, ?_, ?_, ?_⟩
    · rw [o2, up_f]
    · unfold CZ at hZ ⊢
      rw [o2, upo (by decide)]
      exact hZ
    · rw [o2]
      exact TF.rf.up (by decide)
    · intro c _ _ h3 _
      rw [o2, upo h3]
theorem pt_lp {F : FT} {g t : am_M} {b n one a : Nat} {mem : Nat → Int} {mo : Int} {ti : Nat → Int} (hF : FO F) (hg : WG g) (hw : WT t) (hm : MB g b mem mo) (hb : b ≤ 4) (ho : one < 10) (ha : a < 6) (hti : ∀ j : Nat, j < b → 0 ≤ ti j ∧ ti j ≤ 99) : ∀ (k f i : Nat) (M : am_M), i + k = b → k < f → GP g M → LWP F M → SY t b n mem mo M → CZ F g t b mem M → (∀ j : Nat, j < b → M 59 (4 * a + j) = ti j) → (∀ j : Nat, j < i → M 59 (4 * (a + 1) + j) = nxS F g t mem ti one j) → ∃ N, Shifts_passTurn_57_2 f (a : Int) (one : Int) (i : Int) M = some N ∧ CZ F g t b mem N ∧ TF M N ∧ (∀ j : Nat, j < b → N 59 (4 * (a + 1) + j) = nxS F g t mem ti one j) ∧ (∀ j : Nat, j < 4 * (a + 1) → N 59 j = M 59 j) ∧ (∀ c, c ≠ 12 → c ≠ 13 → c ≠ 59 → c ≠ 60 → N c = M c)
  | 0, f + 1, i, M, e, hf, hG, hL, hS, hZ, h1, h2 => by
    refine ⟨M, ?_, hZ, TF.rf, fun j hj => h2 j (by omega), fun _ _ => rfl, fun _ _ _ _ _ => rfl⟩
    unfold Shifts_passTurn_57_2
    rw [hS.1.1, c_ge_p (by omega) (by omega), if_pos (by omega)]
  | k + 1, f + 1, i, M, e, hf, hG, hL, hS, hZ, h1, h2 => by
    obtain ⟨N1, a1, a2, a3, a4, a5⟩ := pt_32 (one := one) (i := i) (a := a) (q := ti i) (k2 := Shifts_passTurn_57_2 f) hF hg hw hm hb ho (by omega) ha (hti i (by omega)) hG hL hS hZ
    have e59 : ∀ j : Nat, j ≠ 4 * (a + 1) + i → N1 59 j = M 59 j := fun j hj => by rw [a2, upf_n hj]
    obtain ⟨N2, b1, b2, b3, b4, b5, b6⟩ := pt_lp (one := one) hF hg hw hm hb ho ha hti k f (i + 1) N1 (by omega) (by omega) (hG.tf a4) (hL.tf a4) (hS.tf a4) a3 (fun j hj => by rw [e59 _ (by omega)]; exact h1 j hj) (fun j hj => by
      by_cases z : j = i
      · rw [z, a2, upf_e]
        rfl
      · rw [e59 _ (by omega)]
        exact h2 j (by omega))
    refine ⟨N2, ?_, b2, a4.tr b3, b4, fun j hj => by rw [b5 j hj, e59 j (by omega)], fun c z1 z2 z3 z4 => by rw [b6 c z1 z2 z3 z4, a5 c z1 z2 z3 z4]⟩
    unfold Shifts_passTurn_57_2
    rw [hS.1.1, c_ge_p (by omega) (by omega), if_neg (by omega), tiredIn_eq (by omega), ob_s, h1 i (by omega), c_ne_p (by omega) (by omega)]
    by_cases z : i = one
    · rw [if_pos z] at a1
      rw [if_neg (by omega), a1, ← b1]
      rfl
    · rw [if_neg z] at a1
      rw [if_pos (by omega), a1, ← b1]
      rfl
/-- the rows' worth: less is more yards -/
def yaS (F : FT) (g t : am_M) (mem : Nat → Int) (st0 : TS) (l : List Int) : Int := -(tuF F g t mem st0 l).2
def ttB : List Int → Bool := fun _ => true
def YB (n : Nat) (M : am_M) (s : BS) : Prop := (M 57 11 = -s.1 ∧ -1000 ≤ s.1 ∧ s.1 ≤ 1) ∧ ∀ l, s.2 = some l → ∀ j : Nat, j < n → M 62 j = l.getD j 0
def RY (l : List Int) (M : am_M) : Prop := ∀ j : Nat, j < l.length → M 61 j = l.getD j 0
def XY (F : FT) (g t : am_M) (b n : Nat) (mem : Nat → Int) (mo : Int) (M : am_M) : Prop := GP g M ∧ LWP F M ∧ SY t b n mem mo M ∧ CZ F g t b mem M
theorem ft_lp {F : FT} {g t : am_M} {n k f b : Nat} {mem : Nat → Int} {mo : Int} {st0 : TS} {pre : List Int} (hF : FO F) (hg : WG g) (hw : WT t) (hm : MB g b mem mo) (hb : b ≤ 4) (hn : n ≤ 6) (h0 : TSB b 0 st0) (hk : pre.length + (k + 1) = n) (hx : ∀ x, x ∈ pre → 0 ≤ x ∧ x < b)
    (ih : ∀ (i : Nat) (s : BS) (M : am_M), i < b → XY F g t b n mem mo M → RY (pre ++ [(i : Int)]) M → YB n M s → (∀ j : Nat, j < b → M 59 (4 * (pre.length + 1) + j) = (tuF F g t mem st0 (pre ++ [(i : Int)])).1 j) → ∃ N, K_Shifts_fillTurn_R f 0 ((pre.length : Int) + 1) (tuF F g t mem st0 (pre ++ [(i : Int)])).2 M = some N ∧ YB n N (tr b (upB ttB (yaS F g t mem st0)) k (pre ++ [(i : Int)]) s) ∧ XY F g t b n mem mo N ∧ TF M N ∧ (∀ j : Nat, j < pre.length + 1 → N 61 j = M 61 j) ∧ (∀ j : Nat, j < 4 * (pre.length + 2) → N 59 j = M 59 j)) :
    ∀ (c f2 i : Nat) (s : BS) (M : am_M), i + c = b → c < f2 → XY F g t b n mem mo M → RY pre M → YB n M s → (∀ j : Nat, j < b → M 59 (4 * pre.length + j) = (tuF F g t mem st0 pre).1 j) → ∃ N, Shifts_fillTurn_57_22 (fun b0 b1 M => K_Shifts_fillTurn_R f 0 b0 b1 M) f2 (pre.length : Int) (tuF F g t mem st0 pre).2 (i : Int) M = some N ∧ YB n N (lpS (fun i s => tr b (upB ttB (yaS F g t mem st0)) k (pre ++ [(i : Int)]) s) c i s) ∧ XY F g t b n mem mo N ∧ TF M N ∧ (∀ j : Nat, j < pre.length → N 61 j = M 61 j) ∧ (∀ j : Nat, j < 4 * (pre.length + 1) → N 59 j = M 59 j)
  | 0, f2 + 1, i, s, M, e, hf, hX, hR, hY, h59 => by
    refine ⟨M, ?_, hY, hX, TF.rf, fun _ _ => rfl, fun _ _ => rfl⟩
    unfold Shifts_fillTurn_57_22
    rw [hX.2.2.1.1.1, c_ge_p (by omega) (by omega), if_pos (by omega)]
  | c + 1, f2 + 1, i, s, M, e, hf, hX, hR, hY, h59 => by
    obtain ⟨hG, hL, hS, hZ⟩ := hX
    obtain ⟨s3, s8, s9, s10⟩ := hS.1
    have hst := (tuF_b (F := F) (t := t) hg hm pre 0 st0 h0 hx).1
    rw [Nat.zero_add] at hst
    have h5 := hm.1
    have e11 := hY.1
    have hmul : (((n : Int)) - (pre.length : Int)) * mo = ((k : Int) + 1) * mo := by rw [show (n : Int) - (pre.length : Int) = (k : Int) + 1 by omega]
    have hmb := mub (x := 6) (y := 90) (show 0 ≤ (k : Int) + 1 by omega) h5.1 (by omega) h5.2
    have ht1 := hst.2
    unfold Shifts_fillTurn_57_22 Shifts_fillTurn_57_106 lpS
    rw [s3, c_ge_p (by omega) (by omega), if_neg (by omega), s8, s9, e11.1, hmul, c_le_p (by omega) (by omega)]
    by_cases q : (tuF F g t mem st0 pre).2 + ((k : Int) + 1) * mo ≤ -s.1
    · rw [if_pos q]
      have et : tr b (upB ttB (yaS F g t mem st0)) k (pre ++ [(i : Int)]) s = s := by
        refine tr_sk k _ (fun c' hc' hcx hP => ?_)
        have h1 := (tuF_b (F := F) (t := t) hg hm ([(i : Int)] ++ c') pre.length (tuF F g t mem st0 pre) hst (fun x h => by
          rcases List.mem_append.mp h with z | z
          · rw [List.mem_singleton] at z
            omega
          · exact hcx x z)).2
        have h2 : yaS F g t mem st0 (pre ++ [(i : Int)] ++ c') = -(tuF F g t mem (tuF F g t mem st0 pre) ([(i : Int)] ++ c')).2 := by
          unfold yaS
          rw [List.append_assoc, tuF_app]
        have h3 : (([(i : Int)] ++ c').length : Int) = (k : Int) + 1 := by
          rw [List.length_append, List.length_singleton, hc']
          omega
        rw [h3] at h1
        have h4 := hP.2
        rw [h2] at h4
        omega
      rw [et]
      exact ft_lp hF hg hw hm hb hn h0 hk hx ih c f2 (i + 1) s M (by omega) (by omega) ⟨hG, hL, hS, hZ⟩ hR hY h59
    · rw [if_neg q, wa_p (by omega)]
      have epl : ((pre.length : Int)).toNat = pre.length := by omega
      rw [epl]
      obtain ⟨M1, hM1⟩ : ∃ M1, M1 = am_up M 61 pre.length (i : Int) := ⟨_, rfl⟩
      rw [← hM1]
      have f0 : TF M M1 := by
        rw [hM1]
        exact TF.rf.up (by decide)
      have m59 : M1 59 = M 59 := by rw [hM1, upo (by decide)]
      have m60 : M1 60 = M 60 := by rw [hM1, upo (by decide)]
      have m62 : M1 62 = M 62 := by rw [hM1, upo (by decide)]
      have m57 : M1 57 = M 57 := by rw [hM1, upo (by decide)]
      have hmm := hm.2 i (by omega)
      have hga := hg.2.2.2 (mem i).toNat (by omega)
      have hti := hst.1 i (by omega)
      have hSt := hS.tf f0
      obtain ⟨N1, a1, a2, a3, a4, a5, a6⟩ := pt_lp (one := i) (n := n) (ti := (tuF F g t mem st0 pre).1) hF hg hw hm hb (by omega) (a := pre.length) (by omega) hst.1 b am_big 0 M1 (by omega) (by show _ < 1000000; omega) (hG.tf f0) (hL.tf f0) hSt (by unfold CZ at hZ ⊢; rw [m60]; exact hZ) (fun j hj => by rw [m59]; exact h59 j hj) (fun j hj => by omega)
      have a1' : Shifts_passTurn_57 (pre.length : Int) (i : Int) M1 = some N1 := a1
      have esk : tuF F g t mem st0 (pre ++ [(i : Int)]) = tu1 F g t mem (tuF F g t mem st0 pre) (i : Int) := by
        rw [tuF_app]
        rfl
      rw [memberAt_eq hSt hb (by omega), ob_s, armOf_m (hG.tf f0) hm (by omega), ob_s, tiredIn_eq (by omega), ob_s, m59, h59 i (by omega), J_mx0 (by omega), ob_s, a1', ob_s]
      have f1 := f0.tr a3
      obtain ⟨N2, b1, b2, b3, b4, b5, b6⟩ := ih i s N1 (by omega) ⟨hG.tf f1, hL.tf f1, hS.tf f1, a2⟩ (by
        intro j hj
        rw [List.length_append, List.length_singleton] at hj
        rw [gD_app, a6 61 (by decide) (by decide) (by decide) (by decide), hM1]
        by_cases z : j = pre.length
        · rw [if_pos z, z, upj]
        · rw [if_neg z, upx z]
          exact hR j (by omega)) (by
        unfold YB at hY ⊢
        rw [a6 57 (by decide) (by decide) (by decide) (by decide), a6 62 (by decide) (by decide) (by decide) (by decide), m57, m62]
        exact hY) (fun j hj => by rw [esk]; exact a4 j hj)
      rw [esk] at b1
      have b1' : K_Shifts_fillTurn_R f 0 ((pre.length : Int) + 1) ((tuF F g t mem st0 pre).2 + mx0 (10 * g 3 (mem i).toNat - (tuF F g t mem st0 pre).1 i)) N1 = some N2 := b1
      rw [b1', ob_s]
      have ff := f1.tr b4
      have p61 : ∀ j : Nat, j < pre.length → N2 61 j = M 61 j := fun j hj => by rw [b5 j (by omega), a6 61 (by decide) (by decide) (by decide) (by decide), hM1, upx (by omega)]
      have p59 : ∀ j : Nat, j < 4 * (pre.length + 1) → N2 59 j = M 59 j := fun j hj => by rw [b6 j (by omega), a5 j hj, m59]
      obtain ⟨N, c1, c2, c3, c4, c5, c6⟩ := ft_lp hF hg hw hm hb hn h0 hk hx ih c f2 (i + 1) _ N2 (by omega) (by omega) b3 (fun j hj => by rw [p61 j hj]; exact hR j hj) b2 (fun j hj => by rw [p59 _ (by omega)]; exact h59 j hj)
      exact ⟨N, c1, c2, c3, ff.tr c4, fun j hj => by rw [c5 j hj, p61 j hj], fun j hj => by rw [c6 j hj, p59 j hj]⟩
