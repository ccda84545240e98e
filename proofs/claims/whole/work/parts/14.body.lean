theorem am_xwi {nc : Nat} {lv : List (Nat × List Nat)} {r : Option am_N} {z : am_N} (h : am_xw nc lv r = some z) : ∃ (pc' : Nat) (ls' : am_L) (st' : List am_V) (nc' np' : Nat) (M' : am_M), z = .inl (pc', am_rs lv pc' ls', st', nc', np', M') ∧ r = some (.inl (pc', ls', st', nc', np', M')) ∧ nc ≤ nc' := by
  unfold am_xw at h
  split at h
  · split at h
    · rename_i hb
      exact ⟨_, _, _, _, _, _, (Option.some.inj h).symm, rfl, Nat.le_of_ble_eq_true hb⟩
    · cases h
  · cases h
theorem am_rsk {b z nL : Nat} {A : Array Slot} {lv : List (Nat × List Nat)} {pc : Nat} {ls : am_L} (h : lv_has A nL (am_lc b z ls)) : lv_has A nL (am_lc b z (am_rs lv pc ls)) := by
  unfold am_rs
  split
  · exact h
  · refine ⟨h.1, h.2.1, fun q hq => ?_⟩
    obtain ⟨w, hw, rfl⟩ := List.mem_map.mp hq
    obtain ⟨i, -, hi⟩ := List.mem_filterMap.mp hw
    cases hl : ls.lookup i with
    | none => rw [hl] at hi; cases hi
    | some v =>
      rw [hl] at hi
      cases hi
      exact h.2.2 _ (List.mem_map.mpr ⟨(i, v), am_lup hl, rfl⟩)
section AMI
variable {L : Nat} {xs : Nat → Int} {cn : Nat} {y : MethodName} {code : ByteArray} {nL : Nat} {ret : Option FieldType} {na stt : Nat} {wr : Bool} {ins : List (Nat × Instr × Nat)} {lv : List (Nat × List Nat)} {pc : Nat} {ls : am_L} {st : List am_V} {nc np : Nat} {M : am_M}
theorem am_sti1 {pc' nc' np' : Nat} {ls' : am_L} {st' : List am_V} {M' : am_M} (h : am_st L xs (cn, y, code, nL, ret, na, stt, wr, ins, lv) pc ls st nc np M = some (.inl (pc', ls', st', nc', np', M'))) : ∃ i len ls0, ins.lookup pc = some (i, len) ∧ ls' = am_rs lv pc' ls0 ∧ am_x L xs cn (y.name == "<init>") wr nL pc ls st nc np M i len = some (.inl (pc', ls0, st', nc', np', M')) ∧ nc ≤ nc' := by
  have key : ∀ {i : Instr} {len : Nat}, am_xw nc lv (am_x L xs cn (y.name == "<init>") wr nL pc ls st nc np M i len) = some (.inl (pc', ls', st', nc', np', M')) → ∃ ls0, ls' = am_rs lv pc' ls0 ∧ am_x L xs cn (y.name == "<init>") wr nL pc ls st nc np M i len = some (.inl (pc', ls0, st', nc', np', M')) ∧ nc ≤ nc' := by
    intro i len h
    obtain ⟨p1, l1, s1, n1, q1, M1, h1, h2, h3⟩ := am_xwi h
    cases h1
    exact ⟨l1, rfl, h2, h3⟩
  unfold am_st at h
  dsimp only at h
  split at h
  · cases h
  · rename_i i len hl
    suffices hk : ∃ ls0, ls' = am_rs lv pc' ls0 ∧ am_x L xs cn (y.name == "<init>") wr nL pc ls st nc np M i len = some (.inl (pc', ls0, st', nc', np', M')) ∧ nc ≤ nc' by
      obtain ⟨ls0, h1, h2, h3⟩ := hk
      exact ⟨i, len, ls0, hl, h1, h2, h3⟩
    split at h
    · split at h
      · split at h
        · cases h
        · split at h <;> cases h
        · cases h
      · cases h
    · split at h
      · split at h <;> cases h
      · cases h
    · split at h
      · split at h <;> cases h
      · cases h
    · split at h <;> cases h
    · split at h
      · exact key h
      · cases h
      · cases h
    · split at h
      · exact key h
      · cases h
      · cases h
    · exact key h
theorem am_sti2 {v : Option am_V} (h : am_st L xs (cn, y, code, nL, ret, na, stt, wr, ins, lv) pc ls st nc np M = some (.inr (.inl v))) : ∃ i len, ins.lookup pc = some (i, len) ∧ ((i = .ireturn ∧ ∃ x, st = [.inl x] ∧ v = some (.inl x) ∧ (ret = some .int ∨ (ret = some .boolean ∧ (x = 0 ∨ x = 1)))) ∨ (i = .lreturn ∧ ∃ x, st = [.inr (.inl x)] ∧ v = some (.inr (.inl x)) ∧ ret = some .long) ∨ (i = .return_ ∧ st = [] ∧ v = none ∧ ret = none)) := by
  have key : ∀ {i : Instr} {len : Nat} {P : Prop}, am_xw nc lv (am_x L xs cn (y.name == "<init>") wr nL pc ls st nc np M i len) = some (.inr (.inl v)) → P := by
    intro i len P h
    obtain ⟨p1, l1, s1, n1, q1, M1, h1, h2, h3⟩ := am_xwi h
    cases h1
  unfold am_st at h
  dsimp only at h
  split at h
  · cases h
  · rename_i i len hl
    refine ⟨i, len, hl, ?_⟩
    split at h
    · split at h
      · split at h
        · cases h
          exact Or.inl ⟨rfl, _, rfl, rfl, Or.inl rfl⟩
        · split at h
          · rename_i hb
            cases h
            exact Or.inl ⟨rfl, _, rfl, rfl, Or.inr ⟨rfl, hb⟩⟩
          · cases h
        · cases h
      · cases h
    · split at h
      · split at h
        · cases h
          exact Or.inr (Or.inl ⟨rfl, _, rfl, rfl, rfl⟩)
        · cases h
      · cases h
    · split at h
      · split at h
        · cases h
          exact Or.inr (Or.inr ⟨rfl, rfl, rfl, rfl⟩)
        · cases h
      · cases h
    · split at h <;> cases h
    · split at h
      · exact key h
      · cases h
      · cases h
    · split at h
      · exact key h
      · cases h
      · cases h
    · exact key h
theorem am_sti3 {t kd : Nat} (h : am_st L xs (cn, y, code, nL, ret, na, stt, wr, ins, lv) pc ls st nc np M = some (.inr (.inr (t, kd)))) : ∃ i len x ne q, ins.lookup pc = some (i, len) ∧ (am_ML.getD cn []).lookup x = some (t, ne, q) ∧ ((kd = 1 ∧ i = .invokevirtual x) ∨ (kd = 0 ∧ i = .invokestatic x) ∨ (kd = 2 ∧ i = .invokespecial x)) := by
  have key : ∀ {i : Instr} {len : Nat} {P : Prop}, am_xw nc lv (am_x L xs cn (y.name == "<init>") wr nL pc ls st nc np M i len) = some (.inr (.inr (t, kd))) → P := by
    intro i len P h
    obtain ⟨p1, l1, s1, n1, q1, M1, h1, h2, h3⟩ := am_xwi h
    cases h1
  unfold am_st at h
  dsimp only at h
  split at h
  · cases h
  · rename_i i len hl
    split at h
    · split at h
      · split at h
        · cases h
        · split at h <;> cases h
        · cases h
      · cases h
    · split at h
      · split at h <;> cases h
      · cases h
    · split at h
      · split at h <;> cases h
      · cases h
    · split at h
      · rename_i hm
        cases h
        exact ⟨_, _, _, _, _, hl, hm, Or.inl ⟨rfl, rfl⟩⟩
      · cases h
    · split at h
      · exact key h
      · rename_i hm
        cases h
        exact ⟨_, _, _, _, _, hl, hm, Or.inr (Or.inl ⟨rfl, rfl⟩)⟩
      · cases h
    · split at h
      · exact key h
      · rename_i hm
        cases h
        exact ⟨_, _, _, _, _, hl, hm, Or.inr (Or.inr ⟨rfl, rfl⟩)⟩
      · cases h
    · exact key h
theorem am_decl (h : am_dec (cn, y, code, nL, ret, na, stt, wr, ins, lv) = true) {i : Instr} {len : Nat} (hl : ins.lookup pc = some (i, len)) : decode code pc = .ok (i, len) ∧ am_ln i len = true := by
  have h1 := List.all_eq_true.mp h _ (am_lup hl)
  simpa only [Bool.and_eq_true, decide_eq_true_eq] using h1
end AMI
theorem am_fM {cn x t ne q : Nat} (h : (am_ML.getD cn []).lookup x = some (t, ne, q)) {me : am_ME} (hm : am_me[t]? = some me) (ht : t < 10000) : t < 313 ∧ ((ne = 0 ∧ Cond.methodLink (am_cn.getD cn "") x me.2.1 ∈ am_tb) ∨ ne = 1) := by
  have hl := am_lup h
  have h2 := List.all_eq_true.mp (am_n19 (l := am_ML) rfl am_kM hl) _ hl
  rw [Bool.or_eq_true, Bool.and_eq_true] at h2
  rcases h2 with h2 | h2
  · have := Nat.le_of_ble_eq_true h2
    dsimp only at this
    omega
  · obtain ⟨h3, h4⟩ := h2
    have h5 : t < 313 := by simpa using h3
    refine ⟨h5, ?_⟩
    dsimp only at h4
    rw [hm] at h4
    dsimp only at h4
    split at h4
    · simp only [Bool.and_eq_true, decide_eq_true_eq] at h4
      exact Or.inl ⟨rfl, am_tbm h4.1 h4.2⟩
    · exact Or.inr rfl
    · cases h4
theorem am_mel {t : Nat} {me : am_ME} (h : am_me[t]? = some me) : t < 10000 := by
  have h1 := (List.getElem?_eq_some_iff.mp h).1
  have h2 : am_me.length = 314 := by decide +kernel
  omega
def am_Pc (b z : Nat) (D : va_G) (cA : Nat → ClassId) (nc np : Nat) (M : am_M) (as : List am_V) : Array Value → State → Prop := va_Pc (am_sc b z as) (fun U => am_W b z D cA nc np M U.heap ∧ va_K D am_cls (am_tys cA) U ∧ am_NW U ∧ z ≤ U.heap.size)
def am_Qc (b z : Nat) (D : va_G) (cA : Nat → ClassId) (out : am_O) : Array Value → State → Outcome → State → Prop := fun _ st oc t => oc = .returned (out.1.map (am_cv b z)) ∧ am_W b z D cA out.2.1 out.2.2.1 out.2.2.2 t.heap ∧ va_F (am_A z) st t
def am_rm (d mc ms : Nat) : Room := { frames := d + 1, cells := mc, slots := ms, locals := 40 * d + 100 }
theorem am_NWm {s U : State} (hW : s.WarmedH U.vm) (h : am_NW s) : am_NW U := fun cn x t q me h1 h2 => va_Nw.warmM hW (h cn x t q me h1 h2)
theorem am_NWs {s U : State} (hv : s.vm = U.vm) (h : am_NW s) : am_NW U := fun cn x t q me h1 h2 => va_Nw.same rfl hv (h cn x t q me h1 h2)
theorem am_Pb {b z : Nat} {D : va_G} {cA : Nat → ClassId} {nc np : Nat} {M : am_M} {as : List am_V} : FrameBlind (am_Pc b z D cA nc np M as) := by
  intro a U g mk q
  obtain ⟨q0, qW, qK, qN, qz⟩ := q
  exact ⟨q0, qW, va_K.moved (u := U) (U := U.calling g mk a) (Vm.Alike.refl U.vm) qK, am_NWs (s := U) (U := U.calling g mk a) rfl qN, qz⟩
section AMK
variable {p : Program} {l : Launch} {e : Env} {R : Room} {s : State} {m : MethodId} {args : Array Value} {below : List Frame} {meth : Method} {c : Code} {H : Heap} {locs : List Loc} {cells slots : Nat} {Q : State → Prop}
variable {cc : ByteArray} {cn nL b z : Nat} {D : va_G} {cA : Nat → ClassId} {L : Nat} {xs : Nat → Int}
theorem am_callk {pc mc ms : Nat} {A : Array Slot} {st0 : List Value} {rest : List am_V} {a : Array Value} {out : am_O} (hr : va_Run p l e R s m args below meth c H locs cells slots mc ms (F0 m pc A st0) (am_sc b z rest) (am_Qc b z D cA out a) (am_A z)) (hS : va_S (am_A z) s.heap H locs)
    (kk : ∀ (H1 : Heap) (locs1 : List Loc), am_W b z D cA out.2.1 out.2.2.1 out.2.2.2 H1 → va_S (am_A z) s.heap H1 locs1 → W p l e R s m args below meth c H1 locs1 (cells + mc) (slots + ms) Q (F0 m (pc + 3) A (am_sc b z (out.1.toList ++ rest)))) : W p l e R s m args below meth c H locs cells slots Q (F0 m pc A st0) := by
  intro T hT X
  obtain ⟨v, st₀, t, T', L, h0, X', hL, e1, e2, ⟨hv, hw1, hz, hk⟩, st⟩ := hr T hT X
  have hv2 : v = out.1.map (am_cv b z) := by
    cases hv
    rfl
  subst hv2
  rw [h0] at hz hk
  obtain ⟨t2, a1, b1⟩ := kk T'.heap (locs ++ L) (by rw [e1]; exact hw1) ⟨Nat.le_trans hS.1 (by rw [e1]; exact hz), fun q h1 h2 => by rw [e1, hk q (Nat.lt_of_lt_of_le h1 hS.1) h2]; exact hS.2.1 q h1 h2, fun q hq => by
      rcases List.mem_append.mp hq with h | h
      · exact hS.2.2 q h
      · exact hL q h⟩ T' rfl X'
  have e5 : (out.1.map (am_cv b z)).toList ++ am_sc b z rest = am_sc b z (out.1.toList ++ rest) := by
    cases out.1 <;> rfl
  rw [e5] at st
  exact ⟨t2, st t2 a1, b1⟩
end AMK
