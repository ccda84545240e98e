def am_rd (code : ByteArray) (pc : Nat) (v : Option am_V) : Prop := match v with
  | some (.inl _) => decode code pc = .ok (.ireturn, 1)
  | some (.inr _) => decode code pc = .ok (.lreturn, 1)
  | none => decode code pc = .ok (.return_, 1)
def am_rv (ret : Option FieldType) (v : Option am_V) : Prop := match v with
  | some (.inl x) => ret = some .int ∨ (ret = some .boolean ∧ (x = 0 ∨ x = 1))
  | some (.inr (.inl _)) => ret = some .long
  | some (.inr (.inr _)) => False
  | none => ret = none
/-- from this place on: the machine comes to the same end -/
def am_B (L : Nat) (xs : Nat → Int) (b z : Nat) (D : va_G) (cA : Nat → ClassId) (d : Nat) (me : am_ME) (pc : Nat) (ls : am_L) (st : List am_V) (nc np : Nat) (M : am_M) (out : am_O) : Prop :=
  nc ≤ out.2.1 ∧ ∀ (p : Program) (l : Launch) (e : Env) (R : Room) (s : State) (m : MethodId) (args : Array Value) (below : List Frame) (meth : Method) (c : Code) (H : Heap) (locs : List Loc) (Q : State → Prop) (A : Array Slot) (nc0 : Nat),
    am_X p s m args c me.2.2.1 me.1 me.2.2.2.1 b z D cA L xs → ((me.2.1.name == "<init>") = true → meth.name = "<init>") → am_W b z D cA nc np M H → va_S (am_A z) s.heap H locs → lv_has A me.2.2.2.1 (am_lc b z ls) → d + 1 ≤ R.frames → 40 * d + 100 ≤ R.locals → nc0 ≤ nc → out.2.1 - nc0 ≤ R.cells → am_sl out.2.1 - am_sl nc0 ≤ R.slots →
    (∀ (H' : Heap) (locs' : List Loc) (A' : Array Slot) (pc' : Nat), am_W b z D cA out.2.1 out.2.2.1 out.2.2.2 H' → va_S (am_A z) s.heap H' locs' → am_rd me.2.2.1 pc' out.1 → am_rv me.2.2.2.2.1 out.1 → W p l e R s m args below meth c H' locs' (out.2.1 - nc0) (am_sl out.2.1 - am_sl nc0) Q (F0 m pc' A' (am_sc b z out.1.toList))) →
    W p l e R s m args below meth c H locs (nc - nc0) (am_sl nc - am_sl nc0) Q (F0 m pc A (am_sc b z st))
/-- what the words say of a method -/
theorem am_wdf {cn : Nat} {y : MethodName} {code : ByteArray} {nL : Nat} {ret : Option FieldType} {na stt : Nat} {wr : Bool} {ins : List (Nat × Instr × Nat)} {lv : List (Nat × List Nat)} (hcw : am_cwp (cn, y, code, nL, ret, na, stt, wr, ins, lv)) (h : ∃ w, am_wd (cn, y, code, nL, ret, na, stt, wr, ins, lv) w = true) : y.cls = am_cn.getD cn "" ∧ cn < 17 ∧ plainFor y = true ∧ (y.cls ≠ "java/lang/invoke/MethodHandle" ∧ y.cls ≠ "java/lang/invoke/VarHandle") ∧ (parseMethodDescriptor y.desc).map (fun d => d.parameters.length) = some (na - stt) ∧ nL ≤ 20 ∧ stt ≤ na ∧ Cond.code y code nL ret ∈ am_tb ∧ ((stt = 0 ∧ Cond.static y ∈ am_tb) ∨ (stt = 1 ∧ Cond.instanceMethod y ∈ am_tb ∧ (y.name = "<init>" ∨ Cond.selects y.cls y y ∈ am_tb))) ∧ Cond.initialized y.cls ∈ am_tb ∧ (y.name = "<init>" → ret = none) := by
  obtain ⟨w, h⟩ := h
  unfold am_wd at h
  simp only [Bool.and_eq_true, decide_eq_true_eq] at h
  obtain ⟨⟨⟨⟨⟨⟨⟨⟨⟨⟨h1, h2⟩, h3⟩, h4⟩, h5⟩, h6⟩, h7⟩, h10⟩, h11⟩, h12⟩, h13⟩ := h
  have h89 : Cond.code y code nL ret ∈ am_tb := by
    rcases hcw with hc | ⟨p, hp⟩
    · have : cn = 17 := hc
      omega
    · exact am_tbm hp rfl
  have h14 : y.name = "<init>" → ret = none := by
    intro hy
    split at h13
    · rfl
    · rw [hy] at h13; exact absurd h13 (by decide)
    · rw [hy] at h13; exact absurd h13 (by decide)
    · rw [hy] at h13; exact absurd h13 (by decide)
    · cases h13
  refine ⟨h1, h2, h3, h4, h5, h6, h7, h89, ?_, am_tbm h11 h12, h14⟩
  split at h10
  · simp only [Bool.and_eq_true, decide_eq_true_eq] at h10
    exact Or.inl ⟨rfl, am_tbm h10.1 h10.2⟩
  · simp only [Bool.and_eq_true, Bool.or_eq_true, decide_eq_true_eq, beq_iff_eq] at h10
    refine Or.inr ⟨rfl, am_tbm h10.1.1 h10.1.2, ?_⟩
    rcases h10.2 with h | h
    · exact Or.inl h
    · exact Or.inr (am_tbm h.1 h.2)
  · cases h10
theorem am_ofW {l : Launch} {y : MethodName} {ws ws' : List Cond} {rm : Room} {Pc : Array Value → State → Prop} {Qc : Array Value → State → Outcome → State → Prop} {mc ms : Nat} {free : Addr → Prop} {cc : ByteArray} {maxL : Nat} {ret : Option FieldType}
    (hy : plainFor y = true) (hw : ws = Cond.code y cc maxL ret :: ws')
    (body : ∀ p e s m args below meth c s₁, BodyLoose p l y (headSpec ws rm) cc maxL ret e s m args below meth c s₁ → c.maxLocals = maxL → Pc args s →
      W p l e (headSpec ws rm).room s m args below meth c s.heap [] 0 0 (MQ below Qc args s mc ms free) (entryFrame m args maxL)) : Met l y ws rm Pc Qc mc ms free := by
  refine MetFree.of_bodySF (code := cc) (maxLocals := maxL) (ret := ret) hy ?_ ?_
  · intro args s m h hn
    obtain ⟨meth, c, h1, h2, h3, h4, h5, h6, -, -⟩ := Cond.code_spec hn (atoms_spec (ws := ws) h _ (by rw [hw]; exact List.mem_cons_self))
    exact ⟨meth, c, h1, h2, h3, h4, h5, h6⟩
  · intro p e s m args below meth c s₁ B hml hP _
    have hh0 : s₁.heap = s.heap := by rw [B.state]; rfl
    obtain ⟨t, a1, o, b1, b2, b3⟩ := body p e s m args below meth c s₁ B hml hP s₁ hh0 (Stand.of_body B)
    exact ⟨t, o, a1, b1, b2, ⟨b3.1, b3.2⟩⟩
theorem am_GI {y : MethodName} {code : ByteArray} {nL : Nat} {ret : Option FieldType} (h : Cond.code y code nL ret ∈ am_tb) : GoodIn am_tb (Cond.code y code nL ret :: am_tb) := by
  intro w hw
  rcases List.mem_cons.mp hw with rfl | hw
  · exact am_tbs _ h
  · exact am_tbs _ hw
theorem am_met {L : Nat} {xs : Nat → Int} {b z : Nat} {D : va_G} {cA : Nat → ClassId} {d : Nat} {cn : Nat} {y : MethodName} {code : ByteArray} {nL : Nat} {ret : Option FieldType} {na stt : Nat} {wr : Bool} {ins : List (Nat × Instr × Nat)} {lv : List (Nat × List Nat)} {as : List am_V} {nc np : Nat} {M : am_M} {out : am_O} (hB : am_B L xs b z D cA d (cn, y, code, nL, ret, na, stt, wr, ins, lv) 0 (am_ar1 0 as) [] nc np M out) (hcw : am_cwp (cn, y, code, nL, ret, na, stt, wr, ins, lv)) (hw : ∃ w, am_wd (cn, y, code, nL, ret, na, stt, wr, ins, lv) w = true) (hct : am_ct as ≤ nL) (l : Launch) : Met l y (Cond.code y code nL ret :: am_tb) (am_rm d (out.2.1 - nc) (am_sl out.2.1 - am_sl nc)) (am_Pc b z D cA nc np M as) (am_Qc b z D cA out) (out.2.1 - nc) (am_sl out.2.1 - am_sl nc) (am_A z) := by
  obtain ⟨w1, w2, w3, w4, w5, w6, w7, w8, w9, w10, w11⟩ := am_wdf hcw hw
  refine am_ofW (cc := code) (maxL := nL) (ret := ret) w3 rfl ?_
  intro p e s m args below meth c s₁ B hml hv
  obtain ⟨rfl, hW, hK, hN, hz⟩ := hv
  have hts := atoms_spec (ws := Cond.code y code nL ret :: am_tb) B.pre
  have hown : s.vm.findClass (am_cn.getD cn "") = some m.cls := w1 ▸ findClass_of_methodNamed B.named
  have hlocks := B.notSynchronized
  have hr := B.returns
  have hin : meth.name = y.name := (name_of_methodNamed B.named B.method).1
  have hl := lv_entry (am_sc b z as) (n := nL) (by rw [am_lgs]; exact hct)
  rw [am_arg] at hl
  rw [lg_entry_eq]
  have key := hB.2 p l e (headSpec (Cond.code y code nL ret :: am_tb) (am_rm d (out.2.1 - nc) (am_sl out.2.1 - am_sl nc))).room s m (am_sc b z as).toArray below meth c s.heap [] (MQ below (am_Qc b z D cA out) (am_sc b z as).toArray s (out.2.1 - nc) (am_sl out.2.1 - am_sl nc) (am_A z)) _ nc ⟨B.exec, B.bytes, hml, hown, fun w hw => hts w (List.mem_cons_of_mem _ hw), hK, hN, hz, fun h => absurd h (by omega)⟩ (fun h => by rw [hin]; simpa using h) hW va_S.rf hl (Nat.le_refl _) (Nat.le_refl _) (Nat.le_refl _) (Nat.le_refl _) (Nat.le_refl _) ?_
  · rw [Nat.sub_self, Nat.sub_self] at key
    exact key
  · intro H' locs' A' pc' hW' hS' hrd hrv
    obtain ⟨v, nc', np', M'⟩ := out
    dsimp only at hW' hrd hrv ⊢
    have hq : ∀ o, o = v.map (am_cv b z) → ∀ t : State, t.heap = H' → s.WarmedH t.vm → am_Qc b z D cA (v, nc', np', M') (am_sc b z as).toArray s (.returned o) t := by
      intro o ho t ht hWa
      exact ⟨by rw [ho], by rw [ht]; exact hW', hS'.F ht⟩
    match v, hrd, hrv, hq with
    | some (.inl x), hrd, hrv, hq =>
      rcases hrv with h | ⟨h, hx⟩
      · exact W.iret B.exec B.bytes (hr.trans h) (hq _ rfl) hS'.2.2 hrd hlocks
      · exact W.zret B.exec B.bytes (hr.trans h) (ai_bool hx).1 (hq _ rfl) hS'.2.2 hrd hlocks
    | some (.inr (.inl x)), hrd, hrv, hq => exact W.lret B.exec B.bytes (hr.trans hrv) (hq _ rfl) hS'.2.2 hrd hlocks
    | none, hrd, hrv, hq => exact W.vret B.exec B.bytes (hr.trans hrv) (hq _ rfl) hS'.2.2 hrd hlocks
theorem am_cli {cn : Nat} {y : MethodName} {code : ByteArray} {nL : Nat} {ret : Option FieldType} {na stt : Nat} {wr : Bool} {ins : List (Nat × Instr × Nat)} {lv : List (Nat × List Nat)} {kd nc : Nat} {st as rest : List am_V} (h : am_cl (cn, y, code, nL, ret, na, stt, wr, ins, lv) kd st nc = some (as, rest)) : st = as.reverse ++ rest ∧ as.length = na ∧ am_ct rest ≤ 8 ∧ am_ct as ≤ nL ∧ ((kd = 0 ∧ stt = 0) ∨ (kd ≠ 0 ∧ stt = 1 ∧ (kd == 2) = (y.name == "<init>") ∧ ∃ k as' ks, as = .inr (.inr (some k)) :: as' ∧ k < nc ∧ am_sh[k]? = some (.inr (cn, ks)))) := by
  have hrev : ∀ l : List am_V, am_ct l.reverse = am_ct l := by
    intro l
    unfold am_ct
    rw [List.map_reverse, List.sum_reverse]
  unfold am_cl at h
  dsimp only at h
  split at h
  · rename_i hc
    obtain ⟨h1, h2, h3⟩ := hc
    split at h
    · split at h
      · rename_i hs
        simp only [Option.some.injEq, Prod.mk.injEq] at h
        obtain ⟨rfl, rfl⟩ := h
        exact ⟨by rw [List.reverse_reverse, List.take_append_drop], by simp; omega, h2, by rw [hrev]; exact h3, Or.inl ⟨rfl, hs⟩⟩
      · cases h
    · rename_i hkd
      split at h
      · rename_i k as' hk
        split at h
        · rename_i c' ks hsh
          split at h
          · rename_i hcc
            obtain ⟨g1, g2, g3, g4⟩ := hcc
            subst g3
            simp only [Option.some.injEq, Prod.mk.injEq] at h
            obtain ⟨rfl, rfl⟩ := h
            refine ⟨?_, ?_, h2, ?_, Or.inr ⟨hkd, g1, g4, k, as', ks, hk, g2, hsh⟩⟩
            · rw [List.reverse_reverse, List.take_append_drop]
            · simp; omega
            · rw [hrev]; exact h3
          · cases h
        · cases h
      · cases h
  · cases h
