/-! THE CLAIM OUT OF ONE WALK OF THE LAW'S BODY. Your part is whole_start (and what it stands on); all else here is the same for every law, but numbers. -/
def R_law : String := "BlazedPathLaw"
def lw_P (b : Addr) (xs : List Int32) (args : Array Value) (s : State) : Prop := args = #[.ref b] ∧ s.IntsAt b xs ∧ xs.length ≤ 3072 ∧ (Jvm.Cond.and given_1 narrow_1).before args s = true
def lw_Q (_ : Array Value) (s : State) (o : Outcome) (t : State) : Prop := o = .returned (some (.int 1)) ∧ Framed s o t [] 600000 7302250
def lw_Z (below : List Frame) (a : Array Value) (s : State) : State → Prop := fun t => ∃ o, t.status = .running ∧ Ended t below o ∧ lw_Q a s o t
/-- the law's own end, with 1 on the stack, nothing written that was there before, its room as the claim has it -/
theorem lw_ret {p : Program} {l : Launch} {e : Env} {s : State} {m : MethodId} {below : List Frame} {meth : Method} {c : Code} {b : Nat} (hx : p.tables.exec = Jvm.exec) (hb : c.code = code) (hr : meth.sig.returnType = ret) (hlocks : meth.locks = false) {pc : Nat} {H : Heap} {ls : Array Slot} (hdg : decode code pc = .ok (.ireturn, 1)) : W p l e room_1 s m #[Value.ref b] below meth c H [] 600000 7302250 (lw_Z below #[Value.ref b] s) (F0 m pc ls [.int 1]) := by
  intro T hT X
  obtain ⟨fs, hret, hrun, hended, hW, hframe⟩ := X.leave (v := some (.int 1)) (hlocks := hlocks) (fun h => by rw [hr] at h; cases h)
  have hmeth' : T.vm.method? m = some meth := X.method'
  refine ⟨T.setFrames fs, ?_, .returned (some (.int 1)), hrun, hended, rfl, ⟨_, rfl⟩, hW, hframe⟩
  jvm_step X.here [X.here.top, hx, hb, hdg, hmeth', hr, ret, narrow_b1]
  (try refine ⟨rfl, ?_⟩); (try refine ⟨rfl, ?_⟩)
  first | (intro acts; rw [hret _ acts rfl rfl rfl]) | rw [hret _ _ rfl rfl rfl]
  exact Steps.refl _
/-- what holds at the law's entry: the machine, the code, the tables' words (any of lw_tbl by 'hts w (by decide +kernel)'), the script of L ints xs at the cell b, what the Statement gives of the start (any of its parts by flat_of_before) -/
def lw_At (p : Program) (s : State) (m : MethodId) (meth : Method) (c : Code) (b L : Nat) (xs : Nat → Int32) : Prop :=
  p.tables.exec = Jvm.exec ∧ c.code = code ∧ meth.sig.returnType = ret ∧ c.maxLocals = 4 ∧ s.vm.findClass R_law = some m.cls ∧ (∀ w ∈ lw_tbl, w.before #[Value.ref b] s = true) ∧ va_X b L xs s s.heap ∧ b < s.heap.size ∧ meth.locks = false ∧ (Jvm.Cond.and given_1 narrow_1).before #[Value.ref b] s = true
/-- THE WHOLE, in numbers: on every script the law's run in the machine of numbers ends with 1 -/
def am_LAW : Prop := ∀ (L : Nat) (xs : Nat → Int), L ≤ 3072 → (∀ j, am_R (xs j)) → ∃ (n np : Nat) (M : am_M), am_run L xs n 100 me_313 0 [(0, .inr (.inr (some 999)))] [] 0 0 (fun _ _ => 0) = some (some (.inl 1), 126, np, M)
theorem am_arc {t : FieldType} {w : Cond} {args : Array Value} {s : State} (hw : w = .arrayClass t) (h : w.before args s = true) : ∃ cA, ArrOfT s cA t ∧ s.vm.findClass ("[" ++ t.toString) = some cA := by
  subst hw
  obtain ⟨cA, kA, comp, h1, h2, h3⟩ := Cond.arrayClass_spec h
  exact ⟨cA, fun n z => ⟨fun k h => (by cases h), kA, h2, comp, h3⟩, h1⟩
theorem am_kn {args : Array Value} {s : State} (hts : ∀ w ∈ am_tb, w.before args s = true) : ∃ (dC : Nat → ClassId) (dI : Nat → Nat → Nat), ∀ (k : Nat) (q : vw_C), am_cls[k]? = some q → u_Kn s q.1 q.2.1 q.2.2 (dC k) (dI k) := by
  have h : ∀ k : Nat, ∃ (x : ClassId × (Nat → Nat)), ∀ q : vw_C, am_cls[k]? = some q → u_Kn s q.1 q.2.1 q.2.2 x.1 x.2 := by
    intro k
    cases hk : am_cls[k]? with
    | none => exact ⟨(0, fun _ => 0), fun q hq => by cases hq⟩
    | some q =>
      obtain ⟨C, T, N⟩ := q
      have hI := am_fI hk
      obtain ⟨cC, iS, hKn⟩ := u_known (C := C) (T := T) (N := N) (n := N) hts hI.2.2.1 (hts _ hI.1)
      exact ⟨(cC, iS), fun q hq => by cases hq; exact hKn⟩
  exact ⟨fun k => (Classical.choose (h k)).1, fun k => (Classical.choose (h k)).2, fun k q hq => Classical.choose_spec (h k) q hq⟩
theorem am_nw {args : Array Value} {s : State} (hts : ∀ w ∈ lw_tbl, w.before args s = true) : am_NW s := by
  intro cn x t q me h hm
  have hl := am_lup h
  have h2 := List.all_eq_true.mp (am_n19 (l := am_ML) rfl am_kM hl) _ hl
  rw [Bool.or_eq_true, Bool.and_eq_true] at h2
  rcases h2 with h2 | h2
  · have h3 := Nat.le_of_ble_eq_true h2
    have h4 := am_mel hm
    dsimp only at h3
    omega
  · have h4 := h2.2
    dsimp only at h4
    rw [hm] at h4
    dsimp only at h4
    have h5 := of_decide_eq_true h4
    exact va_Nw.of rfl (hts _ (List.mem_of_getElem? h5))
set_option maxRecDepth 100000 in
theorem whole_open (hLAW : am_LAW) {p : Program} {e : Env} {s : State} {m : MethodId} {below : List Frame} {meth : Method} {c : Code} (l : Launch) {b L : Nat} {xs : Nat → Int32} (hL : L ≤ 3072) (C0 : lw_At p s m meth c b L xs) : W p l e room_1 s m #[Value.ref b] below meth c s.heap [] 0 0 (lw_Z below #[Value.ref b] s) (entryFrame m ([Value.ref b] : List Value).toArray 4) := by
  obtain ⟨hx, hb, hr, hml, hown, hts, hX, hbl, hlocks, hgv⟩ := id C0
  have hts2 : ∀ w ∈ am_tb, w.before #[Value.ref b] s = true := fun w hw => hts w (List.mem_filter.mp hw).1
  obtain ⟨dC, dI, hKn⟩ := am_kn hts2
  obtain ⟨k1, k2, k3, k4⟩ := am_kA
  obtain ⟨c0, a0, f0⟩ := am_arc rfl (hts _ (List.mem_of_getElem? k1))
  obtain ⟨c1, a1, f1⟩ := am_arc rfl (hts _ (List.mem_of_getElem? k2))
  obtain ⟨c2, a2, f2⟩ := am_arc rfl (hts _ (List.mem_of_getElem? k3))
  obtain ⟨c3, a3, f3⟩ := am_arc rfl (hts _ (List.mem_of_getElem? k4))
  have hK : va_K (dC, dI) am_cls (am_tys fun t => match t with | 0 => c0 | 1 => c1 | 2 => c2 | _ => c3) s := by
    refine ⟨hKn, fun k q hk => ?_⟩
    match k, hk with
    | 0, hk => cases hk; exact ⟨a0, f0⟩
    | 1, hk => cases hk; exact ⟨a1, f1⟩
    | 2, hk => cases hk; exact ⟨a2, f2⟩
    | 3, hk => cases hk; exact ⟨a3, f3⟩
  obtain ⟨n, np, M, hrun⟩ := hLAW L (fun j => (xs j).toInt) hL (fun j => ⟨Int32.le_toInt _, Int32.toInt_lt _⟩)
  have hB := am_body (b := b) (z := s.heap.size) (D := (dC, dI)) (cA := fun t => match t with | 0 => c0 | 1 => c1 | 2 => c2 | _ => c3) n 100 me_313 0 _ _ _ _ _ _ (am_dall _ am_mem313) hrun
  have hl := lv_entry (am_sc b s.heap.size [.inr (.inr (some 999))]) (n := 4) (by rw [am_lgs]; decide)
  rw [am_arg] at hl
  have e0 : ([Value.ref b] : List Value) = am_sc b s.heap.size [.inr (.inr (some 999))] := rfl
  have key := hB.2 p l e room_1 s m #[Value.ref b] below meth c s.heap [] (lw_Z below #[Value.ref b] s) _ 0 ⟨hx, hb, hml, hown, hts2, hK, am_nw hts, Nat.le_refl _, fun _ => ⟨?_, hbl, by omega⟩⟩ (fun h => absurd h (by decide)) ⟨fun k q h => by simp [am_ws] at h, by decide, fun _ => rfl⟩ va_S.rf hl (by decide) (by decide) (Nat.le_refl _) (show 126 - 0 ≤ 600000 by decide) ?_ ?_
  · rw [lg_entry_eq, e0]
    exact key
  · have e1 : (fun j => Int32.ofInt ((xs j).toInt)) = xs := by
      funext j
      exact ai_to _
    rw [e1]
    exact hX
  · have : am_sl 126 ≤ 20000 := by decide +kernel
    show am_sl 126 - am_sl 0 ≤ 7302250
    omega
  · intro H' locs' A' pc' hw' hS' hrd hrv
    have h1 : am_sl 126 ≤ 20000 := by decide +kernel
    refine va_forget (fun q hq => hS'.2.2 q hq) (W.widen (k := 600000) (n := 7302250) (by show 126 - 0 ≤ 600000; omega) (by show am_sl 126 - am_sl 0 ≤ 7302250; omega) ?_)
    exact lw_ret hx hb hr hlocks hrd
