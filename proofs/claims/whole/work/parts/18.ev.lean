-- runs of the machine of numbers, by rules
def am_Ev (L : Nat) (xs : Nat → Int) (d : Nat) (me : am_ME) (pc : Nat) (ls : am_L) (st : List am_V) (nc np : Nat) (M : am_M) (out : am_O) : Prop := ∃ n, am_run L xs n d me pc ls st nc np M = some out
theorem am_mn {L : Nat} {xs : Nat → Int} : ∀ (n d : Nat) (me : am_ME) (pc : Nat) (ls : am_L) (st : List am_V) (nc np : Nat) (M : am_M) (out : am_O), am_run L xs n d me pc ls st nc np M = some out → am_run L xs (n + 1) d me pc ls st nc np M = some out
  | 0, _, _, _, _, _, _, _, _, _, h => by cases h
  | n + 1, d, me, pc, ls, st, nc, np, M, out, h => by
    have ih := am_mn (L := L) (xs := xs) n
    rw [am_run] at h ⊢
    split at h
    · cases h
    · exact ih _ _ _ _ _ _ _ _ _ h
    · exact h
    · split at h
      · cases h
      · rename_i d'
        split at h
        · cases h
        · split at h
          · cases h
          · split at h
            · cases h
            · rename_i hr
              rw [ih _ _ _ _ _ _ _ _ _ hr]
              exact ih _ _ _ _ _ _ _ _ _ h
theorem am_mk {L : Nat} {xs : Nat → Int} {n m d : Nat} {me : am_ME} {pc : Nat} {ls : am_L} {st : List am_V} {nc np : Nat} {M : am_M} {out : am_O} (h : am_run L xs n d me pc ls st nc np M = some out) (hm : n ≤ m) : am_run L xs m d me pc ls st nc np M = some out := by
  obtain ⟨k, rfl⟩ := Nat.le.dest hm
  induction k with
  | zero => exact h
  | succ k ih => exact am_mn _ _ _ _ _ _ _ _ _ _ (ih (Nat.le_add_right _ _))
def am_sk (L : Nat) (xs : Nat → Int) (me : am_ME) : Nat → am_C → Option am_C
  | 0, c => some c
  | k + 1, (pc, ls, st, nc, np, M) => match am_st L xs me pc ls st nc np M with
    | some (.inl c) => am_sk L xs me k c
    | _ => none
section EV
variable {L : Nat} {xs : Nat → Int} {d : Nat} {me : am_ME} {pc pc' : Nat} {ls ls' : am_L} {st st' : List am_V} {nc np nc' np' : Nat} {M M' : am_M} {out : am_O}
theorem ev_1 (h : am_st L xs me pc ls st nc np M = some (.inl (pc', ls', st', nc', np', M'))) (k : am_Ev L xs d me pc' ls' st' nc' np' M' out) : am_Ev L xs d me pc ls st nc np M out := by
  obtain ⟨n, hn⟩ := k
  refine ⟨n + 1, ?_⟩
  rw [am_run, h]
  exact hn
theorem ev_k (k : Nat) (h : am_sk L xs me k (pc, ls, st, nc, np, M) = some (pc', ls', st', nc', np', M')) (e : am_Ev L xs d me pc' ls' st' nc' np' M' out) : am_Ev L xs d me pc ls st nc np M out := by
  induction k generalizing pc ls st nc np M with
  | zero =>
    cases h
    exact e
  | succ k ih =>
    rw [am_sk] at h
    split at h
    · rename_i c hc
      obtain ⟨p1, l1, s1, n1, q1, M1⟩ := c
      exact ev_1 hc (ih h)
    · cases h
theorem ev_ret {v : Option am_V} (h : am_st L xs me pc ls st nc np M = some (.inr (.inl v))) : am_Ev L xs d me pc ls st nc np M (v, nc, np, M) := ⟨1, by rw [am_run, h]⟩
theorem ev_call {t kd : Nat} {me' : am_ME} {as rest : List am_V} {v : Option am_V} (h : am_st L xs me pc ls st nc np M = some (.inr (.inr (t, kd)))) (hme : am_me[t]? = some me') (hcl : am_cl me' kd st nc = some (as, rest)) (hd : 1 ≤ d) (hc : am_Ev L xs (d - 1) me' 0 (am_ar1 0 as) [] nc np M (v, nc', np', M')) (k : am_Ev L xs d me (pc + 3) (am_rs me.2.2.2.2.2.2.2.2.2 (pc + 3) ls) (v.toList ++ rest) nc' np' M' out) : am_Ev L xs d me pc ls st nc np M out := by
  obtain ⟨d', rfl⟩ : ∃ d', d = d' + 1 := ⟨d - 1, by omega⟩
  obtain ⟨n1, h1⟩ := hc
  obtain ⟨n2, h2⟩ := k
  refine ⟨max n1 n2 + 1, ?_⟩
  rw [am_run, h]
  dsimp only
  rw [hme]
  dsimp only
  rw [hcl]
  dsimp only
  have e1 : am_run L xs (max n1 n2) d' me' 0 (am_ar1 0 as) [] nc np M = some (v, nc', np', M') := am_mk h1 (Nat.le_max_left _ _)
  rw [e1]
  exact am_mk h2 (Nat.le_max_right _ _)
end EV
/-- neither a call nor an end -/
def am_cli_no (i : Instr) : Bool := match i with
  | .ireturn => false
  | .lreturn => false
  | .return_ => false
  | .invokevirtual _ => false
  | .invokestatic _ => false
  | .invokespecial _ => false
  | _ => true
section EVR
variable {L : Nat} {xs : Nat → Int} {d : Nat} {cn : Nat} {y : MethodName} {code : ByteArray} {nL : Nat} {ret : Option FieldType} {na stt : Nat} {wr : Bool} {ins : List (Nat × Instr × Nat)} {lv : List (Nat × List Nat)} {pc len : Nat} {ls : am_L} {st r : List am_V} {nc np : Nat} {M : am_M} {out : am_O}
/-- a step by its own rule -/
theorem ev_x {i : Instr} {pc' : Nat} {ls' : am_L} {st' : List am_V} {nc' np' : Nat} {M' : am_M} (hl : ins.lookup pc = some (i, len)) (hi : am_cli_no i = true) (hx : am_x L xs cn (y.name == "<init>") wr nL pc ls st nc np M i len = some (.inl (pc', ls', st', nc', np', M'))) (hn : Nat.ble nc nc' = true) (k : am_Ev L xs d (cn, y, code, nL, ret, na, stt, wr, ins, lv) pc' (am_rs lv pc' ls') st' nc' np' M' out) : am_Ev L xs d (cn, y, code, nL, ret, na, stt, wr, ins, lv) pc ls st nc np M out := by
  refine ev_1 ?_ k
  unfold am_st
  dsimp only
  rw [hl]
  cases i <;> first | (cases hi; done) | (dsimp only; rw [hx]; dsimp only [am_xw]; rw [hn])
theorem ev_icmp {cd : ClassFile.Cond} {off x v : Int} (t : Nat) (hl : ins.lookup pc = some (.if_icmp cd off, 3)) (hx : am_R x) (hv : am_R v) (ht : (pc : Int) + off = (t : Int)) (kt : am_cc cd x v → am_Ev L xs d (cn, y, code, nL, ret, na, stt, wr, ins, lv) t (am_rs lv t ls) r nc np M out) (kf : ¬ am_cc cd x v → am_Ev L xs d (cn, y, code, nL, ret, na, stt, wr, ins, lv) (pc + 3) (am_rs lv (pc + 3) ls) r nc np M out) : am_Ev L xs d (cn, y, code, nL, ret, na, stt, wr, ins, lv) pc ls (.inl v :: .inl x :: r) nc np M out := by
  have h0 : 0 ≤ (pc : Int) + off := by omega
  have h1 : ((pc : Int) + off).toNat = t := by omega
  by_cases hc : am_cc cd x v
  · refine ev_x hl rfl ?_ (Nat.ble_eq_true_of_le (Nat.le_refl nc)) (kt hc)
    show (if am_R x ∧ am_R v then _ else none) = _
    rw [if_pos ⟨hx, hv⟩]
    cases cd <;> (dsimp only [am_if, am_jp]; rw [if_pos h0, h1]; exact if_pos hc)
  · refine ev_x hl rfl ?_ (Nat.ble_eq_true_of_le (Nat.le_refl nc)) (kf hc)
    show (if am_R x ∧ am_R v then _ else none) = _
    rw [if_pos ⟨hx, hv⟩]
    cases cd <;> (dsimp only [am_if, am_jp]; rw [if_pos h0, h1]; exact if_neg hc)
theorem ev_ifc {cd : ClassFile.Cond} {off x : Int} (t : Nat) (hl : ins.lookup pc = some (.ifCond cd off, 3)) (hx : am_R x) (ht : (pc : Int) + off = (t : Int)) (kt : am_cc cd x 0 → am_Ev L xs d (cn, y, code, nL, ret, na, stt, wr, ins, lv) t (am_rs lv t ls) r nc np M out) (kf : ¬ am_cc cd x 0 → am_Ev L xs d (cn, y, code, nL, ret, na, stt, wr, ins, lv) (pc + 3) (am_rs lv (pc + 3) ls) r nc np M out) : am_Ev L xs d (cn, y, code, nL, ret, na, stt, wr, ins, lv) pc ls (.inl x :: r) nc np M out := by
  have h0 : 0 ≤ (pc : Int) + off := by omega
  have h1 : ((pc : Int) + off).toNat = t := by omega
  by_cases hc : am_cc cd x 0
  · refine ev_x hl rfl ?_ (Nat.ble_eq_true_of_le (Nat.le_refl nc)) (kt hc)
    show (if am_R x then _ else none) = _
    rw [if_pos hx]
    cases cd <;> (dsimp only [am_if, am_jp]; rw [if_pos h0, h1]; exact if_pos hc)
  · refine ev_x hl rfl ?_ (Nat.ble_eq_true_of_le (Nat.le_refl nc)) (kf hc)
    show (if am_R x then _ else none) = _
    rw [if_pos hx]
    cases cd <;> (dsimp only [am_if, am_jp]; rw [if_pos h0, h1]; exact if_neg hc)
theorem ev_ald {x w : Int} {k n t : Nat} {i : Instr} (hi : (i = .iaload ∧ t = 0) ∨ (i = .baload ∧ (t = 1 ∨ t = 2))) (hl : ins.lookup pc = some (i, len)) (h9 : k ≠ 999) (hk : k < nc) (hs : am_sh[k]? = some (.inl (t, n))) (hx : 0 ≤ x ∧ x < n) (hw : w = M k x.toNat) (kk : am_Ev L xs d (cn, y, code, nL, ret, na, stt, wr, ins, lv) (pc + 1) (am_rs lv (pc + 1) ls) (.inl w :: r) nc np M out) : am_Ev L xs d (cn, y, code, nL, ret, na, stt, wr, ins, lv) pc ls (.inl x :: .inr (.inr (some k)) :: r) nc np M out := by
  subst hw
  rcases hi with ⟨rfl, rfl⟩ | ⟨rfl, ht⟩
  · refine ev_x hl rfl ?_ (Nat.ble_eq_true_of_le (Nat.le_refl nc)) kk
    simp only [am_x, am_arr, if_neg h9, if_pos hk, hs]
    rw [if_pos (by first | exact ⟨rfl, hx⟩ | exact ⟨trivial, hx⟩)]
    rfl
  · refine ev_x hl rfl ?_ (Nat.ble_eq_true_of_le (Nat.le_refl nc)) kk
    simp only [am_x, am_arr, if_pos hk, hs]
    rw [if_pos ⟨ht, hx⟩]
    rfl
theorem ev_lald {x w : Int} {k n : Nat} (hl : ins.lookup pc = some (.laload, len)) (hk : k < nc) (hs : am_sh[k]? = some (.inl (3, n))) (hx : 0 ≤ x ∧ x < n) (hw : w = M k x.toNat) (kk : am_Ev L xs d (cn, y, code, nL, ret, na, stt, wr, ins, lv) (pc + 1) (am_rs lv (pc + 1) ls) (.inr (.inl w) :: r) nc np M out) : am_Ev L xs d (cn, y, code, nL, ret, na, stt, wr, ins, lv) pc ls (.inl x :: .inr (.inr (some k)) :: r) nc np M out := by
  subst hw
  refine ev_x hl rfl ?_ (Nat.ble_eq_true_of_le (Nat.le_refl nc)) kk
  simp only [am_x, am_arr, if_pos hk, hs]
  rw [if_pos (by first | exact ⟨rfl, hx⟩ | exact ⟨trivial, hx⟩)]
  rfl
theorem ev_iast {M1 : am_M} {x v : Int} {k n : Nat} (hl : ins.lookup pc = some (.iastore, len)) (hk : k < nc) (hs : am_sh[k]? = some (.inl (0, n))) (hx : 0 ≤ x ∧ x < n) (hM : M1 = am_up M k x.toNat v) (kk : am_Ev L xs d (cn, y, code, nL, ret, na, stt, wr, ins, lv) (pc + 1) (am_rs lv (pc + 1) ls) r nc np M1 out) : am_Ev L xs d (cn, y, code, nL, ret, na, stt, wr, ins, lv) pc ls (.inl v :: .inl x :: .inr (.inr (some k)) :: r) nc np M out := by
  subst hM
  refine ev_x hl rfl ?_ (Nat.ble_eq_true_of_le (Nat.le_refl nc)) kk
  simp only [am_x, am_arr, if_pos hk, hs]
  rw [if_pos (by first | exact ⟨rfl, hx⟩ | exact ⟨trivial, hx⟩)]
  rfl
theorem ev_zast {M1 : am_M} {x v : Int} {k n : Nat} (hl : ins.lookup pc = some (.bastore, len)) (hk : k < nc) (hs : am_sh[k]? = some (.inl (2, n))) (hx : 0 ≤ x ∧ x < n) (hv : v = 0 ∨ v = 1) (hM : M1 = am_up M k x.toNat v) (kk : am_Ev L xs d (cn, y, code, nL, ret, na, stt, wr, ins, lv) (pc + 1) (am_rs lv (pc + 1) ls) r nc np M1 out) : am_Ev L xs d (cn, y, code, nL, ret, na, stt, wr, ins, lv) pc ls (.inl v :: .inl x :: .inr (.inr (some k)) :: r) nc np M out := by
  subst hM
  refine ev_x hl rfl ?_ (Nat.ble_eq_true_of_le (Nat.le_refl nc)) kk
  simp only [am_x, am_arr, if_pos hk, hs]
  rw [if_pos hx, if_pos hv]
  rfl
theorem ev_bast {M1 : am_M} {x v : Int} {k n : Nat} (hl : ins.lookup pc = some (.bastore, len)) (hf : nc = 126) (hk : k < nc) (hs : am_sh[k]? = some (.inl (1, n))) (hx : 0 ≤ x ∧ x < n) (hM : M1 = am_up M k x.toNat (Int32.ofInt v).toInt8.toInt32.toInt) (kk : am_Ev L xs d (cn, y, code, nL, ret, na, stt, wr, ins, lv) (pc + 1) (am_rs lv (pc + 1) ls) r nc np M1 out) : am_Ev L xs d (cn, y, code, nL, ret, na, stt, wr, ins, lv) pc ls (.inl v :: .inl x :: .inr (.inr (some k)) :: r) nc np M out := by
  subst hM
  refine ev_x hl rfl ?_ (Nat.ble_eq_true_of_le (Nat.le_refl nc)) kk
  simp only [am_x, am_arr, if_pos hk, hs]
  rw [if_pos hx, if_pos hf]
  rfl
theorem ev_last {M1 : am_M} {x v : Int} {k n : Nat} (hl : ins.lookup pc = some (.lastore, len)) (hf : nc = 126) (hk : k < nc) (hs : am_sh[k]? = some (.inl (3, n))) (hx : 0 ≤ x ∧ x < n) (hM : M1 = am_up M k x.toNat v) (kk : am_Ev L xs d (cn, y, code, nL, ret, na, stt, wr, ins, lv) (pc + 1) (am_rs lv (pc + 1) ls) r nc np M1 out) : am_Ev L xs d (cn, y, code, nL, ret, na, stt, wr, ins, lv) pc ls (.inr (.inl v) :: .inl x :: .inr (.inr (some k)) :: r) nc np M out := by
  subst hM
  refine ev_x hl rfl ?_ (Nat.ble_eq_true_of_le (Nat.le_refl nc)) kk
  simp only [am_x, am_arr, if_pos hk, hs]
  rw [if_pos (by first | exact ⟨rfl, hf, hx⟩ | exact ⟨trivial, hf, hx⟩)]
  rfl
theorem ev_idiv {x v : Int} (hl : ins.lookup pc = some (.idiv, len)) (h : am_R x ∧ am_R v ∧ v ≠ 0) (kk : am_Ev L xs d (cn, y, code, nL, ret, na, stt, wr, ins, lv) (pc + 1) (am_rs lv (pc + 1) ls) (.inl (am_w wr (x.tdiv v)) :: r) nc np M out) : am_Ev L xs d (cn, y, code, nL, ret, na, stt, wr, ins, lv) pc ls (.inl v :: .inl x :: r) nc np M out := by
  refine ev_x hl rfl ?_ (Nat.ble_eq_true_of_le (Nat.le_refl nc)) kk
  simp only [am_x, am_p2]
  rw [if_pos h]
  rfl
theorem ev_irem {x v : Int} (hl : ins.lookup pc = some (.irem, len)) (h : am_R x ∧ am_R v ∧ v ≠ 0) (kk : am_Ev L xs d (cn, y, code, nL, ret, na, stt, wr, ins, lv) (pc + 1) (am_rs lv (pc + 1) ls) (.inl (x.tmod v) :: r) nc np M out) : am_Ev L xs d (cn, y, code, nL, ret, na, stt, wr, ins, lv) pc ls (.inl v :: .inl x :: r) nc np M out := by
  refine ev_x hl rfl ?_ (Nat.ble_eq_true_of_le (Nat.le_refl nc)) kk
  simp only [am_x, am_p2]
  rw [if_pos h]
  rfl
theorem ev_ldiv {x v : Int} (hl : ins.lookup pc = some (.ldiv, len)) (h : am_R6 x ∧ am_R6 v ∧ v ≠ 0) (kk : am_Ev L xs d (cn, y, code, nL, ret, na, stt, wr, ins, lv) (pc + 1) (am_rs lv (pc + 1) ls) (.inr (.inl (x.tdiv v)) :: r) nc np M out) : am_Ev L xs d (cn, y, code, nL, ret, na, stt, wr, ins, lv) pc ls (.inr (.inl v) :: .inr (.inl x) :: r) nc np M out := by
  refine ev_x hl rfl ?_ (Nat.ble_eq_true_of_le (Nat.le_refl nc)) kk
  simp only [am_x, am_q2]
  rw [if_pos h]
  rfl
theorem ev_lrem {x v : Int} (hl : ins.lookup pc = some (.lrem, len)) (h : am_R6 x ∧ am_R6 v ∧ v ≠ 0) (kk : am_Ev L xs d (cn, y, code, nL, ret, na, stt, wr, ins, lv) (pc + 1) (am_rs lv (pc + 1) ls) (.inr (.inl (x.tmod v)) :: r) nc np M out) : am_Ev L xs d (cn, y, code, nL, ret, na, stt, wr, ins, lv) pc ls (.inr (.inl v) :: .inr (.inl x) :: r) nc np M out := by
  refine ev_x hl rfl ?_ (Nat.ble_eq_true_of_le (Nat.le_refl nc)) kk
  simp only [am_x, am_q2]
  rw [if_pos h]
  rfl
theorem ev_lcmp {x v : Int} (hl : ins.lookup pc = some (.lcmp, len)) (h : am_R6 x ∧ am_R6 v) (kk : am_Ev L xs d (cn, y, code, nL, ret, na, stt, wr, ins, lv) (pc + 1) (am_rs lv (pc + 1) ls) (.inl (if x > v then 1 else if x = v then 0 else -1) :: r) nc np M out) : am_Ev L xs d (cn, y, code, nL, ret, na, stt, wr, ins, lv) pc ls (.inr (.inl v) :: .inr (.inl x) :: r) nc np M out := by
  refine ev_x hl rfl ?_ (Nat.ble_eq_true_of_le (Nat.le_refl nc)) kk
  simp only [am_x, am_q2]
  rw [if_pos h]
  rfl
theorem ev_i2l {x : Int} (hl : ins.lookup pc = some (.i2l, len)) (h : am_R x) (kk : am_Ev L xs d (cn, y, code, nL, ret, na, stt, wr, ins, lv) (pc + 1) (am_rs lv (pc + 1) ls) (.inr (.inl x) :: r) nc np M out) : am_Ev L xs d (cn, y, code, nL, ret, na, stt, wr, ins, lv) pc ls (.inl x :: r) nc np M out := by
  refine ev_x hl rfl ?_ (Nat.ble_eq_true_of_le (Nat.le_refl nc)) kk
  simp only [am_x, am_p1]
  rw [if_pos h]
  rfl
theorem ev_putz {M1 : am_M} {x ci j k q : Nat} {v : Int} {ks : List (Nat × Nat × Nat)} (hl : ins.lookup pc = some (.putfield x, len)) (hf : (am_FL.getD cn []).lookup x = some (ci, j, q)) (hk : k < nc) (hs : am_sh[k]? = some (.inr (ci, ks))) (hj : ks[j]? = some (1, 0, 0)) (hv : v = 0 ∨ v = 1) (hM : M1 = am_up M k j v) (kk : am_Ev L xs d (cn, y, code, nL, ret, na, stt, wr, ins, lv) (pc + 3) (am_rs lv (pc + 3) ls) r nc np M1 out) : am_Ev L xs d (cn, y, code, nL, ret, na, stt, wr, ins, lv) pc ls (.inl v :: .inr (.inr (some k)) :: r) nc np M out := by
  subst hM
  refine ev_x hl rfl ?_ (Nat.ble_eq_true_of_le (Nat.le_refl nc)) kk
  simp only [am_x, am_fld, hf, if_pos hk, hs, if_true, hj]
  rw [if_pos hv]
  rfl
theorem ev_getn {x ci j k q c' : Nat} {ks : List (Nat × Nat × Nat)} (hl : ins.lookup pc = some (.getfield x, len)) (hf : (am_FL.getD cn []).lookup x = some (ci, j, q)) (hk : k < nc) (hs : am_sh[k]? = some (.inr (ci, ks))) (hj : ks[j]? = some (3, c', 0)) (hv : M k j ≠ 0) (kk : am_Ev L xs d (cn, y, code, nL, ret, na, stt, wr, ins, lv) (pc + 3) (am_rs lv (pc + 3) ls) (.inr (.inr (some c')) :: r) nc np M out) : am_Ev L xs d (cn, y, code, nL, ret, na, stt, wr, ins, lv) pc ls (.inr (.inr (some k)) :: r) nc np M out := by
  refine ev_x hl rfl ?_ (Nat.ble_eq_true_of_le (Nat.le_refl nc)) kk
  simp only [am_x, am_fld, am_a1, hf, if_pos hk, hs, if_true, hj]
  rw [if_neg hv]
  rfl
theorem ev_retz {v : Int} (hl : ins.lookup pc = some (.ireturn, len)) (hr : ret = some .boolean) (hv : v = 0 ∨ v = 1) : am_Ev L xs d (cn, y, code, nL, ret, na, stt, wr, ins, lv) pc ls [.inl v] nc np M (some (.inl v), nc, np, M) := by
  subst hr
  refine ev_ret ?_
  unfold am_st
  dsimp only
  rw [hl]
  dsimp only
  rw [if_pos hv]
theorem ev_tsw {dd lo hi x : Int} {offs : Array Int} (t : Nat) (hl : ins.lookup pc = some (.tableswitch dd lo hi offs, len)) (hx : am_R x) (o : Int) (ho : ((x < lo ∨ hi < x) ∧ o = dd) ∨ (¬ (x < lo ∨ hi < x) ∧ offs[(x - lo).toNat]? = some o)) (ht : (pc : Int) + o = (t : Int)) (kk : am_Ev L xs d (cn, y, code, nL, ret, na, stt, wr, ins, lv) t (am_rs lv t ls) r nc np M out) : am_Ev L xs d (cn, y, code, nL, ret, na, stt, wr, ins, lv) pc ls (.inl x :: r) nc np M out := by
  have h0 : 0 ≤ (pc : Int) + o := by omega
  have h1 : ((pc : Int) + o).toNat = t := by omega
  refine ev_x hl rfl ?_ (Nat.ble_eq_true_of_le (Nat.le_refl nc)) kk
  simp only [am_x, am_p1]
  rw [if_pos hx]
  rcases ho with ⟨h2, rfl⟩ | ⟨h2, h3⟩
  · rw [if_pos h2]
    unfold am_jp
    rw [if_pos h0, h1]
    rfl
  · rw [if_neg h2, h3]
    dsimp only
    unfold am_jp
    rw [if_pos h0, h1]
    rfl
theorem ev_lsw {dd x : Int} {ps : Array (Int × Int)} (t : Nat) (hl : ins.lookup pc = some (.lookupswitch dd ps, len)) (hx : am_R x) (hp : (ps.toList.zip (ps.toList.drop 1)).all (fun (a, next) => a.1 < next.1) = true) (o : Int) (ho : Op.lookupswitch.offset ps.toList dd x = o) (ht : (pc : Int) + o = (t : Int)) (kk : am_Ev L xs d (cn, y, code, nL, ret, na, stt, wr, ins, lv) t (am_rs lv t ls) r nc np M out) : am_Ev L xs d (cn, y, code, nL, ret, na, stt, wr, ins, lv) pc ls (.inl x :: r) nc np M out := by
  have h0 : 0 ≤ (pc : Int) + o := by omega
  have h1 : ((pc : Int) + o).toNat = t := by omega
  refine ev_x hl rfl ?_ (Nat.ble_eq_true_of_le (Nat.le_refl nc)) kk
  simp only [am_x, am_p1]
  rw [if_pos ⟨hx, hp⟩, ho]
  unfold am_jp
  rw [if_pos h0, h1]
  rfl
theorem ev_cpy {M1 : am_M} {x n0 n1 s dd q a : Nat} {n dp sp : Int} (hl : ins.lookup pc = some (.invokestatic x, len)) (hm : (am_ML.getD cn []).lookup x = some (10001, a, q)) (hs : s < nc) (hd : dd < nc) (h0 : am_sh[s]? = some (.inl (0, n0))) (h1 : am_sh[dd]? = some (.inl (0, n1))) (h : 0 ≤ n ∧ 0 ≤ dp ∧ 0 ≤ sp ∧ sp + n ≤ n0 ∧ dp + n ≤ n1) (hf : nc = 126) (hc : am_ct r ≤ 8) (hM : M1 = am_cp M s sp.toNat dd dp.toNat n.toNat) (kk : am_Ev L xs d (cn, y, code, nL, ret, na, stt, wr, ins, lv) (pc + 3) (am_rs lv (pc + 3) ls) r nc np M1 out) : am_Ev L xs d (cn, y, code, nL, ret, na, stt, wr, ins, lv) pc ls (.inl n :: .inl dp :: .inr (.inr (some dd)) :: .inl sp :: .inr (.inr (some s)) :: r) nc np M out := by
  subst hM
  refine ev_1 ?_ kk
  unfold am_st
  dsimp only
  rw [hl]
  dsimp only
  rw [hm]
  dsimp only [am_x]
  rw [hm]
  dsimp only [am_arr]
  rw [if_pos hs, h0]
  dsimp only
  rw [if_pos hd, h1]
  dsimp only
  rw [if_pos ⟨rfl, rfl, h.1, h.2.1, h.2.2.1, h.2.2.2.1, h.2.2.2.2, hf, hc⟩]
  subst hf
  rfl
theorem ev_sld {x w : Int} (hl : ins.lookup pc = some (.iaload, len)) (hcn : cn = 17) (hx : 0 ≤ x ∧ x < (L : Int)) (hw : w = xs x.toNat) (kk : am_Ev L xs d (cn, y, code, nL, ret, na, stt, wr, ins, lv) (pc + 1) (am_rs lv (pc + 1) ls) (.inl w :: r) nc np M out) : am_Ev L xs d (cn, y, code, nL, ret, na, stt, wr, ins, lv) pc ls (.inl x :: .inr (.inr (some 999)) :: r) nc np M out := by
  subst hw
  refine ev_x hl rfl ?_ (Nat.ble_eq_true_of_le (Nat.le_refl nc)) kk
  simp only [am_x, if_true]
  rw [if_pos ⟨hcn, hx⟩]
  rfl
end EVR
theorem am_lsd : ∀ (ps : List (Int × Int)) (d x : Int), (∀ q ∈ ps, ¬ x = q.1) → Op.lookupswitch.offset ps d x = d
  | [], d, x, _ => by simp [Op.lookupswitch.offset]
  | q :: ps, d, x, h => by
    have h1 := h q List.mem_cons_self
    have ih := am_lsd ps d x (fun q hq => h q (List.mem_cons_of_mem _ hq))
    have h2 : ¬ q.1 = x := fun e => h1 e.symm
    simp only [Op.lookupswitch.offset] at *
    simp [h1, h2, ih]
