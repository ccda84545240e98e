-- what the machine of numbers says of the machine itself
def am_ad (b z k : Nat) : Nat := if k = 999 then b else z + k
def am_cv (b z : Nat) (v : am_V) : Value := match v with
  | .inl x => .int (Int32.ofInt x)
  | .inr (.inl x) => .long (Int64.ofInt x)
  | .inr (.inr none) => .null
  | .inr (.inr (some k)) => .ref (am_ad b z k)
def am_lc (b z : Nat) (ls : am_L) : List (Nat × Value) := ls.map fun q => (q.1, am_cv b z q.2)
def am_sc (b z : Nat) (st : List am_V) : List Value := st.map (am_cv b z)
theorem am_cat1 {b z : Nat} {v : am_V} (h : am_c2 v = false) : (am_cv b z v).category = 1 := by
  match v, h with
  | .inl x, _ => rfl
  | .inr (.inr none), _ => rfl
  | .inr (.inr (some k)), _ => rfl
theorem am_cat2 {b z : Nat} {v : am_V} (h : am_c2 v = true) : (am_cv b z v).category = 2 := by
  match v, h with
  | .inr (.inl x), _ => rfl
theorem am_catb (b z : Nat) (v : am_V) : ((am_cv b z v).category == 2) = am_c2 v := by
  cases h : am_c2 v
  · rw [am_cat1 h]; rfl
  · rw [am_cat2 h]; rfl
theorem am_cats (b z : Nat) (st : List am_V) : ((am_sc b z st).map fun v => v.category).sum = am_ct st := by
  induction st with
  | nil => rfl
  | cons v r ih =>
    show (am_cv b z v).category + ((am_sc b z r).map fun v => v.category).sum = (if am_c2 v then 2 else 1) + am_ct r
    rw [ih]
    cases h : am_c2 v
    · rw [am_cat1 h]; rfl
    · rw [am_cat2 h]; rfl
theorem am_fil (b z : Nat) (f : Nat × am_V → Bool) (g : Nat × Value → Bool) (hfg : ∀ q : Nat × am_V, g (q.1, am_cv b z q.2) = f q) : ∀ ls : am_L, am_lc b z (ls.filter f) = (am_lc b z ls).filter g
  | [] => rfl
  | q :: ls => by
    have ih := am_fil b z f g hfg ls
    unfold am_lc at *
    rw [List.map_cons, List.filter_cons, List.filter_cons, hfg]
    cases f q
    · simpa using ih
    · simpa using ih
theorem am_lc1 (b z : Nat) (ls : am_L) (i : Nat) (v : am_V) : (i, am_cv b z v) :: (am_lc b z ls).filter (fun q => !(q.1 == i) && !(q.1 + 1 == i && q.2.category == 2)) = am_lc b z (am_s1 ls i v) := by
  unfold am_s1
  rw [← am_fil b z (fun q => !(q.1 == i) && !(q.1 + 1 == i && am_c2 q.2)) (fun q => !(q.1 == i) && !(q.1 + 1 == i && q.2.category == 2)) (fun q => by simp only [am_catb]) ls]
  rfl
theorem am_lc2 (b z : Nat) (ls : am_L) (i : Nat) (v : am_V) : (i, am_cv b z v) :: (am_lc b z ls).filter (fun q => !(q.1 == i) && (!(q.1 == i + 1) && !(q.1 + 1 == i && q.2.category == 2))) = am_lc b z (am_s2 ls i v) := by
  unfold am_s2
  rw [← am_fil b z (fun q => !(q.1 == i) && (!(q.1 == i + 1) && !(q.1 + 1 == i && am_c2 q.2))) (fun q => !(q.1 == i) && (!(q.1 == i + 1) && !(q.1 + 1 == i && q.2.category == 2))) (fun q => by simp only [am_catb]) ls]
  rfl
theorem am_lup {α : Type} : ∀ {l : List (Nat × α)} {i : Nat} {v : α}, l.lookup i = some v → (i, v) ∈ l
  | [], _, _, h => by cases h
  | (j, w) :: l, i, v, h => by
    rw [List.lookup_cons] at h
    cases hj : i == j
    · rw [hj] at h
      exact List.mem_cons_of_mem _ (am_lup h)
    · rw [hj] at h
      have e1 : i = j := by simpa using hj
      have e2 : w = v := by simpa using h
      rw [e1, e2]
      exact List.mem_cons_self
theorem am_ldk {b z nL i : Nat} {A : Array Slot} {ls : am_L} {v : am_V} (h : lv_has A nL (am_lc b z ls)) (hl : am_ld ls i = some v) : A[i]? = some (.val (am_cv b z v)) :=
  h.2.2 (i, am_cv b z v) (List.mem_map.mpr ⟨(i, v), am_lup hl, rfl⟩)
theorem am_ldi {b z i : Nat} {ls : am_L} {v : am_V} (hl : am_ld ls i = some v) : ∃ k : Nat, (am_lc b z ls)[k]? = some (i, am_cv b z v) :=
  List.getElem?_of_mem (List.mem_map.mpr ⟨(i, v), am_lup hl, rfl⟩)
theorem am_arg (b z : Nat) : ∀ (i : Nat) (vs : List am_V), lv_args i (am_sc b z vs) = am_lc b z (am_ar1 i vs)
  | _, [] => rfl
  | i, v :: vs => by
    show (i, am_cv b z v) :: lv_args (if (am_cv b z v).category = 2 then i + 2 else i + 1) (am_sc b z vs) = (i, am_cv b z v) :: am_lc b z (am_ar1 _ vs)
    cases h : am_c2 v
    · rw [am_cat1 h, if_neg (by decide), am_arg b z (i + 1) vs]
    · rw [am_cat2 h, if_pos rfl, am_arg b z (i + 2) vs]
theorem am_lgs (b z : Nat) : ∀ vs : List am_V, (lg_sl (am_sc b z vs)).length = am_ct vs
  | [] => rfl
  | v :: vs => by
    have ih := am_lgs b z vs
    show ((if (am_cv b z v).category = 2 then [Slot.val (am_cv b z v), .second] else [Slot.val (am_cv b z v)]) ++ lg_sl (am_sc b z vs)).length = (if am_c2 v then 2 else 1) + am_ct vs
    cases h : am_c2 v
    · rw [am_cat1 h, if_neg (by decide), List.length_append, ih]; rfl
    · rw [am_cat2 h, if_pos rfl, List.length_append, ih]; rfl
-- the cells
def am_fv (b z np : Nat) (f : Nat × Nat × Nat) (v : Int) : Value := match f.1 with
  | 0 => .int (Int32.ofInt v)
  | 1 => .int (Int32.ofInt v)
  | 2 => if f.2.2 < np then .ref (am_ad b z f.2.1) else .null
  | _ => if v = 0 then .null else .ref (am_ad b z f.2.1)
def am_fs (b z np : Nat) (ks : List (Nat × Nat × Nat)) (r : Nat → Int) : List Value := (List.range ks.length).map fun j => am_fv b z np (ks.getD j (0, 0, 0)) (r j)
def am_av (n t : Nat) (r : Nat → Int) : vp_A := match t with
  | 3 => (n, .inr (.inl fun j => Int64.ofInt (r j)))
  | _ => (n, .inl fun j => Int32.ofInt (r j))
def am_en (b z : Nat) (cA : Nat → ClassId) (np : Nat) (M : am_M) (k : Nat) : va_E := match am_sh[k]? with
  | some (.inl (t, n)) => .inl (cA t, am_av n t (M k))
  | some (.inr (ci, ks)) => .inr (ci, am_fs b z np ks (M k))
  | none => .inr (0, [])
def am_ws (b z : Nat) (cA : Nat → ClassId) (nc np : Nat) (M : am_M) : va_W := (List.range nc).map fun k => (z + k, am_en b z cA np M k)
abbrev am_A (z : Nat) : Nat → Prop := fun q => z ≤ q
theorem am_wsk {b z k : Nat} {cA : Nat → ClassId} {nc np : Nat} {M : am_M} (h : k < nc) : (am_ws b z cA nc np M)[k]? = some (z + k, am_en b z cA np M k) := by
  unfold am_ws
  rw [List.getElem?_map, List.getElem?_range h]
  rfl
theorem am_wsl {b z : Nat} {cA : Nat → ClassId} {nc np : Nat} {M : am_M} {k : Nat} {q : Nat × va_E} (h : (am_ws b z cA nc np M)[k]? = some q) : k < nc ∧ q = (z + k, am_en b z cA np M k) := by
  have hl : k < nc := by
    have := (List.getElem?_eq_some_iff.mp h).1
    simpa [am_ws] using this
  rw [am_wsk hl] at h
  exact ⟨hl, (Option.some.inj h).symm⟩
theorem am_wsD (b z : Nat) (cA : Nat → ClassId) (nc np : Nat) (M : am_M) : va_D (am_A z) (am_ws b z cA nc np M) := by
  refine ⟨fun i j p q hi hj e => ?_, fun k q hk => ?_⟩
  · obtain ⟨-, rfl⟩ := am_wsl hi
    obtain ⟨-, rfl⟩ := am_wsl hj
    have : z + i = z + j := e
    omega
  · obtain ⟨-, rfl⟩ := am_wsl hk
    exact Nat.le_add_right z k
theorem am_wss {b z : Nat} {cA : Nat → ClassId} {nc np np' : Nat} {M M' : am_M} {k : Nat} {en : va_E} (hk : k < nc) (he : en = am_en b z cA np' M' k) (ho : ∀ i, i < nc → i ≠ k → am_en b z cA np' M' i = am_en b z cA np M i) : (am_ws b z cA nc np M).set k (z + k, en) = am_ws b z cA nc np' M' := by
  subst he
  apply List.ext_getElem?
  intro i
  rw [List.getElem?_set]
  by_cases hi : k = i
  · subst hi
    rw [if_pos rfl, am_wsk hk]
    have : k < (am_ws b z cA nc np M).length := by simpa [am_ws] using hk
    rw [if_pos this]
  · rw [if_neg hi]
    by_cases hn : i < nc
    · rw [am_wsk hn, am_wsk hn, ho i hn (fun h => hi h.symm)]
    · rw [List.getElem?_eq_none (by simp [am_ws]; omega), List.getElem?_eq_none (by simp [am_ws]; omega)]
theorem am_wsp (b z : Nat) (cA : Nat → ClassId) (nc np : Nat) (M : am_M) : am_ws b z cA (nc + 1) np M = am_ws b z cA nc np M ++ [(z + nc, am_en b z cA np M nc)] := by
  unfold am_ws
  rw [List.range_succ, List.map_append]
  rfl
theorem am_wsc {b z : Nat} {cA : Nat → ClassId} {nc np : Nat} {M M' : am_M} (ho : ∀ i, i < nc → am_en b z cA np M' i = am_en b z cA np M i) : am_ws b z cA nc np M' = am_ws b z cA nc np M := by
  unfold am_ws
  apply List.map_congr_left
  intro k hk
  rw [ho k (List.mem_range.mp hk)]
theorem am_enc {b z : Nat} {cA : Nat → ClassId} {np : Nat} {M M' : am_M} {k : Nat} (h : M' k = M k) : am_en b z cA np M' k = am_en b z cA np M k := by
  unfold am_en
  rw [h]
theorem am_upo {M : am_M} {k j : Nat} {v : Int} {i : Nat} (h : i ≠ k) : am_up M k j v i = M i := by
  funext x
  simp [am_up, h]
theorem am_ups {M : am_M} {k j : Nat} {v : Int} : am_up M k j v k = fun x => if x = j then v else M k x := by
  funext x
  simp [am_up]
theorem am_zro {M : am_M} {k : Nat} {i : Nat} (h : i ≠ k) : am_zr M k i = M i := by
  funext x
  simp [am_zr, h]
theorem am_fsg {b z np : Nat} {ks : List (Nat × Nat × Nat)} {r : Nat → Int} {j : Nat} {f : Nat × Nat × Nat} (h : ks[j]? = some f) : (am_fs b z np ks r)[j]? = some (am_fv b z np f (r j)) := by
  have hl : j < ks.length := (List.getElem?_eq_some_iff.mp h).1
  unfold am_fs
  rw [List.getElem?_map, List.getElem?_range hl]
  simp [List.getD_eq_getElem?_getD, h]
theorem am_fss {b z np np' : Nat} {ks : List (Nat × Nat × Nat)} {r r' : Nat → Int} {j : Nat} {f : Nat × Nat × Nat} {v : Value} (h : ks[j]? = some f) (hv : v = am_fv b z np' f (r' j)) (ho : ∀ i g, ks[i]? = some g → i ≠ j → am_fv b z np' g (r' i) = am_fv b z np g (r i)) : (am_fs b z np ks r).set j v = am_fs b z np' ks r' := by
  have hl : j < ks.length := (List.getElem?_eq_some_iff.mp h).1
  apply List.ext_getElem?
  intro i
  rw [List.getElem?_set]
  by_cases hi : j = i
  · subst hi
    rw [if_pos rfl, am_fsg h, if_pos (by simpa [am_fs] using hl), hv]
  · rw [if_neg hi]
    by_cases hn : i < ks.length
    · rw [am_fsg (List.getElem?_eq_getElem hn), am_fsg (List.getElem?_eq_getElem hn), ho i _ (List.getElem?_eq_getElem hn) (fun e => hi e.symm)]
    · rw [List.getElem?_eq_none (by simp [am_fs]; omega), List.getElem?_eq_none (by simp [am_fs]; omega)]
theorem am_fso {b z np np' : Nat} {ks : List (Nat × Nat × Nat)} {r r' : Nat → Int} (ho : ∀ i g, ks[i]? = some g → am_fv b z np' g (r' i) = am_fv b z np g (r i)) : am_fs b z np' ks r' = am_fs b z np ks r := by
  unfold am_fs
  apply List.map_congr_left
  intro i hi
  have hn : i < ks.length := List.mem_range.mp hi
  have e : ks.getD i (0, 0, 0) = ks[i] := by simp [List.getD_eq_getElem?_getD, hn]
  rw [e]
  exact ho i _ (List.getElem?_eq_getElem hn)
abbrev am_tys (cA : Nat → ClassId) : List (ClassId × FieldType) := [(cA 0, .int), (cA 1, .byte), (cA 2, .boolean), (cA 3, .long)]
/-- the heap holds the numbers -/
def am_W (b z : Nat) (D : va_G) (cA : Nat → ClassId) (nc np : Nat) (M : am_M) (H : Heap) : Prop := va_P D am_cls (am_ws b z cA nc np M) H ∧ nc ≤ 126 ∧ (nc < 126 → H.size = z + nc)
def am_z1 (e : (Nat × Nat) ⊕ (Nat × List (Nat × Nat × Nat))) : Nat := match e with
  | .inl (_, n) => n
  | .inr (_, ks) => ks.length
def am_sl (nc : Nat) : Nat := ((am_sh.take nc).map am_z1).sum
def am_tb : List Cond := lw_tbl.filter goodWord
theorem am_tbm {w : Cond} {i : Nat} (h : lw_tbl[i]? = some w) (hg : goodWord w = true) : w ∈ am_tb := List.mem_filter.mpr ⟨List.mem_of_getElem? h, hg⟩
theorem am_tbg : GoodIn lw_tbl am_tb := fun w h => ⟨(List.mem_filter.mp h).1, good_of_word (List.mem_filter.mp h).2⟩
theorem am_tbs : GoodIn am_tb am_tb := fun w h => ⟨h, good_of_word (List.mem_filter.mp h).2⟩
def am_NW (U : State) : Prop := ∀ (cn x t q : Nat) (me : am_ME), (am_ML.getD cn []).lookup x = some (t, 1, q) → am_me[t]? = some me → va_Nw (.methodLinkNest (am_cn.getD cn "") x me.2.1 "BlazedPath") U
