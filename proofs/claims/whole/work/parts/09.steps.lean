-- one step of the machine of numbers is one step of the machine
def am_ln (i : Instr) (len : Nat) : Bool := match i with
  | .tableswitch _ _ _ _ => true
  | .lookupswitch _ _ => true
  | .iload _ => len == 2
  | .lload _ => len == 2
  | .istore _ => len == 2
  | .lstore _ => len == 2
  | .bipush _ => len == 2
  | .ldc _ => len == 2
  | .newarray _ => len == 2
  | .sipush _ => len == 3
  | .ldc_w _ => len == 3
  | .ldc2_w _ => len == 3
  | .iinc _ _ => len == 3
  | .if_icmp _ _ => len == 3
  | .ifCond _ _ => len == 3
  | .goto _ => len == 3
  | .ifnonnull _ => len == 3
  | .getfield _ => len == 3
  | .putfield _ => len == 3
  | .new _ => len == 3
  | .invokevirtual _ => len == 3
  | .invokestatic _ => len == 3
  | .invokespecial _ => len == 3
  | _ => len == 1
def am_isn (i : Instr) : Bool := match i with
  | .new _ => true
  | .newarray _ => true
  | _ => false
def am_X (p : Program) (s : State) (m : MethodId) (args : Array Value) (c : Code) (cc : ByteArray) (cn nL b z : Nat) (D : va_G) (cA : Nat → ClassId) (L : Nat) (xs : Nat → Int) : Prop :=
  p.tables.exec = Jvm.exec ∧ c.code = cc ∧ c.maxLocals = nL ∧ s.vm.findClass (am_cn.getD cn "") = some m.cls ∧ (∀ w ∈ am_tb, w.before args s = true) ∧ va_K D am_cls (am_tys cA) s ∧ am_NW s ∧ z ≤ s.heap.size ∧ (cn = 17 → va_X b L (fun j => Int32.ofInt (xs j)) s s.heap ∧ b < z ∧ L < 2147483648)
section AMX
variable {p : Program} {l : Launch} {e : Env} {R : Room} {s : State} {m : MethodId} {args : Array Value} {below : List Frame} {meth : Method} {c : Code} {H : Heap} {locs : List Loc} {cells slots : Nat} {Q : State → Prop}
variable {cc : ByteArray} {cn nL b z : Nat} {D : va_G} {cA : Nat → ClassId} {L : Nat} {xs : Nat → Int}
theorem am_adk {k nc : Nat} (h : k < nc) (hn : nc ≤ 126) : am_ad b z k = z + k := by
  unfold am_ad
  rw [if_neg (by omega)]
theorem am_enA {np : Nat} {M : am_M} {k t n : Nat} (h : am_sh[k]? = some (.inl (t, n))) : am_en b z cA np M k = .inl (cA t, am_av n t (M k)) := by
  unfold am_en
  rw [h]
theorem am_enO {np : Nat} {M : am_M} {k ci : Nat} {ks : List (Nat × Nat × Nat)} (h : am_sh[k]? = some (.inr (ci, ks))) : am_en b z cA np M k = .inr (ci, am_fs b z np ks (M k)) := by
  unfold am_en
  rw [h]
theorem am_avi {n t : Nat} (r : Nat → Int) (h : t ≠ 3) : am_av n t r = (n, .inl fun j => Int32.ofInt (r j)) := by
  unfold am_av
  split
  · exact absurd rfl h
  · rfl
theorem am_wArr {np nc : Nat} {M : am_M} {k t n : Nat} (hk : k < nc) (h : am_sh[k]? = some (.inl (t, n))) (ht : t ≠ 3) : (am_ws b z cA nc np M)[k]? = some (z + k, .inl (cA t, n, .inl fun j => Int32.ofInt (M k j))) := by
  rw [am_wsk hk, am_enA h, am_avi _ ht]
theorem am_wArL {np nc : Nat} {M : am_M} {k n : Nat} (hk : k < nc) (h : am_sh[k]? = some (.inl (3, n))) : (am_ws b z cA nc np M)[k]? = some (z + k, .inl (cA 3, n, .inr (.inl fun j => Int64.ofInt (M k j)))) := by
  rw [am_wsk hk, am_enA h]
  rfl
theorem am_wObj {np nc : Nat} {M : am_M} {k ci : Nat} {ks : List (Nat × Nat × Nat)} (hk : k < nc) (h : am_sh[k]? = some (.inr (ci, ks))) : (am_ws b z cA nc np M)[k]? = some (z + k, .inr (ci, am_fs b z np ks (M k))) := by
  rw [am_wsk hk, am_enO h]
/-- an array store, in the world's words -/
theorem am_wUp {np nc : Nat} {M : am_M} {k t n j : Nat} {v : Int} {g : Nat → Int32} (hk : k < nc) (h : am_sh[k]? = some (.inl (t, n))) (ht : t ≠ 3) (hg : g = upd (fun j => Int32.ofInt (M k j)) j (Int32.ofInt v)) : (am_ws b z cA nc np M).set k (z + k, .inl (cA t, n, .inl g)) = am_ws b z cA nc np (am_up M k j v) := by
  refine am_wss hk ?_ (fun i _ hi => am_enc (am_upo hi))
  rw [am_enA h, am_avi _ ht, am_ups, hg]
  congr 4
  funext x
  by_cases hx : x = j <;> simp [upd, hx]
theorem am_wUf {np nc : Nat} {M : am_M} {k ci j : Nat} {v : Int} {ks : List (Nat × Nat × Nat)} {f : Nat × Nat × Nat} {w : Value} (hk : k < nc) (h : am_sh[k]? = some (.inr (ci, ks))) (hj : ks[j]? = some f) (hv : w = am_fv b z np f v) : (am_ws b z cA nc np M).set k (z + k, .inr (ci, (am_fs b z np ks (M k)).set j w)) = am_ws b z cA nc np (am_up M k j v) := by
  refine am_wss hk ?_ (fun i _ hi => am_enc (am_upo hi))
  rw [am_enO h]
  congr 2
  refine am_fss hj ?_ (fun i g _ hi => ?_)
  · rw [hv, am_ups]
    simp
  · rw [am_ups]
    simp [hi]
/-- a cell that is put into a final field, the np-th -/
theorem am_wUq {np nc : Nat} {M : am_M} {k ci j r : Nat} {ks : List (Nat × Nat × Nat)} {w : Value} (hn : nc ≤ 126) (hk : k < nc) (h : am_sh[k]? = some (.inr (ci, ks))) (hj : ks[j]? = some (2, r, np)) (hv : w = .ref (am_ad b z r)) : (am_ws b z cA nc np M).set k (z + k, .inr (ci, (am_fs b z np ks (M k)).set j w)) = am_ws b z cA nc (np + 1) M := by
  have hq : am_qo[np]? = some (k, j) := by
    obtain ⟨C, T, N, -, -, h3⟩ := am_fO h
    rcases h3 j _ _ _ hj with h4 | h4 | h4 | h4
    · exact absurd h4.1 (by decide)
    · exact absurd h4.1 (by decide)
    · exact h4.2.2.2.1
    · exact absurd h4.1 (by decide)
  have key : ∀ (k' ci' i : Nat) (ks' : List (Nat × Nat × Nat)) (g : Nat × Nat × Nat) (x : Int), am_sh[k']? = some (.inr (ci', ks')) → ks'[i]? = some g → ¬ (k' = k ∧ i = j) → am_fv b z (np + 1) g x = am_fv b z np g x := by
    intro k' ci' i ks' g x hs hg hne
    obtain ⟨t, r', q⟩ := g
    unfold am_fv
    dsimp only
    split
    · rfl
    · rfl
    · obtain ⟨C, T, N, -, -, h3⟩ := am_fO hs
      have hne2 : q ≠ np := by
        rintro rfl
        rcases h3 i _ _ _ hg with h4 | h4 | h4 | h4
        · exact absurd h4.1 (by decide)
        · exact absurd h4.1 (by decide)
        · have := hq.symm.trans h4.2.2.2.1
          simp only [Option.some.injEq, Prod.mk.injEq] at this
          exact hne ⟨this.1.symm, this.2.symm⟩
        · exact absurd h4.1 (by decide)
      have : (q < np + 1) ↔ (q < np) := by omega
      simp only [this]
    · rfl
  refine am_wss hk ?_ (fun i hi hik => ?_)
  · rw [am_enO h]
    congr 2
    refine am_fss hj ?_ (fun i g hg hi => key k ci i ks g _ h hg (fun e => hi e.2))
    rw [hv]
    show _ = (if np < np + 1 then Value.ref (am_ad b z r) else .null)
    rw [if_pos (by omega)]
  · have hs : ∃ x, am_sh[i]? = some x := by
      have : i < am_sh.length := by rw [am_shl]; omega
      exact ⟨_, List.getElem?_eq_getElem this⟩
    obtain ⟨x, hx⟩ := hs
    match x, hx with
    | .inl (t, n), hx => rw [am_enA hx, am_enA hx]
    | .inr (ci', ks'), hx =>
      rw [am_enO hx, am_enO hx]
      congr 2
      exact am_fso (fun i' g hg => key i ci' i' ks' g _ hx hg (fun e => hik e.1))
/-- an array's copy -/
theorem am_wCp {np nc : Nat} {M : am_M} {s d n0 n1 sp dp n : Nat} (hd : d < nc) (h1 : am_sh[d]? = some (.inl (0, n1))) : (am_ws b z cA nc np M).set d (z + d, .inl (cA 0, n1, .inl (va_cpy (fun j => Int32.ofInt (M s j)) (fun j => Int32.ofInt (M d j)) sp dp n))) = am_ws b z cA nc np (am_cp M s sp d dp n) := by
  refine am_wss hd ?_ (fun i _ hi => am_enc ?_)
  · rw [am_enA h1, am_avi _ (by decide)]
    congr 4
    funext x
    unfold va_cpy am_cp
    rw [if_pos rfl]
    split <;> rfl
  · funext x
    unfold am_cp
    rw [if_neg hi]
theorem am_wUl {np nc : Nat} {M : am_M} {k n j : Nat} {v : Int} (hk : k < nc) (h : am_sh[k]? = some (.inl (3, n))) : (am_ws b z cA nc np M).set k (z + k, .inl (cA 3, n, .inr (.inl (vp_updL (fun j => Int64.ofInt (M k j)) j (Int64.ofInt v))))) = am_ws b z cA nc np (am_up M k j v) := by
  refine am_wss hk ?_ (fun i _ hi => am_enc (am_upo hi))
  rw [am_enA h, am_ups]
  show _ = Sum.inl (cA 3, n, Sum.inr (Sum.inl fun x => Int64.ofInt (if x = j then v else M k x)))
  congr 5
  funext x
  unfold vp_updL
  split <;> rfl
theorem am_ty0 {t : Nat} (h : t = 0) : (am_tys cA)[0]? = some (cA t, .int) := by subst h; rfl
theorem am_ty1 {t : Nat} (h : t = 1) : (am_tys cA)[1]? = some (cA t, .byte) := by subst h; rfl
theorem am_ty2 {t : Nat} (h : t = 2) : (am_tys cA)[2]? = some (cA t, .boolean) := by subst h; rfl
theorem am_tyx {t : Nat} (h : t < 4) : ∃ ty, (am_tys cA)[t]? = some (cA t, ty) := by
  match t, h with
  | 0, _ => exact ⟨_, rfl⟩
  | 1, _ => exact ⟨_, rfl⟩
  | 2, _ => exact ⟨_, rfl⟩
  | 3, _ => exact ⟨_, rfl⟩
end AMX
