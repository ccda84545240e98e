-- what the checks say, one by one
theorem am_n19 {α : Type} {l : List (List α)} (hl : l.length = 19) {cn : Nat} {f : Nat → Bool} (h : ((List.range 19).all f) = true) {x : α} (hx : x ∈ l.getD cn []) : f cn = true := by
  have hc : cn < 19 := by
    rcases Nat.lt_or_ge cn 19 with h1 | h1
    · exact h1
    · rw [List.getD_eq_getElem?_getD, List.getElem?_eq_none (by omega)] at hx
      cases hx
  exact List.all_eq_true.mp h cn (List.mem_range.mpr hc)
theorem am_fF {cn x ci j q : Nat} (h : (am_FL.getD cn []).lookup x = some (ci, j, q)) : ∃ (C : String) (T : u_T) (N : Nat), am_cls[ci]? = some (C, T, N) ∧ j < N ∧ Cond.fieldLink (am_cn.getD cn "") x (T j).1 (T j).2.1 (T j).2.2.1 ∈ am_tb := by
  have hm := am_lup h
  have h2 := List.all_eq_true.mp (am_n19 (l := am_FL) rfl am_kF hm) _ hm
  dsimp only at h2
  split at h2
  · rename_i C T N hc
    simp only [Bool.and_eq_true, decide_eq_true_eq] at h2
    exact ⟨C, T, N, hc, h2.1.1, am_tbm h2.1.2 h2.2⟩
  · cases h2
theorem am_fC {cn x ci q : Nat} (h : (am_CL.getD cn []).lookup x = some (ci, q)) : ∃ (C : String) (T : u_T) (N : Nat), am_cls[ci]? = some (C, T, N) ∧ Cond.classLink (am_cn.getD cn "") x C ∈ am_tb := by
  have hm := am_lup h
  have h2 := List.all_eq_true.mp (am_n19 (l := am_CL) rfl am_kC hm) _ hm
  dsimp only at h2
  split at h2
  · rename_i C T N hc
    simp only [Bool.and_eq_true, decide_eq_true_eq] at h2
    exact ⟨C, T, N, hc, am_tbm h2.1 h2.2⟩
  · cases h2
theorem am_fK {cn x q : Nat} {v : Int} (h : (am_KC.getD cn []).lookup x = some (v, q)) : Cond.constant (am_cn.getD cn "") x (Int32.ofInt v) ∈ am_tb := by
  have hm := am_lup h
  have h2 := List.all_eq_true.mp (am_n19 (l := am_KC) rfl am_kK hm) _ hm
  simp only [Bool.and_eq_true, decide_eq_true_eq] at h2
  exact am_tbm h2.1 h2.2
theorem am_fL {cn x q : Nat} {v : Int} (h : (am_KL.getD cn []).lookup x = some (v, q)) : Cond.constantLong (am_cn.getD cn "") x (Int64.ofInt v) ∈ am_tb := by
  have hm := am_lup h
  have h2 := List.all_eq_true.mp (am_n19 (l := am_KL) rfl am_kL hm) _ hm
  simp only [Bool.and_eq_true, decide_eq_true_eq] at h2
  exact am_tbm h2.1 h2.2
theorem am_c13 {ci : Nat} {q : vw_C} (h : am_cls[ci]? = some q) : ci < 13 := (List.getElem?_eq_some_iff.mp h).1
theorem am_fI {ci : Nat} {C : String} {T : u_T} {N : Nat} (h : am_cls[ci]? = some (C, T, N)) : Cond.instantiable C N ∈ am_tb ∧ Cond.initialized C ∈ am_tb ∧ (∀ w ∈ u_ws C T N, w ∈ am_tb) ∧ (∀ k, k < N → (T k).1 = C) ∧ C = am_cn.getD ci "" := by
  have h2 := List.all_eq_true.mp am_kI ci (List.mem_range.mpr (am_c13 h))
  rw [h] at h2
  simp only [Bool.and_eq_true, decide_eq_true_eq] at h2
  obtain ⟨⟨⟨⟨⟨a1, a2⟩, a3⟩, a4⟩, a5⟩, a6⟩ := h2
  have a7 : ∀ k, k < N → (lw_tbl[(am_lp.getD ci []).getD k 0]? = some (u_lay C T k) ∧ goodWord (u_lay C T k) = true) ∧ (T k).1 = C := fun k hk => by
    have := List.all_eq_true.mp a5 k (List.mem_range.mpr hk)
    simpa only [Bool.and_eq_true, decide_eq_true_eq] using this
  refine ⟨am_tbm a1 a2, am_tbm a3 a4, fun w hw => ?_, fun k hk => (a7 k hk).2, a6⟩
  obtain ⟨k, hk, rfl⟩ := List.mem_map.mp hw
  have hk := List.mem_range.mp hk
  exact am_tbm (a7 k hk).1.1 (a7 k hk).1.2
theorem am_fT {ci : Nat} {C : String} {T : u_T} {N : Nat} (h : am_cls[ci]? = some (C, T, N)) : (∀ k, k < N → parseFieldDescriptor (T k).2.2.1 = some (am_ty ci k)) ∧ ∀ a, a < N → ∀ b, b < N → a ≠ b → (T a).2.1 ≠ (T b).2.1 := by
  have hc := am_c13 h
  match ci, hc, h with
  | 0, _, h => cases h; exact ⟨tyX0_ok, nmX0⟩
  | 1, _, h => cases h; exact ⟨tyX1_ok, nmX1⟩
  | 2, _, h => cases h; exact ⟨tyX2_ok, nmX2⟩
  | 3, _, h => cases h; exact ⟨tyX3_ok, nmX3⟩
  | 4, _, h => cases h; exact ⟨tyX4_ok, nmX4⟩
  | 5, _, h => cases h; exact ⟨tyX5_ok, nmX5⟩
  | 6, _, h => cases h; exact ⟨tyX6_ok, nmX6⟩
  | 7, _, h => cases h; exact ⟨tyX7_ok, nmX7⟩
  | 8, _, h => cases h; exact ⟨tyX8_ok, nmX8⟩
  | 9, _, h => cases h; exact ⟨tyX9_ok, nmX9⟩
  | 10, _, h => cases h; exact ⟨tyX10_ok, nmX10⟩
  | 11, _, h => cases h; exact ⟨tyX11_ok, nmX11⟩
  | 12, _, h => cases h; exact ⟨tyX12_ok, nmX12⟩
theorem am_k126 {k : Nat} {e : (Nat × Nat) ⊕ (Nat × List (Nat × Nat × Nat))} (h : am_sh[k]? = some e) : k < 126 := by
  have := (List.getElem?_eq_some_iff.mp h).1
  rwa [am_shl] at this
theorem am_fA {k t n : Nat} (h : am_sh[k]? = some (.inl (t, n))) : t < 4 ∧ n < 10000 := by
  have h2 := List.all_eq_true.mp am_kS k (List.mem_range.mpr (am_k126 h))
  rw [h] at h2
  simpa only [Bool.and_eq_true, decide_eq_true_eq] using h2
theorem am_fO {k ci : Nat} {ks : List (Nat × Nat × Nat)} (h : am_sh[k]? = some (.inr (ci, ks))) : ∃ (C : String) (T : u_T) (N : Nat), am_cls[ci]? = some (C, T, N) ∧ ks.length = N ∧ ∀ j t r q, ks[j]? = some (t, r, q) → (t = 0 ∧ am_ty ci j = .int ∧ (T j).2.2.2 = false) ∨ (t = 1 ∧ am_ty ci j = .boolean ∧ (T j).2.2.2 = false) ∨ (t = 2 ∧ am_rt (am_ty ci j) = true ∧ (T j).2.2.2 = true ∧ am_qo[q]? = some (k, j) ∧ r < 126) ∨ (t = 3 ∧ am_rt (am_ty ci j) = true ∧ (T j).2.2.2 = false ∧ r < 126) := by
  have h2 := List.all_eq_true.mp am_kS k (List.mem_range.mpr (am_k126 h))
  rw [h] at h2
  dsimp only at h2
  split at h2
  · rename_i C T N hc
    simp only [Bool.and_eq_true, decide_eq_true_eq] at h2
    obtain ⟨h3, h4⟩ := h2
    refine ⟨C, T, N, hc, h3, fun j t r q hj => ?_⟩
    have hl := (List.getElem?_eq_some_iff.mp hj).1
    have h5 := List.all_eq_true.mp h4 j (List.mem_range.mpr (by omega))
    rw [hj] at h5
    dsimp only at h5
    have r0 : am_it (am_ty ci j) = 0 → am_ty ci j = .int := by
      intro h; unfold am_it at h; split at h <;> first | assumption | cases h
    have r1 : am_it (am_ty ci j) = 1 → am_ty ci j = .boolean := by
      intro h; unfold am_it at h; split at h <;> first | assumption | cases h
    have r2 : am_it (am_ty ci j) = 2 → am_rt (am_ty ci j) = true := by
      intro h; unfold am_it at h; unfold am_rt; split at h <;> first | (cases h; done) | (rename_i e; rw [e])
    split at h5
    · simp only [Bool.and_eq_true, decide_eq_true_eq] at h5
      exact Or.inl ⟨rfl, r0 h5.1, h5.2⟩
    · simp only [Bool.and_eq_true, decide_eq_true_eq] at h5
      exact Or.inr (Or.inl ⟨rfl, r1 h5.1, h5.2⟩)
    · simp only [Bool.and_eq_true, decide_eq_true_eq] at h5
      exact Or.inr (Or.inr (Or.inl ⟨rfl, r2 h5.1.1.1, h5.1.1.2, h5.1.2, h5.2⟩))
    · simp only [Bool.and_eq_true, decide_eq_true_eq] at h5
      exact Or.inr (Or.inr (Or.inr ⟨rfl, r2 h5.1.1, h5.1.2, h5.2⟩))
    · cases h5
  · cases h2
theorem am_slm {a b : Nat} (h : a ≤ b) : am_sl a ≤ am_sl b := by
  unfold am_sl
  obtain ⟨d, rfl⟩ := Nat.le.dest h
  rw [List.take_add, List.map_append, List.sum_append]
  exact Nat.le_add_right _ _
theorem am_sls {nc : Nat} {e : (Nat × Nat) ⊕ (Nat × List (Nat × Nat × Nat))} (h : am_sh[nc]? = some e) : am_sl (nc + 1) = am_sl nc + am_z1 e := by
  unfold am_sl
  rw [List.take_succ, h, List.map_append, List.sum_append]
  simp
theorem am_rtf {t : FieldType} (h : am_rt t = true) (a : Nat) : narrow t (.ref a) = .ref a ∧ fits t (.ref a) = true ∧ defaultValue t = .null := by
  cases t <;> first | exact ⟨rfl, rfl, rfl⟩ | (cases h; done)
set_option maxRecDepth 1000000 in
theorem am_kM0 : ((List.range 19).all fun cn => (am_ML.getD cn []).all fun e => match e.2.1 with
  | 10000 => decide (lw_tbl[e.2.2.2]? = some (.methodLink (am_cn.getD cn "") e.1 objectInit)) && goodWord (.methodLink (am_cn.getD cn "") e.1 objectInit)
  | 10001 => decide (lw_tbl[e.2.2.2]? = some (.methodLink (am_cn.getD cn "") e.1 arraycopyName)) && goodWord (.methodLink (am_cn.getD cn "") e.1 arraycopyName)
  | _ => true) = true := by decide +kernel
set_option maxRecDepth 1000000 in
theorem am_kM1 : Cond.instanceMethod objectInit ∈ am_tb ∧ Cond.code objectInit ⟨#[0xb1]⟩ 1 none ∈ am_tb := ⟨am_tbm (i := 154) (by decide +kernel) rfl, am_tbm (i := 155) (by decide +kernel) rfl⟩
set_option maxRecDepth 1000000 in
theorem am_kM2 : Cond.native arraycopyName ∈ am_tb ∧ Cond.static arraycopyName ∈ am_tb ∧ Cond.initialized "java/lang/System" ∈ am_tb := ⟨am_tbm (i := 654) (by decide +kernel) rfl, am_tbm (i := 653) (by decide +kernel) rfl, am_tbm (i := 145) (by decide +kernel) rfl⟩
theorem am_fM0 {cn x a q : Nat} (h : (am_ML.getD cn []).lookup x = some (10000, a, q)) : Cond.methodLink (am_cn.getD cn "") x objectInit ∈ am_tb ∧ Cond.instanceMethod objectInit ∈ am_tb ∧ Cond.code objectInit ⟨#[0xb1]⟩ 1 none ∈ am_tb := by
  have hm := am_lup h
  have h2 := List.all_eq_true.mp (am_n19 (l := am_ML) rfl am_kM0 hm) _ hm
  dsimp only at h2
  simp only [Bool.and_eq_true, decide_eq_true_eq] at h2
  exact ⟨am_tbm h2.1 h2.2, am_kM1⟩
theorem am_fM1 {cn x a q : Nat} (h : (am_ML.getD cn []).lookup x = some (10001, a, q)) : Cond.methodLink (am_cn.getD cn "") x arraycopyName ∈ am_tb ∧ Cond.native arraycopyName ∈ am_tb ∧ Cond.static arraycopyName ∈ am_tb ∧ Cond.initialized "java/lang/System" ∈ am_tb := by
  have hm := am_lup h
  have h2 := List.all_eq_true.mp (am_n19 (l := am_ML) rfl am_kM0 hm) _ hm
  dsimp only at h2
  simp only [Bool.and_eq_true, decide_eq_true_eq] at h2
  exact ⟨am_tbm h2.1 h2.2, am_kM2⟩
