section AMY
variable {p : Program} {l : Launch} {e : Env} {R : Room} {s : State} {m : MethodId} {args : Array Value} {below : List Frame} {meth : Method} {c : Code} {H : Heap} {locs : List Loc} {cells slots : Nat} {Q : State → Prop}
variable {cc : ByteArray} {cn nL b z : Nat} {D : va_G} {cA : Nat → ClassId} {L : Nat} {xs : Nat → Int}
def am_cc (cd : ClassFile.Cond) (x y : Int) : Prop := match cd with
  | .eq => x = y
  | .ne => x ≠ y
  | .lt => x < y
  | .ge => y ≤ x
  | .gt => y < x
  | .le => x ≤ y
theorem am_icmp {x y : Int} {cd : ClassFile.Cond} {off : Int} {t pc : Nat} {A : Array Slot} {rest : List Value} (hx : p.tables.exec = Jvm.exec) (hb : c.code = cc) (hd : decode cc pc = .ok (.if_icmp cd off, 3)) (ht : (pc : Int) + off = (t : Int)) (h1 : am_R x) (h2 : am_R y)
    (kt : am_cc cd x y → W p l e R s m args below meth c H locs cells slots Q (F0 m t A rest))
    (kf : ¬ am_cc cd x y → W p l e R s m args below meth c H locs cells slots Q (F0 m (pc + 3) A rest)) : W p l e R s m args below meth c H locs cells slots Q (F0 m pc A (.int (Int32.ofInt y) :: .int (Int32.ofInt x) :: rest)) := by
  cases cd with
  | eq => exact lv_icmp_eq hx hb hd ht (fun h => kt ((ai_eq h1 h2).mp h)) (fun h => kf (fun q => h ((ai_eq h1 h2).mpr q)))
  | ne => exact lv_icmp_ne hx hb hd ht (fun h => kt (fun q => h ((ai_eq h1 h2).mpr q))) (fun h => kf (fun q => q ((ai_eq h1 h2).mp h)))
  | lt => exact lv_icmp_lt hx hb hd ht (fun h => kt ((ai_lt h1 h2).mp h)) (fun h => kf (fun q => h ((ai_lt h1 h2).mpr q)))
  | ge => exact lv_icmp_ge hx hb hd ht (fun h => kt ((ai_le h2 h1).mp h)) (fun h => kf (fun q => h ((ai_le h2 h1).mpr q)))
  | gt => exact lv_icmp_gt hx hb hd ht (fun h => kt ((ai_lt h2 h1).mp h)) (fun h => kf (fun q => h ((ai_lt h2 h1).mpr q)))
  | le => exact lv_icmp_le hx hb hd ht (fun h => kt ((ai_le h1 h2).mp h)) (fun h => kf (fun q => h ((ai_le h1 h2).mpr q)))
theorem am_ifc {x : Int} {cd : ClassFile.Cond} {off : Int} {t pc : Nat} {A : Array Slot} {rest : List Value} (hx : p.tables.exec = Jvm.exec) (hb : c.code = cc) (hd : decode cc pc = .ok (.ifCond cd off, 3)) (ht : (pc : Int) + off = (t : Int)) (h1 : am_R x)
    (kt : am_cc cd x 0 → W p l e R s m args below meth c H locs cells slots Q (F0 m t A rest))
    (kf : ¬ am_cc cd x 0 → W p l e R s m args below meth c H locs cells slots Q (F0 m (pc + 3) A rest)) : W p l e R s m args below meth c H locs cells slots Q (F0 m pc A (.int (Int32.ofInt x) :: rest)) := by
  have h2 : am_R 0 := ⟨by decide, by decide⟩
  have z0 : (0 : Int32) = Int32.ofInt 0 := rfl
  cases cd with
  | eq => exact lv_if_eq hx hb hd ht (fun h => kt ((ai_eq h1 h2).mp h)) (fun h => kf (fun q => h ((ai_eq h1 h2).mpr q)))
  | ne => exact lv_if_ne hx hb hd ht (fun h => kt (fun q => h ((ai_eq h1 h2).mpr q))) (fun h => kf (fun q => q ((ai_eq h1 h2).mp h)))
  | lt => exact lv_if_lt hx hb hd ht (fun h => kt ((ai_lt h1 h2).mp h)) (fun h => kf (fun q => h ((ai_lt h1 h2).mpr q)))
  | ge => exact lv_if_ge hx hb hd ht (fun h => kt ((ai_le h2 h1).mp h)) (fun h => kf (fun q => h ((ai_le h2 h1).mpr q)))
  | gt => exact lv_if_gt hx hb hd ht (fun h => kt ((ai_lt h2 h1).mp h)) (fun h => kf (fun q => h ((ai_lt h2 h1).mpr q)))
  | le => exact lv_if_le hx hb hd ht (fun h => kt ((ai_le h1 h2).mp h)) (fun h => kf (fun q => h ((ai_le h1 h2).mpr q)))
theorem am_wi (wr : Bool) (x : Int) : Int32.ofInt (am_w wr x) = Int32.ofInt x := by
  cases wr
  · rfl
  · exact ai_nm x
theorem am_cl0 {x : Int} {n : Nat} (h0 : 0 ≤ x) (h : x < n) (hn : n < 10000) : vp_in (Int32.ofInt x) n ∧ (Int32.ofInt x).toNatClampNeg = x.toNat := ai_cl h0 h (by omega)
/-- the steps that make no cell -/
theorem am_xs {pc pc' nc nc' np np' len : Nat} {ls ls' : am_L} {st st' : List am_V} {M M' : am_M} {i : Instr} {ini wr : Bool} {A : Array Slot}
    (hX : am_X p s m args c cc cn nL b z D cA L xs) (hini : ini = true → meth.name = "<init>") (hd : decode cc pc = .ok (i, len)) (hln : am_ln i len = true) (hni : am_isn i = false)
    (h : am_x L xs cn ini wr nL pc ls st nc np M i len = some (.inl (pc', ls', st', nc', np', M')))
    (hw : am_W b z D cA nc np M H) (hS : va_S (am_A z) s.heap H locs) (hl : lv_has A nL (am_lc b z ls)) (hR1 : 1 ≤ R.frames) (hR2 : 100 ≤ R.locals) : nc' = nc ∧ ((∀ (H' : Heap) (locs' : List Loc) (A' : Array Slot), am_W b z D cA nc np' M' H' → va_S (am_A z) s.heap H' locs' → lv_has A' nL (am_lc b z ls') → W p l e R s m args below meth c H' locs' cells slots Q (F0 m pc' A' (am_sc b z st'))) → W p l e R s m args below meth c H locs cells slots Q (F0 m pc A (am_sc b z st))) := by
  obtain ⟨hx, hb, hml, hown, hts, hK, hNW, hz, hscr⟩ := hX
  have hD := am_wsD b z cA nc np M
  obtain ⟨hP, hn, hsz⟩ := id hw
  cases i with
  | aload_n k =>
    have hlen : len = 1 := by simpa [am_ln] using hln
    subst hlen
    simp only [am_x] at h
    split at h
    · rename_i x hx2
      obtain ⟨rfl, rfl, rfl, rfl, rfl, rfl⟩ := am_goi h
      exact ⟨rfl, fun kk => lv_aload_n hx hb hd rfl (am_ldk hl hx2) (kk H locs A hw hS hl)⟩
    · cases h
  | iload_n k =>
    have hlen : len = 1 := by simpa [am_ln] using hln
    subst hlen
    simp only [am_x] at h
    split at h
    · rename_i x hx2
      obtain ⟨rfl, rfl, rfl, rfl, rfl, rfl⟩ := am_goi h
      exact ⟨rfl, fun kk => lv_iload_n hx hb hd rfl (am_ldk hl hx2) (kk H locs A hw hS hl)⟩
    · cases h
  | iload k =>
    have hlen : len = 2 := by simpa [am_ln] using hln
    subst hlen
    simp only [am_x] at h
    split at h
    · rename_i x hx2
      obtain ⟨rfl, rfl, rfl, rfl, rfl, rfl⟩ := am_goi h
      exact ⟨rfl, fun kk => lv_iload hx hb hd (am_ldk hl hx2) (kk H locs A hw hS hl)⟩
    · cases h
  | lload_n k =>
    have hlen : len = 1 := by simpa [am_ln] using hln
    subst hlen
    simp only [am_x] at h
    split at h
    · rename_i x hx2
      obtain ⟨rfl, rfl, rfl, rfl, rfl, rfl⟩ := am_goi h
      exact ⟨rfl, fun kk => lv_lload_n hx hb hd rfl (am_ldk hl hx2) (kk H locs A hw hS hl)⟩
    · cases h
  | lload k =>
    have hlen : len = 2 := by simpa [am_ln] using hln
    subst hlen
    simp only [am_x] at h
    split at h
    · rename_i x hx2
      obtain ⟨rfl, rfl, rfl, rfl, rfl, rfl⟩ := am_goi h
      exact ⟨rfl, fun kk => lv_lload hx hb hd (am_ldk hl hx2) (kk H locs A hw hS hl)⟩
    · cases h
  | istore_n k =>
    have hlen : len = 1 := by simpa [am_ln] using hln
    subst hlen
    obtain ⟨x, r, rfl, h⟩ := am_p1i h
    obtain ⟨hk, h⟩ := am_cni h
    obtain ⟨rfl, rfl, rfl, rfl, rfl, rfl⟩ := am_goi h
    exact ⟨rfl, fun kk => lv_istore_n hx hb hd rfl hl hk (am_lc1 b z ls k.val (.inl x)) (fun A' hA' => kk H locs A' hw hS hA')⟩
  | istore k =>
    have hlen : len = 2 := by simpa [am_ln] using hln
    subst hlen
    obtain ⟨x, r, rfl, h⟩ := am_p1i h
    obtain ⟨hk, h⟩ := am_cni h
    obtain ⟨rfl, rfl, rfl, rfl, rfl, rfl⟩ := am_goi h
    exact ⟨rfl, fun kk => lv_istore hx hb hd hl hk (am_lc1 b z ls k (.inl x)) (fun A' hA' => kk H locs A' hw hS hA')⟩
  | astore_n k =>
    have hlen : len = 1 := by simpa [am_ln] using hln
    subst hlen
    obtain ⟨x, r, rfl, h⟩ := am_a1i h
    obtain ⟨hk, h⟩ := am_cni h
    obtain ⟨rfl, rfl, rfl, rfl, rfl, rfl⟩ := am_goi h
    exact ⟨rfl, fun kk => lv_astore_n hx hb hd rfl hl hk (am_lc1 b z ls k.val (.inr (.inr (some x)))) (fun A' hA' => kk H locs A' hw hS hA')⟩
  | lstore_n k =>
    have hlen : len = 1 := by simpa [am_ln] using hln
    subst hlen
    simp only [am_x] at h
    split at h
    · rename_i x r
      obtain ⟨hk, h⟩ := am_cni h
      obtain ⟨rfl, rfl, rfl, rfl, rfl, rfl⟩ := am_goi h
      exact ⟨rfl, fun kk => lv_lstore_n hx hb hd rfl hl hk (am_lc2 b z ls k.val (.inr (.inl x))) (fun A' hA' => kk H locs A' hw hS hA')⟩
    · cases h
  | lstore k =>
    have hlen : len = 2 := by simpa [am_ln] using hln
    subst hlen
    simp only [am_x] at h
    split at h
    · rename_i x r
      obtain ⟨hk, h⟩ := am_cni h
      obtain ⟨rfl, rfl, rfl, rfl, rfl, rfl⟩ := am_goi h
      exact ⟨rfl, fun kk => lv_lstore hx hb hd hl hk (am_lc2 b z ls k (.inr (.inl x))) (fun A' hA' => kk H locs A' hw hS hA')⟩
    · cases h
  | iinc k n =>
    have hlen : len = 3 := by simpa [am_ln] using hln
    subst hlen
    simp only [am_x] at h
    split at h
    · rename_i x hx2
      obtain ⟨hk, h⟩ := am_cni h
      obtain ⟨rfl, rfl, rfl, rfl, rfl, rfl⟩ := am_goi h
      obtain ⟨j, hj⟩ := am_ldi (b := b) (z := z) hx2
      exact ⟨rfl, fun kk => lv_iinc hx hb hd hl hj (ai_add x n) hk (am_lc1 b z ls k (.inl (x + n))) (fun A' hA' => kk H locs A' hw hS hA')⟩
    · cases h
  | iconst n =>
    have hlen : len = 1 := by simpa [am_ln] using hln
    subst hlen
    obtain ⟨rfl, rfl, rfl, rfl, rfl, rfl⟩ := am_goi h
    exact ⟨rfl, fun kk => lv_iconst hx hb hd rfl (kk H locs A hw hS hl)⟩
  | bipush n =>
    have hlen : len = 2 := by simpa [am_ln] using hln
    subst hlen
    obtain ⟨hk, h⟩ := am_cni h
    obtain ⟨rfl, rfl, rfl, rfl, rfl, rfl⟩ := am_goi h
    exact ⟨rfl, fun kk => lv_bipush hx hb hd (ai_b8 n hk.1 hk.2) (kk H locs A hw hS hl)⟩
  | sipush n =>
    have hlen : len = 3 := by simpa [am_ln] using hln
    subst hlen
    obtain ⟨hk, h⟩ := am_cni h
    obtain ⟨rfl, rfl, rfl, rfl, rfl, rfl⟩ := am_goi h
    exact ⟨rfl, fun kk => lv_sipush hx hb hd (ai_b16 n hk.1 hk.2) (kk H locs A hw hS hl)⟩
  | lconst n =>
    have hlen : len = 1 := by simpa [am_ln] using hln
    subst hlen
    obtain ⟨rfl, rfl, rfl, rfl, rfl, rfl⟩ := am_goi h
    exact ⟨rfl, fun kk => lv_lconst hx hb hd rfl (kk H locs A hw hS hl)⟩
  | ldc x =>
    have hlen : len = 2 := by simpa [am_ln] using hln
    subst hlen
    simp only [am_x] at h
    split at h
    · rename_i v q hq
      obtain ⟨rfl, rfl, rfl, rfl, rfl, rfl⟩ := am_goi h
      exact ⟨rfl, fun kk => lv_ldc hx hb hown (hts _ (am_fK hq)) hd (kk H locs A hw hS hl)⟩
    · cases h
  | ldc_w x =>
    have hlen : len = 3 := by simpa [am_ln] using hln
    subst hlen
    simp only [am_x] at h
    split at h
    · rename_i v q hq
      obtain ⟨rfl, rfl, rfl, rfl, rfl, rfl⟩ := am_goi h
      exact ⟨rfl, fun kk => lv_ldcw hx hb hown (hts _ (am_fK hq)) hd (kk H locs A hw hS hl)⟩
    · cases h
  | ldc2_w x =>
    have hlen : len = 3 := by simpa [am_ln] using hln
    subst hlen
    simp only [am_x] at h
    split at h
    · rename_i v q hq
      obtain ⟨rfl, rfl, rfl, rfl, rfl, rfl⟩ := am_goi h
      exact ⟨rfl, fun kk => lv_ldc2 hx hb hown (hts _ (am_fL hq)) hd (kk H locs A hw hS hl)⟩
    · cases h
  | iadd =>
    have hlen : len = 1 := by simpa [am_ln] using hln
    subst hlen
    obtain ⟨x, y, r, rfl, h⟩ := am_p2i h
    obtain ⟨rfl, rfl, rfl, rfl, rfl, rfl⟩ := am_goi h
    refine ⟨rfl, fun kk => lv_iadd hx hb hd ?_⟩
    rw [ai_add, ← am_wi wr]
    exact kk H locs A hw hS hl
  | isub =>
    have hlen : len = 1 := by simpa [am_ln] using hln
    subst hlen
    obtain ⟨x, y, r, rfl, h⟩ := am_p2i h
    obtain ⟨rfl, rfl, rfl, rfl, rfl, rfl⟩ := am_goi h
    refine ⟨rfl, fun kk => lv_isub hx hb hd ?_⟩
    rw [ai_sub, ← am_wi wr]
    exact kk H locs A hw hS hl
  | imul =>
    have hlen : len = 1 := by simpa [am_ln] using hln
    subst hlen
    obtain ⟨x, y, r, rfl, h⟩ := am_p2i h
    obtain ⟨rfl, rfl, rfl, rfl, rfl, rfl⟩ := am_goi h
    refine ⟨rfl, fun kk => lv_imul hx hb hd ?_⟩
    rw [ai_mul, ← am_wi wr]
    exact kk H locs A hw hS hl
  | idiv =>
    have hlen : len = 1 := by simpa [am_ln] using hln
    subst hlen
    obtain ⟨x, y, r, rfl, h⟩ := am_p2i h
    obtain ⟨hk, h⟩ := am_cni h
    obtain ⟨rfl, rfl, rfl, rfl, rfl, rfl⟩ := am_goi h
    refine ⟨rfl, fun kk => lv_idiv hx hb hd (fun q => hk.2.2 ((ai_eq hk.2.1 ⟨by decide, by decide⟩).mp q)) ?_⟩
    rw [ai_div hk.1 hk.2.1, ← am_wi wr]
    exact kk H locs A hw hS hl
  | irem =>
    have hlen : len = 1 := by simpa [am_ln] using hln
    subst hlen
    obtain ⟨x, y, r, rfl, h⟩ := am_p2i h
    obtain ⟨hk, h⟩ := am_cni h
    obtain ⟨rfl, rfl, rfl, rfl, rfl, rfl⟩ := am_goi h
    refine ⟨rfl, fun kk => lv_irem hx hb hd (fun q => hk.2.2 ((ai_eq hk.2.1 ⟨by decide, by decide⟩).mp q)) ?_⟩
    rw [ai_rem hk.1 hk.2.1]
    exact kk H locs A hw hS hl
  | ineg =>
    have hlen : len = 1 := by simpa [am_ln] using hln
    subst hlen
    obtain ⟨x, r, rfl, h⟩ := am_p1i h
    obtain ⟨rfl, rfl, rfl, rfl, rfl, rfl⟩ := am_goi h
    refine ⟨rfl, fun kk => lv_ineg hx hb hd ?_⟩
    rw [ai_neg]
    exact kk H locs A hw hS hl
  | iand =>
    have hlen : len = 1 := by simpa [am_ln] using hln
    subst hlen
    obtain ⟨x, y, r, rfl, h⟩ := am_p2i h
    obtain ⟨rfl, rfl, rfl, rfl, rfl, rfl⟩ := am_goi h
    refine ⟨rfl, fun kk => lv_iand hx hb hd ?_⟩
    have k2 := kk H locs A hw hS hl
    simp only [am_sc, List.map_cons, am_cv, am_b2, ai_to] at k2
    exact k2
  | ior =>
    have hlen : len = 1 := by simpa [am_ln] using hln
    subst hlen
    obtain ⟨x, y, r, rfl, h⟩ := am_p2i h
    obtain ⟨rfl, rfl, rfl, rfl, rfl, rfl⟩ := am_goi h
    refine ⟨rfl, fun kk => lv_ior hx hb hd ?_⟩
    have k2 := kk H locs A hw hS hl
    simp only [am_sc, List.map_cons, am_cv, am_b2, ai_to] at k2
    exact k2
  | ixor =>
    have hlen : len = 1 := by simpa [am_ln] using hln
    subst hlen
    obtain ⟨x, y, r, rfl, h⟩ := am_p2i h
    obtain ⟨rfl, rfl, rfl, rfl, rfl, rfl⟩ := am_goi h
    refine ⟨rfl, fun kk => lv_ixor hx hb hd ?_⟩
    have k2 := kk H locs A hw hS hl
    simp only [am_sc, List.map_cons, am_cv, am_b2, ai_to] at k2
    exact k2
  | ishl =>
    have hlen : len = 1 := by simpa [am_ln] using hln
    subst hlen
    obtain ⟨x, y, r, rfl, h⟩ := am_p2i h
    obtain ⟨rfl, rfl, rfl, rfl, rfl, rfl⟩ := am_goi h
    refine ⟨rfl, fun kk => lv_ishl hx hb hd ?_⟩
    have k2 := kk H locs A hw hS hl
    simp only [am_sc, List.map_cons, am_cv, am_b2, ai_to] at k2
    exact k2
  | ishr =>
    have hlen : len = 1 := by simpa [am_ln] using hln
    subst hlen
    obtain ⟨x, y, r, rfl, h⟩ := am_p2i h
    obtain ⟨rfl, rfl, rfl, rfl, rfl, rfl⟩ := am_goi h
    refine ⟨rfl, fun kk => lv_ishr hx hb hd ?_⟩
    have k2 := kk H locs A hw hS hl
    simp only [am_sc, List.map_cons, am_cv, am_b2, ai_to] at k2
    exact k2
  | iushr =>
    have hlen : len = 1 := by simpa [am_ln] using hln
    subst hlen
    obtain ⟨x, y, r, rfl, h⟩ := am_p2i h
    obtain ⟨rfl, rfl, rfl, rfl, rfl, rfl⟩ := am_goi h
    refine ⟨rfl, fun kk => lv_iushr hx hb hd rfl ?_⟩
    have k2 := kk H locs A hw hS hl
    simp only [am_sc, List.map_cons, am_cv, am_b2, ai_to] at k2
    exact k2
  | i2b =>
    have hlen : len = 1 := by simpa [am_ln] using hln
    subst hlen
    obtain ⟨x, r, rfl, h⟩ := am_p1i h
    obtain ⟨rfl, rfl, rfl, rfl, rfl, rfl⟩ := am_goi h
    refine ⟨rfl, fun kk => lv_i2b hx hb hd rfl ?_⟩
    have k2 := kk H locs A hw hS hl
    simp only [am_sc, List.map_cons, am_cv, ai_to] at k2
    exact k2
  | i2l =>
    have hlen : len = 1 := by simpa [am_ln] using hln
    subst hlen
    obtain ⟨x, r, rfl, h⟩ := am_p1i h
    obtain ⟨hk, h⟩ := am_cni h
    obtain ⟨rfl, rfl, rfl, rfl, rfl, rfl⟩ := am_goi h
    exact ⟨rfl, fun kk => lv_i2l hx hb hd (ai_il hk) (kk H locs A hw hS hl)⟩
  | lmul =>
    have hlen : len = 1 := by simpa [am_ln] using hln
    subst hlen
    obtain ⟨x, y, r, rfl, h⟩ := am_q2i h
    obtain ⟨rfl, rfl, rfl, rfl, rfl, rfl⟩ := am_goi h
    refine ⟨rfl, fun kk => lv_lmul hx hb hd ?_⟩
    rw [ai_mul6]
    exact kk H locs A hw hS hl
  | ldiv =>
    have hlen : len = 1 := by simpa [am_ln] using hln
    subst hlen
    obtain ⟨x, y, r, rfl, h⟩ := am_q2i h
    obtain ⟨hk, h⟩ := am_cni h
    obtain ⟨rfl, rfl, rfl, rfl, rfl, rfl⟩ := am_goi h
    refine ⟨rfl, fun kk => lv_ldiv hx hb hd (fun q => hk.2.2 ((ai_eq6 hk.2.1 ⟨by decide, by decide⟩).mp q)) ?_⟩
    rw [ai_div6 hk.1 hk.2.1]
    exact kk H locs A hw hS hl
  | lrem =>
    have hlen : len = 1 := by simpa [am_ln] using hln
    subst hlen
    obtain ⟨x, y, r, rfl, h⟩ := am_q2i h
    obtain ⟨hk, h⟩ := am_cni h
    obtain ⟨rfl, rfl, rfl, rfl, rfl, rfl⟩ := am_goi h
    refine ⟨rfl, fun kk => lv_lrem hx hb hd (fun q => hk.2.2 ((ai_eq6 hk.2.1 ⟨by decide, by decide⟩).mp q)) ?_⟩
    rw [ai_rem6 hk.1 hk.2.1]
    exact kk H locs A hw hS hl
  | land =>
    have hlen : len = 1 := by simpa [am_ln] using hln
    subst hlen
    obtain ⟨x, y, r, rfl, h⟩ := am_q2i h
    obtain ⟨rfl, rfl, rfl, rfl, rfl, rfl⟩ := am_goi h
    refine ⟨rfl, fun kk => lv_land hx hb hd ?_⟩
    have k2 := kk H locs A hw hS hl
    simp only [am_sc, List.map_cons, am_cv, am_bL, ai_to6] at k2
    exact k2
  | lor =>
    have hlen : len = 1 := by simpa [am_ln] using hln
    subst hlen
    obtain ⟨x, y, r, rfl, h⟩ := am_q2i h
    obtain ⟨rfl, rfl, rfl, rfl, rfl, rfl⟩ := am_goi h
    refine ⟨rfl, fun kk => lv_lor hx hb hd ?_⟩
    have k2 := kk H locs A hw hS hl
    simp only [am_sc, List.map_cons, am_cv, am_bL, ai_to6] at k2
    exact k2
  | lshl =>
    have hlen : len = 1 := by simpa [am_ln] using hln
    subst hlen
    obtain ⟨x, y, r, rfl, h⟩ := am_q21i h
    obtain ⟨rfl, rfl, rfl, rfl, rfl, rfl⟩ := am_goi h
    refine ⟨rfl, fun kk => lv_lshl hx hb hd rfl ?_⟩
    have k2 := kk H locs A hw hS hl
    simp only [am_sc, List.map_cons, am_cv, ai_to6] at k2
    exact k2
  | lshr =>
    have hlen : len = 1 := by simpa [am_ln] using hln
    subst hlen
    obtain ⟨x, y, r, rfl, h⟩ := am_q21i h
    obtain ⟨rfl, rfl, rfl, rfl, rfl, rfl⟩ := am_goi h
    refine ⟨rfl, fun kk => lv_lshr hx hb hd rfl ?_⟩
    have k2 := kk H locs A hw hS hl
    simp only [am_sc, List.map_cons, am_cv, ai_to6] at k2
    exact k2
  | lcmp =>
    have hlen : len = 1 := by simpa [am_ln] using hln
    subst hlen
    obtain ⟨x, y, r, rfl, h⟩ := am_q2i h
    obtain ⟨hk, h⟩ := am_cni h
    obtain ⟨rfl, rfl, rfl, rfl, rfl, rfl⟩ := am_goi h
    refine ⟨rfl, fun kk => W.lcmp hx hb hd ?_⟩
    have e1 : lg_cmp (Int64.ofInt x) (Int64.ofInt y) = Int32.ofInt (if x > y then 1 else if x = y then 0 else -1) := by
      unfold lg_cmp
      by_cases h1 : x > y
      · rw [if_pos ((ai_lt6 hk.2 hk.1).mpr h1), if_pos h1]
        rfl
      · rw [if_neg (fun q => h1 ((ai_lt6 hk.2 hk.1).mp q)), if_neg h1]
        by_cases h2 : x = y
        · rw [if_pos ((ai_eq6 hk.1 hk.2).mpr h2), if_pos h2]
          rfl
        · rw [if_neg (fun q => h2 ((ai_eq6 hk.1 hk.2).mp q)), if_neg h2]
          rfl
    rw [e1]
    exact kk H locs A hw hS hl
  | dup =>
    have hlen : len = 1 := by simpa [am_ln] using hln
    subst hlen
    simp only [am_x] at h
    split at h
    · rename_i v r
      split at h
      · cases h
      · rename_i hv
        obtain ⟨rfl, rfl, rfl, rfl, rfl, rfl⟩ := am_goi h
        exact ⟨rfl, fun kk => lv_dup hx hb hd (am_cat1 (by simpa using hv)) (kk H locs A hw hS hl)⟩
    · cases h
  | dup2 =>
    have hlen : len = 1 := by simpa [am_ln] using hln
    subst hlen
    simp only [am_x] at h
    split at h
    · rename_i v w r
      split at h
      · cases h
      · rename_i hv
        obtain ⟨rfl, rfl, rfl, rfl, rfl, rfl⟩ := am_goi h
        simp only [Bool.or_eq_true, not_or, Bool.not_eq_true] at hv
        exact ⟨rfl, fun kk => lv_dup2_11 hx hb hd (am_cat1 hv.1) (am_cat1 hv.2) (kk H locs A hw hS hl)⟩
    · cases h
  | pop =>
    have hlen : len = 1 := by simpa [am_ln] using hln
    subst hlen
    simp only [am_x] at h
    split at h
    · rename_i v r
      split at h
      · cases h
      · rename_i hv
        obtain ⟨rfl, rfl, rfl, rfl, rfl, rfl⟩ := am_goi h
        exact ⟨rfl, fun kk => lv_pop hx hb hd (am_cat1 (by simpa using hv)) (kk H locs A hw hS hl)⟩
    · cases h
  | if_icmp cd off =>
    have hlen : len = 3 := by simpa [am_ln] using hln
    subst hlen
    obtain ⟨x, y, r, rfl, h⟩ := am_p2i h
    obtain ⟨hk, h⟩ := am_cni h
    have key : ∃ t : Nat, (pc : Int) + off = (t : Int) ∧ ((am_cc cd x y ∧ am_go t ls r nc np M = some (.inl (pc', ls', st', nc', np', M'))) ∨ (¬ am_cc cd x y ∧ am_go (pc + 3) ls r nc np M = some (.inl (pc', ls', st', nc', np', M')))) := by
      cases cd <;> (obtain ⟨t, h1, h2⟩ := am_ifi h; exact ⟨t, h1, h2⟩)
    obtain ⟨t, ht, ⟨hc, h⟩ | ⟨hc, h⟩⟩ := key
    · obtain ⟨rfl, rfl, rfl, rfl, rfl, rfl⟩ := am_goi h
      exact ⟨rfl, fun kk => am_icmp hx hb hd ht hk.1 hk.2 (fun _ => kk H locs A hw hS hl) (fun q => absurd hc q)⟩
    · obtain ⟨rfl, rfl, rfl, rfl, rfl, rfl⟩ := am_goi h
      exact ⟨rfl, fun kk => am_icmp hx hb hd ht hk.1 hk.2 (fun q => absurd q hc) (fun _ => kk H locs A hw hS hl)⟩
  | ifCond cd off =>
    have hlen : len = 3 := by simpa [am_ln] using hln
    subst hlen
    obtain ⟨x, r, rfl, h⟩ := am_p1i h
    obtain ⟨hk, h⟩ := am_cni h
    have key : ∃ t : Nat, (pc : Int) + off = (t : Int) ∧ ((am_cc cd x 0 ∧ am_go t ls r nc np M = some (.inl (pc', ls', st', nc', np', M'))) ∨ (¬ am_cc cd x 0 ∧ am_go (pc + 3) ls r nc np M = some (.inl (pc', ls', st', nc', np', M')))) := by
      cases cd <;> (obtain ⟨t, h1, h2⟩ := am_ifi h; exact ⟨t, h1, h2⟩)
    obtain ⟨t, ht, ⟨hc, h⟩ | ⟨hc, h⟩⟩ := key
    · obtain ⟨rfl, rfl, rfl, rfl, rfl, rfl⟩ := am_goi h
      exact ⟨rfl, fun kk => am_ifc hx hb hd ht hk (fun _ => kk H locs A hw hS hl) (fun q => absurd hc q)⟩
    · obtain ⟨rfl, rfl, rfl, rfl, rfl, rfl⟩ := am_goi h
      exact ⟨rfl, fun kk => am_ifc hx hb hd ht hk (fun q => absurd q hc) (fun _ => kk H locs A hw hS hl)⟩
  | goto off =>
    have hlen : len = 3 := by simpa [am_ln] using hln
    subst hlen
    simp only [am_x] at h
    obtain ⟨t, ht, h⟩ := am_jpi h
    obtain ⟨rfl, rfl, rfl, rfl, rfl, rfl⟩ := am_goi h
    exact ⟨rfl, fun kk => lv_goto hx hb hd ht (kk H locs A hw hS hl)⟩
  | ifnonnull off =>
    have hlen : len = 3 := by simpa [am_ln] using hln
    subst hlen
    simp only [am_x] at h
    obtain ⟨k, r, e0, g⟩ := am_a1i h
    clear h
    subst e0
    obtain ⟨t, ht, h⟩ := am_jpi g
    obtain ⟨rfl, rfl, rfl, rfl, rfl, rfl⟩ := am_goi h
    exact ⟨rfl, fun kk => lv_ifnonnull hx hb hd ht (kk H locs A hw hS hl)⟩
  | tableswitch d lo hi offs =>
    obtain ⟨x, r, rfl, h⟩ := am_p1i h
    obtain ⟨hk, h⟩ := am_cni h
    split at h
    · rename_i ho
      obtain ⟨t, ht, h⟩ := am_jpi h
      obtain ⟨rfl, rfl, rfl, rfl, rfl, rfl⟩ := am_goi h
      exact ⟨rfl, fun kk => lv_tableOut hx hb hd (by rw [ai_t hk]; exact ho) ht (kk H locs A hw hS hl)⟩
    · rename_i ho
      split at h
      · rename_i o hoo
        obtain ⟨t, ht, h⟩ := am_jpi h
        obtain ⟨rfl, rfl, rfl, rfl, rfl, rfl⟩ := am_goi h
        exact ⟨rfl, fun kk => lv_tableIn hx hb hd (by rw [ai_t hk]; exact fun q => ho (Or.inl q)) (by rw [ai_t hk]; exact fun q => ho (Or.inr q)) (by rw [ai_t hk]; exact hoo) ht (kk H locs A hw hS hl)⟩
      · cases h
  | lookupswitch d ps =>
    obtain ⟨x, r, rfl, h⟩ := am_p1i h
    obtain ⟨hk, h⟩ := am_cni h
    obtain ⟨t, ht, h⟩ := am_jpi h
    obtain ⟨rfl, rfl, rfl, rfl, rfl, rfl⟩ := am_goi h
    exact ⟨rfl, fun kk => lv_lookup hx hb hd hk.2 (by rw [ai_t hk.1]) ht (kk H locs A hw hS hl)⟩
  | getfield x =>
    have hlen : len = 3 := by simpa [am_ln] using hln
    subst hlen
    simp only [am_x] at h
    split at h
    · rename_i ci j q hq
      obtain ⟨C, T, N, hc, hj, hlk⟩ := am_fF hq
      obtain ⟨k, r, rfl, h⟩ := am_a1i h
      obtain ⟨ks, t, c', q', hk, hsh, hks, h⟩ := am_fldi h
      have hg : ∀ v : am_V, am_fv b z np (t, c', q') (M k j) = am_cv b z v → ((∀ (H' : Heap) (locs' : List Loc) (A' : Array Slot), am_W b z D cA nc np M H' → va_S (am_A z) s.heap H' locs' → lv_has A' nL (am_lc b z ls) → W p l e R s m args below meth c H' locs' cells slots Q (F0 m (pc + 3) A' (am_sc b z (v :: r)))) → W p l e R s m args below meth c H locs cells slots Q (F0 m pc A (am_sc b z (.inr (.inr (some k)) :: r)))) := by
        intro v hv kk
        have e1 : am_sc b z (.inr (.inr (some k)) :: r) = .ref (z + k) :: am_sc b z r := by
          show Value.ref (am_ad b z k) :: _ = _
          rw [am_adk hk hn]
          rfl
        rw [e1]
        exact va_get (ref := (T j).1) hx hb hts (am_fI hc).2.2.1 hown hK hP k (am_wObj hk hsh) hc j hj (hts _ hlk) (fun _ h9 => h9) (am_fsg hks) hd (by rw [hv]; exact kk H locs A hw hS hl)
      split at h
      · obtain ⟨rfl, rfl, rfl, rfl, rfl, rfl⟩ := am_goi h
        exact ⟨rfl, hg _ rfl⟩
      · obtain ⟨rfl, rfl, rfl, rfl, rfl, rfl⟩ := am_goi h
        exact ⟨rfl, hg _ rfl⟩
      · obtain ⟨hlt, h⟩ := am_cni h
        obtain ⟨rfl, rfl, rfl, rfl, rfl, rfl⟩ := am_goi h
        exact ⟨rfl, hg _ (by show (if q' < np then _ else _) = _; rw [if_pos hlt]; rfl)⟩
      · rename_i h0 h1 h2
        split at h
        · cases h
        · rename_i hne
          obtain ⟨rfl, rfl, rfl, rfl, rfl, rfl⟩ := am_goi h
          refine ⟨rfl, hg _ ?_⟩
          have ht3 : t = 3 := by
            obtain ⟨C', T', N', -, -, h3⟩ := am_fO hsh
            rcases h3 j _ _ _ hks with h4 | h4 | h4 | h4
            · exact absurd h4.1 h0
            · exact absurd h4.1 h1
            · exact absurd h4.1 h2
            · exact h4.1
          subst ht3
          show (if M k j = 0 then _ else _) = _
          rw [if_neg hne]
          rfl
    · cases h
  | putfield x =>
    have hlen : len = 3 := by simpa [am_ln] using hln
    subst hlen
    simp only [am_x] at h
    split at h
    · rename_i ci j q hq
      obtain ⟨C, T, N, hc, hj, hlk⟩ := am_fF hq
      have hfI := am_fI hc
      have hfT := am_fT hc
      split at h
      · rename_i v k r
        obtain ⟨ks, t, c', q', hk, hsh, hks, h⟩ := am_fldi h
        obtain ⟨C', T', N', hc', hlN, h3⟩ := am_fO hsh
        have hCC : (C', T', N') = (C, T, N) := Option.some.inj (hc'.symm.trans hc)
        simp only [Prod.mk.injEq] at hCC
        obtain ⟨rfl, rfl, rfl⟩ := hCC
        have hlf : j < (am_fs b z np ks (M k)).length := by simpa [am_fs, hlN] using hj
        have e1 : am_sc b z (.inl v :: .inr (.inr (some k)) :: r) = .int (Int32.ofInt v) :: .ref (z + k) :: am_sc b z r := by
          show _ :: Value.ref (am_ad b z k) :: _ = _
          rw [am_adk hk hn]
          rfl
        have hg : (T' j).2.2.2 = false → narrow (am_ty ci j) (.int (Int32.ofInt v)) = .int (Int32.ofInt v) → fits (am_ty ci j) (.int (Int32.ofInt v)) = true → am_fv b z np (t, c', q') v = .int (Int32.ofInt v) → ((∀ (H' : Heap) (locs' : List Loc) (A' : Array Slot), am_W b z D cA nc np (am_up M k j v) H' → va_S (am_A z) s.heap H' locs' → lv_has A' nL (am_lc b z ls) → W p l e R s m args below meth c H' locs' cells slots Q (F0 m (pc + 3) A' (am_sc b z r))) → W p l e R s m args below meth c H locs cells slots Q (F0 m pc A (am_sc b z (.inl v :: .inr (.inr (some k)) :: r)))) := by
          intro g1 g2 g3 g4 kk
          rw [e1]
          refine am_put hx hb hts hfI.2.2.1 (am_ty ci) hfT.1 hfT.2 hown hK hP hD hS k (am_wObj hk hsh) hc j hj (hts _ hlk) g1 g2 g3 hlf hd (fun H1 locs1 hP1 hS1 hz1 => ?_)
          rw [am_wUf hk hsh hks g4.symm] at hP1
          exact kk H1 locs1 A ⟨hP1, hn, fun q => by rw [hz1]; exact hsz q⟩ hS1 hl
        split at h
        · obtain ⟨rfl, rfl, rfl, rfl, rfl, rfl⟩ := am_goi h
          have hT : am_ty ci j = .int ∧ (T' j).2.2.2 = false := by
            rcases h3 j _ _ _ hks with h4 | h4 | h4 | h4
            · exact h4.2
            · exact absurd h4.1 (by decide)
            · exact absurd h4.1 (by decide)
            · exact absurd h4.1 (by decide)
          exact ⟨rfl, hg hT.2 (by rw [hT.1]; rfl) (by rw [hT.1]; rfl) rfl⟩
        · obtain ⟨hv, h⟩ := am_cni h
          obtain ⟨rfl, rfl, rfl, rfl, rfl, rfl⟩ := am_goi h
          have hT : am_ty ci j = .boolean ∧ (T' j).2.2.2 = false := by
            rcases h3 j _ _ _ hks with h4 | h4 | h4 | h4
            · exact absurd h4.1 (by decide)
            · exact h4.2
            · exact absurd h4.1 (by decide)
            · exact absurd h4.1 (by decide)
          exact ⟨rfl, hg hT.2 (by rw [hT.1]; exact (ai_bool hv).1) (by rw [hT.1]; exact (ai_bool hv).2) rfl⟩
        · cases h
      · rename_i co k r
        obtain ⟨ks, t, c', q', hk, hsh, hks, h⟩ := am_fldi h
        obtain ⟨C', T', N', hc', hlN, h3⟩ := am_fO hsh
        have hCC : (C', T', N') = (C, T, N) := Option.some.inj (hc'.symm.trans hc)
        simp only [Prod.mk.injEq] at hCC
        obtain ⟨rfl, rfl, rfl⟩ := hCC
        have hlf : j < (am_fs b z np ks (M k)).length := by simpa [am_fs, hlN] using hj
        have e1 : am_sc b z (.inr (.inr (some co)) :: .inr (.inr (some k)) :: r) = .ref (am_ad b z co) :: .ref (z + k) :: am_sc b z r := by
          show _ :: Value.ref (am_ad b z k) :: _ = _
          rw [am_adk hk hn]
          rfl
        split at h
        · obtain ⟨⟨e0, e2, hin, hci⟩, g⟩ := am_cni h
          clear h
          subst e0
          subst e2
          obtain ⟨rfl, rfl, rfl, rfl, rfl, rfl⟩ := am_goi g
          have hT : am_rt (am_ty ci j) = true ∧ (T' j).2.2.2 = true := by
            rcases h3 j _ _ _ hks with h4 | h4 | h4 | h4
            · exact absurd h4.1 (by decide)
            · exact absurd h4.1 (by decide)
            · exact ⟨h4.2.1, h4.2.2.1⟩
            · exact absurd h4.1 (by decide)
          refine ⟨rfl, fun kk => ?_⟩
          rw [e1]
          by_cases hdc : (T' j).1 = am_cn.getD cn ""
          · refine am_putF hx hb hts hfI.2.2.1 (am_ty ci) hfT.1 hfT.2 hown hK hP hD hS k (am_wObj hk hsh) hc j hj (hts _ hlk) hT.2 (hini hin) hdc (am_rtf hT.1 _).1 (am_rtf hT.1 _).2.1 hlf hd (fun H1 locs1 hP1 hS1 hz1 => ?_)
            rw [am_wUq (b := b) (z := z) (cA := cA) hn hk hsh hks rfl] at hP1
            exact kk H1 locs1 A ⟨hP1, hn, fun q => by rw [hz1]; exact hsz q⟩ hS1 hl
          · exact absurd (hfI.2.2.2.1 j hj) (fun e9 => hdc (by rw [e9, hfI.2.2.2.2, hci]))
        · obtain ⟨e0, g⟩ := am_cni h
          clear h
          subst e0
          obtain ⟨rfl, rfl, rfl, rfl, rfl, rfl⟩ := am_goi g
          have hT : am_rt (am_ty ci j) = true ∧ (T' j).2.2.2 = false := by
            rcases h3 j _ _ _ hks with h4 | h4 | h4 | h4
            · exact absurd h4.1 (by decide)
            · exact absurd h4.1 (by decide)
            · exact absurd h4.1 (by decide)
            · exact ⟨h4.2.1, h4.2.2.1⟩
          refine ⟨rfl, fun kk => ?_⟩
          rw [e1]
          refine am_put hx hb hts hfI.2.2.1 (am_ty ci) hfT.1 hfT.2 hown hK hP hD hS k (am_wObj hk hsh) hc j hj (hts _ hlk) hT.2 (am_rtf hT.1 _).1 (am_rtf hT.1 _).2.1 hlf hd (fun H1 locs1 hP1 hS1 hz1 => ?_)
          rw [am_wUf (b := b) (z := z) (cA := cA) (np := np) (M := M) (v := 1) (w := .ref (am_ad b z co)) hk hsh hks rfl] at hP1
          exact kk H1 locs1 A ⟨hP1, hn, fun q => by rw [hz1]; exact hsz q⟩ hS1 hl
        · cases h
      · cases h
    · cases h
  | iaload =>
    have hlen : len = 1 := by simpa [am_ln] using hln
    subst hlen
    simp only [am_x] at h
    split at h
    · rename_i x k r
      split at h
      · rename_i hk9
        obtain ⟨⟨h17, h0, hlt⟩, h⟩ := am_cni h
        obtain ⟨rfl, rfl, rfl, rfl, rfl, rfl⟩ := am_goi h
        obtain ⟨hXs, hbz, hL⟩ := hscr h17
        obtain ⟨hin, hcl⟩ := ai_cl h0 hlt hL
        refine ⟨rfl, fun kk => ?_⟩
        have e1 : am_sc b z (.inl x :: .inr (.inr (some k)) :: r) = .int (Int32.ofInt x) :: .ref b :: am_sc b z r := by
          show _ :: Value.ref (am_ad b z k) :: _ = _
          unfold am_ad
          rw [if_pos hk9]
          rfl
        rw [e1]
        refine va_sld hx hb hXs (by omega) (by show ¬ z ≤ b; omega) hS hin hd ?_
        rw [hcl]
        exact kk H locs A hw hS hl
      · obtain ⟨t, n, hk, hsh, h⟩ := am_arri h
        obtain ⟨⟨e0, h0, hlt⟩, g⟩ := am_cni h
        clear h
        subst e0
        obtain ⟨rfl, rfl, rfl, rfl, rfl, rfl⟩ := am_goi g
        obtain ⟨hin, hcl⟩ := am_cl0 h0 hlt (am_fA hsh).2
        refine ⟨rfl, fun kk => ?_⟩
        have e1 : am_sc b z (.inl x :: .inr (.inr (some k)) :: r) = .int (Int32.ofInt x) :: .ref (z + k) :: am_sc b z r := by
          show _ :: Value.ref (am_ad b z k) :: _ = _
          rw [am_adk hk hn]
          rfl
        rw [e1]
        refine va_iald hx hb hK hP k 0 (am_wArr hk hsh (by decide)) rfl hin hd ?_
        rw [hcl]
        exact kk H locs A hw hS hl
    · cases h
  | baload =>
    have hlen : len = 1 := by simpa [am_ln] using hln
    subst hlen
    simp only [am_x] at h
    split at h
    · rename_i x k r
      obtain ⟨t, n, hk, hsh, h⟩ := am_arri h
      obtain ⟨⟨ht, h0, hlt⟩, h⟩ := am_cni h
      obtain ⟨rfl, rfl, rfl, rfl, rfl, rfl⟩ := am_goi h
      obtain ⟨hin, hcl⟩ := am_cl0 h0 hlt (am_fA hsh).2
      refine ⟨rfl, fun kk => ?_⟩
      have e1 : am_sc b z (.inl x :: .inr (.inr (some k)) :: r) = .int (Int32.ofInt x) :: .ref (z + k) :: am_sc b z r := by
        show _ :: Value.ref (am_ad b z k) :: _ = _
        rw [am_adk hk hn]
        rfl
      rw [e1]
      rcases ht with rfl | rfl
      · refine va_bald hx hb hK hP k 1 (am_wArr hk hsh (by decide)) rfl hin hd ?_
        rw [hcl]
        exact kk H locs A hw hS hl
      · refine va_zald hx hb hK hP k 2 (am_wArr hk hsh (by decide)) rfl hin hd ?_
        rw [hcl]
        exact kk H locs A hw hS hl
    · cases h
  | laload =>
    have hlen : len = 1 := by simpa [am_ln] using hln
    subst hlen
    simp only [am_x] at h
    split at h
    · rename_i x k r
      obtain ⟨t, n, hk, hsh, h⟩ := am_arri h
      obtain ⟨⟨e0, h0, hlt⟩, g⟩ := am_cni h
      clear h
      subst e0
      obtain ⟨rfl, rfl, rfl, rfl, rfl, rfl⟩ := am_goi g
      obtain ⟨hin, hcl⟩ := am_cl0 h0 hlt (am_fA hsh).2
      refine ⟨rfl, fun kk => ?_⟩
      have e1 : am_sc b z (.inl x :: .inr (.inr (some k)) :: r) = .int (Int32.ofInt x) :: .ref (z + k) :: am_sc b z r := by
        show _ :: Value.ref (am_ad b z k) :: _ = _
        rw [am_adk hk hn]
        rfl
      rw [e1]
      refine va_lald hx hb hK hP k 3 (am_wArL hk hsh) rfl hin hd ?_
      rw [hcl]
      exact kk H locs A hw hS hl
    · cases h
  | iastore =>
    have hlen : len = 1 := by simpa [am_ln] using hln
    subst hlen
    simp only [am_x] at h
    split at h
    · rename_i v x k r
      obtain ⟨t, n, hk, hsh, h⟩ := am_arri h
      obtain ⟨⟨e0, h0, hlt⟩, g⟩ := am_cni h
      clear h
      subst e0
      obtain ⟨rfl, rfl, rfl, rfl, rfl, rfl⟩ := am_goi g
      obtain ⟨hin, hcl⟩ := am_cl0 h0 hlt (am_fA hsh).2
      refine ⟨rfl, fun kk => ?_⟩
      have e1 : am_sc b z (.inl v :: .inl x :: .inr (.inr (some k)) :: r) = .int (Int32.ofInt v) :: .int (Int32.ofInt x) :: .ref (z + k) :: am_sc b z r := by
        show _ :: _ :: Value.ref (am_ad b z k) :: _ = _
        rw [am_adk hk hn]
        rfl
      rw [e1]
      refine am_iast hx hb hK hP hD hS k 0 (am_wArr hk hsh (by decide)) rfl hin hd (fun H1 locs1 hP1 hS1 hz1 => ?_)
      rw [am_wUp (v := v) (j := x.toNat) hk hsh (by decide) (by rw [hcl])] at hP1
      exact kk H1 locs1 A ⟨hP1, hn, fun q => by rw [hz1]; exact hsz q⟩ hS1 hl
    · cases h
  | bastore =>
    have hlen : len = 1 := by simpa [am_ln] using hln
    subst hlen
    simp only [am_x] at h
    split at h
    · rename_i v x k r
      obtain ⟨t, n, hk, hsh, h⟩ := am_arri h
      obtain ⟨⟨h0, hlt⟩, h⟩ := am_cni h
      obtain ⟨hin, hcl⟩ := am_cl0 h0 hlt (am_fA hsh).2
      have e1 : am_sc b z (.inl v :: .inl x :: .inr (.inr (some k)) :: r) = .int (Int32.ofInt v) :: .int (Int32.ofInt x) :: .ref (z + k) :: am_sc b z r := by
        show _ :: _ :: Value.ref (am_ad b z k) :: _ = _
        rw [am_adk hk hn]
        rfl
      split at h
      · obtain ⟨hfull, h⟩ := am_cni h
        obtain ⟨rfl, rfl, rfl, rfl, rfl, rfl⟩ := am_goi h
        refine ⟨rfl, fun kk => ?_⟩
        rw [e1]
        refine va_bast hx hb hK hP hD hS k 1 (am_wArr hk hsh (by decide)) rfl hin hd (fun H1 locs1 hP1 hD1 hS1 => ?_)
        rw [am_wUp (v := (Int32.ofInt v).toInt8.toInt32.toInt) (j := x.toNat) hk hsh (by decide) (by rw [hcl, ai_nar])] at hP1
        exact kk H1 locs1 A ⟨hP1, hn, fun q => by omega⟩ hS1 hl
      · obtain ⟨hv, h⟩ := am_cni h
        obtain ⟨rfl, rfl, rfl, rfl, rfl, rfl⟩ := am_goi h
        refine ⟨rfl, fun kk => ?_⟩
        rw [e1]
        refine am_zast hx hb hK hP hD hS k 2 (am_wArr hk hsh (by decide)) rfl (ai_bool hv).1 hin hd (fun H1 locs1 hP1 hS1 hz1 => ?_)
        rw [am_wUp (v := v) (j := x.toNat) hk hsh (by decide) (by rw [hcl])] at hP1
        exact kk H1 locs1 A ⟨hP1, hn, fun q => by rw [hz1]; exact hsz q⟩ hS1 hl
      · cases h
    · cases h
  | lastore =>
    have hlen : len = 1 := by simpa [am_ln] using hln
    subst hlen
    simp only [am_x] at h
    split at h
    · rename_i v x k r
      obtain ⟨t, n, hk, hsh, h⟩ := am_arri h
      obtain ⟨⟨e0, hfull, h0, hlt⟩, g⟩ := am_cni h
      clear h
      subst e0
      obtain ⟨rfl, rfl, rfl, rfl, rfl, rfl⟩ := am_goi g
      obtain ⟨hin, hcl⟩ := am_cl0 h0 hlt (am_fA hsh).2
      refine ⟨rfl, fun kk => ?_⟩
      have e1 : am_sc b z (.inr (.inl v) :: .inl x :: .inr (.inr (some k)) :: r) = .long (Int64.ofInt v) :: .int (Int32.ofInt x) :: .ref (z + k) :: am_sc b z r := by
        show _ :: _ :: Value.ref (am_ad b z k) :: _ = _
        rw [am_adk hk hn]
        rfl
      rw [e1]
      refine va_last hx hb hK hP hD hS k 3 (am_wArL hk hsh) rfl hin hd (fun H1 locs1 hP1 hD1 hS1 => ?_)
      rw [hcl, am_wUl (v := v) (j := x.toNat) hk hsh] at hP1
      exact kk H1 locs1 A ⟨hP1, hn, fun q => by omega⟩ hS1 hl
    · cases h
  | arraylength =>
    have hlen : len = 1 := by simpa [am_ln] using hln
    subst hlen
    simp only [am_x] at h
    obtain ⟨k, r, e0, g⟩ := am_a1i h
    clear h
    subst e0
    split at g
    · rename_i hk9
      obtain ⟨h17, h⟩ := am_cni g
      obtain ⟨rfl, rfl, rfl, rfl, rfl, rfl⟩ := am_goi h
      obtain ⟨hXs, hbz, hL⟩ := hscr h17
      refine ⟨rfl, fun kk => ?_⟩
      have e1 : am_sc b z (.inr (.inr (some k)) :: r) = .ref b :: am_sc b z r := by
        show Value.ref (am_ad b z k) :: _ = _
        unfold am_ad
        rw [if_pos hk9]
        rfl
      rw [e1]
      refine va_slen hx hb hXs (by omega) (by show ¬ z ≤ b; omega) hS hd ?_
      have k2 := kk H locs A hw hS hl
      exact k2
    · obtain ⟨t, n, hk, hsh, h⟩ := am_arri g
      obtain ⟨rfl, rfl, rfl, rfl, rfl, rfl⟩ := am_goi h
      refine ⟨rfl, fun kk => ?_⟩
      have e1 : am_sc b z (.inr (.inr (some k)) :: r) = .ref (z + k) :: am_sc b z r := by
        show Value.ref (am_ad b z k) :: _ = _
        rw [am_adk hk hn]
        rfl
      rw [e1]
      obtain ⟨ty, hty⟩ := am_tyx (cA := cA) (am_fA hsh).1
      refine va_alen hx hb hK hP k t (x := am_av n t (M k)) (by rw [am_wsk hk, am_enA hsh]) hty (v := Int32.ofInt n) ?_ hd (kk H locs A hw hS hl)
      unfold am_av
      split <;> rfl
  | invokespecial x =>
    have hlen : len = 3 := by simpa [am_ln] using hln
    subst hlen
    simp only [am_x] at h
    split at h
    · rename_i q1 q2 hq
      obtain ⟨k, r, e0, g⟩ := am_a1i h
      clear h
      subst e0
      obtain ⟨hct, g⟩ := am_cni g
      obtain ⟨rfl, rfl, rfl, rfl, rfl, rfl⟩ := am_goi g
      refine ⟨rfl, fun kk => ?_⟩
      obtain ⟨w1, w2, w3⟩ := am_fM0 hq
      refine W.objInit hx hb hown (hts _ w1) (hts _ w2) (hts _ w3) rfl (by rw [hml]; exact hl.1) (a := am_ad b z k) (rest := am_sc b z r) rfl hd hR1 ?_ (kk H locs A hw hS hl)
      show 2 * (F0 m pc A (am_sc b z (.inr (.inr (some k)) :: r))).monitorRoom + ((am_sc b z r).map fun v => v.category).sum + 12 ≤ R.locals
      rw [am_cats]
      simp [F0, JFrame.monitorRoom]
      omega
    · cases h
  | invokestatic x =>
    have hlen : len = 3 := by simpa [am_ln] using hln
    subst hlen
    simp only [am_x] at h
    split at h
    · rename_i q1 q2 hq
      obtain ⟨w1, w2, w3, w4⟩ := am_fM1 hq
      split at h
      · rename_i n dp d sp s' r
        obtain ⟨t0, n0, hk0, hsh0, h⟩ := am_arri h
        obtain ⟨t1, n1, hk1, hsh1, h⟩ := am_arri h
        obtain ⟨⟨e0, e2, hn0, hdp, hsp, h4, h5, hfull, hct⟩, g⟩ := am_cni h
        clear h
        subst e0
        subst e2
        obtain ⟨rfl, rfl, rfl, rfl, rfl, rfl⟩ := am_goi g
        refine ⟨rfl, fun kk => ?_⟩
        have e1 : am_sc b z (.inl n :: .inl dp :: .inr (.inr (some d)) :: .inl sp :: .inr (.inr (some s')) :: r) = .int (Int32.ofInt n) :: .int (Int32.ofInt dp) :: .ref (z + d) :: .int (Int32.ofInt sp) :: .ref (z + s') :: am_sc b z r := by
          show _ :: _ :: Value.ref (am_ad b z d) :: _ :: Value.ref (am_ad b z s') :: _ = _
          rw [am_adk hk0 hn, am_adk hk1 hn]
          rfl
        rw [e1]
        have a0 := (am_fA hsh0).2
        have a1 := (am_fA hsh1).2
        have rr : ∀ x : Int, 0 ≤ x → x < 10000 → ¬ Int32.ofInt x < 0 ∧ (Int32.ofInt x).toNatClampNeg = x.toNat := by
          intro x g1 g2
          have hR : am_R x := ⟨by omega, by omega⟩
          refine ⟨fun q => ?_, ?_⟩
          · have := (ai_lt hR (y := 0) ⟨by decide, by decide⟩).mp q
            omega
          · show (Int32.ofInt x).toInt.toNat = _
            rw [ai_t hR]
        obtain ⟨c1, c2⟩ := rr n hn0 (by omega)
        obtain ⟨c3, c4⟩ := rr dp hdp (by omega)
        obtain ⟨c5, c6⟩ := rr sp hsp (by omega)
        refine va_copyi hx hb (by rw [hml]; exact hl.1.symm) hown (hts _ w1) (hts _ w2) (hts _ w3) (hts _ w4) hK hP hD hS s' d 0 0 (am_wArr hk0 hsh0 (by decide)) (am_wArr hk1 hsh1 (by decide)) rfl rfl rfl c5 c3 c1 (by rw [c6, c2]; omega) (by rw [c4, c2]; omega) (fun i _ => rfl) hR1 ?_ hd (fun H1 locs1 hP1 hD1 hS1 => ?_)
        · rw [am_cats]
          have : nativeFrameWords "java/lang/System" "arraycopy" 5 ≤ 60 := by decide +kernel
          omega
        · rw [c2, c4, c6, am_wCp (s := s') (n0 := n0) hk1 hsh1] at hP1
          exact kk H1 locs1 A ⟨hP1, hn, fun q => by omega⟩ hS1 hl
      · cases h
    · cases h
  | new x => cases hni
  | newarray a => cases hni
  | _ => cases h
end AMY
