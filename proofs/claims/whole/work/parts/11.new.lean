section AMZ
variable {p : Program} {l : Launch} {e : Env} {R : Room} {s : State} {m : MethodId} {args : Array Value} {below : List Frame} {meth : Method} {c : Code} {H : Heap} {locs : List Loc} {cells slots : Nat} {Q : State → Prop}
variable {cc : ByteArray} {cn nL b z : Nat} {D : va_G} {cA : Nat → ClassId} {L : Nat} {xs : Nat → Int}
theorem am_arw {t : Nat} {a : ArrayType} (ht : t < 4) (h : t = am_atp a) (hts : ∀ w ∈ am_tb, w.before args s = true) (hK : va_K D am_cls (am_tys cA) s) : (Cond.arrayClass (newarray.typeOf a)).before args s = true ∧ s.vm.findClass ("[" ++ (newarray.typeOf a).toString) = some (cA t) ∧ componentBytes (newarray.typeOf a) ≤ 8 ∧ ∀ n : Nat, vp_cell (cA t) (am_av n t (fun _ => 0)) = arrV (cA t) n (fun _ => defaultValue (newarray.typeOf a)) := by
  obtain ⟨k1, k2, k3, k4⟩ := am_kA
  cases a with
  | int =>
    have h0 : t = 0 := h
    subst h0
    exact ⟨hts _ (am_tbm k1 rfl), (hK.2 0 _ rfl).2, by decide, fun n => rfl⟩
  | byte =>
    have h0 : t = 1 := h
    subst h0
    exact ⟨hts _ (am_tbm k2 rfl), (hK.2 1 _ rfl).2, by decide, fun n => rfl⟩
  | boolean =>
    have h0 : t = 2 := h
    subst h0
    exact ⟨hts _ (am_tbm k3 rfl), (hK.2 2 _ rfl).2, by decide, fun n => rfl⟩
  | long =>
    have h0 : t = 3 := h
    subst h0
    exact ⟨hts _ (am_tbm k4 rfl), (hK.2 3 _ rfl).2, by decide, fun n => rfl⟩
  | _ => exact absurd (h ▸ ht) (by decide)
/-- the steps that make a cell -/
theorem am_xn {pc pc' nc nc' np np' len : Nat} {ls ls' : am_L} {st st' : List am_V} {M M' : am_M} {i : Instr} {ini wr : Bool} {A : Array Slot}
    (hX : am_X p s m args c cc cn nL b z D cA L xs) (hd : decode cc pc = .ok (i, len)) (hln : am_ln i len = true) (hni : am_isn i = true)
    (h : am_x L xs cn ini wr nL pc ls st nc np M i len = some (.inl (pc', ls', st', nc', np', M')))
    (hw : am_W b z D cA nc np M H) (hS : va_S (am_A z) s.heap H locs) (hl : lv_has A nL (am_lc b z ls)) : nc' = nc + 1 ∧ nc < 126 ∧ (cells + 1 ≤ R.cells → slots + (am_sl (nc + 1) - am_sl nc) ≤ R.slots → (∀ (H' : Heap) (locs' : List Loc) (A' : Array Slot), am_W b z D cA (nc + 1) np' M' H' → va_S (am_A z) s.heap H' locs' → lv_has A' nL (am_lc b z ls') → W p l e R s m args below meth c H' locs' (cells + 1) (slots + (am_sl (nc + 1) - am_sl nc)) Q (F0 m pc' A' (am_sc b z st'))) → W p l e R s m args below meth c H locs cells slots Q (F0 m pc A (am_sc b z st))) := by
  obtain ⟨hx, hb, hml, hown, hts, hK, hNW, hz, hscr⟩ := hX
  have hD := am_wsD b z cA nc np M
  obtain ⟨hP, hn, hsz⟩ := id hw
  have hAq : ∀ q, s.heap.size ≤ q → am_A z q := fun q h => Nat.le_trans hz h
  have hpz : ∀ i, i < nc → am_en b z cA np (am_zr M nc) i = am_en b z cA np M i := fun i hi => am_enc (am_zro (by omega))
  cases i with
  | new x =>
    have hlen : len = 3 := by simpa [am_ln] using hln
    subst hlen
    simp only [am_x] at h
    split at h
    · rename_i ci q hq
      obtain ⟨C, T, N, hc, hlk⟩ := am_fC hq
      split at h
      · rename_i c0 ks hsh
        obtain ⟨⟨e0, hall⟩, g⟩ := am_cni h
        clear h
        subst e0
        obtain ⟨rfl, rfl, rfl, rfl, rfl, rfl⟩ := am_goi g
        have h126 := am_k126 hsh
        refine ⟨rfl, h126, fun hcl hsl kk => ?_⟩
        obtain ⟨C', T', N', hc', hlN, h3⟩ := am_fO hsh
        have hCC : (C', T', N') = (C, T, N) := Option.some.inj (hc'.symm.trans hc)
        simp only [Prod.mk.injEq] at hCC
        obtain ⟨rfl, rfl, rfl⟩ := hCC
        have hfI := am_fI hc
        have hfT := am_fT hc
        have esl : am_sl (nc + 1) - am_sl nc = N' := by
          rw [am_sls hsh]
          show am_sl nc + ks.length - am_sl nc = N'
          omega
        rw [esl] at hsl kk
        have e2 : H.size = z + nc := hsz h126
        refine am_new hx hb hts hfI.2.2.1 (am_ty c0) hfT.1 hown (hts _ hlk) (hts _ hfI.1) (hts _ hfI.2.1) hK hP hS hc (fs := am_fs b z np ks (fun _ => 0)) (fun j hj => ?_) hcl hsl hd (fun H1 hP1 hS1 hz1 => ?_)
        · have hj2 : j < ks.length := by omega
          obtain ⟨f, q0⟩ : ∃ f, ks[j]? = some f := ⟨_, List.getElem?_eq_getElem hj2⟩
          unfold vp_V
          rw [List.getD_eq_getElem?_getD, am_fsg q0]
          obtain ⟨t, r, q1⟩ := f
          have hm := List.all_eq_true.mp hall _ (List.mem_of_getElem? q0)
          rcases h3 j _ _ _ q0 with h4 | h4 | h4 | h4
          · rw [h4.2.1, h4.1]
            rfl
          · rw [h4.2.1, h4.1]
            rfl
          · rw [(am_rtf h4.2.1 0).2.2]
            obtain ⟨rfl, -⟩ := h4
            have hle : np ≤ q1 := by simpa using hm
            show _ = (if q1 < np then Value.ref (am_ad b z r) else Value.null)
            rw [if_neg (by omega)]
          · rw [(am_rtf h4.2.1 0).2.2]
            obtain ⟨rfl, -⟩ := h4
            rfl
        · have k2 := kk H1 locs A ⟨?_, by omega, fun _ => by omega⟩ hS1 hl
          · have e3 : am_sc b z (.inr (.inr (some nc)) :: st) = .ref H.size :: am_sc b z st := by
              show Value.ref (am_ad b z nc) :: _ = _
              unfold am_ad
              rw [if_neg (by omega), e2]
              rfl
            rw [e3] at k2
            exact k2
          · rw [am_wsp, am_wsc hpz, am_enO hsh]
            have e4 : am_zr M nc nc = fun _ => 0 := by
              funext x
              simp [am_zr]
            rw [e4, ← e2]
            exact hP1
      · cases h
    · cases h
  | newarray a =>
    have hlen : len = 2 := by simpa [am_ln] using hln
    subst hlen
    simp only [am_x] at h
    obtain ⟨x, r, e0, g⟩ := am_p1i h
    clear h
    subst e0
    split at g
    · rename_i t n hsh
      obtain ⟨⟨e0, e2⟩, g⟩ := am_cni g
      obtain ⟨rfl, rfl, rfl, rfl, rfl, rfl⟩ := am_goi g
      have h126 := am_k126 hsh
      have hfA := am_fA hsh
      refine ⟨rfl, h126, fun hcl hsl kk => ?_⟩
      obtain ⟨a1, a2, a3, a4⟩ := am_arw (cA := cA) hfA.1 e0 hts hK
      have esl : am_sl (nc + 1) - am_sl nc = n := by
        rw [am_sls hsh]
        show am_sl nc + n - am_sl nc = n
        omega
      rw [esl] at hsl kk
      have e5 : H.size = z + nc := hsz h126
      subst e2
      have hR : am_R (n : Int) := ⟨by omega, by omega⟩
      have hb8 : n * componentBytes (newarray.typeOf a) ≤ 536870912 := Nat.le_trans (Nat.mul_le_mul (Nat.le_of_lt hfA.2) a3) (by decide)
      refine am_newa hx hb a1 hK hP hD hS hAq a2 (a4 n) (fun q => ?_) ?_ hb8 hcl hsl hd (fun H1 hP1 hS1 hz1 => ?_)
      · have := (ai_lt hR (y := 0) ⟨by decide, by decide⟩).mp q
        omega
      · show (Int32.ofInt (n : Int)).toInt.toNat = n
        rw [ai_t hR]
        rfl
      · have k2 := kk H1 locs A ⟨?_, by omega, fun _ => by omega⟩ hS1 hl
        · have e3 : am_sc b z (.inr (.inr (some nc)) :: r) = .ref H.size :: am_sc b z r := by
            show Value.ref (am_ad b z nc) :: _ = _
            unfold am_ad
            rw [if_neg (by omega), e5]
            rfl
          rw [e3] at k2
          exact k2
        · rw [am_wsp, am_wsc hpz, am_enA hsh]
          have e4 : am_zr M nc nc = fun _ => 0 := by
            funext x
            simp [am_zr]
          rw [e4, ← e5]
          exact hP1
    · cases g
  | _ => cases hni
end AMZ
