section AMM
variable {p : Program} {l : Launch} {e : Env} {R : Room} {s : State} {m : MethodId} {args : Array Value} {below : List Frame} {meth : Method} {c : Code} {H : Heap} {locs : List Loc} {cells slots : Nat} {Q : State → Prop}
variable {cc : ByteArray} {cn nL b z : Nat} {D : va_G} {cA : Nat → ClassId} {L : Nat} {xs : Nat → Int}
/-- a call -/
theorem am_callw {pc d kd t x ne q : Nat} {A : Array Slot} {cn' : Nat} {y : MethodName} {code : ByteArray} {nL' : Nat} {ret : Option FieldType} {na stt : Nat} {wr : Bool} {ins : List (Nat × Instr × Nat)} {lv : List (Nat × List Nat)} {st as rest : List am_V} {nc np : Nat} {M : am_M} {out : am_O} {i : Instr}
    (hX : am_X p s m args c cc cn nL b z D cA L xs) (hd : decode cc pc = .ok (i, 3)) (hi : (kd = 1 ∧ i = .invokevirtual x) ∨ (kd = 0 ∧ i = .invokestatic x) ∨ (kd = 2 ∧ i = .invokespecial x))
    (hm : (am_ML.getD cn []).lookup x = some (t, ne, q)) (hme : am_me[t]? = some (cn', y, code, nL', ret, na, stt, wr, ins, lv)) (hcl : am_cl (cn', y, code, nL', ret, na, stt, wr, ins, lv) kd st nc = some (as, rest))
    (hB : am_B L xs b z D cA d (cn', y, code, nL', ret, na, stt, wr, ins, lv) 0 (am_ar1 0 as) [] nc np M out)
    (hw : am_W b z D cA nc np M H) (hS : va_S (am_A z) s.heap H locs) (hA : A.size = nL) (hR1 : d + 1 + 1 ≤ R.frames) (hR2 : 40 * (d + 1) + 100 ≤ R.locals) (hc1 : cells + (out.2.1 - nc) ≤ R.cells) (hc2 : slots + (am_sl out.2.1 - am_sl nc) ≤ R.slots)
    (kk : ∀ (H1 : Heap) (locs1 : List Loc), am_W b z D cA out.2.1 out.2.2.1 out.2.2.2 H1 → va_S (am_A z) s.heap H1 locs1 → W p l e R s m args below meth c H1 locs1 (cells + (out.2.1 - nc)) (slots + (am_sl out.2.1 - am_sl nc)) Q (F0 m (pc + 3) A (am_sc b z (out.1.toList ++ rest)))) : W p l e R s m args below meth c H locs cells slots Q (F0 m pc A (am_sc b z st)) := by
  obtain ⟨hx, hb, hml, hown, hts, hK, hNW, hz, hscr⟩ := hX
  obtain ⟨ht, hlk⟩ := am_fM hm hme (am_mel hme)
  have hwd := am_wall ht hme
  have hcw := am_cwall _ (List.mem_of_getElem? hme)
  obtain ⟨w1, w2, w3, w4, w5, w6, w7, w8, w9, w10, w11⟩ := am_wdf hcw hwd
  obtain ⟨hst, hlen, hct8, hctL, hkind⟩ := am_cli hcl
  have hMet := am_met hB hcw hwd hctL l
  have hGI : GoodIn am_tb (Cond.code y code nL' ret :: am_tb) := am_GI w8
  have hRr : (am_rm d (out.2.1 - nc) (am_sl out.2.1 - am_sl nc)).frames + 1 ≤ R.frames ∧ 8 + (nL' + 11) + (am_rm d (out.2.1 - nc) (am_sl out.2.1 - am_sl nc)).locals ≤ R.locals := by
    refine ⟨hR1, ?_⟩
    show 8 + (nL' + 11) + (40 * d + 100) ≤ R.locals
    omega
  have hd3 : y.cls ≠ "java/lang/invoke/MethodHandle" ∧ y.cls ≠ "java/lang/invoke/VarHandle" ∧ (parseMethodDescriptor y.desc).map (fun d => d.parameters.length) = some (na - stt) := ⟨w4.1, w4.2, w5⟩
  have hpre : ∀ U : State, U.heap = H → s.WarmedH U.vm → am_Pc b z D cA nc np M as (am_sc b z as).toArray U := fun U hU hW => ⟨rfl, by rw [hU]; exact hw, va_K.moved hW.alike hK, am_NWm hW hNW, by rw [hU]; exact Nat.le_trans hz hS.1⟩
  have hroom : ∀ st0 : List Value, 2 * (F0 m pc A st0).monitorRoom + ((am_sc b z rest).map fun v => v.category).sum ≤ 8 := by
    intro st0
    rw [am_cats]
    simp [F0, JFrame.monitorRoom]
    exact hct8
  have hstack : am_sc b z st = (am_sc b z as).reverse ++ am_sc b z rest := by
    rw [hst]
    unfold am_sc
    rw [List.map_append, List.map_reverse]
  have hCF : CallFix p m c cc nL s args am_tb (am_cn.getD cn "") := ⟨hx, hb, hml, hown, hts⟩
  refine am_callk (mc := out.2.1 - nc) (ms := am_sl out.2.1 - am_sl nc) (a := (am_sc b z as).toArray) (rest := rest) (out := out) ?_ hS kk
  have hne : (ne = 0 ∧ CallB R s args (am_cn.getD cn "") x y code nL' ret (Cond.code y code nL' ret :: am_tb) (am_rm d (out.2.1 - nc) (am_sl out.2.1 - am_sl nc)) (out.2.1 - nc) (am_sl out.2.1 - am_sl nc) (na - stt)) ∨ va_CN R s args (am_cn.getD cn "") x y "BlazedPath" code nL' ret (Cond.code y code nL' ret :: am_tb) (am_rm d (out.2.1 - nc) (am_sl out.2.1 - am_sl nc)) (out.2.1 - nc) (am_sl out.2.1 - am_sl nc) (na - stt) := by
    rcases hlk with ⟨h1, h2⟩ | h1
    · exact Or.inl ⟨h1, callB_of (na - stt) hts hGI rfl rfl rfl (hts _ w10) (hts _ h2) hd3 hRr⟩
    · subst h1
      exact Or.inr (va_cnB (na - stt) hts hGI rfl rfl rfl (hNW cn x t q _ hm hme) (hts _ w10) hd3 hRr)
  rcases hi with ⟨rfl, rfl⟩ | ⟨rfl, rfl⟩ | ⟨rfl, rfl⟩
  · rcases hkind with ⟨h0, -⟩ | ⟨-, hs1, hini, k, as', ks, rfl, hk, hsh⟩
    · exact absurd h0 (by decide)
    · obtain ⟨-, hinst, hsel⟩ : stt = 1 ∧ Cond.instanceMethod y ∈ am_tb ∧ (y.name = "<init>" ∨ Cond.selects y.cls y y ∈ am_tb) := by
        rcases w9 with ⟨h, -⟩ | h
        · omega
        · exact h
      have hsel2 : Cond.selects y.cls y y ∈ am_tb := by
        rcases hsel with h | h
        · rw [h] at hini
          exact absurd hini (by decide)
        · exact h
      obtain ⟨C, T, N, hcc, -, -⟩ := am_fO hsh
      have hC : C = y.cls := by rw [(am_fI hcc).2.2.2.2, w1]
      have hrecv := va_recv hK hw.1 hcc (am_wObj hk hsh)
      dsimp only at hrecv
      rw [hC] at hrecv
      have e1 : am_sc b z (.inr (.inr (some k)) :: as') = .ref (z + k) :: am_sc b z as' := by
        show Value.ref (am_ad b z k) :: _ = _
        rw [am_adk hk hw.2.1]
        rfl
      have hstk : (F0 m pc A (am_sc b z st)).stack = (am_sc b z as').reverse ++ .ref (z + k) :: am_sc b z rest := by
        show am_sc b z st = _
        rw [hstack, e1]
        simp
      have hnl : (am_sc b z as').length = na - stt := by
        have : (am_sc b z as').length = as'.length := by simp [am_sc]
        simp only [List.length_cons] at hlen
        omega
      rw [e1] at hpre ⊢
      rcases hne with ⟨-, hcb⟩ | hcn
      · exact va_runV hCF hMet ⟨hcb, hts _ hinst, hts _ hsel2⟩ ⟨am_Pb, hrecv, hpre⟩ rfl hnl hA hstk (hroom _) hd ⟨hc1, hc2⟩
      · exact va_runVN hCF hMet ⟨hcn, hts _ hinst, hts _ hsel2⟩ ⟨am_Pb, hrecv, hpre⟩ rfl hnl hA hstk (hroom _) hd ⟨hc1, hc2⟩
  · rcases hkind with ⟨-, hs0⟩ | ⟨h0, -⟩
    · have hstat : Cond.static y ∈ am_tb := by
        rcases w9 with ⟨-, h⟩ | ⟨h, -⟩
        · exact h
        · omega
      have hnl : (am_sc b z as).length = na - stt := by
        have : (am_sc b z as).length = as.length := by simp [am_sc]
        omega
      rcases hne with ⟨-, hcb⟩ | hcn
      · exact va_runS hCF hMet ⟨hcb, hts _ hstat⟩ ⟨am_Pb, hpre⟩ rfl hnl hA hstack (hroom _) hd ⟨hc1, hc2⟩
      · exact va_runSN hCF hMet ⟨hcn, hts _ hstat, trivial⟩ ⟨am_Pb, hpre⟩ rfl hnl hA hstack (hroom _) hd ⟨hc1, hc2⟩
    · exact absurd rfl h0
  · rcases hkind with ⟨h0, -⟩ | ⟨-, hs1, hini, k, as', ks, rfl, hk, hsh⟩
    · exact absurd h0 (by decide)
    · obtain ⟨-, hinst, -⟩ : stt = 1 ∧ Cond.instanceMethod y ∈ am_tb ∧ (y.name = "<init>" ∨ Cond.selects y.cls y y ∈ am_tb) := by
        rcases w9 with ⟨h, -⟩ | h
        · omega
        · exact h
      have hyn : y.name = "<init>" := by
        have h9 : (y.name == "<init>") = true := hini.symm
        simpa using h9
      have e1 : am_sc b z (.inr (.inr (some k)) :: as') = .ref (z + k) :: am_sc b z as' := by
        show Value.ref (am_ad b z k) :: _ = _
        rw [am_adk hk hw.2.1]
        rfl
      have hstk : (F0 m pc A (am_sc b z st)).stack = (am_sc b z as').reverse ++ .ref (z + k) :: am_sc b z rest := by
        show am_sc b z st = _
        rw [hstack, e1]
        simp
      have hnl : (am_sc b z as').length = na - stt := by
        have : (am_sc b z as').length = as'.length := by simp [am_sc]
        simp only [List.length_cons] at hlen
        omega
      have hret := w11 hyn
      subst hret
      rw [e1] at hpre ⊢
      rcases hne with ⟨-, hcb⟩ | hcn
      · exact va_runI hCF hMet ⟨hcb, hyn, hts _ hinst⟩ ⟨am_Pb, hpre⟩ rfl hnl hA hstk (hroom _) hd ⟨hc1, hc2⟩
      · exact va_runIN hCF hMet ⟨hcn, hyn, hts _ hinst⟩ ⟨am_Pb, hpre⟩ rfl hnl hA hstk (hroom _) hd ⟨hc1, hc2⟩
end AMM
/-- every run of the machine of numbers is one of the machine -/
theorem am_body {L : Nat} {xs : Nat → Int} {b z : Nat} {D : va_G} {cA : Nat → ClassId} : ∀ (n d : Nat) (me : am_ME) (pc : Nat) (ls : am_L) (st : List am_V) (nc np : Nat) (M : am_M) (out : am_O), am_dec me = true → am_run L xs n d me pc ls st nc np M = some out → am_B L xs b z D cA d me pc ls st nc np M out
  | 0, _, _, _, _, _, _, _, _, _, _, h => by cases h
  | n + 1, d, me, pc, ls, st, nc, np, M, out, hdec, h => by
    have ih := am_body (L := L) (xs := xs) (b := b) (z := z) (D := D) (cA := cA) n
    obtain ⟨cn, y, code, nL, ret, na, stt, wr, ins, lv⟩ := me
    unfold am_run at h
    split at h
    · cases h
    · rename_i pc' ls' st' nc' np' M' hst
      obtain ⟨i, len, ls0, hl, els, hx, hle0⟩ := am_sti1 hst
      subst els
      obtain ⟨hd, hln⟩ := am_decl hdec hl
      obtain ⟨hle, hB⟩ := ih d _ _ _ _ _ _ _ _ hdec h
      refine ⟨Nat.le_trans hle0 hle, fun p l e R s m args below meth c H locs Q A nc0 hX hini hw hS hlv hR1 hR2 hn0 hc1 hc2 hend => ?_⟩
      cases hni : am_isn i with
      | false =>
        obtain ⟨hnc, key⟩ := am_xs (p := p) (l := l) (e := e) (R := R) (below := below) (meth := meth) (cells := nc - nc0) (slots := am_sl nc - am_sl nc0) (Q := Q) hX hini hd hln hni hx hw hS hlv (by omega) (by omega)
        subst hnc
        exact key (fun H' locs' A' hw' hS' hl' => hB p l e R s m args below meth c H' locs' Q A' nc0 hX hini hw' hS' (am_rsk hl') hR1 hR2 hn0 hc1 hc2 hend)
      | true =>
        obtain ⟨hnc, -, key⟩ := am_xn (p := p) (l := l) (e := e) (R := R) (below := below) (meth := meth) (cells := nc - nc0) (slots := am_sl nc - am_sl nc0) (Q := Q) hX hd hln hni hx hw hS hlv
        subst hnc
        have m1 : am_sl nc ≤ am_sl (nc + 1) := am_slm (Nat.le_succ nc)
        have m2 := am_slm hle
        have m3 := am_slm hn0
        refine key (by omega) (by omega) (fun H' locs' A' hw' hS' hl' => ?_)
        have k2 := hB p l e R s m args below meth c H' locs' Q A' nc0 hX hini hw' hS' (am_rsk hl') hR1 hR2 (by omega) hc1 hc2 hend
        have e1 : nc + 1 - nc0 = nc - nc0 + 1 := by omega
        have e2 : am_sl (nc + 1) - am_sl nc0 = am_sl nc - am_sl nc0 + (am_sl (nc + 1) - am_sl nc) := by omega
        rw [e1, e2] at k2
        exact k2
    · rename_i v hst
      obtain ⟨i, len, hl, hx⟩ := am_sti2 hst
      obtain ⟨hd, hln⟩ := am_decl hdec hl
      cases h
      refine ⟨Nat.le_refl _, fun p l e R s m args below meth c H locs Q A nc0 hX hini hw hS hlv hR1 hR2 hn0 hc1 hc2 hend => ?_⟩
      rcases hx with ⟨rfl, x, rfl, rfl, hr⟩ | ⟨rfl, x, rfl, rfl, hr⟩ | ⟨rfl, rfl, rfl, hr⟩
      · have hlen : len = 1 := by simpa [am_ln] using hln
        subst hlen
        exact hend H locs A pc hw hS hd hr
      · have hlen : len = 1 := by simpa [am_ln] using hln
        subst hlen
        exact hend H locs A pc hw hS hd hr
      · have hlen : len = 1 := by simpa [am_ln] using hln
        subst hlen
        exact hend H locs A pc hw hS hd hr
    · rename_i t kd hst
      obtain ⟨i, len, x, ne, q, hl, hm, hi⟩ := am_sti3 hst
      obtain ⟨hd, hln⟩ := am_decl hdec hl
      have hlen : len = 3 := by
        rcases hi with ⟨-, rfl⟩ | ⟨-, rfl⟩ | ⟨-, rfl⟩ <;> simpa [am_ln] using hln
      subst hlen
      split at h
      · cases h
      · rename_i d'
        split at h
        · cases h
        · rename_i me' hme
          split at h
          · cases h
          · rename_i as rest hcl
            split at h
            · cases h
            · rename_i v nc1 np1 M1 hrun
              obtain ⟨cn', y', code', nL', ret', na', stt', wr', ins', lv'⟩ := me'
              have hB1 := ih d' _ _ _ _ _ _ _ _ (am_dall _ (List.mem_of_getElem? hme)) hrun
              obtain ⟨hle, hB⟩ := ih (d' + 1) _ _ _ _ _ _ _ _ hdec h
              have hle1 : nc ≤ nc1 := hB1.1
              refine ⟨Nat.le_trans hle1 hle, fun p l e R s m args below meth c H locs Q A nc0 hX hini hw hS hlv hR1 hR2 hn0 hc1 hc2 hend => ?_⟩
              have m1 := am_slm hle1
              have m2 := am_slm hle
              have m3 := am_slm hn0
              refine am_callw (out := (v, nc1, np1, M1)) hX hd hi hm hme hcl hB1 hw hS hlv.1 hR1 hR2 ?_ ?_ (fun H1 locs1 hw1 hS1 => ?_)
              · show nc - nc0 + (nc1 - nc) ≤ R.cells
                omega
              · show am_sl nc - am_sl nc0 + (am_sl nc1 - am_sl nc) ≤ R.slots
                omega
              · have k2 := hB p l e R s m args below meth c H1 locs1 Q A nc0 hX hini hw1 hS1 (am_rsk hlv) hR1 hR2 (by omega) hc1 hc2 hend
                have e1 : nc1 - nc0 = nc - nc0 + (nc1 - nc) := by omega
                have e2 : am_sl nc1 - am_sl nc0 = am_sl nc - am_sl nc0 + (am_sl nc1 - am_sl nc) := by omega
                rw [e1, e2] at k2
                exact k2
