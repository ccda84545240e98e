theorem am_mem313 : me_313 ∈ am_me := List.mem_of_getElem? (i := 313) rfl
def am_wd (me : am_ME) (w : Nat × Nat × Nat) : Bool := match me with
  | (cn, y, code, nL, ret, na, stt, _) => decide (y.cls = am_cn.getD cn "") && decide (cn < 17) && plainFor y && decide (y.cls ≠ "java/lang/invoke/MethodHandle" ∧ y.cls ≠ "java/lang/invoke/VarHandle") && decide ((parseMethodDescriptor y.desc).map (fun d => d.parameters.length) = some (na - stt)) && decide (nL ≤ 20) && decide (stt ≤ na) && (match stt with
    | 0 => decide (lw_tbl[w.2.1]? = some (.static y)) && goodWord (.static y)
    | 1 => decide (lw_tbl[w.2.1]? = some (.instanceMethod y)) && goodWord (.instanceMethod y) && (y.name == "<init>" || (decide (lw_tbl[w.2.2]? = some (.selects y.cls y y)) && goodWord (.selects y.cls y y)))
    | _ => false) && decide (lw_tbl[am_in.getD cn 0]? = some (.initialized y.cls)) && goodWord (.initialized y.cls) && (match ret with
    | none => true
    | some .int => !(y.name == "<init>")
    | some .boolean => !(y.name == "<init>")
    | some .long => !(y.name == "<init>")
    | _ => false)
def am_wds (a n : Nat) : Bool := (List.range n).all fun k => match am_me[a + k]?, am_mw[a + k]? with
  | some me, some w => am_wd me w
  | _, _ => false
set_option maxRecDepth 1000000 in
theorem am_w0 : am_wds 0 20 = true := by decide +kernel
set_option maxRecDepth 1000000 in
theorem am_w1 : am_wds 20 20 = true := by decide +kernel
set_option maxRecDepth 1000000 in
theorem am_w2 : am_wds 40 20 = true := by decide +kernel
set_option maxRecDepth 1000000 in
theorem am_w3 : am_wds 60 20 = true := by decide +kernel
set_option maxRecDepth 1000000 in
theorem am_w4 : am_wds 80 20 = true := by decide +kernel
set_option maxRecDepth 1000000 in
theorem am_w5 : am_wds 100 20 = true := by decide +kernel
set_option maxRecDepth 1000000 in
theorem am_w6 : am_wds 120 20 = true := by decide +kernel
set_option maxRecDepth 1000000 in
theorem am_w7 : am_wds 140 20 = true := by decide +kernel
set_option maxRecDepth 1000000 in
theorem am_w8 : am_wds 160 20 = true := by decide +kernel
set_option maxRecDepth 1000000 in
theorem am_w9 : am_wds 180 20 = true := by decide +kernel
set_option maxRecDepth 1000000 in
theorem am_w10 : am_wds 200 20 = true := by decide +kernel
set_option maxRecDepth 1000000 in
theorem am_w11 : am_wds 220 20 = true := by decide +kernel
set_option maxRecDepth 1000000 in
theorem am_w12 : am_wds 240 20 = true := by decide +kernel
set_option maxRecDepth 1000000 in
theorem am_w13 : am_wds 260 20 = true := by decide +kernel
set_option maxRecDepth 1000000 in
theorem am_w14 : am_wds 280 20 = true := by decide +kernel
set_option maxRecDepth 1000000 in
theorem am_w15 : am_wds 300 13 = true := by decide +kernel
theorem am_wdi {a n i : Nat} (h : am_wds a n = true) (h1 : a ≤ i) (h2 : i < a + n) {me : am_ME} (hm : am_me[i]? = some me) : ∃ w, am_wd me w = true := by
  have h3 := List.all_eq_true.mp h (i - a) (List.mem_range.mpr (by omega))
  rw [show a + (i - a) = i by omega, hm] at h3
  split at h3
  · rename_i h4 _
    cases h4
    exact ⟨_, h3⟩
  · cases h3
theorem am_wall {i : Nat} (h : i < 313) {me : am_ME} (hm : am_me[i]? = some me) : ∃ w, am_wd me w = true := by
  by_cases h0 : i < 20
  · exact am_wdi am_w0 (by omega) (by omega) hm
  by_cases h1 : i < 40
  · exact am_wdi am_w1 (by omega) (by omega) hm
  by_cases h2 : i < 60
  · exact am_wdi am_w2 (by omega) (by omega) hm
  by_cases h3 : i < 80
  · exact am_wdi am_w3 (by omega) (by omega) hm
  by_cases h4 : i < 100
  · exact am_wdi am_w4 (by omega) (by omega) hm
  by_cases h5 : i < 120
  · exact am_wdi am_w5 (by omega) (by omega) hm
  by_cases h6 : i < 140
  · exact am_wdi am_w6 (by omega) (by omega) hm
  by_cases h7 : i < 160
  · exact am_wdi am_w7 (by omega) (by omega) hm
  by_cases h8 : i < 180
  · exact am_wdi am_w8 (by omega) (by omega) hm
  by_cases h9 : i < 200
  · exact am_wdi am_w9 (by omega) (by omega) hm
  by_cases h10 : i < 220
  · exact am_wdi am_w10 (by omega) (by omega) hm
  by_cases h11 : i < 240
  · exact am_wdi am_w11 (by omega) (by omega) hm
  by_cases h12 : i < 260
  · exact am_wdi am_w12 (by omega) (by omega) hm
  by_cases h13 : i < 280
  · exact am_wdi am_w13 (by omega) (by omega) hm
  by_cases h14 : i < 300
  · exact am_wdi am_w14 (by omega) (by omega) hm
  by_cases h15 : i < 313
  · exact am_wdi am_w15 (by omega) (by omega) hm
  omega
set_option maxRecDepth 1000000 in
theorem am_kM : ((List.range 19).all fun cn => (am_ML.getD cn []).all fun e => Nat.ble 10000 e.2.1 || (Nat.blt e.2.1 313 && (match am_me[e.2.1]? with
  | some (_, y, _) => (match e.2.2.1 with
    | 0 => decide (lw_tbl[e.2.2.2]? = some (.methodLink (am_cn.getD cn "") e.1 y)) && goodWord (.methodLink (am_cn.getD cn "") e.1 y)
    | 1 => decide (lw_tbl[e.2.2.2]? = some (.methodLinkNest (am_cn.getD cn "") e.1 y "BlazedPath"))
    | _ => false)
  | none => false))) = true := by decide +kernel
