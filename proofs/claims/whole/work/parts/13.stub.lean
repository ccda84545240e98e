def am_wd (me : am_ME) (w : Nat × Nat × Nat) : Bool := match me with
  | (cn, y, code, nL, ret, na, stt, _, _) => decide (y.cls = am_cn.getD cn "") && decide (cn < 17) && plainName y.cls && decide (y.cls ≠ "java/lang/invoke/MethodHandle" ∧ y.cls ≠ "java/lang/invoke/VarHandle") && decide ((parseMethodDescriptor y.desc).map (fun d => d.parameters.length) = some (na - stt)) && decide (nL ≤ 20) && decide (stt ≤ na) && decide (lw_tbl[w.1]? = some (.code y code nL ret)) && goodWord (.code y code nL ret) && (match stt with
    | 0 => decide (lw_tbl[w.2.1]? = some (.static y)) && goodWord (.static y)
    | 1 => decide (lw_tbl[w.2.1]? = some (.instanceMethod y)) && goodWord (.instanceMethod y) && (y.name == "<init>" || (decide (lw_tbl[w.2.2]? = some (.selects y.cls y y)) && goodWord (.selects y.cls y y)))
    | _ => false) && decide (lw_tbl[am_in.getD cn 0]? = some (.initialized y.cls)) && goodWord (.initialized y.cls) && (match ret with
    | none => true
    | some .int => !(y.name == "<init>")
    | some .boolean => !(y.name == "<init>")
    | some .long => !(y.name == "<init>")
    | _ => false)
theorem am_wall {i : Nat} (h : i < 313) {me : am_ME} (hm : am_me[i]? = some me) : ∃ w, am_wd me w = true := sorry
theorem am_kM : ((List.range 19).all fun cn => (am_ML.getD cn []).all fun e => Nat.ble 10000 e.2.1 || (Nat.blt e.2.1 313 && (match am_me[e.2.1]? with
  | some (_, y, _) => (match e.2.2.1 with
    | 0 => decide (lw_tbl[e.2.2.2]? = some (.methodLink (am_cn.getD cn "") e.1 y)) && goodWord (.methodLink (am_cn.getD cn "") e.1 y)
    | 1 => decide (lw_tbl[e.2.2.2]? = some (.methodLinkNest (am_cn.getD cn "") e.1 y "BlazedPath"))
    | _ => false)
  | none => false))) = true := sorry
