def am_lp : List (List Nat) := [[177, 179, 181, 183, 185], [208, 210, 212, 214, 216, 218, 220, 222, 224, 226], [257, 259, 261, 263], [546, 548, 550, 552], [371, 373, 375, 377, 379, 381, 383, 385, 387, 389, 391, 393], [513, 515, 517, 519, 521, 523, 525, 527, 529, 531, 533], [408, 410, 412, 414, 416, 418], [479, 481, 483, 485, 487, 489], [441, 443, 445, 447, 449, 451, 453, 455, 457, 459, 461, 463], [238, 240, 242], [317, 319, 321, 323, 325, 327, 329, 331, 333, 335, 337, 339, 341, 343, 345], [569, 571, 573, 575, 577, 579, 581, 583, 585, 587, 589, 591, 593, 595], [1454, 1456, 1458, 1460, 1462, 1464, 1466, 1468, 1470, 1472, 1474, 1476, 1478, 1480, 1482, 1484, 1486, 1488, 1490, 1492, 1494, 1496, 1498, 1500, 1502, 1504, 1506, 1508, 1510, 1512, 1514, 1516, 1518, 1520, 1522, 1524, 1526, 1528, 1530, 1532, 1534, 1536, 1538, 1540, 1542, 1544, 1546, 1548, 1550, 1552, 1554, 1556, 1558, 1560, 1562, 1564, 1566, 1568, 1570, 1572, 1574, 1576, 1578, 1580, 1582, 1584, 1586, 1588, 1590, 1592, 1594, 1596, 1598, 1600, 1602, 1604, 1606, 1608, 1610, 1612, 1614, 1616, 1618, 1620, 1622, 1624, 1626, 1628, 1630, 1632]]
/-- the cells that are put into fields, in their order: object, field -/
def am_qo : List (Nat × Nat) := [(1, 0), (1, 1), (1, 2), (5, 0), (5, 1), (5, 3), (5, 4), (5, 5), (5, 6), (5, 8), (5, 9), (14, 0), (0, 0), (0, 1), (0, 2), (17, 0), (17, 1), (17, 3), (17, 4), (17, 5), (17, 6), (17, 8), (17, 9), (16, 0), (0, 3), (26, 2), (26, 3), (26, 4), (26, 5), (26, 6), (26, 7), (26, 8), (26, 0), (26, 1), (0, 4), (34, 2), (34, 3), (34, 4), (34, 5), (34, 6), (34, 7), (34, 8), (34, 0), (34, 1), (0, 5), (42, 2), (42, 3), (42, 4), (42, 5), (42, 6), (42, 7), (42, 8), (42, 0), (42, 1), (0, 6), (50, 2), (50, 0), (50, 1), (0, 8), (52, 2), (52, 3), (52, 4), (52, 5), (52, 0), (52, 1), (0, 9), (57, 2), (57, 4), (57, 5), (57, 6), (57, 7), (57, 0), (57, 1), (0, 10), (63, 0), (63, 1), (63, 3), (63, 4), (0, 11), (68, 2), (68, 8), (68, 9), (68, 0), (68, 1), (0, 12), (0, 13), (73, 0), (73, 10), (73, 11), (73, 13), (73, 14), (73, 15), (73, 16), (73, 17), (73, 18), (73, 20), (73, 21), (73, 22), (73, 23), (73, 24), (73, 25), (73, 28), (73, 36), (73, 37), (73, 38), (73, 39), (73, 40), (73, 48), (73, 49), (73, 50), (73, 51), (73, 52), (73, 53), (73, 54), (73, 55), (73, 56), (73, 57), (73, 58), (73, 59), (73, 60), (73, 61), (73, 62), (73, 63), (73, 64), (73, 65), (73, 67), (73, 71), (73, 72), (73, 73), (73, 77), (73, 78), (73, 79), (73, 80), (73, 81), (73, 82), (73, 83), (73, 88), (73, 89)]
def am_rt (t : FieldType) : Bool := match t with
  | .object _ => true
  | .array _ => true
  | _ => false
def am_it (t : FieldType) : Nat := match t with
  | .int => 0
  | .boolean => 1
  | .object _ => 2
  | .array _ => 2
  | _ => 9
set_option maxRecDepth 1000000 in
theorem am_kF : ((List.range 19).all fun cn => (am_FL.getD cn []).all fun e => match am_cls[e.2.1]? with
  | some (_, T, N) => decide (e.2.2.1 < N) && decide (lw_tbl[e.2.2.2]? = some (.fieldLink (am_cn.getD cn "") e.1 (T e.2.2.1).1 (T e.2.2.1).2.1 (T e.2.2.1).2.2.1)) && goodWord (.fieldLink (am_cn.getD cn "") e.1 (T e.2.2.1).1 (T e.2.2.1).2.1 (T e.2.2.1).2.2.1)
  | none => false) = true := by decide +kernel
set_option maxRecDepth 1000000 in
theorem am_kC : ((List.range 19).all fun cn => (am_CL.getD cn []).all fun e => match am_cls[e.2.1]? with
  | some (C, _, _) => decide (lw_tbl[e.2.2]? = some (.classLink (am_cn.getD cn "") e.1 C)) && goodWord (.classLink (am_cn.getD cn "") e.1 C)
  | none => false) = true := by decide +kernel
set_option maxRecDepth 1000000 in
theorem am_kK : ((List.range 19).all fun cn => (am_KC.getD cn []).all fun e => decide (lw_tbl[e.2.2]? = some (.constant (am_cn.getD cn "") e.1 (Int32.ofInt e.2.1))) && goodWord (.constant (am_cn.getD cn "") e.1 (Int32.ofInt e.2.1))) = true := by decide +kernel
set_option maxRecDepth 1000000 in
theorem am_kL : ((List.range 19).all fun cn => (am_KL.getD cn []).all fun e => decide (lw_tbl[e.2.2]? = some (.constantLong (am_cn.getD cn "") e.1 (Int64.ofInt e.2.1))) && goodWord (.constantLong (am_cn.getD cn "") e.1 (Int64.ofInt e.2.1))) = true := by decide +kernel
set_option maxRecDepth 1000000 in
theorem am_kI : ((List.range 13).all fun ci => match am_cls[ci]? with
  | some (C, T, N) => decide (lw_tbl[am_is.getD ci 0]? = some (.instantiable C N)) && goodWord (.instantiable C N) && decide (lw_tbl[am_in.getD ci 0]? = some (.initialized C)) && goodWord (.initialized C) && ((List.range N).all fun k => decide (lw_tbl[(am_lp.getD ci []).getD k 0]? = some (u_lay C T k)) && goodWord (u_lay C T k) && decide ((T k).1 = C)) && decide (C = am_cn.getD ci "")
  | none => false) = true := by decide +kernel
set_option maxRecDepth 1000000 in
theorem am_kS : ((List.range 126).all fun k => match am_sh[k]? with
  | some (.inl (t, n)) => decide (t < 4) && decide (n < 10000)
  | some (.inr (ci, ks)) => (match am_cls[ci]? with
    | some (_, T, N) => decide (ks.length = N) && ((List.range N).all fun j => match ks[j]? with
      | some (t, r, q) => (match t with
        | 0 => decide (am_it (am_ty ci j) = 0) && decide ((T j).2.2.2 = false)
        | 1 => decide (am_it (am_ty ci j) = 1) && decide ((T j).2.2.2 = false)
        | 2 => decide (am_it (am_ty ci j) = 2) && decide ((T j).2.2.2 = true) && decide (am_qo[q]? = some (k, j)) && decide (r < 126)
        | 3 => decide (am_it (am_ty ci j) = 2) && decide ((T j).2.2.2 = false) && decide (r < 126)
        | _ => false)
      | none => false)
    | none => false)
  | none => false) = true := by decide +kernel
set_option maxRecDepth 1000000 in
theorem am_kA : lw_tbl[(am_ar.getD 0 (.int, 0)).2]? = some (.arrayClass .int) ∧ lw_tbl[(am_ar.getD 1 (.int, 0)).2]? = some (.arrayClass .byte) ∧ lw_tbl[(am_ar.getD 2 (.int, 0)).2]? = some (.arrayClass .boolean) ∧ lw_tbl[(am_ar.getD 3 (.int, 0)).2]? = some (.arrayClass .long) := by decide +kernel
set_option maxRecDepth 1000000 in
theorem am_shl : am_sh.length = 126 := by decide +kernel
