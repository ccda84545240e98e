-- the law read: what a value leaves behind; conditions, by the reference
def mk0 (g : am_M) (n p : Int) : am_M := fun k j => if k = 14 then (if j = 1 then g 0 0 else n) else if k = 1 then (if j = 3 then g 0 1 else g 0 2) else if k = 5 then g 0 3 else if k = 0 then g 0 4 else if k = 15 then g 1 j else if k = 2 then g 2 j else if k = 4 then g 3 j else if k = 16 then (if j = 1 then 1 else if j = 2 then p else 0) else 0
theorem mk0_X (g : am_M) (n p : Int) : TX g n (mk0 g n p) ∧ VSt (mk0 g n p) p 0 0 := ⟨⟨⟨⟨rfl, rfl, rfl, rfl, rfl⟩, fun _ _ => rfl, fun _ _ => rfl, fun _ _ => rfl⟩, rfl⟩, rfl, rfl, rfl, rfl⟩
theorem vf_s {g : am_M} {n p : Int} {vs : List SX} {ops : List Int} (hg : WG g) (hn : 1 ≤ n ∧ n ≤ 240) (ho : opn ops ≤ 6) (hb0 : ¬ tiO (hdO ops) ∧ ¬ plO (hdO ops) ∧ hdO ops ≠ 91) (hp : 0 ≤ p ∧ p ≤ n) : ((vfin g n false p vs ops).1 < 0 ∧ -7000 ≤ (vfin g n false p vs ops).1) ∨ ∃ (p' : Int) (x : SX), vfin g n false p vs ops = (0, p', x :: vs, ops) ∧ XO x ∧ p < p' ∧ p' ≤ n := by
  obtain ⟨h1, h2⟩ := mk0_X g n p
  obtain ⟨N, a1, a2, p1, s1, bad, b1, b2, b3, b4⟩ := sum_al hg hn ho p vs ops 0 _ rfl hb0.1 hb0.2.1 hp (by omega) h1 h2
  rcases b4 with ⟨z1, z2, z3⟩ | ⟨z1, x, z2, z3, z4, z5, z6, z7, z8, z9, z10⟩
  · exact Or.inl (by rw [z3]; exact ⟨z1, z2⟩)
  · have hp2 := z6.2 rfl
    have hve := v_end (x := x) (vs := vs) hn.2 (show 0 ≤ p1 ∧ p1 ≤ n by omega) hb0 z10
    rw [← z9] at hve
    by_cases q : taS g n p1 = 93
    · rw [if_pos q] at hve
      exact Or.inl (by rw [hve]; dsimp only; omega)
    · rw [if_neg q] at hve
      exact Or.inr ⟨p1, x, hve, z3, hp2, z7⟩
def jc : List Int → Nat
  | [] => 0
  | c :: r => (if c = 38 ∨ c = 124 then 1 else 0) + jc r
def BFl : Nat → List SX → Prop
  | 0, _ => True
  | k + 1, x :: r => x.2.2.1 = true ∧ BFl k r
  | _ + 1, [] => False
/-- & or | is put behind its two -/
theorem Rjn {M : am_M} {n p c : Int} {b t : Nat} {x y : SX} {vs : List SX} {ops : List Int} (h : RVt M n p b t (y :: x :: vs) (c :: ops) 0) (hp : p ≤ 240) (ho : c = 38 ∨ c = 124) (bx : x.2.2.1 = true) (by' : y.2.2.1 = true) : ∃ N, R_emit c 0 M = some N ∧ RVt (am_up N 73 9 (N 73 9 - 1)) n p b (t + 1) (jn1 c (y :: x :: vs)) ops 0 ∧ RVf b M (am_up N 73 9 (N 73 9 - 1)) ∧ (am_up N 73 9 (N 73 9 - 1)) 73 26 = M 73 26 := by
  obtain ⟨⟨e3, e4, e5, e7, e8, e9⟩, s1, ⟨t1, r1, r2, r3, t2, r4, r5, r6, r7⟩, l1, l2, l3⟩ := h
  have hbl := RVs.le r7
  rw [List.length_cons] at l1 e9
  have hop : opn (c :: ops) = opn ops := opn_c (by omega)
  rw [hop] at e8 l2
  refine ⟨am_up (am_up (am_up M 87 t c) 88 t 0) 73 7 ((t : Int) + 1), ?_, ⟨⟨?_, ?_, ?_, ?_, ?_, ?_⟩, ?_, ?_, by omega, l2, fun c h => l3 c (List.mem_cons_of_mem _ h)⟩, ?_, ?_⟩
  · unfold R_emit
    rw [good_1 e5, ob_s, c_ne_p (by decide) (by decide), if_pos (by decide), e7, wa_p (by omega), upo (show (73 : Nat) ≠ 87 by decide), e7, wa_p (by omega), upo (show (73 : Nat) ≠ 88 by decide), upo (show (73 : Nat) ≠ 87 by decide), e7, fw_p, show ((t : Int)).toNat = t by omega]
  · rw [upx (by decide), upx (by decide), upo (by decide), upo (by decide)]
    exact e3
  · rw [upx (by decide), upx (by decide), upo (by decide), upo (by decide)]
    exact e4
  · rw [upx (by decide), upx (by decide), upo (by decide), upo (by decide)]
    exact e5
  · rw [upx (by decide), upj]
    omega
  · rw [upx (by decide), upx (by decide), upo (by decide), upo (by decide)]
    exact e8
  · rw [upj, upx (by decide), upo (by decide), upo (by decide), e9]
    omega
  · exact s1.2.cg (fun j hj => by rw [upo (by decide), upo (by decide), upo (by decide), upo (by decide)])
  · subst r4
    subst r1
    have hj : ∀ j, j ≠ t2 + x.1 + y.1 → (am_up (am_up (am_up (am_up M 87 (t2 + x.1 + y.1) c) 88 (t2 + x.1 + y.1) 0) 73 7 (((t2 + x.1 + y.1 : Nat) : Int) + 1)) 73 9 ((am_up (am_up (am_up M 87 (t2 + x.1 + y.1) c) 88 (t2 + x.1 + y.1) 0) 73 7 (((t2 + x.1 + y.1 : Nat) : Int) + 1)) 73 9 - 1)) 87 j = M 87 j ∧ (am_up (am_up (am_up (am_up M 87 (t2 + x.1 + y.1) c) 88 (t2 + x.1 + y.1) 0) 73 7 (((t2 + x.1 + y.1 : Nat) : Int) + 1)) 73 9 ((am_up (am_up (am_up M 87 (t2 + x.1 + y.1) c) 88 (t2 + x.1 + y.1) 0) 73 7 (((t2 + x.1 + y.1 : Nat) : Int) + 1)) 73 9 - 1)) 88 j = M 88 j := fun j hj => ⟨by rw [upo (by decide), upo (by decide), upo (by decide), upx hj], by rw [upo (by decide), upo (by decide), upx hj, upo (by decide)]⟩
    rw [show jn1 c (y :: x :: vs) = (if c = 38 then anX x y else roX x y) :: vs from rfl]
    rcases ho with q | q
    · rw [if_pos q]
      refine ⟨t2, by show _ = t2 + (x.1 + y.1 + 1); omega, anX_R r6 r3 bx by' (r5.cg (fun j a c => hj j (by omega))) (r2.cg (fun j a c => hj j (by omega))) ?_, anX_O r6 r3 by', r7.cg (fun j a c => hj j (by omega))⟩
      rw [upo (by decide), upo (by decide), upo (by decide), upj]
      exact q
    · rw [if_neg (by omega)]
      refine ⟨t2, by show _ = t2 + (x.1 + y.1 + 1); omega, roX_R r6 r3 bx by' (r5.cg (fun j a c => hj j (by omega))) (r2.cg (fun j a c => hj j (by omega))) ?_, roX_O r6 r3 bx by', r7.cg (fun j a c => hj j (by omega))⟩
      rw [upo (by decide), upo (by decide), upo (by decide), upj]
      exact q
  · exact (((RVf.rf.up (Or.inr (Or.inl ⟨Or.inl rfl, by omega⟩))).up (Or.inr (Or.inl ⟨Or.inr rfl, by omega⟩))).up (by omega)).up (by omega)
  · rw [upx (by decide), upx (by decide), upo (by decide), upo (by decide)]
theorem Rng {M : am_M} {n p : Int} {b t : Nat} {x : SX} {vs : List SX} {ops : List Int} (h : RVt M n p b t (x :: vs) (33 :: ops) 0) (hp : p ≤ 240) (bx : x.2.2.1 = true) : ∃ N, R_emit 2 0 M = some N ∧ RVt (am_up (am_up N 73 9 (N 73 9 - 1)) 73 8 (N 73 8 - 1)) n p b (t + 1) (ngX x :: vs) ops 0 ∧ RVf b M (am_up (am_up N 73 9 (N 73 9 - 1)) 73 8 (N 73 8 - 1)) ∧ (am_up (am_up N 73 9 (N 73 9 - 1)) 73 8 (N 73 8 - 1)) 73 26 = M 73 26 := by
  obtain ⟨⟨e3, e4, e5, e7, e8, e9⟩, s1, ⟨t1, r1, r2, r3, r7⟩, l1, l2, l3⟩ := h
  have hbl := RVs.le r7
  rw [List.length_cons] at l1 e9
  have hop : opn (33 :: ops) = opn ops + 1 := by
    show (if (33 : Int) = 91 ∨ (33 : Int) = 40 ∨ (33 : Int) = 33 then 1 else 0) + opn ops = _
    rw [if_pos (by decide)]
    omega
  rw [hop] at e8 l2
  refine ⟨am_up (am_up (am_up M 87 t 2) 88 t 0) 73 7 ((t : Int) + 1), ?_, ⟨⟨?_, ?_, ?_, ?_, ?_, ?_⟩, ?_, ?_, by omega, by omega, fun c h => l3 c (List.mem_cons_of_mem _ h)⟩, ?_, ?_⟩
  · unfold R_emit
    rw [good_1 e5, ob_s, c_ne_p (by decide) (by decide), if_pos (by decide), e7, wa_p (by omega), upo (show (73 : Nat) ≠ 87 by decide), e7, wa_p (by omega), upo (show (73 : Nat) ≠ 88 by decide), upo (show (73 : Nat) ≠ 87 by decide), e7, fw_p, show ((t : Int)).toNat = t by omega]
  · rw [upx (by decide), upx (by decide), upx (by decide), upo (by decide), upo (by decide)]
    exact e3
  · rw [upx (by decide), upx (by decide), upx (by decide), upo (by decide), upo (by decide)]
    exact e4
  · rw [upx (by decide), upx (by decide), upx (by decide), upo (by decide), upo (by decide)]
    exact e5
  · rw [upx (by decide), upx (by decide), upj]
    omega
  · rw [upj, upx (by decide), upo (by decide), upo (by decide), e8]
    omega
  · rw [upx (by decide), upj, upx (by decide), upo (by decide), upo (by decide), e9]
    omega
  · exact s1.2.cg (fun j hj => by rw [upo (by decide), upo (by decide), upo (by decide), upo (by decide), upo (by decide)])
  · subst r1
    refine ⟨t1, by show _ = t1 + (x.1 + 1); omega, ngX_R r3 bx (r2.cg (fun j a c => ⟨?_, ?_⟩)) ?_, ngX_O r3, r7.cg (fun j a c => ⟨?_, ?_⟩)⟩
    · rw [upo (by decide), upo (by decide), upo (by decide), upo (by decide), upx (by omega)]
    · rw [upo (by decide), upo (by decide), upo (by decide), upx (by omega), upo (by decide)]
    · rw [upo (by decide), upo (by decide), upo (by decide), upo (by decide), upj]
    · rw [upo (by decide), upo (by decide), upo (by decide), upo (by decide), upx (by omega)]
    · rw [upo (by decide), upo (by decide), upo (by decide), upx (by omega), upo (by decide)]
  · exact ((((RVf.rf.up (Or.inr (Or.inl ⟨Or.inl rfl, by omega⟩))).up (Or.inr (Or.inl ⟨Or.inr rfl, by omega⟩))).up (by omega)).up (by omega)).up (by omega)
  · rw [upx (by decide), upx (by decide), upx (by decide), upo (by decide), upo (by decide)]
