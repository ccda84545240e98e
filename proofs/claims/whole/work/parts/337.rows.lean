-- rows in their order, and the tree of their beginnings
def lpS {S : Type} (f : Nat → S → S) : Nat → Nat → S → S
  | 0, _, s => s
  | c + 1, i, s => lpS f c (i + 1) (f i s)
def tr {S : Type} (b : Nat) (upd : S → List Int → S) : Nat → List Int → S → S
  | 0, pre, s => upd s pre
  | k + 1, pre, s => lpS (fun i s => tr b upd k (pre ++ [(i : Int)]) s) b 0 s
def dg (b : Nat) : Nat → Nat → List Int
  | 0, _ => []
  | n + 1, r => dg b n (r / b) ++ [((r % b : Nat) : Int)]
def foR {S : Type} (b n : Nat) (upd : S → List Int → S) : Nat → Nat → S → S
  | 0, _, s => s
  | c + 1, r, s => foR b n upd c (r + 1) (upd s (dg b n r))
theorem foR_add {S : Type} (b n : Nat) (upd : S → List Int → S) : ∀ (c d r : Nat) (s : S), foR b n upd (c + d) r s = foR b n upd d (r + c) (foR b n upd c r s)
  | 0, d, r, s => by
    rw [Nat.zero_add, Nat.add_zero]
    rfl
  | c + 1, d, r, s => by
    rw [show c + 1 + d = (c + d) + 1 by omega]
    show foR b n upd (c + d) (r + 1) (upd s (dg b n r)) = _
    rw [foR_add b n upd c d (r + 1) (upd s (dg b n r)), show r + 1 + c = r + (c + 1) by omega]
    rfl
theorem foR_tr {S : Type} {b : Nat} (hb : 0 < b) (upd : S → List Int → S) : ∀ (k m R : Nat) (s : S), foR b (m + k) upd (b ^ k) (R * b ^ k) s = tr b upd k (dg b m R) s
  | 0, m, R, s => by
    rw [Nat.pow_zero, Nat.mul_one]
    rfl
  | k + 1, m, R, s => by
    have hlp : ∀ (c i : Nat) (s : S), i + c = b → foR b (m + (k + 1)) upd (c * b ^ k) ((R * b + i) * b ^ k) s = lpS (fun i s => tr b upd k (dg b m R ++ [(i : Int)]) s) c i s := by
      intro c
      induction c with
      | zero =>
        intro i s hi
        rw [Nat.zero_mul]
        rfl
      | succ c ih =>
        intro i s hi
        rw [show (c + 1) * b ^ k = b ^ k + c * b ^ k by rw [Nat.add_mul, Nat.one_mul]; omega, foR_add]
        have e1 : foR b (m + (k + 1)) upd (b ^ k) ((R * b + i) * b ^ k) s = tr b upd k (dg b m R ++ [(i : Int)]) s := by
          have h := foR_tr hb upd k (m + 1) (R * b + i) s
          rw [show m + 1 + k = m + (k + 1) by omega] at h
          rw [h]
          have h1 : (R * b + i) / b = R := by
            rw [Nat.mul_comm, Nat.mul_add_div hb, Nat.div_eq_of_lt (by omega)]
            rfl
          have h2 : (R * b + i) % b = i := by
            rw [Nat.mul_comm, Nat.mul_add_mod, Nat.mod_eq_of_lt (by omega)]
          show tr b upd k (dg b m ((R * b + i) / b) ++ [(((R * b + i) % b : Nat) : Int)]) s = _
          rw [h1, h2]
        rw [e1, show (R * b + i) * b ^ k + b ^ k = (R * b + (i + 1)) * b ^ k by rw [show R * b + (i + 1) = (R * b + i) + 1 by omega, Nat.add_mul (R * b + i) 1, Nat.one_mul], ih (i + 1) _ (by omega)]
        rfl
    have h := hlp b 0 s (by omega)
    rw [Nat.add_zero (R * b)] at h
    rw [show b ^ (k + 1) = b * b ^ k by rw [Nat.pow_succ, Nat.mul_comm], ← Nat.mul_assoc, h]
    rfl
theorem dg_len (b : Nat) : ∀ (n r : Nat), (dg b n r).length = n
  | 0, _ => rfl
  | n + 1, r => by
    unfold dg
    rw [List.length_append, dg_len b n]
    rfl
theorem dg_in {b : Nat} (hb : 0 < b) : ∀ (n r : Nat) (x : Int), x ∈ dg b n r → 0 ≤ x ∧ x < b
  | 0, _, x, h => by
    unfold dg at h
    cases h
  | n + 1, r, x, h => by
    unfold dg at h
    rw [List.mem_append] at h
    rcases h with h | h
    · exact dg_in hb n _ x h
    · rw [List.mem_singleton] at h
      have := Nat.mod_lt r hb
      omega
/-- the best of the rows: its worth, and it -/
abbrev BS : Type := Int × Option (List Int)
def upB (P : List Int → Bool) (val : List Int → Int) (s : BS) (l : List Int) : BS := if P l = true ∧ val l < s.1 then (val l, some l) else s
theorem lpS_id {S : Type} {f : Nat → S → S} {s : S} : ∀ (c i : Nat), (∀ j, i ≤ j → j < i + c → f j s = s) → lpS f c i s = s
  | 0, i, h => rfl
  | c + 1, i, h => by
    unfold lpS
    rw [h i (by omega) (by omega)]
    exact lpS_id c (i + 1) (fun j h1 h2 => h j (by omega) (by omega))
theorem tr_sk {b : Nat} {P : List Int → Bool} {val : List Int → Int} {s : BS} : ∀ (k : Nat) (pre : List Int), (∀ c : List Int, c.length = k → (∀ x, x ∈ c → 0 ≤ x ∧ x < b) → ¬ (P (pre ++ c) = true ∧ val (pre ++ c) < s.1)) → tr b (upB P val) k pre s = s
  | 0, pre, h => by
    have := h [] rfl (fun x hx => by cases hx)
    rw [List.append_nil] at this
    unfold tr upB
    rw [if_neg this]
  | k + 1, pre, h => by
    unfold tr
    refine lpS_id b 0 (fun j _ hj => tr_sk k (pre ++ [(j : Int)]) (fun c hc hx => ?_))
    have := h ((j : Int) :: c) (by rw [List.length_cons, hc]) (fun x hx' => by
      rcases List.mem_cons.mp hx' with q | q
      · omega
      · exact hx x q)
    rw [List.append_assoc]
    exact this
/-- the best only gets better, and each row is met -/
theorem lpS_le {f : Nat → BS → BS} (hf : ∀ j s, (f j s).1 ≤ s.1) : ∀ (c i : Nat) (s : BS), (lpS f c i s).1 ≤ s.1
  | 0, i, s => Int.le_refl _
  | c + 1, i, s => by
    unfold lpS
    exact Int.le_trans (lpS_le hf c (i + 1) (f i s)) (hf i s)
theorem tr_le {b : Nat} {P : List Int → Bool} {val : List Int → Int} : ∀ (k : Nat) (pre : List Int) (s : BS), (tr b (upB P val) k pre s).1 ≤ s.1
  | 0, pre, s => by
    unfold tr upB
    split
    · rename_i h
      exact Int.le_of_lt h.2
    · exact Int.le_refl _
  | k + 1, pre, s => by
    unfold tr
    exact lpS_le (fun j s => tr_le k _ s) b 0 s
theorem lpS_at {f : Nat → BS → BS} (hf : ∀ j s, (f j s).1 ≤ s.1) {m : Int} {j : Nat} (hj : ∀ s, (f j s).1 ≤ m) : ∀ (c i : Nat) (s : BS), i ≤ j → j < i + c → (lpS f c i s).1 ≤ m
  | 0, i, s, h1, h2 => by omega
  | c + 1, i, s, h1, h2 => by
    unfold lpS
    by_cases q : i = j
    · subst q
      exact Int.le_trans (lpS_le hf c (i + 1) _) (hj s)
    · exact lpS_at hf hj c (i + 1) _ (by omega) (by omega)
theorem tr_at {b : Nat} {P : List Int → Bool} {val : List Int → Int} : ∀ (k : Nat) (pre c : List Int) (s : BS), c.length = k → (∀ x, x ∈ c → 0 ≤ x ∧ x < b) → P (pre ++ c) = true → (tr b (upB P val) k pre s).1 ≤ val (pre ++ c)
  | 0, pre, c, s, hc, hx, hP => by
    have : c = [] := List.length_eq_zero_iff.mp hc
    subst this
    rw [List.append_nil] at hP ⊢
    unfold tr upB
    by_cases q : val pre < s.1
    · rw [if_pos ⟨hP, q⟩]
      exact Int.le_refl _
    · rw [if_neg (fun h => q h.2)]
      omega
  | k + 1, pre, [], s, hc, hx, hP => by cases hc
  | k + 1, pre, a :: c, s, hc, hx, hP => by
    unfold tr
    have ha := hx a List.mem_cons_self
    refine lpS_at (fun j s => tr_le k _ s) (j := a.toNat) (fun s => ?_) b 0 s (by omega) (by omega)
    rw [show ((a.toNat : Nat) : Int) = a by omega]
    have := tr_at (b := b) (P := P) (val := val) k (pre ++ [a]) c s (by rw [List.length_cons] at hc; omega) (fun x h => hx x (List.mem_cons_of_mem _ h)) (by rw [List.append_assoc]; exact hP)
    rw [List.append_assoc] at this
    exact this
/-- what the best is: none yet, or a row of its worth -/
def goB (P : List Int → Bool) (val : List Int → Int) (n : Nat) (b : Nat) (m : Int) (s : BS) : Prop := (s = (m, none)) ∨ ∃ l, s = (val l, some l) ∧ val l < m ∧ l.length = n ∧ ∀ x, x ∈ l → 0 ≤ x ∧ x < b
theorem up_go {P : List Int → Bool} {val : List Int → Int} {n b : Nat} {m : Int} {s : BS} {l : List Int} (h : goB P val n b m s) (hl : l.length = n) (hx : ∀ x, x ∈ l → 0 ≤ x ∧ x < b) : goB P val n b m (upB P val s l) := by
  unfold upB
  split
  · rename_i q
    right
    refine ⟨l, rfl, ?_, hl, hx⟩
    rcases h with h | ⟨l', h, h2, _⟩
    · rw [h] at q
      exact q.2
    · rw [h] at q
      exact Int.lt_trans q.2 h2
  · exact h
theorem foR_go {P : List Int → Bool} {val : List Int → Int} {n b : Nat} (hb : 0 < b) {m : Int} : ∀ (c r : Nat) (s : BS), goB P val n b m s → goB P val n b m (foR b n (upB P val) c r s)
  | 0, r, s, h => h
  | c + 1, r, s, h => foR_go hb c (r + 1) _ (up_go h (dg_len b n r) (dg_in hb n r))
-- digits as they are written
theorem gD_app {l : List Int} {i : Int} {j : Nat} : (l ++ [i]).getD j 0 = if j = l.length then i else l.getD j 0 := by
  by_cases h : j = l.length
  · subst h
    simp
  · rw [if_neg h]
    by_cases h2 : j < l.length
    · rw [List.getD_eq_getElem?_getD, List.getD_eq_getElem?_getD, List.getElem?_append_left h2]
    · rw [List.getD_eq_getElem?_getD, List.getD_eq_getElem?_getD, List.getElem?_append_right (by omega)]
      rw [List.getElem?_eq_none (by simp; omega), List.getElem?_eq_none (by omega)]
theorem gD_in {l : List Int} {b : Int} (hb : 0 < b) (h : ∀ x, x ∈ l → 0 ≤ x ∧ x < b) (j : Nat) : 0 ≤ l.getD j 0 ∧ l.getD j 0 < b := by
  by_cases q : j < l.length
  · rw [List.getD_eq_getElem?_getD, List.getElem?_eq_getElem q]
    exact h _ (List.getElem_mem q)
  · rw [List.getD_eq_getElem?_getD, List.getElem?_eq_none (by omega)]
    exact ⟨Int.le_refl _, hb⟩
theorem opensRow_lp {b : Nat} (hb : 0 < b) (hb6 : b ≤ 6) : ∀ (k n r : Nat) (M : am_M), k ≤ 6 → k < n → r < 1000000 → ∃ N, R_opensRow_8 n (b : Int) (r : Int) ((k : Int) - 1) M = some N ∧ (∀ j : Nat, j < k → N 121 j = (dg b k r).getD j 0) ∧ (∀ j : Nat, k ≤ j → N 121 j = M 121 j) ∧ (∀ c, c ≠ 121 → N c = M c)
  | 0, n + 1, r, M, hk, hn, hr => by
    refine ⟨M, ?_, fun j hj => by omega, fun _ _ => rfl, fun _ _ => rfl⟩
    unfold R_opensRow_8
    rw [c_lt_p (by omega) (by omega), if_pos (by omega)]
  | k + 1, n + 1, r, M, hk, hn, hr => by
    have hm := Nat.mod_lt r hb
    have hd : r / b ≤ r := Nat.div_le_self r b
    obtain ⟨N, a1, a2, a3, a4⟩ := opensRow_lp hb hb6 k n (r / b) (am_up M 121 k ((r % b : Nat) : Int)) (by omega) (by omega) (by omega)
    refine ⟨N, ?_, fun j hj => ?_, fun j hj => ?_, fun c hc => by rw [a4 c hc, upo hc]⟩
    · unfold R_opensRow_8
      rw [c_lt_p (by omega) (by omega), if_neg (by omega), ck_p (by omega), tw_p, wa_p (by omega), ck_p (by omega), tw_p, Int.tmod_eq_emod_of_nonneg (by omega), Int.tdiv_eq_ediv_of_nonneg (by omega)]
      rw [show (((k + 1 : Nat) : Int) - 1).toNat = k by omega, show ((k + 1 : Nat) : Int) - 1 + -1 = (k : Int) - 1 by omega, ← Int.natCast_emod, ← Int.natCast_ediv]
      exact a1
    · unfold dg
      rw [gD_app, dg_len]
      by_cases q : j = k
      · subst q
        rw [if_pos rfl, a3 j (Nat.le_refl _), upj]
      · rw [if_neg q]
        exact a2 j (by omega)
    · rw [a3 j (by omega), upx (by omega)]
theorem opensRow_eq {b n r : Nat} (hb : 0 < b) (hb6 : b ≤ 6) (hn : n ≤ 6) (hr : r < 1000000) {M : am_M} : ∃ N, R_opensRow (r : Int) (n : Int) (b : Int) M = some N ∧ (∀ j : Nat, j < n → N 121 j = (dg b n r).getD j 0) ∧ (∀ c, c ≠ 121 → N c = M c) := by
  obtain ⟨N, a1, a2, a3, a4⟩ := opensRow_lp hb hb6 n am_big r M hn (by show _ < 1000000; omega) hr
  exact ⟨N, a1, a2, a4⟩
theorem keepsRow_lp {n : Nat} (hn : n ≤ 6) : ∀ (k m i : Nat) (M : am_M), i + k = n → k < m → (∀ j : Nat, j < i → M 122 j = M 121 j) → ∃ N, R_keepsRow_2 m (n : Int) (i : Int) M = some N ∧ (∀ j : Nat, j < n → N 122 j = M 121 j) ∧ (∀ c, c ≠ 122 → N c = M c)
  | 0, m + 1, i, M, e, hm, h => by
    refine ⟨M, ?_, fun j hj => h j (by omega), fun _ _ => rfl⟩
    unfold R_keepsRow_2
    rw [c_ge_p (by omega) (by omega), if_pos (by omega)]
  | k + 1, m + 1, i, M, e, hm, h => by
    obtain ⟨N, a1, a2, a3⟩ := keepsRow_lp hn k m (i + 1) (am_up M 122 i (M 121 i)) (by omega) (by omega) (fun j hj => by
      rw [upo (show (121 : Nat) ≠ 122 by decide)]
      by_cases q : j = i
      · rw [q, upj]
      · rw [upx q]
        exact h j (by omega))
    refine ⟨N, ?_, fun j hj => by rw [a2 j hj, upo (by decide)], fun c hc => by rw [a3 c hc, upo hc]⟩
    unfold R_keepsRow_2
    rw [c_ge_p (by omega) (by omega), if_neg (by omega), rd_p (by omega), wa_p (by omega), show ((i : Int)).toNat = i by omega]
    exact a1
theorem keepsRow_eq {n : Nat} (hn : n ≤ 6) {M : am_M} : ∃ N, R_keepsRow (n : Int) M = some N ∧ (∀ j : Nat, j < n → N 122 j = M 121 j) ∧ (∀ c, c ≠ 122 → N c = M c) := keepsRow_lp hn n am_big 0 M (by omega) (by show _ < 1000000; omega) (fun j hj => by omega)
theorem powerOf_lp {b n : Nat} {M : am_M} (hn : n ≤ 6) : ∀ (k m i v : Nat), i + k = n → k < m → R_powerOf_4 m (b : Int) (n : Int) (v : Int) (i : Int) M = some ((v * b ^ k : Nat) : Int)
  | 0, m + 1, i, v, e, hm => by
    unfold R_powerOf_4
    rw [c_ge_p (by omega) (by omega), if_pos (by omega), Nat.pow_zero, Nat.mul_one]
  | k + 1, m + 1, i, v, e, hm => by
    have ih := powerOf_lp (b := b) (M := M) hn k m (i + 1) (v * b) (by omega) (by omega)
    unfold R_powerOf_4
    rw [c_ge_p (by omega) (by omega), if_neg (by omega), ← Int.natCast_mul, show ((i : Int)) + 1 = ((i + 1 : Nat) : Int) by omega, ih, Nat.pow_succ, Nat.mul_assoc, Nat.mul_comm b]
theorem powerOf_eq {b n : Nat} {M : am_M} (hn : n ≤ 6) : R_powerOf (b : Int) (n : Int) M = some ((b ^ n : Nat) : Int) := by
  have := powerOf_lp (b := b) (M := M) hn n am_big 0 1 (by omega) (by show _ < 1000000; omega)
  rw [Nat.one_mul] at this
  exact this
theorem pow_b {b n : Nat} (hb : b ≤ 6) (hn : n ≤ 6) : b ^ n ≤ 46656 := by
  have h1 : b ^ n ≤ 6 ^ n := Nat.pow_le_pow_left hb n
  have h2 : 6 ^ n ≤ 6 ^ 6 := Nat.pow_le_pow_right (by decide) hn
  exact Nat.le_trans h1 (Nat.le_trans h2 (by decide))
