-- the law read: conditions, by the reference, whole
def SFo : List Int → Prop
  | [] => False
  | c :: r => (c = 40 ∨ (c = 33 ∧ SFo r) ∨ ((c = 38 ∨ c = 124) ∧ hdO r ≠ 33 ∧ SFo r)) ∧ (r = [] ∨ SFo r)
theorem SFo.bn : ∀ {ops : List Int}, SFo ops → bnc ops = jc ops
  | [], h => absurd h (fun z => z)
  | c :: r, h => by
    have ih : bnc r = jc r := by
      rcases h.2 with z | z
      · rw [z]
        rfl
      · exact SFo.bn z
    show (if c = 91 ∨ c = 40 ∨ c = 33 then 0 else 1) + bnc r = (if c = 38 ∨ c = 124 then 1 else 0) + jc r
    rcases h.1 with z | z | z
    · rw [if_pos (by omega), if_neg (by omega), ih]
    · rw [if_pos (by omega), if_neg (by omega), ih]
    · rw [if_neg (by omega), if_pos (by omega), ih]
theorem BFl.ln : ∀ {k : Nat} {vs : List SX}, BFl k vs → k ≤ vs.length
  | 0, vs, h => by omega
  | k + 1, [], h => absurd h (fun z => z)
  | k + 1, x :: r, h => by
    have := BFl.ln h.2
    rw [List.length_cons]
    omega
theorem SFo.hd {ops : List Int} (h : SFo ops) : hdT ops := by
  cases ops with
  | nil => exact absurd h (fun z => z)
  | cons c r =>
    show c = 40 ∨ c = 33 ∨ c = 38 ∨ c = 124
    rcases h.1 with z | z | z
    · exact Or.inl z
    · exact Or.inr (Or.inl z.1)
    · exact Or.inr (Or.inr z.1)
theorem SFo.jo {a : Bool} : ∀ {ops : List Int} {vs : List SX}, SFo ops → hdO ops ≠ 33 → SFo (joS a ops vs).2 ∧ hdO (joS a ops vs).2 ≠ 33 ∧ (a = true → hdO (joS a ops vs).2 = 40)
  | [], vs, h, h3 => absurd h (fun z => z)
  | c :: r, vs, h, h3 => by
    unfold joS
    by_cases q : c = 38 ∨ (a = true ∧ c = 124)
    · rw [if_pos q]
      rcases h.1 with z | z | z
      · omega
      · omega
      · exact SFo.jo z.2.2 z.2.1
    · rw [if_neg q]
      refine ⟨h, h3, fun z => ?_⟩
      show c = 40
      have h3' : c ≠ 33 := h3
      rcases h.1 with w | w | w
      · exact w
      · exact absurd w.1 h3'
      · exfalso
        rcases w.1 with v | v
        · exact q (Or.inl v)
        · exact q (Or.inr ⟨z, v⟩)
theorem SFo.en : ∀ {ops : List Int} {vs : List SX}, SFo ops → SFo (enS ops vs).2 ∧ hdO (enS ops vs).2 ≠ 33
  | [], vs, h => absurd h (fun z => z)
  | c :: r, vs, h => by
    unfold enS
    by_cases q : c = 33
    · rw [if_pos q]
      rcases h.1 with z | z | z
      · omega
      · exact SFo.en z.2
      · omega
    · rw [if_neg q]
      exact ⟨h, q⟩
