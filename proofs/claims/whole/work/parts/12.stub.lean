def am_dec (me : am_ME) : Bool := match me with
  | (_, _, code, _, _, _, _, _, ins) => ins.all fun e => decide (decode code e.1 = .ok e.2) && am_ln e.2.1 e.2.2
theorem am_dall : ∀ me ∈ am_me, am_dec me = true := sorry
