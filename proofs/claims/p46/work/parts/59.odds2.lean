/-! level 2: odds -/
theorem stands_M {P S : PT} {k : Int32} (hk : a_isPole P k = true) : a_stands P S k = (a_isUp P S k && decide (a_load P S k ≤ a_bearsNow P S k)) := rfl
theorem up_of_seat {P S : PT} {k : Int32} (h : a_isUp P S k = true) : a_isPole P k = true := by
  unfold a_isUp at h
  cases c : a_isPole P k with
  | true => rfl
  | false => rw [c] at h; cases h
theorem SV_of {σ μ : Mem} (h : Rl σ μ) : SV (pM μ) μ 11 := fun i hi => by
  rcases h.2.2.2.1.2.2.2.2.1 i hi with q | q
  · exact Or.inl q
  · exact Or.inr (up_of_seat q)
