theorem q_sw6 (x : Int32) (h0 : ¬ x = 0) (h1 : ¬ x = 1) (h2 : ¬ x = 2) (h3 : ¬ x = 3) (h4 : ¬ x = 4) (h5 : ¬ x = 5) (h6 : ¬ x = 6) : x.toInt < 0 ∨ 6 < x.toInt := by
  rcases Int.lt_or_le x.toInt 0 with g | g
  · exact Or.inl g
  · rcases Int.lt_or_le 6 x.toInt with k | k
    · exact Or.inr k
    · exfalso
      have : x.toInt = 0 ∨ x.toInt = 1 ∨ x.toInt = 2 ∨ x.toInt = 3 ∨ x.toInt = 4 ∨ x.toInt = 5 ∨ x.toInt = 6 := by omega
      rcases this with z | z | z | z | z | z | z
      · exact h0 (Int32.toInt_inj.mp (by rw [z]; rfl))
      · exact h1 (Int32.toInt_inj.mp (by rw [z]; rfl))
      · exact h2 (Int32.toInt_inj.mp (by rw [z]; rfl))
      · exact h3 (Int32.toInt_inj.mp (by rw [z]; rfl))
      · exact h4 (Int32.toInt_inj.mp (by rw [z]; rfl))
      · exact h5 (Int32.toInt_inj.mp (by rw [z]; rfl))
      · exact h6 (Int32.toInt_inj.mp (by rw [z]; rfl))
theorem q_sw21 (x : Int32) (h0 : ¬ x = 0) (h1 : ¬ x = 1) (h2 : ¬ x = 2) (h3 : ¬ x = 3) (h4 : ¬ x = 4) (h5 : ¬ x = 5) (h6 : ¬ x = 6) (h7 : ¬ x = 7) (h8 : ¬ x = 8) (h9 : ¬ x = 9) (h10 : ¬ x = 10) (h11 : ¬ x = 11) (h12 : ¬ x = 12) (h13 : ¬ x = 13) (h14 : ¬ x = 14) (h15 : ¬ x = 15) (h16 : ¬ x = 16) (h17 : ¬ x = 17) (h18 : ¬ x = 18) (h19 : ¬ x = 19) (h20 : ¬ x = 20) (h21 : ¬ x = 21) : x.toInt < 0 ∨ 21 < x.toInt := by
  rcases Int.lt_or_le x.toInt 0 with g | g
  · exact Or.inl g
  · rcases Int.lt_or_le 21 x.toInt with k | k
    · exact Or.inr k
    · exfalso
      have : x.toInt = 0 ∨ x.toInt = 1 ∨ x.toInt = 2 ∨ x.toInt = 3 ∨ x.toInt = 4 ∨ x.toInt = 5 ∨ x.toInt = 6 ∨ x.toInt = 7 ∨ x.toInt = 8 ∨ x.toInt = 9 ∨ x.toInt = 10 ∨ x.toInt = 11 ∨ x.toInt = 12 ∨ x.toInt = 13 ∨ x.toInt = 14 ∨ x.toInt = 15 ∨ x.toInt = 16 ∨ x.toInt = 17 ∨ x.toInt = 18 ∨ x.toInt = 19 ∨ x.toInt = 20 ∨ x.toInt = 21 := by omega
      rcases this with z | z | z | z | z | z | z | z | z | z | z | z | z | z | z | z | z | z | z | z | z | z
      · exact h0 (Int32.toInt_inj.mp (by rw [z]; rfl))
      · exact h1 (Int32.toInt_inj.mp (by rw [z]; rfl))
      · exact h2 (Int32.toInt_inj.mp (by rw [z]; rfl))
      · exact h3 (Int32.toInt_inj.mp (by rw [z]; rfl))
      · exact h4 (Int32.toInt_inj.mp (by rw [z]; rfl))
      · exact h5 (Int32.toInt_inj.mp (by rw [z]; rfl))
      · exact h6 (Int32.toInt_inj.mp (by rw [z]; rfl))
      · exact h7 (Int32.toInt_inj.mp (by rw [z]; rfl))
      · exact h8 (Int32.toInt_inj.mp (by rw [z]; rfl))
      · exact h9 (Int32.toInt_inj.mp (by rw [z]; rfl))
      · exact h10 (Int32.toInt_inj.mp (by rw [z]; rfl))
      · exact h11 (Int32.toInt_inj.mp (by rw [z]; rfl))
      · exact h12 (Int32.toInt_inj.mp (by rw [z]; rfl))
      · exact h13 (Int32.toInt_inj.mp (by rw [z]; rfl))
      · exact h14 (Int32.toInt_inj.mp (by rw [z]; rfl))
      · exact h15 (Int32.toInt_inj.mp (by rw [z]; rfl))
      · exact h16 (Int32.toInt_inj.mp (by rw [z]; rfl))
      · exact h17 (Int32.toInt_inj.mp (by rw [z]; rfl))
      · exact h18 (Int32.toInt_inj.mp (by rw [z]; rfl))
      · exact h19 (Int32.toInt_inj.mp (by rw [z]; rfl))
      · exact h20 (Int32.toInt_inj.mp (by rw [z]; rfl))
      · exact h21 (Int32.toInt_inj.mp (by rw [z]; rfl))
