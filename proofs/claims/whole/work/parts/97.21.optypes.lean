/-! types of ops -/
def tmF (k : Int) : Int := if 8 ≤ k ∧ k ≤ 12 then 1 else 0
def ttF (k : Int) : Int := if 10 ≤ k ∧ k ≤ 12 then 1 else 0
theorem tmF_01 (k : Int) : tmF k = 0 ∨ tmF k = 1 := by unfold tmF; split <;> omega
theorem ttF_01 (k : Int) : ttF k = 0 ∨ ttF k = 1 := by unfold ttF; split <;> omega
theorem s_typeMade {k : Int} {M : Mem} : fX11_typeMade k M = some (tmF k, M) := by
  unfold fX11_typeMade tmF
  by_cases h1 : k < 8
  · rw [if_pos h1, if_neg (by omega), ob]
  · rw [if_neg h1]
    by_cases h2 : 12 < k
    · rw [if_pos h2, if_neg (by omega), ob]
    · rw [if_neg h2, if_pos (by omega), ob]
theorem s_makesFlag {k : Int} {M : Mem} : fX12_makesFlag k M = some (tmF k, M) := by
  unfold fX12_makesFlag tmF
  by_cases h1 : k < 8
  · rw [if_pos h1, if_neg (by omega), ob, rz0]
  · rw [if_neg h1]
    by_cases h2 : 12 < k
    · rw [if_pos h2, if_neg (by omega), ob, rz0]
    · rw [if_neg h2, if_pos (by omega), ob, rz1]
theorem s_typeTaken {k : Int} {M : Mem} : fX11_typeTaken k M = some (ttF k, M) := by
  unfold fX11_typeTaken ttF
  by_cases h1 : k = 10
  · rw [if_pos h1, if_pos (by omega), ob]
  · rw [if_neg h1]
    by_cases h2 : k = 11
    · rw [if_pos h2, if_pos (by omega), ob]
    · rw [if_neg h2]
      by_cases h3 : k = 12
      · rw [if_pos h3, if_pos (by omega), ob]
      · rw [if_neg h3, if_neg (by omega), ob]
theorem s_argsOf12 {k : Int} {M : Mem} (h : 2 ≤ k) : fX12_argsOf k M = some (argc k, M) := by
  unfold fX12_argsOf argc
  rw [if_neg (show ¬ (k = 0 ∨ k = 1) by omega)]
  by_cases h1 : k = 7
  · rw [if_pos h1, if_pos (by omega), ob]
  · rw [if_neg h1]
    by_cases h2 : k = 12
    · rw [if_pos h2, if_pos (by omega), ob]
    · rw [if_neg h2]
      by_cases h3 : k = 14
      · rw [if_pos h3, if_pos (by omega), ob]
      · rw [if_neg h3, if_neg (show ¬ (k = 7 ∨ k = 12 ∨ k = 14) by omega)]
        by_cases h4 : k = 13
        · rw [if_pos h4, if_pos h4, ob]
        · rw [if_neg h4, if_neg h4, ob]
