theorem lnWs : lnW 0 = 7 ∧ lnW 1 = 5 ∧ lnW 2 = 5 ∧ lnW 3 = 7 ∧ lnW 4 = 5 ∧ lnW 5 = 3 ∧ lnW 6 = 4 := by decide +kernel
theorem chWs : (chW 5 0 = 100 ∧ chW 5 1 = 97 ∧ chW 5 2 = 121) ∧ (chW 6 0 = 98 ∧ chW 6 1 = 111 ∧ chW 6 2 = 105 ∧ chW 6 3 = 108) := by decide +kernel
