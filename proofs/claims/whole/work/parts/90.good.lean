/-! what is left: on every script the law's loop answers 1 -/
theorem law_good (xs : List Int32) (h : xs.length ≤ 2048) : LawGood xs := sorry
