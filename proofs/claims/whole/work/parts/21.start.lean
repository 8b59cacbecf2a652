/-! the law's walk, out of what its loop answers as a partial function -/
def LawGood (xs : List Int32) : Prop := ∃ (N : Nat) (p : Int32 × St × St), Law_p18 N xs N c0 r0 0 = some p ∧ p.1 = 1
theorem law_run {xs : List Int32} (h : LawGood xs) : ∃ (d n : Nat) (h' : mH) (nc ns : Nat), d ≤ 2000 ∧ nc ≤ 600000 ∧ ns ≤ 7302250 ∧ mRunN (mBig (mRoL xs) d) (mRoL xs) 2 (mTab 264) n 0 (mEnt 4 [.ref (mBase + 5)]) [] [] (some (.int 1)) h' nc ns := by
  obtain ⟨N, ⟨v, c1, r1⟩, hp, h1⟩ := h
  have h1 : v = 1 := h1
  subst h1
  obtain ⟨n, q⟩ := t_Law_p18 N 0 xs N c0 r0 0 _ hp
  have hcall : ∀ (y : Nat) (as : List Value) (h : mH) (w : Option Value) (h1 : mH) (c1 s1 : Nat), mEv mStat 8 y as h = some (w, h1, c1, s1) → mBig (mRoL xs) (0 + 15) y as h w h1 c1 s1 := fun y as h w h1 c1 s1 e => by
    have := mEv_big (mRoLe_app mStat [xs]) 8 y as h w h1 c1 s1 e
    exact mBig_le 7 this
  obtain ⟨k, r⟩ := mEvP_run (mRoLe_app mStat [xs]) hcall _ _ _ _ _ _ _ _ _ _ ctor_run n _ _ _ _ q
  exact ⟨0 + 15, k, HP c1 r1, 158 + 0, 3918 + 0, by decide, by decide, by decide, r⟩
