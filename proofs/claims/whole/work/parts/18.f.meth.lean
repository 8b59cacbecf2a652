/-! methods as partial functions of Lean, and that the small machine does them: by program (gen18) -/
/-! ColdHolds$Readings.above(III)I, from (('r', 59), 'i', 'i', 'i') -/
def Readings_above_p37 (N : Nat) (kb6 : Int32 → Int32 → Int32 → Int32 → Option (Int32)) (c : St) (x2 : Int32) (x3 : Int32) (x4 : Int32) (x5 : Int32) : Option (Int32) :=
  kb6 x2 x3 x4 (x5 + 1)
def Readings_above_p6b (N : Nat) (kb6 : Int32 → Int32 → Int32 → Int32 → Option (Int32)) (c : St) (x2 : Int32) (x3 : Int32) (x4 : Int32) (x5 : Int32) : Option (Int32) :=
  (if x2 < x5 then some x4 else (Readings_least N c x5).bind fun p2 => (if p2 ≤ x3 then (Readings_greatest N c x5).bind fun p4 => (if p4 ≤ x3 then Readings_above_p37 N kb6 c x2 x3 x4 x5 else Readings_above_p37 N kb6 c x2 x3 1 x5) else some 2))
def Readings_above_p6 (N : Nat) (c : St) : Nat → Int32 → Int32 → Int32 → Int32 → Option (Int32)
  | 0 => fun _ _ _ _ => none
  | n + 1 => Readings_above_p6b N (Readings_above_p6 N c n) c
def Readings_above (N : Nat) (c : St) (x1 : Int32) (x2 : Int32) (x3 : Int32) : Option (Int32) :=
  Readings_above_p6 N c N x2 x3 0 x1
set_option maxHeartbeats 8000000 in
set_option maxRecDepth 100000 in
theorem t_Readings_above_p37 (N d : Nat) (xs : List Int32) (c : St) (r : St) (kb6 : Int32 → Int32 → Int32 → Int32 → Option (Int32)) (hb6 : ∀ (x2 : Int32) (x3 : Int32) (x4 : Int32) (x5 : Int32), Ok (mBig (mRoL xs) (d + 2)) (mRoL xs) 1 mK65 (fun p : Int32 => (some (.int p), HP c r)) (kb6 x2 x3 x4 x5) 6 [some (.ref 59), none, some (.int x2), some (.int x3), some (.int x4), some (.int x5)] [] (HP c r)) (x2 : Int32) (x3 : Int32) (x4 : Int32) (x5 : Int32) : Ok (mBig (mRoL xs) (d + 2)) (mRoL xs) 1 mK65 (fun p : Int32 => (some (.int p), HP c r)) (Readings_above_p37 N kb6 c x2 x3 x4 x5) 37 [some (.ref 59), none, some (.int x2), some (.int x3), some (.int x4), some (.int x5)] [] (HP c r) := by
  unfold Readings_above_p37
  refine Ok_blk 2 (pc2 := 6) (lo2 := [some (.ref 59), none, some (.int x2), some (.int x3), some (.int x4), some (.int (x5 + 1))]) (st2 := []) rfl ?_
  refine Ok_drop (lo0 := [some (.ref 59), none, some (.int x2), some (.int x3), some (.int x4), some (.int (x5 + 1))]) ⟨Or.inr rfl, Or.inl rfl, Or.inr rfl, Or.inr rfl, Or.inr rfl, Or.inr rfl, trivial⟩ ?_
  exact hb6 x2 x3 x4 (x5 + 1)
set_option maxHeartbeats 8000000 in
set_option maxRecDepth 100000 in
theorem t_Readings_above_p6b (N d : Nat) (xs : List Int32) (c : St) (r : St) (kb6 : Int32 → Int32 → Int32 → Int32 → Option (Int32)) (hb6 : ∀ (x2 : Int32) (x3 : Int32) (x4 : Int32) (x5 : Int32), Ok (mBig (mRoL xs) (d + 2)) (mRoL xs) 1 mK65 (fun p : Int32 => (some (.int p), HP c r)) (kb6 x2 x3 x4 x5) 6 [some (.ref 59), none, some (.int x2), some (.int x3), some (.int x4), some (.int x5)] [] (HP c r)) (x2 : Int32) (x3 : Int32) (x4 : Int32) (x5 : Int32) : Ok (mBig (mRoL xs) (d + 2)) (mRoL xs) 1 mK65 (fun p : Int32 => (some (.int p), HP c r)) (Readings_above_p6b N kb6 c x2 x3 x4 x5) 6 [some (.ref 59), none, some (.int x2), some (.int x3), some (.int x4), some (.int x5)] [] (HP c r) := by
  unfold Readings_above_p6b
  refine Ok_blk 3 (pc2 := (if x2 < x5 then 43 else 12)) (lo2 := [some (.ref 59), none, some (.int x2), some (.int x3), some (.int x4), some (.int x5)]) (st2 := []) rfl ?_
  refine Ok_if (fun h1 => ?_) (fun h1 => ?_)
  · refine Ok_blk 1 (pc2 := 45) (lo2 := [some (.ref 59), none, some (.int x2), some (.int x3), some (.int x4), some (.int x5)]) (st2 := [.int x4]) rfl ?_
    exact Ok_ret rfl rfl rfl
  · refine Ok_blk 2 (pc2 := 15) (lo2 := [some (.ref 59), none, some (.int x2), some (.int x3), some (.int x4), some (.int x5)]) (st2 := [.int x5, .ref 59]) rfl ?_
    refine Ok_call (y := 63) (as := [.ref 59, .int x5]) (rest := []) (w := fun p2 => some (.int p2)) (h1 := fun p2 => HP c r) rfl rfl (fun x hx => tm_Readings_least N d xs c r x5 x hx) (fun p2 hp2 => ?_)
    refine Ok_blk 2 (pc2 := (if p2 ≤ x3 then 24 else 22)) (lo2 := [some (.ref 59), none, some (.int x2), some (.int x3), some (.int x4), some (.int x5)]) (st2 := []) rfl ?_
    refine Ok_if (fun h3 => ?_) (fun h3 => ?_)
    · refine Ok_blk 2 (pc2 := 27) (lo2 := [some (.ref 59), none, some (.int x2), some (.int x3), some (.int x4), some (.int x5)]) (st2 := [.int x5, .ref 59]) rfl ?_
      refine Ok_call (y := 64) (as := [.ref 59, .int x5]) (rest := []) (w := fun p4 => some (.int p4)) (h1 := fun p4 => HP c r) rfl rfl (fun x hx => tm_Readings_greatest N d xs c r x5 x hx) (fun p4 hp4 => ?_)
      refine Ok_blk 2 (pc2 := (if p4 ≤ x3 then 37 else 34)) (lo2 := [some (.ref 59), none, some (.int x2), some (.int x3), some (.int x4), some (.int x5)]) (st2 := []) rfl ?_
      refine Ok_if (fun h5 => ?_) (fun h5 => ?_)
      · refine Ok_drop (lo0 := [some (.ref 59), none, some (.int x2), some (.int x3), some (.int x4), some (.int x5)]) ⟨Or.inr rfl, Or.inl rfl, Or.inr rfl, Or.inr rfl, Or.inr rfl, Or.inr rfl, trivial⟩ ?_
        exact t_Readings_above_p37 N d xs c r kb6 hb6 x2 x3 x4 x5
      · refine Ok_blk 2 (pc2 := 37) (lo2 := [some (.ref 59), none, some (.int x2), some (.int x3), some (.int 1), some (.int x5)]) (st2 := []) rfl ?_
        refine Ok_drop (lo0 := [some (.ref 59), none, some (.int x2), some (.int x3), some (.int 1), some (.int x5)]) ⟨Or.inr rfl, Or.inl rfl, Or.inr rfl, Or.inr rfl, Or.inr rfl, Or.inr rfl, trivial⟩ ?_
        exact t_Readings_above_p37 N d xs c r kb6 hb6 x2 x3 1 x5
    · refine Ok_blk 1 (pc2 := 23) (lo2 := [some (.ref 59), none, some (.int x2), some (.int x3), some (.int x4), some (.int x5)]) (st2 := [.int 2]) rfl ?_
      exact Ok_ret rfl rfl rfl
set_option maxHeartbeats 8000000 in
set_option maxRecDepth 100000 in
theorem t_Readings_above_p6 (N d : Nat) (xs : List Int32) (c : St) (r : St) : ∀ (n : Nat) (x2 : Int32) (x3 : Int32) (x4 : Int32) (x5 : Int32), Ok (mBig (mRoL xs) (d + 2)) (mRoL xs) 1 mK65 (fun p : Int32 => (some (.int p), HP c r)) (Readings_above_p6 N c n x2 x3 x4 x5) 6 [some (.ref 59), none, some (.int x2), some (.int x3), some (.int x4), some (.int x5)] [] (HP c r) := by
  intro n
  induction n with
  | zero => intro x2 x3 x4 x5; exact Ok_none
  | succ n ih => intro x2 x3 x4 x5; exact t_Readings_above_p6b N d xs c r (Readings_above_p6 N c n) ih x2 x3 x4 x5
set_option maxHeartbeats 8000000 in
set_option maxRecDepth 100000 in
theorem t_Readings_above (N d : Nat) (xs : List Int32) (c : St) (r : St) (x1 : Int32) (x2 : Int32) (x3 : Int32) : Ok (mBig (mRoL xs) (d + 2)) (mRoL xs) 1 mK65 (fun p : Int32 => (some (.int p), HP c r)) (Readings_above N c x1 x2 x3) 0 [some (.ref 59), some (.int x1), some (.int x2), some (.int x3), none, none] [] (HP c r) := by
  unfold Readings_above
  refine Ok_blk 4 (pc2 := 6) (lo2 := [some (.ref 59), some (.int x1), some (.int x2), some (.int x3), some (.int 0), some (.int x1)]) (st2 := []) rfl ?_
  refine Ok_drop (lo0 := [some (.ref 59), none, some (.int x2), some (.int x3), some (.int 0), some (.int x1)]) ⟨Or.inr rfl, Or.inl rfl, Or.inr rfl, Or.inr rfl, Or.inr rfl, Or.inr rfl, trivial⟩ ?_
  exact t_Readings_above_p6 N d xs c r N x2 x3 0 x1
set_option maxHeartbeats 8000000 in
set_option maxRecDepth 100000 in
theorem tm_Readings_above (N d : Nat) (xs : List Int32) (c r : St) (a1 : Int32) (a2 : Int32) (a3 : Int32) (p : Int32) (hp : Readings_above N c a1 a2 a3 = some p) : mBig (mRoL xs) (d + 3) 65 [.ref 59, .int a1, .int a2, .int a3] (HP c r) (some (.int p)) (HP c r) 0 0 := mBig_of (by decide) rfl rfl rfl rfl (t_Readings_above N d xs c r a1 a2 a3 p hp)
/-! ColdHolds.was(III)I, from (('r', 0), 'i', 'i', 'i') -/
def C_was_p23 (N : Nat) (c : St) : Option (Int32) :=
  some (-102)
def C_was (N : Nat) (c : St) (x1 : Int32) (x2 : Int32) (x3 : Int32) : Option (Int32) :=
  (if x1 < 0 then C_was_p23 N c else (if x2 < x1 then C_was_p23 N c else (if 1200 < x2 then C_was_p23 N c else (C_isWarmth N x3).bind fun p4 => (if ¬ p4 = 0 then (Readings_agree N c).bind fun p6 => (if p6 = 0 then some (-1) else (Readings_above N c x1 x2 x3).bind fun p8 => some p8) else C_was_p23 N c))))
set_option maxHeartbeats 8000000 in
set_option maxRecDepth 100000 in
theorem t_C_was_p23 (N d : Nat) (xs : List Int32) (c : St) (r : St) : Ok (mBig (mRoL xs) (d + 3)) (mRoL xs) 1 mK135 (fun p : Int32 => (some (.int p), HP c r)) (C_was_p23 N c) 23 [none, none, none, none] [] (HP c r) := by
  unfold C_was_p23
  refine Ok_blk 1 (pc2 := 25) (lo2 := [none, none, none, none]) (st2 := [.int (-102)]) rfl ?_
  exact Ok_ret rfl rfl rfl
set_option maxHeartbeats 8000000 in
set_option maxRecDepth 100000 in
theorem t_C_was (N d : Nat) (xs : List Int32) (c : St) (r : St) (x1 : Int32) (x2 : Int32) (x3 : Int32) : Ok (mBig (mRoL xs) (d + 3)) (mRoL xs) 1 mK135 (fun p : Int32 => (some (.int p), HP c r)) (C_was N c x1 x2 x3) 0 [some (.ref 0), some (.int x1), some (.int x2), some (.int x3)] [] (HP c r) := by
  unfold C_was
  refine Ok_blk 2 (pc2 := (if x1 < 0 then 23 else 4)) (lo2 := [some (.ref 0), some (.int x1), some (.int x2), some (.int x3)]) (st2 := []) rfl ?_
  refine Ok_if (fun h1 => ?_) (fun h1 => ?_)
  · refine Ok_drop (lo0 := [none, none, none, none]) ⟨Or.inl rfl, Or.inl rfl, Or.inl rfl, Or.inl rfl, trivial⟩ ?_
    exact t_C_was_p23 N d xs c r
  · refine Ok_blk 3 (pc2 := (if x2 < x1 then 23 else 9)) (lo2 := [some (.ref 0), some (.int x1), some (.int x2), some (.int x3)]) (st2 := []) rfl ?_
    refine Ok_if (fun h2 => ?_) (fun h2 => ?_)
    · refine Ok_drop (lo0 := [none, none, none, none]) ⟨Or.inl rfl, Or.inl rfl, Or.inl rfl, Or.inl rfl, trivial⟩ ?_
      exact t_C_was_p23 N d xs c r
    · refine Ok_blk 3 (pc2 := (if 1200 < x2 then 23 else 16)) (lo2 := [some (.ref 0), some (.int x1), some (.int x2), some (.int x3)]) (st2 := []) rfl ?_
      refine Ok_if (fun h3 => ?_) (fun h3 => ?_)
      · refine Ok_drop (lo0 := [none, none, none, none]) ⟨Or.inl rfl, Or.inl rfl, Or.inl rfl, Or.inl rfl, trivial⟩ ?_
        exact t_C_was_p23 N d xs c r
      · refine Ok_blk 1 (pc2 := 17) (lo2 := [some (.ref 0), some (.int x1), some (.int x2), some (.int x3)]) (st2 := [.int x3]) rfl ?_
        refine Ok_call (y := 104) (as := [.int x3]) (rest := []) (w := fun p4 => some (.int p4)) (h1 := fun p4 => HP c r) rfl rfl (fun x hx => tm_C_isWarmth N (d + 1) xs c r x3 x hx) (fun p4 hp4 => ?_)
        refine Ok_blk 1 (pc2 := (if ¬ p4 = 0 then 26 else 23)) (lo2 := [some (.ref 0), some (.int x1), some (.int x2), some (.int x3)]) (st2 := []) rfl ?_
        refine Ok_if (fun h5 => ?_) (fun h5 => ?_)
        · refine Ok_blk 2 (pc2 := 30) (lo2 := [some (.ref 0), some (.int x1), some (.int x2), some (.int x3)]) (st2 := [.ref 59]) rfl ?_
          refine Ok_call (y := 62) (as := [.ref 59]) (rest := []) (w := fun p6 => some (.int p6)) (h1 := fun p6 => HP c r) rfl rfl (fun x hx => tm_Readings_agree N (d + 1) xs c r x hx) (fun p6 hp6 => ?_)
          refine Ok_blk 1 (pc2 := (if p6 = 0 then 49 else 36)) (lo2 := [some (.ref 0), some (.int x1), some (.int x2), some (.int x3)]) (st2 := []) rfl ?_
          refine Ok_if (fun h7 => ?_) (fun h7 => ?_)
          · refine Ok_blk 1 (pc2 := 50) (lo2 := [some (.ref 0), some (.int x1), some (.int x2), some (.int x3)]) (st2 := [.int (-1)]) rfl ?_
            exact Ok_ret rfl rfl rfl
          · refine Ok_blk 5 (pc2 := 43) (lo2 := [some (.ref 0), some (.int x1), some (.int x2), some (.int x3)]) (st2 := [.int x3, .int x2, .int x1, .ref 59]) rfl ?_
            refine Ok_call (y := 65) (as := [.ref 59, .int x1, .int x2, .int x3]) (rest := []) (w := fun p8 => some (.int p8)) (h1 := fun p8 => HP c r) rfl rfl (fun x hx => tm_Readings_above N d xs c r x1 x2 x3 x hx) (fun p8 hp8 => ?_)
            refine Ok_blk 1 (pc2 := 50) (lo2 := [some (.ref 0), some (.int x1), some (.int x2), some (.int x3)]) (st2 := [.int p8]) rfl ?_
            exact Ok_ret rfl rfl rfl
        · refine Ok_drop (lo0 := [none, none, none, none]) ⟨Or.inl rfl, Or.inl rfl, Or.inl rfl, Or.inl rfl, trivial⟩ ?_
          exact t_C_was_p23 N d xs c r
set_option maxHeartbeats 8000000 in
set_option maxRecDepth 100000 in
theorem tm_C_was (N d : Nat) (xs : List Int32) (c r : St) (a1 : Int32) (a2 : Int32) (a3 : Int32) (p : Int32) (hp : C_was N c a1 a2 a3 = some p) : mBig (mRoL xs) (d + 4) 135 [.ref 0, .int a1, .int a2, .int a3] (HP c r) (some (.int p)) (HP c r) 0 0 := mBig_of (by decide) rfl rfl rfl rfl (t_C_was N d xs c r a1 a2 a3 p hp)
/-! ColdHoldsModel.was(III)I, from (('r', 115), 'i', 'i', 'i') -/
def R_was_p35 (N : Nat) (r : St) : Option (Int32) :=
  some (-102)
def R_was_p106 (N : Nat) (kb53 : Int32 → Int32 → Int32 → Int32 → Option (Int32)) (r : St) (x2 : Int32) (x3 : Int32) (x5 : Int32) (s0 : Int32) : Option (Int32) :=
  kb53 x2 x3 s0 (x5 + 1)
def R_was_p90 (N : Nat) (kb53 : Int32 → Int32 → Int32 → Int32 → Option (Int32)) (r : St) (x2 : Int32) (x3 : Int32) (x4 : Int32) (x5 : Int32) (s0 : Int32) : Option (Int32) :=
  (if s0 ≤ x4 then R_was_p106 N kb53 r x2 x3 x5 x4 else R_was_p106 N kb53 r x2 x3 x5 s0)
def R_was_p53b (N : Nat) (kb53 : Int32 → Int32 → Int32 → Int32 → Option (Int32)) (r : St) (x2 : Int32) (x3 : Int32) (x4 : Int32) (x5 : Int32) : Option (Int32) :=
  (if x2 < x5 then some x4 else (R_couldBe N r x5 0).bind fun p10 => (if p10 ≤ x3 then (R_couldBe N r x5 1).bind fun p12 => (if p12 ≤ x3 then R_was_p90 N kb53 r x2 x3 x4 x5 0 else R_was_p90 N kb53 r x2 x3 x4 x5 1) else R_was_p90 N kb53 r x2 x3 x4 x5 2))
def R_was_p53 (N : Nat) (r : St) : Nat → Int32 → Int32 → Int32 → Int32 → Option (Int32)
  | 0 => fun _ _ _ _ => none
  | n + 1 => R_was_p53b N (R_was_p53 N r n) r
def R_was (N : Nat) (r : St) (x1 : Int32) (x2 : Int32) (x3 : Int32) : Option (Int32) :=
  (R_in N x1 0 1200).bind fun p1 => (if p1 = 0 then R_was_p35 N r else (R_in N x2 x1 1200).bind fun p3 => (if p3 = 0 then R_was_p35 N r else (R_in N x3 (-300) 600).bind fun p5 => (if ¬ p5 = 0 then (R_goTogether N r).bind fun p7 => (if ¬ p7 = 0 then R_was_p53 N r N x2 x3 0 x1 else some (-1)) else R_was_p35 N r)))
set_option maxHeartbeats 8000000 in
set_option maxRecDepth 100000 in
theorem t_R_was_p35 (N d : Nat) (xs : List Int32) (c : St) (r : St) : Ok (mBig (mRoL xs) (d + 3)) (mRoL xs) 1 mK213 (fun p : Int32 => (some (.int p), HP c r)) (R_was_p35 N r) 35 [none, none, none, none, none, none, none] [] (HP c r) := by
  unfold R_was_p35
  refine Ok_blk 1 (pc2 := 37) (lo2 := [none, none, none, none, none, none, none]) (st2 := [.int (-102)]) rfl ?_
  exact Ok_ret rfl rfl rfl
set_option maxHeartbeats 8000000 in
set_option maxRecDepth 100000 in
theorem t_R_was_p106 (N d : Nat) (xs : List Int32) (c : St) (r : St) (kb53 : Int32 → Int32 → Int32 → Int32 → Option (Int32)) (hb53 : ∀ (x2 : Int32) (x3 : Int32) (x4 : Int32) (x5 : Int32), Ok (mBig (mRoL xs) (d + 3)) (mRoL xs) 1 mK213 (fun p : Int32 => (some (.int p), HP c r)) (kb53 x2 x3 x4 x5) 53 [some (.ref 115), none, some (.int x2), some (.int x3), some (.int x4), some (.int x5), none] [] (HP c r)) (x2 : Int32) (x3 : Int32) (x5 : Int32) (s0 : Int32) : Ok (mBig (mRoL xs) (d + 3)) (mRoL xs) 1 mK213 (fun p : Int32 => (some (.int p), HP c r)) (R_was_p106 N kb53 r x2 x3 x5 s0) 106 [some (.ref 115), none, some (.int x2), some (.int x3), none, some (.int x5), none] [.int s0] (HP c r) := by
  unfold R_was_p106
  refine Ok_blk 3 (pc2 := 53) (lo2 := [some (.ref 115), none, some (.int x2), some (.int x3), some (.int s0), some (.int (x5 + 1)), none]) (st2 := []) rfl ?_
  refine Ok_drop (lo0 := [some (.ref 115), none, some (.int x2), some (.int x3), some (.int s0), some (.int (x5 + 1)), none]) ⟨Or.inr rfl, Or.inl rfl, Or.inr rfl, Or.inr rfl, Or.inr rfl, Or.inr rfl, Or.inl rfl, trivial⟩ ?_
  exact hb53 x2 x3 s0 (x5 + 1)
set_option maxHeartbeats 8000000 in
set_option maxRecDepth 100000 in
theorem t_R_was_p90 (N d : Nat) (xs : List Int32) (c : St) (r : St) (kb53 : Int32 → Int32 → Int32 → Int32 → Option (Int32)) (hb53 : ∀ (x2 : Int32) (x3 : Int32) (x4 : Int32) (x5 : Int32), Ok (mBig (mRoL xs) (d + 3)) (mRoL xs) 1 mK213 (fun p : Int32 => (some (.int p), HP c r)) (kb53 x2 x3 x4 x5) 53 [some (.ref 115), none, some (.int x2), some (.int x3), some (.int x4), some (.int x5), none] [] (HP c r)) (x2 : Int32) (x3 : Int32) (x4 : Int32) (x5 : Int32) (s0 : Int32) : Ok (mBig (mRoL xs) (d + 3)) (mRoL xs) 1 mK213 (fun p : Int32 => (some (.int p), HP c r)) (R_was_p90 N kb53 r x2 x3 x4 x5 s0) 90 [some (.ref 115), none, some (.int x2), some (.int x3), some (.int x4), some (.int x5), none] [.int s0] (HP c r) := by
  unfold R_was_p90
  refine Ok_blk 4 (pc2 := (if s0 ≤ x4 then 104 else 99)) (lo2 := [some (.ref 115), none, some (.int x2), some (.int x3), some (.int x4), some (.int x5), some (.int s0)]) (st2 := []) rfl ?_
  refine Ok_if (fun h14 => ?_) (fun h14 => ?_)
  · refine Ok_blk 1 (pc2 := 106) (lo2 := [some (.ref 115), none, some (.int x2), some (.int x3), some (.int x4), some (.int x5), some (.int s0)]) (st2 := [.int x4]) rfl ?_
    refine Ok_drop (lo0 := [some (.ref 115), none, some (.int x2), some (.int x3), none, some (.int x5), none]) ⟨Or.inr rfl, Or.inl rfl, Or.inr rfl, Or.inr rfl, Or.inl rfl, Or.inr rfl, Or.inl rfl, trivial⟩ ?_
    exact t_R_was_p106 N d xs c r kb53 hb53 x2 x3 x5 x4
  · refine Ok_blk 2 (pc2 := 106) (lo2 := [some (.ref 115), none, some (.int x2), some (.int x3), some (.int x4), some (.int x5), some (.int s0)]) (st2 := [.int s0]) rfl ?_
    refine Ok_drop (lo0 := [some (.ref 115), none, some (.int x2), some (.int x3), none, some (.int x5), none]) ⟨Or.inr rfl, Or.inl rfl, Or.inr rfl, Or.inr rfl, Or.inl rfl, Or.inr rfl, Or.inl rfl, trivial⟩ ?_
    exact t_R_was_p106 N d xs c r kb53 hb53 x2 x3 x5 s0
set_option maxHeartbeats 8000000 in
set_option maxRecDepth 100000 in
theorem t_R_was_p53b (N d : Nat) (xs : List Int32) (c : St) (r : St) (kb53 : Int32 → Int32 → Int32 → Int32 → Option (Int32)) (hb53 : ∀ (x2 : Int32) (x3 : Int32) (x4 : Int32) (x5 : Int32), Ok (mBig (mRoL xs) (d + 3)) (mRoL xs) 1 mK213 (fun p : Int32 => (some (.int p), HP c r)) (kb53 x2 x3 x4 x5) 53 [some (.ref 115), none, some (.int x2), some (.int x3), some (.int x4), some (.int x5), none] [] (HP c r)) (x2 : Int32) (x3 : Int32) (x4 : Int32) (x5 : Int32) : Ok (mBig (mRoL xs) (d + 3)) (mRoL xs) 1 mK213 (fun p : Int32 => (some (.int p), HP c r)) (R_was_p53b N kb53 r x2 x3 x4 x5) 53 [some (.ref 115), none, some (.int x2), some (.int x3), some (.int x4), some (.int x5), none] [] (HP c r) := by
  unfold R_was_p53b
  refine Ok_blk 3 (pc2 := (if x2 < x5 then 114 else 59)) (lo2 := [some (.ref 115), none, some (.int x2), some (.int x3), some (.int x4), some (.int x5), none]) (st2 := []) rfl ?_
  refine Ok_if (fun h9 => ?_) (fun h9 => ?_)
  · refine Ok_blk 1 (pc2 := 116) (lo2 := [some (.ref 115), none, some (.int x2), some (.int x3), some (.int x4), some (.int x5), none]) (st2 := [.int x4]) rfl ?_
    exact Ok_ret rfl rfl rfl
  · refine Ok_blk 3 (pc2 := 63) (lo2 := [some (.ref 115), none, some (.int x2), some (.int x3), some (.int x4), some (.int x5), none]) (st2 := [.int 0, .int x5, .ref 115]) rfl ?_
    refine Ok_call (y := 210) (as := [.ref 115, .int x5, .int 0]) (rest := []) (w := fun p10 => some (.int p10)) (h1 := fun p10 => HP c r) rfl rfl (fun x hx => tm_R_couldBe N (d + 1) xs c r x5 0 x hx) (fun p10 hp10 => ?_)
    refine Ok_blk 2 (pc2 := (if p10 ≤ x3 then 74 else 70)) (lo2 := [some (.ref 115), none, some (.int x2), some (.int x3), some (.int x4), some (.int x5), none]) (st2 := []) rfl ?_
    refine Ok_if (fun h11 => ?_) (fun h11 => ?_)
    · refine Ok_blk 3 (pc2 := 78) (lo2 := [some (.ref 115), none, some (.int x2), some (.int x3), some (.int x4), some (.int x5), none]) (st2 := [.int 1, .int x5, .ref 115]) rfl ?_
      refine Ok_call (y := 210) (as := [.ref 115, .int x5, .int 1]) (rest := []) (w := fun p12 => some (.int p12)) (h1 := fun p12 => HP c r) rfl rfl (fun x hx => tm_R_couldBe N (d + 1) xs c r x5 1 x hx) (fun p12 hp12 => ?_)
      refine Ok_blk 2 (pc2 := (if p12 ≤ x3 then 89 else 85)) (lo2 := [some (.ref 115), none, some (.int x2), some (.int x3), some (.int x4), some (.int x5), none]) (st2 := []) rfl ?_
      refine Ok_if (fun h13 => ?_) (fun h13 => ?_)
      · refine Ok_blk 1 (pc2 := 90) (lo2 := [some (.ref 115), none, some (.int x2), some (.int x3), some (.int x4), some (.int x5), none]) (st2 := [.int 0]) rfl ?_
        refine Ok_drop (lo0 := [some (.ref 115), none, some (.int x2), some (.int x3), some (.int x4), some (.int x5), none]) ⟨Or.inr rfl, Or.inl rfl, Or.inr rfl, Or.inr rfl, Or.inr rfl, Or.inr rfl, Or.inl rfl, trivial⟩ ?_
        exact t_R_was_p90 N d xs c r kb53 hb53 x2 x3 x4 x5 0
      · refine Ok_blk 2 (pc2 := 90) (lo2 := [some (.ref 115), none, some (.int x2), some (.int x3), some (.int x4), some (.int x5), none]) (st2 := [.int 1]) rfl ?_
        refine Ok_drop (lo0 := [some (.ref 115), none, some (.int x2), some (.int x3), some (.int x4), some (.int x5), none]) ⟨Or.inr rfl, Or.inl rfl, Or.inr rfl, Or.inr rfl, Or.inr rfl, Or.inr rfl, Or.inl rfl, trivial⟩ ?_
        exact t_R_was_p90 N d xs c r kb53 hb53 x2 x3 x4 x5 1
    · refine Ok_blk 2 (pc2 := 90) (lo2 := [some (.ref 115), none, some (.int x2), some (.int x3), some (.int x4), some (.int x5), none]) (st2 := [.int 2]) rfl ?_
      refine Ok_drop (lo0 := [some (.ref 115), none, some (.int x2), some (.int x3), some (.int x4), some (.int x5), none]) ⟨Or.inr rfl, Or.inl rfl, Or.inr rfl, Or.inr rfl, Or.inr rfl, Or.inr rfl, Or.inl rfl, trivial⟩ ?_
      exact t_R_was_p90 N d xs c r kb53 hb53 x2 x3 x4 x5 2
set_option maxHeartbeats 8000000 in
set_option maxRecDepth 100000 in
theorem t_R_was_p53 (N d : Nat) (xs : List Int32) (c : St) (r : St) : ∀ (n : Nat) (x2 : Int32) (x3 : Int32) (x4 : Int32) (x5 : Int32), Ok (mBig (mRoL xs) (d + 3)) (mRoL xs) 1 mK213 (fun p : Int32 => (some (.int p), HP c r)) (R_was_p53 N r n x2 x3 x4 x5) 53 [some (.ref 115), none, some (.int x2), some (.int x3), some (.int x4), some (.int x5), none] [] (HP c r) := by
  intro n
  induction n with
  | zero => intro x2 x3 x4 x5; exact Ok_none
  | succ n ih => intro x2 x3 x4 x5; exact t_R_was_p53b N d xs c r (R_was_p53 N r n) ih x2 x3 x4 x5
set_option maxHeartbeats 8000000 in
set_option maxRecDepth 100000 in
theorem t_R_was (N d : Nat) (xs : List Int32) (c : St) (r : St) (x1 : Int32) (x2 : Int32) (x3 : Int32) : Ok (mBig (mRoL xs) (d + 3)) (mRoL xs) 1 mK213 (fun p : Int32 => (some (.int p), HP c r)) (R_was N r x1 x2 x3) 0 [some (.ref 115), some (.int x1), some (.int x2), some (.int x3), none, none, none] [] (HP c r) := by
  unfold R_was
  refine Ok_blk 3 (pc2 := 5) (lo2 := [some (.ref 115), some (.int x1), some (.int x2), some (.int x3), none, none, none]) (st2 := [.int 1200, .int 0, .int x1]) rfl ?_
  refine Ok_call (y := 164) (as := [.int x1, .int 0, .int 1200]) (rest := []) (w := fun p1 => some (.int p1)) (h1 := fun p1 => HP c r) rfl rfl (fun x hx => tm_R_in N (d + 2) xs c r x1 0 1200 x hx) (fun p1 hp1 => ?_)
  refine Ok_blk 1 (pc2 := (if p1 = 0 then 35 else 11)) (lo2 := [some (.ref 115), some (.int x1), some (.int x2), some (.int x3), none, none, none]) (st2 := []) rfl ?_
  refine Ok_if (fun h2 => ?_) (fun h2 => ?_)
  · refine Ok_drop (lo0 := [none, none, none, none, none, none, none]) ⟨Or.inl rfl, Or.inl rfl, Or.inl rfl, Or.inl rfl, Or.inl rfl, Or.inl rfl, Or.inl rfl, trivial⟩ ?_
    exact t_R_was_p35 N d xs c r
  · refine Ok_blk 3 (pc2 := 16) (lo2 := [some (.ref 115), some (.int x1), some (.int x2), some (.int x3), none, none, none]) (st2 := [.int 1200, .int x1, .int x2]) rfl ?_
    refine Ok_call (y := 164) (as := [.int x2, .int x1, .int 1200]) (rest := []) (w := fun p3 => some (.int p3)) (h1 := fun p3 => HP c r) rfl rfl (fun x hx => tm_R_in N (d + 2) xs c r x2 x1 1200 x hx) (fun p3 hp3 => ?_)
    refine Ok_blk 1 (pc2 := (if p3 = 0 then 35 else 22)) (lo2 := [some (.ref 115), some (.int x1), some (.int x2), some (.int x3), none, none, none]) (st2 := []) rfl ?_
    refine Ok_if (fun h4 => ?_) (fun h4 => ?_)
    · refine Ok_drop (lo0 := [none, none, none, none, none, none, none]) ⟨Or.inl rfl, Or.inl rfl, Or.inl rfl, Or.inl rfl, Or.inl rfl, Or.inl rfl, Or.inl rfl, trivial⟩ ?_
      exact t_R_was_p35 N d xs c r
    · refine Ok_blk 3 (pc2 := 29) (lo2 := [some (.ref 115), some (.int x1), some (.int x2), some (.int x3), none, none, none]) (st2 := [.int 600, .int (-300), .int x3]) rfl ?_
      refine Ok_call (y := 164) (as := [.int x3, .int (-300), .int 600]) (rest := []) (w := fun p5 => some (.int p5)) (h1 := fun p5 => HP c r) rfl rfl (fun x hx => tm_R_in N (d + 2) xs c r x3 (-300) 600 x hx) (fun p5 hp5 => ?_)
      refine Ok_blk 1 (pc2 := (if ¬ p5 = 0 then 38 else 35)) (lo2 := [some (.ref 115), some (.int x1), some (.int x2), some (.int x3), none, none, none]) (st2 := []) rfl ?_
      refine Ok_if (fun h6 => ?_) (fun h6 => ?_)
      · refine Ok_blk 1 (pc2 := 39) (lo2 := [some (.ref 115), some (.int x1), some (.int x2), some (.int x3), none, none, none]) (st2 := [.ref 115]) rfl ?_
        refine Ok_call (y := 211) (as := [.ref 115]) (rest := []) (w := fun p7 => some (.int p7)) (h1 := fun p7 => HP c r) rfl rfl (fun x hx => tm_R_goTogether N d xs c r x hx) (fun p7 hp7 => ?_)
        refine Ok_blk 1 (pc2 := (if ¬ p7 = 0 then 47 else 45)) (lo2 := [some (.ref 115), some (.int x1), some (.int x2), some (.int x3), none, none, none]) (st2 := []) rfl ?_
        refine Ok_if (fun h8 => ?_) (fun h8 => ?_)
        · refine Ok_blk 4 (pc2 := 53) (lo2 := [some (.ref 115), some (.int x1), some (.int x2), some (.int x3), some (.int 0), some (.int x1), none]) (st2 := []) rfl ?_
          refine Ok_drop (lo0 := [some (.ref 115), none, some (.int x2), some (.int x3), some (.int 0), some (.int x1), none]) ⟨Or.inr rfl, Or.inl rfl, Or.inr rfl, Or.inr rfl, Or.inr rfl, Or.inr rfl, Or.inl rfl, trivial⟩ ?_
          exact t_R_was_p53 N d xs c r N x2 x3 0 x1
        · refine Ok_blk 1 (pc2 := 46) (lo2 := [some (.ref 115), some (.int x1), some (.int x2), some (.int x3), none, none, none]) (st2 := [.int (-1)]) rfl ?_
          exact Ok_ret rfl rfl rfl
      · refine Ok_drop (lo0 := [none, none, none, none, none, none, none]) ⟨Or.inl rfl, Or.inl rfl, Or.inl rfl, Or.inl rfl, Or.inl rfl, Or.inl rfl, Or.inl rfl, trivial⟩ ?_
        exact t_R_was_p35 N d xs c r
set_option maxHeartbeats 8000000 in
set_option maxRecDepth 100000 in
theorem tm_R_was (N d : Nat) (xs : List Int32) (c r : St) (a1 : Int32) (a2 : Int32) (a3 : Int32) (p : Int32) (hp : R_was N r a1 a2 a3 = some p) : mBig (mRoL xs) (d + 4) 213 [.ref 115, .int a1, .int a2, .int a3] (HP c r) (some (.int p)) (HP c r) 0 0 := mBig_of (by decide) rfl rfl rfl rfl (t_R_was N d xs c r a1 a2 a3 p hp)
/-! ColdHolds$Stacks.add(I)I, from (('r', 62), 'i') -/
def Stacks_add (N : Nat) (c : St) (x1 : Int32) : Option (Int32 × St) :=
  (if (gI c 17) < 8 then (sto (gA c 51) (gI c 17) x1).bind fun w2 => some (gI (sI (sA c 51 w2) 17 ((gI (sA c 51 w2) 17) + 1)) 17, sI (sA c 51 w2) 17 ((gI (sA c 51 w2) 17) + 1)) else some ((-104), c))
set_option maxHeartbeats 8000000 in
set_option maxRecDepth 100000 in
theorem t_Stacks_add (N d : Nat) (xs : List Int32) (r : St) (c : St) (x1 : Int32) : Ok (mBig (mRoL xs) (d)) (mRoL xs) 1 mK78 (fun p : Int32 × St => (some (.int p.1), HP p.2 r)) (Stacks_add N c x1) 0 [some (.ref 62), some (.int x1)] [] (HP c r) := by
  unfold Stacks_add
  refine Ok_blk 4 (pc2 := (if (gI c 17) < 8 then 12 else 9)) (lo2 := [some (.ref 62), some (.int x1)]) (st2 := []) rfl ?_
  refine Ok_if (fun h1 => ?_) (fun h1 => ?_)
  · refine Ok_blk 5 (pc2 := 21) (lo2 := [some (.ref 62), some (.int x1)]) (st2 := [.int x1, .int (gI c 17), .ref 63]) rfl ?_
    refine Ok_st (l := (gA c 51)) (hn := fun l' => HP (sA c 51 l') r) rfl rfl (fun l' => sa_63 _ _ l') (fun w2 hw2 => ?_)
    refine Ok_heap 6 (pc2 := 32) (lo2 := [some (.ref 62), some (.int x1)]) (st2 := []) (h2 := HP (sI (sA c 51 w2) 17 ((gI (sA c 51 w2) 17) + 1)) r) rfl (st_62_1 _ _ _) ?_
    refine Ok_blk 2 (pc2 := 36) (lo2 := [some (.ref 62), some (.int x1)]) (st2 := [.int (gI (sI (sA c 51 w2) 17 ((gI (sA c 51 w2) 17) + 1)) 17)]) rfl ?_
    exact Ok_ret rfl rfl rfl
  · refine Ok_blk 1 (pc2 := 11) (lo2 := [some (.ref 62), some (.int x1)]) (st2 := [.int (-104)]) rfl ?_
    exact Ok_ret rfl rfl rfl
set_option maxHeartbeats 8000000 in
set_option maxRecDepth 100000 in
theorem tm_Stacks_add (N d : Nat) (xs : List Int32) (c r : St) (a1 : Int32) (p : Int32 × St) (hp : Stacks_add N c a1 = some p) : mBig (mRoL xs) (d + 1) 78 [.ref 62, .int a1] (HP c r) (some (.int p.1)) (HP p.2 r) 0 0 := mBig_of (by decide) rfl rfl rfl rfl (t_Stacks_add N d xs r c a1 p hp)
/-! ColdHolds.arrive(I)I, from (('r', 0), 'i') -/
def C_arrive (N : Nat) (c : St) (x1 : Int32) : Option (Int32 × St) :=
  (C_within N x1 0 99).bind fun p1 => (if p1 = 0 then some ((-102), c) else (Stacks_add N c x1).bind fun p3 => some (p3.1, p3.2))
set_option maxHeartbeats 8000000 in
set_option maxRecDepth 100000 in
theorem t_C_arrive (N d : Nat) (xs : List Int32) (r : St) (c : St) (x1 : Int32) : Ok (mBig (mRoL xs) (d + 1)) (mRoL xs) 1 mK136 (fun p : Int32 × St => (some (.int p.1), HP p.2 r)) (C_arrive N c x1) 0 [some (.ref 0), some (.int x1)] [] (HP c r) := by
  unfold C_arrive
  refine Ok_blk 3 (pc2 := 4) (lo2 := [some (.ref 0), some (.int x1)]) (st2 := [.int 99, .int 0, .int x1]) rfl ?_
  refine Ok_call (y := 102) (as := [.int x1, .int 0, .int 99]) (rest := []) (w := fun p1 => some (.int p1)) (h1 := fun p1 => HP c r) rfl rfl (fun x hx => tm_C_within N d xs c r x1 0 99 x hx) (fun p1 hp1 => ?_)
  refine Ok_blk 1 (pc2 := (if p1 = 0 then 21 else 10)) (lo2 := [some (.ref 0), some (.int x1)]) (st2 := []) rfl ?_
  refine Ok_if (fun h2 => ?_) (fun h2 => ?_)
  · refine Ok_blk 1 (pc2 := 23) (lo2 := [some (.ref 0), some (.int x1)]) (st2 := [.int (-102)]) rfl ?_
    exact Ok_ret rfl rfl rfl
  · refine Ok_blk 3 (pc2 := 15) (lo2 := [some (.ref 0), some (.int x1)]) (st2 := [.int x1, .ref 62]) rfl ?_
    refine Ok_call (y := 78) (as := [.ref 62, .int x1]) (rest := []) (w := fun p3 => some (.int p3.1)) (h1 := fun p3 => HP p3.2 r) rfl rfl (fun x hx => tm_Stacks_add N d xs c r x1 x hx) (fun p3 hp3 => ?_)
    refine Ok_blk 1 (pc2 := 23) (lo2 := [some (.ref 0), some (.int x1)]) (st2 := [.int p3.1]) rfl ?_
    exact Ok_ret rfl rfl rfl
set_option maxHeartbeats 8000000 in
set_option maxRecDepth 100000 in
theorem tm_C_arrive (N d : Nat) (xs : List Int32) (c r : St) (a1 : Int32) (p : Int32 × St) (hp : C_arrive N c a1 = some p) : mBig (mRoL xs) (d + 2) 136 [.ref 0, .int a1] (HP c r) (some (.int p.1)) (HP p.2 r) 0 0 := mBig_of (by decide) rfl rfl rfl rfl (t_C_arrive N d xs r c a1 p hp)
/-! ColdHoldsModel.arrive(I)I, from (('r', 115), 'i') -/
def R_arrive (N : Nat) (r : St) (x1 : Int32) : Option (Int32 × St) :=
  (R_in N x1 0 99).bind fun p1 => (if ¬ p1 = 0 then (if ¬ (gI r 12) = 8 then (sto (gA r 15) (gI r 12) x1).bind fun w4 => some (gI (sI (sA r 15 w4) 12 ((gI (sA r 15 w4) 12) + 1)) 12, sI (sA r 15 w4) 12 ((gI (sA r 15 w4) 12) + 1)) else some ((-104), r)) else some ((-102), r))
set_option maxHeartbeats 8000000 in
set_option maxRecDepth 100000 in
theorem t_R_arrive (N d : Nat) (xs : List Int32) (c : St) (r : St) (x1 : Int32) : Ok (mBig (mRoL xs) (d + 1)) (mRoL xs) 1 mK214 (fun p : Int32 × St => (some (.int p.1), HP c p.2)) (R_arrive N r x1) 0 [some (.ref 115), some (.int x1)] [] (HP c r) := by
  unfold R_arrive
  refine Ok_blk 3 (pc2 := 4) (lo2 := [some (.ref 115), some (.int x1)]) (st2 := [.int 99, .int 0, .int x1]) rfl ?_
  refine Ok_call (y := 164) (as := [.int x1, .int 0, .int 99]) (rest := []) (w := fun p1 => some (.int p1)) (h1 := fun p1 => HP c r) rfl rfl (fun x hx => tm_R_in N d xs c r x1 0 99 x hx) (fun p1 hp1 => ?_)
  refine Ok_blk 1 (pc2 := (if ¬ p1 = 0 then 13 else 10)) (lo2 := [some (.ref 115), some (.int x1)]) (st2 := []) rfl ?_
  refine Ok_if (fun h2 => ?_) (fun h2 => ?_)
  · refine Ok_blk 4 (pc2 := (if ¬ (gI r 12) = 8 then 25 else 22)) (lo2 := [some (.ref 115), some (.int x1)]) (st2 := []) rfl ?_
    refine Ok_if (fun h3 => ?_) (fun h3 => ?_)
    · refine Ok_blk 5 (pc2 := 34) (lo2 := [some (.ref 115), some (.int x1)]) (st2 := [.int x1, .int (gI r 12), .ref 131]) rfl ?_
      refine Ok_st (l := (gA r 15)) (hn := fun l' => HP c (sA r 15 l')) rfl rfl (fun l' => sa_131 _ _ l') (fun w4 hw4 => ?_)
      refine Ok_heap 6 (pc2 := 45) (lo2 := [some (.ref 115), some (.int x1)]) (st2 := []) (h2 := HP c (sI (sA r 15 w4) 12 ((gI (sA r 15 w4) 12) + 1))) rfl (st_115_27 _ _ _) ?_
      refine Ok_blk 2 (pc2 := 49) (lo2 := [some (.ref 115), some (.int x1)]) (st2 := [.int (gI (sI (sA r 15 w4) 12 ((gI (sA r 15 w4) 12) + 1)) 12)]) rfl ?_
      exact Ok_ret rfl rfl rfl
    · refine Ok_blk 1 (pc2 := 24) (lo2 := [some (.ref 115), some (.int x1)]) (st2 := [.int (-104)]) rfl ?_
      exact Ok_ret rfl rfl rfl
  · refine Ok_blk 1 (pc2 := 12) (lo2 := [some (.ref 115), some (.int x1)]) (st2 := [.int (-102)]) rfl ?_
    exact Ok_ret rfl rfl rfl
set_option maxHeartbeats 8000000 in
set_option maxRecDepth 100000 in
theorem tm_R_arrive (N d : Nat) (xs : List Int32) (c r : St) (a1 : Int32) (p : Int32 × St) (hp : R_arrive N r a1 = some p) : mBig (mRoL xs) (d + 2) 214 [.ref 115, .int a1] (HP c r) (some (.int p.1)) (HP c p.2) 0 0 := mBig_of (by decide) rfl rfl rfl rfl (t_R_arrive N d xs c r a1 p hp)
/-! ColdHolds$Stacks.stackOf(I)I, from (('r', 62), 'i') -/
def Stacks_stackOf (N : Nat) (c : St) (x1 : Int32) : Option (Int32) :=
  (if (gI c 17) ≤ x1 then some (-1) else (ld (gA c 54) x1).bind fun y2 => some y2)
set_option maxHeartbeats 8000000 in
set_option maxRecDepth 100000 in
theorem t_Stacks_stackOf (N d : Nat) (xs : List Int32) (c : St) (r : St) (x1 : Int32) : Ok (mBig (mRoL xs) (d)) (mRoL xs) 1 mK79 (fun p : Int32 => (some (.int p), HP c r)) (Stacks_stackOf N c x1) 0 [some (.ref 62), some (.int x1)] [] (HP c r) := by
  unfold Stacks_stackOf
  refine Ok_blk 4 (pc2 := (if (gI c 17) ≤ x1 then 17 else 8)) (lo2 := [some (.ref 62), some (.int x1)]) (st2 := []) rfl ?_
  refine Ok_if (fun h1 => ?_) (fun h1 => ?_)
  · refine Ok_blk 1 (pc2 := 18) (lo2 := [some (.ref 62), some (.int x1)]) (st2 := [.int (-1)]) rfl ?_
    exact Ok_ret rfl rfl rfl
  · refine Ok_blk 3 (pc2 := 13) (lo2 := [some (.ref 62), some (.int x1)]) (st2 := [.int x1, .ref 66]) rfl ?_
    refine Ok_ld (l := (gA c 54)) rfl rfl (fun y2 hy2 => ?_)
    refine Ok_blk 1 (pc2 := 18) (lo2 := [some (.ref 62), some (.int x1)]) (st2 := [.int y2]) rfl ?_
    exact Ok_ret rfl rfl rfl
set_option maxHeartbeats 8000000 in
set_option maxRecDepth 100000 in
theorem tm_Stacks_stackOf (N d : Nat) (xs : List Int32) (c r : St) (a1 : Int32) (p : Int32) (hp : Stacks_stackOf N c a1 = some p) : mBig (mRoL xs) (d + 1) 79 [.ref 62, .int a1] (HP c r) (some (.int p)) (HP c r) 0 0 := mBig_of (by decide) rfl rfl rfl rfl (t_Stacks_stackOf N d xs c r a1 p hp)
/-! java/lang/Integer.bitCount(I)I, from ('i',) -/
def J_bitCount (N : Nat) (x0 : Int32) : Option (Int32) :=
  some ((((((((x0 - (((x0.toUInt32 >>> ((1 : Int32).toUInt32 &&& Int32.toUInt32 31)).toInt32) &&& 1431655765)) &&& 858993459) + ((((x0 - (((x0.toUInt32 >>> ((1 : Int32).toUInt32 &&& Int32.toUInt32 31)).toInt32) &&& 1431655765)).toUInt32 >>> ((2 : Int32).toUInt32 &&& Int32.toUInt32 31)).toInt32) &&& 858993459)) + (((((x0 - (((x0.toUInt32 >>> ((1 : Int32).toUInt32 &&& Int32.toUInt32 31)).toInt32) &&& 1431655765)) &&& 858993459) + ((((x0 - (((x0.toUInt32 >>> ((1 : Int32).toUInt32 &&& Int32.toUInt32 31)).toInt32) &&& 1431655765)).toUInt32 >>> ((2 : Int32).toUInt32 &&& Int32.toUInt32 31)).toInt32) &&& 858993459)).toUInt32 >>> ((4 : Int32).toUInt32 &&& Int32.toUInt32 31)).toInt32)) &&& 252645135) + (((((((x0 - (((x0.toUInt32 >>> ((1 : Int32).toUInt32 &&& Int32.toUInt32 31)).toInt32) &&& 1431655765)) &&& 858993459) + ((((x0 - (((x0.toUInt32 >>> ((1 : Int32).toUInt32 &&& Int32.toUInt32 31)).toInt32) &&& 1431655765)).toUInt32 >>> ((2 : Int32).toUInt32 &&& Int32.toUInt32 31)).toInt32) &&& 858993459)) + (((((x0 - (((x0.toUInt32 >>> ((1 : Int32).toUInt32 &&& Int32.toUInt32 31)).toInt32) &&& 1431655765)) &&& 858993459) + ((((x0 - (((x0.toUInt32 >>> ((1 : Int32).toUInt32 &&& Int32.toUInt32 31)).toInt32) &&& 1431655765)).toUInt32 >>> ((2 : Int32).toUInt32 &&& Int32.toUInt32 31)).toInt32) &&& 858993459)).toUInt32 >>> ((4 : Int32).toUInt32 &&& Int32.toUInt32 31)).toInt32)) &&& 252645135).toUInt32 >>> ((8 : Int32).toUInt32 &&& Int32.toUInt32 31)).toInt32)) + ((((((((x0 - (((x0.toUInt32 >>> ((1 : Int32).toUInt32 &&& Int32.toUInt32 31)).toInt32) &&& 1431655765)) &&& 858993459) + ((((x0 - (((x0.toUInt32 >>> ((1 : Int32).toUInt32 &&& Int32.toUInt32 31)).toInt32) &&& 1431655765)).toUInt32 >>> ((2 : Int32).toUInt32 &&& Int32.toUInt32 31)).toInt32) &&& 858993459)) + (((((x0 - (((x0.toUInt32 >>> ((1 : Int32).toUInt32 &&& Int32.toUInt32 31)).toInt32) &&& 1431655765)) &&& 858993459) + ((((x0 - (((x0.toUInt32 >>> ((1 : Int32).toUInt32 &&& Int32.toUInt32 31)).toInt32) &&& 1431655765)).toUInt32 >>> ((2 : Int32).toUInt32 &&& Int32.toUInt32 31)).toInt32) &&& 858993459)).toUInt32 >>> ((4 : Int32).toUInt32 &&& Int32.toUInt32 31)).toInt32)) &&& 252645135) + (((((((x0 - (((x0.toUInt32 >>> ((1 : Int32).toUInt32 &&& Int32.toUInt32 31)).toInt32) &&& 1431655765)) &&& 858993459) + ((((x0 - (((x0.toUInt32 >>> ((1 : Int32).toUInt32 &&& Int32.toUInt32 31)).toInt32) &&& 1431655765)).toUInt32 >>> ((2 : Int32).toUInt32 &&& Int32.toUInt32 31)).toInt32) &&& 858993459)) + (((((x0 - (((x0.toUInt32 >>> ((1 : Int32).toUInt32 &&& Int32.toUInt32 31)).toInt32) &&& 1431655765)) &&& 858993459) + ((((x0 - (((x0.toUInt32 >>> ((1 : Int32).toUInt32 &&& Int32.toUInt32 31)).toInt32) &&& 1431655765)).toUInt32 >>> ((2 : Int32).toUInt32 &&& Int32.toUInt32 31)).toInt32) &&& 858993459)).toUInt32 >>> ((4 : Int32).toUInt32 &&& Int32.toUInt32 31)).toInt32)) &&& 252645135).toUInt32 >>> ((8 : Int32).toUInt32 &&& Int32.toUInt32 31)).toInt32)).toUInt32 >>> ((16 : Int32).toUInt32 &&& Int32.toUInt32 31)).toInt32)) &&& 63)
set_option maxHeartbeats 8000000 in
set_option maxRecDepth 100000 in
theorem t_J_bitCount (N d : Nat) (xs : List Int32) (c : St) (r : St) (x0 : Int32) : Ok (mBig (mRoL xs) (d)) (mRoL xs) 1 mK258 (fun p : Int32 => (some (.int p), HP c r)) (J_bitCount N x0) 0 [some (.int x0)] [] (HP c r) := by
  unfold J_bitCount
  refine Ok_blk 41 (pc2 := 52) (lo2 := [some (.int (((((((x0 - (((x0.toUInt32 >>> ((1 : Int32).toUInt32 &&& Int32.toUInt32 31)).toInt32) &&& 1431655765)) &&& 858993459) + ((((x0 - (((x0.toUInt32 >>> ((1 : Int32).toUInt32 &&& Int32.toUInt32 31)).toInt32) &&& 1431655765)).toUInt32 >>> ((2 : Int32).toUInt32 &&& Int32.toUInt32 31)).toInt32) &&& 858993459)) + (((((x0 - (((x0.toUInt32 >>> ((1 : Int32).toUInt32 &&& Int32.toUInt32 31)).toInt32) &&& 1431655765)) &&& 858993459) + ((((x0 - (((x0.toUInt32 >>> ((1 : Int32).toUInt32 &&& Int32.toUInt32 31)).toInt32) &&& 1431655765)).toUInt32 >>> ((2 : Int32).toUInt32 &&& Int32.toUInt32 31)).toInt32) &&& 858993459)).toUInt32 >>> ((4 : Int32).toUInt32 &&& Int32.toUInt32 31)).toInt32)) &&& 252645135) + (((((((x0 - (((x0.toUInt32 >>> ((1 : Int32).toUInt32 &&& Int32.toUInt32 31)).toInt32) &&& 1431655765)) &&& 858993459) + ((((x0 - (((x0.toUInt32 >>> ((1 : Int32).toUInt32 &&& Int32.toUInt32 31)).toInt32) &&& 1431655765)).toUInt32 >>> ((2 : Int32).toUInt32 &&& Int32.toUInt32 31)).toInt32) &&& 858993459)) + (((((x0 - (((x0.toUInt32 >>> ((1 : Int32).toUInt32 &&& Int32.toUInt32 31)).toInt32) &&& 1431655765)) &&& 858993459) + ((((x0 - (((x0.toUInt32 >>> ((1 : Int32).toUInt32 &&& Int32.toUInt32 31)).toInt32) &&& 1431655765)).toUInt32 >>> ((2 : Int32).toUInt32 &&& Int32.toUInt32 31)).toInt32) &&& 858993459)).toUInt32 >>> ((4 : Int32).toUInt32 &&& Int32.toUInt32 31)).toInt32)) &&& 252645135).toUInt32 >>> ((8 : Int32).toUInt32 &&& Int32.toUInt32 31)).toInt32)) + ((((((((x0 - (((x0.toUInt32 >>> ((1 : Int32).toUInt32 &&& Int32.toUInt32 31)).toInt32) &&& 1431655765)) &&& 858993459) + ((((x0 - (((x0.toUInt32 >>> ((1 : Int32).toUInt32 &&& Int32.toUInt32 31)).toInt32) &&& 1431655765)).toUInt32 >>> ((2 : Int32).toUInt32 &&& Int32.toUInt32 31)).toInt32) &&& 858993459)) + (((((x0 - (((x0.toUInt32 >>> ((1 : Int32).toUInt32 &&& Int32.toUInt32 31)).toInt32) &&& 1431655765)) &&& 858993459) + ((((x0 - (((x0.toUInt32 >>> ((1 : Int32).toUInt32 &&& Int32.toUInt32 31)).toInt32) &&& 1431655765)).toUInt32 >>> ((2 : Int32).toUInt32 &&& Int32.toUInt32 31)).toInt32) &&& 858993459)).toUInt32 >>> ((4 : Int32).toUInt32 &&& Int32.toUInt32 31)).toInt32)) &&& 252645135) + (((((((x0 - (((x0.toUInt32 >>> ((1 : Int32).toUInt32 &&& Int32.toUInt32 31)).toInt32) &&& 1431655765)) &&& 858993459) + ((((x0 - (((x0.toUInt32 >>> ((1 : Int32).toUInt32 &&& Int32.toUInt32 31)).toInt32) &&& 1431655765)).toUInt32 >>> ((2 : Int32).toUInt32 &&& Int32.toUInt32 31)).toInt32) &&& 858993459)) + (((((x0 - (((x0.toUInt32 >>> ((1 : Int32).toUInt32 &&& Int32.toUInt32 31)).toInt32) &&& 1431655765)) &&& 858993459) + ((((x0 - (((x0.toUInt32 >>> ((1 : Int32).toUInt32 &&& Int32.toUInt32 31)).toInt32) &&& 1431655765)).toUInt32 >>> ((2 : Int32).toUInt32 &&& Int32.toUInt32 31)).toInt32) &&& 858993459)).toUInt32 >>> ((4 : Int32).toUInt32 &&& Int32.toUInt32 31)).toInt32)) &&& 252645135).toUInt32 >>> ((8 : Int32).toUInt32 &&& Int32.toUInt32 31)).toInt32)).toUInt32 >>> ((16 : Int32).toUInt32 &&& Int32.toUInt32 31)).toInt32)))]) (st2 := [.int ((((((((x0 - (((x0.toUInt32 >>> ((1 : Int32).toUInt32 &&& Int32.toUInt32 31)).toInt32) &&& 1431655765)) &&& 858993459) + ((((x0 - (((x0.toUInt32 >>> ((1 : Int32).toUInt32 &&& Int32.toUInt32 31)).toInt32) &&& 1431655765)).toUInt32 >>> ((2 : Int32).toUInt32 &&& Int32.toUInt32 31)).toInt32) &&& 858993459)) + (((((x0 - (((x0.toUInt32 >>> ((1 : Int32).toUInt32 &&& Int32.toUInt32 31)).toInt32) &&& 1431655765)) &&& 858993459) + ((((x0 - (((x0.toUInt32 >>> ((1 : Int32).toUInt32 &&& Int32.toUInt32 31)).toInt32) &&& 1431655765)).toUInt32 >>> ((2 : Int32).toUInt32 &&& Int32.toUInt32 31)).toInt32) &&& 858993459)).toUInt32 >>> ((4 : Int32).toUInt32 &&& Int32.toUInt32 31)).toInt32)) &&& 252645135) + (((((((x0 - (((x0.toUInt32 >>> ((1 : Int32).toUInt32 &&& Int32.toUInt32 31)).toInt32) &&& 1431655765)) &&& 858993459) + ((((x0 - (((x0.toUInt32 >>> ((1 : Int32).toUInt32 &&& Int32.toUInt32 31)).toInt32) &&& 1431655765)).toUInt32 >>> ((2 : Int32).toUInt32 &&& Int32.toUInt32 31)).toInt32) &&& 858993459)) + (((((x0 - (((x0.toUInt32 >>> ((1 : Int32).toUInt32 &&& Int32.toUInt32 31)).toInt32) &&& 1431655765)) &&& 858993459) + ((((x0 - (((x0.toUInt32 >>> ((1 : Int32).toUInt32 &&& Int32.toUInt32 31)).toInt32) &&& 1431655765)).toUInt32 >>> ((2 : Int32).toUInt32 &&& Int32.toUInt32 31)).toInt32) &&& 858993459)).toUInt32 >>> ((4 : Int32).toUInt32 &&& Int32.toUInt32 31)).toInt32)) &&& 252645135).toUInt32 >>> ((8 : Int32).toUInt32 &&& Int32.toUInt32 31)).toInt32)) + ((((((((x0 - (((x0.toUInt32 >>> ((1 : Int32).toUInt32 &&& Int32.toUInt32 31)).toInt32) &&& 1431655765)) &&& 858993459) + ((((x0 - (((x0.toUInt32 >>> ((1 : Int32).toUInt32 &&& Int32.toUInt32 31)).toInt32) &&& 1431655765)).toUInt32 >>> ((2 : Int32).toUInt32 &&& Int32.toUInt32 31)).toInt32) &&& 858993459)) + (((((x0 - (((x0.toUInt32 >>> ((1 : Int32).toUInt32 &&& Int32.toUInt32 31)).toInt32) &&& 1431655765)) &&& 858993459) + ((((x0 - (((x0.toUInt32 >>> ((1 : Int32).toUInt32 &&& Int32.toUInt32 31)).toInt32) &&& 1431655765)).toUInt32 >>> ((2 : Int32).toUInt32 &&& Int32.toUInt32 31)).toInt32) &&& 858993459)).toUInt32 >>> ((4 : Int32).toUInt32 &&& Int32.toUInt32 31)).toInt32)) &&& 252645135) + (((((((x0 - (((x0.toUInt32 >>> ((1 : Int32).toUInt32 &&& Int32.toUInt32 31)).toInt32) &&& 1431655765)) &&& 858993459) + ((((x0 - (((x0.toUInt32 >>> ((1 : Int32).toUInt32 &&& Int32.toUInt32 31)).toInt32) &&& 1431655765)).toUInt32 >>> ((2 : Int32).toUInt32 &&& Int32.toUInt32 31)).toInt32) &&& 858993459)) + (((((x0 - (((x0.toUInt32 >>> ((1 : Int32).toUInt32 &&& Int32.toUInt32 31)).toInt32) &&& 1431655765)) &&& 858993459) + ((((x0 - (((x0.toUInt32 >>> ((1 : Int32).toUInt32 &&& Int32.toUInt32 31)).toInt32) &&& 1431655765)).toUInt32 >>> ((2 : Int32).toUInt32 &&& Int32.toUInt32 31)).toInt32) &&& 858993459)).toUInt32 >>> ((4 : Int32).toUInt32 &&& Int32.toUInt32 31)).toInt32)) &&& 252645135).toUInt32 >>> ((8 : Int32).toUInt32 &&& Int32.toUInt32 31)).toInt32)).toUInt32 >>> ((16 : Int32).toUInt32 &&& Int32.toUInt32 31)).toInt32)) &&& 63)]) rfl ?_
  exact Ok_ret rfl rfl rfl
set_option maxHeartbeats 8000000 in
set_option maxRecDepth 100000 in
theorem tm_J_bitCount (N d : Nat) (xs : List Int32) (c r : St) (a0 : Int32) (p : Int32) (hp : J_bitCount N a0 = some p) : mBig (mRoL xs) (d + 1) 258 [.int a0] (HP c r) (some (.int p)) (HP c r) 0 0 := mBig_of (by decide) rfl rfl rfl rfl (t_J_bitCount N d xs c r a0 p hp)
/-! ColdHolds$Stacks.dugFrom(I)I, from (('r', 62), 'i') -/
def Stacks_dugFrom_p45 (N : Nat) (kb4 : Int32 → Int32 → Int32 → Option (Int32)) (c : St) (x1 : Int32) (x2 : Int32) (x3 : Int32) : Option (Int32) :=
  kb4 x1 x2 (x3 + 1)
def Stacks_dugFrom_p4b (N : Nat) (kb4 : Int32 → Int32 → Int32 → Option (Int32)) (c : St) (x1 : Int32) (x2 : Int32) (x3 : Int32) : Option (Int32) :=
  (if x1 ≤ x3 then some x2 else (ld (gA c 53) x3).bind fun y2 => (ld (gA c 53) x1).bind fun y3 => (if ¬ y2 = y3 then Stacks_dugFrom_p45 N kb4 c x1 x2 x3 else (ld (gA c 51) x3).bind fun y5 => (ld (gA c 51) x1).bind fun y6 => (if y6 ≤ y5 then Stacks_dugFrom_p45 N kb4 c x1 x2 x3 else Stacks_dugFrom_p45 N kb4 c x1 (x2 ||| (1 <<< (x3 &&& 31))) x3)))
def Stacks_dugFrom_p4 (N : Nat) (c : St) : Nat → Int32 → Int32 → Int32 → Option (Int32)
  | 0 => fun _ _ _ => none
  | n + 1 => Stacks_dugFrom_p4b N (Stacks_dugFrom_p4 N c n) c
def Stacks_dugFrom (N : Nat) (c : St) (x1 : Int32) : Option (Int32) :=
  Stacks_dugFrom_p4 N c N x1 0 0
set_option maxHeartbeats 8000000 in
set_option maxRecDepth 100000 in
theorem t_Stacks_dugFrom_p45 (N d : Nat) (xs : List Int32) (c : St) (r : St) (kb4 : Int32 → Int32 → Int32 → Option (Int32)) (hb4 : ∀ (x1 : Int32) (x2 : Int32) (x3 : Int32), Ok (mBig (mRoL xs) (d)) (mRoL xs) 1 mK82 (fun p : Int32 => (some (.int p), HP c r)) (kb4 x1 x2 x3) 4 [some (.ref 62), some (.int x1), some (.int x2), some (.int x3)] [] (HP c r)) (x1 : Int32) (x2 : Int32) (x3 : Int32) : Ok (mBig (mRoL xs) (d)) (mRoL xs) 1 mK82 (fun p : Int32 => (some (.int p), HP c r)) (Stacks_dugFrom_p45 N kb4 c x1 x2 x3) 45 [some (.ref 62), some (.int x1), some (.int x2), some (.int x3)] [] (HP c r) := by
  unfold Stacks_dugFrom_p45
  refine Ok_blk 2 (pc2 := 4) (lo2 := [some (.ref 62), some (.int x1), some (.int x2), some (.int (x3 + 1))]) (st2 := []) rfl ?_
  refine Ok_drop (lo0 := [some (.ref 62), some (.int x1), some (.int x2), some (.int (x3 + 1))]) ⟨Or.inr rfl, Or.inr rfl, Or.inr rfl, Or.inr rfl, trivial⟩ ?_
  exact hb4 x1 x2 (x3 + 1)
set_option maxHeartbeats 8000000 in
set_option maxRecDepth 100000 in
theorem t_Stacks_dugFrom_p4b (N d : Nat) (xs : List Int32) (c : St) (r : St) (kb4 : Int32 → Int32 → Int32 → Option (Int32)) (hb4 : ∀ (x1 : Int32) (x2 : Int32) (x3 : Int32), Ok (mBig (mRoL xs) (d)) (mRoL xs) 1 mK82 (fun p : Int32 => (some (.int p), HP c r)) (kb4 x1 x2 x3) 4 [some (.ref 62), some (.int x1), some (.int x2), some (.int x3)] [] (HP c r)) (x1 : Int32) (x2 : Int32) (x3 : Int32) : Ok (mBig (mRoL xs) (d)) (mRoL xs) 1 mK82 (fun p : Int32 => (some (.int p), HP c r)) (Stacks_dugFrom_p4b N kb4 c x1 x2 x3) 4 [some (.ref 62), some (.int x1), some (.int x2), some (.int x3)] [] (HP c r) := by
  unfold Stacks_dugFrom_p4b
  refine Ok_blk 3 (pc2 := (if x1 ≤ x3 then 51 else 9)) (lo2 := [some (.ref 62), some (.int x1), some (.int x2), some (.int x3)]) (st2 := []) rfl ?_
  refine Ok_if (fun h1 => ?_) (fun h1 => ?_)
  · refine Ok_blk 1 (pc2 := 52) (lo2 := [some (.ref 62), some (.int x1), some (.int x2), some (.int x3)]) (st2 := [.int x2]) rfl ?_
    exact Ok_ret rfl rfl rfl
  · refine Ok_blk 3 (pc2 := 14) (lo2 := [some (.ref 62), some (.int x1), some (.int x2), some (.int x3)]) (st2 := [.int x3, .ref 65]) rfl ?_
    refine Ok_ld (l := (gA c 53)) rfl rfl (fun y2 hy2 => ?_)
    refine Ok_blk 3 (pc2 := 20) (lo2 := [some (.ref 62), some (.int x1), some (.int x2), some (.int x3)]) (st2 := [.int x1, .ref 65, .int y2]) rfl ?_
    refine Ok_ld (l := (gA c 53)) rfl rfl (fun y3 hy3 => ?_)
    refine Ok_blk 1 (pc2 := (if ¬ y2 = y3 then 45 else 24)) (lo2 := [some (.ref 62), some (.int x1), some (.int x2), some (.int x3)]) (st2 := []) rfl ?_
    refine Ok_if (fun h4 => ?_) (fun h4 => ?_)
    · refine Ok_drop (lo0 := [some (.ref 62), some (.int x1), some (.int x2), some (.int x3)]) ⟨Or.inr rfl, Or.inr rfl, Or.inr rfl, Or.inr rfl, trivial⟩ ?_
      exact t_Stacks_dugFrom_p45 N d xs c r kb4 hb4 x1 x2 x3
    · refine Ok_blk 3 (pc2 := 29) (lo2 := [some (.ref 62), some (.int x1), some (.int x2), some (.int x3)]) (st2 := [.int x3, .ref 63]) rfl ?_
      refine Ok_ld (l := (gA c 51)) rfl rfl (fun y5 hy5 => ?_)
      refine Ok_blk 3 (pc2 := 35) (lo2 := [some (.ref 62), some (.int x1), some (.int x2), some (.int x3)]) (st2 := [.int x1, .ref 63, .int y5]) rfl ?_
      refine Ok_ld (l := (gA c 51)) rfl rfl (fun y6 hy6 => ?_)
      refine Ok_blk 1 (pc2 := (if y6 ≤ y5 then 45 else 39)) (lo2 := [some (.ref 62), some (.int x1), some (.int x2), some (.int x3)]) (st2 := []) rfl ?_
      refine Ok_if (fun h7 => ?_) (fun h7 => ?_)
      · refine Ok_drop (lo0 := [some (.ref 62), some (.int x1), some (.int x2), some (.int x3)]) ⟨Or.inr rfl, Or.inr rfl, Or.inr rfl, Or.inr rfl, trivial⟩ ?_
        exact t_Stacks_dugFrom_p45 N d xs c r kb4 hb4 x1 x2 x3
      · refine Ok_blk 6 (pc2 := 45) (lo2 := [some (.ref 62), some (.int x1), some (.int (x2 ||| (1 <<< (x3 &&& 31)))), some (.int x3)]) (st2 := []) rfl ?_
        refine Ok_drop (lo0 := [some (.ref 62), some (.int x1), some (.int (x2 ||| (1 <<< (x3 &&& 31)))), some (.int x3)]) ⟨Or.inr rfl, Or.inr rfl, Or.inr rfl, Or.inr rfl, trivial⟩ ?_
        exact t_Stacks_dugFrom_p45 N d xs c r kb4 hb4 x1 (x2 ||| (1 <<< (x3 &&& 31))) x3
set_option maxHeartbeats 8000000 in
set_option maxRecDepth 100000 in
theorem t_Stacks_dugFrom_p4 (N d : Nat) (xs : List Int32) (c : St) (r : St) : ∀ (n : Nat) (x1 : Int32) (x2 : Int32) (x3 : Int32), Ok (mBig (mRoL xs) (d)) (mRoL xs) 1 mK82 (fun p : Int32 => (some (.int p), HP c r)) (Stacks_dugFrom_p4 N c n x1 x2 x3) 4 [some (.ref 62), some (.int x1), some (.int x2), some (.int x3)] [] (HP c r) := by
  intro n
  induction n with
  | zero => intro x1 x2 x3; exact Ok_none
  | succ n ih => intro x1 x2 x3; exact t_Stacks_dugFrom_p4b N d xs c r (Stacks_dugFrom_p4 N c n) ih x1 x2 x3
set_option maxHeartbeats 8000000 in
set_option maxRecDepth 100000 in
theorem t_Stacks_dugFrom (N d : Nat) (xs : List Int32) (c : St) (r : St) (x1 : Int32) : Ok (mBig (mRoL xs) (d)) (mRoL xs) 1 mK82 (fun p : Int32 => (some (.int p), HP c r)) (Stacks_dugFrom N c x1) 0 [some (.ref 62), some (.int x1), none, none] [] (HP c r) := by
  unfold Stacks_dugFrom
  refine Ok_blk 4 (pc2 := 4) (lo2 := [some (.ref 62), some (.int x1), some (.int 0), some (.int 0)]) (st2 := []) rfl ?_
  refine Ok_drop (lo0 := [some (.ref 62), some (.int x1), some (.int 0), some (.int 0)]) ⟨Or.inr rfl, Or.inr rfl, Or.inr rfl, Or.inr rfl, trivial⟩ ?_
  exact t_Stacks_dugFrom_p4 N d xs c r N x1 0 0
set_option maxHeartbeats 8000000 in
set_option maxRecDepth 100000 in
theorem tm_Stacks_dugFrom (N d : Nat) (xs : List Int32) (c r : St) (a1 : Int32) (p : Int32) (hp : Stacks_dugFrom N c a1 = some p) : mBig (mRoL xs) (d + 1) 82 [.ref 62, .int a1] (HP c r) (some (.int p)) (HP c r) 0 0 := mBig_of (by decide) rfl rfl rfl rfl (t_Stacks_dugFrom N d xs c r a1 p hp)
/-! ColdHolds$Stacks.place(LColdHolds$Stacks;III)V, from (('r', 62), 'i', 'i', 'i') -/
def Stacks_place_p134 (N : Nat) (rc : St → Int32 → Int32 → Int32 → Option (St)) (kb61 : St → Int32 → Int32 → Int32 → Int32 → Int32 → Option (St)) (c : St) (x1 : Int32) (x2 : Int32) (x3 : Int32) (x4 : Int32) (x5 : Int32) : Option (St) :=
  kb61 c x1 x2 x3 x4 (x5 + 1)
def Stacks_place_p61b (N : Nat) (rc : St → Int32 → Int32 → Int32 → Option (St)) (kb61 : St → Int32 → Int32 → Int32 → Int32 → Int32 → Option (St)) (c : St) (x1 : Int32) (x2 : Int32) (x3 : Int32) (x4 : Int32) (x5 : Int32) : Option (St) :=
  (if x4 ≤ x5 then some c else (ld (gA c 52) x5).bind fun y6 => (if (gI c 20) ≤ y6 then Stacks_place_p134 N rc kb61 c x1 x2 x3 x4 x5 else (ld (gA c 52) x5).bind fun y8 => (sto (gA c 52) x5 (y8 + 1)).bind fun w9 => (sto (gA (sA c 52 w9) 53) x1 x5).bind fun w10 => (J_max N x2 (x5 + 1)).bind fun p11 => (Stacks_dugFrom N (sA (sA c 52 w9) 53 w10) x1).bind fun p12 => (rc (sA (sA c 52 w9) 53 w10) (x1 + 1) p11 (x3 ||| p12)).bind fun p13 => (ld (gA p13 52) x5).bind fun y14 => (sto (gA p13 52) x5 (y14 - 1)).bind fun w15 => Stacks_place_p134 N rc kb61 (sA p13 52 w15) x1 x2 x3 x4 x5))
def Stacks_place_p61 (N : Nat) (rc : St → Int32 → Int32 → Int32 → Option (St)) : Nat → St → Int32 → Int32 → Int32 → Int32 → Int32 → Option (St)
  | 0 => fun _ _ _ _ _ _ => none
  | n + 1 => Stacks_place_p61b N rc (Stacks_place_p61 N rc n)
def Stacks_place_p0 (N : Nat) (rc : St → Int32 → Int32 → Int32 → Option (St)) (c : St) (x1 : Int32) (x2 : Int32) (x3 : Int32) : Option (St) :=
  (J_bitCount N x3).bind fun p1 => (if p1 < (gI c 18) then (if x1 < (gI c 17) then (J_min N (x2 + 1) (gI c 19)).bind fun p4 => Stacks_place_p61 N rc N c x1 x2 x3 p4 0 else (J_bitCount N x3).bind fun p16 => (cpy (gA (sI c 18 p16) 53) (gA (sI c 18 p16) 54) 0 0 (gI (sI c 18 p16) 17)).bind fun w17 => some (sA (sI c 18 p16) 54 w17)) else some c)
def Stacks_place (N : Nat) : Nat → St → Int32 → Int32 → Int32 → Option (St)
  | 0 => fun _ _ _ _ => none
  | D + 1 => Stacks_place_p0 N (Stacks_place N D)
set_option maxHeartbeats 8000000 in
set_option maxRecDepth 100000 in
theorem t_Stacks_place_p134 (N d D : Nat) (xs : List Int32) (r : St) (rc : St → Int32 → Int32 → Int32 → Option (St)) (hrc : ∀ (c : St) (a1 : Int32) (a2 : Int32) (a3 : Int32) (p : St), rc c a1 a2 a3 = some p → mBig (mRoL xs) (d + (D + 1) + 1) 81 [.ref 62, .int a1, .int a2, .int a3] (HP c r) (none) (HP p r) 0 0) (kb61 : St → Int32 → Int32 → Int32 → Int32 → Int32 → Option (St)) (hb61 : ∀ (c : St) (x1 : Int32) (x2 : Int32) (x3 : Int32) (x4 : Int32) (x5 : Int32), Ok (mBig (mRoL xs) (d + (D + 1) + 1)) (mRoL xs) 0 mK81 (fun p : St => (none, HP p r)) (kb61 c x1 x2 x3 x4 x5) 61 [some (.ref 62), some (.int x1), some (.int x2), some (.int x3), some (.int x4), some (.int x5)] [] (HP c r)) (c : St) (x1 : Int32) (x2 : Int32) (x3 : Int32) (x4 : Int32) (x5 : Int32) : Ok (mBig (mRoL xs) (d + (D + 1) + 1)) (mRoL xs) 0 mK81 (fun p : St => (none, HP p r)) (Stacks_place_p134 N rc kb61 c x1 x2 x3 x4 x5) 134 [some (.ref 62), some (.int x1), some (.int x2), some (.int x3), some (.int x4), some (.int x5)] [] (HP c r) := by
  unfold Stacks_place_p134
  refine Ok_blk 2 (pc2 := 61) (lo2 := [some (.ref 62), some (.int x1), some (.int x2), some (.int x3), some (.int x4), some (.int (x5 + 1))]) (st2 := []) rfl ?_
  refine Ok_drop (lo0 := [some (.ref 62), some (.int x1), some (.int x2), some (.int x3), some (.int x4), some (.int (x5 + 1))]) ⟨Or.inr rfl, Or.inr rfl, Or.inr rfl, Or.inr rfl, Or.inr rfl, Or.inr rfl, trivial⟩ ?_
  exact hb61 c x1 x2 x3 x4 (x5 + 1)
set_option maxHeartbeats 8000000 in
set_option maxRecDepth 100000 in
theorem t_Stacks_place_p61b (N d D : Nat) (xs : List Int32) (r : St) (rc : St → Int32 → Int32 → Int32 → Option (St)) (hrc : ∀ (c : St) (a1 : Int32) (a2 : Int32) (a3 : Int32) (p : St), rc c a1 a2 a3 = some p → mBig (mRoL xs) (d + (D + 1) + 1) 81 [.ref 62, .int a1, .int a2, .int a3] (HP c r) (none) (HP p r) 0 0) (kb61 : St → Int32 → Int32 → Int32 → Int32 → Int32 → Option (St)) (hb61 : ∀ (c : St) (x1 : Int32) (x2 : Int32) (x3 : Int32) (x4 : Int32) (x5 : Int32), Ok (mBig (mRoL xs) (d + (D + 1) + 1)) (mRoL xs) 0 mK81 (fun p : St => (none, HP p r)) (kb61 c x1 x2 x3 x4 x5) 61 [some (.ref 62), some (.int x1), some (.int x2), some (.int x3), some (.int x4), some (.int x5)] [] (HP c r)) (c : St) (x1 : Int32) (x2 : Int32) (x3 : Int32) (x4 : Int32) (x5 : Int32) : Ok (mBig (mRoL xs) (d + (D + 1) + 1)) (mRoL xs) 0 mK81 (fun p : St => (none, HP p r)) (Stacks_place_p61b N rc kb61 c x1 x2 x3 x4 x5) 61 [some (.ref 62), some (.int x1), some (.int x2), some (.int x3), some (.int x4), some (.int x5)] [] (HP c r) := by
  unfold Stacks_place_p61b
  refine Ok_blk 3 (pc2 := (if x4 ≤ x5 then 140 else 68)) (lo2 := [some (.ref 62), some (.int x1), some (.int x2), some (.int x3), some (.int x4), some (.int x5)]) (st2 := []) rfl ?_
  refine Ok_if (fun h5 => ?_) (fun h5 => ?_)
  · exact Ok_ret rfl rfl rfl
  · refine Ok_blk 3 (pc2 := 74) (lo2 := [some (.ref 62), some (.int x1), some (.int x2), some (.int x3), some (.int x4), some (.int x5)]) (st2 := [.int x5, .ref 64]) rfl ?_
    refine Ok_ld (l := (gA c 52)) rfl rfl (fun y6 hy6 => ?_)
    refine Ok_blk 3 (pc2 := (if (gI c 20) ≤ y6 then 134 else 82)) (lo2 := [some (.ref 62), some (.int x1), some (.int x2), some (.int x3), some (.int x4), some (.int x5)]) (st2 := []) rfl ?_
    refine Ok_if (fun h7 => ?_) (fun h7 => ?_)
    · refine Ok_drop (lo0 := [some (.ref 62), some (.int x1), some (.int x2), some (.int x3), some (.int x4), some (.int x5)]) ⟨Or.inr rfl, Or.inr rfl, Or.inr rfl, Or.inr rfl, Or.inr rfl, Or.inr rfl, trivial⟩ ?_
      exact t_Stacks_place_p134 N d D xs r rc hrc kb61 hb61 c x1 x2 x3 x4 x5
    · refine Ok_blk 4 (pc2 := 89) (lo2 := [some (.ref 62), some (.int x1), some (.int x2), some (.int x3), some (.int x4), some (.int x5)]) (st2 := [.int x5, .ref 64, .int x5, .ref 64]) rfl ?_
      refine Ok_ld (l := (gA c 52)) rfl rfl (fun y8 hy8 => ?_)
      refine Ok_blk 2 (pc2 := 92) (lo2 := [some (.ref 62), some (.int x1), some (.int x2), some (.int x3), some (.int x4), some (.int x5)]) (st2 := [.int (y8 + 1), .int x5, .ref 64]) rfl ?_
      refine Ok_st (l := (gA c 52)) (hn := fun l' => HP (sA c 52 l') r) rfl rfl (fun l' => sa_64 _ _ l') (fun w9 hw9 => ?_)
      refine Ok_blk 4 (pc2 := 100) (lo2 := [some (.ref 62), some (.int x1), some (.int x2), some (.int x3), some (.int x4), some (.int x5)]) (st2 := [.int x5, .int x1, .ref 65]) rfl ?_
      refine Ok_st (l := (gA (sA c 52 w9) 53)) (hn := fun l' => HP (sA (sA c 52 w9) 53 l') r) rfl rfl (fun l' => sa_65 _ _ l') (fun w10 hw10 => ?_)
      refine Ok_blk 8 (pc2 := 110) (lo2 := [some (.ref 62), some (.int x1), some (.int x2), some (.int x3), some (.int x4), some (.int x5)]) (st2 := [.int (x5 + 1), .int x2, .int (x1 + 1), .ref 62]) rfl ?_
      refine Ok_call (y := 261) (as := [.int x2, .int (x5 + 1)]) (rest := [.int (x1 + 1), .ref 62]) (w := fun p11 => some (.int p11)) (h1 := fun p11 => HP (sA (sA c 52 w9) 53 w10) r) rfl rfl (fun x hx => tm_J_max N (d + (D + 1) + 0) xs (sA (sA c 52 w9) 53 w10) r x2 (x5 + 1) x hx) (fun p11 hp11 => ?_)
      refine Ok_blk 3 (pc2 := 116) (lo2 := [some (.ref 62), some (.int x1), some (.int x2), some (.int x3), some (.int x4), some (.int x5)]) (st2 := [.int x1, .ref 62, .int x3, .int p11, .int (x1 + 1), .ref 62]) rfl ?_
      refine Ok_call (y := 82) (as := [.ref 62, .int x1]) (rest := [.int x3, .int p11, .int (x1 + 1), .ref 62]) (w := fun p12 => some (.int p12)) (h1 := fun p12 => HP (sA (sA c 52 w9) 53 w10) r) rfl rfl (fun x hx => tm_Stacks_dugFrom N (d + (D + 1) + 0) xs (sA (sA c 52 w9) 53 w10) r x1 x hx) (fun p12 hp12 => ?_)
      refine Ok_blk 1 (pc2 := 120) (lo2 := [some (.ref 62), some (.int x1), some (.int x2), some (.int x3), some (.int x4), some (.int x5)]) (st2 := [.int (x3 ||| p12), .int p11, .int (x1 + 1), .ref 62]) rfl ?_
      refine Ok_call (y := 81) (as := [.ref 62, .int (x1 + 1), .int p11, .int (x3 ||| p12)]) (rest := []) (w := fun p13 => none) (h1 := fun p13 => HP p13 r) rfl rfl (fun x hx => hrc (sA (sA c 52 w9) 53 w10) (x1 + 1) p11 (x3 ||| p12) x hx) (fun p13 hp13 => ?_)
      refine Ok_blk 4 (pc2 := 130) (lo2 := [some (.ref 62), some (.int x1), some (.int x2), some (.int x3), some (.int x4), some (.int x5)]) (st2 := [.int x5, .ref 64, .int x5, .ref 64]) rfl ?_
      refine Ok_ld (l := (gA p13 52)) rfl rfl (fun y14 hy14 => ?_)
      refine Ok_blk 2 (pc2 := 133) (lo2 := [some (.ref 62), some (.int x1), some (.int x2), some (.int x3), some (.int x4), some (.int x5)]) (st2 := [.int (y14 - 1), .int x5, .ref 64]) rfl ?_
      refine Ok_st (l := (gA p13 52)) (hn := fun l' => HP (sA p13 52 l') r) rfl rfl (fun l' => sa_64 _ _ l') (fun w15 hw15 => ?_)
      refine Ok_drop (lo0 := [some (.ref 62), some (.int x1), some (.int x2), some (.int x3), some (.int x4), some (.int x5)]) ⟨Or.inr rfl, Or.inr rfl, Or.inr rfl, Or.inr rfl, Or.inr rfl, Or.inr rfl, trivial⟩ ?_
      exact t_Stacks_place_p134 N d D xs r rc hrc kb61 hb61 (sA p13 52 w15) x1 x2 x3 x4 x5
set_option maxHeartbeats 8000000 in
set_option maxRecDepth 100000 in
theorem t_Stacks_place_p61 (N d D : Nat) (xs : List Int32) (r : St) (rc : St → Int32 → Int32 → Int32 → Option (St)) (hrc : ∀ (c : St) (a1 : Int32) (a2 : Int32) (a3 : Int32) (p : St), rc c a1 a2 a3 = some p → mBig (mRoL xs) (d + (D + 1) + 1) 81 [.ref 62, .int a1, .int a2, .int a3] (HP c r) (none) (HP p r) 0 0) : ∀ (n : Nat) (c : St) (x1 : Int32) (x2 : Int32) (x3 : Int32) (x4 : Int32) (x5 : Int32), Ok (mBig (mRoL xs) (d + (D + 1) + 1)) (mRoL xs) 0 mK81 (fun p : St => (none, HP p r)) (Stacks_place_p61 N rc n c x1 x2 x3 x4 x5) 61 [some (.ref 62), some (.int x1), some (.int x2), some (.int x3), some (.int x4), some (.int x5)] [] (HP c r) := by
  intro n
  induction n with
  | zero => intro c x1 x2 x3 x4 x5; exact Ok_none
  | succ n ih => intro c x1 x2 x3 x4 x5; exact t_Stacks_place_p61b N d D xs r rc hrc (Stacks_place_p61 N rc n) ih c x1 x2 x3 x4 x5
set_option maxHeartbeats 8000000 in
set_option maxRecDepth 100000 in
theorem t_Stacks_place_p0 (N d D : Nat) (xs : List Int32) (r : St) (rc : St → Int32 → Int32 → Int32 → Option (St)) (hrc : ∀ (c : St) (a1 : Int32) (a2 : Int32) (a3 : Int32) (p : St), rc c a1 a2 a3 = some p → mBig (mRoL xs) (d + (D + 1) + 1) 81 [.ref 62, .int a1, .int a2, .int a3] (HP c r) (none) (HP p r) 0 0) (c : St) (x1 : Int32) (x2 : Int32) (x3 : Int32) : Ok (mBig (mRoL xs) (d + (D + 1) + 1)) (mRoL xs) 0 mK81 (fun p : St => (none, HP p r)) (Stacks_place_p0 N rc c x1 x2 x3) 0 [some (.ref 62), some (.int x1), some (.int x2), some (.int x3), none, none] [] (HP c r) := by
  unfold Stacks_place_p0
  refine Ok_blk 1 (pc2 := 1) (lo2 := [some (.ref 62), some (.int x1), some (.int x2), some (.int x3), none, none]) (st2 := [.int x3]) rfl ?_
  refine Ok_call (y := 258) (as := [.int x3]) (rest := []) (w := fun p1 => some (.int p1)) (h1 := fun p1 => HP c r) rfl rfl (fun x hx => tm_J_bitCount N (d + (D + 1) + 0) xs c r x3 x hx) (fun p1 hp1 => ?_)
  refine Ok_blk 3 (pc2 := (if p1 < (gI c 18) then 12 else 11)) (lo2 := [some (.ref 62), some (.int x1), some (.int x2), some (.int x3), none, none]) (st2 := []) rfl ?_
  refine Ok_if (fun h2 => ?_) (fun h2 => ?_)
  · refine Ok_blk 4 (pc2 := (if x1 < (gI c 17) then 46 else 20)) (lo2 := [some (.ref 62), some (.int x1), some (.int x2), some (.int x3), none, none]) (st2 := []) rfl ?_
    refine Ok_if (fun h3 => ?_) (fun h3 => ?_)
    · refine Ok_blk 5 (pc2 := 53) (lo2 := [some (.ref 62), some (.int x1), some (.int x2), some (.int x3), none, none]) (st2 := [.int (gI c 19), .int (x2 + 1)]) rfl ?_
      refine Ok_call (y := 262) (as := [.int (x2 + 1), .int (gI c 19)]) (rest := []) (w := fun p4 => some (.int p4)) (h1 := fun p4 => HP c r) rfl rfl (fun x hx => tm_J_min N (d + (D + 1) + 0) xs c r (x2 + 1) (gI c 19) x hx) (fun p4 hp4 => ?_)
      refine Ok_blk 3 (pc2 := 61) (lo2 := [some (.ref 62), some (.int x1), some (.int x2), some (.int x3), some (.int p4), some (.int 0)]) (st2 := []) rfl ?_
      refine Ok_drop (lo0 := [some (.ref 62), some (.int x1), some (.int x2), some (.int x3), some (.int p4), some (.int 0)]) ⟨Or.inr rfl, Or.inr rfl, Or.inr rfl, Or.inr rfl, Or.inr rfl, Or.inr rfl, trivial⟩ ?_
      exact t_Stacks_place_p61 N d D xs r rc hrc N c x1 x2 x3 p4 0
    · refine Ok_blk 2 (pc2 := 22) (lo2 := [some (.ref 62), some (.int x1), some (.int x2), some (.int x3), none, none]) (st2 := [.int x3, .ref 62]) rfl ?_
      refine Ok_call (y := 258) (as := [.int x3]) (rest := [.ref 62]) (w := fun p16 => some (.int p16)) (h1 := fun p16 => HP c r) rfl rfl (fun x hx => tm_J_bitCount N (d + (D + 1) + 0) xs c r x3 x hx) (fun p16 hp16 => ?_)
      refine Ok_heap 1 (pc2 := 28) (lo2 := [some (.ref 62), some (.int x1), some (.int x2), some (.int x3), none, none]) (st2 := []) (h2 := HP (sI c 18 p16) r) rfl (st_62_2 _ _ _) ?_
      refine Ok_blk 8 (pc2 := 42) (lo2 := [some (.ref 62), some (.int x1), some (.int x2), some (.int x3), none, none]) (st2 := [.int (gI (sI c 18 p16) 17), .int 0, .ref 66, .int 0, .ref 65]) rfl ?_
      refine Ok_cpy (f := (gA (sI c 18 p16) 53)) (g := (gA (sI c 18 p16) 54)) (hn := fun l' => HP (sA (sI c 18 p16) 54 l') r) rfl rfl rfl (Nat.le_of_ble_eq_true rfl) (fun l' => sa_66 _ _ l') (fun w17 hw17 => ?_)
      exact Ok_ret rfl rfl rfl
  · exact Ok_ret rfl rfl rfl
set_option maxHeartbeats 8000000 in
set_option maxRecDepth 100000 in
theorem tr_Stacks_place (N : Nat) (xs : List Int32) (r : St) : ∀ (D d : Nat) (c : St) (a1 : Int32) (a2 : Int32) (a3 : Int32) (p : St), Stacks_place N D c a1 a2 a3 = some p → mBig (mRoL xs) (d + D + 2) 81 [.ref 62, .int a1, .int a2, .int a3] (HP c r) (none) (HP p r) 0 0 := by
  intro D
  induction D with
  | zero => intro d c a1 a2 a3 p hp; cases hp
  | succ D ih => intro d c a1 a2 a3 p hp; exact mBig_of (d := d + (D + 1) + 1) (by decide) rfl rfl rfl rfl (t_Stacks_place_p0 N d D xs r (Stacks_place N D) (fun c a1 a2 a3 p hp => mCong (by omega) (ih d c a1 a2 a3 p hp)) c a1 a2 a3 p hp)
set_option maxHeartbeats 8000000 in
set_option maxRecDepth 100000 in
theorem tm_Stacks_place (N d : Nat) (xs : List Int32) (c r : St) (D : Nat) (a1 : Int32) (a2 : Int32) (a3 : Int32) (p : St) (hp : Stacks_place N D c a1 a2 a3 = some p) : mBig (mRoL xs) (d + D + 2) 81 [.ref 62, .int a1, .int a2, .int a3] (HP c r) (none) (HP p r) 0 0 := tr_Stacks_place N xs r D d c a1 a2 a3 p hp
/-! ColdHolds$Stacks.layBest(II)Z, from (('r', 62), 'i', 'i') -/
def Stacks_layBest (N : Nat) (c : St) (x1 : Int32) (x2 : Int32) : Option (Int32 × St) :=
  (Stacks_place N 10 (sI (sI (sI c 19 x1) 20 x2) 18 ((gI (sI (sI c 19 x1) 20 x2) 17) + 1)) 0 0 0).bind fun p1 => (if (gI p1 17) < (gI p1 18) then some (0, p1) else some (1, p1))
set_option maxHeartbeats 8000000 in
set_option maxRecDepth 100000 in
theorem t_Stacks_layBest (N d : Nat) (xs : List Int32) (r : St) (c : St) (x1 : Int32) (x2 : Int32) : Ok (mBig (mRoL xs) (d + 12)) (mRoL xs) 2 mK80 (fun p : Int32 × St => (some (.int p.1), HP p.2 r)) (Stacks_layBest N c x1 x2) 0 [some (.ref 62), some (.int x1), some (.int x2)] [] (HP c r) := by
  unfold Stacks_layBest
  refine Ok_heap 3 (pc2 := 5) (lo2 := [some (.ref 62), some (.int x1), some (.int x2)]) (st2 := []) (h2 := HP (sI c 19 x1) r) rfl (st_62_3 _ _ _) ?_
  refine Ok_heap 3 (pc2 := 10) (lo2 := [some (.ref 62), some (.int x1), some (.int x2)]) (st2 := []) (h2 := HP (sI (sI c 19 x1) 20 x2) r) rfl (st_62_4 _ _ _) ?_
  refine Ok_heap 6 (pc2 := 20) (lo2 := [some (.ref 62), some (.int x1), some (.int x2)]) (st2 := []) (h2 := HP (sI (sI (sI c 19 x1) 20 x2) 18 ((gI (sI (sI c 19 x1) 20 x2) 17) + 1)) r) rfl (st_62_2 _ _ _) ?_
  refine Ok_blk 4 (pc2 := 24) (lo2 := [some (.ref 62), some (.int x1), some (.int x2)]) (st2 := [.int 0, .int 0, .int 0, .ref 62]) rfl ?_
  refine Ok_call (y := 81) (as := [.ref 62, .int 0, .int 0, .int 0]) (rest := []) (w := fun p1 => none) (h1 := fun p1 => HP p1 r) rfl rfl (fun x hx => tm_Stacks_place N d xs (sI (sI (sI c 19 x1) 20 x2) 18 ((gI (sI (sI c 19 x1) 20 x2) 17) + 1)) r 10 0 0 0 x hx) (fun p1 hp1 => ?_)
  refine Ok_blk 5 (pc2 := (if (gI p1 17) < (gI p1 18) then 42 else 38)) (lo2 := [some (.ref 62), some (.int x1), some (.int x2)]) (st2 := []) rfl ?_
  refine Ok_if (fun h2 => ?_) (fun h2 => ?_)
  · refine Ok_blk 1 (pc2 := 43) (lo2 := [some (.ref 62), some (.int x1), some (.int x2)]) (st2 := [.int 0]) rfl ?_
    exact Ok_rez (Or.inl rfl) rfl rfl
  · refine Ok_blk 2 (pc2 := 43) (lo2 := [some (.ref 62), some (.int x1), some (.int x2)]) (st2 := [.int 1]) rfl ?_
    exact Ok_rez (Or.inr rfl) rfl rfl
set_option maxHeartbeats 8000000 in
set_option maxRecDepth 100000 in
theorem tm_Stacks_layBest (N d : Nat) (xs : List Int32) (c r : St) (a1 : Int32) (a2 : Int32) (p : Int32 × St) (hp : Stacks_layBest N c a1 a2 = some p) : mBig (mRoL xs) (d + 13) 80 [.ref 62, .int a1, .int a2] (HP c r) (some (.int p.1)) (HP p.2 r) 0 0 := mBig_of (by decide) rfl rfl rfl rfl (t_Stacks_layBest N d xs r c a1 a2 p hp)
/-! ColdHolds.laid(III)I, from (('r', 0), 'i', 'i', 'i') -/
def C_laid_p19 (N : Nat) (c : St) : Option (Int32 × St) :=
  some ((-102), c)
def C_laid_p40 (N : Nat) (c : St) (x1 : Int32) (x2 : Int32) (x3 : Int32) : Option (Int32 × St) :=
  (Stacks_layBest N c x1 x2).bind fun p6 => (if ¬ p6.1 = 0 then (if ¬ x3 = 0 then (Stacks_stackOf N p6.2 (x3 - 10)).bind fun p9 => some (p9, p6.2) else some (gI p6.2 18, p6.2)) else some ((-1), p6.2))
def C_laid (N : Nat) (c : St) (x1 : Int32) (x2 : Int32) (x3 : Int32) : Option (Int32 × St) :=
  (C_within N x1 1 4).bind fun p1 => (if p1 = 0 then C_laid_p19 N c else (C_within N x2 1 8).bind fun p3 => (if ¬ p3 = 0 then (if x3 = 0 then C_laid_p40 N c x1 x2 x3 else (C_within N x3 10 17).bind fun p10 => (if ¬ p10 = 0 then C_laid_p40 N c x1 x2 x3 else some ((-102), c))) else C_laid_p19 N c))
set_option maxHeartbeats 8000000 in
set_option maxRecDepth 100000 in
theorem t_C_laid_p19 (N d : Nat) (xs : List Int32) (r : St) (c : St) : Ok (mBig (mRoL xs) (d + 13)) (mRoL xs) 1 mK137 (fun p : Int32 × St => (some (.int p.1), HP p.2 r)) (C_laid_p19 N c) 19 [none, none, none, none] [] (HP c r) := by
  unfold C_laid_p19
  refine Ok_blk 1 (pc2 := 21) (lo2 := [none, none, none, none]) (st2 := [.int (-102)]) rfl ?_
  exact Ok_ret rfl rfl rfl
set_option maxHeartbeats 8000000 in
set_option maxRecDepth 100000 in
theorem t_C_laid_p40 (N d : Nat) (xs : List Int32) (r : St) (c : St) (x1 : Int32) (x2 : Int32) (x3 : Int32) : Ok (mBig (mRoL xs) (d + 13)) (mRoL xs) 1 mK137 (fun p : Int32 × St => (some (.int p.1), HP p.2 r)) (C_laid_p40 N c x1 x2 x3) 40 [some (.ref 0), some (.int x1), some (.int x2), some (.int x3)] [] (HP c r) := by
  unfold C_laid_p40
  refine Ok_blk 4 (pc2 := 46) (lo2 := [some (.ref 0), some (.int x1), some (.int x2), some (.int x3)]) (st2 := [.int x2, .int x1, .ref 62]) rfl ?_
  refine Ok_call (y := 80) (as := [.ref 62, .int x1, .int x2]) (rest := []) (w := fun p6 => some (.int p6.1)) (h1 := fun p6 => HP p6.2 r) rfl rfl (fun x hx => tm_Stacks_layBest N d xs c r x1 x2 x hx) (fun p6 hp6 => ?_)
  refine Ok_blk 1 (pc2 := (if ¬ p6.1 = 0 then 54 else 52)) (lo2 := [some (.ref 0), some (.int x1), some (.int x2), some (.int x3)]) (st2 := []) rfl ?_
  refine Ok_if (fun h7 => ?_) (fun h7 => ?_)
  · refine Ok_blk 2 (pc2 := (if ¬ x3 = 0 then 68 else 58)) (lo2 := [some (.ref 0), some (.int x1), some (.int x2), some (.int x3)]) (st2 := []) rfl ?_
    refine Ok_if (fun h8 => ?_) (fun h8 => ?_)
    · refine Ok_blk 5 (pc2 := 76) (lo2 := [some (.ref 0), some (.int x1), some (.int x2), some (.int x3)]) (st2 := [.int (x3 - 10), .ref 62]) rfl ?_
      refine Ok_call (y := 79) (as := [.ref 62, .int (x3 - 10)]) (rest := []) (w := fun p9 => some (.int p9)) (h1 := fun p9 => HP p6.2 r) rfl rfl (fun x hx => tm_Stacks_stackOf N (d + 12) xs p6.2 r (x3 - 10) x hx) (fun p9 hp9 => ?_)
      exact Ok_ret rfl rfl rfl
    · refine Ok_blk 4 (pc2 := 79) (lo2 := [some (.ref 0), some (.int x1), some (.int x2), some (.int x3)]) (st2 := [.int (gI p6.2 18)]) rfl ?_
      exact Ok_ret rfl rfl rfl
  · refine Ok_blk 1 (pc2 := 53) (lo2 := [some (.ref 0), some (.int x1), some (.int x2), some (.int x3)]) (st2 := [.int (-1)]) rfl ?_
    exact Ok_ret rfl rfl rfl
set_option maxHeartbeats 8000000 in
set_option maxRecDepth 100000 in
theorem t_C_laid (N d : Nat) (xs : List Int32) (r : St) (c : St) (x1 : Int32) (x2 : Int32) (x3 : Int32) : Ok (mBig (mRoL xs) (d + 13)) (mRoL xs) 1 mK137 (fun p : Int32 × St => (some (.int p.1), HP p.2 r)) (C_laid N c x1 x2 x3) 0 [some (.ref 0), some (.int x1), some (.int x2), some (.int x3)] [] (HP c r) := by
  unfold C_laid
  refine Ok_blk 3 (pc2 := 3) (lo2 := [some (.ref 0), some (.int x1), some (.int x2), some (.int x3)]) (st2 := [.int 4, .int 1, .int x1]) rfl ?_
  refine Ok_call (y := 102) (as := [.int x1, .int 1, .int 4]) (rest := []) (w := fun p1 => some (.int p1)) (h1 := fun p1 => HP c r) rfl rfl (fun x hx => tm_C_within N (d + 12) xs c r x1 1 4 x hx) (fun p1 hp1 => ?_)
  refine Ok_blk 1 (pc2 := (if p1 = 0 then 19 else 9)) (lo2 := [some (.ref 0), some (.int x1), some (.int x2), some (.int x3)]) (st2 := []) rfl ?_
  refine Ok_if (fun h2 => ?_) (fun h2 => ?_)
  · refine Ok_drop (lo0 := [none, none, none, none]) ⟨Or.inl rfl, Or.inl rfl, Or.inl rfl, Or.inl rfl, trivial⟩ ?_
    exact t_C_laid_p19 N d xs r c
  · refine Ok_blk 3 (pc2 := 13) (lo2 := [some (.ref 0), some (.int x1), some (.int x2), some (.int x3)]) (st2 := [.int 8, .int 1, .int x2]) rfl ?_
    refine Ok_call (y := 102) (as := [.int x2, .int 1, .int 8]) (rest := []) (w := fun p3 => some (.int p3)) (h1 := fun p3 => HP c r) rfl rfl (fun x hx => tm_C_within N (d + 12) xs c r x2 1 8 x hx) (fun p3 hp3 => ?_)
    refine Ok_blk 1 (pc2 := (if ¬ p3 = 0 then 22 else 19)) (lo2 := [some (.ref 0), some (.int x1), some (.int x2), some (.int x3)]) (st2 := []) rfl ?_
    refine Ok_if (fun h4 => ?_) (fun h4 => ?_)
    · refine Ok_blk 2 (pc2 := (if x3 = 0 then 40 else 26)) (lo2 := [some (.ref 0), some (.int x1), some (.int x2), some (.int x3)]) (st2 := []) rfl ?_
      refine Ok_if (fun h5 => ?_) (fun h5 => ?_)
      · refine Ok_drop (lo0 := [some (.ref 0), some (.int x1), some (.int x2), some (.int x3)]) ⟨Or.inr rfl, Or.inr rfl, Or.inr rfl, Or.inr rfl, trivial⟩ ?_
        exact t_C_laid_p40 N d xs r c x1 x2 x3
      · refine Ok_blk 3 (pc2 := 31) (lo2 := [some (.ref 0), some (.int x1), some (.int x2), some (.int x3)]) (st2 := [.int 17, .int 10, .int x3]) rfl ?_
        refine Ok_call (y := 102) (as := [.int x3, .int 10, .int 17]) (rest := []) (w := fun p10 => some (.int p10)) (h1 := fun p10 => HP c r) rfl rfl (fun x hx => tm_C_within N (d + 12) xs c r x3 10 17 x hx) (fun p10 hp10 => ?_)
        refine Ok_blk 1 (pc2 := (if ¬ p10 = 0 then 40 else 37)) (lo2 := [some (.ref 0), some (.int x1), some (.int x2), some (.int x3)]) (st2 := []) rfl ?_
        refine Ok_if (fun h11 => ?_) (fun h11 => ?_)
        · refine Ok_drop (lo0 := [some (.ref 0), some (.int x1), some (.int x2), some (.int x3)]) ⟨Or.inr rfl, Or.inr rfl, Or.inr rfl, Or.inr rfl, trivial⟩ ?_
          exact t_C_laid_p40 N d xs r c x1 x2 x3
        · refine Ok_blk 1 (pc2 := 39) (lo2 := [some (.ref 0), some (.int x1), some (.int x2), some (.int x3)]) (st2 := [.int (-102)]) rfl ?_
          exact Ok_ret rfl rfl rfl
    · refine Ok_drop (lo0 := [none, none, none, none]) ⟨Or.inl rfl, Or.inl rfl, Or.inl rfl, Or.inl rfl, trivial⟩ ?_
      exact t_C_laid_p19 N d xs r c
set_option maxHeartbeats 8000000 in
set_option maxRecDepth 100000 in
theorem tm_C_laid (N d : Nat) (xs : List Int32) (c r : St) (a1 : Int32) (a2 : Int32) (a3 : Int32) (p : Int32 × St) (hp : C_laid N c a1 a2 a3 = some p) : mBig (mRoL xs) (d + 14) 137 [.ref 0, .int a1, .int a2, .int a3] (HP c r) (some (.int p.1)) (HP p.2 r) 0 0 := mBig_of (by decide) rfl rfl rfl rfl (t_C_laid N d xs r c a1 a2 a3 p hp)
/-! ColdHoldsModel.ones(I)I, from ('i',) -/
def R_ones_p4b (N : Nat) (kb4 : Int32 → Int32 → Option (Int32)) (x1 : Int32) (x2 : Int32) : Option (Int32) :=
  (if x2 = 0 then some x1 else kb4 (x1 + 1) (x2 &&& (x2 - 1)))
def R_ones_p4 (N : Nat) : Nat → Int32 → Int32 → Option (Int32)
  | 0 => fun _ _ => none
  | n + 1 => R_ones_p4b N (R_ones_p4 N n)
def R_ones (N : Nat) (x0 : Int32) : Option (Int32) :=
  R_ones_p4 N N 0 x0
set_option maxHeartbeats 8000000 in
set_option maxRecDepth 100000 in
theorem t_R_ones_p4b (N d : Nat) (xs : List Int32) (c : St) (r : St) (kb4 : Int32 → Int32 → Option (Int32)) (hb4 : ∀ (x1 : Int32) (x2 : Int32), Ok (mBig (mRoL xs) (d)) (mRoL xs) 1 mK215 (fun p : Int32 => (some (.int p), HP c r)) (kb4 x1 x2) 4 [none, some (.int x1), some (.int x2)] [] (HP c r)) (x1 : Int32) (x2 : Int32) : Ok (mBig (mRoL xs) (d)) (mRoL xs) 1 mK215 (fun p : Int32 => (some (.int p), HP c r)) (R_ones_p4b N kb4 x1 x2) 4 [none, some (.int x1), some (.int x2)] [] (HP c r) := by
  unfold R_ones_p4b
  refine Ok_blk 2 (pc2 := (if x2 = 0 then 20 else 8)) (lo2 := [none, some (.int x1), some (.int x2)]) (st2 := []) rfl ?_
  refine Ok_if (fun h1 => ?_) (fun h1 => ?_)
  · refine Ok_blk 1 (pc2 := 21) (lo2 := [none, some (.int x1), some (.int x2)]) (st2 := [.int x1]) rfl ?_
    exact Ok_ret rfl rfl rfl
  · refine Ok_blk 8 (pc2 := 4) (lo2 := [none, some (.int (x1 + 1)), some (.int (x2 &&& (x2 - 1)))]) (st2 := []) rfl ?_
    refine Ok_drop (lo0 := [none, some (.int (x1 + 1)), some (.int (x2 &&& (x2 - 1)))]) ⟨Or.inl rfl, Or.inr rfl, Or.inr rfl, trivial⟩ ?_
    exact hb4 (x1 + 1) (x2 &&& (x2 - 1))
set_option maxHeartbeats 8000000 in
set_option maxRecDepth 100000 in
theorem t_R_ones_p4 (N d : Nat) (xs : List Int32) (c : St) (r : St) : ∀ (n : Nat) (x1 : Int32) (x2 : Int32), Ok (mBig (mRoL xs) (d)) (mRoL xs) 1 mK215 (fun p : Int32 => (some (.int p), HP c r)) (R_ones_p4 N n x1 x2) 4 [none, some (.int x1), some (.int x2)] [] (HP c r) := by
  intro n
  induction n with
  | zero => intro x1 x2; exact Ok_none
  | succ n ih => intro x1 x2; exact t_R_ones_p4b N d xs c r (R_ones_p4 N n) ih x1 x2
set_option maxHeartbeats 8000000 in
set_option maxRecDepth 100000 in
theorem t_R_ones (N d : Nat) (xs : List Int32) (c : St) (r : St) (x0 : Int32) : Ok (mBig (mRoL xs) (d)) (mRoL xs) 1 mK215 (fun p : Int32 => (some (.int p), HP c r)) (R_ones N x0) 0 [some (.int x0), none, none] [] (HP c r) := by
  unfold R_ones
  refine Ok_blk 4 (pc2 := 4) (lo2 := [some (.int x0), some (.int 0), some (.int x0)]) (st2 := []) rfl ?_
  refine Ok_drop (lo0 := [none, some (.int 0), some (.int x0)]) ⟨Or.inl rfl, Or.inr rfl, Or.inr rfl, trivial⟩ ?_
  exact t_R_ones_p4 N d xs c r N 0 x0
set_option maxHeartbeats 8000000 in
set_option maxRecDepth 100000 in
theorem tm_R_ones (N d : Nat) (xs : List Int32) (c r : St) (a0 : Int32) (p : Int32) (hp : R_ones N a0 = some p) : mBig (mRoL xs) (d + 1) 215 [.int a0] (HP c r) (some (.int p)) (HP c r) 0 0 := mBig_of (by decide) rfl rfl rfl rfl (t_R_ones N d xs c r a0 p hp)
/-! ColdHoldsModel.dugWith(II)I, from (('r', 115), 'i', 'i') -/
def R_dugWith_p52 (N : Nat) (kb10 : Int32 → Int32 → Int32 → Int32 → Option (Int32)) (r : St) (x1 : Int32) (x2 : Int32) (x4 : Int32) (s0 : Int32) (s1 : Int32) : Option (Int32) :=
  kb10 x1 x2 (s0 ||| s1) (x4 + 1)
def R_dugWith_p51 (N : Nat) (kb10 : Int32 → Int32 → Int32 → Int32 → Option (Int32)) (r : St) (x1 : Int32) (x2 : Int32) (x4 : Int32) (s0 : Int32) : Option (Int32) :=
  R_dugWith_p52 N kb10 r x1 x2 x4 s0 0
def R_dugWith_p10b (N : Nat) (kb10 : Int32 → Int32 → Int32 → Int32 → Option (Int32)) (r : St) (x1 : Int32) (x2 : Int32) (x3 : Int32) (x4 : Int32) : Option (Int32) :=
  (if x1 ≤ x4 then some x3 else (ld (gA r 32) x4).bind fun y3 => (if ¬ y3 = x2 then R_dugWith_p51 N kb10 r x1 x2 x4 x3 else (ld (gA r 15) x4).bind fun y5 => (ld (gA r 15) x1).bind fun y6 => (if y6 ≤ y5 then R_dugWith_p51 N kb10 r x1 x2 x4 x3 else R_dugWith_p52 N kb10 r x1 x2 x4 x3 (1 <<< (x4 &&& 31)))))
def R_dugWith_p10 (N : Nat) (r : St) : Nat → Int32 → Int32 → Int32 → Int32 → Option (Int32)
  | 0 => fun _ _ _ _ => none
  | n + 1 => R_dugWith_p10b N (R_dugWith_p10 N r n) r
def R_dugWith (N : Nat) (r : St) (x1 : Int32) (x2 : Int32) : Option (Int32) :=
  (ld (gA r 34) x1).bind fun y1 => R_dugWith_p10 N r N x1 x2 y1 0
set_option maxHeartbeats 8000000 in
set_option maxRecDepth 100000 in
theorem t_R_dugWith_p52 (N d : Nat) (xs : List Int32) (c : St) (r : St) (kb10 : Int32 → Int32 → Int32 → Int32 → Option (Int32)) (hb10 : ∀ (x1 : Int32) (x2 : Int32) (x3 : Int32) (x4 : Int32), Ok (mBig (mRoL xs) (d)) (mRoL xs) 1 mK216 (fun p : Int32 => (some (.int p), HP c r)) (kb10 x1 x2 x3 x4) 10 [some (.ref 115), some (.int x1), some (.int x2), some (.int x3), some (.int x4)] [] (HP c r)) (x1 : Int32) (x2 : Int32) (x4 : Int32) (s0 : Int32) (s1 : Int32) : Ok (mBig (mRoL xs) (d)) (mRoL xs) 1 mK216 (fun p : Int32 => (some (.int p), HP c r)) (R_dugWith_p52 N kb10 r x1 x2 x4 s0 s1) 52 [some (.ref 115), some (.int x1), some (.int x2), none, some (.int x4)] [.int s1, .int s0] (HP c r) := by
  unfold R_dugWith_p52
  refine Ok_blk 4 (pc2 := 10) (lo2 := [some (.ref 115), some (.int x1), some (.int x2), some (.int (s0 ||| s1)), some (.int (x4 + 1))]) (st2 := []) rfl ?_
  refine Ok_drop (lo0 := [some (.ref 115), some (.int x1), some (.int x2), some (.int (s0 ||| s1)), some (.int (x4 + 1))]) ⟨Or.inr rfl, Or.inr rfl, Or.inr rfl, Or.inr rfl, Or.inr rfl, trivial⟩ ?_
  exact hb10 x1 x2 (s0 ||| s1) (x4 + 1)
set_option maxHeartbeats 8000000 in
set_option maxRecDepth 100000 in
theorem t_R_dugWith_p51 (N d : Nat) (xs : List Int32) (c : St) (r : St) (kb10 : Int32 → Int32 → Int32 → Int32 → Option (Int32)) (hb10 : ∀ (x1 : Int32) (x2 : Int32) (x3 : Int32) (x4 : Int32), Ok (mBig (mRoL xs) (d)) (mRoL xs) 1 mK216 (fun p : Int32 => (some (.int p), HP c r)) (kb10 x1 x2 x3 x4) 10 [some (.ref 115), some (.int x1), some (.int x2), some (.int x3), some (.int x4)] [] (HP c r)) (x1 : Int32) (x2 : Int32) (x4 : Int32) (s0 : Int32) : Ok (mBig (mRoL xs) (d)) (mRoL xs) 1 mK216 (fun p : Int32 => (some (.int p), HP c r)) (R_dugWith_p51 N kb10 r x1 x2 x4 s0) 51 [some (.ref 115), some (.int x1), some (.int x2), none, some (.int x4)] [.int s0] (HP c r) := by
  unfold R_dugWith_p51
  refine Ok_blk 1 (pc2 := 52) (lo2 := [some (.ref 115), some (.int x1), some (.int x2), none, some (.int x4)]) (st2 := [.int 0, .int s0]) rfl ?_
  refine Ok_drop (lo0 := [some (.ref 115), some (.int x1), some (.int x2), none, some (.int x4)]) ⟨Or.inr rfl, Or.inr rfl, Or.inr rfl, Or.inl rfl, Or.inr rfl, trivial⟩ ?_
  exact t_R_dugWith_p52 N d xs c r kb10 hb10 x1 x2 x4 s0 0
set_option maxHeartbeats 8000000 in
set_option maxRecDepth 100000 in
theorem t_R_dugWith_p10b (N d : Nat) (xs : List Int32) (c : St) (r : St) (kb10 : Int32 → Int32 → Int32 → Int32 → Option (Int32)) (hb10 : ∀ (x1 : Int32) (x2 : Int32) (x3 : Int32) (x4 : Int32), Ok (mBig (mRoL xs) (d)) (mRoL xs) 1 mK216 (fun p : Int32 => (some (.int p), HP c r)) (kb10 x1 x2 x3 x4) 10 [some (.ref 115), some (.int x1), some (.int x2), some (.int x3), some (.int x4)] [] (HP c r)) (x1 : Int32) (x2 : Int32) (x3 : Int32) (x4 : Int32) : Ok (mBig (mRoL xs) (d)) (mRoL xs) 1 mK216 (fun p : Int32 => (some (.int p), HP c r)) (R_dugWith_p10b N kb10 r x1 x2 x3 x4) 10 [some (.ref 115), some (.int x1), some (.int x2), some (.int x3), some (.int x4)] [] (HP c r) := by
  unfold R_dugWith_p10b
  refine Ok_blk 3 (pc2 := (if x1 ≤ x4 then 60 else 16)) (lo2 := [some (.ref 115), some (.int x1), some (.int x2), some (.int x3), some (.int x4)]) (st2 := []) rfl ?_
  refine Ok_if (fun h2 => ?_) (fun h2 => ?_)
  · refine Ok_blk 1 (pc2 := 61) (lo2 := [some (.ref 115), some (.int x1), some (.int x2), some (.int x3), some (.int x4)]) (st2 := [.int x3]) rfl ?_
    exact Ok_ret rfl rfl rfl
  · refine Ok_blk 4 (pc2 := 23) (lo2 := [some (.ref 115), some (.int x1), some (.int x2), some (.int x3), some (.int x4)]) (st2 := [.int x4, .ref 150, .int x3]) rfl ?_
    refine Ok_ld (l := (gA r 32)) rfl rfl (fun y3 hy3 => ?_)
    refine Ok_blk 2 (pc2 := (if ¬ y3 = x2 then 51 else 28)) (lo2 := [some (.ref 115), some (.int x1), some (.int x2), some (.int x3), some (.int x4)]) (st2 := [.int x3]) rfl ?_
    refine Ok_if (fun h4 => ?_) (fun h4 => ?_)
    · refine Ok_drop (lo0 := [some (.ref 115), some (.int x1), some (.int x2), none, some (.int x4)]) ⟨Or.inr rfl, Or.inr rfl, Or.inr rfl, Or.inl rfl, Or.inr rfl, trivial⟩ ?_
      exact t_R_dugWith_p51 N d xs c r kb10 hb10 x1 x2 x4 x3
    · refine Ok_blk 3 (pc2 := 34) (lo2 := [some (.ref 115), some (.int x1), some (.int x2), some (.int x3), some (.int x4)]) (st2 := [.int x4, .ref 131, .int x3]) rfl ?_
      refine Ok_ld (l := (gA r 15)) rfl rfl (fun y5 hy5 => ?_)
      refine Ok_blk 3 (pc2 := 40) (lo2 := [some (.ref 115), some (.int x1), some (.int x2), some (.int x3), some (.int x4)]) (st2 := [.int x1, .ref 131, .int y5, .int x3]) rfl ?_
      refine Ok_ld (l := (gA r 15)) rfl rfl (fun y6 hy6 => ?_)
      refine Ok_blk 1 (pc2 := (if y6 ≤ y5 then 51 else 44)) (lo2 := [some (.ref 115), some (.int x1), some (.int x2), some (.int x3), some (.int x4)]) (st2 := [.int x3]) rfl ?_
      refine Ok_if (fun h7 => ?_) (fun h7 => ?_)
      · refine Ok_drop (lo0 := [some (.ref 115), some (.int x1), some (.int x2), none, some (.int x4)]) ⟨Or.inr rfl, Or.inr rfl, Or.inr rfl, Or.inl rfl, Or.inr rfl, trivial⟩ ?_
        exact t_R_dugWith_p51 N d xs c r kb10 hb10 x1 x2 x4 x3
      · refine Ok_blk 4 (pc2 := 52) (lo2 := [some (.ref 115), some (.int x1), some (.int x2), some (.int x3), some (.int x4)]) (st2 := [.int (1 <<< (x4 &&& 31)), .int x3]) rfl ?_
        refine Ok_drop (lo0 := [some (.ref 115), some (.int x1), some (.int x2), none, some (.int x4)]) ⟨Or.inr rfl, Or.inr rfl, Or.inr rfl, Or.inl rfl, Or.inr rfl, trivial⟩ ?_
        exact t_R_dugWith_p52 N d xs c r kb10 hb10 x1 x2 x4 x3 (1 <<< (x4 &&& 31))
set_option maxHeartbeats 8000000 in
set_option maxRecDepth 100000 in
theorem t_R_dugWith_p10 (N d : Nat) (xs : List Int32) (c : St) (r : St) : ∀ (n : Nat) (x1 : Int32) (x2 : Int32) (x3 : Int32) (x4 : Int32), Ok (mBig (mRoL xs) (d)) (mRoL xs) 1 mK216 (fun p : Int32 => (some (.int p), HP c r)) (R_dugWith_p10 N r n x1 x2 x3 x4) 10 [some (.ref 115), some (.int x1), some (.int x2), some (.int x3), some (.int x4)] [] (HP c r) := by
  intro n
  induction n with
  | zero => intro x1 x2 x3 x4; exact Ok_none
  | succ n ih => intro x1 x2 x3 x4; exact t_R_dugWith_p10b N d xs c r (R_dugWith_p10 N r n) ih x1 x2 x3 x4
set_option maxHeartbeats 8000000 in
set_option maxRecDepth 100000 in
theorem t_R_dugWith (N d : Nat) (xs : List Int32) (c : St) (r : St) (x1 : Int32) (x2 : Int32) : Ok (mBig (mRoL xs) (d)) (mRoL xs) 1 mK216 (fun p : Int32 => (some (.int p), HP c r)) (R_dugWith N r x1 x2) 0 [some (.ref 115), some (.int x1), some (.int x2), none, none] [] (HP c r) := by
  unfold R_dugWith
  refine Ok_blk 3 (pc2 := 5) (lo2 := [some (.ref 115), some (.int x1), some (.int x2), none, none]) (st2 := [.int x1, .ref 152]) rfl ?_
  refine Ok_ld (l := (gA r 34)) rfl rfl (fun y1 hy1 => ?_)
  refine Ok_blk 3 (pc2 := 10) (lo2 := [some (.ref 115), some (.int x1), some (.int x2), some (.int y1), some (.int 0)]) (st2 := []) rfl ?_
  refine Ok_drop (lo0 := [some (.ref 115), some (.int x1), some (.int x2), some (.int y1), some (.int 0)]) ⟨Or.inr rfl, Or.inr rfl, Or.inr rfl, Or.inr rfl, Or.inr rfl, trivial⟩ ?_
  exact t_R_dugWith_p10 N d xs c r N x1 x2 y1 0
set_option maxHeartbeats 8000000 in
set_option maxRecDepth 100000 in
theorem tm_R_dugWith (N d : Nat) (xs : List Int32) (c r : St) (a1 : Int32) (a2 : Int32) (p : Int32) (hp : R_dugWith N r a1 a2 = some p) : mBig (mRoL xs) (d + 1) 216 [.ref 115, .int a1, .int a2] (HP c r) (some (.int p)) (HP c r) 0 0 := mBig_of (by decide) rfl rfl rfl rfl (t_R_dugWith N d xs c r a1 a2 p hp)
/-! ColdHoldsModel.seekLaid(II)V, from (('r', 115), 'i', 'i') -/
def R_seekLaid_p250 (N : Nat) (kb41 : St → Int32 → Int32 → Int32 → Option (St)) (r : St) (x1 : Int32) (x2 : Int32) (x3 : Int32) : Option (St) :=
  kb41 r x1 x2 x3
def R_seekLaid_p187 (N : Nat) (kb41 : St → Int32 → Int32 → Int32 → Option (St)) (r : St) (x1 : Int32) (x2 : Int32) (x3 : Int32) (x4 : Int32) : Option (St) :=
  (if ¬ x4 = x1 then (R_dugWith N r x3 x4).bind fun p11 => (sto (gA r 34) (x3 + 1) p11).bind fun w12 => (sto (gA (sA r 34 w12) 32) x3 x4).bind fun w13 => (ld (gA (sA (sA r 34 w12) 32 w13) 33) x4).bind fun y14 => (sto (gA (sA (sA r 34 w12) 32 w13) 33) x4 (y14 + 1)).bind fun w15 => (sto (gA (sA (sA (sA r 34 w12) 32 w13) 33 w15) 32) (x3 + 1) (-1)).bind fun w16 => R_seekLaid_p250 N kb41 (sA (sA (sA (sA r 34 w12) 32 w13) 33 w15) 32 w16) x1 x2 (x3 + 1) else (sto (gA r 32) x3 (-1)).bind fun w17 => R_seekLaid_p250 N kb41 (sA r 32 w17) x1 x2 (x3 + (-1)))
def R_seekLaid_p181 (N : Nat) (kb41 : St → Int32 → Int32 → Int32 → Option (St)) (kb139 : St → Int32 → Int32 → Int32 → Int32 → Option (St)) (r : St) (x1 : Int32) (x2 : Int32) (x3 : Int32) (x4 : Int32) : Option (St) :=
  kb139 r x1 x2 x3 (x4 + 1)
def R_seekLaid_p139b (N : Nat) (kb41 : St → Int32 → Int32 → Int32 → Option (St)) (kb139 : St → Int32 → Int32 → Int32 → Int32 → Option (St)) (r : St) (x1 : Int32) (x2 : Int32) (x3 : Int32) (x4 : Int32) : Option (St) :=
  (if x1 ≤ x4 then R_seekLaid_p187 N kb41 r x1 x2 x3 x4 else (ld (gA r 33) x4).bind fun y18 => (if y18 = x2 then R_seekLaid_p181 N kb41 kb139 r x1 x2 x3 x4 else (if (gI r 33) = (-1) then R_seekLaid_p187 N kb41 r x1 x2 x3 x4 else (R_dugWith N r x3 x4).bind fun p21 => (R_ones N p21).bind fun p22 => (if p22 < (gI r 33) then R_seekLaid_p187 N kb41 r x1 x2 x3 x4 else R_seekLaid_p181 N kb41 kb139 r x1 x2 x3 x4))))
def R_seekLaid_p139 (N : Nat) (kb41 : St → Int32 → Int32 → Int32 → Option (St)) : Nat → St → Int32 → Int32 → Int32 → Int32 → Option (St)
  | 0 => fun _ _ _ _ _ => none
  | n + 1 => R_seekLaid_p139b N kb41 (R_seekLaid_p139 N kb41 n)
def R_seekLaid_p129 (N : Nat) (kb41 : St → Int32 → Int32 → Int32 → Option (St)) (r : St) (x1 : Int32) (x2 : Int32) (x3 : Int32) : Option (St) :=
  (ld (gA r 32) x3).bind fun y8 => R_seekLaid_p139 N kb41 N r x1 x2 x3 (y8 + 1)
def R_seekLaid_p69b (N : Nat) (kb41 : St → Int32 → Int32 → Int32 → Option (St)) (kb69 : St → Int32 → Int32 → Int32 → Int32 → Option (St)) (r : St) (x1 : Int32) (x2 : Int32) (x3 : Int32) (x4 : Int32) : Option (St) :=
  (if (gI r 12) ≤ x4 then kb41 r x1 x2 (x3 + (-1)) else (ld (gA r 32) x4).bind fun y30 => (sto (gA r 35) x4 y30).bind fun w31 => kb69 (sA r 35 w31) x1 x2 x3 (x4 + 1))
def R_seekLaid_p69 (N : Nat) (kb41 : St → Int32 → Int32 → Int32 → Option (St)) : Nat → St → Int32 → Int32 → Int32 → Int32 → Option (St)
  | 0 => fun _ _ _ _ _ => none
  | n + 1 => R_seekLaid_p69b N kb41 (R_seekLaid_p69 N kb41 n)
def R_seekLaid_p41b (N : Nat) (kb41 : St → Int32 → Int32 → Int32 → Option (St)) (r : St) (x1 : Int32) (x2 : Int32) (x3 : Int32) : Option (St) :=
  (if x3 < 0 then some r else (if ¬ x3 = (gI r 12) then (ld (gA r 32) x3).bind fun y6 => (if y6 = (-1) then R_seekLaid_p129 N kb41 r x1 x2 x3 else (ld (gA r 32) x3).bind fun y24 => (ld (gA r 33) y24).bind fun y25 => (sto (gA r 33) y24 (y25 - 1)).bind fun w26 => R_seekLaid_p129 N kb41 (sA r 33 w26) x1 x2 x3) else (ld (gA r 34) x3).bind fun y27 => (R_ones N y27).bind fun p28 => R_seekLaid_p69 N kb41 N (sI r 33 p28) x1 x2 x3 0))
def R_seekLaid_p41 (N : Nat) : Nat → St → Int32 → Int32 → Int32 → Option (St)
  | 0 => fun _ _ _ _ => none
  | n + 1 => R_seekLaid_p41b N (R_seekLaid_p41 N n)
def R_seekLaid_p7b (N : Nat) (kb7 : St → Int32 → Int32 → Int32 → Option (St)) (r : St) (x1 : Int32) (x2 : Int32) (x3 : Int32) : Option (St) :=
  (if 4 ≤ x3 then (sto (gA r 34) 0 0).bind fun w2 => (sto (gA (sA r 34 w2) 32) 0 (-1)).bind fun w3 => R_seekLaid_p41 N N (sA (sA r 34 w2) 32 w3) x1 x2 0 else (sto (gA r 33) x3 0).bind fun w32 => kb7 (sA r 33 w32) x1 x2 (x3 + 1))
def R_seekLaid_p7 (N : Nat) : Nat → St → Int32 → Int32 → Int32 → Option (St)
  | 0 => fun _ _ _ _ => none
  | n + 1 => R_seekLaid_p7b N (R_seekLaid_p7 N n)
def R_seekLaid (N : Nat) (r : St) (x1 : Int32) (x2 : Int32) : Option (St) :=
  R_seekLaid_p7 N N (sI r 33 (-1)) x1 x2 0
set_option maxHeartbeats 8000000 in
set_option maxRecDepth 100000 in
theorem t_R_seekLaid_p250 (N d : Nat) (xs : List Int32) (c : St) (kb41 : St → Int32 → Int32 → Int32 → Option (St)) (hb41 : ∀ (r : St) (x1 : Int32) (x2 : Int32) (x3 : Int32), Ok (mBig (mRoL xs) (d + 1)) (mRoL xs) 0 mK217 (fun p : St => (none, HP c p)) (kb41 r x1 x2 x3) 41 [some (.ref 115), some (.int x1), some (.int x2), some (.int x3), none] [] (HP c r)) (r : St) (x1 : Int32) (x2 : Int32) (x3 : Int32) : Ok (mBig (mRoL xs) (d + 1)) (mRoL xs) 0 mK217 (fun p : St => (none, HP c p)) (R_seekLaid_p250 N kb41 r x1 x2 x3) 250 [some (.ref 115), some (.int x1), some (.int x2), some (.int x3), none] [] (HP c r) := by
  unfold R_seekLaid_p250
  refine Ok_blk 1 (pc2 := 41) (lo2 := [some (.ref 115), some (.int x1), some (.int x2), some (.int x3), none]) (st2 := []) rfl ?_
  refine Ok_drop (lo0 := [some (.ref 115), some (.int x1), some (.int x2), some (.int x3), none]) ⟨Or.inr rfl, Or.inr rfl, Or.inr rfl, Or.inr rfl, Or.inl rfl, trivial⟩ ?_
  exact hb41 r x1 x2 x3
set_option maxHeartbeats 8000000 in
set_option maxRecDepth 100000 in
theorem t_R_seekLaid_p187 (N d : Nat) (xs : List Int32) (c : St) (kb41 : St → Int32 → Int32 → Int32 → Option (St)) (hb41 : ∀ (r : St) (x1 : Int32) (x2 : Int32) (x3 : Int32), Ok (mBig (mRoL xs) (d + 1)) (mRoL xs) 0 mK217 (fun p : St => (none, HP c p)) (kb41 r x1 x2 x3) 41 [some (.ref 115), some (.int x1), some (.int x2), some (.int x3), none] [] (HP c r)) (r : St) (x1 : Int32) (x2 : Int32) (x3 : Int32) (x4 : Int32) : Ok (mBig (mRoL xs) (d + 1)) (mRoL xs) 0 mK217 (fun p : St => (none, HP c p)) (R_seekLaid_p187 N kb41 r x1 x2 x3 x4) 187 [some (.ref 115), some (.int x1), some (.int x2), some (.int x3), some (.int x4)] [] (HP c r) := by
  unfold R_seekLaid_p187
  refine Ok_blk 3 (pc2 := (if ¬ x4 = x1 then 206 else 193)) (lo2 := [some (.ref 115), some (.int x1), some (.int x2), some (.int x3), some (.int x4)]) (st2 := []) rfl ?_
  refine Ok_if (fun h10 => ?_) (fun h10 => ?_)
  · refine Ok_blk 8 (pc2 := 217) (lo2 := [some (.ref 115), some (.int x1), some (.int x2), some (.int x3), some (.int x4)]) (st2 := [.int x4, .int x3, .ref 115, .int (x3 + 1), .ref 152]) rfl ?_
    refine Ok_call (y := 216) (as := [.ref 115, .int x3, .int x4]) (rest := [.int (x3 + 1), .ref 152]) (w := fun p11 => some (.int p11)) (h1 := fun p11 => HP c r) rfl rfl (fun x hx => tm_R_dugWith N d xs c r x3 x4 x hx) (fun p11 hp11 => ?_)
    refine Ok_st (l := (gA r 34)) (hn := fun l' => HP c (sA r 34 l')) rfl rfl (fun l' => sa_152 _ _ l') (fun w12 hw12 => ?_)
    refine Ok_blk 4 (pc2 := 228) (lo2 := [some (.ref 115), some (.int x1), some (.int x2), some (.int x3), some (.int x4)]) (st2 := [.int x4, .int x3, .ref 150]) rfl ?_
    refine Ok_st (l := (gA (sA r 34 w12) 32)) (hn := fun l' => HP c (sA (sA r 34 w12) 32 l')) rfl rfl (fun l' => sa_150 _ _ l') (fun w13 hw13 => ?_)
    refine Ok_blk 4 (pc2 := 236) (lo2 := [some (.ref 115), some (.int x1), some (.int x2), some (.int x3), some (.int x4)]) (st2 := [.int x4, .ref 151, .int x4, .ref 151]) rfl ?_
    refine Ok_ld (l := (gA (sA (sA r 34 w12) 32 w13) 33)) rfl rfl (fun y14 hy14 => ?_)
    refine Ok_blk 2 (pc2 := 239) (lo2 := [some (.ref 115), some (.int x1), some (.int x2), some (.int x3), some (.int x4)]) (st2 := [.int (y14 + 1), .int x4, .ref 151]) rfl ?_
    refine Ok_st (l := (gA (sA (sA r 34 w12) 32 w13) 33)) (hn := fun l' => HP c (sA (sA (sA r 34 w12) 32 w13) 33 l')) rfl rfl (fun l' => sa_151 _ _ l') (fun w15 hw15 => ?_)
    refine Ok_blk 5 (pc2 := 249) (lo2 := [some (.ref 115), some (.int x1), some (.int x2), some (.int (x3 + 1)), some (.int x4)]) (st2 := [.int (-1), .int (x3 + 1), .ref 150]) rfl ?_
    refine Ok_st (l := (gA (sA (sA (sA r 34 w12) 32 w13) 33 w15) 32)) (hn := fun l' => HP c (sA (sA (sA (sA r 34 w12) 32 w13) 33 w15) 32 l')) rfl rfl (fun l' => sa_150 _ _ l') (fun w16 hw16 => ?_)
    refine Ok_drop (lo0 := [some (.ref 115), some (.int x1), some (.int x2), some (.int (x3 + 1)), none]) ⟨Or.inr rfl, Or.inr rfl, Or.inr rfl, Or.inr rfl, Or.inl rfl, trivial⟩ ?_
    exact t_R_seekLaid_p250 N d xs c kb41 hb41 (sA (sA (sA (sA r 34 w12) 32 w13) 33 w15) 32 w16) x1 x2 (x3 + 1)
  · refine Ok_blk 4 (pc2 := 199) (lo2 := [some (.ref 115), some (.int x1), some (.int x2), some (.int x3), some (.int x4)]) (st2 := [.int (-1), .int x3, .ref 150]) rfl ?_
    refine Ok_st (l := (gA r 32)) (hn := fun l' => HP c (sA r 32 l')) rfl rfl (fun l' => sa_150 _ _ l') (fun w17 hw17 => ?_)
    refine Ok_blk 2 (pc2 := 250) (lo2 := [some (.ref 115), some (.int x1), some (.int x2), some (.int (x3 + (-1))), some (.int x4)]) (st2 := []) rfl ?_
    refine Ok_drop (lo0 := [some (.ref 115), some (.int x1), some (.int x2), some (.int (x3 + (-1))), none]) ⟨Or.inr rfl, Or.inr rfl, Or.inr rfl, Or.inr rfl, Or.inl rfl, trivial⟩ ?_
    exact t_R_seekLaid_p250 N d xs c kb41 hb41 (sA r 32 w17) x1 x2 (x3 + (-1))
set_option maxHeartbeats 8000000 in
set_option maxRecDepth 100000 in
theorem t_R_seekLaid_p181 (N d : Nat) (xs : List Int32) (c : St) (kb41 : St → Int32 → Int32 → Int32 → Option (St)) (hb41 : ∀ (r : St) (x1 : Int32) (x2 : Int32) (x3 : Int32), Ok (mBig (mRoL xs) (d + 1)) (mRoL xs) 0 mK217 (fun p : St => (none, HP c p)) (kb41 r x1 x2 x3) 41 [some (.ref 115), some (.int x1), some (.int x2), some (.int x3), none] [] (HP c r)) (kb139 : St → Int32 → Int32 → Int32 → Int32 → Option (St)) (hb139 : ∀ (r : St) (x1 : Int32) (x2 : Int32) (x3 : Int32) (x4 : Int32), Ok (mBig (mRoL xs) (d + 1)) (mRoL xs) 0 mK217 (fun p : St => (none, HP c p)) (kb139 r x1 x2 x3 x4) 139 [some (.ref 115), some (.int x1), some (.int x2), some (.int x3), some (.int x4)] [] (HP c r)) (r : St) (x1 : Int32) (x2 : Int32) (x3 : Int32) (x4 : Int32) : Ok (mBig (mRoL xs) (d + 1)) (mRoL xs) 0 mK217 (fun p : St => (none, HP c p)) (R_seekLaid_p181 N kb41 kb139 r x1 x2 x3 x4) 181 [some (.ref 115), some (.int x1), some (.int x2), some (.int x3), some (.int x4)] [] (HP c r) := by
  unfold R_seekLaid_p181
  refine Ok_blk 2 (pc2 := 139) (lo2 := [some (.ref 115), some (.int x1), some (.int x2), some (.int x3), some (.int (x4 + 1))]) (st2 := []) rfl ?_
  refine Ok_drop (lo0 := [some (.ref 115), some (.int x1), some (.int x2), some (.int x3), some (.int (x4 + 1))]) ⟨Or.inr rfl, Or.inr rfl, Or.inr rfl, Or.inr rfl, Or.inr rfl, trivial⟩ ?_
  exact hb139 r x1 x2 x3 (x4 + 1)
set_option maxHeartbeats 8000000 in
set_option maxRecDepth 100000 in
theorem t_R_seekLaid_p139b (N d : Nat) (xs : List Int32) (c : St) (kb41 : St → Int32 → Int32 → Int32 → Option (St)) (hb41 : ∀ (r : St) (x1 : Int32) (x2 : Int32) (x3 : Int32), Ok (mBig (mRoL xs) (d + 1)) (mRoL xs) 0 mK217 (fun p : St => (none, HP c p)) (kb41 r x1 x2 x3) 41 [some (.ref 115), some (.int x1), some (.int x2), some (.int x3), none] [] (HP c r)) (kb139 : St → Int32 → Int32 → Int32 → Int32 → Option (St)) (hb139 : ∀ (r : St) (x1 : Int32) (x2 : Int32) (x3 : Int32) (x4 : Int32), Ok (mBig (mRoL xs) (d + 1)) (mRoL xs) 0 mK217 (fun p : St => (none, HP c p)) (kb139 r x1 x2 x3 x4) 139 [some (.ref 115), some (.int x1), some (.int x2), some (.int x3), some (.int x4)] [] (HP c r)) (r : St) (x1 : Int32) (x2 : Int32) (x3 : Int32) (x4 : Int32) : Ok (mBig (mRoL xs) (d + 1)) (mRoL xs) 0 mK217 (fun p : St => (none, HP c p)) (R_seekLaid_p139b N kb41 kb139 r x1 x2 x3 x4) 139 [some (.ref 115), some (.int x1), some (.int x2), some (.int x3), some (.int x4)] [] (HP c r) := by
  unfold R_seekLaid_p139b
  refine Ok_blk 3 (pc2 := (if x1 ≤ x4 then 187 else 145)) (lo2 := [some (.ref 115), some (.int x1), some (.int x2), some (.int x3), some (.int x4)]) (st2 := []) rfl ?_
  refine Ok_if (fun h9 => ?_) (fun h9 => ?_)
  · refine Ok_drop (lo0 := [some (.ref 115), some (.int x1), some (.int x2), some (.int x3), some (.int x4)]) ⟨Or.inr rfl, Or.inr rfl, Or.inr rfl, Or.inr rfl, Or.inr rfl, trivial⟩ ?_
    exact t_R_seekLaid_p187 N d xs c kb41 hb41 r x1 x2 x3 x4
  · refine Ok_blk 3 (pc2 := 151) (lo2 := [some (.ref 115), some (.int x1), some (.int x2), some (.int x3), some (.int x4)]) (st2 := [.int x4, .ref 151]) rfl ?_
    refine Ok_ld (l := (gA r 33)) rfl rfl (fun y18 hy18 => ?_)
    refine Ok_blk 2 (pc2 := (if y18 = x2 then 181 else 156)) (lo2 := [some (.ref 115), some (.int x1), some (.int x2), some (.int x3), some (.int x4)]) (st2 := []) rfl ?_
    refine Ok_if (fun h19 => ?_) (fun h19 => ?_)
    · refine Ok_drop (lo0 := [some (.ref 115), some (.int x1), some (.int x2), some (.int x3), some (.int x4)]) ⟨Or.inr rfl, Or.inr rfl, Or.inr rfl, Or.inr rfl, Or.inr rfl, trivial⟩ ?_
      exact t_R_seekLaid_p181 N d xs c kb41 hb41 kb139 hb139 r x1 x2 x3 x4
    · refine Ok_blk 4 (pc2 := (if (gI r 33) = (-1) then 187 else 164)) (lo2 := [some (.ref 115), some (.int x1), some (.int x2), some (.int x3), some (.int x4)]) (st2 := []) rfl ?_
      refine Ok_if (fun h20 => ?_) (fun h20 => ?_)
      · refine Ok_drop (lo0 := [some (.ref 115), some (.int x1), some (.int x2), some (.int x3), some (.int x4)]) ⟨Or.inr rfl, Or.inr rfl, Or.inr rfl, Or.inr rfl, Or.inr rfl, trivial⟩ ?_
        exact t_R_seekLaid_p187 N d xs c kb41 hb41 r x1 x2 x3 x4
      · refine Ok_blk 3 (pc2 := 168) (lo2 := [some (.ref 115), some (.int x1), some (.int x2), some (.int x3), some (.int x4)]) (st2 := [.int x4, .int x3, .ref 115]) rfl ?_
        refine Ok_call (y := 216) (as := [.ref 115, .int x3, .int x4]) (rest := []) (w := fun p21 => some (.int p21)) (h1 := fun p21 => HP c r) rfl rfl (fun x hx => tm_R_dugWith N d xs c r x3 x4 x hx) (fun p21 hp21 => ?_)
        refine Ok_call (y := 215) (as := [.int p21]) (rest := []) (w := fun p22 => some (.int p22)) (h1 := fun p22 => HP c r) rfl rfl (fun x hx => tm_R_ones N d xs c r p21 x hx) (fun p22 hp22 => ?_)
        refine Ok_blk 3 (pc2 := (if p22 < (gI r 33) then 187 else 181)) (lo2 := [some (.ref 115), some (.int x1), some (.int x2), some (.int x3), some (.int x4)]) (st2 := []) rfl ?_
        refine Ok_if (fun h23 => ?_) (fun h23 => ?_)
        · refine Ok_drop (lo0 := [some (.ref 115), some (.int x1), some (.int x2), some (.int x3), some (.int x4)]) ⟨Or.inr rfl, Or.inr rfl, Or.inr rfl, Or.inr rfl, Or.inr rfl, trivial⟩ ?_
          exact t_R_seekLaid_p187 N d xs c kb41 hb41 r x1 x2 x3 x4
        · refine Ok_drop (lo0 := [some (.ref 115), some (.int x1), some (.int x2), some (.int x3), some (.int x4)]) ⟨Or.inr rfl, Or.inr rfl, Or.inr rfl, Or.inr rfl, Or.inr rfl, trivial⟩ ?_
          exact t_R_seekLaid_p181 N d xs c kb41 hb41 kb139 hb139 r x1 x2 x3 x4
set_option maxHeartbeats 8000000 in
set_option maxRecDepth 100000 in
theorem t_R_seekLaid_p139 (N d : Nat) (xs : List Int32) (c : St) (kb41 : St → Int32 → Int32 → Int32 → Option (St)) (hb41 : ∀ (r : St) (x1 : Int32) (x2 : Int32) (x3 : Int32), Ok (mBig (mRoL xs) (d + 1)) (mRoL xs) 0 mK217 (fun p : St => (none, HP c p)) (kb41 r x1 x2 x3) 41 [some (.ref 115), some (.int x1), some (.int x2), some (.int x3), none] [] (HP c r)) : ∀ (n : Nat) (r : St) (x1 : Int32) (x2 : Int32) (x3 : Int32) (x4 : Int32), Ok (mBig (mRoL xs) (d + 1)) (mRoL xs) 0 mK217 (fun p : St => (none, HP c p)) (R_seekLaid_p139 N kb41 n r x1 x2 x3 x4) 139 [some (.ref 115), some (.int x1), some (.int x2), some (.int x3), some (.int x4)] [] (HP c r) := by
  intro n
  induction n with
  | zero => intro r x1 x2 x3 x4; exact Ok_none
  | succ n ih => intro r x1 x2 x3 x4; exact t_R_seekLaid_p139b N d xs c kb41 hb41 (R_seekLaid_p139 N kb41 n) ih r x1 x2 x3 x4
set_option maxHeartbeats 8000000 in
set_option maxRecDepth 100000 in
theorem t_R_seekLaid_p129 (N d : Nat) (xs : List Int32) (c : St) (kb41 : St → Int32 → Int32 → Int32 → Option (St)) (hb41 : ∀ (r : St) (x1 : Int32) (x2 : Int32) (x3 : Int32), Ok (mBig (mRoL xs) (d + 1)) (mRoL xs) 0 mK217 (fun p : St => (none, HP c p)) (kb41 r x1 x2 x3) 41 [some (.ref 115), some (.int x1), some (.int x2), some (.int x3), none] [] (HP c r)) (r : St) (x1 : Int32) (x2 : Int32) (x3 : Int32) : Ok (mBig (mRoL xs) (d + 1)) (mRoL xs) 0 mK217 (fun p : St => (none, HP c p)) (R_seekLaid_p129 N kb41 r x1 x2 x3) 129 [some (.ref 115), some (.int x1), some (.int x2), some (.int x3), none] [] (HP c r) := by
  unfold R_seekLaid_p129
  refine Ok_blk 3 (pc2 := 134) (lo2 := [some (.ref 115), some (.int x1), some (.int x2), some (.int x3), none]) (st2 := [.int x3, .ref 150]) rfl ?_
  refine Ok_ld (l := (gA r 32)) rfl rfl (fun y8 hy8 => ?_)
  refine Ok_blk 3 (pc2 := 139) (lo2 := [some (.ref 115), some (.int x1), some (.int x2), some (.int x3), some (.int (y8 + 1))]) (st2 := []) rfl ?_
  refine Ok_drop (lo0 := [some (.ref 115), some (.int x1), some (.int x2), some (.int x3), some (.int (y8 + 1))]) ⟨Or.inr rfl, Or.inr rfl, Or.inr rfl, Or.inr rfl, Or.inr rfl, trivial⟩ ?_
  exact t_R_seekLaid_p139 N d xs c kb41 hb41 N r x1 x2 x3 (y8 + 1)
set_option maxHeartbeats 8000000 in
set_option maxRecDepth 100000 in
theorem t_R_seekLaid_p69b (N d : Nat) (xs : List Int32) (c : St) (kb41 : St → Int32 → Int32 → Int32 → Option (St)) (hb41 : ∀ (r : St) (x1 : Int32) (x2 : Int32) (x3 : Int32), Ok (mBig (mRoL xs) (d + 1)) (mRoL xs) 0 mK217 (fun p : St => (none, HP c p)) (kb41 r x1 x2 x3) 41 [some (.ref 115), some (.int x1), some (.int x2), some (.int x3), none] [] (HP c r)) (kb69 : St → Int32 → Int32 → Int32 → Int32 → Option (St)) (hb69 : ∀ (r : St) (x1 : Int32) (x2 : Int32) (x3 : Int32) (x4 : Int32), Ok (mBig (mRoL xs) (d + 1)) (mRoL xs) 0 mK217 (fun p : St => (none, HP c p)) (kb69 r x1 x2 x3 x4) 69 [some (.ref 115), some (.int x1), some (.int x2), some (.int x3), some (.int x4)] [] (HP c r)) (r : St) (x1 : Int32) (x2 : Int32) (x3 : Int32) (x4 : Int32) : Ok (mBig (mRoL xs) (d + 1)) (mRoL xs) 0 mK217 (fun p : St => (none, HP c p)) (R_seekLaid_p69b N kb41 kb69 r x1 x2 x3 x4) 69 [some (.ref 115), some (.int x1), some (.int x2), some (.int x3), some (.int x4)] [] (HP c r) := by
  unfold R_seekLaid_p69b
  refine Ok_blk 4 (pc2 := (if (gI r 12) ≤ x4 then 98 else 78)) (lo2 := [some (.ref 115), some (.int x1), some (.int x2), some (.int x3), some (.int x4)]) (st2 := []) rfl ?_
  refine Ok_if (fun h29 => ?_) (fun h29 => ?_)
  · refine Ok_blk 2 (pc2 := 41) (lo2 := [some (.ref 115), some (.int x1), some (.int x2), some (.int (x3 + (-1))), some (.int x4)]) (st2 := []) rfl ?_
    refine Ok_drop (lo0 := [some (.ref 115), some (.int x1), some (.int x2), some (.int (x3 + (-1))), none]) ⟨Or.inr rfl, Or.inr rfl, Or.inr rfl, Or.inr rfl, Or.inl rfl, trivial⟩ ?_
    exact hb41 r x1 x2 (x3 + (-1))
  · refine Ok_blk 6 (pc2 := 90) (lo2 := [some (.ref 115), some (.int x1), some (.int x2), some (.int x3), some (.int x4)]) (st2 := [.int x4, .ref 150, .int x4, .ref 153]) rfl ?_
    refine Ok_ld (l := (gA r 32)) rfl rfl (fun y30 hy30 => ?_)
    refine Ok_st (l := (gA r 35)) (hn := fun l' => HP c (sA r 35 l')) rfl rfl (fun l' => sa_153 _ _ l') (fun w31 hw31 => ?_)
    refine Ok_blk 2 (pc2 := 69) (lo2 := [some (.ref 115), some (.int x1), some (.int x2), some (.int x3), some (.int (x4 + 1))]) (st2 := []) rfl ?_
    refine Ok_drop (lo0 := [some (.ref 115), some (.int x1), some (.int x2), some (.int x3), some (.int (x4 + 1))]) ⟨Or.inr rfl, Or.inr rfl, Or.inr rfl, Or.inr rfl, Or.inr rfl, trivial⟩ ?_
    exact hb69 (sA r 35 w31) x1 x2 x3 (x4 + 1)
set_option maxHeartbeats 8000000 in
set_option maxRecDepth 100000 in
theorem t_R_seekLaid_p69 (N d : Nat) (xs : List Int32) (c : St) (kb41 : St → Int32 → Int32 → Int32 → Option (St)) (hb41 : ∀ (r : St) (x1 : Int32) (x2 : Int32) (x3 : Int32), Ok (mBig (mRoL xs) (d + 1)) (mRoL xs) 0 mK217 (fun p : St => (none, HP c p)) (kb41 r x1 x2 x3) 41 [some (.ref 115), some (.int x1), some (.int x2), some (.int x3), none] [] (HP c r)) : ∀ (n : Nat) (r : St) (x1 : Int32) (x2 : Int32) (x3 : Int32) (x4 : Int32), Ok (mBig (mRoL xs) (d + 1)) (mRoL xs) 0 mK217 (fun p : St => (none, HP c p)) (R_seekLaid_p69 N kb41 n r x1 x2 x3 x4) 69 [some (.ref 115), some (.int x1), some (.int x2), some (.int x3), some (.int x4)] [] (HP c r) := by
  intro n
  induction n with
  | zero => intro r x1 x2 x3 x4; exact Ok_none
  | succ n ih => intro r x1 x2 x3 x4; exact t_R_seekLaid_p69b N d xs c kb41 hb41 (R_seekLaid_p69 N kb41 n) ih r x1 x2 x3 x4
set_option maxHeartbeats 8000000 in
set_option maxRecDepth 100000 in
theorem t_R_seekLaid_p41b (N d : Nat) (xs : List Int32) (c : St) (kb41 : St → Int32 → Int32 → Int32 → Option (St)) (hb41 : ∀ (r : St) (x1 : Int32) (x2 : Int32) (x3 : Int32), Ok (mBig (mRoL xs) (d + 1)) (mRoL xs) 0 mK217 (fun p : St => (none, HP c p)) (kb41 r x1 x2 x3) 41 [some (.ref 115), some (.int x1), some (.int x2), some (.int x3), none] [] (HP c r)) (r : St) (x1 : Int32) (x2 : Int32) (x3 : Int32) : Ok (mBig (mRoL xs) (d + 1)) (mRoL xs) 0 mK217 (fun p : St => (none, HP c p)) (R_seekLaid_p41b N kb41 r x1 x2 x3) 41 [some (.ref 115), some (.int x1), some (.int x2), some (.int x3), none] [] (HP c r) := by
  unfold R_seekLaid_p41b
  refine Ok_blk 2 (pc2 := (if x3 < 0 then 253 else 45)) (lo2 := [some (.ref 115), some (.int x1), some (.int x2), some (.int x3), none]) (st2 := []) rfl ?_
  refine Ok_if (fun h4 => ?_) (fun h4 => ?_)
  · exact Ok_ret rfl rfl rfl
  · refine Ok_blk 4 (pc2 := (if ¬ x3 = (gI r 12) then 104 else 53)) (lo2 := [some (.ref 115), some (.int x1), some (.int x2), some (.int x3), none]) (st2 := []) rfl ?_
    refine Ok_if (fun h5 => ?_) (fun h5 => ?_)
    · refine Ok_blk 3 (pc2 := 109) (lo2 := [some (.ref 115), some (.int x1), some (.int x2), some (.int x3), none]) (st2 := [.int x3, .ref 150]) rfl ?_
      refine Ok_ld (l := (gA r 32)) rfl rfl (fun y6 hy6 => ?_)
      refine Ok_blk 2 (pc2 := (if y6 = (-1) then 129 else 114)) (lo2 := [some (.ref 115), some (.int x1), some (.int x2), some (.int x3), none]) (st2 := []) rfl ?_
      refine Ok_if (fun h7 => ?_) (fun h7 => ?_)
      · refine Ok_drop (lo0 := [some (.ref 115), some (.int x1), some (.int x2), some (.int x3), none]) ⟨Or.inr rfl, Or.inr rfl, Or.inr rfl, Or.inr rfl, Or.inl rfl, trivial⟩ ?_
        exact t_R_seekLaid_p129 N d xs c kb41 hb41 r x1 x2 x3
      · refine Ok_blk 5 (pc2 := 123) (lo2 := [some (.ref 115), some (.int x1), some (.int x2), some (.int x3), none]) (st2 := [.int x3, .ref 150, .ref 151]) rfl ?_
        refine Ok_ld (l := (gA r 32)) rfl rfl (fun y24 hy24 => ?_)
        refine Ok_blk 1 (pc2 := 125) (lo2 := [some (.ref 115), some (.int x1), some (.int x2), some (.int x3), none]) (st2 := [.int y24, .ref 151, .int y24, .ref 151]) rfl ?_
        refine Ok_ld (l := (gA r 33)) rfl rfl (fun y25 hy25 => ?_)
        refine Ok_blk 2 (pc2 := 128) (lo2 := [some (.ref 115), some (.int x1), some (.int x2), some (.int x3), none]) (st2 := [.int (y25 - 1), .int y24, .ref 151]) rfl ?_
        refine Ok_st (l := (gA r 33)) (hn := fun l' => HP c (sA r 33 l')) rfl rfl (fun l' => sa_151 _ _ l') (fun w26 hw26 => ?_)
        refine Ok_drop (lo0 := [some (.ref 115), some (.int x1), some (.int x2), some (.int x3), none]) ⟨Or.inr rfl, Or.inr rfl, Or.inr rfl, Or.inr rfl, Or.inl rfl, trivial⟩ ?_
        exact t_R_seekLaid_p129 N d xs c kb41 hb41 (sA r 33 w26) x1 x2 x3
    · refine Ok_blk 4 (pc2 := 59) (lo2 := [some (.ref 115), some (.int x1), some (.int x2), some (.int x3), none]) (st2 := [.int x3, .ref 152, .ref 115]) rfl ?_
      refine Ok_ld (l := (gA r 34)) rfl rfl (fun y27 hy27 => ?_)
      refine Ok_call (y := 215) (as := [.int y27]) (rest := [.ref 115]) (w := fun p28 => some (.int p28)) (h1 := fun p28 => HP c r) rfl rfl (fun x hx => tm_R_ones N d xs c r y27 x hx) (fun p28 hp28 => ?_)
      refine Ok_heap 1 (pc2 := 66) (lo2 := [some (.ref 115), some (.int x1), some (.int x2), some (.int x3), none]) (st2 := []) (h2 := HP c (sI r 33 p28)) rfl (st_115_70 _ _ _) ?_
      refine Ok_blk 2 (pc2 := 69) (lo2 := [some (.ref 115), some (.int x1), some (.int x2), some (.int x3), some (.int 0)]) (st2 := []) rfl ?_
      refine Ok_drop (lo0 := [some (.ref 115), some (.int x1), some (.int x2), some (.int x3), some (.int 0)]) ⟨Or.inr rfl, Or.inr rfl, Or.inr rfl, Or.inr rfl, Or.inr rfl, trivial⟩ ?_
      exact t_R_seekLaid_p69 N d xs c kb41 hb41 N (sI r 33 p28) x1 x2 x3 0
set_option maxHeartbeats 8000000 in
set_option maxRecDepth 100000 in
theorem t_R_seekLaid_p41 (N d : Nat) (xs : List Int32) (c : St) : ∀ (n : Nat) (r : St) (x1 : Int32) (x2 : Int32) (x3 : Int32), Ok (mBig (mRoL xs) (d + 1)) (mRoL xs) 0 mK217 (fun p : St => (none, HP c p)) (R_seekLaid_p41 N n r x1 x2 x3) 41 [some (.ref 115), some (.int x1), some (.int x2), some (.int x3), none] [] (HP c r) := by
  intro n
  induction n with
  | zero => intro r x1 x2 x3; exact Ok_none
  | succ n ih => intro r x1 x2 x3; exact t_R_seekLaid_p41b N d xs c (R_seekLaid_p41 N n) ih r x1 x2 x3
set_option maxHeartbeats 8000000 in
set_option maxRecDepth 100000 in
theorem t_R_seekLaid_p7b (N d : Nat) (xs : List Int32) (c : St) (kb7 : St → Int32 → Int32 → Int32 → Option (St)) (hb7 : ∀ (r : St) (x1 : Int32) (x2 : Int32) (x3 : Int32), Ok (mBig (mRoL xs) (d + 1)) (mRoL xs) 0 mK217 (fun p : St => (none, HP c p)) (kb7 r x1 x2 x3) 7 [some (.ref 115), some (.int x1), some (.int x2), some (.int x3), none] [] (HP c r)) (r : St) (x1 : Int32) (x2 : Int32) (x3 : Int32) : Ok (mBig (mRoL xs) (d + 1)) (mRoL xs) 0 mK217 (fun p : St => (none, HP c p)) (R_seekLaid_p7b N kb7 r x1 x2 x3) 7 [some (.ref 115), some (.int x1), some (.int x2), some (.int x3), none] [] (HP c r) := by
  unfold R_seekLaid_p7b
  refine Ok_blk 3 (pc2 := (if 4 ≤ x3 then 25 else 12)) (lo2 := [some (.ref 115), some (.int x1), some (.int x2), some (.int x3), none]) (st2 := []) rfl ?_
  refine Ok_if (fun h1 => ?_) (fun h1 => ?_)
  · refine Ok_blk 6 (pc2 := 33) (lo2 := [some (.ref 115), some (.int x1), some (.int x2), some (.int 0), none]) (st2 := [.int 0, .int 0, .ref 152]) rfl ?_
    refine Ok_st (l := (gA r 34)) (hn := fun l' => HP c (sA r 34 l')) rfl rfl (fun l' => sa_152 _ _ l') (fun w2 hw2 => ?_)
    refine Ok_blk 4 (pc2 := 40) (lo2 := [some (.ref 115), some (.int x1), some (.int x2), some (.int 0), none]) (st2 := [.int (-1), .int 0, .ref 150]) rfl ?_
    refine Ok_st (l := (gA (sA r 34 w2) 32)) (hn := fun l' => HP c (sA (sA r 34 w2) 32 l')) rfl rfl (fun l' => sa_150 _ _ l') (fun w3 hw3 => ?_)
    refine Ok_drop (lo0 := [some (.ref 115), some (.int x1), some (.int x2), some (.int 0), none]) ⟨Or.inr rfl, Or.inr rfl, Or.inr rfl, Or.inr rfl, Or.inl rfl, trivial⟩ ?_
    exact t_R_seekLaid_p41 N d xs c N (sA (sA r 34 w2) 32 w3) x1 x2 0
  · refine Ok_blk 4 (pc2 := 18) (lo2 := [some (.ref 115), some (.int x1), some (.int x2), some (.int x3), none]) (st2 := [.int 0, .int x3, .ref 151]) rfl ?_
    refine Ok_st (l := (gA r 33)) (hn := fun l' => HP c (sA r 33 l')) rfl rfl (fun l' => sa_151 _ _ l') (fun w32 hw32 => ?_)
    refine Ok_blk 2 (pc2 := 7) (lo2 := [some (.ref 115), some (.int x1), some (.int x2), some (.int (x3 + 1)), none]) (st2 := []) rfl ?_
    refine Ok_drop (lo0 := [some (.ref 115), some (.int x1), some (.int x2), some (.int (x3 + 1)), none]) ⟨Or.inr rfl, Or.inr rfl, Or.inr rfl, Or.inr rfl, Or.inl rfl, trivial⟩ ?_
    exact hb7 (sA r 33 w32) x1 x2 (x3 + 1)
set_option maxHeartbeats 8000000 in
set_option maxRecDepth 100000 in
theorem t_R_seekLaid_p7 (N d : Nat) (xs : List Int32) (c : St) : ∀ (n : Nat) (r : St) (x1 : Int32) (x2 : Int32) (x3 : Int32), Ok (mBig (mRoL xs) (d + 1)) (mRoL xs) 0 mK217 (fun p : St => (none, HP c p)) (R_seekLaid_p7 N n r x1 x2 x3) 7 [some (.ref 115), some (.int x1), some (.int x2), some (.int x3), none] [] (HP c r) := by
  intro n
  induction n with
  | zero => intro r x1 x2 x3; exact Ok_none
  | succ n ih => intro r x1 x2 x3; exact t_R_seekLaid_p7b N d xs c (R_seekLaid_p7 N n) ih r x1 x2 x3
set_option maxHeartbeats 8000000 in
set_option maxRecDepth 100000 in
theorem t_R_seekLaid (N d : Nat) (xs : List Int32) (c : St) (r : St) (x1 : Int32) (x2 : Int32) : Ok (mBig (mRoL xs) (d + 1)) (mRoL xs) 0 mK217 (fun p : St => (none, HP c p)) (R_seekLaid N r x1 x2) 0 [some (.ref 115), some (.int x1), some (.int x2), none, none] [] (HP c r) := by
  unfold R_seekLaid
  refine Ok_heap 3 (pc2 := 5) (lo2 := [some (.ref 115), some (.int x1), some (.int x2), none, none]) (st2 := []) (h2 := HP c (sI r 33 (-1))) rfl (st_115_70 _ _ _) ?_
  refine Ok_blk 2 (pc2 := 7) (lo2 := [some (.ref 115), some (.int x1), some (.int x2), some (.int 0), none]) (st2 := []) rfl ?_
  refine Ok_drop (lo0 := [some (.ref 115), some (.int x1), some (.int x2), some (.int 0), none]) ⟨Or.inr rfl, Or.inr rfl, Or.inr rfl, Or.inr rfl, Or.inl rfl, trivial⟩ ?_
  exact t_R_seekLaid_p7 N d xs c N (sI r 33 (-1)) x1 x2 0
set_option maxHeartbeats 8000000 in
set_option maxRecDepth 100000 in
theorem tm_R_seekLaid (N d : Nat) (xs : List Int32) (c r : St) (a1 : Int32) (a2 : Int32) (p : St) (hp : R_seekLaid N r a1 a2 = some p) : mBig (mRoL xs) (d + 2) 217 [.ref 115, .int a1, .int a2] (HP c r) (none) (HP c p) 0 0 := mBig_of (by decide) rfl rfl rfl rfl (t_R_seekLaid N d xs c r a1 a2 p hp)
/-! ColdHoldsModel.laid(III)I, from (('r', 115), 'i', 'i', 'i') -/
def R_laid_p34 (N : Nat) (r : St) : Option (Int32 × St) :=
  some ((-102), r)
def R_laid_p37 (N : Nat) (r : St) (x1 : Int32) (x2 : Int32) (x3 : Int32) : Option (Int32 × St) :=
  (if (gI r 12) ≤ (x1 * x2) then (R_seekLaid N r x1 x2).bind fun p7 => (if ¬ x3 = 0 then (if (gI p7 12) ≤ (x3 - 10) then some ((-1), p7) else (ld (gA p7 35) (x3 - 10)).bind fun y10 => some (y10, p7)) else some (gI p7 33, p7)) else some ((-1), r))
def R_laid (N : Nat) (r : St) (x1 : Int32) (x2 : Int32) (x3 : Int32) : Option (Int32 × St) :=
  (R_in N x1 1 4).bind fun p1 => (if p1 = 0 then R_laid_p34 N r else (R_in N x2 1 8).bind fun p3 => (if p3 = 0 then R_laid_p34 N r else (if x3 = 0 then R_laid_p37 N r x1 x2 x3 else (R_in N x3 10 17).bind fun p11 => (if ¬ p11 = 0 then R_laid_p37 N r x1 x2 x3 else R_laid_p34 N r))))
set_option maxHeartbeats 8000000 in
set_option maxRecDepth 100000 in
theorem t_R_laid_p34 (N d : Nat) (xs : List Int32) (c : St) (r : St) : Ok (mBig (mRoL xs) (d + 2)) (mRoL xs) 1 mK218 (fun p : Int32 × St => (some (.int p.1), HP c p.2)) (R_laid_p34 N r) 34 [none, none, none, none] [] (HP c r) := by
  unfold R_laid_p34
  refine Ok_blk 1 (pc2 := 36) (lo2 := [none, none, none, none]) (st2 := [.int (-102)]) rfl ?_
  exact Ok_ret rfl rfl rfl
set_option maxHeartbeats 8000000 in
set_option maxRecDepth 100000 in
theorem t_R_laid_p37 (N d : Nat) (xs : List Int32) (c : St) (r : St) (x1 : Int32) (x2 : Int32) (x3 : Int32) : Ok (mBig (mRoL xs) (d + 2)) (mRoL xs) 1 mK218 (fun p : Int32 × St => (some (.int p.1), HP c p.2)) (R_laid_p37 N r x1 x2 x3) 37 [some (.ref 115), some (.int x1), some (.int x2), some (.int x3)] [] (HP c r) := by
  unfold R_laid_p37
  refine Ok_blk 6 (pc2 := (if (gI r 12) ≤ (x1 * x2) then 49 else 47)) (lo2 := [some (.ref 115), some (.int x1), some (.int x2), some (.int x3)]) (st2 := []) rfl ?_
  refine Ok_if (fun h6 => ?_) (fun h6 => ?_)
  · refine Ok_blk 3 (pc2 := 52) (lo2 := [some (.ref 115), some (.int x1), some (.int x2), some (.int x3)]) (st2 := [.int x2, .int x1, .ref 115]) rfl ?_
    refine Ok_call (y := 217) (as := [.ref 115, .int x1, .int x2]) (rest := []) (w := fun p7 => none) (h1 := fun p7 => HP c p7) rfl rfl (fun x hx => tm_R_seekLaid N d xs c r x1 x2 x hx) (fun p7 hp7 => ?_)
    refine Ok_blk 2 (pc2 := (if ¬ x3 = 0 then 64 else 59)) (lo2 := [some (.ref 115), some (.int x1), some (.int x2), some (.int x3)]) (st2 := []) rfl ?_
    refine Ok_if (fun h8 => ?_) (fun h8 => ?_)
    · refine Ok_blk 6 (pc2 := (if (gI p7 12) ≤ (x3 - 10) then 87 else 75)) (lo2 := [some (.ref 115), some (.int x1), some (.int x2), some (.int x3)]) (st2 := []) rfl ?_
      refine Ok_if (fun h9 => ?_) (fun h9 => ?_)
      · refine Ok_blk 1 (pc2 := 88) (lo2 := [some (.ref 115), some (.int x1), some (.int x2), some (.int x3)]) (st2 := [.int (-1)]) rfl ?_
        exact Ok_ret rfl rfl rfl
      · refine Ok_blk 5 (pc2 := 83) (lo2 := [some (.ref 115), some (.int x1), some (.int x2), some (.int x3)]) (st2 := [.int (x3 - 10), .ref 153]) rfl ?_
        refine Ok_ld (l := (gA p7 35)) rfl rfl (fun y10 hy10 => ?_)
        refine Ok_blk 1 (pc2 := 88) (lo2 := [some (.ref 115), some (.int x1), some (.int x2), some (.int x3)]) (st2 := [.int y10]) rfl ?_
        exact Ok_ret rfl rfl rfl
    · refine Ok_blk 2 (pc2 := 63) (lo2 := [some (.ref 115), some (.int x1), some (.int x2), some (.int x3)]) (st2 := [.int (gI p7 33)]) rfl ?_
      exact Ok_ret rfl rfl rfl
  · refine Ok_blk 1 (pc2 := 48) (lo2 := [some (.ref 115), some (.int x1), some (.int x2), some (.int x3)]) (st2 := [.int (-1)]) rfl ?_
    exact Ok_ret rfl rfl rfl
set_option maxHeartbeats 8000000 in
set_option maxRecDepth 100000 in
theorem t_R_laid (N d : Nat) (xs : List Int32) (c : St) (r : St) (x1 : Int32) (x2 : Int32) (x3 : Int32) : Ok (mBig (mRoL xs) (d + 2)) (mRoL xs) 1 mK218 (fun p : Int32 × St => (some (.int p.1), HP c p.2)) (R_laid N r x1 x2 x3) 0 [some (.ref 115), some (.int x1), some (.int x2), some (.int x3)] [] (HP c r) := by
  unfold R_laid
  refine Ok_blk 3 (pc2 := 3) (lo2 := [some (.ref 115), some (.int x1), some (.int x2), some (.int x3)]) (st2 := [.int 4, .int 1, .int x1]) rfl ?_
  refine Ok_call (y := 164) (as := [.int x1, .int 1, .int 4]) (rest := []) (w := fun p1 => some (.int p1)) (h1 := fun p1 => HP c r) rfl rfl (fun x hx => tm_R_in N (d + 1) xs c r x1 1 4 x hx) (fun p1 hp1 => ?_)
  refine Ok_blk 1 (pc2 := (if p1 = 0 then 34 else 9)) (lo2 := [some (.ref 115), some (.int x1), some (.int x2), some (.int x3)]) (st2 := []) rfl ?_
  refine Ok_if (fun h2 => ?_) (fun h2 => ?_)
  · refine Ok_drop (lo0 := [none, none, none, none]) ⟨Or.inl rfl, Or.inl rfl, Or.inl rfl, Or.inl rfl, trivial⟩ ?_
    exact t_R_laid_p34 N d xs c r
  · refine Ok_blk 3 (pc2 := 13) (lo2 := [some (.ref 115), some (.int x1), some (.int x2), some (.int x3)]) (st2 := [.int 8, .int 1, .int x2]) rfl ?_
    refine Ok_call (y := 164) (as := [.int x2, .int 1, .int 8]) (rest := []) (w := fun p3 => some (.int p3)) (h1 := fun p3 => HP c r) rfl rfl (fun x hx => tm_R_in N (d + 1) xs c r x2 1 8 x hx) (fun p3 hp3 => ?_)
    refine Ok_blk 1 (pc2 := (if p3 = 0 then 34 else 19)) (lo2 := [some (.ref 115), some (.int x1), some (.int x2), some (.int x3)]) (st2 := []) rfl ?_
    refine Ok_if (fun h4 => ?_) (fun h4 => ?_)
    · refine Ok_drop (lo0 := [none, none, none, none]) ⟨Or.inl rfl, Or.inl rfl, Or.inl rfl, Or.inl rfl, trivial⟩ ?_
      exact t_R_laid_p34 N d xs c r
    · refine Ok_blk 2 (pc2 := (if x3 = 0 then 37 else 23)) (lo2 := [some (.ref 115), some (.int x1), some (.int x2), some (.int x3)]) (st2 := []) rfl ?_
      refine Ok_if (fun h5 => ?_) (fun h5 => ?_)
      · refine Ok_drop (lo0 := [some (.ref 115), some (.int x1), some (.int x2), some (.int x3)]) ⟨Or.inr rfl, Or.inr rfl, Or.inr rfl, Or.inr rfl, trivial⟩ ?_
        exact t_R_laid_p37 N d xs c r x1 x2 x3
      · refine Ok_blk 3 (pc2 := 28) (lo2 := [some (.ref 115), some (.int x1), some (.int x2), some (.int x3)]) (st2 := [.int 17, .int 10, .int x3]) rfl ?_
        refine Ok_call (y := 164) (as := [.int x3, .int 10, .int 17]) (rest := []) (w := fun p11 => some (.int p11)) (h1 := fun p11 => HP c r) rfl rfl (fun x hx => tm_R_in N (d + 1) xs c r x3 10 17 x hx) (fun p11 hp11 => ?_)
        refine Ok_blk 1 (pc2 := (if ¬ p11 = 0 then 37 else 34)) (lo2 := [some (.ref 115), some (.int x1), some (.int x2), some (.int x3)]) (st2 := []) rfl ?_
        refine Ok_if (fun h12 => ?_) (fun h12 => ?_)
        · refine Ok_drop (lo0 := [some (.ref 115), some (.int x1), some (.int x2), some (.int x3)]) ⟨Or.inr rfl, Or.inr rfl, Or.inr rfl, Or.inr rfl, trivial⟩ ?_
          exact t_R_laid_p37 N d xs c r x1 x2 x3
        · refine Ok_drop (lo0 := [none, none, none, none]) ⟨Or.inl rfl, Or.inl rfl, Or.inl rfl, Or.inl rfl, trivial⟩ ?_
          exact t_R_laid_p34 N d xs c r
set_option maxHeartbeats 8000000 in
set_option maxRecDepth 100000 in
theorem tm_R_laid (N d : Nat) (xs : List Int32) (c r : St) (a1 : Int32) (a2 : Int32) (a3 : Int32) (p : Int32 × St) (hp : R_laid N r a1 a2 a3 = some p) : mBig (mRoL xs) (d + 3) 218 [.ref 115, .int a1, .int a2, .int a3] (HP c r) (some (.int p.1)) (HP c p.2) 0 0 := mBig_of (by decide) rfl rfl rfl rfl (t_R_laid N d xs c r a1 a2 a3 p hp)
/-! ColdHolds$Drive.add(II)I, from (('r', 67), 'i', 'i') -/
def Drive_add (N : Nat) (c : St) (x1 : Int32) (x2 : Int32) : Option (Int32 × St) :=
  (if (gI c 21) < 6 then (sto (gA c 62) (gI c 21) x1).bind fun w2 => (sto (gA (sA c 62 w2) 63) (gI (sA c 62 w2) 21) x2).bind fun w3 => some ((gI (sI (sA (sA c 62 w2) 63 w3) 21 ((gI (sA (sA c 62 w2) 63 w3) 21) + 1)) 21) - 1, sI (sA (sA c 62 w2) 63 w3) 21 ((gI (sA (sA c 62 w2) 63 w3) 21) + 1)) else some ((-104), c))
set_option maxHeartbeats 8000000 in
set_option maxRecDepth 100000 in
theorem t_Drive_add (N d : Nat) (xs : List Int32) (r : St) (c : St) (x1 : Int32) (x2 : Int32) : Ok (mBig (mRoL xs) (d)) (mRoL xs) 1 mK13 (fun p : Int32 × St => (some (.int p.1), HP p.2 r)) (Drive_add N c x1 x2) 0 [some (.ref 67), some (.int x1), some (.int x2)] [] (HP c r) := by
  unfold Drive_add
  refine Ok_blk 4 (pc2 := (if (gI c 21) < 6 then 12 else 9)) (lo2 := [some (.ref 67), some (.int x1), some (.int x2)]) (st2 := []) rfl ?_
  refine Ok_if (fun h1 => ?_) (fun h1 => ?_)
  · refine Ok_blk 5 (pc2 := 21) (lo2 := [some (.ref 67), some (.int x1), some (.int x2)]) (st2 := [.int x1, .int (gI c 21), .ref 76]) rfl ?_
    refine Ok_st (l := (gA c 62)) (hn := fun l' => HP (sA c 62 l') r) rfl rfl (fun l' => sa_76 _ _ l') (fun w2 hw2 => ?_)
    refine Ok_blk 5 (pc2 := 31) (lo2 := [some (.ref 67), some (.int x1), some (.int x2)]) (st2 := [.int x2, .int (gI (sA c 62 w2) 21), .ref 77]) rfl ?_
    refine Ok_st (l := (gA (sA c 62 w2) 63)) (hn := fun l' => HP (sA (sA c 62 w2) 63 l') r) rfl rfl (fun l' => sa_77 _ _ l') (fun w3 hw3 => ?_)
    refine Ok_heap 6 (pc2 := 42) (lo2 := [some (.ref 67), some (.int x1), some (.int x2)]) (st2 := []) (h2 := HP (sI (sA (sA c 62 w2) 63 w3) 21 ((gI (sA (sA c 62 w2) 63 w3) 21) + 1)) r) rfl (st_67_2 _ _ _) ?_
    refine Ok_blk 4 (pc2 := 48) (lo2 := [some (.ref 67), some (.int x1), some (.int x2)]) (st2 := [.int ((gI (sI (sA (sA c 62 w2) 63 w3) 21 ((gI (sA (sA c 62 w2) 63 w3) 21) + 1)) 21) - 1)]) rfl ?_
    exact Ok_ret rfl rfl rfl
  · refine Ok_blk 1 (pc2 := 11) (lo2 := [some (.ref 67), some (.int x1), some (.int x2)]) (st2 := [.int (-104)]) rfl ?_
    exact Ok_ret rfl rfl rfl
set_option maxHeartbeats 8000000 in
set_option maxRecDepth 100000 in
theorem tm_Drive_add (N d : Nat) (xs : List Int32) (c r : St) (a1 : Int32) (a2 : Int32) (p : Int32 × St) (hp : Drive_add N c a1 a2 = some p) : mBig (mRoL xs) (d + 1) 13 [.ref 67, .int a1, .int a2] (HP c r) (some (.int p.1)) (HP p.2 r) 0 0 := mBig_of (by decide) rfl rfl rfl rfl (t_Drive_add N d xs r c a1 a2 p hp)
/-! ColdHolds.flock(II)I, from (('r', 0), 'i', 'i') -/
def C_flock_p21 (N : Nat) (c : St) : Option (Int32 × St) :=
  some ((-102), c)
def C_flock (N : Nat) (c : St) (x1 : Int32) (x2 : Int32) : Option (Int32 × St) :=
  (C_within N x1 1 999).bind fun p1 => (if p1 = 0 then C_flock_p21 N c else (C_within N x2 1 99).bind fun p3 => (if ¬ p3 = 0 then (Drive_add N c x1 x2).bind fun p5 => some (p5.1, p5.2) else C_flock_p21 N c))
set_option maxHeartbeats 8000000 in
set_option maxRecDepth 100000 in
theorem t_C_flock_p21 (N d : Nat) (xs : List Int32) (r : St) (c : St) : Ok (mBig (mRoL xs) (d + 1)) (mRoL xs) 1 mK138 (fun p : Int32 × St => (some (.int p.1), HP p.2 r)) (C_flock_p21 N c) 21 [none, none, none] [] (HP c r) := by
  unfold C_flock_p21
  refine Ok_blk 1 (pc2 := 23) (lo2 := [none, none, none]) (st2 := [.int (-102)]) rfl ?_
  exact Ok_ret rfl rfl rfl
set_option maxHeartbeats 8000000 in
set_option maxRecDepth 100000 in
theorem t_C_flock (N d : Nat) (xs : List Int32) (r : St) (c : St) (x1 : Int32) (x2 : Int32) : Ok (mBig (mRoL xs) (d + 1)) (mRoL xs) 1 mK138 (fun p : Int32 × St => (some (.int p.1), HP p.2 r)) (C_flock N c x1 x2) 0 [some (.ref 0), some (.int x1), some (.int x2)] [] (HP c r) := by
  unfold C_flock
  refine Ok_blk 3 (pc2 := 5) (lo2 := [some (.ref 0), some (.int x1), some (.int x2)]) (st2 := [.int 999, .int 1, .int x1]) rfl ?_
  refine Ok_call (y := 102) (as := [.int x1, .int 1, .int 999]) (rest := []) (w := fun p1 => some (.int p1)) (h1 := fun p1 => HP c r) rfl rfl (fun x hx => tm_C_within N d xs c r x1 1 999 x hx) (fun p1 hp1 => ?_)
  refine Ok_blk 1 (pc2 := (if p1 = 0 then 21 else 11)) (lo2 := [some (.ref 0), some (.int x1), some (.int x2)]) (st2 := []) rfl ?_
  refine Ok_if (fun h2 => ?_) (fun h2 => ?_)
  · refine Ok_drop (lo0 := [none, none, none]) ⟨Or.inl rfl, Or.inl rfl, Or.inl rfl, trivial⟩ ?_
    exact t_C_flock_p21 N d xs r c
  · refine Ok_blk 3 (pc2 := 15) (lo2 := [some (.ref 0), some (.int x1), some (.int x2)]) (st2 := [.int 99, .int 1, .int x2]) rfl ?_
    refine Ok_call (y := 102) (as := [.int x2, .int 1, .int 99]) (rest := []) (w := fun p3 => some (.int p3)) (h1 := fun p3 => HP c r) rfl rfl (fun x hx => tm_C_within N d xs c r x2 1 99 x hx) (fun p3 hp3 => ?_)
    refine Ok_blk 1 (pc2 := (if ¬ p3 = 0 then 24 else 21)) (lo2 := [some (.ref 0), some (.int x1), some (.int x2)]) (st2 := []) rfl ?_
    refine Ok_if (fun h4 => ?_) (fun h4 => ?_)
    · refine Ok_blk 4 (pc2 := 30) (lo2 := [some (.ref 0), some (.int x1), some (.int x2)]) (st2 := [.int x2, .int x1, .ref 67]) rfl ?_
      refine Ok_call (y := 13) (as := [.ref 67, .int x1, .int x2]) (rest := []) (w := fun p5 => some (.int p5.1)) (h1 := fun p5 => HP p5.2 r) rfl rfl (fun x hx => tm_Drive_add N d xs c r x1 x2 x hx) (fun p5 hp5 => ?_)
      exact Ok_ret rfl rfl rfl
    · refine Ok_drop (lo0 := [none, none, none]) ⟨Or.inl rfl, Or.inl rfl, Or.inl rfl, trivial⟩ ?_
      exact t_C_flock_p21 N d xs r c
set_option maxHeartbeats 8000000 in
set_option maxRecDepth 100000 in
theorem tm_C_flock (N d : Nat) (xs : List Int32) (c r : St) (a1 : Int32) (a2 : Int32) (p : Int32 × St) (hp : C_flock N c a1 a2 = some p) : mBig (mRoL xs) (d + 2) 138 [.ref 0, .int a1, .int a2] (HP c r) (some (.int p.1)) (HP p.2 r) 0 0 := mBig_of (by decide) rfl rfl rfl rfl (t_C_flock N d xs r c a1 a2 p hp)
/-! ColdHoldsModel.flock(II)I, from (('r', 115), 'i', 'i') -/
def R_flock_p21 (N : Nat) (r : St) : Option (Int32 × St) :=
  some ((-102), r)
def R_flock (N : Nat) (r : St) (x1 : Int32) (x2 : Int32) : Option (Int32 × St) :=
  (R_in N x1 1 999).bind fun p1 => (if p1 = 0 then R_flock_p21 N r else (R_in N x2 1 99).bind fun p3 => (if ¬ p3 = 0 then (if ¬ (gI r 13) = 6 then (sto (gA r 16) (gI r 13) x1).bind fun w6 => (sto (gA (sA r 16 w6) 17) (gI (sA r 16 w6) 13) x2).bind fun w7 => some ((gI (sI (sA (sA r 16 w6) 17 w7) 13 ((gI (sA (sA r 16 w6) 17 w7) 13) + 1)) 13) - 1, sI (sA (sA r 16 w6) 17 w7) 13 ((gI (sA (sA r 16 w6) 17 w7) 13) + 1)) else some ((-104), r)) else R_flock_p21 N r))
set_option maxHeartbeats 8000000 in
set_option maxRecDepth 100000 in
theorem t_R_flock_p21 (N d : Nat) (xs : List Int32) (c : St) (r : St) : Ok (mBig (mRoL xs) (d + 1)) (mRoL xs) 1 mK220 (fun p : Int32 × St => (some (.int p.1), HP c p.2)) (R_flock_p21 N r) 21 [none, none, none] [] (HP c r) := by
  unfold R_flock_p21
  refine Ok_blk 1 (pc2 := 23) (lo2 := [none, none, none]) (st2 := [.int (-102)]) rfl ?_
  exact Ok_ret rfl rfl rfl
set_option maxHeartbeats 8000000 in
set_option maxRecDepth 100000 in
theorem t_R_flock (N d : Nat) (xs : List Int32) (c : St) (r : St) (x1 : Int32) (x2 : Int32) : Ok (mBig (mRoL xs) (d + 1)) (mRoL xs) 1 mK220 (fun p : Int32 × St => (some (.int p.1), HP c p.2)) (R_flock N r x1 x2) 0 [some (.ref 115), some (.int x1), some (.int x2)] [] (HP c r) := by
  unfold R_flock
  refine Ok_blk 3 (pc2 := 5) (lo2 := [some (.ref 115), some (.int x1), some (.int x2)]) (st2 := [.int 999, .int 1, .int x1]) rfl ?_
  refine Ok_call (y := 164) (as := [.int x1, .int 1, .int 999]) (rest := []) (w := fun p1 => some (.int p1)) (h1 := fun p1 => HP c r) rfl rfl (fun x hx => tm_R_in N d xs c r x1 1 999 x hx) (fun p1 hp1 => ?_)
  refine Ok_blk 1 (pc2 := (if p1 = 0 then 21 else 11)) (lo2 := [some (.ref 115), some (.int x1), some (.int x2)]) (st2 := []) rfl ?_
  refine Ok_if (fun h2 => ?_) (fun h2 => ?_)
  · refine Ok_drop (lo0 := [none, none, none]) ⟨Or.inl rfl, Or.inl rfl, Or.inl rfl, trivial⟩ ?_
    exact t_R_flock_p21 N d xs c r
  · refine Ok_blk 3 (pc2 := 15) (lo2 := [some (.ref 115), some (.int x1), some (.int x2)]) (st2 := [.int 99, .int 1, .int x2]) rfl ?_
    refine Ok_call (y := 164) (as := [.int x2, .int 1, .int 99]) (rest := []) (w := fun p3 => some (.int p3)) (h1 := fun p3 => HP c r) rfl rfl (fun x hx => tm_R_in N d xs c r x2 1 99 x hx) (fun p3 hp3 => ?_)
    refine Ok_blk 1 (pc2 := (if ¬ p3 = 0 then 24 else 21)) (lo2 := [some (.ref 115), some (.int x1), some (.int x2)]) (st2 := []) rfl ?_
    refine Ok_if (fun h4 => ?_) (fun h4 => ?_)
    · refine Ok_blk 4 (pc2 := (if ¬ (gI r 13) = 6 then 36 else 33)) (lo2 := [some (.ref 115), some (.int x1), some (.int x2)]) (st2 := []) rfl ?_
      refine Ok_if (fun h5 => ?_) (fun h5 => ?_)
      · refine Ok_blk 5 (pc2 := 45) (lo2 := [some (.ref 115), some (.int x1), some (.int x2)]) (st2 := [.int x1, .int (gI r 13), .ref 132]) rfl ?_
        refine Ok_st (l := (gA r 16)) (hn := fun l' => HP c (sA r 16 l')) rfl rfl (fun l' => sa_132 _ _ l') (fun w6 hw6 => ?_)
        refine Ok_blk 5 (pc2 := 55) (lo2 := [some (.ref 115), some (.int x1), some (.int x2)]) (st2 := [.int x2, .int (gI (sA r 16 w6) 13), .ref 133]) rfl ?_
        refine Ok_st (l := (gA (sA r 16 w6) 17)) (hn := fun l' => HP c (sA (sA r 16 w6) 17 l')) rfl rfl (fun l' => sa_133 _ _ l') (fun w7 hw7 => ?_)
        refine Ok_heap 6 (pc2 := 66) (lo2 := [some (.ref 115), some (.int x1), some (.int x2)]) (st2 := []) (h2 := HP c (sI (sA (sA r 16 w6) 17 w7) 13 ((gI (sA (sA r 16 w6) 17 w7) 13) + 1))) rfl (st_115_29 _ _ _) ?_
        refine Ok_blk 4 (pc2 := 72) (lo2 := [some (.ref 115), some (.int x1), some (.int x2)]) (st2 := [.int ((gI (sI (sA (sA r 16 w6) 17 w7) 13 ((gI (sA (sA r 16 w6) 17 w7) 13) + 1)) 13) - 1)]) rfl ?_
        exact Ok_ret rfl rfl rfl
      · refine Ok_blk 1 (pc2 := 35) (lo2 := [some (.ref 115), some (.int x1), some (.int x2)]) (st2 := [.int (-104)]) rfl ?_
        exact Ok_ret rfl rfl rfl
    · refine Ok_drop (lo0 := [none, none, none]) ⟨Or.inl rfl, Or.inl rfl, Or.inl rfl, trivial⟩ ?_
      exact t_R_flock_p21 N d xs c r
set_option maxHeartbeats 8000000 in
set_option maxRecDepth 100000 in
theorem tm_R_flock (N d : Nat) (xs : List Int32) (c r : St) (a1 : Int32) (a2 : Int32) (p : Int32 × St) (hp : R_flock N r a1 a2 = some p) : mBig (mRoL xs) (d + 2) 220 [.ref 115, .int a1, .int a2] (HP c r) (some (.int p.1)) (HP c p.2) 0 0 := mBig_of (by decide) rfl rfl rfl rfl (t_R_flock N d xs c r a1 a2 p hp)
/-! ColdHolds.change([III)I, from (('r', 68), 'i', 'i') -/
def C_change_6 (N : Nat) (c : St) (x1 : Int32) (x2 : Int32) : Option (Int32 × St) :=
  (ld (gA c 55) x1).bind fun y1 => (sto (gA c 55) x1 x2).bind fun w2 => some (y1, sA c 55 w2)
set_option maxHeartbeats 8000000 in
set_option maxRecDepth 100000 in
theorem t_C_change_6 (N d : Nat) (xs : List Int32) (r : St) (c : St) (x1 : Int32) (x2 : Int32) : Ok (mBig (mRoL xs) (d)) (mRoL xs) 1 mK105 (fun p : Int32 × St => (some (.int p.1), HP p.2 r)) (C_change_6 N c x1 x2) 0 [some (.ref 68), some (.int x1), some (.int x2), none] [] (HP c r) := by
  unfold C_change_6
  refine Ok_blk 2 (pc2 := 2) (lo2 := [some (.ref 68), some (.int x1), some (.int x2), none]) (st2 := [.int x1, .ref 68]) rfl ?_
  refine Ok_ld (l := (gA c 55)) rfl rfl (fun y1 hy1 => ?_)
  refine Ok_blk 4 (pc2 := 7) (lo2 := [some (.ref 68), some (.int x1), some (.int x2), some (.int y1)]) (st2 := [.int x2, .int x1, .ref 68]) rfl ?_
  refine Ok_st (l := (gA c 55)) (hn := fun l' => HP (sA c 55 l') r) rfl rfl (fun l' => sa_68 _ _ l') (fun w2 hw2 => ?_)
  refine Ok_blk 1 (pc2 := 9) (lo2 := [some (.ref 68), some (.int x1), some (.int x2), some (.int y1)]) (st2 := [.int y1]) rfl ?_
  exact Ok_ret rfl rfl rfl
set_option maxHeartbeats 8000000 in
set_option maxRecDepth 100000 in
theorem tm_C_change_6 (N d : Nat) (xs : List Int32) (c r : St) (a1 : Int32) (a2 : Int32) (p : Int32 × St) (hp : C_change_6 N c a1 a2 = some p) : mBig (mRoL xs) (d + 1) 105 [.ref 68, .int a1, .int a2] (HP c r) (some (.int p.1)) (HP p.2 r) 0 0 := mBig_of (by decide) rfl rfl rfl rfl (t_C_change_6 N d xs r c a1 a2 p hp)
/-! ColdHolds.works(II)I, from (('r', 0), 'i', 'i') -/
def C_works (N : Nat) (c : St) (x1 : Int32) (x2 : Int32) : Option (Int32 × St) :=
  (C_within N x1 0 3).bind fun p1 => (if ¬ p1 = 0 then (C_within N x2 0 9999).bind fun p3 => (if ¬ p3 = 0 then (C_change_6 N c x1 x2).bind fun p5 => some (p5.1, p5.2) else some ((-102), c)) else some ((-101), c))
set_option maxHeartbeats 8000000 in
set_option maxRecDepth 100000 in
theorem t_C_works (N d : Nat) (xs : List Int32) (r : St) (c : St) (x1 : Int32) (x2 : Int32) : Ok (mBig (mRoL xs) (d + 1)) (mRoL xs) 1 mK139 (fun p : Int32 × St => (some (.int p.1), HP p.2 r)) (C_works N c x1 x2) 0 [some (.ref 0), some (.int x1), some (.int x2)] [] (HP c r) := by
  unfold C_works
  refine Ok_blk 3 (pc2 := 3) (lo2 := [some (.ref 0), some (.int x1), some (.int x2)]) (st2 := [.int 3, .int 0, .int x1]) rfl ?_
  refine Ok_call (y := 102) (as := [.int x1, .int 0, .int 3]) (rest := []) (w := fun p1 => some (.int p1)) (h1 := fun p1 => HP c r) rfl rfl (fun x hx => tm_C_within N d xs c r x1 0 3 x hx) (fun p1 hp1 => ?_)
  refine Ok_blk 1 (pc2 := (if ¬ p1 = 0 then 12 else 9)) (lo2 := [some (.ref 0), some (.int x1), some (.int x2)]) (st2 := []) rfl ?_
  refine Ok_if (fun h2 => ?_) (fun h2 => ?_)
  · refine Ok_blk 3 (pc2 := 17) (lo2 := [some (.ref 0), some (.int x1), some (.int x2)]) (st2 := [.int 9999, .int 0, .int x2]) rfl ?_
    refine Ok_call (y := 102) (as := [.int x2, .int 0, .int 9999]) (rest := []) (w := fun p3 => some (.int p3)) (h1 := fun p3 => HP c r) rfl rfl (fun x hx => tm_C_within N d xs c r x2 0 9999 x hx) (fun p3 hp3 => ?_)
    refine Ok_blk 1 (pc2 := (if ¬ p3 = 0 then 26 else 23)) (lo2 := [some (.ref 0), some (.int x1), some (.int x2)]) (st2 := []) rfl ?_
    refine Ok_if (fun h4 => ?_) (fun h4 => ?_)
    · refine Ok_blk 5 (pc2 := 35) (lo2 := [some (.ref 0), some (.int x1), some (.int x2)]) (st2 := [.int x2, .int x1, .ref 68]) rfl ?_
      refine Ok_call (y := 105) (as := [.ref 68, .int x1, .int x2]) (rest := []) (w := fun p5 => some (.int p5.1)) (h1 := fun p5 => HP p5.2 r) rfl rfl (fun x hx => tm_C_change_6 N d xs c r x1 x2 x hx) (fun p5 hp5 => ?_)
      exact Ok_ret rfl rfl rfl
    · refine Ok_blk 1 (pc2 := 25) (lo2 := [some (.ref 0), some (.int x1), some (.int x2)]) (st2 := [.int (-102)]) rfl ?_
      exact Ok_ret rfl rfl rfl
  · refine Ok_blk 1 (pc2 := 11) (lo2 := [some (.ref 0), some (.int x1), some (.int x2)]) (st2 := [.int (-101)]) rfl ?_
    exact Ok_ret rfl rfl rfl
set_option maxHeartbeats 8000000 in
set_option maxRecDepth 100000 in
theorem tm_C_works (N d : Nat) (xs : List Int32) (c r : St) (a1 : Int32) (a2 : Int32) (p : Int32 × St) (hp : C_works N c a1 a2 = some p) : mBig (mRoL xs) (d + 2) 139 [.ref 0, .int a1, .int a2] (HP c r) (some (.int p.1)) (HP p.2 r) 0 0 := mBig_of (by decide) rfl rfl rfl rfl (t_C_works N d xs r c a1 a2 p hp)
/-! ColdHoldsModel.works(II)I, from (('r', 115), 'i', 'i') -/
def R_works (N : Nat) (r : St) (x1 : Int32) (x2 : Int32) : Option (Int32 × St) :=
  (R_in N x1 0 3).bind fun p1 => (if ¬ p1 = 0 then (R_in N x2 0 9999).bind fun p3 => (if ¬ p3 = 0 then (ld (gA r 19) x1).bind fun y5 => (sto (gA r 19) x1 x2).bind fun w6 => some (y5, sA r 19 w6) else some ((-102), r)) else some ((-101), r))
set_option maxHeartbeats 8000000 in
set_option maxRecDepth 100000 in
theorem t_R_works (N d : Nat) (xs : List Int32) (c : St) (r : St) (x1 : Int32) (x2 : Int32) : Ok (mBig (mRoL xs) (d + 1)) (mRoL xs) 1 mK221 (fun p : Int32 × St => (some (.int p.1), HP c p.2)) (R_works N r x1 x2) 0 [some (.ref 115), some (.int x1), some (.int x2), none] [] (HP c r) := by
  unfold R_works
  refine Ok_blk 3 (pc2 := 3) (lo2 := [some (.ref 115), some (.int x1), some (.int x2), none]) (st2 := [.int 3, .int 0, .int x1]) rfl ?_
  refine Ok_call (y := 164) (as := [.int x1, .int 0, .int 3]) (rest := []) (w := fun p1 => some (.int p1)) (h1 := fun p1 => HP c r) rfl rfl (fun x hx => tm_R_in N d xs c r x1 0 3 x hx) (fun p1 hp1 => ?_)
  refine Ok_blk 1 (pc2 := (if ¬ p1 = 0 then 12 else 9)) (lo2 := [some (.ref 115), some (.int x1), some (.int x2), none]) (st2 := []) rfl ?_
  refine Ok_if (fun h2 => ?_) (fun h2 => ?_)
  · refine Ok_blk 3 (pc2 := 17) (lo2 := [some (.ref 115), some (.int x1), some (.int x2), none]) (st2 := [.int 9999, .int 0, .int x2]) rfl ?_
    refine Ok_call (y := 164) (as := [.int x2, .int 0, .int 9999]) (rest := []) (w := fun p3 => some (.int p3)) (h1 := fun p3 => HP c r) rfl rfl (fun x hx => tm_R_in N d xs c r x2 0 9999 x hx) (fun p3 hp3 => ?_)
    refine Ok_blk 1 (pc2 := (if ¬ p3 = 0 then 26 else 23)) (lo2 := [some (.ref 115), some (.int x1), some (.int x2), none]) (st2 := []) rfl ?_
    refine Ok_if (fun h4 => ?_) (fun h4 => ?_)
    · refine Ok_blk 3 (pc2 := 31) (lo2 := [some (.ref 115), some (.int x1), some (.int x2), none]) (st2 := [.int x1, .ref 135]) rfl ?_
      refine Ok_ld (l := (gA r 19)) rfl rfl (fun y5 hy5 => ?_)
      refine Ok_blk 5 (pc2 := 39) (lo2 := [some (.ref 115), some (.int x1), some (.int x2), some (.int y5)]) (st2 := [.int x2, .int x1, .ref 135]) rfl ?_
      refine Ok_st (l := (gA r 19)) (hn := fun l' => HP c (sA r 19 l')) rfl rfl (fun l' => sa_135 _ _ l') (fun w6 hw6 => ?_)
      refine Ok_blk 1 (pc2 := 41) (lo2 := [some (.ref 115), some (.int x1), some (.int x2), some (.int y5)]) (st2 := [.int y5]) rfl ?_
      exact Ok_ret rfl rfl rfl
    · refine Ok_blk 1 (pc2 := 25) (lo2 := [some (.ref 115), some (.int x1), some (.int x2), none]) (st2 := [.int (-102)]) rfl ?_
      exact Ok_ret rfl rfl rfl
  · refine Ok_blk 1 (pc2 := 11) (lo2 := [some (.ref 115), some (.int x1), some (.int x2), none]) (st2 := [.int (-101)]) rfl ?_
    exact Ok_ret rfl rfl rfl
set_option maxHeartbeats 8000000 in
set_option maxRecDepth 100000 in
theorem tm_R_works (N d : Nat) (xs : List Int32) (c r : St) (a1 : Int32) (a2 : Int32) (p : Int32 × St) (hp : R_works N r a1 a2 = some p) : mBig (mRoL xs) (d + 2) 221 [.ref 115, .int a1, .int a2] (HP c r) (some (.int p.1)) (HP c p.2) 0 0 := mBig_of (by decide) rfl rfl rfl rfl (t_R_works N d xs c r a1 a2 p hp)
/-! ColdHolds.change([III)I, from ('row', 'i', 'i') -/
def C_change_7 (N : Nat) (j0 : Nat) (c : St) (x1 : Int32) (x2 : Int32) : Option (Int32 × St) :=
  (ld (gA c j0) x1).bind fun y1 => (sto (gA c j0) x1 x2).bind fun w2 => some (y1, sA c j0 w2)
set_option maxHeartbeats 8000000 in
set_option maxRecDepth 100000 in
theorem t_C_change_7 (N d : Nat) (xs : List Int32) (r : St) (k0 j0 : Nat) (hk0 : AR k0 j0) (c : St) (x1 : Int32) (x2 : Int32) : Ok (mBig (mRoL xs) (d)) (mRoL xs) 1 mK105 (fun p : Int32 × St => (some (.int p.1), HP p.2 r)) (C_change_7 N j0 c x1 x2) 0 [some (.ref k0), some (.int x1), some (.int x2), none] [] (HP c r) := by
  unfold C_change_7
  refine Ok_blk 2 (pc2 := 2) (lo2 := [some (.ref k0), some (.int x1), some (.int x2), none]) (st2 := [.int x1, .ref k0]) rfl ?_
  refine Ok_ld (l := (gA c j0)) rfl (hk0.row _ _ _) (fun y1 hy1 => ?_)
  refine Ok_blk 4 (pc2 := 7) (lo2 := [some (.ref k0), some (.int x1), some (.int x2), some (.int y1)]) (st2 := [.int x2, .int x1, .ref k0]) rfl ?_
  refine Ok_st (l := (gA c j0)) (hn := fun l' => HP (sA c j0 l') r) rfl (hk0.2 _ _).1 (fun l' => (hk0.2 _ _).2 l') (fun w2 hw2 => ?_)
  refine Ok_blk 1 (pc2 := 9) (lo2 := [some (.ref k0), some (.int x1), some (.int x2), some (.int y1)]) (st2 := [.int y1]) rfl ?_
  exact Ok_ret rfl rfl rfl
set_option maxHeartbeats 8000000 in
set_option maxRecDepth 100000 in
theorem tm_C_change_7 (N d : Nat) (xs : List Int32) (c r : St) (k0 j0 : Nat) (hk0 : AR k0 j0) (a1 : Int32) (a2 : Int32) (p : Int32 × St) (hp : C_change_7 N j0 c a1 a2 = some p) : mBig (mRoL xs) (d + 1) 105 [.ref k0, .int a1, .int a2] (HP c r) (some (.int p.1)) (HP p.2 r) 0 0 := mBig_of (by decide) rfl rfl rfl rfl (t_C_change_7 N d xs r k0 j0 hk0 c a1 a2 p hp)
/-! ColdHolds.days(III)I, from (('r', 0), 'i', 'i', 'i') -/
def C_days_p26 (N : Nat) (c : St) : Option (Int32 × St) :=
  some ((-101), c)
def C_days (N : Nat) (c : St) (x1 : Int32) (x2 : Int32) (x3 : Int32) : Option (Int32 × St) :=
  (C_within N x1 0 ((gI c 21) - 1)).bind fun p1 => (if p1 = 0 then C_days_p26 N c else (C_within N x2 0 3).bind fun p3 => (if ¬ p3 = 0 then (C_within N x3 0 60).bind fun p5 => (if ¬ p5 = 0 then (rwi x1 6).bind fun q7 => (C_change_7 N (56 + q7) c x2 x3).bind fun p8 => some (p8.1, p8.2) else some ((-102), c)) else C_days_p26 N c))
set_option maxHeartbeats 8000000 in
set_option maxRecDepth 100000 in
theorem t_C_days_p26 (N d : Nat) (xs : List Int32) (r : St) (c : St) : Ok (mBig (mRoL xs) (d + 1)) (mRoL xs) 1 mK140 (fun p : Int32 × St => (some (.int p.1), HP p.2 r)) (C_days_p26 N c) 26 [none, none, none, none] [] (HP c r) := by
  unfold C_days_p26
  refine Ok_blk 1 (pc2 := 28) (lo2 := [none, none, none, none]) (st2 := [.int (-101)]) rfl ?_
  exact Ok_ret rfl rfl rfl
set_option maxHeartbeats 8000000 in
set_option maxRecDepth 100000 in
theorem t_C_days (N d : Nat) (xs : List Int32) (r : St) (c : St) (x1 : Int32) (x2 : Int32) (x3 : Int32) : Ok (mBig (mRoL xs) (d + 1)) (mRoL xs) 1 mK140 (fun p : Int32 × St => (some (.int p.1), HP p.2 r)) (C_days N c x1 x2 x3) 0 [some (.ref 0), some (.int x1), some (.int x2), some (.int x3)] [] (HP c r) := by
  unfold C_days
  refine Ok_blk 7 (pc2 := 11) (lo2 := [some (.ref 0), some (.int x1), some (.int x2), some (.int x3)]) (st2 := [.int ((gI c 21) - 1), .int 0, .int x1]) rfl ?_
  refine Ok_call (y := 102) (as := [.int x1, .int 0, .int ((gI c 21) - 1)]) (rest := []) (w := fun p1 => some (.int p1)) (h1 := fun p1 => HP c r) rfl rfl (fun x hx => tm_C_within N d xs c r x1 0 ((gI c 21) - 1) x hx) (fun p1 hp1 => ?_)
  refine Ok_blk 1 (pc2 := (if p1 = 0 then 26 else 17)) (lo2 := [some (.ref 0), some (.int x1), some (.int x2), some (.int x3)]) (st2 := []) rfl ?_
  refine Ok_if (fun h2 => ?_) (fun h2 => ?_)
  · refine Ok_drop (lo0 := [none, none, none, none]) ⟨Or.inl rfl, Or.inl rfl, Or.inl rfl, Or.inl rfl, trivial⟩ ?_
    exact t_C_days_p26 N d xs r c
  · refine Ok_blk 3 (pc2 := 20) (lo2 := [some (.ref 0), some (.int x1), some (.int x2), some (.int x3)]) (st2 := [.int 3, .int 0, .int x2]) rfl ?_
    refine Ok_call (y := 102) (as := [.int x2, .int 0, .int 3]) (rest := []) (w := fun p3 => some (.int p3)) (h1 := fun p3 => HP c r) rfl rfl (fun x hx => tm_C_within N d xs c r x2 0 3 x hx) (fun p3 hp3 => ?_)
    refine Ok_blk 1 (pc2 := (if ¬ p3 = 0 then 29 else 26)) (lo2 := [some (.ref 0), some (.int x1), some (.int x2), some (.int x3)]) (st2 := []) rfl ?_
    refine Ok_if (fun h4 => ?_) (fun h4 => ?_)
    · refine Ok_blk 3 (pc2 := 33) (lo2 := [some (.ref 0), some (.int x1), some (.int x2), some (.int x3)]) (st2 := [.int 60, .int 0, .int x3]) rfl ?_
      refine Ok_call (y := 102) (as := [.int x3, .int 0, .int 60]) (rest := []) (w := fun p5 => some (.int p5)) (h1 := fun p5 => HP c r) rfl rfl (fun x hx => tm_C_within N d xs c r x3 0 60 x hx) (fun p5 hp5 => ?_)
      refine Ok_blk 1 (pc2 := (if ¬ p5 = 0 then 42 else 39)) (lo2 := [some (.ref 0), some (.int x1), some (.int x2), some (.int x3)]) (st2 := []) rfl ?_
      refine Ok_if (fun h6 => ?_) (fun h6 => ?_)
      · refine Ok_blk 4 (pc2 := 50) (lo2 := [some (.ref 0), some (.int x1), some (.int x2), some (.int x3)]) (st2 := [.int x1, .ref 69]) rfl ?_
        refine Ok_rw (b := 70) (n := 6) rfl rfl (fun j h => rowl_69 j h) (fun q7 hq7 => ?_)
        refine Ok_blk 2 (pc2 := 53) (lo2 := [some (.ref 0), some (.int x1), some (.int x2), some (.int x3)]) (st2 := [.int x3, .int x2, .ref (70 + q7)]) rfl ?_
        refine Ok_call (y := 105) (as := [.ref (70 + q7), .int x2, .int x3]) (rest := []) (w := fun p8 => some (.int p8.1)) (h1 := fun p8 => HP p8.2 r) rfl rfl (fun x hx => tm_C_change_7 N d xs c r (70 + q7) (56 + q7) (rows_69 hq7) x2 x3 x hx) (fun p8 hp8 => ?_)
        exact Ok_ret rfl rfl rfl
      · refine Ok_blk 1 (pc2 := 41) (lo2 := [some (.ref 0), some (.int x1), some (.int x2), some (.int x3)]) (st2 := [.int (-102)]) rfl ?_
        exact Ok_ret rfl rfl rfl
    · refine Ok_drop (lo0 := [none, none, none, none]) ⟨Or.inl rfl, Or.inl rfl, Or.inl rfl, Or.inl rfl, trivial⟩ ?_
      exact t_C_days_p26 N d xs r c
set_option maxHeartbeats 8000000 in
set_option maxRecDepth 100000 in
theorem tm_C_days (N d : Nat) (xs : List Int32) (c r : St) (a1 : Int32) (a2 : Int32) (a3 : Int32) (p : Int32 × St) (hp : C_days N c a1 a2 a3 = some p) : mBig (mRoL xs) (d + 2) 140 [.ref 0, .int a1, .int a2, .int a3] (HP c r) (some (.int p.1)) (HP p.2 r) 0 0 := mBig_of (by decide) rfl rfl rfl rfl (t_C_days N d xs r c a1 a2 a3 p hp)
/-! ColdHoldsModel.isFlock(I)Z, from (('r', 115), 'i') -/
def R_isFlock (N : Nat) (r : St) (x1 : Int32) : Option (Int32) :=
  (R_in N x1 0 ((gI r 13) - 1)).bind fun p1 => some p1
set_option maxHeartbeats 8000000 in
set_option maxRecDepth 100000 in
theorem t_R_isFlock (N d : Nat) (xs : List Int32) (c : St) (r : St) (x1 : Int32) : Ok (mBig (mRoL xs) (d + 1)) (mRoL xs) 2 mK219 (fun p : Int32 => (some (.int p), HP c r)) (R_isFlock N r x1) 0 [some (.ref 115), some (.int x1)] [] (HP c r) := by
  unfold R_isFlock
  refine Ok_blk 6 (pc2 := 8) (lo2 := [some (.ref 115), some (.int x1)]) (st2 := [.int ((gI r 13) - 1), .int 0, .int x1]) rfl ?_
  refine Ok_call (y := 164) (as := [.int x1, .int 0, .int ((gI r 13) - 1)]) (rest := []) (w := fun p1 => some (.int p1)) (h1 := fun p1 => HP c r) rfl rfl (fun x hx => tm_R_in N d xs c r x1 0 ((gI r 13) - 1) x hx) (fun p1 hp1 => ?_)
  exact Ok_rez (mBig_z (tm_R_in N d xs c r x1 0 ((gI r 13) - 1) p1 hp1) rfl) rfl rfl
set_option maxHeartbeats 8000000 in
set_option maxRecDepth 100000 in
theorem tm_R_isFlock (N d : Nat) (xs : List Int32) (c r : St) (a1 : Int32) (p : Int32) (hp : R_isFlock N r a1 = some p) : mBig (mRoL xs) (d + 2) 219 [.ref 115, .int a1] (HP c r) (some (.int p)) (HP c r) 0 0 := mBig_of (by decide) rfl rfl rfl rfl (t_R_isFlock N d xs c r a1 p hp)
/-! ColdHoldsModel.days(III)I, from (('r', 115), 'i', 'i', 'i') -/
def R_days_p17 (N : Nat) (r : St) : Option (Int32 × St) :=
  some ((-101), r)
def R_days (N : Nat) (r : St) (x1 : Int32) (x2 : Int32) (x3 : Int32) : Option (Int32 × St) :=
  (R_isFlock N r x1).bind fun p1 => (if p1 = 0 then R_days_p17 N r else (R_in N x2 0 3).bind fun p3 => (if ¬ p3 = 0 then (R_in N x3 0 60).bind fun p5 => (if ¬ p5 = 0 then (ld (gA r 18) ((4 * x1) + x2)).bind fun y7 => (sto (gA r 18) ((4 * x1) + x2) x3).bind fun w8 => some (y7, sA r 18 w8) else some ((-102), r)) else R_days_p17 N r))
set_option maxHeartbeats 8000000 in
set_option maxRecDepth 100000 in
theorem t_R_days_p17 (N d : Nat) (xs : List Int32) (c : St) (r : St) : Ok (mBig (mRoL xs) (d + 2)) (mRoL xs) 1 mK222 (fun p : Int32 × St => (some (.int p.1), HP c p.2)) (R_days_p17 N r) 17 [none, none, none, none, none] [] (HP c r) := by
  unfold R_days_p17
  refine Ok_blk 1 (pc2 := 19) (lo2 := [none, none, none, none, none]) (st2 := [.int (-101)]) rfl ?_
  exact Ok_ret rfl rfl rfl
set_option maxHeartbeats 8000000 in
set_option maxRecDepth 100000 in
theorem t_R_days (N d : Nat) (xs : List Int32) (c : St) (r : St) (x1 : Int32) (x2 : Int32) (x3 : Int32) : Ok (mBig (mRoL xs) (d + 2)) (mRoL xs) 1 mK222 (fun p : Int32 × St => (some (.int p.1), HP c p.2)) (R_days N r x1 x2 x3) 0 [some (.ref 115), some (.int x1), some (.int x2), some (.int x3), none] [] (HP c r) := by
  unfold R_days
  refine Ok_blk 2 (pc2 := 2) (lo2 := [some (.ref 115), some (.int x1), some (.int x2), some (.int x3), none]) (st2 := [.int x1, .ref 115]) rfl ?_
  refine Ok_call (y := 219) (as := [.ref 115, .int x1]) (rest := []) (w := fun p1 => some (.int p1)) (h1 := fun p1 => HP c r) rfl rfl (fun x hx => tm_R_isFlock N d xs c r x1 x hx) (fun p1 hp1 => ?_)
  refine Ok_blk 1 (pc2 := (if p1 = 0 then 17 else 8)) (lo2 := [some (.ref 115), some (.int x1), some (.int x2), some (.int x3), none]) (st2 := []) rfl ?_
  refine Ok_if (fun h2 => ?_) (fun h2 => ?_)
  · refine Ok_drop (lo0 := [none, none, none, none, none]) ⟨Or.inl rfl, Or.inl rfl, Or.inl rfl, Or.inl rfl, Or.inl rfl, trivial⟩ ?_
    exact t_R_days_p17 N d xs c r
  · refine Ok_blk 3 (pc2 := 11) (lo2 := [some (.ref 115), some (.int x1), some (.int x2), some (.int x3), none]) (st2 := [.int 3, .int 0, .int x2]) rfl ?_
    refine Ok_call (y := 164) (as := [.int x2, .int 0, .int 3]) (rest := []) (w := fun p3 => some (.int p3)) (h1 := fun p3 => HP c r) rfl rfl (fun x hx => tm_R_in N (d + 1) xs c r x2 0 3 x hx) (fun p3 hp3 => ?_)
    refine Ok_blk 1 (pc2 := (if ¬ p3 = 0 then 20 else 17)) (lo2 := [some (.ref 115), some (.int x1), some (.int x2), some (.int x3), none]) (st2 := []) rfl ?_
    refine Ok_if (fun h4 => ?_) (fun h4 => ?_)
    · refine Ok_blk 3 (pc2 := 24) (lo2 := [some (.ref 115), some (.int x1), some (.int x2), some (.int x3), none]) (st2 := [.int 60, .int 0, .int x3]) rfl ?_
      refine Ok_call (y := 164) (as := [.int x3, .int 0, .int 60]) (rest := []) (w := fun p5 => some (.int p5)) (h1 := fun p5 => HP c r) rfl rfl (fun x hx => tm_R_in N (d + 1) xs c r x3 0 60 x hx) (fun p5 hp5 => ?_)
      refine Ok_blk 1 (pc2 := (if ¬ p5 = 0 then 33 else 30)) (lo2 := [some (.ref 115), some (.int x1), some (.int x2), some (.int x3), none]) (st2 := []) rfl ?_
      refine Ok_if (fun h6 => ?_) (fun h6 => ?_)
      · refine Ok_blk 7 (pc2 := 42) (lo2 := [some (.ref 115), some (.int x1), some (.int x2), some (.int x3), none]) (st2 := [.int ((4 * x1) + x2), .ref 134]) rfl ?_
        refine Ok_ld (l := (gA r 18)) rfl rfl (fun y7 hy7 => ?_)
        refine Ok_blk 9 (pc2 := 55) (lo2 := [some (.ref 115), some (.int x1), some (.int x2), some (.int x3), some (.int y7)]) (st2 := [.int x3, .int ((4 * x1) + x2), .ref 134]) rfl ?_
        refine Ok_st (l := (gA r 18)) (hn := fun l' => HP c (sA r 18 l')) rfl rfl (fun l' => sa_134 _ _ l') (fun w8 hw8 => ?_)
        refine Ok_blk 1 (pc2 := 58) (lo2 := [some (.ref 115), some (.int x1), some (.int x2), some (.int x3), some (.int y7)]) (st2 := [.int y7]) rfl ?_
        exact Ok_ret rfl rfl rfl
      · refine Ok_blk 1 (pc2 := 32) (lo2 := [some (.ref 115), some (.int x1), some (.int x2), some (.int x3), none]) (st2 := [.int (-102)]) rfl ?_
        exact Ok_ret rfl rfl rfl
    · refine Ok_drop (lo0 := [none, none, none, none, none]) ⟨Or.inl rfl, Or.inl rfl, Or.inl rfl, Or.inl rfl, Or.inl rfl, trivial⟩ ?_
      exact t_R_days_p17 N d xs c r
set_option maxHeartbeats 8000000 in
set_option maxRecDepth 100000 in
theorem tm_R_days (N d : Nat) (xs : List Int32) (c r : St) (a1 : Int32) (a2 : Int32) (a3 : Int32) (p : Int32 × St) (hp : R_days N r a1 a2 a3 = some p) : mBig (mRoL xs) (d + 3) 222 [.ref 115, .int a1, .int a2, .int a3] (HP c r) (some (.int p.1)) (HP c p.2) 0 0 := mBig_of (by decide) rfl rfl rfl rfl (t_R_days N d xs c r a1 a2 a3 p hp)
/-! ColdHolds.loss(I)I, from (('r', 0), 'i') -/
def C_loss (N : Nat) (c : St) (x1 : Int32) : Option (Int32 × St) :=
  (C_within N x1 0 9).bind fun p1 => (if ¬ p1 = 0 then some (gI c 22, sI c 22 x1) else some ((-102), c))
set_option maxHeartbeats 8000000 in
set_option maxRecDepth 100000 in
theorem t_C_loss (N d : Nat) (xs : List Int32) (r : St) (c : St) (x1 : Int32) : Ok (mBig (mRoL xs) (d + 1)) (mRoL xs) 1 mK141 (fun p : Int32 × St => (some (.int p.1), HP p.2 r)) (C_loss N c x1) 0 [some (.ref 0), some (.int x1), none] [] (HP c r) := by
  unfold C_loss
  refine Ok_blk 3 (pc2 := 4) (lo2 := [some (.ref 0), some (.int x1), none]) (st2 := [.int 9, .int 0, .int x1]) rfl ?_
  refine Ok_call (y := 102) (as := [.int x1, .int 0, .int 9]) (rest := []) (w := fun p1 => some (.int p1)) (h1 := fun p1 => HP c r) rfl rfl (fun x hx => tm_C_within N d xs c r x1 0 9 x hx) (fun p1 hp1 => ?_)
  refine Ok_blk 1 (pc2 := (if ¬ p1 = 0 then 13 else 10)) (lo2 := [some (.ref 0), some (.int x1), none]) (st2 := []) rfl ?_
  refine Ok_if (fun h2 => ?_) (fun h2 => ?_)
  · refine Ok_heap 8 (pc2 := 29) (lo2 := [some (.ref 0), some (.int x1), some (.int (gI c 22))]) (st2 := []) (h2 := HP (sI c 22 x1) r) rfl (st_67_3 _ _ _) ?_
    refine Ok_blk 1 (pc2 := 30) (lo2 := [some (.ref 0), some (.int x1), some (.int (gI c 22))]) (st2 := [.int (gI c 22)]) rfl ?_
    exact Ok_ret rfl rfl rfl
  · refine Ok_blk 1 (pc2 := 12) (lo2 := [some (.ref 0), some (.int x1), none]) (st2 := [.int (-102)]) rfl ?_
    exact Ok_ret rfl rfl rfl
set_option maxHeartbeats 8000000 in
set_option maxRecDepth 100000 in
theorem tm_C_loss (N d : Nat) (xs : List Int32) (c r : St) (a1 : Int32) (p : Int32 × St) (hp : C_loss N c a1 = some p) : mBig (mRoL xs) (d + 2) 141 [.ref 0, .int a1] (HP c r) (some (.int p.1)) (HP p.2 r) 0 0 := mBig_of (by decide) rfl rfl rfl rfl (t_C_loss N d xs r c a1 p hp)
