/-! methods as partial functions of Lean, and that the small machine does them: by program (gen18) -/
/-! ColdHolds$Ring.isIn(II)Z, from ('i', 'i') -/
def Ring_isIn (N : Nat) (x0 : Int32) (x1 : Int32) : Option (Int32) :=
  (if ¬ ((x1 >>> (x0 &&& 31)) &&& 1) = 1 then some 0 else some 1)
set_option maxHeartbeats 8000000 in
set_option maxRecDepth 100000 in
theorem t_Ring_isIn (N d : Nat) (xs : List Int32) (c : St) (r : St) (x0 : Int32) (x1 : Int32) : Ok (mBig (mRoL xs) (d)) (mRoL xs) 2 mK70 (fun p : Int32 => (some (.int p), HP c r)) (Ring_isIn N x0 x1) 0 [some (.int x0), some (.int x1)] [] (HP c r) := by
  unfold Ring_isIn
  refine Ok_blk 7 (pc2 := (if ¬ ((x1 >>> (x0 &&& 31)) &&& 1) = 1 then 13 else 9)) (lo2 := [some (.int x0), some (.int x1)]) (st2 := []) rfl ?_
  refine Ok_if (fun h1 => ?_) (fun h1 => ?_)
  · refine Ok_blk 1 (pc2 := 14) (lo2 := [some (.int x0), some (.int x1)]) (st2 := [.int 0]) rfl ?_
    exact Ok_rez (Or.inl rfl) rfl rfl
  · refine Ok_blk 2 (pc2 := 14) (lo2 := [some (.int x0), some (.int x1)]) (st2 := [.int 1]) rfl ?_
    exact Ok_rez (Or.inr rfl) rfl rfl
set_option maxHeartbeats 8000000 in
set_option maxRecDepth 100000 in
theorem tm_Ring_isIn (N d : Nat) (xs : List Int32) (c r : St) (a0 : Int32) (a1 : Int32) (p : Int32) (hp : Ring_isIn N a0 a1 = some p) : mBig (mRoL xs) (d + 1) 70 [.int a0, .int a1] (HP c r) (some (.int p)) (HP c r) 0 0 := mBig_of (by decide) rfl rfl rfl rfl (t_Ring_isIn N d xs c r a0 a1 p hp)
/-! ColdHolds$Ring.shipsOf(I)I, from (('r', 100), 'i') -/
def Ring_shipsOf_p29 (N : Nat) (kb4 : Int32 → Int32 → Int32 → Option (Int32)) (c : St) (x1 : Int32) (x2 : Int32) (x3 : Int32) : Option (Int32) :=
  kb4 x1 x2 (x3 + 1)
def Ring_shipsOf_p4b (N : Nat) (kb4 : Int32 → Int32 → Int32 → Option (Int32)) (c : St) (x1 : Int32) (x2 : Int32) (x3 : Int32) : Option (Int32) :=
  (if (gI c 27) ≤ x3 then some x2 else (Ring_isIn N x3 x1).bind fun p2 => (if p2 = 0 then Ring_shipsOf_p29 N kb4 c x1 x2 x3 else (ld (gA c 84) x3).bind fun y4 => Ring_shipsOf_p29 N kb4 c x1 (x2 + y4) x3))
def Ring_shipsOf_p4 (N : Nat) (c : St) : Nat → Int32 → Int32 → Int32 → Option (Int32)
  | 0 => fun _ _ _ => none
  | n + 1 => Ring_shipsOf_p4b N (Ring_shipsOf_p4 N c n) c
def Ring_shipsOf (N : Nat) (c : St) (x1 : Int32) : Option (Int32) :=
  Ring_shipsOf_p4 N c N x1 0 0
set_option maxHeartbeats 8000000 in
set_option maxRecDepth 100000 in
theorem t_Ring_shipsOf_p29 (N d : Nat) (xs : List Int32) (c : St) (r : St) (kb4 : Int32 → Int32 → Int32 → Option (Int32)) (hb4 : ∀ (x1 : Int32) (x2 : Int32) (x3 : Int32), Ok (mBig (mRoL xs) (d + 1)) (mRoL xs) 1 mK71 (fun p : Int32 => (some (.int p), HP c r)) (kb4 x1 x2 x3) 4 [some (.ref 100), some (.int x1), some (.int x2), some (.int x3)] [] (HP c r)) (x1 : Int32) (x2 : Int32) (x3 : Int32) : Ok (mBig (mRoL xs) (d + 1)) (mRoL xs) 1 mK71 (fun p : Int32 => (some (.int p), HP c r)) (Ring_shipsOf_p29 N kb4 c x1 x2 x3) 29 [some (.ref 100), some (.int x1), some (.int x2), some (.int x3)] [] (HP c r) := by
  unfold Ring_shipsOf_p29
  refine Ok_blk 2 (pc2 := 4) (lo2 := [some (.ref 100), some (.int x1), some (.int x2), some (.int (x3 + 1))]) (st2 := []) rfl ?_
  refine Ok_drop (lo0 := [some (.ref 100), some (.int x1), some (.int x2), some (.int (x3 + 1))]) ⟨Or.inr rfl, Or.inr rfl, Or.inr rfl, Or.inr rfl, trivial⟩ ?_
  exact hb4 x1 x2 (x3 + 1)
set_option maxHeartbeats 8000000 in
set_option maxRecDepth 100000 in
theorem t_Ring_shipsOf_p4b (N d : Nat) (xs : List Int32) (c : St) (r : St) (kb4 : Int32 → Int32 → Int32 → Option (Int32)) (hb4 : ∀ (x1 : Int32) (x2 : Int32) (x3 : Int32), Ok (mBig (mRoL xs) (d + 1)) (mRoL xs) 1 mK71 (fun p : Int32 => (some (.int p), HP c r)) (kb4 x1 x2 x3) 4 [some (.ref 100), some (.int x1), some (.int x2), some (.int x3)] [] (HP c r)) (x1 : Int32) (x2 : Int32) (x3 : Int32) : Ok (mBig (mRoL xs) (d + 1)) (mRoL xs) 1 mK71 (fun p : Int32 => (some (.int p), HP c r)) (Ring_shipsOf_p4b N kb4 c x1 x2 x3) 4 [some (.ref 100), some (.int x1), some (.int x2), some (.int x3)] [] (HP c r) := by
  unfold Ring_shipsOf_p4b
  refine Ok_blk 4 (pc2 := (if (gI c 27) ≤ x3 then 35 else 12)) (lo2 := [some (.ref 100), some (.int x1), some (.int x2), some (.int x3)]) (st2 := []) rfl ?_
  refine Ok_if (fun h1 => ?_) (fun h1 => ?_)
  · refine Ok_blk 1 (pc2 := 36) (lo2 := [some (.ref 100), some (.int x1), some (.int x2), some (.int x3)]) (st2 := [.int x2]) rfl ?_
    exact Ok_ret rfl rfl rfl
  · refine Ok_blk 2 (pc2 := 14) (lo2 := [some (.ref 100), some (.int x1), some (.int x2), some (.int x3)]) (st2 := [.int x1, .int x3]) rfl ?_
    refine Ok_call (y := 70) (as := [.int x3, .int x1]) (rest := []) (w := fun p2 => some (.int p2)) (h1 := fun p2 => HP c r) rfl rfl (fun x hx => tm_Ring_isIn N d xs c r x3 x1 x hx) (fun p2 hp2 => ?_)
    refine Ok_blk 1 (pc2 := (if p2 = 0 then 29 else 20)) (lo2 := [some (.ref 100), some (.int x1), some (.int x2), some (.int x3)]) (st2 := []) rfl ?_
    refine Ok_if (fun h3 => ?_) (fun h3 => ?_)
    · refine Ok_drop (lo0 := [some (.ref 100), some (.int x1), some (.int x2), some (.int x3)]) ⟨Or.inr rfl, Or.inr rfl, Or.inr rfl, Or.inr rfl, trivial⟩ ?_
      exact t_Ring_shipsOf_p29 N d xs c r kb4 hb4 x1 x2 x3
    · refine Ok_blk 4 (pc2 := 26) (lo2 := [some (.ref 100), some (.int x1), some (.int x2), some (.int x3)]) (st2 := [.int x3, .ref 102, .int x2]) rfl ?_
      refine Ok_ld (l := (gA c 84)) rfl rfl (fun y4 hy4 => ?_)
      refine Ok_blk 2 (pc2 := 29) (lo2 := [some (.ref 100), some (.int x1), some (.int (x2 + y4)), some (.int x3)]) (st2 := []) rfl ?_
      refine Ok_drop (lo0 := [some (.ref 100), some (.int x1), some (.int (x2 + y4)), some (.int x3)]) ⟨Or.inr rfl, Or.inr rfl, Or.inr rfl, Or.inr rfl, trivial⟩ ?_
      exact t_Ring_shipsOf_p29 N d xs c r kb4 hb4 x1 (x2 + y4) x3
set_option maxHeartbeats 8000000 in
set_option maxRecDepth 100000 in
theorem t_Ring_shipsOf_p4 (N d : Nat) (xs : List Int32) (c : St) (r : St) : ∀ (n : Nat) (x1 : Int32) (x2 : Int32) (x3 : Int32), Ok (mBig (mRoL xs) (d + 1)) (mRoL xs) 1 mK71 (fun p : Int32 => (some (.int p), HP c r)) (Ring_shipsOf_p4 N c n x1 x2 x3) 4 [some (.ref 100), some (.int x1), some (.int x2), some (.int x3)] [] (HP c r) := by
  intro n
  induction n with
  | zero => intro x1 x2 x3; exact Ok_none
  | succ n ih => intro x1 x2 x3; exact t_Ring_shipsOf_p4b N d xs c r (Ring_shipsOf_p4 N c n) ih x1 x2 x3
set_option maxHeartbeats 8000000 in
set_option maxRecDepth 100000 in
theorem t_Ring_shipsOf (N d : Nat) (xs : List Int32) (c : St) (r : St) (x1 : Int32) : Ok (mBig (mRoL xs) (d + 1)) (mRoL xs) 1 mK71 (fun p : Int32 => (some (.int p), HP c r)) (Ring_shipsOf N c x1) 0 [some (.ref 100), some (.int x1), none, none] [] (HP c r) := by
  unfold Ring_shipsOf
  refine Ok_blk 4 (pc2 := 4) (lo2 := [some (.ref 100), some (.int x1), some (.int 0), some (.int 0)]) (st2 := []) rfl ?_
  refine Ok_drop (lo0 := [some (.ref 100), some (.int x1), some (.int 0), some (.int 0)]) ⟨Or.inr rfl, Or.inr rfl, Or.inr rfl, Or.inr rfl, trivial⟩ ?_
  exact t_Ring_shipsOf_p4 N d xs c r N x1 0 0
set_option maxHeartbeats 8000000 in
set_option maxRecDepth 100000 in
theorem tm_Ring_shipsOf (N d : Nat) (xs : List Int32) (c r : St) (a1 : Int32) (p : Int32) (hp : Ring_shipsOf N c a1 = some p) : mBig (mRoL xs) (d + 2) 71 [.ref 100, .int a1] (HP c r) (some (.int p)) (HP c r) 0 0 := mBig_of (by decide) rfl rfl rfl rfl (t_Ring_shipsOf N d xs c r a1 p hp)
/-! ColdHolds$Ring.earned(II)J, from (('r', 100), 'i', 'i') -/
def Ring_earned (N : Nat) (c : St) (x1 : Int32) (x2 : Int32) : Option (Int64) :=
  (ld (gA c 83) 0).bind fun y1 => (ld (gA c 83) 1).bind fun y2 => (Ring_shipsOf N c x2).bind fun p3 => (ld (gA c 85) x1).bind fun y4 => (Ring_isIn N x1 x2).bind fun p5 => (if p5 = 0 then (ld (gA c 83) 3).bind fun y7 => (ld (gA c 84) x1).bind fun y8 => some ((((((y1 + (y2 * p3)) - y4).toInt64) - y7.toInt64) * y8.toInt64) * 100) else (ld (gA c 84) x1).bind fun y9 => (ld (gA c 83) 2).bind fun y10 => some (((((y1 + (y2 * p3)) - y4).toInt64) * y9.toInt64) * y10.toInt64))
set_option maxHeartbeats 8000000 in
set_option maxRecDepth 100000 in
theorem t_Ring_earned (N d : Nat) (xs : List Int32) (c : St) (r : St) (x1 : Int32) (x2 : Int32) : Ok (mBig (mRoL xs) (d + 2)) (mRoL xs) 3 mK72 (fun p : Int64 => (some (.long p), HP c r)) (Ring_earned N c x1 x2) 0 [some (.ref 100), some (.int x1), some (.int x2), none, none] [] (HP c r) := by
  unfold Ring_earned
  refine Ok_blk 3 (pc2 := 5) (lo2 := [some (.ref 100), some (.int x1), some (.int x2), none, none]) (st2 := [.int 0, .ref 101]) rfl ?_
  refine Ok_ld (l := (gA c 83)) rfl rfl (fun y1 hy1 => ?_)
  refine Ok_blk 3 (pc2 := 11) (lo2 := [some (.ref 100), some (.int x1), some (.int x2), none, none]) (st2 := [.int 1, .ref 101, .int y1]) rfl ?_
  refine Ok_ld (l := (gA c 83)) rfl rfl (fun y2 hy2 => ?_)
  refine Ok_blk 2 (pc2 := 14) (lo2 := [some (.ref 100), some (.int x1), some (.int x2), none, none]) (st2 := [.int x2, .ref 100, .int y2, .int y1]) rfl ?_
  refine Ok_call (y := 71) (as := [.ref 100, .int x2]) (rest := [.int y2, .int y1]) (w := fun p3 => some (.int p3)) (h1 := fun p3 => HP c r) rfl rfl (fun x hx => tm_Ring_shipsOf N d xs c r x2 x hx) (fun p3 hp3 => ?_)
  refine Ok_blk 5 (pc2 := 24) (lo2 := [some (.ref 100), some (.int x1), some (.int x2), none, none]) (st2 := [.int x1, .ref 103, .int (y1 + (y2 * p3))]) rfl ?_
  refine Ok_ld (l := (gA c 85)) rfl rfl (fun y4 hy4 => ?_)
  refine Ok_blk 5 (pc2 := 30) (lo2 := [some (.ref 100), some (.int x1), some (.int x2), some (.long (((y1 + (y2 * p3)) - y4).toInt64)), none]) (st2 := [.int x2, .int x1]) rfl ?_
  refine Ok_call (y := 70) (as := [.int x1, .int x2]) (rest := []) (w := fun p5 => some (.int p5)) (h1 := fun p5 => HP c r) rfl rfl (fun x hx => tm_Ring_isIn N (d + 1) xs c r x1 x2 x hx) (fun p5 hp5 => ?_)
  refine Ok_blk 1 (pc2 := (if p5 = 0 then 54 else 36)) (lo2 := [some (.ref 100), some (.int x1), some (.int x2), some (.long (((y1 + (y2 * p3)) - y4).toInt64)), none]) (st2 := []) rfl ?_
  refine Ok_if (fun h6 => ?_) (fun h6 => ?_)
  · refine Ok_blk 4 (pc2 := 60) (lo2 := [some (.ref 100), some (.int x1), some (.int x2), some (.long (((y1 + (y2 * p3)) - y4).toInt64)), none]) (st2 := [.int 3, .ref 101, .long (((y1 + (y2 * p3)) - y4).toInt64)]) rfl ?_
    refine Ok_ld (l := (gA c 83)) rfl rfl (fun y7 hy7 => ?_)
    refine Ok_blk 5 (pc2 := 68) (lo2 := [some (.ref 100), some (.int x1), some (.int x2), some (.long (((y1 + (y2 * p3)) - y4).toInt64)), none]) (st2 := [.int x1, .ref 102, .long ((((y1 + (y2 * p3)) - y4).toInt64) - y7.toInt64)]) rfl ?_
    refine Ok_ld (l := (gA c 84)) rfl rfl (fun y8 hy8 => ?_)
    refine Ok_blk 4 (pc2 := 75) (lo2 := [some (.ref 100), some (.int x1), some (.int x2), some (.long (((y1 + (y2 * p3)) - y4).toInt64)), none]) (st2 := [.long ((((((y1 + (y2 * p3)) - y4).toInt64) - y7.toInt64) * y8.toInt64) * 100)]) rfl ?_
    exact Ok_ret rfl rfl rfl
  · refine Ok_blk 4 (pc2 := 42) (lo2 := [some (.ref 100), some (.int x1), some (.int x2), some (.long (((y1 + (y2 * p3)) - y4).toInt64)), none]) (st2 := [.int x1, .ref 102, .long (((y1 + (y2 * p3)) - y4).toInt64)]) rfl ?_
    refine Ok_ld (l := (gA c 84)) rfl rfl (fun y9 hy9 => ?_)
    refine Ok_blk 5 (pc2 := 50) (lo2 := [some (.ref 100), some (.int x1), some (.int x2), some (.long (((y1 + (y2 * p3)) - y4).toInt64)), none]) (st2 := [.int 2, .ref 101, .long ((((y1 + (y2 * p3)) - y4).toInt64) * y9.toInt64)]) rfl ?_
    refine Ok_ld (l := (gA c 83)) rfl rfl (fun y10 hy10 => ?_)
    refine Ok_blk 2 (pc2 := 53) (lo2 := [some (.ref 100), some (.int x1), some (.int x2), some (.long (((y1 + (y2 * p3)) - y4).toInt64)), none]) (st2 := [.long (((((y1 + (y2 * p3)) - y4).toInt64) * y9.toInt64) * y10.toInt64)]) rfl ?_
    exact Ok_ret rfl rfl rfl
set_option maxHeartbeats 8000000 in
set_option maxRecDepth 100000 in
theorem tm_Ring_earned (N d : Nat) (xs : List Int32) (c r : St) (a1 : Int32) (a2 : Int32) (p : Int64) (hp : Ring_earned N c a1 a2 = some p) : mBig (mRoL xs) (d + 3) 72 [.ref 100, .int a1, .int a2] (HP c r) (some (.long p)) (HP c r) 0 0 := mBig_of (by decide) rfl rfl rfl rfl (t_Ring_earned N d xs c r a1 a2 p hp)
/-! ColdHolds.earns(II)J, from (('r', 0), 'i', 'i') -/
def C_earns (N : Nat) (c : St) (x1 : Int32) (x2 : Int32) : Option (Int64) :=
  (C_within N x1 0 ((gI c 27) - 1)).bind fun p1 => (if ¬ p1 = 0 then (Ring_allSets N c).bind fun p3 => (C_within N x2 0 (p3 - 1)).bind fun p4 => (if ¬ p4 = 0 then (Ring_earned N c x1 x2).bind fun p6 => some p6 else some (-2)) else some (-1))
set_option maxHeartbeats 8000000 in
set_option maxRecDepth 100000 in
theorem t_C_earns (N d : Nat) (xs : List Int32) (c : St) (r : St) (x1 : Int32) (x2 : Int32) : Ok (mBig (mRoL xs) (d + 3)) (mRoL xs) 3 mK153 (fun p : Int64 => (some (.long p), HP c r)) (C_earns N c x1 x2) 0 [some (.ref 0), some (.int x1), some (.int x2)] [] (HP c r) := by
  unfold C_earns
  refine Ok_blk 7 (pc2 := 11) (lo2 := [some (.ref 0), some (.int x1), some (.int x2)]) (st2 := [.int ((gI c 27) - 1), .int 0, .int x1]) rfl ?_
  refine Ok_call (y := 102) (as := [.int x1, .int 0, .int ((gI c 27) - 1)]) (rest := []) (w := fun p1 => some (.int p1)) (h1 := fun p1 => HP c r) rfl rfl (fun x hx => tm_C_within N (d + 2) xs c r x1 0 ((gI c 27) - 1) x hx) (fun p1 hp1 => ?_)
  refine Ok_blk 1 (pc2 := (if ¬ p1 = 0 then 21 else 17)) (lo2 := [some (.ref 0), some (.int x1), some (.int x2)]) (st2 := []) rfl ?_
  refine Ok_if (fun h2 => ?_) (fun h2 => ?_)
  · refine Ok_blk 4 (pc2 := 27) (lo2 := [some (.ref 0), some (.int x1), some (.int x2)]) (st2 := [.ref 100, .int 0, .int x2]) rfl ?_
    refine Ok_call (y := 69) (as := [.ref 100]) (rest := [.int 0, .int x2]) (w := fun p3 => some (.int p3)) (h1 := fun p3 => HP c r) rfl rfl (fun x hx => tm_Ring_allSets N (d + 2) xs c r x hx) (fun p3 hp3 => ?_)
    refine Ok_blk 2 (pc2 := 32) (lo2 := [some (.ref 0), some (.int x1), some (.int x2)]) (st2 := [.int (p3 - 1), .int 0, .int x2]) rfl ?_
    refine Ok_call (y := 102) (as := [.int x2, .int 0, .int (p3 - 1)]) (rest := []) (w := fun p4 => some (.int p4)) (h1 := fun p4 => HP c r) rfl rfl (fun x hx => tm_C_within N (d + 2) xs c r x2 0 (p3 - 1) x hx) (fun p4 hp4 => ?_)
    refine Ok_blk 1 (pc2 := (if ¬ p4 = 0 then 42 else 38)) (lo2 := [some (.ref 0), some (.int x1), some (.int x2)]) (st2 := []) rfl ?_
    refine Ok_if (fun h5 => ?_) (fun h5 => ?_)
    · refine Ok_blk 4 (pc2 := 48) (lo2 := [some (.ref 0), some (.int x1), some (.int x2)]) (st2 := [.int x2, .int x1, .ref 100]) rfl ?_
      refine Ok_call (y := 72) (as := [.ref 100, .int x1, .int x2]) (rest := []) (w := fun p6 => some (.long p6)) (h1 := fun p6 => HP c r) rfl rfl (fun x hx => tm_Ring_earned N d xs c r x1 x2 x hx) (fun p6 hp6 => ?_)
      exact Ok_ret rfl rfl rfl
    · refine Ok_blk 1 (pc2 := 41) (lo2 := [some (.ref 0), some (.int x1), some (.int x2)]) (st2 := [.long (-2)]) rfl ?_
      exact Ok_ret rfl rfl rfl
  · refine Ok_blk 1 (pc2 := 20) (lo2 := [some (.ref 0), some (.int x1), some (.int x2)]) (st2 := [.long (-1)]) rfl ?_
    exact Ok_ret rfl rfl rfl
set_option maxHeartbeats 8000000 in
set_option maxRecDepth 100000 in
theorem tm_C_earns (N d : Nat) (xs : List Int32) (c r : St) (a1 : Int32) (a2 : Int32) (p : Int64) (hp : C_earns N c a1 a2 = some p) : mBig (mRoL xs) (d + 4) 153 [.ref 0, .int a1, .int a2] (HP c r) (some (.long p)) (HP c r) 0 0 := mBig_of (by decide) rfl rfl rfl rfl (t_C_earns N d xs c r a1 a2 p hp)
/-! ColdHoldsModel.shipsIn(I)I, from (('r', 115), 'i') -/
def R_shipsIn_p32 (N : Nat) (kb4 : Int32 → Int32 → Int32 → Option (Int32)) (r : St) (x1 : Int32) (x3 : Int32) (s0 : Int32) (s1 : Int32) : Option (Int32) :=
  kb4 x1 (s0 + s1) (x3 + 1)
def R_shipsIn_p4b (N : Nat) (kb4 : Int32 → Int32 → Int32 → Option (Int32)) (r : St) (x1 : Int32) (x2 : Int32) (x3 : Int32) : Option (Int32) :=
  (if (gI r 21) ≤ x3 then some x2 else (if ¬ ((x1 >>> (x3 &&& 31)) &&& 1) = 1 then R_shipsIn_p32 N kb4 r x1 x3 x2 0 else (ld (gA r 25) x3).bind fun y3 => R_shipsIn_p32 N kb4 r x1 x3 x2 y3))
def R_shipsIn_p4 (N : Nat) (r : St) : Nat → Int32 → Int32 → Int32 → Option (Int32)
  | 0 => fun _ _ _ => none
  | n + 1 => R_shipsIn_p4b N (R_shipsIn_p4 N r n) r
def R_shipsIn (N : Nat) (r : St) (x1 : Int32) : Option (Int32) :=
  R_shipsIn_p4 N r N x1 0 0
set_option maxHeartbeats 8000000 in
set_option maxRecDepth 100000 in
theorem t_R_shipsIn_p32 (N d : Nat) (xs : List Int32) (c : St) (r : St) (kb4 : Int32 → Int32 → Int32 → Option (Int32)) (hb4 : ∀ (x1 : Int32) (x2 : Int32) (x3 : Int32), Ok (mBig (mRoL xs) (d)) (mRoL xs) 1 mK242 (fun p : Int32 => (some (.int p), HP c r)) (kb4 x1 x2 x3) 4 [some (.ref 115), some (.int x1), some (.int x2), some (.int x3)] [] (HP c r)) (x1 : Int32) (x3 : Int32) (s0 : Int32) (s1 : Int32) : Ok (mBig (mRoL xs) (d)) (mRoL xs) 1 mK242 (fun p : Int32 => (some (.int p), HP c r)) (R_shipsIn_p32 N kb4 r x1 x3 s0 s1) 32 [some (.ref 115), some (.int x1), none, some (.int x3)] [.int s1, .int s0] (HP c r) := by
  unfold R_shipsIn_p32
  refine Ok_blk 4 (pc2 := 4) (lo2 := [some (.ref 115), some (.int x1), some (.int (s0 + s1)), some (.int (x3 + 1))]) (st2 := []) rfl ?_
  refine Ok_drop (lo0 := [some (.ref 115), some (.int x1), some (.int (s0 + s1)), some (.int (x3 + 1))]) ⟨Or.inr rfl, Or.inr rfl, Or.inr rfl, Or.inr rfl, trivial⟩ ?_
  exact hb4 x1 (s0 + s1) (x3 + 1)
set_option maxHeartbeats 8000000 in
set_option maxRecDepth 100000 in
theorem t_R_shipsIn_p4b (N d : Nat) (xs : List Int32) (c : St) (r : St) (kb4 : Int32 → Int32 → Int32 → Option (Int32)) (hb4 : ∀ (x1 : Int32) (x2 : Int32) (x3 : Int32), Ok (mBig (mRoL xs) (d)) (mRoL xs) 1 mK242 (fun p : Int32 => (some (.int p), HP c r)) (kb4 x1 x2 x3) 4 [some (.ref 115), some (.int x1), some (.int x2), some (.int x3)] [] (HP c r)) (x1 : Int32) (x2 : Int32) (x3 : Int32) : Ok (mBig (mRoL xs) (d)) (mRoL xs) 1 mK242 (fun p : Int32 => (some (.int p), HP c r)) (R_shipsIn_p4b N kb4 r x1 x2 x3) 4 [some (.ref 115), some (.int x1), some (.int x2), some (.int x3)] [] (HP c r) := by
  unfold R_shipsIn_p4b
  refine Ok_blk 4 (pc2 := (if (gI r 21) ≤ x3 then 40 else 12)) (lo2 := [some (.ref 115), some (.int x1), some (.int x2), some (.int x3)]) (st2 := []) rfl ?_
  refine Ok_if (fun h1 => ?_) (fun h1 => ?_)
  · refine Ok_blk 1 (pc2 := 41) (lo2 := [some (.ref 115), some (.int x1), some (.int x2), some (.int x3)]) (st2 := [.int x2]) rfl ?_
    exact Ok_ret rfl rfl rfl
  · refine Ok_blk 8 (pc2 := (if ¬ ((x1 >>> (x3 &&& 31)) &&& 1) = 1 then 31 else 22)) (lo2 := [some (.ref 115), some (.int x1), some (.int x2), some (.int x3)]) (st2 := [.int x2]) rfl ?_
    refine Ok_if (fun h2 => ?_) (fun h2 => ?_)
    · refine Ok_blk 1 (pc2 := 32) (lo2 := [some (.ref 115), some (.int x1), some (.int x2), some (.int x3)]) (st2 := [.int 0, .int x2]) rfl ?_
      refine Ok_drop (lo0 := [some (.ref 115), some (.int x1), none, some (.int x3)]) ⟨Or.inr rfl, Or.inr rfl, Or.inl rfl, Or.inr rfl, trivial⟩ ?_
      exact t_R_shipsIn_p32 N d xs c r kb4 hb4 x1 x3 x2 0
    · refine Ok_blk 3 (pc2 := 27) (lo2 := [some (.ref 115), some (.int x1), some (.int x2), some (.int x3)]) (st2 := [.int x3, .ref 141, .int x2]) rfl ?_
      refine Ok_ld (l := (gA r 25)) rfl rfl (fun y3 hy3 => ?_)
      refine Ok_blk 1 (pc2 := 32) (lo2 := [some (.ref 115), some (.int x1), some (.int x2), some (.int x3)]) (st2 := [.int y3, .int x2]) rfl ?_
      refine Ok_drop (lo0 := [some (.ref 115), some (.int x1), none, some (.int x3)]) ⟨Or.inr rfl, Or.inr rfl, Or.inl rfl, Or.inr rfl, trivial⟩ ?_
      exact t_R_shipsIn_p32 N d xs c r kb4 hb4 x1 x3 x2 y3
set_option maxHeartbeats 8000000 in
set_option maxRecDepth 100000 in
theorem t_R_shipsIn_p4 (N d : Nat) (xs : List Int32) (c : St) (r : St) : ∀ (n : Nat) (x1 : Int32) (x2 : Int32) (x3 : Int32), Ok (mBig (mRoL xs) (d)) (mRoL xs) 1 mK242 (fun p : Int32 => (some (.int p), HP c r)) (R_shipsIn_p4 N r n x1 x2 x3) 4 [some (.ref 115), some (.int x1), some (.int x2), some (.int x3)] [] (HP c r) := by
  intro n
  induction n with
  | zero => intro x1 x2 x3; exact Ok_none
  | succ n ih => intro x1 x2 x3; exact t_R_shipsIn_p4b N d xs c r (R_shipsIn_p4 N r n) ih x1 x2 x3
set_option maxHeartbeats 8000000 in
set_option maxRecDepth 100000 in
theorem t_R_shipsIn (N d : Nat) (xs : List Int32) (c : St) (r : St) (x1 : Int32) : Ok (mBig (mRoL xs) (d)) (mRoL xs) 1 mK242 (fun p : Int32 => (some (.int p), HP c r)) (R_shipsIn N r x1) 0 [some (.ref 115), some (.int x1), none, none] [] (HP c r) := by
  unfold R_shipsIn
  refine Ok_blk 4 (pc2 := 4) (lo2 := [some (.ref 115), some (.int x1), some (.int 0), some (.int 0)]) (st2 := []) rfl ?_
  refine Ok_drop (lo0 := [some (.ref 115), some (.int x1), some (.int 0), some (.int 0)]) ⟨Or.inr rfl, Or.inr rfl, Or.inr rfl, Or.inr rfl, trivial⟩ ?_
  exact t_R_shipsIn_p4 N d xs c r N x1 0 0
set_option maxHeartbeats 8000000 in
set_option maxRecDepth 100000 in
theorem tm_R_shipsIn (N d : Nat) (xs : List Int32) (c r : St) (a1 : Int32) (p : Int32) (hp : R_shipsIn N r a1 = some p) : mBig (mRoL xs) (d + 1) 242 [.ref 115, .int a1] (HP c r) (some (.int p)) (HP c r) 0 0 := mBig_of (by decide) rfl rfl rfl rfl (t_R_shipsIn N d xs c r a1 p hp)
/-! ColdHoldsModel.earnsOf(II)J, from (('r', 115), 'i', 'i') -/
def R_earnsOf_p33 (N : Nat) (r : St) (x1 : Int32) (x3 : Int64) (s0 : Int32) : Option (Int64) :=
  (if s0 = 0 then (ld (gA r 26) x1).bind fun y4 => (ld (gA r 25) x1).bind fun y5 => some ((((x3 - ((gI r 25).toInt64)) - y4.toInt64) * y5.toInt64) * 100) else (ld (gA r 26) x1).bind fun y6 => (ld (gA r 25) x1).bind fun y7 => some (((x3 - y6.toInt64) * y7.toInt64) * ((gI r 24).toInt64)))
def R_earnsOf (N : Nat) (r : St) (x1 : Int32) (x2 : Int32) : Option (Int64) :=
  (R_shipsIn N r x2).bind fun p1 => (if ¬ ((x2 >>> (x1 &&& 31)) &&& 1) = 1 then R_earnsOf_p33 N r x1 (((gI r 22).toInt64) + (((gI r 23).toInt64) * p1.toInt64)) 0 else R_earnsOf_p33 N r x1 (((gI r 22).toInt64) + (((gI r 23).toInt64) * p1.toInt64)) 1)
set_option maxHeartbeats 8000000 in
set_option maxRecDepth 100000 in
theorem t_R_earnsOf_p33 (N d : Nat) (xs : List Int32) (c : St) (r : St) (x1 : Int32) (x3 : Int64) (s0 : Int32) : Ok (mBig (mRoL xs) (d + 1)) (mRoL xs) 3 mK243 (fun p : Int64 => (some (.long p), HP c r)) (R_earnsOf_p33 N r x1 x3 s0) 33 [some (.ref 115), some (.int x1), none, some (.long x3), none, none] [.int s0] (HP c r) := by
  unfold R_earnsOf_p33
  refine Ok_blk 3 (pc2 := (if s0 = 0 then 66 else 40)) (lo2 := [some (.ref 115), some (.int x1), none, some (.long x3), none, some (.int s0)]) (st2 := []) rfl ?_
  refine Ok_if (fun h3 => ?_) (fun h3 => ?_)
  · refine Ok_blk 8 (pc2 := 78) (lo2 := [some (.ref 115), some (.int x1), none, some (.long x3), none, some (.int s0)]) (st2 := [.int x1, .ref 142, .long (x3 - ((gI r 25).toInt64))]) rfl ?_
    refine Ok_ld (l := (gA r 26)) rfl rfl (fun y4 hy4 => ?_)
    refine Ok_blk 5 (pc2 := 86) (lo2 := [some (.ref 115), some (.int x1), none, some (.long x3), none, some (.int s0)]) (st2 := [.int x1, .ref 141, .long ((x3 - ((gI r 25).toInt64)) - y4.toInt64)]) rfl ?_
    refine Ok_ld (l := (gA r 25)) rfl rfl (fun y5 hy5 => ?_)
    refine Ok_blk 4 (pc2 := 93) (lo2 := [some (.ref 115), some (.int x1), none, some (.long x3), none, some (.int s0)]) (st2 := [.long ((((x3 - ((gI r 25).toInt64)) - y4.toInt64) * y5.toInt64) * 100)]) rfl ?_
    exact Ok_ret rfl rfl rfl
  · refine Ok_blk 4 (pc2 := 46) (lo2 := [some (.ref 115), some (.int x1), none, some (.long x3), none, some (.int s0)]) (st2 := [.int x1, .ref 142, .long x3]) rfl ?_
    refine Ok_ld (l := (gA r 26)) rfl rfl (fun y6 hy6 => ?_)
    refine Ok_blk 5 (pc2 := 54) (lo2 := [some (.ref 115), some (.int x1), none, some (.long x3), none, some (.int s0)]) (st2 := [.int x1, .ref 141, .long (x3 - y6.toInt64)]) rfl ?_
    refine Ok_ld (l := (gA r 25)) rfl rfl (fun y7 hy7 => ?_)
    refine Ok_blk 7 (pc2 := 93) (lo2 := [some (.ref 115), some (.int x1), none, some (.long x3), none, some (.int s0)]) (st2 := [.long (((x3 - y6.toInt64) * y7.toInt64) * ((gI r 24).toInt64))]) rfl ?_
    exact Ok_ret rfl rfl rfl
set_option maxHeartbeats 8000000 in
set_option maxRecDepth 100000 in
theorem t_R_earnsOf (N d : Nat) (xs : List Int32) (c : St) (r : St) (x1 : Int32) (x2 : Int32) : Ok (mBig (mRoL xs) (d + 1)) (mRoL xs) 3 mK243 (fun p : Int64 => (some (.long p), HP c r)) (R_earnsOf N r x1 x2) 0 [some (.ref 115), some (.int x1), some (.int x2), none, none, none] [] (HP c r) := by
  unfold R_earnsOf
  refine Ok_blk 8 (pc2 := 12) (lo2 := [some (.ref 115), some (.int x1), some (.int x2), none, none, none]) (st2 := [.int x2, .ref 115, .long ((gI r 23).toInt64), .long ((gI r 22).toInt64)]) rfl ?_
  refine Ok_call (y := 242) (as := [.ref 115, .int x2]) (rest := [.long ((gI r 23).toInt64), .long ((gI r 22).toInt64)]) (w := fun p1 => some (.int p1)) (h1 := fun p1 => HP c r) rfl rfl (fun x hx => tm_R_shipsIn N d xs c r x2 x hx) (fun p1 hp1 => ?_)
  refine Ok_blk 11 (pc2 := (if ¬ ((x2 >>> (x1 &&& 31)) &&& 1) = 1 then 32 else 28)) (lo2 := [some (.ref 115), some (.int x1), some (.int x2), some (.long (((gI r 22).toInt64) + (((gI r 23).toInt64) * p1.toInt64))), none, none]) (st2 := []) rfl ?_
  refine Ok_if (fun h2 => ?_) (fun h2 => ?_)
  · refine Ok_blk 1 (pc2 := 33) (lo2 := [some (.ref 115), some (.int x1), some (.int x2), some (.long (((gI r 22).toInt64) + (((gI r 23).toInt64) * p1.toInt64))), none, none]) (st2 := [.int 0]) rfl ?_
    refine Ok_drop (lo0 := [some (.ref 115), some (.int x1), none, some (.long (((gI r 22).toInt64) + (((gI r 23).toInt64) * p1.toInt64))), none, none]) ⟨Or.inr rfl, Or.inr rfl, Or.inl rfl, Or.inr rfl, Or.inl rfl, Or.inl rfl, trivial⟩ ?_
    exact t_R_earnsOf_p33 N d xs c r x1 (((gI r 22).toInt64) + (((gI r 23).toInt64) * p1.toInt64)) 0
  · refine Ok_blk 2 (pc2 := 33) (lo2 := [some (.ref 115), some (.int x1), some (.int x2), some (.long (((gI r 22).toInt64) + (((gI r 23).toInt64) * p1.toInt64))), none, none]) (st2 := [.int 1]) rfl ?_
    refine Ok_drop (lo0 := [some (.ref 115), some (.int x1), none, some (.long (((gI r 22).toInt64) + (((gI r 23).toInt64) * p1.toInt64))), none, none]) ⟨Or.inr rfl, Or.inr rfl, Or.inl rfl, Or.inr rfl, Or.inl rfl, Or.inl rfl, trivial⟩ ?_
    exact t_R_earnsOf_p33 N d xs c r x1 (((gI r 22).toInt64) + (((gI r 23).toInt64) * p1.toInt64)) 1
set_option maxHeartbeats 8000000 in
set_option maxRecDepth 100000 in
theorem tm_R_earnsOf (N d : Nat) (xs : List Int32) (c r : St) (a1 : Int32) (a2 : Int32) (p : Int64) (hp : R_earnsOf N r a1 a2 = some p) : mBig (mRoL xs) (d + 2) 243 [.ref 115, .int a1, .int a2] (HP c r) (some (.long p)) (HP c r) 0 0 := mBig_of (by decide) rfl rfl rfl rfl (t_R_earnsOf N d xs c r a1 a2 p hp)
/-! ColdHoldsModel.earns(II)J, from (('r', 115), 'i', 'i') -/
def R_earns (N : Nat) (r : St) (x1 : Int32) (x2 : Int32) : Option (Int64) :=
  (R_in N x1 0 ((gI r 21) - 1)).bind fun p1 => (if ¬ p1 = 0 then (R_in N x2 0 ((1 <<< ((gI r 21) &&& 31)) - 1)).bind fun p3 => (if p3 = 0 then some (-2) else (R_earnsOf N r x1 x2).bind fun p5 => some p5) else some (-1))
set_option maxHeartbeats 8000000 in
set_option maxRecDepth 100000 in
theorem t_R_earns (N d : Nat) (xs : List Int32) (c : St) (r : St) (x1 : Int32) (x2 : Int32) : Ok (mBig (mRoL xs) (d + 2)) (mRoL xs) 3 mK244 (fun p : Int64 => (some (.long p), HP c r)) (R_earns N r x1 x2) 0 [some (.ref 115), some (.int x1), some (.int x2)] [] (HP c r) := by
  unfold R_earns
  refine Ok_blk 6 (pc2 := 8) (lo2 := [some (.ref 115), some (.int x1), some (.int x2)]) (st2 := [.int ((gI r 21) - 1), .int 0, .int x1]) rfl ?_
  refine Ok_call (y := 164) (as := [.int x1, .int 0, .int ((gI r 21) - 1)]) (rest := []) (w := fun p1 => some (.int p1)) (h1 := fun p1 => HP c r) rfl rfl (fun x hx => tm_R_in N (d + 1) xs c r x1 0 ((gI r 21) - 1) x hx) (fun p1 hp1 => ?_)
  refine Ok_blk 1 (pc2 := (if ¬ p1 = 0 then 18 else 14)) (lo2 := [some (.ref 115), some (.int x1), some (.int x2)]) (st2 := []) rfl ?_
  refine Ok_if (fun h2 => ?_) (fun h2 => ?_)
  · refine Ok_blk 8 (pc2 := 28) (lo2 := [some (.ref 115), some (.int x1), some (.int x2)]) (st2 := [.int ((1 <<< ((gI r 21) &&& 31)) - 1), .int 0, .int x2]) rfl ?_
    refine Ok_call (y := 164) (as := [.int x2, .int 0, .int ((1 <<< ((gI r 21) &&& 31)) - 1)]) (rest := []) (w := fun p3 => some (.int p3)) (h1 := fun p3 => HP c r) rfl rfl (fun x hx => tm_R_in N (d + 1) xs c r x2 0 ((1 <<< ((gI r 21) &&& 31)) - 1) x hx) (fun p3 hp3 => ?_)
    refine Ok_blk 1 (pc2 := (if p3 = 0 then 43 else 34)) (lo2 := [some (.ref 115), some (.int x1), some (.int x2)]) (st2 := []) rfl ?_
    refine Ok_if (fun h4 => ?_) (fun h4 => ?_)
    · refine Ok_blk 1 (pc2 := 46) (lo2 := [some (.ref 115), some (.int x1), some (.int x2)]) (st2 := [.long (-2)]) rfl ?_
      exact Ok_ret rfl rfl rfl
    · refine Ok_blk 3 (pc2 := 37) (lo2 := [some (.ref 115), some (.int x1), some (.int x2)]) (st2 := [.int x2, .int x1, .ref 115]) rfl ?_
      refine Ok_call (y := 243) (as := [.ref 115, .int x1, .int x2]) (rest := []) (w := fun p5 => some (.long p5)) (h1 := fun p5 => HP c r) rfl rfl (fun x hx => tm_R_earnsOf N d xs c r x1 x2 x hx) (fun p5 hp5 => ?_)
      refine Ok_blk 1 (pc2 := 46) (lo2 := [some (.ref 115), some (.int x1), some (.int x2)]) (st2 := [.long p5]) rfl ?_
      exact Ok_ret rfl rfl rfl
  · refine Ok_blk 1 (pc2 := 17) (lo2 := [some (.ref 115), some (.int x1), some (.int x2)]) (st2 := [.long (-1)]) rfl ?_
    exact Ok_ret rfl rfl rfl
set_option maxHeartbeats 8000000 in
set_option maxRecDepth 100000 in
theorem tm_R_earns (N d : Nat) (xs : List Int32) (c r : St) (a1 : Int32) (a2 : Int32) (p : Int64) (hp : R_earns N r a1 a2 = some p) : mBig (mRoL xs) (d + 3) 244 [.ref 115, .int a1, .int a2] (HP c r) (some (.long p)) (HP c r) 0 0 := mBig_of (by decide) rfl rfl rfl rfl (t_R_earns N d xs c r a1 a2 p hp)
/-! ColdHolds$Ring.holds(I)Z, from (('r', 100), 'i') -/
def Ring_holds_p2b (N : Nat) (kb2 : Int32 → Int32 → Option (Int32)) (c : St) (x1 : Int32) (x2 : Int32) : Option (Int32) :=
  (if (gI c 27) ≤ x2 then some 1 else (Ring_earned N c x2 (x1 ^^^ (1 <<< (x2 &&& 31)))).bind fun p2 => (Ring_earned N c x2 x1).bind fun p3 => (if (mLc p2 p3) ≤ 0 then kb2 x1 (x2 + 1) else some 0))
def Ring_holds_p2 (N : Nat) (c : St) : Nat → Int32 → Int32 → Option (Int32)
  | 0 => fun _ _ => none
  | n + 1 => Ring_holds_p2b N (Ring_holds_p2 N c n) c
def Ring_holds (N : Nat) (c : St) (x1 : Int32) : Option (Int32) :=
  Ring_holds_p2 N c N x1 0
set_option maxHeartbeats 8000000 in
set_option maxRecDepth 100000 in
theorem t_Ring_holds_p2b (N d : Nat) (xs : List Int32) (c : St) (r : St) (kb2 : Int32 → Int32 → Option (Int32)) (hb2 : ∀ (x1 : Int32) (x2 : Int32), Ok (mBig (mRoL xs) (d + 3)) (mRoL xs) 2 mK73 (fun p : Int32 => (some (.int p), HP c r)) (kb2 x1 x2) 2 [some (.ref 100), some (.int x1), some (.int x2)] [] (HP c r)) (x1 : Int32) (x2 : Int32) : Ok (mBig (mRoL xs) (d + 3)) (mRoL xs) 2 mK73 (fun p : Int32 => (some (.int p), HP c r)) (Ring_holds_p2b N kb2 c x1 x2) 2 [some (.ref 100), some (.int x1), some (.int x2)] [] (HP c r) := by
  unfold Ring_holds_p2b
  refine Ok_blk 4 (pc2 := (if (gI c 27) ≤ x2 then 38 else 10)) (lo2 := [some (.ref 100), some (.int x1), some (.int x2)]) (st2 := []) rfl ?_
  refine Ok_if (fun h1 => ?_) (fun h1 => ?_)
  · refine Ok_blk 1 (pc2 := 39) (lo2 := [some (.ref 100), some (.int x1), some (.int x2)]) (st2 := [.int 1]) rfl ?_
    exact Ok_rez (Or.inr rfl) rfl rfl
  · refine Ok_blk 7 (pc2 := 17) (lo2 := [some (.ref 100), some (.int x1), some (.int x2)]) (st2 := [.int (x1 ^^^ (1 <<< (x2 &&& 31))), .int x2, .ref 100]) rfl ?_
    refine Ok_call (y := 72) (as := [.ref 100, .int x2, .int (x1 ^^^ (1 <<< (x2 &&& 31)))]) (rest := []) (w := fun p2 => some (.long p2)) (h1 := fun p2 => HP c r) rfl rfl (fun x hx => tm_Ring_earned N d xs c r x2 (x1 ^^^ (1 <<< (x2 &&& 31))) x hx) (fun p2 hp2 => ?_)
    refine Ok_blk 3 (pc2 := 23) (lo2 := [some (.ref 100), some (.int x1), some (.int x2)]) (st2 := [.int x1, .int x2, .ref 100, .long p2]) rfl ?_
    refine Ok_call (y := 72) (as := [.ref 100, .int x2, .int x1]) (rest := [.long p2]) (w := fun p3 => some (.long p3)) (h1 := fun p3 => HP c r) rfl rfl (fun x hx => tm_Ring_earned N d xs c r x2 x1 x hx) (fun p3 hp3 => ?_)
    refine Ok_blk 2 (pc2 := (if (mLc p2 p3) ≤ 0 then 32 else 30)) (lo2 := [some (.ref 100), some (.int x1), some (.int x2)]) (st2 := []) rfl ?_
    refine Ok_if (fun h4 => ?_) (fun h4 => ?_)
    · refine Ok_blk 2 (pc2 := 2) (lo2 := [some (.ref 100), some (.int x1), some (.int (x2 + 1))]) (st2 := []) rfl ?_
      refine Ok_drop (lo0 := [some (.ref 100), some (.int x1), some (.int (x2 + 1))]) ⟨Or.inr rfl, Or.inr rfl, Or.inr rfl, trivial⟩ ?_
      exact hb2 x1 (x2 + 1)
    · refine Ok_blk 1 (pc2 := 31) (lo2 := [some (.ref 100), some (.int x1), some (.int x2)]) (st2 := [.int 0]) rfl ?_
      exact Ok_rez (Or.inl rfl) rfl rfl
set_option maxHeartbeats 8000000 in
set_option maxRecDepth 100000 in
theorem t_Ring_holds_p2 (N d : Nat) (xs : List Int32) (c : St) (r : St) : ∀ (n : Nat) (x1 : Int32) (x2 : Int32), Ok (mBig (mRoL xs) (d + 3)) (mRoL xs) 2 mK73 (fun p : Int32 => (some (.int p), HP c r)) (Ring_holds_p2 N c n x1 x2) 2 [some (.ref 100), some (.int x1), some (.int x2)] [] (HP c r) := by
  intro n
  induction n with
  | zero => intro x1 x2; exact Ok_none
  | succ n ih => intro x1 x2; exact t_Ring_holds_p2b N d xs c r (Ring_holds_p2 N c n) ih x1 x2
set_option maxHeartbeats 8000000 in
set_option maxRecDepth 100000 in
theorem t_Ring_holds (N d : Nat) (xs : List Int32) (c : St) (r : St) (x1 : Int32) : Ok (mBig (mRoL xs) (d + 3)) (mRoL xs) 2 mK73 (fun p : Int32 => (some (.int p), HP c r)) (Ring_holds N c x1) 0 [some (.ref 100), some (.int x1), none] [] (HP c r) := by
  unfold Ring_holds
  refine Ok_blk 2 (pc2 := 2) (lo2 := [some (.ref 100), some (.int x1), some (.int 0)]) (st2 := []) rfl ?_
  refine Ok_drop (lo0 := [some (.ref 100), some (.int x1), some (.int 0)]) ⟨Or.inr rfl, Or.inr rfl, Or.inr rfl, trivial⟩ ?_
  exact t_Ring_holds_p2 N d xs c r N x1 0
set_option maxHeartbeats 8000000 in
set_option maxRecDepth 100000 in
theorem tm_Ring_holds (N d : Nat) (xs : List Int32) (c r : St) (a1 : Int32) (p : Int32) (hp : Ring_holds N c a1 = some p) : mBig (mRoL xs) (d + 4) 73 [.ref 100, .int a1] (HP c r) (some (.int p)) (HP c r) 0 0 := mBig_of (by decide) rfl rfl rfl rfl (t_Ring_holds N d xs c r a1 p hp)
/-! ColdHolds$Ring.howManyHold()I, from (('r', 100),) -/
def Ring_howManyHold_p23 (N : Nat) (kb4 : Int32 → Int32 → Option (Int32)) (c : St) (x1 : Int32) (x2 : Int32) : Option (Int32) :=
  kb4 x1 (x2 + 1)
def Ring_howManyHold_p4b (N : Nat) (kb4 : Int32 → Int32 → Option (Int32)) (c : St) (x1 : Int32) (x2 : Int32) : Option (Int32) :=
  (Ring_allSets N c).bind fun p1 => (if p1 ≤ x2 then some x1 else (Ring_holds N c x2).bind fun p3 => (if p3 = 0 then Ring_howManyHold_p23 N kb4 c x1 x2 else Ring_howManyHold_p23 N kb4 c (x1 + 1) x2))
def Ring_howManyHold_p4 (N : Nat) (c : St) : Nat → Int32 → Int32 → Option (Int32)
  | 0 => fun _ _ => none
  | n + 1 => Ring_howManyHold_p4b N (Ring_howManyHold_p4 N c n) c
def Ring_howManyHold (N : Nat) (c : St) : Option (Int32) :=
  Ring_howManyHold_p4 N c N 0 0
set_option maxHeartbeats 8000000 in
set_option maxRecDepth 100000 in
theorem t_Ring_howManyHold_p23 (N d : Nat) (xs : List Int32) (c : St) (r : St) (kb4 : Int32 → Int32 → Option (Int32)) (hb4 : ∀ (x1 : Int32) (x2 : Int32), Ok (mBig (mRoL xs) (d + 4)) (mRoL xs) 1 mK74 (fun p : Int32 => (some (.int p), HP c r)) (kb4 x1 x2) 4 [some (.ref 100), some (.int x1), some (.int x2)] [] (HP c r)) (x1 : Int32) (x2 : Int32) : Ok (mBig (mRoL xs) (d + 4)) (mRoL xs) 1 mK74 (fun p : Int32 => (some (.int p), HP c r)) (Ring_howManyHold_p23 N kb4 c x1 x2) 23 [some (.ref 100), some (.int x1), some (.int x2)] [] (HP c r) := by
  unfold Ring_howManyHold_p23
  refine Ok_blk 2 (pc2 := 4) (lo2 := [some (.ref 100), some (.int x1), some (.int (x2 + 1))]) (st2 := []) rfl ?_
  refine Ok_drop (lo0 := [some (.ref 100), some (.int x1), some (.int (x2 + 1))]) ⟨Or.inr rfl, Or.inr rfl, Or.inr rfl, trivial⟩ ?_
  exact hb4 x1 (x2 + 1)
set_option maxHeartbeats 8000000 in
set_option maxRecDepth 100000 in
theorem t_Ring_howManyHold_p4b (N d : Nat) (xs : List Int32) (c : St) (r : St) (kb4 : Int32 → Int32 → Option (Int32)) (hb4 : ∀ (x1 : Int32) (x2 : Int32), Ok (mBig (mRoL xs) (d + 4)) (mRoL xs) 1 mK74 (fun p : Int32 => (some (.int p), HP c r)) (kb4 x1 x2) 4 [some (.ref 100), some (.int x1), some (.int x2)] [] (HP c r)) (x1 : Int32) (x2 : Int32) : Ok (mBig (mRoL xs) (d + 4)) (mRoL xs) 1 mK74 (fun p : Int32 => (some (.int p), HP c r)) (Ring_howManyHold_p4b N kb4 c x1 x2) 4 [some (.ref 100), some (.int x1), some (.int x2)] [] (HP c r) := by
  unfold Ring_howManyHold_p4b
  refine Ok_blk 2 (pc2 := 6) (lo2 := [some (.ref 100), some (.int x1), some (.int x2)]) (st2 := [.ref 100, .int x2]) rfl ?_
  refine Ok_call (y := 69) (as := [.ref 100]) (rest := [.int x2]) (w := fun p1 => some (.int p1)) (h1 := fun p1 => HP c r) rfl rfl (fun x hx => tm_Ring_allSets N (d + 3) xs c r x hx) (fun p1 hp1 => ?_)
  refine Ok_blk 1 (pc2 := (if p1 ≤ x2 then 29 else 12)) (lo2 := [some (.ref 100), some (.int x1), some (.int x2)]) (st2 := []) rfl ?_
  refine Ok_if (fun h2 => ?_) (fun h2 => ?_)
  · refine Ok_blk 1 (pc2 := 30) (lo2 := [some (.ref 100), some (.int x1), some (.int x2)]) (st2 := [.int x1]) rfl ?_
    exact Ok_ret rfl rfl rfl
  · refine Ok_blk 2 (pc2 := 14) (lo2 := [some (.ref 100), some (.int x1), some (.int x2)]) (st2 := [.int x2, .ref 100]) rfl ?_
    refine Ok_call (y := 73) (as := [.ref 100, .int x2]) (rest := []) (w := fun p3 => some (.int p3)) (h1 := fun p3 => HP c r) rfl rfl (fun x hx => tm_Ring_holds N d xs c r x2 x hx) (fun p3 hp3 => ?_)
    refine Ok_blk 1 (pc2 := (if p3 = 0 then 23 else 20)) (lo2 := [some (.ref 100), some (.int x1), some (.int x2)]) (st2 := []) rfl ?_
    refine Ok_if (fun h4 => ?_) (fun h4 => ?_)
    · refine Ok_drop (lo0 := [some (.ref 100), some (.int x1), some (.int x2)]) ⟨Or.inr rfl, Or.inr rfl, Or.inr rfl, trivial⟩ ?_
      exact t_Ring_howManyHold_p23 N d xs c r kb4 hb4 x1 x2
    · refine Ok_blk 1 (pc2 := 23) (lo2 := [some (.ref 100), some (.int (x1 + 1)), some (.int x2)]) (st2 := []) rfl ?_
      refine Ok_drop (lo0 := [some (.ref 100), some (.int (x1 + 1)), some (.int x2)]) ⟨Or.inr rfl, Or.inr rfl, Or.inr rfl, trivial⟩ ?_
      exact t_Ring_howManyHold_p23 N d xs c r kb4 hb4 (x1 + 1) x2
set_option maxHeartbeats 8000000 in
set_option maxRecDepth 100000 in
theorem t_Ring_howManyHold_p4 (N d : Nat) (xs : List Int32) (c : St) (r : St) : ∀ (n : Nat) (x1 : Int32) (x2 : Int32), Ok (mBig (mRoL xs) (d + 4)) (mRoL xs) 1 mK74 (fun p : Int32 => (some (.int p), HP c r)) (Ring_howManyHold_p4 N c n x1 x2) 4 [some (.ref 100), some (.int x1), some (.int x2)] [] (HP c r) := by
  intro n
  induction n with
  | zero => intro x1 x2; exact Ok_none
  | succ n ih => intro x1 x2; exact t_Ring_howManyHold_p4b N d xs c r (Ring_howManyHold_p4 N c n) ih x1 x2
set_option maxHeartbeats 8000000 in
set_option maxRecDepth 100000 in
theorem t_Ring_howManyHold (N d : Nat) (xs : List Int32) (c : St) (r : St) : Ok (mBig (mRoL xs) (d + 4)) (mRoL xs) 1 mK74 (fun p : Int32 => (some (.int p), HP c r)) (Ring_howManyHold N c) 0 [some (.ref 100), none, none] [] (HP c r) := by
  unfold Ring_howManyHold
  refine Ok_blk 4 (pc2 := 4) (lo2 := [some (.ref 100), some (.int 0), some (.int 0)]) (st2 := []) rfl ?_
  refine Ok_drop (lo0 := [some (.ref 100), some (.int 0), some (.int 0)]) ⟨Or.inr rfl, Or.inr rfl, Or.inr rfl, trivial⟩ ?_
  exact t_Ring_howManyHold_p4 N d xs c r N 0 0
set_option maxHeartbeats 8000000 in
set_option maxRecDepth 100000 in
theorem tm_Ring_howManyHold (N d : Nat) (xs : List Int32) (c r : St) (p : Int32) (hp : Ring_howManyHold N c = some p) : mBig (mRoL xs) (d + 5) 74 [.ref 100] (HP c r) (some (.int p)) (HP c r) 0 0 := mBig_of (by decide) rfl rfl rfl rfl (t_Ring_howManyHold N d xs c r p hp)
/-! ColdHolds$Ring.greatestThatHolds()I, from (('r', 100),) -/
def Ring_greatestThatHolds_p39 (N : Nat) (kb6 : Int32 → Int32 → Int32 → Option (Int32)) (c : St) (x1 : Int32) (x2 : Int32) (x3 : Int32) : Option (Int32) :=
  kb6 x1 x2 (x3 + 1)
def Ring_greatestThatHolds_p6b (N : Nat) (kb6 : Int32 → Int32 → Int32 → Option (Int32)) (c : St) (x1 : Int32) (x2 : Int32) (x3 : Int32) : Option (Int32) :=
  (Ring_allSets N c).bind fun p1 => (if p1 ≤ x3 then some x1 else (Ring_shipsOf N c x3).bind fun p3 => (if p3 ≤ x2 then Ring_greatestThatHolds_p39 N kb6 c x1 x2 x3 else (Ring_holds N c x3).bind fun p5 => (if p5 = 0 then Ring_greatestThatHolds_p39 N kb6 c x1 x2 x3 else (Ring_shipsOf N c x3).bind fun p7 => Ring_greatestThatHolds_p39 N kb6 c x3 p7 x3)))
def Ring_greatestThatHolds_p6 (N : Nat) (c : St) : Nat → Int32 → Int32 → Int32 → Option (Int32)
  | 0 => fun _ _ _ => none
  | n + 1 => Ring_greatestThatHolds_p6b N (Ring_greatestThatHolds_p6 N c n) c
def Ring_greatestThatHolds (N : Nat) (c : St) : Option (Int32) :=
  Ring_greatestThatHolds_p6 N c N (-1) (-1) 0
set_option maxHeartbeats 8000000 in
set_option maxRecDepth 100000 in
theorem t_Ring_greatestThatHolds_p39 (N d : Nat) (xs : List Int32) (c : St) (r : St) (kb6 : Int32 → Int32 → Int32 → Option (Int32)) (hb6 : ∀ (x1 : Int32) (x2 : Int32) (x3 : Int32), Ok (mBig (mRoL xs) (d + 4)) (mRoL xs) 1 mK75 (fun p : Int32 => (some (.int p), HP c r)) (kb6 x1 x2 x3) 6 [some (.ref 100), some (.int x1), some (.int x2), some (.int x3)] [] (HP c r)) (x1 : Int32) (x2 : Int32) (x3 : Int32) : Ok (mBig (mRoL xs) (d + 4)) (mRoL xs) 1 mK75 (fun p : Int32 => (some (.int p), HP c r)) (Ring_greatestThatHolds_p39 N kb6 c x1 x2 x3) 39 [some (.ref 100), some (.int x1), some (.int x2), some (.int x3)] [] (HP c r) := by
  unfold Ring_greatestThatHolds_p39
  refine Ok_blk 2 (pc2 := 6) (lo2 := [some (.ref 100), some (.int x1), some (.int x2), some (.int (x3 + 1))]) (st2 := []) rfl ?_
  refine Ok_drop (lo0 := [some (.ref 100), some (.int x1), some (.int x2), some (.int (x3 + 1))]) ⟨Or.inr rfl, Or.inr rfl, Or.inr rfl, Or.inr rfl, trivial⟩ ?_
  exact hb6 x1 x2 (x3 + 1)
set_option maxHeartbeats 8000000 in
set_option maxRecDepth 100000 in
theorem t_Ring_greatestThatHolds_p6b (N d : Nat) (xs : List Int32) (c : St) (r : St) (kb6 : Int32 → Int32 → Int32 → Option (Int32)) (hb6 : ∀ (x1 : Int32) (x2 : Int32) (x3 : Int32), Ok (mBig (mRoL xs) (d + 4)) (mRoL xs) 1 mK75 (fun p : Int32 => (some (.int p), HP c r)) (kb6 x1 x2 x3) 6 [some (.ref 100), some (.int x1), some (.int x2), some (.int x3)] [] (HP c r)) (x1 : Int32) (x2 : Int32) (x3 : Int32) : Ok (mBig (mRoL xs) (d + 4)) (mRoL xs) 1 mK75 (fun p : Int32 => (some (.int p), HP c r)) (Ring_greatestThatHolds_p6b N kb6 c x1 x2 x3) 6 [some (.ref 100), some (.int x1), some (.int x2), some (.int x3)] [] (HP c r) := by
  unfold Ring_greatestThatHolds_p6b
  refine Ok_blk 2 (pc2 := 8) (lo2 := [some (.ref 100), some (.int x1), some (.int x2), some (.int x3)]) (st2 := [.ref 100, .int x3]) rfl ?_
  refine Ok_call (y := 69) (as := [.ref 100]) (rest := [.int x3]) (w := fun p1 => some (.int p1)) (h1 := fun p1 => HP c r) rfl rfl (fun x hx => tm_Ring_allSets N (d + 3) xs c r x hx) (fun p1 hp1 => ?_)
  refine Ok_blk 1 (pc2 := (if p1 ≤ x3 then 45 else 14)) (lo2 := [some (.ref 100), some (.int x1), some (.int x2), some (.int x3)]) (st2 := []) rfl ?_
  refine Ok_if (fun h2 => ?_) (fun h2 => ?_)
  · refine Ok_blk 1 (pc2 := 46) (lo2 := [some (.ref 100), some (.int x1), some (.int x2), some (.int x3)]) (st2 := [.int x1]) rfl ?_
    exact Ok_ret rfl rfl rfl
  · refine Ok_blk 2 (pc2 := 16) (lo2 := [some (.ref 100), some (.int x1), some (.int x2), some (.int x3)]) (st2 := [.int x3, .ref 100]) rfl ?_
    refine Ok_call (y := 71) (as := [.ref 100, .int x3]) (rest := []) (w := fun p3 => some (.int p3)) (h1 := fun p3 => HP c r) rfl rfl (fun x hx => tm_Ring_shipsOf N (d + 2) xs c r x3 x hx) (fun p3 hp3 => ?_)
    refine Ok_blk 2 (pc2 := (if p3 ≤ x2 then 39 else 23)) (lo2 := [some (.ref 100), some (.int x1), some (.int x2), some (.int x3)]) (st2 := []) rfl ?_
    refine Ok_if (fun h4 => ?_) (fun h4 => ?_)
    · refine Ok_drop (lo0 := [some (.ref 100), some (.int x1), some (.int x2), some (.int x3)]) ⟨Or.inr rfl, Or.inr rfl, Or.inr rfl, Or.inr rfl, trivial⟩ ?_
      exact t_Ring_greatestThatHolds_p39 N d xs c r kb6 hb6 x1 x2 x3
    · refine Ok_blk 2 (pc2 := 25) (lo2 := [some (.ref 100), some (.int x1), some (.int x2), some (.int x3)]) (st2 := [.int x3, .ref 100]) rfl ?_
      refine Ok_call (y := 73) (as := [.ref 100, .int x3]) (rest := []) (w := fun p5 => some (.int p5)) (h1 := fun p5 => HP c r) rfl rfl (fun x hx => tm_Ring_holds N d xs c r x3 x hx) (fun p5 hp5 => ?_)
      refine Ok_blk 1 (pc2 := (if p5 = 0 then 39 else 31)) (lo2 := [some (.ref 100), some (.int x1), some (.int x2), some (.int x3)]) (st2 := []) rfl ?_
      refine Ok_if (fun h6 => ?_) (fun h6 => ?_)
      · refine Ok_drop (lo0 := [some (.ref 100), some (.int x1), some (.int x2), some (.int x3)]) ⟨Or.inr rfl, Or.inr rfl, Or.inr rfl, Or.inr rfl, trivial⟩ ?_
        exact t_Ring_greatestThatHolds_p39 N d xs c r kb6 hb6 x1 x2 x3
      · refine Ok_blk 4 (pc2 := 35) (lo2 := [some (.ref 100), some (.int x3), some (.int x2), some (.int x3)]) (st2 := [.int x3, .ref 100]) rfl ?_
        refine Ok_call (y := 71) (as := [.ref 100, .int x3]) (rest := []) (w := fun p7 => some (.int p7)) (h1 := fun p7 => HP c r) rfl rfl (fun x hx => tm_Ring_shipsOf N (d + 2) xs c r x3 x hx) (fun p7 hp7 => ?_)
        refine Ok_blk 1 (pc2 := 39) (lo2 := [some (.ref 100), some (.int x3), some (.int p7), some (.int x3)]) (st2 := []) rfl ?_
        refine Ok_drop (lo0 := [some (.ref 100), some (.int x3), some (.int p7), some (.int x3)]) ⟨Or.inr rfl, Or.inr rfl, Or.inr rfl, Or.inr rfl, trivial⟩ ?_
        exact t_Ring_greatestThatHolds_p39 N d xs c r kb6 hb6 x3 p7 x3
set_option maxHeartbeats 8000000 in
set_option maxRecDepth 100000 in
theorem t_Ring_greatestThatHolds_p6 (N d : Nat) (xs : List Int32) (c : St) (r : St) : ∀ (n : Nat) (x1 : Int32) (x2 : Int32) (x3 : Int32), Ok (mBig (mRoL xs) (d + 4)) (mRoL xs) 1 mK75 (fun p : Int32 => (some (.int p), HP c r)) (Ring_greatestThatHolds_p6 N c n x1 x2 x3) 6 [some (.ref 100), some (.int x1), some (.int x2), some (.int x3)] [] (HP c r) := by
  intro n
  induction n with
  | zero => intro x1 x2 x3; exact Ok_none
  | succ n ih => intro x1 x2 x3; exact t_Ring_greatestThatHolds_p6b N d xs c r (Ring_greatestThatHolds_p6 N c n) ih x1 x2 x3
set_option maxHeartbeats 8000000 in
set_option maxRecDepth 100000 in
theorem t_Ring_greatestThatHolds (N d : Nat) (xs : List Int32) (c : St) (r : St) : Ok (mBig (mRoL xs) (d + 4)) (mRoL xs) 1 mK75 (fun p : Int32 => (some (.int p), HP c r)) (Ring_greatestThatHolds N c) 0 [some (.ref 100), none, none, none] [] (HP c r) := by
  unfold Ring_greatestThatHolds
  refine Ok_blk 6 (pc2 := 6) (lo2 := [some (.ref 100), some (.int (-1)), some (.int (-1)), some (.int 0)]) (st2 := []) rfl ?_
  refine Ok_drop (lo0 := [some (.ref 100), some (.int (-1)), some (.int (-1)), some (.int 0)]) ⟨Or.inr rfl, Or.inr rfl, Or.inr rfl, Or.inr rfl, trivial⟩ ?_
  exact t_Ring_greatestThatHolds_p6 N d xs c r N (-1) (-1) 0
set_option maxHeartbeats 8000000 in
set_option maxRecDepth 100000 in
theorem tm_Ring_greatestThatHolds (N d : Nat) (xs : List Int32) (c r : St) (p : Int32) (hp : Ring_greatestThatHolds N c = some p) : mBig (mRoL xs) (d + 5) 75 [.ref 100] (HP c r) (some (.int p)) (HP c r) 0 0 := mBig_of (by decide) rfl rfl rfl rfl (t_Ring_greatestThatHolds N d xs c r p hp)
/-! ColdHolds.stable(I)I, from (('r', 0), 'i') -/
def C_stable (N : Nat) (c : St) (x1 : Int32) : Option (Int32) :=
  (C_within N x1 0 1).bind fun p1 => (if ¬ p1 = 0 then (if ¬ x1 = 0 then (Ring_greatestThatHolds N c).bind fun p4 => some p4 else (Ring_howManyHold N c).bind fun p5 => some p5) else some (-102))
set_option maxHeartbeats 8000000 in
set_option maxRecDepth 100000 in
theorem t_C_stable (N d : Nat) (xs : List Int32) (c : St) (r : St) (x1 : Int32) : Ok (mBig (mRoL xs) (d + 5)) (mRoL xs) 1 mK154 (fun p : Int32 => (some (.int p), HP c r)) (C_stable N c x1) 0 [some (.ref 0), some (.int x1)] [] (HP c r) := by
  unfold C_stable
  refine Ok_blk 3 (pc2 := 3) (lo2 := [some (.ref 0), some (.int x1)]) (st2 := [.int 1, .int 0, .int x1]) rfl ?_
  refine Ok_call (y := 102) (as := [.int x1, .int 0, .int 1]) (rest := []) (w := fun p1 => some (.int p1)) (h1 := fun p1 => HP c r) rfl rfl (fun x hx => tm_C_within N (d + 4) xs c r x1 0 1 x hx) (fun p1 hp1 => ?_)
  refine Ok_blk 1 (pc2 := (if ¬ p1 = 0 then 12 else 9)) (lo2 := [some (.ref 0), some (.int x1)]) (st2 := []) rfl ?_
  refine Ok_if (fun h2 => ?_) (fun h2 => ?_)
  · refine Ok_blk 2 (pc2 := (if ¬ x1 = 0 then 26 else 16)) (lo2 := [some (.ref 0), some (.int x1)]) (st2 := []) rfl ?_
    refine Ok_if (fun h3 => ?_) (fun h3 => ?_)
    · refine Ok_blk 2 (pc2 := 30) (lo2 := [some (.ref 0), some (.int x1)]) (st2 := [.ref 100]) rfl ?_
      refine Ok_call (y := 75) (as := [.ref 100]) (rest := []) (w := fun p4 => some (.int p4)) (h1 := fun p4 => HP c r) rfl rfl (fun x hx => tm_Ring_greatestThatHolds N d xs c r x hx) (fun p4 hp4 => ?_)
      exact Ok_ret rfl rfl rfl
    · refine Ok_blk 2 (pc2 := 20) (lo2 := [some (.ref 0), some (.int x1)]) (st2 := [.ref 100]) rfl ?_
      refine Ok_call (y := 74) (as := [.ref 100]) (rest := []) (w := fun p5 => some (.int p5)) (h1 := fun p5 => HP c r) rfl rfl (fun x hx => tm_Ring_howManyHold N d xs c r x hx) (fun p5 hp5 => ?_)
      refine Ok_blk 1 (pc2 := 33) (lo2 := [some (.ref 0), some (.int x1)]) (st2 := [.int p5]) rfl ?_
      exact Ok_ret rfl rfl rfl
  · refine Ok_blk 1 (pc2 := 11) (lo2 := [some (.ref 0), some (.int x1)]) (st2 := [.int (-102)]) rfl ?_
    exact Ok_ret rfl rfl rfl
set_option maxHeartbeats 8000000 in
set_option maxRecDepth 100000 in
theorem tm_C_stable (N d : Nat) (xs : List Int32) (c r : St) (a1 : Int32) (p : Int32) (hp : C_stable N c a1 = some p) : mBig (mRoL xs) (d + 6) 154 [.ref 0, .int a1] (HP c r) (some (.int p)) (HP c r) 0 0 := mBig_of (by decide) rfl rfl rfl rfl (t_C_stable N d xs c r a1 p hp)
/-! ColdHoldsModel.isStable(I)Z, from (('r', 115), 'i') -/
def R_isStable_p2b (N : Nat) (kb2 : Int32 → Int32 → Option (Int32)) (r : St) (x1 : Int32) (x2 : Int32) : Option (Int32) :=
  (if (gI r 21) ≤ x2 then some 1 else (R_earnsOf N r x2 (x1 ^^^ (1 <<< (x2 &&& 31)))).bind fun p2 => (R_earnsOf N r x2 x1).bind fun p3 => (if (mLc p2 p3) ≤ 0 then kb2 x1 (x2 + 1) else some 0))
def R_isStable_p2 (N : Nat) (r : St) : Nat → Int32 → Int32 → Option (Int32)
  | 0 => fun _ _ => none
  | n + 1 => R_isStable_p2b N (R_isStable_p2 N r n) r
def R_isStable (N : Nat) (r : St) (x1 : Int32) : Option (Int32) :=
  R_isStable_p2 N r N x1 0
set_option maxHeartbeats 8000000 in
set_option maxRecDepth 100000 in
theorem t_R_isStable_p2b (N d : Nat) (xs : List Int32) (c : St) (r : St) (kb2 : Int32 → Int32 → Option (Int32)) (hb2 : ∀ (x1 : Int32) (x2 : Int32), Ok (mBig (mRoL xs) (d + 2)) (mRoL xs) 2 mK245 (fun p : Int32 => (some (.int p), HP c r)) (kb2 x1 x2) 2 [some (.ref 115), some (.int x1), some (.int x2)] [] (HP c r)) (x1 : Int32) (x2 : Int32) : Ok (mBig (mRoL xs) (d + 2)) (mRoL xs) 2 mK245 (fun p : Int32 => (some (.int p), HP c r)) (R_isStable_p2b N kb2 r x1 x2) 2 [some (.ref 115), some (.int x1), some (.int x2)] [] (HP c r) := by
  unfold R_isStable_p2b
  refine Ok_blk 4 (pc2 := (if (gI r 21) ≤ x2 then 38 else 10)) (lo2 := [some (.ref 115), some (.int x1), some (.int x2)]) (st2 := []) rfl ?_
  refine Ok_if (fun h1 => ?_) (fun h1 => ?_)
  · refine Ok_blk 1 (pc2 := 39) (lo2 := [some (.ref 115), some (.int x1), some (.int x2)]) (st2 := [.int 1]) rfl ?_
    exact Ok_rez (Or.inr rfl) rfl rfl
  · refine Ok_blk 7 (pc2 := 17) (lo2 := [some (.ref 115), some (.int x1), some (.int x2)]) (st2 := [.int (x1 ^^^ (1 <<< (x2 &&& 31))), .int x2, .ref 115]) rfl ?_
    refine Ok_call (y := 243) (as := [.ref 115, .int x2, .int (x1 ^^^ (1 <<< (x2 &&& 31)))]) (rest := []) (w := fun p2 => some (.long p2)) (h1 := fun p2 => HP c r) rfl rfl (fun x hx => tm_R_earnsOf N d xs c r x2 (x1 ^^^ (1 <<< (x2 &&& 31))) x hx) (fun p2 hp2 => ?_)
    refine Ok_blk 3 (pc2 := 23) (lo2 := [some (.ref 115), some (.int x1), some (.int x2)]) (st2 := [.int x1, .int x2, .ref 115, .long p2]) rfl ?_
    refine Ok_call (y := 243) (as := [.ref 115, .int x2, .int x1]) (rest := [.long p2]) (w := fun p3 => some (.long p3)) (h1 := fun p3 => HP c r) rfl rfl (fun x hx => tm_R_earnsOf N d xs c r x2 x1 x hx) (fun p3 hp3 => ?_)
    refine Ok_blk 2 (pc2 := (if (mLc p2 p3) ≤ 0 then 32 else 30)) (lo2 := [some (.ref 115), some (.int x1), some (.int x2)]) (st2 := []) rfl ?_
    refine Ok_if (fun h4 => ?_) (fun h4 => ?_)
    · refine Ok_blk 2 (pc2 := 2) (lo2 := [some (.ref 115), some (.int x1), some (.int (x2 + 1))]) (st2 := []) rfl ?_
      refine Ok_drop (lo0 := [some (.ref 115), some (.int x1), some (.int (x2 + 1))]) ⟨Or.inr rfl, Or.inr rfl, Or.inr rfl, trivial⟩ ?_
      exact hb2 x1 (x2 + 1)
    · refine Ok_blk 1 (pc2 := 31) (lo2 := [some (.ref 115), some (.int x1), some (.int x2)]) (st2 := [.int 0]) rfl ?_
      exact Ok_rez (Or.inl rfl) rfl rfl
set_option maxHeartbeats 8000000 in
set_option maxRecDepth 100000 in
theorem t_R_isStable_p2 (N d : Nat) (xs : List Int32) (c : St) (r : St) : ∀ (n : Nat) (x1 : Int32) (x2 : Int32), Ok (mBig (mRoL xs) (d + 2)) (mRoL xs) 2 mK245 (fun p : Int32 => (some (.int p), HP c r)) (R_isStable_p2 N r n x1 x2) 2 [some (.ref 115), some (.int x1), some (.int x2)] [] (HP c r) := by
  intro n
  induction n with
  | zero => intro x1 x2; exact Ok_none
  | succ n ih => intro x1 x2; exact t_R_isStable_p2b N d xs c r (R_isStable_p2 N r n) ih x1 x2
set_option maxHeartbeats 8000000 in
set_option maxRecDepth 100000 in
theorem t_R_isStable (N d : Nat) (xs : List Int32) (c : St) (r : St) (x1 : Int32) : Ok (mBig (mRoL xs) (d + 2)) (mRoL xs) 2 mK245 (fun p : Int32 => (some (.int p), HP c r)) (R_isStable N r x1) 0 [some (.ref 115), some (.int x1), none] [] (HP c r) := by
  unfold R_isStable
  refine Ok_blk 2 (pc2 := 2) (lo2 := [some (.ref 115), some (.int x1), some (.int 0)]) (st2 := []) rfl ?_
  refine Ok_drop (lo0 := [some (.ref 115), some (.int x1), some (.int 0)]) ⟨Or.inr rfl, Or.inr rfl, Or.inr rfl, trivial⟩ ?_
  exact t_R_isStable_p2 N d xs c r N x1 0
set_option maxHeartbeats 8000000 in
set_option maxRecDepth 100000 in
theorem tm_R_isStable (N d : Nat) (xs : List Int32) (c r : St) (a1 : Int32) (p : Int32) (hp : R_isStable N r a1 = some p) : mBig (mRoL xs) (d + 3) 245 [.ref 115, .int a1] (HP c r) (some (.int p)) (HP c r) 0 0 := mBig_of (by decide) rfl rfl rfl rfl (t_R_isStable N d xs c r a1 p hp)
/-! ColdHoldsModel.stable(I)I, from (('r', 115), 'i') -/
def R_stable_p68 (N : Nat) (kb19 : Int32 → Int32 → Int32 → Int32 → Option (Int32)) (r : St) (x1 : Int32) (x2 : Int32) (x3 : Int32) (x4 : Int32) : Option (Int32) :=
  kb19 x1 x2 x3 (x4 + 1)
def R_stable_p67 (N : Nat) (kb19 : Int32 → Int32 → Int32 → Int32 → Option (Int32)) (r : St) (x1 : Int32) (x2 : Int32) (x4 : Int32) (s0 : Int32) : Option (Int32) :=
  R_stable_p68 N kb19 r x1 x2 s0 x4
def R_stable_p61 (N : Nat) (kb19 : Int32 → Int32 → Int32 → Int32 → Option (Int32)) (r : St) (x1 : Int32) (x2 : Int32) (x4 : Int32) : Option (Int32) :=
  R_stable_p67 N kb19 r x1 x2 x4 x4
def R_stable_p19b (N : Nat) (kb19 : Int32 → Int32 → Int32 → Int32 → Option (Int32)) (r : St) (x1 : Int32) (x2 : Int32) (x3 : Int32) (x4 : Int32) : Option (Int32) :=
  (if (1 <<< ((gI r 21) &&& 31)) ≤ x4 then (if ¬ x1 = 0 then some x3 else some x2) else (R_isStable N r x4).bind fun p5 => (if p5 = 0 then R_stable_p68 N kb19 r x1 x2 x3 x4 else (if x3 = (-1) then R_stable_p61 N kb19 r x1 (x2 + 1) x4 else (R_shipsIn N r x4).bind fun p8 => (R_shipsIn N r x3).bind fun p9 => (if p8 ≤ p9 then R_stable_p67 N kb19 r x1 (x2 + 1) x4 x3 else R_stable_p61 N kb19 r x1 (x2 + 1) x4))))
def R_stable_p19 (N : Nat) (r : St) : Nat → Int32 → Int32 → Int32 → Int32 → Option (Int32)
  | 0 => fun _ _ _ _ => none
  | n + 1 => R_stable_p19b N (R_stable_p19 N r n) r
def R_stable (N : Nat) (r : St) (x1 : Int32) : Option (Int32) :=
  (R_in N x1 0 1).bind fun p1 => (if ¬ p1 = 0 then R_stable_p19 N r N x1 0 (-1) 0 else some (-102))
set_option maxHeartbeats 8000000 in
set_option maxRecDepth 100000 in
theorem t_R_stable_p68 (N d : Nat) (xs : List Int32) (c : St) (r : St) (kb19 : Int32 → Int32 → Int32 → Int32 → Option (Int32)) (hb19 : ∀ (x1 : Int32) (x2 : Int32) (x3 : Int32) (x4 : Int32), Ok (mBig (mRoL xs) (d + 3)) (mRoL xs) 1 mK246 (fun p : Int32 => (some (.int p), HP c r)) (kb19 x1 x2 x3 x4) 19 [some (.ref 115), some (.int x1), some (.int x2), some (.int x3), some (.int x4)] [] (HP c r)) (x1 : Int32) (x2 : Int32) (x3 : Int32) (x4 : Int32) : Ok (mBig (mRoL xs) (d + 3)) (mRoL xs) 1 mK246 (fun p : Int32 => (some (.int p), HP c r)) (R_stable_p68 N kb19 r x1 x2 x3 x4) 68 [some (.ref 115), some (.int x1), some (.int x2), some (.int x3), some (.int x4)] [] (HP c r) := by
  unfold R_stable_p68
  refine Ok_blk 2 (pc2 := 19) (lo2 := [some (.ref 115), some (.int x1), some (.int x2), some (.int x3), some (.int (x4 + 1))]) (st2 := []) rfl ?_
  refine Ok_drop (lo0 := [some (.ref 115), some (.int x1), some (.int x2), some (.int x3), some (.int (x4 + 1))]) ⟨Or.inr rfl, Or.inr rfl, Or.inr rfl, Or.inr rfl, Or.inr rfl, trivial⟩ ?_
  exact hb19 x1 x2 x3 (x4 + 1)
set_option maxHeartbeats 8000000 in
set_option maxRecDepth 100000 in
theorem t_R_stable_p67 (N d : Nat) (xs : List Int32) (c : St) (r : St) (kb19 : Int32 → Int32 → Int32 → Int32 → Option (Int32)) (hb19 : ∀ (x1 : Int32) (x2 : Int32) (x3 : Int32) (x4 : Int32), Ok (mBig (mRoL xs) (d + 3)) (mRoL xs) 1 mK246 (fun p : Int32 => (some (.int p), HP c r)) (kb19 x1 x2 x3 x4) 19 [some (.ref 115), some (.int x1), some (.int x2), some (.int x3), some (.int x4)] [] (HP c r)) (x1 : Int32) (x2 : Int32) (x4 : Int32) (s0 : Int32) : Ok (mBig (mRoL xs) (d + 3)) (mRoL xs) 1 mK246 (fun p : Int32 => (some (.int p), HP c r)) (R_stable_p67 N kb19 r x1 x2 x4 s0) 67 [some (.ref 115), some (.int x1), some (.int x2), none, some (.int x4)] [.int s0] (HP c r) := by
  unfold R_stable_p67
  refine Ok_blk 1 (pc2 := 68) (lo2 := [some (.ref 115), some (.int x1), some (.int x2), some (.int s0), some (.int x4)]) (st2 := []) rfl ?_
  refine Ok_drop (lo0 := [some (.ref 115), some (.int x1), some (.int x2), some (.int s0), some (.int x4)]) ⟨Or.inr rfl, Or.inr rfl, Or.inr rfl, Or.inr rfl, Or.inr rfl, trivial⟩ ?_
  exact t_R_stable_p68 N d xs c r kb19 hb19 x1 x2 s0 x4
set_option maxHeartbeats 8000000 in
set_option maxRecDepth 100000 in
theorem t_R_stable_p61 (N d : Nat) (xs : List Int32) (c : St) (r : St) (kb19 : Int32 → Int32 → Int32 → Int32 → Option (Int32)) (hb19 : ∀ (x1 : Int32) (x2 : Int32) (x3 : Int32) (x4 : Int32), Ok (mBig (mRoL xs) (d + 3)) (mRoL xs) 1 mK246 (fun p : Int32 => (some (.int p), HP c r)) (kb19 x1 x2 x3 x4) 19 [some (.ref 115), some (.int x1), some (.int x2), some (.int x3), some (.int x4)] [] (HP c r)) (x1 : Int32) (x2 : Int32) (x4 : Int32) : Ok (mBig (mRoL xs) (d + 3)) (mRoL xs) 1 mK246 (fun p : Int32 => (some (.int p), HP c r)) (R_stable_p61 N kb19 r x1 x2 x4) 61 [some (.ref 115), some (.int x1), some (.int x2), none, some (.int x4)] [] (HP c r) := by
  unfold R_stable_p61
  refine Ok_blk 2 (pc2 := 67) (lo2 := [some (.ref 115), some (.int x1), some (.int x2), none, some (.int x4)]) (st2 := [.int x4]) rfl ?_
  refine Ok_drop (lo0 := [some (.ref 115), some (.int x1), some (.int x2), none, some (.int x4)]) ⟨Or.inr rfl, Or.inr rfl, Or.inr rfl, Or.inl rfl, Or.inr rfl, trivial⟩ ?_
  exact t_R_stable_p67 N d xs c r kb19 hb19 x1 x2 x4 x4
set_option maxHeartbeats 8000000 in
set_option maxRecDepth 100000 in
theorem t_R_stable_p19b (N d : Nat) (xs : List Int32) (c : St) (r : St) (kb19 : Int32 → Int32 → Int32 → Int32 → Option (Int32)) (hb19 : ∀ (x1 : Int32) (x2 : Int32) (x3 : Int32) (x4 : Int32), Ok (mBig (mRoL xs) (d + 3)) (mRoL xs) 1 mK246 (fun p : Int32 => (some (.int p), HP c r)) (kb19 x1 x2 x3 x4) 19 [some (.ref 115), some (.int x1), some (.int x2), some (.int x3), some (.int x4)] [] (HP c r)) (x1 : Int32) (x2 : Int32) (x3 : Int32) (x4 : Int32) : Ok (mBig (mRoL xs) (d + 3)) (mRoL xs) 1 mK246 (fun p : Int32 => (some (.int p), HP c r)) (R_stable_p19b N kb19 r x1 x2 x3 x4) 19 [some (.ref 115), some (.int x1), some (.int x2), some (.int x3), some (.int x4)] [] (HP c r) := by
  unfold R_stable_p19b
  refine Ok_blk 6 (pc2 := (if (1 <<< ((gI r 21) &&& 31)) ≤ x4 then 74 else 30)) (lo2 := [some (.ref 115), some (.int x1), some (.int x2), some (.int x3), some (.int x4)]) (st2 := []) rfl ?_
  refine Ok_if (fun h3 => ?_) (fun h3 => ?_)
  · refine Ok_blk 2 (pc2 := (if ¬ x1 = 0 then 82 else 78)) (lo2 := [some (.ref 115), some (.int x1), some (.int x2), some (.int x3), some (.int x4)]) (st2 := []) rfl ?_
    refine Ok_if (fun h4 => ?_) (fun h4 => ?_)
    · refine Ok_blk 1 (pc2 := 83) (lo2 := [some (.ref 115), some (.int x1), some (.int x2), some (.int x3), some (.int x4)]) (st2 := [.int x3]) rfl ?_
      exact Ok_ret rfl rfl rfl
    · refine Ok_blk 2 (pc2 := 83) (lo2 := [some (.ref 115), some (.int x1), some (.int x2), some (.int x3), some (.int x4)]) (st2 := [.int x2]) rfl ?_
      exact Ok_ret rfl rfl rfl
  · refine Ok_blk 2 (pc2 := 33) (lo2 := [some (.ref 115), some (.int x1), some (.int x2), some (.int x3), some (.int x4)]) (st2 := [.int x4, .ref 115]) rfl ?_
    refine Ok_call (y := 245) (as := [.ref 115, .int x4]) (rest := []) (w := fun p5 => some (.int p5)) (h1 := fun p5 => HP c r) rfl rfl (fun x hx => tm_R_isStable N d xs c r x4 x hx) (fun p5 hp5 => ?_)
    refine Ok_blk 1 (pc2 := (if p5 = 0 then 68 else 39)) (lo2 := [some (.ref 115), some (.int x1), some (.int x2), some (.int x3), some (.int x4)]) (st2 := []) rfl ?_
    refine Ok_if (fun h6 => ?_) (fun h6 => ?_)
    · refine Ok_drop (lo0 := [some (.ref 115), some (.int x1), some (.int x2), some (.int x3), some (.int x4)]) ⟨Or.inr rfl, Or.inr rfl, Or.inr rfl, Or.inr rfl, Or.inr rfl, trivial⟩ ?_
      exact t_R_stable_p68 N d xs c r kb19 hb19 x1 x2 x3 x4
    · refine Ok_blk 4 (pc2 := (if x3 = (-1) then 61 else 47)) (lo2 := [some (.ref 115), some (.int x1), some (.int (x2 + 1)), some (.int x3), some (.int x4)]) (st2 := []) rfl ?_
      refine Ok_if (fun h7 => ?_) (fun h7 => ?_)
      · refine Ok_drop (lo0 := [some (.ref 115), some (.int x1), some (.int (x2 + 1)), none, some (.int x4)]) ⟨Or.inr rfl, Or.inr rfl, Or.inr rfl, Or.inl rfl, Or.inr rfl, trivial⟩ ?_
        exact t_R_stable_p61 N d xs c r kb19 hb19 x1 (x2 + 1) x4
      · refine Ok_blk 2 (pc2 := 50) (lo2 := [some (.ref 115), some (.int x1), some (.int (x2 + 1)), some (.int x3), some (.int x4)]) (st2 := [.int x4, .ref 115]) rfl ?_
        refine Ok_call (y := 242) (as := [.ref 115, .int x4]) (rest := []) (w := fun p8 => some (.int p8)) (h1 := fun p8 => HP c r) rfl rfl (fun x hx => tm_R_shipsIn N (d + 2) xs c r x4 x hx) (fun p8 hp8 => ?_)
        refine Ok_blk 2 (pc2 := 55) (lo2 := [some (.ref 115), some (.int x1), some (.int (x2 + 1)), some (.int x3), some (.int x4)]) (st2 := [.int x3, .ref 115, .int p8]) rfl ?_
        refine Ok_call (y := 242) (as := [.ref 115, .int x3]) (rest := [.int p8]) (w := fun p9 => some (.int p9)) (h1 := fun p9 => HP c r) rfl rfl (fun x hx => tm_R_shipsIn N (d + 2) xs c r x3 x hx) (fun p9 hp9 => ?_)
        refine Ok_blk 1 (pc2 := (if p8 ≤ p9 then 66 else 61)) (lo2 := [some (.ref 115), some (.int x1), some (.int (x2 + 1)), some (.int x3), some (.int x4)]) (st2 := []) rfl ?_
        refine Ok_if (fun h10 => ?_) (fun h10 => ?_)
        · refine Ok_blk 1 (pc2 := 67) (lo2 := [some (.ref 115), some (.int x1), some (.int (x2 + 1)), some (.int x3), some (.int x4)]) (st2 := [.int x3]) rfl ?_
          refine Ok_drop (lo0 := [some (.ref 115), some (.int x1), some (.int (x2 + 1)), none, some (.int x4)]) ⟨Or.inr rfl, Or.inr rfl, Or.inr rfl, Or.inl rfl, Or.inr rfl, trivial⟩ ?_
          exact t_R_stable_p67 N d xs c r kb19 hb19 x1 (x2 + 1) x4 x3
        · refine Ok_drop (lo0 := [some (.ref 115), some (.int x1), some (.int (x2 + 1)), none, some (.int x4)]) ⟨Or.inr rfl, Or.inr rfl, Or.inr rfl, Or.inl rfl, Or.inr rfl, trivial⟩ ?_
          exact t_R_stable_p61 N d xs c r kb19 hb19 x1 (x2 + 1) x4
set_option maxHeartbeats 8000000 in
set_option maxRecDepth 100000 in
theorem t_R_stable_p19 (N d : Nat) (xs : List Int32) (c : St) (r : St) : ∀ (n : Nat) (x1 : Int32) (x2 : Int32) (x3 : Int32) (x4 : Int32), Ok (mBig (mRoL xs) (d + 3)) (mRoL xs) 1 mK246 (fun p : Int32 => (some (.int p), HP c r)) (R_stable_p19 N r n x1 x2 x3 x4) 19 [some (.ref 115), some (.int x1), some (.int x2), some (.int x3), some (.int x4)] [] (HP c r) := by
  intro n
  induction n with
  | zero => intro x1 x2 x3 x4; exact Ok_none
  | succ n ih => intro x1 x2 x3 x4; exact t_R_stable_p19b N d xs c r (R_stable_p19 N r n) ih x1 x2 x3 x4
set_option maxHeartbeats 8000000 in
set_option maxRecDepth 100000 in
theorem t_R_stable (N d : Nat) (xs : List Int32) (c : St) (r : St) (x1 : Int32) : Ok (mBig (mRoL xs) (d + 3)) (mRoL xs) 1 mK246 (fun p : Int32 => (some (.int p), HP c r)) (R_stable N r x1) 0 [some (.ref 115), some (.int x1), none, none, none] [] (HP c r) := by
  unfold R_stable
  refine Ok_blk 3 (pc2 := 3) (lo2 := [some (.ref 115), some (.int x1), none, none, none]) (st2 := [.int 1, .int 0, .int x1]) rfl ?_
  refine Ok_call (y := 164) (as := [.int x1, .int 0, .int 1]) (rest := []) (w := fun p1 => some (.int p1)) (h1 := fun p1 => HP c r) rfl rfl (fun x hx => tm_R_in N (d + 2) xs c r x1 0 1 x hx) (fun p1 hp1 => ?_)
  refine Ok_blk 1 (pc2 := (if ¬ p1 = 0 then 12 else 9)) (lo2 := [some (.ref 115), some (.int x1), none, none, none]) (st2 := []) rfl ?_
  refine Ok_if (fun h2 => ?_) (fun h2 => ?_)
  · refine Ok_blk 6 (pc2 := 19) (lo2 := [some (.ref 115), some (.int x1), some (.int 0), some (.int (-1)), some (.int 0)]) (st2 := []) rfl ?_
    refine Ok_drop (lo0 := [some (.ref 115), some (.int x1), some (.int 0), some (.int (-1)), some (.int 0)]) ⟨Or.inr rfl, Or.inr rfl, Or.inr rfl, Or.inr rfl, Or.inr rfl, trivial⟩ ?_
    exact t_R_stable_p19 N d xs c r N x1 0 (-1) 0
  · refine Ok_blk 1 (pc2 := 11) (lo2 := [some (.ref 115), some (.int x1), none, none, none]) (st2 := [.int (-102)]) rfl ?_
    exact Ok_ret rfl rfl rfl
set_option maxHeartbeats 8000000 in
set_option maxRecDepth 100000 in
theorem tm_R_stable (N d : Nat) (xs : List Int32) (c r : St) (a1 : Int32) (p : Int32) (hp : R_stable N r a1 = some p) : mBig (mRoL xs) (d + 4) 246 [.ref 115, .int a1] (HP c r) (some (.int p)) (HP c r) 0 0 := mBig_of (by decide) rfl rfl rfl rfl (t_R_stable N d xs c r a1 p hp)
/-! ColdHolds$Choices.add(I)I, from (('r', 104), 'i') -/
def Choices_add (N : Nat) (c : St) (x1 : Int32) : Option (Int32 × St) :=
  (if (gI c 28) < 8 then (sto (gA c 94) (gI c 28) x1).bind fun w2 => some ((gI (sI (sA c 94 w2) 28 ((gI (sA c 94 w2) 28) + 1)) 28) - 1, sI (sA c 94 w2) 28 ((gI (sA c 94 w2) 28) + 1)) else some ((-104), c))
set_option maxHeartbeats 8000000 in
set_option maxRecDepth 100000 in
theorem t_Choices_add (N d : Nat) (xs : List Int32) (r : St) (c : St) (x1 : Int32) : Ok (mBig (mRoL xs) (d)) (mRoL xs) 1 mK5 (fun p : Int32 × St => (some (.int p.1), HP p.2 r)) (Choices_add N c x1) 0 [some (.ref 104), some (.int x1)] [] (HP c r) := by
  unfold Choices_add
  refine Ok_blk 4 (pc2 := (if (gI c 28) < 8 then 12 else 9)) (lo2 := [some (.ref 104), some (.int x1)]) (st2 := []) rfl ?_
  refine Ok_if (fun h1 => ?_) (fun h1 => ?_)
  · refine Ok_blk 5 (pc2 := 21) (lo2 := [some (.ref 104), some (.int x1)]) (st2 := [.int x1, .int (gI c 28), .ref 114]) rfl ?_
    refine Ok_st (l := (gA c 94)) (hn := fun l' => HP (sA c 94 l') r) rfl rfl (fun l' => sa_114 _ _ l') (fun w2 hw2 => ?_)
    refine Ok_heap 6 (pc2 := 32) (lo2 := [some (.ref 104), some (.int x1)]) (st2 := []) (h2 := HP (sI (sA c 94 w2) 28 ((gI (sA c 94 w2) 28) + 1)) r) rfl (st_104_1 _ _ _) ?_
    refine Ok_blk 4 (pc2 := 38) (lo2 := [some (.ref 104), some (.int x1)]) (st2 := [.int ((gI (sI (sA c 94 w2) 28 ((gI (sA c 94 w2) 28) + 1)) 28) - 1)]) rfl ?_
    exact Ok_ret rfl rfl rfl
  · refine Ok_blk 1 (pc2 := 11) (lo2 := [some (.ref 104), some (.int x1)]) (st2 := [.int (-104)]) rfl ?_
    exact Ok_ret rfl rfl rfl
set_option maxHeartbeats 8000000 in
set_option maxRecDepth 100000 in
theorem tm_Choices_add (N d : Nat) (xs : List Int32) (c r : St) (a1 : Int32) (p : Int32 × St) (hp : Choices_add N c a1 = some p) : mBig (mRoL xs) (d + 1) 5 [.ref 104, .int a1] (HP c r) (some (.int p.1)) (HP p.2 r) 0 0 := mBig_of (by decide) rfl rfl rfl rfl (t_Choices_add N d xs r c a1 p hp)
/-! ColdHolds.choice(I)I, from (('r', 0), 'i') -/
def C_choice (N : Nat) (c : St) (x1 : Int32) : Option (Int32 × St) :=
  (C_within N x1 0 9999).bind fun p1 => (if p1 = 0 then some ((-102), c) else (Choices_add N c x1).bind fun p3 => some (p3.1, p3.2))
set_option maxHeartbeats 8000000 in
set_option maxRecDepth 100000 in
theorem t_C_choice (N d : Nat) (xs : List Int32) (r : St) (c : St) (x1 : Int32) : Ok (mBig (mRoL xs) (d + 1)) (mRoL xs) 1 mK155 (fun p : Int32 × St => (some (.int p.1), HP p.2 r)) (C_choice N c x1) 0 [some (.ref 0), some (.int x1)] [] (HP c r) := by
  unfold C_choice
  refine Ok_blk 3 (pc2 := 5) (lo2 := [some (.ref 0), some (.int x1)]) (st2 := [.int 9999, .int 0, .int x1]) rfl ?_
  refine Ok_call (y := 102) (as := [.int x1, .int 0, .int 9999]) (rest := []) (w := fun p1 => some (.int p1)) (h1 := fun p1 => HP c r) rfl rfl (fun x hx => tm_C_within N d xs c r x1 0 9999 x hx) (fun p1 hp1 => ?_)
  refine Ok_blk 1 (pc2 := (if p1 = 0 then 22 else 11)) (lo2 := [some (.ref 0), some (.int x1)]) (st2 := []) rfl ?_
  refine Ok_if (fun h2 => ?_) (fun h2 => ?_)
  · refine Ok_blk 1 (pc2 := 24) (lo2 := [some (.ref 0), some (.int x1)]) (st2 := [.int (-102)]) rfl ?_
    exact Ok_ret rfl rfl rfl
  · refine Ok_blk 3 (pc2 := 16) (lo2 := [some (.ref 0), some (.int x1)]) (st2 := [.int x1, .ref 104]) rfl ?_
    refine Ok_call (y := 5) (as := [.ref 104, .int x1]) (rest := []) (w := fun p3 => some (.int p3.1)) (h1 := fun p3 => HP p3.2 r) rfl rfl (fun x hx => tm_Choices_add N d xs c r x1 x hx) (fun p3 hp3 => ?_)
    refine Ok_blk 1 (pc2 := 24) (lo2 := [some (.ref 0), some (.int x1)]) (st2 := [.int p3.1]) rfl ?_
    exact Ok_ret rfl rfl rfl
set_option maxHeartbeats 8000000 in
set_option maxRecDepth 100000 in
theorem tm_C_choice (N d : Nat) (xs : List Int32) (c r : St) (a1 : Int32) (p : Int32 × St) (hp : C_choice N c a1 = some p) : mBig (mRoL xs) (d + 2) 155 [.ref 0, .int a1] (HP c r) (some (.int p.1)) (HP p.2 r) 0 0 := mBig_of (by decide) rfl rfl rfl rfl (t_C_choice N d xs r c a1 p hp)
/-! ColdHoldsModel.choice(I)I, from (('r', 115), 'i') -/
def R_choice (N : Nat) (r : St) (x1 : Int32) : Option (Int32 × St) :=
  (R_in N x1 0 9999).bind fun p1 => (if ¬ p1 = 0 then (if ¬ (gI r 26) = 8 then (sto (gA r 27) (gI r 26) x1).bind fun w4 => some ((gI (sI (sA r 27 w4) 26 ((gI (sA r 27 w4) 26) + 1)) 26) - 1, sI (sA r 27 w4) 26 ((gI (sA r 27 w4) 26) + 1)) else some ((-104), r)) else some ((-102), r))
set_option maxHeartbeats 8000000 in
set_option maxRecDepth 100000 in
theorem t_R_choice (N d : Nat) (xs : List Int32) (c : St) (r : St) (x1 : Int32) : Ok (mBig (mRoL xs) (d + 1)) (mRoL xs) 1 mK247 (fun p : Int32 × St => (some (.int p.1), HP c p.2)) (R_choice N r x1) 0 [some (.ref 115), some (.int x1)] [] (HP c r) := by
  unfold R_choice
  refine Ok_blk 3 (pc2 := 5) (lo2 := [some (.ref 115), some (.int x1)]) (st2 := [.int 9999, .int 0, .int x1]) rfl ?_
  refine Ok_call (y := 164) (as := [.int x1, .int 0, .int 9999]) (rest := []) (w := fun p1 => some (.int p1)) (h1 := fun p1 => HP c r) rfl rfl (fun x hx => tm_R_in N d xs c r x1 0 9999 x hx) (fun p1 hp1 => ?_)
  refine Ok_blk 1 (pc2 := (if ¬ p1 = 0 then 14 else 11)) (lo2 := [some (.ref 115), some (.int x1)]) (st2 := []) rfl ?_
  refine Ok_if (fun h2 => ?_) (fun h2 => ?_)
  · refine Ok_blk 4 (pc2 := (if ¬ (gI r 26) = 8 then 26 else 23)) (lo2 := [some (.ref 115), some (.int x1)]) (st2 := []) rfl ?_
    refine Ok_if (fun h3 => ?_) (fun h3 => ?_)
    · refine Ok_blk 5 (pc2 := 35) (lo2 := [some (.ref 115), some (.int x1)]) (st2 := [.int x1, .int (gI r 26), .ref 143]) rfl ?_
      refine Ok_st (l := (gA r 27)) (hn := fun l' => HP c (sA r 27 l')) rfl rfl (fun l' => sa_143 _ _ l') (fun w4 hw4 => ?_)
      refine Ok_heap 6 (pc2 := 46) (lo2 := [some (.ref 115), some (.int x1)]) (st2 := []) (h2 := HP c (sI (sA r 27 w4) 26 ((gI (sA r 27 w4) 26) + 1))) rfl (st_115_53 _ _ _) ?_
      refine Ok_blk 4 (pc2 := 52) (lo2 := [some (.ref 115), some (.int x1)]) (st2 := [.int ((gI (sI (sA r 27 w4) 26 ((gI (sA r 27 w4) 26) + 1)) 26) - 1)]) rfl ?_
      exact Ok_ret rfl rfl rfl
    · refine Ok_blk 1 (pc2 := 25) (lo2 := [some (.ref 115), some (.int x1)]) (st2 := [.int (-104)]) rfl ?_
      exact Ok_ret rfl rfl rfl
  · refine Ok_blk 1 (pc2 := 13) (lo2 := [some (.ref 115), some (.int x1)]) (st2 := [.int (-102)]) rfl ?_
    exact Ok_ret rfl rfl rfl
set_option maxHeartbeats 8000000 in
set_option maxRecDepth 100000 in
theorem tm_R_choice (N d : Nat) (xs : List Int32) (c r : St) (a1 : Int32) (p : Int32 × St) (hp : R_choice N r a1 = some p) : mBig (mRoL xs) (d + 2) 247 [.ref 115, .int a1] (HP c r) (some (.int p.1)) (HP c p.2) 0 0 := mBig_of (by decide) rfl rfl rfl rfl (t_R_choice N d xs c r a1 p hp)
/-! ColdHolds.gives(III)I, from (('r', 0), 'i', 'i', 'i') -/
def C_gives_p26 (N : Nat) (c : St) : Option (Int32 × St) :=
  some ((-101), c)
def C_gives (N : Nat) (c : St) (x1 : Int32) (x2 : Int32) (x3 : Int32) : Option (Int32 × St) :=
  (C_within N x1 0 ((gI c 28) - 1)).bind fun p1 => (if p1 = 0 then C_gives_p26 N c else (C_within N x2 0 4).bind fun p3 => (if ¬ p3 = 0 then (C_within N x3 (-999) 999).bind fun p5 => (if ¬ p5 = 0 then (rwi x1 8).bind fun q7 => (C_change_7 N (86 + q7) c x2 x3).bind fun p8 => some (p8.1, p8.2) else some ((-1002), c)) else C_gives_p26 N c))
set_option maxHeartbeats 8000000 in
set_option maxRecDepth 100000 in
theorem t_C_gives_p26 (N d : Nat) (xs : List Int32) (r : St) (c : St) : Ok (mBig (mRoL xs) (d + 1)) (mRoL xs) 1 mK156 (fun p : Int32 × St => (some (.int p.1), HP p.2 r)) (C_gives_p26 N c) 26 [none, none, none, none] [] (HP c r) := by
  unfold C_gives_p26
  refine Ok_blk 1 (pc2 := 28) (lo2 := [none, none, none, none]) (st2 := [.int (-101)]) rfl ?_
  exact Ok_ret rfl rfl rfl
set_option maxHeartbeats 8000000 in
set_option maxRecDepth 100000 in
theorem t_C_gives (N d : Nat) (xs : List Int32) (r : St) (c : St) (x1 : Int32) (x2 : Int32) (x3 : Int32) : Ok (mBig (mRoL xs) (d + 1)) (mRoL xs) 1 mK156 (fun p : Int32 × St => (some (.int p.1), HP p.2 r)) (C_gives N c x1 x2 x3) 0 [some (.ref 0), some (.int x1), some (.int x2), some (.int x3)] [] (HP c r) := by
  unfold C_gives
  refine Ok_blk 7 (pc2 := 11) (lo2 := [some (.ref 0), some (.int x1), some (.int x2), some (.int x3)]) (st2 := [.int ((gI c 28) - 1), .int 0, .int x1]) rfl ?_
  refine Ok_call (y := 102) (as := [.int x1, .int 0, .int ((gI c 28) - 1)]) (rest := []) (w := fun p1 => some (.int p1)) (h1 := fun p1 => HP c r) rfl rfl (fun x hx => tm_C_within N d xs c r x1 0 ((gI c 28) - 1) x hx) (fun p1 hp1 => ?_)
  refine Ok_blk 1 (pc2 := (if p1 = 0 then 26 else 17)) (lo2 := [some (.ref 0), some (.int x1), some (.int x2), some (.int x3)]) (st2 := []) rfl ?_
  refine Ok_if (fun h2 => ?_) (fun h2 => ?_)
  · refine Ok_drop (lo0 := [none, none, none, none]) ⟨Or.inl rfl, Or.inl rfl, Or.inl rfl, Or.inl rfl, trivial⟩ ?_
    exact t_C_gives_p26 N d xs r c
  · refine Ok_blk 3 (pc2 := 20) (lo2 := [some (.ref 0), some (.int x1), some (.int x2), some (.int x3)]) (st2 := [.int 4, .int 0, .int x2]) rfl ?_
    refine Ok_call (y := 102) (as := [.int x2, .int 0, .int 4]) (rest := []) (w := fun p3 => some (.int p3)) (h1 := fun p3 => HP c r) rfl rfl (fun x hx => tm_C_within N d xs c r x2 0 4 x hx) (fun p3 hp3 => ?_)
    refine Ok_blk 1 (pc2 := (if ¬ p3 = 0 then 29 else 26)) (lo2 := [some (.ref 0), some (.int x1), some (.int x2), some (.int x3)]) (st2 := []) rfl ?_
    refine Ok_if (fun h4 => ?_) (fun h4 => ?_)
    · refine Ok_blk 3 (pc2 := 36) (lo2 := [some (.ref 0), some (.int x1), some (.int x2), some (.int x3)]) (st2 := [.int 999, .int (-999), .int x3]) rfl ?_
      refine Ok_call (y := 102) (as := [.int x3, .int (-999), .int 999]) (rest := []) (w := fun p5 => some (.int p5)) (h1 := fun p5 => HP c r) rfl rfl (fun x hx => tm_C_within N d xs c r x3 (-999) 999 x hx) (fun p5 hp5 => ?_)
      refine Ok_blk 1 (pc2 := (if ¬ p5 = 0 then 46 else 42)) (lo2 := [some (.ref 0), some (.int x1), some (.int x2), some (.int x3)]) (st2 := []) rfl ?_
      refine Ok_if (fun h6 => ?_) (fun h6 => ?_)
      · refine Ok_blk 4 (pc2 := 54) (lo2 := [some (.ref 0), some (.int x1), some (.int x2), some (.int x3)]) (st2 := [.int x1, .ref 105]) rfl ?_
        refine Ok_rw (b := 106) (n := 8) rfl rfl (fun j h => rowl_105 j h) (fun q7 hq7 => ?_)
        refine Ok_blk 2 (pc2 := 57) (lo2 := [some (.ref 0), some (.int x1), some (.int x2), some (.int x3)]) (st2 := [.int x3, .int x2, .ref (106 + q7)]) rfl ?_
        refine Ok_call (y := 105) (as := [.ref (106 + q7), .int x2, .int x3]) (rest := []) (w := fun p8 => some (.int p8.1)) (h1 := fun p8 => HP p8.2 r) rfl rfl (fun x hx => tm_C_change_7 N d xs c r (106 + q7) (86 + q7) (rows_105 hq7) x2 x3 x hx) (fun p8 hp8 => ?_)
        exact Ok_ret rfl rfl rfl
      · refine Ok_blk 1 (pc2 := 45) (lo2 := [some (.ref 0), some (.int x1), some (.int x2), some (.int x3)]) (st2 := [.int (-1002)]) rfl ?_
        exact Ok_ret rfl rfl rfl
    · refine Ok_drop (lo0 := [none, none, none, none]) ⟨Or.inl rfl, Or.inl rfl, Or.inl rfl, Or.inl rfl, trivial⟩ ?_
      exact t_C_gives_p26 N d xs r c
set_option maxHeartbeats 8000000 in
set_option maxRecDepth 100000 in
theorem tm_C_gives (N d : Nat) (xs : List Int32) (c r : St) (a1 : Int32) (a2 : Int32) (a3 : Int32) (p : Int32 × St) (hp : C_gives N c a1 a2 a3 = some p) : mBig (mRoL xs) (d + 2) 156 [.ref 0, .int a1, .int a2, .int a3] (HP c r) (some (.int p.1)) (HP p.2 r) 0 0 := mBig_of (by decide) rfl rfl rfl rfl (t_C_gives N d xs r c a1 a2 a3 p hp)
/-! ColdHoldsModel.gives(III)I, from (('r', 115), 'i', 'i', 'i') -/
def R_gives_p23 (N : Nat) (r : St) : Option (Int32 × St) :=
  some ((-101), r)
def R_gives (N : Nat) (r : St) (x1 : Int32) (x2 : Int32) (x3 : Int32) : Option (Int32 × St) :=
  (R_in N x1 0 ((gI r 26) - 1)).bind fun p1 => (if p1 = 0 then R_gives_p23 N r else (R_in N x2 0 4).bind fun p3 => (if ¬ p3 = 0 then (R_in N x3 (-999) 999).bind fun p5 => (if ¬ p5 = 0 then (ld (gA r 28) ((5 * x1) + x2)).bind fun y7 => (sto (gA r 28) ((5 * x1) + x2) x3).bind fun w8 => some (y7, sA r 28 w8) else some ((-1002), r)) else R_gives_p23 N r))
set_option maxHeartbeats 8000000 in
set_option maxRecDepth 100000 in
theorem t_R_gives_p23 (N d : Nat) (xs : List Int32) (c : St) (r : St) : Ok (mBig (mRoL xs) (d + 1)) (mRoL xs) 1 mK248 (fun p : Int32 × St => (some (.int p.1), HP c p.2)) (R_gives_p23 N r) 23 [none, none, none, none, none] [] (HP c r) := by
  unfold R_gives_p23
  refine Ok_blk 1 (pc2 := 25) (lo2 := [none, none, none, none, none]) (st2 := [.int (-101)]) rfl ?_
  exact Ok_ret rfl rfl rfl
set_option maxHeartbeats 8000000 in
set_option maxRecDepth 100000 in
theorem t_R_gives (N d : Nat) (xs : List Int32) (c : St) (r : St) (x1 : Int32) (x2 : Int32) (x3 : Int32) : Ok (mBig (mRoL xs) (d + 1)) (mRoL xs) 1 mK248 (fun p : Int32 × St => (some (.int p.1), HP c p.2)) (R_gives N r x1 x2 x3) 0 [some (.ref 115), some (.int x1), some (.int x2), some (.int x3), none] [] (HP c r) := by
  unfold R_gives
  refine Ok_blk 6 (pc2 := 8) (lo2 := [some (.ref 115), some (.int x1), some (.int x2), some (.int x3), none]) (st2 := [.int ((gI r 26) - 1), .int 0, .int x1]) rfl ?_
  refine Ok_call (y := 164) (as := [.int x1, .int 0, .int ((gI r 26) - 1)]) (rest := []) (w := fun p1 => some (.int p1)) (h1 := fun p1 => HP c r) rfl rfl (fun x hx => tm_R_in N d xs c r x1 0 ((gI r 26) - 1) x hx) (fun p1 hp1 => ?_)
  refine Ok_blk 1 (pc2 := (if p1 = 0 then 23 else 14)) (lo2 := [some (.ref 115), some (.int x1), some (.int x2), some (.int x3), none]) (st2 := []) rfl ?_
  refine Ok_if (fun h2 => ?_) (fun h2 => ?_)
  · refine Ok_drop (lo0 := [none, none, none, none, none]) ⟨Or.inl rfl, Or.inl rfl, Or.inl rfl, Or.inl rfl, Or.inl rfl, trivial⟩ ?_
    exact t_R_gives_p23 N d xs c r
  · refine Ok_blk 3 (pc2 := 17) (lo2 := [some (.ref 115), some (.int x1), some (.int x2), some (.int x3), none]) (st2 := [.int 4, .int 0, .int x2]) rfl ?_
    refine Ok_call (y := 164) (as := [.int x2, .int 0, .int 4]) (rest := []) (w := fun p3 => some (.int p3)) (h1 := fun p3 => HP c r) rfl rfl (fun x hx => tm_R_in N d xs c r x2 0 4 x hx) (fun p3 hp3 => ?_)
    refine Ok_blk 1 (pc2 := (if ¬ p3 = 0 then 26 else 23)) (lo2 := [some (.ref 115), some (.int x1), some (.int x2), some (.int x3), none]) (st2 := []) rfl ?_
    refine Ok_if (fun h4 => ?_) (fun h4 => ?_)
    · refine Ok_blk 3 (pc2 := 33) (lo2 := [some (.ref 115), some (.int x1), some (.int x2), some (.int x3), none]) (st2 := [.int 999, .int (-999), .int x3]) rfl ?_
      refine Ok_call (y := 164) (as := [.int x3, .int (-999), .int 999]) (rest := []) (w := fun p5 => some (.int p5)) (h1 := fun p5 => HP c r) rfl rfl (fun x hx => tm_R_in N d xs c r x3 (-999) 999 x hx) (fun p5 hp5 => ?_)
      refine Ok_blk 1 (pc2 := (if ¬ p5 = 0 then 43 else 39)) (lo2 := [some (.ref 115), some (.int x1), some (.int x2), some (.int x3), none]) (st2 := []) rfl ?_
      refine Ok_if (fun h6 => ?_) (fun h6 => ?_)
      · refine Ok_blk 7 (pc2 := 52) (lo2 := [some (.ref 115), some (.int x1), some (.int x2), some (.int x3), none]) (st2 := [.int ((5 * x1) + x2), .ref 144]) rfl ?_
        refine Ok_ld (l := (gA r 28)) rfl rfl (fun y7 hy7 => ?_)
        refine Ok_blk 9 (pc2 := 65) (lo2 := [some (.ref 115), some (.int x1), some (.int x2), some (.int x3), some (.int y7)]) (st2 := [.int x3, .int ((5 * x1) + x2), .ref 144]) rfl ?_
        refine Ok_st (l := (gA r 28)) (hn := fun l' => HP c (sA r 28 l')) rfl rfl (fun l' => sa_144 _ _ l') (fun w8 hw8 => ?_)
        refine Ok_blk 1 (pc2 := 68) (lo2 := [some (.ref 115), some (.int x1), some (.int x2), some (.int x3), some (.int y7)]) (st2 := [.int y7]) rfl ?_
        exact Ok_ret rfl rfl rfl
      · refine Ok_blk 1 (pc2 := 42) (lo2 := [some (.ref 115), some (.int x1), some (.int x2), some (.int x3), none]) (st2 := [.int (-1002)]) rfl ?_
        exact Ok_ret rfl rfl rfl
    · refine Ok_drop (lo0 := [none, none, none, none, none]) ⟨Or.inl rfl, Or.inl rfl, Or.inl rfl, Or.inl rfl, Or.inl rfl, trivial⟩ ?_
      exact t_R_gives_p23 N d xs c r
set_option maxHeartbeats 8000000 in
set_option maxRecDepth 100000 in
theorem tm_R_gives (N d : Nat) (xs : List Int32) (c r : St) (a1 : Int32) (a2 : Int32) (a3 : Int32) (p : Int32 × St) (hp : R_gives N r a1 a2 a3 = some p) : mBig (mRoL xs) (d + 2) 248 [.ref 115, .int a1, .int a2, .int a3] (HP c r) (some (.int p.1)) (HP c p.2) 0 0 := mBig_of (by decide) rfl rfl rfl rfl (t_R_gives N d xs c r a1 a2 a3 p hp)
/-! ColdHolds$Choices.costOf(I)I, from (('r', 104), 'i') -/
def Choices_costOf_p30 (N : Nat) (kb4 : Int32 → Int32 → Int32 → Option (Int32)) (c : St) (x1 : Int32) (x2 : Int32) (x3 : Int32) : Option (Int32) :=
  kb4 x1 x2 (x3 + 1)
def Choices_costOf_p4b (N : Nat) (kb4 : Int32 → Int32 → Int32 → Option (Int32)) (c : St) (x1 : Int32) (x2 : Int32) (x3 : Int32) : Option (Int32) :=
  (if (gI c 28) ≤ x3 then some x2 else (if ¬ ((x1 >>> (x3 &&& 31)) &&& 1) = 1 then Choices_costOf_p30 N kb4 c x1 x2 x3 else (ld (gA c 94) x3).bind fun y3 => Choices_costOf_p30 N kb4 c x1 (x2 + y3) x3))
def Choices_costOf_p4 (N : Nat) (c : St) : Nat → Int32 → Int32 → Int32 → Option (Int32)
  | 0 => fun _ _ _ => none
  | n + 1 => Choices_costOf_p4b N (Choices_costOf_p4 N c n) c
def Choices_costOf (N : Nat) (c : St) (x1 : Int32) : Option (Int32) :=
  Choices_costOf_p4 N c N x1 0 0
set_option maxHeartbeats 8000000 in
set_option maxRecDepth 100000 in
theorem t_Choices_costOf_p30 (N d : Nat) (xs : List Int32) (c : St) (r : St) (kb4 : Int32 → Int32 → Int32 → Option (Int32)) (hb4 : ∀ (x1 : Int32) (x2 : Int32) (x3 : Int32), Ok (mBig (mRoL xs) (d)) (mRoL xs) 1 mK8 (fun p : Int32 => (some (.int p), HP c r)) (kb4 x1 x2 x3) 4 [some (.ref 104), some (.int x1), some (.int x2), some (.int x3)] [] (HP c r)) (x1 : Int32) (x2 : Int32) (x3 : Int32) : Ok (mBig (mRoL xs) (d)) (mRoL xs) 1 mK8 (fun p : Int32 => (some (.int p), HP c r)) (Choices_costOf_p30 N kb4 c x1 x2 x3) 30 [some (.ref 104), some (.int x1), some (.int x2), some (.int x3)] [] (HP c r) := by
  unfold Choices_costOf_p30
  refine Ok_blk 2 (pc2 := 4) (lo2 := [some (.ref 104), some (.int x1), some (.int x2), some (.int (x3 + 1))]) (st2 := []) rfl ?_
  refine Ok_drop (lo0 := [some (.ref 104), some (.int x1), some (.int x2), some (.int (x3 + 1))]) ⟨Or.inr rfl, Or.inr rfl, Or.inr rfl, Or.inr rfl, trivial⟩ ?_
  exact hb4 x1 x2 (x3 + 1)
set_option maxHeartbeats 8000000 in
set_option maxRecDepth 100000 in
theorem t_Choices_costOf_p4b (N d : Nat) (xs : List Int32) (c : St) (r : St) (kb4 : Int32 → Int32 → Int32 → Option (Int32)) (hb4 : ∀ (x1 : Int32) (x2 : Int32) (x3 : Int32), Ok (mBig (mRoL xs) (d)) (mRoL xs) 1 mK8 (fun p : Int32 => (some (.int p), HP c r)) (kb4 x1 x2 x3) 4 [some (.ref 104), some (.int x1), some (.int x2), some (.int x3)] [] (HP c r)) (x1 : Int32) (x2 : Int32) (x3 : Int32) : Ok (mBig (mRoL xs) (d)) (mRoL xs) 1 mK8 (fun p : Int32 => (some (.int p), HP c r)) (Choices_costOf_p4b N kb4 c x1 x2 x3) 4 [some (.ref 104), some (.int x1), some (.int x2), some (.int x3)] [] (HP c r) := by
  unfold Choices_costOf_p4b
  refine Ok_blk 4 (pc2 := (if (gI c 28) ≤ x3 then 36 else 12)) (lo2 := [some (.ref 104), some (.int x1), some (.int x2), some (.int x3)]) (st2 := []) rfl ?_
  refine Ok_if (fun h1 => ?_) (fun h1 => ?_)
  · refine Ok_blk 1 (pc2 := 37) (lo2 := [some (.ref 104), some (.int x1), some (.int x2), some (.int x3)]) (st2 := [.int x2]) rfl ?_
    exact Ok_ret rfl rfl rfl
  · refine Ok_blk 7 (pc2 := (if ¬ ((x1 >>> (x3 &&& 31)) &&& 1) = 1 then 30 else 21)) (lo2 := [some (.ref 104), some (.int x1), some (.int x2), some (.int x3)]) (st2 := []) rfl ?_
    refine Ok_if (fun h2 => ?_) (fun h2 => ?_)
    · refine Ok_drop (lo0 := [some (.ref 104), some (.int x1), some (.int x2), some (.int x3)]) ⟨Or.inr rfl, Or.inr rfl, Or.inr rfl, Or.inr rfl, trivial⟩ ?_
      exact t_Choices_costOf_p30 N d xs c r kb4 hb4 x1 x2 x3
    · refine Ok_blk 4 (pc2 := 27) (lo2 := [some (.ref 104), some (.int x1), some (.int x2), some (.int x3)]) (st2 := [.int x3, .ref 114, .int x2]) rfl ?_
      refine Ok_ld (l := (gA c 94)) rfl rfl (fun y3 hy3 => ?_)
      refine Ok_blk 2 (pc2 := 30) (lo2 := [some (.ref 104), some (.int x1), some (.int (x2 + y3)), some (.int x3)]) (st2 := []) rfl ?_
      refine Ok_drop (lo0 := [some (.ref 104), some (.int x1), some (.int (x2 + y3)), some (.int x3)]) ⟨Or.inr rfl, Or.inr rfl, Or.inr rfl, Or.inr rfl, trivial⟩ ?_
      exact t_Choices_costOf_p30 N d xs c r kb4 hb4 x1 (x2 + y3) x3
set_option maxHeartbeats 8000000 in
set_option maxRecDepth 100000 in
theorem t_Choices_costOf_p4 (N d : Nat) (xs : List Int32) (c : St) (r : St) : ∀ (n : Nat) (x1 : Int32) (x2 : Int32) (x3 : Int32), Ok (mBig (mRoL xs) (d)) (mRoL xs) 1 mK8 (fun p : Int32 => (some (.int p), HP c r)) (Choices_costOf_p4 N c n x1 x2 x3) 4 [some (.ref 104), some (.int x1), some (.int x2), some (.int x3)] [] (HP c r) := by
  intro n
  induction n with
  | zero => intro x1 x2 x3; exact Ok_none
  | succ n ih => intro x1 x2 x3; exact t_Choices_costOf_p4b N d xs c r (Choices_costOf_p4 N c n) ih x1 x2 x3
set_option maxHeartbeats 8000000 in
set_option maxRecDepth 100000 in
theorem t_Choices_costOf (N d : Nat) (xs : List Int32) (c : St) (r : St) (x1 : Int32) : Ok (mBig (mRoL xs) (d)) (mRoL xs) 1 mK8 (fun p : Int32 => (some (.int p), HP c r)) (Choices_costOf N c x1) 0 [some (.ref 104), some (.int x1), none, none] [] (HP c r) := by
  unfold Choices_costOf
  refine Ok_blk 4 (pc2 := 4) (lo2 := [some (.ref 104), some (.int x1), some (.int 0), some (.int 0)]) (st2 := []) rfl ?_
  refine Ok_drop (lo0 := [some (.ref 104), some (.int x1), some (.int 0), some (.int 0)]) ⟨Or.inr rfl, Or.inr rfl, Or.inr rfl, Or.inr rfl, trivial⟩ ?_
  exact t_Choices_costOf_p4 N d xs c r N x1 0 0
set_option maxHeartbeats 8000000 in
set_option maxRecDepth 100000 in
theorem tm_Choices_costOf (N d : Nat) (xs : List Int32) (c r : St) (a1 : Int32) (p : Int32) (hp : Choices_costOf N c a1 = some p) : mBig (mRoL xs) (d + 1) 8 [.ref 104, .int a1] (HP c r) (some (.int p)) (HP c r) 0 0 := mBig_of (by decide) rfl rfl rfl rfl (t_Choices_costOf N d xs c r a1 p hp)
/-! ColdHolds$Choices.givenIn(II)I, from (('r', 104), 'i', 'i') -/
def Choices_givenIn_p36 (N : Nat) (kb5 : Int32 → Int32 → Int32 → Int32 → Option (Int32)) (c : St) (x1 : Int32) (x2 : Int32) (x3 : Int32) (x4 : Int32) : Option (Int32) :=
  kb5 x1 x2 x3 (x4 + 1)
def Choices_givenIn_p5b (N : Nat) (kb5 : Int32 → Int32 → Int32 → Int32 → Option (Int32)) (c : St) (x1 : Int32) (x2 : Int32) (x3 : Int32) (x4 : Int32) : Option (Int32) :=
  (if (gI c 28) ≤ x4 then some x3 else (if ¬ ((x1 >>> (x4 &&& 31)) &&& 1) = 1 then Choices_givenIn_p36 N kb5 c x1 x2 x3 x4 else (rwi x4 8).bind fun q3 => (ld (gA c (86 + q3)) x2).bind fun y4 => Choices_givenIn_p36 N kb5 c x1 x2 (x3 + y4) x4))
def Choices_givenIn_p5 (N : Nat) (c : St) : Nat → Int32 → Int32 → Int32 → Int32 → Option (Int32)
  | 0 => fun _ _ _ _ => none
  | n + 1 => Choices_givenIn_p5b N (Choices_givenIn_p5 N c n) c
def Choices_givenIn (N : Nat) (c : St) (x1 : Int32) (x2 : Int32) : Option (Int32) :=
  Choices_givenIn_p5 N c N x1 x2 0 0
set_option maxHeartbeats 8000000 in
set_option maxRecDepth 100000 in
theorem t_Choices_givenIn_p36 (N d : Nat) (xs : List Int32) (c : St) (r : St) (kb5 : Int32 → Int32 → Int32 → Int32 → Option (Int32)) (hb5 : ∀ (x1 : Int32) (x2 : Int32) (x3 : Int32) (x4 : Int32), Ok (mBig (mRoL xs) (d)) (mRoL xs) 1 mK10 (fun p : Int32 => (some (.int p), HP c r)) (kb5 x1 x2 x3 x4) 5 [some (.ref 104), some (.int x1), some (.int x2), some (.int x3), some (.int x4)] [] (HP c r)) (x1 : Int32) (x2 : Int32) (x3 : Int32) (x4 : Int32) : Ok (mBig (mRoL xs) (d)) (mRoL xs) 1 mK10 (fun p : Int32 => (some (.int p), HP c r)) (Choices_givenIn_p36 N kb5 c x1 x2 x3 x4) 36 [some (.ref 104), some (.int x1), some (.int x2), some (.int x3), some (.int x4)] [] (HP c r) := by
  unfold Choices_givenIn_p36
  refine Ok_blk 2 (pc2 := 5) (lo2 := [some (.ref 104), some (.int x1), some (.int x2), some (.int x3), some (.int (x4 + 1))]) (st2 := []) rfl ?_
  refine Ok_drop (lo0 := [some (.ref 104), some (.int x1), some (.int x2), some (.int x3), some (.int (x4 + 1))]) ⟨Or.inr rfl, Or.inr rfl, Or.inr rfl, Or.inr rfl, Or.inr rfl, trivial⟩ ?_
  exact hb5 x1 x2 x3 (x4 + 1)
set_option maxHeartbeats 8000000 in
set_option maxRecDepth 100000 in
theorem t_Choices_givenIn_p5b (N d : Nat) (xs : List Int32) (c : St) (r : St) (kb5 : Int32 → Int32 → Int32 → Int32 → Option (Int32)) (hb5 : ∀ (x1 : Int32) (x2 : Int32) (x3 : Int32) (x4 : Int32), Ok (mBig (mRoL xs) (d)) (mRoL xs) 1 mK10 (fun p : Int32 => (some (.int p), HP c r)) (kb5 x1 x2 x3 x4) 5 [some (.ref 104), some (.int x1), some (.int x2), some (.int x3), some (.int x4)] [] (HP c r)) (x1 : Int32) (x2 : Int32) (x3 : Int32) (x4 : Int32) : Ok (mBig (mRoL xs) (d)) (mRoL xs) 1 mK10 (fun p : Int32 => (some (.int p), HP c r)) (Choices_givenIn_p5b N kb5 c x1 x2 x3 x4) 5 [some (.ref 104), some (.int x1), some (.int x2), some (.int x3), some (.int x4)] [] (HP c r) := by
  unfold Choices_givenIn_p5b
  refine Ok_blk 4 (pc2 := (if (gI c 28) ≤ x4 then 42 else 14)) (lo2 := [some (.ref 104), some (.int x1), some (.int x2), some (.int x3), some (.int x4)]) (st2 := []) rfl ?_
  refine Ok_if (fun h1 => ?_) (fun h1 => ?_)
  · refine Ok_blk 1 (pc2 := 43) (lo2 := [some (.ref 104), some (.int x1), some (.int x2), some (.int x3), some (.int x4)]) (st2 := [.int x3]) rfl ?_
    exact Ok_ret rfl rfl rfl
  · refine Ok_blk 7 (pc2 := (if ¬ ((x1 >>> (x4 &&& 31)) &&& 1) = 1 then 36 else 24)) (lo2 := [some (.ref 104), some (.int x1), some (.int x2), some (.int x3), some (.int x4)]) (st2 := []) rfl ?_
    refine Ok_if (fun h2 => ?_) (fun h2 => ?_)
    · refine Ok_drop (lo0 := [some (.ref 104), some (.int x1), some (.int x2), some (.int x3), some (.int x4)]) ⟨Or.inr rfl, Or.inr rfl, Or.inr rfl, Or.inr rfl, Or.inr rfl, trivial⟩ ?_
      exact t_Choices_givenIn_p36 N d xs c r kb5 hb5 x1 x2 x3 x4
    · refine Ok_blk 4 (pc2 := 31) (lo2 := [some (.ref 104), some (.int x1), some (.int x2), some (.int x3), some (.int x4)]) (st2 := [.int x4, .ref 105, .int x3]) rfl ?_
      refine Ok_rw (b := 106) (n := 8) rfl rfl (fun j h => rowl_105 j h) (fun q3 hq3 => ?_)
      refine Ok_blk 1 (pc2 := 33) (lo2 := [some (.ref 104), some (.int x1), some (.int x2), some (.int x3), some (.int x4)]) (st2 := [.int x2, .ref (106 + q3), .int x3]) rfl ?_
      refine Ok_ld (l := (gA c (86 + q3))) rfl ((rows_105 hq3).row _ _ _) (fun y4 hy4 => ?_)
      refine Ok_blk 2 (pc2 := 36) (lo2 := [some (.ref 104), some (.int x1), some (.int x2), some (.int (x3 + y4)), some (.int x4)]) (st2 := []) rfl ?_
      refine Ok_drop (lo0 := [some (.ref 104), some (.int x1), some (.int x2), some (.int (x3 + y4)), some (.int x4)]) ⟨Or.inr rfl, Or.inr rfl, Or.inr rfl, Or.inr rfl, Or.inr rfl, trivial⟩ ?_
      exact t_Choices_givenIn_p36 N d xs c r kb5 hb5 x1 x2 (x3 + y4) x4
set_option maxHeartbeats 8000000 in
set_option maxRecDepth 100000 in
theorem t_Choices_givenIn_p5 (N d : Nat) (xs : List Int32) (c : St) (r : St) : ∀ (n : Nat) (x1 : Int32) (x2 : Int32) (x3 : Int32) (x4 : Int32), Ok (mBig (mRoL xs) (d)) (mRoL xs) 1 mK10 (fun p : Int32 => (some (.int p), HP c r)) (Choices_givenIn_p5 N c n x1 x2 x3 x4) 5 [some (.ref 104), some (.int x1), some (.int x2), some (.int x3), some (.int x4)] [] (HP c r) := by
  intro n
  induction n with
  | zero => intro x1 x2 x3 x4; exact Ok_none
  | succ n ih => intro x1 x2 x3 x4; exact t_Choices_givenIn_p5b N d xs c r (Choices_givenIn_p5 N c n) ih x1 x2 x3 x4
set_option maxHeartbeats 8000000 in
set_option maxRecDepth 100000 in
theorem t_Choices_givenIn (N d : Nat) (xs : List Int32) (c : St) (r : St) (x1 : Int32) (x2 : Int32) : Ok (mBig (mRoL xs) (d)) (mRoL xs) 1 mK10 (fun p : Int32 => (some (.int p), HP c r)) (Choices_givenIn N c x1 x2) 0 [some (.ref 104), some (.int x1), some (.int x2), none, none] [] (HP c r) := by
  unfold Choices_givenIn
  refine Ok_blk 4 (pc2 := 5) (lo2 := [some (.ref 104), some (.int x1), some (.int x2), some (.int 0), some (.int 0)]) (st2 := []) rfl ?_
  refine Ok_drop (lo0 := [some (.ref 104), some (.int x1), some (.int x2), some (.int 0), some (.int 0)]) ⟨Or.inr rfl, Or.inr rfl, Or.inr rfl, Or.inr rfl, Or.inr rfl, trivial⟩ ?_
  exact t_Choices_givenIn_p5 N d xs c r N x1 x2 0 0
set_option maxHeartbeats 8000000 in
set_option maxRecDepth 100000 in
theorem tm_Choices_givenIn (N d : Nat) (xs : List Int32) (c r : St) (a1 : Int32) (a2 : Int32) (p : Int32) (hp : Choices_givenIn N c a1 a2 = some p) : mBig (mRoL xs) (d + 1) 10 [.ref 104, .int a1, .int a2] (HP c r) (some (.int p)) (HP c r) 0 0 := mBig_of (by decide) rfl rfl rfl rfl (t_Choices_givenIn N d xs c r a1 a2 p hp)
/-! ColdHolds$Choices.worstOf(II)I, from (('r', 104), 'i', 'i') -/
def Choices_worstOf_p10b (N : Nat) (kb10 : Int32 → Int32 → Int32 → Int32 → Option (Int32)) (c : St) (x1 : Int32) (x2 : Int32) (x3 : Int32) (x4 : Int32) : Option (Int32) :=
  (if x2 ≤ x4 then some x3 else (Choices_givenIn N c x1 x4).bind fun p3 => (J_min N x3 p3).bind fun p4 => kb10 x1 x2 p4 (x4 + 1))
def Choices_worstOf_p10 (N : Nat) (c : St) : Nat → Int32 → Int32 → Int32 → Int32 → Option (Int32)
  | 0 => fun _ _ _ _ => none
  | n + 1 => Choices_worstOf_p10b N (Choices_worstOf_p10 N c n) c
def Choices_worstOf (N : Nat) (c : St) (x1 : Int32) (x2 : Int32) : Option (Int32) :=
  (Choices_givenIn N c x1 0).bind fun p1 => Choices_worstOf_p10 N c N x1 x2 p1 1
set_option maxHeartbeats 8000000 in
set_option maxRecDepth 100000 in
theorem t_Choices_worstOf_p10b (N d : Nat) (xs : List Int32) (c : St) (r : St) (kb10 : Int32 → Int32 → Int32 → Int32 → Option (Int32)) (hb10 : ∀ (x1 : Int32) (x2 : Int32) (x3 : Int32) (x4 : Int32), Ok (mBig (mRoL xs) (d + 1)) (mRoL xs) 1 mK9 (fun p : Int32 => (some (.int p), HP c r)) (kb10 x1 x2 x3 x4) 10 [some (.ref 104), some (.int x1), some (.int x2), some (.int x3), some (.int x4)] [] (HP c r)) (x1 : Int32) (x2 : Int32) (x3 : Int32) (x4 : Int32) : Ok (mBig (mRoL xs) (d + 1)) (mRoL xs) 1 mK9 (fun p : Int32 => (some (.int p), HP c r)) (Choices_worstOf_p10b N kb10 c x1 x2 x3 x4) 10 [some (.ref 104), some (.int x1), some (.int x2), some (.int x3), some (.int x4)] [] (HP c r) := by
  unfold Choices_worstOf_p10b
  refine Ok_blk 3 (pc2 := (if x2 ≤ x4 then 34 else 16)) (lo2 := [some (.ref 104), some (.int x1), some (.int x2), some (.int x3), some (.int x4)]) (st2 := []) rfl ?_
  refine Ok_if (fun h2 => ?_) (fun h2 => ?_)
  · refine Ok_blk 1 (pc2 := 35) (lo2 := [some (.ref 104), some (.int x1), some (.int x2), some (.int x3), some (.int x4)]) (st2 := [.int x3]) rfl ?_
    exact Ok_ret rfl rfl rfl
  · refine Ok_blk 4 (pc2 := 21) (lo2 := [some (.ref 104), some (.int x1), some (.int x2), some (.int x3), some (.int x4)]) (st2 := [.int x4, .int x1, .ref 104, .int x3]) rfl ?_
    refine Ok_call (y := 10) (as := [.ref 104, .int x1, .int x4]) (rest := [.int x3]) (w := fun p3 => some (.int p3)) (h1 := fun p3 => HP c r) rfl rfl (fun x hx => tm_Choices_givenIn N d xs c r x1 x4 x hx) (fun p3 hp3 => ?_)
    refine Ok_call (y := 262) (as := [.int x3, .int p3]) (rest := []) (w := fun p4 => some (.int p4)) (h1 := fun p4 => HP c r) rfl rfl (fun x hx => tm_J_min N d xs c r x3 p3 x hx) (fun p4 hp4 => ?_)
    refine Ok_blk 3 (pc2 := 10) (lo2 := [some (.ref 104), some (.int x1), some (.int x2), some (.int p4), some (.int (x4 + 1))]) (st2 := []) rfl ?_
    refine Ok_drop (lo0 := [some (.ref 104), some (.int x1), some (.int x2), some (.int p4), some (.int (x4 + 1))]) ⟨Or.inr rfl, Or.inr rfl, Or.inr rfl, Or.inr rfl, Or.inr rfl, trivial⟩ ?_
    exact hb10 x1 x2 p4 (x4 + 1)
set_option maxHeartbeats 8000000 in
set_option maxRecDepth 100000 in
theorem t_Choices_worstOf_p10 (N d : Nat) (xs : List Int32) (c : St) (r : St) : ∀ (n : Nat) (x1 : Int32) (x2 : Int32) (x3 : Int32) (x4 : Int32), Ok (mBig (mRoL xs) (d + 1)) (mRoL xs) 1 mK9 (fun p : Int32 => (some (.int p), HP c r)) (Choices_worstOf_p10 N c n x1 x2 x3 x4) 10 [some (.ref 104), some (.int x1), some (.int x2), some (.int x3), some (.int x4)] [] (HP c r) := by
  intro n
  induction n with
  | zero => intro x1 x2 x3 x4; exact Ok_none
  | succ n ih => intro x1 x2 x3 x4; exact t_Choices_worstOf_p10b N d xs c r (Choices_worstOf_p10 N c n) ih x1 x2 x3 x4
set_option maxHeartbeats 8000000 in
set_option maxRecDepth 100000 in
theorem t_Choices_worstOf (N d : Nat) (xs : List Int32) (c : St) (r : St) (x1 : Int32) (x2 : Int32) : Ok (mBig (mRoL xs) (d + 1)) (mRoL xs) 1 mK9 (fun p : Int32 => (some (.int p), HP c r)) (Choices_worstOf N c x1 x2) 0 [some (.ref 104), some (.int x1), some (.int x2), none, none] [] (HP c r) := by
  unfold Choices_worstOf
  refine Ok_blk 3 (pc2 := 3) (lo2 := [some (.ref 104), some (.int x1), some (.int x2), none, none]) (st2 := [.int 0, .int x1, .ref 104]) rfl ?_
  refine Ok_call (y := 10) (as := [.ref 104, .int x1, .int 0]) (rest := []) (w := fun p1 => some (.int p1)) (h1 := fun p1 => HP c r) rfl rfl (fun x hx => tm_Choices_givenIn N d xs c r x1 0 x hx) (fun p1 hp1 => ?_)
  refine Ok_blk 3 (pc2 := 10) (lo2 := [some (.ref 104), some (.int x1), some (.int x2), some (.int p1), some (.int 1)]) (st2 := []) rfl ?_
  refine Ok_drop (lo0 := [some (.ref 104), some (.int x1), some (.int x2), some (.int p1), some (.int 1)]) ⟨Or.inr rfl, Or.inr rfl, Or.inr rfl, Or.inr rfl, Or.inr rfl, trivial⟩ ?_
  exact t_Choices_worstOf_p10 N d xs c r N x1 x2 p1 1
set_option maxHeartbeats 8000000 in
set_option maxRecDepth 100000 in
theorem tm_Choices_worstOf (N d : Nat) (xs : List Int32) (c r : St) (a1 : Int32) (a2 : Int32) (p : Int32) (hp : Choices_worstOf N c a1 a2 = some p) : mBig (mRoL xs) (d + 2) 9 [.ref 104, .int a1, .int a2] (HP c r) (some (.int p)) (HP c r) 0 0 := mBig_of (by decide) rfl rfl rfl rfl (t_Choices_worstOf N d xs c r a1 a2 p hp)
/-! ColdHolds$Choices.isBetter(III)Z, from (('r', 104), 'i', 'i', 'i') -/
def Choices_isBetter_p38 (N : Nat) (c : St) : Option (Int32) :=
  some 1
def Choices_isBetter_p42 (N : Nat) (c : St) : Option (Int32) :=
  some 0
def Choices_isBetter (N : Nat) (c : St) (x1 : Int32) (x2 : Int32) (x3 : Int32) : Option (Int32) :=
  (Choices_worstOf N c x1 x3).bind fun p1 => (Choices_worstOf N c x2 x3).bind fun p2 => (if 0 < (p1 - p2) then Choices_isBetter_p38 N c else (if ¬ (p1 - p2) = 0 then Choices_isBetter_p42 N c else (Choices_costOf N c x1).bind fun p5 => (Choices_costOf N c x2).bind fun p6 => (if p6 ≤ p5 then Choices_isBetter_p42 N c else Choices_isBetter_p38 N c)))
set_option maxHeartbeats 8000000 in
set_option maxRecDepth 100000 in
theorem t_Choices_isBetter_p38 (N d : Nat) (xs : List Int32) (c : St) (r : St) : Ok (mBig (mRoL xs) (d + 2)) (mRoL xs) 2 mK7 (fun p : Int32 => (some (.int p), HP c r)) (Choices_isBetter_p38 N c) 38 [none, none, none, none, none] [] (HP c r) := by
  unfold Choices_isBetter_p38
  refine Ok_blk 2 (pc2 := 43) (lo2 := [none, none, none, none, none]) (st2 := [.int 1]) rfl ?_
  exact Ok_rez (Or.inr rfl) rfl rfl
set_option maxHeartbeats 8000000 in
set_option maxRecDepth 100000 in
theorem t_Choices_isBetter_p42 (N d : Nat) (xs : List Int32) (c : St) (r : St) : Ok (mBig (mRoL xs) (d + 2)) (mRoL xs) 2 mK7 (fun p : Int32 => (some (.int p), HP c r)) (Choices_isBetter_p42 N c) 42 [none, none, none, none, none] [] (HP c r) := by
  unfold Choices_isBetter_p42
  refine Ok_blk 1 (pc2 := 43) (lo2 := [none, none, none, none, none]) (st2 := [.int 0]) rfl ?_
  exact Ok_rez (Or.inl rfl) rfl rfl
set_option maxHeartbeats 8000000 in
set_option maxRecDepth 100000 in
theorem t_Choices_isBetter (N d : Nat) (xs : List Int32) (c : St) (r : St) (x1 : Int32) (x2 : Int32) (x3 : Int32) : Ok (mBig (mRoL xs) (d + 2)) (mRoL xs) 2 mK7 (fun p : Int32 => (some (.int p), HP c r)) (Choices_isBetter N c x1 x2 x3) 0 [some (.ref 104), some (.int x1), some (.int x2), some (.int x3), none] [] (HP c r) := by
  unfold Choices_isBetter
  refine Ok_blk 3 (pc2 := 3) (lo2 := [some (.ref 104), some (.int x1), some (.int x2), some (.int x3), none]) (st2 := [.int x3, .int x1, .ref 104]) rfl ?_
  refine Ok_call (y := 9) (as := [.ref 104, .int x1, .int x3]) (rest := []) (w := fun p1 => some (.int p1)) (h1 := fun p1 => HP c r) rfl rfl (fun x hx => tm_Choices_worstOf N d xs c r x1 x3 x hx) (fun p1 hp1 => ?_)
  refine Ok_blk 3 (pc2 := 9) (lo2 := [some (.ref 104), some (.int x1), some (.int x2), some (.int x3), none]) (st2 := [.int x3, .int x2, .ref 104, .int p1]) rfl ?_
  refine Ok_call (y := 9) (as := [.ref 104, .int x2, .int x3]) (rest := [.int p1]) (w := fun p2 => some (.int p2)) (h1 := fun p2 => HP c r) rfl rfl (fun x hx => tm_Choices_worstOf N d xs c r x2 x3 x hx) (fun p2 hp2 => ?_)
  refine Ok_blk 4 (pc2 := (if 0 < (p1 - p2) then 38 else 20)) (lo2 := [some (.ref 104), some (.int x1), some (.int x2), some (.int x3), some (.int (p1 - p2))]) (st2 := []) rfl ?_
  refine Ok_if (fun h3 => ?_) (fun h3 => ?_)
  · refine Ok_drop (lo0 := [none, none, none, none, none]) ⟨Or.inl rfl, Or.inl rfl, Or.inl rfl, Or.inl rfl, Or.inl rfl, trivial⟩ ?_
    exact t_Choices_isBetter_p38 N d xs c r
  · refine Ok_blk 2 (pc2 := (if ¬ (p1 - p2) = 0 then 42 else 25)) (lo2 := [some (.ref 104), some (.int x1), some (.int x2), some (.int x3), some (.int (p1 - p2))]) (st2 := []) rfl ?_
    refine Ok_if (fun h4 => ?_) (fun h4 => ?_)
    · refine Ok_drop (lo0 := [none, none, none, none, none]) ⟨Or.inl rfl, Or.inl rfl, Or.inl rfl, Or.inl rfl, Or.inl rfl, trivial⟩ ?_
      exact t_Choices_isBetter_p42 N d xs c r
    · refine Ok_blk 2 (pc2 := 27) (lo2 := [some (.ref 104), some (.int x1), some (.int x2), some (.int x3), some (.int (p1 - p2))]) (st2 := [.int x1, .ref 104]) rfl ?_
      refine Ok_call (y := 8) (as := [.ref 104, .int x1]) (rest := []) (w := fun p5 => some (.int p5)) (h1 := fun p5 => HP c r) rfl rfl (fun x hx => tm_Choices_costOf N (d + 1) xs c r x1 x hx) (fun p5 hp5 => ?_)
      refine Ok_blk 2 (pc2 := 32) (lo2 := [some (.ref 104), some (.int x1), some (.int x2), some (.int x3), some (.int (p1 - p2))]) (st2 := [.int x2, .ref 104, .int p5]) rfl ?_
      refine Ok_call (y := 8) (as := [.ref 104, .int x2]) (rest := [.int p5]) (w := fun p6 => some (.int p6)) (h1 := fun p6 => HP c r) rfl rfl (fun x hx => tm_Choices_costOf N (d + 1) xs c r x2 x hx) (fun p6 hp6 => ?_)
      refine Ok_blk 1 (pc2 := (if p6 ≤ p5 then 42 else 38)) (lo2 := [some (.ref 104), some (.int x1), some (.int x2), some (.int x3), some (.int (p1 - p2))]) (st2 := []) rfl ?_
      refine Ok_if (fun h7 => ?_) (fun h7 => ?_)
      · refine Ok_drop (lo0 := [none, none, none, none, none]) ⟨Or.inl rfl, Or.inl rfl, Or.inl rfl, Or.inl rfl, Or.inl rfl, trivial⟩ ?_
        exact t_Choices_isBetter_p42 N d xs c r
      · refine Ok_drop (lo0 := [none, none, none, none, none]) ⟨Or.inl rfl, Or.inl rfl, Or.inl rfl, Or.inl rfl, Or.inl rfl, trivial⟩ ?_
        exact t_Choices_isBetter_p38 N d xs c r
set_option maxHeartbeats 8000000 in
set_option maxRecDepth 100000 in
theorem tm_Choices_isBetter (N d : Nat) (xs : List Int32) (c r : St) (a1 : Int32) (a2 : Int32) (a3 : Int32) (p : Int32) (hp : Choices_isBetter N c a1 a2 a3 = some p) : mBig (mRoL xs) (d + 3) 7 [.ref 104, .int a1, .int a2, .int a3] (HP c r) (some (.int p)) (HP c r) 0 0 := mBig_of (by decide) rfl rfl rfl rfl (t_Choices_isBetter N d xs c r a1 a2 a3 p hp)
/-! ColdHolds$Choices.bestFor(II)I, from (('r', 104), 'i', 'i') -/
def Choices_bestFor_p40 (N : Nat) (kb5 : Int32 → Int32 → Int32 → Int32 → Option (Int32)) (c : St) (x1 : Int32) (x2 : Int32) (x3 : Int32) (x4 : Int32) : Option (Int32) :=
  kb5 x1 x2 x3 (x4 + 1)
def Choices_bestFor_p5b (N : Nat) (kb5 : Int32 → Int32 → Int32 → Int32 → Option (Int32)) (c : St) (x1 : Int32) (x2 : Int32) (x3 : Int32) (x4 : Int32) : Option (Int32) :=
  (if (1 <<< ((gI c 28) &&& 31)) ≤ x4 then some x3 else (Choices_costOf N c x4).bind fun p2 => (if x1 < p2 then Choices_bestFor_p40 N kb5 c x1 x2 x3 x4 else (Choices_isBetter N c x4 x3 x2).bind fun p4 => (if p4 = 0 then Choices_bestFor_p40 N kb5 c x1 x2 x3 x4 else Choices_bestFor_p40 N kb5 c x1 x2 x4 x4)))
def Choices_bestFor_p5 (N : Nat) (c : St) : Nat → Int32 → Int32 → Int32 → Int32 → Option (Int32)
  | 0 => fun _ _ _ _ => none
  | n + 1 => Choices_bestFor_p5b N (Choices_bestFor_p5 N c n) c
def Choices_bestFor (N : Nat) (c : St) (x1 : Int32) (x2 : Int32) : Option (Int32) :=
  Choices_bestFor_p5 N c N x1 x2 0 1
set_option maxHeartbeats 8000000 in
set_option maxRecDepth 100000 in
theorem t_Choices_bestFor_p40 (N d : Nat) (xs : List Int32) (c : St) (r : St) (kb5 : Int32 → Int32 → Int32 → Int32 → Option (Int32)) (hb5 : ∀ (x1 : Int32) (x2 : Int32) (x3 : Int32) (x4 : Int32), Ok (mBig (mRoL xs) (d + 3)) (mRoL xs) 1 mK6 (fun p : Int32 => (some (.int p), HP c r)) (kb5 x1 x2 x3 x4) 5 [some (.ref 104), some (.int x1), some (.int x2), some (.int x3), some (.int x4)] [] (HP c r)) (x1 : Int32) (x2 : Int32) (x3 : Int32) (x4 : Int32) : Ok (mBig (mRoL xs) (d + 3)) (mRoL xs) 1 mK6 (fun p : Int32 => (some (.int p), HP c r)) (Choices_bestFor_p40 N kb5 c x1 x2 x3 x4) 40 [some (.ref 104), some (.int x1), some (.int x2), some (.int x3), some (.int x4)] [] (HP c r) := by
  unfold Choices_bestFor_p40
  refine Ok_blk 2 (pc2 := 5) (lo2 := [some (.ref 104), some (.int x1), some (.int x2), some (.int x3), some (.int (x4 + 1))]) (st2 := []) rfl ?_
  refine Ok_drop (lo0 := [some (.ref 104), some (.int x1), some (.int x2), some (.int x3), some (.int (x4 + 1))]) ⟨Or.inr rfl, Or.inr rfl, Or.inr rfl, Or.inr rfl, Or.inr rfl, trivial⟩ ?_
  exact hb5 x1 x2 x3 (x4 + 1)
set_option maxHeartbeats 8000000 in
set_option maxRecDepth 100000 in
theorem t_Choices_bestFor_p5b (N d : Nat) (xs : List Int32) (c : St) (r : St) (kb5 : Int32 → Int32 → Int32 → Int32 → Option (Int32)) (hb5 : ∀ (x1 : Int32) (x2 : Int32) (x3 : Int32) (x4 : Int32), Ok (mBig (mRoL xs) (d + 3)) (mRoL xs) 1 mK6 (fun p : Int32 => (some (.int p), HP c r)) (kb5 x1 x2 x3 x4) 5 [some (.ref 104), some (.int x1), some (.int x2), some (.int x3), some (.int x4)] [] (HP c r)) (x1 : Int32) (x2 : Int32) (x3 : Int32) (x4 : Int32) : Ok (mBig (mRoL xs) (d + 3)) (mRoL xs) 1 mK6 (fun p : Int32 => (some (.int p), HP c r)) (Choices_bestFor_p5b N kb5 c x1 x2 x3 x4) 5 [some (.ref 104), some (.int x1), some (.int x2), some (.int x3), some (.int x4)] [] (HP c r) := by
  unfold Choices_bestFor_p5b
  refine Ok_blk 6 (pc2 := (if (1 <<< ((gI c 28) &&& 31)) ≤ x4 then 46 else 16)) (lo2 := [some (.ref 104), some (.int x1), some (.int x2), some (.int x3), some (.int x4)]) (st2 := []) rfl ?_
  refine Ok_if (fun h1 => ?_) (fun h1 => ?_)
  · refine Ok_blk 1 (pc2 := 47) (lo2 := [some (.ref 104), some (.int x1), some (.int x2), some (.int x3), some (.int x4)]) (st2 := [.int x3]) rfl ?_
    exact Ok_ret rfl rfl rfl
  · refine Ok_blk 2 (pc2 := 19) (lo2 := [some (.ref 104), some (.int x1), some (.int x2), some (.int x3), some (.int x4)]) (st2 := [.int x4, .ref 104]) rfl ?_
    refine Ok_call (y := 8) (as := [.ref 104, .int x4]) (rest := []) (w := fun p2 => some (.int p2)) (h1 := fun p2 => HP c r) rfl rfl (fun x hx => tm_Choices_costOf N (d + 2) xs c r x4 x hx) (fun p2 hp2 => ?_)
    refine Ok_blk 2 (pc2 := (if x1 < p2 then 40 else 26)) (lo2 := [some (.ref 104), some (.int x1), some (.int x2), some (.int x3), some (.int x4)]) (st2 := []) rfl ?_
    refine Ok_if (fun h3 => ?_) (fun h3 => ?_)
    · refine Ok_drop (lo0 := [some (.ref 104), some (.int x1), some (.int x2), some (.int x3), some (.int x4)]) ⟨Or.inr rfl, Or.inr rfl, Or.inr rfl, Or.inr rfl, Or.inr rfl, trivial⟩ ?_
      exact t_Choices_bestFor_p40 N d xs c r kb5 hb5 x1 x2 x3 x4
    · refine Ok_blk 4 (pc2 := 31) (lo2 := [some (.ref 104), some (.int x1), some (.int x2), some (.int x3), some (.int x4)]) (st2 := [.int x2, .int x3, .int x4, .ref 104]) rfl ?_
      refine Ok_call (y := 7) (as := [.ref 104, .int x4, .int x3, .int x2]) (rest := []) (w := fun p4 => some (.int p4)) (h1 := fun p4 => HP c r) rfl rfl (fun x hx => tm_Choices_isBetter N d xs c r x4 x3 x2 x hx) (fun p4 hp4 => ?_)
      refine Ok_blk 1 (pc2 := (if p4 = 0 then 40 else 37)) (lo2 := [some (.ref 104), some (.int x1), some (.int x2), some (.int x3), some (.int x4)]) (st2 := []) rfl ?_
      refine Ok_if (fun h5 => ?_) (fun h5 => ?_)
      · refine Ok_drop (lo0 := [some (.ref 104), some (.int x1), some (.int x2), some (.int x3), some (.int x4)]) ⟨Or.inr rfl, Or.inr rfl, Or.inr rfl, Or.inr rfl, Or.inr rfl, trivial⟩ ?_
        exact t_Choices_bestFor_p40 N d xs c r kb5 hb5 x1 x2 x3 x4
      · refine Ok_blk 2 (pc2 := 40) (lo2 := [some (.ref 104), some (.int x1), some (.int x2), some (.int x4), some (.int x4)]) (st2 := []) rfl ?_
        refine Ok_drop (lo0 := [some (.ref 104), some (.int x1), some (.int x2), some (.int x4), some (.int x4)]) ⟨Or.inr rfl, Or.inr rfl, Or.inr rfl, Or.inr rfl, Or.inr rfl, trivial⟩ ?_
        exact t_Choices_bestFor_p40 N d xs c r kb5 hb5 x1 x2 x4 x4
set_option maxHeartbeats 8000000 in
set_option maxRecDepth 100000 in
theorem t_Choices_bestFor_p5 (N d : Nat) (xs : List Int32) (c : St) (r : St) : ∀ (n : Nat) (x1 : Int32) (x2 : Int32) (x3 : Int32) (x4 : Int32), Ok (mBig (mRoL xs) (d + 3)) (mRoL xs) 1 mK6 (fun p : Int32 => (some (.int p), HP c r)) (Choices_bestFor_p5 N c n x1 x2 x3 x4) 5 [some (.ref 104), some (.int x1), some (.int x2), some (.int x3), some (.int x4)] [] (HP c r) := by
  intro n
  induction n with
  | zero => intro x1 x2 x3 x4; exact Ok_none
  | succ n ih => intro x1 x2 x3 x4; exact t_Choices_bestFor_p5b N d xs c r (Choices_bestFor_p5 N c n) ih x1 x2 x3 x4
set_option maxHeartbeats 8000000 in
set_option maxRecDepth 100000 in
theorem t_Choices_bestFor (N d : Nat) (xs : List Int32) (c : St) (r : St) (x1 : Int32) (x2 : Int32) : Ok (mBig (mRoL xs) (d + 3)) (mRoL xs) 1 mK6 (fun p : Int32 => (some (.int p), HP c r)) (Choices_bestFor N c x1 x2) 0 [some (.ref 104), some (.int x1), some (.int x2), none, none] [] (HP c r) := by
  unfold Choices_bestFor
  refine Ok_blk 4 (pc2 := 5) (lo2 := [some (.ref 104), some (.int x1), some (.int x2), some (.int 0), some (.int 1)]) (st2 := []) rfl ?_
  refine Ok_drop (lo0 := [some (.ref 104), some (.int x1), some (.int x2), some (.int 0), some (.int 1)]) ⟨Or.inr rfl, Or.inr rfl, Or.inr rfl, Or.inr rfl, Or.inr rfl, trivial⟩ ?_
  exact t_Choices_bestFor_p5 N d xs c r N x1 x2 0 1
set_option maxHeartbeats 8000000 in
set_option maxRecDepth 100000 in
theorem tm_Choices_bestFor (N d : Nat) (xs : List Int32) (c r : St) (a1 : Int32) (a2 : Int32) (p : Int32) (hp : Choices_bestFor N c a1 a2 = some p) : mBig (mRoL xs) (d + 4) 6 [.ref 104, .int a1, .int a2] (HP c r) (some (.int p)) (HP c r) 0 0 := mBig_of (by decide) rfl rfl rfl rfl (t_Choices_bestFor N d xs c r a1 a2 p hp)
/-! ColdHolds.plan(III)I, from (('r', 0), 'i', 'i', 'i') -/
def C_plan_p29 (N : Nat) (c : St) : Option (Int32) :=
  some (-10002)
def C_plan (N : Nat) (c : St) (x1 : Int32) (x2 : Int32) (x3 : Int32) : Option (Int32) :=
  (C_within N x1 0 99999).bind fun p1 => (if p1 = 0 then C_plan_p29 N c else (C_within N x2 1 5).bind fun p3 => (if p3 = 0 then C_plan_p29 N c else (C_within N x3 0 2).bind fun p5 => (if ¬ p5 = 0 then (Choices_bestFor N c x1 x2).bind fun p7 => (if x3 = 0 then some p7 else (if x3 = 1 then (Choices_worstOf N c p7 x2).bind fun p10 => some p10 else (Choices_costOf N c p7).bind fun p11 => some p11)) else C_plan_p29 N c)))
set_option maxHeartbeats 8000000 in
set_option maxRecDepth 100000 in
theorem t_C_plan_p29 (N d : Nat) (xs : List Int32) (c : St) (r : St) : Ok (mBig (mRoL xs) (d + 4)) (mRoL xs) 1 mK157 (fun p : Int32 => (some (.int p), HP c r)) (C_plan_p29 N c) 29 [none, none, none, none, none] [] (HP c r) := by
  unfold C_plan_p29
  refine Ok_blk 1 (pc2 := 32) (lo2 := [none, none, none, none, none]) (st2 := [.int (-10002)]) rfl ?_
  exact Ok_ret rfl rfl rfl
set_option maxHeartbeats 8000000 in
set_option maxRecDepth 100000 in
theorem t_C_plan (N d : Nat) (xs : List Int32) (c : St) (r : St) (x1 : Int32) (x2 : Int32) (x3 : Int32) : Ok (mBig (mRoL xs) (d + 4)) (mRoL xs) 1 mK157 (fun p : Int32 => (some (.int p), HP c r)) (C_plan N c x1 x2 x3) 0 [some (.ref 0), some (.int x1), some (.int x2), some (.int x3), none] [] (HP c r) := by
  unfold C_plan
  refine Ok_blk 3 (pc2 := 5) (lo2 := [some (.ref 0), some (.int x1), some (.int x2), some (.int x3), none]) (st2 := [.int 99999, .int 0, .int x1]) rfl ?_
  refine Ok_call (y := 102) (as := [.int x1, .int 0, .int 99999]) (rest := []) (w := fun p1 => some (.int p1)) (h1 := fun p1 => HP c r) rfl rfl (fun x hx => tm_C_within N (d + 3) xs c r x1 0 99999 x hx) (fun p1 hp1 => ?_)
  refine Ok_blk 1 (pc2 := (if p1 = 0 then 29 else 11)) (lo2 := [some (.ref 0), some (.int x1), some (.int x2), some (.int x3), none]) (st2 := []) rfl ?_
  refine Ok_if (fun h2 => ?_) (fun h2 => ?_)
  · refine Ok_drop (lo0 := [none, none, none, none, none]) ⟨Or.inl rfl, Or.inl rfl, Or.inl rfl, Or.inl rfl, Or.inl rfl, trivial⟩ ?_
    exact t_C_plan_p29 N d xs c r
  · refine Ok_blk 3 (pc2 := 14) (lo2 := [some (.ref 0), some (.int x1), some (.int x2), some (.int x3), none]) (st2 := [.int 5, .int 1, .int x2]) rfl ?_
    refine Ok_call (y := 102) (as := [.int x2, .int 1, .int 5]) (rest := []) (w := fun p3 => some (.int p3)) (h1 := fun p3 => HP c r) rfl rfl (fun x hx => tm_C_within N (d + 3) xs c r x2 1 5 x hx) (fun p3 hp3 => ?_)
    refine Ok_blk 1 (pc2 := (if p3 = 0 then 29 else 20)) (lo2 := [some (.ref 0), some (.int x1), some (.int x2), some (.int x3), none]) (st2 := []) rfl ?_
    refine Ok_if (fun h4 => ?_) (fun h4 => ?_)
    · refine Ok_drop (lo0 := [none, none, none, none, none]) ⟨Or.inl rfl, Or.inl rfl, Or.inl rfl, Or.inl rfl, Or.inl rfl, trivial⟩ ?_
      exact t_C_plan_p29 N d xs c r
    · refine Ok_blk 3 (pc2 := 23) (lo2 := [some (.ref 0), some (.int x1), some (.int x2), some (.int x3), none]) (st2 := [.int 2, .int 0, .int x3]) rfl ?_
      refine Ok_call (y := 102) (as := [.int x3, .int 0, .int 2]) (rest := []) (w := fun p5 => some (.int p5)) (h1 := fun p5 => HP c r) rfl rfl (fun x hx => tm_C_within N (d + 3) xs c r x3 0 2 x hx) (fun p5 hp5 => ?_)
      refine Ok_blk 1 (pc2 := (if ¬ p5 = 0 then 33 else 29)) (lo2 := [some (.ref 0), some (.int x1), some (.int x2), some (.int x3), none]) (st2 := []) rfl ?_
      refine Ok_if (fun h6 => ?_) (fun h6 => ?_)
      · refine Ok_blk 4 (pc2 := 39) (lo2 := [some (.ref 0), some (.int x1), some (.int x2), some (.int x3), none]) (st2 := [.int x2, .int x1, .ref 104]) rfl ?_
        refine Ok_call (y := 6) (as := [.ref 104, .int x1, .int x2]) (rest := []) (w := fun p7 => some (.int p7)) (h1 := fun p7 => HP c r) rfl rfl (fun x hx => tm_Choices_bestFor N d xs c r x1 x2 x hx) (fun p7 hp7 => ?_)
        refine Ok_blk 3 (pc2 := mSw x3 [(0, 72), (1, 75)] 86) (lo2 := [some (.ref 0), some (.int x1), some (.int x2), some (.int x3), some (.int p7)]) (st2 := []) rfl ?_
        refine Ok_sw (fun h8 => ?_) (fun h8 => ?_)
        · refine Ok_blk 1 (pc2 := 74) (lo2 := [some (.ref 0), some (.int x1), some (.int x2), some (.int x3), some (.int p7)]) (st2 := [.int p7]) rfl ?_
          exact Ok_ret rfl rfl rfl
        refine Ok_sw (fun h9 => ?_) (fun h9 => ?_)
        · refine Ok_blk 4 (pc2 := 82) (lo2 := [some (.ref 0), some (.int x1), some (.int x2), some (.int x3), some (.int p7)]) (st2 := [.int x2, .int p7, .ref 104]) rfl ?_
          refine Ok_call (y := 9) (as := [.ref 104, .int p7, .int x2]) (rest := []) (w := fun p10 => some (.int p10)) (h1 := fun p10 => HP c r) rfl rfl (fun x hx => tm_Choices_worstOf N (d + 2) xs c r p7 x2 x hx) (fun p10 hp10 => ?_)
          exact Ok_ret rfl rfl rfl
        show Ok _ _ _ _ _ _ 86 _ _ _
        refine Ok_blk 3 (pc2 := 92) (lo2 := [some (.ref 0), some (.int x1), some (.int x2), some (.int x3), some (.int p7)]) (st2 := [.int p7, .ref 104]) rfl ?_
        refine Ok_call (y := 8) (as := [.ref 104, .int p7]) (rest := []) (w := fun p11 => some (.int p11)) (h1 := fun p11 => HP c r) rfl rfl (fun x hx => tm_Choices_costOf N (d + 3) xs c r p7 x hx) (fun p11 hp11 => ?_)
        exact Ok_ret rfl rfl rfl
      · refine Ok_drop (lo0 := [none, none, none, none, none]) ⟨Or.inl rfl, Or.inl rfl, Or.inl rfl, Or.inl rfl, Or.inl rfl, trivial⟩ ?_
        exact t_C_plan_p29 N d xs c r
set_option maxHeartbeats 8000000 in
set_option maxRecDepth 100000 in
theorem tm_C_plan (N d : Nat) (xs : List Int32) (c r : St) (a1 : Int32) (a2 : Int32) (a3 : Int32) (p : Int32) (hp : C_plan N c a1 a2 a3 = some p) : mBig (mRoL xs) (d + 5) 157 [.ref 0, .int a1, .int a2, .int a3] (HP c r) (some (.int p)) (HP c r) 0 0 := mBig_of (by decide) rfl rfl rfl rfl (t_C_plan N d xs c r a1 a2 a3 p hp)
/-! ColdHoldsModel.worstOf(II)I, from (('r', 115), 'i', 'i') -/
def R_worstOf_p80 (N : Nat) (kb5 : Int32 → Int32 → Int32 → Int32 → Option (Int32)) (r : St) (x1 : Int32) (x2 : Int32) (x4 : Int32) (s0 : Int32) : Option (Int32) :=
  kb5 x1 x2 s0 (x4 + 1)
def R_worstOf_p74 (N : Nat) (kb5 : Int32 → Int32 → Int32 → Int32 → Option (Int32)) (r : St) (x1 : Int32) (x2 : Int32) (x4 : Int32) (x5 : Int32) : Option (Int32) :=
  R_worstOf_p80 N kb5 r x1 x2 x4 x5
def R_worstOf_p54 (N : Nat) (kb5 : Int32 → Int32 → Int32 → Int32 → Option (Int32)) (kb17 : Int32 → Int32 → Int32 → Int32 → Int32 → Int32 → Option (Int32)) (r : St) (x1 : Int32) (x2 : Int32) (x3 : Int32) (x4 : Int32) (x6 : Int32) (s0 : Int32) (s1 : Int32) : Option (Int32) :=
  kb17 x1 x2 x3 x4 (s0 + s1) (x6 + 1)
def R_worstOf_p17b (N : Nat) (kb5 : Int32 → Int32 → Int32 → Int32 → Option (Int32)) (kb17 : Int32 → Int32 → Int32 → Int32 → Int32 → Int32 → Option (Int32)) (r : St) (x1 : Int32) (x2 : Int32) (x3 : Int32) (x4 : Int32) (x5 : Int32) (x6 : Int32) : Option (Int32) :=
  (if (gI r 26) ≤ x6 then (if x4 = 0 then R_worstOf_p74 N kb5 r x1 x2 x4 x5 else (if x3 ≤ x5 then R_worstOf_p80 N kb5 r x1 x2 x4 x3 else R_worstOf_p74 N kb5 r x1 x2 x4 x5)) else (if ¬ ((x1 >>> (x6 &&& 31)) &&& 1) = 1 then R_worstOf_p54 N kb5 kb17 r x1 x2 x3 x4 x6 x5 0 else (ld (gA r 28) ((5 * x6) + x4)).bind fun y6 => R_worstOf_p54 N kb5 kb17 r x1 x2 x3 x4 x6 x5 y6))
def R_worstOf_p17 (N : Nat) (kb5 : Int32 → Int32 → Int32 → Int32 → Option (Int32)) (r : St) : Nat → Int32 → Int32 → Int32 → Int32 → Int32 → Int32 → Option (Int32)
  | 0 => fun _ _ _ _ _ _ => none
  | n + 1 => R_worstOf_p17b N kb5 (R_worstOf_p17 N kb5 r n) r
def R_worstOf_p5b (N : Nat) (kb5 : Int32 → Int32 → Int32 → Int32 → Option (Int32)) (r : St) (x1 : Int32) (x2 : Int32) (x3 : Int32) (x4 : Int32) : Option (Int32) :=
  (if x2 ≤ x4 then some x3 else R_worstOf_p17 N kb5 r N x1 x2 x3 x4 0 0)
def R_worstOf_p5 (N : Nat) (r : St) : Nat → Int32 → Int32 → Int32 → Int32 → Option (Int32)
  | 0 => fun _ _ _ _ => none
  | n + 1 => R_worstOf_p5b N (R_worstOf_p5 N r n) r
def R_worstOf (N : Nat) (r : St) (x1 : Int32) (x2 : Int32) : Option (Int32) :=
  R_worstOf_p5 N r N x1 x2 0 0
set_option maxHeartbeats 8000000 in
set_option maxRecDepth 100000 in
theorem t_R_worstOf_p80 (N d : Nat) (xs : List Int32) (c : St) (r : St) (kb5 : Int32 → Int32 → Int32 → Int32 → Option (Int32)) (hb5 : ∀ (x1 : Int32) (x2 : Int32) (x3 : Int32) (x4 : Int32), Ok (mBig (mRoL xs) (d)) (mRoL xs) 1 mK249 (fun p : Int32 => (some (.int p), HP c r)) (kb5 x1 x2 x3 x4) 5 [some (.ref 115), some (.int x1), some (.int x2), some (.int x3), some (.int x4), none, none] [] (HP c r)) (x1 : Int32) (x2 : Int32) (x4 : Int32) (s0 : Int32) : Ok (mBig (mRoL xs) (d)) (mRoL xs) 1 mK249 (fun p : Int32 => (some (.int p), HP c r)) (R_worstOf_p80 N kb5 r x1 x2 x4 s0) 80 [some (.ref 115), some (.int x1), some (.int x2), none, some (.int x4), none, none] [.int s0] (HP c r) := by
  unfold R_worstOf_p80
  refine Ok_blk 3 (pc2 := 5) (lo2 := [some (.ref 115), some (.int x1), some (.int x2), some (.int s0), some (.int (x4 + 1)), none, none]) (st2 := []) rfl ?_
  refine Ok_drop (lo0 := [some (.ref 115), some (.int x1), some (.int x2), some (.int s0), some (.int (x4 + 1)), none, none]) ⟨Or.inr rfl, Or.inr rfl, Or.inr rfl, Or.inr rfl, Or.inr rfl, Or.inl rfl, Or.inl rfl, trivial⟩ ?_
  exact hb5 x1 x2 s0 (x4 + 1)
set_option maxHeartbeats 8000000 in
set_option maxRecDepth 100000 in
theorem t_R_worstOf_p74 (N d : Nat) (xs : List Int32) (c : St) (r : St) (kb5 : Int32 → Int32 → Int32 → Int32 → Option (Int32)) (hb5 : ∀ (x1 : Int32) (x2 : Int32) (x3 : Int32) (x4 : Int32), Ok (mBig (mRoL xs) (d)) (mRoL xs) 1 mK249 (fun p : Int32 => (some (.int p), HP c r)) (kb5 x1 x2 x3 x4) 5 [some (.ref 115), some (.int x1), some (.int x2), some (.int x3), some (.int x4), none, none] [] (HP c r)) (x1 : Int32) (x2 : Int32) (x4 : Int32) (x5 : Int32) : Ok (mBig (mRoL xs) (d)) (mRoL xs) 1 mK249 (fun p : Int32 => (some (.int p), HP c r)) (R_worstOf_p74 N kb5 r x1 x2 x4 x5) 74 [some (.ref 115), some (.int x1), some (.int x2), none, some (.int x4), some (.int x5), none] [] (HP c r) := by
  unfold R_worstOf_p74
  refine Ok_blk 2 (pc2 := 80) (lo2 := [some (.ref 115), some (.int x1), some (.int x2), none, some (.int x4), some (.int x5), none]) (st2 := [.int x5]) rfl ?_
  refine Ok_drop (lo0 := [some (.ref 115), some (.int x1), some (.int x2), none, some (.int x4), none, none]) ⟨Or.inr rfl, Or.inr rfl, Or.inr rfl, Or.inl rfl, Or.inr rfl, Or.inl rfl, Or.inl rfl, trivial⟩ ?_
  exact t_R_worstOf_p80 N d xs c r kb5 hb5 x1 x2 x4 x5
set_option maxHeartbeats 8000000 in
set_option maxRecDepth 100000 in
theorem t_R_worstOf_p54 (N d : Nat) (xs : List Int32) (c : St) (r : St) (kb5 : Int32 → Int32 → Int32 → Int32 → Option (Int32)) (hb5 : ∀ (x1 : Int32) (x2 : Int32) (x3 : Int32) (x4 : Int32), Ok (mBig (mRoL xs) (d)) (mRoL xs) 1 mK249 (fun p : Int32 => (some (.int p), HP c r)) (kb5 x1 x2 x3 x4) 5 [some (.ref 115), some (.int x1), some (.int x2), some (.int x3), some (.int x4), none, none] [] (HP c r)) (kb17 : Int32 → Int32 → Int32 → Int32 → Int32 → Int32 → Option (Int32)) (hb17 : ∀ (x1 : Int32) (x2 : Int32) (x3 : Int32) (x4 : Int32) (x5 : Int32) (x6 : Int32), Ok (mBig (mRoL xs) (d)) (mRoL xs) 1 mK249 (fun p : Int32 => (some (.int p), HP c r)) (kb17 x1 x2 x3 x4 x5 x6) 17 [some (.ref 115), some (.int x1), some (.int x2), some (.int x3), some (.int x4), some (.int x5), some (.int x6)] [] (HP c r)) (x1 : Int32) (x2 : Int32) (x3 : Int32) (x4 : Int32) (x6 : Int32) (s0 : Int32) (s1 : Int32) : Ok (mBig (mRoL xs) (d)) (mRoL xs) 1 mK249 (fun p : Int32 => (some (.int p), HP c r)) (R_worstOf_p54 N kb5 kb17 r x1 x2 x3 x4 x6 s0 s1) 54 [some (.ref 115), some (.int x1), some (.int x2), some (.int x3), some (.int x4), none, some (.int x6)] [.int s1, .int s0] (HP c r) := by
  unfold R_worstOf_p54
  refine Ok_blk 4 (pc2 := 17) (lo2 := [some (.ref 115), some (.int x1), some (.int x2), some (.int x3), some (.int x4), some (.int (s0 + s1)), some (.int (x6 + 1))]) (st2 := []) rfl ?_
  refine Ok_drop (lo0 := [some (.ref 115), some (.int x1), some (.int x2), some (.int x3), some (.int x4), some (.int (s0 + s1)), some (.int (x6 + 1))]) ⟨Or.inr rfl, Or.inr rfl, Or.inr rfl, Or.inr rfl, Or.inr rfl, Or.inr rfl, Or.inr rfl, trivial⟩ ?_
  exact hb17 x1 x2 x3 x4 (s0 + s1) (x6 + 1)
set_option maxHeartbeats 8000000 in
set_option maxRecDepth 100000 in
theorem t_R_worstOf_p17b (N d : Nat) (xs : List Int32) (c : St) (r : St) (kb5 : Int32 → Int32 → Int32 → Int32 → Option (Int32)) (hb5 : ∀ (x1 : Int32) (x2 : Int32) (x3 : Int32) (x4 : Int32), Ok (mBig (mRoL xs) (d)) (mRoL xs) 1 mK249 (fun p : Int32 => (some (.int p), HP c r)) (kb5 x1 x2 x3 x4) 5 [some (.ref 115), some (.int x1), some (.int x2), some (.int x3), some (.int x4), none, none] [] (HP c r)) (kb17 : Int32 → Int32 → Int32 → Int32 → Int32 → Int32 → Option (Int32)) (hb17 : ∀ (x1 : Int32) (x2 : Int32) (x3 : Int32) (x4 : Int32) (x5 : Int32) (x6 : Int32), Ok (mBig (mRoL xs) (d)) (mRoL xs) 1 mK249 (fun p : Int32 => (some (.int p), HP c r)) (kb17 x1 x2 x3 x4 x5 x6) 17 [some (.ref 115), some (.int x1), some (.int x2), some (.int x3), some (.int x4), some (.int x5), some (.int x6)] [] (HP c r)) (x1 : Int32) (x2 : Int32) (x3 : Int32) (x4 : Int32) (x5 : Int32) (x6 : Int32) : Ok (mBig (mRoL xs) (d)) (mRoL xs) 1 mK249 (fun p : Int32 => (some (.int p), HP c r)) (R_worstOf_p17b N kb5 kb17 r x1 x2 x3 x4 x5 x6) 17 [some (.ref 115), some (.int x1), some (.int x2), some (.int x3), some (.int x4), some (.int x5), some (.int x6)] [] (HP c r) := by
  unfold R_worstOf_p17b
  refine Ok_blk 4 (pc2 := (if (gI r 26) ≤ x6 then 63 else 26)) (lo2 := [some (.ref 115), some (.int x1), some (.int x2), some (.int x3), some (.int x4), some (.int x5), some (.int x6)]) (st2 := []) rfl ?_
  refine Ok_if (fun h2 => ?_) (fun h2 => ?_)
  · refine Ok_blk 2 (pc2 := (if x4 = 0 then 74 else 68)) (lo2 := [some (.ref 115), some (.int x1), some (.int x2), some (.int x3), some (.int x4), some (.int x5), some (.int x6)]) (st2 := []) rfl ?_
    refine Ok_if (fun h3 => ?_) (fun h3 => ?_)
    · refine Ok_drop (lo0 := [some (.ref 115), some (.int x1), some (.int x2), none, some (.int x4), some (.int x5), none]) ⟨Or.inr rfl, Or.inr rfl, Or.inr rfl, Or.inl rfl, Or.inr rfl, Or.inr rfl, Or.inl rfl, trivial⟩ ?_
      exact t_R_worstOf_p74 N d xs c r kb5 hb5 x1 x2 x4 x5
    · refine Ok_blk 3 (pc2 := (if x3 ≤ x5 then 79 else 74)) (lo2 := [some (.ref 115), some (.int x1), some (.int x2), some (.int x3), some (.int x4), some (.int x5), some (.int x6)]) (st2 := []) rfl ?_
      refine Ok_if (fun h4 => ?_) (fun h4 => ?_)
      · refine Ok_blk 1 (pc2 := 80) (lo2 := [some (.ref 115), some (.int x1), some (.int x2), some (.int x3), some (.int x4), some (.int x5), some (.int x6)]) (st2 := [.int x3]) rfl ?_
        refine Ok_drop (lo0 := [some (.ref 115), some (.int x1), some (.int x2), none, some (.int x4), none, none]) ⟨Or.inr rfl, Or.inr rfl, Or.inr rfl, Or.inl rfl, Or.inr rfl, Or.inl rfl, Or.inl rfl, trivial⟩ ?_
        exact t_R_worstOf_p80 N d xs c r kb5 hb5 x1 x2 x4 x3
      · refine Ok_drop (lo0 := [some (.ref 115), some (.int x1), some (.int x2), none, some (.int x4), some (.int x5), none]) ⟨Or.inr rfl, Or.inr rfl, Or.inr rfl, Or.inl rfl, Or.inr rfl, Or.inr rfl, Or.inl rfl, trivial⟩ ?_
        exact t_R_worstOf_p74 N d xs c r kb5 hb5 x1 x2 x4 x5
  · refine Ok_blk 8 (pc2 := (if ¬ ((x1 >>> (x6 &&& 31)) &&& 1) = 1 then 53 else 38)) (lo2 := [some (.ref 115), some (.int x1), some (.int x2), some (.int x3), some (.int x4), some (.int x5), some (.int x6)]) (st2 := [.int x5]) rfl ?_
    refine Ok_if (fun h5 => ?_) (fun h5 => ?_)
    · refine Ok_blk 1 (pc2 := 54) (lo2 := [some (.ref 115), some (.int x1), some (.int x2), some (.int x3), some (.int x4), some (.int x5), some (.int x6)]) (st2 := [.int 0, .int x5]) rfl ?_
      refine Ok_drop (lo0 := [some (.ref 115), some (.int x1), some (.int x2), some (.int x3), some (.int x4), none, some (.int x6)]) ⟨Or.inr rfl, Or.inr rfl, Or.inr rfl, Or.inr rfl, Or.inr rfl, Or.inl rfl, Or.inr rfl, trivial⟩ ?_
      exact t_R_worstOf_p54 N d xs c r kb5 hb5 kb17 hb17 x1 x2 x3 x4 x6 x5 0
    · refine Ok_blk 7 (pc2 := 49) (lo2 := [some (.ref 115), some (.int x1), some (.int x2), some (.int x3), some (.int x4), some (.int x5), some (.int x6)]) (st2 := [.int ((5 * x6) + x4), .ref 144, .int x5]) rfl ?_
      refine Ok_ld (l := (gA r 28)) rfl rfl (fun y6 hy6 => ?_)
      refine Ok_blk 1 (pc2 := 54) (lo2 := [some (.ref 115), some (.int x1), some (.int x2), some (.int x3), some (.int x4), some (.int x5), some (.int x6)]) (st2 := [.int y6, .int x5]) rfl ?_
      refine Ok_drop (lo0 := [some (.ref 115), some (.int x1), some (.int x2), some (.int x3), some (.int x4), none, some (.int x6)]) ⟨Or.inr rfl, Or.inr rfl, Or.inr rfl, Or.inr rfl, Or.inr rfl, Or.inl rfl, Or.inr rfl, trivial⟩ ?_
      exact t_R_worstOf_p54 N d xs c r kb5 hb5 kb17 hb17 x1 x2 x3 x4 x6 x5 y6
set_option maxHeartbeats 8000000 in
set_option maxRecDepth 100000 in
theorem t_R_worstOf_p17 (N d : Nat) (xs : List Int32) (c : St) (r : St) (kb5 : Int32 → Int32 → Int32 → Int32 → Option (Int32)) (hb5 : ∀ (x1 : Int32) (x2 : Int32) (x3 : Int32) (x4 : Int32), Ok (mBig (mRoL xs) (d)) (mRoL xs) 1 mK249 (fun p : Int32 => (some (.int p), HP c r)) (kb5 x1 x2 x3 x4) 5 [some (.ref 115), some (.int x1), some (.int x2), some (.int x3), some (.int x4), none, none] [] (HP c r)) : ∀ (n : Nat) (x1 : Int32) (x2 : Int32) (x3 : Int32) (x4 : Int32) (x5 : Int32) (x6 : Int32), Ok (mBig (mRoL xs) (d)) (mRoL xs) 1 mK249 (fun p : Int32 => (some (.int p), HP c r)) (R_worstOf_p17 N kb5 r n x1 x2 x3 x4 x5 x6) 17 [some (.ref 115), some (.int x1), some (.int x2), some (.int x3), some (.int x4), some (.int x5), some (.int x6)] [] (HP c r) := by
  intro n
  induction n with
  | zero => intro x1 x2 x3 x4 x5 x6; exact Ok_none
  | succ n ih => intro x1 x2 x3 x4 x5 x6; exact t_R_worstOf_p17b N d xs c r kb5 hb5 (R_worstOf_p17 N kb5 r n) ih x1 x2 x3 x4 x5 x6
set_option maxHeartbeats 8000000 in
set_option maxRecDepth 100000 in
theorem t_R_worstOf_p5b (N d : Nat) (xs : List Int32) (c : St) (r : St) (kb5 : Int32 → Int32 → Int32 → Int32 → Option (Int32)) (hb5 : ∀ (x1 : Int32) (x2 : Int32) (x3 : Int32) (x4 : Int32), Ok (mBig (mRoL xs) (d)) (mRoL xs) 1 mK249 (fun p : Int32 => (some (.int p), HP c r)) (kb5 x1 x2 x3 x4) 5 [some (.ref 115), some (.int x1), some (.int x2), some (.int x3), some (.int x4), none, none] [] (HP c r)) (x1 : Int32) (x2 : Int32) (x3 : Int32) (x4 : Int32) : Ok (mBig (mRoL xs) (d)) (mRoL xs) 1 mK249 (fun p : Int32 => (some (.int p), HP c r)) (R_worstOf_p5b N kb5 r x1 x2 x3 x4) 5 [some (.ref 115), some (.int x1), some (.int x2), some (.int x3), some (.int x4), none, none] [] (HP c r) := by
  unfold R_worstOf_p5b
  refine Ok_blk 3 (pc2 := (if x2 ≤ x4 then 87 else 11)) (lo2 := [some (.ref 115), some (.int x1), some (.int x2), some (.int x3), some (.int x4), none, none]) (st2 := []) rfl ?_
  refine Ok_if (fun h1 => ?_) (fun h1 => ?_)
  · refine Ok_blk 1 (pc2 := 88) (lo2 := [some (.ref 115), some (.int x1), some (.int x2), some (.int x3), some (.int x4), none, none]) (st2 := [.int x3]) rfl ?_
    exact Ok_ret rfl rfl rfl
  · refine Ok_blk 4 (pc2 := 17) (lo2 := [some (.ref 115), some (.int x1), some (.int x2), some (.int x3), some (.int x4), some (.int 0), some (.int 0)]) (st2 := []) rfl ?_
    refine Ok_drop (lo0 := [some (.ref 115), some (.int x1), some (.int x2), some (.int x3), some (.int x4), some (.int 0), some (.int 0)]) ⟨Or.inr rfl, Or.inr rfl, Or.inr rfl, Or.inr rfl, Or.inr rfl, Or.inr rfl, Or.inr rfl, trivial⟩ ?_
    exact t_R_worstOf_p17 N d xs c r kb5 hb5 N x1 x2 x3 x4 0 0
set_option maxHeartbeats 8000000 in
set_option maxRecDepth 100000 in
theorem t_R_worstOf_p5 (N d : Nat) (xs : List Int32) (c : St) (r : St) : ∀ (n : Nat) (x1 : Int32) (x2 : Int32) (x3 : Int32) (x4 : Int32), Ok (mBig (mRoL xs) (d)) (mRoL xs) 1 mK249 (fun p : Int32 => (some (.int p), HP c r)) (R_worstOf_p5 N r n x1 x2 x3 x4) 5 [some (.ref 115), some (.int x1), some (.int x2), some (.int x3), some (.int x4), none, none] [] (HP c r) := by
  intro n
  induction n with
  | zero => intro x1 x2 x3 x4; exact Ok_none
  | succ n ih => intro x1 x2 x3 x4; exact t_R_worstOf_p5b N d xs c r (R_worstOf_p5 N r n) ih x1 x2 x3 x4
set_option maxHeartbeats 8000000 in
set_option maxRecDepth 100000 in
theorem t_R_worstOf (N d : Nat) (xs : List Int32) (c : St) (r : St) (x1 : Int32) (x2 : Int32) : Ok (mBig (mRoL xs) (d)) (mRoL xs) 1 mK249 (fun p : Int32 => (some (.int p), HP c r)) (R_worstOf N r x1 x2) 0 [some (.ref 115), some (.int x1), some (.int x2), none, none, none, none] [] (HP c r) := by
  unfold R_worstOf
  refine Ok_blk 4 (pc2 := 5) (lo2 := [some (.ref 115), some (.int x1), some (.int x2), some (.int 0), some (.int 0), none, none]) (st2 := []) rfl ?_
  refine Ok_drop (lo0 := [some (.ref 115), some (.int x1), some (.int x2), some (.int 0), some (.int 0), none, none]) ⟨Or.inr rfl, Or.inr rfl, Or.inr rfl, Or.inr rfl, Or.inr rfl, Or.inl rfl, Or.inl rfl, trivial⟩ ?_
  exact t_R_worstOf_p5 N d xs c r N x1 x2 0 0
set_option maxHeartbeats 8000000 in
set_option maxRecDepth 100000 in
theorem tm_R_worstOf (N d : Nat) (xs : List Int32) (c r : St) (a1 : Int32) (a2 : Int32) (p : Int32) (hp : R_worstOf N r a1 a2 = some p) : mBig (mRoL xs) (d + 1) 249 [.ref 115, .int a1, .int a2] (HP c r) (some (.int p)) (HP c r) 0 0 := mBig_of (by decide) rfl rfl rfl rfl (t_R_worstOf N d xs c r a1 a2 p hp)
/-! ColdHoldsModel.costOf(I)I, from (('r', 115), 'i') -/
def R_costOf_p32 (N : Nat) (kb4 : Int32 → Int32 → Int32 → Option (Int32)) (r : St) (x1 : Int32) (x3 : Int32) (s0 : Int32) (s1 : Int32) : Option (Int32) :=
  kb4 x1 (s0 + s1) (x3 + 1)
def R_costOf_p4b (N : Nat) (kb4 : Int32 → Int32 → Int32 → Option (Int32)) (r : St) (x1 : Int32) (x2 : Int32) (x3 : Int32) : Option (Int32) :=
  (if (gI r 26) ≤ x3 then some x2 else (if ¬ ((x1 >>> (x3 &&& 31)) &&& 1) = 1 then R_costOf_p32 N kb4 r x1 x3 x2 0 else (ld (gA r 27) x3).bind fun y3 => R_costOf_p32 N kb4 r x1 x3 x2 y3))
def R_costOf_p4 (N : Nat) (r : St) : Nat → Int32 → Int32 → Int32 → Option (Int32)
  | 0 => fun _ _ _ => none
  | n + 1 => R_costOf_p4b N (R_costOf_p4 N r n) r
def R_costOf (N : Nat) (r : St) (x1 : Int32) : Option (Int32) :=
  R_costOf_p4 N r N x1 0 0
set_option maxHeartbeats 8000000 in
set_option maxRecDepth 100000 in
theorem t_R_costOf_p32 (N d : Nat) (xs : List Int32) (c : St) (r : St) (kb4 : Int32 → Int32 → Int32 → Option (Int32)) (hb4 : ∀ (x1 : Int32) (x2 : Int32) (x3 : Int32), Ok (mBig (mRoL xs) (d)) (mRoL xs) 1 mK250 (fun p : Int32 => (some (.int p), HP c r)) (kb4 x1 x2 x3) 4 [some (.ref 115), some (.int x1), some (.int x2), some (.int x3)] [] (HP c r)) (x1 : Int32) (x3 : Int32) (s0 : Int32) (s1 : Int32) : Ok (mBig (mRoL xs) (d)) (mRoL xs) 1 mK250 (fun p : Int32 => (some (.int p), HP c r)) (R_costOf_p32 N kb4 r x1 x3 s0 s1) 32 [some (.ref 115), some (.int x1), none, some (.int x3)] [.int s1, .int s0] (HP c r) := by
  unfold R_costOf_p32
  refine Ok_blk 4 (pc2 := 4) (lo2 := [some (.ref 115), some (.int x1), some (.int (s0 + s1)), some (.int (x3 + 1))]) (st2 := []) rfl ?_
  refine Ok_drop (lo0 := [some (.ref 115), some (.int x1), some (.int (s0 + s1)), some (.int (x3 + 1))]) ⟨Or.inr rfl, Or.inr rfl, Or.inr rfl, Or.inr rfl, trivial⟩ ?_
  exact hb4 x1 (s0 + s1) (x3 + 1)
set_option maxHeartbeats 8000000 in
set_option maxRecDepth 100000 in
theorem t_R_costOf_p4b (N d : Nat) (xs : List Int32) (c : St) (r : St) (kb4 : Int32 → Int32 → Int32 → Option (Int32)) (hb4 : ∀ (x1 : Int32) (x2 : Int32) (x3 : Int32), Ok (mBig (mRoL xs) (d)) (mRoL xs) 1 mK250 (fun p : Int32 => (some (.int p), HP c r)) (kb4 x1 x2 x3) 4 [some (.ref 115), some (.int x1), some (.int x2), some (.int x3)] [] (HP c r)) (x1 : Int32) (x2 : Int32) (x3 : Int32) : Ok (mBig (mRoL xs) (d)) (mRoL xs) 1 mK250 (fun p : Int32 => (some (.int p), HP c r)) (R_costOf_p4b N kb4 r x1 x2 x3) 4 [some (.ref 115), some (.int x1), some (.int x2), some (.int x3)] [] (HP c r) := by
  unfold R_costOf_p4b
  refine Ok_blk 4 (pc2 := (if (gI r 26) ≤ x3 then 40 else 12)) (lo2 := [some (.ref 115), some (.int x1), some (.int x2), some (.int x3)]) (st2 := []) rfl ?_
  refine Ok_if (fun h1 => ?_) (fun h1 => ?_)
  · refine Ok_blk 1 (pc2 := 41) (lo2 := [some (.ref 115), some (.int x1), some (.int x2), some (.int x3)]) (st2 := [.int x2]) rfl ?_
    exact Ok_ret rfl rfl rfl
  · refine Ok_blk 8 (pc2 := (if ¬ ((x1 >>> (x3 &&& 31)) &&& 1) = 1 then 31 else 22)) (lo2 := [some (.ref 115), some (.int x1), some (.int x2), some (.int x3)]) (st2 := [.int x2]) rfl ?_
    refine Ok_if (fun h2 => ?_) (fun h2 => ?_)
    · refine Ok_blk 1 (pc2 := 32) (lo2 := [some (.ref 115), some (.int x1), some (.int x2), some (.int x3)]) (st2 := [.int 0, .int x2]) rfl ?_
      refine Ok_drop (lo0 := [some (.ref 115), some (.int x1), none, some (.int x3)]) ⟨Or.inr rfl, Or.inr rfl, Or.inl rfl, Or.inr rfl, trivial⟩ ?_
      exact t_R_costOf_p32 N d xs c r kb4 hb4 x1 x3 x2 0
    · refine Ok_blk 3 (pc2 := 27) (lo2 := [some (.ref 115), some (.int x1), some (.int x2), some (.int x3)]) (st2 := [.int x3, .ref 143, .int x2]) rfl ?_
      refine Ok_ld (l := (gA r 27)) rfl rfl (fun y3 hy3 => ?_)
      refine Ok_blk 1 (pc2 := 32) (lo2 := [some (.ref 115), some (.int x1), some (.int x2), some (.int x3)]) (st2 := [.int y3, .int x2]) rfl ?_
      refine Ok_drop (lo0 := [some (.ref 115), some (.int x1), none, some (.int x3)]) ⟨Or.inr rfl, Or.inr rfl, Or.inl rfl, Or.inr rfl, trivial⟩ ?_
      exact t_R_costOf_p32 N d xs c r kb4 hb4 x1 x3 x2 y3
set_option maxHeartbeats 8000000 in
set_option maxRecDepth 100000 in
theorem t_R_costOf_p4 (N d : Nat) (xs : List Int32) (c : St) (r : St) : ∀ (n : Nat) (x1 : Int32) (x2 : Int32) (x3 : Int32), Ok (mBig (mRoL xs) (d)) (mRoL xs) 1 mK250 (fun p : Int32 => (some (.int p), HP c r)) (R_costOf_p4 N r n x1 x2 x3) 4 [some (.ref 115), some (.int x1), some (.int x2), some (.int x3)] [] (HP c r) := by
  intro n
  induction n with
  | zero => intro x1 x2 x3; exact Ok_none
  | succ n ih => intro x1 x2 x3; exact t_R_costOf_p4b N d xs c r (R_costOf_p4 N r n) ih x1 x2 x3
set_option maxHeartbeats 8000000 in
set_option maxRecDepth 100000 in
theorem t_R_costOf (N d : Nat) (xs : List Int32) (c : St) (r : St) (x1 : Int32) : Ok (mBig (mRoL xs) (d)) (mRoL xs) 1 mK250 (fun p : Int32 => (some (.int p), HP c r)) (R_costOf N r x1) 0 [some (.ref 115), some (.int x1), none, none] [] (HP c r) := by
  unfold R_costOf
  refine Ok_blk 4 (pc2 := 4) (lo2 := [some (.ref 115), some (.int x1), some (.int 0), some (.int 0)]) (st2 := []) rfl ?_
  refine Ok_drop (lo0 := [some (.ref 115), some (.int x1), some (.int 0), some (.int 0)]) ⟨Or.inr rfl, Or.inr rfl, Or.inr rfl, Or.inr rfl, trivial⟩ ?_
  exact t_R_costOf_p4 N d xs c r N x1 0 0
set_option maxHeartbeats 8000000 in
set_option maxRecDepth 100000 in
theorem tm_R_costOf (N d : Nat) (xs : List Int32) (c r : St) (a1 : Int32) (p : Int32) (hp : R_costOf N r a1 = some p) : mBig (mRoL xs) (d + 1) 250 [.ref 115, .int a1] (HP c r) (some (.int p)) (HP c r) 0 0 := mBig_of (by decide) rfl rfl rfl rfl (t_R_costOf N d xs c r a1 p hp)
/-! ColdHoldsModel.plan(III)I, from (('r', 115), 'i', 'i', 'i') -/
def R_plan_p29 (N : Nat) (r : St) : Option (Int32) :=
  some (-10002)
def R_plan_p111 (N : Nat) (kb39 : Int32 → Int32 → Int32 → Int32 → Int32 → Option (Int32)) (r : St) (x1 : Int32) (x2 : Int32) (x3 : Int32) (x4 : Int32) (x5 : Int32) : Option (Int32) :=
  kb39 x1 x2 x3 x4 (x5 + 1)
def R_plan_p109 (N : Nat) (kb39 : Int32 → Int32 → Int32 → Int32 → Int32 → Option (Int32)) (r : St) (x1 : Int32) (x2 : Int32) (x3 : Int32) (x5 : Int32) (s0 : Int32) : Option (Int32) :=
  R_plan_p111 N kb39 r x1 x2 x3 s0 x5
def R_plan_p102 (N : Nat) (kb39 : Int32 → Int32 → Int32 → Int32 → Int32 → Option (Int32)) (r : St) (x1 : Int32) (x2 : Int32) (x3 : Int32) (x5 : Int32) : Option (Int32) :=
  R_plan_p109 N kb39 r x1 x2 x3 x5 x5
def R_plan_p107 (N : Nat) (kb39 : Int32 → Int32 → Int32 → Int32 → Int32 → Option (Int32)) (r : St) (x1 : Int32) (x2 : Int32) (x3 : Int32) (x4 : Int32) (x5 : Int32) : Option (Int32) :=
  R_plan_p109 N kb39 r x1 x2 x3 x5 x4
def R_plan_p39b (N : Nat) (kb39 : Int32 → Int32 → Int32 → Int32 → Int32 → Option (Int32)) (r : St) (x1 : Int32) (x2 : Int32) (x3 : Int32) (x4 : Int32) (x5 : Int32) : Option (Int32) :=
  (if (1 <<< ((gI r 26) &&& 31)) ≤ x5 then (if ¬ x3 = 0 then (if ¬ x3 = 1 then (R_costOf N r x4).bind fun p10 => some p10 else (R_worstOf N r x4 x2).bind fun p11 => some p11) else some x4) else (R_costOf N r x5).bind fun p12 => (if x1 < p12 then R_plan_p111 N kb39 r x1 x2 x3 x4 x5 else (R_worstOf N r x5 x2).bind fun p14 => (R_worstOf N r x4 x2).bind fun p15 => (if 0 < (p14 - p15) then R_plan_p102 N kb39 r x1 x2 x3 x5 else (if ¬ (p14 - p15) = 0 then R_plan_p107 N kb39 r x1 x2 x3 x4 x5 else (R_costOf N r x5).bind fun p18 => (R_costOf N r x4).bind fun p19 => (if p19 ≤ p18 then R_plan_p107 N kb39 r x1 x2 x3 x4 x5 else R_plan_p102 N kb39 r x1 x2 x3 x5)))))
def R_plan_p39 (N : Nat) (r : St) : Nat → Int32 → Int32 → Int32 → Int32 → Int32 → Option (Int32)
  | 0 => fun _ _ _ _ _ => none
  | n + 1 => R_plan_p39b N (R_plan_p39 N r n) r
def R_plan (N : Nat) (r : St) (x1 : Int32) (x2 : Int32) (x3 : Int32) : Option (Int32) :=
  (R_in N x1 0 99999).bind fun p1 => (if p1 = 0 then R_plan_p29 N r else (R_in N x2 1 5).bind fun p3 => (if p3 = 0 then R_plan_p29 N r else (R_in N x3 0 2).bind fun p5 => (if ¬ p5 = 0 then R_plan_p39 N r N x1 x2 x3 0 1 else R_plan_p29 N r)))
set_option maxHeartbeats 8000000 in
set_option maxRecDepth 100000 in
theorem t_R_plan_p29 (N d : Nat) (xs : List Int32) (c : St) (r : St) : Ok (mBig (mRoL xs) (d + 1)) (mRoL xs) 1 mK251 (fun p : Int32 => (some (.int p), HP c r)) (R_plan_p29 N r) 29 [none, none, none, none, none, none, none] [] (HP c r) := by
  unfold R_plan_p29
  refine Ok_blk 1 (pc2 := 32) (lo2 := [none, none, none, none, none, none, none]) (st2 := [.int (-10002)]) rfl ?_
  exact Ok_ret rfl rfl rfl
set_option maxHeartbeats 8000000 in
set_option maxRecDepth 100000 in
theorem t_R_plan_p111 (N d : Nat) (xs : List Int32) (c : St) (r : St) (kb39 : Int32 → Int32 → Int32 → Int32 → Int32 → Option (Int32)) (hb39 : ∀ (x1 : Int32) (x2 : Int32) (x3 : Int32) (x4 : Int32) (x5 : Int32), Ok (mBig (mRoL xs) (d + 1)) (mRoL xs) 1 mK251 (fun p : Int32 => (some (.int p), HP c r)) (kb39 x1 x2 x3 x4 x5) 39 [some (.ref 115), some (.int x1), some (.int x2), some (.int x3), some (.int x4), some (.int x5), none] [] (HP c r)) (x1 : Int32) (x2 : Int32) (x3 : Int32) (x4 : Int32) (x5 : Int32) : Ok (mBig (mRoL xs) (d + 1)) (mRoL xs) 1 mK251 (fun p : Int32 => (some (.int p), HP c r)) (R_plan_p111 N kb39 r x1 x2 x3 x4 x5) 111 [some (.ref 115), some (.int x1), some (.int x2), some (.int x3), some (.int x4), some (.int x5), none] [] (HP c r) := by
  unfold R_plan_p111
  refine Ok_blk 2 (pc2 := 39) (lo2 := [some (.ref 115), some (.int x1), some (.int x2), some (.int x3), some (.int x4), some (.int (x5 + 1)), none]) (st2 := []) rfl ?_
  refine Ok_drop (lo0 := [some (.ref 115), some (.int x1), some (.int x2), some (.int x3), some (.int x4), some (.int (x5 + 1)), none]) ⟨Or.inr rfl, Or.inr rfl, Or.inr rfl, Or.inr rfl, Or.inr rfl, Or.inr rfl, Or.inl rfl, trivial⟩ ?_
  exact hb39 x1 x2 x3 x4 (x5 + 1)
set_option maxHeartbeats 8000000 in
set_option maxRecDepth 100000 in
theorem t_R_plan_p109 (N d : Nat) (xs : List Int32) (c : St) (r : St) (kb39 : Int32 → Int32 → Int32 → Int32 → Int32 → Option (Int32)) (hb39 : ∀ (x1 : Int32) (x2 : Int32) (x3 : Int32) (x4 : Int32) (x5 : Int32), Ok (mBig (mRoL xs) (d + 1)) (mRoL xs) 1 mK251 (fun p : Int32 => (some (.int p), HP c r)) (kb39 x1 x2 x3 x4 x5) 39 [some (.ref 115), some (.int x1), some (.int x2), some (.int x3), some (.int x4), some (.int x5), none] [] (HP c r)) (x1 : Int32) (x2 : Int32) (x3 : Int32) (x5 : Int32) (s0 : Int32) : Ok (mBig (mRoL xs) (d + 1)) (mRoL xs) 1 mK251 (fun p : Int32 => (some (.int p), HP c r)) (R_plan_p109 N kb39 r x1 x2 x3 x5 s0) 109 [some (.ref 115), some (.int x1), some (.int x2), some (.int x3), none, some (.int x5), none] [.int s0] (HP c r) := by
  unfold R_plan_p109
  refine Ok_blk 1 (pc2 := 111) (lo2 := [some (.ref 115), some (.int x1), some (.int x2), some (.int x3), some (.int s0), some (.int x5), none]) (st2 := []) rfl ?_
  refine Ok_drop (lo0 := [some (.ref 115), some (.int x1), some (.int x2), some (.int x3), some (.int s0), some (.int x5), none]) ⟨Or.inr rfl, Or.inr rfl, Or.inr rfl, Or.inr rfl, Or.inr rfl, Or.inr rfl, Or.inl rfl, trivial⟩ ?_
  exact t_R_plan_p111 N d xs c r kb39 hb39 x1 x2 x3 s0 x5
set_option maxHeartbeats 8000000 in
set_option maxRecDepth 100000 in
theorem t_R_plan_p102 (N d : Nat) (xs : List Int32) (c : St) (r : St) (kb39 : Int32 → Int32 → Int32 → Int32 → Int32 → Option (Int32)) (hb39 : ∀ (x1 : Int32) (x2 : Int32) (x3 : Int32) (x4 : Int32) (x5 : Int32), Ok (mBig (mRoL xs) (d + 1)) (mRoL xs) 1 mK251 (fun p : Int32 => (some (.int p), HP c r)) (kb39 x1 x2 x3 x4 x5) 39 [some (.ref 115), some (.int x1), some (.int x2), some (.int x3), some (.int x4), some (.int x5), none] [] (HP c r)) (x1 : Int32) (x2 : Int32) (x3 : Int32) (x5 : Int32) : Ok (mBig (mRoL xs) (d + 1)) (mRoL xs) 1 mK251 (fun p : Int32 => (some (.int p), HP c r)) (R_plan_p102 N kb39 r x1 x2 x3 x5) 102 [some (.ref 115), some (.int x1), some (.int x2), some (.int x3), none, some (.int x5), none] [] (HP c r) := by
  unfold R_plan_p102
  refine Ok_blk 2 (pc2 := 109) (lo2 := [some (.ref 115), some (.int x1), some (.int x2), some (.int x3), none, some (.int x5), none]) (st2 := [.int x5]) rfl ?_
  refine Ok_drop (lo0 := [some (.ref 115), some (.int x1), some (.int x2), some (.int x3), none, some (.int x5), none]) ⟨Or.inr rfl, Or.inr rfl, Or.inr rfl, Or.inr rfl, Or.inl rfl, Or.inr rfl, Or.inl rfl, trivial⟩ ?_
  exact t_R_plan_p109 N d xs c r kb39 hb39 x1 x2 x3 x5 x5
set_option maxHeartbeats 8000000 in
set_option maxRecDepth 100000 in
theorem t_R_plan_p107 (N d : Nat) (xs : List Int32) (c : St) (r : St) (kb39 : Int32 → Int32 → Int32 → Int32 → Int32 → Option (Int32)) (hb39 : ∀ (x1 : Int32) (x2 : Int32) (x3 : Int32) (x4 : Int32) (x5 : Int32), Ok (mBig (mRoL xs) (d + 1)) (mRoL xs) 1 mK251 (fun p : Int32 => (some (.int p), HP c r)) (kb39 x1 x2 x3 x4 x5) 39 [some (.ref 115), some (.int x1), some (.int x2), some (.int x3), some (.int x4), some (.int x5), none] [] (HP c r)) (x1 : Int32) (x2 : Int32) (x3 : Int32) (x4 : Int32) (x5 : Int32) : Ok (mBig (mRoL xs) (d + 1)) (mRoL xs) 1 mK251 (fun p : Int32 => (some (.int p), HP c r)) (R_plan_p107 N kb39 r x1 x2 x3 x4 x5) 107 [some (.ref 115), some (.int x1), some (.int x2), some (.int x3), some (.int x4), some (.int x5), none] [] (HP c r) := by
  unfold R_plan_p107
  refine Ok_blk 1 (pc2 := 109) (lo2 := [some (.ref 115), some (.int x1), some (.int x2), some (.int x3), some (.int x4), some (.int x5), none]) (st2 := [.int x4]) rfl ?_
  refine Ok_drop (lo0 := [some (.ref 115), some (.int x1), some (.int x2), some (.int x3), none, some (.int x5), none]) ⟨Or.inr rfl, Or.inr rfl, Or.inr rfl, Or.inr rfl, Or.inl rfl, Or.inr rfl, Or.inl rfl, trivial⟩ ?_
  exact t_R_plan_p109 N d xs c r kb39 hb39 x1 x2 x3 x5 x4
set_option maxHeartbeats 8000000 in
set_option maxRecDepth 100000 in
theorem t_R_plan_p39b (N d : Nat) (xs : List Int32) (c : St) (r : St) (kb39 : Int32 → Int32 → Int32 → Int32 → Int32 → Option (Int32)) (hb39 : ∀ (x1 : Int32) (x2 : Int32) (x3 : Int32) (x4 : Int32) (x5 : Int32), Ok (mBig (mRoL xs) (d + 1)) (mRoL xs) 1 mK251 (fun p : Int32 => (some (.int p), HP c r)) (kb39 x1 x2 x3 x4 x5) 39 [some (.ref 115), some (.int x1), some (.int x2), some (.int x3), some (.int x4), some (.int x5), none] [] (HP c r)) (x1 : Int32) (x2 : Int32) (x3 : Int32) (x4 : Int32) (x5 : Int32) : Ok (mBig (mRoL xs) (d + 1)) (mRoL xs) 1 mK251 (fun p : Int32 => (some (.int p), HP c r)) (R_plan_p39b N kb39 r x1 x2 x3 x4 x5) 39 [some (.ref 115), some (.int x1), some (.int x2), some (.int x3), some (.int x4), some (.int x5), none] [] (HP c r) := by
  unfold R_plan_p39b
  refine Ok_blk 6 (pc2 := (if (1 <<< ((gI r 26) &&& 31)) ≤ x5 then 117 else 50)) (lo2 := [some (.ref 115), some (.int x1), some (.int x2), some (.int x3), some (.int x4), some (.int x5), none]) (st2 := []) rfl ?_
  refine Ok_if (fun h7 => ?_) (fun h7 => ?_)
  · refine Ok_blk 2 (pc2 := (if ¬ x3 = 0 then 126 else 121)) (lo2 := [some (.ref 115), some (.int x1), some (.int x2), some (.int x3), some (.int x4), some (.int x5), none]) (st2 := []) rfl ?_
    refine Ok_if (fun h8 => ?_) (fun h8 => ?_)
    · refine Ok_blk 3 (pc2 := (if ¬ x3 = 1 then 141 else 131)) (lo2 := [some (.ref 115), some (.int x1), some (.int x2), some (.int x3), some (.int x4), some (.int x5), none]) (st2 := []) rfl ?_
      refine Ok_if (fun h9 => ?_) (fun h9 => ?_)
      · refine Ok_blk 2 (pc2 := 144) (lo2 := [some (.ref 115), some (.int x1), some (.int x2), some (.int x3), some (.int x4), some (.int x5), none]) (st2 := [.int x4, .ref 115]) rfl ?_
        refine Ok_call (y := 250) (as := [.ref 115, .int x4]) (rest := []) (w := fun p10 => some (.int p10)) (h1 := fun p10 => HP c r) rfl rfl (fun x hx => tm_R_costOf N d xs c r x4 x hx) (fun p10 hp10 => ?_)
        exact Ok_ret rfl rfl rfl
      · refine Ok_blk 3 (pc2 := 135) (lo2 := [some (.ref 115), some (.int x1), some (.int x2), some (.int x3), some (.int x4), some (.int x5), none]) (st2 := [.int x2, .int x4, .ref 115]) rfl ?_
        refine Ok_call (y := 249) (as := [.ref 115, .int x4, .int x2]) (rest := []) (w := fun p11 => some (.int p11)) (h1 := fun p11 => HP c r) rfl rfl (fun x hx => tm_R_worstOf N d xs c r x4 x2 x hx) (fun p11 hp11 => ?_)
        refine Ok_blk 1 (pc2 := 147) (lo2 := [some (.ref 115), some (.int x1), some (.int x2), some (.int x3), some (.int x4), some (.int x5), none]) (st2 := [.int p11]) rfl ?_
        exact Ok_ret rfl rfl rfl
    · refine Ok_blk 2 (pc2 := 147) (lo2 := [some (.ref 115), some (.int x1), some (.int x2), some (.int x3), some (.int x4), some (.int x5), none]) (st2 := [.int x4]) rfl ?_
      exact Ok_ret rfl rfl rfl
  · refine Ok_blk 2 (pc2 := 53) (lo2 := [some (.ref 115), some (.int x1), some (.int x2), some (.int x3), some (.int x4), some (.int x5), none]) (st2 := [.int x5, .ref 115]) rfl ?_
    refine Ok_call (y := 250) (as := [.ref 115, .int x5]) (rest := []) (w := fun p12 => some (.int p12)) (h1 := fun p12 => HP c r) rfl rfl (fun x hx => tm_R_costOf N d xs c r x5 x hx) (fun p12 hp12 => ?_)
    refine Ok_blk 2 (pc2 := (if x1 < p12 then 111 else 60)) (lo2 := [some (.ref 115), some (.int x1), some (.int x2), some (.int x3), some (.int x4), some (.int x5), none]) (st2 := []) rfl ?_
    refine Ok_if (fun h13 => ?_) (fun h13 => ?_)
    · refine Ok_drop (lo0 := [some (.ref 115), some (.int x1), some (.int x2), some (.int x3), some (.int x4), some (.int x5), none]) ⟨Or.inr rfl, Or.inr rfl, Or.inr rfl, Or.inr rfl, Or.inr rfl, Or.inr rfl, Or.inl rfl, trivial⟩ ?_
      exact t_R_plan_p111 N d xs c r kb39 hb39 x1 x2 x3 x4 x5
    · refine Ok_blk 3 (pc2 := 64) (lo2 := [some (.ref 115), some (.int x1), some (.int x2), some (.int x3), some (.int x4), some (.int x5), none]) (st2 := [.int x2, .int x5, .ref 115]) rfl ?_
      refine Ok_call (y := 249) (as := [.ref 115, .int x5, .int x2]) (rest := []) (w := fun p14 => some (.int p14)) (h1 := fun p14 => HP c r) rfl rfl (fun x hx => tm_R_worstOf N d xs c r x5 x2 x hx) (fun p14 hp14 => ?_)
      refine Ok_blk 3 (pc2 := 71) (lo2 := [some (.ref 115), some (.int x1), some (.int x2), some (.int x3), some (.int x4), some (.int x5), none]) (st2 := [.int x2, .int x4, .ref 115, .int p14]) rfl ?_
      refine Ok_call (y := 249) (as := [.ref 115, .int x4, .int x2]) (rest := [.int p14]) (w := fun p15 => some (.int p15)) (h1 := fun p15 => HP c r) rfl rfl (fun x hx => tm_R_worstOf N d xs c r x4 x2 x hx) (fun p15 hp15 => ?_)
      refine Ok_blk 4 (pc2 := (if 0 < (p14 - p15) then 102 else 82)) (lo2 := [some (.ref 115), some (.int x1), some (.int x2), some (.int x3), some (.int x4), some (.int x5), some (.int (p14 - p15))]) (st2 := []) rfl ?_
      refine Ok_if (fun h16 => ?_) (fun h16 => ?_)
      · refine Ok_drop (lo0 := [some (.ref 115), some (.int x1), some (.int x2), some (.int x3), none, some (.int x5), none]) ⟨Or.inr rfl, Or.inr rfl, Or.inr rfl, Or.inr rfl, Or.inl rfl, Or.inr rfl, Or.inl rfl, trivial⟩ ?_
        exact t_R_plan_p102 N d xs c r kb39 hb39 x1 x2 x3 x5
      · refine Ok_blk 2 (pc2 := (if ¬ (p14 - p15) = 0 then 107 else 87)) (lo2 := [some (.ref 115), some (.int x1), some (.int x2), some (.int x3), some (.int x4), some (.int x5), some (.int (p14 - p15))]) (st2 := []) rfl ?_
        refine Ok_if (fun h17 => ?_) (fun h17 => ?_)
        · refine Ok_drop (lo0 := [some (.ref 115), some (.int x1), some (.int x2), some (.int x3), some (.int x4), some (.int x5), none]) ⟨Or.inr rfl, Or.inr rfl, Or.inr rfl, Or.inr rfl, Or.inr rfl, Or.inr rfl, Or.inl rfl, trivial⟩ ?_
          exact t_R_plan_p107 N d xs c r kb39 hb39 x1 x2 x3 x4 x5
        · refine Ok_blk 2 (pc2 := 90) (lo2 := [some (.ref 115), some (.int x1), some (.int x2), some (.int x3), some (.int x4), some (.int x5), some (.int (p14 - p15))]) (st2 := [.int x5, .ref 115]) rfl ?_
          refine Ok_call (y := 250) (as := [.ref 115, .int x5]) (rest := []) (w := fun p18 => some (.int p18)) (h1 := fun p18 => HP c r) rfl rfl (fun x hx => tm_R_costOf N d xs c r x5 x hx) (fun p18 hp18 => ?_)
          refine Ok_blk 2 (pc2 := 96) (lo2 := [some (.ref 115), some (.int x1), some (.int x2), some (.int x3), some (.int x4), some (.int x5), some (.int (p14 - p15))]) (st2 := [.int x4, .ref 115, .int p18]) rfl ?_
          refine Ok_call (y := 250) (as := [.ref 115, .int x4]) (rest := [.int p18]) (w := fun p19 => some (.int p19)) (h1 := fun p19 => HP c r) rfl rfl (fun x hx => tm_R_costOf N d xs c r x4 x hx) (fun p19 hp19 => ?_)
          refine Ok_blk 1 (pc2 := (if p19 ≤ p18 then 107 else 102)) (lo2 := [some (.ref 115), some (.int x1), some (.int x2), some (.int x3), some (.int x4), some (.int x5), some (.int (p14 - p15))]) (st2 := []) rfl ?_
          refine Ok_if (fun h20 => ?_) (fun h20 => ?_)
          · refine Ok_drop (lo0 := [some (.ref 115), some (.int x1), some (.int x2), some (.int x3), some (.int x4), some (.int x5), none]) ⟨Or.inr rfl, Or.inr rfl, Or.inr rfl, Or.inr rfl, Or.inr rfl, Or.inr rfl, Or.inl rfl, trivial⟩ ?_
            exact t_R_plan_p107 N d xs c r kb39 hb39 x1 x2 x3 x4 x5
          · refine Ok_drop (lo0 := [some (.ref 115), some (.int x1), some (.int x2), some (.int x3), none, some (.int x5), none]) ⟨Or.inr rfl, Or.inr rfl, Or.inr rfl, Or.inr rfl, Or.inl rfl, Or.inr rfl, Or.inl rfl, trivial⟩ ?_
            exact t_R_plan_p102 N d xs c r kb39 hb39 x1 x2 x3 x5
set_option maxHeartbeats 8000000 in
set_option maxRecDepth 100000 in
theorem t_R_plan_p39 (N d : Nat) (xs : List Int32) (c : St) (r : St) : ∀ (n : Nat) (x1 : Int32) (x2 : Int32) (x3 : Int32) (x4 : Int32) (x5 : Int32), Ok (mBig (mRoL xs) (d + 1)) (mRoL xs) 1 mK251 (fun p : Int32 => (some (.int p), HP c r)) (R_plan_p39 N r n x1 x2 x3 x4 x5) 39 [some (.ref 115), some (.int x1), some (.int x2), some (.int x3), some (.int x4), some (.int x5), none] [] (HP c r) := by
  intro n
  induction n with
  | zero => intro x1 x2 x3 x4 x5; exact Ok_none
  | succ n ih => intro x1 x2 x3 x4 x5; exact t_R_plan_p39b N d xs c r (R_plan_p39 N r n) ih x1 x2 x3 x4 x5
set_option maxHeartbeats 8000000 in
set_option maxRecDepth 100000 in
theorem t_R_plan (N d : Nat) (xs : List Int32) (c : St) (r : St) (x1 : Int32) (x2 : Int32) (x3 : Int32) : Ok (mBig (mRoL xs) (d + 1)) (mRoL xs) 1 mK251 (fun p : Int32 => (some (.int p), HP c r)) (R_plan N r x1 x2 x3) 0 [some (.ref 115), some (.int x1), some (.int x2), some (.int x3), none, none, none] [] (HP c r) := by
  unfold R_plan
  refine Ok_blk 3 (pc2 := 5) (lo2 := [some (.ref 115), some (.int x1), some (.int x2), some (.int x3), none, none, none]) (st2 := [.int 99999, .int 0, .int x1]) rfl ?_
  refine Ok_call (y := 164) (as := [.int x1, .int 0, .int 99999]) (rest := []) (w := fun p1 => some (.int p1)) (h1 := fun p1 => HP c r) rfl rfl (fun x hx => tm_R_in N d xs c r x1 0 99999 x hx) (fun p1 hp1 => ?_)
  refine Ok_blk 1 (pc2 := (if p1 = 0 then 29 else 11)) (lo2 := [some (.ref 115), some (.int x1), some (.int x2), some (.int x3), none, none, none]) (st2 := []) rfl ?_
  refine Ok_if (fun h2 => ?_) (fun h2 => ?_)
  · refine Ok_drop (lo0 := [none, none, none, none, none, none, none]) ⟨Or.inl rfl, Or.inl rfl, Or.inl rfl, Or.inl rfl, Or.inl rfl, Or.inl rfl, Or.inl rfl, trivial⟩ ?_
    exact t_R_plan_p29 N d xs c r
  · refine Ok_blk 3 (pc2 := 14) (lo2 := [some (.ref 115), some (.int x1), some (.int x2), some (.int x3), none, none, none]) (st2 := [.int 5, .int 1, .int x2]) rfl ?_
    refine Ok_call (y := 164) (as := [.int x2, .int 1, .int 5]) (rest := []) (w := fun p3 => some (.int p3)) (h1 := fun p3 => HP c r) rfl rfl (fun x hx => tm_R_in N d xs c r x2 1 5 x hx) (fun p3 hp3 => ?_)
    refine Ok_blk 1 (pc2 := (if p3 = 0 then 29 else 20)) (lo2 := [some (.ref 115), some (.int x1), some (.int x2), some (.int x3), none, none, none]) (st2 := []) rfl ?_
    refine Ok_if (fun h4 => ?_) (fun h4 => ?_)
    · refine Ok_drop (lo0 := [none, none, none, none, none, none, none]) ⟨Or.inl rfl, Or.inl rfl, Or.inl rfl, Or.inl rfl, Or.inl rfl, Or.inl rfl, Or.inl rfl, trivial⟩ ?_
      exact t_R_plan_p29 N d xs c r
    · refine Ok_blk 3 (pc2 := 23) (lo2 := [some (.ref 115), some (.int x1), some (.int x2), some (.int x3), none, none, none]) (st2 := [.int 2, .int 0, .int x3]) rfl ?_
      refine Ok_call (y := 164) (as := [.int x3, .int 0, .int 2]) (rest := []) (w := fun p5 => some (.int p5)) (h1 := fun p5 => HP c r) rfl rfl (fun x hx => tm_R_in N d xs c r x3 0 2 x hx) (fun p5 hp5 => ?_)
      refine Ok_blk 1 (pc2 := (if ¬ p5 = 0 then 33 else 29)) (lo2 := [some (.ref 115), some (.int x1), some (.int x2), some (.int x3), none, none, none]) (st2 := []) rfl ?_
      refine Ok_if (fun h6 => ?_) (fun h6 => ?_)
      · refine Ok_blk 4 (pc2 := 39) (lo2 := [some (.ref 115), some (.int x1), some (.int x2), some (.int x3), some (.int 0), some (.int 1), none]) (st2 := []) rfl ?_
        refine Ok_drop (lo0 := [some (.ref 115), some (.int x1), some (.int x2), some (.int x3), some (.int 0), some (.int 1), none]) ⟨Or.inr rfl, Or.inr rfl, Or.inr rfl, Or.inr rfl, Or.inr rfl, Or.inr rfl, Or.inl rfl, trivial⟩ ?_
        exact t_R_plan_p39 N d xs c r N x1 x2 x3 0 1
      · refine Ok_drop (lo0 := [none, none, none, none, none, none, none]) ⟨Or.inl rfl, Or.inl rfl, Or.inl rfl, Or.inl rfl, Or.inl rfl, Or.inl rfl, Or.inl rfl, trivial⟩ ?_
        exact t_R_plan_p29 N d xs c r
set_option maxHeartbeats 8000000 in
set_option maxRecDepth 100000 in
theorem tm_R_plan (N d : Nat) (xs : List Int32) (c r : St) (a1 : Int32) (a2 : Int32) (a3 : Int32) (p : Int32) (hp : R_plan N r a1 a2 a3 = some p) : mBig (mRoL xs) (d + 2) 251 [.ref 115, .int a1, .int a2, .int a3] (HP c r) (some (.int p)) (HP c r) 0 0 := mBig_of (by decide) rfl rfl rfl rfl (t_R_plan N d xs c r a1 a2 a3 p hp)
