/-! methods as partial functions of Lean, and that the small machine does them: by program (gen18) -/
/-! ColdHolds$Market.alike(II)Z, from (('r', 82), 'i', 'i') -/
def Market_alike_p39b (N : Nat) (kb39 : Int32 → Int32 → Int32 → Option (Int32)) (c : St) (x1 : Int32) (x2 : Int32) (x3 : Int32) : Option (Int32) :=
  (ld (gA c 68) 2).bind fun y3 => (if y3 < x3 then some 1 else (Market_priceIn N c (x1 - x3)).bind fun p5 => (Market_priceIn N c (x2 - x3)).bind fun p6 => (if p5 = p6 then kb39 x1 x2 (x3 + 1) else some 0))
def Market_alike_p39 (N : Nat) (c : St) : Nat → Int32 → Int32 → Int32 → Option (Int32)
  | 0 => fun _ _ _ => none
  | n + 1 => Market_alike_p39b N (Market_alike_p39 N c n) c
def Market_alike_p2b (N : Nat) (kb2 : Int32 → Int32 → Int32 → Option (Int32)) (c : St) (x1 : Int32) (x2 : Int32) (x3 : Int32) : Option (Int32) :=
  (ld (gA c 68) 3).bind fun y1 => (if y1 < x3 then Market_alike_p39 N c N x1 x2 1 else (Market_shippedIn N c (x1 - x3)).bind fun p8 => (Market_shippedIn N c (x2 - x3)).bind fun p9 => (if p8 = p9 then kb2 x1 x2 (x3 + 1) else some 0))
def Market_alike_p2 (N : Nat) (c : St) : Nat → Int32 → Int32 → Int32 → Option (Int32)
  | 0 => fun _ _ _ => none
  | n + 1 => Market_alike_p2b N (Market_alike_p2 N c n) c
def Market_alike (N : Nat) (c : St) (x1 : Int32) (x2 : Int32) : Option (Int32) :=
  Market_alike_p2 N c N x1 x2 1
set_option maxHeartbeats 8000000 in
set_option maxRecDepth 100000 in
theorem t_Market_alike_p39b (N d : Nat) (xs : List Int32) (c : St) (r : St) (kb39 : Int32 → Int32 → Int32 → Option (Int32)) (hb39 : ∀ (x1 : Int32) (x2 : Int32) (x3 : Int32), Ok (mBig (mRoL xs) (d + 1)) (mRoL xs) 2 mK57 (fun p : Int32 => (some (.int p), HP c r)) (kb39 x1 x2 x3) 39 [some (.ref 82), some (.int x1), some (.int x2), some (.int x3)] [] (HP c r)) (x1 : Int32) (x2 : Int32) (x3 : Int32) : Ok (mBig (mRoL xs) (d + 1)) (mRoL xs) 2 mK57 (fun p : Int32 => (some (.int p), HP c r)) (Market_alike_p39b N kb39 c x1 x2 x3) 39 [some (.ref 82), some (.int x1), some (.int x2), some (.int x3)] [] (HP c r) := by
  unfold Market_alike_p39b
  refine Ok_blk 4 (pc2 := 45) (lo2 := [some (.ref 82), some (.int x1), some (.int x2), some (.int x3)]) (st2 := [.int 2, .ref 83, .int x3]) rfl ?_
  refine Ok_ld (l := (gA c 68)) rfl rfl (fun y3 hy3 => ?_)
  refine Ok_blk 1 (pc2 := (if y3 < x3 then 74 else 49)) (lo2 := [some (.ref 82), some (.int x1), some (.int x2), some (.int x3)]) (st2 := []) rfl ?_
  refine Ok_if (fun h4 => ?_) (fun h4 => ?_)
  · refine Ok_blk 1 (pc2 := 75) (lo2 := [some (.ref 82), some (.int x1), some (.int x2), some (.int x3)]) (st2 := [.int 1]) rfl ?_
    exact Ok_rez (Or.inr rfl) rfl rfl
  · refine Ok_blk 4 (pc2 := 53) (lo2 := [some (.ref 82), some (.int x1), some (.int x2), some (.int x3)]) (st2 := [.int (x1 - x3), .ref 82]) rfl ?_
    refine Ok_call (y := 51) (as := [.ref 82, .int (x1 - x3)]) (rest := []) (w := fun p5 => some (.int p5)) (h1 := fun p5 => HP c r) rfl rfl (fun x hx => tm_Market_priceIn N d xs c r (x1 - x3) x hx) (fun p5 hp5 => ?_)
    refine Ok_blk 4 (pc2 := 60) (lo2 := [some (.ref 82), some (.int x1), some (.int x2), some (.int x3)]) (st2 := [.int (x2 - x3), .ref 82, .int p5]) rfl ?_
    refine Ok_call (y := 51) (as := [.ref 82, .int (x2 - x3)]) (rest := [.int p5]) (w := fun p6 => some (.int p6)) (h1 := fun p6 => HP c r) rfl rfl (fun x hx => tm_Market_priceIn N d xs c r (x2 - x3) x hx) (fun p6 hp6 => ?_)
    refine Ok_blk 1 (pc2 := (if p5 = p6 then 68 else 66)) (lo2 := [some (.ref 82), some (.int x1), some (.int x2), some (.int x3)]) (st2 := []) rfl ?_
    refine Ok_if (fun h7 => ?_) (fun h7 => ?_)
    · refine Ok_blk 2 (pc2 := 39) (lo2 := [some (.ref 82), some (.int x1), some (.int x2), some (.int (x3 + 1))]) (st2 := []) rfl ?_
      refine Ok_drop (lo0 := [some (.ref 82), some (.int x1), some (.int x2), some (.int (x3 + 1))]) ⟨Or.inr rfl, Or.inr rfl, Or.inr rfl, Or.inr rfl, trivial⟩ ?_
      exact hb39 x1 x2 (x3 + 1)
    · refine Ok_blk 1 (pc2 := 67) (lo2 := [some (.ref 82), some (.int x1), some (.int x2), some (.int x3)]) (st2 := [.int 0]) rfl ?_
      exact Ok_rez (Or.inl rfl) rfl rfl
set_option maxHeartbeats 8000000 in
set_option maxRecDepth 100000 in
theorem t_Market_alike_p39 (N d : Nat) (xs : List Int32) (c : St) (r : St) : ∀ (n : Nat) (x1 : Int32) (x2 : Int32) (x3 : Int32), Ok (mBig (mRoL xs) (d + 1)) (mRoL xs) 2 mK57 (fun p : Int32 => (some (.int p), HP c r)) (Market_alike_p39 N c n x1 x2 x3) 39 [some (.ref 82), some (.int x1), some (.int x2), some (.int x3)] [] (HP c r) := by
  intro n
  induction n with
  | zero => intro x1 x2 x3; exact Ok_none
  | succ n ih => intro x1 x2 x3; exact t_Market_alike_p39b N d xs c r (Market_alike_p39 N c n) ih x1 x2 x3
set_option maxHeartbeats 8000000 in
set_option maxRecDepth 100000 in
theorem t_Market_alike_p2b (N d : Nat) (xs : List Int32) (c : St) (r : St) (kb2 : Int32 → Int32 → Int32 → Option (Int32)) (hb2 : ∀ (x1 : Int32) (x2 : Int32) (x3 : Int32), Ok (mBig (mRoL xs) (d + 1)) (mRoL xs) 2 mK57 (fun p : Int32 => (some (.int p), HP c r)) (kb2 x1 x2 x3) 2 [some (.ref 82), some (.int x1), some (.int x2), some (.int x3)] [] (HP c r)) (x1 : Int32) (x2 : Int32) (x3 : Int32) : Ok (mBig (mRoL xs) (d + 1)) (mRoL xs) 2 mK57 (fun p : Int32 => (some (.int p), HP c r)) (Market_alike_p2b N kb2 c x1 x2 x3) 2 [some (.ref 82), some (.int x1), some (.int x2), some (.int x3)] [] (HP c r) := by
  unfold Market_alike_p2b
  refine Ok_blk 4 (pc2 := 8) (lo2 := [some (.ref 82), some (.int x1), some (.int x2), some (.int x3)]) (st2 := [.int 3, .ref 83, .int x3]) rfl ?_
  refine Ok_ld (l := (gA c 68)) rfl rfl (fun y1 hy1 => ?_)
  refine Ok_blk 1 (pc2 := (if y1 < x3 then 37 else 12)) (lo2 := [some (.ref 82), some (.int x1), some (.int x2), some (.int x3)]) (st2 := []) rfl ?_
  refine Ok_if (fun h2 => ?_) (fun h2 => ?_)
  · refine Ok_blk 2 (pc2 := 39) (lo2 := [some (.ref 82), some (.int x1), some (.int x2), some (.int 1)]) (st2 := []) rfl ?_
    refine Ok_drop (lo0 := [some (.ref 82), some (.int x1), some (.int x2), some (.int 1)]) ⟨Or.inr rfl, Or.inr rfl, Or.inr rfl, Or.inr rfl, trivial⟩ ?_
    exact t_Market_alike_p39 N d xs c r N x1 x2 1
  · refine Ok_blk 4 (pc2 := 16) (lo2 := [some (.ref 82), some (.int x1), some (.int x2), some (.int x3)]) (st2 := [.int (x1 - x3), .ref 82]) rfl ?_
    refine Ok_call (y := 52) (as := [.ref 82, .int (x1 - x3)]) (rest := []) (w := fun p8 => some (.int p8)) (h1 := fun p8 => HP c r) rfl rfl (fun x hx => tm_Market_shippedIn N d xs c r (x1 - x3) x hx) (fun p8 hp8 => ?_)
    refine Ok_blk 4 (pc2 := 23) (lo2 := [some (.ref 82), some (.int x1), some (.int x2), some (.int x3)]) (st2 := [.int (x2 - x3), .ref 82, .int p8]) rfl ?_
    refine Ok_call (y := 52) (as := [.ref 82, .int (x2 - x3)]) (rest := [.int p8]) (w := fun p9 => some (.int p9)) (h1 := fun p9 => HP c r) rfl rfl (fun x hx => tm_Market_shippedIn N d xs c r (x2 - x3) x hx) (fun p9 hp9 => ?_)
    refine Ok_blk 1 (pc2 := (if p8 = p9 then 31 else 29)) (lo2 := [some (.ref 82), some (.int x1), some (.int x2), some (.int x3)]) (st2 := []) rfl ?_
    refine Ok_if (fun h10 => ?_) (fun h10 => ?_)
    · refine Ok_blk 2 (pc2 := 2) (lo2 := [some (.ref 82), some (.int x1), some (.int x2), some (.int (x3 + 1))]) (st2 := []) rfl ?_
      refine Ok_drop (lo0 := [some (.ref 82), some (.int x1), some (.int x2), some (.int (x3 + 1))]) ⟨Or.inr rfl, Or.inr rfl, Or.inr rfl, Or.inr rfl, trivial⟩ ?_
      exact hb2 x1 x2 (x3 + 1)
    · refine Ok_blk 1 (pc2 := 30) (lo2 := [some (.ref 82), some (.int x1), some (.int x2), some (.int x3)]) (st2 := [.int 0]) rfl ?_
      exact Ok_rez (Or.inl rfl) rfl rfl
set_option maxHeartbeats 8000000 in
set_option maxRecDepth 100000 in
theorem t_Market_alike_p2 (N d : Nat) (xs : List Int32) (c : St) (r : St) : ∀ (n : Nat) (x1 : Int32) (x2 : Int32) (x3 : Int32), Ok (mBig (mRoL xs) (d + 1)) (mRoL xs) 2 mK57 (fun p : Int32 => (some (.int p), HP c r)) (Market_alike_p2 N c n x1 x2 x3) 2 [some (.ref 82), some (.int x1), some (.int x2), some (.int x3)] [] (HP c r) := by
  intro n
  induction n with
  | zero => intro x1 x2 x3; exact Ok_none
  | succ n ih => intro x1 x2 x3; exact t_Market_alike_p2b N d xs c r (Market_alike_p2 N c n) ih x1 x2 x3
set_option maxHeartbeats 8000000 in
set_option maxRecDepth 100000 in
theorem t_Market_alike (N d : Nat) (xs : List Int32) (c : St) (r : St) (x1 : Int32) (x2 : Int32) : Ok (mBig (mRoL xs) (d + 1)) (mRoL xs) 2 mK57 (fun p : Int32 => (some (.int p), HP c r)) (Market_alike N c x1 x2) 0 [some (.ref 82), some (.int x1), some (.int x2), none] [] (HP c r) := by
  unfold Market_alike
  refine Ok_blk 2 (pc2 := 2) (lo2 := [some (.ref 82), some (.int x1), some (.int x2), some (.int 1)]) (st2 := []) rfl ?_
  refine Ok_drop (lo0 := [some (.ref 82), some (.int x1), some (.int x2), some (.int 1)]) ⟨Or.inr rfl, Or.inr rfl, Or.inr rfl, Or.inr rfl, trivial⟩ ?_
  exact t_Market_alike_p2 N d xs c r N x1 x2 1
set_option maxHeartbeats 8000000 in
set_option maxRecDepth 100000 in
theorem tm_Market_alike (N d : Nat) (xs : List Int32) (c r : St) (a1 : Int32) (a2 : Int32) (p : Int32) (hp : Market_alike N c a1 a2 = some p) : mBig (mRoL xs) (d + 2) 57 [.ref 82, .int a1, .int a2] (HP c r) (some (.int p)) (HP c r) 0 0 := mBig_of (by decide) rfl rfl rfl rfl (t_Market_alike N d xs c r a1 a2 p hp)
/-! ColdHolds$Market.turn(I)I, from (('r', 82), 'i') -/
def Market_turn_p13b (N : Nat) (kb2 : Int32 → Int32 → Option (Int32)) (kb13 : Int32 → Int32 → Int32 → Option (Int32)) (c : St) (x1 : Int32) (x2 : Int32) (x3 : Int32) : Option (Int32) :=
  (if 200 ≤ x3 then kb2 x1 (x2 + 1) else (Market_alike N c x2 x3).bind fun p3 => (if p3 = 0 then kb13 x1 x2 (x3 + 1) else (if ¬ x1 = 0 then some (x3 - x2) else some x2)))
def Market_turn_p13 (N : Nat) (kb2 : Int32 → Int32 → Option (Int32)) (c : St) : Nat → Int32 → Int32 → Int32 → Option (Int32)
  | 0 => fun _ _ _ => none
  | n + 1 => Market_turn_p13b N kb2 (Market_turn_p13 N kb2 c n) c
def Market_turn_p2b (N : Nat) (kb2 : Int32 → Int32 → Option (Int32)) (c : St) (x1 : Int32) (x2 : Int32) : Option (Int32) :=
  (if 200 ≤ x2 then some (-1) else Market_turn_p13 N kb2 c N x1 x2 (x2 + 1))
def Market_turn_p2 (N : Nat) (c : St) : Nat → Int32 → Int32 → Option (Int32)
  | 0 => fun _ _ => none
  | n + 1 => Market_turn_p2b N (Market_turn_p2 N c n) c
def Market_turn (N : Nat) (c : St) (x1 : Int32) : Option (Int32) :=
  Market_turn_p2 N c N x1 0
set_option maxHeartbeats 8000000 in
set_option maxRecDepth 100000 in
theorem t_Market_turn_p13b (N d : Nat) (xs : List Int32) (c : St) (r : St) (kb2 : Int32 → Int32 → Option (Int32)) (hb2 : ∀ (x1 : Int32) (x2 : Int32), Ok (mBig (mRoL xs) (d + 2)) (mRoL xs) 1 mK56 (fun p : Int32 => (some (.int p), HP c r)) (kb2 x1 x2) 2 [some (.ref 82), some (.int x1), some (.int x2), none] [] (HP c r)) (kb13 : Int32 → Int32 → Int32 → Option (Int32)) (hb13 : ∀ (x1 : Int32) (x2 : Int32) (x3 : Int32), Ok (mBig (mRoL xs) (d + 2)) (mRoL xs) 1 mK56 (fun p : Int32 => (some (.int p), HP c r)) (kb13 x1 x2 x3) 13 [some (.ref 82), some (.int x1), some (.int x2), some (.int x3)] [] (HP c r)) (x1 : Int32) (x2 : Int32) (x3 : Int32) : Ok (mBig (mRoL xs) (d + 2)) (mRoL xs) 1 mK56 (fun p : Int32 => (some (.int p), HP c r)) (Market_turn_p13b N kb2 kb13 c x1 x2 x3) 13 [some (.ref 82), some (.int x1), some (.int x2), some (.int x3)] [] (HP c r) := by
  unfold Market_turn_p13b
  refine Ok_blk 3 (pc2 := (if 200 ≤ x3 then 47 else 20)) (lo2 := [some (.ref 82), some (.int x1), some (.int x2), some (.int x3)]) (st2 := []) rfl ?_
  refine Ok_if (fun h2 => ?_) (fun h2 => ?_)
  · refine Ok_blk 2 (pc2 := 2) (lo2 := [some (.ref 82), some (.int x1), some (.int (x2 + 1)), some (.int x3)]) (st2 := []) rfl ?_
    refine Ok_drop (lo0 := [some (.ref 82), some (.int x1), some (.int (x2 + 1)), none]) ⟨Or.inr rfl, Or.inr rfl, Or.inr rfl, Or.inl rfl, trivial⟩ ?_
    exact hb2 x1 (x2 + 1)
  · refine Ok_blk 3 (pc2 := 23) (lo2 := [some (.ref 82), some (.int x1), some (.int x2), some (.int x3)]) (st2 := [.int x3, .int x2, .ref 82]) rfl ?_
    refine Ok_call (y := 57) (as := [.ref 82, .int x2, .int x3]) (rest := []) (w := fun p3 => some (.int p3)) (h1 := fun p3 => HP c r) rfl rfl (fun x hx => tm_Market_alike N d xs c r x2 x3 x hx) (fun p3 hp3 => ?_)
    refine Ok_blk 1 (pc2 := (if p3 = 0 then 41 else 29)) (lo2 := [some (.ref 82), some (.int x1), some (.int x2), some (.int x3)]) (st2 := []) rfl ?_
    refine Ok_if (fun h4 => ?_) (fun h4 => ?_)
    · refine Ok_blk 2 (pc2 := 13) (lo2 := [some (.ref 82), some (.int x1), some (.int x2), some (.int (x3 + 1))]) (st2 := []) rfl ?_
      refine Ok_drop (lo0 := [some (.ref 82), some (.int x1), some (.int x2), some (.int (x3 + 1))]) ⟨Or.inr rfl, Or.inr rfl, Or.inr rfl, Or.inr rfl, trivial⟩ ?_
      exact hb13 x1 x2 (x3 + 1)
    · refine Ok_blk 2 (pc2 := (if ¬ x1 = 0 then 37 else 33)) (lo2 := [some (.ref 82), some (.int x1), some (.int x2), some (.int x3)]) (st2 := []) rfl ?_
      refine Ok_if (fun h5 => ?_) (fun h5 => ?_)
      · refine Ok_blk 3 (pc2 := 40) (lo2 := [some (.ref 82), some (.int x1), some (.int x2), some (.int x3)]) (st2 := [.int (x3 - x2)]) rfl ?_
        exact Ok_ret rfl rfl rfl
      · refine Ok_blk 2 (pc2 := 40) (lo2 := [some (.ref 82), some (.int x1), some (.int x2), some (.int x3)]) (st2 := [.int x2]) rfl ?_
        exact Ok_ret rfl rfl rfl
set_option maxHeartbeats 8000000 in
set_option maxRecDepth 100000 in
theorem t_Market_turn_p13 (N d : Nat) (xs : List Int32) (c : St) (r : St) (kb2 : Int32 → Int32 → Option (Int32)) (hb2 : ∀ (x1 : Int32) (x2 : Int32), Ok (mBig (mRoL xs) (d + 2)) (mRoL xs) 1 mK56 (fun p : Int32 => (some (.int p), HP c r)) (kb2 x1 x2) 2 [some (.ref 82), some (.int x1), some (.int x2), none] [] (HP c r)) : ∀ (n : Nat) (x1 : Int32) (x2 : Int32) (x3 : Int32), Ok (mBig (mRoL xs) (d + 2)) (mRoL xs) 1 mK56 (fun p : Int32 => (some (.int p), HP c r)) (Market_turn_p13 N kb2 c n x1 x2 x3) 13 [some (.ref 82), some (.int x1), some (.int x2), some (.int x3)] [] (HP c r) := by
  intro n
  induction n with
  | zero => intro x1 x2 x3; exact Ok_none
  | succ n ih => intro x1 x2 x3; exact t_Market_turn_p13b N d xs c r kb2 hb2 (Market_turn_p13 N kb2 c n) ih x1 x2 x3
set_option maxHeartbeats 8000000 in
set_option maxRecDepth 100000 in
theorem t_Market_turn_p2b (N d : Nat) (xs : List Int32) (c : St) (r : St) (kb2 : Int32 → Int32 → Option (Int32)) (hb2 : ∀ (x1 : Int32) (x2 : Int32), Ok (mBig (mRoL xs) (d + 2)) (mRoL xs) 1 mK56 (fun p : Int32 => (some (.int p), HP c r)) (kb2 x1 x2) 2 [some (.ref 82), some (.int x1), some (.int x2), none] [] (HP c r)) (x1 : Int32) (x2 : Int32) : Ok (mBig (mRoL xs) (d + 2)) (mRoL xs) 1 mK56 (fun p : Int32 => (some (.int p), HP c r)) (Market_turn_p2b N kb2 c x1 x2) 2 [some (.ref 82), some (.int x1), some (.int x2), none] [] (HP c r) := by
  unfold Market_turn_p2b
  refine Ok_blk 3 (pc2 := (if 200 ≤ x2 then 53 else 9)) (lo2 := [some (.ref 82), some (.int x1), some (.int x2), none]) (st2 := []) rfl ?_
  refine Ok_if (fun h1 => ?_) (fun h1 => ?_)
  · refine Ok_blk 1 (pc2 := 54) (lo2 := [some (.ref 82), some (.int x1), some (.int x2), none]) (st2 := [.int (-1)]) rfl ?_
    exact Ok_ret rfl rfl rfl
  · refine Ok_blk 4 (pc2 := 13) (lo2 := [some (.ref 82), some (.int x1), some (.int x2), some (.int (x2 + 1))]) (st2 := []) rfl ?_
    refine Ok_drop (lo0 := [some (.ref 82), some (.int x1), some (.int x2), some (.int (x2 + 1))]) ⟨Or.inr rfl, Or.inr rfl, Or.inr rfl, Or.inr rfl, trivial⟩ ?_
    exact t_Market_turn_p13 N d xs c r kb2 hb2 N x1 x2 (x2 + 1)
set_option maxHeartbeats 8000000 in
set_option maxRecDepth 100000 in
theorem t_Market_turn_p2 (N d : Nat) (xs : List Int32) (c : St) (r : St) : ∀ (n : Nat) (x1 : Int32) (x2 : Int32), Ok (mBig (mRoL xs) (d + 2)) (mRoL xs) 1 mK56 (fun p : Int32 => (some (.int p), HP c r)) (Market_turn_p2 N c n x1 x2) 2 [some (.ref 82), some (.int x1), some (.int x2), none] [] (HP c r) := by
  intro n
  induction n with
  | zero => intro x1 x2; exact Ok_none
  | succ n ih => intro x1 x2; exact t_Market_turn_p2b N d xs c r (Market_turn_p2 N c n) ih x1 x2
set_option maxHeartbeats 8000000 in
set_option maxRecDepth 100000 in
theorem t_Market_turn (N d : Nat) (xs : List Int32) (c : St) (r : St) (x1 : Int32) : Ok (mBig (mRoL xs) (d + 2)) (mRoL xs) 1 mK56 (fun p : Int32 => (some (.int p), HP c r)) (Market_turn N c x1) 0 [some (.ref 82), some (.int x1), none, none] [] (HP c r) := by
  unfold Market_turn
  refine Ok_blk 2 (pc2 := 2) (lo2 := [some (.ref 82), some (.int x1), some (.int 0), none]) (st2 := []) rfl ?_
  refine Ok_drop (lo0 := [some (.ref 82), some (.int x1), some (.int 0), none]) ⟨Or.inr rfl, Or.inr rfl, Or.inr rfl, Or.inl rfl, trivial⟩ ?_
  exact t_Market_turn_p2 N d xs c r N x1 0
set_option maxHeartbeats 8000000 in
set_option maxRecDepth 100000 in
theorem tm_Market_turn (N d : Nat) (xs : List Int32) (c r : St) (a1 : Int32) (p : Int32) (hp : Market_turn N c a1 = some p) : mBig (mRoL xs) (d + 3) 56 [.ref 82, .int a1] (HP c r) (some (.int p)) (HP c r) 0 0 := mBig_of (by decide) rfl rfl rfl rfl (t_Market_turn N d xs c r a1 p hp)
/-! ColdHolds.turns(I)I, from (('r', 0), 'i') -/
def C_turns (N : Nat) (c : St) (x1 : Int32) : Option (Int32 × St) :=
  (C_within N x1 0 1).bind fun p1 => (if ¬ p1 = 0 then (Market_run N c).bind fun p3 => (Market_turn N p3 x1).bind fun p4 => some (p4, p3) else some ((-102), c))
set_option maxHeartbeats 8000000 in
set_option maxRecDepth 100000 in
theorem t_C_turns (N d : Nat) (xs : List Int32) (r : St) (c : St) (x1 : Int32) : Ok (mBig (mRoL xs) (d + 3)) (mRoL xs) 1 mK146 (fun p : Int32 × St => (some (.int p.1), HP p.2 r)) (C_turns N c x1) 0 [some (.ref 0), some (.int x1)] [] (HP c r) := by
  unfold C_turns
  refine Ok_blk 3 (pc2 := 3) (lo2 := [some (.ref 0), some (.int x1)]) (st2 := [.int 1, .int 0, .int x1]) rfl ?_
  refine Ok_call (y := 102) (as := [.int x1, .int 0, .int 1]) (rest := []) (w := fun p1 => some (.int p1)) (h1 := fun p1 => HP c r) rfl rfl (fun x hx => tm_C_within N (d + 2) xs c r x1 0 1 x hx) (fun p1 hp1 => ?_)
  refine Ok_blk 1 (pc2 := (if ¬ p1 = 0 then 12 else 9)) (lo2 := [some (.ref 0), some (.int x1)]) (st2 := []) rfl ?_
  refine Ok_if (fun h2 => ?_) (fun h2 => ?_)
  · refine Ok_blk 2 (pc2 := 16) (lo2 := [some (.ref 0), some (.int x1)]) (st2 := [.ref 82]) rfl ?_
    refine Ok_call (y := 50) (as := [.ref 82]) (rest := []) (w := fun p3 => none) (h1 := fun p3 => HP p3 r) rfl rfl (fun x hx => tm_Market_run N (d + 1) xs c r x hx) (fun p3 hp3 => ?_)
    refine Ok_blk 3 (pc2 := 24) (lo2 := [some (.ref 0), some (.int x1)]) (st2 := [.int x1, .ref 82]) rfl ?_
    refine Ok_call (y := 56) (as := [.ref 82, .int x1]) (rest := []) (w := fun p4 => some (.int p4)) (h1 := fun p4 => HP p3 r) rfl rfl (fun x hx => tm_Market_turn N d xs p3 r x1 x hx) (fun p4 hp4 => ?_)
    exact Ok_ret rfl rfl rfl
  · refine Ok_blk 1 (pc2 := 11) (lo2 := [some (.ref 0), some (.int x1)]) (st2 := [.int (-102)]) rfl ?_
    exact Ok_ret rfl rfl rfl
set_option maxHeartbeats 8000000 in
set_option maxRecDepth 100000 in
theorem tm_C_turns (N d : Nat) (xs : List Int32) (c r : St) (a1 : Int32) (p : Int32 × St) (hp : C_turns N c a1 = some p) : mBig (mRoL xs) (d + 4) 146 [.ref 0, .int a1] (HP c r) (some (.int p.1)) (HP p.2 r) 0 0 := mBig_of (by decide) rfl rfl rfl rfl (t_C_turns N d xs r c a1 p hp)
/-! ColdHoldsModel.isAgain(II)Z, from (('r', 115), 'i', 'i') -/
def R_isAgain_p93 (N : Nat) (kb54 : Int32 → Int32 → Int32 → Int32 → Option (Int32)) (r : St) (x1 : Int32) (x2 : Int32) (x4 : Int32) (s0 : Int32) : Option (Int32) :=
  kb54 x1 x2 s0 (x4 + 1)
def R_isAgain_p92 (N : Nat) (kb54 : Int32 → Int32 → Int32 → Int32 → Option (Int32)) (r : St) (x1 : Int32) (x2 : Int32) (x4 : Int32) : Option (Int32) :=
  R_isAgain_p93 N kb54 r x1 x2 x4 0
def R_isAgain_p54b (N : Nat) (kb54 : Int32 → Int32 → Int32 → Int32 → Option (Int32)) (r : St) (x1 : Int32) (x2 : Int32) (x3 : Int32) (x4 : Int32) : Option (Int32) :=
  (if (gI r 17) < x4 then (gz x3).bind fun _ => some x3 else (if x3 = 0 then R_isAgain_p92 N kb54 r x1 x2 x4 else (R_priceAt N r (x1 - x4)).bind fun p5 => (R_priceAt N r ((x1 + x2) - x4)).bind fun p6 => (if ¬ p5 = p6 then R_isAgain_p92 N kb54 r x1 x2 x4 else R_isAgain_p93 N kb54 r x1 x2 x4 1)))
def R_isAgain_p54 (N : Nat) (r : St) : Nat → Int32 → Int32 → Int32 → Int32 → Option (Int32)
  | 0 => fun _ _ _ _ => none
  | n + 1 => R_isAgain_p54b N (R_isAgain_p54 N r n) r
def R_isAgain_p44 (N : Nat) (kb5 : Int32 → Int32 → Int32 → Int32 → Option (Int32)) (r : St) (x1 : Int32) (x2 : Int32) (x4 : Int32) (s0 : Int32) : Option (Int32) :=
  kb5 x1 x2 s0 (x4 + 1)
def R_isAgain_p43 (N : Nat) (kb5 : Int32 → Int32 → Int32 → Int32 → Option (Int32)) (r : St) (x1 : Int32) (x2 : Int32) (x4 : Int32) : Option (Int32) :=
  R_isAgain_p44 N kb5 r x1 x2 x4 0
def R_isAgain_p5b (N : Nat) (kb5 : Int32 → Int32 → Int32 → Int32 → Option (Int32)) (r : St) (x1 : Int32) (x2 : Int32) (x3 : Int32) (x4 : Int32) : Option (Int32) :=
  (if (gI r 18) < x4 then R_isAgain_p54 N r N x1 x2 x3 1 else (if x3 = 0 then R_isAgain_p43 N kb5 r x1 x2 x4 else (R_shippedAt N r (x1 - x4)).bind fun p9 => (R_shippedAt N r ((x1 + x2) - x4)).bind fun p10 => (if ¬ p9 = p10 then R_isAgain_p43 N kb5 r x1 x2 x4 else R_isAgain_p44 N kb5 r x1 x2 x4 1)))
def R_isAgain_p5 (N : Nat) (r : St) : Nat → Int32 → Int32 → Int32 → Int32 → Option (Int32)
  | 0 => fun _ _ _ _ => none
  | n + 1 => R_isAgain_p5b N (R_isAgain_p5 N r n) r
def R_isAgain (N : Nat) (r : St) (x1 : Int32) (x2 : Int32) : Option (Int32) :=
  R_isAgain_p5 N r N x1 x2 1 1
set_option maxHeartbeats 8000000 in
set_option maxRecDepth 100000 in
theorem t_R_isAgain_p93 (N d : Nat) (xs : List Int32) (c : St) (r : St) (kb54 : Int32 → Int32 → Int32 → Int32 → Option (Int32)) (hb54 : ∀ (x1 : Int32) (x2 : Int32) (x3 : Int32) (x4 : Int32), Ok (mBig (mRoL xs) (d + 1)) (mRoL xs) 2 mK233 (fun p : Int32 => (some (.int p), HP c r)) (kb54 x1 x2 x3 x4) 54 [some (.ref 115), some (.int x1), some (.int x2), some (.int x3), some (.int x4)] [] (HP c r)) (x1 : Int32) (x2 : Int32) (x4 : Int32) (s0 : Int32) : Ok (mBig (mRoL xs) (d + 1)) (mRoL xs) 2 mK233 (fun p : Int32 => (some (.int p), HP c r)) (R_isAgain_p93 N kb54 r x1 x2 x4 s0) 93 [some (.ref 115), some (.int x1), some (.int x2), none, some (.int x4)] [.int s0] (HP c r) := by
  unfold R_isAgain_p93
  refine Ok_blk 3 (pc2 := 54) (lo2 := [some (.ref 115), some (.int x1), some (.int x2), some (.int s0), some (.int (x4 + 1))]) (st2 := []) rfl ?_
  refine Ok_drop (lo0 := [some (.ref 115), some (.int x1), some (.int x2), some (.int s0), some (.int (x4 + 1))]) ⟨Or.inr rfl, Or.inr rfl, Or.inr rfl, Or.inr rfl, Or.inr rfl, trivial⟩ ?_
  exact hb54 x1 x2 s0 (x4 + 1)
set_option maxHeartbeats 8000000 in
set_option maxRecDepth 100000 in
theorem t_R_isAgain_p92 (N d : Nat) (xs : List Int32) (c : St) (r : St) (kb54 : Int32 → Int32 → Int32 → Int32 → Option (Int32)) (hb54 : ∀ (x1 : Int32) (x2 : Int32) (x3 : Int32) (x4 : Int32), Ok (mBig (mRoL xs) (d + 1)) (mRoL xs) 2 mK233 (fun p : Int32 => (some (.int p), HP c r)) (kb54 x1 x2 x3 x4) 54 [some (.ref 115), some (.int x1), some (.int x2), some (.int x3), some (.int x4)] [] (HP c r)) (x1 : Int32) (x2 : Int32) (x4 : Int32) : Ok (mBig (mRoL xs) (d + 1)) (mRoL xs) 2 mK233 (fun p : Int32 => (some (.int p), HP c r)) (R_isAgain_p92 N kb54 r x1 x2 x4) 92 [some (.ref 115), some (.int x1), some (.int x2), none, some (.int x4)] [] (HP c r) := by
  unfold R_isAgain_p92
  refine Ok_blk 1 (pc2 := 93) (lo2 := [some (.ref 115), some (.int x1), some (.int x2), none, some (.int x4)]) (st2 := [.int 0]) rfl ?_
  refine Ok_drop (lo0 := [some (.ref 115), some (.int x1), some (.int x2), none, some (.int x4)]) ⟨Or.inr rfl, Or.inr rfl, Or.inr rfl, Or.inl rfl, Or.inr rfl, trivial⟩ ?_
  exact t_R_isAgain_p93 N d xs c r kb54 hb54 x1 x2 x4 0
set_option maxHeartbeats 8000000 in
set_option maxRecDepth 100000 in
theorem t_R_isAgain_p54b (N d : Nat) (xs : List Int32) (c : St) (r : St) (kb54 : Int32 → Int32 → Int32 → Int32 → Option (Int32)) (hb54 : ∀ (x1 : Int32) (x2 : Int32) (x3 : Int32) (x4 : Int32), Ok (mBig (mRoL xs) (d + 1)) (mRoL xs) 2 mK233 (fun p : Int32 => (some (.int p), HP c r)) (kb54 x1 x2 x3 x4) 54 [some (.ref 115), some (.int x1), some (.int x2), some (.int x3), some (.int x4)] [] (HP c r)) (x1 : Int32) (x2 : Int32) (x3 : Int32) (x4 : Int32) : Ok (mBig (mRoL xs) (d + 1)) (mRoL xs) 2 mK233 (fun p : Int32 => (some (.int p), HP c r)) (R_isAgain_p54b N kb54 r x1 x2 x3 x4) 54 [some (.ref 115), some (.int x1), some (.int x2), some (.int x3), some (.int x4)] [] (HP c r) := by
  unfold R_isAgain_p54b
  refine Ok_blk 4 (pc2 := (if (gI r 17) < x4 then 100 else 63)) (lo2 := [some (.ref 115), some (.int x1), some (.int x2), some (.int x3), some (.int x4)]) (st2 := []) rfl ?_
  refine Ok_if (fun h2 => ?_) (fun h2 => ?_)
  · refine Ok_blk 1 (pc2 := 101) (lo2 := [some (.ref 115), some (.int x1), some (.int x2), some (.int x3), some (.int x4)]) (st2 := [.int x3]) rfl ?_
    refine Ok_gz (fun hz3 => ?_)
    exact Ok_rez hz3 rfl rfl
  · refine Ok_blk 2 (pc2 := (if x3 = 0 then 92 else 67)) (lo2 := [some (.ref 115), some (.int x1), some (.int x2), some (.int x3), some (.int x4)]) (st2 := []) rfl ?_
    refine Ok_if (fun h4 => ?_) (fun h4 => ?_)
    · refine Ok_drop (lo0 := [some (.ref 115), some (.int x1), some (.int x2), none, some (.int x4)]) ⟨Or.inr rfl, Or.inr rfl, Or.inr rfl, Or.inl rfl, Or.inr rfl, trivial⟩ ?_
      exact t_R_isAgain_p92 N d xs c r kb54 hb54 x1 x2 x4
    · refine Ok_blk 4 (pc2 := 72) (lo2 := [some (.ref 115), some (.int x1), some (.int x2), some (.int x3), some (.int x4)]) (st2 := [.int (x1 - x4), .ref 115]) rfl ?_
      refine Ok_call (y := 229) (as := [.ref 115, .int (x1 - x4)]) (rest := []) (w := fun p5 => some (.int p5)) (h1 := fun p5 => HP c r) rfl rfl (fun x hx => tm_R_priceAt N d xs c r (x1 - x4) x hx) (fun p5 hp5 => ?_)
      refine Ok_blk 6 (pc2 := 82) (lo2 := [some (.ref 115), some (.int x1), some (.int x2), some (.int x3), some (.int x4)]) (st2 := [.int ((x1 + x2) - x4), .ref 115, .int p5]) rfl ?_
      refine Ok_call (y := 229) (as := [.ref 115, .int ((x1 + x2) - x4)]) (rest := [.int p5]) (w := fun p6 => some (.int p6)) (h1 := fun p6 => HP c r) rfl rfl (fun x hx => tm_R_priceAt N d xs c r ((x1 + x2) - x4) x hx) (fun p6 hp6 => ?_)
      refine Ok_blk 1 (pc2 := (if ¬ p5 = p6 then 92 else 88)) (lo2 := [some (.ref 115), some (.int x1), some (.int x2), some (.int x3), some (.int x4)]) (st2 := []) rfl ?_
      refine Ok_if (fun h7 => ?_) (fun h7 => ?_)
      · refine Ok_drop (lo0 := [some (.ref 115), some (.int x1), some (.int x2), none, some (.int x4)]) ⟨Or.inr rfl, Or.inr rfl, Or.inr rfl, Or.inl rfl, Or.inr rfl, trivial⟩ ?_
        exact t_R_isAgain_p92 N d xs c r kb54 hb54 x1 x2 x4
      · refine Ok_blk 2 (pc2 := 93) (lo2 := [some (.ref 115), some (.int x1), some (.int x2), some (.int x3), some (.int x4)]) (st2 := [.int 1]) rfl ?_
        refine Ok_drop (lo0 := [some (.ref 115), some (.int x1), some (.int x2), none, some (.int x4)]) ⟨Or.inr rfl, Or.inr rfl, Or.inr rfl, Or.inl rfl, Or.inr rfl, trivial⟩ ?_
        exact t_R_isAgain_p93 N d xs c r kb54 hb54 x1 x2 x4 1
set_option maxHeartbeats 8000000 in
set_option maxRecDepth 100000 in
theorem t_R_isAgain_p54 (N d : Nat) (xs : List Int32) (c : St) (r : St) : ∀ (n : Nat) (x1 : Int32) (x2 : Int32) (x3 : Int32) (x4 : Int32), Ok (mBig (mRoL xs) (d + 1)) (mRoL xs) 2 mK233 (fun p : Int32 => (some (.int p), HP c r)) (R_isAgain_p54 N r n x1 x2 x3 x4) 54 [some (.ref 115), some (.int x1), some (.int x2), some (.int x3), some (.int x4)] [] (HP c r) := by
  intro n
  induction n with
  | zero => intro x1 x2 x3 x4; exact Ok_none
  | succ n ih => intro x1 x2 x3 x4; exact t_R_isAgain_p54b N d xs c r (R_isAgain_p54 N r n) ih x1 x2 x3 x4
set_option maxHeartbeats 8000000 in
set_option maxRecDepth 100000 in
theorem t_R_isAgain_p44 (N d : Nat) (xs : List Int32) (c : St) (r : St) (kb5 : Int32 → Int32 → Int32 → Int32 → Option (Int32)) (hb5 : ∀ (x1 : Int32) (x2 : Int32) (x3 : Int32) (x4 : Int32), Ok (mBig (mRoL xs) (d + 1)) (mRoL xs) 2 mK233 (fun p : Int32 => (some (.int p), HP c r)) (kb5 x1 x2 x3 x4) 5 [some (.ref 115), some (.int x1), some (.int x2), some (.int x3), some (.int x4)] [] (HP c r)) (x1 : Int32) (x2 : Int32) (x4 : Int32) (s0 : Int32) : Ok (mBig (mRoL xs) (d + 1)) (mRoL xs) 2 mK233 (fun p : Int32 => (some (.int p), HP c r)) (R_isAgain_p44 N kb5 r x1 x2 x4 s0) 44 [some (.ref 115), some (.int x1), some (.int x2), none, some (.int x4)] [.int s0] (HP c r) := by
  unfold R_isAgain_p44
  refine Ok_blk 3 (pc2 := 5) (lo2 := [some (.ref 115), some (.int x1), some (.int x2), some (.int s0), some (.int (x4 + 1))]) (st2 := []) rfl ?_
  refine Ok_drop (lo0 := [some (.ref 115), some (.int x1), some (.int x2), some (.int s0), some (.int (x4 + 1))]) ⟨Or.inr rfl, Or.inr rfl, Or.inr rfl, Or.inr rfl, Or.inr rfl, trivial⟩ ?_
  exact hb5 x1 x2 s0 (x4 + 1)
set_option maxHeartbeats 8000000 in
set_option maxRecDepth 100000 in
theorem t_R_isAgain_p43 (N d : Nat) (xs : List Int32) (c : St) (r : St) (kb5 : Int32 → Int32 → Int32 → Int32 → Option (Int32)) (hb5 : ∀ (x1 : Int32) (x2 : Int32) (x3 : Int32) (x4 : Int32), Ok (mBig (mRoL xs) (d + 1)) (mRoL xs) 2 mK233 (fun p : Int32 => (some (.int p), HP c r)) (kb5 x1 x2 x3 x4) 5 [some (.ref 115), some (.int x1), some (.int x2), some (.int x3), some (.int x4)] [] (HP c r)) (x1 : Int32) (x2 : Int32) (x4 : Int32) : Ok (mBig (mRoL xs) (d + 1)) (mRoL xs) 2 mK233 (fun p : Int32 => (some (.int p), HP c r)) (R_isAgain_p43 N kb5 r x1 x2 x4) 43 [some (.ref 115), some (.int x1), some (.int x2), none, some (.int x4)] [] (HP c r) := by
  unfold R_isAgain_p43
  refine Ok_blk 1 (pc2 := 44) (lo2 := [some (.ref 115), some (.int x1), some (.int x2), none, some (.int x4)]) (st2 := [.int 0]) rfl ?_
  refine Ok_drop (lo0 := [some (.ref 115), some (.int x1), some (.int x2), none, some (.int x4)]) ⟨Or.inr rfl, Or.inr rfl, Or.inr rfl, Or.inl rfl, Or.inr rfl, trivial⟩ ?_
  exact t_R_isAgain_p44 N d xs c r kb5 hb5 x1 x2 x4 0
set_option maxHeartbeats 8000000 in
set_option maxRecDepth 100000 in
theorem t_R_isAgain_p5b (N d : Nat) (xs : List Int32) (c : St) (r : St) (kb5 : Int32 → Int32 → Int32 → Int32 → Option (Int32)) (hb5 : ∀ (x1 : Int32) (x2 : Int32) (x3 : Int32) (x4 : Int32), Ok (mBig (mRoL xs) (d + 1)) (mRoL xs) 2 mK233 (fun p : Int32 => (some (.int p), HP c r)) (kb5 x1 x2 x3 x4) 5 [some (.ref 115), some (.int x1), some (.int x2), some (.int x3), some (.int x4)] [] (HP c r)) (x1 : Int32) (x2 : Int32) (x3 : Int32) (x4 : Int32) : Ok (mBig (mRoL xs) (d + 1)) (mRoL xs) 2 mK233 (fun p : Int32 => (some (.int p), HP c r)) (R_isAgain_p5b N kb5 r x1 x2 x3 x4) 5 [some (.ref 115), some (.int x1), some (.int x2), some (.int x3), some (.int x4)] [] (HP c r) := by
  unfold R_isAgain_p5b
  refine Ok_blk 4 (pc2 := (if (gI r 18) < x4 then 51 else 14)) (lo2 := [some (.ref 115), some (.int x1), some (.int x2), some (.int x3), some (.int x4)]) (st2 := []) rfl ?_
  refine Ok_if (fun h1 => ?_) (fun h1 => ?_)
  · refine Ok_blk 2 (pc2 := 54) (lo2 := [some (.ref 115), some (.int x1), some (.int x2), some (.int x3), some (.int 1)]) (st2 := []) rfl ?_
    refine Ok_drop (lo0 := [some (.ref 115), some (.int x1), some (.int x2), some (.int x3), some (.int 1)]) ⟨Or.inr rfl, Or.inr rfl, Or.inr rfl, Or.inr rfl, Or.inr rfl, trivial⟩ ?_
    exact t_R_isAgain_p54 N d xs c r N x1 x2 x3 1
  · refine Ok_blk 2 (pc2 := (if x3 = 0 then 43 else 18)) (lo2 := [some (.ref 115), some (.int x1), some (.int x2), some (.int x3), some (.int x4)]) (st2 := []) rfl ?_
    refine Ok_if (fun h8 => ?_) (fun h8 => ?_)
    · refine Ok_drop (lo0 := [some (.ref 115), some (.int x1), some (.int x2), none, some (.int x4)]) ⟨Or.inr rfl, Or.inr rfl, Or.inr rfl, Or.inl rfl, Or.inr rfl, trivial⟩ ?_
      exact t_R_isAgain_p43 N d xs c r kb5 hb5 x1 x2 x4
    · refine Ok_blk 4 (pc2 := 23) (lo2 := [some (.ref 115), some (.int x1), some (.int x2), some (.int x3), some (.int x4)]) (st2 := [.int (x1 - x4), .ref 115]) rfl ?_
      refine Ok_call (y := 230) (as := [.ref 115, .int (x1 - x4)]) (rest := []) (w := fun p9 => some (.int p9)) (h1 := fun p9 => HP c r) rfl rfl (fun x hx => tm_R_shippedAt N d xs c r (x1 - x4) x hx) (fun p9 hp9 => ?_)
      refine Ok_blk 6 (pc2 := 33) (lo2 := [some (.ref 115), some (.int x1), some (.int x2), some (.int x3), some (.int x4)]) (st2 := [.int ((x1 + x2) - x4), .ref 115, .int p9]) rfl ?_
      refine Ok_call (y := 230) (as := [.ref 115, .int ((x1 + x2) - x4)]) (rest := [.int p9]) (w := fun p10 => some (.int p10)) (h1 := fun p10 => HP c r) rfl rfl (fun x hx => tm_R_shippedAt N d xs c r ((x1 + x2) - x4) x hx) (fun p10 hp10 => ?_)
      refine Ok_blk 1 (pc2 := (if ¬ p9 = p10 then 43 else 39)) (lo2 := [some (.ref 115), some (.int x1), some (.int x2), some (.int x3), some (.int x4)]) (st2 := []) rfl ?_
      refine Ok_if (fun h11 => ?_) (fun h11 => ?_)
      · refine Ok_drop (lo0 := [some (.ref 115), some (.int x1), some (.int x2), none, some (.int x4)]) ⟨Or.inr rfl, Or.inr rfl, Or.inr rfl, Or.inl rfl, Or.inr rfl, trivial⟩ ?_
        exact t_R_isAgain_p43 N d xs c r kb5 hb5 x1 x2 x4
      · refine Ok_blk 2 (pc2 := 44) (lo2 := [some (.ref 115), some (.int x1), some (.int x2), some (.int x3), some (.int x4)]) (st2 := [.int 1]) rfl ?_
        refine Ok_drop (lo0 := [some (.ref 115), some (.int x1), some (.int x2), none, some (.int x4)]) ⟨Or.inr rfl, Or.inr rfl, Or.inr rfl, Or.inl rfl, Or.inr rfl, trivial⟩ ?_
        exact t_R_isAgain_p44 N d xs c r kb5 hb5 x1 x2 x4 1
set_option maxHeartbeats 8000000 in
set_option maxRecDepth 100000 in
theorem t_R_isAgain_p5 (N d : Nat) (xs : List Int32) (c : St) (r : St) : ∀ (n : Nat) (x1 : Int32) (x2 : Int32) (x3 : Int32) (x4 : Int32), Ok (mBig (mRoL xs) (d + 1)) (mRoL xs) 2 mK233 (fun p : Int32 => (some (.int p), HP c r)) (R_isAgain_p5 N r n x1 x2 x3 x4) 5 [some (.ref 115), some (.int x1), some (.int x2), some (.int x3), some (.int x4)] [] (HP c r) := by
  intro n
  induction n with
  | zero => intro x1 x2 x3 x4; exact Ok_none
  | succ n ih => intro x1 x2 x3 x4; exact t_R_isAgain_p5b N d xs c r (R_isAgain_p5 N r n) ih x1 x2 x3 x4
set_option maxHeartbeats 8000000 in
set_option maxRecDepth 100000 in
theorem t_R_isAgain (N d : Nat) (xs : List Int32) (c : St) (r : St) (x1 : Int32) (x2 : Int32) : Ok (mBig (mRoL xs) (d + 1)) (mRoL xs) 2 mK233 (fun p : Int32 => (some (.int p), HP c r)) (R_isAgain N r x1 x2) 0 [some (.ref 115), some (.int x1), some (.int x2), none, none] [] (HP c r) := by
  unfold R_isAgain
  refine Ok_blk 4 (pc2 := 5) (lo2 := [some (.ref 115), some (.int x1), some (.int x2), some (.int 1), some (.int 1)]) (st2 := []) rfl ?_
  refine Ok_drop (lo0 := [some (.ref 115), some (.int x1), some (.int x2), some (.int 1), some (.int 1)]) ⟨Or.inr rfl, Or.inr rfl, Or.inr rfl, Or.inr rfl, Or.inr rfl, trivial⟩ ?_
  exact t_R_isAgain_p5 N d xs c r N x1 x2 1 1
set_option maxHeartbeats 8000000 in
set_option maxRecDepth 100000 in
theorem tm_R_isAgain (N d : Nat) (xs : List Int32) (c r : St) (a1 : Int32) (a2 : Int32) (p : Int32) (hp : R_isAgain N r a1 a2 = some p) : mBig (mRoL xs) (d + 2) 233 [.ref 115, .int a1, .int a2] (HP c r) (some (.int p)) (HP c r) 0 0 := mBig_of (by decide) rfl rfl rfl rfl (t_R_isAgain N d xs c r a1 a2 p hp)
/-! ColdHoldsModel.turns(I)I, from (('r', 115), 'i') -/
def R_turns_p27b (N : Nat) (kb18 : St → Int32 → Int32 → Option (Int32 × St)) (kb27 : St → Int32 → Int32 → Int32 → Option (Int32 × St)) (r : St) (x1 : Int32) (x2 : Int32) (x3 : Int32) : Option (Int32 × St) :=
  (if 200 ≤ (x2 + x3) then kb18 r x1 (x2 + 1) else (R_isAgain N r x2 x3).bind fun p6 => (if p6 = 0 then kb27 r x1 x2 (x3 + 1) else (if ¬ x1 = 0 then some (x3, r) else some (x2, r))))
def R_turns_p27 (N : Nat) (kb18 : St → Int32 → Int32 → Option (Int32 × St)) : Nat → St → Int32 → Int32 → Int32 → Option (Int32 × St)
  | 0 => fun _ _ _ _ => none
  | n + 1 => R_turns_p27b N kb18 (R_turns_p27 N kb18 n)
def R_turns_p18b (N : Nat) (kb18 : St → Int32 → Int32 → Option (Int32 × St)) (r : St) (x1 : Int32) (x2 : Int32) : Option (Int32 × St) :=
  (if 200 ≤ x2 then some ((-1), r) else R_turns_p27 N kb18 N r x1 x2 1)
def R_turns_p18 (N : Nat) : Nat → St → Int32 → Int32 → Option (Int32 × St)
  | 0 => fun _ _ _ => none
  | n + 1 => R_turns_p18b N (R_turns_p18 N n)
def R_turns (N : Nat) (r : St) (x1 : Int32) : Option (Int32 × St) :=
  (R_in N x1 0 1).bind fun p1 => (if ¬ p1 = 0 then (R_goWeeks N r).bind fun p3 => R_turns_p18 N N p3 x1 0 else some ((-102), r))
set_option maxHeartbeats 8000000 in
set_option maxRecDepth 100000 in
theorem t_R_turns_p27b (N d : Nat) (xs : List Int32) (c : St) (kb18 : St → Int32 → Int32 → Option (Int32 × St)) (hb18 : ∀ (r : St) (x1 : Int32) (x2 : Int32), Ok (mBig (mRoL xs) (d + 2)) (mRoL xs) 1 mK234 (fun p : Int32 × St => (some (.int p.1), HP c p.2)) (kb18 r x1 x2) 18 [some (.ref 115), some (.int x1), some (.int x2), none] [] (HP c r)) (kb27 : St → Int32 → Int32 → Int32 → Option (Int32 × St)) (hb27 : ∀ (r : St) (x1 : Int32) (x2 : Int32) (x3 : Int32), Ok (mBig (mRoL xs) (d + 2)) (mRoL xs) 1 mK234 (fun p : Int32 × St => (some (.int p.1), HP c p.2)) (kb27 r x1 x2 x3) 27 [some (.ref 115), some (.int x1), some (.int x2), some (.int x3)] [] (HP c r)) (r : St) (x1 : Int32) (x2 : Int32) (x3 : Int32) : Ok (mBig (mRoL xs) (d + 2)) (mRoL xs) 1 mK234 (fun p : Int32 × St => (some (.int p.1), HP c p.2)) (R_turns_p27b N kb18 kb27 r x1 x2 x3) 27 [some (.ref 115), some (.int x1), some (.int x2), some (.int x3)] [] (HP c r) := by
  unfold R_turns_p27b
  refine Ok_blk 5 (pc2 := (if 200 ≤ (x2 + x3) then 61 else 36)) (lo2 := [some (.ref 115), some (.int x1), some (.int x2), some (.int x3)]) (st2 := []) rfl ?_
  refine Ok_if (fun h5 => ?_) (fun h5 => ?_)
  · refine Ok_blk 2 (pc2 := 18) (lo2 := [some (.ref 115), some (.int x1), some (.int (x2 + 1)), some (.int x3)]) (st2 := []) rfl ?_
    refine Ok_drop (lo0 := [some (.ref 115), some (.int x1), some (.int (x2 + 1)), none]) ⟨Or.inr rfl, Or.inr rfl, Or.inr rfl, Or.inl rfl, trivial⟩ ?_
    exact hb18 r x1 (x2 + 1)
  · refine Ok_blk 3 (pc2 := 39) (lo2 := [some (.ref 115), some (.int x1), some (.int x2), some (.int x3)]) (st2 := [.int x3, .int x2, .ref 115]) rfl ?_
    refine Ok_call (y := 233) (as := [.ref 115, .int x2, .int x3]) (rest := []) (w := fun p6 => some (.int p6)) (h1 := fun p6 => HP c r) rfl rfl (fun x hx => tm_R_isAgain N d xs c r x2 x3 x hx) (fun p6 hp6 => ?_)
    refine Ok_blk 1 (pc2 := (if p6 = 0 then 55 else 45)) (lo2 := [some (.ref 115), some (.int x1), some (.int x2), some (.int x3)]) (st2 := []) rfl ?_
    refine Ok_if (fun h7 => ?_) (fun h7 => ?_)
    · refine Ok_blk 2 (pc2 := 27) (lo2 := [some (.ref 115), some (.int x1), some (.int x2), some (.int (x3 + 1))]) (st2 := []) rfl ?_
      refine Ok_drop (lo0 := [some (.ref 115), some (.int x1), some (.int x2), some (.int (x3 + 1))]) ⟨Or.inr rfl, Or.inr rfl, Or.inr rfl, Or.inr rfl, trivial⟩ ?_
      exact hb27 r x1 x2 (x3 + 1)
    · refine Ok_blk 2 (pc2 := (if ¬ x1 = 0 then 53 else 49)) (lo2 := [some (.ref 115), some (.int x1), some (.int x2), some (.int x3)]) (st2 := []) rfl ?_
      refine Ok_if (fun h8 => ?_) (fun h8 => ?_)
      · refine Ok_blk 1 (pc2 := 54) (lo2 := [some (.ref 115), some (.int x1), some (.int x2), some (.int x3)]) (st2 := [.int x3]) rfl ?_
        exact Ok_ret rfl rfl rfl
      · refine Ok_blk 2 (pc2 := 54) (lo2 := [some (.ref 115), some (.int x1), some (.int x2), some (.int x3)]) (st2 := [.int x2]) rfl ?_
        exact Ok_ret rfl rfl rfl
set_option maxHeartbeats 8000000 in
set_option maxRecDepth 100000 in
theorem t_R_turns_p27 (N d : Nat) (xs : List Int32) (c : St) (kb18 : St → Int32 → Int32 → Option (Int32 × St)) (hb18 : ∀ (r : St) (x1 : Int32) (x2 : Int32), Ok (mBig (mRoL xs) (d + 2)) (mRoL xs) 1 mK234 (fun p : Int32 × St => (some (.int p.1), HP c p.2)) (kb18 r x1 x2) 18 [some (.ref 115), some (.int x1), some (.int x2), none] [] (HP c r)) : ∀ (n : Nat) (r : St) (x1 : Int32) (x2 : Int32) (x3 : Int32), Ok (mBig (mRoL xs) (d + 2)) (mRoL xs) 1 mK234 (fun p : Int32 × St => (some (.int p.1), HP c p.2)) (R_turns_p27 N kb18 n r x1 x2 x3) 27 [some (.ref 115), some (.int x1), some (.int x2), some (.int x3)] [] (HP c r) := by
  intro n
  induction n with
  | zero => intro r x1 x2 x3; exact Ok_none
  | succ n ih => intro r x1 x2 x3; exact t_R_turns_p27b N d xs c kb18 hb18 (R_turns_p27 N kb18 n) ih r x1 x2 x3
set_option maxHeartbeats 8000000 in
set_option maxRecDepth 100000 in
theorem t_R_turns_p18b (N d : Nat) (xs : List Int32) (c : St) (kb18 : St → Int32 → Int32 → Option (Int32 × St)) (hb18 : ∀ (r : St) (x1 : Int32) (x2 : Int32), Ok (mBig (mRoL xs) (d + 2)) (mRoL xs) 1 mK234 (fun p : Int32 × St => (some (.int p.1), HP c p.2)) (kb18 r x1 x2) 18 [some (.ref 115), some (.int x1), some (.int x2), none] [] (HP c r)) (r : St) (x1 : Int32) (x2 : Int32) : Ok (mBig (mRoL xs) (d + 2)) (mRoL xs) 1 mK234 (fun p : Int32 × St => (some (.int p.1), HP c p.2)) (R_turns_p18b N kb18 r x1 x2) 18 [some (.ref 115), some (.int x1), some (.int x2), none] [] (HP c r) := by
  unfold R_turns_p18b
  refine Ok_blk 3 (pc2 := (if 200 ≤ x2 then 67 else 25)) (lo2 := [some (.ref 115), some (.int x1), some (.int x2), none]) (st2 := []) rfl ?_
  refine Ok_if (fun h4 => ?_) (fun h4 => ?_)
  · refine Ok_blk 1 (pc2 := 68) (lo2 := [some (.ref 115), some (.int x1), some (.int x2), none]) (st2 := [.int (-1)]) rfl ?_
    exact Ok_ret rfl rfl rfl
  · refine Ok_blk 2 (pc2 := 27) (lo2 := [some (.ref 115), some (.int x1), some (.int x2), some (.int 1)]) (st2 := []) rfl ?_
    refine Ok_drop (lo0 := [some (.ref 115), some (.int x1), some (.int x2), some (.int 1)]) ⟨Or.inr rfl, Or.inr rfl, Or.inr rfl, Or.inr rfl, trivial⟩ ?_
    exact t_R_turns_p27 N d xs c kb18 hb18 N r x1 x2 1
set_option maxHeartbeats 8000000 in
set_option maxRecDepth 100000 in
theorem t_R_turns_p18 (N d : Nat) (xs : List Int32) (c : St) : ∀ (n : Nat) (r : St) (x1 : Int32) (x2 : Int32), Ok (mBig (mRoL xs) (d + 2)) (mRoL xs) 1 mK234 (fun p : Int32 × St => (some (.int p.1), HP c p.2)) (R_turns_p18 N n r x1 x2) 18 [some (.ref 115), some (.int x1), some (.int x2), none] [] (HP c r) := by
  intro n
  induction n with
  | zero => intro r x1 x2; exact Ok_none
  | succ n ih => intro r x1 x2; exact t_R_turns_p18b N d xs c (R_turns_p18 N n) ih r x1 x2
set_option maxHeartbeats 8000000 in
set_option maxRecDepth 100000 in
theorem t_R_turns (N d : Nat) (xs : List Int32) (c : St) (r : St) (x1 : Int32) : Ok (mBig (mRoL xs) (d + 2)) (mRoL xs) 1 mK234 (fun p : Int32 × St => (some (.int p.1), HP c p.2)) (R_turns N r x1) 0 [some (.ref 115), some (.int x1), none, none] [] (HP c r) := by
  unfold R_turns
  refine Ok_blk 3 (pc2 := 3) (lo2 := [some (.ref 115), some (.int x1), none, none]) (st2 := [.int 1, .int 0, .int x1]) rfl ?_
  refine Ok_call (y := 164) (as := [.int x1, .int 0, .int 1]) (rest := []) (w := fun p1 => some (.int p1)) (h1 := fun p1 => HP c r) rfl rfl (fun x hx => tm_R_in N (d + 1) xs c r x1 0 1 x hx) (fun p1 hp1 => ?_)
  refine Ok_blk 1 (pc2 := (if ¬ p1 = 0 then 12 else 9)) (lo2 := [some (.ref 115), some (.int x1), none, none]) (st2 := []) rfl ?_
  refine Ok_if (fun h2 => ?_) (fun h2 => ?_)
  · refine Ok_blk 1 (pc2 := 13) (lo2 := [some (.ref 115), some (.int x1), none, none]) (st2 := [.ref 115]) rfl ?_
    refine Ok_call (y := 231) (as := [.ref 115]) (rest := []) (w := fun p3 => none) (h1 := fun p3 => HP c p3) rfl rfl (fun x hx => tm_R_goWeeks N d xs c r x hx) (fun p3 hp3 => ?_)
    refine Ok_blk 2 (pc2 := 18) (lo2 := [some (.ref 115), some (.int x1), some (.int 0), none]) (st2 := []) rfl ?_
    refine Ok_drop (lo0 := [some (.ref 115), some (.int x1), some (.int 0), none]) ⟨Or.inr rfl, Or.inr rfl, Or.inr rfl, Or.inl rfl, trivial⟩ ?_
    exact t_R_turns_p18 N d xs c N p3 x1 0
  · refine Ok_blk 1 (pc2 := 11) (lo2 := [some (.ref 115), some (.int x1), none, none]) (st2 := [.int (-102)]) rfl ?_
    exact Ok_ret rfl rfl rfl
set_option maxHeartbeats 8000000 in
set_option maxRecDepth 100000 in
theorem tm_R_turns (N d : Nat) (xs : List Int32) (c r : St) (a1 : Int32) (p : Int32 × St) (hp : R_turns N r a1 = some p) : mBig (mRoL xs) (d + 3) 234 [.ref 115, .int a1] (HP c r) (some (.int p.1)) (HP c p.2) 0 0 := mBig_of (by decide) rfl rfl rfl rfl (t_R_turns N d xs c r a1 p hp)
/-! ColdHolds$Farms.add(II)I, from (('r', 88), 'i', 'i') -/
def Farms_add (N : Nat) (c : St) (x1 : Int32) (x2 : Int32) : Option (Int32 × St) :=
  (if (gI c 25) < 8 then (sto (gA c 81) (gI c 25) x1).bind fun w2 => (sto (gA (sA c 81 w2) 82) (gI (sA c 81 w2) 25) x2).bind fun w3 => some ((gI (sI (sA (sA c 81 w2) 82 w3) 25 ((gI (sA (sA c 81 w2) 82 w3) 25) + 1)) 25) - 1, sI (sA (sA c 81 w2) 82 w3) 25 ((gI (sA (sA c 81 w2) 82 w3) 25) + 1)) else some ((-104), c))
set_option maxHeartbeats 8000000 in
set_option maxRecDepth 100000 in
theorem t_Farms_add (N d : Nat) (xs : List Int32) (r : St) (c : St) (x1 : Int32) (x2 : Int32) : Ok (mBig (mRoL xs) (d)) (mRoL xs) 1 mK22 (fun p : Int32 × St => (some (.int p.1), HP p.2 r)) (Farms_add N c x1 x2) 0 [some (.ref 88), some (.int x1), some (.int x2)] [] (HP c r) := by
  unfold Farms_add
  refine Ok_blk 4 (pc2 := (if (gI c 25) < 8 then 12 else 9)) (lo2 := [some (.ref 88), some (.int x1), some (.int x2)]) (st2 := []) rfl ?_
  refine Ok_if (fun h1 => ?_) (fun h1 => ?_)
  · refine Ok_blk 5 (pc2 := 21) (lo2 := [some (.ref 88), some (.int x1), some (.int x2)]) (st2 := [.int x1, .int (gI c 25), .ref 98]) rfl ?_
    refine Ok_st (l := (gA c 81)) (hn := fun l' => HP (sA c 81 l') r) rfl rfl (fun l' => sa_98 _ _ l') (fun w2 hw2 => ?_)
    refine Ok_blk 5 (pc2 := 31) (lo2 := [some (.ref 88), some (.int x1), some (.int x2)]) (st2 := [.int x2, .int (gI (sA c 81 w2) 25), .ref 99]) rfl ?_
    refine Ok_st (l := (gA (sA c 81 w2) 82)) (hn := fun l' => HP (sA (sA c 81 w2) 82 l') r) rfl rfl (fun l' => sa_99 _ _ l') (fun w3 hw3 => ?_)
    refine Ok_heap 6 (pc2 := 42) (lo2 := [some (.ref 88), some (.int x1), some (.int x2)]) (st2 := []) (h2 := HP (sI (sA (sA c 81 w2) 82 w3) 25 ((gI (sA (sA c 81 w2) 82 w3) 25) + 1)) r) rfl (st_88_1 _ _ _) ?_
    refine Ok_blk 4 (pc2 := 48) (lo2 := [some (.ref 88), some (.int x1), some (.int x2)]) (st2 := [.int ((gI (sI (sA (sA c 81 w2) 82 w3) 25 ((gI (sA (sA c 81 w2) 82 w3) 25) + 1)) 25) - 1)]) rfl ?_
    exact Ok_ret rfl rfl rfl
  · refine Ok_blk 1 (pc2 := 11) (lo2 := [some (.ref 88), some (.int x1), some (.int x2)]) (st2 := [.int (-104)]) rfl ?_
    exact Ok_ret rfl rfl rfl
set_option maxHeartbeats 8000000 in
set_option maxRecDepth 100000 in
theorem tm_Farms_add (N d : Nat) (xs : List Int32) (c r : St) (a1 : Int32) (a2 : Int32) (p : Int32 × St) (hp : Farms_add N c a1 a2 = some p) : mBig (mRoL xs) (d + 1) 22 [.ref 88, .int a1, .int a2] (HP c r) (some (.int p.1)) (HP p.2 r) 0 0 := mBig_of (by decide) rfl rfl rfl rfl (t_Farms_add N d xs r c a1 a2 p hp)
/-! ColdHolds.farm(II)I, from (('r', 0), 'i', 'i') -/
def C_farm_p23 (N : Nat) (c : St) : Option (Int32 × St) :=
  some ((-102), c)
def C_farm (N : Nat) (c : St) (x1 : Int32) (x2 : Int32) : Option (Int32 × St) :=
  (C_within N x1 0 9).bind fun p1 => (if p1 = 0 then C_farm_p23 N c else (C_within N x2 (-9999) 9999).bind fun p3 => (if ¬ p3 = 0 then (Farms_add N c x1 x2).bind fun p5 => some (p5.1, p5.2) else C_farm_p23 N c))
set_option maxHeartbeats 8000000 in
set_option maxRecDepth 100000 in
theorem t_C_farm_p23 (N d : Nat) (xs : List Int32) (r : St) (c : St) : Ok (mBig (mRoL xs) (d + 1)) (mRoL xs) 1 mK147 (fun p : Int32 × St => (some (.int p.1), HP p.2 r)) (C_farm_p23 N c) 23 [none, none, none] [] (HP c r) := by
  unfold C_farm_p23
  refine Ok_blk 1 (pc2 := 25) (lo2 := [none, none, none]) (st2 := [.int (-102)]) rfl ?_
  exact Ok_ret rfl rfl rfl
set_option maxHeartbeats 8000000 in
set_option maxRecDepth 100000 in
theorem t_C_farm (N d : Nat) (xs : List Int32) (r : St) (c : St) (x1 : Int32) (x2 : Int32) : Ok (mBig (mRoL xs) (d + 1)) (mRoL xs) 1 mK147 (fun p : Int32 × St => (some (.int p.1), HP p.2 r)) (C_farm N c x1 x2) 0 [some (.ref 0), some (.int x1), some (.int x2)] [] (HP c r) := by
  unfold C_farm
  refine Ok_blk 3 (pc2 := 4) (lo2 := [some (.ref 0), some (.int x1), some (.int x2)]) (st2 := [.int 9, .int 0, .int x1]) rfl ?_
  refine Ok_call (y := 102) (as := [.int x1, .int 0, .int 9]) (rest := []) (w := fun p1 => some (.int p1)) (h1 := fun p1 => HP c r) rfl rfl (fun x hx => tm_C_within N d xs c r x1 0 9 x hx) (fun p1 hp1 => ?_)
  refine Ok_blk 1 (pc2 := (if p1 = 0 then 23 else 10)) (lo2 := [some (.ref 0), some (.int x1), some (.int x2)]) (st2 := []) rfl ?_
  refine Ok_if (fun h2 => ?_) (fun h2 => ?_)
  · refine Ok_drop (lo0 := [none, none, none]) ⟨Or.inl rfl, Or.inl rfl, Or.inl rfl, trivial⟩ ?_
    exact t_C_farm_p23 N d xs r c
  · refine Ok_blk 3 (pc2 := 17) (lo2 := [some (.ref 0), some (.int x1), some (.int x2)]) (st2 := [.int 9999, .int (-9999), .int x2]) rfl ?_
    refine Ok_call (y := 102) (as := [.int x2, .int (-9999), .int 9999]) (rest := []) (w := fun p3 => some (.int p3)) (h1 := fun p3 => HP c r) rfl rfl (fun x hx => tm_C_within N d xs c r x2 (-9999) 9999 x hx) (fun p3 hp3 => ?_)
    refine Ok_blk 1 (pc2 := (if ¬ p3 = 0 then 26 else 23)) (lo2 := [some (.ref 0), some (.int x1), some (.int x2)]) (st2 := []) rfl ?_
    refine Ok_if (fun h4 => ?_) (fun h4 => ?_)
    · refine Ok_blk 4 (pc2 := 32) (lo2 := [some (.ref 0), some (.int x1), some (.int x2)]) (st2 := [.int x2, .int x1, .ref 88]) rfl ?_
      refine Ok_call (y := 22) (as := [.ref 88, .int x1, .int x2]) (rest := []) (w := fun p5 => some (.int p5.1)) (h1 := fun p5 => HP p5.2 r) rfl rfl (fun x hx => tm_Farms_add N d xs c r x1 x2 x hx) (fun p5 hp5 => ?_)
      exact Ok_ret rfl rfl rfl
    · refine Ok_drop (lo0 := [none, none, none]) ⟨Or.inl rfl, Or.inl rfl, Or.inl rfl, trivial⟩ ?_
      exact t_C_farm_p23 N d xs r c
set_option maxHeartbeats 8000000 in
set_option maxRecDepth 100000 in
theorem tm_C_farm (N d : Nat) (xs : List Int32) (c r : St) (a1 : Int32) (a2 : Int32) (p : Int32 × St) (hp : C_farm N c a1 a2 = some p) : mBig (mRoL xs) (d + 2) 147 [.ref 0, .int a1, .int a2] (HP c r) (some (.int p.1)) (HP p.2 r) 0 0 := mBig_of (by decide) rfl rfl rfl rfl (t_C_farm N d xs r c a1 a2 p hp)
/-! ColdHoldsModel.farm(II)I, from (('r', 115), 'i', 'i') -/
def R_farm_p23 (N : Nat) (r : St) : Option (Int32 × St) :=
  some ((-102), r)
def R_farm (N : Nat) (r : St) (x1 : Int32) (x2 : Int32) : Option (Int32 × St) :=
  (R_in N x1 0 9).bind fun p1 => (if p1 = 0 then R_farm_p23 N r else (R_in N x2 (-9999) 9999).bind fun p3 => (if ¬ p3 = 0 then (if ¬ (gI r 20) = 8 then (sto (gA r 22) (gI r 20) x1).bind fun w6 => (sto (gA (sA r 22 w6) 23) (gI (sA r 22 w6) 20) x2).bind fun w7 => some ((gI (sI (sA (sA r 22 w6) 23 w7) 20 ((gI (sA (sA r 22 w6) 23 w7) 20) + 1)) 20) - 1, sI (sA (sA r 22 w6) 23 w7) 20 ((gI (sA (sA r 22 w6) 23 w7) 20) + 1)) else some ((-104), r)) else R_farm_p23 N r))
set_option maxHeartbeats 8000000 in
set_option maxRecDepth 100000 in
theorem t_R_farm_p23 (N d : Nat) (xs : List Int32) (c : St) (r : St) : Ok (mBig (mRoL xs) (d + 1)) (mRoL xs) 1 mK235 (fun p : Int32 × St => (some (.int p.1), HP c p.2)) (R_farm_p23 N r) 23 [none, none, none] [] (HP c r) := by
  unfold R_farm_p23
  refine Ok_blk 1 (pc2 := 25) (lo2 := [none, none, none]) (st2 := [.int (-102)]) rfl ?_
  exact Ok_ret rfl rfl rfl
set_option maxHeartbeats 8000000 in
set_option maxRecDepth 100000 in
theorem t_R_farm (N d : Nat) (xs : List Int32) (c : St) (r : St) (x1 : Int32) (x2 : Int32) : Ok (mBig (mRoL xs) (d + 1)) (mRoL xs) 1 mK235 (fun p : Int32 × St => (some (.int p.1), HP c p.2)) (R_farm N r x1 x2) 0 [some (.ref 115), some (.int x1), some (.int x2)] [] (HP c r) := by
  unfold R_farm
  refine Ok_blk 3 (pc2 := 4) (lo2 := [some (.ref 115), some (.int x1), some (.int x2)]) (st2 := [.int 9, .int 0, .int x1]) rfl ?_
  refine Ok_call (y := 164) (as := [.int x1, .int 0, .int 9]) (rest := []) (w := fun p1 => some (.int p1)) (h1 := fun p1 => HP c r) rfl rfl (fun x hx => tm_R_in N d xs c r x1 0 9 x hx) (fun p1 hp1 => ?_)
  refine Ok_blk 1 (pc2 := (if p1 = 0 then 23 else 10)) (lo2 := [some (.ref 115), some (.int x1), some (.int x2)]) (st2 := []) rfl ?_
  refine Ok_if (fun h2 => ?_) (fun h2 => ?_)
  · refine Ok_drop (lo0 := [none, none, none]) ⟨Or.inl rfl, Or.inl rfl, Or.inl rfl, trivial⟩ ?_
    exact t_R_farm_p23 N d xs c r
  · refine Ok_blk 3 (pc2 := 17) (lo2 := [some (.ref 115), some (.int x1), some (.int x2)]) (st2 := [.int 9999, .int (-9999), .int x2]) rfl ?_
    refine Ok_call (y := 164) (as := [.int x2, .int (-9999), .int 9999]) (rest := []) (w := fun p3 => some (.int p3)) (h1 := fun p3 => HP c r) rfl rfl (fun x hx => tm_R_in N d xs c r x2 (-9999) 9999 x hx) (fun p3 hp3 => ?_)
    refine Ok_blk 1 (pc2 := (if ¬ p3 = 0 then 26 else 23)) (lo2 := [some (.ref 115), some (.int x1), some (.int x2)]) (st2 := []) rfl ?_
    refine Ok_if (fun h4 => ?_) (fun h4 => ?_)
    · refine Ok_blk 4 (pc2 := (if ¬ (gI r 20) = 8 then 38 else 35)) (lo2 := [some (.ref 115), some (.int x1), some (.int x2)]) (st2 := []) rfl ?_
      refine Ok_if (fun h5 => ?_) (fun h5 => ?_)
      · refine Ok_blk 5 (pc2 := 47) (lo2 := [some (.ref 115), some (.int x1), some (.int x2)]) (st2 := [.int x1, .int (gI r 20), .ref 138]) rfl ?_
        refine Ok_st (l := (gA r 22)) (hn := fun l' => HP c (sA r 22 l')) rfl rfl (fun l' => sa_138 _ _ l') (fun w6 hw6 => ?_)
        refine Ok_blk 5 (pc2 := 57) (lo2 := [some (.ref 115), some (.int x1), some (.int x2)]) (st2 := [.int x2, .int (gI (sA r 22 w6) 20), .ref 139]) rfl ?_
        refine Ok_st (l := (gA (sA r 22 w6) 23)) (hn := fun l' => HP c (sA (sA r 22 w6) 23 l')) rfl rfl (fun l' => sa_139 _ _ l') (fun w7 hw7 => ?_)
        refine Ok_heap 6 (pc2 := 68) (lo2 := [some (.ref 115), some (.int x1), some (.int x2)]) (st2 := []) (h2 := HP c (sI (sA (sA r 22 w6) 23 w7) 20 ((gI (sA (sA r 22 w6) 23 w7) 20) + 1))) rfl (st_115_42 _ _ _) ?_
        refine Ok_blk 4 (pc2 := 74) (lo2 := [some (.ref 115), some (.int x1), some (.int x2)]) (st2 := [.int ((gI (sI (sA (sA r 22 w6) 23 w7) 20 ((gI (sA (sA r 22 w6) 23 w7) 20) + 1)) 20) - 1)]) rfl ?_
        exact Ok_ret rfl rfl rfl
      · refine Ok_blk 1 (pc2 := 37) (lo2 := [some (.ref 115), some (.int x1), some (.int x2)]) (st2 := [.int (-104)]) rfl ?_
        exact Ok_ret rfl rfl rfl
    · refine Ok_drop (lo0 := [none, none, none]) ⟨Or.inl rfl, Or.inl rfl, Or.inl rfl, trivial⟩ ?_
      exact t_R_farm_p23 N d xs c r
set_option maxHeartbeats 8000000 in
set_option maxRecDepth 100000 in
theorem tm_R_farm (N d : Nat) (xs : List Int32) (c r : St) (a1 : Int32) (a2 : Int32) (p : Int32 × St) (hp : R_farm N r a1 a2 = some p) : mBig (mRoL xs) (d + 2) 235 [.ref 115, .int a1, .int a2] (HP c r) (some (.int p.1)) (HP c p.2) 0 0 := mBig_of (by decide) rfl rfl rfl rfl (t_R_farm N d xs c r a1 a2 p hp)
/-! ColdHolds$Farms.isOne(I)Z, from (('r', 88), 'i') -/
def Farms_isOne (N : Nat) (c : St) (x1 : Int32) : Option (Int32) :=
  (C_within N x1 0 ((gI c 25) - 1)).bind fun p1 => some p1
set_option maxHeartbeats 8000000 in
set_option maxRecDepth 100000 in
theorem t_Farms_isOne (N d : Nat) (xs : List Int32) (c : St) (r : St) (x1 : Int32) : Ok (mBig (mRoL xs) (d + 1)) (mRoL xs) 2 mK21 (fun p : Int32 => (some (.int p), HP c r)) (Farms_isOne N c x1) 0 [some (.ref 88), some (.int x1)] [] (HP c r) := by
  unfold Farms_isOne
  refine Ok_blk 6 (pc2 := 8) (lo2 := [some (.ref 88), some (.int x1)]) (st2 := [.int ((gI c 25) - 1), .int 0, .int x1]) rfl ?_
  refine Ok_call (y := 102) (as := [.int x1, .int 0, .int ((gI c 25) - 1)]) (rest := []) (w := fun p1 => some (.int p1)) (h1 := fun p1 => HP c r) rfl rfl (fun x hx => tm_C_within N d xs c r x1 0 ((gI c 25) - 1) x hx) (fun p1 hp1 => ?_)
  exact Ok_rez (mBig_z (tm_C_within N d xs c r x1 0 ((gI c 25) - 1) p1 hp1) rfl) rfl rfl
set_option maxHeartbeats 8000000 in
set_option maxRecDepth 100000 in
theorem tm_Farms_isOne (N d : Nat) (xs : List Int32) (c r : St) (a1 : Int32) (p : Int32) (hp : Farms_isOne N c a1 = some p) : mBig (mRoL xs) (d + 2) 21 [.ref 88, .int a1] (HP c r) (some (.int p)) (HP c r) 0 0 := mBig_of (by decide) rfl rfl rfl rfl (t_Farms_isOne N d xs c r a1 p hp)
/-! ColdHolds.owe(III)I, from (('r', 0), 'i', 'i', 'i') -/
def C_owe_p27 (N : Nat) (c : St) : Option (Int32 × St) :=
  some ((-101), c)
def C_owe (N : Nat) (c : St) (x1 : Int32) (x2 : Int32) (x3 : Int32) : Option (Int32 × St) :=
  (Farms_isOne N c x1).bind fun p1 => (if p1 = 0 then C_owe_p27 N c else (Farms_isOne N c x2).bind fun p3 => (if p3 = 0 then C_owe_p27 N c else (if ¬ x1 = x2 then (C_within N x3 0 999).bind fun p6 => (if ¬ p6 = 0 then (rwi x1 8).bind fun q8 => (C_change_7 N (73 + q8) c x2 x3).bind fun p9 => some (p9.1, p9.2) else some ((-102), c)) else C_owe_p27 N c)))
set_option maxHeartbeats 8000000 in
set_option maxRecDepth 100000 in
theorem t_C_owe_p27 (N d : Nat) (xs : List Int32) (r : St) (c : St) : Ok (mBig (mRoL xs) (d + 2)) (mRoL xs) 1 mK148 (fun p : Int32 × St => (some (.int p.1), HP p.2 r)) (C_owe_p27 N c) 27 [none, none, none, none] [] (HP c r) := by
  unfold C_owe_p27
  refine Ok_blk 1 (pc2 := 29) (lo2 := [none, none, none, none]) (st2 := [.int (-101)]) rfl ?_
  exact Ok_ret rfl rfl rfl
set_option maxHeartbeats 8000000 in
set_option maxRecDepth 100000 in
theorem t_C_owe (N d : Nat) (xs : List Int32) (r : St) (c : St) (x1 : Int32) (x2 : Int32) (x3 : Int32) : Ok (mBig (mRoL xs) (d + 2)) (mRoL xs) 1 mK148 (fun p : Int32 × St => (some (.int p.1), HP p.2 r)) (C_owe N c x1 x2 x3) 0 [some (.ref 0), some (.int x1), some (.int x2), some (.int x3)] [] (HP c r) := by
  unfold C_owe
  refine Ok_blk 3 (pc2 := 5) (lo2 := [some (.ref 0), some (.int x1), some (.int x2), some (.int x3)]) (st2 := [.int x1, .ref 88]) rfl ?_
  refine Ok_call (y := 21) (as := [.ref 88, .int x1]) (rest := []) (w := fun p1 => some (.int p1)) (h1 := fun p1 => HP c r) rfl rfl (fun x hx => tm_Farms_isOne N d xs c r x1 x hx) (fun p1 hp1 => ?_)
  refine Ok_blk 1 (pc2 := (if p1 = 0 then 27 else 11)) (lo2 := [some (.ref 0), some (.int x1), some (.int x2), some (.int x3)]) (st2 := []) rfl ?_
  refine Ok_if (fun h2 => ?_) (fun h2 => ?_)
  · refine Ok_drop (lo0 := [none, none, none, none]) ⟨Or.inl rfl, Or.inl rfl, Or.inl rfl, Or.inl rfl, trivial⟩ ?_
    exact t_C_owe_p27 N d xs r c
  · refine Ok_blk 3 (pc2 := 16) (lo2 := [some (.ref 0), some (.int x1), some (.int x2), some (.int x3)]) (st2 := [.int x2, .ref 88]) rfl ?_
    refine Ok_call (y := 21) (as := [.ref 88, .int x2]) (rest := []) (w := fun p3 => some (.int p3)) (h1 := fun p3 => HP c r) rfl rfl (fun x hx => tm_Farms_isOne N d xs c r x2 x hx) (fun p3 hp3 => ?_)
    refine Ok_blk 1 (pc2 := (if p3 = 0 then 27 else 22)) (lo2 := [some (.ref 0), some (.int x1), some (.int x2), some (.int x3)]) (st2 := []) rfl ?_
    refine Ok_if (fun h4 => ?_) (fun h4 => ?_)
    · refine Ok_drop (lo0 := [none, none, none, none]) ⟨Or.inl rfl, Or.inl rfl, Or.inl rfl, Or.inl rfl, trivial⟩ ?_
      exact t_C_owe_p27 N d xs r c
    · refine Ok_blk 3 (pc2 := (if ¬ x1 = x2 then 30 else 27)) (lo2 := [some (.ref 0), some (.int x1), some (.int x2), some (.int x3)]) (st2 := []) rfl ?_
      refine Ok_if (fun h5 => ?_) (fun h5 => ?_)
      · refine Ok_blk 3 (pc2 := 35) (lo2 := [some (.ref 0), some (.int x1), some (.int x2), some (.int x3)]) (st2 := [.int 999, .int 0, .int x3]) rfl ?_
        refine Ok_call (y := 102) (as := [.int x3, .int 0, .int 999]) (rest := []) (w := fun p6 => some (.int p6)) (h1 := fun p6 => HP c r) rfl rfl (fun x hx => tm_C_within N (d + 1) xs c r x3 0 999 x hx) (fun p6 hp6 => ?_)
        refine Ok_blk 1 (pc2 := (if ¬ p6 = 0 then 44 else 41)) (lo2 := [some (.ref 0), some (.int x1), some (.int x2), some (.int x3)]) (st2 := []) rfl ?_
        refine Ok_if (fun h7 => ?_) (fun h7 => ?_)
        · refine Ok_blk 4 (pc2 := 52) (lo2 := [some (.ref 0), some (.int x1), some (.int x2), some (.int x3)]) (st2 := [.int x1, .ref 89]) rfl ?_
          refine Ok_rw (b := 90) (n := 8) rfl rfl (fun j h => rowl_89 j h) (fun q8 hq8 => ?_)
          refine Ok_blk 2 (pc2 := 55) (lo2 := [some (.ref 0), some (.int x1), some (.int x2), some (.int x3)]) (st2 := [.int x3, .int x2, .ref (90 + q8)]) rfl ?_
          refine Ok_call (y := 105) (as := [.ref (90 + q8), .int x2, .int x3]) (rest := []) (w := fun p9 => some (.int p9.1)) (h1 := fun p9 => HP p9.2 r) rfl rfl (fun x hx => tm_C_change_7 N (d + 1) xs c r (90 + q8) (73 + q8) (rows_89 hq8) x2 x3 x hx) (fun p9 hp9 => ?_)
          exact Ok_ret rfl rfl rfl
        · refine Ok_blk 1 (pc2 := 43) (lo2 := [some (.ref 0), some (.int x1), some (.int x2), some (.int x3)]) (st2 := [.int (-102)]) rfl ?_
          exact Ok_ret rfl rfl rfl
      · refine Ok_drop (lo0 := [none, none, none, none]) ⟨Or.inl rfl, Or.inl rfl, Or.inl rfl, Or.inl rfl, trivial⟩ ?_
        exact t_C_owe_p27 N d xs r c
set_option maxHeartbeats 8000000 in
set_option maxRecDepth 100000 in
theorem tm_C_owe (N d : Nat) (xs : List Int32) (c r : St) (a1 : Int32) (a2 : Int32) (a3 : Int32) (p : Int32 × St) (hp : C_owe N c a1 a2 a3 = some p) : mBig (mRoL xs) (d + 3) 148 [.ref 0, .int a1, .int a2, .int a3] (HP c r) (some (.int p.1)) (HP p.2 r) 0 0 := mBig_of (by decide) rfl rfl rfl rfl (t_C_owe N d xs r c a1 a2 a3 p hp)
/-! ColdHoldsModel.owe(III)I, from (('r', 115), 'i', 'i', 'i') -/
def R_owe_p33 (N : Nat) (r : St) : Option (Int32 × St) :=
  some ((-101), r)
def R_owe (N : Nat) (r : St) (x1 : Int32) (x2 : Int32) (x3 : Int32) : Option (Int32 × St) :=
  (R_in N x1 0 ((gI r 20) - 1)).bind fun p1 => (if p1 = 0 then R_owe_p33 N r else (R_in N x2 0 ((gI r 20) - 1)).bind fun p3 => (if p3 = 0 then R_owe_p33 N r else (if ¬ x1 = x2 then (R_in N x3 0 999).bind fun p6 => (if ¬ p6 = 0 then (ld (gA r 24) ((8 * x1) + x2)).bind fun y8 => (sto (gA r 24) ((8 * x1) + x2) x3).bind fun w9 => some (y8, sA r 24 w9) else some ((-102), r)) else R_owe_p33 N r)))
set_option maxHeartbeats 8000000 in
set_option maxRecDepth 100000 in
theorem t_R_owe_p33 (N d : Nat) (xs : List Int32) (c : St) (r : St) : Ok (mBig (mRoL xs) (d + 1)) (mRoL xs) 1 mK236 (fun p : Int32 × St => (some (.int p.1), HP c p.2)) (R_owe_p33 N r) 33 [none, none, none, none, none] [] (HP c r) := by
  unfold R_owe_p33
  refine Ok_blk 1 (pc2 := 35) (lo2 := [none, none, none, none, none]) (st2 := [.int (-101)]) rfl ?_
  exact Ok_ret rfl rfl rfl
set_option maxHeartbeats 8000000 in
set_option maxRecDepth 100000 in
theorem t_R_owe (N d : Nat) (xs : List Int32) (c : St) (r : St) (x1 : Int32) (x2 : Int32) (x3 : Int32) : Ok (mBig (mRoL xs) (d + 1)) (mRoL xs) 1 mK236 (fun p : Int32 × St => (some (.int p.1), HP c p.2)) (R_owe N r x1 x2 x3) 0 [some (.ref 115), some (.int x1), some (.int x2), some (.int x3), none] [] (HP c r) := by
  unfold R_owe
  refine Ok_blk 6 (pc2 := 8) (lo2 := [some (.ref 115), some (.int x1), some (.int x2), some (.int x3), none]) (st2 := [.int ((gI r 20) - 1), .int 0, .int x1]) rfl ?_
  refine Ok_call (y := 164) (as := [.int x1, .int 0, .int ((gI r 20) - 1)]) (rest := []) (w := fun p1 => some (.int p1)) (h1 := fun p1 => HP c r) rfl rfl (fun x hx => tm_R_in N d xs c r x1 0 ((gI r 20) - 1) x hx) (fun p1 hp1 => ?_)
  refine Ok_blk 1 (pc2 := (if p1 = 0 then 33 else 14)) (lo2 := [some (.ref 115), some (.int x1), some (.int x2), some (.int x3), none]) (st2 := []) rfl ?_
  refine Ok_if (fun h2 => ?_) (fun h2 => ?_)
  · refine Ok_drop (lo0 := [none, none, none, none, none]) ⟨Or.inl rfl, Or.inl rfl, Or.inl rfl, Or.inl rfl, Or.inl rfl, trivial⟩ ?_
    exact t_R_owe_p33 N d xs c r
  · refine Ok_blk 6 (pc2 := 22) (lo2 := [some (.ref 115), some (.int x1), some (.int x2), some (.int x3), none]) (st2 := [.int ((gI r 20) - 1), .int 0, .int x2]) rfl ?_
    refine Ok_call (y := 164) (as := [.int x2, .int 0, .int ((gI r 20) - 1)]) (rest := []) (w := fun p3 => some (.int p3)) (h1 := fun p3 => HP c r) rfl rfl (fun x hx => tm_R_in N d xs c r x2 0 ((gI r 20) - 1) x hx) (fun p3 hp3 => ?_)
    refine Ok_blk 1 (pc2 := (if p3 = 0 then 33 else 28)) (lo2 := [some (.ref 115), some (.int x1), some (.int x2), some (.int x3), none]) (st2 := []) rfl ?_
    refine Ok_if (fun h4 => ?_) (fun h4 => ?_)
    · refine Ok_drop (lo0 := [none, none, none, none, none]) ⟨Or.inl rfl, Or.inl rfl, Or.inl rfl, Or.inl rfl, Or.inl rfl, trivial⟩ ?_
      exact t_R_owe_p33 N d xs c r
    · refine Ok_blk 3 (pc2 := (if ¬ x1 = x2 then 36 else 33)) (lo2 := [some (.ref 115), some (.int x1), some (.int x2), some (.int x3), none]) (st2 := []) rfl ?_
      refine Ok_if (fun h5 => ?_) (fun h5 => ?_)
      · refine Ok_blk 3 (pc2 := 41) (lo2 := [some (.ref 115), some (.int x1), some (.int x2), some (.int x3), none]) (st2 := [.int 999, .int 0, .int x3]) rfl ?_
        refine Ok_call (y := 164) (as := [.int x3, .int 0, .int 999]) (rest := []) (w := fun p6 => some (.int p6)) (h1 := fun p6 => HP c r) rfl rfl (fun x hx => tm_R_in N d xs c r x3 0 999 x hx) (fun p6 hp6 => ?_)
        refine Ok_blk 1 (pc2 := (if ¬ p6 = 0 then 50 else 47)) (lo2 := [some (.ref 115), some (.int x1), some (.int x2), some (.int x3), none]) (st2 := []) rfl ?_
        refine Ok_if (fun h7 => ?_) (fun h7 => ?_)
        · refine Ok_blk 7 (pc2 := 60) (lo2 := [some (.ref 115), some (.int x1), some (.int x2), some (.int x3), none]) (st2 := [.int ((8 * x1) + x2), .ref 140]) rfl ?_
          refine Ok_ld (l := (gA r 24)) rfl rfl (fun y8 hy8 => ?_)
          refine Ok_blk 9 (pc2 := 74) (lo2 := [some (.ref 115), some (.int x1), some (.int x2), some (.int x3), some (.int y8)]) (st2 := [.int x3, .int ((8 * x1) + x2), .ref 140]) rfl ?_
          refine Ok_st (l := (gA r 24)) (hn := fun l' => HP c (sA r 24 l')) rfl rfl (fun l' => sa_140 _ _ l') (fun w9 hw9 => ?_)
          refine Ok_blk 1 (pc2 := 77) (lo2 := [some (.ref 115), some (.int x1), some (.int x2), some (.int x3), some (.int y8)]) (st2 := [.int y8]) rfl ?_
          exact Ok_ret rfl rfl rfl
        · refine Ok_blk 1 (pc2 := 49) (lo2 := [some (.ref 115), some (.int x1), some (.int x2), some (.int x3), none]) (st2 := [.int (-102)]) rfl ?_
          exact Ok_ret rfl rfl rfl
      · refine Ok_drop (lo0 := [none, none, none, none, none]) ⟨Or.inl rfl, Or.inl rfl, Or.inl rfl, Or.inl rfl, Or.inl rfl, trivial⟩ ?_
        exact t_R_owe_p33 N d xs c r
set_option maxHeartbeats 8000000 in
set_option maxRecDepth 100000 in
theorem tm_R_owe (N d : Nat) (xs : List Int32) (c r : St) (a1 : Int32) (a2 : Int32) (a3 : Int32) (p : Int32 × St) (hp : R_owe N r a1 a2 a3 = some p) : mBig (mRoL xs) (d + 2) 236 [.ref 115, .int a1, .int a2, .int a3] (HP c r) (some (.int p.1)) (HP c p.2) 0 0 := mBig_of (by decide) rfl rfl rfl rfl (t_R_owe N d xs c r a1 a2 a3 p hp)
/-! ColdHolds$Farms.left(III)I, from (('r', 88), 'i', 'i', 'i') -/
def Farms_left_p66 (N : Nat) (kb20 : Int32 → Int32 → Int32 → Int32 → Option (Int32)) (c : St) (x1 : Int32) (x3 : Int32) (x4 : Int32) (x5 : Int32) : Option (Int32) :=
  kb20 x1 x3 x4 (x5 + 1)
def Farms_left_p20b (N : Nat) (kb20 : Int32 → Int32 → Int32 → Int32 → Option (Int32)) (c : St) (x1 : Int32) (x3 : Int32) (x4 : Int32) (x5 : Int32) : Option (Int32) :=
  (if (gI c 25) ≤ x5 then some x4 else (rwi x1 8).bind fun q4 => (ld (gA c (73 + q4)) x5).bind fun y5 => (if ¬ ((x3 >>> (x5 &&& 31)) &&& 1) = 0 then Farms_left_p66 N kb20 c x1 x3 (x4 - y5) x5 else (rwi x5 8).bind fun q7 => (ld (gA c (73 + q7)) x1).bind fun y8 => Farms_left_p66 N kb20 c x1 x3 ((x4 - y5) + y8) x5))
def Farms_left_p20 (N : Nat) (c : St) : Nat → Int32 → Int32 → Int32 → Int32 → Option (Int32)
  | 0 => fun _ _ _ _ => none
  | n + 1 => Farms_left_p20b N (Farms_left_p20 N c n) c
def Farms_left (N : Nat) (c : St) (x1 : Int32) (x2 : Int32) (x3 : Int32) : Option (Int32) :=
  (ld (gA c 81) x1).bind fun y1 => (ld (gA c 82) x1).bind fun y2 => Farms_left_p20 N c N x1 x3 ((y1 * x2) + y2) 0
set_option maxHeartbeats 8000000 in
set_option maxRecDepth 100000 in
theorem t_Farms_left_p66 (N d : Nat) (xs : List Int32) (c : St) (r : St) (kb20 : Int32 → Int32 → Int32 → Int32 → Option (Int32)) (hb20 : ∀ (x1 : Int32) (x3 : Int32) (x4 : Int32) (x5 : Int32), Ok (mBig (mRoL xs) (d)) (mRoL xs) 1 mK25 (fun p : Int32 => (some (.int p), HP c r)) (kb20 x1 x3 x4 x5) 20 [some (.ref 88), some (.int x1), none, some (.int x3), some (.int x4), some (.int x5)] [] (HP c r)) (x1 : Int32) (x3 : Int32) (x4 : Int32) (x5 : Int32) : Ok (mBig (mRoL xs) (d)) (mRoL xs) 1 mK25 (fun p : Int32 => (some (.int p), HP c r)) (Farms_left_p66 N kb20 c x1 x3 x4 x5) 66 [some (.ref 88), some (.int x1), none, some (.int x3), some (.int x4), some (.int x5)] [] (HP c r) := by
  unfold Farms_left_p66
  refine Ok_blk 2 (pc2 := 20) (lo2 := [some (.ref 88), some (.int x1), none, some (.int x3), some (.int x4), some (.int (x5 + 1))]) (st2 := []) rfl ?_
  refine Ok_drop (lo0 := [some (.ref 88), some (.int x1), none, some (.int x3), some (.int x4), some (.int (x5 + 1))]) ⟨Or.inr rfl, Or.inr rfl, Or.inl rfl, Or.inr rfl, Or.inr rfl, Or.inr rfl, trivial⟩ ?_
  exact hb20 x1 x3 x4 (x5 + 1)
set_option maxHeartbeats 8000000 in
set_option maxRecDepth 100000 in
theorem t_Farms_left_p20b (N d : Nat) (xs : List Int32) (c : St) (r : St) (kb20 : Int32 → Int32 → Int32 → Int32 → Option (Int32)) (hb20 : ∀ (x1 : Int32) (x3 : Int32) (x4 : Int32) (x5 : Int32), Ok (mBig (mRoL xs) (d)) (mRoL xs) 1 mK25 (fun p : Int32 => (some (.int p), HP c r)) (kb20 x1 x3 x4 x5) 20 [some (.ref 88), some (.int x1), none, some (.int x3), some (.int x4), some (.int x5)] [] (HP c r)) (x1 : Int32) (x3 : Int32) (x4 : Int32) (x5 : Int32) : Ok (mBig (mRoL xs) (d)) (mRoL xs) 1 mK25 (fun p : Int32 => (some (.int p), HP c r)) (Farms_left_p20b N kb20 c x1 x3 x4 x5) 20 [some (.ref 88), some (.int x1), none, some (.int x3), some (.int x4), some (.int x5)] [] (HP c r) := by
  unfold Farms_left_p20b
  refine Ok_blk 4 (pc2 := (if (gI c 25) ≤ x5 then 72 else 29)) (lo2 := [some (.ref 88), some (.int x1), none, some (.int x3), some (.int x4), some (.int x5)]) (st2 := []) rfl ?_
  refine Ok_if (fun h3 => ?_) (fun h3 => ?_)
  · refine Ok_blk 1 (pc2 := 74) (lo2 := [some (.ref 88), some (.int x1), none, some (.int x3), some (.int x4), some (.int x5)]) (st2 := [.int x4]) rfl ?_
    exact Ok_ret rfl rfl rfl
  · refine Ok_blk 4 (pc2 := 36) (lo2 := [some (.ref 88), some (.int x1), none, some (.int x3), some (.int x4), some (.int x5)]) (st2 := [.int x1, .ref 89, .int x4]) rfl ?_
    refine Ok_rw (b := 90) (n := 8) rfl rfl (fun j h => rowl_89 j h) (fun q4 hq4 => ?_)
    refine Ok_blk 1 (pc2 := 39) (lo2 := [some (.ref 88), some (.int x1), none, some (.int x3), some (.int x4), some (.int x5)]) (st2 := [.int x5, .ref (90 + q4), .int x4]) rfl ?_
    refine Ok_ld (l := (gA c (73 + q4))) rfl ((rows_89 hq4).row _ _ _) (fun y5 hy5 => ?_)
    refine Ok_blk 8 (pc2 := (if ¬ ((x3 >>> (x5 &&& 31)) &&& 1) = 0 then 66 else 52)) (lo2 := [some (.ref 88), some (.int x1), none, some (.int x3), some (.int (x4 - y5)), some (.int x5)]) (st2 := []) rfl ?_
    refine Ok_if (fun h6 => ?_) (fun h6 => ?_)
    · refine Ok_drop (lo0 := [some (.ref 88), some (.int x1), none, some (.int x3), some (.int (x4 - y5)), some (.int x5)]) ⟨Or.inr rfl, Or.inr rfl, Or.inl rfl, Or.inr rfl, Or.inr rfl, Or.inr rfl, trivial⟩ ?_
      exact t_Farms_left_p66 N d xs c r kb20 hb20 x1 x3 (x4 - y5) x5
    · refine Ok_blk 4 (pc2 := 60) (lo2 := [some (.ref 88), some (.int x1), none, some (.int x3), some (.int (x4 - y5)), some (.int x5)]) (st2 := [.int x5, .ref 89, .int (x4 - y5)]) rfl ?_
      refine Ok_rw (b := 90) (n := 8) rfl rfl (fun j h => rowl_89 j h) (fun q7 hq7 => ?_)
      refine Ok_blk 1 (pc2 := 62) (lo2 := [some (.ref 88), some (.int x1), none, some (.int x3), some (.int (x4 - y5)), some (.int x5)]) (st2 := [.int x1, .ref (90 + q7), .int (x4 - y5)]) rfl ?_
      refine Ok_ld (l := (gA c (73 + q7))) rfl ((rows_89 hq7).row _ _ _) (fun y8 hy8 => ?_)
      refine Ok_blk 2 (pc2 := 66) (lo2 := [some (.ref 88), some (.int x1), none, some (.int x3), some (.int ((x4 - y5) + y8)), some (.int x5)]) (st2 := []) rfl ?_
      refine Ok_drop (lo0 := [some (.ref 88), some (.int x1), none, some (.int x3), some (.int ((x4 - y5) + y8)), some (.int x5)]) ⟨Or.inr rfl, Or.inr rfl, Or.inl rfl, Or.inr rfl, Or.inr rfl, Or.inr rfl, trivial⟩ ?_
      exact t_Farms_left_p66 N d xs c r kb20 hb20 x1 x3 ((x4 - y5) + y8) x5
set_option maxHeartbeats 8000000 in
set_option maxRecDepth 100000 in
theorem t_Farms_left_p20 (N d : Nat) (xs : List Int32) (c : St) (r : St) : ∀ (n : Nat) (x1 : Int32) (x3 : Int32) (x4 : Int32) (x5 : Int32), Ok (mBig (mRoL xs) (d)) (mRoL xs) 1 mK25 (fun p : Int32 => (some (.int p), HP c r)) (Farms_left_p20 N c n x1 x3 x4 x5) 20 [some (.ref 88), some (.int x1), none, some (.int x3), some (.int x4), some (.int x5)] [] (HP c r) := by
  intro n
  induction n with
  | zero => intro x1 x3 x4 x5; exact Ok_none
  | succ n ih => intro x1 x3 x4 x5; exact t_Farms_left_p20b N d xs c r (Farms_left_p20 N c n) ih x1 x3 x4 x5
set_option maxHeartbeats 8000000 in
set_option maxRecDepth 100000 in
theorem t_Farms_left (N d : Nat) (xs : List Int32) (c : St) (r : St) (x1 : Int32) (x2 : Int32) (x3 : Int32) : Ok (mBig (mRoL xs) (d)) (mRoL xs) 1 mK25 (fun p : Int32 => (some (.int p), HP c r)) (Farms_left N c x1 x2 x3) 0 [some (.ref 88), some (.int x1), some (.int x2), some (.int x3), none, none] [] (HP c r) := by
  unfold Farms_left
  refine Ok_blk 3 (pc2 := 5) (lo2 := [some (.ref 88), some (.int x1), some (.int x2), some (.int x3), none, none]) (st2 := [.int x1, .ref 98]) rfl ?_
  refine Ok_ld (l := (gA c 81)) rfl rfl (fun y1 hy1 => ?_)
  refine Ok_blk 5 (pc2 := 13) (lo2 := [some (.ref 88), some (.int x1), some (.int x2), some (.int x3), none, none]) (st2 := [.int x1, .ref 99, .int (y1 * x2)]) rfl ?_
  refine Ok_ld (l := (gA c 82)) rfl rfl (fun y2 hy2 => ?_)
  refine Ok_blk 4 (pc2 := 20) (lo2 := [some (.ref 88), some (.int x1), some (.int x2), some (.int x3), some (.int ((y1 * x2) + y2)), some (.int 0)]) (st2 := []) rfl ?_
  refine Ok_drop (lo0 := [some (.ref 88), some (.int x1), none, some (.int x3), some (.int ((y1 * x2) + y2)), some (.int 0)]) ⟨Or.inr rfl, Or.inr rfl, Or.inl rfl, Or.inr rfl, Or.inr rfl, Or.inr rfl, trivial⟩ ?_
  exact t_Farms_left_p20 N d xs c r N x1 x3 ((y1 * x2) + y2) 0
set_option maxHeartbeats 8000000 in
set_option maxRecDepth 100000 in
theorem tm_Farms_left (N d : Nat) (xs : List Int32) (c r : St) (a1 : Int32) (a2 : Int32) (a3 : Int32) (p : Int32) (hp : Farms_left N c a1 a2 a3 = some p) : mBig (mRoL xs) (d + 1) 25 [.ref 88, .int a1, .int a2, .int a3] (HP c r) (some (.int p)) (HP c r) 0 0 := mBig_of (by decide) rfl rfl rfl rfl (t_Farms_left N d xs c r a1 a2 a3 p hp)
/-! ColdHolds$Farms.fallenAfter(II)I, from (('r', 88), 'i', 'i') -/
def Farms_fallenAfter_p32 (N : Nat) (kb5 : Int32 → Int32 → Int32 → Int32 → Option (Int32)) (c : St) (x1 : Int32) (x2 : Int32) (x3 : Int32) (x4 : Int32) : Option (Int32) :=
  kb5 x1 x2 x3 (x4 + 1)
def Farms_fallenAfter_p5b (N : Nat) (kb5 : Int32 → Int32 → Int32 → Int32 → Option (Int32)) (c : St) (x1 : Int32) (x2 : Int32) (x3 : Int32) (x4 : Int32) : Option (Int32) :=
  (if (gI c 25) ≤ x4 then some x3 else (Farms_left N c x4 x1 x2).bind fun p2 => (if 0 ≤ p2 then Farms_fallenAfter_p32 N kb5 c x1 x2 x3 x4 else Farms_fallenAfter_p32 N kb5 c x1 x2 (x3 ||| (1 <<< (x4 &&& 31))) x4))
def Farms_fallenAfter_p5 (N : Nat) (c : St) : Nat → Int32 → Int32 → Int32 → Int32 → Option (Int32)
  | 0 => fun _ _ _ _ => none
  | n + 1 => Farms_fallenAfter_p5b N (Farms_fallenAfter_p5 N c n) c
def Farms_fallenAfter (N : Nat) (c : St) (x1 : Int32) (x2 : Int32) : Option (Int32) :=
  Farms_fallenAfter_p5 N c N x1 x2 x2 0
set_option maxHeartbeats 8000000 in
set_option maxRecDepth 100000 in
theorem t_Farms_fallenAfter_p32 (N d : Nat) (xs : List Int32) (c : St) (r : St) (kb5 : Int32 → Int32 → Int32 → Int32 → Option (Int32)) (hb5 : ∀ (x1 : Int32) (x2 : Int32) (x3 : Int32) (x4 : Int32), Ok (mBig (mRoL xs) (d + 1)) (mRoL xs) 1 mK24 (fun p : Int32 => (some (.int p), HP c r)) (kb5 x1 x2 x3 x4) 5 [some (.ref 88), some (.int x1), some (.int x2), some (.int x3), some (.int x4)] [] (HP c r)) (x1 : Int32) (x2 : Int32) (x3 : Int32) (x4 : Int32) : Ok (mBig (mRoL xs) (d + 1)) (mRoL xs) 1 mK24 (fun p : Int32 => (some (.int p), HP c r)) (Farms_fallenAfter_p32 N kb5 c x1 x2 x3 x4) 32 [some (.ref 88), some (.int x1), some (.int x2), some (.int x3), some (.int x4)] [] (HP c r) := by
  unfold Farms_fallenAfter_p32
  refine Ok_blk 2 (pc2 := 5) (lo2 := [some (.ref 88), some (.int x1), some (.int x2), some (.int x3), some (.int (x4 + 1))]) (st2 := []) rfl ?_
  refine Ok_drop (lo0 := [some (.ref 88), some (.int x1), some (.int x2), some (.int x3), some (.int (x4 + 1))]) ⟨Or.inr rfl, Or.inr rfl, Or.inr rfl, Or.inr rfl, Or.inr rfl, trivial⟩ ?_
  exact hb5 x1 x2 x3 (x4 + 1)
set_option maxHeartbeats 8000000 in
set_option maxRecDepth 100000 in
theorem t_Farms_fallenAfter_p5b (N d : Nat) (xs : List Int32) (c : St) (r : St) (kb5 : Int32 → Int32 → Int32 → Int32 → Option (Int32)) (hb5 : ∀ (x1 : Int32) (x2 : Int32) (x3 : Int32) (x4 : Int32), Ok (mBig (mRoL xs) (d + 1)) (mRoL xs) 1 mK24 (fun p : Int32 => (some (.int p), HP c r)) (kb5 x1 x2 x3 x4) 5 [some (.ref 88), some (.int x1), some (.int x2), some (.int x3), some (.int x4)] [] (HP c r)) (x1 : Int32) (x2 : Int32) (x3 : Int32) (x4 : Int32) : Ok (mBig (mRoL xs) (d + 1)) (mRoL xs) 1 mK24 (fun p : Int32 => (some (.int p), HP c r)) (Farms_fallenAfter_p5b N kb5 c x1 x2 x3 x4) 5 [some (.ref 88), some (.int x1), some (.int x2), some (.int x3), some (.int x4)] [] (HP c r) := by
  unfold Farms_fallenAfter_p5b
  refine Ok_blk 4 (pc2 := (if (gI c 25) ≤ x4 then 38 else 14)) (lo2 := [some (.ref 88), some (.int x1), some (.int x2), some (.int x3), some (.int x4)]) (st2 := []) rfl ?_
  refine Ok_if (fun h1 => ?_) (fun h1 => ?_)
  · refine Ok_blk 1 (pc2 := 39) (lo2 := [some (.ref 88), some (.int x1), some (.int x2), some (.int x3), some (.int x4)]) (st2 := [.int x3]) rfl ?_
    exact Ok_ret rfl rfl rfl
  · refine Ok_blk 4 (pc2 := 19) (lo2 := [some (.ref 88), some (.int x1), some (.int x2), some (.int x3), some (.int x4)]) (st2 := [.int x2, .int x1, .int x4, .ref 88]) rfl ?_
    refine Ok_call (y := 25) (as := [.ref 88, .int x4, .int x1, .int x2]) (rest := []) (w := fun p2 => some (.int p2)) (h1 := fun p2 => HP c r) rfl rfl (fun x hx => tm_Farms_left N d xs c r x4 x1 x2 x hx) (fun p2 hp2 => ?_)
    refine Ok_blk 1 (pc2 := (if 0 ≤ p2 then 32 else 25)) (lo2 := [some (.ref 88), some (.int x1), some (.int x2), some (.int x3), some (.int x4)]) (st2 := []) rfl ?_
    refine Ok_if (fun h3 => ?_) (fun h3 => ?_)
    · refine Ok_drop (lo0 := [some (.ref 88), some (.int x1), some (.int x2), some (.int x3), some (.int x4)]) ⟨Or.inr rfl, Or.inr rfl, Or.inr rfl, Or.inr rfl, Or.inr rfl, trivial⟩ ?_
      exact t_Farms_fallenAfter_p32 N d xs c r kb5 hb5 x1 x2 x3 x4
    · refine Ok_blk 6 (pc2 := 32) (lo2 := [some (.ref 88), some (.int x1), some (.int x2), some (.int (x3 ||| (1 <<< (x4 &&& 31)))), some (.int x4)]) (st2 := []) rfl ?_
      refine Ok_drop (lo0 := [some (.ref 88), some (.int x1), some (.int x2), some (.int (x3 ||| (1 <<< (x4 &&& 31)))), some (.int x4)]) ⟨Or.inr rfl, Or.inr rfl, Or.inr rfl, Or.inr rfl, Or.inr rfl, trivial⟩ ?_
      exact t_Farms_fallenAfter_p32 N d xs c r kb5 hb5 x1 x2 (x3 ||| (1 <<< (x4 &&& 31))) x4
set_option maxHeartbeats 8000000 in
set_option maxRecDepth 100000 in
theorem t_Farms_fallenAfter_p5 (N d : Nat) (xs : List Int32) (c : St) (r : St) : ∀ (n : Nat) (x1 : Int32) (x2 : Int32) (x3 : Int32) (x4 : Int32), Ok (mBig (mRoL xs) (d + 1)) (mRoL xs) 1 mK24 (fun p : Int32 => (some (.int p), HP c r)) (Farms_fallenAfter_p5 N c n x1 x2 x3 x4) 5 [some (.ref 88), some (.int x1), some (.int x2), some (.int x3), some (.int x4)] [] (HP c r) := by
  intro n
  induction n with
  | zero => intro x1 x2 x3 x4; exact Ok_none
  | succ n ih => intro x1 x2 x3 x4; exact t_Farms_fallenAfter_p5b N d xs c r (Farms_fallenAfter_p5 N c n) ih x1 x2 x3 x4
set_option maxHeartbeats 8000000 in
set_option maxRecDepth 100000 in
theorem t_Farms_fallenAfter (N d : Nat) (xs : List Int32) (c : St) (r : St) (x1 : Int32) (x2 : Int32) : Ok (mBig (mRoL xs) (d + 1)) (mRoL xs) 1 mK24 (fun p : Int32 => (some (.int p), HP c r)) (Farms_fallenAfter N c x1 x2) 0 [some (.ref 88), some (.int x1), some (.int x2), none, none] [] (HP c r) := by
  unfold Farms_fallenAfter
  refine Ok_blk 4 (pc2 := 5) (lo2 := [some (.ref 88), some (.int x1), some (.int x2), some (.int x2), some (.int 0)]) (st2 := []) rfl ?_
  refine Ok_drop (lo0 := [some (.ref 88), some (.int x1), some (.int x2), some (.int x2), some (.int 0)]) ⟨Or.inr rfl, Or.inr rfl, Or.inr rfl, Or.inr rfl, Or.inr rfl, trivial⟩ ?_
  exact t_Farms_fallenAfter_p5 N d xs c r N x1 x2 x2 0
set_option maxHeartbeats 8000000 in
set_option maxRecDepth 100000 in
theorem tm_Farms_fallenAfter (N d : Nat) (xs : List Int32) (c r : St) (a1 : Int32) (a2 : Int32) (p : Int32) (hp : Farms_fallenAfter N c a1 a2 = some p) : mBig (mRoL xs) (d + 2) 24 [.ref 88, .int a1, .int a2] (HP c r) (some (.int p)) (HP c r) 0 0 := mBig_of (by decide) rfl rfl rfl rfl (t_Farms_fallenAfter N d xs c r a1 a2 p hp)
/-! ColdHolds$Farms.fallenAt(I)I, from (('r', 88), 'i') -/
def Farms_fallenAt_p9b (N : Nat) (kb9 : St → Int32 → Int32 → Int32 → Option (Int32 × St)) (c : St) (x1 : Int32) (x2 : Int32) (x3 : Int32) : Option (Int32 × St) :=
  (if (gI c 25) ≤ x3 then some (x2, c) else (Farms_fallenAfter N c x1 x2).bind fun p2 => (if ¬ p2 = x2 then kb9 (sI c 26 ((gI c 26) + 1)) x1 p2 (x3 + 1) else some (x2, c)))
def Farms_fallenAt_p9 (N : Nat) : Nat → St → Int32 → Int32 → Int32 → Option (Int32 × St)
  | 0 => fun _ _ _ _ => none
  | n + 1 => Farms_fallenAt_p9b N (Farms_fallenAt_p9 N n)
def Farms_fallenAt (N : Nat) (c : St) (x1 : Int32) : Option (Int32 × St) :=
  Farms_fallenAt_p9 N N (sI c 26 0) x1 0 0
set_option maxHeartbeats 8000000 in
set_option maxRecDepth 100000 in
theorem t_Farms_fallenAt_p9b (N d : Nat) (xs : List Int32) (r : St) (kb9 : St → Int32 → Int32 → Int32 → Option (Int32 × St)) (hb9 : ∀ (c : St) (x1 : Int32) (x2 : Int32) (x3 : Int32), Ok (mBig (mRoL xs) (d + 2)) (mRoL xs) 1 mK23 (fun p : Int32 × St => (some (.int p.1), HP p.2 r)) (kb9 c x1 x2 x3) 9 [some (.ref 88), some (.int x1), some (.int x2), some (.int x3), none] [] (HP c r)) (c : St) (x1 : Int32) (x2 : Int32) (x3 : Int32) : Ok (mBig (mRoL xs) (d + 2)) (mRoL xs) 1 mK23 (fun p : Int32 × St => (some (.int p.1), HP p.2 r)) (Farms_fallenAt_p9b N kb9 c x1 x2 x3) 9 [some (.ref 88), some (.int x1), some (.int x2), some (.int x3), none] [] (HP c r) := by
  unfold Farms_fallenAt_p9b
  refine Ok_blk 4 (pc2 := (if (gI c 25) ≤ x3 then 52 else 17)) (lo2 := [some (.ref 88), some (.int x1), some (.int x2), some (.int x3), none]) (st2 := []) rfl ?_
  refine Ok_if (fun h1 => ?_) (fun h1 => ?_)
  · refine Ok_blk 1 (pc2 := 53) (lo2 := [some (.ref 88), some (.int x1), some (.int x2), some (.int x3), none]) (st2 := [.int x2]) rfl ?_
    exact Ok_ret rfl rfl rfl
  · refine Ok_blk 3 (pc2 := 20) (lo2 := [some (.ref 88), some (.int x1), some (.int x2), some (.int x3), none]) (st2 := [.int x2, .int x1, .ref 88]) rfl ?_
    refine Ok_call (y := 24) (as := [.ref 88, .int x1, .int x2]) (rest := []) (w := fun p2 => some (.int p2)) (h1 := fun p2 => HP c r) rfl rfl (fun x hx => tm_Farms_fallenAfter N d xs c r x1 x2 x hx) (fun p2 hp2 => ?_)
    refine Ok_blk 4 (pc2 := (if ¬ p2 = x2 then 33 else 31)) (lo2 := [some (.ref 88), some (.int x1), some (.int x2), some (.int x3), some (.int p2)]) (st2 := []) rfl ?_
    refine Ok_if (fun h3 => ?_) (fun h3 => ?_)
    · refine Ok_heap 8 (pc2 := 46) (lo2 := [some (.ref 88), some (.int x1), some (.int p2), some (.int x3), some (.int p2)]) (st2 := []) (h2 := HP (sI c 26 ((gI c 26) + 1)) r) rfl (st_88_2 _ _ _) ?_
      refine Ok_blk 2 (pc2 := 9) (lo2 := [some (.ref 88), some (.int x1), some (.int p2), some (.int (x3 + 1)), some (.int p2)]) (st2 := []) rfl ?_
      refine Ok_drop (lo0 := [some (.ref 88), some (.int x1), some (.int p2), some (.int (x3 + 1)), none]) ⟨Or.inr rfl, Or.inr rfl, Or.inr rfl, Or.inr rfl, Or.inl rfl, trivial⟩ ?_
      exact hb9 (sI c 26 ((gI c 26) + 1)) x1 p2 (x3 + 1)
    · refine Ok_blk 1 (pc2 := 32) (lo2 := [some (.ref 88), some (.int x1), some (.int x2), some (.int x3), some (.int p2)]) (st2 := [.int x2]) rfl ?_
      exact Ok_ret rfl rfl rfl
set_option maxHeartbeats 8000000 in
set_option maxRecDepth 100000 in
theorem t_Farms_fallenAt_p9 (N d : Nat) (xs : List Int32) (r : St) : ∀ (n : Nat) (c : St) (x1 : Int32) (x2 : Int32) (x3 : Int32), Ok (mBig (mRoL xs) (d + 2)) (mRoL xs) 1 mK23 (fun p : Int32 × St => (some (.int p.1), HP p.2 r)) (Farms_fallenAt_p9 N n c x1 x2 x3) 9 [some (.ref 88), some (.int x1), some (.int x2), some (.int x3), none] [] (HP c r) := by
  intro n
  induction n with
  | zero => intro c x1 x2 x3; exact Ok_none
  | succ n ih => intro c x1 x2 x3; exact t_Farms_fallenAt_p9b N d xs r (Farms_fallenAt_p9 N n) ih c x1 x2 x3
set_option maxHeartbeats 8000000 in
set_option maxRecDepth 100000 in
theorem t_Farms_fallenAt (N d : Nat) (xs : List Int32) (r : St) (c : St) (x1 : Int32) : Ok (mBig (mRoL xs) (d + 2)) (mRoL xs) 1 mK23 (fun p : Int32 × St => (some (.int p.1), HP p.2 r)) (Farms_fallenAt N c x1) 0 [some (.ref 88), some (.int x1), none, none, none] [] (HP c r) := by
  unfold Farms_fallenAt
  refine Ok_heap 5 (pc2 := 7) (lo2 := [some (.ref 88), some (.int x1), some (.int 0), none, none]) (st2 := []) (h2 := HP (sI c 26 0) r) rfl (st_88_2 _ _ _) ?_
  refine Ok_blk 2 (pc2 := 9) (lo2 := [some (.ref 88), some (.int x1), some (.int 0), some (.int 0), none]) (st2 := []) rfl ?_
  refine Ok_drop (lo0 := [some (.ref 88), some (.int x1), some (.int 0), some (.int 0), none]) ⟨Or.inr rfl, Or.inr rfl, Or.inr rfl, Or.inr rfl, Or.inl rfl, trivial⟩ ?_
  exact t_Farms_fallenAt_p9 N d xs r N (sI c 26 0) x1 0 0
set_option maxHeartbeats 8000000 in
set_option maxRecDepth 100000 in
theorem tm_Farms_fallenAt (N d : Nat) (xs : List Int32) (c r : St) (a1 : Int32) (p : Int32 × St) (hp : Farms_fallenAt N c a1 = some p) : mBig (mRoL xs) (d + 3) 23 [.ref 88, .int a1] (HP c r) (some (.int p.1)) (HP p.2 r) 0 0 := mBig_of (by decide) rfl rfl rfl rfl (t_Farms_fallenAt N d xs r c a1 p hp)
/-! ColdHolds.falls(II)I, from (('r', 0), 'i', 'i') -/
def C_falls_p20 (N : Nat) (c : St) : Option (Int32 × St) :=
  some ((-102), c)
def C_falls (N : Nat) (c : St) (x1 : Int32) (x2 : Int32) : Option (Int32 × St) :=
  (C_within N x1 0 999).bind fun p1 => (if p1 = 0 then C_falls_p20 N c else (C_within N x2 0 1).bind fun p3 => (if ¬ p3 = 0 then (Farms_fallenAt N c x1).bind fun p5 => (if ¬ x2 = 0 then some (gI p5.2 26, p5.2) else some (p5.1, p5.2)) else C_falls_p20 N c))
set_option maxHeartbeats 8000000 in
set_option maxRecDepth 100000 in
theorem t_C_falls_p20 (N d : Nat) (xs : List Int32) (r : St) (c : St) : Ok (mBig (mRoL xs) (d + 3)) (mRoL xs) 1 mK149 (fun p : Int32 × St => (some (.int p.1), HP p.2 r)) (C_falls_p20 N c) 20 [none, none, none, none] [] (HP c r) := by
  unfold C_falls_p20
  refine Ok_blk 1 (pc2 := 22) (lo2 := [none, none, none, none]) (st2 := [.int (-102)]) rfl ?_
  exact Ok_ret rfl rfl rfl
set_option maxHeartbeats 8000000 in
set_option maxRecDepth 100000 in
theorem t_C_falls (N d : Nat) (xs : List Int32) (r : St) (c : St) (x1 : Int32) (x2 : Int32) : Ok (mBig (mRoL xs) (d + 3)) (mRoL xs) 1 mK149 (fun p : Int32 × St => (some (.int p.1), HP p.2 r)) (C_falls N c x1 x2) 0 [some (.ref 0), some (.int x1), some (.int x2), none] [] (HP c r) := by
  unfold C_falls
  refine Ok_blk 3 (pc2 := 5) (lo2 := [some (.ref 0), some (.int x1), some (.int x2), none]) (st2 := [.int 999, .int 0, .int x1]) rfl ?_
  refine Ok_call (y := 102) (as := [.int x1, .int 0, .int 999]) (rest := []) (w := fun p1 => some (.int p1)) (h1 := fun p1 => HP c r) rfl rfl (fun x hx => tm_C_within N (d + 2) xs c r x1 0 999 x hx) (fun p1 hp1 => ?_)
  refine Ok_blk 1 (pc2 := (if p1 = 0 then 20 else 11)) (lo2 := [some (.ref 0), some (.int x1), some (.int x2), none]) (st2 := []) rfl ?_
  refine Ok_if (fun h2 => ?_) (fun h2 => ?_)
  · refine Ok_drop (lo0 := [none, none, none, none]) ⟨Or.inl rfl, Or.inl rfl, Or.inl rfl, Or.inl rfl, trivial⟩ ?_
    exact t_C_falls_p20 N d xs r c
  · refine Ok_blk 3 (pc2 := 14) (lo2 := [some (.ref 0), some (.int x1), some (.int x2), none]) (st2 := [.int 1, .int 0, .int x2]) rfl ?_
    refine Ok_call (y := 102) (as := [.int x2, .int 0, .int 1]) (rest := []) (w := fun p3 => some (.int p3)) (h1 := fun p3 => HP c r) rfl rfl (fun x hx => tm_C_within N (d + 2) xs c r x2 0 1 x hx) (fun p3 hp3 => ?_)
    refine Ok_blk 1 (pc2 := (if ¬ p3 = 0 then 23 else 20)) (lo2 := [some (.ref 0), some (.int x1), some (.int x2), none]) (st2 := []) rfl ?_
    refine Ok_if (fun h4 => ?_) (fun h4 => ?_)
    · refine Ok_blk 3 (pc2 := 28) (lo2 := [some (.ref 0), some (.int x1), some (.int x2), none]) (st2 := [.int x1, .ref 88]) rfl ?_
      refine Ok_call (y := 23) (as := [.ref 88, .int x1]) (rest := []) (w := fun p5 => some (.int p5.1)) (h1 := fun p5 => HP p5.2 r) rfl rfl (fun x hx => tm_Farms_fallenAt N d xs c r x1 x hx) (fun p5 hp5 => ?_)
      refine Ok_blk 3 (pc2 := (if ¬ x2 = 0 then 40 else 36)) (lo2 := [some (.ref 0), some (.int x1), some (.int x2), some (.int p5.1)]) (st2 := []) rfl ?_
      refine Ok_if (fun h6 => ?_) (fun h6 => ?_)
      · refine Ok_blk 3 (pc2 := 47) (lo2 := [some (.ref 0), some (.int x1), some (.int x2), some (.int p5.1)]) (st2 := [.int (gI p5.2 26)]) rfl ?_
        exact Ok_ret rfl rfl rfl
      · refine Ok_blk 2 (pc2 := 47) (lo2 := [some (.ref 0), some (.int x1), some (.int x2), some (.int p5.1)]) (st2 := [.int p5.1]) rfl ?_
        exact Ok_ret rfl rfl rfl
    · refine Ok_drop (lo0 := [none, none, none, none]) ⟨Or.inl rfl, Or.inl rfl, Or.inl rfl, Or.inl rfl, trivial⟩ ?_
      exact t_C_falls_p20 N d xs r c
set_option maxHeartbeats 8000000 in
set_option maxRecDepth 100000 in
theorem tm_C_falls (N d : Nat) (xs : List Int32) (c r : St) (a1 : Int32) (a2 : Int32) (p : Int32 × St) (hp : C_falls N c a1 a2 = some p) : mBig (mRoL xs) (d + 4) 149 [.ref 0, .int a1, .int a2] (HP c r) (some (.int p.1)) (HP p.2 r) 0 0 := mBig_of (by decide) rfl rfl rfl rfl (t_C_falls N d xs r c a1 a2 p hp)
/-! ColdHoldsModel.fallenAt(I)I, from (('r', 115), 'i') -/
def R_fallenAt_p167 (N : Nat) (kb9 : St → Int32 → Int32 → Int32 → Option (Int32 × St)) (r : St) (x1 : Int32) (x2 : Int32) (x3 : Int32) (s1 : Int32) (s2 : Int32) : Option (Int32 × St) :=
  kb9 (sI r 34 (s1 + s2)) x1 x2 x3
def R_fallenAt_p141 (N : Nat) (kb9 : St → Int32 → Int32 → Int32 → Option (Int32 × St)) (kb18 : St → Int32 → Int32 → Int32 → Int32 → Option (Int32 × St)) (r : St) (x1 : Int32) (x2 : Int32) (x4 : Int32) (s0 : Int32) (s1 : Int32) : Option (Int32 × St) :=
  kb18 r x1 x2 (s0 ||| s1) (x4 + 1)
def R_fallenAt_p140 (N : Nat) (kb9 : St → Int32 → Int32 → Int32 → Option (Int32 × St)) (kb18 : St → Int32 → Int32 → Int32 → Int32 → Option (Int32 × St)) (r : St) (x1 : Int32) (x2 : Int32) (x4 : Int32) (s0 : Int32) : Option (Int32 × St) :=
  R_fallenAt_p141 N kb9 kb18 r x1 x2 x4 s0 0
def R_fallenAt_p89 (N : Nat) (kb9 : St → Int32 → Int32 → Int32 → Option (Int32 × St)) (kb18 : St → Int32 → Int32 → Int32 → Int32 → Option (Int32 × St)) (kb52 : St → Int32 → Int32 → Int32 → Int32 → Int32 → Int32 → Int32 → Option (Int32 × St)) (r : St) (x1 : Int32) (x2 : Int32) (x3 : Int32) (x4 : Int32) (x6 : Int32) (x7 : Int32) (s0 : Int32) (s1 : Int32) : Option (Int32 × St) :=
  (ld (gA r 24) ((8 * x4) + x7)).bind fun y10 => kb52 r x1 x2 x3 x4 (s0 + s1) (x6 + y10) (x7 + 1)
def R_fallenAt_p52b (N : Nat) (kb9 : St → Int32 → Int32 → Int32 → Option (Int32 × St)) (kb18 : St → Int32 → Int32 → Int32 → Int32 → Option (Int32 × St)) (kb52 : St → Int32 → Int32 → Int32 → Int32 → Int32 → Int32 → Int32 → Option (Int32 × St)) (r : St) (x1 : Int32) (x2 : Int32) (x3 : Int32) (x4 : Int32) (x5 : Int32) (x6 : Int32) (x7 : Int32) : Option (Int32 × St) :=
  (if (gI r 20) ≤ x7 then (if ¬ ((x2 >>> (x4 &&& 31)) &&& 1) = 0 then R_fallenAt_p140 N kb9 kb18 r x1 x2 x4 x3 else (if x6 ≤ x5 then R_fallenAt_p140 N kb9 kb18 r x1 x2 x4 x3 else R_fallenAt_p141 N kb9 kb18 r x1 x2 x4 x3 (1 <<< (x4 &&& 31)))) else (if ¬ ((x2 >>> (x7 &&& 31)) &&& 1) = 0 then R_fallenAt_p89 N kb9 kb18 kb52 r x1 x2 x3 x4 x6 x7 x5 0 else (ld (gA r 24) ((8 * x7) + x4)).bind fun y11 => R_fallenAt_p89 N kb9 kb18 kb52 r x1 x2 x3 x4 x6 x7 x5 y11))
def R_fallenAt_p52 (N : Nat) (kb9 : St → Int32 → Int32 → Int32 → Option (Int32 × St)) (kb18 : St → Int32 → Int32 → Int32 → Int32 → Option (Int32 × St)) : Nat → St → Int32 → Int32 → Int32 → Int32 → Int32 → Int32 → Int32 → Option (Int32 × St)
  | 0 => fun _ _ _ _ _ _ _ _ => none
  | n + 1 => R_fallenAt_p52b N kb9 kb18 (R_fallenAt_p52 N kb9 kb18 n)
def R_fallenAt_p18b (N : Nat) (kb9 : St → Int32 → Int32 → Int32 → Option (Int32 × St)) (kb18 : St → Int32 → Int32 → Int32 → Int32 → Option (Int32 × St)) (r : St) (x1 : Int32) (x2 : Int32) (x3 : Int32) (x4 : Int32) : Option (Int32 × St) :=
  (if (gI r 20) ≤ x4 then (if x3 = 0 then R_fallenAt_p167 N kb9 r x1 (x2 ||| x3) x3 (gI r 34) 0 else R_fallenAt_p167 N kb9 r x1 (x2 ||| x3) x3 (gI r 34) 1) else (ld (gA r 22) x4).bind fun y4 => (ld (gA r 23) x4).bind fun y5 => R_fallenAt_p52 N kb9 kb18 N r x1 x2 x3 x4 ((y4 * x1) + y5) 0 0)
def R_fallenAt_p18 (N : Nat) (kb9 : St → Int32 → Int32 → Int32 → Option (Int32 × St)) : Nat → St → Int32 → Int32 → Int32 → Int32 → Option (Int32 × St)
  | 0 => fun _ _ _ _ _ => none
  | n + 1 => R_fallenAt_p18b N kb9 (R_fallenAt_p18 N kb9 n)
def R_fallenAt_p9b (N : Nat) (kb9 : St → Int32 → Int32 → Int32 → Option (Int32 × St)) (r : St) (x1 : Int32) (x2 : Int32) (x3 : Int32) : Option (Int32 × St) :=
  (if x3 = 0 then some (x2, r) else R_fallenAt_p18 N kb9 N r x1 x2 0 0)
def R_fallenAt_p9 (N : Nat) : Nat → St → Int32 → Int32 → Int32 → Option (Int32 × St)
  | 0 => fun _ _ _ _ => none
  | n + 1 => R_fallenAt_p9b N (R_fallenAt_p9 N n)
def R_fallenAt (N : Nat) (r : St) (x1 : Int32) : Option (Int32 × St) :=
  R_fallenAt_p9 N N (sI r 34 0) x1 0 1
set_option maxHeartbeats 8000000 in
set_option maxRecDepth 100000 in
theorem t_R_fallenAt_p167 (N d : Nat) (xs : List Int32) (c : St) (kb9 : St → Int32 → Int32 → Int32 → Option (Int32 × St)) (hb9 : ∀ (r : St) (x1 : Int32) (x2 : Int32) (x3 : Int32), Ok (mBig (mRoL xs) (d)) (mRoL xs) 1 mK237 (fun p : Int32 × St => (some (.int p.1), HP c p.2)) (kb9 r x1 x2 x3) 9 [some (.ref 115), some (.int x1), some (.int x2), some (.int x3), none, none, none, none] [] (HP c r)) (r : St) (x1 : Int32) (x2 : Int32) (x3 : Int32) (s1 : Int32) (s2 : Int32) : Ok (mBig (mRoL xs) (d)) (mRoL xs) 1 mK237 (fun p : Int32 × St => (some (.int p.1), HP c p.2)) (R_fallenAt_p167 N kb9 r x1 x2 x3 s1 s2) 167 [some (.ref 115), some (.int x1), some (.int x2), some (.int x3), none, none, none, none] [.int s2, .int s1, .ref 115] (HP c r) := by
  unfold R_fallenAt_p167
  refine Ok_heap 2 (pc2 := 171) (lo2 := [some (.ref 115), some (.int x1), some (.int x2), some (.int x3), none, none, none, none]) (st2 := []) (h2 := HP c (sI r 34 (s1 + s2))) rfl (st_115_76 _ _ _) ?_
  refine Ok_blk 1 (pc2 := 9) (lo2 := [some (.ref 115), some (.int x1), some (.int x2), some (.int x3), none, none, none, none]) (st2 := []) rfl ?_
  refine Ok_drop (lo0 := [some (.ref 115), some (.int x1), some (.int x2), some (.int x3), none, none, none, none]) ⟨Or.inr rfl, Or.inr rfl, Or.inr rfl, Or.inr rfl, Or.inl rfl, Or.inl rfl, Or.inl rfl, Or.inl rfl, trivial⟩ ?_
  exact hb9 (sI r 34 (s1 + s2)) x1 x2 x3
set_option maxHeartbeats 8000000 in
set_option maxRecDepth 100000 in
theorem t_R_fallenAt_p141 (N d : Nat) (xs : List Int32) (c : St) (kb9 : St → Int32 → Int32 → Int32 → Option (Int32 × St)) (hb9 : ∀ (r : St) (x1 : Int32) (x2 : Int32) (x3 : Int32), Ok (mBig (mRoL xs) (d)) (mRoL xs) 1 mK237 (fun p : Int32 × St => (some (.int p.1), HP c p.2)) (kb9 r x1 x2 x3) 9 [some (.ref 115), some (.int x1), some (.int x2), some (.int x3), none, none, none, none] [] (HP c r)) (kb18 : St → Int32 → Int32 → Int32 → Int32 → Option (Int32 × St)) (hb18 : ∀ (r : St) (x1 : Int32) (x2 : Int32) (x3 : Int32) (x4 : Int32), Ok (mBig (mRoL xs) (d)) (mRoL xs) 1 mK237 (fun p : Int32 × St => (some (.int p.1), HP c p.2)) (kb18 r x1 x2 x3 x4) 18 [some (.ref 115), some (.int x1), some (.int x2), some (.int x3), some (.int x4), none, none, none] [] (HP c r)) (r : St) (x1 : Int32) (x2 : Int32) (x4 : Int32) (s0 : Int32) (s1 : Int32) : Ok (mBig (mRoL xs) (d)) (mRoL xs) 1 mK237 (fun p : Int32 × St => (some (.int p.1), HP c p.2)) (R_fallenAt_p141 N kb9 kb18 r x1 x2 x4 s0 s1) 141 [some (.ref 115), some (.int x1), some (.int x2), none, some (.int x4), none, none, none] [.int s1, .int s0] (HP c r) := by
  unfold R_fallenAt_p141
  refine Ok_blk 4 (pc2 := 18) (lo2 := [some (.ref 115), some (.int x1), some (.int x2), some (.int (s0 ||| s1)), some (.int (x4 + 1)), none, none, none]) (st2 := []) rfl ?_
  refine Ok_drop (lo0 := [some (.ref 115), some (.int x1), some (.int x2), some (.int (s0 ||| s1)), some (.int (x4 + 1)), none, none, none]) ⟨Or.inr rfl, Or.inr rfl, Or.inr rfl, Or.inr rfl, Or.inr rfl, Or.inl rfl, Or.inl rfl, Or.inl rfl, trivial⟩ ?_
  exact hb18 r x1 x2 (s0 ||| s1) (x4 + 1)
set_option maxHeartbeats 8000000 in
set_option maxRecDepth 100000 in
theorem t_R_fallenAt_p140 (N d : Nat) (xs : List Int32) (c : St) (kb9 : St → Int32 → Int32 → Int32 → Option (Int32 × St)) (hb9 : ∀ (r : St) (x1 : Int32) (x2 : Int32) (x3 : Int32), Ok (mBig (mRoL xs) (d)) (mRoL xs) 1 mK237 (fun p : Int32 × St => (some (.int p.1), HP c p.2)) (kb9 r x1 x2 x3) 9 [some (.ref 115), some (.int x1), some (.int x2), some (.int x3), none, none, none, none] [] (HP c r)) (kb18 : St → Int32 → Int32 → Int32 → Int32 → Option (Int32 × St)) (hb18 : ∀ (r : St) (x1 : Int32) (x2 : Int32) (x3 : Int32) (x4 : Int32), Ok (mBig (mRoL xs) (d)) (mRoL xs) 1 mK237 (fun p : Int32 × St => (some (.int p.1), HP c p.2)) (kb18 r x1 x2 x3 x4) 18 [some (.ref 115), some (.int x1), some (.int x2), some (.int x3), some (.int x4), none, none, none] [] (HP c r)) (r : St) (x1 : Int32) (x2 : Int32) (x4 : Int32) (s0 : Int32) : Ok (mBig (mRoL xs) (d)) (mRoL xs) 1 mK237 (fun p : Int32 × St => (some (.int p.1), HP c p.2)) (R_fallenAt_p140 N kb9 kb18 r x1 x2 x4 s0) 140 [some (.ref 115), some (.int x1), some (.int x2), none, some (.int x4), none, none, none] [.int s0] (HP c r) := by
  unfold R_fallenAt_p140
  refine Ok_blk 1 (pc2 := 141) (lo2 := [some (.ref 115), some (.int x1), some (.int x2), none, some (.int x4), none, none, none]) (st2 := [.int 0, .int s0]) rfl ?_
  refine Ok_drop (lo0 := [some (.ref 115), some (.int x1), some (.int x2), none, some (.int x4), none, none, none]) ⟨Or.inr rfl, Or.inr rfl, Or.inr rfl, Or.inl rfl, Or.inr rfl, Or.inl rfl, Or.inl rfl, Or.inl rfl, trivial⟩ ?_
  exact t_R_fallenAt_p141 N d xs c kb9 hb9 kb18 hb18 r x1 x2 x4 s0 0
set_option maxHeartbeats 8000000 in
set_option maxRecDepth 100000 in
theorem t_R_fallenAt_p89 (N d : Nat) (xs : List Int32) (c : St) (kb9 : St → Int32 → Int32 → Int32 → Option (Int32 × St)) (hb9 : ∀ (r : St) (x1 : Int32) (x2 : Int32) (x3 : Int32), Ok (mBig (mRoL xs) (d)) (mRoL xs) 1 mK237 (fun p : Int32 × St => (some (.int p.1), HP c p.2)) (kb9 r x1 x2 x3) 9 [some (.ref 115), some (.int x1), some (.int x2), some (.int x3), none, none, none, none] [] (HP c r)) (kb18 : St → Int32 → Int32 → Int32 → Int32 → Option (Int32 × St)) (hb18 : ∀ (r : St) (x1 : Int32) (x2 : Int32) (x3 : Int32) (x4 : Int32), Ok (mBig (mRoL xs) (d)) (mRoL xs) 1 mK237 (fun p : Int32 × St => (some (.int p.1), HP c p.2)) (kb18 r x1 x2 x3 x4) 18 [some (.ref 115), some (.int x1), some (.int x2), some (.int x3), some (.int x4), none, none, none] [] (HP c r)) (kb52 : St → Int32 → Int32 → Int32 → Int32 → Int32 → Int32 → Int32 → Option (Int32 × St)) (hb52 : ∀ (r : St) (x1 : Int32) (x2 : Int32) (x3 : Int32) (x4 : Int32) (x5 : Int32) (x6 : Int32) (x7 : Int32), Ok (mBig (mRoL xs) (d)) (mRoL xs) 1 mK237 (fun p : Int32 × St => (some (.int p.1), HP c p.2)) (kb52 r x1 x2 x3 x4 x5 x6 x7) 52 [some (.ref 115), some (.int x1), some (.int x2), some (.int x3), some (.int x4), some (.int x5), some (.int x6), some (.int x7)] [] (HP c r)) (r : St) (x1 : Int32) (x2 : Int32) (x3 : Int32) (x4 : Int32) (x6 : Int32) (x7 : Int32) (s0 : Int32) (s1 : Int32) : Ok (mBig (mRoL xs) (d)) (mRoL xs) 1 mK237 (fun p : Int32 × St => (some (.int p.1), HP c p.2)) (R_fallenAt_p89 N kb9 kb18 kb52 r x1 x2 x3 x4 x6 x7 s0 s1) 89 [some (.ref 115), some (.int x1), some (.int x2), some (.int x3), some (.int x4), none, some (.int x6), some (.int x7)] [.int s1, .int s0] (HP c r) := by
  unfold R_fallenAt_p89
  refine Ok_blk 10 (pc2 := 106) (lo2 := [some (.ref 115), some (.int x1), some (.int x2), some (.int x3), some (.int x4), some (.int (s0 + s1)), some (.int x6), some (.int x7)]) (st2 := [.int ((8 * x4) + x7), .ref 140, .int x6]) rfl ?_
  refine Ok_ld (l := (gA r 24)) rfl rfl (fun y10 hy10 => ?_)
  refine Ok_blk 4 (pc2 := 52) (lo2 := [some (.ref 115), some (.int x1), some (.int x2), some (.int x3), some (.int x4), some (.int (s0 + s1)), some (.int (x6 + y10)), some (.int (x7 + 1))]) (st2 := []) rfl ?_
  refine Ok_drop (lo0 := [some (.ref 115), some (.int x1), some (.int x2), some (.int x3), some (.int x4), some (.int (s0 + s1)), some (.int (x6 + y10)), some (.int (x7 + 1))]) ⟨Or.inr rfl, Or.inr rfl, Or.inr rfl, Or.inr rfl, Or.inr rfl, Or.inr rfl, Or.inr rfl, Or.inr rfl, trivial⟩ ?_
  exact hb52 r x1 x2 x3 x4 (s0 + s1) (x6 + y10) (x7 + 1)
set_option maxHeartbeats 8000000 in
set_option maxRecDepth 100000 in
theorem t_R_fallenAt_p52b (N d : Nat) (xs : List Int32) (c : St) (kb9 : St → Int32 → Int32 → Int32 → Option (Int32 × St)) (hb9 : ∀ (r : St) (x1 : Int32) (x2 : Int32) (x3 : Int32), Ok (mBig (mRoL xs) (d)) (mRoL xs) 1 mK237 (fun p : Int32 × St => (some (.int p.1), HP c p.2)) (kb9 r x1 x2 x3) 9 [some (.ref 115), some (.int x1), some (.int x2), some (.int x3), none, none, none, none] [] (HP c r)) (kb18 : St → Int32 → Int32 → Int32 → Int32 → Option (Int32 × St)) (hb18 : ∀ (r : St) (x1 : Int32) (x2 : Int32) (x3 : Int32) (x4 : Int32), Ok (mBig (mRoL xs) (d)) (mRoL xs) 1 mK237 (fun p : Int32 × St => (some (.int p.1), HP c p.2)) (kb18 r x1 x2 x3 x4) 18 [some (.ref 115), some (.int x1), some (.int x2), some (.int x3), some (.int x4), none, none, none] [] (HP c r)) (kb52 : St → Int32 → Int32 → Int32 → Int32 → Int32 → Int32 → Int32 → Option (Int32 × St)) (hb52 : ∀ (r : St) (x1 : Int32) (x2 : Int32) (x3 : Int32) (x4 : Int32) (x5 : Int32) (x6 : Int32) (x7 : Int32), Ok (mBig (mRoL xs) (d)) (mRoL xs) 1 mK237 (fun p : Int32 × St => (some (.int p.1), HP c p.2)) (kb52 r x1 x2 x3 x4 x5 x6 x7) 52 [some (.ref 115), some (.int x1), some (.int x2), some (.int x3), some (.int x4), some (.int x5), some (.int x6), some (.int x7)] [] (HP c r)) (r : St) (x1 : Int32) (x2 : Int32) (x3 : Int32) (x4 : Int32) (x5 : Int32) (x6 : Int32) (x7 : Int32) : Ok (mBig (mRoL xs) (d)) (mRoL xs) 1 mK237 (fun p : Int32 × St => (some (.int p.1), HP c p.2)) (R_fallenAt_p52b N kb9 kb18 kb52 r x1 x2 x3 x4 x5 x6 x7) 52 [some (.ref 115), some (.int x1), some (.int x2), some (.int x3), some (.int x4), some (.int x5), some (.int x6), some (.int x7)] [] (HP c r) := by
  unfold R_fallenAt_p52b
  refine Ok_blk 4 (pc2 := (if (gI r 20) ≤ x7 then 116 else 61)) (lo2 := [some (.ref 115), some (.int x1), some (.int x2), some (.int x3), some (.int x4), some (.int x5), some (.int x6), some (.int x7)]) (st2 := []) rfl ?_
  refine Ok_if (fun h6 => ?_) (fun h6 => ?_)
  · refine Ok_blk 7 (pc2 := (if ¬ ((x2 >>> (x4 &&& 31)) &&& 1) = 0 then 140 else 126)) (lo2 := [some (.ref 115), some (.int x1), some (.int x2), some (.int x3), some (.int x4), some (.int x5), some (.int x6), some (.int x7)]) (st2 := [.int x3]) rfl ?_
    refine Ok_if (fun h7 => ?_) (fun h7 => ?_)
    · refine Ok_drop (lo0 := [some (.ref 115), some (.int x1), some (.int x2), none, some (.int x4), none, none, none]) ⟨Or.inr rfl, Or.inr rfl, Or.inr rfl, Or.inl rfl, Or.inr rfl, Or.inl rfl, Or.inl rfl, Or.inl rfl, trivial⟩ ?_
      exact t_R_fallenAt_p140 N d xs c kb9 hb9 kb18 hb18 r x1 x2 x4 x3
    · refine Ok_blk 3 (pc2 := (if x6 ≤ x5 then 140 else 133)) (lo2 := [some (.ref 115), some (.int x1), some (.int x2), some (.int x3), some (.int x4), some (.int x5), some (.int x6), some (.int x7)]) (st2 := [.int x3]) rfl ?_
      refine Ok_if (fun h8 => ?_) (fun h8 => ?_)
      · refine Ok_drop (lo0 := [some (.ref 115), some (.int x1), some (.int x2), none, some (.int x4), none, none, none]) ⟨Or.inr rfl, Or.inr rfl, Or.inr rfl, Or.inl rfl, Or.inr rfl, Or.inl rfl, Or.inl rfl, Or.inl rfl, trivial⟩ ?_
        exact t_R_fallenAt_p140 N d xs c kb9 hb9 kb18 hb18 r x1 x2 x4 x3
      · refine Ok_blk 4 (pc2 := 141) (lo2 := [some (.ref 115), some (.int x1), some (.int x2), some (.int x3), some (.int x4), some (.int x5), some (.int x6), some (.int x7)]) (st2 := [.int (1 <<< (x4 &&& 31)), .int x3]) rfl ?_
        refine Ok_drop (lo0 := [some (.ref 115), some (.int x1), some (.int x2), none, some (.int x4), none, none, none]) ⟨Or.inr rfl, Or.inr rfl, Or.inr rfl, Or.inl rfl, Or.inr rfl, Or.inl rfl, Or.inl rfl, Or.inl rfl, trivial⟩ ?_
        exact t_R_fallenAt_p141 N d xs c kb9 hb9 kb18 hb18 r x1 x2 x4 x3 (1 <<< (x4 &&& 31))
  · refine Ok_blk 7 (pc2 := (if ¬ ((x2 >>> (x7 &&& 31)) &&& 1) = 0 then 88 else 72)) (lo2 := [some (.ref 115), some (.int x1), some (.int x2), some (.int x3), some (.int x4), some (.int x5), some (.int x6), some (.int x7)]) (st2 := [.int x5]) rfl ?_
    refine Ok_if (fun h9 => ?_) (fun h9 => ?_)
    · refine Ok_blk 1 (pc2 := 89) (lo2 := [some (.ref 115), some (.int x1), some (.int x2), some (.int x3), some (.int x4), some (.int x5), some (.int x6), some (.int x7)]) (st2 := [.int 0, .int x5]) rfl ?_
      refine Ok_drop (lo0 := [some (.ref 115), some (.int x1), some (.int x2), some (.int x3), some (.int x4), none, some (.int x6), some (.int x7)]) ⟨Or.inr rfl, Or.inr rfl, Or.inr rfl, Or.inr rfl, Or.inr rfl, Or.inl rfl, Or.inr rfl, Or.inr rfl, trivial⟩ ?_
      exact t_R_fallenAt_p89 N d xs c kb9 hb9 kb18 hb18 kb52 hb52 r x1 x2 x3 x4 x6 x7 x5 0
    · refine Ok_blk 7 (pc2 := 84) (lo2 := [some (.ref 115), some (.int x1), some (.int x2), some (.int x3), some (.int x4), some (.int x5), some (.int x6), some (.int x7)]) (st2 := [.int ((8 * x7) + x4), .ref 140, .int x5]) rfl ?_
      refine Ok_ld (l := (gA r 24)) rfl rfl (fun y11 hy11 => ?_)
      refine Ok_blk 1 (pc2 := 89) (lo2 := [some (.ref 115), some (.int x1), some (.int x2), some (.int x3), some (.int x4), some (.int x5), some (.int x6), some (.int x7)]) (st2 := [.int y11, .int x5]) rfl ?_
      refine Ok_drop (lo0 := [some (.ref 115), some (.int x1), some (.int x2), some (.int x3), some (.int x4), none, some (.int x6), some (.int x7)]) ⟨Or.inr rfl, Or.inr rfl, Or.inr rfl, Or.inr rfl, Or.inr rfl, Or.inl rfl, Or.inr rfl, Or.inr rfl, trivial⟩ ?_
      exact t_R_fallenAt_p89 N d xs c kb9 hb9 kb18 hb18 kb52 hb52 r x1 x2 x3 x4 x6 x7 x5 y11
set_option maxHeartbeats 8000000 in
set_option maxRecDepth 100000 in
theorem t_R_fallenAt_p52 (N d : Nat) (xs : List Int32) (c : St) (kb9 : St → Int32 → Int32 → Int32 → Option (Int32 × St)) (hb9 : ∀ (r : St) (x1 : Int32) (x2 : Int32) (x3 : Int32), Ok (mBig (mRoL xs) (d)) (mRoL xs) 1 mK237 (fun p : Int32 × St => (some (.int p.1), HP c p.2)) (kb9 r x1 x2 x3) 9 [some (.ref 115), some (.int x1), some (.int x2), some (.int x3), none, none, none, none] [] (HP c r)) (kb18 : St → Int32 → Int32 → Int32 → Int32 → Option (Int32 × St)) (hb18 : ∀ (r : St) (x1 : Int32) (x2 : Int32) (x3 : Int32) (x4 : Int32), Ok (mBig (mRoL xs) (d)) (mRoL xs) 1 mK237 (fun p : Int32 × St => (some (.int p.1), HP c p.2)) (kb18 r x1 x2 x3 x4) 18 [some (.ref 115), some (.int x1), some (.int x2), some (.int x3), some (.int x4), none, none, none] [] (HP c r)) : ∀ (n : Nat) (r : St) (x1 : Int32) (x2 : Int32) (x3 : Int32) (x4 : Int32) (x5 : Int32) (x6 : Int32) (x7 : Int32), Ok (mBig (mRoL xs) (d)) (mRoL xs) 1 mK237 (fun p : Int32 × St => (some (.int p.1), HP c p.2)) (R_fallenAt_p52 N kb9 kb18 n r x1 x2 x3 x4 x5 x6 x7) 52 [some (.ref 115), some (.int x1), some (.int x2), some (.int x3), some (.int x4), some (.int x5), some (.int x6), some (.int x7)] [] (HP c r) := by
  intro n
  induction n with
  | zero => intro r x1 x2 x3 x4 x5 x6 x7; exact Ok_none
  | succ n ih => intro r x1 x2 x3 x4 x5 x6 x7; exact t_R_fallenAt_p52b N d xs c kb9 hb9 kb18 hb18 (R_fallenAt_p52 N kb9 kb18 n) ih r x1 x2 x3 x4 x5 x6 x7
set_option maxHeartbeats 8000000 in
set_option maxRecDepth 100000 in
theorem t_R_fallenAt_p18b (N d : Nat) (xs : List Int32) (c : St) (kb9 : St → Int32 → Int32 → Int32 → Option (Int32 × St)) (hb9 : ∀ (r : St) (x1 : Int32) (x2 : Int32) (x3 : Int32), Ok (mBig (mRoL xs) (d)) (mRoL xs) 1 mK237 (fun p : Int32 × St => (some (.int p.1), HP c p.2)) (kb9 r x1 x2 x3) 9 [some (.ref 115), some (.int x1), some (.int x2), some (.int x3), none, none, none, none] [] (HP c r)) (kb18 : St → Int32 → Int32 → Int32 → Int32 → Option (Int32 × St)) (hb18 : ∀ (r : St) (x1 : Int32) (x2 : Int32) (x3 : Int32) (x4 : Int32), Ok (mBig (mRoL xs) (d)) (mRoL xs) 1 mK237 (fun p : Int32 × St => (some (.int p.1), HP c p.2)) (kb18 r x1 x2 x3 x4) 18 [some (.ref 115), some (.int x1), some (.int x2), some (.int x3), some (.int x4), none, none, none] [] (HP c r)) (r : St) (x1 : Int32) (x2 : Int32) (x3 : Int32) (x4 : Int32) : Ok (mBig (mRoL xs) (d)) (mRoL xs) 1 mK237 (fun p : Int32 × St => (some (.int p.1), HP c p.2)) (R_fallenAt_p18b N kb9 kb18 r x1 x2 x3 x4) 18 [some (.ref 115), some (.int x1), some (.int x2), some (.int x3), some (.int x4), none, none, none] [] (HP c r) := by
  unfold R_fallenAt_p18b
  refine Ok_blk 4 (pc2 := (if (gI r 20) ≤ x4 then 149 else 27)) (lo2 := [some (.ref 115), some (.int x1), some (.int x2), some (.int x3), some (.int x4), none, none, none]) (st2 := []) rfl ?_
  refine Ok_if (fun h2 => ?_) (fun h2 => ?_)
  · refine Ok_blk 9 (pc2 := (if x3 = 0 then 166 else 162)) (lo2 := [some (.ref 115), some (.int x1), some (.int (x2 ||| x3)), some (.int x3), some (.int x4), none, none, none]) (st2 := [.int (gI r 34), .ref 115]) rfl ?_
    refine Ok_if (fun h3 => ?_) (fun h3 => ?_)
    · refine Ok_blk 1 (pc2 := 167) (lo2 := [some (.ref 115), some (.int x1), some (.int (x2 ||| x3)), some (.int x3), some (.int x4), none, none, none]) (st2 := [.int 0, .int (gI r 34), .ref 115]) rfl ?_
      refine Ok_drop (lo0 := [some (.ref 115), some (.int x1), some (.int (x2 ||| x3)), some (.int x3), none, none, none, none]) ⟨Or.inr rfl, Or.inr rfl, Or.inr rfl, Or.inr rfl, Or.inl rfl, Or.inl rfl, Or.inl rfl, Or.inl rfl, trivial⟩ ?_
      exact t_R_fallenAt_p167 N d xs c kb9 hb9 r x1 (x2 ||| x3) x3 (gI r 34) 0
    · refine Ok_blk 2 (pc2 := 167) (lo2 := [some (.ref 115), some (.int x1), some (.int (x2 ||| x3)), some (.int x3), some (.int x4), none, none, none]) (st2 := [.int 1, .int (gI r 34), .ref 115]) rfl ?_
      refine Ok_drop (lo0 := [some (.ref 115), some (.int x1), some (.int (x2 ||| x3)), some (.int x3), none, none, none, none]) ⟨Or.inr rfl, Or.inr rfl, Or.inr rfl, Or.inr rfl, Or.inl rfl, Or.inl rfl, Or.inl rfl, Or.inl rfl, trivial⟩ ?_
      exact t_R_fallenAt_p167 N d xs c kb9 hb9 r x1 (x2 ||| x3) x3 (gI r 34) 1
  · refine Ok_blk 3 (pc2 := 33) (lo2 := [some (.ref 115), some (.int x1), some (.int x2), some (.int x3), some (.int x4), none, none, none]) (st2 := [.int x4, .ref 138]) rfl ?_
    refine Ok_ld (l := (gA r 22)) rfl rfl (fun y4 hy4 => ?_)
    refine Ok_blk 5 (pc2 := 42) (lo2 := [some (.ref 115), some (.int x1), some (.int x2), some (.int x3), some (.int x4), none, none, none]) (st2 := [.int x4, .ref 139, .int (y4 * x1)]) rfl ?_
    refine Ok_ld (l := (gA r 23)) rfl rfl (fun y5 hy5 => ?_)
    refine Ok_blk 6 (pc2 := 52) (lo2 := [some (.ref 115), some (.int x1), some (.int x2), some (.int x3), some (.int x4), some (.int ((y4 * x1) + y5)), some (.int 0), some (.int 0)]) (st2 := []) rfl ?_
    refine Ok_drop (lo0 := [some (.ref 115), some (.int x1), some (.int x2), some (.int x3), some (.int x4), some (.int ((y4 * x1) + y5)), some (.int 0), some (.int 0)]) ⟨Or.inr rfl, Or.inr rfl, Or.inr rfl, Or.inr rfl, Or.inr rfl, Or.inr rfl, Or.inr rfl, Or.inr rfl, trivial⟩ ?_
    exact t_R_fallenAt_p52 N d xs c kb9 hb9 kb18 hb18 N r x1 x2 x3 x4 ((y4 * x1) + y5) 0 0
set_option maxHeartbeats 8000000 in
set_option maxRecDepth 100000 in
theorem t_R_fallenAt_p18 (N d : Nat) (xs : List Int32) (c : St) (kb9 : St → Int32 → Int32 → Int32 → Option (Int32 × St)) (hb9 : ∀ (r : St) (x1 : Int32) (x2 : Int32) (x3 : Int32), Ok (mBig (mRoL xs) (d)) (mRoL xs) 1 mK237 (fun p : Int32 × St => (some (.int p.1), HP c p.2)) (kb9 r x1 x2 x3) 9 [some (.ref 115), some (.int x1), some (.int x2), some (.int x3), none, none, none, none] [] (HP c r)) : ∀ (n : Nat) (r : St) (x1 : Int32) (x2 : Int32) (x3 : Int32) (x4 : Int32), Ok (mBig (mRoL xs) (d)) (mRoL xs) 1 mK237 (fun p : Int32 × St => (some (.int p.1), HP c p.2)) (R_fallenAt_p18 N kb9 n r x1 x2 x3 x4) 18 [some (.ref 115), some (.int x1), some (.int x2), some (.int x3), some (.int x4), none, none, none] [] (HP c r) := by
  intro n
  induction n with
  | zero => intro r x1 x2 x3 x4; exact Ok_none
  | succ n ih => intro r x1 x2 x3 x4; exact t_R_fallenAt_p18b N d xs c kb9 hb9 (R_fallenAt_p18 N kb9 n) ih r x1 x2 x3 x4
set_option maxHeartbeats 8000000 in
set_option maxRecDepth 100000 in
theorem t_R_fallenAt_p9b (N d : Nat) (xs : List Int32) (c : St) (kb9 : St → Int32 → Int32 → Int32 → Option (Int32 × St)) (hb9 : ∀ (r : St) (x1 : Int32) (x2 : Int32) (x3 : Int32), Ok (mBig (mRoL xs) (d)) (mRoL xs) 1 mK237 (fun p : Int32 × St => (some (.int p.1), HP c p.2)) (kb9 r x1 x2 x3) 9 [some (.ref 115), some (.int x1), some (.int x2), some (.int x3), none, none, none, none] [] (HP c r)) (r : St) (x1 : Int32) (x2 : Int32) (x3 : Int32) : Ok (mBig (mRoL xs) (d)) (mRoL xs) 1 mK237 (fun p : Int32 × St => (some (.int p.1), HP c p.2)) (R_fallenAt_p9b N kb9 r x1 x2 x3) 9 [some (.ref 115), some (.int x1), some (.int x2), some (.int x3), none, none, none, none] [] (HP c r) := by
  unfold R_fallenAt_p9b
  refine Ok_blk 2 (pc2 := (if x3 = 0 then 174 else 13)) (lo2 := [some (.ref 115), some (.int x1), some (.int x2), some (.int x3), none, none, none, none]) (st2 := []) rfl ?_
  refine Ok_if (fun h1 => ?_) (fun h1 => ?_)
  · refine Ok_blk 1 (pc2 := 175) (lo2 := [some (.ref 115), some (.int x1), some (.int x2), some (.int x3), none, none, none, none]) (st2 := [.int x2]) rfl ?_
    exact Ok_ret rfl rfl rfl
  · refine Ok_blk 4 (pc2 := 18) (lo2 := [some (.ref 115), some (.int x1), some (.int x2), some (.int 0), some (.int 0), none, none, none]) (st2 := []) rfl ?_
    refine Ok_drop (lo0 := [some (.ref 115), some (.int x1), some (.int x2), some (.int 0), some (.int 0), none, none, none]) ⟨Or.inr rfl, Or.inr rfl, Or.inr rfl, Or.inr rfl, Or.inr rfl, Or.inl rfl, Or.inl rfl, Or.inl rfl, trivial⟩ ?_
    exact t_R_fallenAt_p18 N d xs c kb9 hb9 N r x1 x2 0 0
set_option maxHeartbeats 8000000 in
set_option maxRecDepth 100000 in
theorem t_R_fallenAt_p9 (N d : Nat) (xs : List Int32) (c : St) : ∀ (n : Nat) (r : St) (x1 : Int32) (x2 : Int32) (x3 : Int32), Ok (mBig (mRoL xs) (d)) (mRoL xs) 1 mK237 (fun p : Int32 × St => (some (.int p.1), HP c p.2)) (R_fallenAt_p9 N n r x1 x2 x3) 9 [some (.ref 115), some (.int x1), some (.int x2), some (.int x3), none, none, none, none] [] (HP c r) := by
  intro n
  induction n with
  | zero => intro r x1 x2 x3; exact Ok_none
  | succ n ih => intro r x1 x2 x3; exact t_R_fallenAt_p9b N d xs c (R_fallenAt_p9 N n) ih r x1 x2 x3
set_option maxHeartbeats 8000000 in
set_option maxRecDepth 100000 in
theorem t_R_fallenAt (N d : Nat) (xs : List Int32) (c : St) (r : St) (x1 : Int32) : Ok (mBig (mRoL xs) (d)) (mRoL xs) 1 mK237 (fun p : Int32 × St => (some (.int p.1), HP c p.2)) (R_fallenAt N r x1) 0 [some (.ref 115), some (.int x1), none, none, none, none, none, none] [] (HP c r) := by
  unfold R_fallenAt
  refine Ok_heap 5 (pc2 := 7) (lo2 := [some (.ref 115), some (.int x1), some (.int 0), none, none, none, none, none]) (st2 := []) (h2 := HP c (sI r 34 0)) rfl (st_115_76 _ _ _) ?_
  refine Ok_blk 2 (pc2 := 9) (lo2 := [some (.ref 115), some (.int x1), some (.int 0), some (.int 1), none, none, none, none]) (st2 := []) rfl ?_
  refine Ok_drop (lo0 := [some (.ref 115), some (.int x1), some (.int 0), some (.int 1), none, none, none, none]) ⟨Or.inr rfl, Or.inr rfl, Or.inr rfl, Or.inr rfl, Or.inl rfl, Or.inl rfl, Or.inl rfl, Or.inl rfl, trivial⟩ ?_
  exact t_R_fallenAt_p9 N d xs c N (sI r 34 0) x1 0 1
set_option maxHeartbeats 8000000 in
set_option maxRecDepth 100000 in
theorem tm_R_fallenAt (N d : Nat) (xs : List Int32) (c r : St) (a1 : Int32) (p : Int32 × St) (hp : R_fallenAt N r a1 = some p) : mBig (mRoL xs) (d + 1) 237 [.ref 115, .int a1] (HP c r) (some (.int p.1)) (HP c p.2) 0 0 := mBig_of (by decide) rfl rfl rfl rfl (t_R_fallenAt N d xs c r a1 p hp)
/-! ColdHoldsModel.falls(II)I, from (('r', 115), 'i', 'i') -/
def R_falls_p20 (N : Nat) (r : St) : Option (Int32 × St) :=
  some ((-102), r)
def R_falls (N : Nat) (r : St) (x1 : Int32) (x2 : Int32) : Option (Int32 × St) :=
  (R_in N x1 0 999).bind fun p1 => (if p1 = 0 then R_falls_p20 N r else (R_in N x2 0 1).bind fun p3 => (if ¬ p3 = 0 then (R_fallenAt N r x1).bind fun p5 => (if ¬ x2 = 0 then some (gI p5.2 34, p5.2) else some (p5.1, p5.2)) else R_falls_p20 N r))
set_option maxHeartbeats 8000000 in
set_option maxRecDepth 100000 in
theorem t_R_falls_p20 (N d : Nat) (xs : List Int32) (c : St) (r : St) : Ok (mBig (mRoL xs) (d + 1)) (mRoL xs) 1 mK238 (fun p : Int32 × St => (some (.int p.1), HP c p.2)) (R_falls_p20 N r) 20 [none, none, none, none] [] (HP c r) := by
  unfold R_falls_p20
  refine Ok_blk 1 (pc2 := 22) (lo2 := [none, none, none, none]) (st2 := [.int (-102)]) rfl ?_
  exact Ok_ret rfl rfl rfl
set_option maxHeartbeats 8000000 in
set_option maxRecDepth 100000 in
theorem t_R_falls (N d : Nat) (xs : List Int32) (c : St) (r : St) (x1 : Int32) (x2 : Int32) : Ok (mBig (mRoL xs) (d + 1)) (mRoL xs) 1 mK238 (fun p : Int32 × St => (some (.int p.1), HP c p.2)) (R_falls N r x1 x2) 0 [some (.ref 115), some (.int x1), some (.int x2), none] [] (HP c r) := by
  unfold R_falls
  refine Ok_blk 3 (pc2 := 5) (lo2 := [some (.ref 115), some (.int x1), some (.int x2), none]) (st2 := [.int 999, .int 0, .int x1]) rfl ?_
  refine Ok_call (y := 164) (as := [.int x1, .int 0, .int 999]) (rest := []) (w := fun p1 => some (.int p1)) (h1 := fun p1 => HP c r) rfl rfl (fun x hx => tm_R_in N d xs c r x1 0 999 x hx) (fun p1 hp1 => ?_)
  refine Ok_blk 1 (pc2 := (if p1 = 0 then 20 else 11)) (lo2 := [some (.ref 115), some (.int x1), some (.int x2), none]) (st2 := []) rfl ?_
  refine Ok_if (fun h2 => ?_) (fun h2 => ?_)
  · refine Ok_drop (lo0 := [none, none, none, none]) ⟨Or.inl rfl, Or.inl rfl, Or.inl rfl, Or.inl rfl, trivial⟩ ?_
    exact t_R_falls_p20 N d xs c r
  · refine Ok_blk 3 (pc2 := 14) (lo2 := [some (.ref 115), some (.int x1), some (.int x2), none]) (st2 := [.int 1, .int 0, .int x2]) rfl ?_
    refine Ok_call (y := 164) (as := [.int x2, .int 0, .int 1]) (rest := []) (w := fun p3 => some (.int p3)) (h1 := fun p3 => HP c r) rfl rfl (fun x hx => tm_R_in N d xs c r x2 0 1 x hx) (fun p3 hp3 => ?_)
    refine Ok_blk 1 (pc2 := (if ¬ p3 = 0 then 23 else 20)) (lo2 := [some (.ref 115), some (.int x1), some (.int x2), none]) (st2 := []) rfl ?_
    refine Ok_if (fun h4 => ?_) (fun h4 => ?_)
    · refine Ok_blk 2 (pc2 := 25) (lo2 := [some (.ref 115), some (.int x1), some (.int x2), none]) (st2 := [.int x1, .ref 115]) rfl ?_
      refine Ok_call (y := 237) (as := [.ref 115, .int x1]) (rest := []) (w := fun p5 => some (.int p5.1)) (h1 := fun p5 => HP c p5.2) rfl rfl (fun x hx => tm_R_fallenAt N d xs c r x1 x hx) (fun p5 hp5 => ?_)
      refine Ok_blk 3 (pc2 := (if ¬ x2 = 0 then 37 else 33)) (lo2 := [some (.ref 115), some (.int x1), some (.int x2), some (.int p5.1)]) (st2 := []) rfl ?_
      refine Ok_if (fun h6 => ?_) (fun h6 => ?_)
      · refine Ok_blk 2 (pc2 := 41) (lo2 := [some (.ref 115), some (.int x1), some (.int x2), some (.int p5.1)]) (st2 := [.int (gI p5.2 34)]) rfl ?_
        exact Ok_ret rfl rfl rfl
      · refine Ok_blk 2 (pc2 := 41) (lo2 := [some (.ref 115), some (.int x1), some (.int x2), some (.int p5.1)]) (st2 := [.int p5.1]) rfl ?_
        exact Ok_ret rfl rfl rfl
    · refine Ok_drop (lo0 := [none, none, none, none]) ⟨Or.inl rfl, Or.inl rfl, Or.inl rfl, Or.inl rfl, trivial⟩ ?_
      exact t_R_falls_p20 N d xs c r
set_option maxHeartbeats 8000000 in
set_option maxRecDepth 100000 in
theorem tm_R_falls (N d : Nat) (xs : List Int32) (c r : St) (a1 : Int32) (a2 : Int32) (p : Int32 × St) (hp : R_falls N r a1 a2 = some p) : mBig (mRoL xs) (d + 2) 238 [.ref 115, .int a1, .int a2] (HP c r) (some (.int p.1)) (HP c p.2) 0 0 := mBig_of (by decide) rfl rfl rfl rfl (t_R_falls N d xs c r a1 a2 p hp)
/-! ColdHolds$Farms.leastPrice(I)I, from (('r', 88), 'i') -/
def Farms_leastPrice_p56 (N : Nat) (c : St) (x3 : Int32) : Option (Int32 × St) :=
  (if x3 ≤ 999 then some (x3, c) else some ((-2), c))
def Farms_leastPrice_p50 (N : Nat) (kb9 : St → Int32 → Int32 → Int32 → Int32 → Option (Int32 × St)) (c : St) (x1 : Int32) (x2 : Int32) (x3 : Int32) (x4 : Int32) : Option (Int32 × St) :=
  kb9 c x1 x2 x3 (x4 + 1)
def Farms_leastPrice_p9b (N : Nat) (kb9 : St → Int32 → Int32 → Int32 → Int32 → Option (Int32 × St)) (c : St) (x1 : Int32) (x2 : Int32) (x3 : Int32) (x4 : Int32) : Option (Int32 × St) :=
  (if 11 ≤ x4 then Farms_leastPrice_p56 N c x3 else (if x3 ≤ x2 then Farms_leastPrice_p56 N c x3 else (dv (x2 + x3) 2).bind fun y4 => (Farms_fallenAt N c y4).bind fun p5 => (if ¬ (p5.1 &&& x1) = 0 then Farms_leastPrice_p50 N kb9 p5.2 x1 (y4 + 1) x3 x4 else Farms_leastPrice_p50 N kb9 p5.2 x1 x2 y4 x4)))
def Farms_leastPrice_p9 (N : Nat) : Nat → St → Int32 → Int32 → Int32 → Int32 → Option (Int32 × St)
  | 0 => fun _ _ _ _ _ => none
  | n + 1 => Farms_leastPrice_p9b N (Farms_leastPrice_p9 N n)
def Farms_leastPrice (N : Nat) (c : St) (x1 : Int32) : Option (Int32 × St) :=
  Farms_leastPrice_p9 N N c x1 0 1000 0
set_option maxHeartbeats 8000000 in
set_option maxRecDepth 100000 in
theorem t_Farms_leastPrice_p56 (N d : Nat) (xs : List Int32) (r : St) (c : St) (x3 : Int32) : Ok (mBig (mRoL xs) (d + 3)) (mRoL xs) 1 mK26 (fun p : Int32 × St => (some (.int p.1), HP p.2 r)) (Farms_leastPrice_p56 N c x3) 56 [none, none, none, some (.int x3), none, none] [] (HP c r) := by
  unfold Farms_leastPrice_p56
  refine Ok_blk 3 (pc2 := (if x3 ≤ 999 then 68 else 63)) (lo2 := [none, none, none, some (.int x3), none, none]) (st2 := []) rfl ?_
  refine Ok_if (fun h2 => ?_) (fun h2 => ?_)
  · refine Ok_blk 1 (pc2 := 69) (lo2 := [none, none, none, some (.int x3), none, none]) (st2 := [.int x3]) rfl ?_
    exact Ok_ret rfl rfl rfl
  · refine Ok_blk 2 (pc2 := 69) (lo2 := [none, none, none, some (.int x3), none, none]) (st2 := [.int (-2)]) rfl ?_
    exact Ok_ret rfl rfl rfl
set_option maxHeartbeats 8000000 in
set_option maxRecDepth 100000 in
theorem t_Farms_leastPrice_p50 (N d : Nat) (xs : List Int32) (r : St) (kb9 : St → Int32 → Int32 → Int32 → Int32 → Option (Int32 × St)) (hb9 : ∀ (c : St) (x1 : Int32) (x2 : Int32) (x3 : Int32) (x4 : Int32), Ok (mBig (mRoL xs) (d + 3)) (mRoL xs) 1 mK26 (fun p : Int32 × St => (some (.int p.1), HP p.2 r)) (kb9 c x1 x2 x3 x4) 9 [some (.ref 88), some (.int x1), some (.int x2), some (.int x3), some (.int x4), none] [] (HP c r)) (c : St) (x1 : Int32) (x2 : Int32) (x3 : Int32) (x4 : Int32) : Ok (mBig (mRoL xs) (d + 3)) (mRoL xs) 1 mK26 (fun p : Int32 × St => (some (.int p.1), HP p.2 r)) (Farms_leastPrice_p50 N kb9 c x1 x2 x3 x4) 50 [some (.ref 88), some (.int x1), some (.int x2), some (.int x3), some (.int x4), none] [] (HP c r) := by
  unfold Farms_leastPrice_p50
  refine Ok_blk 2 (pc2 := 9) (lo2 := [some (.ref 88), some (.int x1), some (.int x2), some (.int x3), some (.int (x4 + 1)), none]) (st2 := []) rfl ?_
  refine Ok_drop (lo0 := [some (.ref 88), some (.int x1), some (.int x2), some (.int x3), some (.int (x4 + 1)), none]) ⟨Or.inr rfl, Or.inr rfl, Or.inr rfl, Or.inr rfl, Or.inr rfl, Or.inl rfl, trivial⟩ ?_
  exact hb9 c x1 x2 x3 (x4 + 1)
set_option maxHeartbeats 8000000 in
set_option maxRecDepth 100000 in
theorem t_Farms_leastPrice_p9b (N d : Nat) (xs : List Int32) (r : St) (kb9 : St → Int32 → Int32 → Int32 → Int32 → Option (Int32 × St)) (hb9 : ∀ (c : St) (x1 : Int32) (x2 : Int32) (x3 : Int32) (x4 : Int32), Ok (mBig (mRoL xs) (d + 3)) (mRoL xs) 1 mK26 (fun p : Int32 × St => (some (.int p.1), HP p.2 r)) (kb9 c x1 x2 x3 x4) 9 [some (.ref 88), some (.int x1), some (.int x2), some (.int x3), some (.int x4), none] [] (HP c r)) (c : St) (x1 : Int32) (x2 : Int32) (x3 : Int32) (x4 : Int32) : Ok (mBig (mRoL xs) (d + 3)) (mRoL xs) 1 mK26 (fun p : Int32 × St => (some (.int p.1), HP p.2 r)) (Farms_leastPrice_p9b N kb9 c x1 x2 x3 x4) 9 [some (.ref 88), some (.int x1), some (.int x2), some (.int x3), some (.int x4), none] [] (HP c r) := by
  unfold Farms_leastPrice_p9b
  refine Ok_blk 3 (pc2 := (if 11 ≤ x4 then 56 else 16)) (lo2 := [some (.ref 88), some (.int x1), some (.int x2), some (.int x3), some (.int x4), none]) (st2 := []) rfl ?_
  refine Ok_if (fun h1 => ?_) (fun h1 => ?_)
  · refine Ok_drop (lo0 := [none, none, none, some (.int x3), none, none]) ⟨Or.inl rfl, Or.inl rfl, Or.inl rfl, Or.inr rfl, Or.inl rfl, Or.inl rfl, trivial⟩ ?_
    exact t_Farms_leastPrice_p56 N d xs r c x3
  · refine Ok_blk 3 (pc2 := (if x3 ≤ x2 then 56 else 21)) (lo2 := [some (.ref 88), some (.int x1), some (.int x2), some (.int x3), some (.int x4), none]) (st2 := []) rfl ?_
    refine Ok_if (fun h3 => ?_) (fun h3 => ?_)
    · refine Ok_drop (lo0 := [none, none, none, some (.int x3), none, none]) ⟨Or.inl rfl, Or.inl rfl, Or.inl rfl, Or.inr rfl, Or.inl rfl, Or.inl rfl, trivial⟩ ?_
      exact t_Farms_leastPrice_p56 N d xs r c x3
    · refine Ok_blk 4 (pc2 := 25) (lo2 := [some (.ref 88), some (.int x1), some (.int x2), some (.int x3), some (.int x4), none]) (st2 := [.int 2, .int (x2 + x3)]) rfl ?_
      refine Ok_dv rfl (fun y4 hy4 => ?_)
      refine Ok_blk 3 (pc2 := 31) (lo2 := [some (.ref 88), some (.int x1), some (.int x2), some (.int x3), some (.int x4), some (.int y4)]) (st2 := [.int y4, .ref 88]) rfl ?_
      refine Ok_call (y := 23) (as := [.ref 88, .int y4]) (rest := []) (w := fun p5 => some (.int p5.1)) (h1 := fun p5 => HP p5.2 r) rfl rfl (fun x hx => tm_Farms_fallenAt N d xs c r y4 x hx) (fun p5 hp5 => ?_)
      refine Ok_blk 3 (pc2 := (if ¬ (p5.1 &&& x1) = 0 then 45 else 39)) (lo2 := [some (.ref 88), some (.int x1), some (.int x2), some (.int x3), some (.int x4), some (.int y4)]) (st2 := []) rfl ?_
      refine Ok_if (fun h6 => ?_) (fun h6 => ?_)
      · refine Ok_blk 4 (pc2 := 50) (lo2 := [some (.ref 88), some (.int x1), some (.int (y4 + 1)), some (.int x3), some (.int x4), some (.int y4)]) (st2 := []) rfl ?_
        refine Ok_drop (lo0 := [some (.ref 88), some (.int x1), some (.int (y4 + 1)), some (.int x3), some (.int x4), none]) ⟨Or.inr rfl, Or.inr rfl, Or.inr rfl, Or.inr rfl, Or.inr rfl, Or.inl rfl, trivial⟩ ?_
        exact t_Farms_leastPrice_p50 N d xs r kb9 hb9 p5.2 x1 (y4 + 1) x3 x4
      · refine Ok_blk 3 (pc2 := 50) (lo2 := [some (.ref 88), some (.int x1), some (.int x2), some (.int y4), some (.int x4), some (.int y4)]) (st2 := []) rfl ?_
        refine Ok_drop (lo0 := [some (.ref 88), some (.int x1), some (.int x2), some (.int y4), some (.int x4), none]) ⟨Or.inr rfl, Or.inr rfl, Or.inr rfl, Or.inr rfl, Or.inr rfl, Or.inl rfl, trivial⟩ ?_
        exact t_Farms_leastPrice_p50 N d xs r kb9 hb9 p5.2 x1 x2 y4 x4
set_option maxHeartbeats 8000000 in
set_option maxRecDepth 100000 in
theorem t_Farms_leastPrice_p9 (N d : Nat) (xs : List Int32) (r : St) : ∀ (n : Nat) (c : St) (x1 : Int32) (x2 : Int32) (x3 : Int32) (x4 : Int32), Ok (mBig (mRoL xs) (d + 3)) (mRoL xs) 1 mK26 (fun p : Int32 × St => (some (.int p.1), HP p.2 r)) (Farms_leastPrice_p9 N n c x1 x2 x3 x4) 9 [some (.ref 88), some (.int x1), some (.int x2), some (.int x3), some (.int x4), none] [] (HP c r) := by
  intro n
  induction n with
  | zero => intro c x1 x2 x3 x4; exact Ok_none
  | succ n ih => intro c x1 x2 x3 x4; exact t_Farms_leastPrice_p9b N d xs r (Farms_leastPrice_p9 N n) ih c x1 x2 x3 x4
set_option maxHeartbeats 8000000 in
set_option maxRecDepth 100000 in
theorem t_Farms_leastPrice (N d : Nat) (xs : List Int32) (r : St) (c : St) (x1 : Int32) : Ok (mBig (mRoL xs) (d + 3)) (mRoL xs) 1 mK26 (fun p : Int32 × St => (some (.int p.1), HP p.2 r)) (Farms_leastPrice N c x1) 0 [some (.ref 88), some (.int x1), none, none, none, none] [] (HP c r) := by
  unfold Farms_leastPrice
  refine Ok_blk 6 (pc2 := 9) (lo2 := [some (.ref 88), some (.int x1), some (.int 0), some (.int 1000), some (.int 0), none]) (st2 := []) rfl ?_
  refine Ok_drop (lo0 := [some (.ref 88), some (.int x1), some (.int 0), some (.int 1000), some (.int 0), none]) ⟨Or.inr rfl, Or.inr rfl, Or.inr rfl, Or.inr rfl, Or.inr rfl, Or.inl rfl, trivial⟩ ?_
  exact t_Farms_leastPrice_p9 N d xs r N c x1 0 1000 0
set_option maxHeartbeats 8000000 in
set_option maxRecDepth 100000 in
theorem tm_Farms_leastPrice (N d : Nat) (xs : List Int32) (c r : St) (a1 : Int32) (p : Int32 × St) (hp : Farms_leastPrice N c a1 = some p) : mBig (mRoL xs) (d + 4) 26 [.ref 88, .int a1] (HP c r) (some (.int p.1)) (HP p.2 r) 0 0 := mBig_of (by decide) rfl rfl rfl rfl (t_Farms_leastPrice N d xs r c a1 p hp)
/-! ColdHolds.safe(I)I, from (('r', 0), 'i') -/
def C_safe (N : Nat) (c : St) (x1 : Int32) : Option (Int32 × St) :=
  (if ¬ x1 = (-1) then (Farms_isOne N c x1).bind fun p2 => (if p2 = 0 then some ((-101), c) else (Farms_leastPrice N c (1 <<< (x1 &&& 31))).bind fun p4 => some (p4.1, p4.2)) else (Farms_leastPrice N c 255).bind fun p5 => some (p5.1, p5.2))
set_option maxHeartbeats 8000000 in
set_option maxRecDepth 100000 in
theorem t_C_safe (N d : Nat) (xs : List Int32) (r : St) (c : St) (x1 : Int32) : Ok (mBig (mRoL xs) (d + 4)) (mRoL xs) 1 mK150 (fun p : Int32 × St => (some (.int p.1), HP p.2 r)) (C_safe N c x1) 0 [some (.ref 0), some (.int x1)] [] (HP c r) := by
  unfold C_safe
  refine Ok_blk 3 (pc2 := (if ¬ x1 = (-1) then 16 else 5)) (lo2 := [some (.ref 0), some (.int x1)]) (st2 := []) rfl ?_
  refine Ok_if (fun h1 => ?_) (fun h1 => ?_)
  · refine Ok_blk 3 (pc2 := 21) (lo2 := [some (.ref 0), some (.int x1)]) (st2 := [.int x1, .ref 88]) rfl ?_
    refine Ok_call (y := 21) (as := [.ref 88, .int x1]) (rest := []) (w := fun p2 => some (.int p2)) (h1 := fun p2 => HP c r) rfl rfl (fun x hx => tm_Farms_isOne N (d + 2) xs c r x1 x hx) (fun p2 hp2 => ?_)
    refine Ok_blk 1 (pc2 := (if p2 = 0 then 40 else 27)) (lo2 := [some (.ref 0), some (.int x1)]) (st2 := []) rfl ?_
    refine Ok_if (fun h3 => ?_) (fun h3 => ?_)
    · refine Ok_blk 1 (pc2 := 42) (lo2 := [some (.ref 0), some (.int x1)]) (st2 := [.int (-101)]) rfl ?_
      exact Ok_ret rfl rfl rfl
    · refine Ok_blk 5 (pc2 := 34) (lo2 := [some (.ref 0), some (.int x1)]) (st2 := [.int (1 <<< (x1 &&& 31)), .ref 88]) rfl ?_
      refine Ok_call (y := 26) (as := [.ref 88, .int (1 <<< (x1 &&& 31))]) (rest := []) (w := fun p4 => some (.int p4.1)) (h1 := fun p4 => HP p4.2 r) rfl rfl (fun x hx => tm_Farms_leastPrice N d xs c r (1 <<< (x1 &&& 31)) x hx) (fun p4 hp4 => ?_)
      refine Ok_blk 1 (pc2 := 42) (lo2 := [some (.ref 0), some (.int x1)]) (st2 := [.int p4.1]) rfl ?_
      exact Ok_ret rfl rfl rfl
  · refine Ok_blk 3 (pc2 := 12) (lo2 := [some (.ref 0), some (.int x1)]) (st2 := [.int 255, .ref 88]) rfl ?_
    refine Ok_call (y := 26) (as := [.ref 88, .int 255]) (rest := []) (w := fun p5 => some (.int p5.1)) (h1 := fun p5 => HP p5.2 r) rfl rfl (fun x hx => tm_Farms_leastPrice N d xs c r 255 x hx) (fun p5 hp5 => ?_)
    exact Ok_ret rfl rfl rfl
set_option maxHeartbeats 8000000 in
set_option maxRecDepth 100000 in
theorem tm_C_safe (N d : Nat) (xs : List Int32) (c r : St) (a1 : Int32) (p : Int32 × St) (hp : C_safe N c a1 = some p) : mBig (mRoL xs) (d + 5) 150 [.ref 0, .int a1] (HP c r) (some (.int p.1)) (HP p.2 r) 0 0 := mBig_of (by decide) rfl rfl rfl rfl (t_C_safe N d xs r c a1 p hp)
/-! ColdHoldsModel.safe(I)I, from (('r', 115), 'i') -/
def R_safe_p54 (N : Nat) (kb19 : St → Int32 → Int32 → Option (Int32 × St)) (r : St) (x1 : Int32) (x2 : Int32) : Option (Int32 × St) :=
  kb19 r x1 (x2 + 1)
def R_safe_p52 (N : Nat) (r : St) (x2 : Int32) : Option (Int32 × St) :=
  some (x2, r)
def R_safe_p19b (N : Nat) (kb19 : St → Int32 → Int32 → Option (Int32 × St)) (r : St) (x1 : Int32) (x2 : Int32) : Option (Int32 × St) :=
  (if 1000 ≤ x2 then some ((-2), r) else (R_fallenAt N r x2).bind fun p4 => (if ¬ x1 = (-1) then (if ¬ ((p4.1 >>> (x1 &&& 31)) &&& 1) = 0 then R_safe_p54 N kb19 p4.2 x1 x2 else R_safe_p52 N p4.2 x2) else (if ¬ p4.1 = 0 then R_safe_p54 N kb19 p4.2 x1 x2 else R_safe_p52 N p4.2 x2)))
def R_safe_p19 (N : Nat) : Nat → St → Int32 → Int32 → Option (Int32 × St)
  | 0 => fun _ _ _ => none
  | n + 1 => R_safe_p19b N (R_safe_p19 N n)
def R_safe (N : Nat) (r : St) (x1 : Int32) : Option (Int32 × St) :=
  (R_in N x1 (-1) ((gI r 20) - 1)).bind fun p1 => (if ¬ p1 = 0 then R_safe_p19 N N r x1 0 else some ((-101), r))
set_option maxHeartbeats 8000000 in
set_option maxRecDepth 100000 in
theorem t_R_safe_p54 (N d : Nat) (xs : List Int32) (c : St) (kb19 : St → Int32 → Int32 → Option (Int32 × St)) (hb19 : ∀ (r : St) (x1 : Int32) (x2 : Int32), Ok (mBig (mRoL xs) (d + 1)) (mRoL xs) 1 mK239 (fun p : Int32 × St => (some (.int p.1), HP c p.2)) (kb19 r x1 x2) 19 [some (.ref 115), some (.int x1), some (.int x2), none] [] (HP c r)) (r : St) (x1 : Int32) (x2 : Int32) : Ok (mBig (mRoL xs) (d + 1)) (mRoL xs) 1 mK239 (fun p : Int32 × St => (some (.int p.1), HP c p.2)) (R_safe_p54 N kb19 r x1 x2) 54 [some (.ref 115), some (.int x1), some (.int x2), none] [] (HP c r) := by
  unfold R_safe_p54
  refine Ok_blk 2 (pc2 := 19) (lo2 := [some (.ref 115), some (.int x1), some (.int (x2 + 1)), none]) (st2 := []) rfl ?_
  refine Ok_drop (lo0 := [some (.ref 115), some (.int x1), some (.int (x2 + 1)), none]) ⟨Or.inr rfl, Or.inr rfl, Or.inr rfl, Or.inl rfl, trivial⟩ ?_
  exact hb19 r x1 (x2 + 1)
set_option maxHeartbeats 8000000 in
set_option maxRecDepth 100000 in
theorem t_R_safe_p52 (N d : Nat) (xs : List Int32) (c : St) (r : St) (x2 : Int32) : Ok (mBig (mRoL xs) (d + 1)) (mRoL xs) 1 mK239 (fun p : Int32 × St => (some (.int p.1), HP c p.2)) (R_safe_p52 N r x2) 52 [none, none, some (.int x2), none] [] (HP c r) := by
  unfold R_safe_p52
  refine Ok_blk 1 (pc2 := 53) (lo2 := [none, none, some (.int x2), none]) (st2 := [.int x2]) rfl ?_
  exact Ok_ret rfl rfl rfl
set_option maxHeartbeats 8000000 in
set_option maxRecDepth 100000 in
theorem t_R_safe_p19b (N d : Nat) (xs : List Int32) (c : St) (kb19 : St → Int32 → Int32 → Option (Int32 × St)) (hb19 : ∀ (r : St) (x1 : Int32) (x2 : Int32), Ok (mBig (mRoL xs) (d + 1)) (mRoL xs) 1 mK239 (fun p : Int32 × St => (some (.int p.1), HP c p.2)) (kb19 r x1 x2) 19 [some (.ref 115), some (.int x1), some (.int x2), none] [] (HP c r)) (r : St) (x1 : Int32) (x2 : Int32) : Ok (mBig (mRoL xs) (d + 1)) (mRoL xs) 1 mK239 (fun p : Int32 × St => (some (.int p.1), HP c p.2)) (R_safe_p19b N kb19 r x1 x2) 19 [some (.ref 115), some (.int x1), some (.int x2), none] [] (HP c r) := by
  unfold R_safe_p19b
  refine Ok_blk 3 (pc2 := (if 1000 ≤ x2 then 60 else 26)) (lo2 := [some (.ref 115), some (.int x1), some (.int x2), none]) (st2 := []) rfl ?_
  refine Ok_if (fun h3 => ?_) (fun h3 => ?_)
  · refine Ok_blk 1 (pc2 := 62) (lo2 := [some (.ref 115), some (.int x1), some (.int x2), none]) (st2 := [.int (-2)]) rfl ?_
    exact Ok_ret rfl rfl rfl
  · refine Ok_blk 2 (pc2 := 28) (lo2 := [some (.ref 115), some (.int x1), some (.int x2), none]) (st2 := [.int x2, .ref 115]) rfl ?_
    refine Ok_call (y := 237) (as := [.ref 115, .int x2]) (rest := []) (w := fun p4 => some (.int p4.1)) (h1 := fun p4 => HP c p4.2) rfl rfl (fun x hx => tm_R_fallenAt N d xs c r x2 x hx) (fun p4 hp4 => ?_)
    refine Ok_blk 4 (pc2 := (if ¬ x1 = (-1) then 44 else 37)) (lo2 := [some (.ref 115), some (.int x1), some (.int x2), some (.int p4.1)]) (st2 := []) rfl ?_
    refine Ok_if (fun h5 => ?_) (fun h5 => ?_)
    · refine Ok_blk 6 (pc2 := (if ¬ ((p4.1 >>> (x1 &&& 31)) &&& 1) = 0 then 54 else 52)) (lo2 := [some (.ref 115), some (.int x1), some (.int x2), some (.int p4.1)]) (st2 := []) rfl ?_
      refine Ok_if (fun h6 => ?_) (fun h6 => ?_)
      · refine Ok_drop (lo0 := [some (.ref 115), some (.int x1), some (.int x2), none]) ⟨Or.inr rfl, Or.inr rfl, Or.inr rfl, Or.inl rfl, trivial⟩ ?_
        exact t_R_safe_p54 N d xs c kb19 hb19 p4.2 x1 x2
      · refine Ok_drop (lo0 := [none, none, some (.int x2), none]) ⟨Or.inl rfl, Or.inl rfl, Or.inr rfl, Or.inl rfl, trivial⟩ ?_
        exact t_R_safe_p52 N d xs c p4.2 x2
    · refine Ok_blk 2 (pc2 := (if ¬ p4.1 = 0 then 54 else 41)) (lo2 := [some (.ref 115), some (.int x1), some (.int x2), some (.int p4.1)]) (st2 := []) rfl ?_
      refine Ok_if (fun h7 => ?_) (fun h7 => ?_)
      · refine Ok_drop (lo0 := [some (.ref 115), some (.int x1), some (.int x2), none]) ⟨Or.inr rfl, Or.inr rfl, Or.inr rfl, Or.inl rfl, trivial⟩ ?_
        exact t_R_safe_p54 N d xs c kb19 hb19 p4.2 x1 x2
      · refine Ok_blk 1 (pc2 := 52) (lo2 := [some (.ref 115), some (.int x1), some (.int x2), some (.int p4.1)]) (st2 := []) rfl ?_
        refine Ok_drop (lo0 := [none, none, some (.int x2), none]) ⟨Or.inl rfl, Or.inl rfl, Or.inr rfl, Or.inl rfl, trivial⟩ ?_
        exact t_R_safe_p52 N d xs c p4.2 x2
set_option maxHeartbeats 8000000 in
set_option maxRecDepth 100000 in
theorem t_R_safe_p19 (N d : Nat) (xs : List Int32) (c : St) : ∀ (n : Nat) (r : St) (x1 : Int32) (x2 : Int32), Ok (mBig (mRoL xs) (d + 1)) (mRoL xs) 1 mK239 (fun p : Int32 × St => (some (.int p.1), HP c p.2)) (R_safe_p19 N n r x1 x2) 19 [some (.ref 115), some (.int x1), some (.int x2), none] [] (HP c r) := by
  intro n
  induction n with
  | zero => intro r x1 x2; exact Ok_none
  | succ n ih => intro r x1 x2; exact t_R_safe_p19b N d xs c (R_safe_p19 N n) ih r x1 x2
set_option maxHeartbeats 8000000 in
set_option maxRecDepth 100000 in
theorem t_R_safe (N d : Nat) (xs : List Int32) (c : St) (r : St) (x1 : Int32) : Ok (mBig (mRoL xs) (d + 1)) (mRoL xs) 1 mK239 (fun p : Int32 × St => (some (.int p.1), HP c p.2)) (R_safe N r x1) 0 [some (.ref 115), some (.int x1), none, none] [] (HP c r) := by
  unfold R_safe
  refine Ok_blk 6 (pc2 := 8) (lo2 := [some (.ref 115), some (.int x1), none, none]) (st2 := [.int ((gI r 20) - 1), .int (-1), .int x1]) rfl ?_
  refine Ok_call (y := 164) (as := [.int x1, .int (-1), .int ((gI r 20) - 1)]) (rest := []) (w := fun p1 => some (.int p1)) (h1 := fun p1 => HP c r) rfl rfl (fun x hx => tm_R_in N d xs c r x1 (-1) ((gI r 20) - 1) x hx) (fun p1 hp1 => ?_)
  refine Ok_blk 1 (pc2 := (if ¬ p1 = 0 then 17 else 14)) (lo2 := [some (.ref 115), some (.int x1), none, none]) (st2 := []) rfl ?_
  refine Ok_if (fun h2 => ?_) (fun h2 => ?_)
  · refine Ok_blk 2 (pc2 := 19) (lo2 := [some (.ref 115), some (.int x1), some (.int 0), none]) (st2 := []) rfl ?_
    refine Ok_drop (lo0 := [some (.ref 115), some (.int x1), some (.int 0), none]) ⟨Or.inr rfl, Or.inr rfl, Or.inr rfl, Or.inl rfl, trivial⟩ ?_
    exact t_R_safe_p19 N d xs c N r x1 0
  · refine Ok_blk 1 (pc2 := 16) (lo2 := [some (.ref 115), some (.int x1), none, none]) (st2 := [.int (-101)]) rfl ?_
    exact Ok_ret rfl rfl rfl
set_option maxHeartbeats 8000000 in
set_option maxRecDepth 100000 in
theorem tm_R_safe (N d : Nat) (xs : List Int32) (c r : St) (a1 : Int32) (p : Int32 × St) (hp : R_safe N r a1 = some p) : mBig (mRoL xs) (d + 2) 239 [.ref 115, .int a1] (HP c r) (some (.int p.1)) (HP c p.2) 0 0 := mBig_of (by decide) rfl rfl rfl rfl (t_R_safe N d xs c r a1 p hp)
/-! ColdHolds$Ring.add(II)I, from (('r', 100), 'i', 'i') -/
def Ring_add (N : Nat) (c : St) (x1 : Int32) (x2 : Int32) : Option (Int32 × St) :=
  (if (gI c 27) < 5 then (sto (gA c 84) (gI c 27) x1).bind fun w2 => (sto (gA (sA c 84 w2) 85) (gI (sA c 84 w2) 27) x2).bind fun w3 => some ((gI (sI (sA (sA c 84 w2) 85 w3) 27 ((gI (sA (sA c 84 w2) 85 w3) 27) + 1)) 27) - 1, sI (sA (sA c 84 w2) 85 w3) 27 ((gI (sA (sA c 84 w2) 85 w3) 27) + 1)) else some ((-104), c))
set_option maxHeartbeats 8000000 in
set_option maxRecDepth 100000 in
theorem t_Ring_add (N d : Nat) (xs : List Int32) (r : St) (c : St) (x1 : Int32) (x2 : Int32) : Ok (mBig (mRoL xs) (d)) (mRoL xs) 1 mK68 (fun p : Int32 × St => (some (.int p.1), HP p.2 r)) (Ring_add N c x1 x2) 0 [some (.ref 100), some (.int x1), some (.int x2)] [] (HP c r) := by
  unfold Ring_add
  refine Ok_blk 4 (pc2 := (if (gI c 27) < 5 then 11 else 8)) (lo2 := [some (.ref 100), some (.int x1), some (.int x2)]) (st2 := []) rfl ?_
  refine Ok_if (fun h1 => ?_) (fun h1 => ?_)
  · refine Ok_blk 5 (pc2 := 20) (lo2 := [some (.ref 100), some (.int x1), some (.int x2)]) (st2 := [.int x1, .int (gI c 27), .ref 102]) rfl ?_
    refine Ok_st (l := (gA c 84)) (hn := fun l' => HP (sA c 84 l') r) rfl rfl (fun l' => sa_102 _ _ l') (fun w2 hw2 => ?_)
    refine Ok_blk 5 (pc2 := 30) (lo2 := [some (.ref 100), some (.int x1), some (.int x2)]) (st2 := [.int x2, .int (gI (sA c 84 w2) 27), .ref 103]) rfl ?_
    refine Ok_st (l := (gA (sA c 84 w2) 85)) (hn := fun l' => HP (sA (sA c 84 w2) 85 l') r) rfl rfl (fun l' => sa_103 _ _ l') (fun w3 hw3 => ?_)
    refine Ok_heap 6 (pc2 := 41) (lo2 := [some (.ref 100), some (.int x1), some (.int x2)]) (st2 := []) (h2 := HP (sI (sA (sA c 84 w2) 85 w3) 27 ((gI (sA (sA c 84 w2) 85 w3) 27) + 1)) r) rfl (st_100_1 _ _ _) ?_
    refine Ok_blk 4 (pc2 := 47) (lo2 := [some (.ref 100), some (.int x1), some (.int x2)]) (st2 := [.int ((gI (sI (sA (sA c 84 w2) 85 w3) 27 ((gI (sA (sA c 84 w2) 85 w3) 27) + 1)) 27) - 1)]) rfl ?_
    exact Ok_ret rfl rfl rfl
  · refine Ok_blk 1 (pc2 := 10) (lo2 := [some (.ref 100), some (.int x1), some (.int x2)]) (st2 := [.int (-104)]) rfl ?_
    exact Ok_ret rfl rfl rfl
set_option maxHeartbeats 8000000 in
set_option maxRecDepth 100000 in
theorem tm_Ring_add (N d : Nat) (xs : List Int32) (c r : St) (a1 : Int32) (a2 : Int32) (p : Int32 × St) (hp : Ring_add N c a1 a2 = some p) : mBig (mRoL xs) (d + 1) 68 [.ref 100, .int a1, .int a2] (HP c r) (some (.int p.1)) (HP p.2 r) 0 0 := mBig_of (by decide) rfl rfl rfl rfl (t_Ring_add N d xs r c a1 a2 p hp)
/-! ColdHolds.line(II)I, from (('r', 0), 'i', 'i') -/
def C_line_p21 (N : Nat) (c : St) : Option (Int32 × St) :=
  some ((-102), c)
def C_line (N : Nat) (c : St) (x1 : Int32) (x2 : Int32) : Option (Int32 × St) :=
  (C_within N x1 1 99).bind fun p1 => (if p1 = 0 then C_line_p21 N c else (C_within N x2 0 999).bind fun p3 => (if ¬ p3 = 0 then (Ring_add N c x1 x2).bind fun p5 => some (p5.1, p5.2) else C_line_p21 N c))
set_option maxHeartbeats 8000000 in
set_option maxRecDepth 100000 in
theorem t_C_line_p21 (N d : Nat) (xs : List Int32) (r : St) (c : St) : Ok (mBig (mRoL xs) (d + 1)) (mRoL xs) 1 mK151 (fun p : Int32 × St => (some (.int p.1), HP p.2 r)) (C_line_p21 N c) 21 [none, none, none] [] (HP c r) := by
  unfold C_line_p21
  refine Ok_blk 1 (pc2 := 23) (lo2 := [none, none, none]) (st2 := [.int (-102)]) rfl ?_
  exact Ok_ret rfl rfl rfl
set_option maxHeartbeats 8000000 in
set_option maxRecDepth 100000 in
theorem t_C_line (N d : Nat) (xs : List Int32) (r : St) (c : St) (x1 : Int32) (x2 : Int32) : Ok (mBig (mRoL xs) (d + 1)) (mRoL xs) 1 mK151 (fun p : Int32 × St => (some (.int p.1), HP p.2 r)) (C_line N c x1 x2) 0 [some (.ref 0), some (.int x1), some (.int x2)] [] (HP c r) := by
  unfold C_line
  refine Ok_blk 3 (pc2 := 4) (lo2 := [some (.ref 0), some (.int x1), some (.int x2)]) (st2 := [.int 99, .int 1, .int x1]) rfl ?_
  refine Ok_call (y := 102) (as := [.int x1, .int 1, .int 99]) (rest := []) (w := fun p1 => some (.int p1)) (h1 := fun p1 => HP c r) rfl rfl (fun x hx => tm_C_within N d xs c r x1 1 99 x hx) (fun p1 hp1 => ?_)
  refine Ok_blk 1 (pc2 := (if p1 = 0 then 21 else 10)) (lo2 := [some (.ref 0), some (.int x1), some (.int x2)]) (st2 := []) rfl ?_
  refine Ok_if (fun h2 => ?_) (fun h2 => ?_)
  · refine Ok_drop (lo0 := [none, none, none]) ⟨Or.inl rfl, Or.inl rfl, Or.inl rfl, trivial⟩ ?_
    exact t_C_line_p21 N d xs r c
  · refine Ok_blk 3 (pc2 := 15) (lo2 := [some (.ref 0), some (.int x1), some (.int x2)]) (st2 := [.int 999, .int 0, .int x2]) rfl ?_
    refine Ok_call (y := 102) (as := [.int x2, .int 0, .int 999]) (rest := []) (w := fun p3 => some (.int p3)) (h1 := fun p3 => HP c r) rfl rfl (fun x hx => tm_C_within N d xs c r x2 0 999 x hx) (fun p3 hp3 => ?_)
    refine Ok_blk 1 (pc2 := (if ¬ p3 = 0 then 24 else 21)) (lo2 := [some (.ref 0), some (.int x1), some (.int x2)]) (st2 := []) rfl ?_
    refine Ok_if (fun h4 => ?_) (fun h4 => ?_)
    · refine Ok_blk 4 (pc2 := 30) (lo2 := [some (.ref 0), some (.int x1), some (.int x2)]) (st2 := [.int x2, .int x1, .ref 100]) rfl ?_
      refine Ok_call (y := 68) (as := [.ref 100, .int x1, .int x2]) (rest := []) (w := fun p5 => some (.int p5.1)) (h1 := fun p5 => HP p5.2 r) rfl rfl (fun x hx => tm_Ring_add N d xs c r x1 x2 x hx) (fun p5 hp5 => ?_)
      exact Ok_ret rfl rfl rfl
    · refine Ok_drop (lo0 := [none, none, none]) ⟨Or.inl rfl, Or.inl rfl, Or.inl rfl, trivial⟩ ?_
      exact t_C_line_p21 N d xs r c
set_option maxHeartbeats 8000000 in
set_option maxRecDepth 100000 in
theorem tm_C_line (N d : Nat) (xs : List Int32) (c r : St) (a1 : Int32) (a2 : Int32) (p : Int32 × St) (hp : C_line N c a1 a2 = some p) : mBig (mRoL xs) (d + 2) 151 [.ref 0, .int a1, .int a2] (HP c r) (some (.int p.1)) (HP p.2 r) 0 0 := mBig_of (by decide) rfl rfl rfl rfl (t_C_line N d xs r c a1 a2 p hp)
/-! ColdHoldsModel.line(II)I, from (('r', 115), 'i', 'i') -/
def R_line_p21 (N : Nat) (r : St) : Option (Int32 × St) :=
  some ((-102), r)
def R_line (N : Nat) (r : St) (x1 : Int32) (x2 : Int32) : Option (Int32 × St) :=
  (R_in N x1 1 99).bind fun p1 => (if p1 = 0 then R_line_p21 N r else (R_in N x2 0 999).bind fun p3 => (if ¬ p3 = 0 then (if ¬ (gI r 21) = 5 then (sto (gA r 25) (gI r 21) x1).bind fun w6 => (sto (gA (sA r 25 w6) 26) (gI (sA r 25 w6) 21) x2).bind fun w7 => some ((gI (sI (sA (sA r 25 w6) 26 w7) 21 ((gI (sA (sA r 25 w6) 26 w7) 21) + 1)) 21) - 1, sI (sA (sA r 25 w6) 26 w7) 21 ((gI (sA (sA r 25 w6) 26 w7) 21) + 1)) else some ((-104), r)) else R_line_p21 N r))
set_option maxHeartbeats 8000000 in
set_option maxRecDepth 100000 in
theorem t_R_line_p21 (N d : Nat) (xs : List Int32) (c : St) (r : St) : Ok (mBig (mRoL xs) (d + 1)) (mRoL xs) 1 mK240 (fun p : Int32 × St => (some (.int p.1), HP c p.2)) (R_line_p21 N r) 21 [none, none, none] [] (HP c r) := by
  unfold R_line_p21
  refine Ok_blk 1 (pc2 := 23) (lo2 := [none, none, none]) (st2 := [.int (-102)]) rfl ?_
  exact Ok_ret rfl rfl rfl
set_option maxHeartbeats 8000000 in
set_option maxRecDepth 100000 in
theorem t_R_line (N d : Nat) (xs : List Int32) (c : St) (r : St) (x1 : Int32) (x2 : Int32) : Ok (mBig (mRoL xs) (d + 1)) (mRoL xs) 1 mK240 (fun p : Int32 × St => (some (.int p.1), HP c p.2)) (R_line N r x1 x2) 0 [some (.ref 115), some (.int x1), some (.int x2)] [] (HP c r) := by
  unfold R_line
  refine Ok_blk 3 (pc2 := 4) (lo2 := [some (.ref 115), some (.int x1), some (.int x2)]) (st2 := [.int 99, .int 1, .int x1]) rfl ?_
  refine Ok_call (y := 164) (as := [.int x1, .int 1, .int 99]) (rest := []) (w := fun p1 => some (.int p1)) (h1 := fun p1 => HP c r) rfl rfl (fun x hx => tm_R_in N d xs c r x1 1 99 x hx) (fun p1 hp1 => ?_)
  refine Ok_blk 1 (pc2 := (if p1 = 0 then 21 else 10)) (lo2 := [some (.ref 115), some (.int x1), some (.int x2)]) (st2 := []) rfl ?_
  refine Ok_if (fun h2 => ?_) (fun h2 => ?_)
  · refine Ok_drop (lo0 := [none, none, none]) ⟨Or.inl rfl, Or.inl rfl, Or.inl rfl, trivial⟩ ?_
    exact t_R_line_p21 N d xs c r
  · refine Ok_blk 3 (pc2 := 15) (lo2 := [some (.ref 115), some (.int x1), some (.int x2)]) (st2 := [.int 999, .int 0, .int x2]) rfl ?_
    refine Ok_call (y := 164) (as := [.int x2, .int 0, .int 999]) (rest := []) (w := fun p3 => some (.int p3)) (h1 := fun p3 => HP c r) rfl rfl (fun x hx => tm_R_in N d xs c r x2 0 999 x hx) (fun p3 hp3 => ?_)
    refine Ok_blk 1 (pc2 := (if ¬ p3 = 0 then 24 else 21)) (lo2 := [some (.ref 115), some (.int x1), some (.int x2)]) (st2 := []) rfl ?_
    refine Ok_if (fun h4 => ?_) (fun h4 => ?_)
    · refine Ok_blk 4 (pc2 := (if ¬ (gI r 21) = 5 then 35 else 32)) (lo2 := [some (.ref 115), some (.int x1), some (.int x2)]) (st2 := []) rfl ?_
      refine Ok_if (fun h5 => ?_) (fun h5 => ?_)
      · refine Ok_blk 5 (pc2 := 44) (lo2 := [some (.ref 115), some (.int x1), some (.int x2)]) (st2 := [.int x1, .int (gI r 21), .ref 141]) rfl ?_
        refine Ok_st (l := (gA r 25)) (hn := fun l' => HP c (sA r 25 l')) rfl rfl (fun l' => sa_141 _ _ l') (fun w6 hw6 => ?_)
        refine Ok_blk 5 (pc2 := 54) (lo2 := [some (.ref 115), some (.int x1), some (.int x2)]) (st2 := [.int x2, .int (gI (sA r 25 w6) 21), .ref 142]) rfl ?_
        refine Ok_st (l := (gA (sA r 25 w6) 26)) (hn := fun l' => HP c (sA (sA r 25 w6) 26 l')) rfl rfl (fun l' => sa_142 _ _ l') (fun w7 hw7 => ?_)
        refine Ok_heap 6 (pc2 := 65) (lo2 := [some (.ref 115), some (.int x1), some (.int x2)]) (st2 := []) (h2 := HP c (sI (sA (sA r 25 w6) 26 w7) 21 ((gI (sA (sA r 25 w6) 26 w7) 21) + 1))) rfl (st_115_46 _ _ _) ?_
        refine Ok_blk 4 (pc2 := 71) (lo2 := [some (.ref 115), some (.int x1), some (.int x2)]) (st2 := [.int ((gI (sI (sA (sA r 25 w6) 26 w7) 21 ((gI (sA (sA r 25 w6) 26 w7) 21) + 1)) 21) - 1)]) rfl ?_
        exact Ok_ret rfl rfl rfl
      · refine Ok_blk 1 (pc2 := 34) (lo2 := [some (.ref 115), some (.int x1), some (.int x2)]) (st2 := [.int (-104)]) rfl ?_
        exact Ok_ret rfl rfl rfl
    · refine Ok_drop (lo0 := [none, none, none]) ⟨Or.inl rfl, Or.inl rfl, Or.inl rfl, trivial⟩ ?_
      exact t_R_line_p21 N d xs c r
set_option maxHeartbeats 8000000 in
set_option maxRecDepth 100000 in
theorem tm_R_line (N d : Nat) (xs : List Int32) (c r : St) (a1 : Int32) (a2 : Int32) (p : Int32 × St) (hp : R_line N r a1 a2 = some p) : mBig (mRoL xs) (d + 2) 240 [.ref 115, .int a1, .int a2] (HP c r) (some (.int p.1)) (HP c p.2) 0 0 := mBig_of (by decide) rfl rfl rfl rfl (t_R_line N d xs c r a1 a2 p hp)
/-! ColdHolds.change([III)I, from (('r', 101), 'i', 'i') -/
def C_change_9 (N : Nat) (c : St) (x1 : Int32) (x2 : Int32) : Option (Int32 × St) :=
  (ld (gA c 83) x1).bind fun y1 => (sto (gA c 83) x1 x2).bind fun w2 => some (y1, sA c 83 w2)
set_option maxHeartbeats 8000000 in
set_option maxRecDepth 100000 in
theorem t_C_change_9 (N d : Nat) (xs : List Int32) (r : St) (c : St) (x1 : Int32) (x2 : Int32) : Ok (mBig (mRoL xs) (d)) (mRoL xs) 1 mK105 (fun p : Int32 × St => (some (.int p.1), HP p.2 r)) (C_change_9 N c x1 x2) 0 [some (.ref 101), some (.int x1), some (.int x2), none] [] (HP c r) := by
  unfold C_change_9
  refine Ok_blk 2 (pc2 := 2) (lo2 := [some (.ref 101), some (.int x1), some (.int x2), none]) (st2 := [.int x1, .ref 101]) rfl ?_
  refine Ok_ld (l := (gA c 83)) rfl rfl (fun y1 hy1 => ?_)
  refine Ok_blk 4 (pc2 := 7) (lo2 := [some (.ref 101), some (.int x1), some (.int x2), some (.int y1)]) (st2 := [.int x2, .int x1, .ref 101]) rfl ?_
  refine Ok_st (l := (gA c 83)) (hn := fun l' => HP (sA c 83 l') r) rfl rfl (fun l' => sa_101 _ _ l') (fun w2 hw2 => ?_)
  refine Ok_blk 1 (pc2 := 9) (lo2 := [some (.ref 101), some (.int x1), some (.int x2), some (.int y1)]) (st2 := [.int y1]) rfl ?_
  exact Ok_ret rfl rfl rfl
set_option maxHeartbeats 8000000 in
set_option maxRecDepth 100000 in
theorem tm_C_change_9 (N d : Nat) (xs : List Int32) (c r : St) (a1 : Int32) (a2 : Int32) (p : Int32 × St) (hp : C_change_9 N c a1 a2 = some p) : mBig (mRoL xs) (d + 1) 105 [.ref 101, .int a1, .int a2] (HP c r) (some (.int p.1)) (HP p.2 r) 0 0 := mBig_of (by decide) rfl rfl rfl rfl (t_C_change_9 N d xs r c a1 a2 p hp)
/-! ColdHolds.ring(II)I, from (('r', 0), 'i', 'i') -/
def C_ring (N : Nat) (c : St) (x1 : Int32) (x2 : Int32) : Option (Int32 × St) :=
  (C_within N x1 0 3).bind fun p1 => (if ¬ p1 = 0 then (ld [999, 99, 100, 999] x1).bind fun y3 => (C_within N x2 0 y3).bind fun p4 => (if ¬ p4 = 0 then (C_change_9 N c x1 x2).bind fun p6 => some (p6.1, p6.2) else some ((-102), c)) else some ((-101), c))
set_option maxHeartbeats 8000000 in
set_option maxRecDepth 100000 in
theorem t_C_ring (N d : Nat) (xs : List Int32) (r : St) (c : St) (x1 : Int32) (x2 : Int32) : Ok (mBig (mRoL xs) (d + 1)) (mRoL xs) 1 mK152 (fun p : Int32 × St => (some (.int p.1), HP p.2 r)) (C_ring N c x1 x2) 0 [some (.ref 0), some (.int x1), some (.int x2)] [] (HP c r) := by
  unfold C_ring
  refine Ok_blk 3 (pc2 := 3) (lo2 := [some (.ref 0), some (.int x1), some (.int x2)]) (st2 := [.int 3, .int 0, .int x1]) rfl ?_
  refine Ok_call (y := 102) (as := [.int x1, .int 0, .int 3]) (rest := []) (w := fun p1 => some (.int p1)) (h1 := fun p1 => HP c r) rfl rfl (fun x hx => tm_C_within N d xs c r x1 0 3 x hx) (fun p1 hp1 => ?_)
  refine Ok_blk 1 (pc2 := (if ¬ p1 = 0 then 12 else 9)) (lo2 := [some (.ref 0), some (.int x1), some (.int x2)]) (st2 := []) rfl ?_
  refine Ok_if (fun h2 => ?_) (fun h2 => ?_)
  · refine Ok_blk 4 (pc2 := 18) (lo2 := [some (.ref 0), some (.int x1), some (.int x2)]) (st2 := [.int x1, .ref (mBase + 4), .int 0, .int x2]) rfl ?_
    refine Ok_ld (l := [999, 99, 100, 999]) rfl rfl (fun y3 hy3 => ?_)
    refine Ok_call (y := 102) (as := [.int x2, .int 0, .int y3]) (rest := []) (w := fun p4 => some (.int p4)) (h1 := fun p4 => HP c r) rfl rfl (fun x hx => tm_C_within N d xs c r x2 0 y3 x hx) (fun p4 hp4 => ?_)
    refine Ok_blk 1 (pc2 := (if ¬ p4 = 0 then 28 else 25)) (lo2 := [some (.ref 0), some (.int x1), some (.int x2)]) (st2 := []) rfl ?_
    refine Ok_if (fun h5 => ?_) (fun h5 => ?_)
    · refine Ok_blk 5 (pc2 := 37) (lo2 := [some (.ref 0), some (.int x1), some (.int x2)]) (st2 := [.int x2, .int x1, .ref 101]) rfl ?_
      refine Ok_call (y := 105) (as := [.ref 101, .int x1, .int x2]) (rest := []) (w := fun p6 => some (.int p6.1)) (h1 := fun p6 => HP p6.2 r) rfl rfl (fun x hx => tm_C_change_9 N d xs c r x1 x2 x hx) (fun p6 hp6 => ?_)
      exact Ok_ret rfl rfl rfl
    · refine Ok_blk 1 (pc2 := 27) (lo2 := [some (.ref 0), some (.int x1), some (.int x2)]) (st2 := [.int (-102)]) rfl ?_
      exact Ok_ret rfl rfl rfl
  · refine Ok_blk 1 (pc2 := 11) (lo2 := [some (.ref 0), some (.int x1), some (.int x2)]) (st2 := [.int (-101)]) rfl ?_
    exact Ok_ret rfl rfl rfl
set_option maxHeartbeats 8000000 in
set_option maxRecDepth 100000 in
theorem tm_C_ring (N d : Nat) (xs : List Int32) (c r : St) (a1 : Int32) (a2 : Int32) (p : Int32 × St) (hp : C_ring N c a1 a2 = some p) : mBig (mRoL xs) (d + 2) 152 [.ref 0, .int a1, .int a2] (HP c r) (some (.int p.1)) (HP p.2 r) 0 0 := mBig_of (by decide) rfl rfl rfl rfl (t_C_ring N d xs r c a1 a2 p hp)
/-! ColdHoldsModel.ring(II)I, from (('r', 115), 'i', 'i') -/
def R_ring_p150 (N : Nat) (r : St) (x3 : Int32) (s1 : Int32) : Option (Int32 × St) :=
  some (x3, sI r 25 s1)
def R_ring_p133 (N : Nat) (r : St) (x1 : Int32) (x2 : Int32) (x3 : Int32) (s1 : Int32) : Option (Int32 × St) :=
  (if ¬ x1 = 3 then R_ring_p150 N (sI r 24 s1) x3 (gI (sI r 24 s1) 25) else R_ring_p150 N (sI r 24 s1) x3 x2)
def R_ring_p116 (N : Nat) (r : St) (x1 : Int32) (x2 : Int32) (x3 : Int32) (s1 : Int32) : Option (Int32 × St) :=
  (if ¬ x1 = 2 then R_ring_p133 N (sI r 23 s1) x1 x2 x3 (gI (sI r 23 s1) 24) else R_ring_p133 N (sI r 23 s1) x1 x2 x3 x2)
def R_ring_p99 (N : Nat) (r : St) (x1 : Int32) (x2 : Int32) (x3 : Int32) (s1 : Int32) : Option (Int32 × St) :=
  (if ¬ x1 = 1 then R_ring_p116 N (sI r 22 s1) x1 x2 x3 (gI (sI r 22 s1) 23) else R_ring_p116 N (sI r 22 s1) x1 x2 x3 x2)
def R_ring_p85 (N : Nat) (r : St) (x1 : Int32) (x2 : Int32) (s0 : Int32) : Option (Int32 × St) :=
  (if ¬ x1 = 0 then R_ring_p99 N r x1 x2 s0 (gI r 22) else R_ring_p99 N r x1 x2 s0 x2)
def R_ring_p37 (N : Nat) (r : St) (x1 : Int32) (x2 : Int32) (s0 : Int32) (s1 : Int32) (s2 : Int32) : Option (Int32 × St) :=
  (R_in N s0 s1 s2).bind fun p5 => (if ¬ p5 = 0 then (if ¬ x1 = 0 then (if ¬ x1 = 1 then (if ¬ x1 = 2 then R_ring_p85 N r x1 x2 (gI r 25) else R_ring_p85 N r x1 x2 (gI r 24)) else R_ring_p85 N r x1 x2 (gI r 23)) else R_ring_p85 N r x1 x2 (gI r 22)) else some ((-102), r))
def R_ring (N : Nat) (r : St) (x1 : Int32) (x2 : Int32) : Option (Int32 × St) :=
  (R_in N x1 0 3).bind fun p1 => (if ¬ p1 = 0 then (if ¬ x1 = 1 then (if ¬ x1 = 2 then R_ring_p37 N r x1 x2 x2 0 999 else R_ring_p37 N r x1 x2 x2 0 100) else R_ring_p37 N r x1 x2 x2 0 99) else some ((-101), r))
set_option maxHeartbeats 8000000 in
set_option maxRecDepth 100000 in
theorem t_R_ring_p150 (N d : Nat) (xs : List Int32) (c : St) (r : St) (x3 : Int32) (s1 : Int32) : Ok (mBig (mRoL xs) (d + 1)) (mRoL xs) 1 mK241 (fun p : Int32 × St => (some (.int p.1), HP c p.2)) (R_ring_p150 N r x3 s1) 150 [none, none, none, some (.int x3)] [.int s1, .ref 115] (HP c r) := by
  unfold R_ring_p150
  refine Ok_heap 1 (pc2 := 153) (lo2 := [none, none, none, some (.int x3)]) (st2 := []) (h2 := HP c (sI r 25 s1)) rfl (st_115_52 _ _ _) ?_
  refine Ok_blk 1 (pc2 := 154) (lo2 := [none, none, none, some (.int x3)]) (st2 := [.int x3]) rfl ?_
  exact Ok_ret rfl rfl rfl
set_option maxHeartbeats 8000000 in
set_option maxRecDepth 100000 in
theorem t_R_ring_p133 (N d : Nat) (xs : List Int32) (c : St) (r : St) (x1 : Int32) (x2 : Int32) (x3 : Int32) (s1 : Int32) : Ok (mBig (mRoL xs) (d + 1)) (mRoL xs) 1 mK241 (fun p : Int32 × St => (some (.int p.1), HP c p.2)) (R_ring_p133 N r x1 x2 x3 s1) 133 [some (.ref 115), some (.int x1), some (.int x2), some (.int x3)] [.int s1, .ref 115] (HP c r) := by
  unfold R_ring_p133
  refine Ok_heap 1 (pc2 := 136) (lo2 := [some (.ref 115), some (.int x1), some (.int x2), some (.int x3)]) (st2 := []) (h2 := HP c (sI r 24 s1)) rfl (st_115_51 _ _ _) ?_
  refine Ok_blk 4 (pc2 := (if ¬ x1 = 3 then 146 else 142)) (lo2 := [some (.ref 115), some (.int x1), some (.int x2), some (.int x3)]) (st2 := [.ref 115]) rfl ?_
  refine Ok_if (fun h13 => ?_) (fun h13 => ?_)
  · refine Ok_blk 2 (pc2 := 150) (lo2 := [some (.ref 115), some (.int x1), some (.int x2), some (.int x3)]) (st2 := [.int (gI (sI r 24 s1) 25), .ref 115]) rfl ?_
    refine Ok_drop (lo0 := [none, none, none, some (.int x3)]) ⟨Or.inl rfl, Or.inl rfl, Or.inl rfl, Or.inr rfl, trivial⟩ ?_
    exact t_R_ring_p150 N d xs c (sI r 24 s1) x3 (gI (sI r 24 s1) 25)
  · refine Ok_blk 2 (pc2 := 150) (lo2 := [some (.ref 115), some (.int x1), some (.int x2), some (.int x3)]) (st2 := [.int x2, .ref 115]) rfl ?_
    refine Ok_drop (lo0 := [none, none, none, some (.int x3)]) ⟨Or.inl rfl, Or.inl rfl, Or.inl rfl, Or.inr rfl, trivial⟩ ?_
    exact t_R_ring_p150 N d xs c (sI r 24 s1) x3 x2
set_option maxHeartbeats 8000000 in
set_option maxRecDepth 100000 in
theorem t_R_ring_p116 (N d : Nat) (xs : List Int32) (c : St) (r : St) (x1 : Int32) (x2 : Int32) (x3 : Int32) (s1 : Int32) : Ok (mBig (mRoL xs) (d + 1)) (mRoL xs) 1 mK241 (fun p : Int32 × St => (some (.int p.1), HP c p.2)) (R_ring_p116 N r x1 x2 x3 s1) 116 [some (.ref 115), some (.int x1), some (.int x2), some (.int x3)] [.int s1, .ref 115] (HP c r) := by
  unfold R_ring_p116
  refine Ok_heap 1 (pc2 := 119) (lo2 := [some (.ref 115), some (.int x1), some (.int x2), some (.int x3)]) (st2 := []) (h2 := HP c (sI r 23 s1)) rfl (st_115_50 _ _ _) ?_
  refine Ok_blk 4 (pc2 := (if ¬ x1 = 2 then 129 else 125)) (lo2 := [some (.ref 115), some (.int x1), some (.int x2), some (.int x3)]) (st2 := [.ref 115]) rfl ?_
  refine Ok_if (fun h12 => ?_) (fun h12 => ?_)
  · refine Ok_blk 2 (pc2 := 133) (lo2 := [some (.ref 115), some (.int x1), some (.int x2), some (.int x3)]) (st2 := [.int (gI (sI r 23 s1) 24), .ref 115]) rfl ?_
    refine Ok_drop (lo0 := [some (.ref 115), some (.int x1), some (.int x2), some (.int x3)]) ⟨Or.inr rfl, Or.inr rfl, Or.inr rfl, Or.inr rfl, trivial⟩ ?_
    exact t_R_ring_p133 N d xs c (sI r 23 s1) x1 x2 x3 (gI (sI r 23 s1) 24)
  · refine Ok_blk 2 (pc2 := 133) (lo2 := [some (.ref 115), some (.int x1), some (.int x2), some (.int x3)]) (st2 := [.int x2, .ref 115]) rfl ?_
    refine Ok_drop (lo0 := [some (.ref 115), some (.int x1), some (.int x2), some (.int x3)]) ⟨Or.inr rfl, Or.inr rfl, Or.inr rfl, Or.inr rfl, trivial⟩ ?_
    exact t_R_ring_p133 N d xs c (sI r 23 s1) x1 x2 x3 x2
set_option maxHeartbeats 8000000 in
set_option maxRecDepth 100000 in
theorem t_R_ring_p99 (N d : Nat) (xs : List Int32) (c : St) (r : St) (x1 : Int32) (x2 : Int32) (x3 : Int32) (s1 : Int32) : Ok (mBig (mRoL xs) (d + 1)) (mRoL xs) 1 mK241 (fun p : Int32 × St => (some (.int p.1), HP c p.2)) (R_ring_p99 N r x1 x2 x3 s1) 99 [some (.ref 115), some (.int x1), some (.int x2), some (.int x3)] [.int s1, .ref 115] (HP c r) := by
  unfold R_ring_p99
  refine Ok_heap 1 (pc2 := 102) (lo2 := [some (.ref 115), some (.int x1), some (.int x2), some (.int x3)]) (st2 := []) (h2 := HP c (sI r 22 s1)) rfl (st_115_49 _ _ _) ?_
  refine Ok_blk 4 (pc2 := (if ¬ x1 = 1 then 112 else 108)) (lo2 := [some (.ref 115), some (.int x1), some (.int x2), some (.int x3)]) (st2 := [.ref 115]) rfl ?_
  refine Ok_if (fun h11 => ?_) (fun h11 => ?_)
  · refine Ok_blk 2 (pc2 := 116) (lo2 := [some (.ref 115), some (.int x1), some (.int x2), some (.int x3)]) (st2 := [.int (gI (sI r 22 s1) 23), .ref 115]) rfl ?_
    refine Ok_drop (lo0 := [some (.ref 115), some (.int x1), some (.int x2), some (.int x3)]) ⟨Or.inr rfl, Or.inr rfl, Or.inr rfl, Or.inr rfl, trivial⟩ ?_
    exact t_R_ring_p116 N d xs c (sI r 22 s1) x1 x2 x3 (gI (sI r 22 s1) 23)
  · refine Ok_blk 2 (pc2 := 116) (lo2 := [some (.ref 115), some (.int x1), some (.int x2), some (.int x3)]) (st2 := [.int x2, .ref 115]) rfl ?_
    refine Ok_drop (lo0 := [some (.ref 115), some (.int x1), some (.int x2), some (.int x3)]) ⟨Or.inr rfl, Or.inr rfl, Or.inr rfl, Or.inr rfl, trivial⟩ ?_
    exact t_R_ring_p116 N d xs c (sI r 22 s1) x1 x2 x3 x2
set_option maxHeartbeats 8000000 in
set_option maxRecDepth 100000 in
theorem t_R_ring_p85 (N d : Nat) (xs : List Int32) (c : St) (r : St) (x1 : Int32) (x2 : Int32) (s0 : Int32) : Ok (mBig (mRoL xs) (d + 1)) (mRoL xs) 1 mK241 (fun p : Int32 × St => (some (.int p.1), HP c p.2)) (R_ring_p85 N r x1 x2 s0) 85 [some (.ref 115), some (.int x1), some (.int x2), none] [.int s0] (HP c r) := by
  unfold R_ring_p85
  refine Ok_blk 4 (pc2 := (if ¬ x1 = 0 then 95 else 91)) (lo2 := [some (.ref 115), some (.int x1), some (.int x2), some (.int s0)]) (st2 := [.ref 115]) rfl ?_
  refine Ok_if (fun h10 => ?_) (fun h10 => ?_)
  · refine Ok_blk 2 (pc2 := 99) (lo2 := [some (.ref 115), some (.int x1), some (.int x2), some (.int s0)]) (st2 := [.int (gI r 22), .ref 115]) rfl ?_
    refine Ok_drop (lo0 := [some (.ref 115), some (.int x1), some (.int x2), some (.int s0)]) ⟨Or.inr rfl, Or.inr rfl, Or.inr rfl, Or.inr rfl, trivial⟩ ?_
    exact t_R_ring_p99 N d xs c r x1 x2 s0 (gI r 22)
  · refine Ok_blk 2 (pc2 := 99) (lo2 := [some (.ref 115), some (.int x1), some (.int x2), some (.int s0)]) (st2 := [.int x2, .ref 115]) rfl ?_
    refine Ok_drop (lo0 := [some (.ref 115), some (.int x1), some (.int x2), some (.int s0)]) ⟨Or.inr rfl, Or.inr rfl, Or.inr rfl, Or.inr rfl, trivial⟩ ?_
    exact t_R_ring_p99 N d xs c r x1 x2 s0 x2
set_option maxHeartbeats 8000000 in
set_option maxRecDepth 100000 in
theorem t_R_ring_p37 (N d : Nat) (xs : List Int32) (c : St) (r : St) (x1 : Int32) (x2 : Int32) (s0 : Int32) (s1 : Int32) (s2 : Int32) : Ok (mBig (mRoL xs) (d + 1)) (mRoL xs) 1 mK241 (fun p : Int32 × St => (some (.int p.1), HP c p.2)) (R_ring_p37 N r x1 x2 s0 s1 s2) 37 [some (.ref 115), some (.int x1), some (.int x2), none] [.int s2, .int s1, .int s0] (HP c r) := by
  unfold R_ring_p37
  refine Ok_call (y := 164) (as := [.int s0, .int s1, .int s2]) (rest := []) (w := fun p5 => some (.int p5)) (h1 := fun p5 => HP c r) rfl rfl (fun x hx => tm_R_in N d xs c r s0 s1 s2 x hx) (fun p5 hp5 => ?_)
  refine Ok_blk 1 (pc2 := (if ¬ p5 = 0 then 46 else 43)) (lo2 := [some (.ref 115), some (.int x1), some (.int x2), none]) (st2 := []) rfl ?_
  refine Ok_if (fun h6 => ?_) (fun h6 => ?_)
  · refine Ok_blk 2 (pc2 := (if ¬ x1 = 0 then 57 else 50)) (lo2 := [some (.ref 115), some (.int x1), some (.int x2), none]) (st2 := []) rfl ?_
    refine Ok_if (fun h7 => ?_) (fun h7 => ?_)
    · refine Ok_blk 3 (pc2 := (if ¬ x1 = 1 then 69 else 62)) (lo2 := [some (.ref 115), some (.int x1), some (.int x2), none]) (st2 := []) rfl ?_
      refine Ok_if (fun h8 => ?_) (fun h8 => ?_)
      · refine Ok_blk 3 (pc2 := (if ¬ x1 = 2 then 81 else 74)) (lo2 := [some (.ref 115), some (.int x1), some (.int x2), none]) (st2 := []) rfl ?_
        refine Ok_if (fun h9 => ?_) (fun h9 => ?_)
        · refine Ok_blk 2 (pc2 := 85) (lo2 := [some (.ref 115), some (.int x1), some (.int x2), none]) (st2 := [.int (gI r 25)]) rfl ?_
          refine Ok_drop (lo0 := [some (.ref 115), some (.int x1), some (.int x2), none]) ⟨Or.inr rfl, Or.inr rfl, Or.inr rfl, Or.inl rfl, trivial⟩ ?_
          exact t_R_ring_p85 N d xs c r x1 x2 (gI r 25)
        · refine Ok_blk 3 (pc2 := 85) (lo2 := [some (.ref 115), some (.int x1), some (.int x2), none]) (st2 := [.int (gI r 24)]) rfl ?_
          refine Ok_drop (lo0 := [some (.ref 115), some (.int x1), some (.int x2), none]) ⟨Or.inr rfl, Or.inr rfl, Or.inr rfl, Or.inl rfl, trivial⟩ ?_
          exact t_R_ring_p85 N d xs c r x1 x2 (gI r 24)
      · refine Ok_blk 3 (pc2 := 85) (lo2 := [some (.ref 115), some (.int x1), some (.int x2), none]) (st2 := [.int (gI r 23)]) rfl ?_
        refine Ok_drop (lo0 := [some (.ref 115), some (.int x1), some (.int x2), none]) ⟨Or.inr rfl, Or.inr rfl, Or.inr rfl, Or.inl rfl, trivial⟩ ?_
        exact t_R_ring_p85 N d xs c r x1 x2 (gI r 23)
    · refine Ok_blk 3 (pc2 := 85) (lo2 := [some (.ref 115), some (.int x1), some (.int x2), none]) (st2 := [.int (gI r 22)]) rfl ?_
      refine Ok_drop (lo0 := [some (.ref 115), some (.int x1), some (.int x2), none]) ⟨Or.inr rfl, Or.inr rfl, Or.inr rfl, Or.inl rfl, trivial⟩ ?_
      exact t_R_ring_p85 N d xs c r x1 x2 (gI r 22)
  · refine Ok_blk 1 (pc2 := 45) (lo2 := [some (.ref 115), some (.int x1), some (.int x2), none]) (st2 := [.int (-102)]) rfl ?_
    exact Ok_ret rfl rfl rfl
set_option maxHeartbeats 8000000 in
set_option maxRecDepth 100000 in
theorem t_R_ring (N d : Nat) (xs : List Int32) (c : St) (r : St) (x1 : Int32) (x2 : Int32) : Ok (mBig (mRoL xs) (d + 1)) (mRoL xs) 1 mK241 (fun p : Int32 × St => (some (.int p.1), HP c p.2)) (R_ring N r x1 x2) 0 [some (.ref 115), some (.int x1), some (.int x2), none] [] (HP c r) := by
  unfold R_ring
  refine Ok_blk 3 (pc2 := 3) (lo2 := [some (.ref 115), some (.int x1), some (.int x2), none]) (st2 := [.int 3, .int 0, .int x1]) rfl ?_
  refine Ok_call (y := 164) (as := [.int x1, .int 0, .int 3]) (rest := []) (w := fun p1 => some (.int p1)) (h1 := fun p1 => HP c r) rfl rfl (fun x hx => tm_R_in N d xs c r x1 0 3 x hx) (fun p1 hp1 => ?_)
  refine Ok_blk 1 (pc2 := (if ¬ p1 = 0 then 12 else 9)) (lo2 := [some (.ref 115), some (.int x1), some (.int x2), none]) (st2 := []) rfl ?_
  refine Ok_if (fun h2 => ?_) (fun h2 => ?_)
  · refine Ok_blk 5 (pc2 := (if ¬ x1 = 1 then 24 else 19)) (lo2 := [some (.ref 115), some (.int x1), some (.int x2), none]) (st2 := [.int 0, .int x2]) rfl ?_
    refine Ok_if (fun h3 => ?_) (fun h3 => ?_)
    · refine Ok_blk 3 (pc2 := (if ¬ x1 = 2 then 34 else 29)) (lo2 := [some (.ref 115), some (.int x1), some (.int x2), none]) (st2 := [.int 0, .int x2]) rfl ?_
      refine Ok_if (fun h4 => ?_) (fun h4 => ?_)
      · refine Ok_blk 1 (pc2 := 37) (lo2 := [some (.ref 115), some (.int x1), some (.int x2), none]) (st2 := [.int 999, .int 0, .int x2]) rfl ?_
        refine Ok_drop (lo0 := [some (.ref 115), some (.int x1), some (.int x2), none]) ⟨Or.inr rfl, Or.inr rfl, Or.inr rfl, Or.inl rfl, trivial⟩ ?_
        exact t_R_ring_p37 N d xs c r x1 x2 x2 0 999
      · refine Ok_blk 2 (pc2 := 37) (lo2 := [some (.ref 115), some (.int x1), some (.int x2), none]) (st2 := [.int 100, .int 0, .int x2]) rfl ?_
        refine Ok_drop (lo0 := [some (.ref 115), some (.int x1), some (.int x2), none]) ⟨Or.inr rfl, Or.inr rfl, Or.inr rfl, Or.inl rfl, trivial⟩ ?_
        exact t_R_ring_p37 N d xs c r x1 x2 x2 0 100
    · refine Ok_blk 2 (pc2 := 37) (lo2 := [some (.ref 115), some (.int x1), some (.int x2), none]) (st2 := [.int 99, .int 0, .int x2]) rfl ?_
      refine Ok_drop (lo0 := [some (.ref 115), some (.int x1), some (.int x2), none]) ⟨Or.inr rfl, Or.inr rfl, Or.inr rfl, Or.inl rfl, trivial⟩ ?_
      exact t_R_ring_p37 N d xs c r x1 x2 x2 0 99
  · refine Ok_blk 1 (pc2 := 11) (lo2 := [some (.ref 115), some (.int x1), some (.int x2), none]) (st2 := [.int (-101)]) rfl ?_
    exact Ok_ret rfl rfl rfl
set_option maxHeartbeats 8000000 in
set_option maxRecDepth 100000 in
theorem tm_R_ring (N d : Nat) (xs : List Int32) (c r : St) (a1 : Int32) (a2 : Int32) (p : Int32 × St) (hp : R_ring N r a1 a2 = some p) : mBig (mRoL xs) (d + 2) 241 [.ref 115, .int a1, .int a2] (HP c r) (some (.int p.1)) (HP c p.2) 0 0 := mBig_of (by decide) rfl rfl rfl rfl (t_R_ring N d xs c r a1 a2 p hp)
/-! ColdHolds$Ring.allSets()I, from (('r', 100),) -/
def Ring_allSets (N : Nat) (c : St) : Option (Int32) :=
  some (1 <<< ((gI c 27) &&& 31))
set_option maxHeartbeats 8000000 in
set_option maxRecDepth 100000 in
theorem t_Ring_allSets (N d : Nat) (xs : List Int32) (c : St) (r : St) : Ok (mBig (mRoL xs) (d)) (mRoL xs) 1 mK69 (fun p : Int32 => (some (.int p), HP c r)) (Ring_allSets N c) 0 [some (.ref 100)] [] (HP c r) := by
  unfold Ring_allSets
  refine Ok_blk 4 (pc2 := 6) (lo2 := [some (.ref 100)]) (st2 := [.int (1 <<< ((gI c 27) &&& 31))]) rfl ?_
  exact Ok_ret rfl rfl rfl
set_option maxHeartbeats 8000000 in
set_option maxRecDepth 100000 in
theorem tm_Ring_allSets (N d : Nat) (xs : List Int32) (c r : St) (p : Int32) (hp : Ring_allSets N c = some p) : mBig (mRoL xs) (d + 1) 69 [.ref 100] (HP c r) (some (.int p)) (HP c r) 0 0 := mBig_of (by decide) rfl rfl rfl rfl (t_Ring_allSets N d xs c r p hp)
