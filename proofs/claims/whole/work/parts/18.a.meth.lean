/-! methods as partial functions of Lean, and that the small machine does them: by program (gen18) -/
/-! ColdHolds.within(III)Z, from ('i', 'i', 'i') -/
def C_within_p14 (N : Nat) : Option (Int32) :=
  some 0
def C_within (N : Nat) (x0 : Int32) (x1 : Int32) (x2 : Int32) : Option (Int32) :=
  (if x0 < x1 then C_within_p14 N else (if x2 < x0 then C_within_p14 N else some 1))
set_option maxHeartbeats 8000000 in
set_option maxRecDepth 100000 in
theorem t_C_within_p14 (N d : Nat) (xs : List Int32) (c : St) (r : St) : Ok (mBig (mRoL xs) (d)) (mRoL xs) 2 mK102 (fun p : Int32 => (some (.int p), HP c r)) (C_within_p14 N) 14 [none, none, none] [] (HP c r) := by
  unfold C_within_p14
  refine Ok_blk 1 (pc2 := 15) (lo2 := [none, none, none]) (st2 := [.int 0]) rfl ?_
  exact Ok_rez (Or.inl rfl) rfl rfl
set_option maxHeartbeats 8000000 in
set_option maxRecDepth 100000 in
theorem t_C_within (N d : Nat) (xs : List Int32) (c : St) (r : St) (x0 : Int32) (x1 : Int32) (x2 : Int32) : Ok (mBig (mRoL xs) (d)) (mRoL xs) 2 mK102 (fun p : Int32 => (some (.int p), HP c r)) (C_within N x0 x1 x2) 0 [some (.int x0), some (.int x1), some (.int x2)] [] (HP c r) := by
  unfold C_within
  refine Ok_blk 3 (pc2 := (if x0 < x1 then 14 else 5)) (lo2 := [some (.int x0), some (.int x1), some (.int x2)]) (st2 := []) rfl ?_
  refine Ok_if (fun h1 => ?_) (fun h1 => ?_)
  · refine Ok_drop (lo0 := [none, none, none]) ⟨Or.inl rfl, Or.inl rfl, Or.inl rfl, trivial⟩ ?_
    exact t_C_within_p14 N d xs c r
  · refine Ok_blk 3 (pc2 := (if x2 < x0 then 14 else 10)) (lo2 := [some (.int x0), some (.int x1), some (.int x2)]) (st2 := []) rfl ?_
    refine Ok_if (fun h2 => ?_) (fun h2 => ?_)
    · refine Ok_drop (lo0 := [none, none, none]) ⟨Or.inl rfl, Or.inl rfl, Or.inl rfl, trivial⟩ ?_
      exact t_C_within_p14 N d xs c r
    · refine Ok_blk 2 (pc2 := 15) (lo2 := [some (.int x0), some (.int x1), some (.int x2)]) (st2 := [.int 1]) rfl ?_
      exact Ok_rez (Or.inr rfl) rfl rfl
set_option maxHeartbeats 8000000 in
set_option maxRecDepth 100000 in
theorem tm_C_within (N d : Nat) (xs : List Int32) (c r : St) (a0 : Int32) (a1 : Int32) (a2 : Int32) (p : Int32) (hp : C_within N a0 a1 a2 = some p) : mBig (mRoL xs) (d + 1) 102 [.int a0, .int a1, .int a2] (HP c r) (some (.int p)) (HP c r) 0 0 := mBig_of (by decide) rfl rfl rfl rfl (t_C_within N d xs c r a0 a1 a2 p hp)
/-! ColdHolds$Hold.addLeg(II)I, from (('r', 1), 'i', 'i') -/
def Hold_addLeg (N : Nat) (c : St) (x1 : Int32) (x2 : Int32) : Option (Int32 × St) :=
  (if (gI c 0) < 6 then (sto (gA c 3) (gI c 0) x1).bind fun w2 => (sto (gA (sA c 3 w2) 4) (gI (sA c 3 w2) 0) x2).bind fun w3 => some (gI (sI (sA (sA c 3 w2) 4 w3) 0 ((gI (sA (sA c 3 w2) 4 w3) 0) + 1)) 0, sI (sA (sA c 3 w2) 4 w3) 0 ((gI (sA (sA c 3 w2) 4 w3) 0) + 1)) else some ((-104), c))
set_option maxHeartbeats 8000000 in
set_option maxRecDepth 100000 in
theorem t_Hold_addLeg (N d : Nat) (xs : List Int32) (r : St) (c : St) (x1 : Int32) (x2 : Int32) : Ok (mBig (mRoL xs) (d)) (mRoL xs) 1 mK29 (fun p : Int32 × St => (some (.int p.1), HP p.2 r)) (Hold_addLeg N c x1 x2) 0 [some (.ref 1), some (.int x1), some (.int x2)] [] (HP c r) := by
  unfold Hold_addLeg
  refine Ok_blk 4 (pc2 := (if (gI c 0) < 6 then 12 else 9)) (lo2 := [some (.ref 1), some (.int x1), some (.int x2)]) (st2 := []) rfl ?_
  refine Ok_if (fun h1 => ?_) (fun h1 => ?_)
  · refine Ok_blk 5 (pc2 := 21) (lo2 := [some (.ref 1), some (.int x1), some (.int x2)]) (st2 := [.int x1, .int (gI c 0), .ref 5]) rfl ?_
    refine Ok_st (l := (gA c 3)) (hn := fun l' => HP (sA c 3 l') r) rfl rfl (fun l' => sa_5 _ _ l') (fun w2 hw2 => ?_)
    refine Ok_blk 5 (pc2 := 31) (lo2 := [some (.ref 1), some (.int x1), some (.int x2)]) (st2 := [.int x2, .int (gI (sA c 3 w2) 0), .ref 6]) rfl ?_
    refine Ok_st (l := (gA (sA c 3 w2) 4)) (hn := fun l' => HP (sA (sA c 3 w2) 4 l') r) rfl rfl (fun l' => sa_6 _ _ l') (fun w3 hw3 => ?_)
    refine Ok_heap 6 (pc2 := 42) (lo2 := [some (.ref 1), some (.int x1), some (.int x2)]) (st2 := []) (h2 := HP (sI (sA (sA c 3 w2) 4 w3) 0 ((gI (sA (sA c 3 w2) 4 w3) 0) + 1)) r) rfl (st_1_3 _ _ _) ?_
    refine Ok_blk 2 (pc2 := 46) (lo2 := [some (.ref 1), some (.int x1), some (.int x2)]) (st2 := [.int (gI (sI (sA (sA c 3 w2) 4 w3) 0 ((gI (sA (sA c 3 w2) 4 w3) 0) + 1)) 0)]) rfl ?_
    exact Ok_ret rfl rfl rfl
  · refine Ok_blk 1 (pc2 := 11) (lo2 := [some (.ref 1), some (.int x1), some (.int x2)]) (st2 := [.int (-104)]) rfl ?_
    exact Ok_ret rfl rfl rfl
set_option maxHeartbeats 8000000 in
set_option maxRecDepth 100000 in
theorem tm_Hold_addLeg (N d : Nat) (xs : List Int32) (c r : St) (a1 : Int32) (a2 : Int32) (p : Int32 × St) (hp : Hold_addLeg N c a1 a2 = some p) : mBig (mRoL xs) (d + 1) 29 [.ref 1, .int a1, .int a2] (HP c r) (some (.int p.1)) (HP p.2 r) 0 0 := mBig_of (by decide) rfl rfl rfl rfl (t_Hold_addLeg N d xs r c a1 a2 p hp)
/-! ColdHolds.leg(II)I, from (('r', 0), 'i', 'i') -/
def C_leg_p23 (N : Nat) (c : St) : Option (Int32 × St) :=
  some ((-102), c)
def C_leg (N : Nat) (c : St) (x1 : Int32) (x2 : Int32) : Option (Int32 × St) :=
  (C_within N x1 1 200).bind fun p1 => (if p1 = 0 then C_leg_p23 N c else (C_within N x2 (-50) 400).bind fun p3 => (if ¬ p3 = 0 then (if (gI c 1) ≤ 0 then (Hold_addLeg N c x1 x2).bind fun p6 => some (p6.1, p6.2) else some ((-103), c)) else C_leg_p23 N c))
set_option maxHeartbeats 8000000 in
set_option maxRecDepth 100000 in
theorem t_C_leg_p23 (N d : Nat) (xs : List Int32) (r : St) (c : St) : Ok (mBig (mRoL xs) (d + 1)) (mRoL xs) 1 mK108 (fun p : Int32 × St => (some (.int p.1), HP p.2 r)) (C_leg_p23 N c) 23 [none, none, none] [] (HP c r) := by
  unfold C_leg_p23
  refine Ok_blk 1 (pc2 := 25) (lo2 := [none, none, none]) (st2 := [.int (-102)]) rfl ?_
  exact Ok_ret rfl rfl rfl
set_option maxHeartbeats 8000000 in
set_option maxRecDepth 100000 in
theorem t_C_leg (N d : Nat) (xs : List Int32) (r : St) (c : St) (x1 : Int32) (x2 : Int32) : Ok (mBig (mRoL xs) (d + 1)) (mRoL xs) 1 mK108 (fun p : Int32 × St => (some (.int p.1), HP p.2 r)) (C_leg N c x1 x2) 0 [some (.ref 0), some (.int x1), some (.int x2)] [] (HP c r) := by
  unfold C_leg
  refine Ok_blk 3 (pc2 := 5) (lo2 := [some (.ref 0), some (.int x1), some (.int x2)]) (st2 := [.int 200, .int 1, .int x1]) rfl ?_
  refine Ok_call (y := 102) (as := [.int x1, .int 1, .int 200]) (rest := []) (w := fun p1 => some (.int p1)) (h1 := fun p1 => HP c r) rfl rfl (fun x hx => tm_C_within N d xs c r x1 1 200 x hx) (fun p1 hp1 => ?_)
  refine Ok_blk 1 (pc2 := (if p1 = 0 then 23 else 11)) (lo2 := [some (.ref 0), some (.int x1), some (.int x2)]) (st2 := []) rfl ?_
  refine Ok_if (fun h2 => ?_) (fun h2 => ?_)
  · refine Ok_drop (lo0 := [none, none, none]) ⟨Or.inl rfl, Or.inl rfl, Or.inl rfl, trivial⟩ ?_
    exact t_C_leg_p23 N d xs r c
  · refine Ok_blk 3 (pc2 := 17) (lo2 := [some (.ref 0), some (.int x1), some (.int x2)]) (st2 := [.int 400, .int (-50), .int x2]) rfl ?_
    refine Ok_call (y := 102) (as := [.int x2, .int (-50), .int 400]) (rest := []) (w := fun p3 => some (.int p3)) (h1 := fun p3 => HP c r) rfl rfl (fun x hx => tm_C_within N d xs c r x2 (-50) 400 x hx) (fun p3 hp3 => ?_)
    refine Ok_blk 1 (pc2 := (if ¬ p3 = 0 then 26 else 23)) (lo2 := [some (.ref 0), some (.int x1), some (.int x2)]) (st2 := []) rfl ?_
    refine Ok_if (fun h4 => ?_) (fun h4 => ?_)
    · refine Ok_blk 4 (pc2 := (if (gI c 1) ≤ 0 then 39 else 36)) (lo2 := [some (.ref 0), some (.int x1), some (.int x2)]) (st2 := []) rfl ?_
      refine Ok_if (fun h5 => ?_) (fun h5 => ?_)
      · refine Ok_blk 4 (pc2 := 45) (lo2 := [some (.ref 0), some (.int x1), some (.int x2)]) (st2 := [.int x2, .int x1, .ref 1]) rfl ?_
        refine Ok_call (y := 29) (as := [.ref 1, .int x1, .int x2]) (rest := []) (w := fun p6 => some (.int p6.1)) (h1 := fun p6 => HP p6.2 r) rfl rfl (fun x hx => tm_Hold_addLeg N d xs c r x1 x2 x hx) (fun p6 hp6 => ?_)
        exact Ok_ret rfl rfl rfl
      · refine Ok_blk 1 (pc2 := 38) (lo2 := [some (.ref 0), some (.int x1), some (.int x2)]) (st2 := [.int (-103)]) rfl ?_
        exact Ok_ret rfl rfl rfl
    · refine Ok_drop (lo0 := [none, none, none]) ⟨Or.inl rfl, Or.inl rfl, Or.inl rfl, trivial⟩ ?_
      exact t_C_leg_p23 N d xs r c
set_option maxHeartbeats 8000000 in
set_option maxRecDepth 100000 in
theorem tm_C_leg (N d : Nat) (xs : List Int32) (c r : St) (a1 : Int32) (a2 : Int32) (p : Int32 × St) (hp : C_leg N c a1 a2 = some p) : mBig (mRoL xs) (d + 2) 108 [.ref 0, .int a1, .int a2] (HP c r) (some (.int p.1)) (HP p.2 r) 0 0 := mBig_of (by decide) rfl rfl rfl rfl (t_C_leg N d xs r c a1 a2 p hp)
/-! ColdHoldsModel.in(III)Z, from ('i', 'i', 'i') -/
def R_in_p14 (N : Nat) : Option (Int32) :=
  some 0
def R_in (N : Nat) (x0 : Int32) (x1 : Int32) (x2 : Int32) : Option (Int32) :=
  (if x0 < x1 then R_in_p14 N else (if x2 < x0 then R_in_p14 N else some 1))
set_option maxHeartbeats 8000000 in
set_option maxRecDepth 100000 in
theorem t_R_in_p14 (N d : Nat) (xs : List Int32) (c : St) (r : St) : Ok (mBig (mRoL xs) (d)) (mRoL xs) 2 mK164 (fun p : Int32 => (some (.int p), HP c r)) (R_in_p14 N) 14 [none, none, none] [] (HP c r) := by
  unfold R_in_p14
  refine Ok_blk 1 (pc2 := 15) (lo2 := [none, none, none]) (st2 := [.int 0]) rfl ?_
  exact Ok_rez (Or.inl rfl) rfl rfl
set_option maxHeartbeats 8000000 in
set_option maxRecDepth 100000 in
theorem t_R_in (N d : Nat) (xs : List Int32) (c : St) (r : St) (x0 : Int32) (x1 : Int32) (x2 : Int32) : Ok (mBig (mRoL xs) (d)) (mRoL xs) 2 mK164 (fun p : Int32 => (some (.int p), HP c r)) (R_in N x0 x1 x2) 0 [some (.int x0), some (.int x1), some (.int x2)] [] (HP c r) := by
  unfold R_in
  refine Ok_blk 3 (pc2 := (if x0 < x1 then 14 else 5)) (lo2 := [some (.int x0), some (.int x1), some (.int x2)]) (st2 := []) rfl ?_
  refine Ok_if (fun h1 => ?_) (fun h1 => ?_)
  · refine Ok_drop (lo0 := [none, none, none]) ⟨Or.inl rfl, Or.inl rfl, Or.inl rfl, trivial⟩ ?_
    exact t_R_in_p14 N d xs c r
  · refine Ok_blk 3 (pc2 := (if x2 < x0 then 14 else 10)) (lo2 := [some (.int x0), some (.int x1), some (.int x2)]) (st2 := []) rfl ?_
    refine Ok_if (fun h2 => ?_) (fun h2 => ?_)
    · refine Ok_drop (lo0 := [none, none, none]) ⟨Or.inl rfl, Or.inl rfl, Or.inl rfl, trivial⟩ ?_
      exact t_R_in_p14 N d xs c r
    · refine Ok_blk 2 (pc2 := 15) (lo2 := [some (.int x0), some (.int x1), some (.int x2)]) (st2 := [.int 1]) rfl ?_
      exact Ok_rez (Or.inr rfl) rfl rfl
set_option maxHeartbeats 8000000 in
set_option maxRecDepth 100000 in
theorem tm_R_in (N d : Nat) (xs : List Int32) (c r : St) (a0 : Int32) (a1 : Int32) (a2 : Int32) (p : Int32) (hp : R_in N a0 a1 a2 = some p) : mBig (mRoL xs) (d + 1) 164 [.int a0, .int a1, .int a2] (HP c r) (some (.int p)) (HP c r) 0 0 := mBig_of (by decide) rfl rfl rfl rfl (t_R_in N d xs c r a0 a1 a2 p hp)
/-! ColdHoldsModel.leg(II)I, from (('r', 115), 'i', 'i') -/
def R_leg_p23 (N : Nat) (r : St) : Option (Int32 × St) :=
  some ((-102), r)
def R_leg (N : Nat) (r : St) (x1 : Int32) (x2 : Int32) : Option (Int32 × St) :=
  (R_in N x1 1 200).bind fun p1 => (if p1 = 0 then R_leg_p23 N r else (R_in N x2 (-50) 400).bind fun p3 => (if ¬ p3 = 0 then (if (gI r 4) ≤ 0 then (if ¬ (gI r 6) = 6 then (sto (gA r 3) (gI r 6) x1).bind fun w7 => (sto (gA (sA r 3 w7) 4) (gI (sA r 3 w7) 6) x2).bind fun w8 => some (gI (sI (sA (sA r 3 w7) 4 w8) 6 ((gI (sA (sA r 3 w7) 4 w8) 6) + 1)) 6, sI (sA (sA r 3 w7) 4 w8) 6 ((gI (sA (sA r 3 w7) 4 w8) 6) + 1)) else some ((-104), r)) else some ((-103), r)) else R_leg_p23 N r))
set_option maxHeartbeats 8000000 in
set_option maxRecDepth 100000 in
theorem t_R_leg_p23 (N d : Nat) (xs : List Int32) (c : St) (r : St) : Ok (mBig (mRoL xs) (d + 1)) (mRoL xs) 1 mK167 (fun p : Int32 × St => (some (.int p.1), HP c p.2)) (R_leg_p23 N r) 23 [none, none, none] [] (HP c r) := by
  unfold R_leg_p23
  refine Ok_blk 1 (pc2 := 25) (lo2 := [none, none, none]) (st2 := [.int (-102)]) rfl ?_
  exact Ok_ret rfl rfl rfl
set_option maxHeartbeats 8000000 in
set_option maxRecDepth 100000 in
theorem t_R_leg (N d : Nat) (xs : List Int32) (c : St) (r : St) (x1 : Int32) (x2 : Int32) : Ok (mBig (mRoL xs) (d + 1)) (mRoL xs) 1 mK167 (fun p : Int32 × St => (some (.int p.1), HP c p.2)) (R_leg N r x1 x2) 0 [some (.ref 115), some (.int x1), some (.int x2)] [] (HP c r) := by
  unfold R_leg
  refine Ok_blk 3 (pc2 := 5) (lo2 := [some (.ref 115), some (.int x1), some (.int x2)]) (st2 := [.int 200, .int 1, .int x1]) rfl ?_
  refine Ok_call (y := 164) (as := [.int x1, .int 1, .int 200]) (rest := []) (w := fun p1 => some (.int p1)) (h1 := fun p1 => HP c r) rfl rfl (fun x hx => tm_R_in N d xs c r x1 1 200 x hx) (fun p1 hp1 => ?_)
  refine Ok_blk 1 (pc2 := (if p1 = 0 then 23 else 11)) (lo2 := [some (.ref 115), some (.int x1), some (.int x2)]) (st2 := []) rfl ?_
  refine Ok_if (fun h2 => ?_) (fun h2 => ?_)
  · refine Ok_drop (lo0 := [none, none, none]) ⟨Or.inl rfl, Or.inl rfl, Or.inl rfl, trivial⟩ ?_
    exact t_R_leg_p23 N d xs c r
  · refine Ok_blk 3 (pc2 := 17) (lo2 := [some (.ref 115), some (.int x1), some (.int x2)]) (st2 := [.int 400, .int (-50), .int x2]) rfl ?_
    refine Ok_call (y := 164) (as := [.int x2, .int (-50), .int 400]) (rest := []) (w := fun p3 => some (.int p3)) (h1 := fun p3 => HP c r) rfl rfl (fun x hx => tm_R_in N d xs c r x2 (-50) 400 x hx) (fun p3 hp3 => ?_)
    refine Ok_blk 1 (pc2 := (if ¬ p3 = 0 then 26 else 23)) (lo2 := [some (.ref 115), some (.int x1), some (.int x2)]) (st2 := []) rfl ?_
    refine Ok_if (fun h4 => ?_) (fun h4 => ?_)
    · refine Ok_blk 3 (pc2 := (if (gI r 4) ≤ 0 then 36 else 33)) (lo2 := [some (.ref 115), some (.int x1), some (.int x2)]) (st2 := []) rfl ?_
      refine Ok_if (fun h5 => ?_) (fun h5 => ?_)
      · refine Ok_blk 4 (pc2 := (if ¬ (gI r 6) = 6 then 48 else 45)) (lo2 := [some (.ref 115), some (.int x1), some (.int x2)]) (st2 := []) rfl ?_
        refine Ok_if (fun h6 => ?_) (fun h6 => ?_)
        · refine Ok_blk 5 (pc2 := 57) (lo2 := [some (.ref 115), some (.int x1), some (.int x2)]) (st2 := [.int x1, .int (gI r 6), .ref 119]) rfl ?_
          refine Ok_st (l := (gA r 3)) (hn := fun l' => HP c (sA r 3 l')) rfl rfl (fun l' => sa_119 _ _ l') (fun w7 hw7 => ?_)
          refine Ok_blk 5 (pc2 := 67) (lo2 := [some (.ref 115), some (.int x1), some (.int x2)]) (st2 := [.int x2, .int (gI (sA r 3 w7) 6), .ref 120]) rfl ?_
          refine Ok_st (l := (gA (sA r 3 w7) 4)) (hn := fun l' => HP c (sA (sA r 3 w7) 4 l')) rfl rfl (fun l' => sa_120 _ _ l') (fun w8 hw8 => ?_)
          refine Ok_heap 6 (pc2 := 78) (lo2 := [some (.ref 115), some (.int x1), some (.int x2)]) (st2 := []) (h2 := HP c (sI (sA (sA r 3 w7) 4 w8) 6 ((gI (sA (sA r 3 w7) 4 w8) 6) + 1))) rfl (st_115_9 _ _ _) ?_
          refine Ok_blk 2 (pc2 := 82) (lo2 := [some (.ref 115), some (.int x1), some (.int x2)]) (st2 := [.int (gI (sI (sA (sA r 3 w7) 4 w8) 6 ((gI (sA (sA r 3 w7) 4 w8) 6) + 1)) 6)]) rfl ?_
          exact Ok_ret rfl rfl rfl
        · refine Ok_blk 1 (pc2 := 47) (lo2 := [some (.ref 115), some (.int x1), some (.int x2)]) (st2 := [.int (-104)]) rfl ?_
          exact Ok_ret rfl rfl rfl
      · refine Ok_blk 1 (pc2 := 35) (lo2 := [some (.ref 115), some (.int x1), some (.int x2)]) (st2 := [.int (-103)]) rfl ?_
        exact Ok_ret rfl rfl rfl
    · refine Ok_drop (lo0 := [none, none, none]) ⟨Or.inl rfl, Or.inl rfl, Or.inl rfl, trivial⟩ ?_
      exact t_R_leg_p23 N d xs c r
set_option maxHeartbeats 8000000 in
set_option maxRecDepth 100000 in
theorem tm_R_leg (N d : Nat) (xs : List Int32) (c r : St) (a1 : Int32) (a2 : Int32) (p : Int32 × St) (hp : R_leg N r a1 a2 = some p) : mBig (mRoL xs) (d + 2) 167 [.ref 115, .int a1, .int a2] (HP c r) (some (.int p.1)) (HP c p.2) 0 0 := mBig_of (by decide) rfl rfl rfl rfl (t_R_leg N d xs c r a1 a2 p hp)
/-! ColdHolds.isCell(I)Z, from ('i',) -/
def C_isCell (N : Nat) (x0 : Int32) : Option (Int32) :=
  (C_within N x0 0 11).bind fun p1 => some p1
set_option maxHeartbeats 8000000 in
set_option maxRecDepth 100000 in
theorem t_C_isCell (N d : Nat) (xs : List Int32) (c : St) (r : St) (x0 : Int32) : Ok (mBig (mRoL xs) (d + 1)) (mRoL xs) 2 mK103 (fun p : Int32 => (some (.int p), HP c r)) (C_isCell N x0) 0 [some (.int x0)] [] (HP c r) := by
  unfold C_isCell
  refine Ok_blk 3 (pc2 := 4) (lo2 := [some (.int x0)]) (st2 := [.int 11, .int 0, .int x0]) rfl ?_
  refine Ok_call (y := 102) (as := [.int x0, .int 0, .int 11]) (rest := []) (w := fun p1 => some (.int p1)) (h1 := fun p1 => HP c r) rfl rfl (fun x hx => tm_C_within N d xs c r x0 0 11 x hx) (fun p1 hp1 => ?_)
  exact Ok_rez (mBig_z (tm_C_within N d xs c r x0 0 11 p1 hp1) rfl) rfl rfl
set_option maxHeartbeats 8000000 in
set_option maxRecDepth 100000 in
theorem tm_C_isCell (N d : Nat) (xs : List Int32) (c r : St) (a0 : Int32) (p : Int32) (hp : C_isCell N a0 = some p) : mBig (mRoL xs) (d + 2) 103 [.int a0] (HP c r) (some (.int p)) (HP c r) 0 0 := mBig_of (by decide) rfl rfl rfl rfl (t_C_isCell N d xs c r a0 p hp)
/-! ColdHolds.isWarmth(I)Z, from ('i',) -/
def C_isWarmth (N : Nat) (x0 : Int32) : Option (Int32) :=
  (C_within N x0 (-300) 600).bind fun p1 => some p1
set_option maxHeartbeats 8000000 in
set_option maxRecDepth 100000 in
theorem t_C_isWarmth (N d : Nat) (xs : List Int32) (c : St) (r : St) (x0 : Int32) : Ok (mBig (mRoL xs) (d + 1)) (mRoL xs) 2 mK104 (fun p : Int32 => (some (.int p), HP c r)) (C_isWarmth N x0) 0 [some (.int x0)] [] (HP c r) := by
  unfold C_isWarmth
  refine Ok_blk 3 (pc2 := 7) (lo2 := [some (.int x0)]) (st2 := [.int 600, .int (-300), .int x0]) rfl ?_
  refine Ok_call (y := 102) (as := [.int x0, .int (-300), .int 600]) (rest := []) (w := fun p1 => some (.int p1)) (h1 := fun p1 => HP c r) rfl rfl (fun x hx => tm_C_within N d xs c r x0 (-300) 600 x hx) (fun p1 hp1 => ?_)
  exact Ok_rez (mBig_z (tm_C_within N d xs c r x0 (-300) 600 p1 hp1) rfl) rfl rfl
set_option maxHeartbeats 8000000 in
set_option maxRecDepth 100000 in
theorem tm_C_isWarmth (N d : Nat) (xs : List Int32) (c r : St) (a0 : Int32) (p : Int32) (hp : C_isWarmth N a0 = some p) : mBig (mRoL xs) (d + 2) 104 [.int a0] (HP c r) (some (.int p)) (HP c r) 0 0 := mBig_of (by decide) rfl rfl rfl rfl (t_C_isWarmth N d xs c r a0 p hp)
/-! ColdHolds.change([III)I, from (('r', 8), 'i', 'i') -/
def C_change (N : Nat) (c : St) (x1 : Int32) (x2 : Int32) : Option (Int32 × St) :=
  (ld (gA c 5) x1).bind fun y1 => (sto (gA c 5) x1 x2).bind fun w2 => some (y1, sA c 5 w2)
set_option maxHeartbeats 8000000 in
set_option maxRecDepth 100000 in
theorem t_C_change (N d : Nat) (xs : List Int32) (r : St) (c : St) (x1 : Int32) (x2 : Int32) : Ok (mBig (mRoL xs) (d)) (mRoL xs) 1 mK105 (fun p : Int32 × St => (some (.int p.1), HP p.2 r)) (C_change N c x1 x2) 0 [some (.ref 8), some (.int x1), some (.int x2), none] [] (HP c r) := by
  unfold C_change
  refine Ok_blk 2 (pc2 := 2) (lo2 := [some (.ref 8), some (.int x1), some (.int x2), none]) (st2 := [.int x1, .ref 8]) rfl ?_
  refine Ok_ld (l := (gA c 5)) rfl rfl (fun y1 hy1 => ?_)
  refine Ok_blk 4 (pc2 := 7) (lo2 := [some (.ref 8), some (.int x1), some (.int x2), some (.int y1)]) (st2 := [.int x2, .int x1, .ref 8]) rfl ?_
  refine Ok_st (l := (gA c 5)) (hn := fun l' => HP (sA c 5 l') r) rfl rfl (fun l' => sa_8 _ _ l') (fun w2 hw2 => ?_)
  refine Ok_blk 1 (pc2 := 9) (lo2 := [some (.ref 8), some (.int x1), some (.int x2), some (.int y1)]) (st2 := [.int y1]) rfl ?_
  exact Ok_ret rfl rfl rfl
set_option maxHeartbeats 8000000 in
set_option maxRecDepth 100000 in
theorem tm_C_change (N d : Nat) (xs : List Int32) (c r : St) (a1 : Int32) (a2 : Int32) (p : Int32 × St) (hp : C_change N c a1 a2 = some p) : mBig (mRoL xs) (d + 1) 105 [.ref 8, .int a1, .int a2] (HP c r) (some (.int p.1)) (HP p.2 r) 0 0 := mBig_of (by decide) rfl rfl rfl rfl (t_C_change N d xs r c a1 a2 p hp)
/-! ColdHolds.warm(II)I, from (('r', 0), 'i', 'i') -/
def C_warm (N : Nat) (c : St) (x1 : Int32) (x2 : Int32) : Option (Int32 × St) :=
  (C_isCell N x1).bind fun p1 => (if ¬ p1 = 0 then (C_isWarmth N x2).bind fun p3 => (if ¬ p3 = 0 then (C_change N c x1 x2).bind fun p5 => some (p5.1, p5.2) else some ((-1002), c)) else some ((-1001), c))
set_option maxHeartbeats 8000000 in
set_option maxRecDepth 100000 in
theorem t_C_warm (N d : Nat) (xs : List Int32) (r : St) (c : St) (x1 : Int32) (x2 : Int32) : Ok (mBig (mRoL xs) (d + 2)) (mRoL xs) 1 mK109 (fun p : Int32 × St => (some (.int p.1), HP p.2 r)) (C_warm N c x1 x2) 0 [some (.ref 0), some (.int x1), some (.int x2)] [] (HP c r) := by
  unfold C_warm
  refine Ok_blk 1 (pc2 := 1) (lo2 := [some (.ref 0), some (.int x1), some (.int x2)]) (st2 := [.int x1]) rfl ?_
  refine Ok_call (y := 103) (as := [.int x1]) (rest := []) (w := fun p1 => some (.int p1)) (h1 := fun p1 => HP c r) rfl rfl (fun x hx => tm_C_isCell N d xs c r x1 x hx) (fun p1 hp1 => ?_)
  refine Ok_blk 1 (pc2 := (if ¬ p1 = 0 then 11 else 7)) (lo2 := [some (.ref 0), some (.int x1), some (.int x2)]) (st2 := []) rfl ?_
  refine Ok_if (fun h2 => ?_) (fun h2 => ?_)
  · refine Ok_blk 1 (pc2 := 12) (lo2 := [some (.ref 0), some (.int x1), some (.int x2)]) (st2 := [.int x2]) rfl ?_
    refine Ok_call (y := 104) (as := [.int x2]) (rest := []) (w := fun p3 => some (.int p3)) (h1 := fun p3 => HP c r) rfl rfl (fun x hx => tm_C_isWarmth N d xs c r x2 x hx) (fun p3 hp3 => ?_)
    refine Ok_blk 1 (pc2 := (if ¬ p3 = 0 then 22 else 18)) (lo2 := [some (.ref 0), some (.int x1), some (.int x2)]) (st2 := []) rfl ?_
    refine Ok_if (fun h4 => ?_) (fun h4 => ?_)
    · refine Ok_blk 5 (pc2 := 31) (lo2 := [some (.ref 0), some (.int x1), some (.int x2)]) (st2 := [.int x2, .int x1, .ref 8]) rfl ?_
      refine Ok_call (y := 105) (as := [.ref 8, .int x1, .int x2]) (rest := []) (w := fun p5 => some (.int p5.1)) (h1 := fun p5 => HP p5.2 r) rfl rfl (fun x hx => tm_C_change N (d + 1) xs c r x1 x2 x hx) (fun p5 hp5 => ?_)
      exact Ok_ret rfl rfl rfl
    · refine Ok_blk 1 (pc2 := 21) (lo2 := [some (.ref 0), some (.int x1), some (.int x2)]) (st2 := [.int (-1002)]) rfl ?_
      exact Ok_ret rfl rfl rfl
  · refine Ok_blk 1 (pc2 := 10) (lo2 := [some (.ref 0), some (.int x1), some (.int x2)]) (st2 := [.int (-1001)]) rfl ?_
    exact Ok_ret rfl rfl rfl
set_option maxHeartbeats 8000000 in
set_option maxRecDepth 100000 in
theorem tm_C_warm (N d : Nat) (xs : List Int32) (c r : St) (a1 : Int32) (a2 : Int32) (p : Int32 × St) (hp : C_warm N c a1 a2 = some p) : mBig (mRoL xs) (d + 3) 109 [.ref 0, .int a1, .int a2] (HP c r) (some (.int p.1)) (HP p.2 r) 0 0 := mBig_of (by decide) rfl rfl rfl rfl (t_C_warm N d xs r c a1 a2 p hp)
/-! ColdHoldsModel.isCell(I)Z, from ('i',) -/
def R_isCell (N : Nat) (x0 : Int32) : Option (Int32) :=
  (R_in N x0 0 11).bind fun p1 => some p1
set_option maxHeartbeats 8000000 in
set_option maxRecDepth 100000 in
theorem t_R_isCell (N d : Nat) (xs : List Int32) (c : St) (r : St) (x0 : Int32) : Ok (mBig (mRoL xs) (d + 1)) (mRoL xs) 2 mK165 (fun p : Int32 => (some (.int p), HP c r)) (R_isCell N x0) 0 [some (.int x0)] [] (HP c r) := by
  unfold R_isCell
  refine Ok_blk 3 (pc2 := 4) (lo2 := [some (.int x0)]) (st2 := [.int 11, .int 0, .int x0]) rfl ?_
  refine Ok_call (y := 164) (as := [.int x0, .int 0, .int 11]) (rest := []) (w := fun p1 => some (.int p1)) (h1 := fun p1 => HP c r) rfl rfl (fun x hx => tm_R_in N d xs c r x0 0 11 x hx) (fun p1 hp1 => ?_)
  exact Ok_rez (mBig_z (tm_R_in N d xs c r x0 0 11 p1 hp1) rfl) rfl rfl
set_option maxHeartbeats 8000000 in
set_option maxRecDepth 100000 in
theorem tm_R_isCell (N d : Nat) (xs : List Int32) (c r : St) (a0 : Int32) (p : Int32) (hp : R_isCell N a0 = some p) : mBig (mRoL xs) (d + 2) 165 [.int a0] (HP c r) (some (.int p)) (HP c r) 0 0 := mBig_of (by decide) rfl rfl rfl rfl (t_R_isCell N d xs c r a0 p hp)
/-! ColdHoldsModel.warm(II)I, from (('r', 115), 'i', 'i') -/
def R_warm (N : Nat) (r : St) (x1 : Int32) (x2 : Int32) : Option (Int32 × St) :=
  (R_isCell N x1).bind fun p1 => (if ¬ p1 = 0 then (R_in N x2 (-300) 600).bind fun p3 => (if ¬ p3 = 0 then (ld (gA r 0) x1).bind fun y5 => (sto (gA r 0) x1 x2).bind fun w6 => some (y5, sA r 0 w6) else some ((-1002), r)) else some ((-1001), r))
set_option maxHeartbeats 8000000 in
set_option maxRecDepth 100000 in
theorem t_R_warm (N d : Nat) (xs : List Int32) (c : St) (r : St) (x1 : Int32) (x2 : Int32) : Ok (mBig (mRoL xs) (d + 2)) (mRoL xs) 1 mK168 (fun p : Int32 × St => (some (.int p.1), HP c p.2)) (R_warm N r x1 x2) 0 [some (.ref 115), some (.int x1), some (.int x2), none] [] (HP c r) := by
  unfold R_warm
  refine Ok_blk 1 (pc2 := 1) (lo2 := [some (.ref 115), some (.int x1), some (.int x2), none]) (st2 := [.int x1]) rfl ?_
  refine Ok_call (y := 165) (as := [.int x1]) (rest := []) (w := fun p1 => some (.int p1)) (h1 := fun p1 => HP c r) rfl rfl (fun x hx => tm_R_isCell N d xs c r x1 x hx) (fun p1 hp1 => ?_)
  refine Ok_blk 1 (pc2 := (if ¬ p1 = 0 then 11 else 7)) (lo2 := [some (.ref 115), some (.int x1), some (.int x2), none]) (st2 := []) rfl ?_
  refine Ok_if (fun h2 => ?_) (fun h2 => ?_)
  · refine Ok_blk 3 (pc2 := 18) (lo2 := [some (.ref 115), some (.int x1), some (.int x2), none]) (st2 := [.int 600, .int (-300), .int x2]) rfl ?_
    refine Ok_call (y := 164) (as := [.int x2, .int (-300), .int 600]) (rest := []) (w := fun p3 => some (.int p3)) (h1 := fun p3 => HP c r) rfl rfl (fun x hx => tm_R_in N (d + 1) xs c r x2 (-300) 600 x hx) (fun p3 hp3 => ?_)
    refine Ok_blk 1 (pc2 := (if ¬ p3 = 0 then 28 else 24)) (lo2 := [some (.ref 115), some (.int x1), some (.int x2), none]) (st2 := []) rfl ?_
    refine Ok_if (fun h4 => ?_) (fun h4 => ?_)
    · refine Ok_blk 3 (pc2 := 33) (lo2 := [some (.ref 115), some (.int x1), some (.int x2), none]) (st2 := [.int x1, .ref 116]) rfl ?_
      refine Ok_ld (l := (gA r 0)) rfl rfl (fun y5 hy5 => ?_)
      refine Ok_blk 5 (pc2 := 41) (lo2 := [some (.ref 115), some (.int x1), some (.int x2), some (.int y5)]) (st2 := [.int x2, .int x1, .ref 116]) rfl ?_
      refine Ok_st (l := (gA r 0)) (hn := fun l' => HP c (sA r 0 l')) rfl rfl (fun l' => sa_116 _ _ l') (fun w6 hw6 => ?_)
      refine Ok_blk 1 (pc2 := 43) (lo2 := [some (.ref 115), some (.int x1), some (.int x2), some (.int y5)]) (st2 := [.int y5]) rfl ?_
      exact Ok_ret rfl rfl rfl
    · refine Ok_blk 1 (pc2 := 27) (lo2 := [some (.ref 115), some (.int x1), some (.int x2), none]) (st2 := [.int (-1002)]) rfl ?_
      exact Ok_ret rfl rfl rfl
  · refine Ok_blk 1 (pc2 := 10) (lo2 := [some (.ref 115), some (.int x1), some (.int x2), none]) (st2 := [.int (-1001)]) rfl ?_
    exact Ok_ret rfl rfl rfl
set_option maxHeartbeats 8000000 in
set_option maxRecDepth 100000 in
theorem tm_R_warm (N d : Nat) (xs : List Int32) (c r : St) (a1 : Int32) (a2 : Int32) (p : Int32 × St) (hp : R_warm N r a1 a2 = some p) : mBig (mRoL xs) (d + 3) 168 [.ref 115, .int a1, .int a2] (HP c r) (some (.int p.1)) (HP c p.2) 0 0 := mBig_of (by decide) rfl rfl rfl rfl (t_R_warm N d xs c r a1 a2 p hp)
/-! ColdHolds.warmth(I)I, from (('r', 0), 'i') -/
def C_warmth (N : Nat) (c : St) (x1 : Int32) : Option (Int32) :=
  (C_isCell N x1).bind fun p1 => (if p1 = 0 then some (-1001) else (ld (gA c 5) x1).bind fun y3 => some y3)
set_option maxHeartbeats 8000000 in
set_option maxRecDepth 100000 in
theorem t_C_warmth (N d : Nat) (xs : List Int32) (c : St) (r : St) (x1 : Int32) : Ok (mBig (mRoL xs) (d + 2)) (mRoL xs) 1 mK110 (fun p : Int32 => (some (.int p), HP c r)) (C_warmth N c x1) 0 [some (.ref 0), some (.int x1)] [] (HP c r) := by
  unfold C_warmth
  refine Ok_blk 1 (pc2 := 1) (lo2 := [some (.ref 0), some (.int x1)]) (st2 := [.int x1]) rfl ?_
  refine Ok_call (y := 103) (as := [.int x1]) (rest := []) (w := fun p1 => some (.int p1)) (h1 := fun p1 => HP c r) rfl rfl (fun x hx => tm_C_isCell N d xs c r x1 x hx) (fun p1 hp1 => ?_)
  refine Ok_blk 1 (pc2 := (if p1 = 0 then 19 else 7)) (lo2 := [some (.ref 0), some (.int x1)]) (st2 := []) rfl ?_
  refine Ok_if (fun h2 => ?_) (fun h2 => ?_)
  · refine Ok_blk 1 (pc2 := 22) (lo2 := [some (.ref 0), some (.int x1)]) (st2 := [.int (-1001)]) rfl ?_
    exact Ok_ret rfl rfl rfl
  · refine Ok_blk 4 (pc2 := 15) (lo2 := [some (.ref 0), some (.int x1)]) (st2 := [.int x1, .ref 8]) rfl ?_
    refine Ok_ld (l := (gA c 5)) rfl rfl (fun y3 hy3 => ?_)
    refine Ok_blk 1 (pc2 := 22) (lo2 := [some (.ref 0), some (.int x1)]) (st2 := [.int y3]) rfl ?_
    exact Ok_ret rfl rfl rfl
set_option maxHeartbeats 8000000 in
set_option maxRecDepth 100000 in
theorem tm_C_warmth (N d : Nat) (xs : List Int32) (c r : St) (a1 : Int32) (p : Int32) (hp : C_warmth N c a1 = some p) : mBig (mRoL xs) (d + 3) 110 [.ref 0, .int a1] (HP c r) (some (.int p)) (HP c r) 0 0 := mBig_of (by decide) rfl rfl rfl rfl (t_C_warmth N d xs c r a1 p hp)
/-! ColdHoldsModel.warmth(I)I, from (('r', 115), 'i') -/
def R_warmth (N : Nat) (r : St) (x1 : Int32) : Option (Int32) :=
  (R_isCell N x1).bind fun p1 => (if p1 = 0 then some (-1001) else (ld (gA r 0) x1).bind fun y3 => some y3)
set_option maxHeartbeats 8000000 in
set_option maxRecDepth 100000 in
theorem t_R_warmth (N d : Nat) (xs : List Int32) (c : St) (r : St) (x1 : Int32) : Ok (mBig (mRoL xs) (d + 2)) (mRoL xs) 1 mK169 (fun p : Int32 => (some (.int p), HP c r)) (R_warmth N r x1) 0 [some (.ref 115), some (.int x1)] [] (HP c r) := by
  unfold R_warmth
  refine Ok_blk 1 (pc2 := 1) (lo2 := [some (.ref 115), some (.int x1)]) (st2 := [.int x1]) rfl ?_
  refine Ok_call (y := 165) (as := [.int x1]) (rest := []) (w := fun p1 => some (.int p1)) (h1 := fun p1 => HP c r) rfl rfl (fun x hx => tm_R_isCell N d xs c r x1 x hx) (fun p1 hp1 => ?_)
  refine Ok_blk 1 (pc2 := (if p1 = 0 then 16 else 7)) (lo2 := [some (.ref 115), some (.int x1)]) (st2 := []) rfl ?_
  refine Ok_if (fun h2 => ?_) (fun h2 => ?_)
  · refine Ok_blk 1 (pc2 := 19) (lo2 := [some (.ref 115), some (.int x1)]) (st2 := [.int (-1001)]) rfl ?_
    exact Ok_ret rfl rfl rfl
  · refine Ok_blk 3 (pc2 := 12) (lo2 := [some (.ref 115), some (.int x1)]) (st2 := [.int x1, .ref 116]) rfl ?_
    refine Ok_ld (l := (gA r 0)) rfl rfl (fun y3 hy3 => ?_)
    refine Ok_blk 1 (pc2 := 19) (lo2 := [some (.ref 115), some (.int x1)]) (st2 := [.int y3]) rfl ?_
    exact Ok_ret rfl rfl rfl
set_option maxHeartbeats 8000000 in
set_option maxRecDepth 100000 in
theorem tm_R_warmth (N d : Nat) (xs : List Int32) (c r : St) (a1 : Int32) (p : Int32) (hp : R_warmth N r a1 = some p) : mBig (mRoL xs) (d + 3) 169 [.ref 115, .int a1] (HP c r) (some (.int p)) (HP c r) 0 0 := mBig_of (by decide) rfl rfl rfl rfl (t_R_warmth N d xs c r a1 p hp)
/-! ColdHolds.change([III)I, from (('r', 2), 'i', 'i') -/
def C_change_2 (N : Nat) (c : St) (x1 : Int32) (x2 : Int32) : Option (Int32 × St) :=
  (ld (gA c 0) x1).bind fun y1 => (sto (gA c 0) x1 x2).bind fun w2 => some (y1, sA c 0 w2)
set_option maxHeartbeats 8000000 in
set_option maxRecDepth 100000 in
theorem t_C_change_2 (N d : Nat) (xs : List Int32) (r : St) (c : St) (x1 : Int32) (x2 : Int32) : Ok (mBig (mRoL xs) (d)) (mRoL xs) 1 mK105 (fun p : Int32 × St => (some (.int p.1), HP p.2 r)) (C_change_2 N c x1 x2) 0 [some (.ref 2), some (.int x1), some (.int x2), none] [] (HP c r) := by
  unfold C_change_2
  refine Ok_blk 2 (pc2 := 2) (lo2 := [some (.ref 2), some (.int x1), some (.int x2), none]) (st2 := [.int x1, .ref 2]) rfl ?_
  refine Ok_ld (l := (gA c 0)) rfl rfl (fun y1 hy1 => ?_)
  refine Ok_blk 4 (pc2 := 7) (lo2 := [some (.ref 2), some (.int x1), some (.int x2), some (.int y1)]) (st2 := [.int x2, .int x1, .ref 2]) rfl ?_
  refine Ok_st (l := (gA c 0)) (hn := fun l' => HP (sA c 0 l') r) rfl rfl (fun l' => sa_2 _ _ l') (fun w2 hw2 => ?_)
  refine Ok_blk 1 (pc2 := 9) (lo2 := [some (.ref 2), some (.int x1), some (.int x2), some (.int y1)]) (st2 := [.int y1]) rfl ?_
  exact Ok_ret rfl rfl rfl
set_option maxHeartbeats 8000000 in
set_option maxRecDepth 100000 in
theorem tm_C_change_2 (N d : Nat) (xs : List Int32) (c r : St) (a1 : Int32) (a2 : Int32) (p : Int32 × St) (hp : C_change_2 N c a1 a2 = some p) : mBig (mRoL xs) (d + 1) 105 [.ref 2, .int a1, .int a2] (HP c r) (some (.int p.1)) (HP p.2 r) 0 0 := mBig_of (by decide) rfl rfl rfl rfl (t_C_change_2 N d xs r c a1 a2 p hp)
/-! ColdHolds.outer(II)I, from (('r', 0), 'i', 'i') -/
def C_outer (N : Nat) (c : St) (x1 : Int32) (x2 : Int32) : Option (Int32 × St) :=
  (C_isCell N x1).bind fun p1 => (if ¬ p1 = 0 then (C_within N x2 0 20).bind fun p3 => (if ¬ p3 = 0 then (C_change_2 N c x1 x2).bind fun p5 => some (p5.1, p5.2) else some ((-102), c)) else some ((-101), c))
set_option maxHeartbeats 8000000 in
set_option maxRecDepth 100000 in
theorem t_C_outer (N d : Nat) (xs : List Int32) (r : St) (c : St) (x1 : Int32) (x2 : Int32) : Ok (mBig (mRoL xs) (d + 2)) (mRoL xs) 1 mK111 (fun p : Int32 × St => (some (.int p.1), HP p.2 r)) (C_outer N c x1 x2) 0 [some (.ref 0), some (.int x1), some (.int x2)] [] (HP c r) := by
  unfold C_outer
  refine Ok_blk 1 (pc2 := 1) (lo2 := [some (.ref 0), some (.int x1), some (.int x2)]) (st2 := [.int x1]) rfl ?_
  refine Ok_call (y := 103) (as := [.int x1]) (rest := []) (w := fun p1 => some (.int p1)) (h1 := fun p1 => HP c r) rfl rfl (fun x hx => tm_C_isCell N d xs c r x1 x hx) (fun p1 hp1 => ?_)
  refine Ok_blk 1 (pc2 := (if ¬ p1 = 0 then 10 else 7)) (lo2 := [some (.ref 0), some (.int x1), some (.int x2)]) (st2 := []) rfl ?_
  refine Ok_if (fun h2 => ?_) (fun h2 => ?_)
  · refine Ok_blk 3 (pc2 := 14) (lo2 := [some (.ref 0), some (.int x1), some (.int x2)]) (st2 := [.int 20, .int 0, .int x2]) rfl ?_
    refine Ok_call (y := 102) (as := [.int x2, .int 0, .int 20]) (rest := []) (w := fun p3 => some (.int p3)) (h1 := fun p3 => HP c r) rfl rfl (fun x hx => tm_C_within N (d + 1) xs c r x2 0 20 x hx) (fun p3 hp3 => ?_)
    refine Ok_blk 1 (pc2 := (if ¬ p3 = 0 then 23 else 20)) (lo2 := [some (.ref 0), some (.int x1), some (.int x2)]) (st2 := []) rfl ?_
    refine Ok_if (fun h4 => ?_) (fun h4 => ?_)
    · refine Ok_blk 5 (pc2 := 32) (lo2 := [some (.ref 0), some (.int x1), some (.int x2)]) (st2 := [.int x2, .int x1, .ref 2]) rfl ?_
      refine Ok_call (y := 105) (as := [.ref 2, .int x1, .int x2]) (rest := []) (w := fun p5 => some (.int p5.1)) (h1 := fun p5 => HP p5.2 r) rfl rfl (fun x hx => tm_C_change_2 N (d + 1) xs c r x1 x2 x hx) (fun p5 hp5 => ?_)
      exact Ok_ret rfl rfl rfl
    · refine Ok_blk 1 (pc2 := 22) (lo2 := [some (.ref 0), some (.int x1), some (.int x2)]) (st2 := [.int (-102)]) rfl ?_
      exact Ok_ret rfl rfl rfl
  · refine Ok_blk 1 (pc2 := 9) (lo2 := [some (.ref 0), some (.int x1), some (.int x2)]) (st2 := [.int (-101)]) rfl ?_
    exact Ok_ret rfl rfl rfl
set_option maxHeartbeats 8000000 in
set_option maxRecDepth 100000 in
theorem tm_C_outer (N d : Nat) (xs : List Int32) (c r : St) (a1 : Int32) (a2 : Int32) (p : Int32 × St) (hp : C_outer N c a1 a2 = some p) : mBig (mRoL xs) (d + 3) 111 [.ref 0, .int a1, .int a2] (HP c r) (some (.int p.1)) (HP p.2 r) 0 0 := mBig_of (by decide) rfl rfl rfl rfl (t_C_outer N d xs r c a1 a2 p hp)
/-! ColdHoldsModel.outer(II)I, from (('r', 115), 'i', 'i') -/
def R_outer (N : Nat) (r : St) (x1 : Int32) (x2 : Int32) : Option (Int32 × St) :=
  (R_isCell N x1).bind fun p1 => (if ¬ p1 = 0 then (R_in N x2 0 20).bind fun p3 => (if ¬ p3 = 0 then (ld (gA r 1) x1).bind fun y5 => (sto (gA r 1) x1 x2).bind fun w6 => some (y5, sA r 1 w6) else some ((-102), r)) else some ((-101), r))
set_option maxHeartbeats 8000000 in
set_option maxRecDepth 100000 in
theorem t_R_outer (N d : Nat) (xs : List Int32) (c : St) (r : St) (x1 : Int32) (x2 : Int32) : Ok (mBig (mRoL xs) (d + 2)) (mRoL xs) 1 mK170 (fun p : Int32 × St => (some (.int p.1), HP c p.2)) (R_outer N r x1 x2) 0 [some (.ref 115), some (.int x1), some (.int x2), none] [] (HP c r) := by
  unfold R_outer
  refine Ok_blk 1 (pc2 := 1) (lo2 := [some (.ref 115), some (.int x1), some (.int x2), none]) (st2 := [.int x1]) rfl ?_
  refine Ok_call (y := 165) (as := [.int x1]) (rest := []) (w := fun p1 => some (.int p1)) (h1 := fun p1 => HP c r) rfl rfl (fun x hx => tm_R_isCell N d xs c r x1 x hx) (fun p1 hp1 => ?_)
  refine Ok_blk 1 (pc2 := (if ¬ p1 = 0 then 10 else 7)) (lo2 := [some (.ref 115), some (.int x1), some (.int x2), none]) (st2 := []) rfl ?_
  refine Ok_if (fun h2 => ?_) (fun h2 => ?_)
  · refine Ok_blk 3 (pc2 := 14) (lo2 := [some (.ref 115), some (.int x1), some (.int x2), none]) (st2 := [.int 20, .int 0, .int x2]) rfl ?_
    refine Ok_call (y := 164) (as := [.int x2, .int 0, .int 20]) (rest := []) (w := fun p3 => some (.int p3)) (h1 := fun p3 => HP c r) rfl rfl (fun x hx => tm_R_in N (d + 1) xs c r x2 0 20 x hx) (fun p3 hp3 => ?_)
    refine Ok_blk 1 (pc2 := (if ¬ p3 = 0 then 23 else 20)) (lo2 := [some (.ref 115), some (.int x1), some (.int x2), none]) (st2 := []) rfl ?_
    refine Ok_if (fun h4 => ?_) (fun h4 => ?_)
    · refine Ok_blk 3 (pc2 := 28) (lo2 := [some (.ref 115), some (.int x1), some (.int x2), none]) (st2 := [.int x1, .ref 117]) rfl ?_
      refine Ok_ld (l := (gA r 1)) rfl rfl (fun y5 hy5 => ?_)
      refine Ok_blk 5 (pc2 := 36) (lo2 := [some (.ref 115), some (.int x1), some (.int x2), some (.int y5)]) (st2 := [.int x2, .int x1, .ref 117]) rfl ?_
      refine Ok_st (l := (gA r 1)) (hn := fun l' => HP c (sA r 1 l')) rfl rfl (fun l' => sa_117 _ _ l') (fun w6 hw6 => ?_)
      refine Ok_blk 1 (pc2 := 38) (lo2 := [some (.ref 115), some (.int x1), some (.int x2), some (.int y5)]) (st2 := [.int y5]) rfl ?_
      exact Ok_ret rfl rfl rfl
    · refine Ok_blk 1 (pc2 := 22) (lo2 := [some (.ref 115), some (.int x1), some (.int x2), none]) (st2 := [.int (-102)]) rfl ?_
      exact Ok_ret rfl rfl rfl
  · refine Ok_blk 1 (pc2 := 9) (lo2 := [some (.ref 115), some (.int x1), some (.int x2), none]) (st2 := [.int (-101)]) rfl ?_
    exact Ok_ret rfl rfl rfl
set_option maxHeartbeats 8000000 in
set_option maxRecDepth 100000 in
theorem tm_R_outer (N d : Nat) (xs : List Int32) (c r : St) (a1 : Int32) (a2 : Int32) (p : Int32 × St) (hp : R_outer N r a1 a2 = some p) : mBig (mRoL xs) (d + 3) 170 [.ref 115, .int a1, .int a2] (HP c r) (some (.int p.1)) (HP c p.2) 0 0 := mBig_of (by decide) rfl rfl rfl rfl (t_R_outer N d xs c r a1 a2 p hp)
/-! ColdHolds.change([III)I, from (('r', 3), 'i', 'i') -/
def C_change_3 (N : Nat) (c : St) (x1 : Int32) (x2 : Int32) : Option (Int32 × St) :=
  (ld (gA c 1) x1).bind fun y1 => (sto (gA c 1) x1 x2).bind fun w2 => some (y1, sA c 1 w2)
set_option maxHeartbeats 8000000 in
set_option maxRecDepth 100000 in
theorem t_C_change_3 (N d : Nat) (xs : List Int32) (r : St) (c : St) (x1 : Int32) (x2 : Int32) : Ok (mBig (mRoL xs) (d)) (mRoL xs) 1 mK105 (fun p : Int32 × St => (some (.int p.1), HP p.2 r)) (C_change_3 N c x1 x2) 0 [some (.ref 3), some (.int x1), some (.int x2), none] [] (HP c r) := by
  unfold C_change_3
  refine Ok_blk 2 (pc2 := 2) (lo2 := [some (.ref 3), some (.int x1), some (.int x2), none]) (st2 := [.int x1, .ref 3]) rfl ?_
  refine Ok_ld (l := (gA c 1)) rfl rfl (fun y1 hy1 => ?_)
  refine Ok_blk 4 (pc2 := 7) (lo2 := [some (.ref 3), some (.int x1), some (.int x2), some (.int y1)]) (st2 := [.int x2, .int x1, .ref 3]) rfl ?_
  refine Ok_st (l := (gA c 1)) (hn := fun l' => HP (sA c 1 l') r) rfl rfl (fun l' => sa_3 _ _ l') (fun w2 hw2 => ?_)
  refine Ok_blk 1 (pc2 := 9) (lo2 := [some (.ref 3), some (.int x1), some (.int x2), some (.int y1)]) (st2 := [.int y1]) rfl ?_
  exact Ok_ret rfl rfl rfl
set_option maxHeartbeats 8000000 in
set_option maxRecDepth 100000 in
theorem tm_C_change_3 (N d : Nat) (xs : List Int32) (c r : St) (a1 : Int32) (a2 : Int32) (p : Int32 × St) (hp : C_change_3 N c a1 a2 = some p) : mBig (mRoL xs) (d + 1) 105 [.ref 3, .int a1, .int a2] (HP c r) (some (.int p.1)) (HP p.2 r) 0 0 := mBig_of (by decide) rfl rfl rfl rfl (t_C_change_3 N d xs r c a1 a2 p hp)
/-! ColdHolds.pipe(IZ)I, from (('r', 0), 'i', 'i') -/
def C_pipe_p27 (N : Nat) (c : St) (s1 : Int32) (s2 : Int32) : Option (Int32 × St) :=
  (C_change_3 N c s1 s2).bind fun p4 => some (p4.1, p4.2)
def C_pipe (N : Nat) (c : St) (x1 : Int32) (x2 : Int32) : Option (Int32 × St) :=
  (C_isCell N x1).bind fun p1 => (if ¬ p1 = 0 then (if x2 = 0 then C_pipe_p27 N c x1 0 else C_pipe_p27 N c x1 1) else some ((-101), c))
set_option maxHeartbeats 8000000 in
set_option maxRecDepth 100000 in
theorem t_C_pipe_p27 (N d : Nat) (xs : List Int32) (r : St) (c : St) (s1 : Int32) (s2 : Int32) : Ok (mBig (mRoL xs) (d + 2)) (mRoL xs) 1 mK112 (fun p : Int32 × St => (some (.int p.1), HP p.2 r)) (C_pipe_p27 N c s1 s2) 27 [none, none, none] [.int s2, .int s1, .ref 3] (HP c r) := by
  unfold C_pipe_p27
  refine Ok_call (y := 105) (as := [.ref 3, .int s1, .int s2]) (rest := []) (w := fun p4 => some (.int p4.1)) (h1 := fun p4 => HP p4.2 r) rfl rfl (fun x hx => tm_C_change_3 N (d + 1) xs c r s1 s2 x hx) (fun p4 hp4 => ?_)
  exact Ok_ret rfl rfl rfl
set_option maxHeartbeats 8000000 in
set_option maxRecDepth 100000 in
theorem t_C_pipe (N d : Nat) (xs : List Int32) (r : St) (c : St) (x1 : Int32) (x2 : Int32) : Ok (mBig (mRoL xs) (d + 2)) (mRoL xs) 1 mK112 (fun p : Int32 × St => (some (.int p.1), HP p.2 r)) (C_pipe N c x1 x2) 0 [some (.ref 0), some (.int x1), some (.int x2)] [] (HP c r) := by
  unfold C_pipe
  refine Ok_blk 1 (pc2 := 1) (lo2 := [some (.ref 0), some (.int x1), some (.int x2)]) (st2 := [.int x1]) rfl ?_
  refine Ok_call (y := 103) (as := [.int x1]) (rest := []) (w := fun p1 => some (.int p1)) (h1 := fun p1 => HP c r) rfl rfl (fun x hx => tm_C_isCell N d xs c r x1 x hx) (fun p1 hp1 => ?_)
  refine Ok_blk 1 (pc2 := (if ¬ p1 = 0 then 10 else 7)) (lo2 := [some (.ref 0), some (.int x1), some (.int x2)]) (st2 := []) rfl ?_
  refine Ok_if (fun h2 => ?_) (fun h2 => ?_)
  · refine Ok_blk 6 (pc2 := (if x2 = 0 then 26 else 22)) (lo2 := [some (.ref 0), some (.int x1), some (.int x2)]) (st2 := [.int x1, .ref 3]) rfl ?_
    refine Ok_if (fun h3 => ?_) (fun h3 => ?_)
    · refine Ok_blk 1 (pc2 := 27) (lo2 := [some (.ref 0), some (.int x1), some (.int x2)]) (st2 := [.int 0, .int x1, .ref 3]) rfl ?_
      refine Ok_drop (lo0 := [none, none, none]) ⟨Or.inl rfl, Or.inl rfl, Or.inl rfl, trivial⟩ ?_
      exact t_C_pipe_p27 N d xs r c x1 0
    · refine Ok_blk 2 (pc2 := 27) (lo2 := [some (.ref 0), some (.int x1), some (.int x2)]) (st2 := [.int 1, .int x1, .ref 3]) rfl ?_
      refine Ok_drop (lo0 := [none, none, none]) ⟨Or.inl rfl, Or.inl rfl, Or.inl rfl, trivial⟩ ?_
      exact t_C_pipe_p27 N d xs r c x1 1
  · refine Ok_blk 1 (pc2 := 9) (lo2 := [some (.ref 0), some (.int x1), some (.int x2)]) (st2 := [.int (-101)]) rfl ?_
    exact Ok_ret rfl rfl rfl
set_option maxHeartbeats 8000000 in
set_option maxRecDepth 100000 in
theorem tm_C_pipe (N d : Nat) (xs : List Int32) (c r : St) (a1 : Int32) (a2 : Int32) (p : Int32 × St) (hp : C_pipe N c a1 a2 = some p) : mBig (mRoL xs) (d + 3) 112 [.ref 0, .int a1, .int a2] (HP c r) (some (.int p.1)) (HP p.2 r) 0 0 := mBig_of (by decide) rfl rfl rfl rfl (t_C_pipe N d xs r c a1 a2 p hp)
/-! ColdHoldsModel.pipe(IZ)I, from (('r', 115), 'i', 'i') -/
def R_pipe_p24 (N : Nat) (r : St) (x1 : Int32) (x2 : Int32) (s0 : Int32) : Option (Int32 × St) :=
  ((gz x2).bind fun z6 => sto (gA r 2) x1 z6).bind fun w5 => some (s0, sA r 2 w5)
def R_pipe (N : Nat) (r : St) (x1 : Int32) (x2 : Int32) : Option (Int32 × St) :=
  (R_isCell N x1).bind fun p1 => (if ¬ p1 = 0 then (ld (gA r 2) x1).bind fun y3 => (if y3 = 0 then R_pipe_p24 N r x1 x2 0 else R_pipe_p24 N r x1 x2 1) else some ((-101), r))
set_option maxHeartbeats 8000000 in
set_option maxRecDepth 100000 in
theorem t_R_pipe_p24 (N d : Nat) (xs : List Int32) (c : St) (r : St) (x1 : Int32) (x2 : Int32) (s0 : Int32) : Ok (mBig (mRoL xs) (d + 2)) (mRoL xs) 1 mK171 (fun p : Int32 × St => (some (.int p.1), HP c p.2)) (R_pipe_p24 N r x1 x2 s0) 24 [some (.ref 115), some (.int x1), some (.int x2), none] [.int s0] (HP c r) := by
  unfold R_pipe_p24
  refine Ok_blk 5 (pc2 := 31) (lo2 := [some (.ref 115), some (.int x1), some (.int x2), some (.int s0)]) (st2 := [.int x2, .int x1, .ref 118]) rfl ?_
  refine Ok_stz (l := (gA r 2)) (hn := fun l' => HP c (sA r 2 l')) rfl rfl (fun l' => sa_118 _ _ l') (fun w5 hw5 => ?_)
  refine Ok_blk 1 (pc2 := 33) (lo2 := [some (.ref 115), some (.int x1), some (.int x2), some (.int s0)]) (st2 := [.int s0]) rfl ?_
  exact Ok_ret rfl rfl rfl
set_option maxHeartbeats 8000000 in
set_option maxRecDepth 100000 in
theorem t_R_pipe (N d : Nat) (xs : List Int32) (c : St) (r : St) (x1 : Int32) (x2 : Int32) : Ok (mBig (mRoL xs) (d + 2)) (mRoL xs) 1 mK171 (fun p : Int32 × St => (some (.int p.1), HP c p.2)) (R_pipe N r x1 x2) 0 [some (.ref 115), some (.int x1), some (.int x2), none] [] (HP c r) := by
  unfold R_pipe
  refine Ok_blk 1 (pc2 := 1) (lo2 := [some (.ref 115), some (.int x1), some (.int x2), none]) (st2 := [.int x1]) rfl ?_
  refine Ok_call (y := 165) (as := [.int x1]) (rest := []) (w := fun p1 => some (.int p1)) (h1 := fun p1 => HP c r) rfl rfl (fun x hx => tm_R_isCell N d xs c r x1 x hx) (fun p1 hp1 => ?_)
  refine Ok_blk 1 (pc2 := (if ¬ p1 = 0 then 10 else 7)) (lo2 := [some (.ref 115), some (.int x1), some (.int x2), none]) (st2 := []) rfl ?_
  refine Ok_if (fun h2 => ?_) (fun h2 => ?_)
  · refine Ok_blk 3 (pc2 := 15) (lo2 := [some (.ref 115), some (.int x1), some (.int x2), none]) (st2 := [.int x1, .ref 118]) rfl ?_
    refine Ok_ldb (l := (gA r 2)) (t := 2) rfl rfl rfl (fun y3 hy3 => ?_)
    refine Ok_blk 1 (pc2 := (if y3 = 0 then 23 else 19)) (lo2 := [some (.ref 115), some (.int x1), some (.int x2), none]) (st2 := []) rfl ?_
    refine Ok_if (fun h4 => ?_) (fun h4 => ?_)
    · refine Ok_blk 1 (pc2 := 24) (lo2 := [some (.ref 115), some (.int x1), some (.int x2), none]) (st2 := [.int 0]) rfl ?_
      refine Ok_drop (lo0 := [some (.ref 115), some (.int x1), some (.int x2), none]) ⟨Or.inr rfl, Or.inr rfl, Or.inr rfl, Or.inl rfl, trivial⟩ ?_
      exact t_R_pipe_p24 N d xs c r x1 x2 0
    · refine Ok_blk 2 (pc2 := 24) (lo2 := [some (.ref 115), some (.int x1), some (.int x2), none]) (st2 := [.int 1]) rfl ?_
      refine Ok_drop (lo0 := [some (.ref 115), some (.int x1), some (.int x2), none]) ⟨Or.inr rfl, Or.inr rfl, Or.inr rfl, Or.inl rfl, trivial⟩ ?_
      exact t_R_pipe_p24 N d xs c r x1 x2 1
  · refine Ok_blk 1 (pc2 := 9) (lo2 := [some (.ref 115), some (.int x1), some (.int x2), none]) (st2 := [.int (-101)]) rfl ?_
    exact Ok_ret rfl rfl rfl
set_option maxHeartbeats 8000000 in
set_option maxRecDepth 100000 in
theorem tm_R_pipe (N d : Nat) (xs : List Int32) (c r : St) (a1 : Int32) (a2 : Int32) (p : Int32 × St) (hp : R_pipe N r a1 a2 = some p) : mBig (mRoL xs) (d + 3) 171 [.ref 115, .int a1, .int a2] (HP c r) (some (.int p.1)) (HP c p.2) 0 0 := mBig_of (by decide) rfl rfl rfl rfl (t_R_pipe N d xs c r a1 a2 p hp)
/-! ColdHolds.change([III)I, from (('r', 4), 'i', 'i') -/
def C_change_4 (N : Nat) (c : St) (x1 : Int32) (x2 : Int32) : Option (Int32 × St) :=
  (ld (gA c 2) x1).bind fun y1 => (sto (gA c 2) x1 x2).bind fun w2 => some (y1, sA c 2 w2)
set_option maxHeartbeats 8000000 in
set_option maxRecDepth 100000 in
theorem t_C_change_4 (N d : Nat) (xs : List Int32) (r : St) (c : St) (x1 : Int32) (x2 : Int32) : Ok (mBig (mRoL xs) (d)) (mRoL xs) 1 mK105 (fun p : Int32 × St => (some (.int p.1), HP p.2 r)) (C_change_4 N c x1 x2) 0 [some (.ref 4), some (.int x1), some (.int x2), none] [] (HP c r) := by
  unfold C_change_4
  refine Ok_blk 2 (pc2 := 2) (lo2 := [some (.ref 4), some (.int x1), some (.int x2), none]) (st2 := [.int x1, .ref 4]) rfl ?_
  refine Ok_ld (l := (gA c 2)) rfl rfl (fun y1 hy1 => ?_)
  refine Ok_blk 4 (pc2 := 7) (lo2 := [some (.ref 4), some (.int x1), some (.int x2), some (.int y1)]) (st2 := [.int x2, .int x1, .ref 4]) rfl ?_
  refine Ok_st (l := (gA c 2)) (hn := fun l' => HP (sA c 2 l') r) rfl rfl (fun l' => sa_4 _ _ l') (fun w2 hw2 => ?_)
  refine Ok_blk 1 (pc2 := 9) (lo2 := [some (.ref 4), some (.int x1), some (.int x2), some (.int y1)]) (st2 := [.int y1]) rfl ?_
  exact Ok_ret rfl rfl rfl
set_option maxHeartbeats 8000000 in
set_option maxRecDepth 100000 in
theorem tm_C_change_4 (N d : Nat) (xs : List Int32) (c r : St) (a1 : Int32) (a2 : Int32) (p : Int32 × St) (hp : C_change_4 N c a1 a2 = some p) : mBig (mRoL xs) (d + 1) 105 [.ref 4, .int a1, .int a2] (HP c r) (some (.int p.1)) (HP p.2 r) 0 0 := mBig_of (by decide) rfl rfl rfl rfl (t_C_change_4 N d xs r c a1 a2 p hp)
/-! ColdHolds.engine(II)I, from (('r', 0), 'i', 'i') -/
def C_engine (N : Nat) (c : St) (x1 : Int32) (x2 : Int32) : Option (Int32 × St) :=
  (C_within N x1 0 3).bind fun p1 => (if ¬ p1 = 0 then (ld [0, 0, 1, 0] x1).bind fun y3 => (ld [20, 60, 9, 9999] x1).bind fun y4 => (C_within N x2 y3 y4).bind fun p5 => (if ¬ p5 = 0 then (if ¬ x1 = 3 then (C_change_4 N c x1 x2).bind fun p8 => some (p8.1, p8.2) else some (gI c 3, sI c 3 x2)) else some ((-102), c)) else some ((-101), c))
set_option maxHeartbeats 8000000 in
set_option maxRecDepth 100000 in
theorem t_C_engine (N d : Nat) (xs : List Int32) (r : St) (c : St) (x1 : Int32) (x2 : Int32) : Ok (mBig (mRoL xs) (d + 1)) (mRoL xs) 1 mK113 (fun p : Int32 × St => (some (.int p.1), HP p.2 r)) (C_engine N c x1 x2) 0 [some (.ref 0), some (.int x1), some (.int x2), none] [] (HP c r) := by
  unfold C_engine
  refine Ok_blk 3 (pc2 := 3) (lo2 := [some (.ref 0), some (.int x1), some (.int x2), none]) (st2 := [.int 3, .int 0, .int x1]) rfl ?_
  refine Ok_call (y := 102) (as := [.int x1, .int 0, .int 3]) (rest := []) (w := fun p1 => some (.int p1)) (h1 := fun p1 => HP c r) rfl rfl (fun x hx => tm_C_within N d xs c r x1 0 3 x hx) (fun p1 hp1 => ?_)
  refine Ok_blk 1 (pc2 := (if ¬ p1 = 0 then 12 else 9)) (lo2 := [some (.ref 0), some (.int x1), some (.int x2), none]) (st2 := []) rfl ?_
  refine Ok_if (fun h2 => ?_) (fun h2 => ?_)
  · refine Ok_blk 3 (pc2 := 17) (lo2 := [some (.ref 0), some (.int x1), some (.int x2), none]) (st2 := [.int x1, .ref (mBase + 0), .int x2]) rfl ?_
    refine Ok_ld (l := [0, 0, 1, 0]) rfl rfl (fun y3 hy3 => ?_)
    refine Ok_blk 2 (pc2 := 22) (lo2 := [some (.ref 0), some (.int x1), some (.int x2), none]) (st2 := [.int x1, .ref (mBase + 1), .int y3, .int x2]) rfl ?_
    refine Ok_ld (l := [20, 60, 9, 9999]) rfl rfl (fun y4 hy4 => ?_)
    refine Ok_call (y := 102) (as := [.int x2, .int y3, .int y4]) (rest := []) (w := fun p5 => some (.int p5)) (h1 := fun p5 => HP c r) rfl rfl (fun x hx => tm_C_within N d xs c r x2 y3 y4 x hx) (fun p5 hp5 => ?_)
    refine Ok_blk 1 (pc2 := (if ¬ p5 = 0 then 32 else 29)) (lo2 := [some (.ref 0), some (.int x1), some (.int x2), none]) (st2 := []) rfl ?_
    refine Ok_if (fun h6 => ?_) (fun h6 => ?_)
    · refine Ok_blk 3 (pc2 := (if ¬ x1 = 3 then 55 else 37)) (lo2 := [some (.ref 0), some (.int x1), some (.int x2), none]) (st2 := []) rfl ?_
      refine Ok_if (fun h7 => ?_) (fun h7 => ?_)
      · refine Ok_blk 5 (pc2 := 64) (lo2 := [some (.ref 0), some (.int x1), some (.int x2), none]) (st2 := [.int x2, .int x1, .ref 4]) rfl ?_
        refine Ok_call (y := 105) (as := [.ref 4, .int x1, .int x2]) (rest := []) (w := fun p8 => some (.int p8.1)) (h1 := fun p8 => HP p8.2 r) rfl rfl (fun x hx => tm_C_change_4 N d xs c r x1 x2 x hx) (fun p8 hp8 => ?_)
        exact Ok_ret rfl rfl rfl
      · refine Ok_heap 8 (pc2 := 53) (lo2 := [some (.ref 0), some (.int x1), some (.int x2), some (.int (gI c 3))]) (st2 := []) (h2 := HP (sI c 3 x2) r) rfl (st_7_2 _ _ _) ?_
        refine Ok_blk 1 (pc2 := 54) (lo2 := [some (.ref 0), some (.int x1), some (.int x2), some (.int (gI c 3))]) (st2 := [.int (gI c 3)]) rfl ?_
        exact Ok_ret rfl rfl rfl
    · refine Ok_blk 1 (pc2 := 31) (lo2 := [some (.ref 0), some (.int x1), some (.int x2), none]) (st2 := [.int (-102)]) rfl ?_
      exact Ok_ret rfl rfl rfl
  · refine Ok_blk 1 (pc2 := 11) (lo2 := [some (.ref 0), some (.int x1), some (.int x2), none]) (st2 := [.int (-101)]) rfl ?_
    exact Ok_ret rfl rfl rfl
set_option maxHeartbeats 8000000 in
set_option maxRecDepth 100000 in
theorem tm_C_engine (N d : Nat) (xs : List Int32) (c r : St) (a1 : Int32) (a2 : Int32) (p : Int32 × St) (hp : C_engine N c a1 a2 = some p) : mBig (mRoL xs) (d + 2) 113 [.ref 0, .int a1, .int a2] (HP c r) (some (.int p.1)) (HP p.2 r) 0 0 := mBig_of (by decide) rfl rfl rfl rfl (t_C_engine N d xs r c a1 a2 p hp)
/-! ColdHoldsModel.engine(II)I, from (('r', 115), 'i', 'i') -/
def R_engine_p171 (N : Nat) (r : St) (x4 : Int32) (s1 : Int32) : Option (Int32 × St) :=
  some (x4, sI r 3 s1)
def R_engine_p154 (N : Nat) (r : St) (x1 : Int32) (x2 : Int32) (x4 : Int32) (s1 : Int32) : Option (Int32 × St) :=
  (if ¬ x1 = 3 then R_engine_p171 N (sI r 2 s1) x4 (gI (sI r 2 s1) 3) else R_engine_p171 N (sI r 2 s1) x4 x2)
def R_engine_p137 (N : Nat) (r : St) (x1 : Int32) (x2 : Int32) (x4 : Int32) (s1 : Int32) : Option (Int32 × St) :=
  (if ¬ x1 = 2 then R_engine_p154 N (sI r 1 s1) x1 x2 x4 (gI (sI r 1 s1) 2) else R_engine_p154 N (sI r 1 s1) x1 x2 x4 x2)
def R_engine_p120 (N : Nat) (r : St) (x1 : Int32) (x2 : Int32) (x4 : Int32) (s1 : Int32) : Option (Int32 × St) :=
  (if ¬ x1 = 1 then R_engine_p137 N (sI r 0 s1) x1 x2 x4 (gI (sI r 0 s1) 1) else R_engine_p137 N (sI r 0 s1) x1 x2 x4 x2)
def R_engine_p105 (N : Nat) (r : St) (x1 : Int32) (x2 : Int32) (s0 : Int32) : Option (Int32 × St) :=
  (if ¬ x1 = 0 then R_engine_p120 N r x1 x2 s0 (gI r 0) else R_engine_p120 N r x1 x2 s0 x2)
def R_engine_p56 (N : Nat) (r : St) (x1 : Int32) (x2 : Int32) (x3 : Int32) (s0 : Int32) (s1 : Int32) : Option (Int32 × St) :=
  (R_in N s0 s1 x3).bind fun p7 => (if ¬ p7 = 0 then (if ¬ x1 = 0 then (if ¬ x1 = 1 then (if ¬ x1 = 2 then R_engine_p105 N r x1 x2 (gI r 3) else R_engine_p105 N r x1 x2 (gI r 2)) else R_engine_p105 N r x1 x2 (gI r 1)) else R_engine_p105 N r x1 x2 (gI r 0)) else some ((-102), r))
def R_engine_p44 (N : Nat) (r : St) (x1 : Int32) (x2 : Int32) (s0 : Int32) : Option (Int32 × St) :=
  (if ¬ x1 = 2 then R_engine_p56 N r x1 x2 s0 x2 0 else R_engine_p56 N r x1 x2 s0 x2 1)
def R_engine (N : Nat) (r : St) (x1 : Int32) (x2 : Int32) : Option (Int32 × St) :=
  (R_in N x1 0 3).bind fun p1 => (if ¬ p1 = 0 then (if ¬ x1 = 0 then (if ¬ x1 = 1 then (if ¬ x1 = 2 then R_engine_p44 N r x1 x2 9999 else R_engine_p44 N r x1 x2 9) else R_engine_p44 N r x1 x2 60) else R_engine_p44 N r x1 x2 20) else some ((-101), r))
set_option maxHeartbeats 8000000 in
set_option maxRecDepth 100000 in
theorem t_R_engine_p171 (N d : Nat) (xs : List Int32) (c : St) (r : St) (x4 : Int32) (s1 : Int32) : Ok (mBig (mRoL xs) (d + 1)) (mRoL xs) 1 mK172 (fun p : Int32 × St => (some (.int p.1), HP c p.2)) (R_engine_p171 N r x4 s1) 171 [none, none, none, none, some (.int x4)] [.int s1, .ref 115] (HP c r) := by
  unfold R_engine_p171
  refine Ok_heap 1 (pc2 := 174) (lo2 := [none, none, none, none, some (.int x4)]) (st2 := []) (h2 := HP c (sI r 3 s1)) rfl (st_115_6 _ _ _) ?_
  refine Ok_blk 1 (pc2 := 176) (lo2 := [none, none, none, none, some (.int x4)]) (st2 := [.int x4]) rfl ?_
  exact Ok_ret rfl rfl rfl
set_option maxHeartbeats 8000000 in
set_option maxRecDepth 100000 in
theorem t_R_engine_p154 (N d : Nat) (xs : List Int32) (c : St) (r : St) (x1 : Int32) (x2 : Int32) (x4 : Int32) (s1 : Int32) : Ok (mBig (mRoL xs) (d + 1)) (mRoL xs) 1 mK172 (fun p : Int32 × St => (some (.int p.1), HP c p.2)) (R_engine_p154 N r x1 x2 x4 s1) 154 [some (.ref 115), some (.int x1), some (.int x2), none, some (.int x4)] [.int s1, .ref 115] (HP c r) := by
  unfold R_engine_p154
  refine Ok_heap 1 (pc2 := 157) (lo2 := [some (.ref 115), some (.int x1), some (.int x2), none, some (.int x4)]) (st2 := []) (h2 := HP c (sI r 2 s1)) rfl (st_115_5 _ _ _) ?_
  refine Ok_blk 4 (pc2 := (if ¬ x1 = 3 then 167 else 163)) (lo2 := [some (.ref 115), some (.int x1), some (.int x2), none, some (.int x4)]) (st2 := [.ref 115]) rfl ?_
  refine Ok_if (fun h15 => ?_) (fun h15 => ?_)
  · refine Ok_blk 2 (pc2 := 171) (lo2 := [some (.ref 115), some (.int x1), some (.int x2), none, some (.int x4)]) (st2 := [.int (gI (sI r 2 s1) 3), .ref 115]) rfl ?_
    refine Ok_drop (lo0 := [none, none, none, none, some (.int x4)]) ⟨Or.inl rfl, Or.inl rfl, Or.inl rfl, Or.inl rfl, Or.inr rfl, trivial⟩ ?_
    exact t_R_engine_p171 N d xs c (sI r 2 s1) x4 (gI (sI r 2 s1) 3)
  · refine Ok_blk 2 (pc2 := 171) (lo2 := [some (.ref 115), some (.int x1), some (.int x2), none, some (.int x4)]) (st2 := [.int x2, .ref 115]) rfl ?_
    refine Ok_drop (lo0 := [none, none, none, none, some (.int x4)]) ⟨Or.inl rfl, Or.inl rfl, Or.inl rfl, Or.inl rfl, Or.inr rfl, trivial⟩ ?_
    exact t_R_engine_p171 N d xs c (sI r 2 s1) x4 x2
set_option maxHeartbeats 8000000 in
set_option maxRecDepth 100000 in
theorem t_R_engine_p137 (N d : Nat) (xs : List Int32) (c : St) (r : St) (x1 : Int32) (x2 : Int32) (x4 : Int32) (s1 : Int32) : Ok (mBig (mRoL xs) (d + 1)) (mRoL xs) 1 mK172 (fun p : Int32 × St => (some (.int p.1), HP c p.2)) (R_engine_p137 N r x1 x2 x4 s1) 137 [some (.ref 115), some (.int x1), some (.int x2), none, some (.int x4)] [.int s1, .ref 115] (HP c r) := by
  unfold R_engine_p137
  refine Ok_heap 1 (pc2 := 140) (lo2 := [some (.ref 115), some (.int x1), some (.int x2), none, some (.int x4)]) (st2 := []) (h2 := HP c (sI r 1 s1)) rfl (st_115_4 _ _ _) ?_
  refine Ok_blk 4 (pc2 := (if ¬ x1 = 2 then 150 else 146)) (lo2 := [some (.ref 115), some (.int x1), some (.int x2), none, some (.int x4)]) (st2 := [.ref 115]) rfl ?_
  refine Ok_if (fun h14 => ?_) (fun h14 => ?_)
  · refine Ok_blk 2 (pc2 := 154) (lo2 := [some (.ref 115), some (.int x1), some (.int x2), none, some (.int x4)]) (st2 := [.int (gI (sI r 1 s1) 2), .ref 115]) rfl ?_
    refine Ok_drop (lo0 := [some (.ref 115), some (.int x1), some (.int x2), none, some (.int x4)]) ⟨Or.inr rfl, Or.inr rfl, Or.inr rfl, Or.inl rfl, Or.inr rfl, trivial⟩ ?_
    exact t_R_engine_p154 N d xs c (sI r 1 s1) x1 x2 x4 (gI (sI r 1 s1) 2)
  · refine Ok_blk 2 (pc2 := 154) (lo2 := [some (.ref 115), some (.int x1), some (.int x2), none, some (.int x4)]) (st2 := [.int x2, .ref 115]) rfl ?_
    refine Ok_drop (lo0 := [some (.ref 115), some (.int x1), some (.int x2), none, some (.int x4)]) ⟨Or.inr rfl, Or.inr rfl, Or.inr rfl, Or.inl rfl, Or.inr rfl, trivial⟩ ?_
    exact t_R_engine_p154 N d xs c (sI r 1 s1) x1 x2 x4 x2
set_option maxHeartbeats 8000000 in
set_option maxRecDepth 100000 in
theorem t_R_engine_p120 (N d : Nat) (xs : List Int32) (c : St) (r : St) (x1 : Int32) (x2 : Int32) (x4 : Int32) (s1 : Int32) : Ok (mBig (mRoL xs) (d + 1)) (mRoL xs) 1 mK172 (fun p : Int32 × St => (some (.int p.1), HP c p.2)) (R_engine_p120 N r x1 x2 x4 s1) 120 [some (.ref 115), some (.int x1), some (.int x2), none, some (.int x4)] [.int s1, .ref 115] (HP c r) := by
  unfold R_engine_p120
  refine Ok_heap 1 (pc2 := 123) (lo2 := [some (.ref 115), some (.int x1), some (.int x2), none, some (.int x4)]) (st2 := []) (h2 := HP c (sI r 0 s1)) rfl (st_115_3 _ _ _) ?_
  refine Ok_blk 4 (pc2 := (if ¬ x1 = 1 then 133 else 129)) (lo2 := [some (.ref 115), some (.int x1), some (.int x2), none, some (.int x4)]) (st2 := [.ref 115]) rfl ?_
  refine Ok_if (fun h13 => ?_) (fun h13 => ?_)
  · refine Ok_blk 2 (pc2 := 137) (lo2 := [some (.ref 115), some (.int x1), some (.int x2), none, some (.int x4)]) (st2 := [.int (gI (sI r 0 s1) 1), .ref 115]) rfl ?_
    refine Ok_drop (lo0 := [some (.ref 115), some (.int x1), some (.int x2), none, some (.int x4)]) ⟨Or.inr rfl, Or.inr rfl, Or.inr rfl, Or.inl rfl, Or.inr rfl, trivial⟩ ?_
    exact t_R_engine_p137 N d xs c (sI r 0 s1) x1 x2 x4 (gI (sI r 0 s1) 1)
  · refine Ok_blk 2 (pc2 := 137) (lo2 := [some (.ref 115), some (.int x1), some (.int x2), none, some (.int x4)]) (st2 := [.int x2, .ref 115]) rfl ?_
    refine Ok_drop (lo0 := [some (.ref 115), some (.int x1), some (.int x2), none, some (.int x4)]) ⟨Or.inr rfl, Or.inr rfl, Or.inr rfl, Or.inl rfl, Or.inr rfl, trivial⟩ ?_
    exact t_R_engine_p137 N d xs c (sI r 0 s1) x1 x2 x4 x2
set_option maxHeartbeats 8000000 in
set_option maxRecDepth 100000 in
theorem t_R_engine_p105 (N d : Nat) (xs : List Int32) (c : St) (r : St) (x1 : Int32) (x2 : Int32) (s0 : Int32) : Ok (mBig (mRoL xs) (d + 1)) (mRoL xs) 1 mK172 (fun p : Int32 × St => (some (.int p.1), HP c p.2)) (R_engine_p105 N r x1 x2 s0) 105 [some (.ref 115), some (.int x1), some (.int x2), none, none] [.int s0] (HP c r) := by
  unfold R_engine_p105
  refine Ok_blk 4 (pc2 := (if ¬ x1 = 0 then 116 else 112)) (lo2 := [some (.ref 115), some (.int x1), some (.int x2), none, some (.int s0)]) (st2 := [.ref 115]) rfl ?_
  refine Ok_if (fun h12 => ?_) (fun h12 => ?_)
  · refine Ok_blk 2 (pc2 := 120) (lo2 := [some (.ref 115), some (.int x1), some (.int x2), none, some (.int s0)]) (st2 := [.int (gI r 0), .ref 115]) rfl ?_
    refine Ok_drop (lo0 := [some (.ref 115), some (.int x1), some (.int x2), none, some (.int s0)]) ⟨Or.inr rfl, Or.inr rfl, Or.inr rfl, Or.inl rfl, Or.inr rfl, trivial⟩ ?_
    exact t_R_engine_p120 N d xs c r x1 x2 s0 (gI r 0)
  · refine Ok_blk 2 (pc2 := 120) (lo2 := [some (.ref 115), some (.int x1), some (.int x2), none, some (.int s0)]) (st2 := [.int x2, .ref 115]) rfl ?_
    refine Ok_drop (lo0 := [some (.ref 115), some (.int x1), some (.int x2), none, some (.int s0)]) ⟨Or.inr rfl, Or.inr rfl, Or.inr rfl, Or.inl rfl, Or.inr rfl, trivial⟩ ?_
    exact t_R_engine_p120 N d xs c r x1 x2 s0 x2
set_option maxHeartbeats 8000000 in
set_option maxRecDepth 100000 in
theorem t_R_engine_p56 (N d : Nat) (xs : List Int32) (c : St) (r : St) (x1 : Int32) (x2 : Int32) (x3 : Int32) (s0 : Int32) (s1 : Int32) : Ok (mBig (mRoL xs) (d + 1)) (mRoL xs) 1 mK172 (fun p : Int32 × St => (some (.int p.1), HP c p.2)) (R_engine_p56 N r x1 x2 x3 s0 s1) 56 [some (.ref 115), some (.int x1), some (.int x2), some (.int x3), none] [.int s1, .int s0] (HP c r) := by
  unfold R_engine_p56
  refine Ok_blk 1 (pc2 := 57) (lo2 := [some (.ref 115), some (.int x1), some (.int x2), some (.int x3), none]) (st2 := [.int x3, .int s1, .int s0]) rfl ?_
  refine Ok_call (y := 164) (as := [.int s0, .int s1, .int x3]) (rest := []) (w := fun p7 => some (.int p7)) (h1 := fun p7 => HP c r) rfl rfl (fun x hx => tm_R_in N d xs c r s0 s1 x3 x hx) (fun p7 hp7 => ?_)
  refine Ok_blk 1 (pc2 := (if ¬ p7 = 0 then 66 else 63)) (lo2 := [some (.ref 115), some (.int x1), some (.int x2), some (.int x3), none]) (st2 := []) rfl ?_
  refine Ok_if (fun h8 => ?_) (fun h8 => ?_)
  · refine Ok_blk 2 (pc2 := (if ¬ x1 = 0 then 77 else 70)) (lo2 := [some (.ref 115), some (.int x1), some (.int x2), some (.int x3), none]) (st2 := []) rfl ?_
    refine Ok_if (fun h9 => ?_) (fun h9 => ?_)
    · refine Ok_blk 3 (pc2 := (if ¬ x1 = 1 then 89 else 82)) (lo2 := [some (.ref 115), some (.int x1), some (.int x2), some (.int x3), none]) (st2 := []) rfl ?_
      refine Ok_if (fun h10 => ?_) (fun h10 => ?_)
      · refine Ok_blk 3 (pc2 := (if ¬ x1 = 2 then 101 else 94)) (lo2 := [some (.ref 115), some (.int x1), some (.int x2), some (.int x3), none]) (st2 := []) rfl ?_
        refine Ok_if (fun h11 => ?_) (fun h11 => ?_)
        · refine Ok_blk 2 (pc2 := 105) (lo2 := [some (.ref 115), some (.int x1), some (.int x2), some (.int x3), none]) (st2 := [.int (gI r 3)]) rfl ?_
          refine Ok_drop (lo0 := [some (.ref 115), some (.int x1), some (.int x2), none, none]) ⟨Or.inr rfl, Or.inr rfl, Or.inr rfl, Or.inl rfl, Or.inl rfl, trivial⟩ ?_
          exact t_R_engine_p105 N d xs c r x1 x2 (gI r 3)
        · refine Ok_blk 3 (pc2 := 105) (lo2 := [some (.ref 115), some (.int x1), some (.int x2), some (.int x3), none]) (st2 := [.int (gI r 2)]) rfl ?_
          refine Ok_drop (lo0 := [some (.ref 115), some (.int x1), some (.int x2), none, none]) ⟨Or.inr rfl, Or.inr rfl, Or.inr rfl, Or.inl rfl, Or.inl rfl, trivial⟩ ?_
          exact t_R_engine_p105 N d xs c r x1 x2 (gI r 2)
      · refine Ok_blk 3 (pc2 := 105) (lo2 := [some (.ref 115), some (.int x1), some (.int x2), some (.int x3), none]) (st2 := [.int (gI r 1)]) rfl ?_
        refine Ok_drop (lo0 := [some (.ref 115), some (.int x1), some (.int x2), none, none]) ⟨Or.inr rfl, Or.inr rfl, Or.inr rfl, Or.inl rfl, Or.inl rfl, trivial⟩ ?_
        exact t_R_engine_p105 N d xs c r x1 x2 (gI r 1)
    · refine Ok_blk 3 (pc2 := 105) (lo2 := [some (.ref 115), some (.int x1), some (.int x2), some (.int x3), none]) (st2 := [.int (gI r 0)]) rfl ?_
      refine Ok_drop (lo0 := [some (.ref 115), some (.int x1), some (.int x2), none, none]) ⟨Or.inr rfl, Or.inr rfl, Or.inr rfl, Or.inl rfl, Or.inl rfl, trivial⟩ ?_
      exact t_R_engine_p105 N d xs c r x1 x2 (gI r 0)
  · refine Ok_blk 1 (pc2 := 65) (lo2 := [some (.ref 115), some (.int x1), some (.int x2), some (.int x3), none]) (st2 := [.int (-102)]) rfl ?_
    exact Ok_ret rfl rfl rfl
set_option maxHeartbeats 8000000 in
set_option maxRecDepth 100000 in
theorem t_R_engine_p44 (N d : Nat) (xs : List Int32) (c : St) (r : St) (x1 : Int32) (x2 : Int32) (s0 : Int32) : Ok (mBig (mRoL xs) (d + 1)) (mRoL xs) 1 mK172 (fun p : Int32 × St => (some (.int p.1), HP c p.2)) (R_engine_p44 N r x1 x2 s0) 44 [some (.ref 115), some (.int x1), some (.int x2), none, none] [.int s0] (HP c r) := by
  unfold R_engine_p44
  refine Ok_blk 5 (pc2 := (if ¬ x1 = 2 then 55 else 51)) (lo2 := [some (.ref 115), some (.int x1), some (.int x2), some (.int s0), none]) (st2 := [.int x2]) rfl ?_
  refine Ok_if (fun h6 => ?_) (fun h6 => ?_)
  · refine Ok_blk 1 (pc2 := 56) (lo2 := [some (.ref 115), some (.int x1), some (.int x2), some (.int s0), none]) (st2 := [.int 0, .int x2]) rfl ?_
    refine Ok_drop (lo0 := [some (.ref 115), some (.int x1), some (.int x2), some (.int s0), none]) ⟨Or.inr rfl, Or.inr rfl, Or.inr rfl, Or.inr rfl, Or.inl rfl, trivial⟩ ?_
    exact t_R_engine_p56 N d xs c r x1 x2 s0 x2 0
  · refine Ok_blk 2 (pc2 := 56) (lo2 := [some (.ref 115), some (.int x1), some (.int x2), some (.int s0), none]) (st2 := [.int 1, .int x2]) rfl ?_
    refine Ok_drop (lo0 := [some (.ref 115), some (.int x1), some (.int x2), some (.int s0), none]) ⟨Or.inr rfl, Or.inr rfl, Or.inr rfl, Or.inr rfl, Or.inl rfl, trivial⟩ ?_
    exact t_R_engine_p56 N d xs c r x1 x2 s0 x2 1
set_option maxHeartbeats 8000000 in
set_option maxRecDepth 100000 in
theorem t_R_engine (N d : Nat) (xs : List Int32) (c : St) (r : St) (x1 : Int32) (x2 : Int32) : Ok (mBig (mRoL xs) (d + 1)) (mRoL xs) 1 mK172 (fun p : Int32 × St => (some (.int p.1), HP c p.2)) (R_engine N r x1 x2) 0 [some (.ref 115), some (.int x1), some (.int x2), none, none] [] (HP c r) := by
  unfold R_engine
  refine Ok_blk 3 (pc2 := 3) (lo2 := [some (.ref 115), some (.int x1), some (.int x2), none, none]) (st2 := [.int 3, .int 0, .int x1]) rfl ?_
  refine Ok_call (y := 164) (as := [.int x1, .int 0, .int 3]) (rest := []) (w := fun p1 => some (.int p1)) (h1 := fun p1 => HP c r) rfl rfl (fun x hx => tm_R_in N d xs c r x1 0 3 x hx) (fun p1 hp1 => ?_)
  refine Ok_blk 1 (pc2 := (if ¬ p1 = 0 then 12 else 9)) (lo2 := [some (.ref 115), some (.int x1), some (.int x2), none, none]) (st2 := []) rfl ?_
  refine Ok_if (fun h2 => ?_) (fun h2 => ?_)
  · refine Ok_blk 2 (pc2 := (if ¬ x1 = 0 then 21 else 16)) (lo2 := [some (.ref 115), some (.int x1), some (.int x2), none, none]) (st2 := []) rfl ?_
    refine Ok_if (fun h3 => ?_) (fun h3 => ?_)
    · refine Ok_blk 3 (pc2 := (if ¬ x1 = 1 then 31 else 26)) (lo2 := [some (.ref 115), some (.int x1), some (.int x2), none, none]) (st2 := []) rfl ?_
      refine Ok_if (fun h4 => ?_) (fun h4 => ?_)
      · refine Ok_blk 3 (pc2 := (if ¬ x1 = 2 then 41 else 36)) (lo2 := [some (.ref 115), some (.int x1), some (.int x2), none, none]) (st2 := []) rfl ?_
        refine Ok_if (fun h5 => ?_) (fun h5 => ?_)
        · refine Ok_blk 1 (pc2 := 44) (lo2 := [some (.ref 115), some (.int x1), some (.int x2), none, none]) (st2 := [.int 9999]) rfl ?_
          refine Ok_drop (lo0 := [some (.ref 115), some (.int x1), some (.int x2), none, none]) ⟨Or.inr rfl, Or.inr rfl, Or.inr rfl, Or.inl rfl, Or.inl rfl, trivial⟩ ?_
          exact t_R_engine_p44 N d xs c r x1 x2 9999
        · refine Ok_blk 2 (pc2 := 44) (lo2 := [some (.ref 115), some (.int x1), some (.int x2), none, none]) (st2 := [.int 9]) rfl ?_
          refine Ok_drop (lo0 := [some (.ref 115), some (.int x1), some (.int x2), none, none]) ⟨Or.inr rfl, Or.inr rfl, Or.inr rfl, Or.inl rfl, Or.inl rfl, trivial⟩ ?_
          exact t_R_engine_p44 N d xs c r x1 x2 9
      · refine Ok_blk 2 (pc2 := 44) (lo2 := [some (.ref 115), some (.int x1), some (.int x2), none, none]) (st2 := [.int 60]) rfl ?_
        refine Ok_drop (lo0 := [some (.ref 115), some (.int x1), some (.int x2), none, none]) ⟨Or.inr rfl, Or.inr rfl, Or.inr rfl, Or.inl rfl, Or.inl rfl, trivial⟩ ?_
        exact t_R_engine_p44 N d xs c r x1 x2 60
    · refine Ok_blk 2 (pc2 := 44) (lo2 := [some (.ref 115), some (.int x1), some (.int x2), none, none]) (st2 := [.int 20]) rfl ?_
      refine Ok_drop (lo0 := [some (.ref 115), some (.int x1), some (.int x2), none, none]) ⟨Or.inr rfl, Or.inr rfl, Or.inr rfl, Or.inl rfl, Or.inl rfl, trivial⟩ ?_
      exact t_R_engine_p44 N d xs c r x1 x2 20
  · refine Ok_blk 1 (pc2 := 11) (lo2 := [some (.ref 115), some (.int x1), some (.int x2), none, none]) (st2 := [.int (-101)]) rfl ?_
    exact Ok_ret rfl rfl rfl
set_option maxHeartbeats 8000000 in
set_option maxRecDepth 100000 in
theorem tm_R_engine (N d : Nat) (xs : List Int32) (c r : St) (a1 : Int32) (a2 : Int32) (p : Int32 × St) (hp : R_engine N r a1 a2 = some p) : mBig (mRoL xs) (d + 2) 172 [.ref 115, .int a1, .int a2] (HP c r) (some (.int p.1)) (HP c p.2) 0 0 := mBig_of (by decide) rfl rfl rfl rfl (t_R_engine N d xs c r a1 a2 p hp)
/-! ColdHolds.breaks(I)I, from (('r', 0), 'i') -/
def C_breaks_p42 (N : Nat) (c : St) (s1 : Int32) : Option (Int32 × St) :=
  some (1, sI c 2 s1)
def C_breaks_p19 (N : Nat) (c : St) (x1 : Int32) : Option (Int32 × St) :=
  (if ¬ x1 = (-1) then C_breaks_p42 N c ((gI c 1) + x1) else C_breaks_p42 N c 1000000)
def C_breaks (N : Nat) (c : St) (x1 : Int32) : Option (Int32 × St) :=
  (if x1 = (-1) then C_breaks_p19 N c x1 else (C_within N x1 0 1200).bind fun p3 => (if ¬ p3 = 0 then C_breaks_p19 N c x1 else some ((-102), c)))
set_option maxHeartbeats 8000000 in
set_option maxRecDepth 100000 in
theorem t_C_breaks_p42 (N d : Nat) (xs : List Int32) (r : St) (c : St) (s1 : Int32) : Ok (mBig (mRoL xs) (d + 1)) (mRoL xs) 1 mK114 (fun p : Int32 × St => (some (.int p.1), HP p.2 r)) (C_breaks_p42 N c s1) 42 [none, none] [.int s1, .ref 1] (HP c r) := by
  unfold C_breaks_p42
  refine Ok_heap 1 (pc2 := 45) (lo2 := [none, none]) (st2 := []) (h2 := HP (sI c 2 s1) r) rfl (st_1_5 _ _ _) ?_
  refine Ok_blk 1 (pc2 := 46) (lo2 := [none, none]) (st2 := [.int 1]) rfl ?_
  exact Ok_ret rfl rfl rfl
set_option maxHeartbeats 8000000 in
set_option maxRecDepth 100000 in
theorem t_C_breaks_p19 (N d : Nat) (xs : List Int32) (r : St) (c : St) (x1 : Int32) : Ok (mBig (mRoL xs) (d + 1)) (mRoL xs) 1 mK114 (fun p : Int32 × St => (some (.int p.1), HP p.2 r)) (C_breaks_p19 N c x1) 19 [some (.ref 0), some (.int x1)] [] (HP c r) := by
  unfold C_breaks_p19
  refine Ok_blk 5 (pc2 := (if ¬ x1 = (-1) then 33 else 28)) (lo2 := [some (.ref 0), some (.int x1)]) (st2 := [.ref 1]) rfl ?_
  refine Ok_if (fun h2 => ?_) (fun h2 => ?_)
  · refine Ok_blk 5 (pc2 := 42) (lo2 := [some (.ref 0), some (.int x1)]) (st2 := [.int ((gI c 1) + x1), .ref 1]) rfl ?_
    refine Ok_drop (lo0 := [none, none]) ⟨Or.inl rfl, Or.inl rfl, trivial⟩ ?_
    exact t_C_breaks_p42 N d xs r c ((gI c 1) + x1)
  · refine Ok_blk 2 (pc2 := 42) (lo2 := [some (.ref 0), some (.int x1)]) (st2 := [.int 1000000, .ref 1]) rfl ?_
    refine Ok_drop (lo0 := [none, none]) ⟨Or.inl rfl, Or.inl rfl, trivial⟩ ?_
    exact t_C_breaks_p42 N d xs r c 1000000
set_option maxHeartbeats 8000000 in
set_option maxRecDepth 100000 in
theorem t_C_breaks (N d : Nat) (xs : List Int32) (r : St) (c : St) (x1 : Int32) : Ok (mBig (mRoL xs) (d + 1)) (mRoL xs) 1 mK114 (fun p : Int32 × St => (some (.int p.1), HP p.2 r)) (C_breaks N c x1) 0 [some (.ref 0), some (.int x1)] [] (HP c r) := by
  unfold C_breaks
  refine Ok_blk 3 (pc2 := (if x1 = (-1) then 19 else 5)) (lo2 := [some (.ref 0), some (.int x1)]) (st2 := []) rfl ?_
  refine Ok_if (fun h1 => ?_) (fun h1 => ?_)
  · refine Ok_drop (lo0 := [some (.ref 0), some (.int x1)]) ⟨Or.inr rfl, Or.inr rfl, trivial⟩ ?_
    exact t_C_breaks_p19 N d xs r c x1
  · refine Ok_blk 3 (pc2 := 10) (lo2 := [some (.ref 0), some (.int x1)]) (st2 := [.int 1200, .int 0, .int x1]) rfl ?_
    refine Ok_call (y := 102) (as := [.int x1, .int 0, .int 1200]) (rest := []) (w := fun p3 => some (.int p3)) (h1 := fun p3 => HP c r) rfl rfl (fun x hx => tm_C_within N d xs c r x1 0 1200 x hx) (fun p3 hp3 => ?_)
    refine Ok_blk 1 (pc2 := (if ¬ p3 = 0 then 19 else 16)) (lo2 := [some (.ref 0), some (.int x1)]) (st2 := []) rfl ?_
    refine Ok_if (fun h4 => ?_) (fun h4 => ?_)
    · refine Ok_drop (lo0 := [some (.ref 0), some (.int x1)]) ⟨Or.inr rfl, Or.inr rfl, trivial⟩ ?_
      exact t_C_breaks_p19 N d xs r c x1
    · refine Ok_blk 1 (pc2 := 18) (lo2 := [some (.ref 0), some (.int x1)]) (st2 := [.int (-102)]) rfl ?_
      exact Ok_ret rfl rfl rfl
set_option maxHeartbeats 8000000 in
set_option maxRecDepth 100000 in
theorem tm_C_breaks (N d : Nat) (xs : List Int32) (c r : St) (a1 : Int32) (p : Int32 × St) (hp : C_breaks N c a1 = some p) : mBig (mRoL xs) (d + 2) 114 [.ref 0, .int a1] (HP c r) (some (.int p.1)) (HP p.2 r) 0 0 := mBig_of (by decide) rfl rfl rfl rfl (t_C_breaks N d xs r c a1 p hp)
/-! ColdHoldsModel.breaks(I)I, from (('r', 115), 'i') -/
def R_breaks_p12 (N : Nat) (r : St) : Option (Int32 × St) :=
  some ((-102), r)
def R_breaks_p32 (N : Nat) (r : St) (s1 : Int32) : Option (Int32 × St) :=
  some (1, sI r 5 s1)
def R_breaks (N : Nat) (r : St) (x1 : Int32) : Option (Int32 × St) :=
  (if x1 < (-1) then R_breaks_p12 N r else (if x1 ≤ 1200 then (if ¬ x1 = (-1) then R_breaks_p32 N r ((gI r 4) + x1) else R_breaks_p32 N r 1000000) else R_breaks_p12 N r))
set_option maxHeartbeats 8000000 in
set_option maxRecDepth 100000 in
theorem t_R_breaks_p12 (N d : Nat) (xs : List Int32) (c : St) (r : St) : Ok (mBig (mRoL xs) (d)) (mRoL xs) 1 mK173 (fun p : Int32 × St => (some (.int p.1), HP c p.2)) (R_breaks_p12 N r) 12 [none, none] [] (HP c r) := by
  unfold R_breaks_p12
  refine Ok_blk 1 (pc2 := 14) (lo2 := [none, none]) (st2 := [.int (-102)]) rfl ?_
  exact Ok_ret rfl rfl rfl
set_option maxHeartbeats 8000000 in
set_option maxRecDepth 100000 in
theorem t_R_breaks_p32 (N d : Nat) (xs : List Int32) (c : St) (r : St) (s1 : Int32) : Ok (mBig (mRoL xs) (d)) (mRoL xs) 1 mK173 (fun p : Int32 × St => (some (.int p.1), HP c p.2)) (R_breaks_p32 N r s1) 32 [none, none] [.int s1, .ref 115] (HP c r) := by
  unfold R_breaks_p32
  refine Ok_heap 1 (pc2 := 35) (lo2 := [none, none]) (st2 := []) (h2 := HP c (sI r 5 s1)) rfl (st_115_8 _ _ _) ?_
  refine Ok_blk 1 (pc2 := 36) (lo2 := [none, none]) (st2 := [.int 1]) rfl ?_
  exact Ok_ret rfl rfl rfl
set_option maxHeartbeats 8000000 in
set_option maxRecDepth 100000 in
theorem t_R_breaks (N d : Nat) (xs : List Int32) (c : St) (r : St) (x1 : Int32) : Ok (mBig (mRoL xs) (d)) (mRoL xs) 1 mK173 (fun p : Int32 × St => (some (.int p.1), HP c p.2)) (R_breaks N r x1) 0 [some (.ref 115), some (.int x1)] [] (HP c r) := by
  unfold R_breaks
  refine Ok_blk 3 (pc2 := (if x1 < (-1) then 12 else 5)) (lo2 := [some (.ref 115), some (.int x1)]) (st2 := []) rfl ?_
  refine Ok_if (fun h1 => ?_) (fun h1 => ?_)
  · refine Ok_drop (lo0 := [none, none]) ⟨Or.inl rfl, Or.inl rfl, trivial⟩ ?_
    exact t_R_breaks_p12 N d xs c r
  · refine Ok_blk 3 (pc2 := (if x1 ≤ 1200 then 15 else 12)) (lo2 := [some (.ref 115), some (.int x1)]) (st2 := []) rfl ?_
    refine Ok_if (fun h2 => ?_) (fun h2 => ?_)
    · refine Ok_blk 4 (pc2 := (if ¬ x1 = (-1) then 26 else 21)) (lo2 := [some (.ref 115), some (.int x1)]) (st2 := [.ref 115]) rfl ?_
      refine Ok_if (fun h3 => ?_) (fun h3 => ?_)
      · refine Ok_blk 4 (pc2 := 32) (lo2 := [some (.ref 115), some (.int x1)]) (st2 := [.int ((gI r 4) + x1), .ref 115]) rfl ?_
        refine Ok_drop (lo0 := [none, none]) ⟨Or.inl rfl, Or.inl rfl, trivial⟩ ?_
        exact t_R_breaks_p32 N d xs c r ((gI r 4) + x1)
      · refine Ok_blk 2 (pc2 := 32) (lo2 := [some (.ref 115), some (.int x1)]) (st2 := [.int 1000000, .ref 115]) rfl ?_
        refine Ok_drop (lo0 := [none, none]) ⟨Or.inl rfl, Or.inl rfl, trivial⟩ ?_
        exact t_R_breaks_p32 N d xs c r 1000000
    · refine Ok_drop (lo0 := [none, none]) ⟨Or.inl rfl, Or.inl rfl, trivial⟩ ?_
      exact t_R_breaks_p12 N d xs c r
set_option maxHeartbeats 8000000 in
set_option maxRecDepth 100000 in
theorem tm_R_breaks (N d : Nat) (xs : List Int32) (c r : St) (a1 : Int32) (p : Int32 × St) (hp : R_breaks N r a1 = some p) : mBig (mRoL xs) (d + 1) 173 [.ref 115, .int a1] (HP c r) (some (.int p.1)) (HP c p.2) 0 0 := mBig_of (by decide) rfl rfl rfl rfl (t_R_breaks N d xs c r a1 p hp)
/-! ColdHolds$Hold.seaOf(I)I, from (('r', 1), 'i') -/
def Hold_seaOf_p9b (N : Nat) (kb9 : Int32 → Int32 → Int32 → Int32 → Option (Int32)) (c : St) (x1 : Int32) (x2 : Int32) (x3 : Int32) (x4 : Int32) : Option (Int32) :=
  (if (gI c 0) ≤ x4 then some x2 else (ld (gA c 4) x4).bind fun y2 => (ld (gA c 3) x4).bind fun y3 => (if (x3 + y3) ≤ x1 then kb9 x1 y2 (x3 + y3) (x4 + 1) else some y2))
def Hold_seaOf_p9 (N : Nat) (c : St) : Nat → Int32 → Int32 → Int32 → Int32 → Option (Int32)
  | 0 => fun _ _ _ _ => none
  | n + 1 => Hold_seaOf_p9b N (Hold_seaOf_p9 N c n) c
def Hold_seaOf (N : Nat) (c : St) (x1 : Int32) : Option (Int32) :=
  Hold_seaOf_p9 N c N x1 150 0 0
set_option maxHeartbeats 8000000 in
set_option maxRecDepth 100000 in
theorem t_Hold_seaOf_p9b (N d : Nat) (xs : List Int32) (c : St) (r : St) (kb9 : Int32 → Int32 → Int32 → Int32 → Option (Int32)) (hb9 : ∀ (x1 : Int32) (x2 : Int32) (x3 : Int32) (x4 : Int32), Ok (mBig (mRoL xs) (d)) (mRoL xs) 1 mK31 (fun p : Int32 => (some (.int p), HP c r)) (kb9 x1 x2 x3 x4) 9 [some (.ref 1), some (.int x1), some (.int x2), some (.int x3), some (.int x4)] [] (HP c r)) (x1 : Int32) (x2 : Int32) (x3 : Int32) (x4 : Int32) : Ok (mBig (mRoL xs) (d)) (mRoL xs) 1 mK31 (fun p : Int32 => (some (.int p), HP c r)) (Hold_seaOf_p9b N kb9 c x1 x2 x3 x4) 9 [some (.ref 1), some (.int x1), some (.int x2), some (.int x3), some (.int x4)] [] (HP c r) := by
  unfold Hold_seaOf_p9b
  refine Ok_blk 4 (pc2 := (if (gI c 0) ≤ x4 then 49 else 18)) (lo2 := [some (.ref 1), some (.int x1), some (.int x2), some (.int x3), some (.int x4)]) (st2 := []) rfl ?_
  refine Ok_if (fun h1 => ?_) (fun h1 => ?_)
  · refine Ok_blk 1 (pc2 := 50) (lo2 := [some (.ref 1), some (.int x1), some (.int x2), some (.int x3), some (.int x4)]) (st2 := [.int x2]) rfl ?_
    exact Ok_ret rfl rfl rfl
  · refine Ok_blk 3 (pc2 := 24) (lo2 := [some (.ref 1), some (.int x1), some (.int x2), some (.int x3), some (.int x4)]) (st2 := [.int x4, .ref 6]) rfl ?_
    refine Ok_ld (l := (gA c 4)) rfl rfl (fun y2 hy2 => ?_)
    refine Ok_blk 5 (pc2 := 33) (lo2 := [some (.ref 1), some (.int x1), some (.int y2), some (.int x3), some (.int x4)]) (st2 := [.int x4, .ref 5, .int x3]) rfl ?_
    refine Ok_ld (l := (gA c 3)) rfl rfl (fun y3 hy3 => ?_)
    refine Ok_blk 5 (pc2 := (if (x3 + y3) ≤ x1 then 43 else 41)) (lo2 := [some (.ref 1), some (.int x1), some (.int y2), some (.int (x3 + y3)), some (.int x4)]) (st2 := []) rfl ?_
    refine Ok_if (fun h4 => ?_) (fun h4 => ?_)
    · refine Ok_blk 2 (pc2 := 9) (lo2 := [some (.ref 1), some (.int x1), some (.int y2), some (.int (x3 + y3)), some (.int (x4 + 1))]) (st2 := []) rfl ?_
      refine Ok_drop (lo0 := [some (.ref 1), some (.int x1), some (.int y2), some (.int (x3 + y3)), some (.int (x4 + 1))]) ⟨Or.inr rfl, Or.inr rfl, Or.inr rfl, Or.inr rfl, Or.inr rfl, trivial⟩ ?_
      exact hb9 x1 y2 (x3 + y3) (x4 + 1)
    · refine Ok_blk 1 (pc2 := 42) (lo2 := [some (.ref 1), some (.int x1), some (.int y2), some (.int (x3 + y3)), some (.int x4)]) (st2 := [.int y2]) rfl ?_
      exact Ok_ret rfl rfl rfl
set_option maxHeartbeats 8000000 in
set_option maxRecDepth 100000 in
theorem t_Hold_seaOf_p9 (N d : Nat) (xs : List Int32) (c : St) (r : St) : ∀ (n : Nat) (x1 : Int32) (x2 : Int32) (x3 : Int32) (x4 : Int32), Ok (mBig (mRoL xs) (d)) (mRoL xs) 1 mK31 (fun p : Int32 => (some (.int p), HP c r)) (Hold_seaOf_p9 N c n x1 x2 x3 x4) 9 [some (.ref 1), some (.int x1), some (.int x2), some (.int x3), some (.int x4)] [] (HP c r) := by
  intro n
  induction n with
  | zero => intro x1 x2 x3 x4; exact Ok_none
  | succ n ih => intro x1 x2 x3 x4; exact t_Hold_seaOf_p9b N d xs c r (Hold_seaOf_p9 N c n) ih x1 x2 x3 x4
set_option maxHeartbeats 8000000 in
set_option maxRecDepth 100000 in
theorem t_Hold_seaOf (N d : Nat) (xs : List Int32) (c : St) (r : St) (x1 : Int32) : Ok (mBig (mRoL xs) (d)) (mRoL xs) 1 mK31 (fun p : Int32 => (some (.int p), HP c r)) (Hold_seaOf N c x1) 0 [some (.ref 1), some (.int x1), none, none, none] [] (HP c r) := by
  unfold Hold_seaOf
  refine Ok_blk 6 (pc2 := 9) (lo2 := [some (.ref 1), some (.int x1), some (.int 150), some (.int 0), some (.int 0)]) (st2 := []) rfl ?_
  refine Ok_drop (lo0 := [some (.ref 1), some (.int x1), some (.int 150), some (.int 0), some (.int 0)]) ⟨Or.inr rfl, Or.inr rfl, Or.inr rfl, Or.inr rfl, Or.inr rfl, trivial⟩ ?_
  exact t_Hold_seaOf_p9 N d xs c r N x1 150 0 0
set_option maxHeartbeats 8000000 in
set_option maxRecDepth 100000 in
theorem tm_Hold_seaOf (N d : Nat) (xs : List Int32) (c r : St) (a1 : Int32) (p : Int32) (hp : Hold_seaOf N c a1 = some p) : mBig (mRoL xs) (d + 1) 31 [.ref 1, .int a1] (HP c r) (some (.int p)) (HP c r) 0 0 := mBig_of (by decide) rfl rfl rfl rfl (t_Hold_seaOf N d xs c r a1 p hp)
/-! ColdHolds.sea(I)I, from (('r', 0), 'i') -/
def C_sea (N : Nat) (c : St) (x1 : Int32) : Option (Int32) :=
  (C_within N x1 0 9999).bind fun p1 => (if p1 = 0 then some (-1002) else (Hold_seaOf N c x1).bind fun p3 => some p3)
set_option maxHeartbeats 8000000 in
set_option maxRecDepth 100000 in
theorem t_C_sea (N d : Nat) (xs : List Int32) (c : St) (r : St) (x1 : Int32) : Ok (mBig (mRoL xs) (d + 1)) (mRoL xs) 1 mK115 (fun p : Int32 => (some (.int p), HP c r)) (C_sea N c x1) 0 [some (.ref 0), some (.int x1)] [] (HP c r) := by
  unfold C_sea
  refine Ok_blk 3 (pc2 := 5) (lo2 := [some (.ref 0), some (.int x1)]) (st2 := [.int 9999, .int 0, .int x1]) rfl ?_
  refine Ok_call (y := 102) (as := [.int x1, .int 0, .int 9999]) (rest := []) (w := fun p1 => some (.int p1)) (h1 := fun p1 => HP c r) rfl rfl (fun x hx => tm_C_within N d xs c r x1 0 9999 x hx) (fun p1 hp1 => ?_)
  refine Ok_blk 1 (pc2 := (if p1 = 0 then 22 else 11)) (lo2 := [some (.ref 0), some (.int x1)]) (st2 := []) rfl ?_
  refine Ok_if (fun h2 => ?_) (fun h2 => ?_)
  · refine Ok_blk 1 (pc2 := 25) (lo2 := [some (.ref 0), some (.int x1)]) (st2 := [.int (-1002)]) rfl ?_
    exact Ok_ret rfl rfl rfl
  · refine Ok_blk 3 (pc2 := 16) (lo2 := [some (.ref 0), some (.int x1)]) (st2 := [.int x1, .ref 1]) rfl ?_
    refine Ok_call (y := 31) (as := [.ref 1, .int x1]) (rest := []) (w := fun p3 => some (.int p3)) (h1 := fun p3 => HP c r) rfl rfl (fun x hx => tm_Hold_seaOf N d xs c r x1 x hx) (fun p3 hp3 => ?_)
    refine Ok_blk 1 (pc2 := 25) (lo2 := [some (.ref 0), some (.int x1)]) (st2 := [.int p3]) rfl ?_
    exact Ok_ret rfl rfl rfl
set_option maxHeartbeats 8000000 in
set_option maxRecDepth 100000 in
theorem tm_C_sea (N d : Nat) (xs : List Int32) (c r : St) (a1 : Int32) (p : Int32) (hp : C_sea N c a1 = some p) : mBig (mRoL xs) (d + 2) 115 [.ref 0, .int a1] (HP c r) (some (.int p)) (HP c r) 0 0 := mBig_of (by decide) rfl rfl rfl rfl (t_C_sea N d xs c r a1 p hp)
/-! ColdHoldsModel.seaOf(I)I, from (('r', 115), 'i') -/
def R_seaOf_p31 (N : Nat) (kb9 : Int32 → Int32 → Int32 → Int32 → Option (Int32)) (r : St) (x1 : Int32) (x2 : Int32) (x3 : Int32) (x4 : Int32) : Option (Int32) :=
  (ld (gA r 3) x4).bind fun y3 => kb9 x1 (x2 + y3) x3 (x4 + 1)
def R_seaOf_p9b (N : Nat) (kb9 : Int32 → Int32 → Int32 → Int32 → Option (Int32)) (r : St) (x1 : Int32) (x2 : Int32) (x3 : Int32) (x4 : Int32) : Option (Int32) :=
  (if (gI r 6) ≤ x4 then some x3 else (if x1 < x2 then R_seaOf_p31 N kb9 r x1 x2 x3 x4 else (ld (gA r 4) x4).bind fun y4 => R_seaOf_p31 N kb9 r x1 x2 y4 x4))
def R_seaOf_p9 (N : Nat) (r : St) : Nat → Int32 → Int32 → Int32 → Int32 → Option (Int32)
  | 0 => fun _ _ _ _ => none
  | n + 1 => R_seaOf_p9b N (R_seaOf_p9 N r n) r
def R_seaOf (N : Nat) (r : St) (x1 : Int32) : Option (Int32) :=
  R_seaOf_p9 N r N x1 0 150 0
set_option maxHeartbeats 8000000 in
set_option maxRecDepth 100000 in
theorem t_R_seaOf_p31 (N d : Nat) (xs : List Int32) (c : St) (r : St) (kb9 : Int32 → Int32 → Int32 → Int32 → Option (Int32)) (hb9 : ∀ (x1 : Int32) (x2 : Int32) (x3 : Int32) (x4 : Int32), Ok (mBig (mRoL xs) (d)) (mRoL xs) 1 mK174 (fun p : Int32 => (some (.int p), HP c r)) (kb9 x1 x2 x3 x4) 9 [some (.ref 115), some (.int x1), some (.int x2), some (.int x3), some (.int x4)] [] (HP c r)) (x1 : Int32) (x2 : Int32) (x3 : Int32) (x4 : Int32) : Ok (mBig (mRoL xs) (d)) (mRoL xs) 1 mK174 (fun p : Int32 => (some (.int p), HP c r)) (R_seaOf_p31 N kb9 r x1 x2 x3 x4) 31 [some (.ref 115), some (.int x1), some (.int x2), some (.int x3), some (.int x4)] [] (HP c r) := by
  unfold R_seaOf_p31
  refine Ok_blk 4 (pc2 := 38) (lo2 := [some (.ref 115), some (.int x1), some (.int x2), some (.int x3), some (.int x4)]) (st2 := [.int x4, .ref 119, .int x2]) rfl ?_
  refine Ok_ld (l := (gA r 3)) rfl rfl (fun y3 hy3 => ?_)
  refine Ok_blk 4 (pc2 := 9) (lo2 := [some (.ref 115), some (.int x1), some (.int (x2 + y3)), some (.int x3), some (.int (x4 + 1))]) (st2 := []) rfl ?_
  refine Ok_drop (lo0 := [some (.ref 115), some (.int x1), some (.int (x2 + y3)), some (.int x3), some (.int (x4 + 1))]) ⟨Or.inr rfl, Or.inr rfl, Or.inr rfl, Or.inr rfl, Or.inr rfl, trivial⟩ ?_
  exact hb9 x1 (x2 + y3) x3 (x4 + 1)
set_option maxHeartbeats 8000000 in
set_option maxRecDepth 100000 in
theorem t_R_seaOf_p9b (N d : Nat) (xs : List Int32) (c : St) (r : St) (kb9 : Int32 → Int32 → Int32 → Int32 → Option (Int32)) (hb9 : ∀ (x1 : Int32) (x2 : Int32) (x3 : Int32) (x4 : Int32), Ok (mBig (mRoL xs) (d)) (mRoL xs) 1 mK174 (fun p : Int32 => (some (.int p), HP c r)) (kb9 x1 x2 x3 x4) 9 [some (.ref 115), some (.int x1), some (.int x2), some (.int x3), some (.int x4)] [] (HP c r)) (x1 : Int32) (x2 : Int32) (x3 : Int32) (x4 : Int32) : Ok (mBig (mRoL xs) (d)) (mRoL xs) 1 mK174 (fun p : Int32 => (some (.int p), HP c r)) (R_seaOf_p9b N kb9 r x1 x2 x3 x4) 9 [some (.ref 115), some (.int x1), some (.int x2), some (.int x3), some (.int x4)] [] (HP c r) := by
  unfold R_seaOf_p9b
  refine Ok_blk 4 (pc2 := (if (gI r 6) ≤ x4 then 47 else 18)) (lo2 := [some (.ref 115), some (.int x1), some (.int x2), some (.int x3), some (.int x4)]) (st2 := []) rfl ?_
  refine Ok_if (fun h1 => ?_) (fun h1 => ?_)
  · refine Ok_blk 1 (pc2 := 48) (lo2 := [some (.ref 115), some (.int x1), some (.int x2), some (.int x3), some (.int x4)]) (st2 := [.int x3]) rfl ?_
    exact Ok_ret rfl rfl rfl
  · refine Ok_blk 3 (pc2 := (if x1 < x2 then 31 else 23)) (lo2 := [some (.ref 115), some (.int x1), some (.int x2), some (.int x3), some (.int x4)]) (st2 := []) rfl ?_
    refine Ok_if (fun h2 => ?_) (fun h2 => ?_)
    · refine Ok_drop (lo0 := [some (.ref 115), some (.int x1), some (.int x2), some (.int x3), some (.int x4)]) ⟨Or.inr rfl, Or.inr rfl, Or.inr rfl, Or.inr rfl, Or.inr rfl, trivial⟩ ?_
      exact t_R_seaOf_p31 N d xs c r kb9 hb9 x1 x2 x3 x4
    · refine Ok_blk 3 (pc2 := 29) (lo2 := [some (.ref 115), some (.int x1), some (.int x2), some (.int x3), some (.int x4)]) (st2 := [.int x4, .ref 120]) rfl ?_
      refine Ok_ld (l := (gA r 4)) rfl rfl (fun y4 hy4 => ?_)
      refine Ok_blk 1 (pc2 := 31) (lo2 := [some (.ref 115), some (.int x1), some (.int x2), some (.int y4), some (.int x4)]) (st2 := []) rfl ?_
      refine Ok_drop (lo0 := [some (.ref 115), some (.int x1), some (.int x2), some (.int y4), some (.int x4)]) ⟨Or.inr rfl, Or.inr rfl, Or.inr rfl, Or.inr rfl, Or.inr rfl, trivial⟩ ?_
      exact t_R_seaOf_p31 N d xs c r kb9 hb9 x1 x2 y4 x4
set_option maxHeartbeats 8000000 in
set_option maxRecDepth 100000 in
theorem t_R_seaOf_p9 (N d : Nat) (xs : List Int32) (c : St) (r : St) : ∀ (n : Nat) (x1 : Int32) (x2 : Int32) (x3 : Int32) (x4 : Int32), Ok (mBig (mRoL xs) (d)) (mRoL xs) 1 mK174 (fun p : Int32 => (some (.int p), HP c r)) (R_seaOf_p9 N r n x1 x2 x3 x4) 9 [some (.ref 115), some (.int x1), some (.int x2), some (.int x3), some (.int x4)] [] (HP c r) := by
  intro n
  induction n with
  | zero => intro x1 x2 x3 x4; exact Ok_none
  | succ n ih => intro x1 x2 x3 x4; exact t_R_seaOf_p9b N d xs c r (R_seaOf_p9 N r n) ih x1 x2 x3 x4
set_option maxHeartbeats 8000000 in
set_option maxRecDepth 100000 in
theorem t_R_seaOf (N d : Nat) (xs : List Int32) (c : St) (r : St) (x1 : Int32) : Ok (mBig (mRoL xs) (d)) (mRoL xs) 1 mK174 (fun p : Int32 => (some (.int p), HP c r)) (R_seaOf N r x1) 0 [some (.ref 115), some (.int x1), none, none, none] [] (HP c r) := by
  unfold R_seaOf
  refine Ok_blk 6 (pc2 := 9) (lo2 := [some (.ref 115), some (.int x1), some (.int 0), some (.int 150), some (.int 0)]) (st2 := []) rfl ?_
  refine Ok_drop (lo0 := [some (.ref 115), some (.int x1), some (.int 0), some (.int 150), some (.int 0)]) ⟨Or.inr rfl, Or.inr rfl, Or.inr rfl, Or.inr rfl, Or.inr rfl, trivial⟩ ?_
  exact t_R_seaOf_p9 N d xs c r N x1 0 150 0
set_option maxHeartbeats 8000000 in
set_option maxRecDepth 100000 in
theorem tm_R_seaOf (N d : Nat) (xs : List Int32) (c r : St) (a1 : Int32) (p : Int32) (hp : R_seaOf N r a1 = some p) : mBig (mRoL xs) (d + 1) 174 [.ref 115, .int a1] (HP c r) (some (.int p)) (HP c r) 0 0 := mBig_of (by decide) rfl rfl rfl rfl (t_R_seaOf N d xs c r a1 p hp)
