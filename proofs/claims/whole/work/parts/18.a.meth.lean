/-! methods as partial functions of Lean, and that the small machine does them: by program (gen18) -/
/-! ColdHolds.within(III)Z, from ('i', 'i', 'i') -/
def C_within_p14 (N : Nat) : Option (Int32) :=
  some 0
def C_within (N : Nat) (x0 : Int32) (x1 : Int32) (x2 : Int32) : Option (Int32) :=
  (if x0 < x1 then C_within_p14 N else (if x2 < x0 then C_within_p14 N else some 1))
set_option maxHeartbeats 8000000 in
set_option maxRecDepth 100000 in
theorem t_C_within_p14 (N d : Nat) (xs : List Int32) (c : St) (r : St) : Ok (mBig (mRoL xs) (d)) (mRoL xs) 2 mK102 (fun p : Int32 => (some (.int p), HP c r)) (C_within_p14 N) 14 [none, none, none] [] (HP c r) := by
  unfold C_within_p14
  refine Ok_blk 1 (pc2 := 15) (lo2 := [none, none, none]) (st2 := [.int 0]) rfl ?_
  exact Ok_rez (Or.inl rfl) rfl rfl
set_option maxHeartbeats 8000000 in
set_option maxRecDepth 100000 in
theorem t_C_within (N d : Nat) (xs : List Int32) (c : St) (r : St) (x0 : Int32) (x1 : Int32) (x2 : Int32) : Ok (mBig (mRoL xs) (d)) (mRoL xs) 2 mK102 (fun p : Int32 => (some (.int p), HP c r)) (C_within N x0 x1 x2) 0 [some (.int x0), some (.int x1), some (.int x2)] [] (HP c r) := by
  unfold C_within
  refine Ok_blk 3 (pc2 := (if x0 < x1 then 14 else 5)) (lo2 := [some (.int x0), some (.int x1), some (.int x2)]) (st2 := []) rfl ?_
  refine Ok_if (fun h1 => ?_) (fun h1 => ?_)
  · refine Ok_drop (lo0 := [none, none, none]) ⟨Or.inl rfl, Or.inl rfl, Or.inl rfl, trivial⟩ ?_
    exact t_C_within_p14 N d xs c r
  · refine Ok_blk 3 (pc2 := (if x2 < x0 then 14 else 10)) (lo2 := [some (.int x0), some (.int x1), some (.int x2)]) (st2 := []) rfl ?_
    refine Ok_if (fun h2 => ?_) (fun h2 => ?_)
    · refine Ok_drop (lo0 := [none, none, none]) ⟨Or.inl rfl, Or.inl rfl, Or.inl rfl, trivial⟩ ?_
      exact t_C_within_p14 N d xs c r
    · refine Ok_blk 2 (pc2 := 15) (lo2 := [some (.int x0), some (.int x1), some (.int x2)]) (st2 := [.int 1]) rfl ?_
      exact Ok_rez (Or.inr rfl) rfl rfl
set_option maxHeartbeats 8000000 in
set_option maxRecDepth 100000 in
theorem tm_C_within (N d : Nat) (xs : List Int32) (c r : St) (a0 : Int32) (a1 : Int32) (a2 : Int32) (p : Int32) (hp : C_within N a0 a1 a2 = some p) : mBig (mRoL xs) (d + 1) 102 [.int a0, .int a1, .int a2] (HP c r) (some (.int p)) (HP c r) 0 0 := mBig_of (by decide) rfl rfl rfl rfl (t_C_within N d xs c r a0 a1 a2 p hp)
/-! ColdHolds$Hold.addLeg(II)I, from (('r', 1), 'i', 'i') -/
def Hold_addLeg (N : Nat) (c : St) (x1 : Int32) (x2 : Int32) : Option (Int32 × St) :=
  (if (gI c 0) < 6 then (sto (gA c 3) (gI c 0) x1).bind fun w2 => (sto (gA (sA c 3 w2) 4) (gI (sA c 3 w2) 0) x2).bind fun w3 => some (gI (sI (sA (sA c 3 w2) 4 w3) 0 ((gI (sA (sA c 3 w2) 4 w3) 0) + 1)) 0, sI (sA (sA c 3 w2) 4 w3) 0 ((gI (sA (sA c 3 w2) 4 w3) 0) + 1)) else some ((-104), c))
set_option maxHeartbeats 8000000 in
set_option maxRecDepth 100000 in
theorem t_Hold_addLeg (N d : Nat) (xs : List Int32) (r : St) (c : St) (x1 : Int32) (x2 : Int32) : Ok (mBig (mRoL xs) (d)) (mRoL xs) 1 mK29 (fun p : Int32 × St => (some (.int p.1), HP p.2 r)) (Hold_addLeg N c x1 x2) 0 [some (.ref 1), some (.int x1), some (.int x2)] [] (HP c r) := by
  unfold Hold_addLeg
  refine Ok_blk 4 (pc2 := (if (gI c 0) < 6 then 12 else 9)) (lo2 := [some (.ref 1), some (.int x1), some (.int x2)]) (st2 := []) rfl ?_
  refine Ok_if (fun h1 => ?_) (fun h1 => ?_)
  · refine Ok_blk 5 (pc2 := 21) (lo2 := [some (.ref 1), some (.int x1), some (.int x2)]) (st2 := [.int x1, .int (gI c 0), .ref 5]) rfl ?_
    refine Ok_st (l := (gA c 3)) (hn := fun l' => HP (sA c 3 l') r) rfl rfl (fun l' => sa_5 _ _ l') (fun w2 hw2 => ?_)
    refine Ok_blk 5 (pc2 := 31) (lo2 := [some (.ref 1), some (.int x1), some (.int x2)]) (st2 := [.int x2, .int (gI (sA c 3 w2) 0), .ref 6]) rfl ?_
    refine Ok_st (l := (gA (sA c 3 w2) 4)) (hn := fun l' => HP (sA (sA c 3 w2) 4 l') r) rfl rfl (fun l' => sa_6 _ _ l') (fun w3 hw3 => ?_)
    refine Ok_heap 6 (pc2 := 42) (lo2 := [some (.ref 1), some (.int x1), some (.int x2)]) (st2 := []) (h2 := HP (sI (sA (sA c 3 w2) 4 w3) 0 ((gI (sA (sA c 3 w2) 4 w3) 0) + 1)) r) rfl (st_1_3 _ _ _) ?_
    refine Ok_blk 2 (pc2 := 46) (lo2 := [some (.ref 1), some (.int x1), some (.int x2)]) (st2 := [.int (gI (sI (sA (sA c 3 w2) 4 w3) 0 ((gI (sA (sA c 3 w2) 4 w3) 0) + 1)) 0)]) rfl ?_
    exact Ok_ret rfl rfl rfl
  · refine Ok_blk 1 (pc2 := 11) (lo2 := [some (.ref 1), some (.int x1), some (.int x2)]) (st2 := [.int (-104)]) rfl ?_
    exact Ok_ret rfl rfl rfl
set_option maxHeartbeats 8000000 in
set_option maxRecDepth 100000 in
theorem tm_Hold_addLeg (N d : Nat) (xs : List Int32) (c r : St) (a1 : Int32) (a2 : Int32) (p : Int32 × St) (hp : Hold_addLeg N c a1 a2 = some p) : mBig (mRoL xs) (d + 1) 29 [.ref 1, .int a1, .int a2] (HP c r) (some (.int p.1)) (HP p.2 r) 0 0 := mBig_of (by decide) rfl rfl rfl rfl (t_Hold_addLeg N d xs r c a1 a2 p hp)
/-! ColdHolds.leg(II)I, from (('r', 0), 'i', 'i') -/
def C_leg_p23 (N : Nat) (c : St) : Option (Int32 × St) :=
  some ((-102), c)
def C_leg (N : Nat) (c : St) (x1 : Int32) (x2 : Int32) : Option (Int32 × St) :=
  (C_within N x1 1 200).bind fun p1 => (if p1 = 0 then C_leg_p23 N c else (C_within N x2 (-50) 400).bind fun p3 => (if ¬ p3 = 0 then (if (gI c 1) ≤ 0 then (Hold_addLeg N c x1 x2).bind fun p6 => some (p6.1, p6.2) else some ((-103), c)) else C_leg_p23 N c))
set_option maxHeartbeats 8000000 in
set_option maxRecDepth 100000 in
theorem t_C_leg_p23 (N d : Nat) (xs : List Int32) (r : St) (c : St) : Ok (mBig (mRoL xs) (d + 1)) (mRoL xs) 1 mK108 (fun p : Int32 × St => (some (.int p.1), HP p.2 r)) (C_leg_p23 N c) 23 [none, none, none] [] (HP c r) := by
  unfold C_leg_p23
  refine Ok_blk 1 (pc2 := 25) (lo2 := [none, none, none]) (st2 := [.int (-102)]) rfl ?_
  exact Ok_ret rfl rfl rfl
set_option maxHeartbeats 8000000 in
set_option maxRecDepth 100000 in
theorem t_C_leg (N d : Nat) (xs : List Int32) (r : St) (c : St) (x1 : Int32) (x2 : Int32) : Ok (mBig (mRoL xs) (d + 1)) (mRoL xs) 1 mK108 (fun p : Int32 × St => (some (.int p.1), HP p.2 r)) (C_leg N c x1 x2) 0 [some (.ref 0), some (.int x1), some (.int x2)] [] (HP c r) := by
  unfold C_leg
  refine Ok_blk 3 (pc2 := 5) (lo2 := [some (.ref 0), some (.int x1), some (.int x2)]) (st2 := [.int 200, .int 1, .int x1]) rfl ?_
  refine Ok_call (y := 102) (as := [.int x1, .int 1, .int 200]) (rest := []) (w := fun p1 => some (.int p1)) (h1 := fun p1 => HP c r) rfl rfl (fun x hx => tm_C_within N d xs c r x1 1 200 x hx) (fun p1 hp1 => ?_)
  refine Ok_blk 1 (pc2 := (if p1 = 0 then 23 else 11)) (lo2 := [some (.ref 0), some (.int x1), some (.int x2)]) (st2 := []) rfl ?_
  refine Ok_if (fun h2 => ?_) (fun h2 => ?_)
  · refine Ok_drop (lo0 := [none, none, none]) ⟨Or.inl rfl, Or.inl rfl, Or.inl rfl, trivial⟩ ?_
    exact t_C_leg_p23 N d xs r c
  · refine Ok_blk 3 (pc2 := 17) (lo2 := [some (.ref 0), some (.int x1), some (.int x2)]) (st2 := [.int 400, .int (-50), .int x2]) rfl ?_
    refine Ok_call (y := 102) (as := [.int x2, .int (-50), .int 400]) (rest := []) (w := fun p3 => some (.int p3)) (h1 := fun p3 => HP c r) rfl rfl (fun x hx => tm_C_within N d xs c r x2 (-50) 400 x hx) (fun p3 hp3 => ?_)
    refine Ok_blk 1 (pc2 := (if ¬ p3 = 0 then 26 else 23)) (lo2 := [some (.ref 0), some (.int x1), some (.int x2)]) (st2 := []) rfl ?_
    refine Ok_if (fun h4 => ?_) (fun h4 => ?_)
    · refine Ok_blk 4 (pc2 := (if (gI c 1) ≤ 0 then 39 else 36)) (lo2 := [some (.ref 0), some (.int x1), some (.int x2)]) (st2 := []) rfl ?_
      refine Ok_if (fun h5 => ?_) (fun h5 => ?_)
      · refine Ok_blk 4 (pc2 := 45) (lo2 := [some (.ref 0), some (.int x1), some (.int x2)]) (st2 := [.int x2, .int x1, .ref 1]) rfl ?_
        refine Ok_call (y := 29) (as := [.ref 1, .int x1, .int x2]) (rest := []) (w := fun p6 => some (.int p6.1)) (h1 := fun p6 => HP p6.2 r) rfl rfl (fun x hx => tm_Hold_addLeg N d xs c r x1 x2 x hx) (fun p6 hp6 => ?_)
        exact Ok_ret rfl rfl rfl
      · refine Ok_blk 1 (pc2 := 38) (lo2 := [some (.ref 0), some (.int x1), some (.int x2)]) (st2 := [.int (-103)]) rfl ?_
        exact Ok_ret rfl rfl rfl
    · refine Ok_drop (lo0 := [none, none, none]) ⟨Or.inl rfl, Or.inl rfl, Or.inl rfl, trivial⟩ ?_
      exact t_C_leg_p23 N d xs r c
set_option maxHeartbeats 8000000 in
set_option maxRecDepth 100000 in
theorem tm_C_leg (N d : Nat) (xs : List Int32) (c r : St) (a1 : Int32) (a2 : Int32) (p : Int32 × St) (hp : C_leg N c a1 a2 = some p) : mBig (mRoL xs) (d + 2) 108 [.ref 0, .int a1, .int a2] (HP c r) (some (.int p.1)) (HP p.2 r) 0 0 := mBig_of (by decide) rfl rfl rfl rfl (t_C_leg N d xs r c a1 a2 p hp)
/-! ColdHoldsModel.in(III)Z, from ('i', 'i', 'i') -/
def R_in_p14 (N : Nat) : Option (Int32) :=
  some 0
def R_in (N : Nat) (x0 : Int32) (x1 : Int32) (x2 : Int32) : Option (Int32) :=
  (if x0 < x1 then R_in_p14 N else (if x2 < x0 then R_in_p14 N else some 1))
set_option maxHeartbeats 8000000 in
set_option maxRecDepth 100000 in
theorem t_R_in_p14 (N d : Nat) (xs : List Int32) (c : St) (r : St) : Ok (mBig (mRoL xs) (d)) (mRoL xs) 2 mK164 (fun p : Int32 => (some (.int p), HP c r)) (R_in_p14 N) 14 [none, none, none] [] (HP c r) := by
  unfold R_in_p14
  refine Ok_blk 1 (pc2 := 15) (lo2 := [none, none, none]) (st2 := [.int 0]) rfl ?_
  exact Ok_rez (Or.inl rfl) rfl rfl
set_option maxHeartbeats 8000000 in
set_option maxRecDepth 100000 in
theorem t_R_in (N d : Nat) (xs : List Int32) (c : St) (r : St) (x0 : Int32) (x1 : Int32) (x2 : Int32) : Ok (mBig (mRoL xs) (d)) (mRoL xs) 2 mK164 (fun p : Int32 => (some (.int p), HP c r)) (R_in N x0 x1 x2) 0 [some (.int x0), some (.int x1), some (.int x2)] [] (HP c r) := by
  unfold R_in
  refine Ok_blk 3 (pc2 := (if x0 < x1 then 14 else 5)) (lo2 := [some (.int x0), some (.int x1), some (.int x2)]) (st2 := []) rfl ?_
  refine Ok_if (fun h1 => ?_) (fun h1 => ?_)
  · refine Ok_drop (lo0 := [none, none, none]) ⟨Or.inl rfl, Or.inl rfl, Or.inl rfl, trivial⟩ ?_
    exact t_R_in_p14 N d xs c r
  · refine Ok_blk 3 (pc2 := (if x2 < x0 then 14 else 10)) (lo2 := [some (.int x0), some (.int x1), some (.int x2)]) (st2 := []) rfl ?_
    refine Ok_if (fun h2 => ?_) (fun h2 => ?_)
    · refine Ok_drop (lo0 := [none, none, none]) ⟨Or.inl rfl, Or.inl rfl, Or.inl rfl, trivial⟩ ?_
      exact t_R_in_p14 N d xs c r
    · refine Ok_blk 2 (pc2 := 15) (lo2 := [some (.int x0), some (.int x1), some (.int x2)]) (st2 := [.int 1]) rfl ?_
      exact Ok_rez (Or.inr rfl) rfl rfl
set_option maxHeartbeats 8000000 in
set_option maxRecDepth 100000 in
theorem tm_R_in (N d : Nat) (xs : List Int32) (c r : St) (a0 : Int32) (a1 : Int32) (a2 : Int32) (p : Int32) (hp : R_in N a0 a1 a2 = some p) : mBig (mRoL xs) (d + 1) 164 [.int a0, .int a1, .int a2] (HP c r) (some (.int p)) (HP c r) 0 0 := mBig_of (by decide) rfl rfl rfl rfl (t_R_in N d xs c r a0 a1 a2 p hp)
/-! ColdHoldsModel.leg(II)I, from (('r', 115), 'i', 'i') -/
def R_leg_p23 (N : Nat) (r : St) : Option (Int32 × St) :=
  some ((-102), r)
def R_leg (N : Nat) (r : St) (x1 : Int32) (x2 : Int32) : Option (Int32 × St) :=
  (R_in N x1 1 200).bind fun p1 => (if p1 = 0 then R_leg_p23 N r else (R_in N x2 (-50) 400).bind fun p3 => (if ¬ p3 = 0 then (if (gI r 4) ≤ 0 then (if ¬ (gI r 6) = 6 then (sto (gA r 3) (gI r 6) x1).bind fun w7 => (sto (gA (sA r 3 w7) 4) (gI (sA r 3 w7) 6) x2).bind fun w8 => some (gI (sI (sA (sA r 3 w7) 4 w8) 6 ((gI (sA (sA r 3 w7) 4 w8) 6) + 1)) 6, sI (sA (sA r 3 w7) 4 w8) 6 ((gI (sA (sA r 3 w7) 4 w8) 6) + 1)) else some ((-104), r)) else some ((-103), r)) else R_leg_p23 N r))
set_option maxHeartbeats 8000000 in
set_option maxRecDepth 100000 in
theorem t_R_leg_p23 (N d : Nat) (xs : List Int32) (c : St) (r : St) : Ok (mBig (mRoL xs) (d + 1)) (mRoL xs) 1 mK167 (fun p : Int32 × St => (some (.int p.1), HP c p.2)) (R_leg_p23 N r) 23 [none, none, none] [] (HP c r) := by
  unfold R_leg_p23
  refine Ok_blk 1 (pc2 := 25) (lo2 := [none, none, none]) (st2 := [.int (-102)]) rfl ?_
  exact Ok_ret rfl rfl rfl
set_option maxHeartbeats 8000000 in
set_option maxRecDepth 100000 in
theorem t_R_leg (N d : Nat) (xs : List Int32) (c : St) (r : St) (x1 : Int32) (x2 : Int32) : Ok (mBig (mRoL xs) (d + 1)) (mRoL xs) 1 mK167 (fun p : Int32 × St => (some (.int p.1), HP c p.2)) (R_leg N r x1 x2) 0 [some (.ref 115), some (.int x1), some (.int x2)] [] (HP c r) := by
  unfold R_leg
  refine Ok_blk 3 (pc2 := 5) (lo2 := [some (.ref 115), some (.int x1), some (.int x2)]) (st2 := [.int 200, .int 1, .int x1]) rfl ?_
  refine Ok_call (y := 164) (as := [.int x1, .int 1, .int 200]) (rest := []) (w := fun p1 => some (.int p1)) (h1 := fun p1 => HP c r) rfl rfl (fun x hx => tm_R_in N d xs c r x1 1 200 x hx) (fun p1 hp1 => ?_)
  refine Ok_blk 1 (pc2 := (if p1 = 0 then 23 else 11)) (lo2 := [some (.ref 115), some (.int x1), some (.int x2)]) (st2 := []) rfl ?_
  refine Ok_if (fun h2 => ?_) (fun h2 => ?_)
  · refine Ok_drop (lo0 := [none, none, none]) ⟨Or.inl rfl, Or.inl rfl, Or.inl rfl, trivial⟩ ?_
    exact t_R_leg_p23 N d xs c r
  · refine Ok_blk 3 (pc2 := 17) (lo2 := [some (.ref 115), some (.int x1), some (.int x2)]) (st2 := [.int 400, .int (-50), .int x2]) rfl ?_
    refine Ok_call (y := 164) (as := [.int x2, .int (-50), .int 400]) (rest := []) (w := fun p3 => some (.int p3)) (h1 := fun p3 => HP c r) rfl rfl (fun x hx => tm_R_in N d xs c r x2 (-50) 400 x hx) (fun p3 hp3 => ?_)
    refine Ok_blk 1 (pc2 := (if ¬ p3 = 0 then 26 else 23)) (lo2 := [some (.ref 115), some (.int x1), some (.int x2)]) (st2 := []) rfl ?_
    refine Ok_if (fun h4 => ?_) (fun h4 => ?_)
    · refine Ok_blk 3 (pc2 := (if (gI r 4) ≤ 0 then 36 else 33)) (lo2 := [some (.ref 115), some (.int x1), some (.int x2)]) (st2 := []) rfl ?_
      refine Ok_if (fun h5 => ?_) (fun h5 => ?_)
      · refine Ok_blk 4 (pc2 := (if ¬ (gI r 6) = 6 then 48 else 45)) (lo2 := [some (.ref 115), some (.int x1), some (.int x2)]) (st2 := []) rfl ?_
        refine Ok_if (fun h6 => ?_) (fun h6 => ?_)
        · refine Ok_blk 5 (pc2 := 57) (lo2 := [some (.ref 115), some (.int x1), some (.int x2)]) (st2 := [.int x1, .int (gI r 6), .ref 119]) rfl ?_
          refine Ok_st (l := (gA r 3)) (hn := fun l' => HP c (sA r 3 l')) rfl rfl (fun l' => sa_119 _ _ l') (fun w7 hw7 => ?_)
          refine Ok_blk 5 (pc2 := 67) (lo2 := [some (.ref 115), some (.int x1), some (.int x2)]) (st2 := [.int x2, .int (gI (sA r 3 w7) 6), .ref 120]) rfl ?_
          refine Ok_st (l := (gA (sA r 3 w7) 4)) (hn := fun l' => HP c (sA (sA r 3 w7) 4 l')) rfl rfl (fun l' => sa_120 _ _ l') (fun w8 hw8 => ?_)
          refine Ok_heap 6 (pc2 := 78) (lo2 := [some (.ref 115), some (.int x1), some (.int x2)]) (st2 := []) (h2 := HP c (sI (sA (sA r 3 w7) 4 w8) 6 ((gI (sA (sA r 3 w7) 4 w8) 6) + 1))) rfl (st_115_9 _ _ _) ?_
          refine Ok_blk 2 (pc2 := 82) (lo2 := [some (.ref 115), some (.int x1), some (.int x2)]) (st2 := [.int (gI (sI (sA (sA r 3 w7) 4 w8) 6 ((gI (sA (sA r 3 w7) 4 w8) 6) + 1)) 6)]) rfl ?_
          exact Ok_ret rfl rfl rfl
        · refine Ok_blk 1 (pc2 := 47) (lo2 := [some (.ref 115), some (.int x1), some (.int x2)]) (st2 := [.int (-104)]) rfl ?_
          exact Ok_ret rfl rfl rfl
      · refine Ok_blk 1 (pc2 := 35) (lo2 := [some (.ref 115), some (.int x1), some (.int x2)]) (st2 := [.int (-103)]) rfl ?_
        exact Ok_ret rfl rfl rfl
    · refine Ok_drop (lo0 := [none, none, none]) ⟨Or.inl rfl, Or.inl rfl, Or.inl rfl, trivial⟩ ?_
      exact t_R_leg_p23 N d xs c r
set_option maxHeartbeats 8000000 in
set_option maxRecDepth 100000 in
theorem tm_R_leg (N d : Nat) (xs : List Int32) (c r : St) (a1 : Int32) (a2 : Int32) (p : Int32 × St) (hp : R_leg N r a1 a2 = some p) : mBig (mRoL xs) (d + 2) 167 [.ref 115, .int a1, .int a2] (HP c r) (some (.int p.1)) (HP c p.2) 0 0 := mBig_of (by decide) rfl rfl rfl rfl (t_R_leg N d xs c r a1 a2 p hp)
/-! ColdHolds.isCell(I)Z, from ('i',) -/
def C_isCell (N : Nat) (x0 : Int32) : Option (Int32) :=
  (C_within N x0 0 11).bind fun p1 => some p1
set_option maxHeartbeats 8000000 in
set_option maxRecDepth 100000 in
theorem t_C_isCell (N d : Nat) (xs : List Int32) (c : St) (r : St) (x0 : Int32) : Ok (mBig (mRoL xs) (d + 1)) (mRoL xs) 2 mK103 (fun p : Int32 => (some (.int p), HP c r)) (C_isCell N x0) 0 [some (.int x0)] [] (HP c r) := by
  unfold C_isCell
  refine Ok_blk 3 (pc2 := 4) (lo2 := [some (.int x0)]) (st2 := [.int 11, .int 0, .int x0]) rfl ?_
  refine Ok_call (y := 102) (as := [.int x0, .int 0, .int 11]) (rest := []) (w := fun p1 => some (.int p1)) (h1 := fun p1 => HP c r) rfl rfl (fun x hx => tm_C_within N d xs c r x0 0 11 x hx) (fun p1 hp1 => ?_)
  exact Ok_rez (mBig_z (tm_C_within N d xs c r x0 0 11 p1 hp1) rfl) rfl rfl
set_option maxHeartbeats 8000000 in
set_option maxRecDepth 100000 in
theorem tm_C_isCell (N d : Nat) (xs : List Int32) (c r : St) (a0 : Int32) (p : Int32) (hp : C_isCell N a0 = some p) : mBig (mRoL xs) (d + 2) 103 [.int a0] (HP c r) (some (.int p)) (HP c r) 0 0 := mBig_of (by decide) rfl rfl rfl rfl (t_C_isCell N d xs c r a0 p hp)
/-! ColdHolds.isWarmth(I)Z, from ('i',) -/
def C_isWarmth (N : Nat) (x0 : Int32) : Option (Int32) :=
  (C_within N x0 (-300) 600).bind fun p1 => some p1
set_option maxHeartbeats 8000000 in
set_option maxRecDepth 100000 in
theorem t_C_isWarmth (N d : Nat) (xs : List Int32) (c : St) (r : St) (x0 : Int32) : Ok (mBig (mRoL xs) (d + 1)) (mRoL xs) 2 mK104 (fun p : Int32 => (some (.int p), HP c r)) (C_isWarmth N x0) 0 [some (.int x0)] [] (HP c r) := by
  unfold C_isWarmth
  refine Ok_blk 3 (pc2 := 7) (lo2 := [some (.int x0)]) (st2 := [.int 600, .int (-300), .int x0]) rfl ?_
  refine Ok_call (y := 102) (as := [.int x0, .int (-300), .int 600]) (rest := []) (w := fun p1 => some (.int p1)) (h1 := fun p1 => HP c r) rfl rfl (fun x hx => tm_C_within N d xs c r x0 (-300) 600 x hx) (fun p1 hp1 => ?_)
  exact Ok_rez (mBig_z (tm_C_within N d xs c r x0 (-300) 600 p1 hp1) rfl) rfl rfl
set_option maxHeartbeats 8000000 in
set_option maxRecDepth 100000 in
theorem tm_C_isWarmth (N d : Nat) (xs : List Int32) (c r : St) (a0 : Int32) (p : Int32) (hp : C_isWarmth N a0 = some p) : mBig (mRoL xs) (d + 2) 104 [.int a0] (HP c r) (some (.int p)) (HP c r) 0 0 := mBig_of (by decide) rfl rfl rfl rfl (t_C_isWarmth N d xs c r a0 p hp)
/-! ColdHolds.change([III)I, from (('r', 8), 'i', 'i') -/
def C_change (N : Nat) (c : St) (x1 : Int32) (x2 : Int32) : Option (Int32 × St) :=
  (ld (gA c 5) x1).bind fun y1 => (sto (gA c 5) x1 x2).bind fun w2 => some (y1, sA c 5 w2)
set_option maxHeartbeats 8000000 in
set_option maxRecDepth 100000 in
theorem t_C_change (N d : Nat) (xs : List Int32) (r : St) (c : St) (x1 : Int32) (x2 : Int32) : Ok (mBig (mRoL xs) (d)) (mRoL xs) 1 mK105 (fun p : Int32 × St => (some (.int p.1), HP p.2 r)) (C_change N c x1 x2) 0 [some (.ref 8), some (.int x1), some (.int x2), none] [] (HP c r) := by
  unfold C_change
  refine Ok_blk 2 (pc2 := 2) (lo2 := [some (.ref 8), some (.int x1), some (.int x2), none]) (st2 := [.int x1, .ref 8]) rfl ?_
  refine Ok_ld (l := (gA c 5)) rfl rfl (fun y1 hy1 => ?_)
  refine Ok_blk 4 (pc2 := 7) (lo2 := [some (.ref 8), some (.int x1), some (.int x2), some (.int y1)]) (st2 := [.int x2, .int x1, .ref 8]) rfl ?_
  refine Ok_st (l := (gA c 5)) (hn := fun l' => HP (sA c 5 l') r) rfl rfl (fun l' => sa_8 _ _ l') (fun w2 hw2 => ?_)
  refine Ok_blk 1 (pc2 := 9) (lo2 := [some (.ref 8), some (.int x1), some (.int x2), some (.int y1)]) (st2 := [.int y1]) rfl ?_
  exact Ok_ret rfl rfl rfl
set_option maxHeartbeats 8000000 in
set_option maxRecDepth 100000 in
theorem tm_C_change (N d : Nat) (xs : List Int32) (c r : St) (a1 : Int32) (a2 : Int32) (p : Int32 × St) (hp : C_change N c a1 a2 = some p) : mBig (mRoL xs) (d + 1) 105 [.ref 8, .int a1, .int a2] (HP c r) (some (.int p.1)) (HP p.2 r) 0 0 := mBig_of (by decide) rfl rfl rfl rfl (t_C_change N d xs r c a1 a2 p hp)
/-! ColdHolds.warm(II)I, from (('r', 0), 'i', 'i') -/
def C_warm (N : Nat) (c : St) (x1 : Int32) (x2 : Int32) : Option (Int32 × St) :=
  (C_isCell N x1).bind fun p1 => (if ¬ p1 = 0 then (C_isWarmth N x2).bind fun p3 => (if ¬ p3 = 0 then (C_change N c x1 x2).bind fun p5 => some (p5.1, p5.2) else some ((-1002), c)) else some ((-1001), c))
set_option maxHeartbeats 8000000 in
set_option maxRecDepth 100000 in
theorem t_C_warm (N d : Nat) (xs : List Int32) (r : St) (c : St) (x1 : Int32) (x2 : Int32) : Ok (mBig (mRoL xs) (d + 2)) (mRoL xs) 1 mK109 (fun p : Int32 × St => (some (.int p.1), HP p.2 r)) (C_warm N c x1 x2) 0 [some (.ref 0), some (.int x1), some (.int x2)] [] (HP c r) := by
  unfold C_warm
  refine Ok_blk 1 (pc2 := 1) (lo2 := [some (.ref 0), some (.int x1), some (.int x2)]) (st2 := [.int x1]) rfl ?_
  refine Ok_call (y := 103) (as := [.int x1]) (rest := []) (w := fun p1 => some (.int p1)) (h1 := fun p1 => HP c r) rfl rfl (fun x hx => tm_C_isCell N d xs c r x1 x hx) (fun p1 hp1 => ?_)
  refine Ok_blk 1 (pc2 := (if ¬ p1 = 0 then 11 else 7)) (lo2 := [some (.ref 0), some (.int x1), some (.int x2)]) (st2 := []) rfl ?_
  refine Ok_if (fun h2 => ?_) (fun h2 => ?_)
  · refine Ok_blk 1 (pc2 := 12) (lo2 := [some (.ref 0), some (.int x1), some (.int x2)]) (st2 := [.int x2]) rfl ?_
    refine Ok_call (y := 104) (as := [.int x2]) (rest := []) (w := fun p3 => some (.int p3)) (h1 := fun p3 => HP c r) rfl rfl (fun x hx => tm_C_isWarmth N d xs c r x2 x hx) (fun p3 hp3 => ?_)
    refine Ok_blk 1 (pc2 := (if ¬ p3 = 0 then 22 else 18)) (lo2 := [some (.ref 0), some (.int x1), some (.int x2)]) (st2 := []) rfl ?_
    refine Ok_if (fun h4 => ?_) (fun h4 => ?_)
    · refine Ok_blk 5 (pc2 := 31) (lo2 := [some (.ref 0), some (.int x1), some (.int x2)]) (st2 := [.int x2, .int x1, .ref 8]) rfl ?_
      refine Ok_call (y := 105) (as := [.ref 8, .int x1, .int x2]) (rest := []) (w := fun p5 => some (.int p5.1)) (h1 := fun p5 => HP p5.2 r) rfl rfl (fun x hx => tm_C_change N (d + 1) xs c r x1 x2 x hx) (fun p5 hp5 => ?_)
      exact Ok_ret rfl rfl rfl
    · refine Ok_blk 1 (pc2 := 21) (lo2 := [some (.ref 0), some (.int x1), some (.int x2)]) (st2 := [.int (-1002)]) rfl ?_
      exact Ok_ret rfl rfl rfl
  · refine Ok_blk 1 (pc2 := 10) (lo2 := [some (.ref 0), some (.int x1), some (.int x2)]) (st2 := [.int (-1001)]) rfl ?_
    exact Ok_ret rfl rfl rfl
set_option maxHeartbeats 8000000 in
set_option maxRecDepth 100000 in
theorem tm_C_warm (N d : Nat) (xs : List Int32) (c r : St) (a1 : Int32) (a2 : Int32) (p : Int32 × St) (hp : C_warm N c a1 a2 = some p) : mBig (mRoL xs) (d + 3) 109 [.ref 0, .int a1, .int a2] (HP c r) (some (.int p.1)) (HP p.2 r) 0 0 := mBig_of (by decide) rfl rfl rfl rfl (t_C_warm N d xs r c a1 a2 p hp)
/-! ColdHoldsModel.isCell(I)Z, from ('i',) -/
def R_isCell (N : Nat) (x0 : Int32) : Option (Int32) :=
  (R_in N x0 0 11).bind fun p1 => some p1
set_option maxHeartbeats 8000000 in
set_option maxRecDepth 100000 in
theorem t_R_isCell (N d : Nat) (xs : List Int32) (c : St) (r : St) (x0 : Int32) : Ok (mBig (mRoL xs) (d + 1)) (mRoL xs) 2 mK165 (fun p : Int32 => (some (.int p), HP c r)) (R_isCell N x0) 0 [some (.int x0)] [] (HP c r) := by
  unfold R_isCell
  refine Ok_blk 3 (pc2 := 4) (lo2 := [some (.int x0)]) (st2 := [.int 11, .int 0, .int x0]) rfl ?_
  refine Ok_call (y := 164) (as := [.int x0, .int 0, .int 11]) (rest := []) (w := fun p1 => some (.int p1)) (h1 := fun p1 => HP c r) rfl rfl (fun x hx => tm_R_in N d xs c r x0 0 11 x hx) (fun p1 hp1 => ?_)
  exact Ok_rez (mBig_z (tm_R_in N d xs c r x0 0 11 p1 hp1) rfl) rfl rfl
set_option maxHeartbeats 8000000 in
set_option maxRecDepth 100000 in
theorem tm_R_isCell (N d : Nat) (xs : List Int32) (c r : St) (a0 : Int32) (p : Int32) (hp : R_isCell N a0 = some p) : mBig (mRoL xs) (d + 2) 165 [.int a0] (HP c r) (some (.int p)) (HP c r) 0 0 := mBig_of (by decide) rfl rfl rfl rfl (t_R_isCell N d xs c r a0 p hp)
/-! ColdHoldsModel.warm(II)I, from (('r', 115), 'i', 'i') -/
def R_warm (N : Nat) (r : St) (x1 : Int32) (x2 : Int32) : Option (Int32 × St) :=
  (R_isCell N x1).bind fun p1 => (if ¬ p1 = 0 then (R_in N x2 (-300) 600).bind fun p3 => (if ¬ p3 = 0 then (ld (gA r 0) x1).bind fun y5 => (sto (gA r 0) x1 x2).bind fun w6 => some (y5, sA r 0 w6) else some ((-1002), r)) else some ((-1001), r))
set_option maxHeartbeats 8000000 in
set_option maxRecDepth 100000 in
theorem t_R_warm (N d : Nat) (xs : List Int32) (c : St) (r : St) (x1 : Int32) (x2 : Int32) : Ok (mBig (mRoL xs) (d + 2)) (mRoL xs) 1 mK168 (fun p : Int32 × St => (some (.int p.1), HP c p.2)) (R_warm N r x1 x2) 0 [some (.ref 115), some (.int x1), some (.int x2), none] [] (HP c r) := by
  unfold R_warm
  refine Ok_blk 1 (pc2 := 1) (lo2 := [some (.ref 115), some (.int x1), some (.int x2), none]) (st2 := [.int x1]) rfl ?_
  refine Ok_call (y := 165) (as := [.int x1]) (rest := []) (w := fun p1 => some (.int p1)) (h1 := fun p1 => HP c r) rfl rfl (fun x hx => tm_R_isCell N d xs c r x1 x hx) (fun p1 hp1 => ?_)
  refine Ok_blk 1 (pc2 := (if ¬ p1 = 0 then 11 else 7)) (lo2 := [some (.ref 115), some (.int x1), some (.int x2), none]) (st2 := []) rfl ?_
  refine Ok_if (fun h2 => ?_) (fun h2 => ?_)
  · refine Ok_blk 3 (pc2 := 18) (lo2 := [some (.ref 115), some (.int x1), some (.int x2), none]) (st2 := [.int 600, .int (-300), .int x2]) rfl ?_
    refine Ok_call (y := 164) (as := [.int x2, .int (-300), .int 600]) (rest := []) (w := fun p3 => some (.int p3)) (h1 := fun p3 => HP c r) rfl rfl (fun x hx => tm_R_in N (d + 1) xs c r x2 (-300) 600 x hx) (fun p3 hp3 => ?_)
    refine Ok_blk 1 (pc2 := (if ¬ p3 = 0 then 28 else 24)) (lo2 := [some (.ref 115), some (.int x1), some (.int x2), none]) (st2 := []) rfl ?_
    refine Ok_if (fun h4 => ?_) (fun h4 => ?_)
    · refine Ok_blk 3 (pc2 := 33) (lo2 := [some (.ref 115), some (.int x1), some (.int x2), none]) (st2 := [.int x1, .ref 116]) rfl ?_
      refine Ok_ld (l := (gA r 0)) rfl rfl (fun y5 hy5 => ?_)
      refine Ok_blk 5 (pc2 := 41) (lo2 := [some (.ref 115), some (.int x1), some (.int x2), some (.int y5)]) (st2 := [.int x2, .int x1, .ref 116]) rfl ?_
      refine Ok_st (l := (gA r 0)) (hn := fun l' => HP c (sA r 0 l')) rfl rfl (fun l' => sa_116 _ _ l') (fun w6 hw6 => ?_)
      refine Ok_blk 1 (pc2 := 43) (lo2 := [some (.ref 115), some (.int x1), some (.int x2), some (.int y5)]) (st2 := [.int y5]) rfl ?_
      exact Ok_ret rfl rfl rfl
    · refine Ok_blk 1 (pc2 := 27) (lo2 := [some (.ref 115), some (.int x1), some (.int x2), none]) (st2 := [.int (-1002)]) rfl ?_
      exact Ok_ret rfl rfl rfl
  · refine Ok_blk 1 (pc2 := 10) (lo2 := [some (.ref 115), some (.int x1), some (.int x2), none]) (st2 := [.int (-1001)]) rfl ?_
    exact Ok_ret rfl rfl rfl
set_option maxHeartbeats 8000000 in
set_option maxRecDepth 100000 in
theorem tm_R_warm (N d : Nat) (xs : List Int32) (c r : St) (a1 : Int32) (a2 : Int32) (p : Int32 × St) (hp : R_warm N r a1 a2 = some p) : mBig (mRoL xs) (d + 3) 168 [.ref 115, .int a1, .int a2] (HP c r) (some (.int p.1)) (HP c p.2) 0 0 := mBig_of (by decide) rfl rfl rfl rfl (t_R_warm N d xs c r a1 a2 p hp)
/-! ColdHolds.warmth(I)I, from (('r', 0), 'i') -/
def C_warmth (N : Nat) (c : St) (x1 : Int32) : Option (Int32) :=
  (C_isCell N x1).bind fun p1 => (if p1 = 0 then some (-1001) else (ld (gA c 5) x1).bind fun y3 => some y3)
set_option maxHeartbeats 8000000 in
set_option maxRecDepth 100000 in
theorem t_C_warmth (N d : Nat) (xs : List Int32) (c : St) (r : St) (x1 : Int32) : Ok (mBig (mRoL xs) (d + 2)) (mRoL xs) 1 mK110 (fun p : Int32 => (some (.int p), HP c r)) (C_warmth N c x1) 0 [some (.ref 0), some (.int x1)] [] (HP c r) := by
  unfold C_warmth
  refine Ok_blk 1 (pc2 := 1) (lo2 := [some (.ref 0), some (.int x1)]) (st2 := [.int x1]) rfl ?_
  refine Ok_call (y := 103) (as := [.int x1]) (rest := []) (w := fun p1 => some (.int p1)) (h1 := fun p1 => HP c r) rfl rfl (fun x hx => tm_C_isCell N d xs c r x1 x hx) (fun p1 hp1 => ?_)
  refine Ok_blk 1 (pc2 := (if p1 = 0 then 19 else 7)) (lo2 := [some (.ref 0), some (.int x1)]) (st2 := []) rfl ?_
  refine Ok_if (fun h2 => ?_) (fun h2 => ?_)
  · refine Ok_blk 1 (pc2 := 22) (lo2 := [some (.ref 0), some (.int x1)]) (st2 := [.int (-1001)]) rfl ?_
    exact Ok_ret rfl rfl rfl
  · refine Ok_blk 4 (pc2 := 15) (lo2 := [some (.ref 0), some (.int x1)]) (st2 := [.int x1, .ref 8]) rfl ?_
    refine Ok_ld (l := (gA c 5)) rfl rfl (fun y3 hy3 => ?_)
    refine Ok_blk 1 (pc2 := 22) (lo2 := [some (.ref 0), some (.int x1)]) (st2 := [.int y3]) rfl ?_
    exact Ok_ret rfl rfl rfl
set_option maxHeartbeats 8000000 in
set_option maxRecDepth 100000 in
theorem tm_C_warmth (N d : Nat) (xs : List Int32) (c r : St) (a1 : Int32) (p : Int32) (hp : C_warmth N c a1 = some p) : mBig (mRoL xs) (d + 3) 110 [.ref 0, .int a1] (HP c r) (some (.int p)) (HP c r) 0 0 := mBig_of (by decide) rfl rfl rfl rfl (t_C_warmth N d xs c r a1 p hp)
