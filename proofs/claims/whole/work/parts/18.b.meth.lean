/-! methods as partial functions of Lean, and that the small machine does them: by program (gen18) -/
/-! ColdHoldsModel.sea(I)I, from (('r', 115), 'i') -/
def R_sea (N : Nat) (r : St) (x1 : Int32) : Option (Int32) :=
  (R_in N x1 0 9999).bind fun p1 => (if p1 = 0 then some (-1002) else (R_seaOf N r x1).bind fun p3 => some p3)
set_option maxHeartbeats 8000000 in
set_option maxRecDepth 100000 in
theorem t_R_sea (N d : Nat) (xs : List Int32) (c : St) (r : St) (x1 : Int32) : Ok (mBig (mRoL xs) (d + 1)) (mRoL xs) 1 mK175 (fun p : Int32 => (some (.int p), HP c r)) (R_sea N r x1) 0 [some (.ref 115), some (.int x1)] [] (HP c r) := by
  unfold R_sea
  refine Ok_blk 3 (pc2 := 5) (lo2 := [some (.ref 115), some (.int x1)]) (st2 := [.int 9999, .int 0, .int x1]) rfl ?_
  refine Ok_call (y := 164) (as := [.int x1, .int 0, .int 9999]) (rest := []) (w := fun p1 => some (.int p1)) (h1 := fun p1 => HP c r) rfl rfl (fun x hx => tm_R_in N d xs c r x1 0 9999 x hx) (fun p1 hp1 => ?_)
  refine Ok_blk 1 (pc2 := (if p1 = 0 then 19 else 11)) (lo2 := [some (.ref 115), some (.int x1)]) (st2 := []) rfl ?_
  refine Ok_if (fun h2 => ?_) (fun h2 => ?_)
  · refine Ok_blk 1 (pc2 := 22) (lo2 := [some (.ref 115), some (.int x1)]) (st2 := [.int (-1002)]) rfl ?_
    exact Ok_ret rfl rfl rfl
  · refine Ok_blk 2 (pc2 := 13) (lo2 := [some (.ref 115), some (.int x1)]) (st2 := [.int x1, .ref 115]) rfl ?_
    refine Ok_call (y := 174) (as := [.ref 115, .int x1]) (rest := []) (w := fun p3 => some (.int p3)) (h1 := fun p3 => HP c r) rfl rfl (fun x hx => tm_R_seaOf N d xs c r x1 x hx) (fun p3 hp3 => ?_)
    refine Ok_blk 1 (pc2 := 22) (lo2 := [some (.ref 115), some (.int x1)]) (st2 := [.int p3]) rfl ?_
    exact Ok_ret rfl rfl rfl
set_option maxHeartbeats 8000000 in
set_option maxRecDepth 100000 in
theorem tm_R_sea (N d : Nat) (xs : List Int32) (c r : St) (a1 : Int32) (p : Int32) (hp : R_sea N r a1 = some p) : mBig (mRoL xs) (d + 2) 175 [.ref 115, .int a1] (HP c r) (some (.int p)) (HP c r) 0 0 := mBig_of (by decide) rfl rfl rfl rfl (t_R_sea N d xs c r a1 p hp)
/-! java/lang/Math.floorDiv(II)I, from ('i', 'i') -/
def J_floorDiv_p21 (N : Nat) (x2 : Int32) : Option (Int32) :=
  some x2
def J_floorDiv (N : Nat) (x0 : Int32) (x1 : Int32) : Option (Int32) :=
  (dv x0 x1).bind fun y1 => (if 0 ≤ (x0 ^^^ x1) then J_floorDiv_p21 N y1 else (if (y1 * x1) = x0 then J_floorDiv_p21 N y1 else some (y1 - 1)))
set_option maxHeartbeats 8000000 in
set_option maxRecDepth 100000 in
theorem t_J_floorDiv_p21 (N d : Nat) (xs : List Int32) (c : St) (r : St) (x2 : Int32) : Ok (mBig (mRoL xs) (d)) (mRoL xs) 1 mK259 (fun p : Int32 => (some (.int p), HP c r)) (J_floorDiv_p21 N x2) 21 [none, none, some (.int x2)] [] (HP c r) := by
  unfold J_floorDiv_p21
  refine Ok_blk 1 (pc2 := 22) (lo2 := [none, none, some (.int x2)]) (st2 := [.int x2]) rfl ?_
  exact Ok_ret rfl rfl rfl
set_option maxHeartbeats 8000000 in
set_option maxRecDepth 100000 in
theorem t_J_floorDiv (N d : Nat) (xs : List Int32) (c : St) (r : St) (x0 : Int32) (x1 : Int32) : Ok (mBig (mRoL xs) (d)) (mRoL xs) 1 mK259 (fun p : Int32 => (some (.int p), HP c r)) (J_floorDiv N x0 x1) 0 [some (.int x0), some (.int x1), none] [] (HP c r) := by
  unfold J_floorDiv
  refine Ok_blk 2 (pc2 := 2) (lo2 := [some (.int x0), some (.int x1), none]) (st2 := [.int x1, .int x0]) rfl ?_
  refine Ok_dv rfl (fun y1 hy1 => ?_)
  refine Ok_blk 5 (pc2 := (if 0 ≤ (x0 ^^^ x1) then 21 else 10)) (lo2 := [some (.int x0), some (.int x1), some (.int y1)]) (st2 := []) rfl ?_
  refine Ok_if (fun h2 => ?_) (fun h2 => ?_)
  · refine Ok_drop (lo0 := [none, none, some (.int y1)]) ⟨Or.inl rfl, Or.inl rfl, Or.inr rfl, trivial⟩ ?_
    exact t_J_floorDiv_p21 N d xs c r y1
  · refine Ok_blk 5 (pc2 := (if (y1 * x1) = x0 then 21 else 17)) (lo2 := [some (.int x0), some (.int x1), some (.int y1)]) (st2 := []) rfl ?_
    refine Ok_if (fun h3 => ?_) (fun h3 => ?_)
    · refine Ok_drop (lo0 := [none, none, some (.int y1)]) ⟨Or.inl rfl, Or.inl rfl, Or.inr rfl, trivial⟩ ?_
      exact t_J_floorDiv_p21 N d xs c r y1
    · refine Ok_blk 3 (pc2 := 20) (lo2 := [some (.int x0), some (.int x1), some (.int y1)]) (st2 := [.int (y1 - 1)]) rfl ?_
      exact Ok_ret rfl rfl rfl
set_option maxHeartbeats 8000000 in
set_option maxRecDepth 100000 in
theorem tm_J_floorDiv (N d : Nat) (xs : List Int32) (c r : St) (a0 : Int32) (a1 : Int32) (p : Int32) (hp : J_floorDiv N a0 a1 = some p) : mBig (mRoL xs) (d + 1) 259 [.int a0, .int a1] (HP c r) (some (.int p)) (HP c r) 0 0 := mBig_of (by decide) rfl rfl rfl rfl (t_J_floorDiv N d xs c r a0 a1 p hp)
/-! java/lang/Math.max(II)I, from ('i', 'i') -/
def J_max (N : Nat) (x0 : Int32) (x1 : Int32) : Option (Int32) :=
  (if x0 < x1 then some x1 else some x0)
set_option maxHeartbeats 8000000 in
set_option maxRecDepth 100000 in
theorem t_J_max (N d : Nat) (xs : List Int32) (c : St) (r : St) (x0 : Int32) (x1 : Int32) : Ok (mBig (mRoL xs) (d)) (mRoL xs) 1 mK261 (fun p : Int32 => (some (.int p), HP c r)) (J_max N x0 x1) 0 [some (.int x0), some (.int x1)] [] (HP c r) := by
  unfold J_max
  refine Ok_blk 3 (pc2 := (if x0 < x1 then 9 else 5)) (lo2 := [some (.int x0), some (.int x1)]) (st2 := []) rfl ?_
  refine Ok_if (fun h1 => ?_) (fun h1 => ?_)
  · refine Ok_blk 1 (pc2 := 10) (lo2 := [some (.int x0), some (.int x1)]) (st2 := [.int x1]) rfl ?_
    exact Ok_ret rfl rfl rfl
  · refine Ok_blk 2 (pc2 := 10) (lo2 := [some (.int x0), some (.int x1)]) (st2 := [.int x0]) rfl ?_
    exact Ok_ret rfl rfl rfl
set_option maxHeartbeats 8000000 in
set_option maxRecDepth 100000 in
theorem tm_J_max (N d : Nat) (xs : List Int32) (c r : St) (a0 : Int32) (a1 : Int32) (p : Int32) (hp : J_max N a0 a1 = some p) : mBig (mRoL xs) (d + 1) 261 [.int a0, .int a1] (HP c r) (some (.int p)) (HP c r) 0 0 := mBig_of (by decide) rfl rfl rfl rfl (t_J_max N d xs c r a0 a1 p hp)
/-! ColdHolds$Hold.pull([II)I, from (('r', 8), 'i') -/
def Hold_pull_p70 (N : Nat) (c : St) (x3 : Int32) : Option (Int32) :=
  some x3
def Hold_pull_p53 (N : Nat) (c : St) (x1 : Int32) (x2 : Int32) (x3 : Int32) : Option (Int32) :=
  (rm x1 4).bind fun y6 => (if 3 ≤ y6 then Hold_pull_p70 N c x3 else (ld (gA c 5) (x1 + 1)).bind fun y8 => Hold_pull_p70 N c (x3 + (y8 - x2)))
def Hold_pull_p37 (N : Nat) (c : St) (x1 : Int32) (x2 : Int32) (x3 : Int32) : Option (Int32) :=
  (rm x1 4).bind fun y4 => (if y4 ≤ 0 then Hold_pull_p53 N c x1 x2 x3 else (ld (gA c 5) (x1 - 1)).bind fun y9 => Hold_pull_p53 N c x1 x2 (x3 + (y9 - x2)))
def Hold_pull_p21 (N : Nat) (c : St) (x1 : Int32) (x2 : Int32) (x3 : Int32) : Option (Int32) :=
  (if 8 ≤ x1 then Hold_pull_p37 N c x1 x2 x3 else (ld (gA c 5) (x1 + 4)).bind fun y10 => Hold_pull_p37 N c x1 x2 (x3 + (y10 - x2)))
def Hold_pull (N : Nat) (c : St) (x1 : Int32) : Option (Int32) :=
  (ld (gA c 5) x1).bind fun y1 => (if x1 < 4 then Hold_pull_p21 N c x1 y1 0 else (ld (gA c 5) (x1 - 4)).bind fun y11 => Hold_pull_p21 N c x1 y1 (0 + (y11 - y1)))
set_option maxHeartbeats 8000000 in
set_option maxRecDepth 100000 in
theorem t_Hold_pull_p70 (N d : Nat) (xs : List Int32) (c : St) (r : St) (x3 : Int32) : Ok (mBig (mRoL xs) (d)) (mRoL xs) 1 mK33 (fun p : Int32 => (some (.int p), HP c r)) (Hold_pull_p70 N c x3) 70 [none, none, none, some (.int x3)] [] (HP c r) := by
  unfold Hold_pull_p70
  refine Ok_blk 1 (pc2 := 71) (lo2 := [none, none, none, some (.int x3)]) (st2 := [.int x3]) rfl ?_
  exact Ok_ret rfl rfl rfl
set_option maxHeartbeats 8000000 in
set_option maxRecDepth 100000 in
theorem t_Hold_pull_p53 (N d : Nat) (xs : List Int32) (c : St) (r : St) (x1 : Int32) (x2 : Int32) (x3 : Int32) : Ok (mBig (mRoL xs) (d)) (mRoL xs) 1 mK33 (fun p : Int32 => (some (.int p), HP c r)) (Hold_pull_p53 N c x1 x2 x3) 53 [some (.ref 8), some (.int x1), some (.int x2), some (.int x3)] [] (HP c r) := by
  unfold Hold_pull_p53
  refine Ok_blk 2 (pc2 := 55) (lo2 := [some (.ref 8), some (.int x1), some (.int x2), some (.int x3)]) (st2 := [.int 4, .int x1]) rfl ?_
  refine Ok_rm rfl (fun y6 hy6 => ?_)
  refine Ok_blk 2 (pc2 := (if 3 ≤ y6 then 70 else 60)) (lo2 := [some (.ref 8), some (.int x1), some (.int x2), some (.int x3)]) (st2 := []) rfl ?_
  refine Ok_if (fun h7 => ?_) (fun h7 => ?_)
  · refine Ok_drop (lo0 := [none, none, none, some (.int x3)]) ⟨Or.inl rfl, Or.inl rfl, Or.inl rfl, Or.inr rfl, trivial⟩ ?_
    exact t_Hold_pull_p70 N d xs c r x3
  · refine Ok_blk 5 (pc2 := 65) (lo2 := [some (.ref 8), some (.int x1), some (.int x2), some (.int x3)]) (st2 := [.int (x1 + 1), .ref 8, .int x3]) rfl ?_
    refine Ok_ld (l := (gA c 5)) rfl rfl (fun y8 hy8 => ?_)
    refine Ok_blk 4 (pc2 := 70) (lo2 := [some (.ref 8), some (.int x1), some (.int x2), some (.int (x3 + (y8 - x2)))]) (st2 := []) rfl ?_
    refine Ok_drop (lo0 := [none, none, none, some (.int (x3 + (y8 - x2)))]) ⟨Or.inl rfl, Or.inl rfl, Or.inl rfl, Or.inr rfl, trivial⟩ ?_
    exact t_Hold_pull_p70 N d xs c r (x3 + (y8 - x2))
set_option maxHeartbeats 8000000 in
set_option maxRecDepth 100000 in
theorem t_Hold_pull_p37 (N d : Nat) (xs : List Int32) (c : St) (r : St) (x1 : Int32) (x2 : Int32) (x3 : Int32) : Ok (mBig (mRoL xs) (d)) (mRoL xs) 1 mK33 (fun p : Int32 => (some (.int p), HP c r)) (Hold_pull_p37 N c x1 x2 x3) 37 [some (.ref 8), some (.int x1), some (.int x2), some (.int x3)] [] (HP c r) := by
  unfold Hold_pull_p37
  refine Ok_blk 2 (pc2 := 39) (lo2 := [some (.ref 8), some (.int x1), some (.int x2), some (.int x3)]) (st2 := [.int 4, .int x1]) rfl ?_
  refine Ok_rm rfl (fun y4 hy4 => ?_)
  refine Ok_blk 1 (pc2 := (if y4 ≤ 0 then 53 else 43)) (lo2 := [some (.ref 8), some (.int x1), some (.int x2), some (.int x3)]) (st2 := []) rfl ?_
  refine Ok_if (fun h5 => ?_) (fun h5 => ?_)
  · refine Ok_drop (lo0 := [some (.ref 8), some (.int x1), some (.int x2), some (.int x3)]) ⟨Or.inr rfl, Or.inr rfl, Or.inr rfl, Or.inr rfl, trivial⟩ ?_
    exact t_Hold_pull_p53 N d xs c r x1 x2 x3
  · refine Ok_blk 5 (pc2 := 48) (lo2 := [some (.ref 8), some (.int x1), some (.int x2), some (.int x3)]) (st2 := [.int (x1 - 1), .ref 8, .int x3]) rfl ?_
    refine Ok_ld (l := (gA c 5)) rfl rfl (fun y9 hy9 => ?_)
    refine Ok_blk 4 (pc2 := 53) (lo2 := [some (.ref 8), some (.int x1), some (.int x2), some (.int (x3 + (y9 - x2)))]) (st2 := []) rfl ?_
    refine Ok_drop (lo0 := [some (.ref 8), some (.int x1), some (.int x2), some (.int (x3 + (y9 - x2)))]) ⟨Or.inr rfl, Or.inr rfl, Or.inr rfl, Or.inr rfl, trivial⟩ ?_
    exact t_Hold_pull_p53 N d xs c r x1 x2 (x3 + (y9 - x2))
set_option maxHeartbeats 8000000 in
set_option maxRecDepth 100000 in
theorem t_Hold_pull_p21 (N d : Nat) (xs : List Int32) (c : St) (r : St) (x1 : Int32) (x2 : Int32) (x3 : Int32) : Ok (mBig (mRoL xs) (d)) (mRoL xs) 1 mK33 (fun p : Int32 => (some (.int p), HP c r)) (Hold_pull_p21 N c x1 x2 x3) 21 [some (.ref 8), some (.int x1), some (.int x2), some (.int x3)] [] (HP c r) := by
  unfold Hold_pull_p21
  refine Ok_blk 3 (pc2 := (if 8 ≤ x1 then 37 else 27)) (lo2 := [some (.ref 8), some (.int x1), some (.int x2), some (.int x3)]) (st2 := []) rfl ?_
  refine Ok_if (fun h3 => ?_) (fun h3 => ?_)
  · refine Ok_drop (lo0 := [some (.ref 8), some (.int x1), some (.int x2), some (.int x3)]) ⟨Or.inr rfl, Or.inr rfl, Or.inr rfl, Or.inr rfl, trivial⟩ ?_
    exact t_Hold_pull_p37 N d xs c r x1 x2 x3
  · refine Ok_blk 5 (pc2 := 32) (lo2 := [some (.ref 8), some (.int x1), some (.int x2), some (.int x3)]) (st2 := [.int (x1 + 4), .ref 8, .int x3]) rfl ?_
    refine Ok_ld (l := (gA c 5)) rfl rfl (fun y10 hy10 => ?_)
    refine Ok_blk 4 (pc2 := 37) (lo2 := [some (.ref 8), some (.int x1), some (.int x2), some (.int (x3 + (y10 - x2)))]) (st2 := []) rfl ?_
    refine Ok_drop (lo0 := [some (.ref 8), some (.int x1), some (.int x2), some (.int (x3 + (y10 - x2)))]) ⟨Or.inr rfl, Or.inr rfl, Or.inr rfl, Or.inr rfl, trivial⟩ ?_
    exact t_Hold_pull_p37 N d xs c r x1 x2 (x3 + (y10 - x2))
set_option maxHeartbeats 8000000 in
set_option maxRecDepth 100000 in
theorem t_Hold_pull (N d : Nat) (xs : List Int32) (c : St) (r : St) (x1 : Int32) : Ok (mBig (mRoL xs) (d)) (mRoL xs) 1 mK33 (fun p : Int32 => (some (.int p), HP c r)) (Hold_pull N c x1) 0 [some (.ref 8), some (.int x1), none, none] [] (HP c r) := by
  unfold Hold_pull
  refine Ok_blk 2 (pc2 := 2) (lo2 := [some (.ref 8), some (.int x1), none, none]) (st2 := [.int x1, .ref 8]) rfl ?_
  refine Ok_ld (l := (gA c 5)) rfl rfl (fun y1 hy1 => ?_)
  refine Ok_blk 6 (pc2 := (if x1 < 4 then 21 else 11)) (lo2 := [some (.ref 8), some (.int x1), some (.int y1), some (.int 0)]) (st2 := []) rfl ?_
  refine Ok_if (fun h2 => ?_) (fun h2 => ?_)
  · refine Ok_drop (lo0 := [some (.ref 8), some (.int x1), some (.int y1), some (.int 0)]) ⟨Or.inr rfl, Or.inr rfl, Or.inr rfl, Or.inr rfl, trivial⟩ ?_
    exact t_Hold_pull_p21 N d xs c r x1 y1 0
  · refine Ok_blk 5 (pc2 := 16) (lo2 := [some (.ref 8), some (.int x1), some (.int y1), some (.int 0)]) (st2 := [.int (x1 - 4), .ref 8, .int 0]) rfl ?_
    refine Ok_ld (l := (gA c 5)) rfl rfl (fun y11 hy11 => ?_)
    refine Ok_blk 4 (pc2 := 21) (lo2 := [some (.ref 8), some (.int x1), some (.int y1), some (.int (0 + (y11 - y1)))]) (st2 := []) rfl ?_
    refine Ok_drop (lo0 := [some (.ref 8), some (.int x1), some (.int y1), some (.int (0 + (y11 - y1)))]) ⟨Or.inr rfl, Or.inr rfl, Or.inr rfl, Or.inr rfl, trivial⟩ ?_
    exact t_Hold_pull_p21 N d xs c r x1 y1 (0 + (y11 - y1))
set_option maxHeartbeats 8000000 in
set_option maxRecDepth 100000 in
theorem tm_Hold_pull (N d : Nat) (xs : List Int32) (c r : St) (a1 : Int32) (p : Int32) (hp : Hold_pull N c a1 = some p) : mBig (mRoL xs) (d + 1) 33 [.ref 8, .int a1] (HP c r) (some (.int p)) (HP c r) 0 0 := mBig_of (by decide) rfl rfl rfl rfl (t_Hold_pull N d xs c r a1 p hp)
/-! ColdHolds$Hold.nextWarmth([IIIZ)I, from (('r', 1), ('r', 8), 'i', 'i', 'i') -/
def Hold_nextWarmth_p66 (N : Nat) (c : St) (x6 : Int32) : Option (Int32) :=
  (J_max N x6 (-300)).bind fun p8 => some p8
def Hold_nextWarmth (N : Nat) (c : St) (x2 : Int32) (x3 : Int32) (x4 : Int32) : Option (Int32) :=
  (ld (gA c 2) 0).bind fun y1 => (Hold_pull N c x2).bind fun p2 => (ld (gA c 0) x2).bind fun y3 => (ld (gA c 5) x2).bind fun y4 => (ld (gA c 5) x2).bind fun y5 => (J_floorDiv N ((y1 * p2) + (y3 * (x3 - y4))) 100).bind fun p6 => (if x4 = 0 then Hold_nextWarmth_p66 N c (y5 + p6) else (ld (gA c 1) x2).bind fun y9 => (if ¬ y9 = 1 then Hold_nextWarmth_p66 N c (y5 + p6) else (ld (gA c 2) 1).bind fun y11 => Hold_nextWarmth_p66 N c ((y5 + p6) - y11)))
set_option maxHeartbeats 8000000 in
set_option maxRecDepth 100000 in
theorem t_Hold_nextWarmth_p66 (N d : Nat) (xs : List Int32) (c : St) (r : St) (x6 : Int32) : Ok (mBig (mRoL xs) (d + 1)) (mRoL xs) 1 mK32 (fun p : Int32 => (some (.int p), HP c r)) (Hold_nextWarmth_p66 N c x6) 66 [none, none, none, none, none, none, some (.int x6)] [] (HP c r) := by
  unfold Hold_nextWarmth_p66
  refine Ok_blk 2 (pc2 := 71) (lo2 := [none, none, none, none, none, none, some (.int x6)]) (st2 := [.int (-300), .int x6]) rfl ?_
  refine Ok_call (y := 261) (as := [.int x6, .int (-300)]) (rest := []) (w := fun p8 => some (.int p8)) (h1 := fun p8 => HP c r) rfl rfl (fun x hx => tm_J_max N d xs c r x6 (-300) x hx) (fun p8 hp8 => ?_)
  exact Ok_ret rfl rfl rfl
set_option maxHeartbeats 8000000 in
set_option maxRecDepth 100000 in
theorem t_Hold_nextWarmth (N d : Nat) (xs : List Int32) (c : St) (r : St) (x2 : Int32) (x3 : Int32) (x4 : Int32) : Ok (mBig (mRoL xs) (d + 1)) (mRoL xs) 1 mK32 (fun p : Int32 => (some (.int p), HP c r)) (Hold_nextWarmth N c x2 x3 x4) 0 [some (.ref 1), some (.ref 8), some (.int x2), some (.int x3), some (.int x4), none, none] [] (HP c r) := by
  unfold Hold_nextWarmth
  refine Ok_blk 3 (pc2 := 5) (lo2 := [some (.ref 1), some (.ref 8), some (.int x2), some (.int x3), some (.int x4), none, none]) (st2 := [.int 0, .ref 4]) rfl ?_
  refine Ok_ld (l := (gA c 2)) rfl rfl (fun y1 hy1 => ?_)
  refine Ok_blk 2 (pc2 := 8) (lo2 := [some (.ref 1), some (.ref 8), some (.int x2), some (.int x3), some (.int x4), none, none]) (st2 := [.int x2, .ref 8, .int y1]) rfl ?_
  refine Ok_call (y := 33) (as := [.ref 8, .int x2]) (rest := [.int y1]) (w := fun p2 => some (.int p2)) (h1 := fun p2 => HP c r) rfl rfl (fun x hx => tm_Hold_pull N d xs c r x2 x hx) (fun p2 hp2 => ?_)
  refine Ok_blk 4 (pc2 := 17) (lo2 := [some (.ref 1), some (.ref 8), some (.int x2), some (.int x3), some (.int x4), none, none]) (st2 := [.int x2, .ref 2, .int (y1 * p2)]) rfl ?_
  refine Ok_ld (l := (gA c 0)) rfl rfl (fun y3 hy3 => ?_)
  refine Ok_blk 3 (pc2 := 21) (lo2 := [some (.ref 1), some (.ref 8), some (.int x2), some (.int x3), some (.int x4), none, none]) (st2 := [.int x2, .ref 8, .int x3, .int y3, .int (y1 * p2)]) rfl ?_
  refine Ok_ld (l := (gA c 5)) rfl rfl (fun y4 hy4 => ?_)
  refine Ok_blk 6 (pc2 := 29) (lo2 := [some (.ref 1), some (.ref 8), some (.int x2), some (.int x3), some (.int x4), some (.int ((y1 * p2) + (y3 * (x3 - y4)))), none]) (st2 := [.int x2, .ref 8]) rfl ?_
  refine Ok_ld (l := (gA c 5)) rfl rfl (fun y5 hy5 => ?_)
  refine Ok_blk 2 (pc2 := 34) (lo2 := [some (.ref 1), some (.ref 8), some (.int x2), some (.int x3), some (.int x4), some (.int ((y1 * p2) + (y3 * (x3 - y4)))), none]) (st2 := [.int 100, .int ((y1 * p2) + (y3 * (x3 - y4))), .int y5]) rfl ?_
  refine Ok_call (y := 259) (as := [.int ((y1 * p2) + (y3 * (x3 - y4))), .int 100]) (rest := [.int y5]) (w := fun p6 => some (.int p6)) (h1 := fun p6 => HP c r) rfl rfl (fun x hx => tm_J_floorDiv N d xs c r ((y1 * p2) + (y3 * (x3 - y4))) 100 x hx) (fun p6 hp6 => ?_)
  refine Ok_blk 4 (pc2 := (if x4 = 0 then 66 else 45)) (lo2 := [some (.ref 1), some (.ref 8), some (.int x2), some (.int x3), some (.int x4), some (.int ((y1 * p2) + (y3 * (x3 - y4)))), some (.int (y5 + p6))]) (st2 := []) rfl ?_
  refine Ok_if (fun h7 => ?_) (fun h7 => ?_)
  · refine Ok_drop (lo0 := [none, none, none, none, none, none, some (.int (y5 + p6))]) ⟨Or.inl rfl, Or.inl rfl, Or.inl rfl, Or.inl rfl, Or.inl rfl, Or.inl rfl, Or.inr rfl, trivial⟩ ?_
    exact t_Hold_nextWarmth_p66 N d xs c r (y5 + p6)
  · refine Ok_blk 3 (pc2 := 50) (lo2 := [some (.ref 1), some (.ref 8), some (.int x2), some (.int x3), some (.int x4), some (.int ((y1 * p2) + (y3 * (x3 - y4)))), some (.int (y5 + p6))]) (st2 := [.int x2, .ref 3]) rfl ?_
    refine Ok_ld (l := (gA c 1)) rfl rfl (fun y9 hy9 => ?_)
    refine Ok_blk 2 (pc2 := (if ¬ y9 = 1 then 66 else 55)) (lo2 := [some (.ref 1), some (.ref 8), some (.int x2), some (.int x3), some (.int x4), some (.int ((y1 * p2) + (y3 * (x3 - y4)))), some (.int (y5 + p6))]) (st2 := []) rfl ?_
    refine Ok_if (fun h10 => ?_) (fun h10 => ?_)
    · refine Ok_drop (lo0 := [none, none, none, none, none, none, some (.int (y5 + p6))]) ⟨Or.inl rfl, Or.inl rfl, Or.inl rfl, Or.inl rfl, Or.inl rfl, Or.inl rfl, Or.inr rfl, trivial⟩ ?_
      exact t_Hold_nextWarmth_p66 N d xs c r (y5 + p6)
    · refine Ok_blk 4 (pc2 := 62) (lo2 := [some (.ref 1), some (.ref 8), some (.int x2), some (.int x3), some (.int x4), some (.int ((y1 * p2) + (y3 * (x3 - y4)))), some (.int (y5 + p6))]) (st2 := [.int 1, .ref 4, .int (y5 + p6)]) rfl ?_
      refine Ok_ld (l := (gA c 2)) rfl rfl (fun y11 hy11 => ?_)
      refine Ok_blk 2 (pc2 := 66) (lo2 := [some (.ref 1), some (.ref 8), some (.int x2), some (.int x3), some (.int x4), some (.int ((y1 * p2) + (y3 * (x3 - y4)))), some (.int ((y5 + p6) - y11))]) (st2 := []) rfl ?_
      refine Ok_drop (lo0 := [none, none, none, none, none, none, some (.int ((y5 + p6) - y11))]) ⟨Or.inl rfl, Or.inl rfl, Or.inl rfl, Or.inl rfl, Or.inl rfl, Or.inl rfl, Or.inr rfl, trivial⟩ ?_
      exact t_Hold_nextWarmth_p66 N d xs c r ((y5 + p6) - y11)
set_option maxHeartbeats 8000000 in
set_option maxRecDepth 100000 in
theorem tm_Hold_nextWarmth (N d : Nat) (xs : List Int32) (c r : St) (a2 : Int32) (a3 : Int32) (a4 : Int32) (p : Int32) (hp : Hold_nextWarmth N c a2 a3 a4 = some p) : mBig (mRoL xs) (d + 2) 32 [.ref 1, .ref 8, .int a2, .int a3, .int a4] (HP c r) (some (.int p)) (HP c r) 0 0 := mBig_of (by decide) rfl rfl rfl rfl (t_Hold_nextWarmth N d xs c r a2 a3 a4 p hp)
/-! ColdHolds$Air.pass(LColdHolds$Hold;IZ)Z, from (('r', 7), ('r', 1), 'i', 'i') -/
def Air_pass_p47b (N : Nat) (kb47 : St → Int32 → Int32 → Int32 → Option (Int32 × St)) (c : St) (x2 : Int32) (x5 : Int32) (x6 : Int32) : Option (Int32 × St) :=
  (if 12 ≤ x6 then (cpy (gA c 7) (gA c 5) 0 0 12).bind fun w5 => (gz x5).bind fun _ => some (x5, sA c 5 w5) else (Hold_nextWarmth N c x6 x2 x5).bind fun p7 => (sto (gA c 7) x6 p7).bind fun w8 => kb47 (sA c 7 w8) x2 x5 (x6 + 1))
def Air_pass_p47 (N : Nat) : Nat → St → Int32 → Int32 → Int32 → Option (Int32 × St)
  | 0 => fun _ _ _ _ => none
  | n + 1 => Air_pass_p47b N (Air_pass_p47 N n)
def Air_pass_p44 (N : Nat) (c : St) (x2 : Int32) (x5 : Int32) : Option (Int32 × St) :=
  Air_pass_p47 N N c x2 x5 0
def Air_pass_p26 (N : Nat) (c : St) (x2 : Int32) (x4 : Int32) (s0 : Int32) : Option (Int32 × St) :=
  (if s0 = 0 then Air_pass_p44 N c x2 s0 else Air_pass_p44 N (sI c 3 ((gI c 3) - x4)) x2 s0)
def Air_pass_p25 (N : Nat) (c : St) (x2 : Int32) (x4 : Int32) : Option (Int32 × St) :=
  Air_pass_p26 N c x2 x4 0
def Air_pass (N : Nat) (c : St) (x2 : Int32) (x3 : Int32) : Option (Int32 × St) :=
  (ld (gA c 2) 2).bind fun y1 => (if x3 = 0 then Air_pass_p25 N c x2 y1 else (if (gI c 3) < y1 then Air_pass_p25 N c x2 y1 else Air_pass_p26 N c x2 y1 1))
set_option maxHeartbeats 8000000 in
set_option maxRecDepth 100000 in
theorem t_Air_pass_p47b (N d : Nat) (xs : List Int32) (r : St) (kb47 : St → Int32 → Int32 → Int32 → Option (Int32 × St)) (hb47 : ∀ (c : St) (x2 : Int32) (x5 : Int32) (x6 : Int32), Ok (mBig (mRoL xs) (d + 2)) (mRoL xs) 2 mK2 (fun p : Int32 × St => (some (.int p.1), HP p.2 r)) (kb47 c x2 x5 x6) 47 [some (.ref 7), some (.ref 1), some (.int x2), none, none, some (.int x5), some (.int x6)] [] (HP c r)) (c : St) (x2 : Int32) (x5 : Int32) (x6 : Int32) : Ok (mBig (mRoL xs) (d + 2)) (mRoL xs) 2 mK2 (fun p : Int32 × St => (some (.int p.1), HP p.2 r)) (Air_pass_p47b N kb47 c x2 x5 x6) 47 [some (.ref 7), some (.ref 1), some (.int x2), none, none, some (.int x5), some (.int x6)] [] (HP c r) := by
  unfold Air_pass_p47b
  refine Ok_blk 3 (pc2 := (if 12 ≤ x6 then 80 else 54)) (lo2 := [some (.ref 7), some (.ref 1), some (.int x2), none, none, some (.int x5), some (.int x6)]) (st2 := []) rfl ?_
  refine Ok_if (fun h4 => ?_) (fun h4 => ?_)
  · refine Ok_blk 7 (pc2 := 92) (lo2 := [some (.ref 7), some (.ref 1), some (.int x2), none, none, some (.int x5), some (.int x6)]) (st2 := [.int 12, .int 0, .ref 8, .int 0, .ref 10]) rfl ?_
    refine Ok_cpy (f := (gA c 7)) (g := (gA c 5)) (hn := fun l' => HP (sA c 5 l') r) rfl rfl rfl (Nat.le_of_ble_eq_true rfl) (fun l' => sa_8 _ _ l') (fun w5 hw5 => ?_)
    refine Ok_blk 1 (pc2 := 97) (lo2 := [some (.ref 7), some (.ref 1), some (.int x2), none, none, some (.int x5), some (.int x6)]) (st2 := [.int x5]) rfl ?_
    refine Ok_gz (fun hz6 => ?_)
    exact Ok_rez hz6 rfl rfl
  · refine Ok_blk 9 (pc2 := 70) (lo2 := [some (.ref 7), some (.ref 1), some (.int x2), none, none, some (.int x5), some (.int x6)]) (st2 := [.int x5, .int x2, .int x6, .ref 8, .ref 1, .int x6, .ref 10]) rfl ?_
    refine Ok_call (y := 32) (as := [.ref 1, .ref 8, .int x6, .int x2, .int x5]) (rest := [.int x6, .ref 10]) (w := fun p7 => some (.int p7)) (h1 := fun p7 => HP c r) rfl rfl (fun x hx => tm_Hold_nextWarmth N d xs c r x6 x2 x5 x hx) (fun p7 hp7 => ?_)
    refine Ok_st (l := (gA c 7)) (hn := fun l' => HP (sA c 7 l') r) rfl rfl (fun l' => sa_10 _ _ l') (fun w8 hw8 => ?_)
    refine Ok_blk 2 (pc2 := 47) (lo2 := [some (.ref 7), some (.ref 1), some (.int x2), none, none, some (.int x5), some (.int (x6 + 1))]) (st2 := []) rfl ?_
    refine Ok_drop (lo0 := [some (.ref 7), some (.ref 1), some (.int x2), none, none, some (.int x5), some (.int (x6 + 1))]) ⟨Or.inr rfl, Or.inr rfl, Or.inr rfl, Or.inl rfl, Or.inl rfl, Or.inr rfl, Or.inr rfl, trivial⟩ ?_
    exact hb47 (sA c 7 w8) x2 x5 (x6 + 1)
set_option maxHeartbeats 8000000 in
set_option maxRecDepth 100000 in
theorem t_Air_pass_p47 (N d : Nat) (xs : List Int32) (r : St) : ∀ (n : Nat) (c : St) (x2 : Int32) (x5 : Int32) (x6 : Int32), Ok (mBig (mRoL xs) (d + 2)) (mRoL xs) 2 mK2 (fun p : Int32 × St => (some (.int p.1), HP p.2 r)) (Air_pass_p47 N n c x2 x5 x6) 47 [some (.ref 7), some (.ref 1), some (.int x2), none, none, some (.int x5), some (.int x6)] [] (HP c r) := by
  intro n
  induction n with
  | zero => intro c x2 x5 x6; exact Ok_none
  | succ n ih => intro c x2 x5 x6; exact t_Air_pass_p47b N d xs r (Air_pass_p47 N n) ih c x2 x5 x6
set_option maxHeartbeats 8000000 in
set_option maxRecDepth 100000 in
theorem t_Air_pass_p44 (N d : Nat) (xs : List Int32) (r : St) (c : St) (x2 : Int32) (x5 : Int32) : Ok (mBig (mRoL xs) (d + 2)) (mRoL xs) 2 mK2 (fun p : Int32 × St => (some (.int p.1), HP p.2 r)) (Air_pass_p44 N c x2 x5) 44 [some (.ref 7), some (.ref 1), some (.int x2), none, none, some (.int x5), none] [] (HP c r) := by
  unfold Air_pass_p44
  refine Ok_blk 2 (pc2 := 47) (lo2 := [some (.ref 7), some (.ref 1), some (.int x2), none, none, some (.int x5), some (.int 0)]) (st2 := []) rfl ?_
  refine Ok_drop (lo0 := [some (.ref 7), some (.ref 1), some (.int x2), none, none, some (.int x5), some (.int 0)]) ⟨Or.inr rfl, Or.inr rfl, Or.inr rfl, Or.inl rfl, Or.inl rfl, Or.inr rfl, Or.inr rfl, trivial⟩ ?_
  exact t_Air_pass_p47 N d xs r N c x2 x5 0
set_option maxHeartbeats 8000000 in
set_option maxRecDepth 100000 in
theorem t_Air_pass_p26 (N d : Nat) (xs : List Int32) (r : St) (c : St) (x2 : Int32) (x4 : Int32) (s0 : Int32) : Ok (mBig (mRoL xs) (d + 2)) (mRoL xs) 2 mK2 (fun p : Int32 × St => (some (.int p.1), HP p.2 r)) (Air_pass_p26 N c x2 x4 s0) 26 [some (.ref 7), some (.ref 1), some (.int x2), none, some (.int x4), none, none] [.int s0] (HP c r) := by
  unfold Air_pass_p26
  refine Ok_blk 3 (pc2 := (if s0 = 0 then 44 else 33)) (lo2 := [some (.ref 7), some (.ref 1), some (.int x2), none, some (.int x4), some (.int s0), none]) (st2 := []) rfl ?_
  refine Ok_if (fun h3 => ?_) (fun h3 => ?_)
  · refine Ok_drop (lo0 := [some (.ref 7), some (.ref 1), some (.int x2), none, none, some (.int s0), none]) ⟨Or.inr rfl, Or.inr rfl, Or.inr rfl, Or.inl rfl, Or.inl rfl, Or.inr rfl, Or.inl rfl, trivial⟩ ?_
    exact t_Air_pass_p44 N d xs r c x2 s0
  · refine Ok_heap 6 (pc2 := 44) (lo2 := [some (.ref 7), some (.ref 1), some (.int x2), none, some (.int x4), some (.int s0), none]) (st2 := []) (h2 := HP (sI c 3 ((gI c 3) - x4)) r) rfl (st_7_2 _ _ _) ?_
    refine Ok_drop (lo0 := [some (.ref 7), some (.ref 1), some (.int x2), none, none, some (.int s0), none]) ⟨Or.inr rfl, Or.inr rfl, Or.inr rfl, Or.inl rfl, Or.inl rfl, Or.inr rfl, Or.inl rfl, trivial⟩ ?_
    exact t_Air_pass_p44 N d xs r (sI c 3 ((gI c 3) - x4)) x2 s0
set_option maxHeartbeats 8000000 in
set_option maxRecDepth 100000 in
theorem t_Air_pass_p25 (N d : Nat) (xs : List Int32) (r : St) (c : St) (x2 : Int32) (x4 : Int32) : Ok (mBig (mRoL xs) (d + 2)) (mRoL xs) 2 mK2 (fun p : Int32 × St => (some (.int p.1), HP p.2 r)) (Air_pass_p25 N c x2 x4) 25 [some (.ref 7), some (.ref 1), some (.int x2), none, some (.int x4), none, none] [] (HP c r) := by
  unfold Air_pass_p25
  refine Ok_blk 1 (pc2 := 26) (lo2 := [some (.ref 7), some (.ref 1), some (.int x2), none, some (.int x4), none, none]) (st2 := [.int 0]) rfl ?_
  refine Ok_drop (lo0 := [some (.ref 7), some (.ref 1), some (.int x2), none, some (.int x4), none, none]) ⟨Or.inr rfl, Or.inr rfl, Or.inr rfl, Or.inl rfl, Or.inr rfl, Or.inl rfl, Or.inl rfl, trivial⟩ ?_
  exact t_Air_pass_p26 N d xs r c x2 x4 0
set_option maxHeartbeats 8000000 in
set_option maxRecDepth 100000 in
theorem t_Air_pass (N d : Nat) (xs : List Int32) (r : St) (c : St) (x2 : Int32) (x3 : Int32) : Ok (mBig (mRoL xs) (d + 2)) (mRoL xs) 2 mK2 (fun p : Int32 × St => (some (.int p.1), HP p.2 r)) (Air_pass N c x2 x3) 0 [some (.ref 7), some (.ref 1), some (.int x2), some (.int x3), none, none, none] [] (HP c r) := by
  unfold Air_pass
  refine Ok_blk 3 (pc2 := 5) (lo2 := [some (.ref 7), some (.ref 1), some (.int x2), some (.int x3), none, none, none]) (st2 := [.int 2, .ref 4]) rfl ?_
  refine Ok_ld (l := (gA c 2)) rfl rfl (fun y1 hy1 => ?_)
  refine Ok_blk 3 (pc2 := (if x3 = 0 then 25 else 12)) (lo2 := [some (.ref 7), some (.ref 1), some (.int x2), some (.int x3), some (.int y1), none, none]) (st2 := []) rfl ?_
  refine Ok_if (fun h2 => ?_) (fun h2 => ?_)
  · refine Ok_drop (lo0 := [some (.ref 7), some (.ref 1), some (.int x2), none, some (.int y1), none, none]) ⟨Or.inr rfl, Or.inr rfl, Or.inr rfl, Or.inl rfl, Or.inr rfl, Or.inl rfl, Or.inl rfl, trivial⟩ ?_
    exact t_Air_pass_p25 N d xs r c x2 y1
  · refine Ok_blk 4 (pc2 := (if (gI c 3) < y1 then 25 else 21)) (lo2 := [some (.ref 7), some (.ref 1), some (.int x2), some (.int x3), some (.int y1), none, none]) (st2 := []) rfl ?_
    refine Ok_if (fun h9 => ?_) (fun h9 => ?_)
    · refine Ok_drop (lo0 := [some (.ref 7), some (.ref 1), some (.int x2), none, some (.int y1), none, none]) ⟨Or.inr rfl, Or.inr rfl, Or.inr rfl, Or.inl rfl, Or.inr rfl, Or.inl rfl, Or.inl rfl, trivial⟩ ?_
      exact t_Air_pass_p25 N d xs r c x2 y1
    · refine Ok_blk 2 (pc2 := 26) (lo2 := [some (.ref 7), some (.ref 1), some (.int x2), some (.int x3), some (.int y1), none, none]) (st2 := [.int 1]) rfl ?_
      refine Ok_drop (lo0 := [some (.ref 7), some (.ref 1), some (.int x2), none, some (.int y1), none, none]) ⟨Or.inr rfl, Or.inr rfl, Or.inr rfl, Or.inl rfl, Or.inr rfl, Or.inl rfl, Or.inl rfl, trivial⟩ ?_
      exact t_Air_pass_p26 N d xs r c x2 y1 1
set_option maxHeartbeats 8000000 in
set_option maxRecDepth 100000 in
theorem tm_Air_pass (N d : Nat) (xs : List Int32) (c r : St) (a2 : Int32) (a3 : Int32) (p : Int32 × St) (hp : Air_pass N c a2 a3 = some p) : mBig (mRoL xs) (d + 3) 2 [.ref 7, .ref 1, .int a2, .int a3] (HP c r) (some (.int p.1)) (HP p.2 r) 0 0 := mBig_of (by decide) rfl rfl rfl rfl (t_Air_pass N d xs r c a2 a3 p hp)
/-! ColdHolds$Lots.carcassSpoils(I)I, from ('i',) -/
def Lots_carcassSpoils (N : Nat) (x0 : Int32) : Option (Int32) :=
  (J_floorDiv N (x0 + 50) 10).bind fun p1 => (J_max N 0 p1).bind fun p2 => some p2
set_option maxHeartbeats 8000000 in
set_option maxRecDepth 100000 in
theorem t_Lots_carcassSpoils (N d : Nat) (xs : List Int32) (c : St) (r : St) (x0 : Int32) : Ok (mBig (mRoL xs) (d + 1)) (mRoL xs) 1 mK46 (fun p : Int32 => (some (.int p), HP c r)) (Lots_carcassSpoils N x0) 0 [some (.int x0)] [] (HP c r) := by
  unfold Lots_carcassSpoils
  refine Ok_blk 5 (pc2 := 7) (lo2 := [some (.int x0)]) (st2 := [.int 10, .int (x0 + 50), .int 0]) rfl ?_
  refine Ok_call (y := 259) (as := [.int (x0 + 50), .int 10]) (rest := [.int 0]) (w := fun p1 => some (.int p1)) (h1 := fun p1 => HP c r) rfl rfl (fun x hx => tm_J_floorDiv N d xs c r (x0 + 50) 10 x hx) (fun p1 hp1 => ?_)
  refine Ok_call (y := 261) (as := [.int 0, .int p1]) (rest := []) (w := fun p2 => some (.int p2)) (h1 := fun p2 => HP c r) rfl rfl (fun x hx => tm_J_max N d xs c r 0 p1 x hx) (fun p2 hp2 => ?_)
  exact Ok_ret rfl rfl rfl
set_option maxHeartbeats 8000000 in
set_option maxRecDepth 100000 in
theorem tm_Lots_carcassSpoils (N d : Nat) (xs : List Int32) (c r : St) (a0 : Int32) (p : Int32) (hp : Lots_carcassSpoils N a0 = some p) : mBig (mRoL xs) (d + 2) 46 [.int a0] (HP c r) (some (.int p)) (HP c r) 0 0 := mBig_of (by decide) rfl rfl rfl rfl (t_Lots_carcassSpoils N d xs c r a0 p hp)
/-! ColdHolds$Lots.spoils(II)I, from ('i', 'i') -/
def Lots_spoils (N : Nat) (x0 : Int32) (x1 : Int32) : Option (Int32) :=
  (if x0 = 1 then (Lots_carcassSpoils N x1).bind fun p2 => some p2 else (if x0 = 2 then (Lots_carcassSpoils N x1).bind fun p4 => some p4 else (if x0 = 3 then (Lots_carcassSpoils N x1).bind fun p6 => (if ¬ p6 = 0 then (Lots_carcassSpoils N x1).bind fun p8 => some ((2 * p8) + 1) else some 0) else (if x0 = 4 then some 0 else (if x0 = 5 then (if x1 ≤ 100 then some 0 else some 1) else some 0)))))
set_option maxHeartbeats 8000000 in
set_option maxRecDepth 100000 in
theorem t_Lots_spoils (N d : Nat) (xs : List Int32) (c : St) (r : St) (x0 : Int32) (x1 : Int32) : Ok (mBig (mRoL xs) (d + 2)) (mRoL xs) 1 mK45 (fun p : Int32 => (some (.int p), HP c r)) (Lots_spoils N x0 x1) 0 [some (.int x0), some (.int x1)] [] (HP c r) := by
  unfold Lots_spoils
  refine Ok_blk 2 (pc2 := mSw x0 [(1, 36), (2, 36), (3, 41), (4, 73), (5, 61)] 73) (lo2 := [some (.int x0), some (.int x1)]) (st2 := []) rfl ?_
  refine Ok_sw (fun h1 => ?_) (fun h1 => ?_)
  · refine Ok_blk 1 (pc2 := 37) (lo2 := [some (.int x0), some (.int x1)]) (st2 := [.int x1]) rfl ?_
    refine Ok_call (y := 46) (as := [.int x1]) (rest := []) (w := fun p2 => some (.int p2)) (h1 := fun p2 => HP c r) rfl rfl (fun x hx => tm_Lots_carcassSpoils N d xs c r x1 x hx) (fun p2 hp2 => ?_)
    exact Ok_ret rfl rfl rfl
  refine Ok_sw (fun h3 => ?_) (fun h3 => ?_)
  · refine Ok_blk 1 (pc2 := 37) (lo2 := [some (.int x0), some (.int x1)]) (st2 := [.int x1]) rfl ?_
    refine Ok_call (y := 46) (as := [.int x1]) (rest := []) (w := fun p4 => some (.int p4)) (h1 := fun p4 => HP c r) rfl rfl (fun x hx => tm_Lots_carcassSpoils N d xs c r x1 x hx) (fun p4 hp4 => ?_)
    exact Ok_ret rfl rfl rfl
  refine Ok_sw (fun h5 => ?_) (fun h5 => ?_)
  · refine Ok_blk 1 (pc2 := 42) (lo2 := [some (.int x0), some (.int x1)]) (st2 := [.int x1]) rfl ?_
    refine Ok_call (y := 46) (as := [.int x1]) (rest := []) (w := fun p6 => some (.int p6)) (h1 := fun p6 => HP c r) rfl rfl (fun x hx => tm_Lots_carcassSpoils N d xs c r x1 x hx) (fun p6 hp6 => ?_)
    refine Ok_blk 1 (pc2 := (if ¬ p6 = 0 then 52 else 48)) (lo2 := [some (.int x0), some (.int x1)]) (st2 := []) rfl ?_
    refine Ok_if (fun h7 => ?_) (fun h7 => ?_)
    · refine Ok_blk 2 (pc2 := 54) (lo2 := [some (.int x0), some (.int x1)]) (st2 := [.int x1, .int 2]) rfl ?_
      refine Ok_call (y := 46) (as := [.int x1]) (rest := [.int 2]) (w := fun p8 => some (.int p8)) (h1 := fun p8 => HP c r) rfl rfl (fun x hx => tm_Lots_carcassSpoils N d xs c r x1 x hx) (fun p8 hp8 => ?_)
      refine Ok_blk 3 (pc2 := 60) (lo2 := [some (.int x0), some (.int x1)]) (st2 := [.int ((2 * p8) + 1)]) rfl ?_
      exact Ok_ret rfl rfl rfl
    · refine Ok_blk 2 (pc2 := 60) (lo2 := [some (.int x0), some (.int x1)]) (st2 := [.int 0]) rfl ?_
      exact Ok_ret rfl rfl rfl
  refine Ok_sw (fun h9 => ?_) (fun h9 => ?_)
  · refine Ok_blk 1 (pc2 := 74) (lo2 := [some (.int x0), some (.int x1)]) (st2 := [.int 0]) rfl ?_
    exact Ok_ret rfl rfl rfl
  refine Ok_sw (fun h10 => ?_) (fun h10 => ?_)
  · refine Ok_blk 3 (pc2 := (if x1 ≤ 100 then 71 else 67)) (lo2 := [some (.int x0), some (.int x1)]) (st2 := []) rfl ?_
    refine Ok_if (fun h11 => ?_) (fun h11 => ?_)
    · refine Ok_blk 1 (pc2 := 72) (lo2 := [some (.int x0), some (.int x1)]) (st2 := [.int 0]) rfl ?_
      exact Ok_ret rfl rfl rfl
    · refine Ok_blk 2 (pc2 := 72) (lo2 := [some (.int x0), some (.int x1)]) (st2 := [.int 1]) rfl ?_
      exact Ok_ret rfl rfl rfl
  show Ok _ _ _ _ _ _ 73 _ _ _
  refine Ok_blk 1 (pc2 := 74) (lo2 := [some (.int x0), some (.int x1)]) (st2 := [.int 0]) rfl ?_
  exact Ok_ret rfl rfl rfl
set_option maxHeartbeats 8000000 in
set_option maxRecDepth 100000 in
theorem tm_Lots_spoils (N d : Nat) (xs : List Int32) (c r : St) (a0 : Int32) (a1 : Int32) (p : Int32) (hp : Lots_spoils N a0 a1 = some p) : mBig (mRoL xs) (d + 3) 45 [.int a0, .int a1] (HP c r) (some (.int p)) (HP c r) 0 0 := mBig_of (by decide) rfl rfl rfl rfl (t_Lots_spoils N d xs c r a0 a1 p hp)
/-! ColdHolds$Lots.spoilIn(LColdHolds$Air;)V, from (('r', 15), ('r', 7)) -/
def Lots_spoilIn_p2b (N : Nat) (kb2 : St → Int32 → Option (St)) (c : St) (x2 : Int32) : Option (St) :=
  (if (gI c 5) ≤ x2 then some c else (ld (gA c 6) x2).bind fun y2 => (ld (gA c 11) x2).bind fun y3 => (ld (gA c 12) x2).bind fun y4 => (ld (gA c 5) y4).bind fun y5 => (Lots_spoils N y3 y5).bind fun p6 => (sto (gA c 6) x2 (y2 + p6)).bind fun w7 => kb2 (sA c 6 w7) (x2 + 1))
def Lots_spoilIn_p2 (N : Nat) : Nat → St → Int32 → Option (St)
  | 0 => fun _ _ => none
  | n + 1 => Lots_spoilIn_p2b N (Lots_spoilIn_p2 N n)
def Lots_spoilIn (N : Nat) (c : St) : Option (St) :=
  Lots_spoilIn_p2 N N c 0
set_option maxHeartbeats 8000000 in
set_option maxRecDepth 100000 in
theorem t_Lots_spoilIn_p2b (N d : Nat) (xs : List Int32) (r : St) (kb2 : St → Int32 → Option (St)) (hb2 : ∀ (c : St) (x2 : Int32), Ok (mBig (mRoL xs) (d + 3)) (mRoL xs) 0 mK40 (fun p : St => (none, HP p r)) (kb2 c x2) 2 [some (.ref 15), some (.ref 7), some (.int x2)] [] (HP c r)) (c : St) (x2 : Int32) : Ok (mBig (mRoL xs) (d + 3)) (mRoL xs) 0 mK40 (fun p : St => (none, HP p r)) (Lots_spoilIn_p2b N kb2 c x2) 2 [some (.ref 15), some (.ref 7), some (.int x2)] [] (HP c r) := by
  unfold Lots_spoilIn_p2b
  refine Ok_blk 4 (pc2 := (if (gI c 5) ≤ x2 then 45 else 10)) (lo2 := [some (.ref 15), some (.ref 7), some (.int x2)]) (st2 := []) rfl ?_
  refine Ok_if (fun h1 => ?_) (fun h1 => ?_)
  · exact Ok_ret rfl rfl rfl
  · refine Ok_blk 4 (pc2 := 16) (lo2 := [some (.ref 15), some (.ref 7), some (.int x2)]) (st2 := [.int x2, .ref 9, .int x2, .ref 9]) rfl ?_
    refine Ok_ld (l := (gA c 6)) rfl rfl (fun y2 hy2 => ?_)
    refine Ok_blk 3 (pc2 := 22) (lo2 := [some (.ref 15), some (.ref 7), some (.int x2)]) (st2 := [.int x2, .ref 16, .int y2, .int x2, .ref 9]) rfl ?_
    refine Ok_ld (l := (gA c 11)) rfl rfl (fun y3 hy3 => ?_)
    refine Ok_blk 5 (pc2 := 32) (lo2 := [some (.ref 15), some (.ref 7), some (.int x2)]) (st2 := [.int x2, .ref 17, .ref 8, .int y3, .int y2, .int x2, .ref 9]) rfl ?_
    refine Ok_ld (l := (gA c 12)) rfl rfl (fun y4 hy4 => ?_)
    refine Ok_ld (l := (gA c 5)) rfl rfl (fun y5 hy5 => ?_)
    refine Ok_call (y := 45) (as := [.int y3, .int y5]) (rest := [.int y2, .int x2, .ref 9]) (w := fun p6 => some (.int p6)) (h1 := fun p6 => HP c r) rfl rfl (fun x hx => tm_Lots_spoils N d xs c r y3 y5 x hx) (fun p6 hp6 => ?_)
    refine Ok_blk 1 (pc2 := 38) (lo2 := [some (.ref 15), some (.ref 7), some (.int x2)]) (st2 := [.int (y2 + p6), .int x2, .ref 9]) rfl ?_
    refine Ok_st (l := (gA c 6)) (hn := fun l' => HP (sA c 6 l') r) rfl rfl (fun l' => sa_9 _ _ l') (fun w7 hw7 => ?_)
    refine Ok_blk 2 (pc2 := 2) (lo2 := [some (.ref 15), some (.ref 7), some (.int (x2 + 1))]) (st2 := []) rfl ?_
    refine Ok_drop (lo0 := [some (.ref 15), some (.ref 7), some (.int (x2 + 1))]) ⟨Or.inr rfl, Or.inr rfl, Or.inr rfl, trivial⟩ ?_
    exact hb2 (sA c 6 w7) (x2 + 1)
set_option maxHeartbeats 8000000 in
set_option maxRecDepth 100000 in
theorem t_Lots_spoilIn_p2 (N d : Nat) (xs : List Int32) (r : St) : ∀ (n : Nat) (c : St) (x2 : Int32), Ok (mBig (mRoL xs) (d + 3)) (mRoL xs) 0 mK40 (fun p : St => (none, HP p r)) (Lots_spoilIn_p2 N n c x2) 2 [some (.ref 15), some (.ref 7), some (.int x2)] [] (HP c r) := by
  intro n
  induction n with
  | zero => intro c x2; exact Ok_none
  | succ n ih => intro c x2; exact t_Lots_spoilIn_p2b N d xs r (Lots_spoilIn_p2 N n) ih c x2
set_option maxHeartbeats 8000000 in
set_option maxRecDepth 100000 in
theorem t_Lots_spoilIn (N d : Nat) (xs : List Int32) (r : St) (c : St) : Ok (mBig (mRoL xs) (d + 3)) (mRoL xs) 0 mK40 (fun p : St => (none, HP p r)) (Lots_spoilIn N c) 0 [some (.ref 15), some (.ref 7), none] [] (HP c r) := by
  unfold Lots_spoilIn
  refine Ok_blk 2 (pc2 := 2) (lo2 := [some (.ref 15), some (.ref 7), some (.int 0)]) (st2 := []) rfl ?_
  refine Ok_drop (lo0 := [some (.ref 15), some (.ref 7), some (.int 0)]) ⟨Or.inr rfl, Or.inr rfl, Or.inr rfl, trivial⟩ ?_
  exact t_Lots_spoilIn_p2 N d xs r N c 0
set_option maxHeartbeats 8000000 in
set_option maxRecDepth 100000 in
theorem tm_Lots_spoilIn (N d : Nat) (xs : List Int32) (c r : St) (p : St) (hp : Lots_spoilIn N c = some p) : mBig (mRoL xs) (d + 4) 40 [.ref 15, .ref 7] (HP c r) (none) (HP p r) 0 0 := mBig_of (by decide) rfl rfl rfl rfl (t_Lots_spoilIn N d xs r c p hp)
/-! ColdHolds$Lots.stateFrom(I)I, from ('i',) -/
def Lots_stateFrom (N : Nat) (x0 : Int32) : Option (Int32) :=
  (if x0 < 600 then (if x0 < 300 then (if x0 < 100 then some 0 else some 1) else some 2) else some 3)
set_option maxHeartbeats 8000000 in
set_option maxRecDepth 100000 in
theorem t_Lots_stateFrom (N d : Nat) (xs : List Int32) (c : St) (r : St) (x0 : Int32) : Ok (mBig (mRoL xs) (d)) (mRoL xs) 1 mK44 (fun p : Int32 => (some (.int p), HP c r)) (Lots_stateFrom N x0) 0 [some (.int x0)] [] (HP c r) := by
  unfold Lots_stateFrom
  refine Ok_blk 3 (pc2 := (if x0 < 600 then 9 else 7)) (lo2 := [some (.int x0)]) (st2 := []) rfl ?_
  refine Ok_if (fun h1 => ?_) (fun h1 => ?_)
  · refine Ok_blk 3 (pc2 := (if x0 < 300 then 18 else 16)) (lo2 := [some (.int x0)]) (st2 := []) rfl ?_
    refine Ok_if (fun h2 => ?_) (fun h2 => ?_)
    · refine Ok_blk 3 (pc2 := (if x0 < 100 then 28 else 24)) (lo2 := [some (.int x0)]) (st2 := []) rfl ?_
      refine Ok_if (fun h3 => ?_) (fun h3 => ?_)
      · refine Ok_blk 1 (pc2 := 29) (lo2 := [some (.int x0)]) (st2 := [.int 0]) rfl ?_
        exact Ok_ret rfl rfl rfl
      · refine Ok_blk 2 (pc2 := 29) (lo2 := [some (.int x0)]) (st2 := [.int 1]) rfl ?_
        exact Ok_ret rfl rfl rfl
    · refine Ok_blk 1 (pc2 := 17) (lo2 := [some (.int x0)]) (st2 := [.int 2]) rfl ?_
      exact Ok_ret rfl rfl rfl
  · refine Ok_blk 1 (pc2 := 8) (lo2 := [some (.int x0)]) (st2 := [.int 3]) rfl ?_
    exact Ok_ret rfl rfl rfl
set_option maxHeartbeats 8000000 in
set_option maxRecDepth 100000 in
theorem tm_Lots_stateFrom (N d : Nat) (xs : List Int32) (c r : St) (a0 : Int32) (p : Int32) (hp : Lots_stateFrom N a0 = some p) : mBig (mRoL xs) (d + 1) 44 [.int a0] (HP c r) (some (.int p)) (HP c r) 0 0 := mBig_of (by decide) rfl rfl rfl rfl (t_Lots_stateFrom N d xs c r a0 p hp)
/-! ColdHolds$Lots.noteStates(LColdHolds$Air;I)V, from (('r', 15), ('r', 7), 'i') -/
def Lots_noteStates_p54 (N : Nat) (kb2 : St → Int32 → Int32 → Option (St)) (kb24 : St → Int32 → Int32 → Int32 → Int32 → Option (St)) (c : St) (x2 : Int32) (x3 : Int32) (x4 : Int32) (x5 : Int32) : Option (St) :=
  kb24 c x2 x3 x4 (x5 + 1)
def Lots_noteStates_p24b (N : Nat) (kb2 : St → Int32 → Int32 → Option (St)) (kb24 : St → Int32 → Int32 → Int32 → Int32 → Option (St)) (c : St) (x2 : Int32) (x3 : Int32) (x4 : Int32) (x5 : Int32) : Option (St) :=
  (if x4 ≤ x5 then kb2 c x2 (x3 + 1) else (rwi x3 20).bind fun q5 => (ld (gA c (14 + q5)) x5).bind fun y6 => (if ¬ y6 = (-1) then Lots_noteStates_p54 N kb2 kb24 c x2 x3 x4 x5 else (rwi x3 20).bind fun q8 => (sto (gA c (14 + q8)) x5 x2).bind fun w9 => Lots_noteStates_p54 N kb2 kb24 (sA c (14 + q8) w9) x2 x3 x4 x5))
def Lots_noteStates_p24 (N : Nat) (kb2 : St → Int32 → Int32 → Option (St)) : Nat → St → Int32 → Int32 → Int32 → Int32 → Option (St)
  | 0 => fun _ _ _ _ _ => none
  | n + 1 => Lots_noteStates_p24b N kb2 (Lots_noteStates_p24 N kb2 n)
def Lots_noteStates_p2b (N : Nat) (kb2 : St → Int32 → Int32 → Option (St)) (c : St) (x2 : Int32) (x3 : Int32) : Option (St) :=
  (if (gI c 5) ≤ x3 then some c else (ld (gA c 6) x3).bind fun y2 => (Lots_stateFrom N y2).bind fun p3 => Lots_noteStates_p24 N kb2 N c x2 x3 p3 0)
def Lots_noteStates_p2 (N : Nat) : Nat → St → Int32 → Int32 → Option (St)
  | 0 => fun _ _ _ => none
  | n + 1 => Lots_noteStates_p2b N (Lots_noteStates_p2 N n)
def Lots_noteStates (N : Nat) (c : St) (x2 : Int32) : Option (St) :=
  Lots_noteStates_p2 N N c x2 0
set_option maxHeartbeats 8000000 in
set_option maxRecDepth 100000 in
theorem t_Lots_noteStates_p54 (N d : Nat) (xs : List Int32) (r : St) (kb2 : St → Int32 → Int32 → Option (St)) (hb2 : ∀ (c : St) (x2 : Int32) (x3 : Int32), Ok (mBig (mRoL xs) (d + 1)) (mRoL xs) 0 mK41 (fun p : St => (none, HP p r)) (kb2 c x2 x3) 2 [some (.ref 15), some (.ref 7), some (.int x2), some (.int x3), none, none] [] (HP c r)) (kb24 : St → Int32 → Int32 → Int32 → Int32 → Option (St)) (hb24 : ∀ (c : St) (x2 : Int32) (x3 : Int32) (x4 : Int32) (x5 : Int32), Ok (mBig (mRoL xs) (d + 1)) (mRoL xs) 0 mK41 (fun p : St => (none, HP p r)) (kb24 c x2 x3 x4 x5) 24 [some (.ref 15), some (.ref 7), some (.int x2), some (.int x3), some (.int x4), some (.int x5)] [] (HP c r)) (c : St) (x2 : Int32) (x3 : Int32) (x4 : Int32) (x5 : Int32) : Ok (mBig (mRoL xs) (d + 1)) (mRoL xs) 0 mK41 (fun p : St => (none, HP p r)) (Lots_noteStates_p54 N kb2 kb24 c x2 x3 x4 x5) 54 [some (.ref 15), some (.ref 7), some (.int x2), some (.int x3), some (.int x4), some (.int x5)] [] (HP c r) := by
  unfold Lots_noteStates_p54
  refine Ok_blk 2 (pc2 := 24) (lo2 := [some (.ref 15), some (.ref 7), some (.int x2), some (.int x3), some (.int x4), some (.int (x5 + 1))]) (st2 := []) rfl ?_
  refine Ok_drop (lo0 := [some (.ref 15), some (.ref 7), some (.int x2), some (.int x3), some (.int x4), some (.int (x5 + 1))]) ⟨Or.inr rfl, Or.inr rfl, Or.inr rfl, Or.inr rfl, Or.inr rfl, Or.inr rfl, trivial⟩ ?_
  exact hb24 c x2 x3 x4 (x5 + 1)
set_option maxHeartbeats 8000000 in
set_option maxRecDepth 100000 in
theorem t_Lots_noteStates_p24b (N d : Nat) (xs : List Int32) (r : St) (kb2 : St → Int32 → Int32 → Option (St)) (hb2 : ∀ (c : St) (x2 : Int32) (x3 : Int32), Ok (mBig (mRoL xs) (d + 1)) (mRoL xs) 0 mK41 (fun p : St => (none, HP p r)) (kb2 c x2 x3) 2 [some (.ref 15), some (.ref 7), some (.int x2), some (.int x3), none, none] [] (HP c r)) (kb24 : St → Int32 → Int32 → Int32 → Int32 → Option (St)) (hb24 : ∀ (c : St) (x2 : Int32) (x3 : Int32) (x4 : Int32) (x5 : Int32), Ok (mBig (mRoL xs) (d + 1)) (mRoL xs) 0 mK41 (fun p : St => (none, HP p r)) (kb24 c x2 x3 x4 x5) 24 [some (.ref 15), some (.ref 7), some (.int x2), some (.int x3), some (.int x4), some (.int x5)] [] (HP c r)) (c : St) (x2 : Int32) (x3 : Int32) (x4 : Int32) (x5 : Int32) : Ok (mBig (mRoL xs) (d + 1)) (mRoL xs) 0 mK41 (fun p : St => (none, HP p r)) (Lots_noteStates_p24b N kb2 kb24 c x2 x3 x4 x5) 24 [some (.ref 15), some (.ref 7), some (.int x2), some (.int x3), some (.int x4), some (.int x5)] [] (HP c r) := by
  unfold Lots_noteStates_p24b
  refine Ok_blk 3 (pc2 := (if x4 ≤ x5 then 60 else 31)) (lo2 := [some (.ref 15), some (.ref 7), some (.int x2), some (.int x3), some (.int x4), some (.int x5)]) (st2 := []) rfl ?_
  refine Ok_if (fun h4 => ?_) (fun h4 => ?_)
  · refine Ok_blk 2 (pc2 := 2) (lo2 := [some (.ref 15), some (.ref 7), some (.int x2), some (.int (x3 + 1)), some (.int x4), some (.int x5)]) (st2 := []) rfl ?_
    refine Ok_drop (lo0 := [some (.ref 15), some (.ref 7), some (.int x2), some (.int (x3 + 1)), none, none]) ⟨Or.inr rfl, Or.inr rfl, Or.inr rfl, Or.inr rfl, Or.inl rfl, Or.inl rfl, trivial⟩ ?_
    exact hb2 c x2 (x3 + 1)
  · refine Ok_blk 3 (pc2 := 36) (lo2 := [some (.ref 15), some (.ref 7), some (.int x2), some (.int x3), some (.int x4), some (.int x5)]) (st2 := [.int x3, .ref 19]) rfl ?_
    refine Ok_rw (b := 20) (n := 20) rfl rfl (fun j h => rowl_19 j h) (fun q5 hq5 => ?_)
    refine Ok_blk 1 (pc2 := 39) (lo2 := [some (.ref 15), some (.ref 7), some (.int x2), some (.int x3), some (.int x4), some (.int x5)]) (st2 := [.int x5, .ref (20 + q5)]) rfl ?_
    refine Ok_ld (l := (gA c (14 + q5))) rfl ((rows_19 hq5).row _ _ _) (fun y6 hy6 => ?_)
    refine Ok_blk 2 (pc2 := (if ¬ y6 = (-1) then 54 else 44)) (lo2 := [some (.ref 15), some (.ref 7), some (.int x2), some (.int x3), some (.int x4), some (.int x5)]) (st2 := []) rfl ?_
    refine Ok_if (fun h7 => ?_) (fun h7 => ?_)
    · refine Ok_drop (lo0 := [some (.ref 15), some (.ref 7), some (.int x2), some (.int x3), some (.int x4), some (.int x5)]) ⟨Or.inr rfl, Or.inr rfl, Or.inr rfl, Or.inr rfl, Or.inr rfl, Or.inr rfl, trivial⟩ ?_
      exact t_Lots_noteStates_p54 N d xs r kb2 hb2 kb24 hb24 c x2 x3 x4 x5
    · refine Ok_blk 3 (pc2 := 49) (lo2 := [some (.ref 15), some (.ref 7), some (.int x2), some (.int x3), some (.int x4), some (.int x5)]) (st2 := [.int x3, .ref 19]) rfl ?_
      refine Ok_rw (b := 20) (n := 20) rfl rfl (fun j h => rowl_19 j h) (fun q8 hq8 => ?_)
      refine Ok_blk 2 (pc2 := 53) (lo2 := [some (.ref 15), some (.ref 7), some (.int x2), some (.int x3), some (.int x4), some (.int x5)]) (st2 := [.int x2, .int x5, .ref (20 + q8)]) rfl ?_
      refine Ok_st (l := (gA c (14 + q8))) (hn := fun l' => HP (sA c (14 + q8) l') r) rfl ((rows_19 hq8).2 _ _).1 (fun l' => ((rows_19 hq8).2 _ _).2 l') (fun w9 hw9 => ?_)
      refine Ok_drop (lo0 := [some (.ref 15), some (.ref 7), some (.int x2), some (.int x3), some (.int x4), some (.int x5)]) ⟨Or.inr rfl, Or.inr rfl, Or.inr rfl, Or.inr rfl, Or.inr rfl, Or.inr rfl, trivial⟩ ?_
      exact t_Lots_noteStates_p54 N d xs r kb2 hb2 kb24 hb24 (sA c (14 + q8) w9) x2 x3 x4 x5
set_option maxHeartbeats 8000000 in
set_option maxRecDepth 100000 in
theorem t_Lots_noteStates_p24 (N d : Nat) (xs : List Int32) (r : St) (kb2 : St → Int32 → Int32 → Option (St)) (hb2 : ∀ (c : St) (x2 : Int32) (x3 : Int32), Ok (mBig (mRoL xs) (d + 1)) (mRoL xs) 0 mK41 (fun p : St => (none, HP p r)) (kb2 c x2 x3) 2 [some (.ref 15), some (.ref 7), some (.int x2), some (.int x3), none, none] [] (HP c r)) : ∀ (n : Nat) (c : St) (x2 : Int32) (x3 : Int32) (x4 : Int32) (x5 : Int32), Ok (mBig (mRoL xs) (d + 1)) (mRoL xs) 0 mK41 (fun p : St => (none, HP p r)) (Lots_noteStates_p24 N kb2 n c x2 x3 x4 x5) 24 [some (.ref 15), some (.ref 7), some (.int x2), some (.int x3), some (.int x4), some (.int x5)] [] (HP c r) := by
  intro n
  induction n with
  | zero => intro c x2 x3 x4 x5; exact Ok_none
  | succ n ih => intro c x2 x3 x4 x5; exact t_Lots_noteStates_p24b N d xs r kb2 hb2 (Lots_noteStates_p24 N kb2 n) ih c x2 x3 x4 x5
set_option maxHeartbeats 8000000 in
set_option maxRecDepth 100000 in
theorem t_Lots_noteStates_p2b (N d : Nat) (xs : List Int32) (r : St) (kb2 : St → Int32 → Int32 → Option (St)) (hb2 : ∀ (c : St) (x2 : Int32) (x3 : Int32), Ok (mBig (mRoL xs) (d + 1)) (mRoL xs) 0 mK41 (fun p : St => (none, HP p r)) (kb2 c x2 x3) 2 [some (.ref 15), some (.ref 7), some (.int x2), some (.int x3), none, none] [] (HP c r)) (c : St) (x2 : Int32) (x3 : Int32) : Ok (mBig (mRoL xs) (d + 1)) (mRoL xs) 0 mK41 (fun p : St => (none, HP p r)) (Lots_noteStates_p2b N kb2 c x2 x3) 2 [some (.ref 15), some (.ref 7), some (.int x2), some (.int x3), none, none] [] (HP c r) := by
  unfold Lots_noteStates_p2b
  refine Ok_blk 4 (pc2 := (if (gI c 5) ≤ x3 then 66 else 10)) (lo2 := [some (.ref 15), some (.ref 7), some (.int x2), some (.int x3), none, none]) (st2 := []) rfl ?_
  refine Ok_if (fun h1 => ?_) (fun h1 => ?_)
  · exact Ok_ret rfl rfl rfl
  · refine Ok_blk 3 (pc2 := 15) (lo2 := [some (.ref 15), some (.ref 7), some (.int x2), some (.int x3), none, none]) (st2 := [.int x3, .ref 9]) rfl ?_
    refine Ok_ld (l := (gA c 6)) rfl rfl (fun y2 hy2 => ?_)
    refine Ok_call (y := 44) (as := [.int y2]) (rest := []) (w := fun p3 => some (.int p3)) (h1 := fun p3 => HP c r) rfl rfl (fun x hx => tm_Lots_stateFrom N d xs c r y2 x hx) (fun p3 hp3 => ?_)
    refine Ok_blk 3 (pc2 := 24) (lo2 := [some (.ref 15), some (.ref 7), some (.int x2), some (.int x3), some (.int p3), some (.int 0)]) (st2 := []) rfl ?_
    refine Ok_drop (lo0 := [some (.ref 15), some (.ref 7), some (.int x2), some (.int x3), some (.int p3), some (.int 0)]) ⟨Or.inr rfl, Or.inr rfl, Or.inr rfl, Or.inr rfl, Or.inr rfl, Or.inr rfl, trivial⟩ ?_
    exact t_Lots_noteStates_p24 N d xs r kb2 hb2 N c x2 x3 p3 0
set_option maxHeartbeats 8000000 in
set_option maxRecDepth 100000 in
theorem t_Lots_noteStates_p2 (N d : Nat) (xs : List Int32) (r : St) : ∀ (n : Nat) (c : St) (x2 : Int32) (x3 : Int32), Ok (mBig (mRoL xs) (d + 1)) (mRoL xs) 0 mK41 (fun p : St => (none, HP p r)) (Lots_noteStates_p2 N n c x2 x3) 2 [some (.ref 15), some (.ref 7), some (.int x2), some (.int x3), none, none] [] (HP c r) := by
  intro n
  induction n with
  | zero => intro c x2 x3; exact Ok_none
  | succ n ih => intro c x2 x3; exact t_Lots_noteStates_p2b N d xs r (Lots_noteStates_p2 N n) ih c x2 x3
set_option maxHeartbeats 8000000 in
set_option maxRecDepth 100000 in
theorem t_Lots_noteStates (N d : Nat) (xs : List Int32) (r : St) (c : St) (x2 : Int32) : Ok (mBig (mRoL xs) (d + 1)) (mRoL xs) 0 mK41 (fun p : St => (none, HP p r)) (Lots_noteStates N c x2) 0 [some (.ref 15), some (.ref 7), some (.int x2), none, none, none] [] (HP c r) := by
  unfold Lots_noteStates
  refine Ok_blk 2 (pc2 := 2) (lo2 := [some (.ref 15), some (.ref 7), some (.int x2), some (.int 0), none, none]) (st2 := []) rfl ?_
  refine Ok_drop (lo0 := [some (.ref 15), some (.ref 7), some (.int x2), some (.int 0), none, none]) ⟨Or.inr rfl, Or.inr rfl, Or.inr rfl, Or.inr rfl, Or.inl rfl, Or.inl rfl, trivial⟩ ?_
  exact t_Lots_noteStates_p2 N d xs r N c x2 0
set_option maxHeartbeats 8000000 in
set_option maxRecDepth 100000 in
theorem tm_Lots_noteStates (N d : Nat) (xs : List Int32) (c r : St) (a2 : Int32) (p : St) (hp : Lots_noteStates N c a2 = some p) : mBig (mRoL xs) (d + 2) 41 [.ref 15, .ref 7, .int a2] (HP c r) (none) (HP p r) 0 0 := mBig_of (by decide) rfl rfl rfl rfl (t_Lots_noteStates N d xs r c a2 p hp)
/-! ColdHolds.hours(I)I, from (('r', 0), 'i') -/
def C_hours_p93 (N : Nat) (kb36 : St → Int32 → Int32 → Int32 → Option (Int32 × St)) (c : St) (x1 : Int32) (x2 : Int32) (x3 : Int32) (x4 : Int32) : Option (Int32 × St) :=
  (Lots_spoilIn N c).bind fun p9 => (Lots_noteStates N p9 x4).bind fun p10 => kb36 (sI p10 1 ((gI p10 1) + 1)) x1 x2 (x3 + 1)
def C_hours_p84 (N : Nat) (kb36 : St → Int32 → Int32 → Int32 → Option (Int32 × St)) (c : St) (x1 : Int32) (x2 : Int32) (x3 : Int32) (x4 : Int32) (s2 : Int32) (s3 : Int32) : Option (Int32 × St) :=
  (Air_pass N c s2 s3).bind fun p7 => (if p7.1 = 0 then C_hours_p93 N kb36 p7.2 x1 x2 x3 x4 else C_hours_p93 N kb36 p7.2 x1 (x2 + 1) x3 x4)
def C_hours_p36b (N : Nat) (kb36 : St → Int32 → Int32 → Int32 → Option (Int32 × St)) (c : St) (x1 : Int32) (x2 : Int32) (x3 : Int32) : Option (Int32 × St) :=
  (if x1 ≤ x3 then some (x2, c) else (Hold_seaOf N c (gI c 1)).bind fun p5 => (if (gI c 2) ≤ (gI c 1) then C_hours_p84 N kb36 c x1 x2 x3 (gI c 1) p5 0 else C_hours_p84 N kb36 c x1 x2 x3 (gI c 1) p5 1))
def C_hours_p36 (N : Nat) : Nat → St → Int32 → Int32 → Int32 → Option (Int32 × St)
  | 0 => fun _ _ _ _ => none
  | n + 1 => C_hours_p36b N (C_hours_p36 N n)
def C_hours (N : Nat) (c : St) (x1 : Int32) : Option (Int32 × St) :=
  (C_within N x1 1 300).bind fun p1 => (if ¬ p1 = 0 then (if ((gI c 1) + x1) ≤ 1200 then C_hours_p36 N N c x1 0 0 else some ((-103), c)) else some ((-102), c))
set_option maxHeartbeats 8000000 in
set_option maxRecDepth 100000 in
theorem t_C_hours_p93 (N d : Nat) (xs : List Int32) (r : St) (kb36 : St → Int32 → Int32 → Int32 → Option (Int32 × St)) (hb36 : ∀ (c : St) (x1 : Int32) (x2 : Int32) (x3 : Int32), Ok (mBig (mRoL xs) (d + 4)) (mRoL xs) 1 mK116 (fun p : Int32 × St => (some (.int p.1), HP p.2 r)) (kb36 c x1 x2 x3) 36 [some (.ref 0), some (.int x1), some (.int x2), some (.int x3), none] [] (HP c r)) (c : St) (x1 : Int32) (x2 : Int32) (x3 : Int32) (x4 : Int32) : Ok (mBig (mRoL xs) (d + 4)) (mRoL xs) 1 mK116 (fun p : Int32 × St => (some (.int p.1), HP p.2 r)) (C_hours_p93 N kb36 c x1 x2 x3 x4) 93 [some (.ref 0), some (.int x1), some (.int x2), some (.int x3), some (.int x4)] [] (HP c r) := by
  unfold C_hours_p93
  refine Ok_blk 4 (pc2 := 101) (lo2 := [some (.ref 0), some (.int x1), some (.int x2), some (.int x3), some (.int x4)]) (st2 := [.ref 7, .ref 15]) rfl ?_
  refine Ok_call (y := 40) (as := [.ref 15, .ref 7]) (rest := []) (w := fun p9 => none) (h1 := fun p9 => HP p9 r) rfl rfl (fun x hx => tm_Lots_spoilIn N d xs c r x hx) (fun p9 hp9 => ?_)
  refine Ok_blk 5 (pc2 := 114) (lo2 := [some (.ref 0), some (.int x1), some (.int x2), some (.int x3), some (.int x4)]) (st2 := [.int x4, .ref 7, .ref 15]) rfl ?_
  refine Ok_call (y := 41) (as := [.ref 15, .ref 7, .int x4]) (rest := []) (w := fun p10 => none) (h1 := fun p10 => HP p10 r) rfl rfl (fun x hx => tm_Lots_noteStates N (d + 2) xs p9 r x4 x hx) (fun p10 hp10 => ?_)
  refine Ok_heap 7 (pc2 := 130) (lo2 := [some (.ref 0), some (.int x1), some (.int x2), some (.int x3), some (.int x4)]) (st2 := []) (h2 := HP (sI p10 1 ((gI p10 1) + 1)) r) rfl (st_1_4 _ _ _) ?_
  refine Ok_blk 2 (pc2 := 36) (lo2 := [some (.ref 0), some (.int x1), some (.int x2), some (.int (x3 + 1)), some (.int x4)]) (st2 := []) rfl ?_
  refine Ok_drop (lo0 := [some (.ref 0), some (.int x1), some (.int x2), some (.int (x3 + 1)), none]) ⟨Or.inr rfl, Or.inr rfl, Or.inr rfl, Or.inr rfl, Or.inl rfl, trivial⟩ ?_
  exact hb36 (sI p10 1 ((gI p10 1) + 1)) x1 x2 (x3 + 1)
set_option maxHeartbeats 8000000 in
set_option maxRecDepth 100000 in
theorem t_C_hours_p84 (N d : Nat) (xs : List Int32) (r : St) (kb36 : St → Int32 → Int32 → Int32 → Option (Int32 × St)) (hb36 : ∀ (c : St) (x1 : Int32) (x2 : Int32) (x3 : Int32), Ok (mBig (mRoL xs) (d + 4)) (mRoL xs) 1 mK116 (fun p : Int32 × St => (some (.int p.1), HP p.2 r)) (kb36 c x1 x2 x3) 36 [some (.ref 0), some (.int x1), some (.int x2), some (.int x3), none] [] (HP c r)) (c : St) (x1 : Int32) (x2 : Int32) (x3 : Int32) (x4 : Int32) (s2 : Int32) (s3 : Int32) : Ok (mBig (mRoL xs) (d + 4)) (mRoL xs) 1 mK116 (fun p : Int32 × St => (some (.int p.1), HP p.2 r)) (C_hours_p84 N kb36 c x1 x2 x3 x4 s2 s3) 84 [some (.ref 0), some (.int x1), some (.int x2), some (.int x3), some (.int x4)] [.int s3, .int s2, .ref 1, .ref 7] (HP c r) := by
  unfold C_hours_p84
  refine Ok_call (y := 2) (as := [.ref 7, .ref 1, .int s2, .int s3]) (rest := []) (w := fun p7 => some (.int p7.1)) (h1 := fun p7 => HP p7.2 r) rfl rfl (fun x hx => tm_Air_pass N (d + 1) xs c r s2 s3 x hx) (fun p7 hp7 => ?_)
  refine Ok_blk 1 (pc2 := (if p7.1 = 0 then 93 else 90)) (lo2 := [some (.ref 0), some (.int x1), some (.int x2), some (.int x3), some (.int x4)]) (st2 := []) rfl ?_
  refine Ok_if (fun h8 => ?_) (fun h8 => ?_)
  · refine Ok_drop (lo0 := [some (.ref 0), some (.int x1), some (.int x2), some (.int x3), some (.int x4)]) ⟨Or.inr rfl, Or.inr rfl, Or.inr rfl, Or.inr rfl, Or.inr rfl, trivial⟩ ?_
    exact t_C_hours_p93 N d xs r kb36 hb36 p7.2 x1 x2 x3 x4
  · refine Ok_blk 1 (pc2 := 93) (lo2 := [some (.ref 0), some (.int x1), some (.int (x2 + 1)), some (.int x3), some (.int x4)]) (st2 := []) rfl ?_
    refine Ok_drop (lo0 := [some (.ref 0), some (.int x1), some (.int (x2 + 1)), some (.int x3), some (.int x4)]) ⟨Or.inr rfl, Or.inr rfl, Or.inr rfl, Or.inr rfl, Or.inr rfl, trivial⟩ ?_
    exact t_C_hours_p93 N d xs r kb36 hb36 p7.2 x1 (x2 + 1) x3 x4
set_option maxHeartbeats 8000000 in
set_option maxRecDepth 100000 in
theorem t_C_hours_p36b (N d : Nat) (xs : List Int32) (r : St) (kb36 : St → Int32 → Int32 → Int32 → Option (Int32 × St)) (hb36 : ∀ (c : St) (x1 : Int32) (x2 : Int32) (x3 : Int32), Ok (mBig (mRoL xs) (d + 4)) (mRoL xs) 1 mK116 (fun p : Int32 × St => (some (.int p.1), HP p.2 r)) (kb36 c x1 x2 x3) 36 [some (.ref 0), some (.int x1), some (.int x2), some (.int x3), none] [] (HP c r)) (c : St) (x1 : Int32) (x2 : Int32) (x3 : Int32) : Ok (mBig (mRoL xs) (d + 4)) (mRoL xs) 1 mK116 (fun p : Int32 × St => (some (.int p.1), HP p.2 r)) (C_hours_p36b N kb36 c x1 x2 x3) 36 [some (.ref 0), some (.int x1), some (.int x2), some (.int x3), none] [] (HP c r) := by
  unfold C_hours_p36b
  refine Ok_blk 3 (pc2 := (if x1 ≤ x3 then 136 else 41)) (lo2 := [some (.ref 0), some (.int x1), some (.int x2), some (.int x3), none]) (st2 := []) rfl ?_
  refine Ok_if (fun h4 => ?_) (fun h4 => ?_)
  · refine Ok_blk 1 (pc2 := 137) (lo2 := [some (.ref 0), some (.int x1), some (.int x2), some (.int x3), none]) (st2 := [.int x2]) rfl ?_
    exact Ok_ret rfl rfl rfl
  · refine Ok_blk 11 (pc2 := 64) (lo2 := [some (.ref 0), some (.int x1), some (.int x2), some (.int x3), some (.int (gI c 1))]) (st2 := [.int (gI c 1), .ref 1, .ref 1, .ref 7]) rfl ?_
    refine Ok_call (y := 31) (as := [.ref 1, .int (gI c 1)]) (rest := [.ref 1, .ref 7]) (w := fun p5 => some (.int p5)) (h1 := fun p5 => HP c r) rfl rfl (fun x hx => tm_Hold_seaOf N (d + 3) xs c r (gI c 1) x hx) (fun p5 hp5 => ?_)
    refine Ok_blk 5 (pc2 := (if (gI c 2) ≤ (gI c 1) then 83 else 79)) (lo2 := [some (.ref 0), some (.int x1), some (.int x2), some (.int x3), some (.int (gI c 1))]) (st2 := [.int p5, .ref 1, .ref 7]) rfl ?_
    refine Ok_if (fun h6 => ?_) (fun h6 => ?_)
    · refine Ok_blk 1 (pc2 := 84) (lo2 := [some (.ref 0), some (.int x1), some (.int x2), some (.int x3), some (.int (gI c 1))]) (st2 := [.int 0, .int p5, .ref 1, .ref 7]) rfl ?_
      refine Ok_drop (lo0 := [some (.ref 0), some (.int x1), some (.int x2), some (.int x3), some (.int (gI c 1))]) ⟨Or.inr rfl, Or.inr rfl, Or.inr rfl, Or.inr rfl, Or.inr rfl, trivial⟩ ?_
      exact t_C_hours_p84 N d xs r kb36 hb36 c x1 x2 x3 (gI c 1) p5 0
    · refine Ok_blk 2 (pc2 := 84) (lo2 := [some (.ref 0), some (.int x1), some (.int x2), some (.int x3), some (.int (gI c 1))]) (st2 := [.int 1, .int p5, .ref 1, .ref 7]) rfl ?_
      refine Ok_drop (lo0 := [some (.ref 0), some (.int x1), some (.int x2), some (.int x3), some (.int (gI c 1))]) ⟨Or.inr rfl, Or.inr rfl, Or.inr rfl, Or.inr rfl, Or.inr rfl, trivial⟩ ?_
      exact t_C_hours_p84 N d xs r kb36 hb36 c x1 x2 x3 (gI c 1) p5 1
set_option maxHeartbeats 8000000 in
set_option maxRecDepth 100000 in
theorem t_C_hours_p36 (N d : Nat) (xs : List Int32) (r : St) : ∀ (n : Nat) (c : St) (x1 : Int32) (x2 : Int32) (x3 : Int32), Ok (mBig (mRoL xs) (d + 4)) (mRoL xs) 1 mK116 (fun p : Int32 × St => (some (.int p.1), HP p.2 r)) (C_hours_p36 N n c x1 x2 x3) 36 [some (.ref 0), some (.int x1), some (.int x2), some (.int x3), none] [] (HP c r) := by
  intro n
  induction n with
  | zero => intro c x1 x2 x3; exact Ok_none
  | succ n ih => intro c x1 x2 x3; exact t_C_hours_p36b N d xs r (C_hours_p36 N n) ih c x1 x2 x3
set_option maxHeartbeats 8000000 in
set_option maxRecDepth 100000 in
theorem t_C_hours (N d : Nat) (xs : List Int32) (r : St) (c : St) (x1 : Int32) : Ok (mBig (mRoL xs) (d + 4)) (mRoL xs) 1 mK116 (fun p : Int32 × St => (some (.int p.1), HP p.2 r)) (C_hours N c x1) 0 [some (.ref 0), some (.int x1), none, none, none] [] (HP c r) := by
  unfold C_hours
  refine Ok_blk 3 (pc2 := 5) (lo2 := [some (.ref 0), some (.int x1), none, none, none]) (st2 := [.int 300, .int 1, .int x1]) rfl ?_
  refine Ok_call (y := 102) (as := [.int x1, .int 1, .int 300]) (rest := []) (w := fun p1 => some (.int p1)) (h1 := fun p1 => HP c r) rfl rfl (fun x hx => tm_C_within N (d + 3) xs c r x1 1 300 x hx) (fun p1 hp1 => ?_)
  refine Ok_blk 1 (pc2 := (if ¬ p1 = 0 then 14 else 11)) (lo2 := [some (.ref 0), some (.int x1), none, none, none]) (st2 := []) rfl ?_
  refine Ok_if (fun h2 => ?_) (fun h2 => ?_)
  · refine Ok_blk 7 (pc2 := (if ((gI c 1) + x1) ≤ 1200 then 32 else 29)) (lo2 := [some (.ref 0), some (.int x1), none, none, none]) (st2 := []) rfl ?_
    refine Ok_if (fun h3 => ?_) (fun h3 => ?_)
    · refine Ok_blk 4 (pc2 := 36) (lo2 := [some (.ref 0), some (.int x1), some (.int 0), some (.int 0), none]) (st2 := []) rfl ?_
      refine Ok_drop (lo0 := [some (.ref 0), some (.int x1), some (.int 0), some (.int 0), none]) ⟨Or.inr rfl, Or.inr rfl, Or.inr rfl, Or.inr rfl, Or.inl rfl, trivial⟩ ?_
      exact t_C_hours_p36 N d xs r N c x1 0 0
    · refine Ok_blk 1 (pc2 := 31) (lo2 := [some (.ref 0), some (.int x1), none, none, none]) (st2 := [.int (-103)]) rfl ?_
      exact Ok_ret rfl rfl rfl
  · refine Ok_blk 1 (pc2 := 13) (lo2 := [some (.ref 0), some (.int x1), none, none, none]) (st2 := [.int (-102)]) rfl ?_
    exact Ok_ret rfl rfl rfl
set_option maxHeartbeats 8000000 in
set_option maxRecDepth 100000 in
theorem tm_C_hours (N d : Nat) (xs : List Int32) (c r : St) (a1 : Int32) (p : Int32 × St) (hp : C_hours N c a1 = some p) : mBig (mRoL xs) (d + 5) 116 [.ref 0, .int a1] (HP c r) (some (.int p.1)) (HP p.2 r) 0 0 := mBig_of (by decide) rfl rfl rfl rfl (t_C_hours N d xs r c a1 p hp)
/-! ColdHoldsModel.startAsNow()V, from (('r', 115),) -/
def R_startAsNow_p28b (N : Nat) (kb28 : St → Int32 → Option (St)) (r : St) (x1 : Int32) : Option (St) :=
  (if (gI r 7) ≤ x1 then some (sI (sI (sI r 27 (gI r 3)) 28 (gI (sI r 27 (gI r 3)) 4)) 29 (gI (sI (sI r 27 (gI r 3)) 28 (gI (sI r 27 (gI r 3)) 4)) 5)) else (ld (gA r 7) x1).bind fun y3 => (sto (gA r 31) x1 y3).bind fun w4 => kb28 (sA r 31 w4) (x1 + 1))
def R_startAsNow_p28 (N : Nat) : Nat → St → Int32 → Option (St)
  | 0 => fun _ _ => none
  | n + 1 => R_startAsNow_p28b N (R_startAsNow_p28 N n)
def R_startAsNow_p2b (N : Nat) (kb2 : St → Int32 → Option (St)) (r : St) (x1 : Int32) : Option (St) :=
  (if 12 ≤ x1 then R_startAsNow_p28 N N r 0 else (ld (gA r 0) x1).bind fun y5 => (sto (gA r 29) x1 y5).bind fun w6 => kb2 (sA r 29 w6) (x1 + 1))
def R_startAsNow_p2 (N : Nat) : Nat → St → Int32 → Option (St)
  | 0 => fun _ _ => none
  | n + 1 => R_startAsNow_p2b N (R_startAsNow_p2 N n)
def R_startAsNow (N : Nat) (r : St) : Option (St) :=
  R_startAsNow_p2 N N r 0
set_option maxHeartbeats 8000000 in
set_option maxRecDepth 100000 in
theorem t_R_startAsNow_p28b (N d : Nat) (xs : List Int32) (c : St) (kb28 : St → Int32 → Option (St)) (hb28 : ∀ (r : St) (x1 : Int32), Ok (mBig (mRoL xs) (d)) (mRoL xs) 0 mK176 (fun p : St => (none, HP c p)) (kb28 r x1) 28 [some (.ref 115), some (.int x1)] [] (HP c r)) (r : St) (x1 : Int32) : Ok (mBig (mRoL xs) (d)) (mRoL xs) 0 mK176 (fun p : St => (none, HP c p)) (R_startAsNow_p28b N kb28 r x1) 28 [some (.ref 115), some (.int x1)] [] (HP c r) := by
  unfold R_startAsNow_p28b
  refine Ok_blk 4 (pc2 := (if (gI r 7) ≤ x1 then 54 else 36)) (lo2 := [some (.ref 115), some (.int x1)]) (st2 := []) rfl ?_
  refine Ok_if (fun h2 => ?_) (fun h2 => ?_)
  · refine Ok_heap 4 (pc2 := 62) (lo2 := [some (.ref 115), some (.int x1)]) (st2 := []) (h2 := HP c (sI r 27 (gI r 3))) rfl (st_115_59 _ _ _) ?_
    refine Ok_heap 4 (pc2 := 70) (lo2 := [some (.ref 115), some (.int x1)]) (st2 := []) (h2 := HP c (sI (sI r 27 (gI r 3)) 28 (gI (sI r 27 (gI r 3)) 4))) rfl (st_115_60 _ _ _) ?_
    refine Ok_heap 4 (pc2 := 78) (lo2 := [some (.ref 115), some (.int x1)]) (st2 := []) (h2 := HP c (sI (sI (sI r 27 (gI r 3)) 28 (gI (sI r 27 (gI r 3)) 4)) 29 (gI (sI (sI r 27 (gI r 3)) 28 (gI (sI r 27 (gI r 3)) 4)) 5))) rfl (st_115_61 _ _ _) ?_
    exact Ok_ret rfl rfl rfl
  · refine Ok_blk 6 (pc2 := 46) (lo2 := [some (.ref 115), some (.int x1)]) (st2 := [.int x1, .ref 123, .int x1, .ref 147]) rfl ?_
    refine Ok_ld (l := (gA r 7)) rfl rfl (fun y3 hy3 => ?_)
    refine Ok_st (l := (gA r 31)) (hn := fun l' => HP c (sA r 31 l')) rfl rfl (fun l' => sa_147 _ _ l') (fun w4 hw4 => ?_)
    refine Ok_blk 2 (pc2 := 28) (lo2 := [some (.ref 115), some (.int (x1 + 1))]) (st2 := []) rfl ?_
    refine Ok_drop (lo0 := [some (.ref 115), some (.int (x1 + 1))]) ⟨Or.inr rfl, Or.inr rfl, trivial⟩ ?_
    exact hb28 (sA r 31 w4) (x1 + 1)
set_option maxHeartbeats 8000000 in
set_option maxRecDepth 100000 in
theorem t_R_startAsNow_p28 (N d : Nat) (xs : List Int32) (c : St) : ∀ (n : Nat) (r : St) (x1 : Int32), Ok (mBig (mRoL xs) (d)) (mRoL xs) 0 mK176 (fun p : St => (none, HP c p)) (R_startAsNow_p28 N n r x1) 28 [some (.ref 115), some (.int x1)] [] (HP c r) := by
  intro n
  induction n with
  | zero => intro r x1; exact Ok_none
  | succ n ih => intro r x1; exact t_R_startAsNow_p28b N d xs c (R_startAsNow_p28 N n) ih r x1
set_option maxHeartbeats 8000000 in
set_option maxRecDepth 100000 in
theorem t_R_startAsNow_p2b (N d : Nat) (xs : List Int32) (c : St) (kb2 : St → Int32 → Option (St)) (hb2 : ∀ (r : St) (x1 : Int32), Ok (mBig (mRoL xs) (d)) (mRoL xs) 0 mK176 (fun p : St => (none, HP c p)) (kb2 r x1) 2 [some (.ref 115), some (.int x1)] [] (HP c r)) (r : St) (x1 : Int32) : Ok (mBig (mRoL xs) (d)) (mRoL xs) 0 mK176 (fun p : St => (none, HP c p)) (R_startAsNow_p2b N kb2 r x1) 2 [some (.ref 115), some (.int x1)] [] (HP c r) := by
  unfold R_startAsNow_p2b
  refine Ok_blk 3 (pc2 := (if 12 ≤ x1 then 26 else 8)) (lo2 := [some (.ref 115), some (.int x1)]) (st2 := []) rfl ?_
  refine Ok_if (fun h1 => ?_) (fun h1 => ?_)
  · refine Ok_blk 2 (pc2 := 28) (lo2 := [some (.ref 115), some (.int 0)]) (st2 := []) rfl ?_
    refine Ok_drop (lo0 := [some (.ref 115), some (.int 0)]) ⟨Or.inr rfl, Or.inr rfl, trivial⟩ ?_
    exact t_R_startAsNow_p28 N d xs c N r 0
  · refine Ok_blk 6 (pc2 := 18) (lo2 := [some (.ref 115), some (.int x1)]) (st2 := [.int x1, .ref 116, .int x1, .ref 145]) rfl ?_
    refine Ok_ld (l := (gA r 0)) rfl rfl (fun y5 hy5 => ?_)
    refine Ok_st (l := (gA r 29)) (hn := fun l' => HP c (sA r 29 l')) rfl rfl (fun l' => sa_145 _ _ l') (fun w6 hw6 => ?_)
    refine Ok_blk 2 (pc2 := 2) (lo2 := [some (.ref 115), some (.int (x1 + 1))]) (st2 := []) rfl ?_
    refine Ok_drop (lo0 := [some (.ref 115), some (.int (x1 + 1))]) ⟨Or.inr rfl, Or.inr rfl, trivial⟩ ?_
    exact hb2 (sA r 29 w6) (x1 + 1)
set_option maxHeartbeats 8000000 in
set_option maxRecDepth 100000 in
theorem t_R_startAsNow_p2 (N d : Nat) (xs : List Int32) (c : St) : ∀ (n : Nat) (r : St) (x1 : Int32), Ok (mBig (mRoL xs) (d)) (mRoL xs) 0 mK176 (fun p : St => (none, HP c p)) (R_startAsNow_p2 N n r x1) 2 [some (.ref 115), some (.int x1)] [] (HP c r) := by
  intro n
  induction n with
  | zero => intro r x1; exact Ok_none
  | succ n ih => intro r x1; exact t_R_startAsNow_p2b N d xs c (R_startAsNow_p2 N n) ih r x1
set_option maxHeartbeats 8000000 in
set_option maxRecDepth 100000 in
theorem t_R_startAsNow (N d : Nat) (xs : List Int32) (c : St) (r : St) : Ok (mBig (mRoL xs) (d)) (mRoL xs) 0 mK176 (fun p : St => (none, HP c p)) (R_startAsNow N r) 0 [some (.ref 115), none] [] (HP c r) := by
  unfold R_startAsNow
  refine Ok_blk 2 (pc2 := 2) (lo2 := [some (.ref 115), some (.int 0)]) (st2 := []) rfl ?_
  refine Ok_drop (lo0 := [some (.ref 115), some (.int 0)]) ⟨Or.inr rfl, Or.inr rfl, trivial⟩ ?_
  exact t_R_startAsNow_p2 N d xs c N r 0
set_option maxHeartbeats 8000000 in
set_option maxRecDepth 100000 in
theorem tm_R_startAsNow (N d : Nat) (xs : List Int32) (c r : St) (p : St) (hp : R_startAsNow N r = some p) : mBig (mRoL xs) (d + 1) 176 [.ref 115] (HP c r) (none) (HP c p) 0 0 := mBig_of (by decide) rfl rfl rfl rfl (t_R_startAsNow N d xs c r p hp)
/-! ColdHoldsModel.floorBy(II)I, from ('i', 'i') -/
def R_floorBy (N : Nat) (x0 : Int32) (x1 : Int32) : Option (Int32) :=
  (if x0 < 0 then (dv ((x1 - 1) - x0) x1).bind fun y2 => some (-y2) else (dv x0 x1).bind fun y3 => some y3)
set_option maxHeartbeats 8000000 in
set_option maxRecDepth 100000 in
theorem t_R_floorBy (N d : Nat) (xs : List Int32) (c : St) (r : St) (x0 : Int32) (x1 : Int32) : Ok (mBig (mRoL xs) (d)) (mRoL xs) 1 mK166 (fun p : Int32 => (some (.int p), HP c r)) (R_floorBy N x0 x1) 0 [some (.int x0), some (.int x1)] [] (HP c r) := by
  unfold R_floorBy
  refine Ok_blk 2 (pc2 := (if x0 < 0 then 10 else 4)) (lo2 := [some (.int x0), some (.int x1)]) (st2 := []) rfl ?_
  refine Ok_if (fun h1 => ?_) (fun h1 => ?_)
  · refine Ok_blk 6 (pc2 := 16) (lo2 := [some (.int x0), some (.int x1)]) (st2 := [.int x1, .int ((x1 - 1) - x0)]) rfl ?_
    refine Ok_dv rfl (fun y2 hy2 => ?_)
    refine Ok_blk 1 (pc2 := 18) (lo2 := [some (.int x0), some (.int x1)]) (st2 := [.int (-y2)]) rfl ?_
    exact Ok_ret rfl rfl rfl
  · refine Ok_blk 2 (pc2 := 6) (lo2 := [some (.int x0), some (.int x1)]) (st2 := [.int x1, .int x0]) rfl ?_
    refine Ok_dv rfl (fun y3 hy3 => ?_)
    refine Ok_blk 1 (pc2 := 18) (lo2 := [some (.int x0), some (.int x1)]) (st2 := [.int y3]) rfl ?_
    exact Ok_ret rfl rfl rfl
set_option maxHeartbeats 8000000 in
set_option maxRecDepth 100000 in
theorem tm_R_floorBy (N d : Nat) (xs : List Int32) (c r : St) (a0 : Int32) (a1 : Int32) (p : Int32) (hp : R_floorBy N a0 a1 = some p) : mBig (mRoL xs) (d + 1) 166 [.int a0, .int a1] (HP c r) (some (.int p)) (HP c r) 0 0 := mBig_of (by decide) rfl rfl rfl rfl (t_R_floorBy N d xs c r a0 a1 p hp)
/-! ColdHoldsModel.besides(I)I, from (('r', 115), 'i') -/
def R_besides_p112 (N : Nat) (r : St) (s0 : Int32) (s1 : Int32) : Option (Int32) :=
  some (s0 + s1)
def R_besides_p83 (N : Nat) (r : St) (x1 : Int32) (s0 : Int32) (s1 : Int32) : Option (Int32) :=
  (rm x1 4).bind fun y5 => (if 3 ≤ y5 then R_besides_p112 N r (s0 + s1) 0 else (ld (gA r 30) (x1 + 1)).bind fun y7 => (ld (gA r 30) x1).bind fun y8 => R_besides_p112 N r (s0 + s1) (y7 - y8))
def R_besides_p55 (N : Nat) (r : St) (x1 : Int32) (s0 : Int32) (s1 : Int32) : Option (Int32) :=
  (rm x1 4).bind fun y3 => (if y3 ≤ 0 then R_besides_p83 N r x1 (s0 + s1) 0 else (ld (gA r 30) (x1 - 1)).bind fun y9 => (ld (gA r 30) x1).bind fun y10 => R_besides_p83 N r x1 (s0 + s1) (y9 - y10))
def R_besides_p27 (N : Nat) (r : St) (x1 : Int32) (s0 : Int32) (s1 : Int32) : Option (Int32) :=
  (if 8 ≤ x1 then R_besides_p55 N r x1 (s0 + s1) 0 else (ld (gA r 30) (x1 + 4)).bind fun y11 => (ld (gA r 30) x1).bind fun y12 => R_besides_p55 N r x1 (s0 + s1) (y11 - y12))
def R_besides (N : Nat) (r : St) (x1 : Int32) : Option (Int32) :=
  (if x1 < 4 then R_besides_p27 N r x1 0 0 else (ld (gA r 30) (x1 - 4)).bind fun y13 => (ld (gA r 30) x1).bind fun y14 => R_besides_p27 N r x1 0 (y13 - y14))
set_option maxHeartbeats 8000000 in
set_option maxRecDepth 100000 in
theorem t_R_besides_p112 (N d : Nat) (xs : List Int32) (c : St) (r : St) (s0 : Int32) (s1 : Int32) : Ok (mBig (mRoL xs) (d)) (mRoL xs) 1 mK177 (fun p : Int32 => (some (.int p), HP c r)) (R_besides_p112 N r s0 s1) 112 [none, none, none] [.int s1, .int s0] (HP c r) := by
  unfold R_besides_p112
  refine Ok_blk 3 (pc2 := 115) (lo2 := [none, none, some (.int (s0 + s1))]) (st2 := [.int (s0 + s1)]) rfl ?_
  exact Ok_ret rfl rfl rfl
set_option maxHeartbeats 8000000 in
set_option maxRecDepth 100000 in
theorem t_R_besides_p83 (N d : Nat) (xs : List Int32) (c : St) (r : St) (x1 : Int32) (s0 : Int32) (s1 : Int32) : Ok (mBig (mRoL xs) (d)) (mRoL xs) 1 mK177 (fun p : Int32 => (some (.int p), HP c r)) (R_besides_p83 N r x1 s0 s1) 83 [some (.ref 115), some (.int x1), none] [.int s1, .int s0] (HP c r) := by
  unfold R_besides_p83
  refine Ok_blk 5 (pc2 := 88) (lo2 := [some (.ref 115), some (.int x1), some (.int (s0 + s1))]) (st2 := [.int 4, .int x1, .int (s0 + s1)]) rfl ?_
  refine Ok_rm rfl (fun y5 hy5 => ?_)
  refine Ok_blk 2 (pc2 := (if 3 ≤ y5 then 111 else 93)) (lo2 := [some (.ref 115), some (.int x1), some (.int (s0 + s1))]) (st2 := [.int (s0 + s1)]) rfl ?_
  refine Ok_if (fun h6 => ?_) (fun h6 => ?_)
  · refine Ok_blk 1 (pc2 := 112) (lo2 := [some (.ref 115), some (.int x1), some (.int (s0 + s1))]) (st2 := [.int 0, .int (s0 + s1)]) rfl ?_
    refine Ok_drop (lo0 := [none, none, none]) ⟨Or.inl rfl, Or.inl rfl, Or.inl rfl, trivial⟩ ?_
    exact t_R_besides_p112 N d xs c r (s0 + s1) 0
  · refine Ok_blk 5 (pc2 := 100) (lo2 := [some (.ref 115), some (.int x1), some (.int (s0 + s1))]) (st2 := [.int (x1 + 1), .ref 146, .int (s0 + s1)]) rfl ?_
    refine Ok_ld (l := (gA r 30)) rfl rfl (fun y7 hy7 => ?_)
    refine Ok_blk 3 (pc2 := 106) (lo2 := [some (.ref 115), some (.int x1), some (.int (s0 + s1))]) (st2 := [.int x1, .ref 146, .int y7, .int (s0 + s1)]) rfl ?_
    refine Ok_ld (l := (gA r 30)) rfl rfl (fun y8 hy8 => ?_)
    refine Ok_blk 2 (pc2 := 112) (lo2 := [some (.ref 115), some (.int x1), some (.int (s0 + s1))]) (st2 := [.int (y7 - y8), .int (s0 + s1)]) rfl ?_
    refine Ok_drop (lo0 := [none, none, none]) ⟨Or.inl rfl, Or.inl rfl, Or.inl rfl, trivial⟩ ?_
    exact t_R_besides_p112 N d xs c r (s0 + s1) (y7 - y8)
set_option maxHeartbeats 8000000 in
set_option maxRecDepth 100000 in
theorem t_R_besides_p55 (N d : Nat) (xs : List Int32) (c : St) (r : St) (x1 : Int32) (s0 : Int32) (s1 : Int32) : Ok (mBig (mRoL xs) (d)) (mRoL xs) 1 mK177 (fun p : Int32 => (some (.int p), HP c r)) (R_besides_p55 N r x1 s0 s1) 55 [some (.ref 115), some (.int x1), none] [.int s1, .int s0] (HP c r) := by
  unfold R_besides_p55
  refine Ok_blk 5 (pc2 := 60) (lo2 := [some (.ref 115), some (.int x1), some (.int (s0 + s1))]) (st2 := [.int 4, .int x1, .int (s0 + s1)]) rfl ?_
  refine Ok_rm rfl (fun y3 hy3 => ?_)
  refine Ok_blk 1 (pc2 := (if y3 ≤ 0 then 82 else 64)) (lo2 := [some (.ref 115), some (.int x1), some (.int (s0 + s1))]) (st2 := [.int (s0 + s1)]) rfl ?_
  refine Ok_if (fun h4 => ?_) (fun h4 => ?_)
  · refine Ok_blk 1 (pc2 := 83) (lo2 := [some (.ref 115), some (.int x1), some (.int (s0 + s1))]) (st2 := [.int 0, .int (s0 + s1)]) rfl ?_
    refine Ok_drop (lo0 := [some (.ref 115), some (.int x1), none]) ⟨Or.inr rfl, Or.inr rfl, Or.inl rfl, trivial⟩ ?_
    exact t_R_besides_p83 N d xs c r x1 (s0 + s1) 0
  · refine Ok_blk 5 (pc2 := 71) (lo2 := [some (.ref 115), some (.int x1), some (.int (s0 + s1))]) (st2 := [.int (x1 - 1), .ref 146, .int (s0 + s1)]) rfl ?_
    refine Ok_ld (l := (gA r 30)) rfl rfl (fun y9 hy9 => ?_)
    refine Ok_blk 3 (pc2 := 77) (lo2 := [some (.ref 115), some (.int x1), some (.int (s0 + s1))]) (st2 := [.int x1, .ref 146, .int y9, .int (s0 + s1)]) rfl ?_
    refine Ok_ld (l := (gA r 30)) rfl rfl (fun y10 hy10 => ?_)
    refine Ok_blk 2 (pc2 := 83) (lo2 := [some (.ref 115), some (.int x1), some (.int (s0 + s1))]) (st2 := [.int (y9 - y10), .int (s0 + s1)]) rfl ?_
    refine Ok_drop (lo0 := [some (.ref 115), some (.int x1), none]) ⟨Or.inr rfl, Or.inr rfl, Or.inl rfl, trivial⟩ ?_
    exact t_R_besides_p83 N d xs c r x1 (s0 + s1) (y9 - y10)
set_option maxHeartbeats 8000000 in
set_option maxRecDepth 100000 in
theorem t_R_besides_p27 (N d : Nat) (xs : List Int32) (c : St) (r : St) (x1 : Int32) (s0 : Int32) (s1 : Int32) : Ok (mBig (mRoL xs) (d)) (mRoL xs) 1 mK177 (fun p : Int32 => (some (.int p), HP c r)) (R_besides_p27 N r x1 s0 s1) 27 [some (.ref 115), some (.int x1), none] [.int s1, .int s0] (HP c r) := by
  unfold R_besides_p27
  refine Ok_blk 6 (pc2 := (if 8 ≤ x1 then 54 else 36)) (lo2 := [some (.ref 115), some (.int x1), some (.int (s0 + s1))]) (st2 := [.int (s0 + s1)]) rfl ?_
  refine Ok_if (fun h2 => ?_) (fun h2 => ?_)
  · refine Ok_blk 1 (pc2 := 55) (lo2 := [some (.ref 115), some (.int x1), some (.int (s0 + s1))]) (st2 := [.int 0, .int (s0 + s1)]) rfl ?_
    refine Ok_drop (lo0 := [some (.ref 115), some (.int x1), none]) ⟨Or.inr rfl, Or.inr rfl, Or.inl rfl, trivial⟩ ?_
    exact t_R_besides_p55 N d xs c r x1 (s0 + s1) 0
  · refine Ok_blk 5 (pc2 := 43) (lo2 := [some (.ref 115), some (.int x1), some (.int (s0 + s1))]) (st2 := [.int (x1 + 4), .ref 146, .int (s0 + s1)]) rfl ?_
    refine Ok_ld (l := (gA r 30)) rfl rfl (fun y11 hy11 => ?_)
    refine Ok_blk 3 (pc2 := 49) (lo2 := [some (.ref 115), some (.int x1), some (.int (s0 + s1))]) (st2 := [.int x1, .ref 146, .int y11, .int (s0 + s1)]) rfl ?_
    refine Ok_ld (l := (gA r 30)) rfl rfl (fun y12 hy12 => ?_)
    refine Ok_blk 2 (pc2 := 55) (lo2 := [some (.ref 115), some (.int x1), some (.int (s0 + s1))]) (st2 := [.int (y11 - y12), .int (s0 + s1)]) rfl ?_
    refine Ok_drop (lo0 := [some (.ref 115), some (.int x1), none]) ⟨Or.inr rfl, Or.inr rfl, Or.inl rfl, trivial⟩ ?_
    exact t_R_besides_p55 N d xs c r x1 (s0 + s1) (y11 - y12)
set_option maxHeartbeats 8000000 in
set_option maxRecDepth 100000 in
theorem t_R_besides (N d : Nat) (xs : List Int32) (c : St) (r : St) (x1 : Int32) : Ok (mBig (mRoL xs) (d)) (mRoL xs) 1 mK177 (fun p : Int32 => (some (.int p), HP c r)) (R_besides N r x1) 0 [some (.ref 115), some (.int x1), none] [] (HP c r) := by
  unfold R_besides
  refine Ok_blk 6 (pc2 := (if x1 < 4 then 26 else 8)) (lo2 := [some (.ref 115), some (.int x1), some (.int 0)]) (st2 := [.int 0]) rfl ?_
  refine Ok_if (fun h1 => ?_) (fun h1 => ?_)
  · refine Ok_blk 1 (pc2 := 27) (lo2 := [some (.ref 115), some (.int x1), some (.int 0)]) (st2 := [.int 0, .int 0]) rfl ?_
    refine Ok_drop (lo0 := [some (.ref 115), some (.int x1), none]) ⟨Or.inr rfl, Or.inr rfl, Or.inl rfl, trivial⟩ ?_
    exact t_R_besides_p27 N d xs c r x1 0 0
  · refine Ok_blk 5 (pc2 := 15) (lo2 := [some (.ref 115), some (.int x1), some (.int 0)]) (st2 := [.int (x1 - 4), .ref 146, .int 0]) rfl ?_
    refine Ok_ld (l := (gA r 30)) rfl rfl (fun y13 hy13 => ?_)
    refine Ok_blk 3 (pc2 := 21) (lo2 := [some (.ref 115), some (.int x1), some (.int 0)]) (st2 := [.int x1, .ref 146, .int y13, .int 0]) rfl ?_
    refine Ok_ld (l := (gA r 30)) rfl rfl (fun y14 hy14 => ?_)
    refine Ok_blk 2 (pc2 := 27) (lo2 := [some (.ref 115), some (.int x1), some (.int 0)]) (st2 := [.int (y13 - y14), .int 0]) rfl ?_
    refine Ok_drop (lo0 := [some (.ref 115), some (.int x1), none]) ⟨Or.inr rfl, Or.inr rfl, Or.inl rfl, trivial⟩ ?_
    exact t_R_besides_p27 N d xs c r x1 0 (y13 - y14)
set_option maxHeartbeats 8000000 in
set_option maxRecDepth 100000 in
theorem tm_R_besides (N d : Nat) (xs : List Int32) (c r : St) (a1 : Int32) (p : Int32) (hp : R_besides N r a1 = some p) : mBig (mRoL xs) (d + 1) 177 [.ref 115, .int a1] (HP c r) (some (.int p)) (HP c r) 0 0 := mBig_of (by decide) rfl rfl rfl rfl (t_R_besides N d xs c r a1 p hp)
/-! ColdHoldsModel.spoils(II)I, from ('i', 'i') -/
def R_spoils_p18 (N : Nat) (x0 : Int32) (x1 : Int32) (s0 : Int32) : Option (Int32) :=
  (if x0 = 1 then some s0 else (if x0 = 2 then some s0 else (if x0 = 3 then (if ¬ s0 = 0 then some ((2 * s0) + 1) else some 0) else (if x0 = 4 then some 0 else (if x0 = 5 then (if x1 ≤ 100 then some 0 else some 1) else some 0)))))
def R_spoils (N : Nat) (x0 : Int32) (x1 : Int32) : Option (Int32) :=
  (if 0 ≤ (x1 + 50) then (dv (x1 + 50) 10).bind fun y2 => R_spoils_p18 N x0 x1 y2 else R_spoils_p18 N x0 x1 0)
set_option maxHeartbeats 8000000 in
set_option maxRecDepth 100000 in
theorem t_R_spoils_p18 (N d : Nat) (xs : List Int32) (c : St) (r : St) (x0 : Int32) (x1 : Int32) (s0 : Int32) : Ok (mBig (mRoL xs) (d)) (mRoL xs) 1 mK179 (fun p : Int32 => (some (.int p), HP c r)) (R_spoils_p18 N x0 x1 s0) 18 [some (.int x0), some (.int x1), none] [.int s0] (HP c r) := by
  unfold R_spoils_p18
  refine Ok_blk 3 (pc2 := mSw x0 [(1, 56), (2, 56), (3, 58), (4, 84), (5, 72)] 84) (lo2 := [some (.int x0), some (.int x1), some (.int s0)]) (st2 := []) rfl ?_
  refine Ok_sw (fun h3 => ?_) (fun h3 => ?_)
  · refine Ok_blk 1 (pc2 := 57) (lo2 := [some (.int x0), some (.int x1), some (.int s0)]) (st2 := [.int s0]) rfl ?_
    exact Ok_ret rfl rfl rfl
  refine Ok_sw (fun h4 => ?_) (fun h4 => ?_)
  · refine Ok_blk 1 (pc2 := 57) (lo2 := [some (.int x0), some (.int x1), some (.int s0)]) (st2 := [.int s0]) rfl ?_
    exact Ok_ret rfl rfl rfl
  refine Ok_sw (fun h5 => ?_) (fun h5 => ?_)
  · refine Ok_blk 2 (pc2 := (if ¬ s0 = 0 then 66 else 62)) (lo2 := [some (.int x0), some (.int x1), some (.int s0)]) (st2 := []) rfl ?_
    refine Ok_if (fun h6 => ?_) (fun h6 => ?_)
    · refine Ok_blk 5 (pc2 := 71) (lo2 := [some (.int x0), some (.int x1), some (.int s0)]) (st2 := [.int ((2 * s0) + 1)]) rfl ?_
      exact Ok_ret rfl rfl rfl
    · refine Ok_blk 2 (pc2 := 71) (lo2 := [some (.int x0), some (.int x1), some (.int s0)]) (st2 := [.int 0]) rfl ?_
      exact Ok_ret rfl rfl rfl
  refine Ok_sw (fun h7 => ?_) (fun h7 => ?_)
  · refine Ok_blk 1 (pc2 := 85) (lo2 := [some (.int x0), some (.int x1), some (.int s0)]) (st2 := [.int 0]) rfl ?_
    exact Ok_ret rfl rfl rfl
  refine Ok_sw (fun h8 => ?_) (fun h8 => ?_)
  · refine Ok_blk 3 (pc2 := (if x1 ≤ 100 then 82 else 78)) (lo2 := [some (.int x0), some (.int x1), some (.int s0)]) (st2 := []) rfl ?_
    refine Ok_if (fun h9 => ?_) (fun h9 => ?_)
    · refine Ok_blk 1 (pc2 := 83) (lo2 := [some (.int x0), some (.int x1), some (.int s0)]) (st2 := [.int 0]) rfl ?_
      exact Ok_ret rfl rfl rfl
    · refine Ok_blk 2 (pc2 := 83) (lo2 := [some (.int x0), some (.int x1), some (.int s0)]) (st2 := [.int 1]) rfl ?_
      exact Ok_ret rfl rfl rfl
  show Ok _ _ _ _ _ _ 84 _ _ _
  refine Ok_blk 1 (pc2 := 85) (lo2 := [some (.int x0), some (.int x1), some (.int s0)]) (st2 := [.int 0]) rfl ?_
  exact Ok_ret rfl rfl rfl
set_option maxHeartbeats 8000000 in
set_option maxRecDepth 100000 in
theorem t_R_spoils (N d : Nat) (xs : List Int32) (c : St) (r : St) (x0 : Int32) (x1 : Int32) : Ok (mBig (mRoL xs) (d)) (mRoL xs) 1 mK179 (fun p : Int32 => (some (.int p), HP c r)) (R_spoils N x0 x1) 0 [some (.int x0), some (.int x1), none] [] (HP c r) := by
  unfold R_spoils
  refine Ok_blk 4 (pc2 := (if 0 ≤ (x1 + 50) then 11 else 7)) (lo2 := [some (.int x0), some (.int x1), none]) (st2 := []) rfl ?_
  refine Ok_if (fun h1 => ?_) (fun h1 => ?_)
  · refine Ok_blk 4 (pc2 := 17) (lo2 := [some (.int x0), some (.int x1), none]) (st2 := [.int 10, .int (x1 + 50)]) rfl ?_
    refine Ok_dv rfl (fun y2 hy2 => ?_)
    refine Ok_drop (lo0 := [some (.int x0), some (.int x1), none]) ⟨Or.inr rfl, Or.inr rfl, Or.inl rfl, trivial⟩ ?_
    exact t_R_spoils_p18 N d xs c r x0 x1 y2
  · refine Ok_blk 2 (pc2 := 18) (lo2 := [some (.int x0), some (.int x1), none]) (st2 := [.int 0]) rfl ?_
    refine Ok_drop (lo0 := [some (.int x0), some (.int x1), none]) ⟨Or.inr rfl, Or.inr rfl, Or.inl rfl, trivial⟩ ?_
    exact t_R_spoils_p18 N d xs c r x0 x1 0
set_option maxHeartbeats 8000000 in
set_option maxRecDepth 100000 in
theorem tm_R_spoils (N d : Nat) (xs : List Int32) (c r : St) (a0 : Int32) (a1 : Int32) (p : Int32) (hp : R_spoils N a0 a1 = some p) : mBig (mRoL xs) (d + 1) 179 [.int a0, .int a1] (HP c r) (some (.int p)) (HP c r) 0 0 := mBig_of (by decide) rfl rfl rfl rfl (t_R_spoils N d xs c r a0 a1 p hp)
/-! ColdHoldsModel.anHour(I)Z, from (('r', 115), 'i') -/
def R_anHour_p175b (N : Nat) (kb175 : St → Int32 → Int32 → Option (Int32 × St)) (r : St) (x2 : Int32) (x3 : Int32) : Option (Int32 × St) :=
  (if (gI r 7) ≤ x3 then (gz x2).bind fun _ => some (x2, sI r 28 ((gI r 28) + 1)) else (ld (gA r 31) x3).bind fun y7 => (ld (gA r 5) x3).bind fun y8 => (ld (gA r 6) x3).bind fun y9 => (ld (gA r 29) y9).bind fun y10 => (R_spoils N y8 y10).bind fun p11 => (sto (gA r 31) x3 (y7 + p11)).bind fun w12 => kb175 (sA r 31 w12) x2 (x3 + 1))
def R_anHour_p175 (N : Nat) : Nat → St → Int32 → Int32 → Option (Int32 × St)
  | 0 => fun _ _ _ => none
  | n + 1 => R_anHour_p175b N (R_anHour_p175 N n)
def R_anHour_p166 (N : Nat) (kb77 : St → Int32 → Int32 → Int32 → Option (Int32 × St)) (r : St) (x1 : Int32) (x2 : Int32) (x3 : Int32) (s1 : Int32) (s2 : Int32) : Option (Int32 × St) :=
  (sto (gA r 29) s1 s2).bind fun w20 => kb77 (sA r 29 w20) x1 x2 (x3 + 1)
def R_anHour_p142 (N : Nat) (kb77 : St → Int32 → Int32 → Int32 → Option (Int32 × St)) (r : St) (x1 : Int32) (x2 : Int32) (x3 : Int32) (s0 : Int32) (s1 : Int32) : Option (Int32 × St) :=
  (if (-300) ≤ (s0 - s1) then R_anHour_p166 N kb77 r x1 x2 x3 x3 (s0 - s1) else R_anHour_p166 N kb77 r x1 x2 x3 x3 (-300))
def R_anHour_p141 (N : Nat) (kb77 : St → Int32 → Int32 → Int32 → Option (Int32 × St)) (r : St) (x1 : Int32) (x2 : Int32) (x3 : Int32) (s0 : Int32) : Option (Int32 × St) :=
  R_anHour_p142 N kb77 r x1 x2 x3 s0 0
def R_anHour_p77b (N : Nat) (kb77 : St → Int32 → Int32 → Int32 → Option (Int32 × St)) (r : St) (x1 : Int32) (x2 : Int32) (x3 : Int32) : Option (Int32 × St) :=
  (if 12 ≤ x3 then R_anHour_p175 N N r x2 0 else (ld (gA r 30) x3).bind fun y13 => (R_besides N r x3).bind fun p14 => (ld (gA r 1) x3).bind fun y15 => (ld (gA r 30) x3).bind fun y16 => (R_floorBy N (((gI r 0) * p14) + (y15 * (x1 - y16))) 100).bind fun p17 => (if x2 = 0 then R_anHour_p141 N kb77 r x1 x2 x3 (y13 + p17) else (ld (gA r 2) x3).bind fun y21 => (if y21 = 0 then R_anHour_p141 N kb77 r x1 x2 x3 (y13 + p17) else R_anHour_p142 N kb77 r x1 x2 x3 (y13 + p17) (gI r 1))))
def R_anHour_p77 (N : Nat) : Nat → St → Int32 → Int32 → Int32 → Option (Int32 × St)
  | 0 => fun _ _ _ _ => none
  | n + 1 => R_anHour_p77b N (R_anHour_p77 N n)
def R_anHour_p51b (N : Nat) (kb51 : St → Int32 → Int32 → Int32 → Option (Int32 × St)) (r : St) (x1 : Int32) (x2 : Int32) (x3 : Int32) : Option (Int32 × St) :=
  (if 12 ≤ x3 then R_anHour_p77 N N r x1 x2 0 else (ld (gA r 29) x3).bind fun y23 => (sto (gA r 30) x3 y23).bind fun w24 => kb51 (sA r 30 w24) x1 x2 (x3 + 1))
def R_anHour_p51 (N : Nat) : Nat → St → Int32 → Int32 → Int32 → Option (Int32 × St)
  | 0 => fun _ _ _ _ => none
  | n + 1 => R_anHour_p51b N (R_anHour_p51 N n)
def R_anHour_p45 (N : Nat) (r : St) (x1 : Int32) (x2 : Int32) (s1 : Int32) (s2 : Int32) : Option (Int32 × St) :=
  R_anHour_p51 N N (sI r 27 (s1 - s2)) x1 x2 0
def R_anHour_p27 (N : Nat) (r : St) (x1 : Int32) (s0 : Int32) : Option (Int32 × St) :=
  (if s0 = 0 then R_anHour_p45 N r x1 s0 (gI r 27) 0 else R_anHour_p45 N r x1 s0 (gI r 27) (gI r 2))
def R_anHour_p26 (N : Nat) (r : St) (x1 : Int32) : Option (Int32 × St) :=
  R_anHour_p27 N r x1 0
def R_anHour (N : Nat) (r : St) (x1 : Int32) : Option (Int32 × St) :=
  (if (gI r 27) < (gI r 2) then R_anHour_p26 N r x1 else (if (gI r 29) ≤ (gI r 28) then R_anHour_p26 N r x1 else R_anHour_p27 N r x1 1))
set_option maxHeartbeats 8000000 in
set_option maxRecDepth 100000 in
theorem t_R_anHour_p175b (N d : Nat) (xs : List Int32) (c : St) (kb175 : St → Int32 → Int32 → Option (Int32 × St)) (hb175 : ∀ (r : St) (x2 : Int32) (x3 : Int32), Ok (mBig (mRoL xs) (d + 1)) (mRoL xs) 2 mK178 (fun p : Int32 × St => (some (.int p.1), HP c p.2)) (kb175 r x2 x3) 175 [some (.ref 115), none, some (.int x2), some (.int x3), none] [] (HP c r)) (r : St) (x2 : Int32) (x3 : Int32) : Ok (mBig (mRoL xs) (d + 1)) (mRoL xs) 2 mK178 (fun p : Int32 × St => (some (.int p.1), HP c p.2)) (R_anHour_p175b N kb175 r x2 x3) 175 [some (.ref 115), none, some (.int x2), some (.int x3), none] [] (HP c r) := by
  unfold R_anHour_p175b
  refine Ok_blk 4 (pc2 := (if (gI r 7) ≤ x3 then 218 else 183)) (lo2 := [some (.ref 115), none, some (.int x2), some (.int x3), none]) (st2 := []) rfl ?_
  refine Ok_if (fun h5 => ?_) (fun h5 => ?_)
  · refine Ok_heap 6 (pc2 := 228) (lo2 := [some (.ref 115), none, some (.int x2), some (.int x3), none]) (st2 := []) (h2 := HP c (sI r 28 ((gI r 28) + 1))) rfl (st_115_60 _ _ _) ?_
    refine Ok_blk 1 (pc2 := 229) (lo2 := [some (.ref 115), none, some (.int x2), some (.int x3), none]) (st2 := [.int x2]) rfl ?_
    refine Ok_gz (fun hz6 => ?_)
    exact Ok_rez hz6 rfl rfl
  · refine Ok_blk 4 (pc2 := 189) (lo2 := [some (.ref 115), none, some (.int x2), some (.int x3), none]) (st2 := [.int x3, .ref 147, .int x3, .ref 147]) rfl ?_
    refine Ok_ld (l := (gA r 31)) rfl rfl (fun y7 hy7 => ?_)
    refine Ok_blk 3 (pc2 := 195) (lo2 := [some (.ref 115), none, some (.int x2), some (.int x3), none]) (st2 := [.int x3, .ref 121, .int y7, .int x3, .ref 147]) rfl ?_
    refine Ok_ld (l := (gA r 5)) rfl rfl (fun y8 hy8 => ?_)
    refine Ok_blk 5 (pc2 := 205) (lo2 := [some (.ref 115), none, some (.int x2), some (.int x3), none]) (st2 := [.int x3, .ref 122, .ref 145, .int y8, .int y7, .int x3, .ref 147]) rfl ?_
    refine Ok_ld (l := (gA r 6)) rfl rfl (fun y9 hy9 => ?_)
    refine Ok_ld (l := (gA r 29)) rfl rfl (fun y10 hy10 => ?_)
    refine Ok_call (y := 179) (as := [.int y8, .int y10]) (rest := [.int y7, .int x3, .ref 147]) (w := fun p11 => some (.int p11)) (h1 := fun p11 => HP c r) rfl rfl (fun x hx => tm_R_spoils N d xs c r y8 y10 x hx) (fun p11 hp11 => ?_)
    refine Ok_blk 1 (pc2 := 211) (lo2 := [some (.ref 115), none, some (.int x2), some (.int x3), none]) (st2 := [.int (y7 + p11), .int x3, .ref 147]) rfl ?_
    refine Ok_st (l := (gA r 31)) (hn := fun l' => HP c (sA r 31 l')) rfl rfl (fun l' => sa_147 _ _ l') (fun w12 hw12 => ?_)
    refine Ok_blk 2 (pc2 := 175) (lo2 := [some (.ref 115), none, some (.int x2), some (.int (x3 + 1)), none]) (st2 := []) rfl ?_
    refine Ok_drop (lo0 := [some (.ref 115), none, some (.int x2), some (.int (x3 + 1)), none]) ⟨Or.inr rfl, Or.inl rfl, Or.inr rfl, Or.inr rfl, Or.inl rfl, trivial⟩ ?_
    exact hb175 (sA r 31 w12) x2 (x3 + 1)
set_option maxHeartbeats 8000000 in
set_option maxRecDepth 100000 in
theorem t_R_anHour_p175 (N d : Nat) (xs : List Int32) (c : St) : ∀ (n : Nat) (r : St) (x2 : Int32) (x3 : Int32), Ok (mBig (mRoL xs) (d + 1)) (mRoL xs) 2 mK178 (fun p : Int32 × St => (some (.int p.1), HP c p.2)) (R_anHour_p175 N n r x2 x3) 175 [some (.ref 115), none, some (.int x2), some (.int x3), none] [] (HP c r) := by
  intro n
  induction n with
  | zero => intro r x2 x3; exact Ok_none
  | succ n ih => intro r x2 x3; exact t_R_anHour_p175b N d xs c (R_anHour_p175 N n) ih r x2 x3
set_option maxHeartbeats 8000000 in
set_option maxRecDepth 100000 in
theorem t_R_anHour_p166 (N d : Nat) (xs : List Int32) (c : St) (kb77 : St → Int32 → Int32 → Int32 → Option (Int32 × St)) (hb77 : ∀ (r : St) (x1 : Int32) (x2 : Int32) (x3 : Int32), Ok (mBig (mRoL xs) (d + 1)) (mRoL xs) 2 mK178 (fun p : Int32 × St => (some (.int p.1), HP c p.2)) (kb77 r x1 x2 x3) 77 [some (.ref 115), some (.int x1), some (.int x2), some (.int x3), none] [] (HP c r)) (r : St) (x1 : Int32) (x2 : Int32) (x3 : Int32) (s1 : Int32) (s2 : Int32) : Ok (mBig (mRoL xs) (d + 1)) (mRoL xs) 2 mK178 (fun p : Int32 × St => (some (.int p.1), HP c p.2)) (R_anHour_p166 N kb77 r x1 x2 x3 s1 s2) 166 [some (.ref 115), some (.int x1), some (.int x2), some (.int x3), none] [.int s2, .int s1, .ref 145] (HP c r) := by
  unfold R_anHour_p166
  refine Ok_st (l := (gA r 29)) (hn := fun l' => HP c (sA r 29 l')) rfl rfl (fun l' => sa_145 _ _ l') (fun w20 hw20 => ?_)
  refine Ok_blk 2 (pc2 := 77) (lo2 := [some (.ref 115), some (.int x1), some (.int x2), some (.int (x3 + 1)), none]) (st2 := []) rfl ?_
  refine Ok_drop (lo0 := [some (.ref 115), some (.int x1), some (.int x2), some (.int (x3 + 1)), none]) ⟨Or.inr rfl, Or.inr rfl, Or.inr rfl, Or.inr rfl, Or.inl rfl, trivial⟩ ?_
  exact hb77 (sA r 29 w20) x1 x2 (x3 + 1)
set_option maxHeartbeats 8000000 in
set_option maxRecDepth 100000 in
theorem t_R_anHour_p142 (N d : Nat) (xs : List Int32) (c : St) (kb77 : St → Int32 → Int32 → Int32 → Option (Int32 × St)) (hb77 : ∀ (r : St) (x1 : Int32) (x2 : Int32) (x3 : Int32), Ok (mBig (mRoL xs) (d + 1)) (mRoL xs) 2 mK178 (fun p : Int32 × St => (some (.int p.1), HP c p.2)) (kb77 r x1 x2 x3) 77 [some (.ref 115), some (.int x1), some (.int x2), some (.int x3), none] [] (HP c r)) (r : St) (x1 : Int32) (x2 : Int32) (x3 : Int32) (s0 : Int32) (s1 : Int32) : Ok (mBig (mRoL xs) (d + 1)) (mRoL xs) 2 mK178 (fun p : Int32 × St => (some (.int p.1), HP c p.2)) (R_anHour_p142 N kb77 r x1 x2 x3 s0 s1) 142 [some (.ref 115), some (.int x1), some (.int x2), some (.int x3), none] [.int s1, .int s0] (HP c r) := by
  unfold R_anHour_p142
  refine Ok_blk 8 (pc2 := (if (-300) ≤ (s0 - s1) then 164 else 158)) (lo2 := [some (.ref 115), some (.int x1), some (.int x2), some (.int x3), some (.int (s0 - s1))]) (st2 := [.int x3, .ref 145]) rfl ?_
  refine Ok_if (fun h19 => ?_) (fun h19 => ?_)
  · refine Ok_blk 1 (pc2 := 166) (lo2 := [some (.ref 115), some (.int x1), some (.int x2), some (.int x3), some (.int (s0 - s1))]) (st2 := [.int (s0 - s1), .int x3, .ref 145]) rfl ?_
    refine Ok_drop (lo0 := [some (.ref 115), some (.int x1), some (.int x2), some (.int x3), none]) ⟨Or.inr rfl, Or.inr rfl, Or.inr rfl, Or.inr rfl, Or.inl rfl, trivial⟩ ?_
    exact t_R_anHour_p166 N d xs c kb77 hb77 r x1 x2 x3 x3 (s0 - s1)
  · refine Ok_blk 2 (pc2 := 166) (lo2 := [some (.ref 115), some (.int x1), some (.int x2), some (.int x3), some (.int (s0 - s1))]) (st2 := [.int (-300), .int x3, .ref 145]) rfl ?_
    refine Ok_drop (lo0 := [some (.ref 115), some (.int x1), some (.int x2), some (.int x3), none]) ⟨Or.inr rfl, Or.inr rfl, Or.inr rfl, Or.inr rfl, Or.inl rfl, trivial⟩ ?_
    exact t_R_anHour_p166 N d xs c kb77 hb77 r x1 x2 x3 x3 (-300)
set_option maxHeartbeats 8000000 in
set_option maxRecDepth 100000 in
theorem t_R_anHour_p141 (N d : Nat) (xs : List Int32) (c : St) (kb77 : St → Int32 → Int32 → Int32 → Option (Int32 × St)) (hb77 : ∀ (r : St) (x1 : Int32) (x2 : Int32) (x3 : Int32), Ok (mBig (mRoL xs) (d + 1)) (mRoL xs) 2 mK178 (fun p : Int32 × St => (some (.int p.1), HP c p.2)) (kb77 r x1 x2 x3) 77 [some (.ref 115), some (.int x1), some (.int x2), some (.int x3), none] [] (HP c r)) (r : St) (x1 : Int32) (x2 : Int32) (x3 : Int32) (s0 : Int32) : Ok (mBig (mRoL xs) (d + 1)) (mRoL xs) 2 mK178 (fun p : Int32 × St => (some (.int p.1), HP c p.2)) (R_anHour_p141 N kb77 r x1 x2 x3 s0) 141 [some (.ref 115), some (.int x1), some (.int x2), some (.int x3), none] [.int s0] (HP c r) := by
  unfold R_anHour_p141
  refine Ok_blk 1 (pc2 := 142) (lo2 := [some (.ref 115), some (.int x1), some (.int x2), some (.int x3), none]) (st2 := [.int 0, .int s0]) rfl ?_
  refine Ok_drop (lo0 := [some (.ref 115), some (.int x1), some (.int x2), some (.int x3), none]) ⟨Or.inr rfl, Or.inr rfl, Or.inr rfl, Or.inr rfl, Or.inl rfl, trivial⟩ ?_
  exact t_R_anHour_p142 N d xs c kb77 hb77 r x1 x2 x3 s0 0
set_option maxHeartbeats 8000000 in
set_option maxRecDepth 100000 in
theorem t_R_anHour_p77b (N d : Nat) (xs : List Int32) (c : St) (kb77 : St → Int32 → Int32 → Int32 → Option (Int32 × St)) (hb77 : ∀ (r : St) (x1 : Int32) (x2 : Int32) (x3 : Int32), Ok (mBig (mRoL xs) (d + 1)) (mRoL xs) 2 mK178 (fun p : Int32 × St => (some (.int p.1), HP c p.2)) (kb77 r x1 x2 x3) 77 [some (.ref 115), some (.int x1), some (.int x2), some (.int x3), none] [] (HP c r)) (r : St) (x1 : Int32) (x2 : Int32) (x3 : Int32) : Ok (mBig (mRoL xs) (d + 1)) (mRoL xs) 2 mK178 (fun p : Int32 × St => (some (.int p.1), HP c p.2)) (R_anHour_p77b N kb77 r x1 x2 x3) 77 [some (.ref 115), some (.int x1), some (.int x2), some (.int x3), none] [] (HP c r) := by
  unfold R_anHour_p77b
  refine Ok_blk 3 (pc2 := (if 12 ≤ x3 then 173 else 83)) (lo2 := [some (.ref 115), some (.int x1), some (.int x2), some (.int x3), none]) (st2 := []) rfl ?_
  refine Ok_if (fun h4 => ?_) (fun h4 => ?_)
  · refine Ok_blk 2 (pc2 := 175) (lo2 := [some (.ref 115), some (.int x1), some (.int x2), some (.int 0), none]) (st2 := []) rfl ?_
    refine Ok_drop (lo0 := [some (.ref 115), none, some (.int x2), some (.int 0), none]) ⟨Or.inr rfl, Or.inl rfl, Or.inr rfl, Or.inr rfl, Or.inl rfl, trivial⟩ ?_
    exact t_R_anHour_p175 N d xs c N r x2 0
  · refine Ok_blk 3 (pc2 := 88) (lo2 := [some (.ref 115), some (.int x1), some (.int x2), some (.int x3), none]) (st2 := [.int x3, .ref 146]) rfl ?_
    refine Ok_ld (l := (gA r 30)) rfl rfl (fun y13 hy13 => ?_)
    refine Ok_blk 4 (pc2 := 95) (lo2 := [some (.ref 115), some (.int x1), some (.int x2), some (.int x3), none]) (st2 := [.int x3, .ref 115, .int (gI r 0), .int y13]) rfl ?_
    refine Ok_call (y := 177) (as := [.ref 115, .int x3]) (rest := [.int (gI r 0), .int y13]) (w := fun p14 => some (.int p14)) (h1 := fun p14 => HP c r) rfl rfl (fun x hx => tm_R_besides N d xs c r x3 x hx) (fun p14 hp14 => ?_)
    refine Ok_blk 4 (pc2 := 104) (lo2 := [some (.ref 115), some (.int x1), some (.int x2), some (.int x3), none]) (st2 := [.int x3, .ref 117, .int ((gI r 0) * p14), .int y13]) rfl ?_
    refine Ok_ld (l := (gA r 1)) rfl rfl (fun y15 hy15 => ?_)
    refine Ok_blk 4 (pc2 := 111) (lo2 := [some (.ref 115), some (.int x1), some (.int x2), some (.int x3), none]) (st2 := [.int x3, .ref 146, .int x1, .int y15, .int ((gI r 0) * p14), .int y13]) rfl ?_
    refine Ok_ld (l := (gA r 30)) rfl rfl (fun y16 hy16 => ?_)
    refine Ok_blk 4 (pc2 := 117) (lo2 := [some (.ref 115), some (.int x1), some (.int x2), some (.int x3), none]) (st2 := [.int 100, .int (((gI r 0) * p14) + (y15 * (x1 - y16))), .int y13]) rfl ?_
    refine Ok_call (y := 166) (as := [.int (((gI r 0) * p14) + (y15 * (x1 - y16))), .int 100]) (rest := [.int y13]) (w := fun p17 => some (.int p17)) (h1 := fun p17 => HP c r) rfl rfl (fun x hx => tm_R_floorBy N d xs c r (((gI r 0) * p14) + (y15 * (x1 - y16))) 100 x hx) (fun p17 hp17 => ?_)
    refine Ok_blk 3 (pc2 := (if x2 = 0 then 141 else 125)) (lo2 := [some (.ref 115), some (.int x1), some (.int x2), some (.int x3), none]) (st2 := [.int (y13 + p17)]) rfl ?_
    refine Ok_if (fun h18 => ?_) (fun h18 => ?_)
    · refine Ok_drop (lo0 := [some (.ref 115), some (.int x1), some (.int x2), some (.int x3), none]) ⟨Or.inr rfl, Or.inr rfl, Or.inr rfl, Or.inr rfl, Or.inl rfl, trivial⟩ ?_
      exact t_R_anHour_p141 N d xs c kb77 hb77 r x1 x2 x3 (y13 + p17)
    · refine Ok_blk 3 (pc2 := 130) (lo2 := [some (.ref 115), some (.int x1), some (.int x2), some (.int x3), none]) (st2 := [.int x3, .ref 118, .int (y13 + p17)]) rfl ?_
      refine Ok_ldb (l := (gA r 2)) (t := 2) rfl rfl rfl (fun y21 hy21 => ?_)
      refine Ok_blk 1 (pc2 := (if y21 = 0 then 141 else 134)) (lo2 := [some (.ref 115), some (.int x1), some (.int x2), some (.int x3), none]) (st2 := [.int (y13 + p17)]) rfl ?_
      refine Ok_if (fun h22 => ?_) (fun h22 => ?_)
      · refine Ok_drop (lo0 := [some (.ref 115), some (.int x1), some (.int x2), some (.int x3), none]) ⟨Or.inr rfl, Or.inr rfl, Or.inr rfl, Or.inr rfl, Or.inl rfl, trivial⟩ ?_
        exact t_R_anHour_p141 N d xs c kb77 hb77 r x1 x2 x3 (y13 + p17)
      · refine Ok_blk 3 (pc2 := 142) (lo2 := [some (.ref 115), some (.int x1), some (.int x2), some (.int x3), none]) (st2 := [.int (gI r 1), .int (y13 + p17)]) rfl ?_
        refine Ok_drop (lo0 := [some (.ref 115), some (.int x1), some (.int x2), some (.int x3), none]) ⟨Or.inr rfl, Or.inr rfl, Or.inr rfl, Or.inr rfl, Or.inl rfl, trivial⟩ ?_
        exact t_R_anHour_p142 N d xs c kb77 hb77 r x1 x2 x3 (y13 + p17) (gI r 1)
set_option maxHeartbeats 8000000 in
set_option maxRecDepth 100000 in
theorem t_R_anHour_p77 (N d : Nat) (xs : List Int32) (c : St) : ∀ (n : Nat) (r : St) (x1 : Int32) (x2 : Int32) (x3 : Int32), Ok (mBig (mRoL xs) (d + 1)) (mRoL xs) 2 mK178 (fun p : Int32 × St => (some (.int p.1), HP c p.2)) (R_anHour_p77 N n r x1 x2 x3) 77 [some (.ref 115), some (.int x1), some (.int x2), some (.int x3), none] [] (HP c r) := by
  intro n
  induction n with
  | zero => intro r x1 x2 x3; exact Ok_none
  | succ n ih => intro r x1 x2 x3; exact t_R_anHour_p77b N d xs c (R_anHour_p77 N n) ih r x1 x2 x3
set_option maxHeartbeats 8000000 in
set_option maxRecDepth 100000 in
theorem t_R_anHour_p51b (N d : Nat) (xs : List Int32) (c : St) (kb51 : St → Int32 → Int32 → Int32 → Option (Int32 × St)) (hb51 : ∀ (r : St) (x1 : Int32) (x2 : Int32) (x3 : Int32), Ok (mBig (mRoL xs) (d + 1)) (mRoL xs) 2 mK178 (fun p : Int32 × St => (some (.int p.1), HP c p.2)) (kb51 r x1 x2 x3) 51 [some (.ref 115), some (.int x1), some (.int x2), some (.int x3), none] [] (HP c r)) (r : St) (x1 : Int32) (x2 : Int32) (x3 : Int32) : Ok (mBig (mRoL xs) (d + 1)) (mRoL xs) 2 mK178 (fun p : Int32 × St => (some (.int p.1), HP c p.2)) (R_anHour_p51b N kb51 r x1 x2 x3) 51 [some (.ref 115), some (.int x1), some (.int x2), some (.int x3), none] [] (HP c r) := by
  unfold R_anHour_p51b
  refine Ok_blk 3 (pc2 := (if 12 ≤ x3 then 75 else 57)) (lo2 := [some (.ref 115), some (.int x1), some (.int x2), some (.int x3), none]) (st2 := []) rfl ?_
  refine Ok_if (fun h3 => ?_) (fun h3 => ?_)
  · refine Ok_blk 2 (pc2 := 77) (lo2 := [some (.ref 115), some (.int x1), some (.int x2), some (.int 0), none]) (st2 := []) rfl ?_
    refine Ok_drop (lo0 := [some (.ref 115), some (.int x1), some (.int x2), some (.int 0), none]) ⟨Or.inr rfl, Or.inr rfl, Or.inr rfl, Or.inr rfl, Or.inl rfl, trivial⟩ ?_
    exact t_R_anHour_p77 N d xs c N r x1 x2 0
  · refine Ok_blk 6 (pc2 := 67) (lo2 := [some (.ref 115), some (.int x1), some (.int x2), some (.int x3), none]) (st2 := [.int x3, .ref 145, .int x3, .ref 146]) rfl ?_
    refine Ok_ld (l := (gA r 29)) rfl rfl (fun y23 hy23 => ?_)
    refine Ok_st (l := (gA r 30)) (hn := fun l' => HP c (sA r 30 l')) rfl rfl (fun l' => sa_146 _ _ l') (fun w24 hw24 => ?_)
    refine Ok_blk 2 (pc2 := 51) (lo2 := [some (.ref 115), some (.int x1), some (.int x2), some (.int (x3 + 1)), none]) (st2 := []) rfl ?_
    refine Ok_drop (lo0 := [some (.ref 115), some (.int x1), some (.int x2), some (.int (x3 + 1)), none]) ⟨Or.inr rfl, Or.inr rfl, Or.inr rfl, Or.inr rfl, Or.inl rfl, trivial⟩ ?_
    exact hb51 (sA r 30 w24) x1 x2 (x3 + 1)
set_option maxHeartbeats 8000000 in
set_option maxRecDepth 100000 in
theorem t_R_anHour_p51 (N d : Nat) (xs : List Int32) (c : St) : ∀ (n : Nat) (r : St) (x1 : Int32) (x2 : Int32) (x3 : Int32), Ok (mBig (mRoL xs) (d + 1)) (mRoL xs) 2 mK178 (fun p : Int32 × St => (some (.int p.1), HP c p.2)) (R_anHour_p51 N n r x1 x2 x3) 51 [some (.ref 115), some (.int x1), some (.int x2), some (.int x3), none] [] (HP c r) := by
  intro n
  induction n with
  | zero => intro r x1 x2 x3; exact Ok_none
  | succ n ih => intro r x1 x2 x3; exact t_R_anHour_p51b N d xs c (R_anHour_p51 N n) ih r x1 x2 x3
set_option maxHeartbeats 8000000 in
set_option maxRecDepth 100000 in
theorem t_R_anHour_p45 (N d : Nat) (xs : List Int32) (c : St) (r : St) (x1 : Int32) (x2 : Int32) (s1 : Int32) (s2 : Int32) : Ok (mBig (mRoL xs) (d + 1)) (mRoL xs) 2 mK178 (fun p : Int32 × St => (some (.int p.1), HP c p.2)) (R_anHour_p45 N r x1 x2 s1 s2) 45 [some (.ref 115), some (.int x1), some (.int x2), none, none] [.int s2, .int s1, .ref 115] (HP c r) := by
  unfold R_anHour_p45
  refine Ok_heap 2 (pc2 := 49) (lo2 := [some (.ref 115), some (.int x1), some (.int x2), none, none]) (st2 := []) (h2 := HP c (sI r 27 (s1 - s2))) rfl (st_115_59 _ _ _) ?_
  refine Ok_blk 2 (pc2 := 51) (lo2 := [some (.ref 115), some (.int x1), some (.int x2), some (.int 0), none]) (st2 := []) rfl ?_
  refine Ok_drop (lo0 := [some (.ref 115), some (.int x1), some (.int x2), some (.int 0), none]) ⟨Or.inr rfl, Or.inr rfl, Or.inr rfl, Or.inr rfl, Or.inl rfl, trivial⟩ ?_
  exact t_R_anHour_p51 N d xs c N (sI r 27 (s1 - s2)) x1 x2 0
set_option maxHeartbeats 8000000 in
set_option maxRecDepth 100000 in
theorem t_R_anHour_p27 (N d : Nat) (xs : List Int32) (c : St) (r : St) (x1 : Int32) (s0 : Int32) : Ok (mBig (mRoL xs) (d + 1)) (mRoL xs) 2 mK178 (fun p : Int32 × St => (some (.int p.1), HP c p.2)) (R_anHour_p27 N r x1 s0) 27 [some (.ref 115), some (.int x1), none, none, none] [.int s0] (HP c r) := by
  unfold R_anHour_p27
  refine Ok_blk 6 (pc2 := (if s0 = 0 then 44 else 37)) (lo2 := [some (.ref 115), some (.int x1), some (.int s0), none, none]) (st2 := [.int (gI r 27), .ref 115]) rfl ?_
  refine Ok_if (fun h2 => ?_) (fun h2 => ?_)
  · refine Ok_blk 1 (pc2 := 45) (lo2 := [some (.ref 115), some (.int x1), some (.int s0), none, none]) (st2 := [.int 0, .int (gI r 27), .ref 115]) rfl ?_
    refine Ok_drop (lo0 := [some (.ref 115), some (.int x1), some (.int s0), none, none]) ⟨Or.inr rfl, Or.inr rfl, Or.inr rfl, Or.inl rfl, Or.inl rfl, trivial⟩ ?_
    exact t_R_anHour_p45 N d xs c r x1 s0 (gI r 27) 0
  · refine Ok_blk 3 (pc2 := 45) (lo2 := [some (.ref 115), some (.int x1), some (.int s0), none, none]) (st2 := [.int (gI r 2), .int (gI r 27), .ref 115]) rfl ?_
    refine Ok_drop (lo0 := [some (.ref 115), some (.int x1), some (.int s0), none, none]) ⟨Or.inr rfl, Or.inr rfl, Or.inr rfl, Or.inl rfl, Or.inl rfl, trivial⟩ ?_
    exact t_R_anHour_p45 N d xs c r x1 s0 (gI r 27) (gI r 2)
set_option maxHeartbeats 8000000 in
set_option maxRecDepth 100000 in
theorem t_R_anHour_p26 (N d : Nat) (xs : List Int32) (c : St) (r : St) (x1 : Int32) : Ok (mBig (mRoL xs) (d + 1)) (mRoL xs) 2 mK178 (fun p : Int32 × St => (some (.int p.1), HP c p.2)) (R_anHour_p26 N r x1) 26 [some (.ref 115), some (.int x1), none, none, none] [] (HP c r) := by
  unfold R_anHour_p26
  refine Ok_blk 1 (pc2 := 27) (lo2 := [some (.ref 115), some (.int x1), none, none, none]) (st2 := [.int 0]) rfl ?_
  refine Ok_drop (lo0 := [some (.ref 115), some (.int x1), none, none, none]) ⟨Or.inr rfl, Or.inr rfl, Or.inl rfl, Or.inl rfl, Or.inl rfl, trivial⟩ ?_
  exact t_R_anHour_p27 N d xs c r x1 0
set_option maxHeartbeats 8000000 in
set_option maxRecDepth 100000 in
theorem t_R_anHour (N d : Nat) (xs : List Int32) (c : St) (r : St) (x1 : Int32) : Ok (mBig (mRoL xs) (d + 1)) (mRoL xs) 2 mK178 (fun p : Int32 × St => (some (.int p.1), HP c p.2)) (R_anHour N r x1) 0 [some (.ref 115), some (.int x1), none, none, none] [] (HP c r) := by
  unfold R_anHour
  refine Ok_blk 5 (pc2 := (if (gI r 27) < (gI r 2) then 26 else 11)) (lo2 := [some (.ref 115), some (.int x1), none, none, none]) (st2 := []) rfl ?_
  refine Ok_if (fun h1 => ?_) (fun h1 => ?_)
  · refine Ok_drop (lo0 := [some (.ref 115), some (.int x1), none, none, none]) ⟨Or.inr rfl, Or.inr rfl, Or.inl rfl, Or.inl rfl, Or.inl rfl, trivial⟩ ?_
    exact t_R_anHour_p26 N d xs c r x1
  · refine Ok_blk 5 (pc2 := (if (gI r 29) ≤ (gI r 28) then 26 else 22)) (lo2 := [some (.ref 115), some (.int x1), none, none, none]) (st2 := []) rfl ?_
    refine Ok_if (fun h25 => ?_) (fun h25 => ?_)
    · refine Ok_drop (lo0 := [some (.ref 115), some (.int x1), none, none, none]) ⟨Or.inr rfl, Or.inr rfl, Or.inl rfl, Or.inl rfl, Or.inl rfl, trivial⟩ ?_
      exact t_R_anHour_p26 N d xs c r x1
    · refine Ok_blk 2 (pc2 := 27) (lo2 := [some (.ref 115), some (.int x1), none, none, none]) (st2 := [.int 1]) rfl ?_
      refine Ok_drop (lo0 := [some (.ref 115), some (.int x1), none, none, none]) ⟨Or.inr rfl, Or.inr rfl, Or.inl rfl, Or.inl rfl, Or.inl rfl, trivial⟩ ?_
      exact t_R_anHour_p27 N d xs c r x1 1
set_option maxHeartbeats 8000000 in
set_option maxRecDepth 100000 in
theorem tm_R_anHour (N d : Nat) (xs : List Int32) (c r : St) (a1 : Int32) (p : Int32 × St) (hp : R_anHour N r a1 = some p) : mBig (mRoL xs) (d + 2) 178 [.ref 115, .int a1] (HP c r) (some (.int p.1)) (HP c p.2) 0 0 := mBig_of (by decide) rfl rfl rfl rfl (t_R_anHour N d xs c r a1 p hp)
/-! ColdHoldsModel.stateOf(I)I, from ('i',) -/
def R_stateOf (N : Nat) (x0 : Int32) : Option (Int32) :=
  (if 100 ≤ x0 then (if 300 ≤ x0 then (if 600 ≤ x0 then some 3 else some 2) else some 1) else some 0)
set_option maxHeartbeats 8000000 in
set_option maxRecDepth 100000 in
theorem t_R_stateOf (N d : Nat) (xs : List Int32) (c : St) (r : St) (x0 : Int32) : Ok (mBig (mRoL xs) (d)) (mRoL xs) 1 mK180 (fun p : Int32 => (some (.int p), HP c r)) (R_stateOf N x0) 0 [some (.int x0)] [] (HP c r) := by
  unfold R_stateOf
  refine Ok_blk 3 (pc2 := (if 100 ≤ x0 then 10 else 6)) (lo2 := [some (.int x0)]) (st2 := []) rfl ?_
  refine Ok_if (fun h1 => ?_) (fun h1 => ?_)
  · refine Ok_blk 3 (pc2 := (if 300 ≤ x0 then 21 else 17)) (lo2 := [some (.int x0)]) (st2 := []) rfl ?_
    refine Ok_if (fun h2 => ?_) (fun h2 => ?_)
    · refine Ok_blk 3 (pc2 := (if 600 ≤ x0 then 32 else 28)) (lo2 := [some (.int x0)]) (st2 := []) rfl ?_
      refine Ok_if (fun h3 => ?_) (fun h3 => ?_)
      · refine Ok_blk 1 (pc2 := 33) (lo2 := [some (.int x0)]) (st2 := [.int 3]) rfl ?_
        exact Ok_ret rfl rfl rfl
      · refine Ok_blk 2 (pc2 := 33) (lo2 := [some (.int x0)]) (st2 := [.int 2]) rfl ?_
        exact Ok_ret rfl rfl rfl
    · refine Ok_blk 2 (pc2 := 33) (lo2 := [some (.int x0)]) (st2 := [.int 1]) rfl ?_
      exact Ok_ret rfl rfl rfl
  · refine Ok_blk 2 (pc2 := 33) (lo2 := [some (.int x0)]) (st2 := [.int 0]) rfl ?_
    exact Ok_ret rfl rfl rfl
set_option maxHeartbeats 8000000 in
set_option maxRecDepth 100000 in
theorem tm_R_stateOf (N d : Nat) (xs : List Int32) (c r : St) (a0 : Int32) (p : Int32) (hp : R_stateOf N a0 = some p) : mBig (mRoL xs) (d + 1) 180 [.int a0] (HP c r) (some (.int p)) (HP c r) 0 0 := mBig_of (by decide) rfl rfl rfl rfl (t_R_stateOf N d xs c r a0 p hp)
/-! ColdHoldsModel.hours(I)I, from (('r', 115), 'i') -/
def R_hours_p175b (N : Nat) (kb175 : St → Int32 → Int32 → Option (Int32 × St)) (r : St) (x2 : Int32) (x3 : Int32) : Option (Int32 × St) :=
  (if (gI r 7) ≤ x3 then some (x2, sI (sI r 3 (gI r 27)) 4 (gI (sI r 3 (gI r 27)) 28)) else (ld (gA r 31) x3).bind fun y8 => (sto (gA r 7) x3 y8).bind fun w9 => kb175 (sA r 7 w9) x2 (x3 + 1))
def R_hours_p175 (N : Nat) : Nat → St → Int32 → Int32 → Option (Int32 × St)
  | 0 => fun _ _ _ => none
  | n + 1 => R_hours_p175b N (R_hours_p175 N n)
def R_hours_p149b (N : Nat) (kb149 : St → Int32 → Int32 → Option (Int32 × St)) (r : St) (x2 : Int32) (x3 : Int32) : Option (Int32 × St) :=
  (if 12 ≤ x3 then R_hours_p175 N N r x2 0 else (ld (gA r 29) x3).bind fun y10 => (sto (gA r 0) x3 y10).bind fun w11 => kb149 (sA r 0 w11) x2 (x3 + 1))
def R_hours_p149 (N : Nat) : Nat → St → Int32 → Int32 → Option (Int32 × St)
  | 0 => fun _ _ _ => none
  | n + 1 => R_hours_p149b N (R_hours_p149 N n)
def R_hours_p129 (N : Nat) (kb37 : St → Int32 → Int32 → Int32 → Option (Int32 × St)) (kb68 : St → Int32 → Int32 → Int32 → Int32 → Option (Int32 × St)) (kb80 : St → Int32 → Int32 → Int32 → Int32 → Int32 → Option (Int32 × St)) (r : St) (x1 : Int32) (x2 : Int32) (x3 : Int32) (x4 : Int32) (x5 : Int32) : Option (Int32 × St) :=
  kb80 r x1 x2 x3 x4 (x5 + 1)
def R_hours_p80b (N : Nat) (kb37 : St → Int32 → Int32 → Int32 → Option (Int32 × St)) (kb68 : St → Int32 → Int32 → Int32 → Int32 → Option (Int32 × St)) (kb80 : St → Int32 → Int32 → Int32 → Int32 → Int32 → Option (Int32 × St)) (r : St) (x1 : Int32) (x2 : Int32) (x3 : Int32) (x4 : Int32) (x5 : Int32) : Option (Int32 × St) :=
  (ld (gA r 31) x4).bind fun y16 => (R_stateOf N y16).bind fun p17 => (if p17 ≤ x5 then kb68 r x1 x2 x3 (x4 + 1) else (ld (gA r 9) ((3 * x4) + x5)).bind fun y19 => (if ¬ y19 = (-1) then R_hours_p129 N kb37 kb68 kb80 r x1 x2 x3 x4 x5 else (sto (gA r 9) ((3 * x4) + x5) ((gI r 28) - 1)).bind fun w21 => R_hours_p129 N kb37 kb68 kb80 (sA r 9 w21) x1 x2 x3 x4 x5))
def R_hours_p80 (N : Nat) (kb37 : St → Int32 → Int32 → Int32 → Option (Int32 × St)) (kb68 : St → Int32 → Int32 → Int32 → Int32 → Option (Int32 × St)) : Nat → St → Int32 → Int32 → Int32 → Int32 → Int32 → Option (Int32 × St)
  | 0 => fun _ _ _ _ _ _ => none
  | n + 1 => R_hours_p80b N kb37 kb68 (R_hours_p80 N kb37 kb68 n)
def R_hours_p68b (N : Nat) (kb37 : St → Int32 → Int32 → Int32 → Option (Int32 × St)) (kb68 : St → Int32 → Int32 → Int32 → Int32 → Option (Int32 × St)) (r : St) (x1 : Int32) (x2 : Int32) (x3 : Int32) (x4 : Int32) : Option (Int32 × St) :=
  (if (gI r 7) ≤ x4 then kb37 r x1 x2 (x3 + 1) else R_hours_p80 N kb37 kb68 N r x1 x2 x3 x4 0)
def R_hours_p68 (N : Nat) (kb37 : St → Int32 → Int32 → Int32 → Option (Int32 × St)) : Nat → St → Int32 → Int32 → Int32 → Int32 → Option (Int32 × St)
  | 0 => fun _ _ _ _ _ => none
  | n + 1 => R_hours_p68b N kb37 (R_hours_p68 N kb37 n)
def R_hours_p63 (N : Nat) (kb37 : St → Int32 → Int32 → Int32 → Option (Int32 × St)) (r : St) (x1 : Int32) (x3 : Int32) (s0 : Int32) (s1 : Int32) : Option (Int32 × St) :=
  R_hours_p68 N kb37 N r x1 (s0 + s1) x3 0
def R_hours_p37b (N : Nat) (kb37 : St → Int32 → Int32 → Int32 → Option (Int32 × St)) (r : St) (x1 : Int32) (x2 : Int32) (x3 : Int32) : Option (Int32 × St) :=
  (if x1 ≤ x3 then R_hours_p149 N N r x2 0 else (R_seaOf N r (gI r 28)).bind fun p12 => (R_anHour N r p12).bind fun p13 => (if p13.1 = 0 then R_hours_p63 N kb37 p13.2 x1 x3 x2 0 else R_hours_p63 N kb37 p13.2 x1 x3 x2 1))
def R_hours_p37 (N : Nat) : Nat → St → Int32 → Int32 → Int32 → Option (Int32 × St)
  | 0 => fun _ _ _ _ => none
  | n + 1 => R_hours_p37b N (R_hours_p37 N n)
def R_hours (N : Nat) (r : St) (x1 : Int32) : Option (Int32 × St) :=
  (R_in N x1 1 300).bind fun p1 => (if ¬ p1 = 0 then (if ((gI r 4) + x1) ≤ 1200 then (R_startAsNow N r).bind fun p4 => R_hours_p37 N N p4 x1 0 0 else some ((-103), r)) else some ((-102), r))
set_option maxHeartbeats 8000000 in
set_option maxRecDepth 100000 in
theorem t_R_hours_p175b (N d : Nat) (xs : List Int32) (c : St) (kb175 : St → Int32 → Int32 → Option (Int32 × St)) (hb175 : ∀ (r : St) (x2 : Int32) (x3 : Int32), Ok (mBig (mRoL xs) (d + 2)) (mRoL xs) 1 mK181 (fun p : Int32 × St => (some (.int p.1), HP c p.2)) (kb175 r x2 x3) 175 [some (.ref 115), none, some (.int x2), some (.int x3), none, none] [] (HP c r)) (r : St) (x2 : Int32) (x3 : Int32) : Ok (mBig (mRoL xs) (d + 2)) (mRoL xs) 1 mK181 (fun p : Int32 × St => (some (.int p.1), HP c p.2)) (R_hours_p175b N kb175 r x2 x3) 175 [some (.ref 115), none, some (.int x2), some (.int x3), none, none] [] (HP c r) := by
  unfold R_hours_p175b
  refine Ok_blk 4 (pc2 := (if (gI r 7) ≤ x3 then 201 else 183)) (lo2 := [some (.ref 115), none, some (.int x2), some (.int x3), none, none]) (st2 := []) rfl ?_
  refine Ok_if (fun h7 => ?_) (fun h7 => ?_)
  · refine Ok_heap 4 (pc2 := 209) (lo2 := [some (.ref 115), none, some (.int x2), some (.int x3), none, none]) (st2 := []) (h2 := HP c (sI r 3 (gI r 27))) rfl (st_115_6 _ _ _) ?_
    refine Ok_heap 4 (pc2 := 217) (lo2 := [some (.ref 115), none, some (.int x2), some (.int x3), none, none]) (st2 := []) (h2 := HP c (sI (sI r 3 (gI r 27)) 4 (gI (sI r 3 (gI r 27)) 28))) rfl (st_115_7 _ _ _) ?_
    refine Ok_blk 1 (pc2 := 218) (lo2 := [some (.ref 115), none, some (.int x2), some (.int x3), none, none]) (st2 := [.int x2]) rfl ?_
    exact Ok_ret rfl rfl rfl
  · refine Ok_blk 6 (pc2 := 193) (lo2 := [some (.ref 115), none, some (.int x2), some (.int x3), none, none]) (st2 := [.int x3, .ref 147, .int x3, .ref 123]) rfl ?_
    refine Ok_ld (l := (gA r 31)) rfl rfl (fun y8 hy8 => ?_)
    refine Ok_st (l := (gA r 7)) (hn := fun l' => HP c (sA r 7 l')) rfl rfl (fun l' => sa_123 _ _ l') (fun w9 hw9 => ?_)
    refine Ok_blk 2 (pc2 := 175) (lo2 := [some (.ref 115), none, some (.int x2), some (.int (x3 + 1)), none, none]) (st2 := []) rfl ?_
    refine Ok_drop (lo0 := [some (.ref 115), none, some (.int x2), some (.int (x3 + 1)), none, none]) ⟨Or.inr rfl, Or.inl rfl, Or.inr rfl, Or.inr rfl, Or.inl rfl, Or.inl rfl, trivial⟩ ?_
    exact hb175 (sA r 7 w9) x2 (x3 + 1)
set_option maxHeartbeats 8000000 in
set_option maxRecDepth 100000 in
theorem t_R_hours_p175 (N d : Nat) (xs : List Int32) (c : St) : ∀ (n : Nat) (r : St) (x2 : Int32) (x3 : Int32), Ok (mBig (mRoL xs) (d + 2)) (mRoL xs) 1 mK181 (fun p : Int32 × St => (some (.int p.1), HP c p.2)) (R_hours_p175 N n r x2 x3) 175 [some (.ref 115), none, some (.int x2), some (.int x3), none, none] [] (HP c r) := by
  intro n
  induction n with
  | zero => intro r x2 x3; exact Ok_none
  | succ n ih => intro r x2 x3; exact t_R_hours_p175b N d xs c (R_hours_p175 N n) ih r x2 x3
set_option maxHeartbeats 8000000 in
set_option maxRecDepth 100000 in
theorem t_R_hours_p149b (N d : Nat) (xs : List Int32) (c : St) (kb149 : St → Int32 → Int32 → Option (Int32 × St)) (hb149 : ∀ (r : St) (x2 : Int32) (x3 : Int32), Ok (mBig (mRoL xs) (d + 2)) (mRoL xs) 1 mK181 (fun p : Int32 × St => (some (.int p.1), HP c p.2)) (kb149 r x2 x3) 149 [some (.ref 115), none, some (.int x2), some (.int x3), none, none] [] (HP c r)) (r : St) (x2 : Int32) (x3 : Int32) : Ok (mBig (mRoL xs) (d + 2)) (mRoL xs) 1 mK181 (fun p : Int32 × St => (some (.int p.1), HP c p.2)) (R_hours_p149b N kb149 r x2 x3) 149 [some (.ref 115), none, some (.int x2), some (.int x3), none, none] [] (HP c r) := by
  unfold R_hours_p149b
  refine Ok_blk 3 (pc2 := (if 12 ≤ x3 then 173 else 155)) (lo2 := [some (.ref 115), none, some (.int x2), some (.int x3), none, none]) (st2 := []) rfl ?_
  refine Ok_if (fun h6 => ?_) (fun h6 => ?_)
  · refine Ok_blk 2 (pc2 := 175) (lo2 := [some (.ref 115), none, some (.int x2), some (.int 0), none, none]) (st2 := []) rfl ?_
    refine Ok_drop (lo0 := [some (.ref 115), none, some (.int x2), some (.int 0), none, none]) ⟨Or.inr rfl, Or.inl rfl, Or.inr rfl, Or.inr rfl, Or.inl rfl, Or.inl rfl, trivial⟩ ?_
    exact t_R_hours_p175 N d xs c N r x2 0
  · refine Ok_blk 6 (pc2 := 165) (lo2 := [some (.ref 115), none, some (.int x2), some (.int x3), none, none]) (st2 := [.int x3, .ref 145, .int x3, .ref 116]) rfl ?_
    refine Ok_ld (l := (gA r 29)) rfl rfl (fun y10 hy10 => ?_)
    refine Ok_st (l := (gA r 0)) (hn := fun l' => HP c (sA r 0 l')) rfl rfl (fun l' => sa_116 _ _ l') (fun w11 hw11 => ?_)
    refine Ok_blk 2 (pc2 := 149) (lo2 := [some (.ref 115), none, some (.int x2), some (.int (x3 + 1)), none, none]) (st2 := []) rfl ?_
    refine Ok_drop (lo0 := [some (.ref 115), none, some (.int x2), some (.int (x3 + 1)), none, none]) ⟨Or.inr rfl, Or.inl rfl, Or.inr rfl, Or.inr rfl, Or.inl rfl, Or.inl rfl, trivial⟩ ?_
    exact hb149 (sA r 0 w11) x2 (x3 + 1)
set_option maxHeartbeats 8000000 in
set_option maxRecDepth 100000 in
theorem t_R_hours_p149 (N d : Nat) (xs : List Int32) (c : St) : ∀ (n : Nat) (r : St) (x2 : Int32) (x3 : Int32), Ok (mBig (mRoL xs) (d + 2)) (mRoL xs) 1 mK181 (fun p : Int32 × St => (some (.int p.1), HP c p.2)) (R_hours_p149 N n r x2 x3) 149 [some (.ref 115), none, some (.int x2), some (.int x3), none, none] [] (HP c r) := by
  intro n
  induction n with
  | zero => intro r x2 x3; exact Ok_none
  | succ n ih => intro r x2 x3; exact t_R_hours_p149b N d xs c (R_hours_p149 N n) ih r x2 x3
set_option maxHeartbeats 8000000 in
set_option maxRecDepth 100000 in
theorem t_R_hours_p129 (N d : Nat) (xs : List Int32) (c : St) (kb37 : St → Int32 → Int32 → Int32 → Option (Int32 × St)) (hb37 : ∀ (r : St) (x1 : Int32) (x2 : Int32) (x3 : Int32), Ok (mBig (mRoL xs) (d + 2)) (mRoL xs) 1 mK181 (fun p : Int32 × St => (some (.int p.1), HP c p.2)) (kb37 r x1 x2 x3) 37 [some (.ref 115), some (.int x1), some (.int x2), some (.int x3), none, none] [] (HP c r)) (kb68 : St → Int32 → Int32 → Int32 → Int32 → Option (Int32 × St)) (hb68 : ∀ (r : St) (x1 : Int32) (x2 : Int32) (x3 : Int32) (x4 : Int32), Ok (mBig (mRoL xs) (d + 2)) (mRoL xs) 1 mK181 (fun p : Int32 × St => (some (.int p.1), HP c p.2)) (kb68 r x1 x2 x3 x4) 68 [some (.ref 115), some (.int x1), some (.int x2), some (.int x3), some (.int x4), none] [] (HP c r)) (kb80 : St → Int32 → Int32 → Int32 → Int32 → Int32 → Option (Int32 × St)) (hb80 : ∀ (r : St) (x1 : Int32) (x2 : Int32) (x3 : Int32) (x4 : Int32) (x5 : Int32), Ok (mBig (mRoL xs) (d + 2)) (mRoL xs) 1 mK181 (fun p : Int32 × St => (some (.int p.1), HP c p.2)) (kb80 r x1 x2 x3 x4 x5) 80 [some (.ref 115), some (.int x1), some (.int x2), some (.int x3), some (.int x4), some (.int x5)] [] (HP c r)) (r : St) (x1 : Int32) (x2 : Int32) (x3 : Int32) (x4 : Int32) (x5 : Int32) : Ok (mBig (mRoL xs) (d + 2)) (mRoL xs) 1 mK181 (fun p : Int32 × St => (some (.int p.1), HP c p.2)) (R_hours_p129 N kb37 kb68 kb80 r x1 x2 x3 x4 x5) 129 [some (.ref 115), some (.int x1), some (.int x2), some (.int x3), some (.int x4), some (.int x5)] [] (HP c r) := by
  unfold R_hours_p129
  refine Ok_blk 2 (pc2 := 80) (lo2 := [some (.ref 115), some (.int x1), some (.int x2), some (.int x3), some (.int x4), some (.int (x5 + 1))]) (st2 := []) rfl ?_
  refine Ok_drop (lo0 := [some (.ref 115), some (.int x1), some (.int x2), some (.int x3), some (.int x4), some (.int (x5 + 1))]) ⟨Or.inr rfl, Or.inr rfl, Or.inr rfl, Or.inr rfl, Or.inr rfl, Or.inr rfl, trivial⟩ ?_
  exact hb80 r x1 x2 x3 x4 (x5 + 1)
set_option maxHeartbeats 8000000 in
set_option maxRecDepth 100000 in
theorem t_R_hours_p80b (N d : Nat) (xs : List Int32) (c : St) (kb37 : St → Int32 → Int32 → Int32 → Option (Int32 × St)) (hb37 : ∀ (r : St) (x1 : Int32) (x2 : Int32) (x3 : Int32), Ok (mBig (mRoL xs) (d + 2)) (mRoL xs) 1 mK181 (fun p : Int32 × St => (some (.int p.1), HP c p.2)) (kb37 r x1 x2 x3) 37 [some (.ref 115), some (.int x1), some (.int x2), some (.int x3), none, none] [] (HP c r)) (kb68 : St → Int32 → Int32 → Int32 → Int32 → Option (Int32 × St)) (hb68 : ∀ (r : St) (x1 : Int32) (x2 : Int32) (x3 : Int32) (x4 : Int32), Ok (mBig (mRoL xs) (d + 2)) (mRoL xs) 1 mK181 (fun p : Int32 × St => (some (.int p.1), HP c p.2)) (kb68 r x1 x2 x3 x4) 68 [some (.ref 115), some (.int x1), some (.int x2), some (.int x3), some (.int x4), none] [] (HP c r)) (kb80 : St → Int32 → Int32 → Int32 → Int32 → Int32 → Option (Int32 × St)) (hb80 : ∀ (r : St) (x1 : Int32) (x2 : Int32) (x3 : Int32) (x4 : Int32) (x5 : Int32), Ok (mBig (mRoL xs) (d + 2)) (mRoL xs) 1 mK181 (fun p : Int32 × St => (some (.int p.1), HP c p.2)) (kb80 r x1 x2 x3 x4 x5) 80 [some (.ref 115), some (.int x1), some (.int x2), some (.int x3), some (.int x4), some (.int x5)] [] (HP c r)) (r : St) (x1 : Int32) (x2 : Int32) (x3 : Int32) (x4 : Int32) (x5 : Int32) : Ok (mBig (mRoL xs) (d + 2)) (mRoL xs) 1 mK181 (fun p : Int32 × St => (some (.int p.1), HP c p.2)) (R_hours_p80b N kb37 kb68 kb80 r x1 x2 x3 x4 x5) 80 [some (.ref 115), some (.int x1), some (.int x2), some (.int x3), some (.int x4), some (.int x5)] [] (HP c r) := by
  unfold R_hours_p80b
  refine Ok_blk 4 (pc2 := 88) (lo2 := [some (.ref 115), some (.int x1), some (.int x2), some (.int x3), some (.int x4), some (.int x5)]) (st2 := [.int x4, .ref 147, .int x5]) rfl ?_
  refine Ok_ld (l := (gA r 31)) rfl rfl (fun y16 hy16 => ?_)
  refine Ok_call (y := 180) (as := [.int y16]) (rest := [.int x5]) (w := fun p17 => some (.int p17)) (h1 := fun p17 => HP c r) rfl rfl (fun x hx => tm_R_stateOf N (d + 1) xs c r y16 x hx) (fun p17 hp17 => ?_)
  refine Ok_blk 1 (pc2 := (if p17 ≤ x5 then 135 else 95)) (lo2 := [some (.ref 115), some (.int x1), some (.int x2), some (.int x3), some (.int x4), some (.int x5)]) (st2 := []) rfl ?_
  refine Ok_if (fun h18 => ?_) (fun h18 => ?_)
  · refine Ok_blk 2 (pc2 := 68) (lo2 := [some (.ref 115), some (.int x1), some (.int x2), some (.int x3), some (.int (x4 + 1)), some (.int x5)]) (st2 := []) rfl ?_
    refine Ok_drop (lo0 := [some (.ref 115), some (.int x1), some (.int x2), some (.int x3), some (.int (x4 + 1)), none]) ⟨Or.inr rfl, Or.inr rfl, Or.inr rfl, Or.inr rfl, Or.inr rfl, Or.inl rfl, trivial⟩ ?_
    exact hb68 r x1 x2 x3 (x4 + 1)
  · refine Ok_blk 7 (pc2 := 106) (lo2 := [some (.ref 115), some (.int x1), some (.int x2), some (.int x3), some (.int x4), some (.int x5)]) (st2 := [.int ((3 * x4) + x5), .ref 125]) rfl ?_
    refine Ok_ld (l := (gA r 9)) rfl rfl (fun y19 hy19 => ?_)
    refine Ok_blk 2 (pc2 := (if ¬ y19 = (-1) then 129 else 111)) (lo2 := [some (.ref 115), some (.int x1), some (.int x2), some (.int x3), some (.int x4), some (.int x5)]) (st2 := []) rfl ?_
    refine Ok_if (fun h20 => ?_) (fun h20 => ?_)
    · refine Ok_drop (lo0 := [some (.ref 115), some (.int x1), some (.int x2), some (.int x3), some (.int x4), some (.int x5)]) ⟨Or.inr rfl, Or.inr rfl, Or.inr rfl, Or.inr rfl, Or.inr rfl, Or.inr rfl, trivial⟩ ?_
      exact t_R_hours_p129 N d xs c kb37 hb37 kb68 hb68 kb80 hb80 r x1 x2 x3 x4 x5
    · refine Ok_blk 11 (pc2 := 128) (lo2 := [some (.ref 115), some (.int x1), some (.int x2), some (.int x3), some (.int x4), some (.int x5)]) (st2 := [.int ((gI r 28) - 1), .int ((3 * x4) + x5), .ref 125]) rfl ?_
      refine Ok_st (l := (gA r 9)) (hn := fun l' => HP c (sA r 9 l')) rfl rfl (fun l' => sa_125 _ _ l') (fun w21 hw21 => ?_)
      refine Ok_drop (lo0 := [some (.ref 115), some (.int x1), some (.int x2), some (.int x3), some (.int x4), some (.int x5)]) ⟨Or.inr rfl, Or.inr rfl, Or.inr rfl, Or.inr rfl, Or.inr rfl, Or.inr rfl, trivial⟩ ?_
      exact t_R_hours_p129 N d xs c kb37 hb37 kb68 hb68 kb80 hb80 (sA r 9 w21) x1 x2 x3 x4 x5
set_option maxHeartbeats 8000000 in
set_option maxRecDepth 100000 in
theorem t_R_hours_p80 (N d : Nat) (xs : List Int32) (c : St) (kb37 : St → Int32 → Int32 → Int32 → Option (Int32 × St)) (hb37 : ∀ (r : St) (x1 : Int32) (x2 : Int32) (x3 : Int32), Ok (mBig (mRoL xs) (d + 2)) (mRoL xs) 1 mK181 (fun p : Int32 × St => (some (.int p.1), HP c p.2)) (kb37 r x1 x2 x3) 37 [some (.ref 115), some (.int x1), some (.int x2), some (.int x3), none, none] [] (HP c r)) (kb68 : St → Int32 → Int32 → Int32 → Int32 → Option (Int32 × St)) (hb68 : ∀ (r : St) (x1 : Int32) (x2 : Int32) (x3 : Int32) (x4 : Int32), Ok (mBig (mRoL xs) (d + 2)) (mRoL xs) 1 mK181 (fun p : Int32 × St => (some (.int p.1), HP c p.2)) (kb68 r x1 x2 x3 x4) 68 [some (.ref 115), some (.int x1), some (.int x2), some (.int x3), some (.int x4), none] [] (HP c r)) : ∀ (n : Nat) (r : St) (x1 : Int32) (x2 : Int32) (x3 : Int32) (x4 : Int32) (x5 : Int32), Ok (mBig (mRoL xs) (d + 2)) (mRoL xs) 1 mK181 (fun p : Int32 × St => (some (.int p.1), HP c p.2)) (R_hours_p80 N kb37 kb68 n r x1 x2 x3 x4 x5) 80 [some (.ref 115), some (.int x1), some (.int x2), some (.int x3), some (.int x4), some (.int x5)] [] (HP c r) := by
  intro n
  induction n with
  | zero => intro r x1 x2 x3 x4 x5; exact Ok_none
  | succ n ih => intro r x1 x2 x3 x4 x5; exact t_R_hours_p80b N d xs c kb37 hb37 kb68 hb68 (R_hours_p80 N kb37 kb68 n) ih r x1 x2 x3 x4 x5
set_option maxHeartbeats 8000000 in
set_option maxRecDepth 100000 in
theorem t_R_hours_p68b (N d : Nat) (xs : List Int32) (c : St) (kb37 : St → Int32 → Int32 → Int32 → Option (Int32 × St)) (hb37 : ∀ (r : St) (x1 : Int32) (x2 : Int32) (x3 : Int32), Ok (mBig (mRoL xs) (d + 2)) (mRoL xs) 1 mK181 (fun p : Int32 × St => (some (.int p.1), HP c p.2)) (kb37 r x1 x2 x3) 37 [some (.ref 115), some (.int x1), some (.int x2), some (.int x3), none, none] [] (HP c r)) (kb68 : St → Int32 → Int32 → Int32 → Int32 → Option (Int32 × St)) (hb68 : ∀ (r : St) (x1 : Int32) (x2 : Int32) (x3 : Int32) (x4 : Int32), Ok (mBig (mRoL xs) (d + 2)) (mRoL xs) 1 mK181 (fun p : Int32 × St => (some (.int p.1), HP c p.2)) (kb68 r x1 x2 x3 x4) 68 [some (.ref 115), some (.int x1), some (.int x2), some (.int x3), some (.int x4), none] [] (HP c r)) (r : St) (x1 : Int32) (x2 : Int32) (x3 : Int32) (x4 : Int32) : Ok (mBig (mRoL xs) (d + 2)) (mRoL xs) 1 mK181 (fun p : Int32 × St => (some (.int p.1), HP c p.2)) (R_hours_p68b N kb37 kb68 r x1 x2 x3 x4) 68 [some (.ref 115), some (.int x1), some (.int x2), some (.int x3), some (.int x4), none] [] (HP c r) := by
  unfold R_hours_p68b
  refine Ok_blk 4 (pc2 := (if (gI r 7) ≤ x4 then 141 else 77)) (lo2 := [some (.ref 115), some (.int x1), some (.int x2), some (.int x3), some (.int x4), none]) (st2 := []) rfl ?_
  refine Ok_if (fun h15 => ?_) (fun h15 => ?_)
  · refine Ok_blk 2 (pc2 := 37) (lo2 := [some (.ref 115), some (.int x1), some (.int x2), some (.int (x3 + 1)), some (.int x4), none]) (st2 := []) rfl ?_
    refine Ok_drop (lo0 := [some (.ref 115), some (.int x1), some (.int x2), some (.int (x3 + 1)), none, none]) ⟨Or.inr rfl, Or.inr rfl, Or.inr rfl, Or.inr rfl, Or.inl rfl, Or.inl rfl, trivial⟩ ?_
    exact hb37 r x1 x2 (x3 + 1)
  · refine Ok_blk 2 (pc2 := 80) (lo2 := [some (.ref 115), some (.int x1), some (.int x2), some (.int x3), some (.int x4), some (.int 0)]) (st2 := []) rfl ?_
    refine Ok_drop (lo0 := [some (.ref 115), some (.int x1), some (.int x2), some (.int x3), some (.int x4), some (.int 0)]) ⟨Or.inr rfl, Or.inr rfl, Or.inr rfl, Or.inr rfl, Or.inr rfl, Or.inr rfl, trivial⟩ ?_
    exact t_R_hours_p80 N d xs c kb37 hb37 kb68 hb68 N r x1 x2 x3 x4 0
set_option maxHeartbeats 8000000 in
set_option maxRecDepth 100000 in
theorem t_R_hours_p68 (N d : Nat) (xs : List Int32) (c : St) (kb37 : St → Int32 → Int32 → Int32 → Option (Int32 × St)) (hb37 : ∀ (r : St) (x1 : Int32) (x2 : Int32) (x3 : Int32), Ok (mBig (mRoL xs) (d + 2)) (mRoL xs) 1 mK181 (fun p : Int32 × St => (some (.int p.1), HP c p.2)) (kb37 r x1 x2 x3) 37 [some (.ref 115), some (.int x1), some (.int x2), some (.int x3), none, none] [] (HP c r)) : ∀ (n : Nat) (r : St) (x1 : Int32) (x2 : Int32) (x3 : Int32) (x4 : Int32), Ok (mBig (mRoL xs) (d + 2)) (mRoL xs) 1 mK181 (fun p : Int32 × St => (some (.int p.1), HP c p.2)) (R_hours_p68 N kb37 n r x1 x2 x3 x4) 68 [some (.ref 115), some (.int x1), some (.int x2), some (.int x3), some (.int x4), none] [] (HP c r) := by
  intro n
  induction n with
  | zero => intro r x1 x2 x3 x4; exact Ok_none
  | succ n ih => intro r x1 x2 x3 x4; exact t_R_hours_p68b N d xs c kb37 hb37 (R_hours_p68 N kb37 n) ih r x1 x2 x3 x4
set_option maxHeartbeats 8000000 in
set_option maxRecDepth 100000 in
theorem t_R_hours_p63 (N d : Nat) (xs : List Int32) (c : St) (kb37 : St → Int32 → Int32 → Int32 → Option (Int32 × St)) (hb37 : ∀ (r : St) (x1 : Int32) (x2 : Int32) (x3 : Int32), Ok (mBig (mRoL xs) (d + 2)) (mRoL xs) 1 mK181 (fun p : Int32 × St => (some (.int p.1), HP c p.2)) (kb37 r x1 x2 x3) 37 [some (.ref 115), some (.int x1), some (.int x2), some (.int x3), none, none] [] (HP c r)) (r : St) (x1 : Int32) (x3 : Int32) (s0 : Int32) (s1 : Int32) : Ok (mBig (mRoL xs) (d + 2)) (mRoL xs) 1 mK181 (fun p : Int32 × St => (some (.int p.1), HP c p.2)) (R_hours_p63 N kb37 r x1 x3 s0 s1) 63 [some (.ref 115), some (.int x1), none, some (.int x3), none, none] [.int s1, .int s0] (HP c r) := by
  unfold R_hours_p63
  refine Ok_blk 4 (pc2 := 68) (lo2 := [some (.ref 115), some (.int x1), some (.int (s0 + s1)), some (.int x3), some (.int 0), none]) (st2 := []) rfl ?_
  refine Ok_drop (lo0 := [some (.ref 115), some (.int x1), some (.int (s0 + s1)), some (.int x3), some (.int 0), none]) ⟨Or.inr rfl, Or.inr rfl, Or.inr rfl, Or.inr rfl, Or.inr rfl, Or.inl rfl, trivial⟩ ?_
  exact t_R_hours_p68 N d xs c kb37 hb37 N r x1 (s0 + s1) x3 0
set_option maxHeartbeats 8000000 in
set_option maxRecDepth 100000 in
theorem t_R_hours_p37b (N d : Nat) (xs : List Int32) (c : St) (kb37 : St → Int32 → Int32 → Int32 → Option (Int32 × St)) (hb37 : ∀ (r : St) (x1 : Int32) (x2 : Int32) (x3 : Int32), Ok (mBig (mRoL xs) (d + 2)) (mRoL xs) 1 mK181 (fun p : Int32 × St => (some (.int p.1), HP c p.2)) (kb37 r x1 x2 x3) 37 [some (.ref 115), some (.int x1), some (.int x2), some (.int x3), none, none] [] (HP c r)) (r : St) (x1 : Int32) (x2 : Int32) (x3 : Int32) : Ok (mBig (mRoL xs) (d + 2)) (mRoL xs) 1 mK181 (fun p : Int32 × St => (some (.int p.1), HP c p.2)) (R_hours_p37b N kb37 r x1 x2 x3) 37 [some (.ref 115), some (.int x1), some (.int x2), some (.int x3), none, none] [] (HP c r) := by
  unfold R_hours_p37b
  refine Ok_blk 3 (pc2 := (if x1 ≤ x3 then 147 else 42)) (lo2 := [some (.ref 115), some (.int x1), some (.int x2), some (.int x3), none, none]) (st2 := []) rfl ?_
  refine Ok_if (fun h5 => ?_) (fun h5 => ?_)
  · refine Ok_blk 2 (pc2 := 149) (lo2 := [some (.ref 115), some (.int x1), some (.int x2), some (.int 0), none, none]) (st2 := []) rfl ?_
    refine Ok_drop (lo0 := [some (.ref 115), none, some (.int x2), some (.int 0), none, none]) ⟨Or.inr rfl, Or.inl rfl, Or.inr rfl, Or.inr rfl, Or.inl rfl, Or.inl rfl, trivial⟩ ?_
    exact t_R_hours_p149 N d xs c N r x2 0
  · refine Ok_blk 5 (pc2 := 49) (lo2 := [some (.ref 115), some (.int x1), some (.int x2), some (.int x3), none, none]) (st2 := [.int (gI r 28), .ref 115, .ref 115, .int x2]) rfl ?_
    refine Ok_call (y := 174) (as := [.ref 115, .int (gI r 28)]) (rest := [.ref 115, .int x2]) (w := fun p12 => some (.int p12)) (h1 := fun p12 => HP c r) rfl rfl (fun x hx => tm_R_seaOf N (d + 1) xs c r (gI r 28) x hx) (fun p12 hp12 => ?_)
    refine Ok_call (y := 178) (as := [.ref 115, .int p12]) (rest := [.int x2]) (w := fun p13 => some (.int p13.1)) (h1 := fun p13 => HP c p13.2) rfl rfl (fun x hx => tm_R_anHour N d xs c r p12 x hx) (fun p13 hp13 => ?_)
    refine Ok_blk 1 (pc2 := (if p13.1 = 0 then 62 else 58)) (lo2 := [some (.ref 115), some (.int x1), some (.int x2), some (.int x3), none, none]) (st2 := [.int x2]) rfl ?_
    refine Ok_if (fun h14 => ?_) (fun h14 => ?_)
    · refine Ok_blk 1 (pc2 := 63) (lo2 := [some (.ref 115), some (.int x1), some (.int x2), some (.int x3), none, none]) (st2 := [.int 0, .int x2]) rfl ?_
      refine Ok_drop (lo0 := [some (.ref 115), some (.int x1), none, some (.int x3), none, none]) ⟨Or.inr rfl, Or.inr rfl, Or.inl rfl, Or.inr rfl, Or.inl rfl, Or.inl rfl, trivial⟩ ?_
      exact t_R_hours_p63 N d xs c kb37 hb37 p13.2 x1 x3 x2 0
    · refine Ok_blk 2 (pc2 := 63) (lo2 := [some (.ref 115), some (.int x1), some (.int x2), some (.int x3), none, none]) (st2 := [.int 1, .int x2]) rfl ?_
      refine Ok_drop (lo0 := [some (.ref 115), some (.int x1), none, some (.int x3), none, none]) ⟨Or.inr rfl, Or.inr rfl, Or.inl rfl, Or.inr rfl, Or.inl rfl, Or.inl rfl, trivial⟩ ?_
      exact t_R_hours_p63 N d xs c kb37 hb37 p13.2 x1 x3 x2 1
set_option maxHeartbeats 8000000 in
set_option maxRecDepth 100000 in
theorem t_R_hours_p37 (N d : Nat) (xs : List Int32) (c : St) : ∀ (n : Nat) (r : St) (x1 : Int32) (x2 : Int32) (x3 : Int32), Ok (mBig (mRoL xs) (d + 2)) (mRoL xs) 1 mK181 (fun p : Int32 × St => (some (.int p.1), HP c p.2)) (R_hours_p37 N n r x1 x2 x3) 37 [some (.ref 115), some (.int x1), some (.int x2), some (.int x3), none, none] [] (HP c r) := by
  intro n
  induction n with
  | zero => intro r x1 x2 x3; exact Ok_none
  | succ n ih => intro r x1 x2 x3; exact t_R_hours_p37b N d xs c (R_hours_p37 N n) ih r x1 x2 x3
set_option maxHeartbeats 8000000 in
set_option maxRecDepth 100000 in
theorem t_R_hours (N d : Nat) (xs : List Int32) (c : St) (r : St) (x1 : Int32) : Ok (mBig (mRoL xs) (d + 2)) (mRoL xs) 1 mK181 (fun p : Int32 × St => (some (.int p.1), HP c p.2)) (R_hours N r x1) 0 [some (.ref 115), some (.int x1), none, none, none, none] [] (HP c r) := by
  unfold R_hours
  refine Ok_blk 3 (pc2 := 5) (lo2 := [some (.ref 115), some (.int x1), none, none, none, none]) (st2 := [.int 300, .int 1, .int x1]) rfl ?_
  refine Ok_call (y := 164) (as := [.int x1, .int 1, .int 300]) (rest := []) (w := fun p1 => some (.int p1)) (h1 := fun p1 => HP c r) rfl rfl (fun x hx => tm_R_in N (d + 1) xs c r x1 1 300 x hx) (fun p1 hp1 => ?_)
  refine Ok_blk 1 (pc2 := (if ¬ p1 = 0 then 14 else 11)) (lo2 := [some (.ref 115), some (.int x1), none, none, none, none]) (st2 := []) rfl ?_
  refine Ok_if (fun h2 => ?_) (fun h2 => ?_)
  · refine Ok_blk 6 (pc2 := (if ((gI r 4) + x1) ≤ 1200 then 29 else 26)) (lo2 := [some (.ref 115), some (.int x1), none, none, none, none]) (st2 := []) rfl ?_
    refine Ok_if (fun h3 => ?_) (fun h3 => ?_)
    · refine Ok_blk 3 (pc2 := 32) (lo2 := [some (.ref 115), some (.int x1), some (.int 0), none, none, none]) (st2 := [.ref 115]) rfl ?_
      refine Ok_call (y := 176) (as := [.ref 115]) (rest := []) (w := fun p4 => none) (h1 := fun p4 => HP c p4) rfl rfl (fun x hx => tm_R_startAsNow N (d + 1) xs c r x hx) (fun p4 hp4 => ?_)
      refine Ok_blk 2 (pc2 := 37) (lo2 := [some (.ref 115), some (.int x1), some (.int 0), some (.int 0), none, none]) (st2 := []) rfl ?_
      refine Ok_drop (lo0 := [some (.ref 115), some (.int x1), some (.int 0), some (.int 0), none, none]) ⟨Or.inr rfl, Or.inr rfl, Or.inr rfl, Or.inr rfl, Or.inl rfl, Or.inl rfl, trivial⟩ ?_
      exact t_R_hours_p37 N d xs c N p4 x1 0 0
    · refine Ok_blk 1 (pc2 := 28) (lo2 := [some (.ref 115), some (.int x1), none, none, none, none]) (st2 := [.int (-103)]) rfl ?_
      exact Ok_ret rfl rfl rfl
  · refine Ok_blk 1 (pc2 := 13) (lo2 := [some (.ref 115), some (.int x1), none, none, none, none]) (st2 := [.int (-102)]) rfl ?_
    exact Ok_ret rfl rfl rfl
set_option maxHeartbeats 8000000 in
set_option maxRecDepth 100000 in
theorem tm_R_hours (N d : Nat) (xs : List Int32) (c r : St) (a1 : Int32) (p : Int32 × St) (hp : R_hours N r a1 = some p) : mBig (mRoL xs) (d + 3) 181 [.ref 115, .int a1] (HP c r) (some (.int p.1)) (HP c p.2) 0 0 := mBig_of (by decide) rfl rfl rfl rfl (t_R_hours N d xs c r a1 p hp)
/-! ColdHolds$Air.takeFrom(LColdHolds$Air;)V, from (('r', 11), ('r', 7)) -/
def Air_takeFrom (N : Nat) (c : St) : Option (St) :=
  (cpy (gA c 5) (gA c 8) 0 0 12).bind fun w1 => (cpy (gA (sA c 8 w1) 6) (gA (sA c 8 w1) 9) 0 0 20).bind fun w2 => some (sI (sA (sA c 8 w1) 9 w2) 4 (gI (sA (sA c 8 w1) 9 w2) 3))
set_option maxHeartbeats 8000000 in
set_option maxRecDepth 100000 in
theorem t_Air_takeFrom (N d : Nat) (xs : List Int32) (r : St) (c : St) : Ok (mBig (mRoL xs) (d)) (mRoL xs) 0 mK1 (fun p : St => (none, HP p r)) (Air_takeFrom N c) 0 [some (.ref 11), some (.ref 7)] [] (HP c r) := by
  unfold Air_takeFrom
  refine Ok_blk 7 (pc2 := 12) (lo2 := [some (.ref 11), some (.ref 7)]) (st2 := [.int 12, .int 0, .ref 12, .int 0, .ref 8]) rfl ?_
  refine Ok_cpy (f := (gA c 5)) (g := (gA c 8)) (hn := fun l' => HP (sA c 8 l') r) rfl rfl rfl (Nat.le_of_ble_eq_true rfl) (fun l' => sa_12 _ _ l') (fun w1 hw1 => ?_)
  refine Ok_blk 7 (pc2 := 27) (lo2 := [some (.ref 11), some (.ref 7)]) (st2 := [.int 20, .int 0, .ref 13, .int 0, .ref 9]) rfl ?_
  refine Ok_cpy (f := (gA (sA c 8 w1) 6)) (g := (gA (sA c 8 w1) 9)) (hn := fun l' => HP (sA (sA c 8 w1) 9 l') r) rfl rfl rfl (Nat.le_of_ble_eq_true rfl) (fun l' => sa_13 _ _ l') (fun w2 hw2 => ?_)
  refine Ok_heap 4 (pc2 := 38) (lo2 := [some (.ref 11), some (.ref 7)]) (st2 := []) (h2 := HP (sI (sA (sA c 8 w1) 9 w2) 4 (gI (sA (sA c 8 w1) 9 w2) 3)) r) rfl (st_11_2 _ _ _) ?_
  exact Ok_ret rfl rfl rfl
set_option maxHeartbeats 8000000 in
set_option maxRecDepth 100000 in
theorem tm_Air_takeFrom (N d : Nat) (xs : List Int32) (c r : St) (p : St) (hp : Air_takeFrom N c = some p) : mBig (mRoL xs) (d + 1) 1 [.ref 11, .ref 7] (HP c r) (none) (HP p r) 0 0 := mBig_of (by decide) rfl rfl rfl rfl (t_Air_takeFrom N d xs r c p hp)
/-! ColdHolds$Hold.pull([II)I, from (('r', 12), 'i') -/
def Hold_pull_2_p70 (N : Nat) (c : St) (x3 : Int32) : Option (Int32) :=
  some x3
def Hold_pull_2_p53 (N : Nat) (c : St) (x1 : Int32) (x2 : Int32) (x3 : Int32) : Option (Int32) :=
  (rm x1 4).bind fun y6 => (if 3 ≤ y6 then Hold_pull_2_p70 N c x3 else (ld (gA c 8) (x1 + 1)).bind fun y8 => Hold_pull_2_p70 N c (x3 + (y8 - x2)))
def Hold_pull_2_p37 (N : Nat) (c : St) (x1 : Int32) (x2 : Int32) (x3 : Int32) : Option (Int32) :=
  (rm x1 4).bind fun y4 => (if y4 ≤ 0 then Hold_pull_2_p53 N c x1 x2 x3 else (ld (gA c 8) (x1 - 1)).bind fun y9 => Hold_pull_2_p53 N c x1 x2 (x3 + (y9 - x2)))
def Hold_pull_2_p21 (N : Nat) (c : St) (x1 : Int32) (x2 : Int32) (x3 : Int32) : Option (Int32) :=
  (if 8 ≤ x1 then Hold_pull_2_p37 N c x1 x2 x3 else (ld (gA c 8) (x1 + 4)).bind fun y10 => Hold_pull_2_p37 N c x1 x2 (x3 + (y10 - x2)))
def Hold_pull_2 (N : Nat) (c : St) (x1 : Int32) : Option (Int32) :=
  (ld (gA c 8) x1).bind fun y1 => (if x1 < 4 then Hold_pull_2_p21 N c x1 y1 0 else (ld (gA c 8) (x1 - 4)).bind fun y11 => Hold_pull_2_p21 N c x1 y1 (0 + (y11 - y1)))
set_option maxHeartbeats 8000000 in
set_option maxRecDepth 100000 in
theorem t_Hold_pull_2_p70 (N d : Nat) (xs : List Int32) (c : St) (r : St) (x3 : Int32) : Ok (mBig (mRoL xs) (d)) (mRoL xs) 1 mK33 (fun p : Int32 => (some (.int p), HP c r)) (Hold_pull_2_p70 N c x3) 70 [none, none, none, some (.int x3)] [] (HP c r) := by
  unfold Hold_pull_2_p70
  refine Ok_blk 1 (pc2 := 71) (lo2 := [none, none, none, some (.int x3)]) (st2 := [.int x3]) rfl ?_
  exact Ok_ret rfl rfl rfl
set_option maxHeartbeats 8000000 in
set_option maxRecDepth 100000 in
theorem t_Hold_pull_2_p53 (N d : Nat) (xs : List Int32) (c : St) (r : St) (x1 : Int32) (x2 : Int32) (x3 : Int32) : Ok (mBig (mRoL xs) (d)) (mRoL xs) 1 mK33 (fun p : Int32 => (some (.int p), HP c r)) (Hold_pull_2_p53 N c x1 x2 x3) 53 [some (.ref 12), some (.int x1), some (.int x2), some (.int x3)] [] (HP c r) := by
  unfold Hold_pull_2_p53
  refine Ok_blk 2 (pc2 := 55) (lo2 := [some (.ref 12), some (.int x1), some (.int x2), some (.int x3)]) (st2 := [.int 4, .int x1]) rfl ?_
  refine Ok_rm rfl (fun y6 hy6 => ?_)
  refine Ok_blk 2 (pc2 := (if 3 ≤ y6 then 70 else 60)) (lo2 := [some (.ref 12), some (.int x1), some (.int x2), some (.int x3)]) (st2 := []) rfl ?_
  refine Ok_if (fun h7 => ?_) (fun h7 => ?_)
  · refine Ok_drop (lo0 := [none, none, none, some (.int x3)]) ⟨Or.inl rfl, Or.inl rfl, Or.inl rfl, Or.inr rfl, trivial⟩ ?_
    exact t_Hold_pull_2_p70 N d xs c r x3
  · refine Ok_blk 5 (pc2 := 65) (lo2 := [some (.ref 12), some (.int x1), some (.int x2), some (.int x3)]) (st2 := [.int (x1 + 1), .ref 12, .int x3]) rfl ?_
    refine Ok_ld (l := (gA c 8)) rfl rfl (fun y8 hy8 => ?_)
    refine Ok_blk 4 (pc2 := 70) (lo2 := [some (.ref 12), some (.int x1), some (.int x2), some (.int (x3 + (y8 - x2)))]) (st2 := []) rfl ?_
    refine Ok_drop (lo0 := [none, none, none, some (.int (x3 + (y8 - x2)))]) ⟨Or.inl rfl, Or.inl rfl, Or.inl rfl, Or.inr rfl, trivial⟩ ?_
    exact t_Hold_pull_2_p70 N d xs c r (x3 + (y8 - x2))
set_option maxHeartbeats 8000000 in
set_option maxRecDepth 100000 in
theorem t_Hold_pull_2_p37 (N d : Nat) (xs : List Int32) (c : St) (r : St) (x1 : Int32) (x2 : Int32) (x3 : Int32) : Ok (mBig (mRoL xs) (d)) (mRoL xs) 1 mK33 (fun p : Int32 => (some (.int p), HP c r)) (Hold_pull_2_p37 N c x1 x2 x3) 37 [some (.ref 12), some (.int x1), some (.int x2), some (.int x3)] [] (HP c r) := by
  unfold Hold_pull_2_p37
  refine Ok_blk 2 (pc2 := 39) (lo2 := [some (.ref 12), some (.int x1), some (.int x2), some (.int x3)]) (st2 := [.int 4, .int x1]) rfl ?_
  refine Ok_rm rfl (fun y4 hy4 => ?_)
  refine Ok_blk 1 (pc2 := (if y4 ≤ 0 then 53 else 43)) (lo2 := [some (.ref 12), some (.int x1), some (.int x2), some (.int x3)]) (st2 := []) rfl ?_
  refine Ok_if (fun h5 => ?_) (fun h5 => ?_)
  · refine Ok_drop (lo0 := [some (.ref 12), some (.int x1), some (.int x2), some (.int x3)]) ⟨Or.inr rfl, Or.inr rfl, Or.inr rfl, Or.inr rfl, trivial⟩ ?_
    exact t_Hold_pull_2_p53 N d xs c r x1 x2 x3
  · refine Ok_blk 5 (pc2 := 48) (lo2 := [some (.ref 12), some (.int x1), some (.int x2), some (.int x3)]) (st2 := [.int (x1 - 1), .ref 12, .int x3]) rfl ?_
    refine Ok_ld (l := (gA c 8)) rfl rfl (fun y9 hy9 => ?_)
    refine Ok_blk 4 (pc2 := 53) (lo2 := [some (.ref 12), some (.int x1), some (.int x2), some (.int (x3 + (y9 - x2)))]) (st2 := []) rfl ?_
    refine Ok_drop (lo0 := [some (.ref 12), some (.int x1), some (.int x2), some (.int (x3 + (y9 - x2)))]) ⟨Or.inr rfl, Or.inr rfl, Or.inr rfl, Or.inr rfl, trivial⟩ ?_
    exact t_Hold_pull_2_p53 N d xs c r x1 x2 (x3 + (y9 - x2))
set_option maxHeartbeats 8000000 in
set_option maxRecDepth 100000 in
theorem t_Hold_pull_2_p21 (N d : Nat) (xs : List Int32) (c : St) (r : St) (x1 : Int32) (x2 : Int32) (x3 : Int32) : Ok (mBig (mRoL xs) (d)) (mRoL xs) 1 mK33 (fun p : Int32 => (some (.int p), HP c r)) (Hold_pull_2_p21 N c x1 x2 x3) 21 [some (.ref 12), some (.int x1), some (.int x2), some (.int x3)] [] (HP c r) := by
  unfold Hold_pull_2_p21
  refine Ok_blk 3 (pc2 := (if 8 ≤ x1 then 37 else 27)) (lo2 := [some (.ref 12), some (.int x1), some (.int x2), some (.int x3)]) (st2 := []) rfl ?_
  refine Ok_if (fun h3 => ?_) (fun h3 => ?_)
  · refine Ok_drop (lo0 := [some (.ref 12), some (.int x1), some (.int x2), some (.int x3)]) ⟨Or.inr rfl, Or.inr rfl, Or.inr rfl, Or.inr rfl, trivial⟩ ?_
    exact t_Hold_pull_2_p37 N d xs c r x1 x2 x3
  · refine Ok_blk 5 (pc2 := 32) (lo2 := [some (.ref 12), some (.int x1), some (.int x2), some (.int x3)]) (st2 := [.int (x1 + 4), .ref 12, .int x3]) rfl ?_
    refine Ok_ld (l := (gA c 8)) rfl rfl (fun y10 hy10 => ?_)
    refine Ok_blk 4 (pc2 := 37) (lo2 := [some (.ref 12), some (.int x1), some (.int x2), some (.int (x3 + (y10 - x2)))]) (st2 := []) rfl ?_
    refine Ok_drop (lo0 := [some (.ref 12), some (.int x1), some (.int x2), some (.int (x3 + (y10 - x2)))]) ⟨Or.inr rfl, Or.inr rfl, Or.inr rfl, Or.inr rfl, trivial⟩ ?_
    exact t_Hold_pull_2_p37 N d xs c r x1 x2 (x3 + (y10 - x2))
set_option maxHeartbeats 8000000 in
set_option maxRecDepth 100000 in
theorem t_Hold_pull_2 (N d : Nat) (xs : List Int32) (c : St) (r : St) (x1 : Int32) : Ok (mBig (mRoL xs) (d)) (mRoL xs) 1 mK33 (fun p : Int32 => (some (.int p), HP c r)) (Hold_pull_2 N c x1) 0 [some (.ref 12), some (.int x1), none, none] [] (HP c r) := by
  unfold Hold_pull_2
  refine Ok_blk 2 (pc2 := 2) (lo2 := [some (.ref 12), some (.int x1), none, none]) (st2 := [.int x1, .ref 12]) rfl ?_
  refine Ok_ld (l := (gA c 8)) rfl rfl (fun y1 hy1 => ?_)
  refine Ok_blk 6 (pc2 := (if x1 < 4 then 21 else 11)) (lo2 := [some (.ref 12), some (.int x1), some (.int y1), some (.int 0)]) (st2 := []) rfl ?_
  refine Ok_if (fun h2 => ?_) (fun h2 => ?_)
  · refine Ok_drop (lo0 := [some (.ref 12), some (.int x1), some (.int y1), some (.int 0)]) ⟨Or.inr rfl, Or.inr rfl, Or.inr rfl, Or.inr rfl, trivial⟩ ?_
    exact t_Hold_pull_2_p21 N d xs c r x1 y1 0
  · refine Ok_blk 5 (pc2 := 16) (lo2 := [some (.ref 12), some (.int x1), some (.int y1), some (.int 0)]) (st2 := [.int (x1 - 4), .ref 12, .int 0]) rfl ?_
    refine Ok_ld (l := (gA c 8)) rfl rfl (fun y11 hy11 => ?_)
    refine Ok_blk 4 (pc2 := 21) (lo2 := [some (.ref 12), some (.int x1), some (.int y1), some (.int (0 + (y11 - y1)))]) (st2 := []) rfl ?_
    refine Ok_drop (lo0 := [some (.ref 12), some (.int x1), some (.int y1), some (.int (0 + (y11 - y1)))]) ⟨Or.inr rfl, Or.inr rfl, Or.inr rfl, Or.inr rfl, trivial⟩ ?_
    exact t_Hold_pull_2_p21 N d xs c r x1 y1 (0 + (y11 - y1))
set_option maxHeartbeats 8000000 in
set_option maxRecDepth 100000 in
theorem tm_Hold_pull_2 (N d : Nat) (xs : List Int32) (c r : St) (a1 : Int32) (p : Int32) (hp : Hold_pull_2 N c a1 = some p) : mBig (mRoL xs) (d + 1) 33 [.ref 12, .int a1] (HP c r) (some (.int p)) (HP c r) 0 0 := mBig_of (by decide) rfl rfl rfl rfl (t_Hold_pull_2 N d xs c r a1 p hp)
/-! ColdHolds$Hold.nextWarmth([IIIZ)I, from (('r', 1), ('r', 12), 'i', 'i', 'i') -/
def Hold_nextWarmth_2_p66 (N : Nat) (c : St) (x6 : Int32) : Option (Int32) :=
  (J_max N x6 (-300)).bind fun p8 => some p8
def Hold_nextWarmth_2 (N : Nat) (c : St) (x2 : Int32) (x3 : Int32) (x4 : Int32) : Option (Int32) :=
  (ld (gA c 2) 0).bind fun y1 => (Hold_pull_2 N c x2).bind fun p2 => (ld (gA c 0) x2).bind fun y3 => (ld (gA c 8) x2).bind fun y4 => (ld (gA c 8) x2).bind fun y5 => (J_floorDiv N ((y1 * p2) + (y3 * (x3 - y4))) 100).bind fun p6 => (if x4 = 0 then Hold_nextWarmth_2_p66 N c (y5 + p6) else (ld (gA c 1) x2).bind fun y9 => (if ¬ y9 = 1 then Hold_nextWarmth_2_p66 N c (y5 + p6) else (ld (gA c 2) 1).bind fun y11 => Hold_nextWarmth_2_p66 N c ((y5 + p6) - y11)))
set_option maxHeartbeats 8000000 in
set_option maxRecDepth 100000 in
theorem t_Hold_nextWarmth_2_p66 (N d : Nat) (xs : List Int32) (c : St) (r : St) (x6 : Int32) : Ok (mBig (mRoL xs) (d + 1)) (mRoL xs) 1 mK32 (fun p : Int32 => (some (.int p), HP c r)) (Hold_nextWarmth_2_p66 N c x6) 66 [none, none, none, none, none, none, some (.int x6)] [] (HP c r) := by
  unfold Hold_nextWarmth_2_p66
  refine Ok_blk 2 (pc2 := 71) (lo2 := [none, none, none, none, none, none, some (.int x6)]) (st2 := [.int (-300), .int x6]) rfl ?_
  refine Ok_call (y := 261) (as := [.int x6, .int (-300)]) (rest := []) (w := fun p8 => some (.int p8)) (h1 := fun p8 => HP c r) rfl rfl (fun x hx => tm_J_max N d xs c r x6 (-300) x hx) (fun p8 hp8 => ?_)
  exact Ok_ret rfl rfl rfl
set_option maxHeartbeats 8000000 in
set_option maxRecDepth 100000 in
theorem t_Hold_nextWarmth_2 (N d : Nat) (xs : List Int32) (c : St) (r : St) (x2 : Int32) (x3 : Int32) (x4 : Int32) : Ok (mBig (mRoL xs) (d + 1)) (mRoL xs) 1 mK32 (fun p : Int32 => (some (.int p), HP c r)) (Hold_nextWarmth_2 N c x2 x3 x4) 0 [some (.ref 1), some (.ref 12), some (.int x2), some (.int x3), some (.int x4), none, none] [] (HP c r) := by
  unfold Hold_nextWarmth_2
  refine Ok_blk 3 (pc2 := 5) (lo2 := [some (.ref 1), some (.ref 12), some (.int x2), some (.int x3), some (.int x4), none, none]) (st2 := [.int 0, .ref 4]) rfl ?_
  refine Ok_ld (l := (gA c 2)) rfl rfl (fun y1 hy1 => ?_)
  refine Ok_blk 2 (pc2 := 8) (lo2 := [some (.ref 1), some (.ref 12), some (.int x2), some (.int x3), some (.int x4), none, none]) (st2 := [.int x2, .ref 12, .int y1]) rfl ?_
  refine Ok_call (y := 33) (as := [.ref 12, .int x2]) (rest := [.int y1]) (w := fun p2 => some (.int p2)) (h1 := fun p2 => HP c r) rfl rfl (fun x hx => tm_Hold_pull_2 N d xs c r x2 x hx) (fun p2 hp2 => ?_)
  refine Ok_blk 4 (pc2 := 17) (lo2 := [some (.ref 1), some (.ref 12), some (.int x2), some (.int x3), some (.int x4), none, none]) (st2 := [.int x2, .ref 2, .int (y1 * p2)]) rfl ?_
  refine Ok_ld (l := (gA c 0)) rfl rfl (fun y3 hy3 => ?_)
  refine Ok_blk 3 (pc2 := 21) (lo2 := [some (.ref 1), some (.ref 12), some (.int x2), some (.int x3), some (.int x4), none, none]) (st2 := [.int x2, .ref 12, .int x3, .int y3, .int (y1 * p2)]) rfl ?_
  refine Ok_ld (l := (gA c 8)) rfl rfl (fun y4 hy4 => ?_)
  refine Ok_blk 6 (pc2 := 29) (lo2 := [some (.ref 1), some (.ref 12), some (.int x2), some (.int x3), some (.int x4), some (.int ((y1 * p2) + (y3 * (x3 - y4)))), none]) (st2 := [.int x2, .ref 12]) rfl ?_
  refine Ok_ld (l := (gA c 8)) rfl rfl (fun y5 hy5 => ?_)
  refine Ok_blk 2 (pc2 := 34) (lo2 := [some (.ref 1), some (.ref 12), some (.int x2), some (.int x3), some (.int x4), some (.int ((y1 * p2) + (y3 * (x3 - y4)))), none]) (st2 := [.int 100, .int ((y1 * p2) + (y3 * (x3 - y4))), .int y5]) rfl ?_
  refine Ok_call (y := 259) (as := [.int ((y1 * p2) + (y3 * (x3 - y4))), .int 100]) (rest := [.int y5]) (w := fun p6 => some (.int p6)) (h1 := fun p6 => HP c r) rfl rfl (fun x hx => tm_J_floorDiv N d xs c r ((y1 * p2) + (y3 * (x3 - y4))) 100 x hx) (fun p6 hp6 => ?_)
  refine Ok_blk 4 (pc2 := (if x4 = 0 then 66 else 45)) (lo2 := [some (.ref 1), some (.ref 12), some (.int x2), some (.int x3), some (.int x4), some (.int ((y1 * p2) + (y3 * (x3 - y4)))), some (.int (y5 + p6))]) (st2 := []) rfl ?_
  refine Ok_if (fun h7 => ?_) (fun h7 => ?_)
  · refine Ok_drop (lo0 := [none, none, none, none, none, none, some (.int (y5 + p6))]) ⟨Or.inl rfl, Or.inl rfl, Or.inl rfl, Or.inl rfl, Or.inl rfl, Or.inl rfl, Or.inr rfl, trivial⟩ ?_
    exact t_Hold_nextWarmth_2_p66 N d xs c r (y5 + p6)
  · refine Ok_blk 3 (pc2 := 50) (lo2 := [some (.ref 1), some (.ref 12), some (.int x2), some (.int x3), some (.int x4), some (.int ((y1 * p2) + (y3 * (x3 - y4)))), some (.int (y5 + p6))]) (st2 := [.int x2, .ref 3]) rfl ?_
    refine Ok_ld (l := (gA c 1)) rfl rfl (fun y9 hy9 => ?_)
    refine Ok_blk 2 (pc2 := (if ¬ y9 = 1 then 66 else 55)) (lo2 := [some (.ref 1), some (.ref 12), some (.int x2), some (.int x3), some (.int x4), some (.int ((y1 * p2) + (y3 * (x3 - y4)))), some (.int (y5 + p6))]) (st2 := []) rfl ?_
    refine Ok_if (fun h10 => ?_) (fun h10 => ?_)
    · refine Ok_drop (lo0 := [none, none, none, none, none, none, some (.int (y5 + p6))]) ⟨Or.inl rfl, Or.inl rfl, Or.inl rfl, Or.inl rfl, Or.inl rfl, Or.inl rfl, Or.inr rfl, trivial⟩ ?_
      exact t_Hold_nextWarmth_2_p66 N d xs c r (y5 + p6)
    · refine Ok_blk 4 (pc2 := 62) (lo2 := [some (.ref 1), some (.ref 12), some (.int x2), some (.int x3), some (.int x4), some (.int ((y1 * p2) + (y3 * (x3 - y4)))), some (.int (y5 + p6))]) (st2 := [.int 1, .ref 4, .int (y5 + p6)]) rfl ?_
      refine Ok_ld (l := (gA c 2)) rfl rfl (fun y11 hy11 => ?_)
      refine Ok_blk 2 (pc2 := 66) (lo2 := [some (.ref 1), some (.ref 12), some (.int x2), some (.int x3), some (.int x4), some (.int ((y1 * p2) + (y3 * (x3 - y4)))), some (.int ((y5 + p6) - y11))]) (st2 := []) rfl ?_
      refine Ok_drop (lo0 := [none, none, none, none, none, none, some (.int ((y5 + p6) - y11))]) ⟨Or.inl rfl, Or.inl rfl, Or.inl rfl, Or.inl rfl, Or.inl rfl, Or.inl rfl, Or.inr rfl, trivial⟩ ?_
      exact t_Hold_nextWarmth_2_p66 N d xs c r ((y5 + p6) - y11)
set_option maxHeartbeats 8000000 in
set_option maxRecDepth 100000 in
theorem tm_Hold_nextWarmth_2 (N d : Nat) (xs : List Int32) (c r : St) (a2 : Int32) (a3 : Int32) (a4 : Int32) (p : Int32) (hp : Hold_nextWarmth_2 N c a2 a3 a4 = some p) : mBig (mRoL xs) (d + 2) 32 [.ref 1, .ref 12, .int a2, .int a3, .int a4] (HP c r) (some (.int p)) (HP c r) 0 0 := mBig_of (by decide) rfl rfl rfl rfl (t_Hold_nextWarmth_2 N d xs c r a2 a3 a4 p hp)
/-! ColdHolds$Air.pass(LColdHolds$Hold;IZ)Z, from (('r', 11), ('r', 1), 'i', 'i') -/
def Air_pass_2_p47b (N : Nat) (kb47 : St → Int32 → Int32 → Int32 → Option (Int32 × St)) (c : St) (x2 : Int32) (x5 : Int32) (x6 : Int32) : Option (Int32 × St) :=
  (if 12 ≤ x6 then (cpy (gA c 10) (gA c 8) 0 0 12).bind fun w5 => (gz x5).bind fun _ => some (x5, sA c 8 w5) else (Hold_nextWarmth_2 N c x6 x2 x5).bind fun p7 => (sto (gA c 10) x6 p7).bind fun w8 => kb47 (sA c 10 w8) x2 x5 (x6 + 1))
def Air_pass_2_p47 (N : Nat) : Nat → St → Int32 → Int32 → Int32 → Option (Int32 × St)
  | 0 => fun _ _ _ _ => none
  | n + 1 => Air_pass_2_p47b N (Air_pass_2_p47 N n)
def Air_pass_2_p44 (N : Nat) (c : St) (x2 : Int32) (x5 : Int32) : Option (Int32 × St) :=
  Air_pass_2_p47 N N c x2 x5 0
def Air_pass_2_p26 (N : Nat) (c : St) (x2 : Int32) (x4 : Int32) (s0 : Int32) : Option (Int32 × St) :=
  (if s0 = 0 then Air_pass_2_p44 N c x2 s0 else Air_pass_2_p44 N (sI c 4 ((gI c 4) - x4)) x2 s0)
def Air_pass_2_p25 (N : Nat) (c : St) (x2 : Int32) (x4 : Int32) : Option (Int32 × St) :=
  Air_pass_2_p26 N c x2 x4 0
def Air_pass_2 (N : Nat) (c : St) (x2 : Int32) (x3 : Int32) : Option (Int32 × St) :=
  (ld (gA c 2) 2).bind fun y1 => (if x3 = 0 then Air_pass_2_p25 N c x2 y1 else (if (gI c 4) < y1 then Air_pass_2_p25 N c x2 y1 else Air_pass_2_p26 N c x2 y1 1))
set_option maxHeartbeats 8000000 in
set_option maxRecDepth 100000 in
theorem t_Air_pass_2_p47b (N d : Nat) (xs : List Int32) (r : St) (kb47 : St → Int32 → Int32 → Int32 → Option (Int32 × St)) (hb47 : ∀ (c : St) (x2 : Int32) (x5 : Int32) (x6 : Int32), Ok (mBig (mRoL xs) (d + 2)) (mRoL xs) 2 mK2 (fun p : Int32 × St => (some (.int p.1), HP p.2 r)) (kb47 c x2 x5 x6) 47 [some (.ref 11), some (.ref 1), some (.int x2), none, none, some (.int x5), some (.int x6)] [] (HP c r)) (c : St) (x2 : Int32) (x5 : Int32) (x6 : Int32) : Ok (mBig (mRoL xs) (d + 2)) (mRoL xs) 2 mK2 (fun p : Int32 × St => (some (.int p.1), HP p.2 r)) (Air_pass_2_p47b N kb47 c x2 x5 x6) 47 [some (.ref 11), some (.ref 1), some (.int x2), none, none, some (.int x5), some (.int x6)] [] (HP c r) := by
  unfold Air_pass_2_p47b
  refine Ok_blk 3 (pc2 := (if 12 ≤ x6 then 80 else 54)) (lo2 := [some (.ref 11), some (.ref 1), some (.int x2), none, none, some (.int x5), some (.int x6)]) (st2 := []) rfl ?_
  refine Ok_if (fun h4 => ?_) (fun h4 => ?_)
  · refine Ok_blk 7 (pc2 := 92) (lo2 := [some (.ref 11), some (.ref 1), some (.int x2), none, none, some (.int x5), some (.int x6)]) (st2 := [.int 12, .int 0, .ref 12, .int 0, .ref 14]) rfl ?_
    refine Ok_cpy (f := (gA c 10)) (g := (gA c 8)) (hn := fun l' => HP (sA c 8 l') r) rfl rfl rfl (Nat.le_of_ble_eq_true rfl) (fun l' => sa_12 _ _ l') (fun w5 hw5 => ?_)
    refine Ok_blk 1 (pc2 := 97) (lo2 := [some (.ref 11), some (.ref 1), some (.int x2), none, none, some (.int x5), some (.int x6)]) (st2 := [.int x5]) rfl ?_
    refine Ok_gz (fun hz6 => ?_)
    exact Ok_rez hz6 rfl rfl
  · refine Ok_blk 9 (pc2 := 70) (lo2 := [some (.ref 11), some (.ref 1), some (.int x2), none, none, some (.int x5), some (.int x6)]) (st2 := [.int x5, .int x2, .int x6, .ref 12, .ref 1, .int x6, .ref 14]) rfl ?_
    refine Ok_call (y := 32) (as := [.ref 1, .ref 12, .int x6, .int x2, .int x5]) (rest := [.int x6, .ref 14]) (w := fun p7 => some (.int p7)) (h1 := fun p7 => HP c r) rfl rfl (fun x hx => tm_Hold_nextWarmth_2 N d xs c r x6 x2 x5 x hx) (fun p7 hp7 => ?_)
    refine Ok_st (l := (gA c 10)) (hn := fun l' => HP (sA c 10 l') r) rfl rfl (fun l' => sa_14 _ _ l') (fun w8 hw8 => ?_)
    refine Ok_blk 2 (pc2 := 47) (lo2 := [some (.ref 11), some (.ref 1), some (.int x2), none, none, some (.int x5), some (.int (x6 + 1))]) (st2 := []) rfl ?_
    refine Ok_drop (lo0 := [some (.ref 11), some (.ref 1), some (.int x2), none, none, some (.int x5), some (.int (x6 + 1))]) ⟨Or.inr rfl, Or.inr rfl, Or.inr rfl, Or.inl rfl, Or.inl rfl, Or.inr rfl, Or.inr rfl, trivial⟩ ?_
    exact hb47 (sA c 10 w8) x2 x5 (x6 + 1)
set_option maxHeartbeats 8000000 in
set_option maxRecDepth 100000 in
theorem t_Air_pass_2_p47 (N d : Nat) (xs : List Int32) (r : St) : ∀ (n : Nat) (c : St) (x2 : Int32) (x5 : Int32) (x6 : Int32), Ok (mBig (mRoL xs) (d + 2)) (mRoL xs) 2 mK2 (fun p : Int32 × St => (some (.int p.1), HP p.2 r)) (Air_pass_2_p47 N n c x2 x5 x6) 47 [some (.ref 11), some (.ref 1), some (.int x2), none, none, some (.int x5), some (.int x6)] [] (HP c r) := by
  intro n
  induction n with
  | zero => intro c x2 x5 x6; exact Ok_none
  | succ n ih => intro c x2 x5 x6; exact t_Air_pass_2_p47b N d xs r (Air_pass_2_p47 N n) ih c x2 x5 x6
set_option maxHeartbeats 8000000 in
set_option maxRecDepth 100000 in
theorem t_Air_pass_2_p44 (N d : Nat) (xs : List Int32) (r : St) (c : St) (x2 : Int32) (x5 : Int32) : Ok (mBig (mRoL xs) (d + 2)) (mRoL xs) 2 mK2 (fun p : Int32 × St => (some (.int p.1), HP p.2 r)) (Air_pass_2_p44 N c x2 x5) 44 [some (.ref 11), some (.ref 1), some (.int x2), none, none, some (.int x5), none] [] (HP c r) := by
  unfold Air_pass_2_p44
  refine Ok_blk 2 (pc2 := 47) (lo2 := [some (.ref 11), some (.ref 1), some (.int x2), none, none, some (.int x5), some (.int 0)]) (st2 := []) rfl ?_
  refine Ok_drop (lo0 := [some (.ref 11), some (.ref 1), some (.int x2), none, none, some (.int x5), some (.int 0)]) ⟨Or.inr rfl, Or.inr rfl, Or.inr rfl, Or.inl rfl, Or.inl rfl, Or.inr rfl, Or.inr rfl, trivial⟩ ?_
  exact t_Air_pass_2_p47 N d xs r N c x2 x5 0
set_option maxHeartbeats 8000000 in
set_option maxRecDepth 100000 in
theorem t_Air_pass_2_p26 (N d : Nat) (xs : List Int32) (r : St) (c : St) (x2 : Int32) (x4 : Int32) (s0 : Int32) : Ok (mBig (mRoL xs) (d + 2)) (mRoL xs) 2 mK2 (fun p : Int32 × St => (some (.int p.1), HP p.2 r)) (Air_pass_2_p26 N c x2 x4 s0) 26 [some (.ref 11), some (.ref 1), some (.int x2), none, some (.int x4), none, none] [.int s0] (HP c r) := by
  unfold Air_pass_2_p26
  refine Ok_blk 3 (pc2 := (if s0 = 0 then 44 else 33)) (lo2 := [some (.ref 11), some (.ref 1), some (.int x2), none, some (.int x4), some (.int s0), none]) (st2 := []) rfl ?_
  refine Ok_if (fun h3 => ?_) (fun h3 => ?_)
  · refine Ok_drop (lo0 := [some (.ref 11), some (.ref 1), some (.int x2), none, none, some (.int s0), none]) ⟨Or.inr rfl, Or.inr rfl, Or.inr rfl, Or.inl rfl, Or.inl rfl, Or.inr rfl, Or.inl rfl, trivial⟩ ?_
    exact t_Air_pass_2_p44 N d xs r c x2 s0
  · refine Ok_heap 6 (pc2 := 44) (lo2 := [some (.ref 11), some (.ref 1), some (.int x2), none, some (.int x4), some (.int s0), none]) (st2 := []) (h2 := HP (sI c 4 ((gI c 4) - x4)) r) rfl (st_11_2 _ _ _) ?_
    refine Ok_drop (lo0 := [some (.ref 11), some (.ref 1), some (.int x2), none, none, some (.int s0), none]) ⟨Or.inr rfl, Or.inr rfl, Or.inr rfl, Or.inl rfl, Or.inl rfl, Or.inr rfl, Or.inl rfl, trivial⟩ ?_
    exact t_Air_pass_2_p44 N d xs r (sI c 4 ((gI c 4) - x4)) x2 s0
set_option maxHeartbeats 8000000 in
set_option maxRecDepth 100000 in
theorem t_Air_pass_2_p25 (N d : Nat) (xs : List Int32) (r : St) (c : St) (x2 : Int32) (x4 : Int32) : Ok (mBig (mRoL xs) (d + 2)) (mRoL xs) 2 mK2 (fun p : Int32 × St => (some (.int p.1), HP p.2 r)) (Air_pass_2_p25 N c x2 x4) 25 [some (.ref 11), some (.ref 1), some (.int x2), none, some (.int x4), none, none] [] (HP c r) := by
  unfold Air_pass_2_p25
  refine Ok_blk 1 (pc2 := 26) (lo2 := [some (.ref 11), some (.ref 1), some (.int x2), none, some (.int x4), none, none]) (st2 := [.int 0]) rfl ?_
  refine Ok_drop (lo0 := [some (.ref 11), some (.ref 1), some (.int x2), none, some (.int x4), none, none]) ⟨Or.inr rfl, Or.inr rfl, Or.inr rfl, Or.inl rfl, Or.inr rfl, Or.inl rfl, Or.inl rfl, trivial⟩ ?_
  exact t_Air_pass_2_p26 N d xs r c x2 x4 0
set_option maxHeartbeats 8000000 in
set_option maxRecDepth 100000 in
theorem t_Air_pass_2 (N d : Nat) (xs : List Int32) (r : St) (c : St) (x2 : Int32) (x3 : Int32) : Ok (mBig (mRoL xs) (d + 2)) (mRoL xs) 2 mK2 (fun p : Int32 × St => (some (.int p.1), HP p.2 r)) (Air_pass_2 N c x2 x3) 0 [some (.ref 11), some (.ref 1), some (.int x2), some (.int x3), none, none, none] [] (HP c r) := by
  unfold Air_pass_2
  refine Ok_blk 3 (pc2 := 5) (lo2 := [some (.ref 11), some (.ref 1), some (.int x2), some (.int x3), none, none, none]) (st2 := [.int 2, .ref 4]) rfl ?_
  refine Ok_ld (l := (gA c 2)) rfl rfl (fun y1 hy1 => ?_)
  refine Ok_blk 3 (pc2 := (if x3 = 0 then 25 else 12)) (lo2 := [some (.ref 11), some (.ref 1), some (.int x2), some (.int x3), some (.int y1), none, none]) (st2 := []) rfl ?_
  refine Ok_if (fun h2 => ?_) (fun h2 => ?_)
  · refine Ok_drop (lo0 := [some (.ref 11), some (.ref 1), some (.int x2), none, some (.int y1), none, none]) ⟨Or.inr rfl, Or.inr rfl, Or.inr rfl, Or.inl rfl, Or.inr rfl, Or.inl rfl, Or.inl rfl, trivial⟩ ?_
    exact t_Air_pass_2_p25 N d xs r c x2 y1
  · refine Ok_blk 4 (pc2 := (if (gI c 4) < y1 then 25 else 21)) (lo2 := [some (.ref 11), some (.ref 1), some (.int x2), some (.int x3), some (.int y1), none, none]) (st2 := []) rfl ?_
    refine Ok_if (fun h9 => ?_) (fun h9 => ?_)
    · refine Ok_drop (lo0 := [some (.ref 11), some (.ref 1), some (.int x2), none, some (.int y1), none, none]) ⟨Or.inr rfl, Or.inr rfl, Or.inr rfl, Or.inl rfl, Or.inr rfl, Or.inl rfl, Or.inl rfl, trivial⟩ ?_
      exact t_Air_pass_2_p25 N d xs r c x2 y1
    · refine Ok_blk 2 (pc2 := 26) (lo2 := [some (.ref 11), some (.ref 1), some (.int x2), some (.int x3), some (.int y1), none, none]) (st2 := [.int 1]) rfl ?_
      refine Ok_drop (lo0 := [some (.ref 11), some (.ref 1), some (.int x2), none, some (.int y1), none, none]) ⟨Or.inr rfl, Or.inr rfl, Or.inr rfl, Or.inl rfl, Or.inr rfl, Or.inl rfl, Or.inl rfl, trivial⟩ ?_
      exact t_Air_pass_2_p26 N d xs r c x2 y1 1
set_option maxHeartbeats 8000000 in
set_option maxRecDepth 100000 in
theorem tm_Air_pass_2 (N d : Nat) (xs : List Int32) (c r : St) (a2 : Int32) (a3 : Int32) (p : Int32 × St) (hp : Air_pass_2 N c a2 a3 = some p) : mBig (mRoL xs) (d + 3) 2 [.ref 11, .ref 1, .int a2, .int a3] (HP c r) (some (.int p.1)) (HP p.2 r) 0 0 := mBig_of (by decide) rfl rfl rfl rfl (t_Air_pass_2 N d xs r c a2 a3 p hp)
/-! ColdHolds$Air.firstAbove(I)I, from (('r', 11), 'i') -/
def Air_firstAbove_p2b (N : Nat) (kb2 : Int32 → Int32 → Option (Int32)) (c : St) (x1 : Int32) (x2 : Int32) : Option (Int32) :=
  (if 12 ≤ x2 then some (-1) else (ld (gA c 8) x2).bind fun y2 => (if y2 ≤ x1 then kb2 x1 (x2 + 1) else some x2))
def Air_firstAbove_p2 (N : Nat) (c : St) : Nat → Int32 → Int32 → Option (Int32)
  | 0 => fun _ _ => none
  | n + 1 => Air_firstAbove_p2b N (Air_firstAbove_p2 N c n) c
def Air_firstAbove (N : Nat) (c : St) (x1 : Int32) : Option (Int32) :=
  Air_firstAbove_p2 N c N x1 0
set_option maxHeartbeats 8000000 in
set_option maxRecDepth 100000 in
theorem t_Air_firstAbove_p2b (N d : Nat) (xs : List Int32) (c : St) (r : St) (kb2 : Int32 → Int32 → Option (Int32)) (hb2 : ∀ (x1 : Int32) (x2 : Int32), Ok (mBig (mRoL xs) (d)) (mRoL xs) 1 mK3 (fun p : Int32 => (some (.int p), HP c r)) (kb2 x1 x2) 2 [some (.ref 11), some (.int x1), some (.int x2)] [] (HP c r)) (x1 : Int32) (x2 : Int32) : Ok (mBig (mRoL xs) (d)) (mRoL xs) 1 mK3 (fun p : Int32 => (some (.int p), HP c r)) (Air_firstAbove_p2b N kb2 c x1 x2) 2 [some (.ref 11), some (.int x1), some (.int x2)] [] (HP c r) := by
  unfold Air_firstAbove_p2b
  refine Ok_blk 3 (pc2 := (if 12 ≤ x2 then 26 else 8)) (lo2 := [some (.ref 11), some (.int x1), some (.int x2)]) (st2 := []) rfl ?_
  refine Ok_if (fun h1 => ?_) (fun h1 => ?_)
  · refine Ok_blk 1 (pc2 := 27) (lo2 := [some (.ref 11), some (.int x1), some (.int x2)]) (st2 := [.int (-1)]) rfl ?_
    exact Ok_ret rfl rfl rfl
  · refine Ok_blk 3 (pc2 := 13) (lo2 := [some (.ref 11), some (.int x1), some (.int x2)]) (st2 := [.int x2, .ref 12]) rfl ?_
    refine Ok_ld (l := (gA c 8)) rfl rfl (fun y2 hy2 => ?_)
    refine Ok_blk 2 (pc2 := (if y2 ≤ x1 then 20 else 18)) (lo2 := [some (.ref 11), some (.int x1), some (.int x2)]) (st2 := []) rfl ?_
    refine Ok_if (fun h3 => ?_) (fun h3 => ?_)
    · refine Ok_blk 2 (pc2 := 2) (lo2 := [some (.ref 11), some (.int x1), some (.int (x2 + 1))]) (st2 := []) rfl ?_
      refine Ok_drop (lo0 := [some (.ref 11), some (.int x1), some (.int (x2 + 1))]) ⟨Or.inr rfl, Or.inr rfl, Or.inr rfl, trivial⟩ ?_
      exact hb2 x1 (x2 + 1)
    · refine Ok_blk 1 (pc2 := 19) (lo2 := [some (.ref 11), some (.int x1), some (.int x2)]) (st2 := [.int x2]) rfl ?_
      exact Ok_ret rfl rfl rfl
set_option maxHeartbeats 8000000 in
set_option maxRecDepth 100000 in
theorem t_Air_firstAbove_p2 (N d : Nat) (xs : List Int32) (c : St) (r : St) : ∀ (n : Nat) (x1 : Int32) (x2 : Int32), Ok (mBig (mRoL xs) (d)) (mRoL xs) 1 mK3 (fun p : Int32 => (some (.int p), HP c r)) (Air_firstAbove_p2 N c n x1 x2) 2 [some (.ref 11), some (.int x1), some (.int x2)] [] (HP c r) := by
  intro n
  induction n with
  | zero => intro x1 x2; exact Ok_none
  | succ n ih => intro x1 x2; exact t_Air_firstAbove_p2b N d xs c r (Air_firstAbove_p2 N c n) ih x1 x2
set_option maxHeartbeats 8000000 in
set_option maxRecDepth 100000 in
theorem t_Air_firstAbove (N d : Nat) (xs : List Int32) (c : St) (r : St) (x1 : Int32) : Ok (mBig (mRoL xs) (d)) (mRoL xs) 1 mK3 (fun p : Int32 => (some (.int p), HP c r)) (Air_firstAbove N c x1) 0 [some (.ref 11), some (.int x1), none] [] (HP c r) := by
  unfold Air_firstAbove
  refine Ok_blk 2 (pc2 := 2) (lo2 := [some (.ref 11), some (.int x1), some (.int 0)]) (st2 := []) rfl ?_
  refine Ok_drop (lo0 := [some (.ref 11), some (.int x1), some (.int 0)]) ⟨Or.inr rfl, Or.inr rfl, Or.inr rfl, trivial⟩ ?_
  exact t_Air_firstAbove_p2 N d xs c r N x1 0
set_option maxHeartbeats 8000000 in
set_option maxRecDepth 100000 in
theorem tm_Air_firstAbove (N d : Nat) (xs : List Int32) (c r : St) (a1 : Int32) (p : Int32) (hp : Air_firstAbove N c a1 = some p) : mBig (mRoL xs) (d + 1) 3 [.ref 11, .int a1] (HP c r) (some (.int p)) (HP c r) 0 0 := mBig_of (by decide) rfl rfl rfl rfl (t_Air_firstAbove N d xs c r a1 p hp)
/-! ColdHolds.first(II)I, from (('r', 0), 'i', 'i') -/
def C_first_p18 (N : Nat) (c : St) : Option (Int32 × St) :=
  some ((-102), c)
def C_first_p120 (N : Nat) (c : St) (x3 : Int32) (x4 : Int32) : Option (Int32 × St) :=
  (if ¬ x3 = (-1) then some ((1000 * x4) + x3, c) else some ((-1), c))
def C_first_p101 (N : Nat) (kb44 : St → Int32 → Int32 → Int32 → Int32 → Option (Int32 × St)) (c : St) (x1 : Int32) (x2 : Int32) (x4 : Int32) (s2 : Int32) (s3 : Int32) : Option (Int32 × St) :=
  (Air_pass_2 N c s2 s3).bind fun p12 => (Air_firstAbove N p12.2 x1).bind fun p13 => kb44 p12.2 x1 x2 p13 (x4 + 1)
def C_first_p44b (N : Nat) (kb44 : St → Int32 → Int32 → Int32 → Int32 → Option (Int32 × St)) (c : St) (x1 : Int32) (x2 : Int32) (x3 : Int32) (x4 : Int32) : Option (Int32 × St) :=
  (if ¬ x3 = (-1) then C_first_p120 N c x3 x4 else (if x2 ≤ x4 then C_first_p120 N c x3 x4 else (Hold_seaOf N c ((gI c 1) + x4)).bind fun p10 => (if (gI c 2) ≤ ((gI c 1) + x4) then C_first_p101 N kb44 c x1 x2 x4 p10 0 else C_first_p101 N kb44 c x1 x2 x4 p10 1)))
def C_first_p44 (N : Nat) : Nat → St → Int32 → Int32 → Int32 → Int32 → Option (Int32 × St)
  | 0 => fun _ _ _ _ _ => none
  | n + 1 => C_first_p44b N (C_first_p44 N n)
def C_first (N : Nat) (c : St) (x1 : Int32) (x2 : Int32) : Option (Int32 × St) :=
  (C_isWarmth N x1).bind fun p1 => (if p1 = 0 then C_first_p18 N c else (C_within N x2 0 300).bind fun p3 => (if ¬ p3 = 0 then (Air_takeFrom N c).bind fun p5 => (Air_firstAbove N p5 x1).bind fun p6 => C_first_p44 N N p5 x1 x2 p6 0 else C_first_p18 N c))
set_option maxHeartbeats 8000000 in
set_option maxRecDepth 100000 in
theorem t_C_first_p18 (N d : Nat) (xs : List Int32) (r : St) (c : St) : Ok (mBig (mRoL xs) (d + 3)) (mRoL xs) 1 mK117 (fun p : Int32 × St => (some (.int p.1), HP p.2 r)) (C_first_p18 N c) 18 [none, none, none, none, none, none] [] (HP c r) := by
  unfold C_first_p18
  refine Ok_blk 1 (pc2 := 20) (lo2 := [none, none, none, none, none, none]) (st2 := [.int (-102)]) rfl ?_
  exact Ok_ret rfl rfl rfl
set_option maxHeartbeats 8000000 in
set_option maxRecDepth 100000 in
theorem t_C_first_p120 (N d : Nat) (xs : List Int32) (r : St) (c : St) (x3 : Int32) (x4 : Int32) : Ok (mBig (mRoL xs) (d + 3)) (mRoL xs) 1 mK117 (fun p : Int32 × St => (some (.int p.1), HP p.2 r)) (C_first_p120 N c x3 x4) 120 [none, none, none, some (.int x3), some (.int x4), none] [] (HP c r) := by
  unfold C_first_p120
  refine Ok_blk 3 (pc2 := (if ¬ x3 = (-1) then 129 else 125)) (lo2 := [none, none, none, some (.int x3), some (.int x4), none]) (st2 := []) rfl ?_
  refine Ok_if (fun h8 => ?_) (fun h8 => ?_)
  · refine Ok_blk 5 (pc2 := 137) (lo2 := [none, none, none, some (.int x3), some (.int x4), none]) (st2 := [.int ((1000 * x4) + x3)]) rfl ?_
    exact Ok_ret rfl rfl rfl
  · refine Ok_blk 2 (pc2 := 137) (lo2 := [none, none, none, some (.int x3), some (.int x4), none]) (st2 := [.int (-1)]) rfl ?_
    exact Ok_ret rfl rfl rfl
set_option maxHeartbeats 8000000 in
set_option maxRecDepth 100000 in
theorem t_C_first_p101 (N d : Nat) (xs : List Int32) (r : St) (kb44 : St → Int32 → Int32 → Int32 → Int32 → Option (Int32 × St)) (hb44 : ∀ (c : St) (x1 : Int32) (x2 : Int32) (x3 : Int32) (x4 : Int32), Ok (mBig (mRoL xs) (d + 3)) (mRoL xs) 1 mK117 (fun p : Int32 × St => (some (.int p.1), HP p.2 r)) (kb44 c x1 x2 x3 x4) 44 [some (.ref 0), some (.int x1), some (.int x2), some (.int x3), some (.int x4), none] [] (HP c r)) (c : St) (x1 : Int32) (x2 : Int32) (x4 : Int32) (s2 : Int32) (s3 : Int32) : Ok (mBig (mRoL xs) (d + 3)) (mRoL xs) 1 mK117 (fun p : Int32 × St => (some (.int p.1), HP p.2 r)) (C_first_p101 N kb44 c x1 x2 x4 s2 s3) 101 [some (.ref 0), some (.int x1), some (.int x2), none, some (.int x4), none] [.int s3, .int s2, .ref 1, .ref 11] (HP c r) := by
  unfold C_first_p101
  refine Ok_call (y := 2) (as := [.ref 11, .ref 1, .int s2, .int s3]) (rest := []) (w := fun p12 => some (.int p12.1)) (h1 := fun p12 => HP p12.2 r) rfl rfl (fun x hx => tm_Air_pass_2 N d xs c r s2 s3 x hx) (fun p12 hp12 => ?_)
  refine Ok_blk 5 (pc2 := 113) (lo2 := [some (.ref 0), some (.int x1), some (.int x2), none, some (.int (x4 + 1)), none]) (st2 := [.int x1, .ref 11]) rfl ?_
  refine Ok_call (y := 3) (as := [.ref 11, .int x1]) (rest := []) (w := fun p13 => some (.int p13)) (h1 := fun p13 => HP p12.2 r) rfl rfl (fun x hx => tm_Air_firstAbove N (d + 2) xs p12.2 r x1 x hx) (fun p13 hp13 => ?_)
  refine Ok_blk 2 (pc2 := 44) (lo2 := [some (.ref 0), some (.int x1), some (.int x2), some (.int p13), some (.int (x4 + 1)), none]) (st2 := []) rfl ?_
  refine Ok_drop (lo0 := [some (.ref 0), some (.int x1), some (.int x2), some (.int p13), some (.int (x4 + 1)), none]) ⟨Or.inr rfl, Or.inr rfl, Or.inr rfl, Or.inr rfl, Or.inr rfl, Or.inl rfl, trivial⟩ ?_
  exact hb44 p12.2 x1 x2 p13 (x4 + 1)
set_option maxHeartbeats 8000000 in
set_option maxRecDepth 100000 in
theorem t_C_first_p44b (N d : Nat) (xs : List Int32) (r : St) (kb44 : St → Int32 → Int32 → Int32 → Int32 → Option (Int32 × St)) (hb44 : ∀ (c : St) (x1 : Int32) (x2 : Int32) (x3 : Int32) (x4 : Int32), Ok (mBig (mRoL xs) (d + 3)) (mRoL xs) 1 mK117 (fun p : Int32 × St => (some (.int p.1), HP p.2 r)) (kb44 c x1 x2 x3 x4) 44 [some (.ref 0), some (.int x1), some (.int x2), some (.int x3), some (.int x4), none] [] (HP c r)) (c : St) (x1 : Int32) (x2 : Int32) (x3 : Int32) (x4 : Int32) : Ok (mBig (mRoL xs) (d + 3)) (mRoL xs) 1 mK117 (fun p : Int32 × St => (some (.int p.1), HP p.2 r)) (C_first_p44b N kb44 c x1 x2 x3 x4) 44 [some (.ref 0), some (.int x1), some (.int x2), some (.int x3), some (.int x4), none] [] (HP c r) := by
  unfold C_first_p44b
  refine Ok_blk 3 (pc2 := (if ¬ x3 = (-1) then 120 else 49)) (lo2 := [some (.ref 0), some (.int x1), some (.int x2), some (.int x3), some (.int x4), none]) (st2 := []) rfl ?_
  refine Ok_if (fun h7 => ?_) (fun h7 => ?_)
  · refine Ok_drop (lo0 := [none, none, none, some (.int x3), some (.int x4), none]) ⟨Or.inl rfl, Or.inl rfl, Or.inl rfl, Or.inr rfl, Or.inr rfl, Or.inl rfl, trivial⟩ ?_
    exact t_C_first_p120 N d xs r c x3 x4
  · refine Ok_blk 3 (pc2 := (if x2 ≤ x4 then 120 else 55)) (lo2 := [some (.ref 0), some (.int x1), some (.int x2), some (.int x3), some (.int x4), none]) (st2 := []) rfl ?_
    refine Ok_if (fun h9 => ?_) (fun h9 => ?_)
    · refine Ok_drop (lo0 := [none, none, none, some (.int x3), some (.int x4), none]) ⟨Or.inl rfl, Or.inl rfl, Or.inl rfl, Or.inr rfl, Or.inr rfl, Or.inl rfl, trivial⟩ ?_
      exact t_C_first_p120 N d xs r c x3 x4
    · refine Ok_blk 13 (pc2 := 81) (lo2 := [some (.ref 0), some (.int x1), some (.int x2), some (.int x3), some (.int x4), some (.int ((gI c 1) + x4))]) (st2 := [.int ((gI c 1) + x4), .ref 1, .ref 1, .ref 11]) rfl ?_
      refine Ok_call (y := 31) (as := [.ref 1, .int ((gI c 1) + x4)]) (rest := [.ref 1, .ref 11]) (w := fun p10 => some (.int p10)) (h1 := fun p10 => HP c r) rfl rfl (fun x hx => tm_Hold_seaOf N (d + 2) xs c r ((gI c 1) + x4) x hx) (fun p10 hp10 => ?_)
      refine Ok_blk 5 (pc2 := (if (gI c 2) ≤ ((gI c 1) + x4) then 100 else 96)) (lo2 := [some (.ref 0), some (.int x1), some (.int x2), some (.int x3), some (.int x4), some (.int ((gI c 1) + x4))]) (st2 := [.int p10, .ref 1, .ref 11]) rfl ?_
      refine Ok_if (fun h11 => ?_) (fun h11 => ?_)
      · refine Ok_blk 1 (pc2 := 101) (lo2 := [some (.ref 0), some (.int x1), some (.int x2), some (.int x3), some (.int x4), some (.int ((gI c 1) + x4))]) (st2 := [.int 0, .int p10, .ref 1, .ref 11]) rfl ?_
        refine Ok_drop (lo0 := [some (.ref 0), some (.int x1), some (.int x2), none, some (.int x4), none]) ⟨Or.inr rfl, Or.inr rfl, Or.inr rfl, Or.inl rfl, Or.inr rfl, Or.inl rfl, trivial⟩ ?_
        exact t_C_first_p101 N d xs r kb44 hb44 c x1 x2 x4 p10 0
      · refine Ok_blk 2 (pc2 := 101) (lo2 := [some (.ref 0), some (.int x1), some (.int x2), some (.int x3), some (.int x4), some (.int ((gI c 1) + x4))]) (st2 := [.int 1, .int p10, .ref 1, .ref 11]) rfl ?_
        refine Ok_drop (lo0 := [some (.ref 0), some (.int x1), some (.int x2), none, some (.int x4), none]) ⟨Or.inr rfl, Or.inr rfl, Or.inr rfl, Or.inl rfl, Or.inr rfl, Or.inl rfl, trivial⟩ ?_
        exact t_C_first_p101 N d xs r kb44 hb44 c x1 x2 x4 p10 1
set_option maxHeartbeats 8000000 in
set_option maxRecDepth 100000 in
theorem t_C_first_p44 (N d : Nat) (xs : List Int32) (r : St) : ∀ (n : Nat) (c : St) (x1 : Int32) (x2 : Int32) (x3 : Int32) (x4 : Int32), Ok (mBig (mRoL xs) (d + 3)) (mRoL xs) 1 mK117 (fun p : Int32 × St => (some (.int p.1), HP p.2 r)) (C_first_p44 N n c x1 x2 x3 x4) 44 [some (.ref 0), some (.int x1), some (.int x2), some (.int x3), some (.int x4), none] [] (HP c r) := by
  intro n
  induction n with
  | zero => intro c x1 x2 x3 x4; exact Ok_none
  | succ n ih => intro c x1 x2 x3 x4; exact t_C_first_p44b N d xs r (C_first_p44 N n) ih c x1 x2 x3 x4
set_option maxHeartbeats 8000000 in
set_option maxRecDepth 100000 in
theorem t_C_first (N d : Nat) (xs : List Int32) (r : St) (c : St) (x1 : Int32) (x2 : Int32) : Ok (mBig (mRoL xs) (d + 3)) (mRoL xs) 1 mK117 (fun p : Int32 × St => (some (.int p.1), HP p.2 r)) (C_first N c x1 x2) 0 [some (.ref 0), some (.int x1), some (.int x2), none, none, none] [] (HP c r) := by
  unfold C_first
  refine Ok_blk 1 (pc2 := 1) (lo2 := [some (.ref 0), some (.int x1), some (.int x2), none, none, none]) (st2 := [.int x1]) rfl ?_
  refine Ok_call (y := 104) (as := [.int x1]) (rest := []) (w := fun p1 => some (.int p1)) (h1 := fun p1 => HP c r) rfl rfl (fun x hx => tm_C_isWarmth N (d + 1) xs c r x1 x hx) (fun p1 hp1 => ?_)
  refine Ok_blk 1 (pc2 := (if p1 = 0 then 18 else 7)) (lo2 := [some (.ref 0), some (.int x1), some (.int x2), none, none, none]) (st2 := []) rfl ?_
  refine Ok_if (fun h2 => ?_) (fun h2 => ?_)
  · refine Ok_drop (lo0 := [none, none, none, none, none, none]) ⟨Or.inl rfl, Or.inl rfl, Or.inl rfl, Or.inl rfl, Or.inl rfl, Or.inl rfl, trivial⟩ ?_
    exact t_C_first_p18 N d xs r c
  · refine Ok_blk 3 (pc2 := 12) (lo2 := [some (.ref 0), some (.int x1), some (.int x2), none, none, none]) (st2 := [.int 300, .int 0, .int x2]) rfl ?_
    refine Ok_call (y := 102) (as := [.int x2, .int 0, .int 300]) (rest := []) (w := fun p3 => some (.int p3)) (h1 := fun p3 => HP c r) rfl rfl (fun x hx => tm_C_within N (d + 2) xs c r x2 0 300 x hx) (fun p3 hp3 => ?_)
    refine Ok_blk 1 (pc2 := (if ¬ p3 = 0 then 21 else 18)) (lo2 := [some (.ref 0), some (.int x1), some (.int x2), none, none, none]) (st2 := []) rfl ?_
    refine Ok_if (fun h4 => ?_) (fun h4 => ?_)
    · refine Ok_blk 4 (pc2 := 29) (lo2 := [some (.ref 0), some (.int x1), some (.int x2), none, none, none]) (st2 := [.ref 7, .ref 11]) rfl ?_
      refine Ok_call (y := 1) (as := [.ref 11, .ref 7]) (rest := []) (w := fun p5 => none) (h1 := fun p5 => HP p5 r) rfl rfl (fun x hx => tm_Air_takeFrom N (d + 2) xs c r x hx) (fun p5 hp5 => ?_)
      refine Ok_blk 3 (pc2 := 37) (lo2 := [some (.ref 0), some (.int x1), some (.int x2), none, none, none]) (st2 := [.int x1, .ref 11]) rfl ?_
      refine Ok_call (y := 3) (as := [.ref 11, .int x1]) (rest := []) (w := fun p6 => some (.int p6)) (h1 := fun p6 => HP p5 r) rfl rfl (fun x hx => tm_Air_firstAbove N (d + 2) xs p5 r x1 x hx) (fun p6 hp6 => ?_)
      refine Ok_blk 3 (pc2 := 44) (lo2 := [some (.ref 0), some (.int x1), some (.int x2), some (.int p6), some (.int 0), none]) (st2 := []) rfl ?_
      refine Ok_drop (lo0 := [some (.ref 0), some (.int x1), some (.int x2), some (.int p6), some (.int 0), none]) ⟨Or.inr rfl, Or.inr rfl, Or.inr rfl, Or.inr rfl, Or.inr rfl, Or.inl rfl, trivial⟩ ?_
      exact t_C_first_p44 N d xs r N p5 x1 x2 p6 0
    · refine Ok_drop (lo0 := [none, none, none, none, none, none]) ⟨Or.inl rfl, Or.inl rfl, Or.inl rfl, Or.inl rfl, Or.inl rfl, Or.inl rfl, trivial⟩ ?_
      exact t_C_first_p18 N d xs r c
set_option maxHeartbeats 8000000 in
set_option maxRecDepth 100000 in
theorem tm_C_first (N d : Nat) (xs : List Int32) (c r : St) (a1 : Int32) (a2 : Int32) (p : Int32 × St) (hp : C_first N c a1 a2 = some p) : mBig (mRoL xs) (d + 4) 117 [.ref 0, .int a1, .int a2] (HP c r) (some (.int p.1)) (HP p.2 r) 0 0 := mBig_of (by decide) rfl rfl rfl rfl (t_C_first N d xs r c a1 a2 p hp)
/-! ColdHoldsModel.above(I)I, from (('r', 115), 'i') -/
def R_above_p2b (N : Nat) (kb2 : Int32 → Int32 → Option (Int32)) (r : St) (x1 : Int32) (x2 : Int32) : Option (Int32) :=
  (if 12 ≤ x2 then some (-1) else (ld (gA r 29) x2).bind fun y2 => (if y2 ≤ x1 then kb2 x1 (x2 + 1) else some x2))
def R_above_p2 (N : Nat) (r : St) : Nat → Int32 → Int32 → Option (Int32)
  | 0 => fun _ _ => none
  | n + 1 => R_above_p2b N (R_above_p2 N r n) r
def R_above (N : Nat) (r : St) (x1 : Int32) : Option (Int32) :=
  R_above_p2 N r N x1 0
set_option maxHeartbeats 8000000 in
set_option maxRecDepth 100000 in
theorem t_R_above_p2b (N d : Nat) (xs : List Int32) (c : St) (r : St) (kb2 : Int32 → Int32 → Option (Int32)) (hb2 : ∀ (x1 : Int32) (x2 : Int32), Ok (mBig (mRoL xs) (d)) (mRoL xs) 1 mK182 (fun p : Int32 => (some (.int p), HP c r)) (kb2 x1 x2) 2 [some (.ref 115), some (.int x1), some (.int x2)] [] (HP c r)) (x1 : Int32) (x2 : Int32) : Ok (mBig (mRoL xs) (d)) (mRoL xs) 1 mK182 (fun p : Int32 => (some (.int p), HP c r)) (R_above_p2b N kb2 r x1 x2) 2 [some (.ref 115), some (.int x1), some (.int x2)] [] (HP c r) := by
  unfold R_above_p2b
  refine Ok_blk 3 (pc2 := (if 12 ≤ x2 then 26 else 8)) (lo2 := [some (.ref 115), some (.int x1), some (.int x2)]) (st2 := []) rfl ?_
  refine Ok_if (fun h1 => ?_) (fun h1 => ?_)
  · refine Ok_blk 1 (pc2 := 27) (lo2 := [some (.ref 115), some (.int x1), some (.int x2)]) (st2 := [.int (-1)]) rfl ?_
    exact Ok_ret rfl rfl rfl
  · refine Ok_blk 3 (pc2 := 13) (lo2 := [some (.ref 115), some (.int x1), some (.int x2)]) (st2 := [.int x2, .ref 145]) rfl ?_
    refine Ok_ld (l := (gA r 29)) rfl rfl (fun y2 hy2 => ?_)
    refine Ok_blk 2 (pc2 := (if y2 ≤ x1 then 20 else 18)) (lo2 := [some (.ref 115), some (.int x1), some (.int x2)]) (st2 := []) rfl ?_
    refine Ok_if (fun h3 => ?_) (fun h3 => ?_)
    · refine Ok_blk 2 (pc2 := 2) (lo2 := [some (.ref 115), some (.int x1), some (.int (x2 + 1))]) (st2 := []) rfl ?_
      refine Ok_drop (lo0 := [some (.ref 115), some (.int x1), some (.int (x2 + 1))]) ⟨Or.inr rfl, Or.inr rfl, Or.inr rfl, trivial⟩ ?_
      exact hb2 x1 (x2 + 1)
    · refine Ok_blk 1 (pc2 := 19) (lo2 := [some (.ref 115), some (.int x1), some (.int x2)]) (st2 := [.int x2]) rfl ?_
      exact Ok_ret rfl rfl rfl
set_option maxHeartbeats 8000000 in
set_option maxRecDepth 100000 in
theorem t_R_above_p2 (N d : Nat) (xs : List Int32) (c : St) (r : St) : ∀ (n : Nat) (x1 : Int32) (x2 : Int32), Ok (mBig (mRoL xs) (d)) (mRoL xs) 1 mK182 (fun p : Int32 => (some (.int p), HP c r)) (R_above_p2 N r n x1 x2) 2 [some (.ref 115), some (.int x1), some (.int x2)] [] (HP c r) := by
  intro n
  induction n with
  | zero => intro x1 x2; exact Ok_none
  | succ n ih => intro x1 x2; exact t_R_above_p2b N d xs c r (R_above_p2 N r n) ih x1 x2
set_option maxHeartbeats 8000000 in
set_option maxRecDepth 100000 in
theorem t_R_above (N d : Nat) (xs : List Int32) (c : St) (r : St) (x1 : Int32) : Ok (mBig (mRoL xs) (d)) (mRoL xs) 1 mK182 (fun p : Int32 => (some (.int p), HP c r)) (R_above N r x1) 0 [some (.ref 115), some (.int x1), none] [] (HP c r) := by
  unfold R_above
  refine Ok_blk 2 (pc2 := 2) (lo2 := [some (.ref 115), some (.int x1), some (.int 0)]) (st2 := []) rfl ?_
  refine Ok_drop (lo0 := [some (.ref 115), some (.int x1), some (.int 0)]) ⟨Or.inr rfl, Or.inr rfl, Or.inr rfl, trivial⟩ ?_
  exact t_R_above_p2 N d xs c r N x1 0
set_option maxHeartbeats 8000000 in
set_option maxRecDepth 100000 in
theorem tm_R_above (N d : Nat) (xs : List Int32) (c r : St) (a1 : Int32) (p : Int32) (hp : R_above N r a1 = some p) : mBig (mRoL xs) (d + 1) 182 [.ref 115, .int a1] (HP c r) (some (.int p)) (HP c r) 0 0 := mBig_of (by decide) rfl rfl rfl rfl (t_R_above N d xs c r a1 p hp)
/-! ColdHoldsModel.first(II)I, from (('r', 115), 'i', 'i') -/
def R_first_p24 (N : Nat) (r : St) : Option (Int32 × St) :=
  some ((-102), r)
def R_first_p33b (N : Nat) (kb33 : St → Int32 → Int32 → Int32 → Option (Int32 × St)) (r : St) (x1 : Int32) (x2 : Int32) (x3 : Int32) : Option (Int32 × St) :=
  (if x2 < x3 then some ((-1), r) else (R_above N r x1).bind fun p7 => (if p7 = (-1) then (R_seaOf N r (gI r 28)).bind fun p9 => (R_anHour N r p9).bind fun p10 => kb33 p10.2 x1 x2 (x3 + 1) else some ((1000 * x3) + p7, r)))
def R_first_p33 (N : Nat) : Nat → St → Int32 → Int32 → Int32 → Option (Int32 × St)
  | 0 => fun _ _ _ _ => none
  | n + 1 => R_first_p33b N (R_first_p33 N n)
def R_first (N : Nat) (r : St) (x1 : Int32) (x2 : Int32) : Option (Int32 × St) :=
  (R_in N x1 (-300) 600).bind fun p1 => (if p1 = 0 then R_first_p24 N r else (R_in N x2 0 300).bind fun p3 => (if ¬ p3 = 0 then (R_startAsNow N r).bind fun p5 => R_first_p33 N N p5 x1 x2 0 else R_first_p24 N r))
set_option maxHeartbeats 8000000 in
set_option maxRecDepth 100000 in
theorem t_R_first_p24 (N d : Nat) (xs : List Int32) (c : St) (r : St) : Ok (mBig (mRoL xs) (d + 2)) (mRoL xs) 1 mK183 (fun p : Int32 × St => (some (.int p.1), HP c p.2)) (R_first_p24 N r) 24 [none, none, none, none, none] [] (HP c r) := by
  unfold R_first_p24
  refine Ok_blk 1 (pc2 := 26) (lo2 := [none, none, none, none, none]) (st2 := [.int (-102)]) rfl ?_
  exact Ok_ret rfl rfl rfl
set_option maxHeartbeats 8000000 in
set_option maxRecDepth 100000 in
theorem t_R_first_p33b (N d : Nat) (xs : List Int32) (c : St) (kb33 : St → Int32 → Int32 → Int32 → Option (Int32 × St)) (hb33 : ∀ (r : St) (x1 : Int32) (x2 : Int32) (x3 : Int32), Ok (mBig (mRoL xs) (d + 2)) (mRoL xs) 1 mK183 (fun p : Int32 × St => (some (.int p.1), HP c p.2)) (kb33 r x1 x2 x3) 33 [some (.ref 115), some (.int x1), some (.int x2), some (.int x3), none] [] (HP c r)) (r : St) (x1 : Int32) (x2 : Int32) (x3 : Int32) : Ok (mBig (mRoL xs) (d + 2)) (mRoL xs) 1 mK183 (fun p : Int32 × St => (some (.int p.1), HP c p.2)) (R_first_p33b N kb33 r x1 x2 x3) 33 [some (.ref 115), some (.int x1), some (.int x2), some (.int x3), none] [] (HP c r) := by
  unfold R_first_p33b
  refine Ok_blk 3 (pc2 := (if x2 < x3 then 79 else 38)) (lo2 := [some (.ref 115), some (.int x1), some (.int x2), some (.int x3), none]) (st2 := []) rfl ?_
  refine Ok_if (fun h6 => ?_) (fun h6 => ?_)
  · refine Ok_blk 1 (pc2 := 80) (lo2 := [some (.ref 115), some (.int x1), some (.int x2), some (.int x3), none]) (st2 := [.int (-1)]) rfl ?_
    exact Ok_ret rfl rfl rfl
  · refine Ok_blk 2 (pc2 := 40) (lo2 := [some (.ref 115), some (.int x1), some (.int x2), some (.int x3), none]) (st2 := [.int x1, .ref 115]) rfl ?_
    refine Ok_call (y := 182) (as := [.ref 115, .int x1]) (rest := []) (w := fun p7 => some (.int p7)) (h1 := fun p7 => HP c r) rfl rfl (fun x hx => tm_R_above N (d + 1) xs c r x1 x hx) (fun p7 hp7 => ?_)
    refine Ok_blk 4 (pc2 := (if p7 = (-1) then 60 else 51)) (lo2 := [some (.ref 115), some (.int x1), some (.int x2), some (.int x3), some (.int p7)]) (st2 := []) rfl ?_
    refine Ok_if (fun h8 => ?_) (fun h8 => ?_)
    · refine Ok_blk 4 (pc2 := 66) (lo2 := [some (.ref 115), some (.int x1), some (.int x2), some (.int x3), some (.int p7)]) (st2 := [.int (gI r 28), .ref 115, .ref 115]) rfl ?_
      refine Ok_call (y := 174) (as := [.ref 115, .int (gI r 28)]) (rest := [.ref 115]) (w := fun p9 => some (.int p9)) (h1 := fun p9 => HP c r) rfl rfl (fun x hx => tm_R_seaOf N (d + 1) xs c r (gI r 28) x hx) (fun p9 hp9 => ?_)
      refine Ok_call (y := 178) (as := [.ref 115, .int p9]) (rest := []) (w := fun p10 => some (.int p10.1)) (h1 := fun p10 => HP c p10.2) rfl rfl (fun x hx => tm_R_anHour N d xs c r p9 x hx) (fun p10 hp10 => ?_)
      refine Ok_blk 3 (pc2 := 33) (lo2 := [some (.ref 115), some (.int x1), some (.int x2), some (.int (x3 + 1)), some (.int p7)]) (st2 := []) rfl ?_
      refine Ok_drop (lo0 := [some (.ref 115), some (.int x1), some (.int x2), some (.int (x3 + 1)), none]) ⟨Or.inr rfl, Or.inr rfl, Or.inr rfl, Or.inr rfl, Or.inl rfl, trivial⟩ ?_
      exact hb33 p10.2 x1 x2 (x3 + 1)
    · refine Ok_blk 5 (pc2 := 59) (lo2 := [some (.ref 115), some (.int x1), some (.int x2), some (.int x3), some (.int p7)]) (st2 := [.int ((1000 * x3) + p7)]) rfl ?_
      exact Ok_ret rfl rfl rfl
set_option maxHeartbeats 8000000 in
set_option maxRecDepth 100000 in
theorem t_R_first_p33 (N d : Nat) (xs : List Int32) (c : St) : ∀ (n : Nat) (r : St) (x1 : Int32) (x2 : Int32) (x3 : Int32), Ok (mBig (mRoL xs) (d + 2)) (mRoL xs) 1 mK183 (fun p : Int32 × St => (some (.int p.1), HP c p.2)) (R_first_p33 N n r x1 x2 x3) 33 [some (.ref 115), some (.int x1), some (.int x2), some (.int x3), none] [] (HP c r) := by
  intro n
  induction n with
  | zero => intro r x1 x2 x3; exact Ok_none
  | succ n ih => intro r x1 x2 x3; exact t_R_first_p33b N d xs c (R_first_p33 N n) ih r x1 x2 x3
set_option maxHeartbeats 8000000 in
set_option maxRecDepth 100000 in
theorem t_R_first (N d : Nat) (xs : List Int32) (c : St) (r : St) (x1 : Int32) (x2 : Int32) : Ok (mBig (mRoL xs) (d + 2)) (mRoL xs) 1 mK183 (fun p : Int32 × St => (some (.int p.1), HP c p.2)) (R_first N r x1 x2) 0 [some (.ref 115), some (.int x1), some (.int x2), none, none] [] (HP c r) := by
  unfold R_first
  refine Ok_blk 3 (pc2 := 7) (lo2 := [some (.ref 115), some (.int x1), some (.int x2), none, none]) (st2 := [.int 600, .int (-300), .int x1]) rfl ?_
  refine Ok_call (y := 164) (as := [.int x1, .int (-300), .int 600]) (rest := []) (w := fun p1 => some (.int p1)) (h1 := fun p1 => HP c r) rfl rfl (fun x hx => tm_R_in N (d + 1) xs c r x1 (-300) 600 x hx) (fun p1 hp1 => ?_)
  refine Ok_blk 1 (pc2 := (if p1 = 0 then 24 else 13)) (lo2 := [some (.ref 115), some (.int x1), some (.int x2), none, none]) (st2 := []) rfl ?_
  refine Ok_if (fun h2 => ?_) (fun h2 => ?_)
  · refine Ok_drop (lo0 := [none, none, none, none, none]) ⟨Or.inl rfl, Or.inl rfl, Or.inl rfl, Or.inl rfl, Or.inl rfl, trivial⟩ ?_
    exact t_R_first_p24 N d xs c r
  · refine Ok_blk 3 (pc2 := 18) (lo2 := [some (.ref 115), some (.int x1), some (.int x2), none, none]) (st2 := [.int 300, .int 0, .int x2]) rfl ?_
    refine Ok_call (y := 164) (as := [.int x2, .int 0, .int 300]) (rest := []) (w := fun p3 => some (.int p3)) (h1 := fun p3 => HP c r) rfl rfl (fun x hx => tm_R_in N (d + 1) xs c r x2 0 300 x hx) (fun p3 hp3 => ?_)
    refine Ok_blk 1 (pc2 := (if ¬ p3 = 0 then 27 else 24)) (lo2 := [some (.ref 115), some (.int x1), some (.int x2), none, none]) (st2 := []) rfl ?_
    refine Ok_if (fun h4 => ?_) (fun h4 => ?_)
    · refine Ok_blk 1 (pc2 := 28) (lo2 := [some (.ref 115), some (.int x1), some (.int x2), none, none]) (st2 := [.ref 115]) rfl ?_
      refine Ok_call (y := 176) (as := [.ref 115]) (rest := []) (w := fun p5 => none) (h1 := fun p5 => HP c p5) rfl rfl (fun x hx => tm_R_startAsNow N (d + 1) xs c r x hx) (fun p5 hp5 => ?_)
      refine Ok_blk 2 (pc2 := 33) (lo2 := [some (.ref 115), some (.int x1), some (.int x2), some (.int 0), none]) (st2 := []) rfl ?_
      refine Ok_drop (lo0 := [some (.ref 115), some (.int x1), some (.int x2), some (.int 0), none]) ⟨Or.inr rfl, Or.inr rfl, Or.inr rfl, Or.inr rfl, Or.inl rfl, trivial⟩ ?_
      exact t_R_first_p33 N d xs c N p5 x1 x2 0
    · refine Ok_drop (lo0 := [none, none, none, none, none]) ⟨Or.inl rfl, Or.inl rfl, Or.inl rfl, Or.inl rfl, Or.inl rfl, trivial⟩ ?_
      exact t_R_first_p24 N d xs c r
set_option maxHeartbeats 8000000 in
set_option maxRecDepth 100000 in
theorem tm_R_first (N d : Nat) (xs : List Int32) (c r : St) (a1 : Int32) (a2 : Int32) (p : Int32 × St) (hp : R_first N r a1 a2 = some p) : mBig (mRoL xs) (d + 3) 183 [.ref 115, .int a1, .int a2] (HP c r) (some (.int p.1)) (HP c p.2) 0 0 := mBig_of (by decide) rfl rfl rfl rfl (t_R_first N d xs c r a1 a2 p hp)
