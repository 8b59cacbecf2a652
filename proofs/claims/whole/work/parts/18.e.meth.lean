/-! methods as partial functions of Lean, and that the small machine does them: by program (gen18) -/
/-! ColdHolds.sum(III)J, from (('r', 0), 'i', 'i', 'i') -/
def C_sum_p37 (N : Nat) (c : St) : Option (Int64 × St) :=
  some (0, c)
def C_sum (N : Nat) (c : St) (x1 : Int32) (x2 : Int32) (x3 : Int32) : Option (Int64 × St) :=
  (C_within N x1 0 ((gI c 7) - 1)).bind fun p1 => (if p1 = 0 then C_sum_p37 N c else (Lots_isOne N c x2).bind fun p3 => (if p3 = 0 then C_sum_p37 N c else (C_within N x3 0 1).bind fun p5 => (if ¬ p5 = 0 then (C_sumOf N c x1 x2 x3).bind fun p7 => some (p7.1, p7.2) else C_sum_p37 N c)))
set_option maxHeartbeats 8000000 in
set_option maxRecDepth 100000 in
theorem t_C_sum_p37 (N d : Nat) (xs : List Int32) (r : St) (c : St) : Ok (mBig (mRoL xs) (d + 5)) (mRoL xs) 3 mK127 (fun p : Int64 × St => (some (.long p.1), HP p.2 r)) (C_sum_p37 N c) 37 [none, none, none, none] [] (HP c r) := by
  unfold C_sum_p37
  refine Ok_blk 1 (pc2 := 38) (lo2 := [none, none, none, none]) (st2 := [.long 0]) rfl ?_
  exact Ok_ret rfl rfl rfl
set_option maxHeartbeats 8000000 in
set_option maxRecDepth 100000 in
theorem t_C_sum (N d : Nat) (xs : List Int32) (r : St) (c : St) (x1 : Int32) (x2 : Int32) (x3 : Int32) : Ok (mBig (mRoL xs) (d + 5)) (mRoL xs) 3 mK127 (fun p : Int64 × St => (some (.long p.1), HP p.2 r)) (C_sum N c x1 x2 x3) 0 [some (.ref 0), some (.int x1), some (.int x2), some (.int x3)] [] (HP c r) := by
  unfold C_sum
  refine Ok_blk 7 (pc2 := 11) (lo2 := [some (.ref 0), some (.int x1), some (.int x2), some (.int x3)]) (st2 := [.int ((gI c 7) - 1), .int 0, .int x1]) rfl ?_
  refine Ok_call (y := 102) (as := [.int x1, .int 0, .int ((gI c 7) - 1)]) (rest := []) (w := fun p1 => some (.int p1)) (h1 := fun p1 => HP c r) rfl rfl (fun x hx => tm_C_within N (d + 4) xs c r x1 0 ((gI c 7) - 1) x hx) (fun p1 hp1 => ?_)
  refine Ok_blk 1 (pc2 := (if p1 = 0 then 37 else 17)) (lo2 := [some (.ref 0), some (.int x1), some (.int x2), some (.int x3)]) (st2 := []) rfl ?_
  refine Ok_if (fun h2 => ?_) (fun h2 => ?_)
  · refine Ok_drop (lo0 := [none, none, none, none]) ⟨Or.inl rfl, Or.inl rfl, Or.inl rfl, Or.inl rfl, trivial⟩ ?_
    exact t_C_sum_p37 N d xs r c
  · refine Ok_blk 3 (pc2 := 22) (lo2 := [some (.ref 0), some (.int x1), some (.int x2), some (.int x3)]) (st2 := [.int x2, .ref 15]) rfl ?_
    refine Ok_call (y := 38) (as := [.ref 15, .int x2]) (rest := []) (w := fun p3 => some (.int p3)) (h1 := fun p3 => HP c r) rfl rfl (fun x hx => tm_Lots_isOne N (d + 3) xs c r x2 x hx) (fun p3 hp3 => ?_)
    refine Ok_blk 1 (pc2 := (if p3 = 0 then 37 else 28)) (lo2 := [some (.ref 0), some (.int x1), some (.int x2), some (.int x3)]) (st2 := []) rfl ?_
    refine Ok_if (fun h4 => ?_) (fun h4 => ?_)
    · refine Ok_drop (lo0 := [none, none, none, none]) ⟨Or.inl rfl, Or.inl rfl, Or.inl rfl, Or.inl rfl, trivial⟩ ?_
      exact t_C_sum_p37 N d xs r c
    · refine Ok_blk 3 (pc2 := 31) (lo2 := [some (.ref 0), some (.int x1), some (.int x2), some (.int x3)]) (st2 := [.int 1, .int 0, .int x3]) rfl ?_
      refine Ok_call (y := 102) (as := [.int x3, .int 0, .int 1]) (rest := []) (w := fun p5 => some (.int p5)) (h1 := fun p5 => HP c r) rfl rfl (fun x hx => tm_C_within N (d + 4) xs c r x3 0 1 x hx) (fun p5 hp5 => ?_)
      refine Ok_blk 1 (pc2 := (if ¬ p5 = 0 then 39 else 37)) (lo2 := [some (.ref 0), some (.int x1), some (.int x2), some (.int x3)]) (st2 := []) rfl ?_
      refine Ok_if (fun h6 => ?_) (fun h6 => ?_)
      · refine Ok_blk 4 (pc2 := 43) (lo2 := [some (.ref 0), some (.int x1), some (.int x2), some (.int x3)]) (st2 := [.int x3, .int x2, .int x1, .ref 0]) rfl ?_
        refine Ok_call (y := 128) (as := [.ref 0, .int x1, .int x2, .int x3]) (rest := []) (w := fun p7 => some (.long p7.1)) (h1 := fun p7 => HP p7.2 r) rfl rfl (fun x hx => tm_C_sumOf N d xs c r x1 x2 x3 x hx) (fun p7 hp7 => ?_)
        exact Ok_ret rfl rfl rfl
      · refine Ok_drop (lo0 := [none, none, none, none]) ⟨Or.inl rfl, Or.inl rfl, Or.inl rfl, Or.inl rfl, trivial⟩ ?_
        exact t_C_sum_p37 N d xs r c
set_option maxHeartbeats 8000000 in
set_option maxRecDepth 100000 in
theorem tm_C_sum (N d : Nat) (xs : List Int32) (c r : St) (a1 : Int32) (a2 : Int32) (a3 : Int32) (p : Int64 × St) (hp : C_sum N c a1 a2 a3 = some p) : mBig (mRoL xs) (d + 6) 127 [.ref 0, .int a1, .int a2, .int a3] (HP c r) (some (.long p.1)) (HP p.2 r) 0 0 := mBig_of (by decide) rfl rfl rfl rfl (t_C_sum N d xs r c a1 a2 a3 p hp)
/-! ColdHoldsModel.sum(III)J, from (('r', 115), 'i', 'i', 'i') -/
def R_sum_p41 (N : Nat) (r : St) : Option (Int64 × St) :=
  some (0, r)
def R_sum (N : Nat) (r : St) (x1 : Int32) (x2 : Int32) (x3 : Int32) : Option (Int64 × St) :=
  (R_in N x1 0 ((gI r 9) - 1)).bind fun p1 => (if p1 = 0 then R_sum_p41 N r else (R_isLot N r x2).bind fun p3 => (if p3 = 0 then R_sum_p41 N r else (R_in N x3 0 1).bind fun p5 => (if p5 = 0 then R_sum_p41 N r else (R_sumOf N r x1 x2 x3).bind fun p7 => some (p7.1, p7.2))))
set_option maxHeartbeats 8000000 in
set_option maxRecDepth 100000 in
theorem t_R_sum_p41 (N d : Nat) (xs : List Int32) (c : St) (r : St) : Ok (mBig (mRoL xs) (d + 3)) (mRoL xs) 3 mK203 (fun p : Int64 × St => (some (.long p.1), HP c p.2)) (R_sum_p41 N r) 41 [none, none, none, none] [] (HP c r) := by
  unfold R_sum_p41
  refine Ok_blk 1 (pc2 := 42) (lo2 := [none, none, none, none]) (st2 := [.long 0]) rfl ?_
  exact Ok_ret rfl rfl rfl
set_option maxHeartbeats 8000000 in
set_option maxRecDepth 100000 in
theorem t_R_sum (N d : Nat) (xs : List Int32) (c : St) (r : St) (x1 : Int32) (x2 : Int32) (x3 : Int32) : Ok (mBig (mRoL xs) (d + 3)) (mRoL xs) 3 mK203 (fun p : Int64 × St => (some (.long p.1), HP c p.2)) (R_sum N r x1 x2 x3) 0 [some (.ref 115), some (.int x1), some (.int x2), some (.int x3)] [] (HP c r) := by
  unfold R_sum
  refine Ok_blk 6 (pc2 := 8) (lo2 := [some (.ref 115), some (.int x1), some (.int x2), some (.int x3)]) (st2 := [.int ((gI r 9) - 1), .int 0, .int x1]) rfl ?_
  refine Ok_call (y := 164) (as := [.int x1, .int 0, .int ((gI r 9) - 1)]) (rest := []) (w := fun p1 => some (.int p1)) (h1 := fun p1 => HP c r) rfl rfl (fun x hx => tm_R_in N (d + 2) xs c r x1 0 ((gI r 9) - 1) x hx) (fun p1 hp1 => ?_)
  refine Ok_blk 1 (pc2 := (if p1 = 0 then 41 else 14)) (lo2 := [some (.ref 115), some (.int x1), some (.int x2), some (.int x3)]) (st2 := []) rfl ?_
  refine Ok_if (fun h2 => ?_) (fun h2 => ?_)
  · refine Ok_drop (lo0 := [none, none, none, none]) ⟨Or.inl rfl, Or.inl rfl, Or.inl rfl, Or.inl rfl, trivial⟩ ?_
    exact t_R_sum_p41 N d xs c r
  · refine Ok_blk 2 (pc2 := 16) (lo2 := [some (.ref 115), some (.int x1), some (.int x2), some (.int x3)]) (st2 := [.int x2, .ref 115]) rfl ?_
    refine Ok_call (y := 184) (as := [.ref 115, .int x2]) (rest := []) (w := fun p3 => some (.int p3)) (h1 := fun p3 => HP c r) rfl rfl (fun x hx => tm_R_isLot N (d + 1) xs c r x2 x hx) (fun p3 hp3 => ?_)
    refine Ok_blk 1 (pc2 := (if p3 = 0 then 41 else 22)) (lo2 := [some (.ref 115), some (.int x1), some (.int x2), some (.int x3)]) (st2 := []) rfl ?_
    refine Ok_if (fun h4 => ?_) (fun h4 => ?_)
    · refine Ok_drop (lo0 := [none, none, none, none]) ⟨Or.inl rfl, Or.inl rfl, Or.inl rfl, Or.inl rfl, trivial⟩ ?_
      exact t_R_sum_p41 N d xs c r
    · refine Ok_blk 3 (pc2 := 25) (lo2 := [some (.ref 115), some (.int x1), some (.int x2), some (.int x3)]) (st2 := [.int 1, .int 0, .int x3]) rfl ?_
      refine Ok_call (y := 164) (as := [.int x3, .int 0, .int 1]) (rest := []) (w := fun p5 => some (.int p5)) (h1 := fun p5 => HP c r) rfl rfl (fun x hx => tm_R_in N (d + 2) xs c r x3 0 1 x hx) (fun p5 hp5 => ?_)
      refine Ok_blk 1 (pc2 := (if p5 = 0 then 41 else 31)) (lo2 := [some (.ref 115), some (.int x1), some (.int x2), some (.int x3)]) (st2 := []) rfl ?_
      refine Ok_if (fun h6 => ?_) (fun h6 => ?_)
      · refine Ok_drop (lo0 := [none, none, none, none]) ⟨Or.inl rfl, Or.inl rfl, Or.inl rfl, Or.inl rfl, trivial⟩ ?_
        exact t_R_sum_p41 N d xs c r
      · refine Ok_blk 4 (pc2 := 35) (lo2 := [some (.ref 115), some (.int x1), some (.int x2), some (.int x3)]) (st2 := [.int x3, .int x2, .int x1, .ref 115]) rfl ?_
        refine Ok_call (y := 201) (as := [.ref 115, .int x1, .int x2, .int x3]) (rest := []) (w := fun p7 => some (.long p7.1)) (h1 := fun p7 => HP c p7.2) rfl rfl (fun x hx => tm_R_sumOf N d xs c r x1 x2 x3 x hx) (fun p7 hp7 => ?_)
        refine Ok_blk 1 (pc2 := 42) (lo2 := [some (.ref 115), some (.int x1), some (.int x2), some (.int x3)]) (st2 := [.long p7.1]) rfl ?_
        exact Ok_ret rfl rfl rfl
set_option maxHeartbeats 8000000 in
set_option maxRecDepth 100000 in
theorem tm_R_sum (N d : Nat) (xs : List Int32) (c r : St) (a1 : Int32) (a2 : Int32) (a3 : Int32) (p : Int64 × St) (hp : R_sum N r a1 a2 a3 = some p) : mBig (mRoL xs) (d + 4) 203 [.ref 115, .int a1, .int a2, .int a3] (HP c r) (some (.long p.1)) (HP c p.2) 0 0 := mBig_of (by decide) rfl rfl rfl rfl (t_R_sum N d xs c r a1 a2 a3 p hp)
/-! java/lang/Math.min(II)I, from ('i', 'i') -/
def J_min (N : Nat) (x0 : Int32) (x1 : Int32) : Option (Int32) :=
  (if x1 < x0 then some x1 else some x0)
set_option maxHeartbeats 8000000 in
set_option maxRecDepth 100000 in
theorem t_J_min (N d : Nat) (xs : List Int32) (c : St) (r : St) (x0 : Int32) (x1 : Int32) : Ok (mBig (mRoL xs) (d)) (mRoL xs) 1 mK262 (fun p : Int32 => (some (.int p), HP c r)) (J_min N x0 x1) 0 [some (.int x0), some (.int x1)] [] (HP c r) := by
  unfold J_min
  refine Ok_blk 3 (pc2 := (if x1 < x0 then 9 else 5)) (lo2 := [some (.int x0), some (.int x1)]) (st2 := []) rfl ?_
  refine Ok_if (fun h1 => ?_) (fun h1 => ?_)
  · refine Ok_blk 1 (pc2 := 10) (lo2 := [some (.int x0), some (.int x1)]) (st2 := [.int x1]) rfl ?_
    exact Ok_ret rfl rfl rfl
  · refine Ok_blk 2 (pc2 := 10) (lo2 := [some (.int x0), some (.int x1)]) (st2 := [.int x0]) rfl ?_
    exact Ok_ret rfl rfl rfl
set_option maxHeartbeats 8000000 in
set_option maxRecDepth 100000 in
theorem tm_J_min (N d : Nat) (xs : List Int32) (c r : St) (a0 : Int32) (a1 : Int32) (p : Int32) (hp : J_min N a0 a1 = some p) : mBig (mRoL xs) (d + 1) 262 [.int a0, .int a1] (HP c r) (some (.int p)) (HP c r) 0 0 := mBig_of (by decide) rfl rfl rfl rfl (t_J_min N d xs c r a0 a1 p hp)
/-! ColdHolds$Hold.allHours()I, from (('r', 1),) -/
def Hold_allHours_p4b (N : Nat) (kb4 : Int32 → Int32 → Option (Int32)) (c : St) (x1 : Int32) (x2 : Int32) : Option (Int32) :=
  (if (gI c 0) ≤ x2 then some x1 else (ld (gA c 3) x2).bind fun y2 => kb4 (x1 + y2) (x2 + 1))
def Hold_allHours_p4 (N : Nat) (c : St) : Nat → Int32 → Int32 → Option (Int32)
  | 0 => fun _ _ => none
  | n + 1 => Hold_allHours_p4b N (Hold_allHours_p4 N c n) c
def Hold_allHours (N : Nat) (c : St) : Option (Int32) :=
  Hold_allHours_p4 N c N 0 0
set_option maxHeartbeats 8000000 in
set_option maxRecDepth 100000 in
theorem t_Hold_allHours_p4b (N d : Nat) (xs : List Int32) (c : St) (r : St) (kb4 : Int32 → Int32 → Option (Int32)) (hb4 : ∀ (x1 : Int32) (x2 : Int32), Ok (mBig (mRoL xs) (d)) (mRoL xs) 1 mK30 (fun p : Int32 => (some (.int p), HP c r)) (kb4 x1 x2) 4 [some (.ref 1), some (.int x1), some (.int x2)] [] (HP c r)) (x1 : Int32) (x2 : Int32) : Ok (mBig (mRoL xs) (d)) (mRoL xs) 1 mK30 (fun p : Int32 => (some (.int p), HP c r)) (Hold_allHours_p4b N kb4 c x1 x2) 4 [some (.ref 1), some (.int x1), some (.int x2)] [] (HP c r) := by
  unfold Hold_allHours_p4b
  refine Ok_blk 4 (pc2 := (if (gI c 0) ≤ x2 then 27 else 12)) (lo2 := [some (.ref 1), some (.int x1), some (.int x2)]) (st2 := []) rfl ?_
  refine Ok_if (fun h1 => ?_) (fun h1 => ?_)
  · refine Ok_blk 1 (pc2 := 28) (lo2 := [some (.ref 1), some (.int x1), some (.int x2)]) (st2 := [.int x1]) rfl ?_
    exact Ok_ret rfl rfl rfl
  · refine Ok_blk 4 (pc2 := 18) (lo2 := [some (.ref 1), some (.int x1), some (.int x2)]) (st2 := [.int x2, .ref 5, .int x1]) rfl ?_
    refine Ok_ld (l := (gA c 3)) rfl rfl (fun y2 hy2 => ?_)
    refine Ok_blk 4 (pc2 := 4) (lo2 := [some (.ref 1), some (.int (x1 + y2)), some (.int (x2 + 1))]) (st2 := []) rfl ?_
    refine Ok_drop (lo0 := [some (.ref 1), some (.int (x1 + y2)), some (.int (x2 + 1))]) ⟨Or.inr rfl, Or.inr rfl, Or.inr rfl, trivial⟩ ?_
    exact hb4 (x1 + y2) (x2 + 1)
set_option maxHeartbeats 8000000 in
set_option maxRecDepth 100000 in
theorem t_Hold_allHours_p4 (N d : Nat) (xs : List Int32) (c : St) (r : St) : ∀ (n : Nat) (x1 : Int32) (x2 : Int32), Ok (mBig (mRoL xs) (d)) (mRoL xs) 1 mK30 (fun p : Int32 => (some (.int p), HP c r)) (Hold_allHours_p4 N c n x1 x2) 4 [some (.ref 1), some (.int x1), some (.int x2)] [] (HP c r) := by
  intro n
  induction n with
  | zero => intro x1 x2; exact Ok_none
  | succ n ih => intro x1 x2; exact t_Hold_allHours_p4b N d xs c r (Hold_allHours_p4 N c n) ih x1 x2
set_option maxHeartbeats 8000000 in
set_option maxRecDepth 100000 in
theorem t_Hold_allHours (N d : Nat) (xs : List Int32) (c : St) (r : St) : Ok (mBig (mRoL xs) (d)) (mRoL xs) 1 mK30 (fun p : Int32 => (some (.int p), HP c r)) (Hold_allHours N c) 0 [some (.ref 1), none, none] [] (HP c r) := by
  unfold Hold_allHours
  refine Ok_blk 4 (pc2 := 4) (lo2 := [some (.ref 1), some (.int 0), some (.int 0)]) (st2 := []) rfl ?_
  refine Ok_drop (lo0 := [some (.ref 1), some (.int 0), some (.int 0)]) ⟨Or.inr rfl, Or.inr rfl, Or.inr rfl, trivial⟩ ?_
  exact t_Hold_allHours_p4 N d xs c r N 0 0
set_option maxHeartbeats 8000000 in
set_option maxRecDepth 100000 in
theorem tm_Hold_allHours (N d : Nat) (xs : List Int32) (c r : St) (p : Int32) (hp : Hold_allHours N c = some p) : mBig (mRoL xs) (d + 1) 30 [.ref 1] (HP c r) (some (.int p)) (HP c r) 0 0 := mBig_of (by decide) rfl rfl rfl rfl (t_Hold_allHours N d xs c r p hp)
/-! ColdHolds$Lots.spoilIn(LColdHolds$Air;)V, from (('r', 15), ('r', 11)) -/
def Lots_spoilIn_2_p2b (N : Nat) (kb2 : St → Int32 → Option (St)) (c : St) (x2 : Int32) : Option (St) :=
  (if (gI c 5) ≤ x2 then some c else (ld (gA c 9) x2).bind fun y2 => (ld (gA c 11) x2).bind fun y3 => (ld (gA c 12) x2).bind fun y4 => (ld (gA c 8) y4).bind fun y5 => (Lots_spoils N y3 y5).bind fun p6 => (sto (gA c 9) x2 (y2 + p6)).bind fun w7 => kb2 (sA c 9 w7) (x2 + 1))
def Lots_spoilIn_2_p2 (N : Nat) : Nat → St → Int32 → Option (St)
  | 0 => fun _ _ => none
  | n + 1 => Lots_spoilIn_2_p2b N (Lots_spoilIn_2_p2 N n)
def Lots_spoilIn_2 (N : Nat) (c : St) : Option (St) :=
  Lots_spoilIn_2_p2 N N c 0
set_option maxHeartbeats 8000000 in
set_option maxRecDepth 100000 in
theorem t_Lots_spoilIn_2_p2b (N d : Nat) (xs : List Int32) (r : St) (kb2 : St → Int32 → Option (St)) (hb2 : ∀ (c : St) (x2 : Int32), Ok (mBig (mRoL xs) (d + 3)) (mRoL xs) 0 mK40 (fun p : St => (none, HP p r)) (kb2 c x2) 2 [some (.ref 15), some (.ref 11), some (.int x2)] [] (HP c r)) (c : St) (x2 : Int32) : Ok (mBig (mRoL xs) (d + 3)) (mRoL xs) 0 mK40 (fun p : St => (none, HP p r)) (Lots_spoilIn_2_p2b N kb2 c x2) 2 [some (.ref 15), some (.ref 11), some (.int x2)] [] (HP c r) := by
  unfold Lots_spoilIn_2_p2b
  refine Ok_blk 4 (pc2 := (if (gI c 5) ≤ x2 then 45 else 10)) (lo2 := [some (.ref 15), some (.ref 11), some (.int x2)]) (st2 := []) rfl ?_
  refine Ok_if (fun h1 => ?_) (fun h1 => ?_)
  · exact Ok_ret rfl rfl rfl
  · refine Ok_blk 4 (pc2 := 16) (lo2 := [some (.ref 15), some (.ref 11), some (.int x2)]) (st2 := [.int x2, .ref 13, .int x2, .ref 13]) rfl ?_
    refine Ok_ld (l := (gA c 9)) rfl rfl (fun y2 hy2 => ?_)
    refine Ok_blk 3 (pc2 := 22) (lo2 := [some (.ref 15), some (.ref 11), some (.int x2)]) (st2 := [.int x2, .ref 16, .int y2, .int x2, .ref 13]) rfl ?_
    refine Ok_ld (l := (gA c 11)) rfl rfl (fun y3 hy3 => ?_)
    refine Ok_blk 5 (pc2 := 32) (lo2 := [some (.ref 15), some (.ref 11), some (.int x2)]) (st2 := [.int x2, .ref 17, .ref 12, .int y3, .int y2, .int x2, .ref 13]) rfl ?_
    refine Ok_ld (l := (gA c 12)) rfl rfl (fun y4 hy4 => ?_)
    refine Ok_ld (l := (gA c 8)) rfl rfl (fun y5 hy5 => ?_)
    refine Ok_call (y := 45) (as := [.int y3, .int y5]) (rest := [.int y2, .int x2, .ref 13]) (w := fun p6 => some (.int p6)) (h1 := fun p6 => HP c r) rfl rfl (fun x hx => tm_Lots_spoils N d xs c r y3 y5 x hx) (fun p6 hp6 => ?_)
    refine Ok_blk 1 (pc2 := 38) (lo2 := [some (.ref 15), some (.ref 11), some (.int x2)]) (st2 := [.int (y2 + p6), .int x2, .ref 13]) rfl ?_
    refine Ok_st (l := (gA c 9)) (hn := fun l' => HP (sA c 9 l') r) rfl rfl (fun l' => sa_13 _ _ l') (fun w7 hw7 => ?_)
    refine Ok_blk 2 (pc2 := 2) (lo2 := [some (.ref 15), some (.ref 11), some (.int (x2 + 1))]) (st2 := []) rfl ?_
    refine Ok_drop (lo0 := [some (.ref 15), some (.ref 11), some (.int (x2 + 1))]) ⟨Or.inr rfl, Or.inr rfl, Or.inr rfl, trivial⟩ ?_
    exact hb2 (sA c 9 w7) (x2 + 1)
set_option maxHeartbeats 8000000 in
set_option maxRecDepth 100000 in
theorem t_Lots_spoilIn_2_p2 (N d : Nat) (xs : List Int32) (r : St) : ∀ (n : Nat) (c : St) (x2 : Int32), Ok (mBig (mRoL xs) (d + 3)) (mRoL xs) 0 mK40 (fun p : St => (none, HP p r)) (Lots_spoilIn_2_p2 N n c x2) 2 [some (.ref 15), some (.ref 11), some (.int x2)] [] (HP c r) := by
  intro n
  induction n with
  | zero => intro c x2; exact Ok_none
  | succ n ih => intro c x2; exact t_Lots_spoilIn_2_p2b N d xs r (Lots_spoilIn_2_p2 N n) ih c x2
set_option maxHeartbeats 8000000 in
set_option maxRecDepth 100000 in
theorem t_Lots_spoilIn_2 (N d : Nat) (xs : List Int32) (r : St) (c : St) : Ok (mBig (mRoL xs) (d + 3)) (mRoL xs) 0 mK40 (fun p : St => (none, HP p r)) (Lots_spoilIn_2 N c) 0 [some (.ref 15), some (.ref 11), none] [] (HP c r) := by
  unfold Lots_spoilIn_2
  refine Ok_blk 2 (pc2 := 2) (lo2 := [some (.ref 15), some (.ref 11), some (.int 0)]) (st2 := []) rfl ?_
  refine Ok_drop (lo0 := [some (.ref 15), some (.ref 11), some (.int 0)]) ⟨Or.inr rfl, Or.inr rfl, Or.inr rfl, trivial⟩ ?_
  exact t_Lots_spoilIn_2_p2 N d xs r N c 0
set_option maxHeartbeats 8000000 in
set_option maxRecDepth 100000 in
theorem tm_Lots_spoilIn_2 (N d : Nat) (xs : List Int32) (c r : St) (p : St) (hp : Lots_spoilIn_2 N c = some p) : mBig (mRoL xs) (d + 4) 40 [.ref 15, .ref 11] (HP c r) (none) (HP p r) 0 0 := mBig_of (by decide) rfl rfl rfl rfl (t_Lots_spoilIn_2 N d xs r c p hp)
/-! ColdHolds$Lots.lostIn(LColdHolds$Air;)I, from (('r', 15), ('r', 11)) -/
def Lots_lostIn_p28 (N : Nat) (kb4 : Int32 → Int32 → Option (Int32)) (c : St) (x2 : Int32) (x3 : Int32) : Option (Int32) :=
  kb4 x2 (x3 + 1)
def Lots_lostIn_p4b (N : Nat) (kb4 : Int32 → Int32 → Option (Int32)) (c : St) (x2 : Int32) (x3 : Int32) : Option (Int32) :=
  (if (gI c 5) ≤ x3 then some x2 else (ld (gA c 9) x3).bind fun y2 => (Lots_stateFrom N y2).bind fun p3 => (if ¬ p3 = 3 then Lots_lostIn_p28 N kb4 c x2 x3 else Lots_lostIn_p28 N kb4 c (x2 + 1) x3))
def Lots_lostIn_p4 (N : Nat) (c : St) : Nat → Int32 → Int32 → Option (Int32)
  | 0 => fun _ _ => none
  | n + 1 => Lots_lostIn_p4b N (Lots_lostIn_p4 N c n) c
def Lots_lostIn (N : Nat) (c : St) : Option (Int32) :=
  Lots_lostIn_p4 N c N 0 0
set_option maxHeartbeats 8000000 in
set_option maxRecDepth 100000 in
theorem t_Lots_lostIn_p28 (N d : Nat) (xs : List Int32) (c : St) (r : St) (kb4 : Int32 → Int32 → Option (Int32)) (hb4 : ∀ (x2 : Int32) (x3 : Int32), Ok (mBig (mRoL xs) (d + 1)) (mRoL xs) 1 mK42 (fun p : Int32 => (some (.int p), HP c r)) (kb4 x2 x3) 4 [some (.ref 15), some (.ref 11), some (.int x2), some (.int x3)] [] (HP c r)) (x2 : Int32) (x3 : Int32) : Ok (mBig (mRoL xs) (d + 1)) (mRoL xs) 1 mK42 (fun p : Int32 => (some (.int p), HP c r)) (Lots_lostIn_p28 N kb4 c x2 x3) 28 [some (.ref 15), some (.ref 11), some (.int x2), some (.int x3)] [] (HP c r) := by
  unfold Lots_lostIn_p28
  refine Ok_blk 2 (pc2 := 4) (lo2 := [some (.ref 15), some (.ref 11), some (.int x2), some (.int (x3 + 1))]) (st2 := []) rfl ?_
  refine Ok_drop (lo0 := [some (.ref 15), some (.ref 11), some (.int x2), some (.int (x3 + 1))]) ⟨Or.inr rfl, Or.inr rfl, Or.inr rfl, Or.inr rfl, trivial⟩ ?_
  exact hb4 x2 (x3 + 1)
set_option maxHeartbeats 8000000 in
set_option maxRecDepth 100000 in
theorem t_Lots_lostIn_p4b (N d : Nat) (xs : List Int32) (c : St) (r : St) (kb4 : Int32 → Int32 → Option (Int32)) (hb4 : ∀ (x2 : Int32) (x3 : Int32), Ok (mBig (mRoL xs) (d + 1)) (mRoL xs) 1 mK42 (fun p : Int32 => (some (.int p), HP c r)) (kb4 x2 x3) 4 [some (.ref 15), some (.ref 11), some (.int x2), some (.int x3)] [] (HP c r)) (x2 : Int32) (x3 : Int32) : Ok (mBig (mRoL xs) (d + 1)) (mRoL xs) 1 mK42 (fun p : Int32 => (some (.int p), HP c r)) (Lots_lostIn_p4b N kb4 c x2 x3) 4 [some (.ref 15), some (.ref 11), some (.int x2), some (.int x3)] [] (HP c r) := by
  unfold Lots_lostIn_p4b
  refine Ok_blk 4 (pc2 := (if (gI c 5) ≤ x3 then 34 else 12)) (lo2 := [some (.ref 15), some (.ref 11), some (.int x2), some (.int x3)]) (st2 := []) rfl ?_
  refine Ok_if (fun h1 => ?_) (fun h1 => ?_)
  · refine Ok_blk 1 (pc2 := 35) (lo2 := [some (.ref 15), some (.ref 11), some (.int x2), some (.int x3)]) (st2 := [.int x2]) rfl ?_
    exact Ok_ret rfl rfl rfl
  · refine Ok_blk 3 (pc2 := 17) (lo2 := [some (.ref 15), some (.ref 11), some (.int x2), some (.int x3)]) (st2 := [.int x3, .ref 13]) rfl ?_
    refine Ok_ld (l := (gA c 9)) rfl rfl (fun y2 hy2 => ?_)
    refine Ok_call (y := 44) (as := [.int y2]) (rest := []) (w := fun p3 => some (.int p3)) (h1 := fun p3 => HP c r) rfl rfl (fun x hx => tm_Lots_stateFrom N d xs c r y2 x hx) (fun p3 hp3 => ?_)
    refine Ok_blk 2 (pc2 := (if ¬ p3 = 3 then 28 else 25)) (lo2 := [some (.ref 15), some (.ref 11), some (.int x2), some (.int x3)]) (st2 := []) rfl ?_
    refine Ok_if (fun h4 => ?_) (fun h4 => ?_)
    · refine Ok_drop (lo0 := [some (.ref 15), some (.ref 11), some (.int x2), some (.int x3)]) ⟨Or.inr rfl, Or.inr rfl, Or.inr rfl, Or.inr rfl, trivial⟩ ?_
      exact t_Lots_lostIn_p28 N d xs c r kb4 hb4 x2 x3
    · refine Ok_blk 1 (pc2 := 28) (lo2 := [some (.ref 15), some (.ref 11), some (.int (x2 + 1)), some (.int x3)]) (st2 := []) rfl ?_
      refine Ok_drop (lo0 := [some (.ref 15), some (.ref 11), some (.int (x2 + 1)), some (.int x3)]) ⟨Or.inr rfl, Or.inr rfl, Or.inr rfl, Or.inr rfl, trivial⟩ ?_
      exact t_Lots_lostIn_p28 N d xs c r kb4 hb4 (x2 + 1) x3
set_option maxHeartbeats 8000000 in
set_option maxRecDepth 100000 in
theorem t_Lots_lostIn_p4 (N d : Nat) (xs : List Int32) (c : St) (r : St) : ∀ (n : Nat) (x2 : Int32) (x3 : Int32), Ok (mBig (mRoL xs) (d + 1)) (mRoL xs) 1 mK42 (fun p : Int32 => (some (.int p), HP c r)) (Lots_lostIn_p4 N c n x2 x3) 4 [some (.ref 15), some (.ref 11), some (.int x2), some (.int x3)] [] (HP c r) := by
  intro n
  induction n with
  | zero => intro x2 x3; exact Ok_none
  | succ n ih => intro x2 x3; exact t_Lots_lostIn_p4b N d xs c r (Lots_lostIn_p4 N c n) ih x2 x3
set_option maxHeartbeats 8000000 in
set_option maxRecDepth 100000 in
theorem t_Lots_lostIn (N d : Nat) (xs : List Int32) (c : St) (r : St) : Ok (mBig (mRoL xs) (d + 1)) (mRoL xs) 1 mK42 (fun p : Int32 => (some (.int p), HP c r)) (Lots_lostIn N c) 0 [some (.ref 15), some (.ref 11), none, none] [] (HP c r) := by
  unfold Lots_lostIn
  refine Ok_blk 4 (pc2 := 4) (lo2 := [some (.ref 15), some (.ref 11), some (.int 0), some (.int 0)]) (st2 := []) rfl ?_
  refine Ok_drop (lo0 := [some (.ref 15), some (.ref 11), some (.int 0), some (.int 0)]) ⟨Or.inr rfl, Or.inr rfl, Or.inr rfl, Or.inr rfl, trivial⟩ ?_
  exact t_Lots_lostIn_p4 N d xs c r N 0 0
set_option maxHeartbeats 8000000 in
set_option maxRecDepth 100000 in
theorem tm_Lots_lostIn (N d : Nat) (xs : List Int32) (c r : St) (p : Int32) (hp : Lots_lostIn N c = some p) : mBig (mRoL xs) (d + 2) 42 [.ref 15, .ref 11] (HP c r) (some (.int p)) (HP c r) 0 0 := mBig_of (by decide) rfl rfl rfl rfl (t_Lots_lostIn N d xs c r p hp)
/-! ColdHolds.lostGoing(II)I, from (('r', 0), 'i', 'i') -/
def C_lostGoing_p172 (N : Nat) (c : St) : Option (Int32 × St) :=
  (Lots_lostIn N c).bind fun p7 => some (p7, c)
def C_lostGoing_p128b (N : Nat) (kb128 : St → Int32 → Option (Int32 × St)) (c : St) (x6 : Int32) : Option (Int32 × St) :=
  (if x6 < 0 then C_lostGoing_p172 N c else (Hold_seaOf N c x6).bind fun p9 => (Air_pass_2 N c p9 0).bind fun p10 => (Lots_spoilIn_2 N p10.2).bind fun p11 => kb128 p11 (x6 + (-1)))
def C_lostGoing_p128 (N : Nat) : Nat → St → Int32 → Option (Int32 × St)
  | 0 => fun _ _ => none
  | n + 1 => C_lostGoing_p128b N (C_lostGoing_p128 N n)
def C_lostGoing_p97 (N : Nat) (kb61 : St → Int32 → Int32 → Int32 → Int32 → Int32 → Option (Int32 × St)) (c : St) (x2 : Int32) (x3 : Int32) (x4 : Int32) (x5 : Int32) (x6 : Int32) (s2 : Int32) (s3 : Int32) : Option (Int32 × St) :=
  (Air_pass_2 N c s2 s3).bind fun p14 => (Lots_spoilIn_2 N p14.2).bind fun p15 => kb61 p15 x2 x3 x4 x5 (x6 + 1)
def C_lostGoing_p61b (N : Nat) (kb61 : St → Int32 → Int32 → Int32 → Int32 → Int32 → Option (Int32 × St)) (c : St) (x2 : Int32) (x3 : Int32) (x4 : Int32) (x5 : Int32) (x6 : Int32) : Option (Int32 × St) :=
  (if x5 ≤ x6 then (if ¬ x2 = 1 then C_lostGoing_p172 N c else C_lostGoing_p128 N N c (x3 - 1)) else (Hold_seaOf N c x6).bind fun p12 => (if x4 ≤ x6 then C_lostGoing_p97 N kb61 c x2 x3 x4 x5 x6 p12 0 else C_lostGoing_p97 N kb61 c x2 x3 x4 x5 x6 p12 1))
def C_lostGoing_p61 (N : Nat) : Nat → St → Int32 → Int32 → Int32 → Int32 → Int32 → Option (Int32 × St)
  | 0 => fun _ _ _ _ _ _ => none
  | n + 1 => C_lostGoing_p61b N (C_lostGoing_p61 N n)
def C_lostGoing_p50 (N : Nat) (c : St) (x2 : Int32) (x3 : Int32) (x4 : Int32) (s0 : Int32) : Option (Int32 × St) :=
  C_lostGoing_p61 N N c x2 x3 x4 s0 (gI c 1)
def C_lostGoing (N : Nat) (c : St) (x1 : Int32) (x2 : Int32) : Option (Int32 × St) :=
  (Air_takeFrom N c).bind fun p1 => (J_min N (gI p1 2) ((gI p1 1) + x1)).bind fun p2 => (if ¬ x2 = 1 then (Hold_allHours N p1).bind fun p4 => C_lostGoing_p50 N p1 x2 ((gI p1 1) + x1) p2 p4 else C_lostGoing_p50 N p1 x2 ((gI p1 1) + x1) p2 ((gI p1 1) + x1))
set_option maxHeartbeats 8000000 in
set_option maxRecDepth 100000 in
theorem t_C_lostGoing_p172 (N d : Nat) (xs : List Int32) (r : St) (c : St) : Ok (mBig (mRoL xs) (d + 4)) (mRoL xs) 1 mK131 (fun p : Int32 × St => (some (.int p.1), HP p.2 r)) (C_lostGoing_p172 N c) 172 [some (.ref 0), none, none, none, none, none, none] [] (HP c r) := by
  unfold C_lostGoing_p172
  refine Ok_blk 4 (pc2 := 180) (lo2 := [some (.ref 0), none, none, none, none, none, none]) (st2 := [.ref 11, .ref 15]) rfl ?_
  refine Ok_call (y := 42) (as := [.ref 15, .ref 11]) (rest := []) (w := fun p7 => some (.int p7)) (h1 := fun p7 => HP c r) rfl rfl (fun x hx => tm_Lots_lostIn N (d + 2) xs c r x hx) (fun p7 hp7 => ?_)
  exact Ok_ret rfl rfl rfl
set_option maxHeartbeats 8000000 in
set_option maxRecDepth 100000 in
theorem t_C_lostGoing_p128b (N d : Nat) (xs : List Int32) (r : St) (kb128 : St → Int32 → Option (Int32 × St)) (hb128 : ∀ (c : St) (x6 : Int32), Ok (mBig (mRoL xs) (d + 4)) (mRoL xs) 1 mK131 (fun p : Int32 × St => (some (.int p.1), HP p.2 r)) (kb128 c x6) 128 [some (.ref 0), none, none, none, none, none, some (.int x6)] [] (HP c r)) (c : St) (x6 : Int32) : Ok (mBig (mRoL xs) (d + 4)) (mRoL xs) 1 mK131 (fun p : Int32 × St => (some (.int p.1), HP p.2 r)) (C_lostGoing_p128b N kb128 c x6) 128 [some (.ref 0), none, none, none, none, none, some (.int x6)] [] (HP c r) := by
  unfold C_lostGoing_p128b
  refine Ok_blk 2 (pc2 := (if x6 < 0 then 172 else 133)) (lo2 := [some (.ref 0), none, none, none, none, none, some (.int x6)]) (st2 := []) rfl ?_
  refine Ok_if (fun h8 => ?_) (fun h8 => ?_)
  · refine Ok_drop (lo0 := [some (.ref 0), none, none, none, none, none, none]) ⟨Or.inr rfl, Or.inl rfl, Or.inl rfl, Or.inl rfl, Or.inl rfl, Or.inl rfl, Or.inl rfl, trivial⟩ ?_
    exact t_C_lostGoing_p172 N d xs r c
  · refine Ok_blk 7 (pc2 := 147) (lo2 := [some (.ref 0), none, none, none, none, none, some (.int x6)]) (st2 := [.int x6, .ref 1, .ref 1, .ref 11]) rfl ?_
    refine Ok_call (y := 31) (as := [.ref 1, .int x6]) (rest := [.ref 1, .ref 11]) (w := fun p9 => some (.int p9)) (h1 := fun p9 => HP c r) rfl rfl (fun x hx => tm_Hold_seaOf N (d + 3) xs c r x6 x hx) (fun p9 hp9 => ?_)
    refine Ok_blk 1 (pc2 := 151) (lo2 := [some (.ref 0), none, none, none, none, none, some (.int x6)]) (st2 := [.int 0, .int p9, .ref 1, .ref 11]) rfl ?_
    refine Ok_call (y := 2) (as := [.ref 11, .ref 1, .int p9, .int 0]) (rest := []) (w := fun p10 => some (.int p10.1)) (h1 := fun p10 => HP p10.2 r) rfl rfl (fun x hx => tm_Air_pass_2 N (d + 1) xs c r p9 0 x hx) (fun p10 hp10 => ?_)
    refine Ok_blk 5 (pc2 := 163) (lo2 := [some (.ref 0), none, none, none, none, none, some (.int x6)]) (st2 := [.ref 11, .ref 15]) rfl ?_
    refine Ok_call (y := 40) (as := [.ref 15, .ref 11]) (rest := []) (w := fun p11 => none) (h1 := fun p11 => HP p11 r) rfl rfl (fun x hx => tm_Lots_spoilIn_2 N d xs p10.2 r x hx) (fun p11 hp11 => ?_)
    refine Ok_blk 2 (pc2 := 128) (lo2 := [some (.ref 0), none, none, none, none, none, some (.int (x6 + (-1)))]) (st2 := []) rfl ?_
    refine Ok_drop (lo0 := [some (.ref 0), none, none, none, none, none, some (.int (x6 + (-1)))]) ⟨Or.inr rfl, Or.inl rfl, Or.inl rfl, Or.inl rfl, Or.inl rfl, Or.inl rfl, Or.inr rfl, trivial⟩ ?_
    exact hb128 p11 (x6 + (-1))
set_option maxHeartbeats 8000000 in
set_option maxRecDepth 100000 in
theorem t_C_lostGoing_p128 (N d : Nat) (xs : List Int32) (r : St) : ∀ (n : Nat) (c : St) (x6 : Int32), Ok (mBig (mRoL xs) (d + 4)) (mRoL xs) 1 mK131 (fun p : Int32 × St => (some (.int p.1), HP p.2 r)) (C_lostGoing_p128 N n c x6) 128 [some (.ref 0), none, none, none, none, none, some (.int x6)] [] (HP c r) := by
  intro n
  induction n with
  | zero => intro c x6; exact Ok_none
  | succ n ih => intro c x6; exact t_C_lostGoing_p128b N d xs r (C_lostGoing_p128 N n) ih c x6
set_option maxHeartbeats 8000000 in
set_option maxRecDepth 100000 in
theorem t_C_lostGoing_p97 (N d : Nat) (xs : List Int32) (r : St) (kb61 : St → Int32 → Int32 → Int32 → Int32 → Int32 → Option (Int32 × St)) (hb61 : ∀ (c : St) (x2 : Int32) (x3 : Int32) (x4 : Int32) (x5 : Int32) (x6 : Int32), Ok (mBig (mRoL xs) (d + 4)) (mRoL xs) 1 mK131 (fun p : Int32 × St => (some (.int p.1), HP p.2 r)) (kb61 c x2 x3 x4 x5 x6) 61 [some (.ref 0), none, some (.int x2), some (.int x3), some (.int x4), some (.int x5), some (.int x6)] [] (HP c r)) (c : St) (x2 : Int32) (x3 : Int32) (x4 : Int32) (x5 : Int32) (x6 : Int32) (s2 : Int32) (s3 : Int32) : Ok (mBig (mRoL xs) (d + 4)) (mRoL xs) 1 mK131 (fun p : Int32 × St => (some (.int p.1), HP p.2 r)) (C_lostGoing_p97 N kb61 c x2 x3 x4 x5 x6 s2 s3) 97 [some (.ref 0), none, some (.int x2), some (.int x3), some (.int x4), some (.int x5), some (.int x6)] [.int s3, .int s2, .ref 1, .ref 11] (HP c r) := by
  unfold C_lostGoing_p97
  refine Ok_call (y := 2) (as := [.ref 11, .ref 1, .int s2, .int s3]) (rest := []) (w := fun p14 => some (.int p14.1)) (h1 := fun p14 => HP p14.2 r) rfl rfl (fun x hx => tm_Air_pass_2 N (d + 1) xs c r s2 s3 x hx) (fun p14 hp14 => ?_)
  refine Ok_blk 5 (pc2 := 109) (lo2 := [some (.ref 0), none, some (.int x2), some (.int x3), some (.int x4), some (.int x5), some (.int x6)]) (st2 := [.ref 11, .ref 15]) rfl ?_
  refine Ok_call (y := 40) (as := [.ref 15, .ref 11]) (rest := []) (w := fun p15 => none) (h1 := fun p15 => HP p15 r) rfl rfl (fun x hx => tm_Lots_spoilIn_2 N d xs p14.2 r x hx) (fun p15 hp15 => ?_)
  refine Ok_blk 2 (pc2 := 61) (lo2 := [some (.ref 0), none, some (.int x2), some (.int x3), some (.int x4), some (.int x5), some (.int (x6 + 1))]) (st2 := []) rfl ?_
  refine Ok_drop (lo0 := [some (.ref 0), none, some (.int x2), some (.int x3), some (.int x4), some (.int x5), some (.int (x6 + 1))]) ⟨Or.inr rfl, Or.inl rfl, Or.inr rfl, Or.inr rfl, Or.inr rfl, Or.inr rfl, Or.inr rfl, trivial⟩ ?_
  exact hb61 p15 x2 x3 x4 x5 (x6 + 1)
set_option maxHeartbeats 8000000 in
set_option maxRecDepth 100000 in
theorem t_C_lostGoing_p61b (N d : Nat) (xs : List Int32) (r : St) (kb61 : St → Int32 → Int32 → Int32 → Int32 → Int32 → Option (Int32 × St)) (hb61 : ∀ (c : St) (x2 : Int32) (x3 : Int32) (x4 : Int32) (x5 : Int32) (x6 : Int32), Ok (mBig (mRoL xs) (d + 4)) (mRoL xs) 1 mK131 (fun p : Int32 × St => (some (.int p.1), HP p.2 r)) (kb61 c x2 x3 x4 x5 x6) 61 [some (.ref 0), none, some (.int x2), some (.int x3), some (.int x4), some (.int x5), some (.int x6)] [] (HP c r)) (c : St) (x2 : Int32) (x3 : Int32) (x4 : Int32) (x5 : Int32) (x6 : Int32) : Ok (mBig (mRoL xs) (d + 4)) (mRoL xs) 1 mK131 (fun p : Int32 × St => (some (.int p.1), HP p.2 r)) (C_lostGoing_p61b N kb61 c x2 x3 x4 x5 x6) 61 [some (.ref 0), none, some (.int x2), some (.int x3), some (.int x4), some (.int x5), some (.int x6)] [] (HP c r) := by
  unfold C_lostGoing_p61b
  refine Ok_blk 3 (pc2 := (if x5 ≤ x6 then 118 else 68)) (lo2 := [some (.ref 0), none, some (.int x2), some (.int x3), some (.int x4), some (.int x5), some (.int x6)]) (st2 := []) rfl ?_
  refine Ok_if (fun h5 => ?_) (fun h5 => ?_)
  · refine Ok_blk 3 (pc2 := (if ¬ x2 = 1 then 172 else 123)) (lo2 := [some (.ref 0), none, some (.int x2), some (.int x3), some (.int x4), some (.int x5), some (.int x6)]) (st2 := []) rfl ?_
    refine Ok_if (fun h6 => ?_) (fun h6 => ?_)
    · refine Ok_drop (lo0 := [some (.ref 0), none, none, none, none, none, none]) ⟨Or.inr rfl, Or.inl rfl, Or.inl rfl, Or.inl rfl, Or.inl rfl, Or.inl rfl, Or.inl rfl, trivial⟩ ?_
      exact t_C_lostGoing_p172 N d xs r c
    · refine Ok_blk 4 (pc2 := 128) (lo2 := [some (.ref 0), none, some (.int x2), some (.int x3), some (.int x4), some (.int x5), some (.int (x3 - 1))]) (st2 := []) rfl ?_
      refine Ok_drop (lo0 := [some (.ref 0), none, none, none, none, none, some (.int (x3 - 1))]) ⟨Or.inr rfl, Or.inl rfl, Or.inl rfl, Or.inl rfl, Or.inl rfl, Or.inl rfl, Or.inr rfl, trivial⟩ ?_
      exact t_C_lostGoing_p128 N d xs r N c (x3 - 1)
  · refine Ok_blk 7 (pc2 := 82) (lo2 := [some (.ref 0), none, some (.int x2), some (.int x3), some (.int x4), some (.int x5), some (.int x6)]) (st2 := [.int x6, .ref 1, .ref 1, .ref 11]) rfl ?_
    refine Ok_call (y := 31) (as := [.ref 1, .int x6]) (rest := [.ref 1, .ref 11]) (w := fun p12 => some (.int p12)) (h1 := fun p12 => HP c r) rfl rfl (fun x hx => tm_Hold_seaOf N (d + 3) xs c r x6 x hx) (fun p12 hp12 => ?_)
    refine Ok_blk 3 (pc2 := (if x4 ≤ x6 then 96 else 92)) (lo2 := [some (.ref 0), none, some (.int x2), some (.int x3), some (.int x4), some (.int x5), some (.int x6)]) (st2 := [.int p12, .ref 1, .ref 11]) rfl ?_
    refine Ok_if (fun h13 => ?_) (fun h13 => ?_)
    · refine Ok_blk 1 (pc2 := 97) (lo2 := [some (.ref 0), none, some (.int x2), some (.int x3), some (.int x4), some (.int x5), some (.int x6)]) (st2 := [.int 0, .int p12, .ref 1, .ref 11]) rfl ?_
      refine Ok_drop (lo0 := [some (.ref 0), none, some (.int x2), some (.int x3), some (.int x4), some (.int x5), some (.int x6)]) ⟨Or.inr rfl, Or.inl rfl, Or.inr rfl, Or.inr rfl, Or.inr rfl, Or.inr rfl, Or.inr rfl, trivial⟩ ?_
      exact t_C_lostGoing_p97 N d xs r kb61 hb61 c x2 x3 x4 x5 x6 p12 0
    · refine Ok_blk 2 (pc2 := 97) (lo2 := [some (.ref 0), none, some (.int x2), some (.int x3), some (.int x4), some (.int x5), some (.int x6)]) (st2 := [.int 1, .int p12, .ref 1, .ref 11]) rfl ?_
      refine Ok_drop (lo0 := [some (.ref 0), none, some (.int x2), some (.int x3), some (.int x4), some (.int x5), some (.int x6)]) ⟨Or.inr rfl, Or.inl rfl, Or.inr rfl, Or.inr rfl, Or.inr rfl, Or.inr rfl, Or.inr rfl, trivial⟩ ?_
      exact t_C_lostGoing_p97 N d xs r kb61 hb61 c x2 x3 x4 x5 x6 p12 1
set_option maxHeartbeats 8000000 in
set_option maxRecDepth 100000 in
theorem t_C_lostGoing_p61 (N d : Nat) (xs : List Int32) (r : St) : ∀ (n : Nat) (c : St) (x2 : Int32) (x3 : Int32) (x4 : Int32) (x5 : Int32) (x6 : Int32), Ok (mBig (mRoL xs) (d + 4)) (mRoL xs) 1 mK131 (fun p : Int32 × St => (some (.int p.1), HP p.2 r)) (C_lostGoing_p61 N n c x2 x3 x4 x5 x6) 61 [some (.ref 0), none, some (.int x2), some (.int x3), some (.int x4), some (.int x5), some (.int x6)] [] (HP c r) := by
  intro n
  induction n with
  | zero => intro c x2 x3 x4 x5 x6; exact Ok_none
  | succ n ih => intro c x2 x3 x4 x5 x6; exact t_C_lostGoing_p61b N d xs r (C_lostGoing_p61 N n) ih c x2 x3 x4 x5 x6
set_option maxHeartbeats 8000000 in
set_option maxRecDepth 100000 in
theorem t_C_lostGoing_p50 (N d : Nat) (xs : List Int32) (r : St) (c : St) (x2 : Int32) (x3 : Int32) (x4 : Int32) (s0 : Int32) : Ok (mBig (mRoL xs) (d + 4)) (mRoL xs) 1 mK131 (fun p : Int32 × St => (some (.int p.1), HP p.2 r)) (C_lostGoing_p50 N c x2 x3 x4 s0) 50 [some (.ref 0), none, some (.int x2), some (.int x3), some (.int x4), none, none] [.int s0] (HP c r) := by
  unfold C_lostGoing_p50
  refine Ok_blk 5 (pc2 := 61) (lo2 := [some (.ref 0), none, some (.int x2), some (.int x3), some (.int x4), some (.int s0), some (.int (gI c 1))]) (st2 := []) rfl ?_
  refine Ok_drop (lo0 := [some (.ref 0), none, some (.int x2), some (.int x3), some (.int x4), some (.int s0), some (.int (gI c 1))]) ⟨Or.inr rfl, Or.inl rfl, Or.inr rfl, Or.inr rfl, Or.inr rfl, Or.inr rfl, Or.inr rfl, trivial⟩ ?_
  exact t_C_lostGoing_p61 N d xs r N c x2 x3 x4 s0 (gI c 1)
set_option maxHeartbeats 8000000 in
set_option maxRecDepth 100000 in
theorem t_C_lostGoing (N d : Nat) (xs : List Int32) (r : St) (c : St) (x1 : Int32) (x2 : Int32) : Ok (mBig (mRoL xs) (d + 4)) (mRoL xs) 1 mK131 (fun p : Int32 × St => (some (.int p.1), HP p.2 r)) (C_lostGoing N c x1 x2) 0 [some (.ref 0), some (.int x1), some (.int x2), none, none, none, none] [] (HP c r) := by
  unfold C_lostGoing
  refine Ok_blk 4 (pc2 := 8) (lo2 := [some (.ref 0), some (.int x1), some (.int x2), none, none, none, none]) (st2 := [.ref 7, .ref 11]) rfl ?_
  refine Ok_call (y := 1) (as := [.ref 11, .ref 7]) (rest := []) (w := fun p1 => none) (h1 := fun p1 => HP p1 r) rfl rfl (fun x hx => tm_Air_takeFrom N (d + 3) xs c r x hx) (fun p1 hp1 => ?_)
  refine Ok_blk 10 (pc2 := 29) (lo2 := [some (.ref 0), some (.int x1), some (.int x2), some (.int ((gI p1 1) + x1)), none, none, none]) (st2 := [.int ((gI p1 1) + x1), .int (gI p1 2)]) rfl ?_
  refine Ok_call (y := 262) (as := [.int (gI p1 2), .int ((gI p1 1) + x1)]) (rest := []) (w := fun p2 => some (.int p2)) (h1 := fun p2 => HP p1 r) rfl rfl (fun x hx => tm_J_min N (d + 3) xs p1 r (gI p1 2) ((gI p1 1) + x1) x hx) (fun p2 hp2 => ?_)
  refine Ok_blk 4 (pc2 := (if ¬ x2 = 1 then 43 else 39)) (lo2 := [some (.ref 0), some (.int x1), some (.int x2), some (.int ((gI p1 1) + x1)), some (.int p2), none, none]) (st2 := []) rfl ?_
  refine Ok_if (fun h3 => ?_) (fun h3 => ?_)
  · refine Ok_blk 2 (pc2 := 47) (lo2 := [some (.ref 0), some (.int x1), some (.int x2), some (.int ((gI p1 1) + x1)), some (.int p2), none, none]) (st2 := [.ref 1]) rfl ?_
    refine Ok_call (y := 30) (as := [.ref 1]) (rest := []) (w := fun p4 => some (.int p4)) (h1 := fun p4 => HP p1 r) rfl rfl (fun x hx => tm_Hold_allHours N (d + 3) xs p1 r x hx) (fun p4 hp4 => ?_)
    refine Ok_drop (lo0 := [some (.ref 0), none, some (.int x2), some (.int ((gI p1 1) + x1)), some (.int p2), none, none]) ⟨Or.inr rfl, Or.inl rfl, Or.inr rfl, Or.inr rfl, Or.inr rfl, Or.inl rfl, Or.inl rfl, trivial⟩ ?_
    exact t_C_lostGoing_p50 N d xs r p1 x2 ((gI p1 1) + x1) p2 p4
  · refine Ok_blk 2 (pc2 := 50) (lo2 := [some (.ref 0), some (.int x1), some (.int x2), some (.int ((gI p1 1) + x1)), some (.int p2), none, none]) (st2 := [.int ((gI p1 1) + x1)]) rfl ?_
    refine Ok_drop (lo0 := [some (.ref 0), none, some (.int x2), some (.int ((gI p1 1) + x1)), some (.int p2), none, none]) ⟨Or.inr rfl, Or.inl rfl, Or.inr rfl, Or.inr rfl, Or.inr rfl, Or.inl rfl, Or.inl rfl, trivial⟩ ?_
    exact t_C_lostGoing_p50 N d xs r p1 x2 ((gI p1 1) + x1) p2 ((gI p1 1) + x1)
set_option maxHeartbeats 8000000 in
set_option maxRecDepth 100000 in
theorem tm_C_lostGoing (N d : Nat) (xs : List Int32) (c r : St) (a1 : Int32) (a2 : Int32) (p : Int32 × St) (hp : C_lostGoing N c a1 a2 = some p) : mBig (mRoL xs) (d + 5) 131 [.ref 0, .int a1, .int a2] (HP c r) (some (.int p.1)) (HP p.2 r) 0 0 := mBig_of (by decide) rfl rfl rfl rfl (t_C_lostGoing N d xs r c a1 a2 p hp)
/-! ColdHolds.lost(II)I, from (('r', 0), 'i', 'i') -/
def C_lost_p20 (N : Nat) (c : St) : Option (Int32 × St) :=
  some ((-102), c)
def C_lost (N : Nat) (c : St) (x1 : Int32) (x2 : Int32) : Option (Int32 × St) :=
  (C_within N x1 0 300).bind fun p1 => (if p1 = 0 then C_lost_p20 N c else (C_within N x2 0 1).bind fun p3 => (if ¬ p3 = 0 then (C_lostGoing N c x1 x2).bind fun p5 => some (p5.1, p5.2) else C_lost_p20 N c))
set_option maxHeartbeats 8000000 in
set_option maxRecDepth 100000 in
theorem t_C_lost_p20 (N d : Nat) (xs : List Int32) (r : St) (c : St) : Ok (mBig (mRoL xs) (d + 5)) (mRoL xs) 1 mK129 (fun p : Int32 × St => (some (.int p.1), HP p.2 r)) (C_lost_p20 N c) 20 [none, none, none] [] (HP c r) := by
  unfold C_lost_p20
  refine Ok_blk 1 (pc2 := 22) (lo2 := [none, none, none]) (st2 := [.int (-102)]) rfl ?_
  exact Ok_ret rfl rfl rfl
set_option maxHeartbeats 8000000 in
set_option maxRecDepth 100000 in
theorem t_C_lost (N d : Nat) (xs : List Int32) (r : St) (c : St) (x1 : Int32) (x2 : Int32) : Ok (mBig (mRoL xs) (d + 5)) (mRoL xs) 1 mK129 (fun p : Int32 × St => (some (.int p.1), HP p.2 r)) (C_lost N c x1 x2) 0 [some (.ref 0), some (.int x1), some (.int x2)] [] (HP c r) := by
  unfold C_lost
  refine Ok_blk 3 (pc2 := 5) (lo2 := [some (.ref 0), some (.int x1), some (.int x2)]) (st2 := [.int 300, .int 0, .int x1]) rfl ?_
  refine Ok_call (y := 102) (as := [.int x1, .int 0, .int 300]) (rest := []) (w := fun p1 => some (.int p1)) (h1 := fun p1 => HP c r) rfl rfl (fun x hx => tm_C_within N (d + 4) xs c r x1 0 300 x hx) (fun p1 hp1 => ?_)
  refine Ok_blk 1 (pc2 := (if p1 = 0 then 20 else 11)) (lo2 := [some (.ref 0), some (.int x1), some (.int x2)]) (st2 := []) rfl ?_
  refine Ok_if (fun h2 => ?_) (fun h2 => ?_)
  · refine Ok_drop (lo0 := [none, none, none]) ⟨Or.inl rfl, Or.inl rfl, Or.inl rfl, trivial⟩ ?_
    exact t_C_lost_p20 N d xs r c
  · refine Ok_blk 3 (pc2 := 14) (lo2 := [some (.ref 0), some (.int x1), some (.int x2)]) (st2 := [.int 1, .int 0, .int x2]) rfl ?_
    refine Ok_call (y := 102) (as := [.int x2, .int 0, .int 1]) (rest := []) (w := fun p3 => some (.int p3)) (h1 := fun p3 => HP c r) rfl rfl (fun x hx => tm_C_within N (d + 4) xs c r x2 0 1 x hx) (fun p3 hp3 => ?_)
    refine Ok_blk 1 (pc2 := (if ¬ p3 = 0 then 23 else 20)) (lo2 := [some (.ref 0), some (.int x1), some (.int x2)]) (st2 := []) rfl ?_
    refine Ok_if (fun h4 => ?_) (fun h4 => ?_)
    · refine Ok_blk 3 (pc2 := 26) (lo2 := [some (.ref 0), some (.int x1), some (.int x2)]) (st2 := [.int x2, .int x1, .ref 0]) rfl ?_
      refine Ok_call (y := 131) (as := [.ref 0, .int x1, .int x2]) (rest := []) (w := fun p5 => some (.int p5.1)) (h1 := fun p5 => HP p5.2 r) rfl rfl (fun x hx => tm_C_lostGoing N d xs c r x1 x2 x hx) (fun p5 hp5 => ?_)
      exact Ok_ret rfl rfl rfl
    · refine Ok_drop (lo0 := [none, none, none]) ⟨Or.inl rfl, Or.inl rfl, Or.inl rfl, trivial⟩ ?_
      exact t_C_lost_p20 N d xs r c
set_option maxHeartbeats 8000000 in
set_option maxRecDepth 100000 in
theorem tm_C_lost (N d : Nat) (xs : List Int32) (c r : St) (a1 : Int32) (a2 : Int32) (p : Int32 × St) (hp : C_lost N c a1 a2 = some p) : mBig (mRoL xs) (d + 6) 129 [.ref 0, .int a1, .int a2] (HP c r) (some (.int p.1)) (HP p.2 r) 0 0 := mBig_of (by decide) rfl rfl rfl rfl (t_C_lost N d xs r c a1 a2 p hp)
/-! ColdHoldsModel.lostBy(II)I, from (('r', 115), 'i', 'i') -/
def R_lostBy_p184 (N : Nat) (kb155 : St → Int32 → Int32 → Option (Int32 × St)) (r : St) (x4 : Int32) (s0 : Int32) (s1 : Int32) : Option (Int32 × St) :=
  kb155 r (s0 + s1) (x4 + 1)
def R_lostBy_p155b (N : Nat) (kb155 : St → Int32 → Int32 → Option (Int32 × St)) (r : St) (x3 : Int32) (x4 : Int32) : Option (Int32 × St) :=
  (if (gI r 7) ≤ x4 then some (x3, r) else (ld (gA r 31) x4).bind fun y7 => (R_stateOf N y7).bind fun p8 => (if ¬ p8 = 3 then R_lostBy_p184 N kb155 r x4 x3 0 else R_lostBy_p184 N kb155 r x4 x3 1))
def R_lostBy_p155 (N : Nat) : Nat → St → Int32 → Int32 → Option (Int32 × St)
  | 0 => fun _ _ _ => none
  | n + 1 => R_lostBy_p155b N (R_lostBy_p155 N n)
def R_lostBy_p150 (N : Nat) (r : St) : Option (Int32 × St) :=
  R_lostBy_p155 N N r 0 0
def R_lostBy_p130b (N : Nat) (kb130 : St → Int32 → Option (Int32 × St)) (r : St) (x3 : Int32) : Option (Int32 × St) :=
  (if x3 < 0 then R_lostBy_p150 N r else (R_seaOf N r x3).bind fun p10 => (R_anHour N r p10).bind fun p11 => kb130 p11.2 (x3 + (-1)))
def R_lostBy_p130 (N : Nat) : Nat → St → Int32 → Option (Int32 × St)
  | 0 => fun _ _ => none
  | n + 1 => R_lostBy_p130b N (R_lostBy_p130 N n)
def R_lostBy_p97b (N : Nat) (kb97 : St → Int32 → Int32 → Option (Int32 × St)) (r : St) (x1 : Int32) (x3 : Int32) : Option (Int32 × St) :=
  (if x1 ≤ x3 then R_lostBy_p130 N N r (((gI r 4) + x1) - 1) else (R_seaOf N r (gI r 28)).bind fun p12 => (R_anHour N r p12).bind fun p13 => kb97 p13.2 x1 (x3 + 1))
def R_lostBy_p97 (N : Nat) : Nat → St → Int32 → Int32 → Option (Int32 × St)
  | 0 => fun _ _ _ => none
  | n + 1 => R_lostBy_p97b N (R_lostBy_p97 N n)
def R_lostBy_p68b (N : Nat) (kb68 : St → Int32 → Option (Int32 × St)) (r : St) (x3 : Int32) : Option (Int32 × St) :=
  (if x3 ≤ (gI r 28) then R_lostBy_p150 N r else (R_seaOf N r (gI r 28)).bind fun p16 => (R_anHour N r p16).bind fun p17 => kb68 p17.2 x3)
def R_lostBy_p68 (N : Nat) : Nat → St → Int32 → Option (Int32 × St)
  | 0 => fun _ _ => none
  | n + 1 => R_lostBy_p68b N (R_lostBy_p68 N n)
def R_lostBy_p43b (N : Nat) (kb43 : St → Int32 → Int32 → Option (Int32 × St)) (r : St) (x3 : Int32) (x4 : Int32) : Option (Int32 × St) :=
  (if (gI r 6) ≤ x4 then R_lostBy_p68 N N r x3 else (ld (gA r 3) x4).bind fun y18 => kb43 r (x3 + y18) (x4 + 1))
def R_lostBy_p43 (N : Nat) : Nat → St → Int32 → Int32 → Option (Int32 × St)
  | 0 => fun _ _ _ => none
  | n + 1 => R_lostBy_p43b N (R_lostBy_p43 N n)
def R_lostBy_p31 (N : Nat) (r : St) (x1 : Int32) (x2 : Int32) (s1 : Int32) : Option (Int32 × St) :=
  (if ¬ x2 = 0 then R_lostBy_p97 N N (sI r 29 s1) x1 0 else R_lostBy_p43 N N (sI r 29 s1) 0 0)
def R_lostBy (N : Nat) (r : St) (x1 : Int32) (x2 : Int32) : Option (Int32 × St) :=
  (R_startAsNow N r).bind fun p1 => (if ((gI p1 4) + x1) ≤ (gI p1 5) then R_lostBy_p31 N p1 x1 x2 ((gI p1 4) + x1) else R_lostBy_p31 N p1 x1 x2 (gI p1 5))
set_option maxHeartbeats 8000000 in
set_option maxRecDepth 100000 in
theorem t_R_lostBy_p184 (N d : Nat) (xs : List Int32) (c : St) (kb155 : St → Int32 → Int32 → Option (Int32 × St)) (hb155 : ∀ (r : St) (x3 : Int32) (x4 : Int32), Ok (mBig (mRoL xs) (d + 2)) (mRoL xs) 1 mK204 (fun p : Int32 × St => (some (.int p.1), HP c p.2)) (kb155 r x3 x4) 155 [some (.ref 115), none, none, some (.int x3), some (.int x4)] [] (HP c r)) (r : St) (x4 : Int32) (s0 : Int32) (s1 : Int32) : Ok (mBig (mRoL xs) (d + 2)) (mRoL xs) 1 mK204 (fun p : Int32 × St => (some (.int p.1), HP c p.2)) (R_lostBy_p184 N kb155 r x4 s0 s1) 184 [some (.ref 115), none, none, none, some (.int x4)] [.int s1, .int s0] (HP c r) := by
  unfold R_lostBy_p184
  refine Ok_blk 4 (pc2 := 155) (lo2 := [some (.ref 115), none, none, some (.int (s0 + s1)), some (.int (x4 + 1))]) (st2 := []) rfl ?_
  refine Ok_drop (lo0 := [some (.ref 115), none, none, some (.int (s0 + s1)), some (.int (x4 + 1))]) ⟨Or.inr rfl, Or.inl rfl, Or.inl rfl, Or.inr rfl, Or.inr rfl, trivial⟩ ?_
  exact hb155 r (s0 + s1) (x4 + 1)
set_option maxHeartbeats 8000000 in
set_option maxRecDepth 100000 in
theorem t_R_lostBy_p155b (N d : Nat) (xs : List Int32) (c : St) (kb155 : St → Int32 → Int32 → Option (Int32 × St)) (hb155 : ∀ (r : St) (x3 : Int32) (x4 : Int32), Ok (mBig (mRoL xs) (d + 2)) (mRoL xs) 1 mK204 (fun p : Int32 × St => (some (.int p.1), HP c p.2)) (kb155 r x3 x4) 155 [some (.ref 115), none, none, some (.int x3), some (.int x4)] [] (HP c r)) (r : St) (x3 : Int32) (x4 : Int32) : Ok (mBig (mRoL xs) (d + 2)) (mRoL xs) 1 mK204 (fun p : Int32 × St => (some (.int p.1), HP c p.2)) (R_lostBy_p155b N kb155 r x3 x4) 155 [some (.ref 115), none, none, some (.int x3), some (.int x4)] [] (HP c r) := by
  unfold R_lostBy_p155b
  refine Ok_blk 4 (pc2 := (if (gI r 7) ≤ x4 then 192 else 164)) (lo2 := [some (.ref 115), none, none, some (.int x3), some (.int x4)]) (st2 := []) rfl ?_
  refine Ok_if (fun h6 => ?_) (fun h6 => ?_)
  · refine Ok_blk 1 (pc2 := 193) (lo2 := [some (.ref 115), none, none, some (.int x3), some (.int x4)]) (st2 := [.int x3]) rfl ?_
    exact Ok_ret rfl rfl rfl
  · refine Ok_blk 4 (pc2 := 171) (lo2 := [some (.ref 115), none, none, some (.int x3), some (.int x4)]) (st2 := [.int x4, .ref 147, .int x3]) rfl ?_
    refine Ok_ld (l := (gA r 31)) rfl rfl (fun y7 hy7 => ?_)
    refine Ok_call (y := 180) (as := [.int y7]) (rest := [.int x3]) (w := fun p8 => some (.int p8)) (h1 := fun p8 => HP c r) rfl rfl (fun x hx => tm_R_stateOf N (d + 1) xs c r y7 x hx) (fun p8 hp8 => ?_)
    refine Ok_blk 2 (pc2 := (if ¬ p8 = 3 then 183 else 179)) (lo2 := [some (.ref 115), none, none, some (.int x3), some (.int x4)]) (st2 := [.int x3]) rfl ?_
    refine Ok_if (fun h9 => ?_) (fun h9 => ?_)
    · refine Ok_blk 1 (pc2 := 184) (lo2 := [some (.ref 115), none, none, some (.int x3), some (.int x4)]) (st2 := [.int 0, .int x3]) rfl ?_
      refine Ok_drop (lo0 := [some (.ref 115), none, none, none, some (.int x4)]) ⟨Or.inr rfl, Or.inl rfl, Or.inl rfl, Or.inl rfl, Or.inr rfl, trivial⟩ ?_
      exact t_R_lostBy_p184 N d xs c kb155 hb155 r x4 x3 0
    · refine Ok_blk 2 (pc2 := 184) (lo2 := [some (.ref 115), none, none, some (.int x3), some (.int x4)]) (st2 := [.int 1, .int x3]) rfl ?_
      refine Ok_drop (lo0 := [some (.ref 115), none, none, none, some (.int x4)]) ⟨Or.inr rfl, Or.inl rfl, Or.inl rfl, Or.inl rfl, Or.inr rfl, trivial⟩ ?_
      exact t_R_lostBy_p184 N d xs c kb155 hb155 r x4 x3 1
set_option maxHeartbeats 8000000 in
set_option maxRecDepth 100000 in
theorem t_R_lostBy_p155 (N d : Nat) (xs : List Int32) (c : St) : ∀ (n : Nat) (r : St) (x3 : Int32) (x4 : Int32), Ok (mBig (mRoL xs) (d + 2)) (mRoL xs) 1 mK204 (fun p : Int32 × St => (some (.int p.1), HP c p.2)) (R_lostBy_p155 N n r x3 x4) 155 [some (.ref 115), none, none, some (.int x3), some (.int x4)] [] (HP c r) := by
  intro n
  induction n with
  | zero => intro r x3 x4; exact Ok_none
  | succ n ih => intro r x3 x4; exact t_R_lostBy_p155b N d xs c (R_lostBy_p155 N n) ih r x3 x4
set_option maxHeartbeats 8000000 in
set_option maxRecDepth 100000 in
theorem t_R_lostBy_p150 (N d : Nat) (xs : List Int32) (c : St) (r : St) : Ok (mBig (mRoL xs) (d + 2)) (mRoL xs) 1 mK204 (fun p : Int32 × St => (some (.int p.1), HP c p.2)) (R_lostBy_p150 N r) 150 [some (.ref 115), none, none, none, none] [] (HP c r) := by
  unfold R_lostBy_p150
  refine Ok_blk 4 (pc2 := 155) (lo2 := [some (.ref 115), none, none, some (.int 0), some (.int 0)]) (st2 := []) rfl ?_
  refine Ok_drop (lo0 := [some (.ref 115), none, none, some (.int 0), some (.int 0)]) ⟨Or.inr rfl, Or.inl rfl, Or.inl rfl, Or.inr rfl, Or.inr rfl, trivial⟩ ?_
  exact t_R_lostBy_p155 N d xs c N r 0 0
set_option maxHeartbeats 8000000 in
set_option maxRecDepth 100000 in
theorem t_R_lostBy_p130b (N d : Nat) (xs : List Int32) (c : St) (kb130 : St → Int32 → Option (Int32 × St)) (hb130 : ∀ (r : St) (x3 : Int32), Ok (mBig (mRoL xs) (d + 2)) (mRoL xs) 1 mK204 (fun p : Int32 × St => (some (.int p.1), HP c p.2)) (kb130 r x3) 130 [some (.ref 115), none, none, some (.int x3), none] [] (HP c r)) (r : St) (x3 : Int32) : Ok (mBig (mRoL xs) (d + 2)) (mRoL xs) 1 mK204 (fun p : Int32 × St => (some (.int p.1), HP c p.2)) (R_lostBy_p130b N kb130 r x3) 130 [some (.ref 115), none, none, some (.int x3), none] [] (HP c r) := by
  unfold R_lostBy_p130b
  refine Ok_blk 2 (pc2 := (if x3 < 0 then 150 else 134)) (lo2 := [some (.ref 115), none, none, some (.int x3), none]) (st2 := []) rfl ?_
  refine Ok_if (fun h5 => ?_) (fun h5 => ?_)
  · refine Ok_drop (lo0 := [some (.ref 115), none, none, none, none]) ⟨Or.inr rfl, Or.inl rfl, Or.inl rfl, Or.inl rfl, Or.inl rfl, trivial⟩ ?_
    exact t_R_lostBy_p150 N d xs c r
  · refine Ok_blk 3 (pc2 := 137) (lo2 := [some (.ref 115), none, none, some (.int x3), none]) (st2 := [.int x3, .ref 115, .ref 115]) rfl ?_
    refine Ok_call (y := 174) (as := [.ref 115, .int x3]) (rest := [.ref 115]) (w := fun p10 => some (.int p10)) (h1 := fun p10 => HP c r) rfl rfl (fun x hx => tm_R_seaOf N (d + 1) xs c r x3 x hx) (fun p10 hp10 => ?_)
    refine Ok_call (y := 178) (as := [.ref 115, .int p10]) (rest := []) (w := fun p11 => some (.int p11.1)) (h1 := fun p11 => HP c p11.2) rfl rfl (fun x hx => tm_R_anHour N d xs c r p10 x hx) (fun p11 hp11 => ?_)
    refine Ok_blk 3 (pc2 := 130) (lo2 := [some (.ref 115), none, none, some (.int (x3 + (-1))), none]) (st2 := []) rfl ?_
    refine Ok_drop (lo0 := [some (.ref 115), none, none, some (.int (x3 + (-1))), none]) ⟨Or.inr rfl, Or.inl rfl, Or.inl rfl, Or.inr rfl, Or.inl rfl, trivial⟩ ?_
    exact hb130 p11.2 (x3 + (-1))
set_option maxHeartbeats 8000000 in
set_option maxRecDepth 100000 in
theorem t_R_lostBy_p130 (N d : Nat) (xs : List Int32) (c : St) : ∀ (n : Nat) (r : St) (x3 : Int32), Ok (mBig (mRoL xs) (d + 2)) (mRoL xs) 1 mK204 (fun p : Int32 × St => (some (.int p.1), HP c p.2)) (R_lostBy_p130 N n r x3) 130 [some (.ref 115), none, none, some (.int x3), none] [] (HP c r) := by
  intro n
  induction n with
  | zero => intro r x3; exact Ok_none
  | succ n ih => intro r x3; exact t_R_lostBy_p130b N d xs c (R_lostBy_p130 N n) ih r x3
set_option maxHeartbeats 8000000 in
set_option maxRecDepth 100000 in
theorem t_R_lostBy_p97b (N d : Nat) (xs : List Int32) (c : St) (kb97 : St → Int32 → Int32 → Option (Int32 × St)) (hb97 : ∀ (r : St) (x1 : Int32) (x3 : Int32), Ok (mBig (mRoL xs) (d + 2)) (mRoL xs) 1 mK204 (fun p : Int32 × St => (some (.int p.1), HP c p.2)) (kb97 r x1 x3) 97 [some (.ref 115), some (.int x1), none, some (.int x3), none] [] (HP c r)) (r : St) (x1 : Int32) (x3 : Int32) : Ok (mBig (mRoL xs) (d + 2)) (mRoL xs) 1 mK204 (fun p : Int32 × St => (some (.int p.1), HP c p.2)) (R_lostBy_p97b N kb97 r x1 x3) 97 [some (.ref 115), some (.int x1), none, some (.int x3), none] [] (HP c r) := by
  unfold R_lostBy_p97b
  refine Ok_blk 3 (pc2 := (if x1 ≤ x3 then 121 else 102)) (lo2 := [some (.ref 115), some (.int x1), none, some (.int x3), none]) (st2 := []) rfl ?_
  refine Ok_if (fun h4 => ?_) (fun h4 => ?_)
  · refine Ok_blk 7 (pc2 := 130) (lo2 := [some (.ref 115), some (.int x1), none, some (.int (((gI r 4) + x1) - 1)), none]) (st2 := []) rfl ?_
    refine Ok_drop (lo0 := [some (.ref 115), none, none, some (.int (((gI r 4) + x1) - 1)), none]) ⟨Or.inr rfl, Or.inl rfl, Or.inl rfl, Or.inr rfl, Or.inl rfl, trivial⟩ ?_
    exact t_R_lostBy_p130 N d xs c N r (((gI r 4) + x1) - 1)
  · refine Ok_blk 4 (pc2 := 108) (lo2 := [some (.ref 115), some (.int x1), none, some (.int x3), none]) (st2 := [.int (gI r 28), .ref 115, .ref 115]) rfl ?_
    refine Ok_call (y := 174) (as := [.ref 115, .int (gI r 28)]) (rest := [.ref 115]) (w := fun p12 => some (.int p12)) (h1 := fun p12 => HP c r) rfl rfl (fun x hx => tm_R_seaOf N (d + 1) xs c r (gI r 28) x hx) (fun p12 hp12 => ?_)
    refine Ok_call (y := 178) (as := [.ref 115, .int p12]) (rest := []) (w := fun p13 => some (.int p13.1)) (h1 := fun p13 => HP c p13.2) rfl rfl (fun x hx => tm_R_anHour N d xs c r p12 x hx) (fun p13 hp13 => ?_)
    refine Ok_blk 3 (pc2 := 97) (lo2 := [some (.ref 115), some (.int x1), none, some (.int (x3 + 1)), none]) (st2 := []) rfl ?_
    refine Ok_drop (lo0 := [some (.ref 115), some (.int x1), none, some (.int (x3 + 1)), none]) ⟨Or.inr rfl, Or.inr rfl, Or.inl rfl, Or.inr rfl, Or.inl rfl, trivial⟩ ?_
    exact hb97 p13.2 x1 (x3 + 1)
set_option maxHeartbeats 8000000 in
set_option maxRecDepth 100000 in
theorem t_R_lostBy_p97 (N d : Nat) (xs : List Int32) (c : St) : ∀ (n : Nat) (r : St) (x1 : Int32) (x3 : Int32), Ok (mBig (mRoL xs) (d + 2)) (mRoL xs) 1 mK204 (fun p : Int32 × St => (some (.int p.1), HP c p.2)) (R_lostBy_p97 N n r x1 x3) 97 [some (.ref 115), some (.int x1), none, some (.int x3), none] [] (HP c r) := by
  intro n
  induction n with
  | zero => intro r x1 x3; exact Ok_none
  | succ n ih => intro r x1 x3; exact t_R_lostBy_p97b N d xs c (R_lostBy_p97 N n) ih r x1 x3
set_option maxHeartbeats 8000000 in
set_option maxRecDepth 100000 in
theorem t_R_lostBy_p68b (N d : Nat) (xs : List Int32) (c : St) (kb68 : St → Int32 → Option (Int32 × St)) (hb68 : ∀ (r : St) (x3 : Int32), Ok (mBig (mRoL xs) (d + 2)) (mRoL xs) 1 mK204 (fun p : Int32 × St => (some (.int p.1), HP c p.2)) (kb68 r x3) 68 [some (.ref 115), none, none, some (.int x3), none] [] (HP c r)) (r : St) (x3 : Int32) : Ok (mBig (mRoL xs) (d + 2)) (mRoL xs) 1 mK204 (fun p : Int32 × St => (some (.int p.1), HP c p.2)) (R_lostBy_p68b N kb68 r x3) 68 [some (.ref 115), none, none, some (.int x3), none] [] (HP c r) := by
  unfold R_lostBy_p68b
  refine Ok_blk 4 (pc2 := (if x3 ≤ (gI r 28) then 92 else 76)) (lo2 := [some (.ref 115), none, none, some (.int x3), none]) (st2 := []) rfl ?_
  refine Ok_if (fun h15 => ?_) (fun h15 => ?_)
  · refine Ok_blk 1 (pc2 := 150) (lo2 := [some (.ref 115), none, none, some (.int x3), none]) (st2 := []) rfl ?_
    refine Ok_drop (lo0 := [some (.ref 115), none, none, none, none]) ⟨Or.inr rfl, Or.inl rfl, Or.inl rfl, Or.inl rfl, Or.inl rfl, trivial⟩ ?_
    exact t_R_lostBy_p150 N d xs c r
  · refine Ok_blk 4 (pc2 := 82) (lo2 := [some (.ref 115), none, none, some (.int x3), none]) (st2 := [.int (gI r 28), .ref 115, .ref 115]) rfl ?_
    refine Ok_call (y := 174) (as := [.ref 115, .int (gI r 28)]) (rest := [.ref 115]) (w := fun p16 => some (.int p16)) (h1 := fun p16 => HP c r) rfl rfl (fun x hx => tm_R_seaOf N (d + 1) xs c r (gI r 28) x hx) (fun p16 hp16 => ?_)
    refine Ok_call (y := 178) (as := [.ref 115, .int p16]) (rest := []) (w := fun p17 => some (.int p17.1)) (h1 := fun p17 => HP c p17.2) rfl rfl (fun x hx => tm_R_anHour N d xs c r p16 x hx) (fun p17 hp17 => ?_)
    refine Ok_blk 2 (pc2 := 68) (lo2 := [some (.ref 115), none, none, some (.int x3), none]) (st2 := []) rfl ?_
    refine Ok_drop (lo0 := [some (.ref 115), none, none, some (.int x3), none]) ⟨Or.inr rfl, Or.inl rfl, Or.inl rfl, Or.inr rfl, Or.inl rfl, trivial⟩ ?_
    exact hb68 p17.2 x3
set_option maxHeartbeats 8000000 in
set_option maxRecDepth 100000 in
theorem t_R_lostBy_p68 (N d : Nat) (xs : List Int32) (c : St) : ∀ (n : Nat) (r : St) (x3 : Int32), Ok (mBig (mRoL xs) (d + 2)) (mRoL xs) 1 mK204 (fun p : Int32 × St => (some (.int p.1), HP c p.2)) (R_lostBy_p68 N n r x3) 68 [some (.ref 115), none, none, some (.int x3), none] [] (HP c r) := by
  intro n
  induction n with
  | zero => intro r x3; exact Ok_none
  | succ n ih => intro r x3; exact t_R_lostBy_p68b N d xs c (R_lostBy_p68 N n) ih r x3
set_option maxHeartbeats 8000000 in
set_option maxRecDepth 100000 in
theorem t_R_lostBy_p43b (N d : Nat) (xs : List Int32) (c : St) (kb43 : St → Int32 → Int32 → Option (Int32 × St)) (hb43 : ∀ (r : St) (x3 : Int32) (x4 : Int32), Ok (mBig (mRoL xs) (d + 2)) (mRoL xs) 1 mK204 (fun p : Int32 × St => (some (.int p.1), HP c p.2)) (kb43 r x3 x4) 43 [some (.ref 115), none, none, some (.int x3), some (.int x4)] [] (HP c r)) (r : St) (x3 : Int32) (x4 : Int32) : Ok (mBig (mRoL xs) (d + 2)) (mRoL xs) 1 mK204 (fun p : Int32 × St => (some (.int p.1), HP c p.2)) (R_lostBy_p43b N kb43 r x3 x4) 43 [some (.ref 115), none, none, some (.int x3), some (.int x4)] [] (HP c r) := by
  unfold R_lostBy_p43b
  refine Ok_blk 4 (pc2 := (if (gI r 6) ≤ x4 then 68 else 52)) (lo2 := [some (.ref 115), none, none, some (.int x3), some (.int x4)]) (st2 := []) rfl ?_
  refine Ok_if (fun h14 => ?_) (fun h14 => ?_)
  · refine Ok_drop (lo0 := [some (.ref 115), none, none, some (.int x3), none]) ⟨Or.inr rfl, Or.inl rfl, Or.inl rfl, Or.inr rfl, Or.inl rfl, trivial⟩ ?_
    exact t_R_lostBy_p68 N d xs c N r x3
  · refine Ok_blk 4 (pc2 := 59) (lo2 := [some (.ref 115), none, none, some (.int x3), some (.int x4)]) (st2 := [.int x4, .ref 119, .int x3]) rfl ?_
    refine Ok_ld (l := (gA r 3)) rfl rfl (fun y18 hy18 => ?_)
    refine Ok_blk 4 (pc2 := 43) (lo2 := [some (.ref 115), none, none, some (.int (x3 + y18)), some (.int (x4 + 1))]) (st2 := []) rfl ?_
    refine Ok_drop (lo0 := [some (.ref 115), none, none, some (.int (x3 + y18)), some (.int (x4 + 1))]) ⟨Or.inr rfl, Or.inl rfl, Or.inl rfl, Or.inr rfl, Or.inr rfl, trivial⟩ ?_
    exact hb43 r (x3 + y18) (x4 + 1)
set_option maxHeartbeats 8000000 in
set_option maxRecDepth 100000 in
theorem t_R_lostBy_p43 (N d : Nat) (xs : List Int32) (c : St) : ∀ (n : Nat) (r : St) (x3 : Int32) (x4 : Int32), Ok (mBig (mRoL xs) (d + 2)) (mRoL xs) 1 mK204 (fun p : Int32 × St => (some (.int p.1), HP c p.2)) (R_lostBy_p43 N n r x3 x4) 43 [some (.ref 115), none, none, some (.int x3), some (.int x4)] [] (HP c r) := by
  intro n
  induction n with
  | zero => intro r x3 x4; exact Ok_none
  | succ n ih => intro r x3 x4; exact t_R_lostBy_p43b N d xs c (R_lostBy_p43 N n) ih r x3 x4
set_option maxHeartbeats 8000000 in
set_option maxRecDepth 100000 in
theorem t_R_lostBy_p31 (N d : Nat) (xs : List Int32) (c : St) (r : St) (x1 : Int32) (x2 : Int32) (s1 : Int32) : Ok (mBig (mRoL xs) (d + 2)) (mRoL xs) 1 mK204 (fun p : Int32 × St => (some (.int p.1), HP c p.2)) (R_lostBy_p31 N r x1 x2 s1) 31 [some (.ref 115), some (.int x1), some (.int x2), none, none] [.int s1, .ref 115] (HP c r) := by
  unfold R_lostBy_p31
  refine Ok_heap 1 (pc2 := 34) (lo2 := [some (.ref 115), some (.int x1), some (.int x2), none, none]) (st2 := []) (h2 := HP c (sI r 29 s1)) rfl (st_115_61 _ _ _) ?_
  refine Ok_blk 2 (pc2 := (if ¬ x2 = 0 then 95 else 38)) (lo2 := [some (.ref 115), some (.int x1), some (.int x2), none, none]) (st2 := []) rfl ?_
  refine Ok_if (fun h3 => ?_) (fun h3 => ?_)
  · refine Ok_blk 2 (pc2 := 97) (lo2 := [some (.ref 115), some (.int x1), some (.int x2), some (.int 0), none]) (st2 := []) rfl ?_
    refine Ok_drop (lo0 := [some (.ref 115), some (.int x1), none, some (.int 0), none]) ⟨Or.inr rfl, Or.inr rfl, Or.inl rfl, Or.inr rfl, Or.inl rfl, trivial⟩ ?_
    exact t_R_lostBy_p97 N d xs c N (sI r 29 s1) x1 0
  · refine Ok_blk 4 (pc2 := 43) (lo2 := [some (.ref 115), some (.int x1), some (.int x2), some (.int 0), some (.int 0)]) (st2 := []) rfl ?_
    refine Ok_drop (lo0 := [some (.ref 115), none, none, some (.int 0), some (.int 0)]) ⟨Or.inr rfl, Or.inl rfl, Or.inl rfl, Or.inr rfl, Or.inr rfl, trivial⟩ ?_
    exact t_R_lostBy_p43 N d xs c N (sI r 29 s1) 0 0
set_option maxHeartbeats 8000000 in
set_option maxRecDepth 100000 in
theorem t_R_lostBy (N d : Nat) (xs : List Int32) (c : St) (r : St) (x1 : Int32) (x2 : Int32) : Ok (mBig (mRoL xs) (d + 2)) (mRoL xs) 1 mK204 (fun p : Int32 × St => (some (.int p.1), HP c p.2)) (R_lostBy N r x1 x2) 0 [some (.ref 115), some (.int x1), some (.int x2), none, none] [] (HP c r) := by
  unfold R_lostBy
  refine Ok_blk 1 (pc2 := 1) (lo2 := [some (.ref 115), some (.int x1), some (.int x2), none, none]) (st2 := [.ref 115]) rfl ?_
  refine Ok_call (y := 176) (as := [.ref 115]) (rest := []) (w := fun p1 => none) (h1 := fun p1 => HP c p1) rfl rfl (fun x hx => tm_R_startAsNow N (d + 1) xs c r x hx) (fun p1 hp1 => ?_)
  refine Ok_blk 8 (pc2 := (if ((gI p1 4) + x1) ≤ (gI p1 5) then 25 else 18)) (lo2 := [some (.ref 115), some (.int x1), some (.int x2), none, none]) (st2 := [.ref 115]) rfl ?_
  refine Ok_if (fun h2 => ?_) (fun h2 => ?_)
  · refine Ok_blk 4 (pc2 := 31) (lo2 := [some (.ref 115), some (.int x1), some (.int x2), none, none]) (st2 := [.int ((gI p1 4) + x1), .ref 115]) rfl ?_
    refine Ok_drop (lo0 := [some (.ref 115), some (.int x1), some (.int x2), none, none]) ⟨Or.inr rfl, Or.inr rfl, Or.inr rfl, Or.inl rfl, Or.inl rfl, trivial⟩ ?_
    exact t_R_lostBy_p31 N d xs c p1 x1 x2 ((gI p1 4) + x1)
  · refine Ok_blk 3 (pc2 := 31) (lo2 := [some (.ref 115), some (.int x1), some (.int x2), none, none]) (st2 := [.int (gI p1 5), .ref 115]) rfl ?_
    refine Ok_drop (lo0 := [some (.ref 115), some (.int x1), some (.int x2), none, none]) ⟨Or.inr rfl, Or.inr rfl, Or.inr rfl, Or.inl rfl, Or.inl rfl, trivial⟩ ?_
    exact t_R_lostBy_p31 N d xs c p1 x1 x2 (gI p1 5)
set_option maxHeartbeats 8000000 in
set_option maxRecDepth 100000 in
theorem tm_R_lostBy (N d : Nat) (xs : List Int32) (c r : St) (a1 : Int32) (a2 : Int32) (p : Int32 × St) (hp : R_lostBy N r a1 a2 = some p) : mBig (mRoL xs) (d + 3) 204 [.ref 115, .int a1, .int a2] (HP c r) (some (.int p.1)) (HP c p.2) 0 0 := mBig_of (by decide) rfl rfl rfl rfl (t_R_lostBy N d xs c r a1 a2 p hp)
/-! ColdHoldsModel.lost(II)I, from (('r', 115), 'i', 'i') -/
def R_lost_p29 (N : Nat) (r : St) : Option (Int32 × St) :=
  some ((-102), r)
def R_lost_p20 (N : Nat) (r : St) (x1 : Int32) (x2 : Int32) : Option (Int32 × St) :=
  (R_lostBy N r x1 x2).bind fun p4 => some (p4.1, p4.2)
def R_lost (N : Nat) (r : St) (x1 : Int32) (x2 : Int32) : Option (Int32 × St) :=
  (if x1 < 0 then R_lost_p29 N r else (if 300 < x1 then R_lost_p29 N r else (if x2 = 0 then R_lost_p20 N r x1 x2 else (if ¬ x2 = 1 then R_lost_p29 N r else R_lost_p20 N r x1 x2))))
set_option maxHeartbeats 8000000 in
set_option maxRecDepth 100000 in
theorem t_R_lost_p29 (N d : Nat) (xs : List Int32) (c : St) (r : St) : Ok (mBig (mRoL xs) (d + 3)) (mRoL xs) 1 mK205 (fun p : Int32 × St => (some (.int p.1), HP c p.2)) (R_lost_p29 N r) 29 [none, none, none] [] (HP c r) := by
  unfold R_lost_p29
  refine Ok_blk 1 (pc2 := 31) (lo2 := [none, none, none]) (st2 := [.int (-102)]) rfl ?_
  exact Ok_ret rfl rfl rfl
set_option maxHeartbeats 8000000 in
set_option maxRecDepth 100000 in
theorem t_R_lost_p20 (N d : Nat) (xs : List Int32) (c : St) (r : St) (x1 : Int32) (x2 : Int32) : Ok (mBig (mRoL xs) (d + 3)) (mRoL xs) 1 mK205 (fun p : Int32 × St => (some (.int p.1), HP c p.2)) (R_lost_p20 N r x1 x2) 20 [some (.ref 115), some (.int x1), some (.int x2)] [] (HP c r) := by
  unfold R_lost_p20
  refine Ok_blk 3 (pc2 := 23) (lo2 := [some (.ref 115), some (.int x1), some (.int x2)]) (st2 := [.int x2, .int x1, .ref 115]) rfl ?_
  refine Ok_call (y := 204) (as := [.ref 115, .int x1, .int x2]) (rest := []) (w := fun p4 => some (.int p4.1)) (h1 := fun p4 => HP c p4.2) rfl rfl (fun x hx => tm_R_lostBy N d xs c r x1 x2 x hx) (fun p4 hp4 => ?_)
  refine Ok_blk 1 (pc2 := 31) (lo2 := [some (.ref 115), some (.int x1), some (.int x2)]) (st2 := [.int p4.1]) rfl ?_
  exact Ok_ret rfl rfl rfl
set_option maxHeartbeats 8000000 in
set_option maxRecDepth 100000 in
theorem t_R_lost (N d : Nat) (xs : List Int32) (c : St) (r : St) (x1 : Int32) (x2 : Int32) : Ok (mBig (mRoL xs) (d + 3)) (mRoL xs) 1 mK205 (fun p : Int32 × St => (some (.int p.1), HP c p.2)) (R_lost N r x1 x2) 0 [some (.ref 115), some (.int x1), some (.int x2)] [] (HP c r) := by
  unfold R_lost
  refine Ok_blk 2 (pc2 := (if x1 < 0 then 29 else 4)) (lo2 := [some (.ref 115), some (.int x1), some (.int x2)]) (st2 := []) rfl ?_
  refine Ok_if (fun h1 => ?_) (fun h1 => ?_)
  · refine Ok_drop (lo0 := [none, none, none]) ⟨Or.inl rfl, Or.inl rfl, Or.inl rfl, trivial⟩ ?_
    exact t_R_lost_p29 N d xs c r
  · refine Ok_blk 3 (pc2 := (if 300 < x1 then 29 else 11)) (lo2 := [some (.ref 115), some (.int x1), some (.int x2)]) (st2 := []) rfl ?_
    refine Ok_if (fun h2 => ?_) (fun h2 => ?_)
    · refine Ok_drop (lo0 := [none, none, none]) ⟨Or.inl rfl, Or.inl rfl, Or.inl rfl, trivial⟩ ?_
      exact t_R_lost_p29 N d xs c r
    · refine Ok_blk 2 (pc2 := (if x2 = 0 then 20 else 15)) (lo2 := [some (.ref 115), some (.int x1), some (.int x2)]) (st2 := []) rfl ?_
      refine Ok_if (fun h3 => ?_) (fun h3 => ?_)
      · refine Ok_drop (lo0 := [some (.ref 115), some (.int x1), some (.int x2)]) ⟨Or.inr rfl, Or.inr rfl, Or.inr rfl, trivial⟩ ?_
        exact t_R_lost_p20 N d xs c r x1 x2
      · refine Ok_blk 3 (pc2 := (if ¬ x2 = 1 then 29 else 20)) (lo2 := [some (.ref 115), some (.int x1), some (.int x2)]) (st2 := []) rfl ?_
        refine Ok_if (fun h5 => ?_) (fun h5 => ?_)
        · refine Ok_drop (lo0 := [none, none, none]) ⟨Or.inl rfl, Or.inl rfl, Or.inl rfl, trivial⟩ ?_
          exact t_R_lost_p29 N d xs c r
        · refine Ok_drop (lo0 := [some (.ref 115), some (.int x1), some (.int x2)]) ⟨Or.inr rfl, Or.inr rfl, Or.inr rfl, trivial⟩ ?_
          exact t_R_lost_p20 N d xs c r x1 x2
set_option maxHeartbeats 8000000 in
set_option maxRecDepth 100000 in
theorem tm_R_lost (N d : Nat) (xs : List Int32) (c r : St) (a1 : Int32) (a2 : Int32) (p : Int32 × St) (hp : R_lost N r a1 a2 = some p) : mBig (mRoL xs) (d + 4) 205 [.ref 115, .int a1, .int a2] (HP c r) (some (.int p.1)) (HP c p.2) 0 0 := mBig_of (by decide) rfl rfl rfl rfl (t_R_lost N d xs c r a1 a2 p hp)
/-! ColdHolds.way(I)I, from (('r', 0), 'i') -/
def C_way (N : Nat) (c : St) (x1 : Int32) : Option (Int32 × St) :=
  (C_within N x1 0 300).bind fun p1 => (if ¬ p1 = 0 then (C_lostGoing N c x1 1).bind fun p3 => (C_lostGoing N p3.2 x1 0).bind fun p4 => (if p4.1 ≤ p3.1 then some (0, p4.2) else some (1, p4.2)) else some ((-102), c))
set_option maxHeartbeats 8000000 in
set_option maxRecDepth 100000 in
theorem t_C_way (N d : Nat) (xs : List Int32) (r : St) (c : St) (x1 : Int32) : Ok (mBig (mRoL xs) (d + 5)) (mRoL xs) 1 mK130 (fun p : Int32 × St => (some (.int p.1), HP p.2 r)) (C_way N c x1) 0 [some (.ref 0), some (.int x1)] [] (HP c r) := by
  unfold C_way
  refine Ok_blk 3 (pc2 := 5) (lo2 := [some (.ref 0), some (.int x1)]) (st2 := [.int 300, .int 0, .int x1]) rfl ?_
  refine Ok_call (y := 102) (as := [.int x1, .int 0, .int 300]) (rest := []) (w := fun p1 => some (.int p1)) (h1 := fun p1 => HP c r) rfl rfl (fun x hx => tm_C_within N (d + 4) xs c r x1 0 300 x hx) (fun p1 hp1 => ?_)
  refine Ok_blk 1 (pc2 := (if ¬ p1 = 0 then 14 else 11)) (lo2 := [some (.ref 0), some (.int x1)]) (st2 := []) rfl ?_
  refine Ok_if (fun h2 => ?_) (fun h2 => ?_)
  · refine Ok_blk 3 (pc2 := 17) (lo2 := [some (.ref 0), some (.int x1)]) (st2 := [.int 1, .int x1, .ref 0]) rfl ?_
    refine Ok_call (y := 131) (as := [.ref 0, .int x1, .int 1]) (rest := []) (w := fun p3 => some (.int p3.1)) (h1 := fun p3 => HP p3.2 r) rfl rfl (fun x hx => tm_C_lostGoing N d xs c r x1 1 x hx) (fun p3 hp3 => ?_)
    refine Ok_blk 3 (pc2 := 23) (lo2 := [some (.ref 0), some (.int x1)]) (st2 := [.int 0, .int x1, .ref 0, .int p3.1]) rfl ?_
    refine Ok_call (y := 131) (as := [.ref 0, .int x1, .int 0]) (rest := [.int p3.1]) (w := fun p4 => some (.int p4.1)) (h1 := fun p4 => HP p4.2 r) rfl rfl (fun x hx => tm_C_lostGoing N d xs p3.2 r x1 0 x hx) (fun p4 hp4 => ?_)
    refine Ok_blk 1 (pc2 := (if p4.1 ≤ p3.1 then 33 else 29)) (lo2 := [some (.ref 0), some (.int x1)]) (st2 := []) rfl ?_
    refine Ok_if (fun h5 => ?_) (fun h5 => ?_)
    · refine Ok_blk 1 (pc2 := 34) (lo2 := [some (.ref 0), some (.int x1)]) (st2 := [.int 0]) rfl ?_
      exact Ok_ret rfl rfl rfl
    · refine Ok_blk 2 (pc2 := 34) (lo2 := [some (.ref 0), some (.int x1)]) (st2 := [.int 1]) rfl ?_
      exact Ok_ret rfl rfl rfl
  · refine Ok_blk 1 (pc2 := 13) (lo2 := [some (.ref 0), some (.int x1)]) (st2 := [.int (-102)]) rfl ?_
    exact Ok_ret rfl rfl rfl
set_option maxHeartbeats 8000000 in
set_option maxRecDepth 100000 in
theorem tm_C_way (N d : Nat) (xs : List Int32) (c r : St) (a1 : Int32) (p : Int32 × St) (hp : C_way N c a1 = some p) : mBig (mRoL xs) (d + 6) 130 [.ref 0, .int a1] (HP c r) (some (.int p.1)) (HP p.2 r) 0 0 := mBig_of (by decide) rfl rfl rfl rfl (t_C_way N d xs r c a1 p hp)
/-! ColdHoldsModel.way(I)I, from (('r', 115), 'i') -/
def R_way_p11 (N : Nat) (r : St) : Option (Int32 × St) :=
  some ((-102), r)
def R_way (N : Nat) (r : St) (x1 : Int32) : Option (Int32 × St) :=
  (if x1 < 0 then R_way_p11 N r else (if x1 ≤ 300 then (R_lostBy N r x1 0).bind fun p3 => (R_lostBy N p3.2 x1 1).bind fun p4 => (if p3.1 ≤ p4.1 then some (0, p4.2) else some (1, p4.2)) else R_way_p11 N r))
set_option maxHeartbeats 8000000 in
set_option maxRecDepth 100000 in
theorem t_R_way_p11 (N d : Nat) (xs : List Int32) (c : St) (r : St) : Ok (mBig (mRoL xs) (d + 3)) (mRoL xs) 1 mK206 (fun p : Int32 × St => (some (.int p.1), HP c p.2)) (R_way_p11 N r) 11 [none, none, none] [] (HP c r) := by
  unfold R_way_p11
  refine Ok_blk 1 (pc2 := 13) (lo2 := [none, none, none]) (st2 := [.int (-102)]) rfl ?_
  exact Ok_ret rfl rfl rfl
set_option maxHeartbeats 8000000 in
set_option maxRecDepth 100000 in
theorem t_R_way (N d : Nat) (xs : List Int32) (c : St) (r : St) (x1 : Int32) : Ok (mBig (mRoL xs) (d + 3)) (mRoL xs) 1 mK206 (fun p : Int32 × St => (some (.int p.1), HP c p.2)) (R_way N r x1) 0 [some (.ref 115), some (.int x1), none] [] (HP c r) := by
  unfold R_way
  refine Ok_blk 2 (pc2 := (if x1 < 0 then 11 else 4)) (lo2 := [some (.ref 115), some (.int x1), none]) (st2 := []) rfl ?_
  refine Ok_if (fun h1 => ?_) (fun h1 => ?_)
  · refine Ok_drop (lo0 := [none, none, none]) ⟨Or.inl rfl, Or.inl rfl, Or.inl rfl, trivial⟩ ?_
    exact t_R_way_p11 N d xs c r
  · refine Ok_blk 3 (pc2 := (if x1 ≤ 300 then 14 else 11)) (lo2 := [some (.ref 115), some (.int x1), none]) (st2 := []) rfl ?_
    refine Ok_if (fun h2 => ?_) (fun h2 => ?_)
    · refine Ok_blk 3 (pc2 := 17) (lo2 := [some (.ref 115), some (.int x1), none]) (st2 := [.int 0, .int x1, .ref 115]) rfl ?_
      refine Ok_call (y := 204) (as := [.ref 115, .int x1, .int 0]) (rest := []) (w := fun p3 => some (.int p3.1)) (h1 := fun p3 => HP c p3.2) rfl rfl (fun x hx => tm_R_lostBy N d xs c r x1 0 x hx) (fun p3 hp3 => ?_)
      refine Ok_blk 4 (pc2 := 24) (lo2 := [some (.ref 115), some (.int x1), some (.int p3.1)]) (st2 := [.int 1, .int x1, .ref 115]) rfl ?_
      refine Ok_call (y := 204) (as := [.ref 115, .int x1, .int 1]) (rest := []) (w := fun p4 => some (.int p4.1)) (h1 := fun p4 => HP c p4.2) rfl rfl (fun x hx => tm_R_lostBy N d xs c p3.2 x1 1 x hx) (fun p4 hp4 => ?_)
      refine Ok_blk 2 (pc2 := (if p3.1 ≤ p4.1 then 35 else 31)) (lo2 := [some (.ref 115), some (.int x1), some (.int p3.1)]) (st2 := []) rfl ?_
      refine Ok_if (fun h5 => ?_) (fun h5 => ?_)
      · refine Ok_blk 1 (pc2 := 36) (lo2 := [some (.ref 115), some (.int x1), some (.int p3.1)]) (st2 := [.int 0]) rfl ?_
        exact Ok_ret rfl rfl rfl
      · refine Ok_blk 2 (pc2 := 36) (lo2 := [some (.ref 115), some (.int x1), some (.int p3.1)]) (st2 := [.int 1]) rfl ?_
        exact Ok_ret rfl rfl rfl
    · refine Ok_drop (lo0 := [none, none, none]) ⟨Or.inl rfl, Or.inl rfl, Or.inl rfl, trivial⟩ ?_
      exact t_R_way_p11 N d xs c r
set_option maxHeartbeats 8000000 in
set_option maxRecDepth 100000 in
theorem tm_R_way (N d : Nat) (xs : List Int32) (c r : St) (a1 : Int32) (p : Int32 × St) (hp : R_way N r a1 = some p) : mBig (mRoL xs) (d + 4) 206 [.ref 115, .int a1] (HP c r) (some (.int p.1)) (HP c p.2) 0 0 := mBig_of (by decide) rfl rfl rfl rfl (t_R_way N d xs c r a1 p hp)
/-! ColdHolds$Readings.add(II)I, from (('r', 59), 'i', 'i') -/
def Readings_add (N : Nat) (c : St) (x1 : Int32) (x2 : Int32) : Option (Int32 × St) :=
  (if (gI c 15) < 24 then (sto (gA c 49) (gI c 15) x1).bind fun w2 => (sto (gA (sA c 49 w2) 50) (gI (sA c 49 w2) 15) x2).bind fun w3 => some (gI (sI (sA (sA c 49 w2) 50 w3) 15 ((gI (sA (sA c 49 w2) 50 w3) 15) + 1)) 15, sI (sA (sA c 49 w2) 50 w3) 15 ((gI (sA (sA c 49 w2) 50 w3) 15) + 1)) else some ((-104), c))
set_option maxHeartbeats 8000000 in
set_option maxRecDepth 100000 in
theorem t_Readings_add (N d : Nat) (xs : List Int32) (r : St) (c : St) (x1 : Int32) (x2 : Int32) : Ok (mBig (mRoL xs) (d)) (mRoL xs) 1 mK60 (fun p : Int32 × St => (some (.int p.1), HP p.2 r)) (Readings_add N c x1 x2) 0 [some (.ref 59), some (.int x1), some (.int x2)] [] (HP c r) := by
  unfold Readings_add
  refine Ok_blk 4 (pc2 := (if (gI c 15) < 24 then 12 else 9)) (lo2 := [some (.ref 59), some (.int x1), some (.int x2)]) (st2 := []) rfl ?_
  refine Ok_if (fun h1 => ?_) (fun h1 => ?_)
  · refine Ok_blk 5 (pc2 := 21) (lo2 := [some (.ref 59), some (.int x1), some (.int x2)]) (st2 := [.int x1, .int (gI c 15), .ref 60]) rfl ?_
    refine Ok_st (l := (gA c 49)) (hn := fun l' => HP (sA c 49 l') r) rfl rfl (fun l' => sa_60 _ _ l') (fun w2 hw2 => ?_)
    refine Ok_blk 5 (pc2 := 31) (lo2 := [some (.ref 59), some (.int x1), some (.int x2)]) (st2 := [.int x2, .int (gI (sA c 49 w2) 15), .ref 61]) rfl ?_
    refine Ok_st (l := (gA (sA c 49 w2) 50)) (hn := fun l' => HP (sA (sA c 49 w2) 50 l') r) rfl rfl (fun l' => sa_61 _ _ l') (fun w3 hw3 => ?_)
    refine Ok_heap 6 (pc2 := 42) (lo2 := [some (.ref 59), some (.int x1), some (.int x2)]) (st2 := []) (h2 := HP (sI (sA (sA c 49 w2) 50 w3) 15 ((gI (sA (sA c 49 w2) 50 w3) 15) + 1)) r) rfl (st_59_0 _ _ _) ?_
    refine Ok_blk 2 (pc2 := 46) (lo2 := [some (.ref 59), some (.int x1), some (.int x2)]) (st2 := [.int (gI (sI (sA (sA c 49 w2) 50 w3) 15 ((gI (sA (sA c 49 w2) 50 w3) 15) + 1)) 15)]) rfl ?_
    exact Ok_ret rfl rfl rfl
  · refine Ok_blk 1 (pc2 := 11) (lo2 := [some (.ref 59), some (.int x1), some (.int x2)]) (st2 := [.int (-104)]) rfl ?_
    exact Ok_ret rfl rfl rfl
set_option maxHeartbeats 8000000 in
set_option maxRecDepth 100000 in
theorem tm_Readings_add (N d : Nat) (xs : List Int32) (c r : St) (a1 : Int32) (a2 : Int32) (p : Int32 × St) (hp : Readings_add N c a1 a2 = some p) : mBig (mRoL xs) (d + 1) 60 [.ref 59, .int a1, .int a2] (HP c r) (some (.int p.1)) (HP p.2 r) 0 0 := mBig_of (by decide) rfl rfl rfl rfl (t_Readings_add N d xs r c a1 a2 p hp)
/-! ColdHolds.reading(II)I, from (('r', 0), 'i', 'i') -/
def C_reading_p25 (N : Nat) (c : St) : Option (Int32 × St) :=
  some ((-102), c)
def C_reading_p28 (N : Nat) (c : St) (x1 : Int32) (x2 : Int32) : Option (Int32 × St) :=
  (Readings_add N c x1 x2).bind fun p5 => some (p5.1, p5.2)
def C_reading (N : Nat) (c : St) (x1 : Int32) (x2 : Int32) : Option (Int32 × St) :=
  (C_within N x1 0 1200).bind fun p1 => (if p1 = 0 then C_reading_p25 N c else (C_isWarmth N x2).bind fun p3 => (if ¬ p3 = 0 then C_reading_p28 N c x1 x2 else (if x2 = (-999) then C_reading_p28 N c x1 x2 else C_reading_p25 N c)))
set_option maxHeartbeats 8000000 in
set_option maxRecDepth 100000 in
theorem t_C_reading_p25 (N d : Nat) (xs : List Int32) (r : St) (c : St) : Ok (mBig (mRoL xs) (d + 2)) (mRoL xs) 1 mK132 (fun p : Int32 × St => (some (.int p.1), HP p.2 r)) (C_reading_p25 N c) 25 [none, none, none] [] (HP c r) := by
  unfold C_reading_p25
  refine Ok_blk 1 (pc2 := 27) (lo2 := [none, none, none]) (st2 := [.int (-102)]) rfl ?_
  exact Ok_ret rfl rfl rfl
set_option maxHeartbeats 8000000 in
set_option maxRecDepth 100000 in
theorem t_C_reading_p28 (N d : Nat) (xs : List Int32) (r : St) (c : St) (x1 : Int32) (x2 : Int32) : Ok (mBig (mRoL xs) (d + 2)) (mRoL xs) 1 mK132 (fun p : Int32 × St => (some (.int p.1), HP p.2 r)) (C_reading_p28 N c x1 x2) 28 [some (.ref 0), some (.int x1), some (.int x2)] [] (HP c r) := by
  unfold C_reading_p28
  refine Ok_blk 4 (pc2 := 34) (lo2 := [some (.ref 0), some (.int x1), some (.int x2)]) (st2 := [.int x2, .int x1, .ref 59]) rfl ?_
  refine Ok_call (y := 60) (as := [.ref 59, .int x1, .int x2]) (rest := []) (w := fun p5 => some (.int p5.1)) (h1 := fun p5 => HP p5.2 r) rfl rfl (fun x hx => tm_Readings_add N (d + 1) xs c r x1 x2 x hx) (fun p5 hp5 => ?_)
  exact Ok_ret rfl rfl rfl
set_option maxHeartbeats 8000000 in
set_option maxRecDepth 100000 in
theorem t_C_reading (N d : Nat) (xs : List Int32) (r : St) (c : St) (x1 : Int32) (x2 : Int32) : Ok (mBig (mRoL xs) (d + 2)) (mRoL xs) 1 mK132 (fun p : Int32 × St => (some (.int p.1), HP p.2 r)) (C_reading N c x1 x2) 0 [some (.ref 0), some (.int x1), some (.int x2)] [] (HP c r) := by
  unfold C_reading
  refine Ok_blk 3 (pc2 := 5) (lo2 := [some (.ref 0), some (.int x1), some (.int x2)]) (st2 := [.int 1200, .int 0, .int x1]) rfl ?_
  refine Ok_call (y := 102) (as := [.int x1, .int 0, .int 1200]) (rest := []) (w := fun p1 => some (.int p1)) (h1 := fun p1 => HP c r) rfl rfl (fun x hx => tm_C_within N (d + 1) xs c r x1 0 1200 x hx) (fun p1 hp1 => ?_)
  refine Ok_blk 1 (pc2 := (if p1 = 0 then 25 else 11)) (lo2 := [some (.ref 0), some (.int x1), some (.int x2)]) (st2 := []) rfl ?_
  refine Ok_if (fun h2 => ?_) (fun h2 => ?_)
  · refine Ok_drop (lo0 := [none, none, none]) ⟨Or.inl rfl, Or.inl rfl, Or.inl rfl, trivial⟩ ?_
    exact t_C_reading_p25 N d xs r c
  · refine Ok_blk 1 (pc2 := 12) (lo2 := [some (.ref 0), some (.int x1), some (.int x2)]) (st2 := [.int x2]) rfl ?_
    refine Ok_call (y := 104) (as := [.int x2]) (rest := []) (w := fun p3 => some (.int p3)) (h1 := fun p3 => HP c r) rfl rfl (fun x hx => tm_C_isWarmth N d xs c r x2 x hx) (fun p3 hp3 => ?_)
    refine Ok_blk 1 (pc2 := (if ¬ p3 = 0 then 28 else 18)) (lo2 := [some (.ref 0), some (.int x1), some (.int x2)]) (st2 := []) rfl ?_
    refine Ok_if (fun h4 => ?_) (fun h4 => ?_)
    · refine Ok_drop (lo0 := [some (.ref 0), some (.int x1), some (.int x2)]) ⟨Or.inr rfl, Or.inr rfl, Or.inr rfl, trivial⟩ ?_
      exact t_C_reading_p28 N d xs r c x1 x2
    · refine Ok_blk 3 (pc2 := (if x2 = (-999) then 28 else 25)) (lo2 := [some (.ref 0), some (.int x1), some (.int x2)]) (st2 := []) rfl ?_
      refine Ok_if (fun h6 => ?_) (fun h6 => ?_)
      · refine Ok_drop (lo0 := [some (.ref 0), some (.int x1), some (.int x2)]) ⟨Or.inr rfl, Or.inr rfl, Or.inr rfl, trivial⟩ ?_
        exact t_C_reading_p28 N d xs r c x1 x2
      · refine Ok_drop (lo0 := [none, none, none]) ⟨Or.inl rfl, Or.inl rfl, Or.inl rfl, trivial⟩ ?_
        exact t_C_reading_p25 N d xs r c
set_option maxHeartbeats 8000000 in
set_option maxRecDepth 100000 in
theorem tm_C_reading (N d : Nat) (xs : List Int32) (c r : St) (a1 : Int32) (a2 : Int32) (p : Int32 × St) (hp : C_reading N c a1 a2 = some p) : mBig (mRoL xs) (d + 3) 132 [.ref 0, .int a1, .int a2] (HP c r) (some (.int p.1)) (HP p.2 r) 0 0 := mBig_of (by decide) rfl rfl rfl rfl (t_C_reading N d xs r c a1 a2 p hp)
/-! ColdHoldsModel.reading(II)I, from (('r', 115), 'i', 'i') -/
def R_reading_p31 (N : Nat) (r : St) : Option (Int32 × St) :=
  some ((-102), r)
def R_reading_p34 (N : Nat) (r : St) (x1 : Int32) (x2 : Int32) : Option (Int32 × St) :=
  (if ¬ (gI r 10) = 24 then (sto (gA r 13) (gI r 10) x1).bind fun w5 => (sto (gA (sA r 13 w5) 14) (gI (sA r 13 w5) 10) x2).bind fun w6 => some (gI (sI (sA (sA r 13 w5) 14 w6) 10 ((gI (sA (sA r 13 w5) 14 w6) 10) + 1)) 10, sI (sA (sA r 13 w5) 14 w6) 10 ((gI (sA (sA r 13 w5) 14 w6) 10) + 1)) else some ((-104), r))
def R_reading (N : Nat) (r : St) (x1 : Int32) (x2 : Int32) : Option (Int32 × St) :=
  (R_in N x1 0 1200).bind fun p1 => (if p1 = 0 then R_reading_p31 N r else (if x2 = (-999) then R_reading_p34 N r x1 x2 else (R_in N x2 (-300) 600).bind fun p7 => (if ¬ p7 = 0 then R_reading_p34 N r x1 x2 else R_reading_p31 N r)))
set_option maxHeartbeats 8000000 in
set_option maxRecDepth 100000 in
theorem t_R_reading_p31 (N d : Nat) (xs : List Int32) (c : St) (r : St) : Ok (mBig (mRoL xs) (d + 1)) (mRoL xs) 1 mK207 (fun p : Int32 × St => (some (.int p.1), HP c p.2)) (R_reading_p31 N r) 31 [none, none, none] [] (HP c r) := by
  unfold R_reading_p31
  refine Ok_blk 1 (pc2 := 33) (lo2 := [none, none, none]) (st2 := [.int (-102)]) rfl ?_
  exact Ok_ret rfl rfl rfl
set_option maxHeartbeats 8000000 in
set_option maxRecDepth 100000 in
theorem t_R_reading_p34 (N d : Nat) (xs : List Int32) (c : St) (r : St) (x1 : Int32) (x2 : Int32) : Ok (mBig (mRoL xs) (d + 1)) (mRoL xs) 1 mK207 (fun p : Int32 × St => (some (.int p.1), HP c p.2)) (R_reading_p34 N r x1 x2) 34 [some (.ref 115), some (.int x1), some (.int x2)] [] (HP c r) := by
  unfold R_reading_p34
  refine Ok_blk 4 (pc2 := (if ¬ (gI r 10) = 24 then 46 else 43)) (lo2 := [some (.ref 115), some (.int x1), some (.int x2)]) (st2 := []) rfl ?_
  refine Ok_if (fun h4 => ?_) (fun h4 => ?_)
  · refine Ok_blk 5 (pc2 := 55) (lo2 := [some (.ref 115), some (.int x1), some (.int x2)]) (st2 := [.int x1, .int (gI r 10), .ref 129]) rfl ?_
    refine Ok_st (l := (gA r 13)) (hn := fun l' => HP c (sA r 13 l')) rfl rfl (fun l' => sa_129 _ _ l') (fun w5 hw5 => ?_)
    refine Ok_blk 5 (pc2 := 65) (lo2 := [some (.ref 115), some (.int x1), some (.int x2)]) (st2 := [.int x2, .int (gI (sA r 13 w5) 10), .ref 130]) rfl ?_
    refine Ok_st (l := (gA (sA r 13 w5) 14)) (hn := fun l' => HP c (sA (sA r 13 w5) 14 l')) rfl rfl (fun l' => sa_130 _ _ l') (fun w6 hw6 => ?_)
    refine Ok_heap 6 (pc2 := 76) (lo2 := [some (.ref 115), some (.int x1), some (.int x2)]) (st2 := []) (h2 := HP c (sI (sA (sA r 13 w5) 14 w6) 10 ((gI (sA (sA r 13 w5) 14 w6) 10) + 1))) rfl (st_115_23 _ _ _) ?_
    refine Ok_blk 2 (pc2 := 80) (lo2 := [some (.ref 115), some (.int x1), some (.int x2)]) (st2 := [.int (gI (sI (sA (sA r 13 w5) 14 w6) 10 ((gI (sA (sA r 13 w5) 14 w6) 10) + 1)) 10)]) rfl ?_
    exact Ok_ret rfl rfl rfl
  · refine Ok_blk 1 (pc2 := 45) (lo2 := [some (.ref 115), some (.int x1), some (.int x2)]) (st2 := [.int (-104)]) rfl ?_
    exact Ok_ret rfl rfl rfl
set_option maxHeartbeats 8000000 in
set_option maxRecDepth 100000 in
theorem t_R_reading (N d : Nat) (xs : List Int32) (c : St) (r : St) (x1 : Int32) (x2 : Int32) : Ok (mBig (mRoL xs) (d + 1)) (mRoL xs) 1 mK207 (fun p : Int32 × St => (some (.int p.1), HP c p.2)) (R_reading N r x1 x2) 0 [some (.ref 115), some (.int x1), some (.int x2)] [] (HP c r) := by
  unfold R_reading
  refine Ok_blk 3 (pc2 := 5) (lo2 := [some (.ref 115), some (.int x1), some (.int x2)]) (st2 := [.int 1200, .int 0, .int x1]) rfl ?_
  refine Ok_call (y := 164) (as := [.int x1, .int 0, .int 1200]) (rest := []) (w := fun p1 => some (.int p1)) (h1 := fun p1 => HP c r) rfl rfl (fun x hx => tm_R_in N d xs c r x1 0 1200 x hx) (fun p1 hp1 => ?_)
  refine Ok_blk 1 (pc2 := (if p1 = 0 then 31 else 11)) (lo2 := [some (.ref 115), some (.int x1), some (.int x2)]) (st2 := []) rfl ?_
  refine Ok_if (fun h2 => ?_) (fun h2 => ?_)
  · refine Ok_drop (lo0 := [none, none, none]) ⟨Or.inl rfl, Or.inl rfl, Or.inl rfl, trivial⟩ ?_
    exact t_R_reading_p31 N d xs c r
  · refine Ok_blk 3 (pc2 := (if x2 = (-999) then 34 else 18)) (lo2 := [some (.ref 115), some (.int x1), some (.int x2)]) (st2 := []) rfl ?_
    refine Ok_if (fun h3 => ?_) (fun h3 => ?_)
    · refine Ok_drop (lo0 := [some (.ref 115), some (.int x1), some (.int x2)]) ⟨Or.inr rfl, Or.inr rfl, Or.inr rfl, trivial⟩ ?_
      exact t_R_reading_p34 N d xs c r x1 x2
    · refine Ok_blk 3 (pc2 := 25) (lo2 := [some (.ref 115), some (.int x1), some (.int x2)]) (st2 := [.int 600, .int (-300), .int x2]) rfl ?_
      refine Ok_call (y := 164) (as := [.int x2, .int (-300), .int 600]) (rest := []) (w := fun p7 => some (.int p7)) (h1 := fun p7 => HP c r) rfl rfl (fun x hx => tm_R_in N d xs c r x2 (-300) 600 x hx) (fun p7 hp7 => ?_)
      refine Ok_blk 1 (pc2 := (if ¬ p7 = 0 then 34 else 31)) (lo2 := [some (.ref 115), some (.int x1), some (.int x2)]) (st2 := []) rfl ?_
      refine Ok_if (fun h8 => ?_) (fun h8 => ?_)
      · refine Ok_drop (lo0 := [some (.ref 115), some (.int x1), some (.int x2)]) ⟨Or.inr rfl, Or.inr rfl, Or.inr rfl, trivial⟩ ?_
        exact t_R_reading_p34 N d xs c r x1 x2
      · refine Ok_drop (lo0 := [none, none, none]) ⟨Or.inl rfl, Or.inl rfl, Or.inl rfl, trivial⟩ ?_
        exact t_R_reading_p31 N d xs c r
set_option maxHeartbeats 8000000 in
set_option maxRecDepth 100000 in
theorem tm_R_reading (N d : Nat) (xs : List Int32) (c r : St) (a1 : Int32) (a2 : Int32) (p : Int32 × St) (hp : R_reading N r a1 a2 = some p) : mBig (mRoL xs) (d + 2) 207 [.ref 115, .int a1, .int a2] (HP c r) (some (.int p.1)) (HP c p.2) 0 0 := mBig_of (by decide) rfl rfl rfl rfl (t_R_reading N d xs c r a1 a2 p hp)
/-! ColdHolds.rate(I)I, from (('r', 0), 'i') -/
def C_rate (N : Nat) (c : St) (x1 : Int32) : Option (Int32 × St) :=
  (C_within N x1 1 50).bind fun p1 => (if ¬ p1 = 0 then some (gI c 16, sI c 16 x1) else some ((-102), c))
set_option maxHeartbeats 8000000 in
set_option maxRecDepth 100000 in
theorem t_C_rate (N d : Nat) (xs : List Int32) (r : St) (c : St) (x1 : Int32) : Ok (mBig (mRoL xs) (d + 1)) (mRoL xs) 1 mK133 (fun p : Int32 × St => (some (.int p.1), HP p.2 r)) (C_rate N c x1) 0 [some (.ref 0), some (.int x1), none] [] (HP c r) := by
  unfold C_rate
  refine Ok_blk 3 (pc2 := 4) (lo2 := [some (.ref 0), some (.int x1), none]) (st2 := [.int 50, .int 1, .int x1]) rfl ?_
  refine Ok_call (y := 102) (as := [.int x1, .int 1, .int 50]) (rest := []) (w := fun p1 => some (.int p1)) (h1 := fun p1 => HP c r) rfl rfl (fun x hx => tm_C_within N d xs c r x1 1 50 x hx) (fun p1 hp1 => ?_)
  refine Ok_blk 1 (pc2 := (if ¬ p1 = 0 then 13 else 10)) (lo2 := [some (.ref 0), some (.int x1), none]) (st2 := []) rfl ?_
  refine Ok_if (fun h2 => ?_) (fun h2 => ?_)
  · refine Ok_heap 8 (pc2 := 29) (lo2 := [some (.ref 0), some (.int x1), some (.int (gI c 16))]) (st2 := []) (h2 := HP (sI c 16 x1) r) rfl (st_59_1 _ _ _) ?_
    refine Ok_blk 1 (pc2 := 30) (lo2 := [some (.ref 0), some (.int x1), some (.int (gI c 16))]) (st2 := [.int (gI c 16)]) rfl ?_
    exact Ok_ret rfl rfl rfl
  · refine Ok_blk 1 (pc2 := 12) (lo2 := [some (.ref 0), some (.int x1), none]) (st2 := [.int (-102)]) rfl ?_
    exact Ok_ret rfl rfl rfl
set_option maxHeartbeats 8000000 in
set_option maxRecDepth 100000 in
theorem tm_C_rate (N d : Nat) (xs : List Int32) (c r : St) (a1 : Int32) (p : Int32 × St) (hp : C_rate N c a1 = some p) : mBig (mRoL xs) (d + 2) 133 [.ref 0, .int a1] (HP c r) (some (.int p.1)) (HP p.2 r) 0 0 := mBig_of (by decide) rfl rfl rfl rfl (t_C_rate N d xs r c a1 p hp)
/-! ColdHoldsModel.rate(I)I, from (('r', 115), 'i') -/
def R_rate (N : Nat) (r : St) (x1 : Int32) : Option (Int32 × St) :=
  (R_in N x1 1 50).bind fun p1 => (if ¬ p1 = 0 then some (gI r 11, sI r 11 x1) else some ((-102), r))
set_option maxHeartbeats 8000000 in
set_option maxRecDepth 100000 in
theorem t_R_rate (N d : Nat) (xs : List Int32) (c : St) (r : St) (x1 : Int32) : Ok (mBig (mRoL xs) (d + 1)) (mRoL xs) 1 mK208 (fun p : Int32 × St => (some (.int p.1), HP c p.2)) (R_rate N r x1) 0 [some (.ref 115), some (.int x1), none] [] (HP c r) := by
  unfold R_rate
  refine Ok_blk 3 (pc2 := 4) (lo2 := [some (.ref 115), some (.int x1), none]) (st2 := [.int 50, .int 1, .int x1]) rfl ?_
  refine Ok_call (y := 164) (as := [.int x1, .int 1, .int 50]) (rest := []) (w := fun p1 => some (.int p1)) (h1 := fun p1 => HP c r) rfl rfl (fun x hx => tm_R_in N d xs c r x1 1 50 x hx) (fun p1 hp1 => ?_)
  refine Ok_blk 1 (pc2 := (if ¬ p1 = 0 then 13 else 10)) (lo2 := [some (.ref 115), some (.int x1), none]) (st2 := []) rfl ?_
  refine Ok_if (fun h2 => ?_) (fun h2 => ?_)
  · refine Ok_heap 6 (pc2 := 23) (lo2 := [some (.ref 115), some (.int x1), some (.int (gI r 11))]) (st2 := []) (h2 := HP c (sI r 11 x1)) rfl (st_115_26 _ _ _) ?_
    refine Ok_blk 1 (pc2 := 24) (lo2 := [some (.ref 115), some (.int x1), some (.int (gI r 11))]) (st2 := [.int (gI r 11)]) rfl ?_
    exact Ok_ret rfl rfl rfl
  · refine Ok_blk 1 (pc2 := 12) (lo2 := [some (.ref 115), some (.int x1), none]) (st2 := [.int (-102)]) rfl ?_
    exact Ok_ret rfl rfl rfl
set_option maxHeartbeats 8000000 in
set_option maxRecDepth 100000 in
theorem tm_R_rate (N d : Nat) (xs : List Int32) (c r : St) (a1 : Int32) (p : Int32 × St) (hp : R_rate N r a1 = some p) : mBig (mRoL xs) (d + 2) 208 [.ref 115, .int a1] (HP c r) (some (.int p.1)) (HP c p.2) 0 0 := mBig_of (by decide) rfl rfl rfl rfl (t_R_rate N d xs c r a1 p hp)
/-! java/lang/Math.abs(I)I, from ('i',) -/
def J_abs (N : Nat) (x0 : Int32) : Option (Int32) :=
  (if 0 ≤ x0 then some x0 else some (-x0))
set_option maxHeartbeats 8000000 in
set_option maxRecDepth 100000 in
theorem t_J_abs (N d : Nat) (xs : List Int32) (c : St) (r : St) (x0 : Int32) : Ok (mBig (mRoL xs) (d)) (mRoL xs) 1 mK260 (fun p : Int32 => (some (.int p), HP c r)) (J_abs N x0) 0 [some (.int x0)] [] (HP c r) := by
  unfold J_abs
  refine Ok_blk 2 (pc2 := (if 0 ≤ x0 then 9 else 4)) (lo2 := [some (.int x0)]) (st2 := []) rfl ?_
  refine Ok_if (fun h1 => ?_) (fun h1 => ?_)
  · refine Ok_blk 1 (pc2 := 10) (lo2 := [some (.int x0)]) (st2 := [.int x0]) rfl ?_
    exact Ok_ret rfl rfl rfl
  · refine Ok_blk 3 (pc2 := 10) (lo2 := [some (.int x0)]) (st2 := [.int (-x0)]) rfl ?_
    exact Ok_ret rfl rfl rfl
set_option maxHeartbeats 8000000 in
set_option maxRecDepth 100000 in
theorem tm_J_abs (N d : Nat) (xs : List Int32) (c r : St) (a0 : Int32) (p : Int32) (hp : J_abs N a0 = some p) : mBig (mRoL xs) (d + 1) 260 [.int a0] (HP c r) (some (.int p)) (HP c r) 0 0 := mBig_of (by decide) rfl rfl rfl rfl (t_J_abs N d xs c r a0 p hp)
/-! ColdHolds$Readings.isRead(I)Z, from (('r', 59), 'i') -/
def Readings_isRead (N : Nat) (c : St) (x1 : Int32) : Option (Int32) :=
  (ld (gA c 50) x1).bind fun y1 => (if y1 = (-999) then some 0 else some 1)
set_option maxHeartbeats 8000000 in
set_option maxRecDepth 100000 in
theorem t_Readings_isRead (N d : Nat) (xs : List Int32) (c : St) (r : St) (x1 : Int32) : Ok (mBig (mRoL xs) (d)) (mRoL xs) 2 mK61 (fun p : Int32 => (some (.int p), HP c r)) (Readings_isRead N c x1) 0 [some (.ref 59), some (.int x1)] [] (HP c r) := by
  unfold Readings_isRead
  refine Ok_blk 3 (pc2 := 5) (lo2 := [some (.ref 59), some (.int x1)]) (st2 := [.int x1, .ref 61]) rfl ?_
  refine Ok_ld (l := (gA c 50)) rfl rfl (fun y1 hy1 => ?_)
  refine Ok_blk 2 (pc2 := (if y1 = (-999) then 16 else 12)) (lo2 := [some (.ref 59), some (.int x1)]) (st2 := []) rfl ?_
  refine Ok_if (fun h2 => ?_) (fun h2 => ?_)
  · refine Ok_blk 1 (pc2 := 17) (lo2 := [some (.ref 59), some (.int x1)]) (st2 := [.int 0]) rfl ?_
    exact Ok_rez (Or.inl rfl) rfl rfl
  · refine Ok_blk 2 (pc2 := 17) (lo2 := [some (.ref 59), some (.int x1)]) (st2 := [.int 1]) rfl ?_
    exact Ok_rez (Or.inr rfl) rfl rfl
set_option maxHeartbeats 8000000 in
set_option maxRecDepth 100000 in
theorem tm_Readings_isRead (N d : Nat) (xs : List Int32) (c r : St) (a1 : Int32) (p : Int32) (hp : Readings_isRead N c a1 = some p) : mBig (mRoL xs) (d + 1) 61 [.ref 59, .int a1] (HP c r) (some (.int p)) (HP c r) 0 0 := mBig_of (by decide) rfl rfl rfl rfl (t_Readings_isRead N d xs c r a1 p hp)
/-! ColdHolds$Readings.agree()Z, from (('r', 59),) -/
def Readings_agree_p77 (N : Nat) (kb2 : Int32 → Option (Int32)) (kb12 : Int32 → Int32 → Option (Int32)) (c : St) (x1 : Int32) (x2 : Int32) : Option (Int32) :=
  kb12 x1 (x2 + 1)
def Readings_agree_p12b (N : Nat) (kb2 : Int32 → Option (Int32)) (kb12 : Int32 → Int32 → Option (Int32)) (c : St) (x1 : Int32) (x2 : Int32) : Option (Int32) :=
  (if x1 ≤ x2 then kb2 (x1 + 1) else (ld (gA c 50) x1).bind fun y3 => (ld (gA c 50) x2).bind fun y4 => (J_abs N (y3 - y4)).bind fun p5 => (Readings_isRead N c x1).bind fun p6 => (if p6 = 0 then Readings_agree_p77 N kb2 kb12 c x1 x2 else (Readings_isRead N c x2).bind fun p8 => (if p8 = 0 then Readings_agree_p77 N kb2 kb12 c x1 x2 else (ld (gA c 49) x1).bind fun y10 => (ld (gA c 49) x2).bind fun y11 => (J_abs N (y10 - y11)).bind fun p12 => (if p5 ≤ ((gI c 16) * p12) then Readings_agree_p77 N kb2 kb12 c x1 x2 else some 0))))
def Readings_agree_p12 (N : Nat) (kb2 : Int32 → Option (Int32)) (c : St) : Nat → Int32 → Int32 → Option (Int32)
  | 0 => fun _ _ => none
  | n + 1 => Readings_agree_p12b N kb2 (Readings_agree_p12 N kb2 c n) c
def Readings_agree_p2b (N : Nat) (kb2 : Int32 → Option (Int32)) (c : St) (x1 : Int32) : Option (Int32) :=
  (if (gI c 15) ≤ x1 then some 1 else Readings_agree_p12 N kb2 c N x1 0)
def Readings_agree_p2 (N : Nat) (c : St) : Nat → Int32 → Option (Int32)
  | 0 => fun _ => none
  | n + 1 => Readings_agree_p2b N (Readings_agree_p2 N c n) c
def Readings_agree (N : Nat) (c : St) : Option (Int32) :=
  Readings_agree_p2 N c N 0
set_option maxHeartbeats 8000000 in
set_option maxRecDepth 100000 in
theorem t_Readings_agree_p77 (N d : Nat) (xs : List Int32) (c : St) (r : St) (kb2 : Int32 → Option (Int32)) (hb2 : ∀ (x1 : Int32), Ok (mBig (mRoL xs) (d + 1)) (mRoL xs) 2 mK62 (fun p : Int32 => (some (.int p), HP c r)) (kb2 x1) 2 [some (.ref 59), some (.int x1), none, none] [] (HP c r)) (kb12 : Int32 → Int32 → Option (Int32)) (hb12 : ∀ (x1 : Int32) (x2 : Int32), Ok (mBig (mRoL xs) (d + 1)) (mRoL xs) 2 mK62 (fun p : Int32 => (some (.int p), HP c r)) (kb12 x1 x2) 12 [some (.ref 59), some (.int x1), some (.int x2), none] [] (HP c r)) (x1 : Int32) (x2 : Int32) : Ok (mBig (mRoL xs) (d + 1)) (mRoL xs) 2 mK62 (fun p : Int32 => (some (.int p), HP c r)) (Readings_agree_p77 N kb2 kb12 c x1 x2) 77 [some (.ref 59), some (.int x1), some (.int x2), none] [] (HP c r) := by
  unfold Readings_agree_p77
  refine Ok_blk 2 (pc2 := 12) (lo2 := [some (.ref 59), some (.int x1), some (.int (x2 + 1)), none]) (st2 := []) rfl ?_
  refine Ok_drop (lo0 := [some (.ref 59), some (.int x1), some (.int (x2 + 1)), none]) ⟨Or.inr rfl, Or.inr rfl, Or.inr rfl, Or.inl rfl, trivial⟩ ?_
  exact hb12 x1 (x2 + 1)
set_option maxHeartbeats 8000000 in
set_option maxRecDepth 100000 in
theorem t_Readings_agree_p12b (N d : Nat) (xs : List Int32) (c : St) (r : St) (kb2 : Int32 → Option (Int32)) (hb2 : ∀ (x1 : Int32), Ok (mBig (mRoL xs) (d + 1)) (mRoL xs) 2 mK62 (fun p : Int32 => (some (.int p), HP c r)) (kb2 x1) 2 [some (.ref 59), some (.int x1), none, none] [] (HP c r)) (kb12 : Int32 → Int32 → Option (Int32)) (hb12 : ∀ (x1 : Int32) (x2 : Int32), Ok (mBig (mRoL xs) (d + 1)) (mRoL xs) 2 mK62 (fun p : Int32 => (some (.int p), HP c r)) (kb12 x1 x2) 12 [some (.ref 59), some (.int x1), some (.int x2), none] [] (HP c r)) (x1 : Int32) (x2 : Int32) : Ok (mBig (mRoL xs) (d + 1)) (mRoL xs) 2 mK62 (fun p : Int32 => (some (.int p), HP c r)) (Readings_agree_p12b N kb2 kb12 c x1 x2) 12 [some (.ref 59), some (.int x1), some (.int x2), none] [] (HP c r) := by
  unfold Readings_agree_p12b
  refine Ok_blk 3 (pc2 := (if x1 ≤ x2 then 83 else 17)) (lo2 := [some (.ref 59), some (.int x1), some (.int x2), none]) (st2 := []) rfl ?_
  refine Ok_if (fun h2 => ?_) (fun h2 => ?_)
  · refine Ok_blk 2 (pc2 := 2) (lo2 := [some (.ref 59), some (.int (x1 + 1)), some (.int x2), none]) (st2 := []) rfl ?_
    refine Ok_drop (lo0 := [some (.ref 59), some (.int (x1 + 1)), none, none]) ⟨Or.inr rfl, Or.inr rfl, Or.inl rfl, Or.inl rfl, trivial⟩ ?_
    exact hb2 (x1 + 1)
  · refine Ok_blk 3 (pc2 := 22) (lo2 := [some (.ref 59), some (.int x1), some (.int x2), none]) (st2 := [.int x1, .ref 61]) rfl ?_
    refine Ok_ld (l := (gA c 50)) rfl rfl (fun y3 hy3 => ?_)
    refine Ok_blk 3 (pc2 := 28) (lo2 := [some (.ref 59), some (.int x1), some (.int x2), none]) (st2 := [.int x2, .ref 61, .int y3]) rfl ?_
    refine Ok_ld (l := (gA c 50)) rfl rfl (fun y4 hy4 => ?_)
    refine Ok_blk 1 (pc2 := 30) (lo2 := [some (.ref 59), some (.int x1), some (.int x2), none]) (st2 := [.int (y3 - y4)]) rfl ?_
    refine Ok_call (y := 260) (as := [.int (y3 - y4)]) (rest := []) (w := fun p5 => some (.int p5)) (h1 := fun p5 => HP c r) rfl rfl (fun x hx => tm_J_abs N d xs c r (y3 - y4) x hx) (fun p5 hp5 => ?_)
    refine Ok_blk 3 (pc2 := 36) (lo2 := [some (.ref 59), some (.int x1), some (.int x2), some (.int p5)]) (st2 := [.int x1, .ref 59]) rfl ?_
    refine Ok_call (y := 61) (as := [.ref 59, .int x1]) (rest := []) (w := fun p6 => some (.int p6)) (h1 := fun p6 => HP c r) rfl rfl (fun x hx => tm_Readings_isRead N d xs c r x1 x hx) (fun p6 hp6 => ?_)
    refine Ok_blk 1 (pc2 := (if p6 = 0 then 77 else 42)) (lo2 := [some (.ref 59), some (.int x1), some (.int x2), some (.int p5)]) (st2 := []) rfl ?_
    refine Ok_if (fun h7 => ?_) (fun h7 => ?_)
    · refine Ok_drop (lo0 := [some (.ref 59), some (.int x1), some (.int x2), none]) ⟨Or.inr rfl, Or.inr rfl, Or.inr rfl, Or.inl rfl, trivial⟩ ?_
      exact t_Readings_agree_p77 N d xs c r kb2 hb2 kb12 hb12 x1 x2
    · refine Ok_blk 2 (pc2 := 44) (lo2 := [some (.ref 59), some (.int x1), some (.int x2), some (.int p5)]) (st2 := [.int x2, .ref 59]) rfl ?_
      refine Ok_call (y := 61) (as := [.ref 59, .int x2]) (rest := []) (w := fun p8 => some (.int p8)) (h1 := fun p8 => HP c r) rfl rfl (fun x hx => tm_Readings_isRead N d xs c r x2 x hx) (fun p8 hp8 => ?_)
      refine Ok_blk 1 (pc2 := (if p8 = 0 then 77 else 50)) (lo2 := [some (.ref 59), some (.int x1), some (.int x2), some (.int p5)]) (st2 := []) rfl ?_
      refine Ok_if (fun h9 => ?_) (fun h9 => ?_)
      · refine Ok_drop (lo0 := [some (.ref 59), some (.int x1), some (.int x2), none]) ⟨Or.inr rfl, Or.inr rfl, Or.inr rfl, Or.inl rfl, trivial⟩ ?_
        exact t_Readings_agree_p77 N d xs c r kb2 hb2 kb12 hb12 x1 x2
      · refine Ok_blk 6 (pc2 := 60) (lo2 := [some (.ref 59), some (.int x1), some (.int x2), some (.int p5)]) (st2 := [.int x1, .ref 60, .int (gI c 16), .int p5]) rfl ?_
        refine Ok_ld (l := (gA c 49)) rfl rfl (fun y10 hy10 => ?_)
        refine Ok_blk 3 (pc2 := 66) (lo2 := [some (.ref 59), some (.int x1), some (.int x2), some (.int p5)]) (st2 := [.int x2, .ref 60, .int y10, .int (gI c 16), .int p5]) rfl ?_
        refine Ok_ld (l := (gA c 49)) rfl rfl (fun y11 hy11 => ?_)
        refine Ok_blk 1 (pc2 := 68) (lo2 := [some (.ref 59), some (.int x1), some (.int x2), some (.int p5)]) (st2 := [.int (y10 - y11), .int (gI c 16), .int p5]) rfl ?_
        refine Ok_call (y := 260) (as := [.int (y10 - y11)]) (rest := [.int (gI c 16), .int p5]) (w := fun p12 => some (.int p12)) (h1 := fun p12 => HP c r) rfl rfl (fun x hx => tm_J_abs N d xs c r (y10 - y11) x hx) (fun p12 hp12 => ?_)
        refine Ok_blk 2 (pc2 := (if p5 ≤ ((gI c 16) * p12) then 77 else 75)) (lo2 := [some (.ref 59), some (.int x1), some (.int x2), some (.int p5)]) (st2 := []) rfl ?_
        refine Ok_if (fun h13 => ?_) (fun h13 => ?_)
        · refine Ok_drop (lo0 := [some (.ref 59), some (.int x1), some (.int x2), none]) ⟨Or.inr rfl, Or.inr rfl, Or.inr rfl, Or.inl rfl, trivial⟩ ?_
          exact t_Readings_agree_p77 N d xs c r kb2 hb2 kb12 hb12 x1 x2
        · refine Ok_blk 1 (pc2 := 76) (lo2 := [some (.ref 59), some (.int x1), some (.int x2), some (.int p5)]) (st2 := [.int 0]) rfl ?_
          exact Ok_rez (Or.inl rfl) rfl rfl
set_option maxHeartbeats 8000000 in
set_option maxRecDepth 100000 in
theorem t_Readings_agree_p12 (N d : Nat) (xs : List Int32) (c : St) (r : St) (kb2 : Int32 → Option (Int32)) (hb2 : ∀ (x1 : Int32), Ok (mBig (mRoL xs) (d + 1)) (mRoL xs) 2 mK62 (fun p : Int32 => (some (.int p), HP c r)) (kb2 x1) 2 [some (.ref 59), some (.int x1), none, none] [] (HP c r)) : ∀ (n : Nat) (x1 : Int32) (x2 : Int32), Ok (mBig (mRoL xs) (d + 1)) (mRoL xs) 2 mK62 (fun p : Int32 => (some (.int p), HP c r)) (Readings_agree_p12 N kb2 c n x1 x2) 12 [some (.ref 59), some (.int x1), some (.int x2), none] [] (HP c r) := by
  intro n
  induction n with
  | zero => intro x1 x2; exact Ok_none
  | succ n ih => intro x1 x2; exact t_Readings_agree_p12b N d xs c r kb2 hb2 (Readings_agree_p12 N kb2 c n) ih x1 x2
set_option maxHeartbeats 8000000 in
set_option maxRecDepth 100000 in
theorem t_Readings_agree_p2b (N d : Nat) (xs : List Int32) (c : St) (r : St) (kb2 : Int32 → Option (Int32)) (hb2 : ∀ (x1 : Int32), Ok (mBig (mRoL xs) (d + 1)) (mRoL xs) 2 mK62 (fun p : Int32 => (some (.int p), HP c r)) (kb2 x1) 2 [some (.ref 59), some (.int x1), none, none] [] (HP c r)) (x1 : Int32) : Ok (mBig (mRoL xs) (d + 1)) (mRoL xs) 2 mK62 (fun p : Int32 => (some (.int p), HP c r)) (Readings_agree_p2b N kb2 c x1) 2 [some (.ref 59), some (.int x1), none, none] [] (HP c r) := by
  unfold Readings_agree_p2b
  refine Ok_blk 4 (pc2 := (if (gI c 15) ≤ x1 then 89 else 10)) (lo2 := [some (.ref 59), some (.int x1), none, none]) (st2 := []) rfl ?_
  refine Ok_if (fun h1 => ?_) (fun h1 => ?_)
  · refine Ok_blk 1 (pc2 := 90) (lo2 := [some (.ref 59), some (.int x1), none, none]) (st2 := [.int 1]) rfl ?_
    exact Ok_rez (Or.inr rfl) rfl rfl
  · refine Ok_blk 2 (pc2 := 12) (lo2 := [some (.ref 59), some (.int x1), some (.int 0), none]) (st2 := []) rfl ?_
    refine Ok_drop (lo0 := [some (.ref 59), some (.int x1), some (.int 0), none]) ⟨Or.inr rfl, Or.inr rfl, Or.inr rfl, Or.inl rfl, trivial⟩ ?_
    exact t_Readings_agree_p12 N d xs c r kb2 hb2 N x1 0
set_option maxHeartbeats 8000000 in
set_option maxRecDepth 100000 in
theorem t_Readings_agree_p2 (N d : Nat) (xs : List Int32) (c : St) (r : St) : ∀ (n : Nat) (x1 : Int32), Ok (mBig (mRoL xs) (d + 1)) (mRoL xs) 2 mK62 (fun p : Int32 => (some (.int p), HP c r)) (Readings_agree_p2 N c n x1) 2 [some (.ref 59), some (.int x1), none, none] [] (HP c r) := by
  intro n
  induction n with
  | zero => intro x1; exact Ok_none
  | succ n ih => intro x1; exact t_Readings_agree_p2b N d xs c r (Readings_agree_p2 N c n) ih x1
set_option maxHeartbeats 8000000 in
set_option maxRecDepth 100000 in
theorem t_Readings_agree (N d : Nat) (xs : List Int32) (c : St) (r : St) : Ok (mBig (mRoL xs) (d + 1)) (mRoL xs) 2 mK62 (fun p : Int32 => (some (.int p), HP c r)) (Readings_agree N c) 0 [some (.ref 59), none, none, none] [] (HP c r) := by
  unfold Readings_agree
  refine Ok_blk 2 (pc2 := 2) (lo2 := [some (.ref 59), some (.int 0), none, none]) (st2 := []) rfl ?_
  refine Ok_drop (lo0 := [some (.ref 59), some (.int 0), none, none]) ⟨Or.inr rfl, Or.inr rfl, Or.inl rfl, Or.inl rfl, trivial⟩ ?_
  exact t_Readings_agree_p2 N d xs c r N 0
set_option maxHeartbeats 8000000 in
set_option maxRecDepth 100000 in
theorem tm_Readings_agree (N d : Nat) (xs : List Int32) (c r : St) (p : Int32) (hp : Readings_agree N c = some p) : mBig (mRoL xs) (d + 2) 62 [.ref 59] (HP c r) (some (.int p)) (HP c r) 0 0 := mBig_of (by decide) rfl rfl rfl rfl (t_Readings_agree N d xs c r p hp)
/-! ColdHolds$Readings.least(I)I, from (('r', 59), 'i') -/
def Readings_least_p50 (N : Nat) (kb6 : Int32 → Int32 → Int32 → Option (Int32)) (c : St) (x1 : Int32) (x2 : Int32) (x3 : Int32) : Option (Int32) :=
  kb6 x1 x2 (x3 + 1)
def Readings_least_p6b (N : Nat) (kb6 : Int32 → Int32 → Int32 → Option (Int32)) (c : St) (x1 : Int32) (x2 : Int32) (x3 : Int32) : Option (Int32) :=
  (if (gI c 15) ≤ x3 then some x2 else (Readings_isRead N c x3).bind fun p2 => (if p2 = 0 then Readings_least_p50 N kb6 c x1 x2 x3 else (ld (gA c 50) x3).bind fun y4 => (ld (gA c 49) x3).bind fun y5 => (J_abs N (x1 - y5)).bind fun p6 => (J_max N x2 (y4 - ((gI c 16) * p6))).bind fun p7 => Readings_least_p50 N kb6 c x1 p7 x3))
def Readings_least_p6 (N : Nat) (c : St) : Nat → Int32 → Int32 → Int32 → Option (Int32)
  | 0 => fun _ _ _ => none
  | n + 1 => Readings_least_p6b N (Readings_least_p6 N c n) c
def Readings_least (N : Nat) (c : St) (x1 : Int32) : Option (Int32) :=
  Readings_least_p6 N c N x1 (-300) 0
set_option maxHeartbeats 8000000 in
set_option maxRecDepth 100000 in
theorem t_Readings_least_p50 (N d : Nat) (xs : List Int32) (c : St) (r : St) (kb6 : Int32 → Int32 → Int32 → Option (Int32)) (hb6 : ∀ (x1 : Int32) (x2 : Int32) (x3 : Int32), Ok (mBig (mRoL xs) (d + 1)) (mRoL xs) 1 mK63 (fun p : Int32 => (some (.int p), HP c r)) (kb6 x1 x2 x3) 6 [some (.ref 59), some (.int x1), some (.int x2), some (.int x3)] [] (HP c r)) (x1 : Int32) (x2 : Int32) (x3 : Int32) : Ok (mBig (mRoL xs) (d + 1)) (mRoL xs) 1 mK63 (fun p : Int32 => (some (.int p), HP c r)) (Readings_least_p50 N kb6 c x1 x2 x3) 50 [some (.ref 59), some (.int x1), some (.int x2), some (.int x3)] [] (HP c r) := by
  unfold Readings_least_p50
  refine Ok_blk 2 (pc2 := 6) (lo2 := [some (.ref 59), some (.int x1), some (.int x2), some (.int (x3 + 1))]) (st2 := []) rfl ?_
  refine Ok_drop (lo0 := [some (.ref 59), some (.int x1), some (.int x2), some (.int (x3 + 1))]) ⟨Or.inr rfl, Or.inr rfl, Or.inr rfl, Or.inr rfl, trivial⟩ ?_
  exact hb6 x1 x2 (x3 + 1)
set_option maxHeartbeats 8000000 in
set_option maxRecDepth 100000 in
theorem t_Readings_least_p6b (N d : Nat) (xs : List Int32) (c : St) (r : St) (kb6 : Int32 → Int32 → Int32 → Option (Int32)) (hb6 : ∀ (x1 : Int32) (x2 : Int32) (x3 : Int32), Ok (mBig (mRoL xs) (d + 1)) (mRoL xs) 1 mK63 (fun p : Int32 => (some (.int p), HP c r)) (kb6 x1 x2 x3) 6 [some (.ref 59), some (.int x1), some (.int x2), some (.int x3)] [] (HP c r)) (x1 : Int32) (x2 : Int32) (x3 : Int32) : Ok (mBig (mRoL xs) (d + 1)) (mRoL xs) 1 mK63 (fun p : Int32 => (some (.int p), HP c r)) (Readings_least_p6b N kb6 c x1 x2 x3) 6 [some (.ref 59), some (.int x1), some (.int x2), some (.int x3)] [] (HP c r) := by
  unfold Readings_least_p6b
  refine Ok_blk 4 (pc2 := (if (gI c 15) ≤ x3 then 56 else 14)) (lo2 := [some (.ref 59), some (.int x1), some (.int x2), some (.int x3)]) (st2 := []) rfl ?_
  refine Ok_if (fun h1 => ?_) (fun h1 => ?_)
  · refine Ok_blk 1 (pc2 := 57) (lo2 := [some (.ref 59), some (.int x1), some (.int x2), some (.int x3)]) (st2 := [.int x2]) rfl ?_
    exact Ok_ret rfl rfl rfl
  · refine Ok_blk 2 (pc2 := 16) (lo2 := [some (.ref 59), some (.int x1), some (.int x2), some (.int x3)]) (st2 := [.int x3, .ref 59]) rfl ?_
    refine Ok_call (y := 61) (as := [.ref 59, .int x3]) (rest := []) (w := fun p2 => some (.int p2)) (h1 := fun p2 => HP c r) rfl rfl (fun x hx => tm_Readings_isRead N d xs c r x3 x hx) (fun p2 hp2 => ?_)
    refine Ok_blk 1 (pc2 := (if p2 = 0 then 50 else 22)) (lo2 := [some (.ref 59), some (.int x1), some (.int x2), some (.int x3)]) (st2 := []) rfl ?_
    refine Ok_if (fun h3 => ?_) (fun h3 => ?_)
    · refine Ok_drop (lo0 := [some (.ref 59), some (.int x1), some (.int x2), some (.int x3)]) ⟨Or.inr rfl, Or.inr rfl, Or.inr rfl, Or.inr rfl, trivial⟩ ?_
      exact t_Readings_least_p50 N d xs c r kb6 hb6 x1 x2 x3
    · refine Ok_blk 4 (pc2 := 28) (lo2 := [some (.ref 59), some (.int x1), some (.int x2), some (.int x3)]) (st2 := [.int x3, .ref 61, .int x2]) rfl ?_
      refine Ok_ld (l := (gA c 50)) rfl rfl (fun y4 hy4 => ?_)
      refine Ok_blk 6 (pc2 := 39) (lo2 := [some (.ref 59), some (.int x1), some (.int x2), some (.int x3)]) (st2 := [.int x3, .ref 60, .int x1, .int (gI c 16), .int y4, .int x2]) rfl ?_
      refine Ok_ld (l := (gA c 49)) rfl rfl (fun y5 hy5 => ?_)
      refine Ok_blk 1 (pc2 := 41) (lo2 := [some (.ref 59), some (.int x1), some (.int x2), some (.int x3)]) (st2 := [.int (x1 - y5), .int (gI c 16), .int y4, .int x2]) rfl ?_
      refine Ok_call (y := 260) (as := [.int (x1 - y5)]) (rest := [.int (gI c 16), .int y4, .int x2]) (w := fun p6 => some (.int p6)) (h1 := fun p6 => HP c r) rfl rfl (fun x hx => tm_J_abs N d xs c r (x1 - y5) x hx) (fun p6 hp6 => ?_)
      refine Ok_blk 2 (pc2 := 46) (lo2 := [some (.ref 59), some (.int x1), some (.int x2), some (.int x3)]) (st2 := [.int (y4 - ((gI c 16) * p6)), .int x2]) rfl ?_
      refine Ok_call (y := 261) (as := [.int x2, .int (y4 - ((gI c 16) * p6))]) (rest := []) (w := fun p7 => some (.int p7)) (h1 := fun p7 => HP c r) rfl rfl (fun x hx => tm_J_max N d xs c r x2 (y4 - ((gI c 16) * p6)) x hx) (fun p7 hp7 => ?_)
      refine Ok_blk 1 (pc2 := 50) (lo2 := [some (.ref 59), some (.int x1), some (.int p7), some (.int x3)]) (st2 := []) rfl ?_
      refine Ok_drop (lo0 := [some (.ref 59), some (.int x1), some (.int p7), some (.int x3)]) ⟨Or.inr rfl, Or.inr rfl, Or.inr rfl, Or.inr rfl, trivial⟩ ?_
      exact t_Readings_least_p50 N d xs c r kb6 hb6 x1 p7 x3
set_option maxHeartbeats 8000000 in
set_option maxRecDepth 100000 in
theorem t_Readings_least_p6 (N d : Nat) (xs : List Int32) (c : St) (r : St) : ∀ (n : Nat) (x1 : Int32) (x2 : Int32) (x3 : Int32), Ok (mBig (mRoL xs) (d + 1)) (mRoL xs) 1 mK63 (fun p : Int32 => (some (.int p), HP c r)) (Readings_least_p6 N c n x1 x2 x3) 6 [some (.ref 59), some (.int x1), some (.int x2), some (.int x3)] [] (HP c r) := by
  intro n
  induction n with
  | zero => intro x1 x2 x3; exact Ok_none
  | succ n ih => intro x1 x2 x3; exact t_Readings_least_p6b N d xs c r (Readings_least_p6 N c n) ih x1 x2 x3
set_option maxHeartbeats 8000000 in
set_option maxRecDepth 100000 in
theorem t_Readings_least (N d : Nat) (xs : List Int32) (c : St) (r : St) (x1 : Int32) : Ok (mBig (mRoL xs) (d + 1)) (mRoL xs) 1 mK63 (fun p : Int32 => (some (.int p), HP c r)) (Readings_least N c x1) 0 [some (.ref 59), some (.int x1), none, none] [] (HP c r) := by
  unfold Readings_least
  refine Ok_blk 4 (pc2 := 6) (lo2 := [some (.ref 59), some (.int x1), some (.int (-300)), some (.int 0)]) (st2 := []) rfl ?_
  refine Ok_drop (lo0 := [some (.ref 59), some (.int x1), some (.int (-300)), some (.int 0)]) ⟨Or.inr rfl, Or.inr rfl, Or.inr rfl, Or.inr rfl, trivial⟩ ?_
  exact t_Readings_least_p6 N d xs c r N x1 (-300) 0
set_option maxHeartbeats 8000000 in
set_option maxRecDepth 100000 in
theorem tm_Readings_least (N d : Nat) (xs : List Int32) (c r : St) (a1 : Int32) (p : Int32) (hp : Readings_least N c a1 = some p) : mBig (mRoL xs) (d + 2) 63 [.ref 59, .int a1] (HP c r) (some (.int p)) (HP c r) 0 0 := mBig_of (by decide) rfl rfl rfl rfl (t_Readings_least N d xs c r a1 p hp)
/-! ColdHolds$Readings.greatest(I)I, from (('r', 59), 'i') -/
def Readings_greatest_p50 (N : Nat) (kb6 : Int32 → Int32 → Int32 → Option (Int32)) (c : St) (x1 : Int32) (x2 : Int32) (x3 : Int32) : Option (Int32) :=
  kb6 x1 x2 (x3 + 1)
def Readings_greatest_p6b (N : Nat) (kb6 : Int32 → Int32 → Int32 → Option (Int32)) (c : St) (x1 : Int32) (x2 : Int32) (x3 : Int32) : Option (Int32) :=
  (if (gI c 15) ≤ x3 then some x2 else (Readings_isRead N c x3).bind fun p2 => (if p2 = 0 then Readings_greatest_p50 N kb6 c x1 x2 x3 else (ld (gA c 50) x3).bind fun y4 => (ld (gA c 49) x3).bind fun y5 => (J_abs N (x1 - y5)).bind fun p6 => (J_min N x2 (y4 + ((gI c 16) * p6))).bind fun p7 => Readings_greatest_p50 N kb6 c x1 p7 x3))
def Readings_greatest_p6 (N : Nat) (c : St) : Nat → Int32 → Int32 → Int32 → Option (Int32)
  | 0 => fun _ _ _ => none
  | n + 1 => Readings_greatest_p6b N (Readings_greatest_p6 N c n) c
def Readings_greatest (N : Nat) (c : St) (x1 : Int32) : Option (Int32) :=
  Readings_greatest_p6 N c N x1 600 0
set_option maxHeartbeats 8000000 in
set_option maxRecDepth 100000 in
theorem t_Readings_greatest_p50 (N d : Nat) (xs : List Int32) (c : St) (r : St) (kb6 : Int32 → Int32 → Int32 → Option (Int32)) (hb6 : ∀ (x1 : Int32) (x2 : Int32) (x3 : Int32), Ok (mBig (mRoL xs) (d + 1)) (mRoL xs) 1 mK64 (fun p : Int32 => (some (.int p), HP c r)) (kb6 x1 x2 x3) 6 [some (.ref 59), some (.int x1), some (.int x2), some (.int x3)] [] (HP c r)) (x1 : Int32) (x2 : Int32) (x3 : Int32) : Ok (mBig (mRoL xs) (d + 1)) (mRoL xs) 1 mK64 (fun p : Int32 => (some (.int p), HP c r)) (Readings_greatest_p50 N kb6 c x1 x2 x3) 50 [some (.ref 59), some (.int x1), some (.int x2), some (.int x3)] [] (HP c r) := by
  unfold Readings_greatest_p50
  refine Ok_blk 2 (pc2 := 6) (lo2 := [some (.ref 59), some (.int x1), some (.int x2), some (.int (x3 + 1))]) (st2 := []) rfl ?_
  refine Ok_drop (lo0 := [some (.ref 59), some (.int x1), some (.int x2), some (.int (x3 + 1))]) ⟨Or.inr rfl, Or.inr rfl, Or.inr rfl, Or.inr rfl, trivial⟩ ?_
  exact hb6 x1 x2 (x3 + 1)
set_option maxHeartbeats 8000000 in
set_option maxRecDepth 100000 in
theorem t_Readings_greatest_p6b (N d : Nat) (xs : List Int32) (c : St) (r : St) (kb6 : Int32 → Int32 → Int32 → Option (Int32)) (hb6 : ∀ (x1 : Int32) (x2 : Int32) (x3 : Int32), Ok (mBig (mRoL xs) (d + 1)) (mRoL xs) 1 mK64 (fun p : Int32 => (some (.int p), HP c r)) (kb6 x1 x2 x3) 6 [some (.ref 59), some (.int x1), some (.int x2), some (.int x3)] [] (HP c r)) (x1 : Int32) (x2 : Int32) (x3 : Int32) : Ok (mBig (mRoL xs) (d + 1)) (mRoL xs) 1 mK64 (fun p : Int32 => (some (.int p), HP c r)) (Readings_greatest_p6b N kb6 c x1 x2 x3) 6 [some (.ref 59), some (.int x1), some (.int x2), some (.int x3)] [] (HP c r) := by
  unfold Readings_greatest_p6b
  refine Ok_blk 4 (pc2 := (if (gI c 15) ≤ x3 then 56 else 14)) (lo2 := [some (.ref 59), some (.int x1), some (.int x2), some (.int x3)]) (st2 := []) rfl ?_
  refine Ok_if (fun h1 => ?_) (fun h1 => ?_)
  · refine Ok_blk 1 (pc2 := 57) (lo2 := [some (.ref 59), some (.int x1), some (.int x2), some (.int x3)]) (st2 := [.int x2]) rfl ?_
    exact Ok_ret rfl rfl rfl
  · refine Ok_blk 2 (pc2 := 16) (lo2 := [some (.ref 59), some (.int x1), some (.int x2), some (.int x3)]) (st2 := [.int x3, .ref 59]) rfl ?_
    refine Ok_call (y := 61) (as := [.ref 59, .int x3]) (rest := []) (w := fun p2 => some (.int p2)) (h1 := fun p2 => HP c r) rfl rfl (fun x hx => tm_Readings_isRead N d xs c r x3 x hx) (fun p2 hp2 => ?_)
    refine Ok_blk 1 (pc2 := (if p2 = 0 then 50 else 22)) (lo2 := [some (.ref 59), some (.int x1), some (.int x2), some (.int x3)]) (st2 := []) rfl ?_
    refine Ok_if (fun h3 => ?_) (fun h3 => ?_)
    · refine Ok_drop (lo0 := [some (.ref 59), some (.int x1), some (.int x2), some (.int x3)]) ⟨Or.inr rfl, Or.inr rfl, Or.inr rfl, Or.inr rfl, trivial⟩ ?_
      exact t_Readings_greatest_p50 N d xs c r kb6 hb6 x1 x2 x3
    · refine Ok_blk 4 (pc2 := 28) (lo2 := [some (.ref 59), some (.int x1), some (.int x2), some (.int x3)]) (st2 := [.int x3, .ref 61, .int x2]) rfl ?_
      refine Ok_ld (l := (gA c 50)) rfl rfl (fun y4 hy4 => ?_)
      refine Ok_blk 6 (pc2 := 39) (lo2 := [some (.ref 59), some (.int x1), some (.int x2), some (.int x3)]) (st2 := [.int x3, .ref 60, .int x1, .int (gI c 16), .int y4, .int x2]) rfl ?_
      refine Ok_ld (l := (gA c 49)) rfl rfl (fun y5 hy5 => ?_)
      refine Ok_blk 1 (pc2 := 41) (lo2 := [some (.ref 59), some (.int x1), some (.int x2), some (.int x3)]) (st2 := [.int (x1 - y5), .int (gI c 16), .int y4, .int x2]) rfl ?_
      refine Ok_call (y := 260) (as := [.int (x1 - y5)]) (rest := [.int (gI c 16), .int y4, .int x2]) (w := fun p6 => some (.int p6)) (h1 := fun p6 => HP c r) rfl rfl (fun x hx => tm_J_abs N d xs c r (x1 - y5) x hx) (fun p6 hp6 => ?_)
      refine Ok_blk 2 (pc2 := 46) (lo2 := [some (.ref 59), some (.int x1), some (.int x2), some (.int x3)]) (st2 := [.int (y4 + ((gI c 16) * p6)), .int x2]) rfl ?_
      refine Ok_call (y := 262) (as := [.int x2, .int (y4 + ((gI c 16) * p6))]) (rest := []) (w := fun p7 => some (.int p7)) (h1 := fun p7 => HP c r) rfl rfl (fun x hx => tm_J_min N d xs c r x2 (y4 + ((gI c 16) * p6)) x hx) (fun p7 hp7 => ?_)
      refine Ok_blk 1 (pc2 := 50) (lo2 := [some (.ref 59), some (.int x1), some (.int p7), some (.int x3)]) (st2 := []) rfl ?_
      refine Ok_drop (lo0 := [some (.ref 59), some (.int x1), some (.int p7), some (.int x3)]) ⟨Or.inr rfl, Or.inr rfl, Or.inr rfl, Or.inr rfl, trivial⟩ ?_
      exact t_Readings_greatest_p50 N d xs c r kb6 hb6 x1 p7 x3
set_option maxHeartbeats 8000000 in
set_option maxRecDepth 100000 in
theorem t_Readings_greatest_p6 (N d : Nat) (xs : List Int32) (c : St) (r : St) : ∀ (n : Nat) (x1 : Int32) (x2 : Int32) (x3 : Int32), Ok (mBig (mRoL xs) (d + 1)) (mRoL xs) 1 mK64 (fun p : Int32 => (some (.int p), HP c r)) (Readings_greatest_p6 N c n x1 x2 x3) 6 [some (.ref 59), some (.int x1), some (.int x2), some (.int x3)] [] (HP c r) := by
  intro n
  induction n with
  | zero => intro x1 x2 x3; exact Ok_none
  | succ n ih => intro x1 x2 x3; exact t_Readings_greatest_p6b N d xs c r (Readings_greatest_p6 N c n) ih x1 x2 x3
set_option maxHeartbeats 8000000 in
set_option maxRecDepth 100000 in
theorem t_Readings_greatest (N d : Nat) (xs : List Int32) (c : St) (r : St) (x1 : Int32) : Ok (mBig (mRoL xs) (d + 1)) (mRoL xs) 1 mK64 (fun p : Int32 => (some (.int p), HP c r)) (Readings_greatest N c x1) 0 [some (.ref 59), some (.int x1), none, none] [] (HP c r) := by
  unfold Readings_greatest
  refine Ok_blk 4 (pc2 := 6) (lo2 := [some (.ref 59), some (.int x1), some (.int 600), some (.int 0)]) (st2 := []) rfl ?_
  refine Ok_drop (lo0 := [some (.ref 59), some (.int x1), some (.int 600), some (.int 0)]) ⟨Or.inr rfl, Or.inr rfl, Or.inr rfl, Or.inr rfl, trivial⟩ ?_
  exact t_Readings_greatest_p6 N d xs c r N x1 600 0
set_option maxHeartbeats 8000000 in
set_option maxRecDepth 100000 in
theorem tm_Readings_greatest (N d : Nat) (xs : List Int32) (c r : St) (a1 : Int32) (p : Int32) (hp : Readings_greatest N c a1 = some p) : mBig (mRoL xs) (d + 2) 64 [.ref 59, .int a1] (HP c r) (some (.int p)) (HP c r) 0 0 := mBig_of (by decide) rfl rfl rfl rfl (t_Readings_greatest N d xs c r a1 p hp)
/-! ColdHolds.could(II)I, from (('r', 0), 'i', 'i') -/
def C_could_p20 (N : Nat) (c : St) : Option (Int32) :=
  some (-1002)
def C_could (N : Nat) (c : St) (x1 : Int32) (x2 : Int32) : Option (Int32) :=
  (C_within N x1 0 1200).bind fun p1 => (if p1 = 0 then C_could_p20 N c else (C_within N x2 0 1).bind fun p3 => (if ¬ p3 = 0 then (Readings_agree N c).bind fun p5 => (if ¬ p5 = 0 then (if ¬ x2 = 0 then (Readings_greatest N c x1).bind fun p8 => some p8 else (Readings_least N c x1).bind fun p9 => some p9) else some (-1000)) else C_could_p20 N c))
set_option maxHeartbeats 8000000 in
set_option maxRecDepth 100000 in
theorem t_C_could_p20 (N d : Nat) (xs : List Int32) (c : St) (r : St) : Ok (mBig (mRoL xs) (d + 2)) (mRoL xs) 1 mK134 (fun p : Int32 => (some (.int p), HP c r)) (C_could_p20 N c) 20 [none, none, none] [] (HP c r) := by
  unfold C_could_p20
  refine Ok_blk 1 (pc2 := 23) (lo2 := [none, none, none]) (st2 := [.int (-1002)]) rfl ?_
  exact Ok_ret rfl rfl rfl
set_option maxHeartbeats 8000000 in
set_option maxRecDepth 100000 in
theorem t_C_could (N d : Nat) (xs : List Int32) (c : St) (r : St) (x1 : Int32) (x2 : Int32) : Ok (mBig (mRoL xs) (d + 2)) (mRoL xs) 1 mK134 (fun p : Int32 => (some (.int p), HP c r)) (C_could N c x1 x2) 0 [some (.ref 0), some (.int x1), some (.int x2)] [] (HP c r) := by
  unfold C_could
  refine Ok_blk 3 (pc2 := 5) (lo2 := [some (.ref 0), some (.int x1), some (.int x2)]) (st2 := [.int 1200, .int 0, .int x1]) rfl ?_
  refine Ok_call (y := 102) (as := [.int x1, .int 0, .int 1200]) (rest := []) (w := fun p1 => some (.int p1)) (h1 := fun p1 => HP c r) rfl rfl (fun x hx => tm_C_within N (d + 1) xs c r x1 0 1200 x hx) (fun p1 hp1 => ?_)
  refine Ok_blk 1 (pc2 := (if p1 = 0 then 20 else 11)) (lo2 := [some (.ref 0), some (.int x1), some (.int x2)]) (st2 := []) rfl ?_
  refine Ok_if (fun h2 => ?_) (fun h2 => ?_)
  · refine Ok_drop (lo0 := [none, none, none]) ⟨Or.inl rfl, Or.inl rfl, Or.inl rfl, trivial⟩ ?_
    exact t_C_could_p20 N d xs c r
  · refine Ok_blk 3 (pc2 := 14) (lo2 := [some (.ref 0), some (.int x1), some (.int x2)]) (st2 := [.int 1, .int 0, .int x2]) rfl ?_
    refine Ok_call (y := 102) (as := [.int x2, .int 0, .int 1]) (rest := []) (w := fun p3 => some (.int p3)) (h1 := fun p3 => HP c r) rfl rfl (fun x hx => tm_C_within N (d + 1) xs c r x2 0 1 x hx) (fun p3 hp3 => ?_)
    refine Ok_blk 1 (pc2 := (if ¬ p3 = 0 then 24 else 20)) (lo2 := [some (.ref 0), some (.int x1), some (.int x2)]) (st2 := []) rfl ?_
    refine Ok_if (fun h4 => ?_) (fun h4 => ?_)
    · refine Ok_blk 2 (pc2 := 28) (lo2 := [some (.ref 0), some (.int x1), some (.int x2)]) (st2 := [.ref 59]) rfl ?_
      refine Ok_call (y := 62) (as := [.ref 59]) (rest := []) (w := fun p5 => some (.int p5)) (h1 := fun p5 => HP c r) rfl rfl (fun x hx => tm_Readings_agree N d xs c r x hx) (fun p5 hp5 => ?_)
      refine Ok_blk 1 (pc2 := (if ¬ p5 = 0 then 38 else 34)) (lo2 := [some (.ref 0), some (.int x1), some (.int x2)]) (st2 := []) rfl ?_
      refine Ok_if (fun h6 => ?_) (fun h6 => ?_)
      · refine Ok_blk 2 (pc2 := (if ¬ x2 = 0 then 53 else 42)) (lo2 := [some (.ref 0), some (.int x1), some (.int x2)]) (st2 := []) rfl ?_
        refine Ok_if (fun h7 => ?_) (fun h7 => ?_)
        · refine Ok_blk 3 (pc2 := 58) (lo2 := [some (.ref 0), some (.int x1), some (.int x2)]) (st2 := [.int x1, .ref 59]) rfl ?_
          refine Ok_call (y := 64) (as := [.ref 59, .int x1]) (rest := []) (w := fun p8 => some (.int p8)) (h1 := fun p8 => HP c r) rfl rfl (fun x hx => tm_Readings_greatest N d xs c r x1 x hx) (fun p8 hp8 => ?_)
          exact Ok_ret rfl rfl rfl
        · refine Ok_blk 3 (pc2 := 47) (lo2 := [some (.ref 0), some (.int x1), some (.int x2)]) (st2 := [.int x1, .ref 59]) rfl ?_
          refine Ok_call (y := 63) (as := [.ref 59, .int x1]) (rest := []) (w := fun p9 => some (.int p9)) (h1 := fun p9 => HP c r) rfl rfl (fun x hx => tm_Readings_least N d xs c r x1 x hx) (fun p9 hp9 => ?_)
          refine Ok_blk 1 (pc2 := 61) (lo2 := [some (.ref 0), some (.int x1), some (.int x2)]) (st2 := [.int p9]) rfl ?_
          exact Ok_ret rfl rfl rfl
      · refine Ok_blk 1 (pc2 := 37) (lo2 := [some (.ref 0), some (.int x1), some (.int x2)]) (st2 := [.int (-1000)]) rfl ?_
        exact Ok_ret rfl rfl rfl
    · refine Ok_drop (lo0 := [none, none, none]) ⟨Or.inl rfl, Or.inl rfl, Or.inl rfl, trivial⟩ ?_
      exact t_C_could_p20 N d xs c r
set_option maxHeartbeats 8000000 in
set_option maxRecDepth 100000 in
theorem tm_C_could (N d : Nat) (xs : List Int32) (c r : St) (a1 : Int32) (a2 : Int32) (p : Int32) (hp : C_could N c a1 a2 = some p) : mBig (mRoL xs) (d + 3) 134 [.ref 0, .int a1, .int a2] (HP c r) (some (.int p)) (HP c r) 0 0 := mBig_of (by decide) rfl rfl rfl rfl (t_C_could N d xs c r a1 a2 p hp)
/-! ColdHoldsModel.reach(II)I, from (('r', 115), 'i', 'i') -/
def R_reach_p23 (N : Nat) (r : St) (s0 : Int32) (s1 : Int32) : Option (Int32) :=
  some (s0 * s1)
def R_reach (N : Nat) (r : St) (x1 : Int32) (x2 : Int32) : Option (Int32) :=
  (ld (gA r 13) x1).bind fun y1 => (if 0 ≤ (y1 - x2) then R_reach_p23 N r (gI r 11) (y1 - x2) else R_reach_p23 N r (gI r 11) (-(y1 - x2)))
set_option maxHeartbeats 8000000 in
set_option maxRecDepth 100000 in
theorem t_R_reach_p23 (N d : Nat) (xs : List Int32) (c : St) (r : St) (s0 : Int32) (s1 : Int32) : Ok (mBig (mRoL xs) (d)) (mRoL xs) 1 mK209 (fun p : Int32 => (some (.int p), HP c r)) (R_reach_p23 N r s0 s1) 23 [none, none, none, none] [.int s1, .int s0] (HP c r) := by
  unfold R_reach_p23
  refine Ok_blk 1 (pc2 := 24) (lo2 := [none, none, none, none]) (st2 := [.int (s0 * s1)]) rfl ?_
  exact Ok_ret rfl rfl rfl
set_option maxHeartbeats 8000000 in
set_option maxRecDepth 100000 in
theorem t_R_reach (N d : Nat) (xs : List Int32) (c : St) (r : St) (x1 : Int32) (x2 : Int32) : Ok (mBig (mRoL xs) (d)) (mRoL xs) 1 mK209 (fun p : Int32 => (some (.int p), HP c r)) (R_reach N r x1 x2) 0 [some (.ref 115), some (.int x1), some (.int x2), none] [] (HP c r) := by
  unfold R_reach
  refine Ok_blk 3 (pc2 := 5) (lo2 := [some (.ref 115), some (.int x1), some (.int x2), none]) (st2 := [.int x1, .ref 129]) rfl ?_
  refine Ok_ld (l := (gA r 13)) rfl rfl (fun y1 hy1 => ?_)
  refine Ok_blk 7 (pc2 := (if 0 ≤ (y1 - x2) then 22 else 17)) (lo2 := [some (.ref 115), some (.int x1), some (.int x2), some (.int (y1 - x2))]) (st2 := [.int (gI r 11)]) rfl ?_
  refine Ok_if (fun h2 => ?_) (fun h2 => ?_)
  · refine Ok_blk 1 (pc2 := 23) (lo2 := [some (.ref 115), some (.int x1), some (.int x2), some (.int (y1 - x2))]) (st2 := [.int (y1 - x2), .int (gI r 11)]) rfl ?_
    refine Ok_drop (lo0 := [none, none, none, none]) ⟨Or.inl rfl, Or.inl rfl, Or.inl rfl, Or.inl rfl, trivial⟩ ?_
    exact t_R_reach_p23 N d xs c r (gI r 11) (y1 - x2)
  · refine Ok_blk 3 (pc2 := 23) (lo2 := [some (.ref 115), some (.int x1), some (.int x2), some (.int (y1 - x2))]) (st2 := [.int (-(y1 - x2)), .int (gI r 11)]) rfl ?_
    refine Ok_drop (lo0 := [none, none, none, none]) ⟨Or.inl rfl, Or.inl rfl, Or.inl rfl, Or.inl rfl, trivial⟩ ?_
    exact t_R_reach_p23 N d xs c r (gI r 11) (-(y1 - x2))
set_option maxHeartbeats 8000000 in
set_option maxRecDepth 100000 in
theorem tm_R_reach (N d : Nat) (xs : List Int32) (c r : St) (a1 : Int32) (a2 : Int32) (p : Int32) (hp : R_reach N r a1 a2 = some p) : mBig (mRoL xs) (d + 1) 209 [.ref 115, .int a1, .int a2] (HP c r) (some (.int p)) (HP c r) 0 0 := mBig_of (by decide) rfl rfl rfl rfl (t_R_reach N d xs c r a1 a2 p hp)
/-! ColdHoldsModel.couldBe(II)I, from (('r', 115), 'i', 'i') -/
def R_couldBe_p110 (N : Nat) (kb17 : Int32 → Int32 → Int32 → Int32 → Option (Int32)) (r : St) (x1 : Int32) (x2 : Int32) (x3 : Int32) (x4 : Int32) : Option (Int32) :=
  kb17 x1 x2 x3 (x4 + 1)
def R_couldBe_p109 (N : Nat) (kb17 : Int32 → Int32 → Int32 → Int32 → Option (Int32)) (r : St) (x1 : Int32) (x2 : Int32) (x4 : Int32) (s0 : Int32) : Option (Int32) :=
  R_couldBe_p110 N kb17 r x1 x2 s0 x4
def R_couldBe_p76 (N : Nat) (kb17 : Int32 → Int32 → Int32 → Int32 → Option (Int32)) (r : St) (x1 : Int32) (x2 : Int32) (x3 : Int32) (x4 : Int32) (s0 : Int32) : Option (Int32) :=
  (if ¬ x2 = 0 then (if x3 ≤ s0 then R_couldBe_p109 N kb17 r x1 x2 x4 x3 else R_couldBe_p109 N kb17 r x1 x2 x4 s0) else (if s0 ≤ x3 then R_couldBe_p109 N kb17 r x1 x2 x4 x3 else R_couldBe_p109 N kb17 r x1 x2 x4 s0))
def R_couldBe_p17b (N : Nat) (kb17 : Int32 → Int32 → Int32 → Int32 → Option (Int32)) (r : St) (x1 : Int32) (x2 : Int32) (x3 : Int32) (x4 : Int32) : Option (Int32) :=
  (if (gI r 10) ≤ x4 then some x3 else (ld (gA r 14) x4).bind fun y3 => (if y3 = (-999) then R_couldBe_p110 N kb17 r x1 x2 x3 x4 else (if ¬ x2 = 0 then (ld (gA r 14) x4).bind fun y6 => (R_reach N r x4 x1).bind fun p7 => R_couldBe_p76 N kb17 r x1 x2 x3 x4 (y6 + p7) else (ld (gA r 14) x4).bind fun y11 => (R_reach N r x4 x1).bind fun p12 => R_couldBe_p76 N kb17 r x1 x2 x3 x4 (y11 - p12))))
def R_couldBe_p17 (N : Nat) (r : St) : Nat → Int32 → Int32 → Int32 → Int32 → Option (Int32)
  | 0 => fun _ _ _ _ => none
  | n + 1 => R_couldBe_p17b N (R_couldBe_p17 N r n) r
def R_couldBe_p13 (N : Nat) (r : St) (x1 : Int32) (x2 : Int32) (s0 : Int32) : Option (Int32) :=
  R_couldBe_p17 N r N x1 x2 s0 0
def R_couldBe (N : Nat) (r : St) (x1 : Int32) (x2 : Int32) : Option (Int32) :=
  (if ¬ x2 = 0 then R_couldBe_p13 N r x1 x2 600 else R_couldBe_p13 N r x1 x2 (-300))
set_option maxHeartbeats 8000000 in
set_option maxRecDepth 100000 in
theorem t_R_couldBe_p110 (N d : Nat) (xs : List Int32) (c : St) (r : St) (kb17 : Int32 → Int32 → Int32 → Int32 → Option (Int32)) (hb17 : ∀ (x1 : Int32) (x2 : Int32) (x3 : Int32) (x4 : Int32), Ok (mBig (mRoL xs) (d + 1)) (mRoL xs) 1 mK210 (fun p : Int32 => (some (.int p), HP c r)) (kb17 x1 x2 x3 x4) 17 [some (.ref 115), some (.int x1), some (.int x2), some (.int x3), some (.int x4), none] [] (HP c r)) (x1 : Int32) (x2 : Int32) (x3 : Int32) (x4 : Int32) : Ok (mBig (mRoL xs) (d + 1)) (mRoL xs) 1 mK210 (fun p : Int32 => (some (.int p), HP c r)) (R_couldBe_p110 N kb17 r x1 x2 x3 x4) 110 [some (.ref 115), some (.int x1), some (.int x2), some (.int x3), some (.int x4), none] [] (HP c r) := by
  unfold R_couldBe_p110
  refine Ok_blk 2 (pc2 := 17) (lo2 := [some (.ref 115), some (.int x1), some (.int x2), some (.int x3), some (.int (x4 + 1)), none]) (st2 := []) rfl ?_
  refine Ok_drop (lo0 := [some (.ref 115), some (.int x1), some (.int x2), some (.int x3), some (.int (x4 + 1)), none]) ⟨Or.inr rfl, Or.inr rfl, Or.inr rfl, Or.inr rfl, Or.inr rfl, Or.inl rfl, trivial⟩ ?_
  exact hb17 x1 x2 x3 (x4 + 1)
set_option maxHeartbeats 8000000 in
set_option maxRecDepth 100000 in
theorem t_R_couldBe_p109 (N d : Nat) (xs : List Int32) (c : St) (r : St) (kb17 : Int32 → Int32 → Int32 → Int32 → Option (Int32)) (hb17 : ∀ (x1 : Int32) (x2 : Int32) (x3 : Int32) (x4 : Int32), Ok (mBig (mRoL xs) (d + 1)) (mRoL xs) 1 mK210 (fun p : Int32 => (some (.int p), HP c r)) (kb17 x1 x2 x3 x4) 17 [some (.ref 115), some (.int x1), some (.int x2), some (.int x3), some (.int x4), none] [] (HP c r)) (x1 : Int32) (x2 : Int32) (x4 : Int32) (s0 : Int32) : Ok (mBig (mRoL xs) (d + 1)) (mRoL xs) 1 mK210 (fun p : Int32 => (some (.int p), HP c r)) (R_couldBe_p109 N kb17 r x1 x2 x4 s0) 109 [some (.ref 115), some (.int x1), some (.int x2), none, some (.int x4), none] [.int s0] (HP c r) := by
  unfold R_couldBe_p109
  refine Ok_blk 1 (pc2 := 110) (lo2 := [some (.ref 115), some (.int x1), some (.int x2), some (.int s0), some (.int x4), none]) (st2 := []) rfl ?_
  refine Ok_drop (lo0 := [some (.ref 115), some (.int x1), some (.int x2), some (.int s0), some (.int x4), none]) ⟨Or.inr rfl, Or.inr rfl, Or.inr rfl, Or.inr rfl, Or.inr rfl, Or.inl rfl, trivial⟩ ?_
  exact t_R_couldBe_p110 N d xs c r kb17 hb17 x1 x2 s0 x4
set_option maxHeartbeats 8000000 in
set_option maxRecDepth 100000 in
theorem t_R_couldBe_p76 (N d : Nat) (xs : List Int32) (c : St) (r : St) (kb17 : Int32 → Int32 → Int32 → Int32 → Option (Int32)) (hb17 : ∀ (x1 : Int32) (x2 : Int32) (x3 : Int32) (x4 : Int32), Ok (mBig (mRoL xs) (d + 1)) (mRoL xs) 1 mK210 (fun p : Int32 => (some (.int p), HP c r)) (kb17 x1 x2 x3 x4) 17 [some (.ref 115), some (.int x1), some (.int x2), some (.int x3), some (.int x4), none] [] (HP c r)) (x1 : Int32) (x2 : Int32) (x3 : Int32) (x4 : Int32) (s0 : Int32) : Ok (mBig (mRoL xs) (d + 1)) (mRoL xs) 1 mK210 (fun p : Int32 => (some (.int p), HP c r)) (R_couldBe_p76 N kb17 r x1 x2 x3 x4 s0) 76 [some (.ref 115), some (.int x1), some (.int x2), some (.int x3), some (.int x4), none] [.int s0] (HP c r) := by
  unfold R_couldBe_p76
  refine Ok_blk 3 (pc2 := (if ¬ x2 = 0 then 97 else 82)) (lo2 := [some (.ref 115), some (.int x1), some (.int x2), some (.int x3), some (.int x4), some (.int s0)]) (st2 := []) rfl ?_
  refine Ok_if (fun h8 => ?_) (fun h8 => ?_)
  · refine Ok_blk 3 (pc2 := (if x3 ≤ s0 then 108 else 103)) (lo2 := [some (.ref 115), some (.int x1), some (.int x2), some (.int x3), some (.int x4), some (.int s0)]) (st2 := []) rfl ?_
    refine Ok_if (fun h9 => ?_) (fun h9 => ?_)
    · refine Ok_blk 1 (pc2 := 109) (lo2 := [some (.ref 115), some (.int x1), some (.int x2), some (.int x3), some (.int x4), some (.int s0)]) (st2 := [.int x3]) rfl ?_
      refine Ok_drop (lo0 := [some (.ref 115), some (.int x1), some (.int x2), none, some (.int x4), none]) ⟨Or.inr rfl, Or.inr rfl, Or.inr rfl, Or.inl rfl, Or.inr rfl, Or.inl rfl, trivial⟩ ?_
      exact t_R_couldBe_p109 N d xs c r kb17 hb17 x1 x2 x4 x3
    · refine Ok_blk 2 (pc2 := 109) (lo2 := [some (.ref 115), some (.int x1), some (.int x2), some (.int x3), some (.int x4), some (.int s0)]) (st2 := [.int s0]) rfl ?_
      refine Ok_drop (lo0 := [some (.ref 115), some (.int x1), some (.int x2), none, some (.int x4), none]) ⟨Or.inr rfl, Or.inr rfl, Or.inr rfl, Or.inl rfl, Or.inr rfl, Or.inl rfl, trivial⟩ ?_
      exact t_R_couldBe_p109 N d xs c r kb17 hb17 x1 x2 x4 s0
  · refine Ok_blk 3 (pc2 := (if s0 ≤ x3 then 93 else 88)) (lo2 := [some (.ref 115), some (.int x1), some (.int x2), some (.int x3), some (.int x4), some (.int s0)]) (st2 := []) rfl ?_
    refine Ok_if (fun h10 => ?_) (fun h10 => ?_)
    · refine Ok_blk 2 (pc2 := 109) (lo2 := [some (.ref 115), some (.int x1), some (.int x2), some (.int x3), some (.int x4), some (.int s0)]) (st2 := [.int x3]) rfl ?_
      refine Ok_drop (lo0 := [some (.ref 115), some (.int x1), some (.int x2), none, some (.int x4), none]) ⟨Or.inr rfl, Or.inr rfl, Or.inr rfl, Or.inl rfl, Or.inr rfl, Or.inl rfl, trivial⟩ ?_
      exact t_R_couldBe_p109 N d xs c r kb17 hb17 x1 x2 x4 x3
    · refine Ok_blk 2 (pc2 := 109) (lo2 := [some (.ref 115), some (.int x1), some (.int x2), some (.int x3), some (.int x4), some (.int s0)]) (st2 := [.int s0]) rfl ?_
      refine Ok_drop (lo0 := [some (.ref 115), some (.int x1), some (.int x2), none, some (.int x4), none]) ⟨Or.inr rfl, Or.inr rfl, Or.inr rfl, Or.inl rfl, Or.inr rfl, Or.inl rfl, trivial⟩ ?_
      exact t_R_couldBe_p109 N d xs c r kb17 hb17 x1 x2 x4 s0
set_option maxHeartbeats 8000000 in
set_option maxRecDepth 100000 in
theorem t_R_couldBe_p17b (N d : Nat) (xs : List Int32) (c : St) (r : St) (kb17 : Int32 → Int32 → Int32 → Int32 → Option (Int32)) (hb17 : ∀ (x1 : Int32) (x2 : Int32) (x3 : Int32) (x4 : Int32), Ok (mBig (mRoL xs) (d + 1)) (mRoL xs) 1 mK210 (fun p : Int32 => (some (.int p), HP c r)) (kb17 x1 x2 x3 x4) 17 [some (.ref 115), some (.int x1), some (.int x2), some (.int x3), some (.int x4), none] [] (HP c r)) (x1 : Int32) (x2 : Int32) (x3 : Int32) (x4 : Int32) : Ok (mBig (mRoL xs) (d + 1)) (mRoL xs) 1 mK210 (fun p : Int32 => (some (.int p), HP c r)) (R_couldBe_p17b N kb17 r x1 x2 x3 x4) 17 [some (.ref 115), some (.int x1), some (.int x2), some (.int x3), some (.int x4), none] [] (HP c r) := by
  unfold R_couldBe_p17b
  refine Ok_blk 4 (pc2 := (if (gI r 10) ≤ x4 then 116 else 26)) (lo2 := [some (.ref 115), some (.int x1), some (.int x2), some (.int x3), some (.int x4), none]) (st2 := []) rfl ?_
  refine Ok_if (fun h2 => ?_) (fun h2 => ?_)
  · refine Ok_blk 1 (pc2 := 117) (lo2 := [some (.ref 115), some (.int x1), some (.int x2), some (.int x3), some (.int x4), none]) (st2 := [.int x3]) rfl ?_
    exact Ok_ret rfl rfl rfl
  · refine Ok_blk 3 (pc2 := 32) (lo2 := [some (.ref 115), some (.int x1), some (.int x2), some (.int x3), some (.int x4), none]) (st2 := [.int x4, .ref 130]) rfl ?_
    refine Ok_ld (l := (gA r 14)) rfl rfl (fun y3 hy3 => ?_)
    refine Ok_blk 2 (pc2 := (if y3 = (-999) then 110 else 39)) (lo2 := [some (.ref 115), some (.int x1), some (.int x2), some (.int x3), some (.int x4), none]) (st2 := []) rfl ?_
    refine Ok_if (fun h4 => ?_) (fun h4 => ?_)
    · refine Ok_drop (lo0 := [some (.ref 115), some (.int x1), some (.int x2), some (.int x3), some (.int x4), none]) ⟨Or.inr rfl, Or.inr rfl, Or.inr rfl, Or.inr rfl, Or.inr rfl, Or.inl rfl, trivial⟩ ?_
      exact t_R_couldBe_p110 N d xs c r kb17 hb17 x1 x2 x3 x4
    · refine Ok_blk 2 (pc2 := (if ¬ x2 = 0 then 61 else 43)) (lo2 := [some (.ref 115), some (.int x1), some (.int x2), some (.int x3), some (.int x4), none]) (st2 := []) rfl ?_
      refine Ok_if (fun h5 => ?_) (fun h5 => ?_)
      · refine Ok_blk 3 (pc2 := 67) (lo2 := [some (.ref 115), some (.int x1), some (.int x2), some (.int x3), some (.int x4), none]) (st2 := [.int x4, .ref 130]) rfl ?_
        refine Ok_ld (l := (gA r 14)) rfl rfl (fun y6 hy6 => ?_)
        refine Ok_blk 3 (pc2 := 72) (lo2 := [some (.ref 115), some (.int x1), some (.int x2), some (.int x3), some (.int x4), none]) (st2 := [.int x1, .int x4, .ref 115, .int y6]) rfl ?_
        refine Ok_call (y := 209) (as := [.ref 115, .int x4, .int x1]) (rest := [.int y6]) (w := fun p7 => some (.int p7)) (h1 := fun p7 => HP c r) rfl rfl (fun x hx => tm_R_reach N d xs c r x4 x1 x hx) (fun p7 hp7 => ?_)
        refine Ok_blk 1 (pc2 := 76) (lo2 := [some (.ref 115), some (.int x1), some (.int x2), some (.int x3), some (.int x4), none]) (st2 := [.int (y6 + p7)]) rfl ?_
        refine Ok_drop (lo0 := [some (.ref 115), some (.int x1), some (.int x2), some (.int x3), some (.int x4), none]) ⟨Or.inr rfl, Or.inr rfl, Or.inr rfl, Or.inr rfl, Or.inr rfl, Or.inl rfl, trivial⟩ ?_
        exact t_R_couldBe_p76 N d xs c r kb17 hb17 x1 x2 x3 x4 (y6 + p7)
      · refine Ok_blk 3 (pc2 := 49) (lo2 := [some (.ref 115), some (.int x1), some (.int x2), some (.int x3), some (.int x4), none]) (st2 := [.int x4, .ref 130]) rfl ?_
        refine Ok_ld (l := (gA r 14)) rfl rfl (fun y11 hy11 => ?_)
        refine Ok_blk 3 (pc2 := 54) (lo2 := [some (.ref 115), some (.int x1), some (.int x2), some (.int x3), some (.int x4), none]) (st2 := [.int x1, .int x4, .ref 115, .int y11]) rfl ?_
        refine Ok_call (y := 209) (as := [.ref 115, .int x4, .int x1]) (rest := [.int y11]) (w := fun p12 => some (.int p12)) (h1 := fun p12 => HP c r) rfl rfl (fun x hx => tm_R_reach N d xs c r x4 x1 x hx) (fun p12 hp12 => ?_)
        refine Ok_blk 2 (pc2 := 76) (lo2 := [some (.ref 115), some (.int x1), some (.int x2), some (.int x3), some (.int x4), none]) (st2 := [.int (y11 - p12)]) rfl ?_
        refine Ok_drop (lo0 := [some (.ref 115), some (.int x1), some (.int x2), some (.int x3), some (.int x4), none]) ⟨Or.inr rfl, Or.inr rfl, Or.inr rfl, Or.inr rfl, Or.inr rfl, Or.inl rfl, trivial⟩ ?_
        exact t_R_couldBe_p76 N d xs c r kb17 hb17 x1 x2 x3 x4 (y11 - p12)
set_option maxHeartbeats 8000000 in
set_option maxRecDepth 100000 in
theorem t_R_couldBe_p17 (N d : Nat) (xs : List Int32) (c : St) (r : St) : ∀ (n : Nat) (x1 : Int32) (x2 : Int32) (x3 : Int32) (x4 : Int32), Ok (mBig (mRoL xs) (d + 1)) (mRoL xs) 1 mK210 (fun p : Int32 => (some (.int p), HP c r)) (R_couldBe_p17 N r n x1 x2 x3 x4) 17 [some (.ref 115), some (.int x1), some (.int x2), some (.int x3), some (.int x4), none] [] (HP c r) := by
  intro n
  induction n with
  | zero => intro x1 x2 x3 x4; exact Ok_none
  | succ n ih => intro x1 x2 x3 x4; exact t_R_couldBe_p17b N d xs c r (R_couldBe_p17 N r n) ih x1 x2 x3 x4
set_option maxHeartbeats 8000000 in
set_option maxRecDepth 100000 in
theorem t_R_couldBe_p13 (N d : Nat) (xs : List Int32) (c : St) (r : St) (x1 : Int32) (x2 : Int32) (s0 : Int32) : Ok (mBig (mRoL xs) (d + 1)) (mRoL xs) 1 mK210 (fun p : Int32 => (some (.int p), HP c r)) (R_couldBe_p13 N r x1 x2 s0) 13 [some (.ref 115), some (.int x1), some (.int x2), none, none, none] [.int s0] (HP c r) := by
  unfold R_couldBe_p13
  refine Ok_blk 3 (pc2 := 17) (lo2 := [some (.ref 115), some (.int x1), some (.int x2), some (.int s0), some (.int 0), none]) (st2 := []) rfl ?_
  refine Ok_drop (lo0 := [some (.ref 115), some (.int x1), some (.int x2), some (.int s0), some (.int 0), none]) ⟨Or.inr rfl, Or.inr rfl, Or.inr rfl, Or.inr rfl, Or.inr rfl, Or.inl rfl, trivial⟩ ?_
  exact t_R_couldBe_p17 N d xs c r N x1 x2 s0 0
set_option maxHeartbeats 8000000 in
set_option maxRecDepth 100000 in
theorem t_R_couldBe (N d : Nat) (xs : List Int32) (c : St) (r : St) (x1 : Int32) (x2 : Int32) : Ok (mBig (mRoL xs) (d + 1)) (mRoL xs) 1 mK210 (fun p : Int32 => (some (.int p), HP c r)) (R_couldBe N r x1 x2) 0 [some (.ref 115), some (.int x1), some (.int x2), none, none, none] [] (HP c r) := by
  unfold R_couldBe
  refine Ok_blk 2 (pc2 := (if ¬ x2 = 0 then 10 else 4)) (lo2 := [some (.ref 115), some (.int x1), some (.int x2), none, none, none]) (st2 := []) rfl ?_
  refine Ok_if (fun h1 => ?_) (fun h1 => ?_)
  · refine Ok_blk 1 (pc2 := 13) (lo2 := [some (.ref 115), some (.int x1), some (.int x2), none, none, none]) (st2 := [.int 600]) rfl ?_
    refine Ok_drop (lo0 := [some (.ref 115), some (.int x1), some (.int x2), none, none, none]) ⟨Or.inr rfl, Or.inr rfl, Or.inr rfl, Or.inl rfl, Or.inl rfl, Or.inl rfl, trivial⟩ ?_
    exact t_R_couldBe_p13 N d xs c r x1 x2 600
  · refine Ok_blk 2 (pc2 := 13) (lo2 := [some (.ref 115), some (.int x1), some (.int x2), none, none, none]) (st2 := [.int (-300)]) rfl ?_
    refine Ok_drop (lo0 := [some (.ref 115), some (.int x1), some (.int x2), none, none, none]) ⟨Or.inr rfl, Or.inr rfl, Or.inr rfl, Or.inl rfl, Or.inl rfl, Or.inl rfl, trivial⟩ ?_
    exact t_R_couldBe_p13 N d xs c r x1 x2 (-300)
set_option maxHeartbeats 8000000 in
set_option maxRecDepth 100000 in
theorem tm_R_couldBe (N d : Nat) (xs : List Int32) (c r : St) (a1 : Int32) (a2 : Int32) (p : Int32) (hp : R_couldBe N r a1 a2 = some p) : mBig (mRoL xs) (d + 2) 210 [.ref 115, .int a1, .int a2] (HP c r) (some (.int p)) (HP c r) 0 0 := mBig_of (by decide) rfl rfl rfl rfl (t_R_couldBe N d xs c r a1 a2 p hp)
/-! ColdHoldsModel.goTogether()Z, from (('r', 115),) -/
def R_goTogether_p64 (N : Nat) (kb2 : Int32 → Option (Int32)) (r : St) (x1 : Int32) : Option (Int32) :=
  kb2 (x1 + 1)
def R_goTogether_p62 (N : Nat) (r : St) : Option (Int32) :=
  some 0
def R_goTogether_p2b (N : Nat) (kb2 : Int32 → Option (Int32)) (r : St) (x1 : Int32) : Option (Int32) :=
  (if (gI r 10) ≤ x1 then some 1 else (ld (gA r 14) x1).bind fun y2 => (if y2 = (-999) then R_goTogether_p64 N kb2 r x1 else (ld (gA r 13) x1).bind fun y4 => (R_couldBe N r y4 0).bind fun p5 => (ld (gA r 14) x1).bind fun y6 => (if y6 < p5 then R_goTogether_p62 N r else (ld (gA r 13) x1).bind fun y8 => (R_couldBe N r y8 1).bind fun p9 => (ld (gA r 14) x1).bind fun y10 => (if y10 ≤ p9 then R_goTogether_p64 N kb2 r x1 else R_goTogether_p62 N r))))
def R_goTogether_p2 (N : Nat) (r : St) : Nat → Int32 → Option (Int32)
  | 0 => fun _ => none
  | n + 1 => R_goTogether_p2b N (R_goTogether_p2 N r n) r
def R_goTogether (N : Nat) (r : St) : Option (Int32) :=
  R_goTogether_p2 N r N 0
set_option maxHeartbeats 8000000 in
set_option maxRecDepth 100000 in
theorem t_R_goTogether_p64 (N d : Nat) (xs : List Int32) (c : St) (r : St) (kb2 : Int32 → Option (Int32)) (hb2 : ∀ (x1 : Int32), Ok (mBig (mRoL xs) (d + 2)) (mRoL xs) 2 mK211 (fun p : Int32 => (some (.int p), HP c r)) (kb2 x1) 2 [some (.ref 115), some (.int x1)] [] (HP c r)) (x1 : Int32) : Ok (mBig (mRoL xs) (d + 2)) (mRoL xs) 2 mK211 (fun p : Int32 => (some (.int p), HP c r)) (R_goTogether_p64 N kb2 r x1) 64 [some (.ref 115), some (.int x1)] [] (HP c r) := by
  unfold R_goTogether_p64
  refine Ok_blk 2 (pc2 := 2) (lo2 := [some (.ref 115), some (.int (x1 + 1))]) (st2 := []) rfl ?_
  refine Ok_drop (lo0 := [some (.ref 115), some (.int (x1 + 1))]) ⟨Or.inr rfl, Or.inr rfl, trivial⟩ ?_
  exact hb2 (x1 + 1)
set_option maxHeartbeats 8000000 in
set_option maxRecDepth 100000 in
theorem t_R_goTogether_p62 (N d : Nat) (xs : List Int32) (c : St) (r : St) : Ok (mBig (mRoL xs) (d + 2)) (mRoL xs) 2 mK211 (fun p : Int32 => (some (.int p), HP c r)) (R_goTogether_p62 N r) 62 [none, none] [] (HP c r) := by
  unfold R_goTogether_p62
  refine Ok_blk 1 (pc2 := 63) (lo2 := [none, none]) (st2 := [.int 0]) rfl ?_
  exact Ok_rez (Or.inl rfl) rfl rfl
set_option maxHeartbeats 8000000 in
set_option maxRecDepth 100000 in
theorem t_R_goTogether_p2b (N d : Nat) (xs : List Int32) (c : St) (r : St) (kb2 : Int32 → Option (Int32)) (hb2 : ∀ (x1 : Int32), Ok (mBig (mRoL xs) (d + 2)) (mRoL xs) 2 mK211 (fun p : Int32 => (some (.int p), HP c r)) (kb2 x1) 2 [some (.ref 115), some (.int x1)] [] (HP c r)) (x1 : Int32) : Ok (mBig (mRoL xs) (d + 2)) (mRoL xs) 2 mK211 (fun p : Int32 => (some (.int p), HP c r)) (R_goTogether_p2b N kb2 r x1) 2 [some (.ref 115), some (.int x1)] [] (HP c r) := by
  unfold R_goTogether_p2b
  refine Ok_blk 4 (pc2 := (if (gI r 10) ≤ x1 then 70 else 10)) (lo2 := [some (.ref 115), some (.int x1)]) (st2 := []) rfl ?_
  refine Ok_if (fun h1 => ?_) (fun h1 => ?_)
  · refine Ok_blk 1 (pc2 := 71) (lo2 := [some (.ref 115), some (.int x1)]) (st2 := [.int 1]) rfl ?_
    exact Ok_rez (Or.inr rfl) rfl rfl
  · refine Ok_blk 3 (pc2 := 15) (lo2 := [some (.ref 115), some (.int x1)]) (st2 := [.int x1, .ref 130]) rfl ?_
    refine Ok_ld (l := (gA r 14)) rfl rfl (fun y2 hy2 => ?_)
    refine Ok_blk 2 (pc2 := (if y2 = (-999) then 64 else 22)) (lo2 := [some (.ref 115), some (.int x1)]) (st2 := []) rfl ?_
    refine Ok_if (fun h3 => ?_) (fun h3 => ?_)
    · refine Ok_drop (lo0 := [some (.ref 115), some (.int x1)]) ⟨Or.inr rfl, Or.inr rfl, trivial⟩ ?_
      exact t_R_goTogether_p64 N d xs c r kb2 hb2 x1
    · refine Ok_blk 4 (pc2 := 28) (lo2 := [some (.ref 115), some (.int x1)]) (st2 := [.int x1, .ref 129, .ref 115]) rfl ?_
      refine Ok_ld (l := (gA r 13)) rfl rfl (fun y4 hy4 => ?_)
      refine Ok_blk 1 (pc2 := 30) (lo2 := [some (.ref 115), some (.int x1)]) (st2 := [.int 0, .int y4, .ref 115]) rfl ?_
      refine Ok_call (y := 210) (as := [.ref 115, .int y4, .int 0]) (rest := []) (w := fun p5 => some (.int p5)) (h1 := fun p5 => HP c r) rfl rfl (fun x hx => tm_R_couldBe N d xs c r y4 0 x hx) (fun p5 hp5 => ?_)
      refine Ok_blk 3 (pc2 := 38) (lo2 := [some (.ref 115), some (.int x1)]) (st2 := [.int x1, .ref 130, .int p5]) rfl ?_
      refine Ok_ld (l := (gA r 14)) rfl rfl (fun y6 hy6 => ?_)
      refine Ok_blk 1 (pc2 := (if y6 < p5 then 62 else 42)) (lo2 := [some (.ref 115), some (.int x1)]) (st2 := []) rfl ?_
      refine Ok_if (fun h7 => ?_) (fun h7 => ?_)
      · refine Ok_drop (lo0 := [none, none]) ⟨Or.inl rfl, Or.inl rfl, trivial⟩ ?_
        exact t_R_goTogether_p62 N d xs c r
      · refine Ok_blk 4 (pc2 := 48) (lo2 := [some (.ref 115), some (.int x1)]) (st2 := [.int x1, .ref 129, .ref 115]) rfl ?_
        refine Ok_ld (l := (gA r 13)) rfl rfl (fun y8 hy8 => ?_)
        refine Ok_blk 1 (pc2 := 50) (lo2 := [some (.ref 115), some (.int x1)]) (st2 := [.int 1, .int y8, .ref 115]) rfl ?_
        refine Ok_call (y := 210) (as := [.ref 115, .int y8, .int 1]) (rest := []) (w := fun p9 => some (.int p9)) (h1 := fun p9 => HP c r) rfl rfl (fun x hx => tm_R_couldBe N d xs c r y8 1 x hx) (fun p9 hp9 => ?_)
        refine Ok_blk 3 (pc2 := 58) (lo2 := [some (.ref 115), some (.int x1)]) (st2 := [.int x1, .ref 130, .int p9]) rfl ?_
        refine Ok_ld (l := (gA r 14)) rfl rfl (fun y10 hy10 => ?_)
        refine Ok_blk 1 (pc2 := (if y10 ≤ p9 then 64 else 62)) (lo2 := [some (.ref 115), some (.int x1)]) (st2 := []) rfl ?_
        refine Ok_if (fun h11 => ?_) (fun h11 => ?_)
        · refine Ok_drop (lo0 := [some (.ref 115), some (.int x1)]) ⟨Or.inr rfl, Or.inr rfl, trivial⟩ ?_
          exact t_R_goTogether_p64 N d xs c r kb2 hb2 x1
        · refine Ok_drop (lo0 := [none, none]) ⟨Or.inl rfl, Or.inl rfl, trivial⟩ ?_
          exact t_R_goTogether_p62 N d xs c r
set_option maxHeartbeats 8000000 in
set_option maxRecDepth 100000 in
theorem t_R_goTogether_p2 (N d : Nat) (xs : List Int32) (c : St) (r : St) : ∀ (n : Nat) (x1 : Int32), Ok (mBig (mRoL xs) (d + 2)) (mRoL xs) 2 mK211 (fun p : Int32 => (some (.int p), HP c r)) (R_goTogether_p2 N r n x1) 2 [some (.ref 115), some (.int x1)] [] (HP c r) := by
  intro n
  induction n with
  | zero => intro x1; exact Ok_none
  | succ n ih => intro x1; exact t_R_goTogether_p2b N d xs c r (R_goTogether_p2 N r n) ih x1
set_option maxHeartbeats 8000000 in
set_option maxRecDepth 100000 in
theorem t_R_goTogether (N d : Nat) (xs : List Int32) (c : St) (r : St) : Ok (mBig (mRoL xs) (d + 2)) (mRoL xs) 2 mK211 (fun p : Int32 => (some (.int p), HP c r)) (R_goTogether N r) 0 [some (.ref 115), none] [] (HP c r) := by
  unfold R_goTogether
  refine Ok_blk 2 (pc2 := 2) (lo2 := [some (.ref 115), some (.int 0)]) (st2 := []) rfl ?_
  refine Ok_drop (lo0 := [some (.ref 115), some (.int 0)]) ⟨Or.inr rfl, Or.inr rfl, trivial⟩ ?_
  exact t_R_goTogether_p2 N d xs c r N 0
set_option maxHeartbeats 8000000 in
set_option maxRecDepth 100000 in
theorem tm_R_goTogether (N d : Nat) (xs : List Int32) (c r : St) (p : Int32) (hp : R_goTogether N r = some p) : mBig (mRoL xs) (d + 3) 211 [.ref 115] (HP c r) (some (.int p)) (HP c r) 0 0 := mBig_of (by decide) rfl rfl rfl rfl (t_R_goTogether N d xs c r p hp)
/-! ColdHoldsModel.could(II)I, from (('r', 115), 'i', 'i') -/
def R_could_p20 (N : Nat) (r : St) : Option (Int32) :=
  some (-1002)
def R_could (N : Nat) (r : St) (x1 : Int32) (x2 : Int32) : Option (Int32) :=
  (R_in N x1 0 1200).bind fun p1 => (if p1 = 0 then R_could_p20 N r else (R_in N x2 0 1).bind fun p3 => (if ¬ p3 = 0 then (R_goTogether N r).bind fun p5 => (if p5 = 0 then some (-1000) else (R_couldBe N r x1 x2).bind fun p7 => some p7) else R_could_p20 N r))
set_option maxHeartbeats 8000000 in
set_option maxRecDepth 100000 in
theorem t_R_could_p20 (N d : Nat) (xs : List Int32) (c : St) (r : St) : Ok (mBig (mRoL xs) (d + 3)) (mRoL xs) 1 mK212 (fun p : Int32 => (some (.int p), HP c r)) (R_could_p20 N r) 20 [none, none, none] [] (HP c r) := by
  unfold R_could_p20
  refine Ok_blk 1 (pc2 := 23) (lo2 := [none, none, none]) (st2 := [.int (-1002)]) rfl ?_
  exact Ok_ret rfl rfl rfl
set_option maxHeartbeats 8000000 in
set_option maxRecDepth 100000 in
theorem t_R_could (N d : Nat) (xs : List Int32) (c : St) (r : St) (x1 : Int32) (x2 : Int32) : Ok (mBig (mRoL xs) (d + 3)) (mRoL xs) 1 mK212 (fun p : Int32 => (some (.int p), HP c r)) (R_could N r x1 x2) 0 [some (.ref 115), some (.int x1), some (.int x2)] [] (HP c r) := by
  unfold R_could
  refine Ok_blk 3 (pc2 := 5) (lo2 := [some (.ref 115), some (.int x1), some (.int x2)]) (st2 := [.int 1200, .int 0, .int x1]) rfl ?_
  refine Ok_call (y := 164) (as := [.int x1, .int 0, .int 1200]) (rest := []) (w := fun p1 => some (.int p1)) (h1 := fun p1 => HP c r) rfl rfl (fun x hx => tm_R_in N (d + 2) xs c r x1 0 1200 x hx) (fun p1 hp1 => ?_)
  refine Ok_blk 1 (pc2 := (if p1 = 0 then 20 else 11)) (lo2 := [some (.ref 115), some (.int x1), some (.int x2)]) (st2 := []) rfl ?_
  refine Ok_if (fun h2 => ?_) (fun h2 => ?_)
  · refine Ok_drop (lo0 := [none, none, none]) ⟨Or.inl rfl, Or.inl rfl, Or.inl rfl, trivial⟩ ?_
    exact t_R_could_p20 N d xs c r
  · refine Ok_blk 3 (pc2 := 14) (lo2 := [some (.ref 115), some (.int x1), some (.int x2)]) (st2 := [.int 1, .int 0, .int x2]) rfl ?_
    refine Ok_call (y := 164) (as := [.int x2, .int 0, .int 1]) (rest := []) (w := fun p3 => some (.int p3)) (h1 := fun p3 => HP c r) rfl rfl (fun x hx => tm_R_in N (d + 2) xs c r x2 0 1 x hx) (fun p3 hp3 => ?_)
    refine Ok_blk 1 (pc2 := (if ¬ p3 = 0 then 24 else 20)) (lo2 := [some (.ref 115), some (.int x1), some (.int x2)]) (st2 := []) rfl ?_
    refine Ok_if (fun h4 => ?_) (fun h4 => ?_)
    · refine Ok_blk 1 (pc2 := 25) (lo2 := [some (.ref 115), some (.int x1), some (.int x2)]) (st2 := [.ref 115]) rfl ?_
      refine Ok_call (y := 211) (as := [.ref 115]) (rest := []) (w := fun p5 => some (.int p5)) (h1 := fun p5 => HP c r) rfl rfl (fun x hx => tm_R_goTogether N d xs c r x hx) (fun p5 hp5 => ?_)
      refine Ok_blk 1 (pc2 := (if p5 = 0 then 40 else 31)) (lo2 := [some (.ref 115), some (.int x1), some (.int x2)]) (st2 := []) rfl ?_
      refine Ok_if (fun h6 => ?_) (fun h6 => ?_)
      · refine Ok_blk 1 (pc2 := 43) (lo2 := [some (.ref 115), some (.int x1), some (.int x2)]) (st2 := [.int (-1000)]) rfl ?_
        exact Ok_ret rfl rfl rfl
      · refine Ok_blk 3 (pc2 := 34) (lo2 := [some (.ref 115), some (.int x1), some (.int x2)]) (st2 := [.int x2, .int x1, .ref 115]) rfl ?_
        refine Ok_call (y := 210) (as := [.ref 115, .int x1, .int x2]) (rest := []) (w := fun p7 => some (.int p7)) (h1 := fun p7 => HP c r) rfl rfl (fun x hx => tm_R_couldBe N (d + 1) xs c r x1 x2 x hx) (fun p7 hp7 => ?_)
        refine Ok_blk 1 (pc2 := 43) (lo2 := [some (.ref 115), some (.int x1), some (.int x2)]) (st2 := [.int p7]) rfl ?_
        exact Ok_ret rfl rfl rfl
    · refine Ok_drop (lo0 := [none, none, none]) ⟨Or.inl rfl, Or.inl rfl, Or.inl rfl, trivial⟩ ?_
      exact t_R_could_p20 N d xs c r
set_option maxHeartbeats 8000000 in
set_option maxRecDepth 100000 in
theorem tm_R_could (N d : Nat) (xs : List Int32) (c r : St) (a1 : Int32) (a2 : Int32) (p : Int32) (hp : R_could N r a1 a2 = some p) : mBig (mRoL xs) (d + 4) 212 [.ref 115, .int a1, .int a2] (HP c r) (some (.int p)) (HP c r) 0 0 := mBig_of (by decide) rfl rfl rfl rfl (t_R_could N d xs c r a1 a2 p hp)
