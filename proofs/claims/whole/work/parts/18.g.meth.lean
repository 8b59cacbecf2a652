/-! methods as partial functions of Lean, and that the small machine does them: by program (gen18) -/
/-! ColdHoldsModel.loss(I)I, from (('r', 115), 'i') -/
def R_loss (N : Nat) (r : St) (x1 : Int32) : Option (Int32 × St) :=
  (R_in N x1 0 9).bind fun p1 => (if ¬ p1 = 0 then some (gI r 14, sI r 14 x1) else some ((-102), r))
set_option maxHeartbeats 8000000 in
set_option maxRecDepth 100000 in
theorem t_R_loss (N d : Nat) (xs : List Int32) (c : St) (r : St) (x1 : Int32) : Ok (mBig (mRoL xs) (d + 1)) (mRoL xs) 1 mK223 (fun p : Int32 × St => (some (.int p.1), HP c p.2)) (R_loss N r x1) 0 [some (.ref 115), some (.int x1), none] [] (HP c r) := by
  unfold R_loss
  refine Ok_blk 3 (pc2 := 4) (lo2 := [some (.ref 115), some (.int x1), none]) (st2 := [.int 9, .int 0, .int x1]) rfl ?_
  refine Ok_call (y := 164) (as := [.int x1, .int 0, .int 9]) (rest := []) (w := fun p1 => some (.int p1)) (h1 := fun p1 => HP c r) rfl rfl (fun x hx => tm_R_in N d xs c r x1 0 9 x hx) (fun p1 hp1 => ?_)
  refine Ok_blk 1 (pc2 := (if ¬ p1 = 0 then 13 else 10)) (lo2 := [some (.ref 115), some (.int x1), none]) (st2 := []) rfl ?_
  refine Ok_if (fun h2 => ?_) (fun h2 => ?_)
  · refine Ok_heap 6 (pc2 := 23) (lo2 := [some (.ref 115), some (.int x1), some (.int (gI r 14))]) (st2 := []) (h2 := HP c (sI r 14 x1)) rfl (st_115_34 _ _ _) ?_
    refine Ok_blk 1 (pc2 := 24) (lo2 := [some (.ref 115), some (.int x1), some (.int (gI r 14))]) (st2 := [.int (gI r 14)]) rfl ?_
    exact Ok_ret rfl rfl rfl
  · refine Ok_blk 1 (pc2 := 12) (lo2 := [some (.ref 115), some (.int x1), none]) (st2 := [.int (-102)]) rfl ?_
    exact Ok_ret rfl rfl rfl
set_option maxHeartbeats 8000000 in
set_option maxRecDepth 100000 in
theorem tm_R_loss (N d : Nat) (xs : List Int32) (c r : St) (a1 : Int32) (p : Int32 × St) (hp : R_loss N r a1 = some p) : mBig (mRoL xs) (d + 2) 223 [.ref 115, .int a1] (HP c r) (some (.int p.1)) (HP c p.2) 0 0 := mBig_of (by decide) rfl rfl rfl rfl (t_R_loss N d xs c r a1 p hp)
/-! ColdHolds$Drive.goesOf(I)I, from (('r', 67), 'i') -/
def Drive_goesOf (N : Nat) (c : St) (x1 : Int32) : Option (Int32) :=
  (if (gI c 21) ≤ x1 then some (-1) else (ld (gA c 66) x1).bind fun y2 => some y2)
set_option maxHeartbeats 8000000 in
set_option maxRecDepth 100000 in
theorem t_Drive_goesOf (N d : Nat) (xs : List Int32) (c : St) (r : St) (x1 : Int32) : Ok (mBig (mRoL xs) (d)) (mRoL xs) 1 mK14 (fun p : Int32 => (some (.int p), HP c r)) (Drive_goesOf N c x1) 0 [some (.ref 67), some (.int x1)] [] (HP c r) := by
  unfold Drive_goesOf
  refine Ok_blk 4 (pc2 := (if (gI c 21) ≤ x1 then 17 else 8)) (lo2 := [some (.ref 67), some (.int x1)]) (st2 := []) rfl ?_
  refine Ok_if (fun h1 => ?_) (fun h1 => ?_)
  · refine Ok_blk 1 (pc2 := 18) (lo2 := [some (.ref 67), some (.int x1)]) (st2 := [.int (-1)]) rfl ?_
    exact Ok_ret rfl rfl rfl
  · refine Ok_blk 3 (pc2 := 13) (lo2 := [some (.ref 67), some (.int x1)]) (st2 := [.int x1, .ref 80]) rfl ?_
    refine Ok_ld (l := (gA c 66)) rfl rfl (fun y2 hy2 => ?_)
    refine Ok_blk 1 (pc2 := 18) (lo2 := [some (.ref 67), some (.int x1)]) (st2 := [.int y2]) rfl ?_
    exact Ok_ret rfl rfl rfl
set_option maxHeartbeats 8000000 in
set_option maxRecDepth 100000 in
theorem tm_Drive_goesOf (N d : Nat) (xs : List Int32) (c r : St) (a1 : Int32) (p : Int32) (hp : Drive_goesOf N c a1 = some p) : mBig (mRoL xs) (d + 1) 14 [.ref 67, .int a1] (HP c r) (some (.int p)) (HP c r) 0 0 := mBig_of (by decide) rfl rfl rfl rfl (t_Drive_goesOf N d xs c r a1 p hp)
/-! ColdHolds$Drive.comesOf(II)I, from (('r', 67), 'i', 'i') -/
def Drive_comesOf (N : Nat) (c : St) (x1 : Int32) (x2 : Int32) : Option (Int32) :=
  (ld (gA c 62) x1).bind fun y1 => (ld (gA c 63) x1).bind fun y2 => (rwi x1 6).bind fun q3 => (ld (gA c (56 + q3)) x2).bind fun y4 => (J_max N 0 (y2 - ((gI c 22) * y4))).bind fun p5 => some (y1 * p5)
set_option maxHeartbeats 8000000 in
set_option maxRecDepth 100000 in
theorem t_Drive_comesOf (N d : Nat) (xs : List Int32) (c : St) (r : St) (x1 : Int32) (x2 : Int32) : Ok (mBig (mRoL xs) (d + 1)) (mRoL xs) 1 mK15 (fun p : Int32 => (some (.int p), HP c r)) (Drive_comesOf N c x1 x2) 0 [some (.ref 67), some (.int x1), some (.int x2)] [] (HP c r) := by
  unfold Drive_comesOf
  refine Ok_blk 3 (pc2 := 5) (lo2 := [some (.ref 67), some (.int x1), some (.int x2)]) (st2 := [.int x1, .ref 76]) rfl ?_
  refine Ok_ld (l := (gA c 62)) rfl rfl (fun y1 hy1 => ?_)
  refine Ok_blk 4 (pc2 := 12) (lo2 := [some (.ref 67), some (.int x1), some (.int x2)]) (st2 := [.int x1, .ref 77, .int 0, .int y1]) rfl ?_
  refine Ok_ld (l := (gA c 63)) rfl rfl (fun y2 hy2 => ?_)
  refine Ok_blk 5 (pc2 := 22) (lo2 := [some (.ref 67), some (.int x1), some (.int x2)]) (st2 := [.int x1, .ref 69, .int (gI c 22), .int y2, .int 0, .int y1]) rfl ?_
  refine Ok_rw (b := 70) (n := 6) rfl rfl (fun j h => rowl_69 j h) (fun q3 hq3 => ?_)
  refine Ok_blk 1 (pc2 := 24) (lo2 := [some (.ref 67), some (.int x1), some (.int x2)]) (st2 := [.int x2, .ref (70 + q3), .int (gI c 22), .int y2, .int 0, .int y1]) rfl ?_
  refine Ok_ld (l := (gA c (56 + q3))) rfl ((rows_69 hq3).row _ _ _) (fun y4 hy4 => ?_)
  refine Ok_blk 2 (pc2 := 27) (lo2 := [some (.ref 67), some (.int x1), some (.int x2)]) (st2 := [.int (y2 - ((gI c 22) * y4)), .int 0, .int y1]) rfl ?_
  refine Ok_call (y := 261) (as := [.int 0, .int (y2 - ((gI c 22) * y4))]) (rest := [.int y1]) (w := fun p5 => some (.int p5)) (h1 := fun p5 => HP c r) rfl rfl (fun x hx => tm_J_max N d xs c r 0 (y2 - ((gI c 22) * y4)) x hx) (fun p5 hp5 => ?_)
  refine Ok_blk 1 (pc2 := 31) (lo2 := [some (.ref 67), some (.int x1), some (.int x2)]) (st2 := [.int (y1 * p5)]) rfl ?_
  exact Ok_ret rfl rfl rfl
set_option maxHeartbeats 8000000 in
set_option maxRecDepth 100000 in
theorem tm_Drive_comesOf (N d : Nat) (xs : List Int32) (c r : St) (a1 : Int32) (a2 : Int32) (p : Int32) (hp : Drive_comesOf N c a1 a2 = some p) : mBig (mRoL xs) (d + 2) 15 [.ref 67, .int a1, .int a2] (HP c r) (some (.int p)) (HP c r) 0 0 := mBig_of (by decide) rfl rfl rfl rfl (t_Drive_comesOf N d xs c r a1 a2 p hp)
/-! ColdHolds$Drive.mostOf(I)I, from (('r', 67), 'i') -/
def Drive_mostOf_p4b (N : Nat) (kb4 : Int32 → Int32 → Int32 → Option (Int32)) (c : St) (x1 : Int32) (x2 : Int32) (x3 : Int32) : Option (Int32) :=
  (if 4 ≤ x3 then some x2 else (Drive_comesOf N c x1 x3).bind fun p2 => (J_max N x2 p2).bind fun p3 => kb4 x1 p3 (x3 + 1))
def Drive_mostOf_p4 (N : Nat) (c : St) : Nat → Int32 → Int32 → Int32 → Option (Int32)
  | 0 => fun _ _ _ => none
  | n + 1 => Drive_mostOf_p4b N (Drive_mostOf_p4 N c n) c
def Drive_mostOf (N : Nat) (c : St) (x1 : Int32) : Option (Int32) :=
  Drive_mostOf_p4 N c N x1 0 0
set_option maxHeartbeats 8000000 in
set_option maxRecDepth 100000 in
theorem t_Drive_mostOf_p4b (N d : Nat) (xs : List Int32) (c : St) (r : St) (kb4 : Int32 → Int32 → Int32 → Option (Int32)) (hb4 : ∀ (x1 : Int32) (x2 : Int32) (x3 : Int32), Ok (mBig (mRoL xs) (d + 2)) (mRoL xs) 1 mK17 (fun p : Int32 => (some (.int p), HP c r)) (kb4 x1 x2 x3) 4 [some (.ref 67), some (.int x1), some (.int x2), some (.int x3)] [] (HP c r)) (x1 : Int32) (x2 : Int32) (x3 : Int32) : Ok (mBig (mRoL xs) (d + 2)) (mRoL xs) 1 mK17 (fun p : Int32 => (some (.int p), HP c r)) (Drive_mostOf_p4b N kb4 c x1 x2 x3) 4 [some (.ref 67), some (.int x1), some (.int x2), some (.int x3)] [] (HP c r) := by
  unfold Drive_mostOf_p4b
  refine Ok_blk 3 (pc2 := (if 4 ≤ x3 then 26 else 9)) (lo2 := [some (.ref 67), some (.int x1), some (.int x2), some (.int x3)]) (st2 := []) rfl ?_
  refine Ok_if (fun h1 => ?_) (fun h1 => ?_)
  · refine Ok_blk 1 (pc2 := 27) (lo2 := [some (.ref 67), some (.int x1), some (.int x2), some (.int x3)]) (st2 := [.int x2]) rfl ?_
    exact Ok_ret rfl rfl rfl
  · refine Ok_blk 4 (pc2 := 13) (lo2 := [some (.ref 67), some (.int x1), some (.int x2), some (.int x3)]) (st2 := [.int x3, .int x1, .ref 67, .int x2]) rfl ?_
    refine Ok_call (y := 15) (as := [.ref 67, .int x1, .int x3]) (rest := [.int x2]) (w := fun p2 => some (.int p2)) (h1 := fun p2 => HP c r) rfl rfl (fun x hx => tm_Drive_comesOf N d xs c r x1 x3 x hx) (fun p2 hp2 => ?_)
    refine Ok_call (y := 261) (as := [.int x2, .int p2]) (rest := []) (w := fun p3 => some (.int p3)) (h1 := fun p3 => HP c r) rfl rfl (fun x hx => tm_J_max N (d + 1) xs c r x2 p2 x hx) (fun p3 hp3 => ?_)
    refine Ok_blk 3 (pc2 := 4) (lo2 := [some (.ref 67), some (.int x1), some (.int p3), some (.int (x3 + 1))]) (st2 := []) rfl ?_
    refine Ok_drop (lo0 := [some (.ref 67), some (.int x1), some (.int p3), some (.int (x3 + 1))]) ⟨Or.inr rfl, Or.inr rfl, Or.inr rfl, Or.inr rfl, trivial⟩ ?_
    exact hb4 x1 p3 (x3 + 1)
set_option maxHeartbeats 8000000 in
set_option maxRecDepth 100000 in
theorem t_Drive_mostOf_p4 (N d : Nat) (xs : List Int32) (c : St) (r : St) : ∀ (n : Nat) (x1 : Int32) (x2 : Int32) (x3 : Int32), Ok (mBig (mRoL xs) (d + 2)) (mRoL xs) 1 mK17 (fun p : Int32 => (some (.int p), HP c r)) (Drive_mostOf_p4 N c n x1 x2 x3) 4 [some (.ref 67), some (.int x1), some (.int x2), some (.int x3)] [] (HP c r) := by
  intro n
  induction n with
  | zero => intro x1 x2 x3; exact Ok_none
  | succ n ih => intro x1 x2 x3; exact t_Drive_mostOf_p4b N d xs c r (Drive_mostOf_p4 N c n) ih x1 x2 x3
set_option maxHeartbeats 8000000 in
set_option maxRecDepth 100000 in
theorem t_Drive_mostOf (N d : Nat) (xs : List Int32) (c : St) (r : St) (x1 : Int32) : Ok (mBig (mRoL xs) (d + 2)) (mRoL xs) 1 mK17 (fun p : Int32 => (some (.int p), HP c r)) (Drive_mostOf N c x1) 0 [some (.ref 67), some (.int x1), none, none] [] (HP c r) := by
  unfold Drive_mostOf
  refine Ok_blk 4 (pc2 := 4) (lo2 := [some (.ref 67), some (.int x1), some (.int 0), some (.int 0)]) (st2 := []) rfl ?_
  refine Ok_drop (lo0 := [some (.ref 67), some (.int x1), some (.int 0), some (.int 0)]) ⟨Or.inr rfl, Or.inr rfl, Or.inr rfl, Or.inr rfl, trivial⟩ ?_
  exact t_Drive_mostOf_p4 N d xs c r N x1 0 0
set_option maxHeartbeats 8000000 in
set_option maxRecDepth 100000 in
theorem tm_Drive_mostOf (N d : Nat) (xs : List Int32) (c r : St) (a1 : Int32) (p : Int32) (hp : Drive_mostOf N c a1 = some p) : mBig (mRoL xs) (d + 3) 17 [.ref 67, .int a1] (HP c r) (some (.int p)) (HP c r) 0 0 := mBig_of (by decide) rfl rfl rfl rfl (t_Drive_mostOf N d xs c r a1 p hp)
/-! ColdHolds$Drive.send(LColdHolds$Drive;II)V, from (('r', 67), 'i', 'i') -/
def Drive_send_p121 (N : Nat) (rc : St → Int32 → Int32 → Option (St)) (kb49 : St → Int32 → Int32 → Int32 → Option (St)) (c : St) (x1 : Int32) (x2 : Int32) (x3 : Int32) : Option (St) :=
  kb49 c x1 x2 (x3 + 1)
def Drive_send_p49b (N : Nat) (rc : St → Int32 → Int32 → Option (St)) (kb49 : St → Int32 → Int32 → Int32 → Option (St)) (c : St) (x1 : Int32) (x2 : Int32) (x3 : Int32) : Option (St) :=
  (if 4 ≤ x3 then (sto (gA c 65) x1 4).bind fun w5 => (rc (sA c 65 w5) (x1 + 1) x2).bind fun p6 => some p6 else (ld (gA c 62) x1).bind fun y7 => (ld (gA c 64) x3).bind fun y8 => (if y8 < y7 then Drive_send_p121 N rc kb49 c x1 x2 x3 else (ld (gA c 64) x3).bind fun y10 => (ld (gA c 62) x1).bind fun y11 => (sto (gA c 64) x3 (y10 - y11)).bind fun w12 => (sto (gA (sA c 64 w12) 65) x1 x3).bind fun w13 => (Drive_comesOf N (sA (sA c 64 w12) 65 w13) x1 x3).bind fun p14 => (rc (sA (sA c 64 w12) 65 w13) (x1 + 1) (x2 + p14)).bind fun p15 => (ld (gA p15 64) x3).bind fun y16 => (ld (gA p15 62) x1).bind fun y17 => (sto (gA p15 64) x3 (y16 + y17)).bind fun w18 => Drive_send_p121 N rc kb49 (sA p15 64 w18) x1 x2 x3))
def Drive_send_p49 (N : Nat) (rc : St → Int32 → Int32 → Option (St)) : Nat → St → Int32 → Int32 → Int32 → Option (St)
  | 0 => fun _ _ _ _ => none
  | n + 1 => Drive_send_p49b N rc (Drive_send_p49 N rc n)
def Drive_send_p0 (N : Nat) (rc : St → Int32 → Int32 → Option (St)) (c : St) (x1 : Int32) (x2 : Int32) : Option (St) :=
  (ld (gA c 67) x1).bind fun y1 => (if (gI c 23) < (x2 + y1) then (if x1 < (gI c 21) then Drive_send_p49 N rc N c x1 x2 0 else (cpy (gA (sI c 23 x2) 65) (gA (sI c 23 x2) 66) 0 0 (gI (sI c 23 x2) 21)).bind fun w19 => some (sA (sI c 23 x2) 66 w19)) else some c)
def Drive_send (N : Nat) : Nat → St → Int32 → Int32 → Option (St)
  | 0 => fun _ _ _ => none
  | D + 1 => Drive_send_p0 N (Drive_send N D)
set_option maxHeartbeats 8000000 in
set_option maxRecDepth 100000 in
theorem t_Drive_send_p121 (N d D : Nat) (xs : List Int32) (r : St) (rc : St → Int32 → Int32 → Option (St)) (hrc : ∀ (c : St) (a1 : Int32) (a2 : Int32) (p : St), rc c a1 a2 = some p → mBig (mRoL xs) (d + (D + 1) + 2) 18 [.ref 67, .int a1, .int a2] (HP c r) (none) (HP p r) 0 0) (kb49 : St → Int32 → Int32 → Int32 → Option (St)) (hb49 : ∀ (c : St) (x1 : Int32) (x2 : Int32) (x3 : Int32), Ok (mBig (mRoL xs) (d + (D + 1) + 2)) (mRoL xs) 0 mK18 (fun p : St => (none, HP p r)) (kb49 c x1 x2 x3) 49 [some (.ref 67), some (.int x1), some (.int x2), some (.int x3)] [] (HP c r)) (c : St) (x1 : Int32) (x2 : Int32) (x3 : Int32) : Ok (mBig (mRoL xs) (d + (D + 1) + 2)) (mRoL xs) 0 mK18 (fun p : St => (none, HP p r)) (Drive_send_p121 N rc kb49 c x1 x2 x3) 121 [some (.ref 67), some (.int x1), some (.int x2), some (.int x3)] [] (HP c r) := by
  unfold Drive_send_p121
  refine Ok_blk 2 (pc2 := 49) (lo2 := [some (.ref 67), some (.int x1), some (.int x2), some (.int (x3 + 1))]) (st2 := []) rfl ?_
  refine Ok_drop (lo0 := [some (.ref 67), some (.int x1), some (.int x2), some (.int (x3 + 1))]) ⟨Or.inr rfl, Or.inr rfl, Or.inr rfl, Or.inr rfl, trivial⟩ ?_
  exact hb49 c x1 x2 (x3 + 1)
set_option maxHeartbeats 8000000 in
set_option maxRecDepth 100000 in
theorem t_Drive_send_p49b (N d D : Nat) (xs : List Int32) (r : St) (rc : St → Int32 → Int32 → Option (St)) (hrc : ∀ (c : St) (a1 : Int32) (a2 : Int32) (p : St), rc c a1 a2 = some p → mBig (mRoL xs) (d + (D + 1) + 2) 18 [.ref 67, .int a1, .int a2] (HP c r) (none) (HP p r) 0 0) (kb49 : St → Int32 → Int32 → Int32 → Option (St)) (hb49 : ∀ (c : St) (x1 : Int32) (x2 : Int32) (x3 : Int32), Ok (mBig (mRoL xs) (d + (D + 1) + 2)) (mRoL xs) 0 mK18 (fun p : St => (none, HP p r)) (kb49 c x1 x2 x3) 49 [some (.ref 67), some (.int x1), some (.int x2), some (.int x3)] [] (HP c r)) (c : St) (x1 : Int32) (x2 : Int32) (x3 : Int32) : Ok (mBig (mRoL xs) (d + (D + 1) + 2)) (mRoL xs) 0 mK18 (fun p : St => (none, HP p r)) (Drive_send_p49b N rc kb49 c x1 x2 x3) 49 [some (.ref 67), some (.int x1), some (.int x2), some (.int x3)] [] (HP c r) := by
  unfold Drive_send_p49b
  refine Ok_blk 3 (pc2 := (if 4 ≤ x3 then 127 else 54)) (lo2 := [some (.ref 67), some (.int x1), some (.int x2), some (.int x3)]) (st2 := []) rfl ?_
  refine Ok_if (fun h4 => ?_) (fun h4 => ?_)
  · refine Ok_blk 4 (pc2 := 133) (lo2 := [some (.ref 67), some (.int x1), some (.int x2), some (.int x3)]) (st2 := [.int 4, .int x1, .ref 79]) rfl ?_
    refine Ok_st (l := (gA c 65)) (hn := fun l' => HP (sA c 65 l') r) rfl rfl (fun l' => sa_79 _ _ l') (fun w5 hw5 => ?_)
    refine Ok_blk 5 (pc2 := 139) (lo2 := [some (.ref 67), some (.int x1), some (.int x2), some (.int x3)]) (st2 := [.int x2, .int (x1 + 1), .ref 67]) rfl ?_
    refine Ok_call (y := 18) (as := [.ref 67, .int (x1 + 1), .int x2]) (rest := []) (w := fun p6 => none) (h1 := fun p6 => HP p6 r) rfl rfl (fun x hx => hrc (sA c 65 w5) (x1 + 1) x2 x hx) (fun p6 hp6 => ?_)
    exact Ok_ret rfl rfl rfl
  · refine Ok_blk 3 (pc2 := 59) (lo2 := [some (.ref 67), some (.int x1), some (.int x2), some (.int x3)]) (st2 := [.int x1, .ref 76]) rfl ?_
    refine Ok_ld (l := (gA c 62)) rfl rfl (fun y7 hy7 => ?_)
    refine Ok_blk 3 (pc2 := 65) (lo2 := [some (.ref 67), some (.int x1), some (.int x2), some (.int x3)]) (st2 := [.int x3, .ref 78, .int y7]) rfl ?_
    refine Ok_ld (l := (gA c 64)) rfl rfl (fun y8 hy8 => ?_)
    refine Ok_blk 1 (pc2 := (if y8 < y7 then 121 else 69)) (lo2 := [some (.ref 67), some (.int x1), some (.int x2), some (.int x3)]) (st2 := []) rfl ?_
    refine Ok_if (fun h9 => ?_) (fun h9 => ?_)
    · refine Ok_drop (lo0 := [some (.ref 67), some (.int x1), some (.int x2), some (.int x3)]) ⟨Or.inr rfl, Or.inr rfl, Or.inr rfl, Or.inr rfl, trivial⟩ ?_
      exact t_Drive_send_p121 N d D xs r rc hrc kb49 hb49 c x1 x2 x3
    · refine Ok_blk 4 (pc2 := 75) (lo2 := [some (.ref 67), some (.int x1), some (.int x2), some (.int x3)]) (st2 := [.int x3, .ref 78, .int x3, .ref 78]) rfl ?_
      refine Ok_ld (l := (gA c 64)) rfl rfl (fun y10 hy10 => ?_)
      refine Ok_blk 3 (pc2 := 81) (lo2 := [some (.ref 67), some (.int x1), some (.int x2), some (.int x3)]) (st2 := [.int x1, .ref 76, .int y10, .int x3, .ref 78]) rfl ?_
      refine Ok_ld (l := (gA c 62)) rfl rfl (fun y11 hy11 => ?_)
      refine Ok_blk 1 (pc2 := 83) (lo2 := [some (.ref 67), some (.int x1), some (.int x2), some (.int x3)]) (st2 := [.int (y10 - y11), .int x3, .ref 78]) rfl ?_
      refine Ok_st (l := (gA c 64)) (hn := fun l' => HP (sA c 64 l') r) rfl rfl (fun l' => sa_78 _ _ l') (fun w12 hw12 => ?_)
      refine Ok_blk 4 (pc2 := 90) (lo2 := [some (.ref 67), some (.int x1), some (.int x2), some (.int x3)]) (st2 := [.int x3, .int x1, .ref 79]) rfl ?_
      refine Ok_st (l := (gA (sA c 64 w12) 65)) (hn := fun l' => HP (sA (sA c 64 w12) 65 l') r) rfl rfl (fun l' => sa_79 _ _ l') (fun w13 hw13 => ?_)
      refine Ok_blk 8 (pc2 := 99) (lo2 := [some (.ref 67), some (.int x1), some (.int x2), some (.int x3)]) (st2 := [.int x3, .int x1, .ref 67, .int x2, .int (x1 + 1), .ref 67]) rfl ?_
      refine Ok_call (y := 15) (as := [.ref 67, .int x1, .int x3]) (rest := [.int x2, .int (x1 + 1), .ref 67]) (w := fun p14 => some (.int p14)) (h1 := fun p14 => HP (sA (sA c 64 w12) 65 w13) r) rfl rfl (fun x hx => tm_Drive_comesOf N (d + (D + 1) + 0) xs (sA (sA c 64 w12) 65 w13) r x1 x3 x hx) (fun p14 hp14 => ?_)
      refine Ok_blk 1 (pc2 := 103) (lo2 := [some (.ref 67), some (.int x1), some (.int x2), some (.int x3)]) (st2 := [.int (x2 + p14), .int (x1 + 1), .ref 67]) rfl ?_
      refine Ok_call (y := 18) (as := [.ref 67, .int (x1 + 1), .int (x2 + p14)]) (rest := []) (w := fun p15 => none) (h1 := fun p15 => HP p15 r) rfl rfl (fun x hx => hrc (sA (sA c 64 w12) 65 w13) (x1 + 1) (x2 + p14) x hx) (fun p15 hp15 => ?_)
      refine Ok_blk 4 (pc2 := 112) (lo2 := [some (.ref 67), some (.int x1), some (.int x2), some (.int x3)]) (st2 := [.int x3, .ref 78, .int x3, .ref 78]) rfl ?_
      refine Ok_ld (l := (gA p15 64)) rfl rfl (fun y16 hy16 => ?_)
      refine Ok_blk 3 (pc2 := 118) (lo2 := [some (.ref 67), some (.int x1), some (.int x2), some (.int x3)]) (st2 := [.int x1, .ref 76, .int y16, .int x3, .ref 78]) rfl ?_
      refine Ok_ld (l := (gA p15 62)) rfl rfl (fun y17 hy17 => ?_)
      refine Ok_blk 1 (pc2 := 120) (lo2 := [some (.ref 67), some (.int x1), some (.int x2), some (.int x3)]) (st2 := [.int (y16 + y17), .int x3, .ref 78]) rfl ?_
      refine Ok_st (l := (gA p15 64)) (hn := fun l' => HP (sA p15 64 l') r) rfl rfl (fun l' => sa_78 _ _ l') (fun w18 hw18 => ?_)
      refine Ok_drop (lo0 := [some (.ref 67), some (.int x1), some (.int x2), some (.int x3)]) ⟨Or.inr rfl, Or.inr rfl, Or.inr rfl, Or.inr rfl, trivial⟩ ?_
      exact t_Drive_send_p121 N d D xs r rc hrc kb49 hb49 (sA p15 64 w18) x1 x2 x3
set_option maxHeartbeats 8000000 in
set_option maxRecDepth 100000 in
theorem t_Drive_send_p49 (N d D : Nat) (xs : List Int32) (r : St) (rc : St → Int32 → Int32 → Option (St)) (hrc : ∀ (c : St) (a1 : Int32) (a2 : Int32) (p : St), rc c a1 a2 = some p → mBig (mRoL xs) (d + (D + 1) + 2) 18 [.ref 67, .int a1, .int a2] (HP c r) (none) (HP p r) 0 0) : ∀ (n : Nat) (c : St) (x1 : Int32) (x2 : Int32) (x3 : Int32), Ok (mBig (mRoL xs) (d + (D + 1) + 2)) (mRoL xs) 0 mK18 (fun p : St => (none, HP p r)) (Drive_send_p49 N rc n c x1 x2 x3) 49 [some (.ref 67), some (.int x1), some (.int x2), some (.int x3)] [] (HP c r) := by
  intro n
  induction n with
  | zero => intro c x1 x2 x3; exact Ok_none
  | succ n ih => intro c x1 x2 x3; exact t_Drive_send_p49b N d D xs r rc hrc (Drive_send_p49 N rc n) ih c x1 x2 x3
set_option maxHeartbeats 8000000 in
set_option maxRecDepth 100000 in
theorem t_Drive_send_p0 (N d D : Nat) (xs : List Int32) (r : St) (rc : St → Int32 → Int32 → Option (St)) (hrc : ∀ (c : St) (a1 : Int32) (a2 : Int32) (p : St), rc c a1 a2 = some p → mBig (mRoL xs) (d + (D + 1) + 2) 18 [.ref 67, .int a1, .int a2] (HP c r) (none) (HP p r) 0 0) (c : St) (x1 : Int32) (x2 : Int32) : Ok (mBig (mRoL xs) (d + (D + 1) + 2)) (mRoL xs) 0 mK18 (fun p : St => (none, HP p r)) (Drive_send_p0 N rc c x1 x2) 0 [some (.ref 67), some (.int x1), some (.int x2), none] [] (HP c r) := by
  unfold Drive_send_p0
  refine Ok_blk 4 (pc2 := 6) (lo2 := [some (.ref 67), some (.int x1), some (.int x2), none]) (st2 := [.int x1, .ref 81, .int x2]) rfl ?_
  refine Ok_ld (l := (gA c 67)) rfl rfl (fun y1 hy1 => ?_)
  refine Ok_blk 4 (pc2 := (if (gI c 23) < (x2 + y1) then 16 else 15)) (lo2 := [some (.ref 67), some (.int x1), some (.int x2), none]) (st2 := []) rfl ?_
  refine Ok_if (fun h2 => ?_) (fun h2 => ?_)
  · refine Ok_blk 4 (pc2 := (if x1 < (gI c 21) then 47 else 24)) (lo2 := [some (.ref 67), some (.int x1), some (.int x2), none]) (st2 := []) rfl ?_
    refine Ok_if (fun h3 => ?_) (fun h3 => ?_)
    · refine Ok_blk 2 (pc2 := 49) (lo2 := [some (.ref 67), some (.int x1), some (.int x2), some (.int 0)]) (st2 := []) rfl ?_
      refine Ok_drop (lo0 := [some (.ref 67), some (.int x1), some (.int x2), some (.int 0)]) ⟨Or.inr rfl, Or.inr rfl, Or.inr rfl, Or.inr rfl, trivial⟩ ?_
      exact t_Drive_send_p49 N d D xs r rc hrc N c x1 x2 0
    · refine Ok_heap 3 (pc2 := 29) (lo2 := [some (.ref 67), some (.int x1), some (.int x2), none]) (st2 := []) (h2 := HP (sI c 23 x2) r) rfl (st_67_4 _ _ _) ?_
      refine Ok_blk 8 (pc2 := 43) (lo2 := [some (.ref 67), some (.int x1), some (.int x2), none]) (st2 := [.int (gI (sI c 23 x2) 21), .int 0, .ref 80, .int 0, .ref 79]) rfl ?_
      refine Ok_cpy (f := (gA (sI c 23 x2) 65)) (g := (gA (sI c 23 x2) 66)) (hn := fun l' => HP (sA (sI c 23 x2) 66 l') r) rfl rfl rfl (Nat.le_of_ble_eq_true rfl) (fun l' => sa_80 _ _ l') (fun w19 hw19 => ?_)
      exact Ok_ret rfl rfl rfl
  · exact Ok_ret rfl rfl rfl
set_option maxHeartbeats 8000000 in
set_option maxRecDepth 100000 in
theorem tr_Drive_send (N : Nat) (xs : List Int32) (r : St) : ∀ (D d : Nat) (c : St) (a1 : Int32) (a2 : Int32) (p : St), Drive_send N D c a1 a2 = some p → mBig (mRoL xs) (d + D + 3) 18 [.ref 67, .int a1, .int a2] (HP c r) (none) (HP p r) 0 0 := by
  intro D
  induction D with
  | zero => intro d c a1 a2 p hp; cases hp
  | succ D ih => intro d c a1 a2 p hp; exact mBig_of (d := d + (D + 1) + 2) (by decide) rfl rfl rfl rfl (t_Drive_send_p0 N d D xs r (Drive_send N D) (fun c a1 a2 p hp => mCong (by omega) (ih d c a1 a2 p hp)) c a1 a2 p hp)
set_option maxHeartbeats 8000000 in
set_option maxRecDepth 100000 in
theorem tm_Drive_send (N d : Nat) (xs : List Int32) (c r : St) (D : Nat) (a1 : Int32) (a2 : Int32) (p : St) (hp : Drive_send N D c a1 a2 = some p) : mBig (mRoL xs) (d + D + 3) 18 [.ref 67, .int a1, .int a2] (HP c r) (none) (HP p r) 0 0 := tr_Drive_send N xs r D d c a1 a2 p hp
/-! ColdHolds$Drive.driveBest()V, from (('r', 67),) -/
def Drive_driveBest_p31b (N : Nat) (kb31 : St → Int32 → Option (St)) (c : St) (x1 : Int32) : Option (St) :=
  (if x1 < 0 then (Drive_send N 10 (sI c 23 (-1)) 0 0).bind fun p4 => some p4 else (ld (gA c 67) (x1 + 1)).bind fun y5 => (Drive_mostOf N c x1).bind fun p6 => (sto (gA c 67) x1 (y5 + p6)).bind fun w7 => kb31 (sA c 67 w7) (x1 + (-1)))
def Drive_driveBest_p31 (N : Nat) : Nat → St → Int32 → Option (St)
  | 0 => fun _ _ => none
  | n + 1 => Drive_driveBest_p31b N (Drive_driveBest_p31 N n)
def Drive_driveBest (N : Nat) (c : St) : Option (St) :=
  (cpy (gA c 55) (gA c 64) 0 0 4).bind fun w1 => (sto (gA (sA c 64 w1) 67) (gI (sA c 64 w1) 21) 0).bind fun w2 => Drive_driveBest_p31 N N (sA (sA c 64 w1) 67 w2) ((gI (sA (sA c 64 w1) 67 w2) 21) - 1)
set_option maxHeartbeats 8000000 in
set_option maxRecDepth 100000 in
theorem t_Drive_driveBest_p31b (N d : Nat) (xs : List Int32) (r : St) (kb31 : St → Int32 → Option (St)) (hb31 : ∀ (c : St) (x1 : Int32), Ok (mBig (mRoL xs) (d + 13)) (mRoL xs) 0 mK16 (fun p : St => (none, HP p r)) (kb31 c x1) 31 [some (.ref 67), some (.int x1)] [] (HP c r)) (c : St) (x1 : Int32) : Ok (mBig (mRoL xs) (d + 13)) (mRoL xs) 0 mK16 (fun p : St => (none, HP p r)) (Drive_driveBest_p31b N kb31 c x1) 31 [some (.ref 67), some (.int x1)] [] (HP c r) := by
  unfold Drive_driveBest_p31b
  refine Ok_blk 2 (pc2 := (if x1 < 0 then 61 else 35)) (lo2 := [some (.ref 67), some (.int x1)]) (st2 := []) rfl ?_
  refine Ok_if (fun h3 => ?_) (fun h3 => ?_)
  · refine Ok_heap 3 (pc2 := 66) (lo2 := [some (.ref 67), some (.int x1)]) (st2 := []) (h2 := HP (sI c 23 (-1)) r) rfl (st_67_4 _ _ _) ?_
    refine Ok_blk 3 (pc2 := 69) (lo2 := [some (.ref 67), some (.int x1)]) (st2 := [.int 0, .int 0, .ref 67]) rfl ?_
    refine Ok_call (y := 18) (as := [.ref 67, .int 0, .int 0]) (rest := []) (w := fun p4 => none) (h1 := fun p4 => HP p4 r) rfl rfl (fun x hx => tm_Drive_send N d xs (sI c 23 (-1)) r 10 0 0 x hx) (fun p4 hp4 => ?_)
    exact Ok_ret rfl rfl rfl
  · refine Ok_blk 8 (pc2 := 47) (lo2 := [some (.ref 67), some (.int x1)]) (st2 := [.int (x1 + 1), .ref 81, .int x1, .ref 81]) rfl ?_
    refine Ok_ld (l := (gA c 67)) rfl rfl (fun y5 hy5 => ?_)
    refine Ok_blk 2 (pc2 := 50) (lo2 := [some (.ref 67), some (.int x1)]) (st2 := [.int x1, .ref 67, .int y5, .int x1, .ref 81]) rfl ?_
    refine Ok_call (y := 17) (as := [.ref 67, .int x1]) (rest := [.int y5, .int x1, .ref 81]) (w := fun p6 => some (.int p6)) (h1 := fun p6 => HP c r) rfl rfl (fun x hx => tm_Drive_mostOf N (d + 10) xs c r x1 x hx) (fun p6 hp6 => ?_)
    refine Ok_blk 1 (pc2 := 54) (lo2 := [some (.ref 67), some (.int x1)]) (st2 := [.int (y5 + p6), .int x1, .ref 81]) rfl ?_
    refine Ok_st (l := (gA c 67)) (hn := fun l' => HP (sA c 67 l') r) rfl rfl (fun l' => sa_81 _ _ l') (fun w7 hw7 => ?_)
    refine Ok_blk 2 (pc2 := 31) (lo2 := [some (.ref 67), some (.int (x1 + (-1)))]) (st2 := []) rfl ?_
    refine Ok_drop (lo0 := [some (.ref 67), some (.int (x1 + (-1)))]) ⟨Or.inr rfl, Or.inr rfl, trivial⟩ ?_
    exact hb31 (sA c 67 w7) (x1 + (-1))
set_option maxHeartbeats 8000000 in
set_option maxRecDepth 100000 in
theorem t_Drive_driveBest_p31 (N d : Nat) (xs : List Int32) (r : St) : ∀ (n : Nat) (c : St) (x1 : Int32), Ok (mBig (mRoL xs) (d + 13)) (mRoL xs) 0 mK16 (fun p : St => (none, HP p r)) (Drive_driveBest_p31 N n c x1) 31 [some (.ref 67), some (.int x1)] [] (HP c r) := by
  intro n
  induction n with
  | zero => intro c x1; exact Ok_none
  | succ n ih => intro c x1; exact t_Drive_driveBest_p31b N d xs r (Drive_driveBest_p31 N n) ih c x1
set_option maxHeartbeats 8000000 in
set_option maxRecDepth 100000 in
theorem t_Drive_driveBest (N d : Nat) (xs : List Int32) (r : St) (c : St) : Ok (mBig (mRoL xs) (d + 13)) (mRoL xs) 0 mK16 (fun p : St => (none, HP p r)) (Drive_driveBest N c) 0 [some (.ref 67), none] [] (HP c r) := by
  unfold Drive_driveBest
  refine Ok_blk 7 (pc2 := 11) (lo2 := [some (.ref 67), none]) (st2 := [.int 4, .int 0, .ref 78, .int 0, .ref 68]) rfl ?_
  refine Ok_cpy (f := (gA c 55)) (g := (gA c 64)) (hn := fun l' => HP (sA c 64 l') r) rfl rfl rfl (Nat.le_of_ble_eq_true rfl) (fun l' => sa_78 _ _ l') (fun w1 hw1 => ?_)
  refine Ok_blk 5 (pc2 := 23) (lo2 := [some (.ref 67), none]) (st2 := [.int 0, .int (gI (sA c 64 w1) 21), .ref 81]) rfl ?_
  refine Ok_st (l := (gA (sA c 64 w1) 67)) (hn := fun l' => HP (sA (sA c 64 w1) 67 l') r) rfl rfl (fun l' => sa_81 _ _ l') (fun w2 hw2 => ?_)
  refine Ok_blk 5 (pc2 := 31) (lo2 := [some (.ref 67), some (.int ((gI (sA (sA c 64 w1) 67 w2) 21) - 1))]) (st2 := []) rfl ?_
  refine Ok_drop (lo0 := [some (.ref 67), some (.int ((gI (sA (sA c 64 w1) 67 w2) 21) - 1))]) ⟨Or.inr rfl, Or.inr rfl, trivial⟩ ?_
  exact t_Drive_driveBest_p31 N d xs r N (sA (sA c 64 w1) 67 w2) ((gI (sA (sA c 64 w1) 67 w2) 21) - 1)
set_option maxHeartbeats 8000000 in
set_option maxRecDepth 100000 in
theorem tm_Drive_driveBest (N d : Nat) (xs : List Int32) (c r : St) (p : St) (hp : Drive_driveBest N c = some p) : mBig (mRoL xs) (d + 14) 16 [.ref 67] (HP c r) (none) (HP p r) 0 0 := mBig_of (by decide) rfl rfl rfl rfl (t_Drive_driveBest N d xs r c p hp)
/-! ColdHolds.driven(I)I, from (('r', 0), 'i') -/
def C_driven_p18 (N : Nat) (c : St) (x1 : Int32) : Option (Int32 × St) :=
  (Drive_driveBest N c).bind fun p2 => (if ¬ x1 = 0 then (Drive_goesOf N p2 (x1 - 10)).bind fun p4 => some (p4, p2) else some (gI p2 23, p2))
def C_driven (N : Nat) (c : St) (x1 : Int32) : Option (Int32 × St) :=
  (if x1 = 0 then C_driven_p18 N c x1 else (C_within N x1 10 15).bind fun p5 => (if ¬ p5 = 0 then C_driven_p18 N c x1 else some ((-102), c)))
set_option maxHeartbeats 8000000 in
set_option maxRecDepth 100000 in
theorem t_C_driven_p18 (N d : Nat) (xs : List Int32) (r : St) (c : St) (x1 : Int32) : Ok (mBig (mRoL xs) (d + 14)) (mRoL xs) 1 mK142 (fun p : Int32 × St => (some (.int p.1), HP p.2 r)) (C_driven_p18 N c x1) 18 [some (.ref 0), some (.int x1)] [] (HP c r) := by
  unfold C_driven_p18
  refine Ok_blk 2 (pc2 := 22) (lo2 := [some (.ref 0), some (.int x1)]) (st2 := [.ref 67]) rfl ?_
  refine Ok_call (y := 16) (as := [.ref 67]) (rest := []) (w := fun p2 => none) (h1 := fun p2 => HP p2 r) rfl rfl (fun x hx => tm_Drive_driveBest N d xs c r x hx) (fun p2 hp2 => ?_)
  refine Ok_blk 2 (pc2 := (if ¬ x1 = 0 then 39 else 29)) (lo2 := [some (.ref 0), some (.int x1)]) (st2 := []) rfl ?_
  refine Ok_if (fun h3 => ?_) (fun h3 => ?_)
  · refine Ok_blk 5 (pc2 := 47) (lo2 := [some (.ref 0), some (.int x1)]) (st2 := [.int (x1 - 10), .ref 67]) rfl ?_
    refine Ok_call (y := 14) (as := [.ref 67, .int (x1 - 10)]) (rest := []) (w := fun p4 => some (.int p4)) (h1 := fun p4 => HP p2 r) rfl rfl (fun x hx => tm_Drive_goesOf N (d + 13) xs p2 r (x1 - 10) x hx) (fun p4 hp4 => ?_)
    exact Ok_ret rfl rfl rfl
  · refine Ok_blk 4 (pc2 := 50) (lo2 := [some (.ref 0), some (.int x1)]) (st2 := [.int (gI p2 23)]) rfl ?_
    exact Ok_ret rfl rfl rfl
set_option maxHeartbeats 8000000 in
set_option maxRecDepth 100000 in
theorem t_C_driven (N d : Nat) (xs : List Int32) (r : St) (c : St) (x1 : Int32) : Ok (mBig (mRoL xs) (d + 14)) (mRoL xs) 1 mK142 (fun p : Int32 × St => (some (.int p.1), HP p.2 r)) (C_driven N c x1) 0 [some (.ref 0), some (.int x1)] [] (HP c r) := by
  unfold C_driven
  refine Ok_blk 2 (pc2 := (if x1 = 0 then 18 else 4)) (lo2 := [some (.ref 0), some (.int x1)]) (st2 := []) rfl ?_
  refine Ok_if (fun h1 => ?_) (fun h1 => ?_)
  · refine Ok_drop (lo0 := [some (.ref 0), some (.int x1)]) ⟨Or.inr rfl, Or.inr rfl, trivial⟩ ?_
    exact t_C_driven_p18 N d xs r c x1
  · refine Ok_blk 3 (pc2 := 9) (lo2 := [some (.ref 0), some (.int x1)]) (st2 := [.int 15, .int 10, .int x1]) rfl ?_
    refine Ok_call (y := 102) (as := [.int x1, .int 10, .int 15]) (rest := []) (w := fun p5 => some (.int p5)) (h1 := fun p5 => HP c r) rfl rfl (fun x hx => tm_C_within N (d + 13) xs c r x1 10 15 x hx) (fun p5 hp5 => ?_)
    refine Ok_blk 1 (pc2 := (if ¬ p5 = 0 then 18 else 15)) (lo2 := [some (.ref 0), some (.int x1)]) (st2 := []) rfl ?_
    refine Ok_if (fun h6 => ?_) (fun h6 => ?_)
    · refine Ok_drop (lo0 := [some (.ref 0), some (.int x1)]) ⟨Or.inr rfl, Or.inr rfl, trivial⟩ ?_
      exact t_C_driven_p18 N d xs r c x1
    · refine Ok_blk 1 (pc2 := 17) (lo2 := [some (.ref 0), some (.int x1)]) (st2 := [.int (-102)]) rfl ?_
      exact Ok_ret rfl rfl rfl
set_option maxHeartbeats 8000000 in
set_option maxRecDepth 100000 in
theorem tm_C_driven (N d : Nat) (xs : List Int32) (c r : St) (a1 : Int32) (p : Int32 × St) (hp : C_driven N c a1 = some p) : mBig (mRoL xs) (d + 15) 142 [.ref 0, .int a1] (HP c r) (some (.int p.1)) (HP p.2 r) 0 0 := mBig_of (by decide) rfl rfl rfl rfl (t_C_driven N d xs r c a1 p hp)
/-! ColdHoldsModel.comesOf(II)I, from (('r', 115), 'i', 'i') -/
def R_comesOf_p31 (N : Nat) (r : St) (x1 : Int32) (s0 : Int32) : Option (Int32) :=
  (if 0 ≤ s0 then (ld (gA r 16) x1).bind fun y5 => some (y5 * s0) else some 0)
def R_comesOf (N : Nat) (r : St) (x1 : Int32) (x2 : Int32) : Option (Int32) :=
  (if ¬ x2 = 4 then (ld (gA r 17) x1).bind fun y2 => (ld (gA r 18) ((4 * x1) + x2)).bind fun y3 => R_comesOf_p31 N r x1 (y2 - ((gI r 14) * y3)) else R_comesOf_p31 N r x1 0)
set_option maxHeartbeats 8000000 in
set_option maxRecDepth 100000 in
theorem t_R_comesOf_p31 (N d : Nat) (xs : List Int32) (c : St) (r : St) (x1 : Int32) (s0 : Int32) : Ok (mBig (mRoL xs) (d)) (mRoL xs) 1 mK224 (fun p : Int32 => (some (.int p), HP c r)) (R_comesOf_p31 N r x1 s0) 31 [some (.ref 115), some (.int x1), none, none] [.int s0] (HP c r) := by
  unfold R_comesOf_p31
  refine Ok_blk 3 (pc2 := (if 0 ≤ s0 then 40 else 36)) (lo2 := [some (.ref 115), some (.int x1), none, some (.int s0)]) (st2 := []) rfl ?_
  refine Ok_if (fun h4 => ?_) (fun h4 => ?_)
  · refine Ok_blk 3 (pc2 := 45) (lo2 := [some (.ref 115), some (.int x1), none, some (.int s0)]) (st2 := [.int x1, .ref 132]) rfl ?_
    refine Ok_ld (l := (gA r 16)) rfl rfl (fun y5 hy5 => ?_)
    refine Ok_blk 2 (pc2 := 48) (lo2 := [some (.ref 115), some (.int x1), none, some (.int s0)]) (st2 := [.int (y5 * s0)]) rfl ?_
    exact Ok_ret rfl rfl rfl
  · refine Ok_blk 2 (pc2 := 48) (lo2 := [some (.ref 115), some (.int x1), none, some (.int s0)]) (st2 := [.int 0]) rfl ?_
    exact Ok_ret rfl rfl rfl
set_option maxHeartbeats 8000000 in
set_option maxRecDepth 100000 in
theorem t_R_comesOf (N d : Nat) (xs : List Int32) (c : St) (r : St) (x1 : Int32) (x2 : Int32) : Ok (mBig (mRoL xs) (d)) (mRoL xs) 1 mK224 (fun p : Int32 => (some (.int p), HP c r)) (R_comesOf N r x1 x2) 0 [some (.ref 115), some (.int x1), some (.int x2), none] [] (HP c r) := by
  unfold R_comesOf
  refine Ok_blk 3 (pc2 := (if ¬ x2 = 4 then 9 else 5)) (lo2 := [some (.ref 115), some (.int x1), some (.int x2), none]) (st2 := []) rfl ?_
  refine Ok_if (fun h1 => ?_) (fun h1 => ?_)
  · refine Ok_blk 3 (pc2 := 14) (lo2 := [some (.ref 115), some (.int x1), some (.int x2), none]) (st2 := [.int x1, .ref 133]) rfl ?_
    refine Ok_ld (l := (gA r 17)) rfl rfl (fun y2 hy2 => ?_)
    refine Ok_blk 9 (pc2 := 28) (lo2 := [some (.ref 115), some (.int x1), some (.int x2), none]) (st2 := [.int ((4 * x1) + x2), .ref 134, .int (gI r 14), .int y2]) rfl ?_
    refine Ok_ld (l := (gA r 18)) rfl rfl (fun y3 hy3 => ?_)
    refine Ok_blk 2 (pc2 := 31) (lo2 := [some (.ref 115), some (.int x1), some (.int x2), none]) (st2 := [.int (y2 - ((gI r 14) * y3))]) rfl ?_
    refine Ok_drop (lo0 := [some (.ref 115), some (.int x1), none, none]) ⟨Or.inr rfl, Or.inr rfl, Or.inl rfl, Or.inl rfl, trivial⟩ ?_
    exact t_R_comesOf_p31 N d xs c r x1 (y2 - ((gI r 14) * y3))
  · refine Ok_blk 2 (pc2 := 31) (lo2 := [some (.ref 115), some (.int x1), some (.int x2), none]) (st2 := [.int 0]) rfl ?_
    refine Ok_drop (lo0 := [some (.ref 115), some (.int x1), none, none]) ⟨Or.inr rfl, Or.inr rfl, Or.inl rfl, Or.inl rfl, trivial⟩ ?_
    exact t_R_comesOf_p31 N d xs c r x1 0
set_option maxHeartbeats 8000000 in
set_option maxRecDepth 100000 in
theorem tm_R_comesOf (N d : Nat) (xs : List Int32) (c r : St) (a1 : Int32) (a2 : Int32) (p : Int32) (hp : R_comesOf N r a1 a2 = some p) : mBig (mRoL xs) (d + 1) 224 [.ref 115, .int a1, .int a2] (HP c r) (some (.int p)) (HP c r) 0 0 := mBig_of (by decide) rfl rfl rfl rfl (t_R_comesOf N d xs c r a1 a2 p hp)
/-! ColdHoldsModel.seekDriven()I, from (('r', 115),) -/
def R_seekDriven_p214 (N : Nat) (kb26 : St → Int32 → Int32 → Int32 → Option (Int32 × St)) (r : St) (x1 : Int32) (x2 : Int32) (x3 : Int32) : Option (Int32 × St) :=
  kb26 r x1 x2 (x3 + 1)
def R_seekDriven_p180b (N : Nat) (kb26 : St → Int32 → Int32 → Int32 → Option (Int32 × St)) (kb180 : St → Int32 → Int32 → Int32 → Int32 → Int32 → Option (Int32 × St)) (r : St) (x1 : Int32) (x2 : Int32) (x3 : Int32) (x4 : Int32) (x7 : Int32) : Option (Int32 × St) :=
  (if (gI r 13) ≤ x7 then R_seekDriven_p214 N kb26 r x1 x2 x3 else (dv x4 5).bind fun y8 => (dv x3 y8).bind fun y9 => (rm y9 5).bind fun y10 => (sto (gA r 36) x7 y10).bind fun w11 => kb180 (sA r 36 w11) x1 x2 x3 y8 (x7 + 1))
def R_seekDriven_p180 (N : Nat) (kb26 : St → Int32 → Int32 → Int32 → Option (Int32 × St)) : Nat → St → Int32 → Int32 → Int32 → Int32 → Int32 → Option (Int32 × St)
  | 0 => fun _ _ _ _ _ _ => none
  | n + 1 => R_seekDriven_p180b N kb26 (R_seekDriven_p180 N kb26 n)
def R_seekDriven_p139 (N : Nat) (kb26 : St → Int32 → Int32 → Int32 → Option (Int32 × St)) (kb66 : St → Int32 → Int32 → Int32 → Int32 → Int32 → Int32 → Int32 → Option (Int32 × St)) (r : St) (x1 : Int32) (x2 : Int32) (x3 : Int32) (x4 : Int32) (x5 : Int32) (x7 : Int32) (x8 : Int32) (s0 : Int32) : Option (Int32 × St) :=
  (R_comesOf N r x7 x8).bind fun p19 => kb66 r x1 x2 x3 x4 (x5 + p19) s0 (x7 + 1)
def R_seekDriven_p138 (N : Nat) (kb26 : St → Int32 → Int32 → Int32 → Option (Int32 × St)) (kb66 : St → Int32 → Int32 → Int32 → Int32 → Int32 → Int32 → Int32 → Option (Int32 × St)) (r : St) (x1 : Int32) (x2 : Int32) (x3 : Int32) (x4 : Int32) (x5 : Int32) (x7 : Int32) (x8 : Int32) : Option (Int32 × St) :=
  R_seekDriven_p139 N kb26 kb66 r x1 x2 x3 x4 x5 x7 x8 0
def R_seekDriven_p134 (N : Nat) (kb26 : St → Int32 → Int32 → Int32 → Option (Int32 × St)) (kb66 : St → Int32 → Int32 → Int32 → Int32 → Int32 → Int32 → Int32 → Option (Int32 × St)) (r : St) (x1 : Int32) (x2 : Int32) (x3 : Int32) (x4 : Int32) (x5 : Int32) (x7 : Int32) (x8 : Int32) : Option (Int32 × St) :=
  R_seekDriven_p139 N kb26 kb66 r x1 x2 x3 x4 x5 x7 x8 1
def R_seekDriven_p66b (N : Nat) (kb26 : St → Int32 → Int32 → Int32 → Option (Int32 × St)) (kb66 : St → Int32 → Int32 → Int32 → Int32 → Int32 → Int32 → Int32 → Option (Int32 × St)) (r : St) (x1 : Int32) (x2 : Int32) (x3 : Int32) (x4 : Int32) (x5 : Int32) (x6 : Int32) (x7 : Int32) : Option (Int32 × St) :=
  (if (gI r 13) ≤ x7 then (if x6 = 0 then R_seekDriven_p214 N kb26 r x1 x2 x3 else (if x5 ≤ x2 then R_seekDriven_p214 N kb26 r x1 x2 x3 else R_seekDriven_p180 N kb26 N r x1 x5 x3 x1 0)) else (dv x4 5).bind fun y12 => (dv x3 y12).bind fun y13 => (rm y13 5).bind fun y14 => (ld (gA r 37) y14).bind fun y15 => (ld (gA r 16) x7).bind fun y16 => (sto (gA r 37) y14 (y15 + y16)).bind fun w17 => (if x6 = 0 then R_seekDriven_p138 N kb26 kb66 (sA r 37 w17) x1 x2 x3 y12 x5 x7 y14 else (if y14 = 4 then R_seekDriven_p134 N kb26 kb66 (sA r 37 w17) x1 x2 x3 y12 x5 x7 y14 else (ld (gA (sA r 37 w17) 37) y14).bind fun y21 => (ld (gA (sA r 37 w17) 19) y14).bind fun y22 => (if y22 < y21 then R_seekDriven_p138 N kb26 kb66 (sA r 37 w17) x1 x2 x3 y12 x5 x7 y14 else R_seekDriven_p134 N kb26 kb66 (sA r 37 w17) x1 x2 x3 y12 x5 x7 y14))))
def R_seekDriven_p66 (N : Nat) (kb26 : St → Int32 → Int32 → Int32 → Option (Int32 × St)) : Nat → St → Int32 → Int32 → Int32 → Int32 → Int32 → Int32 → Int32 → Option (Int32 × St)
  | 0 => fun _ _ _ _ _ _ _ _ => none
  | n + 1 => R_seekDriven_p66b N kb26 (R_seekDriven_p66 N kb26 n)
def R_seekDriven_p43b (N : Nat) (kb26 : St → Int32 → Int32 → Int32 → Option (Int32 × St)) (kb43 : St → Int32 → Int32 → Int32 → Int32 → Int32 → Int32 → Int32 → Option (Int32 × St)) (r : St) (x1 : Int32) (x2 : Int32) (x3 : Int32) (x4 : Int32) (x5 : Int32) (x6 : Int32) (x7 : Int32) : Option (Int32 × St) :=
  (if 5 ≤ x7 then R_seekDriven_p66 N kb26 N r x1 x2 x3 x4 x5 x6 0 else (sto (gA r 37) x7 0).bind fun w24 => kb43 (sA r 37 w24) x1 x2 x3 x4 x5 x6 (x7 + 1))
def R_seekDriven_p43 (N : Nat) (kb26 : St → Int32 → Int32 → Int32 → Option (Int32 × St)) : Nat → St → Int32 → Int32 → Int32 → Int32 → Int32 → Int32 → Int32 → Option (Int32 × St)
  | 0 => fun _ _ _ _ _ _ _ _ => none
  | n + 1 => R_seekDriven_p43b N kb26 (R_seekDriven_p43 N kb26 n)
def R_seekDriven_p26b (N : Nat) (kb26 : St → Int32 → Int32 → Int32 → Option (Int32 × St)) (r : St) (x1 : Int32) (x2 : Int32) (x3 : Int32) : Option (Int32 × St) :=
  (if x1 ≤ x3 then some (x2, r) else R_seekDriven_p43 N kb26 N r x1 x2 x3 x1 0 1 0)
def R_seekDriven_p26 (N : Nat) : Nat → St → Int32 → Int32 → Int32 → Option (Int32 × St)
  | 0 => fun _ _ _ _ => none
  | n + 1 => R_seekDriven_p26b N (R_seekDriven_p26 N n)
def R_seekDriven_p4b (N : Nat) (kb4 : St → Int32 → Int32 → Option (Int32 × St)) (r : St) (x1 : Int32) (x2 : Int32) : Option (Int32 × St) :=
  (if (gI r 13) ≤ x2 then R_seekDriven_p26 N N r x1 (-1) 0 else kb4 r (x1 * 5) (x2 + 1))
def R_seekDriven_p4 (N : Nat) : Nat → St → Int32 → Int32 → Option (Int32 × St)
  | 0 => fun _ _ _ => none
  | n + 1 => R_seekDriven_p4b N (R_seekDriven_p4 N n)
def R_seekDriven (N : Nat) (r : St) : Option (Int32 × St) :=
  R_seekDriven_p4 N N r 1 0
set_option maxHeartbeats 8000000 in
set_option maxRecDepth 100000 in
theorem t_R_seekDriven_p214 (N d : Nat) (xs : List Int32) (c : St) (kb26 : St → Int32 → Int32 → Int32 → Option (Int32 × St)) (hb26 : ∀ (r : St) (x1 : Int32) (x2 : Int32) (x3 : Int32), Ok (mBig (mRoL xs) (d + 1)) (mRoL xs) 1 mK225 (fun p : Int32 × St => (some (.int p.1), HP c p.2)) (kb26 r x1 x2 x3) 26 [some (.ref 115), some (.int x1), some (.int x2), some (.int x3), none, none, none, none, none] [] (HP c r)) (r : St) (x1 : Int32) (x2 : Int32) (x3 : Int32) : Ok (mBig (mRoL xs) (d + 1)) (mRoL xs) 1 mK225 (fun p : Int32 × St => (some (.int p.1), HP c p.2)) (R_seekDriven_p214 N kb26 r x1 x2 x3) 214 [some (.ref 115), some (.int x1), some (.int x2), some (.int x3), none, none, none, none, none] [] (HP c r) := by
  unfold R_seekDriven_p214
  refine Ok_blk 2 (pc2 := 26) (lo2 := [some (.ref 115), some (.int x1), some (.int x2), some (.int (x3 + 1)), none, none, none, none, none]) (st2 := []) rfl ?_
  refine Ok_drop (lo0 := [some (.ref 115), some (.int x1), some (.int x2), some (.int (x3 + 1)), none, none, none, none, none]) ⟨Or.inr rfl, Or.inr rfl, Or.inr rfl, Or.inr rfl, Or.inl rfl, Or.inl rfl, Or.inl rfl, Or.inl rfl, Or.inl rfl, trivial⟩ ?_
  exact hb26 r x1 x2 (x3 + 1)
set_option maxHeartbeats 8000000 in
set_option maxRecDepth 100000 in
theorem t_R_seekDriven_p180b (N d : Nat) (xs : List Int32) (c : St) (kb26 : St → Int32 → Int32 → Int32 → Option (Int32 × St)) (hb26 : ∀ (r : St) (x1 : Int32) (x2 : Int32) (x3 : Int32), Ok (mBig (mRoL xs) (d + 1)) (mRoL xs) 1 mK225 (fun p : Int32 × St => (some (.int p.1), HP c p.2)) (kb26 r x1 x2 x3) 26 [some (.ref 115), some (.int x1), some (.int x2), some (.int x3), none, none, none, none, none] [] (HP c r)) (kb180 : St → Int32 → Int32 → Int32 → Int32 → Int32 → Option (Int32 × St)) (hb180 : ∀ (r : St) (x1 : Int32) (x2 : Int32) (x3 : Int32) (x4 : Int32) (x7 : Int32), Ok (mBig (mRoL xs) (d + 1)) (mRoL xs) 1 mK225 (fun p : Int32 × St => (some (.int p.1), HP c p.2)) (kb180 r x1 x2 x3 x4 x7) 180 [some (.ref 115), some (.int x1), some (.int x2), some (.int x3), some (.int x4), none, none, some (.int x7), none] [] (HP c r)) (r : St) (x1 : Int32) (x2 : Int32) (x3 : Int32) (x4 : Int32) (x7 : Int32) : Ok (mBig (mRoL xs) (d + 1)) (mRoL xs) 1 mK225 (fun p : Int32 × St => (some (.int p.1), HP c p.2)) (R_seekDriven_p180b N kb26 kb180 r x1 x2 x3 x4 x7) 180 [some (.ref 115), some (.int x1), some (.int x2), some (.int x3), some (.int x4), none, none, some (.int x7), none] [] (HP c r) := by
  unfold R_seekDriven_p180b
  refine Ok_blk 4 (pc2 := (if (gI r 13) ≤ x7 then 214 else 189)) (lo2 := [some (.ref 115), some (.int x1), some (.int x2), some (.int x3), some (.int x4), none, none, some (.int x7), none]) (st2 := []) rfl ?_
  refine Ok_if (fun h7 => ?_) (fun h7 => ?_)
  · refine Ok_drop (lo0 := [some (.ref 115), some (.int x1), some (.int x2), some (.int x3), none, none, none, none, none]) ⟨Or.inr rfl, Or.inr rfl, Or.inr rfl, Or.inr rfl, Or.inl rfl, Or.inl rfl, Or.inl rfl, Or.inl rfl, Or.inl rfl, trivial⟩ ?_
    exact t_R_seekDriven_p214 N d xs c kb26 hb26 r x1 x2 x3
  · refine Ok_blk 2 (pc2 := 192) (lo2 := [some (.ref 115), some (.int x1), some (.int x2), some (.int x3), some (.int x4), none, none, some (.int x7), none]) (st2 := [.int 5, .int x4]) rfl ?_
    refine Ok_dv rfl (fun y8 hy8 => ?_)
    refine Ok_blk 6 (pc2 := 204) (lo2 := [some (.ref 115), some (.int x1), some (.int x2), some (.int x3), some (.int y8), none, none, some (.int x7), none]) (st2 := [.int y8, .int x3, .int x7, .ref 154]) rfl ?_
    refine Ok_dv rfl (fun y9 hy9 => ?_)
    refine Ok_blk 1 (pc2 := 206) (lo2 := [some (.ref 115), some (.int x1), some (.int x2), some (.int x3), some (.int y8), none, none, some (.int x7), none]) (st2 := [.int 5, .int y9, .int x7, .ref 154]) rfl ?_
    refine Ok_rm rfl (fun y10 hy10 => ?_)
    refine Ok_st (l := (gA r 36)) (hn := fun l' => HP c (sA r 36 l')) rfl rfl (fun l' => sa_154 _ _ l') (fun w11 hw11 => ?_)
    refine Ok_blk 2 (pc2 := 180) (lo2 := [some (.ref 115), some (.int x1), some (.int x2), some (.int x3), some (.int y8), none, none, some (.int (x7 + 1)), none]) (st2 := []) rfl ?_
    refine Ok_drop (lo0 := [some (.ref 115), some (.int x1), some (.int x2), some (.int x3), some (.int y8), none, none, some (.int (x7 + 1)), none]) ⟨Or.inr rfl, Or.inr rfl, Or.inr rfl, Or.inr rfl, Or.inr rfl, Or.inl rfl, Or.inl rfl, Or.inr rfl, Or.inl rfl, trivial⟩ ?_
    exact hb180 (sA r 36 w11) x1 x2 x3 y8 (x7 + 1)
set_option maxHeartbeats 8000000 in
set_option maxRecDepth 100000 in
theorem t_R_seekDriven_p180 (N d : Nat) (xs : List Int32) (c : St) (kb26 : St → Int32 → Int32 → Int32 → Option (Int32 × St)) (hb26 : ∀ (r : St) (x1 : Int32) (x2 : Int32) (x3 : Int32), Ok (mBig (mRoL xs) (d + 1)) (mRoL xs) 1 mK225 (fun p : Int32 × St => (some (.int p.1), HP c p.2)) (kb26 r x1 x2 x3) 26 [some (.ref 115), some (.int x1), some (.int x2), some (.int x3), none, none, none, none, none] [] (HP c r)) : ∀ (n : Nat) (r : St) (x1 : Int32) (x2 : Int32) (x3 : Int32) (x4 : Int32) (x7 : Int32), Ok (mBig (mRoL xs) (d + 1)) (mRoL xs) 1 mK225 (fun p : Int32 × St => (some (.int p.1), HP c p.2)) (R_seekDriven_p180 N kb26 n r x1 x2 x3 x4 x7) 180 [some (.ref 115), some (.int x1), some (.int x2), some (.int x3), some (.int x4), none, none, some (.int x7), none] [] (HP c r) := by
  intro n
  induction n with
  | zero => intro r x1 x2 x3 x4 x7; exact Ok_none
  | succ n ih => intro r x1 x2 x3 x4 x7; exact t_R_seekDriven_p180b N d xs c kb26 hb26 (R_seekDriven_p180 N kb26 n) ih r x1 x2 x3 x4 x7
set_option maxHeartbeats 8000000 in
set_option maxRecDepth 100000 in
theorem t_R_seekDriven_p139 (N d : Nat) (xs : List Int32) (c : St) (kb26 : St → Int32 → Int32 → Int32 → Option (Int32 × St)) (hb26 : ∀ (r : St) (x1 : Int32) (x2 : Int32) (x3 : Int32), Ok (mBig (mRoL xs) (d + 1)) (mRoL xs) 1 mK225 (fun p : Int32 × St => (some (.int p.1), HP c p.2)) (kb26 r x1 x2 x3) 26 [some (.ref 115), some (.int x1), some (.int x2), some (.int x3), none, none, none, none, none] [] (HP c r)) (kb66 : St → Int32 → Int32 → Int32 → Int32 → Int32 → Int32 → Int32 → Option (Int32 × St)) (hb66 : ∀ (r : St) (x1 : Int32) (x2 : Int32) (x3 : Int32) (x4 : Int32) (x5 : Int32) (x6 : Int32) (x7 : Int32), Ok (mBig (mRoL xs) (d + 1)) (mRoL xs) 1 mK225 (fun p : Int32 × St => (some (.int p.1), HP c p.2)) (kb66 r x1 x2 x3 x4 x5 x6 x7) 66 [some (.ref 115), some (.int x1), some (.int x2), some (.int x3), some (.int x4), some (.int x5), some (.int x6), some (.int x7), none] [] (HP c r)) (r : St) (x1 : Int32) (x2 : Int32) (x3 : Int32) (x4 : Int32) (x5 : Int32) (x7 : Int32) (x8 : Int32) (s0 : Int32) : Ok (mBig (mRoL xs) (d + 1)) (mRoL xs) 1 mK225 (fun p : Int32 × St => (some (.int p.1), HP c p.2)) (R_seekDriven_p139 N kb26 kb66 r x1 x2 x3 x4 x5 x7 x8 s0) 139 [some (.ref 115), some (.int x1), some (.int x2), some (.int x3), some (.int x4), some (.int x5), none, some (.int x7), some (.int x8)] [.int s0] (HP c r) := by
  unfold R_seekDriven_p139
  refine Ok_blk 5 (pc2 := 148) (lo2 := [some (.ref 115), some (.int x1), some (.int x2), some (.int x3), some (.int x4), some (.int x5), some (.int s0), some (.int x7), some (.int x8)]) (st2 := [.int x8, .int x7, .ref 115, .int x5]) rfl ?_
  refine Ok_call (y := 224) (as := [.ref 115, .int x7, .int x8]) (rest := [.int x5]) (w := fun p19 => some (.int p19)) (h1 := fun p19 => HP c r) rfl rfl (fun x hx => tm_R_comesOf N d xs c r x7 x8 x hx) (fun p19 hp19 => ?_)
  refine Ok_blk 4 (pc2 := 66) (lo2 := [some (.ref 115), some (.int x1), some (.int x2), some (.int x3), some (.int x4), some (.int (x5 + p19)), some (.int s0), some (.int (x7 + 1)), some (.int x8)]) (st2 := []) rfl ?_
  refine Ok_drop (lo0 := [some (.ref 115), some (.int x1), some (.int x2), some (.int x3), some (.int x4), some (.int (x5 + p19)), some (.int s0), some (.int (x7 + 1)), none]) ⟨Or.inr rfl, Or.inr rfl, Or.inr rfl, Or.inr rfl, Or.inr rfl, Or.inr rfl, Or.inr rfl, Or.inr rfl, Or.inl rfl, trivial⟩ ?_
  exact hb66 r x1 x2 x3 x4 (x5 + p19) s0 (x7 + 1)
set_option maxHeartbeats 8000000 in
set_option maxRecDepth 100000 in
theorem t_R_seekDriven_p138 (N d : Nat) (xs : List Int32) (c : St) (kb26 : St → Int32 → Int32 → Int32 → Option (Int32 × St)) (hb26 : ∀ (r : St) (x1 : Int32) (x2 : Int32) (x3 : Int32), Ok (mBig (mRoL xs) (d + 1)) (mRoL xs) 1 mK225 (fun p : Int32 × St => (some (.int p.1), HP c p.2)) (kb26 r x1 x2 x3) 26 [some (.ref 115), some (.int x1), some (.int x2), some (.int x3), none, none, none, none, none] [] (HP c r)) (kb66 : St → Int32 → Int32 → Int32 → Int32 → Int32 → Int32 → Int32 → Option (Int32 × St)) (hb66 : ∀ (r : St) (x1 : Int32) (x2 : Int32) (x3 : Int32) (x4 : Int32) (x5 : Int32) (x6 : Int32) (x7 : Int32), Ok (mBig (mRoL xs) (d + 1)) (mRoL xs) 1 mK225 (fun p : Int32 × St => (some (.int p.1), HP c p.2)) (kb66 r x1 x2 x3 x4 x5 x6 x7) 66 [some (.ref 115), some (.int x1), some (.int x2), some (.int x3), some (.int x4), some (.int x5), some (.int x6), some (.int x7), none] [] (HP c r)) (r : St) (x1 : Int32) (x2 : Int32) (x3 : Int32) (x4 : Int32) (x5 : Int32) (x7 : Int32) (x8 : Int32) : Ok (mBig (mRoL xs) (d + 1)) (mRoL xs) 1 mK225 (fun p : Int32 × St => (some (.int p.1), HP c p.2)) (R_seekDriven_p138 N kb26 kb66 r x1 x2 x3 x4 x5 x7 x8) 138 [some (.ref 115), some (.int x1), some (.int x2), some (.int x3), some (.int x4), some (.int x5), none, some (.int x7), some (.int x8)] [] (HP c r) := by
  unfold R_seekDriven_p138
  refine Ok_blk 1 (pc2 := 139) (lo2 := [some (.ref 115), some (.int x1), some (.int x2), some (.int x3), some (.int x4), some (.int x5), none, some (.int x7), some (.int x8)]) (st2 := [.int 0]) rfl ?_
  refine Ok_drop (lo0 := [some (.ref 115), some (.int x1), some (.int x2), some (.int x3), some (.int x4), some (.int x5), none, some (.int x7), some (.int x8)]) ⟨Or.inr rfl, Or.inr rfl, Or.inr rfl, Or.inr rfl, Or.inr rfl, Or.inr rfl, Or.inl rfl, Or.inr rfl, Or.inr rfl, trivial⟩ ?_
  exact t_R_seekDriven_p139 N d xs c kb26 hb26 kb66 hb66 r x1 x2 x3 x4 x5 x7 x8 0
set_option maxHeartbeats 8000000 in
set_option maxRecDepth 100000 in
theorem t_R_seekDriven_p134 (N d : Nat) (xs : List Int32) (c : St) (kb26 : St → Int32 → Int32 → Int32 → Option (Int32 × St)) (hb26 : ∀ (r : St) (x1 : Int32) (x2 : Int32) (x3 : Int32), Ok (mBig (mRoL xs) (d + 1)) (mRoL xs) 1 mK225 (fun p : Int32 × St => (some (.int p.1), HP c p.2)) (kb26 r x1 x2 x3) 26 [some (.ref 115), some (.int x1), some (.int x2), some (.int x3), none, none, none, none, none] [] (HP c r)) (kb66 : St → Int32 → Int32 → Int32 → Int32 → Int32 → Int32 → Int32 → Option (Int32 × St)) (hb66 : ∀ (r : St) (x1 : Int32) (x2 : Int32) (x3 : Int32) (x4 : Int32) (x5 : Int32) (x6 : Int32) (x7 : Int32), Ok (mBig (mRoL xs) (d + 1)) (mRoL xs) 1 mK225 (fun p : Int32 × St => (some (.int p.1), HP c p.2)) (kb66 r x1 x2 x3 x4 x5 x6 x7) 66 [some (.ref 115), some (.int x1), some (.int x2), some (.int x3), some (.int x4), some (.int x5), some (.int x6), some (.int x7), none] [] (HP c r)) (r : St) (x1 : Int32) (x2 : Int32) (x3 : Int32) (x4 : Int32) (x5 : Int32) (x7 : Int32) (x8 : Int32) : Ok (mBig (mRoL xs) (d + 1)) (mRoL xs) 1 mK225 (fun p : Int32 × St => (some (.int p.1), HP c p.2)) (R_seekDriven_p134 N kb26 kb66 r x1 x2 x3 x4 x5 x7 x8) 134 [some (.ref 115), some (.int x1), some (.int x2), some (.int x3), some (.int x4), some (.int x5), none, some (.int x7), some (.int x8)] [] (HP c r) := by
  unfold R_seekDriven_p134
  refine Ok_blk 2 (pc2 := 139) (lo2 := [some (.ref 115), some (.int x1), some (.int x2), some (.int x3), some (.int x4), some (.int x5), none, some (.int x7), some (.int x8)]) (st2 := [.int 1]) rfl ?_
  refine Ok_drop (lo0 := [some (.ref 115), some (.int x1), some (.int x2), some (.int x3), some (.int x4), some (.int x5), none, some (.int x7), some (.int x8)]) ⟨Or.inr rfl, Or.inr rfl, Or.inr rfl, Or.inr rfl, Or.inr rfl, Or.inr rfl, Or.inl rfl, Or.inr rfl, Or.inr rfl, trivial⟩ ?_
  exact t_R_seekDriven_p139 N d xs c kb26 hb26 kb66 hb66 r x1 x2 x3 x4 x5 x7 x8 1
set_option maxHeartbeats 8000000 in
set_option maxRecDepth 100000 in
theorem t_R_seekDriven_p66b (N d : Nat) (xs : List Int32) (c : St) (kb26 : St → Int32 → Int32 → Int32 → Option (Int32 × St)) (hb26 : ∀ (r : St) (x1 : Int32) (x2 : Int32) (x3 : Int32), Ok (mBig (mRoL xs) (d + 1)) (mRoL xs) 1 mK225 (fun p : Int32 × St => (some (.int p.1), HP c p.2)) (kb26 r x1 x2 x3) 26 [some (.ref 115), some (.int x1), some (.int x2), some (.int x3), none, none, none, none, none] [] (HP c r)) (kb66 : St → Int32 → Int32 → Int32 → Int32 → Int32 → Int32 → Int32 → Option (Int32 × St)) (hb66 : ∀ (r : St) (x1 : Int32) (x2 : Int32) (x3 : Int32) (x4 : Int32) (x5 : Int32) (x6 : Int32) (x7 : Int32), Ok (mBig (mRoL xs) (d + 1)) (mRoL xs) 1 mK225 (fun p : Int32 × St => (some (.int p.1), HP c p.2)) (kb66 r x1 x2 x3 x4 x5 x6 x7) 66 [some (.ref 115), some (.int x1), some (.int x2), some (.int x3), some (.int x4), some (.int x5), some (.int x6), some (.int x7), none] [] (HP c r)) (r : St) (x1 : Int32) (x2 : Int32) (x3 : Int32) (x4 : Int32) (x5 : Int32) (x6 : Int32) (x7 : Int32) : Ok (mBig (mRoL xs) (d + 1)) (mRoL xs) 1 mK225 (fun p : Int32 × St => (some (.int p.1), HP c p.2)) (R_seekDriven_p66b N kb26 kb66 r x1 x2 x3 x4 x5 x6 x7) 66 [some (.ref 115), some (.int x1), some (.int x2), some (.int x3), some (.int x4), some (.int x5), some (.int x6), some (.int x7), none] [] (HP c r) := by
  unfold R_seekDriven_p66b
  refine Ok_blk 4 (pc2 := (if (gI r 13) ≤ x7 then 160 else 75)) (lo2 := [some (.ref 115), some (.int x1), some (.int x2), some (.int x3), some (.int x4), some (.int x5), some (.int x6), some (.int x7), none]) (st2 := []) rfl ?_
  refine Ok_if (fun h4 => ?_) (fun h4 => ?_)
  · refine Ok_blk 2 (pc2 := (if x6 = 0 then 214 else 165)) (lo2 := [some (.ref 115), some (.int x1), some (.int x2), some (.int x3), some (.int x4), some (.int x5), some (.int x6), some (.int x7), none]) (st2 := []) rfl ?_
    refine Ok_if (fun h5 => ?_) (fun h5 => ?_)
    · refine Ok_drop (lo0 := [some (.ref 115), some (.int x1), some (.int x2), some (.int x3), none, none, none, none, none]) ⟨Or.inr rfl, Or.inr rfl, Or.inr rfl, Or.inr rfl, Or.inl rfl, Or.inl rfl, Or.inl rfl, Or.inl rfl, Or.inl rfl, trivial⟩ ?_
      exact t_R_seekDriven_p214 N d xs c kb26 hb26 r x1 x2 x3
    · refine Ok_blk 3 (pc2 := (if x5 ≤ x2 then 214 else 171)) (lo2 := [some (.ref 115), some (.int x1), some (.int x2), some (.int x3), some (.int x4), some (.int x5), some (.int x6), some (.int x7), none]) (st2 := []) rfl ?_
      refine Ok_if (fun h6 => ?_) (fun h6 => ?_)
      · refine Ok_drop (lo0 := [some (.ref 115), some (.int x1), some (.int x2), some (.int x3), none, none, none, none, none]) ⟨Or.inr rfl, Or.inr rfl, Or.inr rfl, Or.inr rfl, Or.inl rfl, Or.inl rfl, Or.inl rfl, Or.inl rfl, Or.inl rfl, trivial⟩ ?_
        exact t_R_seekDriven_p214 N d xs c kb26 hb26 r x1 x2 x3
      · refine Ok_blk 6 (pc2 := 180) (lo2 := [some (.ref 115), some (.int x1), some (.int x5), some (.int x3), some (.int x1), some (.int x5), some (.int x6), some (.int 0), none]) (st2 := []) rfl ?_
        refine Ok_drop (lo0 := [some (.ref 115), some (.int x1), some (.int x5), some (.int x3), some (.int x1), none, none, some (.int 0), none]) ⟨Or.inr rfl, Or.inr rfl, Or.inr rfl, Or.inr rfl, Or.inr rfl, Or.inl rfl, Or.inl rfl, Or.inr rfl, Or.inl rfl, trivial⟩ ?_
        exact t_R_seekDriven_p180 N d xs c kb26 hb26 N r x1 x5 x3 x1 0
  · refine Ok_blk 2 (pc2 := 78) (lo2 := [some (.ref 115), some (.int x1), some (.int x2), some (.int x3), some (.int x4), some (.int x5), some (.int x6), some (.int x7), none]) (st2 := [.int 5, .int x4]) rfl ?_
    refine Ok_dv rfl (fun y12 hy12 => ?_)
    refine Ok_blk 3 (pc2 := 84) (lo2 := [some (.ref 115), some (.int x1), some (.int x2), some (.int x3), some (.int y12), some (.int x5), some (.int x6), some (.int x7), none]) (st2 := [.int y12, .int x3]) rfl ?_
    refine Ok_dv rfl (fun y13 hy13 => ?_)
    refine Ok_blk 1 (pc2 := 86) (lo2 := [some (.ref 115), some (.int x1), some (.int x2), some (.int x3), some (.int y12), some (.int x5), some (.int x6), some (.int x7), none]) (st2 := [.int 5, .int y13]) rfl ?_
    refine Ok_rm rfl (fun y14 hy14 => ?_)
    refine Ok_blk 5 (pc2 := 96) (lo2 := [some (.ref 115), some (.int x1), some (.int x2), some (.int x3), some (.int y12), some (.int x5), some (.int x6), some (.int x7), some (.int y14)]) (st2 := [.int y14, .ref 155, .int y14, .ref 155]) rfl ?_
    refine Ok_ld (l := (gA r 37)) rfl rfl (fun y15 hy15 => ?_)
    refine Ok_blk 3 (pc2 := 103) (lo2 := [some (.ref 115), some (.int x1), some (.int x2), some (.int x3), some (.int y12), some (.int x5), some (.int x6), some (.int x7), some (.int y14)]) (st2 := [.int x7, .ref 132, .int y15, .int y14, .ref 155]) rfl ?_
    refine Ok_ld (l := (gA r 16)) rfl rfl (fun y16 hy16 => ?_)
    refine Ok_blk 1 (pc2 := 105) (lo2 := [some (.ref 115), some (.int x1), some (.int x2), some (.int x3), some (.int y12), some (.int x5), some (.int x6), some (.int x7), some (.int y14)]) (st2 := [.int (y15 + y16), .int y14, .ref 155]) rfl ?_
    refine Ok_st (l := (gA r 37)) (hn := fun l' => HP c (sA r 37 l')) rfl rfl (fun l' => sa_155 _ _ l') (fun w17 hw17 => ?_)
    refine Ok_blk 2 (pc2 := (if x6 = 0 then 138 else 111)) (lo2 := [some (.ref 115), some (.int x1), some (.int x2), some (.int x3), some (.int y12), some (.int x5), some (.int x6), some (.int x7), some (.int y14)]) (st2 := []) rfl ?_
    refine Ok_if (fun h18 => ?_) (fun h18 => ?_)
    · refine Ok_drop (lo0 := [some (.ref 115), some (.int x1), some (.int x2), some (.int x3), some (.int y12), some (.int x5), none, some (.int x7), some (.int y14)]) ⟨Or.inr rfl, Or.inr rfl, Or.inr rfl, Or.inr rfl, Or.inr rfl, Or.inr rfl, Or.inl rfl, Or.inr rfl, Or.inr rfl, trivial⟩ ?_
      exact t_R_seekDriven_p138 N d xs c kb26 hb26 kb66 hb66 (sA r 37 w17) x1 x2 x3 y12 x5 x7 y14
    · refine Ok_blk 3 (pc2 := (if y14 = 4 then 134 else 117)) (lo2 := [some (.ref 115), some (.int x1), some (.int x2), some (.int x3), some (.int y12), some (.int x5), some (.int x6), some (.int x7), some (.int y14)]) (st2 := []) rfl ?_
      refine Ok_if (fun h20 => ?_) (fun h20 => ?_)
      · refine Ok_drop (lo0 := [some (.ref 115), some (.int x1), some (.int x2), some (.int x3), some (.int y12), some (.int x5), none, some (.int x7), some (.int y14)]) ⟨Or.inr rfl, Or.inr rfl, Or.inr rfl, Or.inr rfl, Or.inr rfl, Or.inr rfl, Or.inl rfl, Or.inr rfl, Or.inr rfl, trivial⟩ ?_
        exact t_R_seekDriven_p134 N d xs c kb26 hb26 kb66 hb66 (sA r 37 w17) x1 x2 x3 y12 x5 x7 y14
      · refine Ok_blk 3 (pc2 := 123) (lo2 := [some (.ref 115), some (.int x1), some (.int x2), some (.int x3), some (.int y12), some (.int x5), some (.int x6), some (.int x7), some (.int y14)]) (st2 := [.int y14, .ref 155]) rfl ?_
        refine Ok_ld (l := (gA (sA r 37 w17) 37)) rfl rfl (fun y21 hy21 => ?_)
        refine Ok_blk 3 (pc2 := 130) (lo2 := [some (.ref 115), some (.int x1), some (.int x2), some (.int x3), some (.int y12), some (.int x5), some (.int x6), some (.int x7), some (.int y14)]) (st2 := [.int y14, .ref 135, .int y21]) rfl ?_
        refine Ok_ld (l := (gA (sA r 37 w17) 19)) rfl rfl (fun y22 hy22 => ?_)
        refine Ok_blk 1 (pc2 := (if y22 < y21 then 138 else 134)) (lo2 := [some (.ref 115), some (.int x1), some (.int x2), some (.int x3), some (.int y12), some (.int x5), some (.int x6), some (.int x7), some (.int y14)]) (st2 := []) rfl ?_
        refine Ok_if (fun h23 => ?_) (fun h23 => ?_)
        · refine Ok_drop (lo0 := [some (.ref 115), some (.int x1), some (.int x2), some (.int x3), some (.int y12), some (.int x5), none, some (.int x7), some (.int y14)]) ⟨Or.inr rfl, Or.inr rfl, Or.inr rfl, Or.inr rfl, Or.inr rfl, Or.inr rfl, Or.inl rfl, Or.inr rfl, Or.inr rfl, trivial⟩ ?_
          exact t_R_seekDriven_p138 N d xs c kb26 hb26 kb66 hb66 (sA r 37 w17) x1 x2 x3 y12 x5 x7 y14
        · refine Ok_drop (lo0 := [some (.ref 115), some (.int x1), some (.int x2), some (.int x3), some (.int y12), some (.int x5), none, some (.int x7), some (.int y14)]) ⟨Or.inr rfl, Or.inr rfl, Or.inr rfl, Or.inr rfl, Or.inr rfl, Or.inr rfl, Or.inl rfl, Or.inr rfl, Or.inr rfl, trivial⟩ ?_
          exact t_R_seekDriven_p134 N d xs c kb26 hb26 kb66 hb66 (sA r 37 w17) x1 x2 x3 y12 x5 x7 y14
set_option maxHeartbeats 8000000 in
set_option maxRecDepth 100000 in
theorem t_R_seekDriven_p66 (N d : Nat) (xs : List Int32) (c : St) (kb26 : St → Int32 → Int32 → Int32 → Option (Int32 × St)) (hb26 : ∀ (r : St) (x1 : Int32) (x2 : Int32) (x3 : Int32), Ok (mBig (mRoL xs) (d + 1)) (mRoL xs) 1 mK225 (fun p : Int32 × St => (some (.int p.1), HP c p.2)) (kb26 r x1 x2 x3) 26 [some (.ref 115), some (.int x1), some (.int x2), some (.int x3), none, none, none, none, none] [] (HP c r)) : ∀ (n : Nat) (r : St) (x1 : Int32) (x2 : Int32) (x3 : Int32) (x4 : Int32) (x5 : Int32) (x6 : Int32) (x7 : Int32), Ok (mBig (mRoL xs) (d + 1)) (mRoL xs) 1 mK225 (fun p : Int32 × St => (some (.int p.1), HP c p.2)) (R_seekDriven_p66 N kb26 n r x1 x2 x3 x4 x5 x6 x7) 66 [some (.ref 115), some (.int x1), some (.int x2), some (.int x3), some (.int x4), some (.int x5), some (.int x6), some (.int x7), none] [] (HP c r) := by
  intro n
  induction n with
  | zero => intro r x1 x2 x3 x4 x5 x6 x7; exact Ok_none
  | succ n ih => intro r x1 x2 x3 x4 x5 x6 x7; exact t_R_seekDriven_p66b N d xs c kb26 hb26 (R_seekDriven_p66 N kb26 n) ih r x1 x2 x3 x4 x5 x6 x7
set_option maxHeartbeats 8000000 in
set_option maxRecDepth 100000 in
theorem t_R_seekDriven_p43b (N d : Nat) (xs : List Int32) (c : St) (kb26 : St → Int32 → Int32 → Int32 → Option (Int32 × St)) (hb26 : ∀ (r : St) (x1 : Int32) (x2 : Int32) (x3 : Int32), Ok (mBig (mRoL xs) (d + 1)) (mRoL xs) 1 mK225 (fun p : Int32 × St => (some (.int p.1), HP c p.2)) (kb26 r x1 x2 x3) 26 [some (.ref 115), some (.int x1), some (.int x2), some (.int x3), none, none, none, none, none] [] (HP c r)) (kb43 : St → Int32 → Int32 → Int32 → Int32 → Int32 → Int32 → Int32 → Option (Int32 × St)) (hb43 : ∀ (r : St) (x1 : Int32) (x2 : Int32) (x3 : Int32) (x4 : Int32) (x5 : Int32) (x6 : Int32) (x7 : Int32), Ok (mBig (mRoL xs) (d + 1)) (mRoL xs) 1 mK225 (fun p : Int32 × St => (some (.int p.1), HP c p.2)) (kb43 r x1 x2 x3 x4 x5 x6 x7) 43 [some (.ref 115), some (.int x1), some (.int x2), some (.int x3), some (.int x4), some (.int x5), some (.int x6), some (.int x7), none] [] (HP c r)) (r : St) (x1 : Int32) (x2 : Int32) (x3 : Int32) (x4 : Int32) (x5 : Int32) (x6 : Int32) (x7 : Int32) : Ok (mBig (mRoL xs) (d + 1)) (mRoL xs) 1 mK225 (fun p : Int32 × St => (some (.int p.1), HP c p.2)) (R_seekDriven_p43b N kb26 kb43 r x1 x2 x3 x4 x5 x6 x7) 43 [some (.ref 115), some (.int x1), some (.int x2), some (.int x3), some (.int x4), some (.int x5), some (.int x6), some (.int x7), none] [] (HP c r) := by
  unfold R_seekDriven_p43b
  refine Ok_blk 3 (pc2 := (if 5 ≤ x7 then 63 else 49)) (lo2 := [some (.ref 115), some (.int x1), some (.int x2), some (.int x3), some (.int x4), some (.int x5), some (.int x6), some (.int x7), none]) (st2 := []) rfl ?_
  refine Ok_if (fun h3 => ?_) (fun h3 => ?_)
  · refine Ok_blk 2 (pc2 := 66) (lo2 := [some (.ref 115), some (.int x1), some (.int x2), some (.int x3), some (.int x4), some (.int x5), some (.int x6), some (.int 0), none]) (st2 := []) rfl ?_
    refine Ok_drop (lo0 := [some (.ref 115), some (.int x1), some (.int x2), some (.int x3), some (.int x4), some (.int x5), some (.int x6), some (.int 0), none]) ⟨Or.inr rfl, Or.inr rfl, Or.inr rfl, Or.inr rfl, Or.inr rfl, Or.inr rfl, Or.inr rfl, Or.inr rfl, Or.inl rfl, trivial⟩ ?_
    exact t_R_seekDriven_p66 N d xs c kb26 hb26 N r x1 x2 x3 x4 x5 x6 0
  · refine Ok_blk 4 (pc2 := 56) (lo2 := [some (.ref 115), some (.int x1), some (.int x2), some (.int x3), some (.int x4), some (.int x5), some (.int x6), some (.int x7), none]) (st2 := [.int 0, .int x7, .ref 155]) rfl ?_
    refine Ok_st (l := (gA r 37)) (hn := fun l' => HP c (sA r 37 l')) rfl rfl (fun l' => sa_155 _ _ l') (fun w24 hw24 => ?_)
    refine Ok_blk 2 (pc2 := 43) (lo2 := [some (.ref 115), some (.int x1), some (.int x2), some (.int x3), some (.int x4), some (.int x5), some (.int x6), some (.int (x7 + 1)), none]) (st2 := []) rfl ?_
    refine Ok_drop (lo0 := [some (.ref 115), some (.int x1), some (.int x2), some (.int x3), some (.int x4), some (.int x5), some (.int x6), some (.int (x7 + 1)), none]) ⟨Or.inr rfl, Or.inr rfl, Or.inr rfl, Or.inr rfl, Or.inr rfl, Or.inr rfl, Or.inr rfl, Or.inr rfl, Or.inl rfl, trivial⟩ ?_
    exact hb43 (sA r 37 w24) x1 x2 x3 x4 x5 x6 (x7 + 1)
set_option maxHeartbeats 8000000 in
set_option maxRecDepth 100000 in
theorem t_R_seekDriven_p43 (N d : Nat) (xs : List Int32) (c : St) (kb26 : St → Int32 → Int32 → Int32 → Option (Int32 × St)) (hb26 : ∀ (r : St) (x1 : Int32) (x2 : Int32) (x3 : Int32), Ok (mBig (mRoL xs) (d + 1)) (mRoL xs) 1 mK225 (fun p : Int32 × St => (some (.int p.1), HP c p.2)) (kb26 r x1 x2 x3) 26 [some (.ref 115), some (.int x1), some (.int x2), some (.int x3), none, none, none, none, none] [] (HP c r)) : ∀ (n : Nat) (r : St) (x1 : Int32) (x2 : Int32) (x3 : Int32) (x4 : Int32) (x5 : Int32) (x6 : Int32) (x7 : Int32), Ok (mBig (mRoL xs) (d + 1)) (mRoL xs) 1 mK225 (fun p : Int32 × St => (some (.int p.1), HP c p.2)) (R_seekDriven_p43 N kb26 n r x1 x2 x3 x4 x5 x6 x7) 43 [some (.ref 115), some (.int x1), some (.int x2), some (.int x3), some (.int x4), some (.int x5), some (.int x6), some (.int x7), none] [] (HP c r) := by
  intro n
  induction n with
  | zero => intro r x1 x2 x3 x4 x5 x6 x7; exact Ok_none
  | succ n ih => intro r x1 x2 x3 x4 x5 x6 x7; exact t_R_seekDriven_p43b N d xs c kb26 hb26 (R_seekDriven_p43 N kb26 n) ih r x1 x2 x3 x4 x5 x6 x7
set_option maxHeartbeats 8000000 in
set_option maxRecDepth 100000 in
theorem t_R_seekDriven_p26b (N d : Nat) (xs : List Int32) (c : St) (kb26 : St → Int32 → Int32 → Int32 → Option (Int32 × St)) (hb26 : ∀ (r : St) (x1 : Int32) (x2 : Int32) (x3 : Int32), Ok (mBig (mRoL xs) (d + 1)) (mRoL xs) 1 mK225 (fun p : Int32 × St => (some (.int p.1), HP c p.2)) (kb26 r x1 x2 x3) 26 [some (.ref 115), some (.int x1), some (.int x2), some (.int x3), none, none, none, none, none] [] (HP c r)) (r : St) (x1 : Int32) (x2 : Int32) (x3 : Int32) : Ok (mBig (mRoL xs) (d + 1)) (mRoL xs) 1 mK225 (fun p : Int32 × St => (some (.int p.1), HP c p.2)) (R_seekDriven_p26b N kb26 r x1 x2 x3) 26 [some (.ref 115), some (.int x1), some (.int x2), some (.int x3), none, none, none, none, none] [] (HP c r) := by
  unfold R_seekDriven_p26b
  refine Ok_blk 3 (pc2 := (if x1 ≤ x3 then 220 else 31)) (lo2 := [some (.ref 115), some (.int x1), some (.int x2), some (.int x3), none, none, none, none, none]) (st2 := []) rfl ?_
  refine Ok_if (fun h2 => ?_) (fun h2 => ?_)
  · refine Ok_blk 1 (pc2 := 221) (lo2 := [some (.ref 115), some (.int x1), some (.int x2), some (.int x3), none, none, none, none, none]) (st2 := [.int x2]) rfl ?_
    exact Ok_ret rfl rfl rfl
  · refine Ok_blk 8 (pc2 := 43) (lo2 := [some (.ref 115), some (.int x1), some (.int x2), some (.int x3), some (.int x1), some (.int 0), some (.int 1), some (.int 0), none]) (st2 := []) rfl ?_
    refine Ok_drop (lo0 := [some (.ref 115), some (.int x1), some (.int x2), some (.int x3), some (.int x1), some (.int 0), some (.int 1), some (.int 0), none]) ⟨Or.inr rfl, Or.inr rfl, Or.inr rfl, Or.inr rfl, Or.inr rfl, Or.inr rfl, Or.inr rfl, Or.inr rfl, Or.inl rfl, trivial⟩ ?_
    exact t_R_seekDriven_p43 N d xs c kb26 hb26 N r x1 x2 x3 x1 0 1 0
set_option maxHeartbeats 8000000 in
set_option maxRecDepth 100000 in
theorem t_R_seekDriven_p26 (N d : Nat) (xs : List Int32) (c : St) : ∀ (n : Nat) (r : St) (x1 : Int32) (x2 : Int32) (x3 : Int32), Ok (mBig (mRoL xs) (d + 1)) (mRoL xs) 1 mK225 (fun p : Int32 × St => (some (.int p.1), HP c p.2)) (R_seekDriven_p26 N n r x1 x2 x3) 26 [some (.ref 115), some (.int x1), some (.int x2), some (.int x3), none, none, none, none, none] [] (HP c r) := by
  intro n
  induction n with
  | zero => intro r x1 x2 x3; exact Ok_none
  | succ n ih => intro r x1 x2 x3; exact t_R_seekDriven_p26b N d xs c (R_seekDriven_p26 N n) ih r x1 x2 x3
set_option maxHeartbeats 8000000 in
set_option maxRecDepth 100000 in
theorem t_R_seekDriven_p4b (N d : Nat) (xs : List Int32) (c : St) (kb4 : St → Int32 → Int32 → Option (Int32 × St)) (hb4 : ∀ (r : St) (x1 : Int32) (x2 : Int32), Ok (mBig (mRoL xs) (d + 1)) (mRoL xs) 1 mK225 (fun p : Int32 × St => (some (.int p.1), HP c p.2)) (kb4 r x1 x2) 4 [some (.ref 115), some (.int x1), some (.int x2), none, none, none, none, none, none] [] (HP c r)) (r : St) (x1 : Int32) (x2 : Int32) : Ok (mBig (mRoL xs) (d + 1)) (mRoL xs) 1 mK225 (fun p : Int32 × St => (some (.int p.1), HP c p.2)) (R_seekDriven_p4b N kb4 r x1 x2) 4 [some (.ref 115), some (.int x1), some (.int x2), none, none, none, none, none, none] [] (HP c r) := by
  unfold R_seekDriven_p4b
  refine Ok_blk 4 (pc2 := (if (gI r 13) ≤ x2 then 22 else 12)) (lo2 := [some (.ref 115), some (.int x1), some (.int x2), none, none, none, none, none, none]) (st2 := []) rfl ?_
  refine Ok_if (fun h1 => ?_) (fun h1 => ?_)
  · refine Ok_blk 4 (pc2 := 26) (lo2 := [some (.ref 115), some (.int x1), some (.int (-1)), some (.int 0), none, none, none, none, none]) (st2 := []) rfl ?_
    refine Ok_drop (lo0 := [some (.ref 115), some (.int x1), some (.int (-1)), some (.int 0), none, none, none, none, none]) ⟨Or.inr rfl, Or.inr rfl, Or.inr rfl, Or.inr rfl, Or.inl rfl, Or.inl rfl, Or.inl rfl, Or.inl rfl, Or.inl rfl, trivial⟩ ?_
    exact t_R_seekDriven_p26 N d xs c N r x1 (-1) 0
  · refine Ok_blk 6 (pc2 := 4) (lo2 := [some (.ref 115), some (.int (x1 * 5)), some (.int (x2 + 1)), none, none, none, none, none, none]) (st2 := []) rfl ?_
    refine Ok_drop (lo0 := [some (.ref 115), some (.int (x1 * 5)), some (.int (x2 + 1)), none, none, none, none, none, none]) ⟨Or.inr rfl, Or.inr rfl, Or.inr rfl, Or.inl rfl, Or.inl rfl, Or.inl rfl, Or.inl rfl, Or.inl rfl, Or.inl rfl, trivial⟩ ?_
    exact hb4 r (x1 * 5) (x2 + 1)
set_option maxHeartbeats 8000000 in
set_option maxRecDepth 100000 in
theorem t_R_seekDriven_p4 (N d : Nat) (xs : List Int32) (c : St) : ∀ (n : Nat) (r : St) (x1 : Int32) (x2 : Int32), Ok (mBig (mRoL xs) (d + 1)) (mRoL xs) 1 mK225 (fun p : Int32 × St => (some (.int p.1), HP c p.2)) (R_seekDriven_p4 N n r x1 x2) 4 [some (.ref 115), some (.int x1), some (.int x2), none, none, none, none, none, none] [] (HP c r) := by
  intro n
  induction n with
  | zero => intro r x1 x2; exact Ok_none
  | succ n ih => intro r x1 x2; exact t_R_seekDriven_p4b N d xs c (R_seekDriven_p4 N n) ih r x1 x2
set_option maxHeartbeats 8000000 in
set_option maxRecDepth 100000 in
theorem t_R_seekDriven (N d : Nat) (xs : List Int32) (c : St) (r : St) : Ok (mBig (mRoL xs) (d + 1)) (mRoL xs) 1 mK225 (fun p : Int32 × St => (some (.int p.1), HP c p.2)) (R_seekDriven N r) 0 [some (.ref 115), none, none, none, none, none, none, none, none] [] (HP c r) := by
  unfold R_seekDriven
  refine Ok_blk 4 (pc2 := 4) (lo2 := [some (.ref 115), some (.int 1), some (.int 0), none, none, none, none, none, none]) (st2 := []) rfl ?_
  refine Ok_drop (lo0 := [some (.ref 115), some (.int 1), some (.int 0), none, none, none, none, none, none]) ⟨Or.inr rfl, Or.inr rfl, Or.inr rfl, Or.inl rfl, Or.inl rfl, Or.inl rfl, Or.inl rfl, Or.inl rfl, Or.inl rfl, trivial⟩ ?_
  exact t_R_seekDriven_p4 N d xs c N r 1 0
set_option maxHeartbeats 8000000 in
set_option maxRecDepth 100000 in
theorem tm_R_seekDriven (N d : Nat) (xs : List Int32) (c r : St) (p : Int32 × St) (hp : R_seekDriven N r = some p) : mBig (mRoL xs) (d + 2) 225 [.ref 115] (HP c r) (some (.int p.1)) (HP c p.2) 0 0 := mBig_of (by decide) rfl rfl rfl rfl (t_R_seekDriven N d xs c r p hp)
/-! ColdHoldsModel.driven(I)I, from (('r', 115), 'i') -/
def R_driven_p18 (N : Nat) (r : St) (x1 : Int32) : Option (Int32 × St) :=
  (R_seekDriven N r).bind fun p2 => (if ¬ x1 = 0 then (if (gI p2.2 13) ≤ (x1 - 10) then some ((-1), p2.2) else (ld (gA p2.2 36) (x1 - 10)).bind fun y5 => some (y5, p2.2)) else some (p2.1, p2.2))
def R_driven (N : Nat) (r : St) (x1 : Int32) : Option (Int32 × St) :=
  (if x1 = 0 then R_driven_p18 N r x1 else (R_in N x1 10 15).bind fun p6 => (if ¬ p6 = 0 then R_driven_p18 N r x1 else some ((-102), r)))
set_option maxHeartbeats 8000000 in
set_option maxRecDepth 100000 in
theorem t_R_driven_p18 (N d : Nat) (xs : List Int32) (c : St) (r : St) (x1 : Int32) : Ok (mBig (mRoL xs) (d + 2)) (mRoL xs) 1 mK226 (fun p : Int32 × St => (some (.int p.1), HP c p.2)) (R_driven_p18 N r x1) 18 [some (.ref 115), some (.int x1), none] [] (HP c r) := by
  unfold R_driven_p18
  refine Ok_blk 1 (pc2 := 19) (lo2 := [some (.ref 115), some (.int x1), none]) (st2 := [.ref 115]) rfl ?_
  refine Ok_call (y := 225) (as := [.ref 115]) (rest := []) (w := fun p2 => some (.int p2.1)) (h1 := fun p2 => HP c p2.2) rfl rfl (fun x hx => tm_R_seekDriven N d xs c r x hx) (fun p2 hp2 => ?_)
  refine Ok_blk 3 (pc2 := (if ¬ x1 = 0 then 31 else 27)) (lo2 := [some (.ref 115), some (.int x1), some (.int p2.1)]) (st2 := []) rfl ?_
  refine Ok_if (fun h3 => ?_) (fun h3 => ?_)
  · refine Ok_blk 6 (pc2 := (if (gI p2.2 13) ≤ (x1 - 10) then 54 else 42)) (lo2 := [some (.ref 115), some (.int x1), some (.int p2.1)]) (st2 := []) rfl ?_
    refine Ok_if (fun h4 => ?_) (fun h4 => ?_)
    · refine Ok_blk 1 (pc2 := 55) (lo2 := [some (.ref 115), some (.int x1), some (.int p2.1)]) (st2 := [.int (-1)]) rfl ?_
      exact Ok_ret rfl rfl rfl
    · refine Ok_blk 5 (pc2 := 50) (lo2 := [some (.ref 115), some (.int x1), some (.int p2.1)]) (st2 := [.int (x1 - 10), .ref 154]) rfl ?_
      refine Ok_ld (l := (gA p2.2 36)) rfl rfl (fun y5 hy5 => ?_)
      refine Ok_blk 1 (pc2 := 55) (lo2 := [some (.ref 115), some (.int x1), some (.int p2.1)]) (st2 := [.int y5]) rfl ?_
      exact Ok_ret rfl rfl rfl
  · refine Ok_blk 2 (pc2 := 55) (lo2 := [some (.ref 115), some (.int x1), some (.int p2.1)]) (st2 := [.int p2.1]) rfl ?_
    exact Ok_ret rfl rfl rfl
set_option maxHeartbeats 8000000 in
set_option maxRecDepth 100000 in
theorem t_R_driven (N d : Nat) (xs : List Int32) (c : St) (r : St) (x1 : Int32) : Ok (mBig (mRoL xs) (d + 2)) (mRoL xs) 1 mK226 (fun p : Int32 × St => (some (.int p.1), HP c p.2)) (R_driven N r x1) 0 [some (.ref 115), some (.int x1), none] [] (HP c r) := by
  unfold R_driven
  refine Ok_blk 2 (pc2 := (if x1 = 0 then 18 else 4)) (lo2 := [some (.ref 115), some (.int x1), none]) (st2 := []) rfl ?_
  refine Ok_if (fun h1 => ?_) (fun h1 => ?_)
  · refine Ok_drop (lo0 := [some (.ref 115), some (.int x1), none]) ⟨Or.inr rfl, Or.inr rfl, Or.inl rfl, trivial⟩ ?_
    exact t_R_driven_p18 N d xs c r x1
  · refine Ok_blk 3 (pc2 := 9) (lo2 := [some (.ref 115), some (.int x1), none]) (st2 := [.int 15, .int 10, .int x1]) rfl ?_
    refine Ok_call (y := 164) (as := [.int x1, .int 10, .int 15]) (rest := []) (w := fun p6 => some (.int p6)) (h1 := fun p6 => HP c r) rfl rfl (fun x hx => tm_R_in N (d + 1) xs c r x1 10 15 x hx) (fun p6 hp6 => ?_)
    refine Ok_blk 1 (pc2 := (if ¬ p6 = 0 then 18 else 15)) (lo2 := [some (.ref 115), some (.int x1), none]) (st2 := []) rfl ?_
    refine Ok_if (fun h7 => ?_) (fun h7 => ?_)
    · refine Ok_drop (lo0 := [some (.ref 115), some (.int x1), none]) ⟨Or.inr rfl, Or.inr rfl, Or.inl rfl, trivial⟩ ?_
      exact t_R_driven_p18 N d xs c r x1
    · refine Ok_blk 1 (pc2 := 17) (lo2 := [some (.ref 115), some (.int x1), none]) (st2 := [.int (-102)]) rfl ?_
      exact Ok_ret rfl rfl rfl
set_option maxHeartbeats 8000000 in
set_option maxRecDepth 100000 in
theorem tm_R_driven (N d : Nat) (xs : List Int32) (c r : St) (a1 : Int32) (p : Int32 × St) (hp : R_driven N r a1 = some p) : mBig (mRoL xs) (d + 3) 226 [.ref 115, .int a1] (HP c r) (some (.int p.1)) (HP c p.2) 0 0 := mBig_of (by decide) rfl rfl rfl rfl (t_R_driven N d xs c r a1 p hp)
/-! ColdHolds.change([III)I, from (('r', 83), 'i', 'i') -/
def C_change_8 (N : Nat) (c : St) (x1 : Int32) (x2 : Int32) : Option (Int32 × St) :=
  (ld (gA c 68) x1).bind fun y1 => (sto (gA c 68) x1 x2).bind fun w2 => some (y1, sA c 68 w2)
set_option maxHeartbeats 8000000 in
set_option maxRecDepth 100000 in
theorem t_C_change_8 (N d : Nat) (xs : List Int32) (r : St) (c : St) (x1 : Int32) (x2 : Int32) : Ok (mBig (mRoL xs) (d)) (mRoL xs) 1 mK105 (fun p : Int32 × St => (some (.int p.1), HP p.2 r)) (C_change_8 N c x1 x2) 0 [some (.ref 83), some (.int x1), some (.int x2), none] [] (HP c r) := by
  unfold C_change_8
  refine Ok_blk 2 (pc2 := 2) (lo2 := [some (.ref 83), some (.int x1), some (.int x2), none]) (st2 := [.int x1, .ref 83]) rfl ?_
  refine Ok_ld (l := (gA c 68)) rfl rfl (fun y1 hy1 => ?_)
  refine Ok_blk 4 (pc2 := 7) (lo2 := [some (.ref 83), some (.int x1), some (.int x2), some (.int y1)]) (st2 := [.int x2, .int x1, .ref 83]) rfl ?_
  refine Ok_st (l := (gA c 68)) (hn := fun l' => HP (sA c 68 l') r) rfl rfl (fun l' => sa_83 _ _ l') (fun w2 hw2 => ?_)
  refine Ok_blk 1 (pc2 := 9) (lo2 := [some (.ref 83), some (.int x1), some (.int x2), some (.int y1)]) (st2 := [.int y1]) rfl ?_
  exact Ok_ret rfl rfl rfl
set_option maxHeartbeats 8000000 in
set_option maxRecDepth 100000 in
theorem tm_C_change_8 (N d : Nat) (xs : List Int32) (c r : St) (a1 : Int32) (a2 : Int32) (p : Int32 × St) (hp : C_change_8 N c a1 a2 = some p) : mBig (mRoL xs) (d + 1) 105 [.ref 83, .int a1, .int a2] (HP c r) (some (.int p.1)) (HP p.2 r) 0 0 := mBig_of (by decide) rfl rfl rfl rfl (t_C_change_8 N d xs r c a1 a2 p hp)
/-! ColdHolds.market(II)I, from (('r', 0), 'i', 'i') -/
def C_market (N : Nat) (c : St) (x1 : Int32) (x2 : Int32) : Option (Int32 × St) :=
  (C_within N x1 0 3).bind fun p1 => (if ¬ p1 = 0 then (ld [0, 0, 0, 1] x1).bind fun y3 => (ld [999, 99, 6, 6] x1).bind fun y4 => (C_within N x2 y3 y4).bind fun p5 => (if ¬ p5 = 0 then (C_change_8 N c x1 x2).bind fun p7 => some (p7.1, p7.2) else some ((-102), c)) else some ((-101), c))
set_option maxHeartbeats 8000000 in
set_option maxRecDepth 100000 in
theorem t_C_market (N d : Nat) (xs : List Int32) (r : St) (c : St) (x1 : Int32) (x2 : Int32) : Ok (mBig (mRoL xs) (d + 1)) (mRoL xs) 1 mK143 (fun p : Int32 × St => (some (.int p.1), HP p.2 r)) (C_market N c x1 x2) 0 [some (.ref 0), some (.int x1), some (.int x2)] [] (HP c r) := by
  unfold C_market
  refine Ok_blk 3 (pc2 := 3) (lo2 := [some (.ref 0), some (.int x1), some (.int x2)]) (st2 := [.int 3, .int 0, .int x1]) rfl ?_
  refine Ok_call (y := 102) (as := [.int x1, .int 0, .int 3]) (rest := []) (w := fun p1 => some (.int p1)) (h1 := fun p1 => HP c r) rfl rfl (fun x hx => tm_C_within N d xs c r x1 0 3 x hx) (fun p1 hp1 => ?_)
  refine Ok_blk 1 (pc2 := (if ¬ p1 = 0 then 12 else 9)) (lo2 := [some (.ref 0), some (.int x1), some (.int x2)]) (st2 := []) rfl ?_
  refine Ok_if (fun h2 => ?_) (fun h2 => ?_)
  · refine Ok_blk 3 (pc2 := 17) (lo2 := [some (.ref 0), some (.int x1), some (.int x2)]) (st2 := [.int x1, .ref (mBase + 2), .int x2]) rfl ?_
    refine Ok_ld (l := [0, 0, 0, 1]) rfl rfl (fun y3 hy3 => ?_)
    refine Ok_blk 2 (pc2 := 22) (lo2 := [some (.ref 0), some (.int x1), some (.int x2)]) (st2 := [.int x1, .ref (mBase + 3), .int y3, .int x2]) rfl ?_
    refine Ok_ld (l := [999, 99, 6, 6]) rfl rfl (fun y4 hy4 => ?_)
    refine Ok_call (y := 102) (as := [.int x2, .int y3, .int y4]) (rest := []) (w := fun p5 => some (.int p5)) (h1 := fun p5 => HP c r) rfl rfl (fun x hx => tm_C_within N d xs c r x2 y3 y4 x hx) (fun p5 hp5 => ?_)
    refine Ok_blk 1 (pc2 := (if ¬ p5 = 0 then 32 else 29)) (lo2 := [some (.ref 0), some (.int x1), some (.int x2)]) (st2 := []) rfl ?_
    refine Ok_if (fun h6 => ?_) (fun h6 => ?_)
    · refine Ok_blk 5 (pc2 := 41) (lo2 := [some (.ref 0), some (.int x1), some (.int x2)]) (st2 := [.int x2, .int x1, .ref 83]) rfl ?_
      refine Ok_call (y := 105) (as := [.ref 83, .int x1, .int x2]) (rest := []) (w := fun p7 => some (.int p7.1)) (h1 := fun p7 => HP p7.2 r) rfl rfl (fun x hx => tm_C_change_8 N d xs c r x1 x2 x hx) (fun p7 hp7 => ?_)
      exact Ok_ret rfl rfl rfl
    · refine Ok_blk 1 (pc2 := 31) (lo2 := [some (.ref 0), some (.int x1), some (.int x2)]) (st2 := [.int (-102)]) rfl ?_
      exact Ok_ret rfl rfl rfl
  · refine Ok_blk 1 (pc2 := 11) (lo2 := [some (.ref 0), some (.int x1), some (.int x2)]) (st2 := [.int (-101)]) rfl ?_
    exact Ok_ret rfl rfl rfl
set_option maxHeartbeats 8000000 in
set_option maxRecDepth 100000 in
theorem tm_C_market (N d : Nat) (xs : List Int32) (c r : St) (a1 : Int32) (a2 : Int32) (p : Int32 × St) (hp : C_market N c a1 a2 = some p) : mBig (mRoL xs) (d + 2) 143 [.ref 0, .int a1, .int a2] (HP c r) (some (.int p.1)) (HP p.2 r) 0 0 := mBig_of (by decide) rfl rfl rfl rfl (t_C_market N d xs r c a1 a2 p hp)
/-! ColdHoldsModel.market(II)I, from (('r', 115), 'i', 'i') -/
def R_market_p158 (N : Nat) (r : St) (x3 : Int32) (s1 : Int32) : Option (Int32 × St) :=
  some (x3, sI r 18 s1)
def R_market_p141 (N : Nat) (r : St) (x1 : Int32) (x2 : Int32) (x3 : Int32) (s1 : Int32) : Option (Int32 × St) :=
  (if ¬ x1 = 3 then R_market_p158 N (sI r 17 s1) x3 (gI (sI r 17 s1) 18) else R_market_p158 N (sI r 17 s1) x3 x2)
def R_market_p124 (N : Nat) (r : St) (x1 : Int32) (x2 : Int32) (x3 : Int32) (s1 : Int32) : Option (Int32 × St) :=
  (if ¬ x1 = 2 then R_market_p141 N (sI r 16 s1) x1 x2 x3 (gI (sI r 16 s1) 17) else R_market_p141 N (sI r 16 s1) x1 x2 x3 x2)
def R_market_p107 (N : Nat) (r : St) (x1 : Int32) (x2 : Int32) (x3 : Int32) (s1 : Int32) : Option (Int32 × St) :=
  (if ¬ x1 = 1 then R_market_p124 N (sI r 15 s1) x1 x2 x3 (gI (sI r 15 s1) 16) else R_market_p124 N (sI r 15 s1) x1 x2 x3 x2)
def R_market_p93 (N : Nat) (r : St) (x1 : Int32) (x2 : Int32) (s0 : Int32) : Option (Int32 × St) :=
  (if ¬ x1 = 0 then R_market_p107 N r x1 x2 s0 (gI r 15) else R_market_p107 N r x1 x2 s0 x2)
def R_market_p45 (N : Nat) (r : St) (x1 : Int32) (x2 : Int32) (s0 : Int32) (s1 : Int32) (s2 : Int32) : Option (Int32 × St) :=
  (R_in N s0 s1 s2).bind fun p6 => (if ¬ p6 = 0 then (if ¬ x1 = 0 then (if ¬ x1 = 1 then (if ¬ x1 = 2 then R_market_p93 N r x1 x2 (gI r 18) else R_market_p93 N r x1 x2 (gI r 17)) else R_market_p93 N r x1 x2 (gI r 16)) else R_market_p93 N r x1 x2 (gI r 15)) else some ((-102), r))
def R_market_p23 (N : Nat) (r : St) (x1 : Int32) (x2 : Int32) (s0 : Int32) (s1 : Int32) : Option (Int32 × St) :=
  (if ¬ x1 = 0 then (if ¬ x1 = 1 then R_market_p45 N r x1 x2 s0 s1 6 else R_market_p45 N r x1 x2 s0 s1 99) else R_market_p45 N r x1 x2 s0 s1 999)
def R_market (N : Nat) (r : St) (x1 : Int32) (x2 : Int32) : Option (Int32 × St) :=
  (R_in N x1 0 3).bind fun p1 => (if ¬ p1 = 0 then (if ¬ x1 = 3 then R_market_p23 N r x1 x2 x2 0 else R_market_p23 N r x1 x2 x2 1) else some ((-101), r))
set_option maxHeartbeats 8000000 in
set_option maxRecDepth 100000 in
theorem t_R_market_p158 (N d : Nat) (xs : List Int32) (c : St) (r : St) (x3 : Int32) (s1 : Int32) : Ok (mBig (mRoL xs) (d + 1)) (mRoL xs) 1 mK227 (fun p : Int32 × St => (some (.int p.1), HP c p.2)) (R_market_p158 N r x3 s1) 158 [none, none, none, some (.int x3)] [.int s1, .ref 115] (HP c r) := by
  unfold R_market_p158
  refine Ok_heap 1 (pc2 := 161) (lo2 := [none, none, none, some (.int x3)]) (st2 := []) (h2 := HP c (sI r 18 s1)) rfl (st_115_38 _ _ _) ?_
  refine Ok_blk 1 (pc2 := 162) (lo2 := [none, none, none, some (.int x3)]) (st2 := [.int x3]) rfl ?_
  exact Ok_ret rfl rfl rfl
set_option maxHeartbeats 8000000 in
set_option maxRecDepth 100000 in
theorem t_R_market_p141 (N d : Nat) (xs : List Int32) (c : St) (r : St) (x1 : Int32) (x2 : Int32) (x3 : Int32) (s1 : Int32) : Ok (mBig (mRoL xs) (d + 1)) (mRoL xs) 1 mK227 (fun p : Int32 × St => (some (.int p.1), HP c p.2)) (R_market_p141 N r x1 x2 x3 s1) 141 [some (.ref 115), some (.int x1), some (.int x2), some (.int x3)] [.int s1, .ref 115] (HP c r) := by
  unfold R_market_p141
  refine Ok_heap 1 (pc2 := 144) (lo2 := [some (.ref 115), some (.int x1), some (.int x2), some (.int x3)]) (st2 := []) (h2 := HP c (sI r 17 s1)) rfl (st_115_37 _ _ _) ?_
  refine Ok_blk 4 (pc2 := (if ¬ x1 = 3 then 154 else 150)) (lo2 := [some (.ref 115), some (.int x1), some (.int x2), some (.int x3)]) (st2 := [.ref 115]) rfl ?_
  refine Ok_if (fun h14 => ?_) (fun h14 => ?_)
  · refine Ok_blk 2 (pc2 := 158) (lo2 := [some (.ref 115), some (.int x1), some (.int x2), some (.int x3)]) (st2 := [.int (gI (sI r 17 s1) 18), .ref 115]) rfl ?_
    refine Ok_drop (lo0 := [none, none, none, some (.int x3)]) ⟨Or.inl rfl, Or.inl rfl, Or.inl rfl, Or.inr rfl, trivial⟩ ?_
    exact t_R_market_p158 N d xs c (sI r 17 s1) x3 (gI (sI r 17 s1) 18)
  · refine Ok_blk 2 (pc2 := 158) (lo2 := [some (.ref 115), some (.int x1), some (.int x2), some (.int x3)]) (st2 := [.int x2, .ref 115]) rfl ?_
    refine Ok_drop (lo0 := [none, none, none, some (.int x3)]) ⟨Or.inl rfl, Or.inl rfl, Or.inl rfl, Or.inr rfl, trivial⟩ ?_
    exact t_R_market_p158 N d xs c (sI r 17 s1) x3 x2
set_option maxHeartbeats 8000000 in
set_option maxRecDepth 100000 in
theorem t_R_market_p124 (N d : Nat) (xs : List Int32) (c : St) (r : St) (x1 : Int32) (x2 : Int32) (x3 : Int32) (s1 : Int32) : Ok (mBig (mRoL xs) (d + 1)) (mRoL xs) 1 mK227 (fun p : Int32 × St => (some (.int p.1), HP c p.2)) (R_market_p124 N r x1 x2 x3 s1) 124 [some (.ref 115), some (.int x1), some (.int x2), some (.int x3)] [.int s1, .ref 115] (HP c r) := by
  unfold R_market_p124
  refine Ok_heap 1 (pc2 := 127) (lo2 := [some (.ref 115), some (.int x1), some (.int x2), some (.int x3)]) (st2 := []) (h2 := HP c (sI r 16 s1)) rfl (st_115_36 _ _ _) ?_
  refine Ok_blk 4 (pc2 := (if ¬ x1 = 2 then 137 else 133)) (lo2 := [some (.ref 115), some (.int x1), some (.int x2), some (.int x3)]) (st2 := [.ref 115]) rfl ?_
  refine Ok_if (fun h13 => ?_) (fun h13 => ?_)
  · refine Ok_blk 2 (pc2 := 141) (lo2 := [some (.ref 115), some (.int x1), some (.int x2), some (.int x3)]) (st2 := [.int (gI (sI r 16 s1) 17), .ref 115]) rfl ?_
    refine Ok_drop (lo0 := [some (.ref 115), some (.int x1), some (.int x2), some (.int x3)]) ⟨Or.inr rfl, Or.inr rfl, Or.inr rfl, Or.inr rfl, trivial⟩ ?_
    exact t_R_market_p141 N d xs c (sI r 16 s1) x1 x2 x3 (gI (sI r 16 s1) 17)
  · refine Ok_blk 2 (pc2 := 141) (lo2 := [some (.ref 115), some (.int x1), some (.int x2), some (.int x3)]) (st2 := [.int x2, .ref 115]) rfl ?_
    refine Ok_drop (lo0 := [some (.ref 115), some (.int x1), some (.int x2), some (.int x3)]) ⟨Or.inr rfl, Or.inr rfl, Or.inr rfl, Or.inr rfl, trivial⟩ ?_
    exact t_R_market_p141 N d xs c (sI r 16 s1) x1 x2 x3 x2
set_option maxHeartbeats 8000000 in
set_option maxRecDepth 100000 in
theorem t_R_market_p107 (N d : Nat) (xs : List Int32) (c : St) (r : St) (x1 : Int32) (x2 : Int32) (x3 : Int32) (s1 : Int32) : Ok (mBig (mRoL xs) (d + 1)) (mRoL xs) 1 mK227 (fun p : Int32 × St => (some (.int p.1), HP c p.2)) (R_market_p107 N r x1 x2 x3 s1) 107 [some (.ref 115), some (.int x1), some (.int x2), some (.int x3)] [.int s1, .ref 115] (HP c r) := by
  unfold R_market_p107
  refine Ok_heap 1 (pc2 := 110) (lo2 := [some (.ref 115), some (.int x1), some (.int x2), some (.int x3)]) (st2 := []) (h2 := HP c (sI r 15 s1)) rfl (st_115_35 _ _ _) ?_
  refine Ok_blk 4 (pc2 := (if ¬ x1 = 1 then 120 else 116)) (lo2 := [some (.ref 115), some (.int x1), some (.int x2), some (.int x3)]) (st2 := [.ref 115]) rfl ?_
  refine Ok_if (fun h12 => ?_) (fun h12 => ?_)
  · refine Ok_blk 2 (pc2 := 124) (lo2 := [some (.ref 115), some (.int x1), some (.int x2), some (.int x3)]) (st2 := [.int (gI (sI r 15 s1) 16), .ref 115]) rfl ?_
    refine Ok_drop (lo0 := [some (.ref 115), some (.int x1), some (.int x2), some (.int x3)]) ⟨Or.inr rfl, Or.inr rfl, Or.inr rfl, Or.inr rfl, trivial⟩ ?_
    exact t_R_market_p124 N d xs c (sI r 15 s1) x1 x2 x3 (gI (sI r 15 s1) 16)
  · refine Ok_blk 2 (pc2 := 124) (lo2 := [some (.ref 115), some (.int x1), some (.int x2), some (.int x3)]) (st2 := [.int x2, .ref 115]) rfl ?_
    refine Ok_drop (lo0 := [some (.ref 115), some (.int x1), some (.int x2), some (.int x3)]) ⟨Or.inr rfl, Or.inr rfl, Or.inr rfl, Or.inr rfl, trivial⟩ ?_
    exact t_R_market_p124 N d xs c (sI r 15 s1) x1 x2 x3 x2
set_option maxHeartbeats 8000000 in
set_option maxRecDepth 100000 in
theorem t_R_market_p93 (N d : Nat) (xs : List Int32) (c : St) (r : St) (x1 : Int32) (x2 : Int32) (s0 : Int32) : Ok (mBig (mRoL xs) (d + 1)) (mRoL xs) 1 mK227 (fun p : Int32 × St => (some (.int p.1), HP c p.2)) (R_market_p93 N r x1 x2 s0) 93 [some (.ref 115), some (.int x1), some (.int x2), none] [.int s0] (HP c r) := by
  unfold R_market_p93
  refine Ok_blk 4 (pc2 := (if ¬ x1 = 0 then 103 else 99)) (lo2 := [some (.ref 115), some (.int x1), some (.int x2), some (.int s0)]) (st2 := [.ref 115]) rfl ?_
  refine Ok_if (fun h11 => ?_) (fun h11 => ?_)
  · refine Ok_blk 2 (pc2 := 107) (lo2 := [some (.ref 115), some (.int x1), some (.int x2), some (.int s0)]) (st2 := [.int (gI r 15), .ref 115]) rfl ?_
    refine Ok_drop (lo0 := [some (.ref 115), some (.int x1), some (.int x2), some (.int s0)]) ⟨Or.inr rfl, Or.inr rfl, Or.inr rfl, Or.inr rfl, trivial⟩ ?_
    exact t_R_market_p107 N d xs c r x1 x2 s0 (gI r 15)
  · refine Ok_blk 2 (pc2 := 107) (lo2 := [some (.ref 115), some (.int x1), some (.int x2), some (.int s0)]) (st2 := [.int x2, .ref 115]) rfl ?_
    refine Ok_drop (lo0 := [some (.ref 115), some (.int x1), some (.int x2), some (.int s0)]) ⟨Or.inr rfl, Or.inr rfl, Or.inr rfl, Or.inr rfl, trivial⟩ ?_
    exact t_R_market_p107 N d xs c r x1 x2 s0 x2
set_option maxHeartbeats 8000000 in
set_option maxRecDepth 100000 in
theorem t_R_market_p45 (N d : Nat) (xs : List Int32) (c : St) (r : St) (x1 : Int32) (x2 : Int32) (s0 : Int32) (s1 : Int32) (s2 : Int32) : Ok (mBig (mRoL xs) (d + 1)) (mRoL xs) 1 mK227 (fun p : Int32 × St => (some (.int p.1), HP c p.2)) (R_market_p45 N r x1 x2 s0 s1 s2) 45 [some (.ref 115), some (.int x1), some (.int x2), none] [.int s2, .int s1, .int s0] (HP c r) := by
  unfold R_market_p45
  refine Ok_call (y := 164) (as := [.int s0, .int s1, .int s2]) (rest := []) (w := fun p6 => some (.int p6)) (h1 := fun p6 => HP c r) rfl rfl (fun x hx => tm_R_in N d xs c r s0 s1 s2 x hx) (fun p6 hp6 => ?_)
  refine Ok_blk 1 (pc2 := (if ¬ p6 = 0 then 54 else 51)) (lo2 := [some (.ref 115), some (.int x1), some (.int x2), none]) (st2 := []) rfl ?_
  refine Ok_if (fun h7 => ?_) (fun h7 => ?_)
  · refine Ok_blk 2 (pc2 := (if ¬ x1 = 0 then 65 else 58)) (lo2 := [some (.ref 115), some (.int x1), some (.int x2), none]) (st2 := []) rfl ?_
    refine Ok_if (fun h8 => ?_) (fun h8 => ?_)
    · refine Ok_blk 3 (pc2 := (if ¬ x1 = 1 then 77 else 70)) (lo2 := [some (.ref 115), some (.int x1), some (.int x2), none]) (st2 := []) rfl ?_
      refine Ok_if (fun h9 => ?_) (fun h9 => ?_)
      · refine Ok_blk 3 (pc2 := (if ¬ x1 = 2 then 89 else 82)) (lo2 := [some (.ref 115), some (.int x1), some (.int x2), none]) (st2 := []) rfl ?_
        refine Ok_if (fun h10 => ?_) (fun h10 => ?_)
        · refine Ok_blk 2 (pc2 := 93) (lo2 := [some (.ref 115), some (.int x1), some (.int x2), none]) (st2 := [.int (gI r 18)]) rfl ?_
          refine Ok_drop (lo0 := [some (.ref 115), some (.int x1), some (.int x2), none]) ⟨Or.inr rfl, Or.inr rfl, Or.inr rfl, Or.inl rfl, trivial⟩ ?_
          exact t_R_market_p93 N d xs c r x1 x2 (gI r 18)
        · refine Ok_blk 3 (pc2 := 93) (lo2 := [some (.ref 115), some (.int x1), some (.int x2), none]) (st2 := [.int (gI r 17)]) rfl ?_
          refine Ok_drop (lo0 := [some (.ref 115), some (.int x1), some (.int x2), none]) ⟨Or.inr rfl, Or.inr rfl, Or.inr rfl, Or.inl rfl, trivial⟩ ?_
          exact t_R_market_p93 N d xs c r x1 x2 (gI r 17)
      · refine Ok_blk 3 (pc2 := 93) (lo2 := [some (.ref 115), some (.int x1), some (.int x2), none]) (st2 := [.int (gI r 16)]) rfl ?_
        refine Ok_drop (lo0 := [some (.ref 115), some (.int x1), some (.int x2), none]) ⟨Or.inr rfl, Or.inr rfl, Or.inr rfl, Or.inl rfl, trivial⟩ ?_
        exact t_R_market_p93 N d xs c r x1 x2 (gI r 16)
    · refine Ok_blk 3 (pc2 := 93) (lo2 := [some (.ref 115), some (.int x1), some (.int x2), none]) (st2 := [.int (gI r 15)]) rfl ?_
      refine Ok_drop (lo0 := [some (.ref 115), some (.int x1), some (.int x2), none]) ⟨Or.inr rfl, Or.inr rfl, Or.inr rfl, Or.inl rfl, trivial⟩ ?_
      exact t_R_market_p93 N d xs c r x1 x2 (gI r 15)
  · refine Ok_blk 1 (pc2 := 53) (lo2 := [some (.ref 115), some (.int x1), some (.int x2), none]) (st2 := [.int (-102)]) rfl ?_
    exact Ok_ret rfl rfl rfl
set_option maxHeartbeats 8000000 in
set_option maxRecDepth 100000 in
theorem t_R_market_p23 (N d : Nat) (xs : List Int32) (c : St) (r : St) (x1 : Int32) (x2 : Int32) (s0 : Int32) (s1 : Int32) : Ok (mBig (mRoL xs) (d + 1)) (mRoL xs) 1 mK227 (fun p : Int32 × St => (some (.int p.1), HP c p.2)) (R_market_p23 N r x1 x2 s0 s1) 23 [some (.ref 115), some (.int x1), some (.int x2), none] [.int s1, .int s0] (HP c r) := by
  unfold R_market_p23
  refine Ok_blk 2 (pc2 := (if ¬ x1 = 0 then 33 else 27)) (lo2 := [some (.ref 115), some (.int x1), some (.int x2), none]) (st2 := [.int s1, .int s0]) rfl ?_
  refine Ok_if (fun h4 => ?_) (fun h4 => ?_)
  · refine Ok_blk 3 (pc2 := (if ¬ x1 = 1 then 43 else 38)) (lo2 := [some (.ref 115), some (.int x1), some (.int x2), none]) (st2 := [.int s1, .int s0]) rfl ?_
    refine Ok_if (fun h5 => ?_) (fun h5 => ?_)
    · refine Ok_blk 1 (pc2 := 45) (lo2 := [some (.ref 115), some (.int x1), some (.int x2), none]) (st2 := [.int 6, .int s1, .int s0]) rfl ?_
      refine Ok_drop (lo0 := [some (.ref 115), some (.int x1), some (.int x2), none]) ⟨Or.inr rfl, Or.inr rfl, Or.inr rfl, Or.inl rfl, trivial⟩ ?_
      exact t_R_market_p45 N d xs c r x1 x2 s0 s1 6
    · refine Ok_blk 2 (pc2 := 45) (lo2 := [some (.ref 115), some (.int x1), some (.int x2), none]) (st2 := [.int 99, .int s1, .int s0]) rfl ?_
      refine Ok_drop (lo0 := [some (.ref 115), some (.int x1), some (.int x2), none]) ⟨Or.inr rfl, Or.inr rfl, Or.inr rfl, Or.inl rfl, trivial⟩ ?_
      exact t_R_market_p45 N d xs c r x1 x2 s0 s1 99
  · refine Ok_blk 2 (pc2 := 45) (lo2 := [some (.ref 115), some (.int x1), some (.int x2), none]) (st2 := [.int 999, .int s1, .int s0]) rfl ?_
    refine Ok_drop (lo0 := [some (.ref 115), some (.int x1), some (.int x2), none]) ⟨Or.inr rfl, Or.inr rfl, Or.inr rfl, Or.inl rfl, trivial⟩ ?_
    exact t_R_market_p45 N d xs c r x1 x2 s0 s1 999
set_option maxHeartbeats 8000000 in
set_option maxRecDepth 100000 in
theorem t_R_market (N d : Nat) (xs : List Int32) (c : St) (r : St) (x1 : Int32) (x2 : Int32) : Ok (mBig (mRoL xs) (d + 1)) (mRoL xs) 1 mK227 (fun p : Int32 × St => (some (.int p.1), HP c p.2)) (R_market N r x1 x2) 0 [some (.ref 115), some (.int x1), some (.int x2), none] [] (HP c r) := by
  unfold R_market
  refine Ok_blk 3 (pc2 := 3) (lo2 := [some (.ref 115), some (.int x1), some (.int x2), none]) (st2 := [.int 3, .int 0, .int x1]) rfl ?_
  refine Ok_call (y := 164) (as := [.int x1, .int 0, .int 3]) (rest := []) (w := fun p1 => some (.int p1)) (h1 := fun p1 => HP c r) rfl rfl (fun x hx => tm_R_in N d xs c r x1 0 3 x hx) (fun p1 hp1 => ?_)
  refine Ok_blk 1 (pc2 := (if ¬ p1 = 0 then 12 else 9)) (lo2 := [some (.ref 115), some (.int x1), some (.int x2), none]) (st2 := []) rfl ?_
  refine Ok_if (fun h2 => ?_) (fun h2 => ?_)
  · refine Ok_blk 4 (pc2 := (if ¬ x1 = 3 then 22 else 18)) (lo2 := [some (.ref 115), some (.int x1), some (.int x2), none]) (st2 := [.int x2]) rfl ?_
    refine Ok_if (fun h3 => ?_) (fun h3 => ?_)
    · refine Ok_blk 1 (pc2 := 23) (lo2 := [some (.ref 115), some (.int x1), some (.int x2), none]) (st2 := [.int 0, .int x2]) rfl ?_
      refine Ok_drop (lo0 := [some (.ref 115), some (.int x1), some (.int x2), none]) ⟨Or.inr rfl, Or.inr rfl, Or.inr rfl, Or.inl rfl, trivial⟩ ?_
      exact t_R_market_p23 N d xs c r x1 x2 x2 0
    · refine Ok_blk 2 (pc2 := 23) (lo2 := [some (.ref 115), some (.int x1), some (.int x2), none]) (st2 := [.int 1, .int x2]) rfl ?_
      refine Ok_drop (lo0 := [some (.ref 115), some (.int x1), some (.int x2), none]) ⟨Or.inr rfl, Or.inr rfl, Or.inr rfl, Or.inl rfl, trivial⟩ ?_
      exact t_R_market_p23 N d xs c r x1 x2 x2 1
  · refine Ok_blk 1 (pc2 := 11) (lo2 := [some (.ref 115), some (.int x1), some (.int x2), none]) (st2 := [.int (-101)]) rfl ?_
    exact Ok_ret rfl rfl rfl
set_option maxHeartbeats 8000000 in
set_option maxRecDepth 100000 in
theorem tm_R_market (N d : Nat) (xs : List Int32) (c r : St) (a1 : Int32) (a2 : Int32) (p : Int32 × St) (hp : R_market N r a1 a2 = some p) : mBig (mRoL xs) (d + 2) 227 [.ref 115, .int a1, .int a2] (HP c r) (some (.int p.1)) (HP c p.2) 0 0 := mBig_of (by decide) rfl rfl rfl rfl (t_R_market N d xs c r a1 a2 p hp)
/-! ColdHolds$Market.add(II)I, from (('r', 82), 'i', 'i') -/
def Market_add (N : Nat) (c : St) (x1 : Int32) (x2 : Int32) : Option (Int32 × St) :=
  (if (gI c 24) < 5 then (sto (gA c 69) (gI c 24) x1).bind fun w2 => (sto (gA (sA c 69 w2) 70) (gI (sA c 69 w2) 24) x2).bind fun w3 => some ((gI (sI (sA (sA c 69 w2) 70 w3) 24 ((gI (sA (sA c 69 w2) 70 w3) 24) + 1)) 24) - 1, sI (sA (sA c 69 w2) 70 w3) 24 ((gI (sA (sA c 69 w2) 70 w3) 24) + 1)) else some ((-104), c))
set_option maxHeartbeats 8000000 in
set_option maxRecDepth 100000 in
theorem t_Market_add (N d : Nat) (xs : List Int32) (r : St) (c : St) (x1 : Int32) (x2 : Int32) : Ok (mBig (mRoL xs) (d)) (mRoL xs) 1 mK49 (fun p : Int32 × St => (some (.int p.1), HP p.2 r)) (Market_add N c x1 x2) 0 [some (.ref 82), some (.int x1), some (.int x2)] [] (HP c r) := by
  unfold Market_add
  refine Ok_blk 4 (pc2 := (if (gI c 24) < 5 then 11 else 8)) (lo2 := [some (.ref 82), some (.int x1), some (.int x2)]) (st2 := []) rfl ?_
  refine Ok_if (fun h1 => ?_) (fun h1 => ?_)
  · refine Ok_blk 5 (pc2 := 20) (lo2 := [some (.ref 82), some (.int x1), some (.int x2)]) (st2 := [.int x1, .int (gI c 24), .ref 84]) rfl ?_
    refine Ok_st (l := (gA c 69)) (hn := fun l' => HP (sA c 69 l') r) rfl rfl (fun l' => sa_84 _ _ l') (fun w2 hw2 => ?_)
    refine Ok_blk 5 (pc2 := 30) (lo2 := [some (.ref 82), some (.int x1), some (.int x2)]) (st2 := [.int x2, .int (gI (sA c 69 w2) 24), .ref 85]) rfl ?_
    refine Ok_st (l := (gA (sA c 69 w2) 70)) (hn := fun l' => HP (sA (sA c 69 w2) 70 l') r) rfl rfl (fun l' => sa_85 _ _ l') (fun w3 hw3 => ?_)
    refine Ok_heap 6 (pc2 := 41) (lo2 := [some (.ref 82), some (.int x1), some (.int x2)]) (st2 := []) (h2 := HP (sI (sA (sA c 69 w2) 70 w3) 24 ((gI (sA (sA c 69 w2) 70 w3) 24) + 1)) r) rfl (st_82_1 _ _ _) ?_
    refine Ok_blk 4 (pc2 := 47) (lo2 := [some (.ref 82), some (.int x1), some (.int x2)]) (st2 := [.int ((gI (sI (sA (sA c 69 w2) 70 w3) 24 ((gI (sA (sA c 69 w2) 70 w3) 24) + 1)) 24) - 1)]) rfl ?_
    exact Ok_ret rfl rfl rfl
  · refine Ok_blk 1 (pc2 := 10) (lo2 := [some (.ref 82), some (.int x1), some (.int x2)]) (st2 := [.int (-104)]) rfl ?_
    exact Ok_ret rfl rfl rfl
set_option maxHeartbeats 8000000 in
set_option maxRecDepth 100000 in
theorem tm_Market_add (N d : Nat) (xs : List Int32) (c r : St) (a1 : Int32) (a2 : Int32) (p : Int32 × St) (hp : Market_add N c a1 a2 = some p) : mBig (mRoL xs) (d + 1) 49 [.ref 82, .int a1, .int a2] (HP c r) (some (.int p.1)) (HP p.2 r) 0 0 := mBig_of (by decide) rfl rfl rfl rfl (t_Market_add N d xs r c a1 a2 p hp)
/-! ColdHolds.seller(II)I, from (('r', 0), 'i', 'i') -/
def C_seller_p21 (N : Nat) (c : St) : Option (Int32 × St) :=
  some ((-102), c)
def C_seller (N : Nat) (c : St) (x1 : Int32) (x2 : Int32) : Option (Int32 × St) :=
  (C_within N x1 1 99).bind fun p1 => (if p1 = 0 then C_seller_p21 N c else (C_within N x2 0 999).bind fun p3 => (if ¬ p3 = 0 then (Market_add N c x1 x2).bind fun p5 => some (p5.1, p5.2) else C_seller_p21 N c))
set_option maxHeartbeats 8000000 in
set_option maxRecDepth 100000 in
theorem t_C_seller_p21 (N d : Nat) (xs : List Int32) (r : St) (c : St) : Ok (mBig (mRoL xs) (d + 1)) (mRoL xs) 1 mK144 (fun p : Int32 × St => (some (.int p.1), HP p.2 r)) (C_seller_p21 N c) 21 [none, none, none] [] (HP c r) := by
  unfold C_seller_p21
  refine Ok_blk 1 (pc2 := 23) (lo2 := [none, none, none]) (st2 := [.int (-102)]) rfl ?_
  exact Ok_ret rfl rfl rfl
set_option maxHeartbeats 8000000 in
set_option maxRecDepth 100000 in
theorem t_C_seller (N d : Nat) (xs : List Int32) (r : St) (c : St) (x1 : Int32) (x2 : Int32) : Ok (mBig (mRoL xs) (d + 1)) (mRoL xs) 1 mK144 (fun p : Int32 × St => (some (.int p.1), HP p.2 r)) (C_seller N c x1 x2) 0 [some (.ref 0), some (.int x1), some (.int x2)] [] (HP c r) := by
  unfold C_seller
  refine Ok_blk 3 (pc2 := 4) (lo2 := [some (.ref 0), some (.int x1), some (.int x2)]) (st2 := [.int 99, .int 1, .int x1]) rfl ?_
  refine Ok_call (y := 102) (as := [.int x1, .int 1, .int 99]) (rest := []) (w := fun p1 => some (.int p1)) (h1 := fun p1 => HP c r) rfl rfl (fun x hx => tm_C_within N d xs c r x1 1 99 x hx) (fun p1 hp1 => ?_)
  refine Ok_blk 1 (pc2 := (if p1 = 0 then 21 else 10)) (lo2 := [some (.ref 0), some (.int x1), some (.int x2)]) (st2 := []) rfl ?_
  refine Ok_if (fun h2 => ?_) (fun h2 => ?_)
  · refine Ok_drop (lo0 := [none, none, none]) ⟨Or.inl rfl, Or.inl rfl, Or.inl rfl, trivial⟩ ?_
    exact t_C_seller_p21 N d xs r c
  · refine Ok_blk 3 (pc2 := 15) (lo2 := [some (.ref 0), some (.int x1), some (.int x2)]) (st2 := [.int 999, .int 0, .int x2]) rfl ?_
    refine Ok_call (y := 102) (as := [.int x2, .int 0, .int 999]) (rest := []) (w := fun p3 => some (.int p3)) (h1 := fun p3 => HP c r) rfl rfl (fun x hx => tm_C_within N d xs c r x2 0 999 x hx) (fun p3 hp3 => ?_)
    refine Ok_blk 1 (pc2 := (if ¬ p3 = 0 then 24 else 21)) (lo2 := [some (.ref 0), some (.int x1), some (.int x2)]) (st2 := []) rfl ?_
    refine Ok_if (fun h4 => ?_) (fun h4 => ?_)
    · refine Ok_blk 4 (pc2 := 30) (lo2 := [some (.ref 0), some (.int x1), some (.int x2)]) (st2 := [.int x2, .int x1, .ref 82]) rfl ?_
      refine Ok_call (y := 49) (as := [.ref 82, .int x1, .int x2]) (rest := []) (w := fun p5 => some (.int p5.1)) (h1 := fun p5 => HP p5.2 r) rfl rfl (fun x hx => tm_Market_add N d xs c r x1 x2 x hx) (fun p5 hp5 => ?_)
      exact Ok_ret rfl rfl rfl
    · refine Ok_drop (lo0 := [none, none, none]) ⟨Or.inl rfl, Or.inl rfl, Or.inl rfl, trivial⟩ ?_
      exact t_C_seller_p21 N d xs r c
set_option maxHeartbeats 8000000 in
set_option maxRecDepth 100000 in
theorem tm_C_seller (N d : Nat) (xs : List Int32) (c r : St) (a1 : Int32) (a2 : Int32) (p : Int32 × St) (hp : C_seller N c a1 a2 = some p) : mBig (mRoL xs) (d + 2) 144 [.ref 0, .int a1, .int a2] (HP c r) (some (.int p.1)) (HP p.2 r) 0 0 := mBig_of (by decide) rfl rfl rfl rfl (t_C_seller N d xs r c a1 a2 p hp)
/-! ColdHoldsModel.seller(II)I, from (('r', 115), 'i', 'i') -/
def R_seller_p21 (N : Nat) (r : St) : Option (Int32 × St) :=
  some ((-102), r)
def R_seller (N : Nat) (r : St) (x1 : Int32) (x2 : Int32) : Option (Int32 × St) :=
  (R_in N x1 1 99).bind fun p1 => (if p1 = 0 then R_seller_p21 N r else (R_in N x2 0 999).bind fun p3 => (if ¬ p3 = 0 then (if ¬ (gI r 19) = 5 then (sto (gA r 20) (gI r 19) x1).bind fun w6 => (sto (gA (sA r 20 w6) 21) (gI (sA r 20 w6) 19) x2).bind fun w7 => some ((gI (sI (sA (sA r 20 w6) 21 w7) 19 ((gI (sA (sA r 20 w6) 21 w7) 19) + 1)) 19) - 1, sI (sA (sA r 20 w6) 21 w7) 19 ((gI (sA (sA r 20 w6) 21 w7) 19) + 1)) else some ((-104), r)) else R_seller_p21 N r))
set_option maxHeartbeats 8000000 in
set_option maxRecDepth 100000 in
theorem t_R_seller_p21 (N d : Nat) (xs : List Int32) (c : St) (r : St) : Ok (mBig (mRoL xs) (d + 1)) (mRoL xs) 1 mK228 (fun p : Int32 × St => (some (.int p.1), HP c p.2)) (R_seller_p21 N r) 21 [none, none, none] [] (HP c r) := by
  unfold R_seller_p21
  refine Ok_blk 1 (pc2 := 23) (lo2 := [none, none, none]) (st2 := [.int (-102)]) rfl ?_
  exact Ok_ret rfl rfl rfl
set_option maxHeartbeats 8000000 in
set_option maxRecDepth 100000 in
theorem t_R_seller (N d : Nat) (xs : List Int32) (c : St) (r : St) (x1 : Int32) (x2 : Int32) : Ok (mBig (mRoL xs) (d + 1)) (mRoL xs) 1 mK228 (fun p : Int32 × St => (some (.int p.1), HP c p.2)) (R_seller N r x1 x2) 0 [some (.ref 115), some (.int x1), some (.int x2)] [] (HP c r) := by
  unfold R_seller
  refine Ok_blk 3 (pc2 := 4) (lo2 := [some (.ref 115), some (.int x1), some (.int x2)]) (st2 := [.int 99, .int 1, .int x1]) rfl ?_
  refine Ok_call (y := 164) (as := [.int x1, .int 1, .int 99]) (rest := []) (w := fun p1 => some (.int p1)) (h1 := fun p1 => HP c r) rfl rfl (fun x hx => tm_R_in N d xs c r x1 1 99 x hx) (fun p1 hp1 => ?_)
  refine Ok_blk 1 (pc2 := (if p1 = 0 then 21 else 10)) (lo2 := [some (.ref 115), some (.int x1), some (.int x2)]) (st2 := []) rfl ?_
  refine Ok_if (fun h2 => ?_) (fun h2 => ?_)
  · refine Ok_drop (lo0 := [none, none, none]) ⟨Or.inl rfl, Or.inl rfl, Or.inl rfl, trivial⟩ ?_
    exact t_R_seller_p21 N d xs c r
  · refine Ok_blk 3 (pc2 := 15) (lo2 := [some (.ref 115), some (.int x1), some (.int x2)]) (st2 := [.int 999, .int 0, .int x2]) rfl ?_
    refine Ok_call (y := 164) (as := [.int x2, .int 0, .int 999]) (rest := []) (w := fun p3 => some (.int p3)) (h1 := fun p3 => HP c r) rfl rfl (fun x hx => tm_R_in N d xs c r x2 0 999 x hx) (fun p3 hp3 => ?_)
    refine Ok_blk 1 (pc2 := (if ¬ p3 = 0 then 24 else 21)) (lo2 := [some (.ref 115), some (.int x1), some (.int x2)]) (st2 := []) rfl ?_
    refine Ok_if (fun h4 => ?_) (fun h4 => ?_)
    · refine Ok_blk 4 (pc2 := (if ¬ (gI r 19) = 5 then 35 else 32)) (lo2 := [some (.ref 115), some (.int x1), some (.int x2)]) (st2 := []) rfl ?_
      refine Ok_if (fun h5 => ?_) (fun h5 => ?_)
      · refine Ok_blk 5 (pc2 := 44) (lo2 := [some (.ref 115), some (.int x1), some (.int x2)]) (st2 := [.int x1, .int (gI r 19), .ref 136]) rfl ?_
        refine Ok_st (l := (gA r 20)) (hn := fun l' => HP c (sA r 20 l')) rfl rfl (fun l' => sa_136 _ _ l') (fun w6 hw6 => ?_)
        refine Ok_blk 5 (pc2 := 54) (lo2 := [some (.ref 115), some (.int x1), some (.int x2)]) (st2 := [.int x2, .int (gI (sA r 20 w6) 19), .ref 137]) rfl ?_
        refine Ok_st (l := (gA (sA r 20 w6) 21)) (hn := fun l' => HP c (sA (sA r 20 w6) 21 l')) rfl rfl (fun l' => sa_137 _ _ l') (fun w7 hw7 => ?_)
        refine Ok_heap 6 (pc2 := 65) (lo2 := [some (.ref 115), some (.int x1), some (.int x2)]) (st2 := []) (h2 := HP c (sI (sA (sA r 20 w6) 21 w7) 19 ((gI (sA (sA r 20 w6) 21 w7) 19) + 1))) rfl (st_115_39 _ _ _) ?_
        refine Ok_blk 4 (pc2 := 71) (lo2 := [some (.ref 115), some (.int x1), some (.int x2)]) (st2 := [.int ((gI (sI (sA (sA r 20 w6) 21 w7) 19 ((gI (sA (sA r 20 w6) 21 w7) 19) + 1)) 19) - 1)]) rfl ?_
        exact Ok_ret rfl rfl rfl
      · refine Ok_blk 1 (pc2 := 34) (lo2 := [some (.ref 115), some (.int x1), some (.int x2)]) (st2 := [.int (-104)]) rfl ?_
        exact Ok_ret rfl rfl rfl
    · refine Ok_drop (lo0 := [none, none, none]) ⟨Or.inl rfl, Or.inl rfl, Or.inl rfl, trivial⟩ ?_
      exact t_R_seller_p21 N d xs c r
set_option maxHeartbeats 8000000 in
set_option maxRecDepth 100000 in
theorem tm_R_seller (N d : Nat) (xs : List Int32) (c r : St) (a1 : Int32) (a2 : Int32) (p : Int32 × St) (hp : R_seller N r a1 a2 = some p) : mBig (mRoL xs) (d + 2) 228 [.ref 115, .int a1, .int a2] (HP c r) (some (.int p.1)) (HP c p.2) 0 0 := mBig_of (by decide) rfl rfl rfl rfl (t_R_seller N d xs c r a1 a2 p hp)
/-! ColdHolds$Market.priceIn(I)I, from (('r', 82), 'i') -/
def Market_priceIn (N : Nat) (c : St) (x1 : Int32) : Option (Int32) :=
  (if 0 ≤ x1 then (ld (gA c 71) x1).bind fun y2 => some y2 else (ld (gA c 68) 0).bind fun y3 => some y3)
set_option maxHeartbeats 8000000 in
set_option maxRecDepth 100000 in
theorem t_Market_priceIn (N d : Nat) (xs : List Int32) (c : St) (r : St) (x1 : Int32) : Ok (mBig (mRoL xs) (d)) (mRoL xs) 1 mK51 (fun p : Int32 => (some (.int p), HP c r)) (Market_priceIn N c x1) 0 [some (.ref 82), some (.int x1)] [] (HP c r) := by
  unfold Market_priceIn
  refine Ok_blk 2 (pc2 := (if 0 ≤ x1 then 13 else 4)) (lo2 := [some (.ref 82), some (.int x1)]) (st2 := []) rfl ?_
  refine Ok_if (fun h1 => ?_) (fun h1 => ?_)
  · refine Ok_blk 3 (pc2 := 18) (lo2 := [some (.ref 82), some (.int x1)]) (st2 := [.int x1, .ref 86]) rfl ?_
    refine Ok_ld (l := (gA c 71)) rfl rfl (fun y2 hy2 => ?_)
    exact Ok_ret rfl rfl rfl
  · refine Ok_blk 3 (pc2 := 9) (lo2 := [some (.ref 82), some (.int x1)]) (st2 := [.int 0, .ref 83]) rfl ?_
    refine Ok_ld (l := (gA c 68)) rfl rfl (fun y3 hy3 => ?_)
    refine Ok_blk 1 (pc2 := 19) (lo2 := [some (.ref 82), some (.int x1)]) (st2 := [.int y3]) rfl ?_
    exact Ok_ret rfl rfl rfl
set_option maxHeartbeats 8000000 in
set_option maxRecDepth 100000 in
theorem tm_Market_priceIn (N d : Nat) (xs : List Int32) (c r : St) (a1 : Int32) (p : Int32) (hp : Market_priceIn N c a1 = some p) : mBig (mRoL xs) (d + 1) 51 [.ref 82, .int a1] (HP c r) (some (.int p)) (HP c r) 0 0 := mBig_of (by decide) rfl rfl rfl rfl (t_Market_priceIn N d xs c r a1 p hp)
/-! ColdHolds$Market.shippedIn(I)I, from (('r', 82), 'i') -/
def Market_shippedIn (N : Nat) (c : St) (x1 : Int32) : Option (Int32) :=
  (if 0 ≤ x1 then (ld (gA c 72) x1).bind fun y2 => some y2 else some 0)
set_option maxHeartbeats 8000000 in
set_option maxRecDepth 100000 in
theorem t_Market_shippedIn (N d : Nat) (xs : List Int32) (c : St) (r : St) (x1 : Int32) : Ok (mBig (mRoL xs) (d)) (mRoL xs) 1 mK52 (fun p : Int32 => (some (.int p), HP c r)) (Market_shippedIn N c x1) 0 [some (.ref 82), some (.int x1)] [] (HP c r) := by
  unfold Market_shippedIn
  refine Ok_blk 2 (pc2 := (if 0 ≤ x1 then 8 else 4)) (lo2 := [some (.ref 82), some (.int x1)]) (st2 := []) rfl ?_
  refine Ok_if (fun h1 => ?_) (fun h1 => ?_)
  · refine Ok_blk 3 (pc2 := 13) (lo2 := [some (.ref 82), some (.int x1)]) (st2 := [.int x1, .ref 87]) rfl ?_
    refine Ok_ld (l := (gA c 72)) rfl rfl (fun y2 hy2 => ?_)
    exact Ok_ret rfl rfl rfl
  · refine Ok_blk 2 (pc2 := 14) (lo2 := [some (.ref 82), some (.int x1)]) (st2 := [.int 0]) rfl ?_
    exact Ok_ret rfl rfl rfl
set_option maxHeartbeats 8000000 in
set_option maxRecDepth 100000 in
theorem tm_Market_shippedIn (N d : Nat) (xs : List Int32) (c r : St) (a1 : Int32) (p : Int32) (hp : Market_shippedIn N c a1 = some p) : mBig (mRoL xs) (d + 1) 52 [.ref 82, .int a1] (HP c r) (some (.int p)) (HP c r) 0 0 := mBig_of (by decide) rfl rfl rfl rfl (t_Market_shippedIn N d xs c r a1 p hp)
/-! ColdHolds$Market.sellersAt(I)I, from (('r', 82), 'i') -/
def Market_sellersAt_p28 (N : Nat) (kb4 : Int32 → Int32 → Int32 → Option (Int32)) (c : St) (x1 : Int32) (x2 : Int32) (x3 : Int32) : Option (Int32) :=
  kb4 x1 x2 (x3 + 1)
def Market_sellersAt_p4b (N : Nat) (kb4 : Int32 → Int32 → Int32 → Option (Int32)) (c : St) (x1 : Int32) (x2 : Int32) (x3 : Int32) : Option (Int32) :=
  (if (gI c 24) ≤ x3 then some x2 else (ld (gA c 70) x3).bind fun y2 => (if x1 < y2 then Market_sellersAt_p28 N kb4 c x1 x2 x3 else Market_sellersAt_p28 N kb4 c x1 (x2 ||| (1 <<< (x3 &&& 31))) x3))
def Market_sellersAt_p4 (N : Nat) (c : St) : Nat → Int32 → Int32 → Int32 → Option (Int32)
  | 0 => fun _ _ _ => none
  | n + 1 => Market_sellersAt_p4b N (Market_sellersAt_p4 N c n) c
def Market_sellersAt (N : Nat) (c : St) (x1 : Int32) : Option (Int32) :=
  Market_sellersAt_p4 N c N x1 0 0
set_option maxHeartbeats 8000000 in
set_option maxRecDepth 100000 in
theorem t_Market_sellersAt_p28 (N d : Nat) (xs : List Int32) (c : St) (r : St) (kb4 : Int32 → Int32 → Int32 → Option (Int32)) (hb4 : ∀ (x1 : Int32) (x2 : Int32) (x3 : Int32), Ok (mBig (mRoL xs) (d)) (mRoL xs) 1 mK53 (fun p : Int32 => (some (.int p), HP c r)) (kb4 x1 x2 x3) 4 [some (.ref 82), some (.int x1), some (.int x2), some (.int x3)] [] (HP c r)) (x1 : Int32) (x2 : Int32) (x3 : Int32) : Ok (mBig (mRoL xs) (d)) (mRoL xs) 1 mK53 (fun p : Int32 => (some (.int p), HP c r)) (Market_sellersAt_p28 N kb4 c x1 x2 x3) 28 [some (.ref 82), some (.int x1), some (.int x2), some (.int x3)] [] (HP c r) := by
  unfold Market_sellersAt_p28
  refine Ok_blk 2 (pc2 := 4) (lo2 := [some (.ref 82), some (.int x1), some (.int x2), some (.int (x3 + 1))]) (st2 := []) rfl ?_
  refine Ok_drop (lo0 := [some (.ref 82), some (.int x1), some (.int x2), some (.int (x3 + 1))]) ⟨Or.inr rfl, Or.inr rfl, Or.inr rfl, Or.inr rfl, trivial⟩ ?_
  exact hb4 x1 x2 (x3 + 1)
set_option maxHeartbeats 8000000 in
set_option maxRecDepth 100000 in
theorem t_Market_sellersAt_p4b (N d : Nat) (xs : List Int32) (c : St) (r : St) (kb4 : Int32 → Int32 → Int32 → Option (Int32)) (hb4 : ∀ (x1 : Int32) (x2 : Int32) (x3 : Int32), Ok (mBig (mRoL xs) (d)) (mRoL xs) 1 mK53 (fun p : Int32 => (some (.int p), HP c r)) (kb4 x1 x2 x3) 4 [some (.ref 82), some (.int x1), some (.int x2), some (.int x3)] [] (HP c r)) (x1 : Int32) (x2 : Int32) (x3 : Int32) : Ok (mBig (mRoL xs) (d)) (mRoL xs) 1 mK53 (fun p : Int32 => (some (.int p), HP c r)) (Market_sellersAt_p4b N kb4 c x1 x2 x3) 4 [some (.ref 82), some (.int x1), some (.int x2), some (.int x3)] [] (HP c r) := by
  unfold Market_sellersAt_p4b
  refine Ok_blk 4 (pc2 := (if (gI c 24) ≤ x3 then 34 else 12)) (lo2 := [some (.ref 82), some (.int x1), some (.int x2), some (.int x3)]) (st2 := []) rfl ?_
  refine Ok_if (fun h1 => ?_) (fun h1 => ?_)
  · refine Ok_blk 1 (pc2 := 35) (lo2 := [some (.ref 82), some (.int x1), some (.int x2), some (.int x3)]) (st2 := [.int x2]) rfl ?_
    exact Ok_ret rfl rfl rfl
  · refine Ok_blk 4 (pc2 := 18) (lo2 := [some (.ref 82), some (.int x1), some (.int x2), some (.int x3)]) (st2 := [.int x3, .ref 85, .int x1]) rfl ?_
    refine Ok_ld (l := (gA c 70)) rfl rfl (fun y2 hy2 => ?_)
    refine Ok_blk 1 (pc2 := (if x1 < y2 then 28 else 22)) (lo2 := [some (.ref 82), some (.int x1), some (.int x2), some (.int x3)]) (st2 := []) rfl ?_
    refine Ok_if (fun h3 => ?_) (fun h3 => ?_)
    · refine Ok_drop (lo0 := [some (.ref 82), some (.int x1), some (.int x2), some (.int x3)]) ⟨Or.inr rfl, Or.inr rfl, Or.inr rfl, Or.inr rfl, trivial⟩ ?_
      exact t_Market_sellersAt_p28 N d xs c r kb4 hb4 x1 x2 x3
    · refine Ok_blk 6 (pc2 := 28) (lo2 := [some (.ref 82), some (.int x1), some (.int (x2 ||| (1 <<< (x3 &&& 31)))), some (.int x3)]) (st2 := []) rfl ?_
      refine Ok_drop (lo0 := [some (.ref 82), some (.int x1), some (.int (x2 ||| (1 <<< (x3 &&& 31)))), some (.int x3)]) ⟨Or.inr rfl, Or.inr rfl, Or.inr rfl, Or.inr rfl, trivial⟩ ?_
      exact t_Market_sellersAt_p28 N d xs c r kb4 hb4 x1 (x2 ||| (1 <<< (x3 &&& 31))) x3
set_option maxHeartbeats 8000000 in
set_option maxRecDepth 100000 in
theorem t_Market_sellersAt_p4 (N d : Nat) (xs : List Int32) (c : St) (r : St) : ∀ (n : Nat) (x1 : Int32) (x2 : Int32) (x3 : Int32), Ok (mBig (mRoL xs) (d)) (mRoL xs) 1 mK53 (fun p : Int32 => (some (.int p), HP c r)) (Market_sellersAt_p4 N c n x1 x2 x3) 4 [some (.ref 82), some (.int x1), some (.int x2), some (.int x3)] [] (HP c r) := by
  intro n
  induction n with
  | zero => intro x1 x2 x3; exact Ok_none
  | succ n ih => intro x1 x2 x3; exact t_Market_sellersAt_p4b N d xs c r (Market_sellersAt_p4 N c n) ih x1 x2 x3
set_option maxHeartbeats 8000000 in
set_option maxRecDepth 100000 in
theorem t_Market_sellersAt (N d : Nat) (xs : List Int32) (c : St) (r : St) (x1 : Int32) : Ok (mBig (mRoL xs) (d)) (mRoL xs) 1 mK53 (fun p : Int32 => (some (.int p), HP c r)) (Market_sellersAt N c x1) 0 [some (.ref 82), some (.int x1), none, none] [] (HP c r) := by
  unfold Market_sellersAt
  refine Ok_blk 4 (pc2 := 4) (lo2 := [some (.ref 82), some (.int x1), some (.int 0), some (.int 0)]) (st2 := []) rfl ?_
  refine Ok_drop (lo0 := [some (.ref 82), some (.int x1), some (.int 0), some (.int 0)]) ⟨Or.inr rfl, Or.inr rfl, Or.inr rfl, Or.inr rfl, trivial⟩ ?_
  exact t_Market_sellersAt_p4 N d xs c r N x1 0 0
set_option maxHeartbeats 8000000 in
set_option maxRecDepth 100000 in
theorem tm_Market_sellersAt (N d : Nat) (xs : List Int32) (c r : St) (a1 : Int32) (p : Int32) (hp : Market_sellersAt N c a1 = some p) : mBig (mRoL xs) (d + 1) 53 [.ref 82, .int a1] (HP c r) (some (.int p)) (HP c r) 0 0 := mBig_of (by decide) rfl rfl rfl rfl (t_Market_sellersAt N d xs c r a1 p hp)
/-! ColdHolds$Market.loadOf(I)I, from (('r', 82), 'i') -/
def Market_loadOf_p30 (N : Nat) (kb4 : Int32 → Int32 → Int32 → Option (Int32)) (c : St) (x1 : Int32) (x2 : Int32) (x3 : Int32) : Option (Int32) :=
  kb4 x1 x2 (x3 + 1)
def Market_loadOf_p4b (N : Nat) (kb4 : Int32 → Int32 → Int32 → Option (Int32)) (c : St) (x1 : Int32) (x2 : Int32) (x3 : Int32) : Option (Int32) :=
  (if (gI c 24) ≤ x3 then some x2 else (if ¬ ((x1 >>> (x3 &&& 31)) &&& 1) = 1 then Market_loadOf_p30 N kb4 c x1 x2 x3 else (ld (gA c 69) x3).bind fun y3 => Market_loadOf_p30 N kb4 c x1 (x2 + y3) x3))
def Market_loadOf_p4 (N : Nat) (c : St) : Nat → Int32 → Int32 → Int32 → Option (Int32)
  | 0 => fun _ _ _ => none
  | n + 1 => Market_loadOf_p4b N (Market_loadOf_p4 N c n) c
def Market_loadOf (N : Nat) (c : St) (x1 : Int32) : Option (Int32) :=
  Market_loadOf_p4 N c N x1 0 0
set_option maxHeartbeats 8000000 in
set_option maxRecDepth 100000 in
theorem t_Market_loadOf_p30 (N d : Nat) (xs : List Int32) (c : St) (r : St) (kb4 : Int32 → Int32 → Int32 → Option (Int32)) (hb4 : ∀ (x1 : Int32) (x2 : Int32) (x3 : Int32), Ok (mBig (mRoL xs) (d)) (mRoL xs) 1 mK54 (fun p : Int32 => (some (.int p), HP c r)) (kb4 x1 x2 x3) 4 [some (.ref 82), some (.int x1), some (.int x2), some (.int x3)] [] (HP c r)) (x1 : Int32) (x2 : Int32) (x3 : Int32) : Ok (mBig (mRoL xs) (d)) (mRoL xs) 1 mK54 (fun p : Int32 => (some (.int p), HP c r)) (Market_loadOf_p30 N kb4 c x1 x2 x3) 30 [some (.ref 82), some (.int x1), some (.int x2), some (.int x3)] [] (HP c r) := by
  unfold Market_loadOf_p30
  refine Ok_blk 2 (pc2 := 4) (lo2 := [some (.ref 82), some (.int x1), some (.int x2), some (.int (x3 + 1))]) (st2 := []) rfl ?_
  refine Ok_drop (lo0 := [some (.ref 82), some (.int x1), some (.int x2), some (.int (x3 + 1))]) ⟨Or.inr rfl, Or.inr rfl, Or.inr rfl, Or.inr rfl, trivial⟩ ?_
  exact hb4 x1 x2 (x3 + 1)
set_option maxHeartbeats 8000000 in
set_option maxRecDepth 100000 in
theorem t_Market_loadOf_p4b (N d : Nat) (xs : List Int32) (c : St) (r : St) (kb4 : Int32 → Int32 → Int32 → Option (Int32)) (hb4 : ∀ (x1 : Int32) (x2 : Int32) (x3 : Int32), Ok (mBig (mRoL xs) (d)) (mRoL xs) 1 mK54 (fun p : Int32 => (some (.int p), HP c r)) (kb4 x1 x2 x3) 4 [some (.ref 82), some (.int x1), some (.int x2), some (.int x3)] [] (HP c r)) (x1 : Int32) (x2 : Int32) (x3 : Int32) : Ok (mBig (mRoL xs) (d)) (mRoL xs) 1 mK54 (fun p : Int32 => (some (.int p), HP c r)) (Market_loadOf_p4b N kb4 c x1 x2 x3) 4 [some (.ref 82), some (.int x1), some (.int x2), some (.int x3)] [] (HP c r) := by
  unfold Market_loadOf_p4b
  refine Ok_blk 4 (pc2 := (if (gI c 24) ≤ x3 then 36 else 12)) (lo2 := [some (.ref 82), some (.int x1), some (.int x2), some (.int x3)]) (st2 := []) rfl ?_
  refine Ok_if (fun h1 => ?_) (fun h1 => ?_)
  · refine Ok_blk 1 (pc2 := 37) (lo2 := [some (.ref 82), some (.int x1), some (.int x2), some (.int x3)]) (st2 := [.int x2]) rfl ?_
    exact Ok_ret rfl rfl rfl
  · refine Ok_blk 7 (pc2 := (if ¬ ((x1 >>> (x3 &&& 31)) &&& 1) = 1 then 30 else 21)) (lo2 := [some (.ref 82), some (.int x1), some (.int x2), some (.int x3)]) (st2 := []) rfl ?_
    refine Ok_if (fun h2 => ?_) (fun h2 => ?_)
    · refine Ok_drop (lo0 := [some (.ref 82), some (.int x1), some (.int x2), some (.int x3)]) ⟨Or.inr rfl, Or.inr rfl, Or.inr rfl, Or.inr rfl, trivial⟩ ?_
      exact t_Market_loadOf_p30 N d xs c r kb4 hb4 x1 x2 x3
    · refine Ok_blk 4 (pc2 := 27) (lo2 := [some (.ref 82), some (.int x1), some (.int x2), some (.int x3)]) (st2 := [.int x3, .ref 84, .int x2]) rfl ?_
      refine Ok_ld (l := (gA c 69)) rfl rfl (fun y3 hy3 => ?_)
      refine Ok_blk 2 (pc2 := 30) (lo2 := [some (.ref 82), some (.int x1), some (.int (x2 + y3)), some (.int x3)]) (st2 := []) rfl ?_
      refine Ok_drop (lo0 := [some (.ref 82), some (.int x1), some (.int (x2 + y3)), some (.int x3)]) ⟨Or.inr rfl, Or.inr rfl, Or.inr rfl, Or.inr rfl, trivial⟩ ?_
      exact t_Market_loadOf_p30 N d xs c r kb4 hb4 x1 (x2 + y3) x3
set_option maxHeartbeats 8000000 in
set_option maxRecDepth 100000 in
theorem t_Market_loadOf_p4 (N d : Nat) (xs : List Int32) (c : St) (r : St) : ∀ (n : Nat) (x1 : Int32) (x2 : Int32) (x3 : Int32), Ok (mBig (mRoL xs) (d)) (mRoL xs) 1 mK54 (fun p : Int32 => (some (.int p), HP c r)) (Market_loadOf_p4 N c n x1 x2 x3) 4 [some (.ref 82), some (.int x1), some (.int x2), some (.int x3)] [] (HP c r) := by
  intro n
  induction n with
  | zero => intro x1 x2 x3; exact Ok_none
  | succ n ih => intro x1 x2 x3; exact t_Market_loadOf_p4b N d xs c r (Market_loadOf_p4 N c n) ih x1 x2 x3
set_option maxHeartbeats 8000000 in
set_option maxRecDepth 100000 in
theorem t_Market_loadOf (N d : Nat) (xs : List Int32) (c : St) (r : St) (x1 : Int32) : Ok (mBig (mRoL xs) (d)) (mRoL xs) 1 mK54 (fun p : Int32 => (some (.int p), HP c r)) (Market_loadOf N c x1) 0 [some (.ref 82), some (.int x1), none, none] [] (HP c r) := by
  unfold Market_loadOf
  refine Ok_blk 4 (pc2 := 4) (lo2 := [some (.ref 82), some (.int x1), some (.int 0), some (.int 0)]) (st2 := []) rfl ?_
  refine Ok_drop (lo0 := [some (.ref 82), some (.int x1), some (.int 0), some (.int 0)]) ⟨Or.inr rfl, Or.inr rfl, Or.inr rfl, Or.inr rfl, trivial⟩ ?_
  exact t_Market_loadOf_p4 N d xs c r N x1 0 0
set_option maxHeartbeats 8000000 in
set_option maxRecDepth 100000 in
theorem tm_Market_loadOf (N d : Nat) (xs : List Int32) (c r : St) (a1 : Int32) (p : Int32) (hp : Market_loadOf N c a1 = some p) : mBig (mRoL xs) (d + 1) 54 [.ref 82, .int a1] (HP c r) (some (.int p)) (HP c r) 0 0 := mBig_of (by decide) rfl rfl rfl rfl (t_Market_loadOf N d xs c r a1 p hp)
/-! ColdHolds$Market.run()V, from (('r', 82),) -/
def Market_run_p2b (N : Nat) (kb2 : St → Int32 → Option (St)) (c : St) (x1 : Int32) : Option (St) :=
  (if 200 ≤ x1 then some c else (ld (gA c 68) 0).bind fun y2 => (ld (gA c 68) 1).bind fun y3 => (ld (gA c 68) 3).bind fun y4 => (Market_shippedIn N c (x1 - y4)).bind fun p5 => (J_max N 0 (y2 - (y3 * p5))).bind fun p6 => (sto (gA c 71) x1 p6).bind fun w7 => (ld (gA (sA c 71 w7) 68) 2).bind fun y8 => (Market_priceIn N (sA c 71 w7) (x1 - y8)).bind fun p9 => (Market_sellersAt N (sA c 71 w7) p9).bind fun p10 => (Market_loadOf N (sA c 71 w7) p10).bind fun p11 => (sto (gA (sA c 71 w7) 72) x1 p11).bind fun w12 => kb2 (sA (sA c 71 w7) 72 w12) (x1 + 1))
def Market_run_p2 (N : Nat) : Nat → St → Int32 → Option (St)
  | 0 => fun _ _ => none
  | n + 1 => Market_run_p2b N (Market_run_p2 N n)
def Market_run (N : Nat) (c : St) : Option (St) :=
  Market_run_p2 N N c 0
set_option maxHeartbeats 8000000 in
set_option maxRecDepth 100000 in
theorem t_Market_run_p2b (N d : Nat) (xs : List Int32) (r : St) (kb2 : St → Int32 → Option (St)) (hb2 : ∀ (c : St) (x1 : Int32), Ok (mBig (mRoL xs) (d + 1)) (mRoL xs) 0 mK50 (fun p : St => (none, HP p r)) (kb2 c x1) 2 [some (.ref 82), some (.int x1)] [] (HP c r)) (c : St) (x1 : Int32) : Ok (mBig (mRoL xs) (d + 1)) (mRoL xs) 0 mK50 (fun p : St => (none, HP p r)) (Market_run_p2b N kb2 c x1) 2 [some (.ref 82), some (.int x1)] [] (HP c r) := by
  unfold Market_run_p2b
  refine Ok_blk 3 (pc2 := (if 200 ≤ x1 then 77 else 9)) (lo2 := [some (.ref 82), some (.int x1)]) (st2 := []) rfl ?_
  refine Ok_if (fun h1 => ?_) (fun h1 => ?_)
  · exact Ok_ret rfl rfl rfl
  · refine Ok_blk 7 (pc2 := 20) (lo2 := [some (.ref 82), some (.int x1)]) (st2 := [.int 0, .ref 83, .int 0, .int x1, .ref 86]) rfl ?_
    refine Ok_ld (l := (gA c 68)) rfl rfl (fun y2 hy2 => ?_)
    refine Ok_blk 3 (pc2 := 26) (lo2 := [some (.ref 82), some (.int x1)]) (st2 := [.int 1, .ref 83, .int y2, .int 0, .int x1, .ref 86]) rfl ?_
    refine Ok_ld (l := (gA c 68)) rfl rfl (fun y3 hy3 => ?_)
    refine Ok_blk 5 (pc2 := 34) (lo2 := [some (.ref 82), some (.int x1)]) (st2 := [.int 3, .ref 83, .int x1, .ref 82, .int y3, .int y2, .int 0, .int x1, .ref 86]) rfl ?_
    refine Ok_ld (l := (gA c 68)) rfl rfl (fun y4 hy4 => ?_)
    refine Ok_blk 1 (pc2 := 36) (lo2 := [some (.ref 82), some (.int x1)]) (st2 := [.int (x1 - y4), .ref 82, .int y3, .int y2, .int 0, .int x1, .ref 86]) rfl ?_
    refine Ok_call (y := 52) (as := [.ref 82, .int (x1 - y4)]) (rest := [.int y3, .int y2, .int 0, .int x1, .ref 86]) (w := fun p5 => some (.int p5)) (h1 := fun p5 => HP c r) rfl rfl (fun x hx => tm_Market_shippedIn N d xs c r (x1 - y4) x hx) (fun p5 hp5 => ?_)
    refine Ok_blk 2 (pc2 := 41) (lo2 := [some (.ref 82), some (.int x1)]) (st2 := [.int (y2 - (y3 * p5)), .int 0, .int x1, .ref 86]) rfl ?_
    refine Ok_call (y := 261) (as := [.int 0, .int (y2 - (y3 * p5))]) (rest := [.int x1, .ref 86]) (w := fun p6 => some (.int p6)) (h1 := fun p6 => HP c r) rfl rfl (fun x hx => tm_J_max N d xs c r 0 (y2 - (y3 * p5)) x hx) (fun p6 hp6 => ?_)
    refine Ok_st (l := (gA c 71)) (hn := fun l' => HP (sA c 71 l') r) rfl rfl (fun l' => sa_86 _ _ l') (fun w7 hw7 => ?_)
    refine Ok_blk 10 (pc2 := 59) (lo2 := [some (.ref 82), some (.int x1)]) (st2 := [.int 2, .ref 83, .int x1, .ref 82, .ref 82, .ref 82, .int x1, .ref 87]) rfl ?_
    refine Ok_ld (l := (gA (sA c 71 w7) 68)) rfl rfl (fun y8 hy8 => ?_)
    refine Ok_blk 1 (pc2 := 61) (lo2 := [some (.ref 82), some (.int x1)]) (st2 := [.int (x1 - y8), .ref 82, .ref 82, .ref 82, .int x1, .ref 87]) rfl ?_
    refine Ok_call (y := 51) (as := [.ref 82, .int (x1 - y8)]) (rest := [.ref 82, .ref 82, .int x1, .ref 87]) (w := fun p9 => some (.int p9)) (h1 := fun p9 => HP (sA c 71 w7) r) rfl rfl (fun x hx => tm_Market_priceIn N d xs (sA c 71 w7) r (x1 - y8) x hx) (fun p9 hp9 => ?_)
    refine Ok_call (y := 53) (as := [.ref 82, .int p9]) (rest := [.ref 82, .int x1, .ref 87]) (w := fun p10 => some (.int p10)) (h1 := fun p10 => HP (sA c 71 w7) r) rfl rfl (fun x hx => tm_Market_sellersAt N d xs (sA c 71 w7) r p9 x hx) (fun p10 hp10 => ?_)
    refine Ok_call (y := 54) (as := [.ref 82, .int p10]) (rest := [.int x1, .ref 87]) (w := fun p11 => some (.int p11)) (h1 := fun p11 => HP (sA c 71 w7) r) rfl rfl (fun x hx => tm_Market_loadOf N d xs (sA c 71 w7) r p10 x hx) (fun p11 hp11 => ?_)
    refine Ok_st (l := (gA (sA c 71 w7) 72)) (hn := fun l' => HP (sA (sA c 71 w7) 72 l') r) rfl rfl (fun l' => sa_87 _ _ l') (fun w12 hw12 => ?_)
    refine Ok_blk 2 (pc2 := 2) (lo2 := [some (.ref 82), some (.int (x1 + 1))]) (st2 := []) rfl ?_
    refine Ok_drop (lo0 := [some (.ref 82), some (.int (x1 + 1))]) ⟨Or.inr rfl, Or.inr rfl, trivial⟩ ?_
    exact hb2 (sA (sA c 71 w7) 72 w12) (x1 + 1)
set_option maxHeartbeats 8000000 in
set_option maxRecDepth 100000 in
theorem t_Market_run_p2 (N d : Nat) (xs : List Int32) (r : St) : ∀ (n : Nat) (c : St) (x1 : Int32), Ok (mBig (mRoL xs) (d + 1)) (mRoL xs) 0 mK50 (fun p : St => (none, HP p r)) (Market_run_p2 N n c x1) 2 [some (.ref 82), some (.int x1)] [] (HP c r) := by
  intro n
  induction n with
  | zero => intro c x1; exact Ok_none
  | succ n ih => intro c x1; exact t_Market_run_p2b N d xs r (Market_run_p2 N n) ih c x1
set_option maxHeartbeats 8000000 in
set_option maxRecDepth 100000 in
theorem t_Market_run (N d : Nat) (xs : List Int32) (r : St) (c : St) : Ok (mBig (mRoL xs) (d + 1)) (mRoL xs) 0 mK50 (fun p : St => (none, HP p r)) (Market_run N c) 0 [some (.ref 82), none] [] (HP c r) := by
  unfold Market_run
  refine Ok_blk 2 (pc2 := 2) (lo2 := [some (.ref 82), some (.int 0)]) (st2 := []) rfl ?_
  refine Ok_drop (lo0 := [some (.ref 82), some (.int 0)]) ⟨Or.inr rfl, Or.inr rfl, trivial⟩ ?_
  exact t_Market_run_p2 N d xs r N c 0
set_option maxHeartbeats 8000000 in
set_option maxRecDepth 100000 in
theorem tm_Market_run (N d : Nat) (xs : List Int32) (c r : St) (p : St) (hp : Market_run N c = some p) : mBig (mRoL xs) (d + 2) 50 [.ref 82] (HP c r) (none) (HP p r) 0 0 := mBig_of (by decide) rfl rfl rfl rfl (t_Market_run N d xs r c p hp)
/-! ColdHolds$Market.tell(II)I, from (('r', 82), 'i', 'i') -/
def Market_tell (N : Nat) (c : St) (x1 : Int32) (x2 : Int32) : Option (Int32) :=
  (ld (gA c 68) 2).bind fun y1 => (Market_priceIn N c (x1 - y1)).bind fun p2 => (Market_sellersAt N c p2).bind fun p3 => (if x2 = 0 then (ld (gA c 71) x1).bind fun y5 => some y5 else (if x2 = 1 then (ld (gA c 72) x1).bind fun y7 => some y7 else (if x2 = 2 then (ld (gA c 71) x1).bind fun y9 => (Market_sellersAt N c y9).bind fun p10 => (J_bitCount N (p3 ^^^ p10)).bind fun p11 => some p11 else some p3)))
set_option maxHeartbeats 8000000 in
set_option maxRecDepth 100000 in
theorem t_Market_tell (N d : Nat) (xs : List Int32) (c : St) (r : St) (x1 : Int32) (x2 : Int32) : Ok (mBig (mRoL xs) (d + 1)) (mRoL xs) 1 mK55 (fun p : Int32 => (some (.int p), HP c r)) (Market_tell N c x1 x2) 0 [some (.ref 82), some (.int x1), some (.int x2), none] [] (HP c r) := by
  unfold Market_tell
  refine Ok_blk 6 (pc2 := 8) (lo2 := [some (.ref 82), some (.int x1), some (.int x2), none]) (st2 := [.int 2, .ref 83, .int x1, .ref 82, .ref 82]) rfl ?_
  refine Ok_ld (l := (gA c 68)) rfl rfl (fun y1 hy1 => ?_)
  refine Ok_blk 1 (pc2 := 10) (lo2 := [some (.ref 82), some (.int x1), some (.int x2), none]) (st2 := [.int (x1 - y1), .ref 82, .ref 82]) rfl ?_
  refine Ok_call (y := 51) (as := [.ref 82, .int (x1 - y1)]) (rest := [.ref 82]) (w := fun p2 => some (.int p2)) (h1 := fun p2 => HP c r) rfl rfl (fun x hx => tm_Market_priceIn N d xs c r (x1 - y1) x hx) (fun p2 hp2 => ?_)
  refine Ok_call (y := 53) (as := [.ref 82, .int p2]) (rest := []) (w := fun p3 => some (.int p3)) (h1 := fun p3 => HP c r) rfl rfl (fun x hx => tm_Market_sellersAt N d xs c r p2 x hx) (fun p3 hp3 => ?_)
  refine Ok_blk 3 (pc2 := mSw x2 [(0, 44), (1, 51), (2, 58)] 74) (lo2 := [some (.ref 82), some (.int x1), some (.int x2), some (.int p3)]) (st2 := []) rfl ?_
  refine Ok_sw (fun h4 => ?_) (fun h4 => ?_)
  · refine Ok_blk 3 (pc2 := 49) (lo2 := [some (.ref 82), some (.int x1), some (.int x2), some (.int p3)]) (st2 := [.int x1, .ref 86]) rfl ?_
    refine Ok_ld (l := (gA c 71)) rfl rfl (fun y5 hy5 => ?_)
    exact Ok_ret rfl rfl rfl
  refine Ok_sw (fun h6 => ?_) (fun h6 => ?_)
  · refine Ok_blk 3 (pc2 := 56) (lo2 := [some (.ref 82), some (.int x1), some (.int x2), some (.int p3)]) (st2 := [.int x1, .ref 87]) rfl ?_
    refine Ok_ld (l := (gA c 72)) rfl rfl (fun y7 hy7 => ?_)
    exact Ok_ret rfl rfl rfl
  refine Ok_sw (fun h8 => ?_) (fun h8 => ?_)
  · refine Ok_blk 5 (pc2 := 65) (lo2 := [some (.ref 82), some (.int x1), some (.int x2), some (.int p3)]) (st2 := [.int x1, .ref 86, .ref 82, .int p3]) rfl ?_
    refine Ok_ld (l := (gA c 71)) rfl rfl (fun y9 hy9 => ?_)
    refine Ok_call (y := 53) (as := [.ref 82, .int y9]) (rest := [.int p3]) (w := fun p10 => some (.int p10)) (h1 := fun p10 => HP c r) rfl rfl (fun x hx => tm_Market_sellersAt N d xs c r y9 x hx) (fun p10 hp10 => ?_)
    refine Ok_blk 1 (pc2 := 70) (lo2 := [some (.ref 82), some (.int x1), some (.int x2), some (.int p3)]) (st2 := [.int (p3 ^^^ p10)]) rfl ?_
    refine Ok_call (y := 258) (as := [.int (p3 ^^^ p10)]) (rest := []) (w := fun p11 => some (.int p11)) (h1 := fun p11 => HP c r) rfl rfl (fun x hx => tm_J_bitCount N d xs c r (p3 ^^^ p10) x hx) (fun p11 hp11 => ?_)
    exact Ok_ret rfl rfl rfl
  show Ok _ _ _ _ _ _ 74 _ _ _
  refine Ok_blk 1 (pc2 := 75) (lo2 := [some (.ref 82), some (.int x1), some (.int x2), some (.int p3)]) (st2 := [.int p3]) rfl ?_
  exact Ok_ret rfl rfl rfl
set_option maxHeartbeats 8000000 in
set_option maxRecDepth 100000 in
theorem tm_Market_tell (N d : Nat) (xs : List Int32) (c r : St) (a1 : Int32) (a2 : Int32) (p : Int32) (hp : Market_tell N c a1 a2 = some p) : mBig (mRoL xs) (d + 2) 55 [.ref 82, .int a1, .int a2] (HP c r) (some (.int p)) (HP c r) 0 0 := mBig_of (by decide) rfl rfl rfl rfl (t_Market_tell N d xs c r a1 a2 p hp)
/-! ColdHolds.week(II)I, from (('r', 0), 'i', 'i') -/
def C_week_p20 (N : Nat) (c : St) : Option (Int32 × St) :=
  some ((-102), c)
def C_week (N : Nat) (c : St) (x1 : Int32) (x2 : Int32) : Option (Int32 × St) :=
  (C_within N x1 0 199).bind fun p1 => (if p1 = 0 then C_week_p20 N c else (C_within N x2 0 3).bind fun p3 => (if ¬ p3 = 0 then (Market_run N c).bind fun p5 => (Market_tell N p5 x1 x2).bind fun p6 => some (p6, p5) else C_week_p20 N c))
set_option maxHeartbeats 8000000 in
set_option maxRecDepth 100000 in
theorem t_C_week_p20 (N d : Nat) (xs : List Int32) (r : St) (c : St) : Ok (mBig (mRoL xs) (d + 2)) (mRoL xs) 1 mK145 (fun p : Int32 × St => (some (.int p.1), HP p.2 r)) (C_week_p20 N c) 20 [none, none, none] [] (HP c r) := by
  unfold C_week_p20
  refine Ok_blk 1 (pc2 := 22) (lo2 := [none, none, none]) (st2 := [.int (-102)]) rfl ?_
  exact Ok_ret rfl rfl rfl
set_option maxHeartbeats 8000000 in
set_option maxRecDepth 100000 in
theorem t_C_week (N d : Nat) (xs : List Int32) (r : St) (c : St) (x1 : Int32) (x2 : Int32) : Ok (mBig (mRoL xs) (d + 2)) (mRoL xs) 1 mK145 (fun p : Int32 × St => (some (.int p.1), HP p.2 r)) (C_week N c x1 x2) 0 [some (.ref 0), some (.int x1), some (.int x2)] [] (HP c r) := by
  unfold C_week
  refine Ok_blk 3 (pc2 := 5) (lo2 := [some (.ref 0), some (.int x1), some (.int x2)]) (st2 := [.int 199, .int 0, .int x1]) rfl ?_
  refine Ok_call (y := 102) (as := [.int x1, .int 0, .int 199]) (rest := []) (w := fun p1 => some (.int p1)) (h1 := fun p1 => HP c r) rfl rfl (fun x hx => tm_C_within N (d + 1) xs c r x1 0 199 x hx) (fun p1 hp1 => ?_)
  refine Ok_blk 1 (pc2 := (if p1 = 0 then 20 else 11)) (lo2 := [some (.ref 0), some (.int x1), some (.int x2)]) (st2 := []) rfl ?_
  refine Ok_if (fun h2 => ?_) (fun h2 => ?_)
  · refine Ok_drop (lo0 := [none, none, none]) ⟨Or.inl rfl, Or.inl rfl, Or.inl rfl, trivial⟩ ?_
    exact t_C_week_p20 N d xs r c
  · refine Ok_blk 3 (pc2 := 14) (lo2 := [some (.ref 0), some (.int x1), some (.int x2)]) (st2 := [.int 3, .int 0, .int x2]) rfl ?_
    refine Ok_call (y := 102) (as := [.int x2, .int 0, .int 3]) (rest := []) (w := fun p3 => some (.int p3)) (h1 := fun p3 => HP c r) rfl rfl (fun x hx => tm_C_within N (d + 1) xs c r x2 0 3 x hx) (fun p3 hp3 => ?_)
    refine Ok_blk 1 (pc2 := (if ¬ p3 = 0 then 23 else 20)) (lo2 := [some (.ref 0), some (.int x1), some (.int x2)]) (st2 := []) rfl ?_
    refine Ok_if (fun h4 => ?_) (fun h4 => ?_)
    · refine Ok_blk 2 (pc2 := 27) (lo2 := [some (.ref 0), some (.int x1), some (.int x2)]) (st2 := [.ref 82]) rfl ?_
      refine Ok_call (y := 50) (as := [.ref 82]) (rest := []) (w := fun p5 => none) (h1 := fun p5 => HP p5 r) rfl rfl (fun x hx => tm_Market_run N d xs c r x hx) (fun p5 hp5 => ?_)
      refine Ok_blk 4 (pc2 := 36) (lo2 := [some (.ref 0), some (.int x1), some (.int x2)]) (st2 := [.int x2, .int x1, .ref 82]) rfl ?_
      refine Ok_call (y := 55) (as := [.ref 82, .int x1, .int x2]) (rest := []) (w := fun p6 => some (.int p6)) (h1 := fun p6 => HP p5 r) rfl rfl (fun x hx => tm_Market_tell N d xs p5 r x1 x2 x hx) (fun p6 hp6 => ?_)
      exact Ok_ret rfl rfl rfl
    · refine Ok_drop (lo0 := [none, none, none]) ⟨Or.inl rfl, Or.inl rfl, Or.inl rfl, trivial⟩ ?_
      exact t_C_week_p20 N d xs r c
set_option maxHeartbeats 8000000 in
set_option maxRecDepth 100000 in
theorem tm_C_week (N d : Nat) (xs : List Int32) (c r : St) (a1 : Int32) (a2 : Int32) (p : Int32 × St) (hp : C_week N c a1 a2 = some p) : mBig (mRoL xs) (d + 3) 145 [.ref 0, .int a1, .int a2] (HP c r) (some (.int p.1)) (HP p.2 r) 0 0 := mBig_of (by decide) rfl rfl rfl rfl (t_C_week N d xs r c a1 a2 p hp)
/-! ColdHoldsModel.priceAt(I)I, from (('r', 115), 'i') -/
def R_priceAt (N : Nat) (r : St) (x1 : Int32) : Option (Int32) :=
  (if 0 ≤ x1 then (ld (gA r 38) x1).bind fun y2 => some y2 else some (gI r 15))
set_option maxHeartbeats 8000000 in
set_option maxRecDepth 100000 in
theorem t_R_priceAt (N d : Nat) (xs : List Int32) (c : St) (r : St) (x1 : Int32) : Ok (mBig (mRoL xs) (d)) (mRoL xs) 1 mK229 (fun p : Int32 => (some (.int p), HP c r)) (R_priceAt N r x1) 0 [some (.ref 115), some (.int x1)] [] (HP c r) := by
  unfold R_priceAt
  refine Ok_blk 2 (pc2 := (if 0 ≤ x1 then 11 else 4)) (lo2 := [some (.ref 115), some (.int x1)]) (st2 := []) rfl ?_
  refine Ok_if (fun h1 => ?_) (fun h1 => ?_)
  · refine Ok_blk 3 (pc2 := 16) (lo2 := [some (.ref 115), some (.int x1)]) (st2 := [.int x1, .ref 156]) rfl ?_
    refine Ok_ld (l := (gA r 38)) rfl rfl (fun y2 hy2 => ?_)
    exact Ok_ret rfl rfl rfl
  · refine Ok_blk 3 (pc2 := 17) (lo2 := [some (.ref 115), some (.int x1)]) (st2 := [.int (gI r 15)]) rfl ?_
    exact Ok_ret rfl rfl rfl
set_option maxHeartbeats 8000000 in
set_option maxRecDepth 100000 in
theorem tm_R_priceAt (N d : Nat) (xs : List Int32) (c r : St) (a1 : Int32) (p : Int32) (hp : R_priceAt N r a1 = some p) : mBig (mRoL xs) (d + 1) 229 [.ref 115, .int a1] (HP c r) (some (.int p)) (HP c r) 0 0 := mBig_of (by decide) rfl rfl rfl rfl (t_R_priceAt N d xs c r a1 p hp)
/-! ColdHoldsModel.shippedAt(I)I, from (('r', 115), 'i') -/
def R_shippedAt (N : Nat) (r : St) (x1 : Int32) : Option (Int32) :=
  (if 0 ≤ x1 then (ld (gA r 39) x1).bind fun y2 => some y2 else some 0)
set_option maxHeartbeats 8000000 in
set_option maxRecDepth 100000 in
theorem t_R_shippedAt (N d : Nat) (xs : List Int32) (c : St) (r : St) (x1 : Int32) : Ok (mBig (mRoL xs) (d)) (mRoL xs) 1 mK230 (fun p : Int32 => (some (.int p), HP c r)) (R_shippedAt N r x1) 0 [some (.ref 115), some (.int x1)] [] (HP c r) := by
  unfold R_shippedAt
  refine Ok_blk 2 (pc2 := (if 0 ≤ x1 then 8 else 4)) (lo2 := [some (.ref 115), some (.int x1)]) (st2 := []) rfl ?_
  refine Ok_if (fun h1 => ?_) (fun h1 => ?_)
  · refine Ok_blk 3 (pc2 := 13) (lo2 := [some (.ref 115), some (.int x1)]) (st2 := [.int x1, .ref 157]) rfl ?_
    refine Ok_ld (l := (gA r 39)) rfl rfl (fun y2 hy2 => ?_)
    exact Ok_ret rfl rfl rfl
  · refine Ok_blk 2 (pc2 := 14) (lo2 := [some (.ref 115), some (.int x1)]) (st2 := [.int 0]) rfl ?_
    exact Ok_ret rfl rfl rfl
set_option maxHeartbeats 8000000 in
set_option maxRecDepth 100000 in
theorem tm_R_shippedAt (N d : Nat) (xs : List Int32) (c r : St) (a1 : Int32) (p : Int32) (hp : R_shippedAt N r a1 = some p) : mBig (mRoL xs) (d + 1) 230 [.ref 115, .int a1] (HP c r) (some (.int p)) (HP c r) 0 0 := mBig_of (by decide) rfl rfl rfl rfl (t_R_shippedAt N d xs c r a1 p hp)
/-! ColdHoldsModel.goWeeks()V, from (('r', 115),) -/
def R_goWeeks_p98 (N : Nat) (kb2 : St → Int32 → Option (St)) (kb54 : St → Int32 → Int32 → Option (St)) (r : St) (x1 : Int32) (x3 : Int32) (s1 : Int32) (s2 : Int32) (s3 : Int32) : Option (St) :=
  (sto (gA r 39) s1 (s2 + s3)).bind fun w11 => kb54 (sA r 39 w11) x1 (x3 + 1)
def R_goWeeks_p54b (N : Nat) (kb2 : St → Int32 → Option (St)) (kb54 : St → Int32 → Int32 → Option (St)) (r : St) (x1 : Int32) (x3 : Int32) : Option (St) :=
  (if (gI r 19) ≤ x3 then kb2 r (x1 + 1) else (ld (gA r 39) x1).bind fun y7 => (R_priceAt N r (x1 - (gI r 17))).bind fun p8 => (ld (gA r 21) x3).bind fun y9 => (if p8 < y9 then R_goWeeks_p98 N kb2 kb54 r x1 x3 x1 y7 0 else (ld (gA r 20) x3).bind fun y12 => R_goWeeks_p98 N kb2 kb54 r x1 x3 x1 y7 y12))
def R_goWeeks_p54 (N : Nat) (kb2 : St → Int32 → Option (St)) : Nat → St → Int32 → Int32 → Option (St)
  | 0 => fun _ _ _ => none
  | n + 1 => R_goWeeks_p54b N kb2 (R_goWeeks_p54 N kb2 n)
def R_goWeeks_p44 (N : Nat) (kb2 : St → Int32 → Option (St)) (r : St) (x1 : Int32) (s1 : Int32) (s2 : Int32) : Option (St) :=
  (sto (gA r 38) s1 s2).bind fun w4 => (sto (gA (sA r 38 w4) 39) x1 0).bind fun w5 => R_goWeeks_p54 N kb2 N (sA (sA r 38 w4) 39 w5) x1 0
def R_goWeeks_p2b (N : Nat) (kb2 : St → Int32 → Option (St)) (r : St) (x1 : Int32) : Option (St) :=
  (if 200 ≤ x1 then some r else (R_shippedAt N r (x1 - (gI r 18))).bind fun p2 => (if 0 ≤ ((gI r 15) - ((gI r 16) * p2)) then R_goWeeks_p44 N kb2 r x1 x1 ((gI r 15) - ((gI r 16) * p2)) else R_goWeeks_p44 N kb2 r x1 x1 0))
def R_goWeeks_p2 (N : Nat) : Nat → St → Int32 → Option (St)
  | 0 => fun _ _ => none
  | n + 1 => R_goWeeks_p2b N (R_goWeeks_p2 N n)
def R_goWeeks (N : Nat) (r : St) : Option (St) :=
  R_goWeeks_p2 N N r 0
set_option maxHeartbeats 8000000 in
set_option maxRecDepth 100000 in
theorem t_R_goWeeks_p98 (N d : Nat) (xs : List Int32) (c : St) (kb2 : St → Int32 → Option (St)) (hb2 : ∀ (r : St) (x1 : Int32), Ok (mBig (mRoL xs) (d + 1)) (mRoL xs) 0 mK231 (fun p : St => (none, HP c p)) (kb2 r x1) 2 [some (.ref 115), some (.int x1), none, none] [] (HP c r)) (kb54 : St → Int32 → Int32 → Option (St)) (hb54 : ∀ (r : St) (x1 : Int32) (x3 : Int32), Ok (mBig (mRoL xs) (d + 1)) (mRoL xs) 0 mK231 (fun p : St => (none, HP c p)) (kb54 r x1 x3) 54 [some (.ref 115), some (.int x1), none, some (.int x3)] [] (HP c r)) (r : St) (x1 : Int32) (x3 : Int32) (s1 : Int32) (s2 : Int32) (s3 : Int32) : Ok (mBig (mRoL xs) (d + 1)) (mRoL xs) 0 mK231 (fun p : St => (none, HP c p)) (R_goWeeks_p98 N kb2 kb54 r x1 x3 s1 s2 s3) 98 [some (.ref 115), some (.int x1), none, some (.int x3)] [.int s3, .int s2, .int s1, .ref 157] (HP c r) := by
  unfold R_goWeeks_p98
  refine Ok_blk 1 (pc2 := 99) (lo2 := [some (.ref 115), some (.int x1), none, some (.int x3)]) (st2 := [.int (s2 + s3), .int s1, .ref 157]) rfl ?_
  refine Ok_st (l := (gA r 39)) (hn := fun l' => HP c (sA r 39 l')) rfl rfl (fun l' => sa_157 _ _ l') (fun w11 hw11 => ?_)
  refine Ok_blk 2 (pc2 := 54) (lo2 := [some (.ref 115), some (.int x1), none, some (.int (x3 + 1))]) (st2 := []) rfl ?_
  refine Ok_drop (lo0 := [some (.ref 115), some (.int x1), none, some (.int (x3 + 1))]) ⟨Or.inr rfl, Or.inr rfl, Or.inl rfl, Or.inr rfl, trivial⟩ ?_
  exact hb54 (sA r 39 w11) x1 (x3 + 1)
set_option maxHeartbeats 8000000 in
set_option maxRecDepth 100000 in
theorem t_R_goWeeks_p54b (N d : Nat) (xs : List Int32) (c : St) (kb2 : St → Int32 → Option (St)) (hb2 : ∀ (r : St) (x1 : Int32), Ok (mBig (mRoL xs) (d + 1)) (mRoL xs) 0 mK231 (fun p : St => (none, HP c p)) (kb2 r x1) 2 [some (.ref 115), some (.int x1), none, none] [] (HP c r)) (kb54 : St → Int32 → Int32 → Option (St)) (hb54 : ∀ (r : St) (x1 : Int32) (x3 : Int32), Ok (mBig (mRoL xs) (d + 1)) (mRoL xs) 0 mK231 (fun p : St => (none, HP c p)) (kb54 r x1 x3) 54 [some (.ref 115), some (.int x1), none, some (.int x3)] [] (HP c r)) (r : St) (x1 : Int32) (x3 : Int32) : Ok (mBig (mRoL xs) (d + 1)) (mRoL xs) 0 mK231 (fun p : St => (none, HP c p)) (R_goWeeks_p54b N kb2 kb54 r x1 x3) 54 [some (.ref 115), some (.int x1), none, some (.int x3)] [] (HP c r) := by
  unfold R_goWeeks_p54b
  refine Ok_blk 4 (pc2 := (if (gI r 19) ≤ x3 then 106 else 62)) (lo2 := [some (.ref 115), some (.int x1), none, some (.int x3)]) (st2 := []) rfl ?_
  refine Ok_if (fun h6 => ?_) (fun h6 => ?_)
  · refine Ok_blk 2 (pc2 := 2) (lo2 := [some (.ref 115), some (.int (x1 + 1)), none, some (.int x3)]) (st2 := []) rfl ?_
    refine Ok_drop (lo0 := [some (.ref 115), some (.int (x1 + 1)), none, none]) ⟨Or.inr rfl, Or.inr rfl, Or.inl rfl, Or.inl rfl, trivial⟩ ?_
    exact hb2 r (x1 + 1)
  · refine Ok_blk 4 (pc2 := 68) (lo2 := [some (.ref 115), some (.int x1), none, some (.int x3)]) (st2 := [.int x1, .ref 157, .int x1, .ref 157]) rfl ?_
    refine Ok_ld (l := (gA r 39)) rfl rfl (fun y7 hy7 => ?_)
    refine Ok_blk 5 (pc2 := 76) (lo2 := [some (.ref 115), some (.int x1), none, some (.int x3)]) (st2 := [.int (x1 - (gI r 17)), .ref 115, .int y7, .int x1, .ref 157]) rfl ?_
    refine Ok_call (y := 229) (as := [.ref 115, .int (x1 - (gI r 17))]) (rest := [.int y7, .int x1, .ref 157]) (w := fun p8 => some (.int p8)) (h1 := fun p8 => HP c r) rfl rfl (fun x hx => tm_R_priceAt N d xs c r (x1 - (gI r 17)) x hx) (fun p8 hp8 => ?_)
    refine Ok_blk 3 (pc2 := 84) (lo2 := [some (.ref 115), some (.int x1), none, some (.int x3)]) (st2 := [.int x3, .ref 137, .int p8, .int y7, .int x1, .ref 157]) rfl ?_
    refine Ok_ld (l := (gA r 21)) rfl rfl (fun y9 hy9 => ?_)
    refine Ok_blk 1 (pc2 := (if p8 < y9 then 97 else 88)) (lo2 := [some (.ref 115), some (.int x1), none, some (.int x3)]) (st2 := [.int y7, .int x1, .ref 157]) rfl ?_
    refine Ok_if (fun h10 => ?_) (fun h10 => ?_)
    · refine Ok_blk 1 (pc2 := 98) (lo2 := [some (.ref 115), some (.int x1), none, some (.int x3)]) (st2 := [.int 0, .int y7, .int x1, .ref 157]) rfl ?_
      refine Ok_drop (lo0 := [some (.ref 115), some (.int x1), none, some (.int x3)]) ⟨Or.inr rfl, Or.inr rfl, Or.inl rfl, Or.inr rfl, trivial⟩ ?_
      exact t_R_goWeeks_p98 N d xs c kb2 hb2 kb54 hb54 r x1 x3 x1 y7 0
    · refine Ok_blk 3 (pc2 := 93) (lo2 := [some (.ref 115), some (.int x1), none, some (.int x3)]) (st2 := [.int x3, .ref 136, .int y7, .int x1, .ref 157]) rfl ?_
      refine Ok_ld (l := (gA r 20)) rfl rfl (fun y12 hy12 => ?_)
      refine Ok_blk 1 (pc2 := 98) (lo2 := [some (.ref 115), some (.int x1), none, some (.int x3)]) (st2 := [.int y12, .int y7, .int x1, .ref 157]) rfl ?_
      refine Ok_drop (lo0 := [some (.ref 115), some (.int x1), none, some (.int x3)]) ⟨Or.inr rfl, Or.inr rfl, Or.inl rfl, Or.inr rfl, trivial⟩ ?_
      exact t_R_goWeeks_p98 N d xs c kb2 hb2 kb54 hb54 r x1 x3 x1 y7 y12
set_option maxHeartbeats 8000000 in
set_option maxRecDepth 100000 in
theorem t_R_goWeeks_p54 (N d : Nat) (xs : List Int32) (c : St) (kb2 : St → Int32 → Option (St)) (hb2 : ∀ (r : St) (x1 : Int32), Ok (mBig (mRoL xs) (d + 1)) (mRoL xs) 0 mK231 (fun p : St => (none, HP c p)) (kb2 r x1) 2 [some (.ref 115), some (.int x1), none, none] [] (HP c r)) : ∀ (n : Nat) (r : St) (x1 : Int32) (x3 : Int32), Ok (mBig (mRoL xs) (d + 1)) (mRoL xs) 0 mK231 (fun p : St => (none, HP c p)) (R_goWeeks_p54 N kb2 n r x1 x3) 54 [some (.ref 115), some (.int x1), none, some (.int x3)] [] (HP c r) := by
  intro n
  induction n with
  | zero => intro r x1 x3; exact Ok_none
  | succ n ih => intro r x1 x3; exact t_R_goWeeks_p54b N d xs c kb2 hb2 (R_goWeeks_p54 N kb2 n) ih r x1 x3
set_option maxHeartbeats 8000000 in
set_option maxRecDepth 100000 in
theorem t_R_goWeeks_p44 (N d : Nat) (xs : List Int32) (c : St) (kb2 : St → Int32 → Option (St)) (hb2 : ∀ (r : St) (x1 : Int32), Ok (mBig (mRoL xs) (d + 1)) (mRoL xs) 0 mK231 (fun p : St => (none, HP c p)) (kb2 r x1) 2 [some (.ref 115), some (.int x1), none, none] [] (HP c r)) (r : St) (x1 : Int32) (s1 : Int32) (s2 : Int32) : Ok (mBig (mRoL xs) (d + 1)) (mRoL xs) 0 mK231 (fun p : St => (none, HP c p)) (R_goWeeks_p44 N kb2 r x1 s1 s2) 44 [some (.ref 115), some (.int x1), none, none] [.int s2, .int s1, .ref 156] (HP c r) := by
  unfold R_goWeeks_p44
  refine Ok_st (l := (gA r 38)) (hn := fun l' => HP c (sA r 38 l')) rfl rfl (fun l' => sa_156 _ _ l') (fun w4 hw4 => ?_)
  refine Ok_blk 4 (pc2 := 51) (lo2 := [some (.ref 115), some (.int x1), none, none]) (st2 := [.int 0, .int x1, .ref 157]) rfl ?_
  refine Ok_st (l := (gA (sA r 38 w4) 39)) (hn := fun l' => HP c (sA (sA r 38 w4) 39 l')) rfl rfl (fun l' => sa_157 _ _ l') (fun w5 hw5 => ?_)
  refine Ok_blk 2 (pc2 := 54) (lo2 := [some (.ref 115), some (.int x1), none, some (.int 0)]) (st2 := []) rfl ?_
  refine Ok_drop (lo0 := [some (.ref 115), some (.int x1), none, some (.int 0)]) ⟨Or.inr rfl, Or.inr rfl, Or.inl rfl, Or.inr rfl, trivial⟩ ?_
  exact t_R_goWeeks_p54 N d xs c kb2 hb2 N (sA (sA r 38 w4) 39 w5) x1 0
set_option maxHeartbeats 8000000 in
set_option maxRecDepth 100000 in
theorem t_R_goWeeks_p2b (N d : Nat) (xs : List Int32) (c : St) (kb2 : St → Int32 → Option (St)) (hb2 : ∀ (r : St) (x1 : Int32), Ok (mBig (mRoL xs) (d + 1)) (mRoL xs) 0 mK231 (fun p : St => (none, HP c p)) (kb2 r x1) 2 [some (.ref 115), some (.int x1), none, none] [] (HP c r)) (r : St) (x1 : Int32) : Ok (mBig (mRoL xs) (d + 1)) (mRoL xs) 0 mK231 (fun p : St => (none, HP c p)) (R_goWeeks_p2b N kb2 r x1) 2 [some (.ref 115), some (.int x1), none, none] [] (HP c r) := by
  unfold R_goWeeks_p2b
  refine Ok_blk 3 (pc2 := (if 200 ≤ x1 then 112 else 9)) (lo2 := [some (.ref 115), some (.int x1), none, none]) (st2 := []) rfl ?_
  refine Ok_if (fun h1 => ?_) (fun h1 => ?_)
  · exact Ok_ret rfl rfl rfl
  · refine Ok_blk 9 (pc2 := 24) (lo2 := [some (.ref 115), some (.int x1), none, none]) (st2 := [.int (x1 - (gI r 18)), .ref 115, .int (gI r 16), .int (gI r 15)]) rfl ?_
    refine Ok_call (y := 230) (as := [.ref 115, .int (x1 - (gI r 18))]) (rest := [.int (gI r 16), .int (gI r 15)]) (w := fun p2 => some (.int p2)) (h1 := fun p2 => HP c r) rfl rfl (fun x hx => tm_R_shippedAt N d xs c r (x1 - (gI r 18)) x hx) (fun p2 hp2 => ?_)
    refine Ok_blk 8 (pc2 := (if 0 ≤ ((gI r 15) - ((gI r 16) * p2)) then 43 else 39)) (lo2 := [some (.ref 115), some (.int x1), some (.int ((gI r 15) - ((gI r 16) * p2))), none]) (st2 := [.int x1, .ref 156]) rfl ?_
    refine Ok_if (fun h3 => ?_) (fun h3 => ?_)
    · refine Ok_blk 1 (pc2 := 44) (lo2 := [some (.ref 115), some (.int x1), some (.int ((gI r 15) - ((gI r 16) * p2))), none]) (st2 := [.int ((gI r 15) - ((gI r 16) * p2)), .int x1, .ref 156]) rfl ?_
      refine Ok_drop (lo0 := [some (.ref 115), some (.int x1), none, none]) ⟨Or.inr rfl, Or.inr rfl, Or.inl rfl, Or.inl rfl, trivial⟩ ?_
      exact t_R_goWeeks_p44 N d xs c kb2 hb2 r x1 x1 ((gI r 15) - ((gI r 16) * p2))
    · refine Ok_blk 2 (pc2 := 44) (lo2 := [some (.ref 115), some (.int x1), some (.int ((gI r 15) - ((gI r 16) * p2))), none]) (st2 := [.int 0, .int x1, .ref 156]) rfl ?_
      refine Ok_drop (lo0 := [some (.ref 115), some (.int x1), none, none]) ⟨Or.inr rfl, Or.inr rfl, Or.inl rfl, Or.inl rfl, trivial⟩ ?_
      exact t_R_goWeeks_p44 N d xs c kb2 hb2 r x1 x1 0
set_option maxHeartbeats 8000000 in
set_option maxRecDepth 100000 in
theorem t_R_goWeeks_p2 (N d : Nat) (xs : List Int32) (c : St) : ∀ (n : Nat) (r : St) (x1 : Int32), Ok (mBig (mRoL xs) (d + 1)) (mRoL xs) 0 mK231 (fun p : St => (none, HP c p)) (R_goWeeks_p2 N n r x1) 2 [some (.ref 115), some (.int x1), none, none] [] (HP c r) := by
  intro n
  induction n with
  | zero => intro r x1; exact Ok_none
  | succ n ih => intro r x1; exact t_R_goWeeks_p2b N d xs c (R_goWeeks_p2 N n) ih r x1
set_option maxHeartbeats 8000000 in
set_option maxRecDepth 100000 in
theorem t_R_goWeeks (N d : Nat) (xs : List Int32) (c : St) (r : St) : Ok (mBig (mRoL xs) (d + 1)) (mRoL xs) 0 mK231 (fun p : St => (none, HP c p)) (R_goWeeks N r) 0 [some (.ref 115), none, none, none] [] (HP c r) := by
  unfold R_goWeeks
  refine Ok_blk 2 (pc2 := 2) (lo2 := [some (.ref 115), some (.int 0), none, none]) (st2 := []) rfl ?_
  refine Ok_drop (lo0 := [some (.ref 115), some (.int 0), none, none]) ⟨Or.inr rfl, Or.inr rfl, Or.inl rfl, Or.inl rfl, trivial⟩ ?_
  exact t_R_goWeeks_p2 N d xs c N r 0
set_option maxHeartbeats 8000000 in
set_option maxRecDepth 100000 in
theorem tm_R_goWeeks (N d : Nat) (xs : List Int32) (c r : St) (p : St) (hp : R_goWeeks N r = some p) : mBig (mRoL xs) (d + 2) 231 [.ref 115] (HP c r) (none) (HP c p) 0 0 := mBig_of (by decide) rfl rfl rfl rfl (t_R_goWeeks N d xs c r p hp)
/-! ColdHoldsModel.week(II)I, from (('r', 115), 'i', 'i') -/
def R_week_p20 (N : Nat) (r : St) : Option (Int32 × St) :=
  some ((-102), r)
def R_week_p120 (N : Nat) (kb35 : St → Int32 → Int32 → Int32 → Int32 → Int32 → Option (Int32 × St)) (r : St) (x1 : Int32) (x2 : Int32) (x3 : Int32) (x5 : Int32) (s0 : Int32) (s1 : Int32) : Option (Int32 × St) :=
  kb35 r x1 x2 x3 (s0 + s1) (x5 + 1)
def R_week_p112 (N : Nat) (kb35 : St → Int32 → Int32 → Int32 → Int32 → Int32 → Option (Int32 × St)) (r : St) (x1 : Int32) (x2 : Int32) (x3 : Int32) (x5 : Int32) (s0 : Int32) (s1 : Int32) (s2 : Int32) : Option (Int32 × St) :=
  (if ¬ s1 = s2 then R_week_p120 N kb35 r x1 x2 x3 x5 s0 1 else R_week_p120 N kb35 r x1 x2 x3 x5 s0 0)
def R_week_p85 (N : Nat) (kb35 : St → Int32 → Int32 → Int32 → Int32 → Int32 → Option (Int32 × St)) (r : St) (x1 : Int32) (x2 : Int32) (x4 : Int32) (x5 : Int32) (x6 : Int32) (s0 : Int32) (s1 : Int32) : Option (Int32 × St) :=
  (ld (gA r 38) x1).bind fun y16 => (ld (gA r 21) x5).bind fun y17 => (if y16 < y17 then R_week_p112 N kb35 r x1 x2 (s0 ||| s1) x5 x4 x6 0 else R_week_p112 N kb35 r x1 x2 (s0 ||| s1) x5 x4 x6 1)
def R_week_p69 (N : Nat) (kb35 : St → Int32 → Int32 → Int32 → Int32 → Int32 → Option (Int32 × St)) (r : St) (x1 : Int32) (x2 : Int32) (x3 : Int32) (x4 : Int32) (x5 : Int32) (s0 : Int32) : Option (Int32 × St) :=
  (if s0 = 0 then R_week_p85 N kb35 r x1 x2 x4 x5 s0 x3 0 else R_week_p85 N kb35 r x1 x2 x4 x5 s0 x3 (1 <<< (x5 &&& 31)))
def R_week_p35b (N : Nat) (kb35 : St → Int32 → Int32 → Int32 → Int32 → Int32 → Option (Int32 × St)) (r : St) (x1 : Int32) (x2 : Int32) (x3 : Int32) (x4 : Int32) (x5 : Int32) : Option (Int32 × St) :=
  (if (gI r 19) ≤ x5 then (if ¬ x2 = 0 then (if ¬ x2 = 1 then (if ¬ x2 = 2 then some (x3, r) else some (x4, r)) else (ld (gA r 39) x1).bind fun y10 => some (y10, r)) else (ld (gA r 38) x1).bind fun y11 => some (y11, r)) else (R_priceAt N r (x1 - (gI r 17))).bind fun p12 => (ld (gA r 21) x5).bind fun y13 => (if p12 < y13 then R_week_p69 N kb35 r x1 x2 x3 x4 x5 0 else R_week_p69 N kb35 r x1 x2 x3 x4 x5 1))
def R_week_p35 (N : Nat) : Nat → St → Int32 → Int32 → Int32 → Int32 → Int32 → Option (Int32 × St)
  | 0 => fun _ _ _ _ _ _ => none
  | n + 1 => R_week_p35b N (R_week_p35 N n)
def R_week (N : Nat) (r : St) (x1 : Int32) (x2 : Int32) : Option (Int32 × St) :=
  (R_in N x1 0 199).bind fun p1 => (if p1 = 0 then R_week_p20 N r else (R_in N x2 0 3).bind fun p3 => (if ¬ p3 = 0 then (R_goWeeks N r).bind fun p5 => R_week_p35 N N p5 x1 x2 0 0 0 else R_week_p20 N r))
set_option maxHeartbeats 8000000 in
set_option maxRecDepth 100000 in
theorem t_R_week_p20 (N d : Nat) (xs : List Int32) (c : St) (r : St) : Ok (mBig (mRoL xs) (d + 2)) (mRoL xs) 1 mK232 (fun p : Int32 × St => (some (.int p.1), HP c p.2)) (R_week_p20 N r) 20 [none, none, none, none, none, none, none] [] (HP c r) := by
  unfold R_week_p20
  refine Ok_blk 1 (pc2 := 22) (lo2 := [none, none, none, none, none, none, none]) (st2 := [.int (-102)]) rfl ?_
  exact Ok_ret rfl rfl rfl
set_option maxHeartbeats 8000000 in
set_option maxRecDepth 100000 in
theorem t_R_week_p120 (N d : Nat) (xs : List Int32) (c : St) (kb35 : St → Int32 → Int32 → Int32 → Int32 → Int32 → Option (Int32 × St)) (hb35 : ∀ (r : St) (x1 : Int32) (x2 : Int32) (x3 : Int32) (x4 : Int32) (x5 : Int32), Ok (mBig (mRoL xs) (d + 2)) (mRoL xs) 1 mK232 (fun p : Int32 × St => (some (.int p.1), HP c p.2)) (kb35 r x1 x2 x3 x4 x5) 35 [some (.ref 115), some (.int x1), some (.int x2), some (.int x3), some (.int x4), some (.int x5), none] [] (HP c r)) (r : St) (x1 : Int32) (x2 : Int32) (x3 : Int32) (x5 : Int32) (s0 : Int32) (s1 : Int32) : Ok (mBig (mRoL xs) (d + 2)) (mRoL xs) 1 mK232 (fun p : Int32 × St => (some (.int p.1), HP c p.2)) (R_week_p120 N kb35 r x1 x2 x3 x5 s0 s1) 120 [some (.ref 115), some (.int x1), some (.int x2), some (.int x3), none, some (.int x5), none] [.int s1, .int s0] (HP c r) := by
  unfold R_week_p120
  refine Ok_blk 4 (pc2 := 35) (lo2 := [some (.ref 115), some (.int x1), some (.int x2), some (.int x3), some (.int (s0 + s1)), some (.int (x5 + 1)), none]) (st2 := []) rfl ?_
  refine Ok_drop (lo0 := [some (.ref 115), some (.int x1), some (.int x2), some (.int x3), some (.int (s0 + s1)), some (.int (x5 + 1)), none]) ⟨Or.inr rfl, Or.inr rfl, Or.inr rfl, Or.inr rfl, Or.inr rfl, Or.inr rfl, Or.inl rfl, trivial⟩ ?_
  exact hb35 r x1 x2 x3 (s0 + s1) (x5 + 1)
set_option maxHeartbeats 8000000 in
set_option maxRecDepth 100000 in
theorem t_R_week_p112 (N d : Nat) (xs : List Int32) (c : St) (kb35 : St → Int32 → Int32 → Int32 → Int32 → Int32 → Option (Int32 × St)) (hb35 : ∀ (r : St) (x1 : Int32) (x2 : Int32) (x3 : Int32) (x4 : Int32) (x5 : Int32), Ok (mBig (mRoL xs) (d + 2)) (mRoL xs) 1 mK232 (fun p : Int32 × St => (some (.int p.1), HP c p.2)) (kb35 r x1 x2 x3 x4 x5) 35 [some (.ref 115), some (.int x1), some (.int x2), some (.int x3), some (.int x4), some (.int x5), none] [] (HP c r)) (r : St) (x1 : Int32) (x2 : Int32) (x3 : Int32) (x5 : Int32) (s0 : Int32) (s1 : Int32) (s2 : Int32) : Ok (mBig (mRoL xs) (d + 2)) (mRoL xs) 1 mK232 (fun p : Int32 × St => (some (.int p.1), HP c p.2)) (R_week_p112 N kb35 r x1 x2 x3 x5 s0 s1 s2) 112 [some (.ref 115), some (.int x1), some (.int x2), some (.int x3), none, some (.int x5), none] [.int s2, .int s1, .int s0] (HP c r) := by
  unfold R_week_p112
  refine Ok_blk 1 (pc2 := (if ¬ s1 = s2 then 119 else 115)) (lo2 := [some (.ref 115), some (.int x1), some (.int x2), some (.int x3), none, some (.int x5), none]) (st2 := [.int s0]) rfl ?_
  refine Ok_if (fun h19 => ?_) (fun h19 => ?_)
  · refine Ok_blk 1 (pc2 := 120) (lo2 := [some (.ref 115), some (.int x1), some (.int x2), some (.int x3), none, some (.int x5), none]) (st2 := [.int 1, .int s0]) rfl ?_
    refine Ok_drop (lo0 := [some (.ref 115), some (.int x1), some (.int x2), some (.int x3), none, some (.int x5), none]) ⟨Or.inr rfl, Or.inr rfl, Or.inr rfl, Or.inr rfl, Or.inl rfl, Or.inr rfl, Or.inl rfl, trivial⟩ ?_
    exact t_R_week_p120 N d xs c kb35 hb35 r x1 x2 x3 x5 s0 1
  · refine Ok_blk 2 (pc2 := 120) (lo2 := [some (.ref 115), some (.int x1), some (.int x2), some (.int x3), none, some (.int x5), none]) (st2 := [.int 0, .int s0]) rfl ?_
    refine Ok_drop (lo0 := [some (.ref 115), some (.int x1), some (.int x2), some (.int x3), none, some (.int x5), none]) ⟨Or.inr rfl, Or.inr rfl, Or.inr rfl, Or.inr rfl, Or.inl rfl, Or.inr rfl, Or.inl rfl, trivial⟩ ?_
    exact t_R_week_p120 N d xs c kb35 hb35 r x1 x2 x3 x5 s0 0
set_option maxHeartbeats 8000000 in
set_option maxRecDepth 100000 in
theorem t_R_week_p85 (N d : Nat) (xs : List Int32) (c : St) (kb35 : St → Int32 → Int32 → Int32 → Int32 → Int32 → Option (Int32 × St)) (hb35 : ∀ (r : St) (x1 : Int32) (x2 : Int32) (x3 : Int32) (x4 : Int32) (x5 : Int32), Ok (mBig (mRoL xs) (d + 2)) (mRoL xs) 1 mK232 (fun p : Int32 × St => (some (.int p.1), HP c p.2)) (kb35 r x1 x2 x3 x4 x5) 35 [some (.ref 115), some (.int x1), some (.int x2), some (.int x3), some (.int x4), some (.int x5), none] [] (HP c r)) (r : St) (x1 : Int32) (x2 : Int32) (x4 : Int32) (x5 : Int32) (x6 : Int32) (s0 : Int32) (s1 : Int32) : Ok (mBig (mRoL xs) (d + 2)) (mRoL xs) 1 mK232 (fun p : Int32 × St => (some (.int p.1), HP c p.2)) (R_week_p85 N kb35 r x1 x2 x4 x5 x6 s0 s1) 85 [some (.ref 115), some (.int x1), some (.int x2), none, some (.int x4), some (.int x5), some (.int x6)] [.int s1, .int s0] (HP c r) := by
  unfold R_week_p85
  refine Ok_blk 7 (pc2 := 96) (lo2 := [some (.ref 115), some (.int x1), some (.int x2), some (.int (s0 ||| s1)), some (.int x4), some (.int x5), some (.int x6)]) (st2 := [.int x1, .ref 156, .int x6, .int x4]) rfl ?_
  refine Ok_ld (l := (gA r 38)) rfl rfl (fun y16 hy16 => ?_)
  refine Ok_blk 3 (pc2 := 103) (lo2 := [some (.ref 115), some (.int x1), some (.int x2), some (.int (s0 ||| s1)), some (.int x4), some (.int x5), some (.int x6)]) (st2 := [.int x5, .ref 137, .int y16, .int x6, .int x4]) rfl ?_
  refine Ok_ld (l := (gA r 21)) rfl rfl (fun y17 hy17 => ?_)
  refine Ok_blk 1 (pc2 := (if y16 < y17 then 111 else 107)) (lo2 := [some (.ref 115), some (.int x1), some (.int x2), some (.int (s0 ||| s1)), some (.int x4), some (.int x5), some (.int x6)]) (st2 := [.int x6, .int x4]) rfl ?_
  refine Ok_if (fun h18 => ?_) (fun h18 => ?_)
  · refine Ok_blk 1 (pc2 := 112) (lo2 := [some (.ref 115), some (.int x1), some (.int x2), some (.int (s0 ||| s1)), some (.int x4), some (.int x5), some (.int x6)]) (st2 := [.int 0, .int x6, .int x4]) rfl ?_
    refine Ok_drop (lo0 := [some (.ref 115), some (.int x1), some (.int x2), some (.int (s0 ||| s1)), none, some (.int x5), none]) ⟨Or.inr rfl, Or.inr rfl, Or.inr rfl, Or.inr rfl, Or.inl rfl, Or.inr rfl, Or.inl rfl, trivial⟩ ?_
    exact t_R_week_p112 N d xs c kb35 hb35 r x1 x2 (s0 ||| s1) x5 x4 x6 0
  · refine Ok_blk 2 (pc2 := 112) (lo2 := [some (.ref 115), some (.int x1), some (.int x2), some (.int (s0 ||| s1)), some (.int x4), some (.int x5), some (.int x6)]) (st2 := [.int 1, .int x6, .int x4]) rfl ?_
    refine Ok_drop (lo0 := [some (.ref 115), some (.int x1), some (.int x2), some (.int (s0 ||| s1)), none, some (.int x5), none]) ⟨Or.inr rfl, Or.inr rfl, Or.inr rfl, Or.inr rfl, Or.inl rfl, Or.inr rfl, Or.inl rfl, trivial⟩ ?_
    exact t_R_week_p112 N d xs c kb35 hb35 r x1 x2 (s0 ||| s1) x5 x4 x6 1
set_option maxHeartbeats 8000000 in
set_option maxRecDepth 100000 in
theorem t_R_week_p69 (N d : Nat) (xs : List Int32) (c : St) (kb35 : St → Int32 → Int32 → Int32 → Int32 → Int32 → Option (Int32 × St)) (hb35 : ∀ (r : St) (x1 : Int32) (x2 : Int32) (x3 : Int32) (x4 : Int32) (x5 : Int32), Ok (mBig (mRoL xs) (d + 2)) (mRoL xs) 1 mK232 (fun p : Int32 × St => (some (.int p.1), HP c p.2)) (kb35 r x1 x2 x3 x4 x5) 35 [some (.ref 115), some (.int x1), some (.int x2), some (.int x3), some (.int x4), some (.int x5), none] [] (HP c r)) (r : St) (x1 : Int32) (x2 : Int32) (x3 : Int32) (x4 : Int32) (x5 : Int32) (s0 : Int32) : Ok (mBig (mRoL xs) (d + 2)) (mRoL xs) 1 mK232 (fun p : Int32 × St => (some (.int p.1), HP c p.2)) (R_week_p69 N kb35 r x1 x2 x3 x4 x5 s0) 69 [some (.ref 115), some (.int x1), some (.int x2), some (.int x3), some (.int x4), some (.int x5), none] [.int s0] (HP c r) := by
  unfold R_week_p69
  refine Ok_blk 4 (pc2 := (if s0 = 0 then 84 else 77)) (lo2 := [some (.ref 115), some (.int x1), some (.int x2), some (.int x3), some (.int x4), some (.int x5), some (.int s0)]) (st2 := [.int x3]) rfl ?_
  refine Ok_if (fun h15 => ?_) (fun h15 => ?_)
  · refine Ok_blk 1 (pc2 := 85) (lo2 := [some (.ref 115), some (.int x1), some (.int x2), some (.int x3), some (.int x4), some (.int x5), some (.int s0)]) (st2 := [.int 0, .int x3]) rfl ?_
    refine Ok_drop (lo0 := [some (.ref 115), some (.int x1), some (.int x2), none, some (.int x4), some (.int x5), some (.int s0)]) ⟨Or.inr rfl, Or.inr rfl, Or.inr rfl, Or.inl rfl, Or.inr rfl, Or.inr rfl, Or.inr rfl, trivial⟩ ?_
    exact t_R_week_p85 N d xs c kb35 hb35 r x1 x2 x4 x5 s0 x3 0
  · refine Ok_blk 4 (pc2 := 85) (lo2 := [some (.ref 115), some (.int x1), some (.int x2), some (.int x3), some (.int x4), some (.int x5), some (.int s0)]) (st2 := [.int (1 <<< (x5 &&& 31)), .int x3]) rfl ?_
    refine Ok_drop (lo0 := [some (.ref 115), some (.int x1), some (.int x2), none, some (.int x4), some (.int x5), some (.int s0)]) ⟨Or.inr rfl, Or.inr rfl, Or.inr rfl, Or.inl rfl, Or.inr rfl, Or.inr rfl, Or.inr rfl, trivial⟩ ?_
    exact t_R_week_p85 N d xs c kb35 hb35 r x1 x2 x4 x5 s0 x3 (1 <<< (x5 &&& 31))
set_option maxHeartbeats 8000000 in
set_option maxRecDepth 100000 in
theorem t_R_week_p35b (N d : Nat) (xs : List Int32) (c : St) (kb35 : St → Int32 → Int32 → Int32 → Int32 → Int32 → Option (Int32 × St)) (hb35 : ∀ (r : St) (x1 : Int32) (x2 : Int32) (x3 : Int32) (x4 : Int32) (x5 : Int32), Ok (mBig (mRoL xs) (d + 2)) (mRoL xs) 1 mK232 (fun p : Int32 × St => (some (.int p.1), HP c p.2)) (kb35 r x1 x2 x3 x4 x5) 35 [some (.ref 115), some (.int x1), some (.int x2), some (.int x3), some (.int x4), some (.int x5), none] [] (HP c r)) (r : St) (x1 : Int32) (x2 : Int32) (x3 : Int32) (x4 : Int32) (x5 : Int32) : Ok (mBig (mRoL xs) (d + 2)) (mRoL xs) 1 mK232 (fun p : Int32 × St => (some (.int p.1), HP c p.2)) (R_week_p35b N kb35 r x1 x2 x3 x4 x5) 35 [some (.ref 115), some (.int x1), some (.int x2), some (.int x3), some (.int x4), some (.int x5), none] [] (HP c r) := by
  unfold R_week_p35b
  refine Ok_blk 4 (pc2 := (if (gI r 19) ≤ x5 then 129 else 44)) (lo2 := [some (.ref 115), some (.int x1), some (.int x2), some (.int x3), some (.int x4), some (.int x5), none]) (st2 := []) rfl ?_
  refine Ok_if (fun h6 => ?_) (fun h6 => ?_)
  · refine Ok_blk 2 (pc2 := (if ¬ x2 = 0 then 142 else 133)) (lo2 := [some (.ref 115), some (.int x1), some (.int x2), some (.int x3), some (.int x4), some (.int x5), none]) (st2 := []) rfl ?_
    refine Ok_if (fun h7 => ?_) (fun h7 => ?_)
    · refine Ok_blk 3 (pc2 := (if ¬ x2 = 1 then 156 else 147)) (lo2 := [some (.ref 115), some (.int x1), some (.int x2), some (.int x3), some (.int x4), some (.int x5), none]) (st2 := []) rfl ?_
      refine Ok_if (fun h8 => ?_) (fun h8 => ?_)
      · refine Ok_blk 3 (pc2 := (if ¬ x2 = 2 then 166 else 161)) (lo2 := [some (.ref 115), some (.int x1), some (.int x2), some (.int x3), some (.int x4), some (.int x5), none]) (st2 := []) rfl ?_
        refine Ok_if (fun h9 => ?_) (fun h9 => ?_)
        · refine Ok_blk 1 (pc2 := 167) (lo2 := [some (.ref 115), some (.int x1), some (.int x2), some (.int x3), some (.int x4), some (.int x5), none]) (st2 := [.int x3]) rfl ?_
          exact Ok_ret rfl rfl rfl
        · refine Ok_blk 2 (pc2 := 167) (lo2 := [some (.ref 115), some (.int x1), some (.int x2), some (.int x3), some (.int x4), some (.int x5), none]) (st2 := [.int x4]) rfl ?_
          exact Ok_ret rfl rfl rfl
      · refine Ok_blk 3 (pc2 := 152) (lo2 := [some (.ref 115), some (.int x1), some (.int x2), some (.int x3), some (.int x4), some (.int x5), none]) (st2 := [.int x1, .ref 157]) rfl ?_
        refine Ok_ld (l := (gA r 39)) rfl rfl (fun y10 hy10 => ?_)
        refine Ok_blk 1 (pc2 := 167) (lo2 := [some (.ref 115), some (.int x1), some (.int x2), some (.int x3), some (.int x4), some (.int x5), none]) (st2 := [.int y10]) rfl ?_
        exact Ok_ret rfl rfl rfl
    · refine Ok_blk 3 (pc2 := 138) (lo2 := [some (.ref 115), some (.int x1), some (.int x2), some (.int x3), some (.int x4), some (.int x5), none]) (st2 := [.int x1, .ref 156]) rfl ?_
      refine Ok_ld (l := (gA r 38)) rfl rfl (fun y11 hy11 => ?_)
      refine Ok_blk 1 (pc2 := 167) (lo2 := [some (.ref 115), some (.int x1), some (.int x2), some (.int x3), some (.int x4), some (.int x5), none]) (st2 := [.int y11]) rfl ?_
      exact Ok_ret rfl rfl rfl
  · refine Ok_blk 5 (pc2 := 51) (lo2 := [some (.ref 115), some (.int x1), some (.int x2), some (.int x3), some (.int x4), some (.int x5), none]) (st2 := [.int (x1 - (gI r 17)), .ref 115]) rfl ?_
    refine Ok_call (y := 229) (as := [.ref 115, .int (x1 - (gI r 17))]) (rest := []) (w := fun p12 => some (.int p12)) (h1 := fun p12 => HP c r) rfl rfl (fun x hx => tm_R_priceAt N (d + 1) xs c r (x1 - (gI r 17)) x hx) (fun p12 hp12 => ?_)
    refine Ok_blk 3 (pc2 := 60) (lo2 := [some (.ref 115), some (.int x1), some (.int x2), some (.int x3), some (.int x4), some (.int x5), none]) (st2 := [.int x5, .ref 137, .int p12]) rfl ?_
    refine Ok_ld (l := (gA r 21)) rfl rfl (fun y13 hy13 => ?_)
    refine Ok_blk 1 (pc2 := (if p12 < y13 then 68 else 64)) (lo2 := [some (.ref 115), some (.int x1), some (.int x2), some (.int x3), some (.int x4), some (.int x5), none]) (st2 := []) rfl ?_
    refine Ok_if (fun h14 => ?_) (fun h14 => ?_)
    · refine Ok_blk 1 (pc2 := 69) (lo2 := [some (.ref 115), some (.int x1), some (.int x2), some (.int x3), some (.int x4), some (.int x5), none]) (st2 := [.int 0]) rfl ?_
      refine Ok_drop (lo0 := [some (.ref 115), some (.int x1), some (.int x2), some (.int x3), some (.int x4), some (.int x5), none]) ⟨Or.inr rfl, Or.inr rfl, Or.inr rfl, Or.inr rfl, Or.inr rfl, Or.inr rfl, Or.inl rfl, trivial⟩ ?_
      exact t_R_week_p69 N d xs c kb35 hb35 r x1 x2 x3 x4 x5 0
    · refine Ok_blk 2 (pc2 := 69) (lo2 := [some (.ref 115), some (.int x1), some (.int x2), some (.int x3), some (.int x4), some (.int x5), none]) (st2 := [.int 1]) rfl ?_
      refine Ok_drop (lo0 := [some (.ref 115), some (.int x1), some (.int x2), some (.int x3), some (.int x4), some (.int x5), none]) ⟨Or.inr rfl, Or.inr rfl, Or.inr rfl, Or.inr rfl, Or.inr rfl, Or.inr rfl, Or.inl rfl, trivial⟩ ?_
      exact t_R_week_p69 N d xs c kb35 hb35 r x1 x2 x3 x4 x5 1
set_option maxHeartbeats 8000000 in
set_option maxRecDepth 100000 in
theorem t_R_week_p35 (N d : Nat) (xs : List Int32) (c : St) : ∀ (n : Nat) (r : St) (x1 : Int32) (x2 : Int32) (x3 : Int32) (x4 : Int32) (x5 : Int32), Ok (mBig (mRoL xs) (d + 2)) (mRoL xs) 1 mK232 (fun p : Int32 × St => (some (.int p.1), HP c p.2)) (R_week_p35 N n r x1 x2 x3 x4 x5) 35 [some (.ref 115), some (.int x1), some (.int x2), some (.int x3), some (.int x4), some (.int x5), none] [] (HP c r) := by
  intro n
  induction n with
  | zero => intro r x1 x2 x3 x4 x5; exact Ok_none
  | succ n ih => intro r x1 x2 x3 x4 x5; exact t_R_week_p35b N d xs c (R_week_p35 N n) ih r x1 x2 x3 x4 x5
set_option maxHeartbeats 8000000 in
set_option maxRecDepth 100000 in
theorem t_R_week (N d : Nat) (xs : List Int32) (c : St) (r : St) (x1 : Int32) (x2 : Int32) : Ok (mBig (mRoL xs) (d + 2)) (mRoL xs) 1 mK232 (fun p : Int32 × St => (some (.int p.1), HP c p.2)) (R_week N r x1 x2) 0 [some (.ref 115), some (.int x1), some (.int x2), none, none, none, none] [] (HP c r) := by
  unfold R_week
  refine Ok_blk 3 (pc2 := 5) (lo2 := [some (.ref 115), some (.int x1), some (.int x2), none, none, none, none]) (st2 := [.int 199, .int 0, .int x1]) rfl ?_
  refine Ok_call (y := 164) (as := [.int x1, .int 0, .int 199]) (rest := []) (w := fun p1 => some (.int p1)) (h1 := fun p1 => HP c r) rfl rfl (fun x hx => tm_R_in N (d + 1) xs c r x1 0 199 x hx) (fun p1 hp1 => ?_)
  refine Ok_blk 1 (pc2 := (if p1 = 0 then 20 else 11)) (lo2 := [some (.ref 115), some (.int x1), some (.int x2), none, none, none, none]) (st2 := []) rfl ?_
  refine Ok_if (fun h2 => ?_) (fun h2 => ?_)
  · refine Ok_drop (lo0 := [none, none, none, none, none, none, none]) ⟨Or.inl rfl, Or.inl rfl, Or.inl rfl, Or.inl rfl, Or.inl rfl, Or.inl rfl, Or.inl rfl, trivial⟩ ?_
    exact t_R_week_p20 N d xs c r
  · refine Ok_blk 3 (pc2 := 14) (lo2 := [some (.ref 115), some (.int x1), some (.int x2), none, none, none, none]) (st2 := [.int 3, .int 0, .int x2]) rfl ?_
    refine Ok_call (y := 164) (as := [.int x2, .int 0, .int 3]) (rest := []) (w := fun p3 => some (.int p3)) (h1 := fun p3 => HP c r) rfl rfl (fun x hx => tm_R_in N (d + 1) xs c r x2 0 3 x hx) (fun p3 hp3 => ?_)
    refine Ok_blk 1 (pc2 := (if ¬ p3 = 0 then 23 else 20)) (lo2 := [some (.ref 115), some (.int x1), some (.int x2), none, none, none, none]) (st2 := []) rfl ?_
    refine Ok_if (fun h4 => ?_) (fun h4 => ?_)
    · refine Ok_blk 1 (pc2 := 24) (lo2 := [some (.ref 115), some (.int x1), some (.int x2), none, none, none, none]) (st2 := [.ref 115]) rfl ?_
      refine Ok_call (y := 231) (as := [.ref 115]) (rest := []) (w := fun p5 => none) (h1 := fun p5 => HP c p5) rfl rfl (fun x hx => tm_R_goWeeks N d xs c r x hx) (fun p5 hp5 => ?_)
      refine Ok_blk 6 (pc2 := 35) (lo2 := [some (.ref 115), some (.int x1), some (.int x2), some (.int 0), some (.int 0), some (.int 0), none]) (st2 := []) rfl ?_
      refine Ok_drop (lo0 := [some (.ref 115), some (.int x1), some (.int x2), some (.int 0), some (.int 0), some (.int 0), none]) ⟨Or.inr rfl, Or.inr rfl, Or.inr rfl, Or.inr rfl, Or.inr rfl, Or.inr rfl, Or.inl rfl, trivial⟩ ?_
      exact t_R_week_p35 N d xs c N p5 x1 x2 0 0 0
    · refine Ok_drop (lo0 := [none, none, none, none, none, none, none]) ⟨Or.inl rfl, Or.inl rfl, Or.inl rfl, Or.inl rfl, Or.inl rfl, Or.inl rfl, Or.inl rfl, trivial⟩ ?_
      exact t_R_week_p20 N d xs c r
set_option maxHeartbeats 8000000 in
set_option maxRecDepth 100000 in
theorem tm_R_week (N d : Nat) (xs : List Int32) (c r : St) (a1 : Int32) (a2 : Int32) (p : Int32 × St) (hp : R_week N r a1 a2 = some p) : mBig (mRoL xs) (d + 3) 232 [.ref 115, .int a1, .int a2] (HP c r) (some (.int p.1)) (HP c p.2) 0 0 := mBig_of (by decide) rfl rfl rfl rfl (t_R_week N d xs c r a1 a2 p hp)
