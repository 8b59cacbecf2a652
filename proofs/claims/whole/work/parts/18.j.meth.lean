/-! methods as partial functions of Lean, and that the small machine does them: by program (gen18) -/
/-! ColdHolds.howMany(I)I, from (('r', 0), 'i') -/
def C_howMany (N : Nat) (c : St) (x1 : Int32) : Option (Int32) :=
  (if x1 = 0 then some (gI c 0) else (if x1 = 1 then some (gI c 1) else (if x1 = 2 then some (gI c 3) else (if x1 = 3 then some (gI c 5) else (if x1 = 4 then some (gI c 7) else (if x1 = 5 then some (gI c 15) else (if x1 = 6 then some (gI c 17) else (if x1 = 7 then some (gI c 21) else (if x1 = 8 then some (gI c 24) else (if x1 = 9 then some (gI c 25) else (if x1 = 10 then some (gI c 27) else (if x1 = 11 then some (gI c 28) else some (gI c 6)))))))))))))
set_option maxHeartbeats 8000000 in
set_option maxRecDepth 100000 in
theorem t_C_howMany (N d : Nat) (xs : List Int32) (c : St) (r : St) (x1 : Int32) : Ok (mBig (mRoL xs) (d)) (mRoL xs) 1 mK159 (fun p : Int32 => (some (.int p), HP c r)) (C_howMany N c x1) 0 [some (.ref 0), some (.int x1)] [] (HP c r) := by
  unfold C_howMany
  refine Ok_blk 2 (pc2 := mSw x1 [(0, 64), (1, 72), (2, 80), (3, 88), (4, 96), (5, 104), (6, 112), (7, 120), (8, 128), (9, 136), (10, 144), (11, 152)] 160) (lo2 := [some (.ref 0), some (.int x1)]) (st2 := []) rfl ?_
  refine Ok_sw (fun h1 => ?_) (fun h1 => ?_)
  · refine Ok_blk 3 (pc2 := 71) (lo2 := [some (.ref 0), some (.int x1)]) (st2 := [.int (gI c 0)]) rfl ?_
    exact Ok_ret rfl rfl rfl
  refine Ok_sw (fun h2 => ?_) (fun h2 => ?_)
  · refine Ok_blk 3 (pc2 := 79) (lo2 := [some (.ref 0), some (.int x1)]) (st2 := [.int (gI c 1)]) rfl ?_
    exact Ok_ret rfl rfl rfl
  refine Ok_sw (fun h3 => ?_) (fun h3 => ?_)
  · refine Ok_blk 3 (pc2 := 87) (lo2 := [some (.ref 0), some (.int x1)]) (st2 := [.int (gI c 3)]) rfl ?_
    exact Ok_ret rfl rfl rfl
  refine Ok_sw (fun h4 => ?_) (fun h4 => ?_)
  · refine Ok_blk 3 (pc2 := 95) (lo2 := [some (.ref 0), some (.int x1)]) (st2 := [.int (gI c 5)]) rfl ?_
    exact Ok_ret rfl rfl rfl
  refine Ok_sw (fun h5 => ?_) (fun h5 => ?_)
  · refine Ok_blk 3 (pc2 := 103) (lo2 := [some (.ref 0), some (.int x1)]) (st2 := [.int (gI c 7)]) rfl ?_
    exact Ok_ret rfl rfl rfl
  refine Ok_sw (fun h6 => ?_) (fun h6 => ?_)
  · refine Ok_blk 3 (pc2 := 111) (lo2 := [some (.ref 0), some (.int x1)]) (st2 := [.int (gI c 15)]) rfl ?_
    exact Ok_ret rfl rfl rfl
  refine Ok_sw (fun h7 => ?_) (fun h7 => ?_)
  · refine Ok_blk 3 (pc2 := 119) (lo2 := [some (.ref 0), some (.int x1)]) (st2 := [.int (gI c 17)]) rfl ?_
    exact Ok_ret rfl rfl rfl
  refine Ok_sw (fun h8 => ?_) (fun h8 => ?_)
  · refine Ok_blk 3 (pc2 := 127) (lo2 := [some (.ref 0), some (.int x1)]) (st2 := [.int (gI c 21)]) rfl ?_
    exact Ok_ret rfl rfl rfl
  refine Ok_sw (fun h9 => ?_) (fun h9 => ?_)
  · refine Ok_blk 3 (pc2 := 135) (lo2 := [some (.ref 0), some (.int x1)]) (st2 := [.int (gI c 24)]) rfl ?_
    exact Ok_ret rfl rfl rfl
  refine Ok_sw (fun h10 => ?_) (fun h10 => ?_)
  · refine Ok_blk 3 (pc2 := 143) (lo2 := [some (.ref 0), some (.int x1)]) (st2 := [.int (gI c 25)]) rfl ?_
    exact Ok_ret rfl rfl rfl
  refine Ok_sw (fun h11 => ?_) (fun h11 => ?_)
  · refine Ok_blk 3 (pc2 := 151) (lo2 := [some (.ref 0), some (.int x1)]) (st2 := [.int (gI c 27)]) rfl ?_
    exact Ok_ret rfl rfl rfl
  refine Ok_sw (fun h12 => ?_) (fun h12 => ?_)
  · refine Ok_blk 3 (pc2 := 159) (lo2 := [some (.ref 0), some (.int x1)]) (st2 := [.int (gI c 28)]) rfl ?_
    exact Ok_ret rfl rfl rfl
  show Ok _ _ _ _ _ _ 160 _ _ _
  refine Ok_blk 3 (pc2 := 167) (lo2 := [some (.ref 0), some (.int x1)]) (st2 := [.int (gI c 6)]) rfl ?_
  exact Ok_ret rfl rfl rfl
set_option maxHeartbeats 8000000 in
set_option maxRecDepth 100000 in
theorem tm_C_howMany (N d : Nat) (xs : List Int32) (c r : St) (a1 : Int32) (p : Int32) (hp : C_howMany N c a1 = some p) : mBig (mRoL xs) (d + 1) 159 [.ref 0, .int a1] (HP c r) (some (.int p)) (HP c r) 0 0 := mBig_of (by decide) rfl rfl rfl rfl (t_C_howMany N d xs c r a1 p hp)
/-! ColdHolds.count(I)I, from (('r', 0), 'i') -/
def C_count (N : Nat) (c : St) (x1 : Int32) : Option (Int32) :=
  (C_within N x1 0 12).bind fun p1 => (if p1 = 0 then some (-102) else (C_howMany N c x1).bind fun p3 => some p3)
set_option maxHeartbeats 8000000 in
set_option maxRecDepth 100000 in
theorem t_C_count (N d : Nat) (xs : List Int32) (c : St) (r : St) (x1 : Int32) : Ok (mBig (mRoL xs) (d + 1)) (mRoL xs) 1 mK158 (fun p : Int32 => (some (.int p), HP c r)) (C_count N c x1) 0 [some (.ref 0), some (.int x1)] [] (HP c r) := by
  unfold C_count
  refine Ok_blk 3 (pc2 := 4) (lo2 := [some (.ref 0), some (.int x1)]) (st2 := [.int 12, .int 0, .int x1]) rfl ?_
  refine Ok_call (y := 102) (as := [.int x1, .int 0, .int 12]) (rest := []) (w := fun p1 => some (.int p1)) (h1 := fun p1 => HP c r) rfl rfl (fun x hx => tm_C_within N d xs c r x1 0 12 x hx) (fun p1 hp1 => ?_)
  refine Ok_blk 1 (pc2 := (if p1 = 0 then 18 else 10)) (lo2 := [some (.ref 0), some (.int x1)]) (st2 := []) rfl ?_
  refine Ok_if (fun h2 => ?_) (fun h2 => ?_)
  · refine Ok_blk 1 (pc2 := 20) (lo2 := [some (.ref 0), some (.int x1)]) (st2 := [.int (-102)]) rfl ?_
    exact Ok_ret rfl rfl rfl
  · refine Ok_blk 2 (pc2 := 12) (lo2 := [some (.ref 0), some (.int x1)]) (st2 := [.int x1, .ref 0]) rfl ?_
    refine Ok_call (y := 159) (as := [.ref 0, .int x1]) (rest := []) (w := fun p3 => some (.int p3)) (h1 := fun p3 => HP c r) rfl rfl (fun x hx => tm_C_howMany N d xs c r x1 x hx) (fun p3 hp3 => ?_)
    refine Ok_blk 1 (pc2 := 20) (lo2 := [some (.ref 0), some (.int x1)]) (st2 := [.int p3]) rfl ?_
    exact Ok_ret rfl rfl rfl
set_option maxHeartbeats 8000000 in
set_option maxRecDepth 100000 in
theorem tm_C_count (N d : Nat) (xs : List Int32) (c r : St) (a1 : Int32) (p : Int32) (hp : C_count N c a1 = some p) : mBig (mRoL xs) (d + 2) 158 [.ref 0, .int a1] (HP c r) (some (.int p)) (HP c r) 0 0 := mBig_of (by decide) rfl rfl rfl rfl (t_C_count N d xs c r a1 p hp)
/-! ColdHoldsModel.countOf(I)I, from (('r', 115), 'i') -/
def R_countOf (N : Nat) (r : St) (x1 : Int32) : Option (Int32) :=
  (if x1 = 0 then some (gI r 6) else (if x1 = 1 then some (gI r 4) else (if x1 = 2 then some (gI r 3) else (if x1 = 3 then some (gI r 7) else (if x1 = 4 then some (gI r 9) else (if x1 = 5 then some (gI r 10) else (if x1 = 6 then some (gI r 12) else (if x1 = 7 then some (gI r 13) else (if x1 = 8 then some (gI r 19) else (if x1 = 9 then some (gI r 20) else (if x1 = 10 then some (gI r 21) else (if x1 = 11 then some (gI r 26) else (if x1 = 12 then some (gI r 8) else some (-102))))))))))))))
set_option maxHeartbeats 8000000 in
set_option maxRecDepth 100000 in
theorem t_R_countOf (N d : Nat) (xs : List Int32) (c : St) (r : St) (x1 : Int32) : Ok (mBig (mRoL xs) (d)) (mRoL xs) 1 mK252 (fun p : Int32 => (some (.int p), HP c r)) (R_countOf N r x1) 0 [some (.ref 115), some (.int x1)] [] (HP c r) := by
  unfold R_countOf
  refine Ok_blk 2 (pc2 := mSw x1 [(0, 68), (1, 73), (2, 78), (3, 83), (4, 88), (5, 93), (6, 98), (7, 103), (8, 108), (9, 113), (10, 118), (11, 123), (12, 128)] 133) (lo2 := [some (.ref 115), some (.int x1)]) (st2 := []) rfl ?_
  refine Ok_sw (fun h1 => ?_) (fun h1 => ?_)
  · refine Ok_blk 2 (pc2 := 72) (lo2 := [some (.ref 115), some (.int x1)]) (st2 := [.int (gI r 6)]) rfl ?_
    exact Ok_ret rfl rfl rfl
  refine Ok_sw (fun h2 => ?_) (fun h2 => ?_)
  · refine Ok_blk 2 (pc2 := 77) (lo2 := [some (.ref 115), some (.int x1)]) (st2 := [.int (gI r 4)]) rfl ?_
    exact Ok_ret rfl rfl rfl
  refine Ok_sw (fun h3 => ?_) (fun h3 => ?_)
  · refine Ok_blk 2 (pc2 := 82) (lo2 := [some (.ref 115), some (.int x1)]) (st2 := [.int (gI r 3)]) rfl ?_
    exact Ok_ret rfl rfl rfl
  refine Ok_sw (fun h4 => ?_) (fun h4 => ?_)
  · refine Ok_blk 2 (pc2 := 87) (lo2 := [some (.ref 115), some (.int x1)]) (st2 := [.int (gI r 7)]) rfl ?_
    exact Ok_ret rfl rfl rfl
  refine Ok_sw (fun h5 => ?_) (fun h5 => ?_)
  · refine Ok_blk 2 (pc2 := 92) (lo2 := [some (.ref 115), some (.int x1)]) (st2 := [.int (gI r 9)]) rfl ?_
    exact Ok_ret rfl rfl rfl
  refine Ok_sw (fun h6 => ?_) (fun h6 => ?_)
  · refine Ok_blk 2 (pc2 := 97) (lo2 := [some (.ref 115), some (.int x1)]) (st2 := [.int (gI r 10)]) rfl ?_
    exact Ok_ret rfl rfl rfl
  refine Ok_sw (fun h7 => ?_) (fun h7 => ?_)
  · refine Ok_blk 2 (pc2 := 102) (lo2 := [some (.ref 115), some (.int x1)]) (st2 := [.int (gI r 12)]) rfl ?_
    exact Ok_ret rfl rfl rfl
  refine Ok_sw (fun h8 => ?_) (fun h8 => ?_)
  · refine Ok_blk 2 (pc2 := 107) (lo2 := [some (.ref 115), some (.int x1)]) (st2 := [.int (gI r 13)]) rfl ?_
    exact Ok_ret rfl rfl rfl
  refine Ok_sw (fun h9 => ?_) (fun h9 => ?_)
  · refine Ok_blk 2 (pc2 := 112) (lo2 := [some (.ref 115), some (.int x1)]) (st2 := [.int (gI r 19)]) rfl ?_
    exact Ok_ret rfl rfl rfl
  refine Ok_sw (fun h10 => ?_) (fun h10 => ?_)
  · refine Ok_blk 2 (pc2 := 117) (lo2 := [some (.ref 115), some (.int x1)]) (st2 := [.int (gI r 20)]) rfl ?_
    exact Ok_ret rfl rfl rfl
  refine Ok_sw (fun h11 => ?_) (fun h11 => ?_)
  · refine Ok_blk 2 (pc2 := 122) (lo2 := [some (.ref 115), some (.int x1)]) (st2 := [.int (gI r 21)]) rfl ?_
    exact Ok_ret rfl rfl rfl
  refine Ok_sw (fun h12 => ?_) (fun h12 => ?_)
  · refine Ok_blk 2 (pc2 := 127) (lo2 := [some (.ref 115), some (.int x1)]) (st2 := [.int (gI r 26)]) rfl ?_
    exact Ok_ret rfl rfl rfl
  refine Ok_sw (fun h13 => ?_) (fun h13 => ?_)
  · refine Ok_blk 2 (pc2 := 132) (lo2 := [some (.ref 115), some (.int x1)]) (st2 := [.int (gI r 8)]) rfl ?_
    exact Ok_ret rfl rfl rfl
  show Ok _ _ _ _ _ _ 133 _ _ _
  refine Ok_blk 1 (pc2 := 135) (lo2 := [some (.ref 115), some (.int x1)]) (st2 := [.int (-102)]) rfl ?_
  exact Ok_ret rfl rfl rfl
set_option maxHeartbeats 8000000 in
set_option maxRecDepth 100000 in
theorem tm_R_countOf (N d : Nat) (xs : List Int32) (c r : St) (a1 : Int32) (p : Int32) (hp : R_countOf N r a1 = some p) : mBig (mRoL xs) (d + 1) 252 [.ref 115, .int a1] (HP c r) (some (.int p)) (HP c r) 0 0 := mBig_of (by decide) rfl rfl rfl rfl (t_R_countOf N d xs c r a1 p hp)
/-! ColdHoldsModel.count(I)I, from (('r', 115), 'i') -/
def R_count (N : Nat) (r : St) (x1 : Int32) : Option (Int32) :=
  (R_countOf N r x1).bind fun p1 => some p1
set_option maxHeartbeats 8000000 in
set_option maxRecDepth 100000 in
theorem t_R_count (N d : Nat) (xs : List Int32) (c : St) (r : St) (x1 : Int32) : Ok (mBig (mRoL xs) (d + 1)) (mRoL xs) 1 mK253 (fun p : Int32 => (some (.int p), HP c r)) (R_count N r x1) 0 [some (.ref 115), some (.int x1)] [] (HP c r) := by
  unfold R_count
  refine Ok_blk 2 (pc2 := 2) (lo2 := [some (.ref 115), some (.int x1)]) (st2 := [.int x1, .ref 115]) rfl ?_
  refine Ok_call (y := 252) (as := [.ref 115, .int x1]) (rest := []) (w := fun p1 => some (.int p1)) (h1 := fun p1 => HP c r) rfl rfl (fun x hx => tm_R_countOf N d xs c r x1 x hx) (fun p1 hp1 => ?_)
  exact Ok_ret rfl rfl rfl
set_option maxHeartbeats 8000000 in
set_option maxRecDepth 100000 in
theorem tm_R_count (N d : Nat) (xs : List Int32) (c r : St) (a1 : Int32) (p : Int32) (hp : R_count N r a1 = some p) : mBig (mRoL xs) (d + 2) 253 [.ref 115, .int a1] (HP c r) (some (.int p)) (HP c r) 0 0 := mBig_of (by decide) rfl rfl rfl rfl (t_R_count N d xs c r a1 p hp)
/-! ColdHolds.mix(JJ)J, from ('l', 'l') -/
def C_mix (N : Nat) (x0 : Int64) (x2 : Int64) : Option (Int64) :=
  some ((31 * x0) + x2)
set_option maxHeartbeats 8000000 in
set_option maxRecDepth 100000 in
theorem t_C_mix (N d : Nat) (xs : List Int32) (c : St) (r : St) (x0 : Int64) (x2 : Int64) : Ok (mBig (mRoL xs) (d)) (mRoL xs) 3 mK106 (fun p : Int64 => (some (.long p), HP c r)) (C_mix N x0 x2) 0 [some (.long x0), none, some (.long x2), none] [] (HP c r) := by
  unfold C_mix
  refine Ok_blk 5 (pc2 := 7) (lo2 := [some (.long x0), none, some (.long x2), none]) (st2 := [.long ((31 * x0) + x2)]) rfl ?_
  exact Ok_ret rfl rfl rfl
set_option maxHeartbeats 8000000 in
set_option maxRecDepth 100000 in
theorem tm_C_mix (N d : Nat) (xs : List Int32) (c r : St) (a0 : Int64) (a1 : Int64) (p : Int64) (hp : C_mix N a0 a1 = some p) : mBig (mRoL xs) (d + 1) 106 [.long a0, .long a1] (HP c r) (some (.long p)) (HP c r) 0 0 := mBig_of (by decide) rfl rfl rfl rfl (t_C_mix N d xs c r a0 a1 p hp)
/-! ColdHolds.mixRow(J[II)J, from ('l', ('r', 41), 'i') -/
def C_mixRow_p3b (N : Nat) (kb3 : Int64 → Int32 → Int32 → Option (Int64)) (c : St) (x0 : Int64) (x3 : Int32) (x4 : Int32) : Option (Int64) :=
  (if x3 ≤ x4 then some x0 else (ld (gA c 34) x4).bind fun y2 => (C_mix N x0 y2.toInt64).bind fun p3 => kb3 p3 x3 (x4 + 1))
def C_mixRow_p3 (N : Nat) (c : St) : Nat → Int64 → Int32 → Int32 → Option (Int64)
  | 0 => fun _ _ _ => none
  | n + 1 => C_mixRow_p3b N (C_mixRow_p3 N c n) c
def C_mixRow (N : Nat) (c : St) (x0 : Int64) (x3 : Int32) : Option (Int64) :=
  C_mixRow_p3 N c N x0 x3 0
set_option maxHeartbeats 8000000 in
set_option maxRecDepth 100000 in
theorem t_C_mixRow_p3b (N d : Nat) (xs : List Int32) (c : St) (r : St) (kb3 : Int64 → Int32 → Int32 → Option (Int64)) (hb3 : ∀ (x0 : Int64) (x3 : Int32) (x4 : Int32), Ok (mBig (mRoL xs) (d + 1)) (mRoL xs) 3 mK107 (fun p : Int64 => (some (.long p), HP c r)) (kb3 x0 x3 x4) 3 [some (.long x0), none, some (.ref 41), some (.int x3), some (.int x4)] [] (HP c r)) (x0 : Int64) (x3 : Int32) (x4 : Int32) : Ok (mBig (mRoL xs) (d + 1)) (mRoL xs) 3 mK107 (fun p : Int64 => (some (.long p), HP c r)) (C_mixRow_p3b N kb3 c x0 x3 x4) 3 [some (.long x0), none, some (.ref 41), some (.int x3), some (.int x4)] [] (HP c r) := by
  unfold C_mixRow_p3b
  refine Ok_blk 3 (pc2 := (if x3 ≤ x4 then 25 else 9)) (lo2 := [some (.long x0), none, some (.ref 41), some (.int x3), some (.int x4)]) (st2 := []) rfl ?_
  refine Ok_if (fun h1 => ?_) (fun h1 => ?_)
  · refine Ok_blk 1 (pc2 := 26) (lo2 := [some (.long x0), none, some (.ref 41), some (.int x3), some (.int x4)]) (st2 := [.long x0]) rfl ?_
    exact Ok_ret rfl rfl rfl
  · refine Ok_blk 3 (pc2 := 13) (lo2 := [some (.long x0), none, some (.ref 41), some (.int x3), some (.int x4)]) (st2 := [.int x4, .ref 41, .long x0]) rfl ?_
    refine Ok_ld (l := (gA c 34)) rfl rfl (fun y2 hy2 => ?_)
    refine Ok_blk 1 (pc2 := 15) (lo2 := [some (.long x0), none, some (.ref 41), some (.int x3), some (.int x4)]) (st2 := [.long y2.toInt64, .long x0]) rfl ?_
    refine Ok_call (y := 106) (as := [.long x0, .long y2.toInt64]) (rest := []) (w := fun p3 => some (.long p3)) (h1 := fun p3 => HP c r) rfl rfl (fun x hx => tm_C_mix N d xs c r x0 y2.toInt64 x hx) (fun p3 hp3 => ?_)
    refine Ok_blk 3 (pc2 := 3) (lo2 := [some (.long p3), none, some (.ref 41), some (.int x3), some (.int (x4 + 1))]) (st2 := []) rfl ?_
    refine Ok_drop (lo0 := [some (.long p3), none, some (.ref 41), some (.int x3), some (.int (x4 + 1))]) ⟨Or.inr rfl, Or.inl rfl, Or.inr rfl, Or.inr rfl, Or.inr rfl, trivial⟩ ?_
    exact hb3 p3 x3 (x4 + 1)
set_option maxHeartbeats 8000000 in
set_option maxRecDepth 100000 in
theorem t_C_mixRow_p3 (N d : Nat) (xs : List Int32) (c : St) (r : St) : ∀ (n : Nat) (x0 : Int64) (x3 : Int32) (x4 : Int32), Ok (mBig (mRoL xs) (d + 1)) (mRoL xs) 3 mK107 (fun p : Int64 => (some (.long p), HP c r)) (C_mixRow_p3 N c n x0 x3 x4) 3 [some (.long x0), none, some (.ref 41), some (.int x3), some (.int x4)] [] (HP c r) := by
  intro n
  induction n with
  | zero => intro x0 x3 x4; exact Ok_none
  | succ n ih => intro x0 x3 x4; exact t_C_mixRow_p3b N d xs c r (C_mixRow_p3 N c n) ih x0 x3 x4
set_option maxHeartbeats 8000000 in
set_option maxRecDepth 100000 in
theorem t_C_mixRow (N d : Nat) (xs : List Int32) (c : St) (r : St) (x0 : Int64) (x3 : Int32) : Ok (mBig (mRoL xs) (d + 1)) (mRoL xs) 3 mK107 (fun p : Int64 => (some (.long p), HP c r)) (C_mixRow N c x0 x3) 0 [some (.long x0), none, some (.ref 41), some (.int x3), none] [] (HP c r) := by
  unfold C_mixRow
  refine Ok_blk 2 (pc2 := 3) (lo2 := [some (.long x0), none, some (.ref 41), some (.int x3), some (.int 0)]) (st2 := []) rfl ?_
  refine Ok_drop (lo0 := [some (.long x0), none, some (.ref 41), some (.int x3), some (.int 0)]) ⟨Or.inr rfl, Or.inl rfl, Or.inr rfl, Or.inr rfl, Or.inr rfl, trivial⟩ ?_
  exact t_C_mixRow_p3 N d xs c r N x0 x3 0
set_option maxHeartbeats 8000000 in
set_option maxRecDepth 100000 in
theorem tm_C_mixRow (N d : Nat) (xs : List Int32) (c r : St) (a0 : Int64) (a2 : Int32) (p : Int64) (hp : C_mixRow N c a0 a2 = some p) : mBig (mRoL xs) (d + 2) 107 [.long a0, .ref 41, .int a2] (HP c r) (some (.long p)) (HP c r) 0 0 := mBig_of (by decide) rfl rfl rfl rfl (t_C_mixRow N d xs c r a0 a2 p hp)
/-! ColdHolds.mixRow(J[II)J, from ('l', ('r', 63), 'i') -/
def C_mixRow_2_p3b (N : Nat) (kb3 : Int64 → Int32 → Int32 → Option (Int64)) (c : St) (x0 : Int64) (x3 : Int32) (x4 : Int32) : Option (Int64) :=
  (if x3 ≤ x4 then some x0 else (ld (gA c 51) x4).bind fun y2 => (C_mix N x0 y2.toInt64).bind fun p3 => kb3 p3 x3 (x4 + 1))
def C_mixRow_2_p3 (N : Nat) (c : St) : Nat → Int64 → Int32 → Int32 → Option (Int64)
  | 0 => fun _ _ _ => none
  | n + 1 => C_mixRow_2_p3b N (C_mixRow_2_p3 N c n) c
def C_mixRow_2 (N : Nat) (c : St) (x0 : Int64) (x3 : Int32) : Option (Int64) :=
  C_mixRow_2_p3 N c N x0 x3 0
set_option maxHeartbeats 8000000 in
set_option maxRecDepth 100000 in
theorem t_C_mixRow_2_p3b (N d : Nat) (xs : List Int32) (c : St) (r : St) (kb3 : Int64 → Int32 → Int32 → Option (Int64)) (hb3 : ∀ (x0 : Int64) (x3 : Int32) (x4 : Int32), Ok (mBig (mRoL xs) (d + 1)) (mRoL xs) 3 mK107 (fun p : Int64 => (some (.long p), HP c r)) (kb3 x0 x3 x4) 3 [some (.long x0), none, some (.ref 63), some (.int x3), some (.int x4)] [] (HP c r)) (x0 : Int64) (x3 : Int32) (x4 : Int32) : Ok (mBig (mRoL xs) (d + 1)) (mRoL xs) 3 mK107 (fun p : Int64 => (some (.long p), HP c r)) (C_mixRow_2_p3b N kb3 c x0 x3 x4) 3 [some (.long x0), none, some (.ref 63), some (.int x3), some (.int x4)] [] (HP c r) := by
  unfold C_mixRow_2_p3b
  refine Ok_blk 3 (pc2 := (if x3 ≤ x4 then 25 else 9)) (lo2 := [some (.long x0), none, some (.ref 63), some (.int x3), some (.int x4)]) (st2 := []) rfl ?_
  refine Ok_if (fun h1 => ?_) (fun h1 => ?_)
  · refine Ok_blk 1 (pc2 := 26) (lo2 := [some (.long x0), none, some (.ref 63), some (.int x3), some (.int x4)]) (st2 := [.long x0]) rfl ?_
    exact Ok_ret rfl rfl rfl
  · refine Ok_blk 3 (pc2 := 13) (lo2 := [some (.long x0), none, some (.ref 63), some (.int x3), some (.int x4)]) (st2 := [.int x4, .ref 63, .long x0]) rfl ?_
    refine Ok_ld (l := (gA c 51)) rfl rfl (fun y2 hy2 => ?_)
    refine Ok_blk 1 (pc2 := 15) (lo2 := [some (.long x0), none, some (.ref 63), some (.int x3), some (.int x4)]) (st2 := [.long y2.toInt64, .long x0]) rfl ?_
    refine Ok_call (y := 106) (as := [.long x0, .long y2.toInt64]) (rest := []) (w := fun p3 => some (.long p3)) (h1 := fun p3 => HP c r) rfl rfl (fun x hx => tm_C_mix N d xs c r x0 y2.toInt64 x hx) (fun p3 hp3 => ?_)
    refine Ok_blk 3 (pc2 := 3) (lo2 := [some (.long p3), none, some (.ref 63), some (.int x3), some (.int (x4 + 1))]) (st2 := []) rfl ?_
    refine Ok_drop (lo0 := [some (.long p3), none, some (.ref 63), some (.int x3), some (.int (x4 + 1))]) ⟨Or.inr rfl, Or.inl rfl, Or.inr rfl, Or.inr rfl, Or.inr rfl, trivial⟩ ?_
    exact hb3 p3 x3 (x4 + 1)
set_option maxHeartbeats 8000000 in
set_option maxRecDepth 100000 in
theorem t_C_mixRow_2_p3 (N d : Nat) (xs : List Int32) (c : St) (r : St) : ∀ (n : Nat) (x0 : Int64) (x3 : Int32) (x4 : Int32), Ok (mBig (mRoL xs) (d + 1)) (mRoL xs) 3 mK107 (fun p : Int64 => (some (.long p), HP c r)) (C_mixRow_2_p3 N c n x0 x3 x4) 3 [some (.long x0), none, some (.ref 63), some (.int x3), some (.int x4)] [] (HP c r) := by
  intro n
  induction n with
  | zero => intro x0 x3 x4; exact Ok_none
  | succ n ih => intro x0 x3 x4; exact t_C_mixRow_2_p3b N d xs c r (C_mixRow_2_p3 N c n) ih x0 x3 x4
set_option maxHeartbeats 8000000 in
set_option maxRecDepth 100000 in
theorem t_C_mixRow_2 (N d : Nat) (xs : List Int32) (c : St) (r : St) (x0 : Int64) (x3 : Int32) : Ok (mBig (mRoL xs) (d + 1)) (mRoL xs) 3 mK107 (fun p : Int64 => (some (.long p), HP c r)) (C_mixRow_2 N c x0 x3) 0 [some (.long x0), none, some (.ref 63), some (.int x3), none] [] (HP c r) := by
  unfold C_mixRow_2
  refine Ok_blk 2 (pc2 := 3) (lo2 := [some (.long x0), none, some (.ref 63), some (.int x3), some (.int 0)]) (st2 := []) rfl ?_
  refine Ok_drop (lo0 := [some (.long x0), none, some (.ref 63), some (.int x3), some (.int 0)]) ⟨Or.inr rfl, Or.inl rfl, Or.inr rfl, Or.inr rfl, Or.inr rfl, trivial⟩ ?_
  exact t_C_mixRow_2_p3 N d xs c r N x0 x3 0
set_option maxHeartbeats 8000000 in
set_option maxRecDepth 100000 in
theorem tm_C_mixRow_2 (N d : Nat) (xs : List Int32) (c r : St) (a0 : Int64) (a2 : Int32) (p : Int64) (hp : C_mixRow_2 N c a0 a2 = some p) : mBig (mRoL xs) (d + 2) 107 [.long a0, .ref 63, .int a2] (HP c r) (some (.long p)) (HP c r) 0 0 := mBig_of (by decide) rfl rfl rfl rfl (t_C_mixRow_2 N d xs c r a0 a2 p hp)
/-! ColdHolds.mixRow(J[II)J, from ('l', 'row', 'i') -/
def C_mixRow_3_p3b (N : Nat) (kb3 : Int64 → Int32 → Int32 → Option (Int64)) (c : St) (j1 : Nat) (x0 : Int64) (x3 : Int32) (x4 : Int32) : Option (Int64) :=
  (if x3 ≤ x4 then some x0 else (ld (gA c j1) x4).bind fun y2 => (C_mix N x0 y2.toInt64).bind fun p3 => kb3 p3 x3 (x4 + 1))
def C_mixRow_3_p3 (N : Nat) (c : St) (j1 : Nat) : Nat → Int64 → Int32 → Int32 → Option (Int64)
  | 0 => fun _ _ _ => none
  | n + 1 => C_mixRow_3_p3b N (C_mixRow_3_p3 N c j1 n) c j1
def C_mixRow_3 (N : Nat) (c : St) (j1 : Nat) (x0 : Int64) (x3 : Int32) : Option (Int64) :=
  C_mixRow_3_p3 N c j1 N x0 x3 0
set_option maxHeartbeats 8000000 in
set_option maxRecDepth 100000 in
theorem t_C_mixRow_3_p3b (N d : Nat) (xs : List Int32) (c : St) (r : St) (k1 j1 : Nat) (hk1 : AR k1 j1) (kb3 : Int64 → Int32 → Int32 → Option (Int64)) (hb3 : ∀ (x0 : Int64) (x3 : Int32) (x4 : Int32), Ok (mBig (mRoL xs) (d + 1)) (mRoL xs) 3 mK107 (fun p : Int64 => (some (.long p), HP c r)) (kb3 x0 x3 x4) 3 [some (.long x0), none, some (.ref k1), some (.int x3), some (.int x4)] [] (HP c r)) (x0 : Int64) (x3 : Int32) (x4 : Int32) : Ok (mBig (mRoL xs) (d + 1)) (mRoL xs) 3 mK107 (fun p : Int64 => (some (.long p), HP c r)) (C_mixRow_3_p3b N kb3 c j1 x0 x3 x4) 3 [some (.long x0), none, some (.ref k1), some (.int x3), some (.int x4)] [] (HP c r) := by
  unfold C_mixRow_3_p3b
  refine Ok_blk 3 (pc2 := (if x3 ≤ x4 then 25 else 9)) (lo2 := [some (.long x0), none, some (.ref k1), some (.int x3), some (.int x4)]) (st2 := []) rfl ?_
  refine Ok_if (fun h1 => ?_) (fun h1 => ?_)
  · refine Ok_blk 1 (pc2 := 26) (lo2 := [some (.long x0), none, some (.ref k1), some (.int x3), some (.int x4)]) (st2 := [.long x0]) rfl ?_
    exact Ok_ret rfl rfl rfl
  · refine Ok_blk 3 (pc2 := 13) (lo2 := [some (.long x0), none, some (.ref k1), some (.int x3), some (.int x4)]) (st2 := [.int x4, .ref k1, .long x0]) rfl ?_
    refine Ok_ld (l := (gA c j1)) rfl (hk1.row _ _ _) (fun y2 hy2 => ?_)
    refine Ok_blk 1 (pc2 := 15) (lo2 := [some (.long x0), none, some (.ref k1), some (.int x3), some (.int x4)]) (st2 := [.long y2.toInt64, .long x0]) rfl ?_
    refine Ok_call (y := 106) (as := [.long x0, .long y2.toInt64]) (rest := []) (w := fun p3 => some (.long p3)) (h1 := fun p3 => HP c r) rfl rfl (fun x hx => tm_C_mix N d xs c r x0 y2.toInt64 x hx) (fun p3 hp3 => ?_)
    refine Ok_blk 3 (pc2 := 3) (lo2 := [some (.long p3), none, some (.ref k1), some (.int x3), some (.int (x4 + 1))]) (st2 := []) rfl ?_
    refine Ok_drop (lo0 := [some (.long p3), none, some (.ref k1), some (.int x3), some (.int (x4 + 1))]) ⟨Or.inr rfl, Or.inl rfl, Or.inr rfl, Or.inr rfl, Or.inr rfl, trivial⟩ ?_
    exact hb3 p3 x3 (x4 + 1)
set_option maxHeartbeats 8000000 in
set_option maxRecDepth 100000 in
theorem t_C_mixRow_3_p3 (N d : Nat) (xs : List Int32) (c : St) (r : St) (k1 j1 : Nat) (hk1 : AR k1 j1) : ∀ (n : Nat) (x0 : Int64) (x3 : Int32) (x4 : Int32), Ok (mBig (mRoL xs) (d + 1)) (mRoL xs) 3 mK107 (fun p : Int64 => (some (.long p), HP c r)) (C_mixRow_3_p3 N c j1 n x0 x3 x4) 3 [some (.long x0), none, some (.ref k1), some (.int x3), some (.int x4)] [] (HP c r) := by
  intro n
  induction n with
  | zero => intro x0 x3 x4; exact Ok_none
  | succ n ih => intro x0 x3 x4; exact t_C_mixRow_3_p3b N d xs c r k1 j1 hk1 (C_mixRow_3_p3 N c j1 n) ih x0 x3 x4
set_option maxHeartbeats 8000000 in
set_option maxRecDepth 100000 in
theorem t_C_mixRow_3 (N d : Nat) (xs : List Int32) (c : St) (r : St) (k1 j1 : Nat) (hk1 : AR k1 j1) (x0 : Int64) (x3 : Int32) : Ok (mBig (mRoL xs) (d + 1)) (mRoL xs) 3 mK107 (fun p : Int64 => (some (.long p), HP c r)) (C_mixRow_3 N c j1 x0 x3) 0 [some (.long x0), none, some (.ref k1), some (.int x3), none] [] (HP c r) := by
  unfold C_mixRow_3
  refine Ok_blk 2 (pc2 := 3) (lo2 := [some (.long x0), none, some (.ref k1), some (.int x3), some (.int 0)]) (st2 := []) rfl ?_
  refine Ok_drop (lo0 := [some (.long x0), none, some (.ref k1), some (.int x3), some (.int 0)]) ⟨Or.inr rfl, Or.inl rfl, Or.inr rfl, Or.inr rfl, Or.inr rfl, trivial⟩ ?_
  exact t_C_mixRow_3_p3 N d xs c r k1 j1 hk1 N x0 x3 0
set_option maxHeartbeats 8000000 in
set_option maxRecDepth 100000 in
theorem tm_C_mixRow_3 (N d : Nat) (xs : List Int32) (c r : St) (k1 j1 : Nat) (hk1 : AR k1 j1) (a0 : Int64) (a2 : Int32) (p : Int64) (hp : C_mixRow_3 N c j1 a0 a2 = some p) : mBig (mRoL xs) (d + 2) 107 [.long a0, .ref k1, .int a2] (HP c r) (some (.long p)) (HP c r) 0 0 := mBig_of (by decide) rfl rfl rfl rfl (t_C_mixRow_3 N d xs c r k1 j1 hk1 a0 a2 p hp)
/-! ColdHolds$Choices.mixed(J)J, from (('r', 104), 'l') -/
def Choices_mixed_p2b (N : Nat) (kb2 : Int64 → Int32 → Option (Int64)) (c : St) (x1 : Int64) (x3 : Int32) : Option (Int64) :=
  (if (gI c 28) ≤ x3 then some x1 else (ld (gA c 94) x3).bind fun y2 => (C_mix N x1 y2.toInt64).bind fun p3 => (rwi x3 8).bind fun q4 => (C_mixRow_3 N c (86 + q4) p3 5).bind fun p5 => kb2 p5 (x3 + 1))
def Choices_mixed_p2 (N : Nat) (c : St) : Nat → Int64 → Int32 → Option (Int64)
  | 0 => fun _ _ => none
  | n + 1 => Choices_mixed_p2b N (Choices_mixed_p2 N c n) c
def Choices_mixed (N : Nat) (c : St) (x1 : Int64) : Option (Int64) :=
  Choices_mixed_p2 N c N x1 0
set_option maxHeartbeats 8000000 in
set_option maxRecDepth 100000 in
theorem t_Choices_mixed_p2b (N d : Nat) (xs : List Int32) (c : St) (r : St) (kb2 : Int64 → Int32 → Option (Int64)) (hb2 : ∀ (x1 : Int64) (x3 : Int32), Ok (mBig (mRoL xs) (d + 2)) (mRoL xs) 3 mK11 (fun p : Int64 => (some (.long p), HP c r)) (kb2 x1 x3) 2 [some (.ref 104), some (.long x1), none, some (.int x3)] [] (HP c r)) (x1 : Int64) (x3 : Int32) : Ok (mBig (mRoL xs) (d + 2)) (mRoL xs) 3 mK11 (fun p : Int64 => (some (.long p), HP c r)) (Choices_mixed_p2b N kb2 c x1 x3) 2 [some (.ref 104), some (.long x1), none, some (.int x3)] [] (HP c r) := by
  unfold Choices_mixed_p2b
  refine Ok_blk 4 (pc2 := (if (gI c 28) ≤ x3 then 40 else 10)) (lo2 := [some (.ref 104), some (.long x1), none, some (.int x3)]) (st2 := []) rfl ?_
  refine Ok_if (fun h1 => ?_) (fun h1 => ?_)
  · refine Ok_blk 1 (pc2 := 41) (lo2 := [some (.ref 104), some (.long x1), none, some (.int x3)]) (st2 := [.long x1]) rfl ?_
    exact Ok_ret rfl rfl rfl
  · refine Ok_blk 4 (pc2 := 16) (lo2 := [some (.ref 104), some (.long x1), none, some (.int x3)]) (st2 := [.int x3, .ref 114, .long x1]) rfl ?_
    refine Ok_ld (l := (gA c 94)) rfl rfl (fun y2 hy2 => ?_)
    refine Ok_blk 1 (pc2 := 18) (lo2 := [some (.ref 104), some (.long x1), none, some (.int x3)]) (st2 := [.long y2.toInt64, .long x1]) rfl ?_
    refine Ok_call (y := 106) (as := [.long x1, .long y2.toInt64]) (rest := []) (w := fun p3 => some (.long p3)) (h1 := fun p3 => HP c r) rfl rfl (fun x hx => tm_C_mix N (d + 1) xs c r x1 y2.toInt64 x hx) (fun p3 hp3 => ?_)
    refine Ok_blk 5 (pc2 := 28) (lo2 := [some (.ref 104), some (.long p3), none, some (.int x3)]) (st2 := [.int x3, .ref 105, .long p3]) rfl ?_
    refine Ok_rw (b := 106) (n := 8) rfl rfl (fun j h => rowl_105 j h) (fun q4 hq4 => ?_)
    refine Ok_blk 1 (pc2 := 30) (lo2 := [some (.ref 104), some (.long p3), none, some (.int x3)]) (st2 := [.int 5, .ref (106 + q4), .long p3]) rfl ?_
    refine Ok_call (y := 107) (as := [.long p3, .ref (106 + q4), .int 5]) (rest := []) (w := fun p5 => some (.long p5)) (h1 := fun p5 => HP c r) rfl rfl (fun x hx => tm_C_mixRow_3 N d xs c r (106 + q4) (86 + q4) (rows_105 hq4) p3 5 x hx) (fun p5 hp5 => ?_)
    refine Ok_blk 3 (pc2 := 2) (lo2 := [some (.ref 104), some (.long p5), none, some (.int (x3 + 1))]) (st2 := []) rfl ?_
    refine Ok_drop (lo0 := [some (.ref 104), some (.long p5), none, some (.int (x3 + 1))]) ⟨Or.inr rfl, Or.inr rfl, Or.inl rfl, Or.inr rfl, trivial⟩ ?_
    exact hb2 p5 (x3 + 1)
set_option maxHeartbeats 8000000 in
set_option maxRecDepth 100000 in
theorem t_Choices_mixed_p2 (N d : Nat) (xs : List Int32) (c : St) (r : St) : ∀ (n : Nat) (x1 : Int64) (x3 : Int32), Ok (mBig (mRoL xs) (d + 2)) (mRoL xs) 3 mK11 (fun p : Int64 => (some (.long p), HP c r)) (Choices_mixed_p2 N c n x1 x3) 2 [some (.ref 104), some (.long x1), none, some (.int x3)] [] (HP c r) := by
  intro n
  induction n with
  | zero => intro x1 x3; exact Ok_none
  | succ n ih => intro x1 x3; exact t_Choices_mixed_p2b N d xs c r (Choices_mixed_p2 N c n) ih x1 x3
set_option maxHeartbeats 8000000 in
set_option maxRecDepth 100000 in
theorem t_Choices_mixed (N d : Nat) (xs : List Int32) (c : St) (r : St) (x1 : Int64) : Ok (mBig (mRoL xs) (d + 2)) (mRoL xs) 3 mK11 (fun p : Int64 => (some (.long p), HP c r)) (Choices_mixed N c x1) 0 [some (.ref 104), some (.long x1), none, none] [] (HP c r) := by
  unfold Choices_mixed
  refine Ok_blk 2 (pc2 := 2) (lo2 := [some (.ref 104), some (.long x1), none, some (.int 0)]) (st2 := []) rfl ?_
  refine Ok_drop (lo0 := [some (.ref 104), some (.long x1), none, some (.int 0)]) ⟨Or.inr rfl, Or.inr rfl, Or.inl rfl, Or.inr rfl, trivial⟩ ?_
  exact t_Choices_mixed_p2 N d xs c r N x1 0
set_option maxHeartbeats 8000000 in
set_option maxRecDepth 100000 in
theorem tm_Choices_mixed (N d : Nat) (xs : List Int32) (c r : St) (a1 : Int64) (p : Int64) (hp : Choices_mixed N c a1 = some p) : mBig (mRoL xs) (d + 3) 11 [.ref 104, .long a1] (HP c r) (some (.long p)) (HP c r) 0 0 := mBig_of (by decide) rfl rfl rfl rfl (t_Choices_mixed N d xs c r a1 p hp)
/-! ColdHolds.mixLots(J)J, from (('r', 0), 'l') -/
def C_mixLots_p16b (N : Nat) (kb2 : Int64 → Int32 → Option (Int64)) (kb16 : Int64 → Int32 → Int32 → Option (Int64)) (c : St) (x1 : Int64) (x3 : Int32) (x4 : Int32) : Option (Int64) :=
  (if 8 < x4 then kb2 x1 (x3 + 1) else (Lots_tell N c x3 x4 (gI c 1)).bind fun p3 => (C_mix N x1 p3.toInt64).bind fun p4 => kb16 p4 x3 (x4 + 1))
def C_mixLots_p16 (N : Nat) (kb2 : Int64 → Int32 → Option (Int64)) (c : St) : Nat → Int64 → Int32 → Int32 → Option (Int64)
  | 0 => fun _ _ _ => none
  | n + 1 => C_mixLots_p16b N kb2 (C_mixLots_p16 N kb2 c n) c
def C_mixLots_p2b (N : Nat) (kb2 : Int64 → Int32 → Option (Int64)) (c : St) (x1 : Int64) (x3 : Int32) : Option (Int64) :=
  (if (gI c 5) ≤ x3 then some x1 else C_mixLots_p16 N kb2 c N x1 x3 0)
def C_mixLots_p2 (N : Nat) (c : St) : Nat → Int64 → Int32 → Option (Int64)
  | 0 => fun _ _ => none
  | n + 1 => C_mixLots_p2b N (C_mixLots_p2 N c n) c
def C_mixLots (N : Nat) (c : St) (x1 : Int64) : Option (Int64) :=
  C_mixLots_p2 N c N x1 0
set_option maxHeartbeats 8000000 in
set_option maxRecDepth 100000 in
theorem t_C_mixLots_p16b (N d : Nat) (xs : List Int32) (c : St) (r : St) (kb2 : Int64 → Int32 → Option (Int64)) (hb2 : ∀ (x1 : Int64) (x3 : Int32), Ok (mBig (mRoL xs) (d + 2)) (mRoL xs) 3 mK161 (fun p : Int64 => (some (.long p), HP c r)) (kb2 x1 x3) 2 [some (.ref 0), some (.long x1), none, some (.int x3), none] [] (HP c r)) (kb16 : Int64 → Int32 → Int32 → Option (Int64)) (hb16 : ∀ (x1 : Int64) (x3 : Int32) (x4 : Int32), Ok (mBig (mRoL xs) (d + 2)) (mRoL xs) 3 mK161 (fun p : Int64 => (some (.long p), HP c r)) (kb16 x1 x3 x4) 16 [some (.ref 0), some (.long x1), none, some (.int x3), some (.int x4)] [] (HP c r)) (x1 : Int64) (x3 : Int32) (x4 : Int32) : Ok (mBig (mRoL xs) (d + 2)) (mRoL xs) 3 mK161 (fun p : Int64 => (some (.long p), HP c r)) (C_mixLots_p16b N kb2 kb16 c x1 x3 x4) 16 [some (.ref 0), some (.long x1), none, some (.int x3), some (.int x4)] [] (HP c r) := by
  unfold C_mixLots_p16b
  refine Ok_blk 3 (pc2 := (if 8 < x4 then 56 else 23)) (lo2 := [some (.ref 0), some (.long x1), none, some (.int x3), some (.int x4)]) (st2 := []) rfl ?_
  refine Ok_if (fun h2 => ?_) (fun h2 => ?_)
  · refine Ok_blk 2 (pc2 := 2) (lo2 := [some (.ref 0), some (.long x1), none, some (.int (x3 + 1)), some (.int x4)]) (st2 := []) rfl ?_
    refine Ok_drop (lo0 := [some (.ref 0), some (.long x1), none, some (.int (x3 + 1)), none]) ⟨Or.inr rfl, Or.inr rfl, Or.inl rfl, Or.inr rfl, Or.inl rfl, trivial⟩ ?_
    exact hb2 x1 (x3 + 1)
  · refine Ok_blk 10 (pc2 := 42) (lo2 := [some (.ref 0), some (.long x1), none, some (.int x3), some (.int x4)]) (st2 := [.int (gI c 1), .ref 7, .int x4, .int x3, .ref 15, .long x1]) rfl ?_
    refine Ok_call (y := 43) (as := [.ref 15, .int x3, .int x4, .ref 7, .int (gI c 1)]) (rest := [.long x1]) (w := fun p3 => some (.int p3)) (h1 := fun p3 => HP c r) rfl rfl (fun x hx => tm_Lots_tell N d xs c r x3 x4 (gI c 1) x hx) (fun p3 hp3 => ?_)
    refine Ok_blk 1 (pc2 := 46) (lo2 := [some (.ref 0), some (.long x1), none, some (.int x3), some (.int x4)]) (st2 := [.long p3.toInt64, .long x1]) rfl ?_
    refine Ok_call (y := 106) (as := [.long x1, .long p3.toInt64]) (rest := []) (w := fun p4 => some (.long p4)) (h1 := fun p4 => HP c r) rfl rfl (fun x hx => tm_C_mix N (d + 1) xs c r x1 p3.toInt64 x hx) (fun p4 hp4 => ?_)
    refine Ok_blk 3 (pc2 := 16) (lo2 := [some (.ref 0), some (.long p4), none, some (.int x3), some (.int (x4 + 1))]) (st2 := []) rfl ?_
    refine Ok_drop (lo0 := [some (.ref 0), some (.long p4), none, some (.int x3), some (.int (x4 + 1))]) ⟨Or.inr rfl, Or.inr rfl, Or.inl rfl, Or.inr rfl, Or.inr rfl, trivial⟩ ?_
    exact hb16 p4 x3 (x4 + 1)
set_option maxHeartbeats 8000000 in
set_option maxRecDepth 100000 in
theorem t_C_mixLots_p16 (N d : Nat) (xs : List Int32) (c : St) (r : St) (kb2 : Int64 → Int32 → Option (Int64)) (hb2 : ∀ (x1 : Int64) (x3 : Int32), Ok (mBig (mRoL xs) (d + 2)) (mRoL xs) 3 mK161 (fun p : Int64 => (some (.long p), HP c r)) (kb2 x1 x3) 2 [some (.ref 0), some (.long x1), none, some (.int x3), none] [] (HP c r)) : ∀ (n : Nat) (x1 : Int64) (x3 : Int32) (x4 : Int32), Ok (mBig (mRoL xs) (d + 2)) (mRoL xs) 3 mK161 (fun p : Int64 => (some (.long p), HP c r)) (C_mixLots_p16 N kb2 c n x1 x3 x4) 16 [some (.ref 0), some (.long x1), none, some (.int x3), some (.int x4)] [] (HP c r) := by
  intro n
  induction n with
  | zero => intro x1 x3 x4; exact Ok_none
  | succ n ih => intro x1 x3 x4; exact t_C_mixLots_p16b N d xs c r kb2 hb2 (C_mixLots_p16 N kb2 c n) ih x1 x3 x4
set_option maxHeartbeats 8000000 in
set_option maxRecDepth 100000 in
theorem t_C_mixLots_p2b (N d : Nat) (xs : List Int32) (c : St) (r : St) (kb2 : Int64 → Int32 → Option (Int64)) (hb2 : ∀ (x1 : Int64) (x3 : Int32), Ok (mBig (mRoL xs) (d + 2)) (mRoL xs) 3 mK161 (fun p : Int64 => (some (.long p), HP c r)) (kb2 x1 x3) 2 [some (.ref 0), some (.long x1), none, some (.int x3), none] [] (HP c r)) (x1 : Int64) (x3 : Int32) : Ok (mBig (mRoL xs) (d + 2)) (mRoL xs) 3 mK161 (fun p : Int64 => (some (.long p), HP c r)) (C_mixLots_p2b N kb2 c x1 x3) 2 [some (.ref 0), some (.long x1), none, some (.int x3), none] [] (HP c r) := by
  unfold C_mixLots_p2b
  refine Ok_blk 5 (pc2 := (if (gI c 5) ≤ x3 then 62 else 13)) (lo2 := [some (.ref 0), some (.long x1), none, some (.int x3), none]) (st2 := []) rfl ?_
  refine Ok_if (fun h1 => ?_) (fun h1 => ?_)
  · refine Ok_blk 1 (pc2 := 63) (lo2 := [some (.ref 0), some (.long x1), none, some (.int x3), none]) (st2 := [.long x1]) rfl ?_
    exact Ok_ret rfl rfl rfl
  · refine Ok_blk 2 (pc2 := 16) (lo2 := [some (.ref 0), some (.long x1), none, some (.int x3), some (.int 0)]) (st2 := []) rfl ?_
    refine Ok_drop (lo0 := [some (.ref 0), some (.long x1), none, some (.int x3), some (.int 0)]) ⟨Or.inr rfl, Or.inr rfl, Or.inl rfl, Or.inr rfl, Or.inr rfl, trivial⟩ ?_
    exact t_C_mixLots_p16 N d xs c r kb2 hb2 N x1 x3 0
set_option maxHeartbeats 8000000 in
set_option maxRecDepth 100000 in
theorem t_C_mixLots_p2 (N d : Nat) (xs : List Int32) (c : St) (r : St) : ∀ (n : Nat) (x1 : Int64) (x3 : Int32), Ok (mBig (mRoL xs) (d + 2)) (mRoL xs) 3 mK161 (fun p : Int64 => (some (.long p), HP c r)) (C_mixLots_p2 N c n x1 x3) 2 [some (.ref 0), some (.long x1), none, some (.int x3), none] [] (HP c r) := by
  intro n
  induction n with
  | zero => intro x1 x3; exact Ok_none
  | succ n ih => intro x1 x3; exact t_C_mixLots_p2b N d xs c r (C_mixLots_p2 N c n) ih x1 x3
set_option maxHeartbeats 8000000 in
set_option maxRecDepth 100000 in
theorem t_C_mixLots (N d : Nat) (xs : List Int32) (c : St) (r : St) (x1 : Int64) : Ok (mBig (mRoL xs) (d + 2)) (mRoL xs) 3 mK161 (fun p : Int64 => (some (.long p), HP c r)) (C_mixLots N c x1) 0 [some (.ref 0), some (.long x1), none, none, none] [] (HP c r) := by
  unfold C_mixLots
  refine Ok_blk 2 (pc2 := 2) (lo2 := [some (.ref 0), some (.long x1), none, some (.int 0), none]) (st2 := []) rfl ?_
  refine Ok_drop (lo0 := [some (.ref 0), some (.long x1), none, some (.int 0), none]) ⟨Or.inr rfl, Or.inr rfl, Or.inl rfl, Or.inr rfl, Or.inl rfl, trivial⟩ ?_
  exact t_C_mixLots_p2 N d xs c r N x1 0
set_option maxHeartbeats 8000000 in
set_option maxRecDepth 100000 in
theorem tm_C_mixLots (N d : Nat) (xs : List Int32) (c r : St) (a1 : Int64) (p : Int64) (hp : C_mixLots N c a1 = some p) : mBig (mRoL xs) (d + 3) 161 [.ref 0, .long a1] (HP c r) (some (.long p)) (HP c r) 0 0 := mBig_of (by decide) rfl rfl rfl rfl (t_C_mixLots N d xs c r a1 p hp)
/-! ColdHolds.mixSums(J)J, from (('r', 0), 'l') -/
def C_mixSums_p16b (N : Nat) (kb2 : St → Int64 → Int32 → Option (Int64 × St)) (kb16 : St → Int64 → Int32 → Int32 → Option (Int64 × St)) (c : St) (x1 : Int64) (x3 : Int32) (x4 : Int32) : Option (Int64 × St) :=
  (if (gI c 5) ≤ x4 then kb2 c x1 (x3 + 1) else (C_sumOf N c x3 x4 0).bind fun p3 => (C_mix N x1 p3.1).bind fun p4 => (C_sumOf N p3.2 x3 x4 1).bind fun p5 => (C_mix N p4 p5.1).bind fun p6 => kb16 p5.2 p6 x3 (x4 + 1))
def C_mixSums_p16 (N : Nat) (kb2 : St → Int64 → Int32 → Option (Int64 × St)) : Nat → St → Int64 → Int32 → Int32 → Option (Int64 × St)
  | 0 => fun _ _ _ _ => none
  | n + 1 => C_mixSums_p16b N kb2 (C_mixSums_p16 N kb2 n)
def C_mixSums_p2b (N : Nat) (kb2 : St → Int64 → Int32 → Option (Int64 × St)) (c : St) (x1 : Int64) (x3 : Int32) : Option (Int64 × St) :=
  (if (gI c 7) ≤ x3 then some (x1, c) else C_mixSums_p16 N kb2 N c x1 x3 0)
def C_mixSums_p2 (N : Nat) : Nat → St → Int64 → Int32 → Option (Int64 × St)
  | 0 => fun _ _ _ => none
  | n + 1 => C_mixSums_p2b N (C_mixSums_p2 N n)
def C_mixSums (N : Nat) (c : St) (x1 : Int64) : Option (Int64 × St) :=
  C_mixSums_p2 N N c x1 0
set_option maxHeartbeats 8000000 in
set_option maxRecDepth 100000 in
theorem t_C_mixSums_p16b (N d : Nat) (xs : List Int32) (r : St) (kb2 : St → Int64 → Int32 → Option (Int64 × St)) (hb2 : ∀ (c : St) (x1 : Int64) (x3 : Int32), Ok (mBig (mRoL xs) (d + 5)) (mRoL xs) 3 mK162 (fun p : Int64 × St => (some (.long p.1), HP p.2 r)) (kb2 c x1 x3) 2 [some (.ref 0), some (.long x1), none, some (.int x3), none] [] (HP c r)) (kb16 : St → Int64 → Int32 → Int32 → Option (Int64 × St)) (hb16 : ∀ (c : St) (x1 : Int64) (x3 : Int32) (x4 : Int32), Ok (mBig (mRoL xs) (d + 5)) (mRoL xs) 3 mK162 (fun p : Int64 × St => (some (.long p.1), HP p.2 r)) (kb16 c x1 x3 x4) 16 [some (.ref 0), some (.long x1), none, some (.int x3), some (.int x4)] [] (HP c r)) (c : St) (x1 : Int64) (x3 : Int32) (x4 : Int32) : Ok (mBig (mRoL xs) (d + 5)) (mRoL xs) 3 mK162 (fun p : Int64 × St => (some (.long p.1), HP p.2 r)) (C_mixSums_p16b N kb2 kb16 c x1 x3 x4) 16 [some (.ref 0), some (.long x1), none, some (.int x3), some (.int x4)] [] (HP c r) := by
  unfold C_mixSums_p16b
  refine Ok_blk 5 (pc2 := (if (gI c 5) ≤ x4 then 60 else 28)) (lo2 := [some (.ref 0), some (.long x1), none, some (.int x3), some (.int x4)]) (st2 := []) rfl ?_
  refine Ok_if (fun h2 => ?_) (fun h2 => ?_)
  · refine Ok_blk 2 (pc2 := 2) (lo2 := [some (.ref 0), some (.long x1), none, some (.int (x3 + 1)), some (.int x4)]) (st2 := []) rfl ?_
    refine Ok_drop (lo0 := [some (.ref 0), some (.long x1), none, some (.int (x3 + 1)), none]) ⟨Or.inr rfl, Or.inr rfl, Or.inl rfl, Or.inr rfl, Or.inl rfl, trivial⟩ ?_
    exact hb2 c x1 (x3 + 1)
  · refine Ok_blk 5 (pc2 := 34) (lo2 := [some (.ref 0), some (.long x1), none, some (.int x3), some (.int x4)]) (st2 := [.int 0, .int x4, .int x3, .ref 0, .long x1]) rfl ?_
    refine Ok_call (y := 128) (as := [.ref 0, .int x3, .int x4, .int 0]) (rest := [.long x1]) (w := fun p3 => some (.long p3.1)) (h1 := fun p3 => HP p3.2 r) rfl rfl (fun x hx => tm_C_sumOf N d xs c r x3 x4 0 x hx) (fun p3 hp3 => ?_)
    refine Ok_call (y := 106) (as := [.long x1, .long p3.1]) (rest := []) (w := fun p4 => some (.long p4)) (h1 := fun p4 => HP p3.2 r) rfl rfl (fun x hx => tm_C_mix N (d + 4) xs p3.2 r x1 p3.1 x hx) (fun p4 hp4 => ?_)
    refine Ok_blk 6 (pc2 := 47) (lo2 := [some (.ref 0), some (.long p4), none, some (.int x3), some (.int x4)]) (st2 := [.int 1, .int x4, .int x3, .ref 0, .long p4]) rfl ?_
    refine Ok_call (y := 128) (as := [.ref 0, .int x3, .int x4, .int 1]) (rest := [.long p4]) (w := fun p5 => some (.long p5.1)) (h1 := fun p5 => HP p5.2 r) rfl rfl (fun x hx => tm_C_sumOf N d xs p3.2 r x3 x4 1 x hx) (fun p5 hp5 => ?_)
    refine Ok_call (y := 106) (as := [.long p4, .long p5.1]) (rest := []) (w := fun p6 => some (.long p6)) (h1 := fun p6 => HP p5.2 r) rfl rfl (fun x hx => tm_C_mix N (d + 4) xs p5.2 r p4 p5.1 x hx) (fun p6 hp6 => ?_)
    refine Ok_blk 3 (pc2 := 16) (lo2 := [some (.ref 0), some (.long p6), none, some (.int x3), some (.int (x4 + 1))]) (st2 := []) rfl ?_
    refine Ok_drop (lo0 := [some (.ref 0), some (.long p6), none, some (.int x3), some (.int (x4 + 1))]) ⟨Or.inr rfl, Or.inr rfl, Or.inl rfl, Or.inr rfl, Or.inr rfl, trivial⟩ ?_
    exact hb16 p5.2 p6 x3 (x4 + 1)
set_option maxHeartbeats 8000000 in
set_option maxRecDepth 100000 in
theorem t_C_mixSums_p16 (N d : Nat) (xs : List Int32) (r : St) (kb2 : St → Int64 → Int32 → Option (Int64 × St)) (hb2 : ∀ (c : St) (x1 : Int64) (x3 : Int32), Ok (mBig (mRoL xs) (d + 5)) (mRoL xs) 3 mK162 (fun p : Int64 × St => (some (.long p.1), HP p.2 r)) (kb2 c x1 x3) 2 [some (.ref 0), some (.long x1), none, some (.int x3), none] [] (HP c r)) : ∀ (n : Nat) (c : St) (x1 : Int64) (x3 : Int32) (x4 : Int32), Ok (mBig (mRoL xs) (d + 5)) (mRoL xs) 3 mK162 (fun p : Int64 × St => (some (.long p.1), HP p.2 r)) (C_mixSums_p16 N kb2 n c x1 x3 x4) 16 [some (.ref 0), some (.long x1), none, some (.int x3), some (.int x4)] [] (HP c r) := by
  intro n
  induction n with
  | zero => intro c x1 x3 x4; exact Ok_none
  | succ n ih => intro c x1 x3 x4; exact t_C_mixSums_p16b N d xs r kb2 hb2 (C_mixSums_p16 N kb2 n) ih c x1 x3 x4
set_option maxHeartbeats 8000000 in
set_option maxRecDepth 100000 in
theorem t_C_mixSums_p2b (N d : Nat) (xs : List Int32) (r : St) (kb2 : St → Int64 → Int32 → Option (Int64 × St)) (hb2 : ∀ (c : St) (x1 : Int64) (x3 : Int32), Ok (mBig (mRoL xs) (d + 5)) (mRoL xs) 3 mK162 (fun p : Int64 × St => (some (.long p.1), HP p.2 r)) (kb2 c x1 x3) 2 [some (.ref 0), some (.long x1), none, some (.int x3), none] [] (HP c r)) (c : St) (x1 : Int64) (x3 : Int32) : Ok (mBig (mRoL xs) (d + 5)) (mRoL xs) 3 mK162 (fun p : Int64 × St => (some (.long p.1), HP p.2 r)) (C_mixSums_p2b N kb2 c x1 x3) 2 [some (.ref 0), some (.long x1), none, some (.int x3), none] [] (HP c r) := by
  unfold C_mixSums_p2b
  refine Ok_blk 5 (pc2 := (if (gI c 7) ≤ x3 then 66 else 13)) (lo2 := [some (.ref 0), some (.long x1), none, some (.int x3), none]) (st2 := []) rfl ?_
  refine Ok_if (fun h1 => ?_) (fun h1 => ?_)
  · refine Ok_blk 1 (pc2 := 67) (lo2 := [some (.ref 0), some (.long x1), none, some (.int x3), none]) (st2 := [.long x1]) rfl ?_
    exact Ok_ret rfl rfl rfl
  · refine Ok_blk 2 (pc2 := 16) (lo2 := [some (.ref 0), some (.long x1), none, some (.int x3), some (.int 0)]) (st2 := []) rfl ?_
    refine Ok_drop (lo0 := [some (.ref 0), some (.long x1), none, some (.int x3), some (.int 0)]) ⟨Or.inr rfl, Or.inr rfl, Or.inl rfl, Or.inr rfl, Or.inr rfl, trivial⟩ ?_
    exact t_C_mixSums_p16 N d xs r kb2 hb2 N c x1 x3 0
set_option maxHeartbeats 8000000 in
set_option maxRecDepth 100000 in
theorem t_C_mixSums_p2 (N d : Nat) (xs : List Int32) (r : St) : ∀ (n : Nat) (c : St) (x1 : Int64) (x3 : Int32), Ok (mBig (mRoL xs) (d + 5)) (mRoL xs) 3 mK162 (fun p : Int64 × St => (some (.long p.1), HP p.2 r)) (C_mixSums_p2 N n c x1 x3) 2 [some (.ref 0), some (.long x1), none, some (.int x3), none] [] (HP c r) := by
  intro n
  induction n with
  | zero => intro c x1 x3; exact Ok_none
  | succ n ih => intro c x1 x3; exact t_C_mixSums_p2b N d xs r (C_mixSums_p2 N n) ih c x1 x3
set_option maxHeartbeats 8000000 in
set_option maxRecDepth 100000 in
theorem t_C_mixSums (N d : Nat) (xs : List Int32) (r : St) (c : St) (x1 : Int64) : Ok (mBig (mRoL xs) (d + 5)) (mRoL xs) 3 mK162 (fun p : Int64 × St => (some (.long p.1), HP p.2 r)) (C_mixSums N c x1) 0 [some (.ref 0), some (.long x1), none, none, none] [] (HP c r) := by
  unfold C_mixSums
  refine Ok_blk 2 (pc2 := 2) (lo2 := [some (.ref 0), some (.long x1), none, some (.int 0), none]) (st2 := []) rfl ?_
  refine Ok_drop (lo0 := [some (.ref 0), some (.long x1), none, some (.int 0), none]) ⟨Or.inr rfl, Or.inr rfl, Or.inl rfl, Or.inr rfl, Or.inl rfl, trivial⟩ ?_
  exact t_C_mixSums_p2 N d xs r N c x1 0
set_option maxHeartbeats 8000000 in
set_option maxRecDepth 100000 in
theorem tm_C_mixSums (N d : Nat) (xs : List Int32) (c r : St) (a1 : Int64) (p : Int64 × St) (hp : C_mixSums N c a1 = some p) : mBig (mRoL xs) (d + 6) 162 [.ref 0, .long a1] (HP c r) (some (.long p.1)) (HP p.2 r) 0 0 := mBig_of (by decide) rfl rfl rfl rfl (t_C_mixSums N d xs r c a1 p hp)
/-! ColdHolds.mixRow(J[II)J, from ('l', ('r', 68), 'i') -/
def C_mixRow_4_p3b (N : Nat) (kb3 : Int64 → Int32 → Int32 → Option (Int64)) (c : St) (x0 : Int64) (x3 : Int32) (x4 : Int32) : Option (Int64) :=
  (if x3 ≤ x4 then some x0 else (ld (gA c 55) x4).bind fun y2 => (C_mix N x0 y2.toInt64).bind fun p3 => kb3 p3 x3 (x4 + 1))
def C_mixRow_4_p3 (N : Nat) (c : St) : Nat → Int64 → Int32 → Int32 → Option (Int64)
  | 0 => fun _ _ _ => none
  | n + 1 => C_mixRow_4_p3b N (C_mixRow_4_p3 N c n) c
def C_mixRow_4 (N : Nat) (c : St) (x0 : Int64) (x3 : Int32) : Option (Int64) :=
  C_mixRow_4_p3 N c N x0 x3 0
set_option maxHeartbeats 8000000 in
set_option maxRecDepth 100000 in
theorem t_C_mixRow_4_p3b (N d : Nat) (xs : List Int32) (c : St) (r : St) (kb3 : Int64 → Int32 → Int32 → Option (Int64)) (hb3 : ∀ (x0 : Int64) (x3 : Int32) (x4 : Int32), Ok (mBig (mRoL xs) (d + 1)) (mRoL xs) 3 mK107 (fun p : Int64 => (some (.long p), HP c r)) (kb3 x0 x3 x4) 3 [some (.long x0), none, some (.ref 68), some (.int x3), some (.int x4)] [] (HP c r)) (x0 : Int64) (x3 : Int32) (x4 : Int32) : Ok (mBig (mRoL xs) (d + 1)) (mRoL xs) 3 mK107 (fun p : Int64 => (some (.long p), HP c r)) (C_mixRow_4_p3b N kb3 c x0 x3 x4) 3 [some (.long x0), none, some (.ref 68), some (.int x3), some (.int x4)] [] (HP c r) := by
  unfold C_mixRow_4_p3b
  refine Ok_blk 3 (pc2 := (if x3 ≤ x4 then 25 else 9)) (lo2 := [some (.long x0), none, some (.ref 68), some (.int x3), some (.int x4)]) (st2 := []) rfl ?_
  refine Ok_if (fun h1 => ?_) (fun h1 => ?_)
  · refine Ok_blk 1 (pc2 := 26) (lo2 := [some (.long x0), none, some (.ref 68), some (.int x3), some (.int x4)]) (st2 := [.long x0]) rfl ?_
    exact Ok_ret rfl rfl rfl
  · refine Ok_blk 3 (pc2 := 13) (lo2 := [some (.long x0), none, some (.ref 68), some (.int x3), some (.int x4)]) (st2 := [.int x4, .ref 68, .long x0]) rfl ?_
    refine Ok_ld (l := (gA c 55)) rfl rfl (fun y2 hy2 => ?_)
    refine Ok_blk 1 (pc2 := 15) (lo2 := [some (.long x0), none, some (.ref 68), some (.int x3), some (.int x4)]) (st2 := [.long y2.toInt64, .long x0]) rfl ?_
    refine Ok_call (y := 106) (as := [.long x0, .long y2.toInt64]) (rest := []) (w := fun p3 => some (.long p3)) (h1 := fun p3 => HP c r) rfl rfl (fun x hx => tm_C_mix N d xs c r x0 y2.toInt64 x hx) (fun p3 hp3 => ?_)
    refine Ok_blk 3 (pc2 := 3) (lo2 := [some (.long p3), none, some (.ref 68), some (.int x3), some (.int (x4 + 1))]) (st2 := []) rfl ?_
    refine Ok_drop (lo0 := [some (.long p3), none, some (.ref 68), some (.int x3), some (.int (x4 + 1))]) ⟨Or.inr rfl, Or.inl rfl, Or.inr rfl, Or.inr rfl, Or.inr rfl, trivial⟩ ?_
    exact hb3 p3 x3 (x4 + 1)
set_option maxHeartbeats 8000000 in
set_option maxRecDepth 100000 in
theorem t_C_mixRow_4_p3 (N d : Nat) (xs : List Int32) (c : St) (r : St) : ∀ (n : Nat) (x0 : Int64) (x3 : Int32) (x4 : Int32), Ok (mBig (mRoL xs) (d + 1)) (mRoL xs) 3 mK107 (fun p : Int64 => (some (.long p), HP c r)) (C_mixRow_4_p3 N c n x0 x3 x4) 3 [some (.long x0), none, some (.ref 68), some (.int x3), some (.int x4)] [] (HP c r) := by
  intro n
  induction n with
  | zero => intro x0 x3 x4; exact Ok_none
  | succ n ih => intro x0 x3 x4; exact t_C_mixRow_4_p3b N d xs c r (C_mixRow_4_p3 N c n) ih x0 x3 x4
set_option maxHeartbeats 8000000 in
set_option maxRecDepth 100000 in
theorem t_C_mixRow_4 (N d : Nat) (xs : List Int32) (c : St) (r : St) (x0 : Int64) (x3 : Int32) : Ok (mBig (mRoL xs) (d + 1)) (mRoL xs) 3 mK107 (fun p : Int64 => (some (.long p), HP c r)) (C_mixRow_4 N c x0 x3) 0 [some (.long x0), none, some (.ref 68), some (.int x3), none] [] (HP c r) := by
  unfold C_mixRow_4
  refine Ok_blk 2 (pc2 := 3) (lo2 := [some (.long x0), none, some (.ref 68), some (.int x3), some (.int 0)]) (st2 := []) rfl ?_
  refine Ok_drop (lo0 := [some (.long x0), none, some (.ref 68), some (.int x3), some (.int 0)]) ⟨Or.inr rfl, Or.inl rfl, Or.inr rfl, Or.inr rfl, Or.inr rfl, trivial⟩ ?_
  exact t_C_mixRow_4_p3 N d xs c r N x0 x3 0
set_option maxHeartbeats 8000000 in
set_option maxRecDepth 100000 in
theorem tm_C_mixRow_4 (N d : Nat) (xs : List Int32) (c r : St) (a0 : Int64) (a2 : Int32) (p : Int64) (hp : C_mixRow_4 N c a0 a2 = some p) : mBig (mRoL xs) (d + 2) 107 [.long a0, .ref 68, .int a2] (HP c r) (some (.long p)) (HP c r) 0 0 := mBig_of (by decide) rfl rfl rfl rfl (t_C_mixRow_4 N d xs c r a0 a2 p hp)
/-! ColdHolds$Drive.mixed(J)J, from (('r', 67), 'l') -/
def Drive_mixed_p2b (N : Nat) (kb2 : Int64 → Int32 → Option (Int64)) (c : St) (x1 : Int64) (x3 : Int32) : Option (Int64) :=
  (if (gI c 21) ≤ x3 then (C_mixRow_4 N c x1 4).bind fun p2 => (C_mix N p2 ((gI c 22).toInt64)).bind fun p3 => some p3 else (ld (gA c 62) x3).bind fun y4 => (C_mix N x1 y4.toInt64).bind fun p5 => (ld (gA c 63) x3).bind fun y6 => (C_mix N p5 y6.toInt64).bind fun p7 => (rwi x3 6).bind fun q8 => (C_mixRow_3 N c (56 + q8) p7 4).bind fun p9 => kb2 p9 (x3 + 1))
def Drive_mixed_p2 (N : Nat) (c : St) : Nat → Int64 → Int32 → Option (Int64)
  | 0 => fun _ _ => none
  | n + 1 => Drive_mixed_p2b N (Drive_mixed_p2 N c n) c
def Drive_mixed (N : Nat) (c : St) (x1 : Int64) : Option (Int64) :=
  Drive_mixed_p2 N c N x1 0
set_option maxHeartbeats 8000000 in
set_option maxRecDepth 100000 in
theorem t_Drive_mixed_p2b (N d : Nat) (xs : List Int32) (c : St) (r : St) (kb2 : Int64 → Int32 → Option (Int64)) (hb2 : ∀ (x1 : Int64) (x3 : Int32), Ok (mBig (mRoL xs) (d + 2)) (mRoL xs) 3 mK19 (fun p : Int64 => (some (.long p), HP c r)) (kb2 x1 x3) 2 [some (.ref 67), some (.long x1), none, some (.int x3)] [] (HP c r)) (x1 : Int64) (x3 : Int32) : Ok (mBig (mRoL xs) (d + 2)) (mRoL xs) 3 mK19 (fun p : Int64 => (some (.long p), HP c r)) (Drive_mixed_p2b N kb2 c x1 x3) 2 [some (.ref 67), some (.long x1), none, some (.int x3)] [] (HP c r) := by
  unfold Drive_mixed_p2b
  refine Ok_blk 4 (pc2 := (if (gI c 21) ≤ x3 then 52 else 10)) (lo2 := [some (.ref 67), some (.long x1), none, some (.int x3)]) (st2 := []) rfl ?_
  refine Ok_if (fun h1 => ?_) (fun h1 => ?_)
  · refine Ok_blk 4 (pc2 := 58) (lo2 := [some (.ref 67), some (.long x1), none, some (.int x3)]) (st2 := [.int 4, .ref 68, .long x1]) rfl ?_
    refine Ok_call (y := 107) (as := [.long x1, .ref 68, .int 4]) (rest := []) (w := fun p2 => some (.long p2)) (h1 := fun p2 => HP c r) rfl rfl (fun x hx => tm_C_mixRow_4 N d xs c r x1 4 x hx) (fun p2 hp2 => ?_)
    refine Ok_blk 5 (pc2 := 68) (lo2 := [some (.ref 67), some (.long p2), none, some (.int x3)]) (st2 := [.long ((gI c 22).toInt64), .long p2]) rfl ?_
    refine Ok_call (y := 106) (as := [.long p2, .long ((gI c 22).toInt64)]) (rest := []) (w := fun p3 => some (.long p3)) (h1 := fun p3 => HP c r) rfl rfl (fun x hx => tm_C_mix N (d + 1) xs c r p2 ((gI c 22).toInt64) x hx) (fun p3 hp3 => ?_)
    exact Ok_ret rfl rfl rfl
  · refine Ok_blk 4 (pc2 := 16) (lo2 := [some (.ref 67), some (.long x1), none, some (.int x3)]) (st2 := [.int x3, .ref 76, .long x1]) rfl ?_
    refine Ok_ld (l := (gA c 62)) rfl rfl (fun y4 hy4 => ?_)
    refine Ok_blk 1 (pc2 := 18) (lo2 := [some (.ref 67), some (.long x1), none, some (.int x3)]) (st2 := [.long y4.toInt64, .long x1]) rfl ?_
    refine Ok_call (y := 106) (as := [.long x1, .long y4.toInt64]) (rest := []) (w := fun p5 => some (.long p5)) (h1 := fun p5 => HP c r) rfl rfl (fun x hx => tm_C_mix N (d + 1) xs c r x1 y4.toInt64 x hx) (fun p5 hp5 => ?_)
    refine Ok_blk 5 (pc2 := 28) (lo2 := [some (.ref 67), some (.long p5), none, some (.int x3)]) (st2 := [.int x3, .ref 77, .long p5]) rfl ?_
    refine Ok_ld (l := (gA c 63)) rfl rfl (fun y6 hy6 => ?_)
    refine Ok_blk 1 (pc2 := 30) (lo2 := [some (.ref 67), some (.long p5), none, some (.int x3)]) (st2 := [.long y6.toInt64, .long p5]) rfl ?_
    refine Ok_call (y := 106) (as := [.long p5, .long y6.toInt64]) (rest := []) (w := fun p7 => some (.long p7)) (h1 := fun p7 => HP c r) rfl rfl (fun x hx => tm_C_mix N (d + 1) xs c r p5 y6.toInt64 x hx) (fun p7 hp7 => ?_)
    refine Ok_blk 5 (pc2 := 40) (lo2 := [some (.ref 67), some (.long p7), none, some (.int x3)]) (st2 := [.int x3, .ref 69, .long p7]) rfl ?_
    refine Ok_rw (b := 70) (n := 6) rfl rfl (fun j h => rowl_69 j h) (fun q8 hq8 => ?_)
    refine Ok_blk 1 (pc2 := 42) (lo2 := [some (.ref 67), some (.long p7), none, some (.int x3)]) (st2 := [.int 4, .ref (70 + q8), .long p7]) rfl ?_
    refine Ok_call (y := 107) (as := [.long p7, .ref (70 + q8), .int 4]) (rest := []) (w := fun p9 => some (.long p9)) (h1 := fun p9 => HP c r) rfl rfl (fun x hx => tm_C_mixRow_3 N d xs c r (70 + q8) (56 + q8) (rows_69 hq8) p7 4 x hx) (fun p9 hp9 => ?_)
    refine Ok_blk 3 (pc2 := 2) (lo2 := [some (.ref 67), some (.long p9), none, some (.int (x3 + 1))]) (st2 := []) rfl ?_
    refine Ok_drop (lo0 := [some (.ref 67), some (.long p9), none, some (.int (x3 + 1))]) ⟨Or.inr rfl, Or.inr rfl, Or.inl rfl, Or.inr rfl, trivial⟩ ?_
    exact hb2 p9 (x3 + 1)
set_option maxHeartbeats 8000000 in
set_option maxRecDepth 100000 in
theorem t_Drive_mixed_p2 (N d : Nat) (xs : List Int32) (c : St) (r : St) : ∀ (n : Nat) (x1 : Int64) (x3 : Int32), Ok (mBig (mRoL xs) (d + 2)) (mRoL xs) 3 mK19 (fun p : Int64 => (some (.long p), HP c r)) (Drive_mixed_p2 N c n x1 x3) 2 [some (.ref 67), some (.long x1), none, some (.int x3)] [] (HP c r) := by
  intro n
  induction n with
  | zero => intro x1 x3; exact Ok_none
  | succ n ih => intro x1 x3; exact t_Drive_mixed_p2b N d xs c r (Drive_mixed_p2 N c n) ih x1 x3
set_option maxHeartbeats 8000000 in
set_option maxRecDepth 100000 in
theorem t_Drive_mixed (N d : Nat) (xs : List Int32) (c : St) (r : St) (x1 : Int64) : Ok (mBig (mRoL xs) (d + 2)) (mRoL xs) 3 mK19 (fun p : Int64 => (some (.long p), HP c r)) (Drive_mixed N c x1) 0 [some (.ref 67), some (.long x1), none, none] [] (HP c r) := by
  unfold Drive_mixed
  refine Ok_blk 2 (pc2 := 2) (lo2 := [some (.ref 67), some (.long x1), none, some (.int 0)]) (st2 := []) rfl ?_
  refine Ok_drop (lo0 := [some (.ref 67), some (.long x1), none, some (.int 0)]) ⟨Or.inr rfl, Or.inr rfl, Or.inl rfl, Or.inr rfl, trivial⟩ ?_
  exact t_Drive_mixed_p2 N d xs c r N x1 0
set_option maxHeartbeats 8000000 in
set_option maxRecDepth 100000 in
theorem tm_Drive_mixed (N d : Nat) (xs : List Int32) (c r : St) (a1 : Int64) (p : Int64) (hp : Drive_mixed N c a1 = some p) : mBig (mRoL xs) (d + 3) 19 [.ref 67, .long a1] (HP c r) (some (.long p)) (HP c r) 0 0 := mBig_of (by decide) rfl rfl rfl rfl (t_Drive_mixed N d xs c r a1 p hp)
/-! ColdHolds$Farms.mixed(J)J, from (('r', 88), 'l') -/
def Farms_mixed_p2b (N : Nat) (kb2 : Int64 → Int32 → Option (Int64)) (c : St) (x1 : Int64) (x3 : Int32) : Option (Int64) :=
  (if (gI c 25) ≤ x3 then some x1 else (ld (gA c 81) x3).bind fun y2 => (C_mix N x1 y2.toInt64).bind fun p3 => (ld (gA c 82) x3).bind fun y4 => (C_mix N p3 y4.toInt64).bind fun p5 => (rwi x3 8).bind fun q6 => (C_mixRow_3 N c (73 + q6) p5 (gI c 25)).bind fun p7 => kb2 p7 (x3 + 1))
def Farms_mixed_p2 (N : Nat) (c : St) : Nat → Int64 → Int32 → Option (Int64)
  | 0 => fun _ _ => none
  | n + 1 => Farms_mixed_p2b N (Farms_mixed_p2 N c n) c
def Farms_mixed (N : Nat) (c : St) (x1 : Int64) : Option (Int64) :=
  Farms_mixed_p2 N c N x1 0
set_option maxHeartbeats 8000000 in
set_option maxRecDepth 100000 in
theorem t_Farms_mixed_p2b (N d : Nat) (xs : List Int32) (c : St) (r : St) (kb2 : Int64 → Int32 → Option (Int64)) (hb2 : ∀ (x1 : Int64) (x3 : Int32), Ok (mBig (mRoL xs) (d + 2)) (mRoL xs) 3 mK27 (fun p : Int64 => (some (.long p), HP c r)) (kb2 x1 x3) 2 [some (.ref 88), some (.long x1), none, some (.int x3)] [] (HP c r)) (x1 : Int64) (x3 : Int32) : Ok (mBig (mRoL xs) (d + 2)) (mRoL xs) 3 mK27 (fun p : Int64 => (some (.long p), HP c r)) (Farms_mixed_p2b N kb2 c x1 x3) 2 [some (.ref 88), some (.long x1), none, some (.int x3)] [] (HP c r) := by
  unfold Farms_mixed_p2b
  refine Ok_blk 4 (pc2 := (if (gI c 25) ≤ x3 then 55 else 10)) (lo2 := [some (.ref 88), some (.long x1), none, some (.int x3)]) (st2 := []) rfl ?_
  refine Ok_if (fun h1 => ?_) (fun h1 => ?_)
  · refine Ok_blk 1 (pc2 := 56) (lo2 := [some (.ref 88), some (.long x1), none, some (.int x3)]) (st2 := [.long x1]) rfl ?_
    exact Ok_ret rfl rfl rfl
  · refine Ok_blk 4 (pc2 := 16) (lo2 := [some (.ref 88), some (.long x1), none, some (.int x3)]) (st2 := [.int x3, .ref 98, .long x1]) rfl ?_
    refine Ok_ld (l := (gA c 81)) rfl rfl (fun y2 hy2 => ?_)
    refine Ok_blk 1 (pc2 := 18) (lo2 := [some (.ref 88), some (.long x1), none, some (.int x3)]) (st2 := [.long y2.toInt64, .long x1]) rfl ?_
    refine Ok_call (y := 106) (as := [.long x1, .long y2.toInt64]) (rest := []) (w := fun p3 => some (.long p3)) (h1 := fun p3 => HP c r) rfl rfl (fun x hx => tm_C_mix N (d + 1) xs c r x1 y2.toInt64 x hx) (fun p3 hp3 => ?_)
    refine Ok_blk 5 (pc2 := 28) (lo2 := [some (.ref 88), some (.long p3), none, some (.int x3)]) (st2 := [.int x3, .ref 99, .long p3]) rfl ?_
    refine Ok_ld (l := (gA c 82)) rfl rfl (fun y4 hy4 => ?_)
    refine Ok_blk 1 (pc2 := 30) (lo2 := [some (.ref 88), some (.long p3), none, some (.int x3)]) (st2 := [.long y4.toInt64, .long p3]) rfl ?_
    refine Ok_call (y := 106) (as := [.long p3, .long y4.toInt64]) (rest := []) (w := fun p5 => some (.long p5)) (h1 := fun p5 => HP c r) rfl rfl (fun x hx => tm_C_mix N (d + 1) xs c r p3 y4.toInt64 x hx) (fun p5 hp5 => ?_)
    refine Ok_blk 5 (pc2 := 40) (lo2 := [some (.ref 88), some (.long p5), none, some (.int x3)]) (st2 := [.int x3, .ref 89, .long p5]) rfl ?_
    refine Ok_rw (b := 90) (n := 8) rfl rfl (fun j h => rowl_89 j h) (fun q6 hq6 => ?_)
    refine Ok_blk 2 (pc2 := 45) (lo2 := [some (.ref 88), some (.long p5), none, some (.int x3)]) (st2 := [.int (gI c 25), .ref (90 + q6), .long p5]) rfl ?_
    refine Ok_call (y := 107) (as := [.long p5, .ref (90 + q6), .int (gI c 25)]) (rest := []) (w := fun p7 => some (.long p7)) (h1 := fun p7 => HP c r) rfl rfl (fun x hx => tm_C_mixRow_3 N d xs c r (90 + q6) (73 + q6) (rows_89 hq6) p5 (gI c 25) x hx) (fun p7 hp7 => ?_)
    refine Ok_blk 3 (pc2 := 2) (lo2 := [some (.ref 88), some (.long p7), none, some (.int (x3 + 1))]) (st2 := []) rfl ?_
    refine Ok_drop (lo0 := [some (.ref 88), some (.long p7), none, some (.int (x3 + 1))]) ⟨Or.inr rfl, Or.inr rfl, Or.inl rfl, Or.inr rfl, trivial⟩ ?_
    exact hb2 p7 (x3 + 1)
set_option maxHeartbeats 8000000 in
set_option maxRecDepth 100000 in
theorem t_Farms_mixed_p2 (N d : Nat) (xs : List Int32) (c : St) (r : St) : ∀ (n : Nat) (x1 : Int64) (x3 : Int32), Ok (mBig (mRoL xs) (d + 2)) (mRoL xs) 3 mK27 (fun p : Int64 => (some (.long p), HP c r)) (Farms_mixed_p2 N c n x1 x3) 2 [some (.ref 88), some (.long x1), none, some (.int x3)] [] (HP c r) := by
  intro n
  induction n with
  | zero => intro x1 x3; exact Ok_none
  | succ n ih => intro x1 x3; exact t_Farms_mixed_p2b N d xs c r (Farms_mixed_p2 N c n) ih x1 x3
set_option maxHeartbeats 8000000 in
set_option maxRecDepth 100000 in
theorem t_Farms_mixed (N d : Nat) (xs : List Int32) (c : St) (r : St) (x1 : Int64) : Ok (mBig (mRoL xs) (d + 2)) (mRoL xs) 3 mK27 (fun p : Int64 => (some (.long p), HP c r)) (Farms_mixed N c x1) 0 [some (.ref 88), some (.long x1), none, none] [] (HP c r) := by
  unfold Farms_mixed
  refine Ok_blk 2 (pc2 := 2) (lo2 := [some (.ref 88), some (.long x1), none, some (.int 0)]) (st2 := []) rfl ?_
  refine Ok_drop (lo0 := [some (.ref 88), some (.long x1), none, some (.int 0)]) ⟨Or.inr rfl, Or.inr rfl, Or.inl rfl, Or.inr rfl, trivial⟩ ?_
  exact t_Farms_mixed_p2 N d xs c r N x1 0
set_option maxHeartbeats 8000000 in
set_option maxRecDepth 100000 in
theorem tm_Farms_mixed (N d : Nat) (xs : List Int32) (c r : St) (a1 : Int64) (p : Int64) (hp : Farms_mixed N c a1 = some p) : mBig (mRoL xs) (d + 3) 27 [.ref 88, .long a1] (HP c r) (some (.long p)) (HP c r) 0 0 := mBig_of (by decide) rfl rfl rfl rfl (t_Farms_mixed N d xs c r a1 p hp)
/-! ColdHolds.mixRow(J[II)J, from ('l', ('r', 4), 'i') -/
def C_mixRow_5_p3b (N : Nat) (kb3 : Int64 → Int32 → Int32 → Option (Int64)) (c : St) (x0 : Int64) (x3 : Int32) (x4 : Int32) : Option (Int64) :=
  (if x3 ≤ x4 then some x0 else (ld (gA c 2) x4).bind fun y2 => (C_mix N x0 y2.toInt64).bind fun p3 => kb3 p3 x3 (x4 + 1))
def C_mixRow_5_p3 (N : Nat) (c : St) : Nat → Int64 → Int32 → Int32 → Option (Int64)
  | 0 => fun _ _ _ => none
  | n + 1 => C_mixRow_5_p3b N (C_mixRow_5_p3 N c n) c
def C_mixRow_5 (N : Nat) (c : St) (x0 : Int64) (x3 : Int32) : Option (Int64) :=
  C_mixRow_5_p3 N c N x0 x3 0
set_option maxHeartbeats 8000000 in
set_option maxRecDepth 100000 in
theorem t_C_mixRow_5_p3b (N d : Nat) (xs : List Int32) (c : St) (r : St) (kb3 : Int64 → Int32 → Int32 → Option (Int64)) (hb3 : ∀ (x0 : Int64) (x3 : Int32) (x4 : Int32), Ok (mBig (mRoL xs) (d + 1)) (mRoL xs) 3 mK107 (fun p : Int64 => (some (.long p), HP c r)) (kb3 x0 x3 x4) 3 [some (.long x0), none, some (.ref 4), some (.int x3), some (.int x4)] [] (HP c r)) (x0 : Int64) (x3 : Int32) (x4 : Int32) : Ok (mBig (mRoL xs) (d + 1)) (mRoL xs) 3 mK107 (fun p : Int64 => (some (.long p), HP c r)) (C_mixRow_5_p3b N kb3 c x0 x3 x4) 3 [some (.long x0), none, some (.ref 4), some (.int x3), some (.int x4)] [] (HP c r) := by
  unfold C_mixRow_5_p3b
  refine Ok_blk 3 (pc2 := (if x3 ≤ x4 then 25 else 9)) (lo2 := [some (.long x0), none, some (.ref 4), some (.int x3), some (.int x4)]) (st2 := []) rfl ?_
  refine Ok_if (fun h1 => ?_) (fun h1 => ?_)
  · refine Ok_blk 1 (pc2 := 26) (lo2 := [some (.long x0), none, some (.ref 4), some (.int x3), some (.int x4)]) (st2 := [.long x0]) rfl ?_
    exact Ok_ret rfl rfl rfl
  · refine Ok_blk 3 (pc2 := 13) (lo2 := [some (.long x0), none, some (.ref 4), some (.int x3), some (.int x4)]) (st2 := [.int x4, .ref 4, .long x0]) rfl ?_
    refine Ok_ld (l := (gA c 2)) rfl rfl (fun y2 hy2 => ?_)
    refine Ok_blk 1 (pc2 := 15) (lo2 := [some (.long x0), none, some (.ref 4), some (.int x3), some (.int x4)]) (st2 := [.long y2.toInt64, .long x0]) rfl ?_
    refine Ok_call (y := 106) (as := [.long x0, .long y2.toInt64]) (rest := []) (w := fun p3 => some (.long p3)) (h1 := fun p3 => HP c r) rfl rfl (fun x hx => tm_C_mix N d xs c r x0 y2.toInt64 x hx) (fun p3 hp3 => ?_)
    refine Ok_blk 3 (pc2 := 3) (lo2 := [some (.long p3), none, some (.ref 4), some (.int x3), some (.int (x4 + 1))]) (st2 := []) rfl ?_
    refine Ok_drop (lo0 := [some (.long p3), none, some (.ref 4), some (.int x3), some (.int (x4 + 1))]) ⟨Or.inr rfl, Or.inl rfl, Or.inr rfl, Or.inr rfl, Or.inr rfl, trivial⟩ ?_
    exact hb3 p3 x3 (x4 + 1)
set_option maxHeartbeats 8000000 in
set_option maxRecDepth 100000 in
theorem t_C_mixRow_5_p3 (N d : Nat) (xs : List Int32) (c : St) (r : St) : ∀ (n : Nat) (x0 : Int64) (x3 : Int32) (x4 : Int32), Ok (mBig (mRoL xs) (d + 1)) (mRoL xs) 3 mK107 (fun p : Int64 => (some (.long p), HP c r)) (C_mixRow_5_p3 N c n x0 x3 x4) 3 [some (.long x0), none, some (.ref 4), some (.int x3), some (.int x4)] [] (HP c r) := by
  intro n
  induction n with
  | zero => intro x0 x3 x4; exact Ok_none
  | succ n ih => intro x0 x3 x4; exact t_C_mixRow_5_p3b N d xs c r (C_mixRow_5_p3 N c n) ih x0 x3 x4
set_option maxHeartbeats 8000000 in
set_option maxRecDepth 100000 in
theorem t_C_mixRow_5 (N d : Nat) (xs : List Int32) (c : St) (r : St) (x0 : Int64) (x3 : Int32) : Ok (mBig (mRoL xs) (d + 1)) (mRoL xs) 3 mK107 (fun p : Int64 => (some (.long p), HP c r)) (C_mixRow_5 N c x0 x3) 0 [some (.long x0), none, some (.ref 4), some (.int x3), none] [] (HP c r) := by
  unfold C_mixRow_5
  refine Ok_blk 2 (pc2 := 3) (lo2 := [some (.long x0), none, some (.ref 4), some (.int x3), some (.int 0)]) (st2 := []) rfl ?_
  refine Ok_drop (lo0 := [some (.long x0), none, some (.ref 4), some (.int x3), some (.int 0)]) ⟨Or.inr rfl, Or.inl rfl, Or.inr rfl, Or.inr rfl, Or.inr rfl, trivial⟩ ?_
  exact t_C_mixRow_5_p3 N d xs c r N x0 x3 0
set_option maxHeartbeats 8000000 in
set_option maxRecDepth 100000 in
theorem tm_C_mixRow_5 (N d : Nat) (xs : List Int32) (c r : St) (a0 : Int64) (a2 : Int32) (p : Int64) (hp : C_mixRow_5 N c a0 a2 = some p) : mBig (mRoL xs) (d + 2) 107 [.long a0, .ref 4, .int a2] (HP c r) (some (.long p)) (HP c r) 0 0 := mBig_of (by decide) rfl rfl rfl rfl (t_C_mixRow_5 N d xs c r a0 a2 p hp)
/-! ColdHolds$Hold.mixed(J[I)J, from (('r', 1), 'l', ('r', 8)) -/
def Hold_mixed_p65b (N : Nat) (kb65 : Int64 → Int32 → Option (Int64)) (c : St) (x1 : Int64) (x4 : Int32) : Option (Int64) :=
  (if 1200 < x4 then some x1 else (Hold_seaOf N c x4).bind fun p4 => (C_mix N x1 p4.toInt64).bind fun p5 => kb65 p5 (x4 + 100))
def Hold_mixed_p65 (N : Nat) (c : St) : Nat → Int64 → Int32 → Option (Int64)
  | 0 => fun _ _ => none
  | n + 1 => Hold_mixed_p65b N (Hold_mixed_p65 N c n) c
def Hold_mixed_p3b (N : Nat) (kb3 : Int64 → Int32 → Option (Int64)) (c : St) (x1 : Int64) (x4 : Int32) : Option (Int64) :=
  (if 12 ≤ x4 then (C_mixRow_5 N c x1 3).bind fun p2 => Hold_mixed_p65 N c N p2 0 else (ld (gA c 5) x4).bind fun y6 => (C_mix N x1 y6.toInt64).bind fun p7 => (ld (gA c 0) x4).bind fun y8 => (C_mix N p7 y8.toInt64).bind fun p9 => (ld (gA c 1) x4).bind fun y10 => (C_mix N p9 y10.toInt64).bind fun p11 => kb3 p11 (x4 + 1))
def Hold_mixed_p3 (N : Nat) (c : St) : Nat → Int64 → Int32 → Option (Int64)
  | 0 => fun _ _ => none
  | n + 1 => Hold_mixed_p3b N (Hold_mixed_p3 N c n) c
def Hold_mixed (N : Nat) (c : St) (x1 : Int64) : Option (Int64) :=
  Hold_mixed_p3 N c N x1 0
set_option maxHeartbeats 8000000 in
set_option maxRecDepth 100000 in
theorem t_Hold_mixed_p65b (N d : Nat) (xs : List Int32) (c : St) (r : St) (kb65 : Int64 → Int32 → Option (Int64)) (hb65 : ∀ (x1 : Int64) (x4 : Int32), Ok (mBig (mRoL xs) (d + 2)) (mRoL xs) 3 mK34 (fun p : Int64 => (some (.long p), HP c r)) (kb65 x1 x4) 65 [some (.ref 1), some (.long x1), none, none, some (.int x4)] [] (HP c r)) (x1 : Int64) (x4 : Int32) : Ok (mBig (mRoL xs) (d + 2)) (mRoL xs) 3 mK34 (fun p : Int64 => (some (.long p), HP c r)) (Hold_mixed_p65b N kb65 c x1 x4) 65 [some (.ref 1), some (.long x1), none, none, some (.int x4)] [] (HP c r) := by
  unfold Hold_mixed_p65b
  refine Ok_blk 3 (pc2 := (if 1200 < x4 then 91 else 73)) (lo2 := [some (.ref 1), some (.long x1), none, none, some (.int x4)]) (st2 := []) rfl ?_
  refine Ok_if (fun h3 => ?_) (fun h3 => ?_)
  · refine Ok_blk 1 (pc2 := 92) (lo2 := [some (.ref 1), some (.long x1), none, none, some (.int x4)]) (st2 := [.long x1]) rfl ?_
    exact Ok_ret rfl rfl rfl
  · refine Ok_blk 3 (pc2 := 77) (lo2 := [some (.ref 1), some (.long x1), none, none, some (.int x4)]) (st2 := [.int x4, .ref 1, .long x1]) rfl ?_
    refine Ok_call (y := 31) (as := [.ref 1, .int x4]) (rest := [.long x1]) (w := fun p4 => some (.int p4)) (h1 := fun p4 => HP c r) rfl rfl (fun x hx => tm_Hold_seaOf N (d + 1) xs c r x4 x hx) (fun p4 hp4 => ?_)
    refine Ok_blk 1 (pc2 := 81) (lo2 := [some (.ref 1), some (.long x1), none, none, some (.int x4)]) (st2 := [.long p4.toInt64, .long x1]) rfl ?_
    refine Ok_call (y := 106) (as := [.long x1, .long p4.toInt64]) (rest := []) (w := fun p5 => some (.long p5)) (h1 := fun p5 => HP c r) rfl rfl (fun x hx => tm_C_mix N (d + 1) xs c r x1 p4.toInt64 x hx) (fun p5 hp5 => ?_)
    refine Ok_blk 3 (pc2 := 65) (lo2 := [some (.ref 1), some (.long p5), none, none, some (.int (x4 + 100))]) (st2 := []) rfl ?_
    refine Ok_drop (lo0 := [some (.ref 1), some (.long p5), none, none, some (.int (x4 + 100))]) ⟨Or.inr rfl, Or.inr rfl, Or.inl rfl, Or.inl rfl, Or.inr rfl, trivial⟩ ?_
    exact hb65 p5 (x4 + 100)
set_option maxHeartbeats 8000000 in
set_option maxRecDepth 100000 in
theorem t_Hold_mixed_p65 (N d : Nat) (xs : List Int32) (c : St) (r : St) : ∀ (n : Nat) (x1 : Int64) (x4 : Int32), Ok (mBig (mRoL xs) (d + 2)) (mRoL xs) 3 mK34 (fun p : Int64 => (some (.long p), HP c r)) (Hold_mixed_p65 N c n x1 x4) 65 [some (.ref 1), some (.long x1), none, none, some (.int x4)] [] (HP c r) := by
  intro n
  induction n with
  | zero => intro x1 x4; exact Ok_none
  | succ n ih => intro x1 x4; exact t_Hold_mixed_p65b N d xs c r (Hold_mixed_p65 N c n) ih x1 x4
set_option maxHeartbeats 8000000 in
set_option maxRecDepth 100000 in
theorem t_Hold_mixed_p3b (N d : Nat) (xs : List Int32) (c : St) (r : St) (kb3 : Int64 → Int32 → Option (Int64)) (hb3 : ∀ (x1 : Int64) (x4 : Int32), Ok (mBig (mRoL xs) (d + 2)) (mRoL xs) 3 mK34 (fun p : Int64 => (some (.long p), HP c r)) (kb3 x1 x4) 3 [some (.ref 1), some (.long x1), none, some (.ref 8), some (.int x4)] [] (HP c r)) (x1 : Int64) (x4 : Int32) : Ok (mBig (mRoL xs) (d + 2)) (mRoL xs) 3 mK34 (fun p : Int64 => (some (.long p), HP c r)) (Hold_mixed_p3b N kb3 c x1 x4) 3 [some (.ref 1), some (.long x1), none, some (.ref 8), some (.int x4)] [] (HP c r) := by
  unfold Hold_mixed_p3b
  refine Ok_blk 3 (pc2 := (if 12 ≤ x4 then 52 else 10)) (lo2 := [some (.ref 1), some (.long x1), none, some (.ref 8), some (.int x4)]) (st2 := []) rfl ?_
  refine Ok_if (fun h1 => ?_) (fun h1 => ?_)
  · refine Ok_blk 4 (pc2 := 58) (lo2 := [some (.ref 1), some (.long x1), none, some (.ref 8), some (.int x4)]) (st2 := [.int 3, .ref 4, .long x1]) rfl ?_
    refine Ok_call (y := 107) (as := [.long x1, .ref 4, .int 3]) (rest := []) (w := fun p2 => some (.long p2)) (h1 := fun p2 => HP c r) rfl rfl (fun x hx => tm_C_mixRow_5 N d xs c r x1 3 x hx) (fun p2 hp2 => ?_)
    refine Ok_blk 3 (pc2 := 65) (lo2 := [some (.ref 1), some (.long p2), none, some (.ref 8), some (.int 0)]) (st2 := []) rfl ?_
    refine Ok_drop (lo0 := [some (.ref 1), some (.long p2), none, none, some (.int 0)]) ⟨Or.inr rfl, Or.inr rfl, Or.inl rfl, Or.inl rfl, Or.inr rfl, trivial⟩ ?_
    exact t_Hold_mixed_p65 N d xs c r N p2 0
  · refine Ok_blk 3 (pc2 := 14) (lo2 := [some (.ref 1), some (.long x1), none, some (.ref 8), some (.int x4)]) (st2 := [.int x4, .ref 8, .long x1]) rfl ?_
    refine Ok_ld (l := (gA c 5)) rfl rfl (fun y6 hy6 => ?_)
    refine Ok_blk 1 (pc2 := 16) (lo2 := [some (.ref 1), some (.long x1), none, some (.ref 8), some (.int x4)]) (st2 := [.long y6.toInt64, .long x1]) rfl ?_
    refine Ok_call (y := 106) (as := [.long x1, .long y6.toInt64]) (rest := []) (w := fun p7 => some (.long p7)) (h1 := fun p7 => HP c r) rfl rfl (fun x hx => tm_C_mix N (d + 1) xs c r x1 y6.toInt64 x hx) (fun p7 hp7 => ?_)
    refine Ok_blk 5 (pc2 := 27) (lo2 := [some (.ref 1), some (.long p7), none, some (.ref 8), some (.int x4)]) (st2 := [.int x4, .ref 2, .long p7]) rfl ?_
    refine Ok_ld (l := (gA c 0)) rfl rfl (fun y8 hy8 => ?_)
    refine Ok_blk 1 (pc2 := 29) (lo2 := [some (.ref 1), some (.long p7), none, some (.ref 8), some (.int x4)]) (st2 := [.long y8.toInt64, .long p7]) rfl ?_
    refine Ok_call (y := 106) (as := [.long p7, .long y8.toInt64]) (rest := []) (w := fun p9 => some (.long p9)) (h1 := fun p9 => HP c r) rfl rfl (fun x hx => tm_C_mix N (d + 1) xs c r p7 y8.toInt64 x hx) (fun p9 hp9 => ?_)
    refine Ok_blk 5 (pc2 := 40) (lo2 := [some (.ref 1), some (.long p9), none, some (.ref 8), some (.int x4)]) (st2 := [.int x4, .ref 3, .long p9]) rfl ?_
    refine Ok_ld (l := (gA c 1)) rfl rfl (fun y10 hy10 => ?_)
    refine Ok_blk 1 (pc2 := 42) (lo2 := [some (.ref 1), some (.long p9), none, some (.ref 8), some (.int x4)]) (st2 := [.long y10.toInt64, .long p9]) rfl ?_
    refine Ok_call (y := 106) (as := [.long p9, .long y10.toInt64]) (rest := []) (w := fun p11 => some (.long p11)) (h1 := fun p11 => HP c r) rfl rfl (fun x hx => tm_C_mix N (d + 1) xs c r p9 y10.toInt64 x hx) (fun p11 hp11 => ?_)
    refine Ok_blk 3 (pc2 := 3) (lo2 := [some (.ref 1), some (.long p11), none, some (.ref 8), some (.int (x4 + 1))]) (st2 := []) rfl ?_
    refine Ok_drop (lo0 := [some (.ref 1), some (.long p11), none, some (.ref 8), some (.int (x4 + 1))]) ⟨Or.inr rfl, Or.inr rfl, Or.inl rfl, Or.inr rfl, Or.inr rfl, trivial⟩ ?_
    exact hb3 p11 (x4 + 1)
set_option maxHeartbeats 8000000 in
set_option maxRecDepth 100000 in
theorem t_Hold_mixed_p3 (N d : Nat) (xs : List Int32) (c : St) (r : St) : ∀ (n : Nat) (x1 : Int64) (x4 : Int32), Ok (mBig (mRoL xs) (d + 2)) (mRoL xs) 3 mK34 (fun p : Int64 => (some (.long p), HP c r)) (Hold_mixed_p3 N c n x1 x4) 3 [some (.ref 1), some (.long x1), none, some (.ref 8), some (.int x4)] [] (HP c r) := by
  intro n
  induction n with
  | zero => intro x1 x4; exact Ok_none
  | succ n ih => intro x1 x4; exact t_Hold_mixed_p3b N d xs c r (Hold_mixed_p3 N c n) ih x1 x4
set_option maxHeartbeats 8000000 in
set_option maxRecDepth 100000 in
theorem t_Hold_mixed (N d : Nat) (xs : List Int32) (c : St) (r : St) (x1 : Int64) : Ok (mBig (mRoL xs) (d + 2)) (mRoL xs) 3 mK34 (fun p : Int64 => (some (.long p), HP c r)) (Hold_mixed N c x1) 0 [some (.ref 1), some (.long x1), none, some (.ref 8), none] [] (HP c r) := by
  unfold Hold_mixed
  refine Ok_blk 2 (pc2 := 3) (lo2 := [some (.ref 1), some (.long x1), none, some (.ref 8), some (.int 0)]) (st2 := []) rfl ?_
  refine Ok_drop (lo0 := [some (.ref 1), some (.long x1), none, some (.ref 8), some (.int 0)]) ⟨Or.inr rfl, Or.inr rfl, Or.inl rfl, Or.inr rfl, Or.inr rfl, trivial⟩ ?_
  exact t_Hold_mixed_p3 N d xs c r N x1 0
set_option maxHeartbeats 8000000 in
set_option maxRecDepth 100000 in
theorem tm_Hold_mixed (N d : Nat) (xs : List Int32) (c r : St) (a1 : Int64) (p : Int64) (hp : Hold_mixed N c a1 = some p) : mBig (mRoL xs) (d + 3) 34 [.ref 1, .long a1, .ref 8] (HP c r) (some (.long p)) (HP c r) 0 0 := mBig_of (by decide) rfl rfl rfl rfl (t_Hold_mixed N d xs c r a1 p hp)
/-! ColdHolds.mixRow(J[II)J, from ('l', ('r', 83), 'i') -/
def C_mixRow_6_p3b (N : Nat) (kb3 : Int64 → Int32 → Int32 → Option (Int64)) (c : St) (x0 : Int64) (x3 : Int32) (x4 : Int32) : Option (Int64) :=
  (if x3 ≤ x4 then some x0 else (ld (gA c 68) x4).bind fun y2 => (C_mix N x0 y2.toInt64).bind fun p3 => kb3 p3 x3 (x4 + 1))
def C_mixRow_6_p3 (N : Nat) (c : St) : Nat → Int64 → Int32 → Int32 → Option (Int64)
  | 0 => fun _ _ _ => none
  | n + 1 => C_mixRow_6_p3b N (C_mixRow_6_p3 N c n) c
def C_mixRow_6 (N : Nat) (c : St) (x0 : Int64) (x3 : Int32) : Option (Int64) :=
  C_mixRow_6_p3 N c N x0 x3 0
set_option maxHeartbeats 8000000 in
set_option maxRecDepth 100000 in
theorem t_C_mixRow_6_p3b (N d : Nat) (xs : List Int32) (c : St) (r : St) (kb3 : Int64 → Int32 → Int32 → Option (Int64)) (hb3 : ∀ (x0 : Int64) (x3 : Int32) (x4 : Int32), Ok (mBig (mRoL xs) (d + 1)) (mRoL xs) 3 mK107 (fun p : Int64 => (some (.long p), HP c r)) (kb3 x0 x3 x4) 3 [some (.long x0), none, some (.ref 83), some (.int x3), some (.int x4)] [] (HP c r)) (x0 : Int64) (x3 : Int32) (x4 : Int32) : Ok (mBig (mRoL xs) (d + 1)) (mRoL xs) 3 mK107 (fun p : Int64 => (some (.long p), HP c r)) (C_mixRow_6_p3b N kb3 c x0 x3 x4) 3 [some (.long x0), none, some (.ref 83), some (.int x3), some (.int x4)] [] (HP c r) := by
  unfold C_mixRow_6_p3b
  refine Ok_blk 3 (pc2 := (if x3 ≤ x4 then 25 else 9)) (lo2 := [some (.long x0), none, some (.ref 83), some (.int x3), some (.int x4)]) (st2 := []) rfl ?_
  refine Ok_if (fun h1 => ?_) (fun h1 => ?_)
  · refine Ok_blk 1 (pc2 := 26) (lo2 := [some (.long x0), none, some (.ref 83), some (.int x3), some (.int x4)]) (st2 := [.long x0]) rfl ?_
    exact Ok_ret rfl rfl rfl
  · refine Ok_blk 3 (pc2 := 13) (lo2 := [some (.long x0), none, some (.ref 83), some (.int x3), some (.int x4)]) (st2 := [.int x4, .ref 83, .long x0]) rfl ?_
    refine Ok_ld (l := (gA c 68)) rfl rfl (fun y2 hy2 => ?_)
    refine Ok_blk 1 (pc2 := 15) (lo2 := [some (.long x0), none, some (.ref 83), some (.int x3), some (.int x4)]) (st2 := [.long y2.toInt64, .long x0]) rfl ?_
    refine Ok_call (y := 106) (as := [.long x0, .long y2.toInt64]) (rest := []) (w := fun p3 => some (.long p3)) (h1 := fun p3 => HP c r) rfl rfl (fun x hx => tm_C_mix N d xs c r x0 y2.toInt64 x hx) (fun p3 hp3 => ?_)
    refine Ok_blk 3 (pc2 := 3) (lo2 := [some (.long p3), none, some (.ref 83), some (.int x3), some (.int (x4 + 1))]) (st2 := []) rfl ?_
    refine Ok_drop (lo0 := [some (.long p3), none, some (.ref 83), some (.int x3), some (.int (x4 + 1))]) ⟨Or.inr rfl, Or.inl rfl, Or.inr rfl, Or.inr rfl, Or.inr rfl, trivial⟩ ?_
    exact hb3 p3 x3 (x4 + 1)
set_option maxHeartbeats 8000000 in
set_option maxRecDepth 100000 in
theorem t_C_mixRow_6_p3 (N d : Nat) (xs : List Int32) (c : St) (r : St) : ∀ (n : Nat) (x0 : Int64) (x3 : Int32) (x4 : Int32), Ok (mBig (mRoL xs) (d + 1)) (mRoL xs) 3 mK107 (fun p : Int64 => (some (.long p), HP c r)) (C_mixRow_6_p3 N c n x0 x3 x4) 3 [some (.long x0), none, some (.ref 83), some (.int x3), some (.int x4)] [] (HP c r) := by
  intro n
  induction n with
  | zero => intro x0 x3 x4; exact Ok_none
  | succ n ih => intro x0 x3 x4; exact t_C_mixRow_6_p3b N d xs c r (C_mixRow_6_p3 N c n) ih x0 x3 x4
set_option maxHeartbeats 8000000 in
set_option maxRecDepth 100000 in
theorem t_C_mixRow_6 (N d : Nat) (xs : List Int32) (c : St) (r : St) (x0 : Int64) (x3 : Int32) : Ok (mBig (mRoL xs) (d + 1)) (mRoL xs) 3 mK107 (fun p : Int64 => (some (.long p), HP c r)) (C_mixRow_6 N c x0 x3) 0 [some (.long x0), none, some (.ref 83), some (.int x3), none] [] (HP c r) := by
  unfold C_mixRow_6
  refine Ok_blk 2 (pc2 := 3) (lo2 := [some (.long x0), none, some (.ref 83), some (.int x3), some (.int 0)]) (st2 := []) rfl ?_
  refine Ok_drop (lo0 := [some (.long x0), none, some (.ref 83), some (.int x3), some (.int 0)]) ⟨Or.inr rfl, Or.inl rfl, Or.inr rfl, Or.inr rfl, Or.inr rfl, trivial⟩ ?_
  exact t_C_mixRow_6_p3 N d xs c r N x0 x3 0
set_option maxHeartbeats 8000000 in
set_option maxRecDepth 100000 in
theorem tm_C_mixRow_6 (N d : Nat) (xs : List Int32) (c r : St) (a0 : Int64) (a2 : Int32) (p : Int64) (hp : C_mixRow_6 N c a0 a2 = some p) : mBig (mRoL xs) (d + 2) 107 [.long a0, .ref 83, .int a2] (HP c r) (some (.long p)) (HP c r) 0 0 := mBig_of (by decide) rfl rfl rfl rfl (t_C_mixRow_6 N d xs c r a0 a2 p hp)
/-! ColdHolds$Market.mixed(J)J, from (('r', 82), 'l') -/
def Market_mixed_p12b (N : Nat) (kb12 : Int64 → Int32 → Option (Int64)) (c : St) (x1 : Int64) (x3 : Int32) : Option (Int64) :=
  (if (gI c 24) ≤ x3 then some x1 else (ld (gA c 69) x3).bind fun y3 => (C_mix N x1 y3.toInt64).bind fun p4 => (ld (gA c 70) x3).bind fun y5 => (C_mix N p4 y5.toInt64).bind fun p6 => kb12 p6 (x3 + 1))
def Market_mixed_p12 (N : Nat) (c : St) : Nat → Int64 → Int32 → Option (Int64)
  | 0 => fun _ _ => none
  | n + 1 => Market_mixed_p12b N (Market_mixed_p12 N c n) c
def Market_mixed (N : Nat) (c : St) (x1 : Int64) : Option (Int64) :=
  (C_mixRow_6 N c x1 4).bind fun p1 => Market_mixed_p12 N c N p1 0
set_option maxHeartbeats 8000000 in
set_option maxRecDepth 100000 in
theorem t_Market_mixed_p12b (N d : Nat) (xs : List Int32) (c : St) (r : St) (kb12 : Int64 → Int32 → Option (Int64)) (hb12 : ∀ (x1 : Int64) (x3 : Int32), Ok (mBig (mRoL xs) (d + 2)) (mRoL xs) 3 mK58 (fun p : Int64 => (some (.long p), HP c r)) (kb12 x1 x3) 12 [some (.ref 82), some (.long x1), none, some (.int x3)] [] (HP c r)) (x1 : Int64) (x3 : Int32) : Ok (mBig (mRoL xs) (d + 2)) (mRoL xs) 3 mK58 (fun p : Int64 => (some (.long p), HP c r)) (Market_mixed_p12b N kb12 c x1 x3) 12 [some (.ref 82), some (.long x1), none, some (.int x3)] [] (HP c r) := by
  unfold Market_mixed_p12b
  refine Ok_blk 4 (pc2 := (if (gI c 24) ≤ x3 then 50 else 20)) (lo2 := [some (.ref 82), some (.long x1), none, some (.int x3)]) (st2 := []) rfl ?_
  refine Ok_if (fun h2 => ?_) (fun h2 => ?_)
  · refine Ok_blk 1 (pc2 := 51) (lo2 := [some (.ref 82), some (.long x1), none, some (.int x3)]) (st2 := [.long x1]) rfl ?_
    exact Ok_ret rfl rfl rfl
  · refine Ok_blk 4 (pc2 := 26) (lo2 := [some (.ref 82), some (.long x1), none, some (.int x3)]) (st2 := [.int x3, .ref 84, .long x1]) rfl ?_
    refine Ok_ld (l := (gA c 69)) rfl rfl (fun y3 hy3 => ?_)
    refine Ok_blk 1 (pc2 := 28) (lo2 := [some (.ref 82), some (.long x1), none, some (.int x3)]) (st2 := [.long y3.toInt64, .long x1]) rfl ?_
    refine Ok_call (y := 106) (as := [.long x1, .long y3.toInt64]) (rest := []) (w := fun p4 => some (.long p4)) (h1 := fun p4 => HP c r) rfl rfl (fun x hx => tm_C_mix N (d + 1) xs c r x1 y3.toInt64 x hx) (fun p4 hp4 => ?_)
    refine Ok_blk 5 (pc2 := 38) (lo2 := [some (.ref 82), some (.long p4), none, some (.int x3)]) (st2 := [.int x3, .ref 85, .long p4]) rfl ?_
    refine Ok_ld (l := (gA c 70)) rfl rfl (fun y5 hy5 => ?_)
    refine Ok_blk 1 (pc2 := 40) (lo2 := [some (.ref 82), some (.long p4), none, some (.int x3)]) (st2 := [.long y5.toInt64, .long p4]) rfl ?_
    refine Ok_call (y := 106) (as := [.long p4, .long y5.toInt64]) (rest := []) (w := fun p6 => some (.long p6)) (h1 := fun p6 => HP c r) rfl rfl (fun x hx => tm_C_mix N (d + 1) xs c r p4 y5.toInt64 x hx) (fun p6 hp6 => ?_)
    refine Ok_blk 3 (pc2 := 12) (lo2 := [some (.ref 82), some (.long p6), none, some (.int (x3 + 1))]) (st2 := []) rfl ?_
    refine Ok_drop (lo0 := [some (.ref 82), some (.long p6), none, some (.int (x3 + 1))]) ⟨Or.inr rfl, Or.inr rfl, Or.inl rfl, Or.inr rfl, trivial⟩ ?_
    exact hb12 p6 (x3 + 1)
set_option maxHeartbeats 8000000 in
set_option maxRecDepth 100000 in
theorem t_Market_mixed_p12 (N d : Nat) (xs : List Int32) (c : St) (r : St) : ∀ (n : Nat) (x1 : Int64) (x3 : Int32), Ok (mBig (mRoL xs) (d + 2)) (mRoL xs) 3 mK58 (fun p : Int64 => (some (.long p), HP c r)) (Market_mixed_p12 N c n x1 x3) 12 [some (.ref 82), some (.long x1), none, some (.int x3)] [] (HP c r) := by
  intro n
  induction n with
  | zero => intro x1 x3; exact Ok_none
  | succ n ih => intro x1 x3; exact t_Market_mixed_p12b N d xs c r (Market_mixed_p12 N c n) ih x1 x3
set_option maxHeartbeats 8000000 in
set_option maxRecDepth 100000 in
theorem t_Market_mixed (N d : Nat) (xs : List Int32) (c : St) (r : St) (x1 : Int64) : Ok (mBig (mRoL xs) (d + 2)) (mRoL xs) 3 mK58 (fun p : Int64 => (some (.long p), HP c r)) (Market_mixed N c x1) 0 [some (.ref 82), some (.long x1), none, none] [] (HP c r) := by
  unfold Market_mixed
  refine Ok_blk 4 (pc2 := 6) (lo2 := [some (.ref 82), some (.long x1), none, none]) (st2 := [.int 4, .ref 83, .long x1]) rfl ?_
  refine Ok_call (y := 107) (as := [.long x1, .ref 83, .int 4]) (rest := []) (w := fun p1 => some (.long p1)) (h1 := fun p1 => HP c r) rfl rfl (fun x hx => tm_C_mixRow_6 N d xs c r x1 4 x hx) (fun p1 hp1 => ?_)
  refine Ok_blk 3 (pc2 := 12) (lo2 := [some (.ref 82), some (.long p1), none, some (.int 0)]) (st2 := []) rfl ?_
  refine Ok_drop (lo0 := [some (.ref 82), some (.long p1), none, some (.int 0)]) ⟨Or.inr rfl, Or.inr rfl, Or.inl rfl, Or.inr rfl, trivial⟩ ?_
  exact t_Market_mixed_p12 N d xs c r N p1 0
set_option maxHeartbeats 8000000 in
set_option maxRecDepth 100000 in
theorem tm_Market_mixed (N d : Nat) (xs : List Int32) (c r : St) (a1 : Int64) (p : Int64) (hp : Market_mixed N c a1 = some p) : mBig (mRoL xs) (d + 3) 58 [.ref 82, .long a1] (HP c r) (some (.long p)) (HP c r) 0 0 := mBig_of (by decide) rfl rfl rfl rfl (t_Market_mixed N d xs c r a1 p hp)
/-! ColdHolds$Readings.mixed(J)J, from (('r', 59), 'l') -/
def Readings_mixed_p12b (N : Nat) (kb12 : Int64 → Int32 → Option (Int64)) (c : St) (x1 : Int64) (x3 : Int32) : Option (Int64) :=
  (if (gI c 15) ≤ x3 then some x1 else (ld (gA c 49) x3).bind fun y3 => (C_mix N x1 y3.toInt64).bind fun p4 => (ld (gA c 50) x3).bind fun y5 => (C_mix N p4 y5.toInt64).bind fun p6 => kb12 p6 (x3 + 1))
def Readings_mixed_p12 (N : Nat) (c : St) : Nat → Int64 → Int32 → Option (Int64)
  | 0 => fun _ _ => none
  | n + 1 => Readings_mixed_p12b N (Readings_mixed_p12 N c n) c
def Readings_mixed (N : Nat) (c : St) (x1 : Int64) : Option (Int64) :=
  (C_mix N x1 ((gI c 16).toInt64)).bind fun p1 => Readings_mixed_p12 N c N p1 0
set_option maxHeartbeats 8000000 in
set_option maxRecDepth 100000 in
theorem t_Readings_mixed_p12b (N d : Nat) (xs : List Int32) (c : St) (r : St) (kb12 : Int64 → Int32 → Option (Int64)) (hb12 : ∀ (x1 : Int64) (x3 : Int32), Ok (mBig (mRoL xs) (d + 1)) (mRoL xs) 3 mK66 (fun p : Int64 => (some (.long p), HP c r)) (kb12 x1 x3) 12 [some (.ref 59), some (.long x1), none, some (.int x3)] [] (HP c r)) (x1 : Int64) (x3 : Int32) : Ok (mBig (mRoL xs) (d + 1)) (mRoL xs) 3 mK66 (fun p : Int64 => (some (.long p), HP c r)) (Readings_mixed_p12b N kb12 c x1 x3) 12 [some (.ref 59), some (.long x1), none, some (.int x3)] [] (HP c r) := by
  unfold Readings_mixed_p12b
  refine Ok_blk 4 (pc2 := (if (gI c 15) ≤ x3 then 50 else 20)) (lo2 := [some (.ref 59), some (.long x1), none, some (.int x3)]) (st2 := []) rfl ?_
  refine Ok_if (fun h2 => ?_) (fun h2 => ?_)
  · refine Ok_blk 1 (pc2 := 51) (lo2 := [some (.ref 59), some (.long x1), none, some (.int x3)]) (st2 := [.long x1]) rfl ?_
    exact Ok_ret rfl rfl rfl
  · refine Ok_blk 4 (pc2 := 26) (lo2 := [some (.ref 59), some (.long x1), none, some (.int x3)]) (st2 := [.int x3, .ref 60, .long x1]) rfl ?_
    refine Ok_ld (l := (gA c 49)) rfl rfl (fun y3 hy3 => ?_)
    refine Ok_blk 1 (pc2 := 28) (lo2 := [some (.ref 59), some (.long x1), none, some (.int x3)]) (st2 := [.long y3.toInt64, .long x1]) rfl ?_
    refine Ok_call (y := 106) (as := [.long x1, .long y3.toInt64]) (rest := []) (w := fun p4 => some (.long p4)) (h1 := fun p4 => HP c r) rfl rfl (fun x hx => tm_C_mix N d xs c r x1 y3.toInt64 x hx) (fun p4 hp4 => ?_)
    refine Ok_blk 5 (pc2 := 38) (lo2 := [some (.ref 59), some (.long p4), none, some (.int x3)]) (st2 := [.int x3, .ref 61, .long p4]) rfl ?_
    refine Ok_ld (l := (gA c 50)) rfl rfl (fun y5 hy5 => ?_)
    refine Ok_blk 1 (pc2 := 40) (lo2 := [some (.ref 59), some (.long p4), none, some (.int x3)]) (st2 := [.long y5.toInt64, .long p4]) rfl ?_
    refine Ok_call (y := 106) (as := [.long p4, .long y5.toInt64]) (rest := []) (w := fun p6 => some (.long p6)) (h1 := fun p6 => HP c r) rfl rfl (fun x hx => tm_C_mix N d xs c r p4 y5.toInt64 x hx) (fun p6 hp6 => ?_)
    refine Ok_blk 3 (pc2 := 12) (lo2 := [some (.ref 59), some (.long p6), none, some (.int (x3 + 1))]) (st2 := []) rfl ?_
    refine Ok_drop (lo0 := [some (.ref 59), some (.long p6), none, some (.int (x3 + 1))]) ⟨Or.inr rfl, Or.inr rfl, Or.inl rfl, Or.inr rfl, trivial⟩ ?_
    exact hb12 p6 (x3 + 1)
set_option maxHeartbeats 8000000 in
set_option maxRecDepth 100000 in
theorem t_Readings_mixed_p12 (N d : Nat) (xs : List Int32) (c : St) (r : St) : ∀ (n : Nat) (x1 : Int64) (x3 : Int32), Ok (mBig (mRoL xs) (d + 1)) (mRoL xs) 3 mK66 (fun p : Int64 => (some (.long p), HP c r)) (Readings_mixed_p12 N c n x1 x3) 12 [some (.ref 59), some (.long x1), none, some (.int x3)] [] (HP c r) := by
  intro n
  induction n with
  | zero => intro x1 x3; exact Ok_none
  | succ n ih => intro x1 x3; exact t_Readings_mixed_p12b N d xs c r (Readings_mixed_p12 N c n) ih x1 x3
set_option maxHeartbeats 8000000 in
set_option maxRecDepth 100000 in
theorem t_Readings_mixed (N d : Nat) (xs : List Int32) (c : St) (r : St) (x1 : Int64) : Ok (mBig (mRoL xs) (d + 1)) (mRoL xs) 3 mK66 (fun p : Int64 => (some (.long p), HP c r)) (Readings_mixed N c x1) 0 [some (.ref 59), some (.long x1), none, none] [] (HP c r) := by
  unfold Readings_mixed
  refine Ok_blk 4 (pc2 := 6) (lo2 := [some (.ref 59), some (.long x1), none, none]) (st2 := [.long ((gI c 16).toInt64), .long x1]) rfl ?_
  refine Ok_call (y := 106) (as := [.long x1, .long ((gI c 16).toInt64)]) (rest := []) (w := fun p1 => some (.long p1)) (h1 := fun p1 => HP c r) rfl rfl (fun x hx => tm_C_mix N d xs c r x1 ((gI c 16).toInt64) x hx) (fun p1 hp1 => ?_)
  refine Ok_blk 3 (pc2 := 12) (lo2 := [some (.ref 59), some (.long p1), none, some (.int 0)]) (st2 := []) rfl ?_
  refine Ok_drop (lo0 := [some (.ref 59), some (.long p1), none, some (.int 0)]) ⟨Or.inr rfl, Or.inr rfl, Or.inl rfl, Or.inr rfl, trivial⟩ ?_
  exact t_Readings_mixed_p12 N d xs c r N p1 0
set_option maxHeartbeats 8000000 in
set_option maxRecDepth 100000 in
theorem tm_Readings_mixed (N d : Nat) (xs : List Int32) (c r : St) (a1 : Int64) (p : Int64) (hp : Readings_mixed N c a1 = some p) : mBig (mRoL xs) (d + 2) 66 [.ref 59, .long a1] (HP c r) (some (.long p)) (HP c r) 0 0 := mBig_of (by decide) rfl rfl rfl rfl (t_Readings_mixed N d xs c r a1 p hp)
/-! ColdHolds.mixRow(J[II)J, from ('l', ('r', 101), 'i') -/
def C_mixRow_7_p3b (N : Nat) (kb3 : Int64 → Int32 → Int32 → Option (Int64)) (c : St) (x0 : Int64) (x3 : Int32) (x4 : Int32) : Option (Int64) :=
  (if x3 ≤ x4 then some x0 else (ld (gA c 83) x4).bind fun y2 => (C_mix N x0 y2.toInt64).bind fun p3 => kb3 p3 x3 (x4 + 1))
def C_mixRow_7_p3 (N : Nat) (c : St) : Nat → Int64 → Int32 → Int32 → Option (Int64)
  | 0 => fun _ _ _ => none
  | n + 1 => C_mixRow_7_p3b N (C_mixRow_7_p3 N c n) c
def C_mixRow_7 (N : Nat) (c : St) (x0 : Int64) (x3 : Int32) : Option (Int64) :=
  C_mixRow_7_p3 N c N x0 x3 0
set_option maxHeartbeats 8000000 in
set_option maxRecDepth 100000 in
theorem t_C_mixRow_7_p3b (N d : Nat) (xs : List Int32) (c : St) (r : St) (kb3 : Int64 → Int32 → Int32 → Option (Int64)) (hb3 : ∀ (x0 : Int64) (x3 : Int32) (x4 : Int32), Ok (mBig (mRoL xs) (d + 1)) (mRoL xs) 3 mK107 (fun p : Int64 => (some (.long p), HP c r)) (kb3 x0 x3 x4) 3 [some (.long x0), none, some (.ref 101), some (.int x3), some (.int x4)] [] (HP c r)) (x0 : Int64) (x3 : Int32) (x4 : Int32) : Ok (mBig (mRoL xs) (d + 1)) (mRoL xs) 3 mK107 (fun p : Int64 => (some (.long p), HP c r)) (C_mixRow_7_p3b N kb3 c x0 x3 x4) 3 [some (.long x0), none, some (.ref 101), some (.int x3), some (.int x4)] [] (HP c r) := by
  unfold C_mixRow_7_p3b
  refine Ok_blk 3 (pc2 := (if x3 ≤ x4 then 25 else 9)) (lo2 := [some (.long x0), none, some (.ref 101), some (.int x3), some (.int x4)]) (st2 := []) rfl ?_
  refine Ok_if (fun h1 => ?_) (fun h1 => ?_)
  · refine Ok_blk 1 (pc2 := 26) (lo2 := [some (.long x0), none, some (.ref 101), some (.int x3), some (.int x4)]) (st2 := [.long x0]) rfl ?_
    exact Ok_ret rfl rfl rfl
  · refine Ok_blk 3 (pc2 := 13) (lo2 := [some (.long x0), none, some (.ref 101), some (.int x3), some (.int x4)]) (st2 := [.int x4, .ref 101, .long x0]) rfl ?_
    refine Ok_ld (l := (gA c 83)) rfl rfl (fun y2 hy2 => ?_)
    refine Ok_blk 1 (pc2 := 15) (lo2 := [some (.long x0), none, some (.ref 101), some (.int x3), some (.int x4)]) (st2 := [.long y2.toInt64, .long x0]) rfl ?_
    refine Ok_call (y := 106) (as := [.long x0, .long y2.toInt64]) (rest := []) (w := fun p3 => some (.long p3)) (h1 := fun p3 => HP c r) rfl rfl (fun x hx => tm_C_mix N d xs c r x0 y2.toInt64 x hx) (fun p3 hp3 => ?_)
    refine Ok_blk 3 (pc2 := 3) (lo2 := [some (.long p3), none, some (.ref 101), some (.int x3), some (.int (x4 + 1))]) (st2 := []) rfl ?_
    refine Ok_drop (lo0 := [some (.long p3), none, some (.ref 101), some (.int x3), some (.int (x4 + 1))]) ⟨Or.inr rfl, Or.inl rfl, Or.inr rfl, Or.inr rfl, Or.inr rfl, trivial⟩ ?_
    exact hb3 p3 x3 (x4 + 1)
set_option maxHeartbeats 8000000 in
set_option maxRecDepth 100000 in
theorem t_C_mixRow_7_p3 (N d : Nat) (xs : List Int32) (c : St) (r : St) : ∀ (n : Nat) (x0 : Int64) (x3 : Int32) (x4 : Int32), Ok (mBig (mRoL xs) (d + 1)) (mRoL xs) 3 mK107 (fun p : Int64 => (some (.long p), HP c r)) (C_mixRow_7_p3 N c n x0 x3 x4) 3 [some (.long x0), none, some (.ref 101), some (.int x3), some (.int x4)] [] (HP c r) := by
  intro n
  induction n with
  | zero => intro x0 x3 x4; exact Ok_none
  | succ n ih => intro x0 x3 x4; exact t_C_mixRow_7_p3b N d xs c r (C_mixRow_7_p3 N c n) ih x0 x3 x4
set_option maxHeartbeats 8000000 in
set_option maxRecDepth 100000 in
theorem t_C_mixRow_7 (N d : Nat) (xs : List Int32) (c : St) (r : St) (x0 : Int64) (x3 : Int32) : Ok (mBig (mRoL xs) (d + 1)) (mRoL xs) 3 mK107 (fun p : Int64 => (some (.long p), HP c r)) (C_mixRow_7 N c x0 x3) 0 [some (.long x0), none, some (.ref 101), some (.int x3), none] [] (HP c r) := by
  unfold C_mixRow_7
  refine Ok_blk 2 (pc2 := 3) (lo2 := [some (.long x0), none, some (.ref 101), some (.int x3), some (.int 0)]) (st2 := []) rfl ?_
  refine Ok_drop (lo0 := [some (.long x0), none, some (.ref 101), some (.int x3), some (.int 0)]) ⟨Or.inr rfl, Or.inl rfl, Or.inr rfl, Or.inr rfl, Or.inr rfl, trivial⟩ ?_
  exact t_C_mixRow_7_p3 N d xs c r N x0 x3 0
set_option maxHeartbeats 8000000 in
set_option maxRecDepth 100000 in
theorem tm_C_mixRow_7 (N d : Nat) (xs : List Int32) (c r : St) (a0 : Int64) (a2 : Int32) (p : Int64) (hp : C_mixRow_7 N c a0 a2 = some p) : mBig (mRoL xs) (d + 2) 107 [.long a0, .ref 101, .int a2] (HP c r) (some (.long p)) (HP c r) 0 0 := mBig_of (by decide) rfl rfl rfl rfl (t_C_mixRow_7 N d xs c r a0 a2 p hp)
/-! ColdHolds$Ring.mixed(J)J, from (('r', 100), 'l') -/
def Ring_mixed_p2b (N : Nat) (kb2 : Int64 → Int32 → Option (Int64)) (c : St) (x1 : Int64) (x3 : Int32) : Option (Int64) :=
  (if (gI c 27) ≤ x3 then (C_mixRow_7 N c x1 4).bind fun p2 => some p2 else (ld (gA c 84) x3).bind fun y3 => (C_mix N x1 y3.toInt64).bind fun p4 => (ld (gA c 85) x3).bind fun y5 => (C_mix N p4 y5.toInt64).bind fun p6 => kb2 p6 (x3 + 1))
def Ring_mixed_p2 (N : Nat) (c : St) : Nat → Int64 → Int32 → Option (Int64)
  | 0 => fun _ _ => none
  | n + 1 => Ring_mixed_p2b N (Ring_mixed_p2 N c n) c
def Ring_mixed (N : Nat) (c : St) (x1 : Int64) : Option (Int64) :=
  Ring_mixed_p2 N c N x1 0
set_option maxHeartbeats 8000000 in
set_option maxRecDepth 100000 in
theorem t_Ring_mixed_p2b (N d : Nat) (xs : List Int32) (c : St) (r : St) (kb2 : Int64 → Int32 → Option (Int64)) (hb2 : ∀ (x1 : Int64) (x3 : Int32), Ok (mBig (mRoL xs) (d + 2)) (mRoL xs) 3 mK76 (fun p : Int64 => (some (.long p), HP c r)) (kb2 x1 x3) 2 [some (.ref 100), some (.long x1), none, some (.int x3)] [] (HP c r)) (x1 : Int64) (x3 : Int32) : Ok (mBig (mRoL xs) (d + 2)) (mRoL xs) 3 mK76 (fun p : Int64 => (some (.long p), HP c r)) (Ring_mixed_p2b N kb2 c x1 x3) 2 [some (.ref 100), some (.long x1), none, some (.int x3)] [] (HP c r) := by
  unfold Ring_mixed_p2b
  refine Ok_blk 4 (pc2 := (if (gI c 27) ≤ x3 then 40 else 10)) (lo2 := [some (.ref 100), some (.long x1), none, some (.int x3)]) (st2 := []) rfl ?_
  refine Ok_if (fun h1 => ?_) (fun h1 => ?_)
  · refine Ok_blk 4 (pc2 := 46) (lo2 := [some (.ref 100), some (.long x1), none, some (.int x3)]) (st2 := [.int 4, .ref 101, .long x1]) rfl ?_
    refine Ok_call (y := 107) (as := [.long x1, .ref 101, .int 4]) (rest := []) (w := fun p2 => some (.long p2)) (h1 := fun p2 => HP c r) rfl rfl (fun x hx => tm_C_mixRow_7 N d xs c r x1 4 x hx) (fun p2 hp2 => ?_)
    exact Ok_ret rfl rfl rfl
  · refine Ok_blk 4 (pc2 := 16) (lo2 := [some (.ref 100), some (.long x1), none, some (.int x3)]) (st2 := [.int x3, .ref 102, .long x1]) rfl ?_
    refine Ok_ld (l := (gA c 84)) rfl rfl (fun y3 hy3 => ?_)
    refine Ok_blk 1 (pc2 := 18) (lo2 := [some (.ref 100), some (.long x1), none, some (.int x3)]) (st2 := [.long y3.toInt64, .long x1]) rfl ?_
    refine Ok_call (y := 106) (as := [.long x1, .long y3.toInt64]) (rest := []) (w := fun p4 => some (.long p4)) (h1 := fun p4 => HP c r) rfl rfl (fun x hx => tm_C_mix N (d + 1) xs c r x1 y3.toInt64 x hx) (fun p4 hp4 => ?_)
    refine Ok_blk 5 (pc2 := 28) (lo2 := [some (.ref 100), some (.long p4), none, some (.int x3)]) (st2 := [.int x3, .ref 103, .long p4]) rfl ?_
    refine Ok_ld (l := (gA c 85)) rfl rfl (fun y5 hy5 => ?_)
    refine Ok_blk 1 (pc2 := 30) (lo2 := [some (.ref 100), some (.long p4), none, some (.int x3)]) (st2 := [.long y5.toInt64, .long p4]) rfl ?_
    refine Ok_call (y := 106) (as := [.long p4, .long y5.toInt64]) (rest := []) (w := fun p6 => some (.long p6)) (h1 := fun p6 => HP c r) rfl rfl (fun x hx => tm_C_mix N (d + 1) xs c r p4 y5.toInt64 x hx) (fun p6 hp6 => ?_)
    refine Ok_blk 3 (pc2 := 2) (lo2 := [some (.ref 100), some (.long p6), none, some (.int (x3 + 1))]) (st2 := []) rfl ?_
    refine Ok_drop (lo0 := [some (.ref 100), some (.long p6), none, some (.int (x3 + 1))]) ⟨Or.inr rfl, Or.inr rfl, Or.inl rfl, Or.inr rfl, trivial⟩ ?_
    exact hb2 p6 (x3 + 1)
set_option maxHeartbeats 8000000 in
set_option maxRecDepth 100000 in
theorem t_Ring_mixed_p2 (N d : Nat) (xs : List Int32) (c : St) (r : St) : ∀ (n : Nat) (x1 : Int64) (x3 : Int32), Ok (mBig (mRoL xs) (d + 2)) (mRoL xs) 3 mK76 (fun p : Int64 => (some (.long p), HP c r)) (Ring_mixed_p2 N c n x1 x3) 2 [some (.ref 100), some (.long x1), none, some (.int x3)] [] (HP c r) := by
  intro n
  induction n with
  | zero => intro x1 x3; exact Ok_none
  | succ n ih => intro x1 x3; exact t_Ring_mixed_p2b N d xs c r (Ring_mixed_p2 N c n) ih x1 x3
set_option maxHeartbeats 8000000 in
set_option maxRecDepth 100000 in
theorem t_Ring_mixed (N d : Nat) (xs : List Int32) (c : St) (r : St) (x1 : Int64) : Ok (mBig (mRoL xs) (d + 2)) (mRoL xs) 3 mK76 (fun p : Int64 => (some (.long p), HP c r)) (Ring_mixed N c x1) 0 [some (.ref 100), some (.long x1), none, none] [] (HP c r) := by
  unfold Ring_mixed
  refine Ok_blk 2 (pc2 := 2) (lo2 := [some (.ref 100), some (.long x1), none, some (.int 0)]) (st2 := []) rfl ?_
  refine Ok_drop (lo0 := [some (.ref 100), some (.long x1), none, some (.int 0)]) ⟨Or.inr rfl, Or.inr rfl, Or.inl rfl, Or.inr rfl, trivial⟩ ?_
  exact t_Ring_mixed_p2 N d xs c r N x1 0
set_option maxHeartbeats 8000000 in
set_option maxRecDepth 100000 in
theorem tm_Ring_mixed (N d : Nat) (xs : List Int32) (c r : St) (a1 : Int64) (p : Int64) (hp : Ring_mixed N c a1 = some p) : mBig (mRoL xs) (d + 3) 76 [.ref 100, .long a1] (HP c r) (some (.long p)) (HP c r) 0 0 := mBig_of (by decide) rfl rfl rfl rfl (t_Ring_mixed N d xs c r a1 p hp)
/-! ColdHolds.digest()J, from (('r', 0),) -/
def C_digest_p124b (N : Nat) (kb124 : St → Int64 → Int32 → Option (Int64 × St)) (c : St) (x1 : Int64) (x3 : Int32) : Option (Int64 × St) :=
  (if 12 < x3 then some (x1, c) else (C_howMany N c x3).bind fun p13 => (C_mix N x1 p13.toInt64).bind fun p14 => kb124 c p14 (x3 + 1))
def C_digest_p124 (N : Nat) : Nat → St → Int64 → Int32 → Option (Int64 × St)
  | 0 => fun _ _ _ => none
  | n + 1 => C_digest_p124b N (C_digest_p124 N n)
def C_digest (N : Nat) (c : St) : Option (Int64 × St) :=
  (Hold_mixed N c 257).bind fun p1 => (C_mixLots N c p1).bind fun p2 => (C_mixSums N c p2).bind fun p3 => (Readings_mixed N p3.2 p3.1).bind fun p4 => (C_mixRow_2 N p3.2 p4 (gI p3.2 17)).bind fun p5 => (Drive_mixed N p3.2 p5).bind fun p6 => (Market_mixed N p3.2 p6).bind fun p7 => (Farms_mixed N p3.2 p7).bind fun p8 => (Ring_mixed N p3.2 p8).bind fun p9 => (Choices_mixed N p3.2 p9).bind fun p10 => (C_mixRow N p3.2 p10 (gI p3.2 6)).bind fun p11 => C_digest_p124 N N p3.2 p11 0
set_option maxHeartbeats 8000000 in
set_option maxRecDepth 100000 in
theorem t_C_digest_p124b (N d : Nat) (xs : List Int32) (r : St) (kb124 : St → Int64 → Int32 → Option (Int64 × St)) (hb124 : ∀ (c : St) (x1 : Int64) (x3 : Int32), Ok (mBig (mRoL xs) (d + 6)) (mRoL xs) 3 mK160 (fun p : Int64 × St => (some (.long p.1), HP p.2 r)) (kb124 c x1 x3) 124 [some (.ref 0), some (.long x1), none, some (.int x3)] [] (HP c r)) (c : St) (x1 : Int64) (x3 : Int32) : Ok (mBig (mRoL xs) (d + 6)) (mRoL xs) 3 mK160 (fun p : Int64 × St => (some (.long p.1), HP p.2 r)) (C_digest_p124b N kb124 c x1 x3) 124 [some (.ref 0), some (.long x1), none, some (.int x3)] [] (HP c r) := by
  unfold C_digest_p124b
  refine Ok_blk 3 (pc2 := (if 12 < x3 then 147 else 130)) (lo2 := [some (.ref 0), some (.long x1), none, some (.int x3)]) (st2 := []) rfl ?_
  refine Ok_if (fun h12 => ?_) (fun h12 => ?_)
  · refine Ok_blk 1 (pc2 := 148) (lo2 := [some (.ref 0), some (.long x1), none, some (.int x3)]) (st2 := [.long x1]) rfl ?_
    exact Ok_ret rfl rfl rfl
  · refine Ok_blk 3 (pc2 := 133) (lo2 := [some (.ref 0), some (.long x1), none, some (.int x3)]) (st2 := [.int x3, .ref 0, .long x1]) rfl ?_
    refine Ok_call (y := 159) (as := [.ref 0, .int x3]) (rest := [.long x1]) (w := fun p13 => some (.int p13)) (h1 := fun p13 => HP c r) rfl rfl (fun x hx => tm_C_howMany N (d + 5) xs c r x3 x hx) (fun p13 hp13 => ?_)
    refine Ok_blk 1 (pc2 := 137) (lo2 := [some (.ref 0), some (.long x1), none, some (.int x3)]) (st2 := [.long p13.toInt64, .long x1]) rfl ?_
    refine Ok_call (y := 106) (as := [.long x1, .long p13.toInt64]) (rest := []) (w := fun p14 => some (.long p14)) (h1 := fun p14 => HP c r) rfl rfl (fun x hx => tm_C_mix N (d + 5) xs c r x1 p13.toInt64 x hx) (fun p14 hp14 => ?_)
    refine Ok_blk 3 (pc2 := 124) (lo2 := [some (.ref 0), some (.long p14), none, some (.int (x3 + 1))]) (st2 := []) rfl ?_
    refine Ok_drop (lo0 := [some (.ref 0), some (.long p14), none, some (.int (x3 + 1))]) ⟨Or.inr rfl, Or.inr rfl, Or.inl rfl, Or.inr rfl, trivial⟩ ?_
    exact hb124 c p14 (x3 + 1)
set_option maxHeartbeats 8000000 in
set_option maxRecDepth 100000 in
theorem t_C_digest_p124 (N d : Nat) (xs : List Int32) (r : St) : ∀ (n : Nat) (c : St) (x1 : Int64) (x3 : Int32), Ok (mBig (mRoL xs) (d + 6)) (mRoL xs) 3 mK160 (fun p : Int64 × St => (some (.long p.1), HP p.2 r)) (C_digest_p124 N n c x1 x3) 124 [some (.ref 0), some (.long x1), none, some (.int x3)] [] (HP c r) := by
  intro n
  induction n with
  | zero => intro c x1 x3; exact Ok_none
  | succ n ih => intro c x1 x3; exact t_C_digest_p124b N d xs r (C_digest_p124 N n) ih c x1 x3
set_option maxHeartbeats 8000000 in
set_option maxRecDepth 100000 in
theorem t_C_digest (N d : Nat) (xs : List Int32) (r : St) (c : St) : Ok (mBig (mRoL xs) (d + 6)) (mRoL xs) 3 mK160 (fun p : Int64 × St => (some (.long p.1), HP p.2 r)) (C_digest N c) 0 [some (.ref 0), none, none, none] [] (HP c r) := by
  unfold C_digest
  refine Ok_blk 6 (pc2 := 14) (lo2 := [some (.ref 0), none, none, none]) (st2 := [.ref 8, .long 257, .ref 1]) rfl ?_
  refine Ok_call (y := 34) (as := [.ref 1, .long 257, .ref 8]) (rest := []) (w := fun p1 => some (.long p1)) (h1 := fun p1 => HP c r) rfl rfl (fun x hx => tm_Hold_mixed N (d + 3) xs c r 257 x hx) (fun p1 hp1 => ?_)
  refine Ok_blk 3 (pc2 := 20) (lo2 := [some (.ref 0), some (.long p1), none, none]) (st2 := [.long p1, .ref 0]) rfl ?_
  refine Ok_call (y := 161) (as := [.ref 0, .long p1]) (rest := []) (w := fun p2 => some (.long p2)) (h1 := fun p2 => HP c r) rfl rfl (fun x hx => tm_C_mixLots N (d + 3) xs c r p1 x hx) (fun p2 hp2 => ?_)
  refine Ok_blk 3 (pc2 := 26) (lo2 := [some (.ref 0), some (.long p2), none, none]) (st2 := [.long p2, .ref 0]) rfl ?_
  refine Ok_call (y := 162) (as := [.ref 0, .long p2]) (rest := []) (w := fun p3 => some (.long p3.1)) (h1 := fun p3 => HP p3.2 r) rfl rfl (fun x hx => tm_C_mixSums N d xs c r p2 x hx) (fun p3 hp3 => ?_)
  refine Ok_blk 4 (pc2 := 35) (lo2 := [some (.ref 0), some (.long p3.1), none, none]) (st2 := [.long p3.1, .ref 59]) rfl ?_
  refine Ok_call (y := 66) (as := [.ref 59, .long p3.1]) (rest := []) (w := fun p4 => some (.long p4)) (h1 := fun p4 => HP p3.2 r) rfl rfl (fun x hx => tm_Readings_mixed N (d + 4) xs p3.2 r p3.1 x hx) (fun p4 hp4 => ?_)
  refine Ok_blk 8 (pc2 := 54) (lo2 := [some (.ref 0), some (.long p4), none, none]) (st2 := [.int (gI p3.2 17), .ref 63, .long p4]) rfl ?_
  refine Ok_call (y := 107) (as := [.long p4, .ref 63, .int (gI p3.2 17)]) (rest := []) (w := fun p5 => some (.long p5)) (h1 := fun p5 => HP p3.2 r) rfl rfl (fun x hx => tm_C_mixRow_2 N (d + 4) xs p3.2 r p4 (gI p3.2 17) x hx) (fun p5 hp5 => ?_)
  refine Ok_blk 4 (pc2 := 63) (lo2 := [some (.ref 0), some (.long p5), none, none]) (st2 := [.long p5, .ref 67]) rfl ?_
  refine Ok_call (y := 19) (as := [.ref 67, .long p5]) (rest := []) (w := fun p6 => some (.long p6)) (h1 := fun p6 => HP p3.2 r) rfl rfl (fun x hx => tm_Drive_mixed N (d + 3) xs p3.2 r p5 x hx) (fun p6 hp6 => ?_)
  refine Ok_blk 4 (pc2 := 72) (lo2 := [some (.ref 0), some (.long p6), none, none]) (st2 := [.long p6, .ref 82]) rfl ?_
  refine Ok_call (y := 58) (as := [.ref 82, .long p6]) (rest := []) (w := fun p7 => some (.long p7)) (h1 := fun p7 => HP p3.2 r) rfl rfl (fun x hx => tm_Market_mixed N (d + 3) xs p3.2 r p6 x hx) (fun p7 hp7 => ?_)
  refine Ok_blk 4 (pc2 := 81) (lo2 := [some (.ref 0), some (.long p7), none, none]) (st2 := [.long p7, .ref 88]) rfl ?_
  refine Ok_call (y := 27) (as := [.ref 88, .long p7]) (rest := []) (w := fun p8 => some (.long p8)) (h1 := fun p8 => HP p3.2 r) rfl rfl (fun x hx => tm_Farms_mixed N (d + 3) xs p3.2 r p7 x hx) (fun p8 hp8 => ?_)
  refine Ok_blk 4 (pc2 := 90) (lo2 := [some (.ref 0), some (.long p8), none, none]) (st2 := [.long p8, .ref 100]) rfl ?_
  refine Ok_call (y := 76) (as := [.ref 100, .long p8]) (rest := []) (w := fun p9 => some (.long p9)) (h1 := fun p9 => HP p3.2 r) rfl rfl (fun x hx => tm_Ring_mixed N (d + 3) xs p3.2 r p8 x hx) (fun p9 hp9 => ?_)
  refine Ok_blk 4 (pc2 := 99) (lo2 := [some (.ref 0), some (.long p9), none, none]) (st2 := [.long p9, .ref 104]) rfl ?_
  refine Ok_call (y := 11) (as := [.ref 104, .long p9]) (rest := []) (w := fun p10 => some (.long p10)) (h1 := fun p10 => HP p3.2 r) rfl rfl (fun x hx => tm_Choices_mixed N (d + 3) xs p3.2 r p9 x hx) (fun p10 hp10 => ?_)
  refine Ok_blk 8 (pc2 := 118) (lo2 := [some (.ref 0), some (.long p10), none, none]) (st2 := [.int (gI p3.2 6), .ref 41, .long p10]) rfl ?_
  refine Ok_call (y := 107) (as := [.long p10, .ref 41, .int (gI p3.2 6)]) (rest := []) (w := fun p11 => some (.long p11)) (h1 := fun p11 => HP p3.2 r) rfl rfl (fun x hx => tm_C_mixRow N (d + 4) xs p3.2 r p10 (gI p3.2 6) x hx) (fun p11 hp11 => ?_)
  refine Ok_blk 3 (pc2 := 124) (lo2 := [some (.ref 0), some (.long p11), none, some (.int 0)]) (st2 := []) rfl ?_
  refine Ok_drop (lo0 := [some (.ref 0), some (.long p11), none, some (.int 0)]) ⟨Or.inr rfl, Or.inr rfl, Or.inl rfl, Or.inr rfl, trivial⟩ ?_
  exact t_C_digest_p124 N d xs r N p3.2 p11 0
set_option maxHeartbeats 8000000 in
set_option maxRecDepth 100000 in
theorem tm_C_digest (N d : Nat) (xs : List Int32) (c r : St) (p : Int64 × St) (hp : C_digest N c = some p) : mBig (mRoL xs) (d + 7) 160 [.ref 0] (HP c r) (some (.long p.1)) (HP p.2 r) 0 0 := mBig_of (by decide) rfl rfl rfl rfl (t_C_digest N d xs r c p hp)
/-! ColdHoldsModel.mix(J)V, from (('r', 115), 'l') -/
def R_mix (N : Nat) (r : St) (x1 : Int64) : Option (St) :=
  some (sL r 0 ((31 * (gL r 0)) + x1))
set_option maxHeartbeats 8000000 in
set_option maxRecDepth 100000 in
theorem t_R_mix (N d : Nat) (xs : List Int32) (c : St) (r : St) (x1 : Int64) : Ok (mBig (mRoL xs) (d)) (mRoL xs) 0 mK254 (fun p : St => (none, HP c p)) (R_mix N r x1) 0 [some (.ref 115), some (.long x1), none] [] (HP c r) := by
  unfold R_mix
  refine Ok_heap 8 (pc2 := 14) (lo2 := [some (.ref 115), some (.long x1), none]) (st2 := []) (h2 := HP c (sL r 0 ((31 * (gL r 0)) + x1))) rfl (st_115_77 _ _ _) ?_
  exact Ok_ret rfl rfl rfl
set_option maxHeartbeats 8000000 in
set_option maxRecDepth 100000 in
theorem tm_R_mix (N d : Nat) (xs : List Int32) (c r : St) (a1 : Int64) (p : St) (hp : R_mix N r a1 = some p) : mBig (mRoL xs) (d + 1) 254 [.ref 115, .long a1] (HP c r) (none) (HP c p) 0 0 := mBig_of (by decide) rfl rfl rfl rfl (t_R_mix N d xs c r a1 p hp)
/-! ColdHoldsModel.mixHold()V, from (('r', 115),) -/
def R_mixHold_p212b (N : Nat) (kb212 : St → Int32 → Option (St)) (r : St) (x1 : Int32) : Option (St) :=
  (if (gI r 10) ≤ x1 then some r else (ld (gA r 13) x1).bind fun y10 => (R_mix N r y10.toInt64).bind fun p11 => (ld (gA p11 14) x1).bind fun y12 => (R_mix N p11 y12.toInt64).bind fun p13 => kb212 p13 (x1 + 1))
def R_mixHold_p212 (N : Nat) : Nat → St → Int32 → Option (St)
  | 0 => fun _ _ => none
  | n + 1 => R_mixHold_p212b N (R_mixHold_p212 N n)
def R_mixHold_p159b (N : Nat) (kb149 : St → Int32 → Option (St)) (kb159 : St → Int32 → Int32 → Option (St)) (r : St) (x1 : Int32) (x2 : Int32) : Option (St) :=
  (if (gI r 7) ≤ x2 then kb149 r (x1 + 1) else (R_sumOf N r x1 x2 0).bind fun p15 => (R_mix N p15.2 p15.1).bind fun p16 => (R_sumOf N p16 x1 x2 1).bind fun p17 => (R_mix N p17.2 p17.1).bind fun p18 => kb159 p18 x1 (x2 + 1))
def R_mixHold_p159 (N : Nat) (kb149 : St → Int32 → Option (St)) : Nat → St → Int32 → Int32 → Option (St)
  | 0 => fun _ _ _ => none
  | n + 1 => R_mixHold_p159b N kb149 (R_mixHold_p159 N kb149 n)
def R_mixHold_p149b (N : Nat) (kb149 : St → Int32 → Option (St)) (r : St) (x1 : Int32) : Option (St) :=
  (if (gI r 9) ≤ x1 then (R_mix N r ((gI r 11).toInt64)).bind fun p8 => R_mixHold_p212 N N p8 0 else R_mixHold_p159 N kb149 N r x1 0)
def R_mixHold_p149 (N : Nat) : Nat → St → Int32 → Option (St)
  | 0 => fun _ _ => none
  | n + 1 => R_mixHold_p149b N (R_mixHold_p149 N n)
def R_mixHold_p118b (N : Nat) (kb108 : St → Int32 → Option (St)) (kb118 : St → Int32 → Int32 → Option (St)) (r : St) (x1 : Int32) (x2 : Int32) : Option (St) :=
  (if 9 ≤ x2 then kb108 r (x1 + 1) else (R_aboutOf N r x1 x2).bind fun p20 => (R_mix N r p20.toInt64).bind fun p21 => kb118 p21 x1 (x2 + 1))
def R_mixHold_p118 (N : Nat) (kb108 : St → Int32 → Option (St)) : Nat → St → Int32 → Int32 → Option (St)
  | 0 => fun _ _ _ => none
  | n + 1 => R_mixHold_p118b N kb108 (R_mixHold_p118 N kb108 n)
def R_mixHold_p108b (N : Nat) (kb108 : St → Int32 → Option (St)) (r : St) (x1 : Int32) : Option (St) :=
  (if (gI r 7) ≤ x1 then R_mixHold_p149 N N r 0 else R_mixHold_p118 N kb108 N r x1 0)
def R_mixHold_p108 (N : Nat) : Nat → St → Int32 → Option (St)
  | 0 => fun _ _ => none
  | n + 1 => R_mixHold_p108b N (R_mixHold_p108 N n)
def R_mixHold_p83b (N : Nat) (kb83 : St → Int32 → Option (St)) (r : St) (x1 : Int32) : Option (St) :=
  (if 1200 < x1 then R_mixHold_p108 N N r 0 else (R_seaOf N r x1).bind fun p22 => (R_mix N r p22.toInt64).bind fun p23 => kb83 p23 (x1 + 100))
def R_mixHold_p83 (N : Nat) : Nat → St → Int32 → Option (St)
  | 0 => fun _ _ => none
  | n + 1 => R_mixHold_p83b N (R_mixHold_p83 N n)
def R_mixHold_p45 (N : Nat) (kb2 : St → Int32 → Option (St)) (r : St) (x1 : Int32) (s1 : Int64) : Option (St) :=
  (R_mix N r s1).bind fun p30 => kb2 p30 (x1 + 1)
def R_mixHold_p2b (N : Nat) (kb2 : St → Int32 → Option (St)) (r : St) (x1 : Int32) : Option (St) :=
  (if 12 ≤ x1 then (R_mix N r ((gI r 0).toInt64)).bind fun p2 => (R_mix N p2 ((gI p2 1).toInt64)).bind fun p3 => (R_mix N p3 ((gI p3 2).toInt64)).bind fun p4 => R_mixHold_p83 N N p4 0 else (ld (gA r 0) x1).bind fun y24 => (R_mix N r y24.toInt64).bind fun p25 => (ld (gA p25 1) x1).bind fun y26 => (R_mix N p25 y26.toInt64).bind fun p27 => (ld (gA p27 2) x1).bind fun y28 => (if y28 = 0 then R_mixHold_p45 N kb2 p27 x1 0 else R_mixHold_p45 N kb2 p27 x1 1))
def R_mixHold_p2 (N : Nat) : Nat → St → Int32 → Option (St)
  | 0 => fun _ _ => none
  | n + 1 => R_mixHold_p2b N (R_mixHold_p2 N n)
def R_mixHold (N : Nat) (r : St) : Option (St) :=
  R_mixHold_p2 N N r 0
set_option maxHeartbeats 8000000 in
set_option maxRecDepth 100000 in
theorem t_R_mixHold_p212b (N d : Nat) (xs : List Int32) (c : St) (kb212 : St → Int32 → Option (St)) (hb212 : ∀ (r : St) (x1 : Int32), Ok (mBig (mRoL xs) (d + 3)) (mRoL xs) 0 mK255 (fun p : St => (none, HP c p)) (kb212 r x1) 212 [some (.ref 115), some (.int x1), none] [] (HP c r)) (r : St) (x1 : Int32) : Ok (mBig (mRoL xs) (d + 3)) (mRoL xs) 0 mK255 (fun p : St => (none, HP c p)) (R_mixHold_p212b N kb212 r x1) 212 [some (.ref 115), some (.int x1), none] [] (HP c r) := by
  unfold R_mixHold_p212b
  refine Ok_blk 4 (pc2 := (if (gI r 10) ≤ x1 then 248 else 220)) (lo2 := [some (.ref 115), some (.int x1), none]) (st2 := []) rfl ?_
  refine Ok_if (fun h9 => ?_) (fun h9 => ?_)
  · exact Ok_ret rfl rfl rfl
  · refine Ok_blk 4 (pc2 := 226) (lo2 := [some (.ref 115), some (.int x1), none]) (st2 := [.int x1, .ref 129, .ref 115]) rfl ?_
    refine Ok_ld (l := (gA r 13)) rfl rfl (fun y10 hy10 => ?_)
    refine Ok_blk 1 (pc2 := 228) (lo2 := [some (.ref 115), some (.int x1), none]) (st2 := [.long y10.toInt64, .ref 115]) rfl ?_
    refine Ok_call (y := 254) (as := [.ref 115, .long y10.toInt64]) (rest := []) (w := fun p11 => none) (h1 := fun p11 => HP c p11) rfl rfl (fun x hx => tm_R_mix N (d + 2) xs c r y10.toInt64 x hx) (fun p11 hp11 => ?_)
    refine Ok_blk 4 (pc2 := 237) (lo2 := [some (.ref 115), some (.int x1), none]) (st2 := [.int x1, .ref 130, .ref 115]) rfl ?_
    refine Ok_ld (l := (gA p11 14)) rfl rfl (fun y12 hy12 => ?_)
    refine Ok_blk 1 (pc2 := 239) (lo2 := [some (.ref 115), some (.int x1), none]) (st2 := [.long y12.toInt64, .ref 115]) rfl ?_
    refine Ok_call (y := 254) (as := [.ref 115, .long y12.toInt64]) (rest := []) (w := fun p13 => none) (h1 := fun p13 => HP c p13) rfl rfl (fun x hx => tm_R_mix N (d + 2) xs c p11 y12.toInt64 x hx) (fun p13 hp13 => ?_)
    refine Ok_blk 2 (pc2 := 212) (lo2 := [some (.ref 115), some (.int (x1 + 1)), none]) (st2 := []) rfl ?_
    refine Ok_drop (lo0 := [some (.ref 115), some (.int (x1 + 1)), none]) ⟨Or.inr rfl, Or.inr rfl, Or.inl rfl, trivial⟩ ?_
    exact hb212 p13 (x1 + 1)
set_option maxHeartbeats 8000000 in
set_option maxRecDepth 100000 in
theorem t_R_mixHold_p212 (N d : Nat) (xs : List Int32) (c : St) : ∀ (n : Nat) (r : St) (x1 : Int32), Ok (mBig (mRoL xs) (d + 3)) (mRoL xs) 0 mK255 (fun p : St => (none, HP c p)) (R_mixHold_p212 N n r x1) 212 [some (.ref 115), some (.int x1), none] [] (HP c r) := by
  intro n
  induction n with
  | zero => intro r x1; exact Ok_none
  | succ n ih => intro r x1; exact t_R_mixHold_p212b N d xs c (R_mixHold_p212 N n) ih r x1
set_option maxHeartbeats 8000000 in
set_option maxRecDepth 100000 in
theorem t_R_mixHold_p159b (N d : Nat) (xs : List Int32) (c : St) (kb149 : St → Int32 → Option (St)) (hb149 : ∀ (r : St) (x1 : Int32), Ok (mBig (mRoL xs) (d + 3)) (mRoL xs) 0 mK255 (fun p : St => (none, HP c p)) (kb149 r x1) 149 [some (.ref 115), some (.int x1), none] [] (HP c r)) (kb159 : St → Int32 → Int32 → Option (St)) (hb159 : ∀ (r : St) (x1 : Int32) (x2 : Int32), Ok (mBig (mRoL xs) (d + 3)) (mRoL xs) 0 mK255 (fun p : St => (none, HP c p)) (kb159 r x1 x2) 159 [some (.ref 115), some (.int x1), some (.int x2)] [] (HP c r)) (r : St) (x1 : Int32) (x2 : Int32) : Ok (mBig (mRoL xs) (d + 3)) (mRoL xs) 0 mK255 (fun p : St => (none, HP c p)) (R_mixHold_p159b N kb149 kb159 r x1 x2) 159 [some (.ref 115), some (.int x1), some (.int x2)] [] (HP c r) := by
  unfold R_mixHold_p159b
  refine Ok_blk 4 (pc2 := (if (gI r 7) ≤ x2 then 195 else 167)) (lo2 := [some (.ref 115), some (.int x1), some (.int x2)]) (st2 := []) rfl ?_
  refine Ok_if (fun h14 => ?_) (fun h14 => ?_)
  · refine Ok_blk 2 (pc2 := 149) (lo2 := [some (.ref 115), some (.int (x1 + 1)), some (.int x2)]) (st2 := []) rfl ?_
    refine Ok_drop (lo0 := [some (.ref 115), some (.int (x1 + 1)), none]) ⟨Or.inr rfl, Or.inr rfl, Or.inl rfl, trivial⟩ ?_
    exact hb149 r (x1 + 1)
  · refine Ok_blk 5 (pc2 := 172) (lo2 := [some (.ref 115), some (.int x1), some (.int x2)]) (st2 := [.int 0, .int x2, .int x1, .ref 115, .ref 115]) rfl ?_
    refine Ok_call (y := 201) (as := [.ref 115, .int x1, .int x2, .int 0]) (rest := [.ref 115]) (w := fun p15 => some (.long p15.1)) (h1 := fun p15 => HP c p15.2) rfl rfl (fun x hx => tm_R_sumOf N d xs c r x1 x2 0 x hx) (fun p15 hp15 => ?_)
    refine Ok_call (y := 254) (as := [.ref 115, .long p15.1]) (rest := []) (w := fun p16 => none) (h1 := fun p16 => HP c p16) rfl rfl (fun x hx => tm_R_mix N (d + 2) xs c p15.2 p15.1 x hx) (fun p16 hp16 => ?_)
    refine Ok_blk 5 (pc2 := 183) (lo2 := [some (.ref 115), some (.int x1), some (.int x2)]) (st2 := [.int 1, .int x2, .int x1, .ref 115, .ref 115]) rfl ?_
    refine Ok_call (y := 201) (as := [.ref 115, .int x1, .int x2, .int 1]) (rest := [.ref 115]) (w := fun p17 => some (.long p17.1)) (h1 := fun p17 => HP c p17.2) rfl rfl (fun x hx => tm_R_sumOf N d xs c p16 x1 x2 1 x hx) (fun p17 hp17 => ?_)
    refine Ok_call (y := 254) (as := [.ref 115, .long p17.1]) (rest := []) (w := fun p18 => none) (h1 := fun p18 => HP c p18) rfl rfl (fun x hx => tm_R_mix N (d + 2) xs c p17.2 p17.1 x hx) (fun p18 hp18 => ?_)
    refine Ok_blk 2 (pc2 := 159) (lo2 := [some (.ref 115), some (.int x1), some (.int (x2 + 1))]) (st2 := []) rfl ?_
    refine Ok_drop (lo0 := [some (.ref 115), some (.int x1), some (.int (x2 + 1))]) ⟨Or.inr rfl, Or.inr rfl, Or.inr rfl, trivial⟩ ?_
    exact hb159 p18 x1 (x2 + 1)
set_option maxHeartbeats 8000000 in
set_option maxRecDepth 100000 in
theorem t_R_mixHold_p159 (N d : Nat) (xs : List Int32) (c : St) (kb149 : St → Int32 → Option (St)) (hb149 : ∀ (r : St) (x1 : Int32), Ok (mBig (mRoL xs) (d + 3)) (mRoL xs) 0 mK255 (fun p : St => (none, HP c p)) (kb149 r x1) 149 [some (.ref 115), some (.int x1), none] [] (HP c r)) : ∀ (n : Nat) (r : St) (x1 : Int32) (x2 : Int32), Ok (mBig (mRoL xs) (d + 3)) (mRoL xs) 0 mK255 (fun p : St => (none, HP c p)) (R_mixHold_p159 N kb149 n r x1 x2) 159 [some (.ref 115), some (.int x1), some (.int x2)] [] (HP c r) := by
  intro n
  induction n with
  | zero => intro r x1 x2; exact Ok_none
  | succ n ih => intro r x1 x2; exact t_R_mixHold_p159b N d xs c kb149 hb149 (R_mixHold_p159 N kb149 n) ih r x1 x2
set_option maxHeartbeats 8000000 in
set_option maxRecDepth 100000 in
theorem t_R_mixHold_p149b (N d : Nat) (xs : List Int32) (c : St) (kb149 : St → Int32 → Option (St)) (hb149 : ∀ (r : St) (x1 : Int32), Ok (mBig (mRoL xs) (d + 3)) (mRoL xs) 0 mK255 (fun p : St => (none, HP c p)) (kb149 r x1) 149 [some (.ref 115), some (.int x1), none] [] (HP c r)) (r : St) (x1 : Int32) : Ok (mBig (mRoL xs) (d + 3)) (mRoL xs) 0 mK255 (fun p : St => (none, HP c p)) (R_mixHold_p149b N kb149 r x1) 149 [some (.ref 115), some (.int x1), none] [] (HP c r) := by
  unfold R_mixHold_p149b
  refine Ok_blk 4 (pc2 := (if (gI r 9) ≤ x1 then 201 else 157)) (lo2 := [some (.ref 115), some (.int x1), none]) (st2 := []) rfl ?_
  refine Ok_if (fun h7 => ?_) (fun h7 => ?_)
  · refine Ok_blk 4 (pc2 := 207) (lo2 := [some (.ref 115), some (.int x1), none]) (st2 := [.long ((gI r 11).toInt64), .ref 115]) rfl ?_
    refine Ok_call (y := 254) (as := [.ref 115, .long ((gI r 11).toInt64)]) (rest := []) (w := fun p8 => none) (h1 := fun p8 => HP c p8) rfl rfl (fun x hx => tm_R_mix N (d + 2) xs c r ((gI r 11).toInt64) x hx) (fun p8 hp8 => ?_)
    refine Ok_blk 2 (pc2 := 212) (lo2 := [some (.ref 115), some (.int 0), none]) (st2 := []) rfl ?_
    refine Ok_drop (lo0 := [some (.ref 115), some (.int 0), none]) ⟨Or.inr rfl, Or.inr rfl, Or.inl rfl, trivial⟩ ?_
    exact t_R_mixHold_p212 N d xs c N p8 0
  · refine Ok_blk 2 (pc2 := 159) (lo2 := [some (.ref 115), some (.int x1), some (.int 0)]) (st2 := []) rfl ?_
    refine Ok_drop (lo0 := [some (.ref 115), some (.int x1), some (.int 0)]) ⟨Or.inr rfl, Or.inr rfl, Or.inr rfl, trivial⟩ ?_
    exact t_R_mixHold_p159 N d xs c kb149 hb149 N r x1 0
set_option maxHeartbeats 8000000 in
set_option maxRecDepth 100000 in
theorem t_R_mixHold_p149 (N d : Nat) (xs : List Int32) (c : St) : ∀ (n : Nat) (r : St) (x1 : Int32), Ok (mBig (mRoL xs) (d + 3)) (mRoL xs) 0 mK255 (fun p : St => (none, HP c p)) (R_mixHold_p149 N n r x1) 149 [some (.ref 115), some (.int x1), none] [] (HP c r) := by
  intro n
  induction n with
  | zero => intro r x1; exact Ok_none
  | succ n ih => intro r x1; exact t_R_mixHold_p149b N d xs c (R_mixHold_p149 N n) ih r x1
set_option maxHeartbeats 8000000 in
set_option maxRecDepth 100000 in
theorem t_R_mixHold_p118b (N d : Nat) (xs : List Int32) (c : St) (kb108 : St → Int32 → Option (St)) (hb108 : ∀ (r : St) (x1 : Int32), Ok (mBig (mRoL xs) (d + 3)) (mRoL xs) 0 mK255 (fun p : St => (none, HP c p)) (kb108 r x1) 108 [some (.ref 115), some (.int x1), none] [] (HP c r)) (kb118 : St → Int32 → Int32 → Option (St)) (hb118 : ∀ (r : St) (x1 : Int32) (x2 : Int32), Ok (mBig (mRoL xs) (d + 3)) (mRoL xs) 0 mK255 (fun p : St => (none, HP c p)) (kb118 r x1 x2) 118 [some (.ref 115), some (.int x1), some (.int x2)] [] (HP c r)) (r : St) (x1 : Int32) (x2 : Int32) : Ok (mBig (mRoL xs) (d + 3)) (mRoL xs) 0 mK255 (fun p : St => (none, HP c p)) (R_mixHold_p118b N kb108 kb118 r x1 x2) 118 [some (.ref 115), some (.int x1), some (.int x2)] [] (HP c r) := by
  unfold R_mixHold_p118b
  refine Ok_blk 3 (pc2 := (if 9 ≤ x2 then 141 else 124)) (lo2 := [some (.ref 115), some (.int x1), some (.int x2)]) (st2 := []) rfl ?_
  refine Ok_if (fun h19 => ?_) (fun h19 => ?_)
  · refine Ok_blk 2 (pc2 := 108) (lo2 := [some (.ref 115), some (.int (x1 + 1)), some (.int x2)]) (st2 := []) rfl ?_
    refine Ok_drop (lo0 := [some (.ref 115), some (.int (x1 + 1)), none]) ⟨Or.inr rfl, Or.inr rfl, Or.inl rfl, trivial⟩ ?_
    exact hb108 r (x1 + 1)
  · refine Ok_blk 4 (pc2 := 128) (lo2 := [some (.ref 115), some (.int x1), some (.int x2)]) (st2 := [.int x2, .int x1, .ref 115, .ref 115]) rfl ?_
    refine Ok_call (y := 188) (as := [.ref 115, .int x1, .int x2]) (rest := [.ref 115]) (w := fun p20 => some (.int p20)) (h1 := fun p20 => HP c r) rfl rfl (fun x hx => tm_R_aboutOf N d xs c r x1 x2 x hx) (fun p20 hp20 => ?_)
    refine Ok_blk 1 (pc2 := 132) (lo2 := [some (.ref 115), some (.int x1), some (.int x2)]) (st2 := [.long p20.toInt64, .ref 115]) rfl ?_
    refine Ok_call (y := 254) (as := [.ref 115, .long p20.toInt64]) (rest := []) (w := fun p21 => none) (h1 := fun p21 => HP c p21) rfl rfl (fun x hx => tm_R_mix N (d + 2) xs c r p20.toInt64 x hx) (fun p21 hp21 => ?_)
    refine Ok_blk 2 (pc2 := 118) (lo2 := [some (.ref 115), some (.int x1), some (.int (x2 + 1))]) (st2 := []) rfl ?_
    refine Ok_drop (lo0 := [some (.ref 115), some (.int x1), some (.int (x2 + 1))]) ⟨Or.inr rfl, Or.inr rfl, Or.inr rfl, trivial⟩ ?_
    exact hb118 p21 x1 (x2 + 1)
set_option maxHeartbeats 8000000 in
set_option maxRecDepth 100000 in
theorem t_R_mixHold_p118 (N d : Nat) (xs : List Int32) (c : St) (kb108 : St → Int32 → Option (St)) (hb108 : ∀ (r : St) (x1 : Int32), Ok (mBig (mRoL xs) (d + 3)) (mRoL xs) 0 mK255 (fun p : St => (none, HP c p)) (kb108 r x1) 108 [some (.ref 115), some (.int x1), none] [] (HP c r)) : ∀ (n : Nat) (r : St) (x1 : Int32) (x2 : Int32), Ok (mBig (mRoL xs) (d + 3)) (mRoL xs) 0 mK255 (fun p : St => (none, HP c p)) (R_mixHold_p118 N kb108 n r x1 x2) 118 [some (.ref 115), some (.int x1), some (.int x2)] [] (HP c r) := by
  intro n
  induction n with
  | zero => intro r x1 x2; exact Ok_none
  | succ n ih => intro r x1 x2; exact t_R_mixHold_p118b N d xs c kb108 hb108 (R_mixHold_p118 N kb108 n) ih r x1 x2
set_option maxHeartbeats 8000000 in
set_option maxRecDepth 100000 in
theorem t_R_mixHold_p108b (N d : Nat) (xs : List Int32) (c : St) (kb108 : St → Int32 → Option (St)) (hb108 : ∀ (r : St) (x1 : Int32), Ok (mBig (mRoL xs) (d + 3)) (mRoL xs) 0 mK255 (fun p : St => (none, HP c p)) (kb108 r x1) 108 [some (.ref 115), some (.int x1), none] [] (HP c r)) (r : St) (x1 : Int32) : Ok (mBig (mRoL xs) (d + 3)) (mRoL xs) 0 mK255 (fun p : St => (none, HP c p)) (R_mixHold_p108b N kb108 r x1) 108 [some (.ref 115), some (.int x1), none] [] (HP c r) := by
  unfold R_mixHold_p108b
  refine Ok_blk 4 (pc2 := (if (gI r 7) ≤ x1 then 147 else 116)) (lo2 := [some (.ref 115), some (.int x1), none]) (st2 := []) rfl ?_
  refine Ok_if (fun h6 => ?_) (fun h6 => ?_)
  · refine Ok_blk 2 (pc2 := 149) (lo2 := [some (.ref 115), some (.int 0), none]) (st2 := []) rfl ?_
    refine Ok_drop (lo0 := [some (.ref 115), some (.int 0), none]) ⟨Or.inr rfl, Or.inr rfl, Or.inl rfl, trivial⟩ ?_
    exact t_R_mixHold_p149 N d xs c N r 0
  · refine Ok_blk 2 (pc2 := 118) (lo2 := [some (.ref 115), some (.int x1), some (.int 0)]) (st2 := []) rfl ?_
    refine Ok_drop (lo0 := [some (.ref 115), some (.int x1), some (.int 0)]) ⟨Or.inr rfl, Or.inr rfl, Or.inr rfl, trivial⟩ ?_
    exact t_R_mixHold_p118 N d xs c kb108 hb108 N r x1 0
set_option maxHeartbeats 8000000 in
set_option maxRecDepth 100000 in
theorem t_R_mixHold_p108 (N d : Nat) (xs : List Int32) (c : St) : ∀ (n : Nat) (r : St) (x1 : Int32), Ok (mBig (mRoL xs) (d + 3)) (mRoL xs) 0 mK255 (fun p : St => (none, HP c p)) (R_mixHold_p108 N n r x1) 108 [some (.ref 115), some (.int x1), none] [] (HP c r) := by
  intro n
  induction n with
  | zero => intro r x1; exact Ok_none
  | succ n ih => intro r x1; exact t_R_mixHold_p108b N d xs c (R_mixHold_p108 N n) ih r x1
set_option maxHeartbeats 8000000 in
set_option maxRecDepth 100000 in
theorem t_R_mixHold_p83b (N d : Nat) (xs : List Int32) (c : St) (kb83 : St → Int32 → Option (St)) (hb83 : ∀ (r : St) (x1 : Int32), Ok (mBig (mRoL xs) (d + 3)) (mRoL xs) 0 mK255 (fun p : St => (none, HP c p)) (kb83 r x1) 83 [some (.ref 115), some (.int x1), none] [] (HP c r)) (r : St) (x1 : Int32) : Ok (mBig (mRoL xs) (d + 3)) (mRoL xs) 0 mK255 (fun p : St => (none, HP c p)) (R_mixHold_p83b N kb83 r x1) 83 [some (.ref 115), some (.int x1), none] [] (HP c r) := by
  unfold R_mixHold_p83b
  refine Ok_blk 3 (pc2 := (if 1200 < x1 then 106 else 90)) (lo2 := [some (.ref 115), some (.int x1), none]) (st2 := []) rfl ?_
  refine Ok_if (fun h5 => ?_) (fun h5 => ?_)
  · refine Ok_blk 2 (pc2 := 108) (lo2 := [some (.ref 115), some (.int 0), none]) (st2 := []) rfl ?_
    refine Ok_drop (lo0 := [some (.ref 115), some (.int 0), none]) ⟨Or.inr rfl, Or.inr rfl, Or.inl rfl, trivial⟩ ?_
    exact t_R_mixHold_p108 N d xs c N r 0
  · refine Ok_blk 3 (pc2 := 93) (lo2 := [some (.ref 115), some (.int x1), none]) (st2 := [.int x1, .ref 115, .ref 115]) rfl ?_
    refine Ok_call (y := 174) (as := [.ref 115, .int x1]) (rest := [.ref 115]) (w := fun p22 => some (.int p22)) (h1 := fun p22 => HP c r) rfl rfl (fun x hx => tm_R_seaOf N (d + 2) xs c r x1 x hx) (fun p22 hp22 => ?_)
    refine Ok_blk 1 (pc2 := 97) (lo2 := [some (.ref 115), some (.int x1), none]) (st2 := [.long p22.toInt64, .ref 115]) rfl ?_
    refine Ok_call (y := 254) (as := [.ref 115, .long p22.toInt64]) (rest := []) (w := fun p23 => none) (h1 := fun p23 => HP c p23) rfl rfl (fun x hx => tm_R_mix N (d + 2) xs c r p22.toInt64 x hx) (fun p23 hp23 => ?_)
    refine Ok_blk 2 (pc2 := 83) (lo2 := [some (.ref 115), some (.int (x1 + 100)), none]) (st2 := []) rfl ?_
    refine Ok_drop (lo0 := [some (.ref 115), some (.int (x1 + 100)), none]) ⟨Or.inr rfl, Or.inr rfl, Or.inl rfl, trivial⟩ ?_
    exact hb83 p23 (x1 + 100)
set_option maxHeartbeats 8000000 in
set_option maxRecDepth 100000 in
theorem t_R_mixHold_p83 (N d : Nat) (xs : List Int32) (c : St) : ∀ (n : Nat) (r : St) (x1 : Int32), Ok (mBig (mRoL xs) (d + 3)) (mRoL xs) 0 mK255 (fun p : St => (none, HP c p)) (R_mixHold_p83 N n r x1) 83 [some (.ref 115), some (.int x1), none] [] (HP c r) := by
  intro n
  induction n with
  | zero => intro r x1; exact Ok_none
  | succ n ih => intro r x1; exact t_R_mixHold_p83b N d xs c (R_mixHold_p83 N n) ih r x1
set_option maxHeartbeats 8000000 in
set_option maxRecDepth 100000 in
theorem t_R_mixHold_p45 (N d : Nat) (xs : List Int32) (c : St) (kb2 : St → Int32 → Option (St)) (hb2 : ∀ (r : St) (x1 : Int32), Ok (mBig (mRoL xs) (d + 3)) (mRoL xs) 0 mK255 (fun p : St => (none, HP c p)) (kb2 r x1) 2 [some (.ref 115), some (.int x1), none] [] (HP c r)) (r : St) (x1 : Int32) (s1 : Int64) : Ok (mBig (mRoL xs) (d + 3)) (mRoL xs) 0 mK255 (fun p : St => (none, HP c p)) (R_mixHold_p45 N kb2 r x1 s1) 45 [some (.ref 115), some (.int x1), none] [.long s1, .ref 115] (HP c r) := by
  unfold R_mixHold_p45
  refine Ok_call (y := 254) (as := [.ref 115, .long s1]) (rest := []) (w := fun p30 => none) (h1 := fun p30 => HP c p30) rfl rfl (fun x hx => tm_R_mix N (d + 2) xs c r s1 x hx) (fun p30 hp30 => ?_)
  refine Ok_blk 2 (pc2 := 2) (lo2 := [some (.ref 115), some (.int (x1 + 1)), none]) (st2 := []) rfl ?_
  refine Ok_drop (lo0 := [some (.ref 115), some (.int (x1 + 1)), none]) ⟨Or.inr rfl, Or.inr rfl, Or.inl rfl, trivial⟩ ?_
  exact hb2 p30 (x1 + 1)
set_option maxHeartbeats 8000000 in
set_option maxRecDepth 100000 in
theorem t_R_mixHold_p2b (N d : Nat) (xs : List Int32) (c : St) (kb2 : St → Int32 → Option (St)) (hb2 : ∀ (r : St) (x1 : Int32), Ok (mBig (mRoL xs) (d + 3)) (mRoL xs) 0 mK255 (fun p : St => (none, HP c p)) (kb2 r x1) 2 [some (.ref 115), some (.int x1), none] [] (HP c r)) (r : St) (x1 : Int32) : Ok (mBig (mRoL xs) (d + 3)) (mRoL xs) 0 mK255 (fun p : St => (none, HP c p)) (R_mixHold_p2b N kb2 r x1) 2 [some (.ref 115), some (.int x1), none] [] (HP c r) := by
  unfold R_mixHold_p2b
  refine Ok_blk 3 (pc2 := (if 12 ≤ x1 then 54 else 8)) (lo2 := [some (.ref 115), some (.int x1), none]) (st2 := []) rfl ?_
  refine Ok_if (fun h1 => ?_) (fun h1 => ?_)
  · refine Ok_blk 4 (pc2 := 60) (lo2 := [some (.ref 115), some (.int x1), none]) (st2 := [.long ((gI r 0).toInt64), .ref 115]) rfl ?_
    refine Ok_call (y := 254) (as := [.ref 115, .long ((gI r 0).toInt64)]) (rest := []) (w := fun p2 => none) (h1 := fun p2 => HP c p2) rfl rfl (fun x hx => tm_R_mix N (d + 2) xs c r ((gI r 0).toInt64) x hx) (fun p2 hp2 => ?_)
    refine Ok_blk 4 (pc2 := 69) (lo2 := [some (.ref 115), some (.int x1), none]) (st2 := [.long ((gI p2 1).toInt64), .ref 115]) rfl ?_
    refine Ok_call (y := 254) (as := [.ref 115, .long ((gI p2 1).toInt64)]) (rest := []) (w := fun p3 => none) (h1 := fun p3 => HP c p3) rfl rfl (fun x hx => tm_R_mix N (d + 2) xs c p2 ((gI p2 1).toInt64) x hx) (fun p3 hp3 => ?_)
    refine Ok_blk 4 (pc2 := 78) (lo2 := [some (.ref 115), some (.int x1), none]) (st2 := [.long ((gI p3 2).toInt64), .ref 115]) rfl ?_
    refine Ok_call (y := 254) (as := [.ref 115, .long ((gI p3 2).toInt64)]) (rest := []) (w := fun p4 => none) (h1 := fun p4 => HP c p4) rfl rfl (fun x hx => tm_R_mix N (d + 2) xs c p3 ((gI p3 2).toInt64) x hx) (fun p4 hp4 => ?_)
    refine Ok_blk 2 (pc2 := 83) (lo2 := [some (.ref 115), some (.int 0), none]) (st2 := []) rfl ?_
    refine Ok_drop (lo0 := [some (.ref 115), some (.int 0), none]) ⟨Or.inr rfl, Or.inr rfl, Or.inl rfl, trivial⟩ ?_
    exact t_R_mixHold_p83 N d xs c N p4 0
  · refine Ok_blk 4 (pc2 := 14) (lo2 := [some (.ref 115), some (.int x1), none]) (st2 := [.int x1, .ref 116, .ref 115]) rfl ?_
    refine Ok_ld (l := (gA r 0)) rfl rfl (fun y24 hy24 => ?_)
    refine Ok_blk 1 (pc2 := 16) (lo2 := [some (.ref 115), some (.int x1), none]) (st2 := [.long y24.toInt64, .ref 115]) rfl ?_
    refine Ok_call (y := 254) (as := [.ref 115, .long y24.toInt64]) (rest := []) (w := fun p25 => none) (h1 := fun p25 => HP c p25) rfl rfl (fun x hx => tm_R_mix N (d + 2) xs c r y24.toInt64 x hx) (fun p25 hp25 => ?_)
    refine Ok_blk 4 (pc2 := 25) (lo2 := [some (.ref 115), some (.int x1), none]) (st2 := [.int x1, .ref 117, .ref 115]) rfl ?_
    refine Ok_ld (l := (gA p25 1)) rfl rfl (fun y26 hy26 => ?_)
    refine Ok_blk 1 (pc2 := 27) (lo2 := [some (.ref 115), some (.int x1), none]) (st2 := [.long y26.toInt64, .ref 115]) rfl ?_
    refine Ok_call (y := 254) (as := [.ref 115, .long y26.toInt64]) (rest := []) (w := fun p27 => none) (h1 := fun p27 => HP c p27) rfl rfl (fun x hx => tm_R_mix N (d + 2) xs c p25 y26.toInt64 x hx) (fun p27 hp27 => ?_)
    refine Ok_blk 4 (pc2 := 36) (lo2 := [some (.ref 115), some (.int x1), none]) (st2 := [.int x1, .ref 118, .ref 115]) rfl ?_
    refine Ok_ldb (l := (gA p27 2)) (t := 2) rfl rfl rfl (fun y28 hy28 => ?_)
    refine Ok_blk 1 (pc2 := (if y28 = 0 then 44 else 40)) (lo2 := [some (.ref 115), some (.int x1), none]) (st2 := [.ref 115]) rfl ?_
    refine Ok_if (fun h29 => ?_) (fun h29 => ?_)
    · refine Ok_blk 1 (pc2 := 45) (lo2 := [some (.ref 115), some (.int x1), none]) (st2 := [.long 0, .ref 115]) rfl ?_
      refine Ok_drop (lo0 := [some (.ref 115), some (.int x1), none]) ⟨Or.inr rfl, Or.inr rfl, Or.inl rfl, trivial⟩ ?_
      exact t_R_mixHold_p45 N d xs c kb2 hb2 p27 x1 0
    · refine Ok_blk 2 (pc2 := 45) (lo2 := [some (.ref 115), some (.int x1), none]) (st2 := [.long 1, .ref 115]) rfl ?_
      refine Ok_drop (lo0 := [some (.ref 115), some (.int x1), none]) ⟨Or.inr rfl, Or.inr rfl, Or.inl rfl, trivial⟩ ?_
      exact t_R_mixHold_p45 N d xs c kb2 hb2 p27 x1 1
set_option maxHeartbeats 8000000 in
set_option maxRecDepth 100000 in
theorem t_R_mixHold_p2 (N d : Nat) (xs : List Int32) (c : St) : ∀ (n : Nat) (r : St) (x1 : Int32), Ok (mBig (mRoL xs) (d + 3)) (mRoL xs) 0 mK255 (fun p : St => (none, HP c p)) (R_mixHold_p2 N n r x1) 2 [some (.ref 115), some (.int x1), none] [] (HP c r) := by
  intro n
  induction n with
  | zero => intro r x1; exact Ok_none
  | succ n ih => intro r x1; exact t_R_mixHold_p2b N d xs c (R_mixHold_p2 N n) ih r x1
set_option maxHeartbeats 8000000 in
set_option maxRecDepth 100000 in
theorem t_R_mixHold (N d : Nat) (xs : List Int32) (c : St) (r : St) : Ok (mBig (mRoL xs) (d + 3)) (mRoL xs) 0 mK255 (fun p : St => (none, HP c p)) (R_mixHold N r) 0 [some (.ref 115), none, none] [] (HP c r) := by
  unfold R_mixHold
  refine Ok_blk 2 (pc2 := 2) (lo2 := [some (.ref 115), some (.int 0), none]) (st2 := []) rfl ?_
  refine Ok_drop (lo0 := [some (.ref 115), some (.int 0), none]) ⟨Or.inr rfl, Or.inr rfl, Or.inl rfl, trivial⟩ ?_
  exact t_R_mixHold_p2 N d xs c N r 0
set_option maxHeartbeats 8000000 in
set_option maxRecDepth 100000 in
theorem tm_R_mixHold (N d : Nat) (xs : List Int32) (c r : St) (p : St) (hp : R_mixHold N r = some p) : mBig (mRoL xs) (d + 4) 255 [.ref 115] (HP c r) (none) (HP c p) 0 0 := mBig_of (by decide) rfl rfl rfl rfl (t_R_mixHold N d xs c r p hp)
/-! ColdHoldsModel.mixLand()V, from (('r', 115),) -/
def R_mixLand_p234b (N : Nat) (kb202 : St → Int32 → Option (St)) (kb234 : St → Int32 → Int32 → Option (St)) (r : St) (x1 : Int32) (x2 : Int32) : Option (St) :=
  (if (gI r 20) ≤ x2 then kb202 r (x1 + 1) else (ld (gA r 24) ((8 * x1) + x2)).bind fun y16 => (R_mix N r y16.toInt64).bind fun p17 => kb234 p17 x1 (x2 + 1))
def R_mixLand_p234 (N : Nat) (kb202 : St → Int32 → Option (St)) : Nat → St → Int32 → Int32 → Option (St)
  | 0 => fun _ _ _ => none
  | n + 1 => R_mixLand_p234b N kb202 (R_mixLand_p234 N kb202 n)
def R_mixLand_p202b (N : Nat) (kb202 : St → Int32 → Option (St)) (r : St) (x1 : Int32) : Option (St) :=
  (if (gI r 20) ≤ x1 then some r else (ld (gA r 22) x1).bind fun y11 => (R_mix N r y11.toInt64).bind fun p12 => (ld (gA p12 23) x1).bind fun y13 => (R_mix N p12 y13.toInt64).bind fun p14 => R_mixLand_p234 N kb202 N p14 x1 0)
def R_mixLand_p202 (N : Nat) : Nat → St → Int32 → Option (St)
  | 0 => fun _ _ => none
  | n + 1 => R_mixLand_p202b N (R_mixLand_p202 N n)
def R_mixLand_p164b (N : Nat) (kb164 : St → Int32 → Option (St)) (r : St) (x1 : Int32) : Option (St) :=
  (if (gI r 19) ≤ x1 then R_mixLand_p202 N N r 0 else (ld (gA r 20) x1).bind fun y18 => (R_mix N r y18.toInt64).bind fun p19 => (ld (gA p19 21) x1).bind fun y20 => (R_mix N p19 y20.toInt64).bind fun p21 => kb164 p21 (x1 + 1))
def R_mixLand_p164 (N : Nat) : Nat → St → Int32 → Option (St)
  | 0 => fun _ _ => none
  | n + 1 => R_mixLand_p164b N (R_mixLand_p164 N n)
def R_mixLand_p95b (N : Nat) (kb95 : St → Int32 → Option (St)) (r : St) (x1 : Int32) : Option (St) :=
  (if 4 ≤ x1 then (R_mix N r ((gI r 14).toInt64)).bind fun p4 => (R_mix N p4 ((gI p4 15).toInt64)).bind fun p5 => (R_mix N p5 ((gI p5 16).toInt64)).bind fun p6 => (R_mix N p6 ((gI p6 17).toInt64)).bind fun p7 => (R_mix N p7 ((gI p7 18).toInt64)).bind fun p8 => R_mixLand_p164 N N p8 0 else (ld (gA r 19) x1).bind fun y22 => (R_mix N r y22.toInt64).bind fun p23 => kb95 p23 (x1 + 1))
def R_mixLand_p95 (N : Nat) : Nat → St → Int32 → Option (St)
  | 0 => fun _ _ => none
  | n + 1 => R_mixLand_p95b N (R_mixLand_p95 N n)
def R_mixLand_p61b (N : Nat) (kb29 : St → Int32 → Option (St)) (kb61 : St → Int32 → Int32 → Option (St)) (r : St) (x1 : Int32) (x2 : Int32) : Option (St) :=
  (if 4 ≤ x2 then kb29 r (x1 + 1) else (ld (gA r 18) ((4 * x1) + x2)).bind fun y29 => (R_mix N r y29.toInt64).bind fun p30 => kb61 p30 x1 (x2 + 1))
def R_mixLand_p61 (N : Nat) (kb29 : St → Int32 → Option (St)) : Nat → St → Int32 → Int32 → Option (St)
  | 0 => fun _ _ _ => none
  | n + 1 => R_mixLand_p61b N kb29 (R_mixLand_p61 N kb29 n)
def R_mixLand_p29b (N : Nat) (kb29 : St → Int32 → Option (St)) (r : St) (x1 : Int32) : Option (St) :=
  (if (gI r 13) ≤ x1 then R_mixLand_p95 N N r 0 else (ld (gA r 16) x1).bind fun y24 => (R_mix N r y24.toInt64).bind fun p25 => (ld (gA p25 17) x1).bind fun y26 => (R_mix N p25 y26.toInt64).bind fun p27 => R_mixLand_p61 N kb29 N p27 x1 0)
def R_mixLand_p29 (N : Nat) : Nat → St → Int32 → Option (St)
  | 0 => fun _ _ => none
  | n + 1 => R_mixLand_p29b N (R_mixLand_p29 N n)
def R_mixLand_p2b (N : Nat) (kb2 : St → Int32 → Option (St)) (r : St) (x1 : Int32) : Option (St) :=
  (if (gI r 12) ≤ x1 then R_mixLand_p29 N N r 0 else (ld (gA r 15) x1).bind fun y31 => (R_mix N r y31.toInt64).bind fun p32 => kb2 p32 (x1 + 1))
def R_mixLand_p2 (N : Nat) : Nat → St → Int32 → Option (St)
  | 0 => fun _ _ => none
  | n + 1 => R_mixLand_p2b N (R_mixLand_p2 N n)
def R_mixLand (N : Nat) (r : St) : Option (St) :=
  R_mixLand_p2 N N r 0
set_option maxHeartbeats 8000000 in
set_option maxRecDepth 100000 in
theorem t_R_mixLand_p234b (N d : Nat) (xs : List Int32) (c : St) (kb202 : St → Int32 → Option (St)) (hb202 : ∀ (r : St) (x1 : Int32), Ok (mBig (mRoL xs) (d + 1)) (mRoL xs) 0 mK256 (fun p : St => (none, HP c p)) (kb202 r x1) 202 [some (.ref 115), some (.int x1), none] [] (HP c r)) (kb234 : St → Int32 → Int32 → Option (St)) (hb234 : ∀ (r : St) (x1 : Int32) (x2 : Int32), Ok (mBig (mRoL xs) (d + 1)) (mRoL xs) 0 mK256 (fun p : St => (none, HP c p)) (kb234 r x1 x2) 234 [some (.ref 115), some (.int x1), some (.int x2)] [] (HP c r)) (r : St) (x1 : Int32) (x2 : Int32) : Ok (mBig (mRoL xs) (d + 1)) (mRoL xs) 0 mK256 (fun p : St => (none, HP c p)) (R_mixLand_p234b N kb202 kb234 r x1 x2) 234 [some (.ref 115), some (.int x1), some (.int x2)] [] (HP c r) := by
  unfold R_mixLand_p234b
  refine Ok_blk 4 (pc2 := (if (gI r 20) ≤ x2 then 264 else 242)) (lo2 := [some (.ref 115), some (.int x1), some (.int x2)]) (st2 := []) rfl ?_
  refine Ok_if (fun h15 => ?_) (fun h15 => ?_)
  · refine Ok_blk 2 (pc2 := 202) (lo2 := [some (.ref 115), some (.int (x1 + 1)), some (.int x2)]) (st2 := []) rfl ?_
    refine Ok_drop (lo0 := [some (.ref 115), some (.int (x1 + 1)), none]) ⟨Or.inr rfl, Or.inr rfl, Or.inl rfl, trivial⟩ ?_
    exact hb202 r (x1 + 1)
  · refine Ok_blk 8 (pc2 := 253) (lo2 := [some (.ref 115), some (.int x1), some (.int x2)]) (st2 := [.int ((8 * x1) + x2), .ref 140, .ref 115]) rfl ?_
    refine Ok_ld (l := (gA r 24)) rfl rfl (fun y16 hy16 => ?_)
    refine Ok_blk 1 (pc2 := 255) (lo2 := [some (.ref 115), some (.int x1), some (.int x2)]) (st2 := [.long y16.toInt64, .ref 115]) rfl ?_
    refine Ok_call (y := 254) (as := [.ref 115, .long y16.toInt64]) (rest := []) (w := fun p17 => none) (h1 := fun p17 => HP c p17) rfl rfl (fun x hx => tm_R_mix N d xs c r y16.toInt64 x hx) (fun p17 hp17 => ?_)
    refine Ok_blk 2 (pc2 := 234) (lo2 := [some (.ref 115), some (.int x1), some (.int (x2 + 1))]) (st2 := []) rfl ?_
    refine Ok_drop (lo0 := [some (.ref 115), some (.int x1), some (.int (x2 + 1))]) ⟨Or.inr rfl, Or.inr rfl, Or.inr rfl, trivial⟩ ?_
    exact hb234 p17 x1 (x2 + 1)
set_option maxHeartbeats 8000000 in
set_option maxRecDepth 100000 in
theorem t_R_mixLand_p234 (N d : Nat) (xs : List Int32) (c : St) (kb202 : St → Int32 → Option (St)) (hb202 : ∀ (r : St) (x1 : Int32), Ok (mBig (mRoL xs) (d + 1)) (mRoL xs) 0 mK256 (fun p : St => (none, HP c p)) (kb202 r x1) 202 [some (.ref 115), some (.int x1), none] [] (HP c r)) : ∀ (n : Nat) (r : St) (x1 : Int32) (x2 : Int32), Ok (mBig (mRoL xs) (d + 1)) (mRoL xs) 0 mK256 (fun p : St => (none, HP c p)) (R_mixLand_p234 N kb202 n r x1 x2) 234 [some (.ref 115), some (.int x1), some (.int x2)] [] (HP c r) := by
  intro n
  induction n with
  | zero => intro r x1 x2; exact Ok_none
  | succ n ih => intro r x1 x2; exact t_R_mixLand_p234b N d xs c kb202 hb202 (R_mixLand_p234 N kb202 n) ih r x1 x2
set_option maxHeartbeats 8000000 in
set_option maxRecDepth 100000 in
theorem t_R_mixLand_p202b (N d : Nat) (xs : List Int32) (c : St) (kb202 : St → Int32 → Option (St)) (hb202 : ∀ (r : St) (x1 : Int32), Ok (mBig (mRoL xs) (d + 1)) (mRoL xs) 0 mK256 (fun p : St => (none, HP c p)) (kb202 r x1) 202 [some (.ref 115), some (.int x1), none] [] (HP c r)) (r : St) (x1 : Int32) : Ok (mBig (mRoL xs) (d + 1)) (mRoL xs) 0 mK256 (fun p : St => (none, HP c p)) (R_mixLand_p202b N kb202 r x1) 202 [some (.ref 115), some (.int x1), none] [] (HP c r) := by
  unfold R_mixLand_p202b
  refine Ok_blk 4 (pc2 := (if (gI r 20) ≤ x1 then 270 else 210)) (lo2 := [some (.ref 115), some (.int x1), none]) (st2 := []) rfl ?_
  refine Ok_if (fun h10 => ?_) (fun h10 => ?_)
  · exact Ok_ret rfl rfl rfl
  · refine Ok_blk 4 (pc2 := 216) (lo2 := [some (.ref 115), some (.int x1), none]) (st2 := [.int x1, .ref 138, .ref 115]) rfl ?_
    refine Ok_ld (l := (gA r 22)) rfl rfl (fun y11 hy11 => ?_)
    refine Ok_blk 1 (pc2 := 218) (lo2 := [some (.ref 115), some (.int x1), none]) (st2 := [.long y11.toInt64, .ref 115]) rfl ?_
    refine Ok_call (y := 254) (as := [.ref 115, .long y11.toInt64]) (rest := []) (w := fun p12 => none) (h1 := fun p12 => HP c p12) rfl rfl (fun x hx => tm_R_mix N d xs c r y11.toInt64 x hx) (fun p12 hp12 => ?_)
    refine Ok_blk 4 (pc2 := 227) (lo2 := [some (.ref 115), some (.int x1), none]) (st2 := [.int x1, .ref 139, .ref 115]) rfl ?_
    refine Ok_ld (l := (gA p12 23)) rfl rfl (fun y13 hy13 => ?_)
    refine Ok_blk 1 (pc2 := 229) (lo2 := [some (.ref 115), some (.int x1), none]) (st2 := [.long y13.toInt64, .ref 115]) rfl ?_
    refine Ok_call (y := 254) (as := [.ref 115, .long y13.toInt64]) (rest := []) (w := fun p14 => none) (h1 := fun p14 => HP c p14) rfl rfl (fun x hx => tm_R_mix N d xs c p12 y13.toInt64 x hx) (fun p14 hp14 => ?_)
    refine Ok_blk 2 (pc2 := 234) (lo2 := [some (.ref 115), some (.int x1), some (.int 0)]) (st2 := []) rfl ?_
    refine Ok_drop (lo0 := [some (.ref 115), some (.int x1), some (.int 0)]) ⟨Or.inr rfl, Or.inr rfl, Or.inr rfl, trivial⟩ ?_
    exact t_R_mixLand_p234 N d xs c kb202 hb202 N p14 x1 0
set_option maxHeartbeats 8000000 in
set_option maxRecDepth 100000 in
theorem t_R_mixLand_p202 (N d : Nat) (xs : List Int32) (c : St) : ∀ (n : Nat) (r : St) (x1 : Int32), Ok (mBig (mRoL xs) (d + 1)) (mRoL xs) 0 mK256 (fun p : St => (none, HP c p)) (R_mixLand_p202 N n r x1) 202 [some (.ref 115), some (.int x1), none] [] (HP c r) := by
  intro n
  induction n with
  | zero => intro r x1; exact Ok_none
  | succ n ih => intro r x1; exact t_R_mixLand_p202b N d xs c (R_mixLand_p202 N n) ih r x1
set_option maxHeartbeats 8000000 in
set_option maxRecDepth 100000 in
theorem t_R_mixLand_p164b (N d : Nat) (xs : List Int32) (c : St) (kb164 : St → Int32 → Option (St)) (hb164 : ∀ (r : St) (x1 : Int32), Ok (mBig (mRoL xs) (d + 1)) (mRoL xs) 0 mK256 (fun p : St => (none, HP c p)) (kb164 r x1) 164 [some (.ref 115), some (.int x1), none] [] (HP c r)) (r : St) (x1 : Int32) : Ok (mBig (mRoL xs) (d + 1)) (mRoL xs) 0 mK256 (fun p : St => (none, HP c p)) (R_mixLand_p164b N kb164 r x1) 164 [some (.ref 115), some (.int x1), none] [] (HP c r) := by
  unfold R_mixLand_p164b
  refine Ok_blk 4 (pc2 := (if (gI r 19) ≤ x1 then 200 else 172)) (lo2 := [some (.ref 115), some (.int x1), none]) (st2 := []) rfl ?_
  refine Ok_if (fun h9 => ?_) (fun h9 => ?_)
  · refine Ok_blk 2 (pc2 := 202) (lo2 := [some (.ref 115), some (.int 0), none]) (st2 := []) rfl ?_
    refine Ok_drop (lo0 := [some (.ref 115), some (.int 0), none]) ⟨Or.inr rfl, Or.inr rfl, Or.inl rfl, trivial⟩ ?_
    exact t_R_mixLand_p202 N d xs c N r 0
  · refine Ok_blk 4 (pc2 := 178) (lo2 := [some (.ref 115), some (.int x1), none]) (st2 := [.int x1, .ref 136, .ref 115]) rfl ?_
    refine Ok_ld (l := (gA r 20)) rfl rfl (fun y18 hy18 => ?_)
    refine Ok_blk 1 (pc2 := 180) (lo2 := [some (.ref 115), some (.int x1), none]) (st2 := [.long y18.toInt64, .ref 115]) rfl ?_
    refine Ok_call (y := 254) (as := [.ref 115, .long y18.toInt64]) (rest := []) (w := fun p19 => none) (h1 := fun p19 => HP c p19) rfl rfl (fun x hx => tm_R_mix N d xs c r y18.toInt64 x hx) (fun p19 hp19 => ?_)
    refine Ok_blk 4 (pc2 := 189) (lo2 := [some (.ref 115), some (.int x1), none]) (st2 := [.int x1, .ref 137, .ref 115]) rfl ?_
    refine Ok_ld (l := (gA p19 21)) rfl rfl (fun y20 hy20 => ?_)
    refine Ok_blk 1 (pc2 := 191) (lo2 := [some (.ref 115), some (.int x1), none]) (st2 := [.long y20.toInt64, .ref 115]) rfl ?_
    refine Ok_call (y := 254) (as := [.ref 115, .long y20.toInt64]) (rest := []) (w := fun p21 => none) (h1 := fun p21 => HP c p21) rfl rfl (fun x hx => tm_R_mix N d xs c p19 y20.toInt64 x hx) (fun p21 hp21 => ?_)
    refine Ok_blk 2 (pc2 := 164) (lo2 := [some (.ref 115), some (.int (x1 + 1)), none]) (st2 := []) rfl ?_
    refine Ok_drop (lo0 := [some (.ref 115), some (.int (x1 + 1)), none]) ⟨Or.inr rfl, Or.inr rfl, Or.inl rfl, trivial⟩ ?_
    exact hb164 p21 (x1 + 1)
set_option maxHeartbeats 8000000 in
set_option maxRecDepth 100000 in
theorem t_R_mixLand_p164 (N d : Nat) (xs : List Int32) (c : St) : ∀ (n : Nat) (r : St) (x1 : Int32), Ok (mBig (mRoL xs) (d + 1)) (mRoL xs) 0 mK256 (fun p : St => (none, HP c p)) (R_mixLand_p164 N n r x1) 164 [some (.ref 115), some (.int x1), none] [] (HP c r) := by
  intro n
  induction n with
  | zero => intro r x1; exact Ok_none
  | succ n ih => intro r x1; exact t_R_mixLand_p164b N d xs c (R_mixLand_p164 N n) ih r x1
set_option maxHeartbeats 8000000 in
set_option maxRecDepth 100000 in
theorem t_R_mixLand_p95b (N d : Nat) (xs : List Int32) (c : St) (kb95 : St → Int32 → Option (St)) (hb95 : ∀ (r : St) (x1 : Int32), Ok (mBig (mRoL xs) (d + 1)) (mRoL xs) 0 mK256 (fun p : St => (none, HP c p)) (kb95 r x1) 95 [some (.ref 115), some (.int x1), none] [] (HP c r)) (r : St) (x1 : Int32) : Ok (mBig (mRoL xs) (d + 1)) (mRoL xs) 0 mK256 (fun p : St => (none, HP c p)) (R_mixLand_p95b N kb95 r x1) 95 [some (.ref 115), some (.int x1), none] [] (HP c r) := by
  unfold R_mixLand_p95b
  refine Ok_blk 3 (pc2 := (if 4 ≤ x1 then 117 else 100)) (lo2 := [some (.ref 115), some (.int x1), none]) (st2 := []) rfl ?_
  refine Ok_if (fun h3 => ?_) (fun h3 => ?_)
  · refine Ok_blk 4 (pc2 := 123) (lo2 := [some (.ref 115), some (.int x1), none]) (st2 := [.long ((gI r 14).toInt64), .ref 115]) rfl ?_
    refine Ok_call (y := 254) (as := [.ref 115, .long ((gI r 14).toInt64)]) (rest := []) (w := fun p4 => none) (h1 := fun p4 => HP c p4) rfl rfl (fun x hx => tm_R_mix N d xs c r ((gI r 14).toInt64) x hx) (fun p4 hp4 => ?_)
    refine Ok_blk 4 (pc2 := 132) (lo2 := [some (.ref 115), some (.int x1), none]) (st2 := [.long ((gI p4 15).toInt64), .ref 115]) rfl ?_
    refine Ok_call (y := 254) (as := [.ref 115, .long ((gI p4 15).toInt64)]) (rest := []) (w := fun p5 => none) (h1 := fun p5 => HP c p5) rfl rfl (fun x hx => tm_R_mix N d xs c p4 ((gI p4 15).toInt64) x hx) (fun p5 hp5 => ?_)
    refine Ok_blk 4 (pc2 := 141) (lo2 := [some (.ref 115), some (.int x1), none]) (st2 := [.long ((gI p5 16).toInt64), .ref 115]) rfl ?_
    refine Ok_call (y := 254) (as := [.ref 115, .long ((gI p5 16).toInt64)]) (rest := []) (w := fun p6 => none) (h1 := fun p6 => HP c p6) rfl rfl (fun x hx => tm_R_mix N d xs c p5 ((gI p5 16).toInt64) x hx) (fun p6 hp6 => ?_)
    refine Ok_blk 4 (pc2 := 150) (lo2 := [some (.ref 115), some (.int x1), none]) (st2 := [.long ((gI p6 17).toInt64), .ref 115]) rfl ?_
    refine Ok_call (y := 254) (as := [.ref 115, .long ((gI p6 17).toInt64)]) (rest := []) (w := fun p7 => none) (h1 := fun p7 => HP c p7) rfl rfl (fun x hx => tm_R_mix N d xs c p6 ((gI p6 17).toInt64) x hx) (fun p7 hp7 => ?_)
    refine Ok_blk 4 (pc2 := 159) (lo2 := [some (.ref 115), some (.int x1), none]) (st2 := [.long ((gI p7 18).toInt64), .ref 115]) rfl ?_
    refine Ok_call (y := 254) (as := [.ref 115, .long ((gI p7 18).toInt64)]) (rest := []) (w := fun p8 => none) (h1 := fun p8 => HP c p8) rfl rfl (fun x hx => tm_R_mix N d xs c p7 ((gI p7 18).toInt64) x hx) (fun p8 hp8 => ?_)
    refine Ok_blk 2 (pc2 := 164) (lo2 := [some (.ref 115), some (.int 0), none]) (st2 := []) rfl ?_
    refine Ok_drop (lo0 := [some (.ref 115), some (.int 0), none]) ⟨Or.inr rfl, Or.inr rfl, Or.inl rfl, trivial⟩ ?_
    exact t_R_mixLand_p164 N d xs c N p8 0
  · refine Ok_blk 4 (pc2 := 106) (lo2 := [some (.ref 115), some (.int x1), none]) (st2 := [.int x1, .ref 135, .ref 115]) rfl ?_
    refine Ok_ld (l := (gA r 19)) rfl rfl (fun y22 hy22 => ?_)
    refine Ok_blk 1 (pc2 := 108) (lo2 := [some (.ref 115), some (.int x1), none]) (st2 := [.long y22.toInt64, .ref 115]) rfl ?_
    refine Ok_call (y := 254) (as := [.ref 115, .long y22.toInt64]) (rest := []) (w := fun p23 => none) (h1 := fun p23 => HP c p23) rfl rfl (fun x hx => tm_R_mix N d xs c r y22.toInt64 x hx) (fun p23 hp23 => ?_)
    refine Ok_blk 2 (pc2 := 95) (lo2 := [some (.ref 115), some (.int (x1 + 1)), none]) (st2 := []) rfl ?_
    refine Ok_drop (lo0 := [some (.ref 115), some (.int (x1 + 1)), none]) ⟨Or.inr rfl, Or.inr rfl, Or.inl rfl, trivial⟩ ?_
    exact hb95 p23 (x1 + 1)
set_option maxHeartbeats 8000000 in
set_option maxRecDepth 100000 in
theorem t_R_mixLand_p95 (N d : Nat) (xs : List Int32) (c : St) : ∀ (n : Nat) (r : St) (x1 : Int32), Ok (mBig (mRoL xs) (d + 1)) (mRoL xs) 0 mK256 (fun p : St => (none, HP c p)) (R_mixLand_p95 N n r x1) 95 [some (.ref 115), some (.int x1), none] [] (HP c r) := by
  intro n
  induction n with
  | zero => intro r x1; exact Ok_none
  | succ n ih => intro r x1; exact t_R_mixLand_p95b N d xs c (R_mixLand_p95 N n) ih r x1
set_option maxHeartbeats 8000000 in
set_option maxRecDepth 100000 in
theorem t_R_mixLand_p61b (N d : Nat) (xs : List Int32) (c : St) (kb29 : St → Int32 → Option (St)) (hb29 : ∀ (r : St) (x1 : Int32), Ok (mBig (mRoL xs) (d + 1)) (mRoL xs) 0 mK256 (fun p : St => (none, HP c p)) (kb29 r x1) 29 [some (.ref 115), some (.int x1), none] [] (HP c r)) (kb61 : St → Int32 → Int32 → Option (St)) (hb61 : ∀ (r : St) (x1 : Int32) (x2 : Int32), Ok (mBig (mRoL xs) (d + 1)) (mRoL xs) 0 mK256 (fun p : St => (none, HP c p)) (kb61 r x1 x2) 61 [some (.ref 115), some (.int x1), some (.int x2)] [] (HP c r)) (r : St) (x1 : Int32) (x2 : Int32) : Ok (mBig (mRoL xs) (d + 1)) (mRoL xs) 0 mK256 (fun p : St => (none, HP c p)) (R_mixLand_p61b N kb29 kb61 r x1 x2) 61 [some (.ref 115), some (.int x1), some (.int x2)] [] (HP c r) := by
  unfold R_mixLand_p61b
  refine Ok_blk 3 (pc2 := (if 4 ≤ x2 then 87 else 66)) (lo2 := [some (.ref 115), some (.int x1), some (.int x2)]) (st2 := []) rfl ?_
  refine Ok_if (fun h28 => ?_) (fun h28 => ?_)
  · refine Ok_blk 2 (pc2 := 29) (lo2 := [some (.ref 115), some (.int (x1 + 1)), some (.int x2)]) (st2 := []) rfl ?_
    refine Ok_drop (lo0 := [some (.ref 115), some (.int (x1 + 1)), none]) ⟨Or.inr rfl, Or.inr rfl, Or.inl rfl, trivial⟩ ?_
    exact hb29 r (x1 + 1)
  · refine Ok_blk 8 (pc2 := 76) (lo2 := [some (.ref 115), some (.int x1), some (.int x2)]) (st2 := [.int ((4 * x1) + x2), .ref 134, .ref 115]) rfl ?_
    refine Ok_ld (l := (gA r 18)) rfl rfl (fun y29 hy29 => ?_)
    refine Ok_blk 1 (pc2 := 78) (lo2 := [some (.ref 115), some (.int x1), some (.int x2)]) (st2 := [.long y29.toInt64, .ref 115]) rfl ?_
    refine Ok_call (y := 254) (as := [.ref 115, .long y29.toInt64]) (rest := []) (w := fun p30 => none) (h1 := fun p30 => HP c p30) rfl rfl (fun x hx => tm_R_mix N d xs c r y29.toInt64 x hx) (fun p30 hp30 => ?_)
    refine Ok_blk 2 (pc2 := 61) (lo2 := [some (.ref 115), some (.int x1), some (.int (x2 + 1))]) (st2 := []) rfl ?_
    refine Ok_drop (lo0 := [some (.ref 115), some (.int x1), some (.int (x2 + 1))]) ⟨Or.inr rfl, Or.inr rfl, Or.inr rfl, trivial⟩ ?_
    exact hb61 p30 x1 (x2 + 1)
set_option maxHeartbeats 8000000 in
set_option maxRecDepth 100000 in
theorem t_R_mixLand_p61 (N d : Nat) (xs : List Int32) (c : St) (kb29 : St → Int32 → Option (St)) (hb29 : ∀ (r : St) (x1 : Int32), Ok (mBig (mRoL xs) (d + 1)) (mRoL xs) 0 mK256 (fun p : St => (none, HP c p)) (kb29 r x1) 29 [some (.ref 115), some (.int x1), none] [] (HP c r)) : ∀ (n : Nat) (r : St) (x1 : Int32) (x2 : Int32), Ok (mBig (mRoL xs) (d + 1)) (mRoL xs) 0 mK256 (fun p : St => (none, HP c p)) (R_mixLand_p61 N kb29 n r x1 x2) 61 [some (.ref 115), some (.int x1), some (.int x2)] [] (HP c r) := by
  intro n
  induction n with
  | zero => intro r x1 x2; exact Ok_none
  | succ n ih => intro r x1 x2; exact t_R_mixLand_p61b N d xs c kb29 hb29 (R_mixLand_p61 N kb29 n) ih r x1 x2
set_option maxHeartbeats 8000000 in
set_option maxRecDepth 100000 in
theorem t_R_mixLand_p29b (N d : Nat) (xs : List Int32) (c : St) (kb29 : St → Int32 → Option (St)) (hb29 : ∀ (r : St) (x1 : Int32), Ok (mBig (mRoL xs) (d + 1)) (mRoL xs) 0 mK256 (fun p : St => (none, HP c p)) (kb29 r x1) 29 [some (.ref 115), some (.int x1), none] [] (HP c r)) (r : St) (x1 : Int32) : Ok (mBig (mRoL xs) (d + 1)) (mRoL xs) 0 mK256 (fun p : St => (none, HP c p)) (R_mixLand_p29b N kb29 r x1) 29 [some (.ref 115), some (.int x1), none] [] (HP c r) := by
  unfold R_mixLand_p29b
  refine Ok_blk 4 (pc2 := (if (gI r 13) ≤ x1 then 93 else 37)) (lo2 := [some (.ref 115), some (.int x1), none]) (st2 := []) rfl ?_
  refine Ok_if (fun h2 => ?_) (fun h2 => ?_)
  · refine Ok_blk 2 (pc2 := 95) (lo2 := [some (.ref 115), some (.int 0), none]) (st2 := []) rfl ?_
    refine Ok_drop (lo0 := [some (.ref 115), some (.int 0), none]) ⟨Or.inr rfl, Or.inr rfl, Or.inl rfl, trivial⟩ ?_
    exact t_R_mixLand_p95 N d xs c N r 0
  · refine Ok_blk 4 (pc2 := 43) (lo2 := [some (.ref 115), some (.int x1), none]) (st2 := [.int x1, .ref 132, .ref 115]) rfl ?_
    refine Ok_ld (l := (gA r 16)) rfl rfl (fun y24 hy24 => ?_)
    refine Ok_blk 1 (pc2 := 45) (lo2 := [some (.ref 115), some (.int x1), none]) (st2 := [.long y24.toInt64, .ref 115]) rfl ?_
    refine Ok_call (y := 254) (as := [.ref 115, .long y24.toInt64]) (rest := []) (w := fun p25 => none) (h1 := fun p25 => HP c p25) rfl rfl (fun x hx => tm_R_mix N d xs c r y24.toInt64 x hx) (fun p25 hp25 => ?_)
    refine Ok_blk 4 (pc2 := 54) (lo2 := [some (.ref 115), some (.int x1), none]) (st2 := [.int x1, .ref 133, .ref 115]) rfl ?_
    refine Ok_ld (l := (gA p25 17)) rfl rfl (fun y26 hy26 => ?_)
    refine Ok_blk 1 (pc2 := 56) (lo2 := [some (.ref 115), some (.int x1), none]) (st2 := [.long y26.toInt64, .ref 115]) rfl ?_
    refine Ok_call (y := 254) (as := [.ref 115, .long y26.toInt64]) (rest := []) (w := fun p27 => none) (h1 := fun p27 => HP c p27) rfl rfl (fun x hx => tm_R_mix N d xs c p25 y26.toInt64 x hx) (fun p27 hp27 => ?_)
    refine Ok_blk 2 (pc2 := 61) (lo2 := [some (.ref 115), some (.int x1), some (.int 0)]) (st2 := []) rfl ?_
    refine Ok_drop (lo0 := [some (.ref 115), some (.int x1), some (.int 0)]) ⟨Or.inr rfl, Or.inr rfl, Or.inr rfl, trivial⟩ ?_
    exact t_R_mixLand_p61 N d xs c kb29 hb29 N p27 x1 0
set_option maxHeartbeats 8000000 in
set_option maxRecDepth 100000 in
theorem t_R_mixLand_p29 (N d : Nat) (xs : List Int32) (c : St) : ∀ (n : Nat) (r : St) (x1 : Int32), Ok (mBig (mRoL xs) (d + 1)) (mRoL xs) 0 mK256 (fun p : St => (none, HP c p)) (R_mixLand_p29 N n r x1) 29 [some (.ref 115), some (.int x1), none] [] (HP c r) := by
  intro n
  induction n with
  | zero => intro r x1; exact Ok_none
  | succ n ih => intro r x1; exact t_R_mixLand_p29b N d xs c (R_mixLand_p29 N n) ih r x1
set_option maxHeartbeats 8000000 in
set_option maxRecDepth 100000 in
theorem t_R_mixLand_p2b (N d : Nat) (xs : List Int32) (c : St) (kb2 : St → Int32 → Option (St)) (hb2 : ∀ (r : St) (x1 : Int32), Ok (mBig (mRoL xs) (d + 1)) (mRoL xs) 0 mK256 (fun p : St => (none, HP c p)) (kb2 r x1) 2 [some (.ref 115), some (.int x1), none] [] (HP c r)) (r : St) (x1 : Int32) : Ok (mBig (mRoL xs) (d + 1)) (mRoL xs) 0 mK256 (fun p : St => (none, HP c p)) (R_mixLand_p2b N kb2 r x1) 2 [some (.ref 115), some (.int x1), none] [] (HP c r) := by
  unfold R_mixLand_p2b
  refine Ok_blk 4 (pc2 := (if (gI r 12) ≤ x1 then 27 else 10)) (lo2 := [some (.ref 115), some (.int x1), none]) (st2 := []) rfl ?_
  refine Ok_if (fun h1 => ?_) (fun h1 => ?_)
  · refine Ok_blk 2 (pc2 := 29) (lo2 := [some (.ref 115), some (.int 0), none]) (st2 := []) rfl ?_
    refine Ok_drop (lo0 := [some (.ref 115), some (.int 0), none]) ⟨Or.inr rfl, Or.inr rfl, Or.inl rfl, trivial⟩ ?_
    exact t_R_mixLand_p29 N d xs c N r 0
  · refine Ok_blk 4 (pc2 := 16) (lo2 := [some (.ref 115), some (.int x1), none]) (st2 := [.int x1, .ref 131, .ref 115]) rfl ?_
    refine Ok_ld (l := (gA r 15)) rfl rfl (fun y31 hy31 => ?_)
    refine Ok_blk 1 (pc2 := 18) (lo2 := [some (.ref 115), some (.int x1), none]) (st2 := [.long y31.toInt64, .ref 115]) rfl ?_
    refine Ok_call (y := 254) (as := [.ref 115, .long y31.toInt64]) (rest := []) (w := fun p32 => none) (h1 := fun p32 => HP c p32) rfl rfl (fun x hx => tm_R_mix N d xs c r y31.toInt64 x hx) (fun p32 hp32 => ?_)
    refine Ok_blk 2 (pc2 := 2) (lo2 := [some (.ref 115), some (.int (x1 + 1)), none]) (st2 := []) rfl ?_
    refine Ok_drop (lo0 := [some (.ref 115), some (.int (x1 + 1)), none]) ⟨Or.inr rfl, Or.inr rfl, Or.inl rfl, trivial⟩ ?_
    exact hb2 p32 (x1 + 1)
set_option maxHeartbeats 8000000 in
set_option maxRecDepth 100000 in
theorem t_R_mixLand_p2 (N d : Nat) (xs : List Int32) (c : St) : ∀ (n : Nat) (r : St) (x1 : Int32), Ok (mBig (mRoL xs) (d + 1)) (mRoL xs) 0 mK256 (fun p : St => (none, HP c p)) (R_mixLand_p2 N n r x1) 2 [some (.ref 115), some (.int x1), none] [] (HP c r) := by
  intro n
  induction n with
  | zero => intro r x1; exact Ok_none
  | succ n ih => intro r x1; exact t_R_mixLand_p2b N d xs c (R_mixLand_p2 N n) ih r x1
set_option maxHeartbeats 8000000 in
set_option maxRecDepth 100000 in
theorem t_R_mixLand (N d : Nat) (xs : List Int32) (c : St) (r : St) : Ok (mBig (mRoL xs) (d + 1)) (mRoL xs) 0 mK256 (fun p : St => (none, HP c p)) (R_mixLand N r) 0 [some (.ref 115), none, none] [] (HP c r) := by
  unfold R_mixLand
  refine Ok_blk 2 (pc2 := 2) (lo2 := [some (.ref 115), some (.int 0), none]) (st2 := []) rfl ?_
  refine Ok_drop (lo0 := [some (.ref 115), some (.int 0), none]) ⟨Or.inr rfl, Or.inr rfl, Or.inl rfl, trivial⟩ ?_
  exact t_R_mixLand_p2 N d xs c N r 0
set_option maxHeartbeats 8000000 in
set_option maxRecDepth 100000 in
theorem tm_R_mixLand (N d : Nat) (xs : List Int32) (c r : St) (p : St) (hp : R_mixLand N r = some p) : mBig (mRoL xs) (d + 2) 256 [.ref 115] (HP c r) (none) (HP c p) 0 0 := mBig_of (by decide) rfl rfl rfl rfl (t_R_mixLand N d xs c r p hp)
/-! ColdHoldsModel.digest()J, from (('r', 115),) -/
def R_digest_p173b (N : Nat) (kb173 : St → Int32 → Option (Int64 × St)) (r : St) (x1 : Int32) : Option (Int64 × St) :=
  (if 13 ≤ x1 then some (gL r 0, r) else (R_countOf N r x1).bind fun p11 => (R_mix N r p11.toInt64).bind fun p12 => kb173 p12 (x1 + 1))
def R_digest_p173 (N : Nat) : Nat → St → Int32 → Option (Int64 × St)
  | 0 => fun _ _ => none
  | n + 1 => R_digest_p173b N (R_digest_p173 N n)
def R_digest_p146b (N : Nat) (kb146 : St → Int32 → Option (Int64 × St)) (r : St) (x1 : Int32) : Option (Int64 × St) :=
  (if (gI r 8) ≤ x1 then R_digest_p173 N N r 0 else (ld (gA r 10) x1).bind fun y13 => (R_mix N r y13.toInt64).bind fun p14 => kb146 p14 (x1 + 1))
def R_digest_p146 (N : Nat) : Nat → St → Int32 → Option (Int64 × St)
  | 0 => fun _ _ => none
  | n + 1 => R_digest_p146b N (R_digest_p146 N n)
def R_digest_p112b (N : Nat) (kb91 : St → Int32 → Option (Int64 × St)) (kb112 : St → Int32 → Int32 → Option (Int64 × St)) (r : St) (x1 : Int32) (x2 : Int32) : Option (Int64 × St) :=
  (if 5 ≤ x2 then kb91 r (x1 + 1) else (ld (gA r 28) ((5 * x1) + x2)).bind fun y18 => (R_mix N r y18.toInt64).bind fun p19 => kb112 p19 x1 (x2 + 1))
def R_digest_p112 (N : Nat) (kb91 : St → Int32 → Option (Int64 × St)) : Nat → St → Int32 → Int32 → Option (Int64 × St)
  | 0 => fun _ _ _ => none
  | n + 1 => R_digest_p112b N kb91 (R_digest_p112 N kb91 n)
def R_digest_p91b (N : Nat) (kb91 : St → Int32 → Option (Int64 × St)) (r : St) (x1 : Int32) : Option (Int64 × St) :=
  (if (gI r 26) ≤ x1 then R_digest_p146 N N r 0 else (ld (gA r 27) x1).bind fun y15 => (R_mix N r y15.toInt64).bind fun p16 => R_digest_p112 N kb91 N p16 x1 0)
def R_digest_p91 (N : Nat) : Nat → St → Int32 → Option (Int64 × St)
  | 0 => fun _ _ => none
  | n + 1 => R_digest_p91b N (R_digest_p91 N n)
def R_digest_p17b (N : Nat) (kb17 : St → Int32 → Option (Int64 × St)) (r : St) (x1 : Int32) : Option (Int64 × St) :=
  (if (gI r 21) ≤ x1 then (R_mix N r ((gI r 22).toInt64)).bind fun p4 => (R_mix N p4 ((gI p4 23).toInt64)).bind fun p5 => (R_mix N p5 ((gI p5 24).toInt64)).bind fun p6 => (R_mix N p6 ((gI p6 25).toInt64)).bind fun p7 => R_digest_p91 N N p7 0 else (ld (gA r 25) x1).bind fun y20 => (R_mix N r y20.toInt64).bind fun p21 => (ld (gA p21 26) x1).bind fun y22 => (R_mix N p21 y22.toInt64).bind fun p23 => kb17 p23 (x1 + 1))
def R_digest_p17 (N : Nat) : Nat → St → Int32 → Option (Int64 × St)
  | 0 => fun _ _ => none
  | n + 1 => R_digest_p17b N (R_digest_p17 N n)
def R_digest (N : Nat) (r : St) : Option (Int64 × St) :=
  (R_mixHold N (sL r 0 257)).bind fun p1 => (R_mixLand N p1).bind fun p2 => R_digest_p17 N N p2 0
set_option maxHeartbeats 8000000 in
set_option maxRecDepth 100000 in
theorem t_R_digest_p173b (N d : Nat) (xs : List Int32) (c : St) (kb173 : St → Int32 → Option (Int64 × St)) (hb173 : ∀ (r : St) (x1 : Int32), Ok (mBig (mRoL xs) (d + 4)) (mRoL xs) 3 mK257 (fun p : Int64 × St => (some (.long p.1), HP c p.2)) (kb173 r x1) 173 [some (.ref 115), some (.int x1), none] [] (HP c r)) (r : St) (x1 : Int32) : Ok (mBig (mRoL xs) (d + 4)) (mRoL xs) 3 mK257 (fun p : Int64 × St => (some (.long p.1), HP c p.2)) (R_digest_p173b N kb173 r x1) 173 [some (.ref 115), some (.int x1), none] [] (HP c r) := by
  unfold R_digest_p173b
  refine Ok_blk 3 (pc2 := (if 13 ≤ x1 then 195 else 179)) (lo2 := [some (.ref 115), some (.int x1), none]) (st2 := []) rfl ?_
  refine Ok_if (fun h10 => ?_) (fun h10 => ?_)
  · refine Ok_blk 2 (pc2 := 199) (lo2 := [some (.ref 115), some (.int x1), none]) (st2 := [.long (gL r 0)]) rfl ?_
    exact Ok_ret rfl rfl rfl
  · refine Ok_blk 3 (pc2 := 182) (lo2 := [some (.ref 115), some (.int x1), none]) (st2 := [.int x1, .ref 115, .ref 115]) rfl ?_
    refine Ok_call (y := 252) (as := [.ref 115, .int x1]) (rest := [.ref 115]) (w := fun p11 => some (.int p11)) (h1 := fun p11 => HP c r) rfl rfl (fun x hx => tm_R_countOf N (d + 3) xs c r x1 x hx) (fun p11 hp11 => ?_)
    refine Ok_blk 1 (pc2 := 186) (lo2 := [some (.ref 115), some (.int x1), none]) (st2 := [.long p11.toInt64, .ref 115]) rfl ?_
    refine Ok_call (y := 254) (as := [.ref 115, .long p11.toInt64]) (rest := []) (w := fun p12 => none) (h1 := fun p12 => HP c p12) rfl rfl (fun x hx => tm_R_mix N (d + 3) xs c r p11.toInt64 x hx) (fun p12 hp12 => ?_)
    refine Ok_blk 2 (pc2 := 173) (lo2 := [some (.ref 115), some (.int (x1 + 1)), none]) (st2 := []) rfl ?_
    refine Ok_drop (lo0 := [some (.ref 115), some (.int (x1 + 1)), none]) ⟨Or.inr rfl, Or.inr rfl, Or.inl rfl, trivial⟩ ?_
    exact hb173 p12 (x1 + 1)
set_option maxHeartbeats 8000000 in
set_option maxRecDepth 100000 in
theorem t_R_digest_p173 (N d : Nat) (xs : List Int32) (c : St) : ∀ (n : Nat) (r : St) (x1 : Int32), Ok (mBig (mRoL xs) (d + 4)) (mRoL xs) 3 mK257 (fun p : Int64 × St => (some (.long p.1), HP c p.2)) (R_digest_p173 N n r x1) 173 [some (.ref 115), some (.int x1), none] [] (HP c r) := by
  intro n
  induction n with
  | zero => intro r x1; exact Ok_none
  | succ n ih => intro r x1; exact t_R_digest_p173b N d xs c (R_digest_p173 N n) ih r x1
set_option maxHeartbeats 8000000 in
set_option maxRecDepth 100000 in
theorem t_R_digest_p146b (N d : Nat) (xs : List Int32) (c : St) (kb146 : St → Int32 → Option (Int64 × St)) (hb146 : ∀ (r : St) (x1 : Int32), Ok (mBig (mRoL xs) (d + 4)) (mRoL xs) 3 mK257 (fun p : Int64 × St => (some (.long p.1), HP c p.2)) (kb146 r x1) 146 [some (.ref 115), some (.int x1), none] [] (HP c r)) (r : St) (x1 : Int32) : Ok (mBig (mRoL xs) (d + 4)) (mRoL xs) 3 mK257 (fun p : Int64 × St => (some (.long p.1), HP c p.2)) (R_digest_p146b N kb146 r x1) 146 [some (.ref 115), some (.int x1), none] [] (HP c r) := by
  unfold R_digest_p146b
  refine Ok_blk 4 (pc2 := (if (gI r 8) ≤ x1 then 171 else 154)) (lo2 := [some (.ref 115), some (.int x1), none]) (st2 := []) rfl ?_
  refine Ok_if (fun h9 => ?_) (fun h9 => ?_)
  · refine Ok_blk 2 (pc2 := 173) (lo2 := [some (.ref 115), some (.int 0), none]) (st2 := []) rfl ?_
    refine Ok_drop (lo0 := [some (.ref 115), some (.int 0), none]) ⟨Or.inr rfl, Or.inr rfl, Or.inl rfl, trivial⟩ ?_
    exact t_R_digest_p173 N d xs c N r 0
  · refine Ok_blk 4 (pc2 := 160) (lo2 := [some (.ref 115), some (.int x1), none]) (st2 := [.int x1, .ref 126, .ref 115]) rfl ?_
    refine Ok_ldb (l := (gA r 10)) (t := 1) rfl rfl rfl (fun y13 hy13 => ?_)
    refine Ok_blk 1 (pc2 := 162) (lo2 := [some (.ref 115), some (.int x1), none]) (st2 := [.long y13.toInt64, .ref 115]) rfl ?_
    refine Ok_call (y := 254) (as := [.ref 115, .long y13.toInt64]) (rest := []) (w := fun p14 => none) (h1 := fun p14 => HP c p14) rfl rfl (fun x hx => tm_R_mix N (d + 3) xs c r y13.toInt64 x hx) (fun p14 hp14 => ?_)
    refine Ok_blk 2 (pc2 := 146) (lo2 := [some (.ref 115), some (.int (x1 + 1)), none]) (st2 := []) rfl ?_
    refine Ok_drop (lo0 := [some (.ref 115), some (.int (x1 + 1)), none]) ⟨Or.inr rfl, Or.inr rfl, Or.inl rfl, trivial⟩ ?_
    exact hb146 p14 (x1 + 1)
set_option maxHeartbeats 8000000 in
set_option maxRecDepth 100000 in
theorem t_R_digest_p146 (N d : Nat) (xs : List Int32) (c : St) : ∀ (n : Nat) (r : St) (x1 : Int32), Ok (mBig (mRoL xs) (d + 4)) (mRoL xs) 3 mK257 (fun p : Int64 × St => (some (.long p.1), HP c p.2)) (R_digest_p146 N n r x1) 146 [some (.ref 115), some (.int x1), none] [] (HP c r) := by
  intro n
  induction n with
  | zero => intro r x1; exact Ok_none
  | succ n ih => intro r x1; exact t_R_digest_p146b N d xs c (R_digest_p146 N n) ih r x1
set_option maxHeartbeats 8000000 in
set_option maxRecDepth 100000 in
theorem t_R_digest_p112b (N d : Nat) (xs : List Int32) (c : St) (kb91 : St → Int32 → Option (Int64 × St)) (hb91 : ∀ (r : St) (x1 : Int32), Ok (mBig (mRoL xs) (d + 4)) (mRoL xs) 3 mK257 (fun p : Int64 × St => (some (.long p.1), HP c p.2)) (kb91 r x1) 91 [some (.ref 115), some (.int x1), none] [] (HP c r)) (kb112 : St → Int32 → Int32 → Option (Int64 × St)) (hb112 : ∀ (r : St) (x1 : Int32) (x2 : Int32), Ok (mBig (mRoL xs) (d + 4)) (mRoL xs) 3 mK257 (fun p : Int64 × St => (some (.long p.1), HP c p.2)) (kb112 r x1 x2) 112 [some (.ref 115), some (.int x1), some (.int x2)] [] (HP c r)) (r : St) (x1 : Int32) (x2 : Int32) : Ok (mBig (mRoL xs) (d + 4)) (mRoL xs) 3 mK257 (fun p : Int64 × St => (some (.long p.1), HP c p.2)) (R_digest_p112b N kb91 kb112 r x1 x2) 112 [some (.ref 115), some (.int x1), some (.int x2)] [] (HP c r) := by
  unfold R_digest_p112b
  refine Ok_blk 3 (pc2 := (if 5 ≤ x2 then 138 else 117)) (lo2 := [some (.ref 115), some (.int x1), some (.int x2)]) (st2 := []) rfl ?_
  refine Ok_if (fun h17 => ?_) (fun h17 => ?_)
  · refine Ok_blk 2 (pc2 := 91) (lo2 := [some (.ref 115), some (.int (x1 + 1)), some (.int x2)]) (st2 := []) rfl ?_
    refine Ok_drop (lo0 := [some (.ref 115), some (.int (x1 + 1)), none]) ⟨Or.inr rfl, Or.inr rfl, Or.inl rfl, trivial⟩ ?_
    exact hb91 r (x1 + 1)
  · refine Ok_blk 8 (pc2 := 127) (lo2 := [some (.ref 115), some (.int x1), some (.int x2)]) (st2 := [.int ((5 * x1) + x2), .ref 144, .ref 115]) rfl ?_
    refine Ok_ld (l := (gA r 28)) rfl rfl (fun y18 hy18 => ?_)
    refine Ok_blk 1 (pc2 := 129) (lo2 := [some (.ref 115), some (.int x1), some (.int x2)]) (st2 := [.long y18.toInt64, .ref 115]) rfl ?_
    refine Ok_call (y := 254) (as := [.ref 115, .long y18.toInt64]) (rest := []) (w := fun p19 => none) (h1 := fun p19 => HP c p19) rfl rfl (fun x hx => tm_R_mix N (d + 3) xs c r y18.toInt64 x hx) (fun p19 hp19 => ?_)
    refine Ok_blk 2 (pc2 := 112) (lo2 := [some (.ref 115), some (.int x1), some (.int (x2 + 1))]) (st2 := []) rfl ?_
    refine Ok_drop (lo0 := [some (.ref 115), some (.int x1), some (.int (x2 + 1))]) ⟨Or.inr rfl, Or.inr rfl, Or.inr rfl, trivial⟩ ?_
    exact hb112 p19 x1 (x2 + 1)
set_option maxHeartbeats 8000000 in
set_option maxRecDepth 100000 in
theorem t_R_digest_p112 (N d : Nat) (xs : List Int32) (c : St) (kb91 : St → Int32 → Option (Int64 × St)) (hb91 : ∀ (r : St) (x1 : Int32), Ok (mBig (mRoL xs) (d + 4)) (mRoL xs) 3 mK257 (fun p : Int64 × St => (some (.long p.1), HP c p.2)) (kb91 r x1) 91 [some (.ref 115), some (.int x1), none] [] (HP c r)) : ∀ (n : Nat) (r : St) (x1 : Int32) (x2 : Int32), Ok (mBig (mRoL xs) (d + 4)) (mRoL xs) 3 mK257 (fun p : Int64 × St => (some (.long p.1), HP c p.2)) (R_digest_p112 N kb91 n r x1 x2) 112 [some (.ref 115), some (.int x1), some (.int x2)] [] (HP c r) := by
  intro n
  induction n with
  | zero => intro r x1 x2; exact Ok_none
  | succ n ih => intro r x1 x2; exact t_R_digest_p112b N d xs c kb91 hb91 (R_digest_p112 N kb91 n) ih r x1 x2
set_option maxHeartbeats 8000000 in
set_option maxRecDepth 100000 in
theorem t_R_digest_p91b (N d : Nat) (xs : List Int32) (c : St) (kb91 : St → Int32 → Option (Int64 × St)) (hb91 : ∀ (r : St) (x1 : Int32), Ok (mBig (mRoL xs) (d + 4)) (mRoL xs) 3 mK257 (fun p : Int64 × St => (some (.long p.1), HP c p.2)) (kb91 r x1) 91 [some (.ref 115), some (.int x1), none] [] (HP c r)) (r : St) (x1 : Int32) : Ok (mBig (mRoL xs) (d + 4)) (mRoL xs) 3 mK257 (fun p : Int64 × St => (some (.long p.1), HP c p.2)) (R_digest_p91b N kb91 r x1) 91 [some (.ref 115), some (.int x1), none] [] (HP c r) := by
  unfold R_digest_p91b
  refine Ok_blk 4 (pc2 := (if (gI r 26) ≤ x1 then 144 else 99)) (lo2 := [some (.ref 115), some (.int x1), none]) (st2 := []) rfl ?_
  refine Ok_if (fun h8 => ?_) (fun h8 => ?_)
  · refine Ok_blk 2 (pc2 := 146) (lo2 := [some (.ref 115), some (.int 0), none]) (st2 := []) rfl ?_
    refine Ok_drop (lo0 := [some (.ref 115), some (.int 0), none]) ⟨Or.inr rfl, Or.inr rfl, Or.inl rfl, trivial⟩ ?_
    exact t_R_digest_p146 N d xs c N r 0
  · refine Ok_blk 4 (pc2 := 105) (lo2 := [some (.ref 115), some (.int x1), none]) (st2 := [.int x1, .ref 143, .ref 115]) rfl ?_
    refine Ok_ld (l := (gA r 27)) rfl rfl (fun y15 hy15 => ?_)
    refine Ok_blk 1 (pc2 := 107) (lo2 := [some (.ref 115), some (.int x1), none]) (st2 := [.long y15.toInt64, .ref 115]) rfl ?_
    refine Ok_call (y := 254) (as := [.ref 115, .long y15.toInt64]) (rest := []) (w := fun p16 => none) (h1 := fun p16 => HP c p16) rfl rfl (fun x hx => tm_R_mix N (d + 3) xs c r y15.toInt64 x hx) (fun p16 hp16 => ?_)
    refine Ok_blk 2 (pc2 := 112) (lo2 := [some (.ref 115), some (.int x1), some (.int 0)]) (st2 := []) rfl ?_
    refine Ok_drop (lo0 := [some (.ref 115), some (.int x1), some (.int 0)]) ⟨Or.inr rfl, Or.inr rfl, Or.inr rfl, trivial⟩ ?_
    exact t_R_digest_p112 N d xs c kb91 hb91 N p16 x1 0
set_option maxHeartbeats 8000000 in
set_option maxRecDepth 100000 in
theorem t_R_digest_p91 (N d : Nat) (xs : List Int32) (c : St) : ∀ (n : Nat) (r : St) (x1 : Int32), Ok (mBig (mRoL xs) (d + 4)) (mRoL xs) 3 mK257 (fun p : Int64 × St => (some (.long p.1), HP c p.2)) (R_digest_p91 N n r x1) 91 [some (.ref 115), some (.int x1), none] [] (HP c r) := by
  intro n
  induction n with
  | zero => intro r x1; exact Ok_none
  | succ n ih => intro r x1; exact t_R_digest_p91b N d xs c (R_digest_p91 N n) ih r x1
set_option maxHeartbeats 8000000 in
set_option maxRecDepth 100000 in
theorem t_R_digest_p17b (N d : Nat) (xs : List Int32) (c : St) (kb17 : St → Int32 → Option (Int64 × St)) (hb17 : ∀ (r : St) (x1 : Int32), Ok (mBig (mRoL xs) (d + 4)) (mRoL xs) 3 mK257 (fun p : Int64 × St => (some (.long p.1), HP c p.2)) (kb17 r x1) 17 [some (.ref 115), some (.int x1), none] [] (HP c r)) (r : St) (x1 : Int32) : Ok (mBig (mRoL xs) (d + 4)) (mRoL xs) 3 mK257 (fun p : Int64 × St => (some (.long p.1), HP c p.2)) (R_digest_p17b N kb17 r x1) 17 [some (.ref 115), some (.int x1), none] [] (HP c r) := by
  unfold R_digest_p17b
  refine Ok_blk 4 (pc2 := (if (gI r 21) ≤ x1 then 53 else 25)) (lo2 := [some (.ref 115), some (.int x1), none]) (st2 := []) rfl ?_
  refine Ok_if (fun h3 => ?_) (fun h3 => ?_)
  · refine Ok_blk 4 (pc2 := 59) (lo2 := [some (.ref 115), some (.int x1), none]) (st2 := [.long ((gI r 22).toInt64), .ref 115]) rfl ?_
    refine Ok_call (y := 254) (as := [.ref 115, .long ((gI r 22).toInt64)]) (rest := []) (w := fun p4 => none) (h1 := fun p4 => HP c p4) rfl rfl (fun x hx => tm_R_mix N (d + 3) xs c r ((gI r 22).toInt64) x hx) (fun p4 hp4 => ?_)
    refine Ok_blk 4 (pc2 := 68) (lo2 := [some (.ref 115), some (.int x1), none]) (st2 := [.long ((gI p4 23).toInt64), .ref 115]) rfl ?_
    refine Ok_call (y := 254) (as := [.ref 115, .long ((gI p4 23).toInt64)]) (rest := []) (w := fun p5 => none) (h1 := fun p5 => HP c p5) rfl rfl (fun x hx => tm_R_mix N (d + 3) xs c p4 ((gI p4 23).toInt64) x hx) (fun p5 hp5 => ?_)
    refine Ok_blk 4 (pc2 := 77) (lo2 := [some (.ref 115), some (.int x1), none]) (st2 := [.long ((gI p5 24).toInt64), .ref 115]) rfl ?_
    refine Ok_call (y := 254) (as := [.ref 115, .long ((gI p5 24).toInt64)]) (rest := []) (w := fun p6 => none) (h1 := fun p6 => HP c p6) rfl rfl (fun x hx => tm_R_mix N (d + 3) xs c p5 ((gI p5 24).toInt64) x hx) (fun p6 hp6 => ?_)
    refine Ok_blk 4 (pc2 := 86) (lo2 := [some (.ref 115), some (.int x1), none]) (st2 := [.long ((gI p6 25).toInt64), .ref 115]) rfl ?_
    refine Ok_call (y := 254) (as := [.ref 115, .long ((gI p6 25).toInt64)]) (rest := []) (w := fun p7 => none) (h1 := fun p7 => HP c p7) rfl rfl (fun x hx => tm_R_mix N (d + 3) xs c p6 ((gI p6 25).toInt64) x hx) (fun p7 hp7 => ?_)
    refine Ok_blk 2 (pc2 := 91) (lo2 := [some (.ref 115), some (.int 0), none]) (st2 := []) rfl ?_
    refine Ok_drop (lo0 := [some (.ref 115), some (.int 0), none]) ⟨Or.inr rfl, Or.inr rfl, Or.inl rfl, trivial⟩ ?_
    exact t_R_digest_p91 N d xs c N p7 0
  · refine Ok_blk 4 (pc2 := 31) (lo2 := [some (.ref 115), some (.int x1), none]) (st2 := [.int x1, .ref 141, .ref 115]) rfl ?_
    refine Ok_ld (l := (gA r 25)) rfl rfl (fun y20 hy20 => ?_)
    refine Ok_blk 1 (pc2 := 33) (lo2 := [some (.ref 115), some (.int x1), none]) (st2 := [.long y20.toInt64, .ref 115]) rfl ?_
    refine Ok_call (y := 254) (as := [.ref 115, .long y20.toInt64]) (rest := []) (w := fun p21 => none) (h1 := fun p21 => HP c p21) rfl rfl (fun x hx => tm_R_mix N (d + 3) xs c r y20.toInt64 x hx) (fun p21 hp21 => ?_)
    refine Ok_blk 4 (pc2 := 42) (lo2 := [some (.ref 115), some (.int x1), none]) (st2 := [.int x1, .ref 142, .ref 115]) rfl ?_
    refine Ok_ld (l := (gA p21 26)) rfl rfl (fun y22 hy22 => ?_)
    refine Ok_blk 1 (pc2 := 44) (lo2 := [some (.ref 115), some (.int x1), none]) (st2 := [.long y22.toInt64, .ref 115]) rfl ?_
    refine Ok_call (y := 254) (as := [.ref 115, .long y22.toInt64]) (rest := []) (w := fun p23 => none) (h1 := fun p23 => HP c p23) rfl rfl (fun x hx => tm_R_mix N (d + 3) xs c p21 y22.toInt64 x hx) (fun p23 hp23 => ?_)
    refine Ok_blk 2 (pc2 := 17) (lo2 := [some (.ref 115), some (.int (x1 + 1)), none]) (st2 := []) rfl ?_
    refine Ok_drop (lo0 := [some (.ref 115), some (.int (x1 + 1)), none]) ⟨Or.inr rfl, Or.inr rfl, Or.inl rfl, trivial⟩ ?_
    exact hb17 p23 (x1 + 1)
set_option maxHeartbeats 8000000 in
set_option maxRecDepth 100000 in
theorem t_R_digest_p17 (N d : Nat) (xs : List Int32) (c : St) : ∀ (n : Nat) (r : St) (x1 : Int32), Ok (mBig (mRoL xs) (d + 4)) (mRoL xs) 3 mK257 (fun p : Int64 × St => (some (.long p.1), HP c p.2)) (R_digest_p17 N n r x1) 17 [some (.ref 115), some (.int x1), none] [] (HP c r) := by
  intro n
  induction n with
  | zero => intro r x1; exact Ok_none
  | succ n ih => intro r x1; exact t_R_digest_p17b N d xs c (R_digest_p17 N n) ih r x1
set_option maxHeartbeats 8000000 in
set_option maxRecDepth 100000 in
theorem t_R_digest (N d : Nat) (xs : List Int32) (c : St) (r : St) : Ok (mBig (mRoL xs) (d + 4)) (mRoL xs) 3 mK257 (fun p : Int64 × St => (some (.long p.1), HP c p.2)) (R_digest N r) 0 [some (.ref 115), none, none] [] (HP c r) := by
  unfold R_digest
  refine Ok_heap 3 (pc2 := 7) (lo2 := [some (.ref 115), none, none]) (st2 := []) (h2 := HP c (sL r 0 257)) rfl (st_115_77 _ _ _) ?_
  refine Ok_blk 1 (pc2 := 8) (lo2 := [some (.ref 115), none, none]) (st2 := [.ref 115]) rfl ?_
  refine Ok_call (y := 255) (as := [.ref 115]) (rest := []) (w := fun p1 => none) (h1 := fun p1 => HP c p1) rfl rfl (fun x hx => tm_R_mixHold N d xs c (sL r 0 257) x hx) (fun p1 hp1 => ?_)
  refine Ok_blk 1 (pc2 := 12) (lo2 := [some (.ref 115), none, none]) (st2 := [.ref 115]) rfl ?_
  refine Ok_call (y := 256) (as := [.ref 115]) (rest := []) (w := fun p2 => none) (h1 := fun p2 => HP c p2) rfl rfl (fun x hx => tm_R_mixLand N (d + 2) xs c p1 x hx) (fun p2 hp2 => ?_)
  refine Ok_blk 2 (pc2 := 17) (lo2 := [some (.ref 115), some (.int 0), none]) (st2 := []) rfl ?_
  refine Ok_drop (lo0 := [some (.ref 115), some (.int 0), none]) ⟨Or.inr rfl, Or.inr rfl, Or.inl rfl, trivial⟩ ?_
  exact t_R_digest_p17 N d xs c N p2 0
set_option maxHeartbeats 8000000 in
set_option maxRecDepth 100000 in
theorem tm_R_digest (N d : Nat) (xs : List Int32) (c r : St) (p : Int64 × St) (hp : R_digest N r = some p) : mBig (mRoL xs) (d + 5) 257 [.ref 115] (HP c r) (some (.long p.1)) (HP c p.2) 0 0 := mBig_of (by decide) rfl rfl rfl rfl (t_R_digest N d xs c r p hp)
