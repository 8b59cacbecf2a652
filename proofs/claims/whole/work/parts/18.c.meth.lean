/-! methods as partial functions of Lean, and that the small machine does them: by program (gen18) -/
/-! ColdHolds$Lots.isKind(I)Z, from ('i',) -/
def Lots_isKind (N : Nat) (x0 : Int32) : Option (Int32) :=
  (C_within N x0 0 5).bind fun p1 => some p1
set_option maxHeartbeats 8000000 in
set_option maxRecDepth 100000 in
theorem t_Lots_isKind (N d : Nat) (xs : List Int32) (c : St) (r : St) (x0 : Int32) : Ok (mBig (mRoL xs) (d + 1)) (mRoL xs) 2 mK36 (fun p : Int32 => (some (.int p), HP c r)) (Lots_isKind N x0) 0 [some (.int x0)] [] (HP c r) := by
  unfold Lots_isKind
  refine Ok_blk 3 (pc2 := 3) (lo2 := [some (.int x0)]) (st2 := [.int 5, .int 0, .int x0]) rfl ?_
  refine Ok_call (y := 102) (as := [.int x0, .int 0, .int 5]) (rest := []) (w := fun p1 => some (.int p1)) (h1 := fun p1 => HP c r) rfl rfl (fun x hx => tm_C_within N d xs c r x0 0 5 x hx) (fun p1 hp1 => ?_)
  exact Ok_rez (mBig_z (tm_C_within N d xs c r x0 0 5 p1 hp1) rfl) rfl rfl
set_option maxHeartbeats 8000000 in
set_option maxRecDepth 100000 in
theorem tm_Lots_isKind (N d : Nat) (xs : List Int32) (c r : St) (a0 : Int32) (p : Int32) (hp : Lots_isKind N a0 = some p) : mBig (mRoL xs) (d + 2) 36 [.int a0] (HP c r) (some (.int p)) (HP c r) 0 0 := mBig_of (by decide) rfl rfl rfl rfl (t_Lots_isKind N d xs c r a0 p hp)
/-! java/util/Arrays.fill([II)V, from ('row', 'i') -/
def J_fill_p5b (N : Nat) (kb5 : St → Int32 → Int32 → Int32 → Option (St)) (j0 : Nat) (c : St) (x1 : Int32) (x2 : Int32) (x3 : Int32) : Option (St) :=
  (if x3 ≤ x2 then some c else (sto (gA c j0) x2 x1).bind fun w2 => kb5 (sA c j0 w2) x1 (x2 + 1) x3)
def J_fill_p5 (N : Nat) (j0 : Nat) : Nat → St → Int32 → Int32 → Int32 → Option (St)
  | 0 => fun _ _ _ _ => none
  | n + 1 => J_fill_p5b N (J_fill_p5 N j0 n) j0
def J_fill (N : Nat) (j0 : Nat) (c : St) (x1 : Int32) : Option (St) :=
  J_fill_p5 N j0 N c x1 0 (Int32.ofNat (gA c j0).length)
set_option maxHeartbeats 8000000 in
set_option maxRecDepth 100000 in
theorem t_J_fill_p5b (N d : Nat) (xs : List Int32) (r : St) (k0 j0 : Nat) (hk0 : AR k0 j0) (kb5 : St → Int32 → Int32 → Int32 → Option (St)) (hb5 : ∀ (c : St) (x1 : Int32) (x2 : Int32) (x3 : Int32), Ok (mBig (mRoL xs) (d)) (mRoL xs) 0 mK263 (fun p : St => (none, HP p r)) (kb5 c x1 x2 x3) 5 [some (.ref k0), some (.int x1), some (.int x2), some (.int x3)] [] (HP c r)) (c : St) (x1 : Int32) (x2 : Int32) (x3 : Int32) : Ok (mBig (mRoL xs) (d)) (mRoL xs) 0 mK263 (fun p : St => (none, HP p r)) (J_fill_p5b N kb5 j0 c x1 x2 x3) 5 [some (.ref k0), some (.int x1), some (.int x2), some (.int x3)] [] (HP c r) := by
  unfold J_fill_p5b
  refine Ok_blk 3 (pc2 := (if x3 ≤ x2 then 20 else 10)) (lo2 := [some (.ref k0), some (.int x1), some (.int x2), some (.int x3)]) (st2 := []) rfl ?_
  refine Ok_if (fun h1 => ?_) (fun h1 => ?_)
  · exact Ok_ret rfl rfl rfl
  · refine Ok_blk 3 (pc2 := 13) (lo2 := [some (.ref k0), some (.int x1), some (.int x2), some (.int x3)]) (st2 := [.int x1, .int x2, .ref k0]) rfl ?_
    refine Ok_st (l := (gA c j0)) (hn := fun l' => HP (sA c j0 l') r) rfl (hk0.2 _ _).1 (fun l' => (hk0.2 _ _).2 l') (fun w2 hw2 => ?_)
    refine Ok_blk 2 (pc2 := 5) (lo2 := [some (.ref k0), some (.int x1), some (.int (x2 + 1)), some (.int x3)]) (st2 := []) rfl ?_
    refine Ok_drop (lo0 := [some (.ref k0), some (.int x1), some (.int (x2 + 1)), some (.int x3)]) ⟨Or.inr rfl, Or.inr rfl, Or.inr rfl, Or.inr rfl, trivial⟩ ?_
    exact hb5 (sA c j0 w2) x1 (x2 + 1) x3
set_option maxHeartbeats 8000000 in
set_option maxRecDepth 100000 in
theorem t_J_fill_p5 (N d : Nat) (xs : List Int32) (r : St) (k0 j0 : Nat) (hk0 : AR k0 j0) : ∀ (n : Nat) (c : St) (x1 : Int32) (x2 : Int32) (x3 : Int32), Ok (mBig (mRoL xs) (d)) (mRoL xs) 0 mK263 (fun p : St => (none, HP p r)) (J_fill_p5 N j0 n c x1 x2 x3) 5 [some (.ref k0), some (.int x1), some (.int x2), some (.int x3)] [] (HP c r) := by
  intro n
  induction n with
  | zero => intro c x1 x2 x3; exact Ok_none
  | succ n ih => intro c x1 x2 x3; exact t_J_fill_p5b N d xs r k0 j0 hk0 (J_fill_p5 N j0 n) ih c x1 x2 x3
set_option maxHeartbeats 8000000 in
set_option maxRecDepth 100000 in
theorem t_J_fill (N d : Nat) (xs : List Int32) (r : St) (k0 j0 : Nat) (hk0 : AR k0 j0) (c : St) (x1 : Int32) : Ok (mBig (mRoL xs) (d)) (mRoL xs) 0 mK263 (fun p : St => (none, HP p r)) (J_fill N j0 c x1) 0 [some (.ref k0), some (.int x1), none, none] [] (HP c r) := by
  unfold J_fill
  refine Ok_blk 3 (pc2 := 3) (lo2 := [some (.ref k0), some (.int x1), some (.int 0), none]) (st2 := [.ref k0]) rfl ?_
  refine Ok_len (l := (gA c j0)) rfl (hk0.row _ _ _) ?_
  refine Ok_blk 1 (pc2 := 5) (lo2 := [some (.ref k0), some (.int x1), some (.int 0), some (.int (Int32.ofNat (gA c j0).length))]) (st2 := []) rfl ?_
  refine Ok_drop (lo0 := [some (.ref k0), some (.int x1), some (.int 0), some (.int (Int32.ofNat (gA c j0).length))]) ⟨Or.inr rfl, Or.inr rfl, Or.inr rfl, Or.inr rfl, trivial⟩ ?_
  exact t_J_fill_p5 N d xs r k0 j0 hk0 N c x1 0 (Int32.ofNat (gA c j0).length)
set_option maxHeartbeats 8000000 in
set_option maxRecDepth 100000 in
theorem tm_J_fill (N d : Nat) (xs : List Int32) (c r : St) (k0 j0 : Nat) (hk0 : AR k0 j0) (a1 : Int32) (p : St) (hp : J_fill N j0 c a1 = some p) : mBig (mRoL xs) (d + 1) 263 [.ref k0, .int a1] (HP c r) (none) (HP p r) 0 0 := mBig_of (by decide) rfl rfl rfl rfl (t_J_fill N d xs r k0 j0 hk0 c a1 p hp)
/-! ColdHolds$Lots.add(III)I, from (('r', 15), 'i', 'i', 'i') -/
def Lots_add (N : Nat) (c : St) (x1 : Int32) (x2 : Int32) (x3 : Int32) : Option (Int32 × St) :=
  (if (gI c 5) < 20 then (sto (gA c 11) (gI c 5) x1).bind fun w2 => (sto (gA (sA c 11 w2) 12) (gI (sA c 11 w2) 5) x2).bind fun w3 => (sto (gA (sA (sA c 11 w2) 12 w3) 13) (gI (sA (sA c 11 w2) 12 w3) 5) x3).bind fun w4 => (rwi (gI (sA (sA (sA c 11 w2) 12 w3) 13 w4) 5) 20).bind fun q5 => (J_fill N (14 + q5) (sA (sA (sA c 11 w2) 12 w3) 13 w4) (-1)).bind fun p6 => some ((gI (sI p6 5 ((gI p6 5) + 1)) 5) - 1, sI p6 5 ((gI p6 5) + 1)) else some ((-104), c))
set_option maxHeartbeats 8000000 in
set_option maxRecDepth 100000 in
theorem t_Lots_add (N d : Nat) (xs : List Int32) (r : St) (c : St) (x1 : Int32) (x2 : Int32) (x3 : Int32) : Ok (mBig (mRoL xs) (d + 1)) (mRoL xs) 1 mK39 (fun p : Int32 × St => (some (.int p.1), HP p.2 r)) (Lots_add N c x1 x2 x3) 0 [some (.ref 15), some (.int x1), some (.int x2), some (.int x3)] [] (HP c r) := by
  unfold Lots_add
  refine Ok_blk 4 (pc2 := (if (gI c 5) < 20 then 12 else 9)) (lo2 := [some (.ref 15), some (.int x1), some (.int x2), some (.int x3)]) (st2 := []) rfl ?_
  refine Ok_if (fun h1 => ?_) (fun h1 => ?_)
  · refine Ok_blk 5 (pc2 := 21) (lo2 := [some (.ref 15), some (.int x1), some (.int x2), some (.int x3)]) (st2 := [.int x1, .int (gI c 5), .ref 16]) rfl ?_
    refine Ok_st (l := (gA c 11)) (hn := fun l' => HP (sA c 11 l') r) rfl rfl (fun l' => sa_16 _ _ l') (fun w2 hw2 => ?_)
    refine Ok_blk 5 (pc2 := 31) (lo2 := [some (.ref 15), some (.int x1), some (.int x2), some (.int x3)]) (st2 := [.int x2, .int (gI (sA c 11 w2) 5), .ref 17]) rfl ?_
    refine Ok_st (l := (gA (sA c 11 w2) 12)) (hn := fun l' => HP (sA (sA c 11 w2) 12 l') r) rfl rfl (fun l' => sa_17 _ _ l') (fun w3 hw3 => ?_)
    refine Ok_blk 5 (pc2 := 41) (lo2 := [some (.ref 15), some (.int x1), some (.int x2), some (.int x3)]) (st2 := [.int x3, .int (gI (sA (sA c 11 w2) 12 w3) 5), .ref 18]) rfl ?_
    refine Ok_st (l := (gA (sA (sA c 11 w2) 12 w3) 13)) (hn := fun l' => HP (sA (sA (sA c 11 w2) 12 w3) 13 l') r) rfl rfl (fun l' => sa_18 _ _ l') (fun w4 hw4 => ?_)
    refine Ok_blk 4 (pc2 := 50) (lo2 := [some (.ref 15), some (.int x1), some (.int x2), some (.int x3)]) (st2 := [.int (gI (sA (sA (sA c 11 w2) 12 w3) 13 w4) 5), .ref 19]) rfl ?_
    refine Ok_rw (b := 20) (n := 20) rfl rfl (fun j h => rowl_19 j h) (fun q5 hq5 => ?_)
    refine Ok_blk 1 (pc2 := 52) (lo2 := [some (.ref 15), some (.int x1), some (.int x2), some (.int x3)]) (st2 := [.int (-1), .ref (20 + q5)]) rfl ?_
    refine Ok_call (y := 263) (as := [.ref (20 + q5), .int (-1)]) (rest := []) (w := fun p6 => none) (h1 := fun p6 => HP p6 r) rfl rfl (fun x hx => tm_J_fill N d xs (sA (sA (sA c 11 w2) 12 w3) 13 w4) r (20 + q5) (14 + q5) (rows_19 hq5) (-1) x hx) (fun p6 hp6 => ?_)
    refine Ok_heap 6 (pc2 := 65) (lo2 := [some (.ref 15), some (.int x1), some (.int x2), some (.int x3)]) (st2 := []) (h2 := HP (sI p6 5 ((gI p6 5) + 1)) r) rfl (st_15_3 _ _ _) ?_
    refine Ok_blk 4 (pc2 := 71) (lo2 := [some (.ref 15), some (.int x1), some (.int x2), some (.int x3)]) (st2 := [.int ((gI (sI p6 5 ((gI p6 5) + 1)) 5) - 1)]) rfl ?_
    exact Ok_ret rfl rfl rfl
  · refine Ok_blk 1 (pc2 := 11) (lo2 := [some (.ref 15), some (.int x1), some (.int x2), some (.int x3)]) (st2 := [.int (-104)]) rfl ?_
    exact Ok_ret rfl rfl rfl
set_option maxHeartbeats 8000000 in
set_option maxRecDepth 100000 in
theorem tm_Lots_add (N d : Nat) (xs : List Int32) (c r : St) (a1 : Int32) (a2 : Int32) (a3 : Int32) (p : Int32 × St) (hp : Lots_add N c a1 a2 a3 = some p) : mBig (mRoL xs) (d + 2) 39 [.ref 15, .int a1, .int a2, .int a3] (HP c r) (some (.int p.1)) (HP p.2 r) 0 0 := mBig_of (by decide) rfl rfl rfl rfl (t_Lots_add N d xs r c a1 a2 a3 p hp)
/-! ColdHolds.lot(II)I, from (('r', 0), 'i', 'i') -/
def C_lot (N : Nat) (c : St) (x1 : Int32) (x2 : Int32) : Option (Int32 × St) :=
  (C_isCell N x2).bind fun p1 => (if ¬ p1 = 0 then (Lots_isKind N x1).bind fun p3 => (if ¬ p3 = 0 then (Lots_add N c x1 x2 (gI c 1)).bind fun p5 => some (p5.1, p5.2) else some ((-102), c)) else some ((-101), c))
set_option maxHeartbeats 8000000 in
set_option maxRecDepth 100000 in
theorem t_C_lot (N d : Nat) (xs : List Int32) (r : St) (c : St) (x1 : Int32) (x2 : Int32) : Ok (mBig (mRoL xs) (d + 2)) (mRoL xs) 1 mK118 (fun p : Int32 × St => (some (.int p.1), HP p.2 r)) (C_lot N c x1 x2) 0 [some (.ref 0), some (.int x1), some (.int x2)] [] (HP c r) := by
  unfold C_lot
  refine Ok_blk 1 (pc2 := 1) (lo2 := [some (.ref 0), some (.int x1), some (.int x2)]) (st2 := [.int x2]) rfl ?_
  refine Ok_call (y := 103) (as := [.int x2]) (rest := []) (w := fun p1 => some (.int p1)) (h1 := fun p1 => HP c r) rfl rfl (fun x hx => tm_C_isCell N d xs c r x2 x hx) (fun p1 hp1 => ?_)
  refine Ok_blk 1 (pc2 := (if ¬ p1 = 0 then 10 else 7)) (lo2 := [some (.ref 0), some (.int x1), some (.int x2)]) (st2 := []) rfl ?_
  refine Ok_if (fun h2 => ?_) (fun h2 => ?_)
  · refine Ok_blk 1 (pc2 := 11) (lo2 := [some (.ref 0), some (.int x1), some (.int x2)]) (st2 := [.int x1]) rfl ?_
    refine Ok_call (y := 36) (as := [.int x1]) (rest := []) (w := fun p3 => some (.int p3)) (h1 := fun p3 => HP c r) rfl rfl (fun x hx => tm_Lots_isKind N d xs c r x1 x hx) (fun p3 hp3 => ?_)
    refine Ok_blk 1 (pc2 := (if ¬ p3 = 0 then 20 else 17)) (lo2 := [some (.ref 0), some (.int x1), some (.int x2)]) (st2 := []) rfl ?_
    refine Ok_if (fun h4 => ?_) (fun h4 => ?_)
    · refine Ok_blk 7 (pc2 := 33) (lo2 := [some (.ref 0), some (.int x1), some (.int x2)]) (st2 := [.int (gI c 1), .int x2, .int x1, .ref 15]) rfl ?_
      refine Ok_call (y := 39) (as := [.ref 15, .int x1, .int x2, .int (gI c 1)]) (rest := []) (w := fun p5 => some (.int p5.1)) (h1 := fun p5 => HP p5.2 r) rfl rfl (fun x hx => tm_Lots_add N d xs c r x1 x2 (gI c 1) x hx) (fun p5 hp5 => ?_)
      exact Ok_ret rfl rfl rfl
    · refine Ok_blk 1 (pc2 := 19) (lo2 := [some (.ref 0), some (.int x1), some (.int x2)]) (st2 := [.int (-102)]) rfl ?_
      exact Ok_ret rfl rfl rfl
  · refine Ok_blk 1 (pc2 := 9) (lo2 := [some (.ref 0), some (.int x1), some (.int x2)]) (st2 := [.int (-101)]) rfl ?_
    exact Ok_ret rfl rfl rfl
set_option maxHeartbeats 8000000 in
set_option maxRecDepth 100000 in
theorem tm_C_lot (N d : Nat) (xs : List Int32) (c r : St) (a1 : Int32) (a2 : Int32) (p : Int32 × St) (hp : C_lot N c a1 a2 = some p) : mBig (mRoL xs) (d + 3) 118 [.ref 0, .int a1, .int a2] (HP c r) (some (.int p.1)) (HP p.2 r) 0 0 := mBig_of (by decide) rfl rfl rfl rfl (t_C_lot N d xs r c a1 a2 p hp)
/-! ColdHoldsModel.lot(II)I, from (('r', 115), 'i', 'i') -/
def R_lot_p79b (N : Nat) (kb79 : St → Int32 → Option (Int32 × St)) (r : St) (x3 : Int32) : Option (Int32 × St) :=
  (if 3 ≤ x3 then some ((gI (sI r 7 ((gI r 7) + 1)) 7) - 1, sI r 7 ((gI r 7) + 1)) else (sto (gA r 9) ((3 * (gI r 7)) + x3) (-1)).bind fun w11 => kb79 (sA r 9 w11) (x3 + 1))
def R_lot_p79 (N : Nat) : Nat → St → Int32 → Option (Int32 × St)
  | 0 => fun _ _ => none
  | n + 1 => R_lot_p79b N (R_lot_p79 N n)
def R_lot (N : Nat) (r : St) (x1 : Int32) (x2 : Int32) : Option (Int32 × St) :=
  (R_isCell N x2).bind fun p1 => (if ¬ p1 = 0 then (R_in N x1 0 5).bind fun p3 => (if ¬ p3 = 0 then (if ¬ (gI r 7) = 20 then (sto (gA r 5) (gI r 7) x1).bind fun w6 => (sto (gA (sA r 5 w6) 6) (gI (sA r 5 w6) 7) x2).bind fun w7 => (sto (gA (sA (sA r 5 w6) 6 w7) 7) (gI (sA (sA r 5 w6) 6 w7) 7) 0).bind fun w8 => (sto (gA (sA (sA (sA r 5 w6) 6 w7) 7 w8) 8) (gI (sA (sA (sA r 5 w6) 6 w7) 7 w8) 7) (gI (sA (sA (sA r 5 w6) 6 w7) 7 w8) 4)).bind fun w9 => R_lot_p79 N N (sA (sA (sA (sA r 5 w6) 6 w7) 7 w8) 8 w9) 0 else some ((-104), r)) else some ((-102), r)) else some ((-101), r))
set_option maxHeartbeats 8000000 in
set_option maxRecDepth 100000 in
theorem t_R_lot_p79b (N d : Nat) (xs : List Int32) (c : St) (kb79 : St → Int32 → Option (Int32 × St)) (hb79 : ∀ (r : St) (x3 : Int32), Ok (mBig (mRoL xs) (d + 2)) (mRoL xs) 1 mK185 (fun p : Int32 × St => (some (.int p.1), HP c p.2)) (kb79 r x3) 79 [some (.ref 115), none, none, some (.int x3)] [] (HP c r)) (r : St) (x3 : Int32) : Ok (mBig (mRoL xs) (d + 2)) (mRoL xs) 1 mK185 (fun p : Int32 × St => (some (.int p.1), HP c p.2)) (R_lot_p79b N kb79 r x3) 79 [some (.ref 115), none, none, some (.int x3)] [] (HP c r) := by
  unfold R_lot_p79b
  refine Ok_blk 3 (pc2 := (if 3 ≤ x3 then 104 else 84)) (lo2 := [some (.ref 115), none, none, some (.int x3)]) (st2 := []) rfl ?_
  refine Ok_if (fun h10 => ?_) (fun h10 => ?_)
  · refine Ok_heap 6 (pc2 := 114) (lo2 := [some (.ref 115), none, none, some (.int x3)]) (st2 := []) (h2 := HP c (sI r 7 ((gI r 7) + 1))) rfl (st_115_12 _ _ _) ?_
    refine Ok_blk 4 (pc2 := 120) (lo2 := [some (.ref 115), none, none, some (.int x3)]) (st2 := [.int ((gI (sI r 7 ((gI r 7) + 1)) 7) - 1)]) rfl ?_
    exact Ok_ret rfl rfl rfl
  · refine Ok_blk 9 (pc2 := 97) (lo2 := [some (.ref 115), none, none, some (.int x3)]) (st2 := [.int (-1), .int ((3 * (gI r 7)) + x3), .ref 125]) rfl ?_
    refine Ok_st (l := (gA r 9)) (hn := fun l' => HP c (sA r 9 l')) rfl rfl (fun l' => sa_125 _ _ l') (fun w11 hw11 => ?_)
    refine Ok_blk 2 (pc2 := 79) (lo2 := [some (.ref 115), none, none, some (.int (x3 + 1))]) (st2 := []) rfl ?_
    refine Ok_drop (lo0 := [some (.ref 115), none, none, some (.int (x3 + 1))]) ⟨Or.inr rfl, Or.inl rfl, Or.inl rfl, Or.inr rfl, trivial⟩ ?_
    exact hb79 (sA r 9 w11) (x3 + 1)
set_option maxHeartbeats 8000000 in
set_option maxRecDepth 100000 in
theorem t_R_lot_p79 (N d : Nat) (xs : List Int32) (c : St) : ∀ (n : Nat) (r : St) (x3 : Int32), Ok (mBig (mRoL xs) (d + 2)) (mRoL xs) 1 mK185 (fun p : Int32 × St => (some (.int p.1), HP c p.2)) (R_lot_p79 N n r x3) 79 [some (.ref 115), none, none, some (.int x3)] [] (HP c r) := by
  intro n
  induction n with
  | zero => intro r x3; exact Ok_none
  | succ n ih => intro r x3; exact t_R_lot_p79b N d xs c (R_lot_p79 N n) ih r x3
set_option maxHeartbeats 8000000 in
set_option maxRecDepth 100000 in
theorem t_R_lot (N d : Nat) (xs : List Int32) (c : St) (r : St) (x1 : Int32) (x2 : Int32) : Ok (mBig (mRoL xs) (d + 2)) (mRoL xs) 1 mK185 (fun p : Int32 × St => (some (.int p.1), HP c p.2)) (R_lot N r x1 x2) 0 [some (.ref 115), some (.int x1), some (.int x2), none] [] (HP c r) := by
  unfold R_lot
  refine Ok_blk 1 (pc2 := 1) (lo2 := [some (.ref 115), some (.int x1), some (.int x2), none]) (st2 := [.int x2]) rfl ?_
  refine Ok_call (y := 165) (as := [.int x2]) (rest := []) (w := fun p1 => some (.int p1)) (h1 := fun p1 => HP c r) rfl rfl (fun x hx => tm_R_isCell N d xs c r x2 x hx) (fun p1 hp1 => ?_)
  refine Ok_blk 1 (pc2 := (if ¬ p1 = 0 then 10 else 7)) (lo2 := [some (.ref 115), some (.int x1), some (.int x2), none]) (st2 := []) rfl ?_
  refine Ok_if (fun h2 => ?_) (fun h2 => ?_)
  · refine Ok_blk 3 (pc2 := 13) (lo2 := [some (.ref 115), some (.int x1), some (.int x2), none]) (st2 := [.int 5, .int 0, .int x1]) rfl ?_
    refine Ok_call (y := 164) (as := [.int x1, .int 0, .int 5]) (rest := []) (w := fun p3 => some (.int p3)) (h1 := fun p3 => HP c r) rfl rfl (fun x hx => tm_R_in N (d + 1) xs c r x1 0 5 x hx) (fun p3 hp3 => ?_)
    refine Ok_blk 1 (pc2 := (if ¬ p3 = 0 then 22 else 19)) (lo2 := [some (.ref 115), some (.int x1), some (.int x2), none]) (st2 := []) rfl ?_
    refine Ok_if (fun h4 => ?_) (fun h4 => ?_)
    · refine Ok_blk 4 (pc2 := (if ¬ (gI r 7) = 20 then 34 else 31)) (lo2 := [some (.ref 115), some (.int x1), some (.int x2), none]) (st2 := []) rfl ?_
      refine Ok_if (fun h5 => ?_) (fun h5 => ?_)
      · refine Ok_blk 5 (pc2 := 43) (lo2 := [some (.ref 115), some (.int x1), some (.int x2), none]) (st2 := [.int x1, .int (gI r 7), .ref 121]) rfl ?_
        refine Ok_st (l := (gA r 5)) (hn := fun l' => HP c (sA r 5 l')) rfl rfl (fun l' => sa_121 _ _ l') (fun w6 hw6 => ?_)
        refine Ok_blk 5 (pc2 := 53) (lo2 := [some (.ref 115), some (.int x1), some (.int x2), none]) (st2 := [.int x2, .int (gI (sA r 5 w6) 7), .ref 122]) rfl ?_
        refine Ok_st (l := (gA (sA r 5 w6) 6)) (hn := fun l' => HP c (sA (sA r 5 w6) 6 l')) rfl rfl (fun l' => sa_122 _ _ l') (fun w7 hw7 => ?_)
        refine Ok_blk 5 (pc2 := 63) (lo2 := [some (.ref 115), some (.int x1), some (.int x2), none]) (st2 := [.int 0, .int (gI (sA (sA r 5 w6) 6 w7) 7), .ref 123]) rfl ?_
        refine Ok_st (l := (gA (sA (sA r 5 w6) 6 w7) 7)) (hn := fun l' => HP c (sA (sA (sA r 5 w6) 6 w7) 7 l')) rfl rfl (fun l' => sa_123 _ _ l') (fun w8 hw8 => ?_)
        refine Ok_blk 6 (pc2 := 76) (lo2 := [some (.ref 115), some (.int x1), some (.int x2), none]) (st2 := [.int (gI (sA (sA (sA r 5 w6) 6 w7) 7 w8) 4), .int (gI (sA (sA (sA r 5 w6) 6 w7) 7 w8) 7), .ref 124]) rfl ?_
        refine Ok_st (l := (gA (sA (sA (sA r 5 w6) 6 w7) 7 w8) 8)) (hn := fun l' => HP c (sA (sA (sA (sA r 5 w6) 6 w7) 7 w8) 8 l')) rfl rfl (fun l' => sa_124 _ _ l') (fun w9 hw9 => ?_)
        refine Ok_blk 2 (pc2 := 79) (lo2 := [some (.ref 115), some (.int x1), some (.int x2), some (.int 0)]) (st2 := []) rfl ?_
        refine Ok_drop (lo0 := [some (.ref 115), none, none, some (.int 0)]) ⟨Or.inr rfl, Or.inl rfl, Or.inl rfl, Or.inr rfl, trivial⟩ ?_
        exact t_R_lot_p79 N d xs c N (sA (sA (sA (sA r 5 w6) 6 w7) 7 w8) 8 w9) 0
      · refine Ok_blk 1 (pc2 := 33) (lo2 := [some (.ref 115), some (.int x1), some (.int x2), none]) (st2 := [.int (-104)]) rfl ?_
        exact Ok_ret rfl rfl rfl
    · refine Ok_blk 1 (pc2 := 21) (lo2 := [some (.ref 115), some (.int x1), some (.int x2), none]) (st2 := [.int (-102)]) rfl ?_
      exact Ok_ret rfl rfl rfl
  · refine Ok_blk 1 (pc2 := 9) (lo2 := [some (.ref 115), some (.int x1), some (.int x2), none]) (st2 := [.int (-101)]) rfl ?_
    exact Ok_ret rfl rfl rfl
set_option maxHeartbeats 8000000 in
set_option maxRecDepth 100000 in
theorem tm_R_lot (N d : Nat) (xs : List Int32) (c r : St) (a1 : Int32) (a2 : Int32) (p : Int32 × St) (hp : R_lot N r a1 a2 = some p) : mBig (mRoL xs) (d + 3) 185 [.ref 115, .int a1, .int a2] (HP c r) (some (.int p.1)) (HP c p.2) 0 0 := mBig_of (by decide) rfl rfl rfl rfl (t_R_lot N d xs c r a1 a2 p hp)
/-! ColdHolds.change([III)I, from (('r', 17), 'i', 'i') -/
def C_change_5 (N : Nat) (c : St) (x1 : Int32) (x2 : Int32) : Option (Int32 × St) :=
  (ld (gA c 12) x1).bind fun y1 => (sto (gA c 12) x1 x2).bind fun w2 => some (y1, sA c 12 w2)
set_option maxHeartbeats 8000000 in
set_option maxRecDepth 100000 in
theorem t_C_change_5 (N d : Nat) (xs : List Int32) (r : St) (c : St) (x1 : Int32) (x2 : Int32) : Ok (mBig (mRoL xs) (d)) (mRoL xs) 1 mK105 (fun p : Int32 × St => (some (.int p.1), HP p.2 r)) (C_change_5 N c x1 x2) 0 [some (.ref 17), some (.int x1), some (.int x2), none] [] (HP c r) := by
  unfold C_change_5
  refine Ok_blk 2 (pc2 := 2) (lo2 := [some (.ref 17), some (.int x1), some (.int x2), none]) (st2 := [.int x1, .ref 17]) rfl ?_
  refine Ok_ld (l := (gA c 12)) rfl rfl (fun y1 hy1 => ?_)
  refine Ok_blk 4 (pc2 := 7) (lo2 := [some (.ref 17), some (.int x1), some (.int x2), some (.int y1)]) (st2 := [.int x2, .int x1, .ref 17]) rfl ?_
  refine Ok_st (l := (gA c 12)) (hn := fun l' => HP (sA c 12 l') r) rfl rfl (fun l' => sa_17 _ _ l') (fun w2 hw2 => ?_)
  refine Ok_blk 1 (pc2 := 9) (lo2 := [some (.ref 17), some (.int x1), some (.int x2), some (.int y1)]) (st2 := [.int y1]) rfl ?_
  exact Ok_ret rfl rfl rfl
set_option maxHeartbeats 8000000 in
set_option maxRecDepth 100000 in
theorem tm_C_change_5 (N d : Nat) (xs : List Int32) (c r : St) (a1 : Int32) (a2 : Int32) (p : Int32 × St) (hp : C_change_5 N c a1 a2 = some p) : mBig (mRoL xs) (d + 1) 105 [.ref 17, .int a1, .int a2] (HP c r) (some (.int p.1)) (HP p.2 r) 0 0 := mBig_of (by decide) rfl rfl rfl rfl (t_C_change_5 N d xs r c a1 a2 p hp)
/-! ColdHolds$Lots.isOne(I)Z, from (('r', 15), 'i') -/
def Lots_isOne (N : Nat) (c : St) (x1 : Int32) : Option (Int32) :=
  (C_within N x1 0 ((gI c 5) - 1)).bind fun p1 => some p1
set_option maxHeartbeats 8000000 in
set_option maxRecDepth 100000 in
theorem t_Lots_isOne (N d : Nat) (xs : List Int32) (c : St) (r : St) (x1 : Int32) : Ok (mBig (mRoL xs) (d + 1)) (mRoL xs) 2 mK38 (fun p : Int32 => (some (.int p), HP c r)) (Lots_isOne N c x1) 0 [some (.ref 15), some (.int x1)] [] (HP c r) := by
  unfold Lots_isOne
  refine Ok_blk 6 (pc2 := 8) (lo2 := [some (.ref 15), some (.int x1)]) (st2 := [.int ((gI c 5) - 1), .int 0, .int x1]) rfl ?_
  refine Ok_call (y := 102) (as := [.int x1, .int 0, .int ((gI c 5) - 1)]) (rest := []) (w := fun p1 => some (.int p1)) (h1 := fun p1 => HP c r) rfl rfl (fun x hx => tm_C_within N d xs c r x1 0 ((gI c 5) - 1) x hx) (fun p1 hp1 => ?_)
  exact Ok_rez (mBig_z (tm_C_within N d xs c r x1 0 ((gI c 5) - 1) p1 hp1) rfl) rfl rfl
set_option maxHeartbeats 8000000 in
set_option maxRecDepth 100000 in
theorem tm_Lots_isOne (N d : Nat) (xs : List Int32) (c r : St) (a1 : Int32) (p : Int32) (hp : Lots_isOne N c a1 = some p) : mBig (mRoL xs) (d + 2) 38 [.ref 15, .int a1] (HP c r) (some (.int p)) (HP c r) 0 0 := mBig_of (by decide) rfl rfl rfl rfl (t_Lots_isOne N d xs c r a1 p hp)
/-! ColdHolds.lay(II)I, from (('r', 0), 'i', 'i') -/
def C_lay_p18 (N : Nat) (c : St) : Option (Int32 × St) :=
  some ((-101), c)
def C_lay (N : Nat) (c : St) (x1 : Int32) (x2 : Int32) : Option (Int32 × St) :=
  (Lots_isOne N c x1).bind fun p1 => (if p1 = 0 then C_lay_p18 N c else (C_isCell N x2).bind fun p3 => (if ¬ p3 = 0 then (C_change_5 N c x1 x2).bind fun p5 => some (p5.1, p5.2) else C_lay_p18 N c))
set_option maxHeartbeats 8000000 in
set_option maxRecDepth 100000 in
theorem t_C_lay_p18 (N d : Nat) (xs : List Int32) (r : St) (c : St) : Ok (mBig (mRoL xs) (d + 2)) (mRoL xs) 1 mK119 (fun p : Int32 × St => (some (.int p.1), HP p.2 r)) (C_lay_p18 N c) 18 [none, none, none] [] (HP c r) := by
  unfold C_lay_p18
  refine Ok_blk 1 (pc2 := 20) (lo2 := [none, none, none]) (st2 := [.int (-101)]) rfl ?_
  exact Ok_ret rfl rfl rfl
set_option maxHeartbeats 8000000 in
set_option maxRecDepth 100000 in
theorem t_C_lay (N d : Nat) (xs : List Int32) (r : St) (c : St) (x1 : Int32) (x2 : Int32) : Ok (mBig (mRoL xs) (d + 2)) (mRoL xs) 1 mK119 (fun p : Int32 × St => (some (.int p.1), HP p.2 r)) (C_lay N c x1 x2) 0 [some (.ref 0), some (.int x1), some (.int x2)] [] (HP c r) := by
  unfold C_lay
  refine Ok_blk 3 (pc2 := 5) (lo2 := [some (.ref 0), some (.int x1), some (.int x2)]) (st2 := [.int x1, .ref 15]) rfl ?_
  refine Ok_call (y := 38) (as := [.ref 15, .int x1]) (rest := []) (w := fun p1 => some (.int p1)) (h1 := fun p1 => HP c r) rfl rfl (fun x hx => tm_Lots_isOne N d xs c r x1 x hx) (fun p1 hp1 => ?_)
  refine Ok_blk 1 (pc2 := (if p1 = 0 then 18 else 11)) (lo2 := [some (.ref 0), some (.int x1), some (.int x2)]) (st2 := []) rfl ?_
  refine Ok_if (fun h2 => ?_) (fun h2 => ?_)
  · refine Ok_drop (lo0 := [none, none, none]) ⟨Or.inl rfl, Or.inl rfl, Or.inl rfl, trivial⟩ ?_
    exact t_C_lay_p18 N d xs r c
  · refine Ok_blk 1 (pc2 := 12) (lo2 := [some (.ref 0), some (.int x1), some (.int x2)]) (st2 := [.int x2]) rfl ?_
    refine Ok_call (y := 103) (as := [.int x2]) (rest := []) (w := fun p3 => some (.int p3)) (h1 := fun p3 => HP c r) rfl rfl (fun x hx => tm_C_isCell N d xs c r x2 x hx) (fun p3 hp3 => ?_)
    refine Ok_blk 1 (pc2 := (if ¬ p3 = 0 then 21 else 18)) (lo2 := [some (.ref 0), some (.int x1), some (.int x2)]) (st2 := []) rfl ?_
    refine Ok_if (fun h4 => ?_) (fun h4 => ?_)
    · refine Ok_blk 5 (pc2 := 30) (lo2 := [some (.ref 0), some (.int x1), some (.int x2)]) (st2 := [.int x2, .int x1, .ref 17]) rfl ?_
      refine Ok_call (y := 105) (as := [.ref 17, .int x1, .int x2]) (rest := []) (w := fun p5 => some (.int p5.1)) (h1 := fun p5 => HP p5.2 r) rfl rfl (fun x hx => tm_C_change_5 N (d + 1) xs c r x1 x2 x hx) (fun p5 hp5 => ?_)
      exact Ok_ret rfl rfl rfl
    · refine Ok_drop (lo0 := [none, none, none]) ⟨Or.inl rfl, Or.inl rfl, Or.inl rfl, trivial⟩ ?_
      exact t_C_lay_p18 N d xs r c
set_option maxHeartbeats 8000000 in
set_option maxRecDepth 100000 in
theorem tm_C_lay (N d : Nat) (xs : List Int32) (c r : St) (a1 : Int32) (a2 : Int32) (p : Int32 × St) (hp : C_lay N c a1 a2 = some p) : mBig (mRoL xs) (d + 3) 119 [.ref 0, .int a1, .int a2] (HP c r) (some (.int p.1)) (HP p.2 r) 0 0 := mBig_of (by decide) rfl rfl rfl rfl (t_C_lay N d xs r c a1 a2 p hp)
/-! ColdHoldsModel.isLot(I)Z, from (('r', 115), 'i') -/
def R_isLot (N : Nat) (r : St) (x1 : Int32) : Option (Int32) :=
  (R_in N x1 0 ((gI r 7) - 1)).bind fun p1 => some p1
set_option maxHeartbeats 8000000 in
set_option maxRecDepth 100000 in
theorem t_R_isLot (N d : Nat) (xs : List Int32) (c : St) (r : St) (x1 : Int32) : Ok (mBig (mRoL xs) (d + 1)) (mRoL xs) 2 mK184 (fun p : Int32 => (some (.int p), HP c r)) (R_isLot N r x1) 0 [some (.ref 115), some (.int x1)] [] (HP c r) := by
  unfold R_isLot
  refine Ok_blk 6 (pc2 := 8) (lo2 := [some (.ref 115), some (.int x1)]) (st2 := [.int ((gI r 7) - 1), .int 0, .int x1]) rfl ?_
  refine Ok_call (y := 164) (as := [.int x1, .int 0, .int ((gI r 7) - 1)]) (rest := []) (w := fun p1 => some (.int p1)) (h1 := fun p1 => HP c r) rfl rfl (fun x hx => tm_R_in N d xs c r x1 0 ((gI r 7) - 1) x hx) (fun p1 hp1 => ?_)
  exact Ok_rez (mBig_z (tm_R_in N d xs c r x1 0 ((gI r 7) - 1) p1 hp1) rfl) rfl rfl
set_option maxHeartbeats 8000000 in
set_option maxRecDepth 100000 in
theorem tm_R_isLot (N d : Nat) (xs : List Int32) (c r : St) (a1 : Int32) (p : Int32) (hp : R_isLot N r a1 = some p) : mBig (mRoL xs) (d + 2) 184 [.ref 115, .int a1] (HP c r) (some (.int p)) (HP c r) 0 0 := mBig_of (by decide) rfl rfl rfl rfl (t_R_isLot N d xs c r a1 p hp)
/-! ColdHoldsModel.lay(II)I, from (('r', 115), 'i', 'i') -/
def R_lay_p15 (N : Nat) (r : St) : Option (Int32 × St) :=
  some ((-101), r)
def R_lay (N : Nat) (r : St) (x1 : Int32) (x2 : Int32) : Option (Int32 × St) :=
  (R_isLot N r x1).bind fun p1 => (if p1 = 0 then R_lay_p15 N r else (R_isCell N x2).bind fun p3 => (if ¬ p3 = 0 then (ld (gA r 6) x1).bind fun y5 => (sto (gA r 6) x1 x2).bind fun w6 => some (y5, sA r 6 w6) else R_lay_p15 N r))
set_option maxHeartbeats 8000000 in
set_option maxRecDepth 100000 in
theorem t_R_lay_p15 (N d : Nat) (xs : List Int32) (c : St) (r : St) : Ok (mBig (mRoL xs) (d + 2)) (mRoL xs) 1 mK186 (fun p : Int32 × St => (some (.int p.1), HP c p.2)) (R_lay_p15 N r) 15 [none, none, none, none] [] (HP c r) := by
  unfold R_lay_p15
  refine Ok_blk 1 (pc2 := 17) (lo2 := [none, none, none, none]) (st2 := [.int (-101)]) rfl ?_
  exact Ok_ret rfl rfl rfl
set_option maxHeartbeats 8000000 in
set_option maxRecDepth 100000 in
theorem t_R_lay (N d : Nat) (xs : List Int32) (c : St) (r : St) (x1 : Int32) (x2 : Int32) : Ok (mBig (mRoL xs) (d + 2)) (mRoL xs) 1 mK186 (fun p : Int32 × St => (some (.int p.1), HP c p.2)) (R_lay N r x1 x2) 0 [some (.ref 115), some (.int x1), some (.int x2), none] [] (HP c r) := by
  unfold R_lay
  refine Ok_blk 2 (pc2 := 2) (lo2 := [some (.ref 115), some (.int x1), some (.int x2), none]) (st2 := [.int x1, .ref 115]) rfl ?_
  refine Ok_call (y := 184) (as := [.ref 115, .int x1]) (rest := []) (w := fun p1 => some (.int p1)) (h1 := fun p1 => HP c r) rfl rfl (fun x hx => tm_R_isLot N d xs c r x1 x hx) (fun p1 hp1 => ?_)
  refine Ok_blk 1 (pc2 := (if p1 = 0 then 15 else 8)) (lo2 := [some (.ref 115), some (.int x1), some (.int x2), none]) (st2 := []) rfl ?_
  refine Ok_if (fun h2 => ?_) (fun h2 => ?_)
  · refine Ok_drop (lo0 := [none, none, none, none]) ⟨Or.inl rfl, Or.inl rfl, Or.inl rfl, Or.inl rfl, trivial⟩ ?_
    exact t_R_lay_p15 N d xs c r
  · refine Ok_blk 1 (pc2 := 9) (lo2 := [some (.ref 115), some (.int x1), some (.int x2), none]) (st2 := [.int x2]) rfl ?_
    refine Ok_call (y := 165) (as := [.int x2]) (rest := []) (w := fun p3 => some (.int p3)) (h1 := fun p3 => HP c r) rfl rfl (fun x hx => tm_R_isCell N d xs c r x2 x hx) (fun p3 hp3 => ?_)
    refine Ok_blk 1 (pc2 := (if ¬ p3 = 0 then 18 else 15)) (lo2 := [some (.ref 115), some (.int x1), some (.int x2), none]) (st2 := []) rfl ?_
    refine Ok_if (fun h4 => ?_) (fun h4 => ?_)
    · refine Ok_blk 3 (pc2 := 23) (lo2 := [some (.ref 115), some (.int x1), some (.int x2), none]) (st2 := [.int x1, .ref 122]) rfl ?_
      refine Ok_ld (l := (gA r 6)) rfl rfl (fun y5 hy5 => ?_)
      refine Ok_blk 5 (pc2 := 31) (lo2 := [some (.ref 115), some (.int x1), some (.int x2), some (.int y5)]) (st2 := [.int x2, .int x1, .ref 122]) rfl ?_
      refine Ok_st (l := (gA r 6)) (hn := fun l' => HP c (sA r 6 l')) rfl rfl (fun l' => sa_122 _ _ l') (fun w6 hw6 => ?_)
      refine Ok_blk 1 (pc2 := 33) (lo2 := [some (.ref 115), some (.int x1), some (.int x2), some (.int y5)]) (st2 := [.int y5]) rfl ?_
      exact Ok_ret rfl rfl rfl
    · refine Ok_drop (lo0 := [none, none, none, none]) ⟨Or.inl rfl, Or.inl rfl, Or.inl rfl, Or.inl rfl, trivial⟩ ?_
      exact t_R_lay_p15 N d xs c r
set_option maxHeartbeats 8000000 in
set_option maxRecDepth 100000 in
theorem tm_R_lay (N d : Nat) (xs : List Int32) (c r : St) (a1 : Int32) (a2 : Int32) (p : Int32 × St) (hp : R_lay N r a1 a2 = some p) : mBig (mRoL xs) (d + 3) 186 [.ref 115, .int a1, .int a2] (HP c r) (some (.int p.1)) (HP c p.2) 0 0 := mBig_of (by decide) rfl rfl rfl rfl (t_R_lay N d xs c r a1 a2 p hp)
/-! ColdHolds$Lots.worth(I)I, from ('i',) -/
def Lots_worth (N : Nat) (x0 : Int32) : Option (Int32) :=
  (if x0 = 1 then some (10 + 20) else (if x0 = 2 then some ((10 + 20) + 5) else (if x0 = 3 then some (2 * (10 + 20)) else (if x0 = 4 then some ((2 * 10) - 10) else (if x0 = 5 then some (3 * 10) else some 10)))))
set_option maxHeartbeats 8000000 in
set_option maxRecDepth 100000 in
theorem t_Lots_worth (N d : Nat) (xs : List Int32) (c : St) (r : St) (x0 : Int32) : Ok (mBig (mRoL xs) (d)) (mRoL xs) 1 mK47 (fun p : Int32 => (some (.int p), HP c r)) (Lots_worth N x0) 0 [some (.int x0), none, none] [] (HP c r) := by
  unfold Lots_worth
  refine Ok_blk 8 (pc2 := mSw x0 [(1, 44), (2, 46), (3, 50), (4, 54), (5, 61)] 65) (lo2 := [some (.int x0), some (.int 10), some (.int (10 + 20))]) (st2 := []) rfl ?_
  refine Ok_sw (fun h1 => ?_) (fun h1 => ?_)
  · refine Ok_blk 1 (pc2 := 45) (lo2 := [some (.int x0), some (.int 10), some (.int (10 + 20))]) (st2 := [.int (10 + 20)]) rfl ?_
    exact Ok_ret rfl rfl rfl
  refine Ok_sw (fun h2 => ?_) (fun h2 => ?_)
  · refine Ok_blk 3 (pc2 := 49) (lo2 := [some (.int x0), some (.int 10), some (.int (10 + 20))]) (st2 := [.int ((10 + 20) + 5)]) rfl ?_
    exact Ok_ret rfl rfl rfl
  refine Ok_sw (fun h3 => ?_) (fun h3 => ?_)
  · refine Ok_blk 3 (pc2 := 53) (lo2 := [some (.int x0), some (.int 10), some (.int (10 + 20))]) (st2 := [.int (2 * (10 + 20))]) rfl ?_
    exact Ok_ret rfl rfl rfl
  refine Ok_sw (fun h4 => ?_) (fun h4 => ?_)
  · refine Ok_blk 5 (pc2 := 60) (lo2 := [some (.int x0), some (.int 10), some (.int (10 + 20))]) (st2 := [.int ((2 * 10) - 10)]) rfl ?_
    exact Ok_ret rfl rfl rfl
  refine Ok_sw (fun h5 => ?_) (fun h5 => ?_)
  · refine Ok_blk 3 (pc2 := 64) (lo2 := [some (.int x0), some (.int 10), some (.int (10 + 20))]) (st2 := [.int (3 * 10)]) rfl ?_
    exact Ok_ret rfl rfl rfl
  show Ok _ _ _ _ _ _ 65 _ _ _
  refine Ok_blk 1 (pc2 := 66) (lo2 := [some (.int x0), some (.int 10), some (.int (10 + 20))]) (st2 := [.int 10]) rfl ?_
  exact Ok_ret rfl rfl rfl
set_option maxHeartbeats 8000000 in
set_option maxRecDepth 100000 in
theorem tm_Lots_worth (N d : Nat) (xs : List Int32) (c r : St) (a0 : Int32) (p : Int32) (hp : Lots_worth N a0 = some p) : mBig (mRoL xs) (d + 1) 47 [.int a0] (HP c r) (some (.int p)) (HP c r) 0 0 := mBig_of (by decide) rfl rfl rfl rfl (t_Lots_worth N d xs c r a0 p hp)
/-! ColdHolds$Lots.tell(IILColdHolds$Air;I)I, from (('r', 15), 'i', 'i', ('r', 7), 'i') -/
def Lots_tell (N : Nat) (c : St) (x1 : Int32) (x2 : Int32) (x4 : Int32) : Option (Int32) :=
  (if x2 = 0 then (ld (gA c 11) x1).bind fun y2 => some y2 else (if x2 = 1 then (ld (gA c 12) x1).bind fun y4 => some y4 else (if x2 = 2 then (ld (gA c 6) x1).bind fun y6 => some y6 else (if x2 = 3 then (ld (gA c 6) x1).bind fun y8 => (Lots_stateFrom N y8).bind fun p9 => some p9 else (if x2 = 4 then (ld (gA c 13) x1).bind fun y11 => some (x4 - y11) else (if x2 = 5 then (ld (gA c 11) x1).bind fun y13 => (Lots_worth N y13).bind fun p14 => (ld (gA c 6) x1).bind fun y15 => (Lots_stateFrom N y15).bind fun p16 => some (p14 * (100 - (25 * p16))) else (if x2 = 6 then (rwi x1 20).bind fun q18 => (ld (gA c (14 + q18)) 0).bind fun y19 => some y19 else (if x2 = 7 then (rwi x1 20).bind fun q21 => (ld (gA c (14 + q21)) 1).bind fun y22 => some y22 else (rwi x1 20).bind fun q23 => (ld (gA c (14 + q23)) 2).bind fun y24 => some y24))))))))
set_option maxHeartbeats 8000000 in
set_option maxRecDepth 100000 in
theorem t_Lots_tell (N d : Nat) (xs : List Int32) (c : St) (r : St) (x1 : Int32) (x2 : Int32) (x4 : Int32) : Ok (mBig (mRoL xs) (d + 1)) (mRoL xs) 1 mK43 (fun p : Int32 => (some (.int p), HP c r)) (Lots_tell N c x1 x2 x4) 0 [some (.ref 15), some (.int x1), some (.int x2), some (.ref 7), some (.int x4)] [] (HP c r) := by
  unfold Lots_tell
  refine Ok_blk 2 (pc2 := mSw x2 [(0, 48), (1, 55), (2, 62), (3, 69), (4, 79), (5, 89), (6, 115), (7, 124)] 133) (lo2 := [some (.ref 15), some (.int x1), some (.int x2), some (.ref 7), some (.int x4)]) (st2 := []) rfl ?_
  refine Ok_sw (fun h1 => ?_) (fun h1 => ?_)
  · refine Ok_blk 3 (pc2 := 53) (lo2 := [some (.ref 15), some (.int x1), some (.int x2), some (.ref 7), some (.int x4)]) (st2 := [.int x1, .ref 16]) rfl ?_
    refine Ok_ld (l := (gA c 11)) rfl rfl (fun y2 hy2 => ?_)
    exact Ok_ret rfl rfl rfl
  refine Ok_sw (fun h3 => ?_) (fun h3 => ?_)
  · refine Ok_blk 3 (pc2 := 60) (lo2 := [some (.ref 15), some (.int x1), some (.int x2), some (.ref 7), some (.int x4)]) (st2 := [.int x1, .ref 17]) rfl ?_
    refine Ok_ld (l := (gA c 12)) rfl rfl (fun y4 hy4 => ?_)
    exact Ok_ret rfl rfl rfl
  refine Ok_sw (fun h5 => ?_) (fun h5 => ?_)
  · refine Ok_blk 3 (pc2 := 67) (lo2 := [some (.ref 15), some (.int x1), some (.int x2), some (.ref 7), some (.int x4)]) (st2 := [.int x1, .ref 9]) rfl ?_
    refine Ok_ld (l := (gA c 6)) rfl rfl (fun y6 hy6 => ?_)
    exact Ok_ret rfl rfl rfl
  refine Ok_sw (fun h7 => ?_) (fun h7 => ?_)
  · refine Ok_blk 3 (pc2 := 74) (lo2 := [some (.ref 15), some (.int x1), some (.int x2), some (.ref 7), some (.int x4)]) (st2 := [.int x1, .ref 9]) rfl ?_
    refine Ok_ld (l := (gA c 6)) rfl rfl (fun y8 hy8 => ?_)
    refine Ok_call (y := 44) (as := [.int y8]) (rest := []) (w := fun p9 => some (.int p9)) (h1 := fun p9 => HP c r) rfl rfl (fun x hx => tm_Lots_stateFrom N d xs c r y8 x hx) (fun p9 hp9 => ?_)
    exact Ok_ret rfl rfl rfl
  refine Ok_sw (fun h10 => ?_) (fun h10 => ?_)
  · refine Ok_blk 4 (pc2 := 86) (lo2 := [some (.ref 15), some (.int x1), some (.int x2), some (.ref 7), some (.int x4)]) (st2 := [.int x1, .ref 18, .int x4]) rfl ?_
    refine Ok_ld (l := (gA c 13)) rfl rfl (fun y11 hy11 => ?_)
    refine Ok_blk 1 (pc2 := 88) (lo2 := [some (.ref 15), some (.int x1), some (.int x2), some (.ref 7), some (.int x4)]) (st2 := [.int (x4 - y11)]) rfl ?_
    exact Ok_ret rfl rfl rfl
  refine Ok_sw (fun h12 => ?_) (fun h12 => ?_)
  · refine Ok_blk 3 (pc2 := 94) (lo2 := [some (.ref 15), some (.int x1), some (.int x2), some (.ref 7), some (.int x4)]) (st2 := [.int x1, .ref 16]) rfl ?_
    refine Ok_ld (l := (gA c 11)) rfl rfl (fun y13 hy13 => ?_)
    refine Ok_call (y := 47) (as := [.int y13]) (rest := []) (w := fun p14 => some (.int p14)) (h1 := fun p14 => HP c r) rfl rfl (fun x hx => tm_Lots_worth N d xs c r y13 x hx) (fun p14 hp14 => ?_)
    refine Ok_blk 5 (pc2 := 107) (lo2 := [some (.ref 15), some (.int x1), some (.int x2), some (.ref 7), some (.int x4)]) (st2 := [.int x1, .ref 9, .int 25, .int 100, .int p14]) rfl ?_
    refine Ok_ld (l := (gA c 6)) rfl rfl (fun y15 hy15 => ?_)
    refine Ok_call (y := 44) (as := [.int y15]) (rest := [.int 25, .int 100, .int p14]) (w := fun p16 => some (.int p16)) (h1 := fun p16 => HP c r) rfl rfl (fun x hx => tm_Lots_stateFrom N d xs c r y15 x hx) (fun p16 hp16 => ?_)
    refine Ok_blk 3 (pc2 := 114) (lo2 := [some (.ref 15), some (.int x1), some (.int x2), some (.ref 7), some (.int x4)]) (st2 := [.int (p14 * (100 - (25 * p16)))]) rfl ?_
    exact Ok_ret rfl rfl rfl
  refine Ok_sw (fun h17 => ?_) (fun h17 => ?_)
  · refine Ok_blk 3 (pc2 := 120) (lo2 := [some (.ref 15), some (.int x1), some (.int x2), some (.ref 7), some (.int x4)]) (st2 := [.int x1, .ref 19]) rfl ?_
    refine Ok_rw (b := 20) (n := 20) rfl rfl (fun j h => rowl_19 j h) (fun q18 hq18 => ?_)
    refine Ok_blk 1 (pc2 := 122) (lo2 := [some (.ref 15), some (.int x1), some (.int x2), some (.ref 7), some (.int x4)]) (st2 := [.int 0, .ref (20 + q18)]) rfl ?_
    refine Ok_ld (l := (gA c (14 + q18))) rfl ((rows_19 hq18).row _ _ _) (fun y19 hy19 => ?_)
    exact Ok_ret rfl rfl rfl
  refine Ok_sw (fun h20 => ?_) (fun h20 => ?_)
  · refine Ok_blk 3 (pc2 := 129) (lo2 := [some (.ref 15), some (.int x1), some (.int x2), some (.ref 7), some (.int x4)]) (st2 := [.int x1, .ref 19]) rfl ?_
    refine Ok_rw (b := 20) (n := 20) rfl rfl (fun j h => rowl_19 j h) (fun q21 hq21 => ?_)
    refine Ok_blk 1 (pc2 := 131) (lo2 := [some (.ref 15), some (.int x1), some (.int x2), some (.ref 7), some (.int x4)]) (st2 := [.int 1, .ref (20 + q21)]) rfl ?_
    refine Ok_ld (l := (gA c (14 + q21))) rfl ((rows_19 hq21).row _ _ _) (fun y22 hy22 => ?_)
    exact Ok_ret rfl rfl rfl
  show Ok _ _ _ _ _ _ 133 _ _ _
  refine Ok_blk 3 (pc2 := 138) (lo2 := [some (.ref 15), some (.int x1), some (.int x2), some (.ref 7), some (.int x4)]) (st2 := [.int x1, .ref 19]) rfl ?_
  refine Ok_rw (b := 20) (n := 20) rfl rfl (fun j h => rowl_19 j h) (fun q23 hq23 => ?_)
  refine Ok_blk 1 (pc2 := 140) (lo2 := [some (.ref 15), some (.int x1), some (.int x2), some (.ref 7), some (.int x4)]) (st2 := [.int 2, .ref (20 + q23)]) rfl ?_
  refine Ok_ld (l := (gA c (14 + q23))) rfl ((rows_19 hq23).row _ _ _) (fun y24 hy24 => ?_)
  exact Ok_ret rfl rfl rfl
set_option maxHeartbeats 8000000 in
set_option maxRecDepth 100000 in
theorem tm_Lots_tell (N d : Nat) (xs : List Int32) (c r : St) (a1 : Int32) (a2 : Int32) (a4 : Int32) (p : Int32) (hp : Lots_tell N c a1 a2 a4 = some p) : mBig (mRoL xs) (d + 2) 43 [.ref 15, .int a1, .int a2, .ref 7, .int a4] (HP c r) (some (.int p)) (HP c r) 0 0 := mBig_of (by decide) rfl rfl rfl rfl (t_Lots_tell N d xs c r a1 a2 a4 p hp)
/-! ColdHolds.about(II)I, from (('r', 0), 'i', 'i') -/
def C_about (N : Nat) (c : St) (x1 : Int32) (x2 : Int32) : Option (Int32) :=
  (Lots_isOne N c x1).bind fun p1 => (if ¬ p1 = 0 then (C_within N x2 0 8).bind fun p3 => (if ¬ p3 = 0 then (Lots_tell N c x1 x2 (gI c 1)).bind fun p5 => some p5 else some (-102)) else some (-101))
set_option maxHeartbeats 8000000 in
set_option maxRecDepth 100000 in
theorem t_C_about (N d : Nat) (xs : List Int32) (c : St) (r : St) (x1 : Int32) (x2 : Int32) : Ok (mBig (mRoL xs) (d + 2)) (mRoL xs) 1 mK120 (fun p : Int32 => (some (.int p), HP c r)) (C_about N c x1 x2) 0 [some (.ref 0), some (.int x1), some (.int x2)] [] (HP c r) := by
  unfold C_about
  refine Ok_blk 3 (pc2 := 5) (lo2 := [some (.ref 0), some (.int x1), some (.int x2)]) (st2 := [.int x1, .ref 15]) rfl ?_
  refine Ok_call (y := 38) (as := [.ref 15, .int x1]) (rest := []) (w := fun p1 => some (.int p1)) (h1 := fun p1 => HP c r) rfl rfl (fun x hx => tm_Lots_isOne N d xs c r x1 x hx) (fun p1 hp1 => ?_)
  refine Ok_blk 1 (pc2 := (if ¬ p1 = 0 then 14 else 11)) (lo2 := [some (.ref 0), some (.int x1), some (.int x2)]) (st2 := []) rfl ?_
  refine Ok_if (fun h2 => ?_) (fun h2 => ?_)
  · refine Ok_blk 3 (pc2 := 18) (lo2 := [some (.ref 0), some (.int x1), some (.int x2)]) (st2 := [.int 8, .int 0, .int x2]) rfl ?_
    refine Ok_call (y := 102) (as := [.int x2, .int 0, .int 8]) (rest := []) (w := fun p3 => some (.int p3)) (h1 := fun p3 => HP c r) rfl rfl (fun x hx => tm_C_within N (d + 1) xs c r x2 0 8 x hx) (fun p3 hp3 => ?_)
    refine Ok_blk 1 (pc2 := (if ¬ p3 = 0 then 27 else 24)) (lo2 := [some (.ref 0), some (.int x1), some (.int x2)]) (st2 := []) rfl ?_
    refine Ok_if (fun h4 => ?_) (fun h4 => ?_)
    · refine Ok_blk 9 (pc2 := 44) (lo2 := [some (.ref 0), some (.int x1), some (.int x2)]) (st2 := [.int (gI c 1), .ref 7, .int x2, .int x1, .ref 15]) rfl ?_
      refine Ok_call (y := 43) (as := [.ref 15, .int x1, .int x2, .ref 7, .int (gI c 1)]) (rest := []) (w := fun p5 => some (.int p5)) (h1 := fun p5 => HP c r) rfl rfl (fun x hx => tm_Lots_tell N d xs c r x1 x2 (gI c 1) x hx) (fun p5 hp5 => ?_)
      exact Ok_ret rfl rfl rfl
    · refine Ok_blk 1 (pc2 := 26) (lo2 := [some (.ref 0), some (.int x1), some (.int x2)]) (st2 := [.int (-102)]) rfl ?_
      exact Ok_ret rfl rfl rfl
  · refine Ok_blk 1 (pc2 := 13) (lo2 := [some (.ref 0), some (.int x1), some (.int x2)]) (st2 := [.int (-101)]) rfl ?_
    exact Ok_ret rfl rfl rfl
set_option maxHeartbeats 8000000 in
set_option maxRecDepth 100000 in
theorem tm_C_about (N d : Nat) (xs : List Int32) (c r : St) (a1 : Int32) (a2 : Int32) (p : Int32) (hp : C_about N c a1 a2 = some p) : mBig (mRoL xs) (d + 3) 120 [.ref 0, .int a1, .int a2] (HP c r) (some (.int p)) (HP c r) 0 0 := mBig_of (by decide) rfl rfl rfl rfl (t_C_about N d xs c r a1 a2 p hp)
/-! ColdHoldsModel.worthOf(I)I, from (('r', 115), 'i') -/
def R_worthOf_p58 (N : Nat) (r : St) (x1 : Int32) (s0 : Int32) : Option (Int32) :=
  (ld (gA r 7) x1).bind fun y7 => (R_stateOf N y7).bind fun p8 => some (s0 * (100 - (25 * p8)))
def R_worthOf (N : Nat) (r : St) (x1 : Int32) : Option (Int32) :=
  (ld (gA r 5) x1).bind fun y1 => (if ¬ y1 = 0 then (if ¬ y1 = 1 then (if ¬ y1 = 2 then (if ¬ y1 = 3 then (if ¬ y1 = 4 then R_worthOf_p58 N r x1 30 else R_worthOf_p58 N r x1 10) else R_worthOf_p58 N r x1 60) else R_worthOf_p58 N r x1 35) else R_worthOf_p58 N r x1 30) else R_worthOf_p58 N r x1 10)
set_option maxHeartbeats 8000000 in
set_option maxRecDepth 100000 in
theorem t_R_worthOf_p58 (N d : Nat) (xs : List Int32) (c : St) (r : St) (x1 : Int32) (s0 : Int32) : Ok (mBig (mRoL xs) (d + 1)) (mRoL xs) 1 mK187 (fun p : Int32 => (some (.int p), HP c r)) (R_worthOf_p58 N r x1 s0) 58 [some (.ref 115), some (.int x1), none, none] [.int s0] (HP c r) := by
  unfold R_worthOf_p58
  refine Ok_blk 7 (pc2 := 69) (lo2 := [some (.ref 115), some (.int x1), none, some (.int s0)]) (st2 := [.int x1, .ref 123, .int 25, .int 100, .int s0]) rfl ?_
  refine Ok_ld (l := (gA r 7)) rfl rfl (fun y7 hy7 => ?_)
  refine Ok_call (y := 180) (as := [.int y7]) (rest := [.int 25, .int 100, .int s0]) (w := fun p8 => some (.int p8)) (h1 := fun p8 => HP c r) rfl rfl (fun x hx => tm_R_stateOf N d xs c r y7 x hx) (fun p8 hp8 => ?_)
  refine Ok_blk 3 (pc2 := 76) (lo2 := [some (.ref 115), some (.int x1), none, some (.int s0)]) (st2 := [.int (s0 * (100 - (25 * p8)))]) rfl ?_
  exact Ok_ret rfl rfl rfl
set_option maxHeartbeats 8000000 in
set_option maxRecDepth 100000 in
theorem t_R_worthOf (N d : Nat) (xs : List Int32) (c : St) (r : St) (x1 : Int32) : Ok (mBig (mRoL xs) (d + 1)) (mRoL xs) 1 mK187 (fun p : Int32 => (some (.int p), HP c r)) (R_worthOf N r x1) 0 [some (.ref 115), some (.int x1), none, none] [] (HP c r) := by
  unfold R_worthOf
  refine Ok_blk 3 (pc2 := 5) (lo2 := [some (.ref 115), some (.int x1), none, none]) (st2 := [.int x1, .ref 121]) rfl ?_
  refine Ok_ld (l := (gA r 5)) rfl rfl (fun y1 hy1 => ?_)
  refine Ok_blk 3 (pc2 := (if ¬ y1 = 0 then 16 else 11)) (lo2 := [some (.ref 115), some (.int x1), some (.int y1), none]) (st2 := []) rfl ?_
  refine Ok_if (fun h2 => ?_) (fun h2 => ?_)
  · refine Ok_blk 3 (pc2 := (if ¬ y1 = 1 then 26 else 21)) (lo2 := [some (.ref 115), some (.int x1), some (.int y1), none]) (st2 := []) rfl ?_
    refine Ok_if (fun h3 => ?_) (fun h3 => ?_)
    · refine Ok_blk 3 (pc2 := (if ¬ y1 = 2 then 36 else 31)) (lo2 := [some (.ref 115), some (.int x1), some (.int y1), none]) (st2 := []) rfl ?_
      refine Ok_if (fun h4 => ?_) (fun h4 => ?_)
      · refine Ok_blk 3 (pc2 := (if ¬ y1 = 3 then 46 else 41)) (lo2 := [some (.ref 115), some (.int x1), some (.int y1), none]) (st2 := []) rfl ?_
        refine Ok_if (fun h5 => ?_) (fun h5 => ?_)
        · refine Ok_blk 3 (pc2 := (if ¬ y1 = 4 then 56 else 51)) (lo2 := [some (.ref 115), some (.int x1), some (.int y1), none]) (st2 := []) rfl ?_
          refine Ok_if (fun h6 => ?_) (fun h6 => ?_)
          · refine Ok_blk 1 (pc2 := 58) (lo2 := [some (.ref 115), some (.int x1), some (.int y1), none]) (st2 := [.int 30]) rfl ?_
            refine Ok_drop (lo0 := [some (.ref 115), some (.int x1), none, none]) ⟨Or.inr rfl, Or.inr rfl, Or.inl rfl, Or.inl rfl, trivial⟩ ?_
            exact t_R_worthOf_p58 N d xs c r x1 30
          · refine Ok_blk 2 (pc2 := 58) (lo2 := [some (.ref 115), some (.int x1), some (.int y1), none]) (st2 := [.int 10]) rfl ?_
            refine Ok_drop (lo0 := [some (.ref 115), some (.int x1), none, none]) ⟨Or.inr rfl, Or.inr rfl, Or.inl rfl, Or.inl rfl, trivial⟩ ?_
            exact t_R_worthOf_p58 N d xs c r x1 10
        · refine Ok_blk 2 (pc2 := 58) (lo2 := [some (.ref 115), some (.int x1), some (.int y1), none]) (st2 := [.int 60]) rfl ?_
          refine Ok_drop (lo0 := [some (.ref 115), some (.int x1), none, none]) ⟨Or.inr rfl, Or.inr rfl, Or.inl rfl, Or.inl rfl, trivial⟩ ?_
          exact t_R_worthOf_p58 N d xs c r x1 60
      · refine Ok_blk 2 (pc2 := 58) (lo2 := [some (.ref 115), some (.int x1), some (.int y1), none]) (st2 := [.int 35]) rfl ?_
        refine Ok_drop (lo0 := [some (.ref 115), some (.int x1), none, none]) ⟨Or.inr rfl, Or.inr rfl, Or.inl rfl, Or.inl rfl, trivial⟩ ?_
        exact t_R_worthOf_p58 N d xs c r x1 35
    · refine Ok_blk 2 (pc2 := 58) (lo2 := [some (.ref 115), some (.int x1), some (.int y1), none]) (st2 := [.int 30]) rfl ?_
      refine Ok_drop (lo0 := [some (.ref 115), some (.int x1), none, none]) ⟨Or.inr rfl, Or.inr rfl, Or.inl rfl, Or.inl rfl, trivial⟩ ?_
      exact t_R_worthOf_p58 N d xs c r x1 30
  · refine Ok_blk 2 (pc2 := 58) (lo2 := [some (.ref 115), some (.int x1), some (.int y1), none]) (st2 := [.int 10]) rfl ?_
    refine Ok_drop (lo0 := [some (.ref 115), some (.int x1), none, none]) ⟨Or.inr rfl, Or.inr rfl, Or.inl rfl, Or.inl rfl, trivial⟩ ?_
    exact t_R_worthOf_p58 N d xs c r x1 10
set_option maxHeartbeats 8000000 in
set_option maxRecDepth 100000 in
theorem tm_R_worthOf (N d : Nat) (xs : List Int32) (c r : St) (a1 : Int32) (p : Int32) (hp : R_worthOf N r a1 = some p) : mBig (mRoL xs) (d + 2) 187 [.ref 115, .int a1] (HP c r) (some (.int p)) (HP c r) 0 0 := mBig_of (by decide) rfl rfl rfl rfl (t_R_worthOf N d xs c r a1 p hp)
/-! ColdHoldsModel.aboutOf(II)I, from (('r', 115), 'i', 'i') -/
def R_aboutOf (N : Nat) (r : St) (x1 : Int32) (x2 : Int32) : Option (Int32) :=
  (if x2 = 0 then (ld (gA r 5) x1).bind fun y2 => some y2 else (if x2 = 1 then (ld (gA r 6) x1).bind fun y4 => some y4 else (if x2 = 2 then (ld (gA r 7) x1).bind fun y6 => some y6 else (if x2 = 3 then (ld (gA r 7) x1).bind fun y8 => (R_stateOf N y8).bind fun p9 => some p9 else (if x2 = 4 then (ld (gA r 8) x1).bind fun y11 => some ((gI r 4) - y11) else (if x2 = 5 then (R_worthOf N r x1).bind fun p13 => some p13 else (ld (gA r 9) (((3 * x1) + x2) - 6)).bind fun y14 => some y14))))))
set_option maxHeartbeats 8000000 in
set_option maxRecDepth 100000 in
theorem t_R_aboutOf (N d : Nat) (xs : List Int32) (c : St) (r : St) (x1 : Int32) (x2 : Int32) : Ok (mBig (mRoL xs) (d + 2)) (mRoL xs) 1 mK188 (fun p : Int32 => (some (.int p), HP c r)) (R_aboutOf N r x1 x2) 0 [some (.ref 115), some (.int x1), some (.int x2)] [] (HP c r) := by
  unfold R_aboutOf
  refine Ok_blk 2 (pc2 := mSw x2 [(0, 40), (1, 47), (2, 54), (3, 61), (4, 71), (5, 83)] 89) (lo2 := [some (.ref 115), some (.int x1), some (.int x2)]) (st2 := []) rfl ?_
  refine Ok_sw (fun h1 => ?_) (fun h1 => ?_)
  · refine Ok_blk 3 (pc2 := 45) (lo2 := [some (.ref 115), some (.int x1), some (.int x2)]) (st2 := [.int x1, .ref 121]) rfl ?_
    refine Ok_ld (l := (gA r 5)) rfl rfl (fun y2 hy2 => ?_)
    exact Ok_ret rfl rfl rfl
  refine Ok_sw (fun h3 => ?_) (fun h3 => ?_)
  · refine Ok_blk 3 (pc2 := 52) (lo2 := [some (.ref 115), some (.int x1), some (.int x2)]) (st2 := [.int x1, .ref 122]) rfl ?_
    refine Ok_ld (l := (gA r 6)) rfl rfl (fun y4 hy4 => ?_)
    exact Ok_ret rfl rfl rfl
  refine Ok_sw (fun h5 => ?_) (fun h5 => ?_)
  · refine Ok_blk 3 (pc2 := 59) (lo2 := [some (.ref 115), some (.int x1), some (.int x2)]) (st2 := [.int x1, .ref 123]) rfl ?_
    refine Ok_ld (l := (gA r 7)) rfl rfl (fun y6 hy6 => ?_)
    exact Ok_ret rfl rfl rfl
  refine Ok_sw (fun h7 => ?_) (fun h7 => ?_)
  · refine Ok_blk 3 (pc2 := 66) (lo2 := [some (.ref 115), some (.int x1), some (.int x2)]) (st2 := [.int x1, .ref 123]) rfl ?_
    refine Ok_ld (l := (gA r 7)) rfl rfl (fun y8 hy8 => ?_)
    refine Ok_call (y := 180) (as := [.int y8]) (rest := []) (w := fun p9 => some (.int p9)) (h1 := fun p9 => HP c r) rfl rfl (fun x hx => tm_R_stateOf N (d + 1) xs c r y8 x hx) (fun p9 hp9 => ?_)
    exact Ok_ret rfl rfl rfl
  refine Ok_sw (fun h10 => ?_) (fun h10 => ?_)
  · refine Ok_blk 5 (pc2 := 80) (lo2 := [some (.ref 115), some (.int x1), some (.int x2)]) (st2 := [.int x1, .ref 124, .int (gI r 4)]) rfl ?_
    refine Ok_ld (l := (gA r 8)) rfl rfl (fun y11 hy11 => ?_)
    refine Ok_blk 1 (pc2 := 82) (lo2 := [some (.ref 115), some (.int x1), some (.int x2)]) (st2 := [.int ((gI r 4) - y11)]) rfl ?_
    exact Ok_ret rfl rfl rfl
  refine Ok_sw (fun h12 => ?_) (fun h12 => ?_)
  · refine Ok_blk 2 (pc2 := 85) (lo2 := [some (.ref 115), some (.int x1), some (.int x2)]) (st2 := [.int x1, .ref 115]) rfl ?_
    refine Ok_call (y := 187) (as := [.ref 115, .int x1]) (rest := []) (w := fun p13 => some (.int p13)) (h1 := fun p13 => HP c r) rfl rfl (fun x hx => tm_R_worthOf N d xs c r x1 x hx) (fun p13 hp13 => ?_)
    exact Ok_ret rfl rfl rfl
  show Ok _ _ _ _ _ _ 89 _ _ _
  refine Ok_blk 9 (pc2 := 101) (lo2 := [some (.ref 115), some (.int x1), some (.int x2)]) (st2 := [.int (((3 * x1) + x2) - 6), .ref 125]) rfl ?_
  refine Ok_ld (l := (gA r 9)) rfl rfl (fun y14 hy14 => ?_)
  exact Ok_ret rfl rfl rfl
set_option maxHeartbeats 8000000 in
set_option maxRecDepth 100000 in
theorem tm_R_aboutOf (N d : Nat) (xs : List Int32) (c r : St) (a1 : Int32) (a2 : Int32) (p : Int32) (hp : R_aboutOf N r a1 a2 = some p) : mBig (mRoL xs) (d + 3) 188 [.ref 115, .int a1, .int a2] (HP c r) (some (.int p)) (HP c r) 0 0 := mBig_of (by decide) rfl rfl rfl rfl (t_R_aboutOf N d xs c r a1 a2 p hp)
/-! ColdHoldsModel.about(II)I, from (('r', 115), 'i', 'i') -/
def R_about (N : Nat) (r : St) (x1 : Int32) (x2 : Int32) : Option (Int32) :=
  (R_isLot N r x1).bind fun p1 => (if ¬ p1 = 0 then (R_in N x2 0 8).bind fun p3 => (if p3 = 0 then some (-102) else (R_aboutOf N r x1 x2).bind fun p5 => some p5) else some (-101))
set_option maxHeartbeats 8000000 in
set_option maxRecDepth 100000 in
theorem t_R_about (N d : Nat) (xs : List Int32) (c : St) (r : St) (x1 : Int32) (x2 : Int32) : Ok (mBig (mRoL xs) (d + 3)) (mRoL xs) 1 mK189 (fun p : Int32 => (some (.int p), HP c r)) (R_about N r x1 x2) 0 [some (.ref 115), some (.int x1), some (.int x2)] [] (HP c r) := by
  unfold R_about
  refine Ok_blk 2 (pc2 := 2) (lo2 := [some (.ref 115), some (.int x1), some (.int x2)]) (st2 := [.int x1, .ref 115]) rfl ?_
  refine Ok_call (y := 184) (as := [.ref 115, .int x1]) (rest := []) (w := fun p1 => some (.int p1)) (h1 := fun p1 => HP c r) rfl rfl (fun x hx => tm_R_isLot N (d + 1) xs c r x1 x hx) (fun p1 hp1 => ?_)
  refine Ok_blk 1 (pc2 := (if ¬ p1 = 0 then 13 else 8)) (lo2 := [some (.ref 115), some (.int x1), some (.int x2)]) (st2 := []) rfl ?_
  refine Ok_if (fun h2 => ?_) (fun h2 => ?_)
  · refine Ok_blk 3 (pc2 := 17) (lo2 := [some (.ref 115), some (.int x1), some (.int x2)]) (st2 := [.int 8, .int 0, .int x2]) rfl ?_
    refine Ok_call (y := 164) (as := [.int x2, .int 0, .int 8]) (rest := []) (w := fun p3 => some (.int p3)) (h1 := fun p3 => HP c r) rfl rfl (fun x hx => tm_R_in N (d + 2) xs c r x2 0 8 x hx) (fun p3 hp3 => ?_)
    refine Ok_blk 1 (pc2 := (if p3 = 0 then 32 else 23)) (lo2 := [some (.ref 115), some (.int x1), some (.int x2)]) (st2 := []) rfl ?_
    refine Ok_if (fun h4 => ?_) (fun h4 => ?_)
    · refine Ok_blk 1 (pc2 := 34) (lo2 := [some (.ref 115), some (.int x1), some (.int x2)]) (st2 := [.int (-102)]) rfl ?_
      exact Ok_ret rfl rfl rfl
    · refine Ok_blk 3 (pc2 := 26) (lo2 := [some (.ref 115), some (.int x1), some (.int x2)]) (st2 := [.int x2, .int x1, .ref 115]) rfl ?_
      refine Ok_call (y := 188) (as := [.ref 115, .int x1, .int x2]) (rest := []) (w := fun p5 => some (.int p5)) (h1 := fun p5 => HP c r) rfl rfl (fun x hx => tm_R_aboutOf N d xs c r x1 x2 x hx) (fun p5 hp5 => ?_)
      refine Ok_blk 1 (pc2 := 34) (lo2 := [some (.ref 115), some (.int x1), some (.int x2)]) (st2 := [.int p5]) rfl ?_
      exact Ok_ret rfl rfl rfl
  · refine Ok_blk 2 (pc2 := 34) (lo2 := [some (.ref 115), some (.int x1), some (.int x2)]) (st2 := [.int (-101)]) rfl ?_
    exact Ok_ret rfl rfl rfl
set_option maxHeartbeats 8000000 in
set_option maxRecDepth 100000 in
theorem tm_R_about (N d : Nat) (xs : List Int32) (c r : St) (a1 : Int32) (a2 : Int32) (p : Int32) (hp : R_about N r a1 a2 = some p) : mBig (mRoL xs) (d + 4) 189 [.ref 115, .int a1, .int a2] (HP c r) (some (.int p)) (HP c r) 0 0 := mBig_of (by decide) rfl rfl rfl rfl (t_R_about N d xs c r a1 a2 p hp)
/-! ColdHolds$Lots.isSuch(II)Z, from ('i', 'i') -/
def Lots_isSuch_p35 (N : Nat) : Option (Int32) :=
  some 1
def Lots_isSuch_p20 (N : Nat) : Option (Int32) :=
  some 1
def Lots_isSuch (N : Nat) (x0 : Int32) (x1 : Int32) : Option (Int32) :=
  (if ¬ x1 = 1 then (if x1 = 0 then Lots_isSuch_p35 N else (if ¬ x1 = x0 then some 0 else Lots_isSuch_p35 N)) else (if x0 = 1 then Lots_isSuch_p20 N else (if x0 = 2 then Lots_isSuch_p20 N else (if ¬ x0 = 3 then some 0 else Lots_isSuch_p20 N))))
set_option maxHeartbeats 8000000 in
set_option maxRecDepth 100000 in
theorem t_Lots_isSuch_p35 (N d : Nat) (xs : List Int32) (c : St) (r : St) : Ok (mBig (mRoL xs) (d)) (mRoL xs) 2 mK37 (fun p : Int32 => (some (.int p), HP c r)) (Lots_isSuch_p35 N) 35 [none, none] [] (HP c r) := by
  unfold Lots_isSuch_p35
  refine Ok_blk 2 (pc2 := 40) (lo2 := [none, none]) (st2 := [.int 1]) rfl ?_
  exact Ok_rez (Or.inr rfl) rfl rfl
set_option maxHeartbeats 8000000 in
set_option maxRecDepth 100000 in
theorem t_Lots_isSuch_p20 (N d : Nat) (xs : List Int32) (c : St) (r : St) : Ok (mBig (mRoL xs) (d)) (mRoL xs) 2 mK37 (fun p : Int32 => (some (.int p), HP c r)) (Lots_isSuch_p20 N) 20 [none, none] [] (HP c r) := by
  unfold Lots_isSuch_p20
  refine Ok_blk 2 (pc2 := 25) (lo2 := [none, none]) (st2 := [.int 1]) rfl ?_
  exact Ok_rez (Or.inr rfl) rfl rfl
set_option maxHeartbeats 8000000 in
set_option maxRecDepth 100000 in
theorem t_Lots_isSuch (N d : Nat) (xs : List Int32) (c : St) (r : St) (x0 : Int32) (x1 : Int32) : Ok (mBig (mRoL xs) (d)) (mRoL xs) 2 mK37 (fun p : Int32 => (some (.int p), HP c r)) (Lots_isSuch N x0 x1) 0 [some (.int x0), some (.int x1)] [] (HP c r) := by
  unfold Lots_isSuch
  refine Ok_blk 3 (pc2 := (if ¬ x1 = 1 then 26 else 5)) (lo2 := [some (.int x0), some (.int x1)]) (st2 := []) rfl ?_
  refine Ok_if (fun h1 => ?_) (fun h1 => ?_)
  · refine Ok_blk 2 (pc2 := (if x1 = 0 then 35 else 30)) (lo2 := [some (.int x0), some (.int x1)]) (st2 := []) rfl ?_
    refine Ok_if (fun h2 => ?_) (fun h2 => ?_)
    · refine Ok_drop (lo0 := [none, none]) ⟨Or.inl rfl, Or.inl rfl, trivial⟩ ?_
      exact t_Lots_isSuch_p35 N d xs c r
    · refine Ok_blk 3 (pc2 := (if ¬ x1 = x0 then 39 else 35)) (lo2 := [some (.int x0), some (.int x1)]) (st2 := []) rfl ?_
      refine Ok_if (fun h3 => ?_) (fun h3 => ?_)
      · refine Ok_blk 1 (pc2 := 40) (lo2 := [some (.int x0), some (.int x1)]) (st2 := [.int 0]) rfl ?_
        exact Ok_rez (Or.inl rfl) rfl rfl
      · refine Ok_drop (lo0 := [none, none]) ⟨Or.inl rfl, Or.inl rfl, trivial⟩ ?_
        exact t_Lots_isSuch_p35 N d xs c r
  · refine Ok_blk 3 (pc2 := (if x0 = 1 then 20 else 10)) (lo2 := [some (.int x0), some (.int x1)]) (st2 := []) rfl ?_
    refine Ok_if (fun h4 => ?_) (fun h4 => ?_)
    · refine Ok_drop (lo0 := [none, none]) ⟨Or.inl rfl, Or.inl rfl, trivial⟩ ?_
      exact t_Lots_isSuch_p20 N d xs c r
    · refine Ok_blk 3 (pc2 := (if x0 = 2 then 20 else 15)) (lo2 := [some (.int x0), some (.int x1)]) (st2 := []) rfl ?_
      refine Ok_if (fun h5 => ?_) (fun h5 => ?_)
      · refine Ok_drop (lo0 := [none, none]) ⟨Or.inl rfl, Or.inl rfl, trivial⟩ ?_
        exact t_Lots_isSuch_p20 N d xs c r
      · refine Ok_blk 3 (pc2 := (if ¬ x0 = 3 then 24 else 20)) (lo2 := [some (.int x0), some (.int x1)]) (st2 := []) rfl ?_
        refine Ok_if (fun h6 => ?_) (fun h6 => ?_)
        · refine Ok_blk 1 (pc2 := 25) (lo2 := [some (.int x0), some (.int x1)]) (st2 := [.int 0]) rfl ?_
          exact Ok_rez (Or.inl rfl) rfl rfl
        · refine Ok_drop (lo0 := [none, none]) ⟨Or.inl rfl, Or.inl rfl, trivial⟩ ?_
          exact t_Lots_isSuch_p20 N d xs c r
set_option maxHeartbeats 8000000 in
set_option maxRecDepth 100000 in
theorem tm_Lots_isSuch (N d : Nat) (xs : List Int32) (c r : St) (a0 : Int32) (a1 : Int32) (p : Int32) (hp : Lots_isSuch N a0 a1 = some p) : mBig (mRoL xs) (d + 1) 37 [.int a0, .int a1] (HP c r) (some (.int p)) (HP c r) 0 0 := mBig_of (by decide) rfl rfl rfl rfl (t_Lots_isSuch N d xs c r a0 a1 p hp)
/-! ColdHolds.as(II)I, from (('r', 0), 'i', 'i') -/
def C_as (N : Nat) (c : St) (x1 : Int32) (x2 : Int32) : Option (Int32) :=
  (Lots_isOne N c x1).bind fun p1 => (if ¬ p1 = 0 then (Lots_isKind N x2).bind fun p3 => (if ¬ p3 = 0 then (ld (gA c 11) x1).bind fun y5 => (Lots_isSuch N y5 x2).bind fun p6 => (if p6 = 0 then some (-1) else some x1) else some (-102)) else some (-101))
set_option maxHeartbeats 8000000 in
set_option maxRecDepth 100000 in
theorem t_C_as (N d : Nat) (xs : List Int32) (c : St) (r : St) (x1 : Int32) (x2 : Int32) : Ok (mBig (mRoL xs) (d + 2)) (mRoL xs) 1 mK121 (fun p : Int32 => (some (.int p), HP c r)) (C_as N c x1 x2) 0 [some (.ref 0), some (.int x1), some (.int x2)] [] (HP c r) := by
  unfold C_as
  refine Ok_blk 3 (pc2 := 5) (lo2 := [some (.ref 0), some (.int x1), some (.int x2)]) (st2 := [.int x1, .ref 15]) rfl ?_
  refine Ok_call (y := 38) (as := [.ref 15, .int x1]) (rest := []) (w := fun p1 => some (.int p1)) (h1 := fun p1 => HP c r) rfl rfl (fun x hx => tm_Lots_isOne N d xs c r x1 x hx) (fun p1 hp1 => ?_)
  refine Ok_blk 1 (pc2 := (if ¬ p1 = 0 then 14 else 11)) (lo2 := [some (.ref 0), some (.int x1), some (.int x2)]) (st2 := []) rfl ?_
  refine Ok_if (fun h2 => ?_) (fun h2 => ?_)
  · refine Ok_blk 1 (pc2 := 15) (lo2 := [some (.ref 0), some (.int x1), some (.int x2)]) (st2 := [.int x2]) rfl ?_
    refine Ok_call (y := 36) (as := [.int x2]) (rest := []) (w := fun p3 => some (.int p3)) (h1 := fun p3 => HP c r) rfl rfl (fun x hx => tm_Lots_isKind N d xs c r x2 x hx) (fun p3 hp3 => ?_)
    refine Ok_blk 1 (pc2 := (if ¬ p3 = 0 then 24 else 21)) (lo2 := [some (.ref 0), some (.int x1), some (.int x2)]) (st2 := []) rfl ?_
    refine Ok_if (fun h4 => ?_) (fun h4 => ?_)
    · refine Ok_blk 4 (pc2 := 32) (lo2 := [some (.ref 0), some (.int x1), some (.int x2)]) (st2 := [.int x1, .ref 16]) rfl ?_
      refine Ok_ld (l := (gA c 11)) rfl rfl (fun y5 hy5 => ?_)
      refine Ok_blk 1 (pc2 := 34) (lo2 := [some (.ref 0), some (.int x1), some (.int x2)]) (st2 := [.int x2, .int y5]) rfl ?_
      refine Ok_call (y := 37) (as := [.int y5, .int x2]) (rest := []) (w := fun p6 => some (.int p6)) (h1 := fun p6 => HP c r) rfl rfl (fun x hx => tm_Lots_isSuch N (d + 1) xs c r y5 x2 x hx) (fun p6 hp6 => ?_)
      refine Ok_blk 1 (pc2 := (if p6 = 0 then 44 else 40)) (lo2 := [some (.ref 0), some (.int x1), some (.int x2)]) (st2 := []) rfl ?_
      refine Ok_if (fun h7 => ?_) (fun h7 => ?_)
      · refine Ok_blk 1 (pc2 := 45) (lo2 := [some (.ref 0), some (.int x1), some (.int x2)]) (st2 := [.int (-1)]) rfl ?_
        exact Ok_ret rfl rfl rfl
      · refine Ok_blk 2 (pc2 := 45) (lo2 := [some (.ref 0), some (.int x1), some (.int x2)]) (st2 := [.int x1]) rfl ?_
        exact Ok_ret rfl rfl rfl
    · refine Ok_blk 1 (pc2 := 23) (lo2 := [some (.ref 0), some (.int x1), some (.int x2)]) (st2 := [.int (-102)]) rfl ?_
      exact Ok_ret rfl rfl rfl
  · refine Ok_blk 1 (pc2 := 13) (lo2 := [some (.ref 0), some (.int x1), some (.int x2)]) (st2 := [.int (-101)]) rfl ?_
    exact Ok_ret rfl rfl rfl
set_option maxHeartbeats 8000000 in
set_option maxRecDepth 100000 in
theorem tm_C_as (N d : Nat) (xs : List Int32) (c r : St) (a1 : Int32) (a2 : Int32) (p : Int32) (hp : C_as N c a1 a2 = some p) : mBig (mRoL xs) (d + 3) 121 [.ref 0, .int a1, .int a2] (HP c r) (some (.int p)) (HP c r) 0 0 := mBig_of (by decide) rfl rfl rfl rfl (t_C_as N d xs c r a1 a2 p hp)
/-! ColdHoldsModel.as(II)I, from (('r', 115), 'i', 'i') -/
def R_as_p61 (N : Nat) (r : St) (x1 : Int32) (s0 : Int32) : Option (Int32) :=
  (if s0 = 0 then some (-1) else some x1)
def R_as_p56 (N : Nat) (r : St) (x1 : Int32) : Option (Int32) :=
  R_as_p61 N r x1 1
def R_as_p60 (N : Nat) (r : St) (x1 : Int32) : Option (Int32) :=
  R_as_p61 N r x1 0
def R_as (N : Nat) (r : St) (x1 : Int32) (x2 : Int32) : Option (Int32) :=
  (R_isLot N r x1).bind fun p1 => (if ¬ p1 = 0 then (R_in N x2 0 5).bind fun p3 => (if ¬ p3 = 0 then (if x2 = 0 then R_as_p56 N r x1 else (ld (gA r 5) x1).bind fun y7 => (if y7 = x2 then R_as_p56 N r x1 else (if ¬ x2 = 1 then R_as_p60 N r x1 else (ld (gA r 5) x1).bind fun y10 => (R_in N y10 1 3).bind fun p11 => (if p11 = 0 then R_as_p60 N r x1 else R_as_p56 N r x1)))) else some (-102)) else some (-101))
set_option maxHeartbeats 8000000 in
set_option maxRecDepth 100000 in
theorem t_R_as_p61 (N d : Nat) (xs : List Int32) (c : St) (r : St) (x1 : Int32) (s0 : Int32) : Ok (mBig (mRoL xs) (d + 2)) (mRoL xs) 1 mK190 (fun p : Int32 => (some (.int p), HP c r)) (R_as_p61 N r x1 s0) 61 [none, some (.int x1), none, none] [.int s0] (HP c r) := by
  unfold R_as_p61
  refine Ok_blk 3 (pc2 := (if s0 = 0 then 70 else 66)) (lo2 := [none, some (.int x1), none, some (.int s0)]) (st2 := []) rfl ?_
  refine Ok_if (fun h6 => ?_) (fun h6 => ?_)
  · refine Ok_blk 1 (pc2 := 71) (lo2 := [none, some (.int x1), none, some (.int s0)]) (st2 := [.int (-1)]) rfl ?_
    exact Ok_ret rfl rfl rfl
  · refine Ok_blk 2 (pc2 := 71) (lo2 := [none, some (.int x1), none, some (.int s0)]) (st2 := [.int x1]) rfl ?_
    exact Ok_ret rfl rfl rfl
set_option maxHeartbeats 8000000 in
set_option maxRecDepth 100000 in
theorem t_R_as_p56 (N d : Nat) (xs : List Int32) (c : St) (r : St) (x1 : Int32) : Ok (mBig (mRoL xs) (d + 2)) (mRoL xs) 1 mK190 (fun p : Int32 => (some (.int p), HP c r)) (R_as_p56 N r x1) 56 [none, some (.int x1), none, none] [] (HP c r) := by
  unfold R_as_p56
  refine Ok_blk 2 (pc2 := 61) (lo2 := [none, some (.int x1), none, none]) (st2 := [.int 1]) rfl ?_
  refine Ok_drop (lo0 := [none, some (.int x1), none, none]) ⟨Or.inl rfl, Or.inr rfl, Or.inl rfl, Or.inl rfl, trivial⟩ ?_
  exact t_R_as_p61 N d xs c r x1 1
set_option maxHeartbeats 8000000 in
set_option maxRecDepth 100000 in
theorem t_R_as_p60 (N d : Nat) (xs : List Int32) (c : St) (r : St) (x1 : Int32) : Ok (mBig (mRoL xs) (d + 2)) (mRoL xs) 1 mK190 (fun p : Int32 => (some (.int p), HP c r)) (R_as_p60 N r x1) 60 [none, some (.int x1), none, none] [] (HP c r) := by
  unfold R_as_p60
  refine Ok_blk 1 (pc2 := 61) (lo2 := [none, some (.int x1), none, none]) (st2 := [.int 0]) rfl ?_
  refine Ok_drop (lo0 := [none, some (.int x1), none, none]) ⟨Or.inl rfl, Or.inr rfl, Or.inl rfl, Or.inl rfl, trivial⟩ ?_
  exact t_R_as_p61 N d xs c r x1 0
set_option maxHeartbeats 8000000 in
set_option maxRecDepth 100000 in
theorem t_R_as (N d : Nat) (xs : List Int32) (c : St) (r : St) (x1 : Int32) (x2 : Int32) : Ok (mBig (mRoL xs) (d + 2)) (mRoL xs) 1 mK190 (fun p : Int32 => (some (.int p), HP c r)) (R_as N r x1 x2) 0 [some (.ref 115), some (.int x1), some (.int x2), none] [] (HP c r) := by
  unfold R_as
  refine Ok_blk 2 (pc2 := 2) (lo2 := [some (.ref 115), some (.int x1), some (.int x2), none]) (st2 := [.int x1, .ref 115]) rfl ?_
  refine Ok_call (y := 184) (as := [.ref 115, .int x1]) (rest := []) (w := fun p1 => some (.int p1)) (h1 := fun p1 => HP c r) rfl rfl (fun x hx => tm_R_isLot N d xs c r x1 x hx) (fun p1 hp1 => ?_)
  refine Ok_blk 1 (pc2 := (if ¬ p1 = 0 then 11 else 8)) (lo2 := [some (.ref 115), some (.int x1), some (.int x2), none]) (st2 := []) rfl ?_
  refine Ok_if (fun h2 => ?_) (fun h2 => ?_)
  · refine Ok_blk 3 (pc2 := 14) (lo2 := [some (.ref 115), some (.int x1), some (.int x2), none]) (st2 := [.int 5, .int 0, .int x2]) rfl ?_
    refine Ok_call (y := 164) (as := [.int x2, .int 0, .int 5]) (rest := []) (w := fun p3 => some (.int p3)) (h1 := fun p3 => HP c r) rfl rfl (fun x hx => tm_R_in N (d + 1) xs c r x2 0 5 x hx) (fun p3 hp3 => ?_)
    refine Ok_blk 1 (pc2 := (if ¬ p3 = 0 then 23 else 20)) (lo2 := [some (.ref 115), some (.int x1), some (.int x2), none]) (st2 := []) rfl ?_
    refine Ok_if (fun h4 => ?_) (fun h4 => ?_)
    · refine Ok_blk 2 (pc2 := (if x2 = 0 then 56 else 27)) (lo2 := [some (.ref 115), some (.int x1), some (.int x2), none]) (st2 := []) rfl ?_
      refine Ok_if (fun h5 => ?_) (fun h5 => ?_)
      · refine Ok_drop (lo0 := [none, some (.int x1), none, none]) ⟨Or.inl rfl, Or.inr rfl, Or.inl rfl, Or.inl rfl, trivial⟩ ?_
        exact t_R_as_p56 N d xs c r x1
      · refine Ok_blk 3 (pc2 := 32) (lo2 := [some (.ref 115), some (.int x1), some (.int x2), none]) (st2 := [.int x1, .ref 121]) rfl ?_
        refine Ok_ld (l := (gA r 5)) rfl rfl (fun y7 hy7 => ?_)
        refine Ok_blk 2 (pc2 := (if y7 = x2 then 56 else 37)) (lo2 := [some (.ref 115), some (.int x1), some (.int x2), none]) (st2 := []) rfl ?_
        refine Ok_if (fun h8 => ?_) (fun h8 => ?_)
        · refine Ok_drop (lo0 := [none, some (.int x1), none, none]) ⟨Or.inl rfl, Or.inr rfl, Or.inl rfl, Or.inl rfl, trivial⟩ ?_
          exact t_R_as_p56 N d xs c r x1
        · refine Ok_blk 3 (pc2 := (if ¬ x2 = 1 then 60 else 42)) (lo2 := [some (.ref 115), some (.int x1), some (.int x2), none]) (st2 := []) rfl ?_
          refine Ok_if (fun h9 => ?_) (fun h9 => ?_)
          · refine Ok_drop (lo0 := [none, some (.int x1), none, none]) ⟨Or.inl rfl, Or.inr rfl, Or.inl rfl, Or.inl rfl, trivial⟩ ?_
            exact t_R_as_p60 N d xs c r x1
          · refine Ok_blk 3 (pc2 := 47) (lo2 := [some (.ref 115), some (.int x1), some (.int x2), none]) (st2 := [.int x1, .ref 121]) rfl ?_
            refine Ok_ld (l := (gA r 5)) rfl rfl (fun y10 hy10 => ?_)
            refine Ok_blk 2 (pc2 := 50) (lo2 := [some (.ref 115), some (.int x1), some (.int x2), none]) (st2 := [.int 3, .int 1, .int y10]) rfl ?_
            refine Ok_call (y := 164) (as := [.int y10, .int 1, .int 3]) (rest := []) (w := fun p11 => some (.int p11)) (h1 := fun p11 => HP c r) rfl rfl (fun x hx => tm_R_in N (d + 1) xs c r y10 1 3 x hx) (fun p11 hp11 => ?_)
            refine Ok_blk 1 (pc2 := (if p11 = 0 then 60 else 56)) (lo2 := [some (.ref 115), some (.int x1), some (.int x2), none]) (st2 := []) rfl ?_
            refine Ok_if (fun h12 => ?_) (fun h12 => ?_)
            · refine Ok_drop (lo0 := [none, some (.int x1), none, none]) ⟨Or.inl rfl, Or.inr rfl, Or.inl rfl, Or.inl rfl, trivial⟩ ?_
              exact t_R_as_p60 N d xs c r x1
            · refine Ok_drop (lo0 := [none, some (.int x1), none, none]) ⟨Or.inl rfl, Or.inr rfl, Or.inl rfl, Or.inl rfl, trivial⟩ ?_
              exact t_R_as_p56 N d xs c r x1
    · refine Ok_blk 1 (pc2 := 22) (lo2 := [some (.ref 115), some (.int x1), some (.int x2), none]) (st2 := [.int (-102)]) rfl ?_
      exact Ok_ret rfl rfl rfl
  · refine Ok_blk 1 (pc2 := 10) (lo2 := [some (.ref 115), some (.int x1), some (.int x2), none]) (st2 := [.int (-101)]) rfl ?_
    exact Ok_ret rfl rfl rfl
set_option maxHeartbeats 8000000 in
set_option maxRecDepth 100000 in
theorem tm_R_as (N d : Nat) (xs : List Int32) (c r : St) (a1 : Int32) (a2 : Int32) (p : Int32) (hp : R_as N r a1 a2 = some p) : mBig (mRoL xs) (d + 3) 190 [.ref 115, .int a1, .int a2] (HP c r) (some (.int p)) (HP c r) 0 0 := mBig_of (by decide) rfl rfl rfl rfl (t_R_as N d xs c r a1 a2 p hp)
/-! ColdHolds$Texts.code(JI)I, from ('l', 'i') -/
def Texts_code (N : Nat) (x0 : Int64) (x2 : Int32) : Option (Int32) :=
  some ((((x0.toUInt64 >>> ((8 * x2).toInt64.toUInt64 &&& Int64.toUInt64 63)).toInt64).toInt32) &&& 255)
set_option maxHeartbeats 8000000 in
set_option maxRecDepth 100000 in
theorem t_Texts_code (N d : Nat) (xs : List Int32) (c : St) (r : St) (x0 : Int64) (x2 : Int32) : Ok (mBig (mRoL xs) (d)) (mRoL xs) 1 mK85 (fun p : Int32 => (some (.int p), HP c r)) (Texts_code N x0 x2) 0 [some (.long x0), none, some (.int x2)] [] (HP c r) := by
  unfold Texts_code
  refine Ok_blk 8 (pc2 := 11) (lo2 := [some (.long x0), none, some (.int x2)]) (st2 := [.int ((((x0.toUInt64 >>> ((8 * x2).toInt64.toUInt64 &&& Int64.toUInt64 63)).toInt64).toInt32) &&& 255)]) rfl ?_
  exact Ok_ret rfl rfl rfl
set_option maxHeartbeats 8000000 in
set_option maxRecDepth 100000 in
theorem tm_Texts_code (N d : Nat) (xs : List Int32) (c r : St) (a0 : Int64) (a1 : Int32) (p : Int32) (hp : Texts_code N a0 a1 = some p) : mBig (mRoL xs) (d + 1) 85 [.long a0, .int a1] (HP c r) (some (.int p)) (HP c r) 0 0 := mBig_of (by decide) rfl rfl rfl rfl (t_Texts_code N d xs c r a0 a1 p hp)
/-! ColdHolds$Texts.lettersIn(J)I, from ('l',) -/
def Texts_lettersIn_p38 (N : Nat) : Option (Int32) :=
  some (-1)
def Texts_lettersIn_p53 (N : Nat) (kb7 : Int64 → Int32 → Int32 → Int32 → Option (Int32)) (x0 : Int64) (x2 : Int32) (x3 : Int32) (x4 : Int32) : Option (Int32) :=
  kb7 x0 x2 x3 (x4 + 1)
def Texts_lettersIn_p40 (N : Nat) (kb7 : Int64 → Int32 → Int32 → Int32 → Option (Int32)) (x0 : Int64) (x2 : Int32) (x3 : Int32) (x4 : Int32) (x5 : Int32) : Option (Int32) :=
  (if ¬ x5 = 0 then Texts_lettersIn_p53 N kb7 x0 (x2 + 1) x3 x4 else Texts_lettersIn_p53 N kb7 x0 x2 1 x4)
def Texts_lettersIn_p7b (N : Nat) (kb7 : Int64 → Int32 → Int32 → Int32 → Option (Int32)) (x0 : Int64) (x2 : Int32) (x3 : Int32) (x4 : Int32) : Option (Int32) :=
  (if 8 ≤ x4 then some x2 else (Texts_code N x0 x4).bind fun p2 => (if 126 < p2 then Texts_lettersIn_p38 N else (if x3 = 0 then Texts_lettersIn_p40 N kb7 x0 x2 x3 x4 p2 else (if p2 = 0 then Texts_lettersIn_p40 N kb7 x0 x2 x3 x4 p2 else Texts_lettersIn_p38 N))))
def Texts_lettersIn_p7 (N : Nat) : Nat → Int64 → Int32 → Int32 → Int32 → Option (Int32)
  | 0 => fun _ _ _ _ => none
  | n + 1 => Texts_lettersIn_p7b N (Texts_lettersIn_p7 N n)
def Texts_lettersIn (N : Nat) (x0 : Int64) : Option (Int32) :=
  Texts_lettersIn_p7 N N x0 0 0 0
set_option maxHeartbeats 8000000 in
set_option maxRecDepth 100000 in
theorem t_Texts_lettersIn_p38 (N d : Nat) (xs : List Int32) (c : St) (r : St) : Ok (mBig (mRoL xs) (d + 1)) (mRoL xs) 1 mK84 (fun p : Int32 => (some (.int p), HP c r)) (Texts_lettersIn_p38 N) 38 [none, none, none, none, none, none] [] (HP c r) := by
  unfold Texts_lettersIn_p38
  refine Ok_blk 1 (pc2 := 39) (lo2 := [none, none, none, none, none, none]) (st2 := [.int (-1)]) rfl ?_
  exact Ok_ret rfl rfl rfl
set_option maxHeartbeats 8000000 in
set_option maxRecDepth 100000 in
theorem t_Texts_lettersIn_p53 (N d : Nat) (xs : List Int32) (c : St) (r : St) (kb7 : Int64 → Int32 → Int32 → Int32 → Option (Int32)) (hb7 : ∀ (x0 : Int64) (x2 : Int32) (x3 : Int32) (x4 : Int32), Ok (mBig (mRoL xs) (d + 1)) (mRoL xs) 1 mK84 (fun p : Int32 => (some (.int p), HP c r)) (kb7 x0 x2 x3 x4) 7 [some (.long x0), none, some (.int x2), some (.int x3), some (.int x4), none] [] (HP c r)) (x0 : Int64) (x2 : Int32) (x3 : Int32) (x4 : Int32) : Ok (mBig (mRoL xs) (d + 1)) (mRoL xs) 1 mK84 (fun p : Int32 => (some (.int p), HP c r)) (Texts_lettersIn_p53 N kb7 x0 x2 x3 x4) 53 [some (.long x0), none, some (.int x2), some (.int x3), some (.int x4), none] [] (HP c r) := by
  unfold Texts_lettersIn_p53
  refine Ok_blk 2 (pc2 := 7) (lo2 := [some (.long x0), none, some (.int x2), some (.int x3), some (.int (x4 + 1)), none]) (st2 := []) rfl ?_
  refine Ok_drop (lo0 := [some (.long x0), none, some (.int x2), some (.int x3), some (.int (x4 + 1)), none]) ⟨Or.inr rfl, Or.inl rfl, Or.inr rfl, Or.inr rfl, Or.inr rfl, Or.inl rfl, trivial⟩ ?_
  exact hb7 x0 x2 x3 (x4 + 1)
set_option maxHeartbeats 8000000 in
set_option maxRecDepth 100000 in
theorem t_Texts_lettersIn_p40 (N d : Nat) (xs : List Int32) (c : St) (r : St) (kb7 : Int64 → Int32 → Int32 → Int32 → Option (Int32)) (hb7 : ∀ (x0 : Int64) (x2 : Int32) (x3 : Int32) (x4 : Int32), Ok (mBig (mRoL xs) (d + 1)) (mRoL xs) 1 mK84 (fun p : Int32 => (some (.int p), HP c r)) (kb7 x0 x2 x3 x4) 7 [some (.long x0), none, some (.int x2), some (.int x3), some (.int x4), none] [] (HP c r)) (x0 : Int64) (x2 : Int32) (x3 : Int32) (x4 : Int32) (x5 : Int32) : Ok (mBig (mRoL xs) (d + 1)) (mRoL xs) 1 mK84 (fun p : Int32 => (some (.int p), HP c r)) (Texts_lettersIn_p40 N kb7 x0 x2 x3 x4 x5) 40 [some (.long x0), none, some (.int x2), some (.int x3), some (.int x4), some (.int x5)] [] (HP c r) := by
  unfold Texts_lettersIn_p40
  refine Ok_blk 2 (pc2 := (if ¬ x5 = 0 then 50 else 45)) (lo2 := [some (.long x0), none, some (.int x2), some (.int x3), some (.int x4), some (.int x5)]) (st2 := []) rfl ?_
  refine Ok_if (fun h5 => ?_) (fun h5 => ?_)
  · refine Ok_blk 1 (pc2 := 53) (lo2 := [some (.long x0), none, some (.int (x2 + 1)), some (.int x3), some (.int x4), some (.int x5)]) (st2 := []) rfl ?_
    refine Ok_drop (lo0 := [some (.long x0), none, some (.int (x2 + 1)), some (.int x3), some (.int x4), none]) ⟨Or.inr rfl, Or.inl rfl, Or.inr rfl, Or.inr rfl, Or.inr rfl, Or.inl rfl, trivial⟩ ?_
    exact t_Texts_lettersIn_p53 N d xs c r kb7 hb7 x0 (x2 + 1) x3 x4
  · refine Ok_blk 3 (pc2 := 53) (lo2 := [some (.long x0), none, some (.int x2), some (.int 1), some (.int x4), some (.int x5)]) (st2 := []) rfl ?_
    refine Ok_drop (lo0 := [some (.long x0), none, some (.int x2), some (.int 1), some (.int x4), none]) ⟨Or.inr rfl, Or.inl rfl, Or.inr rfl, Or.inr rfl, Or.inr rfl, Or.inl rfl, trivial⟩ ?_
    exact t_Texts_lettersIn_p53 N d xs c r kb7 hb7 x0 x2 1 x4
set_option maxHeartbeats 8000000 in
set_option maxRecDepth 100000 in
theorem t_Texts_lettersIn_p7b (N d : Nat) (xs : List Int32) (c : St) (r : St) (kb7 : Int64 → Int32 → Int32 → Int32 → Option (Int32)) (hb7 : ∀ (x0 : Int64) (x2 : Int32) (x3 : Int32) (x4 : Int32), Ok (mBig (mRoL xs) (d + 1)) (mRoL xs) 1 mK84 (fun p : Int32 => (some (.int p), HP c r)) (kb7 x0 x2 x3 x4) 7 [some (.long x0), none, some (.int x2), some (.int x3), some (.int x4), none] [] (HP c r)) (x0 : Int64) (x2 : Int32) (x3 : Int32) (x4 : Int32) : Ok (mBig (mRoL xs) (d + 1)) (mRoL xs) 1 mK84 (fun p : Int32 => (some (.int p), HP c r)) (Texts_lettersIn_p7b N kb7 x0 x2 x3 x4) 7 [some (.long x0), none, some (.int x2), some (.int x3), some (.int x4), none] [] (HP c r) := by
  unfold Texts_lettersIn_p7b
  refine Ok_blk 3 (pc2 := (if 8 ≤ x4 then 59 else 14)) (lo2 := [some (.long x0), none, some (.int x2), some (.int x3), some (.int x4), none]) (st2 := []) rfl ?_
  refine Ok_if (fun h1 => ?_) (fun h1 => ?_)
  · refine Ok_blk 1 (pc2 := 60) (lo2 := [some (.long x0), none, some (.int x2), some (.int x3), some (.int x4), none]) (st2 := [.int x2]) rfl ?_
    exact Ok_ret rfl rfl rfl
  · refine Ok_blk 2 (pc2 := 17) (lo2 := [some (.long x0), none, some (.int x2), some (.int x3), some (.int x4), none]) (st2 := [.int x4, .long x0]) rfl ?_
    refine Ok_call (y := 85) (as := [.long x0, .int x4]) (rest := []) (w := fun p2 => some (.int p2)) (h1 := fun p2 => HP c r) rfl rfl (fun x hx => tm_Texts_code N d xs c r x0 x4 x hx) (fun p2 hp2 => ?_)
    refine Ok_blk 4 (pc2 := (if 126 < p2 then 38 else 29)) (lo2 := [some (.long x0), none, some (.int x2), some (.int x3), some (.int x4), some (.int p2)]) (st2 := []) rfl ?_
    refine Ok_if (fun h3 => ?_) (fun h3 => ?_)
    · refine Ok_drop (lo0 := [none, none, none, none, none, none]) ⟨Or.inl rfl, Or.inl rfl, Or.inl rfl, Or.inl rfl, Or.inl rfl, Or.inl rfl, trivial⟩ ?_
      exact t_Texts_lettersIn_p38 N d xs c r
    · refine Ok_blk 2 (pc2 := (if x3 = 0 then 40 else 33)) (lo2 := [some (.long x0), none, some (.int x2), some (.int x3), some (.int x4), some (.int p2)]) (st2 := []) rfl ?_
      refine Ok_if (fun h4 => ?_) (fun h4 => ?_)
      · refine Ok_drop (lo0 := [some (.long x0), none, some (.int x2), some (.int x3), some (.int x4), some (.int p2)]) ⟨Or.inr rfl, Or.inl rfl, Or.inr rfl, Or.inr rfl, Or.inr rfl, Or.inr rfl, trivial⟩ ?_
        exact t_Texts_lettersIn_p40 N d xs c r kb7 hb7 x0 x2 x3 x4 p2
      · refine Ok_blk 2 (pc2 := (if p2 = 0 then 40 else 38)) (lo2 := [some (.long x0), none, some (.int x2), some (.int x3), some (.int x4), some (.int p2)]) (st2 := []) rfl ?_
        refine Ok_if (fun h6 => ?_) (fun h6 => ?_)
        · refine Ok_drop (lo0 := [some (.long x0), none, some (.int x2), some (.int x3), some (.int x4), some (.int p2)]) ⟨Or.inr rfl, Or.inl rfl, Or.inr rfl, Or.inr rfl, Or.inr rfl, Or.inr rfl, trivial⟩ ?_
          exact t_Texts_lettersIn_p40 N d xs c r kb7 hb7 x0 x2 x3 x4 p2
        · refine Ok_drop (lo0 := [none, none, none, none, none, none]) ⟨Or.inl rfl, Or.inl rfl, Or.inl rfl, Or.inl rfl, Or.inl rfl, Or.inl rfl, trivial⟩ ?_
          exact t_Texts_lettersIn_p38 N d xs c r
set_option maxHeartbeats 8000000 in
set_option maxRecDepth 100000 in
theorem t_Texts_lettersIn_p7 (N d : Nat) (xs : List Int32) (c : St) (r : St) : ∀ (n : Nat) (x0 : Int64) (x2 : Int32) (x3 : Int32) (x4 : Int32), Ok (mBig (mRoL xs) (d + 1)) (mRoL xs) 1 mK84 (fun p : Int32 => (some (.int p), HP c r)) (Texts_lettersIn_p7 N n x0 x2 x3 x4) 7 [some (.long x0), none, some (.int x2), some (.int x3), some (.int x4), none] [] (HP c r) := by
  intro n
  induction n with
  | zero => intro x0 x2 x3 x4; exact Ok_none
  | succ n ih => intro x0 x2 x3 x4; exact t_Texts_lettersIn_p7b N d xs c r (Texts_lettersIn_p7 N n) ih x0 x2 x3 x4
set_option maxHeartbeats 8000000 in
set_option maxRecDepth 100000 in
theorem t_Texts_lettersIn (N d : Nat) (xs : List Int32) (c : St) (r : St) (x0 : Int64) : Ok (mBig (mRoL xs) (d + 1)) (mRoL xs) 1 mK84 (fun p : Int32 => (some (.int p), HP c r)) (Texts_lettersIn N x0) 0 [some (.long x0), none, none, none, none, none] [] (HP c r) := by
  unfold Texts_lettersIn
  refine Ok_blk 6 (pc2 := 7) (lo2 := [some (.long x0), none, some (.int 0), some (.int 0), some (.int 0), none]) (st2 := []) rfl ?_
  refine Ok_drop (lo0 := [some (.long x0), none, some (.int 0), some (.int 0), some (.int 0), none]) ⟨Or.inr rfl, Or.inl rfl, Or.inr rfl, Or.inr rfl, Or.inr rfl, Or.inl rfl, trivial⟩ ?_
  exact t_Texts_lettersIn_p7 N d xs c r N x0 0 0 0
set_option maxHeartbeats 8000000 in
set_option maxRecDepth 100000 in
theorem tm_Texts_lettersIn (N d : Nat) (xs : List Int32) (c r : St) (a0 : Int64) (p : Int32) (hp : Texts_lettersIn N a0 = some p) : mBig (mRoL xs) (d + 2) 84 [.long a0] (HP c r) (some (.int p)) (HP c r) 0 0 := mBig_of (by decide) rfl rfl rfl rfl (t_Texts_lettersIn N d xs c r a0 p hp)
/-! ColdHolds$Texts.append(JI)I, from (('r', 40), 'l', 'i') -/
def Texts_append_p17b (N : Nat) (kb17 : St → Int64 → Int32 → Int32 → Option (Int32 × St)) (c : St) (x1 : Int64) (x3 : Int32) (x4 : Int32) : Option (Int32 × St) :=
  (if x3 ≤ x4 then some (gI c 6, c) else (Texts_code N x1 x4).bind fun p3 => (sto (gA c 34) (gI c 6) p3).bind fun w4 => kb17 (sI (sA c 34 w4) 6 ((gI (sA c 34 w4) 6) + 1)) x1 x3 (x4 + 1))
def Texts_append_p17 (N : Nat) : Nat → St → Int64 → Int32 → Int32 → Option (Int32 × St)
  | 0 => fun _ _ _ _ => none
  | n + 1 => Texts_append_p17b N (Texts_append_p17 N n)
def Texts_append (N : Nat) (c : St) (x1 : Int64) (x3 : Int32) : Option (Int32 × St) :=
  (if ((gI c 6) + x3) ≤ 60 then Texts_append_p17 N N c x1 x3 0 else some ((-104), c))
set_option maxHeartbeats 8000000 in
set_option maxRecDepth 100000 in
theorem t_Texts_append_p17b (N d : Nat) (xs : List Int32) (r : St) (kb17 : St → Int64 → Int32 → Int32 → Option (Int32 × St)) (hb17 : ∀ (c : St) (x1 : Int64) (x3 : Int32) (x4 : Int32), Ok (mBig (mRoL xs) (d + 1)) (mRoL xs) 1 mK86 (fun p : Int32 × St => (some (.int p.1), HP p.2 r)) (kb17 c x1 x3 x4) 17 [some (.ref 40), some (.long x1), none, some (.int x3), some (.int x4)] [] (HP c r)) (c : St) (x1 : Int64) (x3 : Int32) (x4 : Int32) : Ok (mBig (mRoL xs) (d + 1)) (mRoL xs) 1 mK86 (fun p : Int32 × St => (some (.int p.1), HP p.2 r)) (Texts_append_p17b N kb17 c x1 x3 x4) 17 [some (.ref 40), some (.long x1), none, some (.int x3), some (.int x4)] [] (HP c r) := by
  unfold Texts_append_p17b
  refine Ok_blk 3 (pc2 := (if x3 ≤ x4 then 54 else 23)) (lo2 := [some (.ref 40), some (.long x1), none, some (.int x3), some (.int x4)]) (st2 := []) rfl ?_
  refine Ok_if (fun h2 => ?_) (fun h2 => ?_)
  · refine Ok_blk 2 (pc2 := 58) (lo2 := [some (.ref 40), some (.long x1), none, some (.int x3), some (.int x4)]) (st2 := [.int (gI c 6)]) rfl ?_
    exact Ok_ret rfl rfl rfl
  · refine Ok_blk 6 (pc2 := 34) (lo2 := [some (.ref 40), some (.long x1), none, some (.int x3), some (.int x4)]) (st2 := [.int x4, .long x1, .int (gI c 6), .ref 41]) rfl ?_
    refine Ok_call (y := 85) (as := [.long x1, .int x4]) (rest := [.int (gI c 6), .ref 41]) (w := fun p3 => some (.int p3)) (h1 := fun p3 => HP c r) rfl rfl (fun x hx => tm_Texts_code N d xs c r x1 x4 x hx) (fun p3 hp3 => ?_)
    refine Ok_st (l := (gA c 34)) (hn := fun l' => HP (sA c 34 l') r) rfl rfl (fun l' => sa_41 _ _ l') (fun w4 hw4 => ?_)
    refine Ok_heap 6 (pc2 := 48) (lo2 := [some (.ref 40), some (.long x1), none, some (.int x3), some (.int x4)]) (st2 := []) (h2 := HP (sI (sA c 34 w4) 6 ((gI (sA c 34 w4) 6) + 1)) r) rfl (st_40_1 _ _ _) ?_
    refine Ok_blk 2 (pc2 := 17) (lo2 := [some (.ref 40), some (.long x1), none, some (.int x3), some (.int (x4 + 1))]) (st2 := []) rfl ?_
    refine Ok_drop (lo0 := [some (.ref 40), some (.long x1), none, some (.int x3), some (.int (x4 + 1))]) ⟨Or.inr rfl, Or.inr rfl, Or.inl rfl, Or.inr rfl, Or.inr rfl, trivial⟩ ?_
    exact hb17 (sI (sA c 34 w4) 6 ((gI (sA c 34 w4) 6) + 1)) x1 x3 (x4 + 1)
set_option maxHeartbeats 8000000 in
set_option maxRecDepth 100000 in
theorem t_Texts_append_p17 (N d : Nat) (xs : List Int32) (r : St) : ∀ (n : Nat) (c : St) (x1 : Int64) (x3 : Int32) (x4 : Int32), Ok (mBig (mRoL xs) (d + 1)) (mRoL xs) 1 mK86 (fun p : Int32 × St => (some (.int p.1), HP p.2 r)) (Texts_append_p17 N n c x1 x3 x4) 17 [some (.ref 40), some (.long x1), none, some (.int x3), some (.int x4)] [] (HP c r) := by
  intro n
  induction n with
  | zero => intro c x1 x3 x4; exact Ok_none
  | succ n ih => intro c x1 x3 x4; exact t_Texts_append_p17b N d xs r (Texts_append_p17 N n) ih c x1 x3 x4
set_option maxHeartbeats 8000000 in
set_option maxRecDepth 100000 in
theorem t_Texts_append (N d : Nat) (xs : List Int32) (r : St) (c : St) (x1 : Int64) (x3 : Int32) : Ok (mBig (mRoL xs) (d + 1)) (mRoL xs) 1 mK86 (fun p : Int32 × St => (some (.int p.1), HP p.2 r)) (Texts_append N c x1 x3) 0 [some (.ref 40), some (.long x1), none, some (.int x3), none] [] (HP c r) := by
  unfold Texts_append
  refine Ok_blk 6 (pc2 := (if ((gI c 6) + x3) ≤ 60 then 14 else 11)) (lo2 := [some (.ref 40), some (.long x1), none, some (.int x3), none]) (st2 := []) rfl ?_
  refine Ok_if (fun h1 => ?_) (fun h1 => ?_)
  · refine Ok_blk 2 (pc2 := 17) (lo2 := [some (.ref 40), some (.long x1), none, some (.int x3), some (.int 0)]) (st2 := []) rfl ?_
    refine Ok_drop (lo0 := [some (.ref 40), some (.long x1), none, some (.int x3), some (.int 0)]) ⟨Or.inr rfl, Or.inr rfl, Or.inl rfl, Or.inr rfl, Or.inr rfl, trivial⟩ ?_
    exact t_Texts_append_p17 N d xs r N c x1 x3 0
  · refine Ok_blk 1 (pc2 := 13) (lo2 := [some (.ref 40), some (.long x1), none, some (.int x3), none]) (st2 := [.int (-104)]) rfl ?_
    exact Ok_ret rfl rfl rfl
set_option maxHeartbeats 8000000 in
set_option maxRecDepth 100000 in
theorem tm_Texts_append (N d : Nat) (xs : List Int32) (c r : St) (a1 : Int64) (a2 : Int32) (p : Int32 × St) (hp : Texts_append N c a1 a2 = some p) : mBig (mRoL xs) (d + 2) 86 [.ref 40, .long a1, .int a2] (HP c r) (some (.int p.1)) (HP p.2 r) 0 0 := mBig_of (by decide) rfl rfl rfl rfl (t_Texts_append N d xs r c a1 a2 p hp)
/-! ColdHolds.letters(J)I, from (('r', 0), 'l') -/
def C_letters (N : Nat) (c : St) (x1 : Int64) : Option (Int32 × St) :=
  (Texts_lettersIn N x1).bind fun p1 => (if 0 ≤ p1 then (Texts_append N c x1 p1).bind fun p3 => some (p3.1, p3.2) else some ((-102), c))
set_option maxHeartbeats 8000000 in
set_option maxRecDepth 100000 in
theorem t_C_letters (N d : Nat) (xs : List Int32) (r : St) (c : St) (x1 : Int64) : Ok (mBig (mRoL xs) (d + 2)) (mRoL xs) 1 mK122 (fun p : Int32 × St => (some (.int p.1), HP p.2 r)) (C_letters N c x1) 0 [some (.ref 0), some (.long x1), none, none] [] (HP c r) := by
  unfold C_letters
  refine Ok_blk 1 (pc2 := 1) (lo2 := [some (.ref 0), some (.long x1), none, none]) (st2 := [.long x1]) rfl ?_
  refine Ok_call (y := 84) (as := [.long x1]) (rest := []) (w := fun p1 => some (.int p1)) (h1 := fun p1 => HP c r) rfl rfl (fun x hx => tm_Texts_lettersIn N d xs c r x1 x hx) (fun p1 hp1 => ?_)
  refine Ok_blk 3 (pc2 := (if 0 ≤ p1 then 12 else 9)) (lo2 := [some (.ref 0), some (.long x1), none, some (.int p1)]) (st2 := []) rfl ?_
  refine Ok_if (fun h2 => ?_) (fun h2 => ?_)
  · refine Ok_blk 4 (pc2 := 18) (lo2 := [some (.ref 0), some (.long x1), none, some (.int p1)]) (st2 := [.int p1, .long x1, .ref 40]) rfl ?_
    refine Ok_call (y := 86) (as := [.ref 40, .long x1, .int p1]) (rest := []) (w := fun p3 => some (.int p3.1)) (h1 := fun p3 => HP p3.2 r) rfl rfl (fun x hx => tm_Texts_append N d xs c r x1 p1 x hx) (fun p3 hp3 => ?_)
    exact Ok_ret rfl rfl rfl
  · refine Ok_blk 1 (pc2 := 11) (lo2 := [some (.ref 0), some (.long x1), none, some (.int p1)]) (st2 := [.int (-102)]) rfl ?_
    exact Ok_ret rfl rfl rfl
set_option maxHeartbeats 8000000 in
set_option maxRecDepth 100000 in
theorem tm_C_letters (N d : Nat) (xs : List Int32) (c r : St) (a1 : Int64) (p : Int32 × St) (hp : C_letters N c a1 = some p) : mBig (mRoL xs) (d + 3) 122 [.ref 0, .long a1] (HP c r) (some (.int p.1)) (HP p.2 r) 0 0 := mBig_of (by decide) rfl rfl rfl rfl (t_C_letters N d xs r c a1 p hp)
/-! ColdHoldsModel.letters(J)I, from (('r', 115), 'l') -/
def R_letters_p102b (N : Nat) (kb102 : St → Int64 → Int32 → Int32 → Option (Int32 × St)) (r : St) (x1 : Int64) (x3 : Int32) (x5 : Int32) : Option (Int32 × St) :=
  (if x3 ≤ x5 then some (gI (sI r 8 ((gI r 8) + x3)) 8, sI r 8 ((gI r 8) + x3)) else (sto (gA r 10) ((gI r 8) + x5) (((x1 >>> ((8 * x5).toInt64 &&& 63)).toInt32).toInt8.toInt32).toInt8.toInt32).bind fun w4 => kb102 (sA r 10 w4) x1 x3 (x5 + 1))
def R_letters_p102 (N : Nat) : Nat → St → Int64 → Int32 → Int32 → Option (Int32 × St)
  | 0 => fun _ _ _ _ => none
  | n + 1 => R_letters_p102b N (R_letters_p102 N n)
def R_letters_p46 (N : Nat) (r : St) : Option (Int32 × St) :=
  some ((-102), r)
def R_letters_p77 (N : Nat) (kb8 : St → Int64 → Int32 → Int32 → Int32 → Option (Int32 × St)) (r : St) (x1 : Int64) (x4 : Int32) (x5 : Int32) (s0 : Int32) (s1 : Int32) : Option (Int32 × St) :=
  kb8 r x1 (s0 + s1) x4 (x5 + 1)
def R_letters_p64 (N : Nat) (kb8 : St → Int64 → Int32 → Int32 → Int32 → Option (Int32 × St)) (r : St) (x1 : Int64) (x3 : Int32) (x5 : Int32) (x6 : Int32) (s0 : Int32) : Option (Int32 × St) :=
  (if ¬ x6 = 0 then R_letters_p77 N kb8 r x1 s0 x5 x3 1 else R_letters_p77 N kb8 r x1 s0 x5 x3 0)
def R_letters_p59 (N : Nat) (kb8 : St → Int64 → Int32 → Int32 → Int32 → Option (Int32 × St)) (r : St) (x1 : Int64) (x3 : Int32) (x5 : Int32) (x6 : Int32) : Option (Int32 × St) :=
  R_letters_p64 N kb8 r x1 x3 x5 x6 1
def R_letters_p49 (N : Nat) (kb8 : St → Int64 → Int32 → Int32 → Int32 → Option (Int32 × St)) (r : St) (x1 : Int64) (x3 : Int32) (x4 : Int32) (x5 : Int32) (x6 : Int32) : Option (Int32 × St) :=
  (if ¬ x4 = 0 then R_letters_p59 N kb8 r x1 x3 x5 x6 else (if ¬ x6 = 0 then R_letters_p64 N kb8 r x1 x3 x5 x6 0 else R_letters_p59 N kb8 r x1 x3 x5 x6))
def R_letters_p8b (N : Nat) (kb8 : St → Int64 → Int32 → Int32 → Int32 → Option (Int32 × St)) (r : St) (x1 : Int64) (x3 : Int32) (x4 : Int32) (x5 : Int32) : Option (Int32 × St) :=
  (if 8 ≤ x5 then (if ((gI r 8) + x3) ≤ 60 then R_letters_p102 N N r x1 x3 0 else some ((-104), r)) else (if 126 < (((x1 >>> ((8 * x5).toInt64 &&& 63)) &&& 255).toInt32) then R_letters_p46 N r else (if x4 = 0 then R_letters_p49 N kb8 r x1 x3 x4 x5 (((x1 >>> ((8 * x5).toInt64 &&& 63)) &&& 255).toInt32) else (if (((x1 >>> ((8 * x5).toInt64 &&& 63)) &&& 255).toInt32) = 0 then R_letters_p49 N kb8 r x1 x3 x4 x5 (((x1 >>> ((8 * x5).toInt64 &&& 63)) &&& 255).toInt32) else R_letters_p46 N r))))
def R_letters_p8 (N : Nat) : Nat → St → Int64 → Int32 → Int32 → Int32 → Option (Int32 × St)
  | 0 => fun _ _ _ _ _ => none
  | n + 1 => R_letters_p8b N (R_letters_p8 N n)
def R_letters (N : Nat) (r : St) (x1 : Int64) : Option (Int32 × St) :=
  R_letters_p8 N N r x1 0 0 0
set_option maxHeartbeats 8000000 in
set_option maxRecDepth 100000 in
theorem t_R_letters_p102b (N d : Nat) (xs : List Int32) (c : St) (kb102 : St → Int64 → Int32 → Int32 → Option (Int32 × St)) (hb102 : ∀ (r : St) (x1 : Int64) (x3 : Int32) (x5 : Int32), Ok (mBig (mRoL xs) (d)) (mRoL xs) 1 mK191 (fun p : Int32 × St => (some (.int p.1), HP c p.2)) (kb102 r x1 x3 x5) 102 [some (.ref 115), some (.long x1), none, some (.int x3), none, some (.int x5), none] [] (HP c r)) (r : St) (x1 : Int64) (x3 : Int32) (x5 : Int32) : Ok (mBig (mRoL xs) (d)) (mRoL xs) 1 mK191 (fun p : Int32 × St => (some (.int p.1), HP c p.2)) (R_letters_p102b N kb102 r x1 x3 x5) 102 [some (.ref 115), some (.long x1), none, some (.int x3), none, some (.int x5), none] [] (HP c r) := by
  unfold R_letters_p102b
  refine Ok_blk 3 (pc2 := (if x3 ≤ x5 then 135 else 108)) (lo2 := [some (.ref 115), some (.long x1), none, some (.int x3), none, some (.int x5), none]) (st2 := []) rfl ?_
  refine Ok_if (fun h3 => ?_) (fun h3 => ?_)
  · refine Ok_heap 6 (pc2 := 145) (lo2 := [some (.ref 115), some (.long x1), none, some (.int x3), none, some (.int x5), none]) (st2 := []) (h2 := HP c (sI r 8 ((gI r 8) + x3))) rfl (st_115_18 _ _ _) ?_
    refine Ok_blk 2 (pc2 := 149) (lo2 := [some (.ref 115), some (.long x1), none, some (.int x3), none, some (.int x5), none]) (st2 := [.int (gI (sI r 8 ((gI r 8) + x3)) 8)]) rfl ?_
    exact Ok_ret rfl rfl rfl
  · refine Ok_blk 13 (pc2 := 128) (lo2 := [some (.ref 115), some (.long x1), none, some (.int x3), none, some (.int x5), none]) (st2 := [.int (((x1 >>> ((8 * x5).toInt64 &&& 63)).toInt32).toInt8.toInt32), .int ((gI r 8) + x5), .ref 126]) rfl ?_
    refine Ok_stb (l := (gA r 10)) (hn := fun l' => HP c (sA r 10 l')) rfl rfl (fun l' => sa_126 _ _ l') (fun w4 hw4 => ?_)
    refine Ok_blk 2 (pc2 := 102) (lo2 := [some (.ref 115), some (.long x1), none, some (.int x3), none, some (.int (x5 + 1)), none]) (st2 := []) rfl ?_
    refine Ok_drop (lo0 := [some (.ref 115), some (.long x1), none, some (.int x3), none, some (.int (x5 + 1)), none]) ⟨Or.inr rfl, Or.inr rfl, Or.inl rfl, Or.inr rfl, Or.inl rfl, Or.inr rfl, Or.inl rfl, trivial⟩ ?_
    exact hb102 (sA r 10 w4) x1 x3 (x5 + 1)
set_option maxHeartbeats 8000000 in
set_option maxRecDepth 100000 in
theorem t_R_letters_p102 (N d : Nat) (xs : List Int32) (c : St) : ∀ (n : Nat) (r : St) (x1 : Int64) (x3 : Int32) (x5 : Int32), Ok (mBig (mRoL xs) (d)) (mRoL xs) 1 mK191 (fun p : Int32 × St => (some (.int p.1), HP c p.2)) (R_letters_p102 N n r x1 x3 x5) 102 [some (.ref 115), some (.long x1), none, some (.int x3), none, some (.int x5), none] [] (HP c r) := by
  intro n
  induction n with
  | zero => intro r x1 x3 x5; exact Ok_none
  | succ n ih => intro r x1 x3 x5; exact t_R_letters_p102b N d xs c (R_letters_p102 N n) ih r x1 x3 x5
set_option maxHeartbeats 8000000 in
set_option maxRecDepth 100000 in
theorem t_R_letters_p46 (N d : Nat) (xs : List Int32) (c : St) (r : St) : Ok (mBig (mRoL xs) (d)) (mRoL xs) 1 mK191 (fun p : Int32 × St => (some (.int p.1), HP c p.2)) (R_letters_p46 N r) 46 [none, none, none, none, none, none, none] [] (HP c r) := by
  unfold R_letters_p46
  refine Ok_blk 1 (pc2 := 48) (lo2 := [none, none, none, none, none, none, none]) (st2 := [.int (-102)]) rfl ?_
  exact Ok_ret rfl rfl rfl
set_option maxHeartbeats 8000000 in
set_option maxRecDepth 100000 in
theorem t_R_letters_p77 (N d : Nat) (xs : List Int32) (c : St) (kb8 : St → Int64 → Int32 → Int32 → Int32 → Option (Int32 × St)) (hb8 : ∀ (r : St) (x1 : Int64) (x3 : Int32) (x4 : Int32) (x5 : Int32), Ok (mBig (mRoL xs) (d)) (mRoL xs) 1 mK191 (fun p : Int32 × St => (some (.int p.1), HP c p.2)) (kb8 r x1 x3 x4 x5) 8 [some (.ref 115), some (.long x1), none, some (.int x3), some (.int x4), some (.int x5), none] [] (HP c r)) (r : St) (x1 : Int64) (x4 : Int32) (x5 : Int32) (s0 : Int32) (s1 : Int32) : Ok (mBig (mRoL xs) (d)) (mRoL xs) 1 mK191 (fun p : Int32 × St => (some (.int p.1), HP c p.2)) (R_letters_p77 N kb8 r x1 x4 x5 s0 s1) 77 [some (.ref 115), some (.long x1), none, none, some (.int x4), some (.int x5), none] [.int s1, .int s0] (HP c r) := by
  unfold R_letters_p77
  refine Ok_blk 4 (pc2 := 8) (lo2 := [some (.ref 115), some (.long x1), none, some (.int (s0 + s1)), some (.int x4), some (.int (x5 + 1)), none]) (st2 := []) rfl ?_
  refine Ok_drop (lo0 := [some (.ref 115), some (.long x1), none, some (.int (s0 + s1)), some (.int x4), some (.int (x5 + 1)), none]) ⟨Or.inr rfl, Or.inr rfl, Or.inl rfl, Or.inr rfl, Or.inr rfl, Or.inr rfl, Or.inl rfl, trivial⟩ ?_
  exact hb8 r x1 (s0 + s1) x4 (x5 + 1)
set_option maxHeartbeats 8000000 in
set_option maxRecDepth 100000 in
theorem t_R_letters_p64 (N d : Nat) (xs : List Int32) (c : St) (kb8 : St → Int64 → Int32 → Int32 → Int32 → Option (Int32 × St)) (hb8 : ∀ (r : St) (x1 : Int64) (x3 : Int32) (x4 : Int32) (x5 : Int32), Ok (mBig (mRoL xs) (d)) (mRoL xs) 1 mK191 (fun p : Int32 × St => (some (.int p.1), HP c p.2)) (kb8 r x1 x3 x4 x5) 8 [some (.ref 115), some (.long x1), none, some (.int x3), some (.int x4), some (.int x5), none] [] (HP c r)) (r : St) (x1 : Int64) (x3 : Int32) (x5 : Int32) (x6 : Int32) (s0 : Int32) : Ok (mBig (mRoL xs) (d)) (mRoL xs) 1 mK191 (fun p : Int32 × St => (some (.int p.1), HP c p.2)) (R_letters_p64 N kb8 r x1 x3 x5 x6 s0) 64 [some (.ref 115), some (.long x1), none, some (.int x3), none, some (.int x5), some (.int x6)] [.int s0] (HP c r) := by
  unfold R_letters_p64
  refine Ok_blk 4 (pc2 := (if ¬ x6 = 0 then 76 else 72)) (lo2 := [some (.ref 115), some (.long x1), none, some (.int x3), some (.int s0), some (.int x5), some (.int x6)]) (st2 := [.int x3]) rfl ?_
  refine Ok_if (fun h8 => ?_) (fun h8 => ?_)
  · refine Ok_blk 1 (pc2 := 77) (lo2 := [some (.ref 115), some (.long x1), none, some (.int x3), some (.int s0), some (.int x5), some (.int x6)]) (st2 := [.int 1, .int x3]) rfl ?_
    refine Ok_drop (lo0 := [some (.ref 115), some (.long x1), none, none, some (.int s0), some (.int x5), none]) ⟨Or.inr rfl, Or.inr rfl, Or.inl rfl, Or.inl rfl, Or.inr rfl, Or.inr rfl, Or.inl rfl, trivial⟩ ?_
    exact t_R_letters_p77 N d xs c kb8 hb8 r x1 s0 x5 x3 1
  · refine Ok_blk 2 (pc2 := 77) (lo2 := [some (.ref 115), some (.long x1), none, some (.int x3), some (.int s0), some (.int x5), some (.int x6)]) (st2 := [.int 0, .int x3]) rfl ?_
    refine Ok_drop (lo0 := [some (.ref 115), some (.long x1), none, none, some (.int s0), some (.int x5), none]) ⟨Or.inr rfl, Or.inr rfl, Or.inl rfl, Or.inl rfl, Or.inr rfl, Or.inr rfl, Or.inl rfl, trivial⟩ ?_
    exact t_R_letters_p77 N d xs c kb8 hb8 r x1 s0 x5 x3 0
set_option maxHeartbeats 8000000 in
set_option maxRecDepth 100000 in
theorem t_R_letters_p59 (N d : Nat) (xs : List Int32) (c : St) (kb8 : St → Int64 → Int32 → Int32 → Int32 → Option (Int32 × St)) (hb8 : ∀ (r : St) (x1 : Int64) (x3 : Int32) (x4 : Int32) (x5 : Int32), Ok (mBig (mRoL xs) (d)) (mRoL xs) 1 mK191 (fun p : Int32 × St => (some (.int p.1), HP c p.2)) (kb8 r x1 x3 x4 x5) 8 [some (.ref 115), some (.long x1), none, some (.int x3), some (.int x4), some (.int x5), none] [] (HP c r)) (r : St) (x1 : Int64) (x3 : Int32) (x5 : Int32) (x6 : Int32) : Ok (mBig (mRoL xs) (d)) (mRoL xs) 1 mK191 (fun p : Int32 × St => (some (.int p.1), HP c p.2)) (R_letters_p59 N kb8 r x1 x3 x5 x6) 59 [some (.ref 115), some (.long x1), none, some (.int x3), none, some (.int x5), some (.int x6)] [] (HP c r) := by
  unfold R_letters_p59
  refine Ok_blk 2 (pc2 := 64) (lo2 := [some (.ref 115), some (.long x1), none, some (.int x3), none, some (.int x5), some (.int x6)]) (st2 := [.int 1]) rfl ?_
  refine Ok_drop (lo0 := [some (.ref 115), some (.long x1), none, some (.int x3), none, some (.int x5), some (.int x6)]) ⟨Or.inr rfl, Or.inr rfl, Or.inl rfl, Or.inr rfl, Or.inl rfl, Or.inr rfl, Or.inr rfl, trivial⟩ ?_
  exact t_R_letters_p64 N d xs c kb8 hb8 r x1 x3 x5 x6 1
set_option maxHeartbeats 8000000 in
set_option maxRecDepth 100000 in
theorem t_R_letters_p49 (N d : Nat) (xs : List Int32) (c : St) (kb8 : St → Int64 → Int32 → Int32 → Int32 → Option (Int32 × St)) (hb8 : ∀ (r : St) (x1 : Int64) (x3 : Int32) (x4 : Int32) (x5 : Int32), Ok (mBig (mRoL xs) (d)) (mRoL xs) 1 mK191 (fun p : Int32 × St => (some (.int p.1), HP c p.2)) (kb8 r x1 x3 x4 x5) 8 [some (.ref 115), some (.long x1), none, some (.int x3), some (.int x4), some (.int x5), none] [] (HP c r)) (r : St) (x1 : Int64) (x3 : Int32) (x4 : Int32) (x5 : Int32) (x6 : Int32) : Ok (mBig (mRoL xs) (d)) (mRoL xs) 1 mK191 (fun p : Int32 × St => (some (.int p.1), HP c p.2)) (R_letters_p49 N kb8 r x1 x3 x4 x5 x6) 49 [some (.ref 115), some (.long x1), none, some (.int x3), some (.int x4), some (.int x5), some (.int x6)] [] (HP c r) := by
  unfold R_letters_p49
  refine Ok_blk 2 (pc2 := (if ¬ x4 = 0 then 59 else 54)) (lo2 := [some (.ref 115), some (.long x1), none, some (.int x3), some (.int x4), some (.int x5), some (.int x6)]) (st2 := []) rfl ?_
  refine Ok_if (fun h7 => ?_) (fun h7 => ?_)
  · refine Ok_drop (lo0 := [some (.ref 115), some (.long x1), none, some (.int x3), none, some (.int x5), some (.int x6)]) ⟨Or.inr rfl, Or.inr rfl, Or.inl rfl, Or.inr rfl, Or.inl rfl, Or.inr rfl, Or.inr rfl, trivial⟩ ?_
    exact t_R_letters_p59 N d xs c kb8 hb8 r x1 x3 x5 x6
  · refine Ok_blk 2 (pc2 := (if ¬ x6 = 0 then 63 else 59)) (lo2 := [some (.ref 115), some (.long x1), none, some (.int x3), some (.int x4), some (.int x5), some (.int x6)]) (st2 := []) rfl ?_
    refine Ok_if (fun h9 => ?_) (fun h9 => ?_)
    · refine Ok_blk 1 (pc2 := 64) (lo2 := [some (.ref 115), some (.long x1), none, some (.int x3), some (.int x4), some (.int x5), some (.int x6)]) (st2 := [.int 0]) rfl ?_
      refine Ok_drop (lo0 := [some (.ref 115), some (.long x1), none, some (.int x3), none, some (.int x5), some (.int x6)]) ⟨Or.inr rfl, Or.inr rfl, Or.inl rfl, Or.inr rfl, Or.inl rfl, Or.inr rfl, Or.inr rfl, trivial⟩ ?_
      exact t_R_letters_p64 N d xs c kb8 hb8 r x1 x3 x5 x6 0
    · refine Ok_drop (lo0 := [some (.ref 115), some (.long x1), none, some (.int x3), none, some (.int x5), some (.int x6)]) ⟨Or.inr rfl, Or.inr rfl, Or.inl rfl, Or.inr rfl, Or.inl rfl, Or.inr rfl, Or.inr rfl, trivial⟩ ?_
      exact t_R_letters_p59 N d xs c kb8 hb8 r x1 x3 x5 x6
set_option maxHeartbeats 8000000 in
set_option maxRecDepth 100000 in
theorem t_R_letters_p8b (N d : Nat) (xs : List Int32) (c : St) (kb8 : St → Int64 → Int32 → Int32 → Int32 → Option (Int32 × St)) (hb8 : ∀ (r : St) (x1 : Int64) (x3 : Int32) (x4 : Int32) (x5 : Int32), Ok (mBig (mRoL xs) (d)) (mRoL xs) 1 mK191 (fun p : Int32 × St => (some (.int p.1), HP c p.2)) (kb8 r x1 x3 x4 x5) 8 [some (.ref 115), some (.long x1), none, some (.int x3), some (.int x4), some (.int x5), none] [] (HP c r)) (r : St) (x1 : Int64) (x3 : Int32) (x4 : Int32) (x5 : Int32) : Ok (mBig (mRoL xs) (d)) (mRoL xs) 1 mK191 (fun p : Int32 × St => (some (.int p.1), HP c p.2)) (R_letters_p8b N kb8 r x1 x3 x4 x5) 8 [some (.ref 115), some (.long x1), none, some (.int x3), some (.int x4), some (.int x5), none] [] (HP c r) := by
  unfold R_letters_p8b
  refine Ok_blk 3 (pc2 := (if 8 ≤ x5 then 85 else 15)) (lo2 := [some (.ref 115), some (.long x1), none, some (.int x3), some (.int x4), some (.int x5), none]) (st2 := []) rfl ?_
  refine Ok_if (fun h1 => ?_) (fun h1 => ?_)
  · refine Ok_blk 6 (pc2 := (if ((gI r 8) + x3) ≤ 60 then 99 else 96)) (lo2 := [some (.ref 115), some (.long x1), none, some (.int x3), some (.int x4), some (.int x5), none]) (st2 := []) rfl ?_
    refine Ok_if (fun h2 => ?_) (fun h2 => ?_)
    · refine Ok_blk 2 (pc2 := 102) (lo2 := [some (.ref 115), some (.long x1), none, some (.int x3), some (.int x4), some (.int 0), none]) (st2 := []) rfl ?_
      refine Ok_drop (lo0 := [some (.ref 115), some (.long x1), none, some (.int x3), none, some (.int 0), none]) ⟨Or.inr rfl, Or.inr rfl, Or.inl rfl, Or.inr rfl, Or.inl rfl, Or.inr rfl, Or.inl rfl, trivial⟩ ?_
      exact t_R_letters_p102 N d xs c N r x1 x3 0
    · refine Ok_blk 1 (pc2 := 98) (lo2 := [some (.ref 115), some (.long x1), none, some (.int x3), some (.int x4), some (.int x5), none]) (st2 := [.int (-104)]) rfl ?_
      exact Ok_ret rfl rfl rfl
  · refine Ok_blk 12 (pc2 := (if 126 < (((x1 >>> ((8 * x5).toInt64 &&& 63)) &&& 255).toInt32) then 46 else 36)) (lo2 := [some (.ref 115), some (.long x1), none, some (.int x3), some (.int x4), some (.int x5), some (.int (((x1 >>> ((8 * x5).toInt64 &&& 63)) &&& 255).toInt32))]) (st2 := []) rfl ?_
    refine Ok_if (fun h5 => ?_) (fun h5 => ?_)
    · refine Ok_drop (lo0 := [none, none, none, none, none, none, none]) ⟨Or.inl rfl, Or.inl rfl, Or.inl rfl, Or.inl rfl, Or.inl rfl, Or.inl rfl, Or.inl rfl, trivial⟩ ?_
      exact t_R_letters_p46 N d xs c r
    · refine Ok_blk 2 (pc2 := (if x4 = 0 then 49 else 41)) (lo2 := [some (.ref 115), some (.long x1), none, some (.int x3), some (.int x4), some (.int x5), some (.int (((x1 >>> ((8 * x5).toInt64 &&& 63)) &&& 255).toInt32))]) (st2 := []) rfl ?_
      refine Ok_if (fun h6 => ?_) (fun h6 => ?_)
      · refine Ok_drop (lo0 := [some (.ref 115), some (.long x1), none, some (.int x3), some (.int x4), some (.int x5), some (.int (((x1 >>> ((8 * x5).toInt64 &&& 63)) &&& 255).toInt32))]) ⟨Or.inr rfl, Or.inr rfl, Or.inl rfl, Or.inr rfl, Or.inr rfl, Or.inr rfl, Or.inr rfl, trivial⟩ ?_
        exact t_R_letters_p49 N d xs c kb8 hb8 r x1 x3 x4 x5 (((x1 >>> ((8 * x5).toInt64 &&& 63)) &&& 255).toInt32)
      · refine Ok_blk 2 (pc2 := (if (((x1 >>> ((8 * x5).toInt64 &&& 63)) &&& 255).toInt32) = 0 then 49 else 46)) (lo2 := [some (.ref 115), some (.long x1), none, some (.int x3), some (.int x4), some (.int x5), some (.int (((x1 >>> ((8 * x5).toInt64 &&& 63)) &&& 255).toInt32))]) (st2 := []) rfl ?_
        refine Ok_if (fun h10 => ?_) (fun h10 => ?_)
        · refine Ok_drop (lo0 := [some (.ref 115), some (.long x1), none, some (.int x3), some (.int x4), some (.int x5), some (.int (((x1 >>> ((8 * x5).toInt64 &&& 63)) &&& 255).toInt32))]) ⟨Or.inr rfl, Or.inr rfl, Or.inl rfl, Or.inr rfl, Or.inr rfl, Or.inr rfl, Or.inr rfl, trivial⟩ ?_
          exact t_R_letters_p49 N d xs c kb8 hb8 r x1 x3 x4 x5 (((x1 >>> ((8 * x5).toInt64 &&& 63)) &&& 255).toInt32)
        · refine Ok_drop (lo0 := [none, none, none, none, none, none, none]) ⟨Or.inl rfl, Or.inl rfl, Or.inl rfl, Or.inl rfl, Or.inl rfl, Or.inl rfl, Or.inl rfl, trivial⟩ ?_
          exact t_R_letters_p46 N d xs c r
set_option maxHeartbeats 8000000 in
set_option maxRecDepth 100000 in
theorem t_R_letters_p8 (N d : Nat) (xs : List Int32) (c : St) : ∀ (n : Nat) (r : St) (x1 : Int64) (x3 : Int32) (x4 : Int32) (x5 : Int32), Ok (mBig (mRoL xs) (d)) (mRoL xs) 1 mK191 (fun p : Int32 × St => (some (.int p.1), HP c p.2)) (R_letters_p8 N n r x1 x3 x4 x5) 8 [some (.ref 115), some (.long x1), none, some (.int x3), some (.int x4), some (.int x5), none] [] (HP c r) := by
  intro n
  induction n with
  | zero => intro r x1 x3 x4 x5; exact Ok_none
  | succ n ih => intro r x1 x3 x4 x5; exact t_R_letters_p8b N d xs c (R_letters_p8 N n) ih r x1 x3 x4 x5
set_option maxHeartbeats 8000000 in
set_option maxRecDepth 100000 in
theorem t_R_letters (N d : Nat) (xs : List Int32) (c : St) (r : St) (x1 : Int64) : Ok (mBig (mRoL xs) (d)) (mRoL xs) 1 mK191 (fun p : Int32 × St => (some (.int p.1), HP c p.2)) (R_letters N r x1) 0 [some (.ref 115), some (.long x1), none, none, none, none, none] [] (HP c r) := by
  unfold R_letters
  refine Ok_blk 6 (pc2 := 8) (lo2 := [some (.ref 115), some (.long x1), none, some (.int 0), some (.int 0), some (.int 0), none]) (st2 := []) rfl ?_
  refine Ok_drop (lo0 := [some (.ref 115), some (.long x1), none, some (.int 0), some (.int 0), some (.int 0), none]) ⟨Or.inr rfl, Or.inr rfl, Or.inl rfl, Or.inr rfl, Or.inr rfl, Or.inr rfl, Or.inl rfl, trivial⟩ ?_
  exact t_R_letters_p8 N d xs c N r x1 0 0 0
set_option maxHeartbeats 8000000 in
set_option maxRecDepth 100000 in
theorem tm_R_letters (N d : Nat) (xs : List Int32) (c r : St) (a1 : Int64) (p : Int32 × St) (hp : R_letters N r a1 = some p) : mBig (mRoL xs) (d + 1) 191 [.ref 115, .long a1] (HP c r) (some (.int p.1)) (HP c p.2) 0 0 := mBig_of (by decide) rfl rfl rfl rfl (t_R_letters N d xs c r a1 p hp)
/-! ColdHolds.blank()I, from (('r', 0),) -/
def C_blank (N : Nat) (c : St) : Option (Int32 × St) :=
  some (gI c 6, sI c 6 0)
set_option maxHeartbeats 8000000 in
set_option maxRecDepth 100000 in
theorem t_C_blank (N d : Nat) (xs : List Int32) (r : St) (c : St) : Ok (mBig (mRoL xs) (d)) (mRoL xs) 1 mK123 (fun p : Int32 × St => (some (.int p.1), HP p.2 r)) (C_blank N c) 0 [some (.ref 0), none] [] (HP c r) := by
  unfold C_blank
  refine Ok_heap 8 (pc2 := 16) (lo2 := [some (.ref 0), some (.int (gI c 6))]) (st2 := []) (h2 := HP (sI c 6 0) r) rfl (st_40_1 _ _ _) ?_
  refine Ok_blk 1 (pc2 := 17) (lo2 := [some (.ref 0), some (.int (gI c 6))]) (st2 := [.int (gI c 6)]) rfl ?_
  exact Ok_ret rfl rfl rfl
set_option maxHeartbeats 8000000 in
set_option maxRecDepth 100000 in
theorem tm_C_blank (N d : Nat) (xs : List Int32) (c r : St) (p : Int32 × St) (hp : C_blank N c = some p) : mBig (mRoL xs) (d + 1) 123 [.ref 0] (HP c r) (some (.int p.1)) (HP p.2 r) 0 0 := mBig_of (by decide) rfl rfl rfl rfl (t_C_blank N d xs r c p hp)
/-! ColdHoldsModel.blank()I, from (('r', 115),) -/
def R_blank (N : Nat) (r : St) : Option (Int32 × St) :=
  some (gI r 8, sI r 8 0)
set_option maxHeartbeats 8000000 in
set_option maxRecDepth 100000 in
theorem t_R_blank (N d : Nat) (xs : List Int32) (c : St) (r : St) : Ok (mBig (mRoL xs) (d)) (mRoL xs) 1 mK192 (fun p : Int32 × St => (some (.int p.1), HP c p.2)) (R_blank N r) 0 [some (.ref 115), none] [] (HP c r) := by
  unfold R_blank
  refine Ok_heap 6 (pc2 := 10) (lo2 := [some (.ref 115), some (.int (gI r 8))]) (st2 := []) (h2 := HP c (sI r 8 0)) rfl (st_115_18 _ _ _) ?_
  refine Ok_blk 1 (pc2 := 11) (lo2 := [some (.ref 115), some (.int (gI r 8))]) (st2 := [.int (gI r 8)]) rfl ?_
  exact Ok_ret rfl rfl rfl
set_option maxHeartbeats 8000000 in
set_option maxRecDepth 100000 in
theorem tm_R_blank (N d : Nat) (xs : List Int32) (c r : St) (p : Int32 × St) (hp : R_blank N r = some p) : mBig (mRoL xs) (d + 1) 192 [.ref 115] (HP c r) (some (.int p.1)) (HP c p.2) 0 0 := mBig_of (by decide) rfl rfl rfl rfl (t_R_blank N d xs c r p hp)
/-! ColdHolds$Texts.isDigit(I)Z, from ('i',) -/
def Texts_isDigit (N : Nat) (x0 : Int32) : Option (Int32) :=
  (C_within N x0 48 57).bind fun p1 => some p1
set_option maxHeartbeats 8000000 in
set_option maxRecDepth 100000 in
theorem t_Texts_isDigit (N d : Nat) (xs : List Int32) (c : St) (r : St) (x0 : Int32) : Ok (mBig (mRoL xs) (d + 1)) (mRoL xs) 2 mK91 (fun p : Int32 => (some (.int p), HP c r)) (Texts_isDigit N x0) 0 [some (.int x0)] [] (HP c r) := by
  unfold Texts_isDigit
  refine Ok_blk 3 (pc2 := 5) (lo2 := [some (.int x0)]) (st2 := [.int 57, .int 48, .int x0]) rfl ?_
  refine Ok_call (y := 102) (as := [.int x0, .int 48, .int 57]) (rest := []) (w := fun p1 => some (.int p1)) (h1 := fun p1 => HP c r) rfl rfl (fun x hx => tm_C_within N d xs c r x0 48 57 x hx) (fun p1 hp1 => ?_)
  exact Ok_rez (mBig_z (tm_C_within N d xs c r x0 48 57 p1 hp1) rfl) rfl rfl
set_option maxHeartbeats 8000000 in
set_option maxRecDepth 100000 in
theorem tm_Texts_isDigit (N d : Nat) (xs : List Int32) (c r : St) (a0 : Int32) (p : Int32) (hp : Texts_isDigit N a0 = some p) : mBig (mRoL xs) (d + 2) 91 [.int a0] (HP c r) (some (.int p)) (HP c r) 0 0 := mBig_of (by decide) rfl rfl rfl rfl (t_Texts_isDigit N d xs c r a0 p hp)
