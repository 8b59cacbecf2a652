/-! methods as partial functions of Lean, and that the small machine does them: by program (gen18) -/
/-! ColdHolds$Texts.intoFactor(I)I, from (('r', 40), 'i') -/
def Texts_intoFactor_p51 (N : Nat) (c : St) : Option (Int32 × St) :=
  some (3, c)
def Texts_intoFactor (N : Nat) (c : St) (x1 : Int32) : Option (Int32 × St) :=
  (Texts_isDigit N x1).bind fun p1 => (if p1 = 0 then (if ¬ x1 = 40 then (if x1 = 114 then Texts_intoFactor_p51 N c else (if x1 = 116 then Texts_intoFactor_p51 N c else (if x1 = 104 then Texts_intoFactor_p51 N c else (if ¬ x1 = 107 then some ((-1), c) else Texts_intoFactor_p51 N c)))) else some (2, sI c 13 ((gI c 13) + 1))) else some (5, c))
set_option maxHeartbeats 8000000 in
set_option maxRecDepth 100000 in
theorem t_Texts_intoFactor_p51 (N d : Nat) (xs : List Int32) (r : St) (c : St) : Ok (mBig (mRoL xs) (d + 2)) (mRoL xs) 1 mK89 (fun p : Int32 × St => (some (.int p.1), HP p.2 r)) (Texts_intoFactor_p51 N c) 51 [none, none] [] (HP c r) := by
  unfold Texts_intoFactor_p51
  refine Ok_blk 2 (pc2 := 56) (lo2 := [none, none]) (st2 := [.int 3]) rfl ?_
  exact Ok_ret rfl rfl rfl
set_option maxHeartbeats 8000000 in
set_option maxRecDepth 100000 in
theorem t_Texts_intoFactor (N d : Nat) (xs : List Int32) (r : St) (c : St) (x1 : Int32) : Ok (mBig (mRoL xs) (d + 2)) (mRoL xs) 1 mK89 (fun p : Int32 × St => (some (.int p.1), HP p.2 r)) (Texts_intoFactor N c x1) 0 [some (.ref 40), some (.int x1)] [] (HP c r) := by
  unfold Texts_intoFactor
  refine Ok_blk 1 (pc2 := 1) (lo2 := [some (.ref 40), some (.int x1)]) (st2 := [.int x1]) rfl ?_
  refine Ok_call (y := 91) (as := [.int x1]) (rest := []) (w := fun p1 => some (.int p1)) (h1 := fun p1 => HP c r) rfl rfl (fun x hx => tm_Texts_isDigit N d xs c r x1 x hx) (fun p1 hp1 => ?_)
  refine Ok_blk 1 (pc2 := (if p1 = 0 then 9 else 7)) (lo2 := [some (.ref 40), some (.int x1)]) (st2 := []) rfl ?_
  refine Ok_if (fun h2 => ?_) (fun h2 => ?_)
  · refine Ok_blk 3 (pc2 := (if ¬ x1 = 40 then 27 else 15)) (lo2 := [some (.ref 40), some (.int x1)]) (st2 := []) rfl ?_
    refine Ok_if (fun h3 => ?_) (fun h3 => ?_)
    · refine Ok_blk 3 (pc2 := (if x1 = 114 then 51 else 33)) (lo2 := [some (.ref 40), some (.int x1)]) (st2 := []) rfl ?_
      refine Ok_if (fun h4 => ?_) (fun h4 => ?_)
      · refine Ok_drop (lo0 := [none, none]) ⟨Or.inl rfl, Or.inl rfl, trivial⟩ ?_
        exact t_Texts_intoFactor_p51 N d xs r c
      · refine Ok_blk 3 (pc2 := (if x1 = 116 then 51 else 39)) (lo2 := [some (.ref 40), some (.int x1)]) (st2 := []) rfl ?_
        refine Ok_if (fun h5 => ?_) (fun h5 => ?_)
        · refine Ok_drop (lo0 := [none, none]) ⟨Or.inl rfl, Or.inl rfl, trivial⟩ ?_
          exact t_Texts_intoFactor_p51 N d xs r c
        · refine Ok_blk 3 (pc2 := (if x1 = 104 then 51 else 45)) (lo2 := [some (.ref 40), some (.int x1)]) (st2 := []) rfl ?_
          refine Ok_if (fun h6 => ?_) (fun h6 => ?_)
          · refine Ok_drop (lo0 := [none, none]) ⟨Or.inl rfl, Or.inl rfl, trivial⟩ ?_
            exact t_Texts_intoFactor_p51 N d xs r c
          · refine Ok_blk 3 (pc2 := (if ¬ x1 = 107 then 55 else 51)) (lo2 := [some (.ref 40), some (.int x1)]) (st2 := []) rfl ?_
            refine Ok_if (fun h7 => ?_) (fun h7 => ?_)
            · refine Ok_blk 1 (pc2 := 56) (lo2 := [some (.ref 40), some (.int x1)]) (st2 := [.int (-1)]) rfl ?_
              exact Ok_ret rfl rfl rfl
            · refine Ok_drop (lo0 := [none, none]) ⟨Or.inl rfl, Or.inl rfl, trivial⟩ ?_
              exact t_Texts_intoFactor_p51 N d xs r c
    · refine Ok_heap 6 (pc2 := 25) (lo2 := [some (.ref 40), some (.int x1)]) (st2 := []) (h2 := HP (sI c 13 ((gI c 13) + 1)) r) rfl (st_40_13 _ _ _) ?_
      refine Ok_blk 1 (pc2 := 26) (lo2 := [some (.ref 40), some (.int x1)]) (st2 := [.int 2]) rfl ?_
      exact Ok_ret rfl rfl rfl
  · refine Ok_blk 1 (pc2 := 8) (lo2 := [some (.ref 40), some (.int x1)]) (st2 := [.int 5]) rfl ?_
    exact Ok_ret rfl rfl rfl
set_option maxHeartbeats 8000000 in
set_option maxRecDepth 100000 in
theorem tm_Texts_intoFactor (N d : Nat) (xs : List Int32) (c r : St) (a1 : Int32) (p : Int32 × St) (hp : Texts_intoFactor N c a1 = some p) : mBig (mRoL xs) (d + 3) 89 [.ref 40, .int a1] (HP c r) (some (.int p.1)) (HP p.2 r) 0 0 := mBig_of (by decide) rfl rfl rfl rfl (t_Texts_intoFactor N d xs r c a1 p hp)
/-! ColdHolds$Texts.behindFactor(II)I, from (('r', 40), 'i', 'i') -/
def Texts_behindFactor_p44 (N : Nat) (c : St) : Option (Int32 × St) :=
  some (2, c)
def Texts_behindFactor_p111 (N : Nat) (c : St) : Option (Int32 × St) :=
  some ((-1), c)
def Texts_behindFactor_p89 (N : Nat) (c : St) (x2 : Int32) : Option (Int32 × St) :=
  (if ¬ (gI c 13) = 0 then Texts_behindFactor_p111 N c else (if ¬ (gI c 14) = (-1) then Texts_behindFactor_p111 N c else some (2, sI c 14 x2)))
def Texts_behindFactor_p71 (N : Nat) (c : St) (x1 : Int32) (x2 : Int32) : Option (Int32 × St) :=
  (if x1 = 60 then Texts_behindFactor_p89 N c x2 else (if x1 = 61 then Texts_behindFactor_p89 N c x2 else (if ¬ x1 = 62 then Texts_behindFactor_p111 N c else Texts_behindFactor_p89 N c x2)))
def Texts_behindFactor (N : Nat) (c : St) (x1 : Int32) (x2 : Int32) : Option (Int32 × St) :=
  (Texts_isDigit N x1).bind fun p1 => (if p1 = 0 then (if x1 = 43 then Texts_behindFactor_p44 N c else (if x1 = 45 then Texts_behindFactor_p44 N c else (if ¬ x1 = 42 then (if ¬ x1 = 41 then Texts_behindFactor_p71 N c x1 x2 else (if (gI c 13) ≤ 0 then Texts_behindFactor_p71 N c x1 x2 else some (3, sI c 13 ((gI c 13) - 1)))) else Texts_behindFactor_p44 N c))) else (if (gI c 12) ≤ 3 then some ((-1), c) else some ((gI c 12) - 1, c)))
set_option maxHeartbeats 8000000 in
set_option maxRecDepth 100000 in
theorem t_Texts_behindFactor_p44 (N d : Nat) (xs : List Int32) (r : St) (c : St) : Ok (mBig (mRoL xs) (d + 2)) (mRoL xs) 1 mK90 (fun p : Int32 × St => (some (.int p.1), HP p.2 r)) (Texts_behindFactor_p44 N c) 44 [none, none, none] [] (HP c r) := by
  unfold Texts_behindFactor_p44
  refine Ok_blk 1 (pc2 := 45) (lo2 := [none, none, none]) (st2 := [.int 2]) rfl ?_
  exact Ok_ret rfl rfl rfl
set_option maxHeartbeats 8000000 in
set_option maxRecDepth 100000 in
theorem t_Texts_behindFactor_p111 (N d : Nat) (xs : List Int32) (r : St) (c : St) : Ok (mBig (mRoL xs) (d + 2)) (mRoL xs) 1 mK90 (fun p : Int32 × St => (some (.int p.1), HP p.2 r)) (Texts_behindFactor_p111 N c) 111 [none, none, none] [] (HP c r) := by
  unfold Texts_behindFactor_p111
  refine Ok_blk 1 (pc2 := 112) (lo2 := [none, none, none]) (st2 := [.int (-1)]) rfl ?_
  exact Ok_ret rfl rfl rfl
set_option maxHeartbeats 8000000 in
set_option maxRecDepth 100000 in
theorem t_Texts_behindFactor_p89 (N d : Nat) (xs : List Int32) (r : St) (c : St) (x2 : Int32) : Ok (mBig (mRoL xs) (d + 2)) (mRoL xs) 1 mK90 (fun p : Int32 × St => (some (.int p.1), HP p.2 r)) (Texts_behindFactor_p89 N c x2) 89 [some (.ref 40), none, some (.int x2)] [] (HP c r) := by
  unfold Texts_behindFactor_p89
  refine Ok_blk 3 (pc2 := (if ¬ (gI c 13) = 0 then 111 else 96)) (lo2 := [some (.ref 40), none, some (.int x2)]) (st2 := []) rfl ?_
  refine Ok_if (fun h8 => ?_) (fun h8 => ?_)
  · refine Ok_drop (lo0 := [none, none, none]) ⟨Or.inl rfl, Or.inl rfl, Or.inl rfl, trivial⟩ ?_
    exact t_Texts_behindFactor_p111 N d xs r c
  · refine Ok_blk 4 (pc2 := (if ¬ (gI c 14) = (-1) then 111 else 104)) (lo2 := [some (.ref 40), none, some (.int x2)]) (st2 := []) rfl ?_
    refine Ok_if (fun h9 => ?_) (fun h9 => ?_)
    · refine Ok_drop (lo0 := [none, none, none]) ⟨Or.inl rfl, Or.inl rfl, Or.inl rfl, trivial⟩ ?_
      exact t_Texts_behindFactor_p111 N d xs r c
    · refine Ok_heap 3 (pc2 := 109) (lo2 := [some (.ref 40), none, some (.int x2)]) (st2 := []) (h2 := HP (sI c 14 x2) r) rfl (st_40_14 _ _ _) ?_
      refine Ok_blk 1 (pc2 := 110) (lo2 := [some (.ref 40), none, some (.int x2)]) (st2 := [.int 2]) rfl ?_
      exact Ok_ret rfl rfl rfl
set_option maxHeartbeats 8000000 in
set_option maxRecDepth 100000 in
theorem t_Texts_behindFactor_p71 (N d : Nat) (xs : List Int32) (r : St) (c : St) (x1 : Int32) (x2 : Int32) : Ok (mBig (mRoL xs) (d + 2)) (mRoL xs) 1 mK90 (fun p : Int32 × St => (some (.int p.1), HP p.2 r)) (Texts_behindFactor_p71 N c x1 x2) 71 [some (.ref 40), some (.int x1), some (.int x2)] [] (HP c r) := by
  unfold Texts_behindFactor_p71
  refine Ok_blk 3 (pc2 := (if x1 = 60 then 89 else 77)) (lo2 := [some (.ref 40), some (.int x1), some (.int x2)]) (st2 := []) rfl ?_
  refine Ok_if (fun h7 => ?_) (fun h7 => ?_)
  · refine Ok_drop (lo0 := [some (.ref 40), none, some (.int x2)]) ⟨Or.inr rfl, Or.inl rfl, Or.inr rfl, trivial⟩ ?_
    exact t_Texts_behindFactor_p89 N d xs r c x2
  · refine Ok_blk 3 (pc2 := (if x1 = 61 then 89 else 83)) (lo2 := [some (.ref 40), some (.int x1), some (.int x2)]) (st2 := []) rfl ?_
    refine Ok_if (fun h10 => ?_) (fun h10 => ?_)
    · refine Ok_drop (lo0 := [some (.ref 40), none, some (.int x2)]) ⟨Or.inr rfl, Or.inl rfl, Or.inr rfl, trivial⟩ ?_
      exact t_Texts_behindFactor_p89 N d xs r c x2
    · refine Ok_blk 3 (pc2 := (if ¬ x1 = 62 then 111 else 89)) (lo2 := [some (.ref 40), some (.int x1), some (.int x2)]) (st2 := []) rfl ?_
      refine Ok_if (fun h11 => ?_) (fun h11 => ?_)
      · refine Ok_drop (lo0 := [none, none, none]) ⟨Or.inl rfl, Or.inl rfl, Or.inl rfl, trivial⟩ ?_
        exact t_Texts_behindFactor_p111 N d xs r c
      · refine Ok_drop (lo0 := [some (.ref 40), none, some (.int x2)]) ⟨Or.inr rfl, Or.inl rfl, Or.inr rfl, trivial⟩ ?_
        exact t_Texts_behindFactor_p89 N d xs r c x2
set_option maxHeartbeats 8000000 in
set_option maxRecDepth 100000 in
theorem t_Texts_behindFactor (N d : Nat) (xs : List Int32) (r : St) (c : St) (x1 : Int32) (x2 : Int32) : Ok (mBig (mRoL xs) (d + 2)) (mRoL xs) 1 mK90 (fun p : Int32 × St => (some (.int p.1), HP p.2 r)) (Texts_behindFactor N c x1 x2) 0 [some (.ref 40), some (.int x1), some (.int x2)] [] (HP c r) := by
  unfold Texts_behindFactor
  refine Ok_blk 1 (pc2 := 1) (lo2 := [some (.ref 40), some (.int x1), some (.int x2)]) (st2 := [.int x1]) rfl ?_
  refine Ok_call (y := 91) (as := [.int x1]) (rest := []) (w := fun p1 => some (.int p1)) (h1 := fun p1 => HP c r) rfl rfl (fun x hx => tm_Texts_isDigit N d xs c r x1 x hx) (fun p1 hp1 => ?_)
  refine Ok_blk 1 (pc2 := (if p1 = 0 then 26 else 7)) (lo2 := [some (.ref 40), some (.int x1), some (.int x2)]) (st2 := []) rfl ?_
  refine Ok_if (fun h2 => ?_) (fun h2 => ?_)
  · refine Ok_blk 3 (pc2 := (if x1 = 43 then 44 else 32)) (lo2 := [some (.ref 40), some (.int x1), some (.int x2)]) (st2 := []) rfl ?_
    refine Ok_if (fun h3 => ?_) (fun h3 => ?_)
    · refine Ok_drop (lo0 := [none, none, none]) ⟨Or.inl rfl, Or.inl rfl, Or.inl rfl, trivial⟩ ?_
      exact t_Texts_behindFactor_p44 N d xs r c
    · refine Ok_blk 3 (pc2 := (if x1 = 45 then 44 else 38)) (lo2 := [some (.ref 40), some (.int x1), some (.int x2)]) (st2 := []) rfl ?_
      refine Ok_if (fun h4 => ?_) (fun h4 => ?_)
      · refine Ok_drop (lo0 := [none, none, none]) ⟨Or.inl rfl, Or.inl rfl, Or.inl rfl, trivial⟩ ?_
        exact t_Texts_behindFactor_p44 N d xs r c
      · refine Ok_blk 3 (pc2 := (if ¬ x1 = 42 then 46 else 44)) (lo2 := [some (.ref 40), some (.int x1), some (.int x2)]) (st2 := []) rfl ?_
        refine Ok_if (fun h5 => ?_) (fun h5 => ?_)
        · refine Ok_blk 3 (pc2 := (if ¬ x1 = 41 then 71 else 52)) (lo2 := [some (.ref 40), some (.int x1), some (.int x2)]) (st2 := []) rfl ?_
          refine Ok_if (fun h6 => ?_) (fun h6 => ?_)
          · refine Ok_drop (lo0 := [some (.ref 40), some (.int x1), some (.int x2)]) ⟨Or.inr rfl, Or.inr rfl, Or.inr rfl, trivial⟩ ?_
            exact t_Texts_behindFactor_p71 N d xs r c x1 x2
          · refine Ok_blk 3 (pc2 := (if (gI c 13) ≤ 0 then 71 else 59)) (lo2 := [some (.ref 40), some (.int x1), some (.int x2)]) (st2 := []) rfl ?_
            refine Ok_if (fun h12 => ?_) (fun h12 => ?_)
            · refine Ok_drop (lo0 := [some (.ref 40), some (.int x1), some (.int x2)]) ⟨Or.inr rfl, Or.inr rfl, Or.inr rfl, trivial⟩ ?_
              exact t_Texts_behindFactor_p71 N d xs r c x1 x2
            · refine Ok_heap 6 (pc2 := 69) (lo2 := [some (.ref 40), some (.int x1), some (.int x2)]) (st2 := []) (h2 := HP (sI c 13 ((gI c 13) - 1)) r) rfl (st_40_13 _ _ _) ?_
              refine Ok_blk 1 (pc2 := 70) (lo2 := [some (.ref 40), some (.int x1), some (.int x2)]) (st2 := [.int 3]) rfl ?_
              exact Ok_ret rfl rfl rfl
        · refine Ok_drop (lo0 := [none, none, none]) ⟨Or.inl rfl, Or.inl rfl, Or.inl rfl, trivial⟩ ?_
          exact t_Texts_behindFactor_p44 N d xs r c
  · refine Ok_blk 4 (pc2 := (if (gI c 12) ≤ 3 then 24 else 15)) (lo2 := [some (.ref 40), some (.int x1), some (.int x2)]) (st2 := []) rfl ?_
    refine Ok_if (fun h13 => ?_) (fun h13 => ?_)
    · refine Ok_blk 1 (pc2 := 25) (lo2 := [some (.ref 40), some (.int x1), some (.int x2)]) (st2 := [.int (-1)]) rfl ?_
      exact Ok_ret rfl rfl rfl
    · refine Ok_blk 5 (pc2 := 25) (lo2 := [some (.ref 40), some (.int x1), some (.int x2)]) (st2 := [.int ((gI c 12) - 1)]) rfl ?_
      exact Ok_ret rfl rfl rfl
set_option maxHeartbeats 8000000 in
set_option maxRecDepth 100000 in
theorem tm_Texts_behindFactor (N d : Nat) (xs : List Int32) (c r : St) (a1 : Int32) (a2 : Int32) (p : Int32 × St) (hp : Texts_behindFactor N c a1 a2 = some p) : mBig (mRoL xs) (d + 3) 90 [.ref 40, .int a1, .int a2] (HP c r) (some (.int p.1)) (HP p.2 r) 0 0 := mBig_of (by decide) rfl rfl rfl rfl (t_Texts_behindFactor N d xs r c a1 a2 p hp)
/-! ColdHolds$Texts.letterNumber(I)I, from ('i',) -/
def Texts_letterNumber (N : Nat) (x0 : Int32) : Option (Int32) :=
  (if x0 = 67 then some 2 else (if x0 = 83 then some 1 else (if x0 = 87 then some 0 else some (-1))))
set_option maxHeartbeats 8000000 in
set_option maxRecDepth 100000 in
theorem t_Texts_letterNumber (N d : Nat) (xs : List Int32) (c : St) (r : St) (x0 : Int32) : Ok (mBig (mRoL xs) (d)) (mRoL xs) 1 mK92 (fun p : Int32 => (some (.int p), HP c r)) (Texts_letterNumber N x0) 0 [some (.int x0)] [] (HP c r) := by
  unfold Texts_letterNumber
  refine Ok_blk 2 (pc2 := mSw x0 [(67, 40), (83, 38), (87, 36)] 42) (lo2 := [some (.int x0)]) (st2 := []) rfl ?_
  refine Ok_sw (fun h1 => ?_) (fun h1 => ?_)
  · refine Ok_blk 1 (pc2 := 41) (lo2 := [some (.int x0)]) (st2 := [.int 2]) rfl ?_
    exact Ok_ret rfl rfl rfl
  refine Ok_sw (fun h2 => ?_) (fun h2 => ?_)
  · refine Ok_blk 1 (pc2 := 39) (lo2 := [some (.int x0)]) (st2 := [.int 1]) rfl ?_
    exact Ok_ret rfl rfl rfl
  refine Ok_sw (fun h3 => ?_) (fun h3 => ?_)
  · refine Ok_blk 1 (pc2 := 37) (lo2 := [some (.int x0)]) (st2 := [.int 0]) rfl ?_
    exact Ok_ret rfl rfl rfl
  show Ok _ _ _ _ _ _ 42 _ _ _
  refine Ok_blk 1 (pc2 := 43) (lo2 := [some (.int x0)]) (st2 := [.int (-1)]) rfl ?_
  exact Ok_ret rfl rfl rfl
set_option maxHeartbeats 8000000 in
set_option maxRecDepth 100000 in
theorem tm_Texts_letterNumber (N d : Nat) (xs : List Int32) (c r : St) (a0 : Int32) (p : Int32) (hp : Texts_letterNumber N a0 = some p) : mBig (mRoL xs) (d + 1) 92 [.int a0] (HP c r) (some (.int p)) (HP c r) 0 0 := mBig_of (by decide) rfl rfl rfl rfl (t_Texts_letterNumber N d xs c r a0 p hp)
/-! ColdHolds$Texts.after(II)I, from (('r', 40), 'i', 'i') -/
def Texts_after (N : Nat) (c : St) (x1 : Int32) (x2 : Int32) : Option (Int32 × St) :=
  (if (gI c 12) = 0 then (Texts_letterNumber N x1).bind fun p2 => (if ¬ p2 = (-1) then some (1, c) else some ((-1), c)) else (if (gI c 12) = 1 then (if ¬ x1 = 58 then some ((-1), c) else some (2, c)) else (if (gI c 12) = 2 then (Texts_intoFactor N c x1).bind fun p7 => some (p7.1, p7.2) else (Texts_behindFactor N c x1 x2).bind fun p8 => some (p8.1, p8.2))))
set_option maxHeartbeats 8000000 in
set_option maxRecDepth 100000 in
theorem t_Texts_after (N d : Nat) (xs : List Int32) (r : St) (c : St) (x1 : Int32) (x2 : Int32) : Ok (mBig (mRoL xs) (d + 3)) (mRoL xs) 1 mK88 (fun p : Int32 × St => (some (.int p.1), HP p.2 r)) (Texts_after N c x1 x2) 0 [some (.ref 40), some (.int x1), some (.int x2)] [] (HP c r) := by
  unfold Texts_after
  refine Ok_blk 3 (pc2 := mSw (gI c 12) [(0, 32), (1, 46), (2, 58)] 64) (lo2 := [some (.ref 40), some (.int x1), some (.int x2)]) (st2 := []) rfl ?_
  refine Ok_sw (fun h1 => ?_) (fun h1 => ?_)
  · refine Ok_blk 1 (pc2 := 33) (lo2 := [some (.ref 40), some (.int x1), some (.int x2)]) (st2 := [.int x1]) rfl ?_
    refine Ok_call (y := 92) (as := [.int x1]) (rest := []) (w := fun p2 => some (.int p2)) (h1 := fun p2 => HP c r) rfl rfl (fun x hx => tm_Texts_letterNumber N (d + 2) xs c r x1 x hx) (fun p2 hp2 => ?_)
    refine Ok_blk 2 (pc2 := (if ¬ p2 = (-1) then 44 else 40)) (lo2 := [some (.ref 40), some (.int x1), some (.int x2)]) (st2 := []) rfl ?_
    refine Ok_if (fun h3 => ?_) (fun h3 => ?_)
    · refine Ok_blk 1 (pc2 := 45) (lo2 := [some (.ref 40), some (.int x1), some (.int x2)]) (st2 := [.int 1]) rfl ?_
      exact Ok_ret rfl rfl rfl
    · refine Ok_blk 2 (pc2 := 45) (lo2 := [some (.ref 40), some (.int x1), some (.int x2)]) (st2 := [.int (-1)]) rfl ?_
      exact Ok_ret rfl rfl rfl
  refine Ok_sw (fun h4 => ?_) (fun h4 => ?_)
  · refine Ok_blk 3 (pc2 := (if ¬ x1 = 58 then 56 else 52)) (lo2 := [some (.ref 40), some (.int x1), some (.int x2)]) (st2 := []) rfl ?_
    refine Ok_if (fun h5 => ?_) (fun h5 => ?_)
    · refine Ok_blk 1 (pc2 := 57) (lo2 := [some (.ref 40), some (.int x1), some (.int x2)]) (st2 := [.int (-1)]) rfl ?_
      exact Ok_ret rfl rfl rfl
    · refine Ok_blk 2 (pc2 := 57) (lo2 := [some (.ref 40), some (.int x1), some (.int x2)]) (st2 := [.int 2]) rfl ?_
      exact Ok_ret rfl rfl rfl
  refine Ok_sw (fun h6 => ?_) (fun h6 => ?_)
  · refine Ok_blk 2 (pc2 := 60) (lo2 := [some (.ref 40), some (.int x1), some (.int x2)]) (st2 := [.int x1, .ref 40]) rfl ?_
    refine Ok_call (y := 89) (as := [.ref 40, .int x1]) (rest := []) (w := fun p7 => some (.int p7.1)) (h1 := fun p7 => HP p7.2 r) rfl rfl (fun x hx => tm_Texts_intoFactor N d xs c r x1 x hx) (fun p7 hp7 => ?_)
    exact Ok_ret rfl rfl rfl
  show Ok _ _ _ _ _ _ 64 _ _ _
  refine Ok_blk 3 (pc2 := 67) (lo2 := [some (.ref 40), some (.int x1), some (.int x2)]) (st2 := [.int x2, .int x1, .ref 40]) rfl ?_
  refine Ok_call (y := 90) (as := [.ref 40, .int x1, .int x2]) (rest := []) (w := fun p8 => some (.int p8.1)) (h1 := fun p8 => HP p8.2 r) rfl rfl (fun x hx => tm_Texts_behindFactor N d xs c r x1 x2 x hx) (fun p8 hp8 => ?_)
  exact Ok_ret rfl rfl rfl
set_option maxHeartbeats 8000000 in
set_option maxRecDepth 100000 in
theorem tm_Texts_after (N d : Nat) (xs : List Int32) (c r : St) (a1 : Int32) (a2 : Int32) (p : Int32 × St) (hp : Texts_after N c a1 a2 = some p) : mBig (mRoL xs) (d + 4) 88 [.ref 40, .int a1, .int a2] (HP c r) (some (.int p.1)) (HP p.2 r) 0 0 := mBig_of (by decide) rfl rfl rfl rfl (t_Texts_after N d xs r c a1 a2 p hp)
/-! ColdHolds$Texts.scan()I, from (('r', 40),) -/
def Texts_scan_p17b (N : Nat) (kb17 : St → Int32 → Option (Int32 × St)) (c : St) (x1 : Int32) : Option (Int32 × St) :=
  (if (gI c 6) ≤ x1 then some (gI c 6, c) else (ld (gA c 34) x1).bind fun y2 => (Texts_after N c y2 x1).bind fun p3 => (if ¬ (gI (sI p3.2 12 p3.1) 12) = (-1) then kb17 (sI p3.2 12 p3.1) (x1 + 1) else some (x1, sI p3.2 12 p3.1)))
def Texts_scan_p17 (N : Nat) : Nat → St → Int32 → Option (Int32 × St)
  | 0 => fun _ _ => none
  | n + 1 => Texts_scan_p17b N (Texts_scan_p17 N n)
def Texts_scan (N : Nat) (c : St) : Option (Int32 × St) :=
  Texts_scan_p17 N N (sI (sI (sI c 12 0) 13 0) 14 (-1)) 0
set_option maxHeartbeats 8000000 in
set_option maxRecDepth 100000 in
theorem t_Texts_scan_p17b (N d : Nat) (xs : List Int32) (r : St) (kb17 : St → Int32 → Option (Int32 × St)) (hb17 : ∀ (c : St) (x1 : Int32), Ok (mBig (mRoL xs) (d + 4)) (mRoL xs) 1 mK87 (fun p : Int32 × St => (some (.int p.1), HP p.2 r)) (kb17 c x1) 17 [some (.ref 40), some (.int x1)] [] (HP c r)) (c : St) (x1 : Int32) : Ok (mBig (mRoL xs) (d + 4)) (mRoL xs) 1 mK87 (fun p : Int32 × St => (some (.int p.1), HP p.2 r)) (Texts_scan_p17b N kb17 c x1) 17 [some (.ref 40), some (.int x1)] [] (HP c r) := by
  unfold Texts_scan_p17b
  refine Ok_blk 4 (pc2 := (if (gI c 6) ≤ x1 then 56 else 25)) (lo2 := [some (.ref 40), some (.int x1)]) (st2 := []) rfl ?_
  refine Ok_if (fun h1 => ?_) (fun h1 => ?_)
  · refine Ok_blk 2 (pc2 := 60) (lo2 := [some (.ref 40), some (.int x1)]) (st2 := [.int (gI c 6)]) rfl ?_
    exact Ok_ret rfl rfl rfl
  · refine Ok_blk 5 (pc2 := 32) (lo2 := [some (.ref 40), some (.int x1)]) (st2 := [.int x1, .ref 41, .ref 40, .ref 40]) rfl ?_
    refine Ok_ld (l := (gA c 34)) rfl rfl (fun y2 hy2 => ?_)
    refine Ok_blk 1 (pc2 := 34) (lo2 := [some (.ref 40), some (.int x1)]) (st2 := [.int x1, .int y2, .ref 40, .ref 40]) rfl ?_
    refine Ok_call (y := 88) (as := [.ref 40, .int y2, .int x1]) (rest := [.ref 40]) (w := fun p3 => some (.int p3.1)) (h1 := fun p3 => HP p3.2 r) rfl rfl (fun x hx => tm_Texts_after N d xs c r y2 x1 x hx) (fun p3 hp3 => ?_)
    refine Ok_heap 1 (pc2 := 40) (lo2 := [some (.ref 40), some (.int x1)]) (st2 := []) (h2 := HP (sI p3.2 12 p3.1) r) rfl (st_40_12 _ _ _) ?_
    refine Ok_blk 4 (pc2 := (if ¬ (gI (sI p3.2 12 p3.1) 12) = (-1) then 50 else 48)) (lo2 := [some (.ref 40), some (.int x1)]) (st2 := []) rfl ?_
    refine Ok_if (fun h4 => ?_) (fun h4 => ?_)
    · refine Ok_blk 2 (pc2 := 17) (lo2 := [some (.ref 40), some (.int (x1 + 1))]) (st2 := []) rfl ?_
      refine Ok_drop (lo0 := [some (.ref 40), some (.int (x1 + 1))]) ⟨Or.inr rfl, Or.inr rfl, trivial⟩ ?_
      exact hb17 (sI p3.2 12 p3.1) (x1 + 1)
    · refine Ok_blk 1 (pc2 := 49) (lo2 := [some (.ref 40), some (.int x1)]) (st2 := [.int x1]) rfl ?_
      exact Ok_ret rfl rfl rfl
set_option maxHeartbeats 8000000 in
set_option maxRecDepth 100000 in
theorem t_Texts_scan_p17 (N d : Nat) (xs : List Int32) (r : St) : ∀ (n : Nat) (c : St) (x1 : Int32), Ok (mBig (mRoL xs) (d + 4)) (mRoL xs) 1 mK87 (fun p : Int32 × St => (some (.int p.1), HP p.2 r)) (Texts_scan_p17 N n c x1) 17 [some (.ref 40), some (.int x1)] [] (HP c r) := by
  intro n
  induction n with
  | zero => intro c x1; exact Ok_none
  | succ n ih => intro c x1; exact t_Texts_scan_p17b N d xs r (Texts_scan_p17 N n) ih c x1
set_option maxHeartbeats 8000000 in
set_option maxRecDepth 100000 in
theorem t_Texts_scan (N d : Nat) (xs : List Int32) (r : St) (c : St) : Ok (mBig (mRoL xs) (d + 4)) (mRoL xs) 1 mK87 (fun p : Int32 × St => (some (.int p.1), HP p.2 r)) (Texts_scan N c) 0 [some (.ref 40), none] [] (HP c r) := by
  unfold Texts_scan
  refine Ok_heap 3 (pc2 := 5) (lo2 := [some (.ref 40), none]) (st2 := []) (h2 := HP (sI c 12 0) r) rfl (st_40_12 _ _ _) ?_
  refine Ok_heap 3 (pc2 := 10) (lo2 := [some (.ref 40), none]) (st2 := []) (h2 := HP (sI (sI c 12 0) 13 0) r) rfl (st_40_13 _ _ _) ?_
  refine Ok_heap 3 (pc2 := 15) (lo2 := [some (.ref 40), none]) (st2 := []) (h2 := HP (sI (sI (sI c 12 0) 13 0) 14 (-1)) r) rfl (st_40_14 _ _ _) ?_
  refine Ok_blk 2 (pc2 := 17) (lo2 := [some (.ref 40), some (.int 0)]) (st2 := []) rfl ?_
  refine Ok_drop (lo0 := [some (.ref 40), some (.int 0)]) ⟨Or.inr rfl, Or.inr rfl, trivial⟩ ?_
  exact t_Texts_scan_p17 N d xs r N (sI (sI (sI c 12 0) 13 0) 14 (-1)) 0
set_option maxHeartbeats 8000000 in
set_option maxRecDepth 100000 in
theorem tm_Texts_scan (N d : Nat) (xs : List Int32) (c r : St) (p : Int32 × St) (hp : Texts_scan N c = some p) : mBig (mRoL xs) (d + 5) 87 [.ref 40] (HP c r) (some (.int p.1)) (HP p.2 r) 0 0 := mBig_of (by decide) rfl rfl rfl rfl (t_Texts_scan N d xs r c p hp)
/-! ColdHolds.fault()I, from (('r', 0),) -/
def C_fault (N : Nat) (c : St) : Option (Int32 × St) :=
  (Texts_scan N c).bind fun p1 => some (p1.1, p1.2)
set_option maxHeartbeats 8000000 in
set_option maxRecDepth 100000 in
theorem t_C_fault (N d : Nat) (xs : List Int32) (r : St) (c : St) : Ok (mBig (mRoL xs) (d + 5)) (mRoL xs) 1 mK124 (fun p : Int32 × St => (some (.int p.1), HP p.2 r)) (C_fault N c) 0 [some (.ref 0)] [] (HP c r) := by
  unfold C_fault
  refine Ok_blk 2 (pc2 := 4) (lo2 := [some (.ref 0)]) (st2 := [.ref 40]) rfl ?_
  refine Ok_call (y := 87) (as := [.ref 40]) (rest := []) (w := fun p1 => some (.int p1.1)) (h1 := fun p1 => HP p1.2 r) rfl rfl (fun x hx => tm_Texts_scan N d xs c r x hx) (fun p1 hp1 => ?_)
  exact Ok_ret rfl rfl rfl
set_option maxHeartbeats 8000000 in
set_option maxRecDepth 100000 in
theorem tm_C_fault (N d : Nat) (xs : List Int32) (c r : St) (p : Int32 × St) (hp : C_fault N c = some p) : mBig (mRoL xs) (d + 6) 124 [.ref 0] (HP c r) (some (.int p.1)) (HP p.2 r) 0 0 := mBig_of (by decide) rfl rfl rfl rfl (t_C_fault N d xs r c p hp)
/-! ColdHoldsModel.isMark(I)Z, from ('i',) -/
def R_isMark_p18 (N : Nat) : Option (Int32) :=
  some 1
def R_isMark (N : Nat) (x0 : Int32) : Option (Int32) :=
  (if x0 = 60 then R_isMark_p18 N else (if x0 = 61 then R_isMark_p18 N else (if ¬ x0 = 62 then some 0 else R_isMark_p18 N)))
set_option maxHeartbeats 8000000 in
set_option maxRecDepth 100000 in
theorem t_R_isMark_p18 (N d : Nat) (xs : List Int32) (c : St) (r : St) : Ok (mBig (mRoL xs) (d)) (mRoL xs) 2 mK193 (fun p : Int32 => (some (.int p), HP c r)) (R_isMark_p18 N) 18 [none] [] (HP c r) := by
  unfold R_isMark_p18
  refine Ok_blk 2 (pc2 := 23) (lo2 := [none]) (st2 := [.int 1]) rfl ?_
  exact Ok_rez (Or.inr rfl) rfl rfl
set_option maxHeartbeats 8000000 in
set_option maxRecDepth 100000 in
theorem t_R_isMark (N d : Nat) (xs : List Int32) (c : St) (r : St) (x0 : Int32) : Ok (mBig (mRoL xs) (d)) (mRoL xs) 2 mK193 (fun p : Int32 => (some (.int p), HP c r)) (R_isMark N x0) 0 [some (.int x0)] [] (HP c r) := by
  unfold R_isMark
  refine Ok_blk 3 (pc2 := (if x0 = 60 then 18 else 6)) (lo2 := [some (.int x0)]) (st2 := []) rfl ?_
  refine Ok_if (fun h1 => ?_) (fun h1 => ?_)
  · refine Ok_drop (lo0 := [none]) ⟨Or.inl rfl, trivial⟩ ?_
    exact t_R_isMark_p18 N d xs c r
  · refine Ok_blk 3 (pc2 := (if x0 = 61 then 18 else 12)) (lo2 := [some (.int x0)]) (st2 := []) rfl ?_
    refine Ok_if (fun h2 => ?_) (fun h2 => ?_)
    · refine Ok_drop (lo0 := [none]) ⟨Or.inl rfl, trivial⟩ ?_
      exact t_R_isMark_p18 N d xs c r
    · refine Ok_blk 3 (pc2 := (if ¬ x0 = 62 then 22 else 18)) (lo2 := [some (.int x0)]) (st2 := []) rfl ?_
      refine Ok_if (fun h3 => ?_) (fun h3 => ?_)
      · refine Ok_blk 1 (pc2 := 23) (lo2 := [some (.int x0)]) (st2 := [.int 0]) rfl ?_
        exact Ok_rez (Or.inl rfl) rfl rfl
      · refine Ok_drop (lo0 := [none]) ⟨Or.inl rfl, trivial⟩ ?_
        exact t_R_isMark_p18 N d xs c r
set_option maxHeartbeats 8000000 in
set_option maxRecDepth 100000 in
theorem tm_R_isMark (N d : Nat) (xs : List Int32) (c r : St) (a0 : Int32) (p : Int32) (hp : R_isMark N a0 = some p) : mBig (mRoL xs) (d + 1) 193 [.int a0] (HP c r) (some (.int p)) (HP c r) 0 0 := mBig_of (by decide) rfl rfl rfl rfl (t_R_isMark N d xs c r a0 p hp)
/-! ColdHoldsModel.readText()V, from (('r', 115),) -/
def R_readText_p334 (N : Nat) (r : St) (s1 : Int32) : Option (St) :=
  (gz s1).bind fun _ => some (sI r 31 s1)
def R_readText_p333 (N : Nat) (r : St) : Option (St) :=
  R_readText_p334 N r 0
def R_readText_p299 (N : Nat) (r : St) (x1 : Int32) (x2 : Int32) (x4 : Int32) (x5 : Int32) : Option (St) :=
  (if ¬ x5 = (gI (sI r 30 x5) 8) then R_readText_p333 N (sI r 30 x5) else (if x1 ≤ 2 then R_readText_p333 N (sI r 30 x5) else (if ¬ x2 = 0 then R_readText_p333 N (sI r 30 x5) else (if x4 = 0 then R_readText_p333 N (sI r 30 x5) else R_readText_p334 N (sI r 30 x5) 1))))
def R_readText_p293 (N : Nat) (kb15 : St → Int32 → Int32 → Int32 → Int32 → Int32 → Int32 → Option (St)) (r : St) (x1 : Int32) (x2 : Int32) (x3 : Int32) (x4 : Int32) (x6 : Int32) (s0 : Int32) (s1 : Int32) : Option (St) :=
  kb15 r x1 x2 x3 x4 (s0 + s1) x6
def R_readText_p281 (N : Nat) (kb15 : St → Int32 → Int32 → Int32 → Int32 → Int32 → Int32 → Option (St)) (r : St) (x1 : Int32) (x2 : Int32) (x3 : Int32) (x4 : Int32) (x5 : Int32) (x6 : Int32) : Option (St) :=
  (if x6 = 0 then R_readText_p293 N kb15 r x1 x2 x3 x4 x6 x5 0 else R_readText_p293 N kb15 r x1 x2 x3 x4 x6 x5 1)
def R_readText_p278 (N : Nat) (kb15 : St → Int32 → Int32 → Int32 → Int32 → Int32 → Int32 → Option (St)) (r : St) (x1 : Int32) (x2 : Int32) (x3 : Int32) (x4 : Int32) (x5 : Int32) : Option (St) :=
  R_readText_p281 N kb15 r x1 x2 x3 x4 x5 0
def R_readText_p248 (N : Nat) (kb15 : St → Int32 → Int32 → Int32 → Int32 → Int32 → Int32 → Option (St)) (r : St) (x1 : Int32) (x2 : Int32) (x3 : Int32) (x4 : Int32) (x5 : Int32) (x6 : Int32) (x7 : Int32) : Option (St) :=
  (if x1 ≤ 2 then R_readText_p278 N kb15 r x1 x2 x3 x4 x5 else (R_isMark N x7).bind fun p20 => (if p20 = 0 then R_readText_p278 N kb15 r x1 x2 x3 x4 x5 else (if ¬ x2 = 0 then R_readText_p278 N kb15 r x1 x2 x3 x4 x5 else (if ¬ x4 = 0 then R_readText_p278 N kb15 r x1 x2 x3 x4 x5 else R_readText_p281 N kb15 r 2 x2 x3 1 x5 x6))))
def R_readText_p224 (N : Nat) (kb15 : St → Int32 → Int32 → Int32 → Int32 → Int32 → Int32 → Option (St)) (r : St) (x1 : Int32) (x2 : Int32) (x3 : Int32) (x4 : Int32) (x5 : Int32) (x6 : Int32) (x7 : Int32) : Option (St) :=
  (if x1 ≤ 2 then R_readText_p248 N kb15 r x1 x2 x3 x4 x5 x6 x7 else (if ¬ x7 = 41 then R_readText_p248 N kb15 r x1 x2 x3 x4 x5 x6 x7 else (if x2 ≤ 0 then R_readText_p248 N kb15 r x1 x2 x3 x4 x5 x6 x7 else R_readText_p281 N kb15 r 3 (x2 + (-1)) x3 x4 x5 x6)))
def R_readText_p219 (N : Nat) (kb15 : St → Int32 → Int32 → Int32 → Int32 → Int32 → Int32 → Option (St)) (r : St) (x2 : Int32) (x3 : Int32) (x4 : Int32) (x5 : Int32) (x6 : Int32) : Option (St) :=
  R_readText_p281 N kb15 r 2 x2 x3 x4 x5 x6
def R_readText_p193 (N : Nat) (kb15 : St → Int32 → Int32 → Int32 → Int32 → Int32 → Int32 → Option (St)) (r : St) (x1 : Int32) (x2 : Int32) (x3 : Int32) (x4 : Int32) (x5 : Int32) (x6 : Int32) (x7 : Int32) : Option (St) :=
  (if x1 ≤ 2 then R_readText_p224 N kb15 r x1 x2 x3 x4 x5 x6 x7 else (if x7 = 43 then R_readText_p219 N kb15 r x2 x3 x4 x5 x6 else (if x7 = 45 then R_readText_p219 N kb15 r x2 x3 x4 x5 x6 else (if ¬ x7 = 42 then R_readText_p224 N kb15 r x1 x2 x3 x4 x5 x6 x7 else R_readText_p219 N kb15 r x2 x3 x4 x5 x6))))
def R_readText_p172 (N : Nat) (kb15 : St → Int32 → Int32 → Int32 → Int32 → Int32 → Int32 → Option (St)) (r : St) (x1 : Int32) (x2 : Int32) (x3 : Int32) (x4 : Int32) (x5 : Int32) (x6 : Int32) (x7 : Int32) (x8 : Int32) : Option (St) :=
  (if ¬ x1 = 4 then R_readText_p193 N kb15 r x1 x2 x3 x4 x5 x6 x7 else (if x8 = 0 then R_readText_p193 N kb15 r x1 x2 x3 x4 x5 x6 x7 else (if 3 ≤ x3 then R_readText_p193 N kb15 r x1 x2 x3 x4 x5 x6 x7 else R_readText_p281 N kb15 r x1 x2 (x3 + 1) x4 x5 x6)))
def R_readText_p155 (N : Nat) (kb15 : St → Int32 → Int32 → Int32 → Int32 → Int32 → Int32 → Option (St)) (r : St) (x1 : Int32) (x2 : Int32) (x3 : Int32) (x4 : Int32) (x5 : Int32) (x6 : Int32) (x7 : Int32) (x8 : Int32) : Option (St) :=
  (if ¬ x1 = 2 then R_readText_p172 N kb15 r x1 x2 x3 x4 x5 x6 x7 x8 else (if x8 = 0 then R_readText_p172 N kb15 r x1 x2 x3 x4 x5 x6 x7 x8 else R_readText_p281 N kb15 r 4 x2 1 x4 x5 x6))
def R_readText_p150 (N : Nat) (kb15 : St → Int32 → Int32 → Int32 → Int32 → Int32 → Int32 → Option (St)) (r : St) (x2 : Int32) (x3 : Int32) (x4 : Int32) (x5 : Int32) (x6 : Int32) : Option (St) :=
  R_readText_p281 N kb15 r 3 x2 x3 x4 x5 x6
def R_readText_p117 (N : Nat) (kb15 : St → Int32 → Int32 → Int32 → Int32 → Int32 → Int32 → Option (St)) (r : St) (x1 : Int32) (x2 : Int32) (x3 : Int32) (x4 : Int32) (x5 : Int32) (x6 : Int32) (x7 : Int32) (x8 : Int32) : Option (St) :=
  (if ¬ x1 = 2 then R_readText_p155 N kb15 r x1 x2 x3 x4 x5 x6 x7 x8 else (if x7 = 114 then R_readText_p150 N kb15 r x2 x3 x4 x5 x6 else (if x7 = 116 then R_readText_p150 N kb15 r x2 x3 x4 x5 x6 else (if x7 = 104 then R_readText_p150 N kb15 r x2 x3 x4 x5 x6 else (if ¬ x7 = 107 then R_readText_p155 N kb15 r x1 x2 x3 x4 x5 x6 x7 x8 else R_readText_p150 N kb15 r x2 x3 x4 x5 x6)))))
def R_readText_p99 (N : Nat) (kb15 : St → Int32 → Int32 → Int32 → Int32 → Int32 → Int32 → Option (St)) (r : St) (x1 : Int32) (x2 : Int32) (x3 : Int32) (x4 : Int32) (x5 : Int32) (x6 : Int32) (x7 : Int32) (x8 : Int32) : Option (St) :=
  (if ¬ x1 = 2 then R_readText_p117 N kb15 r x1 x2 x3 x4 x5 x6 x7 x8 else (if ¬ x7 = 40 then R_readText_p117 N kb15 r x1 x2 x3 x4 x5 x6 x7 x8 else R_readText_p281 N kb15 r x1 (x2 + 1) x3 x4 x5 x6))
def R_readText_p82 (N : Nat) (kb15 : St → Int32 → Int32 → Int32 → Int32 → Int32 → Int32 → Option (St)) (r : St) (x1 : Int32) (x2 : Int32) (x3 : Int32) (x4 : Int32) (x5 : Int32) (x6 : Int32) (x7 : Int32) (x8 : Int32) : Option (St) :=
  (if ¬ x1 = 1 then R_readText_p99 N kb15 r x1 x2 x3 x4 x5 x6 x7 x8 else (if ¬ x7 = 58 then R_readText_p99 N kb15 r x1 x2 x3 x4 x5 x6 x7 x8 else R_readText_p281 N kb15 r 2 x2 x3 x4 x5 x6))
def R_readText_p77 (N : Nat) (kb15 : St → Int32 → Int32 → Int32 → Int32 → Int32 → Int32 → Option (St)) (r : St) (x2 : Int32) (x3 : Int32) (x4 : Int32) (x5 : Int32) (x6 : Int32) : Option (St) :=
  R_readText_p281 N kb15 r 1 x2 x3 x4 x5 x6
def R_readText_p15b (N : Nat) (kb15 : St → Int32 → Int32 → Int32 → Int32 → Int32 → Int32 → Option (St)) (r : St) (x1 : Int32) (x2 : Int32) (x3 : Int32) (x4 : Int32) (x5 : Int32) (x6 : Int32) : Option (St) :=
  (if (gI r 8) ≤ x5 then R_readText_p299 N r x1 x2 x4 x5 else (if x6 = 0 then R_readText_p299 N r x1 x2 x4 x5 else (ld (gA r 10) x5).bind fun y8 => (R_in N y8 48 57).bind fun p9 => (if ¬ x1 = 0 then R_readText_p82 N kb15 r x1 x2 x3 x4 x5 1 y8 p9 else (if y8 = 87 then R_readText_p77 N kb15 r x2 x3 x4 x5 1 else (if y8 = 83 then R_readText_p77 N kb15 r x2 x3 x4 x5 1 else (if ¬ y8 = 67 then R_readText_p82 N kb15 r x1 x2 x3 x4 x5 1 y8 p9 else R_readText_p77 N kb15 r x2 x3 x4 x5 1))))))
def R_readText_p15 (N : Nat) : Nat → St → Int32 → Int32 → Int32 → Int32 → Int32 → Int32 → Option (St)
  | 0 => fun _ _ _ _ _ _ _ => none
  | n + 1 => R_readText_p15b N (R_readText_p15 N n)
def R_readText (N : Nat) (r : St) : Option (St) :=
  R_readText_p15 N N r 0 0 0 0 0 1
set_option maxHeartbeats 8000000 in
set_option maxRecDepth 100000 in
theorem t_R_readText_p334 (N d : Nat) (xs : List Int32) (c : St) (r : St) (s1 : Int32) : Ok (mBig (mRoL xs) (d + 1)) (mRoL xs) 0 mK194 (fun p : St => (none, HP c p)) (R_readText_p334 N r s1) 334 [none, none, none, none, none, none, none, none, none] [.int s1, .ref 115] (HP c r) := by
  unfold R_readText_p334
  refine Ok_gz (fun hz3 => ?_)
  refine Ok_putz (h2 := HP c (sI r 31 s1)) hz3 rfl rfl rfl (st_115_63 _ _ _) ?_
  exact Ok_ret rfl rfl rfl
set_option maxHeartbeats 8000000 in
set_option maxRecDepth 100000 in
theorem t_R_readText_p333 (N d : Nat) (xs : List Int32) (c : St) (r : St) : Ok (mBig (mRoL xs) (d + 1)) (mRoL xs) 0 mK194 (fun p : St => (none, HP c p)) (R_readText_p333 N r) 333 [none, none, none, none, none, none, none, none, none] [.ref 115] (HP c r) := by
  unfold R_readText_p333
  refine Ok_blk 1 (pc2 := 334) (lo2 := [none, none, none, none, none, none, none, none, none]) (st2 := [.int 0, .ref 115]) rfl ?_
  refine Ok_drop (lo0 := [none, none, none, none, none, none, none, none, none]) ⟨Or.inl rfl, Or.inl rfl, Or.inl rfl, Or.inl rfl, Or.inl rfl, Or.inl rfl, Or.inl rfl, Or.inl rfl, Or.inl rfl, trivial⟩ ?_
  exact t_R_readText_p334 N d xs c r 0
set_option maxHeartbeats 8000000 in
set_option maxRecDepth 100000 in
theorem t_R_readText_p299 (N d : Nat) (xs : List Int32) (c : St) (r : St) (x1 : Int32) (x2 : Int32) (x4 : Int32) (x5 : Int32) : Ok (mBig (mRoL xs) (d + 1)) (mRoL xs) 0 mK194 (fun p : St => (none, HP c p)) (R_readText_p299 N r x1 x2 x4 x5) 299 [some (.ref 115), some (.int x1), some (.int x2), none, some (.int x4), some (.int x5), none, none, none] [] (HP c r) := by
  unfold R_readText_p299
  refine Ok_heap 3 (pc2 := 305) (lo2 := [some (.ref 115), some (.int x1), some (.int x2), none, some (.int x4), some (.int x5), none, none, none]) (st2 := []) (h2 := HP c (sI r 30 x5)) rfl (st_115_62 _ _ _) ?_
  refine Ok_blk 5 (pc2 := (if ¬ x5 = (gI (sI r 30 x5) 8) then 333 else 315)) (lo2 := [some (.ref 115), some (.int x1), some (.int x2), none, some (.int x4), some (.int x5), none, none, none]) (st2 := [.ref 115]) rfl ?_
  refine Ok_if (fun h2 => ?_) (fun h2 => ?_)
  · refine Ok_drop (lo0 := [none, none, none, none, none, none, none, none, none]) ⟨Or.inl rfl, Or.inl rfl, Or.inl rfl, Or.inl rfl, Or.inl rfl, Or.inl rfl, Or.inl rfl, Or.inl rfl, Or.inl rfl, trivial⟩ ?_
    exact t_R_readText_p333 N d xs c (sI r 30 x5)
  · refine Ok_blk 3 (pc2 := (if x1 ≤ 2 then 333 else 320)) (lo2 := [some (.ref 115), some (.int x1), some (.int x2), none, some (.int x4), some (.int x5), none, none, none]) (st2 := [.ref 115]) rfl ?_
    refine Ok_if (fun h4 => ?_) (fun h4 => ?_)
    · refine Ok_drop (lo0 := [none, none, none, none, none, none, none, none, none]) ⟨Or.inl rfl, Or.inl rfl, Or.inl rfl, Or.inl rfl, Or.inl rfl, Or.inl rfl, Or.inl rfl, Or.inl rfl, Or.inl rfl, trivial⟩ ?_
      exact t_R_readText_p333 N d xs c (sI r 30 x5)
    · refine Ok_blk 2 (pc2 := (if ¬ x2 = 0 then 333 else 324)) (lo2 := [some (.ref 115), some (.int x1), some (.int x2), none, some (.int x4), some (.int x5), none, none, none]) (st2 := [.ref 115]) rfl ?_
      refine Ok_if (fun h5 => ?_) (fun h5 => ?_)
      · refine Ok_drop (lo0 := [none, none, none, none, none, none, none, none, none]) ⟨Or.inl rfl, Or.inl rfl, Or.inl rfl, Or.inl rfl, Or.inl rfl, Or.inl rfl, Or.inl rfl, Or.inl rfl, Or.inl rfl, trivial⟩ ?_
        exact t_R_readText_p333 N d xs c (sI r 30 x5)
      · refine Ok_blk 2 (pc2 := (if x4 = 0 then 333 else 329)) (lo2 := [some (.ref 115), some (.int x1), some (.int x2), none, some (.int x4), some (.int x5), none, none, none]) (st2 := [.ref 115]) rfl ?_
        refine Ok_if (fun h6 => ?_) (fun h6 => ?_)
        · refine Ok_drop (lo0 := [none, none, none, none, none, none, none, none, none]) ⟨Or.inl rfl, Or.inl rfl, Or.inl rfl, Or.inl rfl, Or.inl rfl, Or.inl rfl, Or.inl rfl, Or.inl rfl, Or.inl rfl, trivial⟩ ?_
          exact t_R_readText_p333 N d xs c (sI r 30 x5)
        · refine Ok_blk 2 (pc2 := 334) (lo2 := [some (.ref 115), some (.int x1), some (.int x2), none, some (.int x4), some (.int x5), none, none, none]) (st2 := [.int 1, .ref 115]) rfl ?_
          refine Ok_drop (lo0 := [none, none, none, none, none, none, none, none, none]) ⟨Or.inl rfl, Or.inl rfl, Or.inl rfl, Or.inl rfl, Or.inl rfl, Or.inl rfl, Or.inl rfl, Or.inl rfl, Or.inl rfl, trivial⟩ ?_
          exact t_R_readText_p334 N d xs c (sI r 30 x5) 1
set_option maxHeartbeats 8000000 in
set_option maxRecDepth 100000 in
theorem t_R_readText_p293 (N d : Nat) (xs : List Int32) (c : St) (kb15 : St → Int32 → Int32 → Int32 → Int32 → Int32 → Int32 → Option (St)) (hb15 : ∀ (r : St) (x1 : Int32) (x2 : Int32) (x3 : Int32) (x4 : Int32) (x5 : Int32) (x6 : Int32), Ok (mBig (mRoL xs) (d + 1)) (mRoL xs) 0 mK194 (fun p : St => (none, HP c p)) (kb15 r x1 x2 x3 x4 x5 x6) 15 [some (.ref 115), some (.int x1), some (.int x2), some (.int x3), some (.int x4), some (.int x5), some (.int x6), none, none] [] (HP c r)) (r : St) (x1 : Int32) (x2 : Int32) (x3 : Int32) (x4 : Int32) (x6 : Int32) (s0 : Int32) (s1 : Int32) : Ok (mBig (mRoL xs) (d + 1)) (mRoL xs) 0 mK194 (fun p : St => (none, HP c p)) (R_readText_p293 N kb15 r x1 x2 x3 x4 x6 s0 s1) 293 [some (.ref 115), some (.int x1), some (.int x2), some (.int x3), some (.int x4), none, some (.int x6), none, none] [.int s1, .int s0] (HP c r) := by
  unfold R_readText_p293
  refine Ok_blk 3 (pc2 := 15) (lo2 := [some (.ref 115), some (.int x1), some (.int x2), some (.int x3), some (.int x4), some (.int (s0 + s1)), some (.int x6), none, none]) (st2 := []) rfl ?_
  refine Ok_drop (lo0 := [some (.ref 115), some (.int x1), some (.int x2), some (.int x3), some (.int x4), some (.int (s0 + s1)), some (.int x6), none, none]) ⟨Or.inr rfl, Or.inr rfl, Or.inr rfl, Or.inr rfl, Or.inr rfl, Or.inr rfl, Or.inr rfl, Or.inl rfl, Or.inl rfl, trivial⟩ ?_
  exact hb15 r x1 x2 x3 x4 (s0 + s1) x6
set_option maxHeartbeats 8000000 in
set_option maxRecDepth 100000 in
theorem t_R_readText_p281 (N d : Nat) (xs : List Int32) (c : St) (kb15 : St → Int32 → Int32 → Int32 → Int32 → Int32 → Int32 → Option (St)) (hb15 : ∀ (r : St) (x1 : Int32) (x2 : Int32) (x3 : Int32) (x4 : Int32) (x5 : Int32) (x6 : Int32), Ok (mBig (mRoL xs) (d + 1)) (mRoL xs) 0 mK194 (fun p : St => (none, HP c p)) (kb15 r x1 x2 x3 x4 x5 x6) 15 [some (.ref 115), some (.int x1), some (.int x2), some (.int x3), some (.int x4), some (.int x5), some (.int x6), none, none] [] (HP c r)) (r : St) (x1 : Int32) (x2 : Int32) (x3 : Int32) (x4 : Int32) (x5 : Int32) (x6 : Int32) : Ok (mBig (mRoL xs) (d + 1)) (mRoL xs) 0 mK194 (fun p : St => (none, HP c p)) (R_readText_p281 N kb15 r x1 x2 x3 x4 x5 x6) 281 [some (.ref 115), some (.int x1), some (.int x2), some (.int x3), some (.int x4), some (.int x5), some (.int x6), none, none] [] (HP c r) := by
  unfold R_readText_p281
  refine Ok_blk 3 (pc2 := (if x6 = 0 then 292 else 288)) (lo2 := [some (.ref 115), some (.int x1), some (.int x2), some (.int x3), some (.int x4), some (.int x5), some (.int x6), none, none]) (st2 := [.int x5]) rfl ?_
  refine Ok_if (fun h19 => ?_) (fun h19 => ?_)
  · refine Ok_blk 1 (pc2 := 293) (lo2 := [some (.ref 115), some (.int x1), some (.int x2), some (.int x3), some (.int x4), some (.int x5), some (.int x6), none, none]) (st2 := [.int 0, .int x5]) rfl ?_
    refine Ok_drop (lo0 := [some (.ref 115), some (.int x1), some (.int x2), some (.int x3), some (.int x4), none, some (.int x6), none, none]) ⟨Or.inr rfl, Or.inr rfl, Or.inr rfl, Or.inr rfl, Or.inr rfl, Or.inl rfl, Or.inr rfl, Or.inl rfl, Or.inl rfl, trivial⟩ ?_
    exact t_R_readText_p293 N d xs c kb15 hb15 r x1 x2 x3 x4 x6 x5 0
  · refine Ok_blk 2 (pc2 := 293) (lo2 := [some (.ref 115), some (.int x1), some (.int x2), some (.int x3), some (.int x4), some (.int x5), some (.int x6), none, none]) (st2 := [.int 1, .int x5]) rfl ?_
    refine Ok_drop (lo0 := [some (.ref 115), some (.int x1), some (.int x2), some (.int x3), some (.int x4), none, some (.int x6), none, none]) ⟨Or.inr rfl, Or.inr rfl, Or.inr rfl, Or.inr rfl, Or.inr rfl, Or.inl rfl, Or.inr rfl, Or.inl rfl, Or.inl rfl, trivial⟩ ?_
    exact t_R_readText_p293 N d xs c kb15 hb15 r x1 x2 x3 x4 x6 x5 1
set_option maxHeartbeats 8000000 in
set_option maxRecDepth 100000 in
theorem t_R_readText_p278 (N d : Nat) (xs : List Int32) (c : St) (kb15 : St → Int32 → Int32 → Int32 → Int32 → Int32 → Int32 → Option (St)) (hb15 : ∀ (r : St) (x1 : Int32) (x2 : Int32) (x3 : Int32) (x4 : Int32) (x5 : Int32) (x6 : Int32), Ok (mBig (mRoL xs) (d + 1)) (mRoL xs) 0 mK194 (fun p : St => (none, HP c p)) (kb15 r x1 x2 x3 x4 x5 x6) 15 [some (.ref 115), some (.int x1), some (.int x2), some (.int x3), some (.int x4), some (.int x5), some (.int x6), none, none] [] (HP c r)) (r : St) (x1 : Int32) (x2 : Int32) (x3 : Int32) (x4 : Int32) (x5 : Int32) : Ok (mBig (mRoL xs) (d + 1)) (mRoL xs) 0 mK194 (fun p : St => (none, HP c p)) (R_readText_p278 N kb15 r x1 x2 x3 x4 x5) 278 [some (.ref 115), some (.int x1), some (.int x2), some (.int x3), some (.int x4), some (.int x5), none, none, none] [] (HP c r) := by
  unfold R_readText_p278
  refine Ok_blk 2 (pc2 := 281) (lo2 := [some (.ref 115), some (.int x1), some (.int x2), some (.int x3), some (.int x4), some (.int x5), some (.int 0), none, none]) (st2 := []) rfl ?_
  refine Ok_drop (lo0 := [some (.ref 115), some (.int x1), some (.int x2), some (.int x3), some (.int x4), some (.int x5), some (.int 0), none, none]) ⟨Or.inr rfl, Or.inr rfl, Or.inr rfl, Or.inr rfl, Or.inr rfl, Or.inr rfl, Or.inr rfl, Or.inl rfl, Or.inl rfl, trivial⟩ ?_
  exact t_R_readText_p281 N d xs c kb15 hb15 r x1 x2 x3 x4 x5 0
set_option maxHeartbeats 8000000 in
set_option maxRecDepth 100000 in
theorem t_R_readText_p248 (N d : Nat) (xs : List Int32) (c : St) (kb15 : St → Int32 → Int32 → Int32 → Int32 → Int32 → Int32 → Option (St)) (hb15 : ∀ (r : St) (x1 : Int32) (x2 : Int32) (x3 : Int32) (x4 : Int32) (x5 : Int32) (x6 : Int32), Ok (mBig (mRoL xs) (d + 1)) (mRoL xs) 0 mK194 (fun p : St => (none, HP c p)) (kb15 r x1 x2 x3 x4 x5 x6) 15 [some (.ref 115), some (.int x1), some (.int x2), some (.int x3), some (.int x4), some (.int x5), some (.int x6), none, none] [] (HP c r)) (r : St) (x1 : Int32) (x2 : Int32) (x3 : Int32) (x4 : Int32) (x5 : Int32) (x6 : Int32) (x7 : Int32) : Ok (mBig (mRoL xs) (d + 1)) (mRoL xs) 0 mK194 (fun p : St => (none, HP c p)) (R_readText_p248 N kb15 r x1 x2 x3 x4 x5 x6 x7) 248 [some (.ref 115), some (.int x1), some (.int x2), some (.int x3), some (.int x4), some (.int x5), some (.int x6), some (.int x7), none] [] (HP c r) := by
  unfold R_readText_p248
  refine Ok_blk 3 (pc2 := (if x1 ≤ 2 then 278 else 253)) (lo2 := [some (.ref 115), some (.int x1), some (.int x2), some (.int x3), some (.int x4), some (.int x5), some (.int x6), some (.int x7), none]) (st2 := []) rfl ?_
  refine Ok_if (fun h18 => ?_) (fun h18 => ?_)
  · refine Ok_drop (lo0 := [some (.ref 115), some (.int x1), some (.int x2), some (.int x3), some (.int x4), some (.int x5), none, none, none]) ⟨Or.inr rfl, Or.inr rfl, Or.inr rfl, Or.inr rfl, Or.inr rfl, Or.inr rfl, Or.inl rfl, Or.inl rfl, Or.inl rfl, trivial⟩ ?_
    exact t_R_readText_p278 N d xs c kb15 hb15 r x1 x2 x3 x4 x5
  · refine Ok_blk 1 (pc2 := 255) (lo2 := [some (.ref 115), some (.int x1), some (.int x2), some (.int x3), some (.int x4), some (.int x5), some (.int x6), some (.int x7), none]) (st2 := [.int x7]) rfl ?_
    refine Ok_call (y := 193) (as := [.int x7]) (rest := []) (w := fun p20 => some (.int p20)) (h1 := fun p20 => HP c r) rfl rfl (fun x hx => tm_R_isMark N d xs c r x7 x hx) (fun p20 hp20 => ?_)
    refine Ok_blk 1 (pc2 := (if p20 = 0 then 278 else 261)) (lo2 := [some (.ref 115), some (.int x1), some (.int x2), some (.int x3), some (.int x4), some (.int x5), some (.int x6), some (.int x7), none]) (st2 := []) rfl ?_
    refine Ok_if (fun h21 => ?_) (fun h21 => ?_)
    · refine Ok_drop (lo0 := [some (.ref 115), some (.int x1), some (.int x2), some (.int x3), some (.int x4), some (.int x5), none, none, none]) ⟨Or.inr rfl, Or.inr rfl, Or.inr rfl, Or.inr rfl, Or.inr rfl, Or.inr rfl, Or.inl rfl, Or.inl rfl, Or.inl rfl, trivial⟩ ?_
      exact t_R_readText_p278 N d xs c kb15 hb15 r x1 x2 x3 x4 x5
    · refine Ok_blk 2 (pc2 := (if ¬ x2 = 0 then 278 else 265)) (lo2 := [some (.ref 115), some (.int x1), some (.int x2), some (.int x3), some (.int x4), some (.int x5), some (.int x6), some (.int x7), none]) (st2 := []) rfl ?_
      refine Ok_if (fun h22 => ?_) (fun h22 => ?_)
      · refine Ok_drop (lo0 := [some (.ref 115), some (.int x1), some (.int x2), some (.int x3), some (.int x4), some (.int x5), none, none, none]) ⟨Or.inr rfl, Or.inr rfl, Or.inr rfl, Or.inr rfl, Or.inr rfl, Or.inr rfl, Or.inl rfl, Or.inl rfl, Or.inl rfl, trivial⟩ ?_
        exact t_R_readText_p278 N d xs c kb15 hb15 r x1 x2 x3 x4 x5
      · refine Ok_blk 2 (pc2 := (if ¬ x4 = 0 then 278 else 270)) (lo2 := [some (.ref 115), some (.int x1), some (.int x2), some (.int x3), some (.int x4), some (.int x5), some (.int x6), some (.int x7), none]) (st2 := []) rfl ?_
        refine Ok_if (fun h23 => ?_) (fun h23 => ?_)
        · refine Ok_drop (lo0 := [some (.ref 115), some (.int x1), some (.int x2), some (.int x3), some (.int x4), some (.int x5), none, none, none]) ⟨Or.inr rfl, Or.inr rfl, Or.inr rfl, Or.inr rfl, Or.inr rfl, Or.inr rfl, Or.inl rfl, Or.inl rfl, Or.inl rfl, trivial⟩ ?_
          exact t_R_readText_p278 N d xs c kb15 hb15 r x1 x2 x3 x4 x5
        · refine Ok_blk 5 (pc2 := 281) (lo2 := [some (.ref 115), some (.int 2), some (.int x2), some (.int x3), some (.int 1), some (.int x5), some (.int x6), some (.int x7), none]) (st2 := []) rfl ?_
          refine Ok_drop (lo0 := [some (.ref 115), some (.int 2), some (.int x2), some (.int x3), some (.int 1), some (.int x5), some (.int x6), none, none]) ⟨Or.inr rfl, Or.inr rfl, Or.inr rfl, Or.inr rfl, Or.inr rfl, Or.inr rfl, Or.inr rfl, Or.inl rfl, Or.inl rfl, trivial⟩ ?_
          exact t_R_readText_p281 N d xs c kb15 hb15 r 2 x2 x3 1 x5 x6
set_option maxHeartbeats 8000000 in
set_option maxRecDepth 100000 in
theorem t_R_readText_p224 (N d : Nat) (xs : List Int32) (c : St) (kb15 : St → Int32 → Int32 → Int32 → Int32 → Int32 → Int32 → Option (St)) (hb15 : ∀ (r : St) (x1 : Int32) (x2 : Int32) (x3 : Int32) (x4 : Int32) (x5 : Int32) (x6 : Int32), Ok (mBig (mRoL xs) (d + 1)) (mRoL xs) 0 mK194 (fun p : St => (none, HP c p)) (kb15 r x1 x2 x3 x4 x5 x6) 15 [some (.ref 115), some (.int x1), some (.int x2), some (.int x3), some (.int x4), some (.int x5), some (.int x6), none, none] [] (HP c r)) (r : St) (x1 : Int32) (x2 : Int32) (x3 : Int32) (x4 : Int32) (x5 : Int32) (x6 : Int32) (x7 : Int32) : Ok (mBig (mRoL xs) (d + 1)) (mRoL xs) 0 mK194 (fun p : St => (none, HP c p)) (R_readText_p224 N kb15 r x1 x2 x3 x4 x5 x6 x7) 224 [some (.ref 115), some (.int x1), some (.int x2), some (.int x3), some (.int x4), some (.int x5), some (.int x6), some (.int x7), none] [] (HP c r) := by
  unfold R_readText_p224
  refine Ok_blk 3 (pc2 := (if x1 ≤ 2 then 248 else 229)) (lo2 := [some (.ref 115), some (.int x1), some (.int x2), some (.int x3), some (.int x4), some (.int x5), some (.int x6), some (.int x7), none]) (st2 := []) rfl ?_
  refine Ok_if (fun h17 => ?_) (fun h17 => ?_)
  · refine Ok_drop (lo0 := [some (.ref 115), some (.int x1), some (.int x2), some (.int x3), some (.int x4), some (.int x5), some (.int x6), some (.int x7), none]) ⟨Or.inr rfl, Or.inr rfl, Or.inr rfl, Or.inr rfl, Or.inr rfl, Or.inr rfl, Or.inr rfl, Or.inr rfl, Or.inl rfl, trivial⟩ ?_
    exact t_R_readText_p248 N d xs c kb15 hb15 r x1 x2 x3 x4 x5 x6 x7
  · refine Ok_blk 3 (pc2 := (if ¬ x7 = 41 then 248 else 236)) (lo2 := [some (.ref 115), some (.int x1), some (.int x2), some (.int x3), some (.int x4), some (.int x5), some (.int x6), some (.int x7), none]) (st2 := []) rfl ?_
    refine Ok_if (fun h24 => ?_) (fun h24 => ?_)
    · refine Ok_drop (lo0 := [some (.ref 115), some (.int x1), some (.int x2), some (.int x3), some (.int x4), some (.int x5), some (.int x6), some (.int x7), none]) ⟨Or.inr rfl, Or.inr rfl, Or.inr rfl, Or.inr rfl, Or.inr rfl, Or.inr rfl, Or.inr rfl, Or.inr rfl, Or.inl rfl, trivial⟩ ?_
      exact t_R_readText_p248 N d xs c kb15 hb15 r x1 x2 x3 x4 x5 x6 x7
    · refine Ok_blk 2 (pc2 := (if x2 ≤ 0 then 248 else 240)) (lo2 := [some (.ref 115), some (.int x1), some (.int x2), some (.int x3), some (.int x4), some (.int x5), some (.int x6), some (.int x7), none]) (st2 := []) rfl ?_
      refine Ok_if (fun h25 => ?_) (fun h25 => ?_)
      · refine Ok_drop (lo0 := [some (.ref 115), some (.int x1), some (.int x2), some (.int x3), some (.int x4), some (.int x5), some (.int x6), some (.int x7), none]) ⟨Or.inr rfl, Or.inr rfl, Or.inr rfl, Or.inr rfl, Or.inr rfl, Or.inr rfl, Or.inr rfl, Or.inr rfl, Or.inl rfl, trivial⟩ ?_
        exact t_R_readText_p248 N d xs c kb15 hb15 r x1 x2 x3 x4 x5 x6 x7
      · refine Ok_blk 4 (pc2 := 281) (lo2 := [some (.ref 115), some (.int 3), some (.int (x2 + (-1))), some (.int x3), some (.int x4), some (.int x5), some (.int x6), some (.int x7), none]) (st2 := []) rfl ?_
        refine Ok_drop (lo0 := [some (.ref 115), some (.int 3), some (.int (x2 + (-1))), some (.int x3), some (.int x4), some (.int x5), some (.int x6), none, none]) ⟨Or.inr rfl, Or.inr rfl, Or.inr rfl, Or.inr rfl, Or.inr rfl, Or.inr rfl, Or.inr rfl, Or.inl rfl, Or.inl rfl, trivial⟩ ?_
        exact t_R_readText_p281 N d xs c kb15 hb15 r 3 (x2 + (-1)) x3 x4 x5 x6
set_option maxHeartbeats 8000000 in
set_option maxRecDepth 100000 in
theorem t_R_readText_p219 (N d : Nat) (xs : List Int32) (c : St) (kb15 : St → Int32 → Int32 → Int32 → Int32 → Int32 → Int32 → Option (St)) (hb15 : ∀ (r : St) (x1 : Int32) (x2 : Int32) (x3 : Int32) (x4 : Int32) (x5 : Int32) (x6 : Int32), Ok (mBig (mRoL xs) (d + 1)) (mRoL xs) 0 mK194 (fun p : St => (none, HP c p)) (kb15 r x1 x2 x3 x4 x5 x6) 15 [some (.ref 115), some (.int x1), some (.int x2), some (.int x3), some (.int x4), some (.int x5), some (.int x6), none, none] [] (HP c r)) (r : St) (x2 : Int32) (x3 : Int32) (x4 : Int32) (x5 : Int32) (x6 : Int32) : Ok (mBig (mRoL xs) (d + 1)) (mRoL xs) 0 mK194 (fun p : St => (none, HP c p)) (R_readText_p219 N kb15 r x2 x3 x4 x5 x6) 219 [some (.ref 115), none, some (.int x2), some (.int x3), some (.int x4), some (.int x5), some (.int x6), none, none] [] (HP c r) := by
  unfold R_readText_p219
  refine Ok_blk 3 (pc2 := 281) (lo2 := [some (.ref 115), some (.int 2), some (.int x2), some (.int x3), some (.int x4), some (.int x5), some (.int x6), none, none]) (st2 := []) rfl ?_
  refine Ok_drop (lo0 := [some (.ref 115), some (.int 2), some (.int x2), some (.int x3), some (.int x4), some (.int x5), some (.int x6), none, none]) ⟨Or.inr rfl, Or.inr rfl, Or.inr rfl, Or.inr rfl, Or.inr rfl, Or.inr rfl, Or.inr rfl, Or.inl rfl, Or.inl rfl, trivial⟩ ?_
  exact t_R_readText_p281 N d xs c kb15 hb15 r 2 x2 x3 x4 x5 x6
set_option maxHeartbeats 8000000 in
set_option maxRecDepth 100000 in
theorem t_R_readText_p193 (N d : Nat) (xs : List Int32) (c : St) (kb15 : St → Int32 → Int32 → Int32 → Int32 → Int32 → Int32 → Option (St)) (hb15 : ∀ (r : St) (x1 : Int32) (x2 : Int32) (x3 : Int32) (x4 : Int32) (x5 : Int32) (x6 : Int32), Ok (mBig (mRoL xs) (d + 1)) (mRoL xs) 0 mK194 (fun p : St => (none, HP c p)) (kb15 r x1 x2 x3 x4 x5 x6) 15 [some (.ref 115), some (.int x1), some (.int x2), some (.int x3), some (.int x4), some (.int x5), some (.int x6), none, none] [] (HP c r)) (r : St) (x1 : Int32) (x2 : Int32) (x3 : Int32) (x4 : Int32) (x5 : Int32) (x6 : Int32) (x7 : Int32) : Ok (mBig (mRoL xs) (d + 1)) (mRoL xs) 0 mK194 (fun p : St => (none, HP c p)) (R_readText_p193 N kb15 r x1 x2 x3 x4 x5 x6 x7) 193 [some (.ref 115), some (.int x1), some (.int x2), some (.int x3), some (.int x4), some (.int x5), some (.int x6), some (.int x7), none] [] (HP c r) := by
  unfold R_readText_p193
  refine Ok_blk 3 (pc2 := (if x1 ≤ 2 then 224 else 198)) (lo2 := [some (.ref 115), some (.int x1), some (.int x2), some (.int x3), some (.int x4), some (.int x5), some (.int x6), some (.int x7), none]) (st2 := []) rfl ?_
  refine Ok_if (fun h16 => ?_) (fun h16 => ?_)
  · refine Ok_drop (lo0 := [some (.ref 115), some (.int x1), some (.int x2), some (.int x3), some (.int x4), some (.int x5), some (.int x6), some (.int x7), none]) ⟨Or.inr rfl, Or.inr rfl, Or.inr rfl, Or.inr rfl, Or.inr rfl, Or.inr rfl, Or.inr rfl, Or.inr rfl, Or.inl rfl, trivial⟩ ?_
    exact t_R_readText_p224 N d xs c kb15 hb15 r x1 x2 x3 x4 x5 x6 x7
  · refine Ok_blk 3 (pc2 := (if x7 = 43 then 219 else 205)) (lo2 := [some (.ref 115), some (.int x1), some (.int x2), some (.int x3), some (.int x4), some (.int x5), some (.int x6), some (.int x7), none]) (st2 := []) rfl ?_
    refine Ok_if (fun h26 => ?_) (fun h26 => ?_)
    · refine Ok_drop (lo0 := [some (.ref 115), none, some (.int x2), some (.int x3), some (.int x4), some (.int x5), some (.int x6), none, none]) ⟨Or.inr rfl, Or.inl rfl, Or.inr rfl, Or.inr rfl, Or.inr rfl, Or.inr rfl, Or.inr rfl, Or.inl rfl, Or.inl rfl, trivial⟩ ?_
      exact t_R_readText_p219 N d xs c kb15 hb15 r x2 x3 x4 x5 x6
    · refine Ok_blk 3 (pc2 := (if x7 = 45 then 219 else 212)) (lo2 := [some (.ref 115), some (.int x1), some (.int x2), some (.int x3), some (.int x4), some (.int x5), some (.int x6), some (.int x7), none]) (st2 := []) rfl ?_
      refine Ok_if (fun h27 => ?_) (fun h27 => ?_)
      · refine Ok_drop (lo0 := [some (.ref 115), none, some (.int x2), some (.int x3), some (.int x4), some (.int x5), some (.int x6), none, none]) ⟨Or.inr rfl, Or.inl rfl, Or.inr rfl, Or.inr rfl, Or.inr rfl, Or.inr rfl, Or.inr rfl, Or.inl rfl, Or.inl rfl, trivial⟩ ?_
        exact t_R_readText_p219 N d xs c kb15 hb15 r x2 x3 x4 x5 x6
      · refine Ok_blk 3 (pc2 := (if ¬ x7 = 42 then 224 else 219)) (lo2 := [some (.ref 115), some (.int x1), some (.int x2), some (.int x3), some (.int x4), some (.int x5), some (.int x6), some (.int x7), none]) (st2 := []) rfl ?_
        refine Ok_if (fun h28 => ?_) (fun h28 => ?_)
        · refine Ok_drop (lo0 := [some (.ref 115), some (.int x1), some (.int x2), some (.int x3), some (.int x4), some (.int x5), some (.int x6), some (.int x7), none]) ⟨Or.inr rfl, Or.inr rfl, Or.inr rfl, Or.inr rfl, Or.inr rfl, Or.inr rfl, Or.inr rfl, Or.inr rfl, Or.inl rfl, trivial⟩ ?_
          exact t_R_readText_p224 N d xs c kb15 hb15 r x1 x2 x3 x4 x5 x6 x7
        · refine Ok_drop (lo0 := [some (.ref 115), none, some (.int x2), some (.int x3), some (.int x4), some (.int x5), some (.int x6), none, none]) ⟨Or.inr rfl, Or.inl rfl, Or.inr rfl, Or.inr rfl, Or.inr rfl, Or.inr rfl, Or.inr rfl, Or.inl rfl, Or.inl rfl, trivial⟩ ?_
          exact t_R_readText_p219 N d xs c kb15 hb15 r x2 x3 x4 x5 x6
set_option maxHeartbeats 8000000 in
set_option maxRecDepth 100000 in
theorem t_R_readText_p172 (N d : Nat) (xs : List Int32) (c : St) (kb15 : St → Int32 → Int32 → Int32 → Int32 → Int32 → Int32 → Option (St)) (hb15 : ∀ (r : St) (x1 : Int32) (x2 : Int32) (x3 : Int32) (x4 : Int32) (x5 : Int32) (x6 : Int32), Ok (mBig (mRoL xs) (d + 1)) (mRoL xs) 0 mK194 (fun p : St => (none, HP c p)) (kb15 r x1 x2 x3 x4 x5 x6) 15 [some (.ref 115), some (.int x1), some (.int x2), some (.int x3), some (.int x4), some (.int x5), some (.int x6), none, none] [] (HP c r)) (r : St) (x1 : Int32) (x2 : Int32) (x3 : Int32) (x4 : Int32) (x5 : Int32) (x6 : Int32) (x7 : Int32) (x8 : Int32) : Ok (mBig (mRoL xs) (d + 1)) (mRoL xs) 0 mK194 (fun p : St => (none, HP c p)) (R_readText_p172 N kb15 r x1 x2 x3 x4 x5 x6 x7 x8) 172 [some (.ref 115), some (.int x1), some (.int x2), some (.int x3), some (.int x4), some (.int x5), some (.int x6), some (.int x7), some (.int x8)] [] (HP c r) := by
  unfold R_readText_p172
  refine Ok_blk 3 (pc2 := (if ¬ x1 = 4 then 193 else 177)) (lo2 := [some (.ref 115), some (.int x1), some (.int x2), some (.int x3), some (.int x4), some (.int x5), some (.int x6), some (.int x7), some (.int x8)]) (st2 := []) rfl ?_
  refine Ok_if (fun h15 => ?_) (fun h15 => ?_)
  · refine Ok_drop (lo0 := [some (.ref 115), some (.int x1), some (.int x2), some (.int x3), some (.int x4), some (.int x5), some (.int x6), some (.int x7), none]) ⟨Or.inr rfl, Or.inr rfl, Or.inr rfl, Or.inr rfl, Or.inr rfl, Or.inr rfl, Or.inr rfl, Or.inr rfl, Or.inl rfl, trivial⟩ ?_
    exact t_R_readText_p193 N d xs c kb15 hb15 r x1 x2 x3 x4 x5 x6 x7
  · refine Ok_blk 2 (pc2 := (if x8 = 0 then 193 else 182)) (lo2 := [some (.ref 115), some (.int x1), some (.int x2), some (.int x3), some (.int x4), some (.int x5), some (.int x6), some (.int x7), some (.int x8)]) (st2 := []) rfl ?_
    refine Ok_if (fun h29 => ?_) (fun h29 => ?_)
    · refine Ok_drop (lo0 := [some (.ref 115), some (.int x1), some (.int x2), some (.int x3), some (.int x4), some (.int x5), some (.int x6), some (.int x7), none]) ⟨Or.inr rfl, Or.inr rfl, Or.inr rfl, Or.inr rfl, Or.inr rfl, Or.inr rfl, Or.inr rfl, Or.inr rfl, Or.inl rfl, trivial⟩ ?_
      exact t_R_readText_p193 N d xs c kb15 hb15 r x1 x2 x3 x4 x5 x6 x7
    · refine Ok_blk 3 (pc2 := (if 3 ≤ x3 then 193 else 187)) (lo2 := [some (.ref 115), some (.int x1), some (.int x2), some (.int x3), some (.int x4), some (.int x5), some (.int x6), some (.int x7), some (.int x8)]) (st2 := []) rfl ?_
      refine Ok_if (fun h30 => ?_) (fun h30 => ?_)
      · refine Ok_drop (lo0 := [some (.ref 115), some (.int x1), some (.int x2), some (.int x3), some (.int x4), some (.int x5), some (.int x6), some (.int x7), none]) ⟨Or.inr rfl, Or.inr rfl, Or.inr rfl, Or.inr rfl, Or.inr rfl, Or.inr rfl, Or.inr rfl, Or.inr rfl, Or.inl rfl, trivial⟩ ?_
        exact t_R_readText_p193 N d xs c kb15 hb15 r x1 x2 x3 x4 x5 x6 x7
      · refine Ok_blk 2 (pc2 := 281) (lo2 := [some (.ref 115), some (.int x1), some (.int x2), some (.int (x3 + 1)), some (.int x4), some (.int x5), some (.int x6), some (.int x7), some (.int x8)]) (st2 := []) rfl ?_
        refine Ok_drop (lo0 := [some (.ref 115), some (.int x1), some (.int x2), some (.int (x3 + 1)), some (.int x4), some (.int x5), some (.int x6), none, none]) ⟨Or.inr rfl, Or.inr rfl, Or.inr rfl, Or.inr rfl, Or.inr rfl, Or.inr rfl, Or.inr rfl, Or.inl rfl, Or.inl rfl, trivial⟩ ?_
        exact t_R_readText_p281 N d xs c kb15 hb15 r x1 x2 (x3 + 1) x4 x5 x6
set_option maxHeartbeats 8000000 in
set_option maxRecDepth 100000 in
theorem t_R_readText_p155 (N d : Nat) (xs : List Int32) (c : St) (kb15 : St → Int32 → Int32 → Int32 → Int32 → Int32 → Int32 → Option (St)) (hb15 : ∀ (r : St) (x1 : Int32) (x2 : Int32) (x3 : Int32) (x4 : Int32) (x5 : Int32) (x6 : Int32), Ok (mBig (mRoL xs) (d + 1)) (mRoL xs) 0 mK194 (fun p : St => (none, HP c p)) (kb15 r x1 x2 x3 x4 x5 x6) 15 [some (.ref 115), some (.int x1), some (.int x2), some (.int x3), some (.int x4), some (.int x5), some (.int x6), none, none] [] (HP c r)) (r : St) (x1 : Int32) (x2 : Int32) (x3 : Int32) (x4 : Int32) (x5 : Int32) (x6 : Int32) (x7 : Int32) (x8 : Int32) : Ok (mBig (mRoL xs) (d + 1)) (mRoL xs) 0 mK194 (fun p : St => (none, HP c p)) (R_readText_p155 N kb15 r x1 x2 x3 x4 x5 x6 x7 x8) 155 [some (.ref 115), some (.int x1), some (.int x2), some (.int x3), some (.int x4), some (.int x5), some (.int x6), some (.int x7), some (.int x8)] [] (HP c r) := by
  unfold R_readText_p155
  refine Ok_blk 3 (pc2 := (if ¬ x1 = 2 then 172 else 160)) (lo2 := [some (.ref 115), some (.int x1), some (.int x2), some (.int x3), some (.int x4), some (.int x5), some (.int x6), some (.int x7), some (.int x8)]) (st2 := []) rfl ?_
  refine Ok_if (fun h14 => ?_) (fun h14 => ?_)
  · refine Ok_drop (lo0 := [some (.ref 115), some (.int x1), some (.int x2), some (.int x3), some (.int x4), some (.int x5), some (.int x6), some (.int x7), some (.int x8)]) ⟨Or.inr rfl, Or.inr rfl, Or.inr rfl, Or.inr rfl, Or.inr rfl, Or.inr rfl, Or.inr rfl, Or.inr rfl, Or.inr rfl, trivial⟩ ?_
    exact t_R_readText_p172 N d xs c kb15 hb15 r x1 x2 x3 x4 x5 x6 x7 x8
  · refine Ok_blk 2 (pc2 := (if x8 = 0 then 172 else 165)) (lo2 := [some (.ref 115), some (.int x1), some (.int x2), some (.int x3), some (.int x4), some (.int x5), some (.int x6), some (.int x7), some (.int x8)]) (st2 := []) rfl ?_
    refine Ok_if (fun h31 => ?_) (fun h31 => ?_)
    · refine Ok_drop (lo0 := [some (.ref 115), some (.int x1), some (.int x2), some (.int x3), some (.int x4), some (.int x5), some (.int x6), some (.int x7), some (.int x8)]) ⟨Or.inr rfl, Or.inr rfl, Or.inr rfl, Or.inr rfl, Or.inr rfl, Or.inr rfl, Or.inr rfl, Or.inr rfl, Or.inr rfl, trivial⟩ ?_
      exact t_R_readText_p172 N d xs c kb15 hb15 r x1 x2 x3 x4 x5 x6 x7 x8
    · refine Ok_blk 5 (pc2 := 281) (lo2 := [some (.ref 115), some (.int 4), some (.int x2), some (.int 1), some (.int x4), some (.int x5), some (.int x6), some (.int x7), some (.int x8)]) (st2 := []) rfl ?_
      refine Ok_drop (lo0 := [some (.ref 115), some (.int 4), some (.int x2), some (.int 1), some (.int x4), some (.int x5), some (.int x6), none, none]) ⟨Or.inr rfl, Or.inr rfl, Or.inr rfl, Or.inr rfl, Or.inr rfl, Or.inr rfl, Or.inr rfl, Or.inl rfl, Or.inl rfl, trivial⟩ ?_
      exact t_R_readText_p281 N d xs c kb15 hb15 r 4 x2 1 x4 x5 x6
set_option maxHeartbeats 8000000 in
set_option maxRecDepth 100000 in
theorem t_R_readText_p150 (N d : Nat) (xs : List Int32) (c : St) (kb15 : St → Int32 → Int32 → Int32 → Int32 → Int32 → Int32 → Option (St)) (hb15 : ∀ (r : St) (x1 : Int32) (x2 : Int32) (x3 : Int32) (x4 : Int32) (x5 : Int32) (x6 : Int32), Ok (mBig (mRoL xs) (d + 1)) (mRoL xs) 0 mK194 (fun p : St => (none, HP c p)) (kb15 r x1 x2 x3 x4 x5 x6) 15 [some (.ref 115), some (.int x1), some (.int x2), some (.int x3), some (.int x4), some (.int x5), some (.int x6), none, none] [] (HP c r)) (r : St) (x2 : Int32) (x3 : Int32) (x4 : Int32) (x5 : Int32) (x6 : Int32) : Ok (mBig (mRoL xs) (d + 1)) (mRoL xs) 0 mK194 (fun p : St => (none, HP c p)) (R_readText_p150 N kb15 r x2 x3 x4 x5 x6) 150 [some (.ref 115), none, some (.int x2), some (.int x3), some (.int x4), some (.int x5), some (.int x6), none, none] [] (HP c r) := by
  unfold R_readText_p150
  refine Ok_blk 3 (pc2 := 281) (lo2 := [some (.ref 115), some (.int 3), some (.int x2), some (.int x3), some (.int x4), some (.int x5), some (.int x6), none, none]) (st2 := []) rfl ?_
  refine Ok_drop (lo0 := [some (.ref 115), some (.int 3), some (.int x2), some (.int x3), some (.int x4), some (.int x5), some (.int x6), none, none]) ⟨Or.inr rfl, Or.inr rfl, Or.inr rfl, Or.inr rfl, Or.inr rfl, Or.inr rfl, Or.inr rfl, Or.inl rfl, Or.inl rfl, trivial⟩ ?_
  exact t_R_readText_p281 N d xs c kb15 hb15 r 3 x2 x3 x4 x5 x6
set_option maxHeartbeats 8000000 in
set_option maxRecDepth 100000 in
theorem t_R_readText_p117 (N d : Nat) (xs : List Int32) (c : St) (kb15 : St → Int32 → Int32 → Int32 → Int32 → Int32 → Int32 → Option (St)) (hb15 : ∀ (r : St) (x1 : Int32) (x2 : Int32) (x3 : Int32) (x4 : Int32) (x5 : Int32) (x6 : Int32), Ok (mBig (mRoL xs) (d + 1)) (mRoL xs) 0 mK194 (fun p : St => (none, HP c p)) (kb15 r x1 x2 x3 x4 x5 x6) 15 [some (.ref 115), some (.int x1), some (.int x2), some (.int x3), some (.int x4), some (.int x5), some (.int x6), none, none] [] (HP c r)) (r : St) (x1 : Int32) (x2 : Int32) (x3 : Int32) (x4 : Int32) (x5 : Int32) (x6 : Int32) (x7 : Int32) (x8 : Int32) : Ok (mBig (mRoL xs) (d + 1)) (mRoL xs) 0 mK194 (fun p : St => (none, HP c p)) (R_readText_p117 N kb15 r x1 x2 x3 x4 x5 x6 x7 x8) 117 [some (.ref 115), some (.int x1), some (.int x2), some (.int x3), some (.int x4), some (.int x5), some (.int x6), some (.int x7), some (.int x8)] [] (HP c r) := by
  unfold R_readText_p117
  refine Ok_blk 3 (pc2 := (if ¬ x1 = 2 then 155 else 122)) (lo2 := [some (.ref 115), some (.int x1), some (.int x2), some (.int x3), some (.int x4), some (.int x5), some (.int x6), some (.int x7), some (.int x8)]) (st2 := []) rfl ?_
  refine Ok_if (fun h13 => ?_) (fun h13 => ?_)
  · refine Ok_drop (lo0 := [some (.ref 115), some (.int x1), some (.int x2), some (.int x3), some (.int x4), some (.int x5), some (.int x6), some (.int x7), some (.int x8)]) ⟨Or.inr rfl, Or.inr rfl, Or.inr rfl, Or.inr rfl, Or.inr rfl, Or.inr rfl, Or.inr rfl, Or.inr rfl, Or.inr rfl, trivial⟩ ?_
    exact t_R_readText_p155 N d xs c kb15 hb15 r x1 x2 x3 x4 x5 x6 x7 x8
  · refine Ok_blk 3 (pc2 := (if x7 = 114 then 150 else 129)) (lo2 := [some (.ref 115), some (.int x1), some (.int x2), some (.int x3), some (.int x4), some (.int x5), some (.int x6), some (.int x7), some (.int x8)]) (st2 := []) rfl ?_
    refine Ok_if (fun h32 => ?_) (fun h32 => ?_)
    · refine Ok_drop (lo0 := [some (.ref 115), none, some (.int x2), some (.int x3), some (.int x4), some (.int x5), some (.int x6), none, none]) ⟨Or.inr rfl, Or.inl rfl, Or.inr rfl, Or.inr rfl, Or.inr rfl, Or.inr rfl, Or.inr rfl, Or.inl rfl, Or.inl rfl, trivial⟩ ?_
      exact t_R_readText_p150 N d xs c kb15 hb15 r x2 x3 x4 x5 x6
    · refine Ok_blk 3 (pc2 := (if x7 = 116 then 150 else 136)) (lo2 := [some (.ref 115), some (.int x1), some (.int x2), some (.int x3), some (.int x4), some (.int x5), some (.int x6), some (.int x7), some (.int x8)]) (st2 := []) rfl ?_
      refine Ok_if (fun h33 => ?_) (fun h33 => ?_)
      · refine Ok_drop (lo0 := [some (.ref 115), none, some (.int x2), some (.int x3), some (.int x4), some (.int x5), some (.int x6), none, none]) ⟨Or.inr rfl, Or.inl rfl, Or.inr rfl, Or.inr rfl, Or.inr rfl, Or.inr rfl, Or.inr rfl, Or.inl rfl, Or.inl rfl, trivial⟩ ?_
        exact t_R_readText_p150 N d xs c kb15 hb15 r x2 x3 x4 x5 x6
      · refine Ok_blk 3 (pc2 := (if x7 = 104 then 150 else 143)) (lo2 := [some (.ref 115), some (.int x1), some (.int x2), some (.int x3), some (.int x4), some (.int x5), some (.int x6), some (.int x7), some (.int x8)]) (st2 := []) rfl ?_
        refine Ok_if (fun h34 => ?_) (fun h34 => ?_)
        · refine Ok_drop (lo0 := [some (.ref 115), none, some (.int x2), some (.int x3), some (.int x4), some (.int x5), some (.int x6), none, none]) ⟨Or.inr rfl, Or.inl rfl, Or.inr rfl, Or.inr rfl, Or.inr rfl, Or.inr rfl, Or.inr rfl, Or.inl rfl, Or.inl rfl, trivial⟩ ?_
          exact t_R_readText_p150 N d xs c kb15 hb15 r x2 x3 x4 x5 x6
        · refine Ok_blk 3 (pc2 := (if ¬ x7 = 107 then 155 else 150)) (lo2 := [some (.ref 115), some (.int x1), some (.int x2), some (.int x3), some (.int x4), some (.int x5), some (.int x6), some (.int x7), some (.int x8)]) (st2 := []) rfl ?_
          refine Ok_if (fun h35 => ?_) (fun h35 => ?_)
          · refine Ok_drop (lo0 := [some (.ref 115), some (.int x1), some (.int x2), some (.int x3), some (.int x4), some (.int x5), some (.int x6), some (.int x7), some (.int x8)]) ⟨Or.inr rfl, Or.inr rfl, Or.inr rfl, Or.inr rfl, Or.inr rfl, Or.inr rfl, Or.inr rfl, Or.inr rfl, Or.inr rfl, trivial⟩ ?_
            exact t_R_readText_p155 N d xs c kb15 hb15 r x1 x2 x3 x4 x5 x6 x7 x8
          · refine Ok_drop (lo0 := [some (.ref 115), none, some (.int x2), some (.int x3), some (.int x4), some (.int x5), some (.int x6), none, none]) ⟨Or.inr rfl, Or.inl rfl, Or.inr rfl, Or.inr rfl, Or.inr rfl, Or.inr rfl, Or.inr rfl, Or.inl rfl, Or.inl rfl, trivial⟩ ?_
            exact t_R_readText_p150 N d xs c kb15 hb15 r x2 x3 x4 x5 x6
set_option maxHeartbeats 8000000 in
set_option maxRecDepth 100000 in
theorem t_R_readText_p99 (N d : Nat) (xs : List Int32) (c : St) (kb15 : St → Int32 → Int32 → Int32 → Int32 → Int32 → Int32 → Option (St)) (hb15 : ∀ (r : St) (x1 : Int32) (x2 : Int32) (x3 : Int32) (x4 : Int32) (x5 : Int32) (x6 : Int32), Ok (mBig (mRoL xs) (d + 1)) (mRoL xs) 0 mK194 (fun p : St => (none, HP c p)) (kb15 r x1 x2 x3 x4 x5 x6) 15 [some (.ref 115), some (.int x1), some (.int x2), some (.int x3), some (.int x4), some (.int x5), some (.int x6), none, none] [] (HP c r)) (r : St) (x1 : Int32) (x2 : Int32) (x3 : Int32) (x4 : Int32) (x5 : Int32) (x6 : Int32) (x7 : Int32) (x8 : Int32) : Ok (mBig (mRoL xs) (d + 1)) (mRoL xs) 0 mK194 (fun p : St => (none, HP c p)) (R_readText_p99 N kb15 r x1 x2 x3 x4 x5 x6 x7 x8) 99 [some (.ref 115), some (.int x1), some (.int x2), some (.int x3), some (.int x4), some (.int x5), some (.int x6), some (.int x7), some (.int x8)] [] (HP c r) := by
  unfold R_readText_p99
  refine Ok_blk 3 (pc2 := (if ¬ x1 = 2 then 117 else 104)) (lo2 := [some (.ref 115), some (.int x1), some (.int x2), some (.int x3), some (.int x4), some (.int x5), some (.int x6), some (.int x7), some (.int x8)]) (st2 := []) rfl ?_
  refine Ok_if (fun h12 => ?_) (fun h12 => ?_)
  · refine Ok_drop (lo0 := [some (.ref 115), some (.int x1), some (.int x2), some (.int x3), some (.int x4), some (.int x5), some (.int x6), some (.int x7), some (.int x8)]) ⟨Or.inr rfl, Or.inr rfl, Or.inr rfl, Or.inr rfl, Or.inr rfl, Or.inr rfl, Or.inr rfl, Or.inr rfl, Or.inr rfl, trivial⟩ ?_
    exact t_R_readText_p117 N d xs c kb15 hb15 r x1 x2 x3 x4 x5 x6 x7 x8
  · refine Ok_blk 3 (pc2 := (if ¬ x7 = 40 then 117 else 111)) (lo2 := [some (.ref 115), some (.int x1), some (.int x2), some (.int x3), some (.int x4), some (.int x5), some (.int x6), some (.int x7), some (.int x8)]) (st2 := []) rfl ?_
    refine Ok_if (fun h36 => ?_) (fun h36 => ?_)
    · refine Ok_drop (lo0 := [some (.ref 115), some (.int x1), some (.int x2), some (.int x3), some (.int x4), some (.int x5), some (.int x6), some (.int x7), some (.int x8)]) ⟨Or.inr rfl, Or.inr rfl, Or.inr rfl, Or.inr rfl, Or.inr rfl, Or.inr rfl, Or.inr rfl, Or.inr rfl, Or.inr rfl, trivial⟩ ?_
      exact t_R_readText_p117 N d xs c kb15 hb15 r x1 x2 x3 x4 x5 x6 x7 x8
    · refine Ok_blk 2 (pc2 := 281) (lo2 := [some (.ref 115), some (.int x1), some (.int (x2 + 1)), some (.int x3), some (.int x4), some (.int x5), some (.int x6), some (.int x7), some (.int x8)]) (st2 := []) rfl ?_
      refine Ok_drop (lo0 := [some (.ref 115), some (.int x1), some (.int (x2 + 1)), some (.int x3), some (.int x4), some (.int x5), some (.int x6), none, none]) ⟨Or.inr rfl, Or.inr rfl, Or.inr rfl, Or.inr rfl, Or.inr rfl, Or.inr rfl, Or.inr rfl, Or.inl rfl, Or.inl rfl, trivial⟩ ?_
      exact t_R_readText_p281 N d xs c kb15 hb15 r x1 (x2 + 1) x3 x4 x5 x6
set_option maxHeartbeats 8000000 in
set_option maxRecDepth 100000 in
theorem t_R_readText_p82 (N d : Nat) (xs : List Int32) (c : St) (kb15 : St → Int32 → Int32 → Int32 → Int32 → Int32 → Int32 → Option (St)) (hb15 : ∀ (r : St) (x1 : Int32) (x2 : Int32) (x3 : Int32) (x4 : Int32) (x5 : Int32) (x6 : Int32), Ok (mBig (mRoL xs) (d + 1)) (mRoL xs) 0 mK194 (fun p : St => (none, HP c p)) (kb15 r x1 x2 x3 x4 x5 x6) 15 [some (.ref 115), some (.int x1), some (.int x2), some (.int x3), some (.int x4), some (.int x5), some (.int x6), none, none] [] (HP c r)) (r : St) (x1 : Int32) (x2 : Int32) (x3 : Int32) (x4 : Int32) (x5 : Int32) (x6 : Int32) (x7 : Int32) (x8 : Int32) : Ok (mBig (mRoL xs) (d + 1)) (mRoL xs) 0 mK194 (fun p : St => (none, HP c p)) (R_readText_p82 N kb15 r x1 x2 x3 x4 x5 x6 x7 x8) 82 [some (.ref 115), some (.int x1), some (.int x2), some (.int x3), some (.int x4), some (.int x5), some (.int x6), some (.int x7), some (.int x8)] [] (HP c r) := by
  unfold R_readText_p82
  refine Ok_blk 3 (pc2 := (if ¬ x1 = 1 then 99 else 87)) (lo2 := [some (.ref 115), some (.int x1), some (.int x2), some (.int x3), some (.int x4), some (.int x5), some (.int x6), some (.int x7), some (.int x8)]) (st2 := []) rfl ?_
  refine Ok_if (fun h11 => ?_) (fun h11 => ?_)
  · refine Ok_drop (lo0 := [some (.ref 115), some (.int x1), some (.int x2), some (.int x3), some (.int x4), some (.int x5), some (.int x6), some (.int x7), some (.int x8)]) ⟨Or.inr rfl, Or.inr rfl, Or.inr rfl, Or.inr rfl, Or.inr rfl, Or.inr rfl, Or.inr rfl, Or.inr rfl, Or.inr rfl, trivial⟩ ?_
    exact t_R_readText_p99 N d xs c kb15 hb15 r x1 x2 x3 x4 x5 x6 x7 x8
  · refine Ok_blk 3 (pc2 := (if ¬ x7 = 58 then 99 else 94)) (lo2 := [some (.ref 115), some (.int x1), some (.int x2), some (.int x3), some (.int x4), some (.int x5), some (.int x6), some (.int x7), some (.int x8)]) (st2 := []) rfl ?_
    refine Ok_if (fun h37 => ?_) (fun h37 => ?_)
    · refine Ok_drop (lo0 := [some (.ref 115), some (.int x1), some (.int x2), some (.int x3), some (.int x4), some (.int x5), some (.int x6), some (.int x7), some (.int x8)]) ⟨Or.inr rfl, Or.inr rfl, Or.inr rfl, Or.inr rfl, Or.inr rfl, Or.inr rfl, Or.inr rfl, Or.inr rfl, Or.inr rfl, trivial⟩ ?_
      exact t_R_readText_p99 N d xs c kb15 hb15 r x1 x2 x3 x4 x5 x6 x7 x8
    · refine Ok_blk 3 (pc2 := 281) (lo2 := [some (.ref 115), some (.int 2), some (.int x2), some (.int x3), some (.int x4), some (.int x5), some (.int x6), some (.int x7), some (.int x8)]) (st2 := []) rfl ?_
      refine Ok_drop (lo0 := [some (.ref 115), some (.int 2), some (.int x2), some (.int x3), some (.int x4), some (.int x5), some (.int x6), none, none]) ⟨Or.inr rfl, Or.inr rfl, Or.inr rfl, Or.inr rfl, Or.inr rfl, Or.inr rfl, Or.inr rfl, Or.inl rfl, Or.inl rfl, trivial⟩ ?_
      exact t_R_readText_p281 N d xs c kb15 hb15 r 2 x2 x3 x4 x5 x6
set_option maxHeartbeats 8000000 in
set_option maxRecDepth 100000 in
theorem t_R_readText_p77 (N d : Nat) (xs : List Int32) (c : St) (kb15 : St → Int32 → Int32 → Int32 → Int32 → Int32 → Int32 → Option (St)) (hb15 : ∀ (r : St) (x1 : Int32) (x2 : Int32) (x3 : Int32) (x4 : Int32) (x5 : Int32) (x6 : Int32), Ok (mBig (mRoL xs) (d + 1)) (mRoL xs) 0 mK194 (fun p : St => (none, HP c p)) (kb15 r x1 x2 x3 x4 x5 x6) 15 [some (.ref 115), some (.int x1), some (.int x2), some (.int x3), some (.int x4), some (.int x5), some (.int x6), none, none] [] (HP c r)) (r : St) (x2 : Int32) (x3 : Int32) (x4 : Int32) (x5 : Int32) (x6 : Int32) : Ok (mBig (mRoL xs) (d + 1)) (mRoL xs) 0 mK194 (fun p : St => (none, HP c p)) (R_readText_p77 N kb15 r x2 x3 x4 x5 x6) 77 [some (.ref 115), none, some (.int x2), some (.int x3), some (.int x4), some (.int x5), some (.int x6), none, none] [] (HP c r) := by
  unfold R_readText_p77
  refine Ok_blk 3 (pc2 := 281) (lo2 := [some (.ref 115), some (.int 1), some (.int x2), some (.int x3), some (.int x4), some (.int x5), some (.int x6), none, none]) (st2 := []) rfl ?_
  refine Ok_drop (lo0 := [some (.ref 115), some (.int 1), some (.int x2), some (.int x3), some (.int x4), some (.int x5), some (.int x6), none, none]) ⟨Or.inr rfl, Or.inr rfl, Or.inr rfl, Or.inr rfl, Or.inr rfl, Or.inr rfl, Or.inr rfl, Or.inl rfl, Or.inl rfl, trivial⟩ ?_
  exact t_R_readText_p281 N d xs c kb15 hb15 r 1 x2 x3 x4 x5 x6
set_option maxHeartbeats 8000000 in
set_option maxRecDepth 100000 in
theorem t_R_readText_p15b (N d : Nat) (xs : List Int32) (c : St) (kb15 : St → Int32 → Int32 → Int32 → Int32 → Int32 → Int32 → Option (St)) (hb15 : ∀ (r : St) (x1 : Int32) (x2 : Int32) (x3 : Int32) (x4 : Int32) (x5 : Int32) (x6 : Int32), Ok (mBig (mRoL xs) (d + 1)) (mRoL xs) 0 mK194 (fun p : St => (none, HP c p)) (kb15 r x1 x2 x3 x4 x5 x6) 15 [some (.ref 115), some (.int x1), some (.int x2), some (.int x3), some (.int x4), some (.int x5), some (.int x6), none, none] [] (HP c r)) (r : St) (x1 : Int32) (x2 : Int32) (x3 : Int32) (x4 : Int32) (x5 : Int32) (x6 : Int32) : Ok (mBig (mRoL xs) (d + 1)) (mRoL xs) 0 mK194 (fun p : St => (none, HP c p)) (R_readText_p15b N kb15 r x1 x2 x3 x4 x5 x6) 15 [some (.ref 115), some (.int x1), some (.int x2), some (.int x3), some (.int x4), some (.int x5), some (.int x6), none, none] [] (HP c r) := by
  unfold R_readText_p15b
  refine Ok_blk 4 (pc2 := (if (gI r 8) ≤ x5 then 299 else 24)) (lo2 := [some (.ref 115), some (.int x1), some (.int x2), some (.int x3), some (.int x4), some (.int x5), some (.int x6), none, none]) (st2 := []) rfl ?_
  refine Ok_if (fun h1 => ?_) (fun h1 => ?_)
  · refine Ok_drop (lo0 := [some (.ref 115), some (.int x1), some (.int x2), none, some (.int x4), some (.int x5), none, none, none]) ⟨Or.inr rfl, Or.inr rfl, Or.inr rfl, Or.inl rfl, Or.inr rfl, Or.inr rfl, Or.inl rfl, Or.inl rfl, Or.inl rfl, trivial⟩ ?_
    exact t_R_readText_p299 N d xs c r x1 x2 x4 x5
  · refine Ok_blk 2 (pc2 := (if x6 = 0 then 299 else 29)) (lo2 := [some (.ref 115), some (.int x1), some (.int x2), some (.int x3), some (.int x4), some (.int x5), some (.int x6), none, none]) (st2 := []) rfl ?_
    refine Ok_if (fun h7 => ?_) (fun h7 => ?_)
    · refine Ok_drop (lo0 := [some (.ref 115), some (.int x1), some (.int x2), none, some (.int x4), some (.int x5), none, none, none]) ⟨Or.inr rfl, Or.inr rfl, Or.inr rfl, Or.inl rfl, Or.inr rfl, Or.inr rfl, Or.inl rfl, Or.inl rfl, Or.inl rfl, trivial⟩ ?_
      exact t_R_readText_p299 N d xs c r x1 x2 x4 x5
    · refine Ok_blk 3 (pc2 := 35) (lo2 := [some (.ref 115), some (.int x1), some (.int x2), some (.int x3), some (.int x4), some (.int x5), some (.int x6), none, none]) (st2 := [.int x5, .ref 126]) rfl ?_
      refine Ok_ldb (l := (gA r 10)) (t := 1) rfl rfl rfl (fun y8 hy8 => ?_)
      refine Ok_blk 4 (pc2 := 44) (lo2 := [some (.ref 115), some (.int x1), some (.int x2), some (.int x3), some (.int x4), some (.int x5), some (.int x6), some (.int y8), none]) (st2 := [.int 57, .int 48, .int y8]) rfl ?_
      refine Ok_call (y := 164) (as := [.int y8, .int 48, .int 57]) (rest := []) (w := fun p9 => some (.int p9)) (h1 := fun p9 => HP c r) rfl rfl (fun x hx => tm_R_in N d xs c r y8 48 57 x hx) (fun p9 hp9 => ?_)
      refine Ok_blk 5 (pc2 := (if ¬ x1 = 0 then 82 else 56)) (lo2 := [some (.ref 115), some (.int x1), some (.int x2), some (.int x3), some (.int x4), some (.int x5), some (.int 1), some (.int y8), some (.int p9)]) (st2 := []) rfl ?_
      refine Ok_if (fun h10 => ?_) (fun h10 => ?_)
      · refine Ok_drop (lo0 := [some (.ref 115), some (.int x1), some (.int x2), some (.int x3), some (.int x4), some (.int x5), some (.int 1), some (.int y8), some (.int p9)]) ⟨Or.inr rfl, Or.inr rfl, Or.inr rfl, Or.inr rfl, Or.inr rfl, Or.inr rfl, Or.inr rfl, Or.inr rfl, Or.inr rfl, trivial⟩ ?_
        exact t_R_readText_p82 N d xs c kb15 hb15 r x1 x2 x3 x4 x5 1 y8 p9
      · refine Ok_blk 3 (pc2 := (if y8 = 87 then 77 else 63)) (lo2 := [some (.ref 115), some (.int x1), some (.int x2), some (.int x3), some (.int x4), some (.int x5), some (.int 1), some (.int y8), some (.int p9)]) (st2 := []) rfl ?_
        refine Ok_if (fun h38 => ?_) (fun h38 => ?_)
        · refine Ok_drop (lo0 := [some (.ref 115), none, some (.int x2), some (.int x3), some (.int x4), some (.int x5), some (.int 1), none, none]) ⟨Or.inr rfl, Or.inl rfl, Or.inr rfl, Or.inr rfl, Or.inr rfl, Or.inr rfl, Or.inr rfl, Or.inl rfl, Or.inl rfl, trivial⟩ ?_
          exact t_R_readText_p77 N d xs c kb15 hb15 r x2 x3 x4 x5 1
        · refine Ok_blk 3 (pc2 := (if y8 = 83 then 77 else 70)) (lo2 := [some (.ref 115), some (.int x1), some (.int x2), some (.int x3), some (.int x4), some (.int x5), some (.int 1), some (.int y8), some (.int p9)]) (st2 := []) rfl ?_
          refine Ok_if (fun h39 => ?_) (fun h39 => ?_)
          · refine Ok_drop (lo0 := [some (.ref 115), none, some (.int x2), some (.int x3), some (.int x4), some (.int x5), some (.int 1), none, none]) ⟨Or.inr rfl, Or.inl rfl, Or.inr rfl, Or.inr rfl, Or.inr rfl, Or.inr rfl, Or.inr rfl, Or.inl rfl, Or.inl rfl, trivial⟩ ?_
            exact t_R_readText_p77 N d xs c kb15 hb15 r x2 x3 x4 x5 1
          · refine Ok_blk 3 (pc2 := (if ¬ y8 = 67 then 82 else 77)) (lo2 := [some (.ref 115), some (.int x1), some (.int x2), some (.int x3), some (.int x4), some (.int x5), some (.int 1), some (.int y8), some (.int p9)]) (st2 := []) rfl ?_
            refine Ok_if (fun h40 => ?_) (fun h40 => ?_)
            · refine Ok_drop (lo0 := [some (.ref 115), some (.int x1), some (.int x2), some (.int x3), some (.int x4), some (.int x5), some (.int 1), some (.int y8), some (.int p9)]) ⟨Or.inr rfl, Or.inr rfl, Or.inr rfl, Or.inr rfl, Or.inr rfl, Or.inr rfl, Or.inr rfl, Or.inr rfl, Or.inr rfl, trivial⟩ ?_
              exact t_R_readText_p82 N d xs c kb15 hb15 r x1 x2 x3 x4 x5 1 y8 p9
            · refine Ok_drop (lo0 := [some (.ref 115), none, some (.int x2), some (.int x3), some (.int x4), some (.int x5), some (.int 1), none, none]) ⟨Or.inr rfl, Or.inl rfl, Or.inr rfl, Or.inr rfl, Or.inr rfl, Or.inr rfl, Or.inr rfl, Or.inl rfl, Or.inl rfl, trivial⟩ ?_
              exact t_R_readText_p77 N d xs c kb15 hb15 r x2 x3 x4 x5 1
set_option maxHeartbeats 8000000 in
set_option maxRecDepth 100000 in
theorem t_R_readText_p15 (N d : Nat) (xs : List Int32) (c : St) : ∀ (n : Nat) (r : St) (x1 : Int32) (x2 : Int32) (x3 : Int32) (x4 : Int32) (x5 : Int32) (x6 : Int32), Ok (mBig (mRoL xs) (d + 1)) (mRoL xs) 0 mK194 (fun p : St => (none, HP c p)) (R_readText_p15 N n r x1 x2 x3 x4 x5 x6) 15 [some (.ref 115), some (.int x1), some (.int x2), some (.int x3), some (.int x4), some (.int x5), some (.int x6), none, none] [] (HP c r) := by
  intro n
  induction n with
  | zero => intro r x1 x2 x3 x4 x5 x6; exact Ok_none
  | succ n ih => intro r x1 x2 x3 x4 x5 x6; exact t_R_readText_p15b N d xs c (R_readText_p15 N n) ih r x1 x2 x3 x4 x5 x6
set_option maxHeartbeats 8000000 in
set_option maxRecDepth 100000 in
theorem t_R_readText (N d : Nat) (xs : List Int32) (c : St) (r : St) : Ok (mBig (mRoL xs) (d + 1)) (mRoL xs) 0 mK194 (fun p : St => (none, HP c p)) (R_readText N r) 0 [some (.ref 115), none, none, none, none, none, none, none, none] [] (HP c r) := by
  unfold R_readText
  refine Ok_blk 12 (pc2 := 15) (lo2 := [some (.ref 115), some (.int 0), some (.int 0), some (.int 0), some (.int 0), some (.int 0), some (.int 1), none, none]) (st2 := []) rfl ?_
  refine Ok_drop (lo0 := [some (.ref 115), some (.int 0), some (.int 0), some (.int 0), some (.int 0), some (.int 0), some (.int 1), none, none]) ⟨Or.inr rfl, Or.inr rfl, Or.inr rfl, Or.inr rfl, Or.inr rfl, Or.inr rfl, Or.inr rfl, Or.inl rfl, Or.inl rfl, trivial⟩ ?_
  exact t_R_readText_p15 N d xs c N r 0 0 0 0 0 1
set_option maxHeartbeats 8000000 in
set_option maxRecDepth 100000 in
theorem tm_R_readText (N d : Nat) (xs : List Int32) (c r : St) (p : St) (hp : R_readText N r = some p) : mBig (mRoL xs) (d + 2) 194 [.ref 115] (HP c r) (none) (HP c p) 0 0 := mBig_of (by decide) rfl rfl rfl rfl (t_R_readText N d xs c r p hp)
/-! ColdHoldsModel.fault()I, from (('r', 115),) -/
def R_fault (N : Nat) (r : St) : Option (Int32 × St) :=
  (R_readText N r).bind fun p1 => some (gI p1 30, p1)
set_option maxHeartbeats 8000000 in
set_option maxRecDepth 100000 in
theorem t_R_fault (N d : Nat) (xs : List Int32) (c : St) (r : St) : Ok (mBig (mRoL xs) (d + 2)) (mRoL xs) 1 mK195 (fun p : Int32 × St => (some (.int p.1), HP c p.2)) (R_fault N r) 0 [some (.ref 115)] [] (HP c r) := by
  unfold R_fault
  refine Ok_blk 1 (pc2 := 1) (lo2 := [some (.ref 115)]) (st2 := [.ref 115]) rfl ?_
  refine Ok_call (y := 194) (as := [.ref 115]) (rest := []) (w := fun p1 => none) (h1 := fun p1 => HP c p1) rfl rfl (fun x hx => tm_R_readText N d xs c r x hx) (fun p1 hp1 => ?_)
  refine Ok_blk 2 (pc2 := 8) (lo2 := [some (.ref 115)]) (st2 := [.int (gI p1 30)]) rfl ?_
  exact Ok_ret rfl rfl rfl
set_option maxHeartbeats 8000000 in
set_option maxRecDepth 100000 in
theorem tm_R_fault (N d : Nat) (xs : List Int32) (c r : St) (p : Int32 × St) (hp : R_fault N r = some p) : mBig (mRoL xs) (d + 3) 195 [.ref 115] (HP c r) (some (.int p.1)) (HP c p.2) 0 0 := mBig_of (by decide) rfl rfl rfl rfl (t_R_fault N d xs c r p hp)
/-! ColdHolds$Texts.isWhole()Z, from (('r', 40),) -/
def Texts_isWhole_p38 (N : Nat) (c : St) : Option (Int32 × St) :=
  some (0, c)
def Texts_isWhole (N : Nat) (c : St) : Option (Int32 × St) :=
  (Texts_scan N c).bind fun p1 => (if ¬ p1.1 = (gI p1.2 6) then Texts_isWhole_p38 N p1.2 else (if (gI p1.2 12) < 3 then Texts_isWhole_p38 N p1.2 else (if ¬ (gI p1.2 13) = 0 then Texts_isWhole_p38 N p1.2 else (if (gI p1.2 14) = (-1) then Texts_isWhole_p38 N p1.2 else some (1, p1.2)))))
set_option maxHeartbeats 8000000 in
set_option maxRecDepth 100000 in
theorem t_Texts_isWhole_p38 (N d : Nat) (xs : List Int32) (r : St) (c : St) : Ok (mBig (mRoL xs) (d + 5)) (mRoL xs) 2 mK93 (fun p : Int32 × St => (some (.int p.1), HP p.2 r)) (Texts_isWhole_p38 N c) 38 [none] [] (HP c r) := by
  unfold Texts_isWhole_p38
  refine Ok_blk 1 (pc2 := 39) (lo2 := [none]) (st2 := [.int 0]) rfl ?_
  exact Ok_rez (Or.inl rfl) rfl rfl
set_option maxHeartbeats 8000000 in
set_option maxRecDepth 100000 in
theorem t_Texts_isWhole (N d : Nat) (xs : List Int32) (r : St) (c : St) : Ok (mBig (mRoL xs) (d + 5)) (mRoL xs) 2 mK93 (fun p : Int32 × St => (some (.int p.1), HP p.2 r)) (Texts_isWhole N c) 0 [some (.ref 40)] [] (HP c r) := by
  unfold Texts_isWhole
  refine Ok_blk 1 (pc2 := 1) (lo2 := [some (.ref 40)]) (st2 := [.ref 40]) rfl ?_
  refine Ok_call (y := 87) (as := [.ref 40]) (rest := []) (w := fun p1 => some (.int p1.1)) (h1 := fun p1 => HP p1.2 r) rfl rfl (fun x hx => tm_Texts_scan N d xs c r x hx) (fun p1 hp1 => ?_)
  refine Ok_blk 3 (pc2 := (if ¬ p1.1 = (gI p1.2 6) then 38 else 11)) (lo2 := [some (.ref 40)]) (st2 := []) rfl ?_
  refine Ok_if (fun h2 => ?_) (fun h2 => ?_)
  · refine Ok_drop (lo0 := [none]) ⟨Or.inl rfl, trivial⟩ ?_
    exact t_Texts_isWhole_p38 N d xs r p1.2
  · refine Ok_blk 4 (pc2 := (if (gI p1.2 12) < 3 then 38 else 19)) (lo2 := [some (.ref 40)]) (st2 := []) rfl ?_
    refine Ok_if (fun h3 => ?_) (fun h3 => ?_)
    · refine Ok_drop (lo0 := [none]) ⟨Or.inl rfl, trivial⟩ ?_
      exact t_Texts_isWhole_p38 N d xs r p1.2
    · refine Ok_blk 3 (pc2 := (if ¬ (gI p1.2 13) = 0 then 38 else 26)) (lo2 := [some (.ref 40)]) (st2 := []) rfl ?_
      refine Ok_if (fun h4 => ?_) (fun h4 => ?_)
      · refine Ok_drop (lo0 := [none]) ⟨Or.inl rfl, trivial⟩ ?_
        exact t_Texts_isWhole_p38 N d xs r p1.2
      · refine Ok_blk 4 (pc2 := (if (gI p1.2 14) = (-1) then 38 else 34)) (lo2 := [some (.ref 40)]) (st2 := []) rfl ?_
        refine Ok_if (fun h5 => ?_) (fun h5 => ?_)
        · refine Ok_drop (lo0 := [none]) ⟨Or.inl rfl, trivial⟩ ?_
          exact t_Texts_isWhole_p38 N d xs r p1.2
        · refine Ok_blk 2 (pc2 := 39) (lo2 := [some (.ref 40)]) (st2 := [.int 1]) rfl ?_
          exact Ok_rez (Or.inr rfl) rfl rfl
set_option maxHeartbeats 8000000 in
set_option maxRecDepth 100000 in
theorem tm_Texts_isWhole (N d : Nat) (xs : List Int32) (c r : St) (p : Int32 × St) (hp : Texts_isWhole N c = some p) : mBig (mRoL xs) (d + 6) 93 [.ref 40] (HP c r) (some (.int p.1)) (HP p.2 r) 0 0 := mBig_of (by decide) rfl rfl rfl rfl (t_Texts_isWhole N d xs r c p hp)
/-! ColdHolds$Texts.keepPage()I, from (('r', 40),) -/
def Texts_keepPage (N : Nat) (c : St) : Option (Int32 × St) :=
  (if (gI c 7) < 12 then (rwi (gI c 7) 12).bind fun q2 => (cpy (gA c 34) (gA c (35 + q2)) 0 0 (gI c 6)).bind fun w3 => (sto (gA (sA c (35 + q2) w3) 47) (gI (sA c (35 + q2) w3) 7) (gI (sA c (35 + q2) w3) 6)).bind fun w4 => (sto (gA (sA (sA c (35 + q2) w3) 47 w4) 48) (gI (sA (sA c (35 + q2) w3) 47 w4) 7) (gI (sA (sA c (35 + q2) w3) 47 w4) 14)).bind fun w5 => some ((gI (sI (sI (sA (sA (sA c (35 + q2) w3) 47 w4) 48 w5) 6 0) 7 ((gI (sI (sA (sA (sA c (35 + q2) w3) 47 w4) 48 w5) 6 0) 7) + 1)) 7) - 1, sI (sI (sA (sA (sA c (35 + q2) w3) 47 w4) 48 w5) 6 0) 7 ((gI (sI (sA (sA (sA c (35 + q2) w3) 47 w4) 48 w5) 6 0) 7) + 1)) else some ((-104), c))
set_option maxHeartbeats 8000000 in
set_option maxRecDepth 100000 in
theorem t_Texts_keepPage (N d : Nat) (xs : List Int32) (r : St) (c : St) : Ok (mBig (mRoL xs) (d)) (mRoL xs) 1 mK94 (fun p : Int32 × St => (some (.int p.1), HP p.2 r)) (Texts_keepPage N c) 0 [some (.ref 40)] [] (HP c r) := by
  unfold Texts_keepPage
  refine Ok_blk 4 (pc2 := (if (gI c 7) < 12 then 12 else 9)) (lo2 := [some (.ref 40)]) (st2 := []) rfl ?_
  refine Ok_if (fun h1 => ?_) (fun h1 => ?_)
  · refine Ok_blk 7 (pc2 := 25) (lo2 := [some (.ref 40)]) (st2 := [.int (gI c 7), .ref 42, .int 0, .ref 41]) rfl ?_
    refine Ok_rw (b := 43) (n := 12) rfl rfl (fun j h => rowl_42 j h) (fun q2 hq2 => ?_)
    refine Ok_blk 3 (pc2 := 31) (lo2 := [some (.ref 40)]) (st2 := [.int (gI c 6), .int 0, .ref (43 + q2), .int 0, .ref 41]) rfl ?_
    refine Ok_cpy (f := (gA c 34)) (g := (gA c (35 + q2))) (hn := fun l' => HP (sA c (35 + q2) l') r) rfl rfl ((rows_42 hq2).2 _ _).1 (Nat.le_of_ble_eq_true rfl) (fun l' => ((rows_42 hq2).2 _ _).2 l') (fun w3 hw3 => ?_)
    refine Ok_blk 6 (pc2 := 46) (lo2 := [some (.ref 40)]) (st2 := [.int (gI (sA c (35 + q2) w3) 6), .int (gI (sA c (35 + q2) w3) 7), .ref 55]) rfl ?_
    refine Ok_st (l := (gA (sA c (35 + q2) w3) 47)) (hn := fun l' => HP (sA (sA c (35 + q2) w3) 47 l') r) rfl rfl (fun l' => sa_55 _ _ l') (fun w4 hw4 => ?_)
    refine Ok_blk 6 (pc2 := 59) (lo2 := [some (.ref 40)]) (st2 := [.int (gI (sA (sA c (35 + q2) w3) 47 w4) 14), .int (gI (sA (sA c (35 + q2) w3) 47 w4) 7), .ref 56]) rfl ?_
    refine Ok_st (l := (gA (sA (sA c (35 + q2) w3) 47 w4) 48)) (hn := fun l' => HP (sA (sA (sA c (35 + q2) w3) 47 w4) 48 l') r) rfl rfl (fun l' => sa_56 _ _ l') (fun w5 hw5 => ?_)
    refine Ok_heap 3 (pc2 := 65) (lo2 := [some (.ref 40)]) (st2 := []) (h2 := HP (sI (sA (sA (sA c (35 + q2) w3) 47 w4) 48 w5) 6 0) r) rfl (st_40_1 _ _ _) ?_
    refine Ok_heap 6 (pc2 := 75) (lo2 := [some (.ref 40)]) (st2 := []) (h2 := HP (sI (sI (sA (sA (sA c (35 + q2) w3) 47 w4) 48 w5) 6 0) 7 ((gI (sI (sA (sA (sA c (35 + q2) w3) 47 w4) 48 w5) 6 0) 7) + 1)) r) rfl (st_40_2 _ _ _) ?_
    refine Ok_blk 4 (pc2 := 81) (lo2 := [some (.ref 40)]) (st2 := [.int ((gI (sI (sI (sA (sA (sA c (35 + q2) w3) 47 w4) 48 w5) 6 0) 7 ((gI (sI (sA (sA (sA c (35 + q2) w3) 47 w4) 48 w5) 6 0) 7) + 1)) 7) - 1)]) rfl ?_
    exact Ok_ret rfl rfl rfl
  · refine Ok_blk 1 (pc2 := 11) (lo2 := [some (.ref 40)]) (st2 := [.int (-104)]) rfl ?_
    exact Ok_ret rfl rfl rfl
set_option maxHeartbeats 8000000 in
set_option maxRecDepth 100000 in
theorem tm_Texts_keepPage (N d : Nat) (xs : List Int32) (c r : St) (p : Int32 × St) (hp : Texts_keepPage N c = some p) : mBig (mRoL xs) (d + 1) 94 [.ref 40] (HP c r) (some (.int p.1)) (HP p.2 r) 0 0 := mBig_of (by decide) rfl rfl rfl rfl (t_Texts_keepPage N d xs r c p hp)
/-! ColdHolds.text()I, from (('r', 0),) -/
def C_text (N : Nat) (c : St) : Option (Int32 × St) :=
  (Texts_isWhole N c).bind fun p1 => (if p1.1 = 0 then some ((-103), p1.2) else (Texts_keepPage N p1.2).bind fun p3 => some (p3.1, p3.2))
set_option maxHeartbeats 8000000 in
set_option maxRecDepth 100000 in
theorem t_C_text (N d : Nat) (xs : List Int32) (r : St) (c : St) : Ok (mBig (mRoL xs) (d + 6)) (mRoL xs) 1 mK125 (fun p : Int32 × St => (some (.int p.1), HP p.2 r)) (C_text N c) 0 [some (.ref 0)] [] (HP c r) := by
  unfold C_text
  refine Ok_blk 2 (pc2 := 4) (lo2 := [some (.ref 0)]) (st2 := [.ref 40]) rfl ?_
  refine Ok_call (y := 93) (as := [.ref 40]) (rest := []) (w := fun p1 => some (.int p1.1)) (h1 := fun p1 => HP p1.2 r) rfl rfl (fun x hx => tm_Texts_isWhole N d xs c r x hx) (fun p1 hp1 => ?_)
  refine Ok_blk 1 (pc2 := (if p1.1 = 0 then 20 else 10)) (lo2 := [some (.ref 0)]) (st2 := []) rfl ?_
  refine Ok_if (fun h2 => ?_) (fun h2 => ?_)
  · refine Ok_blk 1 (pc2 := 22) (lo2 := [some (.ref 0)]) (st2 := [.int (-103)]) rfl ?_
    exact Ok_ret rfl rfl rfl
  · refine Ok_blk 2 (pc2 := 14) (lo2 := [some (.ref 0)]) (st2 := [.ref 40]) rfl ?_
    refine Ok_call (y := 94) (as := [.ref 40]) (rest := []) (w := fun p3 => some (.int p3.1)) (h1 := fun p3 => HP p3.2 r) rfl rfl (fun x hx => tm_Texts_keepPage N (d + 5) xs p1.2 r x hx) (fun p3 hp3 => ?_)
    refine Ok_blk 1 (pc2 := 22) (lo2 := [some (.ref 0)]) (st2 := [.int p3.1]) rfl ?_
    exact Ok_ret rfl rfl rfl
set_option maxHeartbeats 8000000 in
set_option maxRecDepth 100000 in
theorem tm_C_text (N d : Nat) (xs : List Int32) (c r : St) (p : Int32 × St) (hp : C_text N c = some p) : mBig (mRoL xs) (d + 7) 125 [.ref 0] (HP c r) (some (.int p.1)) (HP p.2 r) 0 0 := mBig_of (by decide) rfl rfl rfl rfl (t_C_text N d xs r c p hp)
/-! ColdHoldsModel.text()I, from (('r', 115),) -/
def R_text_p28b (N : Nat) (kb28 : St → Int32 → Option (Int32 × St)) (r : St) (x1 : Int32) : Option (Int32 × St) :=
  (if (gI r 8) ≤ x1 then (sto (gA r 12) (gI r 9) (gI r 8)).bind fun w5 => some ((gI (sI (sI (sA r 12 w5) 9 ((gI (sA r 12 w5) 9) + 1)) 8 0) 9) - 1, sI (sI (sA r 12 w5) 9 ((gI (sA r 12 w5) 9) + 1)) 8 0) else (ld (gA r 10) x1).bind fun y6 => (sto (gA r 11) ((60 * (gI r 9)) + x1) y6.toInt8.toInt32).bind fun w7 => kb28 (sA r 11 w7) (x1 + 1))
def R_text_p28 (N : Nat) : Nat → St → Int32 → Option (Int32 × St)
  | 0 => fun _ _ => none
  | n + 1 => R_text_p28b N (R_text_p28 N n)
def R_text (N : Nat) (r : St) : Option (Int32 × St) :=
  (R_readText N r).bind fun p1 => (if ¬ (gI p1 31) = 0 then (if ¬ (gI p1 9) = 12 then R_text_p28 N N p1 0 else some ((-104), p1)) else some ((-103), p1))
set_option maxHeartbeats 8000000 in
set_option maxRecDepth 100000 in
theorem t_R_text_p28b (N d : Nat) (xs : List Int32) (c : St) (kb28 : St → Int32 → Option (Int32 × St)) (hb28 : ∀ (r : St) (x1 : Int32), Ok (mBig (mRoL xs) (d + 2)) (mRoL xs) 1 mK196 (fun p : Int32 × St => (some (.int p.1), HP c p.2)) (kb28 r x1) 28 [some (.ref 115), some (.int x1)] [] (HP c r)) (r : St) (x1 : Int32) : Ok (mBig (mRoL xs) (d + 2)) (mRoL xs) 1 mK196 (fun p : Int32 × St => (some (.int p.1), HP c p.2)) (R_text_p28b N kb28 r x1) 28 [some (.ref 115), some (.int x1)] [] (HP c r) := by
  unfold R_text_p28b
  refine Ok_blk 4 (pc2 := (if (gI r 8) ≤ x1 then 62 else 36)) (lo2 := [some (.ref 115), some (.int x1)]) (st2 := []) rfl ?_
  refine Ok_if (fun h4 => ?_) (fun h4 => ?_)
  · refine Ok_blk 6 (pc2 := 74) (lo2 := [some (.ref 115), some (.int x1)]) (st2 := [.int (gI r 8), .int (gI r 9), .ref 128]) rfl ?_
    refine Ok_st (l := (gA r 12)) (hn := fun l' => HP c (sA r 12 l')) rfl rfl (fun l' => sa_128 _ _ l') (fun w5 hw5 => ?_)
    refine Ok_heap 6 (pc2 := 85) (lo2 := [some (.ref 115), some (.int x1)]) (st2 := []) (h2 := HP c (sI (sA r 12 w5) 9 ((gI (sA r 12 w5) 9) + 1))) rfl (st_115_20 _ _ _) ?_
    refine Ok_heap 3 (pc2 := 90) (lo2 := [some (.ref 115), some (.int x1)]) (st2 := []) (h2 := HP c (sI (sI (sA r 12 w5) 9 ((gI (sA r 12 w5) 9) + 1)) 8 0)) rfl (st_115_18 _ _ _) ?_
    refine Ok_blk 4 (pc2 := 96) (lo2 := [some (.ref 115), some (.int x1)]) (st2 := [.int ((gI (sI (sI (sA r 12 w5) 9 ((gI (sA r 12 w5) 9) + 1)) 8 0) 9) - 1)]) rfl ?_
    exact Ok_ret rfl rfl rfl
  · refine Ok_blk 11 (pc2 := 54) (lo2 := [some (.ref 115), some (.int x1)]) (st2 := [.int x1, .ref 126, .int ((60 * (gI r 9)) + x1), .ref 127]) rfl ?_
    refine Ok_ldb (l := (gA r 10)) (t := 1) rfl rfl rfl (fun y6 hy6 => ?_)
    refine Ok_stb (l := (gA r 11)) (hn := fun l' => HP c (sA r 11 l')) rfl rfl (fun l' => sa_127 _ _ l') (fun w7 hw7 => ?_)
    refine Ok_blk 2 (pc2 := 28) (lo2 := [some (.ref 115), some (.int (x1 + 1))]) (st2 := []) rfl ?_
    refine Ok_drop (lo0 := [some (.ref 115), some (.int (x1 + 1))]) ⟨Or.inr rfl, Or.inr rfl, trivial⟩ ?_
    exact hb28 (sA r 11 w7) (x1 + 1)
set_option maxHeartbeats 8000000 in
set_option maxRecDepth 100000 in
theorem t_R_text_p28 (N d : Nat) (xs : List Int32) (c : St) : ∀ (n : Nat) (r : St) (x1 : Int32), Ok (mBig (mRoL xs) (d + 2)) (mRoL xs) 1 mK196 (fun p : Int32 × St => (some (.int p.1), HP c p.2)) (R_text_p28 N n r x1) 28 [some (.ref 115), some (.int x1)] [] (HP c r) := by
  intro n
  induction n with
  | zero => intro r x1; exact Ok_none
  | succ n ih => intro r x1; exact t_R_text_p28b N d xs c (R_text_p28 N n) ih r x1
set_option maxHeartbeats 8000000 in
set_option maxRecDepth 100000 in
theorem t_R_text (N d : Nat) (xs : List Int32) (c : St) (r : St) : Ok (mBig (mRoL xs) (d + 2)) (mRoL xs) 1 mK196 (fun p : Int32 × St => (some (.int p.1), HP c p.2)) (R_text N r) 0 [some (.ref 115), none] [] (HP c r) := by
  unfold R_text
  refine Ok_blk 1 (pc2 := 1) (lo2 := [some (.ref 115), none]) (st2 := [.ref 115]) rfl ?_
  refine Ok_call (y := 194) (as := [.ref 115]) (rest := []) (w := fun p1 => none) (h1 := fun p1 => HP c p1) rfl rfl (fun x hx => tm_R_readText N d xs c r x hx) (fun p1 hp1 => ?_)
  refine Ok_blk 3 (pc2 := (if ¬ (gI p1 31) = 0 then 14 else 11)) (lo2 := [some (.ref 115), none]) (st2 := []) rfl ?_
  refine Ok_if (fun h2 => ?_) (fun h2 => ?_)
  · refine Ok_blk 4 (pc2 := (if ¬ (gI p1 9) = 12 then 26 else 23)) (lo2 := [some (.ref 115), none]) (st2 := []) rfl ?_
    refine Ok_if (fun h3 => ?_) (fun h3 => ?_)
    · refine Ok_blk 2 (pc2 := 28) (lo2 := [some (.ref 115), some (.int 0)]) (st2 := []) rfl ?_
      refine Ok_drop (lo0 := [some (.ref 115), some (.int 0)]) ⟨Or.inr rfl, Or.inr rfl, trivial⟩ ?_
      exact t_R_text_p28 N d xs c N p1 0
    · refine Ok_blk 1 (pc2 := 25) (lo2 := [some (.ref 115), none]) (st2 := [.int (-104)]) rfl ?_
      exact Ok_ret rfl rfl rfl
  · refine Ok_blk 1 (pc2 := 13) (lo2 := [some (.ref 115), none]) (st2 := [.int (-103)]) rfl ?_
    exact Ok_ret rfl rfl rfl
set_option maxHeartbeats 8000000 in
set_option maxRecDepth 100000 in
theorem tm_R_text (N d : Nat) (xs : List Int32) (c r : St) (p : Int32 × St) (hp : R_text N r = some p) : mBig (mRoL xs) (d + 3) 196 [.ref 115] (HP c r) (some (.int p.1)) (HP c p.2) 0 0 := mBig_of (by decide) rfl rfl rfl rfl (t_R_text N d xs c r p hp)
/-! ColdHolds$Texts.named(I)I, from (('r', 40), 'i') -/
def Texts_named (N : Nat) (c : St) (x1 : Int32) : Option (Int32) :=
  (if x1 = 104 then some (gI c 10) else (if x1 = 114 then some (gI c 8) else (if x1 = 116 then some (gI c 9) else some (gI c 11))))
set_option maxHeartbeats 8000000 in
set_option maxRecDepth 100000 in
theorem t_Texts_named (N d : Nat) (xs : List Int32) (c : St) (r : St) (x1 : Int32) : Ok (mBig (mRoL xs) (d)) (mRoL xs) 1 mK100 (fun p : Int32 => (some (.int p), HP c r)) (Texts_named N c x1) 0 [some (.ref 40), some (.int x1)] [] (HP c r) := by
  unfold Texts_named
  refine Ok_blk 2 (pc2 := mSw x1 [(104, 46), (114, 36), (116, 41)] 51) (lo2 := [some (.ref 40), some (.int x1)]) (st2 := []) rfl ?_
  refine Ok_sw (fun h1 => ?_) (fun h1 => ?_)
  · refine Ok_blk 2 (pc2 := 50) (lo2 := [some (.ref 40), some (.int x1)]) (st2 := [.int (gI c 10)]) rfl ?_
    exact Ok_ret rfl rfl rfl
  refine Ok_sw (fun h2 => ?_) (fun h2 => ?_)
  · refine Ok_blk 2 (pc2 := 40) (lo2 := [some (.ref 40), some (.int x1)]) (st2 := [.int (gI c 8)]) rfl ?_
    exact Ok_ret rfl rfl rfl
  refine Ok_sw (fun h3 => ?_) (fun h3 => ?_)
  · refine Ok_blk 2 (pc2 := 45) (lo2 := [some (.ref 40), some (.int x1)]) (st2 := [.int (gI c 9)]) rfl ?_
    exact Ok_ret rfl rfl rfl
  show Ok _ _ _ _ _ _ 51 _ _ _
  refine Ok_blk 2 (pc2 := 55) (lo2 := [some (.ref 40), some (.int x1)]) (st2 := [.int (gI c 11)]) rfl ?_
  exact Ok_ret rfl rfl rfl
set_option maxHeartbeats 8000000 in
set_option maxRecDepth 100000 in
theorem tm_Texts_named (N d : Nat) (xs : List Int32) (c r : St) (a1 : Int32) (p : Int32) (hp : Texts_named N c a1 = some p) : mBig (mRoL xs) (d + 1) 100 [.ref 40, .int a1] (HP c r) (some (.int p)) (HP c r) 0 0 := mBig_of (by decide) rfl rfl rfl rfl (t_Texts_named N d xs c r a1 p hp)
/-! ColdHolds$Texts.begin(I)V, from (('r', 40), 'i') -/
def Texts_begin (N : Nat) (c : St) (x1 : Int32) : Option (St) :=
  (stl (gB c 0) x1 0).bind fun w1 => (stl (gB (sB c 0 w1) 1) x1 1).bind fun w2 => some (sB (sB c 0 w1) 1 w2)
set_option maxHeartbeats 8000000 in
set_option maxRecDepth 100000 in
theorem t_Texts_begin (N d : Nat) (xs : List Int32) (r : St) (c : St) (x1 : Int32) : Ok (mBig (mRoL xs) (d)) (mRoL xs) 0 mK99 (fun p : St => (none, HP p r)) (Texts_begin N c x1) 0 [some (.ref 40), some (.int x1)] [] (HP c r) := by
  unfold Texts_begin
  refine Ok_blk 4 (pc2 := 6) (lo2 := [some (.ref 40), some (.int x1)]) (st2 := [.long 0, .int x1, .ref 57]) rfl ?_
  refine Ok_stl (l := (gB c 0)) (hn := fun l' => HP (sB c 0 l') r) rfl rfl (fun l' => sa_57 _ _ l') (fun w1 hw1 => ?_)
  refine Ok_blk 4 (pc2 := 13) (lo2 := [some (.ref 40), some (.int x1)]) (st2 := [.long 1, .int x1, .ref 58]) rfl ?_
  refine Ok_stl (l := (gB (sB c 0 w1) 1)) (hn := fun l' => HP (sB (sB c 0 w1) 1 l') r) rfl rfl (fun l' => sa_58 _ _ l') (fun w2 hw2 => ?_)
  exact Ok_ret rfl rfl rfl
set_option maxHeartbeats 8000000 in
set_option maxRecDepth 100000 in
theorem tm_Texts_begin (N d : Nat) (xs : List Int32) (c r : St) (a1 : Int32) (p : St) (hp : Texts_begin N c a1 = some p) : mBig (mRoL xs) (d + 1) 99 [.ref 40, .int a1] (HP c r) (none) (HP p r) 0 0 := mBig_of (by decide) rfl rfl rfl rfl (t_Texts_begin N d xs r c a1 p hp)
/-! ColdHolds$Texts.value([III)J, from (('r', 40), 'row', 'i', 'i') -/
def Texts_value_p238 (N : Nat) (kb14 : St → Int32 → Int32 → Int32 → Int32 → Option (Int64 × St)) (j1 : Nat) (c : St) (x3 : Int32) (x4 : Int32) (x5 : Int32) (x6 : Int32) : Option (Int64 × St) :=
  kb14 c x3 x4 x5 (x6 + 1)
def Texts_value_p210 (N : Nat) (kb14 : St → Int32 → Int32 → Int32 → Int32 → Option (Int64 × St)) (j1 : Nat) (c : St) (x3 : Int32) (x4 : Int32) (x5 : Int32) (x6 : Int32) (s1 : Int32) (s2 : Int64) : Option (Int64 × St) :=
  (stl (gB c 1) s1 s2).bind fun w15 => Texts_value_p238 N kb14 j1 (sB c 1 w15) x3 x4 x5 x6
def Texts_value_p173 (N : Nat) (kb14 : St → Int32 → Int32 → Int32 → Int32 → Option (Int64 × St)) (j1 : Nat) (c : St) (x3 : Int32) (x4 : Int32) (x5 : Int32) (x6 : Int32) (x7 : Int32) : Option (Int64 × St) :=
  (ldl (gB c 0) x4).bind fun y11 => (ldl (gB c 1) x4).bind fun y12 => (stl (gB c 0) x4 (y11 + y12)).bind fun w13 => (if ¬ x7 = 43 then Texts_value_p210 N kb14 j1 (sB c 0 w13) x3 x4 x5 x6 x4 (-1) else Texts_value_p210 N kb14 j1 (sB c 0 w13) x3 x4 x5 x6 x4 1)
def Texts_value_p159 (N : Nat) (kb14 : St → Int32 → Int32 → Int32 → Int32 → Option (Int64 × St)) (j1 : Nat) (c : St) (x3 : Int32) (x4 : Int32) (x5 : Int32) (x6 : Int32) (x7 : Int32) : Option (Int64 × St) :=
  (if x7 = 43 then Texts_value_p173 N kb14 j1 c x3 x4 x5 x6 x7 else (if ¬ x7 = 45 then (if x7 = 42 then Texts_value_p238 N kb14 j1 c x3 x4 x5 x6 else (ldl (gB c 1) x4).bind fun y18 => (Texts_named N c x7).bind fun p19 => (stl (gB c 1) x4 (y18 * p19.toInt64)).bind fun w20 => Texts_value_p238 N kb14 j1 (sB c 1 w20) x3 x4 x5 x6) else Texts_value_p173 N kb14 j1 c x3 x4 x5 x6 x7))
def Texts_value_p112 (N : Nat) (kb14 : St → Int32 → Int32 → Int32 → Int32 → Option (Int64 × St)) (j1 : Nat) (c : St) (x3 : Int32) (x4 : Int32) (x5 : Int32) (x6 : Int32) (x7 : Int32) : Option (Int64 × St) :=
  (if ¬ x7 = 41 then Texts_value_p159 N kb14 j1 c x3 x4 x5 x6 x7 else (if x4 ≤ 0 then Texts_value_p159 N kb14 j1 c x3 x4 x5 x6 x7 else (ldl (gB c 1) (x4 + (-1))).bind fun y22 => (ldl (gB c 0) ((x4 + (-1)) + 1)).bind fun y23 => (ldl (gB c 1) ((x4 + (-1)) + 1)).bind fun y24 => (stl (gB c 1) (x4 + (-1)) (y22 * (y23 + y24))).bind fun w25 => Texts_value_p238 N kb14 j1 (sB c 1 w25) x3 (x4 + (-1)) x5 x6))
def Texts_value_p67 (N : Nat) (kb14 : St → Int32 → Int32 → Int32 → Int32 → Option (Int64 × St)) (j1 : Nat) (c : St) (x3 : Int32) (x4 : Int32) (x5 : Int32) (x6 : Int32) : Option (Int64 × St) :=
  (ldl (gB c 1) x4).bind fun y29 => (stl (gB c 1) x4 (y29 * x5.toInt64)).bind fun w30 => Texts_value_p238 N kb14 j1 (sB c 1 w30) x3 x4 0 x6
def Texts_value_p14b (N : Nat) (kb14 : St → Int32 → Int32 → Int32 → Int32 → Option (Int64 × St)) (j1 : Nat) (c : St) (x3 : Int32) (x4 : Int32) (x5 : Int32) (x6 : Int32) : Option (Int64 × St) :=
  (if x3 ≤ x6 then (ldl (gB c 0) 0).bind fun y3 => (ldl (gB c 1) 0).bind fun y4 => some (y3 + y4, c) else (ld (gA c j1) x6).bind fun y5 => (Texts_isDigit N y5).bind fun p6 => (if p6 = 0 then (if ¬ y5 = 40 then Texts_value_p112 N kb14 j1 c x3 x4 x5 x6 y5 else (if 59 ≤ x4 then Texts_value_p112 N kb14 j1 c x3 x4 x5 x6 y5 else (Texts_begin N c (x4 + 1)).bind fun p27 => Texts_value_p238 N kb14 j1 p27 x3 (x4 + 1) x5 x6)) else (if x3 ≤ (x6 + 1) then Texts_value_p67 N kb14 j1 c x3 x4 (((10 * x5) + y5) - 48) x6 else (ld (gA c j1) (x6 + 1)).bind fun y31 => (Texts_isDigit N y31).bind fun p32 => (if ¬ p32 = 0 then Texts_value_p238 N kb14 j1 c x3 x4 (((10 * x5) + y5) - 48) x6 else Texts_value_p67 N kb14 j1 c x3 x4 (((10 * x5) + y5) - 48) x6))))
def Texts_value_p14 (N : Nat) (j1 : Nat) : Nat → St → Int32 → Int32 → Int32 → Int32 → Option (Int64 × St)
  | 0 => fun _ _ _ _ _ => none
  | n + 1 => Texts_value_p14b N (Texts_value_p14 N j1 n) j1
def Texts_value (N : Nat) (j1 : Nat) (c : St) (x2 : Int32) (x3 : Int32) : Option (Int64 × St) :=
  (Texts_begin N c 0).bind fun p1 => Texts_value_p14 N j1 N p1 x3 0 0 x2
set_option maxHeartbeats 8000000 in
set_option maxRecDepth 100000 in
theorem t_Texts_value_p238 (N d : Nat) (xs : List Int32) (r : St) (k1 j1 : Nat) (hk1 : AR k1 j1) (kb14 : St → Int32 → Int32 → Int32 → Int32 → Option (Int64 × St)) (hb14 : ∀ (c : St) (x3 : Int32) (x4 : Int32) (x5 : Int32) (x6 : Int32), Ok (mBig (mRoL xs) (d + 2)) (mRoL xs) 3 mK98 (fun p : Int64 × St => (some (.long p.1), HP p.2 r)) (kb14 c x3 x4 x5 x6) 14 [some (.ref 40), some (.ref k1), none, some (.int x3), some (.int x4), some (.int x5), some (.int x6), none] [] (HP c r)) (c : St) (x3 : Int32) (x4 : Int32) (x5 : Int32) (x6 : Int32) : Ok (mBig (mRoL xs) (d + 2)) (mRoL xs) 3 mK98 (fun p : Int64 × St => (some (.long p.1), HP p.2 r)) (Texts_value_p238 N kb14 j1 c x3 x4 x5 x6) 238 [some (.ref 40), some (.ref k1), none, some (.int x3), some (.int x4), some (.int x5), some (.int x6), none] [] (HP c r) := by
  unfold Texts_value_p238
  refine Ok_blk 2 (pc2 := 14) (lo2 := [some (.ref 40), some (.ref k1), none, some (.int x3), some (.int x4), some (.int x5), some (.int (x6 + 1)), none]) (st2 := []) rfl ?_
  refine Ok_drop (lo0 := [some (.ref 40), some (.ref k1), none, some (.int x3), some (.int x4), some (.int x5), some (.int (x6 + 1)), none]) ⟨Or.inr rfl, Or.inr rfl, Or.inl rfl, Or.inr rfl, Or.inr rfl, Or.inr rfl, Or.inr rfl, Or.inl rfl, trivial⟩ ?_
  exact hb14 c x3 x4 x5 (x6 + 1)
set_option maxHeartbeats 8000000 in
set_option maxRecDepth 100000 in
theorem t_Texts_value_p210 (N d : Nat) (xs : List Int32) (r : St) (k1 j1 : Nat) (hk1 : AR k1 j1) (kb14 : St → Int32 → Int32 → Int32 → Int32 → Option (Int64 × St)) (hb14 : ∀ (c : St) (x3 : Int32) (x4 : Int32) (x5 : Int32) (x6 : Int32), Ok (mBig (mRoL xs) (d + 2)) (mRoL xs) 3 mK98 (fun p : Int64 × St => (some (.long p.1), HP p.2 r)) (kb14 c x3 x4 x5 x6) 14 [some (.ref 40), some (.ref k1), none, some (.int x3), some (.int x4), some (.int x5), some (.int x6), none] [] (HP c r)) (c : St) (x3 : Int32) (x4 : Int32) (x5 : Int32) (x6 : Int32) (s1 : Int32) (s2 : Int64) : Ok (mBig (mRoL xs) (d + 2)) (mRoL xs) 3 mK98 (fun p : Int64 × St => (some (.long p.1), HP p.2 r)) (Texts_value_p210 N kb14 j1 c x3 x4 x5 x6 s1 s2) 210 [some (.ref 40), some (.ref k1), none, some (.int x3), some (.int x4), some (.int x5), some (.int x6), none] [.long s2, .int s1, .ref 58] (HP c r) := by
  unfold Texts_value_p210
  refine Ok_stl (l := (gB c 1)) (hn := fun l' => HP (sB c 1 l') r) rfl rfl (fun l' => sa_58 _ _ l') (fun w15 hw15 => ?_)
  refine Ok_blk 1 (pc2 := 238) (lo2 := [some (.ref 40), some (.ref k1), none, some (.int x3), some (.int x4), some (.int x5), some (.int x6), none]) (st2 := []) rfl ?_
  refine Ok_drop (lo0 := [some (.ref 40), some (.ref k1), none, some (.int x3), some (.int x4), some (.int x5), some (.int x6), none]) ⟨Or.inr rfl, Or.inr rfl, Or.inl rfl, Or.inr rfl, Or.inr rfl, Or.inr rfl, Or.inr rfl, Or.inl rfl, trivial⟩ ?_
  exact t_Texts_value_p238 N d xs r k1 j1 hk1 kb14 hb14 (sB c 1 w15) x3 x4 x5 x6
set_option maxHeartbeats 8000000 in
set_option maxRecDepth 100000 in
theorem t_Texts_value_p173 (N d : Nat) (xs : List Int32) (r : St) (k1 j1 : Nat) (hk1 : AR k1 j1) (kb14 : St → Int32 → Int32 → Int32 → Int32 → Option (Int64 × St)) (hb14 : ∀ (c : St) (x3 : Int32) (x4 : Int32) (x5 : Int32) (x6 : Int32), Ok (mBig (mRoL xs) (d + 2)) (mRoL xs) 3 mK98 (fun p : Int64 × St => (some (.long p.1), HP p.2 r)) (kb14 c x3 x4 x5 x6) 14 [some (.ref 40), some (.ref k1), none, some (.int x3), some (.int x4), some (.int x5), some (.int x6), none] [] (HP c r)) (c : St) (x3 : Int32) (x4 : Int32) (x5 : Int32) (x6 : Int32) (x7 : Int32) : Ok (mBig (mRoL xs) (d + 2)) (mRoL xs) 3 mK98 (fun p : Int64 × St => (some (.long p.1), HP p.2 r)) (Texts_value_p173 N kb14 j1 c x3 x4 x5 x6 x7) 173 [some (.ref 40), some (.ref k1), none, some (.int x3), some (.int x4), some (.int x5), some (.int x6), some (.int x7)] [] (HP c r) := by
  unfold Texts_value_p173
  refine Ok_blk 4 (pc2 := 180) (lo2 := [some (.ref 40), some (.ref k1), none, some (.int x3), some (.int x4), some (.int x5), some (.int x6), some (.int x7)]) (st2 := [.int x4, .ref 57, .int x4, .ref 57]) rfl ?_
  refine Ok_ldl (l := (gB c 0)) rfl rfl (fun y11 hy11 => ?_)
  refine Ok_blk 3 (pc2 := 187) (lo2 := [some (.ref 40), some (.ref k1), none, some (.int x3), some (.int x4), some (.int x5), some (.int x6), some (.int x7)]) (st2 := [.int x4, .ref 58, .long y11, .int x4, .ref 57]) rfl ?_
  refine Ok_ldl (l := (gB c 1)) rfl rfl (fun y12 hy12 => ?_)
  refine Ok_blk 1 (pc2 := 189) (lo2 := [some (.ref 40), some (.ref k1), none, some (.int x3), some (.int x4), some (.int x5), some (.int x6), some (.int x7)]) (st2 := [.long (y11 + y12), .int x4, .ref 57]) rfl ?_
  refine Ok_stl (l := (gB c 0)) (hn := fun l' => HP (sB c 0 l') r) rfl rfl (fun l' => sa_57 _ _ l') (fun w13 hw13 => ?_)
  refine Ok_blk 6 (pc2 := (if ¬ x7 = 43 then 207 else 203)) (lo2 := [some (.ref 40), some (.ref k1), none, some (.int x3), some (.int x4), some (.int x5), some (.int x6), some (.int x7)]) (st2 := [.int x4, .ref 58]) rfl ?_
  refine Ok_if (fun h14 => ?_) (fun h14 => ?_)
  · refine Ok_blk 1 (pc2 := 210) (lo2 := [some (.ref 40), some (.ref k1), none, some (.int x3), some (.int x4), some (.int x5), some (.int x6), some (.int x7)]) (st2 := [.long (-1), .int x4, .ref 58]) rfl ?_
    refine Ok_drop (lo0 := [some (.ref 40), some (.ref k1), none, some (.int x3), some (.int x4), some (.int x5), some (.int x6), none]) ⟨Or.inr rfl, Or.inr rfl, Or.inl rfl, Or.inr rfl, Or.inr rfl, Or.inr rfl, Or.inr rfl, Or.inl rfl, trivial⟩ ?_
    exact t_Texts_value_p210 N d xs r k1 j1 hk1 kb14 hb14 (sB c 0 w13) x3 x4 x5 x6 x4 (-1)
  · refine Ok_blk 2 (pc2 := 210) (lo2 := [some (.ref 40), some (.ref k1), none, some (.int x3), some (.int x4), some (.int x5), some (.int x6), some (.int x7)]) (st2 := [.long 1, .int x4, .ref 58]) rfl ?_
    refine Ok_drop (lo0 := [some (.ref 40), some (.ref k1), none, some (.int x3), some (.int x4), some (.int x5), some (.int x6), none]) ⟨Or.inr rfl, Or.inr rfl, Or.inl rfl, Or.inr rfl, Or.inr rfl, Or.inr rfl, Or.inr rfl, Or.inl rfl, trivial⟩ ?_
    exact t_Texts_value_p210 N d xs r k1 j1 hk1 kb14 hb14 (sB c 0 w13) x3 x4 x5 x6 x4 1
set_option maxHeartbeats 8000000 in
set_option maxRecDepth 100000 in
theorem t_Texts_value_p159 (N d : Nat) (xs : List Int32) (r : St) (k1 j1 : Nat) (hk1 : AR k1 j1) (kb14 : St → Int32 → Int32 → Int32 → Int32 → Option (Int64 × St)) (hb14 : ∀ (c : St) (x3 : Int32) (x4 : Int32) (x5 : Int32) (x6 : Int32), Ok (mBig (mRoL xs) (d + 2)) (mRoL xs) 3 mK98 (fun p : Int64 × St => (some (.long p.1), HP p.2 r)) (kb14 c x3 x4 x5 x6) 14 [some (.ref 40), some (.ref k1), none, some (.int x3), some (.int x4), some (.int x5), some (.int x6), none] [] (HP c r)) (c : St) (x3 : Int32) (x4 : Int32) (x5 : Int32) (x6 : Int32) (x7 : Int32) : Ok (mBig (mRoL xs) (d + 2)) (mRoL xs) 3 mK98 (fun p : Int64 × St => (some (.long p.1), HP p.2 r)) (Texts_value_p159 N kb14 j1 c x3 x4 x5 x6 x7) 159 [some (.ref 40), some (.ref k1), none, some (.int x3), some (.int x4), some (.int x5), some (.int x6), some (.int x7)] [] (HP c r) := by
  unfold Texts_value_p159
  refine Ok_blk 3 (pc2 := (if x7 = 43 then 173 else 166)) (lo2 := [some (.ref 40), some (.ref k1), none, some (.int x3), some (.int x4), some (.int x5), some (.int x6), some (.int x7)]) (st2 := []) rfl ?_
  refine Ok_if (fun h10 => ?_) (fun h10 => ?_)
  · refine Ok_drop (lo0 := [some (.ref 40), some (.ref k1), none, some (.int x3), some (.int x4), some (.int x5), some (.int x6), some (.int x7)]) ⟨Or.inr rfl, Or.inr rfl, Or.inl rfl, Or.inr rfl, Or.inr rfl, Or.inr rfl, Or.inr rfl, Or.inr rfl, trivial⟩ ?_
    exact t_Texts_value_p173 N d xs r k1 j1 hk1 kb14 hb14 c x3 x4 x5 x6 x7
  · refine Ok_blk 3 (pc2 := (if ¬ x7 = 45 then 214 else 173)) (lo2 := [some (.ref 40), some (.ref k1), none, some (.int x3), some (.int x4), some (.int x5), some (.int x6), some (.int x7)]) (st2 := []) rfl ?_
    refine Ok_if (fun h16 => ?_) (fun h16 => ?_)
    · refine Ok_blk 3 (pc2 := (if x7 = 42 then 238 else 221)) (lo2 := [some (.ref 40), some (.ref k1), none, some (.int x3), some (.int x4), some (.int x5), some (.int x6), some (.int x7)]) (st2 := []) rfl ?_
      refine Ok_if (fun h17 => ?_) (fun h17 => ?_)
      · refine Ok_drop (lo0 := [some (.ref 40), some (.ref k1), none, some (.int x3), some (.int x4), some (.int x5), some (.int x6), none]) ⟨Or.inr rfl, Or.inr rfl, Or.inl rfl, Or.inr rfl, Or.inr rfl, Or.inr rfl, Or.inr rfl, Or.inl rfl, trivial⟩ ?_
        exact t_Texts_value_p238 N d xs r k1 j1 hk1 kb14 hb14 c x3 x4 x5 x6
      · refine Ok_blk 4 (pc2 := 228) (lo2 := [some (.ref 40), some (.ref k1), none, some (.int x3), some (.int x4), some (.int x5), some (.int x6), some (.int x7)]) (st2 := [.int x4, .ref 58, .int x4, .ref 58]) rfl ?_
        refine Ok_ldl (l := (gB c 1)) rfl rfl (fun y18 hy18 => ?_)
        refine Ok_blk 2 (pc2 := 232) (lo2 := [some (.ref 40), some (.ref k1), none, some (.int x3), some (.int x4), some (.int x5), some (.int x6), some (.int x7)]) (st2 := [.int x7, .ref 40, .long y18, .int x4, .ref 58]) rfl ?_
        refine Ok_call (y := 100) (as := [.ref 40, .int x7]) (rest := [.long y18, .int x4, .ref 58]) (w := fun p19 => some (.int p19)) (h1 := fun p19 => HP c r) rfl rfl (fun x hx => tm_Texts_named N (d + 1) xs c r x7 x hx) (fun p19 hp19 => ?_)
        refine Ok_blk 2 (pc2 := 237) (lo2 := [some (.ref 40), some (.ref k1), none, some (.int x3), some (.int x4), some (.int x5), some (.int x6), some (.int x7)]) (st2 := [.long (y18 * p19.toInt64), .int x4, .ref 58]) rfl ?_
        refine Ok_stl (l := (gB c 1)) (hn := fun l' => HP (sB c 1 l') r) rfl rfl (fun l' => sa_58 _ _ l') (fun w20 hw20 => ?_)
        refine Ok_drop (lo0 := [some (.ref 40), some (.ref k1), none, some (.int x3), some (.int x4), some (.int x5), some (.int x6), none]) ⟨Or.inr rfl, Or.inr rfl, Or.inl rfl, Or.inr rfl, Or.inr rfl, Or.inr rfl, Or.inr rfl, Or.inl rfl, trivial⟩ ?_
        exact t_Texts_value_p238 N d xs r k1 j1 hk1 kb14 hb14 (sB c 1 w20) x3 x4 x5 x6
    · refine Ok_drop (lo0 := [some (.ref 40), some (.ref k1), none, some (.int x3), some (.int x4), some (.int x5), some (.int x6), some (.int x7)]) ⟨Or.inr rfl, Or.inr rfl, Or.inl rfl, Or.inr rfl, Or.inr rfl, Or.inr rfl, Or.inr rfl, Or.inr rfl, trivial⟩ ?_
      exact t_Texts_value_p173 N d xs r k1 j1 hk1 kb14 hb14 c x3 x4 x5 x6 x7
set_option maxHeartbeats 8000000 in
set_option maxRecDepth 100000 in
theorem t_Texts_value_p112 (N d : Nat) (xs : List Int32) (r : St) (k1 j1 : Nat) (hk1 : AR k1 j1) (kb14 : St → Int32 → Int32 → Int32 → Int32 → Option (Int64 × St)) (hb14 : ∀ (c : St) (x3 : Int32) (x4 : Int32) (x5 : Int32) (x6 : Int32), Ok (mBig (mRoL xs) (d + 2)) (mRoL xs) 3 mK98 (fun p : Int64 × St => (some (.long p.1), HP p.2 r)) (kb14 c x3 x4 x5 x6) 14 [some (.ref 40), some (.ref k1), none, some (.int x3), some (.int x4), some (.int x5), some (.int x6), none] [] (HP c r)) (c : St) (x3 : Int32) (x4 : Int32) (x5 : Int32) (x6 : Int32) (x7 : Int32) : Ok (mBig (mRoL xs) (d + 2)) (mRoL xs) 3 mK98 (fun p : Int64 × St => (some (.long p.1), HP p.2 r)) (Texts_value_p112 N kb14 j1 c x3 x4 x5 x6 x7) 112 [some (.ref 40), some (.ref k1), none, some (.int x3), some (.int x4), some (.int x5), some (.int x6), some (.int x7)] [] (HP c r) := by
  unfold Texts_value_p112
  refine Ok_blk 3 (pc2 := (if ¬ x7 = 41 then 159 else 119)) (lo2 := [some (.ref 40), some (.ref k1), none, some (.int x3), some (.int x4), some (.int x5), some (.int x6), some (.int x7)]) (st2 := []) rfl ?_
  refine Ok_if (fun h9 => ?_) (fun h9 => ?_)
  · refine Ok_drop (lo0 := [some (.ref 40), some (.ref k1), none, some (.int x3), some (.int x4), some (.int x5), some (.int x6), some (.int x7)]) ⟨Or.inr rfl, Or.inr rfl, Or.inl rfl, Or.inr rfl, Or.inr rfl, Or.inr rfl, Or.inr rfl, Or.inr rfl, trivial⟩ ?_
    exact t_Texts_value_p159 N d xs r k1 j1 hk1 kb14 hb14 c x3 x4 x5 x6 x7
  · refine Ok_blk 2 (pc2 := (if x4 ≤ 0 then 159 else 124)) (lo2 := [some (.ref 40), some (.ref k1), none, some (.int x3), some (.int x4), some (.int x5), some (.int x6), some (.int x7)]) (st2 := []) rfl ?_
    refine Ok_if (fun h21 => ?_) (fun h21 => ?_)
    · refine Ok_drop (lo0 := [some (.ref 40), some (.ref k1), none, some (.int x3), some (.int x4), some (.int x5), some (.int x6), some (.int x7)]) ⟨Or.inr rfl, Or.inr rfl, Or.inl rfl, Or.inr rfl, Or.inr rfl, Or.inr rfl, Or.inr rfl, Or.inr rfl, trivial⟩ ?_
      exact t_Texts_value_p159 N d xs r k1 j1 hk1 kb14 hb14 c x3 x4 x5 x6 x7
    · refine Ok_blk 5 (pc2 := 134) (lo2 := [some (.ref 40), some (.ref k1), none, some (.int x3), some (.int (x4 + (-1))), some (.int x5), some (.int x6), some (.int x7)]) (st2 := [.int (x4 + (-1)), .ref 58, .int (x4 + (-1)), .ref 58]) rfl ?_
      refine Ok_ldl (l := (gB c 1)) rfl rfl (fun y22 hy22 => ?_)
      refine Ok_blk 5 (pc2 := 143) (lo2 := [some (.ref 40), some (.ref k1), none, some (.int x3), some (.int (x4 + (-1))), some (.int x5), some (.int x6), some (.int x7)]) (st2 := [.int ((x4 + (-1)) + 1), .ref 57, .long y22, .int (x4 + (-1)), .ref 58]) rfl ?_
      refine Ok_ldl (l := (gB c 0)) rfl rfl (fun y23 hy23 => ?_)
      refine Ok_blk 5 (pc2 := 152) (lo2 := [some (.ref 40), some (.ref k1), none, some (.int x3), some (.int (x4 + (-1))), some (.int x5), some (.int x6), some (.int x7)]) (st2 := [.int ((x4 + (-1)) + 1), .ref 58, .long y23, .long y22, .int (x4 + (-1)), .ref 58]) rfl ?_
      refine Ok_ldl (l := (gB c 1)) rfl rfl (fun y24 hy24 => ?_)
      refine Ok_blk 2 (pc2 := 155) (lo2 := [some (.ref 40), some (.ref k1), none, some (.int x3), some (.int (x4 + (-1))), some (.int x5), some (.int x6), some (.int x7)]) (st2 := [.long (y22 * (y23 + y24)), .int (x4 + (-1)), .ref 58]) rfl ?_
      refine Ok_stl (l := (gB c 1)) (hn := fun l' => HP (sB c 1 l') r) rfl rfl (fun l' => sa_58 _ _ l') (fun w25 hw25 => ?_)
      refine Ok_blk 1 (pc2 := 238) (lo2 := [some (.ref 40), some (.ref k1), none, some (.int x3), some (.int (x4 + (-1))), some (.int x5), some (.int x6), some (.int x7)]) (st2 := []) rfl ?_
      refine Ok_drop (lo0 := [some (.ref 40), some (.ref k1), none, some (.int x3), some (.int (x4 + (-1))), some (.int x5), some (.int x6), none]) ⟨Or.inr rfl, Or.inr rfl, Or.inl rfl, Or.inr rfl, Or.inr rfl, Or.inr rfl, Or.inr rfl, Or.inl rfl, trivial⟩ ?_
      exact t_Texts_value_p238 N d xs r k1 j1 hk1 kb14 hb14 (sB c 1 w25) x3 (x4 + (-1)) x5 x6
set_option maxHeartbeats 8000000 in
set_option maxRecDepth 100000 in
theorem t_Texts_value_p67 (N d : Nat) (xs : List Int32) (r : St) (k1 j1 : Nat) (hk1 : AR k1 j1) (kb14 : St → Int32 → Int32 → Int32 → Int32 → Option (Int64 × St)) (hb14 : ∀ (c : St) (x3 : Int32) (x4 : Int32) (x5 : Int32) (x6 : Int32), Ok (mBig (mRoL xs) (d + 2)) (mRoL xs) 3 mK98 (fun p : Int64 × St => (some (.long p.1), HP p.2 r)) (kb14 c x3 x4 x5 x6) 14 [some (.ref 40), some (.ref k1), none, some (.int x3), some (.int x4), some (.int x5), some (.int x6), none] [] (HP c r)) (c : St) (x3 : Int32) (x4 : Int32) (x5 : Int32) (x6 : Int32) : Ok (mBig (mRoL xs) (d + 2)) (mRoL xs) 3 mK98 (fun p : Int64 × St => (some (.long p.1), HP p.2 r)) (Texts_value_p67 N kb14 j1 c x3 x4 x5 x6) 67 [some (.ref 40), some (.ref k1), none, some (.int x3), some (.int x4), some (.int x5), some (.int x6), none] [] (HP c r) := by
  unfold Texts_value_p67
  refine Ok_blk 4 (pc2 := 74) (lo2 := [some (.ref 40), some (.ref k1), none, some (.int x3), some (.int x4), some (.int x5), some (.int x6), none]) (st2 := [.int x4, .ref 58, .int x4, .ref 58]) rfl ?_
  refine Ok_ldl (l := (gB c 1)) rfl rfl (fun y29 hy29 => ?_)
  refine Ok_blk 3 (pc2 := 79) (lo2 := [some (.ref 40), some (.ref k1), none, some (.int x3), some (.int x4), some (.int x5), some (.int x6), none]) (st2 := [.long (y29 * x5.toInt64), .int x4, .ref 58]) rfl ?_
  refine Ok_stl (l := (gB c 1)) (hn := fun l' => HP (sB c 1 l') r) rfl rfl (fun l' => sa_58 _ _ l') (fun w30 hw30 => ?_)
  refine Ok_blk 3 (pc2 := 238) (lo2 := [some (.ref 40), some (.ref k1), none, some (.int x3), some (.int x4), some (.int 0), some (.int x6), none]) (st2 := []) rfl ?_
  refine Ok_drop (lo0 := [some (.ref 40), some (.ref k1), none, some (.int x3), some (.int x4), some (.int 0), some (.int x6), none]) ⟨Or.inr rfl, Or.inr rfl, Or.inl rfl, Or.inr rfl, Or.inr rfl, Or.inr rfl, Or.inr rfl, Or.inl rfl, trivial⟩ ?_
  exact t_Texts_value_p238 N d xs r k1 j1 hk1 kb14 hb14 (sB c 1 w30) x3 x4 0 x6
set_option maxHeartbeats 8000000 in
set_option maxRecDepth 100000 in
theorem t_Texts_value_p14b (N d : Nat) (xs : List Int32) (r : St) (k1 j1 : Nat) (hk1 : AR k1 j1) (kb14 : St → Int32 → Int32 → Int32 → Int32 → Option (Int64 × St)) (hb14 : ∀ (c : St) (x3 : Int32) (x4 : Int32) (x5 : Int32) (x6 : Int32), Ok (mBig (mRoL xs) (d + 2)) (mRoL xs) 3 mK98 (fun p : Int64 × St => (some (.long p.1), HP p.2 r)) (kb14 c x3 x4 x5 x6) 14 [some (.ref 40), some (.ref k1), none, some (.int x3), some (.int x4), some (.int x5), some (.int x6), none] [] (HP c r)) (c : St) (x3 : Int32) (x4 : Int32) (x5 : Int32) (x6 : Int32) : Ok (mBig (mRoL xs) (d + 2)) (mRoL xs) 3 mK98 (fun p : Int64 × St => (some (.long p.1), HP p.2 r)) (Texts_value_p14b N kb14 j1 c x3 x4 x5 x6) 14 [some (.ref 40), some (.ref k1), none, some (.int x3), some (.int x4), some (.int x5), some (.int x6), none] [] (HP c r) := by
  unfold Texts_value_p14b
  refine Ok_blk 3 (pc2 := (if x3 ≤ x6 then 244 else 20)) (lo2 := [some (.ref 40), some (.ref k1), none, some (.int x3), some (.int x4), some (.int x5), some (.int x6), none]) (st2 := []) rfl ?_
  refine Ok_if (fun h2 => ?_) (fun h2 => ?_)
  · refine Ok_blk 3 (pc2 := 249) (lo2 := [some (.ref 40), some (.ref k1), none, some (.int x3), some (.int x4), some (.int x5), some (.int x6), none]) (st2 := [.int 0, .ref 57]) rfl ?_
    refine Ok_ldl (l := (gB c 0)) rfl rfl (fun y3 hy3 => ?_)
    refine Ok_blk 3 (pc2 := 255) (lo2 := [some (.ref 40), some (.ref k1), none, some (.int x3), some (.int x4), some (.int x5), some (.int x6), none]) (st2 := [.int 0, .ref 58, .long y3]) rfl ?_
    refine Ok_ldl (l := (gB c 1)) rfl rfl (fun y4 hy4 => ?_)
    refine Ok_blk 1 (pc2 := 257) (lo2 := [some (.ref 40), some (.ref k1), none, some (.int x3), some (.int x4), some (.int x5), some (.int x6), none]) (st2 := [.long (y3 + y4)]) rfl ?_
    exact Ok_ret rfl rfl rfl
  · refine Ok_blk 2 (pc2 := 23) (lo2 := [some (.ref 40), some (.ref k1), none, some (.int x3), some (.int x4), some (.int x5), some (.int x6), none]) (st2 := [.int x6, .ref k1]) rfl ?_
    refine Ok_ld (l := (gA c j1)) rfl (hk1.row _ _ _) (fun y5 hy5 => ?_)
    refine Ok_blk 2 (pc2 := 28) (lo2 := [some (.ref 40), some (.ref k1), none, some (.int x3), some (.int x4), some (.int x5), some (.int x6), some (.int y5)]) (st2 := [.int y5]) rfl ?_
    refine Ok_call (y := 91) (as := [.int y5]) (rest := []) (w := fun p6 => some (.int p6)) (h1 := fun p6 => HP c r) rfl rfl (fun x hx => tm_Texts_isDigit N d xs c r y5 x hx) (fun p6 hp6 => ?_)
    refine Ok_blk 1 (pc2 := (if p6 = 0 then 86 else 34)) (lo2 := [some (.ref 40), some (.ref k1), none, some (.int x3), some (.int x4), some (.int x5), some (.int x6), some (.int y5)]) (st2 := []) rfl ?_
    refine Ok_if (fun h7 => ?_) (fun h7 => ?_)
    · refine Ok_blk 3 (pc2 := (if ¬ y5 = 40 then 112 else 93)) (lo2 := [some (.ref 40), some (.ref k1), none, some (.int x3), some (.int x4), some (.int x5), some (.int x6), some (.int y5)]) (st2 := []) rfl ?_
      refine Ok_if (fun h8 => ?_) (fun h8 => ?_)
      · refine Ok_drop (lo0 := [some (.ref 40), some (.ref k1), none, some (.int x3), some (.int x4), some (.int x5), some (.int x6), some (.int y5)]) ⟨Or.inr rfl, Or.inr rfl, Or.inl rfl, Or.inr rfl, Or.inr rfl, Or.inr rfl, Or.inr rfl, Or.inr rfl, trivial⟩ ?_
        exact t_Texts_value_p112 N d xs r k1 j1 hk1 kb14 hb14 c x3 x4 x5 x6 y5
      · refine Ok_blk 3 (pc2 := (if 59 ≤ x4 then 112 else 100)) (lo2 := [some (.ref 40), some (.ref k1), none, some (.int x3), some (.int x4), some (.int x5), some (.int x6), some (.int y5)]) (st2 := []) rfl ?_
        refine Ok_if (fun h26 => ?_) (fun h26 => ?_)
        · refine Ok_drop (lo0 := [some (.ref 40), some (.ref k1), none, some (.int x3), some (.int x4), some (.int x5), some (.int x6), some (.int y5)]) ⟨Or.inr rfl, Or.inr rfl, Or.inl rfl, Or.inr rfl, Or.inr rfl, Or.inr rfl, Or.inr rfl, Or.inr rfl, trivial⟩ ?_
          exact t_Texts_value_p112 N d xs r k1 j1 hk1 kb14 hb14 c x3 x4 x5 x6 y5
        · refine Ok_blk 3 (pc2 := 106) (lo2 := [some (.ref 40), some (.ref k1), none, some (.int x3), some (.int (x4 + 1)), some (.int x5), some (.int x6), some (.int y5)]) (st2 := [.int (x4 + 1), .ref 40]) rfl ?_
          refine Ok_call (y := 99) (as := [.ref 40, .int (x4 + 1)]) (rest := []) (w := fun p27 => none) (h1 := fun p27 => HP p27 r) rfl rfl (fun x hx => tm_Texts_begin N (d + 1) xs c r (x4 + 1) x hx) (fun p27 hp27 => ?_)
          refine Ok_blk 1 (pc2 := 238) (lo2 := [some (.ref 40), some (.ref k1), none, some (.int x3), some (.int (x4 + 1)), some (.int x5), some (.int x6), some (.int y5)]) (st2 := []) rfl ?_
          refine Ok_drop (lo0 := [some (.ref 40), some (.ref k1), none, some (.int x3), some (.int (x4 + 1)), some (.int x5), some (.int x6), none]) ⟨Or.inr rfl, Or.inr rfl, Or.inl rfl, Or.inr rfl, Or.inr rfl, Or.inr rfl, Or.inr rfl, Or.inl rfl, trivial⟩ ?_
          exact t_Texts_value_p238 N d xs r k1 j1 hk1 kb14 hb14 p27 x3 (x4 + 1) x5 x6
    · refine Ok_blk 13 (pc2 := (if x3 ≤ (x6 + 1) then 67 else 55)) (lo2 := [some (.ref 40), some (.ref k1), none, some (.int x3), some (.int x4), some (.int (((10 * x5) + y5) - 48)), some (.int x6), some (.int y5)]) (st2 := []) rfl ?_
      refine Ok_if (fun h28 => ?_) (fun h28 => ?_)
      · refine Ok_drop (lo0 := [some (.ref 40), some (.ref k1), none, some (.int x3), some (.int x4), some (.int (((10 * x5) + y5) - 48)), some (.int x6), none]) ⟨Or.inr rfl, Or.inr rfl, Or.inl rfl, Or.inr rfl, Or.inr rfl, Or.inr rfl, Or.inr rfl, Or.inl rfl, trivial⟩ ?_
        exact t_Texts_value_p67 N d xs r k1 j1 hk1 kb14 hb14 c x3 x4 (((10 * x5) + y5) - 48) x6
      · refine Ok_blk 4 (pc2 := 60) (lo2 := [some (.ref 40), some (.ref k1), none, some (.int x3), some (.int x4), some (.int (((10 * x5) + y5) - 48)), some (.int x6), some (.int y5)]) (st2 := [.int (x6 + 1), .ref k1]) rfl ?_
        refine Ok_ld (l := (gA c j1)) rfl (hk1.row _ _ _) (fun y31 hy31 => ?_)
        refine Ok_call (y := 91) (as := [.int y31]) (rest := []) (w := fun p32 => some (.int p32)) (h1 := fun p32 => HP c r) rfl rfl (fun x hx => tm_Texts_isDigit N d xs c r y31 x hx) (fun p32 hp32 => ?_)
        refine Ok_blk 1 (pc2 := (if ¬ p32 = 0 then 238 else 67)) (lo2 := [some (.ref 40), some (.ref k1), none, some (.int x3), some (.int x4), some (.int (((10 * x5) + y5) - 48)), some (.int x6), some (.int y5)]) (st2 := []) rfl ?_
        refine Ok_if (fun h33 => ?_) (fun h33 => ?_)
        · refine Ok_drop (lo0 := [some (.ref 40), some (.ref k1), none, some (.int x3), some (.int x4), some (.int (((10 * x5) + y5) - 48)), some (.int x6), none]) ⟨Or.inr rfl, Or.inr rfl, Or.inl rfl, Or.inr rfl, Or.inr rfl, Or.inr rfl, Or.inr rfl, Or.inl rfl, trivial⟩ ?_
          exact t_Texts_value_p238 N d xs r k1 j1 hk1 kb14 hb14 c x3 x4 (((10 * x5) + y5) - 48) x6
        · refine Ok_drop (lo0 := [some (.ref 40), some (.ref k1), none, some (.int x3), some (.int x4), some (.int (((10 * x5) + y5) - 48)), some (.int x6), none]) ⟨Or.inr rfl, Or.inr rfl, Or.inl rfl, Or.inr rfl, Or.inr rfl, Or.inr rfl, Or.inr rfl, Or.inl rfl, trivial⟩ ?_
          exact t_Texts_value_p67 N d xs r k1 j1 hk1 kb14 hb14 c x3 x4 (((10 * x5) + y5) - 48) x6
set_option maxHeartbeats 8000000 in
set_option maxRecDepth 100000 in
theorem t_Texts_value_p14 (N d : Nat) (xs : List Int32) (r : St) (k1 j1 : Nat) (hk1 : AR k1 j1) : ∀ (n : Nat) (c : St) (x3 : Int32) (x4 : Int32) (x5 : Int32) (x6 : Int32), Ok (mBig (mRoL xs) (d + 2)) (mRoL xs) 3 mK98 (fun p : Int64 × St => (some (.long p.1), HP p.2 r)) (Texts_value_p14 N j1 n c x3 x4 x5 x6) 14 [some (.ref 40), some (.ref k1), none, some (.int x3), some (.int x4), some (.int x5), some (.int x6), none] [] (HP c r) := by
  intro n
  induction n with
  | zero => intro c x3 x4 x5 x6; exact Ok_none
  | succ n ih => intro c x3 x4 x5 x6; exact t_Texts_value_p14b N d xs r k1 j1 hk1 (Texts_value_p14 N j1 n) ih c x3 x4 x5 x6
set_option maxHeartbeats 8000000 in
set_option maxRecDepth 100000 in
theorem t_Texts_value (N d : Nat) (xs : List Int32) (r : St) (k1 j1 : Nat) (hk1 : AR k1 j1) (c : St) (x2 : Int32) (x3 : Int32) : Ok (mBig (mRoL xs) (d + 2)) (mRoL xs) 3 mK98 (fun p : Int64 × St => (some (.long p.1), HP p.2 r)) (Texts_value N j1 c x2 x3) 0 [some (.ref 40), some (.ref k1), some (.int x2), some (.int x3), none, none, none, none] [] (HP c r) := by
  unfold Texts_value
  refine Ok_blk 6 (pc2 := 8) (lo2 := [some (.ref 40), some (.ref k1), some (.int x2), some (.int x3), some (.int 0), some (.int 0), none, none]) (st2 := [.int 0, .ref 40]) rfl ?_
  refine Ok_call (y := 99) (as := [.ref 40, .int 0]) (rest := []) (w := fun p1 => none) (h1 := fun p1 => HP p1 r) rfl rfl (fun x hx => tm_Texts_begin N (d + 1) xs c r 0 x hx) (fun p1 hp1 => ?_)
  refine Ok_blk 2 (pc2 := 14) (lo2 := [some (.ref 40), some (.ref k1), some (.int x2), some (.int x3), some (.int 0), some (.int 0), some (.int x2), none]) (st2 := []) rfl ?_
  refine Ok_drop (lo0 := [some (.ref 40), some (.ref k1), none, some (.int x3), some (.int 0), some (.int 0), some (.int x2), none]) ⟨Or.inr rfl, Or.inr rfl, Or.inl rfl, Or.inr rfl, Or.inr rfl, Or.inr rfl, Or.inr rfl, Or.inl rfl, trivial⟩ ?_
  exact t_Texts_value_p14 N d xs r k1 j1 hk1 N p1 x3 0 0 x2
set_option maxHeartbeats 8000000 in
set_option maxRecDepth 100000 in
theorem tm_Texts_value (N d : Nat) (xs : List Int32) (c r : St) (k1 j1 : Nat) (hk1 : AR k1 j1) (a2 : Int32) (a3 : Int32) (p : Int64 × St) (hp : Texts_value N j1 c a2 a3 = some p) : mBig (mRoL xs) (d + 3) 98 [.ref 40, .ref k1, .int a2, .int a3] (HP c r) (some (.long p.1)) (HP p.2 r) 0 0 := mBig_of (by decide) rfl rfl rfl rfl (t_Texts_value N d xs r k1 j1 hk1 c a2 a3 p hp)
/-! ColdHolds$Texts.valueOf(II)J, from (('r', 40), 'i', 'i') -/
def Texts_valueOf (N : Nat) (c : St) (x1 : Int32) (x2 : Int32) : Option (Int64 × St) :=
  (if ¬ x2 = 0 then (rwi x1 12).bind fun q2 => (ld (gA c 48) x1).bind fun y3 => (ld (gA c 47) x1).bind fun y4 => (Texts_value N (35 + q2) c (y3 + 1) y4).bind fun p5 => some (p5.1, p5.2) else (rwi x1 12).bind fun q6 => (ld (gA c 48) x1).bind fun y7 => (Texts_value N (35 + q6) c 2 y7).bind fun p8 => some (p8.1, p8.2))
set_option maxHeartbeats 8000000 in
set_option maxRecDepth 100000 in
theorem t_Texts_valueOf (N d : Nat) (xs : List Int32) (r : St) (c : St) (x1 : Int32) (x2 : Int32) : Ok (mBig (mRoL xs) (d + 3)) (mRoL xs) 3 mK97 (fun p : Int64 × St => (some (.long p.1), HP p.2 r)) (Texts_valueOf N c x1 x2) 0 [some (.ref 40), some (.int x1), some (.int x2)] [] (HP c r) := by
  unfold Texts_valueOf
  refine Ok_blk 2 (pc2 := (if ¬ x2 = 0 then 24 else 4)) (lo2 := [some (.ref 40), some (.int x1), some (.int x2)]) (st2 := []) rfl ?_
  refine Ok_if (fun h1 => ?_) (fun h1 => ?_)
  · refine Ok_blk 4 (pc2 := 30) (lo2 := [some (.ref 40), some (.int x1), some (.int x2)]) (st2 := [.int x1, .ref 42, .ref 40]) rfl ?_
    refine Ok_rw (b := 43) (n := 12) rfl rfl (fun j h => rowl_42 j h) (fun q2 hq2 => ?_)
    refine Ok_blk 3 (pc2 := 36) (lo2 := [some (.ref 40), some (.int x1), some (.int x2)]) (st2 := [.int x1, .ref 56, .ref (43 + q2), .ref 40]) rfl ?_
    refine Ok_ld (l := (gA c 48)) rfl rfl (fun y3 hy3 => ?_)
    refine Ok_blk 5 (pc2 := 44) (lo2 := [some (.ref 40), some (.int x1), some (.int x2)]) (st2 := [.int x1, .ref 55, .int (y3 + 1), .ref (43 + q2), .ref 40]) rfl ?_
    refine Ok_ld (l := (gA c 47)) rfl rfl (fun y4 hy4 => ?_)
    refine Ok_call (y := 98) (as := [.ref 40, .ref (43 + q2), .int (y3 + 1), .int y4]) (rest := []) (w := fun p5 => some (.long p5.1)) (h1 := fun p5 => HP p5.2 r) rfl rfl (fun x hx => tm_Texts_value N d xs c r (43 + q2) (35 + q2) (rows_42 hq2) (y3 + 1) y4 x hx) (fun p5 hp5 => ?_)
    exact Ok_ret rfl rfl rfl
  · refine Ok_blk 4 (pc2 := 10) (lo2 := [some (.ref 40), some (.int x1), some (.int x2)]) (st2 := [.int x1, .ref 42, .ref 40]) rfl ?_
    refine Ok_rw (b := 43) (n := 12) rfl rfl (fun j h => rowl_42 j h) (fun q6 hq6 => ?_)
    refine Ok_blk 4 (pc2 := 17) (lo2 := [some (.ref 40), some (.int x1), some (.int x2)]) (st2 := [.int x1, .ref 56, .int 2, .ref (43 + q6), .ref 40]) rfl ?_
    refine Ok_ld (l := (gA c 48)) rfl rfl (fun y7 hy7 => ?_)
    refine Ok_call (y := 98) (as := [.ref 40, .ref (43 + q6), .int 2, .int y7]) (rest := []) (w := fun p8 => some (.long p8.1)) (h1 := fun p8 => HP p8.2 r) rfl rfl (fun x hx => tm_Texts_value N d xs c r (43 + q6) (35 + q6) (rows_42 hq6) 2 y7 x hx) (fun p8 hp8 => ?_)
    refine Ok_blk 1 (pc2 := 48) (lo2 := [some (.ref 40), some (.int x1), some (.int x2)]) (st2 := [.long p8.1]) rfl ?_
    exact Ok_ret rfl rfl rfl
set_option maxHeartbeats 8000000 in
set_option maxRecDepth 100000 in
theorem tm_Texts_valueOf (N d : Nat) (xs : List Int32) (c r : St) (a1 : Int32) (a2 : Int32) (p : Int64 × St) (hp : Texts_valueOf N c a1 a2 = some p) : mBig (mRoL xs) (d + 4) 97 [.ref 40, .int a1, .int a2] (HP c r) (some (.long p.1)) (HP p.2 r) 0 0 := mBig_of (by decide) rfl rfl rfl rfl (t_Texts_valueOf N d xs r c a1 a2 p hp)
/-! ColdHolds.sumOf(III)J, from (('r', 0), 'i', 'i', 'i') -/
def C_sumOf (N : Nat) (c : St) (x1 : Int32) (x2 : Int32) (x3 : Int32) : Option (Int64 × St) :=
  (ld (gA c 6) x2).bind fun y1 => (ld (gA (sI c 8 y1) 12) x2).bind fun y2 => (ld (gA (sI c 8 y1) 5) y2).bind fun y3 => (ld (gA (sI (sI c 8 y1) 9 y3) 13) x2).bind fun y4 => (ld (gA (sI (sI (sI c 8 y1) 9 y3) 10 ((gI (sI (sI c 8 y1) 9 y3) 1) - y4)) 11) x2).bind fun y5 => (Texts_valueOf N (sI (sI (sI (sI c 8 y1) 9 y3) 10 ((gI (sI (sI c 8 y1) 9 y3) 1) - y4)) 11 y5) x1 x3).bind fun p6 => some (p6.1, p6.2)
set_option maxHeartbeats 8000000 in
set_option maxRecDepth 100000 in
theorem t_C_sumOf (N d : Nat) (xs : List Int32) (r : St) (c : St) (x1 : Int32) (x2 : Int32) (x3 : Int32) : Ok (mBig (mRoL xs) (d + 4)) (mRoL xs) 3 mK128 (fun p : Int64 × St => (some (.long p.1), HP p.2 r)) (C_sumOf N c x1 x2 x3) 0 [some (.ref 0), some (.int x1), some (.int x2), some (.int x3)] [] (HP c r) := by
  unfold C_sumOf
  refine Ok_blk 6 (pc2 := 12) (lo2 := [some (.ref 0), some (.int x1), some (.int x2), some (.int x3)]) (st2 := [.int x2, .ref 9, .ref 40]) rfl ?_
  refine Ok_ld (l := (gA c 6)) rfl rfl (fun y1 hy1 => ?_)
  refine Ok_heap 1 (pc2 := 16) (lo2 := [some (.ref 0), some (.int x1), some (.int x2), some (.int x3)]) (st2 := []) (h2 := HP (sI c 8 y1) r) rfl (st_40_3 _ _ _) ?_
  refine Ok_blk 9 (pc2 := 35) (lo2 := [some (.ref 0), some (.int x1), some (.int x2), some (.int x3)]) (st2 := [.int x2, .ref 17, .ref 8, .ref 40]) rfl ?_
  refine Ok_ld (l := (gA (sI c 8 y1) 12)) rfl rfl (fun y2 hy2 => ?_)
  refine Ok_ld (l := (gA (sI c 8 y1) 5)) rfl rfl (fun y3 hy3 => ?_)
  refine Ok_heap 1 (pc2 := 40) (lo2 := [some (.ref 0), some (.int x1), some (.int x2), some (.int x3)]) (st2 := []) (h2 := HP (sI (sI c 8 y1) 9 y3) r) rfl (st_40_4 _ _ _) ?_
  refine Ok_blk 9 (pc2 := 59) (lo2 := [some (.ref 0), some (.int x1), some (.int x2), some (.int x3)]) (st2 := [.int x2, .ref 18, .int (gI (sI (sI c 8 y1) 9 y3) 1), .ref 40]) rfl ?_
  refine Ok_ld (l := (gA (sI (sI c 8 y1) 9 y3) 13)) rfl rfl (fun y4 hy4 => ?_)
  refine Ok_heap 2 (pc2 := 64) (lo2 := [some (.ref 0), some (.int x1), some (.int x2), some (.int x3)]) (st2 := []) (h2 := HP (sI (sI (sI c 8 y1) 9 y3) 10 ((gI (sI (sI c 8 y1) 9 y3) 1) - y4)) r) rfl (st_40_5 _ _ _) ?_
  refine Ok_blk 6 (pc2 := 76) (lo2 := [some (.ref 0), some (.int x1), some (.int x2), some (.int x3)]) (st2 := [.int x2, .ref 16, .ref 40]) rfl ?_
  refine Ok_ld (l := (gA (sI (sI (sI c 8 y1) 9 y3) 10 ((gI (sI (sI c 8 y1) 9 y3) 1) - y4)) 11)) rfl rfl (fun y5 hy5 => ?_)
  refine Ok_heap 1 (pc2 := 80) (lo2 := [some (.ref 0), some (.int x1), some (.int x2), some (.int x3)]) (st2 := []) (h2 := HP (sI (sI (sI (sI c 8 y1) 9 y3) 10 ((gI (sI (sI c 8 y1) 9 y3) 1) - y4)) 11 y5) r) rfl (st_40_6 _ _ _) ?_
  refine Ok_blk 4 (pc2 := 86) (lo2 := [some (.ref 0), some (.int x1), some (.int x2), some (.int x3)]) (st2 := [.int x3, .int x1, .ref 40]) rfl ?_
  refine Ok_call (y := 97) (as := [.ref 40, .int x1, .int x3]) (rest := []) (w := fun p6 => some (.long p6.1)) (h1 := fun p6 => HP p6.2 r) rfl rfl (fun x hx => tm_Texts_valueOf N d xs (sI (sI (sI (sI c 8 y1) 9 y3) 10 ((gI (sI (sI c 8 y1) 9 y3) 1) - y4)) 11 y5) r x1 x3 x hx) (fun p6 hp6 => ?_)
  exact Ok_ret rfl rfl rfl
set_option maxHeartbeats 8000000 in
set_option maxRecDepth 100000 in
theorem tm_C_sumOf (N d : Nat) (xs : List Int32) (c r : St) (a1 : Int32) (a2 : Int32) (a3 : Int32) (p : Int64 × St) (hp : C_sumOf N c a1 a2 a3 = some p) : mBig (mRoL xs) (d + 5) 128 [.ref 0, .int a1, .int a2, .int a3] (HP c r) (some (.long p.1)) (HP p.2 r) 0 0 := mBig_of (by decide) rfl rfl rfl rfl (t_C_sumOf N d xs r c a1 a2 a3 p hp)
/-! ColdHolds$Texts.lastOf(I)I, from (('r', 40), 'i') -/
def Texts_lastOf_p7b (N : Nat) (kb7 : Int32 → Int32 → Option (Int32)) (c : St) (x1 : Int32) (x2 : Int32) : Option (Int32) :=
  (if x2 < 0 then some (-1) else (rwi x2 12).bind fun q2 => (ld (gA c (35 + q2)) 0).bind fun y3 => (Texts_letterNumber N y3).bind fun p4 => (if ¬ p4 = x1 then kb7 x1 (x2 + (-1)) else some x2))
def Texts_lastOf_p7 (N : Nat) (c : St) : Nat → Int32 → Int32 → Option (Int32)
  | 0 => fun _ _ => none
  | n + 1 => Texts_lastOf_p7b N (Texts_lastOf_p7 N c n) c
def Texts_lastOf (N : Nat) (c : St) (x1 : Int32) : Option (Int32) :=
  Texts_lastOf_p7 N c N x1 ((gI c 7) - 1)
set_option maxHeartbeats 8000000 in
set_option maxRecDepth 100000 in
theorem t_Texts_lastOf_p7b (N d : Nat) (xs : List Int32) (c : St) (r : St) (kb7 : Int32 → Int32 → Option (Int32)) (hb7 : ∀ (x1 : Int32) (x2 : Int32), Ok (mBig (mRoL xs) (d + 1)) (mRoL xs) 1 mK95 (fun p : Int32 => (some (.int p), HP c r)) (kb7 x1 x2) 7 [some (.ref 40), some (.int x1), some (.int x2)] [] (HP c r)) (x1 : Int32) (x2 : Int32) : Ok (mBig (mRoL xs) (d + 1)) (mRoL xs) 1 mK95 (fun p : Int32 => (some (.int p), HP c r)) (Texts_lastOf_p7b N kb7 c x1 x2) 7 [some (.ref 40), some (.int x1), some (.int x2)] [] (HP c r) := by
  unfold Texts_lastOf_p7b
  refine Ok_blk 2 (pc2 := (if x2 < 0 then 34 else 11)) (lo2 := [some (.ref 40), some (.int x1), some (.int x2)]) (st2 := []) rfl ?_
  refine Ok_if (fun h1 => ?_) (fun h1 => ?_)
  · refine Ok_blk 1 (pc2 := 35) (lo2 := [some (.ref 40), some (.int x1), some (.int x2)]) (st2 := [.int (-1)]) rfl ?_
    exact Ok_ret rfl rfl rfl
  · refine Ok_blk 3 (pc2 := 16) (lo2 := [some (.ref 40), some (.int x1), some (.int x2)]) (st2 := [.int x2, .ref 42]) rfl ?_
    refine Ok_rw (b := 43) (n := 12) rfl rfl (fun j h => rowl_42 j h) (fun q2 hq2 => ?_)
    refine Ok_blk 1 (pc2 := 18) (lo2 := [some (.ref 40), some (.int x1), some (.int x2)]) (st2 := [.int 0, .ref (43 + q2)]) rfl ?_
    refine Ok_ld (l := (gA c (35 + q2))) rfl ((rows_42 hq2).row _ _ _) (fun y3 hy3 => ?_)
    refine Ok_call (y := 92) (as := [.int y3]) (rest := []) (w := fun p4 => some (.int p4)) (h1 := fun p4 => HP c r) rfl rfl (fun x hx => tm_Texts_letterNumber N d xs c r y3 x hx) (fun p4 hp4 => ?_)
    refine Ok_blk 2 (pc2 := (if ¬ p4 = x1 then 28 else 26)) (lo2 := [some (.ref 40), some (.int x1), some (.int x2)]) (st2 := []) rfl ?_
    refine Ok_if (fun h5 => ?_) (fun h5 => ?_)
    · refine Ok_blk 2 (pc2 := 7) (lo2 := [some (.ref 40), some (.int x1), some (.int (x2 + (-1)))]) (st2 := []) rfl ?_
      refine Ok_drop (lo0 := [some (.ref 40), some (.int x1), some (.int (x2 + (-1)))]) ⟨Or.inr rfl, Or.inr rfl, Or.inr rfl, trivial⟩ ?_
      exact hb7 x1 (x2 + (-1))
    · refine Ok_blk 1 (pc2 := 27) (lo2 := [some (.ref 40), some (.int x1), some (.int x2)]) (st2 := [.int x2]) rfl ?_
      exact Ok_ret rfl rfl rfl
set_option maxHeartbeats 8000000 in
set_option maxRecDepth 100000 in
theorem t_Texts_lastOf_p7 (N d : Nat) (xs : List Int32) (c : St) (r : St) : ∀ (n : Nat) (x1 : Int32) (x2 : Int32), Ok (mBig (mRoL xs) (d + 1)) (mRoL xs) 1 mK95 (fun p : Int32 => (some (.int p), HP c r)) (Texts_lastOf_p7 N c n x1 x2) 7 [some (.ref 40), some (.int x1), some (.int x2)] [] (HP c r) := by
  intro n
  induction n with
  | zero => intro x1 x2; exact Ok_none
  | succ n ih => intro x1 x2; exact t_Texts_lastOf_p7b N d xs c r (Texts_lastOf_p7 N c n) ih x1 x2
set_option maxHeartbeats 8000000 in
set_option maxRecDepth 100000 in
theorem t_Texts_lastOf (N d : Nat) (xs : List Int32) (c : St) (r : St) (x1 : Int32) : Ok (mBig (mRoL xs) (d + 1)) (mRoL xs) 1 mK95 (fun p : Int32 => (some (.int p), HP c r)) (Texts_lastOf N c x1) 0 [some (.ref 40), some (.int x1), none] [] (HP c r) := by
  unfold Texts_lastOf
  refine Ok_blk 5 (pc2 := 7) (lo2 := [some (.ref 40), some (.int x1), some (.int ((gI c 7) - 1))]) (st2 := []) rfl ?_
  refine Ok_drop (lo0 := [some (.ref 40), some (.int x1), some (.int ((gI c 7) - 1))]) ⟨Or.inr rfl, Or.inr rfl, Or.inr rfl, trivial⟩ ?_
  exact t_Texts_lastOf_p7 N d xs c r N x1 ((gI c 7) - 1)
set_option maxHeartbeats 8000000 in
set_option maxRecDepth 100000 in
theorem tm_Texts_lastOf (N d : Nat) (xs : List Int32) (c r : St) (a1 : Int32) (p : Int32) (hp : Texts_lastOf N c a1 = some p) : mBig (mRoL xs) (d + 2) 95 [.ref 40, .int a1] (HP c r) (some (.int p)) (HP c r) 0 0 := mBig_of (by decide) rfl rfl rfl rfl (t_Texts_lastOf N d xs c r a1 p hp)
/-! ColdHolds$Texts.holds(IJJ)Z, from (('r', 40), 'i', 'l', 'l') -/
def Texts_holds (N : Nat) (c : St) (x1 : Int32) (x2 : Int64) (x4 : Int64) : Option (Int32) :=
  (rwi x1 12).bind fun q1 => (ld (gA c 48) x1).bind fun y2 => (ld (gA c (35 + q1)) y2).bind fun y3 => (if y3 = 60 then (if 0 ≤ (mLc x2 x4) then some 0 else some 1) else (if y3 = 61 then (if ¬ (mLc x2 x4) = 0 then some 0 else some 1) else (if (mLc x2 x4) ≤ 0 then some 0 else some 1)))
set_option maxHeartbeats 8000000 in
set_option maxRecDepth 100000 in
theorem t_Texts_holds (N d : Nat) (xs : List Int32) (c : St) (r : St) (x1 : Int32) (x2 : Int64) (x4 : Int64) : Ok (mBig (mRoL xs) (d)) (mRoL xs) 2 mK96 (fun p : Int32 => (some (.int p), HP c r)) (Texts_holds N c x1 x2 x4) 0 [some (.ref 40), some (.int x1), some (.long x2), none, some (.long x4), none] [] (HP c r) := by
  unfold Texts_holds
  refine Ok_blk 3 (pc2 := 5) (lo2 := [some (.ref 40), some (.int x1), some (.long x2), none, some (.long x4), none]) (st2 := [.int x1, .ref 42]) rfl ?_
  refine Ok_rw (b := 43) (n := 12) rfl rfl (fun j h => rowl_42 j h) (fun q1 hq1 => ?_)
  refine Ok_blk 3 (pc2 := 11) (lo2 := [some (.ref 40), some (.int x1), some (.long x2), none, some (.long x4), none]) (st2 := [.int x1, .ref 56, .ref (43 + q1)]) rfl ?_
  refine Ok_ld (l := (gA c 48)) rfl rfl (fun y2 hy2 => ?_)
  refine Ok_ld (l := (gA c (35 + q1))) rfl ((rows_42 hq1).row _ _ _) (fun y3 hy3 => ?_)
  refine Ok_blk 1 (pc2 := mSw y3 [(60, 40), (61, 53)] 66) (lo2 := [some (.ref 40), some (.int x1), some (.long x2), none, some (.long x4), none]) (st2 := []) rfl ?_
  refine Ok_sw (fun h4 => ?_) (fun h4 => ?_)
  · refine Ok_blk 4 (pc2 := (if 0 ≤ (mLc x2 x4) then 51 else 47)) (lo2 := [some (.ref 40), some (.int x1), some (.long x2), none, some (.long x4), none]) (st2 := []) rfl ?_
    refine Ok_if (fun h5 => ?_) (fun h5 => ?_)
    · refine Ok_blk 1 (pc2 := 52) (lo2 := [some (.ref 40), some (.int x1), some (.long x2), none, some (.long x4), none]) (st2 := [.int 0]) rfl ?_
      exact Ok_rez (Or.inl rfl) rfl rfl
    · refine Ok_blk 2 (pc2 := 52) (lo2 := [some (.ref 40), some (.int x1), some (.long x2), none, some (.long x4), none]) (st2 := [.int 1]) rfl ?_
      exact Ok_rez (Or.inr rfl) rfl rfl
  refine Ok_sw (fun h6 => ?_) (fun h6 => ?_)
  · refine Ok_blk 4 (pc2 := (if ¬ (mLc x2 x4) = 0 then 64 else 60)) (lo2 := [some (.ref 40), some (.int x1), some (.long x2), none, some (.long x4), none]) (st2 := []) rfl ?_
    refine Ok_if (fun h7 => ?_) (fun h7 => ?_)
    · refine Ok_blk 1 (pc2 := 65) (lo2 := [some (.ref 40), some (.int x1), some (.long x2), none, some (.long x4), none]) (st2 := [.int 0]) rfl ?_
      exact Ok_rez (Or.inl rfl) rfl rfl
    · refine Ok_blk 2 (pc2 := 65) (lo2 := [some (.ref 40), some (.int x1), some (.long x2), none, some (.long x4), none]) (st2 := [.int 1]) rfl ?_
      exact Ok_rez (Or.inr rfl) rfl rfl
  show Ok _ _ _ _ _ _ 66 _ _ _
  refine Ok_blk 4 (pc2 := (if (mLc x2 x4) ≤ 0 then 77 else 73)) (lo2 := [some (.ref 40), some (.int x1), some (.long x2), none, some (.long x4), none]) (st2 := []) rfl ?_
  refine Ok_if (fun h8 => ?_) (fun h8 => ?_)
  · refine Ok_blk 1 (pc2 := 78) (lo2 := [some (.ref 40), some (.int x1), some (.long x2), none, some (.long x4), none]) (st2 := [.int 0]) rfl ?_
    exact Ok_rez (Or.inl rfl) rfl rfl
  · refine Ok_blk 2 (pc2 := 78) (lo2 := [some (.ref 40), some (.int x1), some (.long x2), none, some (.long x4), none]) (st2 := [.int 1]) rfl ?_
    exact Ok_rez (Or.inr rfl) rfl rfl
set_option maxHeartbeats 8000000 in
set_option maxRecDepth 100000 in
theorem tm_Texts_holds (N d : Nat) (xs : List Int32) (c r : St) (a1 : Int32) (a2 : Int64) (a3 : Int64) (p : Int32) (hp : Texts_holds N c a1 a2 a3 = some p) : mBig (mRoL xs) (d + 1) 96 [.ref 40, .int a1, .long a2, .long a3] (HP c r) (some (.int p)) (HP c r) 0 0 := mBig_of (by decide) rfl rfl rfl rfl (t_Texts_holds N d xs c r a1 a2 a3 p hp)
/-! ColdHolds.says(II)I, from (('r', 0), 'i', 'i') -/
def C_says_p20 (N : Nat) (c : St) : Option (Int32 × St) :=
  some ((-101), c)
def C_says (N : Nat) (c : St) (x1 : Int32) (x2 : Int32) : Option (Int32 × St) :=
  (C_within N x1 0 2).bind fun p1 => (if p1 = 0 then C_says_p20 N c else (Lots_isOne N c x2).bind fun p3 => (if ¬ p3 = 0 then (Texts_lastOf N c x1).bind fun p5 => (if ¬ p5 = (-1) then (C_sumOf N c p5 x2 0).bind fun p7 => (C_sumOf N p7.2 p5 x2 1).bind fun p8 => (Texts_holds N p8.2 p5 p7.1 p8.1).bind fun p9 => (if p9 = 0 then some (0, p8.2) else some (1, p8.2)) else some ((-1), c)) else C_says_p20 N c))
set_option maxHeartbeats 8000000 in
set_option maxRecDepth 100000 in
theorem t_C_says_p20 (N d : Nat) (xs : List Int32) (r : St) (c : St) : Ok (mBig (mRoL xs) (d + 5)) (mRoL xs) 1 mK126 (fun p : Int32 × St => (some (.int p.1), HP p.2 r)) (C_says_p20 N c) 20 [none, none, none, none] [] (HP c r) := by
  unfold C_says_p20
  refine Ok_blk 1 (pc2 := 22) (lo2 := [none, none, none, none]) (st2 := [.int (-101)]) rfl ?_
  exact Ok_ret rfl rfl rfl
set_option maxHeartbeats 8000000 in
set_option maxRecDepth 100000 in
theorem t_C_says (N d : Nat) (xs : List Int32) (r : St) (c : St) (x1 : Int32) (x2 : Int32) : Ok (mBig (mRoL xs) (d + 5)) (mRoL xs) 1 mK126 (fun p : Int32 × St => (some (.int p.1), HP p.2 r)) (C_says N c x1 x2) 0 [some (.ref 0), some (.int x1), some (.int x2), none] [] (HP c r) := by
  unfold C_says
  refine Ok_blk 3 (pc2 := 3) (lo2 := [some (.ref 0), some (.int x1), some (.int x2), none]) (st2 := [.int 2, .int 0, .int x1]) rfl ?_
  refine Ok_call (y := 102) (as := [.int x1, .int 0, .int 2]) (rest := []) (w := fun p1 => some (.int p1)) (h1 := fun p1 => HP c r) rfl rfl (fun x hx => tm_C_within N (d + 4) xs c r x1 0 2 x hx) (fun p1 hp1 => ?_)
  refine Ok_blk 1 (pc2 := (if p1 = 0 then 20 else 9)) (lo2 := [some (.ref 0), some (.int x1), some (.int x2), none]) (st2 := []) rfl ?_
  refine Ok_if (fun h2 => ?_) (fun h2 => ?_)
  · refine Ok_drop (lo0 := [none, none, none, none]) ⟨Or.inl rfl, Or.inl rfl, Or.inl rfl, Or.inl rfl, trivial⟩ ?_
    exact t_C_says_p20 N d xs r c
  · refine Ok_blk 3 (pc2 := 14) (lo2 := [some (.ref 0), some (.int x1), some (.int x2), none]) (st2 := [.int x2, .ref 15]) rfl ?_
    refine Ok_call (y := 38) (as := [.ref 15, .int x2]) (rest := []) (w := fun p3 => some (.int p3)) (h1 := fun p3 => HP c r) rfl rfl (fun x hx => tm_Lots_isOne N (d + 3) xs c r x2 x hx) (fun p3 hp3 => ?_)
    refine Ok_blk 1 (pc2 := (if ¬ p3 = 0 then 23 else 20)) (lo2 := [some (.ref 0), some (.int x1), some (.int x2), none]) (st2 := []) rfl ?_
    refine Ok_if (fun h4 => ?_) (fun h4 => ?_)
    · refine Ok_blk 3 (pc2 := 28) (lo2 := [some (.ref 0), some (.int x1), some (.int x2), none]) (st2 := [.int x1, .ref 40]) rfl ?_
      refine Ok_call (y := 95) (as := [.ref 40, .int x1]) (rest := []) (w := fun p5 => some (.int p5)) (h1 := fun p5 => HP c r) rfl rfl (fun x hx => tm_Texts_lastOf N (d + 3) xs c r x1 x hx) (fun p5 hp5 => ?_)
      refine Ok_blk 4 (pc2 := (if ¬ p5 = (-1) then 39 else 37)) (lo2 := [some (.ref 0), some (.int x1), some (.int x2), some (.int p5)]) (st2 := []) rfl ?_
      refine Ok_if (fun h6 => ?_) (fun h6 => ?_)
      · refine Ok_blk 7 (pc2 := 48) (lo2 := [some (.ref 0), some (.int x1), some (.int x2), some (.int p5)]) (st2 := [.int 0, .int x2, .int p5, .ref 0, .int p5, .ref 40]) rfl ?_
        refine Ok_call (y := 128) (as := [.ref 0, .int p5, .int x2, .int 0]) (rest := [.int p5, .ref 40]) (w := fun p7 => some (.long p7.1)) (h1 := fun p7 => HP p7.2 r) rfl rfl (fun x hx => tm_C_sumOf N d xs c r p5 x2 0 x hx) (fun p7 hp7 => ?_)
        refine Ok_blk 4 (pc2 := 55) (lo2 := [some (.ref 0), some (.int x1), some (.int x2), some (.int p5)]) (st2 := [.int 1, .int x2, .int p5, .ref 0, .long p7.1, .int p5, .ref 40]) rfl ?_
        refine Ok_call (y := 128) (as := [.ref 0, .int p5, .int x2, .int 1]) (rest := [.long p7.1, .int p5, .ref 40]) (w := fun p8 => some (.long p8.1)) (h1 := fun p8 => HP p8.2 r) rfl rfl (fun x hx => tm_C_sumOf N d xs p7.2 r p5 x2 1 x hx) (fun p8 hp8 => ?_)
        refine Ok_call (y := 96) (as := [.ref 40, .int p5, .long p7.1, .long p8.1]) (rest := []) (w := fun p9 => some (.int p9)) (h1 := fun p9 => HP p8.2 r) rfl rfl (fun x hx => tm_Texts_holds N (d + 4) xs p8.2 r p5 p7.1 p8.1 x hx) (fun p9 hp9 => ?_)
        refine Ok_blk 1 (pc2 := (if p9 = 0 then 68 else 64)) (lo2 := [some (.ref 0), some (.int x1), some (.int x2), some (.int p5)]) (st2 := []) rfl ?_
        refine Ok_if (fun h10 => ?_) (fun h10 => ?_)
        · refine Ok_blk 1 (pc2 := 69) (lo2 := [some (.ref 0), some (.int x1), some (.int x2), some (.int p5)]) (st2 := [.int 0]) rfl ?_
          exact Ok_ret rfl rfl rfl
        · refine Ok_blk 2 (pc2 := 69) (lo2 := [some (.ref 0), some (.int x1), some (.int x2), some (.int p5)]) (st2 := [.int 1]) rfl ?_
          exact Ok_ret rfl rfl rfl
      · refine Ok_blk 1 (pc2 := 38) (lo2 := [some (.ref 0), some (.int x1), some (.int x2), some (.int p5)]) (st2 := [.int (-1)]) rfl ?_
        exact Ok_ret rfl rfl rfl
    · refine Ok_drop (lo0 := [none, none, none, none]) ⟨Or.inl rfl, Or.inl rfl, Or.inl rfl, Or.inl rfl, trivial⟩ ?_
      exact t_C_says_p20 N d xs r c
set_option maxHeartbeats 8000000 in
set_option maxRecDepth 100000 in
theorem tm_C_says (N d : Nat) (xs : List Int32) (c r : St) (a1 : Int32) (a2 : Int32) (p : Int32 × St) (hp : C_says N c a1 a2 = some p) : mBig (mRoL xs) (d + 6) 126 [.ref 0, .int a1, .int a2] (HP c r) (some (.int p.1)) (HP p.2 r) 0 0 := mBig_of (by decide) rfl rfl rfl rfl (t_C_says N d xs r c a1 a2 p hp)
/-! ColdHoldsModel.markOf(I)I, from (('r', 115), 'i') -/
def R_markOf_p2b (N : Nat) (kb2 : Int32 → Int32 → Option (Int32)) (r : St) (x1 : Int32) (x2 : Int32) : Option (Int32) :=
  (ld (gA r 11) ((60 * x1) + x2)).bind fun y1 => (R_isMark N y1).bind fun p2 => (if ¬ p2 = 0 then some x2 else kb2 x1 (x2 + 1))
def R_markOf_p2 (N : Nat) (r : St) : Nat → Int32 → Int32 → Option (Int32)
  | 0 => fun _ _ => none
  | n + 1 => R_markOf_p2b N (R_markOf_p2 N r n) r
def R_markOf (N : Nat) (r : St) (x1 : Int32) : Option (Int32) :=
  R_markOf_p2 N r N x1 2
set_option maxHeartbeats 8000000 in
set_option maxRecDepth 100000 in
theorem t_R_markOf_p2b (N d : Nat) (xs : List Int32) (c : St) (r : St) (kb2 : Int32 → Int32 → Option (Int32)) (hb2 : ∀ (x1 : Int32) (x2 : Int32), Ok (mBig (mRoL xs) (d + 1)) (mRoL xs) 1 mK200 (fun p : Int32 => (some (.int p), HP c r)) (kb2 x1 x2) 2 [some (.ref 115), some (.int x1), some (.int x2)] [] (HP c r)) (x1 : Int32) (x2 : Int32) : Ok (mBig (mRoL xs) (d + 1)) (mRoL xs) 1 mK200 (fun p : Int32 => (some (.int p), HP c r)) (R_markOf_p2b N kb2 r x1 x2) 2 [some (.ref 115), some (.int x1), some (.int x2)] [] (HP c r) := by
  unfold R_markOf_p2b
  refine Ok_blk 7 (pc2 := 12) (lo2 := [some (.ref 115), some (.int x1), some (.int x2)]) (st2 := [.int ((60 * x1) + x2), .ref 127]) rfl ?_
  refine Ok_ldb (l := (gA r 11)) (t := 1) rfl rfl rfl (fun y1 hy1 => ?_)
  refine Ok_call (y := 193) (as := [.int y1]) (rest := []) (w := fun p2 => some (.int p2)) (h1 := fun p2 => HP c r) rfl rfl (fun x hx => tm_R_isMark N d xs c r y1 x hx) (fun p2 hp2 => ?_)
  refine Ok_blk 1 (pc2 := (if ¬ p2 = 0 then 25 else 19)) (lo2 := [some (.ref 115), some (.int x1), some (.int x2)]) (st2 := []) rfl ?_
  refine Ok_if (fun h3 => ?_) (fun h3 => ?_)
  · refine Ok_blk 1 (pc2 := 26) (lo2 := [some (.ref 115), some (.int x1), some (.int x2)]) (st2 := [.int x2]) rfl ?_
    exact Ok_ret rfl rfl rfl
  · refine Ok_blk 2 (pc2 := 2) (lo2 := [some (.ref 115), some (.int x1), some (.int (x2 + 1))]) (st2 := []) rfl ?_
    refine Ok_drop (lo0 := [some (.ref 115), some (.int x1), some (.int (x2 + 1))]) ⟨Or.inr rfl, Or.inr rfl, Or.inr rfl, trivial⟩ ?_
    exact hb2 x1 (x2 + 1)
set_option maxHeartbeats 8000000 in
set_option maxRecDepth 100000 in
theorem t_R_markOf_p2 (N d : Nat) (xs : List Int32) (c : St) (r : St) : ∀ (n : Nat) (x1 : Int32) (x2 : Int32), Ok (mBig (mRoL xs) (d + 1)) (mRoL xs) 1 mK200 (fun p : Int32 => (some (.int p), HP c r)) (R_markOf_p2 N r n x1 x2) 2 [some (.ref 115), some (.int x1), some (.int x2)] [] (HP c r) := by
  intro n
  induction n with
  | zero => intro x1 x2; exact Ok_none
  | succ n ih => intro x1 x2; exact t_R_markOf_p2b N d xs c r (R_markOf_p2 N r n) ih x1 x2
set_option maxHeartbeats 8000000 in
set_option maxRecDepth 100000 in
theorem t_R_markOf (N d : Nat) (xs : List Int32) (c : St) (r : St) (x1 : Int32) : Ok (mBig (mRoL xs) (d + 1)) (mRoL xs) 1 mK200 (fun p : Int32 => (some (.int p), HP c r)) (R_markOf N r x1) 0 [some (.ref 115), some (.int x1), none] [] (HP c r) := by
  unfold R_markOf
  refine Ok_blk 2 (pc2 := 2) (lo2 := [some (.ref 115), some (.int x1), some (.int 2)]) (st2 := []) rfl ?_
  refine Ok_drop (lo0 := [some (.ref 115), some (.int x1), some (.int 2)]) ⟨Or.inr rfl, Or.inr rfl, Or.inr rfl, trivial⟩ ?_
  exact t_R_markOf_p2 N d xs c r N x1 2
set_option maxHeartbeats 8000000 in
set_option maxRecDepth 100000 in
theorem tm_R_markOf (N d : Nat) (xs : List Int32) (c r : St) (a1 : Int32) (p : Int32) (hp : R_markOf N r a1 = some p) : mBig (mRoL xs) (d + 2) 200 [.ref 115, .int a1] (HP c r) (some (.int p)) (HP c r) 0 0 := mBig_of (by decide) rfl rfl rfl rfl (t_R_markOf N d xs c r a1 p hp)
/-! ColdHoldsModel.openSum()V, from (('r', 115),) -/
def R_openSum (N : Nat) (r : St) : Option (St) :=
  (stl (gB (sI r 32 ((gI r 32) + 1)) 0) (gI (sI r 32 ((gI r 32) + 1)) 32) 0).bind fun w1 => (stl (gB (sB (sI r 32 ((gI r 32) + 1)) 0 w1) 1) (gI (sB (sI r 32 ((gI r 32) + 1)) 0 w1) 32) 1).bind fun w2 => some (sB (sB (sI r 32 ((gI r 32) + 1)) 0 w1) 1 w2)
set_option maxHeartbeats 8000000 in
set_option maxRecDepth 100000 in
theorem t_R_openSum (N d : Nat) (xs : List Int32) (c : St) (r : St) : Ok (mBig (mRoL xs) (d)) (mRoL xs) 0 mK197 (fun p : St => (none, HP c p)) (R_openSum N r) 0 [some (.ref 115)] [] (HP c r) := by
  unfold R_openSum
  refine Ok_heap 6 (pc2 := 10) (lo2 := [some (.ref 115)]) (st2 := []) (h2 := HP c (sI r 32 ((gI r 32) + 1))) rfl (st_115_66 _ _ _) ?_
  refine Ok_blk 5 (pc2 := 19) (lo2 := [some (.ref 115)]) (st2 := [.long 0, .int (gI (sI r 32 ((gI r 32) + 1)) 32), .ref 148]) rfl ?_
  refine Ok_stl (l := (gB (sI r 32 ((gI r 32) + 1)) 0)) (hn := fun l' => HP c (sB (sI r 32 ((gI r 32) + 1)) 0 l')) rfl rfl (fun l' => sa_148 _ _ l') (fun w1 hw1 => ?_)
  refine Ok_blk 5 (pc2 := 29) (lo2 := [some (.ref 115)]) (st2 := [.long 1, .int (gI (sB (sI r 32 ((gI r 32) + 1)) 0 w1) 32), .ref 149]) rfl ?_
  refine Ok_stl (l := (gB (sB (sI r 32 ((gI r 32) + 1)) 0 w1) 1)) (hn := fun l' => HP c (sB (sB (sI r 32 ((gI r 32) + 1)) 0 w1) 1 l')) rfl rfl (fun l' => sa_149 _ _ l') (fun w2 hw2 => ?_)
  exact Ok_ret rfl rfl rfl
set_option maxHeartbeats 8000000 in
set_option maxRecDepth 100000 in
theorem tm_R_openSum (N d : Nat) (xs : List Int32) (c r : St) (p : St) (hp : R_openSum N r = some p) : mBig (mRoL xs) (d + 1) 197 [.ref 115] (HP c r) (none) (HP c p) 0 0 := mBig_of (by decide) rfl rfl rfl rfl (t_R_openSum N d xs c r p hp)
/-! ColdHoldsModel.closeSum()J, from (('r', 115),) -/
def R_closeSum (N : Nat) (r : St) : Option (Int64 × St) :=
  (ldl (gB (sI r 32 ((gI r 32) - 1)) 0) ((gI (sI r 32 ((gI r 32) - 1)) 32) + 1)).bind fun y1 => (ldl (gB (sI r 32 ((gI r 32) - 1)) 1) ((gI (sI r 32 ((gI r 32) - 1)) 32) + 1)).bind fun y2 => some (y1 + y2, sI r 32 ((gI r 32) - 1))
set_option maxHeartbeats 8000000 in
set_option maxRecDepth 100000 in
theorem t_R_closeSum (N d : Nat) (xs : List Int32) (c : St) (r : St) : Ok (mBig (mRoL xs) (d)) (mRoL xs) 3 mK198 (fun p : Int64 × St => (some (.long p.1), HP c p.2)) (R_closeSum N r) 0 [some (.ref 115)] [] (HP c r) := by
  unfold R_closeSum
  refine Ok_heap 6 (pc2 := 10) (lo2 := [some (.ref 115)]) (st2 := []) (h2 := HP c (sI r 32 ((gI r 32) - 1))) rfl (st_115_66 _ _ _) ?_
  refine Ok_blk 6 (pc2 := 20) (lo2 := [some (.ref 115)]) (st2 := [.int ((gI (sI r 32 ((gI r 32) - 1)) 32) + 1), .ref 148]) rfl ?_
  refine Ok_ldl (l := (gB (sI r 32 ((gI r 32) - 1)) 0)) rfl rfl (fun y1 hy1 => ?_)
  refine Ok_blk 6 (pc2 := 31) (lo2 := [some (.ref 115)]) (st2 := [.int ((gI (sI r 32 ((gI r 32) - 1)) 32) + 1), .ref 149, .long y1]) rfl ?_
  refine Ok_ldl (l := (gB (sI r 32 ((gI r 32) - 1)) 1)) rfl rfl (fun y2 hy2 => ?_)
  refine Ok_blk 1 (pc2 := 33) (lo2 := [some (.ref 115)]) (st2 := [.long (y1 + y2)]) rfl ?_
  exact Ok_ret rfl rfl rfl
set_option maxHeartbeats 8000000 in
set_option maxRecDepth 100000 in
theorem tm_R_closeSum (N d : Nat) (xs : List Int32) (c r : St) (p : Int64 × St) (hp : R_closeSum N r = some p) : mBig (mRoL xs) (d + 1) 198 [.ref 115] (HP c r) (some (.long p.1)) (HP c p.2) 0 0 := mBig_of (by decide) rfl rfl rfl rfl (t_R_closeSum N d xs c r p hp)
/-! ColdHoldsModel.sumFrom(III)J, from (('r', 115), 'i', 'i', 'i') -/
def R_sumFrom_p355 (N : Nat) (r : St) : Option (Int64 × St) :=
  (R_closeSum N r).bind fun p4 => some (p4.1, p4.2)
def R_sumFrom_p352 (N : Nat) (kb12 : St → Int32 → Int32 → Int32 → Option (Int64 × St)) (r : St) (x1 : Int32) (x2 : Int32) (x4 : Int32) : Option (Int64 × St) :=
  kb12 r x1 x2 x4
def R_sumFrom_p159 (N : Nat) (kb12 : St → Int32 → Int32 → Int32 → Option (Int64 × St)) (r : St) (x1 : Int32) (x2 : Int32) (x4 : Int32) (s1 : Int32) (s2 : Int64) : Option (Int64 × St) :=
  (stl (gB r 1) s1 s2).bind fun w16 => R_sumFrom_p352 N kb12 (sB r 1 w16) x1 x2 x4
def R_sumFrom_p116 (N : Nat) (kb12 : St → Int32 → Int32 → Int32 → Option (Int64 × St)) (r : St) (x1 : Int32) (x2 : Int32) (x4 : Int32) (x5 : Int32) : Option (Int64 × St) :=
  (ldl (gB r 0) (gI r 32)).bind fun y12 => (ldl (gB r 1) (gI r 32)).bind fun y13 => (stl (gB r 0) (gI r 32) (y12 + y13)).bind fun w14 => (if ¬ x5 = 43 then R_sumFrom_p159 N kb12 (sB r 0 w14) x1 x2 x4 (gI (sB r 0 w14) 32) (-1) else R_sumFrom_p159 N kb12 (sB r 0 w14) x1 x2 x4 (gI (sB r 0 w14) 32) 1)
def R_sumFrom_p350 (N : Nat) (kb12 : St → Int32 → Int32 → Int32 → Option (Int64 × St)) (r : St) (x1 : Int32) (x2 : Int32) (x4 : Int32) (s1 : Int32) (s2 : Int64) (s3 : Int64) : Option (Int64 × St) :=
  (stl (gB r 1) s1 (s2 * s3)).bind fun w26 => R_sumFrom_p352 N kb12 (sB r 1 w26) x1 x2 x4
def R_sumFrom_p248 (N : Nat) (kb12 : St → Int32 → Int32 → Int32 → Option (Int64 × St)) (r : St) (x1 : Int32) (x2 : Int32) (x4 : Int32) (x6 : Int64) : Option (Int64 × St) :=
  (ldl (gB r 1) (gI r 32)).bind fun y33 => (stl (gB r 1) (gI r 32) (y33 * x6)).bind fun w34 => R_sumFrom_p352 N kb12 (sB r 1 w34) x1 x2 x4
def R_sumFrom_p183b (N : Nat) (kb12 : St → Int32 → Int32 → Int32 → Option (Int64 × St)) (kb183 : St → Int32 → Int32 → Int32 → Int64 → Option (Int64 × St)) (r : St) (x1 : Int32) (x2 : Int32) (x4 : Int32) (x6 : Int64) : Option (Int64 × St) :=
  (ld (gA r 12) x1).bind fun y31 => (if y31 ≤ x4 then R_sumFrom_p248 N kb12 r x1 x2 x4 x6 else (ld (gA r 11) ((60 * x1) + x4)).bind fun y35 => (R_in N y35 48 57).bind fun p36 => (if p36 = 0 then R_sumFrom_p248 N kb12 r x1 x2 x4 x6 else (ld (gA r 11) ((60 * x1) + x4)).bind fun y38 => kb183 r x1 x2 (x4 + 1) (((10 * x6) + y38.toInt64) - 48)))
def R_sumFrom_p183 (N : Nat) (kb12 : St → Int32 → Int32 → Int32 → Option (Int64 × St)) : Nat → St → Int32 → Int32 → Int32 → Int64 → Option (Int64 × St)
  | 0 => fun _ _ _ _ _ => none
  | n + 1 => R_sumFrom_p183b N kb12 (R_sumFrom_p183 N kb12 n)
def R_sumFrom_p12b (N : Nat) (kb12 : St → Int32 → Int32 → Int32 → Option (Int64 × St)) (r : St) (x1 : Int32) (x2 : Int32) (x4 : Int32) : Option (Int64 × St) :=
  (ld (gA r 12) x1).bind fun y2 => (if y2 ≤ x4 then R_sumFrom_p355 N r else (ld (gA r 11) ((60 * x1) + x4)).bind fun y5 => (R_isMark N y5).bind fun p6 => (if ¬ p6 = 0 then R_sumFrom_p355 N r else (ld (gA r 11) ((60 * x1) + x4)).bind fun y8 => (if ¬ y8 = 40 then (if ¬ y8 = 41 then (if y8 = 43 then R_sumFrom_p116 N kb12 r x1 x2 (x4 + 1) y8 else (if ¬ y8 = 45 then (R_in N y8 48 57).bind fun p18 => (if p18 = 0 then (if y8 = 42 then R_sumFrom_p352 N kb12 r x1 x2 (x4 + 1) else (ldl (gB r 1) (gI r 32)).bind fun y21 => (if ¬ y8 = 114 then (if ¬ y8 = 116 then (if ¬ y8 = 104 then (ld (gA r 5) x2).bind fun y25 => R_sumFrom_p350 N kb12 r x1 x2 (x4 + 1) (gI r 32) y21 y25.toInt64 else (ld (gA r 8) x2).bind fun y27 => R_sumFrom_p350 N kb12 r x1 x2 (x4 + 1) (gI r 32) y21 (((gI r 4) - y27).toInt64)) else (ld (gA r 6) x2).bind fun y28 => (ld (gA r 0) y28).bind fun y29 => R_sumFrom_p350 N kb12 r x1 x2 (x4 + 1) (gI r 32) y21 y29.toInt64) else (ld (gA r 7) x2).bind fun y30 => R_sumFrom_p350 N kb12 r x1 x2 (x4 + 1) (gI r 32) y21 y30.toInt64)) else R_sumFrom_p183 N kb12 N r x1 x2 (x4 + 1) ((y8 - 48).toInt64)) else R_sumFrom_p116 N kb12 r x1 x2 (x4 + 1) y8)) else (R_closeSum N r).bind fun p39 => (ldl (gB p39.2 1) (gI p39.2 32)).bind fun y40 => (stl (gB p39.2 1) (gI p39.2 32) (y40 * p39.1)).bind fun w41 => R_sumFrom_p352 N kb12 (sB p39.2 1 w41) x1 x2 (x4 + 1)) else (R_openSum N r).bind fun p42 => R_sumFrom_p352 N kb12 p42 x1 x2 (x4 + 1))))
def R_sumFrom_p12 (N : Nat) : Nat → St → Int32 → Int32 → Int32 → Option (Int64 × St)
  | 0 => fun _ _ _ _ => none
  | n + 1 => R_sumFrom_p12b N (R_sumFrom_p12 N n)
def R_sumFrom (N : Nat) (r : St) (x1 : Int32) (x2 : Int32) (x3 : Int32) : Option (Int64 × St) :=
  (R_openSum N (sI r 32 (-1))).bind fun p1 => R_sumFrom_p12 N N p1 x1 x2 x3
set_option maxHeartbeats 8000000 in
set_option maxRecDepth 100000 in
theorem t_R_sumFrom_p355 (N d : Nat) (xs : List Int32) (c : St) (r : St) : Ok (mBig (mRoL xs) (d + 1)) (mRoL xs) 3 mK199 (fun p : Int64 × St => (some (.long p.1), HP c p.2)) (R_sumFrom_p355 N r) 355 [some (.ref 115), none, none, none, none, none, none, none] [] (HP c r) := by
  unfold R_sumFrom_p355
  refine Ok_blk 1 (pc2 := 356) (lo2 := [some (.ref 115), none, none, none, none, none, none, none]) (st2 := [.ref 115]) rfl ?_
  refine Ok_call (y := 198) (as := [.ref 115]) (rest := []) (w := fun p4 => some (.long p4.1)) (h1 := fun p4 => HP c p4.2) rfl rfl (fun x hx => tm_R_closeSum N d xs c r x hx) (fun p4 hp4 => ?_)
  exact Ok_ret rfl rfl rfl
set_option maxHeartbeats 8000000 in
set_option maxRecDepth 100000 in
theorem t_R_sumFrom_p352 (N d : Nat) (xs : List Int32) (c : St) (kb12 : St → Int32 → Int32 → Int32 → Option (Int64 × St)) (hb12 : ∀ (r : St) (x1 : Int32) (x2 : Int32) (x4 : Int32), Ok (mBig (mRoL xs) (d + 1)) (mRoL xs) 3 mK199 (fun p : Int64 × St => (some (.long p.1), HP c p.2)) (kb12 r x1 x2 x4) 12 [some (.ref 115), some (.int x1), some (.int x2), none, some (.int x4), none, none, none] [] (HP c r)) (r : St) (x1 : Int32) (x2 : Int32) (x4 : Int32) : Ok (mBig (mRoL xs) (d + 1)) (mRoL xs) 3 mK199 (fun p : Int64 × St => (some (.long p.1), HP c p.2)) (R_sumFrom_p352 N kb12 r x1 x2 x4) 352 [some (.ref 115), some (.int x1), some (.int x2), none, some (.int x4), none, none, none] [] (HP c r) := by
  unfold R_sumFrom_p352
  refine Ok_blk 1 (pc2 := 12) (lo2 := [some (.ref 115), some (.int x1), some (.int x2), none, some (.int x4), none, none, none]) (st2 := []) rfl ?_
  refine Ok_drop (lo0 := [some (.ref 115), some (.int x1), some (.int x2), none, some (.int x4), none, none, none]) ⟨Or.inr rfl, Or.inr rfl, Or.inr rfl, Or.inl rfl, Or.inr rfl, Or.inl rfl, Or.inl rfl, Or.inl rfl, trivial⟩ ?_
  exact hb12 r x1 x2 x4
set_option maxHeartbeats 8000000 in
set_option maxRecDepth 100000 in
theorem t_R_sumFrom_p159 (N d : Nat) (xs : List Int32) (c : St) (kb12 : St → Int32 → Int32 → Int32 → Option (Int64 × St)) (hb12 : ∀ (r : St) (x1 : Int32) (x2 : Int32) (x4 : Int32), Ok (mBig (mRoL xs) (d + 1)) (mRoL xs) 3 mK199 (fun p : Int64 × St => (some (.long p.1), HP c p.2)) (kb12 r x1 x2 x4) 12 [some (.ref 115), some (.int x1), some (.int x2), none, some (.int x4), none, none, none] [] (HP c r)) (r : St) (x1 : Int32) (x2 : Int32) (x4 : Int32) (s1 : Int32) (s2 : Int64) : Ok (mBig (mRoL xs) (d + 1)) (mRoL xs) 3 mK199 (fun p : Int64 × St => (some (.long p.1), HP c p.2)) (R_sumFrom_p159 N kb12 r x1 x2 x4 s1 s2) 159 [some (.ref 115), some (.int x1), some (.int x2), none, some (.int x4), none, none, none] [.long s2, .int s1, .ref 149] (HP c r) := by
  unfold R_sumFrom_p159
  refine Ok_stl (l := (gB r 1)) (hn := fun l' => HP c (sB r 1 l')) rfl rfl (fun l' => sa_149 _ _ l') (fun w16 hw16 => ?_)
  refine Ok_blk 1 (pc2 := 352) (lo2 := [some (.ref 115), some (.int x1), some (.int x2), none, some (.int x4), none, none, none]) (st2 := []) rfl ?_
  refine Ok_drop (lo0 := [some (.ref 115), some (.int x1), some (.int x2), none, some (.int x4), none, none, none]) ⟨Or.inr rfl, Or.inr rfl, Or.inr rfl, Or.inl rfl, Or.inr rfl, Or.inl rfl, Or.inl rfl, Or.inl rfl, trivial⟩ ?_
  exact t_R_sumFrom_p352 N d xs c kb12 hb12 (sB r 1 w16) x1 x2 x4
set_option maxHeartbeats 8000000 in
set_option maxRecDepth 100000 in
theorem t_R_sumFrom_p116 (N d : Nat) (xs : List Int32) (c : St) (kb12 : St → Int32 → Int32 → Int32 → Option (Int64 × St)) (hb12 : ∀ (r : St) (x1 : Int32) (x2 : Int32) (x4 : Int32), Ok (mBig (mRoL xs) (d + 1)) (mRoL xs) 3 mK199 (fun p : Int64 × St => (some (.long p.1), HP c p.2)) (kb12 r x1 x2 x4) 12 [some (.ref 115), some (.int x1), some (.int x2), none, some (.int x4), none, none, none] [] (HP c r)) (r : St) (x1 : Int32) (x2 : Int32) (x4 : Int32) (x5 : Int32) : Ok (mBig (mRoL xs) (d + 1)) (mRoL xs) 3 mK199 (fun p : Int64 × St => (some (.long p.1), HP c p.2)) (R_sumFrom_p116 N kb12 r x1 x2 x4 x5) 116 [some (.ref 115), some (.int x1), some (.int x2), none, some (.int x4), some (.int x5), none, none] [] (HP c r) := by
  unfold R_sumFrom_p116
  refine Ok_blk 5 (pc2 := 125) (lo2 := [some (.ref 115), some (.int x1), some (.int x2), none, some (.int x4), some (.int x5), none, none]) (st2 := [.int (gI r 32), .ref 148, .int (gI r 32), .ref 148]) rfl ?_
  refine Ok_ldl (l := (gB r 0)) rfl rfl (fun y12 hy12 => ?_)
  refine Ok_blk 4 (pc2 := 134) (lo2 := [some (.ref 115), some (.int x1), some (.int x2), none, some (.int x4), some (.int x5), none, none]) (st2 := [.int (gI r 32), .ref 149, .long y12, .int (gI r 32), .ref 148]) rfl ?_
  refine Ok_ldl (l := (gB r 1)) rfl rfl (fun y13 hy13 => ?_)
  refine Ok_blk 1 (pc2 := 136) (lo2 := [some (.ref 115), some (.int x1), some (.int x2), none, some (.int x4), some (.int x5), none, none]) (st2 := [.long (y12 + y13), .int (gI r 32), .ref 148]) rfl ?_
  refine Ok_stl (l := (gB r 0)) (hn := fun l' => HP c (sB r 0 l')) rfl rfl (fun l' => sa_148 _ _ l') (fun w14 hw14 => ?_)
  refine Ok_blk 7 (pc2 := (if ¬ x5 = 43 then 156 else 152)) (lo2 := [some (.ref 115), some (.int x1), some (.int x2), none, some (.int x4), some (.int x5), none, none]) (st2 := [.int (gI (sB r 0 w14) 32), .ref 149]) rfl ?_
  refine Ok_if (fun h15 => ?_) (fun h15 => ?_)
  · refine Ok_blk 1 (pc2 := 159) (lo2 := [some (.ref 115), some (.int x1), some (.int x2), none, some (.int x4), some (.int x5), none, none]) (st2 := [.long (-1), .int (gI (sB r 0 w14) 32), .ref 149]) rfl ?_
    refine Ok_drop (lo0 := [some (.ref 115), some (.int x1), some (.int x2), none, some (.int x4), none, none, none]) ⟨Or.inr rfl, Or.inr rfl, Or.inr rfl, Or.inl rfl, Or.inr rfl, Or.inl rfl, Or.inl rfl, Or.inl rfl, trivial⟩ ?_
    exact t_R_sumFrom_p159 N d xs c kb12 hb12 (sB r 0 w14) x1 x2 x4 (gI (sB r 0 w14) 32) (-1)
  · refine Ok_blk 2 (pc2 := 159) (lo2 := [some (.ref 115), some (.int x1), some (.int x2), none, some (.int x4), some (.int x5), none, none]) (st2 := [.long 1, .int (gI (sB r 0 w14) 32), .ref 149]) rfl ?_
    refine Ok_drop (lo0 := [some (.ref 115), some (.int x1), some (.int x2), none, some (.int x4), none, none, none]) ⟨Or.inr rfl, Or.inr rfl, Or.inr rfl, Or.inl rfl, Or.inr rfl, Or.inl rfl, Or.inl rfl, Or.inl rfl, trivial⟩ ?_
    exact t_R_sumFrom_p159 N d xs c kb12 hb12 (sB r 0 w14) x1 x2 x4 (gI (sB r 0 w14) 32) 1
set_option maxHeartbeats 8000000 in
set_option maxRecDepth 100000 in
theorem t_R_sumFrom_p350 (N d : Nat) (xs : List Int32) (c : St) (kb12 : St → Int32 → Int32 → Int32 → Option (Int64 × St)) (hb12 : ∀ (r : St) (x1 : Int32) (x2 : Int32) (x4 : Int32), Ok (mBig (mRoL xs) (d + 1)) (mRoL xs) 3 mK199 (fun p : Int64 × St => (some (.long p.1), HP c p.2)) (kb12 r x1 x2 x4) 12 [some (.ref 115), some (.int x1), some (.int x2), none, some (.int x4), none, none, none] [] (HP c r)) (r : St) (x1 : Int32) (x2 : Int32) (x4 : Int32) (s1 : Int32) (s2 : Int64) (s3 : Int64) : Ok (mBig (mRoL xs) (d + 1)) (mRoL xs) 3 mK199 (fun p : Int64 × St => (some (.long p.1), HP c p.2)) (R_sumFrom_p350 N kb12 r x1 x2 x4 s1 s2 s3) 350 [some (.ref 115), some (.int x1), some (.int x2), none, some (.int x4), none, none, none] [.long s3, .long s2, .int s1, .ref 149] (HP c r) := by
  unfold R_sumFrom_p350
  refine Ok_blk 1 (pc2 := 351) (lo2 := [some (.ref 115), some (.int x1), some (.int x2), none, some (.int x4), none, none, none]) (st2 := [.long (s2 * s3), .int s1, .ref 149]) rfl ?_
  refine Ok_stl (l := (gB r 1)) (hn := fun l' => HP c (sB r 1 l')) rfl rfl (fun l' => sa_149 _ _ l') (fun w26 hw26 => ?_)
  refine Ok_drop (lo0 := [some (.ref 115), some (.int x1), some (.int x2), none, some (.int x4), none, none, none]) ⟨Or.inr rfl, Or.inr rfl, Or.inr rfl, Or.inl rfl, Or.inr rfl, Or.inl rfl, Or.inl rfl, Or.inl rfl, trivial⟩ ?_
  exact t_R_sumFrom_p352 N d xs c kb12 hb12 (sB r 1 w26) x1 x2 x4
set_option maxHeartbeats 8000000 in
set_option maxRecDepth 100000 in
theorem t_R_sumFrom_p248 (N d : Nat) (xs : List Int32) (c : St) (kb12 : St → Int32 → Int32 → Int32 → Option (Int64 × St)) (hb12 : ∀ (r : St) (x1 : Int32) (x2 : Int32) (x4 : Int32), Ok (mBig (mRoL xs) (d + 1)) (mRoL xs) 3 mK199 (fun p : Int64 × St => (some (.long p.1), HP c p.2)) (kb12 r x1 x2 x4) 12 [some (.ref 115), some (.int x1), some (.int x2), none, some (.int x4), none, none, none] [] (HP c r)) (r : St) (x1 : Int32) (x2 : Int32) (x4 : Int32) (x6 : Int64) : Ok (mBig (mRoL xs) (d + 1)) (mRoL xs) 3 mK199 (fun p : Int64 × St => (some (.long p.1), HP c p.2)) (R_sumFrom_p248 N kb12 r x1 x2 x4 x6) 248 [some (.ref 115), some (.int x1), some (.int x2), none, some (.int x4), none, some (.long x6), none] [] (HP c r) := by
  unfold R_sumFrom_p248
  refine Ok_blk 5 (pc2 := 257) (lo2 := [some (.ref 115), some (.int x1), some (.int x2), none, some (.int x4), none, some (.long x6), none]) (st2 := [.int (gI r 32), .ref 149, .int (gI r 32), .ref 149]) rfl ?_
  refine Ok_ldl (l := (gB r 1)) rfl rfl (fun y33 hy33 => ?_)
  refine Ok_blk 2 (pc2 := 261) (lo2 := [some (.ref 115), some (.int x1), some (.int x2), none, some (.int x4), none, some (.long x6), none]) (st2 := [.long (y33 * x6), .int (gI r 32), .ref 149]) rfl ?_
  refine Ok_stl (l := (gB r 1)) (hn := fun l' => HP c (sB r 1 l')) rfl rfl (fun l' => sa_149 _ _ l') (fun w34 hw34 => ?_)
  refine Ok_blk 1 (pc2 := 352) (lo2 := [some (.ref 115), some (.int x1), some (.int x2), none, some (.int x4), none, some (.long x6), none]) (st2 := []) rfl ?_
  refine Ok_drop (lo0 := [some (.ref 115), some (.int x1), some (.int x2), none, some (.int x4), none, none, none]) ⟨Or.inr rfl, Or.inr rfl, Or.inr rfl, Or.inl rfl, Or.inr rfl, Or.inl rfl, Or.inl rfl, Or.inl rfl, trivial⟩ ?_
  exact t_R_sumFrom_p352 N d xs c kb12 hb12 (sB r 1 w34) x1 x2 x4
set_option maxHeartbeats 8000000 in
set_option maxRecDepth 100000 in
theorem t_R_sumFrom_p183b (N d : Nat) (xs : List Int32) (c : St) (kb12 : St → Int32 → Int32 → Int32 → Option (Int64 × St)) (hb12 : ∀ (r : St) (x1 : Int32) (x2 : Int32) (x4 : Int32), Ok (mBig (mRoL xs) (d + 1)) (mRoL xs) 3 mK199 (fun p : Int64 × St => (some (.long p.1), HP c p.2)) (kb12 r x1 x2 x4) 12 [some (.ref 115), some (.int x1), some (.int x2), none, some (.int x4), none, none, none] [] (HP c r)) (kb183 : St → Int32 → Int32 → Int32 → Int64 → Option (Int64 × St)) (hb183 : ∀ (r : St) (x1 : Int32) (x2 : Int32) (x4 : Int32) (x6 : Int64), Ok (mBig (mRoL xs) (d + 1)) (mRoL xs) 3 mK199 (fun p : Int64 × St => (some (.long p.1), HP c p.2)) (kb183 r x1 x2 x4 x6) 183 [some (.ref 115), some (.int x1), some (.int x2), none, some (.int x4), none, some (.long x6), none] [] (HP c r)) (r : St) (x1 : Int32) (x2 : Int32) (x4 : Int32) (x6 : Int64) : Ok (mBig (mRoL xs) (d + 1)) (mRoL xs) 3 mK199 (fun p : Int64 × St => (some (.long p.1), HP c p.2)) (R_sumFrom_p183b N kb12 kb183 r x1 x2 x4 x6) 183 [some (.ref 115), some (.int x1), some (.int x2), none, some (.int x4), none, some (.long x6), none] [] (HP c r) := by
  unfold R_sumFrom_p183b
  refine Ok_blk 4 (pc2 := 190) (lo2 := [some (.ref 115), some (.int x1), some (.int x2), none, some (.int x4), none, some (.long x6), none]) (st2 := [.int x1, .ref 128, .int x4]) rfl ?_
  refine Ok_ld (l := (gA r 12)) rfl rfl (fun y31 hy31 => ?_)
  refine Ok_blk 1 (pc2 := (if y31 ≤ x4 then 248 else 194)) (lo2 := [some (.ref 115), some (.int x1), some (.int x2), none, some (.int x4), none, some (.long x6), none]) (st2 := []) rfl ?_
  refine Ok_if (fun h32 => ?_) (fun h32 => ?_)
  · refine Ok_drop (lo0 := [some (.ref 115), some (.int x1), some (.int x2), none, some (.int x4), none, some (.long x6), none]) ⟨Or.inr rfl, Or.inr rfl, Or.inr rfl, Or.inl rfl, Or.inr rfl, Or.inl rfl, Or.inr rfl, Or.inl rfl, trivial⟩ ?_
    exact t_R_sumFrom_p248 N d xs c kb12 hb12 r x1 x2 x4 x6
  · refine Ok_blk 7 (pc2 := 205) (lo2 := [some (.ref 115), some (.int x1), some (.int x2), none, some (.int x4), none, some (.long x6), none]) (st2 := [.int ((60 * x1) + x4), .ref 127]) rfl ?_
    refine Ok_ldb (l := (gA r 11)) (t := 1) rfl rfl rfl (fun y35 hy35 => ?_)
    refine Ok_blk 2 (pc2 := 210) (lo2 := [some (.ref 115), some (.int x1), some (.int x2), none, some (.int x4), none, some (.long x6), none]) (st2 := [.int 57, .int 48, .int y35]) rfl ?_
    refine Ok_call (y := 164) (as := [.int y35, .int 48, .int 57]) (rest := []) (w := fun p36 => some (.int p36)) (h1 := fun p36 => HP c r) rfl rfl (fun x hx => tm_R_in N d xs c r y35 48 57 x hx) (fun p36 hp36 => ?_)
    refine Ok_blk 1 (pc2 := (if p36 = 0 then 248 else 216)) (lo2 := [some (.ref 115), some (.int x1), some (.int x2), none, some (.int x4), none, some (.long x6), none]) (st2 := []) rfl ?_
    refine Ok_if (fun h37 => ?_) (fun h37 => ?_)
    · refine Ok_drop (lo0 := [some (.ref 115), some (.int x1), some (.int x2), none, some (.int x4), none, some (.long x6), none]) ⟨Or.inr rfl, Or.inr rfl, Or.inr rfl, Or.inl rfl, Or.inr rfl, Or.inl rfl, Or.inr rfl, Or.inl rfl, trivial⟩ ?_
      exact t_R_sumFrom_p248 N d xs c kb12 hb12 r x1 x2 x4 x6
    · refine Ok_blk 10 (pc2 := 233) (lo2 := [some (.ref 115), some (.int x1), some (.int x2), none, some (.int x4), none, some (.long x6), none]) (st2 := [.int ((60 * x1) + x4), .ref 127, .long (10 * x6)]) rfl ?_
      refine Ok_ldb (l := (gA r 11)) (t := 1) rfl rfl rfl (fun y38 hy38 => ?_)
      refine Ok_blk 7 (pc2 := 183) (lo2 := [some (.ref 115), some (.int x1), some (.int x2), none, some (.int (x4 + 1)), none, some (.long (((10 * x6) + y38.toInt64) - 48)), none]) (st2 := []) rfl ?_
      refine Ok_drop (lo0 := [some (.ref 115), some (.int x1), some (.int x2), none, some (.int (x4 + 1)), none, some (.long (((10 * x6) + y38.toInt64) - 48)), none]) ⟨Or.inr rfl, Or.inr rfl, Or.inr rfl, Or.inl rfl, Or.inr rfl, Or.inl rfl, Or.inr rfl, Or.inl rfl, trivial⟩ ?_
      exact hb183 r x1 x2 (x4 + 1) (((10 * x6) + y38.toInt64) - 48)
set_option maxHeartbeats 8000000 in
set_option maxRecDepth 100000 in
theorem t_R_sumFrom_p183 (N d : Nat) (xs : List Int32) (c : St) (kb12 : St → Int32 → Int32 → Int32 → Option (Int64 × St)) (hb12 : ∀ (r : St) (x1 : Int32) (x2 : Int32) (x4 : Int32), Ok (mBig (mRoL xs) (d + 1)) (mRoL xs) 3 mK199 (fun p : Int64 × St => (some (.long p.1), HP c p.2)) (kb12 r x1 x2 x4) 12 [some (.ref 115), some (.int x1), some (.int x2), none, some (.int x4), none, none, none] [] (HP c r)) : ∀ (n : Nat) (r : St) (x1 : Int32) (x2 : Int32) (x4 : Int32) (x6 : Int64), Ok (mBig (mRoL xs) (d + 1)) (mRoL xs) 3 mK199 (fun p : Int64 × St => (some (.long p.1), HP c p.2)) (R_sumFrom_p183 N kb12 n r x1 x2 x4 x6) 183 [some (.ref 115), some (.int x1), some (.int x2), none, some (.int x4), none, some (.long x6), none] [] (HP c r) := by
  intro n
  induction n with
  | zero => intro r x1 x2 x4 x6; exact Ok_none
  | succ n ih => intro r x1 x2 x4 x6; exact t_R_sumFrom_p183b N d xs c kb12 hb12 (R_sumFrom_p183 N kb12 n) ih r x1 x2 x4 x6
set_option maxHeartbeats 8000000 in
set_option maxRecDepth 100000 in
theorem t_R_sumFrom_p12b (N d : Nat) (xs : List Int32) (c : St) (kb12 : St → Int32 → Int32 → Int32 → Option (Int64 × St)) (hb12 : ∀ (r : St) (x1 : Int32) (x2 : Int32) (x4 : Int32), Ok (mBig (mRoL xs) (d + 1)) (mRoL xs) 3 mK199 (fun p : Int64 × St => (some (.long p.1), HP c p.2)) (kb12 r x1 x2 x4) 12 [some (.ref 115), some (.int x1), some (.int x2), none, some (.int x4), none, none, none] [] (HP c r)) (r : St) (x1 : Int32) (x2 : Int32) (x4 : Int32) : Ok (mBig (mRoL xs) (d + 1)) (mRoL xs) 3 mK199 (fun p : Int64 × St => (some (.long p.1), HP c p.2)) (R_sumFrom_p12b N kb12 r x1 x2 x4) 12 [some (.ref 115), some (.int x1), some (.int x2), none, some (.int x4), none, none, none] [] (HP c r) := by
  unfold R_sumFrom_p12b
  refine Ok_blk 4 (pc2 := 19) (lo2 := [some (.ref 115), some (.int x1), some (.int x2), none, some (.int x4), none, none, none]) (st2 := [.int x1, .ref 128, .int x4]) rfl ?_
  refine Ok_ld (l := (gA r 12)) rfl rfl (fun y2 hy2 => ?_)
  refine Ok_blk 1 (pc2 := (if y2 ≤ x4 then 355 else 23)) (lo2 := [some (.ref 115), some (.int x1), some (.int x2), none, some (.int x4), none, none, none]) (st2 := []) rfl ?_
  refine Ok_if (fun h3 => ?_) (fun h3 => ?_)
  · refine Ok_drop (lo0 := [some (.ref 115), none, none, none, none, none, none, none]) ⟨Or.inr rfl, Or.inl rfl, Or.inl rfl, Or.inl rfl, Or.inl rfl, Or.inl rfl, Or.inl rfl, Or.inl rfl, trivial⟩ ?_
    exact t_R_sumFrom_p355 N d xs c r
  · refine Ok_blk 7 (pc2 := 34) (lo2 := [some (.ref 115), some (.int x1), some (.int x2), none, some (.int x4), none, none, none]) (st2 := [.int ((60 * x1) + x4), .ref 127]) rfl ?_
    refine Ok_ldb (l := (gA r 11)) (t := 1) rfl rfl rfl (fun y5 hy5 => ?_)
    refine Ok_call (y := 193) (as := [.int y5]) (rest := []) (w := fun p6 => some (.int p6)) (h1 := fun p6 => HP c r) rfl rfl (fun x hx => tm_R_isMark N d xs c r y5 x hx) (fun p6 hp6 => ?_)
    refine Ok_blk 1 (pc2 := (if ¬ p6 = 0 then 355 else 41)) (lo2 := [some (.ref 115), some (.int x1), some (.int x2), none, some (.int x4), none, none, none]) (st2 := []) rfl ?_
    refine Ok_if (fun h7 => ?_) (fun h7 => ?_)
    · refine Ok_drop (lo0 := [some (.ref 115), none, none, none, none, none, none, none]) ⟨Or.inr rfl, Or.inl rfl, Or.inl rfl, Or.inl rfl, Or.inl rfl, Or.inl rfl, Or.inl rfl, Or.inl rfl, trivial⟩ ?_
      exact t_R_sumFrom_p355 N d xs c r
    · refine Ok_blk 7 (pc2 := 52) (lo2 := [some (.ref 115), some (.int x1), some (.int x2), none, some (.int x4), none, none, none]) (st2 := [.int ((60 * x1) + x4), .ref 127]) rfl ?_
      refine Ok_ldb (l := (gA r 11)) (t := 1) rfl rfl rfl (fun y8 hy8 => ?_)
      refine Ok_blk 5 (pc2 := (if ¬ y8 = 40 then 72 else 65)) (lo2 := [some (.ref 115), some (.int x1), some (.int x2), none, some (.int (x4 + 1)), some (.int y8), none, none]) (st2 := []) rfl ?_
      refine Ok_if (fun h9 => ?_) (fun h9 => ?_)
      · refine Ok_blk 3 (pc2 := (if ¬ y8 = 41 then 102 else 79)) (lo2 := [some (.ref 115), some (.int x1), some (.int x2), none, some (.int (x4 + 1)), some (.int y8), none, none]) (st2 := []) rfl ?_
        refine Ok_if (fun h10 => ?_) (fun h10 => ?_)
        · refine Ok_blk 3 (pc2 := (if y8 = 43 then 116 else 109)) (lo2 := [some (.ref 115), some (.int x1), some (.int x2), none, some (.int (x4 + 1)), some (.int y8), none, none]) (st2 := []) rfl ?_
          refine Ok_if (fun h11 => ?_) (fun h11 => ?_)
          · refine Ok_drop (lo0 := [some (.ref 115), some (.int x1), some (.int x2), none, some (.int (x4 + 1)), some (.int y8), none, none]) ⟨Or.inr rfl, Or.inr rfl, Or.inr rfl, Or.inl rfl, Or.inr rfl, Or.inr rfl, Or.inl rfl, Or.inl rfl, trivial⟩ ?_
            exact t_R_sumFrom_p116 N d xs c kb12 hb12 r x1 x2 (x4 + 1) y8
          · refine Ok_blk 3 (pc2 := (if ¬ y8 = 45 then 163 else 116)) (lo2 := [some (.ref 115), some (.int x1), some (.int x2), none, some (.int (x4 + 1)), some (.int y8), none, none]) (st2 := []) rfl ?_
            refine Ok_if (fun h17 => ?_) (fun h17 => ?_)
            · refine Ok_blk 3 (pc2 := 169) (lo2 := [some (.ref 115), some (.int x1), some (.int x2), none, some (.int (x4 + 1)), some (.int y8), none, none]) (st2 := [.int 57, .int 48, .int y8]) rfl ?_
              refine Ok_call (y := 164) (as := [.int y8, .int 48, .int 57]) (rest := []) (w := fun p18 => some (.int p18)) (h1 := fun p18 => HP c r) rfl rfl (fun x hx => tm_R_in N d xs c r y8 48 57 x hx) (fun p18 hp18 => ?_)
              refine Ok_blk 1 (pc2 := (if p18 = 0 then 265 else 175)) (lo2 := [some (.ref 115), some (.int x1), some (.int x2), none, some (.int (x4 + 1)), some (.int y8), none, none]) (st2 := []) rfl ?_
              refine Ok_if (fun h19 => ?_) (fun h19 => ?_)
              · refine Ok_blk 3 (pc2 := (if y8 = 42 then 352 else 272)) (lo2 := [some (.ref 115), some (.int x1), some (.int x2), none, some (.int (x4 + 1)), some (.int y8), none, none]) (st2 := []) rfl ?_
                refine Ok_if (fun h20 => ?_) (fun h20 => ?_)
                · refine Ok_drop (lo0 := [some (.ref 115), some (.int x1), some (.int x2), none, some (.int (x4 + 1)), none, none, none]) ⟨Or.inr rfl, Or.inr rfl, Or.inr rfl, Or.inl rfl, Or.inr rfl, Or.inl rfl, Or.inl rfl, Or.inl rfl, trivial⟩ ?_
                  exact t_R_sumFrom_p352 N d xs c kb12 hb12 r x1 x2 (x4 + 1)
                · refine Ok_blk 5 (pc2 := 281) (lo2 := [some (.ref 115), some (.int x1), some (.int x2), none, some (.int (x4 + 1)), some (.int y8), none, none]) (st2 := [.int (gI r 32), .ref 149, .int (gI r 32), .ref 149]) rfl ?_
                  refine Ok_ldl (l := (gB r 1)) rfl rfl (fun y21 hy21 => ?_)
                  refine Ok_blk 3 (pc2 := (if ¬ y8 = 114 then 299 else 289)) (lo2 := [some (.ref 115), some (.int x1), some (.int x2), none, some (.int (x4 + 1)), some (.int y8), none, none]) (st2 := [.long y21, .int (gI r 32), .ref 149]) rfl ?_
                  refine Ok_if (fun h22 => ?_) (fun h22 => ?_)
                  · refine Ok_blk 3 (pc2 := (if ¬ y8 = 116 then 321 else 306)) (lo2 := [some (.ref 115), some (.int x1), some (.int x2), none, some (.int (x4 + 1)), some (.int y8), none, none]) (st2 := [.long y21, .int (gI r 32), .ref 149]) rfl ?_
                    refine Ok_if (fun h23 => ?_) (fun h23 => ?_)
                    · refine Ok_blk 3 (pc2 := (if ¬ y8 = 104 then 343 else 328)) (lo2 := [some (.ref 115), some (.int x1), some (.int x2), none, some (.int (x4 + 1)), some (.int y8), none, none]) (st2 := [.long y21, .int (gI r 32), .ref 149]) rfl ?_
                      refine Ok_if (fun h24 => ?_) (fun h24 => ?_)
                      · refine Ok_blk 3 (pc2 := 348) (lo2 := [some (.ref 115), some (.int x1), some (.int x2), none, some (.int (x4 + 1)), some (.int y8), none, none]) (st2 := [.int x2, .ref 121, .long y21, .int (gI r 32), .ref 149]) rfl ?_
                        refine Ok_ld (l := (gA r 5)) rfl rfl (fun y25 hy25 => ?_)
                        refine Ok_blk 1 (pc2 := 350) (lo2 := [some (.ref 115), some (.int x1), some (.int x2), none, some (.int (x4 + 1)), some (.int y8), none, none]) (st2 := [.long y25.toInt64, .long y21, .int (gI r 32), .ref 149]) rfl ?_
                        refine Ok_drop (lo0 := [some (.ref 115), some (.int x1), some (.int x2), none, some (.int (x4 + 1)), none, none, none]) ⟨Or.inr rfl, Or.inr rfl, Or.inr rfl, Or.inl rfl, Or.inr rfl, Or.inl rfl, Or.inl rfl, Or.inl rfl, trivial⟩ ?_
                        exact t_R_sumFrom_p350 N d xs c kb12 hb12 r x1 x2 (x4 + 1) (gI r 32) y21 y25.toInt64
                      · refine Ok_blk 5 (pc2 := 337) (lo2 := [some (.ref 115), some (.int x1), some (.int x2), none, some (.int (x4 + 1)), some (.int y8), none, none]) (st2 := [.int x2, .ref 124, .int (gI r 4), .long y21, .int (gI r 32), .ref 149]) rfl ?_
                        refine Ok_ld (l := (gA r 8)) rfl rfl (fun y27 hy27 => ?_)
                        refine Ok_blk 3 (pc2 := 350) (lo2 := [some (.ref 115), some (.int x1), some (.int x2), none, some (.int (x4 + 1)), some (.int y8), none, none]) (st2 := [.long (((gI r 4) - y27).toInt64), .long y21, .int (gI r 32), .ref 149]) rfl ?_
                        refine Ok_drop (lo0 := [some (.ref 115), some (.int x1), some (.int x2), none, some (.int (x4 + 1)), none, none, none]) ⟨Or.inr rfl, Or.inr rfl, Or.inr rfl, Or.inl rfl, Or.inr rfl, Or.inl rfl, Or.inl rfl, Or.inl rfl, trivial⟩ ?_
                        exact t_R_sumFrom_p350 N d xs c kb12 hb12 r x1 x2 (x4 + 1) (gI r 32) y21 (((gI r 4) - y27).toInt64)
                    · refine Ok_blk 5 (pc2 := 315) (lo2 := [some (.ref 115), some (.int x1), some (.int x2), none, some (.int (x4 + 1)), some (.int y8), none, none]) (st2 := [.int x2, .ref 122, .ref 116, .long y21, .int (gI r 32), .ref 149]) rfl ?_
                      refine Ok_ld (l := (gA r 6)) rfl rfl (fun y28 hy28 => ?_)
                      refine Ok_ld (l := (gA r 0)) rfl rfl (fun y29 hy29 => ?_)
                      refine Ok_blk 2 (pc2 := 350) (lo2 := [some (.ref 115), some (.int x1), some (.int x2), none, some (.int (x4 + 1)), some (.int y8), none, none]) (st2 := [.long y29.toInt64, .long y21, .int (gI r 32), .ref 149]) rfl ?_
                      refine Ok_drop (lo0 := [some (.ref 115), some (.int x1), some (.int x2), none, some (.int (x4 + 1)), none, none, none]) ⟨Or.inr rfl, Or.inr rfl, Or.inr rfl, Or.inl rfl, Or.inr rfl, Or.inl rfl, Or.inl rfl, Or.inl rfl, trivial⟩ ?_
                      exact t_R_sumFrom_p350 N d xs c kb12 hb12 r x1 x2 (x4 + 1) (gI r 32) y21 y29.toInt64
                  · refine Ok_blk 3 (pc2 := 294) (lo2 := [some (.ref 115), some (.int x1), some (.int x2), none, some (.int (x4 + 1)), some (.int y8), none, none]) (st2 := [.int x2, .ref 123, .long y21, .int (gI r 32), .ref 149]) rfl ?_
                    refine Ok_ld (l := (gA r 7)) rfl rfl (fun y30 hy30 => ?_)
                    refine Ok_blk 2 (pc2 := 350) (lo2 := [some (.ref 115), some (.int x1), some (.int x2), none, some (.int (x4 + 1)), some (.int y8), none, none]) (st2 := [.long y30.toInt64, .long y21, .int (gI r 32), .ref 149]) rfl ?_
                    refine Ok_drop (lo0 := [some (.ref 115), some (.int x1), some (.int x2), none, some (.int (x4 + 1)), none, none, none]) ⟨Or.inr rfl, Or.inr rfl, Or.inr rfl, Or.inl rfl, Or.inr rfl, Or.inl rfl, Or.inl rfl, Or.inl rfl, trivial⟩ ?_
                    exact t_R_sumFrom_p350 N d xs c kb12 hb12 r x1 x2 (x4 + 1) (gI r 32) y21 y30.toInt64
              · refine Ok_blk 5 (pc2 := 183) (lo2 := [some (.ref 115), some (.int x1), some (.int x2), none, some (.int (x4 + 1)), some (.int y8), some (.long ((y8 - 48).toInt64)), none]) (st2 := []) rfl ?_
                refine Ok_drop (lo0 := [some (.ref 115), some (.int x1), some (.int x2), none, some (.int (x4 + 1)), none, some (.long ((y8 - 48).toInt64)), none]) ⟨Or.inr rfl, Or.inr rfl, Or.inr rfl, Or.inl rfl, Or.inr rfl, Or.inl rfl, Or.inr rfl, Or.inl rfl, trivial⟩ ?_
                exact t_R_sumFrom_p183 N d xs c kb12 hb12 N r x1 x2 (x4 + 1) ((y8 - 48).toInt64)
            · refine Ok_drop (lo0 := [some (.ref 115), some (.int x1), some (.int x2), none, some (.int (x4 + 1)), some (.int y8), none, none]) ⟨Or.inr rfl, Or.inr rfl, Or.inr rfl, Or.inl rfl, Or.inr rfl, Or.inr rfl, Or.inl rfl, Or.inl rfl, trivial⟩ ?_
              exact t_R_sumFrom_p116 N d xs c kb12 hb12 r x1 x2 (x4 + 1) y8
        · refine Ok_blk 1 (pc2 := 80) (lo2 := [some (.ref 115), some (.int x1), some (.int x2), none, some (.int (x4 + 1)), some (.int y8), none, none]) (st2 := [.ref 115]) rfl ?_
          refine Ok_call (y := 198) (as := [.ref 115]) (rest := []) (w := fun p39 => some (.long p39.1)) (h1 := fun p39 => HP c p39.2) rfl rfl (fun x hx => tm_R_closeSum N d xs c r x hx) (fun p39 hp39 => ?_)
          refine Ok_blk 6 (pc2 := 94) (lo2 := [some (.ref 115), some (.int x1), some (.int x2), none, some (.int (x4 + 1)), some (.int y8), some (.long p39.1), none]) (st2 := [.int (gI p39.2 32), .ref 149, .int (gI p39.2 32), .ref 149]) rfl ?_
          refine Ok_ldl (l := (gB p39.2 1)) rfl rfl (fun y40 hy40 => ?_)
          refine Ok_blk 2 (pc2 := 98) (lo2 := [some (.ref 115), some (.int x1), some (.int x2), none, some (.int (x4 + 1)), some (.int y8), some (.long p39.1), none]) (st2 := [.long (y40 * p39.1), .int (gI p39.2 32), .ref 149]) rfl ?_
          refine Ok_stl (l := (gB p39.2 1)) (hn := fun l' => HP c (sB p39.2 1 l')) rfl rfl (fun l' => sa_149 _ _ l') (fun w41 hw41 => ?_)
          refine Ok_blk 1 (pc2 := 352) (lo2 := [some (.ref 115), some (.int x1), some (.int x2), none, some (.int (x4 + 1)), some (.int y8), some (.long p39.1), none]) (st2 := []) rfl ?_
          refine Ok_drop (lo0 := [some (.ref 115), some (.int x1), some (.int x2), none, some (.int (x4 + 1)), none, none, none]) ⟨Or.inr rfl, Or.inr rfl, Or.inr rfl, Or.inl rfl, Or.inr rfl, Or.inl rfl, Or.inl rfl, Or.inl rfl, trivial⟩ ?_
          exact t_R_sumFrom_p352 N d xs c kb12 hb12 (sB p39.2 1 w41) x1 x2 (x4 + 1)
      · refine Ok_blk 1 (pc2 := 66) (lo2 := [some (.ref 115), some (.int x1), some (.int x2), none, some (.int (x4 + 1)), some (.int y8), none, none]) (st2 := [.ref 115]) rfl ?_
        refine Ok_call (y := 197) (as := [.ref 115]) (rest := []) (w := fun p42 => none) (h1 := fun p42 => HP c p42) rfl rfl (fun x hx => tm_R_openSum N d xs c r x hx) (fun p42 hp42 => ?_)
        refine Ok_blk 1 (pc2 := 352) (lo2 := [some (.ref 115), some (.int x1), some (.int x2), none, some (.int (x4 + 1)), some (.int y8), none, none]) (st2 := []) rfl ?_
        refine Ok_drop (lo0 := [some (.ref 115), some (.int x1), some (.int x2), none, some (.int (x4 + 1)), none, none, none]) ⟨Or.inr rfl, Or.inr rfl, Or.inr rfl, Or.inl rfl, Or.inr rfl, Or.inl rfl, Or.inl rfl, Or.inl rfl, trivial⟩ ?_
        exact t_R_sumFrom_p352 N d xs c kb12 hb12 p42 x1 x2 (x4 + 1)
set_option maxHeartbeats 8000000 in
set_option maxRecDepth 100000 in
theorem t_R_sumFrom_p12 (N d : Nat) (xs : List Int32) (c : St) : ∀ (n : Nat) (r : St) (x1 : Int32) (x2 : Int32) (x4 : Int32), Ok (mBig (mRoL xs) (d + 1)) (mRoL xs) 3 mK199 (fun p : Int64 × St => (some (.long p.1), HP c p.2)) (R_sumFrom_p12 N n r x1 x2 x4) 12 [some (.ref 115), some (.int x1), some (.int x2), none, some (.int x4), none, none, none] [] (HP c r) := by
  intro n
  induction n with
  | zero => intro r x1 x2 x4; exact Ok_none
  | succ n ih => intro r x1 x2 x4; exact t_R_sumFrom_p12b N d xs c (R_sumFrom_p12 N n) ih r x1 x2 x4
set_option maxHeartbeats 8000000 in
set_option maxRecDepth 100000 in
theorem t_R_sumFrom (N d : Nat) (xs : List Int32) (c : St) (r : St) (x1 : Int32) (x2 : Int32) (x3 : Int32) : Ok (mBig (mRoL xs) (d + 1)) (mRoL xs) 3 mK199 (fun p : Int64 × St => (some (.long p.1), HP c p.2)) (R_sumFrom N r x1 x2 x3) 0 [some (.ref 115), some (.int x1), some (.int x2), some (.int x3), none, none, none, none] [] (HP c r) := by
  unfold R_sumFrom
  refine Ok_heap 3 (pc2 := 5) (lo2 := [some (.ref 115), some (.int x1), some (.int x2), some (.int x3), none, none, none, none]) (st2 := []) (h2 := HP c (sI r 32 (-1))) rfl (st_115_66 _ _ _) ?_
  refine Ok_blk 1 (pc2 := 6) (lo2 := [some (.ref 115), some (.int x1), some (.int x2), some (.int x3), none, none, none, none]) (st2 := [.ref 115]) rfl ?_
  refine Ok_call (y := 197) (as := [.ref 115]) (rest := []) (w := fun p1 => none) (h1 := fun p1 => HP c p1) rfl rfl (fun x hx => tm_R_openSum N d xs c (sI r 32 (-1)) x hx) (fun p1 hp1 => ?_)
  refine Ok_blk 2 (pc2 := 12) (lo2 := [some (.ref 115), some (.int x1), some (.int x2), some (.int x3), some (.int x3), none, none, none]) (st2 := []) rfl ?_
  refine Ok_drop (lo0 := [some (.ref 115), some (.int x1), some (.int x2), none, some (.int x3), none, none, none]) ⟨Or.inr rfl, Or.inr rfl, Or.inr rfl, Or.inl rfl, Or.inr rfl, Or.inl rfl, Or.inl rfl, Or.inl rfl, trivial⟩ ?_
  exact t_R_sumFrom_p12 N d xs c N p1 x1 x2 x3
set_option maxHeartbeats 8000000 in
set_option maxRecDepth 100000 in
theorem tm_R_sumFrom (N d : Nat) (xs : List Int32) (c r : St) (a1 : Int32) (a2 : Int32) (a3 : Int32) (p : Int64 × St) (hp : R_sumFrom N r a1 a2 a3 = some p) : mBig (mRoL xs) (d + 2) 199 [.ref 115, .int a1, .int a2, .int a3] (HP c r) (some (.long p.1)) (HP c p.2) 0 0 := mBig_of (by decide) rfl rfl rfl rfl (t_R_sumFrom N d xs c r a1 a2 a3 p hp)
/-! ColdHoldsModel.sumOf(III)J, from (('r', 115), 'i', 'i', 'i') -/
def R_sumOf_p18 (N : Nat) (r : St) (s1 : Int32) (s2 : Int32) (s3 : Int32) : Option (Int64 × St) :=
  (R_sumFrom N r s1 s2 s3).bind fun p3 => some (p3.1, p3.2)
def R_sumOf (N : Nat) (r : St) (x1 : Int32) (x2 : Int32) (x3 : Int32) : Option (Int64 × St) :=
  (if ¬ x3 = 0 then (R_markOf N r x1).bind fun p2 => R_sumOf_p18 N r x1 x2 (p2 + 1) else R_sumOf_p18 N r x1 x2 2)
set_option maxHeartbeats 8000000 in
set_option maxRecDepth 100000 in
theorem t_R_sumOf_p18 (N d : Nat) (xs : List Int32) (c : St) (r : St) (s1 : Int32) (s2 : Int32) (s3 : Int32) : Ok (mBig (mRoL xs) (d + 2)) (mRoL xs) 3 mK201 (fun p : Int64 × St => (some (.long p.1), HP c p.2)) (R_sumOf_p18 N r s1 s2 s3) 18 [none, none, none, none] [.int s3, .int s2, .int s1, .ref 115] (HP c r) := by
  unfold R_sumOf_p18
  refine Ok_call (y := 199) (as := [.ref 115, .int s1, .int s2, .int s3]) (rest := []) (w := fun p3 => some (.long p3.1)) (h1 := fun p3 => HP c p3.2) rfl rfl (fun x hx => tm_R_sumFrom N d xs c r s1 s2 s3 x hx) (fun p3 hp3 => ?_)
  exact Ok_ret rfl rfl rfl
set_option maxHeartbeats 8000000 in
set_option maxRecDepth 100000 in
theorem t_R_sumOf (N d : Nat) (xs : List Int32) (c : St) (r : St) (x1 : Int32) (x2 : Int32) (x3 : Int32) : Ok (mBig (mRoL xs) (d + 2)) (mRoL xs) 3 mK201 (fun p : Int64 × St => (some (.long p.1), HP c p.2)) (R_sumOf N r x1 x2 x3) 0 [some (.ref 115), some (.int x1), some (.int x2), some (.int x3)] [] (HP c r) := by
  unfold R_sumOf
  refine Ok_blk 5 (pc2 := (if ¬ x3 = 0 then 11 else 7)) (lo2 := [some (.ref 115), some (.int x1), some (.int x2), some (.int x3)]) (st2 := [.int x2, .int x1, .ref 115]) rfl ?_
  refine Ok_if (fun h1 => ?_) (fun h1 => ?_)
  · refine Ok_blk 2 (pc2 := 13) (lo2 := [some (.ref 115), some (.int x1), some (.int x2), some (.int x3)]) (st2 := [.int x1, .ref 115, .int x2, .int x1, .ref 115]) rfl ?_
    refine Ok_call (y := 200) (as := [.ref 115, .int x1]) (rest := [.int x2, .int x1, .ref 115]) (w := fun p2 => some (.int p2)) (h1 := fun p2 => HP c r) rfl rfl (fun x hx => tm_R_markOf N d xs c r x1 x hx) (fun p2 hp2 => ?_)
    refine Ok_blk 2 (pc2 := 18) (lo2 := [some (.ref 115), some (.int x1), some (.int x2), some (.int x3)]) (st2 := [.int (p2 + 1), .int x2, .int x1, .ref 115]) rfl ?_
    refine Ok_drop (lo0 := [none, none, none, none]) ⟨Or.inl rfl, Or.inl rfl, Or.inl rfl, Or.inl rfl, trivial⟩ ?_
    exact t_R_sumOf_p18 N d xs c r x1 x2 (p2 + 1)
  · refine Ok_blk 2 (pc2 := 18) (lo2 := [some (.ref 115), some (.int x1), some (.int x2), some (.int x3)]) (st2 := [.int 2, .int x2, .int x1, .ref 115]) rfl ?_
    refine Ok_drop (lo0 := [none, none, none, none]) ⟨Or.inl rfl, Or.inl rfl, Or.inl rfl, Or.inl rfl, trivial⟩ ?_
    exact t_R_sumOf_p18 N d xs c r x1 x2 2
set_option maxHeartbeats 8000000 in
set_option maxRecDepth 100000 in
theorem tm_R_sumOf (N d : Nat) (xs : List Int32) (c r : St) (a1 : Int32) (a2 : Int32) (a3 : Int32) (p : Int64 × St) (hp : R_sumOf N r a1 a2 a3 = some p) : mBig (mRoL xs) (d + 3) 201 [.ref 115, .int a1, .int a2, .int a3] (HP c r) (some (.long p.1)) (HP c p.2) 0 0 := mBig_of (by decide) rfl rfl rfl rfl (t_R_sumOf N d xs c r a1 a2 a3 p hp)
/-! ColdHoldsModel.says(II)I, from (('r', 115), 'i', 'i') -/
def R_says_p17 (N : Nat) (r : St) : Option (Int32 × St) :=
  some ((-101), r)
def R_says_p156 (N : Nat) (r : St) : Option (Int32 × St) :=
  some (0, r)
def R_says_p152 (N : Nat) (r : St) : Option (Int32 × St) :=
  some (1, r)
def R_says_p50b (N : Nat) (kb50 : St → Int32 → Int32 → Int32 → Option (Int32 × St)) (r : St) (x2 : Int32) (x3 : Int32) (x4 : Int32) : Option (Int32 × St) :=
  (if x4 < 0 then some ((-1), r) else (ld (gA r 11) (60 * x4)).bind fun y8 => (if ¬ y8 = x3 then kb50 r x2 x3 (x4 + (-1)) else (R_sumOf N r x4 x2 0).bind fun p10 => (R_sumOf N p10.2 x4 x2 1).bind fun p11 => (R_markOf N p11.2 x4).bind fun p12 => (ld (gA p11.2 11) ((60 * x4) + p12)).bind fun y13 => (if ¬ y13 = 60 then (if ¬ y13 = 61 then (if (mLc p10.1 p11.1) ≤ 0 then R_says_p156 N p11.2 else R_says_p152 N p11.2) else (if ¬ (mLc p10.1 p11.1) = 0 then R_says_p156 N p11.2 else R_says_p152 N p11.2)) else (if 0 ≤ (mLc p10.1 p11.1) then R_says_p156 N p11.2 else R_says_p152 N p11.2))))
def R_says_p50 (N : Nat) : Nat → St → Int32 → Int32 → Int32 → Option (Int32 × St)
  | 0 => fun _ _ _ _ => none
  | n + 1 => R_says_p50b N (R_says_p50 N n)
def R_says_p41 (N : Nat) (r : St) (x2 : Int32) (s0 : Int32) : Option (Int32 × St) :=
  R_says_p50 N N r x2 s0 ((gI r 9) - 1)
def R_says (N : Nat) (r : St) (x1 : Int32) (x2 : Int32) : Option (Int32 × St) :=
  (R_in N x1 0 2).bind fun p1 => (if p1 = 0 then R_says_p17 N r else (R_isLot N r x2).bind fun p3 => (if ¬ p3 = 0 then (if ¬ x1 = 0 then (if ¬ x1 = 1 then R_says_p41 N r x2 67 else R_says_p41 N r x2 83) else R_says_p41 N r x2 87) else R_says_p17 N r))
set_option maxHeartbeats 8000000 in
set_option maxRecDepth 100000 in
theorem t_R_says_p17 (N d : Nat) (xs : List Int32) (c : St) (r : St) : Ok (mBig (mRoL xs) (d + 3)) (mRoL xs) 1 mK202 (fun p : Int32 × St => (some (.int p.1), HP c p.2)) (R_says_p17 N r) 17 [none, none, none, none, none, none, none, none, none, none] [] (HP c r) := by
  unfold R_says_p17
  refine Ok_blk 1 (pc2 := 19) (lo2 := [none, none, none, none, none, none, none, none, none, none]) (st2 := [.int (-101)]) rfl ?_
  exact Ok_ret rfl rfl rfl
set_option maxHeartbeats 8000000 in
set_option maxRecDepth 100000 in
theorem t_R_says_p156 (N d : Nat) (xs : List Int32) (c : St) (r : St) : Ok (mBig (mRoL xs) (d + 3)) (mRoL xs) 1 mK202 (fun p : Int32 × St => (some (.int p.1), HP c p.2)) (R_says_p156 N r) 156 [none, none, none, none, none, none, none, none, none, none] [] (HP c r) := by
  unfold R_says_p156
  refine Ok_blk 1 (pc2 := 157) (lo2 := [none, none, none, none, none, none, none, none, none, none]) (st2 := [.int 0]) rfl ?_
  exact Ok_ret rfl rfl rfl
set_option maxHeartbeats 8000000 in
set_option maxRecDepth 100000 in
theorem t_R_says_p152 (N d : Nat) (xs : List Int32) (c : St) (r : St) : Ok (mBig (mRoL xs) (d + 3)) (mRoL xs) 1 mK202 (fun p : Int32 × St => (some (.int p.1), HP c p.2)) (R_says_p152 N r) 152 [none, none, none, none, none, none, none, none, none, none] [] (HP c r) := by
  unfold R_says_p152
  refine Ok_blk 2 (pc2 := 157) (lo2 := [none, none, none, none, none, none, none, none, none, none]) (st2 := [.int 1]) rfl ?_
  exact Ok_ret rfl rfl rfl
set_option maxHeartbeats 8000000 in
set_option maxRecDepth 100000 in
theorem t_R_says_p50b (N d : Nat) (xs : List Int32) (c : St) (kb50 : St → Int32 → Int32 → Int32 → Option (Int32 × St)) (hb50 : ∀ (r : St) (x2 : Int32) (x3 : Int32) (x4 : Int32), Ok (mBig (mRoL xs) (d + 3)) (mRoL xs) 1 mK202 (fun p : Int32 × St => (some (.int p.1), HP c p.2)) (kb50 r x2 x3 x4) 50 [some (.ref 115), none, some (.int x2), some (.int x3), some (.int x4), none, none, none, none, none] [] (HP c r)) (r : St) (x2 : Int32) (x3 : Int32) (x4 : Int32) : Ok (mBig (mRoL xs) (d + 3)) (mRoL xs) 1 mK202 (fun p : Int32 × St => (some (.int p.1), HP c p.2)) (R_says_p50b N kb50 r x2 x3 x4) 50 [some (.ref 115), none, some (.int x2), some (.int x3), some (.int x4), none, none, none, none, none] [] (HP c r) := by
  unfold R_says_p50b
  refine Ok_blk 2 (pc2 := (if x4 < 0 then 164 else 55)) (lo2 := [some (.ref 115), none, some (.int x2), some (.int x3), some (.int x4), none, none, none, none, none]) (st2 := []) rfl ?_
  refine Ok_if (fun h7 => ?_) (fun h7 => ?_)
  · refine Ok_blk 1 (pc2 := 165) (lo2 := [some (.ref 115), none, some (.int x2), some (.int x3), some (.int x4), none, none, none, none, none]) (st2 := [.int (-1)]) rfl ?_
    exact Ok_ret rfl rfl rfl
  · refine Ok_blk 5 (pc2 := 64) (lo2 := [some (.ref 115), none, some (.int x2), some (.int x3), some (.int x4), none, none, none, none, none]) (st2 := [.int (60 * x4), .ref 127]) rfl ?_
    refine Ok_ldb (l := (gA r 11)) (t := 1) rfl rfl rfl (fun y8 hy8 => ?_)
    refine Ok_blk 2 (pc2 := (if ¬ y8 = x3 then 158 else 69)) (lo2 := [some (.ref 115), none, some (.int x2), some (.int x3), some (.int x4), none, none, none, none, none]) (st2 := []) rfl ?_
    refine Ok_if (fun h9 => ?_) (fun h9 => ?_)
    · refine Ok_blk 2 (pc2 := 50) (lo2 := [some (.ref 115), none, some (.int x2), some (.int x3), some (.int (x4 + (-1))), none, none, none, none, none]) (st2 := []) rfl ?_
      refine Ok_drop (lo0 := [some (.ref 115), none, some (.int x2), some (.int x3), some (.int (x4 + (-1))), none, none, none, none, none]) ⟨Or.inr rfl, Or.inl rfl, Or.inr rfl, Or.inr rfl, Or.inr rfl, Or.inl rfl, Or.inl rfl, Or.inl rfl, Or.inl rfl, Or.inl rfl, trivial⟩ ?_
      exact hb50 r x2 x3 (x4 + (-1))
    · refine Ok_blk 4 (pc2 := 74) (lo2 := [some (.ref 115), none, some (.int x2), some (.int x3), some (.int x4), none, none, none, none, none]) (st2 := [.int 0, .int x2, .int x4, .ref 115]) rfl ?_
      refine Ok_call (y := 201) (as := [.ref 115, .int x4, .int x2, .int 0]) (rest := []) (w := fun p10 => some (.long p10.1)) (h1 := fun p10 => HP c p10.2) rfl rfl (fun x hx => tm_R_sumOf N d xs c r x4 x2 0 x hx) (fun p10 hp10 => ?_)
      refine Ok_blk 5 (pc2 := 84) (lo2 := [some (.ref 115), none, some (.int x2), some (.int x3), some (.int x4), some (.long p10.1), none, none, none, none]) (st2 := [.int 1, .int x2, .int x4, .ref 115]) rfl ?_
      refine Ok_call (y := 201) (as := [.ref 115, .int x4, .int x2, .int 1]) (rest := []) (w := fun p11 => some (.long p11.1)) (h1 := fun p11 => HP c p11.2) rfl rfl (fun x hx => tm_R_sumOf N d xs c p10.2 x4 x2 1 x hx) (fun p11 hp11 => ?_)
      refine Ok_blk 8 (pc2 := 101) (lo2 := [some (.ref 115), none, some (.int x2), some (.int x3), some (.int x4), some (.long p10.1), none, some (.long p11.1), none, none]) (st2 := [.int x4, .ref 115, .int (60 * x4), .ref 127]) rfl ?_
      refine Ok_call (y := 200) (as := [.ref 115, .int x4]) (rest := [.int (60 * x4), .ref 127]) (w := fun p12 => some (.int p12)) (h1 := fun p12 => HP c p11.2) rfl rfl (fun x hx => tm_R_markOf N (d + 1) xs c p11.2 x4 x hx) (fun p12 hp12 => ?_)
      refine Ok_blk 1 (pc2 := 105) (lo2 := [some (.ref 115), none, some (.int x2), some (.int x3), some (.int x4), some (.long p10.1), none, some (.long p11.1), none, none]) (st2 := [.int ((60 * x4) + p12), .ref 127]) rfl ?_
      refine Ok_ldb (l := (gA p11.2 11)) (t := 1) rfl rfl rfl (fun y13 hy13 => ?_)
      refine Ok_blk 4 (pc2 := (if ¬ y13 = 60 then 126 else 115)) (lo2 := [some (.ref 115), none, some (.int x2), some (.int x3), some (.int x4), some (.long p10.1), none, some (.long p11.1), none, some (.int y13)]) (st2 := []) rfl ?_
      refine Ok_if (fun h14 => ?_) (fun h14 => ?_)
      · refine Ok_blk 3 (pc2 := (if ¬ y13 = 61 then 144 else 133)) (lo2 := [some (.ref 115), none, some (.int x2), some (.int x3), some (.int x4), some (.long p10.1), none, some (.long p11.1), none, some (.int y13)]) (st2 := []) rfl ?_
        refine Ok_if (fun h15 => ?_) (fun h15 => ?_)
        · refine Ok_blk 4 (pc2 := (if (mLc p10.1 p11.1) ≤ 0 then 156 else 152)) (lo2 := [some (.ref 115), none, some (.int x2), some (.int x3), some (.int x4), some (.long p10.1), none, some (.long p11.1), none, some (.int y13)]) (st2 := []) rfl ?_
          refine Ok_if (fun h16 => ?_) (fun h16 => ?_)
          · refine Ok_drop (lo0 := [none, none, none, none, none, none, none, none, none, none]) ⟨Or.inl rfl, Or.inl rfl, Or.inl rfl, Or.inl rfl, Or.inl rfl, Or.inl rfl, Or.inl rfl, Or.inl rfl, Or.inl rfl, Or.inl rfl, trivial⟩ ?_
            exact t_R_says_p156 N d xs c p11.2
          · refine Ok_drop (lo0 := [none, none, none, none, none, none, none, none, none, none]) ⟨Or.inl rfl, Or.inl rfl, Or.inl rfl, Or.inl rfl, Or.inl rfl, Or.inl rfl, Or.inl rfl, Or.inl rfl, Or.inl rfl, Or.inl rfl, trivial⟩ ?_
            exact t_R_says_p152 N d xs c p11.2
        · refine Ok_blk 4 (pc2 := (if ¬ (mLc p10.1 p11.1) = 0 then 156 else 141)) (lo2 := [some (.ref 115), none, some (.int x2), some (.int x3), some (.int x4), some (.long p10.1), none, some (.long p11.1), none, some (.int y13)]) (st2 := []) rfl ?_
          refine Ok_if (fun h17 => ?_) (fun h17 => ?_)
          · refine Ok_drop (lo0 := [none, none, none, none, none, none, none, none, none, none]) ⟨Or.inl rfl, Or.inl rfl, Or.inl rfl, Or.inl rfl, Or.inl rfl, Or.inl rfl, Or.inl rfl, Or.inl rfl, Or.inl rfl, Or.inl rfl, trivial⟩ ?_
            exact t_R_says_p156 N d xs c p11.2
          · refine Ok_blk 1 (pc2 := 152) (lo2 := [some (.ref 115), none, some (.int x2), some (.int x3), some (.int x4), some (.long p10.1), none, some (.long p11.1), none, some (.int y13)]) (st2 := []) rfl ?_
            refine Ok_drop (lo0 := [none, none, none, none, none, none, none, none, none, none]) ⟨Or.inl rfl, Or.inl rfl, Or.inl rfl, Or.inl rfl, Or.inl rfl, Or.inl rfl, Or.inl rfl, Or.inl rfl, Or.inl rfl, Or.inl rfl, trivial⟩ ?_
            exact t_R_says_p152 N d xs c p11.2
      · refine Ok_blk 4 (pc2 := (if 0 ≤ (mLc p10.1 p11.1) then 156 else 123)) (lo2 := [some (.ref 115), none, some (.int x2), some (.int x3), some (.int x4), some (.long p10.1), none, some (.long p11.1), none, some (.int y13)]) (st2 := []) rfl ?_
        refine Ok_if (fun h18 => ?_) (fun h18 => ?_)
        · refine Ok_drop (lo0 := [none, none, none, none, none, none, none, none, none, none]) ⟨Or.inl rfl, Or.inl rfl, Or.inl rfl, Or.inl rfl, Or.inl rfl, Or.inl rfl, Or.inl rfl, Or.inl rfl, Or.inl rfl, Or.inl rfl, trivial⟩ ?_
          exact t_R_says_p156 N d xs c p11.2
        · refine Ok_blk 1 (pc2 := 152) (lo2 := [some (.ref 115), none, some (.int x2), some (.int x3), some (.int x4), some (.long p10.1), none, some (.long p11.1), none, some (.int y13)]) (st2 := []) rfl ?_
          refine Ok_drop (lo0 := [none, none, none, none, none, none, none, none, none, none]) ⟨Or.inl rfl, Or.inl rfl, Or.inl rfl, Or.inl rfl, Or.inl rfl, Or.inl rfl, Or.inl rfl, Or.inl rfl, Or.inl rfl, Or.inl rfl, trivial⟩ ?_
          exact t_R_says_p152 N d xs c p11.2
set_option maxHeartbeats 8000000 in
set_option maxRecDepth 100000 in
theorem t_R_says_p50 (N d : Nat) (xs : List Int32) (c : St) : ∀ (n : Nat) (r : St) (x2 : Int32) (x3 : Int32) (x4 : Int32), Ok (mBig (mRoL xs) (d + 3)) (mRoL xs) 1 mK202 (fun p : Int32 × St => (some (.int p.1), HP c p.2)) (R_says_p50 N n r x2 x3 x4) 50 [some (.ref 115), none, some (.int x2), some (.int x3), some (.int x4), none, none, none, none, none] [] (HP c r) := by
  intro n
  induction n with
  | zero => intro r x2 x3 x4; exact Ok_none
  | succ n ih => intro r x2 x3 x4; exact t_R_says_p50b N d xs c (R_says_p50 N n) ih r x2 x3 x4
set_option maxHeartbeats 8000000 in
set_option maxRecDepth 100000 in
theorem t_R_says_p41 (N d : Nat) (xs : List Int32) (c : St) (r : St) (x2 : Int32) (s0 : Int32) : Ok (mBig (mRoL xs) (d + 3)) (mRoL xs) 1 mK202 (fun p : Int32 × St => (some (.int p.1), HP c p.2)) (R_says_p41 N r x2 s0) 41 [some (.ref 115), none, some (.int x2), none, none, none, none, none, none, none] [.int s0] (HP c r) := by
  unfold R_says_p41
  refine Ok_blk 6 (pc2 := 50) (lo2 := [some (.ref 115), none, some (.int x2), some (.int s0), some (.int ((gI r 9) - 1)), none, none, none, none, none]) (st2 := []) rfl ?_
  refine Ok_drop (lo0 := [some (.ref 115), none, some (.int x2), some (.int s0), some (.int ((gI r 9) - 1)), none, none, none, none, none]) ⟨Or.inr rfl, Or.inl rfl, Or.inr rfl, Or.inr rfl, Or.inr rfl, Or.inl rfl, Or.inl rfl, Or.inl rfl, Or.inl rfl, Or.inl rfl, trivial⟩ ?_
  exact t_R_says_p50 N d xs c N r x2 s0 ((gI r 9) - 1)
set_option maxHeartbeats 8000000 in
set_option maxRecDepth 100000 in
theorem t_R_says (N d : Nat) (xs : List Int32) (c : St) (r : St) (x1 : Int32) (x2 : Int32) : Ok (mBig (mRoL xs) (d + 3)) (mRoL xs) 1 mK202 (fun p : Int32 × St => (some (.int p.1), HP c p.2)) (R_says N r x1 x2) 0 [some (.ref 115), some (.int x1), some (.int x2), none, none, none, none, none, none, none] [] (HP c r) := by
  unfold R_says
  refine Ok_blk 3 (pc2 := 3) (lo2 := [some (.ref 115), some (.int x1), some (.int x2), none, none, none, none, none, none, none]) (st2 := [.int 2, .int 0, .int x1]) rfl ?_
  refine Ok_call (y := 164) (as := [.int x1, .int 0, .int 2]) (rest := []) (w := fun p1 => some (.int p1)) (h1 := fun p1 => HP c r) rfl rfl (fun x hx => tm_R_in N (d + 2) xs c r x1 0 2 x hx) (fun p1 hp1 => ?_)
  refine Ok_blk 1 (pc2 := (if p1 = 0 then 17 else 9)) (lo2 := [some (.ref 115), some (.int x1), some (.int x2), none, none, none, none, none, none, none]) (st2 := []) rfl ?_
  refine Ok_if (fun h2 => ?_) (fun h2 => ?_)
  · refine Ok_drop (lo0 := [none, none, none, none, none, none, none, none, none, none]) ⟨Or.inl rfl, Or.inl rfl, Or.inl rfl, Or.inl rfl, Or.inl rfl, Or.inl rfl, Or.inl rfl, Or.inl rfl, Or.inl rfl, Or.inl rfl, trivial⟩ ?_
    exact t_R_says_p17 N d xs c r
  · refine Ok_blk 2 (pc2 := 11) (lo2 := [some (.ref 115), some (.int x1), some (.int x2), none, none, none, none, none, none, none]) (st2 := [.int x2, .ref 115]) rfl ?_
    refine Ok_call (y := 184) (as := [.ref 115, .int x2]) (rest := []) (w := fun p3 => some (.int p3)) (h1 := fun p3 => HP c r) rfl rfl (fun x hx => tm_R_isLot N (d + 1) xs c r x2 x hx) (fun p3 hp3 => ?_)
    refine Ok_blk 1 (pc2 := (if ¬ p3 = 0 then 20 else 17)) (lo2 := [some (.ref 115), some (.int x1), some (.int x2), none, none, none, none, none, none, none]) (st2 := []) rfl ?_
    refine Ok_if (fun h4 => ?_) (fun h4 => ?_)
    · refine Ok_blk 2 (pc2 := (if ¬ x1 = 0 then 29 else 24)) (lo2 := [some (.ref 115), some (.int x1), some (.int x2), none, none, none, none, none, none, none]) (st2 := []) rfl ?_
      refine Ok_if (fun h5 => ?_) (fun h5 => ?_)
      · refine Ok_blk 3 (pc2 := (if ¬ x1 = 1 then 39 else 34)) (lo2 := [some (.ref 115), some (.int x1), some (.int x2), none, none, none, none, none, none, none]) (st2 := []) rfl ?_
        refine Ok_if (fun h6 => ?_) (fun h6 => ?_)
        · refine Ok_blk 1 (pc2 := 41) (lo2 := [some (.ref 115), some (.int x1), some (.int x2), none, none, none, none, none, none, none]) (st2 := [.int 67]) rfl ?_
          refine Ok_drop (lo0 := [some (.ref 115), none, some (.int x2), none, none, none, none, none, none, none]) ⟨Or.inr rfl, Or.inl rfl, Or.inr rfl, Or.inl rfl, Or.inl rfl, Or.inl rfl, Or.inl rfl, Or.inl rfl, Or.inl rfl, Or.inl rfl, trivial⟩ ?_
          exact t_R_says_p41 N d xs c r x2 67
        · refine Ok_blk 2 (pc2 := 41) (lo2 := [some (.ref 115), some (.int x1), some (.int x2), none, none, none, none, none, none, none]) (st2 := [.int 83]) rfl ?_
          refine Ok_drop (lo0 := [some (.ref 115), none, some (.int x2), none, none, none, none, none, none, none]) ⟨Or.inr rfl, Or.inl rfl, Or.inr rfl, Or.inl rfl, Or.inl rfl, Or.inl rfl, Or.inl rfl, Or.inl rfl, Or.inl rfl, Or.inl rfl, trivial⟩ ?_
          exact t_R_says_p41 N d xs c r x2 83
      · refine Ok_blk 2 (pc2 := 41) (lo2 := [some (.ref 115), some (.int x1), some (.int x2), none, none, none, none, none, none, none]) (st2 := [.int 87]) rfl ?_
        refine Ok_drop (lo0 := [some (.ref 115), none, some (.int x2), none, none, none, none, none, none, none]) ⟨Or.inr rfl, Or.inl rfl, Or.inr rfl, Or.inl rfl, Or.inl rfl, Or.inl rfl, Or.inl rfl, Or.inl rfl, Or.inl rfl, Or.inl rfl, trivial⟩ ?_
        exact t_R_says_p41 N d xs c r x2 87
    · refine Ok_drop (lo0 := [none, none, none, none, none, none, none, none, none, none]) ⟨Or.inl rfl, Or.inl rfl, Or.inl rfl, Or.inl rfl, Or.inl rfl, Or.inl rfl, Or.inl rfl, Or.inl rfl, Or.inl rfl, Or.inl rfl, trivial⟩ ?_
      exact t_R_says_p17 N d xs c r
set_option maxHeartbeats 8000000 in
set_option maxRecDepth 100000 in
theorem tm_R_says (N d : Nat) (xs : List Int32) (c r : St) (a1 : Int32) (a2 : Int32) (p : Int32 × St) (hp : R_says N r a1 a2 = some p) : mBig (mRoL xs) (d + 4) 202 [.ref 115, .int a1, .int a2] (HP c r) (some (.int p.1)) (HP c p.2) 0 0 := mBig_of (by decide) rfl rfl rfl rfl (t_R_says N d xs c r a1 a2 p hp)
