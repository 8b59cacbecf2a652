/-! the cells behind the constructors: HP c r, what they hold in registers c (the component's) and r (the reference's) -/
abbrev St : Type := (Nat → Int32) × (Nat → Int64) × (Nat → List Int32) × (Nat → List Int64)
def gI (c : St) (k : Nat) : Int32 := c.1 k
def gL (c : St) (k : Nat) : Int64 := c.2.1 k
def gA (c : St) (k : Nat) : List Int32 := c.2.2.1 k
def gB (c : St) (k : Nat) : List Int64 := c.2.2.2 k
def sI (c : St) (k : Nat) (v : Int32) : St := (fun j => bif Nat.beq j k then v else c.1 j, c.2)
def sL (c : St) (k : Nat) (v : Int64) : St := (c.1, fun j => bif Nat.beq j k then v else c.2.1 j, c.2.2)
def sA (c : St) (k : Nat) (v : List Int32) : St := (c.1, c.2.1, fun j => bif Nat.beq j k then v else c.2.2.1 j, c.2.2.2)
def sB (c : St) (k : Nat) (v : List Int64) : St := (c.1, c.2.1, c.2.2.1, fun j => bif Nat.beq j k then v else c.2.2.2 j)
def HC (c : St) : mH := [.inl (11, [.ref 1, .ref 7, .ref 11, .ref 15, .ref 40, .ref 59, .ref 62, .ref 67, .ref 82, .ref 88, .ref 100, .ref 104]), .inl (4, [.ref 2, .ref 3, .ref 4, .int (gI c 0), .int (gI c 1), .int (gI c 2), .ref 5, .ref 6]), .inr (0, .inl (gA c 0)), .inr (0, .inl (gA c 1)), .inr (0, .inl (gA c 2)), .inr (0, .inl (gA c 3)), .inr (0, .inl (gA c 4)), .inl (0, [.ref 8, .ref 9, .int (gI c 3), .ref 10]), .inr (0, .inl (gA c 5)), .inr (0, .inl (gA c 6)), .inr (0, .inl (gA c 7)), .inl (0, [.ref 12, .ref 13, .int (gI c 4), .ref 14]), .inr (0, .inl (gA c 8)), .inr (0, .inl (gA c 9)), .inr (0, .inl (gA c 10)), .inl (5, [.ref 16, .ref 17, .ref 18, .int (gI c 5), .ref 19]), .inr (0, .inl (gA c 11)), .inr (0, .inl (gA c 12)), .inr (0, .inl (gA c 13)), .inr (4, .inr (.inr [some 20, some 21, some 22, some 23, some 24, some 25, some 26, some 27, some 28, some 29, some 30, some 31, some 32, some 33, some 34, some 35, some 36, some 37, some 38, some 39])), .inr (0, .inl (gA c 14)), .inr (0, .inl (gA c 15)), .inr (0, .inl (gA c 16)), .inr (0, .inl (gA c 17)), .inr (0, .inl (gA c 18)), .inr (0, .inl (gA c 19)), .inr (0, .inl (gA c 20)), .inr (0, .inl (gA c 21)), .inr (0, .inl (gA c 22)), .inr (0, .inl (gA c 23)), .inr (0, .inl (gA c 24)), .inr (0, .inl (gA c 25)), .inr (0, .inl (gA c 26)), .inr (0, .inl (gA c 27)), .inr (0, .inl (gA c 28)), .inr (0, .inl (gA c 29)), .inr (0, .inl (gA c 30)), .inr (0, .inl (gA c 31)), .inr (0, .inl (gA c 32)), .inr (0, .inl (gA c 33)), .inl (10, [.ref 41, .int (gI c 6), .int (gI c 7), .int (gI c 8), .int (gI c 9), .int (gI c 10), .int (gI c 11), .ref 42, .ref 55, .ref 56, .ref 57, .ref 58, .int (gI c 12), .int (gI c 13), .int (gI c 14)]), .inr (0, .inl (gA c 34)), .inr (4, .inr (.inr [some 43, some 44, some 45, some 46, some 47, some 48, some 49, some 50, some 51, some 52, some 53, some 54])), .inr (0, .inl (gA c 35)), .inr (0, .inl (gA c 36)), .inr (0, .inl (gA c 37)), .inr (0, .inl (gA c 38)), .inr (0, .inl (gA c 39)), .inr (0, .inl (gA c 40)), .inr (0, .inl (gA c 41)), .inr (0, .inl (gA c 42)), .inr (0, .inl (gA c 43)), .inr (0, .inl (gA c 44)), .inr (0, .inl (gA c 45)), .inr (0, .inl (gA c 46)), .inr (0, .inl (gA c 47)), .inr (0, .inl (gA c 48)), .inr (3, .inr (.inl (gB c 0))), .inr (3, .inr (.inl (gB c 1))), .inl (7, [.int (gI c 15), .int (gI c 16), .ref 60, .ref 61]), .inr (0, .inl (gA c 49)), .inr (0, .inl (gA c 50)), .inl (9, [.ref 63, .int (gI c 17), .int (gI c 18), .int (gI c 19), .int (gI c 20), .ref 64, .ref 65, .ref 66]), .inr (0, .inl (gA c 51)), .inr (0, .inl (gA c 52)), .inr (0, .inl (gA c 53)), .inr (0, .inl (gA c 54)), .inl (2, [.ref 68, .ref 69, .int (gI c 21), .int (gI c 22), .int (gI c 23), .ref 76, .ref 77, .ref 78, .ref 79, .ref 80, .ref 81]), .inr (0, .inl (gA c 55)), .inr (4, .inr (.inr [some 70, some 71, some 72, some 73, some 74, some 75])), .inr (0, .inl (gA c 56)), .inr (0, .inl (gA c 57)), .inr (0, .inl (gA c 58)), .inr (0, .inl (gA c 59)), .inr (0, .inl (gA c 60)), .inr (0, .inl (gA c 61)), .inr (0, .inl (gA c 62)), .inr (0, .inl (gA c 63)), .inr (0, .inl (gA c 64)), .inr (0, .inl (gA c 65)), .inr (0, .inl (gA c 66)), .inr (0, .inl (gA c 67)), .inl (6, [.ref 83, .int (gI c 24), .ref 84, .ref 85, .ref 86, .ref 87]), .inr (0, .inl (gA c 68)), .inr (0, .inl (gA c 69)), .inr (0, .inl (gA c 70)), .inr (0, .inl (gA c 71)), .inr (0, .inl (gA c 72)), .inl (3, [.ref 89, .int (gI c 25), .int (gI c 26), .ref 98, .ref 99]), .inr (4, .inr (.inr [some 90, some 91, some 92, some 93, some 94, some 95, some 96, some 97])), .inr (0, .inl (gA c 73)), .inr (0, .inl (gA c 74)), .inr (0, .inl (gA c 75)), .inr (0, .inl (gA c 76)), .inr (0, .inl (gA c 77)), .inr (0, .inl (gA c 78)), .inr (0, .inl (gA c 79)), .inr (0, .inl (gA c 80)), .inr (0, .inl (gA c 81)), .inr (0, .inl (gA c 82)), .inl (8, [.ref 101, .int (gI c 27), .ref 102, .ref 103]), .inr (0, .inl (gA c 83)), .inr (0, .inl (gA c 84)), .inr (0, .inl (gA c 85)), .inl (1, [.ref 105, .int (gI c 28), .ref 114]), .inr (4, .inr (.inr [some 106, some 107, some 108, some 109, some 110, some 111, some 112, some 113])), .inr (0, .inl (gA c 86)), .inr (0, .inl (gA c 87)), .inr (0, .inl (gA c 88)), .inr (0, .inl (gA c 89)), .inr (0, .inl (gA c 90)), .inr (0, .inl (gA c 91)), .inr (0, .inl (gA c 92)), .inr (0, .inl (gA c 93)), .inr (0, .inl (gA c 94))]
def HR (r : St) : mH := [.inl (12, [.ref 116, .ref 117, .ref 118, .int (gI r 0), .int (gI r 1), .int (gI r 2), .int (gI r 3), .int (gI r 4), .int (gI r 5), .int (gI r 6), .ref 119, .ref 120, .int (gI r 7), .ref 121, .ref 122, .ref 123, .ref 124, .ref 125, .int (gI r 8), .ref 126, .int (gI r 9), .ref 127, .ref 128, .int (gI r 10), .ref 129, .ref 130, .int (gI r 11), .int (gI r 12), .ref 131, .int (gI r 13), .ref 132, .ref 133, .ref 134, .ref 135, .int (gI r 14), .int (gI r 15), .int (gI r 16), .int (gI r 17), .int (gI r 18), .int (gI r 19), .ref 136, .ref 137, .int (gI r 20), .ref 138, .ref 139, .ref 140, .int (gI r 21), .ref 141, .ref 142, .int (gI r 22), .int (gI r 23), .int (gI r 24), .int (gI r 25), .int (gI r 26), .ref 143, .ref 144, .ref 145, .ref 146, .ref 147, .int (gI r 27), .int (gI r 28), .int (gI r 29), .int (gI r 30), .int (gI r 31), .ref 148, .ref 149, .int (gI r 32), .ref 150, .ref 151, .ref 152, .int (gI r 33), .ref 153, .ref 154, .ref 155, .ref 156, .ref 157, .int (gI r 34), .long (gL r 0)]), .inr (0, .inl (gA r 0)), .inr (0, .inl (gA r 1)), .inr (2, .inl (gA r 2)), .inr (0, .inl (gA r 3)), .inr (0, .inl (gA r 4)), .inr (0, .inl (gA r 5)), .inr (0, .inl (gA r 6)), .inr (0, .inl (gA r 7)), .inr (0, .inl (gA r 8)), .inr (0, .inl (gA r 9)), .inr (1, .inl (gA r 10)), .inr (1, .inl (gA r 11)), .inr (0, .inl (gA r 12)), .inr (0, .inl (gA r 13)), .inr (0, .inl (gA r 14)), .inr (0, .inl (gA r 15)), .inr (0, .inl (gA r 16)), .inr (0, .inl (gA r 17)), .inr (0, .inl (gA r 18)), .inr (0, .inl (gA r 19)), .inr (0, .inl (gA r 20)), .inr (0, .inl (gA r 21)), .inr (0, .inl (gA r 22)), .inr (0, .inl (gA r 23)), .inr (0, .inl (gA r 24)), .inr (0, .inl (gA r 25)), .inr (0, .inl (gA r 26)), .inr (0, .inl (gA r 27)), .inr (0, .inl (gA r 28)), .inr (0, .inl (gA r 29)), .inr (0, .inl (gA r 30)), .inr (0, .inl (gA r 31)), .inr (3, .inr (.inl (gB r 0))), .inr (3, .inr (.inl (gB r 1))), .inr (0, .inl (gA r 32)), .inr (0, .inl (gA r 33)), .inr (0, .inl (gA r 34)), .inr (0, .inl (gA r 35)), .inr (0, .inl (gA r 36)), .inr (0, .inl (gA r 37)), .inr (0, .inl (gA r 38)), .inr (0, .inl (gA r 39))]
def HP (c r : St) : mH := HC c ++ HR r
/-- an int row of the component, by its cell and its register -/
def AR (k j : Nat) : Prop := k < mBase ∧ ∀ c r : St, (HP c r)[k]? = some (.inr (0, .inl (gA c j))) ∧ ∀ l : List Int32, (HP c r).set k (.inr (0, .inl l)) = HP (sA c j l) r
theorem AR.row {k j : Nat} (h : AR k j) (ro : List (List Int32)) (c r : St) : mRow ro (HP c r) k = some (gA c j) := by
  unfold mRow
  rw [Nat.blt_eq.mpr h.1]
  simp only [cond_true, (h.2 c r).1]
set_option maxHeartbeats 4000000 in
set_option maxRecDepth 100000 in
theorem st_1_3 (c r : St) (x : Int32) : (HP c r).set 1 (.inl (4, [.ref 2, .ref 3, .ref 4, .int x, .int (gI c 1), .int (gI c 2), .ref 5, .ref 6])) = HP (sI c 0 x) r := rfl
set_option maxHeartbeats 4000000 in
set_option maxRecDepth 100000 in
theorem st_1_4 (c r : St) (x : Int32) : (HP c r).set 1 (.inl (4, [.ref 2, .ref 3, .ref 4, .int (gI c 0), .int x, .int (gI c 2), .ref 5, .ref 6])) = HP (sI c 1 x) r := rfl
set_option maxHeartbeats 4000000 in
set_option maxRecDepth 100000 in
theorem st_1_5 (c r : St) (x : Int32) : (HP c r).set 1 (.inl (4, [.ref 2, .ref 3, .ref 4, .int (gI c 0), .int (gI c 1), .int x, .ref 5, .ref 6])) = HP (sI c 2 x) r := rfl
set_option maxHeartbeats 4000000 in
set_option maxRecDepth 100000 in
theorem sa_2 (c r : St) (l : List Int32) : (HP c r).set 2 (.inr (0, .inl l)) = HP (sA c 0 l) r := rfl
theorem ar_2 : AR 2 0 := ⟨by decide, fun c r => ⟨rfl, fun l => sa_2 c r l⟩⟩
set_option maxHeartbeats 4000000 in
set_option maxRecDepth 100000 in
theorem sa_3 (c r : St) (l : List Int32) : (HP c r).set 3 (.inr (0, .inl l)) = HP (sA c 1 l) r := rfl
theorem ar_3 : AR 3 1 := ⟨by decide, fun c r => ⟨rfl, fun l => sa_3 c r l⟩⟩
set_option maxHeartbeats 4000000 in
set_option maxRecDepth 100000 in
theorem sa_4 (c r : St) (l : List Int32) : (HP c r).set 4 (.inr (0, .inl l)) = HP (sA c 2 l) r := rfl
theorem ar_4 : AR 4 2 := ⟨by decide, fun c r => ⟨rfl, fun l => sa_4 c r l⟩⟩
set_option maxHeartbeats 4000000 in
set_option maxRecDepth 100000 in
theorem sa_5 (c r : St) (l : List Int32) : (HP c r).set 5 (.inr (0, .inl l)) = HP (sA c 3 l) r := rfl
theorem ar_5 : AR 5 3 := ⟨by decide, fun c r => ⟨rfl, fun l => sa_5 c r l⟩⟩
set_option maxHeartbeats 4000000 in
set_option maxRecDepth 100000 in
theorem sa_6 (c r : St) (l : List Int32) : (HP c r).set 6 (.inr (0, .inl l)) = HP (sA c 4 l) r := rfl
theorem ar_6 : AR 6 4 := ⟨by decide, fun c r => ⟨rfl, fun l => sa_6 c r l⟩⟩
set_option maxHeartbeats 4000000 in
set_option maxRecDepth 100000 in
theorem st_7_2 (c r : St) (x : Int32) : (HP c r).set 7 (.inl (0, [.ref 8, .ref 9, .int x, .ref 10])) = HP (sI c 3 x) r := rfl
set_option maxHeartbeats 4000000 in
set_option maxRecDepth 100000 in
theorem sa_8 (c r : St) (l : List Int32) : (HP c r).set 8 (.inr (0, .inl l)) = HP (sA c 5 l) r := rfl
theorem ar_8 : AR 8 5 := ⟨by decide, fun c r => ⟨rfl, fun l => sa_8 c r l⟩⟩
set_option maxHeartbeats 4000000 in
set_option maxRecDepth 100000 in
theorem sa_9 (c r : St) (l : List Int32) : (HP c r).set 9 (.inr (0, .inl l)) = HP (sA c 6 l) r := rfl
theorem ar_9 : AR 9 6 := ⟨by decide, fun c r => ⟨rfl, fun l => sa_9 c r l⟩⟩
set_option maxHeartbeats 4000000 in
set_option maxRecDepth 100000 in
theorem sa_10 (c r : St) (l : List Int32) : (HP c r).set 10 (.inr (0, .inl l)) = HP (sA c 7 l) r := rfl
theorem ar_10 : AR 10 7 := ⟨by decide, fun c r => ⟨rfl, fun l => sa_10 c r l⟩⟩
set_option maxHeartbeats 4000000 in
set_option maxRecDepth 100000 in
theorem st_11_2 (c r : St) (x : Int32) : (HP c r).set 11 (.inl (0, [.ref 12, .ref 13, .int x, .ref 14])) = HP (sI c 4 x) r := rfl
set_option maxHeartbeats 4000000 in
set_option maxRecDepth 100000 in
theorem sa_12 (c r : St) (l : List Int32) : (HP c r).set 12 (.inr (0, .inl l)) = HP (sA c 8 l) r := rfl
theorem ar_12 : AR 12 8 := ⟨by decide, fun c r => ⟨rfl, fun l => sa_12 c r l⟩⟩
set_option maxHeartbeats 4000000 in
set_option maxRecDepth 100000 in
theorem sa_13 (c r : St) (l : List Int32) : (HP c r).set 13 (.inr (0, .inl l)) = HP (sA c 9 l) r := rfl
theorem ar_13 : AR 13 9 := ⟨by decide, fun c r => ⟨rfl, fun l => sa_13 c r l⟩⟩
set_option maxHeartbeats 4000000 in
set_option maxRecDepth 100000 in
theorem sa_14 (c r : St) (l : List Int32) : (HP c r).set 14 (.inr (0, .inl l)) = HP (sA c 10 l) r := rfl
theorem ar_14 : AR 14 10 := ⟨by decide, fun c r => ⟨rfl, fun l => sa_14 c r l⟩⟩
set_option maxHeartbeats 4000000 in
set_option maxRecDepth 100000 in
theorem st_15_3 (c r : St) (x : Int32) : (HP c r).set 15 (.inl (5, [.ref 16, .ref 17, .ref 18, .int x, .ref 19])) = HP (sI c 5 x) r := rfl
set_option maxHeartbeats 4000000 in
set_option maxRecDepth 100000 in
theorem sa_16 (c r : St) (l : List Int32) : (HP c r).set 16 (.inr (0, .inl l)) = HP (sA c 11 l) r := rfl
theorem ar_16 : AR 16 11 := ⟨by decide, fun c r => ⟨rfl, fun l => sa_16 c r l⟩⟩
set_option maxHeartbeats 4000000 in
set_option maxRecDepth 100000 in
theorem sa_17 (c r : St) (l : List Int32) : (HP c r).set 17 (.inr (0, .inl l)) = HP (sA c 12 l) r := rfl
theorem ar_17 : AR 17 12 := ⟨by decide, fun c r => ⟨rfl, fun l => sa_17 c r l⟩⟩
set_option maxHeartbeats 4000000 in
set_option maxRecDepth 100000 in
theorem sa_18 (c r : St) (l : List Int32) : (HP c r).set 18 (.inr (0, .inl l)) = HP (sA c 13 l) r := rfl
theorem ar_18 : AR 18 13 := ⟨by decide, fun c r => ⟨rfl, fun l => sa_18 c r l⟩⟩
set_option maxHeartbeats 4000000 in
set_option maxRecDepth 100000 in
theorem sa_20 (c r : St) (l : List Int32) : (HP c r).set 20 (.inr (0, .inl l)) = HP (sA c 14 l) r := rfl
theorem ar_20 : AR 20 14 := ⟨by decide, fun c r => ⟨rfl, fun l => sa_20 c r l⟩⟩
set_option maxHeartbeats 4000000 in
set_option maxRecDepth 100000 in
theorem sa_21 (c r : St) (l : List Int32) : (HP c r).set 21 (.inr (0, .inl l)) = HP (sA c 15 l) r := rfl
theorem ar_21 : AR 21 15 := ⟨by decide, fun c r => ⟨rfl, fun l => sa_21 c r l⟩⟩
set_option maxHeartbeats 4000000 in
set_option maxRecDepth 100000 in
theorem sa_22 (c r : St) (l : List Int32) : (HP c r).set 22 (.inr (0, .inl l)) = HP (sA c 16 l) r := rfl
theorem ar_22 : AR 22 16 := ⟨by decide, fun c r => ⟨rfl, fun l => sa_22 c r l⟩⟩
set_option maxHeartbeats 4000000 in
set_option maxRecDepth 100000 in
theorem sa_23 (c r : St) (l : List Int32) : (HP c r).set 23 (.inr (0, .inl l)) = HP (sA c 17 l) r := rfl
theorem ar_23 : AR 23 17 := ⟨by decide, fun c r => ⟨rfl, fun l => sa_23 c r l⟩⟩
set_option maxHeartbeats 4000000 in
set_option maxRecDepth 100000 in
theorem sa_24 (c r : St) (l : List Int32) : (HP c r).set 24 (.inr (0, .inl l)) = HP (sA c 18 l) r := rfl
theorem ar_24 : AR 24 18 := ⟨by decide, fun c r => ⟨rfl, fun l => sa_24 c r l⟩⟩
set_option maxHeartbeats 4000000 in
set_option maxRecDepth 100000 in
theorem sa_25 (c r : St) (l : List Int32) : (HP c r).set 25 (.inr (0, .inl l)) = HP (sA c 19 l) r := rfl
theorem ar_25 : AR 25 19 := ⟨by decide, fun c r => ⟨rfl, fun l => sa_25 c r l⟩⟩
set_option maxHeartbeats 4000000 in
set_option maxRecDepth 100000 in
theorem sa_26 (c r : St) (l : List Int32) : (HP c r).set 26 (.inr (0, .inl l)) = HP (sA c 20 l) r := rfl
theorem ar_26 : AR 26 20 := ⟨by decide, fun c r => ⟨rfl, fun l => sa_26 c r l⟩⟩
set_option maxHeartbeats 4000000 in
set_option maxRecDepth 100000 in
theorem sa_27 (c r : St) (l : List Int32) : (HP c r).set 27 (.inr (0, .inl l)) = HP (sA c 21 l) r := rfl
theorem ar_27 : AR 27 21 := ⟨by decide, fun c r => ⟨rfl, fun l => sa_27 c r l⟩⟩
set_option maxHeartbeats 4000000 in
set_option maxRecDepth 100000 in
theorem sa_28 (c r : St) (l : List Int32) : (HP c r).set 28 (.inr (0, .inl l)) = HP (sA c 22 l) r := rfl
theorem ar_28 : AR 28 22 := ⟨by decide, fun c r => ⟨rfl, fun l => sa_28 c r l⟩⟩
set_option maxHeartbeats 4000000 in
set_option maxRecDepth 100000 in
theorem sa_29 (c r : St) (l : List Int32) : (HP c r).set 29 (.inr (0, .inl l)) = HP (sA c 23 l) r := rfl
theorem ar_29 : AR 29 23 := ⟨by decide, fun c r => ⟨rfl, fun l => sa_29 c r l⟩⟩
set_option maxHeartbeats 4000000 in
set_option maxRecDepth 100000 in
theorem sa_30 (c r : St) (l : List Int32) : (HP c r).set 30 (.inr (0, .inl l)) = HP (sA c 24 l) r := rfl
theorem ar_30 : AR 30 24 := ⟨by decide, fun c r => ⟨rfl, fun l => sa_30 c r l⟩⟩
set_option maxHeartbeats 4000000 in
set_option maxRecDepth 100000 in
theorem sa_31 (c r : St) (l : List Int32) : (HP c r).set 31 (.inr (0, .inl l)) = HP (sA c 25 l) r := rfl
theorem ar_31 : AR 31 25 := ⟨by decide, fun c r => ⟨rfl, fun l => sa_31 c r l⟩⟩
set_option maxHeartbeats 4000000 in
set_option maxRecDepth 100000 in
theorem sa_32 (c r : St) (l : List Int32) : (HP c r).set 32 (.inr (0, .inl l)) = HP (sA c 26 l) r := rfl
theorem ar_32 : AR 32 26 := ⟨by decide, fun c r => ⟨rfl, fun l => sa_32 c r l⟩⟩
set_option maxHeartbeats 4000000 in
set_option maxRecDepth 100000 in
theorem sa_33 (c r : St) (l : List Int32) : (HP c r).set 33 (.inr (0, .inl l)) = HP (sA c 27 l) r := rfl
theorem ar_33 : AR 33 27 := ⟨by decide, fun c r => ⟨rfl, fun l => sa_33 c r l⟩⟩
set_option maxHeartbeats 4000000 in
set_option maxRecDepth 100000 in
theorem sa_34 (c r : St) (l : List Int32) : (HP c r).set 34 (.inr (0, .inl l)) = HP (sA c 28 l) r := rfl
theorem ar_34 : AR 34 28 := ⟨by decide, fun c r => ⟨rfl, fun l => sa_34 c r l⟩⟩
set_option maxHeartbeats 4000000 in
set_option maxRecDepth 100000 in
theorem sa_35 (c r : St) (l : List Int32) : (HP c r).set 35 (.inr (0, .inl l)) = HP (sA c 29 l) r := rfl
theorem ar_35 : AR 35 29 := ⟨by decide, fun c r => ⟨rfl, fun l => sa_35 c r l⟩⟩
set_option maxHeartbeats 4000000 in
set_option maxRecDepth 100000 in
theorem sa_36 (c r : St) (l : List Int32) : (HP c r).set 36 (.inr (0, .inl l)) = HP (sA c 30 l) r := rfl
theorem ar_36 : AR 36 30 := ⟨by decide, fun c r => ⟨rfl, fun l => sa_36 c r l⟩⟩
set_option maxHeartbeats 4000000 in
set_option maxRecDepth 100000 in
theorem sa_37 (c r : St) (l : List Int32) : (HP c r).set 37 (.inr (0, .inl l)) = HP (sA c 31 l) r := rfl
theorem ar_37 : AR 37 31 := ⟨by decide, fun c r => ⟨rfl, fun l => sa_37 c r l⟩⟩
set_option maxHeartbeats 4000000 in
set_option maxRecDepth 100000 in
theorem sa_38 (c r : St) (l : List Int32) : (HP c r).set 38 (.inr (0, .inl l)) = HP (sA c 32 l) r := rfl
theorem ar_38 : AR 38 32 := ⟨by decide, fun c r => ⟨rfl, fun l => sa_38 c r l⟩⟩
set_option maxHeartbeats 4000000 in
set_option maxRecDepth 100000 in
theorem sa_39 (c r : St) (l : List Int32) : (HP c r).set 39 (.inr (0, .inl l)) = HP (sA c 33 l) r := rfl
theorem ar_39 : AR 39 33 := ⟨by decide, fun c r => ⟨rfl, fun l => sa_39 c r l⟩⟩
set_option maxHeartbeats 4000000 in
set_option maxRecDepth 100000 in
theorem st_40_1 (c r : St) (x : Int32) : (HP c r).set 40 (.inl (10, [.ref 41, .int x, .int (gI c 7), .int (gI c 8), .int (gI c 9), .int (gI c 10), .int (gI c 11), .ref 42, .ref 55, .ref 56, .ref 57, .ref 58, .int (gI c 12), .int (gI c 13), .int (gI c 14)])) = HP (sI c 6 x) r := rfl
set_option maxHeartbeats 4000000 in
set_option maxRecDepth 100000 in
theorem st_40_2 (c r : St) (x : Int32) : (HP c r).set 40 (.inl (10, [.ref 41, .int (gI c 6), .int x, .int (gI c 8), .int (gI c 9), .int (gI c 10), .int (gI c 11), .ref 42, .ref 55, .ref 56, .ref 57, .ref 58, .int (gI c 12), .int (gI c 13), .int (gI c 14)])) = HP (sI c 7 x) r := rfl
set_option maxHeartbeats 4000000 in
set_option maxRecDepth 100000 in
theorem st_40_3 (c r : St) (x : Int32) : (HP c r).set 40 (.inl (10, [.ref 41, .int (gI c 6), .int (gI c 7), .int x, .int (gI c 9), .int (gI c 10), .int (gI c 11), .ref 42, .ref 55, .ref 56, .ref 57, .ref 58, .int (gI c 12), .int (gI c 13), .int (gI c 14)])) = HP (sI c 8 x) r := rfl
set_option maxHeartbeats 4000000 in
set_option maxRecDepth 100000 in
theorem st_40_4 (c r : St) (x : Int32) : (HP c r).set 40 (.inl (10, [.ref 41, .int (gI c 6), .int (gI c 7), .int (gI c 8), .int x, .int (gI c 10), .int (gI c 11), .ref 42, .ref 55, .ref 56, .ref 57, .ref 58, .int (gI c 12), .int (gI c 13), .int (gI c 14)])) = HP (sI c 9 x) r := rfl
set_option maxHeartbeats 4000000 in
set_option maxRecDepth 100000 in
theorem st_40_5 (c r : St) (x : Int32) : (HP c r).set 40 (.inl (10, [.ref 41, .int (gI c 6), .int (gI c 7), .int (gI c 8), .int (gI c 9), .int x, .int (gI c 11), .ref 42, .ref 55, .ref 56, .ref 57, .ref 58, .int (gI c 12), .int (gI c 13), .int (gI c 14)])) = HP (sI c 10 x) r := rfl
set_option maxHeartbeats 4000000 in
set_option maxRecDepth 100000 in
theorem st_40_6 (c r : St) (x : Int32) : (HP c r).set 40 (.inl (10, [.ref 41, .int (gI c 6), .int (gI c 7), .int (gI c 8), .int (gI c 9), .int (gI c 10), .int x, .ref 42, .ref 55, .ref 56, .ref 57, .ref 58, .int (gI c 12), .int (gI c 13), .int (gI c 14)])) = HP (sI c 11 x) r := rfl
set_option maxHeartbeats 4000000 in
set_option maxRecDepth 100000 in
theorem st_40_12 (c r : St) (x : Int32) : (HP c r).set 40 (.inl (10, [.ref 41, .int (gI c 6), .int (gI c 7), .int (gI c 8), .int (gI c 9), .int (gI c 10), .int (gI c 11), .ref 42, .ref 55, .ref 56, .ref 57, .ref 58, .int x, .int (gI c 13), .int (gI c 14)])) = HP (sI c 12 x) r := rfl
set_option maxHeartbeats 4000000 in
set_option maxRecDepth 100000 in
theorem st_40_13 (c r : St) (x : Int32) : (HP c r).set 40 (.inl (10, [.ref 41, .int (gI c 6), .int (gI c 7), .int (gI c 8), .int (gI c 9), .int (gI c 10), .int (gI c 11), .ref 42, .ref 55, .ref 56, .ref 57, .ref 58, .int (gI c 12), .int x, .int (gI c 14)])) = HP (sI c 13 x) r := rfl
set_option maxHeartbeats 4000000 in
set_option maxRecDepth 100000 in
theorem st_40_14 (c r : St) (x : Int32) : (HP c r).set 40 (.inl (10, [.ref 41, .int (gI c 6), .int (gI c 7), .int (gI c 8), .int (gI c 9), .int (gI c 10), .int (gI c 11), .ref 42, .ref 55, .ref 56, .ref 57, .ref 58, .int (gI c 12), .int (gI c 13), .int x])) = HP (sI c 14 x) r := rfl
set_option maxHeartbeats 4000000 in
set_option maxRecDepth 100000 in
theorem sa_41 (c r : St) (l : List Int32) : (HP c r).set 41 (.inr (0, .inl l)) = HP (sA c 34 l) r := rfl
theorem ar_41 : AR 41 34 := ⟨by decide, fun c r => ⟨rfl, fun l => sa_41 c r l⟩⟩
set_option maxHeartbeats 4000000 in
set_option maxRecDepth 100000 in
theorem sa_43 (c r : St) (l : List Int32) : (HP c r).set 43 (.inr (0, .inl l)) = HP (sA c 35 l) r := rfl
theorem ar_43 : AR 43 35 := ⟨by decide, fun c r => ⟨rfl, fun l => sa_43 c r l⟩⟩
set_option maxHeartbeats 4000000 in
set_option maxRecDepth 100000 in
theorem sa_44 (c r : St) (l : List Int32) : (HP c r).set 44 (.inr (0, .inl l)) = HP (sA c 36 l) r := rfl
theorem ar_44 : AR 44 36 := ⟨by decide, fun c r => ⟨rfl, fun l => sa_44 c r l⟩⟩
set_option maxHeartbeats 4000000 in
set_option maxRecDepth 100000 in
theorem sa_45 (c r : St) (l : List Int32) : (HP c r).set 45 (.inr (0, .inl l)) = HP (sA c 37 l) r := rfl
theorem ar_45 : AR 45 37 := ⟨by decide, fun c r => ⟨rfl, fun l => sa_45 c r l⟩⟩
set_option maxHeartbeats 4000000 in
set_option maxRecDepth 100000 in
theorem sa_46 (c r : St) (l : List Int32) : (HP c r).set 46 (.inr (0, .inl l)) = HP (sA c 38 l) r := rfl
theorem ar_46 : AR 46 38 := ⟨by decide, fun c r => ⟨rfl, fun l => sa_46 c r l⟩⟩
set_option maxHeartbeats 4000000 in
set_option maxRecDepth 100000 in
theorem sa_47 (c r : St) (l : List Int32) : (HP c r).set 47 (.inr (0, .inl l)) = HP (sA c 39 l) r := rfl
theorem ar_47 : AR 47 39 := ⟨by decide, fun c r => ⟨rfl, fun l => sa_47 c r l⟩⟩
set_option maxHeartbeats 4000000 in
set_option maxRecDepth 100000 in
theorem sa_48 (c r : St) (l : List Int32) : (HP c r).set 48 (.inr (0, .inl l)) = HP (sA c 40 l) r := rfl
theorem ar_48 : AR 48 40 := ⟨by decide, fun c r => ⟨rfl, fun l => sa_48 c r l⟩⟩
set_option maxHeartbeats 4000000 in
set_option maxRecDepth 100000 in
theorem sa_49 (c r : St) (l : List Int32) : (HP c r).set 49 (.inr (0, .inl l)) = HP (sA c 41 l) r := rfl
theorem ar_49 : AR 49 41 := ⟨by decide, fun c r => ⟨rfl, fun l => sa_49 c r l⟩⟩
set_option maxHeartbeats 4000000 in
set_option maxRecDepth 100000 in
theorem sa_50 (c r : St) (l : List Int32) : (HP c r).set 50 (.inr (0, .inl l)) = HP (sA c 42 l) r := rfl
theorem ar_50 : AR 50 42 := ⟨by decide, fun c r => ⟨rfl, fun l => sa_50 c r l⟩⟩
set_option maxHeartbeats 4000000 in
set_option maxRecDepth 100000 in
theorem sa_51 (c r : St) (l : List Int32) : (HP c r).set 51 (.inr (0, .inl l)) = HP (sA c 43 l) r := rfl
theorem ar_51 : AR 51 43 := ⟨by decide, fun c r => ⟨rfl, fun l => sa_51 c r l⟩⟩
set_option maxHeartbeats 4000000 in
set_option maxRecDepth 100000 in
theorem sa_52 (c r : St) (l : List Int32) : (HP c r).set 52 (.inr (0, .inl l)) = HP (sA c 44 l) r := rfl
theorem ar_52 : AR 52 44 := ⟨by decide, fun c r => ⟨rfl, fun l => sa_52 c r l⟩⟩
set_option maxHeartbeats 4000000 in
set_option maxRecDepth 100000 in
theorem sa_53 (c r : St) (l : List Int32) : (HP c r).set 53 (.inr (0, .inl l)) = HP (sA c 45 l) r := rfl
theorem ar_53 : AR 53 45 := ⟨by decide, fun c r => ⟨rfl, fun l => sa_53 c r l⟩⟩
set_option maxHeartbeats 4000000 in
set_option maxRecDepth 100000 in
theorem sa_54 (c r : St) (l : List Int32) : (HP c r).set 54 (.inr (0, .inl l)) = HP (sA c 46 l) r := rfl
theorem ar_54 : AR 54 46 := ⟨by decide, fun c r => ⟨rfl, fun l => sa_54 c r l⟩⟩
set_option maxHeartbeats 4000000 in
set_option maxRecDepth 100000 in
theorem sa_55 (c r : St) (l : List Int32) : (HP c r).set 55 (.inr (0, .inl l)) = HP (sA c 47 l) r := rfl
theorem ar_55 : AR 55 47 := ⟨by decide, fun c r => ⟨rfl, fun l => sa_55 c r l⟩⟩
set_option maxHeartbeats 4000000 in
set_option maxRecDepth 100000 in
theorem sa_56 (c r : St) (l : List Int32) : (HP c r).set 56 (.inr (0, .inl l)) = HP (sA c 48 l) r := rfl
theorem ar_56 : AR 56 48 := ⟨by decide, fun c r => ⟨rfl, fun l => sa_56 c r l⟩⟩
set_option maxHeartbeats 4000000 in
set_option maxRecDepth 100000 in
theorem sa_57 (c r : St) (l : List Int64) : (HP c r).set 57 (.inr (3, .inr (.inl l))) = HP (sB c 0 l) r := rfl
set_option maxHeartbeats 4000000 in
set_option maxRecDepth 100000 in
theorem sa_58 (c r : St) (l : List Int64) : (HP c r).set 58 (.inr (3, .inr (.inl l))) = HP (sB c 1 l) r := rfl
set_option maxHeartbeats 4000000 in
set_option maxRecDepth 100000 in
theorem st_59_0 (c r : St) (x : Int32) : (HP c r).set 59 (.inl (7, [.int x, .int (gI c 16), .ref 60, .ref 61])) = HP (sI c 15 x) r := rfl
set_option maxHeartbeats 4000000 in
set_option maxRecDepth 100000 in
theorem st_59_1 (c r : St) (x : Int32) : (HP c r).set 59 (.inl (7, [.int (gI c 15), .int x, .ref 60, .ref 61])) = HP (sI c 16 x) r := rfl
set_option maxHeartbeats 4000000 in
set_option maxRecDepth 100000 in
theorem sa_60 (c r : St) (l : List Int32) : (HP c r).set 60 (.inr (0, .inl l)) = HP (sA c 49 l) r := rfl
theorem ar_60 : AR 60 49 := ⟨by decide, fun c r => ⟨rfl, fun l => sa_60 c r l⟩⟩
set_option maxHeartbeats 4000000 in
set_option maxRecDepth 100000 in
theorem sa_61 (c r : St) (l : List Int32) : (HP c r).set 61 (.inr (0, .inl l)) = HP (sA c 50 l) r := rfl
theorem ar_61 : AR 61 50 := ⟨by decide, fun c r => ⟨rfl, fun l => sa_61 c r l⟩⟩
set_option maxHeartbeats 4000000 in
set_option maxRecDepth 100000 in
theorem st_62_1 (c r : St) (x : Int32) : (HP c r).set 62 (.inl (9, [.ref 63, .int x, .int (gI c 18), .int (gI c 19), .int (gI c 20), .ref 64, .ref 65, .ref 66])) = HP (sI c 17 x) r := rfl
set_option maxHeartbeats 4000000 in
set_option maxRecDepth 100000 in
theorem st_62_2 (c r : St) (x : Int32) : (HP c r).set 62 (.inl (9, [.ref 63, .int (gI c 17), .int x, .int (gI c 19), .int (gI c 20), .ref 64, .ref 65, .ref 66])) = HP (sI c 18 x) r := rfl
set_option maxHeartbeats 4000000 in
set_option maxRecDepth 100000 in
theorem st_62_3 (c r : St) (x : Int32) : (HP c r).set 62 (.inl (9, [.ref 63, .int (gI c 17), .int (gI c 18), .int x, .int (gI c 20), .ref 64, .ref 65, .ref 66])) = HP (sI c 19 x) r := rfl
set_option maxHeartbeats 4000000 in
set_option maxRecDepth 100000 in
theorem st_62_4 (c r : St) (x : Int32) : (HP c r).set 62 (.inl (9, [.ref 63, .int (gI c 17), .int (gI c 18), .int (gI c 19), .int x, .ref 64, .ref 65, .ref 66])) = HP (sI c 20 x) r := rfl
set_option maxHeartbeats 4000000 in
set_option maxRecDepth 100000 in
theorem sa_63 (c r : St) (l : List Int32) : (HP c r).set 63 (.inr (0, .inl l)) = HP (sA c 51 l) r := rfl
theorem ar_63 : AR 63 51 := ⟨by decide, fun c r => ⟨rfl, fun l => sa_63 c r l⟩⟩
set_option maxHeartbeats 4000000 in
set_option maxRecDepth 100000 in
theorem sa_64 (c r : St) (l : List Int32) : (HP c r).set 64 (.inr (0, .inl l)) = HP (sA c 52 l) r := rfl
theorem ar_64 : AR 64 52 := ⟨by decide, fun c r => ⟨rfl, fun l => sa_64 c r l⟩⟩
set_option maxHeartbeats 4000000 in
set_option maxRecDepth 100000 in
theorem sa_65 (c r : St) (l : List Int32) : (HP c r).set 65 (.inr (0, .inl l)) = HP (sA c 53 l) r := rfl
theorem ar_65 : AR 65 53 := ⟨by decide, fun c r => ⟨rfl, fun l => sa_65 c r l⟩⟩
set_option maxHeartbeats 4000000 in
set_option maxRecDepth 100000 in
theorem sa_66 (c r : St) (l : List Int32) : (HP c r).set 66 (.inr (0, .inl l)) = HP (sA c 54 l) r := rfl
theorem ar_66 : AR 66 54 := ⟨by decide, fun c r => ⟨rfl, fun l => sa_66 c r l⟩⟩
set_option maxHeartbeats 4000000 in
set_option maxRecDepth 100000 in
theorem st_67_2 (c r : St) (x : Int32) : (HP c r).set 67 (.inl (2, [.ref 68, .ref 69, .int x, .int (gI c 22), .int (gI c 23), .ref 76, .ref 77, .ref 78, .ref 79, .ref 80, .ref 81])) = HP (sI c 21 x) r := rfl
set_option maxHeartbeats 4000000 in
set_option maxRecDepth 100000 in
theorem st_67_3 (c r : St) (x : Int32) : (HP c r).set 67 (.inl (2, [.ref 68, .ref 69, .int (gI c 21), .int x, .int (gI c 23), .ref 76, .ref 77, .ref 78, .ref 79, .ref 80, .ref 81])) = HP (sI c 22 x) r := rfl
set_option maxHeartbeats 4000000 in
set_option maxRecDepth 100000 in
theorem st_67_4 (c r : St) (x : Int32) : (HP c r).set 67 (.inl (2, [.ref 68, .ref 69, .int (gI c 21), .int (gI c 22), .int x, .ref 76, .ref 77, .ref 78, .ref 79, .ref 80, .ref 81])) = HP (sI c 23 x) r := rfl
set_option maxHeartbeats 4000000 in
set_option maxRecDepth 100000 in
theorem sa_68 (c r : St) (l : List Int32) : (HP c r).set 68 (.inr (0, .inl l)) = HP (sA c 55 l) r := rfl
theorem ar_68 : AR 68 55 := ⟨by decide, fun c r => ⟨rfl, fun l => sa_68 c r l⟩⟩
set_option maxHeartbeats 4000000 in
set_option maxRecDepth 100000 in
theorem sa_70 (c r : St) (l : List Int32) : (HP c r).set 70 (.inr (0, .inl l)) = HP (sA c 56 l) r := rfl
theorem ar_70 : AR 70 56 := ⟨by decide, fun c r => ⟨rfl, fun l => sa_70 c r l⟩⟩
set_option maxHeartbeats 4000000 in
set_option maxRecDepth 100000 in
theorem sa_71 (c r : St) (l : List Int32) : (HP c r).set 71 (.inr (0, .inl l)) = HP (sA c 57 l) r := rfl
theorem ar_71 : AR 71 57 := ⟨by decide, fun c r => ⟨rfl, fun l => sa_71 c r l⟩⟩
set_option maxHeartbeats 4000000 in
set_option maxRecDepth 100000 in
theorem sa_72 (c r : St) (l : List Int32) : (HP c r).set 72 (.inr (0, .inl l)) = HP (sA c 58 l) r := rfl
theorem ar_72 : AR 72 58 := ⟨by decide, fun c r => ⟨rfl, fun l => sa_72 c r l⟩⟩
set_option maxHeartbeats 4000000 in
set_option maxRecDepth 100000 in
theorem sa_73 (c r : St) (l : List Int32) : (HP c r).set 73 (.inr (0, .inl l)) = HP (sA c 59 l) r := rfl
theorem ar_73 : AR 73 59 := ⟨by decide, fun c r => ⟨rfl, fun l => sa_73 c r l⟩⟩
set_option maxHeartbeats 4000000 in
set_option maxRecDepth 100000 in
theorem sa_74 (c r : St) (l : List Int32) : (HP c r).set 74 (.inr (0, .inl l)) = HP (sA c 60 l) r := rfl
theorem ar_74 : AR 74 60 := ⟨by decide, fun c r => ⟨rfl, fun l => sa_74 c r l⟩⟩
set_option maxHeartbeats 4000000 in
set_option maxRecDepth 100000 in
theorem sa_75 (c r : St) (l : List Int32) : (HP c r).set 75 (.inr (0, .inl l)) = HP (sA c 61 l) r := rfl
theorem ar_75 : AR 75 61 := ⟨by decide, fun c r => ⟨rfl, fun l => sa_75 c r l⟩⟩
set_option maxHeartbeats 4000000 in
set_option maxRecDepth 100000 in
theorem sa_76 (c r : St) (l : List Int32) : (HP c r).set 76 (.inr (0, .inl l)) = HP (sA c 62 l) r := rfl
theorem ar_76 : AR 76 62 := ⟨by decide, fun c r => ⟨rfl, fun l => sa_76 c r l⟩⟩
set_option maxHeartbeats 4000000 in
set_option maxRecDepth 100000 in
theorem sa_77 (c r : St) (l : List Int32) : (HP c r).set 77 (.inr (0, .inl l)) = HP (sA c 63 l) r := rfl
theorem ar_77 : AR 77 63 := ⟨by decide, fun c r => ⟨rfl, fun l => sa_77 c r l⟩⟩
set_option maxHeartbeats 4000000 in
set_option maxRecDepth 100000 in
theorem sa_78 (c r : St) (l : List Int32) : (HP c r).set 78 (.inr (0, .inl l)) = HP (sA c 64 l) r := rfl
theorem ar_78 : AR 78 64 := ⟨by decide, fun c r => ⟨rfl, fun l => sa_78 c r l⟩⟩
set_option maxHeartbeats 4000000 in
set_option maxRecDepth 100000 in
theorem sa_79 (c r : St) (l : List Int32) : (HP c r).set 79 (.inr (0, .inl l)) = HP (sA c 65 l) r := rfl
theorem ar_79 : AR 79 65 := ⟨by decide, fun c r => ⟨rfl, fun l => sa_79 c r l⟩⟩
set_option maxHeartbeats 4000000 in
set_option maxRecDepth 100000 in
theorem sa_80 (c r : St) (l : List Int32) : (HP c r).set 80 (.inr (0, .inl l)) = HP (sA c 66 l) r := rfl
theorem ar_80 : AR 80 66 := ⟨by decide, fun c r => ⟨rfl, fun l => sa_80 c r l⟩⟩
set_option maxHeartbeats 4000000 in
set_option maxRecDepth 100000 in
theorem sa_81 (c r : St) (l : List Int32) : (HP c r).set 81 (.inr (0, .inl l)) = HP (sA c 67 l) r := rfl
theorem ar_81 : AR 81 67 := ⟨by decide, fun c r => ⟨rfl, fun l => sa_81 c r l⟩⟩
set_option maxHeartbeats 4000000 in
set_option maxRecDepth 100000 in
theorem st_82_1 (c r : St) (x : Int32) : (HP c r).set 82 (.inl (6, [.ref 83, .int x, .ref 84, .ref 85, .ref 86, .ref 87])) = HP (sI c 24 x) r := rfl
set_option maxHeartbeats 4000000 in
set_option maxRecDepth 100000 in
theorem sa_83 (c r : St) (l : List Int32) : (HP c r).set 83 (.inr (0, .inl l)) = HP (sA c 68 l) r := rfl
theorem ar_83 : AR 83 68 := ⟨by decide, fun c r => ⟨rfl, fun l => sa_83 c r l⟩⟩
set_option maxHeartbeats 4000000 in
set_option maxRecDepth 100000 in
theorem sa_84 (c r : St) (l : List Int32) : (HP c r).set 84 (.inr (0, .inl l)) = HP (sA c 69 l) r := rfl
theorem ar_84 : AR 84 69 := ⟨by decide, fun c r => ⟨rfl, fun l => sa_84 c r l⟩⟩
set_option maxHeartbeats 4000000 in
set_option maxRecDepth 100000 in
theorem sa_85 (c r : St) (l : List Int32) : (HP c r).set 85 (.inr (0, .inl l)) = HP (sA c 70 l) r := rfl
theorem ar_85 : AR 85 70 := ⟨by decide, fun c r => ⟨rfl, fun l => sa_85 c r l⟩⟩
set_option maxHeartbeats 4000000 in
set_option maxRecDepth 100000 in
theorem sa_86 (c r : St) (l : List Int32) : (HP c r).set 86 (.inr (0, .inl l)) = HP (sA c 71 l) r := rfl
theorem ar_86 : AR 86 71 := ⟨by decide, fun c r => ⟨rfl, fun l => sa_86 c r l⟩⟩
set_option maxHeartbeats 4000000 in
set_option maxRecDepth 100000 in
theorem sa_87 (c r : St) (l : List Int32) : (HP c r).set 87 (.inr (0, .inl l)) = HP (sA c 72 l) r := rfl
theorem ar_87 : AR 87 72 := ⟨by decide, fun c r => ⟨rfl, fun l => sa_87 c r l⟩⟩
set_option maxHeartbeats 4000000 in
set_option maxRecDepth 100000 in
theorem st_88_1 (c r : St) (x : Int32) : (HP c r).set 88 (.inl (3, [.ref 89, .int x, .int (gI c 26), .ref 98, .ref 99])) = HP (sI c 25 x) r := rfl
set_option maxHeartbeats 4000000 in
set_option maxRecDepth 100000 in
theorem st_88_2 (c r : St) (x : Int32) : (HP c r).set 88 (.inl (3, [.ref 89, .int (gI c 25), .int x, .ref 98, .ref 99])) = HP (sI c 26 x) r := rfl
set_option maxHeartbeats 4000000 in
set_option maxRecDepth 100000 in
theorem sa_90 (c r : St) (l : List Int32) : (HP c r).set 90 (.inr (0, .inl l)) = HP (sA c 73 l) r := rfl
theorem ar_90 : AR 90 73 := ⟨by decide, fun c r => ⟨rfl, fun l => sa_90 c r l⟩⟩
set_option maxHeartbeats 4000000 in
set_option maxRecDepth 100000 in
theorem sa_91 (c r : St) (l : List Int32) : (HP c r).set 91 (.inr (0, .inl l)) = HP (sA c 74 l) r := rfl
theorem ar_91 : AR 91 74 := ⟨by decide, fun c r => ⟨rfl, fun l => sa_91 c r l⟩⟩
set_option maxHeartbeats 4000000 in
set_option maxRecDepth 100000 in
theorem sa_92 (c r : St) (l : List Int32) : (HP c r).set 92 (.inr (0, .inl l)) = HP (sA c 75 l) r := rfl
theorem ar_92 : AR 92 75 := ⟨by decide, fun c r => ⟨rfl, fun l => sa_92 c r l⟩⟩
set_option maxHeartbeats 4000000 in
set_option maxRecDepth 100000 in
theorem sa_93 (c r : St) (l : List Int32) : (HP c r).set 93 (.inr (0, .inl l)) = HP (sA c 76 l) r := rfl
theorem ar_93 : AR 93 76 := ⟨by decide, fun c r => ⟨rfl, fun l => sa_93 c r l⟩⟩
set_option maxHeartbeats 4000000 in
set_option maxRecDepth 100000 in
theorem sa_94 (c r : St) (l : List Int32) : (HP c r).set 94 (.inr (0, .inl l)) = HP (sA c 77 l) r := rfl
theorem ar_94 : AR 94 77 := ⟨by decide, fun c r => ⟨rfl, fun l => sa_94 c r l⟩⟩
set_option maxHeartbeats 4000000 in
set_option maxRecDepth 100000 in
theorem sa_95 (c r : St) (l : List Int32) : (HP c r).set 95 (.inr (0, .inl l)) = HP (sA c 78 l) r := rfl
theorem ar_95 : AR 95 78 := ⟨by decide, fun c r => ⟨rfl, fun l => sa_95 c r l⟩⟩
set_option maxHeartbeats 4000000 in
set_option maxRecDepth 100000 in
theorem sa_96 (c r : St) (l : List Int32) : (HP c r).set 96 (.inr (0, .inl l)) = HP (sA c 79 l) r := rfl
theorem ar_96 : AR 96 79 := ⟨by decide, fun c r => ⟨rfl, fun l => sa_96 c r l⟩⟩
set_option maxHeartbeats 4000000 in
set_option maxRecDepth 100000 in
theorem sa_97 (c r : St) (l : List Int32) : (HP c r).set 97 (.inr (0, .inl l)) = HP (sA c 80 l) r := rfl
theorem ar_97 : AR 97 80 := ⟨by decide, fun c r => ⟨rfl, fun l => sa_97 c r l⟩⟩
set_option maxHeartbeats 4000000 in
set_option maxRecDepth 100000 in
theorem sa_98 (c r : St) (l : List Int32) : (HP c r).set 98 (.inr (0, .inl l)) = HP (sA c 81 l) r := rfl
theorem ar_98 : AR 98 81 := ⟨by decide, fun c r => ⟨rfl, fun l => sa_98 c r l⟩⟩
set_option maxHeartbeats 4000000 in
set_option maxRecDepth 100000 in
theorem sa_99 (c r : St) (l : List Int32) : (HP c r).set 99 (.inr (0, .inl l)) = HP (sA c 82 l) r := rfl
theorem ar_99 : AR 99 82 := ⟨by decide, fun c r => ⟨rfl, fun l => sa_99 c r l⟩⟩
set_option maxHeartbeats 4000000 in
set_option maxRecDepth 100000 in
theorem st_100_1 (c r : St) (x : Int32) : (HP c r).set 100 (.inl (8, [.ref 101, .int x, .ref 102, .ref 103])) = HP (sI c 27 x) r := rfl
set_option maxHeartbeats 4000000 in
set_option maxRecDepth 100000 in
theorem sa_101 (c r : St) (l : List Int32) : (HP c r).set 101 (.inr (0, .inl l)) = HP (sA c 83 l) r := rfl
theorem ar_101 : AR 101 83 := ⟨by decide, fun c r => ⟨rfl, fun l => sa_101 c r l⟩⟩
set_option maxHeartbeats 4000000 in
set_option maxRecDepth 100000 in
theorem sa_102 (c r : St) (l : List Int32) : (HP c r).set 102 (.inr (0, .inl l)) = HP (sA c 84 l) r := rfl
theorem ar_102 : AR 102 84 := ⟨by decide, fun c r => ⟨rfl, fun l => sa_102 c r l⟩⟩
set_option maxHeartbeats 4000000 in
set_option maxRecDepth 100000 in
theorem sa_103 (c r : St) (l : List Int32) : (HP c r).set 103 (.inr (0, .inl l)) = HP (sA c 85 l) r := rfl
theorem ar_103 : AR 103 85 := ⟨by decide, fun c r => ⟨rfl, fun l => sa_103 c r l⟩⟩
set_option maxHeartbeats 4000000 in
set_option maxRecDepth 100000 in
theorem st_104_1 (c r : St) (x : Int32) : (HP c r).set 104 (.inl (1, [.ref 105, .int x, .ref 114])) = HP (sI c 28 x) r := rfl
set_option maxHeartbeats 4000000 in
set_option maxRecDepth 100000 in
theorem sa_106 (c r : St) (l : List Int32) : (HP c r).set 106 (.inr (0, .inl l)) = HP (sA c 86 l) r := rfl
theorem ar_106 : AR 106 86 := ⟨by decide, fun c r => ⟨rfl, fun l => sa_106 c r l⟩⟩
set_option maxHeartbeats 4000000 in
set_option maxRecDepth 100000 in
theorem sa_107 (c r : St) (l : List Int32) : (HP c r).set 107 (.inr (0, .inl l)) = HP (sA c 87 l) r := rfl
theorem ar_107 : AR 107 87 := ⟨by decide, fun c r => ⟨rfl, fun l => sa_107 c r l⟩⟩
set_option maxHeartbeats 4000000 in
set_option maxRecDepth 100000 in
theorem sa_108 (c r : St) (l : List Int32) : (HP c r).set 108 (.inr (0, .inl l)) = HP (sA c 88 l) r := rfl
theorem ar_108 : AR 108 88 := ⟨by decide, fun c r => ⟨rfl, fun l => sa_108 c r l⟩⟩
set_option maxHeartbeats 4000000 in
set_option maxRecDepth 100000 in
theorem sa_109 (c r : St) (l : List Int32) : (HP c r).set 109 (.inr (0, .inl l)) = HP (sA c 89 l) r := rfl
theorem ar_109 : AR 109 89 := ⟨by decide, fun c r => ⟨rfl, fun l => sa_109 c r l⟩⟩
set_option maxHeartbeats 4000000 in
set_option maxRecDepth 100000 in
theorem sa_110 (c r : St) (l : List Int32) : (HP c r).set 110 (.inr (0, .inl l)) = HP (sA c 90 l) r := rfl
theorem ar_110 : AR 110 90 := ⟨by decide, fun c r => ⟨rfl, fun l => sa_110 c r l⟩⟩
set_option maxHeartbeats 4000000 in
set_option maxRecDepth 100000 in
theorem sa_111 (c r : St) (l : List Int32) : (HP c r).set 111 (.inr (0, .inl l)) = HP (sA c 91 l) r := rfl
theorem ar_111 : AR 111 91 := ⟨by decide, fun c r => ⟨rfl, fun l => sa_111 c r l⟩⟩
set_option maxHeartbeats 4000000 in
set_option maxRecDepth 100000 in
theorem sa_112 (c r : St) (l : List Int32) : (HP c r).set 112 (.inr (0, .inl l)) = HP (sA c 92 l) r := rfl
theorem ar_112 : AR 112 92 := ⟨by decide, fun c r => ⟨rfl, fun l => sa_112 c r l⟩⟩
set_option maxHeartbeats 4000000 in
set_option maxRecDepth 100000 in
theorem sa_113 (c r : St) (l : List Int32) : (HP c r).set 113 (.inr (0, .inl l)) = HP (sA c 93 l) r := rfl
theorem ar_113 : AR 113 93 := ⟨by decide, fun c r => ⟨rfl, fun l => sa_113 c r l⟩⟩
set_option maxHeartbeats 4000000 in
set_option maxRecDepth 100000 in
theorem sa_114 (c r : St) (l : List Int32) : (HP c r).set 114 (.inr (0, .inl l)) = HP (sA c 94 l) r := rfl
theorem ar_114 : AR 114 94 := ⟨by decide, fun c r => ⟨rfl, fun l => sa_114 c r l⟩⟩
set_option maxHeartbeats 4000000 in
set_option maxRecDepth 100000 in
theorem st_115_3 (c r : St) (x : Int32) : (HP c r).set 115 (.inl (12, [.ref 116, .ref 117, .ref 118, .int x, .int (gI r 1), .int (gI r 2), .int (gI r 3), .int (gI r 4), .int (gI r 5), .int (gI r 6), .ref 119, .ref 120, .int (gI r 7), .ref 121, .ref 122, .ref 123, .ref 124, .ref 125, .int (gI r 8), .ref 126, .int (gI r 9), .ref 127, .ref 128, .int (gI r 10), .ref 129, .ref 130, .int (gI r 11), .int (gI r 12), .ref 131, .int (gI r 13), .ref 132, .ref 133, .ref 134, .ref 135, .int (gI r 14), .int (gI r 15), .int (gI r 16), .int (gI r 17), .int (gI r 18), .int (gI r 19), .ref 136, .ref 137, .int (gI r 20), .ref 138, .ref 139, .ref 140, .int (gI r 21), .ref 141, .ref 142, .int (gI r 22), .int (gI r 23), .int (gI r 24), .int (gI r 25), .int (gI r 26), .ref 143, .ref 144, .ref 145, .ref 146, .ref 147, .int (gI r 27), .int (gI r 28), .int (gI r 29), .int (gI r 30), .int (gI r 31), .ref 148, .ref 149, .int (gI r 32), .ref 150, .ref 151, .ref 152, .int (gI r 33), .ref 153, .ref 154, .ref 155, .ref 156, .ref 157, .int (gI r 34), .long (gL r 0)])) = HP c (sI r 0 x) := rfl
set_option maxHeartbeats 4000000 in
set_option maxRecDepth 100000 in
theorem st_115_4 (c r : St) (x : Int32) : (HP c r).set 115 (.inl (12, [.ref 116, .ref 117, .ref 118, .int (gI r 0), .int x, .int (gI r 2), .int (gI r 3), .int (gI r 4), .int (gI r 5), .int (gI r 6), .ref 119, .ref 120, .int (gI r 7), .ref 121, .ref 122, .ref 123, .ref 124, .ref 125, .int (gI r 8), .ref 126, .int (gI r 9), .ref 127, .ref 128, .int (gI r 10), .ref 129, .ref 130, .int (gI r 11), .int (gI r 12), .ref 131, .int (gI r 13), .ref 132, .ref 133, .ref 134, .ref 135, .int (gI r 14), .int (gI r 15), .int (gI r 16), .int (gI r 17), .int (gI r 18), .int (gI r 19), .ref 136, .ref 137, .int (gI r 20), .ref 138, .ref 139, .ref 140, .int (gI r 21), .ref 141, .ref 142, .int (gI r 22), .int (gI r 23), .int (gI r 24), .int (gI r 25), .int (gI r 26), .ref 143, .ref 144, .ref 145, .ref 146, .ref 147, .int (gI r 27), .int (gI r 28), .int (gI r 29), .int (gI r 30), .int (gI r 31), .ref 148, .ref 149, .int (gI r 32), .ref 150, .ref 151, .ref 152, .int (gI r 33), .ref 153, .ref 154, .ref 155, .ref 156, .ref 157, .int (gI r 34), .long (gL r 0)])) = HP c (sI r 1 x) := rfl
set_option maxHeartbeats 4000000 in
set_option maxRecDepth 100000 in
theorem st_115_5 (c r : St) (x : Int32) : (HP c r).set 115 (.inl (12, [.ref 116, .ref 117, .ref 118, .int (gI r 0), .int (gI r 1), .int x, .int (gI r 3), .int (gI r 4), .int (gI r 5), .int (gI r 6), .ref 119, .ref 120, .int (gI r 7), .ref 121, .ref 122, .ref 123, .ref 124, .ref 125, .int (gI r 8), .ref 126, .int (gI r 9), .ref 127, .ref 128, .int (gI r 10), .ref 129, .ref 130, .int (gI r 11), .int (gI r 12), .ref 131, .int (gI r 13), .ref 132, .ref 133, .ref 134, .ref 135, .int (gI r 14), .int (gI r 15), .int (gI r 16), .int (gI r 17), .int (gI r 18), .int (gI r 19), .ref 136, .ref 137, .int (gI r 20), .ref 138, .ref 139, .ref 140, .int (gI r 21), .ref 141, .ref 142, .int (gI r 22), .int (gI r 23), .int (gI r 24), .int (gI r 25), .int (gI r 26), .ref 143, .ref 144, .ref 145, .ref 146, .ref 147, .int (gI r 27), .int (gI r 28), .int (gI r 29), .int (gI r 30), .int (gI r 31), .ref 148, .ref 149, .int (gI r 32), .ref 150, .ref 151, .ref 152, .int (gI r 33), .ref 153, .ref 154, .ref 155, .ref 156, .ref 157, .int (gI r 34), .long (gL r 0)])) = HP c (sI r 2 x) := rfl
set_option maxHeartbeats 4000000 in
set_option maxRecDepth 100000 in
theorem st_115_6 (c r : St) (x : Int32) : (HP c r).set 115 (.inl (12, [.ref 116, .ref 117, .ref 118, .int (gI r 0), .int (gI r 1), .int (gI r 2), .int x, .int (gI r 4), .int (gI r 5), .int (gI r 6), .ref 119, .ref 120, .int (gI r 7), .ref 121, .ref 122, .ref 123, .ref 124, .ref 125, .int (gI r 8), .ref 126, .int (gI r 9), .ref 127, .ref 128, .int (gI r 10), .ref 129, .ref 130, .int (gI r 11), .int (gI r 12), .ref 131, .int (gI r 13), .ref 132, .ref 133, .ref 134, .ref 135, .int (gI r 14), .int (gI r 15), .int (gI r 16), .int (gI r 17), .int (gI r 18), .int (gI r 19), .ref 136, .ref 137, .int (gI r 20), .ref 138, .ref 139, .ref 140, .int (gI r 21), .ref 141, .ref 142, .int (gI r 22), .int (gI r 23), .int (gI r 24), .int (gI r 25), .int (gI r 26), .ref 143, .ref 144, .ref 145, .ref 146, .ref 147, .int (gI r 27), .int (gI r 28), .int (gI r 29), .int (gI r 30), .int (gI r 31), .ref 148, .ref 149, .int (gI r 32), .ref 150, .ref 151, .ref 152, .int (gI r 33), .ref 153, .ref 154, .ref 155, .ref 156, .ref 157, .int (gI r 34), .long (gL r 0)])) = HP c (sI r 3 x) := rfl
set_option maxHeartbeats 4000000 in
set_option maxRecDepth 100000 in
theorem st_115_7 (c r : St) (x : Int32) : (HP c r).set 115 (.inl (12, [.ref 116, .ref 117, .ref 118, .int (gI r 0), .int (gI r 1), .int (gI r 2), .int (gI r 3), .int x, .int (gI r 5), .int (gI r 6), .ref 119, .ref 120, .int (gI r 7), .ref 121, .ref 122, .ref 123, .ref 124, .ref 125, .int (gI r 8), .ref 126, .int (gI r 9), .ref 127, .ref 128, .int (gI r 10), .ref 129, .ref 130, .int (gI r 11), .int (gI r 12), .ref 131, .int (gI r 13), .ref 132, .ref 133, .ref 134, .ref 135, .int (gI r 14), .int (gI r 15), .int (gI r 16), .int (gI r 17), .int (gI r 18), .int (gI r 19), .ref 136, .ref 137, .int (gI r 20), .ref 138, .ref 139, .ref 140, .int (gI r 21), .ref 141, .ref 142, .int (gI r 22), .int (gI r 23), .int (gI r 24), .int (gI r 25), .int (gI r 26), .ref 143, .ref 144, .ref 145, .ref 146, .ref 147, .int (gI r 27), .int (gI r 28), .int (gI r 29), .int (gI r 30), .int (gI r 31), .ref 148, .ref 149, .int (gI r 32), .ref 150, .ref 151, .ref 152, .int (gI r 33), .ref 153, .ref 154, .ref 155, .ref 156, .ref 157, .int (gI r 34), .long (gL r 0)])) = HP c (sI r 4 x) := rfl
set_option maxHeartbeats 4000000 in
set_option maxRecDepth 100000 in
theorem st_115_8 (c r : St) (x : Int32) : (HP c r).set 115 (.inl (12, [.ref 116, .ref 117, .ref 118, .int (gI r 0), .int (gI r 1), .int (gI r 2), .int (gI r 3), .int (gI r 4), .int x, .int (gI r 6), .ref 119, .ref 120, .int (gI r 7), .ref 121, .ref 122, .ref 123, .ref 124, .ref 125, .int (gI r 8), .ref 126, .int (gI r 9), .ref 127, .ref 128, .int (gI r 10), .ref 129, .ref 130, .int (gI r 11), .int (gI r 12), .ref 131, .int (gI r 13), .ref 132, .ref 133, .ref 134, .ref 135, .int (gI r 14), .int (gI r 15), .int (gI r 16), .int (gI r 17), .int (gI r 18), .int (gI r 19), .ref 136, .ref 137, .int (gI r 20), .ref 138, .ref 139, .ref 140, .int (gI r 21), .ref 141, .ref 142, .int (gI r 22), .int (gI r 23), .int (gI r 24), .int (gI r 25), .int (gI r 26), .ref 143, .ref 144, .ref 145, .ref 146, .ref 147, .int (gI r 27), .int (gI r 28), .int (gI r 29), .int (gI r 30), .int (gI r 31), .ref 148, .ref 149, .int (gI r 32), .ref 150, .ref 151, .ref 152, .int (gI r 33), .ref 153, .ref 154, .ref 155, .ref 156, .ref 157, .int (gI r 34), .long (gL r 0)])) = HP c (sI r 5 x) := rfl
set_option maxHeartbeats 4000000 in
set_option maxRecDepth 100000 in
theorem st_115_9 (c r : St) (x : Int32) : (HP c r).set 115 (.inl (12, [.ref 116, .ref 117, .ref 118, .int (gI r 0), .int (gI r 1), .int (gI r 2), .int (gI r 3), .int (gI r 4), .int (gI r 5), .int x, .ref 119, .ref 120, .int (gI r 7), .ref 121, .ref 122, .ref 123, .ref 124, .ref 125, .int (gI r 8), .ref 126, .int (gI r 9), .ref 127, .ref 128, .int (gI r 10), .ref 129, .ref 130, .int (gI r 11), .int (gI r 12), .ref 131, .int (gI r 13), .ref 132, .ref 133, .ref 134, .ref 135, .int (gI r 14), .int (gI r 15), .int (gI r 16), .int (gI r 17), .int (gI r 18), .int (gI r 19), .ref 136, .ref 137, .int (gI r 20), .ref 138, .ref 139, .ref 140, .int (gI r 21), .ref 141, .ref 142, .int (gI r 22), .int (gI r 23), .int (gI r 24), .int (gI r 25), .int (gI r 26), .ref 143, .ref 144, .ref 145, .ref 146, .ref 147, .int (gI r 27), .int (gI r 28), .int (gI r 29), .int (gI r 30), .int (gI r 31), .ref 148, .ref 149, .int (gI r 32), .ref 150, .ref 151, .ref 152, .int (gI r 33), .ref 153, .ref 154, .ref 155, .ref 156, .ref 157, .int (gI r 34), .long (gL r 0)])) = HP c (sI r 6 x) := rfl
set_option maxHeartbeats 4000000 in
set_option maxRecDepth 100000 in
theorem st_115_12 (c r : St) (x : Int32) : (HP c r).set 115 (.inl (12, [.ref 116, .ref 117, .ref 118, .int (gI r 0), .int (gI r 1), .int (gI r 2), .int (gI r 3), .int (gI r 4), .int (gI r 5), .int (gI r 6), .ref 119, .ref 120, .int x, .ref 121, .ref 122, .ref 123, .ref 124, .ref 125, .int (gI r 8), .ref 126, .int (gI r 9), .ref 127, .ref 128, .int (gI r 10), .ref 129, .ref 130, .int (gI r 11), .int (gI r 12), .ref 131, .int (gI r 13), .ref 132, .ref 133, .ref 134, .ref 135, .int (gI r 14), .int (gI r 15), .int (gI r 16), .int (gI r 17), .int (gI r 18), .int (gI r 19), .ref 136, .ref 137, .int (gI r 20), .ref 138, .ref 139, .ref 140, .int (gI r 21), .ref 141, .ref 142, .int (gI r 22), .int (gI r 23), .int (gI r 24), .int (gI r 25), .int (gI r 26), .ref 143, .ref 144, .ref 145, .ref 146, .ref 147, .int (gI r 27), .int (gI r 28), .int (gI r 29), .int (gI r 30), .int (gI r 31), .ref 148, .ref 149, .int (gI r 32), .ref 150, .ref 151, .ref 152, .int (gI r 33), .ref 153, .ref 154, .ref 155, .ref 156, .ref 157, .int (gI r 34), .long (gL r 0)])) = HP c (sI r 7 x) := rfl
set_option maxHeartbeats 4000000 in
set_option maxRecDepth 100000 in
theorem st_115_18 (c r : St) (x : Int32) : (HP c r).set 115 (.inl (12, [.ref 116, .ref 117, .ref 118, .int (gI r 0), .int (gI r 1), .int (gI r 2), .int (gI r 3), .int (gI r 4), .int (gI r 5), .int (gI r 6), .ref 119, .ref 120, .int (gI r 7), .ref 121, .ref 122, .ref 123, .ref 124, .ref 125, .int x, .ref 126, .int (gI r 9), .ref 127, .ref 128, .int (gI r 10), .ref 129, .ref 130, .int (gI r 11), .int (gI r 12), .ref 131, .int (gI r 13), .ref 132, .ref 133, .ref 134, .ref 135, .int (gI r 14), .int (gI r 15), .int (gI r 16), .int (gI r 17), .int (gI r 18), .int (gI r 19), .ref 136, .ref 137, .int (gI r 20), .ref 138, .ref 139, .ref 140, .int (gI r 21), .ref 141, .ref 142, .int (gI r 22), .int (gI r 23), .int (gI r 24), .int (gI r 25), .int (gI r 26), .ref 143, .ref 144, .ref 145, .ref 146, .ref 147, .int (gI r 27), .int (gI r 28), .int (gI r 29), .int (gI r 30), .int (gI r 31), .ref 148, .ref 149, .int (gI r 32), .ref 150, .ref 151, .ref 152, .int (gI r 33), .ref 153, .ref 154, .ref 155, .ref 156, .ref 157, .int (gI r 34), .long (gL r 0)])) = HP c (sI r 8 x) := rfl
set_option maxHeartbeats 4000000 in
set_option maxRecDepth 100000 in
theorem st_115_20 (c r : St) (x : Int32) : (HP c r).set 115 (.inl (12, [.ref 116, .ref 117, .ref 118, .int (gI r 0), .int (gI r 1), .int (gI r 2), .int (gI r 3), .int (gI r 4), .int (gI r 5), .int (gI r 6), .ref 119, .ref 120, .int (gI r 7), .ref 121, .ref 122, .ref 123, .ref 124, .ref 125, .int (gI r 8), .ref 126, .int x, .ref 127, .ref 128, .int (gI r 10), .ref 129, .ref 130, .int (gI r 11), .int (gI r 12), .ref 131, .int (gI r 13), .ref 132, .ref 133, .ref 134, .ref 135, .int (gI r 14), .int (gI r 15), .int (gI r 16), .int (gI r 17), .int (gI r 18), .int (gI r 19), .ref 136, .ref 137, .int (gI r 20), .ref 138, .ref 139, .ref 140, .int (gI r 21), .ref 141, .ref 142, .int (gI r 22), .int (gI r 23), .int (gI r 24), .int (gI r 25), .int (gI r 26), .ref 143, .ref 144, .ref 145, .ref 146, .ref 147, .int (gI r 27), .int (gI r 28), .int (gI r 29), .int (gI r 30), .int (gI r 31), .ref 148, .ref 149, .int (gI r 32), .ref 150, .ref 151, .ref 152, .int (gI r 33), .ref 153, .ref 154, .ref 155, .ref 156, .ref 157, .int (gI r 34), .long (gL r 0)])) = HP c (sI r 9 x) := rfl
set_option maxHeartbeats 4000000 in
set_option maxRecDepth 100000 in
theorem st_115_23 (c r : St) (x : Int32) : (HP c r).set 115 (.inl (12, [.ref 116, .ref 117, .ref 118, .int (gI r 0), .int (gI r 1), .int (gI r 2), .int (gI r 3), .int (gI r 4), .int (gI r 5), .int (gI r 6), .ref 119, .ref 120, .int (gI r 7), .ref 121, .ref 122, .ref 123, .ref 124, .ref 125, .int (gI r 8), .ref 126, .int (gI r 9), .ref 127, .ref 128, .int x, .ref 129, .ref 130, .int (gI r 11), .int (gI r 12), .ref 131, .int (gI r 13), .ref 132, .ref 133, .ref 134, .ref 135, .int (gI r 14), .int (gI r 15), .int (gI r 16), .int (gI r 17), .int (gI r 18), .int (gI r 19), .ref 136, .ref 137, .int (gI r 20), .ref 138, .ref 139, .ref 140, .int (gI r 21), .ref 141, .ref 142, .int (gI r 22), .int (gI r 23), .int (gI r 24), .int (gI r 25), .int (gI r 26), .ref 143, .ref 144, .ref 145, .ref 146, .ref 147, .int (gI r 27), .int (gI r 28), .int (gI r 29), .int (gI r 30), .int (gI r 31), .ref 148, .ref 149, .int (gI r 32), .ref 150, .ref 151, .ref 152, .int (gI r 33), .ref 153, .ref 154, .ref 155, .ref 156, .ref 157, .int (gI r 34), .long (gL r 0)])) = HP c (sI r 10 x) := rfl
set_option maxHeartbeats 4000000 in
set_option maxRecDepth 100000 in
theorem st_115_26 (c r : St) (x : Int32) : (HP c r).set 115 (.inl (12, [.ref 116, .ref 117, .ref 118, .int (gI r 0), .int (gI r 1), .int (gI r 2), .int (gI r 3), .int (gI r 4), .int (gI r 5), .int (gI r 6), .ref 119, .ref 120, .int (gI r 7), .ref 121, .ref 122, .ref 123, .ref 124, .ref 125, .int (gI r 8), .ref 126, .int (gI r 9), .ref 127, .ref 128, .int (gI r 10), .ref 129, .ref 130, .int x, .int (gI r 12), .ref 131, .int (gI r 13), .ref 132, .ref 133, .ref 134, .ref 135, .int (gI r 14), .int (gI r 15), .int (gI r 16), .int (gI r 17), .int (gI r 18), .int (gI r 19), .ref 136, .ref 137, .int (gI r 20), .ref 138, .ref 139, .ref 140, .int (gI r 21), .ref 141, .ref 142, .int (gI r 22), .int (gI r 23), .int (gI r 24), .int (gI r 25), .int (gI r 26), .ref 143, .ref 144, .ref 145, .ref 146, .ref 147, .int (gI r 27), .int (gI r 28), .int (gI r 29), .int (gI r 30), .int (gI r 31), .ref 148, .ref 149, .int (gI r 32), .ref 150, .ref 151, .ref 152, .int (gI r 33), .ref 153, .ref 154, .ref 155, .ref 156, .ref 157, .int (gI r 34), .long (gL r 0)])) = HP c (sI r 11 x) := rfl
set_option maxHeartbeats 4000000 in
set_option maxRecDepth 100000 in
theorem st_115_27 (c r : St) (x : Int32) : (HP c r).set 115 (.inl (12, [.ref 116, .ref 117, .ref 118, .int (gI r 0), .int (gI r 1), .int (gI r 2), .int (gI r 3), .int (gI r 4), .int (gI r 5), .int (gI r 6), .ref 119, .ref 120, .int (gI r 7), .ref 121, .ref 122, .ref 123, .ref 124, .ref 125, .int (gI r 8), .ref 126, .int (gI r 9), .ref 127, .ref 128, .int (gI r 10), .ref 129, .ref 130, .int (gI r 11), .int x, .ref 131, .int (gI r 13), .ref 132, .ref 133, .ref 134, .ref 135, .int (gI r 14), .int (gI r 15), .int (gI r 16), .int (gI r 17), .int (gI r 18), .int (gI r 19), .ref 136, .ref 137, .int (gI r 20), .ref 138, .ref 139, .ref 140, .int (gI r 21), .ref 141, .ref 142, .int (gI r 22), .int (gI r 23), .int (gI r 24), .int (gI r 25), .int (gI r 26), .ref 143, .ref 144, .ref 145, .ref 146, .ref 147, .int (gI r 27), .int (gI r 28), .int (gI r 29), .int (gI r 30), .int (gI r 31), .ref 148, .ref 149, .int (gI r 32), .ref 150, .ref 151, .ref 152, .int (gI r 33), .ref 153, .ref 154, .ref 155, .ref 156, .ref 157, .int (gI r 34), .long (gL r 0)])) = HP c (sI r 12 x) := rfl
set_option maxHeartbeats 4000000 in
set_option maxRecDepth 100000 in
theorem st_115_29 (c r : St) (x : Int32) : (HP c r).set 115 (.inl (12, [.ref 116, .ref 117, .ref 118, .int (gI r 0), .int (gI r 1), .int (gI r 2), .int (gI r 3), .int (gI r 4), .int (gI r 5), .int (gI r 6), .ref 119, .ref 120, .int (gI r 7), .ref 121, .ref 122, .ref 123, .ref 124, .ref 125, .int (gI r 8), .ref 126, .int (gI r 9), .ref 127, .ref 128, .int (gI r 10), .ref 129, .ref 130, .int (gI r 11), .int (gI r 12), .ref 131, .int x, .ref 132, .ref 133, .ref 134, .ref 135, .int (gI r 14), .int (gI r 15), .int (gI r 16), .int (gI r 17), .int (gI r 18), .int (gI r 19), .ref 136, .ref 137, .int (gI r 20), .ref 138, .ref 139, .ref 140, .int (gI r 21), .ref 141, .ref 142, .int (gI r 22), .int (gI r 23), .int (gI r 24), .int (gI r 25), .int (gI r 26), .ref 143, .ref 144, .ref 145, .ref 146, .ref 147, .int (gI r 27), .int (gI r 28), .int (gI r 29), .int (gI r 30), .int (gI r 31), .ref 148, .ref 149, .int (gI r 32), .ref 150, .ref 151, .ref 152, .int (gI r 33), .ref 153, .ref 154, .ref 155, .ref 156, .ref 157, .int (gI r 34), .long (gL r 0)])) = HP c (sI r 13 x) := rfl
set_option maxHeartbeats 4000000 in
set_option maxRecDepth 100000 in
theorem st_115_34 (c r : St) (x : Int32) : (HP c r).set 115 (.inl (12, [.ref 116, .ref 117, .ref 118, .int (gI r 0), .int (gI r 1), .int (gI r 2), .int (gI r 3), .int (gI r 4), .int (gI r 5), .int (gI r 6), .ref 119, .ref 120, .int (gI r 7), .ref 121, .ref 122, .ref 123, .ref 124, .ref 125, .int (gI r 8), .ref 126, .int (gI r 9), .ref 127, .ref 128, .int (gI r 10), .ref 129, .ref 130, .int (gI r 11), .int (gI r 12), .ref 131, .int (gI r 13), .ref 132, .ref 133, .ref 134, .ref 135, .int x, .int (gI r 15), .int (gI r 16), .int (gI r 17), .int (gI r 18), .int (gI r 19), .ref 136, .ref 137, .int (gI r 20), .ref 138, .ref 139, .ref 140, .int (gI r 21), .ref 141, .ref 142, .int (gI r 22), .int (gI r 23), .int (gI r 24), .int (gI r 25), .int (gI r 26), .ref 143, .ref 144, .ref 145, .ref 146, .ref 147, .int (gI r 27), .int (gI r 28), .int (gI r 29), .int (gI r 30), .int (gI r 31), .ref 148, .ref 149, .int (gI r 32), .ref 150, .ref 151, .ref 152, .int (gI r 33), .ref 153, .ref 154, .ref 155, .ref 156, .ref 157, .int (gI r 34), .long (gL r 0)])) = HP c (sI r 14 x) := rfl
set_option maxHeartbeats 4000000 in
set_option maxRecDepth 100000 in
theorem st_115_35 (c r : St) (x : Int32) : (HP c r).set 115 (.inl (12, [.ref 116, .ref 117, .ref 118, .int (gI r 0), .int (gI r 1), .int (gI r 2), .int (gI r 3), .int (gI r 4), .int (gI r 5), .int (gI r 6), .ref 119, .ref 120, .int (gI r 7), .ref 121, .ref 122, .ref 123, .ref 124, .ref 125, .int (gI r 8), .ref 126, .int (gI r 9), .ref 127, .ref 128, .int (gI r 10), .ref 129, .ref 130, .int (gI r 11), .int (gI r 12), .ref 131, .int (gI r 13), .ref 132, .ref 133, .ref 134, .ref 135, .int (gI r 14), .int x, .int (gI r 16), .int (gI r 17), .int (gI r 18), .int (gI r 19), .ref 136, .ref 137, .int (gI r 20), .ref 138, .ref 139, .ref 140, .int (gI r 21), .ref 141, .ref 142, .int (gI r 22), .int (gI r 23), .int (gI r 24), .int (gI r 25), .int (gI r 26), .ref 143, .ref 144, .ref 145, .ref 146, .ref 147, .int (gI r 27), .int (gI r 28), .int (gI r 29), .int (gI r 30), .int (gI r 31), .ref 148, .ref 149, .int (gI r 32), .ref 150, .ref 151, .ref 152, .int (gI r 33), .ref 153, .ref 154, .ref 155, .ref 156, .ref 157, .int (gI r 34), .long (gL r 0)])) = HP c (sI r 15 x) := rfl
set_option maxHeartbeats 4000000 in
set_option maxRecDepth 100000 in
theorem st_115_36 (c r : St) (x : Int32) : (HP c r).set 115 (.inl (12, [.ref 116, .ref 117, .ref 118, .int (gI r 0), .int (gI r 1), .int (gI r 2), .int (gI r 3), .int (gI r 4), .int (gI r 5), .int (gI r 6), .ref 119, .ref 120, .int (gI r 7), .ref 121, .ref 122, .ref 123, .ref 124, .ref 125, .int (gI r 8), .ref 126, .int (gI r 9), .ref 127, .ref 128, .int (gI r 10), .ref 129, .ref 130, .int (gI r 11), .int (gI r 12), .ref 131, .int (gI r 13), .ref 132, .ref 133, .ref 134, .ref 135, .int (gI r 14), .int (gI r 15), .int x, .int (gI r 17), .int (gI r 18), .int (gI r 19), .ref 136, .ref 137, .int (gI r 20), .ref 138, .ref 139, .ref 140, .int (gI r 21), .ref 141, .ref 142, .int (gI r 22), .int (gI r 23), .int (gI r 24), .int (gI r 25), .int (gI r 26), .ref 143, .ref 144, .ref 145, .ref 146, .ref 147, .int (gI r 27), .int (gI r 28), .int (gI r 29), .int (gI r 30), .int (gI r 31), .ref 148, .ref 149, .int (gI r 32), .ref 150, .ref 151, .ref 152, .int (gI r 33), .ref 153, .ref 154, .ref 155, .ref 156, .ref 157, .int (gI r 34), .long (gL r 0)])) = HP c (sI r 16 x) := rfl
set_option maxHeartbeats 4000000 in
set_option maxRecDepth 100000 in
theorem st_115_37 (c r : St) (x : Int32) : (HP c r).set 115 (.inl (12, [.ref 116, .ref 117, .ref 118, .int (gI r 0), .int (gI r 1), .int (gI r 2), .int (gI r 3), .int (gI r 4), .int (gI r 5), .int (gI r 6), .ref 119, .ref 120, .int (gI r 7), .ref 121, .ref 122, .ref 123, .ref 124, .ref 125, .int (gI r 8), .ref 126, .int (gI r 9), .ref 127, .ref 128, .int (gI r 10), .ref 129, .ref 130, .int (gI r 11), .int (gI r 12), .ref 131, .int (gI r 13), .ref 132, .ref 133, .ref 134, .ref 135, .int (gI r 14), .int (gI r 15), .int (gI r 16), .int x, .int (gI r 18), .int (gI r 19), .ref 136, .ref 137, .int (gI r 20), .ref 138, .ref 139, .ref 140, .int (gI r 21), .ref 141, .ref 142, .int (gI r 22), .int (gI r 23), .int (gI r 24), .int (gI r 25), .int (gI r 26), .ref 143, .ref 144, .ref 145, .ref 146, .ref 147, .int (gI r 27), .int (gI r 28), .int (gI r 29), .int (gI r 30), .int (gI r 31), .ref 148, .ref 149, .int (gI r 32), .ref 150, .ref 151, .ref 152, .int (gI r 33), .ref 153, .ref 154, .ref 155, .ref 156, .ref 157, .int (gI r 34), .long (gL r 0)])) = HP c (sI r 17 x) := rfl
set_option maxHeartbeats 4000000 in
set_option maxRecDepth 100000 in
theorem st_115_38 (c r : St) (x : Int32) : (HP c r).set 115 (.inl (12, [.ref 116, .ref 117, .ref 118, .int (gI r 0), .int (gI r 1), .int (gI r 2), .int (gI r 3), .int (gI r 4), .int (gI r 5), .int (gI r 6), .ref 119, .ref 120, .int (gI r 7), .ref 121, .ref 122, .ref 123, .ref 124, .ref 125, .int (gI r 8), .ref 126, .int (gI r 9), .ref 127, .ref 128, .int (gI r 10), .ref 129, .ref 130, .int (gI r 11), .int (gI r 12), .ref 131, .int (gI r 13), .ref 132, .ref 133, .ref 134, .ref 135, .int (gI r 14), .int (gI r 15), .int (gI r 16), .int (gI r 17), .int x, .int (gI r 19), .ref 136, .ref 137, .int (gI r 20), .ref 138, .ref 139, .ref 140, .int (gI r 21), .ref 141, .ref 142, .int (gI r 22), .int (gI r 23), .int (gI r 24), .int (gI r 25), .int (gI r 26), .ref 143, .ref 144, .ref 145, .ref 146, .ref 147, .int (gI r 27), .int (gI r 28), .int (gI r 29), .int (gI r 30), .int (gI r 31), .ref 148, .ref 149, .int (gI r 32), .ref 150, .ref 151, .ref 152, .int (gI r 33), .ref 153, .ref 154, .ref 155, .ref 156, .ref 157, .int (gI r 34), .long (gL r 0)])) = HP c (sI r 18 x) := rfl
set_option maxHeartbeats 4000000 in
set_option maxRecDepth 100000 in
theorem st_115_39 (c r : St) (x : Int32) : (HP c r).set 115 (.inl (12, [.ref 116, .ref 117, .ref 118, .int (gI r 0), .int (gI r 1), .int (gI r 2), .int (gI r 3), .int (gI r 4), .int (gI r 5), .int (gI r 6), .ref 119, .ref 120, .int (gI r 7), .ref 121, .ref 122, .ref 123, .ref 124, .ref 125, .int (gI r 8), .ref 126, .int (gI r 9), .ref 127, .ref 128, .int (gI r 10), .ref 129, .ref 130, .int (gI r 11), .int (gI r 12), .ref 131, .int (gI r 13), .ref 132, .ref 133, .ref 134, .ref 135, .int (gI r 14), .int (gI r 15), .int (gI r 16), .int (gI r 17), .int (gI r 18), .int x, .ref 136, .ref 137, .int (gI r 20), .ref 138, .ref 139, .ref 140, .int (gI r 21), .ref 141, .ref 142, .int (gI r 22), .int (gI r 23), .int (gI r 24), .int (gI r 25), .int (gI r 26), .ref 143, .ref 144, .ref 145, .ref 146, .ref 147, .int (gI r 27), .int (gI r 28), .int (gI r 29), .int (gI r 30), .int (gI r 31), .ref 148, .ref 149, .int (gI r 32), .ref 150, .ref 151, .ref 152, .int (gI r 33), .ref 153, .ref 154, .ref 155, .ref 156, .ref 157, .int (gI r 34), .long (gL r 0)])) = HP c (sI r 19 x) := rfl
set_option maxHeartbeats 4000000 in
set_option maxRecDepth 100000 in
theorem st_115_42 (c r : St) (x : Int32) : (HP c r).set 115 (.inl (12, [.ref 116, .ref 117, .ref 118, .int (gI r 0), .int (gI r 1), .int (gI r 2), .int (gI r 3), .int (gI r 4), .int (gI r 5), .int (gI r 6), .ref 119, .ref 120, .int (gI r 7), .ref 121, .ref 122, .ref 123, .ref 124, .ref 125, .int (gI r 8), .ref 126, .int (gI r 9), .ref 127, .ref 128, .int (gI r 10), .ref 129, .ref 130, .int (gI r 11), .int (gI r 12), .ref 131, .int (gI r 13), .ref 132, .ref 133, .ref 134, .ref 135, .int (gI r 14), .int (gI r 15), .int (gI r 16), .int (gI r 17), .int (gI r 18), .int (gI r 19), .ref 136, .ref 137, .int x, .ref 138, .ref 139, .ref 140, .int (gI r 21), .ref 141, .ref 142, .int (gI r 22), .int (gI r 23), .int (gI r 24), .int (gI r 25), .int (gI r 26), .ref 143, .ref 144, .ref 145, .ref 146, .ref 147, .int (gI r 27), .int (gI r 28), .int (gI r 29), .int (gI r 30), .int (gI r 31), .ref 148, .ref 149, .int (gI r 32), .ref 150, .ref 151, .ref 152, .int (gI r 33), .ref 153, .ref 154, .ref 155, .ref 156, .ref 157, .int (gI r 34), .long (gL r 0)])) = HP c (sI r 20 x) := rfl
set_option maxHeartbeats 4000000 in
set_option maxRecDepth 100000 in
theorem st_115_46 (c r : St) (x : Int32) : (HP c r).set 115 (.inl (12, [.ref 116, .ref 117, .ref 118, .int (gI r 0), .int (gI r 1), .int (gI r 2), .int (gI r 3), .int (gI r 4), .int (gI r 5), .int (gI r 6), .ref 119, .ref 120, .int (gI r 7), .ref 121, .ref 122, .ref 123, .ref 124, .ref 125, .int (gI r 8), .ref 126, .int (gI r 9), .ref 127, .ref 128, .int (gI r 10), .ref 129, .ref 130, .int (gI r 11), .int (gI r 12), .ref 131, .int (gI r 13), .ref 132, .ref 133, .ref 134, .ref 135, .int (gI r 14), .int (gI r 15), .int (gI r 16), .int (gI r 17), .int (gI r 18), .int (gI r 19), .ref 136, .ref 137, .int (gI r 20), .ref 138, .ref 139, .ref 140, .int x, .ref 141, .ref 142, .int (gI r 22), .int (gI r 23), .int (gI r 24), .int (gI r 25), .int (gI r 26), .ref 143, .ref 144, .ref 145, .ref 146, .ref 147, .int (gI r 27), .int (gI r 28), .int (gI r 29), .int (gI r 30), .int (gI r 31), .ref 148, .ref 149, .int (gI r 32), .ref 150, .ref 151, .ref 152, .int (gI r 33), .ref 153, .ref 154, .ref 155, .ref 156, .ref 157, .int (gI r 34), .long (gL r 0)])) = HP c (sI r 21 x) := rfl
set_option maxHeartbeats 4000000 in
set_option maxRecDepth 100000 in
theorem st_115_49 (c r : St) (x : Int32) : (HP c r).set 115 (.inl (12, [.ref 116, .ref 117, .ref 118, .int (gI r 0), .int (gI r 1), .int (gI r 2), .int (gI r 3), .int (gI r 4), .int (gI r 5), .int (gI r 6), .ref 119, .ref 120, .int (gI r 7), .ref 121, .ref 122, .ref 123, .ref 124, .ref 125, .int (gI r 8), .ref 126, .int (gI r 9), .ref 127, .ref 128, .int (gI r 10), .ref 129, .ref 130, .int (gI r 11), .int (gI r 12), .ref 131, .int (gI r 13), .ref 132, .ref 133, .ref 134, .ref 135, .int (gI r 14), .int (gI r 15), .int (gI r 16), .int (gI r 17), .int (gI r 18), .int (gI r 19), .ref 136, .ref 137, .int (gI r 20), .ref 138, .ref 139, .ref 140, .int (gI r 21), .ref 141, .ref 142, .int x, .int (gI r 23), .int (gI r 24), .int (gI r 25), .int (gI r 26), .ref 143, .ref 144, .ref 145, .ref 146, .ref 147, .int (gI r 27), .int (gI r 28), .int (gI r 29), .int (gI r 30), .int (gI r 31), .ref 148, .ref 149, .int (gI r 32), .ref 150, .ref 151, .ref 152, .int (gI r 33), .ref 153, .ref 154, .ref 155, .ref 156, .ref 157, .int (gI r 34), .long (gL r 0)])) = HP c (sI r 22 x) := rfl
set_option maxHeartbeats 4000000 in
set_option maxRecDepth 100000 in
theorem st_115_50 (c r : St) (x : Int32) : (HP c r).set 115 (.inl (12, [.ref 116, .ref 117, .ref 118, .int (gI r 0), .int (gI r 1), .int (gI r 2), .int (gI r 3), .int (gI r 4), .int (gI r 5), .int (gI r 6), .ref 119, .ref 120, .int (gI r 7), .ref 121, .ref 122, .ref 123, .ref 124, .ref 125, .int (gI r 8), .ref 126, .int (gI r 9), .ref 127, .ref 128, .int (gI r 10), .ref 129, .ref 130, .int (gI r 11), .int (gI r 12), .ref 131, .int (gI r 13), .ref 132, .ref 133, .ref 134, .ref 135, .int (gI r 14), .int (gI r 15), .int (gI r 16), .int (gI r 17), .int (gI r 18), .int (gI r 19), .ref 136, .ref 137, .int (gI r 20), .ref 138, .ref 139, .ref 140, .int (gI r 21), .ref 141, .ref 142, .int (gI r 22), .int x, .int (gI r 24), .int (gI r 25), .int (gI r 26), .ref 143, .ref 144, .ref 145, .ref 146, .ref 147, .int (gI r 27), .int (gI r 28), .int (gI r 29), .int (gI r 30), .int (gI r 31), .ref 148, .ref 149, .int (gI r 32), .ref 150, .ref 151, .ref 152, .int (gI r 33), .ref 153, .ref 154, .ref 155, .ref 156, .ref 157, .int (gI r 34), .long (gL r 0)])) = HP c (sI r 23 x) := rfl
set_option maxHeartbeats 4000000 in
set_option maxRecDepth 100000 in
theorem st_115_51 (c r : St) (x : Int32) : (HP c r).set 115 (.inl (12, [.ref 116, .ref 117, .ref 118, .int (gI r 0), .int (gI r 1), .int (gI r 2), .int (gI r 3), .int (gI r 4), .int (gI r 5), .int (gI r 6), .ref 119, .ref 120, .int (gI r 7), .ref 121, .ref 122, .ref 123, .ref 124, .ref 125, .int (gI r 8), .ref 126, .int (gI r 9), .ref 127, .ref 128, .int (gI r 10), .ref 129, .ref 130, .int (gI r 11), .int (gI r 12), .ref 131, .int (gI r 13), .ref 132, .ref 133, .ref 134, .ref 135, .int (gI r 14), .int (gI r 15), .int (gI r 16), .int (gI r 17), .int (gI r 18), .int (gI r 19), .ref 136, .ref 137, .int (gI r 20), .ref 138, .ref 139, .ref 140, .int (gI r 21), .ref 141, .ref 142, .int (gI r 22), .int (gI r 23), .int x, .int (gI r 25), .int (gI r 26), .ref 143, .ref 144, .ref 145, .ref 146, .ref 147, .int (gI r 27), .int (gI r 28), .int (gI r 29), .int (gI r 30), .int (gI r 31), .ref 148, .ref 149, .int (gI r 32), .ref 150, .ref 151, .ref 152, .int (gI r 33), .ref 153, .ref 154, .ref 155, .ref 156, .ref 157, .int (gI r 34), .long (gL r 0)])) = HP c (sI r 24 x) := rfl
set_option maxHeartbeats 4000000 in
set_option maxRecDepth 100000 in
theorem st_115_52 (c r : St) (x : Int32) : (HP c r).set 115 (.inl (12, [.ref 116, .ref 117, .ref 118, .int (gI r 0), .int (gI r 1), .int (gI r 2), .int (gI r 3), .int (gI r 4), .int (gI r 5), .int (gI r 6), .ref 119, .ref 120, .int (gI r 7), .ref 121, .ref 122, .ref 123, .ref 124, .ref 125, .int (gI r 8), .ref 126, .int (gI r 9), .ref 127, .ref 128, .int (gI r 10), .ref 129, .ref 130, .int (gI r 11), .int (gI r 12), .ref 131, .int (gI r 13), .ref 132, .ref 133, .ref 134, .ref 135, .int (gI r 14), .int (gI r 15), .int (gI r 16), .int (gI r 17), .int (gI r 18), .int (gI r 19), .ref 136, .ref 137, .int (gI r 20), .ref 138, .ref 139, .ref 140, .int (gI r 21), .ref 141, .ref 142, .int (gI r 22), .int (gI r 23), .int (gI r 24), .int x, .int (gI r 26), .ref 143, .ref 144, .ref 145, .ref 146, .ref 147, .int (gI r 27), .int (gI r 28), .int (gI r 29), .int (gI r 30), .int (gI r 31), .ref 148, .ref 149, .int (gI r 32), .ref 150, .ref 151, .ref 152, .int (gI r 33), .ref 153, .ref 154, .ref 155, .ref 156, .ref 157, .int (gI r 34), .long (gL r 0)])) = HP c (sI r 25 x) := rfl
set_option maxHeartbeats 4000000 in
set_option maxRecDepth 100000 in
theorem st_115_53 (c r : St) (x : Int32) : (HP c r).set 115 (.inl (12, [.ref 116, .ref 117, .ref 118, .int (gI r 0), .int (gI r 1), .int (gI r 2), .int (gI r 3), .int (gI r 4), .int (gI r 5), .int (gI r 6), .ref 119, .ref 120, .int (gI r 7), .ref 121, .ref 122, .ref 123, .ref 124, .ref 125, .int (gI r 8), .ref 126, .int (gI r 9), .ref 127, .ref 128, .int (gI r 10), .ref 129, .ref 130, .int (gI r 11), .int (gI r 12), .ref 131, .int (gI r 13), .ref 132, .ref 133, .ref 134, .ref 135, .int (gI r 14), .int (gI r 15), .int (gI r 16), .int (gI r 17), .int (gI r 18), .int (gI r 19), .ref 136, .ref 137, .int (gI r 20), .ref 138, .ref 139, .ref 140, .int (gI r 21), .ref 141, .ref 142, .int (gI r 22), .int (gI r 23), .int (gI r 24), .int (gI r 25), .int x, .ref 143, .ref 144, .ref 145, .ref 146, .ref 147, .int (gI r 27), .int (gI r 28), .int (gI r 29), .int (gI r 30), .int (gI r 31), .ref 148, .ref 149, .int (gI r 32), .ref 150, .ref 151, .ref 152, .int (gI r 33), .ref 153, .ref 154, .ref 155, .ref 156, .ref 157, .int (gI r 34), .long (gL r 0)])) = HP c (sI r 26 x) := rfl
set_option maxHeartbeats 4000000 in
set_option maxRecDepth 100000 in
theorem st_115_59 (c r : St) (x : Int32) : (HP c r).set 115 (.inl (12, [.ref 116, .ref 117, .ref 118, .int (gI r 0), .int (gI r 1), .int (gI r 2), .int (gI r 3), .int (gI r 4), .int (gI r 5), .int (gI r 6), .ref 119, .ref 120, .int (gI r 7), .ref 121, .ref 122, .ref 123, .ref 124, .ref 125, .int (gI r 8), .ref 126, .int (gI r 9), .ref 127, .ref 128, .int (gI r 10), .ref 129, .ref 130, .int (gI r 11), .int (gI r 12), .ref 131, .int (gI r 13), .ref 132, .ref 133, .ref 134, .ref 135, .int (gI r 14), .int (gI r 15), .int (gI r 16), .int (gI r 17), .int (gI r 18), .int (gI r 19), .ref 136, .ref 137, .int (gI r 20), .ref 138, .ref 139, .ref 140, .int (gI r 21), .ref 141, .ref 142, .int (gI r 22), .int (gI r 23), .int (gI r 24), .int (gI r 25), .int (gI r 26), .ref 143, .ref 144, .ref 145, .ref 146, .ref 147, .int x, .int (gI r 28), .int (gI r 29), .int (gI r 30), .int (gI r 31), .ref 148, .ref 149, .int (gI r 32), .ref 150, .ref 151, .ref 152, .int (gI r 33), .ref 153, .ref 154, .ref 155, .ref 156, .ref 157, .int (gI r 34), .long (gL r 0)])) = HP c (sI r 27 x) := rfl
set_option maxHeartbeats 4000000 in
set_option maxRecDepth 100000 in
theorem st_115_60 (c r : St) (x : Int32) : (HP c r).set 115 (.inl (12, [.ref 116, .ref 117, .ref 118, .int (gI r 0), .int (gI r 1), .int (gI r 2), .int (gI r 3), .int (gI r 4), .int (gI r 5), .int (gI r 6), .ref 119, .ref 120, .int (gI r 7), .ref 121, .ref 122, .ref 123, .ref 124, .ref 125, .int (gI r 8), .ref 126, .int (gI r 9), .ref 127, .ref 128, .int (gI r 10), .ref 129, .ref 130, .int (gI r 11), .int (gI r 12), .ref 131, .int (gI r 13), .ref 132, .ref 133, .ref 134, .ref 135, .int (gI r 14), .int (gI r 15), .int (gI r 16), .int (gI r 17), .int (gI r 18), .int (gI r 19), .ref 136, .ref 137, .int (gI r 20), .ref 138, .ref 139, .ref 140, .int (gI r 21), .ref 141, .ref 142, .int (gI r 22), .int (gI r 23), .int (gI r 24), .int (gI r 25), .int (gI r 26), .ref 143, .ref 144, .ref 145, .ref 146, .ref 147, .int (gI r 27), .int x, .int (gI r 29), .int (gI r 30), .int (gI r 31), .ref 148, .ref 149, .int (gI r 32), .ref 150, .ref 151, .ref 152, .int (gI r 33), .ref 153, .ref 154, .ref 155, .ref 156, .ref 157, .int (gI r 34), .long (gL r 0)])) = HP c (sI r 28 x) := rfl
set_option maxHeartbeats 4000000 in
set_option maxRecDepth 100000 in
theorem st_115_61 (c r : St) (x : Int32) : (HP c r).set 115 (.inl (12, [.ref 116, .ref 117, .ref 118, .int (gI r 0), .int (gI r 1), .int (gI r 2), .int (gI r 3), .int (gI r 4), .int (gI r 5), .int (gI r 6), .ref 119, .ref 120, .int (gI r 7), .ref 121, .ref 122, .ref 123, .ref 124, .ref 125, .int (gI r 8), .ref 126, .int (gI r 9), .ref 127, .ref 128, .int (gI r 10), .ref 129, .ref 130, .int (gI r 11), .int (gI r 12), .ref 131, .int (gI r 13), .ref 132, .ref 133, .ref 134, .ref 135, .int (gI r 14), .int (gI r 15), .int (gI r 16), .int (gI r 17), .int (gI r 18), .int (gI r 19), .ref 136, .ref 137, .int (gI r 20), .ref 138, .ref 139, .ref 140, .int (gI r 21), .ref 141, .ref 142, .int (gI r 22), .int (gI r 23), .int (gI r 24), .int (gI r 25), .int (gI r 26), .ref 143, .ref 144, .ref 145, .ref 146, .ref 147, .int (gI r 27), .int (gI r 28), .int x, .int (gI r 30), .int (gI r 31), .ref 148, .ref 149, .int (gI r 32), .ref 150, .ref 151, .ref 152, .int (gI r 33), .ref 153, .ref 154, .ref 155, .ref 156, .ref 157, .int (gI r 34), .long (gL r 0)])) = HP c (sI r 29 x) := rfl
set_option maxHeartbeats 4000000 in
set_option maxRecDepth 100000 in
theorem st_115_62 (c r : St) (x : Int32) : (HP c r).set 115 (.inl (12, [.ref 116, .ref 117, .ref 118, .int (gI r 0), .int (gI r 1), .int (gI r 2), .int (gI r 3), .int (gI r 4), .int (gI r 5), .int (gI r 6), .ref 119, .ref 120, .int (gI r 7), .ref 121, .ref 122, .ref 123, .ref 124, .ref 125, .int (gI r 8), .ref 126, .int (gI r 9), .ref 127, .ref 128, .int (gI r 10), .ref 129, .ref 130, .int (gI r 11), .int (gI r 12), .ref 131, .int (gI r 13), .ref 132, .ref 133, .ref 134, .ref 135, .int (gI r 14), .int (gI r 15), .int (gI r 16), .int (gI r 17), .int (gI r 18), .int (gI r 19), .ref 136, .ref 137, .int (gI r 20), .ref 138, .ref 139, .ref 140, .int (gI r 21), .ref 141, .ref 142, .int (gI r 22), .int (gI r 23), .int (gI r 24), .int (gI r 25), .int (gI r 26), .ref 143, .ref 144, .ref 145, .ref 146, .ref 147, .int (gI r 27), .int (gI r 28), .int (gI r 29), .int x, .int (gI r 31), .ref 148, .ref 149, .int (gI r 32), .ref 150, .ref 151, .ref 152, .int (gI r 33), .ref 153, .ref 154, .ref 155, .ref 156, .ref 157, .int (gI r 34), .long (gL r 0)])) = HP c (sI r 30 x) := rfl
set_option maxHeartbeats 4000000 in
set_option maxRecDepth 100000 in
theorem st_115_63 (c r : St) (x : Int32) : (HP c r).set 115 (.inl (12, [.ref 116, .ref 117, .ref 118, .int (gI r 0), .int (gI r 1), .int (gI r 2), .int (gI r 3), .int (gI r 4), .int (gI r 5), .int (gI r 6), .ref 119, .ref 120, .int (gI r 7), .ref 121, .ref 122, .ref 123, .ref 124, .ref 125, .int (gI r 8), .ref 126, .int (gI r 9), .ref 127, .ref 128, .int (gI r 10), .ref 129, .ref 130, .int (gI r 11), .int (gI r 12), .ref 131, .int (gI r 13), .ref 132, .ref 133, .ref 134, .ref 135, .int (gI r 14), .int (gI r 15), .int (gI r 16), .int (gI r 17), .int (gI r 18), .int (gI r 19), .ref 136, .ref 137, .int (gI r 20), .ref 138, .ref 139, .ref 140, .int (gI r 21), .ref 141, .ref 142, .int (gI r 22), .int (gI r 23), .int (gI r 24), .int (gI r 25), .int (gI r 26), .ref 143, .ref 144, .ref 145, .ref 146, .ref 147, .int (gI r 27), .int (gI r 28), .int (gI r 29), .int (gI r 30), .int x, .ref 148, .ref 149, .int (gI r 32), .ref 150, .ref 151, .ref 152, .int (gI r 33), .ref 153, .ref 154, .ref 155, .ref 156, .ref 157, .int (gI r 34), .long (gL r 0)])) = HP c (sI r 31 x) := rfl
set_option maxHeartbeats 4000000 in
set_option maxRecDepth 100000 in
theorem st_115_66 (c r : St) (x : Int32) : (HP c r).set 115 (.inl (12, [.ref 116, .ref 117, .ref 118, .int (gI r 0), .int (gI r 1), .int (gI r 2), .int (gI r 3), .int (gI r 4), .int (gI r 5), .int (gI r 6), .ref 119, .ref 120, .int (gI r 7), .ref 121, .ref 122, .ref 123, .ref 124, .ref 125, .int (gI r 8), .ref 126, .int (gI r 9), .ref 127, .ref 128, .int (gI r 10), .ref 129, .ref 130, .int (gI r 11), .int (gI r 12), .ref 131, .int (gI r 13), .ref 132, .ref 133, .ref 134, .ref 135, .int (gI r 14), .int (gI r 15), .int (gI r 16), .int (gI r 17), .int (gI r 18), .int (gI r 19), .ref 136, .ref 137, .int (gI r 20), .ref 138, .ref 139, .ref 140, .int (gI r 21), .ref 141, .ref 142, .int (gI r 22), .int (gI r 23), .int (gI r 24), .int (gI r 25), .int (gI r 26), .ref 143, .ref 144, .ref 145, .ref 146, .ref 147, .int (gI r 27), .int (gI r 28), .int (gI r 29), .int (gI r 30), .int (gI r 31), .ref 148, .ref 149, .int x, .ref 150, .ref 151, .ref 152, .int (gI r 33), .ref 153, .ref 154, .ref 155, .ref 156, .ref 157, .int (gI r 34), .long (gL r 0)])) = HP c (sI r 32 x) := rfl
set_option maxHeartbeats 4000000 in
set_option maxRecDepth 100000 in
theorem st_115_70 (c r : St) (x : Int32) : (HP c r).set 115 (.inl (12, [.ref 116, .ref 117, .ref 118, .int (gI r 0), .int (gI r 1), .int (gI r 2), .int (gI r 3), .int (gI r 4), .int (gI r 5), .int (gI r 6), .ref 119, .ref 120, .int (gI r 7), .ref 121, .ref 122, .ref 123, .ref 124, .ref 125, .int (gI r 8), .ref 126, .int (gI r 9), .ref 127, .ref 128, .int (gI r 10), .ref 129, .ref 130, .int (gI r 11), .int (gI r 12), .ref 131, .int (gI r 13), .ref 132, .ref 133, .ref 134, .ref 135, .int (gI r 14), .int (gI r 15), .int (gI r 16), .int (gI r 17), .int (gI r 18), .int (gI r 19), .ref 136, .ref 137, .int (gI r 20), .ref 138, .ref 139, .ref 140, .int (gI r 21), .ref 141, .ref 142, .int (gI r 22), .int (gI r 23), .int (gI r 24), .int (gI r 25), .int (gI r 26), .ref 143, .ref 144, .ref 145, .ref 146, .ref 147, .int (gI r 27), .int (gI r 28), .int (gI r 29), .int (gI r 30), .int (gI r 31), .ref 148, .ref 149, .int (gI r 32), .ref 150, .ref 151, .ref 152, .int x, .ref 153, .ref 154, .ref 155, .ref 156, .ref 157, .int (gI r 34), .long (gL r 0)])) = HP c (sI r 33 x) := rfl
set_option maxHeartbeats 4000000 in
set_option maxRecDepth 100000 in
theorem st_115_76 (c r : St) (x : Int32) : (HP c r).set 115 (.inl (12, [.ref 116, .ref 117, .ref 118, .int (gI r 0), .int (gI r 1), .int (gI r 2), .int (gI r 3), .int (gI r 4), .int (gI r 5), .int (gI r 6), .ref 119, .ref 120, .int (gI r 7), .ref 121, .ref 122, .ref 123, .ref 124, .ref 125, .int (gI r 8), .ref 126, .int (gI r 9), .ref 127, .ref 128, .int (gI r 10), .ref 129, .ref 130, .int (gI r 11), .int (gI r 12), .ref 131, .int (gI r 13), .ref 132, .ref 133, .ref 134, .ref 135, .int (gI r 14), .int (gI r 15), .int (gI r 16), .int (gI r 17), .int (gI r 18), .int (gI r 19), .ref 136, .ref 137, .int (gI r 20), .ref 138, .ref 139, .ref 140, .int (gI r 21), .ref 141, .ref 142, .int (gI r 22), .int (gI r 23), .int (gI r 24), .int (gI r 25), .int (gI r 26), .ref 143, .ref 144, .ref 145, .ref 146, .ref 147, .int (gI r 27), .int (gI r 28), .int (gI r 29), .int (gI r 30), .int (gI r 31), .ref 148, .ref 149, .int (gI r 32), .ref 150, .ref 151, .ref 152, .int (gI r 33), .ref 153, .ref 154, .ref 155, .ref 156, .ref 157, .int x, .long (gL r 0)])) = HP c (sI r 34 x) := rfl
set_option maxHeartbeats 4000000 in
set_option maxRecDepth 100000 in
theorem st_115_77 (c r : St) (x : Int64) : (HP c r).set 115 (.inl (12, [.ref 116, .ref 117, .ref 118, .int (gI r 0), .int (gI r 1), .int (gI r 2), .int (gI r 3), .int (gI r 4), .int (gI r 5), .int (gI r 6), .ref 119, .ref 120, .int (gI r 7), .ref 121, .ref 122, .ref 123, .ref 124, .ref 125, .int (gI r 8), .ref 126, .int (gI r 9), .ref 127, .ref 128, .int (gI r 10), .ref 129, .ref 130, .int (gI r 11), .int (gI r 12), .ref 131, .int (gI r 13), .ref 132, .ref 133, .ref 134, .ref 135, .int (gI r 14), .int (gI r 15), .int (gI r 16), .int (gI r 17), .int (gI r 18), .int (gI r 19), .ref 136, .ref 137, .int (gI r 20), .ref 138, .ref 139, .ref 140, .int (gI r 21), .ref 141, .ref 142, .int (gI r 22), .int (gI r 23), .int (gI r 24), .int (gI r 25), .int (gI r 26), .ref 143, .ref 144, .ref 145, .ref 146, .ref 147, .int (gI r 27), .int (gI r 28), .int (gI r 29), .int (gI r 30), .int (gI r 31), .ref 148, .ref 149, .int (gI r 32), .ref 150, .ref 151, .ref 152, .int (gI r 33), .ref 153, .ref 154, .ref 155, .ref 156, .ref 157, .int (gI r 34), .long x])) = HP c (sL r 0 x) := rfl
set_option maxHeartbeats 4000000 in
set_option maxRecDepth 100000 in
theorem sa_116 (c r : St) (l : List Int32) : (HP c r).set 116 (.inr (0, .inl l)) = HP c (sA r 0 l) := rfl
set_option maxHeartbeats 4000000 in
set_option maxRecDepth 100000 in
theorem sa_117 (c r : St) (l : List Int32) : (HP c r).set 117 (.inr (0, .inl l)) = HP c (sA r 1 l) := rfl
set_option maxHeartbeats 4000000 in
set_option maxRecDepth 100000 in
theorem sa_118 (c r : St) (l : List Int32) : (HP c r).set 118 (.inr (2, .inl l)) = HP c (sA r 2 l) := rfl
set_option maxHeartbeats 4000000 in
set_option maxRecDepth 100000 in
theorem sa_119 (c r : St) (l : List Int32) : (HP c r).set 119 (.inr (0, .inl l)) = HP c (sA r 3 l) := rfl
set_option maxHeartbeats 4000000 in
set_option maxRecDepth 100000 in
theorem sa_120 (c r : St) (l : List Int32) : (HP c r).set 120 (.inr (0, .inl l)) = HP c (sA r 4 l) := rfl
set_option maxHeartbeats 4000000 in
set_option maxRecDepth 100000 in
theorem sa_121 (c r : St) (l : List Int32) : (HP c r).set 121 (.inr (0, .inl l)) = HP c (sA r 5 l) := rfl
set_option maxHeartbeats 4000000 in
set_option maxRecDepth 100000 in
theorem sa_122 (c r : St) (l : List Int32) : (HP c r).set 122 (.inr (0, .inl l)) = HP c (sA r 6 l) := rfl
set_option maxHeartbeats 4000000 in
set_option maxRecDepth 100000 in
theorem sa_123 (c r : St) (l : List Int32) : (HP c r).set 123 (.inr (0, .inl l)) = HP c (sA r 7 l) := rfl
set_option maxHeartbeats 4000000 in
set_option maxRecDepth 100000 in
theorem sa_124 (c r : St) (l : List Int32) : (HP c r).set 124 (.inr (0, .inl l)) = HP c (sA r 8 l) := rfl
set_option maxHeartbeats 4000000 in
set_option maxRecDepth 100000 in
theorem sa_125 (c r : St) (l : List Int32) : (HP c r).set 125 (.inr (0, .inl l)) = HP c (sA r 9 l) := rfl
set_option maxHeartbeats 4000000 in
set_option maxRecDepth 100000 in
theorem sa_126 (c r : St) (l : List Int32) : (HP c r).set 126 (.inr (1, .inl l)) = HP c (sA r 10 l) := rfl
set_option maxHeartbeats 4000000 in
set_option maxRecDepth 100000 in
theorem sa_127 (c r : St) (l : List Int32) : (HP c r).set 127 (.inr (1, .inl l)) = HP c (sA r 11 l) := rfl
set_option maxHeartbeats 4000000 in
set_option maxRecDepth 100000 in
theorem sa_128 (c r : St) (l : List Int32) : (HP c r).set 128 (.inr (0, .inl l)) = HP c (sA r 12 l) := rfl
set_option maxHeartbeats 4000000 in
set_option maxRecDepth 100000 in
theorem sa_129 (c r : St) (l : List Int32) : (HP c r).set 129 (.inr (0, .inl l)) = HP c (sA r 13 l) := rfl
set_option maxHeartbeats 4000000 in
set_option maxRecDepth 100000 in
theorem sa_130 (c r : St) (l : List Int32) : (HP c r).set 130 (.inr (0, .inl l)) = HP c (sA r 14 l) := rfl
set_option maxHeartbeats 4000000 in
set_option maxRecDepth 100000 in
theorem sa_131 (c r : St) (l : List Int32) : (HP c r).set 131 (.inr (0, .inl l)) = HP c (sA r 15 l) := rfl
set_option maxHeartbeats 4000000 in
set_option maxRecDepth 100000 in
theorem sa_132 (c r : St) (l : List Int32) : (HP c r).set 132 (.inr (0, .inl l)) = HP c (sA r 16 l) := rfl
set_option maxHeartbeats 4000000 in
set_option maxRecDepth 100000 in
theorem sa_133 (c r : St) (l : List Int32) : (HP c r).set 133 (.inr (0, .inl l)) = HP c (sA r 17 l) := rfl
set_option maxHeartbeats 4000000 in
set_option maxRecDepth 100000 in
theorem sa_134 (c r : St) (l : List Int32) : (HP c r).set 134 (.inr (0, .inl l)) = HP c (sA r 18 l) := rfl
set_option maxHeartbeats 4000000 in
set_option maxRecDepth 100000 in
theorem sa_135 (c r : St) (l : List Int32) : (HP c r).set 135 (.inr (0, .inl l)) = HP c (sA r 19 l) := rfl
set_option maxHeartbeats 4000000 in
set_option maxRecDepth 100000 in
theorem sa_136 (c r : St) (l : List Int32) : (HP c r).set 136 (.inr (0, .inl l)) = HP c (sA r 20 l) := rfl
set_option maxHeartbeats 4000000 in
set_option maxRecDepth 100000 in
theorem sa_137 (c r : St) (l : List Int32) : (HP c r).set 137 (.inr (0, .inl l)) = HP c (sA r 21 l) := rfl
set_option maxHeartbeats 4000000 in
set_option maxRecDepth 100000 in
theorem sa_138 (c r : St) (l : List Int32) : (HP c r).set 138 (.inr (0, .inl l)) = HP c (sA r 22 l) := rfl
set_option maxHeartbeats 4000000 in
set_option maxRecDepth 100000 in
theorem sa_139 (c r : St) (l : List Int32) : (HP c r).set 139 (.inr (0, .inl l)) = HP c (sA r 23 l) := rfl
set_option maxHeartbeats 4000000 in
set_option maxRecDepth 100000 in
theorem sa_140 (c r : St) (l : List Int32) : (HP c r).set 140 (.inr (0, .inl l)) = HP c (sA r 24 l) := rfl
set_option maxHeartbeats 4000000 in
set_option maxRecDepth 100000 in
theorem sa_141 (c r : St) (l : List Int32) : (HP c r).set 141 (.inr (0, .inl l)) = HP c (sA r 25 l) := rfl
set_option maxHeartbeats 4000000 in
set_option maxRecDepth 100000 in
theorem sa_142 (c r : St) (l : List Int32) : (HP c r).set 142 (.inr (0, .inl l)) = HP c (sA r 26 l) := rfl
set_option maxHeartbeats 4000000 in
set_option maxRecDepth 100000 in
theorem sa_143 (c r : St) (l : List Int32) : (HP c r).set 143 (.inr (0, .inl l)) = HP c (sA r 27 l) := rfl
set_option maxHeartbeats 4000000 in
set_option maxRecDepth 100000 in
theorem sa_144 (c r : St) (l : List Int32) : (HP c r).set 144 (.inr (0, .inl l)) = HP c (sA r 28 l) := rfl
set_option maxHeartbeats 4000000 in
set_option maxRecDepth 100000 in
theorem sa_145 (c r : St) (l : List Int32) : (HP c r).set 145 (.inr (0, .inl l)) = HP c (sA r 29 l) := rfl
set_option maxHeartbeats 4000000 in
set_option maxRecDepth 100000 in
theorem sa_146 (c r : St) (l : List Int32) : (HP c r).set 146 (.inr (0, .inl l)) = HP c (sA r 30 l) := rfl
set_option maxHeartbeats 4000000 in
set_option maxRecDepth 100000 in
theorem sa_147 (c r : St) (l : List Int32) : (HP c r).set 147 (.inr (0, .inl l)) = HP c (sA r 31 l) := rfl
set_option maxHeartbeats 4000000 in
set_option maxRecDepth 100000 in
theorem sa_148 (c r : St) (l : List Int64) : (HP c r).set 148 (.inr (3, .inr (.inl l))) = HP c (sB r 0 l) := rfl
set_option maxHeartbeats 4000000 in
set_option maxRecDepth 100000 in
theorem sa_149 (c r : St) (l : List Int64) : (HP c r).set 149 (.inr (3, .inr (.inl l))) = HP c (sB r 1 l) := rfl
set_option maxHeartbeats 4000000 in
set_option maxRecDepth 100000 in
theorem sa_150 (c r : St) (l : List Int32) : (HP c r).set 150 (.inr (0, .inl l)) = HP c (sA r 32 l) := rfl
set_option maxHeartbeats 4000000 in
set_option maxRecDepth 100000 in
theorem sa_151 (c r : St) (l : List Int32) : (HP c r).set 151 (.inr (0, .inl l)) = HP c (sA r 33 l) := rfl
set_option maxHeartbeats 4000000 in
set_option maxRecDepth 100000 in
theorem sa_152 (c r : St) (l : List Int32) : (HP c r).set 152 (.inr (0, .inl l)) = HP c (sA r 34 l) := rfl
set_option maxHeartbeats 4000000 in
set_option maxRecDepth 100000 in
theorem sa_153 (c r : St) (l : List Int32) : (HP c r).set 153 (.inr (0, .inl l)) = HP c (sA r 35 l) := rfl
set_option maxHeartbeats 4000000 in
set_option maxRecDepth 100000 in
theorem sa_154 (c r : St) (l : List Int32) : (HP c r).set 154 (.inr (0, .inl l)) = HP c (sA r 36 l) := rfl
set_option maxHeartbeats 4000000 in
set_option maxRecDepth 100000 in
theorem sa_155 (c r : St) (l : List Int32) : (HP c r).set 155 (.inr (0, .inl l)) = HP c (sA r 37 l) := rfl
set_option maxHeartbeats 4000000 in
set_option maxRecDepth 100000 in
theorem sa_156 (c r : St) (l : List Int32) : (HP c r).set 156 (.inr (0, .inl l)) = HP c (sA r 38 l) := rfl
set_option maxHeartbeats 4000000 in
set_option maxRecDepth 100000 in
theorem sa_157 (c r : St) (l : List Int32) : (HP c r).set 157 (.inr (0, .inl l)) = HP c (sA r 39 l) := rfl
theorem rows_19 {i : Nat} (h : i < 20) : AR (20 + i) (14 + i) := (mAllS (mAllS (mAllS (mAllS (mAllS (mAllS (mAllS (mAllS (mAllS (mAllS (mAllS (mAllS (mAllS (mAllS (mAllS (mAllS (mAllS (mAllS (mAllS (mAllS (mAll0) ar_20) ar_21) ar_22) ar_23) ar_24) ar_25) ar_26) ar_27) ar_28) ar_29) ar_30) ar_31) ar_32) ar_33) ar_34) ar_35) ar_36) ar_37) ar_38) ar_39 : ∀ y, 0 ≤ y → y < 20 → AR (20 + y) (14 + y)) i (Nat.zero_le _) h
theorem rowl_19 (j : Nat) (h : j < 20) : ([some 20, some 21, some 22, some 23, some 24, some 25, some 26, some 27, some 28, some 29, some 30, some 31, some 32, some 33, some 34, some 35, some 36, some 37, some 38, some 39] : List (Option Nat))[j]? = some (some (20 + j)) := by
  have key : ∀ q : Fin 20, ([some 20, some 21, some 22, some 23, some 24, some 25, some 26, some 27, some 28, some 29, some 30, some 31, some 32, some 33, some 34, some 35, some 36, some 37, some 38, some 39] : List (Option Nat))[q.val]? = some (some (20 + q.val)) := by decide
  exact key ⟨j, h⟩
theorem rows_42 {i : Nat} (h : i < 12) : AR (43 + i) (35 + i) := (mAllS (mAllS (mAllS (mAllS (mAllS (mAllS (mAllS (mAllS (mAllS (mAllS (mAllS (mAllS (mAll0) ar_43) ar_44) ar_45) ar_46) ar_47) ar_48) ar_49) ar_50) ar_51) ar_52) ar_53) ar_54 : ∀ y, 0 ≤ y → y < 12 → AR (43 + y) (35 + y)) i (Nat.zero_le _) h
theorem rowl_42 (j : Nat) (h : j < 12) : ([some 43, some 44, some 45, some 46, some 47, some 48, some 49, some 50, some 51, some 52, some 53, some 54] : List (Option Nat))[j]? = some (some (43 + j)) := by
  have key : ∀ q : Fin 12, ([some 43, some 44, some 45, some 46, some 47, some 48, some 49, some 50, some 51, some 52, some 53, some 54] : List (Option Nat))[q.val]? = some (some (43 + q.val)) := by decide
  exact key ⟨j, h⟩
theorem rows_69 {i : Nat} (h : i < 6) : AR (70 + i) (56 + i) := (mAllS (mAllS (mAllS (mAllS (mAllS (mAllS (mAll0) ar_70) ar_71) ar_72) ar_73) ar_74) ar_75 : ∀ y, 0 ≤ y → y < 6 → AR (70 + y) (56 + y)) i (Nat.zero_le _) h
theorem rowl_69 (j : Nat) (h : j < 6) : ([some 70, some 71, some 72, some 73, some 74, some 75] : List (Option Nat))[j]? = some (some (70 + j)) := by
  have key : ∀ q : Fin 6, ([some 70, some 71, some 72, some 73, some 74, some 75] : List (Option Nat))[q.val]? = some (some (70 + q.val)) := by decide
  exact key ⟨j, h⟩
theorem rows_89 {i : Nat} (h : i < 8) : AR (90 + i) (73 + i) := (mAllS (mAllS (mAllS (mAllS (mAllS (mAllS (mAllS (mAllS (mAll0) ar_90) ar_91) ar_92) ar_93) ar_94) ar_95) ar_96) ar_97 : ∀ y, 0 ≤ y → y < 8 → AR (90 + y) (73 + y)) i (Nat.zero_le _) h
theorem rowl_89 (j : Nat) (h : j < 8) : ([some 90, some 91, some 92, some 93, some 94, some 95, some 96, some 97] : List (Option Nat))[j]? = some (some (90 + j)) := by
  have key : ∀ q : Fin 8, ([some 90, some 91, some 92, some 93, some 94, some 95, some 96, some 97] : List (Option Nat))[q.val]? = some (some (90 + q.val)) := by decide
  exact key ⟨j, h⟩
theorem rows_105 {i : Nat} (h : i < 8) : AR (106 + i) (86 + i) := (mAllS (mAllS (mAllS (mAllS (mAllS (mAllS (mAllS (mAllS (mAll0) ar_106) ar_107) ar_108) ar_109) ar_110) ar_111) ar_112) ar_113 : ∀ y, 0 ≤ y → y < 8 → AR (106 + y) (86 + y)) i (Nat.zero_le _) h
theorem rowl_105 (j : Nat) (h : j < 8) : ([some 106, some 107, some 108, some 109, some 110, some 111, some 112, some 113] : List (Option Nat))[j]? = some (some (106 + j)) := by
  have key : ∀ q : Fin 8, ([some 106, some 107, some 108, some 109, some 110, some 111, some 112, some 113] : List (Option Nat))[q.val]? = some (some (106 + q.val)) := by decide
  exact key ⟨j, h⟩
