/-! the lists of part 03 against the machine's own decoding and the tables' words -/
def mT (ci j : Nat) : String × String × String × Bool := ((vwCl[ci]?).map fun q => q.2.1 j).getD ("", "", "", false)
def mNf (ci : Nat) : Nat := ((vwCl[ci]?).map fun q => q.2.2).getD 0
def mOwn (k : Nat) : String := mOwns[k]?.getD ""
def mMeth (y : Nat) : mQ := mMt[y]?.getD (⟨"", "", ""⟩, ⟨#[]⟩, 0, none, 0, 0, 0, 0, false)
def mTab (y : Nat) : List (Option mI) := mTabs[y]?.getD []
def mFk (d : String) : Option Nat := match parseFieldDescriptor d with
  | some .int => some 0
  | some .boolean => some 1
  | some .long => some 2
  | some (.array _) => some 3
  | some (.object _) => some 3
  | _ => none
def mAk (t : ArrayType) : Nat := match t with
  | .int => 0
  | .byte => 1
  | .boolean => 2
  | .long => 3
  | _ => 9
def mSwOk (pc : Int) (lo : Int) (k : Nat) (os : List Int) (sw : List (Int32 × Nat)) : Bool := match os, sw with
  | [], [] => true
  | x :: os', q :: sw' => decide (Int32.ofInt (lo + k) = q.1) && decide (pc + x = (q.2 : Int)) && mSwOk pc lo (k + 1) os' sw'
  | _, _ => false
def mLkOk (pc : Int) (ps : List (Int × Int)) (sw : List (Int32 × Nat)) : Bool := match ps, sw with
  | [], [] => true
  | x :: ps', q :: sw' => decide (Int32.ofInt x.1 = q.1) && decide (pc + x.2 = (q.2 : Int)) && decide (q.1.toInt = x.1) && mLkOk pc ps' sw'
  | _, _ => false
def mOk (own : Nat) (ini : Bool) (pc : Nat) (i : mI) : Bool := match i with
  | (ins, len, a1, a2, a3, v32, v64, sw) => match ins with
    | .iload_n k | .aload_n k | .lload_n k | .istore_n k | .astore_n k | .lstore_n k => Nat.beq k.val a1
    | .iload k | .lload k | .istore k | .lstore k => Nat.beq k a1
    | .iinc k n => Nat.beq k a1 && decide (Int32.ofInt n = v32)
    | .iconst n => decide (Int32.ofInt n = v32)
    | .bipush n => decide ((Int8.ofInt n).toInt32 = v32)
    | .sipush n => decide ((Int16.ofInt n).toInt32 = v32)
    | .lconst n => decide (Int64.ofNat n.val = v64)
    | .ldc x | .ldc_w x => mCI.any fun e => Nat.beq e.1 own && Nat.beq e.2.1 x && decide (e.2.2.1 = v32)
    | .ldc2_w x => mCJ.any fun e => Nat.beq e.1 own && Nat.beq e.2.1 x && decide (e.2.2.1 = v64)
    | .goto off | .if_icmp _ off | .ifCond _ off => decide ((pc : Int) + off = (a1 : Int))
    | .tableswitch d lo hi os => decide ((pc : Int) + d = (a1 : Int)) && decide (hi = lo + os.size - 1) && decide (-2147483648 ≤ lo ∧ hi ≤ 2147483647) && mSwOk pc lo 0 os.toList sw
    | .lookupswitch d ps => decide ((pc : Int) + d = (a1 : Int)) && mLkOk pc ps.toList sw && (ps.toList.zip (ps.toList.drop 1)).all (fun (a, next) => a.1 < next.1)
    | .getfield x => mFL.any fun e => Nat.beq e.1 own && Nat.beq e.2.1 x && Nat.beq e.2.2.1 a1 && Nat.beq e.2.2.2.1 a2
    | .putfield x => (mFL.any fun e => Nat.beq e.1 own && Nat.beq e.2.1 x && Nat.beq e.2.2.1 a1 && Nat.beq e.2.2.2.1 a2) && decide (mFk (mT a1 a2).2.2.1 = some a3) && (!(mT a1 a2).2.2.2 || (ini && decide ((mT a1 a2).1 = mOwn own)))
    | .getstatic x => mSL.any fun e => Nat.beq e.1 own && Nat.beq e.2.1 x && Nat.beq e.2.2.1 a1
    | .new x => (mNL.any fun e => Nat.beq e.1 own && Nat.beq e.2.1 x && Nat.beq e.2.2.1 a1) && Nat.beq a2 (mNf a1)
    | .newarray t => Nat.beq (mAk t) a1 && Nat.ble a1 3
    | .multianewarray x d => (mAL.any fun e => Nat.beq e.1 own && Nat.beq e.2.1 x) && Nat.beq d 2
    | .invokespecial x => bif Nat.beq a3 1 then (mOL.any fun e => Nat.beq e.1 own && Nat.beq e.2.1 x) else (mML.any fun e => Nat.beq e.1 own && Nat.beq e.2.1 x && Nat.beq e.2.2.1 a1) && Nat.beq (mMeth a1).2.2.2.2.2.2.1 a2 && !(mMeth a1).2.2.2.2.2.2.2.2 && decide ((mMeth a1).1.name = "<init>") && decide ((mMeth a1).2.2.2.1 = none)
    | .invokevirtual x => (mML.any fun e => Nat.beq e.1 own && Nat.beq e.2.1 x && Nat.beq e.2.2.1 a1) && Nat.beq (mMeth a1).2.2.2.2.2.2.1 a2 && !(mMeth a1).2.2.2.2.2.2.2.2 && Nat.beq (mMeth a1).2.2.2.2.1 a3 && !decide ((mMeth a1).1.name = "<init>") && Nat.blt a3 13
    | .invokestatic x => bif Nat.beq a3 1 then (mPL.any fun e => Nat.beq e.1 own && Nat.beq e.2.1 x) else (mML.any fun e => Nat.beq e.1 own && Nat.beq e.2.1 x && Nat.beq e.2.2.1 a1) && Nat.beq (mMeth a1).2.2.2.2.2.2.1 a2 && (mMeth a1).2.2.2.2.2.2.2.2
    | _ => true
def mChk (own : Nat) (ini : Bool) (code : ByteArray) : Nat → List (Option mI) → Bool
  | _, [] => true
  | pc, none :: t => mChk own ini code (pc + 1) t
  | pc, some i :: t => decide (decode code pc = .ok (i.1, i.2.1)) && mOk own ini pc i && mChk own ini code (pc + 1) t
theorem mChk_app {own : Nat} {ini : Bool} {code : ByteArray} : ∀ (a b : List (Option mI)) (pc : Nat), mChk own ini code pc a = true → mChk own ini code (pc + a.length) b = true → mChk own ini code pc (a ++ b) = true := by
  intro a
  induction a with
  | nil => intro b pc _ h; simpa using h
  | cons x t ih =>
    intro b pc h1 h2
    cases x with
    | none =>
      simp only [mChk, List.cons_append] at h1 ⊢
      exact ih b (pc + 1) h1 (by simpa [Nat.add_assoc, Nat.add_comm 1] using h2)
    | some i =>
      simp only [mChk, List.cons_append, Bool.and_eq_true] at h1 ⊢
      exact ⟨h1.1, ih b (pc + 1) h1.2 (by simpa [Nat.add_assoc, Nat.add_comm 1] using h2)⟩
theorem mChk_get {own : Nat} {ini : Bool} {code : ByteArray} : ∀ (a : List (Option mI)) (pc k : Nat) (i : mI), mChk own ini code pc a = true → a[k]? = some (some i) → decode code (pc + k) = .ok (i.1, i.2.1) ∧ mOk own ini (pc + k) i = true := by
  intro a
  induction a with
  | nil => intro pc k i _ h; simp at h
  | cons x t ih =>
    intro pc k i h1 h2
    cases k with
    | zero =>
      simp at h2
      subst h2
      simp only [mChk, Bool.and_eq_true, decide_eq_true_eq] at h1
      exact h1.1
    | succ k =>
      simp only [List.getElem?_cons_succ] at h2
      rw [show pc + (k + 1) = pc + 1 + k by omega]
      cases x with
      | none => exact ih (pc + 1) k i h1 h2
      | some j =>
        simp only [mChk, Bool.and_eq_true] at h1
        exact ih (pc + 1) k i h1.2 h2

theorem mc0 : mChk 0 true cX0_init 0 mK0 = true := by decide +kernel
theorem mc1 : mChk 0 false cX0_takeFrom 0 mK1 = true := by decide +kernel
theorem mc2 : mChk 0 false cX0_pass 0 mK2 = true := by decide +kernel
theorem mc3 : mChk 0 false cX0_firstAbove 0 mK3 = true := by decide +kernel
theorem mc4 : mChk 1 true cX1_init 0 mK4 = true := by decide +kernel
theorem mc5 : mChk 1 false cX1_add 0 mK5 = true := by decide +kernel
theorem mc6 : mChk 1 false cX1_bestFor 0 mK6 = true := by decide +kernel
theorem mc7 : mChk 1 false cX1_isBetter 0 mK7 = true := by decide +kernel
theorem mc8 : mChk 1 false cX1_costOf 0 mK8 = true := by decide +kernel
theorem mc9 : mChk 1 false cX1_worstOf 0 mK9 = true := by decide +kernel
theorem mc10 : mChk 1 false cX1_givenIn 0 mK10 = true := by decide +kernel
theorem mc11 : mChk 1 false cX1_mixed 0 mK11 = true := by decide +kernel
theorem mc12 : mChk 2 true cX2_init 0 mK12 = true := by decide +kernel
theorem mc13 : mChk 2 false cX2_add 0 mK13 = true := by decide +kernel
theorem mc14 : mChk 2 false cX2_goesOf 0 mK14 = true := by decide +kernel
theorem mc15 : mChk 2 false cX2_comesOf 0 mK15 = true := by decide +kernel
theorem mc16 : mChk 2 false cX2_driveBest 0 mK16 = true := by decide +kernel
theorem mc17 : mChk 2 false cX2_mostOf 0 mK17 = true := by decide +kernel
theorem mc18_0 : mChk 2 false cX2_send 0 mK18_0 = true := by decide +kernel
theorem mc18_1 : mChk 2 false cX2_send 120 mK18_1 = true := by decide +kernel
set_option maxHeartbeats 4000000 in
set_option maxRecDepth 100000 in
theorem mc18 : mChk 2 false cX2_send 0 mK18 = true := mChk_app _ _ _ mc18_0 (mc18_1)
theorem mc19 : mChk 2 false cX2_mixed 0 mK19 = true := by decide +kernel
theorem mc20 : mChk 3 true cX3_init 0 mK20 = true := by decide +kernel
theorem mc21 : mChk 3 false cX3_isOne 0 mK21 = true := by decide +kernel
theorem mc22 : mChk 3 false cX3_add 0 mK22 = true := by decide +kernel
theorem mc23 : mChk 3 false cX3_fallenAt 0 mK23 = true := by decide +kernel
theorem mc24 : mChk 3 false cX3_fallenAfter 0 mK24 = true := by decide +kernel
theorem mc25 : mChk 3 false cX3_left 0 mK25 = true := by decide +kernel
theorem mc26 : mChk 3 false cX3_leastPrice 0 mK26 = true := by decide +kernel
theorem mc27 : mChk 3 false cX3_mixed 0 mK27 = true := by decide +kernel
theorem mc28 : mChk 4 true cX4_init 0 mK28 = true := by decide +kernel
theorem mc29 : mChk 4 false cX4_addLeg 0 mK29 = true := by decide +kernel
theorem mc30 : mChk 4 false cX4_allHours 0 mK30 = true := by decide +kernel
theorem mc31 : mChk 4 false cX4_seaOf 0 mK31 = true := by decide +kernel
theorem mc32 : mChk 4 false cX4_nextWarmth 0 mK32 = true := by decide +kernel
theorem mc33 : mChk 4 false cX4_pull 0 mK33 = true := by decide +kernel
theorem mc34 : mChk 4 false cX4_mixed 0 mK34 = true := by decide +kernel
theorem mc35 : mChk 5 true cX5_init 0 mK35 = true := by decide +kernel
theorem mc36 : mChk 5 false cX5_isKind 0 mK36 = true := by decide +kernel
theorem mc37 : mChk 5 false cX5_isSuch 0 mK37 = true := by decide +kernel
theorem mc38 : mChk 5 false cX5_isOne 0 mK38 = true := by decide +kernel
theorem mc39 : mChk 5 false cX5_add 0 mK39 = true := by decide +kernel
theorem mc40 : mChk 5 false cX5_spoilIn 0 mK40 = true := by decide +kernel
theorem mc41 : mChk 5 false cX5_noteStates 0 mK41 = true := by decide +kernel
theorem mc42 : mChk 5 false cX5_lostIn 0 mK42 = true := by decide +kernel
theorem mc43_0 : mChk 5 false cX5_tell 0 mK43_0 = true := by decide +kernel
theorem mc43_1 : mChk 5 false cX5_tell 120 mK43_1 = true := by decide +kernel
set_option maxHeartbeats 4000000 in
set_option maxRecDepth 100000 in
theorem mc43 : mChk 5 false cX5_tell 0 mK43 = true := mChk_app _ _ _ mc43_0 (mc43_1)
theorem mc44 : mChk 5 false cX5_stateFrom 0 mK44 = true := by decide +kernel
theorem mc45 : mChk 5 false cX5_spoils 0 mK45 = true := by decide +kernel
theorem mc46 : mChk 5 false cX5_carcassSpoils 0 mK46 = true := by decide +kernel
theorem mc47 : mChk 5 false cX5_worth 0 mK47 = true := by decide +kernel
theorem mc48 : mChk 6 true cX6_init 0 mK48 = true := by decide +kernel
theorem mc49 : mChk 6 false cX6_add 0 mK49 = true := by decide +kernel
theorem mc50 : mChk 6 false cX6_run 0 mK50 = true := by decide +kernel
theorem mc51 : mChk 6 false cX6_priceIn 0 mK51 = true := by decide +kernel
theorem mc52 : mChk 6 false cX6_shippedIn 0 mK52 = true := by decide +kernel
theorem mc53 : mChk 6 false cX6_sellersAt 0 mK53 = true := by decide +kernel
theorem mc54 : mChk 6 false cX6_loadOf 0 mK54 = true := by decide +kernel
theorem mc55 : mChk 6 false cX6_tell 0 mK55 = true := by decide +kernel
theorem mc56 : mChk 6 false cX6_turn 0 mK56 = true := by decide +kernel
theorem mc57 : mChk 6 false cX6_alike 0 mK57 = true := by decide +kernel
theorem mc58 : mChk 6 false cX6_mixed 0 mK58 = true := by decide +kernel
theorem mc59 : mChk 7 true cX7_init 0 mK59 = true := by decide +kernel
theorem mc60 : mChk 7 false cX7_add 0 mK60 = true := by decide +kernel
theorem mc61 : mChk 7 false cX7_isRead 0 mK61 = true := by decide +kernel
theorem mc62 : mChk 7 false cX7_agree 0 mK62 = true := by decide +kernel
theorem mc63 : mChk 7 false cX7_least 0 mK63 = true := by decide +kernel
theorem mc64 : mChk 7 false cX7_greatest 0 mK64 = true := by decide +kernel
theorem mc65 : mChk 7 false cX7_above 0 mK65 = true := by decide +kernel
theorem mc66 : mChk 7 false cX7_mixed 0 mK66 = true := by decide +kernel
theorem mc67 : mChk 8 true cX8_init 0 mK67 = true := by decide +kernel
theorem mc68 : mChk 8 false cX8_add 0 mK68 = true := by decide +kernel
theorem mc69 : mChk 8 false cX8_allSets 0 mK69 = true := by decide +kernel
theorem mc70 : mChk 8 false cX8_isIn 0 mK70 = true := by decide +kernel
theorem mc71 : mChk 8 false cX8_shipsOf 0 mK71 = true := by decide +kernel
theorem mc72 : mChk 8 false cX8_earned 0 mK72 = true := by decide +kernel
theorem mc73 : mChk 8 false cX8_holds 0 mK73 = true := by decide +kernel
theorem mc74 : mChk 8 false cX8_howManyHold 0 mK74 = true := by decide +kernel
theorem mc75 : mChk 8 false cX8_greatestThatHolds 0 mK75 = true := by decide +kernel
theorem mc76 : mChk 8 false cX8_mixed 0 mK76 = true := by decide +kernel
theorem mc77 : mChk 9 true cX9_init 0 mK77 = true := by decide +kernel
theorem mc78 : mChk 9 false cX9_add 0 mK78 = true := by decide +kernel
theorem mc79 : mChk 9 false cX9_stackOf 0 mK79 = true := by decide +kernel
theorem mc80 : mChk 9 false cX9_layBest 0 mK80 = true := by decide +kernel
theorem mc81_0 : mChk 9 false cX9_place 0 mK81_0 = true := by decide +kernel
theorem mc81_1 : mChk 9 false cX9_place 120 mK81_1 = true := by decide +kernel
set_option maxHeartbeats 4000000 in
set_option maxRecDepth 100000 in
theorem mc81 : mChk 9 false cX9_place 0 mK81 = true := mChk_app _ _ _ mc81_0 (mc81_1)
theorem mc82 : mChk 9 false cX9_dugFrom 0 mK82 = true := by decide +kernel
theorem mc83 : mChk 10 true cX10_init 0 mK83 = true := by decide +kernel
theorem mc84 : mChk 10 false cX10_lettersIn 0 mK84 = true := by decide +kernel
theorem mc85 : mChk 10 false cX10_code 0 mK85 = true := by decide +kernel
theorem mc86 : mChk 10 false cX10_append 0 mK86 = true := by decide +kernel
theorem mc87 : mChk 10 false cX10_scan 0 mK87 = true := by decide +kernel
theorem mc88 : mChk 10 false cX10_after 0 mK88 = true := by decide +kernel
theorem mc89 : mChk 10 false cX10_intoFactor 0 mK89 = true := by decide +kernel
theorem mc90 : mChk 10 false cX10_behindFactor 0 mK90 = true := by decide +kernel
theorem mc91 : mChk 10 false cX10_isDigit 0 mK91 = true := by decide +kernel
theorem mc92 : mChk 10 false cX10_letterNumber 0 mK92 = true := by decide +kernel
theorem mc93 : mChk 10 false cX10_isWhole 0 mK93 = true := by decide +kernel
theorem mc94 : mChk 10 false cX10_keepPage 0 mK94 = true := by decide +kernel
theorem mc95 : mChk 10 false cX10_lastOf 0 mK95 = true := by decide +kernel
theorem mc96 : mChk 10 false cX10_holds 0 mK96 = true := by decide +kernel
theorem mc97 : mChk 10 false cX10_valueOf 0 mK97 = true := by decide +kernel
theorem mc98_0 : mChk 10 false cX10_value 0 mK98_0 = true := by decide +kernel
theorem mc98_1 : mChk 10 false cX10_value 120 mK98_1 = true := by decide +kernel
theorem mc98_2 : mChk 10 false cX10_value 240 mK98_2 = true := by decide +kernel
set_option maxHeartbeats 4000000 in
set_option maxRecDepth 100000 in
theorem mc98 : mChk 10 false cX10_value 0 mK98 = true := mChk_app _ _ _ mc98_0 (mChk_app _ _ _ mc98_1 (mc98_2))
theorem mc99 : mChk 10 false cX10_begin 0 mK99 = true := by decide +kernel
theorem mc100 : mChk 10 false cX10_named 0 mK100 = true := by decide +kernel
theorem mc101_0 : mChk 11 true cX11_init 0 mK101_0 = true := by decide +kernel
theorem mc101_1 : mChk 11 true cX11_init 120 mK101_1 = true := by decide +kernel
set_option maxHeartbeats 4000000 in
set_option maxRecDepth 100000 in
theorem mc101 : mChk 11 true cX11_init 0 mK101 = true := mChk_app _ _ _ mc101_0 (mc101_1)
theorem mc102 : mChk 11 false cX11_within 0 mK102 = true := by decide +kernel
theorem mc103 : mChk 11 false cX11_isCell 0 mK103 = true := by decide +kernel
theorem mc104 : mChk 11 false cX11_isWarmth 0 mK104 = true := by decide +kernel
theorem mc105 : mChk 11 false cX11_change 0 mK105 = true := by decide +kernel
theorem mc106 : mChk 11 false cX11_mix 0 mK106 = true := by decide +kernel
theorem mc107 : mChk 11 false cX11_mixRow 0 mK107 = true := by decide +kernel
theorem mc108 : mChk 11 false cX11_leg 0 mK108 = true := by decide +kernel
theorem mc109 : mChk 11 false cX11_warm 0 mK109 = true := by decide +kernel
theorem mc110 : mChk 11 false cX11_warmth 0 mK110 = true := by decide +kernel
theorem mc111 : mChk 11 false cX11_outer 0 mK111 = true := by decide +kernel
theorem mc112 : mChk 11 false cX11_pipe 0 mK112 = true := by decide +kernel
theorem mc113 : mChk 11 false cX11_engine 0 mK113 = true := by decide +kernel
theorem mc114 : mChk 11 false cX11_breaks 0 mK114 = true := by decide +kernel
theorem mc115 : mChk 11 false cX11_sea 0 mK115 = true := by decide +kernel
theorem mc116_0 : mChk 11 false cX11_hours 0 mK116_0 = true := by decide +kernel
theorem mc116_1 : mChk 11 false cX11_hours 120 mK116_1 = true := by decide +kernel
set_option maxHeartbeats 4000000 in
set_option maxRecDepth 100000 in
theorem mc116 : mChk 11 false cX11_hours 0 mK116 = true := mChk_app _ _ _ mc116_0 (mc116_1)
theorem mc117_0 : mChk 11 false cX11_first 0 mK117_0 = true := by decide +kernel
theorem mc117_1 : mChk 11 false cX11_first 120 mK117_1 = true := by decide +kernel
set_option maxHeartbeats 4000000 in
set_option maxRecDepth 100000 in
theorem mc117 : mChk 11 false cX11_first 0 mK117 = true := mChk_app _ _ _ mc117_0 (mc117_1)
theorem mc118 : mChk 11 false cX11_lot 0 mK118 = true := by decide +kernel
theorem mc119 : mChk 11 false cX11_lay 0 mK119 = true := by decide +kernel
theorem mc120 : mChk 11 false cX11_about 0 mK120 = true := by decide +kernel
theorem mc121 : mChk 11 false cX11_as 0 mK121 = true := by decide +kernel
theorem mc122 : mChk 11 false cX11_letters 0 mK122 = true := by decide +kernel
theorem mc123 : mChk 11 false cX11_blank 0 mK123 = true := by decide +kernel
theorem mc124 : mChk 11 false cX11_fault 0 mK124 = true := by decide +kernel
theorem mc125 : mChk 11 false cX11_text 0 mK125 = true := by decide +kernel
theorem mc126 : mChk 11 false cX11_says 0 mK126 = true := by decide +kernel
theorem mc127 : mChk 11 false cX11_sum 0 mK127 = true := by decide +kernel
theorem mc128 : mChk 11 false cX11_sumOf 0 mK128 = true := by decide +kernel
theorem mc129 : mChk 11 false cX11_lost 0 mK129 = true := by decide +kernel
theorem mc130 : mChk 11 false cX11_way 0 mK130 = true := by decide +kernel
theorem mc131_0 : mChk 11 false cX11_lostGoing 0 mK131_0 = true := by decide +kernel
theorem mc131_1 : mChk 11 false cX11_lostGoing 120 mK131_1 = true := by decide +kernel
set_option maxHeartbeats 4000000 in
set_option maxRecDepth 100000 in
theorem mc131 : mChk 11 false cX11_lostGoing 0 mK131 = true := mChk_app _ _ _ mc131_0 (mc131_1)
theorem mc132 : mChk 11 false cX11_reading 0 mK132 = true := by decide +kernel
theorem mc133 : mChk 11 false cX11_rate 0 mK133 = true := by decide +kernel
theorem mc134 : mChk 11 false cX11_could 0 mK134 = true := by decide +kernel
theorem mc135 : mChk 11 false cX11_was 0 mK135 = true := by decide +kernel
theorem mc136 : mChk 11 false cX11_arrive 0 mK136 = true := by decide +kernel
theorem mc137 : mChk 11 false cX11_laid 0 mK137 = true := by decide +kernel
theorem mc138 : mChk 11 false cX11_flock 0 mK138 = true := by decide +kernel
theorem mc139 : mChk 11 false cX11_works 0 mK139 = true := by decide +kernel
theorem mc140 : mChk 11 false cX11_days 0 mK140 = true := by decide +kernel
theorem mc141 : mChk 11 false cX11_loss 0 mK141 = true := by decide +kernel
theorem mc142 : mChk 11 false cX11_driven 0 mK142 = true := by decide +kernel
theorem mc143 : mChk 11 false cX11_market 0 mK143 = true := by decide +kernel
theorem mc144 : mChk 11 false cX11_seller 0 mK144 = true := by decide +kernel
theorem mc145 : mChk 11 false cX11_week 0 mK145 = true := by decide +kernel
theorem mc146 : mChk 11 false cX11_turns 0 mK146 = true := by decide +kernel
theorem mc147 : mChk 11 false cX11_farm 0 mK147 = true := by decide +kernel
theorem mc148 : mChk 11 false cX11_owe 0 mK148 = true := by decide +kernel
theorem mc149 : mChk 11 false cX11_falls 0 mK149 = true := by decide +kernel
theorem mc150 : mChk 11 false cX11_safe 0 mK150 = true := by decide +kernel
theorem mc151 : mChk 11 false cX11_line 0 mK151 = true := by decide +kernel
theorem mc152 : mChk 11 false cX11_ring 0 mK152 = true := by decide +kernel
theorem mc153 : mChk 11 false cX11_earns 0 mK153 = true := by decide +kernel
theorem mc154 : mChk 11 false cX11_stable 0 mK154 = true := by decide +kernel
theorem mc155 : mChk 11 false cX11_choice 0 mK155 = true := by decide +kernel
theorem mc156 : mChk 11 false cX11_gives 0 mK156 = true := by decide +kernel
theorem mc157 : mChk 11 false cX11_plan 0 mK157 = true := by decide +kernel
theorem mc158 : mChk 11 false cX11_count 0 mK158 = true := by decide +kernel
theorem mc159_0 : mChk 11 false cX11_howMany 0 mK159_0 = true := by decide +kernel
theorem mc159_1 : mChk 11 false cX11_howMany 120 mK159_1 = true := by decide +kernel
set_option maxHeartbeats 4000000 in
set_option maxRecDepth 100000 in
theorem mc159 : mChk 11 false cX11_howMany 0 mK159 = true := mChk_app _ _ _ mc159_0 (mc159_1)
theorem mc160_0 : mChk 11 false cX11_digest 0 mK160_0 = true := by decide +kernel
theorem mc160_1 : mChk 11 false cX11_digest 120 mK160_1 = true := by decide +kernel
set_option maxHeartbeats 4000000 in
set_option maxRecDepth 100000 in
theorem mc160 : mChk 11 false cX11_digest 0 mK160 = true := mChk_app _ _ _ mc160_0 (mc160_1)
theorem mc161 : mChk 11 false cX11_mixLots 0 mK161 = true := by decide +kernel
theorem mc162 : mChk 11 false cX11_mixSums 0 mK162 = true := by decide +kernel
theorem mc163_0 : mChk 12 true cX12_init 0 mK163_0 = true := by decide +kernel
theorem mc163_1 : mChk 12 true cX12_init 120 mK163_1 = true := by decide +kernel
theorem mc163_2 : mChk 12 true cX12_init 240 mK163_2 = true := by decide +kernel
theorem mc163_3 : mChk 12 true cX12_init 360 mK163_3 = true := by decide +kernel
set_option maxHeartbeats 4000000 in
set_option maxRecDepth 100000 in
theorem mc163 : mChk 12 true cX12_init 0 mK163 = true := mChk_app _ _ _ mc163_0 (mChk_app _ _ _ mc163_1 (mChk_app _ _ _ mc163_2 (mc163_3)))
theorem mc164 : mChk 12 false cX12_in 0 mK164 = true := by decide +kernel
theorem mc165 : mChk 12 false cX12_isCell 0 mK165 = true := by decide +kernel
theorem mc166 : mChk 12 false cX12_floorBy 0 mK166 = true := by decide +kernel
theorem mc167 : mChk 12 false cX12_leg 0 mK167 = true := by decide +kernel
theorem mc168 : mChk 12 false cX12_warm 0 mK168 = true := by decide +kernel
theorem mc169 : mChk 12 false cX12_warmth 0 mK169 = true := by decide +kernel
theorem mc170 : mChk 12 false cX12_outer 0 mK170 = true := by decide +kernel
theorem mc171 : mChk 12 false cX12_pipe 0 mK171 = true := by decide +kernel
theorem mc172_0 : mChk 12 false cX12_engine 0 mK172_0 = true := by decide +kernel
theorem mc172_1 : mChk 12 false cX12_engine 120 mK172_1 = true := by decide +kernel
set_option maxHeartbeats 4000000 in
set_option maxRecDepth 100000 in
theorem mc172 : mChk 12 false cX12_engine 0 mK172 = true := mChk_app _ _ _ mc172_0 (mc172_1)
theorem mc173 : mChk 12 false cX12_breaks 0 mK173 = true := by decide +kernel
theorem mc174 : mChk 12 false cX12_seaOf 0 mK174 = true := by decide +kernel
theorem mc175 : mChk 12 false cX12_sea 0 mK175 = true := by decide +kernel
theorem mc176 : mChk 12 false cX12_startAsNow 0 mK176 = true := by decide +kernel
theorem mc177 : mChk 12 false cX12_besides 0 mK177 = true := by decide +kernel
theorem mc178_0 : mChk 12 false cX12_anHour 0 mK178_0 = true := by decide +kernel
theorem mc178_1 : mChk 12 false cX12_anHour 120 mK178_1 = true := by decide +kernel
set_option maxHeartbeats 4000000 in
set_option maxRecDepth 100000 in
theorem mc178 : mChk 12 false cX12_anHour 0 mK178 = true := mChk_app _ _ _ mc178_0 (mc178_1)
theorem mc179 : mChk 12 false cX12_spoils 0 mK179 = true := by decide +kernel
theorem mc180 : mChk 12 false cX12_stateOf 0 mK180 = true := by decide +kernel
theorem mc181_0 : mChk 12 false cX12_hours 0 mK181_0 = true := by decide +kernel
theorem mc181_1 : mChk 12 false cX12_hours 120 mK181_1 = true := by decide +kernel
set_option maxHeartbeats 4000000 in
set_option maxRecDepth 100000 in
theorem mc181 : mChk 12 false cX12_hours 0 mK181 = true := mChk_app _ _ _ mc181_0 (mc181_1)
theorem mc182 : mChk 12 false cX12_above 0 mK182 = true := by decide +kernel
theorem mc183 : mChk 12 false cX12_first 0 mK183 = true := by decide +kernel
theorem mc184 : mChk 12 false cX12_isLot 0 mK184 = true := by decide +kernel
theorem mc185_0 : mChk 12 false cX12_lot 0 mK185_0 = true := by decide +kernel
theorem mc185_1 : mChk 12 false cX12_lot 120 mK185_1 = true := by decide +kernel
set_option maxHeartbeats 4000000 in
set_option maxRecDepth 100000 in
theorem mc185 : mChk 12 false cX12_lot 0 mK185 = true := mChk_app _ _ _ mc185_0 (mc185_1)
theorem mc186 : mChk 12 false cX12_lay 0 mK186 = true := by decide +kernel
theorem mc187 : mChk 12 false cX12_worthOf 0 mK187 = true := by decide +kernel
theorem mc188 : mChk 12 false cX12_aboutOf 0 mK188 = true := by decide +kernel
theorem mc189 : mChk 12 false cX12_about 0 mK189 = true := by decide +kernel
theorem mc190 : mChk 12 false cX12_as 0 mK190 = true := by decide +kernel
theorem mc191_0 : mChk 12 false cX12_letters 0 mK191_0 = true := by decide +kernel
theorem mc191_1 : mChk 12 false cX12_letters 120 mK191_1 = true := by decide +kernel
set_option maxHeartbeats 4000000 in
set_option maxRecDepth 100000 in
theorem mc191 : mChk 12 false cX12_letters 0 mK191 = true := mChk_app _ _ _ mc191_0 (mc191_1)
theorem mc192 : mChk 12 false cX12_blank 0 mK192 = true := by decide +kernel
theorem mc193 : mChk 12 false cX12_isMark 0 mK193 = true := by decide +kernel
theorem mc194_0 : mChk 12 false cX12_readText 0 mK194_0 = true := by decide +kernel
theorem mc194_1 : mChk 12 false cX12_readText 120 mK194_1 = true := by decide +kernel
theorem mc194_2 : mChk 12 false cX12_readText 240 mK194_2 = true := by decide +kernel
set_option maxHeartbeats 4000000 in
set_option maxRecDepth 100000 in
theorem mc194 : mChk 12 false cX12_readText 0 mK194 = true := mChk_app _ _ _ mc194_0 (mChk_app _ _ _ mc194_1 (mc194_2))
theorem mc195 : mChk 12 false cX12_fault 0 mK195 = true := by decide +kernel
theorem mc196 : mChk 12 false cX12_text 0 mK196 = true := by decide +kernel
theorem mc197 : mChk 12 false cX12_openSum 0 mK197 = true := by decide +kernel
theorem mc198 : mChk 12 false cX12_closeSum 0 mK198 = true := by decide +kernel
theorem mc199_0 : mChk 12 false cX12_sumFrom 0 mK199_0 = true := by decide +kernel
theorem mc199_1 : mChk 12 false cX12_sumFrom 120 mK199_1 = true := by decide +kernel
theorem mc199_2 : mChk 12 false cX12_sumFrom 240 mK199_2 = true := by decide +kernel
set_option maxHeartbeats 4000000 in
set_option maxRecDepth 100000 in
theorem mc199 : mChk 12 false cX12_sumFrom 0 mK199 = true := mChk_app _ _ _ mc199_0 (mChk_app _ _ _ mc199_1 (mc199_2))
theorem mc200 : mChk 12 false cX12_markOf 0 mK200 = true := by decide +kernel
theorem mc201 : mChk 12 false cX12_sumOf 0 mK201 = true := by decide +kernel
theorem mc202_0 : mChk 12 false cX12_says 0 mK202_0 = true := by decide +kernel
theorem mc202_1 : mChk 12 false cX12_says 120 mK202_1 = true := by decide +kernel
set_option maxHeartbeats 4000000 in
set_option maxRecDepth 100000 in
theorem mc202 : mChk 12 false cX12_says 0 mK202 = true := mChk_app _ _ _ mc202_0 (mc202_1)
theorem mc203 : mChk 12 false cX12_sum 0 mK203 = true := by decide +kernel
theorem mc204_0 : mChk 12 false cX12_lostBy 0 mK204_0 = true := by decide +kernel
theorem mc204_1 : mChk 12 false cX12_lostBy 120 mK204_1 = true := by decide +kernel
set_option maxHeartbeats 4000000 in
set_option maxRecDepth 100000 in
theorem mc204 : mChk 12 false cX12_lostBy 0 mK204 = true := mChk_app _ _ _ mc204_0 (mc204_1)
theorem mc205 : mChk 12 false cX12_lost 0 mK205 = true := by decide +kernel
theorem mc206 : mChk 12 false cX12_way 0 mK206 = true := by decide +kernel
theorem mc207 : mChk 12 false cX12_reading 0 mK207 = true := by decide +kernel
theorem mc208 : mChk 12 false cX12_rate 0 mK208 = true := by decide +kernel
theorem mc209 : mChk 12 false cX12_reach 0 mK209 = true := by decide +kernel
theorem mc210 : mChk 12 false cX12_couldBe 0 mK210 = true := by decide +kernel
theorem mc211 : mChk 12 false cX12_goTogether 0 mK211 = true := by decide +kernel
theorem mc212 : mChk 12 false cX12_could 0 mK212 = true := by decide +kernel
theorem mc213 : mChk 12 false cX12_was 0 mK213 = true := by decide +kernel
theorem mc214 : mChk 12 false cX12_arrive 0 mK214 = true := by decide +kernel
theorem mc215 : mChk 12 false cX12_ones 0 mK215 = true := by decide +kernel
theorem mc216 : mChk 12 false cX12_dugWith 0 mK216 = true := by decide +kernel
theorem mc217_0 : mChk 12 false cX12_seekLaid 0 mK217_0 = true := by decide +kernel
theorem mc217_1 : mChk 12 false cX12_seekLaid 120 mK217_1 = true := by decide +kernel
theorem mc217_2 : mChk 12 false cX12_seekLaid 240 mK217_2 = true := by decide +kernel
set_option maxHeartbeats 4000000 in
set_option maxRecDepth 100000 in
theorem mc217 : mChk 12 false cX12_seekLaid 0 mK217 = true := mChk_app _ _ _ mc217_0 (mChk_app _ _ _ mc217_1 (mc217_2))
theorem mc218 : mChk 12 false cX12_laid 0 mK218 = true := by decide +kernel
theorem mc219 : mChk 12 false cX12_isFlock 0 mK219 = true := by decide +kernel
theorem mc220 : mChk 12 false cX12_flock 0 mK220 = true := by decide +kernel
theorem mc221 : mChk 12 false cX12_works 0 mK221 = true := by decide +kernel
theorem mc222 : mChk 12 false cX12_days 0 mK222 = true := by decide +kernel
theorem mc223 : mChk 12 false cX12_loss 0 mK223 = true := by decide +kernel
theorem mc224 : mChk 12 false cX12_comesOf 0 mK224 = true := by decide +kernel
theorem mc225_0 : mChk 12 false cX12_seekDriven 0 mK225_0 = true := by decide +kernel
theorem mc225_1 : mChk 12 false cX12_seekDriven 120 mK225_1 = true := by decide +kernel
set_option maxHeartbeats 4000000 in
set_option maxRecDepth 100000 in
theorem mc225 : mChk 12 false cX12_seekDriven 0 mK225 = true := mChk_app _ _ _ mc225_0 (mc225_1)
theorem mc226 : mChk 12 false cX12_driven 0 mK226 = true := by decide +kernel
theorem mc227_0 : mChk 12 false cX12_market 0 mK227_0 = true := by decide +kernel
theorem mc227_1 : mChk 12 false cX12_market 120 mK227_1 = true := by decide +kernel
set_option maxHeartbeats 4000000 in
set_option maxRecDepth 100000 in
theorem mc227 : mChk 12 false cX12_market 0 mK227 = true := mChk_app _ _ _ mc227_0 (mc227_1)
theorem mc228 : mChk 12 false cX12_seller 0 mK228 = true := by decide +kernel
theorem mc229 : mChk 12 false cX12_priceAt 0 mK229 = true := by decide +kernel
theorem mc230 : mChk 12 false cX12_shippedAt 0 mK230 = true := by decide +kernel
theorem mc231 : mChk 12 false cX12_goWeeks 0 mK231 = true := by decide +kernel
theorem mc232_0 : mChk 12 false cX12_week 0 mK232_0 = true := by decide +kernel
theorem mc232_1 : mChk 12 false cX12_week 120 mK232_1 = true := by decide +kernel
set_option maxHeartbeats 4000000 in
set_option maxRecDepth 100000 in
theorem mc232 : mChk 12 false cX12_week 0 mK232 = true := mChk_app _ _ _ mc232_0 (mc232_1)
theorem mc233 : mChk 12 false cX12_isAgain 0 mK233 = true := by decide +kernel
theorem mc234 : mChk 12 false cX12_turns 0 mK234 = true := by decide +kernel
theorem mc235 : mChk 12 false cX12_farm 0 mK235 = true := by decide +kernel
theorem mc236 : mChk 12 false cX12_owe 0 mK236 = true := by decide +kernel
theorem mc237_0 : mChk 12 false cX12_fallenAt 0 mK237_0 = true := by decide +kernel
theorem mc237_1 : mChk 12 false cX12_fallenAt 120 mK237_1 = true := by decide +kernel
set_option maxHeartbeats 4000000 in
set_option maxRecDepth 100000 in
theorem mc237 : mChk 12 false cX12_fallenAt 0 mK237 = true := mChk_app _ _ _ mc237_0 (mc237_1)
theorem mc238 : mChk 12 false cX12_falls 0 mK238 = true := by decide +kernel
theorem mc239 : mChk 12 false cX12_safe 0 mK239 = true := by decide +kernel
theorem mc240 : mChk 12 false cX12_line 0 mK240 = true := by decide +kernel
theorem mc241_0 : mChk 12 false cX12_ring 0 mK241_0 = true := by decide +kernel
theorem mc241_1 : mChk 12 false cX12_ring 120 mK241_1 = true := by decide +kernel
set_option maxHeartbeats 4000000 in
set_option maxRecDepth 100000 in
theorem mc241 : mChk 12 false cX12_ring 0 mK241 = true := mChk_app _ _ _ mc241_0 (mc241_1)
theorem mc242 : mChk 12 false cX12_shipsIn 0 mK242 = true := by decide +kernel
theorem mc243 : mChk 12 false cX12_earnsOf 0 mK243 = true := by decide +kernel
theorem mc244 : mChk 12 false cX12_earns 0 mK244 = true := by decide +kernel
theorem mc245 : mChk 12 false cX12_isStable 0 mK245 = true := by decide +kernel
theorem mc246 : mChk 12 false cX12_stable 0 mK246 = true := by decide +kernel
theorem mc247 : mChk 12 false cX12_choice 0 mK247 = true := by decide +kernel
theorem mc248 : mChk 12 false cX12_gives 0 mK248 = true := by decide +kernel
theorem mc249 : mChk 12 false cX12_worstOf 0 mK249 = true := by decide +kernel
theorem mc250 : mChk 12 false cX12_costOf 0 mK250 = true := by decide +kernel
theorem mc251_0 : mChk 12 false cX12_plan 0 mK251_0 = true := by decide +kernel
theorem mc251_1 : mChk 12 false cX12_plan 120 mK251_1 = true := by decide +kernel
set_option maxHeartbeats 4000000 in
set_option maxRecDepth 100000 in
theorem mc251 : mChk 12 false cX12_plan 0 mK251 = true := mChk_app _ _ _ mc251_0 (mc251_1)
theorem mc252_0 : mChk 12 false cX12_countOf 0 mK252_0 = true := by decide +kernel
theorem mc252_1 : mChk 12 false cX12_countOf 120 mK252_1 = true := by decide +kernel
set_option maxHeartbeats 4000000 in
set_option maxRecDepth 100000 in
theorem mc252 : mChk 12 false cX12_countOf 0 mK252 = true := mChk_app _ _ _ mc252_0 (mc252_1)
theorem mc253 : mChk 12 false cX12_count 0 mK253 = true := by decide +kernel
theorem mc254 : mChk 12 false cX12_mix 0 mK254 = true := by decide +kernel
theorem mc255_0 : mChk 12 false cX12_mixHold 0 mK255_0 = true := by decide +kernel
theorem mc255_1 : mChk 12 false cX12_mixHold 120 mK255_1 = true := by decide +kernel
theorem mc255_2 : mChk 12 false cX12_mixHold 240 mK255_2 = true := by decide +kernel
set_option maxHeartbeats 4000000 in
set_option maxRecDepth 100000 in
theorem mc255 : mChk 12 false cX12_mixHold 0 mK255 = true := mChk_app _ _ _ mc255_0 (mChk_app _ _ _ mc255_1 (mc255_2))
theorem mc256_0 : mChk 12 false cX12_mixLand 0 mK256_0 = true := by decide +kernel
theorem mc256_1 : mChk 12 false cX12_mixLand 120 mK256_1 = true := by decide +kernel
theorem mc256_2 : mChk 12 false cX12_mixLand 240 mK256_2 = true := by decide +kernel
set_option maxHeartbeats 4000000 in
set_option maxRecDepth 100000 in
theorem mc256 : mChk 12 false cX12_mixLand 0 mK256 = true := mChk_app _ _ _ mc256_0 (mChk_app _ _ _ mc256_1 (mc256_2))
theorem mc257_0 : mChk 12 false cX12_digest 0 mK257_0 = true := by decide +kernel
theorem mc257_1 : mChk 12 false cX12_digest 120 mK257_1 = true := by decide +kernel
set_option maxHeartbeats 4000000 in
set_option maxRecDepth 100000 in
theorem mc257 : mChk 12 false cX12_digest 0 mK257 = true := mChk_app _ _ _ mc257_0 (mc257_1)
theorem mc258 : mChk 13 false cJ6_bitCount_0f7a4 0 mK258 = true := by decide +kernel
theorem mc259 : mChk 14 false cJ9_floorDiv_7cf53 0 mK259 = true := by decide +kernel
theorem mc260 : mChk 14 false cJ9_abs_0f7a4 0 mK260 = true := by decide +kernel
theorem mc261 : mChk 14 false cJ9_max_7cf53 0 mK261 = true := by decide +kernel
theorem mc262 : mChk 14 false cJ9_min_7cf53 0 mK262 = true := by decide +kernel
theorem mc263 : mChk 15 false cJ7_fill_53178 0 mK263 = true := by decide +kernel
theorem mc264_0 : mChk 16 false cL_law 0 mK264_0 = true := by decide +kernel
theorem mc264_1 : mChk 16 false cL_law 120 mK264_1 = true := by decide +kernel
theorem mc264_2 : mChk 16 false cL_law 240 mK264_2 = true := by decide +kernel
theorem mc264_3 : mChk 16 false cL_law 360 mK264_3 = true := by decide +kernel
theorem mc264_4 : mChk 16 false cL_law 480 mK264_4 = true := by decide +kernel
theorem mc264_5 : mChk 16 false cL_law 600 mK264_5 = true := by decide +kernel
theorem mc264_6 : mChk 16 false cL_law 720 mK264_6 = true := by decide +kernel
theorem mc264_7 : mChk 16 false cL_law 840 mK264_7 = true := by decide +kernel
theorem mc264_8 : mChk 16 false cL_law 960 mK264_8 = true := by decide +kernel
theorem mc264_9 : mChk 16 false cL_law 1080 mK264_9 = true := by decide +kernel
theorem mc264_10 : mChk 16 false cL_law 1200 mK264_10 = true := by decide +kernel
theorem mc264_11 : mChk 16 false cL_law 1320 mK264_11 = true := by decide +kernel
theorem mc264_12 : mChk 16 false cL_law 1440 mK264_12 = true := by decide +kernel
theorem mc264_13 : mChk 16 false cL_law 1560 mK264_13 = true := by decide +kernel
theorem mc264_14 : mChk 16 false cL_law 1680 mK264_14 = true := by decide +kernel
set_option maxHeartbeats 4000000 in
set_option maxRecDepth 100000 in
theorem mc264 : mChk 16 false cL_law 0 mK264 = true := mChk_app _ _ _ mc264_0 (mChk_app _ _ _ mc264_1 (mChk_app _ _ _ mc264_2 (mChk_app _ _ _ mc264_3 (mChk_app _ _ _ mc264_4 (mChk_app _ _ _ mc264_5 (mChk_app _ _ _ mc264_6 (mChk_app _ _ _ mc264_7 (mChk_app _ _ _ mc264_8 (mChk_app _ _ _ mc264_9 (mChk_app _ _ _ mc264_10 (mChk_app _ _ _ mc264_11 (mChk_app _ _ _ mc264_12 (mChk_app _ _ _ mc264_13 (mc264_14))))))))))))))
