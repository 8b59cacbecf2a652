/-! the links of part 03 are words of the tables; each method has its words there -/
def mCn (ci : Nat) : String := ((vwCl[ci]?).map fun q => q.1).getD ""
def mSn : List (String × String) := [("ColdHolds$Hold", "LEAST_SET"), ("ColdHolds$Hold", "MOST_SET"), ("ColdHolds$Market", "LEAST_SET"), ("ColdHolds$Market", "MOST_SET"), ("ColdHolds$Ring", "MOST_SET")]
def mIs (p : Nat) (w : Jvm.Cond) : Bool := decide (lw_tbl[p]? = some w)
theorem mIs_mem {p : Nat} {w : Jvm.Cond} (h : mIs p w = true) : w ∈ lw_tbl := List.mem_of_getElem? (of_decide_eq_true h)
def mBd (w : Jvm.Cond) : Bool := match w with
  | .methodLinkNest .. | .arrayOver _ | .laysStatic .. | .privateMethod _ => true
  | _ => false
theorem mGood : (lw_tbl.all fun w => goodWord w || mBd w) = true := by decide +kernel
/-- the words that stay good while tables warm -/
def mGw : List Jvm.Cond := lw_tbl.filter goodWord
theorem mGw_in {w : Jvm.Cond} (h : w ∈ lw_tbl) (hb : mBd w = false) : w ∈ mGw := List.mem_filter.mpr ⟨h, by
  have := List.all_eq_true.mp mGood w h
  rw [hb, Bool.or_false] at this
  exact this⟩
theorem mGw_good : GoodIn mGw mGw := fun w h => ⟨h, good_of_word (List.mem_filter.mp h).2⟩
def mLen (i : Instr) : Nat := match i with
  | .iload _ | .istore _ | .lload _ | .lstore _ | .aload _ | .astore _ | .bipush _ | .ldc _ | .newarray _ => 2
  | .sipush _ | .ldc_w _ | .ldc2_w _ | .iinc _ _ | .goto _ | .if_icmp _ _ | .ifCond _ _ | .getfield _ | .putfield _ | .getstatic _ | .new _ | .invokespecial _ | .invokestatic _ | .invokevirtual _ => 3
  | .multianewarray _ _ => 4
  | _ => 1
def mSwi (i : Instr) : Bool := match i with
  | .tableswitch _ _ _ _ | .lookupswitch _ _ => true
  | _ => false
theorem mLen_ok : (mTabs.all fun t => t.all fun o => match o with | none => true | some i => mSwi i.1 || Nat.beq i.2.1 (mLen i.1)) = true := by decide +kernel
theorem mFL_ok : (mFL.all fun e => mIs e.2.2.2.2 (.fieldLink (mOwn e.1) e.2.1 (mT e.2.2.1 e.2.2.2.1).1 (mT e.2.2.1 e.2.2.2.1).2.1 (mT e.2.2.1 e.2.2.2.1).2.2.1) && Nat.blt e.2.2.2.1 (mNf e.2.2.1) && Nat.blt e.2.2.1 13) = true := by decide +kernel
theorem mML_ok : (mML.all fun e => (bif Nat.beq e.2.2.2.1 0 then mIs e.2.2.2.2 (.methodLink (mOwn e.1) e.2.1 (mMeth e.2.2.1).1) else mIs e.2.2.2.2 (.methodLinkNest (mOwn e.1) e.2.1 (mMeth e.2.2.1).1 "ColdHolds")) && Nat.blt e.2.2.1 265) = true := by decide +kernel
theorem mCI_ok : (mCI.all fun e => mIs e.2.2.2 (.constant (mOwn e.1) e.2.1 e.2.2.1)) = true := by decide +kernel
theorem mCJ_ok : (mCJ.all fun e => mIs e.2.2.2 (.constantLong (mOwn e.1) e.2.1 e.2.2.1)) = true := by decide +kernel
theorem mNL_ok : (mNL.all fun e => mIs e.2.2.2 (.classLink (mOwn e.1) e.2.1 (mCn e.2.2.1)) && Nat.blt e.2.2.1 13) = true := by decide +kernel
theorem mSL_ok : (mSL.all fun e => mIs e.2.2.2 (.fieldLink (mOwn e.1) e.2.1 ((mSn[e.2.2.1]?).getD ("", "")).1 ((mSn[e.2.2.1]?).getD ("", "")).2 "[I") && Nat.blt e.2.2.1 5) = true := by decide +kernel
theorem mAL_ok : (mAL.all fun e => mIs e.2.2 (.classLink (mOwn e.1) e.2.1 "[[I")) = true := by decide +kernel
theorem mOL_ok : (mOL.all fun e => mIs e.2.2 (.methodLink (mOwn e.1) e.2.1 objectInit)) = true := by decide +kernel
theorem mPL_ok : (mPL.all fun e => mIs e.2.2 (.methodLink (mOwn e.1) e.2.1 arraycopyName)) = true := by decide +kernel
theorem mW_native : Jvm.Cond.native arraycopyName ∈ lw_tbl := mIs_mem (p := 557) (by decide +kernel)
theorem mW_cstat : Jvm.Cond.static arraycopyName ∈ lw_tbl := mIs_mem (p := 556) (by decide +kernel)
theorem mW_sys : Jvm.Cond.initialized "java/lang/System" ∈ lw_tbl := mIs_mem (p := 79) (by decide +kernel)
theorem mW_oinst : Jvm.Cond.instanceMethod objectInit ∈ lw_tbl := mIs_mem (p := 87) (by decide +kernel)
theorem mW_ocode : Jvm.Cond.code objectInit ⟨#[0xb1]⟩ 1 none ∈ lw_tbl := mIs_mem (p := 88) (by decide +kernel)
theorem mW_ai : Jvm.Cond.arrayClass .int ∈ lw_tbl := mIs_mem (p := 130) (by decide +kernel)
theorem mW_ab : Jvm.Cond.arrayClass .byte ∈ lw_tbl := mIs_mem (p := 1382) (by decide +kernel)
theorem mW_az : Jvm.Cond.arrayClass .boolean ∈ lw_tbl := mIs_mem (p := 1381) (by decide +kernel)
theorem mW_al : Jvm.Cond.arrayClass .long ∈ lw_tbl := mIs_mem (p := 244) (by decide +kernel)
theorem mW_ao : Jvm.Cond.arrayOver (.array .int) ∈ lw_tbl := mIs_mem (p := 163) (by decide +kernel)
def mCp : List (Nat × Nat) := [(132, 67), (422, 76), (301, 72), (375, 74), (90, 65), (157, 68), (348, 73), (246, 70), (401, 75), (267, 71), (185, 69), (82, 64), (1140, 77)]
theorem mCp_ok : ((List.range 13).all fun k => mIs ((mCp[k]?).getD (0, 0)).1 (.instantiable (mCn k) (mNf k)) && mIs ((mCp[k]?).getD (0, 0)).2 (.initialized (mCn k))) = true := by decide +kernel
def mPOk (y : Nat) (q : mQ) (p : Nat × Nat × Nat × Nat) : Bool := mIs p.2.2.2 (.initialized q.1.cls) && (bif q.2.2.2.2.2.2.2.2 then mIs p.2.1 (.static q.1) else mIs p.2.1 (.instanceMethod q.1)) && (q.2.2.2.2.2.2.2.2 || decide (q.1.name = "<init>") || mIs p.2.2.1 (.selects q.1.cls q.1 q.1))
  && decide (mOwn q.2.2.2.2.1 = q.1.cls) && plainFor q.1 && decide (q.1.cls ≠ "java/lang/invoke/MethodHandle" ∧ q.1.cls ≠ "java/lang/invoke/VarHandle" ∧ (parseMethodDescriptor q.1.desc).map (fun d => d.parameters.length) = some (q.2.2.2.2.2.2.1 - (bif q.2.2.2.2.2.2.2.2 then 0 else 1)))
  && Nat.ble q.2.2.2.2.2.2.2.1 q.2.2.1 && Nat.ble q.2.2.1 12 && (q.2.2.2.2.2.2.2.2 || (Nat.ble 1 q.2.2.2.2.2.2.1 && Nat.blt q.2.2.2.2.1 13 && decide (mCn q.2.2.2.2.1 = q.1.cls)))
  && decide (q.2.2.2.1 = match q.2.2.2.2.2.1 with | 0 => none | 1 => some .int | 2 => some .boolean | _ => some .long) && Nat.ble q.2.2.2.2.2.1 3
/-- for all numbers below a bound, one by one -/
theorem mAll0 {P : Nat → Prop} {b : Nat} : ∀ y, b ≤ y → y < b → P y := fun y h1 h2 => absurd h1 (by omega)
theorem mAllS {P : Nat → Prop} {b n : Nat} (h : ∀ y, b ≤ y → y < n → P y) (hn : P n) : ∀ y, b ≤ y → y < n + 1 → P y := fun y h1 h2 => by
  by_cases e : y = n
  · rw [e]; exact hn
  · exact h y h1 (by omega)
theorem mAllJ {P : Nat → Prop} {a b c : Nat} (h : ∀ y, a ≤ y → y < b → P y) (g : ∀ y, b ≤ y → y < c → P y) : ∀ y, a ≤ y → y < c → P y := fun y h1 h2 => by
  by_cases e : y < b
  · exact h y h1 e
  · exact g y (by omega) h2
theorem mPk0 : ((List.range 20).all fun k => mPOk (0 + k) (mMeth (0 + k)) ((mPs[0 + k]?).getD (0, 0, 0, 0))) = true := by decide +kernel
theorem mPk1 : ((List.range 20).all fun k => mPOk (20 + k) (mMeth (20 + k)) ((mPs[20 + k]?).getD (0, 0, 0, 0))) = true := by decide +kernel
theorem mPk2 : ((List.range 20).all fun k => mPOk (40 + k) (mMeth (40 + k)) ((mPs[40 + k]?).getD (0, 0, 0, 0))) = true := by decide +kernel
theorem mPk3 : ((List.range 20).all fun k => mPOk (60 + k) (mMeth (60 + k)) ((mPs[60 + k]?).getD (0, 0, 0, 0))) = true := by decide +kernel
theorem mPk4 : ((List.range 20).all fun k => mPOk (80 + k) (mMeth (80 + k)) ((mPs[80 + k]?).getD (0, 0, 0, 0))) = true := by decide +kernel
theorem mPk5 : ((List.range 20).all fun k => mPOk (100 + k) (mMeth (100 + k)) ((mPs[100 + k]?).getD (0, 0, 0, 0))) = true := by decide +kernel
theorem mPk6 : ((List.range 20).all fun k => mPOk (120 + k) (mMeth (120 + k)) ((mPs[120 + k]?).getD (0, 0, 0, 0))) = true := by decide +kernel
theorem mPk7 : ((List.range 20).all fun k => mPOk (140 + k) (mMeth (140 + k)) ((mPs[140 + k]?).getD (0, 0, 0, 0))) = true := by decide +kernel
theorem mPk8 : ((List.range 20).all fun k => mPOk (160 + k) (mMeth (160 + k)) ((mPs[160 + k]?).getD (0, 0, 0, 0))) = true := by decide +kernel
theorem mPk9 : ((List.range 20).all fun k => mPOk (180 + k) (mMeth (180 + k)) ((mPs[180 + k]?).getD (0, 0, 0, 0))) = true := by decide +kernel
theorem mPk10 : ((List.range 20).all fun k => mPOk (200 + k) (mMeth (200 + k)) ((mPs[200 + k]?).getD (0, 0, 0, 0))) = true := by decide +kernel
theorem mPk11 : ((List.range 20).all fun k => mPOk (220 + k) (mMeth (220 + k)) ((mPs[220 + k]?).getD (0, 0, 0, 0))) = true := by decide +kernel
theorem mPk12 : ((List.range 20).all fun k => mPOk (240 + k) (mMeth (240 + k)) ((mPs[240 + k]?).getD (0, 0, 0, 0))) = true := by decide +kernel
theorem mPk13 : ((List.range 4).all fun k => mPOk (260 + k) (mMeth (260 + k)) ((mPs[260 + k]?).getD (0, 0, 0, 0))) = true := by decide +kernel
def mPP (y : Nat) : Prop := mPOk y (mMeth y) ((mPs[y]?).getD (0, 0, 0, 0)) = true
theorem mPj0 : ∀ y, 0 ≤ y → y < 20 → mPP y := fun y h1 h2 => by
  have := List.all_eq_true.mp mPk0 (y - 0) (List.mem_range.mpr (by omega))
  rwa [show 0 + (y - 0) = y by omega] at this
theorem mPj1 : ∀ y, 20 ≤ y → y < 40 → mPP y := fun y h1 h2 => by
  have := List.all_eq_true.mp mPk1 (y - 20) (List.mem_range.mpr (by omega))
  rwa [show 20 + (y - 20) = y by omega] at this
theorem mPj2 : ∀ y, 40 ≤ y → y < 60 → mPP y := fun y h1 h2 => by
  have := List.all_eq_true.mp mPk2 (y - 40) (List.mem_range.mpr (by omega))
  rwa [show 40 + (y - 40) = y by omega] at this
theorem mPj3 : ∀ y, 60 ≤ y → y < 80 → mPP y := fun y h1 h2 => by
  have := List.all_eq_true.mp mPk3 (y - 60) (List.mem_range.mpr (by omega))
  rwa [show 60 + (y - 60) = y by omega] at this
theorem mPj4 : ∀ y, 80 ≤ y → y < 100 → mPP y := fun y h1 h2 => by
  have := List.all_eq_true.mp mPk4 (y - 80) (List.mem_range.mpr (by omega))
  rwa [show 80 + (y - 80) = y by omega] at this
theorem mPj5 : ∀ y, 100 ≤ y → y < 120 → mPP y := fun y h1 h2 => by
  have := List.all_eq_true.mp mPk5 (y - 100) (List.mem_range.mpr (by omega))
  rwa [show 100 + (y - 100) = y by omega] at this
theorem mPj6 : ∀ y, 120 ≤ y → y < 140 → mPP y := fun y h1 h2 => by
  have := List.all_eq_true.mp mPk6 (y - 120) (List.mem_range.mpr (by omega))
  rwa [show 120 + (y - 120) = y by omega] at this
theorem mPj7 : ∀ y, 140 ≤ y → y < 160 → mPP y := fun y h1 h2 => by
  have := List.all_eq_true.mp mPk7 (y - 140) (List.mem_range.mpr (by omega))
  rwa [show 140 + (y - 140) = y by omega] at this
theorem mPj8 : ∀ y, 160 ≤ y → y < 180 → mPP y := fun y h1 h2 => by
  have := List.all_eq_true.mp mPk8 (y - 160) (List.mem_range.mpr (by omega))
  rwa [show 160 + (y - 160) = y by omega] at this
theorem mPj9 : ∀ y, 180 ≤ y → y < 200 → mPP y := fun y h1 h2 => by
  have := List.all_eq_true.mp mPk9 (y - 180) (List.mem_range.mpr (by omega))
  rwa [show 180 + (y - 180) = y by omega] at this
theorem mPj10 : ∀ y, 200 ≤ y → y < 220 → mPP y := fun y h1 h2 => by
  have := List.all_eq_true.mp mPk10 (y - 200) (List.mem_range.mpr (by omega))
  rwa [show 200 + (y - 200) = y by omega] at this
theorem mPj11 : ∀ y, 220 ≤ y → y < 240 → mPP y := fun y h1 h2 => by
  have := List.all_eq_true.mp mPk11 (y - 220) (List.mem_range.mpr (by omega))
  rwa [show 220 + (y - 220) = y by omega] at this
theorem mPj12 : ∀ y, 240 ≤ y → y < 260 → mPP y := fun y h1 h2 => by
  have := List.all_eq_true.mp mPk12 (y - 240) (List.mem_range.mpr (by omega))
  rwa [show 240 + (y - 240) = y by omega] at this
theorem mPj13 : ∀ y, 260 ≤ y → y < 264 → mPP y := fun y h1 h2 => by
  have := List.all_eq_true.mp mPk13 (y - 260) (List.mem_range.mpr (by omega))
  rwa [show 260 + (y - 260) = y by omega] at this
theorem mPs_ok : ∀ y, 0 ≤ y → y < 264 → mPP y := mAllJ (mAllJ (mAllJ (mAllJ (mAllJ (mAllJ (mAllJ (mAllJ (mAllJ (mAllJ (mAllJ (mAllJ (mAllJ (mPj0) mPj1) mPj2) mPj3) mPj4) mPj5) mPj6) mPj7) mPj8) mPj9) mPj10) mPj11) mPj12) mPj13
def mCP (y : Nat) : Prop := lw_tbl[((mPs[y]?).getD (0, 0, 0, 0)).1]? = some (.code (mMeth y).1 (mMeth y).2.1 (mMeth y).2.2.1 (mMeth y).2.2.2.1)
def mInis : List Nat := [0, 4, 12, 20, 28, 35, 48, 59, 67, 77, 83, 101, 163]
def mIni (y : Nat) : Bool := mInis.any fun k => Nat.beq k y
theorem mInis_ok : (mInis.all fun y => decide ((mMeth y).1.name = "<init>")) = true := by decide +kernel
def mTP (y : Nat) : Prop := mChk (mMeth y).2.2.2.2.1 (mIni y) (mMeth y).2.1 0 (mTab y) = true
set_option maxHeartbeats 4000000 in
set_option maxRecDepth 100000 in
theorem mTab_ok_0 : ∀ y, 0 ≤ y → y < 24 → mTP y := mAllS (mAllS (mAllS (mAllS (mAllS (mAllS (mAllS (mAllS (mAllS (mAllS (mAllS (mAllS (mAllS (mAllS (mAllS (mAllS (mAllS (mAllS (mAllS (mAllS (mAllS (mAllS (mAllS (mAllS (mAll0) (show mTP 0 from mc0)) (show mTP 1 from mc1)) (show mTP 2 from mc2)) (show mTP 3 from mc3)) (show mTP 4 from mc4)) (show mTP 5 from mc5)) (show mTP 6 from mc6)) (show mTP 7 from mc7)) (show mTP 8 from mc8)) (show mTP 9 from mc9)) (show mTP 10 from mc10)) (show mTP 11 from mc11)) (show mTP 12 from mc12)) (show mTP 13 from mc13)) (show mTP 14 from mc14)) (show mTP 15 from mc15)) (show mTP 16 from mc16)) (show mTP 17 from mc17)) (show mTP 18 from mc18)) (show mTP 19 from mc19)) (show mTP 20 from mc20)) (show mTP 21 from mc21)) (show mTP 22 from mc22)) (show mTP 23 from mc23)
set_option maxHeartbeats 4000000 in
set_option maxRecDepth 100000 in
theorem mTab_ok_1 : ∀ y, 24 ≤ y → y < 48 → mTP y := mAllS (mAllS (mAllS (mAllS (mAllS (mAllS (mAllS (mAllS (mAllS (mAllS (mAllS (mAllS (mAllS (mAllS (mAllS (mAllS (mAllS (mAllS (mAllS (mAllS (mAllS (mAllS (mAllS (mAllS (mAll0) (show mTP 24 from mc24)) (show mTP 25 from mc25)) (show mTP 26 from mc26)) (show mTP 27 from mc27)) (show mTP 28 from mc28)) (show mTP 29 from mc29)) (show mTP 30 from mc30)) (show mTP 31 from mc31)) (show mTP 32 from mc32)) (show mTP 33 from mc33)) (show mTP 34 from mc34)) (show mTP 35 from mc35)) (show mTP 36 from mc36)) (show mTP 37 from mc37)) (show mTP 38 from mc38)) (show mTP 39 from mc39)) (show mTP 40 from mc40)) (show mTP 41 from mc41)) (show mTP 42 from mc42)) (show mTP 43 from mc43)) (show mTP 44 from mc44)) (show mTP 45 from mc45)) (show mTP 46 from mc46)) (show mTP 47 from mc47)
set_option maxHeartbeats 4000000 in
set_option maxRecDepth 100000 in
theorem mTab_ok_2 : ∀ y, 48 ≤ y → y < 72 → mTP y := mAllS (mAllS (mAllS (mAllS (mAllS (mAllS (mAllS (mAllS (mAllS (mAllS (mAllS (mAllS (mAllS (mAllS (mAllS (mAllS (mAllS (mAllS (mAllS (mAllS (mAllS (mAllS (mAllS (mAllS (mAll0) (show mTP 48 from mc48)) (show mTP 49 from mc49)) (show mTP 50 from mc50)) (show mTP 51 from mc51)) (show mTP 52 from mc52)) (show mTP 53 from mc53)) (show mTP 54 from mc54)) (show mTP 55 from mc55)) (show mTP 56 from mc56)) (show mTP 57 from mc57)) (show mTP 58 from mc58)) (show mTP 59 from mc59)) (show mTP 60 from mc60)) (show mTP 61 from mc61)) (show mTP 62 from mc62)) (show mTP 63 from mc63)) (show mTP 64 from mc64)) (show mTP 65 from mc65)) (show mTP 66 from mc66)) (show mTP 67 from mc67)) (show mTP 68 from mc68)) (show mTP 69 from mc69)) (show mTP 70 from mc70)) (show mTP 71 from mc71)
set_option maxHeartbeats 4000000 in
set_option maxRecDepth 100000 in
theorem mTab_ok_3 : ∀ y, 72 ≤ y → y < 96 → mTP y := mAllS (mAllS (mAllS (mAllS (mAllS (mAllS (mAllS (mAllS (mAllS (mAllS (mAllS (mAllS (mAllS (mAllS (mAllS (mAllS (mAllS (mAllS (mAllS (mAllS (mAllS (mAllS (mAllS (mAllS (mAll0) (show mTP 72 from mc72)) (show mTP 73 from mc73)) (show mTP 74 from mc74)) (show mTP 75 from mc75)) (show mTP 76 from mc76)) (show mTP 77 from mc77)) (show mTP 78 from mc78)) (show mTP 79 from mc79)) (show mTP 80 from mc80)) (show mTP 81 from mc81)) (show mTP 82 from mc82)) (show mTP 83 from mc83)) (show mTP 84 from mc84)) (show mTP 85 from mc85)) (show mTP 86 from mc86)) (show mTP 87 from mc87)) (show mTP 88 from mc88)) (show mTP 89 from mc89)) (show mTP 90 from mc90)) (show mTP 91 from mc91)) (show mTP 92 from mc92)) (show mTP 93 from mc93)) (show mTP 94 from mc94)) (show mTP 95 from mc95)
set_option maxHeartbeats 4000000 in
set_option maxRecDepth 100000 in
theorem mTab_ok_4 : ∀ y, 96 ≤ y → y < 120 → mTP y := mAllS (mAllS (mAllS (mAllS (mAllS (mAllS (mAllS (mAllS (mAllS (mAllS (mAllS (mAllS (mAllS (mAllS (mAllS (mAllS (mAllS (mAllS (mAllS (mAllS (mAllS (mAllS (mAllS (mAllS (mAll0) (show mTP 96 from mc96)) (show mTP 97 from mc97)) (show mTP 98 from mc98)) (show mTP 99 from mc99)) (show mTP 100 from mc100)) (show mTP 101 from mc101)) (show mTP 102 from mc102)) (show mTP 103 from mc103)) (show mTP 104 from mc104)) (show mTP 105 from mc105)) (show mTP 106 from mc106)) (show mTP 107 from mc107)) (show mTP 108 from mc108)) (show mTP 109 from mc109)) (show mTP 110 from mc110)) (show mTP 111 from mc111)) (show mTP 112 from mc112)) (show mTP 113 from mc113)) (show mTP 114 from mc114)) (show mTP 115 from mc115)) (show mTP 116 from mc116)) (show mTP 117 from mc117)) (show mTP 118 from mc118)) (show mTP 119 from mc119)
set_option maxHeartbeats 4000000 in
set_option maxRecDepth 100000 in
theorem mTab_ok_5 : ∀ y, 120 ≤ y → y < 144 → mTP y := mAllS (mAllS (mAllS (mAllS (mAllS (mAllS (mAllS (mAllS (mAllS (mAllS (mAllS (mAllS (mAllS (mAllS (mAllS (mAllS (mAllS (mAllS (mAllS (mAllS (mAllS (mAllS (mAllS (mAllS (mAll0) (show mTP 120 from mc120)) (show mTP 121 from mc121)) (show mTP 122 from mc122)) (show mTP 123 from mc123)) (show mTP 124 from mc124)) (show mTP 125 from mc125)) (show mTP 126 from mc126)) (show mTP 127 from mc127)) (show mTP 128 from mc128)) (show mTP 129 from mc129)) (show mTP 130 from mc130)) (show mTP 131 from mc131)) (show mTP 132 from mc132)) (show mTP 133 from mc133)) (show mTP 134 from mc134)) (show mTP 135 from mc135)) (show mTP 136 from mc136)) (show mTP 137 from mc137)) (show mTP 138 from mc138)) (show mTP 139 from mc139)) (show mTP 140 from mc140)) (show mTP 141 from mc141)) (show mTP 142 from mc142)) (show mTP 143 from mc143)
set_option maxHeartbeats 4000000 in
set_option maxRecDepth 100000 in
theorem mTab_ok_6 : ∀ y, 144 ≤ y → y < 168 → mTP y := mAllS (mAllS (mAllS (mAllS (mAllS (mAllS (mAllS (mAllS (mAllS (mAllS (mAllS (mAllS (mAllS (mAllS (mAllS (mAllS (mAllS (mAllS (mAllS (mAllS (mAllS (mAllS (mAllS (mAllS (mAll0) (show mTP 144 from mc144)) (show mTP 145 from mc145)) (show mTP 146 from mc146)) (show mTP 147 from mc147)) (show mTP 148 from mc148)) (show mTP 149 from mc149)) (show mTP 150 from mc150)) (show mTP 151 from mc151)) (show mTP 152 from mc152)) (show mTP 153 from mc153)) (show mTP 154 from mc154)) (show mTP 155 from mc155)) (show mTP 156 from mc156)) (show mTP 157 from mc157)) (show mTP 158 from mc158)) (show mTP 159 from mc159)) (show mTP 160 from mc160)) (show mTP 161 from mc161)) (show mTP 162 from mc162)) (show mTP 163 from mc163)) (show mTP 164 from mc164)) (show mTP 165 from mc165)) (show mTP 166 from mc166)) (show mTP 167 from mc167)
set_option maxHeartbeats 4000000 in
set_option maxRecDepth 100000 in
theorem mTab_ok_7 : ∀ y, 168 ≤ y → y < 192 → mTP y := mAllS (mAllS (mAllS (mAllS (mAllS (mAllS (mAllS (mAllS (mAllS (mAllS (mAllS (mAllS (mAllS (mAllS (mAllS (mAllS (mAllS (mAllS (mAllS (mAllS (mAllS (mAllS (mAllS (mAllS (mAll0) (show mTP 168 from mc168)) (show mTP 169 from mc169)) (show mTP 170 from mc170)) (show mTP 171 from mc171)) (show mTP 172 from mc172)) (show mTP 173 from mc173)) (show mTP 174 from mc174)) (show mTP 175 from mc175)) (show mTP 176 from mc176)) (show mTP 177 from mc177)) (show mTP 178 from mc178)) (show mTP 179 from mc179)) (show mTP 180 from mc180)) (show mTP 181 from mc181)) (show mTP 182 from mc182)) (show mTP 183 from mc183)) (show mTP 184 from mc184)) (show mTP 185 from mc185)) (show mTP 186 from mc186)) (show mTP 187 from mc187)) (show mTP 188 from mc188)) (show mTP 189 from mc189)) (show mTP 190 from mc190)) (show mTP 191 from mc191)
set_option maxHeartbeats 4000000 in
set_option maxRecDepth 100000 in
theorem mTab_ok_8 : ∀ y, 192 ≤ y → y < 216 → mTP y := mAllS (mAllS (mAllS (mAllS (mAllS (mAllS (mAllS (mAllS (mAllS (mAllS (mAllS (mAllS (mAllS (mAllS (mAllS (mAllS (mAllS (mAllS (mAllS (mAllS (mAllS (mAllS (mAllS (mAllS (mAll0) (show mTP 192 from mc192)) (show mTP 193 from mc193)) (show mTP 194 from mc194)) (show mTP 195 from mc195)) (show mTP 196 from mc196)) (show mTP 197 from mc197)) (show mTP 198 from mc198)) (show mTP 199 from mc199)) (show mTP 200 from mc200)) (show mTP 201 from mc201)) (show mTP 202 from mc202)) (show mTP 203 from mc203)) (show mTP 204 from mc204)) (show mTP 205 from mc205)) (show mTP 206 from mc206)) (show mTP 207 from mc207)) (show mTP 208 from mc208)) (show mTP 209 from mc209)) (show mTP 210 from mc210)) (show mTP 211 from mc211)) (show mTP 212 from mc212)) (show mTP 213 from mc213)) (show mTP 214 from mc214)) (show mTP 215 from mc215)
set_option maxHeartbeats 4000000 in
set_option maxRecDepth 100000 in
theorem mTab_ok_9 : ∀ y, 216 ≤ y → y < 240 → mTP y := mAllS (mAllS (mAllS (mAllS (mAllS (mAllS (mAllS (mAllS (mAllS (mAllS (mAllS (mAllS (mAllS (mAllS (mAllS (mAllS (mAllS (mAllS (mAllS (mAllS (mAllS (mAllS (mAllS (mAllS (mAll0) (show mTP 216 from mc216)) (show mTP 217 from mc217)) (show mTP 218 from mc218)) (show mTP 219 from mc219)) (show mTP 220 from mc220)) (show mTP 221 from mc221)) (show mTP 222 from mc222)) (show mTP 223 from mc223)) (show mTP 224 from mc224)) (show mTP 225 from mc225)) (show mTP 226 from mc226)) (show mTP 227 from mc227)) (show mTP 228 from mc228)) (show mTP 229 from mc229)) (show mTP 230 from mc230)) (show mTP 231 from mc231)) (show mTP 232 from mc232)) (show mTP 233 from mc233)) (show mTP 234 from mc234)) (show mTP 235 from mc235)) (show mTP 236 from mc236)) (show mTP 237 from mc237)) (show mTP 238 from mc238)) (show mTP 239 from mc239)
set_option maxHeartbeats 4000000 in
set_option maxRecDepth 100000 in
theorem mTab_ok_10 : ∀ y, 240 ≤ y → y < 264 → mTP y := mAllS (mAllS (mAllS (mAllS (mAllS (mAllS (mAllS (mAllS (mAllS (mAllS (mAllS (mAllS (mAllS (mAllS (mAllS (mAllS (mAllS (mAllS (mAllS (mAllS (mAllS (mAllS (mAllS (mAllS (mAll0) (show mTP 240 from mc240)) (show mTP 241 from mc241)) (show mTP 242 from mc242)) (show mTP 243 from mc243)) (show mTP 244 from mc244)) (show mTP 245 from mc245)) (show mTP 246 from mc246)) (show mTP 247 from mc247)) (show mTP 248 from mc248)) (show mTP 249 from mc249)) (show mTP 250 from mc250)) (show mTP 251 from mc251)) (show mTP 252 from mc252)) (show mTP 253 from mc253)) (show mTP 254 from mc254)) (show mTP 255 from mc255)) (show mTP 256 from mc256)) (show mTP 257 from mc257)) (show mTP 258 from mc258)) (show mTP 259 from mc259)) (show mTP 260 from mc260)) (show mTP 261 from mc261)) (show mTP 262 from mc262)) (show mTP 263 from mc263)
set_option maxHeartbeats 4000000 in
set_option maxRecDepth 100000 in
theorem mTab_ok_11 : ∀ y, 264 ≤ y → y < 265 → mTP y := mAllS (mAll0) (show mTP 264 from mc264)
theorem mTab_ok : ∀ y, 0 ≤ y → y < 265 → mTP y := mAllJ (mAllJ (mAllJ (mAllJ (mAllJ (mAllJ (mAllJ (mAllJ (mAllJ (mAllJ (mAllJ (mTab_ok_0) mTab_ok_1) mTab_ok_2) mTab_ok_3) mTab_ok_4) mTab_ok_5) mTab_ok_6) mTab_ok_7) mTab_ok_8) mTab_ok_9) mTab_ok_10) mTab_ok_11
