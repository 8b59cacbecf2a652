/-! every instruction, and a method's run, by induction -/
theorem mCI_use {own x : Nat} {v : Int32} (h : (mCI.any fun e => Nat.beq e.1 own && Nat.beq e.2.1 x && decide (e.2.2.1 = v)) = true) : Jvm.Cond.constant (mOwn own) x v ∈ lw_tbl := by
  obtain ⟨e, he, h⟩ := List.any_eq_true.mp h
  simp only [Bool.and_eq_true, decide_eq_true_eq] at h
  have := mIs_mem (List.all_eq_true.mp mCI_ok e he)
  rwa [Nat.eq_of_beq_eq_true h.1.1, Nat.eq_of_beq_eq_true h.1.2, h.2] at this
theorem mCJ_use {own x : Nat} {v : Int64} (h : (mCJ.any fun e => Nat.beq e.1 own && Nat.beq e.2.1 x && decide (e.2.2.1 = v)) = true) : Jvm.Cond.constantLong (mOwn own) x v ∈ lw_tbl := by
  obtain ⟨e, he, h⟩ := List.any_eq_true.mp h
  simp only [Bool.and_eq_true, decide_eq_true_eq] at h
  have := mIs_mem (List.all_eq_true.mp mCJ_ok e he)
  rwa [Nat.eq_of_beq_eq_true h.1.1, Nat.eq_of_beq_eq_true h.1.2, h.2] at this
theorem mFL_use {own x a1 a2 : Nat} (h : (mFL.any fun e => Nat.beq e.1 own && Nat.beq e.2.1 x && Nat.beq e.2.2.1 a1 && Nat.beq e.2.2.2.1 a2) = true) : mFd (mOwn own) x a1 a2 := by
  obtain ⟨e, he, h⟩ := List.any_eq_true.mp h
  simp only [Bool.and_eq_true] at h
  have := List.all_eq_true.mp mFL_ok e he
  simp only [Bool.and_eq_true] at this
  have h1 := mIs_mem this.1.1
  have h2 := Nat.blt_eq.mp this.1.2
  have h3 := Nat.blt_eq.mp this.2
  rw [Nat.eq_of_beq_eq_true h.1.1.1, Nat.eq_of_beq_eq_true h.1.1.2, Nat.eq_of_beq_eq_true h.1.2, Nat.eq_of_beq_eq_true h.2] at h1
  rw [Nat.eq_of_beq_eq_true h.1.2, Nat.eq_of_beq_eq_true h.2] at h2
  rw [Nat.eq_of_beq_eq_true h.1.2] at h3
  exact ⟨h1, h2, h3⟩
theorem mSL_use {own x a1 : Nat} (h : (mSL.any fun e => Nat.beq e.1 own && Nat.beq e.2.1 x && Nat.beq e.2.2.1 a1) = true) : Jvm.Cond.fieldLink (mOwn own) x ((mSn[a1]?).getD ("", "")).1 ((mSn[a1]?).getD ("", "")).2 "[I" ∈ lw_tbl ∧ a1 < 5 := by
  obtain ⟨e, he, h⟩ := List.any_eq_true.mp h
  simp only [Bool.and_eq_true] at h
  have := List.all_eq_true.mp mSL_ok e he
  simp only [Bool.and_eq_true] at this
  have h1 := mIs_mem this.1
  have h2 := Nat.blt_eq.mp this.2
  rw [Nat.eq_of_beq_eq_true h.1.1, Nat.eq_of_beq_eq_true h.1.2, Nat.eq_of_beq_eq_true h.2] at h1
  rw [Nat.eq_of_beq_eq_true h.2] at h2
  exact ⟨h1, h2⟩
theorem mNL_use {own x a1 : Nat} (h : (mNL.any fun e => Nat.beq e.1 own && Nat.beq e.2.1 x && Nat.beq e.2.2.1 a1) = true) : (Jvm.Cond.classLink (mOwn own) x (mCn a1) ∈ lw_tbl ∧ Jvm.Cond.instantiable (mCn a1) (mNf a1) ∈ lw_tbl ∧ Jvm.Cond.initialized (mCn a1) ∈ lw_tbl) ∧ a1 < 13 := by
  obtain ⟨e, he, h⟩ := List.any_eq_true.mp h
  simp only [Bool.and_eq_true] at h
  have := List.all_eq_true.mp mNL_ok e he
  simp only [Bool.and_eq_true] at this
  have h1 := mIs_mem this.1
  have h2 := Nat.blt_eq.mp this.2
  rw [Nat.eq_of_beq_eq_true h.1.1, Nat.eq_of_beq_eq_true h.1.2, Nat.eq_of_beq_eq_true h.2] at h1
  rw [Nat.eq_of_beq_eq_true h.2] at h2
  have h3 := List.all_eq_true.mp mCp_ok a1 (List.mem_range.mpr h2)
  simp only [Bool.and_eq_true] at h3
  exact ⟨⟨h1, mIs_mem h3.1, mIs_mem h3.2⟩, h2⟩
theorem mAL_use {own x : Nat} (h : (mAL.any fun e => Nat.beq e.1 own && Nat.beq e.2.1 x) = true) : Jvm.Cond.classLink (mOwn own) x "[[I" ∈ lw_tbl := by
  obtain ⟨e, he, h⟩ := List.any_eq_true.mp h
  simp only [Bool.and_eq_true] at h
  have := mIs_mem (List.all_eq_true.mp mAL_ok e he)
  rwa [Nat.eq_of_beq_eq_true h.1, Nat.eq_of_beq_eq_true h.2] at this
theorem mOL_use {own x : Nat} (h : (mOL.any fun e => Nat.beq e.1 own && Nat.beq e.2.1 x) = true) : Jvm.Cond.methodLink (mOwn own) x objectInit ∈ lw_tbl := by
  obtain ⟨e, he, h⟩ := List.any_eq_true.mp h
  simp only [Bool.and_eq_true] at h
  have := mIs_mem (List.all_eq_true.mp mOL_ok e he)
  rwa [Nat.eq_of_beq_eq_true h.1, Nat.eq_of_beq_eq_true h.2] at this
theorem mPL_use {own x : Nat} (h : (mPL.any fun e => Nat.beq e.1 own && Nat.beq e.2.1 x) = true) : Jvm.Cond.methodLink (mOwn own) x arraycopyName ∈ lw_tbl := by
  obtain ⟨e, he, h⟩ := List.any_eq_true.mp h
  simp only [Bool.and_eq_true] at h
  have := mIs_mem (List.all_eq_true.mp mPL_ok e he)
  rwa [Nat.eq_of_beq_eq_true h.1, Nat.eq_of_beq_eq_true h.2] at this
theorem mML_use {own x a1 : Nat} (h : (mML.any fun e => Nat.beq e.1 own && Nat.beq e.2.1 x && Nat.beq e.2.2.1 a1) = true) : Jvm.Cond.methodLink (mOwn own) x (mMeth a1).1 ∈ lw_tbl ∨ Jvm.Cond.methodLinkNest (mOwn own) x (mMeth a1).1 "ColdHolds" ∈ lw_tbl := by
  obtain ⟨e, he, h⟩ := List.any_eq_true.mp h
  simp only [Bool.and_eq_true] at h
  have := List.all_eq_true.mp mML_ok e he
  simp only [Bool.and_eq_true] at this
  have h1 := this.1
  rw [Nat.eq_of_beq_eq_true h.1.1, Nat.eq_of_beq_eq_true h.1.2, Nat.eq_of_beq_eq_true h.2] at h1
  cases hn : Nat.beq e.2.2.2.1 0 with
  | true => rw [hn] at h1; exact Or.inl (mIs_mem h1)
  | false => rw [hn] at h1; exact Or.inr (mIs_mem h1)
section S6
variable {p : Program} {l : Launch} {e : Env} {R : Room} {s : State} {m : MethodId} {args : Array Value} {below : List Frame} {meth : Method} {c : Code} {H : Heap} {locs : List Loc} {cells slots : Nat} {Q : State → Prop}
variable {cc : ByteArray} {nL : Nat} {own : Nat} {G : va_G} {cy : Nat → ClassId} {z : Nat} {sa : Nat → Nat} {ro : List (List Int32)} {pc len a1 a2 a3 : Nat} {v32 : Int32} {v64 : Int64} {sw : List (Int32 × Nat)} {lo : mO} {st : List Value} {h : mH} {ls : Array Slot} {rk : Nat} {ini : Bool} {ins : Instr}
set_option maxHeartbeats 4000000 in
theorem sim1 (C0 : mCx p s m args c cc nL (mOwn own) G cy z sa ro) (hI : mInv G cy z sa s h H locs) (hl : mLv (mAd z sa) lo ls) {x : mR} (hdg : decode cc pc = .ok (ins, len)) (hlen : mSwi ins = true ∨ len = mLen ins) (hok : mOk own ini pc (ins, len, a1, a2, a3, v32, v64, sw) = true)
    (hs : mStep1 ro (ins, len, a1, a2, a3, v32, v64, sw) pc lo st h = some x) (K : mKk p l e R s m args below meth c H locs cells slots Q (mAd z sa) h x) : W p l e R s m args below meth c H locs cells slots Q (F0 m pc ls (st.map (mTv (mAd z sa)))) := by
  cases ins with
  | iload_n q =>
    obtain rfl : len = 1 := hlen.resolve_left Bool.false_ne_true
    exact sim_iload_n C0 hl hdg (Nat.eq_of_beq_eq_true hok) hs K
  | aload_n q =>
    obtain rfl : len = 1 := hlen.resolve_left Bool.false_ne_true
    exact sim_aload_n C0 hl hdg (Nat.eq_of_beq_eq_true hok) hs K
  | lload_n q =>
    obtain rfl : len = 1 := hlen.resolve_left Bool.false_ne_true
    exact sim_lload_n C0 hl hdg (Nat.eq_of_beq_eq_true hok) hs K
  | istore_n q =>
    obtain rfl : len = 1 := hlen.resolve_left Bool.false_ne_true
    exact sim_istore_n C0 hl hdg (Nat.eq_of_beq_eq_true hok) hs K
  | astore_n q =>
    obtain rfl : len = 1 := hlen.resolve_left Bool.false_ne_true
    exact sim_astore_n C0 hl hdg (Nat.eq_of_beq_eq_true hok) hs K
  | lstore_n q =>
    obtain rfl : len = 1 := hlen.resolve_left Bool.false_ne_true
    exact sim_lstore_n C0 hl hdg (Nat.eq_of_beq_eq_true hok) hs K
  | iload q =>
    obtain rfl : len = 2 := hlen.resolve_left Bool.false_ne_true
    obtain rfl : q = a1 := Nat.eq_of_beq_eq_true hok
    exact sim_iload C0 hl hdg hs K
  | lload q =>
    obtain rfl : len = 2 := hlen.resolve_left Bool.false_ne_true
    obtain rfl : q = a1 := Nat.eq_of_beq_eq_true hok
    exact sim_lload C0 hl hdg hs K
  | istore q =>
    obtain rfl : len = 2 := hlen.resolve_left Bool.false_ne_true
    obtain rfl : q = a1 := Nat.eq_of_beq_eq_true hok
    exact sim_istore C0 hl hdg hs K
  | lstore q =>
    obtain rfl : len = 2 := hlen.resolve_left Bool.false_ne_true
    obtain rfl : q = a1 := Nat.eq_of_beq_eq_true hok
    exact sim_lstore C0 hl hdg hs K
  | iinc q w =>
    obtain rfl : len = 3 := hlen.resolve_left Bool.false_ne_true
    simp only [mOk, Bool.and_eq_true, decide_eq_true_eq] at hok
    obtain rfl : q = a1 := Nat.eq_of_beq_eq_true hok.1
    exact sim_iinc C0 hl hdg hok.2 hs K
  | iconst w =>
    obtain rfl : len = 1 := hlen.resolve_left Bool.false_ne_true
    exact sim_iconst C0 hl hdg (of_decide_eq_true hok) hs K
  | bipush w =>
    obtain rfl : len = 2 := hlen.resolve_left Bool.false_ne_true
    exact sim_bipush C0 hl hdg (of_decide_eq_true hok) hs K
  | sipush w =>
    obtain rfl : len = 3 := hlen.resolve_left Bool.false_ne_true
    exact sim_sipush C0 hl hdg (of_decide_eq_true hok) hs K
  | lconst w =>
    obtain rfl : len = 1 := hlen.resolve_left Bool.false_ne_true
    exact sim_lconst C0 hl hdg (of_decide_eq_true hok) hs K
  | ldc w =>
    obtain rfl : len = 2 := hlen.resolve_left Bool.false_ne_true
    exact sim_ldc C0 hl hdg (mCI_use hok) hs K
  | ldc_w w =>
    obtain rfl : len = 3 := hlen.resolve_left Bool.false_ne_true
    exact sim_ldc_w C0 hl hdg (mCI_use hok) hs K
  | ldc2_w w =>
    obtain rfl : len = 3 := hlen.resolve_left Bool.false_ne_true
    exact sim_ldc2 C0 hl hdg (mCJ_use hok) hs K
  | dup =>
    obtain rfl : len = 1 := hlen.resolve_left Bool.false_ne_true
    exact sim_dup C0 hl hdg hs K
  | dup2 =>
    obtain rfl : len = 1 := hlen.resolve_left Bool.false_ne_true
    exact sim_dup2 C0 hl hdg hs K
  | pop =>
    obtain rfl : len = 1 := hlen.resolve_left Bool.false_ne_true
    exact sim_pop C0 hl hdg hs K
  | iadd =>
    obtain rfl : len = 1 := hlen.resolve_left Bool.false_ne_true
    exact sim_iadd C0 hl hdg hs K
  | isub =>
    obtain rfl : len = 1 := hlen.resolve_left Bool.false_ne_true
    exact sim_isub C0 hl hdg hs K
  | imul =>
    obtain rfl : len = 1 := hlen.resolve_left Bool.false_ne_true
    exact sim_imul C0 hl hdg hs K
  | iand =>
    obtain rfl : len = 1 := hlen.resolve_left Bool.false_ne_true
    exact sim_iand C0 hl hdg hs K
  | ior =>
    obtain rfl : len = 1 := hlen.resolve_left Bool.false_ne_true
    exact sim_ior C0 hl hdg hs K
  | ixor =>
    obtain rfl : len = 1 := hlen.resolve_left Bool.false_ne_true
    exact sim_ixor C0 hl hdg hs K
  | ishl =>
    obtain rfl : len = 1 := hlen.resolve_left Bool.false_ne_true
    exact sim_ishl C0 hl hdg hs K
  | ishr =>
    obtain rfl : len = 1 := hlen.resolve_left Bool.false_ne_true
    exact sim_ishr C0 hl hdg hs K
  | iushr =>
    obtain rfl : len = 1 := hlen.resolve_left Bool.false_ne_true
    exact sim_iushr C0 hl hdg hs K
  | idiv =>
    obtain rfl : len = 1 := hlen.resolve_left Bool.false_ne_true
    exact sim_idiv C0 hl hdg hs K
  | irem =>
    obtain rfl : len = 1 := hlen.resolve_left Bool.false_ne_true
    exact sim_irem C0 hl hdg hs K
  | ineg =>
    obtain rfl : len = 1 := hlen.resolve_left Bool.false_ne_true
    exact sim_ineg C0 hl hdg hs K
  | ladd =>
    obtain rfl : len = 1 := hlen.resolve_left Bool.false_ne_true
    exact sim_ladd C0 hl hdg hs K
  | lsub =>
    obtain rfl : len = 1 := hlen.resolve_left Bool.false_ne_true
    exact sim_lsub C0 hl hdg hs K
  | lmul =>
    obtain rfl : len = 1 := hlen.resolve_left Bool.false_ne_true
    exact sim_lmul C0 hl hdg hs K
  | land =>
    obtain rfl : len = 1 := hlen.resolve_left Bool.false_ne_true
    exact sim_land C0 hl hdg hs K
  | lor =>
    obtain rfl : len = 1 := hlen.resolve_left Bool.false_ne_true
    exact sim_lor C0 hl hdg hs K
  | lshl =>
    obtain rfl : len = 1 := hlen.resolve_left Bool.false_ne_true
    exact sim_lshl C0 hl hdg hs K
  | lshr =>
    obtain rfl : len = 1 := hlen.resolve_left Bool.false_ne_true
    exact sim_lshr C0 hl hdg hs K
  | lushr =>
    obtain rfl : len = 1 := hlen.resolve_left Bool.false_ne_true
    exact sim_lushr C0 hl hdg hs K
  | lcmp =>
    obtain rfl : len = 1 := hlen.resolve_left Bool.false_ne_true
    exact sim_lcmp C0 hl hdg hs K
  | i2l =>
    obtain rfl : len = 1 := hlen.resolve_left Bool.false_ne_true
    exact sim_i2l C0 hl hdg hs K
  | l2i =>
    obtain rfl : len = 1 := hlen.resolve_left Bool.false_ne_true
    exact sim_l2i C0 hl hdg hs K
  | i2b =>
    obtain rfl : len = 1 := hlen.resolve_left Bool.false_ne_true
    exact sim_i2b C0 hl hdg hs K
  | goto off =>
    obtain rfl : len = 3 := hlen.resolve_left Bool.false_ne_true
    exact sim_goto C0 hl hdg (of_decide_eq_true hok) hs K
  | if_icmp cd off =>
    obtain rfl : len = 3 := hlen.resolve_left Bool.false_ne_true
    cases cd with
    | eq => exact sim_icmp_eq C0 hl hdg (of_decide_eq_true hok) hs K
    | ne => exact sim_icmp_ne C0 hl hdg (of_decide_eq_true hok) hs K
    | lt => exact sim_icmp_lt C0 hl hdg (of_decide_eq_true hok) hs K
    | ge => exact sim_icmp_ge C0 hl hdg (of_decide_eq_true hok) hs K
    | gt => exact sim_icmp_gt C0 hl hdg (of_decide_eq_true hok) hs K
    | le => exact sim_icmp_le C0 hl hdg (of_decide_eq_true hok) hs K
  | ifCond cd off =>
    obtain rfl : len = 3 := hlen.resolve_left Bool.false_ne_true
    cases cd with
    | eq => exact sim_if_eq C0 hl hdg (of_decide_eq_true hok) hs K
    | ne => exact sim_if_ne C0 hl hdg (of_decide_eq_true hok) hs K
    | lt => exact sim_if_lt C0 hl hdg (of_decide_eq_true hok) hs K
    | ge => exact sim_if_ge C0 hl hdg (of_decide_eq_true hok) hs K
    | gt => exact sim_if_gt C0 hl hdg (of_decide_eq_true hok) hs K
    | le => exact sim_if_le C0 hl hdg (of_decide_eq_true hok) hs K
  | tableswitch d tl th os =>
    simp only [mOk, Bool.and_eq_true, decide_eq_true_eq] at hok
    exact sim_tableswitch C0 hl hdg hok.1.1.1 hok.1.1.2 hok.1.2 hok.2 hs K
  | lookupswitch d ps =>
    have hok2 : (decide ((pc : Int) + d = (a1 : Int)) && mLkOk pc ps.toList sw && (ps.toList.zip (ps.toList.drop 1)).all (fun (a, next) => a.1 < next.1)) = true := hok
    rw [Bool.and_eq_true, Bool.and_eq_true, decide_eq_true_eq] at hok2
    exact sim_lookupswitch C0 hl hdg hok2.1.1 hok2.1.2 hok2.2 hs K
  | getstatic w =>
    obtain rfl : len = 3 := hlen.resolve_left Bool.false_ne_true
    exact sim_getstatic C0 hI hl hdg (mSL_use hok).1 (mSL_use hok).2 hs K
  | getfield w =>
    obtain rfl : len = 3 := hlen.resolve_left Bool.false_ne_true
    exact sim_getfield C0 hI hl hdg (mFL_use hok) hs K
  | aaload => cases hs
  | aastore => cases hs
  | aconst_null => cases hs
  | aload _ => cases hs
  | anewarray _ => cases hs
  | areturn => cases hs
  | arraylength => cases hs
  | astore _ => cases hs
  | athrow => cases hs
  | baload => cases hs
  | bastore => cases hs
  | caload => cases hs
  | castore => cases hs
  | checkcast _ => cases hs
  | d2f => cases hs
  | d2i => cases hs
  | d2l => cases hs
  | dadd => cases hs
  | daload => cases hs
  | dastore => cases hs
  | dcmp _ => cases hs
  | dconst _ => cases hs
  | ddiv => cases hs
  | dload _ => cases hs
  | dload_n _ => cases hs
  | dmul => cases hs
  | dneg => cases hs
  | drem => cases hs
  | dreturn => cases hs
  | dstore _ => cases hs
  | dstore_n _ => cases hs
  | dsub => cases hs
  | dup_x1 => cases hs
  | dup_x2 => cases hs
  | dup2_x1 => cases hs
  | dup2_x2 => cases hs
  | f2d => cases hs
  | f2i => cases hs
  | f2l => cases hs
  | fadd => cases hs
  | faload => cases hs
  | fastore => cases hs
  | fcmp _ => cases hs
  | fconst _ => cases hs
  | fdiv => cases hs
  | fload _ => cases hs
  | fload_n _ => cases hs
  | fmul => cases hs
  | fneg => cases hs
  | frem => cases hs
  | freturn => cases hs
  | fstore _ => cases hs
  | fstore_n _ => cases hs
  | fsub => cases hs
  | goto_w _ => cases hs
  | i2c => cases hs
  | i2d => cases hs
  | i2f => cases hs
  | i2s => cases hs
  | iaload => cases hs
  | iastore => cases hs
  | if_acmp _ _ => cases hs
  | ifnonnull _ => cases hs
  | ifnull _ => cases hs
  | instanceof _ => cases hs
  | invokedynamic _ => cases hs
  | invokeinterface _ _ => cases hs
  | invokespecial _ => cases hs
  | invokestatic _ => cases hs
  | invokevirtual _ => cases hs
  | ireturn => cases hs
  | jsr _ => cases hs
  | jsr_w _ => cases hs
  | l2d => cases hs
  | l2f => cases hs
  | laload => cases hs
  | lastore => cases hs
  | ldiv => cases hs
  | lneg => cases hs
  | lrem => cases hs
  | lreturn => cases hs
  | lxor => cases hs
  | monitorenter => cases hs
  | monitorexit => cases hs
  | multianewarray _ _ => cases hs
  | new _ => cases hs
  | newarray _ => cases hs
  | nop => cases hs
  | pop2 => cases hs
  | putfield _ => cases hs
  | putstatic _ => cases hs
  | ret _ => cases hs
  | return_ => cases hs
  | saload => cases hs
  | sastore => cases hs
  | swap => cases hs
end S6
