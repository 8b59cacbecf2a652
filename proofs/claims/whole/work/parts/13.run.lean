/-! a run of the small machine: its definition, and that the machine does it -/
abbrev mCal : Type := Nat → List Value → mH → Option Value → mH → Nat → Nat → Prop
/-- where a call's values lie -/
def mFlat (as : List Value) : mO := match as with
  | [] => []
  | v :: r => bif Nat.beq v.category 2 then some v :: none :: mFlat r else some v :: mFlat r
def mEnt (n : Nat) (as : List Value) : mO := mFlat as ++ List.replicate (n - (mFlat as).length) none
/-- fewer locals are known -/
def mLe (a b : mO) : Prop := match a, b with
  | [], [] => True
  | x :: a', y :: b' => (x = none ∨ x = y) ∧ mLe a' b'
  | _, _ => False
def mRunN (C : mCal) (ro : List (List Int32)) (rk : Nat) (tab : List (Option mI)) : Nat → Nat → mO → List Value → mH → Option Value → mH → Nat → Nat → Prop
  | 0 => fun _ _ _ _ _ _ _ _ => False
  | n + 1 => fun pc lo1 st h v h' nc ns => ∃ (i : mI) (lo : mO), tab[pc]? = some (some i) ∧ mLe lo lo1 ∧ (match mStep ro rk i pc lo st h with
    | none => False
    | some (.inl (pc2, lo2, st2, h2, dc, ds)) => ∃ nc2 ns2, nc = dc + nc2 ∧ ns = ds + ns2 ∧ mRunN C ro rk tab n pc2 lo2 st2 h2 v h' nc2 ns2
    | some (.inr (.inl w)) => v = w ∧ h' = h ∧ nc = 0 ∧ ns = 0
    | some (.inr (.inr (y, as, r))) => ∃ w h1 c1 s1 nc2 ns2, C y as h w h1 c1 s1 ∧ nc = c1 + nc2 ∧ ns = s1 + ns2 ∧ mRunN C ro rk tab n (pc + 3) lo (w.toList ++ r) h1 v h' nc2 ns2)
def mBig (ro : List (List Int32)) : Nat → mCal
  | 0 => fun _ _ _ _ _ _ _ => False
  | d + 1 => fun y as h v h' nc ns => y < 264 ∧ (mFlat as).length ≤ (mMeth y).2.2.1 ∧ ∃ n, mRunN (mBig ro d) ro (mMeth y).2.2.2.2.2.1 (mTab y) n 0 (mEnt (mMeth y).2.2.1 as) [] h v h' nc ns
theorem mLe_len : ∀ (a b : mO), mLe a b → a.length = b.length := by
  intro a
  induction a with
  | nil => intro b h; cases b with
    | nil => rfl
    | cons y b => exact h.elim
  | cons x a ih => intro b h; cases b with
    | nil => exact h.elim
    | cons y b => simp only [List.length_cons]; rw [ih b h.2]
theorem mLe_load : ∀ (a b : mO), mLe a b → ∀ (i : Nat) (v : Value), mLoad a i = some v → mLoad b i = some v := by
  intro a
  induction a with
  | nil => intro b h i v hv; exact absurd (mLoad_lt hv) (by simp)
  | cons x a ih => intro b h; cases b with
    | nil => exact h.elim
    | cons y b =>
      intro i v hv
      have hv := mLoad_get hv
      cases i with
      | zero =>
        simp only [List.getElem?_cons_zero, Option.some.injEq] at hv
        rcases h.1 with e | e
        · rw [e] at hv; cases hv
        · exact mLoad_of (by rw [List.getElem?_cons_zero, ← e, hv])
      | succ i =>
        simp only [List.getElem?_cons_succ] at hv
        exact mLoad_of (by rw [List.getElem?_cons_succ]; exact mLoad_get (ih b h.2 i v (mLoad_of hv)))
theorem mLe_refl : ∀ a : mO, mLe a a := by
  intro a
  induction a with
  | nil => trivial
  | cons x a ih => exact ⟨Or.inr rfl, ih⟩
theorem mLe_trans : ∀ (a b c : mO), mLe a b → mLe b c → mLe a c := by
  intro a
  induction a with
  | nil => intro b c h g; cases b with
    | nil => exact g
    | cons y b => exact h.elim
  | cons x a ih => intro b c h g; cases b with
    | nil => exact h.elim
    | cons y b => cases c with
      | nil => exact g.elim
      | cons w c =>
        refine ⟨?_, ih b c h.2 g.2⟩
        rcases h.1 with e | e
        · exact Or.inl e
        · rw [e]; exact g.1
theorem mStep1_len {ro : List (List Int32)} {i : mI} {pc : Nat} {lo : mO} {st : List Value} {h : mH} {x : mR} (hs : mStep1 ro i pc lo st h = some x) : ∃ pc2 lo2 st2, x = .inl (pc2, lo2, st2, h, 0, 0) := by
  have go : ∀ {pc : Nat} {lo : mO} {st : List Value}, mGo pc lo st h = some x → ∃ pc2 lo2 st2, x = .inl (pc2, lo2, st2, h, 0, 0) := fun q => ⟨_, _, _, mGo_inv q⟩
  obtain ⟨ins, len, a1, a2, a3, v32, v64, sw⟩ := i
  cases ins <;> simp only [mStep1, mI2, mL2, mLI, Bool.cond_eq_ite] at hs <;> (repeat' split at hs) <;> first | exact go hs | cases hs
theorem mStep2_len {ro : List (List Int32)} {rk : Nat} {i : mI} {pc : Nat} {lo : mO} {st : List Value} {h : mH} {pc2 : Nat} {lo2 : mO} {st2 : List Value} {h2 : mH} {dc ds : Nat} (hs : mStep2 ro rk i pc lo st h = some (.inl (pc2, lo2, st2, h2, dc, ds))) : h2.length = h.length + dc := by
  have go : ∀ {pc : Nat} {lo : mO} {st : List Value} {h3 : mH}, h3.length = h.length → mGo pc lo st h3 = some (.inl (pc2, lo2, st2, h2, dc, ds)) → h2.length = h.length + dc := fun e q => by
    have := mGo_inv q
    simp only [Sum.inl.injEq, Prod.mk.injEq] at this
    obtain ⟨-, -, -, rfl, rfl, -⟩ := this
    exact e
  obtain ⟨ins, len, a1, a2, a3, v32, v64, sw⟩ := i
  cases ins <;> simp only [mStep2, Bool.cond_eq_ite] at hs <;> (repeat' split at hs) <;> first
    | exact go rfl hs
    | exact go (List.length_set ..) hs
    | (simp only [Option.some.injEq, Sum.inl.injEq, Prod.mk.injEq] at hs
       obtain ⟨-, -, -, rfl, rfl, -⟩ := hs
       simp [Nat.add_comm]
       done)
    | cases hs
theorem mRunN_len {C : mCal} {ro : List (List Int32)} {rk : Nat} {tab : List (Option mI)} (hC : ∀ y as h w h1 c1 s1, C y as h w h1 c1 s1 → h1.length = h.length + c1) : ∀ (n pc : Nat) (lo : mO) (st : List Value) (h : mH) (v : Option Value) (h' : mH) (nc ns : Nat), mRunN C ro rk tab n pc lo st h v h' nc ns → h'.length = h.length + nc := by
  intro n
  induction n with
  | zero => intro pc lo st h v h' nc ns q; exact q.elim
  | succ n ih =>
    intro pc lo1 st h v h' nc ns q
    obtain ⟨i, lo, hi, -, q⟩ := q
    split at q
    · exact q.elim
    · rename_i pc2 lo2 st2 h2 dc ds hs
      obtain ⟨nc2, ns2, rfl, rfl, q⟩ := q
      have e := ih _ _ _ _ _ _ _ _ q
      unfold mStep at hs
      cases hk : mKind i.1 with
      | true =>
        rw [hk] at hs
        simp only [cond_true] at hs
        obtain ⟨a, b, c, hx⟩ := mStep1_len hs
        simp only [Sum.inl.injEq, Prod.mk.injEq] at hx
        obtain ⟨-, -, -, rfl, rfl, rfl⟩ := hx
        omega
      | false =>
        rw [hk] at hs
        simp only [cond_false] at hs
        have := mStep2_len hs
        omega
    · obtain ⟨rfl, rfl, rfl, rfl⟩ := q
      rfl
    · obtain ⟨w, h1, c1, s1, nc2, ns2, hc, rfl, rfl, q⟩ := q
      have e := ih _ _ _ _ _ _ _ _ q
      have e1 := hC _ _ _ _ _ _ _ hc
      omega
theorem mBig_len {ro : List (List Int32)} : ∀ (d y : Nat) (as : List Value) (h : mH) (w : Option Value) (h1 : mH) (c1 s1 : Nat), mBig ro d y as h w h1 c1 s1 → h1.length = h.length + c1 := by
  intro d
  induction d with
  | zero => intro y as h w h1 c1 s1 q; exact q.elim
  | succ d ih =>
    intro y as h w h1 c1 s1 q
    obtain ⟨-, -, n, q⟩ := q
    exact mRunN_len ih n _ _ _ _ _ _ _ _ q
section S8
variable {p : Program} {l : Launch} {e : Env} {R : Room} {s : State} {m : MethodId} {args : Array Value} {below : List Frame} {meth : Method} {c : Code} {H : Heap} {locs : List Loc} {cells slots : Nat} {Q : State → Prop}
variable {cc : ByteArray} {nL : Nat} {own : Nat} {G : va_G} {cy : Nat → ClassId} {z : Nat} {sa : Nat → Nat} {ro : List (List Int32)} {pc len a1 a2 a3 : Nat} {v32 : Int32} {v64 : Int64} {sw : List (Int32 × Nat)} {lo : mO} {st : List Value} {h : mH} {ls : Array Slot} {rk : Nat} {ini : Bool} {ins : Instr}
set_option maxHeartbeats 4000000 in
theorem sim2 (C0 : mCx p s m args c cc nL (mOwn own) G cy z sa ro) (hI : mInv G cy z sa s h H locs) (hl : mLv (mAd z sa) lo ls) (hnl : lo.length = nL) (hNw : mNw s) (hsz : H.size = z + h.length) (hini : ini = true → meth.name = "<init>") (hR : 1 ≤ R.frames ∧ 200 ≤ R.locals) {x : mN} (hb1 : h.length + x.2.2.2.2.1 ≤ mBase) (hb2 : cells + x.2.2.2.2.1 ≤ R.cells ∧ slots + x.2.2.2.2.2 ≤ R.slots) (hdg : decode cc pc = .ok (ins, len)) (hlen : mSwi ins = true ∨ len = mLen ins) (hok : mOk own ini pc (ins, len, a1, a2, a3, v32, v64, sw) = true)
    (hs : mStep2 ro rk (ins, len, a1, a2, a3, v32, v64, sw) pc lo st h = some (.inl x)) (K : mKh p l e R s m args below meth c cells slots Q G cy z sa (.inl x)) : W p l e R s m args below meth c H locs cells slots Q (F0 m pc ls (st.map (mTv (mAd z sa)))) := by
  cases ins with
  | iaload =>
    obtain rfl : len = 1 := hlen.resolve_left Bool.false_ne_true
    exact sim_iaload C0 hI hl hdg hs K
  | baload =>
    obtain rfl : len = 1 := hlen.resolve_left Bool.false_ne_true
    exact sim_baload C0 hI hl hdg hs K
  | laload =>
    obtain rfl : len = 1 := hlen.resolve_left Bool.false_ne_true
    exact sim_laload C0 hI hl hdg hs K
  | aaload =>
    obtain rfl : len = 1 := hlen.resolve_left Bool.false_ne_true
    exact sim_aaload C0 hI hl hdg hs K
  | iastore =>
    obtain rfl : len = 1 := hlen.resolve_left Bool.false_ne_true
    exact sim_iastore C0 hI hl hdg hs K
  | bastore =>
    obtain rfl : len = 1 := hlen.resolve_left Bool.false_ne_true
    exact sim_bastore C0 hI hl hdg hs K
  | lastore =>
    obtain rfl : len = 1 := hlen.resolve_left Bool.false_ne_true
    exact sim_lastore C0 hI hl hdg hs K
  | arraylength =>
    obtain rfl : len = 1 := hlen.resolve_left Bool.false_ne_true
    exact sim_arraylength C0 hI hl hdg hs K
  | putfield w =>
    obtain rfl : len = 3 := hlen.resolve_left Bool.false_ne_true
    have hok2 : ((mFL.any fun e => Nat.beq e.1 own && Nat.beq e.2.1 w && Nat.beq e.2.2.1 a1 && Nat.beq e.2.2.2.1 a2) && decide (mFk (mT a1 a2).2.2.1 = some a3) && (!(mT a1 a2).2.2.2 || (ini && decide ((mT a1 a2).1 = mOwn own)))) = true := hok
    simp only [Bool.and_eq_true, Bool.or_eq_true, Bool.not_eq_true', decide_eq_true_eq] at hok2
    obtain ⟨⟨k1, k2⟩, k3⟩ := hok2
    have k1' : (mFL.any fun e => Nat.beq e.1 own && Nat.beq e.2.1 w && Nat.beq e.2.2.1 a1 && Nat.beq e.2.2.2.1 a2) = true := by simpa using k1
    exact sim_putfield C0 hI hl hdg (mFL_use k1') k2 (fun hf => by
      rcases k3 with q | q
      · rw [hf] at q; cases q
      · exact ⟨hini q.1, q.2⟩) hs K
  | new w =>
    obtain rfl : len = 3 := hlen.resolve_left Bool.false_ne_true
    have hok2 : ((mNL.any fun e => Nat.beq e.1 own && Nat.beq e.2.1 w && Nat.beq e.2.2.1 a1) && Nat.beq a2 (mNf a1)) = true := hok
    rw [Bool.and_eq_true] at hok2
    obtain ⟨k1, k2⟩ := hok2
    have k2 := Nat.eq_of_beq_eq_true k2
    obtain ⟨k3, k4⟩ := mNL_use k1
    have hx := hs
    simp only [mStep2, Option.some.injEq, Sum.inl.injEq] at hx
    rw [← hx] at hb1 hb2
    exact sim_new C0 hI hl hdg (by rw [k2]; exact k3) k4 k2 hsz (by simp only at hb1; omega) hb2 hs K
  | newarray t =>
    obtain rfl : len = 2 := hlen.resolve_left Bool.false_ne_true
    have hok2 : (Nat.beq (mAk t) a1 && Nat.ble a1 3) = true := hok
    rw [Bool.and_eq_true] at hok2
    have h0 := hs
    simp only [mStep2] at h0
    have h1 : x.2.2.2.2.1 = 1 := by
      split at h0
      · split at h0
        · cases h0
        · simp only [Option.some.injEq, Sum.inl.injEq] at h0
          rw [← h0]
      · cases h0
    rw [h1] at hb1 hb2
    exact sim_newarray C0 hI hl hdg (Nat.eq_of_beq_eq_true hok2.1) (Nat.le_of_ble_eq_true hok2.2) hsz (by omega) (fun N hN => by cases hN; exact hb2) hs K
  | multianewarray w dd =>
    obtain rfl : len = 4 := hlen.resolve_left Bool.false_ne_true
    have hok2 : ((mAL.any fun e => Nat.beq e.1 own && Nat.beq e.2.1 w) && Nat.beq dd 2) = true := hok
    rw [Bool.and_eq_true] at hok2
    obtain rfl := Nat.eq_of_beq_eq_true hok2.2
    exact sim_mna C0 hI hl hdg (mAL_use hok2.1) hNw.2 hsz (fun N hN => by cases hN; exact hb1) (fun N hN => by cases hN; exact hb2) hs K
  | invokespecial w =>
    obtain rfl : len = 3 := hlen.resolve_left Bool.false_ne_true
    cases h3 : Nat.beq a3 1 with
    | true =>
      have hok2 : (bif Nat.beq a3 1 then (mOL.any fun e => Nat.beq e.1 own && Nat.beq e.2.1 w) else (mML.any fun e => Nat.beq e.1 own && Nat.beq e.2.1 w && Nat.beq e.2.2.1 a1) && Nat.beq (mMeth a1).2.2.2.2.2.2.1 a2 && !(mMeth a1).2.2.2.2.2.2.2.2 && decide ((mMeth a1).1.name = "<init>") && decide ((mMeth a1).2.2.2.1 = none)) = true := hok
      rw [h3] at hok2
      exact sim_objInit C0 hI hl hnl hdg (mOL_use hok2) hR (Nat.eq_of_beq_eq_true h3) hs K
    | false =>
      simp only [mStep2] at hs
      rw [h3] at hs
      simp only [cond_false] at hs
      simp only [Bool.cond_eq_ite] at hs
      split at hs
      · split at hs <;> cases hs
      · cases hs
  | invokestatic w =>
    obtain rfl : len = 3 := hlen.resolve_left Bool.false_ne_true
    cases h3 : Nat.beq a3 1 with
    | true =>
      have hok2 : (bif Nat.beq a3 1 then (mPL.any fun e => Nat.beq e.1 own && Nat.beq e.2.1 w) else (mML.any fun e => Nat.beq e.1 own && Nat.beq e.2.1 w && Nat.beq e.2.2.1 a1) && Nat.beq (mMeth a1).2.2.2.2.2.2.1 a2 && (mMeth a1).2.2.2.2.2.2.2.2) = true := hok
      rw [h3] at hok2
      exact sim_copy C0 hI hl hnl hdg (mPL_use hok2) hR (Nat.eq_of_beq_eq_true h3) hs K
    | false =>
      simp only [mStep2] at hs
      rw [h3] at hs
      simp only [cond_false] at hs
      simp only [Bool.cond_eq_ite] at hs
      split at hs <;> cases hs
  | invokevirtual w =>
    simp only [mStep2, Bool.cond_eq_ite] at hs
    split at hs <;> cases hs
  | ireturn =>
    simp only [mStep2] at hs
    split at hs
    · cases hs
    · split at hs <;> cases hs
    · cases hs
  | lreturn =>
    simp only [mStep2] at hs
    split at hs <;> cases hs
  | return_ =>
    simp only [mStep2] at hs
    split at hs <;> cases hs
  | aastore => cases hs
  | aconst_null => cases hs
  | aload _ => cases hs
  | aload_n _ => cases hs
  | anewarray _ => cases hs
  | areturn => cases hs
  | astore _ => cases hs
  | astore_n _ => cases hs
  | athrow => cases hs
  | bipush _ => cases hs
  | caload => cases hs
  | castore => cases hs
  | checkcast _ => cases hs
  | d2f => cases hs
  | d2i => cases hs
  | d2l => cases hs
  | dadd => cases hs
  | daload => cases hs
  | dastore => cases hs
  | dcmp _ => cases hs
  | dconst _ => cases hs
  | ddiv => cases hs
  | dload _ => cases hs
  | dload_n _ => cases hs
  | dmul => cases hs
  | dneg => cases hs
  | drem => cases hs
  | dreturn => cases hs
  | dstore _ => cases hs
  | dstore_n _ => cases hs
  | dsub => cases hs
  | dup => cases hs
  | dup_x1 => cases hs
  | dup_x2 => cases hs
  | dup2 => cases hs
  | dup2_x1 => cases hs
  | dup2_x2 => cases hs
  | f2d => cases hs
  | f2i => cases hs
  | f2l => cases hs
  | fadd => cases hs
  | faload => cases hs
  | fastore => cases hs
  | fcmp _ => cases hs
  | fconst _ => cases hs
  | fdiv => cases hs
  | fload _ => cases hs
  | fload_n _ => cases hs
  | fmul => cases hs
  | fneg => cases hs
  | frem => cases hs
  | freturn => cases hs
  | fstore _ => cases hs
  | fstore_n _ => cases hs
  | fsub => cases hs
  | getfield _ => cases hs
  | getstatic _ => cases hs
  | goto _ => cases hs
  | goto_w _ => cases hs
  | i2b => cases hs
  | i2c => cases hs
  | i2d => cases hs
  | i2f => cases hs
  | i2l => cases hs
  | i2s => cases hs
  | iadd => cases hs
  | iand => cases hs
  | iconst _ => cases hs
  | idiv => cases hs
  | if_acmp _ _ => cases hs
  | if_icmp _ _ => cases hs
  | ifCond _ _ => cases hs
  | ifnonnull _ => cases hs
  | ifnull _ => cases hs
  | iinc _ _ => cases hs
  | iload _ => cases hs
  | iload_n _ => cases hs
  | imul => cases hs
  | ineg => cases hs
  | instanceof _ => cases hs
  | invokedynamic _ => cases hs
  | invokeinterface _ _ => cases hs
  | ior => cases hs
  | irem => cases hs
  | ishl => cases hs
  | ishr => cases hs
  | istore _ => cases hs
  | istore_n _ => cases hs
  | isub => cases hs
  | iushr => cases hs
  | ixor => cases hs
  | jsr _ => cases hs
  | jsr_w _ => cases hs
  | l2d => cases hs
  | l2f => cases hs
  | l2i => cases hs
  | ladd => cases hs
  | land => cases hs
  | lcmp => cases hs
  | lconst _ => cases hs
  | ldc _ => cases hs
  | ldc_w _ => cases hs
  | ldc2_w _ => cases hs
  | ldiv => cases hs
  | lload _ => cases hs
  | lload_n _ => cases hs
  | lmul => cases hs
  | lneg => cases hs
  | lookupswitch _ _ => cases hs
  | lor => cases hs
  | lrem => cases hs
  | lshl => cases hs
  | lshr => cases hs
  | lstore _ => cases hs
  | lstore_n _ => cases hs
  | lsub => cases hs
  | lushr => cases hs
  | lxor => cases hs
  | monitorenter => cases hs
  | monitorexit => cases hs
  | nop => cases hs
  | pop => cases hs
  | pop2 => cases hs
  | putstatic _ => cases hs
  | ret _ => cases hs
  | saload => cases hs
  | sastore => cases hs
  | sipush _ => cases hs
  | swap => cases hs
  | tableswitch _ _ _ _ => cases hs
end S8
