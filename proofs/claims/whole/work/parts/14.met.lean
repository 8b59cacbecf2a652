/-! THE BRIDGE: what the small machine does from a method's start to its end, the machine does (mBig_met) -/
theorem mStep1_lo {ro : List (List Int32)} {i : mI} {pc : Nat} {lo : mO} {st : List Value} {h : mH} {pc2 : Nat} {lo2 : mO} {st2 : List Value} {h2 : mH} {dc ds : Nat} (hs : mStep1 ro i pc lo st h = some (.inl (pc2, lo2, st2, h2, dc, ds))) : lo2.length = lo.length := by
  have go : ∀ {pc : Nat} {lo3 : mO} {st : List Value}, lo3.length = lo.length → mGo pc lo3 st h = some (.inl (pc2, lo2, st2, h2, dc, ds)) → lo2.length = lo.length := fun e q => by
    have := mGo_inv q
    simp only [Sum.inl.injEq, Prod.mk.injEq] at this
    obtain ⟨-, rfl, -⟩ := this
    exact e
  obtain ⟨ins, len, a1, a2, a3, v32, v64, sw⟩ := i
  cases ins <;> simp only [mStep1, mI2, mL2, mLI, Bool.cond_eq_ite] at hs <;> (repeat' split at hs) <;> first | exact go rfl hs | exact go (mSt1_len ..) hs | exact go (mSt2_len ..) hs | cases hs
theorem mStep2_lo {ro : List (List Int32)} {rk : Nat} {i : mI} {pc : Nat} {lo : mO} {st : List Value} {h : mH} {pc2 : Nat} {lo2 : mO} {st2 : List Value} {h2 : mH} {dc ds : Nat} (hs : mStep2 ro rk i pc lo st h = some (.inl (pc2, lo2, st2, h2, dc, ds))) : lo2 = lo := by
  have go : ∀ {pc : Nat} {st : List Value} {h3 : mH}, mGo pc lo st h3 = some (.inl (pc2, lo2, st2, h2, dc, ds)) → lo2 = lo := fun q => by
    have := mGo_inv q
    simp only [Sum.inl.injEq, Prod.mk.injEq] at this
    exact this.2.1
  obtain ⟨ins, len, a1, a2, a3, v32, v64, sw⟩ := i
  cases ins <;> simp only [mStep2, Bool.cond_eq_ite] at hs <;> (repeat' split at hs) <;> first
    | exact go hs
    | (simp only [Option.some.injEq, Sum.inl.injEq, Prod.mk.injEq] at hs
       exact hs.2.1.symm)
    | cases hs
theorem mStep2_ret {ro : List (List Int32)} {rk : Nat} {ins : Instr} {len a1 a2 a3 : Nat} {v32 : Int32} {v64 : Int64} {sw : List (Int32 × Nat)} {pc : Nat} {lo : mO} {st : List Value} {h : mH} {w : Option Value} (hs : mStep2 ro rk (ins, len, a1, a2, a3, v32, v64, sw) pc lo st h = some (.inr (.inl w))) : ins = .ireturn ∨ ins = .lreturn ∨ ins = .return_ := by
  have go : ∀ {pc : Nat} {st : List Value} {h3 : mH}, mGo pc lo st h3 = some (.inr (.inl w)) → ins = .ireturn ∨ ins = .lreturn ∨ ins = .return_ := fun q => by
    have := mGo_inv q
    cases this
  cases ins <;> simp only [mStep2, Bool.cond_eq_ite] at hs <;> first
    | exact Or.inl rfl
    | exact Or.inr (Or.inl rfl)
    | exact Or.inr (Or.inr rfl)
    | ((repeat' split at hs) <;> first | exact go hs | (cases hs; done))
theorem mStep2_call {ro : List (List Int32)} {rk : Nat} {ins : Instr} {len a1 a2 a3 : Nat} {v32 : Int32} {v64 : Int64} {sw : List (Int32 × Nat)} {pc : Nat} {lo : mO} {st : List Value} {h : mH} {y : Nat} {as r : List Value} (hs : mStep2 ro rk (ins, len, a1, a2, a3, v32, v64, sw) pc lo st h = some (.inr (.inr (y, as, r)))) : (∃ w, ins = .invokevirtual w) ∨ (∃ w, ins = .invokespecial w) ∨ (∃ w, ins = .invokestatic w) := by
  have go : ∀ {pc : Nat} {st : List Value} {h3 : mH}, mGo pc lo st h3 = some (.inr (.inr (y, as, r))) → (∃ w, ins = .invokevirtual w) ∨ (∃ w, ins = .invokespecial w) ∨ (∃ w, ins = .invokestatic w) := fun q => by
    have := mGo_inv q
    cases this
  cases ins <;> simp only [mStep2, Bool.cond_eq_ite] at hs <;> first
    | exact Or.inl ⟨_, rfl⟩
    | exact Or.inr (Or.inl ⟨_, rfl⟩)
    | exact Or.inr (Or.inr ⟨_, rfl⟩)
    | ((repeat' split at hs) <;> first | exact go hs | (cases hs; done))
theorem mRunN_sim {l : Launch} {p : Program} {e : Env} {s : State} {m : MethodId} {args : Array Value} {below : List Frame} {meth : Method} {c : Code} {cc : ByteArray} {nL own : Nat} {G : va_G} {cy : Nat → ClassId} {z : Nat} {sa : Nat → Nat} {ro : List (List Int32)} {rk : Nat} {ini : Bool} {tab : List (Option mI)} {C : mCal} {d TC TS : Nat}
    (hC : ∀ y as h w h1 c1 s1, C y as h w h1 c1 s1 → y < 264 ∧ h1.length = h.length + c1 ∧ (h.length + c1 ≤ mBase → mMet l G cy z sa ro d y as h w h1 c1 s1))
    (C0 : mCx p s m args c cc nL (mOwn own) G cy z sa ro) (hchk : mChk own ini cc 0 tab = true) (hlenT : ∀ (k : Nat) (i : mI), tab[k]? = some (some i) → mSwi i.1 = true ∨ i.2.1 = mLen i.1) (hNw : mNw s) (hini : ini = true → meth.name = "<init>")
    (hr : meth.sig.returnType = (match rk with | 0 => none | 1 => some .int | 2 => some .boolean | _ => some .long)) (hlk : meth.locks = false) :
    ∀ (n pc : Nat) (lo : mO) (st : List Value) (h : mH) (v : Option Value) (h' : mH) (nc ns : Nat), mRunN C ro rk tab n pc lo st h v h' nc ns → ∀ (H : Heap) (locs : List Loc) (cells slots : Nat) (ls : Array Slot), mInv G cy z sa s h H locs → mLv (mAd z sa) lo ls → lo.length = nL → s.heap.size + cells = z + h.length → h.length + nc ≤ mBase → cells + nc = TC → slots + ns = TS →
      W p l e (mRm (d + 1) TC TS) s m args below meth c H locs cells slots (mEnd below args s G cy z sa v h' TC TS) (F0 m pc ls (st.map (mTv (mAd z sa)))) := by
  have hz := C0.2.2.2.2.2.2.2
  have hRR : 1 ≤ (mRm (d + 1) TC TS).frames ∧ 200 ≤ (mRm (d + 1) TC TS).locals := ⟨by show 1 ≤ d + 1 + 1; omega, by show 200 ≤ 32 * (d + 1) + 200; omega⟩
  intro n
  induction n with
  | zero => intro pc lo st h v h' nc ns q; exact q.elim
  | succ n ih =>
    intro pc lo1 st h v h' nc ns q H locs cells slots ls hI hl1 hnl1 hszc hbase hTC hTS
    obtain ⟨i, lo, hi, hle0, q⟩ := q
    have hl : mLv (mAd z sa) lo ls := ⟨hl1.1.trans (mLe_len _ _ hle0).symm, hl1.2.1, fun i v hv => hl1.2.2 i v (mLe_load _ _ hle0 i v hv)⟩
    have hnl : lo.length = nL := (mLe_len _ _ hle0).trans hnl1
    obtain ⟨hdg, hok⟩ := mChk_get tab 0 pc i hchk hi
    rw [Nat.zero_add] at hdg hok
    have hln := hlenT pc i hi
    obtain ⟨ins, len, a1, a2, a3, v32, v64, sw⟩ := i
    refine W.sized (fun hle => ?_)
    have hsz := mSize hI hz hle hszc (by omega)
    split at q
    · exact q.elim
    · rename_i pc2 lo2 st2 h2 dc ds hs
      obtain ⟨nc2, ns2, e1, e2, q⟩ := q
      unfold mStep at hs
      cases hk : mKind ins with
      | true =>
        rw [hk] at hs
        simp only [cond_true] at hs
        have hlo := mStep1_lo hs
        refine sim1 C0 hI hl hdg hln hok hs ?_
        intro pc3 lo3 st3 hx ls3 hl3
        simp only [Sum.inl.injEq, Prod.mk.injEq] at hx
        obtain ⟨rfl, rfl, rfl, rfl, rfl, rfl⟩ := hx
        exact ih _ _ _ _ _ _ _ _ q H locs cells slots ls3 hI hl3 (by omega) hszc (by omega) (by omega) (by omega)
      | false =>
        rw [hk] at hs
        simp only [cond_false] at hs
        have hlo := mStep2_lo hs
        have hln2 := mStep2_len hs
        refine sim2 C0 hI hl hnl hNw hsz hini hRR (x := (pc2, lo2, st2, h2, dc, ds)) (by show h.length + dc ≤ mBase; omega) ⟨by show cells + dc ≤ TC; omega, by show slots + ds ≤ TS; omega⟩ hdg hln hok hs ?_
        intro pc3 lo3 st3 h3 dc3 ds3 hx H3 locs3 ls3 hI3 hl3
        simp only [Sum.inl.injEq, Prod.mk.injEq] at hx
        obtain ⟨rfl, rfl, rfl, rfl, rfl, rfl⟩ := hx
        exact ih _ _ _ _ _ _ _ _ q H3 locs3 (cells + dc) (slots + ds) ls3 hI3 hl3 (by rw [hlo]; exact hnl) (by omega) (by omega) (by omega) (by omega)
    · rename_i w hs
      obtain ⟨rfl, rfl, rfl, rfl⟩ := q
      obtain rfl : cells = TC := by omega
      obtain rfl : slots = TS := by omega
      unfold mStep at hs
      cases hk : mKind ins with
      | true =>
        rw [hk] at hs
        simp only [cond_true] at hs
        obtain ⟨_, _, _, hx⟩ := mStep1_len hs
        cases hx
      | false =>
        rw [hk] at hs
        simp only [cond_false] at hs
        rcases mStep2_ret hs with rfl | rfl | rfl
        · obtain rfl : len = 1 := hln.resolve_left Bool.false_ne_true
          exact sim_ireturn C0 hI hdg hr hlk hs
        · obtain rfl : len = 1 := hln.resolve_left Bool.false_ne_true
          exact sim_lreturn C0 hI hdg hr hlk hs
        · obtain rfl : len = 1 := hln.resolve_left Bool.false_ne_true
          exact sim_return C0 hI hdg hr hlk hs
    · rename_i y as r hs
      obtain ⟨w, h1, c1, s1, nc2, ns2, hc, e1, e2, q⟩ := q
      obtain ⟨hy, hh1, hM⟩ := hC _ _ _ _ _ _ _ hc
      have hM := hM (by omega)
      unfold mStep at hs
      cases hk : mKind ins with
      | true =>
        rw [hk] at hs
        simp only [cond_true] at hs
        obtain ⟨_, _, _, hx⟩ := mStep1_len hs
        cases hx
      | false =>
        rw [hk] at hs
        simp only [cond_false] at hs
        have kk : ∀ (H1 : Heap) (locs1 : List Loc), mInv G cy z sa s h1 H1 locs1 → W p l e (mRm (d + 1) TC TS) s m args below meth c H1 locs1 (cells + c1) (slots + s1) (mEnd below args s G cy z sa v h' TC TS) (F0 m (pc + 3) ls ((w.toList ++ r).map (mTv (mAd z sa)))) := fun H1 locs1 hI1 =>
          ih _ _ _ _ _ _ _ _ q H1 locs1 (cells + c1) (slots + s1) ls hI1 hl hnl (by omega) (by omega) (by omega) (by omega)
        have hf : cells + c1 ≤ TC ∧ slots + s1 ≤ TS := ⟨by omega, by omega⟩
        rcases mStep2_call hs with ⟨x, rfl⟩ | ⟨x, rfl⟩ | ⟨x, rfl⟩
        · obtain rfl : len = 3 := hln.resolve_left Bool.false_ne_true
          exact sim_inv l C0 hI hl hnl hNw hsz hdg hok hs hy hM hf kk
        · obtain rfl : len = 3 := hln.resolve_left Bool.false_ne_true
          exact sim_spec l C0 hI hl hnl hNw hsz hdg hok hs hy hM hf kk
        · obtain rfl : len = 3 := hln.resolve_left Bool.false_ne_true
          exact sim_stat l C0 hI hl hnl hNw hsz hdg hok hs hy hM hf kk
theorem mOfW {l : Launch} {y : MethodName} {ws ws' : List Jvm.Cond} {rm : Room} {Pc : Array Value → State → Prop} {Qc : Array Value → State → Outcome → State → Prop} {mc ms : Nat} {free : Addr → Prop} {cc : ByteArray} {maxL : Nat} {ret : Option FieldType}
    (hy : plainFor y = true) (hw : ws = Jvm.Cond.code y cc maxL ret :: ws')
    (body : ∀ p e s m args below meth c s₁, BodyLoose p l y (headSpec ws rm) cc maxL ret e s m args below meth c s₁ → c.maxLocals = maxL → Pc args s →
      W p l e (headSpec ws rm).room s m args below meth c s.heap [] 0 0 (MQ below Qc args s mc ms free) (entryFrame m args maxL)) : Met l y ws rm Pc Qc mc ms free := by
  refine MetFree.of_bodySF (code := cc) (maxLocals := maxL) (ret := ret) hy ?_ ?_
  · intro args s m h hn
    obtain ⟨meth, c, h1, h2, h3, h4, h5, h6, -, -⟩ := Cond.code_spec hn (atoms_spec (ws := ws) h _ (by rw [hw]; exact List.mem_cons_self))
    exact ⟨meth, c, h1, h2, h3, h4, h5, h6⟩
  · intro p e s m args below meth c s₁ B hml hP _
    have hh0 : s₁.heap = s.heap := by rw [B.state]; rfl
    obtain ⟨t, a1, o, b1, b2, b3⟩ := body p e s m args below meth c s₁ B hml hP s₁ hh0 (Stand.of_body B)
    exact ⟨t, o, a1, b1, b2, ⟨b3.1, b3.2⟩⟩
theorem mFlat_len (ad : Nat → Nat) (as : List Value) : (lg_sl (as.map (mTv ad))).length = (mFlat as).length := by
  induction as with
  | nil => rfl
  | cons v r ih =>
    unfold lg_sl at ih ⊢
    rw [List.map_cons, List.flatMap_cons, List.length_append, ih, mTv_cat]
    rw [show mFlat (v :: r) = bif Nat.beq v.category 2 then some v :: none :: mFlat r else some v :: mFlat r from rfl]
    cases hc : Nat.beq v.category 2 with
    | true => rw [if_pos (Nat.eq_of_beq_eq_true hc)]; simp; omega
    | false => rw [if_neg (fun q => by rw [q] at hc; cases hc)]; simp; omega
theorem mFlat_at (ad : Nat → Nat) (q : Nat) : ∀ (as : List Value) (k i : Nat) (v : Value), mLoad (mFlat as ++ List.replicate q none) i = some v → (k + i, mTv ad v) ∈ lv_args k (as.map (mTv ad)) := by
  intro as
  induction as with
  | nil =>
    intro k i v h
    have := mLoad_get h
    simp only [mFlat, List.nil_append, List.getElem?_replicate] at this
    split at this <;> simp at this
  | cons w r ih =>
    intro k i v h
    rw [List.map_cons]
    simp only [lv_args, mTv_cat]
    unfold mFlat at h
    cases hc : Nat.beq w.category 2 with
    | true =>
      rw [hc] at h
      rw [if_pos (Nat.eq_of_beq_eq_true hc)]
      have h := mLoad_get h
      cases i with
      | zero => simp at h; subst h; exact List.mem_cons_self
      | succ i =>
        cases i with
        | zero => simp at h
        | succ i =>
          simp only [cond_true, List.cons_append, List.getElem?_cons_succ] at h
          have := ih (k + 2) i v (mLoad_of h)
          rw [show k + (i + 1 + 1) = k + 2 + i by omega]
          exact List.mem_cons_of_mem _ this
    | false =>
      rw [hc] at h
      rw [if_neg (fun q => by rw [q] at hc; cases hc)]
      have h := mLoad_get h
      cases i with
      | zero => simp at h; subst h; exact List.mem_cons_self
      | succ i =>
        simp only [cond_false, List.cons_append, List.getElem?_cons_succ] at h
        have := ih (k + 1) i v (mLoad_of h)
        rw [show k + (i + 1) = k + 1 + i by omega]
        exact List.mem_cons_of_mem _ this
theorem mIni_use {y : Nat} (h : mIni y = true) : (mMeth y).1.name = "<init>" := by
  obtain ⟨k, hk, e⟩ := List.any_eq_true.mp h
  rw [← Nat.eq_of_beq_eq_true e]
  exact of_decide_eq_true (List.all_eq_true.mp mInis_ok k hk)
theorem mTab_len (y k : Nat) (i : mI) (h : (mTab y)[k]? = some (some i)) : mSwi i.1 = true ∨ i.2.1 = mLen i.1 := by
  unfold mTab at h
  cases ht : mTabs[y]? with
  | none => rw [ht] at h; simp at h
  | some t =>
    rw [ht] at h
    simp only [Option.getD_some] at h
    have h1 := List.all_eq_true.mp mLen_ok t (List.mem_of_getElem? ht)
    have h2 := List.all_eq_true.mp h1 (some i) (List.mem_of_getElem? h)
    simp only [Bool.or_eq_true] at h2
    rcases h2 with h2 | h2
    · exact Or.inl h2
    · exact Or.inr (Nat.eq_of_beq_eq_true h2)
theorem mBig_met {l : Launch} {G : va_G} {cy : Nat → ClassId} {z : Nat} {sa : Nat → Nat} {ro : List (List Int32)} : ∀ (d y : Nat) (as : List Value) (h : mH) (v : Option Value) (h' : mH) (nc ns : Nat), mBig ro d y as h v h' nc ns → h.length + nc ≤ mBase → mMet l G cy z sa ro d y as h v h' nc ns := by
  intro d
  induction d with
  | zero => intro y as h v h' nc ns q; exact q.elim
  | succ d ih =>
    intro y as h v h' nc ns q hbase
    obtain ⟨hy, hfl, n, q⟩ := q
    obtain ⟨q1, q2, q3, q4, q5, q6, q7, q8, q9, q10⟩ := mP_use hy
    unfold mMet
    refine mOfW q6 rfl ?_
    intro p e s m args below meth c s₁ B hml hv
    obtain ⟨rfl, hP, hD, hK, hro, hsz, hNw⟩ := hv
    have hts := atoms_spec B.pre
    have hown : s.vm.findClass (mMeth y).1.cls = some m.cls := findClass_of_methodNamed B.named
    have C0 : mCx p s m (as.map (mTv (mAd z sa))).toArray c (mMeth y).2.1 (mMeth y).2.2.1 (mOwn (mMeth y).2.2.2.2.1) G cy z sa ro :=
      ⟨B.exec, B.bytes, hml, by rw [q5]; exact hown, fun w hw => hts w (List.mem_cons_of_mem _ hw), hK, hro, by omega⟩
    have hle : (lg_sl (as.map (mTv (mAd z sa)))).length ≤ (mMeth y).2.2.1 := by rw [mFlat_len]; exact hfl
    have hl := lv_entry (as.map (mTv (mAd z sa))) hle
    rw [lg_entry_eq]
    have hel : (mEnt (mMeth y).2.2.1 as).length = (mMeth y).2.2.1 := by
      unfold mEnt
      rw [List.length_append, List.length_replicate]
      omega
    have hlv := mLv.of (ad := mAd z sa) (lo := mEnt (mMeth y).2.2.1 as) hl hel.symm (fun i v hv => by
      have := mFlat_at (mAd z sa) _ as 0 i v hv
      rwa [Nat.zero_add] at this)
    exact mRunN_sim (l := l) (C := mBig ro d) (fun y as h w h1 c1 s1 hc => ⟨by cases d with
        | zero => exact hc.elim
        | succ d => exact hc.1, mBig_len _ _ _ _ _ _ _ _ hc, fun hb => ih _ _ _ _ _ _ _ hc hb⟩) C0 (mTab_ok y (Nat.zero_le _) (by omega)) (mTab_len y) hNw (fun hi => by rw [(name_of_methodNamed B.named B.method).1]; exact mIni_use hi) (B.returns.trans q10) B.notSynchronized n 0 _ [] h v h' nc ns q s.heap [] 0 0 _ ⟨hP, hD, va_S.rf⟩ hlv hel (by omega) hbase (by omega) (by omega)
