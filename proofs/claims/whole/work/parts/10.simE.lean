/-! answers, copies, calls -/
theorem mCpy_fun (f g : List Int32) (sp dp n : Nat) (h4 : sp + n ≤ f.length) (h5 : dp + n ≤ g.length) : (fun j => (g.take dp ++ ((f.drop sp).take n ++ g.drop (dp + n))).getD j 0) = va_cpy (fun j => f.getD j 0) (fun j => g.getD j 0) sp dp n := by
  funext j
  unfold va_cpy
  simp only [List.getD_eq_getElem?_getD]
  have l1 : (g.take dp).length = dp := by rw [List.length_take]; omega
  have l2 : ((f.drop sp).take n).length = n := by rw [List.length_take, List.length_drop]; omega
  by_cases h : dp ≤ j ∧ j < dp + n
  · rw [if_pos h, List.getElem?_append_right (by omega), l1, List.getElem?_append_left (by omega), List.getElem?_take_of_lt (by omega), List.getElem?_drop]
  · rw [if_neg h]
    by_cases h6 : j < dp
    · rw [List.getElem?_append_left (by omega), List.getElem?_take_of_lt h6]
    · rw [List.getElem?_append_right (by omega), l1, List.getElem?_append_right (by omega), l2, List.getElem?_drop]
      congr 2
      omega
theorem mCpy_len (f g : List Int32) (sp dp n : Nat) (h4 : sp + n ≤ f.length) (h5 : dp + n ≤ g.length) : (g.take dp ++ ((f.drop sp).take n ++ g.drop (dp + n))).length = g.length := by
  simp only [List.length_append, List.length_take, List.length_drop]
  omega
theorem mCat_eq (st : List Value) : (st.map fun v => v.category).sum = mCat st := by
  induction st with
  | nil => rfl
  | cons v r ih => rw [List.map_cons, List.sum_cons, ih]; rfl
theorem mCat_tv (ad : Nat → Nat) (st : List Value) : mCat (st.map (mTv ad)) = mCat st := by
  induction st with
  | nil => rfl
  | cons v r ih => rw [List.map_cons]; show (mTv ad v).category + _ = v.category + _; rw [mTv_cat, ih]
/-- the room of a method at a depth -/
def mRm (d nc ns : Nat) : Room := { frames := d + 1, cells := nc, slots := ns, locals := 32 * d + 200 }
/-- other words that stay -/
def mNw (U : State) : Prop := (∀ (a : String) (i : Nat) (x : MethodName) (b : String), Jvm.Cond.methodLinkNest a i x b ∈ lw_tbl → va_Nw (.methodLinkNest a i x b) U) ∧ mAo U
theorem mNw.warm {s U : State} (hW : s.WarmedH U.vm) (h : mNw s) : mNw U := ⟨fun a i x b hm => va_Nw.warmM hW (h.1 a i x b hm), h.2.moved hW.alike⟩
theorem mNw.same {u U : State} (e : u.vm = U.vm) (h : mNw u) : mNw U := ⟨fun a i x b hm => va_Nw.same rfl e (h.1 a i x b hm), h.2.moved (by rw [e]; exact Vm.Alike.refl U.vm)⟩
/-- a method's start: the cells h, and what stays -/
def mPc (G : va_G) (cy : Nat → ClassId) (z : Nat) (sa : Nat → Nat) (ro : List (List Int32)) (as : List Value) (h : mH) : Array Value → State → Prop :=
  va_Pc (as.map (mTv (mAd z sa))) (fun U => va_P G vwCl (mWs (mAd z sa) cy h) U.heap ∧ va_D (mA z) (mWs (mAd z sa) cy h) ∧ va_K G vwCl (mTys cy) U ∧ mRo z sa ro U U.heap ∧ U.heap.size = z + h.length ∧ mNw U)
def mQc (G : va_G) (cy : Nat → ClassId) (z : Nat) (sa : Nat → Nat) (v : Option Value) (h : mH) : Array Value → State → Outcome → State → Prop := fun _ st o t =>
  o = .returned (v.map (mTv (mAd z sa))) ∧ va_P G vwCl (mWs (mAd z sa) cy h) t.heap ∧ va_D (mA z) (mWs (mAd z sa) cy h) ∧ va_F (mA z) st t
def mMet (l : Launch) (G : va_G) (cy : Nat → ClassId) (z : Nat) (sa : Nat → Nat) (ro : List (List Int32)) (d y : Nat) (as : List Value) (h : mH) (v : Option Value) (h' : mH) (nc ns : Nat) : Prop :=
  Met l (mMeth y).1 (.code (mMeth y).1 (mMeth y).2.1 (mMeth y).2.2.1 (mMeth y).2.2.2.1 :: mGw) (mRm d nc ns) (mPc G cy z sa ro as h) (mQc G cy z sa v h') nc ns (mA z)
theorem mPc_blind {G : va_G} {cy : Nat → ClassId} {z : Nat} {sa : Nat → Nat} {ro : List (List Int32)} {as : List Value} {h : mH} : FrameBlind (mPc G cy z sa ro as h) := fun a U g mk q => by
  obtain ⟨q0, q1, q2, q3, q4, q5, q6⟩ := q
  exact ⟨q0, q1, q2, va_K.moved (u := U) (U := U.calling g mk a) (Vm.Alike.refl U.vm) q3, mRo.moved (u := U) (U := U.calling g mk a) (Vm.Alike.refl U.vm) q4, q5, mNw.same (u := U) (U := U.calling g mk a) rfl q6⟩
section S4
variable {p : Program} {l : Launch} {e : Env} {R : Room} {s : State} {m : MethodId} {args : Array Value} {below : List Frame} {meth : Method} {c : Code} {H : Heap} {locs : List Loc} {cells slots : Nat} {Q : State → Prop}
variable {cc : ByteArray} {nL : Nat} {own : String} {G : va_G} {cy : Nat → ClassId} {z : Nat} {sa : Nat → Nat} {ro : List (List Int32)} {pc len a1 a2 a3 : Nat} {v32 : Int32} {v64 : Int64} {sw : List (Int32 × Nat)} {lo : mO} {st : List Value} {h : mH} {ls : Array Slot} {rk : Nat}
theorem W.sized (k : H.size ≤ s.heap.size + cells → W p l e R s m args below meth c H locs cells slots Q (F0 m pc ls st)) : W p l e R s m args below meth c H locs cells slots Q (F0 m pc ls st) :=
  fun T hT X => k (by rw [← hT]; exact X.same.2.2.1) T hT X
theorem mSize (hI : mInv G cy z sa s h H locs) (hz : z ≤ s.heap.size) (hle : H.size ≤ s.heap.size + cells) (hsz : s.heap.size + cells = z + h.length) (hlen : h.length ≤ mBase) : H.size = z + h.length := by
  cases hn : h.length with
  | zero =>
    have := hI.2.2.1
    omega
  | succ n =>
    have hk : h[n]? = some (h[n]'(by omega)) := List.getElem?_eq_getElem (by omega)
    have hlt := (hI.1 n _ (mWs_get hk)).lt
    have : mAd z sa n = z + n := mAd_lo (by omega)
    simp only at hlt
    omega
/-- what a method leaves, for its caller -/
abbrev mEnd (below : List Frame) (args : Array Value) (s : State) (G : va_G) (cy : Nat → ClassId) (z : Nat) (sa : Nat → Nat) (v : Option Value) (h' : mH) (nc ns : Nat) : State → Prop := MQ below (mQc G cy z sa v h') args s nc ns (mA z)
theorem mEnd_q (hI : mInv G cy z sa s h H locs) {v : Option Value} {t : State} (ht : t.heap = H) : mQc G cy z sa v h args s (.returned (v.map (mTv (mAd z sa)))) t :=
  ⟨rfl, by rw [ht]; exact hI.1, hI.2.1, hI.2.2.F ht⟩
theorem sim_ireturn (C0 : mCx p s m args c cc nL own G cy z sa ro) (hI : mInv G cy z sa s h H locs) {w : Option Value} (hdg : decode cc pc = .ok (.ireturn, 1)) (hr : meth.sig.returnType = (match rk with | 0 => none | 1 => some .int | 2 => some .boolean | _ => some .long)) (hlk : meth.locks = false)
    (hs : mStep2 ro rk (.ireturn, 1, a1, a2, a3, v32, v64, sw) pc lo st h = some (.inr (.inl w))) : W p l e R s m args below meth c H locs cells slots (mEnd below args s G cy z sa w h cells slots) (F0 m pc ls (st.map (mTv (mAd z sa)))) := by
  obtain ⟨hx, hb, hml, hown, hts, hK, hro, hz⟩ := C0
  simp only [mStep2] at hs
  split at hs
  · rename_i x
    cases hs
    exact W.zret hx hb hr rfl (fun t ht hW => mEnd_q hI ht) hI.2.2.2.2 hdg hlk
  · rename_i x
    split at hs
    · rename_i hy
      cases hs
      refine W.zret hx hb hr ?_ (fun t ht hW => mEnd_q hI ht) hI.2.2.2.2 hdg hlk
      rcases hy with rfl | rfl <;> decide
    · cases hs
  · cases hs
theorem sim_lreturn (C0 : mCx p s m args c cc nL own G cy z sa ro) (hI : mInv G cy z sa s h H locs) {w : Option Value} (hdg : decode cc pc = .ok (.lreturn, 1)) (hr : meth.sig.returnType = (match rk with | 0 => none | 1 => some .int | 2 => some .boolean | _ => some .long)) (hlk : meth.locks = false)
    (hs : mStep2 ro rk (.lreturn, 1, a1, a2, a3, v32, v64, sw) pc lo st h = some (.inr (.inl w))) : W p l e R s m args below meth c H locs cells slots (mEnd below args s G cy z sa w h cells slots) (F0 m pc ls (st.map (mTv (mAd z sa)))) := by
  obtain ⟨hx, hb, hml, hown, hts, hK, hro, hz⟩ := C0
  simp only [mStep2] at hs
  split at hs
  · cases hs
    exact W.lret hx hb hr (fun t ht hW => mEnd_q hI ht) hI.2.2.2.2 hdg hlk
  · cases hs
theorem sim_return (C0 : mCx p s m args c cc nL own G cy z sa ro) (hI : mInv G cy z sa s h H locs) {w : Option Value} (hdg : decode cc pc = .ok (.return_, 1)) (hr : meth.sig.returnType = (match rk with | 0 => none | 1 => some .int | 2 => some .boolean | _ => some .long)) (hlk : meth.locks = false)
    (hs : mStep2 ro rk (.return_, 1, a1, a2, a3, v32, v64, sw) pc lo st h = some (.inr (.inl w))) : W p l e R s m args below meth c H locs cells slots (mEnd below args s G cy z sa w h cells slots) (F0 m pc ls (st.map (mTv (mAd z sa)))) := by
  obtain ⟨hx, hb, hml, hown, hts, hK, hro, hz⟩ := C0
  simp only [mStep2] at hs
  split at hs
  · cases hs
    exact W.vret hx hb hr (fun t ht hW => mEnd_q hI ht) hI.2.2.2.2 hdg hlk
  · cases hs
theorem sim_objInit (C0 : mCx p s m args c cc nL own G cy z sa ro) (hI : mInv G cy z sa s h H locs) (hl : mLv (mAd z sa) lo ls) (hnl : lo.length = nL) {w : Nat} {x : mR} (hdg : decode cc pc = .ok (.invokespecial w, 3)) (ha : Jvm.Cond.methodLink own w objectInit ∈ lw_tbl) (hroom : 1 ≤ R.frames ∧ 200 ≤ R.locals) (h3 : a3 = 1)
    (hs : mStep2 ro rk (.invokespecial w, 3, a1, a2, a3, v32, v64, sw) pc lo st h = some x) (K : mKh p l e R s m args below meth c cells slots Q G cy z sa x) : W p l e R s m args below meth c H locs cells slots Q (F0 m pc ls (st.map (mTv (mAd z sa)))) := by
  obtain ⟨hx, hb, hml, hown, hts, hK, hro, hz⟩ := C0
  subst h3
  simp only [mStep2, Nat.beq, cond_true] at hs
  split at hs
  · rename_i k r
    cases hc : Nat.ble (mCat r) 8 with
    | false => rw [hc] at hs; cases hs
    | true =>
      rw [hc] at hs
      have := mGo_inv hs
      subst this
      have hc8 := Nat.le_of_ble_eq_true hc
      refine W.objInit hx hb hown (hts _ (mGw_in ha rfl)) (hts _ (mGw_in mW_oinst rfl)) (hts _ (mGw_in mW_ocode rfl)) rfl (by rw [hml, ← hnl]; exact hl.1) (rest := r.map (mTv (mAd z sa))) rfl hdg hroom.1 ?_ (K _ _ _ _ _ _ rfl H locs ls hI hl)
      rw [mCat_eq, mCat_tv]
      show 2 * 0 + _ + 12 ≤ _
      omega
  · cases hs
theorem sim_copy (C0 : mCx p s m args c cc nL own G cy z sa ro) (hI : mInv G cy z sa s h H locs) (hl : mLv (mAd z sa) lo ls) (hnl : lo.length = nL) {w : Nat} {x : mR} (hdg : decode cc pc = .ok (.invokestatic w, 3)) (ha : Jvm.Cond.methodLink own w arraycopyName ∈ lw_tbl) (hroom : 1 ≤ R.frames ∧ 200 ≤ R.locals) (h3 : a3 = 1)
    (hs : mStep2 ro rk (.invokestatic w, 3, a1, a2, a3, v32, v64, sw) pc lo st h = some x) (K : mKh p l e R s m args below meth c cells slots Q G cy z sa x) : W p l e R s m args below meth c H locs cells slots Q (F0 m pc ls (st.map (mTv (mAd z sa)))) := by
  obtain ⟨hx, hb, hml, hown, hts, hK, hro, hz⟩ := C0
  subst h3
  simp only [mStep2, Nat.beq, cond_true] at hs
  split at hs
  · rename_i n dp d sp sr r
    split at hs
    · rename_i f g hf hg
      split at hs
      · cases hs
      · rename_i hno
        have := mGo_inv hs
        subst this
        have h1 : ¬ sp < 0 := fun q => hno (Or.inl (Or.inl (Or.inl q)))
        have h2 : ¬ dp < 0 := fun q => hno (Or.inl (Or.inl (Or.inr q)))
        have h3 : ¬ n < 0 := fun q => hno (Or.inl (Or.inr q))
        have h4 : sp.toNatClampNeg + n.toNatClampNeg ≤ f.length := Nat.not_lt.mp fun q => hno (Or.inr (Or.inl (Or.inl q)))
        have h5 : dp.toNatClampNeg + n.toNatClampNeg ≤ g.length := Nat.not_lt.mp fun q => hno (Or.inr (Or.inl (Or.inr q)))
        have h6 : mCat r ≤ 8 := Nat.not_lt.mp fun q => hno (Or.inr (Or.inr q))
        refine va_copyi hx hb (by rw [hml, ← hnl]; exact hl.1.symm) hown (hts _ (mGw_in ha rfl)) (hts _ (mGw_in mW_native rfl)) (hts _ (mGw_in mW_cstat rfl)) (hts _ (mGw_in mW_sys rfl)) hK hI.1 hI.2.1 hI.2.2 sr d 0 0 (mWs_get hf) (mWs_get hg) (rfl : (mTys cy)[0]? = some (cy 0, .int)) (rfl : (mTys cy)[0]? = some (cy 0, .int)) rfl h1 h2 h3 h4 h5 (fun i _ => rfl) hroom.1 ?_ hdg (fun H1 locs1 hP hD hS => ?_)
        · rw [mCat_eq, mCat_tv]
          have e : nativeFrameWords "java/lang/System" "arraycopy" 5 + 11 ≤ 100 := by decide
          omega
        · have e : (mWs (mAd z sa) cy h).set d (mAd z sa d, .inl (cy 0, g.length, .inl (va_cpy (fun j => f.getD j 0) (fun j => g.getD j 0) sp.toNatClampNeg dp.toNatClampNeg n.toNatClampNeg))) = mWs (mAd z sa) cy (h.set d (.inr (0, .inl (g.take dp.toNatClampNeg ++ ((f.drop sp.toNatClampNeg).take n.toNatClampNeg ++ g.drop (dp.toNatClampNeg + n.toNatClampNeg)))))) := by
            rw [mWs_set]
            simp only [mE]
            rw [mCpy_len f g _ _ _ h4 h5, mCpy_fun f g _ _ _ h4 h5]
          rw [e] at hP hD
          exact K _ _ _ _ _ _ rfl H1 locs1 ls ⟨hP, hD, hS⟩ hl
    · cases hs
  · cases hs
end S4
