/-! what a state of the small machine says of a state of the machine; locals -/
def mAd (z : Nat) (sa : Nat → Nat) (k : Nat) : Nat := if k < mBase then z + k else sa (k - mBase)
def mTv (ad : Nat → Nat) (v : Value) : Value := match v with
  | .ref k => .ref (ad k)
  | w => w
def mE (ad : Nat → Nat) (cy : Nat → ClassId) (c : mC) : va_E := match c with
  | .inl (ci, fs) => .inr (ci, fs.map (mTv ad))
  | .inr (k, .inl l) => .inl (cy k, l.length, .inl (fun j => l.getD j 0))
  | .inr (k, .inr (.inl l)) => .inl (cy k, l.length, .inr (.inl (fun j => l.getD j 0)))
  | .inr (k, .inr (.inr l)) => .inl (cy k, l.length, .inr (.inr (.inr (.inr (fun j => (l.getD j none).map ad)))))
def mWs (ad : Nat → Nat) (cy : Nat → ClassId) (h : mH) : va_W := h.mapIdx (fun k c => (ad k, mE ad cy c))
def mTys (cy : Nat → ClassId) : List (ClassId × FieldType) := [(cy 0, .int), (cy 1, .byte), (cy 2, .boolean), (cy 3, .long), (cy 4, .array .int)]
def mA (z : Nat) : Nat → Prop := fun q => z ≤ q
/-- the rows that nobody writes -/
def mRo (z : Nat) (sa : Nat → Nat) (ro : List (List Int32)) (U : State) (H : Heap) : Prop :=
  (∀ i, i < 5 → va_Z ((mSn[i]?).getD ("", "")).1 ((mSn[i]?).getD ("", "")).2 "[I" (.ref (sa i)) (mA z) U H) ∧ ∀ (i : Nat) (l : List Int32), ro[i]? = some l → va_T .int (sa i) l.length (fun j => .int (l.getD j 0)) (mA z) U H
theorem mRo.kept {z : Nat} {sa : Nat → Nat} {ro : List (List Int32)} {U : State} {H H1 : Heap} (h : mRo z sa ro U H) (hq : ∀ a : Nat, a < H.size → ¬ mA z a → H1[a]? = H[a]?) : mRo z sa ro U H1 :=
  ⟨fun i hi => (h.1 i hi).kept hq, fun i l hl => (h.2 i l hl).kept hq⟩
theorem mRo.moved {z : Nat} {sa : Nat → Nat} {ro : List (List Int32)} {u U : State} {H : Heap} (hvm : u.vm.Alike U.vm) (h : mRo z sa ro u H) : mRo z sa ro U H :=
  ⟨fun i hi => (h.1 i hi).moved hvm, fun i l hl => (h.2 i l hl).moved hvm⟩
/-- what stays while a method runs -/
def mCx (p : Program) (s : State) (m : MethodId) (args : Array Value) (c : Code) (cc : ByteArray) (nL : Nat) (own : String) (G : va_G) (cy : Nat → ClassId) (z : Nat) (sa : Nat → Nat) (ro : List (List Int32)) : Prop :=
  p.tables.exec = Jvm.exec ∧ c.code = cc ∧ c.maxLocals = nL ∧ s.vm.findClass own = some m.cls ∧ (∀ w ∈ mGw, w.before args s = true) ∧ va_K G vwCl (mTys cy) s ∧ mRo z sa ro s s.heap ∧ z ≤ s.heap.size
def mInv (G : va_G) (cy : Nat → ClassId) (z : Nat) (sa : Nat → Nat) (s : State) (h : mH) (H : Heap) (locs : List Loc) : Prop :=
  va_P G vwCl (mWs (mAd z sa) cy h) H ∧ va_D (mA z) (mWs (mAd z sa) cy h) ∧ va_S (mA z) s.heap H locs
def mLv (ad : Nat → Nat) (lo : mO) (ls : Array Slot) : Prop := ls.size = lo.length ∧ lv_wf ls ∧ ∀ (i : Nat) (v : Value), mLoad lo i = some v → ls[i]? = some (.val (mTv ad v))
theorem mTv_cat (ad : Nat → Nat) (v : Value) : (mTv ad v).category = v.category := by cases v <;> rfl
theorem mWs_get {ad : Nat → Nat} {cy : Nat → ClassId} {h : mH} {k : Nat} {c : mC} (hk : h[k]? = some c) : (mWs ad cy h)[k]? = some (ad k, mE ad cy c) := by
  simp [mWs, hk]
theorem mWs_set (ad : Nat → Nat) (cy : Nat → ClassId) (h : mH) (k : Nat) (c : mC) : mWs ad cy (h.set k c) = (mWs ad cy h).set k (ad k, mE ad cy c) := by
  unfold mWs
  apply List.ext_getElem?
  intro i
  simp only [List.getElem?_mapIdx, List.getElem?_set, List.length_mapIdx]
  by_cases hki : k = i
  · subst hki
    by_cases hl : k < h.length
    · simp [hl]
    · simp [hl]
  · simp [hki]
theorem mWs_app (ad : Nat → Nat) (cy : Nat → ClassId) (h : mH) (c : mC) : mWs ad cy (h ++ [c]) = mWs ad cy h ++ [(ad h.length, mE ad cy c)] := by
  simp [mWs, List.mapIdx_append]
theorem mWs_len (ad : Nat → Nat) (cy : Nat → ClassId) (h : mH) : (mWs ad cy h).length = h.length := by simp [mWs]
/-- the locals as the kit lists them -/
def mLs (ad : Nat → Nat) (lo : mO) : List (Nat × Value) := (List.range lo.length).filterMap fun i => (mLoad lo i).map fun v => (i, mTv ad v)
theorem mLoad_lt {lo : mO} {i : Nat} {v : Value} (h : mLoad lo i = some v) : i < lo.length := by
  unfold mLoad at h
  split at h
  · exact (List.getElem?_eq_some_iff.mp (by assumption)).1
  · cases h
theorem mLoad_get {lo : mO} {i : Nat} {v : Value} (h : mLoad lo i = some v) : lo[i]? = some (some v) := by
  unfold mLoad at h
  split at h
  · rename_i w hw
    rw [hw, h]
  · cases h
theorem mLoad_of {lo : mO} {i : Nat} {v : Value} (h : lo[i]? = some (some v)) : mLoad lo i = some v := by
  unfold mLoad
  rw [h]
theorem mLs_mem {ad : Nat → Nat} {lo : mO} {q : Nat × Value} (h : q ∈ mLs ad lo) : ∃ v, mLoad lo q.1 = some v ∧ q.2 = mTv ad v := by
  obtain ⟨i, -, hi⟩ := List.mem_filterMap.mp h
  cases hv : mLoad lo i with
  | none => rw [hv] at hi; cases hi
  | some v =>
    rw [hv] at hi
    cases hi
    exact ⟨v, hv, rfl⟩
theorem mLs_of {ad : Nat → Nat} {lo : mO} {i : Nat} {v : Value} (h : mLoad lo i = some v) : (i, mTv ad v) ∈ mLs ad lo :=
  List.mem_filterMap.mpr ⟨i, List.mem_range.mpr (mLoad_lt h), by rw [h]; rfl⟩
theorem mLv.to {ad : Nat → Nat} {lo : mO} {ls : Array Slot} (h : mLv ad lo ls) : lv_has ls lo.length (mLs ad lo) :=
  ⟨h.1, h.2.1, fun q hq => by
    obtain ⟨v, h1, h2⟩ := mLs_mem hq
    rw [h2]
    exact h.2.2 q.1 v h1⟩
theorem mLv.of {ad : Nat → Nat} {lo : mO} {ls : Array Slot} {n : Nat} {l : List (Nat × Value)} (h : lv_has ls n l) (hn : n = lo.length) (hq : ∀ (i : Nat) (v : Value), mLoad lo i = some v → (i, mTv ad v) ∈ l) : mLv ad lo ls :=
  ⟨h.1.trans hn, h.2.1, fun i v hv => h.2.2 _ (hq i v hv)⟩
theorem mClr_len (lo : mO) (i : Nat) : (mClr lo i).length = lo.length := by
  unfold mClr
  split
  · rfl
  · split
    · cases h : Nat.beq _ 2 <;> simp
    · rfl
theorem mClr_load {lo : mO} {i j : Nat} {v : Value} (h : mLoad (mClr lo i) j = some v) : mLoad lo j = some v ∧ ¬ (j + 1 = i ∧ v.category = 2) := by
  cases i with
  | zero => exact ⟨h, by omega⟩
  | succ k =>
    simp only [mClr] at h
    split at h
    · rename_i w hw
      cases hc : Nat.beq w.category 2 with
      | true =>
        rw [hc] at h
        simp only [cond_true] at h
        have h1 := mLoad_get h
        rw [List.getElem?_set] at h1
        split at h1
        · split at h1 <;> simp at h1
        · exact ⟨mLoad_of h1, by omega⟩
      | false =>
        rw [hc] at h
        simp only [cond_false] at h
        refine ⟨h, fun q => ?_⟩
        obtain ⟨q1, q2⟩ := q
        have hj : j = k := by omega
        subst hj
        have h1 := mLoad_get h
        rw [hw] at h1
        cases h1
        rw [q2] at hc
        exact absurd hc (by decide)
    · rename_i hn
      refine ⟨h, fun q => ?_⟩
      obtain ⟨q1, q2⟩ := q
      have hj : j = k := by omega
      subst hj
      exact hn v (mLoad_get h)
theorem mSt1_len (lo : mO) (i : Nat) (v : Value) : (mSt1 lo i v).length = lo.length := by simp [mSt1, mClr_len]
theorem mSt2_len (lo : mO) (i : Nat) (v : Value) : (mSt2 lo i v).length = lo.length := by simp [mSt2, mClr_len]
theorem mSt1_load {lo : mO} {i j : Nat} {x v : Value} (h : mLoad (mSt1 lo i x) j = some v) : (j = i ∧ v = x) ∨ (¬ j = i ∧ mLoad lo j = some v ∧ ¬ (j + 1 = i ∧ v.category = 2)) := by
  have h1 := mLoad_get h
  unfold mSt1 at h1
  rw [List.getElem?_set] at h1
  split at h1
  · rename_i hij
    split at h1
    · simp at h1
      exact Or.inl ⟨hij.symm, h1.symm⟩
    · cases h1
  · rename_i hij
    obtain ⟨a, b⟩ := mClr_load (mLoad_of h1)
    exact Or.inr ⟨fun q => hij q.symm, a, b⟩
theorem mSt2_load {lo : mO} {i j : Nat} {x v : Value} (h : mLoad (mSt2 lo i x) j = some v) : (j = i ∧ v = x) ∨ (¬ j = i ∧ ¬ j = i + 1 ∧ mLoad lo j = some v ∧ ¬ (j + 1 = i ∧ v.category = 2)) := by
  have h1 := mLoad_get h
  unfold mSt2 at h1
  rw [List.getElem?_set] at h1
  split at h1
  · split at h1
    · simp at h1
    · cases h1
  · rename_i hij
    rcases mSt1_load (mLoad_of h1) with q | ⟨q1, q2, q3⟩
    · exact Or.inl q
    · exact Or.inr ⟨q1, fun q => hij q.symm, q2, q3⟩
theorem mLv.st1 {ad : Nat → Nat} {lo : mO} {ls : Array Slot} {i : Nat} {x : Value} (h : lv_has ls lo.length ((i, mTv ad x) :: (mLs ad lo).filter (fun q => !(q.1 == i) && !(q.1 + 1 == i && q.2.category == 2)))) : mLv ad (mSt1 lo i x) ls := by
  refine mLv.of h (mSt1_len lo i x).symm (fun j v hv => ?_)
  rcases mSt1_load hv with ⟨rfl, rfl⟩ | ⟨q1, q2, q3⟩
  · exact List.mem_cons_self
  · refine List.mem_cons_of_mem _ (List.mem_filter.mpr ⟨mLs_of q2, ?_⟩)
    simp only [mTv_cat]
    simp [q1]
    rcases Decidable.em (j + 1 = i) with a | a
    · exact Or.inr (fun c => q3 ⟨a, c⟩)
    · exact Or.inl a
theorem mLv.st2 {ad : Nat → Nat} {lo : mO} {ls : Array Slot} {i : Nat} {x : Value} (h : lv_has ls lo.length ((i, mTv ad x) :: (mLs ad lo).filter (fun q => !(q.1 == i) && (!(q.1 == i + 1) && !(q.1 + 1 == i && q.2.category == 2))))) : mLv ad (mSt2 lo i x) ls := by
  refine mLv.of h (mSt2_len lo i x).symm (fun j v hv => ?_)
  rcases mSt2_load hv with ⟨rfl, rfl⟩ | ⟨q1, q0, q2, q3⟩
  · exact List.mem_cons_self
  · refine List.mem_cons_of_mem _ (List.mem_filter.mpr ⟨mLs_of q2, ?_⟩)
    simp only [mTv_cat]
    simp [q1, q0]
    rcases Decidable.em (j + 1 = i) with a | a
    · exact Or.inr (fun c => q3 ⟨a, c⟩)
    · exact Or.inl a
