/-! the law's walk out of a run of the small machine -/
theorem mHasRoom {s : State} {pl : Platform} {r r' : Room} (h : s.hasRoom pl r = true) (h1 : r'.frames ≤ r.frames) (h2 : r'.cells ≤ r.cells) (h3 : r'.slots ≤ r.slots) (h4 : r'.locals ≤ r.locals) : s.hasRoom pl r' = true := by
  unfold State.hasRoom at h ⊢
  simp only [Bool.and_eq_true, decide_eq_true_eq] at h ⊢
  obtain ⟨⟨⟨⟨a, b1, b2, b3, b4, b5⟩, c⟩, d⟩, f⟩ := h
  exact ⟨⟨⟨⟨by omega, by omega, by omega, by omega, by omega, b5⟩, by omega⟩, by omega⟩, f⟩
theorem W.room {p : Program} {l : Launch} {e : Env} {R R' : Room} {s : State} {m : MethodId} {args : Array Value} {below : List Frame} {meth : Method} {c : Code} {H : Heap} {locs : List Loc} {cells slots : Nat} {Q : State → Prop} {g : JFrame} (h1 : R'.frames ≤ R.frames) (h2 : R'.cells ≤ R.cells) (h3 : R'.slots ≤ R.slots) (h4 : R'.locals ≤ R.locals) (k : W p l e R' s m args below meth c H locs cells slots Q g) : W p l e R s m args below meth c H locs cells slots Q g :=
  fun T hT X => k T hT { X with room := mHasRoom X.room h1 h2 h3 h4 }
theorem W.mono {p : Program} {l : Launch} {e : Env} {R : Room} {s : State} {m : MethodId} {args : Array Value} {below : List Frame} {meth : Method} {c : Code} {H : Heap} {locs : List Loc} {cells slots : Nat} {Q Q' : State → Prop} {g : JFrame} (h : ∀ t, Q t → Q' t) (k : W p l e R s m args below meth c H locs cells slots Q g) : W p l e R s m args below meth c H locs cells slots Q' g := fun T hT X => by
  obtain ⟨t, a, b⟩ := k T hT X
  exact ⟨t, a, h t b⟩
theorem mArrAt {s : State} {A : Array Value} {ty : FieldType} (h : (Jvm.Cond.arrayClass ty).before A s = true) : ∃ cA : ClassId, ArrOfT s cA ty ∧ s.vm.findClass ("[" ++ ty.toString) = some cA := by
  obtain ⟨c, k, comp, h1, h2, h3⟩ := Cond.arrayClass_spec h
  exact ⟨c, fun n z => ⟨fun k h => (by cases h), k, h2, comp, h3⟩, h1⟩
theorem mAo_gen2 {fc : Option Nat} {fi : Nat → Option Nat} {g : Nat → Option Bool} (h : ((fc.bind fun comp => (fi comp).bind fun c => g c) == some true) = true) : ∃ c, g c = some true := by
  cases hc : fc with
  | none => rw [hc] at h; simp at h
  | some comp =>
    rw [hc] at h
    simp only [Option.bind_some] at h
    cases hx : fi comp with
    | none => rw [hx] at h; simp at h
    | some c =>
      rw [hx] at h
      simp only [Option.bind_some] at h
      exact ⟨c, by simpa using h⟩
theorem mArrArr {s : State} (h : mAo s) : ∃ cA : ClassId, ArrOfT s cA (.array .int) ∧ s.vm.findClass ("[" ++ (FieldType.array .int).toString) = some cA := by
  unfold mAo Jvm.Cond.before Jvm.Cond.holds at h
  simp only [Jvm.Cond.value] at h
  obtain ⟨c, hg⟩ := mAo_gen2 h
  cases hk : s.vm.classes[c]? with
  | none => rw [hk] at hg; cases hg
  | some k =>
    rw [hk] at hg
    simp only [Option.map_some, Option.some.injEq] at hg
    split at hg
    · rename_i comp ty hkind
      simp only [Bool.and_eq_true, decide_eq_true_eq] at hg
      obtain ⟨rfl, h2⟩ := hg
      exact ⟨c, fun n z => ⟨fun k h => (by cases h), k, hk, comp, hkind⟩, h2⟩
    · cases hg
/-- the rows that nobody writes: the five of the classes, and the script -/
def mRoL (xs : List Int32) : List (List Int32) := mStat ++ [xs]
theorem mSt0_at {args : Array Value} {s : State} (hs : ∀ w ∈ flatC (Jvm.Cond.and given_1 narrow_1), w.before args s = true) (hts : ∀ w ∈ lw_tbl, w.before args s = true) : ∃ t : Nat, va_Z "ColdHolds$Hold" "LEAST_SET" "[I" (.ref t) (mA s.heap.size) s s.heap ∧ va_T .int t 4 (fun j => .int (([0, 0, 1, 0] : List Int32).getD j 0)) (mA s.heap.size) s s.heap := by
  have hA : ∀ a : Nat, a < s.heap.size → ¬ mA s.heap.size a := fun a h q => by have q : s.heap.size ≤ a := q; omega
  have harr : (Jvm.Cond.arrayOf (Jvm.Term.static "ColdHolds$Hold" "LEAST_SET" "[I") .int).before args s = true := hs _ (by decide +kernel)
  have hlen := va_eqt (hs (Jvm.Cond.eq (Jvm.Term.length (Jvm.Term.static "ColdHolds$Hold" "LEAST_SET" "[I")) (Jvm.Term.int (4 : Int32))) (by decide +kernel))
  have e0 := va_eqt (hs (Jvm.Cond.eq (Jvm.Term.elem (Jvm.Term.static "ColdHolds$Hold" "LEAST_SET" "[I") (Jvm.Term.int (0 : Int32))) (Jvm.Term.int (0 : Int32))) (by decide +kernel))
  have e1 := va_eqt (hs (Jvm.Cond.eq (Jvm.Term.elem (Jvm.Term.static "ColdHolds$Hold" "LEAST_SET" "[I") (Jvm.Term.int (1 : Int32))) (Jvm.Term.int (0 : Int32))) (by decide +kernel))
  have e2 := va_eqt (hs (Jvm.Cond.eq (Jvm.Term.elem (Jvm.Term.static "ColdHolds$Hold" "LEAST_SET" "[I") (Jvm.Term.int (2 : Int32))) (Jvm.Term.int (1 : Int32))) (by decide +kernel))
  have e3 := va_eqt (hs (Jvm.Cond.eq (Jvm.Term.elem (Jvm.Term.static "ColdHolds$Hold" "LEAST_SET" "[I") (Jvm.Term.int (3 : Int32))) (Jvm.Term.int (0 : Int32))) (by decide +kernel))
  obtain ⟨t, ht, hT⟩ := va_Tof (N := 4) (f := fun j => .int (([0, 0, 1, 0] : List Int32).getD j 0)) (A := mA s.heap.size) (by decide) harr hlen (fun j hj => by
    rcases (show j = 0 ∨ j = 1 ∨ j = 2 ∨ j = 3 by omega) with rfl | rfl | rfl | rfl
    · exact e0
    · exact e1
    · exact e2
    · exact e3) hA
  exact ⟨t, va_Zof (hts _ (mIs_mem (p := 518) (by decide +kernel))) (hts _ (mIs_mem (p := 65) (by decide +kernel))) ht hA, hT⟩
theorem mSt1_at {args : Array Value} {s : State} (hs : ∀ w ∈ flatC (Jvm.Cond.and given_1 narrow_1), w.before args s = true) (hts : ∀ w ∈ lw_tbl, w.before args s = true) : ∃ t : Nat, va_Z "ColdHolds$Hold" "MOST_SET" "[I" (.ref t) (mA s.heap.size) s s.heap ∧ va_T .int t 4 (fun j => .int (([20, 60, 9, 9999] : List Int32).getD j 0)) (mA s.heap.size) s s.heap := by
  have hA : ∀ a : Nat, a < s.heap.size → ¬ mA s.heap.size a := fun a h q => by have q : s.heap.size ≤ a := q; omega
  have harr : (Jvm.Cond.arrayOf (Jvm.Term.static "ColdHolds$Hold" "MOST_SET" "[I") .int).before args s = true := hs _ (by decide +kernel)
  have hlen := va_eqt (hs (Jvm.Cond.eq (Jvm.Term.length (Jvm.Term.static "ColdHolds$Hold" "MOST_SET" "[I")) (Jvm.Term.int (4 : Int32))) (by decide +kernel))
  have e0 := va_eqt (hs (Jvm.Cond.eq (Jvm.Term.elem (Jvm.Term.static "ColdHolds$Hold" "MOST_SET" "[I") (Jvm.Term.int (0 : Int32))) (Jvm.Term.int (20 : Int32))) (by decide +kernel))
  have e1 := va_eqt (hs (Jvm.Cond.eq (Jvm.Term.elem (Jvm.Term.static "ColdHolds$Hold" "MOST_SET" "[I") (Jvm.Term.int (1 : Int32))) (Jvm.Term.int (60 : Int32))) (by decide +kernel))
  have e2 := va_eqt (hs (Jvm.Cond.eq (Jvm.Term.elem (Jvm.Term.static "ColdHolds$Hold" "MOST_SET" "[I") (Jvm.Term.int (2 : Int32))) (Jvm.Term.int (9 : Int32))) (by decide +kernel))
  have e3 := va_eqt (hs (Jvm.Cond.eq (Jvm.Term.elem (Jvm.Term.static "ColdHolds$Hold" "MOST_SET" "[I") (Jvm.Term.int (3 : Int32))) (Jvm.Term.int (9999 : Int32))) (by decide +kernel))
  obtain ⟨t, ht, hT⟩ := va_Tof (N := 4) (f := fun j => .int (([20, 60, 9, 9999] : List Int32).getD j 0)) (A := mA s.heap.size) (by decide) harr hlen (fun j hj => by
    rcases (show j = 0 ∨ j = 1 ∨ j = 2 ∨ j = 3 by omega) with rfl | rfl | rfl | rfl
    · exact e0
    · exact e1
    · exact e2
    · exact e3) hA
  exact ⟨t, va_Zof (hts _ (mIs_mem (p := 520) (by decide +kernel))) (hts _ (mIs_mem (p := 65) (by decide +kernel))) ht hA, hT⟩
theorem mSt2_at {args : Array Value} {s : State} (hs : ∀ w ∈ flatC (Jvm.Cond.and given_1 narrow_1), w.before args s = true) (hts : ∀ w ∈ lw_tbl, w.before args s = true) : ∃ t : Nat, va_Z "ColdHolds$Market" "LEAST_SET" "[I" (.ref t) (mA s.heap.size) s s.heap ∧ va_T .int t 4 (fun j => .int (([0, 0, 0, 1] : List Int32).getD j 0)) (mA s.heap.size) s s.heap := by
  have hA : ∀ a : Nat, a < s.heap.size → ¬ mA s.heap.size a := fun a h q => by have q : s.heap.size ≤ a := q; omega
  have harr : (Jvm.Cond.arrayOf (Jvm.Term.static "ColdHolds$Market" "LEAST_SET" "[I") .int).before args s = true := hs _ (by decide +kernel)
  have hlen := va_eqt (hs (Jvm.Cond.eq (Jvm.Term.length (Jvm.Term.static "ColdHolds$Market" "LEAST_SET" "[I")) (Jvm.Term.int (4 : Int32))) (by decide +kernel))
  have e0 := va_eqt (hs (Jvm.Cond.eq (Jvm.Term.elem (Jvm.Term.static "ColdHolds$Market" "LEAST_SET" "[I") (Jvm.Term.int (0 : Int32))) (Jvm.Term.int (0 : Int32))) (by decide +kernel))
  have e1 := va_eqt (hs (Jvm.Cond.eq (Jvm.Term.elem (Jvm.Term.static "ColdHolds$Market" "LEAST_SET" "[I") (Jvm.Term.int (1 : Int32))) (Jvm.Term.int (0 : Int32))) (by decide +kernel))
  have e2 := va_eqt (hs (Jvm.Cond.eq (Jvm.Term.elem (Jvm.Term.static "ColdHolds$Market" "LEAST_SET" "[I") (Jvm.Term.int (2 : Int32))) (Jvm.Term.int (0 : Int32))) (by decide +kernel))
  have e3 := va_eqt (hs (Jvm.Cond.eq (Jvm.Term.elem (Jvm.Term.static "ColdHolds$Market" "LEAST_SET" "[I") (Jvm.Term.int (3 : Int32))) (Jvm.Term.int (1 : Int32))) (by decide +kernel))
  obtain ⟨t, ht, hT⟩ := va_Tof (N := 4) (f := fun j => .int (([0, 0, 0, 1] : List Int32).getD j 0)) (A := mA s.heap.size) (by decide) harr hlen (fun j hj => by
    rcases (show j = 0 ∨ j = 1 ∨ j = 2 ∨ j = 3 by omega) with rfl | rfl | rfl | rfl
    · exact e0
    · exact e1
    · exact e2
    · exact e3) hA
  exact ⟨t, va_Zof (hts _ (mIs_mem (p := 880) (by decide +kernel))) (hts _ (mIs_mem (p := 73) (by decide +kernel))) ht hA, hT⟩
theorem mSt3_at {args : Array Value} {s : State} (hs : ∀ w ∈ flatC (Jvm.Cond.and given_1 narrow_1), w.before args s = true) (hts : ∀ w ∈ lw_tbl, w.before args s = true) : ∃ t : Nat, va_Z "ColdHolds$Market" "MOST_SET" "[I" (.ref t) (mA s.heap.size) s s.heap ∧ va_T .int t 4 (fun j => .int (([999, 99, 6, 6] : List Int32).getD j 0)) (mA s.heap.size) s s.heap := by
  have hA : ∀ a : Nat, a < s.heap.size → ¬ mA s.heap.size a := fun a h q => by have q : s.heap.size ≤ a := q; omega
  have harr : (Jvm.Cond.arrayOf (Jvm.Term.static "ColdHolds$Market" "MOST_SET" "[I") .int).before args s = true := hs _ (by decide +kernel)
  have hlen := va_eqt (hs (Jvm.Cond.eq (Jvm.Term.length (Jvm.Term.static "ColdHolds$Market" "MOST_SET" "[I")) (Jvm.Term.int (4 : Int32))) (by decide +kernel))
  have e0 := va_eqt (hs (Jvm.Cond.eq (Jvm.Term.elem (Jvm.Term.static "ColdHolds$Market" "MOST_SET" "[I") (Jvm.Term.int (0 : Int32))) (Jvm.Term.int (999 : Int32))) (by decide +kernel))
  have e1 := va_eqt (hs (Jvm.Cond.eq (Jvm.Term.elem (Jvm.Term.static "ColdHolds$Market" "MOST_SET" "[I") (Jvm.Term.int (1 : Int32))) (Jvm.Term.int (99 : Int32))) (by decide +kernel))
  have e2 := va_eqt (hs (Jvm.Cond.eq (Jvm.Term.elem (Jvm.Term.static "ColdHolds$Market" "MOST_SET" "[I") (Jvm.Term.int (2 : Int32))) (Jvm.Term.int (6 : Int32))) (by decide +kernel))
  have e3 := va_eqt (hs (Jvm.Cond.eq (Jvm.Term.elem (Jvm.Term.static "ColdHolds$Market" "MOST_SET" "[I") (Jvm.Term.int (3 : Int32))) (Jvm.Term.int (6 : Int32))) (by decide +kernel))
  obtain ⟨t, ht, hT⟩ := va_Tof (N := 4) (f := fun j => .int (([999, 99, 6, 6] : List Int32).getD j 0)) (A := mA s.heap.size) (by decide) harr hlen (fun j hj => by
    rcases (show j = 0 ∨ j = 1 ∨ j = 2 ∨ j = 3 by omega) with rfl | rfl | rfl | rfl
    · exact e0
    · exact e1
    · exact e2
    · exact e3) hA
  exact ⟨t, va_Zof (hts _ (mIs_mem (p := 882) (by decide +kernel))) (hts _ (mIs_mem (p := 73) (by decide +kernel))) ht hA, hT⟩
theorem mSt4_at {args : Array Value} {s : State} (hs : ∀ w ∈ flatC (Jvm.Cond.and given_1 narrow_1), w.before args s = true) (hts : ∀ w ∈ lw_tbl, w.before args s = true) : ∃ t : Nat, va_Z "ColdHolds$Ring" "MOST_SET" "[I" (.ref t) (mA s.heap.size) s s.heap ∧ va_T .int t 4 (fun j => .int (([999, 99, 100, 999] : List Int32).getD j 0)) (mA s.heap.size) s s.heap := by
  have hA : ∀ a : Nat, a < s.heap.size → ¬ mA s.heap.size a := fun a h q => by have q : s.heap.size ≤ a := q; omega
  have harr : (Jvm.Cond.arrayOf (Jvm.Term.static "ColdHolds$Ring" "MOST_SET" "[I") .int).before args s = true := hs _ (by decide +kernel)
  have hlen := va_eqt (hs (Jvm.Cond.eq (Jvm.Term.length (Jvm.Term.static "ColdHolds$Ring" "MOST_SET" "[I")) (Jvm.Term.int (4 : Int32))) (by decide +kernel))
  have e0 := va_eqt (hs (Jvm.Cond.eq (Jvm.Term.elem (Jvm.Term.static "ColdHolds$Ring" "MOST_SET" "[I") (Jvm.Term.int (0 : Int32))) (Jvm.Term.int (999 : Int32))) (by decide +kernel))
  have e1 := va_eqt (hs (Jvm.Cond.eq (Jvm.Term.elem (Jvm.Term.static "ColdHolds$Ring" "MOST_SET" "[I") (Jvm.Term.int (1 : Int32))) (Jvm.Term.int (99 : Int32))) (by decide +kernel))
  have e2 := va_eqt (hs (Jvm.Cond.eq (Jvm.Term.elem (Jvm.Term.static "ColdHolds$Ring" "MOST_SET" "[I") (Jvm.Term.int (2 : Int32))) (Jvm.Term.int (100 : Int32))) (by decide +kernel))
  have e3 := va_eqt (hs (Jvm.Cond.eq (Jvm.Term.elem (Jvm.Term.static "ColdHolds$Ring" "MOST_SET" "[I") (Jvm.Term.int (3 : Int32))) (Jvm.Term.int (999 : Int32))) (by decide +kernel))
  obtain ⟨t, ht, hT⟩ := va_Tof (N := 4) (f := fun j => .int (([999, 99, 100, 999] : List Int32).getD j 0)) (A := mA s.heap.size) (by decide) harr hlen (fun j hj => by
    rcases (show j = 0 ∨ j = 1 ∨ j = 2 ∨ j = 3 by omega) with rfl | rfl | rfl | rfl
    · exact e0
    · exact e1
    · exact e2
    · exact e3) hA
  exact ⟨t, va_Zof (hts _ (mIs_mem (p := 988) (by decide +kernel))) (hts _ (mIs_mem (p := 75) (by decide +kernel))) ht hA, hT⟩
theorem mKnown {s : State} {A : Array Value} (hts : ∀ w ∈ lw_tbl, w.before A s = true) {ci : Nat} (h : ci < 13) : ∃ (cC : ClassId) (iS : Nat → Nat), u_Kn s (mCn ci) (mT ci) (mNf ci) cC iS := by
  have h3 := List.all_eq_true.mp mCp_ok ci (List.mem_range.mpr h)
  simp only [Bool.and_eq_true] at h3
  exact u_known (ws := mGw) (fun w hw => hts w (List.mem_filter.mp hw).1) (mCl_in h) (hts _ (mIs_mem h3.1))
theorem mCl_all {q : vw_C} {k : Nat} (h : vwCl[k]? = some q) : k < 13 ∧ q = (mCn k, mT k, mNf k) := by
  have hk : k < 13 := (List.getElem?_eq_some_iff.mp h).1
  exact ⟨hk, Option.some.inj (h.symm.trans (mCl_at hk))⟩
/-- from the law's entry: a run of the small machine gives the walk -/
theorem whole_of_run {p : Program} {e : Env} {s : State} {m : MethodId} {below : List Frame} {meth : Method} {c : Code} (l : Launch) {b L : Nat} {xs : Nat → Int32}
    (hx : p.tables.exec = Jvm.exec) (hb : c.code = code) (hr : meth.sig.returnType = ret) (hml : c.maxLocals = 4) (hown : s.vm.findClass RL = some m.cls) (hts : ∀ w ∈ lw_tbl, w.before #[Value.ref b] s = true) (hX : va_X b L xs s s.heap) (hbl : b < s.heap.size) (hlk : meth.locks = false) (hgv : (Jvm.Cond.and given_1 narrow_1).before #[Value.ref b] s = true)
    {d n : Nat} {h' : mH} {nc ns : Nat} (hd : d ≤ 2000) (hnc : nc ≤ 600000) (hns : ns ≤ 7302250)
    (hrun : mRunN (mBig (mRoL ((List.range L).map xs)) d) (mRoL ((List.range L).map xs)) 2 (mTab 264) n 0 (mEnt 4 [.ref (mBase + 5)]) [] [] (some (.int 1)) h' nc ns) :
    W p l e room_1 s m #[Value.ref b] below meth c s.heap [] 0 0 (fun t => ∃ o, t.status = .running ∧ Ended t below o ∧ o = .returned (some (.int 1)) ∧ Framed s o t [] 600000 7302250) (entryFrame m ([Value.ref b] : List Value).toArray 4) := by
  have hfl := flat_of_before _ hgv
  obtain ⟨t0, z0, T0⟩ := mSt0_at hfl hts
  obtain ⟨t1, z1, T1⟩ := mSt1_at hfl hts
  obtain ⟨t2, z2, T2⟩ := mSt2_at hfl hts
  obtain ⟨t3, z3, T3⟩ := mSt3_at hfl hts
  obtain ⟨t4, z4, T4⟩ := mSt4_at hfl hts
  obtain ⟨sa, hsa⟩ : ∃ sa : Nat → Nat, sa = fun i => match i with | 0 => t0 | 1 => t1 | 2 => t2 | 3 => t3 | 4 => t4 | _ => b := ⟨_, rfl⟩
  have hA : ∀ a : Nat, a < s.heap.size → ¬ mA s.heap.size a := fun a h q => by have q : s.heap.size ≤ a := q; omega
  have TX : va_T .int b ((List.range L).map xs).length (fun j => .int (((List.range L).map xs).getD j 0)) (mA s.heap.size) s s.heap := by
    obtain ⟨scr, k1, k2, k3, k4, k5⟩ := hX
    have hl : ((List.range L).map xs).length = L := by simp
    refine ⟨scr, k1, k2, k3, by rw [hl, k4]; exact Nat.le_refl _, by rw [hl, k4], fun j hj => ?_, hA b hbl⟩
    rw [hl] at hj
    show scr.slots[j]? = some (Value.int (((List.range L).map xs).getD j 0))
    rw [k5 j hj, List.getD_eq_getElem?_getD, List.getElem?_map, List.getElem?_range hj]
    rfl
  have hro : mRo s.heap.size sa (mRoL ((List.range L).map xs)) s s.heap := by
    subst hsa
    refine ⟨fun i hi => ?_, fun i q hq => ?_⟩
    · rcases (show i = 0 ∨ i = 1 ∨ i = 2 ∨ i = 3 ∨ i = 4 by omega) with rfl | rfl | rfl | rfl | rfl
      · exact z0
      · exact z1
      · exact z2
      · exact z3
      · exact z4
    · match i, hq with
      | 0, hq => cases hq; exact T0
      | 1, hq => cases hq; exact T1
      | 2, hq => cases hq; exact T2
      | 3, hq => cases hq; exact T3
      | 4, hq => cases hq; exact T4
      | 5, hq => cases hq; exact TX
      | i + 6, hq => simp [mRoL, mStat] at hq
  have hao : mAo s := mAo.of (hts _ mW_ao)
  have hnw : mNw s := ⟨fun a i x b hm => va_Nw.of rfl (hts _ hm), hao⟩
  obtain ⟨c0, a0, f0⟩ := mArrAt (hts _ mW_ai)
  obtain ⟨c1, a1, f1⟩ := mArrAt (hts _ mW_ab)
  obtain ⟨c2, a2, f2⟩ := mArrAt (hts _ mW_az)
  obtain ⟨c3, a3, f3⟩ := mArrAt (hts _ mW_al)
  obtain ⟨c4, a4, f4⟩ := mArrArr hao
  obtain ⟨cy, hcy⟩ : ∃ cy : Nat → ClassId, cy = fun i => match i with | 0 => c0 | 1 => c1 | 2 => c2 | 3 => c3 | _ => c4 := ⟨_, rfl⟩
  have hkn : ∀ ci : Nat, ∃ q : ClassId × (Nat → Nat), ci < 13 → u_Kn s (mCn ci) (mT ci) (mNf ci) q.1 q.2 := fun ci => by
    by_cases h : ci < 13
    · obtain ⟨a, b, h2⟩ := mKnown hts h
      exact ⟨(a, b), fun _ => h2⟩
    · exact ⟨(0, fun _ => 0), fun q => absurd q h⟩
  have hK : va_K (fun k => (Classical.choose (hkn k)).1, fun k => (Classical.choose (hkn k)).2) vwCl (mTys cy) s := by
    refine ⟨fun k q hq => ?_, fun k q hq => ?_⟩
    · obtain ⟨hk, rfl⟩ := mCl_all hq
      exact Classical.choose_spec (hkn k) hk
    · subst hcy
      match k, hq with
      | 0, hq => cases hq; exact ⟨a0, f0⟩
      | 1, hq => cases hq; exact ⟨a1, f1⟩
      | 2, hq => cases hq; exact ⟨a2, f2⟩
      | 3, hq => cases hq; exact ⟨a3, f3⟩
      | 4, hq => cases hq; exact ⟨a4, f4⟩
      | k + 5, hq => simp [mTys] at hq
  have C0 : mCx p s m #[Value.ref b] c code 4 (mOwn 16) (fun k => (Classical.choose (hkn k)).1, fun k => (Classical.choose (hkn k)).2) cy s.heap.size sa (mRoL ((List.range L).map xs)) :=
    ⟨hx, hb, hml, hown, fun w hw => hts w (List.mem_filter.mp hw).1, hK, hro, Nat.le_refl _⟩
  have hlen := mRunN_len (mBig_len d) n _ _ _ _ _ _ _ _ hrun
  have hC : ∀ y as h w h1 c1 s1, mBig (mRoL ((List.range L).map xs)) d y as h w h1 c1 s1 → y < 264 ∧ h1.length = h.length + c1 ∧ (h.length + c1 ≤ mBase → mMet l (fun k => (Classical.choose (hkn k)).1, fun k => (Classical.choose (hkn k)).2) cy s.heap.size sa (mRoL ((List.range L).map xs)) d y as h w h1 c1 s1) := fun y as h w h1 c1 s1 hc => ⟨by
    cases d with
    | zero => exact hc.elim
    | succ d => exact hc.1, mBig_len _ _ _ _ _ _ _ _ hc, fun hb => mBig_met _ _ _ _ _ _ _ _ hc hb⟩
  have hl := lv_entry [Value.ref b] (n := 4) (Nat.le_of_ble_eq_true rfl)
  rw [lg_entry_eq]
  have hlv : mLv (mAd s.heap.size sa) (mEnt 4 [.ref (mBase + 5)]) ((lg_sl [Value.ref b] ++ List.replicate (4 - (lg_sl [Value.ref b]).length) Slot.unset).toArray) := by
    refine mLv.of hl rfl (fun i v hv => ?_)
    have h9 := mFlat_at (mAd s.heap.size sa) 3 [.ref (mBase + 5)] 0 i v hv
    rw [Nat.zero_add] at h9
    have e9 : List.map (mTv (mAd s.heap.size sa)) [Value.ref (mBase + 5)] = [Value.ref b] := by
      show [Value.ref (mAd s.heap.size sa (mBase + 5))] = _
      rw [mAd_hi, hsa]
      rfl
    rw [e9] at h9
    exact h9
  have hW := mRunN_sim (l := l) (e := e) (below := below) (TC := nc) (TS := ns) hC C0 (mTab_ok 264 (Nat.zero_le _) (by decide)) (mTab_len 264) hnw (fun h => absurd h (by decide)) (rk := 2) hr hlk n 0 _ [] [] _ h' nc ns hrun s.heap [] 0 0 _ ⟨fun k q h => by simp [mWs] at h, ⟨fun i j p q h => by simp [mWs] at h, fun k q h => by simp [mWs] at h⟩, va_S.rf⟩ hlv rfl (by simp) (by show 0 + nc ≤ mBase; unfold mBase; omega) (by omega) (by omega)
  refine W.room (R' := mRm (d + 1) nc ns) (by show d + 1 + 1 ≤ 2048; omega) (by show nc ≤ 600000; omega) (by show ns ≤ 7302250; omega) (by show 32 * (d + 1) + 200 ≤ 84000; omega) (W.mono (fun t ht => ?_) hW)
  obtain ⟨o, g1, g2, ⟨g3, -⟩, Lc, ⟨g4, g5, g6⟩, g7⟩ := ht
  exact ⟨o, g1, g2, g3, g4, g5, g6.weaken (fun x hx hlt => absurd (show s.heap.size ≤ x.base from g7 x hx) (Nat.not_le.mpr hlt)) hnc hns⟩
