/-! new int[n][m] -/
def mAo (U : State) : Prop := (Jvm.Cond.arrayOver (.array .int)).before #[] U = true
theorem mAo.of {A : Array Value} {U : State} (h : (Jvm.Cond.arrayOver (.array .int)).before A U = true) : mAo U := h
theorem mAo.use {A : Array Value} {U : State} (h : mAo U) : (Jvm.Cond.arrayOver (.array .int)).before A U = true := h
theorem mAo_gen (fc fc' : Option Nat) (fi fi' : Nat → Option Nat) (g g' : Nat → Option Bool) (h1 : fc' = fc) (h2 : ∀ x, fi' x = fi x) (h3 : ∀ c, g' c = g c) : ((fc'.bind fun comp => (fi' comp).bind fun c => g' c) == some true) = ((fc.bind fun comp => (fi comp).bind fun c => g c) == some true) := by
  subst h1
  rw [show fi' = fi from funext h2, show g' = g from funext h3]
theorem mAo.moved {u U : State} (hvm : u.vm.Alike U.vm) (h : mAo u) : mAo U := by
  unfold mAo Jvm.Cond.before Jvm.Cond.holds at h ⊢
  simp only [Jvm.Cond.value] at h ⊢
  have hf : ∀ n, U.vm.findClass n = u.vm.findClass n := fun n => by rw [hvm.findClass]
  have hb : U.vm.bare = u.vm.bare := by first | exact hvm.bare_eq | exact hvm.bare_eq.symm
  refine (mAo_gen _ _ _ _ _ _ (hf _) (fun x => ?_) (fun c => ?_)).trans h
  · exact (va_idx_bare U.vm x).symm.trans ((congrArg (fun (b : Vm) => b.classes.findIdx? fun (y : Class) => match y.kind with | .array component _ => component == x | _ => false) hb).trans (va_idx_bare u.vm x))
  · cases hk : u.vm.classes[c]? with
    | none =>
      cases hk2 : U.vm.classes[c]? with
      | none => rfl
      | some k2 =>
        obtain ⟨k', hk', -⟩ := hvm.symm.2.2 _ _ hk2
        rw [hk] at hk'
        cases hk'
    | some k =>
      obtain ⟨k', hk', he⟩ := hvm.2.2 _ _ hk
      rw [hk']
      simp only [Option.map_some]
      have hkind : k'.kind = k.kind := by rw [he]
      rw [hkind, hf]
theorem mOut (c : ClassId) (N h0 : Nat) : ∀ i : Nat, Jvm.Free.Multi.outerC c N h0 i = arrV c N (fun j => va_rf (if j < i then some (h0 + 1 + j) else none))
  | 0 => by
    show ({ cls := c, slots := Array.replicate N .null, vm := .none } : Cell) = _
    rw [arrV_new]
    refine congrArg (arrV c N) (funext fun j => ?_)
    simp [va_rf]
  | i + 1 => by
    show (Jvm.Free.Multi.outerC c N h0 i).setSlot i (.ref (h0 + 1 + i)) = _
    rw [mOut c N h0 i, arrV_store]
    refine congrArg (arrV c N) (funext fun j => ?_)
    by_cases e : j = i
    · subst e
      simp [updV, va_rf]
    · by_cases h : j < i
      · simp [updV, e, h, Nat.lt_succ_of_lt h]
      · simp [updV, e, h, show ¬ j < i + 1 by omega]
theorem mWs_apps (ad : Nat → Nat) (cy : Nat → ClassId) : ∀ (r h : mH), mWs ad cy (h ++ r) = mWs ad cy h ++ r.mapIdx (fun k c => (ad (h.length + k), mE ad cy c)) := by
  intro r h
  simp [mWs, List.mapIdx_append, Nat.add_comm]
section S5
variable {p : Program} {l : Launch} {e : Env} {R : Room} {s : State} {m : MethodId} {args : Array Value} {below : List Frame} {meth : Method} {c : Code} {H : Heap} {locs : List Loc} {cells slots : Nat} {Q : State → Prop}
variable {cc : ByteArray} {nL : Nat} {own : String} {G : va_G} {cy : Nat → ClassId} {z : Nat} {sa : Nat → Nat} {ro : List (List Int32)} {pc len a1 a2 a3 : Nat} {v32 : Int32} {v64 : Int64} {sw : List (Int32 × Nat)} {lo : mO} {st : List Value} {h : mH} {ls : Array Slot} {rk : Nat}
theorem sim_mna (C0 : mCx p s m args c cc nL own G cy z sa ro) (hI : mInv G cy z sa s h H locs) (hl : mLv (mAd z sa) lo ls) {w : Nat} {x : mR} (hdg : decode cc pc = .ok (.multianewarray w 2, 4)) (ha : Jvm.Cond.classLink own w "[[I" ∈ lw_tbl) (hAo : mAo s) (hsz : H.size = z + h.length)
    (hlen : ∀ N : mN, x = .inl N → h.length + N.2.2.2.2.1 ≤ mBase) (hroom : ∀ N : mN, x = .inl N → cells + N.2.2.2.2.1 ≤ R.cells ∧ slots + N.2.2.2.2.2 ≤ R.slots)
    (hs : mStep2 ro rk (.multianewarray w 2, 4, a1, a2, a3, v32, v64, sw) pc lo st h = some x) (K : mKh p l e R s m args below meth c cells slots Q G cy z sa x) : W p l e R s m args below meth c H locs cells slots Q (F0 m pc ls (st.map (mTv (mAd z sa)))) := by
  obtain ⟨hx, hb, hml, hown, hts, hK, hro, hz⟩ := C0
  simp only [mStep2] at hs
  split at hs
  · rename_i k n r
    split at hs
    · cases hs
    · rename_i h0
      have := (Option.some.inj hs).symm
      subst this
      have hn0 : ¬ n < 0 := fun q => h0 (Or.inl (Or.inl q))
      have hn1 : n.toNatClampNeg ≤ 4096 := Nat.not_lt.mp fun q => h0 (Or.inl (Or.inr q))
      have hk0 : ¬ k < 0 := fun q => h0 (Or.inr (Or.inl q))
      have hk1 : k.toNatClampNeg ≤ 4096 := Nat.not_lt.mp fun q => h0 (Or.inr (Or.inr q))
      obtain ⟨hroom1, hroom2⟩ := hroom _ rfl
      have hlen := hlen _ rfl
      simp only at hroom1 hroom2 hlen
      intro T hT Xs
      obtain ⟨vm₁, cA, comp, -, fA, fC, hO, -, X', step⟩ := Xs.multianewarray2F hx hown (hts _ (mGw_in ha rfl)) (mAo.use hAo) (hts _ (mGw_in mW_ai rfl)) (ty := .int) (g := F0 m pc ls (.int k :: .int n :: r.map (mTv (mAd z sa)))) rfl (by rw [hb]; exact hdg) rfl hn0 hk0 (by omega) (by show k.toNatClampNeg * 4 ≤ _; omega) (by omega) (by decide) (by decide) (by omega) (by omega)
      have hcA : cA = cy 4 := by
        have q2 : s.vm.findClass ("[" ++ (FieldType.array .int).toString) = some (cy 4) := (hK.2 4 (cy 4, .array .int) rfl).2
        exact Option.some.inj (fA.symm.trans q2)
      have hcC : comp = cy 0 := by
        have q2 : s.vm.findClass ("[" ++ FieldType.int.toString) = some (cy 0) := (hK.2 0 (cy 0, .int) rfl).2
        have q3 : (FieldType.array FieldType.int).toString = "[" ++ FieldType.int.toString := by decide +kernel
        rw [q3] at fC
        exact Option.some.inj (fC.symm.trans q2)
      subst hcA
      subst hcC
      generalize hF : Jvm.Free.Multi.fill (T.setVm vm₁) (cy 4) (cy 0) n.toNatClampNeg k.toNatClampNeg (defaultValue .int) n.toNatClampNeg = F at X' step
      have hTh : (T.setVm vm₁).heap = H := hT
      obtain ⟨f1, f2, -, -⟩ := Jvm.Free.Multi.fill_facts (T.setVm vm₁) (cy 4) (cy 0) n.toNatClampNeg k.toNatClampNeg (defaultValue .int) n.toNatClampNeg
      rw [hF, hTh] at f1 f2
      have hold : ∀ x : Nat, x < H.size → F.heap[x]? = H[x]? := fun x hx => by
        have := Jvm.Free.Multi.fill_old (T.setVm vm₁) (cy 4) (cy 0) n.toNatClampNeg k.toNatClampNeg (defaultValue .int) (a := x) (by rw [hTh]; exact hx) n.toNatClampNeg
        rw [hF, hTh] at this
        exact this
      have hrow : ∀ j : Nat, j < n.toNatClampNeg → F.heap[H.size + 1 + j]? = some (vp_cell (cy 0) (k.toNatClampNeg, .inl fun _ => 0)) := fun j hj => by
        have := Jvm.Free.Multi.fill_inner (T.setVm vm₁) (cy 4) (cy 0) n.toNatClampNeg k.toNatClampNeg (defaultValue .int) n.toNatClampNeg j hj
        rw [hF, hTh] at this
        rw [this, vp_cell_i, ← arrV_new]
        rfl
      rw [mOut] at f2
      have ead : ∀ j : Nat, j ≤ n.toNatClampNeg → mAd z sa (h.length + j) = H.size + j := fun j hj => by rw [mAd_lo (by omega), hsz]; omega
      have hh2 : ∀ (j : Nat) (q : Nat × va_E), ((.inr (4, .inr (.inr ((List.range n.toNatClampNeg).map fun i => some (h.length + 1 + i)))) :: List.replicate n.toNatClampNeg (mArr 0 k.toNatClampNeg) : mH).mapIdx (fun k c => (mAd z sa (h.length + k), mE (mAd z sa) cy c)))[j]? = some q → j ≤ n.toNatClampNeg ∧ q.1 = H.size + j ∧ va_at G vwCl q F.heap := by
        intro j q hq
        rw [List.getElem?_mapIdx] at hq
        cases j with
        | zero =>
          simp only [List.getElem?_cons_zero, Option.map_some, Option.some.injEq] at hq
          subst hq
          refine ⟨Nat.zero_le _, ead 0 (Nat.zero_le _), ?_⟩
          show F.heap[mAd z sa (h.length + 0)]? = some (vp_cell (cy 4) (_, .inr (.inr (.inr (.inr _)))))
          rw [ead 0 (Nat.zero_le _), Nat.add_zero, f2, vp_cell_q]
          simp only [List.length_map, List.length_range]
          refine congrArg some (congrArg (arrV (cy 4) n.toNatClampNeg) (funext fun j => ?_))
          rw [List.getD_eq_getElem?_getD, List.getElem?_map]
          by_cases hj : j < n.toNatClampNeg
          · rw [if_pos hj, List.getElem?_range hj]
            simp only [Option.map_some, Option.getD_some]
            rw [show h.length + 1 + j = h.length + (1 + j) by omega, ead (1 + j) (by omega)]
            rw [show H.size + 1 + j = H.size + (1 + j) by omega]
          · rw [if_neg hj, List.getElem?_eq_none (by rw [List.length_range]; omega)]
            rfl
        | succ j =>
          simp only [List.getElem?_cons_succ, List.getElem?_replicate] at hq
          split at hq
          · rename_i hj
            simp only [Option.map_some, Option.some.injEq] at hq
            subst hq
            refine ⟨hj, ead (j + 1) hj, ?_⟩
            show F.heap[mAd z sa (h.length + (j + 1))]? = some (vp_cell (cy 0) (_, .inl _))
            rw [ead (j + 1) hj, show H.size + (j + 1) = H.size + 1 + j by omega, hrow j hj, vp_cell_i, vp_cell_i]
            simp only [List.length_replicate]
            refine congrArg some (congrArg (arrV (cy 0) k.toNatClampNeg) (funext fun i => ?_))
            rw [List.getD_eq_getElem?_getD, List.getElem?_replicate]
            split <;> rfl
          · simp at hq
      have hP1 : va_P G vwCl (mWs (mAd z sa) cy (h ++ (.inr (4, .inr (.inr ((List.range n.toNatClampNeg).map fun i => some (h.length + 1 + i)))) :: List.replicate n.toNatClampNeg (mArr 0 k.toNatClampNeg)))) F.heap := by
        rw [mWs_apps]
        exact (hI.1.kept (fun k9 x hx => hold x.1 ((hI.1 k9 x hx).lt))).app (fun j q hq => (hh2 j q hq).2.2)
      have hD1 : va_D (mA z) (mWs (mAd z sa) cy (h ++ (.inr (4, .inr (.inr ((List.range n.toNatClampNeg).map fun i => some (h.length + 1 + i)))) :: List.replicate n.toNatClampNeg (mArr 0 k.toNatClampNeg)))) := by
        rw [mWs_apps]
        have hlow : ∀ (i : Nat) (q : Nat × va_E), (mWs (mAd z sa) cy h)[i]? = some q → q.1 < H.size := fun i q hq => (hI.1 i q hq).lt
        refine ⟨fun i j x y hi hj hxy => ?_, fun i x hi => ?_⟩
        · by_cases h1 : i < (mWs (mAd z sa) cy h).length <;> by_cases h2 : j < (mWs (mAd z sa) cy h).length
          · rw [List.getElem?_append_left h1] at hi
            rw [List.getElem?_append_left h2] at hj
            exact hI.2.1.1 i j x y hi hj hxy
          · rw [List.getElem?_append_left h1] at hi
            rw [List.getElem?_append_right (by omega)] at hj
            have := hlow _ _ hi
            have := (hh2 _ _ hj).2.1
            omega
          · rw [List.getElem?_append_right (by omega)] at hi
            rw [List.getElem?_append_left h2] at hj
            have := hlow _ _ hj
            have := (hh2 _ _ hi).2.1
            omega
          · rw [List.getElem?_append_right (by omega)] at hi hj
            have := (hh2 _ _ hi).2.1
            have := (hh2 _ _ hj).2.1
            omega
        · by_cases h1 : i < (mWs (mAd z sa) cy h).length
          · rw [List.getElem?_append_left h1] at hi
            exact hI.2.1.2 i x hi
          · rw [List.getElem?_append_right (by omega)] at hi
            have := (hh2 _ _ hi).2.1
            show z ≤ x.1
            omega
      have hS1 : va_S (mA z) s.heap F.heap locs := ⟨Nat.le_trans hI.2.2.1 (by omega), fun x h1 h2 => (hold x (Nat.lt_of_lt_of_le h1 hI.2.2.1)).trans (hI.2.2.2.1 x h1 h2), hI.2.2.2.2⟩
      have KK := K _ _ _ _ _ _ rfl F.heap locs ls ⟨hP1, hD1, hS1⟩ hl
      rw [List.map_cons, show mTv (mAd z sa) (.ref h.length) = .ref H.size from by have := ead 0 (Nat.zero_le _); rw [Nat.add_zero, Nat.add_zero] at this; rw [← this]; rfl] at KK
      obtain ⟨t, b1, b2⟩ := KK F rfl (by
        rw [show cells + (1 + n.toNatClampNeg) = cells + 1 + n.toNatClampNeg by omega, show slots + (n.toNatClampNeg + n.toNatClampNeg * k.toNatClampNeg) = slots + n.toNatClampNeg + n.toNatClampNeg * k.toNatClampNeg by omega]
        exact X')
      refine ⟨t, step t ?_, b2⟩
      have e : T.heap.size = H.size := by rw [hT]
      rw [e]
      exact b1
  · cases hs
end S5
