/-! the instructions that read cells or change them -/
theorem mAd_lo {z : Nat} {sa : Nat → Nat} {k : Nat} (h : k < mBase) : mAd z sa k = z + k := if_pos h
theorem mAd_hi (z : Nat) (sa : Nat → Nat) (i : Nat) : mAd z sa (mBase + i) = sa i := by
  unfold mAd
  rw [if_neg (by omega), show mBase + i - mBase = i by omega]
theorem mCl_at {ci : Nat} (h : ci < 13) : vwCl[ci]? = some (mCn ci, mT ci, mNf ci) := by
  have key : ∀ k : Fin 13, vwCl[k.val]? = some (mCn k.val, mT k.val, mNf k.val) := fun k => match k with
    | 0 => rfl | 1 => rfl | 2 => rfl | 3 => rfl | 4 => rfl | 5 => rfl | 6 => rfl | 7 => rfl | 8 => rfl | 9 => rfl | 10 => rfl | 11 => rfl | 12 => rfl
  exact key ⟨ci, h⟩
theorem mBd_ws {C : String} {T : u_T} {N : Nat} {w : Jvm.Cond} (h : w ∈ u_ws C T N) : mBd w = false := by
  obtain ⟨k, -, rfl⟩ := List.mem_map.mp h
  unfold u_lay
  split <;> rfl
theorem mCl_in {ci : Nat} (h : ci < 13) : ∀ w ∈ u_ws (mCn ci) (mT ci) (mNf ci), w ∈ mGw := by
  refine fun w hw => mGw_in ?_ (mBd_ws hw)
  revert w
  have key : ∀ k : Fin 13, ∀ w ∈ u_ws (mCn k.val) (mT k.val) (mNf k.val), w ∈ lw_tbl := fun k => match k with
    | 0 => inX0 | 1 => inX1 | 2 => inX2 | 3 => inX3 | 4 => inX4 | 5 => inX5 | 6 => inX6 | 7 => inX7 | 8 => inX8 | 9 => inX9 | 10 => inX10 | 11 => inX11 | 12 => inX12
  exact key ⟨ci, h⟩
def mTy (ci j : Nat) : FieldType := match parseFieldDescriptor (mT ci j).2.2.1 with
  | some t => t
  | none => .int
theorem mCl_ty {ci : Nat} (h : ci < 13) : ∀ j, j < mNf ci → parseFieldDescriptor (mT ci j).2.2.1 = some (mTy ci j) := by
  have key : ∀ k : Fin 13, ∃ ty : Nat → FieldType, ∀ j, j < mNf k.val → parseFieldDescriptor (mT k.val j).2.2.1 = some (ty j) := fun k => match k with
    | 0 => ⟨_, tyX0_ok⟩ | 1 => ⟨_, tyX1_ok⟩ | 2 => ⟨_, tyX2_ok⟩ | 3 => ⟨_, tyX3_ok⟩ | 4 => ⟨_, tyX4_ok⟩ | 5 => ⟨_, tyX5_ok⟩ | 6 => ⟨_, tyX6_ok⟩ | 7 => ⟨_, tyX7_ok⟩ | 8 => ⟨_, tyX8_ok⟩ | 9 => ⟨_, tyX9_ok⟩ | 10 => ⟨_, tyX10_ok⟩ | 11 => ⟨_, tyX11_ok⟩ | 12 => ⟨_, tyX12_ok⟩
  intro j hj
  obtain ⟨ty, hty⟩ := key ⟨ci, h⟩
  have := hty j hj
  unfold mTy
  rw [this]
theorem mCl_nm {ci : Nat} (h : ci < 13) : ∀ a, a < mNf ci → ∀ b, b < mNf ci → a ≠ b → (mT ci a).2.1 ≠ (mT ci b).2.1 := by
  have key : ∀ k : Fin 13, ∀ a, a < mNf k.val → ∀ b, b < mNf k.val → a ≠ b → (mT k.val a).2.1 ≠ (mT k.val b).2.1 := fun k => match k with
    | 0 => nmX0 | 1 => nmX1 | 2 => nmX2 | 3 => nmX3 | 4 => nmX4 | 5 => nmX5 | 6 => nmX6 | 7 => nmX7 | 8 => nmX8 | 9 => nmX9 | 10 => nmX10 | 11 => nmX11 | 12 => nmX12
  exact key ⟨ci, h⟩
/-- a field's link -/
def mFd (own : String) (w ci j : Nat) : Prop := Jvm.Cond.fieldLink own w (mT ci j).1 (mT ci j).2.1 (mT ci j).2.2.1 ∈ lw_tbl ∧ j < mNf ci ∧ ci < 13
theorem mIdx {i : Int32} {n : Nat} (h0 : ¬ i < 0) (h1 : i.toNatClampNeg < n) : vp_in i n := fun q => q.elim h0 (fun r => by omega)
theorem mSet_fun {α : Type} (l : List α) (d : α) (i : Nat) (x : α) (h : i < l.length) : (fun j => (l.set i x).getD j d) = (fun j => if j = i then x else l.getD j d) := by
  funext j
  simp only [List.getD_eq_getElem?_getD, List.getElem?_set]
  by_cases hj : i = j
  · subst hj
    simp [h]
  · simp [hj, Ne.symm hj]
section S2
variable {p : Program} {l : Launch} {e : Env} {R : Room} {s : State} {m : MethodId} {args : Array Value} {below : List Frame} {meth : Method} {c : Code} {H : Heap} {locs : List Loc} {cells slots : Nat} {Q : State → Prop}
variable {cc : ByteArray} {nL : Nat} {own : String} {G : va_G} {cy : Nat → ClassId} {z : Nat} {sa : Nat → Nat} {ro : List (List Int32)} {pc len a1 a2 a3 : Nat} {v32 : Int32} {v64 : Int64} {sw : List (Int32 × Nat)} {lo : mO} {st : List Value} {h : mH} {ls : Array Slot} {rk : Nat}
abbrev mKh (p : Program) (l : Launch) (e : Env) (R : Room) (s : State) (m : MethodId) (args : Array Value) (below : List Frame) (meth : Method) (c : Code) (cells slots : Nat) (Q : State → Prop) (G : va_G) (cy : Nat → ClassId) (z : Nat) (sa : Nat → Nat) (x : mR) : Prop :=
  ∀ (pc2 : Nat) (lo2 : mO) (st2 : List Value) (h2 : mH) (dc ds : Nat), x = .inl (pc2, lo2, st2, h2, dc, ds) → ∀ (H2 : Heap) (locs2 : List Loc) (ls2 : Array Slot), mInv G cy z sa s h2 H2 locs2 → mLv (mAd z sa) lo2 ls2 → W p l e R s m args below meth c H2 locs2 (cells + dc) (slots + ds) Q (F0 m pc2 ls2 (st2.map (mTv (mAd z sa))))
theorem sim_getstatic (C0 : mCx p s m args c cc nL own G cy z sa ro) (hI : mInv G cy z sa s h H locs) (hl : mLv (mAd z sa) lo ls) {w : Nat} {x : mR} (hdg : decode cc pc = .ok (.getstatic w, 3)) (ha : Jvm.Cond.fieldLink own w ((mSn[a1]?).getD ("", "")).1 ((mSn[a1]?).getD ("", "")).2 "[I" ∈ lw_tbl) (h5 : a1 < 5)
    (hs : mStep1 ro (.getstatic w, 3, a1, a2, a3, v32, v64, sw) pc lo st h = some x) (K : mKk p l e R s m args below meth c H locs cells slots Q (mAd z sa) h x) : W p l e R s m args below meth c H locs cells slots Q (F0 m pc ls (st.map (mTv (mAd z sa)))) := by
  obtain ⟨hx, hb, hml, hown, hts, hK, hro, hz⟩ := C0
  simp only [mStep1] at hs
  have := mGo_inv hs
  subst this
  refine va_gets hx hb (hro.1 a1 h5) hI.2.2 hown (hts _ (mGw_in ha rfl)) (fun _ h9 => h9) hdg ?_
  have := K _ _ _ rfl ls hl
  rw [List.map_cons, show mTv (mAd z sa) (.ref (mBase + a1)) = .ref (sa a1) from by rw [← mAd_hi z sa a1]; rfl] at this
  exact this
theorem sim_getfield (C0 : mCx p s m args c cc nL own G cy z sa ro) (hI : mInv G cy z sa s h H locs) (hl : mLv (mAd z sa) lo ls) {w : Nat} {x : mR} (hdg : decode cc pc = .ok (.getfield w, 3)) (hf : mFd own w a1 a2)
    (hs : mStep1 ro (.getfield w, 3, a1, a2, a3, v32, v64, sw) pc lo st h = some x) (K : mKk p l e R s m args below meth c H locs cells slots Q (mAd z sa) h x) : W p l e R s m args below meth c H locs cells slots Q (F0 m pc ls (st.map (mTv (mAd z sa)))) := by
  obtain ⟨hx, hb, hml, hown, hts, hK, hro, hz⟩ := C0
  simp only [mStep1] at hs
  split at hs
  · rename_i k r
    split at hs
    · rename_i ci fs hh
      cases hc : Nat.beq ci a1 with
      | false => rw [hc] at hs; cases hs
      | true =>
        rw [hc] at hs
        have hc := Nat.eq_of_beq_eq_true hc
        subst hc
        simp only [cond_true] at hs
        split at hs
        · rename_i v hv
          have := mGo_inv hs
          subst this
          exact va_get (D := G) hx hb hts (mCl_in hf.2.2) hown hK hI.1 k (mWs_get hh) (mCl_at hf.2.2) a2 hf.2.1 (hts _ (mGw_in hf.1 rfl)) (fun _ h9 => h9) (v := mTv (mAd z sa) v) (by rw [List.getElem?_map, hv]; rfl) hdg (K _ _ _ rfl ls hl)
        · cases hs
    · cases hs
  · cases hs
theorem sim_putfield (C0 : mCx p s m args c cc nL own G cy z sa ro) (hI : mInv G cy z sa s h H locs) (hl : mLv (mAd z sa) lo ls) {w : Nat} {x : mR} (hdg : decode cc pc = .ok (.putfield w, 3)) (hf : mFd own w a1 a2) (hk : mFk (mT a1 a2).2.2.1 = some a3) (hfin : (mT a1 a2).2.2.2 = true → meth.name = "<init>" ∧ (mT a1 a2).1 = own)
    (hs : mStep2 ro rk (.putfield w, 3, a1, a2, a3, v32, v64, sw) pc lo st h = some x) (K : mKh p l e R s m args below meth c cells slots Q G cy z sa x) : W p l e R s m args below meth c H locs cells slots Q (F0 m pc ls (st.map (mTv (mAd z sa)))) := by
  obtain ⟨hx, hb, hml, hown, hts, hK, hro, hz⟩ := C0
  have hty := mCl_ty hf.2.2 a2 hf.2.1
  -- one store for all kinds
  have store : ∀ (k : Nat) (v : Value) (r : List Value) (fs : List Value), h[k]? = some (.inl (a1, fs)) → a2 < fs.length → x = .inl (pc + 3, lo, r, h.set k (.inl (a1, fs.set a2 v)), 0, 0) → narrow (mTy a1 a2) (mTv (mAd z sa) v) = mTv (mAd z sa) v → fits (mTy a1 a2) (mTv (mAd z sa) v) = true →
      W p l e R s m args below meth c H locs cells slots Q (F0 m pc ls (mTv (mAd z sa) v :: .ref (mAd z sa k) :: r.map (mTv (mAd z sa)))) := by
    intro k v r fs hh hlt hxe hn hfit
    have hset : (mWs (mAd z sa) cy h).set k (mAd z sa k, .inr (a1, (fs.map (mTv (mAd z sa))).set a2 (mTv (mAd z sa) v))) = mWs (mAd z sa) cy (h.set k (.inl (a1, fs.set a2 v))) := by
      rw [mWs_set]
      simp [mE, List.map_set]
    by_cases hF : (mT a1 a2).2.2.2 = true
    · obtain ⟨f1, f2⟩ := hfin hF
      refine va_putF (D := G) hx hb hts (mCl_in hf.2.2) (mTy a1) (mCl_ty hf.2.2) (mCl_nm hf.2.2) hown hK hI.1 hI.2.1 hI.2.2 k (mWs_get hh) (mCl_at hf.2.2) a2 hf.2.1 (hts _ (mGw_in hf.1 rfl)) (fun _ h9 => h9) hF f1 f2 hty hn hfit (by simpa using hlt) hdg (fun H1 locs1 hP hD hS => ?_)
      rw [hset] at hP hD
      exact K _ _ _ _ _ _ hxe H1 locs1 ls ⟨hP, hD, hS⟩ hl
    · refine va_put (D := G) hx hb hts (mCl_in hf.2.2) (mTy a1) (mCl_ty hf.2.2) (mCl_nm hf.2.2) hown hK hI.1 hI.2.1 hI.2.2 k (mWs_get hh) (mCl_at hf.2.2) a2 hf.2.1 (hts _ (mGw_in hf.1 rfl)) (fun _ h9 => h9) (by simpa using hF) hty hn hfit (by simpa using hlt) hdg (fun H1 locs1 hP hD hS => ?_)
      rw [hset] at hP hD
      exact K _ _ _ _ _ _ hxe H1 locs1 ls ⟨hP, hD, hS⟩ hl
  have hmk : ∀ t, mTy a1 a2 = t → mFk (mT a1 a2).2.2.1 = (match t with | .int => some 0 | .boolean => some 1 | .long => some 2 | .array _ => some 3 | .object _ => some 3 | _ => none) := by
    intro t ht
    unfold mFk
    rw [hty, ht]
    cases t <;> rfl
  simp only [mStep2] at hs
  split at hs
  · rename_i v k r
    split at hs
    · rename_i ci fs hh
      cases hc : (Nat.beq ci a1 && Nat.blt a2 fs.length) with
      | false => rw [hc] at hs; cases hs
      | true =>
        rw [hc] at hs
        rw [Bool.and_eq_true] at hc
        have hc1 := Nat.eq_of_beq_eq_true hc.1
        have hlt : a2 < fs.length := Nat.lt_of_lt_of_le (Nat.lt_succ_self _) (Nat.le_of_ble_eq_true hc.2)
        subst hc1
        simp only [cond_true] at hs
        split at hs
        · have hxe := mGo_inv hs
          have ht : mTy ci a2 = .int := by
            cases ht : mTy ci a2 <;> rw [hmk _ ht] at hk <;> first | rfl | (simp at hk; done)
          exact store k _ r fs hh hlt hxe (by rw [ht]; rfl) (by rw [ht]; rfl)
        · rename_i y
          split at hs
          · rename_i hy
            have hxe := mGo_inv hs
            have ht : mTy ci a2 = .boolean := by
              cases ht : mTy ci a2 <;> rw [hmk _ ht] at hk <;> first | rfl | (simp at hk; done)
            refine store k _ r fs hh hlt hxe ?_ ?_
            · rw [ht]
              rcases hy with rfl | rfl
              · exact (by decide : narrow FieldType.boolean (Value.int 0) = Value.int 0)
              · exact (by decide : narrow FieldType.boolean (Value.int 1) = Value.int 1)
            · rw [ht]
              rcases hy with rfl | rfl
              · exact (by decide : fits FieldType.boolean (Value.int 0) = true)
              · exact (by decide : fits FieldType.boolean (Value.int 1) = true)
          · cases hs
        · have hxe := mGo_inv hs
          have ht : mTy ci a2 = .long := by
            cases ht : mTy ci a2 <;> rw [hmk _ ht] at hk <;> first | rfl | (simp at hk; done)
          exact store k _ r fs hh hlt hxe (by rw [ht]; rfl) (by rw [ht]; rfl)
        · have hxe := mGo_inv hs
          refine store k _ r fs hh hlt hxe ?_ ?_
          · cases ht : mTy ci a2 <;> rw [hmk _ ht] at hk <;> first | rfl | (simp at hk; done)
          · cases ht : mTy ci a2 <;> rw [hmk _ ht] at hk <;> first | rfl | (simp at hk; done)
        · cases hs
    · cases hs
  · cases hs
end S2
