/-! arrays, new cells, answers -/
theorem mNew_ok : ((List.range 13).all fun ci => (List.range (mNf ci)).all fun j => decide (defaultValue (mTy ci j) = (mNew ci).getD j .null) && (match (mNew ci).getD j .null with | .ref _ => false | _ => true)) = true := by decide +kernel
theorem mNew_len : ((List.range 13).all fun ci => Nat.beq (mNew ci).length (mNf ci)) = true := by decide +kernel
theorem mNew_fs {ad : Nat → Nat} {ci j : Nat} (h : ci < 13) (hj : j < mNf ci) : defaultValue (mTy ci j) = vp_V ((mNew ci).map (mTv ad)) j := by
  have h1 := List.all_eq_true.mp mNew_ok ci (List.mem_range.mpr h)
  have h2 := List.all_eq_true.mp h1 j (List.mem_range.mpr hj)
  rw [Bool.and_eq_true, decide_eq_true_eq] at h2
  have h3 := Nat.eq_of_beq_eq_true (List.all_eq_true.mp mNew_len ci (List.mem_range.mpr h))
  obtain ⟨h2, h4⟩ := h2
  rw [h2]
  unfold vp_V
  rw [List.getD_eq_getElem?_getD, List.getD_eq_getElem?_getD, List.getElem?_map]
  rw [List.getD_eq_getElem?_getD] at h4
  cases hg : (mNew ci)[j]? with
  | none => rfl
  | some v =>
    rw [hg] at h4
    cases v <;> first | rfl | (simp at h4; done)
theorem mGetD {α : Type} {l : List α} {i : Nat} {x d : α} (h : l[i]? = some x) : l.getD i d = x := by simp [List.getD_eq_getElem?_getD, h]
section S3
variable {p : Program} {l : Launch} {e : Env} {R : Room} {s : State} {m : MethodId} {args : Array Value} {below : List Frame} {meth : Method} {c : Code} {H : Heap} {locs : List Loc} {cells slots : Nat} {Q : State → Prop}
variable {cc : ByteArray} {nL : Nat} {own : String} {G : va_G} {cy : Nat → ClassId} {z : Nat} {sa : Nat → Nat} {ro : List (List Int32)} {pc len a1 a2 a3 : Nat} {v32 : Int32} {v64 : Int64} {sw : List (Int32 × Nat)} {lo : mO} {st : List Value} {h : mH} {ls : Array Slot} {rk : Nat}
theorem sim_iaload (C0 : mCx p s m args c cc nL own G cy z sa ro) (hI : mInv G cy z sa s h H locs) (hl : mLv (mAd z sa) lo ls) {x : mR} (hdg : decode cc pc = .ok (.iaload, 1))
    (hs : mStep2 ro rk (.iaload, 1, a1, a2, a3, v32, v64, sw) pc lo st h = some x) (K : mKh p l e R s m args below meth c cells slots Q G cy z sa x) : W p l e R s m args below meth c H locs cells slots Q (F0 m pc ls (st.map (mTv (mAd z sa)))) := by
  obtain ⟨hx, hb, hml, hown, hts, hK, hro, hz⟩ := C0
  simp only [mStep2] at hs
  split at hs
  · rename_i i k r
    split at hs
    · rename_i l hrow
      split at hs
      · cases hs
      · rename_i h0
        split at hs
        · rename_i y hy
          have := mGo_inv hs
          subst this
          have hlt : i.toNatClampNeg < l.length := (List.getElem?_eq_some_iff.mp hy).1
          have KK := K _ _ _ _ _ _ rfl H locs ls hI hl
          unfold mRow at hrow
          cases hbk : Nat.blt k mBase with
          | true =>
            rw [hbk] at hrow
            simp only [cond_true] at hrow
            split at hrow
            · rename_i l2 hh
              cases hrow
              refine va_iald hx hb hK hI.1 k 0 (mWs_get hh) (rfl : (mTys cy)[0]? = some (cy 0, .int)) (mIdx h0 hlt) hdg ?_
              rw [mGetD hy]
              exact KK
            · cases hrow
          | false =>
            rw [hbk] at hrow
            simp only [cond_false] at hrow
            have hk : ¬ k < mBase := fun q => by rw [Nat.blt_eq.mpr q] at hbk; cases hbk
            have hT := hro.2 (k - mBase) l hrow
            rw [← show mAd z sa k = sa (k - mBase) from if_neg hk] at hT
            exact va_ti hx hb hT hI.2.2 (mIdx h0 hlt) (by show Value.int (l.getD i.toNatClampNeg 0) = .int y; rw [mGetD hy]) hdg KK
        · cases hs
    · cases hs
  · cases hs
theorem sim_arraylength (C0 : mCx p s m args c cc nL own G cy z sa ro) (hI : mInv G cy z sa s h H locs) (hl : mLv (mAd z sa) lo ls) {x : mR} (hdg : decode cc pc = .ok (.arraylength, 1))
    (hs : mStep2 ro rk (.arraylength, 1, a1, a2, a3, v32, v64, sw) pc lo st h = some x) (K : mKh p l e R s m args below meth c cells slots Q G cy z sa x) : W p l e R s m args below meth c H locs cells slots Q (F0 m pc ls (st.map (mTv (mAd z sa)))) := by
  obtain ⟨hx, hb, hml, hown, hts, hK, hro, hz⟩ := C0
  simp only [mStep2] at hs
  split at hs
  · rename_i k r
    split at hs
    · rename_i l hrow
      have := mGo_inv hs
      subst this
      have KK := K _ _ _ _ _ _ rfl H locs ls hI hl
      unfold mRow at hrow
      cases hbk : Nat.blt k mBase with
      | true =>
        rw [hbk] at hrow
        simp only [cond_true] at hrow
        split at hrow
        · rename_i l2 hh
          cases hrow
          exact va_alen hx hb hK hI.1 k 0 (mWs_get hh) (rfl : (mTys cy)[0]? = some (cy 0, .int)) rfl hdg KK
        · cases hrow
      | false =>
        rw [hbk] at hrow
        simp only [cond_false] at hrow
        have hk : ¬ k < mBase := fun q => by rw [Nat.blt_eq.mpr q] at hbk; cases hbk
        have hT := hro.2 (k - mBase) l hrow
        rw [← show mAd z sa k = sa (k - mBase) from if_neg hk] at hT
        exact va_tlen hx hb hT hI.2.2 rfl hdg KK
    · cases hs
  · cases hs
theorem sim_baload (C0 : mCx p s m args c cc nL own G cy z sa ro) (hI : mInv G cy z sa s h H locs) (hl : mLv (mAd z sa) lo ls) {x : mR} (hdg : decode cc pc = .ok (.baload, 1))
    (hs : mStep2 ro rk (.baload, 1, a1, a2, a3, v32, v64, sw) pc lo st h = some x) (K : mKh p l e R s m args below meth c cells slots Q G cy z sa x) : W p l e R s m args below meth c H locs cells slots Q (F0 m pc ls (st.map (mTv (mAd z sa)))) := by
  obtain ⟨hx, hb, hml, hown, hts, hK, hro, hz⟩ := C0
  simp only [mStep2] at hs
  split at hs
  · rename_i i k r
    split at hs
    · rename_i t l hh
      cases ht : (Nat.beq t 1 || Nat.beq t 2) with
      | false => rw [ht] at hs; cases hs
      | true =>
        rw [ht] at hs
        simp only [cond_true] at hs
        split at hs
        · cases hs
        · rename_i h0
          split at hs
          · rename_i y hy
            have := mGo_inv hs
            subst this
            have hlt : i.toNatClampNeg < l.length := (List.getElem?_eq_some_iff.mp hy).1
            have KK := K _ _ _ _ _ _ rfl H locs ls hI hl
            rw [Bool.or_eq_true] at ht
            rcases ht with ht | ht
            · have ht := Nat.eq_of_beq_eq_true ht
              subst ht
              refine va_bald hx hb hK hI.1 k 1 (mWs_get hh) (rfl : (mTys cy)[1]? = some (cy 1, .byte)) (mIdx h0 hlt) hdg ?_
              rw [mGetD hy]
              exact KK
            · have ht := Nat.eq_of_beq_eq_true ht
              subst ht
              refine va_zald hx hb hK hI.1 k 2 (mWs_get hh) (rfl : (mTys cy)[2]? = some (cy 2, .boolean)) (mIdx h0 hlt) hdg ?_
              rw [mGetD hy]
              exact KK
          · cases hs
    · cases hs
  · cases hs
theorem sim_laload (C0 : mCx p s m args c cc nL own G cy z sa ro) (hI : mInv G cy z sa s h H locs) (hl : mLv (mAd z sa) lo ls) {x : mR} (hdg : decode cc pc = .ok (.laload, 1))
    (hs : mStep2 ro rk (.laload, 1, a1, a2, a3, v32, v64, sw) pc lo st h = some x) (K : mKh p l e R s m args below meth c cells slots Q G cy z sa x) : W p l e R s m args below meth c H locs cells slots Q (F0 m pc ls (st.map (mTv (mAd z sa)))) := by
  obtain ⟨hx, hb, hml, hown, hts, hK, hro, hz⟩ := C0
  simp only [mStep2] at hs
  split at hs
  · rename_i i k r
    split at hs
    · rename_i l hh
      split at hs
      · cases hs
      · rename_i h0
        split at hs
        · rename_i y hy
          have := mGo_inv hs
          subst this
          have hlt : i.toNatClampNeg < l.length := (List.getElem?_eq_some_iff.mp hy).1
          refine va_lald hx hb hK hI.1 k 3 (mWs_get hh) (rfl : (mTys cy)[3]? = some (cy 3, .long)) (mIdx h0 hlt) hdg ?_
          rw [mGetD hy]
          exact K _ _ _ _ _ _ rfl H locs ls hI hl
        · cases hs
    · cases hs
  · cases hs
theorem sim_aaload (C0 : mCx p s m args c cc nL own G cy z sa ro) (hI : mInv G cy z sa s h H locs) (hl : mLv (mAd z sa) lo ls) {x : mR} (hdg : decode cc pc = .ok (.aaload, 1))
    (hs : mStep2 ro rk (.aaload, 1, a1, a2, a3, v32, v64, sw) pc lo st h = some x) (K : mKh p l e R s m args below meth c cells slots Q G cy z sa x) : W p l e R s m args below meth c H locs cells slots Q (F0 m pc ls (st.map (mTv (mAd z sa)))) := by
  obtain ⟨hx, hb, hml, hown, hts, hK, hro, hz⟩ := C0
  simp only [mStep2] at hs
  split at hs
  · rename_i i k r
    split at hs
    · rename_i l hh
      split at hs
      · cases hs
      · rename_i h0
        split at hs
        · rename_i y hy
          have := mGo_inv hs
          subst this
          have hlt : i.toNatClampNeg < l.length := (List.getElem?_eq_some_iff.mp hy).1
          have ha := mWs_get (ad := mAd z sa) (cy := cy) hh
          refine W.aald (v := va_rf ((l.getD i.toNatClampNeg none).map (mAd z sa))) (ty := .array .int) hx hb (hI.1 k _ ha) ((hK.2 4 _ rfl).1 l.length (fun j => va_rf ((l.getD j none).map (mAd z sa)))) rfl (fun q => by cases q) (by show ¬ (i < 0 ∨ (arrV _ _ _).slots.size ≤ _); rw [arrV_size]; exact mIdx h0 hlt) (by show (arrV _ _ _).slots[_]? = _; rw [arrV_read _ _ hlt]) rfl rfl hdg ?_
          rw [mGetD hy]
          exact K _ _ _ _ _ _ rfl H locs ls hI hl
        · cases hs
    · cases hs
  · cases hs
theorem sim_iastore (C0 : mCx p s m args c cc nL own G cy z sa ro) (hI : mInv G cy z sa s h H locs) (hl : mLv (mAd z sa) lo ls) {x : mR} (hdg : decode cc pc = .ok (.iastore, 1))
    (hs : mStep2 ro rk (.iastore, 1, a1, a2, a3, v32, v64, sw) pc lo st h = some x) (K : mKh p l e R s m args below meth c cells slots Q G cy z sa x) : W p l e R s m args below meth c H locs cells slots Q (F0 m pc ls (st.map (mTv (mAd z sa)))) := by
  obtain ⟨hx, hb, hml, hown, hts, hK, hro, hz⟩ := C0
  simp only [mStep2] at hs
  split at hs
  · rename_i y i k r
    split at hs
    · rename_i l hh
      split at hs
      · cases hs
      · rename_i h0
        have := mGo_inv hs
        subst this
        have hlt : i.toNatClampNeg < l.length := Nat.not_le.mp fun q => h0 (Or.inr q)
        refine va_iast hx hb hK hI.1 hI.2.1 hI.2.2 k 0 (mWs_get hh) (rfl : (mTys cy)[0]? = some (cy 0, .int)) h0 hdg (fun H1 locs1 hP hD hS => ?_)
        have e : (mWs (mAd z sa) cy h).set k (mAd z sa k, .inl (cy 0, l.length, .inl (upd (fun j => l.getD j 0) i.toNatClampNeg y))) = mWs (mAd z sa) cy (h.set k (.inr (0, .inl (l.set i.toNatClampNeg y)))) := by
          rw [mWs_set]
          simp only [mE, List.length_set]
          rw [mSet_fun l 0 _ y hlt]
          rfl
        rw [e] at hP hD
        exact K _ _ _ _ _ _ rfl H1 locs1 ls ⟨hP, hD, hS⟩ hl
    · cases hs
  · cases hs
theorem sim_lastore (C0 : mCx p s m args c cc nL own G cy z sa ro) (hI : mInv G cy z sa s h H locs) (hl : mLv (mAd z sa) lo ls) {x : mR} (hdg : decode cc pc = .ok (.lastore, 1))
    (hs : mStep2 ro rk (.lastore, 1, a1, a2, a3, v32, v64, sw) pc lo st h = some x) (K : mKh p l e R s m args below meth c cells slots Q G cy z sa x) : W p l e R s m args below meth c H locs cells slots Q (F0 m pc ls (st.map (mTv (mAd z sa)))) := by
  obtain ⟨hx, hb, hml, hown, hts, hK, hro, hz⟩ := C0
  simp only [mStep2] at hs
  split at hs
  · rename_i y i k r
    split at hs
    · rename_i l hh
      split at hs
      · cases hs
      · rename_i h0
        have := mGo_inv hs
        subst this
        have hlt : i.toNatClampNeg < l.length := Nat.not_le.mp fun q => h0 (Or.inr q)
        refine va_last hx hb hK hI.1 hI.2.1 hI.2.2 k 3 (mWs_get hh) (rfl : (mTys cy)[3]? = some (cy 3, .long)) h0 hdg (fun H1 locs1 hP hD hS => ?_)
        have e : (mWs (mAd z sa) cy h).set k (mAd z sa k, .inl (cy 3, l.length, .inr (.inl (vp_updL (fun j => l.getD j 0) i.toNatClampNeg y)))) = mWs (mAd z sa) cy (h.set k (.inr (3, .inr (.inl (l.set i.toNatClampNeg y))))) := by
          rw [mWs_set]
          simp only [mE, List.length_set]
          rw [mSet_fun l 0 _ y hlt]
          rfl
        rw [e] at hP hD
        exact K _ _ _ _ _ _ rfl H1 locs1 ls ⟨hP, hD, hS⟩ hl
    · cases hs
  · cases hs
theorem sim_bastore (C0 : mCx p s m args c cc nL own G cy z sa ro) (hI : mInv G cy z sa s h H locs) (hl : mLv (mAd z sa) lo ls) {x : mR} (hdg : decode cc pc = .ok (.bastore, 1))
    (hs : mStep2 ro rk (.bastore, 1, a1, a2, a3, v32, v64, sw) pc lo st h = some x) (K : mKh p l e R s m args below meth c cells slots Q G cy z sa x) : W p l e R s m args below meth c H locs cells slots Q (F0 m pc ls (st.map (mTv (mAd z sa)))) := by
  obtain ⟨hx, hb, hml, hown, hts, hK, hro, hz⟩ := C0
  simp only [mStep2] at hs
  split at hs
  · rename_i y i k r
    split at hs
    · rename_i l hh
      split at hs
      · cases hs
      · rename_i h0
        have := mGo_inv hs
        subst this
        have hlt : i.toNatClampNeg < l.length := Nat.not_le.mp fun q => h0 (Or.inr q)
        refine va_bast hx hb hK hI.1 hI.2.1 hI.2.2 k 1 (mWs_get hh) (rfl : (mTys cy)[1]? = some (cy 1, .byte)) h0 hdg (fun H1 locs1 hP hD hS => ?_)
        have e : (mWs (mAd z sa) cy h).set k (mAd z sa k, .inl (cy 1, l.length, .inl (upd (fun j => l.getD j 0) i.toNatClampNeg (vp_nar .byte y)))) = mWs (mAd z sa) cy (h.set k (.inr (1, .inl (l.set i.toNatClampNeg y.toInt8.toInt32)))) := by
          rw [mWs_set]
          simp only [mE, List.length_set]
          rw [mSet_fun l 0 _ y.toInt8.toInt32 hlt]
          rfl
        rw [e] at hP hD
        exact K _ _ _ _ _ _ rfl H1 locs1 ls ⟨hP, hD, hS⟩ hl
    · rename_i l hh
      split at hs
      · cases hs
      · rename_i h0
        have := mGo_inv hs
        subst this
        have h1 : ¬ (i < 0 ∨ l.length ≤ i.toNatClampNeg) := fun q => h0 (Or.inl q)
        have hy : y = 0 ∨ y = 1 := Decidable.not_not.mp fun q => h0 (Or.inr q)
        have hlt : i.toNatClampNeg < l.length := Nat.not_le.mp fun q => h1 (Or.inr q)
        have hn : vp_nar .boolean y = y := by rcases hy with rfl | rfl <;> decide
        refine va_zast hx hb hK hI.1 hI.2.1 hI.2.2 k 2 (mWs_get hh) (rfl : (mTys cy)[2]? = some (cy 2, .boolean)) h1 hdg (fun H1 locs1 hP hD hS => ?_)
        have e : (mWs (mAd z sa) cy h).set k (mAd z sa k, .inl (cy 2, l.length, .inl (upd (fun j => l.getD j 0) i.toNatClampNeg (vp_nar .boolean y)))) = mWs (mAd z sa) cy (h.set k (.inr (2, .inl (l.set i.toNatClampNeg y)))) := by
          rw [mWs_set, hn]
          simp only [mE, List.length_set]
          rw [mSet_fun l 0 _ y hlt]
          rfl
        rw [e] at hP hD
        exact K _ _ _ _ _ _ rfl H1 locs1 ls ⟨hP, hD, hS⟩ hl
    · cases hs
  · cases hs
theorem sim_new (C0 : mCx p s m args c cc nL own G cy z sa ro) (hI : mInv G cy z sa s h H locs) (hl : mLv (mAd z sa) lo ls) {w : Nat} {x : mR} (hdg : decode cc pc = .ok (.new w, 3)) (ha : Jvm.Cond.classLink own w (mCn a1) ∈ lw_tbl ∧ Jvm.Cond.instantiable (mCn a1) a2 ∈ lw_tbl ∧ Jvm.Cond.initialized (mCn a1) ∈ lw_tbl) (h13 : a1 < 13) (hN : a2 = mNf a1) (hsz : H.size = z + h.length) (hlen : h.length < mBase) (hroom : cells + 1 ≤ R.cells ∧ slots + a2 ≤ R.slots)
    (hs : mStep2 ro rk (.new w, 3, a1, a2, a3, v32, v64, sw) pc lo st h = some x) (K : mKh p l e R s m args below meth c cells slots Q G cy z sa x) : W p l e R s m args below meth c H locs cells slots Q (F0 m pc ls (st.map (mTv (mAd z sa)))) := by
  obtain ⟨hx, hb, hml, hown, hts, hK, hro, hz⟩ := C0
  simp only [mStep2] at hs
  have := (Option.some.inj hs).symm
  subst this
  have hKn := hK.1 a1 _ (mCl_at h13)
  refine W.newcK hx hb hown (hts _ (mGw_in ha.1 rfl)) (hts _ (mGw_in ha.2.1 rfl)) (hts _ (mGw_in ha.2.2 rfl)) rfl hdg hroom.1 hroom.2 hKn.2.1 rfl fun H1 kC hkC e1 z1 o1 => ?_
  have hk : ∀ (k : Nat) (x : Nat × va_E), (mWs (mAd z sa) cy h)[k]? = some x → H1[x.1]? = H[x.1]? := fun k x hx => o1 x.1 ((hI.1 k x hx).lt)
  have ead : mAd z sa h.length = H.size := by rw [mAd_lo hlen, hsz]
  have hP1 : va_P G vwCl (mWs (mAd z sa) cy h ++ [(mAd z sa h.length, mE (mAd z sa) cy (.inl (a1, mNew a1)))]) H1 := (hI.1.kept hk).app (fun k x hx => by
    have hz1 : k < 1 := (List.getElem?_eq_some_iff.mp hx).1
    rw [show k = 0 by omega] at hx
    cases hx
    rw [ead]
    exact ⟨_, mCl_at h13, (u_born (mTy a1) hts (mCl_in h13) hKn hkC e1 (mCl_ty h13)).to (fun j hj => mNew_fs h13 hj)⟩)
  have hD1 : va_D (mA z) (mWs (mAd z sa) cy h ++ [(mAd z sa h.length, mE (mAd z sa) cy (.inl (a1, mNew a1)))]) := hI.2.1.push hI.1 ead (by show z ≤ _; rw [ead]; omega)
  rw [← mWs_app] at hP1 hD1
  have KK := K _ _ _ _ _ _ rfl H1 locs ls ⟨hP1, hD1, ⟨Nat.le_trans hI.2.2.1 (by omega), fun x h1 h2 => (o1 x (Nat.lt_of_lt_of_le h1 hI.2.2.1)).trans (hI.2.2.2.1 x h1 h2), hI.2.2.2.2⟩⟩ hl
  rw [List.map_cons, show mTv (mAd z sa) (.ref h.length) = .ref H.size from by rw [← ead]; rfl] at KK
  exact KK
theorem sim_newarray (C0 : mCx p s m args c cc nL own G cy z sa ro) (hI : mInv G cy z sa s h H locs) (hl : mLv (mAd z sa) lo ls) {t : ArrayType} {x : mR} (hdg : decode cc pc = .ok (.newarray t, 2)) (hk : mAk t = a1) (hk3 : a1 ≤ 3) (hsz : H.size = z + h.length) (hlen : h.length < mBase) (hroom : ∀ N : mN, x = .inl N → cells + 1 ≤ R.cells ∧ slots + N.2.2.2.2.2 ≤ R.slots)
    (hs : mStep2 ro rk (.newarray t, 2, a1, a2, a3, v32, v64, sw) pc lo st h = some x) (K : mKh p l e R s m args below meth c cells slots Q G cy z sa x) : W p l e R s m args below meth c H locs cells slots Q (F0 m pc ls (st.map (mTv (mAd z sa)))) := by
  obtain ⟨hx, hb, hml, hown, hts, hK, hro, hz⟩ := C0
  simp only [mStep2] at hs
  split at hs
  · rename_i n r
    split at hs
    · cases hs
    · rename_i h0
      have := (Option.some.inj hs).symm
      subst this
      have hn0 : ¬ n < 0 := fun q => h0 (Or.inl q)
      have hn1 : n.toNatClampNeg ≤ 4096 := Nat.not_lt.mp fun q => h0 (Or.inr q)
      obtain ⟨hroom1, hroom2⟩ := hroom _ rfl
      have hwd : Jvm.Cond.arrayClass (newarray.typeOf t) ∈ mGw := by
        cases t <;> first | exact mGw_in mW_ai rfl | exact mGw_in mW_ab rfl | exact mGw_in mW_az rfl | exact mGw_in mW_al rfl | (exfalso; revert hk3; rw [← hk]; decide)
      have hcb : n.toNatClampNeg * componentBytes (newarray.typeOf t) ≤ 536870912 := by
        have : componentBytes (newarray.typeOf t) ≤ 8 := by cases t <;> decide
        exact Nat.le_trans (Nat.mul_le_mul hn1 this) (by decide)
      refine va_newaK hx hb (hts _ hwd) rfl hdg rfl hn0 rfl hcb hroom1 hroom2 rfl fun H1 cA e1 z1 o1 hAr hNm => ?_
      have hk' : ∀ (k : Nat) (x : Nat × va_E), (mWs (mAd z sa) cy h)[k]? = some x → H1[x.1]? = H[x.1]? := fun k x hx => o1 x.1 ((hI.1 k x hx).lt)
      have ead : mAd z sa h.length = H.size := by rw [mAd_lo hlen, hsz]
      have hcell : vp_cell cA (n.toNatClampNeg, (match newarray.typeOf t with | .long => .inr (.inl fun _ => 0) | _ => .inl fun _ => 0)) = arrV cA n.toNatClampNeg (fun _ => defaultValue (newarray.typeOf t)) := by
        cases t <;> first | rfl | (exfalso; revert hk3; rw [← hk]; decide)
      have hcA : cA = cy a1 := by
        have q := (hK.2 a1 (cy a1, newarray.typeOf t) (by rw [← hk]; cases t <;> first | rfl | (exfalso; revert hk3; rw [← hk]; decide))).2
        have q2 : s.vm.findClass ("[" ++ (newarray.typeOf t).toString) = some (cy a1) := by
          revert q
          cases t <;> exact fun q => q
        exact Option.some.inj (hNm.symm.trans q2)
      subst hcA
      have hE : mE (mAd z sa) cy (mArr a1 n.toNatClampNeg) = .inl (cy a1, n.toNatClampNeg, (match newarray.typeOf t with | .long => .inr (.inl fun _ => 0) | _ => .inl fun _ => 0)) := by
        have f0 : ∀ j : Nat, (List.replicate n.toNatClampNeg (0 : Int32)).getD j 0 = 0 := fun j => by
          rw [List.getD_eq_getElem?_getD, List.getElem?_replicate]
          split <;> rfl
        have f1 : ∀ j : Nat, (List.replicate n.toNatClampNeg (0 : Int64)).getD j 0 = 0 := fun j => by
          rw [List.getD_eq_getElem?_getD, List.getElem?_replicate]
          split <;> rfl
        subst hk
        cases t <;> first | (simp only [mAk, mArr, newarray.typeOf, mE, List.length_replicate]; first | (simp only [f0, f1, Nat.beq, cond_true, cond_false, List.length_replicate]; done) | (simp [f0, f1, Nat.beq, mE]; done)) | (exfalso; revert hk3; decide)
      have hP1 : va_P G vwCl (mWs (mAd z sa) cy h ++ [(mAd z sa h.length, mE (mAd z sa) cy (mArr a1 n.toNatClampNeg))]) H1 := (hI.1.kept hk').app (fun k x hx => by
        have hz1 : k < 1 := (List.getElem?_eq_some_iff.mp hx).1
        rw [show k = 0 by omega] at hx
        cases hx
        rw [ead, hE]
        show H1[H.size]? = some (vp_cell _ _)
        rw [hcell]
        exact e1)
      have hD1 : va_D (mA z) (mWs (mAd z sa) cy h ++ [(mAd z sa h.length, mE (mAd z sa) cy (mArr a1 n.toNatClampNeg))]) := by
        refine hI.2.1.push hI.1 ead (by show z ≤ _; rw [ead]; omega)
      rw [← mWs_app] at hP1 hD1
      have KK := K _ _ _ _ _ _ rfl H1 locs ls ⟨hP1, hD1, ⟨Nat.le_trans hI.2.2.1 (by omega), fun x h1 h2 => (o1 x (Nat.lt_of_lt_of_le h1 hI.2.2.1)).trans (hI.2.2.2.1 x h1 h2), hI.2.2.2.2⟩⟩ hl
      rw [List.map_cons, show mTv (mAd z sa) (.ref h.length) = .ref H.size from by rw [← ead]; rfl] at KK
      exact KK
  · cases hs
end S3
