/-! calls; a run of the small machine is a run of the machine -/
theorem mP_use {y : Nat} (h : y < 264) : Jvm.Cond.initialized (mMeth y).1.cls ∈ lw_tbl ∧ ((mMeth y).2.2.2.2.2.2.2.2 = true → Jvm.Cond.static (mMeth y).1 ∈ lw_tbl) ∧ ((mMeth y).2.2.2.2.2.2.2.2 = false → Jvm.Cond.instanceMethod (mMeth y).1 ∈ lw_tbl) ∧ ((mMeth y).2.2.2.2.2.2.2.2 = false → ¬ (mMeth y).1.name = "<init>" → Jvm.Cond.selects (mMeth y).1.cls (mMeth y).1 (mMeth y).1 ∈ lw_tbl)
    ∧ mOwn (mMeth y).2.2.2.2.1 = (mMeth y).1.cls ∧ plainFor (mMeth y).1 = true ∧ ((mMeth y).1.cls ≠ "java/lang/invoke/MethodHandle" ∧ (mMeth y).1.cls ≠ "java/lang/invoke/VarHandle" ∧ (parseMethodDescriptor (mMeth y).1.desc).map (fun d => d.parameters.length) = some ((mMeth y).2.2.2.2.2.2.1 - (bif (mMeth y).2.2.2.2.2.2.2.2 then 0 else 1)))
    ∧ (mMeth y).2.2.1 ≤ 12 ∧ ((mMeth y).2.2.2.2.2.2.2.2 = false → 1 ≤ (mMeth y).2.2.2.2.2.2.1 ∧ (mMeth y).2.2.2.2.1 < 13 ∧ mCn (mMeth y).2.2.2.2.1 = (mMeth y).1.cls)
    ∧ (mMeth y).2.2.2.1 = (match (mMeth y).2.2.2.2.2.1 with | 0 => none | 1 => some .int | 2 => some .boolean | _ => some .long) := by
  have hp : mPOk y (mMeth y) ((mPs[y]?).getD (0, 0, 0, 0)) = true := mPs_ok y (Nat.zero_le _) h
  unfold mPOk at hp
  simp only [Bool.and_eq_true, Bool.or_eq_true, decide_eq_true_eq] at hp
  obtain ⟨⟨⟨⟨⟨⟨⟨⟨⟨⟨h1, h2⟩, h3⟩, h4⟩, h5⟩, h6⟩, h7⟩, h8⟩, h9⟩, h10⟩, h11⟩ := hp
  refine ⟨mIs_mem h1, fun hs => ?_, fun hs => ?_, fun hs hn => ?_, h4, h5, h6, Nat.le_of_ble_eq_true h8, fun hs => ?_, h10⟩
  · rw [hs] at h2; exact mIs_mem h2
  · rw [hs] at h2; exact mIs_mem h2
  · rcases h3 with (q | q) | q
    · rw [hs] at q; cases q
    · exact absurd q hn
    · exact mIs_mem q
  · rcases h9 with q | q
    · rw [hs] at q; cases q
    · exact ⟨Nat.le_of_ble_eq_true q.1.1, Nat.blt_eq.mp q.1.2, q.2⟩
theorem mC_use {y : Nat} (h : y < 264) : Jvm.Cond.code (mMeth y).1 (mMeth y).2.1 (mMeth y).2.2.1 (mMeth y).2.2.2.1 ∈ lw_tbl := List.mem_of_getElem? (mCode_ok y (Nat.zero_le _) h)
theorem mG_ws {y : Nat} (h : y < 264) : GoodIn mGw (.code (mMeth y).1 (mMeth y).2.1 (mMeth y).2.2.1 (mMeth y).2.2.2.1 :: mGw) := fun w hw => by
  rcases List.mem_cons.mp hw with rfl | hw
  · exact mGw_good _ (mGw_in (mC_use h) rfl)
  · exact mGw_good _ hw
theorem mRecv_use {h : mH} {ci : Nat} {as : List Value} (hr : mRecv h ci as = true) : ∃ (k : Nat) (r : List Value) (fs : List Value), as = .ref k :: r ∧ h[k]? = some (.inl (ci, fs)) := by
  unfold mRecv at hr
  split at hr
  · rename_i k r
    split at hr
    · rename_i c fs hh
      rw [Nat.eq_of_beq_eq_true hr] at hh
      exact ⟨k, r, fs, rfl, hh⟩
    · cases hr
  · cases hr
section S7
variable {p : Program} {l : Launch} {e : Env} {R : Room} {s : State} {m : MethodId} {args : Array Value} {below : List Frame} {meth : Method} {c : Code} {H : Heap} {locs : List Loc} {cells slots : Nat} {Q : State → Prop}
variable {cc : ByteArray} {nL : Nat} {own : Nat} {G : va_G} {cy : Nat → ClassId} {z : Nat} {sa : Nat → Nat} {ro : List (List Int32)} {pc len a1 a2 a3 : Nat} {v32 : Int32} {v64 : Int64} {sw : List (Int32 × Nat)} {lo : mO} {st : List Value} {h : mH} {ls : Array Slot} {rk : Nat} {ini : Bool} {ins : Instr}
theorem mCall {w : Option Value} {h1 : mH} {a : Array Value} {mc ms : Nat} {st0 rest : List Value} (hr : va_Run p l e R s m args below meth c H locs cells slots mc ms (F0 m pc ls st0) rest (mQc G cy z sa w h1 a) (mA z)) (hS : va_S (mA z) s.heap H locs)
    (kk : ∀ (H1 : Heap) (locs1 : List Loc), mInv G cy z sa s h1 H1 locs1 → W p l e R s m args below meth c H1 locs1 (cells + mc) (slots + ms) Q (F0 m (pc + 3) ls ((w.map (mTv (mAd z sa))).toList ++ rest))) : W p l e R s m args below meth c H locs cells slots Q (F0 m pc ls st0) := by
  intro T hT X
  obtain ⟨v, st₀, t, T', L, h0, X', hL, e1, e2, ⟨hv, hP, hD, hz, hk⟩, st⟩ := hr T hT X
  cases hv
  rw [h0] at hz hk
  rw [← e1] at hP hz hk
  obtain ⟨t2, a1, b1⟩ := kk T'.heap (locs ++ L) ⟨hP, hD, ⟨Nat.le_trans hS.1 hz, fun q h1 h2 => by rw [hk q (Nat.lt_of_lt_of_le h1 hS.1) h2]; exact hS.2.1 q h1 h2, fun q hq => by
      rcases List.mem_append.mp hq with h | h
      · exact hS.2.2 q h
      · exact hL q h⟩⟩ T' rfl X'
  exact ⟨t2, st t2 a1, b1⟩
theorem mPc_at (C0 : mCx p s m args c cc nL (mOwn own) G cy z sa ro) (hI : mInv G cy z sa s h H locs) (hNw : mNw s) (hsz : H.size = z + h.length) {as : List Value} {U : State} (hU : U.heap = H) (hW : s.WarmedH U.vm) : mPc G cy z sa ro as h (as.map (mTv (mAd z sa))).toArray U := by
  obtain ⟨hx, hb, hml, hown, hts, hK, hro, hz⟩ := C0
  refine ⟨rfl, by rw [hU]; exact hI.1, hI.2.1, va_K.moved hW.alike hK, ?_, by rw [hU]; exact hsz, mNw.warm hW hNw⟩
  rw [hU]
  exact mRo.moved hW.alike (hro.kept (fun a h1 h2 => hI.2.2.2.1 a h1 h2))
theorem sim_inv (l : Launch) (C0 : mCx p s m args c cc nL (mOwn own) G cy z sa ro) (hI : mInv G cy z sa s h H locs) (hl : mLv (mAd z sa) lo ls) (hnl : lo.length = nL) (hNw : mNw s) (hsz : H.size = z + h.length) {w : Nat} (hdg : decode cc pc = .ok (.invokevirtual w, 3)) (hok : mOk own ini pc (.invokevirtual w, 3, a1, a2, a3, v32, v64, sw) = true)
    {d TC TS y : Nat} {as r : List Value} (hs : mStep2 ro rk (.invokevirtual w, 3, a1, a2, a3, v32, v64, sw) pc lo st h = some (.inr (.inr (y, as, r)))) (hy : y < 264) {v : Option Value} {h1 : mH} {c1 s1 : Nat} (hM : mMet l G cy z sa ro d y as h v h1 c1 s1) (hf : cells + c1 ≤ TC ∧ slots + s1 ≤ TS)
    (kk : ∀ (H1 : Heap) (locs1 : List Loc), mInv G cy z sa s h1 H1 locs1 → W p l e (mRm (d + 1) TC TS) s m args below meth c H1 locs1 (cells + c1) (slots + s1) Q (F0 m (pc + 3) ls ((v.toList ++ r).map (mTv (mAd z sa))))) : W p l e (mRm (d + 1) TC TS) s m args below meth c H locs cells slots Q (F0 m pc ls (st.map (mTv (mAd z sa)))) := by
  have C1 := C0
  obtain ⟨hx, hb, hml, hown, hts, hK, hro, hz⟩ := C0
  simp only [mStep2] at hs
  cases hc : (Nat.ble a2 st.length && Nat.ble (mCat (st.drop a2)) 8 && mRecv h a3 (st.take a2).reverse) with
  | false => rw [hc] at hs; cases hs
  | true =>
    rw [hc] at hs
    simp only [cond_true, Option.some.injEq, Sum.inr.injEq, Prod.mk.injEq] at hs
    obtain ⟨rfl, rfl, rfl⟩ := hs
    simp only [Bool.and_eq_true] at hc
    obtain ⟨⟨hc1, hc2⟩, hc3⟩ := hc
    have hc1 := Nat.le_of_ble_eq_true hc1
    have hc2 := Nat.le_of_ble_eq_true hc2
    have hok2 : ((mML.any fun e => Nat.beq e.1 own && Nat.beq e.2.1 w && Nat.beq e.2.2.1 a1) && Nat.beq (mMeth a1).2.2.2.2.2.2.1 a2 && !(mMeth a1).2.2.2.2.2.2.2.2 && Nat.beq (mMeth a1).2.2.2.2.1 a3 && !decide ((mMeth a1).1.name = "<init>") && Nat.blt a3 13) = true := hok
    simp only [Bool.and_eq_true, Bool.not_eq_true', decide_eq_false_iff_not] at hok2
    obtain ⟨⟨⟨⟨⟨k1, k2⟩, k3⟩, k4⟩, k5⟩, k6⟩ := hok2
    have k2 := Nat.eq_of_beq_eq_true k2
    have k4 := Nat.eq_of_beq_eq_true k4
    have k6 := Nat.blt_eq.mp k6
    obtain ⟨q1, q2, q3, q4, q5, q6, q7, q8, q9, q10⟩ := mP_use hy
    obtain ⟨n1, n2, n3⟩ := q9 k3
    obtain ⟨kr, ar, fs, har, hkr⟩ := mRecv_use hc3
    have hast : st = (ar.reverse ++ [.ref kr]) ++ st.drop a2 := by
      have e1 : st.take a2 = ar.reverse ++ [.ref kr] := by
        rw [← List.reverse_reverse (st.take a2), har, List.reverse_cons]
      rw [← e1, List.take_append_drop]
    have hlen : ar.length + 1 = a2 := by
      have := congrArg List.length har
      rw [List.length_reverse, List.length_take, List.length_cons] at this
      omega
    generalize hrest : st.drop a2 = rest at *
    rw [har] at hM
    have hd : (mMeth a1).1.cls ≠ "java/lang/invoke/MethodHandle" ∧ (mMeth a1).1.cls ≠ "java/lang/invoke/VarHandle" ∧ (parseMethodDescriptor (mMeth a1).1.desc).map (fun d => d.parameters.length) = some (a2 - 1) := by rw [k3] at q7; rw [← k2]; exact q7
    have hR : (mRm d c1 s1).frames + 1 ≤ (mRm (d + 1) TC TS).frames ∧ 8 + ((mMeth a1).2.2.1 + 11) + (mRm d c1 s1).locals ≤ (mRm (d + 1) TC TS).locals := ⟨Nat.le_refl _, by show 8 + (_ + 11) + (32 * d + 200) ≤ 32 * (d + 1) + 200; omega⟩
    have hpv : PreV s H (mMeth a1).1.cls (mAd z sa kr) (mPc G cy z sa ro (.ref kr :: ar) h) (ar.map (mTv (mAd z sa))) := by
      refine ⟨mPc_blind, ?_, fun U hU hW => mPc_at (as := .ref kr :: ar) C1 hI hNw hsz hU hW⟩
      have := va_recv (q := (mCn a3, mT a3, mNf a3)) hK hI.1 (mCl_at k6) (mWs_get hkr)
      rw [show (mCn a3, mT a3, mNf a3).1 = (mMeth a1).1.cls from by rw [← n3, k4]] at this
      exact this
    have hst : ((ar.map (mTv (mAd z sa))).reverse ++ List.map (mTv (mAd z sa)) [Value.ref kr]) ++ rest.map (mTv (mAd z sa)) = (ar.map (mTv (mAd z sa))).reverse ++ .ref (mAd z sa kr) :: rest.map (mTv (mAd z sa)) := by simp [mTv]
    have hrun : va_Run p l e (mRm (d + 1) TC TS) s m args below meth c H locs cells slots c1 s1 (F0 m pc ls (((ar.map (mTv (mAd z sa))).reverse ++ List.map (mTv (mAd z sa)) [Value.ref kr]) ++ rest.map (mTv (mAd z sa)))) (rest.map (mTv (mAd z sa))) (mQc G cy z sa v h1 (Value.ref (mAd z sa kr) :: ar.map (mTv (mAd z sa))).toArray) (mA z) := by
      rcases mML_use k1 with q | q
      · exact va_runV (C := (mMeth a1).1.cls) (n := a2 - 1) ⟨hx, hb, hml, hown, hts⟩ hM ⟨callB_of (a2 - 1) hts (mG_ws hy) rfl rfl rfl (hts _ (mGw_in q1 rfl)) (hts _ (mGw_in q rfl)) hd hR, hts _ (mGw_in (q3 k3) rfl), hts _ (mGw_in (q4 k3 k5) rfl)⟩ hpv rfl (by rw [List.length_map]; omega) (by rw [← hnl]; exact hl.1) hst (lv_room (by rw [mCat_eq, mCat_tv]; exact hc2)) hdg hf
      · exact va_runVN (C := (mMeth a1).1.cls) (n := a2 - 1) ⟨hx, hb, hml, hown, hts⟩ hM ⟨va_cnB (a2 - 1) hts (mG_ws hy) rfl rfl rfl (hNw.1 _ _ _ _ q) (hts _ (mGw_in q1 rfl)) hd hR, hts _ (mGw_in (q3 k3) rfl), hts _ (mGw_in (q4 k3 k5) rfl)⟩ hpv rfl (by rw [List.length_map]; omega) (by rw [← hnl]; exact hl.1) hst (lv_room (by rw [mCat_eq, mCat_tv]; exact hc2)) hdg hf
    rw [hast, List.map_append, List.map_append, List.map_reverse]
    refine mCall hrun hI.2.2 (fun H1 locs1 hI1 => ?_)
    have := kk H1 locs1 hI1
    rw [List.map_append] at this
    cases v <;> exact this
theorem sim_spec (l : Launch) (C0 : mCx p s m args c cc nL (mOwn own) G cy z sa ro) (hI : mInv G cy z sa s h H locs) (hl : mLv (mAd z sa) lo ls) (hnl : lo.length = nL) (hNw : mNw s) (hsz : H.size = z + h.length) {w : Nat} (hdg : decode cc pc = .ok (.invokespecial w, 3)) (hok : mOk own ini pc (.invokespecial w, 3, a1, a2, a3, v32, v64, sw) = true)
    {d TC TS y : Nat} {as r : List Value} (hs : mStep2 ro rk (.invokespecial w, 3, a1, a2, a3, v32, v64, sw) pc lo st h = some (.inr (.inr (y, as, r)))) (hy : y < 264) {v : Option Value} {h1 : mH} {c1 s1 : Nat} (hM : mMet l G cy z sa ro d y as h v h1 c1 s1) (hf : cells + c1 ≤ TC ∧ slots + s1 ≤ TS)
    (kk : ∀ (H1 : Heap) (locs1 : List Loc), mInv G cy z sa s h1 H1 locs1 → W p l e (mRm (d + 1) TC TS) s m args below meth c H1 locs1 (cells + c1) (slots + s1) Q (F0 m (pc + 3) ls ((v.toList ++ r).map (mTv (mAd z sa))))) : W p l e (mRm (d + 1) TC TS) s m args below meth c H locs cells slots Q (F0 m pc ls (st.map (mTv (mAd z sa)))) := by
  have C1 := C0
  obtain ⟨hx, hb, hml, hown, hts, hK, hro, hz⟩ := C0
  simp only [mStep2] at hs
  cases h3 : Nat.beq a3 1 with
  | true =>
    rw [h3] at hs
    simp only [cond_true] at hs
    split at hs
    · rename_i k r2
      cases hc : Nat.ble (mCat r2) 8 <;> rw [hc] at hs <;> simp [mGo] at hs
    · cases hs
  | false =>
    rw [h3] at hs
    simp only [cond_false] at hs
    split at hs
    · rename_i kr ar har
      cases hc : (Nat.ble a2 st.length && Nat.ble (mCat (st.drop a2)) 8) with
      | false => rw [hc] at hs; cases hs
      | true =>
        rw [hc] at hs
        simp only [cond_true, Option.some.injEq, Sum.inr.injEq, Prod.mk.injEq] at hs
        obtain ⟨rfl, rfl, rfl⟩ := hs
        simp only [Bool.and_eq_true] at hc
        obtain ⟨hc1, hc2⟩ := hc
        have hc1 := Nat.le_of_ble_eq_true hc1
        have hc2 := Nat.le_of_ble_eq_true hc2
        have hok2 : (bif Nat.beq a3 1 then (mOL.any fun e => Nat.beq e.1 own && Nat.beq e.2.1 w) else (mML.any fun e => Nat.beq e.1 own && Nat.beq e.2.1 w && Nat.beq e.2.2.1 a1) && Nat.beq (mMeth a1).2.2.2.2.2.2.1 a2 && !(mMeth a1).2.2.2.2.2.2.2.2 && decide ((mMeth a1).1.name = "<init>") && decide ((mMeth a1).2.2.2.1 = none)) = true := hok
        rw [h3] at hok2
        simp only [cond_false, Bool.and_eq_true, Bool.not_eq_true', decide_eq_true_eq] at hok2
        obtain ⟨⟨⟨⟨k1, k2⟩, k3⟩, k4⟩, k5⟩ := hok2
        have k2 := Nat.eq_of_beq_eq_true k2
        obtain ⟨q1, q2, q3, q4, q5, q6, q7, q8, q9, q10⟩ := mP_use hy
        have hast : st = (ar.reverse ++ [.ref kr]) ++ st.drop a2 := by
          have e1 : st.take a2 = ar.reverse ++ [.ref kr] := by
            rw [← List.reverse_reverse (st.take a2), har, List.reverse_cons]
          rw [← e1, List.take_append_drop]
        have hlen : ar.length + 1 = a2 := by
          have := congrArg List.length har
          rw [List.length_reverse, List.length_take, List.length_cons] at this
          omega
        generalize hrest : st.drop a2 = rest at *
        have hd : (mMeth a1).1.cls ≠ "java/lang/invoke/MethodHandle" ∧ (mMeth a1).1.cls ≠ "java/lang/invoke/VarHandle" ∧ (parseMethodDescriptor (mMeth a1).1.desc).map (fun d => d.parameters.length) = some (a2 - 1) := by rw [k3] at q7; rw [← k2]; exact q7
        have hR : (mRm d c1 s1).frames + 1 ≤ (mRm (d + 1) TC TS).frames ∧ 8 + ((mMeth a1).2.2.1 + 11) + (mRm d c1 s1).locals ≤ (mRm (d + 1) TC TS).locals := ⟨Nat.le_refl _, by show 8 + (_ + 11) + (32 * d + 200) ≤ 32 * (d + 1) + 200; omega⟩
        have hps : PreS s H (mPc G cy z sa ro (.ref kr :: ar) h) (.ref (mAd z sa kr) :: ar.map (mTv (mAd z sa))) := ⟨mPc_blind, fun U hU hW => mPc_at (as := .ref kr :: ar) C1 hI hNw hsz hU hW⟩
        have hst : ((ar.map (mTv (mAd z sa))).reverse ++ List.map (mTv (mAd z sa)) [Value.ref kr]) ++ rest.map (mTv (mAd z sa)) = (ar.map (mTv (mAd z sa))).reverse ++ .ref (mAd z sa kr) :: rest.map (mTv (mAd z sa)) := by simp [mTv]
        unfold mMet at hM
        rw [k5] at hM
        have hG := mG_ws hy
        rw [k5] at hG
        have hrun : va_Run p l e (mRm (d + 1) TC TS) s m args below meth c H locs cells slots c1 s1 (F0 m pc ls (((ar.map (mTv (mAd z sa))).reverse ++ List.map (mTv (mAd z sa)) [Value.ref kr]) ++ rest.map (mTv (mAd z sa)))) (rest.map (mTv (mAd z sa))) (mQc G cy z sa v h1 (Value.ref (mAd z sa kr) :: ar.map (mTv (mAd z sa))).toArray) (mA z) := by
          rcases mML_use k1 with q | q
          · exact va_runI (n := a2 - 1) ⟨hx, hb, hml, hown, hts⟩ hM (cwI (a2 - 1) hts hG rfl rfl rfl (hts _ (mGw_in q1 rfl)) (hts _ (mGw_in q rfl)) (hts _ (mGw_in (q3 k3) rfl)) k4 hd hR) hps rfl (by rw [List.length_map]; omega) (by rw [← hnl]; exact hl.1) hst (lv_room (by rw [mCat_eq, mCat_tv]; exact hc2)) hdg hf
          · exact va_runIN (n := a2 - 1) ⟨hx, hb, hml, hown, hts⟩ hM ⟨va_cnB (a2 - 1) hts hG rfl rfl rfl (hNw.1 _ _ _ _ q) (hts _ (mGw_in q1 rfl)) hd hR, k4, hts _ (mGw_in (q3 k3) rfl)⟩ hps rfl (by rw [List.length_map]; omega) (by rw [← hnl]; exact hl.1) hst (lv_room (by rw [mCat_eq, mCat_tv]; exact hc2)) hdg hf
        rw [hast, List.map_append, List.map_append, List.map_reverse]
        refine mCall hrun hI.2.2 (fun H1 locs1 hI1 => ?_)
        have := kk H1 locs1 hI1
        rw [List.map_append] at this
        cases v <;> exact this
    · cases hs
theorem sim_stat (l : Launch) (C0 : mCx p s m args c cc nL (mOwn own) G cy z sa ro) (hI : mInv G cy z sa s h H locs) (hl : mLv (mAd z sa) lo ls) (hnl : lo.length = nL) (hNw : mNw s) (hsz : H.size = z + h.length) {w : Nat} (hdg : decode cc pc = .ok (.invokestatic w, 3)) (hok : mOk own ini pc (.invokestatic w, 3, a1, a2, a3, v32, v64, sw) = true)
    {d TC TS y : Nat} {as r : List Value} (hs : mStep2 ro rk (.invokestatic w, 3, a1, a2, a3, v32, v64, sw) pc lo st h = some (.inr (.inr (y, as, r)))) (hy : y < 264) {v : Option Value} {h1 : mH} {c1 s1 : Nat} (hM : mMet l G cy z sa ro d y as h v h1 c1 s1) (hf : cells + c1 ≤ TC ∧ slots + s1 ≤ TS)
    (kk : ∀ (H1 : Heap) (locs1 : List Loc), mInv G cy z sa s h1 H1 locs1 → W p l e (mRm (d + 1) TC TS) s m args below meth c H1 locs1 (cells + c1) (slots + s1) Q (F0 m (pc + 3) ls ((v.toList ++ r).map (mTv (mAd z sa))))) : W p l e (mRm (d + 1) TC TS) s m args below meth c H locs cells slots Q (F0 m pc ls (st.map (mTv (mAd z sa)))) := by
  have C1 := C0
  obtain ⟨hx, hb, hml, hown, hts, hK, hro, hz⟩ := C0
  simp only [mStep2] at hs
  cases h3 : Nat.beq a3 1 with
  | true =>
    rw [h3] at hs
    simp only [cond_true] at hs
    split at hs
    · split at hs
      · split at hs
        · cases hs
        · simp [mGo] at hs
      · cases hs
    · cases hs
  | false =>
    rw [h3] at hs
    simp only [cond_false] at hs
    cases hc : (Nat.ble a2 st.length && Nat.ble (mCat (st.drop a2)) 8) with
    | false => rw [hc] at hs; cases hs
    | true =>
      rw [hc] at hs
      simp only [cond_true, Option.some.injEq, Sum.inr.injEq, Prod.mk.injEq] at hs
      obtain ⟨rfl, rfl, rfl⟩ := hs
      simp only [Bool.and_eq_true] at hc
      obtain ⟨hc1, hc2⟩ := hc
      have hc1 := Nat.le_of_ble_eq_true hc1
      have hc2 := Nat.le_of_ble_eq_true hc2
      have hok2 : (bif Nat.beq a3 1 then (mPL.any fun e => Nat.beq e.1 own && Nat.beq e.2.1 w) else (mML.any fun e => Nat.beq e.1 own && Nat.beq e.2.1 w && Nat.beq e.2.2.1 a1) && Nat.beq (mMeth a1).2.2.2.2.2.2.1 a2 && (mMeth a1).2.2.2.2.2.2.2.2) = true := hok
      rw [h3] at hok2
      simp only [cond_false, Bool.and_eq_true] at hok2
      obtain ⟨⟨k1, k2⟩, k3⟩ := hok2
      have k2 := Nat.eq_of_beq_eq_true k2
      obtain ⟨q1, q2, q3, q4, q5, q6, q7, q8, q9, q10⟩ := mP_use hy
      have hlen : (st.take a2).reverse.length = a2 := by rw [List.length_reverse, List.length_take]; omega
      have hast : st = (st.take a2).reverse.reverse ++ st.drop a2 := by rw [List.reverse_reverse, List.take_append_drop]
      generalize hrest : st.drop a2 = rest at *
      generalize hgas : (st.take a2).reverse = ga at *
      have hd : (mMeth a1).1.cls ≠ "java/lang/invoke/MethodHandle" ∧ (mMeth a1).1.cls ≠ "java/lang/invoke/VarHandle" ∧ (parseMethodDescriptor (mMeth a1).1.desc).map (fun d => d.parameters.length) = some a2 := by rw [k3] at q7; rw [← k2]; exact q7
      have hR : (mRm d c1 s1).frames + 1 ≤ (mRm (d + 1) TC TS).frames ∧ 8 + ((mMeth a1).2.2.1 + 11) + (mRm d c1 s1).locals ≤ (mRm (d + 1) TC TS).locals := ⟨Nat.le_refl _, by show 8 + (_ + 11) + (32 * d + 200) ≤ 32 * (d + 1) + 200; omega⟩
      have hps : PreS s H (mPc G cy z sa ro ga h) (ga.map (mTv (mAd z sa))) := ⟨mPc_blind, fun U hU hW => mPc_at (as := ga) C1 hI hNw hsz hU hW⟩
      have hrun : va_Run p l e (mRm (d + 1) TC TS) s m args below meth c H locs cells slots c1 s1 (F0 m pc ls ((ga.map (mTv (mAd z sa))).reverse ++ rest.map (mTv (mAd z sa)))) (rest.map (mTv (mAd z sa))) (mQc G cy z sa v h1 (ga.map (mTv (mAd z sa))).toArray) (mA z) := by
        rcases mML_use k1 with q | q
        · exact va_runS (n := a2) ⟨hx, hb, hml, hown, hts⟩ hM ⟨callB_of a2 hts (mG_ws hy) rfl rfl rfl (hts _ (mGw_in q1 rfl)) (hts _ (mGw_in q rfl)) hd hR, hts _ (mGw_in (q2 k3) rfl)⟩ hps rfl (by rw [List.length_map]; omega) (by rw [← hnl]; exact hl.1) rfl (lv_room (by rw [mCat_eq, mCat_tv]; exact hc2)) hdg hf
        · exact va_runSN (n := a2) ⟨hx, hb, hml, hown, hts⟩ hM ⟨va_cnB a2 hts (mG_ws hy) rfl rfl rfl (hNw.1 _ _ _ _ q) (hts _ (mGw_in q1 rfl)) hd hR, hts _ (mGw_in (q2 k3) rfl), trivial⟩ hps rfl (by rw [List.length_map]; omega) (by rw [← hnl]; exact hl.1) rfl (lv_room (by rw [mCat_eq, mCat_tv]; exact hc2)) hdg hf
      rw [hast, List.map_append, List.map_reverse]
      refine mCall hrun hI.2.2 (fun H1 locs1 hI1 => ?_)
      have := kk H1 locs1 hI1
      rw [List.map_append] at this
      cases v <;> exact this
end S7
