theorem mLc_eq (x y : Int64) : mLc x y = lg_cmp x y := by
  unfold mLc lg_cmp
  simp only [gt_iff_lt, Int64.lt_iff_toInt_lt, ← Int64.toInt_inj]
  by_cases h1 : x.toInt < y.toInt
  · have h2 : ¬ y.toInt < x.toInt := by omega
    have h3 : ¬ x.toInt = y.toInt := by omega
    rw [if_pos h1, if_neg h2, if_neg h3]
  · by_cases h3 : x.toInt = y.toInt
    · have h2 : ¬ y.toInt < x.toInt := by omega
      rw [if_neg h1, if_pos h3, if_neg h2, if_pos h3]
    · have h2 : y.toInt < x.toInt := by omega
      rw [if_neg h1, if_neg h3, if_pos h2]
theorem mSw_lk {pc : Int} {d : Int} {a1 : Nat} (hd : pc + d = (a1 : Int)) (x : Int32) : ∀ (ps : List (Int × Int)) (sw : List (Int32 × Nat)), mLkOk pc ps sw = true → pc + Op.lookupswitch.offset ps d x.toInt = ((mSw x sw a1 : Nat) : Int) := by
  intro ps
  induction ps with
  | nil =>
    intro sw h
    cases sw with
    | nil => rw [Op.lookupswitch.offset_nil]; exact hd
    | cons q r => simp [mLkOk] at h
  | cons y t ih =>
    intro sw h
    cases sw with
    | nil => simp [mLkOk] at h
    | cons q r =>
      simp only [mLkOk, Bool.and_eq_true, decide_eq_true_eq] at h
      obtain ⟨⟨⟨h1, h2⟩, h3⟩, h4⟩ := h
      rw [Op.lookupswitch.offset_cons, mSw]
      by_cases hx : x = q.1
      · rw [if_pos hx, if_pos (by rw [hx, h3])]
        exact h2
      · rw [if_neg hx, if_neg (fun e => hx (Int32.toInt_inj.mp (by rw [h3, e])))]
        exact ih r h4
theorem mSw_tb {pc : Int} {lo : Int} {a1 : Nat} (x : Int32) (hlo : -2147483648 ≤ lo) : ∀ (os : List Int) (sw : List (Int32 × Nat)) (k : Nat), mSwOk pc lo k os sw = true → lo + k + os.length ≤ 2147483648 →
    (∀ (j : Nat) (off : Int), os[j]? = some off → x.toInt = lo + k + j → pc + off = ((mSw x sw a1 : Nat) : Int)) ∧ ((∀ j : Nat, j < os.length → ¬ x.toInt = lo + k + j) → mSw x sw a1 = a1) := by
  intro os
  induction os with
  | nil =>
    intro sw k h hk
    cases sw with
    | nil => exact ⟨fun j off h => by simp at h, fun _ => rfl⟩
    | cons q r => simp [mSwOk] at h
  | cons y t ih =>
    intro sw k h hk
    cases sw with
    | nil => simp [mSwOk] at h
    | cons q r =>
      simp only [mSwOk, Bool.and_eq_true, decide_eq_true_eq] at h
      obtain ⟨⟨h1, h2⟩, h4⟩ := h
      simp only [List.length_cons] at hk
      have hq : q.1.toInt = lo + k := by
        rw [← h1]
        exact Int32.toInt_ofInt_of_le (by omega) (by omega)
      obtain ⟨i1, i2⟩ := ih r (k + 1) h4 (by omega)
      have hxq : (x = q.1) ↔ x.toInt = lo + k := by rw [← hq, Int32.toInt_inj]
      refine ⟨fun j off hj hx => ?_, fun hn => ?_⟩
      · rw [mSw]
        cases j with
        | zero =>
          simp at hj
          rw [if_pos (hxq.mpr (by omega)), ← hj]
          exact h2
        | succ j =>
          simp only [List.getElem?_cons_succ] at hj
          rw [if_neg (fun e => by have := hxq.mp e; omega)]
          exact i1 j off hj (by omega)
      · rw [mSw, if_neg (fun e => hn 0 (by simp) (by have := hxq.mp e; omega))]
        exact i2 (fun j hj e => hn (j + 1) (by simp; omega) (by omega))

section S1
variable {p : Program} {l : Launch} {e : Env} {R : Room} {s : State} {m : MethodId} {args : Array Value} {below : List Frame} {meth : Method} {c : Code} {H : Heap} {locs : List Loc} {cells slots : Nat} {Q : State → Prop}
variable {cc : ByteArray} {nL : Nat} {own : String} {G : va_G} {cy : Nat → ClassId} {z : Nat} {sa : Nat → Nat} {ro : List (List Int32)} {pc len a1 a2 a3 : Nat} {v32 : Int32} {v64 : Int64} {sw : List (Int32 × Nat)} {lo : mO} {st : List Value} {h : mH} {ls : Array Slot} {pc2 : Nat} {lo2 : mO} {st2 : List Value} {h2 : mH} {dc ds : Nat} {k : Nat} {ini : Bool}
theorem mGo_inv {x : mR} (hs : mGo pc lo st h = some x) : x = .inl (pc, lo, st, h, 0, 0) := by simp only [mGo, Option.some.injEq] at hs; exact hs.symm
/-- what is left to do behind an instruction that leaves the cells -/
abbrev mKk (p : Program) (l : Launch) (e : Env) (R : Room) (s : State) (m : MethodId) (args : Array Value) (below : List Frame) (meth : Method) (c : Code) (H : Heap) (locs : List Loc) (cells slots : Nat) (Q : State → Prop) (ad : Nat → Nat) (h : mH) (x : mR) : Prop :=
  ∀ (pc2 : Nat) (lo2 : mO) (st2 : List Value), x = .inl (pc2, lo2, st2, h, 0, 0) → ∀ ls2 : Array Slot, mLv ad lo2 ls2 → W p l e R s m args below meth c H locs cells slots Q (F0 m pc2 ls2 (st2.map (mTv ad)))

theorem sim_iload_n (C0 : mCx p s m args c cc nL own G cy z sa ro) (hl : mLv (mAd z sa) lo ls) {q : Fin 4} {x : mR} (hdg : decode cc pc = .ok (.iload_n q, 1)) (ha : q.val = a1)
    (hs : mStep1 ro (.iload_n q, 1, a1, a2, a3, v32, v64, sw) pc lo st h = some x) (K : mKk p l e R s m args below meth c H locs cells slots Q (mAd z sa) h x) : W p l e R s m args below meth c H locs cells slots Q (F0 m pc ls (st.map (mTv (mAd z sa)))) := by
  obtain ⟨hx, hb, hml, hown, hts, hK, hro, hz⟩ := C0
  simp only [mStep1] at hs
  split at hs
  · rename_i y hy
    have := mGo_inv hs
    subst this
    exact lv_iload_n hx hb hdg ha (hl.2.2 _ _ hy) (K _ _ _ rfl ls hl)
  · cases hs
theorem sim_iload (C0 : mCx p s m args c cc nL own G cy z sa ro) (hl : mLv (mAd z sa) lo ls)  {x : mR} (hdg : decode cc pc = .ok (.iload a1, 2))
    (hs : mStep1 ro (.iload a1, 2, a1, a2, a3, v32, v64, sw) pc lo st h = some x) (K : mKk p l e R s m args below meth c H locs cells slots Q (mAd z sa) h x) : W p l e R s m args below meth c H locs cells slots Q (F0 m pc ls (st.map (mTv (mAd z sa)))) := by
  obtain ⟨hx, hb, hml, hown, hts, hK, hro, hz⟩ := C0
  simp only [mStep1] at hs
  split at hs
  · rename_i y hy
    have := mGo_inv hs
    subst this
    exact lv_iload hx hb hdg (hl.2.2 _ _ hy) (K _ _ _ rfl ls hl)
  · cases hs
theorem sim_aload_n (C0 : mCx p s m args c cc nL own G cy z sa ro) (hl : mLv (mAd z sa) lo ls) {q : Fin 4} {x : mR} (hdg : decode cc pc = .ok (.aload_n q, 1)) (ha : q.val = a1)
    (hs : mStep1 ro (.aload_n q, 1, a1, a2, a3, v32, v64, sw) pc lo st h = some x) (K : mKk p l e R s m args below meth c H locs cells slots Q (mAd z sa) h x) : W p l e R s m args below meth c H locs cells slots Q (F0 m pc ls (st.map (mTv (mAd z sa)))) := by
  obtain ⟨hx, hb, hml, hown, hts, hK, hro, hz⟩ := C0
  simp only [mStep1] at hs
  split at hs
  · rename_i y hy
    have := mGo_inv hs
    subst this
    exact lv_aload_n hx hb hdg ha (hl.2.2 _ _ hy) (K _ _ _ rfl ls hl)
  · cases hs
theorem sim_lload_n (C0 : mCx p s m args c cc nL own G cy z sa ro) (hl : mLv (mAd z sa) lo ls) {q : Fin 4} {x : mR} (hdg : decode cc pc = .ok (.lload_n q, 1)) (ha : q.val = a1)
    (hs : mStep1 ro (.lload_n q, 1, a1, a2, a3, v32, v64, sw) pc lo st h = some x) (K : mKk p l e R s m args below meth c H locs cells slots Q (mAd z sa) h x) : W p l e R s m args below meth c H locs cells slots Q (F0 m pc ls (st.map (mTv (mAd z sa)))) := by
  obtain ⟨hx, hb, hml, hown, hts, hK, hro, hz⟩ := C0
  simp only [mStep1] at hs
  split at hs
  · rename_i y hy
    have := mGo_inv hs
    subst this
    exact lv_lload_n hx hb hdg ha (hl.2.2 _ _ hy) (K _ _ _ rfl ls hl)
  · cases hs
theorem sim_lload (C0 : mCx p s m args c cc nL own G cy z sa ro) (hl : mLv (mAd z sa) lo ls)  {x : mR} (hdg : decode cc pc = .ok (.lload a1, 2))
    (hs : mStep1 ro (.lload a1, 2, a1, a2, a3, v32, v64, sw) pc lo st h = some x) (K : mKk p l e R s m args below meth c H locs cells slots Q (mAd z sa) h x) : W p l e R s m args below meth c H locs cells slots Q (F0 m pc ls (st.map (mTv (mAd z sa)))) := by
  obtain ⟨hx, hb, hml, hown, hts, hK, hro, hz⟩ := C0
  simp only [mStep1] at hs
  split at hs
  · rename_i y hy
    have := mGo_inv hs
    subst this
    exact lv_lload hx hb hdg (hl.2.2 _ _ hy) (K _ _ _ rfl ls hl)
  · cases hs
theorem sim_istore_n (C0 : mCx p s m args c cc nL own G cy z sa ro) (hl : mLv (mAd z sa) lo ls) {q : Fin 4} {x : mR} (hdg : decode cc pc = .ok (.istore_n q, 1)) (ha : q.val = a1)
    (hs : mStep1 ro (.istore_n q, 1, a1, a2, a3, v32, v64, sw) pc lo st h = some x) (K : mKk p l e R s m args below meth c H locs cells slots Q (mAd z sa) h x) : W p l e R s m args below meth c H locs cells slots Q (F0 m pc ls (st.map (mTv (mAd z sa)))) := by
  obtain ⟨hx, hb, hml, hown, hts, hK, hro, hz⟩ := C0
  simp only [mStep1] at hs
  split at hs
  · rename_i y r
    cases hlt : Nat.blt a1 lo.length with
    | false => rw [hlt] at hs; cases hs
    | true =>
      rw [hlt] at hs
      have := mGo_inv hs
      subst this
      exact lv_istore_n hx hb hdg ha hl.to (Nat.lt_of_lt_of_le (Nat.lt_succ_self _) (Nat.le_of_ble_eq_true hlt)) rfl (fun ls2 hl2 => K _ _ _ rfl ls2 (mLv.st1 hl2))
  · cases hs
theorem sim_istore (C0 : mCx p s m args c cc nL own G cy z sa ro) (hl : mLv (mAd z sa) lo ls)  {x : mR} (hdg : decode cc pc = .ok (.istore a1, 2))
    (hs : mStep1 ro (.istore a1, 2, a1, a2, a3, v32, v64, sw) pc lo st h = some x) (K : mKk p l e R s m args below meth c H locs cells slots Q (mAd z sa) h x) : W p l e R s m args below meth c H locs cells slots Q (F0 m pc ls (st.map (mTv (mAd z sa)))) := by
  obtain ⟨hx, hb, hml, hown, hts, hK, hro, hz⟩ := C0
  simp only [mStep1] at hs
  split at hs
  · rename_i y r
    cases hlt : Nat.blt a1 lo.length with
    | false => rw [hlt] at hs; cases hs
    | true =>
      rw [hlt] at hs
      have := mGo_inv hs
      subst this
      exact lv_istore hx hb hdg hl.to (Nat.lt_of_lt_of_le (Nat.lt_succ_self _) (Nat.le_of_ble_eq_true hlt)) rfl (fun ls2 hl2 => K _ _ _ rfl ls2 (mLv.st1 hl2))
  · cases hs
theorem sim_astore_n (C0 : mCx p s m args c cc nL own G cy z sa ro) (hl : mLv (mAd z sa) lo ls) {q : Fin 4} {x : mR} (hdg : decode cc pc = .ok (.astore_n q, 1)) (ha : q.val = a1)
    (hs : mStep1 ro (.astore_n q, 1, a1, a2, a3, v32, v64, sw) pc lo st h = some x) (K : mKk p l e R s m args below meth c H locs cells slots Q (mAd z sa) h x) : W p l e R s m args below meth c H locs cells slots Q (F0 m pc ls (st.map (mTv (mAd z sa)))) := by
  obtain ⟨hx, hb, hml, hown, hts, hK, hro, hz⟩ := C0
  simp only [mStep1] at hs
  split at hs
  · rename_i y r
    cases hlt : Nat.blt a1 lo.length with
    | false => rw [hlt] at hs; cases hs
    | true =>
      rw [hlt] at hs
      have := mGo_inv hs
      subst this
      exact lv_astore_n hx hb hdg ha hl.to (Nat.lt_of_lt_of_le (Nat.lt_succ_self _) (Nat.le_of_ble_eq_true hlt)) rfl (fun ls2 hl2 => K _ _ _ rfl ls2 (mLv.st1 hl2))
  · cases hs
theorem sim_lstore_n (C0 : mCx p s m args c cc nL own G cy z sa ro) (hl : mLv (mAd z sa) lo ls) {q : Fin 4} {x : mR} (hdg : decode cc pc = .ok (.lstore_n q, 1)) (ha : q.val = a1)
    (hs : mStep1 ro (.lstore_n q, 1, a1, a2, a3, v32, v64, sw) pc lo st h = some x) (K : mKk p l e R s m args below meth c H locs cells slots Q (mAd z sa) h x) : W p l e R s m args below meth c H locs cells slots Q (F0 m pc ls (st.map (mTv (mAd z sa)))) := by
  obtain ⟨hx, hb, hml, hown, hts, hK, hro, hz⟩ := C0
  simp only [mStep1] at hs
  split at hs
  · rename_i y r
    cases hlt : Nat.blt (a1 + 1) lo.length with
    | false => rw [hlt] at hs; cases hs
    | true =>
      rw [hlt] at hs
      have := mGo_inv hs
      subst this
      exact lv_lstore_n hx hb hdg ha hl.to (Nat.lt_of_lt_of_le (Nat.lt_succ_self _) (Nat.le_of_ble_eq_true hlt)) rfl (fun ls2 hl2 => K _ _ _ rfl ls2 (mLv.st2 hl2))
  · cases hs
theorem sim_lstore (C0 : mCx p s m args c cc nL own G cy z sa ro) (hl : mLv (mAd z sa) lo ls)  {x : mR} (hdg : decode cc pc = .ok (.lstore a1, 2))
    (hs : mStep1 ro (.lstore a1, 2, a1, a2, a3, v32, v64, sw) pc lo st h = some x) (K : mKk p l e R s m args below meth c H locs cells slots Q (mAd z sa) h x) : W p l e R s m args below meth c H locs cells slots Q (F0 m pc ls (st.map (mTv (mAd z sa)))) := by
  obtain ⟨hx, hb, hml, hown, hts, hK, hro, hz⟩ := C0
  simp only [mStep1] at hs
  split at hs
  · rename_i y r
    cases hlt : Nat.blt (a1 + 1) lo.length with
    | false => rw [hlt] at hs; cases hs
    | true =>
      rw [hlt] at hs
      have := mGo_inv hs
      subst this
      exact lv_lstore hx hb hdg hl.to (Nat.lt_of_lt_of_le (Nat.lt_succ_self _) (Nat.le_of_ble_eq_true hlt)) rfl (fun ls2 hl2 => K _ _ _ rfl ls2 (mLv.st2 hl2))
  · cases hs
theorem sim_iinc (C0 : mCx p s m args c cc nL own G cy z sa ro) (hl : mLv (mAd z sa) lo ls) {w : Int} {x : mR} (hdg : decode cc pc = .ok (.iinc a1 w, 3)) (ha : Int32.ofInt w = v32)
    (hs : mStep1 ro (.iinc a1 w, 3, a1, a2, a3, v32, v64, sw) pc lo st h = some x) (K : mKk p l e R s m args below meth c H locs cells slots Q (mAd z sa) h x) : W p l e R s m args below meth c H locs cells slots Q (F0 m pc ls (st.map (mTv (mAd z sa)))) := by
  obtain ⟨hx, hb, hml, hown, hts, hK, hro, hz⟩ := C0
  simp only [mStep1] at hs
  split at hs
  · rename_i y hy
    cases hlt : Nat.blt a1 lo.length with
    | false => rw [hlt] at hs; cases hs
    | true =>
      rw [hlt] at hs
      have := mGo_inv hs
      subst this
      obtain ⟨k9, hk9⟩ := List.getElem?_of_mem (mLs_of (ad := mAd z sa) hy)
      exact lv_iinc hx hb hdg hl.to hk9 (by rw [ha]) (Nat.lt_of_lt_of_le (Nat.lt_succ_self _) (Nat.le_of_ble_eq_true hlt)) rfl (fun ls2 hl2 => K _ _ _ rfl ls2 (mLv.st1 hl2))
  · cases hs
theorem sim_iconst (C0 : mCx p s m args c cc nL own G cy z sa ro) (hl : mLv (mAd z sa) lo ls) {w : Int} {x : mR} (hdg : decode cc pc = .ok (.iconst w, 1)) (ha : Int32.ofInt w = v32)
    (hs : mStep1 ro (.iconst w, 1, a1, a2, a3, v32, v64, sw) pc lo st h = some x) (K : mKk p l e R s m args below meth c H locs cells slots Q (mAd z sa) h x) : W p l e R s m args below meth c H locs cells slots Q (F0 m pc ls (st.map (mTv (mAd z sa)))) := by
  obtain ⟨hx, hb, hml, hown, hts, hK, hro, hz⟩ := C0
  simp only [mStep1] at hs
  have := mGo_inv hs
  subst this
  exact lv_iconst hx hb hdg ha (K _ _ _ rfl ls hl)
theorem sim_bipush (C0 : mCx p s m args c cc nL own G cy z sa ro) (hl : mLv (mAd z sa) lo ls) {w : Int} {x : mR} (hdg : decode cc pc = .ok (.bipush w, 2)) (ha : (Int8.ofInt w).toInt32 = v32)
    (hs : mStep1 ro (.bipush w, 2, a1, a2, a3, v32, v64, sw) pc lo st h = some x) (K : mKk p l e R s m args below meth c H locs cells slots Q (mAd z sa) h x) : W p l e R s m args below meth c H locs cells slots Q (F0 m pc ls (st.map (mTv (mAd z sa)))) := by
  obtain ⟨hx, hb, hml, hown, hts, hK, hro, hz⟩ := C0
  simp only [mStep1] at hs
  have := mGo_inv hs
  subst this
  exact lv_bipush hx hb hdg ha (K _ _ _ rfl ls hl)
theorem sim_sipush (C0 : mCx p s m args c cc nL own G cy z sa ro) (hl : mLv (mAd z sa) lo ls) {w : Int} {x : mR} (hdg : decode cc pc = .ok (.sipush w, 3)) (ha : (Int16.ofInt w).toInt32 = v32)
    (hs : mStep1 ro (.sipush w, 3, a1, a2, a3, v32, v64, sw) pc lo st h = some x) (K : mKk p l e R s m args below meth c H locs cells slots Q (mAd z sa) h x) : W p l e R s m args below meth c H locs cells slots Q (F0 m pc ls (st.map (mTv (mAd z sa)))) := by
  obtain ⟨hx, hb, hml, hown, hts, hK, hro, hz⟩ := C0
  simp only [mStep1] at hs
  have := mGo_inv hs
  subst this
  exact lv_sipush hx hb hdg ha (K _ _ _ rfl ls hl)
theorem sim_lconst (C0 : mCx p s m args c cc nL own G cy z sa ro) (hl : mLv (mAd z sa) lo ls) {w : Fin 2} {x : mR} (hdg : decode cc pc = .ok (.lconst w, 1)) (ha : Int64.ofNat w.val = v64)
    (hs : mStep1 ro (.lconst w, 1, a1, a2, a3, v32, v64, sw) pc lo st h = some x) (K : mKk p l e R s m args below meth c H locs cells slots Q (mAd z sa) h x) : W p l e R s m args below meth c H locs cells slots Q (F0 m pc ls (st.map (mTv (mAd z sa)))) := by
  obtain ⟨hx, hb, hml, hown, hts, hK, hro, hz⟩ := C0
  simp only [mStep1] at hs
  have := mGo_inv hs
  subst this
  exact lv_lconst hx hb hdg ha (K _ _ _ rfl ls hl)
theorem sim_ldc (C0 : mCx p s m args c cc nL own G cy z sa ro) (hl : mLv (mAd z sa) lo ls) {w : Nat} {x : mR} (hdg : decode cc pc = .ok (.ldc w, 2)) (ha : Jvm.Cond.constant own w v32 ∈ lw_tbl)
    (hs : mStep1 ro (.ldc w, 2, a1, a2, a3, v32, v64, sw) pc lo st h = some x) (K : mKk p l e R s m args below meth c H locs cells slots Q (mAd z sa) h x) : W p l e R s m args below meth c H locs cells slots Q (F0 m pc ls (st.map (mTv (mAd z sa)))) := by
  obtain ⟨hx, hb, hml, hown, hts, hK, hro, hz⟩ := C0
  simp only [mStep1] at hs
  have := mGo_inv hs
  subst this
  exact lv_ldc hx hb hown (hts _ (mGw_in ha rfl)) hdg (K _ _ _ rfl ls hl)
theorem sim_ldc_w (C0 : mCx p s m args c cc nL own G cy z sa ro) (hl : mLv (mAd z sa) lo ls) {w : Nat} {x : mR} (hdg : decode cc pc = .ok (.ldc_w w, 3)) (ha : Jvm.Cond.constant own w v32 ∈ lw_tbl)
    (hs : mStep1 ro (.ldc_w w, 3, a1, a2, a3, v32, v64, sw) pc lo st h = some x) (K : mKk p l e R s m args below meth c H locs cells slots Q (mAd z sa) h x) : W p l e R s m args below meth c H locs cells slots Q (F0 m pc ls (st.map (mTv (mAd z sa)))) := by
  obtain ⟨hx, hb, hml, hown, hts, hK, hro, hz⟩ := C0
  simp only [mStep1] at hs
  have := mGo_inv hs
  subst this
  exact lv_ldcw hx hb hown (hts _ (mGw_in ha rfl)) hdg (K _ _ _ rfl ls hl)
theorem sim_ldc2 (C0 : mCx p s m args c cc nL own G cy z sa ro) (hl : mLv (mAd z sa) lo ls) {w : Nat} {x : mR} (hdg : decode cc pc = .ok (.ldc2_w w, 3)) (ha : Jvm.Cond.constantLong own w v64 ∈ lw_tbl)
    (hs : mStep1 ro (.ldc2_w w, 3, a1, a2, a3, v32, v64, sw) pc lo st h = some x) (K : mKk p l e R s m args below meth c H locs cells slots Q (mAd z sa) h x) : W p l e R s m args below meth c H locs cells slots Q (F0 m pc ls (st.map (mTv (mAd z sa)))) := by
  obtain ⟨hx, hb, hml, hown, hts, hK, hro, hz⟩ := C0
  simp only [mStep1] at hs
  have := mGo_inv hs
  subst this
  exact lv_ldc2 hx hb hown (hts _ (mGw_in ha rfl)) hdg (K _ _ _ rfl ls hl)
theorem sim_dup (C0 : mCx p s m args c cc nL own G cy z sa ro) (hl : mLv (mAd z sa) lo ls)  {x : mR} (hdg : decode cc pc = .ok (.dup, 1))
    (hs : mStep1 ro (.dup, 1, a1, a2, a3, v32, v64, sw) pc lo st h = some x) (K : mKk p l e R s m args below meth c H locs cells slots Q (mAd z sa) h x) : W p l e R s m args below meth c H locs cells slots Q (F0 m pc ls (st.map (mTv (mAd z sa)))) := by
  obtain ⟨hx, hb, hml, hown, hts, hK, hro, hz⟩ := C0
  simp only [mStep1] at hs
  split at hs
  · rename_i y r
    cases hc : Nat.beq y.category 1 with
    | false => rw [hc] at hs; cases hs
    | true =>
      rw [hc] at hs
      have := mGo_inv hs
      subst this
      exact lv_dup hx hb hdg (by rw [mTv_cat]; exact Nat.eq_of_beq_eq_true hc) (K _ _ _ rfl ls hl)
  · cases hs
theorem sim_dup2 (C0 : mCx p s m args c cc nL own G cy z sa ro) (hl : mLv (mAd z sa) lo ls)  {x : mR} (hdg : decode cc pc = .ok (.dup2, 1))
    (hs : mStep1 ro (.dup2, 1, a1, a2, a3, v32, v64, sw) pc lo st h = some x) (K : mKk p l e R s m args below meth c H locs cells slots Q (mAd z sa) h x) : W p l e R s m args below meth c H locs cells slots Q (F0 m pc ls (st.map (mTv (mAd z sa)))) := by
  obtain ⟨hx, hb, hml, hown, hts, hK, hro, hz⟩ := C0
  simp only [mStep1] at hs
  split at hs
  · rename_i y w r
    cases hc : (Nat.beq y.category 1 && Nat.beq w.category 1) with
    | false => rw [hc] at hs; cases hs
    | true =>
      rw [hc] at hs
      have := mGo_inv hs
      subst this
      rw [Bool.and_eq_true] at hc
      exact lv_dup2_11 hx hb hdg (by rw [mTv_cat]; exact Nat.eq_of_beq_eq_true hc.1) (by rw [mTv_cat]; exact Nat.eq_of_beq_eq_true hc.2) (K _ _ _ rfl ls hl)
  · cases hs
theorem sim_pop (C0 : mCx p s m args c cc nL own G cy z sa ro) (hl : mLv (mAd z sa) lo ls)  {x : mR} (hdg : decode cc pc = .ok (.pop, 1))
    (hs : mStep1 ro (.pop, 1, a1, a2, a3, v32, v64, sw) pc lo st h = some x) (K : mKk p l e R s m args below meth c H locs cells slots Q (mAd z sa) h x) : W p l e R s m args below meth c H locs cells slots Q (F0 m pc ls (st.map (mTv (mAd z sa)))) := by
  obtain ⟨hx, hb, hml, hown, hts, hK, hro, hz⟩ := C0
  simp only [mStep1] at hs
  split at hs
  · rename_i y r
    cases hc : Nat.beq y.category 1 with
    | false => rw [hc] at hs; cases hs
    | true =>
      rw [hc] at hs
      have := mGo_inv hs
      subst this
      exact lv_pop hx hb hdg (by rw [mTv_cat]; exact Nat.eq_of_beq_eq_true hc) (K _ _ _ rfl ls hl)
  · cases hs
theorem sim_iadd (C0 : mCx p s m args c cc nL own G cy z sa ro) (hl : mLv (mAd z sa) lo ls)  {x : mR} (hdg : decode cc pc = .ok (.iadd, 1))
    (hs : mStep1 ro (.iadd, 1, a1, a2, a3, v32, v64, sw) pc lo st h = some x) (K : mKk p l e R s m args below meth c H locs cells slots Q (mAd z sa) h x) : W p l e R s m args below meth c H locs cells slots Q (F0 m pc ls (st.map (mTv (mAd z sa)))) := by
  obtain ⟨hx, hb, hml, hown, hts, hK, hro, hz⟩ := C0
  simp only [mStep1] at hs
  unfold mI2 at hs
  split at hs
  · have := mGo_inv hs
    subst this
    exact lv_iadd hx hb hdg (K _ _ _ rfl ls hl)
  · cases hs
theorem sim_isub (C0 : mCx p s m args c cc nL own G cy z sa ro) (hl : mLv (mAd z sa) lo ls)  {x : mR} (hdg : decode cc pc = .ok (.isub, 1))
    (hs : mStep1 ro (.isub, 1, a1, a2, a3, v32, v64, sw) pc lo st h = some x) (K : mKk p l e R s m args below meth c H locs cells slots Q (mAd z sa) h x) : W p l e R s m args below meth c H locs cells slots Q (F0 m pc ls (st.map (mTv (mAd z sa)))) := by
  obtain ⟨hx, hb, hml, hown, hts, hK, hro, hz⟩ := C0
  simp only [mStep1] at hs
  unfold mI2 at hs
  split at hs
  · have := mGo_inv hs
    subst this
    exact lv_isub hx hb hdg (K _ _ _ rfl ls hl)
  · cases hs
theorem sim_imul (C0 : mCx p s m args c cc nL own G cy z sa ro) (hl : mLv (mAd z sa) lo ls)  {x : mR} (hdg : decode cc pc = .ok (.imul, 1))
    (hs : mStep1 ro (.imul, 1, a1, a2, a3, v32, v64, sw) pc lo st h = some x) (K : mKk p l e R s m args below meth c H locs cells slots Q (mAd z sa) h x) : W p l e R s m args below meth c H locs cells slots Q (F0 m pc ls (st.map (mTv (mAd z sa)))) := by
  obtain ⟨hx, hb, hml, hown, hts, hK, hro, hz⟩ := C0
  simp only [mStep1] at hs
  unfold mI2 at hs
  split at hs
  · have := mGo_inv hs
    subst this
    exact lv_imul hx hb hdg (K _ _ _ rfl ls hl)
  · cases hs
theorem sim_iand (C0 : mCx p s m args c cc nL own G cy z sa ro) (hl : mLv (mAd z sa) lo ls)  {x : mR} (hdg : decode cc pc = .ok (.iand, 1))
    (hs : mStep1 ro (.iand, 1, a1, a2, a3, v32, v64, sw) pc lo st h = some x) (K : mKk p l e R s m args below meth c H locs cells slots Q (mAd z sa) h x) : W p l e R s m args below meth c H locs cells slots Q (F0 m pc ls (st.map (mTv (mAd z sa)))) := by
  obtain ⟨hx, hb, hml, hown, hts, hK, hro, hz⟩ := C0
  simp only [mStep1] at hs
  unfold mI2 at hs
  split at hs
  · have := mGo_inv hs
    subst this
    exact lv_iand hx hb hdg (K _ _ _ rfl ls hl)
  · cases hs
theorem sim_ior (C0 : mCx p s m args c cc nL own G cy z sa ro) (hl : mLv (mAd z sa) lo ls)  {x : mR} (hdg : decode cc pc = .ok (.ior, 1))
    (hs : mStep1 ro (.ior, 1, a1, a2, a3, v32, v64, sw) pc lo st h = some x) (K : mKk p l e R s m args below meth c H locs cells slots Q (mAd z sa) h x) : W p l e R s m args below meth c H locs cells slots Q (F0 m pc ls (st.map (mTv (mAd z sa)))) := by
  obtain ⟨hx, hb, hml, hown, hts, hK, hro, hz⟩ := C0
  simp only [mStep1] at hs
  unfold mI2 at hs
  split at hs
  · have := mGo_inv hs
    subst this
    exact lv_ior hx hb hdg (K _ _ _ rfl ls hl)
  · cases hs
theorem sim_ixor (C0 : mCx p s m args c cc nL own G cy z sa ro) (hl : mLv (mAd z sa) lo ls)  {x : mR} (hdg : decode cc pc = .ok (.ixor, 1))
    (hs : mStep1 ro (.ixor, 1, a1, a2, a3, v32, v64, sw) pc lo st h = some x) (K : mKk p l e R s m args below meth c H locs cells slots Q (mAd z sa) h x) : W p l e R s m args below meth c H locs cells slots Q (F0 m pc ls (st.map (mTv (mAd z sa)))) := by
  obtain ⟨hx, hb, hml, hown, hts, hK, hro, hz⟩ := C0
  simp only [mStep1] at hs
  unfold mI2 at hs
  split at hs
  · have := mGo_inv hs
    subst this
    exact lv_ixor hx hb hdg (K _ _ _ rfl ls hl)
  · cases hs
theorem sim_ishl (C0 : mCx p s m args c cc nL own G cy z sa ro) (hl : mLv (mAd z sa) lo ls)  {x : mR} (hdg : decode cc pc = .ok (.ishl, 1))
    (hs : mStep1 ro (.ishl, 1, a1, a2, a3, v32, v64, sw) pc lo st h = some x) (K : mKk p l e R s m args below meth c H locs cells slots Q (mAd z sa) h x) : W p l e R s m args below meth c H locs cells slots Q (F0 m pc ls (st.map (mTv (mAd z sa)))) := by
  obtain ⟨hx, hb, hml, hown, hts, hK, hro, hz⟩ := C0
  simp only [mStep1] at hs
  unfold mI2 at hs
  split at hs
  · have := mGo_inv hs
    subst this
    exact lv_ishl hx hb hdg (K _ _ _ rfl ls hl)
  · cases hs
theorem sim_ishr (C0 : mCx p s m args c cc nL own G cy z sa ro) (hl : mLv (mAd z sa) lo ls)  {x : mR} (hdg : decode cc pc = .ok (.ishr, 1))
    (hs : mStep1 ro (.ishr, 1, a1, a2, a3, v32, v64, sw) pc lo st h = some x) (K : mKk p l e R s m args below meth c H locs cells slots Q (mAd z sa) h x) : W p l e R s m args below meth c H locs cells slots Q (F0 m pc ls (st.map (mTv (mAd z sa)))) := by
  obtain ⟨hx, hb, hml, hown, hts, hK, hro, hz⟩ := C0
  simp only [mStep1] at hs
  unfold mI2 at hs
  split at hs
  · have := mGo_inv hs
    subst this
    exact lv_ishr hx hb hdg (K _ _ _ rfl ls hl)
  · cases hs
theorem sim_iushr (C0 : mCx p s m args c cc nL own G cy z sa ro) (hl : mLv (mAd z sa) lo ls)  {x : mR} (hdg : decode cc pc = .ok (.iushr, 1))
    (hs : mStep1 ro (.iushr, 1, a1, a2, a3, v32, v64, sw) pc lo st h = some x) (K : mKk p l e R s m args below meth c H locs cells slots Q (mAd z sa) h x) : W p l e R s m args below meth c H locs cells slots Q (F0 m pc ls (st.map (mTv (mAd z sa)))) := by
  obtain ⟨hx, hb, hml, hown, hts, hK, hro, hz⟩ := C0
  simp only [mStep1] at hs
  unfold mI2 at hs
  split at hs
  · have := mGo_inv hs
    subst this
    exact lv_iushr hx hb hdg rfl (K _ _ _ rfl ls hl)
  · cases hs
theorem sim_ladd (C0 : mCx p s m args c cc nL own G cy z sa ro) (hl : mLv (mAd z sa) lo ls)  {x : mR} (hdg : decode cc pc = .ok (.ladd, 1))
    (hs : mStep1 ro (.ladd, 1, a1, a2, a3, v32, v64, sw) pc lo st h = some x) (K : mKk p l e R s m args below meth c H locs cells slots Q (mAd z sa) h x) : W p l e R s m args below meth c H locs cells slots Q (F0 m pc ls (st.map (mTv (mAd z sa)))) := by
  obtain ⟨hx, hb, hml, hown, hts, hK, hro, hz⟩ := C0
  simp only [mStep1] at hs
  unfold mL2 at hs
  split at hs
  · have := mGo_inv hs
    subst this
    exact lv_ladd hx hb hdg (K _ _ _ rfl ls hl)
  · cases hs
theorem sim_lsub (C0 : mCx p s m args c cc nL own G cy z sa ro) (hl : mLv (mAd z sa) lo ls)  {x : mR} (hdg : decode cc pc = .ok (.lsub, 1))
    (hs : mStep1 ro (.lsub, 1, a1, a2, a3, v32, v64, sw) pc lo st h = some x) (K : mKk p l e R s m args below meth c H locs cells slots Q (mAd z sa) h x) : W p l e R s m args below meth c H locs cells slots Q (F0 m pc ls (st.map (mTv (mAd z sa)))) := by
  obtain ⟨hx, hb, hml, hown, hts, hK, hro, hz⟩ := C0
  simp only [mStep1] at hs
  unfold mL2 at hs
  split at hs
  · have := mGo_inv hs
    subst this
    exact lv_lsub hx hb hdg (K _ _ _ rfl ls hl)
  · cases hs
theorem sim_lmul (C0 : mCx p s m args c cc nL own G cy z sa ro) (hl : mLv (mAd z sa) lo ls)  {x : mR} (hdg : decode cc pc = .ok (.lmul, 1))
    (hs : mStep1 ro (.lmul, 1, a1, a2, a3, v32, v64, sw) pc lo st h = some x) (K : mKk p l e R s m args below meth c H locs cells slots Q (mAd z sa) h x) : W p l e R s m args below meth c H locs cells slots Q (F0 m pc ls (st.map (mTv (mAd z sa)))) := by
  obtain ⟨hx, hb, hml, hown, hts, hK, hro, hz⟩ := C0
  simp only [mStep1] at hs
  unfold mL2 at hs
  split at hs
  · have := mGo_inv hs
    subst this
    exact lv_lmul hx hb hdg (K _ _ _ rfl ls hl)
  · cases hs
theorem sim_land (C0 : mCx p s m args c cc nL own G cy z sa ro) (hl : mLv (mAd z sa) lo ls)  {x : mR} (hdg : decode cc pc = .ok (.land, 1))
    (hs : mStep1 ro (.land, 1, a1, a2, a3, v32, v64, sw) pc lo st h = some x) (K : mKk p l e R s m args below meth c H locs cells slots Q (mAd z sa) h x) : W p l e R s m args below meth c H locs cells slots Q (F0 m pc ls (st.map (mTv (mAd z sa)))) := by
  obtain ⟨hx, hb, hml, hown, hts, hK, hro, hz⟩ := C0
  simp only [mStep1] at hs
  unfold mL2 at hs
  split at hs
  · have := mGo_inv hs
    subst this
    exact lv_land hx hb hdg (K _ _ _ rfl ls hl)
  · cases hs
theorem sim_lor (C0 : mCx p s m args c cc nL own G cy z sa ro) (hl : mLv (mAd z sa) lo ls)  {x : mR} (hdg : decode cc pc = .ok (.lor, 1))
    (hs : mStep1 ro (.lor, 1, a1, a2, a3, v32, v64, sw) pc lo st h = some x) (K : mKk p l e R s m args below meth c H locs cells slots Q (mAd z sa) h x) : W p l e R s m args below meth c H locs cells slots Q (F0 m pc ls (st.map (mTv (mAd z sa)))) := by
  obtain ⟨hx, hb, hml, hown, hts, hK, hro, hz⟩ := C0
  simp only [mStep1] at hs
  unfold mL2 at hs
  split at hs
  · have := mGo_inv hs
    subst this
    exact lv_lor hx hb hdg (K _ _ _ rfl ls hl)
  · cases hs
theorem sim_lshl (C0 : mCx p s m args c cc nL own G cy z sa ro) (hl : mLv (mAd z sa) lo ls)  {x : mR} (hdg : decode cc pc = .ok (.lshl, 1))
    (hs : mStep1 ro (.lshl, 1, a1, a2, a3, v32, v64, sw) pc lo st h = some x) (K : mKk p l e R s m args below meth c H locs cells slots Q (mAd z sa) h x) : W p l e R s m args below meth c H locs cells slots Q (F0 m pc ls (st.map (mTv (mAd z sa)))) := by
  obtain ⟨hx, hb, hml, hown, hts, hK, hro, hz⟩ := C0
  simp only [mStep1] at hs
  unfold mLI at hs
  split at hs
  · have := mGo_inv hs
    subst this
    exact lv_lshl hx hb hdg rfl (K _ _ _ rfl ls hl)
  · cases hs
theorem sim_lshr (C0 : mCx p s m args c cc nL own G cy z sa ro) (hl : mLv (mAd z sa) lo ls)  {x : mR} (hdg : decode cc pc = .ok (.lshr, 1))
    (hs : mStep1 ro (.lshr, 1, a1, a2, a3, v32, v64, sw) pc lo st h = some x) (K : mKk p l e R s m args below meth c H locs cells slots Q (mAd z sa) h x) : W p l e R s m args below meth c H locs cells slots Q (F0 m pc ls (st.map (mTv (mAd z sa)))) := by
  obtain ⟨hx, hb, hml, hown, hts, hK, hro, hz⟩ := C0
  simp only [mStep1] at hs
  unfold mLI at hs
  split at hs
  · have := mGo_inv hs
    subst this
    exact lv_lshr hx hb hdg rfl (K _ _ _ rfl ls hl)
  · cases hs
theorem sim_lushr (C0 : mCx p s m args c cc nL own G cy z sa ro) (hl : mLv (mAd z sa) lo ls)  {x : mR} (hdg : decode cc pc = .ok (.lushr, 1))
    (hs : mStep1 ro (.lushr, 1, a1, a2, a3, v32, v64, sw) pc lo st h = some x) (K : mKk p l e R s m args below meth c H locs cells slots Q (mAd z sa) h x) : W p l e R s m args below meth c H locs cells slots Q (F0 m pc ls (st.map (mTv (mAd z sa)))) := by
  obtain ⟨hx, hb, hml, hown, hts, hK, hro, hz⟩ := C0
  simp only [mStep1] at hs
  unfold mLI at hs
  split at hs
  · have := mGo_inv hs
    subst this
    exact lv_lushr hx hb hdg rfl (K _ _ _ rfl ls hl)
  · cases hs
theorem sim_idiv (C0 : mCx p s m args c cc nL own G cy z sa ro) (hl : mLv (mAd z sa) lo ls)  {x : mR} (hdg : decode cc pc = .ok (.idiv, 1))
    (hs : mStep1 ro (.idiv, 1, a1, a2, a3, v32, v64, sw) pc lo st h = some x) (K : mKk p l e R s m args below meth c H locs cells slots Q (mAd z sa) h x) : W p l e R s m args below meth c H locs cells slots Q (F0 m pc ls (st.map (mTv (mAd z sa)))) := by
  obtain ⟨hx, hb, hml, hown, hts, hK, hro, hz⟩ := C0
  simp only [mStep1] at hs
  split at hs
  · split at hs
    · cases hs
    · rename_i hne
      have := mGo_inv hs
      subst this
      exact lv_idiv hx hb hdg hne (K _ _ _ rfl ls hl)
  · cases hs
theorem sim_irem (C0 : mCx p s m args c cc nL own G cy z sa ro) (hl : mLv (mAd z sa) lo ls)  {x : mR} (hdg : decode cc pc = .ok (.irem, 1))
    (hs : mStep1 ro (.irem, 1, a1, a2, a3, v32, v64, sw) pc lo st h = some x) (K : mKk p l e R s m args below meth c H locs cells slots Q (mAd z sa) h x) : W p l e R s m args below meth c H locs cells slots Q (F0 m pc ls (st.map (mTv (mAd z sa)))) := by
  obtain ⟨hx, hb, hml, hown, hts, hK, hro, hz⟩ := C0
  simp only [mStep1] at hs
  split at hs
  · split at hs
    · cases hs
    · rename_i hne
      have := mGo_inv hs
      subst this
      exact lv_irem hx hb hdg hne (K _ _ _ rfl ls hl)
  · cases hs
theorem sim_ineg (C0 : mCx p s m args c cc nL own G cy z sa ro) (hl : mLv (mAd z sa) lo ls)  {x : mR} (hdg : decode cc pc = .ok (.ineg, 1))
    (hs : mStep1 ro (.ineg, 1, a1, a2, a3, v32, v64, sw) pc lo st h = some x) (K : mKk p l e R s m args below meth c H locs cells slots Q (mAd z sa) h x) : W p l e R s m args below meth c H locs cells slots Q (F0 m pc ls (st.map (mTv (mAd z sa)))) := by
  obtain ⟨hx, hb, hml, hown, hts, hK, hro, hz⟩ := C0
  simp only [mStep1] at hs
  split at hs
  · have := mGo_inv hs
    subst this
    exact lv_ineg hx hb hdg (K _ _ _ rfl ls hl)
  · cases hs
theorem sim_i2l (C0 : mCx p s m args c cc nL own G cy z sa ro) (hl : mLv (mAd z sa) lo ls)  {x : mR} (hdg : decode cc pc = .ok (.i2l, 1))
    (hs : mStep1 ro (.i2l, 1, a1, a2, a3, v32, v64, sw) pc lo st h = some x) (K : mKk p l e R s m args below meth c H locs cells slots Q (mAd z sa) h x) : W p l e R s m args below meth c H locs cells slots Q (F0 m pc ls (st.map (mTv (mAd z sa)))) := by
  obtain ⟨hx, hb, hml, hown, hts, hK, hro, hz⟩ := C0
  simp only [mStep1] at hs
  split at hs
  · have := mGo_inv hs
    subst this
    exact lv_i2l hx hb hdg rfl (K _ _ _ rfl ls hl)
  · cases hs
theorem sim_l2i (C0 : mCx p s m args c cc nL own G cy z sa ro) (hl : mLv (mAd z sa) lo ls)  {x : mR} (hdg : decode cc pc = .ok (.l2i, 1))
    (hs : mStep1 ro (.l2i, 1, a1, a2, a3, v32, v64, sw) pc lo st h = some x) (K : mKk p l e R s m args below meth c H locs cells slots Q (mAd z sa) h x) : W p l e R s m args below meth c H locs cells slots Q (F0 m pc ls (st.map (mTv (mAd z sa)))) := by
  obtain ⟨hx, hb, hml, hown, hts, hK, hro, hz⟩ := C0
  simp only [mStep1] at hs
  split at hs
  · have := mGo_inv hs
    subst this
    exact lv_l2i hx hb hdg rfl (K _ _ _ rfl ls hl)
  · cases hs
theorem sim_i2b (C0 : mCx p s m args c cc nL own G cy z sa ro) (hl : mLv (mAd z sa) lo ls)  {x : mR} (hdg : decode cc pc = .ok (.i2b, 1))
    (hs : mStep1 ro (.i2b, 1, a1, a2, a3, v32, v64, sw) pc lo st h = some x) (K : mKk p l e R s m args below meth c H locs cells slots Q (mAd z sa) h x) : W p l e R s m args below meth c H locs cells slots Q (F0 m pc ls (st.map (mTv (mAd z sa)))) := by
  obtain ⟨hx, hb, hml, hown, hts, hK, hro, hz⟩ := C0
  simp only [mStep1] at hs
  split at hs
  · have := mGo_inv hs
    subst this
    exact lv_i2b hx hb hdg rfl (K _ _ _ rfl ls hl)
  · cases hs
theorem sim_lcmp (C0 : mCx p s m args c cc nL own G cy z sa ro) (hl : mLv (mAd z sa) lo ls)  {x : mR} (hdg : decode cc pc = .ok (.lcmp, 1))
    (hs : mStep1 ro (.lcmp, 1, a1, a2, a3, v32, v64, sw) pc lo st h = some x) (K : mKk p l e R s m args below meth c H locs cells slots Q (mAd z sa) h x) : W p l e R s m args below meth c H locs cells slots Q (F0 m pc ls (st.map (mTv (mAd z sa)))) := by
  obtain ⟨hx, hb, hml, hown, hts, hK, hro, hz⟩ := C0
  simp only [mStep1] at hs
  split at hs
  · have := mGo_inv hs
    subst this
    rw [mLc_eq] at K
    exact W.lcmp hx hb hdg (K _ _ _ rfl ls hl)
  · cases hs
theorem sim_goto (C0 : mCx p s m args c cc nL own G cy z sa ro) (hl : mLv (mAd z sa) lo ls) {off : Int} {x : mR} (hdg : decode cc pc = .ok (.goto off, 3)) (ha : (pc : Int) + off = (a1 : Int))
    (hs : mStep1 ro (.goto off, 3, a1, a2, a3, v32, v64, sw) pc lo st h = some x) (K : mKk p l e R s m args below meth c H locs cells slots Q (mAd z sa) h x) : W p l e R s m args below meth c H locs cells slots Q (F0 m pc ls (st.map (mTv (mAd z sa)))) := by
  obtain ⟨hx, hb, hml, hown, hts, hK, hro, hz⟩ := C0
  simp only [mStep1] at hs
  have := mGo_inv hs
  subst this
  exact lv_goto hx hb hdg ha (K _ _ _ rfl ls hl)
theorem sim_icmp_eq (C0 : mCx p s m args c cc nL own G cy z sa ro) (hl : mLv (mAd z sa) lo ls) {off : Int} {x : mR} (hdg : decode cc pc = .ok (.if_icmp .eq off, 3)) (ha : (pc : Int) + off = (a1 : Int))
    (hs : mStep1 ro (.if_icmp .eq off, 3, a1, a2, a3, v32, v64, sw) pc lo st h = some x) (K : mKk p l e R s m args below meth c H locs cells slots Q (mAd z sa) h x) : W p l e R s m args below meth c H locs cells slots Q (F0 m pc ls (st.map (mTv (mAd z sa)))) := by
  obtain ⟨hx, hb, hml, hown, hts, hK, hro, hz⟩ := C0
  simp only [mStep1] at hs
  split at hs
  · have := mGo_inv hs
    subst this
    refine lv_icmp_eq hx hb hdg ha (fun hc => ?_) (fun hc => ?_)
    · exact K _ _ _ (by simp only [mCd]; rw [if_pos hc]) ls hl
    · exact K _ _ _ (by simp only [mCd]; rw [if_neg hc]) ls hl
  · cases hs
theorem sim_if_eq (C0 : mCx p s m args c cc nL own G cy z sa ro) (hl : mLv (mAd z sa) lo ls) {off : Int} {x : mR} (hdg : decode cc pc = .ok (.ifCond .eq off, 3)) (ha : (pc : Int) + off = (a1 : Int))
    (hs : mStep1 ro (.ifCond .eq off, 3, a1, a2, a3, v32, v64, sw) pc lo st h = some x) (K : mKk p l e R s m args below meth c H locs cells slots Q (mAd z sa) h x) : W p l e R s m args below meth c H locs cells slots Q (F0 m pc ls (st.map (mTv (mAd z sa)))) := by
  obtain ⟨hx, hb, hml, hown, hts, hK, hro, hz⟩ := C0
  simp only [mStep1] at hs
  split at hs
  · have := mGo_inv hs
    subst this
    refine lv_if_eq hx hb hdg ha (fun hc => ?_) (fun hc => ?_)
    · exact K _ _ _ (by simp only [mCd]; rw [if_pos hc]) ls hl
    · exact K _ _ _ (by simp only [mCd]; rw [if_neg hc]) ls hl
  · cases hs
theorem sim_icmp_ne (C0 : mCx p s m args c cc nL own G cy z sa ro) (hl : mLv (mAd z sa) lo ls) {off : Int} {x : mR} (hdg : decode cc pc = .ok (.if_icmp .ne off, 3)) (ha : (pc : Int) + off = (a1 : Int))
    (hs : mStep1 ro (.if_icmp .ne off, 3, a1, a2, a3, v32, v64, sw) pc lo st h = some x) (K : mKk p l e R s m args below meth c H locs cells slots Q (mAd z sa) h x) : W p l e R s m args below meth c H locs cells slots Q (F0 m pc ls (st.map (mTv (mAd z sa)))) := by
  obtain ⟨hx, hb, hml, hown, hts, hK, hro, hz⟩ := C0
  simp only [mStep1] at hs
  split at hs
  · have := mGo_inv hs
    subst this
    refine lv_icmp_ne hx hb hdg ha (fun hc => ?_) (fun hc => ?_)
    · exact K _ _ _ (by simp only [mCd]; rw [if_pos hc]) ls hl
    · exact K _ _ _ (by simp only [mCd]; rw [if_neg (not_not_intro hc)]) ls hl
  · cases hs
theorem sim_if_ne (C0 : mCx p s m args c cc nL own G cy z sa ro) (hl : mLv (mAd z sa) lo ls) {off : Int} {x : mR} (hdg : decode cc pc = .ok (.ifCond .ne off, 3)) (ha : (pc : Int) + off = (a1 : Int))
    (hs : mStep1 ro (.ifCond .ne off, 3, a1, a2, a3, v32, v64, sw) pc lo st h = some x) (K : mKk p l e R s m args below meth c H locs cells slots Q (mAd z sa) h x) : W p l e R s m args below meth c H locs cells slots Q (F0 m pc ls (st.map (mTv (mAd z sa)))) := by
  obtain ⟨hx, hb, hml, hown, hts, hK, hro, hz⟩ := C0
  simp only [mStep1] at hs
  split at hs
  · have := mGo_inv hs
    subst this
    refine lv_if_ne hx hb hdg ha (fun hc => ?_) (fun hc => ?_)
    · exact K _ _ _ (by simp only [mCd]; rw [if_pos hc]) ls hl
    · exact K _ _ _ (by simp only [mCd]; rw [if_neg (not_not_intro hc)]) ls hl
  · cases hs
theorem sim_icmp_lt (C0 : mCx p s m args c cc nL own G cy z sa ro) (hl : mLv (mAd z sa) lo ls) {off : Int} {x : mR} (hdg : decode cc pc = .ok (.if_icmp .lt off, 3)) (ha : (pc : Int) + off = (a1 : Int))
    (hs : mStep1 ro (.if_icmp .lt off, 3, a1, a2, a3, v32, v64, sw) pc lo st h = some x) (K : mKk p l e R s m args below meth c H locs cells slots Q (mAd z sa) h x) : W p l e R s m args below meth c H locs cells slots Q (F0 m pc ls (st.map (mTv (mAd z sa)))) := by
  obtain ⟨hx, hb, hml, hown, hts, hK, hro, hz⟩ := C0
  simp only [mStep1] at hs
  split at hs
  · have := mGo_inv hs
    subst this
    refine lv_icmp_lt hx hb hdg ha (fun hc => ?_) (fun hc => ?_)
    · exact K _ _ _ (by simp only [mCd]; rw [if_pos hc]) ls hl
    · exact K _ _ _ (by simp only [mCd]; rw [if_neg hc]) ls hl
  · cases hs
theorem sim_if_lt (C0 : mCx p s m args c cc nL own G cy z sa ro) (hl : mLv (mAd z sa) lo ls) {off : Int} {x : mR} (hdg : decode cc pc = .ok (.ifCond .lt off, 3)) (ha : (pc : Int) + off = (a1 : Int))
    (hs : mStep1 ro (.ifCond .lt off, 3, a1, a2, a3, v32, v64, sw) pc lo st h = some x) (K : mKk p l e R s m args below meth c H locs cells slots Q (mAd z sa) h x) : W p l e R s m args below meth c H locs cells slots Q (F0 m pc ls (st.map (mTv (mAd z sa)))) := by
  obtain ⟨hx, hb, hml, hown, hts, hK, hro, hz⟩ := C0
  simp only [mStep1] at hs
  split at hs
  · have := mGo_inv hs
    subst this
    refine lv_if_lt hx hb hdg ha (fun hc => ?_) (fun hc => ?_)
    · exact K _ _ _ (by simp only [mCd]; rw [if_pos hc]) ls hl
    · exact K _ _ _ (by simp only [mCd]; rw [if_neg hc]) ls hl
  · cases hs
theorem sim_icmp_ge (C0 : mCx p s m args c cc nL own G cy z sa ro) (hl : mLv (mAd z sa) lo ls) {off : Int} {x : mR} (hdg : decode cc pc = .ok (.if_icmp .ge off, 3)) (ha : (pc : Int) + off = (a1 : Int))
    (hs : mStep1 ro (.if_icmp .ge off, 3, a1, a2, a3, v32, v64, sw) pc lo st h = some x) (K : mKk p l e R s m args below meth c H locs cells slots Q (mAd z sa) h x) : W p l e R s m args below meth c H locs cells slots Q (F0 m pc ls (st.map (mTv (mAd z sa)))) := by
  obtain ⟨hx, hb, hml, hown, hts, hK, hro, hz⟩ := C0
  simp only [mStep1] at hs
  split at hs
  · have := mGo_inv hs
    subst this
    refine lv_icmp_ge hx hb hdg ha (fun hc => ?_) (fun hc => ?_)
    · exact K _ _ _ (by simp only [mCd]; rw [if_pos hc]) ls hl
    · exact K _ _ _ (by simp only [mCd]; rw [if_neg hc]) ls hl
  · cases hs
theorem sim_if_ge (C0 : mCx p s m args c cc nL own G cy z sa ro) (hl : mLv (mAd z sa) lo ls) {off : Int} {x : mR} (hdg : decode cc pc = .ok (.ifCond .ge off, 3)) (ha : (pc : Int) + off = (a1 : Int))
    (hs : mStep1 ro (.ifCond .ge off, 3, a1, a2, a3, v32, v64, sw) pc lo st h = some x) (K : mKk p l e R s m args below meth c H locs cells slots Q (mAd z sa) h x) : W p l e R s m args below meth c H locs cells slots Q (F0 m pc ls (st.map (mTv (mAd z sa)))) := by
  obtain ⟨hx, hb, hml, hown, hts, hK, hro, hz⟩ := C0
  simp only [mStep1] at hs
  split at hs
  · have := mGo_inv hs
    subst this
    refine lv_if_ge hx hb hdg ha (fun hc => ?_) (fun hc => ?_)
    · exact K _ _ _ (by simp only [mCd]; rw [if_pos hc]) ls hl
    · exact K _ _ _ (by simp only [mCd]; rw [if_neg hc]) ls hl
  · cases hs
theorem sim_icmp_gt (C0 : mCx p s m args c cc nL own G cy z sa ro) (hl : mLv (mAd z sa) lo ls) {off : Int} {x : mR} (hdg : decode cc pc = .ok (.if_icmp .gt off, 3)) (ha : (pc : Int) + off = (a1 : Int))
    (hs : mStep1 ro (.if_icmp .gt off, 3, a1, a2, a3, v32, v64, sw) pc lo st h = some x) (K : mKk p l e R s m args below meth c H locs cells slots Q (mAd z sa) h x) : W p l e R s m args below meth c H locs cells slots Q (F0 m pc ls (st.map (mTv (mAd z sa)))) := by
  obtain ⟨hx, hb, hml, hown, hts, hK, hro, hz⟩ := C0
  simp only [mStep1] at hs
  split at hs
  · have := mGo_inv hs
    subst this
    refine lv_icmp_gt hx hb hdg ha (fun hc => ?_) (fun hc => ?_)
    · exact K _ _ _ (by simp only [mCd]; rw [if_pos hc]) ls hl
    · exact K _ _ _ (by simp only [mCd]; rw [if_neg hc]) ls hl
  · cases hs
theorem sim_if_gt (C0 : mCx p s m args c cc nL own G cy z sa ro) (hl : mLv (mAd z sa) lo ls) {off : Int} {x : mR} (hdg : decode cc pc = .ok (.ifCond .gt off, 3)) (ha : (pc : Int) + off = (a1 : Int))
    (hs : mStep1 ro (.ifCond .gt off, 3, a1, a2, a3, v32, v64, sw) pc lo st h = some x) (K : mKk p l e R s m args below meth c H locs cells slots Q (mAd z sa) h x) : W p l e R s m args below meth c H locs cells slots Q (F0 m pc ls (st.map (mTv (mAd z sa)))) := by
  obtain ⟨hx, hb, hml, hown, hts, hK, hro, hz⟩ := C0
  simp only [mStep1] at hs
  split at hs
  · have := mGo_inv hs
    subst this
    refine lv_if_gt hx hb hdg ha (fun hc => ?_) (fun hc => ?_)
    · exact K _ _ _ (by simp only [mCd]; rw [if_pos hc]) ls hl
    · exact K _ _ _ (by simp only [mCd]; rw [if_neg hc]) ls hl
  · cases hs
theorem sim_icmp_le (C0 : mCx p s m args c cc nL own G cy z sa ro) (hl : mLv (mAd z sa) lo ls) {off : Int} {x : mR} (hdg : decode cc pc = .ok (.if_icmp .le off, 3)) (ha : (pc : Int) + off = (a1 : Int))
    (hs : mStep1 ro (.if_icmp .le off, 3, a1, a2, a3, v32, v64, sw) pc lo st h = some x) (K : mKk p l e R s m args below meth c H locs cells slots Q (mAd z sa) h x) : W p l e R s m args below meth c H locs cells slots Q (F0 m pc ls (st.map (mTv (mAd z sa)))) := by
  obtain ⟨hx, hb, hml, hown, hts, hK, hro, hz⟩ := C0
  simp only [mStep1] at hs
  split at hs
  · have := mGo_inv hs
    subst this
    refine lv_icmp_le hx hb hdg ha (fun hc => ?_) (fun hc => ?_)
    · exact K _ _ _ (by simp only [mCd]; rw [if_pos hc]) ls hl
    · exact K _ _ _ (by simp only [mCd]; rw [if_neg hc]) ls hl
  · cases hs
theorem sim_if_le (C0 : mCx p s m args c cc nL own G cy z sa ro) (hl : mLv (mAd z sa) lo ls) {off : Int} {x : mR} (hdg : decode cc pc = .ok (.ifCond .le off, 3)) (ha : (pc : Int) + off = (a1 : Int))
    (hs : mStep1 ro (.ifCond .le off, 3, a1, a2, a3, v32, v64, sw) pc lo st h = some x) (K : mKk p l e R s m args below meth c H locs cells slots Q (mAd z sa) h x) : W p l e R s m args below meth c H locs cells slots Q (F0 m pc ls (st.map (mTv (mAd z sa)))) := by
  obtain ⟨hx, hb, hml, hown, hts, hK, hro, hz⟩ := C0
  simp only [mStep1] at hs
  split at hs
  · have := mGo_inv hs
    subst this
    refine lv_if_le hx hb hdg ha (fun hc => ?_) (fun hc => ?_)
    · exact K _ _ _ (by simp only [mCd]; rw [if_pos hc]) ls hl
    · exact K _ _ _ (by simp only [mCd]; rw [if_neg hc]) ls hl
  · cases hs
theorem sim_lookupswitch (C0 : mCx p s m args c cc nL own G cy z sa ro) (hl : mLv (mAd z sa) lo ls) {d : Int} {ps : Array (Int × Int)} {x : mR} (hdg : decode cc pc = .ok (.lookupswitch d ps, len)) (ha : (pc : Int) + d = (a1 : Int)) (hk : mLkOk (pc : Int) ps.toList sw = true) (hinc : (ps.toList.zip (ps.toList.drop 1)).all (fun (a, next) => a.1 < next.1) = true)
    (hs : mStep1 ro (.lookupswitch d ps, len, a1, a2, a3, v32, v64, sw) pc lo st h = some x) (K : mKk p l e R s m args below meth c H locs cells slots Q (mAd z sa) h x) : W p l e R s m args below meth c H locs cells slots Q (F0 m pc ls (st.map (mTv (mAd z sa)))) := by
  obtain ⟨hx, hb, hml, hown, hts, hK, hro, hz⟩ := C0
  simp only [mStep1] at hs
  split at hs
  · have := mGo_inv hs
    subst this
    exact lv_lookup hx hb hdg hinc rfl (mSw_lk ha _ _ _ hk) (K _ _ _ rfl ls hl)
  · cases hs
theorem sim_tableswitch (C0 : mCx p s m args c cc nL own G cy z sa ro) (hl : mLv (mAd z sa) lo ls) {d tl th : Int} {os : Array Int} {x : mR} (hdg : decode cc pc = .ok (.tableswitch d tl th os, len)) (ha : (pc : Int) + d = (a1 : Int)) (hth : th = tl + os.size - 1) (hr : -2147483648 ≤ tl ∧ th ≤ 2147483647) (hk : mSwOk (pc : Int) tl 0 os.toList sw = true)
    (hs : mStep1 ro (.tableswitch d tl th os, len, a1, a2, a3, v32, v64, sw) pc lo st h = some x) (K : mKk p l e R s m args below meth c H locs cells slots Q (mAd z sa) h x) : W p l e R s m args below meth c H locs cells slots Q (F0 m pc ls (st.map (mTv (mAd z sa)))) := by
  obtain ⟨hx, hb, hml, hown, hts, hK, hro, hz⟩ := C0
  simp only [mStep1] at hs
  split at hs
  · rename_i y r
    have := mGo_inv hs
    subst this
    obtain ⟨t1, t2⟩ := mSw_tb (a1 := a1) y hr.1 os.toList sw 0 hk (by rw [Array.length_toList]; omega)
    by_cases hin : tl ≤ y.toInt ∧ y.toInt ≤ th
    · have hlt : (y.toInt - tl).toNat < os.size := by omega
      have hget : os[(y.toInt - tl).toNat]? = some os[(y.toInt - tl).toNat] := Array.getElem?_eq_getElem hlt
      exact lv_tableIn hx hb hdg (by omega) (by omega) hget (t1 (y.toInt - tl).toNat _ (by rw [Array.getElem?_toList]; exact hget) (by omega)) (K _ _ _ rfl ls hl)
    · have e := t2 (fun j hj => by rw [Array.length_toList] at hj; omega)
      exact lv_tableOut hx hb hdg (by omega) (by rw [e]; exact ha) (K _ _ _ rfl ls hl)
  · cases hs
end S1
