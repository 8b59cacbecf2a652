/-! RULES: a partial function T of Lean is done by the small machine from a place on (Ok): read part 17 on with these -/
def mWp (C : mCal) (ro : List (List Int32)) (rk : Nat) (tab : List (Option mI)) (pc : Nat) (lo : mO) (st : List Value) (h : mH) (v : Option Value) (h' : mH) : Prop := ∃ n, mRunN C ro rk tab n pc lo st h v h' 0 0
/-- whatever T answers, the small machine comes to (res) -/
def Ok {α : Type} (C : mCal) (ro : List (List Int32)) (rk : Nat) (tab : List (Option mI)) (res : α → Option Value × mH) (T : Option α) (pc : Nat) (lo : mO) (st : List Value) (h : mH) : Prop := ∀ x, T = some x → mWp C ro rk tab pc lo st h (res x).1 (res x).2
/-- instructions in a row that go on -/
def mBlk (ro : List (List Int32)) (rk : Nat) (tab : List (Option mI)) : Nat → Nat → mO → List Value → mH → Option (Nat × mO × List Value × mH)
  | 0, pc, lo, st, h => some (pc, lo, st, h)
  | k + 1, pc, lo, st, h => match tab[pc]? with
    | some (some i) => match mStep ro rk i pc lo st h with
      | some (.inl (pc2, lo2, st2, h2, 0, 0)) => mBlk ro rk tab k pc2 lo2 st2 h2
      | _ => none
    | _ => none
def ld (l : List Int32) (i : Int32) : Option Int32 := if i < 0 then none else l[i.toNatClampNeg]?
def ldl (l : List Int64) (i : Int32) : Option Int64 := if i < 0 then none else l[i.toNatClampNeg]?
def sto (l : List Int32) (i x : Int32) : Option (List Int32) := if i < 0 ∨ l.length ≤ i.toNatClampNeg then none else some (l.set i.toNatClampNeg x)
def stl (l : List Int64) (i : Int32) (x : Int64) : Option (List Int64) := if i < 0 ∨ l.length ≤ i.toNatClampNeg then none else some (l.set i.toNatClampNeg x)
def gz (x : Int32) : Option Int32 := if x = 0 ∨ x = 1 then some x else none
def rwi (i : Int32) (n : Nat) : Option Nat := if i < 0 ∨ n ≤ i.toNatClampNeg then none else some i.toNatClampNeg
def dv (x y : Int32) : Option Int32 := if y = 0 then none else some (x / y)
def rm (x y : Int32) : Option Int32 := if y = 0 then none else some (x - x / y * y)
def cpy (f g : List Int32) (sp dp n : Int32) : Option (List Int32) := if ((sp < 0 ∨ dp < 0) ∨ n < 0) ∨ (f.length < sp.toNatClampNeg + n.toNatClampNeg ∨ g.length < dp.toNatClampNeg + n.toNatClampNeg) then none else some (g.take dp.toNatClampNeg ++ ((f.drop sp.toNatClampNeg).take n.toNatClampNeg ++ g.drop (dp.toNatClampNeg + n.toNatClampNeg)))
section RU
variable {α β : Type} {C : mCal} {ro : List (List Int32)} {rk : Nat} {tab : List (Option mI)} {res : α → Option Value × mH} {T : Option α} {pc pc2 : Nat} {lo lo2 lo0 : mO} {st st2 : List Value} {h h2 : mH}
theorem mWp_step {i : mI} {v : Option Value} {h' : mH} (hi : tab[pc]? = some (some i)) (hs : mStep ro rk i pc lo st h = some (.inl (pc2, lo2, st2, h2, 0, 0))) (k : mWp C ro rk tab pc2 lo2 st2 h2 v h') : mWp C ro rk tab pc lo st h v h' := by
  obtain ⟨n, q⟩ := k
  exact ⟨n + 1, i, lo, hi, mLe_refl lo, by rw [hs]; exact ⟨0, 0, rfl, rfl, q⟩⟩
theorem mWp_blk {v : Option Value} {h' : mH} : ∀ (k pc : Nat) (lo : mO) (st : List Value) (h : mH), mBlk ro rk tab k pc lo st h = some (pc2, lo2, st2, h2) → mWp C ro rk tab pc2 lo2 st2 h2 v h' → mWp C ro rk tab pc lo st h v h' := by
  intro k
  induction k with
  | zero =>
    intro pc lo st h e w
    simp only [mBlk, Option.some.injEq, Prod.mk.injEq] at e
    obtain ⟨rfl, rfl, rfl, rfl⟩ := e
    exact w
  | succ k ih =>
    intro pc lo st h e w
    unfold mBlk at e
    split at e
    · rename_i i hi
      split at e
      · rename_i hs
        exact mWp_step hi hs (ih _ _ _ _ e w)
      · cases e
    · cases e
theorem Ok_blk (k : Nat) (e : mBlk ro rk tab k pc lo st h = some (pc2, lo2, st2, h2)) (K : Ok C ro rk tab res T pc2 lo2 st2 h2) : Ok C ro rk tab res T pc lo st h := fun x hx => mWp_blk k _ _ _ _ e (K x hx)
theorem Ok_heap (k : Nat) {h1 : mH} (e : mBlk ro rk tab k pc lo st h = some (pc2, lo2, st2, h1)) (he : h1 = h2) (K : Ok C ro rk tab res T pc2 lo2 st2 h2) : Ok C ro rk tab res T pc lo st h := Ok_blk k (by rw [e, he]) K
theorem mWp_drop {v : Option Value} {h' : mH} (hle : mLe lo0 lo) (w : mWp C ro rk tab pc lo0 st h v h') : mWp C ro rk tab pc lo st h v h' := by
  obtain ⟨n, q⟩ := w
  cases n with
  | zero => exact q.elim
  | succ n =>
    obtain ⟨i, l1, hi, hl, q⟩ := q
    exact ⟨n + 1, i, l1, hi, mLe_trans _ _ _ hl hle, q⟩
theorem Ok_drop (hle : mLe lo0 lo) (K : Ok C ro rk tab res T pc lo0 st h) : Ok C ro rk tab res T pc lo st h := fun x hx => mWp_drop hle (K x hx)
theorem Ok_none : Ok C ro rk tab res none pc lo st h := fun _ e => by cases e
theorem Ok_if {c : Prop} [Decidable c] {A B : Option α} {a b : Nat} (ht : c → Ok C ro rk tab res A a lo st h) (hf : ¬ c → Ok C ro rk tab res B b lo st h) : Ok C ro rk tab res (if c then A else B) (if c then a else b) lo st h := by
  by_cases hc : c
  · rw [if_pos hc, if_pos hc]; exact ht hc
  · rw [if_neg hc, if_neg hc]; exact hf hc
theorem Ok_sw {A B : Option α} {x v : Int32} {t d : Nat} {r : List (Int32 × Nat)} (ht : x = v → Ok C ro rk tab res A t lo st h) (hf : ¬ x = v → Ok C ro rk tab res B (mSw x r d) lo st h) : Ok C ro rk tab res (if x = v then A else B) (mSw x ((v, t) :: r) d) lo st h := by
  unfold mSw
  exact Ok_if ht hf
theorem Ok_eq {S : Option α} (e : T = S) (K : Ok C ro rk tab res S pc lo st h) : Ok C ro rk tab res T pc lo st h := e ▸ K
theorem Ok_bind {γ : Type} {S : Option γ} {K : γ → Option α} (k : ∀ y, S = some y → Ok C ro rk tab res (K y) pc lo st h) : Ok C ro rk tab res (S.bind K) pc lo st h := fun x hx => by
  cases hS : S with
  | none => rw [hS] at hx; cases hx
  | some y => rw [hS] at hx; exact k y hS x hx
theorem Ok_stp {i : mI} (hi : tab[pc]? = some (some i)) (hs : mStep ro rk i pc lo st h = some (.inl (pc2, lo2, st2, h2, 0, 0))) (K : Ok C ro rk tab res T pc2 lo2 st2 h2) : Ok C ro rk tab res T pc lo st h := fun x hx => mWp_step hi hs (K x hx)
theorem mS2 {i : mI} (hk : mKind i.1 = false) : mStep ro rk i pc lo st h = mStep2 ro rk i pc lo st h := by unfold mStep; rw [hk]; rfl
theorem mS1 {i : mI} (hk : mKind i.1 = true) : mStep ro rk i pc lo st h = mStep1 ro i pc lo st h := by unfold mStep; rw [hk]; rfl
theorem Ok_ld {l : List Int32} {i : Int32} {k : Nat} {K : Int32 → Option α} (hi : tab[pc]? = some (kJ .iaload 1)) (hr : mRow ro h k = some l) (kk : ∀ y, ld l i = some y → Ok C ro rk tab res (K y) (pc + 1) lo (.int y :: st) h) : Ok C ro rk tab res ((ld l i).bind K) pc lo (.int i :: .ref k :: st) h :=
  Ok_bind fun y hy => Ok_stp hi (by
    have hy2 := hy
    unfold ld at hy2
    split at hy2
    · cases hy2
    · rename_i h0
      rw [mS2 rfl]
      simp only [mStep2, hr, if_neg h0, hy2]
      rfl) (kk y hy)
theorem Ok_ldb {l : List Int32} {i : Int32} {k t : Nat} {K : Int32 → Option α} (hi : tab[pc]? = some (kJ .baload 1)) (hr : h[k]? = some (.inr (t, .inl l))) (ht : (Nat.beq t 1 || Nat.beq t 2) = true) (kk : ∀ y, ld l i = some y → Ok C ro rk tab res (K y) (pc + 1) lo (.int y :: st) h) : Ok C ro rk tab res ((ld l i).bind K) pc lo (.int i :: .ref k :: st) h :=
  Ok_bind fun y hy => Ok_stp hi (by
    have hy2 := hy
    unfold ld at hy2
    split at hy2
    · cases hy2
    · rename_i h0
      rw [mS2 rfl]
      simp only [mStep2, hr, ht, cond_true, if_neg h0, hy2]
      rfl) (kk y hy)
theorem Ok_ldl {l : List Int64} {i : Int32} {k : Nat} {K : Int64 → Option α} (hi : tab[pc]? = some (kJ .laload 1)) (hr : h[k]? = some (.inr (3, .inr (.inl l)))) (kk : ∀ y, ldl l i = some y → Ok C ro rk tab res (K y) (pc + 1) lo (.long y :: st) h) : Ok C ro rk tab res ((ldl l i).bind K) pc lo (.int i :: .ref k :: st) h :=
  Ok_bind fun y hy => Ok_stp hi (by
    have hy2 := hy
    unfold ldl at hy2
    split at hy2
    · cases hy2
    · rename_i h0
      rw [mS2 rfl]
      simp only [mStep2, hr, if_neg h0, hy2]
      rfl) (kk y hy)
theorem Ok_rw {l : List (Option Nat)} {i : Int32} {k n b : Nat} {K : Nat → Option α} (hi : tab[pc]? = some (kJ .aaload 1)) (hr : h[k]? = some (.inr (4, .inr (.inr l)))) (hl : ∀ j, j < n → l[j]? = some (some (b + j))) (kk : ∀ j, j < n → Ok C ro rk tab res (K j) (pc + 1) lo (.ref (b + j) :: st) h) : Ok C ro rk tab res ((rwi i n).bind K) pc lo (.int i :: .ref k :: st) h :=
  Ok_bind fun j hj => by
    unfold rwi at hj
    split at hj
    · cases hj
    · rename_i h0
      cases hj
      have hn : i.toNatClampNeg < n := Nat.not_le.mp fun q => h0 (Or.inr q)
      refine Ok_stp hi (pc2 := pc + 1) (lo2 := lo) (st2 := .ref (b + i.toNatClampNeg) :: st) (h2 := h) ?_ (kk _ hn)
      rw [mS2 rfl]
      simp only [mStep2, hr, if_neg (fun q => h0 (Or.inl q)), hl _ hn]
      rfl
theorem Ok_st {l : List Int32} {i x : Int32} {k : Nat} {hn : List Int32 → mH} {K : List Int32 → Option α} (hi : tab[pc]? = some (kJ .iastore 1)) (hr : h[k]? = some (.inr (0, .inl l))) (hset : ∀ l', h.set k (.inr (0, .inl l')) = hn l') (kk : ∀ y, sto l i x = some y → Ok C ro rk tab res (K y) (pc + 1) lo st (hn y)) : Ok C ro rk tab res ((sto l i x).bind K) pc lo (.int x :: .int i :: .ref k :: st) h :=
  Ok_bind fun y hy => by
    have hy2 := hy
    unfold sto at hy2
    split at hy2
    · cases hy2
    · rename_i h0
      cases hy2
      refine Ok_stp hi (pc2 := pc + 1) (lo2 := lo) (st2 := st) (h2 := hn _) ?_ (kk _ hy)
      rw [mS2 rfl]
      simp only [mStep2, hr, if_neg h0, hset]
      rfl
theorem Ok_stb {l : List Int32} {i x : Int32} {k : Nat} {hn : List Int32 → mH} {K : List Int32 → Option α} (hi : tab[pc]? = some (kJ .bastore 1)) (hr : h[k]? = some (.inr (1, .inl l))) (hset : ∀ l', h.set k (.inr (1, .inl l')) = hn l') (kk : ∀ y, sto l i x.toInt8.toInt32 = some y → Ok C ro rk tab res (K y) (pc + 1) lo st (hn y)) : Ok C ro rk tab res ((sto l i x.toInt8.toInt32).bind K) pc lo (.int x :: .int i :: .ref k :: st) h :=
  Ok_bind fun y hy => by
    have hy2 := hy
    unfold sto at hy2
    split at hy2
    · cases hy2
    · rename_i h0
      cases hy2
      refine Ok_stp hi (pc2 := pc + 1) (lo2 := lo) (st2 := st) (h2 := hn _) ?_ (kk _ hy)
      rw [mS2 rfl]
      simp only [mStep2, hr, if_neg h0, hset]
      rfl
theorem Ok_stz {l : List Int32} {i x : Int32} {k : Nat} {hn : List Int32 → mH} {K : List Int32 → Option α} (hi : tab[pc]? = some (kJ .bastore 1)) (hr : h[k]? = some (.inr (2, .inl l))) (hset : ∀ l', h.set k (.inr (2, .inl l')) = hn l') (kk : ∀ y, ((gz x).bind fun x1 => sto l i x1) = some y → Ok C ro rk tab res (K y) (pc + 1) lo st (hn y)) : Ok C ro rk tab res (((gz x).bind fun x1 => sto l i x1).bind K) pc lo (.int x :: .int i :: .ref k :: st) h :=
  Ok_bind fun y hy => by
    have hy2 := hy
    unfold gz at hy2
    split at hy2
    · rename_i hx
      simp only [Option.bind_some] at hy2
      unfold sto at hy2
      split at hy2
      · cases hy2
      · rename_i h0
        cases hy2
        refine Ok_stp hi (pc2 := pc + 1) (lo2 := lo) (st2 := st) (h2 := hn _) ?_ (kk _ hy)
        rw [mS2 rfl]
        simp only [mStep2, hr, if_neg (show ¬ ((i < 0 ∨ l.length ≤ i.toNatClampNeg) ∨ ¬ (x = 0 ∨ x = 1)) from fun q => q.elim h0 (fun q => q hx)), hset]
        rfl
    · cases hy2
theorem Ok_stl {l : List Int64} {i : Int32} {x : Int64} {k : Nat} {hn : List Int64 → mH} {K : List Int64 → Option α} (hi : tab[pc]? = some (kJ .lastore 1)) (hr : h[k]? = some (.inr (3, .inr (.inl l)))) (hset : ∀ l', h.set k (.inr (3, .inr (.inl l'))) = hn l') (kk : ∀ y, stl l i x = some y → Ok C ro rk tab res (K y) (pc + 1) lo st (hn y)) : Ok C ro rk tab res ((stl l i x).bind K) pc lo (.long x :: .int i :: .ref k :: st) h :=
  Ok_bind fun y hy => by
    have hy2 := hy
    unfold stl at hy2
    split at hy2
    · cases hy2
    · rename_i h0
      cases hy2
      refine Ok_stp hi (pc2 := pc + 1) (lo2 := lo) (st2 := st) (h2 := hn _) ?_ (kk _ hy)
      rw [mS2 rfl]
      simp only [mStep2, hr, if_neg h0, hset]
      rfl
theorem Ok_dv {x y : Int32} {K : Int32 → Option α} (hi : tab[pc]? = some (kJ .idiv 1)) (kk : ∀ q, dv x y = some q → Ok C ro rk tab res (K q) (pc + 1) lo (.int q :: st) h) : Ok C ro rk tab res ((dv x y).bind K) pc lo (.int y :: .int x :: st) h :=
  Ok_bind fun q hq => by
    have h2 := hq
    unfold dv at h2
    split at h2
    · cases h2
    · rename_i h0
      cases h2
      refine Ok_stp hi (pc2 := pc + 1) (lo2 := lo) (h2 := h) ?_ (kk _ hq)
      rw [mS1 rfl]
      simp only [mStep1, if_neg h0]
      rfl
theorem Ok_rm {x y : Int32} {K : Int32 → Option α} (hi : tab[pc]? = some (kJ .irem 1)) (kk : ∀ q, rm x y = some q → Ok C ro rk tab res (K q) (pc + 1) lo (.int q :: st) h) : Ok C ro rk tab res ((rm x y).bind K) pc lo (.int y :: .int x :: st) h :=
  Ok_bind fun q hq => by
    have h2 := hq
    unfold rm at h2
    split at h2
    · cases h2
    · rename_i h0
      cases h2
      refine Ok_stp hi (pc2 := pc + 1) (lo2 := lo) (h2 := h) ?_ (kk _ hq)
      rw [mS1 rfl]
      simp only [mStep1, if_neg h0]
      rfl
theorem Ok_ret {x : α} {i : mI} {w : Option Value} (hi : tab[pc]? = some (some i)) (hs : mStep ro rk i pc lo st h = some (.inr (.inl w))) (hres : res x = (w, h)) : Ok C ro rk tab res (some x) pc lo st h := fun y hy => by
  cases hy
  rw [hres]
  exact ⟨1, i, lo, hi, mLe_refl lo, by rw [hs]; exact ⟨rfl, rfl, rfl, rfl⟩⟩
theorem Ok_rez {x : α} {b : Int32} (hb : b = 0 ∨ b = 1) (hi : tab[pc]? = some (kJ .ireturn 1)) (hres : res x = (some (.int b), h)) : Ok C ro 2 tab res (some x) pc lo [.int b] h :=
  Ok_ret hi (by rw [mS2 rfl]; simp only [mStep2, if_pos hb]) hres
theorem Ok_call {γ : Type} {S : Option γ} {K : γ → Option α} {i : mI} {y : Nat} {as rest : List Value} {w : γ → Option Value} {h1 : γ → mH} (hi : tab[pc]? = some (some i)) (hs : mStep ro rk i pc lo st h = some (.inr (.inr (y, as, rest)))) (hz : ∀ x, S = some x → C y as h (w x) (h1 x) 0 0) (kk : ∀ x, S = some x → Ok C ro rk tab res (K x) (pc + 3) lo ((w x).toList ++ rest) (h1 x)) : Ok C ro rk tab res (S.bind K) pc lo st h :=
  Ok_bind fun x hx t ht => by
    obtain ⟨n, q⟩ := kk x hx t ht
    exact ⟨n + 1, i, lo, hi, mLe_refl lo, by rw [hs]; exact ⟨w x, h1 x, 0, 0, 0, 0, hz x hx, rfl, rfl, q⟩⟩
theorem Ok_cpy {f g : List Int32} {sp dp n : Int32} {k k2 : Nat} {hn : List Int32 → mH} {K : List Int32 → Option α} {ai aj : Nat} {w : Nat} (hi : tab[pc]? = some (kI (.invokestatic w) 3 ai aj 1 0)) (hr : h[k]? = some (.inr (0, .inl f))) (hr2 : h[k2]? = some (.inr (0, .inl g))) (hc : mCat st ≤ 8) (hset : ∀ l', h.set k2 (.inr (0, .inl l')) = hn l') (kk : ∀ y, cpy f g sp dp n = some y → Ok C ro rk tab res (K y) (pc + 3) lo st (hn y)) : Ok C ro rk tab res ((cpy f g sp dp n).bind K) pc lo (.int n :: .int dp :: .ref k2 :: .int sp :: .ref k :: st) h :=
  Ok_bind fun y hy => by
    have hy2 := hy
    unfold cpy at hy2
    split at hy2
    · cases hy2
    · rename_i h0
      cases hy2
      refine Ok_stp hi (pc2 := pc + 3) (lo2 := lo) (st2 := st) (h2 := hn _) ?_ (kk _ hy)
      rw [mS2 rfl]
      simp only [mStep2, Nat.beq, cond_true, hr, hr2]
      rw [if_neg (fun q => q.elim (fun q => h0 (Or.inl q)) (fun q => q.elim (fun q => h0 (Or.inr q)) (fun q => by omega))), hset]
      rfl
theorem mBig_of {d y n0 : Nat} {as : List Value} {v : Option Value} {h' : mH} (hy : y < 264) (hf : Nat.ble (mFlat as).length (mMeth y).2.2.1 = true) (ht : mTab y = tab) (hk : (mMeth y).2.2.2.2.2.1 = rk) (hn : (mMeth y).2.2.1 = n0) (w : mWp (mBig ro d) ro rk tab 0 (mEnt n0 as) [] h v h') : mBig ro (d + 1) y as h v h' 0 0 := by
  obtain ⟨n, q⟩ := w
  subst ht; subst hk; subst hn
  exact ⟨hy, Nat.le_of_ble_eq_true hf, n, q⟩
end RU
theorem mRunN_z {C : mCal} {ro : List (List Int32)} {tab : List (Option mI)} : ∀ (n pc : Nat) (lo : mO) (st : List Value) (h : mH) (x : Int32) (h' : mH) (nc ns : Nat), mRunN C ro 2 tab n pc lo st h (some (.int x)) h' nc ns → x = 0 ∨ x = 1 := by
  intro n
  induction n with
  | zero => intro pc lo st h v h' nc ns q; exact q.elim
  | succ n ih =>
    intro pc lo1 st h v h' nc ns q
    obtain ⟨i, lo, hi, -, q⟩ := q
    split at q
    · exact q.elim
    · obtain ⟨nc2, ns2, rfl, rfl, q⟩ := q
      exact ih _ _ _ _ _ _ _ _ q
    · rename_i w hs
      obtain ⟨e, -⟩ := q
      subst e
      obtain ⟨ins, len, a1, a2, a3, v32, v64, sw⟩ := i
      unfold mStep at hs
      cases hk : mKind ins with
      | true =>
        rw [hk] at hs
        simp only [cond_true] at hs
        obtain ⟨_, _, _, hx⟩ := mStep1_len hs
        cases hx
      | false =>
        rw [hk] at hs
        simp only [cond_false] at hs
        rcases mStep2_ret hs with rfl | rfl | rfl
        · simp only [mStep2] at hs
          split at hs
          · exact absurd (by assumption : (2 : Nat) = 1) (by decide)
          · split at hs
            · rename_i hb
              cases hs
              exact hb
            · cases hs
          · cases hs
        · simp only [mStep2] at hs
          cases hs
        · simp only [mStep2] at hs
          cases hs
    · obtain ⟨w, h1, c1, s1, nc2, ns2, hc, rfl, rfl, q⟩ := q
      exact ih _ _ _ _ _ _ _ _ q
theorem mBig_z {ro : List (List Int32)} {d y : Nat} {as : List Value} {h h' : mH} {x : Int32} {nc ns : Nat} (q : mBig ro d y as h (some (.int x)) h' nc ns) (hy : (mMeth y).2.2.2.2.2.1 = 2) : x = 0 ∨ x = 1 := by
  cases d with
  | zero => exact q.elim
  | succ d =>
    obtain ⟨-, -, n, q⟩ := q
    rw [hy] at q
    exact mRunN_z _ _ _ _ _ _ _ _ _ q
section RU2
variable {α : Type} {C : mCal} {ro : List (List Int32)} {rk : Nat} {tab : List (Option mI)} {res : α → Option Value × mH} {pc : Nat} {lo : mO} {st : List Value} {h h2 : mH}
theorem Ok_gz {x : Int32} {K : Int32 → Option α} (kk : (x = 0 ∨ x = 1) → Ok C ro rk tab res (K x) pc lo st h) : Ok C ro rk tab res ((gz x).bind K) pc lo st h := Ok_bind fun y hy => by
  unfold gz at hy
  split at hy
  · rename_i hx
    cases hy
    exact kk hx
  · cases hy
theorem Ok_putz {x : Int32} {k w ci j : Nat} {fs : List Value} {T : Option α} (hx : x = 0 ∨ x = 1) (hi : tab[pc]? = some (kI (.putfield w) 3 ci j 1 0)) (hr : h[k]? = some (.inl (ci, fs))) (hc : (Nat.beq ci ci && Nat.blt j fs.length) = true) (he : h.set k (.inl (ci, fs.set j (.int x))) = h2) (K : Ok C ro rk tab res T (pc + 3) lo st h2) : Ok C ro rk tab res T pc lo (.int x :: .ref k :: st) h := by
  refine Ok_stp hi (pc2 := pc + 3) (lo2 := lo) (st2 := st) (h2 := h2) ?_ K
  rw [mS2 rfl]
  simp only [mStep2, hr, hc, cond_true, if_pos hx, he]
  rfl
end RU2
theorem Ok_len {α : Type} {C : mCal} {ro : List (List Int32)} {rk : Nat} {tab : List (Option mI)} {res : α → Option Value × mH} {T : Option α} {pc k : Nat} {lo : mO} {st : List Value} {h : mH} {l : List Int32} (hi : tab[pc]? = some (kJ .arraylength 1)) (hr : mRow ro h k = some l) (K : Ok C ro rk tab res T (pc + 1) lo (.int (Int32.ofNat l.length) :: st) h) : Ok C ro rk tab res T pc lo (.ref k :: st) h :=
  Ok_stp hi (by rw [mS2 rfl]; simp only [mStep2, hr]; rfl) K
theorem mCong {ro : List (List Int32)} {a b y : Nat} {as : List Value} {h h' : mH} {v : Option Value} {nc ns : Nat} (e : a = b) (q : mBig ro a y as h v h' nc ns) : mBig ro b y as h v h' nc ns := e ▸ q
