/-! PURE: how the component's registers and the reference's stand to one another; frames; rows about rows of numbers (written by gen30.py) -/
def bnd (l : List Int32) (n : Nat) (lo hi : Int) : Prop := ∀ k, k < n → lo ≤ (l.getD k 0).toInt ∧ (l.getD k 0).toInt ≤ hi
abbrev ib (x : Int32) (lo hi : Int) : Prop := lo ≤ x.toInt ∧ x.toInt ≤ hi
/-- a long row of the reference: n rows of w, one behind another -/
def flat (l : List Int32) (f : Nat → List Int32) (n w : Nat) : Prop := ∀ i j, i < n → j < w → l.getD (w * i + j) 0 = (f i).getD j 0
/-- one letter of a text: what is awaited (0 head, 1 colon, 2 factor, 3 and on: behind one), depth, the mark's place and one (0: none yet) -/
def tStep (x : Int32) (k : Nat) (q : Nat × Nat × Nat) : Option (Nat × Nat × Nat) :=
  if q.1 = 0 then (if x = 87 ∨ x = 83 ∨ x = 67 then some (1, q.2) else none)
  else if q.1 = 1 then (if x = 58 then some (2, q.2) else none)
  else if q.1 = 2 then (if 48 ≤ x ∧ x ≤ 57 then some (5, q.2) else if x = 40 then some (2, q.2.1 + 1, q.2.2) else if x = 114 ∨ x = 116 ∨ x = 104 ∨ x = 107 then some (3, q.2) else none)
  else if 48 ≤ x ∧ x ≤ 57 then (if 3 < q.1 then some (q.1 - 1, q.2) else none)
  else if x = 43 ∨ x = 45 ∨ x = 42 then some (2, q.2)
  else if x = 41 ∧ 0 < q.2.1 then some (3, q.2.1 - 1, q.2.2)
  else if (x = 60 ∨ x = 61 ∨ x = 62) ∧ q.2.1 = 0 ∧ q.2.2 = 0 then some (2, q.2.1, k + 1) else none
def tRun (l : List Int32) : Nat → Option (Nat × Nat × Nat)
  | 0 => some (0, 0, 0)
  | k + 1 => (tRun l k).bind (tStep (l.getD k 0) k)
/-- the texts that were taken are whole -/
def RTw (m : Nat) (len sgn : List Int32) (f : Nat → List Int32) : Prop := ∀ t, t < m → ∃ L s a : Nat, L ≤ 60 ∧ len.getD t 0 = nI L ∧ sgn.getD t 0 = nI s ∧ 3 ≤ a ∧ tRun (f t) L = some (a, 0, s + 1)
def scI (j : Nat) : Bool := ([false, false, false, false, true, false, false, false, true, true, true, true, true, true, true, false, false, false, true, true, true, false, false, true, false, false, true, false, false] : List Bool).getD j false
def scA (j : Nat) : Bool := ([false, false, false, false, false, false, false, true, true, true, true, false, false, false, false, false, false, false, false, false, false, false, false, false, false, false, false, false, false, false, false, false, false, false, false, false, false, false, false, false, false, false, false, false, false, false, false, false, false, false, false, false, false, true, true, false, false, false, false, false, false, false, false, false, true, true, true, true, false, false, false, true, true, false, false, false, false, false, false, false, false, false, false, false, false, false, false, false, false, false, false, false, false, false, false] : List Bool).getD j false
def srI (j : Nat) : Bool := ([false, false, false, false, false, false, false, false, false, false, false, false, false, false, false, false, false, false, false, false, false, false, false, false, false, false, false, true, true, true, true, true, true, true, true, true] : List Bool).getD j false
def srA (j : Nat) : Bool := ([false, false, false, false, false, false, false, false, false, false, false, false, false, false, false, false, false, false, false, false, false, false, false, false, false, false, false, false, false, true, true, true, true, true, true, true, true, true, true, true] : List Bool).getD j false
def LAc (j : Nat) : Nat := ([12, 12, 3, 6, 6, 12, 20, 12, 12, 20, 12, 20, 20, 20, 3, 3, 3, 3, 3, 3, 3, 3, 3, 3, 3, 3, 3, 3, 3, 3, 3, 3, 3, 3, 60, 60, 60, 60, 60, 60, 60, 60, 60, 60, 60, 60, 60, 12, 12, 24, 24, 8, 4, 8, 8, 4, 4, 4, 4, 4, 4, 4, 6, 6, 4, 6, 6, 7, 4, 5, 5, 200, 200, 8, 8, 8, 8, 8, 8, 8, 8, 8, 8, 4, 5, 5, 5, 5, 5, 5, 5, 5, 5, 5, 8] : List Nat).getD j 0
def LAr (j : Nat) : Nat := ([12, 12, 12, 6, 6, 20, 20, 20, 20, 60, 60, 720, 12, 24, 24, 8, 6, 6, 24, 4, 5, 5, 8, 8, 64, 5, 5, 8, 40, 12, 12, 20, 9, 4, 9, 8, 6, 5, 200, 200] : List Nat).getD j 0
def LBc (j : Nat) : Nat := ([60, 60] : List Nat).getD j 0
def LBr (j : Nat) : Nat := ([61, 61] : List Nat).getD j 0
def LenC (c : St) : Prop := (∀ j, (gA c j).length = LAc j) ∧ ∀ j, (gB c j).length = LBc j
def LenR (r : St) : Prop := (∀ j, (gA r j).length = LAr j) ∧ ∀ j, (gB r j).length = LBr j
def RHold (c r : St) : Prop := ∃ n : Nat, n ≤ 6 ∧ gI c 0 = nI n ∧ gI r 6 = nI n ∧ gA c 3 = gA r 3 ∧ gA c 4 = gA r 4 ∧ bnd (gA c 3) n 1 200 ∧ bnd (gA c 4) n (-50) 400
def RNow (c r : St) : Prop := gI c 1 = gI r 4 ∧ ib (gI c 1) 0 1200 ∧ gI c 2 = gI r 5 ∧ ib (gI c 2) 0 1000000
def RCell (c r : St) : Prop := gA c 0 = gA r 1 ∧ bnd (gA c 0) 12 0 20 ∧ gA c 1 = gA r 2 ∧ bnd (gA c 1) 12 0 1 ∧ gA c 5 = gA r 0 ∧ bnd (gA c 5) 12 (-300) 600
def REng (c r : St) : Prop := gA c 2 = [gI r 0, gI r 1, gI r 2] ∧ ib (gI r 0) 0 20 ∧ ib (gI r 1) 0 60 ∧ ib (gI r 2) 1 9 ∧ gI c 3 = gI r 3 ∧ ib (gI c 3) 0 9999
def RLots (c r : St) : Prop := ∃ n : Nat, n ≤ 20 ∧ gI c 5 = nI n ∧ gI r 7 = nI n ∧ gA c 11 = gA r 5 ∧ gA c 12 = gA r 6 ∧ gA c 13 = gA r 8 ∧ gA c 6 = gA r 7 ∧ bnd (gA c 11) n 0 5 ∧ bnd (gA c 12) n 0 11 ∧ (∀ k, n ≤ k → (gA c 6).getD k 0 = 0) ∧ flat (gA r 9) (fun i => gA c (14 + i)) 20 3
def RText (c r : St) : Prop := ∃ n m : Nat, n ≤ 60 ∧ m ≤ 12 ∧ gI c 6 = nI n ∧ gI r 8 = nI n ∧ gI c 7 = nI m ∧ gI r 9 = nI m ∧ gA c 34 = gA r 10 ∧ bnd (gA c 34) 60 0 126 ∧ flat (gA r 11) (fun i => gA c (35 + i)) 12 60 ∧ gA c 47 = gA r 12 ∧ RTw m (gA c 47) (gA c 48) (fun i => gA c (35 + i))
def RRead (c r : St) : Prop := ∃ n : Nat, n ≤ 24 ∧ gI c 15 = nI n ∧ gI r 10 = nI n ∧ gI c 16 = gI r 11 ∧ ib (gI c 16) 1 50 ∧ gA c 49 = gA r 13 ∧ gA c 50 = gA r 14 ∧ bnd (gA c 49) n 0 1200 ∧ bnd (gA c 50) n (-999) 600 ∧ ∀ k, k < n → (gA c 50).getD k 0 = -999 ∨ -300 ≤ ((gA c 50).getD k 0).toInt
def RStk (c r : St) : Prop := ∃ n : Nat, n ≤ 8 ∧ gI c 17 = nI n ∧ gI r 12 = nI n ∧ gA c 51 = gA r 15 ∧ bnd (gA c 51) n 0 99 ∧ gA c 52 = [0, 0, 0, 0]
def RDrv (c r : St) : Prop := ∃ n : Nat, n ≤ 6 ∧ gI c 21 = nI n ∧ gI r 13 = nI n ∧ gA c 62 = gA r 16 ∧ gA c 63 = gA r 17 ∧ bnd (gA c 62) n 1 999 ∧ bnd (gA c 63) n 1 99 ∧ flat (gA r 18) (fun i => gA c (56 + i)) 6 4 ∧ bnd (gA r 18) 24 0 60 ∧ gA c 55 = gA r 19 ∧ bnd (gA c 55) 4 0 9999 ∧ gI c 22 = gI r 14 ∧ ib (gI c 22) 0 9
def RMkt (c r : St) : Prop := ∃ n : Nat, n ≤ 5 ∧ gI c 24 = nI n ∧ gI r 19 = nI n ∧ gA c 69 = gA r 20 ∧ gA c 70 = gA r 21 ∧ bnd (gA c 69) n 1 99 ∧ bnd (gA c 70) n 0 999 ∧ gA c 68 = [gI r 15, gI r 16, gI r 17, gI r 18] ∧ ib (gI r 15) 0 999 ∧ ib (gI r 16) 0 99 ∧ ib (gI r 17) 0 6 ∧ ib (gI r 18) 1 6
def RFarm (c r : St) : Prop := ∃ n : Nat, n ≤ 8 ∧ gI c 25 = nI n ∧ gI r 20 = nI n ∧ gA c 81 = gA r 22 ∧ gA c 82 = gA r 23 ∧ bnd (gA c 81) n 0 9 ∧ bnd (gA c 82) n (-9999) 9999 ∧ flat (gA r 24) (fun i => gA c (73 + i)) 8 8 ∧ bnd (gA r 24) 64 0 999
def RRing (c r : St) : Prop := ∃ n : Nat, n ≤ 5 ∧ gI c 27 = nI n ∧ gI r 21 = nI n ∧ gA c 84 = gA r 25 ∧ gA c 85 = gA r 26 ∧ bnd (gA c 84) n 1 99 ∧ bnd (gA c 85) n 0 999 ∧ gA c 83 = [gI r 22, gI r 23, gI r 24, gI r 25] ∧ ib (gI r 22) 0 999 ∧ ib (gI r 23) 0 99 ∧ ib (gI r 24) 0 100 ∧ ib (gI r 25) 0 999
def RCh (c r : St) : Prop := ∃ n : Nat, n ≤ 8 ∧ gI c 28 = nI n ∧ gI r 26 = nI n ∧ gA c 94 = gA r 27 ∧ bnd (gA c 94) n 0 9999 ∧ flat (gA r 28) (fun i => gA c (86 + i)) 8 5 ∧ bnd (gA r 28) 40 (-999) 999
def Rel (c r : St) : Prop := LenC c ∧ LenR r ∧ RHold c r ∧ RNow c r ∧ RCell c r ∧ REng c r ∧ RLots c r ∧ RText c r ∧ RRead c r ∧ RStk c r ∧ RDrv c r ∧ RMkt c r ∧ RFarm c r ∧ RRing c r ∧ RCh c r
theorem Rel.lenC {c r : St} (h : Rel c r) : LenC c := h.1
theorem Rel.lenR {c r : St} (h : Rel c r) : LenR r := h.2.1
theorem Rel.rHold {c r : St} (h : Rel c r) : RHold c r := h.2.2.1
theorem Rel.rNow {c r : St} (h : Rel c r) : RNow c r := h.2.2.2.1
theorem Rel.rCell {c r : St} (h : Rel c r) : RCell c r := h.2.2.2.2.1
theorem Rel.rEng {c r : St} (h : Rel c r) : REng c r := h.2.2.2.2.2.1
theorem Rel.rLots {c r : St} (h : Rel c r) : RLots c r := h.2.2.2.2.2.2.1
theorem Rel.rText {c r : St} (h : Rel c r) : RText c r := h.2.2.2.2.2.2.2.1
theorem Rel.rRead {c r : St} (h : Rel c r) : RRead c r := h.2.2.2.2.2.2.2.2.1
theorem Rel.rStk {c r : St} (h : Rel c r) : RStk c r := h.2.2.2.2.2.2.2.2.2.1
theorem Rel.rDrv {c r : St} (h : Rel c r) : RDrv c r := h.2.2.2.2.2.2.2.2.2.2.1
theorem Rel.rMkt {c r : St} (h : Rel c r) : RMkt c r := h.2.2.2.2.2.2.2.2.2.2.2.1
theorem Rel.rFarm {c r : St} (h : Rel c r) : RFarm c r := h.2.2.2.2.2.2.2.2.2.2.2.2.1
theorem Rel.rRing {c r : St} (h : Rel c r) : RRing c r := h.2.2.2.2.2.2.2.2.2.2.2.2.2.1
theorem Rel.rCh {c r : St} (h : Rel c r) : RCh c r := h.2.2.2.2.2.2.2.2.2.2.2.2.2.2
/-- a frame: only registers that are marked may have changed, and no row its length -/
def Fm (u w : Nat → Bool) (c c1 : St) : Prop := (∀ j, u j = false → gI c1 j = gI c j) ∧ (∀ j, w j = false → gA c1 j = gA c j) ∧ (∀ j, (gA c1 j).length = (gA c j).length) ∧ ∀ j, (gB c1 j).length = (gB c j).length
def mks (l : List Nat) (j : Nat) : Bool := l.any (Nat.beq j)
theorem gI_sI (c : St) (k j : Nat) (v : Int32) : gI (sI c k v) j = if j = k then v else gI c j := by
  show (bif Nat.beq j k then v else c.1 j) = _
  by_cases h : j = k
  · rw [if_pos h, h, Nat.beq_refl]; rfl
  · rw [if_neg h]
    have : Nat.beq j k = false := by
      cases e : Nat.beq j k
      · rfl
      · exact absurd (Nat.eq_of_beq_eq_true e) h
    rw [this]; rfl
theorem gA_sA (c : St) (k j : Nat) (v : List Int32) : gA (sA c k v) j = if j = k then v else gA c j := by
  show (bif Nat.beq j k then v else c.2.2.1 j) = _
  by_cases h : j = k
  · rw [if_pos h, h, Nat.beq_refl]; rfl
  · rw [if_neg h]
    have : Nat.beq j k = false := by
      cases e : Nat.beq j k
      · rfl
      · exact absurd (Nat.eq_of_beq_eq_true e) h
    rw [this]; rfl
theorem gB_sB (c : St) (k j : Nat) (v : List Int64) : gB (sB c k v) j = if j = k then v else gB c j := by
  show (bif Nat.beq j k then v else c.2.2.2 j) = _
  by_cases h : j = k
  · rw [if_pos h, h, Nat.beq_refl]; rfl
  · rw [if_neg h]
    have : Nat.beq j k = false := by
      cases e : Nat.beq j k
      · rfl
      · exact absurd (Nat.eq_of_beq_eq_true e) h
    rw [this]; rfl
theorem gA_sA_same (c : St) (k : Nat) (v : List Int32) : gA (sA c k v) k = v := by rw [gA_sA, if_pos rfl]
theorem gA_sA_ne (c : St) {k j : Nat} (v : List Int32) (h : j ≠ k) : gA (sA c k v) j = gA c j := by rw [gA_sA, if_neg h]
theorem gI_sI_same (c : St) (k : Nat) (v : Int32) : gI (sI c k v) k = v := by rw [gI_sI, if_pos rfl]
theorem gI_sI_ne (c : St) {k j : Nat} (v : Int32) (h : j ≠ k) : gI (sI c k v) j = gI c j := by rw [gI_sI, if_neg h]
theorem gB_sB_same (c : St) (k : Nat) (v : List Int64) : gB (sB c k v) k = v := by rw [gB_sB, if_pos rfl]
theorem gB_sB_ne (c : St) {k j : Nat} (v : List Int64) (h : j ≠ k) : gB (sB c k v) j = gB c j := by rw [gB_sB, if_neg h]
theorem gI_sA (c : St) (k j : Nat) (v : List Int32) : gI (sA c k v) j = gI c j := rfl
theorem gI_sB (c : St) (k j : Nat) (v : List Int64) : gI (sB c k v) j = gI c j := rfl
theorem gI_sL (c : St) (k j : Nat) (v : Int64) : gI (sL c k v) j = gI c j := rfl
theorem gA_sI (c : St) (k j : Nat) (v : Int32) : gA (sI c k v) j = gA c j := rfl
theorem gA_sB (c : St) (k j : Nat) (v : List Int64) : gA (sB c k v) j = gA c j := rfl
theorem gA_sL (c : St) (k j : Nat) (v : Int64) : gA (sL c k v) j = gA c j := rfl
theorem gB_sI (c : St) (k j : Nat) (v : Int32) : gB (sI c k v) j = gB c j := rfl
theorem gB_sA (c : St) (k j : Nat) (v : List Int32) : gB (sA c k v) j = gB c j := rfl
theorem gB_sL (c : St) (k j : Nat) (v : Int64) : gB (sL c k v) j = gB c j := rfl
section FR
variable {u w : Nat → Bool} {c c1 c2 : St} {k : Nat}
theorem Fm.refl (u w : Nat → Bool) (c : St) : Fm u w c c := ⟨fun _ _ => rfl, fun _ _ => rfl, fun _ => rfl, fun _ => rfl⟩
theorem Fm.trans (h : Fm u w c c1) (g : Fm u w c1 c2) : Fm u w c c2 := ⟨fun j e => (g.1 j e).trans (h.1 j e), fun j e => (g.2.1 j e).trans (h.2.1 j e), fun j => (g.2.2.1 j).trans (h.2.2.1 j), fun j => (g.2.2.2 j).trans (h.2.2.2 j)⟩
theorem Fm.mono {u2 w2 : Nat → Bool} (h : Fm u w c c1) (hu : ∀ j, u2 j = false → u j = false) (hw : ∀ j, w2 j = false → w j = false) : Fm u2 w2 c c1 := ⟨fun j e => h.1 j (hu j e), fun j e => h.2.1 j (hw j e), h.2.2⟩
theorem Fm.sI (h : Fm u w c c1) (hk : u k = true) {v : Int32} : Fm u w c (sI c1 k v) := by
  refine ⟨fun j e => ?_, h.2⟩
  rw [gI_sI_ne]
  · exact h.1 j e
  · intro q; subst q; rw [hk] at e; cases e
theorem Fm.sA (h : Fm u w c c1) (hk : w k = true) {v : List Int32} (hl : v.length = (gA c1 k).length) : Fm u w c (sA c1 k v) := by
  refine ⟨h.1, fun j e => ?_, fun j => ?_, h.2.2.2⟩
  · rw [gA_sA_ne]
    · exact h.2.1 j e
    · intro q; subst q; rw [hk] at e; cases e
  · rw [gA_sA]
    split
    · rename_i q; rw [hl, ← q]; exact h.2.2.1 j
    · exact h.2.2.1 j
theorem Fm.sB (h : Fm u w c c1) {v : List Int64} (hl : v.length = (gB c1 k).length) : Fm u w c (sB c1 k v) := by
  refine ⟨h.1, h.2.1, h.2.2.1, fun j => ?_⟩
  rw [gB_sB]
  split
  · rename_i q; rw [hl, ← q]; exact h.2.2.2 j
  · exact h.2.2.2 j
theorem Fm.sL (h : Fm u w c c1) {v : Int64} : Fm u w c (sL c1 k v) := h
end FR
theorem LenC_fr {u w : Nat → Bool} {c c1 : St} (h : LenC c) (hc : Fm u w c c1) : LenC c1 := ⟨fun j => (hc.2.2.1 j).trans (h.1 j), fun j => (hc.2.2.2 j).trans (h.2 j)⟩
theorem LenR_fr {u w : Nat → Bool} {c c1 : St} (h : LenR c) (hc : Fm u w c c1) : LenR c1 := ⟨fun j => (hc.2.2.1 j).trans (h.1 j), fun j => (hc.2.2.2 j).trans (h.2 j)⟩
theorem flat_eq {l : List Int32} {f g : Nat → List Int32} {n w : Nat} (h : flat l f n w) (e : ∀ i, i < n → g i = f i) : flat l g n w := fun i j hi hj => by rw [e i hi]; exact h i j hi hj
theorem RTw_eq {m : Nat} {len sgn : List Int32} {f g : Nat → List Int32} (hm : m ≤ 12) (h : RTw m len sgn f) (e : ∀ i, i < 12 → g i = f i) : RTw m len sgn g := fun t ht => by rw [e t (by omega)]; exact h t ht
theorem sc_14 : ∀ i, i < 20 → scA (14 + i) = false := by decide
theorem sc_35 : ∀ i, i < 12 → scA (35 + i) = false := by decide
theorem sc_56 : ∀ i, i < 6 → scA (56 + i) = false := by decide
theorem sc_73 : ∀ i, i < 8 → scA (73 + i) = false := by decide
theorem sc_86 : ∀ i, i < 8 → scA (86 + i) = false := by decide
theorem RHold.frg {u w u2 w2 : Nat → Bool} {c r c1 r1 : St} (h : RHold c r) (hc : Fm u w c c1) (hr : Fm u2 w2 r r1) (m : w 3 = false ∧ w 4 = false ∧ w2 3 = false ∧ w2 4 = false ∧ u 0 = false ∧ u2 6 = false) : RHold c1 r1 := by
  obtain ⟨m0, m1, m2, m3, m4, m5⟩ := m
  unfold RHold at h ⊢
  rw [hc.2.1 3 m0, hc.2.1 4 m1, hr.2.1 3 m2, hr.2.1 4 m3, hc.1 0 m4, hr.1 6 m5]
  exact h
theorem RNow.frg {u w u2 w2 : Nat → Bool} {c r c1 r1 : St} (h : RNow c r) (hc : Fm u w c c1) (hr : Fm u2 w2 r r1) (m : u 1 = false ∧ u 2 = false ∧ u2 4 = false ∧ u2 5 = false) : RNow c1 r1 := by
  obtain ⟨m0, m1, m2, m3⟩ := m
  unfold RNow at h ⊢
  rw [hc.1 1 m0, hc.1 2 m1, hr.1 4 m2, hr.1 5 m3]
  exact h
theorem RCell.frg {u w u2 w2 : Nat → Bool} {c r c1 r1 : St} (h : RCell c r) (hc : Fm u w c c1) (hr : Fm u2 w2 r r1) (m : w 0 = false ∧ w 1 = false ∧ w 5 = false ∧ w2 0 = false ∧ w2 1 = false ∧ w2 2 = false) : RCell c1 r1 := by
  obtain ⟨m0, m1, m2, m3, m4, m5⟩ := m
  unfold RCell at h ⊢
  rw [hc.2.1 0 m0, hc.2.1 1 m1, hc.2.1 5 m2, hr.2.1 0 m3, hr.2.1 1 m4, hr.2.1 2 m5]
  exact h
theorem REng.frg {u w u2 w2 : Nat → Bool} {c r c1 r1 : St} (h : REng c r) (hc : Fm u w c c1) (hr : Fm u2 w2 r r1) (m : w 2 = false ∧ u 3 = false ∧ u2 0 = false ∧ u2 1 = false ∧ u2 2 = false ∧ u2 3 = false) : REng c1 r1 := by
  obtain ⟨m0, m1, m2, m3, m4, m5⟩ := m
  unfold REng at h ⊢
  rw [hc.2.1 2 m0, hc.1 3 m1, hr.1 0 m2, hr.1 1 m3, hr.1 2 m4, hr.1 3 m5]
  exact h
theorem RLots.frg {u w u2 w2 : Nat → Bool} {c r c1 r1 : St} (h : RLots c r) (hc : Fm u w c c1) (hr : Fm u2 w2 r r1) (m : w 11 = false ∧ w 12 = false ∧ w 13 = false ∧ w 6 = false ∧ w2 5 = false ∧ w2 6 = false ∧ w2 7 = false ∧ w2 8 = false ∧ w2 9 = false ∧ u 5 = false ∧ u2 7 = false ∧ ∀ i, i < 20 → w (14 + i) = false) : RLots c1 r1 := by
  obtain ⟨m0, m1, m2, m3, m4, m5, m6, m7, m8, m9, m10, m11⟩ := m
  have e : ∀ i, i < 20 → gA c1 (14 + i) = gA c (14 + i) := fun i hi => hc.2.1 _ (m11 i hi)
  unfold RLots at h ⊢
  rw [hc.2.1 11 m0, hc.2.1 12 m1, hc.2.1 13 m2, hc.2.1 6 m3, hr.2.1 5 m4, hr.2.1 6 m5, hr.2.1 7 m6, hr.2.1 8 m7, hr.2.1 9 m8, hc.1 5 m9, hr.1 7 m10]
  obtain ⟨n, h⟩ := h
  refine ⟨n, ?_⟩
  obtain ⟨h1, h2, h3, h4, h5, h6, h7, h8, h9, h10, h11⟩ := h
  exact ⟨h1, h2, h3, h4, h5, h6, h7, h8, h9, h10, flat_eq h11 e⟩
theorem RText.frg {u w u2 w2 : Nat → Bool} {c r c1 r1 : St} (h : RText c r) (hc : Fm u w c c1) (hr : Fm u2 w2 r r1) (m : w 34 = false ∧ w 47 = false ∧ w 48 = false ∧ w2 10 = false ∧ w2 11 = false ∧ w2 12 = false ∧ u 6 = false ∧ u 7 = false ∧ u2 8 = false ∧ u2 9 = false ∧ ∀ i, i < 12 → w (35 + i) = false) : RText c1 r1 := by
  obtain ⟨m0, m1, m2, m3, m4, m5, m6, m7, m8, m9, m10⟩ := m
  have e : ∀ i, i < 12 → gA c1 (35 + i) = gA c (35 + i) := fun i hi => hc.2.1 _ (m10 i hi)
  unfold RText at h ⊢
  rw [hc.2.1 34 m0, hc.2.1 47 m1, hc.2.1 48 m2, hr.2.1 10 m3, hr.2.1 11 m4, hr.2.1 12 m5, hc.1 6 m6, hc.1 7 m7, hr.1 8 m8, hr.1 9 m9]
  obtain ⟨n, m, h⟩ := h
  refine ⟨n, m, ?_⟩
  obtain ⟨h1, h2, h3, h4, h5, h6, h7, h8, h9, h10, h11⟩ := h
  exact ⟨h1, h2, h3, h4, h5, h6, h7, h8, flat_eq h9 e, h10, RTw_eq h2 h11 e⟩
theorem RRead.frg {u w u2 w2 : Nat → Bool} {c r c1 r1 : St} (h : RRead c r) (hc : Fm u w c c1) (hr : Fm u2 w2 r r1) (m : w 49 = false ∧ w 50 = false ∧ w2 13 = false ∧ w2 14 = false ∧ u 15 = false ∧ u 16 = false ∧ u2 10 = false ∧ u2 11 = false) : RRead c1 r1 := by
  obtain ⟨m0, m1, m2, m3, m4, m5, m6, m7⟩ := m
  unfold RRead at h ⊢
  rw [hc.2.1 49 m0, hc.2.1 50 m1, hr.2.1 13 m2, hr.2.1 14 m3, hc.1 15 m4, hc.1 16 m5, hr.1 10 m6, hr.1 11 m7]
  exact h
theorem RStk.frg {u w u2 w2 : Nat → Bool} {c r c1 r1 : St} (h : RStk c r) (hc : Fm u w c c1) (hr : Fm u2 w2 r r1) (m : w 51 = false ∧ w 52 = false ∧ w2 15 = false ∧ u 17 = false ∧ u2 12 = false) : RStk c1 r1 := by
  obtain ⟨m0, m1, m2, m3, m4⟩ := m
  unfold RStk at h ⊢
  rw [hc.2.1 51 m0, hc.2.1 52 m1, hr.2.1 15 m2, hc.1 17 m3, hr.1 12 m4]
  exact h
theorem RDrv.frg {u w u2 w2 : Nat → Bool} {c r c1 r1 : St} (h : RDrv c r) (hc : Fm u w c c1) (hr : Fm u2 w2 r r1) (m : w 55 = false ∧ w 62 = false ∧ w 63 = false ∧ w2 16 = false ∧ w2 17 = false ∧ w2 18 = false ∧ w2 19 = false ∧ u 21 = false ∧ u 22 = false ∧ u2 13 = false ∧ u2 14 = false ∧ ∀ i, i < 6 → w (56 + i) = false) : RDrv c1 r1 := by
  obtain ⟨m0, m1, m2, m3, m4, m5, m6, m7, m8, m9, m10, m11⟩ := m
  have e : ∀ i, i < 6 → gA c1 (56 + i) = gA c (56 + i) := fun i hi => hc.2.1 _ (m11 i hi)
  unfold RDrv at h ⊢
  rw [hc.2.1 55 m0, hc.2.1 62 m1, hc.2.1 63 m2, hr.2.1 16 m3, hr.2.1 17 m4, hr.2.1 18 m5, hr.2.1 19 m6, hc.1 21 m7, hc.1 22 m8, hr.1 13 m9, hr.1 14 m10]
  obtain ⟨n, h⟩ := h
  refine ⟨n, ?_⟩
  obtain ⟨h1, h2, h3, h4, h5, h6, h7, h8, h9, h10, h11, h12, h13⟩ := h
  exact ⟨h1, h2, h3, h4, h5, h6, h7, flat_eq h8 e, h9, h10, h11, h12, h13⟩
theorem RMkt.frg {u w u2 w2 : Nat → Bool} {c r c1 r1 : St} (h : RMkt c r) (hc : Fm u w c c1) (hr : Fm u2 w2 r r1) (m : w 68 = false ∧ w 69 = false ∧ w 70 = false ∧ w2 20 = false ∧ w2 21 = false ∧ u 24 = false ∧ u2 15 = false ∧ u2 16 = false ∧ u2 17 = false ∧ u2 18 = false ∧ u2 19 = false) : RMkt c1 r1 := by
  obtain ⟨m0, m1, m2, m3, m4, m5, m6, m7, m8, m9, m10⟩ := m
  unfold RMkt at h ⊢
  rw [hc.2.1 68 m0, hc.2.1 69 m1, hc.2.1 70 m2, hr.2.1 20 m3, hr.2.1 21 m4, hc.1 24 m5, hr.1 15 m6, hr.1 16 m7, hr.1 17 m8, hr.1 18 m9, hr.1 19 m10]
  exact h
theorem RFarm.frg {u w u2 w2 : Nat → Bool} {c r c1 r1 : St} (h : RFarm c r) (hc : Fm u w c c1) (hr : Fm u2 w2 r r1) (m : w 81 = false ∧ w 82 = false ∧ w2 22 = false ∧ w2 23 = false ∧ w2 24 = false ∧ u 25 = false ∧ u2 20 = false ∧ ∀ i, i < 8 → w (73 + i) = false) : RFarm c1 r1 := by
  obtain ⟨m0, m1, m2, m3, m4, m5, m6, m7⟩ := m
  have e : ∀ i, i < 8 → gA c1 (73 + i) = gA c (73 + i) := fun i hi => hc.2.1 _ (m7 i hi)
  unfold RFarm at h ⊢
  rw [hc.2.1 81 m0, hc.2.1 82 m1, hr.2.1 22 m2, hr.2.1 23 m3, hr.2.1 24 m4, hc.1 25 m5, hr.1 20 m6]
  obtain ⟨n, h⟩ := h
  refine ⟨n, ?_⟩
  obtain ⟨h1, h2, h3, h4, h5, h6, h7, h8, h9⟩ := h
  exact ⟨h1, h2, h3, h4, h5, h6, h7, flat_eq h8 e, h9⟩
theorem RRing.frg {u w u2 w2 : Nat → Bool} {c r c1 r1 : St} (h : RRing c r) (hc : Fm u w c c1) (hr : Fm u2 w2 r r1) (m : w 83 = false ∧ w 84 = false ∧ w 85 = false ∧ w2 25 = false ∧ w2 26 = false ∧ u 27 = false ∧ u2 21 = false ∧ u2 22 = false ∧ u2 23 = false ∧ u2 24 = false ∧ u2 25 = false) : RRing c1 r1 := by
  obtain ⟨m0, m1, m2, m3, m4, m5, m6, m7, m8, m9, m10⟩ := m
  unfold RRing at h ⊢
  rw [hc.2.1 83 m0, hc.2.1 84 m1, hc.2.1 85 m2, hr.2.1 25 m3, hr.2.1 26 m4, hc.1 27 m5, hr.1 21 m6, hr.1 22 m7, hr.1 23 m8, hr.1 24 m9, hr.1 25 m10]
  exact h
theorem RCh.frg {u w u2 w2 : Nat → Bool} {c r c1 r1 : St} (h : RCh c r) (hc : Fm u w c c1) (hr : Fm u2 w2 r r1) (m : w 94 = false ∧ w2 27 = false ∧ w2 28 = false ∧ u 28 = false ∧ u2 26 = false ∧ ∀ i, i < 8 → w (86 + i) = false) : RCh c1 r1 := by
  obtain ⟨m0, m1, m2, m3, m4, m5⟩ := m
  have e : ∀ i, i < 8 → gA c1 (86 + i) = gA c (86 + i) := fun i hi => hc.2.1 _ (m5 i hi)
  unfold RCh at h ⊢
  rw [hc.2.1 94 m0, hr.2.1 27 m1, hr.2.1 28 m2, hc.1 28 m3, hr.1 26 m4]
  obtain ⟨n, h⟩ := h
  refine ⟨n, ?_⟩
  obtain ⟨h1, h2, h3, h4, h5, h6, h7⟩ := h
  exact ⟨h1, h2, h3, h4, h5, flat_eq h6 e, h7⟩
theorem RHold.fr {c r c1 r1 : St} (h : RHold c r) (hc : Fm scI scA c c1) (hr : Fm srI srA r r1) : RHold c1 r1 := by
  unfold RHold at h ⊢
  rw [hc.2.1 3 rfl, hc.2.1 4 rfl, hr.2.1 3 rfl, hr.2.1 4 rfl, hc.1 0 rfl, hr.1 6 rfl]
  exact h
theorem RNow.fr {c r c1 r1 : St} (h : RNow c r) (hc : Fm scI scA c c1) (hr : Fm srI srA r r1) : RNow c1 r1 := by
  unfold RNow at h ⊢
  rw [hc.1 1 rfl, hc.1 2 rfl, hr.1 4 rfl, hr.1 5 rfl]
  exact h
theorem RCell.fr {c r c1 r1 : St} (h : RCell c r) (hc : Fm scI scA c c1) (hr : Fm srI srA r r1) : RCell c1 r1 := by
  unfold RCell at h ⊢
  rw [hc.2.1 0 rfl, hc.2.1 1 rfl, hc.2.1 5 rfl, hr.2.1 0 rfl, hr.2.1 1 rfl, hr.2.1 2 rfl]
  exact h
theorem REng.fr {c r c1 r1 : St} (h : REng c r) (hc : Fm scI scA c c1) (hr : Fm srI srA r r1) : REng c1 r1 := by
  unfold REng at h ⊢
  rw [hc.2.1 2 rfl, hc.1 3 rfl, hr.1 0 rfl, hr.1 1 rfl, hr.1 2 rfl, hr.1 3 rfl]
  exact h
theorem RLots.fr {c r c1 r1 : St} (h : RLots c r) (hc : Fm scI scA c c1) (hr : Fm srI srA r r1) : RLots c1 r1 := by
  have e : ∀ i, i < 20 → gA c1 (14 + i) = gA c (14 + i) := fun i hi => hc.2.1 _ (sc_14 i hi)
  unfold RLots at h ⊢
  rw [hc.2.1 11 rfl, hc.2.1 12 rfl, hc.2.1 13 rfl, hc.2.1 6 rfl, hr.2.1 5 rfl, hr.2.1 6 rfl, hr.2.1 7 rfl, hr.2.1 8 rfl, hr.2.1 9 rfl, hc.1 5 rfl, hr.1 7 rfl]
  obtain ⟨n, h⟩ := h
  refine ⟨n, ?_⟩
  obtain ⟨h1, h2, h3, h4, h5, h6, h7, h8, h9, h10, h11⟩ := h
  exact ⟨h1, h2, h3, h4, h5, h6, h7, h8, h9, h10, flat_eq h11 e⟩
theorem RText.fr {c r c1 r1 : St} (h : RText c r) (hc : Fm scI scA c c1) (hr : Fm srI srA r r1) : RText c1 r1 := by
  have e : ∀ i, i < 12 → gA c1 (35 + i) = gA c (35 + i) := fun i hi => hc.2.1 _ (sc_35 i hi)
  unfold RText at h ⊢
  rw [hc.2.1 34 rfl, hc.2.1 47 rfl, hc.2.1 48 rfl, hr.2.1 10 rfl, hr.2.1 11 rfl, hr.2.1 12 rfl, hc.1 6 rfl, hc.1 7 rfl, hr.1 8 rfl, hr.1 9 rfl]
  obtain ⟨n, m, h⟩ := h
  refine ⟨n, m, ?_⟩
  obtain ⟨h1, h2, h3, h4, h5, h6, h7, h8, h9, h10, h11⟩ := h
  exact ⟨h1, h2, h3, h4, h5, h6, h7, h8, flat_eq h9 e, h10, RTw_eq h2 h11 e⟩
theorem RRead.fr {c r c1 r1 : St} (h : RRead c r) (hc : Fm scI scA c c1) (hr : Fm srI srA r r1) : RRead c1 r1 := by
  unfold RRead at h ⊢
  rw [hc.2.1 49 rfl, hc.2.1 50 rfl, hr.2.1 13 rfl, hr.2.1 14 rfl, hc.1 15 rfl, hc.1 16 rfl, hr.1 10 rfl, hr.1 11 rfl]
  exact h
theorem RStk.fr {c r c1 r1 : St} (h : RStk c r) (hc : Fm scI scA c c1) (hr : Fm srI srA r r1) : RStk c1 r1 := by
  unfold RStk at h ⊢
  rw [hc.2.1 51 rfl, hc.2.1 52 rfl, hr.2.1 15 rfl, hc.1 17 rfl, hr.1 12 rfl]
  exact h
theorem RDrv.fr {c r c1 r1 : St} (h : RDrv c r) (hc : Fm scI scA c c1) (hr : Fm srI srA r r1) : RDrv c1 r1 := by
  have e : ∀ i, i < 6 → gA c1 (56 + i) = gA c (56 + i) := fun i hi => hc.2.1 _ (sc_56 i hi)
  unfold RDrv at h ⊢
  rw [hc.2.1 55 rfl, hc.2.1 62 rfl, hc.2.1 63 rfl, hr.2.1 16 rfl, hr.2.1 17 rfl, hr.2.1 18 rfl, hr.2.1 19 rfl, hc.1 21 rfl, hc.1 22 rfl, hr.1 13 rfl, hr.1 14 rfl]
  obtain ⟨n, h⟩ := h
  refine ⟨n, ?_⟩
  obtain ⟨h1, h2, h3, h4, h5, h6, h7, h8, h9, h10, h11, h12, h13⟩ := h
  exact ⟨h1, h2, h3, h4, h5, h6, h7, flat_eq h8 e, h9, h10, h11, h12, h13⟩
theorem RMkt.fr {c r c1 r1 : St} (h : RMkt c r) (hc : Fm scI scA c c1) (hr : Fm srI srA r r1) : RMkt c1 r1 := by
  unfold RMkt at h ⊢
  rw [hc.2.1 68 rfl, hc.2.1 69 rfl, hc.2.1 70 rfl, hr.2.1 20 rfl, hr.2.1 21 rfl, hc.1 24 rfl, hr.1 15 rfl, hr.1 16 rfl, hr.1 17 rfl, hr.1 18 rfl, hr.1 19 rfl]
  exact h
theorem RFarm.fr {c r c1 r1 : St} (h : RFarm c r) (hc : Fm scI scA c c1) (hr : Fm srI srA r r1) : RFarm c1 r1 := by
  have e : ∀ i, i < 8 → gA c1 (73 + i) = gA c (73 + i) := fun i hi => hc.2.1 _ (sc_73 i hi)
  unfold RFarm at h ⊢
  rw [hc.2.1 81 rfl, hc.2.1 82 rfl, hr.2.1 22 rfl, hr.2.1 23 rfl, hr.2.1 24 rfl, hc.1 25 rfl, hr.1 20 rfl]
  obtain ⟨n, h⟩ := h
  refine ⟨n, ?_⟩
  obtain ⟨h1, h2, h3, h4, h5, h6, h7, h8, h9⟩ := h
  exact ⟨h1, h2, h3, h4, h5, h6, h7, flat_eq h8 e, h9⟩
theorem RRing.fr {c r c1 r1 : St} (h : RRing c r) (hc : Fm scI scA c c1) (hr : Fm srI srA r r1) : RRing c1 r1 := by
  unfold RRing at h ⊢
  rw [hc.2.1 83 rfl, hc.2.1 84 rfl, hc.2.1 85 rfl, hr.2.1 25 rfl, hr.2.1 26 rfl, hc.1 27 rfl, hr.1 21 rfl, hr.1 22 rfl, hr.1 23 rfl, hr.1 24 rfl, hr.1 25 rfl]
  exact h
theorem RCh.fr {c r c1 r1 : St} (h : RCh c r) (hc : Fm scI scA c c1) (hr : Fm srI srA r r1) : RCh c1 r1 := by
  have e : ∀ i, i < 8 → gA c1 (86 + i) = gA c (86 + i) := fun i hi => hc.2.1 _ (sc_86 i hi)
  unfold RCh at h ⊢
  rw [hc.2.1 94 rfl, hr.2.1 27 rfl, hr.2.1 28 rfl, hc.1 28 rfl, hr.1 26 rfl]
  obtain ⟨n, h⟩ := h
  refine ⟨n, ?_⟩
  obtain ⟨h1, h2, h3, h4, h5, h6, h7⟩ := h
  exact ⟨h1, h2, h3, h4, h5, flat_eq h6 e, h7⟩
theorem Rel.fr {c r c1 r1 : St} (h : Rel c r) (hc : Fm scI scA c c1) (hr : Fm srI srA r r1) : Rel c1 r1 := ⟨LenC_fr h.lenC hc, LenR_fr h.lenR hr, h.rHold.fr hc hr, h.rNow.fr hc hr, h.rCell.fr hc hr, h.rEng.fr hc hr, h.rLots.fr hc hr, h.rText.fr hc hr, h.rRead.fr hc hr, h.rStk.fr hc hr, h.rDrv.fr hc hr, h.rMkt.fr hc hr, h.rFarm.fr hc hr, h.rRing.fr hc hr, h.rCh.fr hc hr⟩
/-- both answer, with one value, and stand to one another as before -/
def Sim {α : Type} (a b : Option (α × St)) : Prop := ∃ v c1 r1, a = some (v, c1) ∧ b = some (v, r1) ∧ Rel c1 r1
def Sam {α : Type} (a b : Option α) : Prop := ∃ v, a = some v ∧ b = some v
/-- a answers, and of its answer Q -/
def One {α : Type} (a : Option α) (Q : α → Prop) : Prop := ∃ x, a = some x ∧ Q x
theorem One.bind {α β : Type} {a : Option α} {f : α → Option β} {Q : α → Prop} {P : β → Prop} (h : One a Q) (k : ∀ x, Q x → One (f x) P) : One (a.bind f) P := by
  obtain ⟨x, e, hq⟩ := h
  rw [e]
  exact k x hq
theorem One.mono {α : Type} {a : Option α} {Q P : α → Prop} (h : One a Q) (k : ∀ x, Q x → P x) : One a P := by
  obtain ⟨x, e, hq⟩ := h
  exact ⟨x, e, k x hq⟩
theorem One.ret {α : Type} {x : α} {Q : α → Prop} (h : Q x) : One (some x) Q := ⟨x, rfl, h⟩
/-- from answers of one value, each within the frame of what serves for a call alone -/
theorem Sim_of {α : Type} {a b : Option (α × St)} {c r : St} (h : Rel c r) (v : α) (ha : One a (fun p => p.1 = v ∧ Fm scI scA c p.2)) (hb : One b (fun p => p.1 = v ∧ Fm srI srA r p.2)) : Sim a b := by
  obtain ⟨⟨x, c1⟩, e1, h1, h2⟩ := ha
  obtain ⟨⟨y, r1⟩, e2, h3, h4⟩ := hb
  simp only at h1 h3
  subst h1
  subst h3
  exact ⟨_, c1, r1, e1, e2, h.fr h2 h4⟩
/-- 'between two': as a number 1 or 0 -/
def bz (p : Prop) [Decidable p] : Int32 := if p then 1 else 0
theorem bz_z {p : Prop} [Decidable p] : bz p = 0 ↔ ¬ p := by
  unfold bz
  by_cases h : p
  · simp [h]
  · simp [h]
theorem C_within_eq (N : Nat) (x a b : Int32) : C_within N x a b = some (bz (a ≤ x ∧ x ≤ b)) := by
  unfold C_within C_within_p14 bz
  by_cases h1 : x < a
  · rw [if_pos h1, if_neg (fun q => absurd q.1 (Int32.not_le.mpr h1))]
  · rw [if_neg h1]
    by_cases h2 : b < x
    · rw [if_pos h2, if_neg (fun q => absurd q.2 (Int32.not_le.mpr h2))]
    · rw [if_neg h2, if_pos ⟨Int32.not_lt.mp h1, Int32.not_lt.mp h2⟩]
theorem R_in_eq (N : Nat) (x a b : Int32) : R_in N x a b = some (bz (a ≤ x ∧ x ≤ b)) := by
  unfold R_in R_in_p14 bz
  by_cases h1 : x < a
  · rw [if_pos h1, if_neg (fun q => absurd q.1 (Int32.not_le.mpr h1))]
  · rw [if_neg h1]
    by_cases h2 : b < x
    · rw [if_pos h2, if_neg (fun q => absurd q.2 (Int32.not_le.mpr h2))]
    · rw [if_neg h2, if_pos ⟨Int32.not_lt.mp h1, Int32.not_lt.mp h2⟩]
theorem if_bz {α : Type} {p : Prop} [Decidable p] (A B : α) : (if bz p = 0 then A else B) = if p then B else A := by
  by_cases h : p
  · rw [if_neg (fun q => bz_z.mp q h), if_pos h]
  · rw [if_pos (bz_z.mpr h), if_neg h]
theorem if_nbz {α : Type} {p : Prop} [Decidable p] (A B : α) : (if ¬ bz p = 0 then A else B) = if p then A else B := by
  by_cases h : p
  · rw [if_pos (fun q => bz_z.mp q h), if_pos h]
  · rw [if_neg (fun q => q (bz_z.mpr h)), if_neg h]
theorem ib_of {x a b : Int32} (h : a ≤ x ∧ x ≤ b) : ib x a.toInt b.toInt := ⟨Int32.le_iff_toInt_le.mp h.1, Int32.le_iff_toInt_le.mp h.2⟩
theorem nat_of {x : Int32} (h : 0 ≤ x.toInt) : x = nI x.toNatClampNeg ∧ x.toInt = (x.toNatClampNeg : Int) := by
  have e : x.toInt = ((x.toInt.toNat : Nat) : Int) := by omega
  refine ⟨?_, e⟩
  rw [← Int32.toInt_inj, nI_toInt (by have := Int32.toInt_lt x; have : x.toNatClampNeg = x.toInt.toNat := rfl; omega)]
  exact e
/-- a number between 0 and m is one of Nat's -/
theorem nat_in {x b : Int32} (h : 0 ≤ x ∧ x ≤ b) : ∃ k : Nat, x = nI k ∧ (k : Int) ≤ b.toInt := by
  have h1 := ib_of h
  have e0 : (0 : Int32).toInt = 0 := rfl
  have h2 : 0 ≤ x.toInt := by have := h1.1; omega
  obtain ⟨q, e⟩ := nat_of h2
  exact ⟨_, q, by have := h1.2; omega⟩
theorem ld_nI {l : List Int32} {k : Nat} (h : k < l.length) (hk : k < 2 ^ 31) : ld l (nI k) = some (l.getD k 0) := by
  unfold ld
  rw [if_neg (nI_pos hk), nI_clamp hk, List.getElem?_eq_getElem h, List.getD_eq_getElem?_getD, List.getElem?_eq_getElem h]
  rfl
theorem sto_nI {l : List Int32} {k : Nat} {x : Int32} (h : k < l.length) (hk : k < 2 ^ 31) : sto l (nI k) x = some (l.set k x) := by
  unfold sto
  rw [nI_clamp hk, if_neg (fun q => q.elim (fun a => nI_pos hk a) (fun a => by omega))]
theorem ldl_nI {l : List Int64} {k : Nat} (h : k < l.length) (hk : k < 2 ^ 31) : ldl l (nI k) = some (l.getD k 0) := by
  unfold ldl
  rw [if_neg (nI_pos hk), nI_clamp hk, List.getElem?_eq_getElem h, List.getD_eq_getElem?_getD, List.getElem?_eq_getElem h]
  rfl
theorem stl_nI {l : List Int64} {k : Nat} {x : Int64} (h : k < l.length) (hk : k < 2 ^ 31) : stl l (nI k) x = some (l.set k x) := by
  unfold stl
  rw [nI_clamp hk, if_neg (fun q => q.elim (fun a => nI_pos hk a) (fun a => by omega))]
theorem rwi_nI {k n : Nat} (h : k < n) (hk : k < 2 ^ 31) : rwi (nI k) n = some k := by
  unfold rwi
  rw [nI_clamp hk, if_neg (fun q => q.elim (fun a => nI_pos hk a) (fun a => by omega))]
theorem getD_set {l : List Int32} {i k : Nat} {x : Int32} (h : i < l.length) : (l.set i x).getD k 0 = if k = i then x else l.getD k 0 := by
  simp only [List.getD_eq_getElem?_getD, List.getElem?_set]
  by_cases hj : i = k
  · subst hj
    simp [h]
  · simp [hj, Ne.symm hj]
theorem bnd_set {l : List Int32} {n i : Nat} {lo hi : Int} {x : Int32} (hb : bnd l n lo hi) (h : i < l.length) (hx : ib x lo hi) : bnd (l.set i x) n lo hi := by
  intro k hk
  rw [getD_set h]
  split
  · exact hx
  · exact hb k hk
theorem bnd_push {l : List Int32} {n : Nat} {lo hi : Int} {x : Int32} (hb : bnd l n lo hi) (h : n < l.length) (hx : ib x lo hi) : bnd (l.set n x) (n + 1) lo hi := by
  intro k hk
  rw [getD_set h]
  split
  · exact hx
  · exact hb k (by omega)
theorem bnd_le {l : List Int32} {n m : Nat} {lo hi : Int} (hb : bnd l n lo hi) (h : m ≤ n) : bnd l m lo hi := fun k hk => hb k (by omega)
theorem nI_add1 (n : Nat) : nI n + 1 = nI (n + 1) := (nI_succ n).symm
theorem nI_sub1 (n : Nat) : nI (n + 1) - 1 = nI n := nI_pred n
theorem nI_lt_iff {a b : Nat} (ha : a < 2 ^ 31) (hb : b < 2 ^ 31) : nI a < nI b ↔ a < b := by rw [Int32.lt_iff_toInt_lt, nI_toInt ha, nI_toInt hb]; omega
theorem nI_le_iff {a b : Nat} (ha : a < 2 ^ 31) (hb : b < 2 ^ 31) : nI a ≤ nI b ↔ a ≤ b := by rw [Int32.le_iff_toInt_le, nI_toInt ha, nI_toInt hb]; omega
theorem nI_mul (a b : Nat) : nI a * nI b = nI (a * b) := (Int32.ofNat_mul a b).symm
theorem sto_len {l l1 : List Int32} {i x : Int32} (h : sto l i x = some l1) : l1.length = l.length := by
  unfold sto at h
  split at h
  · cases h
  · cases h; exact List.length_set
theorem LenC_sA {c : St} {k : Nat} {l : List Int32} (h : LenC c) (hl : l.length = (gA c k).length) : LenC (sA c k l) := by
  refine ⟨fun j => ?_, h.2⟩
  rw [gA_sA]
  split
  · rename_i q; rw [hl, ← q]; exact h.1 j
  · exact h.1 j
theorem LenR_sA {c : St} {k : Nat} {l : List Int32} (h : LenR c) (hl : l.length = (gA c k).length) : LenR (sA c k l) := by
  refine ⟨fun j => ?_, h.2⟩
  rw [gA_sA]
  split
  · rename_i q; rw [hl, ← q]; exact h.1 j
  · exact h.1 j
theorem LenC_sI {c : St} {k : Nat} {v : Int32} (h : LenC c) : LenC (sI c k v) := h
theorem LenR_sI {c : St} {k : Nat} {v : Int32} (h : LenR c) : LenR (sI c k v) := h
theorem flat_set {l : List Int32} {f g : Nat → List Int32} {n w i0 j0 : Nat} {x : Int32} (h : flat l f n w) (hi : i0 < n) (hj : j0 < w) (hl : l.length = n * w) (hf : (f i0).length = w) (hg : g i0 = (f i0).set j0 x) (hne : ∀ i, i < n → i ≠ i0 → g i = f i) : flat (l.set (w * i0 + j0) x) g n w := by
  intro i j hi2 hj2
  have hb : w * i0 + j0 < l.length := by
    rw [hl]
    have := Nat.mul_le_mul_left w (show i0 + 1 ≤ n by omega)
    rw [Nat.mul_add, Nat.mul_one, Nat.mul_comm w n] at this
    omega
  rw [getD_set hb]
  by_cases hii : i = i0
  · subst hii
    rw [hg, getD_set (by omega)]
    by_cases hjj : j = j0
    · subst hjj; rw [if_pos rfl, if_pos rfl]
    · rw [if_neg hjj, if_neg (by omega)]; exact h i j hi2 hj2
  · rw [hne i hi2 hii, if_neg]
    · exact h i j hi2 hj2
    · intro e
      have h1 : (w * i + j) / w = i := by rw [Nat.mul_add_div (by omega), Nat.div_eq_of_lt hj2, Nat.add_zero]
      have h2 : (w * i0 + j0) / w = i0 := by rw [Nat.mul_add_div (by omega), Nat.div_eq_of_lt hj, Nat.add_zero]
      rw [e, h2] at h1
      exact hii h1.symm
