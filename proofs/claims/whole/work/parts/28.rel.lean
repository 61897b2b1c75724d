/-! NUMBERS: everything over the integers -/
theorem fb_rng (x : Int32) : -2147483648 ≤ x.toInt ∧ x.toInt < 2147483648 := by
  have h1 := Int32.le_toInt x
  have h2 := Int32.toInt_lt x
  omega
theorem fb_bmod {z : Int} (h1 : -2147483648 ≤ z) (h2 : z < 2147483648) : z.bmod (2 ^ 32) = z := by
  rw [Int.bmod_eq_of_le (by omega) (by omega)]
theorem fb_addI {x y : Int32} (h1 : -2147483648 ≤ x.toInt + y.toInt) (h2 : x.toInt + y.toInt < 2147483648) : (x + y).toInt = x.toInt + y.toInt := by
  rw [Int32.toInt_add, fb_bmod h1 h2]
theorem fb_subI {x y : Int32} (h1 : -2147483648 ≤ x.toInt - y.toInt) (h2 : x.toInt - y.toInt < 2147483648) : (x - y).toInt = x.toInt - y.toInt := by
  rw [Int32.toInt_sub, fb_bmod h1 h2]
theorem fb_mulI {x y : Int32} (h1 : -2147483648 ≤ x.toInt * y.toInt) (h2 : x.toInt * y.toInt < 2147483648) : (x * y).toInt = x.toInt * y.toInt := by
  rw [Int32.toInt_mul, fb_bmod h1 h2]
theorem tI_lt (a b : Int32) : (a < b) = (a.toInt < b.toInt) := propext Int32.lt_iff_toInt_lt
theorem tI_le (a b : Int32) : (a ≤ b) = (a.toInt ≤ b.toInt) := propext Int32.le_iff_toInt_le
theorem tI_eq (a b : Int32) : (a = b) = (a.toInt = b.toInt) := propext Int32.toInt_inj.symm
theorem lcl (x y : Int64) : (lg_cmp x y < 0) = (x.toInt < y.toInt) := propext ((lc_lt x y).trans Int64.lt_iff_toInt_lt)
theorem lcg (x y : Int64) : (0 < lg_cmp x y) = (y.toInt < x.toInt) := propext ((lc_gt x y).trans Int64.lt_iff_toInt_lt)
theorem w64 (x : Int32) : x.toInt64.toInt = x.toInt := Int32.toInt_toInt64 x
theorem tnc (x : Int32) : x.toNatClampNeg = x.toInt.toNat := rfl
theorem ixB_i {i : Int32} {n : Nat} (h0 : 0 ≤ i.toInt) (h1 : i.toInt < n) : ixB i n = true := by
  unfold ixB
  rw [Bool.and_eq_true, decide_eq_true_eq, decide_eq_true_eq]
  refine ⟨Int32.le_iff_toInt_le.mpr h0, ?_⟩
  rw [tnc]
  omega
theorem ck_of {b : Bool} {A : Prop} (h : b = true) (a : A) : ck b A := by rw [h]; exact a
/-- the numbers of small naturals -/
theorem kI_t {k : Nat} (h : k < 2147483648) : (Int32.ofNat k).toInt = k := Int32.toInt_ofNat_of_lt h
theorem kI_c {k : Nat} (h : k < 2147483648) : (Int32.ofNat k).toNatClampNeg = k := by rw [tnc, kI_t h]; omega
theorem kI_1 (k : Nat) : Int32.ofNat k + Int32.ofInt 1 = Int32.ofNat (k + 1) := by
  rw [Int32.ofNat_add]; rfl
theorem kI_of {x : Int32} (h : 0 ≤ x.toInt) : x = Int32.ofNat x.toInt.toNat := by
  apply Int32.toInt_inj.mp
  have := fb_rng x
  rw [kI_t (by omega)]
  omega
/-! THE RELATION of the class's fields and the reference's -/
abbrev St : Type := Nat → Nat → Int32
def cmpL : List Nat := [2, 11, 3, 3, 3, 3, 3, 4, 4, 4, 4, 3, 3, 3, 3, 3, 3, 3, 3, 3, 3, 3, 3, 3, 3, 3, 3, 3, 3, 5, 5, 5, 5, 5, 5, 5, 5, 5, 5, 5, 5, 5, 5, 5, 5, 5, 5, 6, 6, 6, 6, 6, 6, 6, 6, 10, 10, 9, 9, 9, 9, 8, 8, 11, 11, 7, 7, 7, 7, 7, 7, 7, 7, 7, 7, 7, 7, 1, 1, 1, 1, 1, 1, 1, 1, 1, 1, 1, 1, 1, 1, 1, 1, 11, 1, 1, 1, 3, 3, 3, 3, 3, 3, 3, 3, 3, 3, 11, 11, 4, 4, 4, 5, 5, 5, 5, 5, 5, 5, 11, 6, 6, 6, 6, 6, 6, 6, 6, 6, 11, 11, 11, 11, 11, 7, 7, 7, 11, 11, 11, 8, 9, 9, 9, 9, 11, 10]
def c93L : List Nat := [11, 2, 11, 11, 11, 11, 11, 3, 11, 11, 3, 11, 11, 11, 11, 11, 11, 11, 11, 4, 11, 11, 11, 11, 5, 5, 5, 11, 11, 11, 5, 11, 11, 11, 11, 6, 11, 11, 11, 11, 11, 11, 11, 11, 11, 11, 11, 11, 11, 11, 11, 11, 11, 11, 7, 11, 11, 11, 11, 11, 11, 11, 11, 8, 8, 11, 11, 11, 11, 11, 11, 11, 9, 11, 11, 11, 11, 11, 11, 10]
/-- which part of the relation a place belongs to: 0 the script, 1 sheets, 2 status, 3 sea, 4 darks, 5 vessel, 6 bench, 7 books, 8 tape, 9 deeds, 10 trace, 11 free -/
def cmp (p k : Nat) : Nat := if p = 93 then c93L.getD k 11 else if p < 147 then cmpL.getD p 11 else if p < 100000 then 6 else 0
def Ag (cs : List Nat) (I J : St) : Prop := ∀ p k, cs.contains (cmp p k) = false → J p k = I p k
theorem Ag.rf {cs : List Nat} {I : St} : Ag cs I I := fun _ _ _ => rfl
theorem Ag.up {cs : List Nat} {I J : St} {p k : Nat} {x : Int32} (h : Ag cs I J) (hc : cs.contains (cmp p k) = true) : Ag cs I (upI J p k x) := fun q i hq => by
  unfold upI
  by_cases e1 : q = p
  · by_cases e2 : i = k
    · subst e1 e2
      rw [hc] at hq
      cases hq
    · rw [if_pos e1, if_neg e2, h q i hq]
  · rw [if_neg e1, h q i hq]
theorem Ag.tr {cs : List Nat} {I J K : St} (h : Ag cs I J) (h2 : Ag cs J K) : Ag cs I K := fun p k hq => (h2 p k hq).trans (h p k hq)
theorem Ag.mo {cs ds : List Nat} {I J : St} (h : Ag cs I J) (hd : ∀ c, ds.contains c = false → cs.contains c = false) : Ag ds I J := fun p k hq => h p k (hd _ hq)
theorem cmp_pl {p : Nat} (k : Nat) (h : p ≠ 93) (h2 : p < 147) : cmp p k = cmpL.getD p 11 := by unfold cmp; rw [if_neg h, if_pos h2]
theorem upI_same (I : St) (p k : Nat) (x : Int32) : upI I p k x p k = x := by unfold upI; rw [if_pos rfl, if_pos rfl]
theorem upI_nk {I : St} {p k q i : Nat} {x : Int32} (h : ¬ (q = p ∧ i = k)) : upI I p k x q i = I q i := by
  unfold upI
  by_cases e1 : q = p
  · rw [if_pos e1, if_neg (fun z => h ⟨e1, z⟩)]
  · rw [if_neg e1]
theorem upI_pl {I : St} {p k q : Nat} {x : Int32} (h : q ≠ p) (i : Nat) : upI I p k x q i = I q i := upI_nk (fun z => h z.1)
def RC1 (I : St) : Prop := ∀ s, s < 8 → (I (77 + 2 * s) 1 = 0 ∧ I 94 s = -1 ∨ I (77 + 2 * s) 1 = 1 ∧ I 94 s = I (77 + 2 * s) 2) ∧ 0 ≤ (I (77 + 2 * s) 2).toInt ∧ (I (77 + 2 * s) 2).toInt ≤ 2 ∧ I (77 + 2 * s) 3 = I 95 s ∧ 0 ≤ (I 95 s).toInt ∧ (I 95 s).toInt ≤ 120 ∧ ∀ i, i < 120 → I (78 + 2 * s) i = I 96 (120 * s + i)
def RC2 (I : St) : Prop := I 0 11 = I 93 1
def RC4 (I : St) : Prop := I 7 3 = I 93 19 ∧ 0 ≤ (I 93 19).toInt ∧ (I 93 19).toInt ≤ 10 ∧ ∀ k, k < 10 → I 8 k = I 109 k ∧ I 9 k = I 110 k ∧ I 10 k = I 111 k
def RC8 (I : St) : Prop := I 61 0 = I 93 63 ∧ I 61 1 = I 93 64 ∧ 0 ≤ (I 93 63).toInt ∧ (I 93 63).toInt ≤ 400 ∧ ∀ k, k < 400 → I 62 k = (I 140 k).toInt8.toInt32 ∧ 0 ≤ (I 140 k).toInt ∧ (I 140 k).toInt ≤ 255
def RC9 (I : St) : Prop := I 57 3 = I 93 72 ∧ 0 ≤ (I 93 72).toInt ∧ (I 93 72).toInt ≤ 40 ∧ ∀ k, k < 40 → I 58 k = I 141 k * 4 + I 142 k ∧ (0 ≤ (I 141 k).toInt ∧ (I 141 k).toInt ≤ 3) ∧ (0 ≤ (I 142 k).toInt ∧ (I 142 k).toInt ≤ 3) ∧ I 59 k = I 143 k ∧ I 60 k = I 144 k
def RC10 (I : St) : Prop := I 55 1 = I 93 79 ∧ 0 ≤ (I 93 79).toInt ∧ (I 93 79).toInt ≤ 16 ∧ ∀ k, k < 16 → I 56 k = I 146 k
def eqc (c : Nat) (I J : St) : Prop := ∀ p k, cmp p k = c → J p k = I p k
theorem eqc.at {c : Nat} {I J : St} (h : eqc c I J) {p : Nat} (k : Nat) (hp : cmp p k = c) : J p k = I p k := h p k hp
theorem cmp_sh : ∀ s, s < 8 → ∀ k, cmp (77 + 2 * s) k = 1 ∧ cmp (78 + 2 * s) k = 1 := fun s hs k => by
  rw [cmp_pl k (by omega) (by omega), cmp_pl k (by omega) (by omega)]
  revert s
  decide
theorem RC1.cg {I J : St} (h : eqc 1 I J) (r : RC1 I) : RC1 J := fun s hs => by
  have := r s hs
  rw [h (77 + 2 * s) 1 (cmp_sh s hs 1).1, h 94 s rfl, h (77 + 2 * s) 2 (cmp_sh s hs 2).1, h (77 + 2 * s) 3 (cmp_sh s hs 3).1, h 95 s rfl]
  refine ⟨this.1, this.2.1, this.2.2.1, this.2.2.2.1, this.2.2.2.2.1, this.2.2.2.2.2.1, fun i hi => ?_⟩
  rw [h (78 + 2 * s) i (cmp_sh s hs i).2, h 96 _ rfl]
  exact this.2.2.2.2.2.2 i hi
theorem RC2.cg {I J : St} (h : eqc 2 I J) (r : RC2 I) : RC2 J := by
  unfold RC2; rw [h 0 11 rfl, h 93 1 rfl]; exact r
theorem RC4.cg {I J : St} (h : eqc 4 I J) (r : RC4 I) : RC4 J := by
  unfold RC4; rw [h 7 3 rfl, h 93 19 rfl]
  refine ⟨r.1, r.2.1, r.2.2.1, fun k hk => ?_⟩
  rw [h 8 k rfl, h 9 k rfl, h 10 k rfl, h 109 k rfl, h 110 k rfl, h 111 k rfl]
  exact r.2.2.2 k hk
theorem RC8.cg {I J : St} (h : eqc 8 I J) (r : RC8 I) : RC8 J := by
  unfold RC8; rw [h 61 0 rfl, h 61 1 rfl, h 93 63 rfl, h 93 64 rfl]
  refine ⟨r.1, r.2.1, r.2.2.1, r.2.2.2.1, fun k hk => ?_⟩
  rw [h 62 k rfl, h 140 k rfl]
  exact r.2.2.2.2 k hk
theorem RC9.cg {I J : St} (h : eqc 9 I J) (r : RC9 I) : RC9 J := by
  unfold RC9; rw [h 57 3 rfl, h 93 72 rfl]
  refine ⟨r.1, r.2.1, r.2.2.1, fun k hk => ?_⟩
  rw [h 58 k rfl, h 59 k rfl, h 60 k rfl, h 141 k rfl, h 142 k rfl, h 143 k rfl, h 144 k rfl]
  exact r.2.2.2 k hk
theorem RC10.cg {I J : St} (h : eqc 10 I J) (r : RC10 I) : RC10 J := by
  unfold RC10; rw [h 55 1 rfl, h 93 79 rfl]
  refine ⟨r.1, r.2.1, r.2.2.1, fun k hk => ?_⟩
  rw [h 56 k rfl, h 146 k rfl]
  exact r.2.2.2 k hk
theorem RX.cg {G : GX} {I J : St} (h : eqc 0 I J) (r : RX G I) : RX G J := ⟨fun k => (h 100300 k rfl).trans (r.1 k), (h 100301 0 rfl).trans r.2⟩
theorem Ag.eqc {cs : List Nat} {I J : St} (h : Ag cs I J) {c : Nat} (hc : cs.contains c = false) : eqc c I J := fun p k e => h p k (by rw [e]; exact hc)
