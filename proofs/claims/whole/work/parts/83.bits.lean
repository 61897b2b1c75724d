/-! SETS as numbers -/
def gb (x : Int32) (i : Nat) : Bool := x.toBitVec.getLsbD i
theorem i32x {x y : Int32} (h : ∀ i, i < 32 → gb x i = gb y i) : x = y := Int32.toBitVec_inj.mp (BitVec.eq_of_getLsbD_eq (fun i hi => h i hi))
theorem gb_n (S i : Nat) : gb (Int32.ofNat S) i = (decide (i < 32) && S.testBit i) := by
  unfold gb
  rw [Int32.toBitVec_ofNat', BitVec.getLsbD_ofNat]
theorem gb_and (x y : Int32) (i : Nat) : gb (x &&& y) i = (gb x i && gb y i) := by
  unfold gb; rw [Int32.toBitVec_and, BitVec.getLsbD_and]
theorem gb_or (x y : Int32) (i : Nat) : gb (x ||| y) i = (gb x i || gb y i) := by
  unfold gb; rw [Int32.toBitVec_or, BitVec.getLsbD_or]
theorem gb_m1 : ∀ i, i < 32 → gb (-1) i = true := by decide
theorem gb_1 : ∀ i, i < 32 → gb 1 i = decide (i = 0) := by decide
theorem gb_0 : ∀ i, i < 32 → gb 0 i = false := by decide
theorem gb_not {x : Int32} {i : Nat} (h : i < 32) : gb (x ^^^ -1) i = !gb x i := by
  have e := gb_m1 i h
  unfold gb at e ⊢
  rw [Int32.toBitVec_xor, BitVec.getLsbD_xor, e, Bool.xor_true]
/-- one set without another -/
def df (S T : Nat) : Nat := S ^^^ (S &&& T)
theorem df_t (S T i : Nat) : (df S T).testBit i = (S.testBit i && !T.testBit i) := by
  unfold df
  rw [Nat.testBit_xor, Nat.testBit_and]
  cases S.testBit i <;> cases T.testBit i <;> rfl
theorem sN_and (S T : Nat) : Int32.ofNat S &&& Int32.ofNat T = Int32.ofNat (S &&& T) := by
  apply i32x; intro i hi
  rw [gb_and, gb_n, gb_n, gb_n, Nat.testBit_and, decide_eq_true hi, Bool.true_and, Bool.true_and, Bool.true_and]
theorem sN_or (S T : Nat) : Int32.ofNat S ||| Int32.ofNat T = Int32.ofNat (S ||| T) := by
  apply i32x; intro i hi
  rw [gb_or, gb_n, gb_n, gb_n, Nat.testBit_or, decide_eq_true hi, Bool.true_and, Bool.true_and, Bool.true_and]
theorem sN_df (S T : Nat) : Int32.ofNat S &&& (Int32.ofNat T ^^^ -1) = Int32.ofNat (df S T) := by
  apply i32x; intro i hi
  rw [gb_and, gb_not hi, gb_n, gb_n, gb_n, df_t, decide_eq_true hi, Bool.true_and, Bool.true_and, Bool.true_and]
theorem sN_1 : ∀ k, k < 32 → (1 : Int32) <<< (Int32.ofNat k &&& 31) = Int32.ofNat (2 ^ k) := by decide
theorem bit_lt {S i : Nat} (h : S < 4096) (hi : S.testBit i = true) : i < 12 := by
  rcases Nat.lt_or_ge i 12 with z | z
  · exact z
  · rw [Nat.testBit_lt_two_pow (Nat.lt_of_lt_of_le (show S < 2 ^ 12 from h) (Nat.pow_le_pow_right (by decide : 2 > 0) z))] at hi
    cases hi
theorem lt_bit {S : Nat} (h : ∀ i, S.testBit i = true → i < 12) : S < 4096 := by
  have : S < 2 ^ 12 := Nat.lt_pow_two_of_testBit S (fun i hi => by
    cases hb : S.testBit i with
    | false => rfl
    | true => have := h i hb; omega)
  exact this
theorem shk : ∀ k, k < 32 → (Int32.ofNat k &&& 31).toBitVec.smod 32 = BitVec.ofNat 32 k := by decide
/-- one bit of any number -/
theorem shb {x : Int32} {k : Nat} (hk : k < 32) : ((x >>> (Int32.ofNat k &&& 31)) &&& 1) = b2 (gb x k) := by
  have e0 : gb (x >>> (Int32.ofNat k &&& 31)) 0 = gb x k := by
    unfold gb
    rw [Int32.toBitVec_shiftRight, shk k hk]
    show (x.toBitVec.sshiftRight (BitVec.ofNat 32 k).toNat).getLsbD 0 = _
    rw [BitVec.toNat_ofNat, Nat.mod_eq_of_lt (by omega), BitVec.getLsbD_sshiftRight]
    simp [hk]
  apply i32x; intro i hi
  rw [gb_and, gb_1 i hi]
  by_cases c : i = 0
  · subst c
    rw [e0]
    cases gb x k <;> rfl
  · rw [decide_eq_false c, Bool.and_false]
    cases gb x k with
    | false => exact (gb_0 i hi).symm
    | true => exact ((gb_1 i hi).trans (decide_eq_false c)).symm
theorem sh1 : ∀ k, k < 32 → ∀ j, j < 32 → gb ((1 : Int32) <<< (Int32.ofNat k &&& 31)) j = decide (j = k) := by decide +kernel
theorem d64 {P : Nat → Prop} (h : ∀ a, a < 64 → ∀ b, b < 64 → P (64 * a + b)) {S : Nat} (hS : S < 4096) : P S := by
  have := h (S / 64) (by omega) (S % 64) (by omega)
  rwa [show 64 * (S / 64) + S % 64 = S by omega] at this
theorem sh5' : ∀ a, a < 64 → ∀ b, b < 64 → Int32.ofNat (64 * a + b) >>> ((5 : Int32) &&& 31) = Int32.ofNat ((64 * a + b) / 32) ∧ (Int32.ofNat (64 * a + b) &&& 31) = Int32.ofNat ((64 * a + b) % 32) := by decide +kernel
theorem sh5 {S : Nat} (h : S < 4096) : Int32.ofNat S >>> ((5 : Int32) &&& 31) = Int32.ofNat (S / 32) ∧ (Int32.ofNat S &&& 31) = Int32.ofNat (S % 32) := d64 (P := fun S => Int32.ofNat S >>> ((5 : Int32) &&& 31) = Int32.ofNat (S / 32) ∧ (Int32.ofNat S &&& 31) = Int32.ofNat (S % 32)) sh5' h
theorem bc' : ∀ a, a < 64 → ∀ b, b < 64 → bcI (Int32.ofNat (64 * a + b)) = Int32.ofNat (pcN (64 * a + b)) := by decide +kernel
theorem bc_ok {S : Nat} (h : S < 4096) : bcI (Int32.ofNat S) = Int32.ofNat (pcN S) := d64 (P := fun S => bcI (Int32.ofNat S) = Int32.ofNat (pcN S)) bc' h
theorem bitCount_ok {G : GX} {d f S : Nat} {sw : Bool} {I : St} {Q : Option Value → Hp → Prop} (h : S < 4096) (q : Q (some (.int (Int32.ofNat (pcN S)))) (147, f, I, RP f sw)) : wp G (d + 10) (mt 104) 0 (en (mt 104) [.int (Int32.ofNat S)]) [] (147, f, I, RP f sw) Q := by
  refine v_bitCount oks ?_
  show Q (some (.int (bcI (Int32.ofNat S)))) (147, f, I, RP f sw)
  rw [bc_ok h]
  exact q
def us (x : Int32) (k : Int32) : Int32 := (x.toUInt32 >>> (k.toUInt32 &&& Int32.toUInt32 31)).toInt32
def tz1 (p : Int32 × Int32) : Int32 × Int32 := if p.1 ≤ 65536 then p else (us p.1 16, p.2 + Int32.ofInt 16)
def tz2 (p : Int32 × Int32) : Int32 × Int32 := if p.1 ≤ 256 then p else (us p.1 8, p.2 + Int32.ofInt 8)
def tz3 (p : Int32 × Int32) : Int32 × Int32 := if p.1 ≤ 16 then p else (us p.1 4, p.2 + Int32.ofInt 4)
def tz4 (p : Int32 × Int32) : Int32 × Int32 := if p.1 ≤ 4 then p else (us p.1 2, p.2 + Int32.ofInt 2)
def tz5 (p : Int32 × Int32) : Int32 := p.2 + us p.1 1
def tzI (x : Int32) : Int32 := if 0 < ((x ^^^ (-1)) &&& (x - 1)) then tz5 (tz4 (tz3 (tz2 (tz1 ((x ^^^ (-1)) &&& (x - 1), 1))))) else (((x ^^^ (-1)) &&& (x - 1)) &&& 32)
theorem tz' : ∀ a, a < 64 → ∀ b, b < 64 → 64 * a + b = 0 ∨ tzI (Int32.ofNat (64 * a + b)) = ob (fsN (64 * a + b).testBit 12) := by decide +kernel
theorem tz_ok {S : Nat} (h : S < 4096) (h0 : S ≠ 0) : tzI (Int32.ofNat S) = ob (fsN S.testBit 12) := by
  rcases d64 (P := fun S => S = 0 ∨ tzI (Int32.ofNat S) = ob (fsN S.testBit 12)) tz' h with z | z
  · exact absurd z h0
  · exact z
theorem ite_p {α : Type} {c : Prop} [Decidable c] {a b : α} {P : α → Prop} (h : P (if c then a else b)) : if c then P a else P b := by
  by_cases z : c
  · rw [if_pos z] at h ⊢; exact h
  · rw [if_neg z] at h ⊢; exact h
theorem ntz_ok {G : GX} {d f S : Nat} {sw : Bool} {I : St} {Q : Option Value → Hp → Prop} (h : S < 4096) (h0 : S ≠ 0) (q : Q (some (.int (ob (fsN S.testBit 12)))) (147, f, I, RP f sw)) : wp G (d + 10) (mt 105) 0 (en (mt 105) [.int (Int32.ofNat S)]) [] (147, f, I, RP f sw) Q := by
  rw [← tz_ok h h0] at q
  have w5 : ∀ p : Int32 × Int32, Q (some (.int (tz5 p))) (147, f, I, RP f sw) → wp G (d + 10) (mt 105) 48 [some (.int p.1), some (.int p.2)] [] (147, f, I, RP f sw) Q := fun p hp => v_ntz48 oks hp
  have w4 : ∀ p : Int32 × Int32, Q (some (.int (tz5 (tz4 p)))) (147, f, I, RP f sw) → wp G (d + 10) (mt 105) 40 [some (.int p.1), some (.int p.2)] [] (147, f, I, RP f sw) Q := fun p hp => v_ntz40 oks (ite_p (P := fun r : Int32 × Int32 => wp G (d + 10) (mt 105) 48 [some (.int r.1), some (.int r.2)] [] (147, f, I, RP f sw) Q) (a := p) (b := (us p.1 2, p.2 + Int32.ofInt 2)) (w5 _ hp))
  have w3 : ∀ p : Int32 × Int32, Q (some (.int (tz5 (tz4 (tz3 p))))) (147, f, I, RP f sw) → wp G (d + 10) (mt 105) 32 [some (.int p.1), some (.int p.2)] [] (147, f, I, RP f sw) Q := fun p hp => v_ntz32 oks (ite_p (P := fun r : Int32 × Int32 => wp G (d + 10) (mt 105) 40 [some (.int r.1), some (.int r.2)] [] (147, f, I, RP f sw) Q) (a := p) (b := (us p.1 4, p.2 + Int32.ofInt 4)) (w4 _ hp))
  have w2 : ∀ p : Int32 × Int32, Q (some (.int (tz5 (tz4 (tz3 (tz2 p)))))) (147, f, I, RP f sw) → wp G (d + 10) (mt 105) 24 [some (.int p.1), some (.int p.2)] [] (147, f, I, RP f sw) Q := fun p hp => v_ntz24 oks (ite_p (P := fun r : Int32 × Int32 => wp G (d + 10) (mt 105) 32 [some (.int r.1), some (.int r.2)] [] (147, f, I, RP f sw) Q) (a := p) (b := (us p.1 8, p.2 + Int32.ofInt 8)) (w3 _ hp))
  have w1 : ∀ p : Int32 × Int32, Q (some (.int (tz5 (tz4 (tz3 (tz2 (tz1 p))))))) (147, f, I, RP f sw) → wp G (d + 10) (mt 105) 16 [some (.int p.1), some (.int p.2)] [] (147, f, I, RP f sw) Q := fun p hp => v_ntz16 oks (ite_p (P := fun r : Int32 × Int32 => wp G (d + 10) (mt 105) 24 [some (.int r.1), some (.int r.2)] [] (147, f, I, RP f sw) Q) (a := p) (b := (us p.1 16, p.2 + Int32.ofInt 16)) (w2 _ hp))
  unfold tzI at q
  refine v_ntz oks ?_
  refine ite_i (fun z => ?_) (fun z => ?_)
  · rw [if_pos z] at q
    exact w1 (_, 1) q
  · rw [if_neg z] at q
    exact q
theorem cnb_s (P : Nat → Bool) (k : Nat) : cnb P (k + 1) = cnb P k + (if P k = true then 1 else 0) := rfl
theorem cnb_le (P : Nat → Bool) : ∀ n, cnb P n ≤ n
  | 0 => Nat.le_refl _
  | n + 1 => by
    have := cnb_le P n
    rw [cnb_s]
    split <;> omega
theorem cnb_cg {P P' : Nat → Bool} : ∀ n, (∀ i, i < n → P i = P' i) → cnb P n = cnb P' n
  | 0, _ => rfl
  | n + 1, h => by rw [cnb_s, cnb_s, cnb_cg n (fun i hi => h i (by omega)), h n (by omega)]
theorem cnb_or {P A B : Nat → Bool} : ∀ n, (∀ i, i < n → P i = true → A i = true ∨ B i = true) → cnb P n ≤ cnb A n + cnb B n
  | 0, _ => Nat.le_refl _
  | n + 1, h => by
    have ih := cnb_or n (fun i hi => h i (by omega))
    rw [cnb_s, cnb_s, cnb_s]
    by_cases c : P n = true
    · rw [if_pos c]
      rcases h n (by omega) c with z | z
      · rw [if_pos z]; split <;> omega
      · rw [if_pos z]; split <;> omega
    · rw [if_neg c]; split <;> split <;> omega
theorem cnb_mono {P A : Nat → Bool} (n : Nat) (h : ∀ i, i < n → P i = true → A i = true) : cnb P n ≤ cnb A n := by
  have := cnb_or (P := P) (A := A) (B := fun _ => false) n (fun i hi hp => Or.inl (h i hi hp))
  have z : ∀ n, cnb (fun _ => false) n = 0 := fun n => by
    induction n with
    | zero => rfl
    | succ n ih => rw [cnb_s, ih]; rfl
  rw [z] at this
  omega
theorem cnb_one {P A : Nat → Bool} {j : Nat} (hj : P j = false) : ∀ n, (∀ i, i < n → A i = (P i || decide (i = j))) → cnb A n = cnb P n + (if j < n then 1 else 0)
  | 0, _ => rfl
  | n + 1, h => by
    have ih := cnb_one hj n (fun i hi => h i (by omega))
    rw [cnb_s, cnb_s, ih, h n (by omega)]
    by_cases c : n = j
    · subst c
      simp [hj]
    · rw [decide_eq_false c, Bool.or_false]
      by_cases c2 : j < n
      · rw [if_pos c2, if_pos (show j < n + 1 by omega)]; omega
      · rw [if_neg c2, if_neg (show ¬ j < n + 1 by omega)]; omega
theorem fsN_some {P : Nat → Bool} : ∀ {n m : Nat}, fsN P n = some m → m < n ∧ P m = true ∧ ∀ i, i < m → P i = false
  | 0, m, h => by cases h
  | n + 1, m, h => by
    rw [fsN_s] at h
    cases hq : fsN P n with
    | some k =>
      rw [hq] at h
      have e : k = m := Option.some.inj h
      subst e
      have := fsN_some hq
      exact ⟨by omega, this.2⟩
    | none =>
      rw [hq] at h
      simp only at h
      by_cases c : P n = true
      · rw [if_pos c] at h
        have e : n = m := Option.some.inj h
        subst e
        exact ⟨by omega, c, fun i hi => fsN_none hq i hi⟩
      · rw [if_neg c] at h; cases h
where
  fsN_none {P : Nat → Bool} : ∀ {n : Nat}, fsN P n = none → ∀ i, i < n → P i = false
    | 0, _, i, hi => by omega
    | n + 1, h, i, hi => by
      rw [fsN_s] at h
      cases hq : fsN P n with
      | some k => rw [hq] at h; cases h
      | none =>
        rw [hq] at h
        simp only at h
        by_cases c : P n = true
        · rw [if_pos c] at h; cases h
        · by_cases e : i = n
          · rw [e]; rw [Bool.not_eq_true] at c; exact c
          · exact fsN_none hq i (by omega)
theorem fsN_non {P : Nat → Bool} {n : Nat} (h : fsN P n = none) : ∀ i, i < n → P i = false := fsN_some.fsN_none h
