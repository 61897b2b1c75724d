/-! THE RULES over what is seen; CALLS: owes, blame -/
/-- whether test n of rule r holds of what is seen -/
def tsB (I : St) (V : Nat → Int32) (r n : Nat) : Bool := if I 135 (9 * r + 3 * n + 1) = 60 then decide ((V (I 135 (9 * r + 3 * n)).toInt.toNat).toInt < (I 135 (9 * r + 3 * n + 2)).toInt) else if I 135 (9 * r + 3 * n + 1) = 62 then decide ((I 135 (9 * r + 3 * n + 2)).toInt < (V (I 135 (9 * r + 3 * n)).toInt.toNat).toInt) else decide (V (I 135 (9 * r + 3 * n)).toInt.toNat = I 135 (9 * r + 3 * n + 2))
def hld (I : St) (V : Nat → Int32) (r : Nat) : Nat → Bool
  | 0 => true
  | n + 1 => hld I V r n && tsB I V r n
theorem hld_s (I : St) (V : Nat → Int32) (r n : Nat) : hld I V r (n + 1) = (hld I V r n && tsB I V r n) := rfl
def rlP (I : St) (V : Nat → Int32) (c : Int32) (r : Nat) : Bool := decide (I 136 r = c) && hld I V r (I 134 r).toInt.toNat
theorem fsN_s (P : Nat → Bool) (n : Nat) : fsN P (n + 1) = (match fsN P n with
    | some m => some m
    | none => if P n = true then some n else none) := rfl
theorem fsN_mono {P : Nat → Bool} {n m : Nat} (h : fsN P n = some m) : ∀ k, n ≤ k → fsN P k = some m
  | 0, hk => by rw [show n = 0 by omega] at h; exact h
  | k + 1, hk => by
    rcases Nat.eq_or_lt_of_le hk with e | e
    · rw [← e]; exact h
    · rw [fsN_s, fsN_mono h k (by omega)]
theorem fsN_nx {P : Nat → Bool} {n : Nat} (h : fsN P n = none) (hp : P n = false) : fsN P (n + 1) = none := by
  rw [fsN_s, h]; simp only; rw [if_neg (by rw [hp]; decide)]
theorem fsN_hit {P : Nat → Bool} {n : Nat} (h : fsN P n = none) (hp : P n = true) : fsN P (n + 1) = some n := by
  rw [fsN_s, h]; simp only; rw [if_pos hp]
theorem fsN_lt {P : Nat → Bool} {m : Nat} : ∀ {n : Nat}, fsN P n = some m → m < n
  | 0, h => by cases h
  | n + 1, h => by
    rw [fsN_s] at h
    cases hq : fsN P n with
    | some k =>
      rw [hq] at h
      have := fsN_lt hq
      have e : k = m := Option.some.inj h
      omega
    | none =>
      rw [hq] at h
      simp only at h
      by_cases c : P n = true
      · rw [if_pos c] at h
        have e : n = m := Option.some.inj h
        omega
      · rw [if_neg c] at h
        cases h
theorem b2_1 {b : Bool} : (decide (b2 b = 0) || decide (b2 b = 1)) = true := by cases b <;> rfl
theorem tnat {x : Int32} (h0 : 0 ≤ x.toInt) {n : Int} (h1 : x.toInt ≤ n) : x.toNatClampNeg = x.toInt.toNat := rfl
theorem allHold_loopA {G : GX} {d f : Nat} {sw : Bool} {I : St} {V : Nat → Int32} {r : Nat} {Q : Option Value → Hp → Prop} (hb : BK 65 I) (hV : ∀ k, k < 5 → I 63 k = V k) (hr : r < (I 93 54).toInt.toNat) (q : Q (some (.int (b2 (hld I V r (I 134 r).toInt.toNat)))) (147, f, I, RP f sw)) : ∀ (c n : Nat), n + c = (I 134 r).toInt.toNat → wp G (d + 20) (mt 154) 4 [some (.ref 65), some (.int (Int32.ofNat r)), some (.ref 63), some (.int (b2 (hld I V r n))), some (.int (Int32.ofNat n)), none] [] (147, f, I, RP f sw) Q
  | 0, n, h => by
    obtain ⟨b0, b1, b2', b3⟩ := id hb
    obtain ⟨-, ⟨t1, t2, t3⟩, -⟩ := b3 r hr
    have t1 : I 67 r = I 134 r := t1
    have e : n = (I 134 r).toInt.toNat := by omega
    subst e
    refine v_allHold4A oks ?_
    rw [kI_c (by omega), t1, if_pos (by rw [tI_le, kI_t (by omega)]; omega)]
    exact ck_of (kI_x (by omega) (by omega)) (ck_of b2_1 q)
  | c + 1, n, h => by
    obtain ⟨b0, b1, b2', b3⟩ := id hb
    obtain ⟨-, ⟨t1, t2, t3⟩, t4⟩ := b3 r hr
    have t1 : I 67 r = I 134 r := t1
    obtain ⟨⟨s1, s2, s3⟩, s4, s5⟩ := t4 n (by omega)
    have s1 : I 68 (3 * r + n) = I 135 (9 * r + 3 * n) := s1
    have s4 : I 69 (3 * r + n) = 0 ∧ I 135 (9 * r + 3 * n + 1) = 60 ∨ I 69 (3 * r + n) = 1 ∧ I 135 (9 * r + 3 * n + 1) = 62 ∨ I 69 (3 * r + n) = 2 ∧ I 135 (9 * r + 3 * n + 1) = 61 := s4
    have s5 : I 70 (3 * r + n) = I 135 (9 * r + 3 * n + 2) := s5
    have i1 : (Int32.ofNat r * 3 + Int32.ofNat n) = Int32.ofNat (3 * r + n) := by
      rw [show Int32.ofNat r * 3 = Int32.ofNat (3 * r) by rw [Nat.mul_comm, Int32.ofNat_mul]; rfl, ← Int32.ofNat_add]
    have ih := allHold_loopA (G := G) (d := d) hb hV hr q c (n + 1) (by omega)
    rw [hld_s] at ih
    refine v_allHold4A oks ?_
    rw [kI_c (show r < 2147483648 by omega), t1, if_neg (by rw [tI_le, kI_t (by omega)]; omega), kI_1]
    refine ck_of (kI_x (by omega) (by omega)) ?_
    cases hh : hld I V r n with
    | false =>
      rw [hh] at ih
      rw [if_pos (show b2 false = 0 from rfl)]
      exact ih
    | true =>
      rw [hh, Bool.true_and] at ih
      rw [if_neg (show ¬ b2 true = 0 by decide), i1, kI_c (show 3 * r + n < 2147483648 by omega), s1, s5]
      refine ck_of (kI_x (by omega) (by omega)) (ck_of (ixB_i s2 (by omega)) (ck_of (kI_x (by omega) (by omega)) (ck_of (kI_x (by omega) (by omega)) ?_)))
      rw [tnc (I 135 (9 * r + 3 * n)), hV _ (show (I 135 (9 * r + 3 * n)).toInt.toNat < 5 by omega)]
      unfold tsB at ih
      rcases s4 with ⟨e1, e2⟩ | ⟨e1, e2⟩ | ⟨e1, e2⟩
      · rw [e1, if_pos rfl]
        rw [if_pos e2] at ih
        refine ite_i (fun z => ?_) (fun z => ?_)
        · rw [tI_le] at z; rw [decide_eq_false (by omega)] at ih; exact ih
        · rw [tI_le] at z; rw [decide_eq_true (by omega)] at ih; exact ih
      · rw [e1, if_neg (by decide), if_pos rfl]
        rw [e2, if_neg (by decide), if_pos rfl] at ih
        refine ite_i (fun z => ?_) (fun z => ?_)
        · rw [tI_le] at z; rw [decide_eq_false (by omega)] at ih; exact ih
        · rw [tI_le] at z; rw [decide_eq_true (by omega)] at ih; exact ih
      · rw [e1, if_neg (by decide), if_neg (by decide)]
        rw [e2, if_neg (by decide), if_neg (by decide)] at ih
        refine ite_i (fun z => ?_) (fun z => ?_)
        · rw [decide_eq_true z] at ih; exact ih
        · rw [decide_eq_false z] at ih; exact ih
theorem firstOwed_loopA {G : GX} {d f : Nat} {sw : Bool} {I : St} {V : Nat → Int32} {a : Int32} {Q : Option Value → Hp → Prop} (hb : BK 65 I) (hV : ∀ k, k < 5 → I 63 k = V k) (q : Q (some (.int (ob (fsN (rlP I V a) (I 93 54).toInt.toNat)))) (147, f, I, RP f sw)) : ∀ (c n : Nat), n + c = (I 93 54).toInt.toNat → fsN (rlP I V a) n = none → wp G (d + 40) (mt 153) 2 [some (.ref 65), some (.int a), some (.ref 63), some (.int (Int32.ofNat n))] [] (147, f, I, RP f sw) Q
  | 0, n, h, hn => by
    obtain ⟨b0, b1, b2', b3⟩ := id hb
    have b0 : I 65 0 = I 93 54 := b0
    have e : n = (I 93 54).toInt.toNat := by omega
    subst e
    refine v_firstOwed2A oks ?_
    rw [b0, if_pos (by rw [tI_le, kI_t (by omega)]; omega)]
    rw [hn] at q
    exact q
  | c + 1, n, h, hn => by
    obtain ⟨b0, b1, b2', b3⟩ := id hb
    have b0 : I 65 0 = I 93 54 := b0
    obtain ⟨⟨a1, a2, a3⟩, -, -⟩ := b3 n (by omega)
    have a1 : I 66 n = I 136 n := a1
    have ih := firstOwed_loopA (G := G) (d := d) (a := a) hb hV q c (n + 1) (by omega)
    refine v_firstOwed2A oks ?_
    rw [b0, if_neg (by rw [tI_le, kI_t (by omega)]; omega), kI_1, kI_c (by omega), a1]
    refine ck_of (kI_x (by omega) (by omega)) ?_
    refine ite_i (fun z => ?_) (fun z => ?_)
    · refine v_allHoldA oks ?_
      refine allHold_loopA (V := V) hb hV (by omega) ⟨_, _, rfl, rfl, ?_⟩ (I 134 n).toInt.toNat 0 (by omega)
      have e : rlP I V a n = hld I V n (I 134 n).toInt.toNat := by unfold rlP; rw [decide_eq_true z, Bool.true_and]
      cases hh : hld I V n (I 134 n).toInt.toNat with
      | false =>
        rw [if_pos (show b2 false = 0 from rfl)]
        exact ih (fsN_nx hn (by rw [e, hh]))
      | true =>
        rw [if_neg (show ¬ b2 true = 0 by decide)]
        rw [fsN_mono (fsN_hit hn (by rw [e, hh])) _ (show n + 1 ≤ (I 93 54).toInt.toNat by omega)] at q
        exact q
    · exact ih (fsN_nx hn (by unfold rlP; rw [decide_eq_false z]; rfl))
theorem firstOwed_okA {G : GX} {d f : Nat} {sw : Bool} {I : St} {V : Nat → Int32} {a : Int32} {Q : Option Value → Hp → Prop} (hb : BK 65 I) (hV : ∀ k, k < 5 → I 63 k = V k) (q : Q (some (.int (ob (fsN (rlP I V a) (I 93 54).toInt.toNat)))) (147, f, I, RP f sw)) : wp G (d + 40) (mt 153) 0 (en (mt 153) [.ref 65, .int a, .ref 63]) [] (147, f, I, RP f sw) Q := by
  refine v_firstOwedA oks ?_
  exact firstOwed_loopA hb hV q (I 93 54).toInt.toNat 0 (by omega) rfl
theorem allHold_loopB {G : GX} {d f : Nat} {sw : Bool} {I : St} {V : Nat → Int32} {r : Nat} {Q : Option Value → Hp → Prop} (hb : BK 71 I) (hV : ∀ k, k < 5 → I 63 k = V k) (hr : r < (I 93 54).toInt.toNat) (q : Q (some (.int (b2 (hld I V r (I 134 r).toInt.toNat)))) (147, f, I, RP f sw)) : ∀ (c n : Nat), n + c = (I 134 r).toInt.toNat → wp G (d + 20) (mt 154) 4 [some (.ref 71), some (.int (Int32.ofNat r)), some (.ref 63), some (.int (b2 (hld I V r n))), some (.int (Int32.ofNat n)), none] [] (147, f, I, RP f sw) Q
  | 0, n, h => by
    obtain ⟨b0, b1, b2', b3⟩ := id hb
    obtain ⟨-, ⟨t1, t2, t3⟩, -⟩ := b3 r hr
    have t1 : I 73 r = I 134 r := t1
    have e : n = (I 134 r).toInt.toNat := by omega
    subst e
    refine v_allHold4B oks ?_
    rw [kI_c (by omega), t1, if_pos (by rw [tI_le, kI_t (by omega)]; omega)]
    exact ck_of (kI_x (by omega) (by omega)) (ck_of b2_1 q)
  | c + 1, n, h => by
    obtain ⟨b0, b1, b2', b3⟩ := id hb
    obtain ⟨-, ⟨t1, t2, t3⟩, t4⟩ := b3 r hr
    have t1 : I 73 r = I 134 r := t1
    obtain ⟨⟨s1, s2, s3⟩, s4, s5⟩ := t4 n (by omega)
    have s1 : I 74 (3 * r + n) = I 135 (9 * r + 3 * n) := s1
    have s4 : I 75 (3 * r + n) = 0 ∧ I 135 (9 * r + 3 * n + 1) = 60 ∨ I 75 (3 * r + n) = 1 ∧ I 135 (9 * r + 3 * n + 1) = 62 ∨ I 75 (3 * r + n) = 2 ∧ I 135 (9 * r + 3 * n + 1) = 61 := s4
    have s5 : I 76 (3 * r + n) = I 135 (9 * r + 3 * n + 2) := s5
    have i1 : (Int32.ofNat r * 3 + Int32.ofNat n) = Int32.ofNat (3 * r + n) := by
      rw [show Int32.ofNat r * 3 = Int32.ofNat (3 * r) by rw [Nat.mul_comm, Int32.ofNat_mul]; rfl, ← Int32.ofNat_add]
    have ih := allHold_loopB (G := G) (d := d) hb hV hr q c (n + 1) (by omega)
    rw [hld_s] at ih
    refine v_allHold4B oks ?_
    rw [kI_c (show r < 2147483648 by omega), t1, if_neg (by rw [tI_le, kI_t (by omega)]; omega), kI_1]
    refine ck_of (kI_x (by omega) (by omega)) ?_
    cases hh : hld I V r n with
    | false =>
      rw [hh] at ih
      rw [if_pos (show b2 false = 0 from rfl)]
      exact ih
    | true =>
      rw [hh, Bool.true_and] at ih
      rw [if_neg (show ¬ b2 true = 0 by decide), i1, kI_c (show 3 * r + n < 2147483648 by omega), s1, s5]
      refine ck_of (kI_x (by omega) (by omega)) (ck_of (ixB_i s2 (by omega)) (ck_of (kI_x (by omega) (by omega)) (ck_of (kI_x (by omega) (by omega)) ?_)))
      rw [tnc (I 135 (9 * r + 3 * n)), hV _ (show (I 135 (9 * r + 3 * n)).toInt.toNat < 5 by omega)]
      unfold tsB at ih
      rcases s4 with ⟨e1, e2⟩ | ⟨e1, e2⟩ | ⟨e1, e2⟩
      · rw [e1, if_pos rfl]
        rw [if_pos e2] at ih
        refine ite_i (fun z => ?_) (fun z => ?_)
        · rw [tI_le] at z; rw [decide_eq_false (by omega)] at ih; exact ih
        · rw [tI_le] at z; rw [decide_eq_true (by omega)] at ih; exact ih
      · rw [e1, if_neg (by decide), if_pos rfl]
        rw [e2, if_neg (by decide), if_pos rfl] at ih
        refine ite_i (fun z => ?_) (fun z => ?_)
        · rw [tI_le] at z; rw [decide_eq_false (by omega)] at ih; exact ih
        · rw [tI_le] at z; rw [decide_eq_true (by omega)] at ih; exact ih
      · rw [e1, if_neg (by decide), if_neg (by decide)]
        rw [e2, if_neg (by decide), if_neg (by decide)] at ih
        refine ite_i (fun z => ?_) (fun z => ?_)
        · rw [decide_eq_true z] at ih; exact ih
        · rw [decide_eq_false z] at ih; exact ih
theorem firstOwed_loopB {G : GX} {d f : Nat} {sw : Bool} {I : St} {V : Nat → Int32} {a : Int32} {Q : Option Value → Hp → Prop} (hb : BK 71 I) (hV : ∀ k, k < 5 → I 63 k = V k) (q : Q (some (.int (ob (fsN (rlP I V a) (I 93 54).toInt.toNat)))) (147, f, I, RP f sw)) : ∀ (c n : Nat), n + c = (I 93 54).toInt.toNat → fsN (rlP I V a) n = none → wp G (d + 40) (mt 153) 2 [some (.ref 71), some (.int a), some (.ref 63), some (.int (Int32.ofNat n))] [] (147, f, I, RP f sw) Q
  | 0, n, h, hn => by
    obtain ⟨b0, b1, b2', b3⟩ := id hb
    have b0 : I 71 0 = I 93 54 := b0
    have e : n = (I 93 54).toInt.toNat := by omega
    subst e
    refine v_firstOwed2B oks ?_
    rw [b0, if_pos (by rw [tI_le, kI_t (by omega)]; omega)]
    rw [hn] at q
    exact q
  | c + 1, n, h, hn => by
    obtain ⟨b0, b1, b2', b3⟩ := id hb
    have b0 : I 71 0 = I 93 54 := b0
    obtain ⟨⟨a1, a2, a3⟩, -, -⟩ := b3 n (by omega)
    have a1 : I 72 n = I 136 n := a1
    have ih := firstOwed_loopB (G := G) (d := d) (a := a) hb hV q c (n + 1) (by omega)
    refine v_firstOwed2B oks ?_
    rw [b0, if_neg (by rw [tI_le, kI_t (by omega)]; omega), kI_1, kI_c (by omega), a1]
    refine ck_of (kI_x (by omega) (by omega)) ?_
    refine ite_i (fun z => ?_) (fun z => ?_)
    · refine v_allHoldB oks ?_
      refine allHold_loopB (V := V) hb hV (by omega) ⟨_, _, rfl, rfl, ?_⟩ (I 134 n).toInt.toNat 0 (by omega)
      have e : rlP I V a n = hld I V n (I 134 n).toInt.toNat := by unfold rlP; rw [decide_eq_true z, Bool.true_and]
      cases hh : hld I V n (I 134 n).toInt.toNat with
      | false =>
        rw [if_pos (show b2 false = 0 from rfl)]
        exact ih (fsN_nx hn (by rw [e, hh]))
      | true =>
        rw [if_neg (show ¬ b2 true = 0 by decide)]
        rw [fsN_mono (fsN_hit hn (by rw [e, hh])) _ (show n + 1 ≤ (I 93 54).toInt.toNat by omega)] at q
        exact q
    · exact ih (fsN_nx hn (by unfold rlP; rw [decide_eq_false z]; rfl))
theorem firstOwed_okB {G : GX} {d f : Nat} {sw : Bool} {I : St} {V : Nat → Int32} {a : Int32} {Q : Option Value → Hp → Prop} (hb : BK 71 I) (hV : ∀ k, k < 5 → I 63 k = V k) (q : Q (some (.int (ob (fsN (rlP I V a) (I 93 54).toInt.toNat)))) (147, f, I, RP f sw)) : wp G (d + 40) (mt 153) 0 (en (mt 153) [.ref 71, .int a, .ref 63]) [] (147, f, I, RP f sw) Q := by
  refine v_firstOwedB oks ?_
  exact firstOwed_loopB hb hV q (I 93 54).toInt.toNat 0 (by omega) rfl
/-- what the reference's rules must keep -/
def BM (I : St) : Prop := 0 ≤ (I 93 54).toInt ∧ (I 93 54).toInt ≤ 10 ∧ ∀ r, r < (I 93 54).toInt.toNat → (0 ≤ (I 134 r).toInt ∧ (I 134 r).toInt ≤ 3) ∧ ∀ n, n < (I 134 r).toInt.toNat → (0 ≤ (I 135 (9 * r + 3 * n)).toInt ∧ (I 135 (9 * r + 3 * n)).toInt ≤ 4) ∧ (I 135 (9 * r + 3 * n + 1) = 60 ∨ I 135 (9 * r + 3 * n + 1) = 62 ∨ I 135 (9 * r + 3 * n + 1) = 61)
theorem BK.bm {b : Nat} {I : St} (h : BK b I) : BM I := by
  obtain ⟨h0, h1, h2, h3⟩ := h
  refine ⟨h1, h2, fun r hr => ?_⟩
  obtain ⟨-, ⟨-, t2, t3⟩, t4⟩ := h3 r hr
  refine ⟨⟨t2, t3⟩, fun n hn => ?_⟩
  obtain ⟨⟨-, s2, s3⟩, s4, -⟩ := t4 n hn
  refine ⟨⟨s2, s3⟩, ?_⟩
  rcases s4 with e | e | e
  · exact Or.inl e.2
  · exact Or.inr (Or.inl e.2)
  · exact Or.inr (Or.inr e.2)
theorem l3 (k : Nat) : 3 * Int32.ofNat k = Int32.ofNat (3 * k) := by rw [Int32.ofNat_mul]; rfl
theorem l9 (k : Nat) : 9 * Int32.ofNat k = Int32.ofNat (9 * k) := by rw [Int32.ofNat_mul]; rfl
theorem Mrule_in {G : GX} {d f : Nat} {sw : Bool} {I : St} {V : Nat → Int32} {a : Int32} {r : Nat} {Q : Option Value → Hp → Prop} (hb : BM I) (hV : ∀ k, k < 5 → I 145 k = V k) (hr : r < (I 93 54).toInt.toNat) (q0 : rlP I V a r = false → wp G (d + 10) (mt 249) 2 [some (.ref 93), some (.int a), some (.int (Int32.ofNat (r + 1))), none, none, none, none, none] [] (147, f, I, RP f sw) Q) (q1 : rlP I V a r = true → Q (some (.int (Int32.ofNat r))) (147, f, I, RP f sw)) : ∀ (c n : Nat), n + c = (I 134 r).toInt.toNat → wp G (d + 10) (mt 249) 18 [some (.ref 93), some (.int a), some (.int (Int32.ofNat r)), some (.int (b2 (decide (I 136 r = a) && hld I V r n))), some (.int (Int32.ofNat n)), none, none, none] [] (147, f, I, RP f sw) Q
  | 0, n, h => by
    obtain ⟨b1, b2', b3⟩ := id hb
    obtain ⟨⟨t2, t3⟩, -⟩ := b3 r hr
    have e : n = (I 134 r).toInt.toNat := by omega
    subst e
    refine v_MruleFor18 oks ?_
    rw [kI_c (by omega), if_pos (by rw [tI_le, kI_t (by omega)]; omega), kI_1]
    refine ck_of (kI_x (by omega) (by omega)) ?_
    unfold rlP at q0 q1
    cases hh : (decide (I 136 r = a) && hld I V r (I 134 r).toInt.toNat) with
    | false =>
      rw [if_pos (show b2 false = 0 from rfl)]
      exact q0 hh
    | true =>
      rw [if_neg (show ¬ b2 true = 0 by decide)]
      exact q1 hh
  | c + 1, n, h => by
    obtain ⟨b1, b2', b3⟩ := id hb
    obtain ⟨⟨t2, t3⟩, t4⟩ := b3 r hr
    obtain ⟨⟨s2, s3⟩, s4⟩ := t4 n (by omega)
    have i1 : (9 * Int32.ofNat r + 3 * Int32.ofNat n) = Int32.ofNat (9 * r + 3 * n) := by rw [l9, l3, ← Int32.ofNat_add]
    have i2 : Int32.ofNat (9 * r + 3 * n) + 1 = Int32.ofNat (9 * r + 3 * n + 1) := l1a _
    have i3 : Int32.ofNat (9 * r + 3 * n) + 2 = Int32.ofNat (9 * r + 3 * n + 2) := by rw [Int32.ofNat_add (9 * r + 3 * n) 2]; rfl
    have ih := Mrule_in (G := G) (d := d) hb hV hr q0 q1 c (n + 1) (by omega)
    rw [hld_s] at ih
    refine v_MruleFor18 oks ?_
    rw [kI_c (show r < 2147483648 by omega), if_neg (by rw [tI_le, kI_t (by omega)]; omega), kI_1, i1, i2, i3, kI_c (show 9 * r + 3 * n < 2147483648 by omega), kI_c (show 9 * r + 3 * n + 1 < 2147483648 by omega), kI_c (show 9 * r + 3 * n + 2 < 2147483648 by omega)]
    refine ck_of (kI_x (by omega) (by omega)) (ck_of (kI_x (by omega) (by omega)) (ck_of (ixB_i s2 (by omega)) (ck_of (kI_x (by omega) (by omega)) ?_)))
    cases hh : (decide (I 136 r = a) && hld I V r n) with
    | false =>
      rw [← Bool.and_assoc, hh, Bool.false_and] at ih
      rw [if_pos (show b2 false = 0 from rfl)]
      exact ih
    | true =>
      rw [← Bool.and_assoc, hh, Bool.true_and] at ih
      rw [if_neg (show ¬ b2 true = 0 by decide)]
      refine ck_of (kI_x (by omega) (by omega)) ?_
      rw [tnc (I 135 (9 * r + 3 * n)), hV _ (show (I 135 (9 * r + 3 * n)).toInt.toNat < 5 by omega)]
      unfold tsB at ih
      rcases s4 with e2 | e2 | e2
      · rw [if_pos e2]
        rw [if_pos e2] at ih
        refine ite_i (fun z => ?_) (fun z => ?_)
        · rw [tI_le] at z; rw [decide_eq_false (by omega)] at ih; exact ih
        · rw [tI_le] at z; rw [decide_eq_true (by omega)] at ih; exact ih
      · rw [e2, if_neg (by decide)]
        rw [e2, if_neg (by decide), if_pos rfl] at ih
        refine ck_of (kI_x (by omega) (by omega)) ?_
        rw [if_pos rfl]
        refine ite_i (fun z => ?_) (fun z => ?_)
        · rw [tI_le] at z; rw [decide_eq_false (by omega)] at ih; exact ih
        · rw [tI_le] at z; rw [decide_eq_true (by omega)] at ih; exact ih
      · rw [e2, if_neg (by decide)]
        rw [e2, if_neg (by decide), if_neg (by decide)] at ih
        refine ck_of (kI_x (by omega) (by omega)) ?_
        rw [if_neg (by decide)]
        refine ite_i (fun z => ?_) (fun z => ?_)
        · rw [decide_eq_true z] at ih; exact ih
        · rw [decide_eq_false z] at ih; exact ih
theorem Mrule_loop {G : GX} {d f : Nat} {sw : Bool} {I : St} {V : Nat → Int32} {a : Int32} {Q : Option Value → Hp → Prop} (hb : BM I) (hV : ∀ k, k < 5 → I 145 k = V k) (q : Q (some (.int (ob (fsN (rlP I V a) (I 93 54).toInt.toNat)))) (147, f, I, RP f sw)) : ∀ (c n : Nat), n + c = (I 93 54).toInt.toNat → fsN (rlP I V a) n = none → wp G (d + 10) (mt 249) 2 [some (.ref 93), some (.int a), some (.int (Int32.ofNat n)), none, none, none, none, none] [] (147, f, I, RP f sw) Q
  | 0, n, h, hn => by
    obtain ⟨b1, b2', b3⟩ := id hb
    have e : n = (I 93 54).toInt.toNat := by omega
    subst e
    refine v_MruleFor2 oks ?_
    rw [if_pos (by rw [tI_le, kI_t (by omega)]; omega)]
    rw [hn] at q
    exact q
  | c + 1, n, h, hn => by
    obtain ⟨b1, b2', b3⟩ := id hb
    have ih := Mrule_loop (G := G) (d := d) (a := a) hb hV q c (n + 1) (by omega)
    have inn := fun (q0 : rlP I V a n = false → _) (q1 : rlP I V a n = true → _) => Mrule_in (G := G) (d := d) (f := f) (sw := sw) (Q := Q) (V := V) (a := a) hb hV (show n < (I 93 54).toInt.toNat by omega) q0 q1 (I 134 n).toInt.toNat 0 (by omega)
    have inn := inn (fun hp => ih (fsN_nx hn hp)) (fun hp => by
      rw [fsN_mono (fsN_hit hn hp) _ (show n + 1 ≤ (I 93 54).toInt.toNat by omega)] at q
      exact q)
    refine v_MruleFor2 oks ?_
    rw [if_neg (by rw [tI_le, kI_t (by omega)]; omega), kI_c (by omega)]
    refine ck_of (kI_x (by omega) (by omega)) ?_
    refine ite_i (fun z => ?_) (fun z => ?_)
    · rw [decide_eq_true z] at inn
      exact inn
    · rw [decide_eq_false z] at inn
      exact inn
theorem Mrule_ok {G : GX} {d f : Nat} {sw : Bool} {I : St} {V : Nat → Int32} {a : Int32} {Q : Option Value → Hp → Prop} (hb : BM I) (hV : ∀ k, k < 5 → I 145 k = V k) (q : Q (some (.int (ob (fsN (rlP I V a) (I 93 54).toInt.toNat)))) (147, f, I, RP f sw)) : wp G (d + 10) (mt 249) 0 (en (mt 249) [.ref 93, .int a]) [] (147, f, I, RP f sw) Q := by
  refine v_MruleFor oks ?_
  exact Mrule_loop hb hV q (I 93 54).toInt.toNat 0 (by omega) rfl
theorem rlP_ro {I J : St} (h : ∀ p, 134 ≤ p → p ≤ 136 → J p = I p) (V : Nat → Int32) (c : Int32) : rlP J V c = rlP I V c := by
  have e1 := h 134 (by decide) (by decide)
  have e2 := h 135 (by decide) (by decide)
  have e3 := h 136 (by decide) (by decide)
  have hs : ∀ r n, hld J V r n = hld I V r n := fun r n => by
    induction n with
    | zero => rfl
    | succ n ih => rw [hld_s, hld_s, ih]; unfold tsB; rw [e2]
  funext r
  unfold rlP
  rw [e1, e3, hs]
theorem BM.ro {I J : St} (h : ∀ p, 134 ≤ p → p ≤ 136 → J p = I p) (h54 : J 93 54 = I 93 54) (b : BM I) : BM J := by
  unfold BM
  rw [h54, h 134 (by decide) (by decide), h 135 (by decide) (by decide)]
  exact b
theorem BK.lk {b : Nat} {I J : St} (hb : 65 ≤ b) (l : LK I J) (h : BK b I) : BK b J := by
  unfold BK
  rw [l.r93 (p := b) hb, l.r93 (p := b + 1) (by omega), l.r93 (p := b + 2) (by omega), l.r93 (p := b + 3) (by omega), l.r93 (p := b + 4) (by omega), l.r93 (p := b + 5) (by omega), l.r93 (p := 93) (by decide), l.r93 (p := 134) (by decide), l.r93 (p := 135) (by decide), l.r93 (p := 136) (by decide)]
  exact h
/-- the reference's start behind the class, sailed and filled -/
theorem ML.of {I J1 J2 : St} (w : Way I J1) (v : FB J1 9 0 240 J2) : ML I J2 := by
  have e : wlI J1 = wlI I := (skI_ro (fun p a b => w.1 p (by omega) (by omega)) (fun k _ => by rw [w.1 93 (by decide) (by decide)])).1
  refine ⟨fun p h1 h2 h3 h4 => by rw [v.1 p h3, w.1 p h1 h2], fun s hs m hm => ?_, fun m hm h hh => ?_⟩
  · rw [v.1 107 (by decide), v.1 108 (by decide)]
    exact w.2 s hs m hm
  · rw [v.2 m hm h hh, e]
theorem LK.rel {G : GX} {f : Nat} {sw : Bool} {I J K : St} (hR : Rel G f sw I) (l : LK I J) (w : Ag [11] (upI J 93 0 0) K) : Rel G f sw K := by
  have a1 : Ag [11] J K := (Ag.rf.up (show [11].contains (cmp 93 0) = true from rfl)).tr w
  refine hR.upd [3, 5, 11] (l.2.1.tr (a1.mo (fun c hc => ?_))) rfl nof nof (fun _ => l.2.2.1.cg (a1.eqc rfl)) nof (fun _ => l.2.2.2.cg (a1.eqc rfl)) nof nof nof nof nof
  simp only [List.contains_cons, List.contains_nil, Bool.or_eq_false_iff, Bool.or_false] at hc ⊢
  exact hc.2.2
theorem co_owes {G : GX} (s m c : Int32) : CO (Rel G) G 151 247 [.int s, .int m, .int c] := fun f sw I hR => by
  have r3 := hR.2.2.2.1
  have r4 := hR.2.2.2.2.1
  have r5 := hR.2.2.2.2.2.1
  have r7 := hR.2.2.2.2.2.2.2.1
  obtain ⟨⟨s1, s2, s3⟩, -⟩ := id r3
  have e3 : (I 93 7 - 1).toInt = (I 93 7).toInt - 1 := fb_subI (by simp only [Int32.reduceToInt]; omega) (by simp only [Int32.reduceToInt]; omega)
  refine v_Cowes oks ?_
  rw [s1]
  simp only [tI_lt, tI_le, Int32.reduceToInt, Int32.reduceOfNat, e3]
  repeat' (refine ite_i (fun _ => ?_) (fun _ => ?_))
  all_goals first
    | (exfalso; omega)
    | (refine ⟨_, f, sw, I, (by first | rfl | trivial), rfl, hR.1, v_Mowes oks ?_⟩
       try simp only [lcl, lcg, w64]
       simp only [tI_lt, tI_le, Int32.reduceToInt, Int64.reduceToInt, Int32.reduceOfNat, e3]
       repeat' (refine ite_i (fun _ => ?_) (fun _ => ?_))
       all_goals first
         | (exfalso; omega)
         | exact ⟨_, (by first | rfl | trivial), rfl, hR.free (Ag.rf.up rfl)⟩)
    | skip
  obtain ⟨s0, hs, ts⟩ : ∃ k : Nat, s = Int32.ofNat k ∧ s.toInt = (k : Int) := ⟨s.toInt.toNat, kI_of (by omega), by omega⟩
  obtain ⟨m0, hm, tm⟩ : ∃ k : Nat, m = Int32.ofNat k ∧ m.toInt = (k : Int) := ⟨m.toInt.toNat, kI_of (by omega), by omega⟩
  subst hs hm
  refine lookOut_ok r3 r4 r5 (s := s0) (m := m0) (by omega) (by omega) (fun J l _ hV => ⟨_, rfl, rfl, ?_⟩)
  have keyM : ∀ x : Int32, x = ob (fsN (rlP I (vw I s0 m0) c) (I 93 54).toInt.toNat) → wp G 999 (mt 247) 0 (en (mt 247) [.ref 93, .int (Int32.ofNat s0), .int (Int32.ofNat m0), .int c]) [] (147, f, J, RP f sw) (fun r2 h2 => ∃ I2, r2 = some (.int x) ∧ h2 = (147, f, I2, RP f sw) ∧ Rel G f sw I2) := fun x hx => by
    refine v_Mowes oks ?_
    rw [show J 93 7 = I 93 7 by rw [l.r93 (p := 93) (by decide)]]
    simp only [lcl, lcg, w64]
    simp only [tI_lt, tI_le, Int32.reduceToInt, Int64.reduceToInt, Int32.reduceOfNat, e3]
    repeat' (refine ite_i (fun _ => ?_) (fun _ => ?_))
    all_goals first
      | (exfalso; omega)
      | skip
    have a0 : Ag [11] J (upI J 93 0 0) := Ag.rf.up (show [11].contains (cmp 93 0) = true from rfl)
    have u3 := l.2.2.1.cg (a0.eqc rfl)
    have u4 := (l.r4 r4).cg (a0.eqc rfl)
    have u5 := l.2.2.2.cg (a0.eqc rfl)
    refine sail_ok u3 (fun J1 w1 => ⟨_, rfl, rfl, ?_⟩)
    have a1 : Ag [11] (upI J 93 0 0) J1 := fun p k hq => by
      by_cases h1 : p = 107
      · subst h1; rw [show cmp 107 k = 11 from rfl] at hq; cases hq
      · by_cases h2 : p = 108
        · subst h2; rw [show cmp 108 k = 11 from rfl] at hq; cases hq
        · rw [w1.1 p h1 h2]
    refine mfill_ok (u5.cg (a1.eqc rfl)) (fun J2 w2 => ⟨_, rfl, rfl, ?_⟩)
    have ml := ML.of w1 w2
    refine Mlook_ok (s := s0) (m := m0) u3 u4 ml (by rw [up93.2 7 (by decide), l.r93 (p := 93) (by decide)]; omega) (by omega) (fun K lK hK => ⟨_, rfl, rfl, ?_⟩)
    have kr : ∀ p, 120 ≤ p → p ≤ 136 → K p = I p := fun p h1 h2 => by rw [lK.1 p (by omega) (by omega) (by omega) (by omega), up93.1 p (by omega), l.r93 (by omega)]
    have k54 : K 93 54 = I 93 54 := by rw [lK.1 93 (by decide) (by decide) (by decide) (by decide), up93.2 54 (by decide), l.r93 (p := 93) (by decide)]
    have bm : BM K := r7.bm.ro (fun p h1 h2 => kr p (by omega) h2) k54
    refine Mrule_ok (V := vw I s0 m0) bm (fun k hk => ?_) ⟨_, _, rfl, rfl, K, ?_, rfl, l.rel hR lK.ag⟩
    · rw [hK k hk, vw_ro (I := J) (fun p _ _ _ _ h => up93.1 p h) up93.2, l.vwe]
    · rw [rlP_ro (fun p h1 h2 => kr p (by omega) h2), k54, hx]
  have hb := r7
  cases sw with
  | false =>
    show oV (some 65) _
    have bk : BK 65 J := BK.lk (by decide) l r7
    refine ck_of rfl ?_
    refine firstOwed_okA (V := vw I s0 m0) bk hV ⟨_, _, rfl, rfl, ?_⟩
    refine ⟨_, f, false, J, rfl, rfl, hR.rx l.2.1 rfl, keyM _ ?_⟩
    rw [rlP_ro (I := I) (fun p h1 h2 => l.r93 (by omega)), l.r93 (p := 93) (by decide)]
  | true =>
    show oV (some 71) _
    have bk : BK 71 J := BK.lk (by decide) l r7
    refine ck_of rfl ?_
    refine firstOwed_okB (V := vw I s0 m0) bk hV ⟨_, _, rfl, rfl, ?_⟩
    refine ⟨_, f, true, J, rfl, rfl, hR.rx l.2.1 rfl, keyM _ ?_⟩
    rw [rlP_ro (I := I) (fun p h1 h2 => l.r93 (by omega)), l.r93 (p := 93) (by decide)]
