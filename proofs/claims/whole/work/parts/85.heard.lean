/-! THE CLASS'S JUDGE: what was heard, clocks, quarrels -/
def hdB (I : St) (y : Int32) (k : Nat) : Bool := decide ((I 127 k).toInt ≤ y.toInt) && (decide (I 128 k = -1000000) || decide (y.toInt < (I 128 k).toInt))
def hrd (I : St) (y : Int32) : Nat → Nat
  | 0 => 0
  | k + 1 => hrd I y k ||| (if hdB I y k = true then 2 ^ k else 0)
theorem orb {S k i : Nat} {b : Bool} : (S ||| (if b = true then 2 ^ k else 0)).testBit i = (S.testBit i || (b && decide (i = k))) := by
  rw [Nat.testBit_or]
  congr 1
  cases b with
  | true =>
    rw [if_pos rfl, Nat.testBit_two_pow, Bool.true_and]
    apply decide_eq_decide.mpr
    exact ⟨Eq.symm, Eq.symm⟩
  | false => rw [if_neg (by decide), Nat.zero_testBit, Bool.false_and]
theorem hrd_t (I : St) (y : Int32) : ∀ n i, (hrd I y n).testBit i = (decide (i < n) && hdB I y i)
  | 0, i => by rw [decide_eq_false (by omega), Bool.false_and]; exact Nat.zero_testBit i
  | n + 1, i => by
    show (hrd I y n ||| (if hdB I y n = true then 2 ^ n else 0)).testBit i = _
    rw [orb, hrd_t I y n i]
    by_cases c : i = n
    · rw [c, decide_eq_false (show ¬ n < n by omega), decide_eq_true (show n < n + 1 by omega), decide_eq_true rfl, Bool.false_and, Bool.false_or, Bool.and_true, Bool.true_and]
    · rw [decide_eq_false c, Bool.and_false, Bool.or_false]
      congr 1
      apply decide_eq_decide.mpr
      omega
theorem hrd_lt (I : St) (y : Int32) (n : Nat) : hrd I y n < 2 ^ n := Nat.lt_pow_two_of_testBit _ (fun i hi => by
  rw [hrd_t, decide_eq_false (by omega), Bool.false_and])
theorem p2le {f : Nat} (h : f ≤ 12) : 2 ^ f ≤ 4096 := Nat.pow_le_pow_right (by decide : 2 > 0) h
theorem sN_1b {k : Nat} (hk : k < 32) (S : Nat) : Int32.ofNat S ||| ((1 : Int32) <<< (Int32.ofNat k &&& 31)) = Int32.ofNat (S ||| 2 ^ k) := by rw [sN_1 k hk, sN_or]
theorem heardOn_loop {G : GX} {d f : Nat} {sw : Bool} {I : St} {y : Int32} {Q : Option Value → Hp → Prop} (r : RC6 f I) (q : Q (some (.int (Int32.ofNat (hrd I y f)))) (147, f, I, RP f sw)) : ∀ (c k : Nat), k + c = f → wp G (d + 20) (mt 97) 4 [some (.ref 47), some (.int y), some (.int (Int32.ofNat (hrd I y k))), some (.int (Int32.ofNat k))] [] (147, f, I, RP f sw) Q
  | 0, k, h => by
    obtain ⟨r1, r2, -⟩ := id r
    have e : k = f := by omega
    subst e
    refine v_heardOn4 oks ?_
    rw [r2, if_pos (by rw [tI_le]; omega)]
    exact q
  | c + 1, k, h => by
    obtain ⟨r1, r2, r3, r4, -⟩ := id r
    have hk : k < f := by omega
    have q4 := r4 k hk
    have ih := heardOn_loop (G := G) (d := d) r q c (k + 1) (by omega)
    have go : ∀ b : Bool, hdB I y k = b → hrd I y (k + 1) = hrd I y k ||| (if b = true then 2 ^ k else 0) := fun b hb => by rw [← hb]; rfl
    refine v_heardOn4 oks ?_
    rw [r2, if_neg (by rw [tI_le, kI_t (by omega), kI_t (by omega)]; omega), kI_c (by omega), RP_fa hk, kI_1, sN_1b (by omega)]
    refine ck_of (kI_x (by omega) (by omega)) (ck_of (okB_fa hk) (ck_of (okB_fa hk) ?_))
    rw [q4.2.2.1.1, q4.2.2.2.2.2.2.2.2.1]
    have no : hdB I y k = false → wp G (d + 20) (mt 97) 4 [some (.ref 47), some (.int y), some (.int (Int32.ofNat (hrd I y k))), some (.int (Int32.ofNat (k + 1)))] [] (147, f, I, RP f sw) Q := fun hb => by
      rw [go false hb, if_neg (by decide), Nat.or_zero] at ih
      exact ih
    have yes : hdB I y k = true → wp G (d + 20) (mt 97) 4 [some (.ref 47), some (.int y), some (.int (Int32.ofNat (hrd I y k ||| 2 ^ k))), some (.int (Int32.ofNat (k + 1)))] [] (147, f, I, RP f sw) Q := fun hb => by
      rw [go true hb, if_pos rfl] at ih
      exact ih
    refine ite_i (fun z => no ?_) (fun z => ck_of (okB_fa hk) (ck_of (okB_fa hk) (ite_i (fun z2 => yes ?_) (fun z2 => ck_of (okB_fa hk) (ite_i (fun z3 => no ?_) (fun z3 => yes ?_))))))
    · rw [tI_lt] at z
      unfold hdB; rw [decide_eq_false (by omega)]; rfl
    · rw [tI_lt] at z
      unfold hdB; rw [decide_eq_true (by omega), decide_eq_true z2]; rfl
    · rw [tI_lt] at z
      rw [tI_le] at z3
      unfold hdB; rw [decide_eq_false z2, decide_eq_false (show ¬ y.toInt < (I 128 k).toInt by omega)]; exact Bool.and_false _
    · rw [tI_lt] at z
      rw [tI_le] at z3
      unfold hdB; rw [decide_eq_true (show (I 127 k).toInt ≤ y.toInt by omega), decide_eq_true (show y.toInt < (I 128 k).toInt by omega), Bool.or_true]; rfl
theorem heardOn_ok {G : GX} {d f : Nat} {sw : Bool} {I : St} {y : Int32} {Q : Option Value → Hp → Prop} (r : RC6 f I) (q : Q (some (.int (Int32.ofNat (hrd I y f)))) (147, f, I, RP f sw)) : wp G (d + 20) (mt 97) 0 (en (mt 97) [.ref 47, .int y]) [] (147, f, I, RP f sw) Q := by
  refine v_heardOn oks ?_
  exact heardOn_loop r q f 0 (by omega)
/-- a clock by which something was heard -/
def wrB (I : St) (H p : Nat) : Nat → Bool
  | 0 => false
  | k + 1 => wrB I H p k || (H.testBit k && (wdF I k && decide (I 126 k = Int32.ofNat p)))
theorem wrB_s (I : St) (H p k : Nat) : wrB I H p (k + 1) = (wrB I H p k || (H.testBit k && (wdF I k && decide (I 126 k = Int32.ofNat p)))) := rfl
def wrV (b : Bool) : Int32 := match b with
  | true => 3
  | false => 0
/-- what the judge may change -/
def CJ (I J : St) : Prop := (∀ p, p ≠ 47 → p ≠ 49 → p ≠ 50 → p ≠ 51 → p ≠ 53 → p ≠ 54 → J p = I p) ∧ J 47 1 = I 47 1
theorem CJ.fj {I J : St} (h : CJ I J) : FJ I J := ⟨fun k => h.1 _ (by omega) (by omega) (by omega) (by omega) (by omega) (by omega), h.1 52 (by decide) (by decide) (by decide) (by decide) (by decide) (by decide), fun p h1 h2 => h.1 p (by omega) (by omega) (by omega) (by omega) (by omega) (by omega)⟩
theorem gbN {H k : Nat} (hk : k < 32) : ((Int32.ofNat H >>> (Int32.ofNat k &&& 31)) &&& 1) = b2 (H.testBit k) := by
  rw [shb hk, gb_n, decide_eq_true hk, Bool.true_and]
theorem b2_e1 (b : Bool) : (b2 b = 1) = (b = true) := by cases b <;> decide
theorem wrong_loop {G : GX} {d f H : Nat} {sw : Bool} {I J0 : St} {Q : Option Value → Hp → Prop} (r : RC6 f I) (q : ∀ J, (∀ p, p ≠ 51 → J p = J0 p) → (∀ p, p < 3 → J 51 p = wrV (wrB I H p f)) → Q none (147, f, J, RP f sw)) (h0 : CJ I J0) (h5 : J0 47 5 = Int32.ofNat H) : ∀ (c k : Nat) (J : St), k + c = f → (∀ p, p ≠ 51 → J p = J0 p) → (∀ p, p < 3 → J 51 p = wrV (wrB I H p k)) → wp G (d + 20) (mt 100) 6 [some (.ref 47), some (.int (Int32.ofNat k))] [] (147, f, J, RP f sw) Q
  | 0, k, J, h, w, hw => by
    obtain ⟨r1, r2, -⟩ := id r
    have e : k = f := by omega
    subst e
    have j1 : J 47 1 = Int32.ofNat k := by rw [w 47 (by decide), h0.2, r2]
    refine v_wrong6 oks ?_
    rw [j1, if_pos (by rw [tI_le]; omega)]
    exact q J w hw
  | c + 1, k, J, h, w, hw => by
    obtain ⟨r1, r2, r3, r4, -⟩ := id r
    have hk : k < f := by omega
    have q4 := r4 k hk
    have j1 : J 47 1 = Int32.ofNat f := by rw [w 47 (by decide), h0.2, r2]
    have j5 : J 47 5 = Int32.ofNat H := by rw [w 47 (by decide)]; exact h5
    have jf : J (1000 + k) = I (1000 + k) := by rw [w _ (by omega)]; exact h0.fj.1 k
    have ih := fun (J' : St) => wrong_loop (G := G) (d := d) r q h0 h5 c (k + 1) J' (by omega)
    have no : (H.testBit k && wdF I k) = false → wp G (d + 20) (mt 100) 6 [some (.ref 47), some (.int (Int32.ofNat (k + 1)))] [] (147, f, J, RP f sw) Q := fun hb => by
      refine ih J w (fun p hp => ?_)
      rw [wrB_s, ← Bool.and_assoc, hb, Bool.false_and, Bool.or_false]
      exact hw p hp
    have yes : H.testBit k = true → wdF I k = true → wp G (d + 20) (mt 100) 6 [some (.ref 47), some (.int (Int32.ofNat (k + 1)))] [] (147, f, upI J 51 (I 126 k).toNatClampNeg 3, RP f sw) Q := fun h1 h2 => by
      refine ih _ (fun p hp => by rw [upI_row hp]; exact w p hp) (fun p hp => ?_)
      rw [wrB_s, h1, h2, Bool.true_and, Bool.true_and]
      have p1 := q4.2.1.2
      by_cases e : I 126 k = Int32.ofNat p
      · rw [e, kI_c (by omega), upI_same, decide_eq_true rfl, Bool.or_true]; rfl
      · rw [decide_eq_false e, Bool.or_false, upI_nk (fun z => e ?_)]
        · exact hw p hp
        · rw [z.2, tnc]; exact kI_of p1.1
    refine v_wrong6 oks ?_
    rw [j1, if_neg (by rw [tI_le, kI_t (by omega), kI_t (by omega)]; omega), j5, gbN (by omega), kI_1, kI_c (by omega)]
    refine ite_i (fun z => ?_) (fun z => ?_)
    · rw [b2_e1] at z
      refine ck_of (kI_x (by omega) (by omega)) ?_
      rw [RP_fa hk]
      refine ck_of (okB_fa hk) (ck_of (okB_fa hk) ?_)
      rw [jf, q4.1.1]
      have e1 : J (1000 + k) 1 = I 126 k := by rw [jf]; exact q4.2.1.1
      refine ite_i (fun z2 => ?_) (fun z2 => ck_of (okB_fa hk) (ite_i (fun z3 => ?_) (fun z3 => ?_)))
      · refine ck_of (kI_x (by omega) (by omega)) ?_
        show ck (okB (147, f, J, RP f sw) (1000 + k) 3) (ck (ixB (J (1000 + k) 1) 3) (wp G (d + 20) (mt 100) 6 [some (.ref 47), some (.int (Int32.ofNat (k + 1)))] [] (147, f, upI J 51 (J (1000 + k) 1).toNatClampNeg 3, RP f sw) Q))
        rw [e1]
        refine ck_of (okB_fa hk) (ck_of (ixB_i (by have := q4.2.1.2; omega) (by have := q4.2.1.2; omega)) ?_)
        exact yes z (wd_t (Or.inl z2))
      · refine ck_of (kI_x (by omega) (by omega)) ?_
        show ck (okB (147, f, J, RP f sw) (1000 + k) 3) (ck (ixB (J (1000 + k) 1) 3) (wp G (d + 20) (mt 100) 6 [some (.ref 47), some (.int (Int32.ofNat (k + 1)))] [] (147, f, upI J 51 (J (1000 + k) 1).toNatClampNeg 3, RP f sw) Q))
        rw [e1]
        refine ck_of (okB_fa hk) (ck_of (ixB_i (by have := q4.2.1.2; omega) (by have := q4.2.1.2; omega)) ?_)
        exact yes z (wd_t (Or.inr z3))
      · exact no (by rw [wd_f z2 z3, Bool.and_false])
    · rw [b2_e1, Bool.not_eq_true] at z
      exact no (by rw [z, Bool.false_and])
theorem wrong_ok {G : GX} {d f H : Nat} {sw : Bool} {I J0 : St} {Q : Option Value → Hp → Prop} (r : RC6 f I) (h0 : CJ I J0) (h5 : J0 47 5 = Int32.ofNat H) (q : ∀ J, (∀ p, p ≠ 51 → J p = J0 p) → (∀ p, p < 3 → J 51 p = wrV (wrB I H p f)) → Q none (147, f, J, RP f sw)) : wp G (d + 20) (mt 100) 0 (en (mt 100) [.ref 47]) [] (147, f, J0, RP f sw) Q := by
  refine v_wrong oks ?_
  refine fill_ok (by decide) (show SH 51 = (20, 3) from rfl) (by decide) ⟨_, rfl, rfl, ?_⟩
  exact wrong_loop r q h0 h5 f 0 _ (by omega) (fun p hp => fillI_row hp) (fun p hp => by rw [fillI_at hp]; rfl)
/-- with whom of the later ones a fact quarrels -/
def qmN (H : Nat) (q : Nat → Nat → Bool) (a : Nat) : Nat → Nat
  | 0 => 0
  | b + 1 => qmN H q a b ||| (if (decide (a < b) && (H.testBit a && (H.testBit b && q a b))) = true then 2 ^ b else 0)
theorem qmN_t (H : Nat) (q : Nat → Nat → Bool) (a : Nat) : ∀ n i, (qmN H q a n).testBit i = (decide (i < n) && (decide (a < i) && (H.testBit a && (H.testBit i && q a i))))
  | 0, i => by rw [decide_eq_false (by omega), Bool.false_and]; exact Nat.zero_testBit i
  | n + 1, i => by
    show (qmN H q a n ||| (if (decide (a < n) && (H.testBit a && (H.testBit n && q a n))) = true then 2 ^ n else 0)).testBit i = _
    rw [orb, qmN_t H q a n i]
    by_cases c : i = n
    · rw [c, decide_eq_false (show ¬ n < n by omega), decide_eq_true (show n < n + 1 by omega), decide_eq_true rfl, Bool.false_and, Bool.false_or, Bool.and_true, Bool.true_and]
    · rw [decide_eq_false c, Bool.and_false, Bool.or_false]
      congr 1
      apply decide_eq_decide.mpr
      omega
theorem qmN_lt {H f a : Nat} {q : Nat → Nat → Bool} (hf : f ≤ 12) : qmN H q a f < 4096 := lt_bit (fun i hi => by
  rw [qmN_t, Bool.and_eq_true, decide_eq_true_eq] at hi
  omega)
theorem qmN_z {H a : Nat} {q : Nat → Nat → Bool} : ∀ n, n ≤ a + 1 → qmN H q a n = 0
  | 0, _ => rfl
  | n + 1, h => by
    show qmN H q a n ||| (if (decide (a < n) && (H.testBit a && (H.testBit n && q a n))) = true then 2 ^ n else 0) = 0
    rw [qmN_z n (by omega), decide_eq_false (by omega), Bool.false_and, if_neg (by decide)]
    rfl
theorem findQ_in {G : GX} {d f H a : Nat} {sw : Bool} {I J0 : St} {c0 c1 c2 : Int} {Q : Option Value → Hp → Prop} (r : RC6 f I) (hc : Clk c0 c1 c2) (h0 : CJ I J0) (h5 : J0 47 5 = Int32.ofNat H) (k0 : (J0 50 0).toInt = c0) (k1 : (J0 50 1).toInt = c1) (k2 : (J0 50 2).toInt = c2) (ha : a < f) (q : ∀ J, (∀ p, p ≠ 53 → J p = J0 p) → (∀ p, p < 12 → J 53 p = Int32.ofNat (if p < a + 1 then qmN H (qrF I c0 c1 c2) p f else 0)) → wp G (d + 80) (mt 102) 6 [some (.ref 47), some (.int (Int32.ofNat (a + 1))), none] [] (147, f, J, RP f sw) Q) : ∀ (c b : Nat) (J : St), b + c = f → a < b → (∀ p, p ≠ 53 → J p = J0 p) → (∀ p, p < 12 → p ≠ a → J 53 p = Int32.ofNat (if p < a then qmN H (qrF I c0 c1 c2) p f else 0)) → J 53 a = Int32.ofNat (qmN H (qrF I c0 c1 c2) a b) → wp G (d + 80) (mt 102) 14 [some (.ref 47), some (.int (Int32.ofNat a)), some (.int (Int32.ofNat b))] [] (147, f, J, RP f sw) Q
  | c, b, J, h, hab, w, hw, ja => by
    obtain ⟨r1, r2, r3, r4, -⟩ := id r
    have j1 : J 47 1 = Int32.ofNat f := by rw [w 47 (by decide), h0.2, r2]
    have j5 : J 47 5 = Int32.ofNat H := by rw [w 47 (by decide)]; exact h5
    have fj : FJ I J := ⟨fun k => by rw [w _ (by omega)]; exact h0.fj.1 k, by rw [w 52 (by decide)]; exact h0.fj.2.1, fun p h1 h2 => by rw [w p (by omega)]; exact h0.fj.2.2 p h1 h2⟩
    have out : qmN H (qrF I c0 c1 c2) a b = qmN H (qrF I c0 c1 c2) a f → wp G (d + 80) (mt 102) 6 [some (.ref 47), some (.int (Int32.ofNat (a + 1))), none] [] (147, f, J, RP f sw) Q := fun e => q J w (fun p hp => by
      by_cases y : p = a
      · rw [y, if_pos (by omega), ja, e]
      · rw [hw p hp y]
        by_cases y2 : p < a
        · rw [if_pos y2, if_pos (by omega)]
        · rw [if_neg y2, if_neg (by omega)])
    match c, h with
    | 0, h =>
      have e : b = f := by omega
      refine v_findQ14 oks ?_
      rw [j1, if_pos (by rw [tI_le, kI_t (by omega), kI_t (by omega)]; omega), kI_1]
      exact out (by rw [e])
    | c + 1, h =>
      refine v_findQ14 oks ?_
      rw [j1, if_neg (by rw [tI_le, kI_t (by omega), kI_t (by omega)]; omega), j5, gbN (show a < 32 by omega), gbN (show b < 32 by omega), kI_1, kI_1, kI_c (show a < 2147483648 by omega)]
      have ih := fun (J' : St) => findQ_in (G := G) (d := d) r hc h0 h5 k0 k1 k2 ha q c (b + 1) J' (by omega) (by omega)
      have st : ∀ x : Bool, (H.testBit a && (H.testBit b && qrF I c0 c1 c2 a b)) = x → qmN H (qrF I c0 c1 c2) a (b + 1) = qmN H (qrF I c0 c1 c2) a b ||| (if x = true then 2 ^ b else 0) := fun x hx => by
        show qmN H (qrF I c0 c1 c2) a b ||| (if (decide (a < b) && (H.testBit a && (H.testBit b && qrF I c0 c1 c2 a b))) = true then 2 ^ b else 0) = _
        rw [decide_eq_true hab, Bool.true_and, hx]
      have no : (H.testBit a && (H.testBit b && qrF I c0 c1 c2 a b)) = false → wp G (d + 80) (mt 102) 14 [some (.ref 47), some (.int (Int32.ofNat a)), some (.int (Int32.ofNat (b + 1)))] [] (147, f, J, RP f sw) Q := fun hx => by
        refine ih J w hw ?_
        rw [st false hx, if_neg (by decide), Nat.or_zero]
        exact ja
      refine ite_i (fun z => ?_) (fun z => ?_)
      · rw [b2_e1] at z
        refine ite_i (fun z2 => ?_) (fun z2 => ?_)
        · rw [b2_e1] at z2
          refine isQuarrel_ok r fj hc (by rw [w 50 (by decide)]; exact k0) (by rw [w 50 (by decide)]; exact k1) (by rw [w 50 (by decide)]; exact k2) ha (by omega) (by omega) ⟨_, _, rfl, rfl, ?_⟩
          refine ite_i (fun z3 => ?_) (fun z3 => ?_)
          · rw [b2_0] at z3
            exact no (by rw [z3, Bool.and_false, Bool.and_false])
          · rw [b2_0, Bool.not_eq_false] at z3
            refine ck_of (kI_x (by omega) (by omega)) (ck_of (kI_x (by omega) (by omega)) ?_)
            rw [ja, sN_1b (by omega)]
            refine ih _ (fun p hp => by rw [upI_row hp]; exact w p hp) (fun p hp hn => by rw [upI_nk (by omega)]; exact hw p hp hn) ?_
            rw [upI_same, st true (by rw [z, z2, z3]; rfl), if_pos rfl]
        · rw [b2_e1, Bool.not_eq_true] at z2
          exact no (by rw [z2, Bool.false_and, Bool.and_false])
      · rw [b2_e1, Bool.not_eq_true] at z
        refine out ?_
        have zr : ∀ m, qmN H (qrF I c0 c1 c2) a m = 0 := fun m => by
          apply Nat.eq_of_testBit_eq
          intro i
          rw [qmN_t, z, Bool.false_and, Bool.and_false, Bool.and_false, Nat.zero_testBit]
        rw [zr, zr]
theorem findQ_loop {G : GX} {d f H : Nat} {sw : Bool} {I J0 : St} {c0 c1 c2 : Int} {Q : Option Value → Hp → Prop} (r : RC6 f I) (hc : Clk c0 c1 c2) (h0 : CJ I J0) (h5 : J0 47 5 = Int32.ofNat H) (k0 : (J0 50 0).toInt = c0) (k1 : (J0 50 1).toInt = c1) (k2 : (J0 50 2).toInt = c2) (q : ∀ J, (∀ p, p ≠ 53 → J p = J0 p) → (∀ p, p < f → J 53 p = Int32.ofNat (qmN H (qrF I c0 c1 c2) p f)) → Q none (147, f, J, RP f sw)) : ∀ (c a : Nat) (J : St), a + c = f → (∀ p, p ≠ 53 → J p = J0 p) → (∀ p, p < 12 → J 53 p = Int32.ofNat (if p < a then qmN H (qrF I c0 c1 c2) p f else 0)) → wp G (d + 80) (mt 102) 6 [some (.ref 47), some (.int (Int32.ofNat a)), none] [] (147, f, J, RP f sw) Q
  | 0, a, J, h, w, hw => by
    obtain ⟨r1, r2, -⟩ := id r
    have e : a = f := by omega
    subst e
    have j1 : J 47 1 = Int32.ofNat a := by rw [w 47 (by decide), h0.2, r2]
    refine v_findQ6 oks ?_
    rw [j1, if_pos (by rw [tI_le]; omega)]
    exact q J w (fun p hp => by rw [hw p (by omega), if_pos hp])
  | c + 1, a, J, h, w, hw => by
    obtain ⟨r1, r2, -⟩ := id r
    have j1 : J 47 1 = Int32.ofNat f := by rw [w 47 (by decide), h0.2, r2]
    refine v_findQ6 oks ?_
    rw [j1, if_neg (by rw [tI_le, kI_t (by omega), kI_t (by omega)]; omega), l1a]
    refine findQ_in r hc h0 h5 k0 k1 k2 (by omega) (fun J' w' hw' => findQ_loop r hc h0 h5 k0 k1 k2 q c (a + 1) J' (by omega) w' hw') (f - (a + 1)) (a + 1) J (by omega) (by omega) w (fun p hp _ => hw p hp) ?_
    rw [hw a (by omega), if_neg (by omega), qmN_z (a + 1) (by omega)]
theorem findQ_ok {G : GX} {d f H : Nat} {sw : Bool} {I J0 : St} {c0 c1 c2 : Int} {Q : Option Value → Hp → Prop} (r : RC6 f I) (hc : Clk c0 c1 c2) (h0 : CJ I J0) (h5 : J0 47 5 = Int32.ofNat H) (k0 : (J0 50 0).toInt = c0) (k1 : (J0 50 1).toInt = c1) (k2 : (J0 50 2).toInt = c2) (q : ∀ J, (∀ p, p ≠ 53 → J p = J0 p) → (∀ p, p < f → J 53 p = Int32.ofNat (qmN H (qrF I c0 c1 c2) p f)) → Q none (147, f, J, RP f sw)) : wp G (d + 80) (mt 102) 0 (en (mt 102) [.ref 47]) [] (147, f, J0, RP f sw) Q := by
  refine v_findQ oks ?_
  refine fill_ok (by decide) (show SH 53 = (20, 12) from rfl) (by decide) ⟨_, rfl, rfl, ?_⟩
  exact findQ_loop r hc h0 h5 k0 k1 k2 q f 0 _ (by omega) (fun p hp => fillI_row hp) (fun p hp => by rw [fillI_at hp, if_neg (by omega)]; rfl)
