/-! CALLS: blame -/
theorem holdsE_loop {G : GX} {d f : Nat} {sw : Bool} {I : St} {s m : Int32} {n : Nat} {Q : Option Value → Hp → Prop} (hn : n ≤ 40) (h0 : I 57 3 = Int32.ofNat n) (q : Q (some (.int (b2 (dk (I 58) (I 59) (I 60) s m n)))) (147, f, I, RP f sw)) : ∀ (c k : Nat), k + c = n → dk (I 58) (I 59) (I 60) s m k = false → wp G (d + 10) (mt 48) 2 [some (.ref 57), some (.int s), some (.int m), some (.int (Int32.ofNat k))] [] (147, f, I, RP f sw) Q
  | 0, k, h, hd => by
    have e : k = n := by omega
    subst e
    refine v_holdsE2 oks ?_
    rw [h0, if_pos (by rw [tI_le]; omega)]
    rw [hd] at q
    exact q
  | c + 1, k, h, hd => by
    refine v_holdsE2 oks ?_
    rw [h0, if_neg (by rw [tI_le, kI_t (by omega), kI_t (by omega)]; omega), kI_1, kI_c (by omega)]
    have xk : ixB (Int32.ofNat k) 40 = true := kI_x (by omega) (by omega)
    have ih := holdsE_loop (G := G) (d := d) hn h0 q c (k + 1) (by omega)
    have e : dk (I 58) (I 59) (I 60) s m (k + 1) = decide (I 58 k = s ∧ (I 59 k).toInt ≤ m.toInt ∧ m.toInt < (I 60 k).toInt) := by unfold dk; rw [hd]; rfl
    refine ck_of xk ?_
    refine ite_i (fun z => ck_of xk (ite_i (fun z2 => ?_) (fun z2 => ck_of xk (ite_i (fun z3 => ?_) (fun z3 => ?_))))) (fun z => ?_)
    · rw [tI_lt] at z2
      exact ih (by rw [e, decide_eq_false (by omega)])
    · rw [tI_le] at z3
      exact ih (by rw [e, decide_eq_false (by omega)])
    · rw [tI_lt] at z2
      rw [tI_le] at z3
      have e2 : dk (I 58) (I 59) (I 60) s m n = true := dk_mono (k := k + 1) (by rw [e, decide_eq_true ⟨z, by omega, by omega⟩]) n (by omega)
      rw [e2] at q
      exact q
    · exact ih (by rw [e, decide_eq_false (fun y => z y.1)])
theorem holdsE_ok {G : GX} {d f : Nat} {sw : Bool} {I : St} {s m : Int32} {n : Nat} {Q : Option Value → Hp → Prop} (hn : n ≤ 40) (h0 : I 57 3 = Int32.ofNat n) (q : Q (some (.int (b2 (dk (I 58) (I 59) (I 60) s m n)))) (147, f, I, RP f sw)) : wp G (d + 10) (mt 48) 0 (en (mt 48) [.ref 57, .int s, .int m]) [] (147, f, I, RP f sw) Q := by
  refine v_holdsE oks ?_
  exact holdsE_loop hn h0 q n 0 (by omega) rfl
/-- whether one of the first n deeds is it -/
def dnk (I : St) (s a m : Int32) : Nat → Bool
  | 0 => false
  | k + 1 => dnk I s a m k || decide ((I 141 k = s ∧ I 142 k = a) ∧ (I 143 k).toInt ≤ m.toInt ∧ m.toInt < (I 144 k).toInt)
theorem dnk_s (I : St) (s a m : Int32) (k : Nat) : dnk I s a m (k + 1) = (dnk I s a m k || decide ((I 141 k = s ∧ I 142 k = a) ∧ (I 143 k).toInt ≤ m.toInt ∧ m.toInt < (I 144 k).toInt)) := rfl
theorem deed_iff {x y s a : Int32} (hx : 0 ≤ x.toInt ∧ x.toInt ≤ 3) (hy : 0 ≤ y.toInt ∧ y.toInt ≤ 3) (hs : 0 ≤ s.toInt ∧ s.toInt ≤ 3) (ha : 0 ≤ a.toInt ∧ a.toInt ≤ 3) : (x * 4 + y = s * 4 + a) ↔ (x = s ∧ y = a) := by
  have t4 : (4 : Int32).toInt = 4 := by decide
  have e1 : (x * 4).toInt = x.toInt * 4 := by rw [fb_mulI (by rw [t4]; omega) (by rw [t4]; omega), t4]
  have e2 : (s * 4).toInt = s.toInt * 4 := by rw [fb_mulI (by rw [t4]; omega) (by rw [t4]; omega), t4]
  have e3 : (x * 4 + y).toInt = x.toInt * 4 + y.toInt := by rw [fb_addI (by omega) (by omega), e1]
  have e4 : (s * 4 + a).toInt = s.toInt * 4 + a.toInt := by rw [fb_addI (by omega) (by omega), e2]
  rw [tI_eq (x * 4 + y), tI_eq x, tI_eq y, e3, e4]
  omega
theorem dk_dnk {I J : St} {s a m : Int32} (r : RC9 I) (h : ∀ p, p = 58 ∨ p = 59 ∨ p = 60 → J p = I p) (hs : 0 ≤ s.toInt ∧ s.toInt ≤ 3) (ha : 0 ≤ a.toInt ∧ a.toInt ≤ 3) : ∀ n, n ≤ 40 → dk (J 58) (J 59) (J 60) (s * 4 + a) m n = dnk I s a m n
  | 0, _ => rfl
  | n + 1, hn => by
    obtain ⟨-, -, -, r4⟩ := id r
    obtain ⟨q1, q2, q3, q4, q5⟩ := r4 n (by omega)
    have ih := dk_dnk (m := m) r h hs ha n (by omega)
    unfold dk
    rw [dnk_s, ih, h 58 (Or.inl rfl), h 59 (Or.inr (Or.inl rfl)), h 60 (Or.inr (Or.inr rfl)), q1, q4, q5]
    congr 1
    apply decide_eq_decide.mpr
    rw [deed_iff q2 q3 hs ha]
theorem MisDone_loop {G : GX} {d f : Nat} {sw : Bool} {I J : St} {s a m : Int32} {n : Nat} {Q : Option Value → Hp → Prop} (hn : n ≤ 40) (h0 : J 93 72 = Int32.ofNat n) (h : ∀ p, 141 ≤ p → p ≤ 144 → J p = I p) (q : Q (some (.int (b2 (dnk I s a m n)))) (147, f, J, RP f sw)) : ∀ (c k : Nat), k + c = n → wp G (d + 10) (mt 251) 4 [some (.ref 93), some (.int s), some (.int m), some (.int a), some (.int (b2 (dnk I s a m k))), some (.int (Int32.ofNat k))] [] (147, f, J, RP f sw) Q
  | 0, k, hk => by
    have e : k = n := by omega
    subst e
    refine v_MisDone4 oks ?_
    rw [h0, if_pos (by rw [tI_le]; omega)]
    exact ck_of b2_1 q
  | c + 1, k, hk => by
    refine v_MisDone4 oks ?_
    rw [h0, if_neg (by rw [tI_le, kI_t (by omega), kI_t (by omega)]; omega), kI_1, kI_c (by omega), h 141 (by decide) (by decide), h 142 (by decide) (by decide), h 143 (by decide) (by decide), h 144 (by decide) (by decide)]
    have xk : ixB (Int32.ofNat k) 40 = true := kI_x (by omega) (by omega)
    have ih := MisDone_loop (G := G) (d := d) hn h0 h q c (k + 1) (by omega)
    rw [dnk_s] at ih
    cases hd : dnk I s a m k with
    | true =>
      rw [hd, Bool.true_or] at ih
      rw [if_neg (show ¬ b2 true = 0 by decide)]
      exact ih
    | false =>
      rw [hd, Bool.false_or] at ih
      rw [if_pos (show b2 false = 0 from rfl)]
      refine ck_of xk ?_
      refine ite_i (fun z => ck_of xk (ite_i (fun y => ck_of xk (ite_i (fun z2 => ?_) (fun z2 => ck_of xk (ite_i (fun z3 => ?_) (fun z3 => ?_))))) (fun y => ?_))) (fun z => ?_)
      · rw [tI_lt] at z2
        rw [decide_eq_false (by omega)] at ih
        exact ih
      · rw [tI_le] at z3
        rw [decide_eq_false (by omega)] at ih
        exact ih
      · rw [tI_lt] at z2
        rw [tI_le] at z3
        rw [decide_eq_true ⟨⟨z, y⟩, by omega, by omega⟩] at ih
        exact ih
      · rw [decide_eq_false (fun w => y w.1.2)] at ih
        exact ih
      · rw [decide_eq_false (fun w => z w.1.1)] at ih
        exact ih
theorem MisDone_ok {G : GX} {d f : Nat} {sw : Bool} {I J : St} {s a m : Int32} {n : Nat} {Q : Option Value → Hp → Prop} (hn : n ≤ 40) (h0 : J 93 72 = Int32.ofNat n) (h : ∀ p, 141 ≤ p → p ≤ 144 → J p = I p) (q : Q (some (.int (b2 (dnk I s a m n)))) (147, f, J, RP f sw)) : wp G (d + 10) (mt 251) 0 (en (mt 251) [.ref 93, .int s, .int m, .int a]) [] (147, f, J, RP f sw) Q := by
  refine v_MisDone oks ?_
  exact MisDone_loop hn h0 h q n 0 (by omega)
/-- how much was left undone, and the minute, the act and the rule of the first -/
def stB (b : Nat → Int32) (m a r : Int32) : Nat → Int32 := fun k => if k = 0 then b 0 + 1 else if b 0 = 0 then (if k = 1 then m else if k = 2 then a else r) else b k
def blS (I : St) (s m a : Nat) (b : Nat → Int32) : Nat → Int32 := match fsN (rlP I (vw I s m) (Int32.ofNat a)) (I 93 54).toInt.toNat with
  | none => b
  | some r => match dnk I (Int32.ofNat s) (Int32.ofNat a) (Int32.ofNat m) (I 93 72).toInt.toNat with
    | true => b
    | false => stB b (Int32.ofNat m) (Int32.ofNat a) (Int32.ofNat r)
def blA (I : St) (s m : Nat) (b : Nat → Int32) : Nat → (Nat → Int32)
  | 0 => b
  | a + 1 => blS I s m a (blA I s m b a)
theorem blA_s (I : St) (s m : Nat) (b : Nat → Int32) (a : Nat) : blA I s m b (a + 1) = blS I s m a (blA I s m b a) := rfl
def bl0 : Nat → Int32 := fun k => if k = 0 then 0 else -1000000
def blM (I : St) (s : Nat) : Nat → (Nat → Int32)
  | 0 => bl0
  | m + 1 => blA I s m (blM I s m) 4
theorem blM_s (I : St) (s m : Nat) : blM I s (m + 1) = blA I s m (blM I s m) 4 := rfl
theorem blM_0 {I : St} {s : Nat} (h : (I 93 54).toInt.toNat = 0) : ∀ m n, n ≤ m → blM I s m = blM I s n
  | 0, n, hn => by rw [show n = 0 by omega]
  | m + 1, n, hn => by
    rcases Nat.eq_or_lt_of_le hn with e | e
    · rw [e]
    · have z : ∀ a b, blS I s m a b = b := fun a b => by unfold blS; rw [h]; rfl
      rw [blM_s, blA_s, blA_s, blA_s, blA_s, z, z, z, z]
      exact blM_0 h m n (by omega)
theorem lay_ok {G : GX} {d f : Nat} {sw : Bool} {I J : St} {b : Nat → Int32} {m a r : Int32} {Q : Option Value → Hp → Prop} (l : LK I J) (hb : ∀ k, k < 4 → J 64 k = b k) (q : ∀ K, LK I K → K 63 = J 63 → (∀ k, k < 4 → K 64 k = stB b m a r k) → Q none (147, f, K, RP f sw)) : wp G (d + 20) (mt 158) 0 (en (mt 158) [.ref 0, .int m, .int a, .int r]) [] (147, f, J, RP f sw) Q := by
  refine v_lay oks ?_
  have b0 := hb 0 (by decide)
  refine ite_i (fun z => ?_) (fun z => ?_)
  · refine q _ ((((l.up (Or.inr rfl)).up (Or.inr rfl)).up (Or.inr rfl)).up (Or.inr rfl)) (by rw [upI_row (by decide), upI_row (by decide), upI_row (by decide), upI_row (by decide)]) (fun k hk => ?_)
    have z2 : b 0 = 0 := by rw [← b0]; exact z
    have hk4 : k = 0 ∨ k = 1 ∨ k = 2 ∨ k = 3 := by omega
    unfold stB
    rw [if_pos z2]
    rcases hk4 with e | e | e | e
    · rw [e, upI_same, b0]; rfl
    · rw [e, upI_nk (by decide), upI_nk (by decide), upI_nk (by decide), upI_same]; rfl
    · rw [e, upI_nk (by decide), upI_nk (by decide), upI_same]; rfl
    · rw [e, upI_nk (by decide), upI_same]; rfl
  · refine q _ (l.up (Or.inr rfl)) (by rw [upI_row (by decide)]) (fun k hk => ?_)
    have z2 : ¬ b 0 = 0 := by rw [← b0]; exact z
    unfold stB
    rw [if_neg z2]
    by_cases e : k = 0
    · rw [e, upI_same, b0]; rfl
    · rw [if_neg e, upI_nk (by omega)]; exact hb k hk
theorem ob_n1 {r n : Nat} (h : n ≤ 1000) (hr : r < n) : ¬ ob (some r) = -1000000 := ob_ne (by omega)
theorem reck_inA {G : GX} {d f : Nat} {I : St} {s m : Nat} {b : Nat → Int32} {Q : Option Value → Hp → Prop} (r9 : RC9 I) (r7 : BK 65 I) (s4 : s < 4) (hm : m < 240) (q : ∀ J, LK I J → (∀ k, k < 4 → J 64 k = blA I s m b 4 k) → wp G (d + 140) (mt 157) 11 [some (.ref 0), some (.int (Int32.ofNat s)), some (.int (Int32.ofNat (m + 1))), none, none] [] (147, f, J, RP f false) Q) : ∀ (c a : Nat) (J : St), a + c = 4 → LK I J → (∀ k, k < 5 → J 63 k = vw I s m k) → (∀ k, k < 4 → J 64 k = blA I s m b a k) → wp G (d + 140) (mt 157) 24 [some (.ref 0), some (.int (Int32.ofNat s)), some (.int (Int32.ofNat m)), some (.int (Int32.ofNat a)), none] [] (147, f, J, RP f false) Q
  | 0, a, J, h, l, hV, hB => by
    have e : a = 4 := by omega
    subst e
    refine v_reckon24A oks ?_
    rw [if_pos (by decide), kI_1]
    exact q J l hB
  | c + 1, a, J, h, l, hV, hB => by
    have ih := fun (K : St) => reck_inA (G := G) (d := d) r9 r7 s4 hm q c (a + 1) K (by omega)
    rw [blA_s] at ih
    obtain ⟨n1, n2, n3, -⟩ := id r9
    have rE : rlP J (vw I s m) (Int32.ofNat a) = rlP I (vw I s m) (Int32.ofNat a) := rlP_ro (fun p h1 h2 => l.r93 (by omega)) _ _
    have j93 : J 93 = I 93 := l.r93 (by decide)
    have b10 := r7.2.2.1
    refine v_reckon24A oks ?_
    rw [if_neg (by rw [tI_le, kI_t (by omega)]; simp only [Int32.reduceToInt]; omega), kI_1]
    refine firstOwed_okA (V := vw I s m) (BK.lk (by decide) l r7) hV ⟨_, _, rfl, rfl, ?_⟩
    rw [rE, j93]
    unfold blS at ih
    cases hf : fsN (rlP I (vw I s m) (Int32.ofNat a)) (I 93 54).toInt.toNat with
    | none =>
      rw [hf] at ih
      rw [if_pos (show ob none = -1000000 from rfl)]
      exact ih J l hV hB
    | some r =>
      have hr := fsN_lt hf
      rw [hf] at ih
      simp only at ih
      rw [if_neg (ob_n1 (n := (I 93 54).toInt.toNat) (by omega) hr)]
      refine holdsE_ok (n := (I 93 72).toInt.toNat) (by omega) (by rw [l.1 57 (by decide) (by decide) (by decide), n1]; exact kI_of n2) ⟨_, _, rfl, rfl, ?_⟩
      rw [dk_dnk (I := I) (s := Int32.ofNat s) (a := Int32.ofNat a) r9 (fun p hp => l.1 p (by omega) (by omega) (by omega)) (by rw [kI_t (by omega)]; omega) (by rw [kI_t (by omega)]; omega) _ (by omega)]
      cases hd : dnk I (Int32.ofNat s) (Int32.ofNat a) (Int32.ofNat m) (I 93 72).toInt.toNat with
      | true =>
        rw [hd] at ih
        rw [if_neg (show ¬ b2 true = 0 by decide)]
        exact ih J l hV hB
      | false =>
        rw [hd] at ih
        simp only at ih
        rw [if_pos (show b2 false = 0 from rfl)]
        refine lay_ok l hB (fun K lK hK hB2 => ⟨_, rfl, rfl, ?_⟩)
        exact ih K lK (fun k hk => by rw [hK]; exact hV k hk) hB2
theorem reck_loopA {G : GX} {d f : Nat} {I : St} {s : Nat} {Q : Option Value → Hp → Prop} (r3 : RC3 I) (r4 : RC4 I) (r9 : RC9 I) (r7 : BK 65 I) (hs : s < (I 93 7).toInt.toNat) (q : ∀ J, LK I J → (∀ k, k < 4 → J 64 k = blM I s 240 k) → Q none (147, f, J, RP f false)) : ∀ (c m : Nat) (J : St), m + c = 240 → LK I J → (∀ k, k < 4 → J 64 k = blM I s m k) → wp G (d + 140) (mt 157) 11 [some (.ref 0), some (.int (Int32.ofNat s)), some (.int (Int32.ofNat m)), none, none] [] (147, f, J, RP f false) Q
  | 0, m, J, h, l, hB => by
    have e : m = 240 := by omega
    subst e
    refine v_reckon11A oks ?_
    rw [if_pos (by decide)]
    exact q J l hB
  | c + 1, m, J, h, l, hB => by
    have ih := fun (K : St) => reck_loopA (G := G) (d := d) r3 r4 r9 r7 hs q c (m + 1) K (by omega)
    have s4 : s < 4 := by have := r3.1; omega
    have j0 : J 65 0 = I 93 54 := by rw [l.r93 (p := 65) (by decide)]; exact r7.1
    have j93 : J 93 = I 93 := l.r93 (by decide)
    refine v_reckon11A oks ?_
    rw [if_neg (by rw [tI_le, kI_t (by omega)]; simp only [Int32.reduceToInt]; omega), j0]
    refine ite_i (fun z => ?_) (fun z => ?_)
    · rw [tI_le] at z
      simp only [Int32.reduceToInt] at z
      refine q J l (fun k hk => ?_)
      rw [hB k hk, blM_0 (by omega) 240 m (by omega)]
    · refine lookOut_ok l.2.2.1 (l.r4 r4) l.2.2.2 (by rw [j93]; exact hs) (by omega) (fun K lK u64 hV => ⟨_, rfl, rfl, ?_⟩)
      have lT := l.tr lK
      refine reck_inA (b := blM I s m) r9 r7 s4 (by omega) (fun X lX hX => ?_) 4 0 K (by omega) lT (fun k hk => by rw [hV k hk, l.vwe]) (fun k hk => by rw [u64]; exact hB k hk)
      exact ih X lX hX
theorem reck_okA {G : GX} {d f : Nat} {I : St} {s : Nat} {Q : Option Value → Hp → Prop} (r3 : RC3 I) (r4 : RC4 I) (r5 : RC5 I) (r9 : RC9 I) (r7 : BK 65 I) (hs : s < (I 93 7).toInt.toNat) (q : ∀ J, LK I J → (∀ k, k < 4 → J 64 k = blM I s 240 k) → Q none (147, f, J, RP f false)) : wp G (d + 140) (mt 157) 0 (en (mt 157) [.ref 0, .int (Int32.ofNat s)]) [] (147, f, I, RP f false) Q := by
  refine v_reckonA oks ?_
  refine fill_ok (by decide) (show SH 64 = (20, 4) from rfl) (by decide) ⟨_, rfl, rfl, ?_⟩
  refine reck_loopA r3 r4 r9 r7 hs q 240 0 _ (by omega) (((LK.rf r3 r5).fill).up (Or.inr rfl)) (fun k hk => ?_)
  show _ = bl0 k
  unfold bl0
  by_cases e : k = 0
  · rw [e, upI_same]; rfl
  · rw [if_neg e, upI_nk (by omega), fillI_at hk]
theorem reck_inB {G : GX} {d f : Nat} {I : St} {s m : Nat} {b : Nat → Int32} {Q : Option Value → Hp → Prop} (r9 : RC9 I) (r7 : BK 71 I) (s4 : s < 4) (hm : m < 240) (q : ∀ J, LK I J → (∀ k, k < 4 → J 64 k = blA I s m b 4 k) → wp G (d + 140) (mt 157) 11 [some (.ref 0), some (.int (Int32.ofNat s)), some (.int (Int32.ofNat (m + 1))), none, none] [] (147, f, J, RP f true) Q) : ∀ (c a : Nat) (J : St), a + c = 4 → LK I J → (∀ k, k < 5 → J 63 k = vw I s m k) → (∀ k, k < 4 → J 64 k = blA I s m b a k) → wp G (d + 140) (mt 157) 24 [some (.ref 0), some (.int (Int32.ofNat s)), some (.int (Int32.ofNat m)), some (.int (Int32.ofNat a)), none] [] (147, f, J, RP f true) Q
  | 0, a, J, h, l, hV, hB => by
    have e : a = 4 := by omega
    subst e
    refine v_reckon24B oks ?_
    rw [if_pos (by decide), kI_1]
    exact q J l hB
  | c + 1, a, J, h, l, hV, hB => by
    have ih := fun (K : St) => reck_inB (G := G) (d := d) r9 r7 s4 hm q c (a + 1) K (by omega)
    rw [blA_s] at ih
    obtain ⟨n1, n2, n3, -⟩ := id r9
    have rE : rlP J (vw I s m) (Int32.ofNat a) = rlP I (vw I s m) (Int32.ofNat a) := rlP_ro (fun p h1 h2 => l.r93 (by omega)) _ _
    have j93 : J 93 = I 93 := l.r93 (by decide)
    have b10 := r7.2.2.1
    refine v_reckon24B oks ?_
    rw [if_neg (by rw [tI_le, kI_t (by omega)]; simp only [Int32.reduceToInt]; omega), kI_1]
    refine firstOwed_okB (V := vw I s m) (BK.lk (by decide) l r7) hV ⟨_, _, rfl, rfl, ?_⟩
    rw [rE, j93]
    unfold blS at ih
    cases hf : fsN (rlP I (vw I s m) (Int32.ofNat a)) (I 93 54).toInt.toNat with
    | none =>
      rw [hf] at ih
      rw [if_pos (show ob none = -1000000 from rfl)]
      exact ih J l hV hB
    | some r =>
      have hr := fsN_lt hf
      rw [hf] at ih
      simp only at ih
      rw [if_neg (ob_n1 (n := (I 93 54).toInt.toNat) (by omega) hr)]
      refine holdsE_ok (n := (I 93 72).toInt.toNat) (by omega) (by rw [l.1 57 (by decide) (by decide) (by decide), n1]; exact kI_of n2) ⟨_, _, rfl, rfl, ?_⟩
      rw [dk_dnk (I := I) (s := Int32.ofNat s) (a := Int32.ofNat a) r9 (fun p hp => l.1 p (by omega) (by omega) (by omega)) (by rw [kI_t (by omega)]; omega) (by rw [kI_t (by omega)]; omega) _ (by omega)]
      cases hd : dnk I (Int32.ofNat s) (Int32.ofNat a) (Int32.ofNat m) (I 93 72).toInt.toNat with
      | true =>
        rw [hd] at ih
        rw [if_neg (show ¬ b2 true = 0 by decide)]
        exact ih J l hV hB
      | false =>
        rw [hd] at ih
        simp only at ih
        rw [if_pos (show b2 false = 0 from rfl)]
        refine lay_ok l hB (fun K lK hK hB2 => ⟨_, rfl, rfl, ?_⟩)
        exact ih K lK (fun k hk => by rw [hK]; exact hV k hk) hB2
theorem reck_loopB {G : GX} {d f : Nat} {I : St} {s : Nat} {Q : Option Value → Hp → Prop} (r3 : RC3 I) (r4 : RC4 I) (r9 : RC9 I) (r7 : BK 71 I) (hs : s < (I 93 7).toInt.toNat) (q : ∀ J, LK I J → (∀ k, k < 4 → J 64 k = blM I s 240 k) → Q none (147, f, J, RP f true)) : ∀ (c m : Nat) (J : St), m + c = 240 → LK I J → (∀ k, k < 4 → J 64 k = blM I s m k) → wp G (d + 140) (mt 157) 11 [some (.ref 0), some (.int (Int32.ofNat s)), some (.int (Int32.ofNat m)), none, none] [] (147, f, J, RP f true) Q
  | 0, m, J, h, l, hB => by
    have e : m = 240 := by omega
    subst e
    refine v_reckon11B oks ?_
    rw [if_pos (by decide)]
    exact q J l hB
  | c + 1, m, J, h, l, hB => by
    have ih := fun (K : St) => reck_loopB (G := G) (d := d) r3 r4 r9 r7 hs q c (m + 1) K (by omega)
    have s4 : s < 4 := by have := r3.1; omega
    have j0 : J 71 0 = I 93 54 := by rw [l.r93 (p := 71) (by decide)]; exact r7.1
    have j93 : J 93 = I 93 := l.r93 (by decide)
    refine v_reckon11B oks ?_
    rw [if_neg (by rw [tI_le, kI_t (by omega)]; simp only [Int32.reduceToInt]; omega), j0]
    refine ite_i (fun z => ?_) (fun z => ?_)
    · rw [tI_le] at z
      simp only [Int32.reduceToInt] at z
      refine q J l (fun k hk => ?_)
      rw [hB k hk, blM_0 (by omega) 240 m (by omega)]
    · refine lookOut_ok l.2.2.1 (l.r4 r4) l.2.2.2 (by rw [j93]; exact hs) (by omega) (fun K lK u64 hV => ⟨_, rfl, rfl, ?_⟩)
      have lT := l.tr lK
      refine reck_inB (b := blM I s m) r9 r7 s4 (by omega) (fun X lX hX => ?_) 4 0 K (by omega) lT (fun k hk => by rw [hV k hk, l.vwe]) (fun k hk => by rw [u64]; exact hB k hk)
      exact ih X lX hX
theorem reck_okB {G : GX} {d f : Nat} {I : St} {s : Nat} {Q : Option Value → Hp → Prop} (r3 : RC3 I) (r4 : RC4 I) (r5 : RC5 I) (r9 : RC9 I) (r7 : BK 71 I) (hs : s < (I 93 7).toInt.toNat) (q : ∀ J, LK I J → (∀ k, k < 4 → J 64 k = blM I s 240 k) → Q none (147, f, J, RP f true)) : wp G (d + 140) (mt 157) 0 (en (mt 157) [.ref 0, .int (Int32.ofNat s)]) [] (147, f, I, RP f true) Q := by
  refine v_reckonB oks ?_
  refine fill_ok (by decide) (show SH 64 = (20, 4) from rfl) (by decide) ⟨_, rfl, rfl, ?_⟩
  refine reck_loopB r3 r4 r9 r7 hs q 240 0 _ (by omega) (((LK.rf r3 r5).fill).up (Or.inr rfl)) (fun k hk => ?_)
  show _ = bl0 k
  unfold bl0
  by_cases e : k = 0
  · rw [e, upI_same]; rfl
  · rw [if_neg e, upI_nk (by omega), fillI_at hk]
def pk (b : Nat → Int32) (w : Int32) : Int32 := if w = 0 then b 0 else if w = 1 then b 1 else if w = 2 then b 2 else b 3
theorem pk_at {b : Nat → Int32} {w : Int32} (h0 : 0 ≤ w.toInt) (h3 : w.toInt ≤ 3) : b w.toNatClampNeg = pk b w := by
  have e : w = 0 ∨ w = 1 ∨ w = 2 ∨ w = 3 := by
    rw [tI_eq, tI_eq, tI_eq, tI_eq]; simp only [Int32.reduceToInt]; omega
  rcases e with e | e | e | e <;> (rw [e]; rfl)
def bLv (s : Nat) (w : Int32) (b : Nat → Int32) (m : Nat) : List (Option Value) := [some (.ref 93), some (.int (Int32.ofNat s)), some (.int w), some (.int (b 0)), some (.int (b 1)), some (.int (b 2)), some (.int (b 3)), some (.int (Int32.ofNat m))]
theorem Mbl_in {G : GX} {d f : Nat} {sw : Bool} {I : St} {s m : Nat} {w : Int32} {b : Nat → Int32} {Q : Option Value → Hp → Prop} (r9 : RC9 I) (bm : BM I) (s4 : s < 4) (hm : m < 240) (q : ∀ J, ML I J → wp G (d + 130) (mt 250) 31 (bLv s w (blA I s m b 4) (m + 1) ++ [none, none]) [] (147, f, J, RP f sw) Q) : ∀ (c a : Nat) (J : St), a + c = 4 → ML I J → (∀ k, k < 5 → J 145 k = vw I s m k) → wp G (d + 130) (mt 250) 40 (bLv s w (blA I s m b a) m ++ [some (.int (Int32.ofNat a)), none]) [] (147, f, J, RP f sw) Q
  | 0, a, J, h, l, hV => by
    have e : a = 4 := by omega
    subst e
    refine v_Mblame40 oks ?_
    rw [if_pos (by decide), kI_1]
    exact q J l
  | c + 1, a, J, h, l, hV => by
    have ih := fun (K : St) => Mbl_in (G := G) (d := d) (f := f) (sw := sw) r9 bm s4 hm q c (a + 1) K (by omega)
    rw [blA_s] at ih
    obtain ⟨n1, n2, n3, -⟩ := id r9
    have lr : ∀ p, 120 ≤ p → p ≤ 144 → J p = I p := fun p h1 h2 => l.1 p (by omega) (by omega) (by omega) (by omega)
    have j93 : J 93 = I 93 := l.1 93 (by decide) (by decide) (by decide) (by decide)
    have rE : rlP J (vw I s m) (Int32.ofNat a) = rlP I (vw I s m) (Int32.ofNat a) := rlP_ro (fun p h1 h2 => lr p (by omega) (by omega)) _ _
    refine v_Mblame40 oks ?_
    rw [if_neg (by rw [tI_le, kI_t (by omega)]; simp only [Int32.reduceToInt]; omega), kI_1]
    refine Mrule_ok (V := vw I s m) (bm.ro (fun p h1 h2 => lr p (by omega) (by omega)) (by rw [j93])) hV ⟨_, _, rfl, rfl, ?_⟩
    rw [rE, j93]
    unfold blS at ih
    cases hf : fsN (rlP I (vw I s m) (Int32.ofNat a)) (I 93 54).toInt.toNat with
    | none =>
      rw [hf] at ih
      rw [if_pos (show ob none = -1000000 from rfl)]
      exact ih J l hV
    | some r =>
      have hr := fsN_lt hf
      have b10 := bm.2.1
      rw [hf] at ih
      simp only at ih
      rw [if_neg (ob_n1 (n := (I 93 54).toInt.toNat) (by omega) hr)]
      refine MisDone_ok (I := I) (n := (I 93 72).toInt.toNat) (by omega) (by rw [j93]; exact kI_of n2) (fun p h1 h2 => lr p (by omega) h2) ⟨_, _, rfl, rfl, ?_⟩
      cases hd : dnk I (Int32.ofNat s) (Int32.ofNat a) (Int32.ofNat m) (I 93 72).toInt.toNat with
      | true =>
        rw [hd] at ih
        rw [if_neg (show ¬ b2 true = 0 by decide)]
        exact ih J l hV
      | false =>
        rw [hd] at ih
        simp only at ih
        rw [if_pos (show b2 false = 0 from rfl)]
        refine ite_i (fun z => ?_) (fun z => ?_)
        · have i2 := ih J l hV
          unfold bLv stB at i2
          simp only [if_pos z] at i2
          exact i2
        · have i2 := ih J l hV
          unfold bLv stB at i2
          simp only [if_neg z] at i2
          exact i2
theorem Mbl_loop {G : GX} {d f : Nat} {sw : Bool} {I : St} {s : Nat} {w : Int32} {Q : Option Value → Hp → Prop} (r3 : RC3 I) (r4 : RC4 I) (r9 : RC9 I) (bm : BM I) (hs : s < (I 93 7).toInt.toNat) (q : ∀ J, ML I J → Q (some (.int (pk (blM I s 240) w))) (147, f, J, RP f sw)) : ∀ (c m : Nat) (J : St), m + c = 240 → ML I J → wp G (d + 130) (mt 250) 31 (bLv s w (blM I s m) m ++ [none, none]) [] (147, f, J, RP f sw) Q
  | 0, m, J, h, l => by
    have e : m = 240 := by omega
    subst e
    have q := q J l
    refine v_Mblame31 oks ?_
    rw [if_pos (by decide)]
    unfold pk at q
    refine ite_i (fun z => ?_) (fun z => ite_i (fun z2 => ?_) (fun z2 => ite_i (fun z3 => ?_) (fun z3 => ?_)))
    · rw [if_pos z] at q; exact q
    · rw [if_neg z, if_pos z2] at q; exact q
    · rw [if_neg z, if_neg z2, if_pos z3] at q; exact q
    · rw [if_neg z, if_neg z2, if_neg z3] at q; exact q
  | c + 1, m, J, h, l => by
    have ih := fun (K : St) => Mbl_loop (G := G) (d := d) r3 r4 r9 bm hs q c (m + 1) K (by omega)
    have s4 : s < 4 := by have := r3.1; omega
    refine v_Mblame31 oks ?_
    rw [if_neg (by rw [tI_le, kI_t (by omega)]; simp only [Int32.reduceToInt]; omega)]
    refine Mlook_ok (s := s) (m := m) r3 r4 l hs (by omega) (fun K lK hK => ⟨_, rfl, rfl, ?_⟩)
    exact Mbl_in (b := blM I s m) r9 bm s4 (by omega) (fun X lX => ih X lX) 4 0 K (by omega) lK hK
theorem co_blame {G : GX} (s w : Int32) : CO (Rel G) G 156 250 [.int s, .int w] := fun f sw I hR => by
  have r3 := hR.2.2.2.1
  have r4 := hR.2.2.2.2.1
  have r5 := hR.2.2.2.2.2.1
  have r7 := hR.2.2.2.2.2.2.2.1
  have r9 := hR.2.2.2.2.2.2.2.2.2.1
  obtain ⟨⟨s1, s2, s3⟩, -⟩ := id r3
  have e3 : (I 93 7 - 1).toInt = (I 93 7).toInt - 1 := fb_subI (by simp only [Int32.reduceToInt]; omega) (by simp only [Int32.reduceToInt]; omega)
  refine v_Cblame oks ?_
  rw [s1]
  simp only [tI_lt, tI_le, Int32.reduceToInt, Int32.reduceOfNat, e3]
  repeat' (refine ite_i (fun _ => ?_) (fun _ => ?_))
  all_goals first
    | (exfalso; omega)
    | (refine ⟨_, f, sw, I, (by first | rfl | trivial), rfl, hR.1, v_Mblame oks ?_⟩
       try simp only [lcl, lcg, w64]
       simp only [tI_lt, tI_le, Int32.reduceToInt, Int64.reduceToInt, Int32.reduceOfNat, e3]
       repeat' (refine ite_i (fun _ => ?_) (fun _ => ?_))
       all_goals first
         | (exfalso; omega)
         | exact ⟨_, (by first | rfl | trivial), rfl, hR.free (Ag.rf.up rfl)⟩)
    | skip
  obtain ⟨s0, hs, ts⟩ : ∃ k : Nat, s = Int32.ofNat k ∧ s.toInt = (k : Int) := ⟨s.toInt.toNat, kI_of (by omega), by omega⟩
  subst hs
  have keyM : ∀ J, LK I J → (∀ k, k < 4 → J 64 k = blM I s0 240 k) → ∃ (x : Int32) (f1 : Nat) (sw1 : Bool) (I1 : Nat → Nat → Int32), some (Value.int (J 64 w.toNatClampNeg)) = some (.int x) ∧ ((147, f, J, RP f sw) : Hp) = (147, f1, I1, RP f1 sw1) ∧ RX G I1 ∧ wp G 999 (mt 250) 0 (en (mt 250) [.ref 93, .int (Int32.ofNat s0), .int w]) [] (147, f1, I1, RP f1 sw1) (fun r2 h2 => ∃ I2 : Nat → Nat → Int32, r2 = some (.int x) ∧ h2 = (147, f1, I2, RP f1 sw1) ∧ Rel G f1 sw1 I2) := fun J l hB => by
    refine ⟨_, f, sw, J, rfl, rfl, hR.rx l.2.1 rfl, v_Mblame oks ?_⟩
    rw [show J 93 7 = I 93 7 by rw [l.r93 (p := 93) (by decide)]]
    simp only [lcl, lcg, w64]
    simp only [tI_lt, tI_le, Int32.reduceToInt, Int64.reduceToInt, Int32.reduceOfNat, e3]
    repeat' (refine ite_i (fun _ => ?_) (fun _ => ?_))
    all_goals first
      | (exfalso; omega)
      | skip
    have a0 : Ag [11] J (upI J 93 0 0) := Ag.rf.up (show [11].contains (cmp 93 0) = true from rfl)
    have u3 := l.2.2.1.cg (a0.eqc rfl)
    have u4 := (l.r4 r4).cg (a0.eqc rfl)
    have u5 := l.2.2.2.cg (a0.eqc rfl)
    refine sail_ok u3 (fun J1 w1 => ⟨_, rfl, rfl, ?_⟩)
    have a1 : Ag [11] (upI J 93 0 0) J1 := fun p k hq => by
      by_cases h1 : p = 107
      · subst h1; rw [show cmp 107 k = 11 from rfl] at hq; cases hq
      · by_cases h2 : p = 108
        · subst h2; rw [show cmp 108 k = 11 from rfl] at hq; cases hq
        · rw [w1.1 p h1 h2]
    refine mfill_ok (u5.cg (a1.eqc rfl)) (fun J2 w2 => ⟨_, rfl, rfl, ?_⟩)
    have ml := ML.of w1 w2
    obtain ⟨U, hU⟩ : ∃ U, upI J 93 0 0 = U := ⟨_, rfl⟩
    rw [hU] at u3 u4 ml
    have ur : ∀ p, 65 ≤ p → p ≠ 93 → U p = I p := fun p h1 h2 => by rw [← hU, up93.1 p h2, l.r93 h1]
    have u93 : ∀ k, k ≠ 0 → U 93 k = I 93 k := fun k hk => by rw [← hU, up93.2 k hk, l.r93 (p := 93) (by decide)]
    have u9 : RC9 U := by
      rw [← hU]
      exact (r9.cg (l.2.1.eqc rfl)).cg (a0.eqc rfl)
    have bm : BM U := r7.bm.ro (fun p h1 h2 => ur p (by omega) (by omega)) (u93 54 (by decide))
    have vE : ∀ s m, vw U s m = vw I s m := fun s m => funext fun k => vw_ro (fun p _ _ _ _ h => ur p (by omega) h) u93 s m k
    have dE : ∀ s a m n, dnk U s a m n = dnk I s a m n := fun s a m n => by
      induction n with
      | zero => rfl
      | succ n ih => rw [dnk_s, dnk_s, ih, ur 141 (by decide) (by decide), ur 142 (by decide) (by decide), ur 143 (by decide) (by decide), ur 144 (by decide) (by decide)]
    have sE : ∀ m a b, blS U s0 m a b = blS I s0 m a b := fun m a b => by
      unfold blS
      rw [rlP_ro (I := I) (fun p h1 h2 => ur p (by omega) (by omega)), vE, u93 54 (by decide), dE, u93 72 (by decide)]
    have mE : ∀ m, blM U s0 m = blM I s0 m := fun m => by
      induction m with
      | zero => rfl
      | succ m ih => rw [blM_s, blM_s, blA_s, blA_s, blA_s, blA_s, blA_s, blA_s, blA_s, blA_s, sE, sE, sE, sE, ih]; rfl
    refine Mbl_loop (s := s0) (w := w) u3 u4 u9 bm (by rw [u93 7 (by decide)]; omega) (fun X lX => ⟨X, ?_, rfl, ?_⟩) 240 0 J2 (by omega) ml
    · rw [mE, hB _ (by rw [tnc]; omega), pk_at (b := blM I s0 240) (w := w) (by omega) (by omega)]
    · exact l.rel hR (by rw [hU]; exact lX.ag)
  cases sw with
  | false =>
    refine reck_okA r3 r4 r5 r9 r7 (s := s0) (by omega) (fun J l hB => ⟨_, rfl, rfl, ?_⟩)
    exact ck_of (ixB_i (by omega) (by omega)) (keyM J l hB)
  | true =>
    refine reck_okB r3 r4 r5 r9 r7 (s := s0) (by omega) (fun J l hB => ⟨_, rfl, rfl, ?_⟩)
    exact ck_of (ixB_i (by omega) (by omega)) (keyM J l hB)
