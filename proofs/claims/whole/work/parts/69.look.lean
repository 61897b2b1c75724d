/-! WHAT IS SEEN, and the rules over it -/
/-- what a ship sees in a minute: speed, near, fog, night, water -/
def vw (I : St) (s m k : Nat) : Int32 := if k = 0 then spd I s m else if k = 1 then Int32.ofNat (nrv I s m) else if k = 2 then b2 (dk (I 109) (I 110) (I 111) 0 (Int32.ofNat m) (I 93 19).toInt.toNat) else if k = 3 then b2 (dk (I 109) (I 110) (I 111) 1 (Int32.ofNat m) (I 93 19).toInt.toNat) else if s = 0 then sm6 (wlI I 9 0 m) else 0
/-- the class has looked: the reference's rows and the books are as they were -/
def LK (I J : St) : Prop := (∀ p, 47 ≤ p → p ≠ 63 → p ≠ 64 → J p = I p) ∧ Ag [3, 5, 11] I J ∧ RC3 J ∧ RC5 J
theorem LK.rf {I : St} (r3 : RC3 I) (r5 : RC5 I) : LK I I := ⟨fun _ _ _ _ => rfl, Ag.rf, r3, r5⟩
theorem LK.tr {I J K : St} (a : LK I J) (b : LK J K) : LK I K := ⟨fun p h1 h2 h3 => (b.1 p h1 h2 h3).trans (a.1 p h1 h2 h3), a.2.1.tr b.2.1, b.2.2.1, b.2.2.2⟩
theorem ag3 {I J : St} (h : Ag [3, 11] I J) : Ag [3, 5, 11] I J := h.mo (fun c hc => by
  simp only [List.contains_cons, List.contains_nil, Bool.or_eq_false_iff, Bool.or_false] at hc ⊢
  exact ⟨hc.1, hc.2.2⟩)
theorem ag5 {I J : St} (h : Ag [5, 11] I J) : Ag [3, 5, 11] I J := h.mo (fun c hc => by
  simp only [List.contains_cons, List.contains_nil, Bool.or_eq_false_iff, Bool.or_false] at hc ⊢
  exact hc.2)
theorem LK.wr {I K J : St} (l : LK I K) (w : WR K J) : LK I J := ⟨fun p h1 h2 h3 => (w.1 p (by omega) (by omega)).trans (l.1 p h1 h2 h3), l.2.1.tr (ag3 w.ag), w.2.2.2, l.2.2.2.cg (w.ag.eqc rfl)⟩
theorem LK.vs {I K J : St} (l : LK I K) (w : Vsl K J) : LK I J := ⟨fun p h1 h2 h3 => (w.r93 h1).trans (l.1 p h1 h2 h3), l.2.1.tr (ag5 w.ag), l.2.2.1.cg (w.ag.eqc rfl), w.rc5 l.2.2.2⟩
theorem LK.up {I J : St} {p k : Nat} {x : Int32} (l : LK I J) (hp : p = 63 ∨ p = 64) : LK I (upI J p k x) := by
  have e : cmp p k = 11 := by rcases hp with e | e <;> (rw [e]; rfl)
  have a : Ag [11] J (upI J p k x) := Ag.rf.up (by rw [e]; rfl)
  refine ⟨fun q h1 h2 h3 => ?_, l.2.1.up (by rw [e]; rfl), l.2.2.1.cg (a.eqc rfl), l.2.2.2.cg (a.eqc rfl)⟩
  rw [upI_row (by omega)]
  exact l.1 q h1 h2 h3
theorem LK.fill {I J : St} {n : Nat} {x : Int32} (l : LK I J) : LK I (fillI J 64 n x) := by
  have a : Ag [11] J (fillI J 64 n x) := cmp_fill Ag.rf (fun k => rfl)
  refine ⟨fun q h1 h2 h3 => ?_, l.2.1.tr (a.mo (fun c hc => ?_)), l.2.2.1.cg (a.eqc rfl), l.2.2.2.cg (a.eqc rfl)⟩
  · rw [fillI_row h3]; exact l.1 q h1 h2 h3
  · simp only [List.contains_cons, List.contains_nil, Bool.or_eq_false_iff, Bool.or_false] at hc ⊢
    exact hc.2.2
theorem LK.r93 {I J : St} (l : LK I J) {p : Nat} (h : 65 ≤ p) : J p = I p := l.1 p (by omega) (by omega) (by omega)
theorem LK.r4 {I J : St} (l : LK I J) (r : RC4 I) : RC4 J := r.cg (l.2.1.eqc rfl)
theorem nr_ro {I J : St} (h : ∀ p, 93 ≤ p → p ≤ 118 → p ≠ 107 → p ≠ 108 → p ≠ 93 → J p = I p) (h93 : ∀ k, k ≠ 0 → J 93 k = I 93 k) (s m : Nat) : nrv J s m = nrv I s m ∧ spd J s m = spd I s m := by
  obtain ⟨h1, h2, -, h4, -⟩ := rows_v (I := I) (J := J) (fun p a b => h p (by omega) (by omega) (by omega) (by omega) (by omega)) (h93 10 (by decide))
  refine ⟨?_, h4 s m⟩
  have hd : ∀ k, dq J s k m = dq I s k m := fun k => by
    unfold dq; rw [h1, h1, h2, h2]
  unfold nrv sg
  rw [show (fun k => dq J s k m) = (fun k => dq I s k m) from funext hd, h 109 (by decide) (by decide) (by decide) (by decide) (by decide), h 110 (by decide) (by decide) (by decide) (by decide) (by decide), h 111 (by decide) (by decide) (by decide) (by decide) (by decide), h93 19 (by decide), h93 7 (by decide)]
theorem vw_ro {I J : St} (h : ∀ p, 93 ≤ p → p ≤ 118 → p ≠ 107 → p ≠ 108 → p ≠ 93 → J p = I p) (h93 : ∀ k, k ≠ 0 → J 93 k = I 93 k) (s m k : Nat) : vw J s m k = vw I s m k := by
  unfold vw
  rw [(nr_ro h h93 s m).1, (nr_ro h h93 s m).2, (skI_ro (fun p a b => h p (by omega) (by omega) (by omega) (by omega) (by omega)) h93).1, h 109 (by decide) (by decide) (by decide) (by decide) (by decide), h 110 (by decide) (by decide) (by decide) (by decide) (by decide), h 111 (by decide) (by decide) (by decide) (by decide) (by decide), h93 19 (by decide)]
theorem LK.vwe {I J : St} (l : LK I J) (s m k : Nat) : vw J s m k = vw I s m k := vw_ro (fun p h1 _ _ _ _ => l.r93 (by omega)) (fun k _ => by rw [l.r93 (p := 93) (by decide)]) s m k
theorem LK.nr {I J : St} (l : LK I J) (s m : Nat) : nrv J s m = nrv I s m ∧ spd J s m = spd I s m := nr_ro (fun p h1 _ _ _ _ => l.r93 (by omega)) (fun k _ => by rw [l.r93 (p := 93) (by decide)]) s m
theorem dkC {I : St} (r : RC4 I) (s m : Int32) : dk (I 8) (I 9) (I 10) s m (I 93 19).toInt.toNat = dk (I 109) (I 110) (I 111) s m (I 93 19).toInt.toNat ∧ I 7 3 = Int32.ofNat (I 93 19).toInt.toNat ∧ (I 93 19).toInt.toNat ≤ 10 := by
  obtain ⟨r1, r2, r3, r4⟩ := r
  exact ⟨dk_cg (fun k hk => r4 k (by omega)), by rw [r1]; exact kI_of r2, by omega⟩
theorem lookOut_ok {G : GX} {d f : Nat} {sw : Bool} {I : St} {s m : Nat} {Q : Option Value → Hp → Prop} (r3 : RC3 I) (r4 : RC4 I) (r5 : RC5 I) (hs : s < (I 93 7).toInt.toNat) (hm : m < 240) (q : ∀ J, LK I J → J 64 = I 64 → (∀ k, k < 5 → J 63 k = vw I s m k) → Q none (147, f, J, RP f sw)) : wp G (d + 110) (mt 152) 0 (en (mt 152) [.ref 0, .int (Int32.ofNat s), .int (Int32.ofNat m)]) [] (147, f, I, RP f sw) Q := by
  have s4 : s < 4 := by have := r3.1; omega
  refine v_lookOut oks ?_
  refine atV_ok r3 hs hm (fun J1 w1 => ⟨_, _, rfl, rfl, ?_⟩)
  have l1 : LK I (upI J1 63 0 (spd I s m)) := ((LK.rf r3 r5).wr w1.wr).up (Or.inl rfl)
  have v10 : upI J1 63 0 (spd I s m) 63 0 = spd I s m := upI_same _ _ _ _
  have u1 : upI J1 63 0 (spd I s m) 64 = I 64 := by rw [upI_row (by decide), w1.1 64 (by decide) (by decide)]
  generalize upI J1 63 0 (spd I s m) = K1 at l1 v10 u1 ⊢
  refine v_lookOut9 oks ?_
  refine near_ok l1.2.2.1 (l1.r4 r4) (by rw [l1.r93 (p := 93) (by decide)]; exact hs) (by omega) (fun J2 w2 => ⟨_, _, rfl, rfl, ?_⟩)
  rw [(l1.nr s m).1]
  have l2 : LK I (upI J2 63 1 (Int32.ofNat (nrv I s m))) := (l1.wr w2).up (Or.inl rfl)
  have v20 : upI J2 63 1 (Int32.ofNat (nrv I s m)) 63 0 = spd I s m := by rw [upI_nk (by decide), w2.1 63 (by decide) (by decide)]; exact v10
  have v21 : upI J2 63 1 (Int32.ofNat (nrv I s m)) 63 1 = Int32.ofNat (nrv I s m) := upI_same _ _ _ _
  have u2 : upI J2 63 1 (Int32.ofNat (nrv I s m)) 64 = I 64 := by rw [upI_row (by decide), w2.1 64 (by decide) (by decide), u1]
  generalize upI J2 63 1 (Int32.ofNat (nrv I s m)) = K2 at l2 v20 v21 u2 ⊢
  have dkE : ∀ (K : St), LK I K → ∀ t, dk (K 8) (K 9) (K 10) t (Int32.ofNat m) (K 93 19).toInt.toNat = dk (I 109) (I 110) (I 111) t (Int32.ofNat m) (I 93 19).toInt.toNat := fun K l t => by
    rw [(dkC (l.r4 r4) t (Int32.ofNat m)).1, l.r93 (p := 109) (by decide), l.r93 (p := 110) (by decide), l.r93 (p := 111) (by decide), l.r93 (p := 93) (by decide)]
  refine v_lookOut18 oks ?_
  refine holdsK_ok (dkC (l2.r4 r4) 0 0).2.2 (dkC (l2.r4 r4) 0 0).2.1 ⟨_, _, rfl, rfl, ?_⟩
  rw [dkE K2 l2]
  have go4 : ∀ K4, LK I K4 → K4 64 = I 64 → K4 63 0 = spd I s m → K4 63 1 = Int32.ofNat (nrv I s m) → K4 63 2 = b2 (dk (I 109) (I 110) (I 111) 0 (Int32.ofNat m) (I 93 19).toInt.toNat) → K4 63 3 = b2 (dk (I 109) (I 110) (I 111) 1 (Int32.ofNat m) (I 93 19).toInt.toNat) → wp G (d + 110) (mt 152) 46 [some (.ref 0), some (.int (Int32.ofNat s)), some (.int (Int32.ofNat m))] [] (147, f, K4, RP f sw) Q := fun K4 l4 u4 a0 a1 a2 a3 => by
    have fin : ∀ K5, LK I K5 → K5 64 = I 64 → (∀ k, k < 4 → K5 63 k = K4 63 k) → (K5 63 4 = if s = 0 then sm6 (wlI I 9 0 m) else 0) → Q none (147, f, K5, RP f sw) := fun K5 l5 u5 h4 h5 => q K5 l5 u5 (fun k hk => by
      have hk5 : k = 0 ∨ k = 1 ∨ k = 2 ∨ k = 3 ∨ k = 4 := by omega
      unfold vw
      rcases hk5 with e | e | e | e | e
      · rw [e, h4 0 (by decide), a0]; rfl
      · rw [e, h4 1 (by decide), a1]; rfl
      · rw [e, h4 2 (by decide), a2]; rfl
      · rw [e, h4 3 (by decide), a3]; rfl
      · rw [e, h5]; rfl)
    refine v_lookOut46 oks ?_
    refine ite_i (fun z => ?_) (fun z => ?_)
    · have s0 : s = 0 := by
        have := congrArg Int32.toInt z
        rw [kI_t (by omega)] at this
        simp only [Int32.reduceToInt] at this
        omega
      refine allWater_ok l4.2.2.2 (by omega) (fun J5 w5 => ⟨_, _, rfl, rfl, ?_⟩)
      have ew : wlI K4 9 0 m = wlI I 9 0 m := by
        rw [(skI_ro (I := I) (J := K4) (fun p a b => l4.r93 (by omega)) (fun k _ => by rw [l4.r93 (p := 93) (by decide)])).1]
      refine fin _ ((l4.vs w5).up (Or.inl rfl)) (by rw [upI_row (by decide), w5.r93 (by decide), u4]) (fun k hk => by rw [upI_nk (by omega), w5.r93 (by decide)]) ?_
      rw [upI_same, if_pos s0, ew]
    · have s0 : ¬ s = 0 := fun e => z (by rw [e]; rfl)
      refine fin _ (l4.up (Or.inl rfl)) (by rw [upI_row (by decide), u4]) (fun k hk => by rw [upI_nk (by omega)]) ?_
      rw [upI_same, if_neg s0]
  have go3 : ∀ K3, LK I K3 → K3 64 = I 64 → K3 63 0 = spd I s m → K3 63 1 = Int32.ofNat (nrv I s m) → K3 63 2 = b2 (dk (I 109) (I 110) (I 111) 0 (Int32.ofNat m) (I 93 19).toInt.toNat) → wp G (d + 110) (mt 152) 32 [some (.ref 0), some (.int (Int32.ofNat s)), some (.int (Int32.ofNat m))] [] (147, f, K3, RP f sw) Q := fun K3 l3 u3 a0 a1 a2 => by
    refine v_lookOut32 oks ?_
    refine holdsK_ok (dkC (l3.r4 r4) 0 0).2.2 (dkC (l3.r4 r4) 0 0).2.1 ⟨_, _, rfl, rfl, ?_⟩
    rw [dkE K3 l3]
    cases hd : dk (I 109) (I 110) (I 111) 1 (Int32.ofNat m) (I 93 19).toInt.toNat with
    | false =>
      rw [if_pos (show b2 false = 0 from rfl)]
      exact go4 _ (l3.up (Or.inl rfl)) (by rw [upI_row (by decide), u3]) (by rw [upI_nk (by decide)]; exact a0) (by rw [upI_nk (by decide)]; exact a1) (by rw [upI_nk (by decide)]; exact a2) (by rw [upI_same, hd]; rfl)
    | true =>
      rw [if_neg (show ¬ b2 true = 0 by decide)]
      exact go4 _ (l3.up (Or.inl rfl)) (by rw [upI_row (by decide), u3]) (by rw [upI_nk (by decide)]; exact a0) (by rw [upI_nk (by decide)]; exact a1) (by rw [upI_nk (by decide)]; exact a2) (by rw [upI_same, hd]; rfl)
  cases hd : dk (I 109) (I 110) (I 111) 0 (Int32.ofNat m) (I 93 19).toInt.toNat with
  | false =>
    rw [if_pos (show b2 false = 0 from rfl)]
    exact go3 _ (l2.up (Or.inl rfl)) (by rw [upI_row (by decide), u2]) (by rw [upI_nk (by decide)]; exact v20) (by rw [upI_nk (by decide)]; exact v21) (by rw [upI_same, hd]; rfl)
  | true =>
    rw [if_neg (show ¬ b2 true = 0 by decide)]
    exact go3 _ (l2.up (Or.inl rfl)) (by rw [upI_row (by decide), u2]) (by rw [upI_nk (by decide)]; exact v20) (by rw [upI_nk (by decide)]; exact v21) (by rw [upI_same, hd]; rfl)
/-- the reference has sailed and filled -/
def ML (I J : St) : Prop := (∀ p, p ≠ 107 → p ≠ 108 → p ≠ 119 → p ≠ 145 → J p = I p) ∧ (∀ s, s < (I 93 7).toInt.toNat → ∀ m, m ≤ 240 → J 107 (241 * s + m) = wX I s m ∧ J 108 (241 * s + m) = wY I s m) ∧ ∀ m, m ≤ 240 → ∀ h, h < 6 → J 119 (6 * m + h) = wlI I 9 0 m h
theorem ML.up {I J : St} {k : Nat} {x : Int32} (l : ML I J) : ML I (upI J 145 k x) := ⟨fun p h1 h2 h3 h4 => by rw [upI_row h4]; exact l.1 p h1 h2 h3 h4, fun s hs m hm => by rw [upI_row (by decide), upI_row (by decide)]; exact l.2.1 s hs m hm, fun m hm h hh => by rw [upI_row (by decide)]; exact l.2.2 m hm h hh⟩
def BB (I J : St) : St := fun p => if p = 107 ∨ p = 108 then I p else J p
theorem BB_o {I J : St} {p : Nat} (h1 : p ≠ 107) (h2 : p ≠ 108) : BB I J p = J p := by unfold BB; rw [if_neg (by omega)]
theorem ML.ag {I J : St} (l : ML I J) : Ag [11] I J := fun p k hq => by
  by_cases h1 : p = 107
  · subst h1; rw [show cmp 107 k = 11 from rfl] at hq; cases hq
  · by_cases h2 : p = 108
    · subst h2; rw [show cmp 108 k = 11 from rfl] at hq; cases hq
    · by_cases h3 : p = 119
      · subst h3; rw [show cmp 119 k = 11 from rfl] at hq; cases hq
      · by_cases h4 : p = 145
        · subst h4; rw [show cmp 145 k = 11 from rfl] at hq; cases hq
        · rw [l.1 p h1 h2 h3 h4]
theorem ML.bb {I J : St} (l : ML I J) : ∀ p, p ≠ 119 → p ≠ 145 → BB I J p = I p := fun p h3 h4 => by
  unfold BB
  by_cases c : p = 107 ∨ p = 108
  · rw [if_pos c]
  · rw [if_neg c]; exact l.1 p (by omega) (by omega) h3 h4
theorem ML.agb {I J : St} (l : ML I J) : Ag [11] I (BB I J) := fun p k hq => by
  by_cases h3 : p = 119
  · subst h3; rw [show cmp 119 k = 11 from rfl] at hq; cases hq
  · by_cases h4 : p = 145
    · subst h4; rw [show cmp 145 k = 11 from rfl] at hq; cases hq
    · rw [l.bb p h3 h4]
theorem ML.way {I J : St} (l : ML I J) : Way (BB I J) J := by
  obtain ⟨h1, h2, -⟩ := rows_v (I := I) (J := BB I J) (fun p a b => l.bb p (by omega) (by omega)) (by rw [l.bb 93 (by decide) (by decide)])
  refine ⟨fun p a b => (BB_o a b).symm, fun s hs m hm => ?_⟩
  rw [l.bb 93 (by decide) (by decide)] at hs
  rw [h1, h2]
  exact l.2.1 s hs m hm
theorem Mlook_ok {G : GX} {d f : Nat} {sw : Bool} {I J : St} {s m : Nat} {Q : Option Value → Hp → Prop} (r3 : RC3 I) (r4 : RC4 I) (l : ML I J) (hs : s < (I 93 7).toInt.toNat) (hm : m < 240) (q : ∀ K, ML I K → (∀ k, k < 5 → K 145 k = vw I s m k) → Q none (147, f, K, RP f sw)) : wp G (d + 100) (mt 248) 0 (en (mt 248) [.ref 93, .int (Int32.ofNat s), .int (Int32.ofNat m)]) [] (147, f, J, RP f sw) Q := by
  have s4 : s < 4 := by have := r3.1; omega
  have eq : ∀ K, ML I K → nrv (BB I K) s m = nrv I s m ∧ spd (BB I K) s m = spd I s m := fun K lK => nr_ro (fun p a b _ _ _ => lK.bb p (by omega) (by omega)) (fun k _ => by rw [lK.bb 93 (by decide) (by decide)]) s m
  have dkE : ∀ K, ML I K → ∀ t, dk (K 109) (K 110) (K 111) t (Int32.ofNat m) (I 93 19).toInt.toNat = dk (I 109) (I 110) (I 111) t (Int32.ofNat m) (I 93 19).toInt.toNat := fun K lK t => by
    rw [lK.1 109 (by decide) (by decide) (by decide) (by decide), lK.1 110 (by decide) (by decide) (by decide) (by decide), lK.1 111 (by decide) (by decide) (by decide) (by decide)]
  have k19 : ∀ K, ML I K → K 93 19 = Int32.ofNat (I 93 19).toInt.toNat := fun K lK => by
    rw [lK.1 93 (by decide) (by decide) (by decide) (by decide)]; exact kI_of r4.2.1
  have n10 : (I 93 19).toInt.toNat ≤ 10 := by have := r4.2.2.1; omega
  refine v_Mlook oks ?_
  refine Mspeed_ok (r3.cg (l.agb.eqc rfl)) l.way ⟨_, _, rfl, rfl, ?_⟩
  rw [(eq J l).2]
  have l1 : ML I (upI J 145 0 (spd I s m)) := l.up
  have v10 : upI J 145 0 (spd I s m) 145 0 = spd I s m := upI_same _ _ _ _
  generalize upI J 145 0 (spd I s m) = K1 at l1 v10 ⊢
  refine v_Mlook8 oks ?_
  refine Mnear_ok (r3.cg (l1.agb.eqc rfl)) (r4.cg (l1.agb.eqc rfl)) l1.way (by rw [l1.bb 93 (by decide) (by decide)]; exact hs) (by omega) ⟨_, _, rfl, rfl, ?_⟩
  rw [(eq K1 l1).1]
  have l2 : ML I (upI K1 145 1 (Int32.ofNat (nrv I s m))) := l1.up
  have v20 : upI K1 145 1 (Int32.ofNat (nrv I s m)) 145 0 = spd I s m := by rw [upI_nk (by decide)]; exact v10
  have v21 : upI K1 145 1 (Int32.ofNat (nrv I s m)) 145 1 = Int32.ofNat (nrv I s m) := upI_same _ _ _ _
  generalize upI K1 145 1 (Int32.ofNat (nrv I s m)) = K2 at l2 v20 v21 ⊢
  have go4 : ∀ K4, ML I K4 → K4 145 0 = spd I s m → K4 145 1 = Int32.ofNat (nrv I s m) → K4 145 2 = b2 (dk (I 109) (I 110) (I 111) 0 (Int32.ofNat m) (I 93 19).toInt.toNat) → K4 145 3 = b2 (dk (I 109) (I 110) (I 111) 1 (Int32.ofNat m) (I 93 19).toInt.toNat) → wp G (d + 100) (mt 248) 40 [some (.ref 93), some (.int (Int32.ofNat s)), some (.int (Int32.ofNat m))] [] (147, f, K4, RP f sw) Q := fun K4 l4 a0 a1 a2 a3 => by
    have fin : ∀ x : Int32, (x = if s = 0 then sm6 (wlI I 9 0 m) else 0) → Q none (147, f, upI K4 145 4 x, RP f sw) := fun x hx => q _ l4.up (fun k hk => by
      have hk5 : k = 0 ∨ k = 1 ∨ k = 2 ∨ k = 3 ∨ k = 4 := by omega
      unfold vw
      rcases hk5 with e | e | e | e | e
      · rw [e, upI_nk (by decide), a0]; rfl
      · rw [e, upI_nk (by decide), a1]; rfl
      · rw [e, upI_nk (by decide), a2]; rfl
      · rw [e, upI_nk (by decide), a3]; rfl
      · rw [e, upI_same, hx]; rfl)
    refine v_Mlook40 oks ?_
    refine ite_i (fun z => ?_) (fun z => ?_)
    · have s0 : s = 0 := by
        have := congrArg Int32.toInt z
        rw [kI_t (by omega)] at this
        simp only [Int32.reduceToInt] at this
        omega
      have ew : wlI K4 = wlI I := (skI_ro (I := I) (J := K4) (fun p a b => l4.1 p (by omega) (by omega) (by omega) (by omega)) (fun k _ => by rw [l4.1 93 (by decide) (by decide) (by decide) (by decide)])).1
      have fb : FB K4 9 0 240 K4 := ⟨fun _ _ => rfl, fun m' hm' h hh => by rw [ew]; exact l4.2.2 m' hm' h hh⟩
      refine wet_ok fb (by omega) ⟨_, _, rfl, rfl, ?_⟩
      exact fin _ (by rw [if_pos s0, ew])
    · have s0 : ¬ s = 0 := fun e => z (by rw [e]; rfl)
      exact fin _ (by rw [if_neg s0])
  have go3 : ∀ K3, ML I K3 → K3 145 0 = spd I s m → K3 145 1 = Int32.ofNat (nrv I s m) → K3 145 2 = b2 (dk (I 109) (I 110) (I 111) 0 (Int32.ofNat m) (I 93 19).toInt.toNat) → wp G (d + 100) (mt 248) 28 [some (.ref 93), some (.int (Int32.ofNat s)), some (.int (Int32.ofNat m))] [] (147, f, K3, RP f sw) Q := fun K3 l3 a0 a1 a2 => by
    refine v_Mlook28 oks ?_
    refine Mdark_ok n10 (k19 K3 l3) ⟨_, _, rfl, rfl, ?_⟩
    rw [dkE K3 l3]
    cases hd : dk (I 109) (I 110) (I 111) 1 (Int32.ofNat m) (I 93 19).toInt.toNat with
    | false =>
      rw [if_pos (show b2 false = 0 from rfl)]
      exact go4 _ l3.up (by rw [upI_nk (by decide)]; exact a0) (by rw [upI_nk (by decide)]; exact a1) (by rw [upI_nk (by decide)]; exact a2) (by rw [upI_same, hd]; rfl)
    | true =>
      rw [if_neg (show ¬ b2 true = 0 by decide)]
      exact go4 _ l3.up (by rw [upI_nk (by decide)]; exact a0) (by rw [upI_nk (by decide)]; exact a1) (by rw [upI_nk (by decide)]; exact a2) (by rw [upI_same, hd]; rfl)
  refine v_Mlook16 oks ?_
  refine Mdark_ok n10 (k19 K2 l2) ⟨_, _, rfl, rfl, ?_⟩
  rw [dkE K2 l2]
  cases hd : dk (I 109) (I 110) (I 111) 0 (Int32.ofNat m) (I 93 19).toInt.toNat with
  | false =>
    rw [if_pos (show b2 false = 0 from rfl)]
    exact go3 _ l2.up (by rw [upI_nk (by decide)]; exact v20) (by rw [upI_nk (by decide)]; exact v21) (by rw [upI_same, hd]; rfl)
  | true =>
    rw [if_neg (show ¬ b2 true = 0 by decide)]
    exact go3 _ l2.up (by rw [upI_nk (by decide)]; exact v20) (by rw [upI_nk (by decide)]; exact v21) (by rw [upI_same, hd]; rfl)
