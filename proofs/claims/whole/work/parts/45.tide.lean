/-! CALLS: tide -/
/-- the first t numbers from i on are from -20 to 20 -/
def okT (g : Nat → Int32) (i : Nat) : Nat → Bool
  | 0 => true
  | t + 1 => okT g i t && decide (-20 ≤ (g (i + t)).toInt ∧ (g (i + t)).toInt ≤ 20)
theorem okT_all {g : Nat → Int32} {i : Nat} : ∀ {n : Nat}, okT g i n = true → ∀ t, t < n → -20 ≤ (g (i + t)).toInt ∧ (g (i + t)).toInt ≤ 20
  | 0, _, t, ht => absurd ht (Nat.not_lt_zero t)
  | n + 1, h, t, ht => by
    unfold okT at h
    rw [Bool.and_eq_true, decide_eq_true_eq] at h
    rcases Nat.lt_or_ge t n with z | z
    · exact okT_all h.1 t z
    · rw [show t = n by omega]; exact h.2
theorem okT_cg {g g' : Nat → Int32} {i i' : Nat} : ∀ {n : Nat}, (∀ t, t < n → g (i + t) = g' (i' + t)) → okT g i n = okT g' i' n
  | 0, _ => rfl
  | n + 1, h => by unfold okT; rw [okT_cg (n := n) (fun t ht => h t (by omega)), h n (by omega)]
def b2 (b : Bool) : Int32 := match b with
  | true => 1
  | false => 0
theorem within_loop {G : GX} {d f : Nat} {sw : Bool} {I : St} {s i N : Nat} {Q : Option Value → Hp → Prop} (hs : s < 8) (hN : i + N ≤ 120) (q : Q (some (.int (b2 (okT (I (78 + 2 * s)) i N)))) (147, f, I, RP f sw)) : ∀ (m t : Nat), t + m = N → wp G (d + 10) (mt 32) 4 [some (.ref (77 + 2 * s)), some (.int (Int32.ofNat i)), some (.int (Int32.ofNat N)), some (.int 20), some (.int (b2 (okT (I (78 + 2 * s)) i t))), some (.int (Int32.ofNat (i + t)))] [] (147, f, I, RP f sw) Q
  | 0, t, h => by
    have e : t = N := by omega
    subst e
    refine v_isWithin4 oks ?_
    rw [← Int32.ofNat_add, if_pos (by rw [tI_le]; omega)]
    refine ck_of ?_ q
    cases okT (I (78 + 2 * s)) i t <;> rfl
  | m + 1, t, h => by
    have hk : (Int32.ofNat (i + t)).toInt = (i + t : Nat) := kI_t (by omega)
    refine v_isWithin4 oks ?_
    rw [← Int32.ofNat_add, if_neg (by rw [tI_le, kI_t (by omega), kI_t (by omega)]; omega), kI_1]
    have ih := within_loop (G := G) (d := d) hs hN q m (t + 1) (by omega)
    cases hb : okT (I (78 + 2 * s)) i t with
    | false =>
      rw [if_pos (show b2 false = 0 from rfl)]
      have e : okT (I (78 + 2 * s)) i (t + 1) = false := by unfold okT; rw [hb]; rfl
      rw [e] at ih
      exact ih
    | true =>
      rw [if_neg (show ¬ b2 true = 0 by decide)]
      refine ck_of (okB_sh hs) ?_
      rw [RP_it hs]
      refine st_iaload rfl rfl (by omega) (okB_it hs) (by rw [SH_it hs]; exact ixB_i (by omega) (by show ((Int32.ofNat (i + t)).toInt : Int) < (120 : Nat); omega)) ?_
      show wp G (d + 10) (mt 32) 15 _ [.int (I (78 + 2 * s) (Int32.ofNat (i + t)).toNatClampNeg)] (147, f, I, RP f sw) Q
      refine v_isWithin15 oks ?_
      rw [kI_1, kI_c (by omega)]
      have e : okT (I (78 + 2 * s)) i (t + 1) = decide (-20 ≤ (I (78 + 2 * s) (i + t)).toInt ∧ (I (78 + 2 * s) (i + t)).toInt ≤ 20) := by unfold okT; rw [hb]; rfl
      have m20 : (-20 : Int32).toInt = -20 := by decide
      have p20 : (20 : Int32).toInt = 20 := by decide
      rw [e] at ih
      refine ite_i (fun z => ?_) (fun z => ite_i (fun z2 => ?_) (fun z2 => ?_))
      · rw [tI_lt, m20] at z
        rw [decide_eq_false (by omega)] at ih
        exact ih
      · rw [tI_lt, p20] at z2
        rw [decide_eq_false (by omega)] at ih
        exact ih
      · rw [tI_lt, m20] at z
        rw [tI_lt, p20] at z2
        rw [decide_eq_true (by omega)] at ih
        exact ih
theorem within_ok {G : GX} {d f : Nat} {sw : Bool} {I : St} {s i N : Nat} {Q : Option Value → Hp → Prop} (hs : s < 8) (hN : i + N ≤ 120) (q : Q (some (.int (b2 (okT (I (78 + 2 * s)) i N)))) (147, f, I, RP f sw)) : wp G (d + 10) (mt 32) 0 (en (mt 32) [.ref (77 + 2 * s), .int (Int32.ofNat i), .int (Int32.ofNat N), .int 20]) [] (147, f, I, RP f sw) Q := by
  refine v_isWithin oks ?_
  exact within_loop hs hN q N 0 (by omega)
/-- c minutes' tides from M on, out of src, into the rows x, y -/
def flI (I : St) (x y : Nat) (src : Nat → Int32) (M c : Nat) : St := fun q k => if q = x then (if M ≤ k ∧ k < M + c then src (2 * (k - M)) else I q k) else if q = y then (if M ≤ k ∧ k < M + c then src (2 * (k - M) + 1) else I q k) else I q k
theorem flI_0 (I : St) (x y : Nat) (src : Nat → Int32) (M : Nat) : flI I x y src M 0 = I := by
  funext q k
  simp only [flI]
  grind
theorem flI_s {I : St} {x y : Nat} {src : Nat → Int32} {M c : Nat} (h : x ≠ y) : upI (upI (flI I x y src M c) x (M + c) (src (2 * c))) y (M + c) (src (2 * c + 1)) = flI I x y src M (c + 1) := by
  funext q k
  simp only [upI_ap, flI]
  grind
theorem flI_ne {I : St} {x y : Nat} {src : Nat → Int32} {M c q : Nat} (h1 : q ≠ x) (h2 : q ≠ y) : flI I x y src M c q = I q := by
  funext k
  unfold flI
  rw [if_neg h1, if_neg h2]
theorem Ag.fl {cs : List Nat} {I J : St} {x y M c : Nat} {src : Nat → Int32} (h : Ag cs I J) (hx : ∀ k, cs.contains (cmp x k) = true) (hy : ∀ k, cs.contains (cmp y k) = true) : Ag cs I (flI J x y src M c) := fun q i hq => by
  unfold flI
  by_cases e1 : q = x
  · subst e1; rw [hx] at hq; cases hq
  · rw [if_neg e1]
    by_cases e2 : q = y
    · subst e2; rw [hy] at hq; cases hq
    · rw [if_neg e2]; exact h q i hq
theorem l2m (k : Nat) : (2 : Int32) * Int32.ofNat k = Int32.ofNat (2 * k) := (Int32.ofNat_mul 2 k).symm
theorem l120 (k : Nat) : (120 : Int32) * Int32.ofNat k = Int32.ofNat (120 * k) := (Int32.ofNat_mul 120 k).symm
theorem l1a (k : Nat) : Int32.ofNat k + 1 = Int32.ofNat (k + 1) := (Int32.ofNat_add k 1).symm
theorem kI_x {k n : Nat} (h : k < 2147483648) (h2 : k < n) : ixB (Int32.ofNat k) n = true := ixB_i (by rw [kI_t h]; omega) (by rw [kI_t h]; omega)
theorem flow_loop {G : GX} {d f : Nat} {sw : Bool} {I : St} {p M i N : Nat} {Q : Option Value → Hp → Prop} (hp : p < 147) (hS : SH p = (20, 120)) (h26 : p ≠ 26) (h27 : p ≠ 27) (hN : i + 2 * N ≤ 120) (hM : M + N ≤ 240) (q : Q none (147, f, upI (flI I 26 27 (fun t => I p (i + t)) M N) 2 9 1, RP f sw)) : ∀ (m c : Nat), c + m = N → wp G (d + 10) (mt 33) 2 [some (.ref 2), some (.int (Int32.ofNat M)), some (.ref p), some (.int (Int32.ofNat i)), some (.int (Int32.ofNat N)), some (.int (Int32.ofNat c))] [] (147, f, flI I 26 27 (fun t => I p (i + t)) M c, RP f sw) Q
  | 0, c, h => by
    have e : c = N := by omega
    subst e
    refine v_flow2 oks ?_
    rw [if_pos (by rw [tI_le]; omega)]
    exact q
  | m + 1, c, h => by
    refine v_flow2 oks ?_
    rw [if_neg (by rw [tI_le, kI_t (by omega), kI_t (by omega)]; omega), l2m, ← Int32.ofNat_add, ← Int32.ofNat_add]
    refine st_iaload rfl rfl (by omega) (okB_lt hp hS) (by rw [hS]; exact kI_x (by omega) (by show i + 2 * c < 120; omega)) ?_
    refine v_flow17 oks ?_
    refine ck_of (kI_x (by omega) (by omega)) ?_
    rw [kI_c (by omega), kI_c (by omega), l2m, ← Int32.ofNat_add, ← Int32.ofNat_add, l1a]
    refine st_iaload rfl rfl (by omega) (okB_lt hp hS) (by rw [hS]; exact kI_x (by omega) (by show i + 2 * c + 1 < 120; omega)) ?_
    refine v_flow32 oks ?_
    refine ck_of (kI_x (by omega) (by omega)) ?_
    rw [kI_c (by omega), kI_c (by omega), kI_1]
    have ih := flow_loop (G := G) (d := d) hp hS h26 h27 hN hM q m (c + 1) (by omega)
    rw [← flI_s (by decide)] at ih
    have e1 : flI I 26 27 (fun t => I p (i + t)) M c p (i + 2 * c) = I p (i + 2 * c) := by rw [flI_ne h26 h27]
    have e2 : upI (flI I 26 27 (fun t => I p (i + t)) M c) 26 (M + c) (flI I 26 27 (fun t => I p (i + t)) M c p (i + 2 * c)) p (i + 2 * c + 1) = I p (i + (2 * c + 1)) := by rw [upI_row h26, flI_ne h26 h27]; rfl
    show wp G (d + 10) (mt 33) 2 _ [] (147, f, upI (upI (flI I 26 27 (fun t => I p (i + t)) M c) 26 (M + c) (flI I 26 27 (fun t => I p (i + t)) M c p (i + 2 * c))) 27 (M + c) (upI (flI I 26 27 (fun t => I p (i + t)) M c) 26 (M + c) (flI I 26 27 (fun t => I p (i + t)) M c p (i + 2 * c)) p (i + 2 * c + 1)), RP f sw) Q
    rw [e2, e1]
    exact ih
theorem flow_ok {G : GX} {d f : Nat} {sw : Bool} {I : St} {p M i N : Nat} {Q : Option Value → Hp → Prop} (hp : p < 147) (hS : SH p = (20, 120)) (h26 : p ≠ 26) (h27 : p ≠ 27) (hN : i + 2 * N ≤ 120) (hM : M + N ≤ 240) (q : Q none (147, f, upI (flI I 26 27 (fun t => I p (i + t)) M N) 2 9 1, RP f sw)) : wp G (d + 10) (mt 33) 0 (en (mt 33) [.ref 2, .int (Int32.ofNat M), .ref p, .int (Int32.ofNat i), .int (Int32.ofNat N)]) [] (147, f, I, RP f sw) Q := by
  refine v_flow oks ?_
  have k := flow_loop (G := G) (d := d) hp hS h26 h27 hN hM q N 0 (by omega)
  rw [flI_0] at k
  exact k
theorem Mflow_loop {G : GX} {d f : Nat} {sw : Bool} {I : St} {s M i N : Nat} {Q : Option Value → Hp → Prop} (hs : s < 8) (hN : i + 2 * N ≤ 120) (hM : M + N ≤ 240) (q : Q (some (.int (Int32.ofNat N))) (147, f, flI I 105 106 (fun t => I 96 (120 * s + i + t)) M N, RP f sw)) : ∀ (m c : Nat), c + m = N → wp G (d + 10) (mt 194) 82 [some (.ref 93), some (.int (Int32.ofNat M)), some (.int (Int32.ofNat s)), some (.int (Int32.ofNat i)), some (.int (Int32.ofNat N)), some (.int (Int32.ofNat c))] [] (147, f, flI I 105 106 (fun t => I 96 (120 * s + i + t)) M c, RP f sw) Q
  | 0, c, h => by
    have e : c = N := by omega
    subst e
    refine v_Mtide82 oks ?_
    rw [if_pos (by rw [tI_le]; omega)]
    exact q
  | m + 1, c, h => by
    refine v_Mtide82 oks ?_
    rw [if_neg (by rw [tI_le, kI_t (by omega), kI_t (by omega)]; omega), l2m, l120, ← Int32.ofNat_add, ← Int32.ofNat_add, ← Int32.ofNat_add, l1a, kI_1]
    refine ck_of (kI_x (by omega) (by omega)) (ck_of (kI_x (by omega) (by omega)) (ck_of (kI_x (by omega) (by omega)) (ck_of (kI_x (by omega) (by omega)) ?_)))
    rw [kI_c (by omega), kI_c (by omega), kI_c (by omega)]
    have ih := Mflow_loop (G := G) (d := d) hs hN hM q m (c + 1) (by omega)
    rw [← flI_s (by decide)] at ih
    exact ih
theorem Mchk_loop {G : GX} {d f : Nat} {sw : Bool} {I : St} {s M i N : Nat} {Q : Option Value → Hp → Prop} (hs : s < 8) (hN : i + 2 * N ≤ 120) (hM : M + N ≤ 240) (q0 : okT (I 96) (120 * s + i) (2 * N) = false → Q (some (.int (-1000001))) (147, f, I, RP f sw)) (q1 : okT (I 96) (120 * s + i) (2 * N) = true → wp G (d + 10) (mt 194) 82 [some (.ref 93), some (.int (Int32.ofNat M)), some (.int (Int32.ofNat s)), some (.int (Int32.ofNat i)), some (.int (Int32.ofNat N)), some (.int 0)] [] (147, f, upI I 93 1 0, RP f sw) Q) : ∀ (m t : Nat), t + m = 2 * N → okT (I 96) (120 * s + i) t = true → wp G (d + 10) (mt 194) 53 [some (.ref 93), some (.int (Int32.ofNat M)), some (.int (Int32.ofNat s)), some (.int (Int32.ofNat i)), some (.int (Int32.ofNat N)), some (.int (Int32.ofNat t))] [] (147, f, I, RP f sw) Q
  | 0, t, h, ho => by
    have e : t = 2 * N := by omega
    subst e
    refine v_Mtide53 oks ?_
    rw [l2m, if_pos (by rw [tI_le]; omega)]
    exact q1 ho
  | m + 1, t, h, ho => by
    refine v_Mtide53 oks ?_
    rw [l2m, if_neg (by rw [tI_le, kI_t (by omega), kI_t (by omega)]; omega), l120, ← Int32.ofNat_add, ← Int32.ofNat_add, kI_1]
    refine ck_of (kI_x (by omega) (by omega)) ?_
    rw [kI_c (by omega)]
    have e : okT (I 96) (120 * s + i) (t + 1) = decide (-20 ≤ (I 96 (120 * s + i + t)).toInt ∧ (I 96 (120 * s + i + t)).toInt ≤ 20) := by unfold okT; rw [ho]; rfl
    have bad : okT (I 96) (120 * s + i) (t + 1) = false → okT (I 96) (120 * s + i) (2 * N) = false := fun hz => by
      cases hc : okT (I 96) (120 * s + i) (2 * N) with
      | false => rfl
      | true =>
        have := okT_all hc t (by omega)
        rw [e, decide_eq_true this] at hz
        cases hz
    simp only [lcl, lcg, w64, Int64.reduceToInt]
    refine ite_i (fun z => ?_) (fun z => ite_i (fun z2 => ?_) (fun z2 => ?_))
    · exact q0 (bad (by rw [e, decide_eq_false (by omega)]))
    · exact q0 (bad (by rw [e, decide_eq_false (by omega)]))
    · exact Mchk_loop hs hN hM q0 q1 m (t + 1) (by omega) (by rw [e, decide_eq_true (by omega)])
theorem co_tide {G : GX} (m a0 i n : Int32) : CO (Rel G) G 31 194 [.int m, .int a0, .int i, .int n] := fun f sw I hR => by
  have en0 : 1 ≤ n.toInt → n.toInt ≤ 60 → (2 * n).toInt = 2 * n.toInt := fun _ _ => fb_mulI (by simp only [Int32.reduceToInt]; omega) (by simp only [Int32.reduceToInt]; omega)
  have em0 : 0 ≤ m.toInt → m.toInt ≤ 239 → 1 ≤ n.toInt → n.toInt ≤ 60 → (m + n).toInt = m.toInt + n.toInt := fun _ _ _ _ => fb_addI (by omega) (by omega)
  have el0 : 1 ≤ n.toInt → n.toInt ≤ 60 → (i.toInt64 + (2 * n).toInt64).toInt = i.toInt + 2 * n.toInt := fun h1 h2 => by
    have := fb_rng i
    rw [Int64.toInt_add, w64, w64, en0 h1 h2, Int.bmod_eq_of_le (by omega) (by omega)]
  refine v_Ctide oks ?_
  simp only [tI_lt, tI_le, Int32.reduceToInt, Int32.reduceOfNat]
  repeat' (refine ite_i (fun _ => ?_) (fun _ => ?_))
  all_goals first
    | (exfalso; omega)
    | (refine ⟨_, f, sw, I, (by first | rfl | trivial), rfl, hR.1, v_Mtide oks ?_⟩
       try simp only [lcl, lcg, w64]
       simp only [tI_lt, tI_le, Int32.reduceToInt, Int64.reduceToInt, Int32.reduceOfNat]
       repeat' (refine ite_i (fun _ => ?_) (fun _ => ?_))
       all_goals first
         | (exfalso; omega)
         | exact ⟨_, (by first | rfl | trivial), rfl, hR.free (Ag.rf.up rfl)⟩)
    | skip
  refine ck_of (ixB_i (by omega) (by omega)) ?_
  have hs : a0.toNatClampNeg < 8 := by rw [tnc]; omega
  obtain ⟨q1, q2, q3, q4, q5, q6, q7⟩ := hR.2.1 _ hs
  have hst : (a0.toNatClampNeg : Int) = a0.toInt := by rw [tnc]; omega
  generalize a0.toNatClampNeg = s at hs q1 q2 q3 q4 q5 q6 q7 hst ⊢
  have hse : a0.toInt.toNat = s := by omega
  have hm : ∃ M : Nat, m = Int32.ofNat M ∧ M < 240 := ⟨m.toInt.toNat, kI_of (by omega), by omega⟩
  have hn : ∃ N : Nat, n = Int32.ofNat N ∧ 1 ≤ N ∧ N ≤ 60 := ⟨n.toInt.toNat, kI_of (by omega), by omega, by omega⟩
  have ha : a0 = Int32.ofNat s := by rw [tI_eq, kI_t (by omega)]; omega
  have hen := en0 (by omega) (by omega)
  have em := em0 (by omega) (by omega) (by omega) (by omega)
  have el := el0 (by omega) (by omega)
  have hne : ¬ (2 * n).toInt < 0 := by omega
  simp only [RP_sh hs, oV, okB_sh hs, ck]
  have q4' : I (77 + 2 * s) 3 = I 95 s := q4
  rw [q4']
  have w64' : (I 95 s).toInt64.toInt = (I 95 s).toInt := w64 _
  rcases q1 with ⟨q1, q1'⟩ | ⟨q1, q1'⟩
  · have q1t : (I 94 s).toInt = -1 := by rw [q1', m1t]
    rw [if_pos q1]
    refine ⟨_, f, sw, _, rfl, rfl, hR.rx (cs := [2, 11]) (by repeat (first | exact Ag.rf | refine Ag.up ?_ rfl | refine Ag.up ?_ (by rw [(cmp_sh _ hs _).1]; rfl) | refine Ag.up ?_ (by rw [(cmp_sh _ hs _).2]; rfl))) rfl, v_Mtide oks ?_⟩
    try simp only [upI_ap, Nat.reduceEqDiff, reduceIte, lcl, lcg, w64]
    simp only [tnc, hse, tI_lt, tI_le, Int32.reduceToInt, Int64.reduceToInt, Int32.reduceOfNat]
    repeat' (first | refine ite_i (fun _ => ?_) (fun _ => ?_) | refine ck_of (ixB_i (by omega) (by omega)) ?_)
    all_goals first | (exfalso; omega) | contradiction | skip
    refine ⟨_, (by first | rfl | trivial), rfl, hR.upd [2, 11] (by repeat (first | exact Ag.rf | refine Ag.up ?_ rfl | refine Ag.up ?_ (by rw [(cmp_sh _ hs _).1]; rfl) | refine Ag.up ?_ (by rw [(cmp_sh _ hs _).2]; rfl))) rfl nof (fun _ => ?_) nof nof nof nof nof nof nof nof⟩
    simp only [RC2, upI_ap, Nat.reduceEqDiff, reduceIte]
  · have q1t : (I 94 s).toInt = (I (77 + 2 * s) 2).toInt := by rw [q1']
    rw [if_neg (by rw [q1]; decide)]
    have esub : 0 ≤ i.toInt → (I 95 s - i).toInt = (I 95 s).toInt - i.toInt := fun _ => fb_subI (by have := fb_rng i; omega) (by omega)
    have lc2 : ∀ x y : Int64, (lg_cmp x y ≤ 0) = (x.toInt ≤ y.toInt) := fun x y => by
      have h1 := lcg x y
      have h2 : (lg_cmp x y ≤ 0) = ¬ (0 < lg_cmp x y) := propext Int32.not_lt.symm
      rw [h2, h1]
      exact propext ⟨fun h => by omega, fun h => by omega⟩
    by_cases hp : 0 ≤ i.toInt ∧ i.toInt + 2 * n.toInt ≤ (I 95 s).toInt
    · have esb := esub hp.1
      rw [if_neg (by omega), if_neg (by omega), if_neg (by omega)]
      obtain ⟨M, hM1, hM2⟩ := hm
      obtain ⟨N, hN1, hN2, hN3⟩ := hn
      obtain ⟨j, hj, tj⟩ : ∃ j : Nat, i = Int32.ofNat j ∧ i.toInt = (j : Int) := ⟨i.toInt.toNat, kI_of hp.1, by omega⟩
      subst hM1 hN1 hj ha
      have tN : (Int32.ofNat N).toInt = N := kI_t (by omega)
      have tM : (Int32.ofNat M).toInt = M := kI_t (by omega)
      have hb1 : j + 2 * N ≤ 120 := by omega
      have hb2 : M + N ≤ 240 := by omega
      have hcg : ∀ J : St, (∀ k, J 96 k = I 96 k) → okT (J 96) (120 * s + j) (2 * N) = okT (I (78 + 2 * s)) j (2 * N) := fun J hJ => okT_cg (fun t ht => by
        rw [hJ, q7 (j + t) (by omega), show 120 * s + j + t = 120 * s + (j + t) by omega])
      rw [l2m]
      refine within_ok hs hb1 ?_
      refine ⟨_, _, rfl, rfl, ?_⟩
      cases hb : okT (I (78 + 2 * s)) j (2 * N) with
      | false =>
        rw [if_pos (show b2 false = 0 from rfl)]
        refine ⟨_, f, sw, I, rfl, rfl, hR.1, v_Mtide oks ?_⟩
        try simp only [upI_ap, Nat.reduceEqDiff, reduceIte, lcl, lcg, lc2, w64]
        simp only [tnc, hse, tI_lt, tI_le, Int32.reduceToInt, Int64.reduceToInt, Int32.reduceOfNat, el]
        repeat' (first | refine ite_i (fun _ => ?_) (fun _ => ?_) | refine ck_of (ixB_i (by omega) (by omega)) ?_)
        all_goals first | (exfalso; omega) | contradiction | skip
        refine Mchk_loop (I := upI I 93 0 0) hs hb1 hb2 (fun _ => ⟨_, rfl, rfl, hR.free (Ag.rf.up rfl)⟩) (fun h => ?_) (2 * N) 0 (by omega) rfl
        have h := (hcg (upI I 93 0 0) (fun k => rfl)).symm.trans h
        rw [hb] at h
        cases h
      | true =>
        rw [if_neg (show ¬ b2 true = 0 by decide)]
        simp only [RP_it hs]
        refine flow_ok (by omega) (SH_it hs) (by omega) (by omega) hb1 hb2 ?_
        refine ⟨_, rfl, rfl, ?_⟩
        have hag : Ag [2, 3, 11] I (upI (upI (flI I 26 27 (fun t => I (78 + 2 * s) (j + t)) M N) 2 9 1) 0 11 0) := Ag.up (Ag.up (Ag.fl Ag.rf (fun _ => rfl) (fun _ => rfl)) rfl) rfl
        refine ⟨_, f, sw, _, rfl, rfl, hR.rx (cs := [2, 3, 11]) hag rfl, v_Mtide oks ?_⟩
        have i1 : ∀ p k, p ≠ 26 → p ≠ 27 → p ≠ 2 → p ≠ 0 → upI (upI (flI I 26 27 (fun t => I (78 + 2 * s) (j + t)) M N) 2 9 1) 0 11 0 p k = I p k := fun p k g1 g2 g3 g4 => by
          rw [upI_row g4, upI_row g3, flI_ne g1 g2]
        simp only [i1 94 _ (by decide) (by decide) (by decide) (by decide), i1 95 _ (by decide) (by decide) (by decide) (by decide), lcl, lcg, lc2, w64]
        simp only [tnc, hse, tI_lt, tI_le, Int32.reduceToInt, Int64.reduceToInt, Int32.reduceOfNat, el]
        repeat' (first | refine ite_i (fun _ => ?_) (fun _ => ?_) | refine ck_of (ixB_i (by omega) (by omega)) ?_)
        all_goals first | (exfalso; omega) | contradiction | skip
        refine Mchk_loop (I := upI (upI (upI (flI I 26 27 (fun t => I (78 + 2 * s) (j + t)) M N) 2 9 1) 0 11 0) 93 0 0) hs hb1 hb2 (fun h => ?_) (fun h => ?_) (2 * N) 0 (by omega) rfl
        · have h := (hcg (upI (upI (upI (flI I 26 27 (fun t => I (78 + 2 * s) (j + t)) M N) 2 9 1) 0 11 0) 93 0 0) (fun k => rfl)).symm.trans h
          rw [hb] at h
          cases h
        · have kk := Mflow_loop (G := G) (d := 989) (f := f) (sw := sw) (I := upI (upI (upI (upI (flI I 26 27 (fun t => I (78 + 2 * s) (j + t)) M N) 2 9 1) 0 11 0) 93 0 0) 93 1 0) (s := s) (M := M) (i := j) (N := N) (Q := fun r2 h2 => ∃ I2 : Nat → Nat → Int32, r2 = some (.int (Int32.ofNat N)) ∧ h2 = (147, f, I2, RP f sw) ∧ Rel G f sw I2) hs hb1 hb2 ?_ N 0 (by omega)
          · rw [flI_0] at kk
            exact kk
          · refine ⟨_, rfl, rfl, hR.upd [2, 3, 11] (Ag.fl (Ag.up (Ag.up hag rfl) rfl) (fun _ => rfl) (fun _ => rfl)) rfl nof (fun _ => ?_) (fun _ => ?_) nof nof nof nof nof nof nof⟩
            · rfl
            · obtain ⟨g1, g2, g3, g4, g5, g6, g7, g8, g9⟩ := hR.2.2.2.1
              have all := okT_all hb
              refine ⟨g1, g2, Or.inr rfl, g4, g5, fun k hk => ?_, g7, fun s' h' => ?_, fun z => absurd (show (1 : Int32) = 0 from z) (by decide)⟩
              · have q6 := g6 k hk
                show ((if M ≤ k ∧ k < M + N then I (78 + 2 * s) (j + 2 * (k - M)) else I 26 k) = (if M ≤ k ∧ k < M + N then I 96 (120 * s + j + 2 * (k - M)) else I 105 k) ∧ -20 ≤ (if M ≤ k ∧ k < M + N then I 96 (120 * s + j + 2 * (k - M)) else I 105 k).toInt ∧ (if M ≤ k ∧ k < M + N then I 96 (120 * s + j + 2 * (k - M)) else I 105 k).toInt ≤ 20) ∧ (if M ≤ k ∧ k < M + N then I (78 + 2 * s) (j + (2 * (k - M) + 1)) else I 27 k) = (if M ≤ k ∧ k < M + N then I 96 (120 * s + j + (2 * (k - M) + 1)) else I 106 k) ∧ -20 ≤ (if M ≤ k ∧ k < M + N then I 96 (120 * s + j + (2 * (k - M) + 1)) else I 106 k).toInt ∧ (if M ≤ k ∧ k < M + N then I 96 (120 * s + j + (2 * (k - M) + 1)) else I 106 k).toInt ≤ 20
                by_cases c : M ≤ k ∧ k < M + N
                · simp only [if_pos c]
                  have a1 := all (2 * (k - M)) (by omega)
                  have a2 := all (2 * (k - M) + 1) (by omega)
                  have a3 := q7 (j + 2 * (k - M)) (by omega)
                  have a4 := q7 (j + (2 * (k - M) + 1)) (by omega)
                  rw [show 120 * s + j + 2 * (k - M) = 120 * s + (j + 2 * (k - M)) by omega, show 120 * s + j + (2 * (k - M) + 1) = 120 * s + (j + (2 * (k - M) + 1)) by omega, ← a3, ← a4]
                  exact ⟨⟨rfl, a1.1, a1.2⟩, rfl, a2.1, a2.2⟩
                · simp only [if_neg c]
                  exact q6
              · have q := g8 s' h'
                have h4 : s' < 4 := by
                  have h' : s' < (I 93 7).toInt.toNat := h'
                  omega
                simp (disch := omega) only [upI_row, flI_ne]
                exact q
    · have bad : wp G 999 (mt 194) 0 (en (mt 194) [.ref 93, .int m, .int a0, .int i, .int n]) [] (147, f, upI I 0 11 2, RP f sw) (fun r2 h2 => ∃ I2, r2 = some (.int (-1000010 - 2)) ∧ h2 = (147, f, I2, RP f sw) ∧ Rel G f sw I2) := by
        refine v_Mtide oks ?_
        simp only [upI_ap, Nat.reduceEqDiff, reduceIte, lcl, lcg, lc2, w64]
        simp only [tnc, hse, tI_lt, tI_le, Int32.reduceToInt, Int64.reduceToInt, Int32.reduceOfNat, el]
        repeat' (first | refine ite_i (fun _ => ?_) (fun _ => ?_) | refine ck_of (ixB_i (by omega) (by omega)) ?_)
        all_goals first | (exfalso; omega) | contradiction | skip
        all_goals refine ⟨_, (by first | rfl | trivial), rfl, hR.upd [2, 11] (by repeat (first | exact Ag.rf | refine Ag.up ?_ rfl | refine Ag.up ?_ (by rw [(cmp_sh _ hs _).1]; rfl) | refine Ag.up ?_ (by rw [(cmp_sh _ hs _).2]; rfl))) rfl nof (fun _ => ?_) nof nof nof nof nof nof nof nof⟩
        all_goals simp only [RC2, upI_ap, Nat.reduceEqDiff, reduceIte]
      refine ite_i (fun z => ?_) (fun z => ite_i (fun z2 => ?_) (fun z2 => ite_i (fun z3 => ?_) (fun z3 => ?_)))
      · exact ⟨_, f, sw, _, rfl, rfl, hR.rx (cs := [2, 11]) (by repeat (first | exact Ag.rf | refine Ag.up ?_ rfl | refine Ag.up ?_ (by rw [(cmp_sh _ hs _).1]; rfl) | refine Ag.up ?_ (by rw [(cmp_sh _ hs _).2]; rfl))) rfl, bad⟩
      · exact ⟨_, f, sw, _, rfl, rfl, hR.rx (cs := [2, 11]) (by repeat (first | exact Ag.rf | refine Ag.up ?_ rfl | refine Ag.up ?_ (by rw [(cmp_sh _ hs _).1]; rfl) | refine Ag.up ?_ (by rw [(cmp_sh _ hs _).2]; rfl))) rfl, bad⟩
      · exact ⟨_, f, sw, _, rfl, rfl, hR.rx (cs := [2, 11]) (by repeat (first | exact Ag.rf | refine Ag.up ?_ rfl | refine Ag.up ?_ (by rw [(cmp_sh _ hs _).1]; rfl) | refine Ag.up ?_ (by rw [(cmp_sh _ hs _).2]; rfl))) rfl, bad⟩
      · exfalso
        have := esub (by omega)
        omega
