/-! THE SEA ASKED: bounds, distances, darkness -/
theorem rtf_sp {v : Nat} : ∀ n, rtf n v * rtf n v ≤ v ∧ (v < (n + 1) * (n + 1) → v < (rtf n v + 1) * (rtf n v + 1))
  | 0 => ⟨by show 0 * 0 ≤ v; omega, fun h => h⟩
  | n + 1 => by
    have ih := rtf_sp (v := v) n
    unfold rtf
    by_cases c : (n + 1) * (n + 1) ≤ v
    · rw [if_pos c]
      exact ⟨c, fun h => h⟩
    · rw [if_neg c]
      exact ⟨ih.1, fun _ => ih.2 (by omega)⟩
theorem rt_sp {v : Nat} (h : v < 90000000000) : rt v * rt v ≤ v ∧ v < (rt v + 1) * (rt v + 1) := by
  have q := rtf_sp (v := v) 300000
  exact ⟨q.1, q.2 (by omega)⟩
theorem rt_lt {v r : Nat} (h : v < 90000000000) : rt v < r ↔ v < r * r := by
  obtain ⟨h1, h2⟩ := rt_sp h
  constructor
  · intro z
    exact Nat.lt_of_lt_of_le h2 (Nat.mul_le_mul z z)
  · intro z
    rcases Nat.lt_or_ge (rt v) r with y | y
    · exact y
    · have := Nat.mul_le_mul y y
      omega
theorem rt_small {v : Nat} (h : v < 17179869184) : rt v < 131072 := (rt_lt (by omega)).mpr (by omega)
theorem k_step : ∀ c, c < 16 → ∀ v, v < 51 → (-50 ≤ ((kA 100100 c) * Int32.ofNat v / 100).toInt ∧ ((kA 100100 c) * Int32.ofNat v / 100).toInt ≤ 50) ∧ -50 ≤ ((kA 100101 c) * Int32.ofNat v / 100).toInt ∧ ((kA 100101 c) * Int32.ofNat v / 100).toInt ≤ 50 := by decide +kernel
theorem w_rng {I : St} (r : RC3 I) {s : Nat} (hs : s < (I 93 7).toInt.toNat) : ∀ m : Nat, m ≤ 240 → (-(10000 + 70 * (m : Int)) ≤ (wX I s m).toInt ∧ (wX I s m).toInt ≤ 10000 + 70 * (m : Int)) ∧ -(10000 + 70 * (m : Int)) ≤ (wY I s m).toInt ∧ (wY I s m).toInt ≤ 10000 + 70 * (m : Int)
  | 0, _ => by
    have q := r.2.2.2.2.2.2.2.1 s hs
    show (_ ≤ (I 99 s).toInt ∧ (I 99 s).toInt ≤ _) ∧ _ ≤ (I 100 s).toInt ∧ (I 100 s).toInt ≤ _
    omega
  | m + 1, hm => by
    have ih := w_rng r hs m (by omega)
    obtain ⟨⟨c0, c1⟩, v0, v1⟩ := spd_rng r s m
    have q6 := r.2.2.2.2.2.1 m (by omega)
    have q7 := r.2.2.2.2.2.2.1 (crs I s m).toInt.toNat (by omega)
    have ks := k_step (crs I s m).toInt.toNat (by omega) (spd I s m).toInt.toNat (by omega)
    rw [← kI_of v0, ← q7.1, ← q7.2] at ks
    have e1 : (wX I s m + I 97 (crs I s m).toInt.toNat * spd I s m / 100).toInt = (wX I s m).toInt + (I 97 (crs I s m).toInt.toNat * spd I s m / 100).toInt := fb_addI (by omega) (by omega)
    have e2 : (wY I s m + I 98 (crs I s m).toInt.toNat * spd I s m / 100).toInt = (wY I s m).toInt + (I 98 (crs I s m).toInt.toNat * spd I s m / 100).toInt := fb_addI (by omega) (by omega)
    have e3 : (wX I s (m + 1)).toInt = (wX I s m).toInt + (I 97 (crs I s m).toInt.toNat * spd I s m / 100).toInt + (I 105 m).toInt := by
      show (wX I s m + I 97 (crs I s m).toInt.toNat * spd I s m / 100 + I 105 m).toInt = _
      rw [fb_addI (by rw [e1]; omega) (by rw [e1]; omega), e1]
    have e4 : (wY I s (m + 1)).toInt = (wY I s m).toInt + (I 98 (crs I s m).toInt.toNat * spd I s m / 100).toInt + (I 106 m).toInt := by
      show (wY I s m + I 98 (crs I s m).toInt.toNat * spd I s m / 100 + I 106 m).toInt = _
      rw [fb_addI (by rw [e2]; omega) (by rw [e2]; omega), e2]
    omega
/-- how far two ships are apart, squared -/
def dq (I : St) (a b m : Nat) : Nat := (((wX I a m).toInt - (wX I b m).toInt) * ((wX I a m).toInt - (wX I b m).toInt) + ((wY I a m).toInt - (wY I b m).toInt) * ((wY I a m).toInt - (wY I b m).toInt)).toNat
theorem sq_rng {x : Int} (h1 : -53600 ≤ x) (h2 : x ≤ 53600) : 0 ≤ x * x ∧ x * x ≤ 2872960000 := by
  rcases Int.le_total 0 x with z | z
  · exact ⟨Int.mul_nonneg z z, Int.le_trans (Int.mul_le_mul h2 h2 z (by omega)) (by omega)⟩
  · refine ⟨Int.mul_nonneg_of_nonpos_of_nonpos z z, ?_⟩
    have : (-x) * (-x) ≤ 53600 * 53600 := Int.mul_le_mul (by omega) (by omega) (by omega) (by omega)
    rw [Int.neg_mul_neg] at this
    omega
/-- the two sides' sum of squares, as a long -/
theorem dq_l {I : St} (r : RC3 I) {a b m : Nat} (ha : a < (I 93 7).toInt.toNat) (hb : b < (I 93 7).toInt.toNat) (hm : m ≤ 240) : (((wX I a m - wX I b m).toInt64 * (wX I a m - wX I b m).toInt64) + ((wY I a m - wY I b m).toInt64 * (wY I a m - wY I b m).toInt64)).toInt = dq I a b m ∧ dq I a b m < 5745920001 := by
  have qa := w_rng r ha m hm
  have qb := w_rng r hb m hm
  have e1 : (wX I a m - wX I b m).toInt = (wX I a m).toInt - (wX I b m).toInt := fb_subI (by omega) (by omega)
  have e2 : (wY I a m - wY I b m).toInt = (wY I a m).toInt - (wY I b m).toInt := fb_subI (by omega) (by omega)
  have s1 := sq_rng (x := (wX I a m).toInt - (wX I b m).toInt) (by omega) (by omega)
  have s2 := sq_rng (x := (wY I a m).toInt - (wY I b m).toInt) (by omega) (by omega)
  unfold dq
  generalize hu : ((wX I a m).toInt - (wX I b m).toInt) * ((wX I a m).toInt - (wX I b m).toInt) = u at s1 ⊢
  generalize hw : ((wY I a m).toInt - (wY I b m).toInt) * ((wY I a m).toInt - (wY I b m).toInt) = w at s2 ⊢
  have f1 : ((wX I a m - wX I b m).toInt64 * (wX I a m - wX I b m).toInt64).toInt = u := by rw [sq64 (by omega) (by omega), e1, hu]
  have f2 : ((wY I a m - wY I b m).toInt64 * (wY I a m - wY I b m).toInt64).toInt = w := by rw [sq64 (by omega) (by omega), e2, hw]
  refine ⟨?_, by omega⟩
  rw [Int64.toInt_add, f1, f2, Int.bmod_eq_of_le (by omega) (by omega)]
  omega
theorem Wlk.row {I J : St} (w : Wlk I J) {p : Nat} (h : 26 ≤ p) (h2 : p ≠ 28) : J p = I p := w.1 p h h2
theorem apart_ok {G : GX} {d f : Nat} {sw : Bool} {I : St} {a b m : Nat} {Q : Option Value → Hp → Prop} (r : RC3 I) (ha : a < (I 93 7).toInt.toNat) (hb : b < (I 93 7).toInt.toNat) (hm : m ≤ 240) (q : ∀ (J : St) (x : Int64), Wlk I J → x.toInt = dq I a b m → Q (some (.long x)) (147, f, J, RP f sw)) : wp G (d + 60) (mt 49) 0 (en (mt 49) [.ref 2, .int (Int32.ofNat a), .int (Int32.ofNat b), .int (Int32.ofNat m)]) [] (147, f, I, RP f sw) Q := by
  obtain ⟨⟨s1, s2, s3⟩, -⟩ := id r
  have a4 : a < 4 := by omega
  have b4 : b < 4 := by omega
  have ca : (Int32.ofNat a).toNatClampNeg = a := kI_c (by omega)
  have cb : (Int32.ofNat b).toNatClampNeg = b := kI_c (by omega)
  have cm : (Int32.ofNat m).toNatClampNeg = m := kI_c (by omega)
  refine v_apart oks ?_
  refine walk_ok r (fun J w => ⟨_, rfl, rfl, ?_⟩)
  obtain ⟨w1, w2, w3, w4, w5⟩ := id w
  have hJ := w4.2.2.2.2.2.2.2.2 w5
  have j7 : J 93 7 = I 93 7 := by rw [w1 93 (by decide) (by decide)]
  rw [j7] at hJ
  have hx : ∀ s m, wX J s m = wX I s m ∧ wY J s m = wY I s m := by
    have ho : ∀ s m, ordK J s m = ordK I s m := fun s m => by
      unfold ordK
      rw [w1 101 (by decide) (by decide), w1 102 (by decide) (by decide), w1 93 (by decide) (by decide)]
    have hc : ∀ s m, crs J s m = crs I s m := fun s m => by
      unfold crs; rw [ho, w1 103 (by decide) (by decide)]
    have hv : ∀ s m, spd J s m = spd I s m := fun s m => by
      unfold spd; rw [ho, w1 104 (by decide) (by decide)]
    have hX : ∀ s m, wX J s m = wX I s m := fun s m => by
      induction m with
      | zero => show J 99 s = I 99 s; rw [w1 99 (by decide) (by decide)]
      | succ m ih => unfold wX; rw [ih, hc, hv, w1 97 (by decide) (by decide), w1 105 (by decide) (by decide)]
    have hY : ∀ s m, wY J s m = wY I s m := fun s m => by
      induction m with
      | zero => show J 100 s = I 100 s; rw [w1 100 (by decide) (by decide)]
      | succ m ih => unfold wY; rw [ih, hc, hv, w1 98 (by decide) (by decide), w1 106 (by decide) (by decide)]
    exact fun s m => ⟨hX s m, hY s m⟩
  have qa := (hJ a ha).1 m hm
  have qb := (hJ b hb).1 m hm
  rw [(hx a m).1, (hx a m).2] at qa
  rw [(hx b m).1, (hx b m).2] at qb
  have dd := dq_l r ha hb hm
  refine ck_of (kI_x (by omega) a4) ?_
  rw [ca, RP_x a4]
  refine st_iaload rfl rfl (by omega) (okB_x a4) (by rw [SH_x a4]; exact kI_x (by omega) (by show m < 241; omega)) ?_
  show wp G (d + 60) (mt 49) 8 _ [.int (J (12 + a) (Int32.ofNat m).toNatClampNeg)] (147, f, J, RP f sw) Q
  refine v_apart1 oks ?_
  refine ck_of (kI_x (by omega) b4) ?_
  rw [cb, RP_x b4]
  refine st_iaload rfl rfl (by omega) (okB_x b4) (by rw [SH_x b4]; exact kI_x (by omega) (by show m < 241; omega)) ?_
  show wp G (d + 60) (mt 49) 14 _ [.int (J (12 + b) (Int32.ofNat m).toNatClampNeg), .int (J (12 + a) (Int32.ofNat m).toNatClampNeg)] (147, f, J, RP f sw) Q
  refine v_apart2 oks ?_
  refine ck_of (kI_x (by omega) a4) ?_
  rw [ca, RP_y a4]
  refine st_iaload rfl rfl (by omega) (okB_y a4) (by rw [SH_y a4]; exact kI_x (by omega) (by show m < 241; omega)) ?_
  show wp G (d + 60) (mt 49) 22 _ [.int (J (17 + a) (Int32.ofNat m).toNatClampNeg), .long (J (12 + a) (Int32.ofNat m).toNatClampNeg - J (12 + b) (Int32.ofNat m).toNatClampNeg).toInt64] (147, f, J, RP f sw) Q
  refine v_apart3 oks ?_
  refine ck_of (kI_x (by omega) b4) ?_
  rw [cb, RP_y b4]
  refine st_iaload rfl rfl (by omega) (okB_y b4) (by rw [SH_y b4]; exact kI_x (by omega) (by show m < 241; omega)) ?_
  show wp G (d + 60) (mt 49) 28 _ [.int (J (17 + b) (Int32.ofNat m).toNatClampNeg), .int (J (17 + a) (Int32.ofNat m).toNatClampNeg), .long (J (12 + a) (Int32.ofNat m).toNatClampNeg - J (12 + b) (Int32.ofNat m).toNatClampNeg).toInt64] (147, f, J, RP f sw) Q
  refine v_apart4 oks ?_
  rw [cm, qa.1, qa.2, qb.1, qb.2]
  exact q J _ w dd.1
theorem Mapart_ok {G : GX} {d f : Nat} {sw : Bool} {I J : St} {a b m : Nat} {Q : Option Value → Hp → Prop} (r : RC3 I) (w : Way I J) (ha : a < (I 93 7).toInt.toNat) (hb : b < (I 93 7).toInt.toNat) (hm : m ≤ 240) (q : Q (some (.int (Int32.ofNat (rt (dq I a b m))))) (147, f, J, RP f sw)) : wp G (d + 40) (mt 202) 0 (en (mt 202) [.ref 93, .int (Int32.ofNat a), .int (Int32.ofNat b), .int (Int32.ofNat m)]) [] (147, f, J, RP f sw) Q := by
  obtain ⟨⟨s1, s2, s3⟩, -⟩ := id r
  have dd := dq_l r ha hb hm
  have wa := w.2 a ha m hm
  have wb := w.2 b hb m hm
  refine v_Mapart oks ?_
  rw [l241, l241, ← Int32.ofNat_add, ← Int32.ofNat_add, kI_c (by omega), kI_c (by omega), wa.1, wa.2, wb.1, wb.2]
  refine ck_of (kI_x (by omega) (by omega)) (ck_of (kI_x (by omega) (by omega)) (ck_of (kI_x (by omega) (by omega)) (ck_of (kI_x (by omega) (by omega)) ?_)))
  exact Mroot_ok dd.1 (by omega) ⟨_, _, rfl, rfl, q⟩
/-- whether one of the first n darks of a sort holds in a minute -/
def dk (so fr to : Nat → Int32) (s m : Int32) : Nat → Bool
  | 0 => false
  | k + 1 => dk so fr to s m k || decide (so k = s ∧ (fr k).toInt ≤ m.toInt ∧ m.toInt < (to k).toInt)
theorem dk_mono {so fr to : Nat → Int32} {s m : Int32} {k : Nat} (h : dk so fr to s m k = true) : ∀ n, k ≤ n → dk so fr to s m n = true
  | 0, hn => by rw [show k = 0 by omega] at h; exact h
  | n + 1, hn => by
    rcases Nat.eq_or_lt_of_le hn with e | e
    · rw [← e]; exact h
    · unfold dk; rw [dk_mono h n (by omega)]; rfl
theorem holdsK_loop {G : GX} {d f : Nat} {sw : Bool} {I : St} {s m : Int32} {n : Nat} {Q : Option Value → Hp → Prop} (hn : n ≤ 10) (h0 : I 7 3 = Int32.ofNat n) (q : Q (some (.int (b2 (dk (I 8) (I 9) (I 10) s m n)))) (147, f, I, RP f sw)) : ∀ (c k : Nat), k + c = n → dk (I 8) (I 9) (I 10) s m k = false → wp G (d + 10) (mt 48) 2 [some (.ref 7), some (.int s), some (.int m), some (.int (Int32.ofNat k))] [] (147, f, I, RP f sw) Q
  | 0, k, h, hd => by
    have e : k = n := by omega
    subst e
    refine v_holdsK2 oks ?_
    rw [h0, if_pos (by rw [tI_le]; omega)]
    rw [hd] at q
    exact q
  | c + 1, k, h, hd => by
    refine v_holdsK2 oks ?_
    rw [h0, if_neg (by rw [tI_le, kI_t (by omega), kI_t (by omega)]; omega), kI_1, kI_c (by omega)]
    have xk : ixB (Int32.ofNat k) 10 = true := kI_x (by omega) (by omega)
    have ih := holdsK_loop (G := G) (d := d) hn h0 q c (k + 1) (by omega)
    have e : dk (I 8) (I 9) (I 10) s m (k + 1) = decide (I 8 k = s ∧ (I 9 k).toInt ≤ m.toInt ∧ m.toInt < (I 10 k).toInt) := by unfold dk; rw [hd]; rfl
    refine ck_of xk ?_
    refine ite_i (fun z => ck_of xk (ite_i (fun z2 => ?_) (fun z2 => ck_of xk (ite_i (fun z3 => ?_) (fun z3 => ?_))))) (fun z => ?_)
    · rw [tI_lt] at z2
      exact ih (by rw [e, decide_eq_false (by omega)])
    · rw [tI_le] at z3
      exact ih (by rw [e, decide_eq_false (by omega)])
    · rw [tI_lt] at z2
      rw [tI_le] at z3
      have e2 : dk (I 8) (I 9) (I 10) s m n = true := dk_mono (k := k + 1) (by rw [e, decide_eq_true ⟨z, by omega, by omega⟩]) n (by omega)
      rw [e2] at q
      exact q
    · exact ih (by rw [e, decide_eq_false (fun y => z y.1)])
theorem Mdark_loop {G : GX} {d f : Nat} {sw : Bool} {I : St} {s m : Int32} {n : Nat} {Q : Option Value → Hp → Prop} (hn : n ≤ 10) (h0 : I 93 19 = Int32.ofNat n) (q : Q (some (.int (b2 (dk (I 109) (I 110) (I 111) s m n)))) (147, f, I, RP f sw)) : ∀ (c k : Nat), k + c = n → wp G (d + 10) (mt 201) 4 [some (.ref 93), some (.int s), some (.int m), some (.int (b2 (dk (I 109) (I 110) (I 111) s m k))), some (.int (Int32.ofNat k))] [] (147, f, I, RP f sw) Q
  | 0, k, h => by
    have e : k = n := by omega
    subst e
    refine v_MisDark4 oks ?_
    rw [h0, if_pos (by rw [tI_le]; omega)]
    refine ck_of ?_ q
    cases dk (I 109) (I 110) (I 111) s m k <;> rfl
  | c + 1, k, h => by
    refine v_MisDark4 oks ?_
    rw [h0, if_neg (by rw [tI_le, kI_t (by omega), kI_t (by omega)]; omega), kI_1, kI_c (by omega)]
    have xk : ixB (Int32.ofNat k) 10 = true := kI_x (by omega) (by omega)
    have ih := Mdark_loop (G := G) (d := d) hn h0 q c (k + 1) (by omega)
    cases hd : dk (I 109) (I 110) (I 111) s m k with
    | false =>
      rw [if_pos (show b2 false = 0 from rfl)]
      have e : dk (I 109) (I 110) (I 111) s m (k + 1) = decide (I 109 k = s ∧ (I 110 k).toInt ≤ m.toInt ∧ m.toInt < (I 111 k).toInt) := by unfold dk; rw [hd]; rfl
      rw [e] at ih
      refine ck_of xk ?_
      refine ite_i (fun z => ck_of xk (ite_i (fun z2 => ?_) (fun z2 => ck_of xk (ite_i (fun z3 => ?_) (fun z3 => ?_))))) (fun z => ?_)
      · rw [tI_lt] at z2
        rw [decide_eq_false (by omega)] at ih
        exact ih
      · rw [tI_le] at z3
        rw [decide_eq_false (by omega)] at ih
        exact ih
      · rw [tI_lt] at z2
        rw [tI_le] at z3
        rw [decide_eq_true ⟨z, by omega, by omega⟩] at ih
        exact ih
      · rw [decide_eq_false (fun y => z y.1)] at ih
        exact ih
    | true =>
      rw [if_neg (show ¬ b2 true = 0 by decide)]
      have e : dk (I 109) (I 110) (I 111) s m (k + 1) = true := by unfold dk; rw [hd]; rfl
      rw [e] at ih
      exact ih
theorem holdsK_ok {G : GX} {d f : Nat} {sw : Bool} {I : St} {s m : Int32} {n : Nat} {Q : Option Value → Hp → Prop} (hn : n ≤ 10) (h0 : I 7 3 = Int32.ofNat n) (q : Q (some (.int (b2 (dk (I 8) (I 9) (I 10) s m n)))) (147, f, I, RP f sw)) : wp G (d + 10) (mt 48) 0 (en (mt 48) [.ref 7, .int s, .int m]) [] (147, f, I, RP f sw) Q := by
  refine v_holdsK oks ?_
  exact holdsK_loop hn h0 q n 0 (by omega) rfl
theorem Mdark_ok {G : GX} {d f : Nat} {sw : Bool} {I : St} {s m : Int32} {n : Nat} {Q : Option Value → Hp → Prop} (hn : n ≤ 10) (h0 : I 93 19 = Int32.ofNat n) (q : Q (some (.int (b2 (dk (I 109) (I 110) (I 111) s m n)))) (147, f, I, RP f sw)) : wp G (d + 10) (mt 201) 0 (en (mt 201) [.ref 93, .int s, .int m]) [] (147, f, I, RP f sw) Q := by
  refine v_MisDark oks ?_
  exact Mdark_loop hn h0 q n 0 (by omega)
