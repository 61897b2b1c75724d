/-! CALLS: quarrel -/
theorem RC6.ro {f : Nat} {I J : St} (h : ∀ p k, (p = 47 ∧ k ≠ 0) ∨ p = 49 ∨ p = 52 ∨ (120 ≤ p ∧ p ≤ 128) ∨ 1000 ≤ p ∧ p < 2000 → J p k = I p k) (h35 : J 93 35 = I 93 35) (r : RC6 f I) : RC6 f J := by
  obtain ⟨r1, r2, r3, r4, r5⟩ := r
  have e : ∀ p, 120 ≤ p → p ≤ 128 → J p = I p := fun p h1 h2 => funext fun k => h p k (by omega)
  refine ⟨r1, (h 47 1 (by omega)).trans r2, h35.trans r3, fun k hk => ?_, r5.ro (fun p k q => h p k (by omega))⟩
  have e0 : J (1000 + k) = I (1000 + k) := funext fun i => h _ i (by omega)
  rw [e0, e 120 (by decide) (by decide), e 121 (by decide) (by decide), e 122 (by decide) (by decide), e 123 (by decide) (by decide), e 124 (by decide) (by decide), e 125 (by decide) (by decide), e 126 (by decide) (by decide), e 127 (by decide) (by decide), e 128 (by decide) (by decide)]
  exact r4 k hk
theorem per3 {x : Int32} (h0 : 0 ≤ x.toInt) (h2 : x.toInt ≤ 2) : x = 0 ∨ x = 1 ∨ x = 2 := by
  rw [tI_eq, tI_eq, tI_eq]
  simp only [Int32.reduceToInt]
  omega
/-- the clocks are within 3 -/
def Clk (c0 c1 c2 : Int) : Prop := (-3 ≤ c0 ∧ c0 ≤ 3) ∧ (-3 ≤ c1 ∧ c1 ≤ 3) ∧ -3 ≤ c2 ∧ c2 ≤ 3
theorem tm_rng {f k : Nat} {I : St} {c0 c1 c2 : Int} (r : RC6 f I) (hc : Clk c0 c1 c2) (hk : k < f) : -3 ≤ tmF I c0 c1 c2 k ∧ tmF I c0 c1 c2 k ≤ 242 := by
  obtain ⟨-, -, -, r4, -⟩ := r
  have q := (r4 k hk).2.2.2.1.2
  obtain ⟨⟨a1, a2⟩, ⟨a3, a4⟩, a5, a6⟩ := hc
  unfold tmF
  cases wdF I k with
  | false => simp only; omega
  | true =>
    simp only
    by_cases h0 : I 126 k = 0
    · rw [if_pos h0]; omega
    · rw [if_neg h0]
      by_cases h1 : I 126 k = 1
      · rw [if_pos h1]; omega
      · rw [if_neg h1]; omega
theorem wd_t {I : St} {k : Nat} (h : I 120 k = 1 ∨ I 120 k = 2) : wdF I k = true := by
  unfold wdF
  rcases h with e | e <;> (rw [e]; rfl)
theorem wd_f {I : St} {k : Nat} (h : I 120 k ≠ 1) (h2 : I 120 k ≠ 2) : wdF I k = false := by
  unfold wdF
  rw [decide_eq_false h, decide_eq_false h2]; rfl
theorem tmF_t {I : St} {c0 c1 c2 : Int} {k : Nat} (h : wdF I k = true) : tmF I c0 c1 c2 k = (I 122 k).toInt + (if I 126 k = 0 then c0 else if I 126 k = 1 then c1 else c2) := by
  unfold tmF; rw [h]
theorem tmF_f {I : St} {c0 c1 c2 : Int} {k : Nat} (h : wdF I k = false) : tmF I c0 c1 c2 k = (I 122 k).toInt := by
  unfold tmF; rw [h]; simp only; omega
/-- the facts as they stand in I are those of J -/
def FJ (I J : St) : Prop := (∀ k, J (1000 + k) = I (1000 + k)) ∧ J 52 = I 52 ∧ ∀ p, 120 ≤ p → p ≤ 128 → J p = I p
theorem byClock_ok {G : GX} {d f k : Nat} {sw : Bool} {I J : St} {c0 c1 c2 : Int} {Q : Option Value → Hp → Prop} (r : RC6 f I) (hj : FJ I J) (hc : Clk c0 c1 c2) (k0 : (J 50 0).toInt = c0) (k1 : (J 50 1).toInt = c1) (k2 : (J 50 2).toInt = c2) (hk : k < f) (q : ∀ x : Int32, x.toInt = tmF I c0 c1 c2 k → Q (some (.int x)) (147, f, J, RP f sw)) : wp G (d + 40) (mt 94) 0 (en (mt 94) [.ref 47, .ref (1000 + k)]) [] (147, f, J, RP f sw) Q := by
  obtain ⟨r1, r2, r3, r4, -⟩ := id r
  obtain ⟨⟨p0, p0a, p0b⟩, ⟨p1, p1a, p1b⟩, -, ⟨p3, p3a, p3b⟩, -⟩ := r4 k hk
  obtain ⟨⟨c1a, c1b⟩, ⟨c2a, c2b⟩, c3a, c3b⟩ := id hc
  have word : wdF I k = true → (I 122 k + J 50 (I 126 k).toNatClampNeg).toInt = tmF I c0 c1 c2 k := fun h => by
    rw [tmF_t h]
    rcases per3 p1a p1b with e | e | e
    · rw [e, if_pos rfl, show (0 : Int32).toNatClampNeg = 0 from rfl, fb_addI (by omega) (by omega), k0]
    · rw [e, if_neg (by decide), if_pos rfl, show (1 : Int32).toNatClampNeg = 1 from rfl, fb_addI (by omega) (by omega), k1]
    · rw [e, if_neg (by decide), if_neg (by decide), show (2 : Int32).toNatClampNeg = 2 from rfl, fb_addI (by omega) (by omega), k2]
  refine v_byClock oks ?_
  rw [hj.1 k, p0, p1, p3]
  refine ck_of (okB_fa hk) (ck_of (okB_fa hk) ?_)
  refine ite_i (fun z => ?_) (fun z => ?_)
  · refine ck_of (okB_fa hk) (ck_of (okB_fa hk) (ck_of (ixB_i (by omega) (by omega)) ?_))
    exact q _ (word (wd_t (Or.inl z)))
  · refine ck_of (okB_fa hk) ?_
    refine ite_i (fun z2 => ?_) (fun z2 => ?_)
    · refine ck_of (okB_fa hk) (ck_of (okB_fa hk) (ck_of (ixB_i (by omega) (by omega)) ?_))
      exact q _ (word (wd_t (Or.inr z2)))
    · refine ck_of (okB_fa hk) ?_
      exact q _ (tmF_f (wd_f z z2)).symm
theorem abZ_p {z : Int} (h : 0 ≤ z) : abZ z = z := by unfold abZ; rw [if_neg (by omega)]
theorem abZ_n {z : Int} (h : z ≤ 0) : abZ z = -z := by
  unfold abZ
  by_cases c : z < 0
  · rw [if_pos c]
  · rw [if_neg c]; omega
theorem qr_by {f a b : Nat} {I : St} {c0 c1 c2 : Int} (r : RC6 f I) (ha : a < f) (hb : b < f) (hn : a ≠ b) : qrF I c0 c1 c2 a b = decide (50 * abZ (tmF I c0 c1 c2 a - tmF I c0 c1 c2 b) < (I 52 (12 * a + b)).toInt) := by
  have e := r.2.2.2.2.1 a b ha hb hn
  have h0 : 0 ≤ abZ (tmF I c0 c1 c2 a - tmF I c0 c1 c2 b) := by
    unfold abZ; split <;> omega
  unfold qrF
  rw [e]
  by_cases c : I 121 a = I 121 b
  · rw [if_pos c, decide_eq_true c, Bool.true_and]
    congr 1
    apply propext
    constructor <;> (intro _; omega)
  · rw [if_neg c, decide_eq_false c, Bool.false_and]
    exact (decide_eq_false (by omega)).symm
theorem isQuarrel_ok {G : GX} {d f a b : Nat} {sw : Bool} {I J : St} {c0 c1 c2 : Int} {Q : Option Value → Hp → Prop} (r : RC6 f I) (hj : FJ I J) (hc : Clk c0 c1 c2) (k0 : (J 50 0).toInt = c0) (k1 : (J 50 1).toInt = c1) (k2 : (J 50 2).toInt = c2) (ha : a < f) (hb : b < f) (hn : a ≠ b) (q : Q (some (.int (b2 (qrF I c0 c1 c2 a b)))) (147, f, J, RP f sw)) : wp G (d + 60) (mt 93) 0 (en (mt 93) [.ref 47, .int (Int32.ofNat a), .int (Int32.ofNat b)]) [] (147, f, J, RP f sw) Q := by
  obtain ⟨r1, r2, r3, r4, -⟩ := id r
  have i1 : (Int32.ofNat a * 12 + Int32.ofNat b) = Int32.ofNat (12 * a + b) := by rw [l12, ← Int32.ofNat_add]
  refine v_isQuarrel oks ?_
  rw [i1]
  refine ck_of (kI_x (by omega) (by omega)) (ck_of (kI_x (by omega) (by omega)) ?_)
  rw [kI_c (show a < 2147483648 by omega), RP_fa ha]
  refine byClock_ok r hj hc k0 k1 k2 ha (fun x hx => ⟨_, _, rfl, rfl, ?_⟩)
  refine ck_of (kI_x (by omega) (by omega)) ?_
  rw [kI_c (show b < 2147483648 by omega), RP_fa hb]
  refine byClock_ok r hj hc k0 k1 k2 hb (fun y hy => ⟨_, _, rfl, rfl, ?_⟩)
  have ra := tm_rng r hc ha
  have rb := tm_rng r hc hb
  have e1 : (x - y).toInt = tmF I c0 c1 c2 a - tmF I c0 c1 c2 b := by rw [fb_subI (by omega) (by omega), hx, hy]
  have e3 : (0 - (x - y)).toInt = -(tmF I c0 c1 c2 a - tmF I c0 c1 c2 b) := by rw [fb_subI (by rw [e1]; simp only [Int32.reduceToInt]; omega) (by rw [e1]; simp only [Int32.reduceToInt]; omega), e1]; simp only [Int32.reduceToInt]; omega
  have e2 : (50 * (if 0 ≤ x - y then x - y else 0 - (x - y))).toInt = 50 * abZ (tmF I c0 c1 c2 a - tmF I c0 c1 c2 b) := by
    have t50 : (50 : Int32).toInt = 50 := by decide
    by_cases c : 0 ≤ x - y
    · have c2 := c
      rw [tI_le, e1] at c2
      simp only [Int32.reduceToInt] at c2
      rw [if_pos c, abZ_p c2, fb_mulI (by rw [e1, t50]; omega) (by rw [e1, t50]; omega), e1, t50]
    · have c2 := c
      rw [tI_le, e1] at c2
      simp only [Int32.reduceToInt] at c2
      rw [if_neg c, abZ_n (by omega), fb_mulI (by rw [e3, t50]; omega) (by rw [e3, t50]; omega), e3, t50]
  rw [kI_c (show 12 * a + b < 2147483648 by omega), hj.2.1]
  rw [qr_by r ha hb hn] at q
  refine ite_i (fun z => ?_) (fun z => ?_)
  · rw [tI_le, e2] at z
    rw [decide_eq_false (by omega)] at q
    exact q
  · rw [tI_le, e2] at z
    rw [decide_eq_true (by omega)] at q
    exact q
theorem MtimeOf_ok {G : GX} {d f k : Nat} {sw : Bool} {I J : St} {x y z : Int32} {Q : Option Value → Hp → Prop} (r : RC6 f I) (hj : FJ I J) (hc : Clk x.toInt y.toInt z.toInt) (hk : k < f) (q : ∀ t : Int32, t.toInt = tmF I x.toInt y.toInt z.toInt k → Q (some (.int t)) (147, f, J, RP f sw)) : wp G (d + 20) (mt 226) 0 (en (mt 226) [.ref 93, .int (Int32.ofNat k), .int x, .int y, .int z]) [] (147, f, J, RP f sw) Q := by
  obtain ⟨r1, r2, r3, r4, -⟩ := id r
  obtain ⟨⟨p0, p0a, p0b⟩, ⟨p1, p1a, p1b⟩, -, ⟨p3, p3a, p3b⟩, -⟩ := r4 k hk
  obtain ⟨⟨c1a, c1b⟩, ⟨c2a, c2b⟩, c3a, c3b⟩ := id hc
  have kx : ixB (Int32.ofNat k) 12 = true := kI_x (by omega) (by omega)
  have word : ∀ (v : Int32) (c : Int), wdF I k = true → v.toInt = c → (if I 126 k = 0 then x.toInt else if I 126 k = 1 then y.toInt else z.toInt) = c → -3 ≤ c → c ≤ 3 → (I 122 k + v).toInt = tmF I x.toInt y.toInt z.toInt k := fun v c h1 h2 h3 h4 h5 => by
    rw [tmF_t h1, h3, fb_addI (by omega) (by omega), h2]
  have noW : I 120 k ≠ 1 → I 120 k ≠ 2 → (I 122 k + 0).toInt = tmF I x.toInt y.toInt z.toInt k := fun h1 h2 => by
    rw [tmF_f (wd_f h1 h2), Int32.add_zero]
  refine v_MtimeOf oks ?_
  rw [kI_c (by omega), hj.2.2 126 (by decide) (by decide), hj.2.2 120 (by decide) (by decide), hj.2.2 122 (by decide) (by decide)]
  simp only [kx, ck]
  repeat' (refine ite_i (fun _ => ?_) (fun _ => ?_))
  all_goals rename_i z1 z2
  all_goals first
    | exact q _ (word _ _ (wd_t (Or.inl (by assumption))) rfl (by rw [if_pos (by assumption)]) (by omega) (by omega))
    | exact q _ (word _ _ (wd_t (Or.inr (by assumption))) rfl (by rw [if_pos (by assumption)]) (by omega) (by omega))
    | exact q _ (word _ _ (wd_t (Or.inl (by assumption))) rfl (by rw [if_neg (by assumption), if_pos (by assumption)]) (by omega) (by omega))
    | exact q _ (word _ _ (wd_t (Or.inr (by assumption))) rfl (by rw [if_neg (by assumption), if_pos (by assumption)]) (by omega) (by omega))
    | exact q _ (word _ _ (wd_t (Or.inl (by assumption))) rfl (by rw [if_neg (by assumption), if_neg (by assumption)]) (by omega) (by omega))
    | exact q _ (word _ _ (wd_t (Or.inr (by assumption))) rfl (by rw [if_neg (by assumption), if_neg (by assumption)]) (by omega) (by omega))
    | exact q _ (noW (by assumption) (by assumption))
theorem d2_ok {f a b : Nat} {I : St} (r : RC6 f I) (ha : a < f) (hb : b < f) : (((I 123 a - I 123 b).toInt64 * (I 123 a - I 123 b).toInt64) + ((I 124 a - I 124 b).toInt64 * (I 124 a - I 124 b).toInt64)).toInt = (d2F I a b : Int) ∧ d2F I a b < 5745920001 := by
  obtain ⟨-, -, -, r4, -⟩ := r
  have q := r4 a ha
  have p := r4 b hb
  exact sq2 q.2.2.2.2.2.1.2 p.2.2.2.2.2.1.2 q.2.2.2.2.2.2.1.2 p.2.2.2.2.2.2.1.2
theorem MisQuarrel_ok {G : GX} {d f a b : Nat} {sw : Bool} {I J : St} {x y z : Int32} {Q : Option Value → Hp → Prop} (r : RC6 f I) (hj : FJ I J) (hc : Clk x.toInt y.toInt z.toInt) (ha : a < f) (hb : b < f) (q : Q (some (.int (b2 (qrF I x.toInt y.toInt z.toInt a b)))) (147, f, J, RP f sw)) : wp G (d + 40) (mt 225) 0 (en (mt 225) [.ref 93, .int (Int32.ofNat a), .int (Int32.ofNat b), .int (Int32.ofNat (rt (d2F I a b))), .int x, .int y, .int z]) [] (147, f, J, RP f sw) Q := by
  obtain ⟨r1, r2, r3, r4, -⟩ := id r
  have ra := tm_rng r hc ha
  have rb := tm_rng r hc hb
  have qa := (r4 a ha).2.2.2.2.2.2.2.1.2
  have qb := (r4 b hb).2.2.2.2.2.2.2.1.2
  have d2 := (d2_ok r ha hb).2
  have rs := rt_small (v := d2F I a b) (by omega)
  have tr : (Int32.ofNat (rt (d2F I a b))).toInt = (rt (d2F I a b) : Int) := kI_t (by omega)
  have t50 : (50 : Int32).toInt = 50 := by decide
  refine v_MisQuarrel oks ?_
  refine MtimeOf_ok r hj hc ha (fun t ht => ⟨_, _, rfl, rfl, ?_⟩)
  refine MtimeOf_ok r hj hc hb (fun t2 ht2 => ⟨_, _, rfl, rfl, ?_⟩)
  have e1 : (t - t2).toInt = tmF I x.toInt y.toInt z.toInt a - tmF I x.toInt y.toInt z.toInt b := by rw [fb_subI (by omega) (by omega), ht, ht2]
  have e2 : (-(t - t2)).toInt = -(tmF I x.toInt y.toInt z.toInt a - tmF I x.toInt y.toInt z.toInt b) := by
    rw [show -(t - t2) = 0 - (t - t2) from (Int32.zero_sub _).symm, fb_subI (by rw [e1]; simp only [Int32.reduceToInt]; omega) (by rw [e1]; simp only [Int32.reduceToInt]; omega), e1]; simp only [Int32.reduceToInt]; omega
  have e3 : (I 125 a + I 125 b).toInt = (I 125 a).toInt + (I 125 b).toInt := fb_addI (by omega) (by omega)
  have e4 : (50 * (t - t2)).toInt = 50 * (tmF I x.toInt y.toInt z.toInt a - tmF I x.toInt y.toInt z.toInt b) := by
    rw [fb_mulI (by rw [e1, t50]; omega) (by rw [e1, t50]; omega), e1, t50]
  have e5 : (50 * -(t - t2)).toInt = 50 * -(tmF I x.toInt y.toInt z.toInt a - tmF I x.toInt y.toInt z.toInt b) := by
    rw [fb_mulI (by rw [e2, t50]; omega) (by rw [e2, t50]; omega), e2, t50]
  have e6 : (I 125 a + I 125 b + 50 * (t - t2)).toInt = (I 125 a).toInt + (I 125 b).toInt + 50 * (tmF I x.toInt y.toInt z.toInt a - tmF I x.toInt y.toInt z.toInt b) := by
    rw [fb_addI (by rw [e3, e4]; omega) (by rw [e3, e4]; omega), e3, e4]
  have e7 : (I 125 a + I 125 b + 50 * -(t - t2)).toInt = (I 125 a).toInt + (I 125 b).toInt + 50 * -(tmF I x.toInt y.toInt z.toInt a - tmF I x.toInt y.toInt z.toInt b) := by
    rw [fb_addI (by rw [e3, e5]; omega) (by rw [e3, e5]; omega), e3, e5]
  rw [kI_c (show a < 2147483648 by omega), kI_c (show b < 2147483648 by omega), hj.2.2 121 (by decide) (by decide), hj.2.2 125 (by decide) (by decide)]
  refine ck_of (kI_x (by omega) (by omega)) (ck_of (kI_x (by omega) (by omega)) ?_)
  unfold qrF at q
  refine ite_i (fun z1 => ?_) (fun z1 => ?_)
  · rw [decide_eq_true z1, Bool.true_and] at q
    refine ck_of (kI_x (by omega) (by omega)) (ck_of (kI_x (by omega) (by omega)) ?_)
    simp only [tI_le, e1, e6, e7, tr, Int32.reduceToInt]
    repeat' (refine ite_i (fun _ => ?_) (fun _ => ?_))
    all_goals first
      | (rw [abZ_p (by omega), decide_eq_false (by omega)] at q; exact q)
      | (rw [abZ_p (by omega), decide_eq_true (by omega)] at q; exact q)
      | (rw [abZ_n (by omega), decide_eq_false (by omega)] at q; exact q)
      | (rw [abZ_n (by omega), decide_eq_true (by omega)] at q; exact q)
  · rw [decide_eq_false z1, Bool.false_and] at q
    exact q
theorem b2_0 (b : Bool) : (b2 b = 0) = (b = false) := by cases b <;> decide
theorem co_quarrel {G : GX} (a b x y z : Int32) : CO (Rel G) G 90 222 [.int a, .int b, .int x, .int y, .int z] := fun f sw I hR => by
  have r := hR.2.2.2.2.2.2.1
  obtain ⟨b1, b2', b3, b4, -⟩ := id r
  have e3 : (Int32.ofNat f - 1).toInt = (f : Int) - 1 := by
    rw [fb_subI (by rw [kI_t (by omega)]; simp only [Int32.reduceToInt]; omega) (by rw [kI_t (by omega)]; simp only [Int32.reduceToInt]; omega), kI_t (by omega)]; simp only [Int32.reduceToInt]
  refine v_Cquarrel oks ?_
  rw [b2']
  simp only [tI_lt, tI_le, Int32.reduceToInt, Int32.reduceOfNat, e3, tI_eq a]
  repeat' (refine ite_i (fun _ => ?_) (fun _ => ?_))
  all_goals first
    | (exfalso; omega)
    | (refine ⟨_, f, sw, I, (by first | rfl | trivial), rfl, hR.1, v_Mquarrel oks ?_⟩
       rw [b3]
       try simp only [lcl, lcg, w64]
       simp only [tI_lt, tI_le, Int32.reduceToInt, Int64.reduceToInt, Int32.reduceOfNat, e3, tI_eq a]
       repeat' (refine ite_i (fun _ => ?_) (fun _ => ?_))
       all_goals first
         | (exfalso; omega)
         | exact ⟨_, (by first | rfl | trivial), rfl, hR.free (Ag.rf.up rfl)⟩)
    | skip
  obtain ⟨a0, hA, ta⟩ : ∃ k : Nat, a = Int32.ofNat k ∧ a.toInt = (k : Int) := ⟨a.toInt.toNat, kI_of (by omega), by omega⟩
  obtain ⟨c0, hC, tb⟩ : ∃ k : Nat, b = Int32.ofNat k ∧ b.toInt = (k : Int) := ⟨b.toInt.toNat, kI_of (by omega), by omega⟩
  subst hA hC
  have hc : Clk x.toInt y.toInt z.toInt := ⟨⟨by omega, by omega⟩, ⟨by omega, by omega⟩, by omega, by omega⟩
  obtain ⟨J, hJ⟩ : ∃ J, upI (upI (upI I 50 0 x) 50 1 y) 50 2 z = J := ⟨_, rfl⟩
  have jr : ∀ p, p ≠ 50 → J p = I p := fun p hp => by rw [← hJ, upI_row hp, upI_row hp, upI_row hp]
  have fj : FJ I J := ⟨fun k => jr _ (by omega), jr 52 (by decide), fun p h1 h2 => jr p (by omega)⟩
  have j0 : J 50 0 = x := by rw [← hJ]; rfl
  have j1 : J 50 1 = y := by rw [← hJ]; rfl
  have j2 : J 50 2 = z := by rw [← hJ]; rfl
  rw [hJ]
  refine isQuarrel_ok r fj hc (by rw [j0]) (by rw [j1]) (by rw [j2]) (by omega) (by omega) (by omega) ⟨_, _, rfl, rfl, ?_⟩
  have ag : Ag [6, 11] I J := fun p k hq => by
    by_cases h1 : p = 50
    · subst h1; rw [show cmp 50 k = 6 from rfl] at hq; cases hq
    · rw [jr p h1]
  have fjM : FJ I (upI J 93 0 0) := ⟨fun k => by rw [upI_row (by omega)]; exact fj.1 k, by rw [upI_row (by decide)]; exact fj.2.1, fun p h1 h2 => by rw [upI_row (by omega)]; exact fj.2.2 p h1 h2⟩
  have rel : Rel G f sw (upI J 93 0 0) := by
    refine hR.upd [6, 11] (ag.up (show [6, 11].contains (cmp 93 0) = true from rfl)) rfl nof nof nof nof nof (fun _ => ?_) nof nof nof nof
    exact r.ro (fun p k h => by rw [upI_row (by omega), jr p (by omega)]) (by rw [upI_nk (by decide), jr 93 (by decide)])
  have keyM : ∀ v : Int32, v = b2 (qrF I x.toInt y.toInt z.toInt a0 c0) → wp G 999 (mt 222) 0 (en (mt 222) [.ref 93, .int (Int32.ofNat a0), .int (Int32.ofNat c0), .int x, .int y, .int z]) [] (147, f, J, RP f sw) (fun r2 h2 => ∃ I2, r2 = some (.int v) ∧ h2 = (147, f, I2, RP f sw) ∧ Rel G f sw I2) := fun v hv => by
    refine v_Mquarrel oks ?_
    rw [show J 93 35 = Int32.ofNat f by rw [jr 93 (by decide)]; exact b3]
    simp only [lcl, lcg, w64]
    simp only [tI_lt, tI_le, Int32.reduceToInt, Int64.reduceToInt, Int32.reduceOfNat, e3, tI_eq (Int32.ofNat a0)]
    repeat' (refine ite_i (fun _ => ?_) (fun _ => ?_))
    all_goals first
      | (exfalso; omega)
      | skip
    repeat (refine ck_of (kI_x (by omega) (by omega)) ?_)
    rw [kI_c (show a0 < 2147483648 by omega), kI_c (show c0 < 2147483648 by omega), jr 123 (by decide), jr 124 (by decide)]
    have d2 := d2_ok r (show a0 < f by omega) (show c0 < f by omega)
    refine Mroot_ok d2.1 (by omega) ⟨_, _, rfl, rfl, ?_⟩
    refine MisQuarrel_ok r fjM hc (by omega) (by omega) ⟨_, _, rfl, rfl, ?_⟩
    refine ite_i (fun z => ?_) (fun z => ?_)
    · rw [b2_0] at z
      rw [z] at hv
      exact ⟨_, by rw [hv]; rfl, rfl, rel⟩
    · rw [b2_0, Bool.not_eq_false] at z
      rw [z] at hv
      exact ⟨_, by rw [hv]; rfl, rfl, rel⟩
  refine ite_i (fun z => ?_) (fun z => ?_)
  · rw [b2_0] at z
    exact ⟨_, f, sw, J, rfl, rfl, hR.rx ag rfl, keyM _ (by rw [z]; rfl)⟩
  · rw [b2_0, Bool.not_eq_false] at z
    exact ⟨_, f, sw, J, rfl, rfl, hR.rx ag rfl, keyM _ (by rw [z]; rfl)⟩
