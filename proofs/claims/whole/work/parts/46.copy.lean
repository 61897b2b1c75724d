/-! CALLS: copy -/
/-- of n numbers that go from A on to B on, those from lo to hi have gone -/
def cpI (I : St) (A B lo hi : Nat) : St := fun q k => if q = 96 then (if B + lo ≤ k ∧ k < B + hi then I 96 (A + (k - B)) else I q k) else I q k
theorem cpI_0 (I : St) (A B lo : Nat) : cpI I A B lo lo = I := by
  funext q k
  simp only [cpI]
  grind
theorem cpI_up {I : St} {A B c : Nat} : upI (cpI I A B 0 c) 96 (B + c) (I 96 (A + c)) = cpI I A B 0 (c + 1) := by
  funext q k
  simp only [upI_ap, cpI]
  grind
theorem cpI_dn {I : St} {A B lo hi : Nat} (h : lo < hi) : upI (cpI I A B (lo + 1) hi) 96 (B + lo) (I 96 (A + lo)) = cpI I A B lo hi := by
  funext q k
  simp only [upI_ap, cpI]
  grind
theorem up_loop {G : GX} {d f : Nat} {sw : Bool} {I : St} {a i b j n : Nat} {Q : Option Value → Hp → Prop} (ha : a < 8) (hb : b < 8) (hi : i + n ≤ 120) (hj : j + n ≤ 120) (hd : j ≤ i) (q : Q (some (.int (Int32.ofNat n))) (147, f, cpI I (120 * a + i) (120 * b + j) 0 n, RP f sw)) : ∀ (m c : Nat), c + m = n → wp G (d + 10) (mt 187) 84 [some (.ref 93), some (.int (Int32.ofNat a)), some (.int (Int32.ofNat i)), some (.int (Int32.ofNat b)), some (.int (Int32.ofNat j)), some (.int (Int32.ofNat n)), some (.int 1), some (.int (Int32.ofNat c)), none] [] (147, f, cpI I (120 * a + i) (120 * b + j) 0 c, RP f sw) Q
  | 0, c, h => by
    have e : c = n := by omega
    subst e
    refine v_Mcopy84 oks ?_
    rw [if_pos (by rw [tI_le]; omega)]
    exact q
  | m + 1, c, h => by
    refine v_Mcopy84 oks ?_
    rw [if_neg (by rw [tI_le, kI_t (by omega), kI_t (by omega)]; omega), if_neg (by decide)]
    refine v_Mcopy97 oks ?_
    rw [l120, l120, ← Int32.ofNat_add, ← Int32.ofNat_add, ← Int32.ofNat_add, ← Int32.ofNat_add, kI_1]
    refine ck_of (kI_x (by omega) (by omega)) (ck_of (kI_x (by omega) (by omega)) ?_)
    rw [kI_c (by omega), kI_c (by omega)]
    have e : cpI I (120 * a + i) (120 * b + j) 0 c 96 (120 * a + i + c) = I 96 (120 * a + i + c) := by
      unfold cpI
      rw [if_pos rfl, if_neg (by omega)]
    rw [e, cpI_up]
    exact up_loop ha hb hi hj hd q m (c + 1) (by omega)
theorem dn_loop {G : GX} {d f : Nat} {sw : Bool} {I : St} {a i b j n : Nat} {Q : Option Value → Hp → Prop} (ha : a < 8) (hb : b < 8) (hi : i + n ≤ 120) (hj : j + n ≤ 120) (hd : i < j) (q : Q (some (.int (Int32.ofNat n))) (147, f, cpI I (120 * a + i) (120 * b + j) 0 n, RP f sw)) : ∀ (m c : Nat), c + m = n → wp G (d + 10) (mt 187) 84 [some (.ref 93), some (.int (Int32.ofNat a)), some (.int (Int32.ofNat i)), some (.int (Int32.ofNat b)), some (.int (Int32.ofNat j)), some (.int (Int32.ofNat n)), some (.int 0), some (.int (Int32.ofNat c)), none] [] (147, f, cpI I (120 * a + i) (120 * b + j) m n, RP f sw) Q
  | 0, c, h => by
    have e : c = n := by omega
    subst e
    refine v_Mcopy84 oks ?_
    rw [if_pos (by rw [tI_le]; omega)]
    exact q
  | m + 1, c, h => by
    have ht : Int32.ofNat n - 1 - Int32.ofNat c = Int32.ofNat m := by
      have h1 : (Int32.ofNat n).toInt = n := kI_t (by omega)
      have h2 : (Int32.ofNat c).toInt = c := kI_t (by omega)
      have h3 : (Int32.ofNat n - 1).toInt = n - 1 := by rw [fb_subI (by simp only [Int32.reduceToInt]; omega) (by simp only [Int32.reduceToInt]; omega), h1]; rfl
      rw [tI_eq, kI_t (by omega), fb_subI (by omega) (by omega), h3, h2]
      omega
    refine v_Mcopy84 oks ?_
    rw [if_neg (by rw [tI_le, kI_t (by omega), kI_t (by omega)]; omega), if_pos rfl, ht]
    refine v_Mcopy97 oks ?_
    rw [l120, l120, ← Int32.ofNat_add, ← Int32.ofNat_add, ← Int32.ofNat_add, ← Int32.ofNat_add, kI_1]
    refine ck_of (kI_x (by omega) (by omega)) (ck_of (kI_x (by omega) (by omega)) ?_)
    rw [kI_c (by omega), kI_c (by omega)]
    have e : cpI I (120 * a + i) (120 * b + j) (m + 1) n 96 (120 * a + i + m) = I 96 (120 * a + i + m) := by
      unfold cpI
      rw [if_pos rfl, if_neg (by omega)]
    rw [e, cpI_dn (by omega)]
    exact dn_loop ha hb hi hj hd q m (c + 1) (by omega)
theorem cp_ok {G : GX} {d f : Nat} {sw : Bool} {I : St} {a i b j n : Nat} {Q : Option Value → Hp → Prop} (ha : a < 8) (hb : b < 8) (hi : i + n ≤ 120) (hj : j + n ≤ 120) (q : Q (some (.int (Int32.ofNat n))) (147, f, cpI I (120 * a + i) (120 * b + j) 0 n, RP f sw)) : wp G (d + 10) (mt 187) 75 [some (.ref 93), some (.int (Int32.ofNat a)), some (.int (Int32.ofNat i)), some (.int (Int32.ofNat b)), some (.int (Int32.ofNat j)), some (.int (Int32.ofNat n)), none, none, none] [] (147, f, I, RP f sw) Q := by
  refine v_Mcopy75 oks ?_
  refine ite_i (fun z => ?_) (fun z => ?_)
  · rw [tI_lt, kI_t (by omega), kI_t (by omega)] at z
    have k := dn_loop (G := G) (d := d) ha hb hi hj (by omega) q n 0 (by omega)
    rw [cpI_0] at k
    exact k
  · rw [tI_lt, kI_t (by omega), kI_t (by omega)] at z
    have k := up_loop (G := G) (d := d) ha hb hi hj (by omega) q n 0 (by omega)
    rw [cpI_0] at k
    exact k
theorem Ag.cp {cs : List Nat} {I J : St} {A B lo hi : Nat} (h : Ag cs I J) (hc : cs.contains 1 = true) : Ag cs I (cpI J A B lo hi) := fun q i hq => by
  unfold cpI
  by_cases e1 : q = 96
  · subst e1
    rw [show cmp 96 i = 1 from rfl, hc] at hq
    cases hq
  · rw [if_neg e1]
    exact h q i hq
def cyI (I : St) (A B i j n : Nat) : St := fun q => if q = B then va_cpy (I A) (I B) i j n else I q
theorem cyI_ne {I : St} {A B i j n q : Nat} (h : q ≠ B) : cyI I A B i j n q = I q := by unfold cyI; rw [if_neg h]
theorem Ag.cy {cs : List Nat} {I J : St} {A B i j n : Nat} (h : Ag cs I J) (hc : ∀ k, cs.contains (cmp B k) = true) : Ag cs I (cyI J A B i j n) := fun q k hq => by
  by_cases e1 : q = B
  · subst e1
    rw [hc] at hq
    cases hq
  · rw [cyI_ne e1]
    exact h q k hq
theorem lc2 (x y : Int64) : (lg_cmp x y ≤ 0) = (x.toInt ≤ y.toInt) := by
  have h1 := lcg x y
  have h2 : (lg_cmp x y ≤ 0) = ¬ (0 < lg_cmp x y) := propext Int32.not_lt.symm
  rw [h2, h1]
  exact propext ⟨fun h => by omega, fun h => by omega⟩
theorem w64a (x y : Int32) : (x.toInt64 + y.toInt64).toInt = x.toInt + y.toInt := by
  have := fb_rng x
  have := fb_rng y
  rw [Int64.toInt_add, w64, w64, Int.bmod_eq_of_le (by omega) (by omega)]
theorem co_copy {G : GX} (a i b j n : Int32) : CO (Rel G) G 20 187 [.int a, .int i, .int b, .int j, .int n] := fun f sw I hR => by
  refine v_Ccopy oks ?_
  simp only [tI_lt, tI_le, Int32.reduceToInt, Int32.reduceOfNat]
  repeat' (refine ite_i (fun _ => ?_) (fun _ => ?_))
  all_goals first
    | (exfalso; omega)
    | (refine ⟨_, f, sw, I, (by first | rfl | trivial), rfl, hR.1, v_Mcopy oks ?_⟩
       try simp only [lcl, lcg, w64]
       simp only [tI_lt, tI_le, Int32.reduceToInt, Int64.reduceToInt, Int32.reduceOfNat]
       repeat' (refine ite_i (fun _ => ?_) (fun _ => ?_))
       all_goals first
         | (exfalso; omega)
         | exact ⟨_, (by first | rfl | trivial), rfl, hR.free (Ag.rf.up rfl)⟩)
    | skip
  obtain ⟨sa, ha, hsa⟩ : ∃ s : Nat, a = Int32.ofNat s ∧ s < 8 := ⟨a.toInt.toNat, kI_of (by omega), by omega⟩
  obtain ⟨sb, hb, hsb⟩ : ∃ s : Nat, b = Int32.ofNat s ∧ s < 8 := ⟨b.toInt.toNat, kI_of (by omega), by omega⟩
  subst ha hb
  have ta : (Int32.ofNat sa).toInt = sa := kI_t (by omega)
  have tb : (Int32.ofNat sb).toInt = sb := kI_t (by omega)
  have ca : (Int32.ofNat sa).toNatClampNeg = sa := kI_c (by omega)
  have cb : (Int32.ofNat sb).toNatClampNeg = sb := kI_c (by omega)
  have xa : ixB (Int32.ofNat sa) 8 = true := kI_x (by omega) hsa
  have xb : ixB (Int32.ofNat sb) 8 = true := kI_x (by omega) hsb
  obtain ⟨p1, p2, p3, p4, p5, p6, p7⟩ := hR.2.1 sa hsa
  obtain ⟨q1, q2, q3, q4, q5, q6, q7⟩ := hR.2.1 sb hsb
  have i5 : (0 : Int32).toInt = 0 := by decide
  -- what the reference says, by what is found
  have key : ∀ (x : Int32) (v : Int32), (x = 1 ∧ v = -1000010 - 1 ∧ ((I 94 sa).toInt < 0 ∨ (I 94 sb).toInt < 0) ∨ x = 5 ∧ v = -1000010 - 5 ∧ 0 ≤ (I 94 sa).toInt ∧ 0 ≤ (I 94 sb).toInt ∧ (I 94 sa).toInt ≠ (I 94 sb).toInt ∨ x = 2 ∧ v = -1000010 - 2 ∧ 0 ≤ (I 94 sa).toInt ∧ 0 ≤ (I 94 sb).toInt ∧ (I 94 sa).toInt = (I 94 sb).toInt ∧ ¬ (0 ≤ i.toInt ∧ 0 ≤ j.toInt ∧ 0 ≤ n.toInt ∧ i.toInt + n.toInt ≤ (I 95 sa).toInt ∧ j.toInt + n.toInt ≤ (I 95 sb).toInt)) → wp G 999 (mt 187) 0 (en (mt 187) [.ref 93, .int (Int32.ofNat sa), .int i, .int (Int32.ofNat sb), .int j, .int n]) [] (147, f, upI I 0 11 x, RP f sw) (fun r2 h2 => ∃ I2, r2 = some (.int v) ∧ h2 = (147, f, I2, RP f sw) ∧ Rel G f sw I2) := fun x v hx => by
    refine v_Mcopy oks ?_
    simp only [upI_ap, Nat.reduceEqDiff, reduceIte, lcl, lcg, lc2, w64, w64a]
    simp only [ca, cb, xa, xb, ck, ta, tb, tI_eq (I 94 sa), tI_lt, tI_le, Int32.reduceToInt, Int64.reduceToInt, Int32.reduceOfNat]
    rcases hx with ⟨rfl, rfl, hx⟩ | ⟨rfl, rfl, hx⟩ | ⟨rfl, rfl, hx⟩
    all_goals
      repeat' (refine ite_i (fun _ => ?_) (fun _ => ?_))
    all_goals first
      | (exfalso; omega)
      | (refine ⟨_, (by first | rfl | trivial), rfl, hR.upd [2, 11] (by repeat (first | exact Ag.rf | refine Ag.up ?_ rfl)) rfl nof (fun _ => ?_) nof nof nof nof nof nof nof nof⟩
         simp only [RC2, upI_ap, Nat.reduceEqDiff, reduceIte])
  have key2 : ∀ (x v : Int32), wp G 999 (mt 187) 0 (en (mt 187) [.ref 93, .int (Int32.ofNat sa), .int i, .int (Int32.ofNat sb), .int j, .int n]) [] (147, f, upI I 0 11 x, RP f sw) (fun r2 h2 => ∃ I2, r2 = some (.int v) ∧ h2 = (147, f, I2, RP f sw) ∧ Rel G f sw I2) → ∃ (x1 : Int32) (f1 : Nat) (sw1 : Bool) (I1 : St), some (Value.int v) = some (.int x1) ∧ (147, f, upI I 0 11 x, RP f sw) = (147, f1, I1, RP f1 sw1) ∧ RX G I1 ∧ wp G 999 (mt 187) 0 (en (mt 187) [.ref 93, .int (Int32.ofNat sa), .int i, .int (Int32.ofNat sb), .int j, .int n]) [] (147, f1, I1, RP f1 sw1) (fun r2 h2 => ∃ I2 : St, r2 = some (.int x1) ∧ h2 = (147, f1, I2, RP f1 sw1) ∧ Rel G f1 sw1 I2) := fun x v h =>
    ⟨_, f, sw, _, rfl, rfl, hR.rx (cs := [2, 11]) (by repeat (first | exact Ag.rf | refine Ag.up ?_ rfl)) rfl, h⟩
  simp only [ca, cb, xa, xb, RP_sh hsa, RP_sh hsb, RP_it hsa, RP_it hsb, oV, okB_sh hsa, okB_sh hsb, okB_it hsa, okB_it hsb, SH_it hsa, SH_it hsb, ck, Bool.true_and]
  rcases p1 with ⟨p1, p1'⟩ | ⟨p1, p1'⟩
  · rw [if_pos p1]
    exact key2 _ _ (key 1 _ (Or.inl ⟨rfl, rfl, Or.inl (by rw [p1', m1t]; omega)⟩))
  · rw [if_neg (by rw [p1]; decide)]
    have lp : (I 94 sa).toInt = (I (77 + 2 * sa) 2).toInt := by rw [p1']
    rcases q1 with ⟨q1, q1'⟩ | ⟨q1, q1'⟩
    · rw [if_pos q1]
      exact key2 _ _ (key 1 _ (Or.inl ⟨rfl, rfl, Or.inr (by rw [q1', m1t]; omega)⟩))
    · rw [if_neg (by rw [q1]; decide), ← p1', ← q1', p4, q4]
      have lq : (I 94 sb).toInt = (I (77 + 2 * sb) 2).toInt := by rw [q1']
      refine ite_i (fun z => ?_) (fun z => ?_)
      · have z' : (I 94 sa).toInt = (I 94 sb).toInt := by rw [z]
        by_cases hp : (0 ≤ i.toInt ∧ 0 ≤ j.toInt ∧ 0 ≤ n.toInt ∧ i.toInt + n.toInt ≤ (I 95 sa).toInt ∧ j.toInt + n.toInt ≤ (I 95 sb).toInt)
        · have es1 : (I 95 sa - i).toInt = (I 95 sa).toInt - i.toInt := fb_subI (by omega) (by omega)
          have es2 : (I 95 sb - j).toInt = (I 95 sb).toInt - j.toInt := fb_subI (by omega) (by omega)
          obtain ⟨i0, hi, ti⟩ : ∃ k : Nat, i = Int32.ofNat k ∧ i.toInt = (k : Int) := ⟨i.toInt.toNat, kI_of hp.1, by omega⟩
          obtain ⟨j0, hj, tj⟩ : ∃ k : Nat, j = Int32.ofNat k ∧ j.toInt = (k : Int) := ⟨j.toInt.toNat, kI_of hp.2.1, by omega⟩
          obtain ⟨n0, hn, tn⟩ : ∃ k : Nat, n = Int32.ofNat k ∧ n.toInt = (k : Int) := ⟨n.toInt.toNat, kI_of hp.2.2.1, by omega⟩
          rw [if_neg (by omega), if_neg (by omega), if_neg (by omega), if_neg (by omega), if_neg (by omega), if_neg (by omega)]
          subst hi hj hn
          have c1 : (Int32.ofNat i0).toNatClampNeg = i0 := kI_c (by omega)
          have c2 : (Int32.ofNat j0).toNatClampNeg = j0 := kI_c (by omega)
          have c3 : (Int32.ofNat n0).toNatClampNeg = n0 := kI_c (by omega)
          simp only [c1, c2, c3, ti, tj, tn, i5]
          have d1 : decide ((0 : Int) ≤ (i0 : Int)) = true := decide_eq_true (by omega)
          have d2 : decide ((0 : Int) ≤ (j0 : Int)) = true := decide_eq_true (by omega)
          have d3 : decide ((0 : Int) ≤ (n0 : Int)) = true := decide_eq_true (by omega)
          have d4 : decide (i0 + n0 ≤ 120) = true := decide_eq_true (by omega)
          have d5 : decide (j0 + n0 ≤ 120) = true := decide_eq_true (by omega)
          simp only [d1, d2, d3, d4, d5, Bool.true_and]
          have hag : Ag [1, 2, 11] I (upI (cyI I (78 + 2 * sa) (78 + 2 * sb) i0 j0 n0) 0 11 0) := Ag.up (Ag.cy Ag.rf (fun k => by rw [(cmp_sh sb hsb k).2]; rfl)) rfl
          refine ⟨Int32.ofNat n0, f, sw, upI (cyI I (78 + 2 * sa) (78 + 2 * sb) i0 j0 n0) 0 11 0, rfl, rfl, hR.rx hag rfl, v_Mcopy oks ?_⟩
          have rd : ∀ p, 93 ≤ p → upI (cyI I (78 + 2 * sa) (78 + 2 * sb) i0 j0 n0) 0 11 0 p = I p := fun p hp => by
            rw [upI_row (by omega), cyI_ne (by omega)]
          simp only [rd 94 (by omega), rd 95 (by omega), lcl, lcg, lc2, w64, w64a]
          simp only [ca, cb, xa, xb, ck, ta, tb, tI_eq (I 94 sa), tI_lt, tI_le, Int32.reduceToInt, Int64.reduceToInt, Int32.reduceOfNat]
          repeat' (refine ite_i (fun _ => ?_) (fun _ => ?_))
          all_goals first | (exfalso; omega) | skip
          refine cp_ok hsa hsb (by omega) (by omega) ?_
          refine ⟨_, rfl, rfl, hR.upd [1, 2, 11] (Ag.cp (Ag.up (Ag.up hag rfl) rfl) rfl) rfl (fun _ => ?_) (fun _ => rfl) nof nof nof nof nof nof nof nof⟩
          have jn : ∀ p, p ≠ 96 → p ≠ 93 → p ≠ 0 → p ≠ 78 + 2 * sb → cpI (upI (upI (upI (cyI I (78 + 2 * sa) (78 + 2 * sb) i0 j0 n0) 0 11 0) 93 0 0) 93 1 0) (120 * sa + i0) (120 * sb + j0) 0 n0 p = I p := fun p g1 g2 g3 g4 => funext fun k => by
            unfold cpI
            rw [if_neg g1, upI_row g2, upI_row g2, upI_row g3, cyI_ne g4]
          have j94 := jn 94 (by omega) (by omega) (by omega) (by omega)
          have j95 := jn 95 (by omega) (by omega) (by omega) (by omega)
          have j77 := jn (77 + 2 * sb) (by omega) (by omega) (by omega) (by omega)
          refine hR.2.1.one (s := sb) (fun s' h1 h2 => ⟨fun k => ?_, fun k => ?_, ?_, ?_, fun k hk => ?_⟩) ?_
          · rw [jn (77 + 2 * s') (by omega) (by omega) (by omega) (by omega)]
          · rw [jn (78 + 2 * s') (by omega) (by omega) (by omega) (by omega)]
          · rw [j94]
          · rw [j95]
          · show (if 120 * sb + j0 + 0 ≤ 120 * s' + k ∧ 120 * s' + k < 120 * sb + j0 + n0 then _ else _) = I 96 (120 * s' + k)
            rw [if_neg (by omega), upI_row (by omega), upI_row (by omega), rd 96 (by omega)]
          rw [j94, j95, j77]
          refine ⟨Or.inr ⟨q1, q1'⟩, q2, q3, q4, q5, q6, fun k hk => ?_⟩
          · have e2 : cpI (upI (upI (upI (cyI I (78 + 2 * sa) (78 + 2 * sb) i0 j0 n0) 0 11 0) 93 0 0) 93 1 0) (120 * sa + i0) (120 * sb + j0) 0 n0 (78 + 2 * sb) k = (if j0 ≤ k ∧ k < j0 + n0 then I (78 + 2 * sa) (i0 + (k - j0)) else I (78 + 2 * sb) k) := by
              unfold cpI
              rw [if_neg (by omega), upI_row (by omega), upI_row (by omega), upI_row (by omega)]
              unfold cyI
              rw [if_pos rfl]
              rfl
            have e3 : cpI (upI (upI (upI (cyI I (78 + 2 * sa) (78 + 2 * sb) i0 j0 n0) 0 11 0) 93 0 0) 93 1 0) (120 * sa + i0) (120 * sb + j0) 0 n0 96 (120 * sb + k) = (if 120 * sb + j0 + 0 ≤ 120 * sb + k ∧ 120 * sb + k < 120 * sb + j0 + n0 then I 96 (120 * sa + i0 + (120 * sb + k - (120 * sb + j0))) else I 96 (120 * sb + k)) := by
              unfold cpI
              rw [if_pos rfl, upI_row (by omega), upI_row (by omega), rd 96 (by omega)]
            rw [e2, e3]
            by_cases c : j0 ≤ k ∧ k < j0 + n0
            · rw [if_pos c, if_pos (by omega), p7 _ (by omega), show 120 * sa + i0 + (120 * sb + k - (120 * sb + j0)) = 120 * sa + (i0 + (k - j0)) by omega]
            · rw [if_neg c, if_neg (by omega)]
              exact q7 k hk
        · refine ite_i (fun y => ?_) (fun y => ite_i (fun y2 => ?_) (fun y2 => ite_i (fun y3 => ?_) (fun y3 => ite_i (fun y4 => ?_) (fun y4 => ite_i (fun y5 => ?_) (fun y5 => ite_i (fun y6 => ?_) (fun y6 => ?_))))))
          all_goals first
            | exact key2 _ _ (key 2 _ (Or.inr (Or.inr ⟨rfl, rfl, by omega, by omega, z', hp⟩)))
            | skip
          exfalso
          have es1 : (I 95 sa - i).toInt = (I 95 sa).toInt - i.toInt := fb_subI (by have := fb_rng i; omega) (by omega)
          have es2 : (I 95 sb - j).toInt = (I 95 sb).toInt - j.toInt := fb_subI (by have := fb_rng j; omega) (by omega)
          omega
      · exact key2 _ _ (key 5 _ (Or.inr (Or.inl ⟨rfl, rfl, by omega, by omega, fun h => z (by rw [tI_eq]; exact h)⟩)))
