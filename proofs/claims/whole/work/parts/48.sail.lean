/-! ROOTS; the reference's orders and tracks -/
theorem rtf_u {v r : Nat} (h1 : r * r ≤ v) (h2 : v < (r + 1) * (r + 1)) : ∀ n, r ≤ n → rtf n v = r
  | 0, h => by
    have : r = 0 := by omega
    subst this
    rfl
  | n + 1, h => by
    unfold rtf
    rcases Nat.eq_or_lt_of_le h with e | e
    · rw [← e, if_pos h1]
    · have : (r + 1) * (r + 1) ≤ (n + 1) * (n + 1) := Nat.mul_le_mul (by omega) (by omega)
      rw [if_neg (by omega)]
      exact rtf_u h1 h2 n (by omega)
theorem rt_u {v r : Nat} (h1 : r * r ≤ v) (h2 : v < (r + 1) * (r + 1)) (h3 : r ≤ 300000) : rt v = r := rtf_u h1 h2 300000 h3
def bt : Nat → Int32
  | 0 => 0
  | k + 1 => Int32.ofNat (2 ^ k)
theorem bt_sh : ∀ k, k < 19 → bt (k + 1) >>> (1 &&& 31) = bt k := by decide
theorem bt_dv : ∀ k, k < 19 → bt (k + 1) / 2 = bt k := by decide
theorem p2_le : ∀ k, k < 19 → 2 ^ k ≤ 262144 ∧ 1 ≤ 2 ^ k := by decide
theorem sq64 {x : Int32} (h1 : -1073741824 ≤ x.toInt) (h2 : x.toInt ≤ 1073741824) : (x.toInt64 * x.toInt64).toInt = x.toInt * x.toInt := by
  have h3 : x.toInt * x.toInt ≤ 1073741824 * 1073741824 := by
    rcases Int.le_total 0 x.toInt with z | z
    · exact Int.mul_le_mul h2 h2 z (by omega)
    · have : (-x.toInt) * (-x.toInt) ≤ 1073741824 * 1073741824 := Int.mul_le_mul (by omega) (by omega) (by omega) (by omega)
      rw [Int.neg_mul_neg] at this
      exact this
  have h4 : 0 ≤ x.toInt * x.toInt := by
    rcases Int.le_total 0 x.toInt with z | z
    · exact Int.mul_nonneg z z
    · exact Int.mul_nonneg_of_nonpos_of_nonpos z z
  rw [Int64.toInt_mul, w64, Int.bmod_eq_of_le (by omega) (by omega)]
theorem root_loop {G : GX} {d f : Nat} {sw : Bool} {I : St} {v : Int64} {V : Nat} {Q : Option Value → Hp → Prop} (hv : v.toInt = V) (q : Q (some (.int (Int32.ofNat (rt V)))) (147, f, I, RP f sw)) : ∀ k W, k ≤ 18 → W + 2 ^ k ≤ 262144 → W * W ≤ V → V < (W + 2 ^ k) * (W + 2 ^ k) → wp G (d + 10) (mt 51) 4 [some (.long v), none, some (.int (Int32.ofNat W)), some (.int (bt k)), none, none] [] (147, f, I, RP f sw) Q
  | 0, W, _, h1, h2, h3 => by
    refine v_root4 oks ?_
    rw [if_pos (by decide), ← rt_u h2 h3 (by omega)]
    exact q
  | k + 1, W, hk, h1, h2, h3 => by
    have p2 := p2_le k (by omega)
    have e2 : 2 ^ (k + 1) = 2 ^ k + 2 ^ k := by rw [Nat.pow_succ]; omega
    rw [e2] at h1 h3
    have tb : (bt (k + 1)).toInt = (2 ^ k : Nat) := kI_t (by omega)
    have tw : (Int32.ofNat W + bt (k + 1)) = Int32.ofNat (W + 2 ^ k) := (Int32.ofNat_add W (2 ^ k)).symm
    have tt : (Int32.ofNat (W + 2 ^ k)).toInt = (W + 2 ^ k : Nat) := kI_t (by omega)
    refine v_root4 oks ?_
    rw [if_neg (by rw [tI_le, tb]; simp only [Int32.reduceToInt]; omega), tw, bt_sh k (by omega)]
    refine ite_i (fun z => ?_) (fun z => ?_)
    · rw [lcg, sq64 (by omega) (by omega), tt, hv] at z
      exact root_loop hv q k W (by omega) (by omega) h2 (by exact_mod_cast z)
    · rw [lcg, sq64 (by omega) (by omega), tt, hv] at z
      refine root_loop hv q k (W + 2 ^ k) (by omega) (by omega) ?_ ?_
      · have z' : ((W + 2 ^ k : Nat) : Int) * ((W + 2 ^ k : Nat) : Int) ≤ (V : Int) := by omega
        exact_mod_cast z'
      · rw [show W + 2 ^ k + 2 ^ k = W + (2 ^ k + 2 ^ k) by omega]; exact h3
theorem root_ok {G : GX} {d f : Nat} {sw : Bool} {I : St} {v : Int64} {V : Nat} {Q : Option Value → Hp → Prop} (hv : v.toInt = V) (hV : V < 17179869184) (q : Q (some (.int (Int32.ofNat (rt V)))) (147, f, I, RP f sw)) : wp G (d + 10) (mt 51) 0 (en (mt 51) [.long v]) [] (147, f, I, RP f sw) Q := by
  refine v_root oks ?_
  exact root_loop hv q 17 0 (by omega) (by decide) (by omega) (by rw [show (0 + 2 ^ 17) * (0 + 2 ^ 17) = 17179869184 by decide]; exact hV)
theorem Mroot_loop {G : GX} {d f : Nat} {sw : Bool} {I : St} {v : Int64} {V : Nat} {Q : Option Value → Hp → Prop} (hv : v.toInt = V) (q : Q (some (.int (Int32.ofNat (rt V)))) (147, f, I, RP f sw)) : ∀ k W, k ≤ 18 → W + 2 ^ k ≤ 262144 → W * W ≤ V → V < (W + 2 ^ k) * (W + 2 ^ k) → wp G (d + 10) (mt 204) 4 [some (.long v), none, some (.int (Int32.ofNat W)), some (.int (bt k)), none, none] [] (147, f, I, RP f sw) Q
  | 0, W, _, h1, h2, h3 => by
    refine v_Mroot4 oks ?_
    rw [if_pos (by decide), ← rt_u h2 h3 (by omega)]
    exact q
  | k + 1, W, hk, h1, h2, h3 => by
    have p2 := p2_le k (by omega)
    have e2 : 2 ^ (k + 1) = 2 ^ k + 2 ^ k := by rw [Nat.pow_succ]; omega
    rw [e2] at h1 h3
    have tb : (bt (k + 1)).toInt = (2 ^ k : Nat) := kI_t (by omega)
    have tw : (Int32.ofNat W + bt (k + 1)) = Int32.ofNat (W + 2 ^ k) := (Int32.ofNat_add W (2 ^ k)).symm
    have tt : (Int32.ofNat (W + 2 ^ k)).toInt = (W + 2 ^ k : Nat) := kI_t (by omega)
    refine v_Mroot4 oks ?_
    rw [if_neg (by rw [tI_le, tb]; simp only [Int32.reduceToInt]; omega), tw, bt_dv k (by omega), Int32.add_zero]
    refine ite_i (fun z => ?_) (fun z => ?_)
    · rw [lcg, sq64 (by omega) (by omega), tt, hv] at z
      exact Mroot_loop hv q k W (by omega) (by omega) h2 (by exact_mod_cast z)
    · rw [lcg, sq64 (by omega) (by omega), tt, hv] at z
      refine Mroot_loop hv q k (W + 2 ^ k) (by omega) (by omega) ?_ ?_
      · have z' : ((W + 2 ^ k : Nat) : Int) * ((W + 2 ^ k : Nat) : Int) ≤ (V : Int) := by omega
        exact_mod_cast z'
      · rw [show W + 2 ^ k + 2 ^ k = W + (2 ^ k + 2 ^ k) by omega]; exact h3
theorem Mroot_ok {G : GX} {d f : Nat} {sw : Bool} {I : St} {v : Int64} {V : Nat} {Q : Option Value → Hp → Prop} (hv : v.toInt = V) (hV : V < 17179869184) (q : Q (some (.int (Int32.ofNat (rt V)))) (147, f, I, RP f sw)) : wp G (d + 10) (mt 204) 0 (en (mt 204) [.long v]) [] (147, f, I, RP f sw) Q := by
  refine v_Mroot oks ?_
  exact Mroot_loop hv q 18 0 (by omega) (by decide) (by omega) (by rw [show (0 + 2 ^ 18) * (0 + 2 ^ 18) = 68719476736 by decide]; omega)
theorem bestI_lt {who mi : Nat → Int32} {s m : Int32} : ∀ {n j : Nat}, bestI who mi s m n = some j → j < n
  | 0, j, z => by cases z
  | n + 1, j, z => by
    unfold bestI at z
    by_cases c : who n = s ∧ (mi n).toInt ≤ m.toInt
    · rw [if_pos c] at z
      cases hz : bestI who mi s m n with
      | none => rw [hz] at z; cases z; omega
      | some k =>
        have := bestI_lt hz
        rw [hz] at z
        simp only at z
        split at z <;> cases z <;> omega
    · rw [if_neg c] at z
      have := bestI_lt z
      omega
theorem bestI_s (who mi : Nat → Int32) (s m : Int32) (k : Nat) : bestI who mi s m (k + 1) = if who k = s ∧ (mi k).toInt ≤ m.toInt then (match bestI who mi s m k with
      | none => some k
      | some j => if (mi j).toInt ≤ (mi k).toInt then some k else some j) else bestI who mi s m k := rfl
theorem ob_ne {k : Nat} (h : k < 2147483648) : ¬ ob (some k) = -1000000 := by
  show ¬ Int32.ofNat k = -1000000
  rw [tI_eq, kI_t h]
  simp only [Int32.reduceToInt]
  omega
theorem order_loop {G : GX} {d f : Nat} {sw : Bool} {I : St} {s m : Int32} {n : Nat} {Q : Option Value → Hp → Prop} (hn : n ≤ 60) (h0 : I 93 10 = Int32.ofNat n) (q : Q (some (.int (ob (bestI (I 101) (I 102) s m n)))) (147, f, I, RP f sw)) : ∀ c k, k + c = n → wp G (d + 10) (mt 198) 4 [some (.ref 93), some (.int s), some (.int m), some (.int (ob (bestI (I 101) (I 102) s m k))), some (.int (Int32.ofNat k))] [] (147, f, I, RP f sw) Q
  | 0, k, h => by
    have e : k = n := by omega
    subst e
    refine v_MorderOf4 oks ?_
    rw [h0, if_pos (by rw [tI_le]; omega)]
    exact q
  | c + 1, k, h => by
    refine v_MorderOf4 oks ?_
    rw [h0, if_neg (by rw [tI_le, kI_t (by omega), kI_t (by omega)]; omega), kI_1, kI_c (by omega)]
    refine ck_of (kI_x (by omega) (by omega)) ?_
    have ih := order_loop (G := G) (d := d) hn h0 q c (k + 1) (by omega)
    rw [bestI_s] at ih
    refine ite_i (fun z => ?_) (fun z => ?_)
    · refine ck_of (kI_x (by omega) (by omega)) ?_
      refine ite_i (fun z2 => ?_) (fun z2 => ?_)
      · rw [tI_lt] at z2
        rw [if_neg (by omega)] at ih
        exact ih
      · rw [tI_lt] at z2
        rw [if_pos ⟨z, by omega⟩] at ih
        cases hb : bestI (I 101) (I 102) s m k with
        | none =>
          rw [hb] at ih
          rw [if_pos (show ob none = -1000000 from rfl)]
          exact ih
        | some j =>
          rw [hb] at ih
          have hj := bestI_lt hb
          rw [if_neg (ob_ne (by omega))]
          refine ck_of (kI_x (by omega) (by omega)) (ck_of (kI_x (by omega) (by omega)) ?_)
          rw [show (ob (some j)).toNatClampNeg = j from kI_c (by omega)]
          refine ite_i (fun z3 => ?_) (fun z3 => ?_)
          · rw [tI_lt] at z3
            simp only at ih
            rw [if_neg (by omega)] at ih
            exact ih
          · rw [tI_lt] at z3
            simp only at ih
            rw [if_pos (by omega)] at ih
            exact ih
    · rw [if_neg (fun y => z y.1)] at ih
      exact ih
theorem order_ok {G : GX} {d f : Nat} {sw : Bool} {I : St} {s m : Int32} {n : Nat} {Q : Option Value → Hp → Prop} (hn : n ≤ 60) (h0 : I 93 10 = Int32.ofNat n) (q : Q (some (.int (ob (bestI (I 101) (I 102) s m n)))) (147, f, I, RP f sw)) : wp G (d + 10) (mt 198) 0 (en (mt 198) [.ref 93, .int s, .int m]) [] (147, f, I, RP f sw) Q := by
  refine v_MorderOf oks ?_
  exact order_loop hn h0 q n 0 (by omega)
/-- the reference's tracks are as they should be -/
def Way (I J : St) : Prop := (∀ p, p ≠ 107 → p ≠ 108 → J p = I p) ∧ ∀ s, s < (I 93 7).toInt.toNat → ∀ m, m ≤ 240 → J 107 (241 * s + m) = wX I s m ∧ J 108 (241 * s + m) = wY I s m
def Way1 (I : St) (s : Nat) (J : St) : Prop := (∀ p, p ≠ 107 → p ≠ 108 → J p = I p) ∧ ∀ s', s' < s → ∀ m, m ≤ 240 → J 107 (241 * s' + m) = wX I s' m ∧ J 108 (241 * s' + m) = wY I s' m
def Way2 (I : St) (s c : Nat) (J : St) : Prop := Way1 I s J ∧ ∀ m, m ≤ c → J 107 (241 * s + m) = wX I s m ∧ J 108 (241 * s + m) = wY I s m
theorem l241 (k : Nat) : (241 : Int32) * Int32.ofNat k = Int32.ofNat (241 * k) := (Int32.ofNat_mul 241 k).symm
theorem spd_rng {I : St} (r : RC3 I) (s m : Nat) : (0 ≤ (crs I s m).toInt ∧ (crs I s m).toInt ≤ 15) ∧ 0 ≤ (spd I s m).toInt ∧ (spd I s m).toInt ≤ 50 := by
  unfold crs spd
  cases hb : ordK I s m with
  | none =>
    show (0 ≤ (0 : Int32).toInt ∧ (0 : Int32).toInt ≤ 15) ∧ 0 ≤ (0 : Int32).toInt ∧ (0 : Int32).toInt ≤ 50
    decide
  | some k =>
    have hk := bestI_lt hb
    have := r.2.1
    have q := r.2.2.2.1 k (by omega)
    exact ⟨q.2.2.1, q.2.2.2⟩
theorem sail_in {G : GX} {d f : Nat} {sw : Bool} {I : St} {s : Nat} {Q : Option Value → Hp → Prop} (r : RC3 I) (hs : s < 4) (q : ∀ J, Way2 I s 240 J → wp G (d + 20) (mt 197) 2 [some (.ref 93), some (.int (Int32.ofNat (s + 1))), none, none, none, none] [] (147, f, J, RP f sw) Q) : ∀ (c m : Nat) (J : St), m + c = 240 → Way2 I s m J → wp G (d + 20) (mt 197) 28 [some (.ref 93), some (.int (Int32.ofNat s)), some (.int (Int32.ofNat m)), none, none, none] [] (147, f, J, RP f sw) Q
  | 0, m, J, h, w => by
    have e : m = 240 := by omega
    subst e
    refine v_Msail28 oks ?_
    rw [if_pos (by decide), kI_1]
    exact q J w
  | c + 1, m, J, h, w => by
    obtain ⟨⟨w1, w2⟩, w3⟩ := id w
    obtain ⟨⟨s1, s2, s3⟩, ⟨o1, o2, o3⟩, r3, r4, -⟩ := id r
    obtain ⟨rc, rv⟩ := spd_rng r s m
    have j10 : J 93 10 = Int32.ofNat (I 93 10).toInt.toNat := by rw [w1 93 (by decide) (by decide)]; exact kI_of o2
    refine v_Msail28 oks ?_
    rw [if_neg (by rw [tI_le, kI_t (show m < 2147483648 by omega)]; simp only [Int32.reduceToInt]; omega)]
    refine order_ok (n := (I 93 10).toInt.toNat) (by omega) j10 ⟨_, _, rfl, rfl, ?_⟩
    rw [w1 101 (by decide) (by decide), w1 102 (by decide) (by decide)]
    show wp G (d + 20) (mt 197) 36 [some (.ref 93), some (.int (Int32.ofNat s)), some (.int (Int32.ofNat m)), some (.int (ob (ordK I s m))), none, none] [] (147, f, J, RP f sw) Q
    have k56 : wp G (d + 20) (mt 197) 56 [some (.ref 93), some (.int (Int32.ofNat s)), some (.int (Int32.ofNat m)), none, some (.int (spd I s m)), some (.int (crs I s m))] [] (147, f, J, RP f sw) Q := by
      refine v_Msail56 oks ?_
      rw [l241, ← Int32.ofNat_add, l1a, kI_1, kI_c (by omega), kI_c (by omega), kI_c (by omega)]
      have xc : ixB (crs I s m) 16 = true := ixB_i rc.1 (by omega)
      refine ck_of (kI_x (by omega) (by omega)) (ck_of xc (ck_of (kI_x (by omega) (by omega)) (ck_of (kI_x (by omega) (by omega)) (ck_of (kI_x (by omega) (by omega)) (ck_of xc (ck_of (kI_x (by omega) (by omega)) (ck_of (kI_x (by omega) (by omega)) ?_)))))))
      refine sail_in r hs q c (m + 1) _ (by omega) ?_
      rw [(w3 m (Nat.le_refl m)).1, (w3 m (Nat.le_refl m)).2, w1 97 (by decide) (by decide), w1 98 (by decide) (by decide), w1 105 (by decide) (by decide), w1 106 (by decide) (by decide)]
      refine ⟨⟨fun p h1 h2 => ?_, fun s' h1 m' h2 => ?_⟩, fun m' h2 => ?_⟩
      · rw [upI_row h2, upI_row h1]
        exact w1 p h1 h2
      · rw [upI_nk (by omega), upI_nk (by omega), upI_nk (by omega), upI_nk (by omega)]
        exact w2 s' h1 m' h2
      · by_cases e : m' = m + 1
        · subst e
          rw [upI_nk (by omega), show 241 * s + (m + 1) = 241 * s + m + 1 by omega, upI_same, upI_same]
          exact ⟨rfl, rfl⟩
        · rw [upI_nk (by omega), upI_nk (by omega), upI_nk (by omega), upI_nk (by omega)]
          exact w3 m' (by omega)
    refine v_Msail36 oks ?_
    have e104 : J 104 = I 104 := w1 104 (by decide) (by decide)
    have e103 : J 103 = I 103 := w1 103 (by decide) (by decide)
    unfold crs spd at k56
    cases hb : ordK I s m with
    | none =>
      rw [hb] at k56
      rw [if_pos (show ob none = -1000000 from rfl), if_pos (show ob none = -1000000 from rfl)]
      exact k56
    | some k =>
      rw [hb] at k56
      have hk := bestI_lt hb
      rw [if_neg (ob_ne (by omega)), if_neg (ob_ne (by omega)), show (ob (some k)).toNatClampNeg = k from kI_c (by omega), e104, e103]
      exact ck_of (kI_x (by omega) (by omega)) (ck_of (kI_x (by omega) (by omega)) k56)
theorem sail_out {G : GX} {d f : Nat} {sw : Bool} {I : St} {Q : Option Value → Hp → Prop} (r : RC3 I) (q : ∀ J, Way I J → Q none (147, f, J, RP f sw)) : ∀ (c s : Nat) (J : St), s + c = (I 93 7).toInt.toNat → Way1 I s J → wp G (d + 20) (mt 197) 2 [some (.ref 93), some (.int (Int32.ofNat s)), none, none, none, none] [] (147, f, J, RP f sw) Q
  | 0, s, J, h, w => by
    obtain ⟨⟨s1, s2, s3⟩, -⟩ := id r
    refine v_Msail2 oks ?_
    have j7 : J 93 7 = I 93 7 := by rw [w.1 93 (by decide) (by decide)]
    rw [j7, if_pos (by rw [tI_le, kI_t (by omega)]; omega)]
    exact q J ⟨w.1, fun s' h' => w.2 s' (by omega)⟩
  | c + 1, s, J, h, w => by
    obtain ⟨⟨s1, s2, s3⟩, -⟩ := id r
    refine v_Msail2 oks ?_
    have j7 : J 93 7 = I 93 7 := by rw [w.1 93 (by decide) (by decide)]
    rw [j7, if_neg (by rw [tI_le, kI_t (by omega)]; omega), l241, kI_c (by omega), kI_c (by omega)]
    refine ck_of (kI_x (by omega) (by omega)) (ck_of (kI_x (by omega) (by omega)) (ck_of (kI_x (by omega) (by omega)) (ck_of (kI_x (by omega) (by omega)) ?_)))
    refine sail_in r (by omega) (fun J' w' => sail_out r q c (s + 1) J' (by omega) ⟨w'.1.1, fun s' h' m hm => ?_⟩) 240 0 _ (by omega) ?_
    · rcases Nat.lt_or_ge s' s with z | z
      · exact w'.1.2 s' z m hm
      · rw [show s' = s by omega]; exact w'.2 m hm
    · rw [w.1 99 (by decide) (by decide), w.1 100 (by decide) (by decide)]
      refine ⟨⟨fun p h1 h2 => ?_, fun s' h1 m' h2 => ?_⟩, fun m' h2 => ?_⟩
      · rw [upI_row h2, upI_row h1]
        exact w.1 p h1 h2
      · rw [upI_nk (by omega), upI_nk (by omega), upI_nk (by omega), upI_nk (by omega)]
        exact w.2 s' h1 m' h2
      · have e : m' = 0 := by omega
        subst e
        rw [upI_nk (by omega), show 241 * s + 0 = 241 * s by omega, upI_same, upI_same]
        exact ⟨rfl, rfl⟩
theorem sail_ok {G : GX} {d f : Nat} {sw : Bool} {I : St} {Q : Option Value → Hp → Prop} (r : RC3 I) (q : ∀ J, Way I J → Q none (147, f, J, RP f sw)) : wp G (d + 20) (mt 197) 0 (en (mt 197) [.ref 93]) [] (147, f, I, RP f sw) Q := by
  refine v_Msail oks ?_
  exact sail_out r q (I 93 7).toInt.toNat 0 I (by omega) ⟨fun p _ _ => rfl, fun s' h' => by omega⟩
