/-! THE REFERENCE'S JUDGE -/
theorem qrF_sy (I : St) (c0 c1 c2 : Int) (a b : Nat) : qrF I c0 c1 c2 a b = qrF I c0 c1 c2 b a := by
  unfold qrF
  have e1 : decide (I 121 a = I 121 b) = decide (I 121 b = I 121 a) := decide_eq_decide.mpr ⟨Eq.symm, Eq.symm⟩
  have e2 : abZ (tmF I c0 c1 c2 a - tmF I c0 c1 c2 b) = abZ (tmF I c0 c1 c2 b - tmF I c0 c1 c2 a) := by
    unfold abZ
    split <;> split <;> omega
  rw [e1, e2, d2F_sy I a b, Int.add_comm (I 125 a).toInt]
def MJ (U K : St) : Prop := (∀ p, p ≠ 93 → ¬ (129 ≤ p ∧ p ≤ 133) → K p = U p) ∧ ∀ k, k < 49 ∨ 52 < k → K 93 k = U 93 k
theorem MJ.rf {U : St} : MJ U U := ⟨fun _ _ _ => rfl, fun _ _ => rfl⟩
theorem MJ.up {U K : St} {p k : Nat} {x : Int32} (a : MJ U K) (h : (129 ≤ p ∧ p ≤ 133) ∨ (p = 93 ∧ 49 ≤ k ∧ k ≤ 52)) : MJ U (upI K p k x) := ⟨fun q h1 h2 => by rw [upI_row (by omega)]; exact a.1 q h1 h2, fun i h1 => by rw [upI_nk (by omega)]; exact a.2 i h1⟩
/-- the facts of U are those of I -/
def FU (I U : St) (f : Nat) : Prop := FJ I U ∧ U 93 35 = Int32.ofNat f
theorem MJ.fj {I U K : St} {f : Nat} (a : MJ U K) (h : FU I U f) : FJ I K ∧ K 93 35 = Int32.ofNat f := ⟨⟨fun k => by rw [a.1 _ (by omega) (by omega)]; exact h.1.1 k, by rw [a.1 52 (by decide) (by omega)]; exact h.1.2.1, fun p h1 h2 => by rw [a.1 p (by omega) (by omega)]; exact h.1.2.2 p h1 h2⟩, by rw [a.2 35 (by decide)]; exact h.2⟩
def jLv (l : List (Option Value)) : List (Option Value) := some (.ref 93) :: l
/-- the far rows a of the table are there -/
def FA (I : St) (a : Nat) (K : St) : Prop := ∀ i b, i < a → b < i → K 131 (12 * i + b) = Int32.ofNat (rt (d2F I i b))
theorem l12' (k : Nat) : 12 * Int32.ofNat k = Int32.ofNat (12 * k) := by rw [Int32.ofNat_mul]; rfl
theorem Mfar_in {G : GX} {d f a : Nat} {sw : Bool} {I U : St} {y : Int32} {Q : Option Value → Hp → Prop} (r : RC6 f I) (fu : FU I U f) (ha : a < f) (q : ∀ K, MJ U K → K 93 49 = Int32.ofNat (hrd I y (a + 1)) → FA I (a + 1) K → wp G (d + 100) (mt 228) 5 [some (.ref 93), some (.int y), some (.int (Int32.ofNat (a + 1))), none, none, none, none, none, none] [] (147, f, K, RP f sw) Q) : ∀ (c b : Nat) (K : St), b + c = a → MJ U K → K 93 49 = Int32.ofNat (hrd I y (a + 1)) → FA I a K → (∀ i, i < b → K 131 (12 * a + i) = Int32.ofNat (rt (d2F I a i))) → wp G (d + 100) (mt 228) 26 [some (.ref 93), some (.int y), some (.int (Int32.ofNat a)), some (.int (Int32.ofNat b)), none, none, none, none, none] [] (147, f, K, RP f sw) Q
  | c, b, K, h, m, k49, fa, fb => by
    have r1 := r.1
    match c, h with
    | 0, h =>
      refine v_Mjudge26 oks ?_
      rw [if_pos (by rw [tI_le, kI_t (by omega), kI_t (by omega)]; omega), kI_1]
      refine q K m k49 (fun i j hi hj => ?_)
      by_cases e : i = a
      · rw [e]; exact fb j (by omega)
      · exact fa i j (by omega) hj
    | c + 1, h =>
      obtain ⟨kf, -⟩ := m.fj fu
      have i1 : (12 * Int32.ofNat a + Int32.ofNat b) = Int32.ofNat (12 * a + b) := by rw [l12', ← Int32.ofNat_add]
      refine v_Mjudge26 oks ?_
      rw [if_neg (by rw [tI_le, kI_t (by omega), kI_t (by omega)]; omega), kI_c (show a < 2147483648 by omega), kI_c (show b < 2147483648 by omega), kf.2.2 123 (by decide) (by decide), kf.2.2 124 (by decide) (by decide), i1, kI_c (show 12 * a + b < 2147483648 by omega), kI_1]
      refine ck_of (kI_x (by omega) (by omega)) (ck_of (kI_x (by omega) (by omega)) (ck_of (kI_x (by omega) (by omega)) (ck_of (kI_x (by omega) (by omega)) ?_)))
      have d2 := d2_ok r ha (show b < f by omega)
      refine Mroot_ok d2.1 (by omega) ⟨_, _, rfl, rfl, ?_⟩
      refine ck_of (kI_x (by omega) (by omega)) ?_
      refine Mfar_in r fu ha q c (b + 1) _ (by omega) (m.up (Or.inl (by decide))) (by rw [upI_row (by decide)]; exact k49) (fun i j hi hj => by rw [upI_nk (by omega)]; exact fa i j hi hj) (fun i hi => ?_)
      by_cases e : i = b
      · rw [e, upI_same]
      · rw [upI_nk (by omega)]; exact fb i (by omega)
theorem Mheard_loop {G : GX} {d f : Nat} {sw : Bool} {I U : St} {y : Int32} {Q : Option Value → Hp → Prop} (r : RC6 f I) (fu : FU I U f) (q : ∀ K, MJ U K → K 93 49 = Int32.ofNat (hrd I y f) → FA I f K → wp G (d + 100) (mt 228) 47 [some (.ref 93), none, some (.int 0), none, none, none, none, none, none] [] (147, f, K, RP f sw) Q) : ∀ (c a : Nat) (K : St), a + c = f → MJ U K → K 93 49 = Int32.ofNat (hrd I y a) → FA I a K → wp G (d + 100) (mt 228) 5 [some (.ref 93), some (.int y), some (.int (Int32.ofNat a)), none, none, none, none, none, none] [] (147, f, K, RP f sw) Q
  | 0, a, K, h, m, k49, fa => by
    have r1 := r.1
    have e : a = f := by omega
    subst e
    refine v_Mjudge5 oks ?_
    rw [(m.fj fu).2, if_pos (by rw [tI_le]; omega)]
    exact q K m k49 fa
  | c + 1, a, K, h, m, k49, fa => by
    have r1 := r.1
    obtain ⟨kf, k35⟩ := m.fj fu
    have go : ∀ (x : Int32), x = Int32.ofNat (hrd I y (a + 1)) → wp G (d + 100) (mt 228) 26 [some (.ref 93), some (.int y), some (.int (Int32.ofNat a)), some (.int 0), none, none, none, none, none] [] (147, f, upI K 93 49 x, RP f sw) Q := fun x hx =>
      Mfar_in r fu (by omega) (fun K' m' k' f' => Mheard_loop r fu q c (a + 1) K' (by omega) m' k' f') a 0 _ (by omega) (m.up (Or.inr ⟨rfl, by decide, by decide⟩)) (by rw [upI_same]; exact hx) (fun i j hi hj => by rw [upI_row (by decide)]; exact fa i j hi hj) (fun i hi => by omega)
    have st : ∀ b : Bool, hdB I y a = b → hrd I y (a + 1) = hrd I y a ||| (if b = true then 2 ^ a else 0) := fun b hb => by rw [← hb]; rfl
    have no : hdB I y a = false → Int32.ofNat (hrd I y a) ||| 0 = Int32.ofNat (hrd I y (a + 1)) := fun hb => by
      rw [st false hb, if_neg (by decide), Nat.or_zero, show (0 : Int32) = Int32.ofNat 0 from rfl, sN_or, Nat.or_zero]
    have yes : hdB I y a = true → Int32.ofNat (hrd I y a ||| 2 ^ a) = Int32.ofNat (hrd I y (a + 1)) := fun hb => by
      rw [st true hb, if_pos rfl]
    refine v_Mjudge5 oks ?_
    rw [k35, if_neg (by rw [tI_le, kI_t (by omega), kI_t (by omega)]; omega), kI_c (by omega), kf.2.2 127 (by decide) (by decide), kf.2.2 128 (by decide) (by decide), k49, sN_1b (by omega)]
    refine ck_of (kI_x (by omega) (by omega)) ?_
    refine ite_i (fun z => go _ (no ?_)) (fun z => ck_of (kI_x (by omega) (by omega)) (ite_i (fun z2 => go _ (yes ?_)) (fun z2 => ck_of (kI_x (by omega) (by omega)) (ite_i (fun z3 => go _ (no ?_)) (fun z3 => go _ (yes ?_))))))
    · rw [tI_lt] at z
      unfold hdB; rw [decide_eq_false (by omega)]; rfl
    · rw [tI_lt] at z
      unfold hdB; rw [decide_eq_true (by omega), decide_eq_true z2]; rfl
    · rw [tI_lt] at z
      rw [tI_le] at z3
      unfold hdB; rw [decide_eq_false z2, decide_eq_false (show ¬ y.toInt < (I 128 a).toInt by omega)]; exact Bool.and_false _
    · rw [tI_lt] at z
      rw [tI_le] at z3
      unfold hdB; rw [decide_eq_true (show (I 127 a).toInt ≤ y.toInt by omega), decide_eq_true (show y.toInt < (I 128 a).toInt by omega), Bool.or_true]; rfl
/-- with the table of distances and what was heard -/
def MH (I U : St) (f H : Nat) (K : St) : Prop := MJ U K ∧ K 93 49 = Int32.ofNat H ∧ FA I f K
theorem MH.up {I U K : St} {f H p k : Nat} {x : Int32} (a : MH I U f H K) (h : p = 129 ∨ p = 130 ∨ p = 132 ∨ p = 133 ∨ (p = 93 ∧ 50 ≤ k ∧ k ≤ 52)) : MH I U f H (upI K p k x) := ⟨a.1.up (by omega), by rw [upI_nk (by omega)]; exact a.2.1, fun i b hi hb => by rw [upI_nk (by omega)]; exact a.2.2 i b hi hb⟩
theorem Mclear {G : GX} {d f H : Nat} {sw : Bool} {I U : St} {Q : Option Value → Hp → Prop} (q : ∀ K, MH I U f H K → (∀ S, S < 4096 → K 129 S = 0) → wp G (d + 100) (mt 228) 59 [some (.ref 93), none, some (.int 0), none, none, none, none, none, none] [] (147, f, K, RP f sw) Q) : ∀ (c n : Nat) (K : St), n + c = 4096 → MH I U f H K → (∀ S, S < n → K 129 S = 0) → wp G (d + 100) (mt 228) 47 [some (.ref 93), none, some (.int (Int32.ofNat n)), none, none, none, none, none, none] [] (147, f, K, RP f sw) Q
  | 0, n, K, h, m, hz => by
    have e : n = 4096 := by omega
    subst e
    refine v_Mjudge47 oks ?_
    rw [if_pos (by decide)]
    exact q K m hz
  | c + 1, n, K, h, m, hz => by
    refine v_Mjudge47 oks ?_
    rw [if_neg (by rw [tI_le, kI_t (by omega)]; simp only [Int32.reduceToInt]; omega), kI_c (by omega), kI_1]
    refine ck_of (kI_x (by omega) (by omega)) ?_
    refine Mclear q c (n + 1) _ (by omega) (m.up (Or.inl rfl)) (fun S hS => ?_)
    by_cases e : S = n
    · rw [e, upI_same]; rfl
    · rw [upI_nk (by omega)]; exact hz S (by omega)
/-- with whom of the earlier ones -/
def agN (q : Nat → Nat → Bool) (a : Nat) : Nat → Nat
  | 0 => 0
  | b + 1 => agN q a b ||| (if q a b = true then 2 ^ b else 0)
theorem agN_t (q : Nat → Nat → Bool) (a : Nat) : ∀ n i, (agN q a n).testBit i = (decide (i < n) && q a i)
  | 0, i => by rw [decide_eq_false (by omega), Bool.false_and]; exact Nat.zero_testBit i
  | n + 1, i => by
    show (agN q a n ||| (if q a n = true then 2 ^ n else 0)).testBit i = _
    rw [orb, agN_t q a n i]
    by_cases c : i = n
    · rw [c, decide_eq_false (show ¬ n < n by omega), decide_eq_true (show n < n + 1 by omega), decide_eq_true rfl, Bool.false_and, Bool.false_or, Bool.and_true, Bool.true_and]
    · rw [decide_eq_false c, Bool.and_false, Bool.or_false]
      congr 1
      apply decide_eq_decide.mpr
      omega
theorem Mag_in {G : GX} {d f H a : Nat} {sw : Bool} {I U : St} {u2 x y z : Int32} {Q : Option Value → Hp → Prop} (r : RC6 f I) (fu : FU I U f) (hc : Clk x.toInt y.toInt z.toInt) (ha : a < f) (F : Nat → Int32) (q : ∀ K, MH I U f H K → (∀ S, K 129 S = F S) → (∀ i, i < a + 1 → K 132 i = Int32.ofNat (agN (qrF I x.toInt y.toInt z.toInt) i i)) → wp G (d + 100) (mt 228) 84 [some (.ref 93), none, some (.int u2), some (.int x), some (.int y), some (.int z), some (.int (Int32.ofNat (a + 1))), none, none] [] (147, f, K, RP f sw) Q) : ∀ (c b : Nat) (K : St), b + c = a → MH I U f H K → (∀ S, K 129 S = F S) → (∀ i, i < a → K 132 i = Int32.ofNat (agN (qrF I x.toInt y.toInt z.toInt) i i)) → K 132 a = Int32.ofNat (agN (qrF I x.toInt y.toInt z.toInt) a b) → wp G (d + 100) (mt 228) 95 [some (.ref 93), none, some (.int u2), some (.int x), some (.int y), some (.int z), some (.int (Int32.ofNat a)), some (.int (Int32.ofNat b)), none] [] (147, f, K, RP f sw) Q
  | c, b, K, h, m, kF, kg, ka => by
    have r1 := r.1
    match c, h with
    | 0, h =>
      refine v_Mjudge95 oks ?_
      rw [if_pos (by rw [tI_le, kI_t (by omega), kI_t (by omega)]; omega), kI_1]
      refine q K m kF (fun i hi => ?_)
      by_cases e : i = a
      · rw [e, ka, show b = a by omega]
      · exact kg i (by omega)
    | c + 1, h =>
      obtain ⟨kf, k35⟩ := m.1.fj fu
      have i1 : (12 * Int32.ofNat a + Int32.ofNat b) = Int32.ofNat (12 * a + b) := by rw [l12', ← Int32.ofNat_add]
      have ih := fun (K' : St) => Mag_in (G := G) (d := d) r fu hc ha F q c (b + 1) K' (by omega)
      have st : ∀ v : Bool, qrF I x.toInt y.toInt z.toInt a b = v → agN (qrF I x.toInt y.toInt z.toInt) a (b + 1) = agN (qrF I x.toInt y.toInt z.toInt) a b ||| (if v = true then 2 ^ b else 0) := fun v hv => by rw [← hv]; rfl
      refine v_Mjudge95 oks ?_
      rw [if_neg (by rw [tI_le, kI_t (by omega), kI_t (by omega)]; omega), i1, kI_c (show 12 * a + b < 2147483648 by omega), kI_c (show a < 2147483648 by omega), m.2.2 a b ha (by omega), ka, kI_1, sN_1b (by omega)]
      refine ck_of (kI_x (by omega) (by omega)) (ck_of (kI_x (by omega) (by omega)) ?_)
      refine MisQuarrel_ok r kf hc ha (by omega) ⟨_, _, rfl, rfl, ?_⟩
      refine ite_i (fun z1 => ?_) (fun z1 => ?_)
      · rw [b2_0] at z1
        refine ck_of (kI_x (by omega) (by omega)) (ih _ (m.up (Or.inr (Or.inr (Or.inl rfl)))) (fun S => by rw [upI_row (by decide)]; exact kF S) (fun i hi => by rw [upI_nk (by omega)]; exact kg i hi) ?_)
        rw [upI_same, st false z1, if_neg (by decide), show (0 : Int32) = Int32.ofNat 0 from rfl, sN_or]
      · rw [b2_0, Bool.not_eq_false] at z1
        refine ck_of (kI_x (by omega) (by omega)) (ih _ (m.up (Or.inr (Or.inr (Or.inl rfl)))) (fun S => by rw [upI_row (by decide)]; exact kF S) (fun i hi => by rw [upI_nk (by omega)]; exact kg i hi) ?_)
        rw [upI_same, st true z1, if_pos rfl]
theorem Mag_loop {G : GX} {d f H : Nat} {sw : Bool} {I U : St} {u2 x y z : Int32} {Q : Option Value → Hp → Prop} (r : RC6 f I) (fu : FU I U f) (hc : Clk x.toInt y.toInt z.toInt) (F : Nat → Int32) (q : ∀ K, MH I U f H K → (∀ S, K 129 S = if S = 0 then 1 else F S) → K 130 0 = 1 → (∀ i, i < f → K 132 i = Int32.ofNat (agN (qrF I x.toInt y.toInt z.toInt) i i)) → wp G (d + 100) (mt 228) 144 [some (.ref 93), none, some (.int u2), none, none, none, some (.int 0), some (.int 1), none] [] (147, f, K, RP f sw) Q) : ∀ (c a : Nat) (K : St), a + c = f → MH I U f H K → (∀ S, K 129 S = F S) → (∀ i, i < a → K 132 i = Int32.ofNat (agN (qrF I x.toInt y.toInt z.toInt) i i)) → wp G (d + 100) (mt 228) 84 [some (.ref 93), none, some (.int u2), some (.int x), some (.int y), some (.int z), some (.int (Int32.ofNat a)), none, none] [] (147, f, K, RP f sw) Q
  | 0, a, K, h, m, kF, kg => by
    have r1 := r.1
    have e : a = f := by omega
    subst e
    refine v_Mjudge84 oks ?_
    rw [(m.1.fj fu).2, if_pos (by rw [tI_le]; omega)]
    refine q _ ((m.up (Or.inr (Or.inl rfl))).up (Or.inl rfl)) (fun S => ?_) (by rw [upI_row (by decide), upI_same]; rfl) (fun i hi => by rw [upI_row (by decide), upI_row (by decide)]; exact kg i hi)
    by_cases e : S = 0
    · rw [e, upI_same, if_pos rfl]; rfl
    · rw [upI_nk (by omega), upI_row (by decide), if_neg e]; exact kF S
  | c + 1, a, K, h, m, kF, kg => by
    have r1 := r.1
    refine v_Mjudge84 oks ?_
    rw [(m.1.fj fu).2, if_neg (by rw [tI_le, kI_t (by omega), kI_t (by omega)]; omega), kI_c (by omega)]
    refine ck_of (kI_x (by omega) (by omega)) ?_
    refine Mag_in r fu hc (by omega) F (fun K' m' k1 k2 => Mag_loop r fu hc F q c (a + 1) K' (by omega) m' k1 k2) a 0 _ (by omega) (m.up (Or.inr (Or.inr (Or.inl rfl)))) (fun S => by rw [upI_row (by decide)]; exact kF S) (fun i hi => by rw [upI_nk (by omega)]; exact kg i hi) (by rw [upI_same]; rfl)
/-- a shift of a set -/
theorem shN {S k : Nat} (hS : S < 4096) (hk : k < 32) : Int32.ofNat S >>> (Int32.ofNat k &&& 31) = Int32.ofNat (S / 2 ^ k) := by
  apply i32x; intro i hi
  rw [gb_n, decide_eq_true hi, Bool.true_and, Nat.testBit_div_two_pow]
  unfold gb
  rw [Int32.toBitVec_shiftRight, shk k hk]
  show (((Int32.ofNat S).toBitVec).sshiftRight (BitVec.ofNat 32 k).toNat).getLsbD i = _
  rw [BitVec.toNat_ofNat, Nat.mod_eq_of_lt (by omega), BitVec.getLsbD_sshiftRight]
  have hm : (Int32.ofNat S).toBitVec.msb = false := by
    rw [Int32.toBitVec_ofNat', BitVec.msb_eq_getLsbD_last, BitVec.getLsbD_ofNat]
    have : S.testBit 31 = false := Nat.testBit_lt_two_pow (Nat.lt_of_lt_of_le hS (by decide))
    simp [this]
  rw [hm, decide_eq_false (by omega), Bool.not_false, Bool.true_and]
  by_cases c : k + i < 32
  · rw [if_pos c, Int32.toBitVec_ofNat', BitVec.getLsbD_ofNat, decide_eq_true c, Bool.true_and, Nat.add_comm]
  · rw [if_neg c]
    symm
    exact Nat.testBit_lt_two_pow (Nat.lt_of_lt_of_le (show S < 2 ^ 12 from hS) (Nat.pow_le_pow_right (by decide : 2 > 0) (show 12 ≤ i + k by omega)))
/-- a set by its greatest -/
theorem ok_top {q : Nat → Nat → Bool} {S t : Nat} (sy : ∀ a b, q a b = q b a) (h4 : S < 4096) (h1 : 2 ^ t ≤ S) (h2 : S < 2 ^ (t + 1)) : S.testBit t = true ∧ df S (2 ^ t) < 2 ^ t ∧ okS q S = (okS q (df S (2 ^ t)) && decide (agN q t t &&& df S (2 ^ t) = 0)) := by
  have e2 : 2 ^ (t + 1) = 2 * 2 ^ t := by rw [Nat.pow_succ]; omega
  have hd : S / 2 ^ t = 1 := by
    apply Nat.div_eq_of_lt_le <;> omega
  have tb : S.testBit t = true := by
    rw [Nat.testBit_eq_decide_div_mod_eq, hd]; rfl
  have hi : ∀ i, S.testBit i = true → i ≤ t := fun i h => by
    rcases Nat.lt_or_ge t i with z | z
    · rw [Nat.testBit_lt_two_pow (Nat.lt_of_lt_of_le h2 (Nat.pow_le_pow_right (by decide : 2 > 0) z))] at h; cases h
    · exact z
  have hdf : ∀ i, (df S (2 ^ t)).testBit i = true ↔ (S.testBit i = true ∧ i ≠ t) := fun i => by
    rw [df_t, Nat.testBit_two_pow, Bool.and_eq_true]
    constructor
    · rintro ⟨a, b⟩
      refine ⟨a, fun e => ?_⟩
      rw [e, decide_eq_true rfl] at b; cases b
    · rintro ⟨a, b⟩
      exact ⟨a, by rw [decide_eq_false (fun e => b e.symm)]; rfl⟩
  refine ⟨tb, ?_, ?_⟩
  · apply Nat.lt_pow_two_of_testBit
    intro i hi2
    cases hb : (df S (2 ^ t)).testBit i with
    | false => rfl
    | true =>
      have := (hdf i).mp hb
      have := hi i this.1
      omega
  · have z : (agN q t t &&& df S (2 ^ t) = 0) ↔ ∀ i, i < t → S.testBit i = true → q t i = false := by
      constructor
      · intro h i h5 h6
        cases hq : q t i with
        | false => rfl
        | true =>
          have : (agN q t t &&& df S (2 ^ t)).testBit i = true := by
            rw [Nat.testBit_and, agN_t, decide_eq_true h5, hq, (hdf i).mpr ⟨h6, by omega⟩]; rfl
          rw [h, Nat.zero_testBit] at this; cases this
      · intro h
        apply Nat.eq_of_testBit_eq
        intro i
        rw [Nat.zero_testBit, Nat.testBit_and, agN_t]
        by_cases c : i < t
        · rw [decide_eq_true c, Bool.true_and]
          cases hb : (df S (2 ^ t)).testBit i with
          | false => exact Bool.and_false _
          | true => rw [h i c ((hdf i).mp hb).1]; rfl
        · rw [decide_eq_false c]; rfl
    cases hA : okS q S with
    | true =>
      have w := okS_iff.mp hA
      have w1 : okS q (df S (2 ^ t)) = true := okS_iff.mpr (fun a b h5 h6 h7 h8 => w a b h5 h6 ((hdf a).mp h7).1 ((hdf b).mp h8).1)
      have w2 : agN q t t &&& df S (2 ^ t) = 0 := z.mpr (fun i h5 h6 => by rw [sy]; exact w i t h5 (bit_lt h4 tb) h6 tb)
      rw [w1, decide_eq_true w2]; rfl
    | false =>
      cases hB : (okS q (df S (2 ^ t)) && decide (agN q t t &&& df S (2 ^ t) = 0)) with
      | false => rfl
      | true =>
        rw [Bool.and_eq_true, decide_eq_true_eq] at hB
        have w1 := okS_iff.mp hB.1
        have w2 := z.mp hB.2
        have : okS q S = true := okS_iff.mpr (fun a b h5 h6 h7 h8 => by
          have ha := hi a h7
          have hb := hi b h8
          by_cases e : b = t
          · rw [e, sy]; exact w2 a (by omega) h7
          · exact w1 a b h5 h6 ((hdf a).mpr ⟨h7, by omega⟩) ((hdf b).mpr ⟨h8, e⟩))
        rw [hA] at this; cases this
/-- the fits of the first c clocks -/
def fitC (I : St) (H c S : Nat) : Bool := decide (S &&& H = S) && (List.range c).any fun e => okS (qrF I (clk e).1 (clk e).2.1 (clk e).2.2) S
theorem fitC_s (I : St) (H c S : Nat) : fitC I H (c + 1) S = (fitC I H c S || (decide (S &&& H = S) && okS (qrF I (clk c).1 (clk c).2.1 (clk c).2.2) S)) := by
  unfold fitC
  rw [List.range_succ, List.any_append]
  simp only [List.any_cons, List.any_nil, Bool.or_false]
  cases decide (S &&& H = S) <;> rfl
theorem fitC_0 (I : St) (H S : Nat) : fitC I H 0 S = false := by
  unfold fitC
  rw [List.range_zero, List.any_nil, Bool.and_false]
theorem fitC_n (I : St) (H S : Nat) : fitC I H 343 S = fitS I H S := rfl
theorem fitC_z (I : St) (H c : Nat) : fitC I H (c + 1) 0 = true := by
  rw [fitC_s, decide_eq_true (Nat.zero_and H), okS_iff.mpr (fun a b _ _ ha _ => by rw [Nat.zero_testBit] at ha; cases ha)]
  exact Bool.or_true _
theorem b2a (b : Bool) : b2 b &&& 1 = b2 b := by cases b <;> rfl
theorem Msets {G : GX} {d f H c : Nat} {sw : Bool} {I U : St} {Q : Option Value → Hp → Prop} (r : RC6 f I) (fu : FU I U f) (hH : H < 2 ^ f) (q : ∀ K, MH I U f H K → (∀ S, S < 2 ^ f → K 129 S = b2 (fitC I H (c + 1) S)) → wp G (d + 100) (mt 228) 59 [some (.ref 93), none, some (.int (Int32.ofNat (c + 1))), none, none, none, none, none, none] [] (147, f, K, RP f sw) Q) : ∀ (n S t : Nat) (K : St), S + n = 2 ^ f → 1 ≤ S → 2 ^ t ≤ S → S ≤ 2 ^ (t + 1) → MH I U f H K → (∀ i, i < f → K 132 i = Int32.ofNat (agN (qrF I (clk c).1 (clk c).2.1 (clk c).2.2) i i)) → (∀ T, T < S → K 129 T = b2 (fitC I H (c + 1) T)) → (∀ T, S ≤ T → T < 2 ^ f → K 129 T = b2 (fitC I H c T)) → (∀ T, T < S → K 130 T = b2 (okS (qrF I (clk c).1 (clk c).2.1 (clk c).2.2) T)) → wp G (d + 100) (mt 228) 144 [some (.ref 93), none, some (.int (Int32.ofNat c)), none, none, none, some (.int (Int32.ofNat t)), some (.int (Int32.ofNat S)), none] [] (147, f, K, RP f sw) Q
  | n, S, t, K, h, hS, ht1, ht2, m, kg, k1, k2, k3 => by
    have r1 := r.1
    have p2 := p2le r1
    have H4 : H < 4096 := by omega
    have k35 := (m.1.fj fu).2
    match n, h with
    | 0, h =>
      refine v_Mjudge144 oks ?_
      rw [k35, sN_1 f (by omega), if_pos (by rw [tI_le, kI_t (by omega), kI_t (by omega)]; omega), kI_1]
      exact q K m (fun T hT => k1 T (by omega))
    | n + 1, h =>
      have S4 : S < 4096 := by omega
      have t12 : t < 12 := by
        rcases Nat.lt_or_ge t 12 with z | z
        · exact z
        · have : 2 ^ 12 ≤ 2 ^ t := Nat.pow_le_pow_right (by decide : 2 > 0) z
          omega
      -- with the right greatest
      have go162 : ∀ t', 2 ^ t' ≤ S → S < 2 ^ (t' + 1) → wp G (d + 100) (mt 228) 162 [some (.ref 93), none, some (.int (Int32.ofNat c)), none, none, none, some (.int (Int32.ofNat t')), some (.int (Int32.ofNat S)), none] [] (147, f, K, RP f sw) Q := fun t' a1 a2 => by
        obtain ⟨o1, o2, o3⟩ := ok_top (q := qrF I (clk c).1 (clk c).2.1 (clk c).2.2) (fun a b => qrF_sy I _ _ _ a b) S4 a1 a2
        have t'12 := bit_lt S4 o1
        have t'f : t' < f := by
          rcases Nat.lt_or_ge t' f with z | z
          · exact z
          · have : 2 ^ f ≤ 2 ^ t' := Nat.pow_le_pow_right (by decide : 2 > 0) z
            omega
        have dS : df S (2 ^ t') < S := Nat.lt_of_lt_of_le o2 a1
        have ag4 : agN (qrF I (clk c).1 (clk c).2.1 (clk c).2.2) t' t' < 4096 := lt_bit (fun i hi => by
          rw [agN_t, Bool.and_eq_true, decide_eq_true_eq] at hi; omega)
        have an4 : agN (qrF I (clk c).1 (clk c).2.1 (clk c).2.2) t' t' &&& df S (2 ^ t') < 4096 := lt_bit (fun i hi => by
          rw [Nat.testBit_and, Bool.and_eq_true] at hi; exact bit_lt ag4 hi.1)
        have go189 : ∀ K', MH I U f H K' → (∀ i, i < f → K' 132 i = Int32.ofNat (agN (qrF I (clk c).1 (clk c).2.1 (clk c).2.2) i i)) → (∀ T, K' 129 T = K 129 T) → (∀ T, T < S + 1 → K' 130 T = b2 (okS (qrF I (clk c).1 (clk c).2.1 (clk c).2.2) T)) → wp G (d + 100) (mt 228) 189 [some (.ref 93), none, some (.int (Int32.ofNat c)), none, none, none, some (.int (Int32.ofNat t')), some (.int (Int32.ofNat S)), none] [] (147, f, K', RP f sw) Q := fun K' m' g1 g2 g3 => by
          have fin : ∀ x : Int32, x = b2 (fitC I H (c + 1) S) → wp G (d + 100) (mt 228) 144 [some (.ref 93), none, some (.int (Int32.ofNat c)), none, none, none, some (.int (Int32.ofNat t')), some (.int (Int32.ofNat (S + 1))), none] [] (147, f, upI K' 129 S x, RP f sw) Q := fun x hx =>
            Msets r fu hH q n (S + 1) t' _ (by omega) (by omega) (Nat.le_succ_of_le a1) a2 (m'.up (Or.inl rfl)) (fun i hi => by rw [upI_row (by decide)]; exact g1 i hi) (fun T hT => by
              by_cases e : T = S
              · rw [e, upI_same]; exact hx
              · rw [upI_nk (by omega), g2]; exact k1 T (by omega)) (fun T h1 h2 => by rw [upI_nk (by omega), g2]; exact k2 T (by omega) h2) (fun T hT => by rw [upI_row (by decide)]; exact g3 T hT)
          have sub : (Int32.ofNat S &&& (Int32.ofNat H ^^^ -1) = 0) ↔ S &&& H = S := by
            rw [sN_df]
            have d4 : df S H < 4096 := lt_bit (fun i hi => by rw [df_t, Bool.and_eq_true] at hi; exact bit_lt S4 hi.1)
            rw [show (0 : Int32) = Int32.ofNat 0 from rfl, kI_e (by omega) (by omega), subH]
            constructor
            · intro hz i hi
              cases hh : H.testBit i with
              | true => rfl
              | false =>
                have : (df S H).testBit i = true := by rw [df_t, hi, hh]; rfl
                rw [hz, Nat.zero_testBit] at this; cases this
            · intro hz
              apply Nat.eq_of_testBit_eq
              intro i
              rw [Nat.zero_testBit, df_t]
              cases hs : S.testBit i with
              | false => rfl
              | true => rw [hz i hs]; rfl
          have k49 := m'.2.1
          refine v_Mjudge189 oks ?_
          rw [kI_c (by omega), g2 S, k2 S (Nat.le_refl _) (by omega), g3 S (by omega), k49, kI_1]
          have cx : ixB (Int32.ofNat S) 4096 = true := kI_x (by omega) S4
          refine ck_of cx ?_
          refine ite_i (fun y1 => ck_of cx (ite_i (fun y2 => ck_of cx (fin _ ?_)) (fun y2 => ite_i (fun y3 => ck_of cx (fin _ ?_)) (fun y3 => ck_of cx (fin _ ?_))))) (fun y1 => ck_of cx (fin _ ?_))
          · rw [b2_0] at y1 y2
            rw [fitC_s, y1, y2, Bool.and_false]; rfl
          · rw [b2_0] at y1
            rw [b2_0, Bool.not_eq_false] at y2
            rw [fitC_s, y1, y2, decide_eq_true (sub.mp y3)]; rfl
          · rw [b2_0] at y1
            rw [fitC_s, y1, decide_eq_false (fun w => y3 (sub.mpr w))]; rfl
          · rw [b2_0, Bool.not_eq_false] at y1
            rw [fitC_s, y1]; rfl
        refine v_Mjudge162 oks ?_
        rw [sN_1 t' (by omega), sN_df, kI_c (show df S (2 ^ t') < 2147483648 by omega), kI_c (show t' < 2147483648 by omega), kI_c (show S < 2147483648 by omega), k3 (df S (2 ^ t')) dS, kg t' t'f, sN_and]
        have cS : ixB (Int32.ofNat S) 4096 = true := kI_x (by omega) S4
        have fin : ∀ x : Int32, x = b2 (okS (qrF I (clk c).1 (clk c).2.1 (clk c).2.2) S) → wp G (d + 100) (mt 228) 189 [some (.ref 93), none, some (.int (Int32.ofNat c)), none, none, none, some (.int (Int32.ofNat t')), some (.int (Int32.ofNat S)), none] [] (147, f, upI K 130 S x, RP f sw) Q := fun x hx =>
          go189 _ (m.up (Or.inr (Or.inl rfl))) (fun i hi => by rw [upI_row (by decide)]; exact kg i hi) (fun T => by rw [upI_row (by decide)]) (fun T hT => by
            by_cases e : T = S
            · rw [e, upI_same]; exact hx
            · rw [upI_nk (by omega)]; exact k3 T (by omega))
        refine ck_of (kI_x (by omega) (by omega)) ?_
        refine ite_i (fun y1 => ck_of cS (fin _ ?_)) (fun y1 => ck_of (kI_x (by omega) (by omega)) (ite_i (fun y2 => ck_of cS (fin _ ?_)) (fun y2 => ck_of cS (fin _ ?_))))
        · rw [b2_0] at y1
          rw [o3, y1, Bool.false_and]; rfl
        · rw [b2_0, Bool.not_eq_false] at y1
          rw [show (0 : Int32) = Int32.ofNat 0 from rfl, kI_e (by omega) (by omega)] at y2
          rw [o3, y1, decide_eq_true y2]; rfl
        · rw [show (0 : Int32) = Int32.ofNat 0 from rfl, kI_e (by omega) (by omega)] at y2
          rw [o3, decide_eq_false y2, Bool.and_false]; rfl
      refine v_Mjudge144 oks ?_
      rw [k35, sN_1 f (by omega), if_neg (by rw [tI_le, kI_t (by omega), kI_t (by omega)]; omega), l1a, shN S4 (by omega)]
      have p3 : 0 < 2 ^ (t + 1) := Nat.pow_pos (by decide)
      have q4 : S / 2 ^ (t + 1) ≤ S := Nat.div_le_self _ _
      refine ite_i (fun y => ?_) (fun y => ?_)
      · rw [tI_le, kI_t (by omega)] at y
        simp only [Int32.reduceToInt] at y
        rw [Int32.add_zero]
        refine go162 t ht1 ?_
        rcases Nat.lt_or_ge S (2 ^ (t + 1)) with w | w
        · exact w
        · have := Nat.div_pos w p3
          omega
      · rw [tI_le, kI_t (by omega)] at y
        simp only [Int32.reduceToInt] at y
        have w : 2 ^ (t + 1) ≤ S := by
          rcases Nat.lt_or_ge S (2 ^ (t + 1)) with w | w
          · rw [Nat.div_eq_of_lt w] at y; omega
          · exact w
        exact go162 (t + 1) w (Nat.lt_of_le_of_lt ht2 (Nat.pow_lt_pow_right (by decide) (by omega)))
theorem clkI : ∀ c, c < 343 → ((Int32.ofNat c / 49) - 3).toInt = (clk c).1 ∧ (((Int32.ofNat c / 7) - (Int32.ofNat c / 7) / 7 * 7) - 3).toInt = (clk c).2.1 ∧ ((Int32.ofNat c - Int32.ofNat c / 7 * 7) - 3).toInt = (clk c).2.2 := by decide +kernel
theorem Mclocks {G : GX} {d f H : Nat} {sw : Bool} {I U : St} {Q : Option Value → Hp → Prop} (r : RC6 f I) (fu : FU I U f) (hH : H < 2 ^ f) (q : ∀ K, MH I U f H K → (∀ S, S < 2 ^ f → K 129 S = b2 (fitS I H S)) → wp G (d + 100) (mt 228) 222 [some (.ref 93), none, some (.int 0), none, none, none, none, none, none] [] (147, f, upI K 93 50 0, RP f sw) Q) : ∀ (n c : Nat) (K : St), c + n = 343 → MH I U f H K → (∀ S, S < 2 ^ f → K 129 S = b2 (fitC I H c S)) → wp G (d + 100) (mt 228) 59 [some (.ref 93), none, some (.int (Int32.ofNat c)), none, none, none, none, none, none] [] (147, f, K, RP f sw) Q
  | 0, c, K, h, m, k1 => by
    have e : c = 343 := by omega
    subst e
    refine v_Mjudge59 oks ?_
    rw [if_pos (by decide)]
    exact q K m k1
  | n + 1, c, K, h, m, k1 => by
    have p3 : 0 < 2 ^ f := Nat.pow_pos (by decide)
    obtain ⟨c0, c1, c2⟩ := clkI c (by omega)
    have hc := clk_in (show c < 343 by omega)
    refine v_Mjudge59 oks ?_
    rw [if_neg (by rw [tI_le, kI_t (by omega)]; simp only [Int32.reduceToInt]; omega)]
    rw [← c0, ← c1, ← c2] at hc
    refine Mag_loop r fu hc (K 129) (fun K' m' j1 j2 j3 => ?_) f 0 K (by omega) m (fun _ => rfl) (fun i hi => by omega)
    rw [c0, c1, c2] at j3
    refine Msets (c := c) r fu hH (fun K2 m2 j4 => Mclocks r fu hH q n (c + 1) K2 (by omega) m2 j4) (2 ^ f - 1) 1 0 K' (by omega) (by omega) (by decide) (by decide) m' j3 (fun T hT => ?_) (fun T h1 h2 => ?_) (fun T hT => ?_)
    · rw [show T = 0 by omega, j1, if_pos rfl, fitC_z]; rfl
    · rw [j1, if_neg (by omega)]; exact k1 T h2
    · rw [show T = 0 by omega, j2, okS_iff.mpr (fun a b _ _ ha _ => by rw [Nat.zero_testBit] at ha; cases ha)]; rfl
theorem Mbits_loop {G : GX} {d f S : Nat} {sw : Bool} {K : St} {Q : Option Value → Hp → Prop} (q : Q (some (.int (Int32.ofNat (pcN S)))) (147, f, K, RP f sw)) : ∀ (c k : Nat), k + c = 12 → wp G (d + 10) (mt 230) 4 [some (.int (Int32.ofNat S)), some (.int (Int32.ofNat (cnb S.testBit k))), some (.int (Int32.ofNat k))] [] (147, f, K, RP f sw) Q
  | 0, k, h => by
    have e : k = 12 := by omega
    subst e
    refine v_Mbits4 oks ?_
    rw [if_pos (by decide)]
    exact q
  | c + 1, k, h => by
    have ih := Mbits_loop (G := G) (d := d) q c (k + 1) (by omega)
    rw [cnb_s] at ih
    refine v_Mbits4 oks ?_
    rw [if_neg (by rw [tI_le, kI_t (by omega)]; simp only [Int32.reduceToInt]; omega), gbN (by omega), ofN_b2, kI_1]
    exact ih
theorem Mbits_ok {G : GX} {d f S : Nat} {sw : Bool} {K : St} {Q : Option Value → Hp → Prop} (q : Q (some (.int (Int32.ofNat (pcN S)))) (147, f, K, RP f sw)) : wp G (d + 10) (mt 230) 0 (en (mt 230) [.int (Int32.ofNat S)]) [] (147, f, K, RP f sw) Q := by
  refine v_Mbits oks ?_
  exact Mbits_loop q 12 0 (by omega)
theorem Mgrt {G : GX} {d f H : Nat} {sw : Bool} {I U : St} {F : Nat → Bool} {Q : Option Value → Hp → Prop} (r : RC6 f I) (fu : FU I U f) (q : ∀ K, MH I U f H K → (∀ S, S < 2 ^ f → K 129 S = b2 (F S)) → K 93 50 = Int32.ofNat (grt F (2 ^ f)) → wp G (d + 100) (mt 228) 255 [some (.ref 93), none, some (.int 0), none, none, none, none, none, none] [] (147, f, upI (upI K 93 51 0) 93 52 (-1000000), RP f sw) Q) : ∀ (c n : Nat) (K : St), n + c = 2 ^ f → MH I U f H K → (∀ S, S < 2 ^ f → K 129 S = b2 (F S)) → K 93 50 = Int32.ofNat (grt F n) → grt F n ≤ 12 → wp G (d + 100) (mt 228) 222 [some (.ref 93), none, some (.int (Int32.ofNat n)), none, none, none, none, none, none] [] (147, f, K, RP f sw) Q
  | 0, n, K, h, m, k1, k50, kl => by
    have r1 := r.1
    have p2 := p2le r1
    have e : n = 2 ^ f := by omega
    subst e
    refine v_Mjudge222 oks ?_
    rw [(m.1.fj fu).2, sN_1 f (by omega), if_pos (by rw [tI_le]; omega)]
    exact q K m k1 k50
  | c + 1, n, K, h, m, k1, k50, kl => by
    have r1 := r.1
    have p2 := p2le r1
    have p12 : pcN n ≤ 12 := cnb_le _ 12
    have ih := fun (x : Int32) (hx : x = Int32.ofNat (grt F (n + 1))) (hl : grt F (n + 1) ≤ 12) => Mgrt (G := G) (d := d) r fu q c (n + 1) (upI K 93 50 x) (by omega) (m.up (Or.inr (Or.inr (Or.inr (Or.inr ⟨rfl, by decide, by decide⟩))))) (fun S hS => by rw [upI_row (by decide)]; exact k1 S hS) (by rw [upI_same]; exact hx) hl
    rw [grt_s] at ih
    refine v_Mjudge222 oks ?_
    rw [(m.1.fj fu).2, sN_1 f (by omega), if_neg (by rw [tI_le, kI_t (by omega), kI_t (by omega)]; omega), kI_c (by omega), k1 n (by omega), kI_1]
    refine ck_of (kI_x (by omega) (by omega)) ?_
    refine ite_i (fun y1 => ?_) (fun y1 => ?_)
    · rw [b2_0] at y1
      rw [if_neg (fun z => by rw [y1] at z; cases z.1)] at ih
      exact ih _ k50 kl
    · rw [b2_0, Bool.not_eq_false] at y1
      refine Mbits_ok ⟨_, _, rfl, rfl, ?_⟩
      refine ite_i (fun y2 => ?_) (fun y2 => ?_)
      · rw [k50, tI_le, kI_t (by omega), kI_t (by omega)] at y2
        rw [if_neg (fun z => by omega)] at ih
        exact ih _ k50 kl
      · rw [k50, tI_le, kI_t (by omega), kI_t (by omega)] at y2
        rw [if_pos ⟨y1, by omega⟩] at ih
        refine Mbits_ok ⟨_, _, rfl, rfl, ?_⟩
        exact ih _ rfl p12
theorem Mzero {G : GX} {d f H : Nat} {sw : Bool} {I U X : St} {Q : Option Value → Hp → Prop} (q : ∀ K, MH I U f H K → (∀ p, p ≠ 133 → K p = X p) → (∀ i, i < 12 → K 133 i = 0) → wp G (d + 100) (mt 228) 267 [some (.ref 93), none, some (.int 0), none, none, none, none, none, none] [] (147, f, K, RP f sw) Q) : ∀ (c k : Nat) (K : St), k + c = 12 → MH I U f H K → (∀ p, p ≠ 133 → K p = X p) → (∀ i, i < k → K 133 i = 0) → wp G (d + 100) (mt 228) 255 [some (.ref 93), none, some (.int (Int32.ofNat k)), none, none, none, none, none, none] [] (147, f, K, RP f sw) Q
  | 0, k, K, h, m, kx, hz => by
    have e : k = 12 := by omega
    subst e
    refine v_Mjudge255 oks ?_
    rw [if_pos (by decide)]
    exact q K m kx hz
  | c + 1, k, K, h, m, kx, hz => by
    refine v_Mjudge255 oks ?_
    rw [if_neg (by rw [tI_le, kI_t (by omega)]; simp only [Int32.reduceToInt]; omega), kI_c (by omega), kI_1]
    refine ck_of (kI_x (by omega) (by omega)) ?_
    refine Mzero q c (k + 1) _ (by omega) (m.up (Or.inr (Or.inr (Or.inr (Or.inl rfl))))) (fun p hp => by rw [upI_row hp]; exact kx p hp) (fun i hi => ?_)
    by_cases e : i = k
    · rw [e, upI_same]
    · rw [upI_nk (by omega)]; exact hz i (by omega)
/-- the reference's tally of n sets -/
def TM2 (F : Nat → Bool) (g f n : Nat) (K : St) : Prop := (∀ S, S < 2 ^ f → K 129 S = b2 (F S)) ∧ K 93 50 = Int32.ofNat g ∧ K 93 51 = Int32.ofNat (cnb (fun S => F S && decide (pcN S = g)) n) ∧ K 93 52 = ob (fsN (fun S => F S && decide (pcN S = g)) n)
def W13 (P : Nat → Bool) (n : Nat) (K : St) : Prop := ∀ i, i < 12 → K 133 i = Int32.ofNat (cnb (fun S => P S && Nat.testBit S i) n)
theorem Mwith_in {G : GX} {d f H n : Nat} {sw : Bool} {I U X : St} {P : Nat → Bool} {Q : Option Value → Hp → Prop} (r : RC6 f I) (fu : FU I U f) (hn : n < 2 ^ f) (hP : P n = true) (w0 : W13 P n X) (q : ∀ K, MH I U f H K → (∀ p, p ≠ 133 → K p = X p) → W13 P (n + 1) K → wp G (d + 100) (mt 228) 267 [some (.ref 93), none, some (.int (Int32.ofNat (n + 1))), none, none, none, none, none, none] [] (147, f, K, RP f sw) Q) : ∀ (c k : Nat) (K : St), k + c = f → MH I U f H K → (∀ p, p ≠ 133 → K p = X p) → (∀ i, i < 12 → K 133 i = if i < k then X 133 i + b2 (n.testBit i) else X 133 i) → wp G (d + 100) (mt 228) 301 [some (.ref 93), none, some (.int (Int32.ofNat n)), some (.int (Int32.ofNat k)), none, none, none, none, none] [] (147, f, K, RP f sw) Q
  | 0, k, K, h, m, kx, kw => by
    have r1 := r.1
    have e : k = f := by omega
    subst e
    refine v_Mjudge301 oks ?_
    rw [(m.1.fj fu).2, if_pos (by rw [tI_le]; omega), kI_1]
    refine q K m kx (fun i hi => ?_)
    rw [kw i hi, cnb_s2, hP, Bool.true_and, w0 i hi]
    by_cases c : i < k
    · rw [if_pos c, ofN_b2]
    · have : n.testBit i = false := Nat.testBit_lt_two_pow (Nat.lt_of_lt_of_le hn (Nat.pow_le_pow_right (by decide : 2 > 0) (by omega)))
      rw [if_neg c, this, if_neg (by decide), Nat.add_zero]
  | c + 1, k, K, h, m, kx, kw => by
    have r1 := r.1
    refine v_Mjudge301 oks ?_
    rw [(m.1.fj fu).2, if_neg (by rw [tI_le, kI_t (by omega), kI_t (by omega)]; omega), kI_c (by omega), gbN (by omega), kI_1, kw k (by omega), if_neg (by omega)]
    refine ck_of (kI_x (by omega) (by omega)) (ck_of (kI_x (by omega) (by omega)) ?_)
    refine Mwith_in r fu hn hP w0 q c (k + 1) _ (by omega) (m.up (Or.inr (Or.inr (Or.inr (Or.inl rfl))))) (fun p hp => by rw [upI_row hp]; exact kx p hp) (fun i hi => ?_)
    by_cases e : i = k
    · rw [e, upI_same, if_pos (by omega)]
    · rw [upI_nk (by omega), kw i hi]
      by_cases e2 : i < k
      · rw [if_pos e2, if_pos (by omega)]
      · rw [if_neg e2, if_neg (by omega)]
theorem Mriv {G : GX} {d f H g : Nat} {sw : Bool} {I U : St} {F : Nat → Bool} {Q : Option Value → Hp → Prop} (r : RC6 f I) (fu : FU I U f) (hg : g ≤ 12) (q : ∀ K, MH I U f H K → TM2 F g f (2 ^ f) K → W13 (fun S => F S && decide (pcN S = g)) (2 ^ f) K → Q none (147, f, K, RP f sw)) : ∀ (c n : Nat) (K : St), n + c = 2 ^ f → MH I U f H K → TM2 F g f n K → W13 (fun S => F S && decide (pcN S = g)) n K → wp G (d + 100) (mt 228) 267 [some (.ref 93), none, some (.int (Int32.ofNat n)), none, none, none, none, none, none] [] (147, f, K, RP f sw) Q
  | 0, n, K, h, m, t, w => by
    have r1 := r.1
    have p2 := p2le r1
    have e : n = 2 ^ f := by omega
    subst e
    refine v_Mjudge267 oks ?_
    rw [(m.1.fj fu).2, sN_1 f (by omega), if_pos (by rw [tI_le]; omega)]
    exact q K m t w
  | c + 1, n, K, h, m, t, w => by
    have r1 := r.1
    have p2 := p2le r1
    have p12 : pcN n ≤ 12 := cnb_le _ 12
    obtain ⟨t1, t2, t3, t4⟩ := id t
    have ih := fun (K' : St) => Mriv (G := G) (d := d) (Q := Q) r fu hg q c (n + 1) K' (by omega)
    have no : (F n && decide (pcN n = g)) = false → wp G (d + 100) (mt 228) 267 [some (.ref 93), none, some (.int (Int32.ofNat (n + 1))), none, none, none, none, none, none] [] (147, f, K, RP f sw) Q := fun hb => by
      refine ih K m ⟨t1, t2, ?_, ?_⟩ (fun i hi => ?_)
      · rw [cnb_s2, hb, if_neg (by decide), Nat.add_zero]; exact t3
      · rw [t4]
        congr 1
        cases hf : fsN (fun S => F S && decide (pcN S = g)) n with
        | some m => rw [fsN_mono hf (n + 1) (by omega)]
        | none => rw [fsN_nx hf hb]
      · rw [cnb_s2, hb, Bool.false_and, if_neg (by decide), Nat.add_zero]; exact w i hi
    refine v_Mjudge267 oks ?_
    rw [(m.1.fj fu).2, sN_1 f (by omega), if_neg (by rw [tI_le, kI_t (by omega), kI_t (by omega)]; omega), kI_c (by omega), t1 n (by omega), kI_1]
    refine ck_of (kI_x (by omega) (by omega)) ?_
    refine ite_i (fun y1 => ?_) (fun y1 => ?_)
    · rw [b2_0] at y1
      exact no (by rw [y1, Bool.false_and])
    · rw [b2_0, Bool.not_eq_false] at y1
      refine Mbits_ok ⟨_, _, rfl, rfl, ?_⟩
      rw [t2]
      refine ite_i (fun y2 => ?_) (fun y2 => ?_)
      · rw [kI_e (by omega) (by omega)] at y2
        have hb : (F n && decide (pcN n = g)) = true := by rw [y1, decide_eq_true y2]; rfl
        have fin : ∀ x : Int32, x = ob (fsN (fun S => F S && decide (pcN S = g)) (n + 1)) → wp G (d + 100) (mt 228) 301 [some (.ref 93), none, some (.int (Int32.ofNat n)), some (.int 0), none, none, none, none, none] [] (147, f, upI (upI K 93 51 (K 93 51 + 1)) 93 52 x, RP f sw) Q := fun x hx => by
          have m' : MH I U f H (upI (upI K 93 51 (K 93 51 + 1)) 93 52 x) := (m.up (Or.inr (Or.inr (Or.inr (Or.inr ⟨rfl, by decide, by decide⟩))))).up (Or.inr (Or.inr (Or.inr (Or.inr ⟨rfl, by decide, by decide⟩))))
          refine Mwith_in (P := fun S => F S && decide (pcN S = g)) r fu (by omega) hb (X := upI (upI K 93 51 (K 93 51 + 1)) 93 52 x) (fun i hi => by rw [upI_row (by decide), upI_row (by decide)]; exact w i hi) (fun K' m2 kx kw => ih K' m2 ⟨fun S hS => ?_, ?_, ?_, ?_⟩ kw) f 0 _ (by omega) m' (fun _ _ => rfl) (fun i hi => by rw [if_neg (by omega)])
          · rw [kx 129 (by decide), upI_row (by decide), upI_row (by decide)]; exact t1 S hS
          · rw [kx 93 (by decide), upI_nk (by omega), upI_nk (by omega)]; exact t2
          · rw [kx 93 (by decide), upI_nk (by omega), upI_same, t3, cnb_s2, hb, if_pos rfl]; exact l1a _
          · rw [kx 93 (by decide), upI_same]; exact hx
        refine ite_i (fun y3 => fin _ ?_) (fun y3 => fin _ ?_)
        · cases hf : fsN (fun S => F S && decide (pcN S = g)) n with
          | none => rw [fsN_hit hf hb]; rfl
          | some k =>
            rw [t4, hf] at y3
            exact absurd y3 (ob_ne (by have := fsN_lt hf; omega))
        · cases hf : fsN (fun S => F S && decide (pcN S = g)) n with
          | none => rw [t4, hf] at y3; exact absurd rfl y3
          | some k => rw [t4, hf, fsN_mono hf (n + 1) (by omega)]
      · exact no (by rw [decide_eq_false (fun e => y2 (by rw [e])), Bool.and_false])
theorem cnb_ext {P : Nat → Bool} {m : Nat} : ∀ n, m ≤ n → (∀ S, m ≤ S → S < n → P S = false) → cnb P n = cnb P m
  | 0, h, _ => by rw [show m = 0 by omega]
  | n + 1, h, hp => by
    rcases Nat.eq_or_lt_of_le h with e | e
    · rw [e]
    · rw [cnb_s, cnb_ext n (by omega) (fun S h1 h2 => hp S h1 (by omega)), hp n (by omega) (by omega), if_neg (by decide), Nat.add_zero]
theorem fsN_ext {P : Nat → Bool} {m : Nat} : ∀ n, m ≤ n → (∀ S, m ≤ S → S < n → P S = false) → fsN P n = fsN P m
  | 0, h, _ => by rw [show m = 0 by omega]
  | n + 1, h, hp => by
    rcases Nat.eq_or_lt_of_le h with e | e
    · rw [e]
    · rw [fsN_s, fsN_ext n (by omega) (fun S h1 h2 => hp S h1 (by omega)), hp n (by omega) (by omega), if_neg (by decide)]
      cases fsN P m <;> rfl
theorem grt_ext {F : Nat → Bool} {m : Nat} : ∀ n, m ≤ n → (∀ S, m ≤ S → S < n → F S = false) → grt F n = grt F m
  | 0, h, _ => by rw [show m = 0 by omega]
  | n + 1, h, hp => by
    rcases Nat.eq_or_lt_of_le h with e | e
    · rw [e]
    · rw [grt_s, grt_ext n (by omega) (fun S h1 h2 => hp S h1 (by omega)), if_neg (fun z => by rw [hp n (by omega) (by omega)] at z; cases z.1)]
theorem grt_12 (F : Nat → Bool) : ∀ n, grt F n ≤ 12
  | 0 => Nat.zero_le _
  | n + 1 => by
    rw [grt_s]
    have p12 : pcN n ≤ 12 := cnb_le _ 12
    have := grt_12 F n
    split <;> omega
theorem fit_ge {I : St} {f H S : Nat} (hH : H < 2 ^ f) (hS : 2 ^ f ≤ S) : fitS I H S = false := by
  cases hf : fitS I H S with
  | false => rfl
  | true =>
    exfalso
    have hs := (fit_ex hf).1
    have : S < 2 ^ f := Nat.lt_pow_two_of_testBit _ (fun i hi => by
      cases hb : S.testBit i with
      | false => rfl
      | true =>
        have w := hs i hb
        rw [Nat.testBit_lt_two_pow (Nat.lt_of_lt_of_le hH (Nat.pow_le_pow_right (by decide : 2 > 0) hi))] at w; cases w)
    omega
/-- what the reference's judge leaves -/
def MD (I : St) (H : Nat) (K : St) : Prop := K 93 49 = Int32.ofNat H ∧ K 93 50 = Int32.ofNat (grt (fitS I H) 4096) ∧ K 93 51 = Int32.ofNat (cnb (riv (fitS I H)) 4096) ∧ K 93 52 = ob (fsN (riv (fitS I H)) 4096) ∧ ∀ i, i < 12 → K 133 i = Int32.ofNat (cnb (fun S => riv (fitS I H) S && S.testBit i) 4096)
theorem Mjudge_ok {G : GX} {d f : Nat} {sw : Bool} {I U : St} {y : Int32} {Q : Option Value → Hp → Prop} (r : RC6 f I) (fu : FU I U f) (q : ∀ K, MJ U K → MD I (hrd I y f) K → Q none (147, f, K, RP f sw)) : wp G (d + 100) (mt 228) 0 (en (mt 228) [.ref 93, .int y]) [] (147, f, U, RP f sw) Q := by
  have r1 := r.1
  have p2 := p2le r1
  have hH := hrd_lt I y f
  generalize hh : hrd I y f = H at hH q
  refine v_Mjudge oks ?_
  refine Mheard_loop r fu (fun K m k49 fa => ?_) f 0 _ (by omega) (MJ.rf.up (Or.inr ⟨rfl, by decide, by decide⟩)) (upI_same _ _ _ _) (fun i b hi => by omega)
  rw [hh] at k49
  refine Mclear (I := I) (U := U) (H := H) (fun K2 m2 z2 => ?_) 4096 0 K (by omega) ⟨m, k49, fa⟩ (fun S hS => by omega)
  refine Mclocks r fu hH (fun K3 m3 k3 => ?_) 343 0 K2 (by omega) m2 (fun S hS => by rw [z2 S (by omega), fitC_0]; rfl)
  refine Mgrt (F := fitS I H) r fu (fun K4 m4 k4 k50 => ?_) (2 ^ f) 0 _ (by omega) (m3.up (Or.inr (Or.inr (Or.inr (Or.inr ⟨rfl, by decide, by decide⟩))))) (fun S hS => by rw [upI_row (by decide)]; exact k3 S hS) (by rw [upI_same]; rfl) (Nat.zero_le _)
  have m4' : MH I U f H (upI (upI K4 93 51 0) 93 52 (-1000000)) := (m4.up (Or.inr (Or.inr (Or.inr (Or.inr ⟨rfl, by decide, by decide⟩))))).up (Or.inr (Or.inr (Or.inr (Or.inr ⟨rfl, by decide, by decide⟩))))
  refine Mzero (X := upI (upI K4 93 51 0) 93 52 (-1000000)) (fun K5 m5 kx kz => ?_) 12 0 _ (by omega) m4' (fun _ _ => rfl) (fun i hi => by omega)
  have g12 := grt_12 (fitS I H) (2 ^ f)
  refine Mriv (F := fitS I H) (g := grt (fitS I H) (2 ^ f)) r fu g12 (fun K6 m6 t6 w6 => q K6 m6.1 ?_) (2 ^ f) 0 K5 (by omega) m5 ⟨fun S hS => by rw [kx 129 (by decide), upI_row (by decide), upI_row (by decide)]; exact k4 S hS, by rw [kx 93 (by decide), upI_nk (by omega), upI_nk (by omega)]; exact k50, by rw [kx 93 (by decide), upI_nk (by omega), upI_same]; rfl, by rw [kx 93 (by decide), upI_same]; rfl⟩ (fun i hi => by rw [kz i hi]; rfl)
  have ge := fun S (h1 : 2 ^ f ≤ S) (_ : S < 4096) => fit_ge (I := I) hH h1
  have gx : grt (fitS I H) 4096 = grt (fitS I H) (2 ^ f) := grt_ext 4096 p2 ge
  have rvE : (fun S => fitS I H S && decide (pcN S = grt (fitS I H) (2 ^ f))) = riv (fitS I H) := by
    funext S
    unfold riv
    rw [gx]
  obtain ⟨t1, t2, t3, t4⟩ := t6
  rw [rvE] at t3 t4 w6
  have rz' : ∀ S, 2 ^ f ≤ S → S < 4096 → riv (fitS I H) S = false := fun S h1 h2 => by unfold riv; rw [ge S h1 h2, Bool.false_and]
  refine ⟨m6.2.1, by rw [gx]; exact t2, by rw [cnb_ext 4096 p2 rz']; exact t3, by rw [fsN_ext 4096 p2 rz']; exact t4, fun i hi => ?_⟩
  rw [cnb_ext (P := fun S => riv (fitS I H) S && S.testBit i) 4096 p2 (fun S h1 h2 => by simp only [rz' S h1 h2, Bool.false_and])]
  exact w6 i hi
