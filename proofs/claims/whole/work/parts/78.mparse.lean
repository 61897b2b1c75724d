/-! THE REFERENCE'S READER -/
def sgc (x : Int32) : Int32 := if x = 0 then 60 else if x = 1 then 62 else 61
def MTW (J : St) (r : Nat) (ts : List Tst) : Prop := ∀ n, n < ts.length → J 138 (9 * r + 3 * n) = (ts.getD n tz).1 ∧ J 138 (9 * r + 3 * n + 1) = sgc (ts.getD n tz).2.1 ∧ J 138 (9 * r + 3 * n + 2) = (ts.getD n tz).2.2
def MC (J : St) (rs : List Rul) : Prop := J 93 58 = Int32.ofNat rs.length ∧ ∀ r, r < rs.length → (rs.getD r rz).2.length ≤ 3 ∧ J 139 r = (rs.getD r rz).1 ∧ J 137 r = Int32.ofNat (rs.getD r rz).2.length ∧ MTW J r (rs.getD r rz).2
def MW (J : St) (rs : List Rul) (ts : List Tst) : Prop := MC J rs ∧ MTW J rs.length ts
/-- the reference's surroundings -/
def ME (I J : St) : Prop := (∀ p, p ≠ 93 → ¬ (137 ≤ p ∧ p ≤ 139) → J p = I p) ∧ ∀ k, k ≠ 58 → k < 66 ∨ 71 < k → J 93 k = I 93 k
theorem ME.rm {I J K : St} (a : ME I J) (b : RM J K) : ME I K := ⟨fun p h1 h2 => (b.1 p h1).trans (a.1 p h1 h2), fun k h1 h2 => (b.2 k (by omega)).trans (a.2 k h1 h2)⟩
theorem ME.up {I J : St} {p k : Nat} {x : Int32} (a : ME I J) (h : (137 ≤ p ∧ p ≤ 139) ∨ (p = 93 ∧ (k = 58 ∨ (66 ≤ k ∧ k ≤ 71)))) : ME I (upI J p k x) := ⟨fun q h1 h2 => by rw [upI_row (by omega)]; exact a.1 q h1 h2, fun i h1 h2 => by rw [upI_nk (by omega)]; exact a.2 i h1 h2⟩
theorem ME.t {I J : St} (a : ME I J) (tm : TM I) : J 140 = I 140 ∧ TM J := by
  have e1 : J 140 = I 140 := a.1 140 (by decide) (by omega)
  refine ⟨e1, fun k hk => ?_⟩
  rw [e1]; exact tm k hk
theorem MC.ro {J K : St} {rs : List Rul} (e : ∀ p, 137 ≤ p → p ≤ 139 → K p = J p) (e58 : K 93 58 = J 93 58) (h : MC J rs) : MC K rs := by
  unfold MC MTW
  rw [e58, e 137 (by decide) (by decide), e 138 (by decide) (by decide), e 139 (by decide) (by decide)]
  exact h
theorem MW.ro {J K : St} {rs : List Rul} {ts : List Tst} (e : ∀ p, 137 ≤ p → p ≤ 139 → K p = J p) (e58 : K 93 58 = J 93 58) (h : MW J rs ts) : MW K rs ts := by
  refine ⟨h.1.ro e e58, ?_⟩
  unfold MTW
  rw [e 138 (by decide) (by decide)]
  exact h.2
theorem MW.rm {J K : St} {rs : List Rul} {ts : List Tst} (b : RM J K) (h : MW J rs ts) : MW K rs ts := h.ro (fun p h1 h2 => b.1 p (by omega)) (b.2 58 (by decide))
/-- only the three numbers of the test that is read have changed -/
theorem MW.put {J K : St} {rs : List Rul} {ts : List Tst} {x : Tst} (h : MW J rs ts) (ht : ts.length < 3) (e : ∀ p, p = 137 ∨ p = 139 → K p = J p) (e58 : K 93 58 = J 93 58) (e138 : ∀ i, i < 9 * rs.length + 3 * ts.length → K 138 i = J 138 i) (x0 : K 138 (9 * rs.length + 3 * ts.length) = x.1) (x1 : K 138 (9 * rs.length + 3 * ts.length + 1) = sgc x.2.1) (x2 : K 138 (9 * rs.length + 3 * ts.length + 2) = x.2.2) : MW K rs (ts ++ [x]) := by
  obtain ⟨⟨h1, h2⟩, h3⟩ := h
  refine ⟨⟨e58.trans h1, fun r hr => ?_⟩, fun n hn => ?_⟩
  · obtain ⟨a1, a2, a3, a4⟩ := h2 r hr
    refine ⟨a1, by rw [e 139 (Or.inr rfl)]; exact a2, by rw [e 137 (Or.inl rfl)]; exact a3, fun n hn => ?_⟩
    have := a4 n hn
    rw [e138 _ (by omega), e138 _ (by omega), e138 _ (by omega)]
    exact this
  · rw [List.length_append] at hn
    have hn : n < ts.length + 1 := hn
    by_cases c : n = ts.length
    · rw [c, gdL]; exact ⟨x0, x1, x2⟩
    · rw [gdA (by omega), e138 _ (by omega), e138 _ (by omega), e138 _ (by omega)]
      exact h3 n (by omega)
theorem need_ok {G : GX} {d f n k : Nat} {sw : Bool} {I J : St} {Q : Option Value → Hp → Prop} (tm : TM I) (hn : n ≤ 400) (hk : k ≤ n) (a : ME I J) (mt' : MT (I 140) n k J) (f0 : J 93 70 = 0) (b : Bool) (qt : b = true → ∀ K, RM J K → ME I K → MT (I 140) n (tE (I 140) n k) K → Q none (147, f, K, RP f sw)) (qf : b = false → Q none (147, f, upI (upI J 93 70 1) 93 71 (Int32.ofNat (tS (I 140) n k)), RP f sw)) : wp G (d + 40) (mt 242) 0 (en (mt 242) [.ref 93, .int (b2 b)]) [] (147, f, J, RP f sw) Q := by
  obtain ⟨e1, e2⟩ := a.t tm
  have l1 := (tE_le (T := I 140) hk).2.1
  refine v_Mneed oks ?_
  cases b with
  | false =>
    rw [if_pos (show b2 false = 0 from rfl), if_pos f0, mt'.2.2.2.1]
    refine v_Mneed5 oks ?_
    rw [if_neg (by rw [upI_nk (by omega), upI_same]; decide)]
    exact qf rfl
  | true =>
    rw [if_neg (show ¬ b2 true = 0 by decide)]
    refine v_Mneed5 oks ?_
    rw [if_pos f0]
    refine Mstep_ok e2 hn l1 mt'.1 mt'.2.1 (fun K r m => ⟨_, rfl, rfl, ?_⟩)
    rw [e1] at m
    exact qt rfl K r (a.rm r) m
theorem tk3 {T : Nat → Int32} {n k : Nat} : tkM T n k = 3 ↔ nuB T n k = true := by
  unfold tkM nuB
  by_cases c1 : tS T n k < n
  · rw [if_pos c1, decide_eq_true c1, Bool.true_and]
    by_cases c2 : ltB T (tS T n k) = true
    · rw [if_pos c2, lt_fg c2, Bool.false_and]
      by_cases c3 : tE T n k - tS T n k ≤ 6
      · rw [if_pos c3]; decide
      · rw [if_neg c3]; decide
    · rw [if_neg c2]
      by_cases c3 : fgB T (tS T n k) = true
      · rw [if_pos c3, c3, Bool.true_and]
        by_cases c4 : tE T n k - tS T n k ≤ 4
        · rw [if_pos c4, decide_eq_true c4]; decide
        · rw [if_neg c4, decide_eq_false c4]; decide
      · rw [if_neg c3, Bool.not_eq_true] at *
        rw [c3, Bool.false_and]
        by_cases c4 : sgB (T (tS T n k)) = true
        · rw [if_pos c4]; decide
        · rw [if_neg c4]; decide
  · rw [if_neg c1, decide_eq_false c1, Bool.false_and]; decide
/-- a sign -/
theorem tk4 {T : Nat → Int32} {n k : Nat} (hk : k ≤ n) (i : Nat) (c : Int32) (hi : stL.getD i [] = [c]) (hs : sgB c = true) (hl : c.toInt < 97) (hf : c.toInt < 48 ∨ 57 < c.toInt) : (tkM T n k = 4 ∧ T (tS T n k) = c) ↔ rdB T n k i = true := by
  have el := tE_le (T := T) hk
  rw [rd_iff, hi]
  have nl : T (tS T n k) = c → ¬ ltB T (tS T n k) = true := fun h z => by
    unfold ltB at z
    rw [Bool.and_eq_true, decide_eq_true_eq, decide_eq_true_eq, h] at z
    omega
  have nf : T (tS T n k) = c → ¬ fgB T (tS T n k) = true := fun h z => by
    unfold fgB at z
    rw [Bool.and_eq_true, decide_eq_true_eq, decide_eq_true_eq, h] at z
    omega
  constructor
  · rintro ⟨h1, h2⟩
    have c1 : tS T n k < n := by
      rcases Nat.lt_or_ge (tS T n k) n with z | z
      · exact z
      · unfold tkM at h1
        rw [if_neg (by omega)] at h1
        exact absurd h1 (by decide)
    have ee : tE T n k = tS T n k + 1 := by unfold tE; rw [if_pos c1, if_neg (nl h2), if_neg (nf h2)]
    refine ⟨by rw [ee]; show tS T n k + 1 - tS T n k = 1; omega, fun j hj => ?_⟩
    have j0 : j = 0 := by omega
    rw [j0]
    exact h2
  · rintro ⟨h1, h2⟩
    have h1 : tE T n k - tS T n k = 1 := h1
    have h3 : T (tS T n k) = c := h2 0 (by omega)
    have c1 : tS T n k < n := by omega
    refine ⟨?_, h3⟩
    unfold tkM
    rw [if_pos c1, if_neg (nl h3), if_neg (nf h3), if_pos (by rw [h3]; exact hs)]
def mLv (u : Int32) (x y : Option Value) : List (Option Value) := [some (.ref 93), none, some (.int u), none, none, none, x, y]
theorem Mnum_loop {G : GX} {d f n k : Nat} {sw : Bool} {J : St} {u : Int32} {Q : Option Value → Hp → Prop} (hn : n ≤ 400) (hk : k ≤ n) (mt' : MT (J 140) n k J) (nu : nuB (J 140) n k = true) (q : wp G (d + 60) (mt 243) 120 (mLv u (some (.int (nvT (J 140) n k))) none) [] (147, f, J, RP f sw) Q) : ∀ (c j : Nat), j + c = tE (J 140) n k - tS (J 140) n k → wp G (d + 60) (mt 243) 99 (mLv u (some (.int (nvN (J 140) (tS (J 140) n k) j))) (some (.int (Int32.ofNat (tS (J 140) n k + j))))) [] (147, f, J, RP f sw) Q
  | c, j, h => by
    obtain ⟨m0, m6, m7, m8, m9⟩ := id mt'
    have sl := tS_le (T := J 140) hk
    have el := tE_le (T := J 140) hk
    match c, h with
    | 0, h =>
      have e : j = tE (J 140) n k - tS (J 140) n k := by omega
      refine v_MrdT99 oks ?_
      rw [m9, if_pos (by rw [tI_le, kI_t (by omega), kI_t (by omega)]; omega), e]
      exact q
    | c + 1, h =>
      have ih := Mnum_loop (G := G) (d := d) (u := u) hn hk mt' nu q c (j + 1) (by omega)
      refine v_MrdT99 oks ?_
      rw [m9, m7, if_neg (by rw [tI_le, kI_t (by omega), kI_t (by omega)]; omega), if_pos (tk3.mpr nu), kI_1, kI_c (by omega)]
      exact ck_of (kI_x (by omega) (by omega)) ih
theorem Mnum {G : GX} {d f n k : Nat} {sw : Bool} {J : St} {u : Int32} {Q : Option Value → Hp → Prop} (hn : n ≤ 400) (hk : k ≤ n) (mt' : MT (J 140) n k J) (q : ∀ v, (nuB (J 140) n k = true → v = nvT (J 140) n k) → wp G (d + 60) (mt 243) 120 (mLv u (some (.int v)) none) [] (147, f, J, RP f sw) Q) : wp G (d + 60) (mt 243) 94 (mLv u none none) [] (147, f, J, RP f sw) Q := by
  obtain ⟨m0, m6, m7, m8, m9⟩ := id mt'
  refine v_MrdT94 oks ?_
  rw [m8]
  by_cases nu : nuB (J 140) n k = true
  · exact Mnum_loop hn hk mt' nu (q _ (fun _ => rfl)) (tE (J 140) n k - tS (J 140) n k) 0 (by omega)
  · refine v_MrdT99 oks ?_
    rw [m7, if_neg (fun z => nu (tk3.mp z))]
    exact ite_i (fun _ => q 0 (fun z => absurd z nu)) (fun _ => q 0 (fun z => absurd z nu))
theorem pk_t {T : Nat → Int32} {n k i : Nat} {x : Int32} {l : List (Nat × Int32)} (h : rdB T n k i = true) : pick T n k ((i, x) :: l) = x := by
  unfold pick; rw [h]
theorem pk_f {T : Nat → Int32} {n k i : Nat} {x : Int32} {l : List (Nat × Int32)} (h : ¬ rdB T n k i = true) : pick T n k ((i, x) :: l) = pick T n k l := by
  rw [Bool.not_eq_true] at h
  rw [pick, h]
theorem MrdTest_ok {G : GX} {d f n k : Nat} {sw : Bool} {I J : St} {rs : List Rul} {ts : List Tst} {Q : Option Value → Hp → Prop} (tm : TM I) (hn : n ≤ 400) (hk : k ≤ n) (a : ME I J) (mt' : MT (I 140) n k J) (f0 : J 93 70 = 0) (mw : MW J rs ts) (hr : rs.length < 10) (ht : ts.length < 3) (qe : ∀ e K, pT (I 140) n k = .error e → ME I K → K 93 70 = e.1 → K 93 71 = Int32.ofNat e.2 → Q none (147, f, K, RP f sw)) (qo : ∀ k' x K, pT (I 140) n k = .ok (k', x) → ME I K → MT (I 140) n k' K → k' ≤ n → K 93 70 = 0 → MW K rs (ts ++ [x]) → Q none (147, f, K, RP f sw)) : wp G (d + 60) (mt 243) 0 (en (mt 243) [.ref 93, .int (Int32.ofNat ts.length)]) [] (147, f, J, RP f sw) Q := by
  obtain ⟨e1, e2⟩ := a.t tm
  have l1 := (tE_le (T := I 140) hk).2.1
  have l2 := (tE_le (T := I 140) l1).2.1
  have le3 := (tE_le (T := I 140) l2).2.1
  have at1 : (9 * Int32.ofNat rs.length + 3 * Int32.ofNat ts.length) = Int32.ofNat (9 * rs.length + 3 * ts.length) := by rw [l9, l3, ← Int32.ofNat_add]
  have at2 : Int32.ofNat (9 * rs.length + 3 * ts.length) + 1 = Int32.ofNat (9 * rs.length + 3 * ts.length + 1) := l1a _
  have at3 : Int32.ofNat (9 * rs.length + 3 * ts.length) + 2 = Int32.ofNat (9 * rs.length + 3 * ts.length + 2) := by rw [Int32.ofNat_add (9 * rs.length + 3 * ts.length) 2]; rfl
  generalize hA : 9 * rs.length + 3 * ts.length = A at at1 at2 at3
  have hA90 : A + 2 < 90 := by omega
  have c70 : ∀ (X : St) (e : Flt), e.1 ≠ 0 → X 93 70 = e.1 → ¬ X 93 70 = 0 := fun X e h1 h2 => by rw [h2]; exact h1
  -- behind a fault
  have bad94 : ∀ (X : St) (k' : Nat) (e : Flt), k' ≤ n → ME I X → MT (I 140) n k' X → X 93 70 = e.1 → e.1 ≠ 0 → X 93 71 = Int32.ofNat e.2 → pT (I 140) n k = .error e → wp G (d + 60) (mt 243) 94 (mLv (Int32.ofNat A) none none) [] (147, f, X, RP f sw) Q := fun X k' e h1 h2 h3 h4 h5 h6 h7 => by
    have t1 := (h2.t tm).1
    refine Mnum hn h1 (by rw [t1]; exact h3) (fun v _ => ?_)
    refine v_MrdT120 oks ?_
    rw [at3, kI_c (by omega), if_neg (by rw [h4]; exact h5)]
    refine ck_of (kI_x (by omega) (by omega)) ?_
    exact qe e _ h7 (h2.up (Or.inl (by decide))) (by rw [upI_row (by decide)]; exact h4) (by rw [upI_row (by decide)]; exact h6)
  have go43 : ∀ y : Int32, y = sbj (I 140) n k → wp G (d + 60) (mt 243) 43 (mLv (Int32.ofNat A) none none) [.int y] (147, f, J, RP f sw) Q := fun y hy => by
    have a1 := a.up (p := 138) (k := A) (x := y) (Or.inl (by decide))
    have m1 : MT (I 140) n k (upI J 138 A y) := by
      unfold MT; rw [upI_row (by decide)]; exact mt'
    have g0 : upI J 138 A y 93 70 = 0 := by rw [upI_row (by decide)]; exact f0
    have w138 : ∀ i, i < A → upI J 138 A y 138 i = J 138 i := fun i hi => upI_nk (by omega)
    refine v_MrdT43 oks ?_
    rw [kI_c (by omega)]
    refine ck_of (kI_x (by omega) (by omega)) ?_
    refine ite_i (fun z => ?_) (fun z => ?_)
    · refine need_ok tm hn hk a1 m1 g0 false (fun h => by cases h) (fun _ => ⟨_, rfl, rfl, ?_⟩)
      refine v_MrdT57 oks ?_
      rw [if_neg (by rw [upI_nk (by omega), upI_same]; decide)]
      refine bad94 _ k (1, tS (I 140) n k) hk ((a1.up (Or.inr ⟨rfl, Or.inr (by decide)⟩)).up (Or.inr ⟨rfl, Or.inr (by decide)⟩)) ?_ (by rw [upI_nk (by omega), upI_same]) (show (1 : Int32) ≠ 0 by decide) (upI_same _ _ _ _) (by unfold pT; rw [if_pos (by rw [← hy]; exact z)])
      obtain ⟨x0, x1, x2, x3, x4⟩ := m1
      exact ⟨by rw [upI_nk (by omega), upI_nk (by omega)]; exact x0, by rw [upI_nk (by omega), upI_nk (by omega)]; exact x1, by rw [upI_nk (by omega), upI_nk (by omega)]; exact x2, by rw [upI_nk (by omega), upI_nk (by omega)]; exact x3, by rw [upI_nk (by omega), upI_nk (by omega)]; exact x4⟩
    · have zs : ¬ sbj (I 140) n k = -1000000 := by rw [← hy]; exact z
      refine need_ok tm hn hk a1 m1 g0 true (fun _ K1 r1 b1 n1 => ⟨_, rfl, rfl, ?_⟩) (fun h => by cases h)
      have k0 : K1 93 70 = 0 := (r1.2 70 (by decide)).trans g0
      obtain ⟨t1, t2⟩ := b1.t tm
      have k138 : K1 138 = upI J 138 A y 138 := r1.1 138 (by decide)
      -- the sign
      have go75 : ∀ s : Bool, (s = true → ¬ sgT (I 140) n (tE (I 140) n k) = -1000000 ∧ sgc (sgT (I 140) n (tE (I 140) n k)) = I 140 (tS (I 140) n (tE (I 140) n k)) ∧ tS (I 140) n (tE (I 140) n k) < n) → (s = false → sgT (I 140) n (tE (I 140) n k) = -1000000) → wp G (d + 60) (mt 243) 75 (mLv (Int32.ofNat A) none none) [.int (b2 s)] (147, f, K1, RP f sw) Q := fun s hs1 hs2 => by
        refine v_MrdT75 oks ?_
        rw [at2, kI_c (show A + 1 < 2147483648 by omega)]
        cases s with
        | false =>
          have a2 := b1.up (p := 138) (k := A + 1) (x := 0) (Or.inl (by decide))
          have m2 : MT (I 140) n (tE (I 140) n k) (upI K1 138 (A + 1) 0) := by
            unfold MT; rw [upI_row (by decide)]; exact n1
          rw [if_pos (show b2 false = 0 from rfl)]
          refine ck_of (kI_x (by omega) (by omega)) ?_
          refine need_ok tm hn l1 a2 m2 (by rw [upI_row (by decide)]; exact k0) false (fun h => by cases h) (fun _ => ⟨_, rfl, rfl, ?_⟩)
          refine bad94 _ (tE (I 140) n k) (1, tS (I 140) n (tE (I 140) n k)) l1 ((a2.up (Or.inr ⟨rfl, Or.inr (by decide)⟩)).up (Or.inr ⟨rfl, Or.inr (by decide)⟩)) ?_ (by rw [upI_nk (by omega), upI_same]) (show (1 : Int32) ≠ 0 by decide) (upI_same _ _ _ _) (by unfold pT; rw [if_neg zs, if_pos (hs2 rfl)])
          obtain ⟨x0, x1, x2, x3, x4⟩ := m2
          exact ⟨by rw [upI_nk (by omega), upI_nk (by omega)]; exact x0, by rw [upI_nk (by omega), upI_nk (by omega)]; exact x1, by rw [upI_nk (by omega), upI_nk (by omega)]; exact x2, by rw [upI_nk (by omega), upI_nk (by omega)]; exact x3, by rw [upI_nk (by omega), upI_nk (by omega)]; exact x4⟩
        | true =>
          obtain ⟨hg1, hg2, hg3⟩ := hs1 rfl
          rw [if_neg (show ¬ b2 true = 0 by decide), n1.2.2.2.1, kI_c (show tS (I 140) n (tE (I 140) n k) < 2147483648 by omega), t1]
          refine ck_of (kI_x (by omega) (by omega)) (ck_of (kI_x (by omega) (by omega)) ?_)
          have a2 := b1.up (p := 138) (k := A + 1) (x := I 140 (tS (I 140) n (tE (I 140) n k))) (Or.inl (by decide))
          have m2 : MT (I 140) n (tE (I 140) n k) (upI K1 138 (A + 1) (I 140 (tS (I 140) n (tE (I 140) n k)))) := by
            unfold MT; rw [upI_row (by decide)]; exact n1
          refine need_ok tm hn l1 a2 m2 (by rw [upI_row (by decide)]; exact k0) true (fun _ K2 r2 b2' n2 => ⟨_, rfl, rfl, ?_⟩) (fun h => by cases h)
          obtain ⟨v1, v2⟩ := b2'.t tm
          have j0 : K2 93 70 = 0 := by rw [r2.2 70 (by decide), upI_row (by decide)]; exact k0
          have w2 : ∀ i, K2 138 i = upI K1 138 (A + 1) (I 140 (tS (I 140) n (tE (I 140) n k))) 138 i := fun i => by rw [r2.1 138 (by decide)]
          refine Mnum hn l2 (by rw [v1]; exact n2) (fun v hv => ?_)
          rw [v1] at hv
          refine v_MrdT120 oks ?_
          rw [at3, kI_c (show A + 2 < 2147483648 by omega), if_pos j0, n2.2.2.1]
          refine ck_of (kI_x (by omega) (by omega)) ?_
          have a3 := b2'.up (p := 138) (k := A + 2) (x := v) (Or.inl (by decide))
          have m3 : MT (I 140) n (tE (I 140) n (tE (I 140) n k)) (upI K2 138 (A + 2) v) := by
            unfold MT; rw [upI_row (by decide)]; exact n2
          refine ite_i (fun z3 => ?_) (fun z3 => ?_)
          · have nu := tk3.mp z3
            refine need_ok tm hn l2 a3 m3 (by rw [upI_row (by decide)]; exact j0) true (fun _ K3 r3 b3 n3 => ⟨_, rfl, rfl, ?_⟩) (fun h => by cases h)
            have w3 : ∀ i, K3 138 i = upI K2 138 (A + 2) v 138 i := fun i => by rw [r3.1 138 (by decide)]
            refine qo _ _ K3 (by unfold pT; rw [if_neg zs, if_neg hg1, if_pos nu]) b3 n3 le3 (by rw [r3.2 70 (by decide), upI_row (by decide)]; exact j0) ?_
            have kp : ∀ p, p = 137 ∨ p = 139 → K3 p = J p := fun p hp => by
              rw [r3.1 p (by omega), upI_row (by omega), r2.1 p (by omega), upI_row (by omega), r1.1 p (by omega), upI_row (by omega)]
            have k58 : K3 93 58 = J 93 58 := by
              rw [r3.2 58 (by decide), upI_row (by decide), r2.2 58 (by decide), upI_row (by decide), r1.2 58 (by decide), upI_row (by decide)]
            refine mw.put ht kp k58 (fun i hi => ?_) ?_ ?_ ?_
            · rw [w3, upI_nk (by omega), w2, upI_nk (by omega), k138, upI_nk (by omega)]
            · rw [hA, w3, upI_nk (by omega), w2, upI_nk (by omega), k138, upI_same, hy]
            · rw [hA, w3, upI_nk (by omega), w2, upI_same, hg2]
            · rw [hA, w3, upI_same, hv nu]
          · have nu : ¬ nuB (I 140) n (tE (I 140) n (tE (I 140) n k)) = true := fun y => z3 (tk3.mpr y)
            refine need_ok tm hn l2 a3 m3 (by rw [upI_row (by decide)]; exact j0) false (fun h => by cases h) (fun _ => ⟨_, rfl, rfl, ?_⟩)
            exact qe (1, tS (I 140) n (tE (I 140) n (tE (I 140) n k))) _ (by unfold pT; rw [if_neg zs, if_neg hg1, if_neg nu]) ((a3.up (Or.inr ⟨rfl, Or.inr (by decide)⟩)).up (Or.inr ⟨rfl, Or.inr (by decide)⟩)) (by rw [upI_nk (by omega), upI_same]) (upI_same _ _ _ _)
      have k6 := tk4 (T := I 140) l1 6 60 rfl (by decide) (by decide) (Or.inr (by decide))
      have k7 := tk4 (T := I 140) l1 7 62 rfl (by decide) (by decide) (Or.inr (by decide))
      have k8 := tk4 (T := I 140) l1 8 61 rfl (by decide) (by decide) (Or.inr (by decide))
      have sl2 := tS_le (T := I 140) l1
      refine v_MrdT57 oks ?_
      rw [if_pos k0, n1.2.2.1, n1.2.2.2.1, t1]
      have lt4 : tkM (I 140) n (tE (I 140) n k) = 4 → tS (I 140) n (tE (I 140) n k) < n := fun h => by
        rcases Nat.lt_or_ge (tS (I 140) n (tE (I 140) n k)) n with y | y
        · exact y
        · unfold tkM at h; rw [if_neg (by omega)] at h; exact absurd h (by decide)
      by_cases h4 : tkM (I 140) n (tE (I 140) n k) = 4
      · have hlt := lt4 h4
        rw [kI_c (show tS (I 140) n (tE (I 140) n k) < 2147483648 by omega)]
        have cx : ixB (Int32.ofNat (tS (I 140) n (tE (I 140) n k))) 400 = true := kI_x (by omega) (by omega)
        simp only [if_pos h4, cx, ck]
        refine ite_i (fun y => ?_) (fun y => ite_i (fun y2 => ?_) (fun y2 => ite_i (fun y3 => ?_) (fun y3 => ?_)))
        · refine go75 true (fun _ => ?_) (fun h => by cases h)
          have e : sgT (I 140) n (tE (I 140) n k) = 0 := pk_t (k6.mp ⟨h4, y⟩)
          rw [e]
          exact ⟨by decide, by rw [y]; rfl, hlt⟩
        · refine go75 true (fun _ => ?_) (fun h => by cases h)
          have e : sgT (I 140) n (tE (I 140) n k) = 1 := by
            unfold sgT; rw [pk_f (fun w => y (k6.mpr w).2), pk_t (k7.mp ⟨h4, y2⟩)]
          rw [e]
          exact ⟨by decide, by rw [y2]; rfl, hlt⟩
        · refine go75 true (fun _ => ?_) (fun h => by cases h)
          have e : sgT (I 140) n (tE (I 140) n k) = 2 := by
            unfold sgT; rw [pk_f (fun w => y (k6.mpr w).2), pk_f (fun w => y2 (k7.mpr w).2), pk_t (k8.mp ⟨h4, y3⟩)]
          rw [e]
          exact ⟨by decide, by rw [y3]; rfl, hlt⟩
        · refine go75 false (fun h => by cases h) (fun _ => ?_)
          unfold sgT; rw [pk_f (fun w => y (k6.mpr w).2), pk_f (fun w => y2 (k7.mpr w).2), pk_f (fun w => y3 (k8.mpr w).2)]; rfl
      · simp only [if_neg h4]
        refine go75 false (fun h => by cases h) (fun _ => ?_)
        unfold sgT; rw [pk_f (fun w => h4 (k6.mpr w).1), pk_f (fun w => h4 (k7.mpr w).1), pk_f (fun w => h4 (k8.mpr w).1)]; rfl
  refine v_MrdT oks ?_
  refine word_ok hn hk (by rw [e1]; exact mt') ⟨_, _, rfl, rfl, ?_⟩
  have w58 : J 93 58 = Int32.ofNat rs.length := mw.1.1
  rw [e1, w58, at1]
  refine ite_i (fun y1 => ?_) (fun y1 => ite_i (fun y2 => ?_) (fun y2 => ite_i (fun y3 => ?_) (fun y3 => ite_i (fun y4 => ?_) (fun y4 => ite_i (fun y5 => ?_) (fun y5 => ?_)))))
  · exact go43 0 (pk_t (wrd_t hk 1 (by decide) (by decide) (by decide) y1)).symm
  · exact go43 1 (by unfold sbj; rw [pk_f (wrd_n hk 1 (by decide) (by decide) (by decide) y1), pk_t (wrd_t hk 2 (by decide) (by decide) (by decide) y2)])
  · exact go43 2 (by unfold sbj; rw [pk_f (wrd_n hk 1 (by decide) (by decide) (by decide) y1), pk_f (wrd_n hk 2 (by decide) (by decide) (by decide) y2), pk_t (wrd_t hk 3 (by decide) (by decide) (by decide) y3)])
  · exact go43 3 (by unfold sbj; rw [pk_f (wrd_n hk 1 (by decide) (by decide) (by decide) y1), pk_f (wrd_n hk 2 (by decide) (by decide) (by decide) y2), pk_f (wrd_n hk 3 (by decide) (by decide) (by decide) y3), pk_t (wrd_t hk 4 (by decide) (by decide) (by decide) y4)])
  · exact go43 4 (by unfold sbj; rw [pk_f (wrd_n hk 1 (by decide) (by decide) (by decide) y1), pk_f (wrd_n hk 2 (by decide) (by decide) (by decide) y2), pk_f (wrd_n hk 3 (by decide) (by decide) (by decide) y3), pk_f (wrd_n hk 4 (by decide) (by decide) (by decide) y4), pk_t (wrd_t hk 5 (by decide) (by decide) (by decide) y5)])
  · exact go43 (-1000000) (by unfold sbj; rw [pk_f (wrd_n hk 1 (by decide) (by decide) (by decide) y1), pk_f (wrd_n hk 2 (by decide) (by decide) (by decide) y2), pk_f (wrd_n hk 3 (by decide) (by decide) (by decide) y3), pk_f (wrd_n hk 4 (by decide) (by decide) (by decide) y4), pk_f (wrd_n hk 5 (by decide) (by decide) (by decide) y5)]; rfl)
