/-! THE CLASS'S TRACKS -/
/-- of the first n entries the last that speaks of s -/
def lastV (who va : Nat → Int32) (s : Int32) : Nat → Int32
  | 0 => 0
  | k + 1 => if who k = s then va k else lastV who va s k
theorem lastV_of {who fr va : Nat → Int32} {s m : Int32} : ∀ {n a : Nat}, a ≤ n → (∀ i, i < a → (fr i).toInt ≤ m.toInt) → (∀ i, a ≤ i → i < n → m.toInt < (fr i).toInt) → (match lastI who fr s m n with
    | none => 0
    | some i => va i) = lastV who va s a
  | 0, a, h, _, _ => by
    have : a = 0 := by omega
    subst this
    rfl
  | n + 1, a, h, h1, h2 => by
    rcases Nat.eq_or_lt_of_le h with e | e
    · subst e
      have c1 := h1 n (by omega)
      have ih := lastV_of (who := who) (fr := fr) (va := va) (s := s) (m := m) (n := n) (a := n) (Nat.le_refl n) (fun i hi => h1 i (by omega)) (fun i h3 h4 => by omega)
      unfold lastI lastV
      by_cases c : who n = s
      · rw [if_pos ⟨c, c1⟩, if_pos c]
      · rw [if_neg (fun z => c z.1), if_neg c]
        exact ih
    · have c1 := h2 n (by omega) (by omega)
      have ih := lastV_of (who := who) (fr := fr) (va := va) (s := s) (m := m) (n := n) (a := a) (by omega) h1 (fun i h3 h4 => h2 i h3 (by omega))
      unfold lastI
      rw [if_neg (fun z => by omega)]
      exact ih
theorem lastV_s (who va : Nat → Int32) (s : Int32) (k : Nat) : lastV who va s (k + 1) = if who k = s then va k else lastV who va s k := rfl
theorem cod_bits : ∀ c, c < 16 → ∀ v, v < 51 → ((Int32.ofNat c <<< ((6 : Int32) &&& 31)) ||| Int32.ofNat v) >>> ((6 : Int32) &&& 31) = Int32.ofNat c ∧ ((Int32.ofNat c <<< ((6 : Int32) &&& 31)) ||| Int32.ofNat v) &&& 63 = Int32.ofNat v := by decide +kernel
theorem cod_at {I : St} (r : RC3 I) (s m : Nat) : cod I s m >>> ((6 : Int32) &&& 31) = crs I s m ∧ cod I s m &&& 63 = spd I s m := by
  have hb := spd_rng r s m
  unfold cod crs spd at *
  cases ho : ordK I s m with
  | none => exact ⟨show (0 : Int32) >>> ((6 : Int32) &&& 31) = 0 by decide, show (0 : Int32) &&& 63 = 0 by decide⟩
  | some k =>
    rw [ho] at hb
    obtain ⟨⟨b1, b2⟩, b3, b4⟩ := hb
    have b1 : 0 ≤ (I 103 k).toInt := b1
    have b2 : (I 103 k).toInt ≤ 15 := b2
    have b3 : 0 ≤ (I 104 k).toInt := b3
    have b4 : (I 104 k).toInt ≤ 50 := b4
    have q := cod_bits (I 103 k).toInt.toNat (by omega) (I 104 k).toInt.toNat (by omega)
    rw [← kI_of b1, ← kI_of b3] at q
    exact q
theorem step_ok {G : GX} {d f : Nat} {sw : Bool} {J : St} {s m : Nat} {cc vv : Int32} {Q : Option Value → Hp → Prop} (hs : s < 4) (hm : m < 240) (h1 : J 28 s >>> ((6 : Int32) &&& 31) = cc) (h2 : J 28 s &&& 63 = vv) (c0 : 0 ≤ cc.toInt) (c1 : cc.toInt ≤ 15)
    (q : Q none (147, f, upI (upI (upI J (22 + s) m (J 28 s)) (12 + s) (m + 1) (J (12 + s) m + kA 100100 cc.toInt.toNat * vv / 100 + J 26 m)) (17 + s) (m + 1) (J (17 + s) m + kA 100101 cc.toInt.toNat * vv / 100 + J 27 m), RP f sw)) : wp G (d + 20) (mt 42) 0 (en (mt 42) [.ref 2, .int (Int32.ofNat s), .int (Int32.ofNat m)]) [] (147, f, J, RP f sw) Q := by
  subst h1 h2
  have xm : ixB (Int32.ofNat m) 240 = true := kI_x (by omega) hm
  have xm1 : ixB (Int32.ofNat m) 241 = true := kI_x (by omega) (by omega)
  have xm2 : ixB (Int32.ofNat m + 1) 241 = true := by rw [l1a]; exact kI_x (by omega) (by omega)
  have xc : ixB (J 28 s >>> ((6 : Int32) &&& 31)) 16 = true := ixB_i c0 (by omega)
  have cm : (Int32.ofNat m).toNatClampNeg = m := kI_c (by omega)
  have cm1 : (Int32.ofNat m + 1).toNatClampNeg = m + 1 := by rw [l1a]; exact kI_c (by omega)
  have hcase : s = 0 ∨ s = 1 ∨ s = 2 ∨ s = 3 := by omega
  rcases hcase with rfl | rfl | rfl | rfl
  · refine v_step0 oks ?_
    refine ck_of xm (ck_of xm1 (ck_of xc (ck_of xm (ck_of xm2 (ck_of xm1 (ck_of xc (ck_of xm (ck_of xm2 ?_))))))))
    rw [cm, cm1]
    exact q
  · refine v_step1 oks ?_
    refine ck_of xm (ck_of xm1 (ck_of xc (ck_of xm (ck_of xm2 (ck_of xm1 (ck_of xc (ck_of xm (ck_of xm2 ?_))))))))
    rw [cm, cm1]
    exact q
  · refine v_step2 oks ?_
    refine ck_of xm (ck_of xm1 (ck_of xc (ck_of xm (ck_of xm2 (ck_of xm1 (ck_of xc (ck_of xm (ck_of xm2 ?_))))))))
    rw [cm, cm1]
    exact q
  · refine v_step3 oks ?_
    refine ck_of xm (ck_of xm1 (ck_of xc (ck_of xm (ck_of xm2 (ck_of xm1 (ck_of xc (ck_of xm (ck_of xm2 ?_))))))))
    rw [cm, cm1]
    exact q
/-- what walking has come to: all steps of minutes below m are taken, in minute m those of the first i ships -/
def WK (I : St) (m i : Nat) (J : St) : Prop :=
  (∀ p, p ≠ 28 → ¬ (12 ≤ p ∧ p ≤ 25 ∧ p ≠ 16 ∧ p ≠ 21) → J p = I p) ∧
  (∀ s, s < (I 93 7).toInt.toNat → (∀ k, k ≤ m → J (12 + s) k = wX I s k ∧ J (17 + s) k = wY I s k) ∧ (∀ k, k < m → J (22 + s) k = cod I s k)) ∧
  (∀ s, s < i → J (12 + s) (m + 1) = wX I s (m + 1) ∧ J (17 + s) (m + 1) = wY I s (m + 1) ∧ J (22 + s) m = cod I s m)
theorem play_loop {G : GX} {d f : Nat} {sw : Bool} {I B : St} {m : Nat} {Q : Option Value → Hp → Prop} (r : RC3 I) (hB : ∀ p, 3 ≤ p → p ≤ 6 → B p = I p) (hm : m < 240) (q : ∀ a J, a ≤ (I 93 10).toInt.toNat → (∀ i, i < a → (I 5 i).toInt ≤ m) → (∀ i, a ≤ i → i < (I 93 10).toInt.toNat → m < (I 5 i).toInt) → (∀ p, p ≠ 28 → J p = B p) → (∀ s, s < 4 → J 28 s = lastV (I 4) (I 6) (Int32.ofNat s) a) → Q (some (.int (Int32.ofNat a))) (147, f, J, RP f sw)) : ∀ (c a : Nat) (J : St), a + c = (I 93 10).toInt.toNat → (∀ i, i < a → (I 5 i).toInt ≤ m) → (∀ p, p ≠ 28 → J p = B p) → (∀ s, s < 4 → J 28 s = lastV (I 4) (I 6) (Int32.ofNat s) a) → wp G (d + 20) (mt 41) 2 [some (.ref 3), some (.int (Int32.ofNat m)), none, some (.ref 28), some (.int (Int32.ofNat a))] [] (147, f, J, RP f sw) Q
  | 0, a, J, h, h1, h2, h3 => by
    obtain ⟨-, ⟨o1, o2, o3⟩, -⟩ := id r
    refine v_playO2 oks ?_
    have j3 : J 3 3 = I 93 10 := by rw [h2 3 (by decide), hB 3 (by decide) (by decide)]; exact o1
    rw [j3, if_pos (by rw [tI_le, kI_t (by omega)]; omega)]
    exact q a J (by omega) h1 (fun i h4 h5 => by omega) h2 h3
  | c + 1, a, J, h, h1, h2, h3 => by
    obtain ⟨-, ⟨o1, o2, o3⟩, -, r4, ⟨t1, t2, t3⟩, -⟩ := id r
    refine v_playO2 oks ?_
    have j3 : J 3 3 = I 93 10 := by rw [h2 3 (by decide), hB 3 (by decide) (by decide)]; exact o1
    obtain ⟨k, k1, k2, k3, k4⟩ := t3 a (by omega)
    have b := r4 k (by omega)
    rw [← k2] at b
    rw [j3, if_neg (by rw [tI_le, kI_t (by omega)]; omega), kI_1, kI_c (by omega), h2 4 (by decide), h2 5 (by decide), h2 6 (by decide), hB 4 (by decide) (by decide), hB 5 (by decide) (by decide), hB 6 (by decide) (by decide)]
    have xa : ixB (Int32.ofNat a) 60 = true := kI_x (by omega) (by omega)
    refine ck_of xa ?_
    refine ite_i (fun z => ?_) (fun z => ?_)
    · rw [tI_lt, kI_t (by omega)] at z
      refine q a J (by omega) h1 (fun i h4 h5 => ?_) h2 h3
      rcases Nat.eq_or_lt_of_le h4 with e | e
      · rw [← e]; exact z
      · have := t1 a i e h5
        omega
    · rw [tI_lt, kI_t (by omega)] at z
      refine ck_of xa (ck_of xa (ck_of (ixB_i b.1.1 (by omega)) ?_))
      refine play_loop r hB hm q c (a + 1) _ (by omega) (fun i hi => ?_) (fun p hp => ?_) (fun s hs => ?_)
      · rcases Nat.lt_or_ge i a with y | y
        · exact h1 i y
        · rw [show i = a by omega]; omega
      · rw [upI_row hp]; exact h2 p hp
      · rw [lastV_s]
        by_cases e : I 4 a = Int32.ofNat s
        · rw [if_pos e, e, kI_c (by omega), upI_same]
        · rw [if_neg e, upI_nk (fun y => e (by
            have y2 := y.2
            rw [tnc] at y2
            rw [tI_eq, kI_t (by omega)]
            omega))]
          exact h3 s hs
theorem walk_ships {G : GX} {d f : Nat} {sw : Bool} {I : St} {m : Nat} {nx : Int32} {Q : Option Value → Hp → Prop} (r : RC3 I) (hm : m < 240) (hst : I 2 9 = 1) (q : ∀ J, WK I (m + 1) 0 J → (∀ s, s < 4 → J 28 s = cod I s m) → wp G (d + 40) (mt 40) 12 [some (.ref 2), some (.int nx), some (.int (Int32.ofNat (m + 1))), none] [] (147, f, J, RP f sw) Q) : ∀ (c i : Nat) (J : St), i + c = (I 93 7).toInt.toNat → WK I m i J → (∀ s, s < 4 → J 28 s = cod I s m) → wp G (d + 40) (mt 40) 25 [some (.ref 2), some (.int nx), some (.int (Int32.ofNat m)), some (.int (Int32.ofNat i))] [] (147, f, J, RP f sw) Q
  | 0, i, J, h, w, h28 => by
    obtain ⟨⟨s1, s2, s3⟩, -⟩ := id r
    refine v_walk25 oks ?_
    have j2 : J 2 2 = I 93 7 := by rw [w.1 2 (by decide) (by decide)]; exact s1
    rw [j2, if_pos (by rw [tI_le, kI_t (by omega)]; omega), kI_1]
    refine q J ⟨w.1, fun s hs => ⟨fun k hk => ?_, fun k hk => ?_⟩, fun s hs => by omega⟩ h28
    · rcases Nat.lt_or_ge k (m + 1) with y | y
      · exact (w.2.1 s hs).1 k (by omega)
      · rw [show k = m + 1 by omega]
        have := w.2.2 s (by omega)
        exact ⟨this.1, this.2.1⟩
    · rcases Nat.lt_or_ge k m with y | y
      · exact (w.2.1 s hs).2 k y
      · rw [show k = m by omega]
        exact (w.2.2 s (by omega)).2.2
  | c + 1, i, J, h, w, h28 => by
    obtain ⟨⟨s1, s2, s3⟩, -, -, -, -, r6, r7, -⟩ := id r
    have hi : i < 4 := by omega
    obtain ⟨⟨c0, c1⟩, -⟩ := spd_rng r i m
    obtain ⟨e1, e2⟩ := cod_at r i m
    refine v_walk25 oks ?_
    have j2 : J 2 2 = I 93 7 := by rw [w.1 2 (by decide) (by decide)]; exact s1
    rw [j2, if_neg (by rw [tI_le, kI_t (by omega)]; omega), kI_1]
    refine step_ok (cc := crs I i m) (vv := spd I i m) hi hm (by rw [h28 i hi]; exact e1) (by rw [h28 i hi]; exact e2) c0 c1 ⟨_, rfl, rfl, ?_⟩
    have wi := w.2.1 i (by omega)
    have q6 := r6 m hm
    have q7 := r7 (crs I i m).toInt.toNat (by omega)
    rw [h28 i hi, (wi.1 m (Nat.le_refl m)).1, (wi.1 m (Nat.le_refl m)).2, w.1 26 (by decide) (by decide), w.1 27 (by decide) (by decide), q6.1.1, q6.2.1, ← q7.1, ← q7.2]
    show wp G (d + 40) (mt 40) 25 _ [] (147, f, upI (upI (upI J (22 + i) m (cod I i m)) (12 + i) (m + 1) (wX I i (m + 1))) (17 + i) (m + 1) (wY I i (m + 1)), RP f sw) Q
    refine walk_ships r hm hst q c (i + 1) _ (by omega) ⟨fun p g1 g2 => ?_, fun s hs => ⟨fun k hk => ?_, fun k hk => ?_⟩, fun s hs => ?_⟩ (fun s hs => ?_)
    · rw [upI_row (by omega), upI_row (by omega), upI_row (by omega)]
      exact w.1 p g1 g2
    · rw [upI_nk (by omega), upI_nk (by omega), upI_nk (by omega), upI_nk (by omega), upI_nk (by omega), upI_nk (by omega)]
      exact (w.2.1 s hs).1 k hk
    · rw [upI_nk (by omega), upI_nk (by omega), upI_nk (by omega)]
      exact (w.2.1 s hs).2 k hk
    · by_cases e : s = i
      · subst e
        refine ⟨?_, ?_, ?_⟩
        · rw [upI_nk (by omega), upI_same]
        · rw [upI_same]
        · rw [upI_nk (by omega), upI_nk (by omega), upI_same]
      · have := w.2.2 s (by omega)
        refine ⟨?_, ?_, ?_⟩
        · rw [upI_nk (by omega), upI_nk (by omega), upI_nk (by omega)]; exact this.1
        · rw [upI_nk (by omega), upI_nk (by omega), upI_nk (by omega)]; exact this.2.1
        · rw [upI_nk (by omega), upI_nk (by omega), upI_nk (by omega)]; exact this.2.2
    · rw [upI_row (by omega), upI_row (by omega), upI_row (by omega)]
      exact h28 s hs
theorem cod_last {I : St} (r : RC3 I) {s m a : Nat} (hm : m < 240) (ha : a ≤ (I 93 10).toInt.toNat) (h1 : ∀ i, i < a → (I 5 i).toInt ≤ m) (h2 : ∀ i, a ≤ i → i < (I 93 10).toInt.toNat → m < (I 5 i).toInt) : lastV (I 4) (I 6) (Int32.ofNat s) a = cod I s m := by
  obtain ⟨-, -, -, -, ⟨t1, t2, t3⟩, -⟩ := id r
  have e : (Int32.ofNat m).toInt = m := kI_t (by omega)
  have q := lastV_of (who := I 4) (fr := I 5) (va := I 6) (s := Int32.ofNat s) (m := Int32.ofNat m) ha (fun i hi => by rw [e]; exact h1 i hi) (fun i h3 h4 => by rw [e]; exact h2 i h3 h4)
  rw [← q]
  have p := t2 (Int32.ofNat s) (Int32.ofNat m)
  unfold cod ordK
  cases hl : lastI (I 4) (I 5) (Int32.ofNat s) (Int32.ofNat m) (I 93 10).toInt.toNat with
  | none =>
    rw [hl] at p
    cases hb : bestI (I 101) (I 102) (Int32.ofNat s) (Int32.ofNat m) (I 93 10).toInt.toNat with
    | none => rfl
    | some k => rw [hb] at p; cases p
  | some i =>
    rw [hl] at p
    cases hb : bestI (I 101) (I 102) (Int32.ofNat s) (Int32.ofNat m) (I 93 10).toInt.toNat with
    | none => rw [hb] at p; cases p
    | some k =>
      rw [hb] at p
      exact congrArg Prod.snd (Option.some.inj p)
theorem walk_out {G : GX} {d f : Nat} {sw : Bool} {I : St} {Q : Option Value → Hp → Prop} (r : RC3 I) (hst : I 2 9 = 1) (q : ∀ J, WK I 240 0 J → Q none (147, f, upI J 2 9 0, RP f sw)) : ∀ (c m a : Nat) (J : St), m + c = 240 → a ≤ (I 93 10).toInt.toNat → (∀ i, i < a → (I 5 i).toInt ≤ m) → WK I m 0 J → (∀ s, s < 4 → J 28 s = lastV (I 4) (I 6) (Int32.ofNat s) a) → wp G (d + 40) (mt 40) 12 [some (.ref 2), some (.int (Int32.ofNat a)), some (.int (Int32.ofNat m)), none] [] (147, f, J, RP f sw) Q
  | 0, m, a, J, h, ha, h1, w, h28 => by
    have e : m = 240 := by omega
    subst e
    refine v_walk12 oks ?_
    rw [if_pos (by decide)]
    exact q J w
  | c + 1, m, a, J, h, ha, h1, w, h28 => by
    refine v_walk12 oks ?_
    rw [if_neg (by rw [tI_le, kI_t (show m < 2147483648 by omega)]; simp only [Int32.reduceToInt]; omega)]
    refine v_playO oks ?_
    refine play_loop (B := J) r (fun p h1 h2 => w.1 p (by omega) (by omega)) (by omega) (fun a' J' g1 g2 g3 g4 g5 => ⟨_, _, rfl, rfl, ?_⟩) ((I 93 10).toInt.toNat - a) a J (by omega) h1 (fun _ _ => rfl) h28
    have hc : ∀ s, s < 4 → J' 28 s = cod I s m := fun s hs => by rw [g5 s hs, cod_last r (by omega) g1 g2 g3]
    have w' : WK I m 0 J' := ⟨fun p p1 p2 => by rw [g4 p p1]; exact w.1 p p1 p2, fun s hs => by
      obtain ⟨⟨s1, s2, s3⟩, -⟩ := id r
      rw [g4 (12 + s) (by omega), g4 (17 + s) (by omega), g4 (22 + s) (by omega)]
      exact w.2.1 s hs, fun s hs => by omega⟩
    refine walk_ships r (by omega) hst (fun J2 w2 h2 => ?_) (I 93 7).toInt.toNat 0 J' (by omega) w' hc
    refine walk_out r hst q c (m + 1) a' J2 (by omega) g1 (fun i hi => by have := g2 i hi; omega) w2 (fun s hs => ?_)
    rw [h2 s hs, cod_last r (by omega) g1 g2 g3]
/-- behind a walk: the tracks stand; nothing else has changed -/
def Wlk (I J : St) : Prop := (∀ p, 26 ≤ p → p ≠ 28 → J p = I p) ∧ (∀ p, p < 12 → p ≠ 2 → J p = I p) ∧ (∀ k, k ≠ 9 → J 2 k = I 2 k) ∧ RC3 J ∧ J 2 9 = 0
theorem walk_ok {G : GX} {d f : Nat} {sw : Bool} {I : St} {Q : Option Value → Hp → Prop} (r : RC3 I) (q : ∀ J, Wlk I J → Q none (147, f, J, RP f sw)) : wp G (d + 40) (mt 40) 0 (en (mt 40) [.ref 2]) [] (147, f, I, RP f sw) Q := by
  refine v_walk oks ?_
  refine ite_i (fun z => ?_) (fun z => ?_)
  · exact q I ⟨fun _ _ _ => rfl, fun _ _ _ => rfl, fun _ _ => rfl, r, z⟩
  · obtain ⟨⟨s1, s2, s3⟩, r2, r3, r4, r5, r6, r7, r8, r9⟩ := id r
    have hst : I 2 9 = 1 := by
      rcases r3 with y | y
      · exact absurd y z
      · exact y
    refine fill_ok (by decide) (show SH 28 = (20, 4) from rfl) (by decide) ⟨_, rfl, rfl, ?_⟩
    refine walk_out r hst (fun J w => q _ ?_) 240 0 0 _ (by omega) (by omega) (fun i hi => by omega) ⟨fun p p1 p2 => ?_, fun s hs => ⟨fun k hk => ?_, fun k hk => by omega⟩, fun s hs => by omega⟩ (fun s hs => ?_)
    · have e2 : ∀ p, p ≠ 2 → upI J 2 9 0 p = J p := fun p hp => upI_row hp
      have e3 : ∀ k, k ≠ 9 → upI J 2 9 0 2 k = I 2 k := fun k hk => by rw [upI_nk (fun y => hk y.2), w.1 2 (by decide) (by decide)]
      have hlo : ∀ p, p < 12 → p ≠ 2 → upI J 2 9 0 p = I p := fun p h1 h2 => by rw [e2 p h2]; exact w.1 p (by omega) (by omega)
      have hhi : ∀ p, 26 ≤ p → p ≠ 28 → upI J 2 9 0 p = I p := fun p h1 h2 => by rw [e2 p (by omega)]; exact w.1 p h2 (by omega)
      have hx : ∀ s m, wX (upI J 2 9 0) s m = wX I s m ∧ wY (upI J 2 9 0) s m = wY I s m ∧ crs (upI J 2 9 0) s m = crs I s m ∧ spd (upI J 2 9 0) s m = spd I s m ∧ cod (upI J 2 9 0) s m = cod I s m := by
        have ho : ∀ s m, ordK (upI J 2 9 0) s m = ordK I s m := fun s m => by
          unfold ordK
          rw [hhi 101 (by decide) (by decide), hhi 102 (by decide) (by decide), hhi 93 (by decide) (by decide)]
        have hc : ∀ s m, crs (upI J 2 9 0) s m = crs I s m := fun s m => by
          unfold crs; rw [ho, hhi 103 (by decide) (by decide)]
        have hv : ∀ s m, spd (upI J 2 9 0) s m = spd I s m := fun s m => by
          unfold spd; rw [ho, hhi 104 (by decide) (by decide)]
        have hd : ∀ s m, cod (upI J 2 9 0) s m = cod I s m := fun s m => by
          unfold cod ocode; rw [ho, hhi 103 (by decide) (by decide), hhi 104 (by decide) (by decide)]
        have hX : ∀ s m, wX (upI J 2 9 0) s m = wX I s m := fun s m => by
          induction m with
          | zero => show upI J 2 9 0 99 s = I 99 s; rw [hhi 99 (by decide) (by decide)]
          | succ m ih => unfold wX; rw [ih, hc, hv, hhi 97 (by decide) (by decide), hhi 105 (by decide) (by decide)]
        have hY : ∀ s m, wY (upI J 2 9 0) s m = wY I s m := fun s m => by
          induction m with
          | zero => show upI J 2 9 0 100 s = I 100 s; rw [hhi 100 (by decide) (by decide)]
          | succ m ih => unfold wY; rw [ih, hc, hv, hhi 98 (by decide) (by decide), hhi 106 (by decide) (by decide)]
        exact fun s m => ⟨hX s m, hY s m, hc s m, hv s m, hd s m⟩
      refine ⟨hhi, hlo, e3, ?_, upI_same _ _ _ _⟩
      have hoc : ocode (upI J 2 9 0) = ocode I := by
        funext k; unfold ocode; rw [hhi 103 (by decide) (by decide), hhi 104 (by decide) (by decide)]
      unfold RC3 SeaC
      rw [e3 2 (by decide), hhi 93 (by decide) (by decide), hlo 3 (by decide) (by decide), hlo 4 (by decide) (by decide), hlo 5 (by decide) (by decide), hlo 6 (by decide) (by decide), hhi 101 (by decide) (by decide), hhi 102 (by decide) (by decide), hhi 103 (by decide) (by decide), hhi 104 (by decide) (by decide), hhi 26 (by decide) (by decide), hhi 27 (by decide) (by decide), hhi 105 (by decide) (by decide), hhi 106 (by decide) (by decide), hhi 97 (by decide) (by decide), hhi 98 (by decide) (by decide), hhi 99 (by decide) (by decide), hhi 100 (by decide) (by decide), hoc, upI_same]
      refine ⟨⟨s1, s2, s3⟩, r2, Or.inl rfl, r4, r5, r6, r7, fun s hs => ?_, fun _ s hs => ⟨fun m hm => ?_, fun m hm => ?_⟩⟩
      · have q := r8 s hs
        have k := ((w.2.1 s hs).1 0 (by omega))
        rw [e2 (12 + s) (by omega), e2 (17 + s) (by omega), k.1, k.2]
        exact ⟨⟨rfl, q.1.2⟩, rfl, q.2.2⟩
      · have k := ((w.2.1 s hs).1 m hm)
        rw [e2 (12 + s) (by omega), e2 (17 + s) (by omega), (hx s m).1, (hx s m).2.1]
        exact k
      · rw [e2 (22 + s) (by omega), (hx s m).2.2.2.2]
        exact (w.2.1 s hs).2 m hm
    · unfold fillI
      funext k
      rw [if_neg p1]
    · have e : k = 0 := by omega
      subst e
      have q8 := r8 s hs
      unfold fillI
      rw [if_neg (by omega), if_neg (by omega)]
      exact ⟨q8.1.1, q8.2.1⟩
    · unfold fillI
      rw [if_pos rfl, if_pos hs]
      rfl
