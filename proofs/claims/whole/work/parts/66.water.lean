/-! CALLS: sinks, other, water -/
theorem skI_ro {I J : St} (h : ∀ p, 112 ≤ p → p ≤ 118 → J p = I p) (h93 : ∀ k, k ≠ 0 → J 93 k = I 93 k) : wlI J = wlI I ∧ skI J = skI I := by
  have e : wlI J = wlI I := by
    funext th v
    unfold wlI
    rw [h 112 (by decide) (by decide), h 113 (by decide) (by decide), h 114 (by decide) (by decide), h 115 (by decide) (by decide), h 116 (by decide) (by decide), h 117 (by decide) (by decide), h 118 (by decide) (by decide), h93 24 (by decide), h93 26 (by decide), h93 30 (by decide)]
  refine ⟨e, ?_⟩
  funext th v
  unfold skI
  rw [e, h93 25 (by decide)]
theorem RC5.ro {I J : St} (h : ∀ p, p ≠ 38 → p ≠ 39 → p ≠ 119 → p ≠ 93 → J p = I p) (h93 : ∀ k, k ≠ 0 → J 93 k = I 93 k) (r : RC5 I) : RC5 J := by
  obtain ⟨r1, r2, r3, r4, r5, r6, r7, r8, r9, r10, r11⟩ := r
  have sk := skI_ro (I := I) (J := J) (fun p h1 h2 => h p (by omega) (by omega) (by omega) (by omega)) h93
  have e : ∀ p, p < 38 → J p = I p := fun p hp => h p (by omega) (by omega) (by omega) (by omega)
  have e2 : ∀ p, 112 ≤ p → p ≤ 118 → J p = I p := fun p h1 h2 => h p (by omega) (by omega) (by omega) (by omega)
  have e3 : ∀ k, k < 6 → J (41 + k) = I (41 + k) := fun k hk => h _ (by omega) (by omega) (by omega) (by omega)
  unfold RC5 VesC K0
  rw [h93 30 (by decide), h93 24 (by decide), h93 25 (by decide), h93 26 (by decide), e 29 (by decide), e 30 (by decide), e 31 (by decide), e 32 (by decide), e 33 (by decide), e 34 (by decide), e 35 (by decide), e 36 (by decide), e 37 (by decide), e2 112 (by decide) (by decide), e2 113 (by decide) (by decide), e2 114 (by decide) (by decide), e2 115 (by decide) (by decide), e2 116 (by decide) (by decide), e2 117 (by decide) (by decide), e2 118 (by decide) (by decide), e3 0 (by decide), e3 1 (by decide), e3 2 (by decide), e3 3 (by decide), e3 4 (by decide), e3 5 (by decide), sk.1, sk.2]
  refine ⟨r1, r2, r3, r4, r5, r6, r7, r8, r9, r10, fun z => ⟨(r11 z).1, fun k hk m hm => ?_⟩⟩
  rw [e3 k hk]
  exact (r11 z).2 k hk m hm
theorem Vsl.ag {I J : St} (w : Vsl I J) : Ag [5, 11] I J := fun p k hq => by
  by_cases h1 : p = 29
  · subst h1; rw [show cmp 29 k = 5 from rfl] at hq; cases hq
  · by_cases h2 : p = 38
    · subst h2; rw [show cmp 38 k = 5 from rfl] at hq; cases hq
    · by_cases h3 : p = 39
      · subst h3; rw [show cmp 39 k = 5 from rfl] at hq; cases hq
      · by_cases h4 : 41 ≤ p ∧ p ≤ 46
        · obtain ⟨t, rfl⟩ : ∃ t, p = 41 + t := ⟨p - 41, by omega⟩
          rw [cmp_ves t (by omega) k] at hq; cases hq
        · rw [w.1 p h1 h2 h3 h4]
theorem Vsl.r93 {I J : St} (w : Vsl I J) {p : Nat} (h : 47 ≤ p) : J p = I p := w.1 p (by omega) (by omega) (by omega) (by omega)
theorem Vsl.rc5 {I J : St} (w : Vsl I J) (r : RC5 I) : RC5 J := by
  obtain ⟨w1, w2, w3, w4⟩ := id w
  obtain ⟨r1, r2, r3, r4, r5, r6, r7, r8, r9, r10⟩ := r
  have e : ∀ p, 30 ≤ p → p ≤ 37 → J p = I p := fun p h1 h2 => w1 p (by omega) (by omega) (by omega) (by omega)
  unfold RC5
  rw [w.r93 (p := 93) (by decide), w2 1 (by decide) (by decide), w2 9 (by decide) (by decide), w2 10 (by decide) (by decide), e 30 (by decide) (by decide), e 31 (by decide) (by decide), e 32 (by decide) (by decide), e 33 (by decide) (by decide), e 34 (by decide) (by decide), e 35 (by decide) (by decide), e 36 (by decide) (by decide), e 37 (by decide) (by decide), w.r93 (p := 112) (by decide), w.r93 (p := 113) (by decide), w.r93 (p := 114) (by decide), w.r93 (p := 115) (by decide), w.r93 (p := 116) (by decide), w.r93 (p := 117) (by decide), w.r93 (p := 118) (by decide)]
  exact ⟨r1, r2, r3, r4, Or.inl w3, r6, r7, r8, r9, w4⟩
theorem Vsl.sk {I J : St} (w : Vsl I J) : wlI J = wlI I ∧ skI J = skI I := skI_ro (fun p h1 h2 => w.r93 (by omega)) (fun k _ => by rw [w.r93 (p := 93) (by decide)])
/-- the state at which the reference begins -/
theorem up93 {J : St} : (∀ p, p ≠ 93 → upI J 93 0 0 p = J p) ∧ ∀ k, k ≠ 0 → upI J 93 0 0 93 k = J 93 k := ⟨fun p hp => upI_row hp, fun k hk => upI_nk (fun z => hk z.2)⟩
theorem up5 {J : St} (r : RC5 J) : RC5 (upI J 93 0 0) := r.ro (fun p _ _ _ hp => up93.1 p hp) up93.2
theorem upsk {J : St} : wlI (upI J 93 0 0) = wlI J ∧ skI (upI J 93 0 0) = skI J := skI_ro (fun p h1 h2 => up93.1 p (by omega)) up93.2
theorem FB.rel {G : GX} {f : Nat} {sw : Bool} {I J K : St} {th v : Int32} (hR : Rel G f sw I) (a : Ag [5, 11] I J) (r : RC5 J) (w : FB (upI J 93 0 0) th v 240 K) : Rel G f sw K := by
  refine hR.upd [5, 11] (a.tr (fun p k hq => ?_)) rfl nof nof nof nof (fun _ => ?_) nof nof nof nof nof
  · by_cases h1 : p = 119
    · subst h1; rw [show cmp 119 k = 11 from rfl] at hq; cases hq
    · rw [w.1 p h1]
      exact upI_nk (fun z => by rw [z.1, z.2] at hq; cases hq)
  · refine r.ro (fun p _ _ h3 h4 => by rw [w.1 p h3]; exact up93.1 p h4) (fun k hk => by rw [w.1 93 (by decide)]; exact up93.2 k hk)
theorem co_sinks {G : GX} : CO (Rel G) G 75 214 [] := fun f sw I hR => by
  have r := hR.2.2.2.2.2.1
  refine v_Csinks oks ?_
  refine v_sinking oks ?_
  refine vfill_ok r (fun J w => ⟨_, rfl, rfl, ⟨_, _, rfl, rfl, ?_⟩⟩)
  have e : J 29 11 = ob (skI J 9 0) := (w.2.2.2.2 w.2.2.1).1
  refine ⟨_, f, sw, J, rfl, rfl, hR.rx w.ag rfl, v_Msinks oks ?_⟩
  refine sinksBy_ok (up5 (w.rc5 r)) (fun K k => ⟨_, _, rfl, rfl, K, ?_, rfl, k.rel hR w.ag (w.rc5 r)⟩)
  rw [e, upsk.2]
theorem PI.ro {I K : St} {u1 th v : Int32} {m : Nat} (w : PI I u1 th v m K) (hu : u1 ≠ -1) : ∀ p, p ≠ 38 → p ≠ 39 → K p = I p := fun p h1 h2 => by
  by_cases h3 : 41 ≤ p ∧ p ≤ 46
  · exact w.2.2.1 hu p h3.1 h3.2
  · exact w.1 p h1 h2 h3
theorem PI.ag {I K : St} {u1 th v : Int32} {m : Nat} (w : PI I u1 th v m K) (hu : u1 ≠ -1) : Ag [5, 11] I K := fun p k hq => by
  by_cases h2 : p = 38
  · subst h2; rw [show cmp 38 k = 5 from rfl] at hq; cases hq
  · by_cases h3 : p = 39
    · subst h3; rw [show cmp 39 k = 5 from rfl] at hq; cases hq
    · rw [w.ro hu p h2 h3]
theorem PI.rc5 {I K : St} {u1 th v : Int32} {m : Nat} (w : PI I u1 th v m K) (hu : u1 ≠ -1) (r : RC5 I) : RC5 K := r.ro (fun p h1 h2 _ _ => w.ro hu p h1 h2) (fun k _ => by rw [w.ro hu 93 (by decide) (by decide)])
theorem co_other {G : GX} (t w : Int32) : CO (Rel G) G 77 216 [.int t, .int w] := fun f sw I hR => by
  have r := hR.2.2.2.2.2.1
  obtain ⟨⟨s1, s2, s3⟩, -⟩ := id r
  have e3 : (I 93 30 - 1).toInt = (I 93 30).toInt - 1 := fb_subI (by simp only [Int32.reduceToInt]; omega) (by simp only [Int32.reduceToInt]; omega)
  refine v_Cother oks ?_
  rw [s1]
  simp only [tI_lt, tI_le, Int32.reduceToInt, Int32.reduceOfNat, e3, tI_eq t, Int32.reduceAdd]
  repeat' (refine ite_i (fun _ => ?_) (fun _ => ?_))
  all_goals first
    | (exfalso; omega)
    | (refine ⟨_, f, sw, I, (by first | rfl | trivial), rfl, hR.1, v_Mother oks ?_⟩
       try simp only [lcl, lcg, w64]
       simp only [tI_lt, tI_le, Int32.reduceToInt, Int64.reduceToInt, Int32.reduceOfNat, e3, tI_eq t]
       repeat' (refine ite_i (fun _ => ?_) (fun _ => ?_))
       all_goals first
         | (exfalso; omega)
         | exact ⟨_, (by first | rfl | trivial), rfl, hR.free (Ag.rf.up rfl)⟩)
    | skip
  all_goals
    have hu : t ≠ -1 := fun z => by
      have z2 := congrArg Int32.toInt z
      rw [m1t] at z2
      omega
    refine vplay_ok (th := t) r (Or.inr ⟨rfl, by omega, by omega⟩) (fun z => by omega) (fun z => by omega) (fun m K k _ => ⟨_, _, rfl, rfl, ?_⟩)
    refine ⟨_, f, sw, K, rfl, rfl, hR.rx (k.ag hu) rfl, v_Mother oks ?_⟩
    have k93 : K 93 30 = I 93 30 := by rw [k.ro hu 93 (by decide) (by decide)]
    rw [k93]
    simp only [lcl, lcg, w64]
    simp only [tI_lt, tI_le, Int32.reduceToInt, Int64.reduceToInt, Int32.reduceOfNat, e3, tI_eq t]
    repeat' (refine ite_i (fun _ => ?_) (fun _ => ?_))
    all_goals first
      | (exfalso; omega)
      | skip
    all_goals
      refine sinksBy_ok (up5 (k.rc5 hu r)) (fun X x => ⟨_, _, rfl, rfl, X, ?_, rfl, x.rel hR (k.ag hu) (k.rc5 hu r)⟩)
      rw [upsk.2, (skI_ro (fun p h1 h2 => k.ro hu p (by omega) (by omega)) (fun i _ => by rw [k.ro hu 93 (by decide) (by decide)])).2]
theorem all_loop {G : GX} {d f : Nat} {sw : Bool} {J : St} {m : Nat} {l : Nat → Int32} {Q : Option Value → Hp → Prop} (hm : m ≤ 240) (hl : ∀ h, h < 6 → J (41 + h) m = l h) (q : Q (some (.int (sm6 l))) (147, f, J, RP f sw)) : ∀ (c k : Nat), k + c = 6 → wp G (d + 80) (mt 65) 6 [some (.ref 29), some (.int (Int32.ofNat m)), some (.int (ps l k)), some (.int (Int32.ofNat k))] [] (147, f, J, RP f sw) Q
  | 0, k, h => by
    have e : k = 6 := by omega
    subst e
    refine v_allWater6 oks ?_
    rw [if_pos (by decide), ps_6]
    exact q
  | c + 1, k, h => by
    refine v_allWater6 oks ?_
    rw [if_neg (by rw [tI_le, kI_t (show k < 2147483648 by omega)]; simp only [Int32.reduceToInt]; omega)]
    refine ck_of (kI_x (by omega) (by omega)) ?_
    rw [kI_c (by omega), RP_k (show k < 6 by omega)]
    refine st_iaload rfl rfl (by omega) (okB_k (by omega)) (by rw [SH_k (by omega)]; exact kI_x (by omega) (by show m < 241; omega)) ?_
    refine v_allWater16 oks ?_
    rw [kI_1]
    have e : ps l k + J (41 + k) (Int32.ofNat m).toNatClampNeg = ps l (k + 1) := by rw [kI_c (by omega), hl k (by omega)]; rfl
    show wp G (d + 80) (mt 65) 6 [some (.ref 29), some (.int (Int32.ofNat m)), some (.int (ps l k + J (41 + k) (Int32.ofNat m).toNatClampNeg)), some (.int (Int32.ofNat (k + 1)))] [] (147, f, J, RP f sw) Q
    rw [e]
    exact all_loop hm hl q c (k + 1) (by omega)
theorem Vsl.lev {I J : St} (w : Vsl I J) {h m : Nat} (hh : h < 6) (hm : m ≤ 240) : J (41 + h) m = wlI I 9 0 m h := by
  rw [(w.2.2.2.2 w.2.2.1).2 h hh m hm, w.sk.1]
theorem allWater_ok {G : GX} {d f : Nat} {sw : Bool} {I : St} {m : Nat} {Q : Option Value → Hp → Prop} (r : RC5 I) (hm : m ≤ 240) (q : ∀ J, Vsl I J → Q (some (.int (sm6 (wlI I 9 0 m)))) (147, f, J, RP f sw)) : wp G (d + 80) (mt 65) 0 (en (mt 65) [.ref 29, .int (Int32.ofNat m)]) [] (147, f, I, RP f sw) Q := by
  refine v_allWater oks ?_
  refine vfill_ok r (fun J w => ⟨_, rfl, rfl, ?_⟩)
  exact all_loop hm (fun h hh => w.lev hh hm) (q J w) 6 0 (by omega)
theorem waterIn_ok {G : GX} {d f : Nat} {sw : Bool} {I : St} {s m : Nat} {Q : Option Value → Hp → Prop} (r : RC5 I) (hs : s < 6) (hm : m ≤ 240) (q : ∀ J, Vsl I J → Q (some (.int (wlI I 9 0 m s))) (147, f, J, RP f sw)) : wp G (d + 80) (mt 74) 0 (en (mt 74) [.ref 29, .int (Int32.ofNat s), .int (Int32.ofNat m)]) [] (147, f, I, RP f sw) Q := by
  refine v_waterIn oks ?_
  refine vfill_ok r (fun J w => ⟨_, rfl, rfl, ?_⟩)
  refine ck_of (kI_x (by omega) (by omega)) ?_
  rw [kI_c (by omega), RP_k hs]
  refine st_iaload rfl rfl (by omega) (okB_k hs) (by rw [SH_k hs]; exact kI_x (by omega) (by show m < 241; omega)) ?_
  show wp G (d + 80) (mt 74) 8 _ [.int (J (41 + s) (Int32.ofNat m).toNatClampNeg)] (147, f, J, RP f sw) Q
  refine v_waterInr oks ?_
  rw [kI_c (by omega), w.lev hs hm]
  exact q J w
theorem co_water {G : GX} (s m : Int32) : CO (Rel G) G 64 209 [.int s, .int m] := fun f sw I hR => by
  have r := hR.2.2.2.2.2.1
  refine v_Cwater oks ?_
  simp only [tI_lt, tI_le, Int32.reduceToInt, Int32.reduceOfNat, tI_eq s]
  repeat' (refine ite_i (fun _ => ?_) (fun _ => ?_))
  all_goals first
    | (exfalso; omega)
    | (refine ⟨_, f, sw, I, (by first | rfl | trivial), rfl, hR.1, v_Mwater oks ?_⟩
       try simp only [lcl, lcg, w64]
       simp only [tI_lt, tI_le, Int32.reduceToInt, Int64.reduceToInt, Int32.reduceOfNat, tI_eq s]
       repeat' (refine ite_i (fun _ => ?_) (fun _ => ?_))
       all_goals first
         | (exfalso; omega)
         | exact ⟨_, (by first | rfl | trivial), rfl, hR.free (Ag.rf.up rfl)⟩)
    | skip
  all_goals
    obtain ⟨m0, hm, tm⟩ : ∃ k : Nat, m = Int32.ofNat k ∧ m.toInt = (k : Int) := ⟨m.toInt.toNat, kI_of (by omega), by omega⟩
    subst hm
  all_goals
    have keyM : ∀ (J : St) (x : Int32), Vsl I J → (s.toInt = -1000000 → x = sm6 (wlI I 9 0 m0)) → (s.toInt ≠ -1000000 → x = wlI I 9 0 m0 s.toInt.toNat) → wp G 999 (mt 209) 0 (en (mt 209) [.ref 93, .int s, .int (Int32.ofNat m0)]) [] (147, f, J, RP f sw) (fun r2 h2 => ∃ I2, r2 = some (.int x) ∧ h2 = (147, f, I2, RP f sw) ∧ Rel G f sw I2) := fun J x w h1 h2 => by
      refine v_Mwater oks ?_
      simp only [lcl, lcg, w64]
      simp only [tI_lt, tI_le, Int32.reduceToInt, Int64.reduceToInt, Int32.reduceOfNat, tI_eq s]
      repeat' (refine ite_i (fun _ => ?_) (fun _ => ?_))
      all_goals first
        | (exfalso; omega)
        | skip
      all_goals
        refine mfill_ok (up5 (w.rc5 r)) (fun K k => ⟨_, rfl, rfl, ?_⟩)
        have rel := k.rel hR w.ag (w.rc5 r)
        have wl : wlI (upI J 93 0 0) = wlI I := upsk.1.trans w.sk.1
        repeat' (refine ite_i (fun _ => ?_) (fun _ => ?_))
        all_goals first
          | (exfalso; omega)
          | skip
      all_goals first
        | (refine wet_ok k (by omega) ⟨_, _, rfl, rfl, K, ?_, rfl, rel⟩
           rw [wl, h1 (by omega)])
        | (obtain ⟨s0, hs, ts⟩ : ∃ k : Nat, s = Int32.ofNat k ∧ s.toInt = (k : Int) := ⟨s.toInt.toNat, kI_of (by omega), by omega⟩
           have h2' := h2 (by omega)
           rw [show s.toInt.toNat = s0 by omega] at h2'
           subst hs
           rw [l6, ← Int32.ofNat_add]
           refine ck_of (kI_x (by omega) (by omega)) ⟨K, ?_, rfl, rel⟩
           rw [kI_c (by omega), k.2 m0 (by omega) s0 (by omega), wl, h2'])
  all_goals first
    | refine allWater_ok r (by omega) (fun J w => ⟨_, _, rfl, rfl, _, f, sw, J, rfl, rfl, hR.rx w.ag rfl, keyM J _ w (fun _ => rfl) (fun z => by omega)⟩)
    | (obtain ⟨s0, hs, ts⟩ : ∃ k : Nat, s = Int32.ofNat k ∧ s.toInt = (k : Int) := ⟨s.toInt.toNat, kI_of (by omega), by omega⟩
       have e0 : s.toInt.toNat = s0 := by omega
       rw [e0] at keyM
       subst hs
       refine waterIn_ok r (by omega) (by omega) (fun J w => ⟨_, _, rfl, rfl, _, f, sw, J, rfl, rfl, hR.rx w.ag rfl, keyM J _ w (fun z => by omega) (fun _ => rfl)⟩))
