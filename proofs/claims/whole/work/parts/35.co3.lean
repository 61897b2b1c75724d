/-! CALLS: as, withdraw, ship -/
theorem co_as {G : GX} (a0 a1 : Int32) : CO (Rel G) G 161 254 [.int a0, .int a1] := fun f sw I hR => by
  obtain ⟨b1, b2, b3, b4, b5⟩ := hR.2.2.2.2.2.2.1
  have bf : (Int32.ofNat f).toInt = f := kI_t (by omega)
  have e1 : (Int32.ofNat f - 1).toInt = f - 1 := (fb_subI (by simp only [Int32.reduceToInt]; omega) (by simp only [Int32.reduceToInt]; omega)).trans (by rw [bf]; rfl)
  refine v_Cas oks ?_
  rw [b2]
  simp only [tI_lt, tI_le, Int32.reduceToInt, Int32.reduceOfNat, e1]
  repeat' (refine ite_i (fun _ => ?_) (fun _ => ?_))
  all_goals first
    | (exfalso; omega)
    | (refine ⟨_, f, sw, I, (by first | rfl | trivial), rfl, hR.1, v_Mas oks ?_⟩
       try simp only [lcl, lcg, w64]
       simp only [tI_lt, tI_le, Int32.reduceToInt, Int64.reduceToInt, Int32.reduceOfNat, b3, e1]
       repeat' (refine ite_i (fun _ => ?_) (fun _ => ?_))
       all_goals first
         | (exfalso; omega)
         | exact ⟨_, (by first | rfl | trivial), rfl, hR.free (Ag.rf.up rfl)⟩)
    | skip
  refine ck_of (ixB_i (by omega) (by omega)) ?_
  have hs : a0.toNatClampNeg < f := by rw [tnc]; omega
  obtain ⟨⟨p0, p0a, p0b⟩, ⟨p1, p1a, p1b⟩, ⟨p2, p2a, p2b⟩, ⟨p3, p3a, p3b⟩, ⟨p4, p4a, p4b⟩, ⟨p5, p5a, p5b⟩, ⟨p6, p6a, p6b⟩, ⟨p7, p7a, p7b⟩, p8, p8a⟩ := b4 _ hs
  have hst : (a0.toNatClampNeg : Int) = a0.toInt := by rw [tnc]; omega
  generalize a0.toNatClampNeg = s at hs p0 p0a p0b p1 p1a p1b p2 p2a p2b p3 p3a p3b p4 p4a p4b p5 p5a p5b p6 p6a p6b p7 p7a p7b p8 p8a hst ⊢
  have hse : a0.toInt.toNat = s := by omega
  have keyG : (a1.toInt = 0 ∨ (I 128 s).toInt = -1000000 ∧ a1.toInt = (I 120 s).toInt ∨ (I 128 s).toInt ≠ -1000000 ∧ a1.toInt = 4 ∨ a1.toInt = 1 ∧ ((I 128 s).toInt ≠ -1000000 ∨ (I 120 s).toInt = 2)) → wp G 999 (mt 254) 0 (en (mt 254) [.ref 93, .int a0, .int a1]) [] (147, f, upI I 0 11 0, RP f sw) (fun r2 h2 => ∃ I2, r2 = some (.int (I 122 s)) ∧ h2 = (147, f, I2, RP f sw) ∧ Rel G f sw I2) := fun hK => by
    refine v_Mas oks ?_
    simp only [upI_ap, Nat.reduceEqDiff, reduceIte, lcl, lcg, w64]
    simp only [tnc, hse, b3, e1, tI_eq, tI_lt, tI_le, Int32.reduceToInt, Int64.reduceToInt, Int32.reduceOfNat]
    repeat' (first | refine ite_i (fun _ => ?_) (fun _ => ?_) | refine ck_of (ixB_i (by omega) (by omega)) ?_)
    all_goals first
      | (exfalso; omega)
      | (refine ⟨_, (by first | rfl | trivial), rfl, hR.upd [2, 11] (by repeat (first | exact Ag.rf | refine Ag.up ?_ rfl)) rfl nof (fun _ => ?_) nof nof nof nof nof nof nof nof⟩
         simp only [RC2, upI_ap, Nat.reduceEqDiff, reduceIte])
  have keyB : ¬ (a1.toInt = 0 ∨ (I 128 s).toInt = -1000000 ∧ a1.toInt = (I 120 s).toInt ∨ (I 128 s).toInt ≠ -1000000 ∧ a1.toInt = 4 ∨ a1.toInt = 1 ∧ ((I 128 s).toInt ≠ -1000000 ∨ (I 120 s).toInt = 2)) → wp G 999 (mt 254) 0 (en (mt 254) [.ref 93, .int a0, .int a1]) [] (147, f, upI I 0 11 3, RP f sw) (fun r2 h2 => ∃ I2, r2 = some (.int (-1000010 - 3)) ∧ h2 = (147, f, I2, RP f sw) ∧ Rel G f sw I2) := fun hK => by
    refine v_Mas oks ?_
    simp only [upI_ap, Nat.reduceEqDiff, reduceIte, lcl, lcg, w64]
    simp only [tnc, hse, b3, e1, tI_eq, tI_lt, tI_le, Int32.reduceToInt, Int64.reduceToInt, Int32.reduceOfNat]
    repeat' (first | refine ite_i (fun _ => ?_) (fun _ => ?_) | refine ck_of (ixB_i (by omega) (by omega)) ?_)
    all_goals first
      | (exfalso; omega)
      | (refine ⟨_, (by first | rfl | trivial), rfl, hR.upd [2, 11] (by repeat (first | exact Ag.rf | refine Ag.up ?_ rfl)) rfl nof (fun _ => ?_) nof nof nof nof nof nof nof nof⟩
         simp only [RC2, upI_ap, Nat.reduceEqDiff, reduceIte])
  simp only [RP_fa hs, oV, okB_fa hs, ck]
  rw [p8, p0, p3]
  simp only [tI_eq, Int32.reduceToInt]
  by_cases hK : (a1.toInt = 0 ∨ (I 128 s).toInt = -1000000 ∧ a1.toInt = (I 120 s).toInt ∨ (I 128 s).toInt ≠ -1000000 ∧ a1.toInt = 4 ∨ a1.toInt = 1 ∧ ((I 128 s).toInt ≠ -1000000 ∨ (I 120 s).toInt = 2))
  · have k := keyG hK
    clear keyG keyB
    repeat' (refine ite_i (fun _ => ?_) (fun _ => ?_))
    all_goals first
      | (exfalso; omega)
      | exact ⟨_, f, sw, _, rfl, rfl, hR.rx (cs := [2, 11]) (by repeat (first | exact Ag.rf | refine Ag.up ?_ rfl)) rfl, k⟩
  · have k := keyB hK
    clear keyG keyB
    repeat' (refine ite_i (fun _ => ?_) (fun _ => ?_))
    all_goals first
      | (exfalso; omega)
      | exact ⟨_, f, sw, _, rfl, rfl, hR.rx (cs := [2, 11]) (by repeat (first | exact Ag.rf | refine Ag.up ?_ rfl)) rfl, k⟩
theorem RC6.one {f : Nat} {I J : St} {s : Nat} (r : RC6 f I) (hJ : JC f J) (h1 : J 47 1 = I 47 1) (h2 : J 93 35 = I 93 35) (h : ∀ k, k < f → k ≠ s → (∀ i, J (1000 + k) i = I (1000 + k) i) ∧ J 120 k = I 120 k ∧ J 121 k = I 121 k ∧ J 122 k = I 122 k ∧ J 123 k = I 123 k ∧ J 124 k = I 124 k ∧ J 125 k = I 125 k ∧ J 126 k = I 126 k ∧ J 127 k = I 127 k ∧ J 128 k = I 128 k)
    (hs : (J (1000 + s) 0 = J 120 s ∧ 0 ≤ (J 120 s).toInt ∧ (J 120 s).toInt ≤ 3) ∧ (J (1000 + s) 1 = J 126 s ∧ 0 ≤ (J 126 s).toInt ∧ (J 126 s).toInt ≤ 2) ∧ (J (1000 + s) 2 = J 127 s ∧ 0 ≤ (J 127 s).toInt ∧ (J 127 s).toInt ≤ 99) ∧ (J (1000 + s) 3 = J 122 s ∧ 0 ≤ (J 122 s).toInt ∧ (J 122 s).toInt ≤ 239) ∧ (J (1000 + s) 4 = J 121 s ∧ 0 ≤ (J 121 s).toInt ∧ (J 121 s).toInt ≤ 3) ∧
      (J (1000 + s) 5 = J 123 s ∧ -10000 ≤ (J 123 s).toInt ∧ (J 123 s).toInt ≤ 10000) ∧ (J (1000 + s) 6 = J 124 s ∧ -10000 ≤ (J 124 s).toInt ∧ (J 124 s).toInt ≤ 10000) ∧ (J (1000 + s) 7 = J 125 s ∧ 0 ≤ (J 125 s).toInt ∧ (J 125 s).toInt ≤ 2000) ∧ J (1000 + s) 8 = J 128 s ∧ (J 128 s = -1000000 ∨ 0 ≤ (J 128 s).toInt ∧ (J 128 s).toInt ≤ 99)) : RC6 f J := by
  obtain ⟨r1, r2, r3, r4, r5⟩ := r
  refine ⟨r1, h1.trans r2, h2.trans r3, fun k hk => ?_, hJ⟩
  by_cases e : k = s
  · subst e
    exact hs
  · obtain ⟨g0, g1, g2, g3, g4, g5, g6, g7, g8, g9⟩ := h k hk e
    simp only [g0, g1, g2, g3, g4, g5, g6, g7, g8, g9]
    exact r4 k hk
/-- what was judged does not look at who is gone -/
theorem JC.wd {f : Nat} {I J : St} (r : JC f I) (h : ∀ p k, p ≠ 128 → ¬ (k = 8 ∧ 1000 ≤ p) → cmp p k = 6 → J p k = I p k) : JC f J := r.ro (fun p k q => h p k (by omega) (by omega) (cmp_jc q))
theorem co_withdraw {G : GX} (a0 a1 : Int32) : CO (Rel G) G 86 219 [.int a0, .int a1] := fun f sw I hR => by
  obtain ⟨b1, b2, b3, b4, b5⟩ := hR.2.2.2.2.2.2.1
  have bf : (Int32.ofNat f).toInt = f := kI_t (by omega)
  have e1 : (Int32.ofNat f - 1).toInt = f - 1 := (fb_subI (by simp only [Int32.reduceToInt]; omega) (by simp only [Int32.reduceToInt]; omega)).trans (by rw [bf]; rfl)
  refine v_Cwithdraw oks ?_
  rw [b2]
  simp only [tI_lt, tI_le, Int32.reduceToInt, Int32.reduceOfNat, e1]
  repeat' (refine ite_i (fun _ => ?_) (fun _ => ?_))
  all_goals first
    | (exfalso; omega)
    | (refine ⟨_, f, sw, I, (by first | rfl | trivial), rfl, hR.1, v_Mwithdraw oks ?_⟩
       try simp only [lcl, lcg, w64]
       simp only [tI_lt, tI_le, Int32.reduceToInt, Int64.reduceToInt, Int32.reduceOfNat, b3, e1]
       repeat' (refine ite_i (fun _ => ?_) (fun _ => ?_))
       all_goals first
         | (exfalso; omega)
         | exact ⟨_, (by first | rfl | trivial), rfl, hR.free (Ag.rf.up rfl)⟩)
    | skip
  refine ck_of (ixB_i (by omega) (by omega)) ?_
  have hs : a0.toNatClampNeg < f := by rw [tnc]; omega
  obtain ⟨⟨p0, p0a, p0b⟩, ⟨p1, p1a, p1b⟩, ⟨p2, p2a, p2b⟩, ⟨p3, p3a, p3b⟩, ⟨p4, p4a, p4b⟩, ⟨p5, p5a, p5b⟩, ⟨p6, p6a, p6b⟩, ⟨p7, p7a, p7b⟩, p8, p8a⟩ := b4 _ hs
  have hst : (a0.toNatClampNeg : Int) = a0.toInt := by rw [tnc]; omega
  generalize a0.toNatClampNeg = s at hs p0 p0a p0b p1 p1a p1b p2 p2a p2b p3 p3a p3b p4 p4a p4b p5 p5a p5b p6 p6a p6b p7 p7a p7b p8 p8a hst ⊢
  have hse : a0.toInt.toNat = s := by omega
  have hix : ixB a0 12 = true := ixB_i (by omega) (by omega)
  simp only [RP_fa hs, oV, okB_fa hs, hix, ck, kzf, Bool.true_and]
  rw [p8, p0, p2]
  simp only [tI_eq, Int32.reduceToInt, tI_le]
  have keyB : a1.toInt < (I 127 s).toInt → wp G 999 (mt 219) 0 (en (mt 219) [.ref 93, .int a0, .int a1]) [] (147, f, I, RP f sw) (fun r2 h2 => ∃ I2, r2 = some (.int (-1000001)) ∧ h2 = (147, f, I2, RP f sw) ∧ Rel G f sw I2) := fun hK => by
    refine v_Mwithdraw oks ?_
    simp only [upI_ap, Nat.reduceEqDiff, reduceIte, lcl, lcg, w64]
    simp only [tnc, hse, b3, e1, tI_eq, tI_lt, tI_le, Int32.reduceToInt, Int64.reduceToInt, Int32.reduceOfNat]
    repeat' (first | refine ite_i (fun _ => ?_) (fun _ => ?_) | refine ck_of (ixB_i (by omega) (by omega)) ?_)
    all_goals first
      | (exfalso; omega)
      | exact ⟨_, (by first | rfl | trivial), rfl, hR.free (Ag.rf.up rfl)⟩
  have keyS : ¬ a1.toInt < (I 127 s).toInt → ¬ (((I 120 s).toInt = 1 ∨ (I 120 s).toInt = 2) ∧ (I 128 s).toInt = -1000000) → wp G 999 (mt 219) 0 (en (mt 219) [.ref 93, .int a0, .int a1]) [] (147, f, I, RP f sw) (fun r2 h2 => ∃ I2, r2 = some (.int (-1000002)) ∧ h2 = (147, f, I2, RP f sw) ∧ Rel G f sw I2) := fun hK hL => by
    refine v_Mwithdraw oks ?_
    simp only [upI_ap, Nat.reduceEqDiff, reduceIte, lcl, lcg, w64]
    simp only [tnc, hse, b3, e1, tI_eq, tI_lt, tI_le, Int32.reduceToInt, Int64.reduceToInt, Int32.reduceOfNat]
    repeat' (first | refine ite_i (fun _ => ?_) (fun _ => ?_) | refine ck_of (ixB_i (by omega) (by omega)) ?_)
    all_goals first
      | (exfalso; omega)
      | exact ⟨_, (by first | rfl | trivial), rfl, hR.free (Ag.rf.up rfl)⟩
  have keyG : ¬ a1.toInt < (I 127 s).toInt → (((I 120 s).toInt = 1 ∨ (I 120 s).toInt = 2) ∧ (I 128 s).toInt = -1000000) → wp G 999 (mt 219) 0 (en (mt 219) [.ref 93, .int a0, .int a1]) [] (147, f, upI I (1000 + s) 8 a1, RP f sw) (fun r2 h2 => ∃ I2, r2 = some (.int 1) ∧ h2 = (147, f, I2, RP f sw) ∧ Rel G f sw I2) := fun hK hL => by
    have hne : ∀ p, p < 147 → ¬ (p = 1000 + s) := fun p hp => by omega
    refine v_Mwithdraw oks ?_
    simp only [hne 93 (by omega), hne 120 (by omega), hne 127 (by omega), hne 128 (by omega), upI_ap, Nat.reduceEqDiff, reduceIte, lcl, lcg, w64]
    simp only [tnc, hse, b3, e1, tI_eq, tI_lt, tI_le, Int32.reduceToInt, Int64.reduceToInt, Int32.reduceOfNat]
    repeat' (first | refine ite_i (fun _ => ?_) (fun _ => ?_) | refine ck_of (ixB_i (by omega) (by omega)) ?_)
    all_goals first
      | (exfalso; omega)
      | skip
    all_goals refine ⟨_, (by first | rfl | trivial), rfl, hR.upd [6, 11] (by repeat (first | exact Ag.rf | refine Ag.up ?_ rfl | refine Ag.up ?_ (by rw [cmp_fa _ (by omega) (by omega)]; rfl))) rfl nof nof nof nof nof (fun _ => ?_) nof nof nof nof⟩
    all_goals refine hR.2.2.2.2.2.2.1.one (s := s) (JC.wd b5 (J := upI (upI (upI I (1000 + s) 8 a1) 93 0 0) 128 s a1) (fun p k h1 h2 h3 => by rw [upI_nk (by omega), upI_nk (by rintro ⟨rfl, rfl⟩; exact absurd h3 (by decide)), upI_nk (by omega)])) ?_ ?_ (fun k h1 h2 => ⟨fun i => ?_, ?_, ?_, ?_, ?_, ?_, ?_, ?_, ?_, ?_⟩) ⟨?_, ?_, ?_, ?_, ?_, ?_, ?_, ?_, ?_, Or.inr ?_⟩
    all_goals first
      | (repeat rw [upI_nk (by omega)])
      | skip
    all_goals first
      | exact ⟨p0, p0a, p0b⟩
      | exact ⟨p1, p1a, p1b⟩
      | exact ⟨p2, p2a, p2b⟩
      | exact ⟨p3, p3a, p3b⟩
      | exact ⟨p4, p4a, p4b⟩
      | exact ⟨p5, p5a, p5b⟩
      | exact ⟨p6, p6a, p6b⟩
      | exact ⟨p7, p7a, p7b⟩
      | (simp only [upI_same]; done)
      | (simp only [upI_same]; omega)
  by_cases c1 : a1.toInt < (I 127 s).toInt
  · have k := keyB c1
    clear keyB keyS keyG
    repeat' (refine ite_i (fun _ => ?_) (fun _ => ?_))
    all_goals first
      | (exfalso; omega)
      | exact ⟨_, f, sw, _, rfl, rfl, hR.1, k⟩
  · by_cases c2 : (((I 120 s).toInt = 1 ∨ (I 120 s).toInt = 2) ∧ (I 128 s).toInt = -1000000)
    · have k := keyG c1 c2
      clear keyB keyS keyG
      repeat' (refine ite_i (fun _ => ?_) (fun _ => ?_))
      all_goals first
        | (exfalso; omega)
        | exact ⟨_, f, sw, _, rfl, rfl, hR.rx (cs := [6, 11]) (by repeat (first | exact Ag.rf | refine Ag.up ?_ rfl | refine Ag.up ?_ (by rw [cmp_fa _ (by omega) (by omega)]; rfl))) rfl, k⟩
    · have k := keyS c1 c2
      clear keyB keyS keyG
      repeat' (refine ite_i (fun _ => ?_) (fun _ => ?_))
      all_goals first
        | (exfalso; omega)
        | exact ⟨_, f, sw, _, rfl, rfl, hR.1, k⟩
theorem cmp_sx {s : Nat} (h : s < 4) (k : Nat) : cmp (12 + s) k = 3 := (cmp_sea s h k).1
theorem cmp_sy {s : Nat} (h : s < 4) (k : Nat) : cmp (17 + s) k = 3 := (cmp_sea s h k).2.1
theorem upI_row {I : St} {p k q : Nat} {x : Int32} (h : q ≠ p) : upI I p k x q = I q := funext fun i => upI_pl h i
theorem ocode_up {I : St} {p k : Nat} {x : Int32} (h : p ≠ 103) (h2 : p ≠ 104) : ocode (upI I p k x) = ocode I := by
  funext i
  unfold ocode
  rw [upI_row (fun z => h z.symm), upI_row (fun z => h2 z.symm)]
theorem co_ship {G : GX} (a0 a1 : Int32) : CO (Rel G) G 22 189 [.int a0, .int a1] := fun f sw I hR => by
  obtain ⟨⟨s1, s2, s3⟩, r2, r3, r4, r5, r6, r7, r8, r9⟩ := hR.2.2.2.1
  refine v_ship oks ?_
  rw [s1]
  simp only [tI_lt, tI_le, Int32.reduceToInt, Int32.reduceOfNat, tI_eq (I 93 7)]
  repeat' (refine ite_i (fun _ => ?_) (fun _ => ?_))
  all_goals first
    | (exfalso; omega)
    | (refine ⟨_, f, sw, I, (by first | rfl | trivial), rfl, hR.1, v_Mship oks ?_⟩
       try simp only [lcl, lcg, w64]
       simp only [tI_lt, tI_le, Int32.reduceToInt, Int64.reduceToInt, Int32.reduceOfNat, tI_eq (I 93 7)]
       repeat' (refine ite_i (fun _ => ?_) (fun _ => ?_))
       all_goals first
         | (exfalso; omega)
         | exact ⟨_, (by first | rfl | trivial), rfl, hR.free (Ag.rf.up rfl)⟩)
    | skip
  refine ck_of (ixB_i (by omega) (by omega)) ?_
  have hs : (I 93 7).toNatClampNeg < 4 := by rw [tnc]; omega
  have hst : ((I 93 7).toNatClampNeg : Int) = (I 93 7).toInt := by rw [tnc]; omega
  have e1 : (I 93 7 + 1).toInt = (I 93 7).toInt + 1 := fb_addI (by simp only [Int32.reduceToInt]; omega) (by simp only [Int32.reduceToInt]; omega)
  have hn : (I 93 7).toInt.toNat = (I 93 7).toNatClampNeg := rfl
  have hn2 : (I 93 7 + 1).toInt.toNat = (I 93 7).toNatClampNeg + 1 := by omega
  generalize hse : (I 93 7).toNatClampNeg = s at hs hst hn hn2 ⊢
  have n1 : ¬ (2 = 12 + s) := by omega
  have n2 : ¬ (2 = 17 + s) := by omega
  simp only [RP_x hs, oV, okB_x hs, SH_x hs, ck, n1, upI_ap, Nat.reduceEqDiff, reduceIte, s1, hse, RP_y hs, okB_y hs, SH_y hs, n2]
  have i0 : ixB 0 241 = true := rfl
  have i1 : ixB (I 93 7) 4 = true := ixB_i (by omega) (by omega)
  simp only [i0, i1]
  have m1 : ∀ p, 93 ≤ p → ¬ (p = 12 + s) ∧ ¬ (p = 17 + s) := fun p _ => by omega
  refine ⟨_, f, sw, _, rfl, rfl, hR.rx (cs := [3, 11]) (by repeat (first | exact Ag.rf | refine Ag.up ?_ rfl | refine Ag.up ?_ (by rw [cmp_sx hs]; rfl) | refine Ag.up ?_ (by rw [cmp_sy hs]; rfl))) rfl, v_Mship oks ?_⟩
  simp only [(m1 93 (by omega)).1, (m1 93 (by omega)).2, upI_ap, Nat.reduceEqDiff, reduceIte, lcl, lcg, w64, hse]
  simp only [tI_lt, tI_le, Int32.reduceToInt, Int64.reduceToInt, Int32.reduceOfNat, tI_eq (I 93 7), i1, ck]
  repeat' (refine ite_i (fun _ => ?_) (fun _ => ?_))
  all_goals first | (exfalso; omega) | skip
  refine ⟨_, (by first | rfl | trivial), rfl, hR.upd [3, 11] (by repeat (first | exact Ag.rf | refine Ag.up ?_ rfl | refine Ag.up ?_ (by rw [cmp_sx hs]; rfl) | refine Ag.up ?_ (by rw [cmp_sy hs]; rfl))) rfl nof nof (fun _ => ?_) nof nof nof nof nof nof nof⟩
  unfold RC3 SeaC
  have j1 : ∀ (J : St), upI J 93 7 (I 93 7 + 1) 93 7 = I 93 7 + 1 := fun J => upI_same _ _ _ _
  simp (disch := omega) only [upI_row, upI_nk, upI_same, ocode_up]
  refine ⟨⟨trivial, by omega, by omega⟩, r2, Or.inr trivial, r4, r5, r6, r7, fun s' h' => ?_, fun z => absurd z (by decide)⟩
  by_cases e : s' = s
  · subst e
    simp (disch := omega) only [upI_row, upI_nk, upI_same]
    exact ⟨⟨trivial, by omega, by omega⟩, trivial, by omega, by omega⟩
  · simp (disch := omega) only [upI_row, upI_nk, upI_same]
    exact r8 s' (by omega)
