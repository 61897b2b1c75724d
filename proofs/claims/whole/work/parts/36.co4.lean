/-! CALLS: hull -/
theorem co_hull {G : GX} (a0 a1 : Int32) : CO (Rel G) G 54 206 [.int a0, .int a1] := fun f sw I hR => by
  obtain ⟨⟨t1, t2, t3⟩, ⟨u1, u2, u3⟩, ⟨w1, w2, w3⟩, r4, r5, r6, r7, r8, r9, r10⟩ := hR.2.2.2.2.2.1
  have keyB : ¬ (0 ≤ a0.toInt ∧ a0.toInt ≤ 7 ∧ (a0.toInt = 6 ∧ 0 ≤ a1.toInt ∧ a1.toInt ≤ 100 ∨ a0.toInt = 7 ∧ 1 ≤ a1.toInt ∧ a1.toInt ≤ 6000 ∨ a0.toInt < 6 ∧ 1 ≤ a1.toInt ∧ a1.toInt ≤ 1000)) → wp G 999 (mt 206) 0 (en (mt 206) [.ref 93, .int a0, .int a1]) [] (147, f, I, RP f sw) (fun r2 h2 => ∃ I2, r2 = some (.int (-1000001)) ∧ h2 = (147, f, I2, RP f sw) ∧ Rel G f sw I2) := fun hK => by
    refine v_Mhull oks ?_
    simp only [lcl, lcg, w64]
    simp only [tI_eq a0, tI_lt, tI_le, Int32.reduceToInt, Int64.reduceToInt, Int32.reduceOfNat]
    repeat' (refine ite_i (fun _ => ?_) (fun _ => ?_))
    all_goals first
      | (exfalso; omega)
      | exact ⟨_, (by first | rfl | trivial), rfl, hR.free (Ag.rf.up rfl)⟩
  have key6 : (a0.toInt = 6 ∧ 0 ≤ a1.toInt ∧ a1.toInt ≤ 100) → wp G 999 (mt 206) 0 (en (mt 206) [.ref 93, .int a0, .int a1]) [] (147, f, upI (upI I 29 9 a1) 29 12 1, RP f sw) (fun r2 h2 => ∃ I2, r2 = some (.int (I 29 9)) ∧ h2 = (147, f, I2, RP f sw) ∧ Rel G f sw I2) := fun hK => by
    refine v_Mhull oks ?_
    simp only [upI_ap, Nat.reduceEqDiff, reduceIte, lcl, lcg, w64]
    simp only [tI_eq a0, tI_lt, tI_le, Int32.reduceToInt, Int64.reduceToInt, Int32.reduceOfNat, u1]
    repeat' (refine ite_i (fun _ => ?_) (fun _ => ?_))
    all_goals first
      | (exfalso; omega)
      | skip
    refine ⟨_, (by first | rfl | trivial), rfl, hR.upd [5, 11] (by repeat (first | exact Ag.rf | refine Ag.up ?_ rfl)) rfl nof nof nof nof (fun _ => ?_) nof nof nof nof nof⟩
    exact ⟨⟨t1, t2, t3⟩, ⟨rfl, hK.2.1, hK.2.2⟩, ⟨w1, w2, w3⟩, r4, Or.inr rfl, r6, r7, r8, r9, VesC.st rfl r10.1⟩
  have key7 : (a0.toInt = 7 ∧ 1 ≤ a1.toInt ∧ a1.toInt ≤ 6000) → wp G 999 (mt 206) 0 (en (mt 206) [.ref 93, .int a0, .int a1]) [] (147, f, upI (upI I 29 10 a1) 29 12 1, RP f sw) (fun r2 h2 => ∃ I2, r2 = some (.int (I 29 10)) ∧ h2 = (147, f, I2, RP f sw) ∧ Rel G f sw I2) := fun hK => by
    refine v_Mhull oks ?_
    simp only [upI_ap, Nat.reduceEqDiff, reduceIte, lcl, lcg, w64]
    simp only [tI_eq a0, tI_lt, tI_le, Int32.reduceToInt, Int64.reduceToInt, Int32.reduceOfNat, w1]
    repeat' (refine ite_i (fun _ => ?_) (fun _ => ?_))
    all_goals first
      | (exfalso; omega)
      | skip
    refine ⟨_, (by first | rfl | trivial), rfl, hR.upd [5, 11] (by repeat (first | exact Ag.rf | refine Ag.up ?_ rfl)) rfl nof nof nof nof (fun _ => ?_) nof nof nof nof nof⟩
    exact ⟨⟨t1, t2, t3⟩, ⟨u1, u2, u3⟩, ⟨rfl, hK.2.1, hK.2.2⟩, r4, Or.inr rfl, r6, r7, r8, r9, VesC.st rfl r10.1⟩
  have keyR : (0 ≤ a0.toInt ∧ a0.toInt < 6 ∧ 1 ≤ a1.toInt ∧ a1.toInt ≤ 1000) → wp G 999 (mt 206) 0 (en (mt 206) [.ref 93, .int a0, .int a1]) [] (147, f, upI (upI I 34 a0.toNatClampNeg a1) 29 12 1, RP f sw) (fun r2 h2 => ∃ I2, r2 = some (.int (I 34 a0.toNatClampNeg)) ∧ h2 = (147, f, I2, RP f sw) ∧ Rel G f sw I2) := fun hK => by
    have ix : ixB a0 6 = true := ixB_i (by omega) (by omega)
    have hs : a0.toNatClampNeg < 6 := by rw [tnc]; omega
    refine v_Mhull oks ?_
    simp only [upI_ap, Nat.reduceEqDiff, reduceIte, lcl, lcg, w64]
    simp only [tI_eq a0, tI_lt, tI_le, Int32.reduceToInt, Int64.reduceToInt, Int32.reduceOfNat, ix, ck]
    repeat' (refine ite_i (fun _ => ?_) (fun _ => ?_))
    all_goals first
      | (exfalso; omega)
      | skip
    refine ⟨_, by rw [(r7 _ hs).1], rfl, hR.upd [5, 11] (by repeat (first | exact Ag.rf | refine Ag.up ?_ rfl)) rfl nof nof nof nof (fun _ => ?_) nof nof nof nof nof⟩
    refine ⟨⟨t1, t2, t3⟩, ⟨u1, u2, u3⟩, ⟨w1, w2, w3⟩, r4, Or.inr rfl, r6, fun h hh => ?_, r8, r9, VesC.st rfl r10.1⟩
    have := r7 h hh
    simp only [upI_ap, Nat.reduceEqDiff, reduceIte]
    by_cases e : h = a0.toNatClampNeg
    · simp only [e, reduceIte]
      exact ⟨trivial, hK.2.2.1, hK.2.2.2⟩
    · simp only [e, reduceIte]
      exact this
  refine v_hull oks ?_
  simp only [tI_eq a0, Int32.reduceOfInt, tI_lt, tI_le, Int32.reduceToInt, Int32.reduceOfNat]
  repeat' (refine ite_i (fun _ => ?_) (fun _ => ?_))
  all_goals first
    | (exfalso; omega)
    | exact ⟨_, f, sw, _, (by first | rfl | trivial), rfl, hR.1, keyB (by omega)⟩
    | exact ⟨_, f, sw, _, (by first | rfl | trivial), rfl, hR.rx (cs := [5, 11]) (by repeat (first | exact Ag.rf | refine Ag.up ?_ rfl)) rfl, key6 (by omega)⟩
    | exact ⟨_, f, sw, _, (by first | rfl | trivial), rfl, hR.rx (cs := [5, 11]) (by repeat (first | exact Ag.rf | refine Ag.up ?_ rfl)) rfl, key7 (by omega)⟩
    | (have ix : ixB a0 6 = true := ixB_i (by omega) (by omega)
       simp only [ix, ck]
       exact ⟨_, f, sw, _, (by first | rfl | trivial), rfl, hR.rx (cs := [5, 11]) (by repeat (first | exact Ag.rf | refine Ag.up ?_ rfl)) rfl, keyR (by omega)⟩)
