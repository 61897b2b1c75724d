/-! CALLS: without loops -/
theorem co_status {G : GX} : CO (Rel G) G 180 263 [] := fun f sw I hR => by
  refine v_Cstatus oks ?_
  refine ⟨_, f, sw, I, rfl, rfl, hR.1, ?_⟩
  refine v_Mstatus oks ?_
  refine ⟨_, ?_, rfl, hR.free (Ag.rf.up rfl)⟩
  rw [hR.2.2.1]
theorem co_fault {G : GX} : CO (Rel G) G 147 245 [] := fun f sw I hR => by
  refine v_Cfault oks ?_
  refine ⟨_, f, sw, I, rfl, rfl, hR.1, ?_⟩
  refine v_Mfault oks ?_
  refine ⟨_, ?_, rfl, hR.free (Ag.rf.up rfl)⟩
  rw [hR.2.2.2.2.2.2.2.2.1.2.1]

theorem co_trace {G : GX} (a0 : Int32) : CO (Rel G) G 176 261 [.int a0] := fun f sw I hR => by
  obtain ⟨t1, t2, t3, t4⟩ := hR.2.2.2.2.2.2.2.2.2.2
  have e1 : (I 93 79 - 1).toInt = (I 93 79).toInt - 1 := fb_subI (by simp only [Int32.reduceToInt]; omega) (by simp only [Int32.reduceToInt]; omega)
  refine v_Ctrace oks ?_
  rw [t1]
  simp only [tI_lt, tI_le, Int32.reduceToInt, Int32.reduceOfNat, e1]
  repeat' (refine ite_i (fun _ => ?_) (fun _ => ?_))
  all_goals first
    | (exfalso; omega)
    | (refine ⟨_, f, sw, I, (by first | rfl | trivial), rfl, hR.1, v_Mtrace oks ?_⟩
       try simp only [lcl, lcg, w64]
       simp only [tI_lt, tI_le, Int32.reduceToInt, Int64.reduceToInt, Int32.reduceOfNat, e1]
       repeat' (refine ite_i (fun _ => ?_) (fun _ => ?_))
       all_goals first
         | (exfalso; omega)
         | exact ⟨_, (by first | rfl | trivial), rfl, hR.free (Ag.rf.up rfl)⟩)
    | skip
  refine ck_of (ixB_i (by omega) (by omega)) ?_
  refine ⟨_, f, sw, I, rfl, rfl, hR.1, ?_⟩
  refine v_Mtrace oks ?_
  try simp only [lcl, lcg, w64]
  simp only [tI_lt, tI_le, Int32.reduceToInt, Int64.reduceToInt, Int32.reduceOfNat, e1]
  repeat' (refine ite_i (fun _ => ?_) (fun _ => ?_))
  all_goals first | (exfalso; omega) | skip
  refine ck_of (ixB_i (by omega) (by omega)) ?_
  refine ⟨_, ?_, rfl, hR.free (Ag.rf.up rfl)⟩
  rw [t4 _ (by rw [tnc]; omega)]

theorem co_dark {G : GX} (a0 a1 a2 : Int32) : CO (Rel G) G 34 195 [.int a0, .int a1, .int a2] := fun f sw I hR => by
  obtain ⟨t1, t2, t3, t4⟩ := hR.2.2.2.2.1
  have e1 : (I 93 19 + 1).toInt = (I 93 19).toInt + 1 := fb_addI (by simp only [Int32.reduceToInt]; omega) (by simp only [Int32.reduceToInt]; omega)
  have e2 : 0 ≤ a1.toInt → a1.toInt ≤ 239 → (a1 + 1).toInt = a1.toInt + 1 := fun _ _ => fb_addI (by simp only [Int32.reduceToInt]; omega) (by simp only [Int32.reduceToInt]; omega)
  refine v_Cdark oks ?_
  rw [t1]
  simp only [tI_lt, tI_le, Int32.reduceToInt, Int32.reduceOfNat, tI_eq (I 93 19)]
  repeat' (refine ite_i (fun _ => ?_) (fun _ => ?_))
  all_goals first
    | (exfalso; omega)
    | (refine ⟨_, f, sw, I, (by first | rfl | trivial), rfl, hR.1, v_Mdark oks ?_⟩
       try simp only [lcl, lcg, w64]
       simp only [tI_lt, tI_le, Int32.reduceToInt, Int64.reduceToInt, Int32.reduceOfNat, tI_eq (I 93 19)]
       repeat' (refine ite_i (fun _ => ?_) (fun _ => ?_))
       all_goals first
         | (exfalso; omega)
         | exact ⟨_, (by first | rfl | trivial), rfl, hR.free (Ag.rf.up rfl)⟩)
    | skip
  refine ck_of (ixB_i (by omega) (by omega)) ?_
  refine ck_of (ixB_i (by omega) (by omega)) ?_
  refine ck_of (ixB_i (by omega) (by omega)) ?_
  refine ⟨_, f, sw, _, rfl, rfl, hR.rx (cs := [4, 11]) (by repeat (first | exact Ag.rf | refine Ag.up ?_ rfl)) rfl, v_Mdark oks ?_⟩
  simp only [upI_ap, Nat.reduceEqDiff, reduceIte, lcl, lcg, w64]
  simp only [tI_lt, tI_le, Int32.reduceToInt, Int64.reduceToInt, Int32.reduceOfNat, tI_eq (I 93 19)]
  repeat' (refine ite_i (fun _ => ?_) (fun _ => ?_))
  all_goals first | (exfalso; omega) | skip
  refine ck_of (ixB_i (by omega) (by omega)) ?_
  refine ck_of (ixB_i (by omega) (by omega)) ?_
  refine ck_of (ixB_i (by omega) (by omega)) ?_
  refine ⟨_, (by first | rfl | trivial), rfl, hR.upd [4, 11] (by repeat (first | exact Ag.rf | refine Ag.up ?_ rfl)) rfl nof nof nof (fun _ => ?_) nof nof nof nof nof nof⟩
  refine ⟨?_, ?_, ?_, fun k hk => ?_⟩
  · simp only [upI_ap, Nat.reduceEqDiff, reduceIte]
  · simp only [upI_ap, Nat.reduceEqDiff, reduceIte]; omega
  · simp only [upI_ap, Nat.reduceEqDiff, reduceIte]; omega
  · have := t4 k hk
    simp only [upI_ap, Nat.reduceEqDiff, reduceIte]
    grind

theorem co_done {G : GX} (a0 a1 a2 a3 : Int32) : CO (Rel G) G 148 246 [.int a0, .int a1, .int a2, .int a3] := fun f sw I hR => by
  obtain ⟨t1, t2, t3, t4⟩ := hR.2.2.2.2.2.2.2.2.2.1
  obtain ⟨⟨s1, s2, s3⟩, -⟩ := hR.2.2.2.1
  have e1 : (I 93 72 + 1).toInt = (I 93 72).toInt + 1 := fb_addI (by simp only [Int32.reduceToInt]; omega) (by simp only [Int32.reduceToInt]; omega)
  have e3 : (I 93 7 - 1).toInt = (I 93 7).toInt - 1 := fb_subI (by simp only [Int32.reduceToInt]; omega) (by simp only [Int32.reduceToInt]; omega)
  have e2 : 0 ≤ a2.toInt → a2.toInt ≤ 239 → (a2 + 1).toInt = a2.toInt + 1 := fun _ _ => fb_addI (by simp only [Int32.reduceToInt]; omega) (by simp only [Int32.reduceToInt]; omega)
  refine v_Cdone oks ?_
  rw [t1, s1]
  simp only [tI_lt, tI_le, Int32.reduceToInt, Int32.reduceOfNat, tI_eq (I 93 72), e3]
  repeat' (refine ite_i (fun _ => ?_) (fun _ => ?_))
  all_goals first
    | (exfalso; omega)
    | (refine ⟨_, f, sw, I, (by first | rfl | trivial), rfl, hR.1, v_Mdone oks ?_⟩
       try simp only [lcl, lcg, w64]
       simp only [tI_lt, tI_le, Int32.reduceToInt, Int64.reduceToInt, Int32.reduceOfNat, tI_eq (I 93 72), e3]
       repeat' (refine ite_i (fun _ => ?_) (fun _ => ?_))
       all_goals first
         | (exfalso; omega)
         | exact ⟨_, (by first | rfl | trivial), rfl, hR.free (Ag.rf.up rfl)⟩)
    | skip
  refine ck_of (ixB_i (by omega) (by omega)) ?_
  refine ck_of (ixB_i (by omega) (by omega)) ?_
  refine ck_of (ixB_i (by omega) (by omega)) ?_
  refine ⟨_, f, sw, _, rfl, rfl, hR.rx (cs := [9, 11]) (by repeat (first | exact Ag.rf | refine Ag.up ?_ rfl)) rfl, v_Mdone oks ?_⟩
  simp only [upI_ap, Nat.reduceEqDiff, reduceIte, lcl, lcg, w64]
  simp only [tI_lt, tI_le, Int32.reduceToInt, Int64.reduceToInt, Int32.reduceOfNat, tI_eq (I 93 72), e3]
  repeat' (refine ite_i (fun _ => ?_) (fun _ => ?_))
  all_goals first | (exfalso; omega) | skip
  refine ck_of (ixB_i (by omega) (by omega)) ?_
  refine ck_of (ixB_i (by omega) (by omega)) ?_
  refine ck_of (ixB_i (by omega) (by omega)) ?_
  refine ck_of (ixB_i (by omega) (by omega)) ?_
  refine ⟨_, (by first | rfl | trivial), rfl, hR.upd [9, 11] (by repeat (first | exact Ag.rf | refine Ag.up ?_ rfl)) rfl nof nof nof nof nof nof nof nof (fun _ => ?_) nof⟩
  refine ⟨?_, ?_, ?_, fun k hk => ?_⟩
  · simp only [upI_ap, Nat.reduceEqDiff, reduceIte]
  · simp only [upI_ap, Nat.reduceEqDiff, reduceIte]; omega
  · simp only [upI_ap, Nat.reduceEqDiff, reduceIte]; omega
  · have := t4 k hk
    simp only [upI_ap, Nat.reduceEqDiff, reduceIte]
    by_cases hk2 : k = (I 93 72).toNatClampNeg
    · simp only [hk2, reduceIte]
      refine ⟨trivial, ⟨by omega, by omega⟩, ⟨by omega, by omega⟩, trivial, trivial⟩
    · simp only [hk2, reduceIte]
      exact this

theorem co_hole {G : GX} (a0 a1 a2 : Int32) : CO (Rel G) G 62 208 [.int a0, .int a1, .int a2] := fun f sw I hR => by
  obtain ⟨⟨t1, t2, t3⟩, r2, r3, r4, r5, r6, r7, r8, r9, r10⟩ := hR.2.2.2.2.2.1
  have e1 : (I 93 30 + 1).toInt = (I 93 30).toInt + 1 := fb_addI (by simp only [Int32.reduceToInt]; omega) (by simp only [Int32.reduceToInt]; omega)
  refine v_Chole oks ?_
  rw [t1]
  simp only [tI_lt, tI_le, Int32.reduceToInt, Int32.reduceOfNat, tI_eq (I 93 30)]
  repeat' (refine ite_i (fun _ => ?_) (fun _ => ?_))
  all_goals first
    | (exfalso; omega)
    | (refine ⟨_, f, sw, I, (by first | rfl | trivial), rfl, hR.1, v_Mhole oks ?_⟩
       try simp only [lcl, lcg, w64]
       simp only [tI_lt, tI_le, Int32.reduceToInt, Int64.reduceToInt, Int32.reduceOfNat, tI_eq (I 93 30)]
       repeat' (refine ite_i (fun _ => ?_) (fun _ => ?_))
       all_goals first
         | (exfalso; omega)
         | exact ⟨_, (by first | rfl | trivial), rfl, hR.free (Ag.rf.up rfl)⟩)
    | skip
  refine ck_of (ixB_i (by omega) (by omega)) ?_
  refine ck_of (ixB_i (by omega) (by omega)) ?_
  refine ck_of (ixB_i (by omega) (by omega)) ?_
  refine ⟨_, f, sw, _, rfl, rfl, hR.rx (cs := [5, 11]) (by repeat (first | exact Ag.rf | refine Ag.up ?_ rfl)) rfl, v_Mhole oks ?_⟩
  simp only [upI_ap, Nat.reduceEqDiff, reduceIte, lcl, lcg, w64]
  simp only [tI_lt, tI_le, Int32.reduceToInt, Int64.reduceToInt, Int32.reduceOfNat, tI_eq (I 93 30)]
  repeat' (refine ite_i (fun _ => ?_) (fun _ => ?_))
  all_goals first | (exfalso; omega) | skip
  refine ck_of (ixB_i (by omega) (by omega)) ?_
  refine ck_of (ixB_i (by omega) (by omega)) ?_
  refine ck_of (ixB_i (by omega) (by omega)) ?_
  refine ⟨_, (by first | rfl | trivial), rfl, hR.upd [5, 11] (by repeat (first | exact Ag.rf | refine Ag.up ?_ rfl)) rfl nof nof nof nof (fun _ => ?_) nof nof nof nof nof⟩
  refine ⟨⟨?_, ?_, ?_⟩, r2, r3, r4, Or.inr rfl, fun k hk => ?_, r7, r8, r9, ?_⟩
  · simp only [upI_ap, Nat.reduceEqDiff, reduceIte]
  · simp only [upI_ap, Nat.reduceEqDiff, reduceIte]; omega
  · simp only [upI_ap, Nat.reduceEqDiff, reduceIte]; omega
  · have := r6 k hk
    simp only [upI_ap, Nat.reduceEqDiff, reduceIte]
    by_cases hk2 : k = (I 93 30).toNatClampNeg
    · simp only [hk2, reduceIte]
      refine ⟨⟨trivial, by omega, by omega⟩, ⟨trivial, by omega, by omega⟩, trivial, by omega, by omega⟩
    · simp only [hk2, reduceIte]
      exact this
  · exact VesC.st rfl r10.1
