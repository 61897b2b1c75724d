/-! CALLS: ask -/
theorem upI_fa {I : St} {p k s i : Nat} {x : Int32} (h : p < 147) : upI I p k x (1000 + s) i = I (1000 + s) i := upI_pl (by omega) i
theorem co_ask {G : GX} (a0 a1 : Int32) : CO (Rel G) G 163 256 [.int a0, .int a1] := fun f sw I hR => by
  obtain ⟨b1, b2, b3, b4, b5⟩ := hR.2.2.2.2.2.2.1
  have bf : (Int32.ofNat f).toInt = f := kI_t (by omega)
  have e1 : (Int32.ofNat f - 1).toInt = f - 1 := (fb_subI (by simp only [Int32.reduceToInt]; omega) (by simp only [Int32.reduceToInt]; omega)).trans (by rw [bf]; rfl)
  obtain ⟨t1, t2, t3, t4⟩ := hR.2.2.2.2.2.2.2.2.2.2
  refine v_Cask oks ?_
  rw [b2]
  simp only [tI_lt, tI_le, Int32.reduceToInt, Int32.reduceOfNat, e1]
  repeat' (refine ite_i (fun _ => ?_) (fun _ => ?_))
  all_goals first
    | (exfalso; omega)
    | (refine ⟨_, f, sw, I, (by first | rfl | trivial), rfl, hR.1, v_Mask oks ?_⟩
       try simp only [lcl, lcg, w64]
       simp only [tI_lt, tI_le, Int32.reduceToInt, Int64.reduceToInt, Int32.reduceOfNat, b3, e1]
       repeat' (refine ite_i (fun _ => ?_) (fun _ => ?_))
       all_goals first
         | (exfalso; omega)
         | exact ⟨_, (by first | rfl | trivial), rfl, hR.free (Ag.rf.up rfl)⟩)
    | skip
  refine ck_of (ixB_i (by omega) (by omega)) ?_
  have hs : a0.toNatClampNeg < f := by rw [tnc]; omega
  obtain ⟨⟨p0, p0a, p0b⟩, ⟨p1, p1a, p1b⟩, ⟨p2, p2a, p2b⟩, ⟨p3, p3a, p3b⟩, ⟨p4, p4a, p4b⟩, ⟨p5, p5a, p5b⟩, ⟨p6, p6a, p6b⟩, ⟨p7, p7a, p7b⟩, p8, p8a⟩ := b4 _ hs
  have hst : (a0.toNatClampNeg : Int) = a0.toInt := by rw [tnc]; omega
  generalize a0.toNatClampNeg = s at hs p0 p0a p0b p1 p1a p1b p2 p2a p2b p3 p3a p3b p4 p4a p4b p5 p5a p5b p6 p6a p6b p7 p7a p7b p8 p8a hst ⊢
  have hse : a0.toInt.toNat = s := by omega
  have ix : ixB a0 12 = true := ixB_i (by omega) (by omega)
  simp only [RP_fa hs, oV, okB_fa hs, ck]
  simp only [upI_fa, Nat.reduceLT]
  simp only [p0, p1, p2, p3, p4, p5, p6, p7, p8, tI_eq a1, tI_eq (I 128 s), tI_eq (I 120 s), Int32.reduceOfInt, Int32.reduceAdd, Int32.reduceToInt]
  repeat' (refine ite_i (fun _ => ?_) (fun _ => ?_))
  all_goals first
    | (exfalso; omega)
    | (exfalso; rename_i z; revert z; decide)
    | (have ha : a1.toInt = 0 := by omega
       have hg : (I 128 s).toInt = -1000000 := by omega
       have hk : I 120 s = 1 := by rw [tI_eq]; simp only [Int32.reduceToInt]; omega
       refine ⟨_, f, sw, _, rfl, rfl, hR.rx (cs := [10, 11]) (by repeat (first | exact Ag.rf | refine Ag.up ?_ rfl)) rfl, v_Mask oks ?_⟩
       simp only [upI_ap, Nat.reduceEqDiff, reduceIte, lcl, lcg, w64]
       simp only [tnc, hse, b3, e1, tI_eq a1, tI_eq (I 128 s), tI_lt, tI_le, Int32.reduceToInt, Int64.reduceToInt, Int32.reduceOfNat, ix, ck]
       repeat' (refine ite_i (fun _ => ?_) (fun _ => ?_))
       all_goals first | (exfalso; omega) | skip
       rw [hk]
       refine v_MaskS1 oks ?_
       simp only [ix, ck, tnc, hse, upI_ap, Nat.reduceEqDiff, reduceIte]
       refine ⟨_, (by first | rfl | trivial | rw [Int32.mul_comm] | rw [Int32.add_zero]), rfl, hR.upd [10, 11] (by repeat (first | exact Ag.rf | refine Ag.up ?_ rfl)) rfl nof nof nof nof nof nof nof nof nof (fun _ => ?_)⟩
       refine ⟨?_, ?_, ?_, fun k hk => ?_⟩
       · simp only [upI_ap, Nat.reduceEqDiff, reduceIte] <;> decide
       · simp only [upI_ap, Nat.reduceEqDiff, reduceIte] <;> decide
       · simp only [upI_ap, Nat.reduceEqDiff, reduceIte] <;> decide
       · simp only [upI_ap, Nat.reduceEqDiff, reduceIte, t4 k hk])
    | (have ha : a1.toInt = 0 := by omega
       have hg : (I 128 s).toInt = -1000000 := by omega
       have hk : I 120 s = 2 := by rw [tI_eq]; simp only [Int32.reduceToInt]; omega
       refine ⟨_, f, sw, _, rfl, rfl, hR.rx (cs := [10, 11]) (by repeat (first | exact Ag.rf | refine Ag.up ?_ rfl)) rfl, v_Mask oks ?_⟩
       simp only [upI_ap, Nat.reduceEqDiff, reduceIte, lcl, lcg, w64]
       simp only [tnc, hse, b3, e1, tI_eq a1, tI_eq (I 128 s), tI_lt, tI_le, Int32.reduceToInt, Int64.reduceToInt, Int32.reduceOfNat, ix, ck]
       repeat' (refine ite_i (fun _ => ?_) (fun _ => ?_))
       all_goals first | (exfalso; omega) | skip
       rw [hk]
       refine v_MaskS2 oks ?_
       simp only [ix, ck, tnc, hse, upI_ap, Nat.reduceEqDiff, reduceIte]
       refine ⟨_, (by first | rfl | trivial | rw [Int32.mul_comm] | rw [Int32.add_zero]), rfl, hR.upd [10, 11] (by repeat (first | exact Ag.rf | refine Ag.up ?_ rfl)) rfl nof nof nof nof nof nof nof nof nof (fun _ => ?_)⟩
       refine ⟨?_, ?_, ?_, fun k hk => ?_⟩
       · simp only [upI_ap, Nat.reduceEqDiff, reduceIte] <;> decide
       · simp only [upI_ap, Nat.reduceEqDiff, reduceIte] <;> decide
       · simp only [upI_ap, Nat.reduceEqDiff, reduceIte] <;> decide
       · simp only [upI_ap, Nat.reduceEqDiff, reduceIte, t4 k hk])
    | (have ha : a1.toInt = 0 := by omega
       have hg : (I 128 s).toInt = -1000000 := by omega
       have hk : I 120 s = 3 := by rw [tI_eq]; simp only [Int32.reduceToInt]; omega
       refine ⟨_, f, sw, _, rfl, rfl, hR.rx (cs := [10, 11]) (by repeat (first | exact Ag.rf | refine Ag.up ?_ rfl)) rfl, v_Mask oks ?_⟩
       simp only [upI_ap, Nat.reduceEqDiff, reduceIte, lcl, lcg, w64]
       simp only [tnc, hse, b3, e1, tI_eq a1, tI_eq (I 128 s), tI_lt, tI_le, Int32.reduceToInt, Int64.reduceToInt, Int32.reduceOfNat, ix, ck]
       repeat' (refine ite_i (fun _ => ?_) (fun _ => ?_))
       all_goals first | (exfalso; omega) | skip
       rw [hk]
       refine v_MaskS3 oks ?_
       simp only [ix, ck, tnc, hse, upI_ap, Nat.reduceEqDiff, reduceIte]
       refine ⟨_, (by first | rfl | trivial | rw [Int32.mul_comm] | rw [Int32.add_zero]), rfl, hR.upd [10, 11] (by repeat (first | exact Ag.rf | refine Ag.up ?_ rfl)) rfl nof nof nof nof nof nof nof nof nof (fun _ => ?_)⟩
       refine ⟨?_, ?_, ?_, fun k hk => ?_⟩
       · simp only [upI_ap, Nat.reduceEqDiff, reduceIte] <;> decide
       · simp only [upI_ap, Nat.reduceEqDiff, reduceIte] <;> decide
       · simp only [upI_ap, Nat.reduceEqDiff, reduceIte] <;> decide
       · simp only [upI_ap, Nat.reduceEqDiff, reduceIte, t4 k hk])
    | (have ha : a1.toInt = 0 := by omega
       have hg : (I 128 s).toInt = -1000000 := by omega
       have hk : I 120 s = 0 := by rw [tI_eq]; simp only [Int32.reduceToInt]; omega
       refine ⟨_, f, sw, _, rfl, rfl, hR.rx (cs := [10, 11]) (by repeat (first | exact Ag.rf | refine Ag.up ?_ rfl)) rfl, v_Mask oks ?_⟩
       simp only [upI_ap, Nat.reduceEqDiff, reduceIte, lcl, lcg, w64]
       simp only [tnc, hse, b3, e1, tI_eq a1, tI_eq (I 128 s), tI_lt, tI_le, Int32.reduceToInt, Int64.reduceToInt, Int32.reduceOfNat, ix, ck]
       repeat' (refine ite_i (fun _ => ?_) (fun _ => ?_))
       all_goals first | (exfalso; omega) | skip
       rw [hk]
       refine v_MaskS0 oks ?_
       simp only [ix, ck, tnc, hse, upI_ap, Nat.reduceEqDiff, reduceIte]
       refine ⟨_, (by first | rfl | trivial | rw [Int32.mul_comm] | rw [Int32.add_zero]), rfl, hR.upd [10, 11] (by repeat (first | exact Ag.rf | refine Ag.up ?_ rfl)) rfl nof nof nof nof nof nof nof nof nof (fun _ => ?_)⟩
       refine ⟨?_, ?_, ?_, fun k hk => ?_⟩
       · simp only [upI_ap, Nat.reduceEqDiff, reduceIte] <;> decide
       · simp only [upI_ap, Nat.reduceEqDiff, reduceIte] <;> decide
       · simp only [upI_ap, Nat.reduceEqDiff, reduceIte] <;> decide
       · simp only [upI_ap, Nat.reduceEqDiff, reduceIte, t4 k hk])
    | (have ha : a1.toInt = 0 := by omega
       have hg : (I 128 s).toInt ≠ -1000000 := by omega
       refine ⟨_, f, sw, _, rfl, rfl, hR.rx (cs := [10, 11]) (by repeat (first | exact Ag.rf | refine Ag.up ?_ rfl)) rfl, v_Mask oks ?_⟩
       simp only [upI_ap, Nat.reduceEqDiff, reduceIte, lcl, lcg, w64]
       simp only [tnc, hse, b3, e1, tI_eq a1, tI_eq (I 128 s), tI_lt, tI_le, Int32.reduceToInt, Int64.reduceToInt, Int32.reduceOfNat, ix, ck]
       repeat' (refine ite_i (fun _ => ?_) (fun _ => ?_))
       all_goals first | (exfalso; omega) | skip
       refine v_MaskS4 oks ?_
       simp only [ix, ck, tnc, hse, upI_ap, Nat.reduceEqDiff, reduceIte]
       refine ⟨_, (by first | rfl | trivial | rw [Int32.mul_comm] | rw [Int32.add_zero]), rfl, hR.upd [10, 11] (by repeat (first | exact Ag.rf | refine Ag.up ?_ rfl)) rfl nof nof nof nof nof nof nof nof nof (fun _ => ?_)⟩
       refine ⟨?_, ?_, ?_, fun k hk => ?_⟩
       · simp only [upI_ap, Nat.reduceEqDiff, reduceIte] <;> decide
       · simp only [upI_ap, Nat.reduceEqDiff, reduceIte] <;> decide
       · simp only [upI_ap, Nat.reduceEqDiff, reduceIte] <;> decide
       · simp only [upI_ap, Nat.reduceEqDiff, reduceIte, t4 k hk])
    | (have ha : a1.toInt = 1 := by omega
       have hg : (I 128 s).toInt = -1000000 := by omega
       have hk : I 120 s = 1 := by rw [tI_eq]; simp only [Int32.reduceToInt]; omega
       refine ⟨_, f, sw, _, rfl, rfl, hR.rx (cs := [10, 11]) (by repeat (first | exact Ag.rf | refine Ag.up ?_ rfl)) rfl, v_Mask oks ?_⟩
       simp only [upI_ap, Nat.reduceEqDiff, reduceIte, lcl, lcg, w64]
       simp only [tnc, hse, b3, e1, tI_eq a1, tI_eq (I 128 s), tI_lt, tI_le, Int32.reduceToInt, Int64.reduceToInt, Int32.reduceOfNat, ix, ck]
       repeat' (refine ite_i (fun _ => ?_) (fun _ => ?_))
       all_goals first | (exfalso; omega) | skip
       rw [hk]
       refine v_MaskM1 oks ?_
       simp only [ix, ck, tnc, hse, upI_ap, Nat.reduceEqDiff, reduceIte]
       refine ⟨_, (by first | rfl | trivial | rw [Int32.mul_comm] | rw [Int32.add_zero]), rfl, hR.upd [10, 11] (by repeat (first | exact Ag.rf | refine Ag.up ?_ rfl)) rfl nof nof nof nof nof nof nof nof nof (fun _ => ?_)⟩
       refine ⟨?_, ?_, ?_, fun k hk => ?_⟩
       · simp only [upI_ap, Nat.reduceEqDiff, reduceIte] <;> decide
       · simp only [upI_ap, Nat.reduceEqDiff, reduceIte] <;> decide
       · simp only [upI_ap, Nat.reduceEqDiff, reduceIte] <;> decide
       · simp only [upI_ap, Nat.reduceEqDiff, reduceIte, t4 k hk])
    | (have ha : a1.toInt = 1 := by omega
       have hg : (I 128 s).toInt = -1000000 := by omega
       have hk : I 120 s = 2 := by rw [tI_eq]; simp only [Int32.reduceToInt]; omega
       refine ⟨_, f, sw, _, rfl, rfl, hR.rx (cs := [10, 11]) (by repeat (first | exact Ag.rf | refine Ag.up ?_ rfl)) rfl, v_Mask oks ?_⟩
       simp only [upI_ap, Nat.reduceEqDiff, reduceIte, lcl, lcg, w64]
       simp only [tnc, hse, b3, e1, tI_eq a1, tI_eq (I 128 s), tI_lt, tI_le, Int32.reduceToInt, Int64.reduceToInt, Int32.reduceOfNat, ix, ck]
       repeat' (refine ite_i (fun _ => ?_) (fun _ => ?_))
       all_goals first | (exfalso; omega) | skip
       rw [hk]
       refine v_MaskM2 oks ?_
       simp only [ix, ck, tnc, hse, upI_ap, Nat.reduceEqDiff, reduceIte]
       refine ⟨_, (by first | rfl | trivial | rw [Int32.mul_comm] | rw [Int32.add_zero]), rfl, hR.upd [10, 11] (by repeat (first | exact Ag.rf | refine Ag.up ?_ rfl)) rfl nof nof nof nof nof nof nof nof nof (fun _ => ?_)⟩
       refine ⟨?_, ?_, ?_, fun k hk => ?_⟩
       · simp only [upI_ap, Nat.reduceEqDiff, reduceIte] <;> decide
       · simp only [upI_ap, Nat.reduceEqDiff, reduceIte] <;> decide
       · simp only [upI_ap, Nat.reduceEqDiff, reduceIte] <;> decide
       · simp only [upI_ap, Nat.reduceEqDiff, reduceIte, t4 k hk])
    | (have ha : a1.toInt = 1 := by omega
       have hg : (I 128 s).toInt = -1000000 := by omega
       have hk : I 120 s = 3 := by rw [tI_eq]; simp only [Int32.reduceToInt]; omega
       refine ⟨_, f, sw, _, rfl, rfl, hR.rx (cs := [10, 11]) (by repeat (first | exact Ag.rf | refine Ag.up ?_ rfl)) rfl, v_Mask oks ?_⟩
       simp only [upI_ap, Nat.reduceEqDiff, reduceIte, lcl, lcg, w64]
       simp only [tnc, hse, b3, e1, tI_eq a1, tI_eq (I 128 s), tI_lt, tI_le, Int32.reduceToInt, Int64.reduceToInt, Int32.reduceOfNat, ix, ck]
       repeat' (refine ite_i (fun _ => ?_) (fun _ => ?_))
       all_goals first | (exfalso; omega) | skip
       rw [hk]
       refine v_MaskM3 oks ?_
       simp only [ix, ck, tnc, hse, upI_ap, Nat.reduceEqDiff, reduceIte]
       refine ⟨_, (by first | rfl | trivial | rw [Int32.mul_comm] | rw [Int32.add_zero]), rfl, hR.upd [10, 11] (by repeat (first | exact Ag.rf | refine Ag.up ?_ rfl)) rfl nof nof nof nof nof nof nof nof nof (fun _ => ?_)⟩
       refine ⟨?_, ?_, ?_, fun k hk => ?_⟩
       · simp only [upI_ap, Nat.reduceEqDiff, reduceIte] <;> decide
       · simp only [upI_ap, Nat.reduceEqDiff, reduceIte] <;> decide
       · simp only [upI_ap, Nat.reduceEqDiff, reduceIte] <;> decide
       · simp only [upI_ap, Nat.reduceEqDiff, reduceIte, t4 k hk])
    | (have ha : a1.toInt = 1 := by omega
       have hg : (I 128 s).toInt = -1000000 := by omega
       have hk : I 120 s = 0 := by rw [tI_eq]; simp only [Int32.reduceToInt]; omega
       refine ⟨_, f, sw, _, rfl, rfl, hR.rx (cs := [10, 11]) (by repeat (first | exact Ag.rf | refine Ag.up ?_ rfl)) rfl, v_Mask oks ?_⟩
       simp only [upI_ap, Nat.reduceEqDiff, reduceIte, lcl, lcg, w64]
       simp only [tnc, hse, b3, e1, tI_eq a1, tI_eq (I 128 s), tI_lt, tI_le, Int32.reduceToInt, Int64.reduceToInt, Int32.reduceOfNat, ix, ck]
       repeat' (refine ite_i (fun _ => ?_) (fun _ => ?_))
       all_goals first | (exfalso; omega) | skip
       rw [hk]
       refine v_MaskM0 oks ?_
       simp only [ix, ck, tnc, hse, upI_ap, Nat.reduceEqDiff, reduceIte]
       refine ⟨_, (by first | rfl | trivial | rw [Int32.mul_comm] | rw [Int32.add_zero]), rfl, hR.upd [10, 11] (by repeat (first | exact Ag.rf | refine Ag.up ?_ rfl)) rfl nof nof nof nof nof nof nof nof nof (fun _ => ?_)⟩
       refine ⟨?_, ?_, ?_, fun k hk => ?_⟩
       · simp only [upI_ap, Nat.reduceEqDiff, reduceIte] <;> decide
       · simp only [upI_ap, Nat.reduceEqDiff, reduceIte] <;> decide
       · simp only [upI_ap, Nat.reduceEqDiff, reduceIte] <;> decide
       · simp only [upI_ap, Nat.reduceEqDiff, reduceIte, t4 k hk])
    | (have ha : a1.toInt = 1 := by omega
       have hg : (I 128 s).toInt ≠ -1000000 := by omega
       refine ⟨_, f, sw, _, rfl, rfl, hR.rx (cs := [10, 11]) (by repeat (first | exact Ag.rf | refine Ag.up ?_ rfl)) rfl, v_Mask oks ?_⟩
       simp only [upI_ap, Nat.reduceEqDiff, reduceIte, lcl, lcg, w64]
       simp only [tnc, hse, b3, e1, tI_eq a1, tI_eq (I 128 s), tI_lt, tI_le, Int32.reduceToInt, Int64.reduceToInt, Int32.reduceOfNat, ix, ck]
       repeat' (refine ite_i (fun _ => ?_) (fun _ => ?_))
       all_goals first | (exfalso; omega) | skip
       refine v_MaskM4 oks ?_
       simp only [ix, ck, tnc, hse, upI_ap, Nat.reduceEqDiff, reduceIte]
       refine ⟨_, (by first | rfl | trivial | rw [Int32.mul_comm] | rw [Int32.add_zero]), rfl, hR.upd [10, 11] (by repeat (first | exact Ag.rf | refine Ag.up ?_ rfl)) rfl nof nof nof nof nof nof nof nof nof (fun _ => ?_)⟩
       refine ⟨?_, ?_, ?_, fun k hk => ?_⟩
       · simp only [upI_ap, Nat.reduceEqDiff, reduceIte] <;> decide
       · simp only [upI_ap, Nat.reduceEqDiff, reduceIte] <;> decide
       · simp only [upI_ap, Nat.reduceEqDiff, reduceIte] <;> decide
       · simp only [upI_ap, Nat.reduceEqDiff, reduceIte, t4 k hk])
