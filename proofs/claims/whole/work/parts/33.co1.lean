/-! CALLS: the easy ones -/
theorem co_status {G : GX} : CO (Rel G) G 180 263 [] := fun f sw I hR => by
  refine v_Cstatus oks ?_
  refine ⟨_, f, sw, I, rfl, rfl, hR.1, ?_⟩
  refine v_Mstatus oks ?_
  refine ⟨_, ?_, rfl, hR.free (Ag.rf.up rfl)⟩
  rw [hR.2.2.1]
theorem co_fault {G : GX} : CO (Rel G) G 147 245 [] := fun f sw I hR => by
  refine v_Cfault oks ?_
  refine ⟨_, f, sw, I, rfl, rfl, hR.1, ?_⟩
  refine v_Mfault oks ?_
  refine ⟨_, ?_, rfl, hR.free (Ag.rf.up rfl)⟩
  rw [hR.2.2.2.2.2.2.2.2.1.2.1]
theorem co_trace {G : GX} (a0 : Int32) : CO (Rel G) G 176 261 [.int a0] := fun f sw I hR => by
  obtain ⟨t1, t2, t3, t4⟩ := hR.2.2.2.2.2.2.2.2.2.2
  have e1 : (I 93 79 - 1).toInt = (I 93 79).toInt - 1 := fb_subI (by simp only [Int32.reduceToInt]; omega) (by simp only [Int32.reduceToInt]; omega)
  refine v_Ctrace oks ?_
  rw [t1]
  simp only [tI_lt, tI_le, e1, Int32.reduceToInt]
  repeat' split
  all_goals first | exfalso; omega | skip
  · refine ⟨_, f, sw, I, rfl, rfl, hR.1, ?_⟩
    refine v_Mtrace oks ?_
    simp only [lcl, lcg, w64, e1, Int32.reduceToInt, Int64.reduceToInt]
    repeat' split
    all_goals first | exfalso; omega | skip
    all_goals exact ⟨_, rfl, rfl, hR.free (Ag.rf.up rfl)⟩
  · refine ⟨_, f, sw, I, rfl, rfl, hR.1, ?_⟩
    refine v_Mtrace oks ?_
    simp only [lcl, lcg, w64, e1, Int32.reduceToInt, Int64.reduceToInt]
    repeat' split
    all_goals first | exfalso; omega | skip
    all_goals exact ⟨_, rfl, rfl, hR.free (Ag.rf.up rfl)⟩
  · refine ck_of (ixB_i (by omega) (by omega)) ?_
    refine ⟨_, f, sw, I, rfl, rfl, hR.1, ?_⟩
    refine v_Mtrace oks ?_
    simp only [lcl, lcg, w64, e1, Int32.reduceToInt, Int64.reduceToInt]
    repeat' split
    all_goals first | exfalso; omega | skip
    refine ck_of (ixB_i (by omega) (by omega)) ?_
    refine ⟨_, ?_, rfl, hR.free (Ag.rf.up rfl)⟩
    rw [t4 _ (by rw [tnc]; omega)]
theorem co_drop {G : GX} (a0 : Int32) : CO (Rel G) G 21 188 [.int a0] := fun f sw I hR => by
  refine v_Cdrop oks ?_
  simp only [tI_lt, tI_le, Int32.reduceToInt]
  repeat' split
  all_goals first | exfalso; omega | skip
  · refine ⟨_, f, sw, I, rfl, rfl, hR.1, ?_⟩
    refine v_Mdrop oks ?_
    simp only [lcl, lcg, w64, Int32.reduceToInt, Int64.reduceToInt]
    repeat' split
    all_goals first | exfalso; omega | skip
    all_goals exact ⟨_, rfl, rfl, hR.free (Ag.rf.up rfl)⟩
  · refine ⟨_, f, sw, I, rfl, rfl, hR.1, ?_⟩
    refine v_Mdrop oks ?_
    simp only [lcl, lcg, w64, Int32.reduceToInt, Int64.reduceToInt]
    repeat' split
    all_goals first | exfalso; omega | skip
    all_goals exact ⟨_, rfl, rfl, hR.free (Ag.rf.up rfl)⟩
  · refine ck_of (ixB_i (by omega) (by omega)) ?_
    have hs : a0.toNatClampNeg < 8 := by rw [tnc]; omega
    obtain ⟨q1, q2, q3, q4, q5, q6, q7⟩ := hR.2.1 a0.toNatClampNeg hs
    rw [RP_sh hs]
    refine ck_of (okB_sh hs) ?_
    sorry
theorem zz1 (x : Int32) (h : 0 ≤ x) (h2 : x ≤ 10) : x + 1 ≤ 11 := by grind
theorem zz2 (x y : Int32) (h : -10000 ≤ x) (h2 : x ≤ 10000) (h3 : -10000 ≤ y) (h4 : y ≤ 10000) (h : x < y) : ¬ (y - x ≤ 0) := by grind
theorem zz3 (x : Int32) (h : 0 ≤ x) (h2 : x ≤ 10) : (x + 1).toNatClampNeg = x.toNatClampNeg + 1 := by grind
theorem zz4 (x : Int32) (h : 0 ≤ x) (h2 : x ≤ 10) : (x + 1).toInt = x.toInt + 1 := by
  simp only [Int32.le_iff_toInt_le, Int32.reduceToInt] at h h2
  simp only [Int32.toInt_add, Int.bmod, Int32.reduceToInt]
  omega
theorem zz5 (I : Nat → Nat → Int32) (x : Int32) (n k : Nat) (h : k < 8) (h2 : n ≠ 93): upI (upI I 93 0 0) 94 k x n 3 = if n = 94 then (if 3 = k then x else I n 3) else I n 3 := by grind [upI]
theorem zz6 (x : Int32) (h : x.toInt64 < 7) : x < 7 := by grind
theorem zz7 (x : Int32) (h : lg_cmp x.toInt64 7 < 0) : x < 7 := by
  simp only [lc_lt, Int64.lt_iff_toInt_lt, Int32.toInt_toInt64, Int64.reduceToInt] at h
  simp only [Int32.lt_iff_toInt_lt, Int32.reduceToInt]
  omega
theorem zz8 (k : Nat) (h : k < 100) : (Int32.ofNat k + 1).toNatClampNeg = k + 1 := by grind
theorem zz9 (k : Nat) (h : k < 100) : Int32.ofNat k < 100 := by grind
theorem zz10 (k : Nat) (h : k < 100) : Int32.ofNat k + 1 = Int32.ofNat (k + 1) := by grind
