/-! CALLS: sheets and facts, without loops -/
theorem kz0 : kz 6 1 0 = true := rfl
theorem kz1 : kz 6 1 1 = true := rfl
theorem kzf (x : Int32) : kz 3 8 x = true := rfl
theorem m1t : ((-1 : Int32)).toInt = -1 := by decide
theorem RC1.one {I J : St} {s : Nat} (r : RC1 I) (h : ∀ s', s' < 8 → s' ≠ s → (∀ k, J (77 + 2 * s') k = I (77 + 2 * s') k) ∧ (∀ k, J (78 + 2 * s') k = I (78 + 2 * s') k) ∧ J 94 s' = I 94 s' ∧ J 95 s' = I 95 s' ∧ ∀ i, i < 120 → J 96 (120 * s' + i) = I 96 (120 * s' + i))
    (hs : (J (77 + 2 * s) 1 = 0 ∧ J 94 s = -1 ∨ J (77 + 2 * s) 1 = 1 ∧ J 94 s = J (77 + 2 * s) 2) ∧ 0 ≤ (J (77 + 2 * s) 2).toInt ∧ (J (77 + 2 * s) 2).toInt ≤ 2 ∧ J (77 + 2 * s) 3 = J 95 s ∧ 0 ≤ (J 95 s).toInt ∧ (J 95 s).toInt ≤ 120 ∧ ∀ i, i < 120 → J (78 + 2 * s) i = J 96 (120 * s + i)) : RC1 J := fun s' hs' => by
  by_cases e : s' = s
  · subst e
    exact hs
  · obtain ⟨h1, h2, h3, h4, h5⟩ := h s' hs' e
    have q := r s' hs'
    rw [h1, h1, h1, h3, h4]
    refine ⟨q.1, q.2.1, q.2.2.1, q.2.2.2.1, q.2.2.2.2.1, q.2.2.2.2.2.1, fun i hi => ?_⟩
    rw [h2, h5 i hi]
    exact q.2.2.2.2.2.2 i hi
theorem co_drop {G : GX} (a0 : Int32) : CO (Rel G) G 21 188 [.int a0] := fun f sw I hR => by
  refine v_Cdrop oks ?_
  simp only [tI_lt, tI_le, Int32.reduceToInt, Int32.reduceOfNat]
  repeat' (refine ite_i (fun _ => ?_) (fun _ => ?_))
  all_goals first
    | (exfalso; omega)
    | (refine ⟨_, f, sw, I, (by first | rfl | trivial), rfl, hR.1, v_Mdrop oks ?_⟩
       try simp only [lcl, lcg, w64]
       simp only [tI_lt, tI_le, Int32.reduceToInt, Int64.reduceToInt, Int32.reduceOfNat]
       repeat' (refine ite_i (fun _ => ?_) (fun _ => ?_))
       all_goals first
         | (exfalso; omega)
         | exact ⟨_, (by first | rfl | trivial), rfl, hR.free (Ag.rf.up rfl)⟩)
    | skip
  refine ck_of (ixB_i (by omega) (by omega)) ?_
  have hs : a0.toNatClampNeg < 8 := by rw [tnc]; omega
  obtain ⟨q1, q2, q3, q4, q5, q6, q7⟩ := hR.2.1 _ hs
  have hst : (a0.toNatClampNeg : Int) = a0.toInt := by rw [tnc]; omega
  generalize a0.toNatClampNeg = s at hs q1 q2 q3 q4 q5 q6 q7 hst ⊢
  have hse : a0.toInt.toNat = s := by omega
  simp only [RP_sh hs, oV, okB_sh hs, ck, kz0, Bool.true_and]
  rcases q1 with ⟨q1, q1'⟩ | ⟨q1, q1'⟩
  · have q1t : (I 94 s).toInt = -1 := by rw [q1', m1t]
    rw [if_pos q1]
    refine ⟨_, f, sw, _, rfl, rfl, hR.rx (cs := [2, 11]) (by repeat (first | exact Ag.rf | refine Ag.up ?_ rfl | refine Ag.up ?_ (by rw [(cmp_sh _ hs _).1]; rfl) | refine Ag.up ?_ (by rw [(cmp_sh _ hs _).2]; rfl))) rfl, v_Mdrop oks ?_⟩
    try simp only [upI_ap, Nat.reduceEqDiff, reduceIte, lcl, lcg, w64]
    simp only [tI_lt, tI_le, Int32.reduceToInt, Int64.reduceToInt, Int32.reduceOfNat]
    repeat' (refine ite_i (fun _ => ?_) (fun _ => ?_))
    all_goals first | (exfalso; omega) | skip
    refine ck_of (ixB_i (by omega) (by omega)) ?_
    simp only [tnc, hse]
    repeat' (refine ite_i (fun _ => ?_) (fun _ => ?_))
    all_goals first | (exfalso; omega) | skip
    refine ⟨_, (by first | rfl | trivial), rfl, hR.upd [2, 11] (by repeat (first | exact Ag.rf | refine Ag.up ?_ rfl | refine Ag.up ?_ (by rw [(cmp_sh _ hs _).1]; rfl) | refine Ag.up ?_ (by rw [(cmp_sh _ hs _).2]; rfl))) rfl nof (fun _ => ?_) nof nof nof nof nof nof nof nof⟩
    simp only [RC2, upI_ap, Nat.reduceEqDiff, reduceIte]
  · have q1t : (I 94 s).toInt = (I (77 + 2 * s) 2).toInt := by rw [q1']
    rw [if_neg (by rw [q1]; decide)]
    refine ⟨_, f, sw, _, rfl, rfl, hR.rx (cs := [1, 2, 11]) (by repeat (first | exact Ag.rf | refine Ag.up ?_ rfl | refine Ag.up ?_ (by rw [(cmp_sh _ hs _).1]; rfl) | refine Ag.up ?_ (by rw [(cmp_sh _ hs _).2]; rfl))) rfl, v_Mdrop oks ?_⟩
    have hne : ¬ (93 = 77 + 2 * s) := by omega
    have hne2 : ¬ (94 = 77 + 2 * s) := by omega
    have hne3 : ¬ (95 = 77 + 2 * s) := by omega
    try simp only [hne, hne2, hne3, upI_ap, Nat.reduceEqDiff, reduceIte, lcl, lcg, w64]
    try simp only [upI_ap, Nat.reduceEqDiff, reduceIte, lcl, lcg, w64]
    simp only [tI_lt, tI_le, Int32.reduceToInt, Int64.reduceToInt, Int32.reduceOfNat]
    repeat' (refine ite_i (fun _ => ?_) (fun _ => ?_))
    all_goals first | (exfalso; omega) | skip
    refine ck_of (ixB_i (by omega) (by omega)) ?_
    simp only [tnc, hse]
    repeat' (refine ite_i (fun _ => ?_) (fun _ => ?_))
    all_goals first | (exfalso; omega) | skip
    refine ck_of (ixB_i (by omega) (by omega)) ?_
    refine ck_of (ixB_i (by omega) (by omega)) ?_
    refine ⟨_, ?_, rfl, hR.upd [1, 2, 11] (by repeat (first | exact Ag.rf | refine Ag.up ?_ rfl | refine Ag.up ?_ (by rw [(cmp_sh _ hs _).1]; rfl) | refine Ag.up ?_ (by rw [(cmp_sh _ hs _).2]; rfl))) rfl (fun _ => ?_) (fun _ => ?_) nof nof nof nof nof nof nof nof⟩
    · simp only [upI_ap, Nat.reduceEqDiff, reduceIte, q4]
    · refine hR.2.1.one (s := s) (fun s' h1 h2 => ⟨fun k => ?_, fun k => ?_, ?_, ?_, fun i hi => ?_⟩) ?_
      · repeat rw [upI_nk (by omega)]
      · repeat rw [upI_nk (by omega)]
      · repeat rw [upI_nk (by omega)]
      · repeat rw [upI_nk (by omega)]
      · repeat rw [upI_nk (by omega)]
      · simp only [upI_ap, Nat.reduceEqDiff, reduceIte]
        grind
    · simp only [RC2, upI_ap, Nat.reduceEqDiff, reduceIte, hne]
theorem co_set {G : GX} (a0 a1 a2 : Int32) : CO (Rel G) G 17 186 [.int a0, .int a1, .int a2] := fun f sw I hR => by
  refine v_Cset oks ?_
  simp only [tI_lt, tI_le, Int32.reduceToInt, Int32.reduceOfNat]
  repeat' (refine ite_i (fun _ => ?_) (fun _ => ?_))
  all_goals first
    | (exfalso; omega)
    | (refine ⟨_, f, sw, I, (by first | rfl | trivial), rfl, hR.1, v_Mset oks ?_⟩
       try simp only [lcl, lcg, w64]
       simp only [tI_lt, tI_le, Int32.reduceToInt, Int64.reduceToInt, Int32.reduceOfNat]
       repeat' (refine ite_i (fun _ => ?_) (fun _ => ?_))
       all_goals first
         | (exfalso; omega)
         | exact ⟨_, (by first | rfl | trivial), rfl, hR.free (Ag.rf.up rfl)⟩)
    | skip
  refine ck_of (ixB_i (by omega) (by omega)) ?_
  have hs : a0.toNatClampNeg < 8 := by rw [tnc]; omega
  obtain ⟨q1, q2, q3, q4, q5, q6, q7⟩ := hR.2.1 _ hs
  have hst : (a0.toNatClampNeg : Int) = a0.toInt := by rw [tnc]; omega
  generalize a0.toNatClampNeg = s at hs q1 q2 q3 q4 q5 q6 q7 hst ⊢
  have hse : a0.toInt.toNat = s := by omega
  simp only [RP_sh hs, RP_it hs, oV, okB_sh hs, okB_it hs, SH_it hs, ck]
  rcases q1 with ⟨q1, q1'⟩ | ⟨q1, q1'⟩
  · have q1t : (I 94 s).toInt = -1 := by rw [q1', m1t]
    rw [if_pos q1]
    refine ⟨_, f, sw, _, rfl, rfl, hR.rx (cs := [2, 11]) (by repeat (first | exact Ag.rf | refine Ag.up ?_ rfl | refine Ag.up ?_ (by rw [(cmp_sh _ hs _).1]; rfl) | refine Ag.up ?_ (by rw [(cmp_sh _ hs _).2]; rfl))) rfl, v_Mset oks ?_⟩
    try simp only [upI_ap, Nat.reduceEqDiff, reduceIte, lcl, lcg, w64]
    simp only [tI_lt, tI_le, Int32.reduceToInt, Int64.reduceToInt, Int32.reduceOfNat]
    repeat' (refine ite_i (fun _ => ?_) (fun _ => ?_))
    all_goals first | (exfalso; omega) | skip
    refine ck_of (ixB_i (by omega) (by omega)) ?_
    simp only [tnc, hse]
    repeat' (refine ite_i (fun _ => ?_) (fun _ => ?_))
    all_goals first | (exfalso; omega) | skip
    refine ⟨_, (by first | rfl | trivial), rfl, hR.upd [2, 11] (by repeat (first | exact Ag.rf | refine Ag.up ?_ rfl | refine Ag.up ?_ (by rw [(cmp_sh _ hs _).1]; rfl) | refine Ag.up ?_ (by rw [(cmp_sh _ hs _).2]; rfl))) rfl nof (fun _ => ?_) nof nof nof nof nof nof nof nof⟩
    simp only [RC2, upI_ap, Nat.reduceEqDiff, reduceIte]
  · have q1t : (I 94 s).toInt = (I (77 + 2 * s) 2).toInt := by rw [q1']
    have ea : (I 95 s - 1).toInt = (I 95 s).toInt - 1 := fb_subI (by simp only [Int32.reduceToInt]; omega) (by simp only [Int32.reduceToInt]; omega)
    have hne : ¬ (93 = 78 + 2 * s) := by omega
    have hne2 : ¬ (94 = 78 + 2 * s) := by omega
    have hne3 : ¬ (95 = 78 + 2 * s) := by omega
    rw [if_neg (by rw [q1]; decide), q4]
    by_cases hp : 0 ≤ a1.toInt ∧ a1.toInt < (I 95 s).toInt
    · have eb : (I 95 s - a1).toInt = (I 95 s).toInt - a1.toInt := fb_subI (by omega) (by omega)
      have ec : (120 * a0).toInt = 120 * a0.toInt := fb_mulI (by simp only [Int32.reduceToInt]; omega) (by simp only [Int32.reduceToInt]; omega)
      have ed : (120 * a0 + a1).toInt = 120 * a0.toInt + a1.toInt := by rw [fb_addI (by rw [ec]; omega) (by rw [ec]; omega), ec]
      have ee : (120 * a0 + a1).toInt.toNat = 120 * s + a1.toInt.toNat := by omega
      rw [if_neg (by omega), if_neg (by omega)]
      have fin : ∀ (v : Int32), RC1 (upI (upI (upI (upI (upI I (78 + 2 * s) a1.toNatClampNeg v) 0 11 0) 93 0 0) 93 1 0) 96 (120 * s + a1.toInt.toNat) v) := fun v => by
        refine hR.2.1.one (s := s) (fun s' h1 h2 => ⟨fun k => ?_, fun k => ?_, ?_, ?_, fun i hi => ?_⟩) ?_
        · repeat rw [upI_nk (by omega)]
        · repeat rw [upI_nk (by omega)]
        · repeat rw [upI_nk (by omega)]
        · repeat rw [upI_nk (by omega)]
        · repeat rw [upI_nk (by omega)]
        · refine ⟨?_, ?_, ?_, ?_, ?_, ?_, fun i hi => ?_⟩
          · repeat rw [upI_nk (by omega)]
            exact Or.inr ⟨q1, q1'⟩
          · repeat rw [upI_nk (by omega)]
            exact q2
          · repeat rw [upI_nk (by omega)]
            exact q3
          · repeat rw [upI_nk (by omega)]
            exact q4
          · repeat rw [upI_nk (by omega)]
            exact q5
          · repeat rw [upI_nk (by omega)]
            exact q6
          · have := q7 i hi
            simp only [upI_ap, Nat.reduceEqDiff, reduceIte, tnc]
            grind
      have q1z : I (77 + 2 * s) 2 = I 94 s := q1'.symm
      rw [q1z]
      refine ite_i (fun z => ?_) (fun z => ite_i (fun z2 => ?_) (fun z2 => ?_))
      · refine ck_of (ixB_i (by omega) (by omega)) ?_
        refine ⟨_, f, sw, _, rfl, rfl, hR.rx (cs := [1, 2, 11]) (by repeat (first | exact Ag.rf | refine Ag.up ?_ rfl | refine Ag.up ?_ (by rw [(cmp_sh _ hs _).1]; rfl) | refine Ag.up ?_ (by rw [(cmp_sh _ hs _).2]; rfl))) rfl, v_Mset oks ?_⟩
        simp only [hne, hne2, hne3, upI_ap, Nat.reduceEqDiff, reduceIte, lcl, lcg, w64]
        simp only [tnc, hse, ee, ea, tI_lt, tI_le, Int32.reduceToInt, Int64.reduceToInt, Int32.reduceOfNat]
        repeat' (first | refine ite_i (fun _ => ?_) (fun _ => ?_) | refine ck_of (ixB_i (by omega) (by omega)) ?_)
        all_goals first | (exfalso; omega) | contradiction | skip
        refine ⟨_, ?_, rfl, hR.upd [1, 2, 11] (by repeat (first | exact Ag.rf | refine Ag.up ?_ rfl | refine Ag.up ?_ (by rw [(cmp_sh _ hs _).1]; rfl) | refine Ag.up ?_ (by rw [(cmp_sh _ hs _).2]; rfl))) rfl (fun _ => ?_) (fun _ => ?_) nof nof nof nof nof nof nof nof⟩
        · simp only [upI_ap, Nat.reduceEqDiff, reduceIte]
        · exact fin _
        · simp only [RC2, upI_ap, Nat.reduceEqDiff, reduceIte, hne]
      · refine ck_of (ixB_i (by omega) (by omega)) ?_
        refine ⟨_, f, sw, _, rfl, rfl, hR.rx (cs := [1, 2, 11]) (by repeat (first | exact Ag.rf | refine Ag.up ?_ rfl | refine Ag.up ?_ (by rw [(cmp_sh _ hs _).1]; rfl) | refine Ag.up ?_ (by rw [(cmp_sh _ hs _).2]; rfl))) rfl, v_Mset oks ?_⟩
        simp only [hne, hne2, hne3, upI_ap, Nat.reduceEqDiff, reduceIte, lcl, lcg, w64]
        simp only [tnc, hse, ee, ea, tI_lt, tI_le, Int32.reduceToInt, Int64.reduceToInt, Int32.reduceOfNat]
        repeat' (first | refine ite_i (fun _ => ?_) (fun _ => ?_) | refine ck_of (ixB_i (by omega) (by omega)) ?_)
        all_goals first | (exfalso; omega) | contradiction | skip
        refine ⟨_, ?_, rfl, hR.upd [1, 2, 11] (by repeat (first | exact Ag.rf | refine Ag.up ?_ rfl | refine Ag.up ?_ (by rw [(cmp_sh _ hs _).1]; rfl) | refine Ag.up ?_ (by rw [(cmp_sh _ hs _).2]; rfl))) rfl (fun _ => ?_) (fun _ => ?_) nof nof nof nof nof nof nof nof⟩
        · simp only [upI_ap, Nat.reduceEqDiff, reduceIte]
        · exact fin _
        · simp only [RC2, upI_ap, Nat.reduceEqDiff, reduceIte, hne]
      · refine ck_of (ixB_i (by omega) (by omega)) ?_
        refine ⟨_, f, sw, _, rfl, rfl, hR.rx (cs := [1, 2, 11]) (by repeat (first | exact Ag.rf | refine Ag.up ?_ rfl | refine Ag.up ?_ (by rw [(cmp_sh _ hs _).1]; rfl) | refine Ag.up ?_ (by rw [(cmp_sh _ hs _).2]; rfl))) rfl, v_Mset oks ?_⟩
        simp only [hne, hne2, hne3, upI_ap, Nat.reduceEqDiff, reduceIte, lcl, lcg, w64]
        simp only [tnc, hse, ee, ea, tI_lt, tI_le, Int32.reduceToInt, Int64.reduceToInt, Int32.reduceOfNat]
        repeat' (first | refine ite_i (fun _ => ?_) (fun _ => ?_) | refine ck_of (ixB_i (by omega) (by omega)) ?_)
        all_goals first | (exfalso; omega) | contradiction | skip
        refine ⟨_, ?_, rfl, hR.upd [1, 2, 11] (by repeat (first | exact Ag.rf | refine Ag.up ?_ rfl | refine Ag.up ?_ (by rw [(cmp_sh _ hs _).1]; rfl) | refine Ag.up ?_ (by rw [(cmp_sh _ hs _).2]; rfl))) rfl (fun _ => ?_) (fun _ => ?_) nof nof nof nof nof nof nof nof⟩
        · simp only [upI_ap, Nat.reduceEqDiff, reduceIte]
        · exact fin _
        · simp only [RC2, upI_ap, Nat.reduceEqDiff, reduceIte, hne]
    · have eb : 0 ≤ a1.toInt → (I 95 s - a1).toInt = (I 95 s).toInt - a1.toInt := fun _ => fb_subI (by have := fb_rng a1; omega) (by omega)
      have bad : wp G 999 (mt 186) 0 (en (mt 186) [.ref 93, .int a0, .int a1, .int a2]) [] (147, f, upI I 0 11 2, RP f sw) (fun r2 h2 => ∃ I2, r2 = some (.int (-1000010 - 2)) ∧ h2 = (147, f, I2, RP f sw) ∧ Rel G f sw I2) := by
        refine v_Mset oks ?_
        simp only [upI_ap, Nat.reduceEqDiff, reduceIte, lcl, lcg, w64]
        simp only [tnc, hse, ea, tI_lt, tI_le, Int32.reduceToInt, Int64.reduceToInt, Int32.reduceOfNat]
        repeat' (first | refine ite_i (fun _ => ?_) (fun _ => ?_) | refine ck_of (ixB_i (by omega) (by omega)) ?_)
        all_goals first | (exfalso; omega) | contradiction | skip
        all_goals refine ⟨_, (by first | rfl | trivial), rfl, hR.upd [2, 11] (by repeat (first | exact Ag.rf | refine Ag.up ?_ rfl | refine Ag.up ?_ (by rw [(cmp_sh _ hs _).1]; rfl) | refine Ag.up ?_ (by rw [(cmp_sh _ hs _).2]; rfl))) rfl nof (fun _ => ?_) nof nof nof nof nof nof nof nof⟩
        all_goals simp only [RC2, upI_ap, Nat.reduceEqDiff, reduceIte]
      refine ite_i (fun z => ?_) (fun z => ite_i (fun z2 => ?_) (fun z2 => ?_))
      · exact ⟨_, f, sw, _, rfl, rfl, hR.rx (cs := [2, 11]) (by repeat (first | exact Ag.rf | refine Ag.up ?_ rfl | refine Ag.up ?_ (by rw [(cmp_sh _ hs _).1]; rfl) | refine Ag.up ?_ (by rw [(cmp_sh _ hs _).2]; rfl))) rfl, bad⟩
      · exact ⟨_, f, sw, _, rfl, rfl, hR.rx (cs := [2, 11]) (by repeat (first | exact Ag.rf | refine Ag.up ?_ rfl | refine Ag.up ?_ (by rw [(cmp_sh _ hs _).1]; rfl) | refine Ag.up ?_ (by rw [(cmp_sh _ hs _).2]; rfl))) rfl, bad⟩
      · exfalso; omega
theorem co_kind {G : GX} (a0 : Int32) : CO (Rel G) G 159 252 [.int a0] := fun f sw I hR => by
  obtain ⟨b1, b2, b3, b4, b5⟩ := hR.2.2.2.2.2.2.1
  have bf : (Int32.ofNat f).toInt = f := kI_t (by omega)
  have e1 : (Int32.ofNat f - 1).toInt = f - 1 := (fb_subI (by simp only [Int32.reduceToInt]; omega) (by simp only [Int32.reduceToInt]; omega)).trans (by rw [bf]; rfl)
  refine v_Ckind oks ?_
  rw [b2]
  simp only [tI_lt, tI_le, Int32.reduceToInt, Int32.reduceOfNat, e1]
  repeat' (refine ite_i (fun _ => ?_) (fun _ => ?_))
  all_goals first
    | (exfalso; omega)
    | (refine ⟨_, f, sw, I, (by first | rfl | trivial), rfl, hR.1, v_Mkind oks ?_⟩
       try simp only [lcl, lcg, w64]
       simp only [tI_lt, tI_le, Int32.reduceToInt, Int64.reduceToInt, Int32.reduceOfNat, b3, e1]
       repeat' (refine ite_i (fun _ => ?_) (fun _ => ?_))
       all_goals first
         | (exfalso; omega)
         | exact ⟨_, (by first | rfl | trivial), rfl, hR.free (Ag.rf.up rfl)⟩)
    | skip
  refine ck_of (ixB_i (by omega) (by omega)) ?_
  have hs : a0.toNatClampNeg < f := by rw [tnc]; omega
  obtain ⟨⟨p0, p0a, p0b⟩, ⟨p1, p1a, p1b⟩, ⟨p2, p2a, p2b⟩, ⟨p3, p3a, p3b⟩, ⟨p4, p4a, p4b⟩, ⟨p5, p5a, p5b⟩, ⟨p6, p6a, p6b⟩, ⟨p7, p7a, p7b⟩, p8, p8a⟩ := b4 _ hs
  have hst : (a0.toNatClampNeg : Int) = a0.toInt := by rw [tnc]; omega
  generalize a0.toNatClampNeg = s at hs p0 p0a p0b p1 p1a p1b p2 p2a p2b p3 p3a p3b p4 p4a p4b p5 p5a p5b p6 p6a p6b p7 p7a p7b p8 p8a hst ⊢
  have hse : a0.toInt.toNat = s := by omega
  simp only [RP_fa hs, oV, okB_fa hs, ck]
  rw [p8, p0]
  refine ite_i (fun z => ?_) (fun z => ?_)
  · refine ⟨_, f, sw, I, rfl, rfl, hR.1, v_Mkind oks ?_⟩
    simp only [lcl, lcg, w64]
    simp only [tnc, hse, b3, e1, tI_lt, tI_le, Int32.reduceToInt, Int64.reduceToInt, Int32.reduceOfNat]
    repeat' (first | refine ite_i (fun _ => ?_) (fun _ => ?_) | refine ck_of (ixB_i (by omega) (by omega)) ?_)
    all_goals first | (exfalso; omega) | contradiction | skip
    exact ⟨_, (by first | rfl | trivial), rfl, hR.free (Ag.rf.up rfl)⟩
  · refine ⟨_, f, sw, I, rfl, rfl, hR.1, v_Mkind oks ?_⟩
    simp only [lcl, lcg, w64]
    simp only [tnc, hse, b3, e1, tI_lt, tI_le, Int32.reduceToInt, Int64.reduceToInt, Int32.reduceOfNat]
    repeat' (first | refine ite_i (fun _ => ?_) (fun _ => ?_) | refine ck_of (ixB_i (by omega) (by omega)) ?_)
    all_goals first | (exfalso; omega) | contradiction | skip
    exact ⟨_, (by first | rfl | trivial), rfl, hR.free (Ag.rf.up rfl)⟩
