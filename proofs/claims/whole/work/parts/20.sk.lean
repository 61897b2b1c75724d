/-! THE START: what the Statement gives of it, as the table of places -/
def nF : List Cond := flatC (Jvm.Cond.and given_1 narrow_1)
def tmS (i : Nat) : Term := .string "WreckCourt$Reader" ((stI.map (fun q => q.1)).getD i 0)
set_option maxRecDepth 100000 in
theorem nf_x : ∀ j, j < 16 → Cond.eq (.elem (.static "WreckCourt" "COURSE_X" "[I") (.int (Int32.ofNat j))) (.int (kA 100100 j)) ∈ nF := by decide +kernel
set_option maxRecDepth 100000 in
theorem nf_y : ∀ j, j < 16 → Cond.eq (.elem (.static "WreckCourt" "COURSE_Y" "[I") (.int (Int32.ofNat j))) (.int (kA 100101 j)) ∈ nF := by decide +kernel
set_option maxRecDepth 100000 in
theorem nf_1 : Cond.arrayOf (.static "WreckCourt" "COURSE_X" "[I") .int ∈ nF ∧ Cond.eq (.length (.static "WreckCourt" "COURSE_X" "[I")) (.int 16) ∈ nF ∧ Cond.arrayOf (.static "WreckCourt" "COURSE_Y" "[I") .int ∈ nF ∧ Cond.eq (.length (.static "WreckCourt" "COURSE_Y" "[I")) (.int 16) ∈ nF ∧ Cond.eq (.static "java/lang/String" "COMPACT_STRINGS" "Z") (.int 1) ∈ nF ∧ Cond.isRef (.static "jdk/internal/util/Preconditions" "SIOOBE_FORMATTER" "Ljava/util/function/BiFunction;") ∈ nF := by decide +kernel
set_option maxRecDepth 100000 in
theorem nf_s1 : ∀ i, i < 16 → Cond.exactly (tmS i) "java/lang/String" ∈ nF ∧ Cond.eq (.field (tmS i) "java/lang/String" "coder" "B") (.int 0) ∈ nF ∧ Cond.arrayOf (.field (tmS i) "java/lang/String" "value" "[B") .byte ∈ nF ∧ Cond.eq (.length (.field (tmS i) "java/lang/String" "value" "[B")) (.int (Int32.ofNat ((stL.map List.length).getD i 0))) ∈ nF := by decide +kernel
set_option maxRecDepth 100000 in
theorem nf_s2 : ∀ i, i < 16 → ∀ j, j < (stL.map List.length).getD i 0 → Cond.eq (.elem (.field (tmS i) "java/lang/String" "value" "[B") (.int (Int32.ofNat j))) (.int ((stL.getD i []).getD j 0)) ∈ nF := by decide +kernel
def nNo (c : Cond) : Option (Nat × Nat) := match c with
  | .not (.eq (.string x a) (.string y b)) => if x = "WreckCourt$Reader" ∧ y = "WreckCourt$Reader" then some (a, b) else none
  | _ => none
def nPr : List (Nat × Nat) := [(44, 91), (44, 93), (91, 93), (44, 95), (91, 95), (93, 95), (44, 97), (91, 97), (93, 97), (95, 97), (44, 99), (91, 99), (93, 99), (95, 99), (97, 99), (44, 101), (91, 101), (93, 101), (95, 101), (97, 101), (99, 101), (44, 103), (91, 103), (93, 103), (95, 103), (97, 103), (99, 103), (101, 103), (44, 105), (91, 105), (93, 105), (95, 105), (97, 105), (99, 105), (101, 105), (103, 105), (44, 60), (91, 60), (93, 60), (95, 60), (97, 60), (99, 60), (101, 60), (103, 60), (105, 60), (44, 80), (91, 80), (93, 80), (95, 80), (97, 80), (99, 80), (101, 80), (103, 80), (105, 80), (60, 80), (44, 107), (91, 107), (93, 107), (95, 107), (97, 107), (99, 107), (101, 107), (103, 107), (105, 107), (60, 107), (80, 107), (44, 109), (91, 109), (93, 109), (95, 109), (97, 109), (99, 109), (101, 109), (103, 109), (105, 109), (60, 109), (80, 109), (107, 109), (44, 111), (91, 111), (93, 111), (95, 111), (97, 111), (99, 111), (101, 111), (103, 111), (105, 111), (60, 111), (80, 111), (107, 111), (109, 111), (44, 113), (91, 113), (93, 113), (95, 113), (97, 113), (99, 113), (101, 113), (103, 113), (105, 113), (60, 113), (80, 113), (107, 113), (109, 113), (111, 113), (44, 85), (91, 85), (93, 85), (95, 85), (97, 85), (99, 85), (101, 85), (103, 85), (105, 85), (60, 85), (80, 85), (107, 85), (109, 85), (111, 85), (113, 85)]
set_option maxRecDepth 100000 in
theorem nf_pr : nF.filterMap nNo = nPr := by decide +kernel
theorem nf_no {c : Cond} {a b : Nat} (h : nNo c = some (a, b)) : c = .not (.eq (.string "WreckCourt$Reader" a) (.string "WreckCourt$Reader" b)) := by
  unfold nNo at h
  split at h
  · split at h
    · rename_i x a' y b' hh
      cases h
      rw [hh.1, hh.2]
    · cases h
  · cases h
theorem nf_mem {a b : Nat} (h : (a, b) ∈ nPr) : Cond.not (.eq (.string "WreckCourt$Reader" a) (.string "WreckCourt$Reader" b)) ∈ nF := by
  rw [← nf_pr] at h
  obtain ⟨c, hc, h1⟩ := List.mem_filterMap.mp h
  rw [← nf_no h1]
  exact hc
theorem nf_pb : (List.range 16).all (fun i => (List.range 16).all (fun j => i == j || (nPr.contains ((stI.map (fun q => q.1)).getD i 0, (stI.map (fun q => q.1)).getD j 0) || nPr.contains ((stI.map (fun q => q.1)).getD j 0, (stI.map (fun q => q.1)).getD i 0)))) = true := by decide +kernel
theorem nf_pp (i : Nat) (hi : i < 16) (j : Nat) (hj : j < 16) (hne : i ≠ j) : ((stI.map (fun q => q.1)).getD i 0, (stI.map (fun q => q.1)).getD j 0) ∈ nPr ∨ ((stI.map (fun q => q.1)).getD j 0, (stI.map (fun q => q.1)).getD i 0) ∈ nPr := by
  have h1 := List.all_eq_true.mp (List.all_eq_true.mp nf_pb i (List.mem_range.mpr hi)) j (List.mem_range.mpr hj)
  rw [Bool.or_eq_true, Bool.or_eq_true] at h1
  rcases h1 with z | z | z
  · exact absurd (beq_iff_eq.mp z) hne
  · exact Or.inl (List.contains_iff_mem.mp z)
  · exact Or.inr (List.contains_iff_mem.mp z)
theorem nf_s3 : ∀ i, i < 16 → ∀ j, j < 16 → i ≠ j → Cond.not (Cond.eq (tmS i) (tmS j)) ∈ nF ∨ Cond.not (Cond.eq (tmS j) (tmS i)) ∈ nF := fun i hi j hj hne => (nf_pp i hi j hj hne).imp nf_mem nf_mem
set_option maxRecDepth 100000 in
theorem lt_1 : ∀ w ∈ [Cond.laysStatic "WreckCourt" "COURSE_X" "[I", Cond.laysStatic "WreckCourt" "COURSE_Y" "[I", Cond.laysStatic "java/lang/String" "COMPACT_STRINGS" "Z", Cond.laysStatic "jdk/internal/util/Preconditions" "SIOOBE_FORMATTER" "Ljava/util/function/BiFunction;", Cond.initialized "WreckCourt", Cond.initialized "java/lang/String", Cond.initialized "jdk/internal/util/Preconditions", Cond.arrayOver (.object "WreckCourt$Sheet"), Cond.arrayOver (.object "WreckCourt$Fact"), Cond.arrayOver (.array .int), Cond.fieldLinkNest "WreckCourt$Sea" 97 "WreckCourt" "COURSE_X" "[I" "WreckCourt", Cond.fieldLinkNest "WreckCourt$Sea" 100 "WreckCourt" "COURSE_Y" "[I" "WreckCourt"], w ∈ lw_tbl := by decide +kernel
set_option maxRecDepth 100000 in
theorem lt_2 : ∀ q ∈ MNF, Cond.methodLinkNest (ONL.getD q.1 "") q.2.1 (mt q.2.2).2.2.2.1 "WreckCourt" ∈ lw_tbl := by decide +kernel
set_option maxRecDepth 100000 in
theorem lt_3 : ∀ q ∈ stI, Cond.stringRef "WreckCourt$Reader" q.1 q.2.1 ∈ lw_tbl := by decide +kernel
theorem lt_4 : ∀ q ∈ stI, q.2.2 < 16 ∧ tmS q.2.2 = .string "WreckCourt$Reader" q.1 := by decide +kernel
theorem arr_of {s : State} {cA comp : ClassId} {k : Class} {ty : FieldType} (h2 : s.vm.classes[cA]? = some k) (h3 : k.kind = .array comp ty) : ArrOfT s cA ty := fun n z => ⟨fun k h => (by cases h), k, h2, comp, h3⟩
set_option maxHeartbeats 4000000 in
set_option maxRecDepth 100000 in
theorem start_SK {p : Program} {s : State} {m : MethodId} {meth : Method} {c : Code} (l : Launch) {b L : Nat} {xs : Nat → Int32} (hL : L ≤ 4608) (C0 : lw_At p s m meth c b L xs) : startSK l s b L xs := by
  obtain ⟨hx, hb, hr, hml, hown, hts, hX, hbl, hlocks, hgv⟩ := id C0
  have hs : ∀ c ∈ nF, c.before #[Value.ref b] s = true := flat_of_before _ hgv
  have ht : ∀ w ∈ LG, w.before #[Value.ref b] s = true := fun w hw => hts w (List.mem_filter.mp hw).1
  have hA : ∀ a : Nat, a < s.heap.size → ¬ (fun q : Nat => s.heap.size ≤ q) a := fun a ha => Nat.not_le.mpr ha
  -- the classes
  have hcl : ∀ k : Nat, ∃ x : ClassId × (Nat → Nat), ∀ q, vwCl[k]? = some q → u_Kn s q.1 q.2.1 q.2.2 x.1 x.2 := fun k => by
    cases hq : vwCl[k]? with
    | none => exact ⟨(0, fun _ => 0), fun q h => by cases h⟩
    | some q =>
      obtain ⟨cC, iS, h⟩ := u_known (C := q.1) (T := q.2.1) (N := q.2.2) (n := q.2.2) ht (vw_0 k q hq) (ht _ (vw_in k q hq).2)
      exact ⟨(cC, iS), fun q2 h2 => by cases h2; exact h⟩
  obtain ⟨fD, hfD⟩ := Classical.axiomOfChoice hcl
  -- the arrays' classes
  obtain ⟨c20, k20, m20, a1, a2, a3⟩ := Cond.arrayClass_spec (ht _ (tb_ac _ List.mem_cons_self))
  obtain ⟨c21, k21, m21, b1, b2, b3⟩ := Cond.arrayClass_spec (ht _ (tb_ac _ (List.mem_cons_of_mem _ List.mem_cons_self)))
  obtain ⟨c22, k22, m22, d1, d2, d3⟩ := Cond.arrayClass_spec (ht _ (tb_ac _ (List.mem_cons_of_mem _ (List.mem_cons_of_mem _ List.mem_cons_self))))
  obtain ⟨m23, c23, k23, e1, -, e3, e4, e5⟩ := Cond.arrayOver_spec (hts _ (lt_1 (Cond.arrayOver (.object "WreckCourt$Sheet")) (by simp)))
  obtain ⟨m24, c24, k24, f1, -, f3, f4, f5⟩ := Cond.arrayOver_spec (hts _ (lt_1 (Cond.arrayOver (.object "WreckCourt$Fact")) (by simp)))
  obtain ⟨m25, c25, k25, g1, g3, g4, g5⟩ := Cond.arrayOver_specA (hts _ (lt_1 (Cond.arrayOver (.array .int)) (by simp)))
  -- the constants
  obtain ⟨n1, n2, n3, n4, n5, n6⟩ := nf_1
  obtain ⟨tX, hX1, hX2⟩ := va_Tof (A := fun q : Nat => s.heap.size ≤ q) (N := 16) (f := fun i => .int (kA 100100 i)) (by decide) (hs _ n1) (va_eqt (hs _ n2)) (fun j hj => va_eqt (hs _ (nf_x j hj))) hA
  obtain ⟨tY, hY1, hY2⟩ := va_Tof (A := fun q : Nat => s.heap.size ≤ q) (N := 16) (f := fun i => .int (kA 100101 i)) (by decide) (hs _ n3) (va_eqt (hs _ n4)) (fun j hj => va_eqt (hs _ (nf_y j hj))) hA
  obtain ⟨adK, adV, hS1, hS2⟩ := vk_Sof (A := fun q : Nat => s.heap.size ≤ q) (N := 16) (tm := tmS) (len := stL.map List.length) (byt := stL) (by decide +kernel) (fun i hi => hs _ (nf_s1 i hi).1) (fun i hi => hs _ (nf_s1 i hi).2.1) (fun i hi => hs _ (nf_s1 i hi).2.2.1) (fun i hi => hs _ (nf_s1 i hi).2.2.2) (fun i hi j hj => hs _ (nf_s2 i hi j hj)) (fun i j hi hj hne => by
    rcases nf_s3 i hi j hj hne with z | z
    · exact Or.inl (hs _ z)
    · exact Or.inr (hs _ z)) hA
  refine ⟨(l, (fun k => (fD k).1, fun k => (fD k).2), (fun k => if k = 20 then c20 else if k = 21 then c21 else if k = 22 then c22 else if k = 23 then c23 else if k = 24 then c24 else c25), (fun p => if p < 1000 then s.heap.size + p else if p < 100000 then s.heap.size + 147 + (p - 1000) else if p < 100016 then adK (p - 100000) else if p = 100100 then tX else if p = 100101 then tY else if p < 100300 then adV (p - 100200) else b), L, xs), rfl, ⟨⟨fun k q hq => hfD k q hq, fun k q hq => ?_⟩, fun p => ⟨fun hp => ?_, fun h1 h2 => ?_⟩, Nat.le_refl _, ⟨va_AO.of (hts _ (lt_1 _ (by simp))), va_AO.of (hts _ (lt_1 _ (by simp))), hts (Cond.arrayOver (.array .int)) (lt_1 _ (by simp))⟩, ⟨va_Zref (hts _ (lt_1 _ (by simp))) (hts _ (lt_1 _ (by simp))) hX1 hA, hX2⟩, ⟨va_Zref (hts _ (lt_1 _ (by simp))) (hts _ (lt_1 _ (by simp))) hY1 hA, hY2⟩, fun q hq => va_Nw.of rfl (hts _ (lt_2 q hq)), ⟨va_Nw.of rfl (hts _ (lt_1 _ (by simp))), va_Nw.of rfl (hts _ (lt_1 _ (by simp)))⟩, ⟨?_, fun q hq => ?_⟩, ⟨va_Zof (hts _ (lt_1 _ (by simp))) (hts _ (lt_1 _ (by simp))) (va_eqi (hs _ n5)) hA, va_Zqof (hts _ (lt_1 _ (by simp))) (hts _ (lt_1 _ (by simp))) (hs _ n6) hA⟩, hX, hbl, Nat.not_le.mpr hbl, by show L < 2 ^ 31; omega⟩, rfl, rfl, rfl, rfl⟩
  · match k, hq with
    | 0, hq => cases hq; exact ⟨arr_of a2 a3, a1⟩
    | 1, hq => cases hq; exact ⟨arr_of b2 b3, b1⟩
    | 2, hq => cases hq; exact ⟨arr_of d2 d3, d1⟩
    | 3, hq => cases hq; exact ⟨arr_of e3 e4, k23, m23, e3, e4, e1, e5⟩
    | 4, hq => cases hq; exact ⟨arr_of f3 f4, k24, m24, f3, f4, f1, f5⟩
    | 5, hq => cases hq; exact ⟨arr_of g3 g4, g5⟩
    | k + 6, hq => simp [tyO] at hq
  · dsimp only
    rw [if_pos hp, if_pos (show 0 < 1000 by omega)]
    first | done | omega
  · dsimp only
    rw [if_neg (show ¬ p < 1000 by omega), if_pos h2, if_pos (show 0 < 1000 by omega)]
    first | done | omega
  · refine ⟨fun i hi => ?_, fun i j hi hj e => ?_⟩
    · have h1 := hS1.1 i hi
      have ek : (if 100000 + i < 1000 then s.heap.size + (100000 + i) else if 100000 + i < 100000 then s.heap.size + 147 + (100000 + i - 1000) else if 100000 + i < 100016 then adK (100000 + i - 100000) else if 100000 + i = 100100 then tX else if 100000 + i = 100101 then tY else if 100000 + i < 100300 then adV (100000 + i - 100200) else b) = adK i := by
        rw [if_neg (by omega), if_neg (by omega), if_pos (by omega), show 100000 + i - 100000 = i by omega]
      have ev : (if 100200 + i < 1000 then s.heap.size + (100200 + i) else if 100200 + i < 100000 then s.heap.size + 147 + (100200 + i - 1000) else if 100200 + i < 100016 then adK (100200 + i - 100000) else if 100200 + i = 100100 then tX else if 100200 + i = 100101 then tY else if 100200 + i < 100300 then adV (100200 + i - 100200) else b) = adV i := by
        rw [if_neg (by omega), if_neg (by omega), if_neg (by omega), if_neg (by omega), if_neg (by omega), if_pos (by omega), show 100200 + i - 100200 = i by omega]
      dsimp only
      rw [ek, ev]
      exact h1
    · dsimp only at e
      rw [if_neg (by omega), if_neg (by omega), if_pos (by omega), if_neg (by omega), if_neg (by omega), if_pos (by omega), show 100000 + i - 100000 = i by omega, show 100000 + j - 100000 = j by omega] at e
      exact hS1.2 i j hi hj e
  · obtain ⟨h1, h2⟩ := lt_4 q hq
    have h3 := hS2 q.2.2 h1
    rw [h2] at h3
    have ek : (if 100000 + q.2.2 < 1000 then s.heap.size + (100000 + q.2.2) else if 100000 + q.2.2 < 100000 then s.heap.size + 147 + (100000 + q.2.2 - 1000) else if 100000 + q.2.2 < 100016 then adK (100000 + q.2.2 - 100000) else if 100000 + q.2.2 = 100100 then tX else if 100000 + q.2.2 = 100101 then tY else if 100000 + q.2.2 < 100300 then adV (100000 + q.2.2 - 100200) else b) = adK q.2.2 := by
      rw [if_neg (by omega), if_neg (by omega), if_pos (by omega), show 100000 + q.2.2 - 100000 = q.2.2 by omega]
    dsimp only
    rw [ek]
    exact vk_R.of (hts _ (lt_3 q hq)) h3
