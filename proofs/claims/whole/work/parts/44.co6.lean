/-! CALLS: order, door -/
/-- three rows, moved up by one behind a (up to n) -/
def shf (I : St) (w f v a n : Nat) : St := fun q k => if (q = w ∨ q = f ∨ q = v) ∧ a < k ∧ k ≤ n then I q (k - 1) else I q k
def insT (I : St) (w f v o a n : Nat) (x y z : Int32) : St := upI (upI (upI (upI (shf I w f v a n) w a x) f a y) v a z) o 3 (Int32.ofNat n + 1)
theorem shf_0 (I : St) (w f v n : Nat) : shf I w f v n n = I := by
  funext q k
  unfold shf
  rw [if_neg (by omega)]
theorem shf_lo {I : St} {w f v a n q k : Nat} (h : k ≤ a) : shf I w f v a n q k = I q k := by
  unfold shf
  rw [if_neg (by omega)]
theorem shf_s {I : St} {w f v a n : Nat} (h : a + 1 ≤ n) : upI (upI (upI (shf I w f v (a + 1) n) w (a + 1) (I w a)) f (a + 1) (I f a)) v (a + 1) (I v a) = shf I w f v a n := by
  funext q k
  simp only [upI_ap, shf]
  grind
theorem Ag.ins {cs : List Nat} {I J : St} {w f v o a n : Nat} {x y z : Int32} (h : Ag cs I J) (hw : ∀ k, cs.contains (cmp w k) = true) (hf : ∀ k, cs.contains (cmp f k) = true) (hv : ∀ k, cs.contains (cmp v k) = true) (ho : cs.contains (cmp o 3) = true) : Ag cs I (insT J w f v o a n x y z) := by
  refine Ag.up (Ag.up (Ag.up (Ag.up (fun q i hq => ?_) (hw _)) (hf _)) (hv _)) ho
  unfold shf
  by_cases c : (q = w ∨ q = f ∨ q = v) ∧ a < i ∧ i ≤ n
  · exfalso
    rcases c.1 with e | e | e
    · rw [e, hw] at hq; cases hq
    · rw [e, hf] at hq; cases hq
    · rw [e, hv] at hq; cases hq
  · rw [if_neg c]
    exact h q i hq
theorem insT_ne {I : St} {w f v o a n q : Nat} {x y z : Int32} (h1 : q ≠ w) (h2 : q ≠ f) (h3 : q ≠ v) (h4 : q ≠ o) : insT I w f v o a n x y z q = I q := by
  unfold insT
  rw [upI_row h4, upI_row h3, upI_row h2, upI_row h1]
  funext i
  unfold shf
  rw [if_neg (by omega)]
theorem ins_at {I : St} {w f v o a n : Nat} {x y z : Int32} (h1 : w ≠ f) (h2 : w ≠ v) (h3 : f ≠ v) (h4 : w ≠ o) (h5 : f ≠ o) (h6 : v ≠ o) (ha : a ≤ n) :
    (∀ i, i < a → insT I w f v o a n x y z w i = I w i ∧ insT I w f v o a n x y z f i = I f i ∧ insT I w f v o a n x y z v i = I v i) ∧ (insT I w f v o a n x y z w a = x ∧ insT I w f v o a n x y z f a = y ∧ insT I w f v o a n x y z v a = z) ∧
    (∀ i, a ≤ i → i < n → insT I w f v o a n x y z w (i + 1) = I w i ∧ insT I w f v o a n x y z f (i + 1) = I f i ∧ insT I w f v o a n x y z v (i + 1) = I v i) := by
  unfold insT
  refine ⟨fun i hi => ?_, ?_, fun i h7 h8 => ?_⟩
  · simp only [upI_ap, shf]
    grind
  · simp only [upI_ap, shf]
    grind
  · simp only [upI_ap, shf]
    grind
theorem tellO_loop {G : GX} {d f : Nat} {sw : Bool} {I : St} {s m v : Int32} {n : Nat} {Q : Option Value → Hp → Prop} (hn : n < 60) (h0 : I 3 3 = Int32.ofNat n) (q : ∀ a, a ≤ n → (∀ i, a ≤ i → i < n → m.toInt < (I 5 i).toInt) → (∀ i, i + 1 = a → (I 5 i).toInt ≤ m.toInt) → Q (some (.int (Int32.ofNat n + 1))) (147, f, insT I 4 5 6 3 a n s m v, RP f sw)) : ∀ a, a ≤ n → (∀ i, a ≤ i → i < n → m.toInt < (I 5 i).toInt) → wp G (d + 10) (mt 30) 3 [some (.ref 3), some (.int s), some (.int m), some (.int v), some (.int (Int32.ofNat a))] [] (147, f, shf I 4 5 6 a n, RP f sw) Q
  | 0, ha, hh => by
    refine v_tellO3 oks ?_
    have i0 : ixB (Int32.ofNat 0) 60 = true := rfl
    rw [if_pos (by decide), i0]
    show Q (some (.int (shf I 4 5 6 0 n 3 3 + 1))) _
    rw [show shf I 4 5 6 0 n 3 3 = I 3 3 from rfl, h0]
    exact q 0 ha hh (fun i hi => by omega)
  | a + 1, ha, hh => by
    have hk : (Int32.ofNat (a + 1)).toInt = (a + 1 : Nat) := kI_t (by omega)
    have hk1 : Int32.ofNat (a + 1) - 1 = Int32.ofNat a := by
      rw [tI_eq, kI_t (by omega), fb_subI (by simp only [Int32.reduceToInt]; omega) (by simp only [Int32.reduceToInt]; omega), hk]
      simp only [Int32.reduceToInt]
      omega
    have hk2 : Int32.ofNat (a + 1) + Int32.ofInt (-1) = Int32.ofNat a := by
      rw [tI_eq, kI_t (by omega), fb_addI (by simp only [Int32.reduceOfInt, Int32.reduceToInt]; omega) (by simp only [Int32.reduceOfInt, Int32.reduceToInt]; omega), hk]
      simp only [Int32.reduceOfInt, Int32.reduceToInt]
      omega
    have hka : (Int32.ofNat a).toInt = a := kI_t (by omega)
    have ix : ixB (Int32.ofNat (a + 1)) 60 = true := ixB_i (by omega) (by omega)
    have ix1 : ixB (Int32.ofNat a) 60 = true := ixB_i (by omega) (by omega)
    refine v_tellO3 oks ?_
    rw [if_neg (by rw [tI_le, hk]; simp only [Int32.reduceToInt]; omega), hk1, hk2, ix, ix1]
    simp only [ck, kI_c (show a < 2147483648 by omega), kI_c (show a + 1 < 2147483648 by omega)]
    have e5 : shf I 4 5 6 (a + 1) n 5 a = I 5 a := shf_lo (by omega)
    have e4 : shf I 4 5 6 (a + 1) n 4 a = I 4 a := shf_lo (by omega)
    have e6 : shf I 4 5 6 (a + 1) n 6 a = I 6 a := shf_lo (by omega)
    rw [e4, e5, e6]
    refine ite_i (fun z => ?_) (fun z => ?_)
    · rw [show shf I 4 5 6 (a + 1) n 3 3 = I 3 3 from rfl, h0]
      rw [tI_le] at z
      exact q (a + 1) ha hh (fun i hi => by rw [show i = a by omega]; exact z)
    · rw [shf_s (by omega)]
      rw [tI_le] at z
      exact tellO_loop hn h0 q a (by omega) (fun i h1 h2 => by
        rcases Nat.eq_or_lt_of_le h1 with e | e
        · rw [← e]; omega
        · exact hh i (by omega) h2)
theorem tellO_ok {G : GX} {d f : Nat} {sw : Bool} {I : St} {s m v : Int32} {n : Nat} {Q : Option Value → Hp → Prop} (hn : n < 60) (h0 : I 3 3 = Int32.ofNat n) (q : ∀ a, a ≤ n → (∀ i, a ≤ i → i < n → m.toInt < (I 5 i).toInt) → (∀ i, i + 1 = a → (I 5 i).toInt ≤ m.toInt) → Q (some (.int (Int32.ofNat n + 1))) (147, f, insT I 4 5 6 3 a n s m v, RP f sw)) : wp G (d + 10) (mt 30) 0 (en (mt 30) [.ref 3, .int s, .int m, .int v]) [] (147, f, I, RP f sw) Q := by
  refine v_tellO oks ?_
  have k := tellO_loop (G := G) (d := d) (s := s) (v := v) hn h0 q n (Nat.le_refl n) (fun i h1 h2 => by omega)
  rw [shf_0] at k
  rw [h0]
  exact k
theorem tellD_loop {G : GX} {d f : Nat} {sw : Bool} {I : St} {s m v : Int32} {n : Nat} {Q : Option Value → Hp → Prop} (hn : n < 30) (h0 : I 30 3 = Int32.ofNat n) (q : ∀ a, a ≤ n → (∀ i, a ≤ i → i < n → m.toInt < (I 32 i).toInt) → (∀ i, i + 1 = a → (I 32 i).toInt ≤ m.toInt) → Q (some (.int (Int32.ofNat n + 1))) (147, f, insT I 31 32 33 30 a n s m v, RP f sw)) : ∀ a, a ≤ n → (∀ i, a ≤ i → i < n → m.toInt < (I 32 i).toInt) → wp G (d + 10) (mt 30) 3 [some (.ref 30), some (.int s), some (.int m), some (.int v), some (.int (Int32.ofNat a))] [] (147, f, shf I 31 32 33 a n, RP f sw) Q
  | 0, ha, hh => by
    refine v_tellD3 oks ?_
    have i0 : ixB (Int32.ofNat 0) 30 = true := rfl
    rw [if_pos (by decide), i0]
    show Q (some (.int (shf I 31 32 33 0 n 30 3 + 1))) _
    rw [show shf I 31 32 33 0 n 30 3 = I 30 3 from rfl, h0]
    exact q 0 ha hh (fun i hi => by omega)
  | a + 1, ha, hh => by
    have hk : (Int32.ofNat (a + 1)).toInt = (a + 1 : Nat) := kI_t (by omega)
    have hk1 : Int32.ofNat (a + 1) - 1 = Int32.ofNat a := by
      rw [tI_eq, kI_t (by omega), fb_subI (by simp only [Int32.reduceToInt]; omega) (by simp only [Int32.reduceToInt]; omega), hk]
      simp only [Int32.reduceToInt]
      omega
    have hk2 : Int32.ofNat (a + 1) + Int32.ofInt (-1) = Int32.ofNat a := by
      rw [tI_eq, kI_t (by omega), fb_addI (by simp only [Int32.reduceOfInt, Int32.reduceToInt]; omega) (by simp only [Int32.reduceOfInt, Int32.reduceToInt]; omega), hk]
      simp only [Int32.reduceOfInt, Int32.reduceToInt]
      omega
    have hka : (Int32.ofNat a).toInt = a := kI_t (by omega)
    have ix : ixB (Int32.ofNat (a + 1)) 30 = true := ixB_i (by omega) (by omega)
    have ix1 : ixB (Int32.ofNat a) 30 = true := ixB_i (by omega) (by omega)
    refine v_tellD3 oks ?_
    rw [if_neg (by rw [tI_le, hk]; simp only [Int32.reduceToInt]; omega), hk1, hk2, ix, ix1]
    simp only [ck, kI_c (show a < 2147483648 by omega), kI_c (show a + 1 < 2147483648 by omega)]
    have e5 : shf I 31 32 33 (a + 1) n 32 a = I 32 a := shf_lo (by omega)
    have e4 : shf I 31 32 33 (a + 1) n 31 a = I 31 a := shf_lo (by omega)
    have e6 : shf I 31 32 33 (a + 1) n 33 a = I 33 a := shf_lo (by omega)
    rw [e4, e5, e6]
    refine ite_i (fun z => ?_) (fun z => ?_)
    · rw [show shf I 31 32 33 (a + 1) n 30 3 = I 30 3 from rfl, h0]
      rw [tI_le] at z
      exact q (a + 1) ha hh (fun i hi => by rw [show i = a by omega]; exact z)
    · rw [shf_s (by omega)]
      rw [tI_le] at z
      exact tellD_loop hn h0 q a (by omega) (fun i h1 h2 => by
        rcases Nat.eq_or_lt_of_le h1 with e | e
        · rw [← e]; omega
        · exact hh i (by omega) h2)
theorem tellD_ok {G : GX} {d f : Nat} {sw : Bool} {I : St} {s m v : Int32} {n : Nat} {Q : Option Value → Hp → Prop} (hn : n < 30) (h0 : I 30 3 = Int32.ofNat n) (q : ∀ a, a ≤ n → (∀ i, a ≤ i → i < n → m.toInt < (I 32 i).toInt) → (∀ i, i + 1 = a → (I 32 i).toInt ≤ m.toInt) → Q (some (.int (Int32.ofNat n + 1))) (147, f, insT I 31 32 33 30 a n s m v, RP f sw)) : wp G (d + 10) (mt 30) 0 (en (mt 30) [.ref 30, .int s, .int m, .int v]) [] (147, f, I, RP f sw) Q := by
  refine v_tellD oks ?_
  have k := tellD_loop (G := G) (d := d) (s := s) (v := v) hn h0 q n (Nat.le_refl n) (fun i h1 h2 => by omega)
  rw [shf_0] at k
  rw [h0]
  exact k
theorem co_order {G : GX} (s m c v : Int32) : CO (Rel G) G 25 191 [.int s, .int m, .int c, .int v] := fun f sw I hR => by
  obtain ⟨⟨s1, s2, s3⟩, ⟨o1, o2, o3⟩, r3, r4, r5, r6, r7, r8, r9⟩ := hR.2.2.2.1
  have e3 : (I 93 7 - 1).toInt = (I 93 7).toInt - 1 := fb_subI (by simp only [Int32.reduceToInt]; omega) (by simp only [Int32.reduceToInt]; omega)
  refine v_Corder oks ?_
  rw [s1, o1]
  simp only [tI_lt, tI_le, Int32.reduceToInt, Int32.reduceOfNat, tI_eq (I 93 10), e3]
  repeat' (refine ite_i (fun _ => ?_) (fun _ => ?_))
  all_goals first
    | (exfalso; omega)
    | (refine ⟨_, f, sw, I, (by first | rfl | trivial), rfl, hR.1, v_Morder oks ?_⟩
       try simp only [lcl, lcg, w64]
       simp only [tI_lt, tI_le, Int32.reduceToInt, Int64.reduceToInt, Int32.reduceOfNat, tI_eq (I 93 10), e3]
       repeat' (refine ite_i (fun _ => ?_) (fun _ => ?_))
       all_goals first
         | (exfalso; omega)
         | exact ⟨_, (by first | rfl | trivial), rfl, hR.free (Ag.rf.up rfl)⟩)
    | skip
  obtain ⟨n, hn⟩ : ∃ n : Nat, (I 93 10).toInt = n := ⟨(I 93 10).toInt.toNat, by omega⟩
  have iN : I 93 10 = Int32.ofNat n := by rw [tI_eq, kI_t (by omega), hn]
  have ht : (I 93 10).toInt.toNat = n := by omega
  refine tellO_ok (n := n) (by omega) (show upI I 2 9 1 3 3 = Int32.ofNat n from o1.trans iN) (fun a ha hh hl => ?_)
  have hag : Ag [3, 11] I (insT (upI I 2 9 1) 4 5 6 3 a n s m ((c <<< (6 &&& 31)) ||| v)) := Ag.ins (by repeat (first | exact Ag.rf | refine Ag.up ?_ rfl)) (fun _ => rfl) (fun _ => rfl) (fun _ => rfl) rfl
  refine ⟨_, _, rfl, rfl, _, f, sw, _, rfl, rfl, hR.rx (cs := [3, 11]) hag rfl, v_Morder oks ?_⟩
  have i1 : insT (upI I 2 9 1) 4 5 6 3 a n s m ((c <<< (6 &&& 31)) ||| v) 93 7 = I 93 7 := rfl
  have i2 : insT (upI I 2 9 1) 4 5 6 3 a n s m ((c <<< (6 &&& 31)) ||| v) 93 10 = I 93 10 := rfl
  try simp only [i1, i2, lcl, lcg, w64]
  simp only [tI_lt, tI_le, Int32.reduceToInt, Int64.reduceToInt, Int32.reduceOfNat, tI_eq (I 93 10), e3]
  repeat' (refine ite_i (fun _ => ?_) (fun _ => ?_))
  all_goals first | (exfalso; omega) | skip
  refine ck_of (ixB_i (by omega) (by omega)) ?_
  refine ck_of (ixB_i (by omega) (by omega)) ?_
  refine ck_of (ixB_i (by omega) (by omega)) ?_
  refine ck_of (ixB_i (by omega) (by omega)) ?_
  have hc10 : (I 93 10).toNatClampNeg = n := ht
  rw [hc10]
  have e1 : (I 93 10 + 1).toInt.toNat = n + 1 := by
    rw [fb_addI (by simp only [Int32.reduceToInt]; omega) (by simp only [Int32.reduceToInt]; omega)]
    simp only [Int32.reduceToInt]
    omega
  have e1' : (I 93 10 + 1).toInt = n + 1 := by
    rw [fb_addI (by simp only [Int32.reduceToInt]; omega) (by simp only [Int32.reduceToInt]; omega)]
    simp only [Int32.reduceToInt]
    omega
  refine ⟨_, by rw [iN], rfl, hR.upd [3, 11] (Ag.up (Ag.up (Ag.up (Ag.up (Ag.up (Ag.up hag rfl) rfl) rfl) rfl) rfl) rfl) rfl nof nof (fun _ => ?_) nof nof nof nof nof nof nof⟩
  rw [ht] at r5
  obtain ⟨g1, g2, g3⟩ := ins_at (I := upI I 2 9 1) (w := 4) (f := 5) (v := 6) (o := 3) (a := a) (n := n) (x := s) (y := m) (z := (c <<< (6 &&& 31)) ||| v) (by decide) (by decide) (by decide) (by decide) (by decide) (by decide) ha
  refine ⟨⟨s1, s2, s3⟩, ⟨?_, ?_, ?_⟩, Or.inr rfl, fun k hk => ?_, ?_, r6, r7, fun s' h' => ?_, fun z => absurd (show (1 : Int32) = 0 from z) (by decide)⟩
  · show Int32.ofNat n + 1 = I 93 10 + 1
    rw [iN]
  · show 0 ≤ (I 93 10 + 1).toInt
    omega
  · show (I 93 10 + 1).toInt ≤ 60
    omega
  · have := r4 k hk
    show (0 ≤ (if k = n then s else I 101 k).toInt ∧ (if k = n then s else I 101 k).toInt ≤ 3) ∧ (0 ≤ (if k = n then m else I 102 k).toInt ∧ (if k = n then m else I 102 k).toInt ≤ 239) ∧ (0 ≤ (if k = n then c else I 103 k).toInt ∧ (if k = n then c else I 103 k).toInt ≤ 15) ∧ 0 ≤ (if k = n then v else I 104 k).toInt ∧ (if k = n then v else I 104 k).toInt ≤ 50
    by_cases e : k = n
    · simp only [e, if_true]
      omega
    · simp only [e, if_false]
      exact this
  · show TR (I 93 10 + 1).toInt.toNat (insT (upI I 2 9 1) 4 5 6 3 a n s m ((c <<< (6 &&& 31)) ||| v) 4) (insT (upI I 2 9 1) 4 5 6 3 a n s m ((c <<< (6 &&& 31)) ||| v) 5) (insT (upI I 2 9 1) 4 5 6 3 a n s m ((c <<< (6 &&& 31)) ||| v) 6) (fun k => if k = n then s else I 101 k) (fun k => if k = n then m else I 102 k) (fun k => ((if k = n then c else I 103 k) <<< ((6 : Int32) &&& 31)) ||| (if k = n then v else I 104 k))
    rw [e1]
    refine TR.ins (s0 := s) (m0 := m) (v0 := (c <<< (6 &&& 31)) ||| v) (a := a) r5 ha (fun i hi => ?_) hh (fun i hi => g1 i hi) g2 (fun i h7 h8 => g3 i h7 h8) (fun k hk => ?_) ?_
    · rcases Nat.lt_or_ge (i + 1) a with z | z
      · have q1 := r5.1 i (a - 1) (by omega) (by omega)
        have q2 := hl (a - 1) (by omega)
        have q3 : (upI I 2 9 1 5 (a - 1)) = I 5 (a - 1) := rfl
        rw [q3] at q2
        omega
      · exact hl i (by omega)
    · have e : ¬ k = n := by omega
      simp only [e, if_false, ocode]
      exact ⟨trivial, trivial, trivial⟩
    · simp only [if_true]
      exact ⟨trivial, trivial, trivial⟩
  · have q := r8 s' h'
    have h4 : s' < 4 := by
      have h' : s' < (I 93 7).toInt.toNat := h'
      omega
    simp (disch := omega) only [upI_row, insT_ne]
    exact q
theorem co_door {G : GX} (s m c : Int32) : CO (Rel G) G 59 207 [.int s, .int m, .int c] := fun f sw I hR => by
  obtain ⟨r1, r2, r3, ⟨o1, o2, o3⟩, r5, r6, r7, r8, r9, r10⟩ := hR.2.2.2.2.2.1
  refine v_Cdoor oks ?_
  rw [o1]
  simp only [tI_lt, tI_le, Int32.reduceToInt, Int32.reduceOfNat, tI_eq (I 93 26)]
  repeat' (refine ite_i (fun _ => ?_) (fun _ => ?_))
  all_goals first
    | (exfalso; omega)
    | (refine ⟨_, f, sw, I, (by first | rfl | trivial), rfl, hR.1, v_Mdoor oks ?_⟩
       try simp only [lcl, lcg, w64]
       simp only [tI_lt, tI_le, Int32.reduceToInt, Int64.reduceToInt, Int32.reduceOfNat, tI_eq (I 93 26)]
       repeat' (refine ite_i (fun _ => ?_) (fun _ => ?_))
       all_goals first
         | (exfalso; omega)
         | exact ⟨_, (by first | rfl | trivial), rfl, hR.free (Ag.rf.up rfl)⟩)
    | skip
  obtain ⟨n, hn⟩ : ∃ n : Nat, (I 93 26).toInt = n := ⟨(I 93 26).toInt.toNat, by omega⟩
  have iN : I 93 26 = Int32.ofNat n := by rw [tI_eq, kI_t (by omega), hn]
  have ht : (I 93 26).toInt.toNat = n := by omega
  refine tellD_ok (n := n) (by omega) (show upI I 29 12 1 30 3 = Int32.ofNat n from o1.trans iN) (fun a ha hh hl => ?_)
  have hag : Ag [5, 11] I (insT (upI I 29 12 1) 31 32 33 30 a n s m c) := Ag.ins (by repeat (first | exact Ag.rf | refine Ag.up ?_ rfl)) (fun _ => rfl) (fun _ => rfl) (fun _ => rfl) rfl
  refine ⟨_, _, rfl, rfl, _, f, sw, _, rfl, rfl, hR.rx (cs := [5, 11]) hag rfl, v_Mdoor oks ?_⟩
  have i2 : insT (upI I 29 12 1) 31 32 33 30 a n s m c 93 26 = I 93 26 := rfl
  try simp only [i2, lcl, lcg, w64]
  simp only [tI_lt, tI_le, Int32.reduceToInt, Int64.reduceToInt, Int32.reduceOfNat, tI_eq (I 93 26)]
  repeat' (refine ite_i (fun _ => ?_) (fun _ => ?_))
  all_goals first | (exfalso; omega) | skip
  refine ck_of (ixB_i (by omega) (by omega)) ?_
  refine ck_of (ixB_i (by omega) (by omega)) ?_
  refine ck_of (ixB_i (by omega) (by omega)) ?_
  have hc10 : (I 93 26).toNatClampNeg = n := ht
  rw [hc10]
  have e1' : (I 93 26 + 1).toInt = n + 1 := by
    rw [fb_addI (by simp only [Int32.reduceToInt]; omega) (by simp only [Int32.reduceToInt]; omega)]
    simp only [Int32.reduceToInt]
    omega
  have e1 : (I 93 26 + 1).toInt.toNat = n + 1 := by omega
  refine ⟨_, by rw [iN], rfl, hR.upd [5, 11] (Ag.up (Ag.up (Ag.up (Ag.up (Ag.up hag rfl) rfl) rfl) rfl) rfl) rfl nof nof nof nof (fun _ => ?_) nof nof nof nof nof⟩
  rw [ht] at r9
  obtain ⟨g1, g2, g3⟩ := ins_at (I := upI I 29 12 1) (w := 31) (f := 32) (v := 33) (o := 30) (a := a) (n := n) (x := s) (y := m) (z := c) (by decide) (by decide) (by decide) (by decide) (by decide) (by decide) ha
  refine ⟨r1, r2, r3, ⟨?_, ?_, ?_⟩, Or.inr rfl, r6, r7, fun k hk => ?_, ?_, VesC.st rfl r10.1⟩
  · show Int32.ofNat n + 1 = I 93 26 + 1
    rw [iN]
  · show 0 ≤ (I 93 26 + 1).toInt
    omega
  · show (I 93 26 + 1).toInt ≤ 30
    omega
  · have := r8 k hk
    show (0 ≤ (if k = n then s else I 113 k).toInt ∧ (if k = n then s else I 113 k).toInt ≤ 4) ∧ (0 ≤ (if k = n then m else I 114 k).toInt ∧ (if k = n then m else I 114 k).toInt ≤ 239) ∧ 0 ≤ (if k = n then c else I 115 k).toInt ∧ (if k = n then c else I 115 k).toInt ≤ 1
    by_cases e : k = n
    · simp only [e, if_true]
      omega
    · simp only [e, if_false]
      exact this
  · show TR (I 93 26 + 1).toInt.toNat (insT (upI I 29 12 1) 31 32 33 30 a n s m c 31) (insT (upI I 29 12 1) 31 32 33 30 a n s m c 32) (insT (upI I 29 12 1) 31 32 33 30 a n s m c 33) (fun k => if k = n then s else I 113 k) (fun k => if k = n then m else I 114 k) (fun k => if k = n then c else I 115 k)
    rw [e1]
    refine TR.ins (s0 := s) (m0 := m) (v0 := c) (a := a) r9 ha (fun i hi => ?_) hh (fun i hi => g1 i hi) g2 (fun i h7 h8 => g3 i h7 h8) (fun k hk => ?_) ?_
    · rcases Nat.lt_or_ge (i + 1) a with z | z
      · have q1 := r9.1 i (a - 1) (by omega) (by omega)
        have q2 := hl (a - 1) (by omega)
        have q3 : (upI I 29 12 1 32 (a - 1)) = I 32 (a - 1) := rfl
        rw [q3] at q2
        omega
      · exact hl i (by omega)
    · have e : ¬ k = n := by omega
      simp only [e, if_false]
      exact ⟨trivial, trivial, trivial⟩
    · simp only [if_true]
      exact ⟨trivial, trivial, trivial⟩
