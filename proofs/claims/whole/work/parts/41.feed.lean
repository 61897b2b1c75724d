/-! CALLS: feed -/
theorem fb_ofI {z : Int} (h1 : -2147483648 ≤ z) (h2 : z < 2147483648) : (Int32.ofInt z).toInt = z := by
  rw [Int32.toInt_ofInt, fb_bmod h1 h2]
theorem by_255 : ∀ i, i < 8 → (255#64).getLsbD i = true := by decide
theorem by_1 (x : Int64) : ((x &&& 255).toInt32).toInt8 = x.toInt32.toInt8 := by
  apply Int8.toBitVec_inj.1
  apply BitVec.eq_of_getLsbD_eq
  intro i hi
  have h2 : i < 32 := by omega
  have h4 : i < 64 := by omega
  have h3 : (x &&& 255).toBitVec.getLsbD i = x.toBitVec.getLsbD i := by
    show (x.toBitVec &&& 255#64).getLsbD i = _
    rw [BitVec.getLsbD_and, by_255 i hi, Bool.and_true]
  show ((((x &&& 255).toBitVec).signExtend 32).signExtend 8).getLsbD i = (((x.toBitVec).signExtend 32).signExtend 8).getLsbD i
  rw [BitVec.getLsbD_signExtend, BitVec.getLsbD_signExtend, BitVec.getLsbD_signExtend, BitVec.getLsbD_signExtend, if_pos h2, if_pos h2, if_pos h4, if_pos h4, h3]
theorem by_2 (x : Int64) : 0 ≤ (x &&& 255).toInt32.toInt ∧ (x &&& 255).toInt32.toInt ≤ 255 := by
  have h1 : (x &&& 255).toBitVec.toNat ≤ 255 := by
    show (x.toBitVec &&& 255#64).toNat ≤ 255
    rw [BitVec.toNat_and]
    exact Nat.and_le_right
  have h2 : (x &&& 255).toInt = ((x &&& 255).toBitVec.toNat : Int) := by
    show (x &&& 255).toBitVec.toInt = _
    rw [BitVec.toInt_eq_toNat_of_lt (by omega)]
  rw [Int64.toInt_toInt32, fb_bmod (by omega) (by omega)]
  omega
theorem fb_byte_rng (x : Int32) : -128 ≤ x.toInt8.toInt32.toInt ∧ x.toInt8.toInt32.toInt < 128 := by
  rw [Int8.toInt_toInt32]
  have h1 := Int8.le_toInt x.toInt8
  have h2 := Int8.toInt_lt x.toInt8
  omega
theorem fb_byte {x : Int32} (h1 : -128 ≤ x.toInt) (h2 : x.toInt < 128) : x.toInt8.toInt32 = x := by
  apply Int32.toInt_inj.1
  rw [Int8.toInt_toInt32, Int32.toInt_toInt8, Int.bmod_eq_of_le (by omega) (by omega)]
theorem by_3 (x : Int64) : (x.toInt32.toInt8.toInt32).toInt8.toInt32 = ((x &&& 255).toInt32).toInt8.toInt32 := by
  rw [fb_byte (fb_byte_rng _).1 (fb_byte_rng _).2, by_1]
/-- c bytes g behind L, at the row tp; the count at (op, os) -/
def apI (I : St) (tp op os L : Nat) (g : Nat → Int32) (c : Nat) : St := fun q i => if q = tp then (if L ≤ i ∧ i < L + c then g (i - L) else I q i) else if q = op then (if i = os then Int32.ofNat (L + c) else I q i) else I q i
theorem apI_0 {I : St} {tp op os L : Nat} {g : Nat → Int32} (h : I op os = Int32.ofNat L) : apI I tp op os L g 0 = I := by
  funext q i
  unfold apI
  by_cases e : q = tp
  · rw [if_pos e, if_neg (by omega)]
  · rw [if_neg e]
    by_cases e2 : q = op
    · rw [if_pos e2]
      by_cases e3 : i = os
      · rw [if_pos e3, e2, e3, h]; rfl
      · rw [if_neg e3]
    · rw [if_neg e2]
theorem apI_s {I : St} {tp op os L : Nat} {g : Nat → Int32} (hne : tp ≠ op) (c : Nat) : upI (upI (apI I tp op os L g c) tp (L + c) (g c)) op os (Int32.ofNat (L + c) + 1) = apI I tp op os L g (c + 1) := by
  funext q i
  have e1 : Int32.ofNat (L + c) + 1 = Int32.ofNat (L + (c + 1)) := by
    exact (Int32.ofNat_add (L + c) 1).symm
  simp only [upI_ap, apI, e1]
  grind
theorem apI_n {I : St} {tp op os L : Nat} {g : Nat → Int32} (hne : tp ≠ op) (c : Nat) : apI I tp op os L g c op os = Int32.ofNat (L + c) := by
  unfold apI
  rw [if_neg (fun z => hne z.symm), if_pos rfl, if_pos rfl]
def byC (w : Int64) (k : Int32) : Int32 := (((w >>> (((8 * k) : Int32).toInt64 &&& 63)).toInt32).toInt8.toInt32).toInt8.toInt32
def byM (w : Int64) (k : Int32) : Int32 := ((w >>> (((8 * k) : Int32).toInt64 &&& 63)) &&& 255).toInt32
theorem app_loop {G : GX} {d f : Nat} {sw : Bool} {I : St} {w : Int64} {L n : Nat} {Q : Option Value → Hp → Prop} (hL : L + n ≤ 400) (q : Q (some (.int (Int32.ofNat (L + n)))) (147, f, apI I 62 61 0 L (fun t => byC w (Int32.ofInt ((n : Int) - 1 - t))) n, RP f sw)) : ∀ (m c : Nat), c + m = n → wp G (d + 10) (mt 115) 4 [some (.ref 61), some (.long w), none, none, some (.int (Int32.ofInt ((n : Int) - 1 - c)))] [] (147, f, apI I 62 61 0 L (fun t => byC w (Int32.ofInt ((n : Int) - 1 - t))) c, RP f sw) Q
  | 0, c, h => by
    have e : c = n := by omega
    subst e
    have hk : (Int32.ofInt ((c : Int) - 1 - c)).toInt = (c : Int) - 1 - c := fb_ofI (by omega) (by omega)
    refine v_append4 oks ?_
    rw [if_pos (by rw [tI_lt, hk]; simp only [Int32.reduceToInt]; omega), apI_n (by decide)]
    exact q
  | m + 1, c, h => by
    have hk : (Int32.ofInt ((n : Int) - 1 - c)).toInt = (n : Int) - 1 - c := fb_ofI (by omega) (by omega)
    have hl : (Int32.ofNat (L + c)).toInt = (L + c : Nat) := kI_t (by omega)
    refine v_append4 oks ?_
    rw [if_neg (by rw [tI_lt, hk]; simp only [Int32.reduceToInt]; omega), apI_n (by decide)]
    refine ck_of (ixB_i (by omega) (by omega)) ?_
    rw [kI_c (by omega), ← Int32.ofInt_add, show (n : Int) - 1 - (c : Int) + -1 = (n : Int) - 1 - ((c + 1 : Nat) : Int) by omega]
    have e := apI_s (I := I) (tp := 62) (op := 61) (os := 0) (L := L) (g := fun t => byC w (Int32.ofInt ((n : Int) - 1 - t))) (by decide) c
    have k := app_loop (G := G) (d := d) hL q m (c + 1) (by omega)
    rw [← e] at k
    exact k
theorem Mapp_loop {G : GX} {d f : Nat} {sw : Bool} {I : St} {w : Int64} {L n : Nat} {Q : Option Value → Hp → Prop} (hL : L + n ≤ 400) (q : Q (some (.int (Int32.ofNat (L + n)))) (147, f, apI I 140 93 63 L (fun t => byM w (Int32.ofInt ((n : Int) - 1 - t))) n, RP f sw)) : ∀ (m c : Nat), c + m = n → wp G (d + 10) (mt 233) 23 [some (.ref 93), some (.long w), none, none, some (.int (Int32.ofInt ((n : Int) - 1 - c)))] [] (147, f, apI I 140 93 63 L (fun t => byM w (Int32.ofInt ((n : Int) - 1 - t))) c, RP f sw) Q
  | 0, c, h => by
    have e : c = n := by omega
    subst e
    have hk : (Int32.ofInt ((c : Int) - 1 - c)).toInt = (c : Int) - 1 - c := fb_ofI (by omega) (by omega)
    refine v_Mfeed23 oks ?_
    rw [if_pos (by rw [tI_lt, hk]; simp only [Int32.reduceToInt]; omega), apI_n (by decide)]
    exact q
  | m + 1, c, h => by
    have hk : (Int32.ofInt ((n : Int) - 1 - c)).toInt = (n : Int) - 1 - c := fb_ofI (by omega) (by omega)
    have hl : (Int32.ofNat (L + c)).toInt = (L + c : Nat) := kI_t (by omega)
    refine v_Mfeed23 oks ?_
    rw [if_neg (by rw [tI_lt, hk]; simp only [Int32.reduceToInt]; omega), apI_n (by decide)]
    refine ck_of (ixB_i (by omega) (by omega)) ?_
    rw [kI_c (by omega), ← Int32.ofInt_add, show (n : Int) - 1 - (c : Int) + -1 = (n : Int) - 1 - ((c + 1 : Nat) : Int) by omega]
    have e := apI_s (I := I) (tp := 140) (op := 93) (os := 63) (L := L) (g := fun t => byM w (Int32.ofInt ((n : Int) - 1 - t))) (by decide) c
    have k := Mapp_loop (G := G) (d := d) hL q m (c + 1) (by omega)
    rw [← e] at k
    exact k
theorem Ag.ap {cs : List Nat} {I J : St} {tp op os L : Nat} {g : Nat → Int32} {c : Nat} (h : Ag cs I J) (hc : ∀ k, cs.contains (cmp tp k) = true) (ho : cs.contains (cmp op os) = true) : Ag cs I (apI J tp op os L g c) := fun q i hq => by
  unfold apI
  by_cases e1 : q = tp
  · subst e1
    rw [hc] at hq
    cases hq
  · rw [if_neg e1]
    by_cases e2 : q = op
    · subst e2
      by_cases e3 : i = os
      · subst e3
        rw [ho] at hq
        cases hq
      · rw [if_pos rfl, if_neg e3]
        exact h q i hq
    · rw [if_neg e2]
      exact h q i hq
theorem co_feed {G : GX} (w : Int64) (n : Int32) : CO (Rel G) G 114 233 [.long w, .int n] := fun f sw I hR => by
  obtain ⟨t1, t2, t3, t4, t5⟩ := hR.2.2.2.2.2.2.2.2.1
  have e1 : 1 ≤ n.toInt → n.toInt ≤ 8 → (I 93 63 + n).toInt = (I 93 63).toInt + n.toInt := fun _ _ => fb_addI (by omega) (by omega)
  refine v_Cfeed oks ?_
  rw [t1]
  simp only [tI_lt, tI_le, Int32.reduceToInt, Int32.reduceOfNat]
  repeat' (refine ite_i (fun _ => ?_) (fun _ => ?_))
  all_goals first
    | (exfalso; omega)
    | (refine ⟨_, f, sw, I, (by first | rfl | trivial), rfl, hR.1, v_Mfeed oks ?_⟩
       try simp only [lcl, lcg, w64]
       simp only [tI_lt, tI_le, Int32.reduceToInt, Int64.reduceToInt, Int32.reduceOfNat]
       repeat' (refine ite_i (fun _ => ?_) (fun _ => ?_))
       all_goals first
         | (exfalso; omega)
         | exact ⟨_, (by first | rfl | trivial), rfl, hR.free (Ag.rf.up rfl)⟩)
    | skip
  have hb1 : 1 ≤ n.toInt := by omega
  have hb2 : n.toInt ≤ 8 := by omega
  have hb3 : (I 93 63).toInt + n.toInt ≤ 400 := by omega
  obtain ⟨N, hN⟩ : ∃ N : Nat, n.toInt = N := ⟨n.toInt.toNat, by omega⟩
  obtain ⟨L, hL⟩ : ∃ L : Nat, (I 93 63).toInt = L := ⟨(I 93 63).toInt.toNat, by omega⟩
  have iL : I 93 63 = Int32.ofNat L := by rw [tI_eq, kI_t (by omega), hL]
  have hen : n - 1 = Int32.ofInt ((N : Int) - 1 - (0 : Nat)) := by
    rw [tI_eq, fb_ofI (by omega) (by omega), fb_subI (by simp only [Int32.reduceToInt]; omega) (by simp only [Int32.reduceToInt]; omega)]
    simp only [Int32.reduceToInt]
    omega
  refine v_append oks ?_
  rw [hen]
  have k := app_loop (G := G) (d := 988) (f := f) (sw := sw) (I := I) (w := w) (L := L) (n := N) (Q := fun v h1 => ∃ (x2 : Int32) (I1 : Nat → Nat → Int32), v = some (.int x2) ∧ h1 = (147, f, I1, RP f sw) ∧ ∃ (x : Int32) (f1 : Nat) (sw1 : Bool) (I1' : Nat → Nat → Int32), some (Value.int x2) = some (.int x) ∧ ((147, f, I1, RP f sw) : Hp) = (147, f1, I1', RP f1 sw1) ∧ RX G I1' ∧ wp G 999 (mt 233) 0 (en (mt 233) (.ref 93 :: [.long w, .int n])) [] (147, f1, I1', RP f1 sw1) (fun r2 h2 => ∃ I2 : Nat → Nat → Int32, r2 = some (.int x) ∧ h2 = (147, f1, I2, RP f1 sw1) ∧ Rel G f1 sw1 I2)) (by omega) ?_ N 0 (by omega)
  · rw [apI_0 (t1.trans iL)] at k
    exact k
  · have hag : Ag [8, 11] I (apI I 62 61 0 L (fun t => byC w (Int32.ofInt ((N : Int) - 1 - t))) N) := Ag.ap Ag.rf (fun _ => rfl) rfl
    refine ⟨_, _, rfl, rfl, _, f, sw, _, rfl, rfl, hR.rx hag rfl, v_Mfeed oks ?_⟩
    try simp only [lcl, lcg, w64]
    have i2 : apI I 62 61 0 L (fun t => byC w (Int32.ofInt ((N : Int) - 1 - t))) N 93 63 = I 93 63 := rfl
    simp only [i2, tI_lt, tI_le, Int32.reduceToInt, Int64.reduceToInt, Int32.reduceOfNat]
    repeat' (refine ite_i (fun _ => ?_) (fun _ => ?_))
    all_goals first | (exfalso; omega) | skip
    rw [hen]
    have k := Mapp_loop (G := G) (d := 989) (f := f) (sw := sw) (I := upI (apI I 62 61 0 L (fun t => byC w (Int32.ofInt ((N : Int) - 1 - t))) N) 93 0 0) (w := w) (L := L) (n := N) (Q := fun r2 h2 => ∃ I2 : Nat → Nat → Int32, r2 = some (.int (Int32.ofNat (L + N))) ∧ h2 = (147, f, I2, RP f sw) ∧ Rel G f sw I2) (by omega) ?_ N 0 (by omega)
    · rw [apI_0 (show upI (apI I 62 61 0 L _ N) 93 0 0 93 63 = Int32.ofNat L from iL)] at k
      exact k
    · refine ⟨_, rfl, rfl, hR.upd [8, 11] (Ag.ap (Ag.up hag rfl) (fun _ => rfl) rfl) rfl nof nof nof nof nof nof nof (fun _ => ?_) nof nof⟩
      have hl2 : (Int32.ofNat (L + N)).toInt = (L + N : Nat) := kI_t (by omega)
      refine ⟨rfl, t2, ?_, ?_, fun k hk => ?_⟩
      · show 0 ≤ (Int32.ofNat (L + N)).toInt
        omega
      · show (Int32.ofNat (L + N)).toInt ≤ 400
        omega
      · have q := t5 k hk
        show (if L ≤ k ∧ k < L + N then byC w (Int32.ofInt ((N : Int) - 1 - ((k - L : Nat) : Int))) else I 62 k) = (if L ≤ k ∧ k < L + N then byM w (Int32.ofInt ((N : Int) - 1 - ((k - L : Nat) : Int))) else I 140 k).toInt8.toInt32 ∧ 0 ≤ (if L ≤ k ∧ k < L + N then byM w (Int32.ofInt ((N : Int) - 1 - ((k - L : Nat) : Int))) else I 140 k).toInt ∧ (if L ≤ k ∧ k < L + N then byM w (Int32.ofInt ((N : Int) - 1 - ((k - L : Nat) : Int))) else I 140 k).toInt ≤ 255
        by_cases c : L ≤ k ∧ k < L + N
        · rw [if_pos c, if_pos c]
          exact ⟨by_3 _, by_2 _⟩
        · rw [if_neg c, if_neg c]
          exact q
