/-! CALLS: sheet, count -/
def fillI (I : St) (p n : Nat) (v : Int32) : St := fun q k => if q = p then (if k < n then v else I q k) else I q k
theorem fill_0 (I : St) (p : Nat) (v : Int32) : fillI I p 0 v = I := by
  funext q k
  unfold fillI
  by_cases e : q = p
  · rw [if_pos e, if_neg (by omega)]
  · rw [if_neg e]
theorem fill_up (I : St) (p k : Nat) (v : Int32) : upI (fillI I p k v) p k v = fillI I p (k + 1) v := by
  funext q i
  simp only [upI_ap, fillI]
  grind
theorem fill_loop {G : GX} {d f : Nat} {sw : Bool} {I : St} {p n : Nat} {v : Int32} {Q : Option Value → Hp → Prop} (hp : p < 147) (hS : SH p = (20, n)) (hn : n < 2147483648) (q : Q none (147, f, fillI I p n v, RP f sw)) : ∀ (m k : Nat), k + m = n → wp G (d + 10) (mt 5) 5 [some (.ref p), some (.int v), some (.int (Int32.ofNat k)), some (.int (Int32.ofNat n))] [] (147, f, fillI I p k v, RP f sw) Q
  | 0, k, h => by
    have e : k = n := by omega
    subst e
    refine v_fill5 oks ?_
    rw [if_pos (by rw [tI_le]; omega)]
    exact q
  | m + 1, k, h => by
    refine v_fill5 oks ?_
    rw [if_neg (by rw [tI_le, kI_t (by omega), kI_t (by omega)]; omega)]
    refine ck_of (okB_lt hp hS) (ck_of (ixB_i (by rw [kI_t (by omega)]; omega) (by rw [kI_t (by omega), hS]; show (k : Int) < n; omega)) ?_)
    rw [kI_1, kI_c (by omega), fill_up]
    exact fill_loop hp hS hn q m (k + 1) (by omega)
theorem fill_ok {G : GX} {d f : Nat} {sw : Bool} {I : St} {p n : Nat} {v : Int32} {Q : Option Value → Hp → Prop} (hp : p < 147) (hS : SH p = (20, n)) (hn : n < 2147483648) (q : Q none (147, f, fillI I p n v, RP f sw)) : wp G (d + 10) (mt 5) 0 (en (mt 5) [.ref p, .int v]) [] (147, f, I, RP f sw) Q := by
  refine v_fill oks ?_
  rw [if_neg (by omega)]
  refine ck_of (okB_lt hp hS) ?_
  have h := fill_loop (G := G) (d := d) (I := I) (v := v) hp hS hn q n 0 (by omega)
  rw [fill_0] at h
  rw [hS]
  exact h
def zr (I : St) (s k : Nat) : St := fun q i => if q = 96 then (if 120 * s ≤ i ∧ i < 120 * s + k then 0 else I q i) else I q i
theorem zr_0 (I : St) (s : Nat) : zr I s 0 = I := by
  funext q k
  unfold zr
  by_cases e : q = 96
  · rw [if_pos e, if_neg (by omega)]
  · rw [if_neg e]
theorem zr_up (I : St) (s k : Nat) : upI (zr I s k) 96 (120 * s + k) 0 = zr I s (k + 1) := by
  funext q i
  simp only [upI_ap, zr]
  grind
theorem zr_loop {G : GX} {d f : Nat} {sw : Bool} {I : St} {s : Int32} {n : Int32} {Q : Option Value → Hp → Prop} (h0 : 0 ≤ s.toInt) (h7 : s.toInt ≤ 7) (q : Q (some (.int n)) (147, f, zr I s.toInt.toNat 120, RP f sw)) : ∀ (m k : Nat), k + m = 120 → wp G (d + 10) (mt 182) 38 [some (.ref 93), some (.int s), none, some (.int n), some (.int (Int32.ofNat k))] [] (147, f, zr I s.toInt.toNat k, RP f sw) Q
  | 0, k, h => by
    have e : k = 120 := by omega
    subst e
    refine v_Msheet38 oks ?_
    rw [if_pos (by decide)]
    exact q
  | m + 1, k, h => by
    have hk : (Int32.ofNat k).toInt = k := kI_t (by omega)
    have ec : (120 * s).toInt = 120 * s.toInt := fb_mulI (by simp only [Int32.reduceToInt]; omega) (by simp only [Int32.reduceToInt]; omega)
    have ed : (120 * s + Int32.ofNat k).toInt = 120 * s.toInt + k := by rw [fb_addI (by rw [ec]; omega) (by rw [ec]; omega), ec, hk]
    refine v_Msheet38 oks ?_
    rw [if_neg (by rw [tI_le, hk]; simp only [Int32.reduceToInt]; omega)]
    refine ck_of (ixB_i (by omega) (by omega)) ?_
    rw [kI_1, tnc, ed, show (120 * s.toInt + (k : Int)).toNat = 120 * s.toInt.toNat + k by omega, zr_up]
    exact zr_loop h0 h7 q m (k + 1) (by omega)
theorem zr_ok {G : GX} {d f : Nat} {sw : Bool} {I : St} {s : Int32} {n : Int32} {Q : Option Value → Hp → Prop} (h0 : 0 ≤ s.toInt) (h7 : s.toInt ≤ 7) (q : Q (some (.int n)) (147, f, zr I s.toInt.toNat 120, RP f sw)) : wp G (d + 10) (mt 182) 38 [some (.ref 93), some (.int s), none, some (.int n), some (.int 0)] [] (147, f, I, RP f sw) Q := by
  have h := zr_loop (G := G) (d := d) (I := I) h0 h7 q 120 0 (by omega)
  rw [zr_0] at h
  exact h
theorem cmp_fill {cs : List Nat} {I J : St} {p n : Nat} {v : Int32} (h : Ag cs I J) (hc : ∀ k, cs.contains (cmp p k) = true) : Ag cs I (fillI J p n v) := fun q i hq => by
  unfold fillI
  by_cases e1 : q = p
  · subst e1
    rw [hc] at hq
    cases hq
  · rw [if_neg e1]
    exact h q i hq
theorem cmp_zr {cs : List Nat} {I J : St} {s n : Nat} (h : Ag cs I J) (hc : cs.contains 1 = true) : Ag cs I (zr J s n) := fun q i hq => by
  unfold zr
  by_cases e1 : q = 96
  · subst e1
    rw [show cmp 96 i = 1 from rfl, hc] at hq
    cases hq
  · rw [if_neg e1]
    exact h q i hq
theorem co_sheet {G : GX} (a0 a1 a2 : Int32) : CO (Rel G) G 11 182 [.int a0, .int a1, .int a2] := fun f sw I hR => by
  refine v_Csheet oks ?_
  simp only [tI_lt, tI_le, Int32.reduceToInt, Int32.reduceOfNat]
  repeat' (refine ite_i (fun _ => ?_) (fun _ => ?_))
  all_goals first
    | (exfalso; omega)
    | (refine ⟨_, f, sw, I, (by first | rfl | trivial), rfl, hR.1, v_Msheet oks ?_⟩
       try simp only [lcl, lcg, w64]
       simp only [tI_lt, tI_le, Int32.reduceToInt, Int64.reduceToInt, Int32.reduceOfNat]
       repeat' (refine ite_i (fun _ => ?_) (fun _ => ?_))
       all_goals first
         | (exfalso; omega)
         | exact ⟨_, (by first | rfl | trivial), rfl, hR.free (Ag.rf.up rfl)⟩)
    | skip
  · skip
    refine ck_of (ixB_i (by omega) (by omega)) ?_
    have hs : a0.toNatClampNeg < 8 := by rw [tnc]; omega
    obtain ⟨q1, q2, q3, q4, q5, q6, q7⟩ := hR.2.1 _ hs
    have hst : (a0.toNatClampNeg : Int) = a0.toInt := by rw [tnc]; omega
    generalize a0.toNatClampNeg = s at hs q1 q2 q3 q4 q5 q6 q7 hst ⊢
    have hse : a0.toInt.toNat = s := by omega
    simp only [RP_sh hs, RP_it hs, oV, okB_sh hs, ck, kz1, Bool.true_and, show ∀ x, kz 6 2 x = true from fun _ => rfl, show ∀ x, kz 6 3 x = true from fun _ => rfl]
    refine fill_ok (by omega) (SH_it hs) (by omega) ?_
    refine ⟨_, rfl, rfl, ?_⟩
    have hag : Ag [1, 2, 11] I (upI (fillI (upI (upI (upI I (77 + 2 * s) 1 1) (77 + 2 * s) 2 a1) (77 + 2 * s) 3 a2) (78 + 2 * s) 120 0) 0 11 0) := Ag.up (cmp_fill (by repeat (first | exact Ag.rf | refine Ag.up ?_ rfl | refine Ag.up ?_ (by rw [(cmp_sh _ hs _).1]; rfl) | refine Ag.up ?_ (by rw [(cmp_sh _ hs _).2]; rfl))) (fun k => by rw [(cmp_sh _ hs _).2]; rfl)) rfl
    refine ⟨_, f, sw, _, rfl, rfl, hR.rx (cs := [1, 2, 11]) hag rfl, v_Msheet oks ?_⟩
    try simp only [lcl, lcg, w64]
    simp only [tI_lt, tI_le, Int32.reduceToInt, Int64.reduceToInt, Int32.reduceOfNat]
    repeat' (refine ite_i (fun _ => ?_) (fun _ => ?_))
    all_goals first | (exfalso; omega) | skip
    refine ck_of (ixB_i (by omega) (by omega)) ?_
    refine ck_of (ixB_i (by omega) (by omega)) ?_
    refine zr_ok (by omega) (by omega) ?_
    rw [hse]
    refine ⟨_, rfl, rfl, hR.upd [1, 2, 11] (cmp_zr (Ag.up (Ag.up (Ag.up (Ag.up hag rfl) rfl) rfl) rfl) rfl) rfl (fun _ => ?_) (fun _ => ?_) nof nof nof nof nof nof nof nof⟩
    · refine hR.2.1.one (s := s) (fun s' h1 h2 => ⟨fun k => ?_, fun k => ?_, ?_, ?_, fun i hi => ?_⟩) ?_
      all_goals simp only [upI_ap, zr, fillI, tnc, hse]
      · grind
      · grind
      · grind
      · grind
      · grind
      · refine ⟨?_, ?_, ?_, ?_, ?_, ?_, fun i hi => ?_⟩
        all_goals grind
    · simp only [RC2, zr, fillI, upI_ap, Nat.reduceEqDiff, reduceIte]
  · refine ⟨_, f, sw, _, rfl, rfl, hR.rx (cs := [2, 11]) (by repeat (first | exact Ag.rf | refine Ag.up ?_ rfl)) rfl, v_Msheet oks ?_⟩
    try simp only [upI_ap, Nat.reduceEqDiff, reduceIte, lcl, lcg, w64]
    simp only [tI_lt, tI_le, Int32.reduceToInt, Int64.reduceToInt, Int32.reduceOfNat]
    repeat' (refine ite_i (fun _ => ?_) (fun _ => ?_))
    all_goals first | (exfalso; omega) | skip
    refine ⟨_, (by first | rfl | trivial), rfl, hR.upd [2, 11] (by repeat (first | exact Ag.rf | refine Ag.up ?_ rfl)) rfl nof (fun _ => ?_) nof nof nof nof nof nof nof nof⟩
    simp only [RC2, upI_ap, Nat.reduceEqDiff, reduceIte]
/-- how many of the first n -/
def cn (P : Nat → Bool) : Nat → Int32
  | 0 => 0
  | k + 1 => cn P k + (if P k = true then 1 else 0)
theorem cn_cg {P P' : Nat → Bool} : ∀ n, (∀ k, k < n → P k = P' k) → cn P n = cn P' n
  | 0, _ => rfl
  | n + 1, h => by unfold cn; rw [cn_cg n (fun k hk => h k (by omega)), h n (by omega)]
theorem cn_s (P : Nat → Bool) (k : Nat) : cn P (k + 1) = cn P k + (if P k = true then 1 else 0) := rfl
theorem cn_t {P : Nat → Bool} {k : Nat} (h : P k = true) : cn P k + Int32.ofInt 1 = cn P (k + 1) := by rw [cn_s, if_pos h]; rfl
theorem cn_t' {P : Nat → Bool} {k : Nat} (h : P k = true) : cn P k + 1 = cn P (k + 1) := by rw [cn_s, if_pos h]
theorem cn_f {P : Nat → Bool} {k : Nat} (h : P k = false) : cn P k = cn P (k + 1) := by rw [cn_s, if_neg (by rw [h]; decide), Int32.add_zero]
theorem there_loop {G : GX} {d f : Nat} {sw : Bool} {I : St} {Q : Option Value → Hp → Prop} (q : Q (some (.int (cn (fun s => !decide (I (77 + 2 * s) 1 = 0)) 8))) (147, f, I, RP f sw)) : ∀ (m k : Nat), k + m = 8 → wp G (d + 10) (mt 178) 4 [some (.ref 0), some (.int (cn (fun s => !decide (I (77 + 2 * s) 1 = 0)) k)), some (.int (Int32.ofNat k))] [] (147, f, I, RP f sw) Q
  | 0, k, h => by
    have e : k = 8 := by omega
    subst e
    refine v_sheetsThere4 oks ?_
    rw [if_pos (by decide)]
    exact q
  | m + 1, k, h => by
    have hk : (Int32.ofNat k).toInt = k := kI_t (by omega)
    refine v_sheetsThere4 oks ?_
    rw [if_neg (by rw [tI_le, hk]; simp only [Int32.reduceToInt]; omega)]
    refine ck_of (ixB_i (by omega) (by omega)) ?_
    rw [kI_1, kI_c (by omega), RP_sh (by omega)]
    refine ck_of (okB_sh (by omega)) ?_
    refine ite_i (fun z => ?_) (fun z => ?_)
    · rw [cn_f (by simp [z])]
      exact there_loop q m (k + 1) (by omega)
    · rw [cn_t (by simp [z])]
      exact there_loop q m (k + 1) (by omega)
theorem Mthere_loop {G : GX} {d f : Nat} {sw : Bool} {I : St} {Q : Option Value → Hp → Prop} (q : Q (some (.int (cn (fun s => !decide (I 94 s < 0)) 8))) (147, f, I, RP f sw)) : ∀ (m k : Nat), k + m = 8 → wp G (d + 10) (mt 262) 9 [some (.ref 93), none, some (.int (cn (fun s => !decide (I 94 s < 0)) k)), some (.int (Int32.ofNat k))] [] (147, f, I, RP f sw) Q
  | 0, k, h => by
    have e : k = 8 := by omega
    subst e
    refine v_Mcount9 oks ?_
    rw [if_pos (by decide)]
    exact q
  | m + 1, k, h => by
    have hk : (Int32.ofNat k).toInt = k := kI_t (by omega)
    refine v_Mcount9 oks ?_
    rw [if_neg (by rw [tI_le, hk]; simp only [Int32.reduceToInt]; omega)]
    refine ck_of (ixB_i (by omega) (by omega)) ?_
    rw [kI_1, kI_c (by omega)]
    refine ite_i (fun z => ?_) (fun z => ?_)
    · rw [Int32.add_zero, cn_f (by simp [z])]
      exact Mthere_loop q m (k + 1) (by omega)
    · rw [cn_t' (by simp [z])]
      exact Mthere_loop q m (k + 1) (by omega)
theorem gone_loop {G : GX} {d f : Nat} {sw : Bool} {I : St} {Q : Option Value → Hp → Prop} (hf : f ≤ 12) (h1 : I 47 1 = Int32.ofNat f) (q : Q (some (.int (cn (fun s => !decide (I (1000 + s) 8 = -1000000)) f))) (147, f, I, RP f sw)) : ∀ (m k : Nat), k + m = f → wp G (d + 10) (mt 179) 4 [some (.ref 47), some (.int (cn (fun s => !decide (I (1000 + s) 8 = -1000000)) k)), some (.int (Int32.ofNat k))] [] (147, f, I, RP f sw) Q
  | 0, k, h => by
    have e : k = f := by omega
    subst e
    refine v_goneOnes4 oks ?_
    rw [h1, if_pos (by rw [tI_le]; omega)]
    exact q
  | m + 1, k, h => by
    have hk : (Int32.ofNat k).toInt = k := kI_t (by omega)
    have hff : (Int32.ofNat f).toInt = f := kI_t (by omega)
    refine v_goneOnes4 oks ?_
    rw [h1, if_neg (by rw [tI_le, hk, hff]; omega)]
    refine ck_of (ixB_i (by omega) (by omega)) ?_
    rw [kI_1, kI_c (by omega), RP_fa (by omega)]
    refine ck_of (okB_fa (by omega)) (ck_of (okB_fa (by omega)) ?_)
    refine ite_i (fun z => ?_) (fun z => ?_)
    · rw [cn_f (by simp [z])]
      exact gone_loop hf h1 q m (k + 1) (by omega)
    · rw [cn_t (by simp [z])]
      exact gone_loop hf h1 q m (k + 1) (by omega)
theorem Mgone_loop {G : GX} {d f : Nat} {sw : Bool} {I : St} {Q : Option Value → Hp → Prop} (hf : f ≤ 12) (h1 : I 93 35 = Int32.ofNat f) (q : Q (some (.int (cn (fun s => !decide (I 128 s = -1000000)) f))) (147, f, I, RP f sw)) : ∀ (m k : Nat), k + m = f → wp G (d + 10) (mt 262) 38 [some (.ref 93), none, some (.int (cn (fun s => !decide (I 128 s = -1000000)) k)), some (.int (Int32.ofNat k))] [] (147, f, I, RP f sw) Q
  | 0, k, h => by
    have e : k = f := by omega
    subst e
    refine v_Mcount38 oks ?_
    rw [h1, if_pos (by rw [tI_le]; omega)]
    exact q
  | m + 1, k, h => by
    have hk : (Int32.ofNat k).toInt = k := kI_t (by omega)
    have hff : (Int32.ofNat f).toInt = f := kI_t (by omega)
    refine v_Mcount38 oks ?_
    rw [h1, if_neg (by rw [tI_le, hk, hff]; omega)]
    refine ck_of (ixB_i (by omega) (by omega)) ?_
    rw [kI_1, kI_c (by omega)]
    refine ite_i (fun z => ?_) (fun z => ?_)
    · rw [Int32.add_zero, cn_f (by simp [z])]
      exact Mgone_loop hf h1 q m (k + 1) (by omega)
    · rw [cn_t' (by simp [z])]
      exact Mgone_loop hf h1 q m (k + 1) (by omega)
theorem co_count {G : GX} (a0 : Int32) : CO (Rel G) G 177 262 [.int a0] := fun f sw I hR => by
  obtain ⟨r0, r1, r2, r3, r4, r5, r6, r7, r8, r9, r10⟩ := id hR
  obtain ⟨b1, b2, b3, b4, b5⟩ := r6
  have hfr : Rel G f sw (upI I 93 0 0) := hR.free (Ag.rf.up rfl)
  have key : ∀ x : Int32, (∀ Q : Option Value → Hp → Prop, Q (some (.int x)) (147, f, upI I 93 0 0, RP f sw) → wp G 999 (mt 262) 0 (en (mt 262) [.ref 93, .int a0]) [] (147, f, I, RP f sw) Q) → ∃ (x1 : Int32) (f1 : Nat) (sw1 : Bool) (I1 : St), some (Value.int x) = some (.int x1) ∧ (147, f, I, RP f sw) = (147, f1, I1, RP f1 sw1) ∧ RX G I1 ∧ wp G 999 (mt 262) 0 (en (mt 262) [.ref 93, .int a0]) [] (147, f1, I1, RP f1 sw1) (fun r2 h2 => ∃ I2 : St, r2 = some (.int x1) ∧ h2 = (147, f1, I2, RP f1 sw1) ∧ Rel G f1 sw1 I2) := fun x h =>
    ⟨x, f, sw, I, rfl, rfl, r0, h _ ⟨_, rfl, rfl, hfr⟩⟩
  have c0 : cn (fun s => !decide (I (77 + 2 * s) 1 = 0)) 8 = cn (fun s => !decide (upI I 93 0 0 94 s < 0)) 8 := cn_cg 8 (fun k hk => by
    obtain ⟨q1, q2, q3, -⟩ := r1 k hk
    rw [upI_pl (by decide)]
    rcases q1 with ⟨q1, q4⟩ | ⟨q1, q4⟩
    · rw [q1, q4]; rfl
    · have : ¬ (I (77 + 2 * k) 2 < 0) := by rw [tI_lt]; simp only [Int32.reduceToInt]; omega
      rw [q1, q4, decide_eq_false this]; rfl)
  have c4 : cn (fun s => !decide (I (1000 + s) 8 = -1000000)) f = cn (fun s => !decide (upI I 93 0 0 128 s = -1000000)) f := cn_cg f (fun k hk => by
    rw [upI_pl (by decide), (b4 k hk).2.2.2.2.2.2.2.2.1])
  cases sw
  · refine v_Ccount oks ?_
    refine ite_i (fun z => ?_) (fun z0 => ite_i (fun z => ?_) (fun z1 => ite_i (fun z => ?_) (fun z2 => ite_i (fun z => ?_) (fun z3 => ite_i (fun z => ?_) (fun z4 => ite_i (fun z => ?_) (fun z5 => ite_i (fun z => ?_) (fun z6 => ite_i (fun z => ?_) (fun z7 => ite_i (fun z => ?_) (fun z8 => ?_)))))))))
    · refine v_sheetsThere oks ?_
      refine there_loop ⟨_, _, rfl, rfl, ?_⟩ 8 0 (by omega)
      refine key _ (fun Q q => v_Mcount oks ?_)
      rw [if_pos z]
      refine Mthere_loop (I := upI I 93 0 0) ?_ 8 0 (by omega)
      rw [← c0]
      exact q
    · refine key _ (fun Q q => v_Mcount oks ?_)
      subst z
      rw [if_neg (by decide), if_pos rfl, ← r3.1.1]
      exact q
    · refine key _ (fun Q q => v_Mcount oks ?_)
      subst z
      rw [if_neg (by decide), if_neg (by decide), if_pos rfl, ← r3.2.1.1]
      exact q
    · refine key _ (fun Q q => v_Mcount oks ?_)
      subst z
      rw [if_neg (by decide), if_neg (by decide), if_neg (by decide), if_pos rfl, b3, ← b2]
      exact q
    · refine v_goneOnes oks ?_
      refine gone_loop b1 b2 ⟨_, _, rfl, rfl, ?_⟩ f 0 (by omega)
      refine key _ (fun Q q => v_Mcount oks ?_)
      subst z
      rw [if_neg (by decide), if_neg (by decide), if_neg (by decide), if_neg (by decide), if_pos rfl]
      refine Mgone_loop (I := upI I 93 0 0) b1 b3 ?_ f 0 (by omega)
      rw [← c4]
      exact q
    · refine key _ (fun Q q => v_Mcount oks ?_)
      subst z
      rw [if_neg (by decide), if_neg (by decide), if_neg (by decide), if_neg (by decide), if_neg (by decide), if_pos rfl, ← show I 65 0 = I 93 54 from r7.1]
      exact q
    · refine key _ (fun Q q => v_Mcount oks ?_)
      subst z
      rw [if_neg (by decide), if_neg (by decide), if_neg (by decide), if_neg (by decide), if_neg (by decide), if_neg (by decide), if_pos rfl, ← r5.1.1]
      exact q
    · refine key _ (fun Q q => v_Mcount oks ?_)
      subst z
      rw [if_neg (by decide), if_neg (by decide), if_neg (by decide), if_neg (by decide), if_neg (by decide), if_neg (by decide), if_neg (by decide), if_pos rfl, ← r9.1]
      exact q
    · refine key _ (fun Q q => v_Mcount oks ?_)
      subst z
      rw [if_neg (by decide), if_neg (by decide), if_neg (by decide), if_neg (by decide), if_neg (by decide), if_neg (by decide), if_neg (by decide), if_neg (by decide), if_pos rfl, ← r8.1]
      exact q
    · refine key _ (fun Q q => v_Mcount oks ?_)
      rw [if_neg z0, if_neg z1, if_neg z2, if_neg z3, if_neg z4, if_neg z5, if_neg z6, if_neg z7, if_neg z8]
      exact q
  · refine v_CcountT oks ?_
    refine ite_i (fun z => ?_) (fun z0 => ite_i (fun z => ?_) (fun z1 => ite_i (fun z => ?_) (fun z2 => ite_i (fun z => ?_) (fun z3 => ite_i (fun z => ?_) (fun z4 => ite_i (fun z => ?_) (fun z5 => ite_i (fun z => ?_) (fun z6 => ite_i (fun z => ?_) (fun z7 => ite_i (fun z => ?_) (fun z8 => ?_)))))))))
    · refine v_sheetsThere oks ?_
      refine there_loop ⟨_, _, rfl, rfl, ?_⟩ 8 0 (by omega)
      refine key _ (fun Q q => v_Mcount oks ?_)
      rw [if_pos z]
      refine Mthere_loop (I := upI I 93 0 0) ?_ 8 0 (by omega)
      rw [← c0]
      exact q
    · refine key _ (fun Q q => v_Mcount oks ?_)
      subst z
      rw [if_neg (by decide), if_pos rfl, ← r3.1.1]
      exact q
    · refine key _ (fun Q q => v_Mcount oks ?_)
      subst z
      rw [if_neg (by decide), if_neg (by decide), if_pos rfl, ← r3.2.1.1]
      exact q
    · refine key _ (fun Q q => v_Mcount oks ?_)
      subst z
      rw [if_neg (by decide), if_neg (by decide), if_neg (by decide), if_pos rfl, b3, ← b2]
      exact q
    · refine v_goneOnes oks ?_
      refine gone_loop b1 b2 ⟨_, _, rfl, rfl, ?_⟩ f 0 (by omega)
      refine key _ (fun Q q => v_Mcount oks ?_)
      subst z
      rw [if_neg (by decide), if_neg (by decide), if_neg (by decide), if_neg (by decide), if_pos rfl]
      refine Mgone_loop (I := upI I 93 0 0) b1 b3 ?_ f 0 (by omega)
      rw [← c4]
      exact q
    · refine key _ (fun Q q => v_Mcount oks ?_)
      subst z
      rw [if_neg (by decide), if_neg (by decide), if_neg (by decide), if_neg (by decide), if_neg (by decide), if_pos rfl, ← show I 71 0 = I 93 54 from r7.1]
      exact q
    · refine key _ (fun Q q => v_Mcount oks ?_)
      subst z
      rw [if_neg (by decide), if_neg (by decide), if_neg (by decide), if_neg (by decide), if_neg (by decide), if_neg (by decide), if_pos rfl, ← r5.1.1]
      exact q
    · refine key _ (fun Q q => v_Mcount oks ?_)
      subst z
      rw [if_neg (by decide), if_neg (by decide), if_neg (by decide), if_neg (by decide), if_neg (by decide), if_neg (by decide), if_neg (by decide), if_pos rfl, ← r9.1]
      exact q
    · refine key _ (fun Q q => v_Mcount oks ?_)
      subst z
      rw [if_neg (by decide), if_neg (by decide), if_neg (by decide), if_neg (by decide), if_neg (by decide), if_neg (by decide), if_neg (by decide), if_neg (by decide), if_pos rfl, ← r8.1]
      exact q
    · refine key _ (fun Q q => v_Mcount oks ?_)
      rw [if_neg z0, if_neg z1, if_neg z2, if_neg z3, if_neg z4, if_neg z5, if_neg z6, if_neg z7, if_neg z8]
      exact q
