/-! CALLS: nearest -/
/-- the first minute up to n at which two are least far -/
def bm (E : Nat → Nat) : Nat → Nat
  | 0 => 0
  | n + 1 => if rt (E (n + 1)) < rt (E (bm E n)) then n + 1 else bm E n
theorem bm_s (E : Nat → Nat) (n : Nat) : bm E (n + 1) = if rt (E (n + 1)) < rt (E (bm E n)) then n + 1 else bm E n := rfl
theorem bm_le (E : Nat → Nat) : ∀ n, bm E n ≤ n
  | 0 => Nat.le_refl _
  | n + 1 => by
    have := bm_le E n
    rw [bm_s]
    split <;> omega
theorem sqL {l : Int64} {L : Nat} (h : l.toInt = L) (h2 : L < 131072) : (l * l).toInt = (L * L : Nat) := by
  have h3 : L * L ≤ 131072 * 131072 := Nat.mul_le_mul (by omega) (by omega)
  have h4 : (L : Int) * (L : Int) = ((L * L : Nat) : Int) := (Int.natCast_mul L L).symm
  rw [Int64.toInt_mul, h, h4, Int.bmod_eq_of_le (by omega) (by omega)]
theorem close_loop {G : GX} {d f : Nat} {sw : Bool} {I : St} {a b : Nat} {Q : Option Value → Hp → Prop} (r : RC3 I) (ha : a < (I 93 7).toInt.toNat) (hb : b < (I 93 7).toInt.toNat) (q : ∀ K, WR I K → Q (some (.int (Int32.ofNat (bm (fun m => dq I a b m) 240)))) (147, f, K, RP f sw)) : ∀ (c n : Nat) (K : St) (l : Int64), n + c = 240 → WR I K → l.toInt = rt (dq I a b (bm (fun m => dq I a b m) n)) → wp G (d + 80) (mt 53) 12 [some (.ref 2), some (.int (Int32.ofNat a)), some (.int (Int32.ofNat b)), some (.int (Int32.ofNat (bm (fun m => dq I a b m) n))), some (.long l), none, some (.int (Int32.ofNat (n + 1)))] [] (147, f, K, RP f sw) Q
  | 0, n, K, l, h, w, hl => by
    have e : n = 240 := by omega
    subst e
    refine v_closest12 oks ?_
    rw [if_pos (by decide)]
    exact q K w
  | c + 1, n, K, l, h, w, hl => by
    obtain ⟨⟨s1, s2, s3⟩, -⟩ := id r
    have rK := w.2.2.2
    have k7 : K 93 7 = I 93 7 := by rw [w.1 93 (by decide) (by decide)]
    have bl := bm_le (fun m => dq I a b m) n
    have d1 := (dq_l r ha hb (show n + 1 ≤ 240 by omega)).2
    have d2 := (dq_l r ha hb (show bm (fun m => dq I a b m) n ≤ 240 by omega)).2
    have rs := rt_small (v := dq I a b (bm (fun m => dq I a b m) n)) (by omega)
    have ih := fun (K : St) (l : Int64) => close_loop (G := G) (d := d) r ha hb q c (n + 1) K l (by omega)
    rw [bm_s] at ih
    refine v_closest12 oks ?_
    rw [if_neg (by rw [tI_lt, kI_t (show n + 1 < 2147483648 by omega)]; simp only [Int32.reduceToInt]; omega), kI_1]
    refine apart_ok rK (by rw [k7]; exact ha) (by rw [k7]; exact hb) (by omega) (fun J x wJ hx => ⟨_, _, rfl, rfl, ?_⟩)
    have wJ' := w.wlk wJ
    rw [w.dq] at hx
    refine ite_i (fun z => ?_) (fun z => ?_)
    · rw [lc3, sqL hl rs, hx] at z
      have hn : ¬ rt (dq I a b (n + 1)) < rt (dq I a b (bm (fun m => dq I a b m) n)) := fun y => by
        have := (rt_lt (by omega)).mp y
        omega
      rw [if_neg hn] at ih
      exact ih J l wJ' hl
    · rw [lc3, sqL hl rs, hx] at z
      have hn : rt (dq I a b (n + 1)) < rt (dq I a b (bm (fun m => dq I a b m) n)) := (rt_lt (by omega)).mpr (by omega)
      rw [if_pos hn] at ih
      have rJ := wJ'.2.2.2
      have j7 : J 93 7 = I 93 7 := by rw [wJ'.1 93 (by decide) (by decide)]
      refine apart_ok rJ (by rw [j7]; exact ha) (by rw [j7]; exact hb) (by omega) (fun J2 x2 wJ2 hx2 => ⟨_, _, rfl, rfl, ?_⟩)
      rw [wJ'.dq] at hx2
      refine root_ok hx2 (by omega) ⟨_, _, rfl, rfl, ?_⟩
      have rs2 := rt_small (v := dq I a b (n + 1)) (by omega)
      refine ih J2 _ (wJ'.wlk wJ2) ?_
      rw [w64, kI_t (by omega)]
theorem close_ok {G : GX} {d f : Nat} {sw : Bool} {I : St} {a b : Nat} {Q : Option Value → Hp → Prop} (r : RC3 I) (ha : a < (I 93 7).toInt.toNat) (hb : b < (I 93 7).toInt.toNat) (q : ∀ K, WR I K → Q (some (.int (Int32.ofNat (bm (fun m => dq I a b m) 240)))) (147, f, K, RP f sw)) : wp G (d + 80) (mt 53) 0 (en (mt 53) [.ref 2, .int (Int32.ofNat a), .int (Int32.ofNat b)]) [] (147, f, I, RP f sw) Q := by
  have d1 := (dq_l r ha hb (show 0 ≤ 240 by omega)).2
  have rs := rt_small (v := dq I a b 0) (by omega)
  refine v_closest oks ?_
  refine apart_ok (m := 0) r ha hb (by omega) (fun J x w hx => ⟨_, _, rfl, rfl, ?_⟩)
  refine root_ok hx (by omega) ⟨_, _, rfl, rfl, ?_⟩
  exact close_loop r ha hb q 240 0 J _ (by omega) w.wr (by rw [w64, kI_t (by omega)]; rfl)
theorem Mclose_loop {G : GX} {d f : Nat} {sw : Bool} {I J : St} {a b : Nat} {w : Int32} {Q : Option Value → Hp → Prop} (r : RC3 I) (v : Way I J) (ha : a < (I 93 7).toInt.toNat) (hb : b < (I 93 7).toInt.toNat) (q0 : w = 0 → Q (some (.int (Int32.ofNat (bm (fun m => dq I a b m) 240)))) (147, f, J, RP f sw)) (q1 : ¬ w = 0 → Q (some (.int (Int32.ofNat (rt (dq I a b (bm (fun m => dq I a b m) 240)))))) (147, f, J, RP f sw)) : ∀ (c n : Nat), n + c = 240 → wp G (d + 80) (mt 205) 28 [some (.ref 93), some (.int (Int32.ofNat a)), some (.int (Int32.ofNat b)), some (.int w), some (.int (Int32.ofNat (bm (fun m => dq I a b m) n))), some (.int (Int32.ofNat (n + 1)))] [] (147, f, J, RP f sw) Q
  | 0, n, h => by
    have e : n = 240 := by omega
    subst e
    have bl := bm_le (fun m => dq I a b m) 240
    refine v_Mnearest28 oks ?_
    rw [if_pos (by decide)]
    refine ite_i (fun z => q0 z) (fun z => ?_)
    exact Mapart_ok r v ha hb (by omega) ⟨_, _, rfl, rfl, q1 z⟩
  | c + 1, n, h => by
    have bl := bm_le (fun m => dq I a b m) n
    have d1 := (dq_l r ha hb (show n + 1 ≤ 240 by omega)).2
    have d2 := (dq_l r ha hb (show bm (fun m => dq I a b m) n ≤ 240 by omega)).2
    have rs := rt_small (v := dq I a b (bm (fun m => dq I a b m) n)) (by omega)
    have rs2 := rt_small (v := dq I a b (n + 1)) (by omega)
    have ih := Mclose_loop (G := G) (d := d) r v ha hb q0 q1 c (n + 1) (by omega)
    rw [bm_s] at ih
    refine v_Mnearest28 oks ?_
    rw [if_neg (by rw [tI_le, kI_t (show n + 1 < 2147483648 by omega)]; simp only [Int32.reduceToInt]; omega), kI_1]
    refine Mapart_ok r v ha hb (by omega) ⟨_, _, rfl, rfl, ?_⟩
    refine Mapart_ok r v ha hb (by omega) ⟨_, _, rfl, rfl, ?_⟩
    refine ite_i (fun z => ?_) (fun z => ?_)
    · rw [tI_le, kI_t (by omega), kI_t (by omega)] at z
      rw [if_neg (by omega)] at ih
      exact ih
    · rw [tI_le, kI_t (by omega), kI_t (by omega)] at z
      rw [if_pos (by omega)] at ih
      exact ih
theorem co_nearest {G : GX} (a b w : Int32) : CO (Rel G) G 52 205 [.int a, .int b, .int w] := fun f sw I hR => by
  have r := hR.2.2.2.1
  obtain ⟨⟨s1, s2, s3⟩, -⟩ := id r
  have e3 : (I 93 7 - 1).toInt = (I 93 7).toInt - 1 := fb_subI (by simp only [Int32.reduceToInt]; omega) (by simp only [Int32.reduceToInt]; omega)
  refine v_Cnearest oks ?_
  rw [s1]
  simp only [tI_lt, tI_le, Int32.reduceToInt, Int32.reduceOfNat, e3, tI_eq a, tI_eq w]
  repeat' (refine ite_i (fun _ => ?_) (fun _ => ?_))
  all_goals first
    | (exfalso; omega)
    | (refine ⟨_, f, sw, I, (by first | rfl | trivial), rfl, hR.1, v_Mnearest oks ?_⟩
       try simp only [lcl, lcg, w64]
       simp only [tI_lt, tI_le, Int32.reduceToInt, Int64.reduceToInt, Int32.reduceOfNat, e3, tI_eq a]
       repeat' (refine ite_i (fun _ => ?_) (fun _ => ?_))
       all_goals first
         | (exfalso; omega)
         | exact ⟨_, (by first | rfl | trivial), rfl, hR.free (Ag.rf.up rfl)⟩)
    | skip
  obtain ⟨a0, ha, ta⟩ : ∃ k : Nat, a = Int32.ofNat k ∧ a.toInt = (k : Int) := ⟨a.toInt.toNat, kI_of (by omega), by omega⟩
  obtain ⟨b0, hb, tb⟩ : ∃ k : Nat, b = Int32.ofNat k ∧ b.toInt = (k : Int) := ⟨b.toInt.toNat, kI_of (by omega), by omega⟩
  subst ha hb
  have ha4 : a0 < (I 93 7).toInt.toNat := by omega
  have hb4 : b0 < (I 93 7).toInt.toNat := by omega
  have bl := bm_le (fun m => dq I a0 b0 m) 240
  have d2 := (dq_l r ha4 hb4 (show bm (fun m => dq I a0 b0 m) 240 ≤ 240 by omega)).2
  have keyM : ∀ (K : St) (x : Int32), WR I K → (w = 0 → x = Int32.ofNat (bm (fun m => dq I a0 b0 m) 240)) → (¬ w = 0 → x = Int32.ofNat (rt (dq I a0 b0 (bm (fun m => dq I a0 b0 m) 240)))) → wp G 999 (mt 205) 0 (en (mt 205) [.ref 93, .int (Int32.ofNat a0), .int (Int32.ofNat b0), .int w]) [] (147, f, K, RP f sw) (fun r2 h2 => ∃ I2, r2 = some (.int x) ∧ h2 = (147, f, I2, RP f sw) ∧ Rel G f sw I2) := fun K x wk h0 h1 => by
    have rB := BS_3 wk
    have b7 : BS K 93 7 = I 93 7 := BS_93 wk (by decide)
    have k7 : K 93 7 = I 93 7 := by rw [wk.1 93 (by decide) (by decide)]
    refine v_Mnearest oks ?_
    rw [k7]
    simp only [lcl, lcg, w64]
    simp only [tI_lt, tI_le, Int32.reduceToInt, Int64.reduceToInt, Int32.reduceOfNat, e3, tI_eq (Int32.ofNat a0)]
    repeat' (refine ite_i (fun _ => ?_) (fun _ => ?_))
    all_goals first | (exfalso; omega) | skip
    refine sail_ok rB (fun J v => ⟨_, rfl, rfl, ?_⟩)
    have v : Way (BS K) J := v
    have rel := v.rel hR wk
    have edq : (fun m => dq (BS K) a0 b0 m) = (fun m => dq I a0 b0 m) := funext fun m => BS_dq wk a0 b0 m
    refine Mclose_loop rB v (by rw [b7]; exact ha4) (by rw [b7]; exact hb4) (fun z => ?_) (fun z => ?_) 240 0 (by omega)
    · rw [edq, ← h0 z]
      exact ⟨_, rfl, rfl, rel⟩
    · rw [edq, BS_dq wk, ← h1 z]
      exact ⟨_, rfl, rfl, rel⟩
  refine close_ok r ha4 hb4 (fun K wk => ⟨_, _, rfl, rfl, ?_⟩)
  refine ite_i (fun z => ?_) (fun z => ?_)
  · have z' : w = 0 := by rw [tI_eq]; exact z
    exact ⟨_, f, sw, K, rfl, rfl, hR.rx wk.ag rfl, keyM K _ wk (fun _ => rfl) (fun y => absurd z' y)⟩
  · have z' : ¬ w = 0 := fun y => z (by rw [y]; rfl)
    have rK := wk.2.2.2
    have k7 : K 93 7 = I 93 7 := by rw [wk.1 93 (by decide) (by decide)]
    refine apart_ok rK (by rw [k7]; exact ha4) (by rw [k7]; exact hb4) (by omega) (fun J x wJ hx => ⟨_, _, rfl, rfl, ?_⟩)
    have wJ' := wk.wlk wJ
    rw [wk.dq] at hx
    refine root_ok hx (by omega) ⟨_, _, rfl, rfl, ?_⟩
    exact ⟨_, f, sw, J, rfl, rfl, hR.rx wJ'.ag rfl, keyM J _ wJ' (fun y => absurd y z') (fun _ => rfl)⟩
