/-! CALLS: where, nearest -/
theorem lc3 (x y : Int64) : (0 ≤ lg_cmp x y) = (y.toInt ≤ x.toInt) := by
  have h1 := lcl x y
  have h2 : (0 ≤ lg_cmp x y) = ¬ (lg_cmp x y < 0) := propext Int32.not_lt.symm
  rw [h2, h1]
  exact propext ⟨fun h => by omega, fun h => by omega⟩
/-- nothing but tracks has changed -/
def WR (I K : St) : Prop := (∀ p, 26 ≤ p → p ≠ 28 → K p = I p) ∧ (∀ p, p < 12 → p ≠ 2 → K p = I p) ∧ (∀ k, k ≠ 9 → K 2 k = I 2 k) ∧ RC3 K
theorem WR.rf {I : St} (r : RC3 I) : WR I I := ⟨fun _ _ _ => rfl, fun _ _ _ => rfl, fun _ _ => rfl, r⟩
theorem WR.wlk {I K J : St} (w : WR I K) (v : Wlk K J) : WR I J := ⟨fun p h1 h2 => (v.1 p h1 h2).trans (w.1 p h1 h2), fun p h1 h2 => (v.2.1 p h1 h2).trans (w.2.1 p h1 h2), fun k h => (v.2.2.1 k h).trans (w.2.2.1 k h), v.2.2.2.1⟩
theorem rows_w {I J : St} (w1 : ∀ p, 26 ≤ p → p ≠ 28 → J p = I p) : (∀ s m, wX J s m = wX I s m) ∧ (∀ s m, wY J s m = wY I s m) ∧ (∀ s m, crs J s m = crs I s m) ∧ (∀ s m, spd J s m = spd I s m) ∧ (∀ s m, cod J s m = cod I s m) ∧ ∀ s m, ordK J s m = ordK I s m := by
  have ho : ∀ s m, ordK J s m = ordK I s m := fun s m => by
    unfold ordK
    rw [w1 101 (by decide) (by decide), w1 102 (by decide) (by decide), w1 93 (by decide) (by decide)]
  have hc : ∀ s m, crs J s m = crs I s m := fun s m => by
    unfold crs; rw [ho, w1 103 (by decide) (by decide)]
  have hv : ∀ s m, spd J s m = spd I s m := fun s m => by
    unfold spd; rw [ho, w1 104 (by decide) (by decide)]
  have hd : ∀ s m, cod J s m = cod I s m := fun s m => by
    unfold cod ocode; rw [ho, w1 103 (by decide) (by decide), w1 104 (by decide) (by decide)]
  have hX : ∀ s m, wX J s m = wX I s m := fun s m => by
    induction m with
    | zero => show J 99 s = I 99 s; rw [w1 99 (by decide) (by decide)]
    | succ m ih => unfold wX; rw [ih, hc, hv, w1 97 (by decide) (by decide), w1 105 (by decide) (by decide)]
  have hY : ∀ s m, wY J s m = wY I s m := fun s m => by
    induction m with
    | zero => show J 100 s = I 100 s; rw [w1 100 (by decide) (by decide)]
    | succ m ih => unfold wY; rw [ih, hc, hv, w1 98 (by decide) (by decide), w1 106 (by decide) (by decide)]
  exact ⟨hX, hY, hc, hv, hd, ho⟩
theorem WR.dq {I K : St} (w : WR I K) (a b m : Nat) : dq K a b m = dq I a b m := by
  obtain ⟨h1, h2, -⟩ := rows_w w.1
  unfold _root_.Jvm.Pilot.CWreckCourtLaw_law_r7990_4df1d7.dq
  rw [h1, h1, h2, h2]
theorem WR.ag {I K : St} (w : WR I K) : Ag [3, 11] I K := fun p k hq => by
  by_cases h1 : p = 2
  · subst h1
    rw [show cmp 2 k = 3 from rfl] at hq
    cases hq
  · by_cases h2 : p < 12
    · rw [w.2.1 p h2 h1]
    · by_cases h3 : p = 28
      · subst h3
        rw [show cmp 28 k = 3 from rfl] at hq
        cases hq
      · by_cases h4 : 26 ≤ p
        · rw [w.1 p h4 h3]
        · exfalso
          rw [cmp_pl k (by omega) (by omega)] at hq
          have hz : ∀ p, p < 26 → 12 ≤ p → cmpL.getD p 11 = 3 := by decide
          rw [hz p (by omega) (by omega)] at hq
          cases hq
/-- the least distance in sight, over the first n ships but s -/
def nM (D : Nat → Nat) (s g : Nat) : Nat → Nat
  | 0 => 9999
  | k + 1 => if k = s then nM D s g k else if rt (D k) ≤ g ∧ rt (D k) < nM D s g k then rt (D k) else nM D s g k
theorem nM_s (D : Nat → Nat) (s g k : Nat) : nM D s g (k + 1) = if k = s then nM D s g k else if rt (D k) ≤ g ∧ rt (D k) < nM D s g k then rt (D k) else nM D s g k := rfl
theorem nM_le (D : Nat → Nat) (s g : Nat) : ∀ n, nM D s g n ≤ 9999
  | 0 => Nat.le_refl _
  | n + 1 => by
    have := nM_le D s g n
    rw [nM_s]
    split
    · exact this
    · split <;> omega
theorem Mnear_loop {G : GX} {d f : Nat} {sw : Bool} {I J : St} {s m g : Nat} {Q : Option Value → Hp → Prop} (r : RC3 I) (w : Way I J) (hs : s < (I 93 7).toInt.toNat) (hm : m ≤ 240) (hg : g ≤ 1000) (q : Q (some (.int (Int32.ofNat (nM (fun k => dq I s k m) s g (I 93 7).toInt.toNat)))) (147, f, J, RP f sw)) : ∀ (c k : Nat), k + c = (I 93 7).toInt.toNat → wp G (d + 60) (mt 200) 20 [some (.ref 93), some (.int (Int32.ofNat s)), some (.int (Int32.ofNat m)), some (.int (Int32.ofNat g)), some (.int (Int32.ofNat (nM (fun k => dq I s k m) s g k))), some (.int (Int32.ofNat k)), none] [] (147, f, J, RP f sw) Q
  | 0, k, h => by
    obtain ⟨⟨s1, s2, s3⟩, -⟩ := id r
    refine v_MnearOf20 oks ?_
    rw [w.1 93 (by decide) (by decide), if_pos (by rw [tI_le, kI_t (by omega)]; omega)]
    rw [show k = (I 93 7).toInt.toNat by omega]
    exact q
  | c + 1, k, h => by
    obtain ⟨⟨s1, s2, s3⟩, -⟩ := id r
    have ih := Mnear_loop (G := G) (d := d) r w hs hm hg q c (k + 1) (by omega)
    rw [nM_s] at ih
    have nle := nM_le (fun k => dq I s k m) s g k
    have dd := (dq_l r hs (show k < (I 93 7).toInt.toNat by omega) hm).2
    have rs := rt_small (v := dq I s k m) (by omega)
    refine v_MnearOf20 oks ?_
    rw [w.1 93 (by decide) (by decide), if_neg (by rw [tI_le, kI_t (by omega)]; omega), kI_1]
    refine ite_i (fun z => ?_) (fun z => ?_)
    · rw [tI_eq, kI_t (by omega), kI_t (by omega)] at z
      rw [if_pos (by omega)] at ih
      exact ih
    · rw [tI_eq, kI_t (by omega), kI_t (by omega)] at z
      rw [if_neg (by omega)] at ih
      refine Mapart_ok r w hs (by omega) hm ⟨_, _, rfl, rfl, ?_⟩
      refine ite_i (fun z2 => ?_) (fun z2 => ite_i (fun z3 => ?_) (fun z3 => ?_))
      · rw [tI_lt, kI_t (by omega), kI_t (by omega)] at z2
        rw [if_neg (by omega)] at ih
        exact ih
      · rw [tI_le, kI_t (by omega), kI_t (by omega)] at z3
        rw [if_neg (by omega)] at ih
        exact ih
      · rw [tI_lt, kI_t (by omega), kI_t (by omega)] at z2
        rw [tI_le, kI_t (by omega), kI_t (by omega)] at z3
        rw [if_pos (by omega)] at ih
        exact ih
/-- what the class has found so far, against the reference's -/
def NI (D : Nat → Nat) (s g k L : Nat) (b : Bool) : Prop := (b = false ∧ L = (g + 1) * (g + 1) ∧ nM D s g k = 9999) ∨ (b = true ∧ nM D s g k = rt L ∧ rt L ≤ g ∧ L < 5745920001)
theorem near_loop {G : GX} {d f : Nat} {sw : Bool} {I : St} {s m g : Nat} {Q : Option Value → Hp → Prop} (r : RC3 I) (hs : s < (I 93 7).toInt.toNat) (hm : m ≤ 240) (hg : g ≤ 1000) (q : ∀ K, WR I K → Q (some (.int (Int32.ofNat (nM (fun k => dq I s k m) s g (I 93 7).toInt.toNat)))) (147, f, K, RP f sw)) : ∀ (c k : Nat) (K : St) (l : Int64) (L : Nat) (b : Bool), k + c = (I 93 7).toInt.toNat → WR I K → l.toInt = L → NI (fun k => dq I s k m) s g k L b → wp G (d + 80) (mt 46) 15 [some (.ref 2), some (.int (Int32.ofNat s)), some (.int (Int32.ofNat m)), none, none, some (.long l), none, some (.int (b2 b)), some (.int (Int32.ofNat k))] [] (147, f, K, RP f sw) Q
  | 0, k, K, l, L, b, h, w, hl, ni => by
    obtain ⟨⟨s1, s2, s3⟩, -⟩ := id r
    have qk := q K w
    refine v_near15 oks ?_
    rw [w.2.2.1 2 (by decide), s1, if_pos (by rw [tI_le, kI_t (by omega)]; omega)]
    rw [← show k = (I 93 7).toInt.toNat by omega] at qk
    rcases ni with ⟨rfl, n1, n2⟩ | ⟨rfl, n1, n2, n3⟩
    · rw [if_pos (show b2 false = 0 from rfl)]
      rw [n2] at qk
      exact qk
    · rw [if_neg (show ¬ b2 true = 0 by decide)]
      rw [n1] at qk
      exact root_ok hl (by omega) ⟨_, _, rfl, rfl, qk⟩
  | c + 1, k, K, l, L, b, h, w, hl, ni => by
    obtain ⟨⟨s1, s2, s3⟩, -⟩ := id r
    have rK := w.2.2.2
    have k7 : K 93 7 = I 93 7 := by rw [w.1 93 (by decide) (by decide)]
    have ih := fun (K : St) (l : Int64) (L : Nat) (b : Bool) => near_loop (G := G) (d := d) r hs hm hg q c (k + 1) K l L b (by omega)
    have dd := (dq_l r hs (show k < (I 93 7).toInt.toNat by omega) hm).2
    refine v_near15 oks ?_
    rw [w.2.2.1 2 (by decide), s1, if_neg (by rw [tI_le, kI_t (by omega)]; omega), kI_1]
    refine ite_i (fun z => ?_) (fun z => ?_)
    · rw [tI_eq, kI_t (by omega), kI_t (by omega)] at z
      refine ih K l L b w hl ?_
      unfold NI at ni ⊢
      rw [nM_s, if_pos (by omega)]
      exact ni
    · rw [tI_eq, kI_t (by omega), kI_t (by omega)] at z
      have ns : nM (fun k => dq I s k m) s g (k + 1) = if rt (dq I s k m) ≤ g ∧ rt (dq I s k m) < nM (fun k => dq I s k m) s g k then rt (dq I s k m) else nM (fun k => dq I s k m) s g k := by rw [nM_s, if_neg (by omega)]
      refine apart_ok rK (by rw [k7]; exact hs) (by rw [k7]; omega) hm (fun J x wJ hx => ⟨_, _, rfl, rfl, ?_⟩)
      have wJ' := w.wlk wJ
      rw [w.dq] at hx
      refine ite_i (fun z2 => ?_) (fun z2 => ?_)
      · rw [lc3, hl, hx] at z2
        refine ih J l L b wJ' hl ?_
        unfold NI at ni ⊢
        rcases ni with ⟨rfl, n1, n2⟩ | ⟨rfl, n1, n2, n3⟩
        · refine Or.inl ⟨rfl, n1, ?_⟩
          have : ¬ rt (dq I s k m) < g + 1 := fun y => by
            have := (rt_lt (by omega)).mp y
            omega
          rw [ns, if_neg (by omega)]
          exact n2
        · refine Or.inr ⟨rfl, ?_, n2, n3⟩
          have : ¬ rt (dq I s k m) < rt L := fun y => by
            have y1 := (rt_lt (by omega)).mp y
            have y2 := (rt_sp (v := L) (by omega)).1
            omega
          rw [ns, if_neg (by omega)]
          exact n1
      · rw [lc3, hl, hx] at z2
        have rJ := wJ'.2.2.2
        have j7 : J 93 7 = I 93 7 := by rw [wJ'.1 93 (by decide) (by decide)]
        refine apart_ok rJ (by rw [j7]; exact hs) (by rw [j7]; omega) hm (fun J2 x2 wJ2 hx2 => ⟨_, _, rfl, rfl, ?_⟩)
        rw [wJ'.dq] at hx2
        refine ih J2 x2 (dq I s k m) true (wJ'.wlk wJ2) hx2 (Or.inr ⟨rfl, ?_, ?_, dd⟩)
        · rcases ni with ⟨rfl, n1, n2⟩ | ⟨rfl, n1, n2, n3⟩
          · have : rt (dq I s k m) < g + 1 := (rt_lt (by omega)).mpr (by omega)
            rw [ns, if_pos (by omega)]
          · have y0 : dq I s k m < L := by omega
            have y1 : rt (dq I s k m) ≤ rt L := by
              have y2 := (rt_sp (v := L) (by omega)).2
              have : rt (dq I s k m) < rt L + 1 := (rt_lt (by omega)).mpr (by omega)
              omega
            rw [ns]
            by_cases y3 : rt (dq I s k m) < rt L
            · rw [if_pos (by omega)]
            · rw [if_neg (by omega), n1]
              omega
        · rcases ni with ⟨rfl, n1, n2⟩ | ⟨rfl, n1, n2, n3⟩
          · have : rt (dq I s k m) < g + 1 := (rt_lt (by omega)).mpr (by omega)
            omega
          · have y2 := (rt_sp (v := L) (by omega)).2
            have : rt (dq I s k m) < rt L + 1 := (rt_lt (by omega)).mpr (by omega)
            omega
/-- how far one sees in a minute -/
def sg (I : St) (m : Nat) : Nat := if dk (I 109) (I 110) (I 111) 0 (Int32.ofNat m) (I 93 19).toInt.toNat = true then 100 else if dk (I 109) (I 110) (I 111) 1 (Int32.ofNat m) (I 93 19).toInt.toNat = true then 500 else 1000
theorem dk_cg {a b c a' b' c' : Nat → Int32} {s m : Int32} : ∀ {n : Nat}, (∀ k, k < n → a k = a' k ∧ b k = b' k ∧ c k = c' k) → dk a b c s m n = dk a' b' c' s m n
  | 0, _ => rfl
  | n + 1, h => by
    unfold dk
    rw [dk_cg (n := n) (fun k hk => h k (by omega)), (h n (by omega)).1, (h n (by omega)).2.1, (h n (by omega)).2.2]
theorem sight_ok {G : GX} {d f : Nat} {sw : Bool} {I : St} {m : Nat} {Q : Option Value → Hp → Prop} (r : RC4 I) (q : Q (some (.int (Int32.ofNat (sg I m)))) (147, f, I, RP f sw)) : wp G (d + 20) (mt 47) 0 (en (mt 47) [.ref 2, .int (Int32.ofNat m)]) [] (147, f, I, RP f sw) Q := by
  obtain ⟨r1, r2, r3, r4⟩ := r
  have h0 : I 7 3 = Int32.ofNat (I 93 19).toInt.toNat := by rw [r1]; exact kI_of r2
  have cg : ∀ s, dk (I 8) (I 9) (I 10) s (Int32.ofNat m) (I 93 19).toInt.toNat = dk (I 109) (I 110) (I 111) s (Int32.ofNat m) (I 93 19).toInt.toNat := fun s => dk_cg (fun k hk => r4 k (by omega))
  unfold sg at q
  refine v_sight oks ?_
  refine holdsK_ok (by omega) h0 ⟨_, _, rfl, rfl, ?_⟩
  rw [cg]
  cases h1 : dk (I 109) (I 110) (I 111) 0 (Int32.ofNat m) (I 93 19).toInt.toNat with
  | true =>
    rw [h1, if_pos rfl] at q
    rw [if_neg (show ¬ b2 true = 0 by decide)]
    exact q
  | false =>
    rw [h1, if_neg (by decide)] at q
    rw [if_pos (show b2 false = 0 from rfl)]
    refine holdsK_ok (by omega) h0 ⟨_, _, rfl, rfl, ?_⟩
    rw [cg]
    cases h2 : dk (I 109) (I 110) (I 111) 1 (Int32.ofNat m) (I 93 19).toInt.toNat with
    | true =>
      rw [h2, if_pos rfl] at q
      rw [if_neg (show ¬ b2 true = 0 by decide)]
      exact q
    | false =>
      rw [h2, if_neg (by decide)] at q
      rw [if_pos (show b2 false = 0 from rfl)]
      exact q
theorem sg_le (I : St) (m : Nat) : sg I m ≤ 1000 := by
  unfold sg
  split
  · omega
  · split <;> omega
/-- NEAR of a ship in a minute -/
def nrv (I : St) (s m : Nat) : Nat := nM (fun k => dq I s k m) s (sg I m) (I 93 7).toInt.toNat
theorem near_ok {G : GX} {d f : Nat} {sw : Bool} {I : St} {s m : Nat} {Q : Option Value → Hp → Prop} (r : RC3 I) (r4 : RC4 I) (hs : s < (I 93 7).toInt.toNat) (hm : m ≤ 240) (q : ∀ K, WR I K → Q (some (.int (Int32.ofNat (nrv I s m)))) (147, f, K, RP f sw)) : wp G (d + 80) (mt 46) 0 (en (mt 46) [.ref 2, .int (Int32.ofNat s), .int (Int32.ofNat m)]) [] (147, f, I, RP f sw) Q := by
  have gl := sg_le I m
  refine v_near oks ?_
  refine sight_ok r4 ⟨_, _, rfl, rfl, ?_⟩
  have e1 : Int32.ofNat (sg I m) + 1 = Int32.ofNat (sg I m + 1) := l1a _
  have t1 : (Int32.ofNat (sg I m + 1)).toInt = (sg I m + 1 : Nat) := kI_t (by omega)
  refine near_loop r hs hm gl q (I 93 7).toInt.toNat 0 I _ ((sg I m + 1) * (sg I m + 1)) false (by omega) (WR.rf r) ?_ (Or.inl ⟨rfl, rfl, rfl⟩)
  rw [e1, sq64 (by omega) (by omega), t1]
  exact_mod_cast rfl
theorem Mnear_ok {G : GX} {d f : Nat} {sw : Bool} {I J : St} {s m : Nat} {Q : Option Value → Hp → Prop} (r : RC3 I) (r4 : RC4 I) (w : Way I J) (hs : s < (I 93 7).toInt.toNat) (hm : m ≤ 240) (q : Q (some (.int (Int32.ofNat (nrv I s m)))) (147, f, J, RP f sw)) : wp G (d + 60) (mt 200) 0 (en (mt 200) [.ref 93, .int (Int32.ofNat s), .int (Int32.ofNat m)]) [] (147, f, J, RP f sw) Q := by
  obtain ⟨r1, r2, r3, -⟩ := r4
  have h0 : J 93 19 = Int32.ofNat (I 93 19).toInt.toNat := by rw [w.1 93 (by decide) (by decide)]; exact kI_of r2
  unfold nrv at q
  refine v_MnearOf oks ?_
  refine Mdark_ok (by omega) h0 ⟨_, _, rfl, rfl, ?_⟩
  rw [w.1 109 (by decide) (by decide), w.1 110 (by decide) (by decide), w.1 111 (by decide) (by decide)]
  have go : ∀ g, sg I m = g → g ≤ 1000 → wp G (d + 60) (mt 200) 20 [some (.ref 93), some (.int (Int32.ofNat s)), some (.int (Int32.ofNat m)), some (.int (Int32.ofNat g)), some (.int (Int32.ofNat 9999)), some (.int (Int32.ofNat 0)), none] [] (147, f, J, RP f sw) Q := fun g hg hl => by
    rw [hg] at q
    exact Mnear_loop r w hs hm hl q (I 93 7).toInt.toNat 0 (by omega)
  unfold sg at go
  cases h1 : dk (I 109) (I 110) (I 111) 0 (Int32.ofNat m) (I 93 19).toInt.toNat with
  | true =>
    rw [h1] at go
    rw [if_neg (show ¬ b2 true = 0 by decide)]
    exact go 100 (if_pos rfl) (by omega)
  | false =>
    rw [h1] at go
    rw [if_pos (show b2 false = 0 from rfl)]
    refine Mdark_ok (by omega) h0 ⟨_, _, rfl, rfl, ?_⟩
    rw [w.1 109 (by decide) (by decide), w.1 110 (by decide) (by decide), w.1 111 (by decide) (by decide)]
    cases h2 : dk (I 109) (I 110) (I 111) 1 (Int32.ofNat m) (I 93 19).toInt.toNat with
    | true =>
      rw [h2] at go
      rw [if_neg (show ¬ b2 true = 0 by decide)]
      exact go 500 (by rw [if_neg (by decide), if_pos rfl]) (by omega)
    | false =>
      rw [h2] at go
      rw [if_pos (show b2 false = 0 from rfl)]
      exact go 1000 (by rw [if_neg (by decide), if_neg (by decide)]) (by omega)
