/-! TOKENS of the reference -/
def sgB (x : Int32) : Bool := decide (x = 59) || (decide (x = 60) || (decide (x = 62) || decide (x = 61)))
def tkM (T : Nat → Int32) (n k : Nat) : Int32 := if tS T n k < n then (if ltB T (tS T n k) = true then (if tE T n k - tS T n k ≤ 6 then 2 else 0) else if fgB T (tS T n k) = true then (if tE T n k - tS T n k ≤ 4 then 3 else 0) else if sgB (T (tS T n k)) = true then 4 else 0) else 1
def MT (T : Nat → Int32) (n k : Nat) (J : St) : Prop := J 93 65 = Int32.ofNat n ∧ J 93 66 = Int32.ofNat (tE T n k) ∧ J 93 67 = tkM T n k ∧ J 93 68 = Int32.ofNat (tS T n k) ∧ J 93 69 = Int32.ofNat (tE T n k)
def RM (I J : St) : Prop := (∀ p, p ≠ 93 → J p = I p) ∧ ∀ k, k < 66 ∨ 69 < k → J 93 k = I 93 k
theorem RM.rf {I : St} : RM I I := ⟨fun _ _ => rfl, fun _ _ => rfl⟩
theorem RM.tr {I J K : St} (a : RM I J) (b : RM J K) : RM I K := ⟨fun p h => (b.1 p h).trans (a.1 p h), fun k h => (b.2 k h).trans (a.2 k h)⟩
theorem RM.up {I J : St} {k : Nat} {x : Int32} (a : RM I J) (h0 : 66 ≤ k) (h1 : k ≤ 69) : RM I (upI J 93 k x) := ⟨fun p h => by rw [upI_row h]; exact a.1 p h, fun i h => by rw [upI_nk (by omega)]; exact a.2 i h⟩
/-- the reference's tape -/
def TM (I : St) : Prop := ∀ k, k < 400 → 0 ≤ (I 140 k).toInt ∧ (I 140 k).toInt ≤ 255
theorem Mgap {G : GX} {d f : Nat} {sw : Bool} {I : St} {n s : Nat} {Q : Option Value → Hp → Prop} (hn : n ≤ 400) (q : ∀ J, RM I J → J 93 66 = Int32.ofNat (av (gpB (I 140)) n s) → wp G (d + 20) (mt 235) 19 [some (.ref 93), none] [] (147, f, J, RP f sw) Q) : ∀ (c k : Nat) (J : St), k + c = n → RM I J → J 93 65 = Int32.ofNat n → J 93 66 = Int32.ofNat k → av (gpB (I 140)) n s = av (gpB (I 140)) n k → wp G (d + 20) (mt 235) 0 [some (.ref 93), none] [] (147, f, J, RP f sw) Q
  | 0, k, J, h, w, j0, j4, e => by
    refine v_Mstep oks ?_
    rw [j0, j4, if_pos (by rw [tI_le, kI_t (by omega), kI_t (by omega)]; omega), if_pos (by rw [tI_le, kI_t (by omega), kI_t (by omega)]; omega)]
    exact q J w (by rw [j4, e, av_f (fun z => by omega)])
  | c + 1, k, J, h, w, j0, j4, e => by
    have j140 : J 140 k = I 140 k := by rw [w.1 140 (by decide)]
    have nx : gpB (I 140) k = true → wp G (d + 20) (mt 235) 0 [some (.ref 93), none] [] (147, f, upI J 93 66 (Int32.ofNat k + 1), RP f sw) Q := fun hg => by
      refine Mgap hn q c (k + 1) _ (by omega) (w.up (by decide) (by decide)) (by rw [upI_nk (by decide)]; exact j0) (by rw [upI_same, l1a]) (by rw [e, av_t (by omega) hg])
    have nle : ¬ Int32.ofNat n ≤ Int32.ofNat k := by rw [tI_le, kI_t (by omega), kI_t (by omega)]; omega
    refine v_Mstep oks ?_
    rw [j0, j4, if_neg nle, kI_c (by omega), j140, if_neg nle]
    refine ck_of (kI_x (by omega) (by omega)) ?_
    refine ite_i (fun z => ?_) (fun z => ck_of (kI_x (by omega) (by omega)) (ite_i (fun z2 => ?_) (fun z2 => ?_)))
    · exact nx (by unfold gpB; rw [z]; rfl)
    · exact nx (by unfold gpB; rw [z2]; rfl)
    · refine q J w ?_
      rw [j4, e, av_f (fun y => ?_)]
      have y2 := y.2
      unfold gpB at y2
      rw [Bool.or_eq_true, decide_eq_true_eq, decide_eq_true_eq] at y2
      rcases y2 with y2 | y2
      · exact z y2
      · exact z2 y2
theorem Mlet {G : GX} {d f : Nat} {sw : Bool} {I : St} {n s : Nat} {Q : Option Value → Hp → Prop} (hn : n ≤ 400) (q : ∀ J, RM I J → J 93 68 = I 93 68 → J 93 66 = Int32.ofNat (av (ltB (I 140)) n s) → wp G (d + 20) (mt 235) 51 [some (.ref 93), none] [] (147, f, J, RP f sw) Q) : ∀ (c k : Nat) (J : St), k + c = n → RM I J → J 93 65 = Int32.ofNat n → J 93 68 = I 93 68 → J 93 66 = Int32.ofNat k → av (ltB (I 140)) n s = av (ltB (I 140)) n k → wp G (d + 20) (mt 235) 38 [some (.ref 93), none] [] (147, f, J, RP f sw) Q
  | 0, k, J, h, w, j0, j8, j4, e => by
    refine v_Mstep38 oks ?_
    rw [j0, j4, if_pos (by rw [tI_le, kI_t (by omega), kI_t (by omega)]; omega)]
    exact q J w j8 (by rw [j4, e, av_f (fun z => by omega)])
  | c + 1, k, J, h, w, j0, j8, j4, e => by
    have j140 : J 140 k = I 140 k := by rw [w.1 140 (by decide)]
    have fin : ¬ (97 ≤ (I 140 k).toInt ∧ (I 140 k).toInt ≤ 122) → wp G (d + 20) (mt 235) 51 [some (.ref 93), none] [] (147, f, J, RP f sw) Q := fun hf => by
      refine q J w j8 ?_
      rw [j4, e, av_f (fun y => ?_)]
      have y2 := y.2
      unfold ltB at y2
      rw [Bool.and_eq_true, decide_eq_true_eq, decide_eq_true_eq] at y2
      exact hf y2
    refine v_Mstep38 oks ?_
    rw [j0, j4, if_neg (by rw [tI_le, kI_t (by omega), kI_t (by omega)]; omega), kI_c (by omega), j140]
    simp only [tI_lt, Int32.reduceToInt]
    refine ck_of (kI_x (by omega) (by omega)) ?_
    refine ite_i (fun z => fin (by omega)) (fun z => ite_i (fun z2 => fin (by omega)) (fun z2 => ?_))
    have hl : ltB (I 140) k = true := by
      unfold ltB; rw [decide_eq_true (by omega), decide_eq_true (by omega)]; rfl
    exact Mlet hn q c (k + 1) _ (by omega) (w.up (by decide) (by decide)) (by rw [upI_nk (by decide)]; exact j0) (by rw [upI_nk (by decide)]; exact j8) (by rw [upI_same, l1a]) (by rw [e, av_t (by omega) hl])
theorem Mfig {G : GX} {d f : Nat} {sw : Bool} {I : St} {n s : Nat} {Q : Option Value → Hp → Prop} (hn : n ≤ 400) (q : ∀ J, RM I J → J 93 68 = I 93 68 → J 93 66 = Int32.ofNat (av (fgB (I 140)) n s) → wp G (d + 20) (mt 235) 80 [some (.ref 93), none] [] (147, f, J, RP f sw) Q) : ∀ (c k : Nat) (J : St), k + c = n → RM I J → J 93 65 = Int32.ofNat n → J 93 68 = I 93 68 → J 93 66 = Int32.ofNat k → av (fgB (I 140)) n s = av (fgB (I 140)) n k → wp G (d + 20) (mt 235) 67 [some (.ref 93), none] [] (147, f, J, RP f sw) Q
  | 0, k, J, h, w, j0, j8, j4, e => by
    refine v_Mstep67 oks ?_
    rw [j0, j4, if_pos (by rw [tI_le, kI_t (by omega), kI_t (by omega)]; omega)]
    exact q J w j8 (by rw [j4, e, av_f (fun z => by omega)])
  | c + 1, k, J, h, w, j0, j8, j4, e => by
    have j140 : J 140 k = I 140 k := by rw [w.1 140 (by decide)]
    have fin : ¬ (48 ≤ (I 140 k).toInt ∧ (I 140 k).toInt ≤ 57) → wp G (d + 20) (mt 235) 80 [some (.ref 93), none] [] (147, f, J, RP f sw) Q := fun hf => by
      refine q J w j8 ?_
      rw [j4, e, av_f (fun y => ?_)]
      have y2 := y.2
      unfold fgB at y2
      rw [Bool.and_eq_true, decide_eq_true_eq, decide_eq_true_eq] at y2
      exact hf y2
    refine v_Mstep67 oks ?_
    rw [j0, j4, if_neg (by rw [tI_le, kI_t (by omega), kI_t (by omega)]; omega), kI_c (by omega), j140]
    simp only [tI_lt, Int32.reduceToInt]
    refine ck_of (kI_x (by omega) (by omega)) ?_
    refine ite_i (fun z => fin (by omega)) (fun z => ite_i (fun z2 => fin (by omega)) (fun z2 => ?_))
    have hl : fgB (I 140) k = true := by
      unfold fgB; rw [decide_eq_true (by omega), decide_eq_true (by omega)]; rfl
    exact Mfig hn q c (k + 1) _ (by omega) (w.up (by decide) (by decide)) (by rw [upI_nk (by decide)]; exact j0) (by rw [upI_nk (by decide)]; exact j8) (by rw [upI_same, l1a]) (by rw [e, av_t (by omega) hl])
theorem sub_n {a b : Nat} (ha : a < 2147483648) (hb : b < 2147483648) : (Int32.ofNat a - Int32.ofNat b).toInt = (a : Int) - b := by
  rw [fb_subI (by rw [kI_t ha, kI_t hb]; omega) (by rw [kI_t ha, kI_t hb]; omega), kI_t ha, kI_t hb]
theorem Mstep_ok {G : GX} {d f : Nat} {sw : Bool} {I : St} {n k : Nat} {Q : Option Value → Hp → Prop} (tm : TM I) (hn : n ≤ 400) (hk : k ≤ n) (i0 : I 93 65 = Int32.ofNat n) (i5 : I 93 66 = Int32.ofNat k) (q : ∀ J, RM I J → MT (I 140) n k J → Q none (147, f, J, RP f sw)) : wp G (d + 20) (mt 235) 0 (en (mt 235) [.ref 93]) [] (147, f, I, RP f sw) Q := by
  refine Mgap (s := k) hn (fun J w j6 => ?_) (n - k) k I (by omega) RM.rf i0 i5 rfl
  have j6 : J 93 66 = Int32.ofNat (tS (I 140) n k) := j6
  have j0 : J 93 65 = Int32.ofNat n := (w.2 65 (by decide)).trans i0
  have sl := tS_le (T := I 140) hk
  have el := tE_le (T := I 140) hk
  have tail : ∀ K, RM I K → K 93 66 = Int32.ofNat (tE (I 140) n k) → K 93 67 = tkM (I 140) n k → K 93 68 = Int32.ofNat (tS (I 140) n k) → wp G (d + 20) (mt 235) 116 [some (.ref 93), none] [] (147, f, K, RP f sw) Q := fun K r k6 k7 k8 => by
    refine v_Mstep116 oks ?_
    refine q _ (r.up (by decide) (by decide)) ⟨by rw [upI_nk (by decide), r.2 65 (by decide)]; exact i0, by rw [upI_nk (by decide)]; exact k6, by rw [upI_nk (by decide)]; exact k7, by rw [upI_nk (by decide)]; exact k8, by rw [upI_same]; exact k6⟩
  refine v_Mstep19 oks ?_
  rw [j0, j6]
  refine ite_i (fun z => ?_) (fun z => ?_)
  · rw [tI_le, kI_t (by omega), kI_t (by omega)] at z
    refine tail _ ((w.up (by decide) (by decide)).up (by decide) (by decide)) ?_ ?_ ?_
    · rw [upI_nk (by decide), upI_nk (by decide), j6]
      unfold tE; rw [if_neg (by omega)]
    · rw [upI_same]
      unfold tkM; rw [if_neg (by omega)]
    · rw [upI_nk (by decide), upI_same]
  · rw [tI_le, kI_t (by omega), kI_t (by omega)] at z
    have hs : tS (I 140) n k < n := by omega
    obtain ⟨t2, t3⟩ := tm (tS (I 140) n k) (by omega)
    have j140 : J 140 (tS (I 140) n k) = I 140 (tS (I 140) n k) := by rw [w.1 140 (by decide)]
    have u140 : ∀ x, upI J 93 68 x 140 = I 140 := fun x => by rw [upI_row (by decide), w.1 140 (by decide)]
    have cL : ltB (I 140) (tS (I 140) n k) = true ↔ (97 ≤ (I 140 (tS (I 140) n k)).toInt ∧ (I 140 (tS (I 140) n k)).toInt ≤ 122) := by
      unfold ltB; rw [Bool.and_eq_true, decide_eq_true_eq, decide_eq_true_eq]
    have cF : fgB (I 140) (tS (I 140) n k) = true ↔ (48 ≤ (I 140 (tS (I 140) n k)).toInt ∧ (I 140 (tS (I 140) n k)).toInt ≤ 57) := by
      unfold fgB; rw [Bool.and_eq_true, decide_eq_true_eq, decide_eq_true_eq]
    have oth : ¬ ltB (I 140) (tS (I 140) n k) = true → ¬ fgB (I 140) (tS (I 140) n k) = true → wp G (d + 20) (mt 235) 93 [some (.ref 93), some (.int (I 140 (tS (I 140) n k)))] [] (147, f, upI J 93 68 (Int32.ofNat (tS (I 140) n k)), RP f sw) Q := fun h1 h2 => by
      have ee : tE (I 140) n k = tS (I 140) n k + 1 := by unfold tE; rw [if_pos hs, if_neg h1, if_neg h2]
      have go : ∀ x : Int32, (x = if sgB (I 140 (tS (I 140) n k)) = true then 4 else 0) → wp G (d + 20) (mt 235) 116 [some (.ref 93), none] [] (147, f, upI (upI (upI J 93 68 (Int32.ofNat (tS (I 140) n k))) 93 66 (Int32.ofNat (tS (I 140) n k) + 1)) 93 67 x, RP f sw) Q := fun x hx => by
        refine tail _ (((w.up (by decide) (by decide)).up (by decide) (by decide)).up (by decide) (by decide)) ?_ ?_ ?_
        · rw [upI_nk (by decide), upI_same, l1a, ee]
        · rw [upI_same, hx]
          unfold tkM; rw [if_pos hs, if_neg h1, if_neg h2]
        · rw [upI_nk (by decide), upI_nk (by decide), upI_same]
      refine v_Mstep93 oks ?_
      rw [show upI J 93 68 (Int32.ofNat (tS (I 140) n k)) 93 66 = Int32.ofNat (tS (I 140) n k) by rw [upI_nk (by decide)]; exact j6]
      refine ite_i (fun z1 => ?_) (fun z1 => ite_i (fun z2 => ?_) (fun z2 => ite_i (fun z3 => ?_) (fun z3 => ite_i (fun z4 => ?_) (fun z4 => ?_))))
      · exact go 4 (by rw [z1]; rfl)
      · exact go 4 (by rw [z2]; rfl)
      · exact go 4 (by rw [z3]; rfl)
      · exact go 4 (by rw [z4]; rfl)
      · refine go 0 ?_
        unfold sgB
        rw [decide_eq_false z1, decide_eq_false z2, decide_eq_false z3, decide_eq_false z4]; rfl
    have fig : ¬ ltB (I 140) (tS (I 140) n k) = true → fgB (I 140) (tS (I 140) n k) = true → wp G (d + 20) (mt 235) 67 [some (.ref 93), none] [] (147, f, upI J 93 68 (Int32.ofNat (tS (I 140) n k)), RP f sw) Q := fun h1 h2 => by
      have ee : tE (I 140) n k = av (fgB (I 140)) n (tS (I 140) n k) := by unfold tE; rw [if_pos hs, if_neg h1, if_pos h2]
      refine Mfig (I := upI J 93 68 (Int32.ofNat (tS (I 140) n k))) (n := n) (s := tS (I 140) n k) hn (fun K r k8 k6 => ?_) (n - tS (I 140) n k) _ _ (by omega) RM.rf (by rw [upI_nk (by decide)]; exact j0) rfl (by rw [upI_nk (by decide)]; exact j6) rfl
      rw [u140, ← ee] at k6
      rw [upI_same] at k8
      have rK := (w.up (k := 68) (x := Int32.ofNat (tS (I 140) n k)) (by decide) (by decide)).tr r
      refine v_Mstep80 oks ?_
      rw [k6, k8]
      simp only [tI_le, sub_n (show tE (I 140) n k < 2147483648 by omega) (show tS (I 140) n k < 2147483648 by omega), Int32.reduceToInt]
      refine ite_i (fun y => ?_) (fun y => ?_)
      · refine tail _ (rK.up (by decide) (by decide)) (by rw [upI_nk (by decide)]; exact k6) ?_ (by rw [upI_nk (by decide)]; exact k8)
        rw [upI_same]; unfold tkM; rw [if_pos hs, if_neg h1, if_pos h2, if_pos (by omega)]
      · refine tail _ (rK.up (by decide) (by decide)) (by rw [upI_nk (by decide)]; exact k6) ?_ (by rw [upI_nk (by decide)]; exact k8)
        rw [upI_same]; unfold tkM; rw [if_pos hs, if_neg h1, if_pos h2, if_neg (by omega)]
    have let' : ltB (I 140) (tS (I 140) n k) = true → wp G (d + 20) (mt 235) 38 [some (.ref 93), none] [] (147, f, upI J 93 68 (Int32.ofNat (tS (I 140) n k)), RP f sw) Q := fun h1 => by
      have ee : tE (I 140) n k = av (ltB (I 140)) n (tS (I 140) n k) := by unfold tE; rw [if_pos hs, if_pos h1]
      refine Mlet (I := upI J 93 68 (Int32.ofNat (tS (I 140) n k))) (n := n) (s := tS (I 140) n k) hn (fun K r k8 k6 => ?_) (n - tS (I 140) n k) _ _ (by omega) RM.rf (by rw [upI_nk (by decide)]; exact j0) rfl (by rw [upI_nk (by decide)]; exact j6) rfl
      rw [u140, ← ee] at k6
      rw [upI_same] at k8
      have rK := (w.up (k := 68) (x := Int32.ofNat (tS (I 140) n k)) (by decide) (by decide)).tr r
      refine v_Mstep51 oks ?_
      rw [k6, k8]
      simp only [tI_le, sub_n (show tE (I 140) n k < 2147483648 by omega) (show tS (I 140) n k < 2147483648 by omega), Int32.reduceToInt]
      refine ite_i (fun y => ?_) (fun y => ?_)
      · refine tail _ (rK.up (by decide) (by decide)) (by rw [upI_nk (by decide)]; exact k6) ?_ (by rw [upI_nk (by decide)]; exact k8)
        rw [upI_same]; unfold tkM; rw [if_pos hs, if_pos h1, if_pos (by omega)]
      · refine tail _ (rK.up (by decide) (by decide)) (by rw [upI_nk (by decide)]; exact k6) ?_ (by rw [upI_nk (by decide)]; exact k8)
        rw [upI_same]; unfold tkM; rw [if_pos hs, if_pos h1, if_neg (by omega)]
    rw [kI_c (by omega), j140]
    simp only [tI_lt, Int32.reduceToInt, tI_eq (I 140 (tS (I 140) n k))]
    refine ck_of (kI_x (by omega) (by omega)) ?_
    repeat' (refine ite_i (fun _ => ?_) (fun _ => ?_))
    all_goals first
      | (exfalso; omega)
      | exact oth (fun y => by have := cL.mp y; omega) (fun y => by have := cF.mp y; omega)
      | exact fig (fun y => by have := cL.mp y; omega) (cF.mpr (by omega))
      | exact let' (cL.mpr (by omega))
/-- the number that m letters from s on spell -/
def wN (T : Nat → Int32) (s : Nat) : Nat → Nat
  | 0 => 0
  | m + 1 => 256 * wN T s m + (T (s + m)).toInt.toNat
theorem wN_s (T : Nat → Int32) (s m : Nat) : wN T s (m + 1) = 256 * wN T s m + (T (s + m)).toInt.toNat := rfl
theorem wN_lt {T : Nat → Int32} {s : Nat} : ∀ {m : Nat}, (∀ i, i < m → 0 ≤ (T (s + i)).toInt ∧ (T (s + i)).toInt ≤ 255) → wN T s m < 256 ^ m
  | 0, _ => Nat.one_pos
  | m + 1, h => by
    have ih := wN_lt (m := m) (fun i hi => h i (by omega))
    have q := h m (by omega)
    rw [wN_s, Nat.pow_succ]
    omega
theorem wN_inj {T U : Nat → Int32} {s t : Nat} : ∀ {m l : Nat}, (∀ i, i < m → 1 ≤ (T (s + i)).toInt ∧ (T (s + i)).toInt ≤ 255) → (∀ i, i < l → 1 ≤ (U (t + i)).toInt ∧ (U (t + i)).toInt ≤ 255) → wN T s m = wN U t l → m = l ∧ ∀ i, i < m → T (s + i) = U (t + i)
  | 0, 0, _, _, _ => ⟨rfl, fun i hi => by omega⟩
  | 0, l + 1, _, h2, h => by
    have q := h2 l (by omega)
    rw [wN_s] at h
    have h : 0 = 256 * wN U t l + (U (t + l)).toInt.toNat := h
    omega
  | m + 1, 0, h1, _, h => by
    have q := h1 m (by omega)
    rw [wN_s] at h
    have h : 256 * wN T s m + (T (s + m)).toInt.toNat = 0 := h
    omega
  | m + 1, l + 1, h1, h2, h => by
    have q1 := h1 m (by omega)
    have q2 := h2 l (by omega)
    rw [wN_s, wN_s] at h
    have e1 : wN T s m = wN U t l := by omega
    have e2 : (T (s + m)).toInt = (U (t + l)).toInt := by omega
    obtain ⟨a, b⟩ := wN_inj (m := m) (l := l) (fun i hi => h1 i (by omega)) (fun i hi => h2 i (by omega)) e1
    subst a
    refine ⟨rfl, fun i hi => ?_⟩
    by_cases e : i = m
    · rw [e, tI_eq]; exact e2
    · exact b i (by omega)
theorem sh8 {a b : Nat} (ha : a < 2 ^ 48) (hb : b < 256) : (Int64.ofNat a <<< ((8 : Int32).toInt64 &&& 63)) ||| (Int32.ofNat b).toInt64 = Int64.ofNat (256 * a + b) := by
  have eb : (Int32.ofNat b).toInt64 = Int64.ofNat b := by
    apply Int64.toInt_inj.mp
    rw [w64, kI_t (by omega), Int64.toInt_ofNat_of_lt (by omega)]
  rw [eb]
  apply Int64.toBitVec_inj.mp
  rw [Int64.toBitVec_or, Int64.toBitVec_shiftLeft]
  have e8 : ((8 : Int32).toInt64 &&& 63).toBitVec.smod 64 = 8#64 := by decide
  rw [e8]
  apply BitVec.eq_of_getLsbD_eq
  intro i hi
  rw [BitVec.getLsbD_or, Int64.toBitVec_ofNat', Int64.toBitVec_ofNat', Int64.toBitVec_ofNat']
  rw [show (BitVec.ofNat 64 a <<< (8#64)) = (BitVec.ofNat 64 a <<< (8 : Nat)) from rfl, BitVec.getLsbD_shiftLeft, BitVec.getLsbD_ofNat, BitVec.getLsbD_ofNat, BitVec.getLsbD_ofNat]
  rw [show 256 * a + b = 2 ^ 8 * a + b from rfl, Nat.testBit_two_pow_mul_add a (show b < 2 ^ 8 from hb)]
  by_cases c : i < 8
  · rw [if_pos c]
    simp [c, hi]
  · rw [if_neg c]
    have bz : b.testBit i = false := Nat.testBit_lt_two_pow (Nat.lt_of_lt_of_le (show b < 2 ^ 8 from hb) (Nat.pow_le_pow_right (by decide : 2 > 0) (show 8 ≤ i by omega)))
    simp [c, hi, bz]
    omega
def wV (T : Nat → Int32) (n k : Nat) : Nat := if tkM T n k = 2 then wN T (tS T n k) (tE T n k - tS T n k) else 0
theorem nm_iff {T : Nat → Int32} {n k : Nat} (hk : k ≤ n) (h : tkM T n k = 2) : tS T n k < n ∧ tE T n k - tS T n k ≤ 6 ∧ ∀ i, tS T n k ≤ i → i < tE T n k → 97 ≤ (T i).toInt ∧ (T i).toInt ≤ 122 := by
  have sl := tS_le (T := T) hk
  unfold tkM at h
  by_cases c1 : tS T n k < n
  · rw [if_pos c1] at h
    by_cases c2 : ltB T (tS T n k) = true
    · rw [if_pos c2] at h
      by_cases c3 : tE T n k - tS T n k ≤ 6
      · refine ⟨c1, c3, ?_⟩
        have ee : tE T n k = av (ltB T) n (tS T n k) := by unfold tE; rw [if_pos c1, if_pos c2]
        have w := av_le (P := ltB T) (n := n) (n - tS T n k) (tS T n k) (by omega)
        intro i i1 i2
        rw [ee] at i2
        have x := w.2.2.1 i i1 i2
        unfold ltB at x
        rw [Bool.and_eq_true, decide_eq_true_eq, decide_eq_true_eq] at x
        exact x
      · rw [if_neg c3] at h
        exact absurd h (by decide)
    · rw [if_neg c2] at h
      by_cases c3 : fgB T (tS T n k) = true
      · rw [if_pos c3] at h
        by_cases c4 : tE T n k - tS T n k ≤ 4
        · rw [if_pos c4] at h; exact absurd h (by decide)
        · rw [if_neg c4] at h; exact absurd h (by decide)
      · rw [if_neg c3] at h
        by_cases c4 : sgB (T (tS T n k)) = true
        · rw [if_pos c4] at h; exact absurd h (by decide)
        · rw [if_neg c4] at h; exact absurd h (by decide)
  · rw [if_neg c1] at h
    exact absurd h (by decide)
theorem word_loop {G : GX} {d f : Nat} {sw : Bool} {J : St} {n k : Nat} {Q : Option Value → Hp → Prop} (hn : n ≤ 400) (hk : k ≤ n) (mt' : MT (J 140) n k J) (h2 : tkM (J 140) n k = 2) (q : Q (some (.long (Int64.ofNat (wV (J 140) n k)))) (147, f, J, RP f sw)) : ∀ (c j : Nat), j + c = tE (J 140) n k - tS (J 140) n k → wp G (d + 20) (mt 240) 5 [some (.ref 93), some (.long (Int64.ofNat (wN (J 140) (tS (J 140) n k) j))), none, some (.int (Int32.ofNat (tS (J 140) n k + j)))] [] (147, f, J, RP f sw) Q
  | c, j, h => by
    obtain ⟨m0, m6, m7, m8, m9⟩ := id mt'
    have sl := tS_le (T := J 140) hk
    have el := tE_le (T := J 140) hk
    have nn := nm_iff hk h2
    match c, h with
    | 0, h =>
      have e : j = tE (J 140) n k - tS (J 140) n k := by omega
      refine v_Mword5 oks ?_
      rw [m9, if_pos (by rw [tI_le, kI_t (by omega), kI_t (by omega)]; omega)]
      unfold wV at q
      rw [if_pos h2, ← e] at q
      exact q
    | c + 1, h =>
      have ih := word_loop (G := G) (d := d) hn hk mt' h2 q c (j + 1) (by omega)
      have w := nn.2.2 (tS (J 140) n k + j) (by omega) (by omega)
      have lt := wN_lt (T := J 140) (s := tS (J 140) n k) (m := j) (fun i hi => by have := nn.2.2 (tS (J 140) n k + i) (by omega) (by omega); omega)
      have lt2 : (256 : Nat) ^ j ≤ 256 ^ 6 := Nat.pow_le_pow_right (by decide) (by omega)
      refine v_Mword5 oks ?_
      rw [m9, m7, if_neg (by rw [tI_le, kI_t (by omega), kI_t (by omega)]; omega), if_pos h2, kI_1, kI_c (by omega)]
      refine ck_of (kI_x (by omega) (by omega)) ?_
      have e : (Int64.ofNat (wN (J 140) (tS (J 140) n k) j) <<< ((8 : Int32).toInt64 &&& 63)) ||| (J 140 (tS (J 140) n k + j)).toInt64 = Int64.ofNat (wN (J 140) (tS (J 140) n k) (j + 1)) := by
        have eo : J 140 (tS (J 140) n k + j) = Int32.ofNat (J 140 (tS (J 140) n k + j)).toInt.toNat := kI_of (by omega)
        rw [wN_s, eo, sh8 (by omega) (by omega), kI_t (by omega)]
        rfl
      rw [e]
      exact ih
theorem word_ok {G : GX} {d f : Nat} {sw : Bool} {J : St} {n k : Nat} {Q : Option Value → Hp → Prop} (hn : n ≤ 400) (hk : k ≤ n) (mt' : MT (J 140) n k J) (q : Q (some (.long (Int64.ofNat (wV (J 140) n k)))) (147, f, J, RP f sw)) : wp G (d + 20) (mt 240) 0 (en (mt 240) [.ref 93]) [] (147, f, J, RP f sw) Q := by
  obtain ⟨m0, m6, m7, m8, m9⟩ := id mt'
  refine v_Mword oks ?_
  rw [m8]
  by_cases h2 : tkM (J 140) n k = 2
  · exact word_loop hn hk mt' h2 q (tE (J 140) n k - tS (J 140) n k) 0 (by omega)
  · unfold wV at q
    rw [if_neg h2] at q
    refine v_Mword5 oks ?_
    rw [m7, if_neg h2]
    exact ite_i (fun _ => q) (fun _ => q)
theorem lc0 (x y : Int64) : (lg_cmp x y = 0) ↔ x = y := by
  have h1 := lc_lt x y
  have h2 := lc_gt x y
  constructor
  · intro h
    rw [h] at h1 h2
    have a : ¬ x < y := fun z => absurd (h1.mpr z) (by decide)
    have b : ¬ y < x := fun z => absurd (h2.mpr z) (by decide)
    rw [Int64.lt_iff_toInt_lt] at a b
    apply Int64.toInt_inj.mp
    omega
  · intro h
    subst h
    unfold lg_cmp
    rw [if_neg (by exact fun z => Int64.lt_irrefl z), if_pos rfl]
/-- the words' numbers -/
def stW (i : Nat) : Nat := wN (fun j => (stL.getD i []).getD j 0) 0 (stL.getD i []).length
def isNm (i : Nat) : Bool := decide (i < 6) || (decide (9 ≤ i) && decide (i < 15))
theorem st_let : ∀ i, i < 16 → isNm i = true → ∀ j, j < (stL.getD i []).length → 97 ≤ ((stL.getD i []).getD j 0).toInt ∧ ((stL.getD i []).getD j 0).toInt ≤ 122 := by decide
theorem st_W : ∀ i, i < 16 → isNm i = true → 0 < stW i ∧ stW i < 256 ^ 5 := by decide
theorem wd_eq {T : Nat → Int32} {n k : Nat} (hk : k ≤ n) (i : Nat) (hi : i < 16) (hm : isNm i = true) : wV T n k = stW i ↔ rdB T n k i = true := by
  have sl := tS_le (T := T) hk
  have el := tE_le (T := T) hk
  have l5 := stl i hi
  have le := st_let i hi hm
  constructor
  · intro h
    have h0 := (st_W i hi hm).1
    unfold wV at h
    by_cases c : tkM T n k = 2
    · rw [if_pos c] at h
      have nn := nm_iff hk c
      have q := wN_inj (T := T) (U := fun j => (stL.getD i []).getD j 0) (s := tS T n k) (t := 0) (fun j hj => by have := nn.2.2 (tS T n k + j) (by omega) (by omega); omega) (fun j hj => by have := le j hj; simp only [Nat.zero_add]; omega) h
      refine rd_iff.mpr ⟨q.1, fun j hj => ?_⟩
      have := q.2 j hj
      simp only [Nat.zero_add] at this
      exact this
    · rw [if_neg c] at h
      omega
  · intro h
    obtain ⟨h1, h2⟩ := rd_iff.mp h
    have hs : tS T n k < n := by
      rcases Nat.lt_or_ge (tS T n k) n with z | z
      · exact z
      · have : tE T n k ≤ n := el.2.1
        omega
    have a0 := h2 0 (by omega)
    have b0 := le 0 (by omega)
    rw [Nat.add_zero] at a0
    have hl : ltB T (tS T n k) = true := by
      unfold ltB; rw [a0, decide_eq_true b0.1, decide_eq_true b0.2]; rfl
    have c : tkM T n k = 2 := by
      unfold tkM; rw [if_pos hs, if_pos hl, if_pos (by omega)]
    unfold wV stW
    rw [if_pos c, h1]
    have cg : ∀ m, m ≤ tE T n k - tS T n k → wN T (tS T n k) m = wN (fun j => (stL.getD i []).getD j 0) 0 m := fun m => by
      induction m with
      | zero => intro _; rfl
      | succ m ih =>
        intro hm2
        rw [wN_s, wN_s, ih (by omega), h2 m (by omega), Nat.zero_add]
    exact cg _ (by omega)
/-- a comparison of the token's word with a constant -/
theorem wd_c {T : Nat → Int32} {n k : Nat} (hk : k ≤ n) (i : Nat) (C : Int64) (hi : i < 16) (hm : isNm i = true) (hC : C = Int64.ofNat (stW i)) : (lg_cmp (Int64.ofNat (wV T n k)) C = 0) = (rdB T n k i = true) := by
  apply propext
  rw [lc0, hC, ← wd_eq hk i hi hm]
  have w2 := (st_W i hi hm).2
  have w1 : wV T n k < 2 ^ 63 := by
    unfold wV
    by_cases c : tkM T n k = 2
    · rw [if_pos c]
      have nn := nm_iff hk c
      have lt := wN_lt (T := T) (s := tS T n k) (m := tE T n k - tS T n k) (fun i hi => by have := nn.2.2 (tS T n k + i) (by omega) (by omega); omega)
      have lt2 : (256 : Nat) ^ (tE T n k - tS T n k) ≤ 256 ^ 6 := Nat.pow_le_pow_right (by decide) nn.2.1
      omega
    · rw [if_neg c]; omega
  constructor
  · intro h
    have := congrArg Int64.toInt h
    rw [Int64.toInt_ofNat_of_lt (by omega), Int64.toInt_ofNat_of_lt (by omega)] at this
    omega
  · intro h; rw [h]
theorem wrd_t {T : Nat → Int32} {n k : Nat} {C : Int64} (hk : k ≤ n) (i : Nat) (hi : i < 16) (hm : isNm i = true) (hC : C = Int64.ofNat (stW i)) (h : lg_cmp (Int64.ofNat (wV T n k)) C = 0) : rdB T n k i = true := Eq.mp (wd_c hk i C hi hm hC) h
theorem wrd_n {T : Nat → Int32} {n k : Nat} {C : Int64} (hk : k ≤ n) (i : Nat) (hi : i < 16) (hm : isNm i = true) (hC : C = Int64.ofNat (stW i)) (h : ¬ lg_cmp (Int64.ofNat (wV T n k)) C = 0) : ¬ rdB T n k i = true := fun z => h (Eq.mpr (wd_c hk i C hi hm hC) z)
