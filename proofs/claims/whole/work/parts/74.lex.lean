/-! TOKENS of the tape -/
def adv (P : Nat → Bool) (n : Nat) : Nat → Nat → Nat
  | 0, k => k
  | c + 1, k => if k < n ∧ P k = true then adv P n c (k + 1) else k
/-- from k on as long as P holds -/
def av (P : Nat → Bool) (n k : Nat) : Nat := adv P n (n - k) k
theorem av_t {P : Nat → Bool} {n k : Nat} (h : k < n) (hp : P k = true) : av P n k = av P n (k + 1) := by
  unfold av
  rw [show n - k = (n - (k + 1)) + 1 by omega]
  show (if k < n ∧ P k = true then adv P n (n - (k + 1)) (k + 1) else k) = _
  rw [if_pos ⟨h, hp⟩]
theorem av_f {P : Nat → Bool} {n k : Nat} (h : ¬ (k < n ∧ P k = true)) : av P n k = k := by
  unfold av
  cases n - k with
  | zero => rfl
  | succ c =>
    show (if k < n ∧ P k = true then adv P n c (k + 1) else k) = _
    rw [if_neg h]
theorem av_le {P : Nat → Bool} {n : Nat} : ∀ (c k : Nat), k + c = n → k ≤ av P n k ∧ av P n k ≤ n ∧ (∀ i, k ≤ i → i < av P n k → P i = true) ∧ ¬ (av P n k < n ∧ P (av P n k) = true)
  | 0, k, h => by
    rw [av_f (fun z => by omega)]
    exact ⟨Nat.le_refl _, by omega, fun i h1 h2 => by omega, fun z => by omega⟩
  | c + 1, k, h => by
    by_cases hp : P k = true
    · rw [av_t (by omega) hp]
      have ih := av_le (P := P) (n := n) c (k + 1) (by omega)
      refine ⟨by omega, ih.2.1, fun i h1 h2 => ?_, ih.2.2.2⟩
      by_cases e : i = k
      · rw [e]; exact hp
      · exact ih.2.2.1 i (by omega) h2
    · rw [av_f (fun z => hp z.2)]
      exact ⟨Nat.le_refl _, by omega, fun i h1 h2 => by omega, fun z => hp z.2⟩
def gpB (T : Nat → Int32) (k : Nat) : Bool := decide (T k = 32) || decide (T k = 10)
def ltB (T : Nat → Int32) (k : Nat) : Bool := decide (97 ≤ (T k).toInt) && decide ((T k).toInt ≤ 122)
def fgB (T : Nat → Int32) (k : Nat) : Bool := decide (48 ≤ (T k).toInt) && decide ((T k).toInt ≤ 57)
/-- where the token begins that is found from k on, and where it ends -/
def tS (T : Nat → Int32) (n k : Nat) : Nat := av (gpB T) n k
def tE (T : Nat → Int32) (n k : Nat) : Nat := if tS T n k < n then (if ltB T (tS T n k) = true then av (ltB T) n (tS T n k) else if fgB T (tS T n k) = true then av (fgB T) n (tS T n k) else tS T n k + 1) else tS T n k
def tL (T : Nat → Int32) (n k : Nat) : List Int32 := (List.range (tE T n k - tS T n k)).map (fun i => T (tS T n k + i))
def rdB (T : Nat → Int32) (n k i : Nat) : Bool := decide (tL T n k = stL.getD i [])
def nuB (T : Nat → Int32) (n k : Nat) : Bool := decide (tS T n k < n) && (fgB T (tS T n k) && decide (tE T n k - tS T n k ≤ 4))
theorem tS_le {T : Nat → Int32} {n k : Nat} (h : k ≤ n) : k ≤ tS T n k ∧ tS T n k ≤ n := by
  have q := av_le (P := gpB T) (n := n) (n - k) k (by omega)
  exact ⟨q.1, q.2.1⟩
theorem tE_le {T : Nat → Int32} {n k : Nat} (h : k ≤ n) : tS T n k ≤ tE T n k ∧ tE T n k ≤ n ∧ (tS T n k < n → tS T n k < tE T n k) := by
  have q := tS_le (T := T) h
  unfold tE
  by_cases c : tS T n k < n
  · rw [if_pos c]
    by_cases c2 : ltB T (tS T n k) = true
    · rw [if_pos c2]
      have w := av_le (P := ltB T) (n := n) (n - (tS T n k + 1)) (tS T n k + 1) (by omega)
      rw [av_t c c2]
      omega
    · rw [if_neg c2]
      by_cases c3 : fgB T (tS T n k) = true
      · rw [if_pos c3]
        have w := av_le (P := fgB T) (n := n) (n - (tS T n k + 1)) (tS T n k + 1) (by omega)
        rw [av_t c c3]
        omega
      · rw [if_neg c3]; omega
  · rw [if_neg c]; omega
/-- the tape: the class's bytes and the reference's -/
def TP (I : St) : Prop := ∀ k, k < 400 → I 62 k = (I 140 k).toInt8.toInt32 ∧ 0 ≤ (I 140 k).toInt ∧ (I 140 k).toInt ≤ 255
theorem c8n : ∀ n, n < 256 → ((Int32.ofNat n).toInt8.toInt32).toInt = (if n < 128 then (n : Int) else (n : Int) - 256) := by decide +kernel
theorem c8 {x : Int32} (h0 : 0 ≤ x.toInt) (h1 : x.toInt ≤ 255) : (x.toInt8.toInt32).toInt = (if x.toInt < 128 then x.toInt else x.toInt - 256) := by
  obtain ⟨n, hn, tn⟩ : ∃ k : Nat, x = Int32.ofNat k ∧ x.toInt = (k : Int) := ⟨x.toInt.toNat, kI_of h0, by omega⟩
  have q := c8n n (by omega)
  rw [← hn, ← tn] at q
  rw [q]
  by_cases c : n < 128
  · rw [if_pos c, if_pos (by omega)]
  · rw [if_neg c, if_neg (by omega)]
/-- a comparison of the class's byte with a small number is one of the reference's -/
theorem c8e {x : Int32} {c : Int} (h0 : 0 ≤ x.toInt) (h1 : x.toInt ≤ 255) (hc : 0 ≤ c) (hc2 : c < 128) : (x.toInt8.toInt32).toInt = c ↔ x.toInt = c := by
  rw [c8 h0 h1]
  by_cases z : x.toInt < 128
  · rw [if_pos z]
  · rw [if_neg z]; omega
/-- what the reader's token says -/
def tkC (T : Nat → Int32) (n k : Nat) : Int32 := if tS T n k = n then 0 else if nuB T n k = true then 1 else 2
/-- the reader stands at the token found from k on -/
def CT (T : Nat → Int32) (n k : Nat) (J : St) : Prop := J 61 0 = Int32.ofNat n ∧ J 61 4 = Int32.ofNat (tS T n k) ∧ J 61 5 = Int32.ofNat (tE T n k) ∧ J 61 3 = tkC T n k
/-- only the reader's token has changed -/
def RD (I J : St) : Prop := (∀ p, p ≠ 61 → J p = I p) ∧ J 61 0 = I 61 0 ∧ J 61 1 = I 61 1
theorem RD.rf {I : St} : RD I I := ⟨fun _ _ => rfl, rfl, rfl⟩
theorem RD.tr {I J K : St} (a : RD I J) (b : RD J K) : RD I K := ⟨fun p h => (b.1 p h).trans (a.1 p h), b.2.1.trans a.2.1, b.2.2.trans a.2.2⟩
theorem RD.up {I J : St} {k : Nat} {x : Int32} (a : RD I J) (h0 : k ≠ 0) (h1 : k ≠ 1) : RD I (upI J 61 k x) := ⟨fun p h => by rw [upI_row h]; exact a.1 p h, by rw [upI_nk (by omega)]; exact a.2.1, by rw [upI_nk (by omega)]; exact a.2.2⟩
theorem kI_e {a b : Nat} (ha : a < 2147483648) (hb : b < 2147483648) : (Int32.ofNat a = Int32.ofNat b) ↔ a = b := by
  constructor
  · intro h
    have := congrArg Int32.toInt h
    rw [kI_t ha, kI_t hb] at this
    omega
  · intro h; rw [h]
theorem takeL_loop {G : GX} {d f : Nat} {sw : Bool} {I : St} {n s : Nat} {Q : Option Value → Hp → Prop} (tp : TP I) (hn : n ≤ 400) (q : ∀ J, RD I J → J 61 4 = I 61 4 → J 61 5 = Int32.ofNat (av (ltB (I 140)) n s) → J 61 3 = 2 → Q none (147, f, J, RP f sw)) : ∀ (c k : Nat) (J : St), k + c = n → RD I J → J 61 0 = Int32.ofNat n → J 61 4 = I 61 4 → J 61 5 = Int32.ofNat k → av (ltB (I 140)) n s = av (ltB (I 140)) n k → wp G (d + 20) (mt 121) 0 [some (.ref 61)] [] (147, f, J, RP f sw) Q
  | 0, k, J, h, w, j0, j4, j5, e => by
    refine v_takeL oks ?_
    rw [j0, j5, if_pos (by rw [tI_le, kI_t (by omega), kI_t (by omega)]; omega)]
    refine q _ (w.up (by decide) (by decide)) (by rw [upI_nk (by decide)]; exact j4) ?_ (upI_same _ _ _ _)
    rw [upI_nk (by decide), j5, e, av_f (fun z => by omega)]
  | c + 1, k, J, h, w, j0, j4, j5, e => by
    obtain ⟨t1, t2, t3⟩ := tp k (by omega)
    have j62 : J 62 k = (I 140 k).toInt8.toInt32 := by rw [w.1 62 (by decide)]; exact t1
    have e8 := c8 t2 t3
    have fin : ltB (I 140) k = false → Q none (147, f, upI J 61 3 2, RP f sw) := fun hf => by
      refine q _ (w.up (by decide) (by decide)) (by rw [upI_nk (by decide)]; exact j4) ?_ (upI_same _ _ _ _)
      rw [upI_nk (by decide), j5, e, av_f (fun z => by rw [hf] at z; cases z.2)]
    refine v_takeL oks ?_
    rw [j0, j5, if_neg (by rw [tI_le, kI_t (by omega), kI_t (by omega)]; omega), kI_c (by omega), j62]
    refine ck_of (kI_x (by omega) (by omega)) ?_
    refine ite_i (fun z => ?_) (fun z => ite_i (fun z2 => ?_) (fun z2 => ?_))
    · rw [tI_lt, e8] at z
      simp only [Int32.reduceToInt] at z
      refine fin ?_
      unfold ltB
      by_cases y : (I 140 k).toInt < 128
      · rw [if_pos y] at z
        rw [decide_eq_false (by omega)]; rfl
      · rw [decide_eq_false (show ¬ (I 140 k).toInt ≤ 122 by omega), Bool.and_false]
    · rw [tI_lt, e8] at z2
      simp only [Int32.reduceToInt] at z2
      refine fin ?_
      unfold ltB
      by_cases y : (I 140 k).toInt < 128
      · rw [if_pos y] at z2
        rw [decide_eq_false (show ¬ (I 140 k).toInt ≤ 122 by omega), Bool.and_false]
      · rw [decide_eq_false (show ¬ (I 140 k).toInt ≤ 122 by omega), Bool.and_false]
    · rw [tI_lt, e8] at z z2
      simp only [Int32.reduceToInt] at z z2
      have hl : ltB (I 140) k = true := by
        unfold ltB
        by_cases y : (I 140 k).toInt < 128
        · rw [if_pos y] at z z2
          rw [decide_eq_true (by omega), decide_eq_true (by omega)]; rfl
        · rw [if_neg y] at z z2
          omega
      refine takeL_loop tp hn q c (k + 1) _ (by omega) (w.up (by decide) (by decide)) (by rw [upI_nk (by decide)]; exact j0) (by rw [upI_nk (by decide)]; exact j4) ?_ (by rw [e, av_t (by omega) hl])
      rw [upI_same, l1a]
theorem takeF_loop {G : GX} {d f : Nat} {sw : Bool} {I : St} {n s : Nat} {Q : Option Value → Hp → Prop} (tp : TP I) (hn : n ≤ 400) (hs : s ≤ n) (i4 : I 61 4 = Int32.ofNat s) (q : ∀ J, RD I J → J 61 4 = I 61 4 → J 61 5 = Int32.ofNat (av (fgB (I 140)) n s) → (J 61 3 = if av (fgB (I 140)) n s - s ≤ 4 then 1 else 2) → Q none (147, f, J, RP f sw)) : ∀ (c k : Nat) (J : St), k + c = n → s ≤ k → RD I J → J 61 0 = Int32.ofNat n → J 61 4 = I 61 4 → J 61 5 = Int32.ofNat k → av (fgB (I 140)) n s = av (fgB (I 140)) n k → wp G (d + 20) (mt 123) 0 [some (.ref 61)] [] (147, f, J, RP f sw) Q
  | c, k, J, h, hk, w, j0, j4, j5, e => by
    have fin : av (fgB (I 140)) n k = k → (if 4 < Int32.ofNat k - Int32.ofNat s then Q none (147, f, upI J 61 3 2, RP f sw) else Q none (147, f, upI J 61 3 1, RP f sw)) := fun hf => by
      have ek : (Int32.ofNat k - Int32.ofNat s).toInt = (k : Int) - s := by
        rw [fb_subI (by rw [kI_t (by omega), kI_t (by omega)]; omega) (by rw [kI_t (by omega), kI_t (by omega)]; omega), kI_t (by omega), kI_t (by omega)]
      simp only [tI_lt, ek, Int32.reduceToInt]
      refine ite_i (fun z => ?_) (fun z => ?_)
      · refine q _ (w.up (by decide) (by decide)) (by rw [upI_nk (by decide)]; exact j4) ?_ ?_
        · rw [upI_nk (by decide), j5, e, hf]
        · rw [upI_same, e, hf, if_neg (by omega)]
      · refine q _ (w.up (by decide) (by decide)) (by rw [upI_nk (by decide)]; exact j4) ?_ ?_
        · rw [upI_nk (by decide), j5, e, hf]
        · rw [upI_same, e, hf, if_pos (by omega)]
    match c, h with
    | 0, h =>
      refine v_takeF oks ?_
      rw [j0, j5, j4, i4, if_pos (by rw [tI_le, kI_t (by omega), kI_t (by omega)]; omega)]
      exact fin (av_f (fun z => by omega))
    | c + 1, h =>
      obtain ⟨t1, t2, t3⟩ := tp k (by omega)
      have j62 : J 62 k = (I 140 k).toInt8.toInt32 := by rw [w.1 62 (by decide)]; exact t1
      have e8 := c8 t2 t3
      refine v_takeF oks ?_
      rw [j0, j5, j4, i4, if_neg (by rw [tI_le, kI_t (by omega), kI_t (by omega)]; omega), kI_c (by omega), j62]
      refine ck_of (kI_x (by omega) (by omega)) ?_
      refine ite_i (fun z => ?_) (fun z => ite_i (fun z2 => ?_) (fun z2 => ?_))
      · rw [tI_lt, e8] at z
        simp only [Int32.reduceToInt] at z
        refine fin (av_f (fun y => ?_))
        have y2 := y.2
        unfold fgB at y2
        rw [Bool.and_eq_true, decide_eq_true_eq, decide_eq_true_eq] at y2
        rw [if_pos (by omega)] at z
        omega
      · rw [tI_lt, e8] at z2
        simp only [Int32.reduceToInt] at z2
        refine fin (av_f (fun y => ?_))
        have y2 := y.2
        unfold fgB at y2
        rw [Bool.and_eq_true, decide_eq_true_eq, decide_eq_true_eq] at y2
        rw [if_pos (by omega)] at z2
        omega
      · rw [tI_lt, e8] at z z2
        simp only [Int32.reduceToInt] at z z2
        have hl : fgB (I 140) k = true := by
          unfold fgB
          by_cases y : (I 140 k).toInt < 128
          · rw [if_pos y] at z z2
            rw [decide_eq_true (by omega), decide_eq_true (by omega)]; rfl
          · rw [if_neg y] at z z2
            omega
        refine takeF_loop tp hn hs i4 q c (k + 1) _ (by omega) (by omega) (w.up (by decide) (by decide)) (by rw [upI_nk (by decide)]; exact j0) (by rw [upI_nk (by decide)]; exact j4) ?_ (by rw [e, av_t (by omega) hl])
        rw [upI_same, l1a]
theorem next_gap {G : GX} {d f : Nat} {sw : Bool} {I : St} {n s : Nat} {Q : Option Value → Hp → Prop} (tp : TP I) (hn : n ≤ 400) (q : ∀ J, RD I J → J 61 4 = Int32.ofNat (av (gpB (I 140)) n s) → wp G (d + 40) (mt 118) 23 [some (.ref 61)] [] (147, f, J, RP f sw) Q) : ∀ (c k : Nat) (J : St), k + c = n → RD I J → J 61 0 = Int32.ofNat n → J 61 4 = Int32.ofNat k → av (gpB (I 140)) n s = av (gpB (I 140)) n k → wp G (d + 40) (mt 118) 4 [some (.ref 61)] [] (147, f, J, RP f sw) Q
  | 0, k, J, h, w, j0, j4, e => by
    refine v_next4 oks ?_
    rw [j0, j4, if_pos (by rw [tI_le, kI_t (by omega), kI_t (by omega)]; omega)]
    exact q J w (by rw [j4, e, av_f (fun z => by omega)])
  | c + 1, k, J, h, w, j0, j4, e => by
    obtain ⟨t1, t2, t3⟩ := tp k (by omega)
    have j62 : J 62 k = (I 140 k).toInt8.toInt32 := by rw [w.1 62 (by decide)]; exact t1
    have e32 := c8e (c := 32) t2 t3 (by decide) (by decide)
    have e10 := c8e (c := 10) t2 t3 (by decide) (by decide)
    have nx : gpB (I 140) k = true → wp G (d + 40) (mt 118) 4 [some (.ref 61)] [] (147, f, upI J 61 4 (Int32.ofNat k + 1), RP f sw) Q := fun hg => by
      refine next_gap tp hn q c (k + 1) _ (by omega) (w.up (by decide) (by decide)) (by rw [upI_nk (by decide)]; exact j0) (by rw [upI_same, l1a]) (by rw [e, av_t (by omega) hg])
    refine v_next4 oks ?_
    rw [j0, j4, if_neg (by rw [tI_le, kI_t (by omega), kI_t (by omega)]; omega), kI_c (by omega), j62]
    refine ck_of (kI_x (by omega) (by omega)) ?_
    refine ite_i (fun z => ?_) (fun z => ite_i (fun z2 => ?_) (fun z2 => ?_))
    · refine nx ?_
      rw [tI_eq] at z
      simp only [Int32.reduceToInt] at z
      have y : I 140 k = 32 := by rw [tI_eq]; simp only [Int32.reduceToInt]; exact e32.mp z
      unfold gpB; rw [y]; rfl
    · refine nx ?_
      rw [tI_eq] at z2
      simp only [Int32.reduceToInt] at z2
      have y : I 140 k = 10 := by rw [tI_eq]; simp only [Int32.reduceToInt]; exact e10.mp z2
      unfold gpB; rw [y]; rfl
    · refine q J w ?_
      rw [j4, e, av_f (fun y => ?_)]
      have y2 := y.2
      unfold gpB at y2
      rw [Bool.or_eq_true, decide_eq_true_eq, decide_eq_true_eq] at y2
      rcases y2 with y2 | y2
      · exact z (by rw [y2]; rfl)
      · exact z2 (by rw [y2]; rfl)
theorem nu_f {T : Nat → Int32} {n k : Nat} (h : fgB T (tS T n k) = false) : nuB T n k = false := by unfold nuB; rw [h, Bool.false_and, Bool.and_false]
theorem lt_fg {T : Nat → Int32} {k : Nat} (h : ltB T k = true) : fgB T k = false := by
  unfold ltB at h
  rw [Bool.and_eq_true, decide_eq_true_eq, decide_eq_true_eq] at h
  unfold fgB
  rw [decide_eq_false (show ¬ (T k).toInt ≤ 57 by omega), Bool.and_false]
theorem next_ok {G : GX} {d f : Nat} {sw : Bool} {I : St} {n k : Nat} {Q : Option Value → Hp → Prop} (tp : TP I) (hn : n ≤ 400) (hk : k ≤ n) (i0 : I 61 0 = Int32.ofNat n) (i5 : I 61 5 = Int32.ofNat k) (q : ∀ J, RD I J → CT (I 140) n k J → Q none (147, f, J, RP f sw)) : wp G (d + 40) (mt 118) 0 (en (mt 118) [.ref 61]) [] (147, f, I, RP f sw) Q := by
  refine v_next oks ?_
  refine next_gap (s := k) tp hn (fun J w j4 => ?_) (n - k) k _ (by omega) (RD.rf.up (by decide) (by decide)) (by rw [upI_nk (by decide)]; exact i0) (by rw [upI_same]; exact i5) rfl
  have j4 : J 61 4 = Int32.ofNat (tS (I 140) n k) := j4
  have j0 : J 61 0 = Int32.ofNat n := w.2.1.trans i0
  have sl := tS_le (T := I 140) hk
  refine v_next23 oks ?_
  rw [j0, j4]
  refine ite_i (fun z => ?_) (fun z => ?_)
  · rw [kI_e (by omega) (by omega)] at z
    refine q _ ((w.up (by decide) (by decide)).up (by decide) (by decide)) ⟨by rw [upI_nk (by decide), upI_nk (by decide)]; exact j0, by rw [upI_nk (by decide), upI_nk (by decide)]; exact j4, ?_, ?_⟩
    · rw [upI_nk (by decide), upI_same]
      unfold tE
      rw [if_neg (by omega)]
    · rw [upI_same]
      unfold tkC
      rw [if_pos z]
  · rw [kI_e (by omega) (by omega)] at z
    have hs : tS (I 140) n k < n := by omega
    obtain ⟨t1, t2, t3⟩ := tp (tS (I 140) n k) (by omega)
    have j62 : J 62 (tS (I 140) n k) = (I 140 (tS (I 140) n k)).toInt8.toInt32 := by rw [w.1 62 (by decide)]; exact t1
    have e8 := c8 t2 t3
    have tpJ : ∀ x, TP (upI J 61 5 x) := fun x i hi => by
      rw [upI_row (by decide), upI_row (by decide), w.1 62 (by decide), w.1 140 (by decide)]
      exact tp i hi
    have u140 : ∀ x, upI J 61 5 x 140 = I 140 := fun x => by rw [upI_row (by decide), w.1 140 (by decide)]
    have oth : ltB (I 140) (tS (I 140) n k) = false → fgB (I 140) (tS (I 140) n k) = false → Q none (147, f, upI (upI (upI J 61 5 (Int32.ofNat (tS (I 140) n k))) 61 3 2) 61 5 (Int32.ofNat (tS (I 140) n k) + 1), RP f sw) := fun h1 h2 => by
      refine q _ (((w.up (by decide) (by decide)).up (by decide) (by decide)).up (by decide) (by decide)) ⟨by rw [upI_nk (by decide), upI_nk (by decide), upI_nk (by decide)]; exact j0, by rw [upI_nk (by decide), upI_nk (by decide), upI_nk (by decide)]; exact j4, ?_, ?_⟩
      · rw [upI_same, l1a]
        unfold tE
        rw [if_pos hs, if_neg (by rw [h1]; decide), if_neg (by rw [h2]; decide)]
      · rw [upI_nk (by decide), upI_same]
        unfold tkC
        rw [if_neg z, if_neg (by rw [nu_f h2]; decide)]
    have fig : ltB (I 140) (tS (I 140) n k) = false → fgB (I 140) (tS (I 140) n k) = true → wp G (d + 39) (mt 123) 0 (en (mt 123) [.ref 61]) [] (147, f, upI J 61 5 (Int32.ofNat (tS (I 140) n k)), RP f sw) (fun v h1 => ∃ I1 : Nat → Nat → Int32, v = none ∧ h1 = (147, f, I1, RP f sw) ∧ (Q none (147, f, I1, RP f sw))) := fun h1 h2 => by
      have ee : tE (I 140) n k = av (fgB (I 140)) n (tS (I 140) n k) := by
        unfold tE; rw [if_pos hs, if_neg (by rw [h1]; decide), if_pos h2]
      refine takeF_loop (I := upI J 61 5 (Int32.ofNat (tS (I 140) n k))) (n := n) (s := tS (I 140) n k) (tpJ _) hn (by omega) (by rw [upI_nk (by decide)]; exact j4) (fun K r k4 k5 k3 => ⟨_, rfl, rfl, ?_⟩) (n - tS (I 140) n k) _ _ (by omega) (Nat.le_refl _) RD.rf (by rw [upI_nk (by decide)]; exact j0) rfl (upI_same _ _ _ _) rfl
      rw [u140] at k5 k3
      refine q K ((w.up (by decide) (by decide)).tr r) ⟨by rw [r.2.1, upI_nk (by decide)]; exact j0, by rw [k4, upI_nk (by decide)]; exact j4, by rw [k5, ee], ?_⟩
      rw [k3]
      unfold tkC nuB
      rw [if_neg z, h2, decide_eq_true hs, ee]
      simp only [Bool.true_and, decide_eq_true_eq]
    have let' : ltB (I 140) (tS (I 140) n k) = true → wp G (d + 39) (mt 121) 0 (en (mt 121) [.ref 61]) [] (147, f, upI J 61 5 (Int32.ofNat (tS (I 140) n k)), RP f sw) (fun v h1 => ∃ I1 : Nat → Nat → Int32, v = none ∧ h1 = (147, f, I1, RP f sw) ∧ (Q none (147, f, I1, RP f sw))) := fun h1 => by
      have ee : tE (I 140) n k = av (ltB (I 140)) n (tS (I 140) n k) := by
        unfold tE; rw [if_pos hs, if_pos h1]
      refine takeL_loop (I := upI J 61 5 (Int32.ofNat (tS (I 140) n k))) (n := n) (s := tS (I 140) n k) (tpJ _) hn (fun K r k4 k5 k3 => ⟨_, rfl, rfl, ?_⟩) (n - tS (I 140) n k) _ _ (by omega) RD.rf (by rw [upI_nk (by decide)]; exact j0) rfl (upI_same _ _ _ _) rfl
      rw [u140] at k5
      refine q K ((w.up (by decide) (by decide)).tr r) ⟨by rw [r.2.1, upI_nk (by decide)]; exact j0, by rw [k4, upI_nk (by decide)]; exact j4, by rw [k5, ee], ?_⟩
      rw [k3]
      unfold tkC
      rw [if_neg z, if_neg (by rw [nu_f (lt_fg h1)]; decide)]
    have cL : ltB (I 140) (tS (I 140) n k) = true ↔ (97 ≤ (I 140 (tS (I 140) n k)).toInt ∧ (I 140 (tS (I 140) n k)).toInt ≤ 122) := by
      unfold ltB; rw [Bool.and_eq_true, decide_eq_true_eq, decide_eq_true_eq]
    have cF : fgB (I 140) (tS (I 140) n k) = true ↔ (48 ≤ (I 140 (tS (I 140) n k)).toInt ∧ (I 140 (tS (I 140) n k)).toInt ≤ 57) := by
      unfold fgB; rw [Bool.and_eq_true, decide_eq_true_eq, decide_eq_true_eq]
    have nL : ¬ (97 ≤ (I 140 (tS (I 140) n k)).toInt ∧ (I 140 (tS (I 140) n k)).toInt ≤ 122) → ltB (I 140) (tS (I 140) n k) = false := fun h => by
      cases hb : ltB (I 140) (tS (I 140) n k) with
      | false => rfl
      | true => exact absurd (cL.mp hb) h
    have nF' : ¬ (48 ≤ (I 140 (tS (I 140) n k)).toInt ∧ (I 140 (tS (I 140) n k)).toInt ≤ 57) → fgB (I 140) (tS (I 140) n k) = false := fun h => by
      cases hb : fgB (I 140) (tS (I 140) n k) with
      | false => rfl
      | true => exact absurd (cF.mp hb) h
    rw [kI_c (by omega), j62]
    simp only [tI_lt, e8, Int32.reduceToInt]
    have cx : ixB (Int32.ofNat (tS (I 140) n k)) 400 = true := kI_x (by omega) (by omega)
    by_cases y : (I 140 (tS (I 140) n k)).toInt < 128
    · simp only [if_pos y, cx, ck]
      repeat' (refine ite_i (fun _ => ?_) (fun _ => ?_))
      all_goals first
        | exact oth (nL (by omega)) (nF' (by omega))
        | exact fig (nL (by omega)) (cF.mpr (by omega))
        | exact let' (cL.mpr (by omega))
    · simp only [if_neg y, cx, ck]
      repeat' (refine ite_i (fun _ => ?_) (fun _ => ?_))
      all_goals first
        | (exfalso; omega)
        | exact oth (nL (by omega)) (nF' (by omega))
