/-! CALLS: court, sure -/
theorem JD.ro {J K : St} {H : Nat} (h47 : ∀ k, k ≠ 0 → K 47 k = J 47 k) (h49 : K 49 = J 49) (e : ∀ p, 120 ≤ p → p ≤ 126 → K p = J p) (h : JD J H) : JD K H := by
  have fz' : fitS K H = fitS J H := by
    funext S
    unfold fitS qrF tmF wdF d2F
    rw [e 120 (by decide) (by decide), e 121 (by decide) (by decide), e 122 (by decide) (by decide), e 123 (by decide) (by decide), e 124 (by decide) (by decide), e 125 (by decide) (by decide), e 126 (by decide) (by decide)]
  unfold JD
  rw [fz', h47 5 (by decide), h47 2 (by decide), h47 3 (by decide), h47 4 (by decide), h49]
  exact h
theorem RC6.jd {f H : Nat} {I K : St} (r : RC6 f I) (h47 : K 47 1 = I 47 1) (h35 : K 93 35 = I 93 35) (hf : FJ I K) (hH : H < 2 ^ f) (jd : JD K H) : RC6 f K := by
  obtain ⟨r1, r2, r3, r4, r5, -⟩ := r
  obtain ⟨e0, e52, e⟩ := hf
  refine ⟨r1, h47.trans r2, h35.trans r3, fun k hk => ?_, fun a b ha hb hn => ?_, H, hH, jd⟩
  · rw [e0 k, e 120 (by decide) (by decide), e 121 (by decide) (by decide), e 122 (by decide) (by decide), e 123 (by decide) (by decide), e 124 (by decide) (by decide), e 125 (by decide) (by decide), e 126 (by decide) (by decide), e 127 (by decide) (by decide), e 128 (by decide) (by decide)]
    exact r4 k hk
  · have := r5 a b ha hb hn
    unfold d2F at this ⊢
    rw [e52, e 121 (by decide) (by decide), e 123 (by decide) (by decide), e 124 (by decide) (by decide), e 125 (by decide) (by decide)]
    exact this
/-- how many rivals; how many have a fact -/
def nrF (I : St) (H : Nat) : Nat := cnb (riv (fitS I H)) 4096
def wiF (I : St) (H i : Nat) : Nat := cnb (fun S => riv (fitS I H) S && S.testBit i) 4096
theorem wi_le (I : St) (H i : Nat) : wiF I H i ≤ nrF I H := cnb_mono 4096 (fun S _ h => by rw [Bool.and_eq_true] at h; exact h.1)
theorem nr_le (I : St) (H : Nat) : nrF I H ≤ 4096 := cnb_le _ _
theorem nr_pos (I : St) (H : Nat) : 0 < nrF I H := by
  rcases Nat.eq_zero_or_pos (nrF I H) with z | z
  · exfalso
    have hn := (cnb_fs 4096).mp z
    have no := fsN_non hn
    have : ∃ S, S < 4096 ∧ riv (fitS I H) S = true := by
      rcases grt_at (F := fitS I H) 4096 with y | ⟨S, y1, y2, y3⟩
      · refine ⟨0, by omega, ?_⟩
        have g := grt_ge (fit_0 I H) 4096 (by omega)
        unfold riv
        rw [fit_0, decide_eq_true (show pcN 0 = grt (fitS I H) 4096 by omega)]; rfl
      · refine ⟨S, y1, ?_⟩
        unfold riv
        rw [y2, decide_eq_true y3]; rfl
    obtain ⟨S, y1, y2⟩ := this
    rw [no S y1] at y2; cases y2
  · exact z
theorem wi_0 {I : St} {H i : Nat} (h : H.testBit i = false) : wiF I H i = 0 := by
  have : cnb (fun S => riv (fitS I H) S && S.testBit i) 4096 = cnb (fun _ => false) 4096 := cnb_cg 4096 (fun S _ => by
    cases hb : (riv (fitS I H) S && S.testBit i) with
    | false => rfl
    | true =>
      rw [Bool.and_eq_true] at hb
      have hr := hb.1
      unfold riv at hr
      rw [Bool.and_eq_true] at hr
      rw [(fit_ex hr.1).1 i hb.2] at h; cases h)
  have z : ∀ n, cnb (fun _ => false) n = 0 := fun n => by
    induction n with
    | zero => rfl
    | succ n ih => rw [cnb_s, ih]; rfl
  unfold wiF
  rw [this, z]
def sSB (I : St) (H i : Nat) : Bool := decide (wiF I H i = nrF I H)
def sOB (I : St) (H i : Nat) : Bool := decide (0 < wiF I H i ∧ wiF I H i < nrF I H)
def lbF (I : St) (H i : Nat) : Nat := if wiF I H i < nrF I H - wiF I H i then nrF I H - wiF I H i else wiF I H i
def bst (I : St) (H : Nat) : Nat → Option Nat
  | 0 => none
  | i + 1 => if sOB I H i = true then (match bst I H i with
    | none => some i
    | some b => if lbF I H i < lbF I H b then some i else some b) else bst I H i
theorem bst_n {I : St} {H i : Nat} (h : sOB I H i = true) (hb : bst I H i = none) : bst I H (i + 1) = some i := by
  rw [bst, if_pos h, hb]
theorem bst_s {I : St} {H i b : Nat} (h : sOB I H i = true) (hb : bst I H i = some b) : bst I H (i + 1) = if lbF I H i < lbF I H b then some i else some b := by
  rw [bst, if_pos h, hb]
theorem bst_f {I : St} {H i : Nat} (h : sOB I H i = false) : bst I H (i + 1) = bst I H i := by
  rw [bst, if_neg (by rw [h]; decide)]
theorem bst_lt {I : St} {H b : Nat} : ∀ {n : Nat}, bst I H n = some b → b < n
  | 0, h => by cases h
  | n + 1, h => by
    by_cases c : sOB I H n = true
    · cases hb : bst I H n with
      | none => rw [bst_n c hb] at h; have := Option.some.inj h; omega
      | some b' =>
        have := bst_lt hb
        rw [bst_s c hb] at h
        split at h
        · have := Option.some.inj h; omega
        · have := Option.some.inj h; omega
    · rw [Bool.not_eq_true] at c
      rw [bst_f c] at h
      have := bst_lt h
      omega
/-- the class's judged numbers -/
def JV (I : St) (H f : Nat) (J : St) : Prop := J 47 1 = Int32.ofNat f ∧ J 47 3 = Int32.ofNat (nrF I H) ∧ ∀ i, i < 12 → J 49 i = Int32.ofNat (wiF I H i)
theorem lb_e {I : St} {H i : Nat} : (if Int32.ofNat (wiF I H i) < Int32.ofNat (nrF I H) - Int32.ofNat (wiF I H i) then Int32.ofNat (nrF I H) - Int32.ofNat (wiF I H i) else Int32.ofNat (wiF I H i)) = Int32.ofNat (lbF I H i) := by
  have h1 := wi_le I H i
  have h2 := nr_le I H
  have e : Int32.ofNat (nrF I H) - Int32.ofNat (wiF I H i) = Int32.ofNat (nrF I H - wiF I H i) := by
    rw [tI_eq, sub_n (by omega) (by omega), kI_t (by omega)]; omega
  unfold lbF
  rw [e]
  by_cases c : wiF I H i < nrF I H - wiF I H i
  · rw [if_pos c, if_pos (by rw [tI_lt, kI_t (by omega), kI_t (by omega)]; omega)]
  · rw [if_neg c, if_neg (by rw [tI_lt, kI_t (by omega), kI_t (by omega)]; omega)]
theorem lb_e2 {I : St} {H i : Nat} : (if (Int32.ofNat (wiF I H i)).toInt < (Int32.ofNat (nrF I H) - Int32.ofNat (wiF I H i)).toInt then Int32.ofNat (nrF I H) - Int32.ofNat (wiF I H i) else Int32.ofNat (wiF I H i)) = Int32.ofNat (lbF I H i) := by
  rw [← lb_e]
  by_cases c : Int32.ofNat (wiF I H i) < Int32.ofNat (nrF I H) - Int32.ofNat (wiF I H i)
  · have c2 := c
    rw [tI_lt] at c2
    rw [if_pos c2, if_pos c]
  · have c2 := c
    rw [tI_lt] at c2
    rw [if_neg c2, if_neg c]
theorem lb_le (I : St) (H i : Nat) : lbF I H i ≤ 4096 := by
  have h1 := wi_le I H i
  have h2 := nr_le I H
  unfold lbF
  split <;> omega
theorem howMany_loop {G : GX} {d f H : Nat} {sw : Bool} {I J : St} {u : Int32} {P : Nat → Bool} {Q : Option Value → Hp → Prop} (hf : f ≤ 12) (jv : JV I H f J) (hP : (u = 2 ∧ ∀ i, P i = sSB I H i) ∨ (u = 1 ∧ ∀ i, P i = sOB I H i)) (q : Q (some (.int (Int32.ofNat (cnb P f)))) (147, f, J, RP f sw)) : ∀ (c k : Nat), k + c = f → wp G (d + 20) (mt 108) 4 [some (.ref 47), some (.int u), some (.int (Int32.ofNat (cnb P k))), some (.int (Int32.ofNat k))] [] (147, f, J, RP f sw) Q
  | 0, k, h => by
    have e : k = f := by omega
    subst e
    refine v_howMany4 oks ?_
    rw [jv.1, if_pos (by rw [tI_le]; omega)]
    exact q
  | c + 1, k, h => by
    have h1 := wi_le I H k
    have h2 := nr_le I H
    have h3 := nr_pos I H
    have ih := howMany_loop (G := G) (d := d) hf jv hP q c (k + 1) (by omega)
    rw [cnb_s] at ih
    have yes : P k = true → wp G (d + 20) (mt 108) 4 [some (.ref 47), some (.int u), some (.int (Int32.ofNat (cnb P k) + Int32.ofInt 1)), some (.int (Int32.ofNat (k + 1)))] [] (147, f, J, RP f sw) Q := fun hp => by
      rw [hp, if_pos rfl] at ih
      rw [kI_1]; exact ih
    have no : P k = false → wp G (d + 20) (mt 108) 4 [some (.ref 47), some (.int u), some (.int (Int32.ofNat (cnb P k))), some (.int (Int32.ofNat (k + 1)))] [] (147, f, J, RP f sw) Q := fun hp => by
      rw [hp, if_neg (by decide), Nat.add_zero] at ih
      exact ih
    refine v_howMany4 oks ?_
    rw [jv.1, if_neg (by rw [tI_le, kI_t (by omega), kI_t (by omega)]; omega), kI_c (by omega), jv.2.1, jv.2.2 k (by omega), kI_1 k]
    have cx : ixB (Int32.ofNat k) 12 = true := kI_x (by omega) (by omega)
    refine ck_of cx ?_
    refine ite_i (fun z => ?_) (fun z => ck_of cx (ite_i (fun z2 => ?_) (fun z2 => ?_)))
    · rw [kI_e (by omega) (by omega)] at z
      rcases hP with ⟨e, hp⟩ | ⟨e, hp⟩
      · rw [if_pos e.symm]; exact yes (by rw [hp]; unfold sSB; exact decide_eq_true z)
      · rw [if_neg (by rw [e]; decide)]; exact no (by rw [hp]; unfold sOB; exact decide_eq_false (by omega))
    · rw [kI_e (by omega) (by omega)] at z
      rw [tI_le, kI_t (by omega)] at z2
      simp only [Int32.reduceToInt] at z2
      rcases hP with ⟨e, hp⟩ | ⟨e, hp⟩
      · rw [if_neg (by rw [e]; decide)]; exact no (by rw [hp]; unfold sSB; exact decide_eq_false z)
      · rw [if_neg (by rw [e]; decide)]; exact no (by rw [hp]; unfold sOB; exact decide_eq_false (by omega))
    · rw [kI_e (by omega) (by omega)] at z
      rw [tI_le, kI_t (by omega)] at z2
      simp only [Int32.reduceToInt] at z2
      rcases hP with ⟨e, hp⟩ | ⟨e, hp⟩
      · rw [if_neg (by rw [e]; decide)]; exact no (by rw [hp]; unfold sSB; exact decide_eq_false z)
      · rw [if_pos e.symm]; exact yes (by rw [hp]; unfold sOB; exact decide_eq_true (by omega))
theorem howMany_ok {G : GX} {d f H : Nat} {sw : Bool} {I J : St} {u : Int32} {P : Nat → Bool} {Q : Option Value → Hp → Prop} (hf : f ≤ 12) (jv : JV I H f J) (hP : (u = 2 ∧ ∀ i, P i = sSB I H i) ∨ (u = 1 ∧ ∀ i, P i = sOB I H i)) (q : Q (some (.int (Int32.ofNat (cnb P f)))) (147, f, J, RP f sw)) : wp G (d + 20) (mt 108) 0 (en (mt 108) [.ref 47, .int u]) [] (147, f, J, RP f sw) Q := by
  refine v_howMany oks ?_
  exact howMany_loop hf jv hP q f 0 (by omega)
theorem clook_loop {G : GX} {d f H : Nat} {sw : Bool} {I J : St} {Q : Option Value → Hp → Prop} (hf : f ≤ 12) (jv : JV I H f J) (q : Q (some (.int (ob (bst I H f)))) (147, f, J, RP f sw)) : ∀ (c k : Nat), k + c = f → wp G (d + 20) (mt 110) 4 [some (.ref 47), some (.int (ob (bst I H k))), some (.int (Int32.ofNat k))] [] (147, f, J, RP f sw) Q
  | 0, k, h => by
    have e : k = f := by omega
    subst e
    refine v_clook4 oks ?_
    rw [jv.1, if_pos (by rw [tI_le]; omega)]
    exact q
  | c + 1, k, h => by
    have h1 := wi_le I H k
    have h2 := nr_le I H
    have h3 := nr_pos I H
    have ih := clook_loop (G := G) (d := d) hf jv q c (k + 1) (by omega)
    have cx : ixB (Int32.ofNat k) 12 = true := kI_x (by omega) (by omega)
    refine v_clook4 oks ?_
    rw [jv.1, if_neg (by rw [tI_le, kI_t (by omega), kI_t (by omega)]; omega), kI_c (show k < 2147483648 by omega), jv.2.1, jv.2.2 k (by omega), kI_1]
    refine ck_of cx ?_
    refine ite_i (fun z => ?_) (fun z => ck_of cx (ite_i (fun z2 => ?_) (fun z2 => ?_)))
    · rw [kI_e (by omega) (by omega)] at z
      rw [bst_f (by unfold sOB; exact decide_eq_false (by omega))] at ih
      exact ih
    · rw [tI_le, kI_t (by omega)] at z2
      simp only [Int32.reduceToInt] at z2
      rw [bst_f (by unfold sOB; exact decide_eq_false (by omega))] at ih
      exact ih
    · rw [kI_e (by omega) (by omega)] at z
      rw [tI_le, kI_t (by omega)] at z2
      simp only [Int32.reduceToInt] at z2
      have ho : sOB I H k = true := by unfold sOB; exact decide_eq_true (by omega)
      cases hb : bst I H k with
      | none =>
        rw [bst_n ho hb] at ih
        rw [if_pos (show ob none = -1000000 from rfl)]
        exact ih
      | some b =>
        have bl := bst_lt hb
        rw [bst_s ho hb] at ih
        have l1 := lb_le I H k
        have l2 := lb_le I H b
        rw [if_neg (ob_ne (by omega)), show ob (some b) = Int32.ofNat b from rfl, kI_c (show b < 2147483648 by omega), jv.2.2 b (by omega), lb_e, lb_e]
        refine ck_of cx (ck_of cx (ck_of (kI_x (by omega) (by omega)) (ck_of (kI_x (by omega) (by omega)) ?_)))
        refine ite_i (fun y => ?_) (fun y => ?_)
        · rw [tI_le, kI_t (by omega), kI_t (by omega)] at y
          rw [if_neg (by omega)] at ih
          exact ih
        · rw [tI_le, kI_t (by omega), kI_t (by omega)] at y
          rw [if_pos (by omega)] at ih
          exact ih
theorem clook_ok {G : GX} {d f H : Nat} {sw : Bool} {I J : St} {Q : Option Value → Hp → Prop} (hf : f ≤ 12) (jv : JV I H f J) (q : Q (some (.int (ob (bst I H f)))) (147, f, J, RP f sw)) : wp G (d + 20) (mt 110) 0 (en (mt 110) [.ref 47]) [] (147, f, J, RP f sw) Q := by
  refine v_clook oks ?_
  exact clook_loop hf jv q f 0 (by omega)
/-- what was found left by the best look -/
def lfF (I : St) (H : Nat) (o : Option Nat) : Int32 := match o with
  | none => -1000000
  | some b => Int32.ofNat (lbF I H b)
def cLv (w : Int32) (a b l v : Int32) (k : Option Value) : List (Option Value) := [some (.ref 93), none, some (.int w), some (.int a), some (.int b), some (.int l), some (.int v), k, none]
theorem Mcourt_loop {G : GX} {d f H : Nat} {sw : Bool} {I K : St} {w : Int32} {Q : Option Value → Hp → Prop} (hf : f ≤ 12) (k35 : K 93 35 = Int32.ofNat f) (md : MD I H K) (q : wp G (d + 120) (mt 227) 104 (cLv w (Int32.ofNat (cnb (sSB I H) f)) (Int32.ofNat (cnb (sOB I H) f)) (ob (bst I H f)) (lfF I H (bst I H f)) none) [] (147, f, K, RP f sw) Q) : ∀ (c k : Nat), k + c = f → wp G (d + 120) (mt 227) 27 (cLv w (Int32.ofNat (cnb (sSB I H) k)) (Int32.ofNat (cnb (sOB I H) k)) (ob (bst I H k)) (lfF I H (bst I H k)) (some (.int (Int32.ofNat k)))) [] (147, f, K, RP f sw) Q
  | 0, k, h => by
    have e : k = f := by omega
    subst e
    refine v_Mcourt27 oks ?_
    rw [k35, if_pos (by rw [tI_le]; omega)]
    exact q
  | c + 1, k, h => by
    obtain ⟨m1, m2, m3, m4, m5⟩ := id md
    have m3 : K 93 51 = Int32.ofNat (nrF I H) := m3
    have m5 : ∀ i, i < 12 → K 133 i = Int32.ofNat (wiF I H i) := m5
    have h1 := wi_le I H k
    have h2 := nr_le I H
    have h3 := nr_pos I H
    have ih := Mcourt_loop (G := G) (d := d) (w := w) hf k35 md q c (k + 1) (by omega)
    rw [cnb_s, cnb_s] at ih
    have cx : ixB (Int32.ofNat k) 12 = true := kI_x (by omega) (by omega)
    have bitw : H.testBit k = false → wiF I H k = 0 := fun hb => wi_0 hb
    have go102 : ∀ a b l v : Int32, a = Int32.ofNat (cnb (sSB I H) k + (if sSB I H k = true then 1 else 0)) → b = Int32.ofNat (cnb (sOB I H) k + (if sOB I H k = true then 1 else 0)) → l = ob (bst I H (k + 1)) → v = lfF I H (bst I H (k + 1)) → wp G (d + 120) (mt 227) 102 (cLv w a b l v (some (.int (Int32.ofNat k)))) [] (147, f, K, RP f sw) Q := fun a b l v ha hb hl hv => by
      refine v_Mcourt102 oks ?_
      rw [kI_1, ha, hb, hl, hv]
      exact ih
    have go52 : ∀ a : Int32, a = Int32.ofNat (cnb (sSB I H) k + (if sSB I H k = true then 1 else 0)) → wp G (d + 120) (mt 227) 52 (cLv w a (Int32.ofNat (cnb (sOB I H) k)) (ob (bst I H k)) (lfF I H (bst I H k)) (some (.int (Int32.ofNat k)))) [] (147, f, K, RP f sw) Q := fun a ha => by
      have no : sOB I H k = false → wp G (d + 120) (mt 227) 102 (cLv w a (Int32.ofNat (cnb (sOB I H) k)) (ob (bst I H k)) (lfF I H (bst I H k)) (some (.int (Int32.ofNat k)))) [] (147, f, K, RP f sw) Q := fun hb =>
        go102 _ _ _ _ ha (by rw [hb, if_neg (by decide), Nat.add_zero]) (by rw [bst_f hb]) (by rw [bst_f hb])
      refine v_Mcourt52 oks ?_
      rw [m1, gbN (by omega), kI_c (by omega), m5 k (by omega), m3]
      refine ite_i (fun z => ck_of cx (ite_i (fun z2 => ?_) (fun z2 => ck_of cx (ite_i (fun z3 => ?_) (fun z3 => ?_))))) (fun z => ?_)
      · rw [tI_le, kI_t (by omega)] at z2
        simp only [Int32.reduceToInt] at z2
        exact no (by unfold sOB; exact decide_eq_false (by omega))
      · rw [tI_le, kI_t (by omega), kI_t (by omega)] at z3
        exact no (by unfold sOB; exact decide_eq_false (by omega))
      · rw [tI_le, kI_t (by omega)] at z2
        simp only [Int32.reduceToInt] at z2
        rw [tI_le, kI_t (by omega), kI_t (by omega)] at z3
        have ho : sOB I H k = true := by unfold sOB; exact decide_eq_true (by omega)
        have l1 := lb_le I H k
        have b1 : Int32.ofNat (cnb (sOB I H) k) + Int32.ofInt 1 = Int32.ofNat (cnb (sOB I H) k + (if sOB I H k = true then 1 else 0)) := by rw [ho, if_pos rfl, kI_1]
        have go82 : wp G (d + 120) (mt 227) 82 [some (.ref 93), none, some (.int w), some (.int a), some (.int (Int32.ofNat (cnb (sOB I H) k) + Int32.ofInt 1)), some (.int (ob (bst I H k))), some (.int (lfF I H (bst I H k))), some (.int (Int32.ofNat k)), some (.int (Int32.ofNat (lbF I H k)))] [] (147, f, K, RP f sw) Q := by
          refine v_Mcourt82 oks ?_
          cases hb : bst I H k with
          | none =>
            rw [if_pos (show lfF I H none = -1000000 from rfl)]
            refine v_Mcourt92 oks ?_
            rw [if_pos (show lfF I H none = -1000000 from rfl)]
            exact go102 _ _ _ _ ha b1 (by rw [bst_n ho hb]; rfl) (by rw [bst_n ho hb]; rfl)
          | some b =>
            have bl := bst_lt hb
            have l2 := lb_le I H b
            have nn : ¬ lfF I H (some b) = -1000000 := ob_ne (k := lbF I H b) (by omega)
            rw [if_neg nn]
            refine ite_i (fun y => ?_) (fun y => ?_)
            · have y2 := y
              rw [show lfF I H (some b) = Int32.ofNat (lbF I H b) from rfl, tI_le, kI_t (by omega), kI_t (by omega)] at y2
              refine v_Mcourt92 oks ?_
              rw [if_neg nn, if_pos y]
              have e : bst I H (k + 1) = some b := by rw [bst_s ho hb, if_neg (by omega)]
              exact go102 _ _ _ _ ha b1 (by rw [e]) (by rw [e])
            · have y2 := y
              rw [show lfF I H (some b) = Int32.ofNat (lbF I H b) from rfl, tI_le, kI_t (by omega), kI_t (by omega)] at y2
              refine v_Mcourt92 oks ?_
              rw [if_neg nn, if_neg y]
              have e : bst I H (k + 1) = some k := by rw [bst_s ho hb, if_pos (by omega)]
              exact go102 _ _ _ _ ha b1 (by rw [e]; rfl) (by rw [e]; rfl)
        have sb : Int32.ofNat (nrF I H) - Int32.ofNat (wiF I H k) = Int32.ofNat (nrF I H - wiF I H k) := by
          rw [tI_eq, sub_n (by omega) (by omega), kI_t (by omega)]; omega
        refine v_Mcourt56 oks ?_
        rw [kI_c (by omega), m5 k (by omega), m3, sb]
        refine ck_of cx (ck_of cx (ite_i (fun y => ck_of cx ?_) (fun y => ck_of cx ?_)))
        · rw [tI_le, kI_t (by omega), kI_t (by omega)] at y
          have e : nrF I H - wiF I H k = lbF I H k := by unfold lbF; split <;> omega
          rw [e]; exact go82
        · rw [tI_le, kI_t (by omega), kI_t (by omega)] at y
          have e : wiF I H k = lbF I H k := by unfold lbF; split <;> omega
          rw [e]; exact go82
      · rw [b2_e1, Bool.not_eq_true] at z
        have := bitw z
        exact no (by unfold sOB; exact decide_eq_false (by omega))
    refine v_Mcourt27 oks ?_
    rw [k35, if_neg (by rw [tI_le, kI_t (by omega), kI_t (by omega)]; omega), m1, gbN (by omega), kI_c (by omega), m5 k (by omega), m3]
    refine ite_i (fun z => ck_of cx (ite_i (fun z2 => ?_) (fun z2 => ?_))) (fun z => ?_)
    · rw [kI_e (by omega) (by omega)] at z2
      refine go52 _ ?_
      unfold sSB
      rw [decide_eq_true z2, if_pos rfl]; exact l1a _
    · rw [kI_e (by omega) (by omega)] at z2
      refine go52 _ ?_
      rw [show sSB I H k = false from decide_eq_false z2, if_neg (by decide), Nat.add_zero]; exact Int32.add_zero _
    · rw [b2_e1, Bool.not_eq_true] at z
      have := bitw z
      refine go52 _ ?_
      rw [show sSB I H k = false from decide_eq_false (by omega), if_neg (by decide), Nat.add_zero]; exact Int32.add_zero _
theorem CJ.ag {I J : St} (h : CJ I J) : Ag [6, 11] I J := fun p k hq => by
  by_cases h1 : p = 47
  · subst h1; rw [show cmp 47 k = 6 from rfl] at hq; cases hq
  · by_cases h2 : p = 49
    · subst h2; rw [show cmp 49 k = 6 from rfl] at hq; cases hq
    · by_cases h3 : p = 50
      · subst h3; rw [show cmp 50 k = 6 from rfl] at hq; cases hq
      · by_cases h4 : p = 51
        · subst h4; rw [show cmp 51 k = 6 from rfl] at hq; cases hq
        · by_cases h5 : p = 53
          · subst h5; rw [show cmp 53 k = 6 from rfl] at hq; cases hq
          · by_cases h6 : p = 54
            · subst h6; rw [show cmp 54 k = 6 from rfl] at hq; cases hq
            · rw [h.1 p h1 h2 h3 h4 h5 h6]
theorem MJ.ag {U K : St} (m : MJ U K) : Ag [11] U K := fun p k hq => by
  by_cases h1 : p = 93
  · subst h1
    by_cases h2 : k < 49 ∨ 52 < k
    · exact m.2 k h2
    · exfalso
      have h3 : k = 49 ∨ k = 50 ∨ k = 51 ∨ k = 52 := by omega
      rcases h3 with e | e | e | e <;> (rw [e] at hq; cases hq)
  · by_cases h2 : 129 ≤ p ∧ p ≤ 133
    · exfalso
      have h3 : p = 129 ∨ p = 130 ∨ p = 131 ∨ p = 132 ∨ p = 133 := by omega
      rcases h3 with e | e | e | e | e <;> (subst e; cases hq)
    · rw [m.1 p h1 h2]
/-- the relation behind a judgement of both -/
theorem jRel {G : GX} {f H : Nat} {sw : Bool} {I J K : St} (hR : Rel G f sw I) (cj : CJ I J) (hH : H < 2 ^ f) (jd : JD J H) (m : MJ (upI J 93 0 0) K) : Rel G f sw K := by
  have r := hR.2.2.2.2.2.2.1
  have kr : ∀ p, p ≠ 93 → ¬ (129 ≤ p ∧ p ≤ 133) → K p = J p := fun p h1 h2 => by rw [m.1 p h1 h2, up93.1 p h1]
  have k35 : K 93 35 = I 93 35 := by rw [m.2 35 (by decide), up93.2 35 (by decide), cj.1 93 (by decide) (by decide) (by decide) (by decide) (by decide) (by decide)]
  have a1 : Ag [11] J K := (Ag.rf.up (show [11].contains (cmp 93 0) = true from rfl)).tr m.ag
  refine hR.upd [6, 11] (cj.ag.tr (a1.mo (fun c hc => ?_))) rfl nof nof nof nof nof (fun _ => ?_) nof nof nof nof
  · simp only [List.contains_cons, List.contains_nil, Bool.or_eq_false_iff, Bool.or_false] at hc ⊢
    exact hc.2
  · refine r.jd (by rw [kr 47 (by decide) (by omega)]; exact cj.2) k35 ⟨fun k => by rw [kr _ (by omega) (by omega)]; exact cj.fj.1 k, by rw [kr 52 (by decide) (by omega)]; exact cj.fj.2.1, fun p h1 h2 => by rw [kr p (by omega) (by omega)]; exact cj.fj.2.2 p h1 h2⟩ hH ?_
    exact jd.ro (fun k _ => by rw [kr 47 (by decide) (by omega)]) (kr 49 (by decide) (by omega)) (fun p h1 h2 => kr p (by omega) (by omega))
theorem jVals {f H : Nat} {I J : St} (r : RC6 f I) (cj : CJ I J) (jd : JD J H) : J 47 2 = Int32.ofNat (grt (fitS I H) 4096) ∧ J 47 4 = ob (fsN (riv (fitS I H)) 4096) ∧ JV I H f J := by
  have e : ∀ p, 120 ≤ p → p ≤ 128 → J p = I p := cj.fj.2.2
  have fz' : fitS J H = fitS I H := by
    funext S
    unfold fitS qrF tmF wdF d2F
    rw [e 120 (by decide) (by decide), e 121 (by decide) (by decide), e 122 (by decide) (by decide), e 123 (by decide) (by decide), e 124 (by decide) (by decide), e 125 (by decide) (by decide), e 126 (by decide) (by decide)]
  unfold JD at jd
  rw [fz'] at jd
  exact ⟨jd.2.1, jd.2.2.2.1, cj.2.trans r.2.1, jd.2.2.1, jd.2.2.2.2⟩
theorem jFU {f : Nat} {I J : St} (r : RC6 f I) (cj : CJ I J) : FU I (upI J 93 0 0) f := ⟨⟨fun k => by rw [up93.1 _ (by omega)]; exact cj.fj.1 k, by rw [up93.1 52 (by decide)]; exact cj.fj.2.1, fun p h1 h2 => by rw [up93.1 p (by omega)]; exact cj.fj.2.2 p h1 h2⟩, by rw [up93.2 35 (by decide), cj.1 93 (by decide) (by decide) (by decide) (by decide) (by decide) (by decide)]; exact r.2.2.1⟩
theorem co_court {G : GX} (y w : Int32) : CO (Rel G) G 96 227 [.int y, .int w] := fun f sw I hR => by
  have r := hR.2.2.2.2.2.2.1
  have r1 := r.1
  have hH := hrd_lt I y f
  have H4 : hrd I y f < 4096 := Nat.lt_of_lt_of_le hH (p2le r1)
  refine v_Ccourt oks ?_
  simp only [tI_lt, tI_le, Int32.reduceToInt, Int32.reduceOfNat]
  repeat' (refine ite_i (fun _ => ?_) (fun _ => ?_))
  all_goals first
    | (exfalso; omega)
    | (refine ⟨_, f, sw, I, (by first | rfl | trivial), rfl, hR.1, v_Mcourt oks ?_⟩
       try simp only [lcl, lcg, w64]
       simp only [tI_lt, tI_le, Int32.reduceToInt, Int64.reduceToInt, Int32.reduceOfNat]
       repeat' (refine ite_i (fun _ => ?_) (fun _ => ?_))
       all_goals first
         | (exfalso; omega)
         | exact ⟨_, (by first | rfl | trivial), rfl, hR.free (Ag.rf.up rfl)⟩)
    | skip
  refine heardOn_ok r ⟨_, _, rfl, rfl, ?_⟩
  refine judge_ok r hH (fun J cj jd => ⟨_, rfl, rfl, ?_⟩)
  obtain ⟨v2, v4, jv⟩ := jVals r cj jd
  have keyM : ∀ x : Int32, (w = 0 → x = Int32.ofNat (grt (fitS I (hrd I y f)) 4096)) → (w = 1 → x = Int32.ofNat (nrF I (hrd I y f))) → (w = 2 → x = Int32.ofNat (pcN (hrd I y f))) → (w = 3 → x = ob (fsN (riv (fitS I (hrd I y f))) 4096)) → (w = 4 → x = Int32.ofNat (cnb (sSB I (hrd I y f)) f)) → (w = 5 → x = Int32.ofNat (cnb (sOB I (hrd I y f)) f)) → (w = 6 → x = ob (bst I (hrd I y f) f)) → (w ≠ 0 → w ≠ 1 → w ≠ 2 → w ≠ 3 → w ≠ 4 → w ≠ 5 → w ≠ 6 → x = lfF I (hrd I y f) (bst I (hrd I y f) f)) → ∃ (x1 : Int32) (f1 : Nat) (sw1 : Bool) (I1 : Nat → Nat → Int32), some (Value.int x) = some (.int x1) ∧ ((147, f, J, RP f sw) : Hp) = (147, f1, I1, RP f1 sw1) ∧ RX G I1 ∧ wp G 999 (mt 227) 0 (en (mt 227) [.ref 93, .int y, .int w]) [] (147, f1, I1, RP f1 sw1) (fun r2 h2 => ∃ I2 : Nat → Nat → Int32, r2 = some (.int x1) ∧ h2 = (147, f1, I2, RP f1 sw1) ∧ Rel G f1 sw1 I2) := fun x h0 h1 h2 h3 h4 h5 h6 h7 => by
    refine ⟨x, f, sw, J, rfl, rfl, hR.rx cj.ag rfl, v_Mcourt oks ?_⟩
    simp only [lcl, lcg, w64]
    simp only [tI_lt, tI_le, Int32.reduceToInt, Int64.reduceToInt, Int32.reduceOfNat]
    repeat' (refine ite_i (fun _ => ?_) (fun _ => ?_))
    all_goals first
      | (exfalso; omega)
      | skip
    refine Mjudge_ok r (jFU r cj) (fun K m md => ⟨_, rfl, rfl, ?_⟩)
    have rel := jRel hR cj hH jd m
    have k35 := (m.fj (jFU r cj)).2
    refine Mcourt_loop (H := hrd I y f) (I := I) r1 k35 md ?_ f 0 (by omega)
    obtain ⟨m1, m2, m3, m4, m5⟩ := id md
    refine v_Mcourt104 oks ?_
    refine ite_i (fun z => ?_) (fun z => ite_i (fun z1 => ?_) (fun z1 => ite_i (fun z2 => ?_) (fun z2 => ite_i (fun z3 => ?_) (fun z3 => ite_i (fun z4 => ?_) (fun z4 => ite_i (fun z5 => ?_) (fun z5 => ite_i (fun z6 => ?_) (fun z6 => ?_)))))))
    · exact ⟨K, by rw [m2, h0 z], rfl, rel⟩
    · exact ⟨K, by rw [m3, h1 z1]; rfl, rfl, rel⟩
    · rw [m1]
      refine Mbits_ok ⟨_, _, rfl, rfl, K, by rw [h2 z2], rfl, rel⟩
    · exact ⟨K, by rw [m4, h3 z3], rfl, rel⟩
    · exact ⟨K, by rw [h4 z4], rfl, rel⟩
    · exact ⟨K, by rw [h5 z5], rfl, rel⟩
    · exact ⟨K, by rw [h6 z6], rfl, rel⟩
    · exact ⟨K, by rw [h7 z z1 z2 z3 z4 z5 z6], rfl, rel⟩
  have ne : ∀ a b : Int32, w = a → a ≠ b → w = b → ∀ {P : Prop}, P := fun a b h1 h2 h3 => absurd (h1.symm.trans h3) h2
  refine ite_i (fun z => ?_) (fun z => ite_i (fun z1 => ?_) (fun z1 => ite_i (fun z2 => ?_) (fun z2 => ite_i (fun z3 => ?_) (fun z3 => ite_i (fun z4 => ?_) (fun z4 => ite_i (fun z5 => ?_) (fun z5 => ite_i (fun z6 => ?_) (fun z6 => ?_)))))))
  · exact keyM _ (fun _ => v2) (fun e => ne _ _ z (by decide) e) (fun e => ne _ _ z (by decide) e) (fun e => ne _ _ z (by decide) e) (fun e => ne _ _ z (by decide) e) (fun e => ne _ _ z (by decide) e) (fun e => ne _ _ z (by decide) e) (fun e => absurd z e)
  · exact keyM _ (fun e => ne _ _ z1 (by decide) e) (fun _ => jv.2.1) (fun e => ne _ _ z1 (by decide) e) (fun e => ne _ _ z1 (by decide) e) (fun e => ne _ _ z1 (by decide) e) (fun e => ne _ _ z1 (by decide) e) (fun e => ne _ _ z1 (by decide) e) (fun _ e => absurd z1 e)
  · refine bitCount_ok H4 ⟨_, _, rfl, rfl, ?_⟩
    exact keyM _ (fun e => ne _ _ z2 (by decide) e) (fun e => ne _ _ z2 (by decide) e) (fun _ => rfl) (fun e => ne _ _ z2 (by decide) e) (fun e => ne _ _ z2 (by decide) e) (fun e => ne _ _ z2 (by decide) e) (fun e => ne _ _ z2 (by decide) e) (fun _ _ e => absurd z2 e)
  · exact keyM _ (fun e => ne _ _ z3 (by decide) e) (fun e => ne _ _ z3 (by decide) e) (fun e => ne _ _ z3 (by decide) e) (fun _ => v4) (fun e => ne _ _ z3 (by decide) e) (fun e => ne _ _ z3 (by decide) e) (fun e => ne _ _ z3 (by decide) e) (fun _ _ _ e => absurd z3 e)
  · refine howMany_ok r1 jv (Or.inl ⟨rfl, fun _ => rfl⟩) ⟨_, _, rfl, rfl, ?_⟩
    exact keyM _ (fun e => ne _ _ z4 (by decide) e) (fun e => ne _ _ z4 (by decide) e) (fun e => ne _ _ z4 (by decide) e) (fun e => ne _ _ z4 (by decide) e) (fun _ => rfl) (fun e => ne _ _ z4 (by decide) e) (fun e => ne _ _ z4 (by decide) e) (fun _ _ _ _ e => absurd z4 e)
  · refine howMany_ok r1 jv (Or.inr ⟨rfl, fun _ => rfl⟩) ⟨_, _, rfl, rfl, ?_⟩
    exact keyM _ (fun e => ne _ _ z5 (by decide) e) (fun e => ne _ _ z5 (by decide) e) (fun e => ne _ _ z5 (by decide) e) (fun e => ne _ _ z5 (by decide) e) (fun e => ne _ _ z5 (by decide) e) (fun _ => rfl) (fun e => ne _ _ z5 (by decide) e) (fun _ _ _ _ _ e => absurd z5 e)
  · refine clook_ok r1 jv ⟨_, _, rfl, rfl, ?_⟩
    exact keyM _ (fun e => ne _ _ z6 (by decide) e) (fun e => ne _ _ z6 (by decide) e) (fun e => ne _ _ z6 (by decide) e) (fun e => ne _ _ z6 (by decide) e) (fun e => ne _ _ z6 (by decide) e) (fun e => ne _ _ z6 (by decide) e) (fun _ => rfl) (fun _ _ _ _ _ _ e => absurd z6 e)
  · refine clook_ok r1 jv ⟨_, _, rfl, rfl, ?_⟩
    have key7 : ∀ x : Int32, x = lfF I (hrd I y f) (bst I (hrd I y f) f) → _ := fun x hx => keyM x (fun e => absurd e z) (fun e => absurd e z1) (fun e => absurd e z2) (fun e => absurd e z3) (fun e => absurd e z4) (fun e => absurd e z5) (fun e => absurd e z6) (fun _ _ _ _ _ _ _ => hx)
    cases hb : bst I (hrd I y f) f with
    | none =>
      rw [if_pos (show ob none = -1000000 from rfl)]
      exact key7 _ (by rw [hb]; rfl)
    | some b =>
      have bl := bst_lt hb
      rw [if_neg (ob_ne (by omega))]
      refine clook_ok r1 jv ⟨_, _, rfl, rfl, ?_⟩
      rw [hb, show ob (some b) = Int32.ofNat b from rfl, kI_c (by omega), jv.2.1, jv.2.2 b (by omega), lb_e2]
      refine ck_of (kI_x (by omega) (by omega)) (ck_of (kI_x (by omega) (by omega)) ?_)
      exact key7 _ (by rw [hb]; rfl)
theorem co_sure {G : GX} (a y : Int32) : CO (Rel G) G 113 232 [.int a, .int y] := fun f sw I hR => by
  have r := hR.2.2.2.2.2.2.1
  obtain ⟨r1, r2, r3, r4, -⟩ := id r
  have hH := hrd_lt I y f
  have e3 : (Int32.ofNat f - 1).toInt = (f : Int) - 1 := by
    rw [fb_subI (by rw [kI_t (by omega)]; simp only [Int32.reduceToInt]; omega) (by rw [kI_t (by omega)]; simp only [Int32.reduceToInt]; omega), kI_t (by omega)]; simp only [Int32.reduceToInt]
  refine v_Csure oks ?_
  rw [r2]
  simp only [tI_lt (b := (0 : Int32)), tI_lt (a := (Int32.ofNat f - 1)), tI_lt (a := (99 : Int32)), Int32.reduceToInt, e3]
  refine ite_i (fun c1 => ?_) (fun c1 => ite_i (fun c2 => ?_) (fun c2 => ite_i (fun c3 => ?_) (fun c3 => ite_i (fun c4 => ?_) (fun c4 => ?_))))
  case _ | _ | _ | _ =>
    refine ⟨_, f, sw, I, (by first | rfl | trivial), rfl, hR.1, v_Msure oks ?_⟩
    rw [r3]
    try simp only [lcl, lcg, w64]
    simp only [tI_lt, tI_le, Int32.reduceToInt, Int64.reduceToInt, Int32.reduceOfNat, e3]
    repeat' (refine ite_i (fun _ => ?_) (fun _ => ?_))
    all_goals first
      | (exfalso; omega)
      | exact ⟨_, (by first | rfl | trivial), rfl, hR.free (Ag.rf.up rfl)⟩
  obtain ⟨a0, hA, ta⟩ : ∃ k : Nat, a = Int32.ofNat k ∧ a.toInt = (k : Int) := ⟨a.toInt.toNat, kI_of (by omega), by omega⟩
  subst hA
  have af : a0 < f := by omega
  have q4 := r4 a0 af
  have keyM : ∀ (J : St) (x : Int32), (∃ H0, H0 < 2 ^ f ∧ JD J H0) → CJ I J → (hdB I y a0 = false → x = -1000000) → (hdB I y a0 = true → wiF I (hrd I y f) a0 = nrF I (hrd I y f) → x = 2) → (hdB I y a0 = true → wiF I (hrd I y f) a0 ≠ nrF I (hrd I y f) → wiF I (hrd I y f) a0 = 0 → x = 0) → (hdB I y a0 = true → wiF I (hrd I y f) a0 ≠ nrF I (hrd I y f) → wiF I (hrd I y f) a0 ≠ 0 → x = 1) → ∃ (x1 : Int32) (f1 : Nat) (sw1 : Bool) (I1 : Nat → Nat → Int32), some (Value.int x) = some (.int x1) ∧ ((147, f, J, RP f sw) : Hp) = (147, f1, I1, RP f1 sw1) ∧ RX G I1 ∧ wp G 999 (mt 232) 0 (en (mt 232) [.ref 93, .int (Int32.ofNat a0), .int y]) [] (147, f1, I1, RP f1 sw1) (fun r2 h2 => ∃ I2 : Nat → Nat → Int32, r2 = some (.int x1) ∧ h2 = (147, f1, I2, RP f1 sw1) ∧ Rel G f1 sw1 I2) := fun J x hj cj hx0 hx2 hx1 hx3 => by
    obtain ⟨H0, hH0, jd⟩ := hj
    refine ⟨x, f, sw, J, rfl, rfl, hR.rx cj.ag rfl, v_Msure oks ?_⟩
    rw [show J 93 35 = Int32.ofNat f by rw [cj.1 93 (by decide) (by decide) (by decide) (by decide) (by decide) (by decide)]; exact r3]
    simp only [lcl, lcg, w64]
    simp only [Int32.reduceToInt, Int64.reduceToInt, e3]
    refine ite_i (fun y1 => by omega) (fun y1 => ite_i (fun y2 => by omega) (fun y2 => ite_i (fun y3 => by omega) (fun y3 => ite_i (fun y4 => by omega) (fun y4 => ?_))))
    refine Mjudge_ok r (jFU r cj) (fun K m md => ⟨_, rfl, rfl, ?_⟩)
    have rel := jRel hR cj hH0 jd m
    obtain ⟨m1, m2, m3, m4, m5⟩ := id md
    have m3 : K 93 51 = Int32.ofNat (nrF I (hrd I y f)) := m3
    have m5 : ∀ i, i < 12 → K 133 i = Int32.ofNat (wiF I (hrd I y f) i) := m5
    have h1 := wi_le I (hrd I y f) a0
    have h2 := nr_le I (hrd I y f)
    have ht : (hrd I y f).testBit a0 = hdB I y a0 := by rw [hrd_t, decide_eq_true af, Bool.true_and]
    have cx : ixB (Int32.ofNat a0) 12 = true := kI_x (by omega) (by omega)
    rw [m1, gbN (by omega), ht, kI_c (by omega), m5 a0 (by omega), m3]
    refine ite_i (fun z => ?_) (fun z => ck_of cx (ite_i (fun z2 => ?_) (fun z2 => ck_of cx (ite_i (fun z3 => ?_) (fun z3 => ?_)))))
    · rw [b2_0] at z
      exact ⟨K, by rw [hx0 z], rfl, rel⟩
    · rw [b2_0, Bool.not_eq_false] at z
      rw [kI_e (by omega) (by omega)] at z2
      exact ⟨K, by rw [hx2 z z2], rfl, rel⟩
    · rw [b2_0, Bool.not_eq_false] at z
      rw [kI_e (by omega) (by omega)] at z2
      rw [tI_le, kI_t (by omega)] at z3
      simp only [Int32.reduceToInt] at z3
      exact ⟨K, by rw [hx1 z z2 (by omega)], rfl, rel⟩
    · rw [b2_0, Bool.not_eq_false] at z
      rw [kI_e (by omega) (by omega)] at z2
      rw [tI_le, kI_t (by omega)] at z3
      simp only [Int32.reduceToInt] at z3
      exact ⟨K, by rw [hx3 z z2 (by omega)], rfl, rel⟩
  have cjI : CJ I I := ⟨fun _ _ _ _ _ _ _ => rfl, rfl⟩
  have jdI : ∃ H0, H0 < 2 ^ f ∧ JD I H0 := r.2.2.2.2.2
  have no : hdB I y a0 = false → _ := fun hb => keyM I (-1000000) jdI cjI (fun _ => rfl) (fun e => by rw [hb] at e; cases e) (fun e => by rw [hb] at e; cases e) (fun e => by rw [hb] at e; cases e)
  have yes : hdB I y a0 = true → ∀ J, CJ I J → JD J (hrd I y f) → ck (ixB (Int32.ofNat a0) 12) (if (J 49 a0) = (J 47 3) then _ else ck (ixB (Int32.ofNat a0) 12) (if (J 49 a0) ≤ 0 then _ else _)) := fun hb J cj jd => by
    obtain ⟨v2, v4, jv⟩ := jVals r cj jd
    have h1 := wi_le I (hrd I y f) a0
    have h2 := nr_le I (hrd I y f)
    have cx : ixB (Int32.ofNat a0) 12 = true := kI_x (by omega) (by omega)
    rw [jv.2.1, jv.2.2 a0 (by omega)]
    refine ck_of cx (ite_i (fun z2 => ?_) (fun z2 => ck_of cx (ite_i (fun z3 => ?_) (fun z3 => ?_))))
    · rw [kI_e (by omega) (by omega)] at z2
      exact keyM J 2 ⟨_, hH, jd⟩ cj (fun e => by rw [hb] at e; cases e) (fun _ _ => rfl) (fun _ e => absurd z2 e) (fun _ e => absurd z2 e)
    · rw [kI_e (by omega) (by omega)] at z2
      rw [tI_le, kI_t (by omega)] at z3
      simp only [Int32.reduceToInt] at z3
      exact keyM J 0 ⟨_, hH, jd⟩ cj (fun e => by rw [hb] at e; cases e) (fun _ e => absurd e z2) (fun _ _ _ => rfl) (fun _ _ e => by omega)
    · rw [kI_e (by omega) (by omega)] at z2
      rw [tI_le, kI_t (by omega)] at z3
      simp only [Int32.reduceToInt] at z3
      exact keyM J 1 ⟨_, hH, jd⟩ cj (fun e => by rw [hb] at e; cases e) (fun _ e => absurd e z2) (fun _ _ e => by omega) (fun _ _ _ => rfl)
  refine ck_of (kI_x (by omega) (by omega)) ?_
  rw [kI_c (by omega), RP_fa af]
  refine ck_of (okB_fa af) (ck_of (okB_fa af) ?_)
  rw [q4.2.2.1.1, q4.2.2.2.2.2.2.2.2.1]
  refine ite_i (fun z => ?_) (fun z => ck_of (okB_fa af) (ck_of (okB_fa af) (ite_i (fun z2 => ?_) (fun z2 => ck_of (okB_fa af) (ite_i (fun z3 => ?_) (fun z3 => ?_))))))
  · rw [tI_lt] at z
    exact no (by unfold hdB; rw [decide_eq_false (by omega)]; rfl)
  · rw [tI_lt] at z
    refine heardOn_ok r ⟨_, _, rfl, rfl, ?_⟩
    refine judge_ok r hH (fun J cj jd => ⟨_, rfl, rfl, ?_⟩)
    exact yes (by unfold hdB; rw [decide_eq_true (by omega), decide_eq_true z2]; rfl) J cj jd
  · rw [tI_lt] at z
    rw [tI_le] at z3
    exact no (by unfold hdB; rw [decide_eq_false z2, decide_eq_false (show ¬ y.toInt < (I 128 a0).toInt by omega)]; exact Bool.and_false _)
  · rw [tI_lt] at z
    rw [tI_le] at z3
    refine heardOn_ok r ⟨_, _, rfl, rfl, ?_⟩
    refine judge_ok r hH (fun J cj jd => ⟨_, rfl, rfl, ?_⟩)
    exact yes (by unfold hdB; rw [decide_eq_true (show (I 127 a0).toInt ≤ y.toInt by omega), decide_eq_true (show y.toInt < (I 128 a0).toInt by omega), Bool.or_true]; rfl) J cj jd
