/-! WORDS of the tape: both sides -/
def pmB (T : Nat → Int32) (s : Nat) (x : List Int32) : Nat → Bool
  | 0 => true
  | j + 1 => pmB T s x j && decide (T (s + j) = x.getD j 0)
theorem pm_s (T : Nat → Int32) (s : Nat) (x : List Int32) (j : Nat) : pmB T s x (j + 1) = (pmB T s x j && decide (T (s + j) = x.getD j 0)) := rfl
theorem pm_iff {T : Nat → Int32} {s : Nat} {x : List Int32} : ∀ {j : Nat}, pmB T s x j = true ↔ ∀ i, i < j → T (s + i) = x.getD i 0
  | 0 => ⟨fun _ i hi => by omega, fun _ => rfl⟩
  | j + 1 => by
    rw [pm_s, Bool.and_eq_true, decide_eq_true_eq, pm_iff (j := j)]
    constructor
    · rintro ⟨h1, h2⟩ i hi
      by_cases e : i = j
      · rw [e]; exact h2
      · exact h1 i (by omega)
    · intro h
      exact ⟨fun i hi => h i (by omega), h j (by omega)⟩
theorem map_iff {f : Nat → Int32} {m : Nat} {x : List Int32} : (List.range m).map f = x ↔ m = x.length ∧ ∀ i, i < m → f i = x.getD i 0 := by
  constructor
  · intro h
    have hl : m = x.length := by rw [← h, List.length_map, List.length_range]
    refine ⟨hl, fun i hi => ?_⟩
    rw [← h, List.getD_eq_getElem?_getD, List.getElem?_map, List.getElem?_range hi]
    rfl
  · rintro ⟨hl, h⟩
    apply List.ext_getElem
    · rw [List.length_map, List.length_range]; exact hl
    · intro i h1 h2
      rw [List.length_map, List.length_range] at h1
      rw [List.getElem_map, List.getElem_range, h i h1, List.getD_eq_getElem?_getD, List.getElem?_eq_getElem h2]
      rfl
theorem rd_iff {T : Nat → Int32} {n k i : Nat} : rdB T n k i = true ↔ (tE T n k - tS T n k = (stL.getD i []).length ∧ ∀ j, j < tE T n k - tS T n k → T (tS T n k + j) = (stL.getD i []).getD j 0) := by
  unfold rdB tL
  rw [decide_eq_true_eq, map_iff]
theorem stc : ∀ i, i < 16 → ∀ j, j < 8 → 0 ≤ ((stL.getD i []).getD j 0).toInt ∧ ((stL.getD i []).getD j 0).toInt < 128 := by decide
theorem stl : ∀ i, i < 16 → 1 ≤ (stL.getD i []).length ∧ (stL.getD i []).length ≤ 5 := by decide
theorem st_charAt {G : GX} {d id j pc q1 : Nat} {w : Value} {lv : Lc} {r : List Value} {i : Int32} {p : Nat} {h : Hp} {Q : Option Value → Hp → Prop} (hi : useB id = true) (hf : ft (mt id) j = some (.invokevirtual q1, pc, [8, 0, 2], w)) (hd : 4 ≤ d) (hr : (r.map Value.category).sum ≤ 8) (hp : 100000 ≤ p) (hp2 : p < 100016) (hx : ixB i (stL.getD (p - 100000) []).length = true) (k : wp G d (mt id) (j + 1) lv (.int ((stL.getD (p - 100000) []).getD i.toNatClampNeg 0) :: r) h Q) : wp G d (mt id) j lv (.int i :: .ref p :: r) h Q := by
  refine vc_wp oks [] [] 1 hi ?_
  unfold vc
  rw [hf]
  show ck (decide (4 ≤ d) && (decide ((r.map Value.category).sum ≤ 8) && (decide (100000 ≤ p) && decide (p < 100016)))) (ck (ixB i (stL.getD (p - 100000) []).length) (wp G d (mt id) (j + 1) lv (.int ((stL.getD (p - 100000) []).getD i.toNatClampNeg 0) :: r) h Q))
  rw [decide_eq_true hd, decide_eq_true hr, decide_eq_true hp, decide_eq_true hp2, hx]
  exact k
theorem reads_loop {G : GX} {d f : Nat} {sw : Bool} {J : St} {n k i : Nat} {Q : Option Value → Hp → Prop} (tp : TP J) (hn : n ≤ 400) (hk : k ≤ n) (hi : i < 16) (ct : CT (J 140) n k J) (hl : tE (J 140) n k - tS (J 140) n k = (stL.getD i []).length) (q : Q (some (.int (b2 (rdB (J 140) n k i)))) (147, f, J, RP f sw)) : ∀ (c j : Nat), j + c = (stL.getD i []).length → wp G (d + 40) (mt 125) 15 [some (.ref 61), some (.ref (100000 + i)), some (.int (b2 (pmB (J 140) (tS (J 140) n k) (stL.getD i []) j))), some (.int (Int32.ofNat (tS (J 140) n k + j)))] [] (147, f, J, RP f sw) Q
  | c, j, h => by
    obtain ⟨c0, c4, c5, c3⟩ := id ct
    have sl := tS_le (T := J 140) hk
    have el := tE_le (T := J 140) hk
    have l5 := stl i hi
    match c, h with
    | 0, h =>
      have e : j = (stL.getD i []).length := by omega
      have er : rdB (J 140) n k i = pmB (J 140) (tS (J 140) n k) (stL.getD i []) j := by
        cases hb : pmB (J 140) (tS (J 140) n k) (stL.getD i []) j with
        | true =>
          rw [pm_iff] at hb
          exact rd_iff.mpr ⟨hl, fun t ht => hb t (by omega)⟩
        | false =>
          cases hr : rdB (J 140) n k i with
          | false => rfl
          | true =>
            have w := (rd_iff.mp hr).2
            have : pmB (J 140) (tS (J 140) n k) (stL.getD i []) j = true := pm_iff.mpr (fun t ht => w t (by omega))
            rw [hb] at this
            cases this
      rw [er] at q
      refine v_reads15 oks ?_
      rw [c5, if_pos (by rw [tI_le, kI_t (by omega), kI_t (by omega)]; omega)]
      exact ck_of b2_1 q
    | c + 1, h =>
      have ih := reads_loop (G := G) (d := d) tp hn hk hi ct hl q c (j + 1) (by omega)
      rw [pm_s] at ih
      refine v_reads15 oks ?_
      rw [c5, c4, if_neg (by rw [tI_le, kI_t (by omega), kI_t (by omega)]; omega), kI_1]
      have ej : Int32.ofNat (tS (J 140) n k + j) - Int32.ofNat (tS (J 140) n k) = Int32.ofNat j := by
        rw [tI_eq, fb_subI (by rw [kI_t (by omega), kI_t (by omega)]; omega) (by rw [kI_t (by omega), kI_t (by omega)]; omega), kI_t (by omega), kI_t (by omega), kI_t (by omega)]
        omega
      cases hb : pmB (J 140) (tS (J 140) n k) (stL.getD i []) j with
      | false =>
        rw [hb, Bool.false_and] at ih
        rw [if_pos (show b2 false = 0 from rfl)]
        exact ih
      | true =>
        rw [hb, Bool.true_and] at ih
        obtain ⟨t1, t2, t3⟩ := tp (tS (J 140) n k + j) (by omega)
        have sc := stc i hi j (by omega)
        rw [if_neg (show ¬ b2 true = 0 by decide), ej, kI_c (show tS (J 140) n k + j < 2147483648 by omega), t1]
        refine ck_of (kI_x (by omega) (by omega)) ?_
        refine st_charAt rfl rfl (by omega) (by show 1 ≤ 8; decide) (by omega) (by omega) (by rw [show 100000 + i - 100000 = i by omega]; exact kI_x (by omega) (by omega)) ?_
        refine v_reads31 oks ?_
        rw [show 100000 + i - 100000 = i by omega, kI_c (show j < 2147483648 by omega), kI_1]
        have ce := c8e t2 t3 sc.1 sc.2
        refine ite_i (fun z => ?_) (fun z => ?_)
        · rw [tI_eq] at z
          rw [decide_eq_true (by rw [tI_eq]; exact ce.mp z)] at ih
          exact ih
        · rw [tI_eq] at z
          rw [decide_eq_false (by rw [tI_eq]; exact fun y => z (ce.mpr y))] at ih
          exact ih
theorem reads_ok {G : GX} {d f : Nat} {sw : Bool} {J : St} {n k t : Nat} {Q : Option Value → Hp → Prop} (i : Nat) (ht : t = 100000 + i) (tp : TP J) (hn : n ≤ 400) (hk : k ≤ n) (hi : i < 16) (ct : CT (J 140) n k J) (q : Q (some (.int (b2 (rdB (J 140) n k i)))) (147, f, J, RP f sw)) : wp G (d + 40) (mt 125) 0 (en (mt 125) [.ref 61, .ref t]) [] (147, f, J, RP f sw) Q := by
  subst ht
  obtain ⟨c0, c4, c5, c3⟩ := id ct
  have sl := tS_le (T := J 140) hk
  have el := tE_le (T := J 140) hk
  have l5 := stl i hi
  have ej : Int32.ofNat (tE (J 140) n k) - Int32.ofNat (tS (J 140) n k) = Int32.ofNat (tE (J 140) n k - tS (J 140) n k) := by
    rw [tI_eq, fb_subI (by rw [kI_t (by omega), kI_t (by omega)]; omega) (by rw [kI_t (by omega), kI_t (by omega)]; omega), kI_t (by omega), kI_t (by omega), kI_t (by omega)]
    omega
  refine v_reads oks ?_
  refine ck_of (by rw [decide_eq_true (by omega), decide_eq_true (by omega)]; rfl) ?_
  rw [c4, c5, ej, show 100000 + i - 100000 = i by omega]
  refine ite_i (fun z => ?_) (fun z => ?_)
  · rw [kI_e (by omega) (by omega)] at z
    exact reads_loop tp hn hk hi ct z q (stL.getD i []).length 0 (by omega)
  · rw [kI_e (by omega) (by omega)] at z
    have er : rdB (J 140) n k i = false := by
      cases hr : rdB (J 140) n k i with
      | false => rfl
      | true => exact absurd (rd_iff.mp hr).1 z
    rw [er] at q
    exact q
def pick (T : Nat → Int32) (n k : Nat) : List (Nat × Int32) → Int32
  | [] => -1000000
  | (i, x) :: l => match rdB T n k i with
    | true => x
    | false => pick T n k l
def sbj (T : Nat → Int32) (n k : Nat) : Int32 := pick T n k [(1, 0), (2, 1), (3, 2), (4, 3), (5, 4)]
def sgT (T : Nat → Int32) (n k : Nat) : Int32 := pick T n k [(6, 0), (7, 1), (8, 2)]
def acn (T : Nat → Int32) (n k : Nat) : Int32 := pick T n k [(11, 0), (12, 1), (13, 2), (14, 3)]
theorem subj_ok {G : GX} {d f : Nat} {sw : Bool} {J : St} {n k : Nat} {Q : Option Value → Hp → Prop} (tp : TP J) (hn : n ≤ 400) (hk : k ≤ n) (ct : CT (J 140) n k J) (q : Q (some (.int (sbj (J 140) n k))) (147, f, J, RP f sw)) : wp G (d + 60) (mt 140) 0 (en (mt 140) [.ref 61]) [] (147, f, J, RP f sw) Q := by
  unfold sbj pick at q
  refine v_subj oks ?_
  refine reads_ok 1 rfl tp hn hk (by decide) ct ⟨_, _, rfl, rfl, ?_⟩
  cases h1 : rdB (J 140) n k 1 with
  | true => rw [h1] at q; rw [if_neg (show ¬ b2 true = 0 by decide)]; exact q
  | false =>
    rw [h1] at q; rw [if_pos (show b2 false = 0 from rfl)]
    unfold pick at q
    refine reads_ok 2 rfl tp hn hk (by decide) ct ⟨_, _, rfl, rfl, ?_⟩
    cases h2 : rdB (J 140) n k 2 with
    | true => rw [h2] at q; rw [if_neg (show ¬ b2 true = 0 by decide)]; exact q
    | false =>
      rw [h2] at q; rw [if_pos (show b2 false = 0 from rfl)]
      unfold pick at q
      refine reads_ok 3 rfl tp hn hk (by decide) ct ⟨_, _, rfl, rfl, ?_⟩
      cases h3 : rdB (J 140) n k 3 with
      | true => rw [h3] at q; rw [if_neg (show ¬ b2 true = 0 by decide)]; exact q
      | false =>
        rw [h3] at q; rw [if_pos (show b2 false = 0 from rfl)]
        unfold pick at q
        refine reads_ok 4 rfl tp hn hk (by decide) ct ⟨_, _, rfl, rfl, ?_⟩
        cases h4 : rdB (J 140) n k 4 with
        | true => rw [h4] at q; rw [if_neg (show ¬ b2 true = 0 by decide)]; exact q
        | false =>
          rw [h4] at q; rw [if_pos (show b2 false = 0 from rfl)]
          unfold pick at q
          refine reads_ok 5 rfl tp hn hk (by decide) ct ⟨_, _, rfl, rfl, ?_⟩
          cases h5 : rdB (J 140) n k 5 with
          | true => rw [h5] at q; rw [if_neg (show ¬ b2 true = 0 by decide)]; exact q
          | false => rw [h5] at q; rw [if_pos (show b2 false = 0 from rfl)]; exact q
theorem sign_ok {G : GX} {d f : Nat} {sw : Bool} {J : St} {n k : Nat} {Q : Option Value → Hp → Prop} (tp : TP J) (hn : n ≤ 400) (hk : k ≤ n) (ct : CT (J 140) n k J) (q : Q (some (.int (sgT (J 140) n k))) (147, f, J, RP f sw)) : wp G (d + 60) (mt 141) 0 (en (mt 141) [.ref 61]) [] (147, f, J, RP f sw) Q := by
  unfold sgT pick at q
  refine v_sign oks ?_
  refine reads_ok 6 rfl tp hn hk (by decide) ct ⟨_, _, rfl, rfl, ?_⟩
  cases h1 : rdB (J 140) n k 6 with
  | true => rw [h1] at q; rw [if_neg (show ¬ b2 true = 0 by decide)]; exact q
  | false =>
    rw [h1] at q; rw [if_pos (show b2 false = 0 from rfl)]
    unfold pick at q
    refine reads_ok 7 rfl tp hn hk (by decide) ct ⟨_, _, rfl, rfl, ?_⟩
    cases h2 : rdB (J 140) n k 7 with
    | true => rw [h2] at q; rw [if_neg (show ¬ b2 true = 0 by decide)]; exact q
    | false =>
      rw [h2] at q; rw [if_pos (show b2 false = 0 from rfl)]
      unfold pick at q
      refine reads_ok 8 rfl tp hn hk (by decide) ct ⟨_, _, rfl, rfl, ?_⟩
      cases h3 : rdB (J 140) n k 8 with
      | true => rw [h3] at q; rw [if_neg (show ¬ b2 true = 0 by decide)]; exact q
      | false => rw [h3] at q; rw [if_pos (show b2 false = 0 from rfl)]; exact q
theorem act_ok {G : GX} {d f : Nat} {sw : Bool} {J : St} {n k : Nat} {Q : Option Value → Hp → Prop} (tp : TP J) (hn : n ≤ 400) (hk : k ≤ n) (ct : CT (J 140) n k J) (q : Q (some (.int (acn (J 140) n k))) (147, f, J, RP f sw)) : wp G (d + 60) (mt 145) 0 (en (mt 145) [.ref 61]) [] (147, f, J, RP f sw) Q := by
  unfold acn pick at q
  refine v_act oks ?_
  refine reads_ok 11 rfl tp hn hk (by decide) ct ⟨_, _, rfl, rfl, ?_⟩
  cases h1 : rdB (J 140) n k 11 with
  | true => rw [h1] at q; rw [if_neg (show ¬ b2 true = 0 by decide)]; exact q
  | false =>
    rw [h1] at q; rw [if_pos (show b2 false = 0 from rfl)]
    unfold pick at q
    refine reads_ok 12 rfl tp hn hk (by decide) ct ⟨_, _, rfl, rfl, ?_⟩
    cases h2 : rdB (J 140) n k 12 with
    | true => rw [h2] at q; rw [if_neg (show ¬ b2 true = 0 by decide)]; exact q
    | false =>
      rw [h2] at q; rw [if_pos (show b2 false = 0 from rfl)]
      unfold pick at q
      refine reads_ok 13 rfl tp hn hk (by decide) ct ⟨_, _, rfl, rfl, ?_⟩
      cases h3 : rdB (J 140) n k 13 with
      | true => rw [h3] at q; rw [if_neg (show ¬ b2 true = 0 by decide)]; exact q
      | false =>
        rw [h3] at q; rw [if_pos (show b2 false = 0 from rfl)]
        unfold pick at q
        refine reads_ok 14 rfl tp hn hk (by decide) ct ⟨_, _, rfl, rfl, ?_⟩
        cases h4 : rdB (J 140) n k 14 with
        | true => rw [h4] at q; rw [if_neg (show ¬ b2 true = 0 by decide)]; exact q
        | false => rw [h4] at q; rw [if_pos (show b2 false = 0 from rfl)]; exact q
/-- the number that m signs from s on say -/
def nvN (T : Nat → Int32) (s : Nat) : Nat → Int32
  | 0 => 0
  | m + 1 => 10 * nvN T s m + T (s + m) - 48
theorem nv_s (T : Nat → Int32) (s m : Nat) : nvN T s (m + 1) = 10 * nvN T s m + T (s + m) - 48 := rfl
def nvT (T : Nat → Int32) (n k : Nat) : Int32 := nvN T (tS T n k) (tE T n k - tS T n k)
theorem nu_iff {T : Nat → Int32} {n k : Nat} (hk : k ≤ n) (h : nuB T n k = true) : tS T n k < n ∧ tE T n k - tS T n k ≤ 4 ∧ ∀ i, tS T n k ≤ i → i < tE T n k → 48 ≤ (T i).toInt ∧ (T i).toInt ≤ 57 := by
  unfold nuB at h
  rw [Bool.and_eq_true, Bool.and_eq_true, decide_eq_true_eq, decide_eq_true_eq] at h
  obtain ⟨h1, h2, h3⟩ := h
  refine ⟨h1, h3, ?_⟩
  have hl : ltB T (tS T n k) = false := by
    cases hb : ltB T (tS T n k) with
    | false => rfl
    | true => rw [lt_fg hb] at h2; cases h2
  have ee : tE T n k = av (fgB T) n (tS T n k) := by
    unfold tE; rw [if_pos h1, if_neg (by rw [hl]; decide), if_pos h2]
  have w := av_le (P := fgB T) (n := n) (n - tS T n k) (tS T n k) (by omega)
  intro i i1 i2
  rw [ee] at i2
  have x := w.2.2.1 i i1 i2
  unfold fgB at x
  rw [Bool.and_eq_true, decide_eq_true_eq, decide_eq_true_eq] at x
  exact x
theorem num_loop {G : GX} {d f : Nat} {sw : Bool} {J : St} {n k : Nat} {Q : Option Value → Hp → Prop} (tp : TP J) (hn : n ≤ 400) (hk : k ≤ n) (ct : CT (J 140) n k J) (nu : nuB (J 140) n k = true) (q : Q (some (.int (nvT (J 140) n k))) (147, f, J, RP f sw)) : ∀ (c j : Nat), j + c = tE (J 140) n k - tS (J 140) n k → wp G (d + 20) (mt 142) 5 [some (.ref 61), some (.int (nvN (J 140) (tS (J 140) n k) j)), some (.int (Int32.ofNat (tS (J 140) n k + j)))] [] (147, f, J, RP f sw) Q
  | c, j, h => by
    obtain ⟨c0, c4, c5, c3⟩ := id ct
    have sl := tS_le (T := J 140) hk
    have el := tE_le (T := J 140) hk
    match c, h with
    | 0, h =>
      have e : j = tE (J 140) n k - tS (J 140) n k := by omega
      refine v_numR5 oks ?_
      rw [c5, if_pos (by rw [tI_le, kI_t (by omega), kI_t (by omega)]; omega), e]
      exact q
    | c + 1, h =>
      have ih := num_loop (G := G) (d := d) tp hn hk ct nu q c (j + 1) (by omega)
      obtain ⟨t1, t2, t3⟩ := tp (tS (J 140) n k + j) (by omega)
      have w := (nu_iff hk nu).2.2 (tS (J 140) n k + j) (by omega) (by omega)
      have e8 : (J 140 (tS (J 140) n k + j)).toInt8.toInt32 = J 140 (tS (J 140) n k + j) := by
        rw [tI_eq, c8 t2 t3, if_pos (by omega)]
      refine v_numR5 oks ?_
      rw [c5, if_neg (by rw [tI_le, kI_t (by omega), kI_t (by omega)]; omega), kI_1, kI_c (by omega), t1, e8]
      refine ck_of (kI_x (by omega) (by omega)) ?_
      rw [nv_s] at ih
      have e : nvN (J 140) (tS (J 140) n k) j * 10 + (J 140 (tS (J 140) n k + j) - 48) = 10 * nvN (J 140) (tS (J 140) n k) j + J 140 (tS (J 140) n k + j) - 48 := by
        rw [Int32.mul_comm, Int32.sub_eq_add_neg, Int32.sub_eq_add_neg, Int32.add_assoc]
      rw [e]
      exact ih
theorem num_ok {G : GX} {d f : Nat} {sw : Bool} {J : St} {n k : Nat} {Q : Option Value → Hp → Prop} (tp : TP J) (hn : n ≤ 400) (hk : k ≤ n) (ct : CT (J 140) n k J) (nu : nuB (J 140) n k = true) (q : Q (some (.int (nvT (J 140) n k))) (147, f, J, RP f sw)) : wp G (d + 20) (mt 142) 0 (en (mt 142) [.ref 61]) [] (147, f, J, RP f sw) Q := by
  refine v_numR oks ?_
  rw [ct.2.1]
  exact num_loop tp hn hk ct nu q (tE (J 140) n k - tS (J 140) n k) 0 (by omega)
