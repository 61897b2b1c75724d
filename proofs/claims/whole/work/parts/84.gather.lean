/-! GATHER: the class's search -/
theorem okS_iff {q : Nat → Nat → Bool} {S : Nat} : okS q S = true ↔ ∀ a b, a < b → b < 12 → S.testBit a = true → S.testBit b = true → q a b = false := by
  unfold okS
  rw [List.all_eq_true]
  constructor
  · intro h a b hab hb ha hb2
    have h1 := h b (List.mem_range.mpr hb)
    rw [List.all_eq_true] at h1
    have h2 := h1 a (List.mem_range.mpr hab)
    rw [ha, hb2, Bool.true_and, Bool.true_and] at h2
    cases hq : q a b with
    | false => rfl
    | true => rw [hq] at h2; cases h2
  · intro h b hb
    rw [List.all_eq_true]
    intro a ha
    rw [List.mem_range] at ha hb
    cases h1 : S.testBit a with
    | false => rfl
    | true =>
      cases h2 : S.testBit b with
      | false => rfl
      | true => rw [h a b ha hb h1 h2]; rfl
/-- the sets between C and C with some of R -/
def Fam (R C S : Nat) : Prop := ∀ i, (C.testBit i = true → S.testBit i = true) ∧ (S.testBit i = true → C.testBit i = true ∨ R.testBit i = true)
def FSb (J : St) (S : Nat) : Bool := gb (J 54 (S / 32)) (S % 32)
/-- what a search has done -/
def GP (q : Nat → Nat → Bool) (R C : Nat) (J : St) (M : Nat) (K : St) (M' : Nat) : Prop := (∀ p, p ≠ 47 → p ≠ 54 → K p = J p) ∧ (∀ k, k ≠ 2 → K 47 k = J 47 k) ∧ K 47 2 = Int32.ofNat M' ∧ M ≤ M' ∧ M' ≤ 12 ∧ (∀ S, S < 4096 → FSb J S = true → FSb K S = true) ∧ (∀ S, S < 4096 → FSb K S = true → FSb J S = true ∨ (Fam R C S ∧ okS q S = true)) ∧ (M' = M ∨ ∃ S, S < 4096 ∧ FSb K S = true ∧ pcN S = M') ∧ ∀ S, S < 4096 → Fam R C S → okS q S = true → pcN S ≤ M' ∧ (pcN S = M' → FSb K S = true)
theorem FS_set {J : St} {C S : Nat} {x : Int32} : FSb (upI (upI J 47 2 x) 54 (C / 32) (J 54 (C / 32) ||| (1 <<< (Int32.ofNat (C % 32) &&& 31)))) S = (FSb J S || decide (S = C)) := by
  unfold FSb
  by_cases c : S / 32 = C / 32
  · rw [c, upI_same, gb_or, sh1 (C % 32) (Nat.mod_lt _ (by decide)) (S % 32) (Nat.mod_lt _ (by decide))]
    congr 1
    apply decide_eq_decide.mpr
    omega
  · rw [upI_nk (by omega), upI_row (by decide), decide_eq_false (show ¬ S = C by intro e; rw [e] at c; exact c rfl), Bool.or_false]
theorem Fam0 {C S : Nat} (h : Fam 0 C S) : S = C := by
  apply Nat.eq_of_testBit_eq
  intro i
  cases h1 : S.testBit i with
  | true =>
    rcases (h i).2 h1 with z | z
    · rw [z]
    · rw [Nat.zero_testBit] at z; cases z
  | false =>
    cases h2 : C.testBit i with
    | false => rfl
    | true => rw [(h i).1 h2] at h1; cases h1
theorem Fam_rf (C : Nat) : Fam 0 C C := fun _ => ⟨fun h => h, fun h => Or.inl h⟩
theorem Fam_pc {R C S : Nat} (h : Fam R C S) : pcN S ≤ pcN R + pcN C := by
  unfold pcN
  exact cnb_or 12 (fun i _ hi => by rcases (h i).2 hi with z | z; exact Or.inr z; exact Or.inl z)
theorem pc_0 {S : Nat} (hS : S < 4096) (h : pcN S = 0) : S = 0 := by
  apply Nat.eq_of_testBit_eq
  intro i
  rw [Nat.zero_testBit]
  cases hb : S.testBit i with
  | false => rfl
  | true =>
    have hi := bit_lt hS hb
    have : cnb (fun j => decide (j = i)) 12 ≤ cnb S.testBit 12 := cnb_mono 12 (fun j _ hj => by rw [decide_eq_true_eq] at hj; rw [hj]; exact hb)
    have one : cnb (fun j => decide (j = i)) 12 = 1 := by
      have := cnb_one (P := fun _ => false) (A := fun j => decide (j = i)) (j := i) rfl 12 (fun k _ => by rw [Bool.false_or])
      have z : ∀ n, cnb (fun _ => false) n = 0 := fun n => by
        induction n with
        | zero => rfl
        | succ n ih => rw [cnb_s, ih]; rfl
      rw [this, z, if_pos hi]
    unfold pcN at h
    omega
theorem pc_add {S t : Nat} (ht : t < 12) (hs : S.testBit t = false) : pcN (S ||| 2 ^ t) = pcN S + 1 := by
  unfold pcN
  rw [cnb_one (P := S.testBit) (A := (S ||| 2 ^ t).testBit) (j := t) hs 12 (fun i _ => by
    rw [Nat.testBit_or, Nat.testBit_two_pow]
    congr 1
    apply decide_eq_decide.mpr
    exact ⟨fun e => e.symm, fun e => e.symm⟩), if_pos ht]
theorem pc_del {R t : Nat} (ht : t < 12) (hr : R.testBit t = true) : pcN (df R (2 ^ t)) + 1 = pcN R := by
  have h0 : (df R (2 ^ t)).testBit t = false := by rw [df_t, Nat.testBit_two_pow, hr, decide_eq_true rfl]; rfl
  have e : df R (2 ^ t) ||| 2 ^ t = R := by
    apply Nat.eq_of_testBit_eq
    intro i
    rw [Nat.testBit_or, df_t, Nat.testBit_two_pow]
    by_cases c : t = i
    · subst c; rw [hr, decide_eq_true rfl]; rfl
    · rw [decide_eq_false c, Bool.or_false, Bool.not_false, Bool.and_true]
  rw [← pc_add ht h0, e]
theorem gather_ok {G : GX} {d f H : Nat} {sw : Bool} {q : Nat → Nat → Bool} {Qm : Nat → Nat} (hQ : ∀ a, a < 12 → H.testBit a = true → Qm a < 4096 ∧ ∀ b, (Qm a).testBit b = true ↔ (a < b ∧ H.testBit b = true ∧ q a b = true)) : ∀ (m R C D M : Nat) (J : St) {Q : Option Value → Hp → Prop}, pcN R ≤ m → D + m ≤ 12 → R < 4096 → C < 4096 → (∀ i, R.testBit i = true → H.testBit i = true) → (∀ a b, C.testBit a = true → R.testBit b = true → a < b ∧ q a b = false) → okS q C = true → J 47 2 = Int32.ofNat M → M ≤ 12 → (∀ a, a < 12 → H.testBit a = true → J 53 a = Int32.ofNat (Qm a)) → (∀ K M', GP q R C J M K M' → Q none (147, f, K, RP f sw)) → wp G (d + m + 40) (mt 103) 0 (en (mt 103) [.ref 47, .int (Int32.ofNat R), .int (Int32.ofNat C), .int (Int32.ofNat D)]) [] (147, f, J, RP f sw) Q
  | m, R, C, D, M, J, Q, hm, hD, hR, hC, hRH, hCR, hok, jM, hM, jQ, post => by
    have pR := cnb_le R.testBit 12
    have pC := cnb_le C.testBit 12
    have pR' : pcN R ≤ 12 := pR
    have pC' : pcN C ≤ 12 := pC
    refine v_gather oks ?_
    rw [if_neg (by rw [tI_lt, kI_t (by omega)]; simp only [Int32.reduceToInt]; omega)]
    refine bitCount_ok hR ⟨_, _, rfl, rfl, ?_⟩
    refine bitCount_ok hC ⟨_, _, rfl, rfl, ?_⟩
    rw [jM, ← Int32.ofNat_add]
    refine ite_i (fun z => ?_) (fun z => ?_)
    · rw [tI_le, kI_t (by omega), kI_t (by omega)] at z
      refine ite_i (fun z0 => ?_) (fun z0 => ?_)
      · -- nothing is left
        have R0 : R = 0 := by
          have := congrArg Int32.toInt z0
          rw [kI_t (by omega)] at this
          simp only [Int32.reduceToInt] at this
          omega
        subst R0
        have p0 : pcN 0 = 0 := by decide
        refine bitCount_ok hC ⟨_, _, rfl, rfl, ?_⟩
        obtain ⟨s1, s2⟩ := sh5 hC
        rw [s1, s2, kI_c (by omega)]
        refine ck_of (kI_x (by omega) (by omega)) (ck_of (kI_x (by omega) (by omega)) ?_)
        refine post _ (pcN C) ⟨fun p h1 h2 => by rw [upI_row h2, upI_row h1], fun k hk => by rw [upI_nk (by omega), upI_nk (by omega)], by rw [upI_nk (by omega), upI_same], by omega, pC', fun S hS h => by rw [FS_set, h, Bool.true_or], fun S hS h => ?_, Or.inr ⟨C, hC, by rw [FS_set, decide_eq_true rfl, Bool.or_true], rfl⟩, fun S hS h1 h2 => ?_⟩
        · rw [FS_set, Bool.or_eq_true, decide_eq_true_eq] at h
          rcases h with h | h
          · exact Or.inl h
          · rw [h]; exact Or.inr ⟨Fam_rf C, hok⟩
        · have e := Fam0 h1
          subst e
          exact ⟨Nat.le_refl _, fun _ => by rw [FS_set, decide_eq_true rfl, Bool.or_true]⟩
      · -- the first of what is left
        have R0 : R ≠ 0 := fun e => z0 (by rw [e]; rfl)
        have pR0 : pcN R ≠ 0 := fun e => R0 (pc_0 hR e)
        obtain ⟨m', hm'⟩ : ∃ m', m = m' + 1 := ⟨m - 1, by omega⟩
        subst hm'
        refine ntz_ok hR R0 ⟨_, _, rfl, rfl, ?_⟩
        obtain ⟨t, hf⟩ : ∃ t, fsN R.testBit 12 = some t := by
          cases hf : fsN R.testBit 12 with
          | some t => exact ⟨t, rfl⟩
          | none =>
            exfalso
            apply R0
            apply Nat.eq_of_testBit_eq
            intro i
            rw [Nat.zero_testBit]
            cases hb : R.testBit i with
            | false => rfl
            | true => rw [fsN_non hf i (bit_lt hR hb)] at hb; cases hb
        obtain ⟨t12, hRt, hlow⟩ := fsN_some hf
        have hHt := hRH t hRt
        obtain ⟨q4, qb⟩ := hQ t t12 hHt
        rw [hf]
        show ck (ixB (Int32.ofNat t) 12) _
        refine ck_of (kI_x (by omega) t12) ?_
        rw [show (ob (some t)) = Int32.ofNat t from rfl, kI_c (by omega), jQ t t12 hHt, sN_1 t (by omega), sN_df, sN_and, sN_df, sN_or, l1a]
        -- the sets
        have hO : ∀ i, (df R (2 ^ t)).testBit i = true ↔ (R.testBit i = true ∧ i ≠ t) := fun i => by
          rw [df_t, Nat.testBit_two_pow, Bool.and_eq_true]
          constructor
          · rintro ⟨h1, h2⟩
            refine ⟨h1, fun e => ?_⟩
            rw [e, decide_eq_true rfl] at h2; cases h2
          · rintro ⟨h1, h2⟩
            exact ⟨h1, by rw [decide_eq_false (fun e => h2 e.symm)]; rfl⟩
        have hA : ∀ i, (df R (2 ^ t) &&& Qm t).testBit i = true ↔ (R.testBit i = true ∧ i ≠ t ∧ q t i = true) := fun i => by
          rw [Nat.testBit_and, Bool.and_eq_true, hO, qb]
          constructor
          · rintro ⟨⟨h1, h2⟩, -, -, h3⟩; exact ⟨h1, h2, h3⟩
          · rintro ⟨h1, h2, h3⟩
            refine ⟨⟨h1, h2⟩, ?_, hRH i h1, h3⟩
            rcases Nat.lt_or_ge t i with y | y
            · exact y
            · have : i < t := by omega
              rw [hlow i this] at h1; cases h1
        have h1b : ∀ i, (df (df R (2 ^ t)) (df R (2 ^ t) &&& Qm t)).testBit i = true ↔ (R.testBit i = true ∧ i ≠ t ∧ q t i = false) := fun i => by
          rw [df_t, Bool.and_eq_true, hO, Bool.not_eq_true']
          constructor
          · rintro ⟨⟨h1, h2⟩, h3⟩
            refine ⟨h1, h2, ?_⟩
            cases hq : q t i with
            | false => rfl
            | true => rw [(hA i).mpr ⟨h1, h2, hq⟩] at h3; cases h3
          · rintro ⟨h1, h2, h3⟩
            refine ⟨⟨h1, h2⟩, ?_⟩
            cases hq : (df R (2 ^ t) &&& Qm t).testBit i with
            | false => rfl
            | true => rw [((hA i).mp hq).2.2] at h3; cases h3
        have hCt : C.testBit t = false := by
          cases hb : C.testBit t with
          | false => rfl
          | true => have := (hCR t t hb hRt).1; omega
        have hC1 : ∀ i, (C ||| 2 ^ t).testBit i = true ↔ (C.testBit i = true ∨ i = t) := fun i => by
          rw [Nat.testBit_or, Nat.testBit_two_pow, Bool.or_eq_true, decide_eq_true_eq]
          exact ⟨fun h => h.imp id Eq.symm, fun h => h.imp id Eq.symm⟩
        have tlow : ∀ i, R.testBit i = true → i ≠ t → t < i := fun i h1 h2 => by
          rcases Nat.lt_or_ge t i with y | y
          · exact y
          · have : i < t := by omega
            rw [hlow i this] at h1; cases h1
        have O4 : df R (2 ^ t) < 4096 := lt_bit (fun i hi => bit_lt hR ((hO i).mp hi).1)
        have R14 : df (df R (2 ^ t)) (df R (2 ^ t) &&& Qm t) < 4096 := lt_bit (fun i hi => bit_lt hR ((h1b i).mp hi).1)
        have C14 : C ||| 2 ^ t < 4096 := lt_bit (fun i hi => by
          rcases (hC1 i).mp hi with y | y
          · exact bit_lt hC y
          · omega)
        have pO := pc_del t12 hRt
        have pR1 : pcN (df (df R (2 ^ t)) (df R (2 ^ t) &&& Qm t)) ≤ pcN (df R (2 ^ t)) := by
          unfold pcN
          exact cnb_mono 12 (fun i _ hi => (hO i).mpr ⟨((h1b i).mp hi).1, ((h1b i).mp hi).2.1⟩)
        have ok1 : okS q (C ||| 2 ^ t) = true := okS_iff.mpr (fun a b hab hb ha hb2 => by
          rcases (hC1 a).mp ha with ya | ya
          · rcases (hC1 b).mp hb2 with yb | yb
            · exact okS_iff.mp hok a b hab hb ya yb
            · rw [yb]; exact (hCR a t ya hRt).2
          · rcases (hC1 b).mp hb2 with yb | yb
            · rw [ya] at hab; have := (hCR b t yb hRt).1; omega
            · omega)
        have dd : d + (m' + 1) + 39 = d + m' + 40 := by omega
        rw [dd]
        refine gather_ok hQ m' _ _ (D + 1) M J (by omega) (by omega) R14 C14 (fun i hi => hRH i ((h1b i).mp hi).1) (fun a b ha hb => ?_) ok1 jM hM jQ (fun K1 M1 g1 => ⟨_, rfl, rfl, ?_⟩)
        · obtain ⟨y1, y2, y3⟩ := (h1b b).mp hb
          rcases (hC1 a).mp ha with ya | ya
          · exact hCR a b ya y1
          · rw [ya]; exact ⟨tlow b y1 y2, y3⟩
        obtain ⟨g1a, g1b, g1c, g1d, g1e, g1f, g1g, g1h, g1i⟩ := g1
        have in1 : ∀ S, Fam R C S → okS q S = true → S < 4096 → S.testBit t = true → Fam (df (df R (2 ^ t)) (df R (2 ^ t) &&& Qm t)) (C ||| 2 ^ t) S := fun S h1 h2 h4 h3 i => by
          refine ⟨fun hi => ?_, fun hi => ?_⟩
          · rcases (hC1 i).mp hi with y | y
            · exact (h1 i).1 y
            · rw [y]; exact h3
          · by_cases e : i = t
            · exact Or.inl ((hC1 i).mpr (Or.inr e))
            · rcases (h1 i).2 hi with y | y
              · exact Or.inl ((hC1 i).mpr (Or.inl y))
              · exact Or.inr ((h1b i).mpr ⟨y, e, okS_iff.mp h2 t i (tlow i y e) (bit_lt h4 hi) h3 hi⟩)
        have up1 : ∀ S, Fam (df (df R (2 ^ t)) (df R (2 ^ t) &&& Qm t)) (C ||| 2 ^ t) S → Fam R C S := fun S h1 i => by
          refine ⟨fun hi => (h1 i).1 ((hC1 i).mpr (Or.inl hi)), fun hi => ?_⟩
          rcases (h1 i).2 hi with y | y
          · rcases (hC1 i).mp y with w | w
            · exact Or.inl w
            · rw [w]; exact Or.inr hRt
          · exact Or.inr ((h1b i).mp y).1
        refine ite_i (fun zA => ?_) (fun zA => ?_)
        · -- it quarrels with none of the others
          have A0 : df R (2 ^ t) &&& Qm t = 0 := by
            have hlt : df R (2 ^ t) &&& Qm t < 4096 := lt_bit (fun i hi => bit_lt hR ((hA i).mp hi).1)
            have := congrArg Int32.toInt zA
            rw [kI_t (by omega)] at this
            simp only [Int32.reduceToInt] at this
            omega
          have nq : ∀ i, R.testBit i = true → i ≠ t → q t i = false := fun i h1 h2 => by
            cases hq : q t i with
            | false => rfl
            | true =>
              have := (hA i).mpr ⟨h1, h2, hq⟩
              rw [A0, Nat.zero_testBit] at this; cases this
          refine post K1 M1 ⟨g1a, g1b, g1c, g1d, g1e, g1f, fun S hS h => ?_, g1h, fun S hS h1 h2 => ?_⟩
          · rcases g1g S hS h with y | ⟨y1, y2⟩
            · exact Or.inl y
            · exact Or.inr ⟨up1 S y1, y2⟩
          · cases ht : S.testBit t with
            | true => exact g1i S hS (in1 S h1 h2 hS ht) h2
            | false =>
              have b4 : S ||| 2 ^ t < 4096 := lt_bit (fun i hi => by
                rw [Nat.testBit_or, Nat.testBit_two_pow, Bool.or_eq_true, decide_eq_true_eq] at hi
                rcases hi with y | y
                · exact bit_lt hS y
                · omega)
              have hb : ∀ i, (S ||| 2 ^ t).testBit i = true ↔ (S.testBit i = true ∨ i = t) := fun i => by
                rw [Nat.testBit_or, Nat.testBit_two_pow, Bool.or_eq_true, decide_eq_true_eq]
                exact ⟨fun h => h.imp id Eq.symm, fun h => h.imp id Eq.symm⟩
              have f4 : Fam (df (df R (2 ^ t)) (df R (2 ^ t) &&& Qm t)) (C ||| 2 ^ t) (S ||| 2 ^ t) := fun i => by
                refine ⟨fun hi => ?_, fun hi => ?_⟩
                · rcases (hC1 i).mp hi with y | y
                  · exact (hb i).mpr (Or.inl ((h1 i).1 y))
                  · exact (hb i).mpr (Or.inr y)
                · by_cases e : i = t
                  · exact Or.inl ((hC1 i).mpr (Or.inr e))
                  · rcases (hb i).mp hi with y | y
                    · rcases (h1 i).2 y with w | w
                      · exact Or.inl ((hC1 i).mpr (Or.inl w))
                      · exact Or.inr ((h1b i).mpr ⟨w, e, nq i w e⟩)
                    · exact absurd y e
              have o4 : okS q (S ||| 2 ^ t) = true := okS_iff.mpr (fun a b hab hb12 ha hb2 => by
                rcases (hb a).mp ha with ya | ya
                · rcases (hb b).mp hb2 with yb | yb
                  · exact okS_iff.mp h2 a b hab hb12 ya yb
                  · rcases (h1 a).2 ya with w | w
                    · rw [yb]; exact (hCR a t w hRt).2
                    · have := tlow a w (by omega); omega
                · rcases (hb b).mp hb2 with yb | yb
                  · rcases (h1 b).2 yb with w | w
                    · have := (hCR b t w hRt).1; omega
                    · rw [ya]; exact nq b w (by omega)
                  · omega)
              have := (g1i (S ||| 2 ^ t) b4 f4 o4).1
              rw [pc_add t12 ht] at this
              exact ⟨by omega, fun e => by omega⟩
        · refine gather_ok hQ m' _ _ (D + 1) M1 K1 (by omega) (by omega) O4 hC (fun i hi => hRH i ((hO i).mp hi).1) (fun a b ha hb => hCR a b ha ((hO b).mp hb).1) hok g1c g1e (fun a h1 h2 => by rw [g1a 53 (by decide) (by decide)]; exact jQ a h1 h2) (fun K2 M2 g2 => ⟨_, rfl, rfl, ?_⟩)
          obtain ⟨g2a, g2b, g2c, g2d, g2e, g2f, g2g, g2h, g2i⟩ := g2
          have in2 : ∀ S, Fam R C S → S.testBit t = false → Fam (df R (2 ^ t)) C S := fun S h1 h3 i => by
            refine ⟨(h1 i).1, fun hi => ?_⟩
            rcases (h1 i).2 hi with y | y
            · exact Or.inl y
            · refine Or.inr ((hO i).mpr ⟨y, fun e => ?_⟩)
              rw [e, h3] at hi; cases hi
          have up2 : ∀ S, Fam (df R (2 ^ t)) C S → Fam R C S := fun S h1 i => ⟨(h1 i).1, fun hi => ((h1 i).2 hi).imp id (fun y => ((hO i).mp y).1)⟩
          refine post K2 M2 ⟨fun p h1 h2 => (g2a p h1 h2).trans (g1a p h1 h2), fun k hk => (g2b k hk).trans (g1b k hk), g2c, by omega, g2e, fun S hS h => g2f S hS (g1f S hS h), fun S hS h => ?_, ?_, fun S hS h1 h2 => ?_⟩
          · rcases g2g S hS h with y | ⟨y1, y2⟩
            · rcases g1g S hS y with w | ⟨w1, w2⟩
              · exact Or.inl w
              · exact Or.inr ⟨up1 S w1, w2⟩
            · exact Or.inr ⟨up2 S y1, y2⟩
          · rcases g2h with y | y
            · rcases g1h with w | ⟨S, w1, w2, w3⟩
              · exact Or.inl (by omega)
              · exact Or.inr ⟨S, w1, g2f S w1 w2, by omega⟩
            · exact Or.inr y
          · cases ht : S.testBit t with
            | true =>
              have y := g1i S hS (in1 S h1 h2 hS ht) h2
              refine ⟨by omega, fun e => g2f S hS (y.2 (by omega))⟩
            | false => exact g2i S hS (in2 S h1 ht) h2
    · rw [tI_le, kI_t (by omega), kI_t (by omega)] at z
      refine post J M ⟨fun _ _ _ => rfl, fun _ _ => rfl, jM, Nat.le_refl _, hM, fun _ _ h => h, fun _ _ h => Or.inl h, Or.inl rfl, fun S hS h1 h2 => ?_⟩
      have := Fam_pc h1
      exact ⟨by omega, fun e => by omega⟩
