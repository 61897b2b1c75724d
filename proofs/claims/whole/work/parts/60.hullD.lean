/-! THE HULL, the class's: the doors -/
/-- of the first n entries the last that speaks of door s; open where none does -/
def lastD (who va : Nat → Int32) (s : Int32) : Nat → Int32
  | 0 => 1
  | k + 1 => if who k = s then va k else lastD who va s k
theorem lastD_of {who fr va : Nat → Int32} {s m : Int32} : ∀ {n a : Nat}, a ≤ n → (∀ i, i < a → (fr i).toInt ≤ m.toInt) → (∀ i, a ≤ i → i < n → m.toInt < (fr i).toInt) → (match lastI who fr s m n with
    | none => 1
    | some i => va i) = lastD who va s a
  | 0, a, h, _, _ => by
    have : a = 0 := by omega
    subst this
    rfl
  | n + 1, a, h, h1, h2 => by
    rcases Nat.eq_or_lt_of_le h with e | e
    · subst e
      have c1 := h1 n (by omega)
      have ih := lastD_of (who := who) (fr := fr) (va := va) (s := s) (m := m) (n := n) (a := n) (Nat.le_refl n) (fun i hi => h1 i (by omega)) (fun i h3 h4 => by omega)
      unfold lastI lastD
      by_cases c : who n = s
      · rw [if_pos ⟨c, c1⟩, if_pos c]
      · rw [if_neg (fun z => c z.1), if_neg c]
        exact ih
    · have c1 := h2 n (by omega) (by omega)
      have ih := lastD_of (who := who) (fr := fr) (va := va) (s := s) (m := m) (n := n) (a := a) (by omega) h1 (fun i h3 h4 => h2 i h3 (by omega))
      unfold lastI
      rw [if_neg (fun z => by omega)]
      exact ih
theorem lastD_s (who va : Nat → Int32) (s : Int32) (k : Nat) : lastD who va s (k + 1) = if who k = s then va k else lastD who va s k := rfl
theorem playD_loop {G : GX} {d f : Nat} {sw : Bool} {I B : St} {P : Nat → Prop} {m : Nat} {Q : Option Value → Hp → Prop} (r : RC5 I) (hB : ∀ p, 30 ≤ p → p ≤ 33 → B p = I p) (hm : m < 240) (q : ∀ a J, a ≤ (I 93 26).toInt.toNat → (∀ i, i < a → (I 32 i).toInt ≤ m) → (∀ i, a ≤ i → i < (I 93 26).toInt.toNat → m < (I 32 i).toInt) → (∀ p, p ≠ 38 → J p = B p) → (∀ s, s < 5 → ¬ P s → J 38 s = lastD (I 31) (I 33) (Int32.ofNat s) a) → Q (some (.int (Int32.ofNat a))) (147, f, J, RP f sw)) : ∀ (c a : Nat) (J : St), a + c = (I 93 26).toInt.toNat → (∀ i, i < a → (I 32 i).toInt ≤ m) → (∀ p, p ≠ 38 → J p = B p) → (∀ s, s < 5 → ¬ P s → J 38 s = lastD (I 31) (I 33) (Int32.ofNat s) a) → wp G (d + 20) (mt 41) 2 [some (.ref 30), some (.int (Int32.ofNat m)), none, some (.ref 38), some (.int (Int32.ofNat a))] [] (147, f, J, RP f sw) Q
  | 0, a, J, h, h1, h2, h3 => by
    obtain ⟨-, -, -, ⟨o1, o2, o3⟩, -⟩ := id r
    refine v_playD2 oks ?_
    have j3 : J 30 3 = I 93 26 := by rw [h2 30 (by decide), hB 30 (by decide) (by decide)]; exact o1
    rw [j3, if_pos (by rw [tI_le, kI_t (by omega)]; omega)]
    exact q a J (by omega) h1 (fun i h4 h5 => by omega) h2 h3
  | c + 1, a, J, h, h1, h2, h3 => by
    obtain ⟨-, -, -, ⟨o1, o2, o3⟩, -, -, -, r4, ⟨t1, t2, t3⟩, -⟩ := id r
    refine v_playD2 oks ?_
    have j3 : J 30 3 = I 93 26 := by rw [h2 30 (by decide), hB 30 (by decide) (by decide)]; exact o1
    obtain ⟨k, k1, k2, k3, k4⟩ := t3 a (by omega)
    have b := r4 k (by omega)
    rw [← k2] at b
    rw [j3, if_neg (by rw [tI_le, kI_t (by omega)]; omega), kI_1, kI_c (by omega), h2 31 (by decide), h2 32 (by decide), h2 33 (by decide), hB 31 (by decide) (by decide), hB 32 (by decide) (by decide), hB 33 (by decide) (by decide)]
    have xa : ixB (Int32.ofNat a) 30 = true := kI_x (by omega) (by omega)
    refine ck_of xa ?_
    refine ite_i (fun z => ?_) (fun z => ?_)
    · rw [tI_lt, kI_t (by omega)] at z
      refine q a J (by omega) h1 (fun i h4 h5 => ?_) h2 h3
      rcases Nat.eq_or_lt_of_le h4 with e | e
      · rw [← e]; exact z
      · have := t1 a i e h5
        omega
    · rw [tI_lt, kI_t (by omega)] at z
      refine ck_of xa (ck_of xa (ck_of (ixB_i b.1.1 (by omega)) ?_))
      refine playD_loop (P := P) r hB hm q c (a + 1) _ (by omega) (fun i hi => ?_) (fun p hp => ?_) (fun s hs hP => ?_)
      · rcases Nat.lt_or_ge i a with y | y
        · exact h1 i y
        · rw [show i = a by omega]; omega
      · rw [upI_row hp]; exact h2 p hp
      · rw [lastD_s]
        by_cases e : I 31 a = Int32.ofNat s
        · rw [if_pos e, e, kI_c (by omega), upI_same]
        · rw [if_neg e, upI_nk (fun y => e (by
            have y2 := y.2
            rw [tnc] at y2
            rw [tI_eq, kI_t (by omega)]
            omega))]
          exact h3 s hs hP
theorem open_last {I : St} (r : RC5 I) {s m a : Nat} (hm : m < 240) (ha : a ≤ (I 93 26).toInt.toNat) (h1 : ∀ i, i < a → (I 32 i).toInt ≤ m) (h2 : ∀ i, a ≤ i → i < (I 93 26).toInt.toNat → m < (I 32 i).toInt) : lastD (I 31) (I 33) (Int32.ofNat s) a = b2 (isO (I 113) (I 114) (I 115) (I 93 26).toInt.toNat s m) := by
  obtain ⟨-, -, -, ⟨o1, o2, o3⟩, -, -, -, r4, ⟨t1, t2, t3⟩, -⟩ := id r
  have e : (Int32.ofNat m).toInt = m := kI_t (by omega)
  have q := lastD_of (who := I 31) (fr := I 32) (va := I 33) (s := Int32.ofNat s) (m := Int32.ofNat m) ha (fun i hi => by rw [e]; exact h1 i hi) (fun i h3 h4 => by rw [e]; exact h2 i h3 h4)
  rw [← q]
  have p := t2 (Int32.ofNat s) (Int32.ofNat m)
  unfold isO
  cases hl : lastI (I 31) (I 32) (Int32.ofNat s) (Int32.ofNat m) (I 93 26).toInt.toNat with
  | none =>
    rw [hl] at p
    cases hb : bestI (I 113) (I 114) (Int32.ofNat s) (Int32.ofNat m) (I 93 26).toInt.toNat with
    | none => rfl
    | some k => rw [hb] at p; cases p
  | some i =>
    rw [hl] at p
    cases hb : bestI (I 113) (I 114) (Int32.ofNat s) (Int32.ofNat m) (I 93 26).toInt.toNat with
    | none => rw [hb] at p; cases p
    | some k =>
      rw [hb] at p
      have e2 : I 33 i = I 115 k := congrArg Prod.snd (Option.some.inj p)
      have hk := bestI_lt hb
      have b := (r4 k (by omega)).2.2
      show I 33 i = b2 (decide (I 115 k = 1))
      rw [e2]
      by_cases e3 : I 115 k = 1
      · rw [e3]; rfl
      · rw [decide_eq_false e3]
        rw [tI_eq] at e3
        show I 115 k = 0
        rw [tI_eq]
        simp only [Int32.reduceToInt] at e3 ⊢
        omega
/-- the play under way: m minutes are done -/
def PI (I : St) (u1 th v : Int32) (m : Nat) (K : St) : Prop := (∀ p, p ≠ 38 → p ≠ 39 → ¬ (41 ≤ p ∧ p ≤ 46) → K p = I p) ∧ (∀ h, h < 6 → K 39 h = wlI I th v m h) ∧ (u1 ≠ -1 → ∀ p, 41 ≤ p → p ≤ 46 → K p = I p) ∧ (u1 = -1 → ∀ h, h < 6 → ∀ j, j ≤ m → K (41 + h) j = wlI I th v j h)
