/-! A TABLE KEPT BY MINUTE: what is told comes behind all that begin by its minute -/
theorem lastI_none {who fr : Nat → Int32} {s m : Int32} : ∀ {n : Nat}, lastI who fr s m n = none ↔ ∀ i, i < n → ¬ (who i = s ∧ (fr i).toInt ≤ m.toInt)
  | 0 => ⟨fun _ i hi => absurd hi (Nat.not_lt_zero i), fun _ => rfl⟩
  | n + 1 => by
    have ih := lastI_none (who := who) (fr := fr) (s := s) (m := m) (n := n)
    unfold lastI
    by_cases c : who n = s ∧ (fr n).toInt ≤ m.toInt
    · rw [if_pos c]
      exact ⟨fun h => (by cases h), fun h => absurd c (h n (by omega))⟩
    · rw [if_neg c, ih]
      refine ⟨fun h i hi => ?_, fun h i hi => h i (by omega)⟩
      rcases Nat.lt_or_ge i n with z | z
      · exact h i z
      · rw [show i = n by omega]; exact c
theorem lastI_some {who fr : Nat → Int32} {s m : Int32} : ∀ {n i : Nat}, lastI who fr s m n = some i ↔ i < n ∧ (who i = s ∧ (fr i).toInt ≤ m.toInt) ∧ ∀ j, i < j → j < n → ¬ (who j = s ∧ (fr j).toInt ≤ m.toInt)
  | 0, i => ⟨fun h => (by cases h), fun h => absurd h.1 (Nat.not_lt_zero i)⟩
  | n + 1, i => by
    have ih := lastI_some (who := who) (fr := fr) (s := s) (m := m) (n := n) (i := i)
    unfold lastI
    by_cases c : who n = s ∧ (fr n).toInt ≤ m.toInt
    · rw [if_pos c]
      constructor
      · intro h
        cases h
        exact ⟨by omega, c, fun j h1 h2 => by omega⟩
      · rintro ⟨h1, h2, h3⟩
        rcases Nat.lt_or_ge i n with z | z
        · exact absurd c (h3 n z (by omega))
        · rw [show i = n by omega]
    · rw [if_neg c, ih]
      constructor
      · rintro ⟨h1, h2, h3⟩
        refine ⟨by omega, h2, fun j hj1 hj2 => ?_⟩
        rcases Nat.lt_or_ge j n with z | z
        · exact h3 j hj1 z
        · rw [show j = n by omega]; exact c
      · rintro ⟨h1, h2, h3⟩
        refine ⟨?_, h2, fun j hj1 hj2 => h3 j hj1 (by omega)⟩
        rcases Nat.lt_or_ge i n with z | z
        · exact z
        · rw [show i = n by omega] at h2; exact absurd h2 c
theorem bestI_cg {who mi who' mi' : Nat → Int32} {s m : Int32} : ∀ {n : Nat}, (∀ i, i < n → who' i = who i ∧ mi' i = mi i) → bestI who' mi' s m n = bestI who mi s m n
  | 0, _ => rfl
  | n + 1, h => by
    have ih := bestI_cg (s := s) (m := m) (n := n) (fun i hi => h i (by omega))
    obtain ⟨h1, h2⟩ := h n (by omega)
    have hb : ∀ j, bestI who mi s m n = some j → j < n := by
      intro j
      clear ih h1 h2 h
      induction n generalizing j with
      | zero => intro z; cases z
      | succ n ih =>
        unfold bestI
        by_cases c : who n = s ∧ (mi n).toInt ≤ m.toInt
        · rw [if_pos c]
          cases hz : bestI who mi s m n with
          | none => intro z; cases z; omega
          | some k =>
            have := ih k hz
            intro z
            simp only at z
            split at z <;> cases z <;> omega
        · rw [if_neg c]
          intro z
          have := ih j z
          omega
    unfold bestI
    rw [ih, h1, h2]
    by_cases c : who n = s ∧ (mi n).toInt ≤ m.toInt
    · rw [if_pos c, if_pos c]
      cases hz : bestI who mi s m n with
      | none => rfl
      | some k =>
        simp only
        rw [(h k (by have := hb k hz; omega)).2]
    · rw [if_neg c, if_neg c]
theorem TR.ins {n a : Nat} {who fr va rw rm rv who' fr' va' rw' rm' rv' : Nat → Int32} {s0 m0 v0 : Int32} (h : TR n who fr va rw rm rv) (ha : a ≤ n) (hlo : ∀ i, i < a → (fr i).toInt ≤ m0.toInt) (hhi : ∀ i, a ≤ i → i < n → m0.toInt < (fr i).toInt)
    (h1 : ∀ i, i < a → who' i = who i ∧ fr' i = fr i ∧ va' i = va i) (h2 : who' a = s0 ∧ fr' a = m0 ∧ va' a = v0) (h3 : ∀ i, a ≤ i → i < n → who' (i + 1) = who i ∧ fr' (i + 1) = fr i ∧ va' (i + 1) = va i)
    (h4 : ∀ k, k < n → rw' k = rw k ∧ rm' k = rm k ∧ rv' k = rv k) (h5 : rw' n = s0 ∧ rm' n = m0 ∧ rv' n = v0) : TR (n + 1) who' fr' va' rw' rm' rv' := by
  obtain ⟨t1, t2, t3⟩ := h
  have hsp : ∀ i, i < n + 1 → (i < a ∨ i = a ∨ ∃ i0, i = i0 + 1 ∧ a ≤ i0 ∧ i0 < n) := fun i hi => by
    rcases Nat.lt_or_ge i a with z | z
    · exact Or.inl z
    · rcases Nat.eq_or_lt_of_le z with z | z
      · exact Or.inr (Or.inl z.symm)
      · exact Or.inr (Or.inr ⟨i - 1, by omega, by omega, by omega⟩)
  refine ⟨fun i j hij hj => ?_, fun s m => ?_, fun i hi => ?_⟩
  · rcases hsp i (by omega) with zi | zi | ⟨i0, zi, zi2, zi3⟩
    · rw [(h1 i zi).2.1]
      rcases hsp j hj with zj | zj | ⟨j0, zj, zj2, zj3⟩
      · rw [(h1 j zj).2.1]; exact t1 i j hij (by omega)
      · rw [zj, h2.2.1]; exact hlo i zi
      · rw [zj, (h3 j0 zj2 zj3).2.1]; exact t1 i j0 (by omega) zj3
    · rcases hsp j hj with zj | zj | ⟨j0, zj, zj2, zj3⟩
      · omega
      · omega
      · rw [zj, zi, (h3 j0 zj2 zj3).2.1, h2.2.1]
        have := hhi j0 zj2 zj3
        omega
    · rcases hsp j hj with zj | zj | ⟨j0, zj, zj2, zj3⟩
      · omega
      · omega
      · rw [zj, zi, (h3 j0 zj2 zj3).2.1, (h3 i0 zi2 zi3).2.1]; exact t1 i0 j0 (by omega) zj3
  · have hb : bestI rw' rm' s m n = bestI rw rm s m n := bestI_cg (fun i hi => ⟨(h4 i hi).1, (h4 i hi).2.1⟩)
    have hbl : ∀ k, bestI rw rm s m n = some k → k < n := by
      intro k hk
      rcases Nat.lt_or_ge k n with z | z
      · exact z
      · exfalso
        have : ∀ (n : Nat) (j : Nat), bestI rw rm s m n = some j → j < n := by
          intro n
          induction n with
          | zero => intro j z; cases z
          | succ n ih =>
            intro j
            unfold bestI
            by_cases c : rw n = s ∧ (rm n).toInt ≤ m.toInt
            · rw [if_pos c]
              cases hz : bestI rw rm s m n with
              | none => intro z; cases z; omega
              | some k =>
                have := ih k hz
                intro z
                simp only at z
                split at z <;> cases z <;> omega
            · rw [if_neg c]
              intro z
              have := ih j z
              omega
        have := this n k hk
        omega
    have q := t2 s m
    by_cases c : s0 = s ∧ m0.toInt ≤ m.toInt
    · -- the new one speaks of s, by m
      have e1 : bestI rw' rm' s m (n + 1) = (match bestI rw rm s m n with
        | none => some n
        | some j => if (rm j).toInt ≤ m0.toInt then some n else some j) := by
        show (if rw' n = s ∧ (rm' n).toInt ≤ m.toInt then (match bestI rw' rm' s m n with
          | none => some n
          | some j => if (rm' j).toInt ≤ (rm' n).toInt then some n else some j) else bestI rw' rm' s m n) = _
        rw [h5.1, h5.2.1, if_pos c, hb]
        cases hz : bestI rw rm s m n with
        | none => rfl
        | some j => simp only; rw [(h4 j (hbl j hz)).2.1]
      rw [e1]
      cases hl : lastI who fr s m n with
      | none =>
        rw [hl] at q
        have hbn : bestI rw rm s m n = none := by
          cases hz : bestI rw rm s m n with
          | none => rfl
          | some j => rw [hz] at q; cases q
        rw [hbn]
        have hn := lastI_none.mp hl
        have e2 : lastI who' fr' s m (n + 1) = some a := lastI_some.mpr ⟨by omega, ⟨by rw [h2.1]; exact c.1, by rw [h2.2.1]; exact c.2⟩, fun j hj1 hj2 => by
          obtain ⟨j0, zj, zj2, zj3⟩ : ∃ j0, j = j0 + 1 ∧ a ≤ j0 ∧ j0 < n := ⟨j - 1, by omega, by omega, by omega⟩
          rw [zj, (h3 j0 zj2 zj3).1, (h3 j0 zj2 zj3).2.1]
          exact hn j0 zj3⟩
        rw [e2]
        show some (fr' a, va' a) = some (rm' n, rv' n)
        rw [h2.2.1, h2.2.2, h5.2.1, h5.2.2]
      | some i =>
        rw [hl] at q
        obtain ⟨k, hbk⟩ : ∃ k, bestI rw rm s m n = some k := by
          cases hz : bestI rw rm s m n with
          | none => rw [hz] at q; cases q
          | some j => exact ⟨j, rfl⟩
        rw [hbk] at q ⊢
        obtain ⟨i1, i2, i3⟩ := lastI_some.mp hl
        have q1 : fr i = rm k ∧ va i = rv k := by
          have := Option.some.inj q
          exact ⟨congrArg Prod.fst this, congrArg Prod.snd this⟩
        rcases Nat.lt_or_ge i a with z | z
        · have e2 : lastI who' fr' s m (n + 1) = some a := lastI_some.mpr ⟨by omega, ⟨by rw [h2.1]; exact c.1, by rw [h2.2.1]; exact c.2⟩, fun j hj1 hj2 => by
            obtain ⟨j0, zj, zj2, zj3⟩ : ∃ j0, j = j0 + 1 ∧ a ≤ j0 ∧ j0 < n := ⟨j - 1, by omega, by omega, by omega⟩
            rw [zj, (h3 j0 zj2 zj3).1, (h3 j0 zj2 zj3).2.1]
            exact i3 j0 (by omega) zj3⟩
          rw [e2]
          simp only
          rw [if_pos (by rw [← q1.1]; exact hlo i z)]
          show some (fr' a, va' a) = some (rm' n, rv' n)
          rw [h2.2.1, h2.2.2, h5.2.1, h5.2.2]
        · have e2 : lastI who' fr' s m (n + 1) = some (i + 1) := lastI_some.mpr ⟨by omega, by rw [(h3 i z i1).1, (h3 i z i1).2.1]; exact i2, fun j hj1 hj2 => by
            obtain ⟨j0, zj, zj2, zj3⟩ : ∃ j0, j = j0 + 1 ∧ a ≤ j0 ∧ j0 < n := ⟨j - 1, by omega, by omega, by omega⟩
            rw [zj, (h3 j0 zj2 zj3).1, (h3 j0 zj2 zj3).2.1]
            exact i3 j0 (by omega) zj3⟩
          rw [e2]
          simp only
          rw [if_neg (by rw [← q1.1]; have := hhi i z i1; omega)]
          show some (fr' (i + 1), va' (i + 1)) = some (rm' k, rv' k)
          rw [(h3 i z i1).2.1, (h3 i z i1).2.2, (h4 k (hbl k hbk)).2.1, (h4 k (hbl k hbk)).2.2, q1.1, q1.2]
    · -- it does not
      have e1 : bestI rw' rm' s m (n + 1) = bestI rw rm s m n := by
        show (if rw' n = s ∧ (rm' n).toInt ≤ m.toInt then _ else bestI rw' rm' s m n) = _
        rw [h5.1, h5.2.1, if_neg c, hb]
      rw [e1]
      have eb : (bestI rw rm s m n).map (fun k => (rm' k, rv' k)) = (bestI rw rm s m n).map (fun k => (rm k, rv k)) := by
        cases hz : bestI rw rm s m n with
        | none => rfl
        | some j =>
          show some (rm' j, rv' j) = some (rm j, rv j)
          rw [(h4 j (hbl j hz)).2.1, (h4 j (hbl j hz)).2.2]
      rw [eb, ← q]
      cases hl : lastI who fr s m n with
      | none =>
        have hn := lastI_none.mp hl
        have e2 : lastI who' fr' s m (n + 1) = none := lastI_none.mpr (fun j hj => by
          rcases hsp j hj with zj | zj | ⟨j0, zj, zj2, zj3⟩
          · rw [(h1 j zj).1, (h1 j zj).2.1]; exact hn j (by omega)
          · rw [zj, h2.1, h2.2.1]; exact c
          · rw [zj, (h3 j0 zj2 zj3).1, (h3 j0 zj2 zj3).2.1]; exact hn j0 zj3)
        rw [e2]
        rfl
      | some i =>
        obtain ⟨i1, i2, i3⟩ := lastI_some.mp hl
        rcases Nat.lt_or_ge i a with z | z
        · have e2 : lastI who' fr' s m (n + 1) = some i := lastI_some.mpr ⟨by omega, by rw [(h1 i z).1, (h1 i z).2.1]; exact i2, fun j hj1 hj2 => by
            rcases hsp j hj2 with zj | zj | ⟨j0, zj, zj2, zj3⟩
            · rw [(h1 j zj).1, (h1 j zj).2.1]; exact i3 j hj1 (by omega)
            · rw [zj, h2.1, h2.2.1]; exact c
            · rw [zj, (h3 j0 zj2 zj3).1, (h3 j0 zj2 zj3).2.1]; exact i3 j0 (by omega) zj3⟩
          rw [e2]
          show some (fr' i, va' i) = some (fr i, va i)
          rw [(h1 i z).2.1, (h1 i z).2.2]
        · have e2 : lastI who' fr' s m (n + 1) = some (i + 1) := lastI_some.mpr ⟨by omega, by rw [(h3 i z i1).1, (h3 i z i1).2.1]; exact i2, fun j hj1 hj2 => by
            obtain ⟨j0, zj, zj2, zj3⟩ : ∃ j0, j = j0 + 1 ∧ a ≤ j0 ∧ j0 < n := ⟨j - 1, by omega, by omega, by omega⟩
            rw [zj, (h3 j0 zj2 zj3).1, (h3 j0 zj2 zj3).2.1]
            exact i3 j0 (by omega) zj3⟩
          rw [e2]
          show some (fr' (i + 1), va' (i + 1)) = some (fr i, va i)
          rw [(h3 i z i1).2.1, (h3 i z i1).2.2]
  · rcases hsp i hi with z | z | ⟨i0, z, z2, z3⟩
    · obtain ⟨k, k1, k2, k3, k4⟩ := t3 i (by omega)
      refine ⟨k, by omega, ?_⟩
      rw [(h1 i z).1, (h1 i z).2.1, (h1 i z).2.2, (h4 k k1).1, (h4 k k1).2.1, (h4 k k1).2.2]
      exact ⟨k2, k3, k4⟩
    · refine ⟨n, by omega, ?_⟩
      rw [z, h2.1, h2.2.1, h2.2.2, h5.1, h5.2.1, h5.2.2]
      exact ⟨rfl, rfl, rfl⟩
    · obtain ⟨k, k1, k2, k3, k4⟩ := t3 i0 z3
      refine ⟨k, by omega, ?_⟩
      rw [z, (h3 i0 z2 z3).1, (h3 i0 z2 z3).2.1, (h3 i0 z2 z3).2.2, (h4 k k1).1, (h4 k k1).2.1, (h4 k k1).2.2]
      exact ⟨k2, k3, k4⟩
