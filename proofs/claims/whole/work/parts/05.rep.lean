/-! HOW A STATE OF THE ABSTRACT MACHINE STANDS IN THE HEAP; what it is that a run goes from one to another -/
def trv (G : GX) : Value → Value
  | .ref p => .ref (G.2.2.2.1 p)
  | v => v
def GA (G : GX) : Nat → Prop := fun q => G.2.2.2.1 0 ≤ q
def al (h : Hp) (p : Nat) : Prop := p < h.1 ∨ (1000 ≤ p ∧ p < 1000 + h.2.1)
def fsO (G : GX) (h : Hp) (p ci n : Nat) : List Value := (List.range n).map (fun k => if kr ci k = true then va_rf ((h.2.2.2 p k).map G.2.2.2.1) else .int (h.2.2.1 p k))
def cellO (G : GX) (h : Hp) (p : Nat) : va_E :=
  if (SH p).1 < 20 then .inr ((SH p).1, fsO G h p (SH p).1 (SH p).2)
  else if (SH p).1 < 23 then .inl (G.2.2.1 (SH p).1, (SH p).2, .inl (h.2.2.1 p))
  else .inl (G.2.2.1 (SH p).1, (SH p).2, .inr (.inr (.inr (.inr (fun k => (h.2.2.2 p k).map G.2.2.2.1)))))
def pls (h : Hp) : List Nat := List.range h.1 ++ (List.range h.2.1).map (fun i => 1000 + i)
def wsO (G : GX) (h : Hp) : va_W := (pls h).map (fun p => (G.2.2.2.1 p, cellO G h p))
def pix (h : Hp) (p : Nat) : Nat := if p < 1000 then p else h.1 + (p - 1000)
/-- the addresses of places -/
def adO (G : GX) : Prop := ∀ p, (p < 1000 → G.2.2.2.1 p = G.2.2.2.1 0 + p) ∧ (1000 ≤ p → p < 100000 → G.2.2.2.1 p = G.2.2.2.1 0 + 147 + (p - 1000))
def shO (h : Hp) : Prop := h.1 ≤ 147 ∧ (h.2.1 = 0 ∨ h.1 = 147) ∧ h.2.1 ≤ 2000
/-- what is not made holds nothing; the script -/
def zS (G : GX) (h : Hp) : Prop := (∀ p k, ¬ al h p → p < 100000 → h.2.2.1 p k = 0 ∧ h.2.2.2 p k = none) ∧ (∀ k, h.2.2.1 100300 k = G.2.2.2.2.2 k) ∧ h.2.2.1 100301 0 = Int32.ofNat G.2.2.2.2.1
def hrH (G : GX) (h : Hp) (H : Heap) : Prop := shO h ∧ va_P G.2.1 vwCl (wsO G h) H ∧ zS G h
def tyO (G : GX) : List (ClassId × FieldType) := [(G.2.2.1 20, .int), (G.2.2.1 21, .byte), (G.2.2.1 22, .boolean), (G.2.2.1 23, .object "WreckCourt$Sheet"), (G.2.2.1 24, .object "WreckCourt$Fact"), (G.2.2.1 25, .array .int)]
theorem pls_len (h : Hp) : (pls h).length = h.1 + h.2.1 := by simp [pls]
theorem pix_at {h : Hp} {p : Nat} (hs : shO h) (ha : al h p) : (pls h)[pix h p]? = some p := by
  unfold pls pix
  rcases ha with ha | ⟨ha, hb⟩
  · have h1 : p < 1000 := by have := hs.1; omega
    rw [if_pos h1, List.getElem?_append_left (by simpa using ha)]
    simp [ha]
  · rw [if_neg (by omega), List.getElem?_append_right (by simp)]
    simp only [List.length_range]
    rw [show h.1 + (p - 1000) - h.1 = p - 1000 by omega]
    simp [show p - 1000 < h.2.1 by omega]
    omega
theorem pls_al {h : Hp} {i p : Nat} (hi : (pls h)[i]? = some p) : al h p ∧ ∀ (_ : shO h), i = pix h p := by
  unfold pls at hi
  rcases Nat.lt_or_ge i h.1 with q | q
  · rw [List.getElem?_append_left (by simpa using q)] at hi
    simp [q] at hi
    subst hi
    exact ⟨Or.inl q, fun hs => by unfold pix; rw [if_pos (by have := hs.1; omega)]⟩
  · rw [List.getElem?_append_right (by simpa using q)] at hi
    simp only [List.length_range, List.getElem?_map] at hi
    rcases Nat.lt_or_ge (i - h.1) h.2.1 with z | z
    · simp [z] at hi
      subst hi
      exact ⟨Or.inr ⟨by omega, by omega⟩, fun hs => by unfold pix; rw [if_neg (by omega)]; omega⟩
    · rw [List.getElem?_eq_none (by simpa using z)] at hi
      simp at hi
theorem wsO_at {G : GX} {h : Hp} {p : Nat} (hs : shO h) (ha : al h p) : (wsO G h)[pix h p]? = some (G.2.2.2.1 p, cellO G h p) := by
  unfold wsO
  rw [List.getElem?_map, pix_at hs ha]
  rfl
theorem wsO_of {G : GX} {h : Hp} {i : Nat} {q : Nat × va_E} (hi : (wsO G h)[i]? = some q) : ∃ p, (pls h)[i]? = some p ∧ q = (G.2.2.2.1 p, cellO G h p) := by
  unfold wsO at hi
  rw [List.getElem?_map] at hi
  cases hp : (pls h)[i]? with
  | none => rw [hp] at hi; cases hi
  | some p => rw [hp] at hi; exact ⟨p, rfl, (Option.some.inj hi).symm⟩
/-- places that are made lie apart -/
theorem ad_inj {G : GX} {h : Hp} {p q : Nat} (hg : adO G) (hs : shO h) (hp : al h p) (hq : al h q) (e : G.2.2.2.1 p = G.2.2.2.1 q) : p = q := by
  obtain ⟨s1, s2, s3⟩ := hs
  rcases hp with hp | ⟨hp, hp2⟩ <;> rcases hq with hq | ⟨hq, hq2⟩
  · have a1 := (hg p).1 (by omega)
    have a2 := (hg q).1 (by omega)
    omega
  · have a1 := (hg p).1 (by omega)
    have a2 := (hg q).2 (by omega) (by omega)
    omega
  · have a1 := (hg p).2 (by omega) (by omega)
    have a2 := (hg q).1 (by omega)
    omega
  · have a1 := (hg p).2 (by omega) (by omega)
    have a2 := (hg q).2 (by omega) (by omega)
    omega
theorem ad_ge {G : GX} {h : Hp} {p : Nat} (hg : adO G) (hs : shO h) (hp : al h p) : GA G (G.2.2.2.1 p) := by
  obtain ⟨s1, s2, s3⟩ := hs
  show G.2.2.2.1 0 ≤ G.2.2.2.1 p
  rcases hp with hp | ⟨hp, hp2⟩
  · have a1 := (hg p).1 (by omega)
    omega
  · have a1 := (hg p).2 (by omega) (by omega)
    omega
theorem wsO_D {G : GX} {h : Hp} (hg : adO G) (hs : shO h) : va_D (GA G) (wsO G h) := by
  refine ⟨fun i j p q hi hj e => ?_, fun k q hk => ?_⟩
  · obtain ⟨a, ha, rfl⟩ := wsO_of hi
    obtain ⟨b, hb, rfl⟩ := wsO_of hj
    have h1 := ad_inj hg hs (pls_al ha).1 (pls_al hb).1 e
    subst h1
    rw [(pls_al ha).2 hs, (pls_al hb).2 hs]
  · obtain ⟨a, ha, rfl⟩ := wsO_of hk
    exact ad_ge hg hs (pls_al ha).1
theorem wsO_set {G : GX} {h h' : Hp} {p : Nat} (hs : shO h) (ha : al h p) (e1 : h'.1 = h.1) (e2 : h'.2.1 = h.2.1) (hc : ∀ q, q ≠ p → cellO G h' q = cellO G h q) : (wsO G h).set (pix h p) (G.2.2.2.1 p, cellO G h' p) = wsO G h' := by
  have hpl : pls h' = pls h := by unfold pls; rw [e1, e2]
  apply List.ext_getElem?
  intro i
  rw [List.getElem?_set]
  by_cases hi : pix h p = i
  · subst hi
    have := wsO_at (G := G) hs ha
    have hlt : pix h p < (wsO G h).length := (List.getElem?_eq_some_iff.mp this).1
    rw [if_pos rfl, if_pos hlt]
    unfold wsO
    rw [List.getElem?_map, hpl, pix_at hs ha]
    rfl
  · rw [if_neg hi]
    unfold wsO
    rw [List.getElem?_map, List.getElem?_map, hpl]
    cases hq : (pls h)[i]? with
    | none => rfl
    | some q =>
      have hne : q ≠ p := fun e => hi (by rw [← e]; exact ((pls_al hq).2 hs).symm)
      simp only [Option.map_some]
      rw [hc q hne]
theorem okB_al {h : Hp} {p ci : Nat} (hs : shO h) (h1 : okB h p ci = true) : al h p ∧ (SH p).1 = ci := by
  unfold okB at h1
  split at h1
  · simp only [Bool.and_eq_true, decide_eq_true_eq, beq_iff_eq] at h1
    exact ⟨Or.inl h1.1, h1.2⟩
  · rename_i hp
    simp only [Bool.and_eq_true, decide_eq_true_eq, beq_iff_eq] at h1
    refine ⟨Or.inr ⟨by omega, h1.2⟩, ?_⟩
    rw [h1.1]
    unfold SH
    rw [List.getD_eq_getElem?_getD, List.getElem?_eq_none (by have : SHL.length = 147 := by decide +kernel
                                                              omega)]
    rfl
theorem SHlen : SHL.length = 147 := by decide +kernel
theorem SH_hi {p : Nat} (hp : 147 ≤ p) : SH p = (3, 9) := by
  unfold SH
  rw [List.getD_eq_getElem?_getD, List.getElem?_eq_none (by rw [SHlen]; exact hp)]
  rfl
theorem ixB_in {i : Int32} {n : Nat} (h : ixB i n = true) : vp_in i n := by
  unfold ixB at h
  simp only [Bool.and_eq_true, decide_eq_true_eq] at h
  rintro (z | z)
  · exact absurd z (Int32.not_lt.mpr h.1)
  · omega
theorem ck_d {b : Bool} {A : Prop} (h : ck b A) : b = true ∧ A := by
  cases b with
  | false => cases h
  | true => exact ⟨rfl, h⟩
theorem ck_i {b : Bool} {A : Prop} (h : b = true) (a : A) : ck b A := by
  subst h
  exact a
