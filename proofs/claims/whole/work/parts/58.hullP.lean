/-! THE HULL: no hold has less than nothing, nor more than its room; so the class's ways are the reference's -/
def BD (rm l : Nat → Int32) : Prop := ∀ h, h < 6 → 0 ≤ (l h).toInt ∧ (l h).toInt ≤ (rm h).toInt
def RMok (rm : Nat → Int32) : Prop := ∀ h, h < 6 → 1 ≤ (rm h).toInt ∧ (rm h).toInt ≤ 1000
theorem BD.up {rm l : Nat → Int32} {h : Nat} {x : Int32} (b : BD rm l) (h0 : 0 ≤ x.toInt) (h1 : x.toInt ≤ (rm h).toInt) : BD rm (upF l h x) := fun k hk => by
  by_cases e : k = h
  · subst e; rw [upF_same]; exact ⟨h0, h1⟩
  · rw [upF_ne e]; exact b k hk
/-- a hole: both ways -/
theorem ho1_eq {rm l : Nat → Int32} {h : Nat} {rate : Int32} (hr : RMok rm) (b : BD rm l) (hh : h < 6) (h0 : 0 ≤ rate.toInt) (h1 : rate.toInt ≤ 100) : ho1 rm h rate l = upF l h (l h + (if rm h - l h < rate then rm h - l h else rate)) ∧ BD rm (ho1 rm h rate l) := by
  have b1 := b h hh
  have r1 := hr h hh
  have e1 : (rm h - l h).toInt = (rm h).toInt - (l h).toInt := fb_subI (by omega) (by omega)
  have e2 : (if (rm h - l h).toInt ≤ 0 then 0 else mnI rate (rm h - l h)) = (if rm h - l h < rate then rm h - l h else rate) := by
    rw [tI_eq]
    unfold mnI
    by_cases c1 : (rm h - l h).toInt ≤ 0
    · rw [if_pos c1]
      by_cases c2 : rm h - l h < rate
      · rw [if_pos c2]; simp only [Int32.reduceToInt]; omega
      · rw [if_neg c2]; rw [tI_lt] at c2; simp only [Int32.reduceToInt]; omega
    · rw [if_neg c1]
      by_cases c2 : rm h - l h < rate
      · rw [if_pos c2, if_neg (by rw [tI_lt] at c2 ⊢; omega)]
      · rw [if_neg c2]
        by_cases c3 : rate < rm h - l h
        · rw [if_pos c3]
        · rw [if_neg c3]; rw [tI_lt] at c2 c3; omega
  have e3 : ((if rm h - l h < rate then rm h - l h else rate)).toInt ≤ (rm h).toInt - (l h).toInt ∧ 0 ≤ ((if rm h - l h < rate then rm h - l h else rate)).toInt := by
    by_cases c2 : rm h - l h < rate
    · rw [if_pos c2]; omega
    · rw [if_neg c2]; rw [tI_lt] at c2; omega
  have e4 : ho1 rm h rate l = upF l h (l h + (if rm h - l h < rate then rm h - l h else rate)) := by unfold ho1; rw [e2]
  refine ⟨e4, ?_⟩
  rw [e4]
  have e5 : (l h + (if rm h - l h < rate then rm h - l h else rate)).toInt = (l h).toInt + (if rm h - l h < rate then rm h - l h else rate).toInt := fb_addI (by omega) (by omega)
  exact b.up (by omega) (by omega)
theorem BD_hlS {rm ho hm hr l : Nat → Int32} {th v : Int32} {m : Nat} (hrm : RMok rm) (b : BD rm l) : ∀ n, (∀ k, k < n → (0 ≤ (ho k).toInt ∧ (ho k).toInt ≤ 5) ∧ 0 ≤ (hr k).toInt ∧ (hr k).toInt ≤ 100) → BD rm (hlS rm ho hm hr th v m l n)
  | 0, _ => b
  | n + 1, h => by
    have ih := BD_hlS (th := th) (v := v) (m := m) (hm := hm) hrm b n (fun k hk => h k (by omega))
    have q := h n (by omega)
    unfold hlS
    split
    · exact (ho1_eq hrm ih (by omega) q.2.1 q.2.2).2
    · exact ih
theorem hf2 : ∀ x : Int32, 0 ≤ x.toInt → x.toInt ≤ 1000 → (x / 2).toInt = x.toInt / 2 := fun x h0 h1 => by
  rw [Int32.toInt_div, show (2 : Int32).toInt = 2 by decide, Int.tdiv_eq_ediv_of_nonneg h0, fb_bmod (by omega) (by omega)]
theorem upF_sw {l : Nat → Int32} {a b : Nat} {x y : Int32} (h : a ≠ b) : upF (upF l a x) b y = upF (upF l b y) a x := by
  funext k
  unfold upF
  by_cases e1 : k = b
  · rw [if_pos e1, if_neg (by omega), if_pos e1]
  · rw [if_neg e1]
    by_cases e2 : k = a
    · rw [if_pos e2, if_pos e2]
    · rw [if_neg e2, if_neg e2, if_neg e1]
theorem mn_eq {a r : Int32} (h : 0 ≤ r.toInt) : mnI a (if r.toInt < 0 then 0 else r) = (if r < a then r else a) := by
  rw [if_neg (by omega)]
  unfold mnI
  by_cases c : r < a
  · rw [if_pos c, if_neg (by rw [tI_lt] at c ⊢; omega)]
  · rw [if_neg c]
    by_cases c2 : a < r
    · rw [if_pos c2]
    · rw [if_neg c2, tI_eq]; rw [tI_lt] at c c2; omega
/-- what goes from g to t, which has no more -/
def gow (rm l : Nat → Int32) (t g : Nat) : Int32 := if rm t - l t < (l g - l t) / 2 then rm t - l t else (l g - l t) / 2
theorem gow_rng {rm l : Nat → Int32} {t g : Nat} (hr : RMok rm) (b : BD rm l) (ht : t < 6) (hg : g < 6) (hl : (l t).toInt ≤ (l g).toInt) : 0 ≤ (gow rm l t g).toInt ∧ (gow rm l t g).toInt ≤ (rm t).toInt - (l t).toInt ∧ (gow rm l t g).toInt ≤ (l g).toInt := by
  have bt := b t ht
  have bg := b g hg
  have rt := hr t ht
  have rg := hr g hg
  have e1 : (rm t - l t).toInt = (rm t).toInt - (l t).toInt := fb_subI (by omega) (by omega)
  have e2 : (l g - l t).toInt = (l g).toInt - (l t).toInt := fb_subI (by omega) (by omega)
  have e3 := hf2 (l g - l t) (by omega) (by omega)
  unfold gow
  by_cases c : rm t - l t < (l g - l t) / 2
  · rw [if_pos c]; rw [tI_lt] at c; omega
  · rw [if_neg c]; rw [tI_lt] at c; omega
theorem BD_mv {rm l : Nat → Int32} {t g : Nat} (hr : RMok rm) (b : BD rm l) (ht : t < 6) (hg : g < 6) (hl : (l t).toInt ≤ (l g).toInt) : BD rm (upF (upF l t (l t + gow rm l t g)) g (l g - gow rm l t g)) := by
  have bt := b t ht
  have bg := b g hg
  have rt := hr t ht
  have rg := hr g hg
  have q := gow_rng hr b ht hg hl
  have e1 : (l t + gow rm l t g).toInt = (l t).toInt + (gow rm l t g).toInt := fb_addI (by omega) (by omega)
  have e2 : (l g - gow rm l t g).toInt = (l g).toInt - (gow rm l t g).toInt := fb_subI (by omega) (by omega)
  exact (b.up (h := t) (by omega) (by omega)).up (by omega) (by omega)
/-- a door that is open: both ways -/
theorem dr1_le {rm l : Nat → Int32} {d : Nat} (hr : RMok rm) (b : BD rm l) (hd : d < 5) (hl : (l d).toInt ≤ (l (d + 1)).toInt) : dr1 true rm d l = upF (upF l d (l d + gow rm l d (d + 1))) (d + 1) (l (d + 1) - gow rm l d (d + 1)) := by
  have bt := b d (by omega)
  have bg := b (d + 1) (by omega)
  have rt := hr d (by omega)
  have rg := hr (d + 1) (by omega)
  have e0 : (l d - l (d + 1)).toInt = (l d).toInt - (l (d + 1)).toInt := fb_subI (by omega) (by omega)
  have e1 : (rm d - l d).toInt = (rm d).toInt - (l d).toInt := fb_subI (by omega) (by omega)
  have ea : (if (l d - l (d + 1)).toInt < 0 then -(l d - l (d + 1)) else l d - l (d + 1)) = l (d + 1) - l d := by
    rw [tI_eq, fb_subI (x := l (d + 1)) (by omega) (by omega)]
    by_cases c : (l d - l (d + 1)).toInt < 0
    · rw [if_pos c, Int32.toInt_neg, fb_bmod (by omega) (by omega), e0]; omega
    · rw [if_neg c, e0]; omega
  have hn : ¬ 0 < (l d - l (d + 1)).toInt := by omega
  unfold dr1
  simp only [if_neg hn]
  rw [ea, mn_eq (by omega)]
  rfl
theorem dr1_gt {rm l : Nat → Int32} {d : Nat} (hr : RMok rm) (b : BD rm l) (hd : d < 5) (hl : (l (d + 1)).toInt < (l d).toInt) : dr1 true rm d l = upF (upF l (d + 1) (l (d + 1) + gow rm l (d + 1) d)) d (l d - gow rm l (d + 1) d) := by
  have bt := b d (by omega)
  have bg := b (d + 1) (by omega)
  have rt := hr d (by omega)
  have rg := hr (d + 1) (by omega)
  have e0 : (l d - l (d + 1)).toInt = (l d).toInt - (l (d + 1)).toInt := fb_subI (by omega) (by omega)
  have e1 : (rm (d + 1) - l (d + 1)).toInt = (rm (d + 1)).toInt - (l (d + 1)).toInt := fb_subI (by omega) (by omega)
  have hp : 0 < (l d - l (d + 1)).toInt := by omega
  have hn : ¬ (l d - l (d + 1)).toInt < 0 := by omega
  unfold dr1
  simp only [if_pos hp, if_neg hn]
  rw [mn_eq (by omega)]
  rfl
theorem dr1_no {rm l : Nat → Int32} {d : Nat} : dr1 false rm d l = l := by
  unfold dr1
  funext k
  by_cases c : 0 < (l d - l (d + 1)).toInt
  · simp only [if_pos c, Int32.add_zero, Int32.sub_zero]
    unfold upF
    by_cases e1 : k = d
    · rw [if_pos e1, e1]
    · rw [if_neg e1]
      by_cases e2 : k = d + 1
      · rw [if_pos e2, e2]
      · rw [if_neg e2]
  · simp only [if_neg c, Int32.add_zero, Int32.sub_zero]
    unfold upF
    by_cases e1 : k = d + 1
    · rw [if_pos e1, e1]
    · rw [if_neg e1]
      by_cases e2 : k = d
      · rw [if_pos e2, e2]
      · rw [if_neg e2]
theorem BD_dr1 {rm l : Nat → Int32} {d : Nat} {o : Bool} (hr : RMok rm) (b : BD rm l) (hd : d < 5) : BD rm (dr1 o rm d l) := by
  cases o with
  | false => rw [dr1_no]; exact b
  | true =>
    by_cases c : (l d).toInt ≤ (l (d + 1)).toInt
    · rw [dr1_le hr b hd c]; exact BD_mv hr b (by omega) (by omega) c
    · rw [dr1_gt hr b hd (by omega)]; exact BD_mv hr b (by omega) (by omega) (by omega)
theorem BD_drS {rm dw dt dp l : Nat → Int32} {nd m : Nat} {th v : Int32} (hr : RMok rm) (b : BD rm l) : ∀ n, n ≤ 5 → BD rm (drS rm dw dt dp nd th v m l n)
  | 0, _ => b
  | n + 1, h => BD_dr1 hr (BD_drS hr b n (by omega)) (by omega)
theorem pm_eq {pp x : Int32} : mnI pp x = (if x < pp then x else pp) := by
  unfold mnI
  by_cases c : pp < x
  · rw [if_pos c, if_neg (by rw [tI_lt] at c ⊢; omega)]
  · rw [if_neg c]
    by_cases c2 : x < pp
    · rw [if_pos c2]
    · rw [if_neg c2, tI_eq]; rw [tI_lt] at c c2; omega
theorem BD_pmS {rm l : Nat → Int32} {pp : Int32} (hr : RMok rm) (b : BD rm l) (h0 : 0 ≤ pp.toInt) : BD rm (pmS pp l) := by
  have hx := mxH_le l 5
  have bx := b (mxH l 5) (by omega)
  have rx := hr (mxH l 5) (by omega)
  unfold pmS
  have q : 0 ≤ (mnI pp (l (mxH l 5))).toInt ∧ (mnI pp (l (mxH l 5))).toInt ≤ (l (mxH l 5)).toInt := by
    unfold mnI
    by_cases c : pp < l (mxH l 5)
    · rw [if_pos c]; rw [tI_lt] at c; omega
    · rw [if_neg c]; omega
  have e : (l (mxH l 5) - mnI pp (l (mxH l 5))).toInt = (l (mxH l 5)).toInt - (mnI pp (l (mxH l 5))).toInt := fb_subI (by omega) (by omega)
  exact b.up (by omega) (by omega)
theorem BD_wl {I : St} (r : RC5 I) {th v : Int32} (hv : th = 2 → 0 ≤ v.toInt) : ∀ m, BD (I 112) (wlI I th v m)
  | 0 => fun h hh => by
    have := (r.2.2.2.2.2.2.1 h hh)
    show 0 ≤ (0 : Int32).toInt ∧ (0 : Int32).toInt ≤ _
    simp only [Int32.reduceToInt]
    omega
  | m + 1 => by
    have hr : RMok (I 112) := fun h hh => (r.2.2.2.2.2.2.1 h hh).2
    rw [wlI_s]
    refine BD_pmS hr (BD_drS hr (BD_hlS hr (BD_wl r hv m) _ (fun k hk => ?_)) 5 (Nat.le_refl 5)) ?_
    · have := r.1
      have q := r.2.2.2.2.2.1 k (by omega)
      exact ⟨q.1.2, q.2.2.2⟩
    · by_cases c : th = 2
      · rw [if_pos c]; exact hv c
      · rw [if_neg c]; exact r.2.1.2.1
