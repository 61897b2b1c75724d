/-! THE CLASS'S JUDGE -/
theorem subH {S H : Nat} : (S &&& H = S) ↔ ∀ i, S.testBit i = true → H.testBit i = true := by
  constructor
  · intro h i hi
    rw [← h, Nat.testBit_and, Bool.and_eq_true] at hi
    exact hi.2
  · intro h
    apply Nat.eq_of_testBit_eq
    intro i
    rw [Nat.testBit_and]
    cases hs : S.testBit i with
    | false => rfl
    | true => rw [h i hs]; rfl
theorem clk_ix {c0 c1 c2 : Int} (h : Clk c0 c1 c2) : ∃ c : Nat, c < 343 ∧ clk c = (c0, c1, c2) := by
  obtain ⟨⟨a1, a2⟩, ⟨b1, b2'⟩, d1, d2⟩ := h
  refine ⟨(49 * (c0 + 3) + 7 * (c1 + 3) + (c2 + 3)).toNat, by omega, ?_⟩
  unfold clk
  refine Prod.ext ?_ (Prod.ext ?_ ?_)
  · show (((49 * (c0 + 3) + 7 * (c1 + 3) + (c2 + 3)).toNat / 49 : Nat) : Int) - 3 = c0
    omega
  · show (((49 * (c0 + 3) + 7 * (c1 + 3) + (c2 + 3)).toNat / 7 % 7 : Nat) : Int) - 3 = c1
    omega
  · show (((49 * (c0 + 3) + 7 * (c1 + 3) + (c2 + 3)).toNat % 7 : Nat) : Int) - 3 = c2
    omega
theorem clk_in {c : Nat} (h : c < 343) : Clk (clk c).1 (clk c).2.1 (clk c).2.2 := by
  unfold clk Clk
  refine ⟨?_, ?_, ?_⟩
  · show -3 ≤ ((c / 49 : Nat) : Int) - 3 ∧ ((c / 49 : Nat) : Int) - 3 ≤ 3
    omega
  · show -3 ≤ ((c / 7 % 7 : Nat) : Int) - 3 ∧ ((c / 7 % 7 : Nat) : Int) - 3 ≤ 3
    omega
  · show -3 ≤ ((c % 7 : Nat) : Int) - 3 ∧ ((c % 7 : Nat) : Int) - 3 ≤ 3
    omega
theorem fit_of {I : St} {H S : Nat} {c0 c1 c2 : Int} (hc : Clk c0 c1 c2) (hs : ∀ i, S.testBit i = true → H.testBit i = true) (ho : okS (qrF I c0 c1 c2) S = true) : fitS I H S = true := by
  obtain ⟨c, h1, h2⟩ := clk_ix hc
  unfold fitS
  rw [decide_eq_true (subH.mpr hs), Bool.true_and, List.any_eq_true]
  refine ⟨c, List.mem_range.mpr h1, ?_⟩
  rw [h2]
  exact ho
theorem fit_ex {I : St} {H S : Nat} (h : fitS I H S = true) : (∀ i, S.testBit i = true → H.testBit i = true) ∧ ∃ c0 c1 c2, Clk c0 c1 c2 ∧ okS (qrF I c0 c1 c2) S = true := by
  unfold fitS at h
  rw [Bool.and_eq_true, decide_eq_true_eq, List.any_eq_true] at h
  obtain ⟨h1, c, h2, h3⟩ := h
  exact ⟨subH.mp h1, _, _, _, clk_in (List.mem_range.mp h2), h3⟩
theorem fit_0 (I : St) (H : Nat) : fitS I H 0 = true := fit_of (c0 := 0) (c1 := 0) (c2 := 0) ⟨⟨by omega, by omega⟩, ⟨by omega, by omega⟩, by omega, by omega⟩ (fun i hi => by rw [Nat.zero_testBit] at hi; cases hi) (okS_iff.mpr (fun a b _ _ ha _ => by rw [Nat.zero_testBit] at ha; cases ha))
theorem wrB_of {I : St} {H p k : Nat} (h1 : H.testBit k = true) (h2 : wdF I k = true) (h3 : I 126 k = Int32.ofNat p) : ∀ n, k < n → wrB I H p n = true
  | 0, h => by omega
  | n + 1, h => by
    rw [wrB_s]
    by_cases e : k = n
    · rw [← e, h1, h2, h3, decide_eq_true rfl]; exact Bool.or_true _
    · rw [wrB_of h1 h2 h3 n (by omega), Bool.true_or]
/-- a clock by which nothing was heard moves nothing -/
theorem ok_inv {f H S : Nat} {I : St} {c0 c1 c2 e0 e1 e2 : Int} (r : RC6 f I) (hH : H < 2 ^ f) (hs : ∀ i, S.testBit i = true → H.testBit i = true) (h0 : wrB I H 0 f = true → c0 = e0) (h1 : wrB I H 1 f = true → c1 = e1) (h2 : wrB I H 2 f = true → c2 = e2) : okS (qrF I c0 c1 c2) S = okS (qrF I e0 e1 e2) S := by
  have tm : ∀ a, S.testBit a = true → tmF I c0 c1 c2 a = tmF I e0 e1 e2 a := fun a ha => by
    have af : a < f := sub_lt hH (subH.mpr hs) ha
    have p1 := (r.2.2.2.1 a af).2.1.2
    cases hw : wdF I a with
    | false => rw [tmF_f hw, tmF_f hw]
    | true =>
      rw [tmF_t hw, tmF_t hw]
      rcases per3 p1.1 p1.2 with e | e | e
      · rw [if_pos e, if_pos e, h0 (wrB_of (hs a ha) hw (by rw [e]; rfl) f af)]
      · rw [e, if_neg (by decide), if_pos rfl, if_neg (by decide), if_pos rfl, h1 (wrB_of (hs a ha) hw (by rw [e]; rfl) f af)]
      · rw [e, if_neg (by decide), if_neg (by decide), if_neg (by decide), if_neg (by decide), h2 (wrB_of (hs a ha) hw (by rw [e]; rfl) f af)]
  refine okS_cg (fun a b ha hb => ?_)
  unfold qrF
  rw [tm a ha, tm b hb]
/-- the judge on its way: the clocks P are through -/
def JI (I : St) (H : Nat) (W : Nat → Int32) (P : Int → Int → Int → Prop) (J : St) (M : Nat) : Prop := CJ I J ∧ J 47 5 = Int32.ofNat H ∧ (∀ p, p < 3 → J 51 p = W p) ∧ J 47 2 = Int32.ofNat M ∧ M ≤ 12 ∧ (∀ S, S < 4096 → FSb J S = true → fitS I H S = true) ∧ (M = 0 ∨ ∃ S, S < 4096 ∧ FSb J S = true ∧ pcN S = M) ∧ ∀ c0 c1 c2, P c0 c1 c2 → ∀ S, S < 4096 → (∀ i, S.testBit i = true → H.testBit i = true) → okS (qrF I c0 c1 c2) S = true → pcN S ≤ M ∧ (pcN S = M → FSb J S = true)
theorem JI.mono {I : St} {H M : Nat} {W : Nat → Int32} {P P' : Int → Int → Int → Prop} {J : St} (h : JI I H W P J M) (hp : ∀ a b c, P' a b c → P a b c) : JI I H W P' J M := ⟨h.1, h.2.1, h.2.2.1, h.2.2.2.1, h.2.2.2.2.1, h.2.2.2.2.2.1, h.2.2.2.2.2.2.1, fun a b c hq => h.2.2.2.2.2.2.2 a b c (hp a b c hq)⟩
theorem addI1 {x : Int32} (h1 : -100 ≤ x.toInt) (h2 : x.toInt ≤ 100) : (x + Int32.ofInt 1).toInt = x.toInt + 1 := by
  have e : (Int32.ofInt 1).toInt = 1 := by decide
  rw [fb_addI (by rw [e]; omega) (by rw [e]; omega), e]
theorem jl2 {G : GX} {d f H : Nat} {sw : Bool} {I : St} {W : Nat → Int32} {u2 u3 : Int32} {Q : Option Value → Hp → Prop} (r : RC6 f I) (hH : H < 2 ^ f) (b2' : -3 ≤ u2.toInt ∧ u2.toInt ≤ 3) (b3 : -3 ≤ u3.toInt ∧ u3.toInt ≤ 3) (hW : 0 ≤ (W 2).toInt ∧ (W 2).toInt ≤ 3) : ∀ (n : Nat) (u4 : Int32) (J : St) (M : Nat) (P : Int → Int → Int → Prop), u4.toInt + n = (W 2).toInt + 1 → -3 ≤ u4.toInt → JI I H W P J M → (∀ K M', JI I H W (fun a b c => P a b c ∨ (a = u2.toInt ∧ b = u3.toInt ∧ u4.toInt ≤ c ∧ c ≤ (W 2).toInt)) K M' → wp G (d + 120) (mt 99) 35 [some (.ref 47), some (.int (Int32.ofNat H)), some (.int u2), some (.int (u3 + Int32.ofInt 1)), none] [] (147, f, K, RP f sw) Q) → wp G (d + 120) (mt 99) 47 [some (.ref 47), some (.int (Int32.ofNat H)), some (.int u2), some (.int u3), some (.int u4)] [] (147, f, J, RP f sw) Q
  | 0, u4, J, M, P, h, hl, ji, q => by
    refine v_judge47 oks ?_
    rw [ji.2.2.1 2 (by decide), if_pos (by rw [tI_lt]; omega)]
    refine q J M (ji.mono (fun a b c hp => ?_))
    rcases hp with y | y
    · exact y
    · omega
  | n + 1, u4, J, M, P, h, hl, ji, q => by
    obtain ⟨j1, j2, j3, j4, j5, j6, j7, j8⟩ := id ji
    have r1 := r.1
    have H4 : H < 4096 := Nat.lt_of_lt_of_le hH (p2le r1)
    have hc : Clk u2.toInt u3.toInt u4.toInt := ⟨b2', b3, by omega, by omega⟩
    refine v_judge47 oks ?_
    rw [j3 2 (by decide), if_neg (by rw [tI_lt]; omega)]
    obtain ⟨X, hX⟩ : ∃ X, upI (upI (upI J 50 0 u2) 50 1 u3) 50 2 u4 = X := ⟨_, rfl⟩
    have xr : ∀ p, p ≠ 50 → X p = J p := fun p hp => by rw [← hX, upI_row hp, upI_row hp, upI_row hp]
    have x0 : X 50 0 = u2 := by rw [← hX]; rfl
    have x1 : X 50 1 = u3 := by rw [← hX]; rfl
    have x2 : X 50 2 = u4 := by rw [← hX]; rfl
    have xc : CJ I X := ⟨fun p h1 h2 h3 h4 h5 h6 => by rw [xr p h3]; exact j1.1 p h1 h2 h3 h4 h5 h6, by rw [xr 47 (by decide)]; exact j1.2⟩
    rw [hX]
    refine findQ_ok r hc xc (by rw [xr 47 (by decide)]; exact j2) (by rw [x0]) (by rw [x1]) (by rw [x2]) (fun Y yr yq => ⟨_, rfl, rfl, ?_⟩)
    have y47 : Y 47 = J 47 := by rw [yr 47 (by decide), xr 47 (by decide)]
    have y54 : Y 54 = J 54 := by rw [yr 54 (by decide), xr 54 (by decide)]
    have fsY : ∀ S, FSb Y S = FSb J S := fun S => by unfold FSb; rw [y54]
    have dd : d + 119 = (d + 67) + 12 + 40 := by omega
    rw [dd]
    refine gather_ok (H := H) (q := qrF I u2.toInt u3.toInt u4.toInt) (Qm := fun a => qmN H (qrF I u2.toInt u3.toInt u4.toInt) a f) (fun a ha hHa => ⟨qmN_lt r1, fun b => ?_⟩) 12 H 0 0 M Y (cnb_le _ 12) (by omega) H4 (by decide) (fun i hi => hi) (fun a b ha hb => by rw [Nat.zero_testBit] at ha; cases ha) (okS_iff.mpr (fun a b _ _ ha _ => by rw [Nat.zero_testBit] at ha; cases ha)) (by rw [y47]; exact j4) j5 (fun a ha hHa => ?_) (fun K M' g => ⟨_, rfl, rfl, ?_⟩)
    · rw [qmN_t]
      simp only [Bool.and_eq_true, decide_eq_true_eq]
      constructor
      · rintro ⟨-, h1, -, h2, h3⟩; exact ⟨h1, h2, h3⟩
      · rintro ⟨h1, h2, h3⟩
        refine ⟨?_, h1, hHa, h2, h3⟩
        rcases Nat.lt_or_ge b f with y | y
        · exact y
        · rw [Nat.testBit_lt_two_pow (Nat.lt_of_lt_of_le hH (Nat.pow_le_pow_right (by decide : 2 > 0) y))] at h2; cases h2
    · refine yq a ?_
      rcases Nat.lt_or_ge a f with y | y
      · exact y
      · rw [Nat.testBit_lt_two_pow (Nat.lt_of_lt_of_le hH (Nat.pow_le_pow_right (by decide : 2 > 0) y))] at hHa; cases hHa
    · obtain ⟨g1, g2, g3, g4, g5, g6, g7, g8, g9⟩ := g
      have a1 := addI1 (x := u4) (by omega) (by omega)
      have fam : ∀ S, Fam H 0 S ↔ ∀ i, S.testBit i = true → H.testBit i = true := fun S => by
        constructor
        · intro hf i hi
          rcases (hf i).2 hi with y | y
          · rw [Nat.zero_testBit] at y; cases y
          · exact y
        · intro hf i
          exact ⟨fun y => (by rw [Nat.zero_testBit] at y; cases y), fun y => Or.inr (hf i y)⟩
      have nk : JI I H W (fun a b c => P a b c ∨ (a = u2.toInt ∧ b = u3.toInt ∧ c = u4.toInt)) K M' := by
        refine ⟨⟨fun p h1 h2 h3 h4 h5 h6 => by rw [g1 p h1 h6, yr p h5, xr p h3]; exact j1.1 p h1 h2 h3 h4 h5 h6, by rw [g2 1 (by decide), y47]; exact j1.2⟩, by rw [g2 5 (by decide), y47]; exact j2, fun p hp => by rw [g1 51 (by decide) (by decide), yr 51 (by decide), xr 51 (by decide)]; exact j3 p hp, g3, g5, fun S hS hF => ?_, ?_, fun c0 c1 c2 hp S hS hs ho => ?_⟩
        · rcases g7 S hS hF with y | ⟨y1, y2⟩
          · rw [fsY] at y; exact j6 S hS y
          · exact fit_of hc ((fam S).mp y1) y2
        · rcases g8 with y | y
          · rcases j7 with z | ⟨S, z1, z2, z3⟩
            · exact Or.inl (by omega)
            · exact Or.inr ⟨S, z1, g6 S z1 (by rw [fsY]; exact z2), by omega⟩
          · exact Or.inr y
        · rcases hp with y | ⟨y1, y2, y3⟩
          · have w := j8 c0 c1 c2 y S hS hs ho
            refine ⟨by omega, fun e => ?_⟩
            exact g6 S hS (by rw [fsY]; exact w.2 (by omega))
          · subst y1 y2 y3
            exact g9 S hS ((fam S).mpr hs) ho
      refine jl2 r hH b2' b3 hW n (u4 + Int32.ofInt 1) K M' _ (by rw [a1]; omega) (by rw [a1]; omega) nk (fun K2 M2 j => q K2 M2 (j.mono (fun a b c hp => ?_)))
      rw [a1]
      rcases hp with y | ⟨y1, y2, y3, y4⟩
      · exact Or.inl (Or.inl y)
      · by_cases e : c = u4.toInt
        · exact Or.inl (Or.inr ⟨y1, y2, e⟩)
        · exact Or.inr ⟨y1, y2, by omega, y4⟩
theorem negW {x : Int32} (h : 0 ≤ x.toInt ∧ x.toInt ≤ 3) : (-x).toInt = -x.toInt := by
  rw [show -x = 0 - x from (Int32.zero_sub _).symm, fb_subI (by simp only [Int32.reduceToInt]; omega) (by simp only [Int32.reduceToInt]; omega)]
  simp only [Int32.reduceToInt]
  omega
theorem jl1 {G : GX} {d f H : Nat} {sw : Bool} {I : St} {W : Nat → Int32} {u2 : Int32} {Q : Option Value → Hp → Prop} (r : RC6 f I) (hH : H < 2 ^ f) (b2' : -3 ≤ u2.toInt ∧ u2.toInt ≤ 3) (hW1 : 0 ≤ (W 1).toInt ∧ (W 1).toInt ≤ 3) (hW : 0 ≤ (W 2).toInt ∧ (W 2).toInt ≤ 3) : ∀ (n : Nat) (u3 : Int32) (J : St) (M : Nat) (P : Int → Int → Int → Prop), u3.toInt + n = (W 1).toInt + 1 → -3 ≤ u3.toInt → JI I H W P J M → (∀ K M', JI I H W (fun a b c => P a b c ∨ (a = u2.toInt ∧ (u3.toInt ≤ b ∧ b ≤ (W 1).toInt) ∧ -(W 2).toInt ≤ c ∧ c ≤ (W 2).toInt)) K M' → wp G (d + 120) (mt 99) 23 [some (.ref 47), some (.int (Int32.ofNat H)), some (.int (u2 + Int32.ofInt 1)), none, none] [] (147, f, K, RP f sw) Q) → wp G (d + 120) (mt 99) 35 [some (.ref 47), some (.int (Int32.ofNat H)), some (.int u2), some (.int u3), none] [] (147, f, J, RP f sw) Q
  | 0, u3, J, M, P, h, hl, ji, q => by
    refine v_judge35 oks ?_
    rw [ji.2.2.1 1 (by decide), if_pos (by rw [tI_lt]; omega)]
    refine q J M (ji.mono (fun a b c hp => ?_))
    rcases hp with y | y
    · exact y
    · omega
  | n + 1, u3, J, M, P, h, hl, ji, q => by
    have a1 := addI1 (x := u3) (by omega) (by omega)
    have n2 := negW hW
    refine v_judge35 oks ?_
    rw [ji.2.2.1 1 (by decide), if_neg (by rw [tI_lt]; omega), ji.2.2.1 2 (by decide)]
    refine jl2 r hH b2' ⟨by omega, by omega⟩ hW ((W 2).toInt + 1 + (W 2).toInt).toNat (-(W 2)) J M P (by rw [n2]; omega) (by rw [n2]; omega) ji (fun K M' j => ?_)
    refine jl1 r hH b2' hW1 hW n (u3 + Int32.ofInt 1) K M' _ (by rw [a1]; omega) (by rw [a1]; omega) j (fun K2 M2 j2 => q K2 M2 (j2.mono (fun a b c hp => ?_)))
    rw [a1, n2]
    rcases hp with y | ⟨y1, ⟨y2, y3⟩, y4⟩
    · exact Or.inl (Or.inl y)
    · by_cases e : b = u3.toInt
      · exact Or.inl (Or.inr ⟨y1, e, y4.1, y4.2⟩)
      · exact Or.inr ⟨y1, ⟨by omega, y3⟩, y4⟩
theorem jl0 {G : GX} {d f H : Nat} {sw : Bool} {I : St} {W : Nat → Int32} {Q : Option Value → Hp → Prop} (r : RC6 f I) (hH : H < 2 ^ f) (hW0 : 0 ≤ (W 0).toInt ∧ (W 0).toInt ≤ 3) (hW1 : 0 ≤ (W 1).toInt ∧ (W 1).toInt ≤ 3) (hW : 0 ≤ (W 2).toInt ∧ (W 2).toInt ≤ 3) : ∀ (n : Nat) (u2 : Int32) (J : St) (M : Nat) (P : Int → Int → Int → Prop), u2.toInt + n = (W 0).toInt + 1 → -3 ≤ u2.toInt → JI I H W P J M → (∀ K M', JI I H W (fun a b c => P a b c ∨ ((u2.toInt ≤ a ∧ a ≤ (W 0).toInt) ∧ (-(W 1).toInt ≤ b ∧ b ≤ (W 1).toInt) ∧ -(W 2).toInt ≤ c ∧ c ≤ (W 2).toInt)) K M' → wp G (d + 119) (mt 106) 0 (en (mt 106) [.ref 47]) [] (147, f, K, RP f sw) (fun v h1 => ∃ I1 : Nat → Nat → Int32, v = none ∧ h1 = (147, f, I1, RP f sw) ∧ Q none (147, f, I1, RP f sw))) → wp G (d + 120) (mt 99) 23 [some (.ref 47), some (.int (Int32.ofNat H)), some (.int u2), none, none] [] (147, f, J, RP f sw) Q
  | 0, u2, J, M, P, h, hl, ji, q => by
    refine v_judge23 oks ?_
    rw [ji.2.2.1 0 (by decide), if_pos (by rw [tI_lt]; omega)]
    refine q J M (ji.mono (fun a b c hp => ?_))
    rcases hp with y | y
    · exact y
    · omega
  | n + 1, u2, J, M, P, h, hl, ji, q => by
    have a1 := addI1 (x := u2) (by omega) (by omega)
    have n1 := negW hW1
    refine v_judge23 oks ?_
    rw [ji.2.2.1 0 (by decide), if_neg (by rw [tI_lt]; omega), ji.2.2.1 1 (by decide)]
    refine jl1 r hH ⟨by omega, by omega⟩ hW1 hW ((W 1).toInt + 1 + (W 1).toInt).toNat (-(W 1)) J M P (by rw [n1]; omega) (by rw [n1]; omega) ji (fun K M' j => ?_)
    refine jl0 r hH hW0 hW1 hW n (u2 + Int32.ofInt 1) K M' _ (by rw [a1]; omega) (by rw [a1]; omega) j (fun K2 M2 j2 => q K2 M2 (j2.mono (fun a b c hp => ?_)))
    rw [a1, n1]
    rcases hp with y | ⟨⟨y1, y2⟩, y3⟩
    · exact Or.inl (Or.inl y)
    · by_cases e : a = u2.toInt
      · exact Or.inl (Or.inr ⟨e, y3.1, y3.2⟩)
      · exact Or.inr ⟨⟨by omega, y2⟩, y3⟩
theorem tallyF_loop {G : GX} {d f S : Nat} {sw : Bool} {J0 : St} {Q : Option Value → Hp → Prop} (q : ∀ J, (∀ p, p ≠ 49 → J p = J0 p) → (∀ i, i < 12 → J 49 i = J0 49 i + b2 (S.testBit i)) → Q none (147, f, J, RP f sw)) : ∀ (c k : Nat) (J : St), k + c = 12 → (∀ p, p ≠ 49 → J p = J0 p) → (∀ i, i < 12 → J 49 i = if i < k then J0 49 i + b2 (S.testBit i) else J0 49 i) → wp G (d + 10) (mt 107) 2 [some (.ref 47), some (.int (Int32.ofNat S)), some (.int (Int32.ofNat k))] [] (147, f, J, RP f sw) Q
  | 0, k, J, h, w, hw => by
    have e : k = 12 := by omega
    subst e
    refine v_tallyF2 oks ?_
    rw [if_pos (by decide)]
    exact q J w (fun i hi => by rw [hw i hi, if_pos hi])
  | c + 1, k, J, h, w, hw => by
    refine v_tallyF2 oks ?_
    rw [if_neg (by rw [tI_le, kI_t (by omega)]; simp only [Int32.reduceToInt]; omega), kI_c (by omega), gbN (by omega), kI_1, hw k (by omega), if_neg (by omega)]
    refine ck_of (kI_x (by omega) (by omega)) (ck_of (kI_x (by omega) (by omega)) ?_)
    refine tallyF_loop q c (k + 1) _ (by omega) (fun p hp => by rw [upI_row hp]; exact w p hp) (fun i hi => ?_)
    by_cases e : i = k
    · rw [e, upI_same, if_pos (by omega)]
    · rw [upI_nk (by omega), hw i hi]
      by_cases e2 : i < k
      · rw [if_pos e2, if_pos (by omega)]
      · rw [if_neg e2, if_neg (by omega)]
theorem tallyF_ok {G : GX} {d f S : Nat} {sw : Bool} {J0 : St} {Q : Option Value → Hp → Prop} (q : ∀ J, (∀ p, p ≠ 49 → J p = J0 p) → (∀ i, i < 12 → J 49 i = J0 49 i + b2 (S.testBit i)) → Q none (147, f, J, RP f sw)) : wp G (d + 10) (mt 107) 0 (en (mt 107) [.ref 47, .int (Int32.ofNat S)]) [] (147, f, J0, RP f sw) Q := by
  refine v_tallyF oks ?_
  exact tallyF_loop q 12 0 J0 (by omega) (fun _ _ => rfl) (fun i hi => by rw [if_neg (by omega)])
def fz : Option Nat → Int32
  | none => 0
  | some m => Int32.ofNat m
theorem cnb_fs {P : Nat → Bool} : ∀ n, (cnb P n = 0 ↔ fsN P n = none)
  | 0 => ⟨fun _ => rfl, fun _ => rfl⟩
  | n + 1 => by
    rw [cnb_s, fsN_s]
    have ih := cnb_fs (P := P) n
    cases hf : fsN P n with
    | some m =>
      rw [hf] at ih
      constructor
      · intro h
        have : cnb P n = 0 := by omega
        have := ih.mp this; cases this
      · intro h; cases h
    | none =>
      rw [hf] at ih
      have z := ih.mpr rfl
      simp only
      by_cases c : P n = true
      · rw [if_pos c, if_pos c]
        constructor
        · intro h; omega
        · intro h; cases h
      · rw [if_neg c, if_neg c]
        exact ⟨fun _ => rfl, fun _ => by omega⟩
theorem ofN_b2 (n : Nat) (b : Bool) : Int32.ofNat n + b2 b = Int32.ofNat (n + (if b = true then 1 else 0)) := by
  cases b with
  | true => rw [if_pos rfl]; exact l1a _
  | false => rw [if_neg (by decide), Nat.add_zero]; exact Int32.add_zero _
def rvB (J : St) (M S : Nat) : Bool := FSb J S && decide (pcN S = M)
theorem cnb_s2 (P B : Nat → Bool) (k : Nat) : cnb (fun S => P S && B S) (k + 1) = cnb (fun S => P S && B S) k + (if (P k && B k) = true then 1 else 0) := rfl
/-- the tally of n sets -/
def TL (J0 : St) (rv : Nat → Bool) (n : Nat) (J : St) : Prop := (∀ p, p ≠ 47 → p ≠ 49 → J p = J0 p) ∧ (∀ k, k ≠ 3 → k ≠ 4 → J 47 k = J0 47 k) ∧ J 47 3 = Int32.ofNat (cnb rv n) ∧ J 47 4 = fz (fsN rv n) ∧ ∀ i, i < 12 → J 49 i = Int32.ofNat (cnb (fun S => rv S && Nat.testBit S i) n)
theorem tally_loop {G : GX} {d f M : Nat} {sw : Bool} {J0 : St} {Q : Option Value → Hp → Prop} (hM : M ≤ 12) (h2 : J0 47 2 = Int32.ofNat M) (q : ∀ J, TL J0 (rvB J0 M) 4096 J → Q none (147, f, J, RP f sw)) : ∀ (c n : Nat) (J : St), n + c = 4096 → TL J0 (rvB J0 M) n J → wp G (d + 40) (mt 106) 12 [some (.ref 47), some (.int (Int32.ofNat n))] [] (147, f, J, RP f sw) Q
  | 0, n, J, h, w => by
    have e : n = 4096 := by omega
    subst e
    refine v_tally12 oks ?_
    rw [if_pos (by decide)]
    exact q J w
  | c + 1, n, J, h, w => by
    obtain ⟨w1, w2, w3, w4, w5⟩ := id w
    have n4 : n < 4096 := by omega
    have p12 : pcN n ≤ 12 := cnb_le _ 12
    have ih := fun (J' : St) => tally_loop (G := G) (d := d) hM h2 q c (n + 1) J' (by omega)
    have cl := cnb_le (rvB J0 M) n
    have no : rvB J0 M n = false → wp G (d + 40) (mt 106) 12 [some (.ref 47), some (.int (Int32.ofNat (n + 1)))] [] (147, f, J, RP f sw) Q := fun hb => by
      refine ih J ⟨w1, w2, ?_, ?_, fun i hi => ?_⟩
      · rw [cnb_s, hb, if_neg (by decide), Nat.add_zero]; exact w3
      · rw [fsN_s]
        cases hf : fsN (rvB J0 M) n with
        | some m => rw [hf] at w4; exact w4
        | none => rw [hf] at w4; simp only; rw [hb, if_neg (by decide)]; exact w4
      · rw [cnb_s2, hb, Bool.false_and, if_neg (by decide), Nat.add_zero]; exact w5 i hi
    obtain ⟨s1, s2⟩ := sh5 n4
    have x54 : ((J 54 (n / 32) >>> (Int32.ofNat (n % 32) &&& 31)) &&& 1) = b2 (FSb J0 n) := by
      rw [shb (Nat.mod_lt _ (by decide)), w1 54 (by decide) (by decide)]; rfl
    refine v_tally12 oks ?_
    rw [if_neg (by rw [tI_le, kI_t (by omega)]; simp only [Int32.reduceToInt]; omega), s1, s2, kI_c (by omega), x54, kI_1]
    refine ck_of (kI_x (by omega) (by omega)) ?_
    refine ite_i (fun z => ?_) (fun z => ?_)
    · rw [b2_e1] at z
      refine bitCount_ok n4 ⟨_, _, rfl, rfl, ?_⟩
      have j2 : J 47 2 = Int32.ofNat M := by rw [w2 2 (by decide) (by decide)]; exact h2
      rw [j2]
      refine ite_i (fun z2 => ?_) (fun z2 => ?_)
      · have hp : pcN n = M := by
          have := congrArg Int32.toInt z2
          rw [kI_t (by omega), kI_t (by omega)] at this
          omega
        have hb : rvB J0 M n = true := by unfold rvB; rw [z, decide_eq_true hp]; rfl
        have fin : ∀ x : Int32, x = fz (fsN (rvB J0 M) (n + 1)) → wp G (d + 39) (mt 107) 0 (en (mt 107) [.ref 47, .int (Int32.ofNat n)]) [] (147, f, upI (upI J 47 4 x) 47 3 (J 47 3 + 1), RP f sw) (fun v h1 => ∃ I4 : Nat → Nat → Int32, v = none ∧ h1 = (147, f, I4, RP f sw) ∧ (wp G (d + 40) (mt 106) 12 [some (.ref 47), some (.int (Int32.ofNat (n + 1)))] [] (147, f, I4, RP f sw) Q)) := fun x hx => by
          refine tallyF_ok (fun K k1 k2 => ⟨_, rfl, rfl, ih K ⟨fun p h1 h2 => by rw [k1 p h2, upI_row h1, upI_row h1]; exact w1 p h1 h2, fun k h1 h2 => by rw [k1 47 (by decide), upI_nk (by omega), upI_nk (by omega)]; exact w2 k h1 h2, ?_, ?_, fun i hi => ?_⟩⟩)
          · rw [k1 47 (by decide), upI_same, w3, cnb_s, hb, if_pos rfl]; exact l1a _
          · rw [k1 47 (by decide), upI_nk (by omega), upI_same, hx]
          · rw [k2 i hi, upI_row (by decide), upI_row (by decide), w5 i hi, ofN_b2, cnb_s2, hb, Bool.true_and]
        have c0 : (Int32.ofNat (cnb (rvB J0 M) n) = 0) ↔ fsN (rvB J0 M) n = none := by
          rw [← cnb_fs, show (0 : Int32) = Int32.ofNat 0 from rfl, kI_e (by omega) (by omega)]
        refine ite_i (fun z3 => ?_) (fun z3 => ?_)
        · rw [w3] at z3
          refine fin _ ?_
          rw [fsN_hit (c0.mp z3) hb]; rfl
        · rw [w3] at z3
          refine fin _ ?_
          rw [w4]
          cases hf : fsN (rvB J0 M) n with
          | none => exact absurd (c0.mpr hf) z3
          | some m => rw [fsN_mono hf (n + 1) (by omega)]
      · exact no (by unfold rvB; rw [decide_eq_false (fun e => z2 (by rw [e])), Bool.and_false])
    · rw [b2_e1, Bool.not_eq_true] at z
      exact no (by unfold rvB; rw [z, Bool.false_and])
theorem grt_s (F : Nat → Bool) (n : Nat) : grt F (n + 1) = if F n = true ∧ grt F n < pcN n then pcN n else grt F n := rfl
theorem grt_ge {F : Nat → Bool} {S : Nat} (hS : F S = true) : ∀ n, S < n → pcN S ≤ grt F n
  | 0, h => by omega
  | n + 1, h => by
    rw [grt_s]
    by_cases e : S = n
    · subst e
      by_cases c : grt F S < pcN S
      · rw [if_pos ⟨hS, c⟩]; exact Nat.le_refl _
      · rw [if_neg (fun z => c z.2)]; omega
    · have ih := grt_ge hS n (by omega)
      by_cases c : F n = true ∧ grt F n < pcN n
      · rw [if_pos c]; omega
      · rw [if_neg c]; exact ih
theorem grt_at {F : Nat → Bool} : ∀ n, grt F n = 0 ∨ ∃ S, S < n ∧ F S = true ∧ pcN S = grt F n
  | 0 => Or.inl rfl
  | n + 1 => by
    rw [grt_s]
    by_cases c : F n = true ∧ grt F n < pcN n
    · rw [if_pos c]; exact Or.inr ⟨n, by omega, c.1, rfl⟩
    · rw [if_neg c]
      rcases grt_at (F := F) n with z | ⟨S, h1, h2, h3⟩
      · exact Or.inl z
      · exact Or.inr ⟨S, by omega, h2, h3⟩
theorem grt_eq {F : Nat → Bool} {n M : Nat} (h1 : ∀ S, S < n → F S = true → pcN S ≤ M) (h2 : ∃ S, S < n ∧ F S = true ∧ pcN S = M) : grt F n = M := by
  obtain ⟨S, a, b, c⟩ := h2
  have g := grt_ge b n a
  rcases grt_at (F := F) n with z | ⟨T, d1, d2, d3⟩
  · omega
  · have := h1 T d1 d2
    omega
theorem fsN_cg {P P' : Nat → Bool} : ∀ n, (∀ i, i < n → P i = P' i) → fsN P n = fsN P' n
  | 0, _ => rfl
  | n + 1, h => by rw [fsN_s, fsN_s, fsN_cg n (fun i hi => h i (by omega)), h n (by omega)]
theorem judge_ok {G : GX} {d f H : Nat} {sw : Bool} {I : St} {Q : Option Value → Hp → Prop} (r : RC6 f I) (hH : H < 2 ^ f) (q : ∀ J, CJ I J → JD J H → Q none (147, f, J, RP f sw)) : wp G (d + 120) (mt 99) 0 (en (mt 99) [.ref 47, .int (Int32.ofNat H)]) [] (147, f, I, RP f sw) Q := by
  obtain ⟨r1, r2, r3, r4, r5, H', r6, r7⟩ := id r
  have H4 : H < 4096 := Nat.lt_of_lt_of_le hH (p2le r1)
  refine v_judge oks ?_
  refine ite_i (fun z => ?_) (fun z => ?_)
  · have H4' : H' < 4096 := Nat.lt_of_lt_of_le r6 (p2le r1)
    rw [r7.1, kI_e (by omega) (by omega)] at z
    subst z
    exact q I ⟨fun _ _ _ _ _ _ _ => rfl, rfl⟩ r7
  · refine fill_ok (by decide) (show SH 54 = (20, 128) from rfl) (by decide) ⟨_, rfl, rfl, ?_⟩
    obtain ⟨X, hX⟩ : ∃ X, fillI (upI (upI I 47 5 (Int32.ofNat H)) 47 2 0) 54 128 0 = X := ⟨_, rfl⟩
    have xr : ∀ p, p ≠ 47 → p ≠ 54 → X p = I p := fun p h1 h2 => by rw [← hX, fillI_row h2, upI_row h1, upI_row h1]
    have x47 : ∀ k, k ≠ 2 → k ≠ 5 → X 47 k = I 47 k := fun k h1 h2 => by rw [← hX, fillI_row (by decide), upI_nk (by omega), upI_nk (by omega)]
    have x5 : X 47 5 = Int32.ofNat H := by rw [← hX, fillI_row (by decide), upI_nk (by omega), upI_same]
    have x2 : X 47 2 = Int32.ofNat 0 := by rw [← hX, fillI_row (by decide), upI_same]; rfl
    have x54 : ∀ S, S < 4096 → FSb X S = false := fun S hS => by
      unfold FSb
      rw [← hX, fillI_at (by omega)]
      exact gb_0 _ (Nat.lt_of_lt_of_le (Nat.mod_lt _ (by decide)) (by decide))
    have xc : CJ I X := ⟨fun p h1 h2 h3 h4 h5 h6 => xr p h1 h6, x47 1 (by decide) (by decide)⟩
    rw [hX]
    refine wrong_ok r xc x5 (fun Y yr yw => ⟨_, rfl, rfl, ?_⟩)
    have wv : ∀ b, 0 ≤ (wrV b).toInt ∧ (wrV b).toInt ≤ 3 := fun b => by cases b <;> decide
    have fsY : ∀ S, S < 4096 → FSb Y S = false := fun S hS => by
      have := x54 S hS
      unfold FSb at this ⊢
      rw [yr 54 (by decide)]; exact this
    have ji : JI I H (fun p => wrV (wrB I H p f)) (fun _ _ _ => False) Y 0 := ⟨⟨fun p h1 h2 h3 h4 h5 h6 => by rw [yr p h4]; exact xr p h1 h6, by rw [yr 47 (by decide)]; exact xc.2⟩, by rw [yr 47 (by decide)]; exact x5, yw, by rw [yr 47 (by decide)]; exact x2, by omega, fun S hS hF => (by rw [fsY S hS] at hF; cases hF), Or.inl rfl, fun _ _ _ hp => absurd hp id⟩
    have n0 := negW (wv (wrB I H 0 f))
    rw [yw 0 (by decide)]
    refine jl0 (W := fun p => wrV (wrB I H p f)) r hH (wv _) (wv _) (wv _) ((wrV (wrB I H 0 f)).toInt + 1 + (wrV (wrB I H 0 f)).toInt).toNat (-(wrV (wrB I H 0 f))) Y 0 _ (by have := wv (wrB I H 0 f); rw [n0]; omega) (by have := wv (wrB I H 0 f); rw [n0]; omega) ji (fun K M j => ?_)
    obtain ⟨k1, k2, k3, k4, k5, k6, k7, k8⟩ := j
    -- all clocks
    have full : ∀ S, S < 4096 → fitS I H S = true → pcN S ≤ M ∧ (pcN S = M → FSb K S = true) := fun S hS hf => by
      obtain ⟨hs, c0, c1, c2, ⟨hc0, hc1, hc2⟩, ho⟩ := fit_ex hf
      have pick' : ∀ (p : Nat) (c : Int), -3 ≤ c ∧ c ≤ 3 → ∃ e : Int, (wrB I H p f = true → c = e) ∧ -(wrV (wrB I H p f)).toInt ≤ e ∧ e ≤ (wrV (wrB I H p f)).toInt := fun p c hc => by
        cases wrB I H p f with
        | true => exact ⟨c, fun _ => rfl, (by show -3 ≤ c; omega), (by show c ≤ 3; omega)⟩
        | false => exact ⟨0, fun y => (by cases y), (by decide), (by decide)⟩
      obtain ⟨e0, a0, b0⟩ := pick' 0 c0 hc0
      obtain ⟨e1, a1, b1⟩ := pick' 1 c1 hc1
      obtain ⟨e2, a2, b2'⟩ := pick' 2 c2 hc2
      rw [ok_inv r hH hs a0 a1 a2] at ho
      exact k8 e0 e1 e2 (Or.inr ⟨by rw [n0]; exact b0, b1, b2'⟩) S hS hs ho
    have at' : ∃ S, S < 4096 ∧ FSb K S = true ∧ pcN S = M := by
      rcases k7 with y | y
      · refine ⟨0, by decide, ?_, ?_⟩
        · have w := full 0 (by decide) (fit_0 I H)
          exact w.2 (by rw [y] at w ⊢; omega)
        · have w := (full 0 (by decide) (fit_0 I H)).1
          omega
      · exact y
    have gM : grt (fitS I H) 4096 = M := by
      obtain ⟨S, y1, y2, y3⟩ := at'
      exact grt_eq (fun S hS hf => (full S hS hf).1) ⟨S, y1, k6 S y1 y2, y3⟩
    have rv : ∀ S, S < 4096 → rvB K M S = riv (fitS I H) S := fun S hS => by
      unfold riv rvB
      rw [gM]
      by_cases c : pcN S = M
      · rw [decide_eq_true c, Bool.and_true, Bool.and_true]
        cases hf : fitS I H S with
        | true => exact (full S hS hf).2 c
        | false =>
          cases hk : FSb K S with
          | false => rfl
          | true => rw [k6 S hS hk] at hf; cases hf
      · rw [decide_eq_false c, Bool.and_false, Bool.and_false]
    refine v_tally oks ?_
    refine fill_ok (by decide) (show SH 49 = (20, 12) from rfl) (by decide) ⟨_, rfl, rfl, ?_⟩
    have t0 : TL K (rvB K M) 0 (fillI (upI (upI K 47 3 0) 47 4 0) 49 12 0) := ⟨fun p h1 h2 => by rw [fillI_row h2, upI_row h1, upI_row h1], fun k h1 h2 => by rw [fillI_row (by decide), upI_nk (by omega), upI_nk (by omega)], by rw [fillI_row (by decide), upI_nk (by omega), upI_same]; rfl, by rw [fillI_row (by decide), upI_same]; rfl, fun i hi => by rw [fillI_at hi]; rfl⟩
    refine tally_loop k5 k4 (fun Z tz => ⟨_, rfl, rfl, ?_⟩) 4096 0 _ (by omega) t0
    obtain ⟨z1, z2, z3, z4, z5⟩ := tz
    have fz' : fitS Z H = fitS I H := by
      refine fitS_low hH (fun c0 c1 c2 a b _ _ => ?_)
      have e : ∀ p, 120 ≤ p → p ≤ 126 → Z p = I p := fun p h1 h2 => by rw [z1 p (by omega) (by omega)]; exact k1.1 p (by omega) (by omega) (by omega) (by omega) (by omega) (by omega)
      unfold qrF tmF wdF d2F
      rw [e 120 (by decide) (by decide), e 121 (by decide) (by decide), e 122 (by decide) (by decide), e 123 (by decide) (by decide), e 124 (by decide) (by decide), e 125 (by decide) (by decide), e 126 (by decide) (by decide)]
    refine q Z ⟨fun p h1 h2 h3 h4 h5 h6 => by rw [z1 p h1 h2]; exact k1.1 p h1 h2 h3 h4 h5 h6, by rw [z2 1 (by decide) (by decide)]; exact k1.2⟩ ?_
    unfold JD
    rw [fz', gM, z2 5 (by decide) (by decide), z2 2 (by decide) (by decide), z3, z4]
    refine ⟨k2, k4, by rw [cnb_cg 4096 rv], ?_, fun i hi => ?_⟩
    · rw [fsN_cg 4096 rv]
      cases hf : fsN (riv (fitS I H)) 4096 with
      | some m => rfl
      | none =>
        obtain ⟨S, y1, y2, y3⟩ := at'
        have w := fsN_non hf S y1
        rw [← rv S y1] at w
        unfold rvB at w
        rw [y2, decide_eq_true y3] at w
        cases w
    · rw [z5 i hi, cnb_cg 4096 (P := fun S => rvB K M S && S.testBit i) (P' := fun S => riv (fitS I H) S && S.testBit i) (fun S hS => by simp only [rv S hS])]
