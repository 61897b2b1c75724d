/-! CALLS: rules (its end) -/
theorem pS_end {T : Nat → Int32} {n c k : Nat} {rs : List Rul} (h : tS T n k = n) : pS T n (c + 1) k rs = .ok rs := by
  rw [pS, if_pos h]
theorem pS_e {T : Nat → Int32} {n c k : Nat} {rs : List Rul} {e : Flt} (h : ¬ tS T n k = n) (hp : pR T n rs.length k = .error e) : pS T n (c + 1) k rs = .error e := by
  rw [pS, if_neg h, hp]
theorem pS_o {T : Nat → Int32} {n c k k' : Nat} {rs : List Rul} {r : Rul} (h : ¬ tS T n k = n) (hp : pR T n rs.length k = .ok (k', r)) : pS T n (c + 1) k rs = pS T n c k' (rs ++ [r]) := by
  rw [pS, if_neg h, hp]
theorem pM_le {T : Nat → Int32} {n k k' : Nat} {x : Int32} (hk : k ≤ n) (h : pM T n k = .ok (k', x)) : k' ≤ n := by
  have e1 := (tE_le (T := T) hk).2.1
  have e2 := (tE_le (T := T) e1).2.1
  have e3 := (tE_le (T := T) e2).2.1
  unfold pM at h
  split at h
  · split at h
    · cases h
    · split at h
      · have e := congrArg Prod.fst (Except.ok.inj h)
        simp only at e
        omega
      · cases h
  · cases h
theorem pR_ok {T : Nat → Int32} {n r k k' : Nat} {x : Rul} (hk : k ≤ n) (h : pR T n r k = .ok (k', x)) : ¬ r = 10 ∧ k' ≤ n := by
  have e1 := (tE_le (T := T) hk).2.1
  by_cases z : rdB T n k 0 = true
  · by_cases h10 : r = 10
    · rw [pR, if_pos z, if_pos h10] at h; cases h
    · refine ⟨h10, ?_⟩
      rw [pR_s z h10] at h
      cases hp : pT T n (tE T n k) with
      | error e => rw [hp] at h; cases h
      | ok y =>
        obtain ⟨k1, x1⟩ := y
        rw [hp] at h
        simp only at h
        have q1 := pT_le e1 hp
        cases ha : pA T n 2 k1 [x1] with
        | error e => rw [ha] at h; cases h
        | ok y =>
          obtain ⟨k2, t2⟩ := y
          rw [ha] at h
          simp only at h
          have q2 := pA_le q1 ha
          cases hm : pM T n k2 with
          | error e => rw [hm] at h; cases h
          | ok y =>
            obtain ⟨k3, a⟩ := y
            rw [hm] at h
            have q3 := pM_le q2 hm
            have e := congrArg Prod.fst (Except.ok.inj h)
            simp only at e
            omega
  · rw [pR, if_neg z] at h; cases h
theorem pR_err {T : Nat → Int32} {n r k : Nat} {e : Flt} (hk : k ≤ n) (h : pR T n r k = .error e) : FE n e := by
  have e1 := (tE_le (T := T) hk).2.1
  have sl := (tS_le (T := T) hk).2
  by_cases z : rdB T n k 0 = true
  · by_cases h10 : r = 10
    · rw [pR, if_pos z, if_pos h10] at h
      have := Except.error.inj h; subst this
      exact ⟨Or.inr (Or.inr rfl), sl⟩
    · rw [pR_s z h10] at h
      cases hp : pT T n (tE T n k) with
      | error e' =>
        rw [hp] at h
        have := Except.error.inj h; subst this
        exact pT_err e1 hp
      | ok y =>
        obtain ⟨k1, x1⟩ := y
        rw [hp] at h
        simp only at h
        have q1 := pT_le e1 hp
        cases ha : pA T n 2 k1 [x1] with
        | error e' =>
          rw [ha] at h
          have := Except.error.inj h; subst this
          exact pA_err q1 ha
        | ok y =>
          obtain ⟨k2, t2⟩ := y
          rw [ha] at h
          simp only at h
          have q2 := pA_le q1 ha
          cases hm : pM T n k2 with
          | error e' =>
            rw [hm] at h
            have := Except.error.inj h; subst this
            exact pM_err q2 hm
          | ok y => rw [hm] at h; cases h
  · rw [pR, if_neg z] at h
    have := Except.error.inj h; subst this
    exact ⟨Or.inl rfl, sl⟩
theorem pS_err {T : Nat → Int32} {n : Nat} {e : Flt} : ∀ {c k : Nat} {rs : List Rul}, rs.length + c = 11 → 1 ≤ c → k ≤ n → pS T n c k rs = .error e → FE n e
  | 0, k, rs, h1, h2, hk, h => by omega
  | c + 1, k, rs, h1, h2, hk, h => by
    by_cases z : tS T n k = n
    · rw [pS_end z] at h; cases h
    · cases hp : pR T n rs.length k with
      | error e' =>
        rw [pS_e z hp] at h
        have := Except.error.inj h; subst this
        exact pR_err hk hp
      | ok y =>
        obtain ⟨k', r⟩ := y
        rw [pS_o z hp] at h
        obtain ⟨q1, q2⟩ := pR_ok hk hp
        exact pS_err (rs := rs ++ [r]) (by rw [List.length_append]; show rs.length + 1 + c = 11; omega) (by omega) q2 h
theorem tk1 {T : Nat → Int32} {n k : Nat} : tkM T n k = 1 ↔ ¬ tS T n k < n := by
  unfold tkM
  by_cases c1 : tS T n k < n
  · rw [if_pos c1]
    refine ⟨fun h => ?_, fun h => absurd c1 h⟩
    exfalso
    by_cases c2 : ltB T (tS T n k) = true
    · rw [if_pos c2] at h
      by_cases c3 : tE T n k - tS T n k ≤ 6
      · rw [if_pos c3] at h; exact absurd h (by decide)
      · rw [if_neg c3] at h; exact absurd h (by decide)
    · rw [if_neg c2] at h
      by_cases c3 : fgB T (tS T n k) = true
      · rw [if_pos c3] at h
        by_cases c4 : tE T n k - tS T n k ≤ 4
        · rw [if_pos c4] at h; exact absurd h (by decide)
        · rw [if_neg c4] at h; exact absurd h (by decide)
      · rw [if_neg c3] at h
        by_cases c4 : sgB (T (tS T n k)) = true
        · rw [if_pos c4] at h; exact absurd h (by decide)
        · rw [if_neg c4] at h; exact absurd h (by decide)
  · rw [if_neg c1]
    exact ⟨fun _ => c1, fun _ => rfl⟩
def FRs (rs : List Rul) : Prop := ∀ r, r < rs.length → FRu (rs.getD r rz)
theorem FRs.add {rs : List Rul} {x : Rul} (h : FRs rs) (hx : FRu x) : FRs (rs ++ [x]) := fun r hr => by
  rw [List.length_append] at hr
  have hr : r < rs.length + 1 := hr
  by_cases e : r = rs.length
  · rw [e, gdL]; exact hx
  · rw [gdA (by omega)]; exact h r (by omega)
theorem Mrules_loop {G : GX} {d f n : Nat} {sw : Bool} {I : St} {Q : Option Value → Hp → Prop} (tm : TM I) (hn : n ≤ 400) : ∀ (c k : Nat) (J : St) (rs : List Rul), rs.length + c = 11 → k ≤ n → ME I J → MT (I 140) n k J → J 93 70 = 0 → MC J rs → FRs rs → (∀ e K, pS (I 140) n c k rs = .error e → FE n e → ME I K → K 93 70 = e.1 → K 93 71 = Int32.ofNat e.2 → wp G (d + 120) (mt 234) 31 [some (.ref 93), none, none] [] (147, f, K, RP f sw) Q) → (∀ rs2 K, pS (I 140) n c k rs = .ok rs2 → ME I K → K 93 70 = 0 → rs2.length ≤ 10 → FRs rs2 → MC K rs2 → wp G (d + 120) (mt 234) 31 [some (.ref 93), none, none] [] (147, f, K, RP f sw) Q) → 1 ≤ c → wp G (d + 120) (mt 234) 21 [some (.ref 93), none, none] [] (147, f, J, RP f sw) Q
  | 0, k, J, rs, h, hk, a, mt', f0, mc, fr, qe, qo, hc => by omega
  | c + 1, k, J, rs, h, hk, a, mt', f0, mc, fr, qe, qo, hc => by
    have sl := tS_le (T := I 140) hk
    refine v_Mrules21 oks ?_
    rw [if_pos f0, mt'.2.2.1]
    refine ite_i (fun z => ?_) (fun z => ?_)
    · have z2 : tS (I 140) n k = n := by have := tk1.mp z; omega
      exact qo rs J (pS_end z2) a f0 (by omega) fr mc
    · have z2 : ¬ tS (I 140) n k = n := fun y => z (tk1.mpr (by omega))
      refine MrdRule_ok tm hn hk a mt' f0 mc (by omega) (fun e K p1 p2 p3 p4 p5 => ⟨_, rfl, rfl, ?_⟩) (fun k' x K p1 p2 p3 p4 p5 p6 p7 p8 => ⟨_, rfl, rfl, ?_⟩)
      · refine v_Mrules21 oks ?_
        rw [if_neg (by rw [p4]; exact p2.ne)]
        exact qe e K (pS_e z2 p1) p2 p3 p4 p5
      · have x3 : x.2.length ≤ 3 := by
          have := (p8.2 rs.length (by rw [List.length_append]; show rs.length < rs.length + 1; omega)).1
          rw [gdL] at this
          exact this
        have fx : FRu x := by
          rcases p7 with y | y
          · exact y
          · omega
        have ps := pS_o (c := c) z2 p1
        exact Mrules_loop tm hn c k' K (rs ++ [x]) (by rw [List.length_append]; show rs.length + 1 + c = 11; omega) p4 p2 p3 p5 p8 (fr.add fx) (fun e K w => qe e K (ps.trans w)) (fun r2 K w => qo r2 K (ps.trans w)) (by omega)
/-- what is copied: r rules, and k numbers of the next -/
def CPY (I : St) (r : Nat) (J : St) : Prop := (∀ p, ¬ (134 ≤ p ∧ p ≤ 136) → J p = I p) ∧ ∀ i, i < r → J 134 i = I 137 i ∧ J 136 i = I 139 i ∧ ∀ t, t < 9 → J 135 (9 * i + t) = I 138 (9 * i + t)
theorem Mcopy_in {G : GX} {d f r : Nat} {sw : Bool} {I : St} {Q : Option Value → Hp → Prop} (hr : r < 10) (q : ∀ J, CPY I (r + 1) J → wp G (d + 120) (mt 234) 49 [some (.ref 93), some (.int (Int32.ofNat (r + 1))), none] [] (147, f, J, RP f sw) Q) : ∀ (c k : Nat) (J : St), k + c = 9 → CPY I r J → J 134 r = I 137 r → J 136 r = I 139 r → (∀ t, t < k → J 135 (9 * r + t) = I 138 (9 * r + t)) → wp G (d + 120) (mt 234) 70 [some (.ref 93), some (.int (Int32.ofNat r)), some (.int (Int32.ofNat k))] [] (147, f, J, RP f sw) Q
  | 0, k, J, h, w, j1, j2, j3 => by
    have e : k = 9 := by omega
    subst e
    refine v_Mrules70 oks ?_
    rw [if_pos (by decide), kI_1]
    refine q J ⟨w.1, fun i hi => ?_⟩
    by_cases e : i = r
    · rw [e]; exact ⟨j1, j2, j3⟩
    · exact w.2 i (by omega)
  | c + 1, k, J, h, w, j1, j2, j3 => by
    have i1 : (9 * Int32.ofNat r + Int32.ofNat k) = Int32.ofNat (9 * r + k) := by rw [l9, ← Int32.ofNat_add]
    refine v_Mrules70 oks ?_
    rw [if_neg (by rw [tI_le, kI_t (by omega)]; simp only [Int32.reduceToInt]; omega), i1, kI_c (by omega), kI_1]
    refine ck_of (kI_x (by omega) (by omega)) (ck_of (kI_x (by omega) (by omega)) ?_)
    refine Mcopy_in hr q c (k + 1) _ (by omega) ⟨fun p hp => by rw [upI_row (by omega)]; exact w.1 p hp, fun i hi => ?_⟩ (by rw [upI_row (by decide)]; exact j1) (by rw [upI_row (by decide)]; exact j2) (fun t ht => ?_)
    · obtain ⟨a1, a2, a3⟩ := w.2 i hi
      refine ⟨by rw [upI_row (by decide)]; exact a1, by rw [upI_row (by decide)]; exact a2, fun t ht => ?_⟩
      rw [upI_nk (by omega)]; exact a3 t ht
    · by_cases e : t = k
      · rw [e, upI_same, w.1 138 (by decide)]
      · rw [upI_nk (by omega)]; exact j3 t (by omega)
theorem Mcopy {G : GX} {d f : Nat} {sw : Bool} {I : St} {Q : Option Value → Hp → Prop} (q : ∀ J, CPY I 10 J → Q (some (.int (I 93 54))) (147, f, J, RP f sw)) : ∀ (c r : Nat) (J : St), r + c = 10 → CPY I r J → wp G (d + 120) (mt 234) 49 [some (.ref 93), some (.int (Int32.ofNat r)), none] [] (147, f, J, RP f sw) Q
  | 0, r, J, h, w => by
    have e : r = 10 := by omega
    subst e
    refine v_Mrules49 oks ?_
    rw [if_pos (by decide), w.1 93 (by decide)]
    exact q J w
  | c + 1, r, J, h, w => by
    refine v_Mrules49 oks ?_
    rw [if_neg (by rw [tI_le, kI_t (by omega)]; simp only [Int32.reduceToInt]; omega), kI_c (by omega)]
    refine ck_of (kI_x (by omega) (by omega)) (ck_of (kI_x (by omega) (by omega)) (ck_of (kI_x (by omega) (by omega)) (ck_of (kI_x (by omega) (by omega)) ?_)))
    refine Mcopy_in (by omega) (fun J' w' => Mcopy q c (r + 1) J' (by omega) w') 9 0 _ (by omega) ⟨fun p hp => by rw [upI_row (by omega), upI_row (by omega)]; exact w.1 p hp, fun i hi => ?_⟩ ?_ ?_ (fun t ht => by omega)
    · obtain ⟨a1, a2, a3⟩ := w.2 i hi
      refine ⟨by rw [upI_row (by decide), upI_nk (by omega)]; exact a1, by rw [upI_nk (by omega), upI_row (by decide)]; exact a2, fun t ht => ?_⟩
      rw [upI_row (by decide), upI_row (by decide)]; exact a3 t ht
    · rw [upI_row (by decide), upI_same, w.1 137 (by decide)]
    · rw [upI_same, w.1 139 (by decide)]
/-- what a run of the reference's rules changes -/
def MZ (K J : St) : Prop := (∀ p, ¬ (134 ≤ p ∧ p ≤ 139) → p ≠ 93 → J p = K p) ∧ ∀ k, k ≠ 0 → k ≠ 54 → k ≠ 58 → k ≠ 63 → k ≠ 64 → k < 65 ∨ 71 < k → J 93 k = K 93 k
theorem Mrules_ok {G : GX} {d f n : Nat} {sw : Bool} {K : St} {Q : Option Value → Hp → Prop} (tm : TM K) (hn : n ≤ 400) (k63 : K 93 63 = Int32.ofNat n) (qe : ∀ e J, pS (K 140) n 11 0 [] = .error e → FE n e → MZ K J → (∀ p, 134 ≤ p → p ≤ 136 → J p = K p) → J 93 54 = K 93 54 → J 93 63 = 0 → J 93 64 = e.1 → Q (some (.int (-1000100 - Int32.ofNat e.2))) (147, f, J, RP f sw)) (qo : ∀ rs J, pS (K 140) n 11 0 [] = .ok rs → FRs rs → rs.length ≤ 10 → MZ K J → J 93 63 = 0 → J 93 64 = K 93 64 → J 93 54 = Int32.ofNat rs.length → (∀ r, r < rs.length → J 136 r = (rs.getD r rz).1 ∧ J 134 r = Int32.ofNat (rs.getD r rz).2.length ∧ ∀ m, m < (rs.getD r rz).2.length → J 135 (9 * r + 3 * m) = ((rs.getD r rz).2.getD m tz).1 ∧ J 135 (9 * r + 3 * m + 1) = sgc ((rs.getD r rz).2.getD m tz).2.1 ∧ J 135 (9 * r + 3 * m + 2) = ((rs.getD r rz).2.getD m tz).2.2) → Q (some (.int (Int32.ofNat rs.length))) (147, f, J, RP f sw)) : wp G (d + 120) (mt 234) 0 (en (mt 234) [.ref 93]) [] (147, f, K, RP f sw) Q := by
  refine v_Mrules oks ?_
  rw [k63]
  obtain ⟨U, hU⟩ : ∃ U, upI (upI (upI (upI (upI (upI K 93 0 0) 93 65 (Int32.ofNat n)) 93 63 0) 93 66 0) 93 70 0) 93 58 0 = U := ⟨_, rfl⟩
  have ur : ∀ p, p ≠ 93 → U p = K p := fun p hp => by rw [← hU, upI_row hp, upI_row hp, upI_row hp, upI_row hp, upI_row hp, upI_row hp]
  have uk : ∀ k, k ≠ 0 → k ≠ 58 → k ≠ 63 → k ≠ 65 → k ≠ 66 → k ≠ 70 → U 93 k = K 93 k := fun k h1 h2 h3 h4 h5 h6 => by
    rw [← hU, upI_nk (by omega), upI_nk (by omega), upI_nk (by omega), upI_nk (by omega), upI_nk (by omega), upI_nk (by omega)]
  have u65 : U 93 65 = Int32.ofNat n := by rw [← hU]; rfl
  have u66 : U 93 66 = Int32.ofNat 0 := by rw [← hU]; rfl
  have u70 : U 93 70 = 0 := by rw [← hU]; rfl
  have u58 : U 93 58 = Int32.ofNat 0 := by rw [← hU]; rfl
  have u63 : U 93 63 = 0 := by rw [← hU]; rfl
  have u140 : U 140 = K 140 := ur 140 (by decide)
  have tmU : TM U := fun k hk => by rw [u140]; exact tm k hk
  rw [hU]
  refine Mstep_ok tmU hn (Nat.zero_le n) u65 u66 (fun J r m => ⟨_, rfl, rfl, ?_⟩)
  have me : ME U J := ME.rm ⟨fun _ _ _ => rfl, fun _ _ _ => rfl⟩ r
  have mz : ∀ X, ME U X → MZ K X := fun X a => ⟨fun p h1 h2 => by rw [a.1 p h2 (by omega), ur p h2], fun k h1 h2 h3 h4 h5 h6 => by rw [a.2 k h3 (by omega), uk k h1 h3 h4 (by omega) (by omega) (by omega)]⟩
  refine Mrules_loop tmU hn 11 0 J [] rfl (Nat.zero_le n) me m ((r.2 70 (by decide)).trans u70) ⟨(r.2 58 (by decide)).trans u58, fun r hr => absurd hr (by simp)⟩ (fun r hr => absurd hr (by simp)) (fun e X p1 p2 p3 p4 p5 => ?_) (fun rs X p1 p3 p4 p5 p6 p7 => ?_) (by decide)
  · rw [u140] at p1
    refine v_Mrules31 oks ?_
    rw [p4, p5, if_neg (by rcases p2.1 with y | y | y <;> (rw [y]; decide))]
    have z := mz X p3
    refine qe e _ p1 p2 ⟨fun p h1 h2 => by rw [upI_row h2]; exact z.1 p h1 h2, fun k h1 h2 h3 h4 h5 h6 => by rw [upI_nk (by omega)]; exact z.2 k h1 h2 h3 h4 h5 h6⟩ (fun p h1 h2 => by rw [upI_row (by omega), p3.1 p (by omega) (by omega), ur p (by omega)]) ?_ ?_ (upI_same _ _ _ _)
    · rw [upI_nk (by omega), p3.2 54 (by decide) (by decide), uk 54 (by decide) (by decide) (by decide) (by decide) (by decide) (by decide)]
    · rw [upI_nk (by omega), p3.2 63 (by decide) (by decide), u63]
  · rw [u140] at p1
    refine v_Mrules31 oks ?_
    rw [p4, if_pos (by decide)]
    obtain ⟨Y, hY⟩ : ∃ Y, upI X 93 54 (X 93 58) = Y := ⟨_, rfl⟩
    have yr : ∀ p, p ≠ 93 → Y p = X p := fun p hp => by rw [← hY, upI_row hp]
    have y54 : Y 93 54 = Int32.ofNat rs.length := by rw [← hY, upI_same]; exact p7.1
    have yk : ∀ k, k ≠ 54 → Y 93 k = X 93 k := fun k hk => by rw [← hY, upI_nk (by omega)]
    rw [hY]
    have z := mz X p3
    refine Mcopy (I := Y) (fun W w => ?_) 10 0 Y (by omega) ⟨fun _ _ => rfl, fun i hi => by omega⟩
    rw [y54]
    refine qo rs W p1 p6 p5 ⟨fun p h1 h2 => by rw [w.1 p (by omega), yr p h2]; exact z.1 p h1 h2, fun k h1 h2 h3 h4 h5 h6 => by rw [w.1 93 (by decide), yk k h2]; exact z.2 k h1 h2 h3 h4 h5 h6⟩ ?_ ?_ ?_ (fun r hr => ?_)
    · rw [w.1 93 (by decide), yk 63 (by decide), p3.2 63 (by decide) (by decide), u63]
    · rw [w.1 93 (by decide), yk 64 (by decide), p3.2 64 (by decide) (by decide), uk 64 (by decide) (by decide) (by decide) (by decide) (by decide) (by decide)]
    · rw [w.1 93 (by decide), y54]
    · obtain ⟨b1, b2', b3⟩ := w.2 r (by omega)
      obtain ⟨c1, c2, c3, c4⟩ := p7.2 r hr
      refine ⟨by rw [b2', yr 139 (by decide)]; exact c2, by rw [b1, yr 137 (by decide)]; exact c3, fun m hm => ?_⟩
      have q := c4 m hm
      rw [Nat.add_assoc, Nat.add_assoc, b3 (3 * m) (by omega), b3 (3 * m + 1) (by omega), b3 (3 * m + 2) (by omega), yr 138 (by decide), ← Nat.add_assoc, ← Nat.add_assoc]
      exact q
theorem RP_swA {f : Nat} : upR (upR (RP f false) 0 9 (some 71)) 0 10 (some 65) = RP f true := by
  funext p k
  unfold upR RP
  by_cases h : p = 0
  · subst h
    simp only [if_true, show ¬ (0 : Nat) = 48 by decide, if_false]
    by_cases h9 : k = 9
    · subst h9; rfl
    · by_cases h10 : k = 10
      · subst h10; rfl
      · rw [if_neg h10, if_neg h9, if_neg h9, if_neg h10, if_neg h9, if_neg h10]
  · rw [if_neg h, if_neg h, if_neg h, if_neg h]
theorem RP_swB {f : Nat} : upR (upR (RP f true) 0 9 (some 65)) 0 10 (some 71) = RP f false := by
  funext p k
  unfold upR RP
  by_cases h : p = 0
  · subst h
    simp only [if_true, show ¬ (0 : Nat) = 48 by decide, if_false]
    by_cases h9 : k = 9
    · subst h9; rfl
    · by_cases h10 : k = 10
      · subst h10; rfl
      · rw [if_neg h10, if_neg h9, if_neg h9, if_neg h10, if_neg h9, if_neg h10]
  · rw [if_neg h, if_neg h, if_neg h, if_neg h]
theorem err_neg {n : Nat} {e : Flt} (h : FE n e) (hn : n ≤ 400) : (-1000100 - Int32.ofNat e.2).toInt < 0 := by
  have q := h.2
  have t1 : ((-1000100 : Int32)).toInt = -1000100 := by decide
  rw [fb_subI (by rw [kI_t (by omega), t1]; omega) (by rw [kI_t (by omega), t1]; omega), kI_t (by omega), t1]
  omega
theorem Rel.mk8 {G : GX} {f : Nat} {sw sw' : Bool} {I J : St} (hR : Rel G f sw I) (ha : Ag [7, 8, 11] I J) (r7 : RC7 sw' J) (r8 : RC8 J) : Rel G f sw' J := by
  obtain ⟨q0, q1, q2, q3, q4, q5, q6, q7, q8, q9, q10⟩ := hR
  exact ⟨q0.cg (ha.eqc rfl), q1.cg (ha.eqc rfl), q2.cg (ha.eqc rfl), q3.cg (ha.eqc rfl), q4.cg (ha.eqc rfl), q5.cg (ha.eqc rfl), q6.cg (ha.eqc rfl), r7, r8, q9.cg (ha.eqc rfl), q10.cg (ha.eqc rfl)⟩
theorem cmp_bk {p : Nat} (k : Nat) (h1 : 65 ≤ p) (h2 : p ≤ 76) : cmp p k = 7 := by
  rw [cmp_pl k (by omega) (by omega)]
  obtain ⟨t, rfl⟩ : ∃ t, p = 65 + t := ⟨p - 65, by omega⟩
  have ht : t < 12 := by omega
  clear h1 h2
  revert t
  decide
theorem RE.ag {I J : St} {d n : Nat} (hd : d = 65 ∨ d = 71) (a : RE I d n J) : Ag [7, 8, 11] I J := fun p k hq => by
  by_cases h1 : p = 61
  · subst h1; rw [show cmp 61 k = 8 from rfl] at hq; cases hq
  · by_cases h2 : d ≤ p ∧ p ≤ d + 5
    · rw [cmp_bk k (by omega) (by omega)] at hq; cases hq
    · rw [a p h1 h2]
theorem MZ.ag {K J : St} (z : MZ K J) : Ag [7, 8, 11] K J := fun p k hq => by
  by_cases h1 : p = 93
  · subst h1
    by_cases h2 : k ≠ 0 ∧ k ≠ 54 ∧ k ≠ 58 ∧ k ≠ 63 ∧ k ≠ 64 ∧ (k < 65 ∨ 71 < k)
    · exact z.2 k h2.1 h2.2.1 h2.2.2.1 h2.2.2.2.1 h2.2.2.2.2.1 h2.2.2.2.2.2
    · exfalso
      have h3 : k = 0 ∨ k = 54 ∨ k = 58 ∨ k = 63 ∨ k = 64 ∨ k = 65 ∨ k = 66 ∨ k = 67 ∨ k = 68 ∨ k = 69 ∨ k = 70 ∨ k = 71 := by omega
      rcases h3 with e | e | e | e | e | e | e | e | e | e | e | e <;> (rw [e] at hq; cases hq)
  · by_cases h2 : 134 ≤ p ∧ p ≤ 139
    · exfalso
      have h3 : p = 134 ∨ p = 135 ∨ p = 136 ∨ p = 137 ∨ p = 138 ∨ p = 139 := by omega
      rcases h3 with e | e | e | e | e | e <;> (subst e; cases hq)
    · rw [z.1 p h2 h1]
theorem BC.bk {d : Nat} {J : St} {rs : List Rul} (bc : BC d J rs) (fr : FRs rs) (hl : rs.length ≤ 10) (j54 : J 93 54 = Int32.ofNat rs.length) (jr : ∀ r, r < rs.length → J 136 r = (rs.getD r rz).1 ∧ J 134 r = Int32.ofNat (rs.getD r rz).2.length ∧ ∀ m, m < (rs.getD r rz).2.length → J 135 (9 * r + 3 * m) = ((rs.getD r rz).2.getD m tz).1 ∧ J 135 (9 * r + 3 * m + 1) = sgc ((rs.getD r rz).2.getD m tz).2.1 ∧ J 135 (9 * r + 3 * m + 2) = ((rs.getD r rz).2.getD m tz).2.2) : BK d J := by
  have t54 : (J 93 54).toInt = rs.length := by rw [j54, kI_t (by omega)]
  refine ⟨bc.1.trans j54.symm, by omega, by omega, fun r hr => ?_⟩
  have hr2 : r < rs.length := by omega
  obtain ⟨a1, a2, a3, a4⟩ := bc.2 r hr2
  obtain ⟨b1, b2', b3⟩ := jr r hr2
  obtain ⟨f1, f2, f3⟩ := fr r hr2
  have t134 : (J 134 r).toInt = (rs.getD r rz).2.length := by rw [b2', kI_t (by omega)]
  refine ⟨⟨a2.trans b1.symm, by rw [b1]; exact f1.1, by rw [b1]; exact f1.2⟩, ⟨a3.trans b2'.symm, by omega, by omega⟩, fun n hn => ?_⟩
  have hn2 : n < (rs.getD r rz).2.length := by omega
  obtain ⟨c1, c2, c3⟩ := a4 n hn2
  obtain ⟨d1, d2, d3⟩ := b3 n hn2
  obtain ⟨e1, e2⟩ := f3 n hn2
  refine ⟨⟨c1.trans d1.symm, by rw [d1]; exact e1.1, by rw [d1]; exact e1.2⟩, ?_, c3.trans d3.symm⟩
  rw [c2, d2]
  rcases e2 with e | e | e
  · exact Or.inl ⟨e, by rw [e]; rfl⟩
  · exact Or.inr (Or.inl ⟨e, by rw [e]; rfl⟩)
  · exact Or.inr (Or.inr ⟨e, by rw [e]; rfl⟩)
theorem co_rules {G : GX} : CO (Rel G) G 116 234 [] := fun f sw I hR => by
  obtain ⟨b1, b2', b3, b4, b5⟩ := id hR.2.2.2.2.2.2.2.2.1
  have r7 := hR.2.2.2.2.2.2.2.1
  obtain ⟨n, hn, tn⟩ : ∃ n : Nat, I 93 63 = Int32.ofNat n ∧ (I 93 63).toInt = (n : Int) := ⟨(I 93 63).toInt.toNat, kI_of b3, by omega⟩
  have n400 : n ≤ 400 := by omega
  have i0 : I 61 0 = Int32.ofNat n := b1.trans hn
  have tp : TP I := b5
  -- the tape's part of the relation, behind both
  have r8 : ∀ (d : Nat) (K J : St), (d = 65 ∨ d = 71) → RE I d n K → MZ K J → K 61 0 = 0 → J 93 63 = 0 → K 61 1 = J 93 64 → RC8 J := fun d K J hd a z k0 j63 k1 => by
    have j61 : J 61 = K 61 := z.1 61 (by omega) (by decide)
    refine ⟨by rw [j61, k0, j63], by rw [j61, k1], by rw [j63]; decide, by rw [j63]; decide, fun k hk => ?_⟩
    rw [z.1 62 (by omega) (by decide), z.1 140 (by omega) (by decide), a 62 (by decide) (by omega), a 140 (by decide) (by omega)]
    exact b5 k hk
  have tmK : ∀ (d : Nat) (K : St), (d = 65 ∨ d = 71) → RE I d n K → TM K ∧ K 140 = I 140 ∧ K 93 63 = Int32.ofNat n ∧ K 93 64 = I 93 64 := fun d K hd a => by
    have e := a 140 (by decide) (by omega)
    refine ⟨fun k hk => by rw [e]; exact (b5 k hk).2, e, by rw [a 93 (by decide) (by omega)]; exact hn, by rw [a 93 (by decide) (by omega)]⟩
  -- the old book stays
  have old : ∀ (d : Nat) (K J : St), (d = 65 ∨ d = 71) → RE I d n K → MZ K J → (∀ p, 134 ≤ p → p ≤ 136 → J p = K p) → J 93 54 = K 93 54 → BK (136 - d) I → BK (136 - d) J := fun d K J hd a z h1 h2 hb => by
    have e : ∀ p, 136 - d ≤ p → p ≤ 136 - d + 5 → J p = I p := fun p p1 p2 => by rw [z.1 p (by omega) (by omega), a p (by omega) (by omega)]
    have e2 : ∀ p, 134 ≤ p → p ≤ 136 → J p = I p := fun p p1 p2 => by rw [h1 p p1 p2, a p (by omega) (by omega)]
    unfold BK
    rw [e (136 - d) (by omega) (by omega), e (136 - d + 1) (by omega) (by omega), e (136 - d + 2) (by omega) (by omega), e (136 - d + 3) (by omega) (by omega), e (136 - d + 4) (by omega) (by omega), e (136 - d + 5) (by omega) (by omega), e2 134 (by decide) (by decide), e2 135 (by decide) (by decide), e2 136 (by decide) (by decide), h2, a 93 (by decide) (by omega)]
    exact hb
  cases sw with
  | false =>
    refine v_CrulesA oks ?_
    refine rdTape_okA tp n400 i0 (fun e K p1 p2 p3 p4 => ⟨_, _, rfl, rfl, ?_⟩) (fun rs K p1 p2 p3 p4 p5 p6 => ⟨_, _, rfl, rfl, ?_⟩)
    · have fe := pS_err (rs := []) rfl (by decide) (Nat.zero_le n) p1
      rw [if_pos (by rw [tI_lt]; exact err_neg fe n400)]
      obtain ⟨q1, q2, q3, q4⟩ := tmK 71 K (Or.inr rfl) p2
      refine ⟨_, f, false, K, rfl, rfl, hR.rx (p2.ag (Or.inr rfl)) rfl, ?_⟩
      refine Mrules_ok q1 n400 q3 (fun e' J w1 w2 w3 w4 w5 w6 w7 => ?_) (fun rs J w1 => ?_)
      · rw [q2, p1] at w1
        have := Except.error.inj w1
        subst this
        exact ⟨J, rfl, rfl, hR.mk8 ((p2.ag (Or.inr rfl)).tr w3.ag) (old 71 K J (Or.inr rfl) p2 w3 w4 w5 r7) (r8 71 K J (Or.inr rfl) p2 w3 p4 w6 (p3.trans w7.symm))⟩
      · rw [q2, p1] at w1; cases w1
    · rw [if_neg (by rw [tI_lt, kI_t (by omega)]; simp only [Int32.reduceToInt]; omega), RP_swA]
      obtain ⟨q1, q2, q3, q4⟩ := tmK 71 K (Or.inr rfl) p2
      refine ⟨_, f, true, K, rfl, rfl, hR.rx (p2.ag (Or.inr rfl)) rfl, ?_⟩
      refine Mrules_ok q1 n400 q3 (fun e' J w1 => ?_) (fun rs' J w1 w2 w3 w4 w5 w6 w7 w8 => ?_)
      · rw [q2, p1] at w1; cases w1
      · rw [q2, p1] at w1
        have := Except.ok.inj w1
        subst this
        refine ⟨J, rfl, rfl, hR.mk8 ((p2.ag (Or.inr rfl)).tr w4.ag) ?_ (r8 71 K J (Or.inr rfl) p2 w4 p4 w5 (by rw [p3, b2', w6, q4]))⟩
        exact (p6.ro (fun p h1 h2 => w4.1 p (by omega) (by omega))).bk w2 w3 w7 w8
  | true =>
    refine v_CrulesB oks ?_
    refine rdTape_okB tp n400 i0 (fun e K p1 p2 p3 p4 => ⟨_, _, rfl, rfl, ?_⟩) (fun rs K p1 p2 p3 p4 p5 p6 => ⟨_, _, rfl, rfl, ?_⟩)
    · have fe := pS_err (rs := []) rfl (by decide) (Nat.zero_le n) p1
      rw [if_pos (by rw [tI_lt]; exact err_neg fe n400)]
      obtain ⟨q1, q2, q3, q4⟩ := tmK 65 K (Or.inl rfl) p2
      refine ⟨_, f, true, K, rfl, rfl, hR.rx (p2.ag (Or.inl rfl)) rfl, ?_⟩
      refine Mrules_ok q1 n400 q3 (fun e' J w1 w2 w3 w4 w5 w6 w7 => ?_) (fun rs J w1 => ?_)
      · rw [q2, p1] at w1
        have := Except.error.inj w1
        subst this
        exact ⟨J, rfl, rfl, hR.mk8 ((p2.ag (Or.inl rfl)).tr w3.ag) (old 65 K J (Or.inl rfl) p2 w3 w4 w5 r7) (r8 65 K J (Or.inl rfl) p2 w3 p4 w6 (p3.trans w7.symm))⟩
      · rw [q2, p1] at w1; cases w1
    · rw [if_neg (by rw [tI_lt, kI_t (by omega)]; simp only [Int32.reduceToInt]; omega), RP_swB]
      obtain ⟨q1, q2, q3, q4⟩ := tmK 65 K (Or.inl rfl) p2
      refine ⟨_, f, false, K, rfl, rfl, hR.rx (p2.ag (Or.inl rfl)) rfl, ?_⟩
      refine Mrules_ok q1 n400 q3 (fun e' J w1 => ?_) (fun rs' J w1 w2 w3 w4 w5 w6 w7 w8 => ?_)
      · rw [q2, p1] at w1; cases w1
      · rw [q2, p1] at w1
        have := Except.ok.inj w1
        subst this
        refine ⟨J, rfl, rfl, hR.mk8 ((p2.ag (Or.inl rfl)).tr w4.ag) ?_ (r8 65 K J (Or.inl rfl) p2 w4 p4 w5 (by rw [p3, b2', w6, q4]))⟩
        exact (p6.ro (fun p h1 h2 => w4.1 p (by omega) (by omega))).bk w2 w3 w7 w8
