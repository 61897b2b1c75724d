/-! CALLS: rules -/
theorem need_no {G : GX} {d f : Nat} {sw : Bool} {J : St} {b : Int32} {Q : Option Value → Hp → Prop} (f0 : ¬ J 93 70 = 0) (q : Q none (147, f, J, RP f sw)) : wp G (d + 40) (mt 242) 0 (en (mt 242) [.ref 93, .int b]) [] (147, f, J, RP f sw) Q := by
  refine v_Mneed oks ?_
  have go : wp G (d + 40) (mt 242) 5 [some (.ref 93), none] [] (147, f, J, RP f sw) Q := by
    refine v_Mneed5 oks ?_
    rw [if_neg f0]
    exact q
  refine ite_i (fun _ => ?_) (fun _ => go)
  rw [if_neg f0]
  exact go
/-- a fault's number and place -/
def FE (n : Nat) (e : Flt) : Prop := (e.1 = 1 ∨ e.1 = 2 ∨ e.1 = 3) ∧ e.2 ≤ n
theorem FE.ne {n : Nat} {e : Flt} (h : FE n e) : ¬ e.1 = 0 := by
  rcases h.1 with z | z | z <;> (rw [z]; decide)
theorem pT_err {T : Nat → Int32} {n k : Nat} {e : Flt} (hk : k ≤ n) (h : pT T n k = .error e) : FE n e := by
  have e1 := (tE_le (T := T) hk).2.1
  have e2 := (tE_le (T := T) e1).2.1
  unfold pT at h
  split at h
  · have := Except.error.inj h; subst this; exact ⟨Or.inl rfl, (tS_le (T := T) hk).2⟩
  · split at h
    · have := Except.error.inj h; subst this; exact ⟨Or.inl rfl, (tS_le (T := T) e1).2⟩
    · split at h
      · cases h
      · have := Except.error.inj h; subst this; exact ⟨Or.inl rfl, (tS_le (T := T) e2).2⟩
theorem pA_s {T : Nat → Int32} {n c k : Nat} {ts : List Tst} (z : rdB T n k 9 = true) : pA T n (c + 1) k ts = (match pT T n (tE T n k) with
    | .error e => .error e
    | .ok (k', x) => pA T n c k' (ts ++ [x])) := by
  rw [pA, if_pos z]
  rfl
theorem pR_s {T : Nat → Int32} {n r k : Nat} (z : rdB T n k 0 = true) (h : ¬ r = 10) : pR T n r k = (match pT T n (tE T n k) with
  | .error e => .error e
  | .ok (k1, x) => match pA T n 2 k1 [x] with
    | .error e => .error e
    | .ok (k2, ts) => match pM T n k2 with
      | .error e => .error e
      | .ok (k3, a) => .ok (k3, a, ts)) := by
  rw [pR, if_pos z, if_neg h]
  rfl
theorem pA_err {T : Nat → Int32} {n : Nat} {e : Flt} : ∀ {c k : Nat} {ts : List Tst}, k ≤ n → pA T n c k ts = .error e → FE n e
  | 0, k, ts, hk, h => by
    unfold pA at h
    split at h
    · have := Except.error.inj h; subst this; exact ⟨Or.inr (Or.inl rfl), (tS_le (T := T) hk).2⟩
    · cases h
  | c + 1, k, ts, hk, h => by
    have e1 := (tE_le (T := T) hk).2.1
    rw [pA] at h
    split at h
    · cases hp : pT T n (tE T n k) with
      | error e' =>
        rw [hp] at h
        have := Except.error.inj h; subst this
        exact pT_err e1 hp
      | ok x =>
        obtain ⟨k', y⟩ := x
        rw [hp] at h
        exact pA_err (pT_le e1 hp) h
    · cases h
theorem pA_le {T : Nat → Int32} {n : Nat} {k' : Nat} {t2 : List Tst} : ∀ {c k : Nat} {ts : List Tst}, k ≤ n → pA T n c k ts = .ok (k', t2) → k' ≤ n
  | 0, k, ts, hk, h => by
    unfold pA at h
    split at h
    · cases h
    · have := Except.ok.inj h
      have e := congrArg Prod.fst this
      simp only at e
      omega
  | c + 1, k, ts, hk, h => by
    have e1 := (tE_le (T := T) hk).2.1
    rw [pA] at h
    split at h
    · cases hp : pT T n (tE T n k) with
      | error e' => rw [hp] at h; cases h
      | ok x =>
        obtain ⟨k2, y⟩ := x
        rw [hp] at h
        exact pA_le (pT_le e1 hp) h
    · have := Except.ok.inj h
      have e := congrArg Prod.fst this
      simp only at e
      omega
theorem pM_err {T : Nat → Int32} {n k : Nat} {e : Flt} (hk : k ≤ n) (h : pM T n k = .error e) : FE n e := by
  have e1 := (tE_le (T := T) hk).2.1
  have e2 := (tE_le (T := T) e1).2.1
  unfold pM at h
  split at h
  · split at h
    · have := Except.error.inj h; subst this; exact ⟨Or.inl rfl, (tS_le (T := T) e1).2⟩
    · split at h
      · cases h
      · have := Except.error.inj h; subst this; exact ⟨Or.inl rfl, (tS_le (T := T) e2).2⟩
  · have := Except.error.inj h; subst this; exact ⟨Or.inl rfl, (tS_le (T := T) hk).2⟩
/-- fine rules -/
def FT (t : Tst) : Prop := (0 ≤ t.1.toInt ∧ t.1.toInt ≤ 4) ∧ (t.2.1 = 0 ∨ t.2.1 = 1 ∨ t.2.1 = 2)
def FTS (ts : List Tst) : Prop := ∀ n, n < ts.length → FT (ts.getD n tz)
def FRu (r : Rul) : Prop := (0 ≤ r.1.toInt ∧ r.1.toInt ≤ 3) ∧ r.2.length ≤ 3 ∧ FTS r.2
theorem FTS.add {ts : List Tst} {x : Tst} (h : FTS ts) (hx : FT x) : FTS (ts ++ [x]) := fun n hn => by
  rw [List.length_append] at hn
  have hn : n < ts.length + 1 := hn
  by_cases e : n = ts.length
  · rw [e, gdL]; exact hx
  · rw [gdA (by omega)]; exact h n (by omega)
theorem sbj_r {T : Nat → Int32} {n k : Nat} (h : ¬ sbj T n k = -1000000) : 0 ≤ (sbj T n k).toInt ∧ (sbj T n k).toInt ≤ 4 := by
  unfold sbj at h ⊢
  by_cases h1 : rdB T n k 1 = true
  · rw [pk_t h1]; decide
  · rw [pk_f h1] at h ⊢
    by_cases h2 : rdB T n k 2 = true
    · rw [pk_t h2]; decide
    · rw [pk_f h2] at h ⊢
      by_cases h3 : rdB T n k 3 = true
      · rw [pk_t h3]; decide
      · rw [pk_f h3] at h ⊢
        by_cases h4 : rdB T n k 4 = true
        · rw [pk_t h4]; decide
        · rw [pk_f h4] at h ⊢
          by_cases h5 : rdB T n k 5 = true
          · rw [pk_t h5]; decide
          · rw [pk_f h5] at h; exact absurd rfl h
theorem sgT_r {T : Nat → Int32} {n k : Nat} (h : ¬ sgT T n k = -1000000) : sgT T n k = 0 ∨ sgT T n k = 1 ∨ sgT T n k = 2 := by
  unfold sgT at h ⊢
  by_cases h1 : rdB T n k 6 = true
  · rw [pk_t h1]; exact Or.inl rfl
  · rw [pk_f h1] at h ⊢
    by_cases h2 : rdB T n k 7 = true
    · rw [pk_t h2]; exact Or.inr (Or.inl rfl)
    · rw [pk_f h2] at h ⊢
      by_cases h3 : rdB T n k 8 = true
      · rw [pk_t h3]; exact Or.inr (Or.inr rfl)
      · rw [pk_f h3] at h; exact absurd rfl h
theorem acn_r {T : Nat → Int32} {n k : Nat} (h : ¬ acn T n k = -1000000) : 0 ≤ (acn T n k).toInt ∧ (acn T n k).toInt ≤ 3 := by
  unfold acn at h ⊢
  by_cases h1 : rdB T n k 11 = true
  · rw [pk_t h1]; decide
  · rw [pk_f h1] at h ⊢
    by_cases h2 : rdB T n k 12 = true
    · rw [pk_t h2]; decide
    · rw [pk_f h2] at h ⊢
      by_cases h3 : rdB T n k 13 = true
      · rw [pk_t h3]; decide
      · rw [pk_f h3] at h ⊢
        by_cases h4 : rdB T n k 14 = true
        · rw [pk_t h4]; decide
        · rw [pk_f h4] at h; exact absurd rfl h
theorem pT_fine {T : Nat → Int32} {n k k' : Nat} {x : Tst} (h : pT T n k = .ok (k', x)) : FT x := by
  unfold pT at h
  split at h
  · cases h
  · rename_i z1
    split at h
    · cases h
    · rename_i z2
      split at h
      · have e := congrArg Prod.snd (Except.ok.inj h)
        simp only at e
        rw [← e]
        exact ⟨sbj_r z1, sgT_r z2⟩
      · cases h
theorem pA_fine {T : Nat → Int32} {n k' : Nat} {t2 : List Tst} : ∀ {c k : Nat} {ts : List Tst}, FTS ts → pA T n c k ts = .ok (k', t2) → FTS t2
  | 0, k, ts, hf, h => by
    unfold pA at h
    split at h
    · cases h
    · have e := congrArg Prod.snd (Except.ok.inj h)
      simp only at e
      rw [← e]; exact hf
  | c + 1, k, ts, hf, h => by
    rw [pA] at h
    split at h
    · cases hp : pT T n (tE T n k) with
      | error e' => rw [hp] at h; cases h
      | ok x =>
        obtain ⟨k2, y⟩ := x
        rw [hp] at h
        exact pA_fine (hf.add (pT_fine hp)) h
    · have e := congrArg Prod.snd (Except.ok.inj h)
      simp only at e
      rw [← e]; exact hf
theorem pM_fine {T : Nat → Int32} {n k k' : Nat} {x : Int32} (h : pM T n k = .ok (k', x)) : 0 ≤ x.toInt ∧ x.toInt ≤ 3 := by
  unfold pM at h
  split at h
  · split at h
    · cases h
    · rename_i z2
      split at h
      · have e := congrArg Prod.snd (Except.ok.inj h)
        simp only at e
        rw [← e]
        exact acn_r z2
      · cases h
  · cases h
theorem lcW {T : Nat → Int32} {n k : Nat} {C : Int64} {A B : Prop} (hk : k ≤ n) (i : Nat) (hi : i < 16) (hm : isNm i = true) (hC : C = Int64.ofNat (stW i)) (ht : rdB T n k i = true → A) (hf : ¬ rdB T n k i = true → B) : if lg_cmp (Int64.ofNat (wV T n k)) C = 0 then A else B := ite_i (fun z => ht (wrd_t hk i hi hm hC z)) (fun z => hf (wrd_n hk i hi hm hC z))
def rLv (x : Option Value) : List (Option Value) := [some (.ref 93), x, none, none, none]
theorem MbadR {G : GX} {d f : Nat} {sw : Bool} {J : St} {u : Int32} {Q : Option Value → Hp → Prop} (f0 : ¬ J 93 70 = 0) (q : Q none (147, f, J, RP f sw)) : wp G (d + 80) (mt 239) 119 (rLv none) [] (147, f, J, RP f sw) Q ∧ wp G (d + 80) (mt 239) 67 (rLv (some (.int u))) [] (147, f, J, RP f sw) Q ∧ wp G (d + 80) (mt 239) 54 (rLv (some (.int u))) [] (147, f, J, RP f sw) Q ∧ wp G (d + 80) (mt 239) 32 (rLv (some (.int u))) [] (147, f, J, RP f sw) Q := by
  have h1 : wp G (d + 80) (mt 239) 119 (rLv none) [] (147, f, J, RP f sw) Q := by
    refine v_MrdR119 oks ?_
    rw [if_neg f0]; exact q
  have h2 : wp G (d + 80) (mt 239) 67 (rLv (some (.int u))) [] (147, f, J, RP f sw) Q := by
    refine v_MrdR67 oks ?_
    rw [if_neg f0]; exact h1
  have h3 : wp G (d + 80) (mt 239) 54 (rLv (some (.int u))) [] (147, f, J, RP f sw) Q := by
    refine v_MrdR54 oks ?_
    rw [if_neg f0]; exact h2
  refine ⟨h1, h2, h3, ?_⟩
  refine v_MrdR32 oks ?_
  rw [if_neg f0]; exact h3
theorem MT.up {T : Nat → Int32} {n k p i : Nat} {J : St} {x : Int32} (h : MT T n k J) (hp : p ≠ 93 ∨ (i < 65 ∨ 69 < i)) : MT T n k (upI J p i x) := by
  obtain ⟨x0, x1, x2, x3, x4⟩ := h
  exact ⟨by rw [upI_nk (by omega)]; exact x0, by rw [upI_nk (by omega)]; exact x1, by rw [upI_nk (by omega)]; exact x2, by rw [upI_nk (by omega)]; exact x3, by rw [upI_nk (by omega)]; exact x4⟩
/-- from 'must' on -/
theorem MrdMust {G : GX} {d f n k : Nat} {sw : Bool} {I J : St} {rs : List Rul} {ts : List Tst} {Q : Option Value → Hp → Prop} (tm : TM I) (hn : n ≤ 400) (hk : k ≤ n) (a : ME I J) (mt' : MT (I 140) n k J) (f0 : J 93 70 = 0) (mw : MW J rs ts) (hr : rs.length < 10) (ht : ts.length ≤ 3) (qe : ∀ e K, pM (I 140) n k = .error e → ME I K → K 93 70 = e.1 → K 93 71 = Int32.ofNat e.2 → Q none (147, f, K, RP f sw)) (qo : ∀ k' x K, pM (I 140) n k = .ok (k', x) → ME I K → MT (I 140) n k' K → k' ≤ n → K 93 70 = 0 → MC K (rs ++ [(x, ts)]) → Q none (147, f, K, RP f sw)) : wp G (d + 80) (mt 239) 54 (rLv (some (.int (Int32.ofNat ts.length)))) [] (147, f, J, RP f sw) Q := by
  obtain ⟨e1, e2⟩ := a.t tm
  have l1 := (tE_le (T := I 140) hk).2.1
  have l2 := (tE_le (T := I 140) l1).2.1
  have le3 := (tE_le (T := I 140) l2).2.1
  unfold pM at qe qo
  refine v_MrdR54 oks ?_
  rw [if_pos f0]
  refine word_ok hn hk (by rw [e1]; exact mt') ⟨_, _, rfl, rfl, ?_⟩
  rw [e1]
  refine lcW hk 10 (by decide) (by decide) (by decide) (fun z => ?_) (fun z => ?_)
  · rw [if_pos z] at qe qo
    refine need_ok tm hn hk a mt' f0 true (fun _ K1 r1 b1 n1 => ⟨_, rfl, rfl, ?_⟩) (fun h => by cases h)
    obtain ⟨t1, t2⟩ := b1.t tm
    have g0 : K1 93 70 = 0 := (r1.2 70 (by decide)).trans f0
    have w1 := mw.rm r1
    have w58 : K1 93 58 = Int32.ofNat rs.length := w1.1.1
    have go98 : ∀ y : Int32, y = acn (I 140) n (tE (I 140) n k) → wp G (d + 80) (mt 239) 98 (rLv (some (.int (Int32.ofNat ts.length)))) [.int y] (147, f, K1, RP f sw) Q := fun y hy => by
      refine v_MrdR98 oks ?_
      rw [w58, kI_c (by omega)]
      refine ck_of (kI_x (by omega) (by omega)) (ck_of (kI_x (by omega) (by omega)) ?_)
      have a2 := (b1.up (p := 139) (k := rs.length) (x := y) (Or.inl (by decide))).up (p := 137) (k := rs.length) (x := Int32.ofNat ts.length) (Or.inl (by decide))
      have m2 : MT (I 140) n (tE (I 140) n k) (upI (upI K1 139 rs.length y) 137 rs.length (Int32.ofNat ts.length)) := (n1.up (Or.inl (by decide))).up (Or.inl (by decide))
      have h0 : upI (upI K1 139 rs.length y) 137 rs.length (Int32.ofNat ts.length) 93 70 = 0 := by rw [upI_row (by decide), upI_row (by decide)]; exact g0
      refine ite_i (fun z2 => ?_) (fun z2 => ?_)
      · refine need_ok tm hn l1 a2 m2 h0 false (fun h => by cases h) (fun _ => ⟨_, rfl, rfl, ?_⟩)
        refine (MbadR (u := 0) (by rw [upI_nk (by omega), upI_same]; decide) ?_).1
        rw [if_pos (by rw [← hy]; exact z2)] at qe
        exact qe _ _ rfl ((a2.up (Or.inr ⟨rfl, Or.inr (by decide)⟩)).up (Or.inr ⟨rfl, Or.inr (by decide)⟩)) (by rw [upI_nk (by omega), upI_same]) (upI_same _ _ _ _)
      · have zs : ¬ acn (I 140) n (tE (I 140) n k) = -1000000 := by rw [← hy]; exact z2
        rw [if_neg zs] at qe qo
        refine need_ok tm hn l1 a2 m2 h0 true (fun _ K2 r2 b2' n2 => ⟨_, rfl, rfl, ?_⟩) (fun h => by cases h)
        obtain ⟨v1, v2⟩ := b2'.t tm
        have j0 : K2 93 70 = 0 := (r2.2 70 (by decide)).trans h0
        have k58 : K2 93 58 = Int32.ofNat rs.length := by rw [r2.2 58 (by decide), upI_row (by decide), upI_row (by decide)]; exact w58
        have k15 := tk4 (T := I 140) l2 15 59 rfl (by decide) (by decide) (Or.inr (by decide))
        have sl2 := tS_le (T := I 140) l2
        have bad : ¬ rdB (I 140) n (tE (I 140) n (tE (I 140) n k)) 15 = true → wp G (d + 79) (mt 242) 0 (en (mt 242) [.ref 93, .int 0]) [] (147, f, K2, RP f sw) (fun v h1 => ∃ I1 : Nat → Nat → Int32, v = none ∧ h1 = (147, f, I1, RP f sw) ∧ Q none (147, f, upI I1 93 58 (I1 93 58 + 1), RP f sw)) := fun zb => by
          refine need_ok tm hn l2 b2' n2 j0 false (fun h => by cases h) (fun _ => ⟨_, rfl, rfl, ?_⟩)
          rw [if_neg zb] at qe
          exact qe _ _ rfl (((b2'.up (Or.inr ⟨rfl, Or.inr (by decide)⟩)).up (Or.inr ⟨rfl, Or.inr (by decide)⟩)).up (Or.inr ⟨rfl, Or.inl rfl⟩)) (by rw [upI_nk (by omega), upI_nk (by omega), upI_same]) (by rw [upI_nk (by omega), upI_same])
        refine v_MrdR119 oks ?_
        rw [if_pos j0, n2.2.2.1, n2.2.2.2.1, v1]
        refine ite_i (fun h4 => ?_) (fun h4 => bad (fun w => h4 (k15.mpr w).1))
        have hlt : tS (I 140) n (tE (I 140) n (tE (I 140) n k)) < n := by
          rcases Nat.lt_or_ge (tS (I 140) n (tE (I 140) n (tE (I 140) n k))) n with y2 | y2
          · exact y2
          · unfold tkM at h4; rw [if_neg (by omega)] at h4; exact absurd h4 (by decide)
        rw [kI_c (show tS (I 140) n (tE (I 140) n (tE (I 140) n k)) < 2147483648 by omega)]
        refine ck_of (kI_x (by omega) (by omega)) ?_
        refine ite_i (fun h5 => ?_) (fun h5 => bad (fun w => h5 (k15.mpr w).2))
        have zb := k15.mp ⟨h4, h5⟩
        refine need_ok tm hn l2 b2' n2 j0 true (fun _ K3 r3 b3 n3 => ⟨_, rfl, rfl, ?_⟩) (fun h => by cases h)
        rw [if_pos zb] at qo
        have x58 : K3 93 58 = Int32.ofNat rs.length := (r3.2 58 (by decide)).trans k58
        refine qo _ _ _ rfl (b3.up (Or.inr ⟨rfl, Or.inl rfl⟩)) (n3.up (Or.inr (Or.inl (by decide)))) le3 (by rw [upI_nk (by omega), r3.2 70 (by decide)]; exact j0) ?_
        obtain ⟨⟨c1, c2⟩, c3⟩ := w1
        have row : ∀ p i, p ≠ 93 → ¬ (p = 139 ∧ i = rs.length) → ¬ (p = 137 ∧ i = rs.length) → upI K3 93 58 (K3 93 58 + 1) p i = K1 p i := fun p i p1 p2 p3 => by
          rw [upI_nk (by omega), r3.1 p p1, r2.1 p p1, upI_nk p3, upI_nk p2]
        refine ⟨by rw [upI_same, x58, List.length_append]; exact l1a _, fun r hr2 => ?_⟩
        rw [List.length_append] at hr2
        have hr2 : r < rs.length + 1 := hr2
        by_cases e : r = rs.length
        · rw [e, gdL]
          refine ⟨ht, ?_, ?_, fun m hm => ?_⟩
          · rw [upI_row (by decide), r3.1 139 (by decide), r2.1 139 (by decide), upI_row (by decide), upI_same, hy]
          · rw [upI_row (by decide), r3.1 137 (by decide), r2.1 137 (by decide), upI_same]
          · rw [row 138 _ (by decide) (by omega) (by omega), row 138 _ (by decide) (by omega) (by omega), row 138 _ (by decide) (by omega) (by omega)]
            exact c3 m hm
        · obtain ⟨d1, d2, d3, d4⟩ := c2 r (by omega)
          rw [gdA (by omega)]
          refine ⟨d1, ?_, ?_, fun m hm => ?_⟩
          · rw [row 139 r (by decide) (by omega) (by omega)]; exact d2
          · rw [row 137 r (by decide) (by omega) (by omega)]; exact d3
          · rw [row 138 _ (by decide) (by omega) (by omega), row 138 _ (by decide) (by omega) (by omega), row 138 _ (by decide) (by omega) (by omega)]
            exact d4 m hm
    refine v_MrdR67 oks ?_
    rw [if_pos g0]
    refine word_ok hn l1 (by rw [t1]; exact n1) ⟨_, _, rfl, rfl, ?_⟩
    rw [t1]
    refine lcW l1 11 (by decide) (by decide) (by decide) (fun y1 => ?_) (fun y1 => lcW l1 12 (by decide) (by decide) (by decide) (fun y2 => ?_) (fun y2 => lcW l1 13 (by decide) (by decide) (by decide) (fun y3 => ?_) (fun y3 => lcW l1 14 (by decide) (by decide) (by decide) (fun y4 => ?_) (fun y4 => ?_))))
    · exact go98 0 (pk_t y1).symm
    · exact go98 1 (by unfold acn; rw [pk_f y1, pk_t y2])
    · exact go98 2 (by unfold acn; rw [pk_f y1, pk_f y2, pk_t y3])
    · exact go98 3 (by unfold acn; rw [pk_f y1, pk_f y2, pk_f y3, pk_t y4])
    · exact go98 (-1000000) (by unfold acn; rw [pk_f y1, pk_f y2, pk_f y3, pk_f y4]; rfl)
  · rw [if_neg z] at qe
    refine need_ok tm hn hk a mt' f0 false (fun h => by cases h) (fun _ => ⟨_, rfl, rfl, ?_⟩)
    refine (MbadR (by rw [upI_nk (by omega), upI_same]; decide) ?_).2.1
    exact qe _ _ rfl ((a.up (Or.inr ⟨rfl, Or.inr (by decide)⟩)).up (Or.inr ⟨rfl, Or.inr (by decide)⟩)) (by rw [upI_nk (by omega), upI_same]) (upI_same _ _ _ _)
theorem MrdAnd {G : GX} {d f n : Nat} {sw : Bool} {I : St} {rs : List Rul} {Q : Option Value → Hp → Prop} (tm : TM I) (hn : n ≤ 400) (hr : rs.length < 10) : ∀ (c k : Nat) (J : St) (ts : List Tst), ts.length + c = 3 → k ≤ n → ME I J → MT (I 140) n k J → J 93 70 = 0 → MW J rs ts → (∀ e K, pA (I 140) n c k ts = .error e → ME I K → K 93 70 = e.1 → K 93 71 = Int32.ofNat e.2 → Q none (147, f, K, RP f sw)) → (∀ k2 ts2, pA (I 140) n c k ts = .ok (k2, ts2) → (∀ e K, pM (I 140) n k2 = .error e → ME I K → K 93 70 = e.1 → K 93 71 = Int32.ofNat e.2 → Q none (147, f, K, RP f sw)) ∧ ∀ k3 x K, pM (I 140) n k2 = .ok (k3, x) → ME I K → MT (I 140) n k3 K → k3 ≤ n → K 93 70 = 0 → MC K (rs ++ [(x, ts2)]) → Q none (147, f, K, RP f sw)) → wp G (d + 80) (mt 239) 32 (rLv (some (.int (Int32.ofNat ts.length)))) [] (147, f, J, RP f sw) Q
  | c, k, J, ts, h, hk, a, mt', f0, mw, qe, qo => by
    obtain ⟨e1, e2⟩ := a.t tm
    have l1 := (tE_le (T := I 140) hk).2.1
    refine v_MrdR32 oks ?_
    rw [if_pos f0]
    refine word_ok hn hk (by rw [e1]; exact mt') ⟨_, _, rfl, rfl, ?_⟩
    rw [e1]
    refine lcW hk 9 (by decide) (by decide) (by decide) (fun z => ?_) (fun z => ?_)
    · match c, h, qe, qo with
      | 0, h, qe, qo =>
        rw [if_pos (by rw [show ts.length = 3 by omega]; rfl), if_pos f0, mt'.2.2.2.1]
        have hp : pA (I 140) n 0 k ts = .error (2, tS (I 140) n k) := by unfold pA; rw [if_pos z]
        refine (MbadR (by rw [upI_nk (by omega), upI_same]; decide) ?_).2.2.2
        exact qe _ _ hp ((a.up (Or.inr ⟨rfl, Or.inr (by decide)⟩)).up (Or.inr ⟨rfl, Or.inr (by decide)⟩)) (by rw [upI_nk (by omega), upI_same]) (upI_same _ _ _ _)
      | c + 1, h, qe, qo =>
        rw [if_neg (by rw [tI_eq, kI_t (by omega)]; simp only [Int32.reduceToInt]; omega), kI_1]
        refine Mstep_ok e2 hn l1 mt'.1 mt'.2.1 (fun K1 r1 m1 => ⟨_, rfl, rfl, ?_⟩)
        rw [e1] at m1
        have ps := pA_s (n := n) (c := c) (ts := ts) z
        refine MrdTest_ok tm hn l1 (a.rm r1) m1 ((r1.2 70 (by decide)).trans f0) (mw.rm r1) hr (by omega) (fun e K p1 p2 p3 p4 => ⟨_, rfl, rfl, ?_⟩) (fun k' x K p1 p2 p3 p4 p5 p6 => ⟨_, rfl, rfl, ?_⟩)
        · rw [p1] at ps
          simp only at ps
          exact (MbadR (by rw [p3]; exact (pT_err l1 p1).ne) (qe e K ps p2 p3 p4)).2.2.2
        · rw [p1] at ps
          simp only at ps
          have ih := MrdAnd (G := G) (d := d) (f := f) (sw := sw) (Q := Q) tm hn hr c k' K (ts ++ [x]) (by rw [List.length_append]; show ts.length + 1 + c = 3; omega) p4 p2 p3 p5 p6 (fun e K w => qe e K (ps.trans w)) (fun k2 t2 w => qo k2 t2 (ps.trans w))
          rw [List.length_append] at ih
          exact ih
    · have hp : pA (I 140) n c k ts = .ok (k, ts) := by
        cases c with
        | zero => unfold pA; rw [if_neg z]
        | succ c => unfold pA; rw [if_neg z]
      obtain ⟨q1, q2⟩ := qo k ts hp
      exact MrdMust tm hn hk a mt' f0 mw hr (by omega) q1 q2
theorem MrdRule_ok {G : GX} {d f n k : Nat} {sw : Bool} {I J : St} {rs : List Rul} {Q : Option Value → Hp → Prop} (tm : TM I) (hn : n ≤ 400) (hk : k ≤ n) (a : ME I J) (mt' : MT (I 140) n k J) (f0 : J 93 70 = 0) (mc : MC J rs) (hr : rs.length ≤ 10) (qe : ∀ e K, pR (I 140) n rs.length k = .error e → FE n e → ME I K → K 93 70 = e.1 → K 93 71 = Int32.ofNat e.2 → Q none (147, f, K, RP f sw)) (qo : ∀ k' x K, pR (I 140) n rs.length k = .ok (k', x) → ME I K → MT (I 140) n k' K → k' ≤ n → K 93 70 = 0 → rs.length < 10 → FRu x ∨ 3 < x.2.length → MC K (rs ++ [x]) → Q none (147, f, K, RP f sw)) : wp G (d + 80) (mt 239) 0 (en (mt 239) [.ref 93]) [] (147, f, J, RP f sw) Q := by
  obtain ⟨e1, e2⟩ := a.t tm
  have l1 := (tE_le (T := I 140) hk).2.1
  have sl := tS_le (T := I 140) hk
  have w58 : J 93 58 = Int32.ofNat rs.length := mc.1
  have go12 : rdB (I 140) n k 0 = true → ¬ rs.length = 10 → wp G (d + 80) (mt 239) 12 (rLv none) [] (147, f, J, RP f sw) Q := fun z h10 => by
    have ps := pR_s (T := I 140) (n := n) z h10
    refine v_MrdR12 oks ?_
    refine word_ok hn hk (by rw [e1]; exact mt') ⟨_, _, rfl, rfl, ?_⟩
    rw [e1]
    refine lcW hk 0 (by decide) (by decide) (by decide) (fun _ => ?_) (fun y => absurd z y)
    refine need_ok tm hn hk a mt' f0 true (fun _ K1 r1 b1 n1 => ⟨_, rfl, rfl, ?_⟩) (fun h => by cases h)
    have g0 : K1 93 70 = 0 := (r1.2 70 (by decide)).trans f0
    have w1 : MW K1 rs [] := ⟨mc.ro (fun p h1 h2 => r1.1 p (by omega)) (r1.2 58 (by decide)), fun m hm => absurd hm (by simp)⟩
    refine v_MrdR22 oks ?_
    rw [if_pos g0]
    refine MrdTest_ok (ts := []) tm hn l1 b1 n1 g0 w1 (by omega) (by decide) (fun e K p1 p2 p3 p4 => ⟨_, rfl, rfl, ?_⟩) (fun k' x K p1 p2 p3 p4 p5 p6 => ⟨_, rfl, rfl, ?_⟩)
    · rw [p1] at ps
      simp only at ps
      have fe := pT_err l1 p1
      exact (MbadR (by rw [p3]; exact fe.ne) (qe e K ps fe p2 p3 p4)).2.2.2
    · rw [p1] at ps
      simp only at ps
      have fx : FTS [x] := fun m hm => by
        have m0 : m = 0 := by simp only [List.length_cons, List.length_nil] at hm; omega
        rw [m0]; exact pT_fine p1
      refine MrdAnd tm hn (by omega) 2 k' K [x] rfl p4 p2 p3 p5 p6 (fun e X w => ?_) (fun k2 t2 w => ⟨fun e X w2 => ?_, fun k3 y X w2 => ?_⟩)
      · rw [w] at ps; exact qe e X ps (pA_err p4 w)
      · have fe := pM_err (pA_le p4 w) w2
        rw [w] at ps
        simp only at ps
        rw [w2] at ps; exact qe e X ps fe
      · rw [w] at ps
        simp only at ps
        rw [w2] at ps
        intro u1 u2 u3 u4 u5
        refine qo k3 (y, t2) X ps u1 u2 u3 u4 (by omega) ?_ u5
        by_cases ht : t2.length ≤ 3
        · exact Or.inl ⟨pM_fine w2, ht, pA_fine fx w⟩
        · exact Or.inr (by simp only; omega)
  refine v_MrdR oks ?_
  refine word_ok hn hk (by rw [e1]; exact mt') ⟨_, _, rfl, rfl, ?_⟩
  rw [e1, w58]
  refine lcW hk 0 (by decide) (by decide) (by decide) (fun z => ?_) (fun z => ?_)
  · by_cases h10 : rs.length = 10
    · rw [if_pos (by rw [h10]; rfl), if_pos f0, mt'.2.2.2.1]
      have b1 := (a.up (p := 93) (k := 70) (x := 3) (Or.inr ⟨rfl, Or.inr (by decide)⟩)).up (p := 93) (k := 71) (x := Int32.ofNat (tS (I 140) n k)) (Or.inr ⟨rfl, Or.inr (by decide)⟩)
      have m1 : MT (I 140) n k (upI (upI J 93 70 3) 93 71 (Int32.ofNat (tS (I 140) n k))) := (mt'.up (Or.inr (Or.inr (by decide)))).up (Or.inr (Or.inr (by decide)))
      have g3 : upI (upI J 93 70 3) 93 71 (Int32.ofNat (tS (I 140) n k)) 93 70 = 3 := by rw [upI_nk (by omega), upI_same]
      have ng : ¬ upI (upI J 93 70 3) 93 71 (Int32.ofNat (tS (I 140) n k)) 93 70 = 0 := by rw [g3]; decide
      have fin : Q none (147, f, upI (upI J 93 70 3) 93 71 (Int32.ofNat (tS (I 140) n k)), RP f sw) := qe (3, tS (I 140) n k) _ (by unfold pR; rw [if_pos z, if_pos h10]) ⟨Or.inr (Or.inr rfl), sl.2⟩ b1 g3 (upI_same _ _ _ _)
      obtain ⟨t1, t2⟩ := b1.t tm
      refine v_MrdR12 oks ?_
      refine word_ok hn hk (by rw [t1]; exact m1) ⟨_, _, rfl, rfl, ?_⟩
      have fin22 : wp G (d + 80) (mt 239) 22 (rLv none) [] (147, f, upI (upI J 93 70 3) 93 71 (Int32.ofNat (tS (I 140) n k)), RP f sw) Q := by
        refine v_MrdR22 oks ?_
        rw [if_neg ng]
        exact (MbadR ng fin).2.2.2
      exact ite_i (fun _ => need_no ng ⟨_, rfl, rfl, fin22⟩) (fun _ => need_no ng ⟨_, rfl, rfl, fin22⟩)
    · rw [if_neg (by rw [tI_eq, kI_t (by omega)]; simp only [Int32.reduceToInt]; omega)]
      exact go12 z h10
  · refine v_MrdR12 oks ?_
    refine word_ok hn hk (by rw [e1]; exact mt') ⟨_, _, rfl, rfl, ?_⟩
    rw [e1]
    refine lcW hk 0 (by decide) (by decide) (by decide) (fun y => absurd y z) (fun _ => ?_)
    refine need_ok tm hn hk a mt' f0 false (fun h => by cases h) (fun _ => ⟨_, rfl, rfl, ?_⟩)
    have ng : ¬ upI (upI J 93 70 1) 93 71 (Int32.ofNat (tS (I 140) n k)) 93 70 = 0 := by rw [upI_nk (by omega), upI_same]; decide
    refine v_MrdR22 oks ?_
    rw [if_neg ng]
    refine (MbadR ng ?_).2.2.2
    exact qe (1, tS (I 140) n k) _ (by unfold pR; rw [if_neg z]) ⟨Or.inl rfl, sl.2⟩ ((a.up (Or.inr ⟨rfl, Or.inr (by decide)⟩)).up (Or.inr ⟨rfl, Or.inr (by decide)⟩)) (by rw [upI_nk (by omega), upI_same]) (upI_same _ _ _ _)
