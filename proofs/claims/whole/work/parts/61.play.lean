/-! THE HULL, the class's: the play -/
theorem skF_le {w : Nat → (Nat → Int32)} {b : Int32} : ∀ {n j : Nat}, skF w b n = some j → j ≤ n
  | 0, j, h => by cases h
  | n + 1, j, h => by
    rw [skF_s] at h
    cases hs : skF w b n with
    | some i =>
      rw [hs] at h
      have := skF_le hs
      have e : i = j := Option.some.inj h
      omega
    | none =>
      rw [hs] at h
      simp only at h
      by_cases c : b.toInt ≤ (sm6 (w (n + 1))).toInt
      · rw [if_pos c] at h
        have e : n + 1 = j := Option.some.inj h
        omega
      · rw [if_neg c] at h; cases h
theorem vplay_loop {G : GX} {d f : Nat} {sw : Bool} {I : St} {u1 th v : Int32} {Q : Option Value → Hp → Prop} (r : RC5 I) (ht : (u1 = -1 ∧ th = 9) ∨ (u1 = th ∧ 0 ≤ th.toInt ∧ th.toInt ≤ 3)) (hv : th = 2 → 0 ≤ v.toInt) (hd : th.toInt < 2 → 0 ≤ v.toInt ∧ v.toInt ≤ 4) (q : ∀ m K, PI I u1 th v m K → (u1 = -1 → m = 240) → Q (some (.int (ob (skI I th v)))) (147, f, K, RP f sw)) : ∀ (c m a : Nat) (K : St), m + c = 240 → a ≤ (I 93 26).toInt.toNat → (∀ i, i < a → (I 32 i).toInt ≤ m) → PI I u1 th v m K → (∀ s, s < 5 → ¬ (th.toInt < 2 ∧ v = Int32.ofNat s) → K 38 s = lastD (I 31) (I 33) (Int32.ofNat s) a) → wp G (d + 40) (mt 67) 14 [some (.ref 29), some (.int u1), some (.int v), some (.int (Int32.ofNat a)), some (.int (ob (skF (wlI I th v) (I 93 25) m))), some (.int (Int32.ofNat m))] [] (147, f, K, RP f sw) Q
  | 0, m, a, K, h, ha, h1, w, h38 => by
    have e : m = 240 := by omega
    subst e
    refine v_vplay14 oks ?_
    rw [if_pos (by decide)]
    exact q 240 K w (fun _ => rfl)
  | c + 1, m, a, K, h, ha, h1, w, h38 => by
    have i3 : (3 : Int32).toInt = 3 := by decide
    have i9 : (9 : Int32).toInt = 9 := by decide
    have im : (-1 : Int32).toInt = -1 := by decide
    have hr : RMok (I 112) := fun h hh => (r.2.2.2.2.2.2.1 h hh).2
    have bd : BD (I 112) (wlI I th v m) := BD_wl r hv m
    obtain ⟨w1, w2, w3, w4⟩ := id w
    have ih := fun a K => vplay_loop (G := G) (d := d) (a := a) r ht hv hd q c (m + 1) K (by omega)
    have go : wp G (d + 39) (mt 41) 0 (en (mt 41) [.ref 30, .int (Int32.ofNat m), .int (Int32.ofNat a), .ref 38]) [] (147, f, K, RP f sw) (fun v_1 h1 => ∃ (x2 : Int32) (I1 : Nat → Nat → Int32), v_1 = some (.int x2) ∧ h1 = (147, f, I1, RP f sw) ∧ (wp G (d + 40) (mt 67) 31 [some (.ref 29), some (.int u1), some (.int v), some (.int x2), some (.int (ob (skF (wlI I th v) (I 93 25) m))), some (.int (Int32.ofNat m))] [] (147, f, I1, RP f sw) Q)) := by
      refine v_playD oks ?_
      refine playD_loop (B := K) (P := fun s => th.toInt < 2 ∧ v = Int32.ofNat s) r (fun p p1 p2 => w1 p (by omega) (by omega) (by omega)) (by omega) (fun a' J g1 g2 g3 g4 g5 => ⟨_, _, rfl, rfl, ?_⟩) ((I 93 26).toInt.toNat - a) a K (by omega) h1 (fun _ _ => rfl) h38
      have nx : ∀ J2, (∀ p, p ≠ 38 → J2 p = K p) → (∀ s, s < 5 → J2 38 s = b2 (opn (I 113) (I 114) (I 115) (I 93 26).toInt.toNat th v s m)) → (∀ s, s < 5 → ¬ (th.toInt < 2 ∧ v = Int32.ofNat s) → J2 38 s = lastD (I 31) (I 33) (Int32.ofNat s) a') → wp G (d + 40) (mt 67) 41 [some (.ref 29), some (.int u1), some (.int v), some (.int (Int32.ofNat a')), some (.int (ob (skF (wlI I th v) (I 93 25) m))), some (.int (Int32.ofNat m))] [] (147, f, J2, RP f sw) Q := fun J2 f1 f2 f3 => by
        have jI : ∀ p, p ≠ 38 → p ≠ 39 → ¬ (41 ≤ p ∧ p ≤ 46) → J2 p = I p := fun p p1 p2 p3 => by rw [f1 p p1]; exact w1 p p1 p2 p3
        have key : ∀ wo, (∀ k, k < 10 → (Int32.ofNat k = wo ↔ (th = 3 ∧ v = Int32.ofNat k))) → wp G (d + 40) (mt 67) 49 [some (.ref 29), some (.int u1), some (.int v), some (.int (Int32.ofNat a')), some (.int (ob (skF (wlI I th v) (I 93 25) m))), some (.int (Int32.ofNat m))] [.int wo, .int (Int32.ofNat m), .ref 29] (147, f, J2, RP f sw) Q := fun wo hw => by
          refine v_vplay49 oks ?_
          refine v_letIn oks ?_
          refine letIn_loop (J := J2) r (fun p p1 p2 => jI p (by omega) (by omega) (by omega)) hw (by omega) bd (fun K1 c1 c2 => ⟨_, rfl, rfl, ?_⟩) (I 93 30).toInt.toNat 0 J2 (by omega) (fun _ _ => rfl) (fun h hh => by rw [f1 39 (by decide)]; exact w2 h hh)
          have b1 : BD (I 112) (hlS (I 112) (I 116) (I 117) (I 118) th v m (wlI I th v m) (I 93 30).toInt.toNat) := BD_hlS hr bd _ (fun i hi => by
            obtain ⟨⟨n1, n2, n3⟩, -, -, -, -, r6, -⟩ := id r
            have q := r6 i (by omega)
            exact ⟨q.1.2, q.2.2.2⟩)
          refine v_levelOut oks ?_
          refine levelC_loop (J := K1) (m := m) (th := th) (v := v) r (fun h hh => by rw [c1 34 (by decide), jI 34 (by decide) (by decide) (by decide)]; exact (r.2.2.2.2.2.2.1 h hh).1) (fun k hk => by rw [c1 38 (by decide)]; exact f2 k hk) b1 (fun K2 e1 e2 => ⟨_, rfl, rfl, ?_⟩) 5 0 K1 (by omega) (fun _ _ => rfl) c2
          have k2 : ∀ p, p ≠ 39 → K2 p = J2 p := fun p hp => by rw [e1 p hp, c1 p hp]
          have p60 : ∀ pp, pp = (if th = 2 then v else I 93 24) → wp G (d + 40) (mt 67) 60 [some (.ref 29), some (.int u1), some (.int v), some (.int (Int32.ofNat a')), some (.int (ob (skF (wlI I th v) (I 93 25) m))), some (.int (Int32.ofNat m))] [.int pp, .ref 29] (147, f, K2, RP f sw) Q := fun pp hp => by
            refine v_vplay60 oks ?_
            refine v_pumpOut oks ?_
            refine pumpC_loop e2 (fun K3 s1 s2 => ⟨_, rfl, rfl, ?_⟩) 5 0 (by omega)
            rw [hp, ← wlI_s] at s2
            have k3 : ∀ p, p ≠ 39 → K3 p = J2 p := fun p hp => by rw [s1 p hp, k2 p hp]
            have p69 : ∀ K4, PI I u1 th v (m + 1) K4 → K4 38 = J2 38 → wp G (d + 40) (mt 67) 69 [some (.ref 29), some (.int u1), some (.int v), some (.int (Int32.ofNat a')), some (.int (ob (skF (wlI I th v) (I 93 25) m))), some (.int (Int32.ofNat m))] [] (147, f, K4, RP f sw) Q := fun K4 y1 y2 => by
              have l81 : ∀ u4, u4 = ob (skF (wlI I th v) (I 93 25) (m + 1)) → wp G (d + 40) (mt 67) 81 [some (.ref 29), some (.int u1), some (.int v), some (.int (Int32.ofNat a')), some (.int u4), some (.int (Int32.ofNat m))] [] (147, f, K4, RP f sw) Q := fun u4 hu => by
                refine v_vplay81 oks ?_
                rw [kI_1, hu]
                exact ih a' K4 g1 (fun i hi => by have := g2 i hi; omega) y1 (fun s hs hP => by rw [y2]; exact f3 s hs hP)
              refine v_vplay69 oks ?_
              rw [skF_s] at l81
              cases hs : skF (wlI I th v) (I 93 25) m with
              | some j =>
                rw [hs] at l81
                have hj : ¬ ob (some j) = -1000000 := ob_ne (by have := skF_le hs; omega)
                rw [if_neg hj]
                exact l81 _ rfl
              | none =>
                rw [hs] at l81
                rw [if_pos (show ob none = -1000000 from rfl)]
                refine v_held oks ?_
                refine heldC_loop y1.2.1 ⟨_, _, rfl, rfl, ?_⟩ 6 0 (by omega)
                have kb : K4 29 10 = I 93 25 := by rw [y1.1 29 (by decide) (by decide) (by decide)]; exact r.2.2.1.1
                rw [kb]
                refine ite_i (fun z => ?_) (fun z => ?_)
                · rw [tI_lt] at z
                  refine l81 _ ?_
                  simp only
                  rw [if_neg (by omega)]
                · rw [tI_lt] at z
                  rw [l1a]
                  refine l81 _ ?_
                  simp only
                  rw [if_pos (by omega)]
                  rfl
            refine ite_i (fun z => ?_) (fun z => ?_)
            · rw [l1a]
              refine v_keep oks ?_
              refine keepC_loop (by omega) s2 (fun K4 z1 z2 => ⟨_, rfl, rfl, ?_⟩) 6 0 K3 (by omega) (fun _ _ _ => rfl) (fun h hh => by omega)
              refine p69 K4 ⟨fun p p1 p2 p3 => ?_, fun h hh => ?_, fun y => absurd z y, fun _ h hh j hj => ?_⟩ ?_
              · funext i
                rw [z1 p i (by omega), k3 p p2, jI p p1 p2 p3]
              · rw [z1 39 h (by omega)]; exact s2 h hh
              · rcases Nat.eq_or_lt_of_le hj with e | e
                · rw [e]; exact z2 h hh
                · rw [z1 (41 + h) j (by omega), k3 (41 + h) (by omega), f1 (41 + h) (by omega)]
                  exact w4 z h hh j (by omega)
              · funext i
                rw [z1 38 i (by omega), k3 38 (by decide)]
            · refine p69 K3 ⟨fun p p1 p2 p3 => ?_, s2, fun y p p1 p2 => ?_, fun y => absurd y z⟩ (k3 38 (by decide))
              · rw [k3 p p2, jI p p1 p2 p3]
              · rw [k3 p (by omega), f1 p (by omega)]; exact w3 y p p1 p2
          have kp : K2 29 9 = I 93 24 := by rw [k2 29 (by decide), jI 29 (by decide) (by decide) (by decide)]; exact r.2.1.1
          rw [kp]
          have th2 : u1 = 2 ↔ th = 2 := by
            rcases ht with ⟨y1, y2⟩ | ⟨y1, -⟩
            · rw [y1, y2]; decide
            · rw [y1]
          refine ite_i (fun z => ?_) (fun z => ?_)
          · exact p60 _ (by rw [if_pos (th2.mp z)])
          · exact p60 _ (by rw [if_neg (fun y => z (th2.mpr y))])
        have th3 : u1 = 3 ↔ th = 3 := by
          rcases ht with ⟨y1, y2⟩ | ⟨y1, -⟩
          · rw [y1, y2]; decide
          · rw [y1]
        refine v_vplay41 oks ?_
        refine ite_i (fun z => ?_) (fun z => ?_)
        · exact key v (fun k hk => ⟨fun e => ⟨th3.mp z, e.symm⟩, fun e => e.2.symm⟩)
        · refine key _ (fun k hk => ⟨fun e => ?_, fun e => absurd (th3.mpr e.1) z⟩)
          rw [tI_eq, kI_t (by omega)] at e
          simp only [Int32.reduceToInt] at e
          omega
      have lst : ∀ s, s < 5 → ¬ (th.toInt < 2 ∧ v = Int32.ofNat s) → J 38 s = b2 (opn (I 113) (I 114) (I 115) (I 93 26).toInt.toNat th v s m) := fun s hs hP => by
        unfold opn
        rw [if_neg hP, g5 s hs hP, open_last r (by omega) g1 g2 g3]
      have set : (u1 = 0 ∨ u1 = 1) → ck (ixB v 5) (wp G (d + 40) (mt 67) 41 [some (.ref 29), some (.int u1), some (.int v), some (.int (Int32.ofNat a')), some (.int (ob (skF (wlI I th v) (I 93 25) m))), some (.int (Int32.ofNat m))] [] (147, f, upI J 38 v.toNatClampNeg u1, RP f sw) Q) := fun hu => by
        have e1 : u1 = th := by
          rcases ht with ⟨y1, y2⟩ | ⟨y1, -⟩
          · exfalso
            rw [y1] at hu
            revert hu
            decide
          · exact y1
        have e2 : th.toInt < 2 := by
          rw [← e1]
          rcases hu with y | y <;> rw [y] <;> decide
        have e3 := hd e2
        have nP : ∀ s, s < 5 → ¬ (th.toInt < 2 ∧ v = Int32.ofNat s) → upI J 38 v.toNatClampNeg u1 38 s = J 38 s := fun s hs hP => by
          refine upI_nk (fun y => hP ⟨e2, ?_⟩)
          have y2 := y.2
          rw [tnc] at y2
          rw [tI_eq, kI_t (by omega)]
          omega
        refine ck_of (ixB_i e3.1 (by omega)) (nx _ (fun p hp => by rw [upI_row hp]; exact g4 p hp) (fun s hs => ?_) (fun s hs hP => by rw [nP s hs hP]; exact g5 s hs hP))
        by_cases hP : th.toInt < 2 ∧ v = Int32.ofNat s
        · unfold opn
          rw [if_pos hP, hP.2, kI_c (by omega), upI_same, ← e1]
          rcases hu with y | y <;> rw [y] <;> rfl
        · rw [nP s hs hP]; exact lst s hs hP
      refine v_vplay31 oks ?_
      refine ite_i (fun z => set (Or.inl z)) (fun z => ite_i (fun z2 => set (Or.inr z2)) (fun z2 => nx J g4 (fun s hs => lst s hs (fun y => ?_)) g5))
      rcases ht with ⟨y1, y2⟩ | ⟨y1, y2, y3⟩
      · have := y.1
        rw [y2, i9] at this
        omega
      · rw [y1, tI_eq] at z z2
        simp only [Int32.reduceToInt] at z z2
        omega
    refine v_vplay14 oks ?_
    rw [if_neg (by rw [tI_le, kI_t (show m < 2147483648 by omega)]; simp only [Int32.reduceToInt]; omega)]
    refine ite_i (fun z => go) (fun z => ite_i (fun z2 => go) (fun z2 => ?_))
    cases hs : skF (wlI I th v) (I 93 25) m with
    | none => rw [hs] at z2; exact absurd rfl z2
    | some j =>
      have q' := q m K w (fun y => absurd y z)
      unfold skI at q'
      rw [skF_mono hs 240 (by omega)] at q'
      exact q'
