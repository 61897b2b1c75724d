/-! THE HULL, the class's: one minute's steps -/
theorem letIn_loop {G : GX} {d f : Nat} {sw : Bool} {I J : St} {th v wo : Int32} {m : Nat} {l : Nat → Int32} {Q : Option Value → Hp → Prop} (r : RC5 I) (hJ : ∀ p, 29 ≤ p → p ≤ 37 → J p = I p) (hw : ∀ k, k < 10 → (Int32.ofNat k = wo ↔ (th = 3 ∧ v = Int32.ofNat k))) (hm : m < 240) (b : BD (I 112) l) (q : ∀ K, (∀ p, p ≠ 39 → K p = J p) → (∀ h, h < 6 → K 39 h = hlS (I 112) (I 116) (I 117) (I 118) th v m l (I 93 30).toInt.toNat h) → Q none (147, f, K, RP f sw)) : ∀ (c k : Nat) (K : St), k + c = (I 93 30).toInt.toNat → (∀ p, p ≠ 39 → K p = J p) → (∀ h, h < 6 → K 39 h = hlS (I 112) (I 116) (I 117) (I 118) th v m l k h) → wp G (d + 10) (mt 68) 2 [some (.ref 29), some (.int (Int32.ofNat m)), some (.int wo), some (.int (Int32.ofNat k)), none] [] (147, f, K, RP f sw) Q
  | 0, k, K, h, h1, h2 => by
    obtain ⟨⟨n1, n2, n3⟩, -⟩ := id r
    refine v_letIn2 oks ?_
    rw [h1 29 (by decide), hJ 29 (by decide) (by decide), n1, if_pos (by rw [tI_le, kI_t (by omega)]; omega)]
    rw [show k = (I 93 30).toInt.toNat by omega] at h2
    exact q K h1 h2
  | c + 1, k, K, h, h1, h2 => by
    obtain ⟨⟨n1, n2, n3⟩, -, -, -, -, r6, r7, -⟩ := id r
    have hr : RMok (I 112) := fun h hh => (r7 h hh).2
    have q6 := r6 k (by omega)
    have ih := fun K => letIn_loop (G := G) (d := d) r hJ hw hm b q c (k + 1) K (by omega)
    have es : hlS (I 112) (I 116) (I 117) (I 118) th v m l (k + 1) = if (I 117 k).toInt ≤ m ∧ ¬ (th = 3 ∧ v = Int32.ofNat k) then ho1 (I 112) (I 116 k).toInt.toNat (I 118 k) (hlS (I 112) (I 116) (I 117) (I 118) th v m l k) else hlS (I 112) (I 116) (I 117) (I 118) th v m l k := rfl
    have bk : BD (I 112) (hlS (I 112) (I 116) (I 117) (I 118) th v m l k) := BD_hlS hr b k (fun i hi => by
      have q := r6 i (by omega)
      exact ⟨q.1.2, q.2.2.2⟩)
    obtain ⟨hd, hhd⟩ : ∃ x, (I 116 k).toInt.toNat = x := ⟨_, rfl⟩
    have hd6 : hd < 6 := by omega
    have e116 : I 116 k = Int32.ofNat hd := by rw [← hhd]; exact kI_of q6.1.2.1
    have tm : (Int32.ofNat m).toInt = m := kI_t (by omega)
    have k35 : K 35 = I 35 := by rw [h1 35 (by decide), hJ 35 (by decide) (by decide)]
    have k36 : K 36 = I 36 := by rw [h1 36 (by decide), hJ 36 (by decide) (by decide)]
    have k37 : K 37 = I 37 := by rw [h1 37 (by decide), hJ 37 (by decide) (by decide)]
    have k34 : K 34 = I 34 := by rw [h1 34 (by decide), hJ 34 (by decide) (by decide)]
    have sk : ¬ ((I 117 k).toInt ≤ m ∧ ¬ (th = 3 ∧ v = Int32.ofNat k)) → wp G (d + 10) (mt 68) 2 [some (.ref 29), some (.int (Int32.ofNat m)), some (.int wo), some (.int (Int32.ofNat (k + 1))), none] [] (147, f, K, RP f sw) Q := fun hc => ih K h1 (fun h hh => by rw [es, if_neg hc]; exact h2 h hh)
    refine v_letIn2 oks ?_
    rw [h1 29 (by decide), hJ 29 (by decide) (by decide), n1, if_neg (by rw [tI_le, kI_t (by omega)]; omega), kI_1, kI_c (by omega), k35, k36, k37, k34, q6.1.1, q6.2.1.1, q6.2.2.1]
    have x1 : ixB (Int32.ofNat k) 10 = true := kI_x (by omega) (by omega)
    refine ite_i (fun z => ?_) (fun z => ck_of x1 (ite_i (fun z2 => ?_) (fun z2 => ?_)))
    · exact sk (fun y => y.2 ((hw k (by omega)).mp z))
    · rw [tI_lt, tm] at z2
      exact sk (fun y => by omega)
    · rw [tI_lt, tm] at z2
      have hc : (I 117 k).toInt ≤ m ∧ ¬ (th = 3 ∧ v = Int32.ofNat k) := ⟨by omega, fun y => z ((hw k (by omega)).mpr y)⟩
      rw [e116, kI_c (show hd < 2147483648 by omega), (r7 hd hd6).1, h2 hd hd6]
      have x2 : ixB (Int32.ofNat hd) 6 = true := kI_x (by omega) hd6
      refine ck_of x1 (ck_of x2 (ck_of x1 (ck_of x2 (ck_of x2 (ck_of x2 ?_)))))
      have he := (ho1_eq (rate := I 118 k) hr bk hd6 q6.2.2.2.1 q6.2.2.2.2).1
      refine ih _ (fun p hp => ?_) (fun h hh => ?_)
      · rw [upI_row hp]; exact h1 p hp
      · rw [es, if_pos hc, hhd, he]
        by_cases e : h = hd
        · subst e; rw [upI_same, upF_same]
        · rw [upI_nk (by omega), upF_ne e]; exact h2 h hh
theorem pumpC_loop {G : GX} {d f : Nat} {sw : Bool} {K : St} {pp : Int32} {l : Nat → Int32} {Q : Option Value → Hp → Prop} (hl : ∀ h, h < 6 → K 39 h = l h) (q : ∀ K', (∀ p, p ≠ 39 → K' p = K p) → (∀ h, h < 6 → K' 39 h = pmS pp l h) → Q none (147, f, K', RP f sw)) : ∀ (c k : Nat), k + c = 5 → wp G (d + 10) (mt 71) 4 [some (.ref 29), some (.int pp), some (.int (Int32.ofNat (mxH l k))), some (.int (Int32.ofNat (k + 1)))] [] (147, f, K, RP f sw) Q
  | 0, k, h => by
    have e : k = 5 := by omega
    subst e
    have hx := mxH_le l 5
    refine v_pumpOut4 oks ?_
    rw [if_pos (by decide), kI_c (by omega), hl _ (by omega)]
    have xx : ixB (Int32.ofNat (mxH l 5)) 6 = true := kI_x (by omega) (by omega)
    refine ck_of xx (ck_of xx (ck_of xx ?_))
    rw [← pm_eq]
    refine q _ (fun p hp => upI_row hp) (fun h hh => ?_)
    unfold pmS
    by_cases e : h = mxH l 5
    · subst e; rw [upI_same, upF_same]
    · rw [upI_nk (by omega), upF_ne e]; exact hl h hh
  | c + 1, k, h => by
    have hx := mxH_le l k
    have ih := pumpC_loop (G := G) (d := d) hl q c (k + 1) (by omega)
    rw [mxH_s] at ih
    refine v_pumpOut4 oks ?_
    rw [if_neg (by rw [tI_le, kI_t (show k + 1 < 2147483648 by omega)]; simp only [Int32.reduceToInt]; omega), kI_c (by omega), kI_c (by omega), hl _ (by omega), hl _ (by omega), kI_1]
    refine ck_of (kI_x (by omega) (by omega)) (ck_of (kI_x (by omega) (by omega)) ?_)
    refine ite_i (fun z => ?_) (fun z => ?_)
    · rw [tI_le] at z
      rw [if_neg (by omega)] at ih
      exact ih
    · rw [tI_le] at z
      rw [if_pos (by omega)] at ih
      exact ih
theorem heldC_loop {G : GX} {d f : Nat} {sw : Bool} {K : St} {l : Nat → Int32} {Q : Option Value → Hp → Prop} (hl : ∀ h, h < 6 → K 39 h = l h) (q : Q (some (.int (sm6 l))) (147, f, K, RP f sw)) : ∀ (c k : Nat), k + c = 6 → wp G (d + 10) (mt 73) 4 [some (.ref 29), some (.int (ps l k)), some (.int (Int32.ofNat k))] [] (147, f, K, RP f sw) Q
  | 0, k, h => by
    have e : k = 6 := by omega
    subst e
    refine v_held4 oks ?_
    rw [if_pos (by decide), ps_6]
    exact q
  | c + 1, k, h => by
    refine v_held4 oks ?_
    rw [if_neg (by rw [tI_le, kI_t (show k < 2147483648 by omega)]; simp only [Int32.reduceToInt]; omega), kI_1, kI_c (by omega), hl k (by omega)]
    refine ck_of (kI_x (by omega) (by omega)) ?_
    exact heldC_loop hl q c (k + 1) (by omega)
theorem levelC_loop {G : GX} {d f : Nat} {sw : Bool} {I J : St} {th v : Int32} {m : Nat} {l : Nat → Int32} {Q : Option Value → Hp → Prop} (r : RC5 I) (h34 : ∀ h, h < 6 → J 34 h = I 112 h) (h38 : ∀ k, k < 5 → J 38 k = b2 (opn (I 113) (I 114) (I 115) (I 93 26).toInt.toNat th v k m)) (b : BD (I 112) l) (q : ∀ K, (∀ p, p ≠ 39 → K p = J p) → (∀ h, h < 6 → K 39 h = drS (I 112) (I 113) (I 114) (I 115) (I 93 26).toInt.toNat th v m l 5 h) → Q none (147, f, K, RP f sw)) : ∀ (c k : Nat) (K : St), k + c = 5 → (∀ p, p ≠ 39 → K p = J p) → (∀ h, h < 6 → K 39 h = drS (I 112) (I 113) (I 114) (I 115) (I 93 26).toInt.toNat th v m l k h) → wp G (d + 10) (mt 70) 2 [some (.ref 29), some (.int (Int32.ofNat k)), none, none, none, none] [] (147, f, K, RP f sw) Q
  | 0, k, K, h, h1, h2 => by
    have e : k = 5 := by omega
    subst e
    refine v_levelOut2 oks ?_
    rw [if_pos (by decide)]
    exact q K h1 h2
  | c + 1, k, K, h, h1, h2 => by
    have hr : RMok (I 112) := fun h hh => (r.2.2.2.2.2.2.1 h hh).2
    have bk : BD (I 112) (drS (I 112) (I 113) (I 114) (I 115) (I 93 26).toInt.toNat th v m l k) := BD_drS hr b k (by omega)
    have ih := fun K => levelC_loop (G := G) (d := d) r h34 h38 b q c (k + 1) K (by omega)
    have nxt : ∀ K, (∀ p, p ≠ 39 → K p = J p) → (∀ h, h < 6 → K 39 h = drS (I 112) (I 113) (I 114) (I 115) (I 93 26).toInt.toNat th v m l (k + 1) h) → wp G (d + 10) (mt 70) 80 [some (.ref 29), some (.int (Int32.ofNat k)), none, none, none, none] [] (147, f, K, RP f sw) Q := fun K g1 g2 => by
      refine v_levelOut80 oks ?_
      rw [kI_1]
      exact ih K g1 g2
    have es : drS (I 112) (I 113) (I 114) (I 115) (I 93 26).toInt.toNat th v m l (k + 1) = dr1 (opn (I 113) (I 114) (I 115) (I 93 26).toInt.toNat th v k m) (I 112) k (drS (I 112) (I 113) (I 114) (I 115) (I 93 26).toInt.toNat th v m l k) := rfl
    generalize drS (I 112) (I 113) (I 114) (I 115) (I 93 26).toInt.toNat th v m l k = lk at h2 bk es
    have mv : ∀ t g, t < 6 → g < 6 → t ≠ g → drS (I 112) (I 113) (I 114) (I 115) (I 93 26).toInt.toNat th v m l (k + 1) = upF (upF lk t (lk t + gow (I 112) lk t g)) g (lk g - gow (I 112) lk t g) → wp G (d + 10) (mt 70) 42 [some (.ref 29), some (.int (Int32.ofNat k)), none, some (.int (Int32.ofNat g)), some (.int (Int32.ofNat t)), none] [] (147, f, K, RP f sw) Q := fun t g ht hg ne e => by
      refine v_levelOut42 oks ?_
      rw [kI_c (by omega), kI_c (by omega), h2 t ht, h2 g hg, h1 34 (by decide), h34 t ht]
      have xt : ixB (Int32.ofNat t) 6 = true := kI_x (by omega) ht
      have xg : ixB (Int32.ofNat g) 6 = true := kI_x (by omega) hg
      refine ck_of xg (ck_of xt (ck_of xt (ck_of xt (ck_of xg (ck_of xg (ck_of xt (ck_of xt ?_)))))))
      rw [upI_nk (by omega), h2 t ht]
      refine nxt _ (fun p hp => ?_) (fun h hh => ?_)
      · rw [upI_row hp, upI_row hp]; exact h1 p hp
      · rw [e]
        by_cases e1 : h = t
        · subst e1; rw [upI_same, upF_ne ne, upF_same]; rfl
        · rw [upI_nk (by omega)]
          by_cases e2 : h = g
          · subst e2; rw [upI_same, upF_same]; rfl
          · rw [upI_nk (by omega), upF_ne e2, upF_ne e1]; exact h2 h hh
    refine v_levelOut2 oks ?_
    rw [if_neg (by rw [tI_le, kI_t (show k < 2147483648 by omega)]; simp only [Int32.reduceToInt]; omega), kI_c (by omega), h1 38 (by decide), h38 k (by omega), l1a, kI_c (by omega), h2 k (by omega), h2 (k + 1) (by omega)]
    refine ck_of (kI_x (by omega) (by omega)) ?_
    cases ho : opn (I 113) (I 114) (I 115) (I 93 26).toInt.toNat th v k m with
    | false =>
      rw [ho, dr1_no] at es
      rw [if_neg (show ¬ b2 false = 1 by decide)]
      exact nxt K h1 (fun h hh => by rw [es]; exact h2 h hh)
    | true =>
      rw [ho] at es
      rw [if_pos (show b2 true = 1 from rfl)]
      refine ck_of (kI_x (by omega) (by omega)) (ck_of (kI_x (by omega) (by omega)) (ite_i (fun z => ?_) (fun z => ?_)))
      · rw [tI_le] at z
        refine v_levelOut26 oks ?_
        rw [if_pos rfl, if_pos rfl, l1a]
        exact mv k (k + 1) (by omega) (by omega) (by omega) (by rw [es, dr1_le hr bk (by omega) z])
      · rw [tI_le] at z
        refine v_levelOut26 oks ?_
        rw [if_neg (show ¬ (1 : Int32) = 0 by decide), if_neg (show ¬ (1 : Int32) = 0 by decide), l1a]
        exact mv (k + 1) k (by omega) (by omega) (by omega) (by rw [es, dr1_gt hr bk (by omega) (by omega)])
theorem keepC_loop {G : GX} {d f : Nat} {sw : Bool} {K : St} {l : Nat → Int32} {m : Nat} {Q : Option Value → Hp → Prop} (hm : m ≤ 240) (hl : ∀ h, h < 6 → K 39 h = l h) (q : ∀ K', (∀ p k, ¬ (41 ≤ p ∧ p ≤ 46 ∧ k = m) → K' p k = K p k) → (∀ h, h < 6 → K' (41 + h) m = l h) → Q none (147, f, K', RP f sw)) : ∀ (c k : Nat) (K' : St), k + c = 6 → (∀ p i, ¬ (41 ≤ p ∧ p ≤ 46 ∧ i = m) → K' p i = K p i) → (∀ h, h < k → K' (41 + h) m = l h) → wp G (d + 10) (mt 72) 2 [some (.ref 29), some (.int (Int32.ofNat m)), some (.int (Int32.ofNat k))] [] (147, f, K', RP f sw) Q
  | 0, k, K', h, h1, h2 => by
    have e : k = 6 := by omega
    subst e
    refine v_keep2 oks ?_
    rw [if_pos (by decide)]
    exact q K' h1 h2
  | c + 1, k, K', h, h1, h2 => by
    refine v_keep2 oks ?_
    rw [if_neg (by rw [tI_le, kI_t (show k < 2147483648 by omega)]; simp only [Int32.reduceToInt]; omega), kI_1, kI_c (by omega), RP_k (by omega)]
    refine ck_of (kI_x (by omega) (by omega)) ?_
    refine ck_of (kI_x (by omega) (by omega)) (ck_of (okB_k (by omega)) (ck_of (by rw [SH_k (by omega)]; exact kI_x (by omega) (by show m < 241; omega)) ?_))
    rw [kI_c (by omega), h1 39 k (by omega), hl k (by omega)]
    refine keepC_loop hm hl q c (k + 1) _ (by omega) (fun p i hp => ?_) (fun h hh => ?_)
    · rw [upI_nk (by omega)]; exact h1 p i hp
    · by_cases e : h = k
      · subst e; rw [upI_same]
      · rw [upI_nk (by omega)]; exact h2 h (by omega)
