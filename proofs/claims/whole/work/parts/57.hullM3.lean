theorem mxH_le (l : Nat → Int32) : ∀ k, mxH l k ≤ k
  | 0 => Nat.le_refl _
  | k + 1 => by
    have := mxH_le l k
    unfold mxH
    split <;> omega
theorem mxH_s (l : Nat → Int32) (k : Nat) : mxH l (k + 1) = if (l (mxH l k)).toInt < (l (k + 1)).toInt then k + 1 else mxH l k := rfl
theorem pump_loop {G : GX} {d f : Nat} {sw : Bool} {I : St} {th v pp : Int32} {m : Nat} {l : Nat → Int32} {J : St} {Q : Option Value → Hp → Prop} (hm : m < 240) (w : RW I th v m l J) (q : ∀ J, RW I th v m (pmS pp l) J → wp G (d + 30) (mt 210) 22 (fL th v pp (m + 1) [none, none, none, none, none, none, none, none]) [] (147, f, J, RP f sw) Q) : ∀ (c k : Nat), k + c = 5 → wp G (d + 30) (mt 210) 222 (fL th v pp m [some (.int (Int32.ofNat (6 * m + 6))), some (.int (Int32.ofNat (mxH l k))), some (.int (Int32.ofNat (k + 1))), none, none, none, none, none]) [] (147, f, J, RP f sw) Q
  | 0, k, h => by
    have e : k = 5 := by omega
    subst e
    have hx := mxH_le l 5
    refine v_Mfill222 oks ?_
    rw [if_pos (by decide)]
    refine v_Mfill244 oks ?_
    rw [← Int32.ofNat_add, kI_c (by omega), w.2.2 _ (by omega), kI_1]
    have xx : ixB (Int32.ofNat (6 * m + 6 + mxH l 5)) 1446 = true := kI_x (by omega) (by omega)
    refine ck_of xx (ck_of xx ?_)
    have ww := w.up (h := mxH l 5) (by omega) (l (mxH l 5) - mnI pp (l (mxH l 5)))
    refine ite_i (fun z => ck_of xx ?_) (fun z => ck_of xx ?_)
    · rw [tI_le] at z
      refine q _ ?_
      unfold pmS
      rw [show mnI pp (l (mxH l 5)) = l (mxH l 5) from if_neg (by rw [tI_lt]; omega)] at ww ⊢
      exact ww
    · rw [tI_le] at z
      refine q _ ?_
      unfold pmS
      rw [show mnI pp (l (mxH l 5)) = pp from if_pos (by rw [tI_lt]; omega)] at ww ⊢
      exact ww
  | c + 1, k, h => by
    have hx := mxH_le l k
    have ih := pump_loop (G := G) (d := d) hm w q c (k + 1) (by omega)
    rw [mxH_s] at ih
    refine v_Mfill222 oks ?_
    rw [if_neg (by rw [tI_le, kI_t (show k + 1 < 2147483648 by omega)]; simp only [Int32.reduceToInt]; omega), ← Int32.ofNat_add, ← Int32.ofNat_add, kI_c (by omega), kI_c (by omega), w.2.2 _ (by omega), w.2.2 _ (by omega)]
    refine ck_of (kI_x (by omega) (by omega)) (ck_of (kI_x (by omega) (by omega)) ?_)
    refine ite_i (fun z => ?_) (fun z => ?_)
    · rw [tI_le] at z
      refine v_Mfill242 oks ?_
      rw [kI_1]
      rw [if_neg (by omega)] at ih
      exact ih
    · rw [tI_le] at z
      refine v_Mfill242 oks ?_
      rw [kI_1]
      rw [if_pos (by omega)] at ih
      exact ih
/-- the levels of minutes up to m stand -/
def FB (I : St) (th v : Int32) (m : Nat) (J : St) : Prop := (∀ p, p ≠ 119 → J p = I p) ∧ ∀ m', m' ≤ m → ∀ h, h < 6 → J 119 (6 * m' + h) = wlI I th v m' h
theorem copy_loop {G : GX} {d f : Nat} {sw : Bool} {I : St} {th v pp : Int32} {m : Nat} {Q : Option Value → Hp → Prop} (hm : m < 240) (q : ∀ J, RW I th v m (wlI I th v m) J → wp G (d + 30) (mt 210) 54 (fL th v pp m [some (.int (Int32.ofNat (6 * m + 6))), some (.int 0), none, none, none, none, none, none]) [] (147, f, J, RP f sw) Q) : ∀ (c k : Nat) (J : St), k + c = 6 → FB I th v m J → (∀ h, h < k → J 119 (6 * m + 6 + h) = wlI I th v m h) → wp G (d + 30) (mt 210) 33 (fL th v pp m [some (.int (Int32.ofNat (6 * m + 6))), some (.int (Int32.ofNat k)), none, none, none, none, none, none]) [] (147, f, J, RP f sw) Q
  | 0, k, J, h, w, hl => by
    have e : k = 6 := by omega
    subst e
    refine v_Mfill33 oks ?_
    rw [if_pos (by decide)]
    exact q J ⟨w.1, w.2, hl⟩
  | c + 1, k, J, h, w, hl => by
    have e6 : Int32.ofNat (6 * m + 6 + k) - 6 = Int32.ofNat (6 * m + k) := by
      have t1 : (Int32.ofNat (6 * m + 6 + k)).toInt = (6 * m + 6 + k : Nat) := kI_t (by omega)
      rw [tI_eq, kI_t (by omega), fb_subI (by simp only [Int32.reduceToInt]; omega) (by simp only [Int32.reduceToInt]; omega), t1]
      simp only [Int32.reduceToInt]
      omega
    refine v_Mfill33 oks ?_
    rw [if_neg (by rw [tI_le, kI_t (show k < 2147483648 by omega)]; simp only [Int32.reduceToInt]; omega), ← Int32.ofNat_add, e6, kI_1, kI_c (by omega), kI_c (by omega), w.2 m (Nat.le_refl m) k (by omega)]
    refine ck_of (kI_x (by omega) (by omega)) (ck_of (kI_x (by omega) (by omega)) ?_)
    refine copy_loop hm q c (k + 1) _ (by omega) ⟨fun p hp => ?_, fun m' hm' h' hh' => ?_⟩ (fun h' hh' => ?_)
    · rw [upI_row hp]; exact w.1 p hp
    · rw [upI_nk (by omega)]; exact w.2 m' hm' h' hh'
    · by_cases e : h' = k
      · subst e; rw [upI_same]
      · rw [upI_nk (by omega)]; exact hl h' (by omega)
theorem wlI_s (I : St) (th v : Int32) (m : Nat) : wlI I th v (m + 1) = pmS (if th = 2 then v else I 93 24) (drS (I 112) (I 113) (I 114) (I 115) (I 93 26).toInt.toNat th v m (hlS (I 112) (I 116) (I 117) (I 118) th v m (wlI I th v m) (I 93 30).toInt.toNat) 5) := rfl
theorem mfill_loop {G : GX} {d f : Nat} {sw : Bool} {I : St} {th v pp : Int32} {Q : Option Value → Hp → Prop} (r : RC5 I) (hpp : pp = if th = 2 then v else I 93 24) (q : ∀ J, FB I th v 240 J → Q none (147, f, J, RP f sw)) : ∀ (c m : Nat) (J : St), m + c = 240 → FB I th v m J → wp G (d + 30) (mt 210) 22 (fL th v pp m [none, none, none, none, none, none, none, none]) [] (147, f, J, RP f sw) Q
  | 0, m, J, h, w => by
    have e : m = 240 := by omega
    subst e
    refine v_Mfill22 oks ?_
    rw [if_pos (by decide)]
    exact q J w
  | c + 1, m, J, h, w => by
    refine v_Mfill22 oks ?_
    rw [if_neg (by rw [tI_le, kI_t (show m < 2147483648 by omega)]; simp only [Int32.reduceToInt]; omega), l6, l6a]
    refine copy_loop (by omega) (fun J1 w1 => ?_) 6 0 J (by omega) w (fun h' hh' => by omega)
    refine hole_loop r (by omega) (fun J2 w2 => ?_) (I 93 30).toInt.toNat 0 J1 (by omega) w1
    refine door_loop r (by omega) (fun J3 w3 => ?_) 5 0 J2 (by omega) w2
    refine v_Mfill218 oks ?_
    refine pump_loop (by omega) w3 (fun J4 w4 => ?_) 5 0 (by omega)
    refine mfill_loop r hpp q c (m + 1) J4 (by omega) ⟨w4.1, fun m' hm' h' hh' => ?_⟩
    rcases Nat.lt_or_ge m' (m + 1) with z | z
    · exact w4.2.1 m' (by omega) h' hh'
    · rw [show m' = m + 1 by omega, wlI_s, ← hpp, show 6 * (m + 1) + h' = 6 * m + 6 + h' by omega]
      exact w4.2.2 h' hh'
theorem zero_loop {G : GX} {d f : Nat} {sw : Bool} {I : St} {th v pp : Int32} {Q : Option Value → Hp → Prop} (q : ∀ J, FB I th v 0 J → wp G (d + 30) (mt 210) 22 (fL th v pp 0 [none, none, none, none, none, none, none, none]) [] (147, f, J, RP f sw) Q) : ∀ (c k : Nat) (J : St), k + c = 6 → (∀ p, p ≠ 119 → J p = I p) → (∀ h, h < k → J 119 h = 0) → wp G (d + 30) (mt 210) 10 (fL th v pp k [none, none, none, none, none, none, none, none]) [] (147, f, J, RP f sw) Q
  | 0, k, J, h, w, hl => by
    have e : k = 6 := by omega
    subst e
    refine v_Mfill10 oks ?_
    rw [if_pos (by decide)]
    refine q J ⟨w, fun m' hm' h' hh' => ?_⟩
    rw [show m' = 0 by omega, show 6 * 0 + h' = h' by omega]
    exact hl h' hh'
  | c + 1, k, J, h, w, hl => by
    refine v_Mfill10 oks ?_
    rw [if_neg (by rw [tI_le, kI_t (show k < 2147483648 by omega)]; simp only [Int32.reduceToInt]; omega), kI_1, kI_c (by omega)]
    refine ck_of (kI_x (by omega) (by omega)) ?_
    refine zero_loop q c (k + 1) _ (by omega) (fun p hp => ?_) (fun h' hh' => ?_)
    · rw [upI_row hp]; exact w p hp
    · by_cases e : h' = k
      · subst e; rw [upI_same]
      · rw [upI_nk (by omega)]; exact hl h' (by omega)
theorem mfill_ok {G : GX} {d f : Nat} {sw : Bool} {I : St} {th v : Int32} {Q : Option Value → Hp → Prop} (r : RC5 I) (q : ∀ J, FB I th v 240 J → Q none (147, f, J, RP f sw)) : wp G (d + 30) (mt 210) 0 (en (mt 210) [.ref 93, .int th, .int v]) [] (147, f, I, RP f sw) Q := by
  refine v_Mfill oks ?_
  refine ite_i (fun z => ?_) (fun z => ?_)
  · refine v_Mfill8 oks ?_
    exact zero_loop (fun J w => mfill_loop r (by rw [if_pos z]) q 240 0 J (by omega) w) 6 0 I (by omega) (fun _ _ => rfl) (fun h' hh' => by omega)
  · refine v_Mfill8 oks ?_
    exact zero_loop (fun J w => mfill_loop r (by rw [if_neg z]) q 240 0 J (by omega) w) 6 0 I (by omega) (fun _ _ => rfl) (fun h' hh' => by omega)
def ps (l : Nat → Int32) : Nat → Int32
  | 0 => 0
  | k + 1 => ps l k + l k
theorem ps_6 (l : Nat → Int32) : ps l 6 = sm6 l := rfl
theorem wet_loop {G : GX} {d f : Nat} {sw : Bool} {I J : St} {th v : Int32} {m : Nat} {Q : Option Value → Hp → Prop} (w : FB I th v 240 J) (hm : m ≤ 240) (q : Q (some (.int (sm6 (wlI I th v m)))) (147, f, J, RP f sw)) : ∀ (c k : Nat), k + c = 6 → wp G (d + 10) (mt 213) 4 [some (.ref 93), some (.int (Int32.ofNat m)), some (.int (ps (wlI I th v m) k)), some (.int (Int32.ofNat k))] [] (147, f, J, RP f sw) Q
  | 0, k, h => by
    have e : k = 6 := by omega
    subst e
    refine v_MwetAll4 oks ?_
    rw [if_pos (by decide), ps_6]
    exact q
  | c + 1, k, h => by
    refine v_MwetAll4 oks ?_
    rw [if_neg (by rw [tI_le, kI_t (show k < 2147483648 by omega)]; simp only [Int32.reduceToInt]; omega), l6, ← Int32.ofNat_add, kI_1, kI_c (by omega), w.2 m hm k (by omega)]
    refine ck_of (kI_x (by omega) (by omega)) ?_
    exact wet_loop w hm q c (k + 1) (by omega)
theorem wet_ok {G : GX} {d f : Nat} {sw : Bool} {I J : St} {th v : Int32} {m : Nat} {Q : Option Value → Hp → Prop} (w : FB I th v 240 J) (hm : m ≤ 240) (q : Q (some (.int (sm6 (wlI I th v m)))) (147, f, J, RP f sw)) : wp G (d + 10) (mt 213) 0 (en (mt 213) [.ref 93, .int (Int32.ofNat m)]) [] (147, f, J, RP f sw) Q := by
  refine v_MwetAll oks ?_
  exact wet_loop w hm q 6 0 (by omega)
theorem skF_s (w : Nat → (Nat → Int32)) (b : Int32) (n : Nat) : skF w b (n + 1) = (match skF w b n with
    | some m => some m
    | none => if b.toInt ≤ (sm6 (w (n + 1))).toInt then some (n + 1) else none) := rfl
theorem skF_mono {w : Nat → (Nat → Int32)} {b : Int32} {n m : Nat} (h : skF w b n = some m) : ∀ k, n ≤ k → skF w b k = some m
  | 0, hk => by rw [show n = 0 by omega] at h; exact h
  | k + 1, hk => by
    rcases Nat.eq_or_lt_of_le hk with e | e
    · rw [← e]; exact h
    · rw [skF_s, skF_mono h k (by omega)]
theorem sink_loop {G : GX} {d f : Nat} {sw : Bool} {I J : St} {th v : Int32} {Q : Option Value → Hp → Prop} (w : FB I th v 240 J) (q : Q (some (.int (ob (skI I th v)))) (147, f, J, RP f sw)) : ∀ (c n : Nat), n + c = 240 → skF (wlI I th v) (I 93 25) n = none → wp G (d + 50) (mt 215) 6 [some (.ref 93), none, none, some (.int (Int32.ofNat (n + 1)))] [] (147, f, J, RP f sw) Q
  | 0, n, h, hn => by
    have e : n = 240 := by omega
    subst e
    refine v_MsinksBy6 oks ?_
    rw [if_pos (by decide)]
    unfold skI at q
    rw [hn] at q
    exact q
  | c + 1, n, h, hn => by
    refine v_MsinksBy6 oks ?_
    rw [if_neg (by rw [tI_le, kI_t (show n + 1 < 2147483648 by omega)]; simp only [Int32.reduceToInt]; omega), kI_1]
    refine wet_ok w (by omega) ⟨_, _, rfl, rfl, ?_⟩
    rw [w.1 93 (by decide)]
    refine ite_i (fun z => ?_) (fun z => ?_)
    · rw [tI_lt] at z
      refine sink_loop w q c (n + 1) (by omega) ?_
      rw [skF_s, hn]
      simp only
      rw [if_neg (by omega)]
    · rw [tI_lt] at z
      have e : skF (wlI I th v) (I 93 25) (n + 1) = some (n + 1) := by
        rw [skF_s, hn]
        simp only
        rw [if_pos (by omega)]
      unfold skI at q
      rw [skF_mono e 240 (by omega)] at q
      exact q
theorem sinksBy_ok {G : GX} {d f : Nat} {sw : Bool} {I : St} {th v : Int32} {Q : Option Value → Hp → Prop} (r : RC5 I) (q : ∀ J, FB I th v 240 J → Q (some (.int (ob (skI I th v)))) (147, f, J, RP f sw)) : wp G (d + 50) (mt 215) 0 (en (mt 215) [.ref 93, .int th, .int v]) [] (147, f, I, RP f sw) Q := by
  refine v_MsinksBy oks ?_
  refine mfill_ok r (fun J w => ⟨_, rfl, rfl, ?_⟩)
  exact sink_loop w (q J w) 240 0 (by omega) rfl
