/-! THE HULL, the reference's -/
theorem open_loop {G : GX} {d f : Nat} {sw : Bool} {I : St} {d0 m n : Nat} {Q : Option Value → Hp → Prop} (hn : n ≤ 30) (h0 : I 93 26 = Int32.ofNat n) (q : Q (some (.int (b2 (isO (I 113) (I 114) (I 115) n d0 m)))) (147, f, I, RP f sw)) : ∀ c k, k + c = n → wp G (d + 10) (mt 212) 4 [some (.ref 93), some (.int (Int32.ofNat d0)), some (.int (Int32.ofNat m)), some (.int (ob (bestI (I 113) (I 114) (Int32.ofNat d0) (Int32.ofNat m) k))), some (.int (Int32.ofNat k))] [] (147, f, I, RP f sw) Q
  | 0, k, h => by
    have e : k = n := by omega
    subst e
    refine v_MisOpen4 oks ?_
    rw [h0, if_pos (by rw [tI_le]; omega)]
    unfold isO at q
    cases hb : bestI (I 113) (I 114) (Int32.ofNat d0) (Int32.ofNat m) k with
    | none =>
      rw [hb] at q
      rw [if_pos (show ob none = -1000000 from rfl)]
      exact q
    | some j =>
      rw [hb] at q
      have hj := bestI_lt hb
      rw [if_neg (ob_ne (by omega)), show (ob (some j)).toNatClampNeg = j from kI_c (by omega)]
      refine ck_of (kI_x (by omega) (by omega)) ?_
      refine ite_i (fun z => ?_) (fun z => ?_)
      · simp only at q
        rw [decide_eq_true z] at q
        exact q
      · simp only at q
        rw [decide_eq_false z] at q
        exact q
  | c + 1, k, h => by
    refine v_MisOpen4 oks ?_
    rw [h0, if_neg (by rw [tI_le, kI_t (by omega), kI_t (by omega)]; omega), kI_1, kI_c (by omega)]
    refine ck_of (kI_x (by omega) (by omega)) ?_
    have ih := open_loop (G := G) (d := d) hn h0 q c (k + 1) (by omega)
    rw [bestI_s] at ih
    refine ite_i (fun z => ?_) (fun z => ?_)
    · refine ck_of (kI_x (by omega) (by omega)) ?_
      refine ite_i (fun z2 => ?_) (fun z2 => ?_)
      · rw [tI_lt] at z2
        rw [if_neg (by omega)] at ih
        exact ih
      · rw [tI_lt] at z2
        rw [if_pos ⟨z, by omega⟩] at ih
        cases hb : bestI (I 113) (I 114) (Int32.ofNat d0) (Int32.ofNat m) k with
        | none =>
          rw [hb] at ih
          rw [if_pos (show ob none = -1000000 from rfl)]
          exact ih
        | some j =>
          rw [hb] at ih
          have hj := bestI_lt hb
          rw [if_neg (ob_ne (by omega))]
          refine ck_of (kI_x (by omega) (by omega)) (ck_of (kI_x (by omega) (by omega)) ?_)
          rw [show (ob (some j)).toNatClampNeg = j from kI_c (by omega)]
          refine ite_i (fun z3 => ?_) (fun z3 => ?_)
          · rw [tI_lt] at z3
            simp only at ih
            rw [if_neg (by omega)] at ih
            exact ih
          · rw [tI_lt] at z3
            simp only at ih
            rw [if_pos (by omega)] at ih
            exact ih
    · rw [if_neg (fun y => z y.1)] at ih
      exact ih
theorem open_ok {G : GX} {d f : Nat} {sw : Bool} {I : St} {d0 m n : Nat} {Q : Option Value → Hp → Prop} (hn : n ≤ 30) (h0 : I 93 26 = Int32.ofNat n) (q : Q (some (.int (b2 (isO (I 113) (I 114) (I 115) n d0 m)))) (147, f, I, RP f sw)) : wp G (d + 10) (mt 212) 0 (en (mt 212) [.ref 93, .int (Int32.ofNat d0), .int (Int32.ofNat m)]) [] (147, f, I, RP f sw) Q := by
  refine v_MisOpen oks ?_
  exact open_loop hn h0 q n 0 (by omega)
/-- the levels of minutes up to m stand; those of the next one are l so far -/
def RW (I : St) (th v : Int32) (m : Nat) (l : Nat → Int32) (J : St) : Prop := (∀ p, p ≠ 119 → J p = I p) ∧ (∀ m', m' ≤ m → ∀ h, h < 6 → J 119 (6 * m' + h) = wlI I th v m' h) ∧ ∀ h, h < 6 → J 119 (6 * m + 6 + h) = l h
theorem upF_same (l : Nat → Int32) (h : Nat) (x : Int32) : upF l h x h = x := by unfold upF; rw [if_pos rfl]
theorem upF_ne {l : Nat → Int32} {h k : Nat} {x : Int32} (e : k ≠ h) : upF l h x k = l k := by unfold upF; rw [if_neg e]
theorem RW.up {I : St} {th v : Int32} {m : Nat} {l : Nat → Int32} {J : St} (w : RW I th v m l J) {h : Nat} (hh : h < 6) (x : Int32) : RW I th v m (upF l h x) (upI J 119 (6 * m + 6 + h) x) := by
  refine ⟨fun p hp => ?_, fun m' hm' h' hh' => ?_, fun h' hh' => ?_⟩
  · rw [upI_row hp]; exact w.1 p hp
  · rw [upI_nk (by omega)]; exact w.2.1 m' hm' h' hh'
  · by_cases e : h' = h
    · subst e; rw [upI_same, upF_same]
    · rw [upI_nk (by omega), upF_ne e]; exact w.2.2 h' hh'
theorem l6 (k : Nat) : (6 : Int32) * Int32.ofNat k = Int32.ofNat (6 * k) := (Int32.ofNat_mul 6 k).symm
theorem l6a (k : Nat) : Int32.ofNat k + 6 = Int32.ofNat (k + 6) := (Int32.ofNat_add k 6).symm
def fL (th v pp : Int32) (m : Nat) (r : List (Option Value)) : Lc := some (.ref 93) :: some (.int th) :: some (.int v) :: some (.int pp) :: some (.int (Int32.ofNat m)) :: r
theorem hole_loop {G : GX} {d f : Nat} {sw : Bool} {I : St} {th v pp : Int32} {m : Nat} {l : Nat → Int32} {Q : Option Value → Hp → Prop} (r : RC5 I) (hm : m < 240) (q : ∀ J, RW I th v m (hlS (I 112) (I 116) (I 117) (I 118) th v m l (I 93 30).toInt.toNat) J → wp G (d + 30) (mt 210) 110 (fL th v pp m [some (.int (Int32.ofNat (6 * m + 6))), some (.int 0), none, none, none, none, none, none]) [] (147, f, J, RP f sw) Q) : ∀ (c k : Nat) (J : St), k + c = (I 93 30).toInt.toNat → RW I th v m (hlS (I 112) (I 116) (I 117) (I 118) th v m l k) J → wp G (d + 30) (mt 210) 54 (fL th v pp m [some (.int (Int32.ofNat (6 * m + 6))), some (.int (Int32.ofNat k)), none, none, none, none, none, none]) [] (147, f, J, RP f sw) Q
  | 0, k, J, h, w => by
    obtain ⟨⟨h1, h2, h3⟩, -⟩ := id r
    refine v_Mfill54 oks ?_
    rw [w.1 93 (by decide), if_pos (by rw [tI_le, kI_t (by omega)]; omega)]
    rw [show k = (I 93 30).toInt.toNat by omega] at w
    exact q J w
  | c + 1, k, J, h, w => by
    obtain ⟨⟨h1, h2, h3⟩, -, -, -, -, r6, -⟩ := id r
    have q6 := r6 k (by omega)
    have ih := fun J => hole_loop (G := G) (d := d) (pp := pp) r hm q c (k + 1) J (by omega)
    have next : ∀ J, RW I th v m (hlS (I 112) (I 116) (I 117) (I 118) th v m l (k + 1)) J → wp G (d + 30) (mt 210) 106 (fL th v pp m [some (.int (Int32.ofNat (6 * m + 6))), some (.int (Int32.ofNat k)), none, none, none, none, none, none]) [] (147, f, J, RP f sw) Q := fun J w => by
      refine v_Mfill106 oks ?_
      rw [kI_1]
      exact ih J w
    have es : hlS (I 112) (I 116) (I 117) (I 118) th v m l (k + 1) = if (I 117 k).toInt ≤ m ∧ ¬ (th = 3 ∧ v = Int32.ofNat k) then ho1 (I 112) (I 116 k).toInt.toNat (I 118 k) (hlS (I 112) (I 116) (I 117) (I 118) th v m l k) else hlS (I 112) (I 116) (I 117) (I 118) th v m l k := rfl
    obtain ⟨hd, hhd⟩ : ∃ x, (I 116 k).toInt.toNat = x := ⟨_, rfl⟩
    have hd6 : hd < 6 := by omega
    have e116 : I 116 k = Int32.ofNat hd := by rw [← hhd]; exact kI_of q6.1.2.1
    have lv := w.2.2 hd hd6
    have sk : ¬ ((I 117 k).toInt ≤ m ∧ ¬ (th = 3 ∧ v = Int32.ofNat k)) → wp G (d + 30) (mt 210) 106 (fL th v pp m [some (.int (Int32.ofNat (6 * m + 6))), some (.int (Int32.ofNat k)), none, none, none, none, none, none]) [] (147, f, J, RP f sw) Q := fun hc => next J (by rw [es, if_neg hc]; exact w)
    have go : ((I 117 k).toInt ≤ m ∧ ¬ (th = 3 ∧ v = Int32.ofNat k)) → ck (ixB (Int32.ofNat k) 10) (ck (ixB (I 116 k) 6) (ck (ixB (Int32.ofNat (6 * m + 6) + I 116 k) 1446) (ck (ixB (Int32.ofNat (6 * m + 6) + I 116 k) 1446) (if 0 < I 112 (I 116 k).toNatClampNeg - J 119 (Int32.ofNat (6 * m + 6) + I 116 k).toNatClampNeg then ck (ixB (Int32.ofNat k) 10) (if I 112 (I 116 k).toNatClampNeg - J 119 (Int32.ofNat (6 * m + 6) + I 116 k).toNatClampNeg ≤ I 118 k then wp G (d + 30) (mt 210) 104 (fL th v pp m [some (.int (Int32.ofNat (6 * m + 6))), some (.int (Int32.ofNat k)), none, none, none, none, none, none]) [.int (I 112 (I 116 k).toNatClampNeg - J 119 (Int32.ofNat (6 * m + 6) + I 116 k).toNatClampNeg), .int (J 119 (Int32.ofNat (6 * m + 6) + I 116 k).toNatClampNeg), .int (Int32.ofNat (6 * m + 6) + I 116 k), .ref 119] (147, f, J, RP f sw) Q else wp G (d + 30) (mt 210) 104 (fL th v pp m [some (.int (Int32.ofNat (6 * m + 6))), some (.int (Int32.ofNat k)), none, none, none, none, none, none]) [.int (I 118 k), .int (J 119 (Int32.ofNat (6 * m + 6) + I 116 k).toNatClampNeg), .int (Int32.ofNat (6 * m + 6) + I 116 k), .ref 119] (147, f, J, RP f sw) Q) else wp G (d + 30) (mt 210) 104 (fL th v pp m [some (.int (Int32.ofNat (6 * m + 6))), some (.int (Int32.ofNat k)), none, none, none, none, none, none]) [.int 0, .int (J 119 (Int32.ofNat (6 * m + 6) + I 116 k).toNatClampNeg), .int (Int32.ofNat (6 * m + 6) + I 116 k), .ref 119] (147, f, J, RP f sw) Q)))) := fun hc => by
      rw [e116, ← Int32.ofNat_add, kI_c (show hd < 2147483648 by omega), kI_c (show 6 * m + 6 + hd < 2147483648 by omega), lv]
      have x1 : ixB (Int32.ofNat k) 10 = true := kI_x (by omega) (by omega)
      refine ck_of x1 (ck_of (kI_x (by omega) hd6) (ck_of (kI_x (by omega) (by omega)) (ck_of (kI_x (by omega) (by omega)) ?_)))
      have fin : ∀ a : Int32, a = (if (I 112 hd - hlS (I 112) (I 116) (I 117) (I 118) th v m l k hd).toInt ≤ 0 then 0 else mnI (I 118 k) (I 112 hd - hlS (I 112) (I 116) (I 117) (I 118) th v m l k hd)) → wp G (d + 30) (mt 210) 104 (fL th v pp m [some (.int (Int32.ofNat (6 * m + 6))), some (.int (Int32.ofNat k)), none, none, none, none, none, none]) [.int a, .int (hlS (I 112) (I 116) (I 117) (I 118) th v m l k hd), .int (Int32.ofNat (6 * m + 6 + hd)), .ref 119] (147, f, J, RP f sw) Q := fun a ea => by
        refine v_Mfill104 oks ?_
        refine ck_of (kI_x (by omega) (by omega)) ?_
        rw [kI_c (by omega)]
        refine next _ ?_
        rw [es, if_pos hc, hhd]
        unfold ho1
        rw [← ea]
        exact w.up hd6 _
      refine ite_i (fun z => ck_of x1 (ite_i (fun z2 => ?_) (fun z2 => ?_))) (fun z => ?_)
      · rw [tI_lt] at z
        have z : 0 < (I 112 hd - hlS (I 112) (I 116) (I 117) (I 118) th v m l k hd).toInt := z
        refine fin _ ?_
        rw [if_neg (by omega)]
        unfold mnI
        rw [if_neg (by rw [tI_lt]; rw [tI_le] at z2; omega)]
      · rw [tI_lt] at z
        have z : 0 < (I 112 hd - hlS (I 112) (I 116) (I 117) (I 118) th v m l k hd).toInt := z
        refine fin _ ?_
        rw [if_neg (by omega)]
        unfold mnI
        rw [if_pos (by rw [tI_lt]; rw [tI_le] at z2; omega)]
      · rw [tI_lt] at z
        have z : ¬ 0 < (I 112 hd - hlS (I 112) (I 116) (I 117) (I 118) th v m l k hd).toInt := z
        refine fin _ ?_
        rw [if_pos (by omega)]
    refine v_Mfill54 oks ?_
    rw [w.1 93 (by decide), if_neg (by rw [tI_le, kI_t (by omega)]; omega), kI_c (by omega), w.1 117 (by decide), w.1 116 (by decide), w.1 112 (by decide), w.1 118 (by decide)]
    have tm : (Int32.ofNat m).toInt = m := kI_t (by omega)
    refine ck_of (kI_x (by omega) (by omega)) ?_
    refine ite_i (fun z => ?_) (fun z => ?_)
    · rw [tI_lt, tm] at z
      exact sk (fun y => by omega)
    · rw [tI_lt, tm] at z
      refine ite_i (fun z2 => ite_i (fun z3 => ?_) (fun z3 => ?_)) (fun z2 => ?_)
      · exact sk (fun y => y.2 ⟨z2, z3⟩)
      · exact go ⟨by omega, fun y => z3 y.2⟩
      · exact go ⟨by omega, fun y => z2 y.1⟩
-- WreckCourtModel.fill(II)V, entry 216
set_option maxRecDepth 100000 in
set_option maxHeartbeats 4000000 in
theorem v_Mfill216 (o : OKs) {G : GX} {d f : Nat} {sw : Bool} {I : Nat → Nat → Int32} {u1 : Int32} {u2 : Int32} {u3 : Int32} {u4 : Int32} {u5 : Int32} {u6 : Int32} {Q : Option Value → Hp → Prop}
    (hq : wp G (d + 30) (mt 210) 110 [some (.ref 93), some (.int u1), some (.int u2), some (.int u3), some (.int u4), some (.int u5), some (.int (u6 + Int32.ofInt 1)), none, none, none, none, none, none] [] (147, f, I, RP f sw) Q) :
    wp G (d + 30) (mt 210) 216 [some (.ref 93), some (.int u1), some (.int u2), some (.int u3), some (.int u4), some (.int u5), some (.int u6), none, none, none, none, none, none] [] (147, f, I, RP f sw) Q := vc_wp o [(210, 10, [0, 1, 2, 3, 4]), (210, 22, [0, 1, 2, 3, 4]), (210, 33, [0, 1, 2, 3, 4, 5, 6]), (210, 54, [0, 1, 2, 3, 4, 5, 6]), (210, 104, [0, 1, 2, 3, 4, 5, 6]), (210, 106, [0, 1, 2, 3, 4, 5, 6]), (210, 110, [0, 1, 2, 3, 4, 5, 6]), (210, 131, [0, 1, 2, 3, 4, 5, 6, 7]), (210, 155, [0, 1, 2, 3, 4, 5, 6, 7, 8, 9]), (210, 163, [0, 1, 2, 3, 4, 5, 6, 7, 8, 9, 10]), (210, 172, [0, 1, 2, 3, 4, 5, 6, 7, 9, 10, 11]), (210, 196, [0, 1, 2, 3, 4, 5, 6, 9, 10, 11]), (210, 216, [0, 1, 2, 3, 4, 5, 6]), (210, 218, [0, 1, 2, 3, 4, 5]), (210, 222, [0, 1, 2, 3, 4, 5, 6, 7]), (210, 242, [0, 1, 2, 3, 4, 5, 6, 7]), (210, 244, [0, 1, 2, 3, 4, 5, 6])] [] 600 rfl hq
def gv (o : Bool) (x : Int32) : Int32 := match o with | true => x | false => 0
theorem d196 {G : GX} {d f : Nat} {sw : Bool} {I : St} {th v pp go : Int32} {m k t g : Nat} {l : Nat → Int32} {J : St} {Q : Option Value → Hp → Prop} (hm : m < 240) (hk : k < 5) (ht : t < 6) (hg : g < 6) (ne : t ≠ g) (w : RW I th v m l J) (q : ∀ J, RW I th v m (upF (upF l t (l t + go)) g (l g - go)) J → wp G (d + 30) (mt 210) 110 (fL th v pp m [some (.int (Int32.ofNat (6 * m + 6))), some (.int (Int32.ofNat (k + 1))), none, none, none, none, none, none]) [] (147, f, J, RP f sw) Q) : wp G (d + 30) (mt 210) 196 (fL th v pp m [some (.int (Int32.ofNat (6 * m + 6))), some (.int (Int32.ofNat k)), none, none, some (.int (Int32.ofNat t)), some (.int (Int32.ofNat g)), some (.int go), none]) [] (147, f, J, RP f sw) Q := by
  refine v_Mfill196 oks ?_
  rw [← Int32.ofNat_add, ← Int32.ofNat_add, kI_c (by omega), kI_c (by omega), w.2.2 t ht]
  refine ck_of (kI_x (by omega) (by omega)) (ck_of (kI_x (by omega) (by omega)) (ck_of (kI_x (by omega) (by omega)) (ck_of (kI_x (by omega) (by omega)) ?_)))
  refine v_Mfill216 oks ?_
  rw [kI_1, upI_nk (by omega), w.2.2 g hg]
  refine q _ ?_
  exact (w.up ht (l t + go)).up hg (l g - go)
theorem d172 {G : GX} {d f : Nat} {sw : Bool} {I : St} {th v pp a : Int32} {o : Bool} {m k t g : Nat} {l : Nat → Int32} {J : St} {Q : Option Value → Hp → Prop} (hm : m < 240) (hk : k < 5) (ht : t < 6) (hg : g < 6) (ne : t ≠ g) (w : RW I th v m l J) (q : ∀ (J : St) (go : Int32), go = (gv o (mnI a (if (I 112 t - l t).toInt < 0 then 0 else I 112 t - l t))) → RW I th v m (upF (upF l t (l t + go)) g (l g - go)) J → wp G (d + 30) (mt 210) 110 (fL th v pp m [some (.int (Int32.ofNat (6 * m + 6))), some (.int (Int32.ofNat (k + 1))), none, none, none, none, none, none]) [] (147, f, J, RP f sw) Q) : wp G (d + 30) (mt 210) 172 (fL th v pp m [some (.int (Int32.ofNat (6 * m + 6))), some (.int (Int32.ofNat k)), some (.int (b2 o)), none, some (.int (Int32.ofNat t)), some (.int (Int32.ofNat g)), some (.int a), none]) [] (147, f, J, RP f sw) Q := by
  have fin : ∀ go : Int32, go = (gv o (mnI a (if (I 112 t - l t).toInt < 0 then 0 else I 112 t - l t))) → wp G (d + 30) (mt 210) 196 (fL th v pp m [some (.int (Int32.ofNat (6 * m + 6))), some (.int (Int32.ofNat k)), none, none, some (.int (Int32.ofNat t)), some (.int (Int32.ofNat g)), some (.int go), none]) [] (147, f, J, RP f sw) Q := fun go e => d196 hm hk ht hg ne w (fun J w' => q J go e w')
  refine v_Mfill172 oks ?_
  rw [← Int32.ofNat_add, kI_c (by omega), kI_c (by omega), w.1 112 (by decide), w.2.2 t ht]
  refine ck_of (kI_x (by omega) ht) (ck_of (kI_x (by omega) (by omega)) ?_)
  cases o with
  | false =>
    rw [if_pos (show b2 false = 0 from rfl)]
    exact fin 0 rfl
  | true =>
    rw [if_neg (show ¬ b2 true = 0 by decide)]
    have i0 : (0 : Int32).toInt = 0 := by decide
    refine ite_i (fun z => ite_i (fun z2 => fin _ ?_) (fun z2 => fin _ ?_)) (fun z => ite_i (fun z2 => fin _ ?_) (fun z2 => fin _ ?_))
    · rw [tI_le, i0] at z
      rw [tI_le] at z2
      show _ = mnI _ _
      unfold mnI
      rw [if_neg (show ¬ (I 112 t - l t).toInt < 0 by omega), if_neg (by rw [tI_lt]; omega)]
    · rw [tI_le, i0] at z
      rw [tI_le] at z2
      show _ = mnI _ _
      unfold mnI
      rw [if_neg (show ¬ (I 112 t - l t).toInt < 0 by omega), if_pos (by rw [tI_lt]; omega)]
    · rw [tI_le, i0] at z
      rw [tI_le, i0] at z2
      show _ = mnI _ _
      unfold mnI
      rw [if_pos (show (I 112 t - l t).toInt < 0 by omega), if_neg (by rw [tI_lt, i0]; omega)]
    · rw [tI_le, i0] at z
      rw [tI_le, i0] at z2
      show _ = mnI _ _
      unfold mnI
      rw [if_pos (show (I 112 t - l t).toInt < 0 by omega), if_pos (by rw [tI_lt, i0]; omega)]
theorem d131 {G : GX} {d f : Nat} {sw : Bool} {I : St} {th v pp : Int32} {o : Bool} {m k : Nat} {l : Nat → Int32} {J : St} {Q : Option Value → Hp → Prop} (hm : m < 240) (hk : k < 5) (w : RW I th v m l J) (q : ∀ J, RW I th v m (dr1 o (I 112) k l) J → wp G (d + 30) (mt 210) 110 (fL th v pp m [some (.int (Int32.ofNat (6 * m + 6))), some (.int (Int32.ofNat (k + 1))), none, none, none, none, none, none]) [] (147, f, J, RP f sw) Q) : wp G (d + 30) (mt 210) 131 (fL th v pp m [some (.int (Int32.ofNat (6 * m + 6))), some (.int (Int32.ofNat k)), some (.int (b2 o)), none, none, none, none, none]) [] (147, f, J, RP f sw) Q := by
  have i0 : (0 : Int32).toInt = 0 := by decide
  refine v_Mfill131 oks ?_
  rw [← Int32.ofNat_add, l1a, kI_c (by omega), kI_c (by omega), w.2.2 k (by omega), show 6 * m + 6 + k + 1 = 6 * m + 6 + (k + 1) by omega, w.2.2 (k + 1) (by omega), l1a]
  refine ck_of (kI_x (by omega) (by omega)) (ck_of (kI_x (by omega) (by omega)) ?_)
  refine ite_i (fun z => ?_) (fun z => ?_)
  · rw [tI_le, i0] at z
    refine v_Mfill155 oks ?_
    rw [if_pos (by rw [tI_le, i0]; exact z), l1a]
    refine v_Mfill163 oks ?_
    have e1 : dr1 o (I 112) k l = (upF (upF l k (l k + (gv o (mnI ((if (l k - l (k + 1)).toInt < 0 then -(l k - l (k + 1)) else l k - l (k + 1)) / 2) (if (I 112 k - l k).toInt < 0 then 0 else I 112 k - l k))))) (k + 1) (l (k + 1) - (gv o (mnI ((if (l k - l (k + 1)).toInt < 0 then -(l k - l (k + 1)) else l k - l (k + 1)) / 2) (if (I 112 k - l k).toInt < 0 then 0 else I 112 k - l k))))) := by
      unfold dr1
      have : ¬ 0 < (l k - l (k + 1)).toInt := by omega
      simp only [if_neg this]
      cases o <;> rfl
    refine ite_i (fun z2 => ?_) (fun z2 => ?_)
    · rw [tI_le, i0] at z2
      refine d172 hm hk (by omega) (by omega) (by omega) w (fun J go e w' => q J ?_)
      rw [if_neg (show ¬ (l k - l (k + 1)).toInt < 0 by omega)] at e1
      rw [e1, ← e]
      exact w'
    · rw [tI_le, i0] at z2
      refine d172 hm hk (by omega) (by omega) (by omega) w (fun J go e w' => q J ?_)
      rw [if_pos (show (l k - l (k + 1)).toInt < 0 by omega)] at e1
      rw [e1, ← e]
      exact w'
  · rw [tI_le, i0] at z
    refine v_Mfill155 oks ?_
    rw [if_neg (by rw [tI_le, i0]; exact z)]
    refine v_Mfill163 oks ?_
    rw [if_pos (by rw [tI_le, i0]; omega)]
    refine d172 hm hk (by omega) (by omega) (by omega) w (fun J go e w' => q J ?_)
    have e1 : dr1 o (I 112) k l = (upF (upF l (k + 1) (l (k + 1) + (gv o (mnI ((l k - l (k + 1)) / 2) (if (I 112 (k + 1) - l (k + 1)).toInt < 0 then 0 else I 112 (k + 1) - l (k + 1)))))) k (l k - (gv o (mnI ((l k - l (k + 1)) / 2) (if (I 112 (k + 1) - l (k + 1)).toInt < 0 then 0 else I 112 (k + 1) - l (k + 1)))))) := by
      unfold dr1
      have h1 : 0 < (l k - l (k + 1)).toInt := by omega
      have h2 : ¬ (l k - l (k + 1)).toInt < 0 := by omega
      simp only [if_pos h1, if_neg h2]
      cases o <;> rfl
    rw [e1, ← e]
    exact w'
theorem door_loop {G : GX} {d f : Nat} {sw : Bool} {I : St} {th v pp : Int32} {m : Nat} {l : Nat → Int32} {Q : Option Value → Hp → Prop} (r : RC5 I) (hm : m < 240) (q : ∀ J, RW I th v m (drS (I 112) (I 113) (I 114) (I 115) (I 93 26).toInt.toNat th v m l 5) J → wp G (d + 30) (mt 210) 218 (fL th v pp m [some (.int (Int32.ofNat (6 * m + 6))), none, none, none, none, none, none, none]) [] (147, f, J, RP f sw) Q) : ∀ (c k : Nat) (J : St), k + c = 5 → RW I th v m (drS (I 112) (I 113) (I 114) (I 115) (I 93 26).toInt.toNat th v m l k) J → wp G (d + 30) (mt 210) 110 (fL th v pp m [some (.int (Int32.ofNat (6 * m + 6))), some (.int (Int32.ofNat k)), none, none, none, none, none, none]) [] (147, f, J, RP f sw) Q
  | 0, k, J, h, w => by
    have e : k = 5 := by omega
    subst e
    refine v_Mfill110 oks ?_
    rw [if_pos (by decide)]
    exact q J w
  | c + 1, k, J, h, w => by
    obtain ⟨-, -, -, ⟨o1, o2, o3⟩, -⟩ := id r
    have ih := fun J => door_loop (G := G) (d := d) (pp := pp) r hm q c (k + 1) J (by omega)
    have j26 : J 93 26 = Int32.ofNat (I 93 26).toInt.toNat := by rw [w.1 93 (by decide)]; exact kI_of o2
    have i2 : (2 : Int32).toInt = 2 := by decide
    have step : ∀ o : Bool, o = opn (I 113) (I 114) (I 115) (I 93 26).toInt.toNat th v k m → wp G (d + 30) (mt 210) 131 (fL th v pp m [some (.int (Int32.ofNat (6 * m + 6))), some (.int (Int32.ofNat k)), some (.int (b2 o)), none, none, none, none, none]) [] (147, f, J, RP f sw) Q := fun o e => d131 hm (by omega) w (fun J w' => ih J (by rw [e] at w'; exact w'))
    have byO : ¬ (th.toInt < 2 ∧ v = Int32.ofNat k) → wp G (d + 29) (mt 212) 0 (en (mt 212) [.ref 93, .int (Int32.ofNat k), .int (Int32.ofNat m)]) [] (147, f, J, RP f sw) (fun v_1 h1 => ∃ (x2 : Int32) (I1 : Nat → Nat → Int32), v_1 = some (.int x2) ∧ h1 = (147, f, I1, RP f sw) ∧ (wp G (d + 30) (mt 210) 131 (fL th v pp m [some (.int (Int32.ofNat (6 * m + 6))), some (.int (Int32.ofNat k)), some (.int x2), none, none, none, none, none]) [] (147, f, I1, RP f sw) Q)) := fun hc => by
      refine open_ok (n := (I 93 26).toInt.toNat) (by omega) j26 ⟨_, _, rfl, rfl, ?_⟩
      refine step _ ?_
      unfold opn
      rw [if_neg hc, w.1 113 (by decide), w.1 114 (by decide), w.1 115 (by decide)]
    refine v_Mfill110 oks ?_
    rw [if_neg (by rw [tI_le, kI_t (show k < 2147483648 by omega)]; simp only [Int32.reduceToInt]; omega)]
    refine ite_i (fun z => ?_) (fun z => ite_i (fun z2 => ite_i (fun z3 => ?_) (fun z3 => ?_)) (fun z2 => ?_))
    · rw [tI_le, i2] at z
      exact byO (fun y => by omega)
    · rw [tI_le, i2] at z
      refine step true ?_
      unfold opn
      rw [if_pos ⟨by omega, z2⟩, decide_eq_true z3]
    · rw [tI_le, i2] at z
      refine step false ?_
      unfold opn
      rw [if_pos ⟨by omega, z2⟩, decide_eq_false z3]
    · exact byO (fun y => z2 y.2)
