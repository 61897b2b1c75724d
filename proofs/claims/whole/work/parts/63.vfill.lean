theorem fillI_row {I : St} {p n q : Nat} {v : Int32} (h : q ≠ p) : fillI I p n v q = I q := by
  funext k
  unfold fillI
  rw [if_neg h]
theorem fillI_at {I : St} {p n k : Nat} {v : Int32} (h : k < n) : fillI I p n v p k = v := by
  unfold fillI
  rw [if_pos rfl, if_pos h]
theorem K0.at {I : St} (k : K0 I) : ∀ h, h < 6 → I (41 + h) 0 = 0
  | 0, _ => k.1
  | 1, _ => k.2.1
  | 2, _ => k.2.2.1
  | 3, _ => k.2.2.2.1
  | 4, _ => k.2.2.2.2.1
  | 5, _ => k.2.2.2.2.2
  | h + 6, hh => by omega
theorem vplay_ok {G : GX} {d f : Nat} {sw : Bool} {I : St} {u1 th v : Int32} {Q : Option Value → Hp → Prop} (r : RC5 I) (ht : (u1 = -1 ∧ th = 9) ∨ (u1 = th ∧ 0 ≤ th.toInt ∧ th.toInt ≤ 3)) (hv : th = 2 → 0 ≤ v.toInt) (hd : th.toInt < 2 → 0 ≤ v.toInt ∧ v.toInt ≤ 4) (q : ∀ m K, PI I u1 th v m K → (u1 = -1 → m = 240) → Q (some (.int (ob (skI I th v)))) (147, f, K, RP f sw)) : wp G (d + 40) (mt 67) 0 (en (mt 67) [.ref 29, .int u1, .int v]) [] (147, f, I, RP f sw) Q := by
  refine v_vplay oks ?_
  refine fill_ok (by decide) (show SH 39 = (20, 6) from rfl) (by decide) ⟨_, rfl, rfl, ?_⟩
  refine fill_ok (by decide) (show SH 38 = (20, 5) from rfl) (by decide) ⟨_, rfl, rfl, ?_⟩
  refine vplay_loop r ht hv hd q 240 0 0 _ (by omega) (by omega) (fun i hi => by omega) ⟨fun p p1 p2 p3 => ?_, fun h hh => ?_, fun y p p1 p2 => ?_, fun y h hh j hj => ?_⟩ (fun s hs _ => ?_)
  · rw [fillI_row p1, fillI_row p2]
  · rw [fillI_row (by decide), fillI_at hh]; rfl
  · rw [fillI_row (by omega), fillI_row (by omega)]
  · rw [fillI_row (by omega), fillI_row (by omega), show j = 0 by omega]
    exact r.2.2.2.2.2.2.2.2.2.1.at h hh
  · rw [fillI_at hs]; rfl
/-- behind a fill: the kept levels stand; nothing else has changed -/
def Vsl (I J : St) : Prop := (∀ p, p ≠ 29 → p ≠ 38 → p ≠ 39 → ¬ (41 ≤ p ∧ p ≤ 46) → J p = I p) ∧ (∀ k, k ≠ 11 → k ≠ 12 → J 29 k = I 29 k) ∧ J 29 12 = 0 ∧ VesC J
theorem vfill_ok {G : GX} {d f : Nat} {sw : Bool} {I : St} {Q : Option Value → Hp → Prop} (r : RC5 I) (q : ∀ J, Vsl I J → Q none (147, f, J, RP f sw)) : wp G (d + 60) (mt 66) 0 (en (mt 66) [.ref 29]) [] (147, f, I, RP f sw) Q := by
  refine v_vfill oks ?_
  refine ite_i (fun z => q I ⟨fun _ _ _ _ _ => rfl, fun _ _ _ => rfl, z, r.2.2.2.2.2.2.2.2.2⟩) (fun z => ?_)
  refine vplay_ok (th := 9) r (Or.inl ⟨rfl, rfl⟩) (fun y => absurd y (by decide)) (fun y => absurd y (by decide)) (fun m K w hm => ⟨_, _, rfl, rfl, ?_⟩)
  have e := hm rfl
  subst e
  obtain ⟨w1, w2, w3, w4⟩ := w
  obtain ⟨X, hX⟩ : ∃ X, upI (upI K 29 11 (ob (skI I 9 0))) 29 12 0 = X := ⟨_, rfl⟩
  have x1 : ∀ p, p ≠ 29 → X p = K p := fun p hp => by rw [← hX, upI_row hp, upI_row hp]
  have x2 : ∀ k, k ≠ 11 → k ≠ 12 → X 29 k = K 29 k := fun k k1 k2 => by rw [← hX, upI_nk (by omega), upI_nk (by omega)]
  have x3 : X 29 12 = 0 := by rw [← hX, upI_same]
  have x4 : X 29 11 = ob (skI I 9 0) := by rw [← hX, upI_nk (by omega), upI_same]
  have wc : wlI X 9 0 = wlI I 9 0 := by
    have e : ∀ p, 93 ≤ p → X p = I p := fun p hp => by rw [x1 p (by omega)]; exact w1 p (by omega) (by omega) (by omega)
    unfold wlI
    rw [e 112 (by decide), e 113 (by decide), e 114 (by decide), e 115 (by decide), e 116 (by decide), e 117 (by decide), e 118 (by decide), e 93 (by decide)]
  have k0 : ∀ h, h < 6 → X (41 + h) 0 = 0 := fun h hh => by rw [x1 _ (by omega), w4 rfl h hh 0 (by omega)]; rfl
  rw [hX]
  refine q X ⟨fun p p1 p2 p3 p4 => by rw [x1 p p1]; exact w1 p p2 p3 p4, fun k k1 k2 => by rw [x2 k k1 k2, w1 29 (by decide) (by decide) (by decide)], x3, ⟨k0 0 (by decide), k0 1 (by decide), k0 2 (by decide), k0 3 (by decide), k0 4 (by decide), k0 5 (by decide)⟩, fun _ => ⟨?_, fun h hh m hm => ?_⟩⟩
  · unfold skI
    rw [x4, wc, x1 93 (by decide), w1 93 (by decide) (by decide) (by decide)]
    rfl
  · rw [x1 _ (by omega), wc]
    exact w4 rfl h hh m hm
