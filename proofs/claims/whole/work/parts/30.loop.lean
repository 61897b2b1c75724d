/-! THE LAW from its start: the constructors, then the loop -/
theorem law_loop {G : GX} {Rl : Nat → Bool → St → Prop} (hA : AllCO Rl G) (hRx : ∀ f sw I, Rl f sw I → RX G I ∧ f ≤ 2000) (hL : G.2.2.2.2.1 ≤ 4608) : ∀ (n k : Nat) (f : Nat) (sw : Bool) (I : St), G.2.2.2.2.1 ≤ n + 9 * k → 9 * k ≤ 4617 → Rl f sw I → wp G 1000 (mt 264) 10 (LV (Int32.ofNat (9 * k))) [] (147, f, I, RP f sw) lawQ
  | n, k, f, sw, I, hn, hk, hR => by
    obtain ⟨hx, hf⟩ := hRx f sw I hR
    have e1 : (Int32.ofNat G.2.2.2.2.1).toInt = G.2.2.2.2.1 := kI_t (by omega)
    have e2 : (Int32.ofNat (9 * k)).toInt = (9 * k : Nat) := kI_t (by omega)
    have e9 : (9 : Int32).toInt = 9 := by decide
    have e3 : ((Int32.ofNat G.2.2.2.2.1) - 9).toInt = G.2.2.2.2.1 - 9 := by
      rw [fb_subI (by rw [e1, e9]; omega) (by rw [e1, e9]; omega), e1, e9]
    by_cases hi : (Int32.ofNat G.2.2.2.2.1) - 9 < Int32.ofNat (9 * k)
    · refine law_head ?_
      rw [hx.2, if_pos hi]
      exact ⟨rfl, Nat.le_refl _, hf⟩
    · have hi2 : 9 * k + 9 ≤ G.2.2.2.2.1 := by
        rw [Int32.lt_iff_toInt_lt, e3, e2] at hi
        omega
      cases n with
      | zero => omega
      | succ n =>
        have hc : (Int32.ofNat G.2.2.2.2.1).toNatClampNeg = G.2.2.2.2.1 := kI_c (by omega)
        refine law_body hA hR hx ?_ ?_ hi (fun f1 sw1 I2 hR2 => ?_)
        · intro t ht
          have h1 : 0 ≤ t.toInt ∧ t.toInt ≤ 8 := by
            revert t
            decide
          rw [hc]
          have e4 : (Int32.ofNat (9 * k) + t).toInt = (9 * k : Nat) + t.toInt := by
            rw [fb_addI (by rw [e2]; omega) (by rw [e2]; omega), e2]
          exact ixB_i (by rw [e4]; omega) (by rw [e4]; omega)
        · rw [hc]
          exact ixB_i (by rw [e2]; omega) (by rw [e2]; omega)
        · rw [show Int32.ofNat (9 * k) + Int32.ofInt 9 = Int32.ofNat (9 * (k + 1)) by rw [Nat.mul_succ, Int32.ofNat_add]; rfl]
          exact law_loop hA hRx hL n (k + 1) f1 sw1 I2 (by omega) (by omega) hR2
def iniI (G : GX) : St := lkI iniL (I0 G)
set_option maxRecDepth 100000 in
set_option maxHeartbeats 4000000 in
theorem hlaw_of {G : GX} {Rl : Nat → Bool → St → Prop} (hA : AllCO Rl G) (hRx : ∀ f sw I, Rl f sw I → RX G I ∧ f ≤ 2000) (hL : G.2.2.2.2.1 ≤ 4608) (h0 : Rl 0 false (iniI G)) : wp G 1000 (mt 264) 0 (en (mt 264) [.ref 100300]) [] (h00 G) lawQ := by
  have w1 := exb_wp (G := G) 3000 999 (mt 0) 0 (en (mt 0) [.ref 0]) [] (1, [], []) (none, 93, iW1, iR1) (ck_all 0 rfl) (eqZ_eq ini1_ok)
  have w2 := exb_wp (G := G) 3000 999 (mt 181) 0 (en (mt 181) [.ref 93]) [] (94, iW1, iR1) (none, 147, iW2, iR2) (ck_all 181 rfl) (eqZ_eq ini2_ok)
  refine vc_law oks [(264, 10, [0, 1, 2, 3])] [1000, 1181] 60 ?_
  show wp G 999 (mt 0) 0 (en (mt 0) [.ref 0]) [] (1, 0, I0 G, fun _ _ => none) _
  refine w1.mono ?_
  rintro r h' ⟨rfl, rfl⟩
  show wp G 999 (mt 181) 0 (en (mt 181) [.ref 93]) [] (94, 0, lkI iW1 (I0 G), lkR iR1) _
  refine w2.mono ?_
  rintro r h' ⟨rfl, rfl⟩
  show wp G 1000 (mt 264) 10 (LV (Int32.ofNat (9 * 0))) [] (147, 0, lkI iW2 (I0 G), lkR iR2) lawQ
  rw [cI_eq, cR_eq]
  exact law_loop hA hRx hL G.2.2.2.2.1 0 0 false (iniI G) (by omega) (by omega) h0
