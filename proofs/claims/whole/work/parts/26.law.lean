/-! THE LAW'S LOOP: from what each call owes (CO) to the law's run -/
/-- the script as the start gave it -/
def RX (G : GX) (I : Nat → Nat → Int32) : Prop := (∀ k, I 100300 k = G.2.2.2.2.2 k) ∧ I 100301 0 = Int32.ofNat G.2.2.2.2.1
/-- what a call owes: both sides return the same int, and the relation holds again -/
def CO (Rl : Nat → Bool → (Nat → Nat → Int32) → Prop) (G : GX) (C M : Nat) (vs : List Value) : Prop := ∀ (f : Nat) (sw : Bool) (I : Nat → Nat → Int32), Rl f sw I →
  wp G 999 (mt C) 0 (en (mt C) (.ref 0 :: vs)) [] (147, f, I, RP f sw) (fun r h1 => ∃ (x : Int32) (f1 : Nat) (sw1 : Bool) (I1 : Nat → Nat → Int32), r = some (.int x) ∧ h1 = (147, f1, I1, RP f1 sw1) ∧ RX G I1 ∧
    wp G 999 (mt M) 0 (en (mt M) (.ref 93 :: vs)) [] (147, f1, I1, RP f1 sw1) (fun r2 h2 => ∃ I2 : Nat → Nat → Int32, r2 = some (.int x) ∧ h2 = (147, f1, I2, RP f1 sw1) ∧ Rl f1 sw1 I2))
def LV (i : Int32) : Lc := [some (.ref 100300), some (.ref 0), some (.ref 93), some (.int i)]
def ixs (G : GX) (i : Int32) : Prop := ∀ t ∈ ([1, 2, 3, 4, 5, 6, 7, 8] : List Int32), ixB (i + t) (Int32.ofNat G.2.2.2.2.1).toNatClampNeg = true

-- WreckCourt.sheet
set_option maxRecDepth 100000 in
set_option maxHeartbeats 4000000 in
theorem law_0 {G : GX} {f : Nat} {sw : Bool} {I : Nat → Nat → Int32} {i : Int32} {Q : Option Value → Hp → Prop} {Rl : Nat → Bool → (Nat → Nat → Int32) → Prop} (hC : CO Rl G 11 182 [.int (G.2.2.2.2.2 (i + 1).toNatClampNeg), .int (G.2.2.2.2.2 (i + 2).toNatClampNeg), .int (G.2.2.2.2.2 (i + 3).toNatClampNeg)]) (hR : Rl f sw I) (hx : RX G I) (hb : ixs G i) (K : ∀ f1 sw1 I2, Rl f1 sw1 I2 → wp G 1000 (mt 264) 10 (LV (i + Int32.ofInt 9)) [] (147, f1, I2, RP f1 sw1) Q) : wp G 1000 (mt 264) 22 (LV i) [] (147, f, I, RP f sw) Q := by
  refine vc_law oks [(264, 10, [0, 1, 2, 3])] [1011, 1182] 120 ?_
  show ck (ixB (i + 1) (I 100301 0).toNatClampNeg) (ck (ixB (i + 2) (I 100301 0).toNatClampNeg) (ck (ixB (i + 3) (I 100301 0).toNatClampNeg) (wp G 999 (mt 11) 0 (en (mt 11) [.ref 0, .int (I 100300 (i + 1).toNatClampNeg), .int (I 100300 (i + 2).toNatClampNeg), .int (I 100300 (i + 3).toNatClampNeg)]) [] (147, f, I, RP f sw) _)))
  simp only [hx.1, hx.2, hb 1 (by decide), hb 2 (by decide), hb 3 (by decide), ck]
  refine wp.mono (hC f sw I hR) ?_
  rintro r h1 ⟨x, f1, sw1, I1, rfl, rfl, hx1, hM⟩
  show ck (ixB (i + 1) (I1 100301 0).toNatClampNeg) (ck (ixB (i + 2) (I1 100301 0).toNatClampNeg) (ck (ixB (i + 3) (I1 100301 0).toNatClampNeg) (wp G 999 (mt 182) 0 (en (mt 182) [.ref 93, .int (I1 100300 (i + 1).toNatClampNeg), .int (I1 100300 (i + 2).toNatClampNeg), .int (I1 100300 (i + 3).toNatClampNeg)]) [] (147, f1, I1, RP f1 sw1) _)))
  simp only [hx1.1, hx1.2, hb 1 (by decide), hb 2 (by decide), hb 3 (by decide), ck]
  refine wp.mono hM ?_
  rintro r h2 ⟨I2, rfl, rfl, hR2⟩
  show if x = x then wp G 1000 (mt 264) 10 (LV (i + Int32.ofInt 9)) [] (147, f1, I2, RP f1 sw1) Q else _
  rw [if_pos rfl]
  exact K f1 sw1 I2 hR2

-- WreckCourt.set
set_option maxRecDepth 100000 in
set_option maxHeartbeats 4000000 in
theorem law_1 {G : GX} {f : Nat} {sw : Bool} {I : Nat → Nat → Int32} {i : Int32} {Q : Option Value → Hp → Prop} {Rl : Nat → Bool → (Nat → Nat → Int32) → Prop} (hC : CO Rl G 17 186 [.int (G.2.2.2.2.2 (i + 1).toNatClampNeg), .int (G.2.2.2.2.2 (i + 2).toNatClampNeg), .int (G.2.2.2.2.2 (i + 3).toNatClampNeg)]) (hR : Rl f sw I) (hx : RX G I) (hb : ixs G i) (K : ∀ f1 sw1 I2, Rl f1 sw1 I2 → wp G 1000 (mt 264) 10 (LV (i + Int32.ofInt 9)) [] (147, f1, I2, RP f1 sw1) Q) : wp G 1000 (mt 264) 59 (LV i) [] (147, f, I, RP f sw) Q := by
  refine vc_law oks [(264, 10, [0, 1, 2, 3])] [1017, 1186] 120 ?_
  show ck (ixB (i + 1) (I 100301 0).toNatClampNeg) (ck (ixB (i + 2) (I 100301 0).toNatClampNeg) (ck (ixB (i + 3) (I 100301 0).toNatClampNeg) (wp G 999 (mt 17) 0 (en (mt 17) [.ref 0, .int (I 100300 (i + 1).toNatClampNeg), .int (I 100300 (i + 2).toNatClampNeg), .int (I 100300 (i + 3).toNatClampNeg)]) [] (147, f, I, RP f sw) _)))
  simp only [hx.1, hx.2, hb 1 (by decide), hb 2 (by decide), hb 3 (by decide), ck]
  refine wp.mono (hC f sw I hR) ?_
  rintro r h1 ⟨x, f1, sw1, I1, rfl, rfl, hx1, hM⟩
  show ck (ixB (i + 1) (I1 100301 0).toNatClampNeg) (ck (ixB (i + 2) (I1 100301 0).toNatClampNeg) (ck (ixB (i + 3) (I1 100301 0).toNatClampNeg) (wp G 999 (mt 186) 0 (en (mt 186) [.ref 93, .int (I1 100300 (i + 1).toNatClampNeg), .int (I1 100300 (i + 2).toNatClampNeg), .int (I1 100300 (i + 3).toNatClampNeg)]) [] (147, f1, I1, RP f1 sw1) _)))
  simp only [hx1.1, hx1.2, hb 1 (by decide), hb 2 (by decide), hb 3 (by decide), ck]
  refine wp.mono hM ?_
  rintro r h2 ⟨I2, rfl, rfl, hR2⟩
  show if x = x then wp G 1000 (mt 264) 10 (LV (i + Int32.ofInt 9)) [] (147, f1, I2, RP f1 sw1) Q else _
  rw [if_pos rfl]
  exact K f1 sw1 I2 hR2

-- WreckCourt.copy
set_option maxRecDepth 100000 in
set_option maxHeartbeats 4000000 in
theorem law_2 {G : GX} {f : Nat} {sw : Bool} {I : Nat → Nat → Int32} {i : Int32} {Q : Option Value → Hp → Prop} {Rl : Nat → Bool → (Nat → Nat → Int32) → Prop} (hC : CO Rl G 20 187 [.int (G.2.2.2.2.2 (i + 1).toNatClampNeg), .int (G.2.2.2.2.2 (i + 2).toNatClampNeg), .int (G.2.2.2.2.2 (i + 3).toNatClampNeg), .int (G.2.2.2.2.2 (i + 4).toNatClampNeg), .int (G.2.2.2.2.2 (i + 5).toNatClampNeg)]) (hR : Rl f sw I) (hx : RX G I) (hb : ixs G i) (K : ∀ f1 sw1 I2, Rl f1 sw1 I2 → wp G 1000 (mt 264) 10 (LV (i + Int32.ofInt 9)) [] (147, f1, I2, RP f1 sw1) Q) : wp G 1000 (mt 264) 96 (LV i) [] (147, f, I, RP f sw) Q := by
  refine vc_law oks [(264, 10, [0, 1, 2, 3])] [1020, 1187] 120 ?_
  show ck (ixB (i + 1) (I 100301 0).toNatClampNeg) (ck (ixB (i + 2) (I 100301 0).toNatClampNeg) (ck (ixB (i + 3) (I 100301 0).toNatClampNeg) (ck (ixB (i + 4) (I 100301 0).toNatClampNeg) (ck (ixB (i + 5) (I 100301 0).toNatClampNeg) (wp G 999 (mt 20) 0 (en (mt 20) [.ref 0, .int (I 100300 (i + 1).toNatClampNeg), .int (I 100300 (i + 2).toNatClampNeg), .int (I 100300 (i + 3).toNatClampNeg), .int (I 100300 (i + 4).toNatClampNeg), .int (I 100300 (i + 5).toNatClampNeg)]) [] (147, f, I, RP f sw) _)))))
  simp only [hx.1, hx.2, hb 1 (by decide), hb 2 (by decide), hb 3 (by decide), hb 4 (by decide), hb 5 (by decide), ck]
  refine wp.mono (hC f sw I hR) ?_
  rintro r h1 ⟨x, f1, sw1, I1, rfl, rfl, hx1, hM⟩
  show ck (ixB (i + 1) (I1 100301 0).toNatClampNeg) (ck (ixB (i + 2) (I1 100301 0).toNatClampNeg) (ck (ixB (i + 3) (I1 100301 0).toNatClampNeg) (ck (ixB (i + 4) (I1 100301 0).toNatClampNeg) (ck (ixB (i + 5) (I1 100301 0).toNatClampNeg) (wp G 999 (mt 187) 0 (en (mt 187) [.ref 93, .int (I1 100300 (i + 1).toNatClampNeg), .int (I1 100300 (i + 2).toNatClampNeg), .int (I1 100300 (i + 3).toNatClampNeg), .int (I1 100300 (i + 4).toNatClampNeg), .int (I1 100300 (i + 5).toNatClampNeg)]) [] (147, f1, I1, RP f1 sw1) _)))))
  simp only [hx1.1, hx1.2, hb 1 (by decide), hb 2 (by decide), hb 3 (by decide), hb 4 (by decide), hb 5 (by decide), ck]
  refine wp.mono hM ?_
  rintro r h2 ⟨I2, rfl, rfl, hR2⟩
  show if x = x then wp G 1000 (mt 264) 10 (LV (i + Int32.ofInt 9)) [] (147, f1, I2, RP f1 sw1) Q else _
  rw [if_pos rfl]
  exact K f1 sw1 I2 hR2

-- WreckCourt.drop
set_option maxRecDepth 100000 in
set_option maxHeartbeats 4000000 in
theorem law_3 {G : GX} {f : Nat} {sw : Bool} {I : Nat → Nat → Int32} {i : Int32} {Q : Option Value → Hp → Prop} {Rl : Nat → Bool → (Nat → Nat → Int32) → Prop} (hC : CO Rl G 21 188 [.int (G.2.2.2.2.2 (i + 1).toNatClampNeg)]) (hR : Rl f sw I) (hx : RX G I) (hb : ixs G i) (K : ∀ f1 sw1 I2, Rl f1 sw1 I2 → wp G 1000 (mt 264) 10 (LV (i + Int32.ofInt 9)) [] (147, f1, I2, RP f1 sw1) Q) : wp G 1000 (mt 264) 153 (LV i) [] (147, f, I, RP f sw) Q := by
  refine vc_law oks [(264, 10, [0, 1, 2, 3])] [1021, 1188] 120 ?_
  show ck (ixB (i + 1) (I 100301 0).toNatClampNeg) (wp G 999 (mt 21) 0 (en (mt 21) [.ref 0, .int (I 100300 (i + 1).toNatClampNeg)]) [] (147, f, I, RP f sw) _)
  simp only [hx.1, hx.2, hb 1 (by decide), ck]
  refine wp.mono (hC f sw I hR) ?_
  rintro r h1 ⟨x, f1, sw1, I1, rfl, rfl, hx1, hM⟩
  show ck (ixB (i + 1) (I1 100301 0).toNatClampNeg) (wp G 999 (mt 188) 0 (en (mt 188) [.ref 93, .int (I1 100300 (i + 1).toNatClampNeg)]) [] (147, f1, I1, RP f1 sw1) _)
  simp only [hx1.1, hx1.2, hb 1 (by decide), ck]
  refine wp.mono hM ?_
  rintro r h2 ⟨I2, rfl, rfl, hR2⟩
  show if x = x then wp G 1000 (mt 264) 10 (LV (i + Int32.ofInt 9)) [] (147, f1, I2, RP f1 sw1) Q else _
  rw [if_pos rfl]
  exact K f1 sw1 I2 hR2

-- WreckCourt.ship
set_option maxRecDepth 100000 in
set_option maxHeartbeats 4000000 in
theorem law_4 {G : GX} {f : Nat} {sw : Bool} {I : Nat → Nat → Int32} {i : Int32} {Q : Option Value → Hp → Prop} {Rl : Nat → Bool → (Nat → Nat → Int32) → Prop} (hC : CO Rl G 22 189 [.int (G.2.2.2.2.2 (i + 1).toNatClampNeg), .int (G.2.2.2.2.2 (i + 2).toNatClampNeg)]) (hR : Rl f sw I) (hx : RX G I) (hb : ixs G i) (K : ∀ f1 sw1 I2, Rl f1 sw1 I2 → wp G 1000 (mt 264) 10 (LV (i + Int32.ofInt 9)) [] (147, f1, I2, RP f1 sw1) Q) : wp G 1000 (mt 264) 170 (LV i) [] (147, f, I, RP f sw) Q := by
  refine vc_law oks [(264, 10, [0, 1, 2, 3])] [1022, 1189] 120 ?_
  show ck (ixB (i + 1) (I 100301 0).toNatClampNeg) (ck (ixB (i + 2) (I 100301 0).toNatClampNeg) (wp G 999 (mt 22) 0 (en (mt 22) [.ref 0, .int (I 100300 (i + 1).toNatClampNeg), .int (I 100300 (i + 2).toNatClampNeg)]) [] (147, f, I, RP f sw) _))
  simp only [hx.1, hx.2, hb 1 (by decide), hb 2 (by decide), ck]
  refine wp.mono (hC f sw I hR) ?_
  rintro r h1 ⟨x, f1, sw1, I1, rfl, rfl, hx1, hM⟩
  show ck (ixB (i + 1) (I1 100301 0).toNatClampNeg) (ck (ixB (i + 2) (I1 100301 0).toNatClampNeg) (wp G 999 (mt 189) 0 (en (mt 189) [.ref 93, .int (I1 100300 (i + 1).toNatClampNeg), .int (I1 100300 (i + 2).toNatClampNeg)]) [] (147, f1, I1, RP f1 sw1) _))
  simp only [hx1.1, hx1.2, hb 1 (by decide), hb 2 (by decide), ck]
  refine wp.mono hM ?_
  rintro r h2 ⟨I2, rfl, rfl, hR2⟩
  show if x = x then wp G 1000 (mt 264) 10 (LV (i + Int32.ofInt 9)) [] (147, f1, I2, RP f1 sw1) Q else _
  rw [if_pos rfl]
  exact K f1 sw1 I2 hR2

-- WreckCourt.order
set_option maxRecDepth 100000 in
set_option maxHeartbeats 4000000 in
theorem law_5 {G : GX} {f : Nat} {sw : Bool} {I : Nat → Nat → Int32} {i : Int32} {Q : Option Value → Hp → Prop} {Rl : Nat → Bool → (Nat → Nat → Int32) → Prop} (hC : CO Rl G 25 191 [.int (G.2.2.2.2.2 (i + 1).toNatClampNeg), .int (G.2.2.2.2.2 (i + 2).toNatClampNeg), .int (G.2.2.2.2.2 (i + 3).toNatClampNeg), .int (G.2.2.2.2.2 (i + 4).toNatClampNeg)]) (hR : Rl f sw I) (hx : RX G I) (hb : ixs G i) (K : ∀ f1 sw1 I2, Rl f1 sw1 I2 → wp G 1000 (mt 264) 10 (LV (i + Int32.ofInt 9)) [] (147, f1, I2, RP f1 sw1) Q) : wp G 1000 (mt 264) 197 (LV i) [] (147, f, I, RP f sw) Q := by
  refine vc_law oks [(264, 10, [0, 1, 2, 3])] [1025, 1191] 120 ?_
  show ck (ixB (i + 1) (I 100301 0).toNatClampNeg) (ck (ixB (i + 2) (I 100301 0).toNatClampNeg) (ck (ixB (i + 3) (I 100301 0).toNatClampNeg) (ck (ixB (i + 4) (I 100301 0).toNatClampNeg) (wp G 999 (mt 25) 0 (en (mt 25) [.ref 0, .int (I 100300 (i + 1).toNatClampNeg), .int (I 100300 (i + 2).toNatClampNeg), .int (I 100300 (i + 3).toNatClampNeg), .int (I 100300 (i + 4).toNatClampNeg)]) [] (147, f, I, RP f sw) _))))
  simp only [hx.1, hx.2, hb 1 (by decide), hb 2 (by decide), hb 3 (by decide), hb 4 (by decide), ck]
  refine wp.mono (hC f sw I hR) ?_
  rintro r h1 ⟨x, f1, sw1, I1, rfl, rfl, hx1, hM⟩
  show ck (ixB (i + 1) (I1 100301 0).toNatClampNeg) (ck (ixB (i + 2) (I1 100301 0).toNatClampNeg) (ck (ixB (i + 3) (I1 100301 0).toNatClampNeg) (ck (ixB (i + 4) (I1 100301 0).toNatClampNeg) (wp G 999 (mt 191) 0 (en (mt 191) [.ref 93, .int (I1 100300 (i + 1).toNatClampNeg), .int (I1 100300 (i + 2).toNatClampNeg), .int (I1 100300 (i + 3).toNatClampNeg), .int (I1 100300 (i + 4).toNatClampNeg)]) [] (147, f1, I1, RP f1 sw1) _))))
  simp only [hx1.1, hx1.2, hb 1 (by decide), hb 2 (by decide), hb 3 (by decide), hb 4 (by decide), ck]
  refine wp.mono hM ?_
  rintro r h2 ⟨I2, rfl, rfl, hR2⟩
  show if x = x then wp G 1000 (mt 264) 10 (LV (i + Int32.ofInt 9)) [] (147, f1, I2, RP f1 sw1) Q else _
  rw [if_pos rfl]
  exact K f1 sw1 I2 hR2

-- WreckCourt.tide
set_option maxRecDepth 100000 in
set_option maxHeartbeats 4000000 in
theorem law_6 {G : GX} {f : Nat} {sw : Bool} {I : Nat → Nat → Int32} {i : Int32} {Q : Option Value → Hp → Prop} {Rl : Nat → Bool → (Nat → Nat → Int32) → Prop} (hC : CO Rl G 31 194 [.int (G.2.2.2.2.2 (i + 1).toNatClampNeg), .int (G.2.2.2.2.2 (i + 2).toNatClampNeg), .int (G.2.2.2.2.2 (i + 3).toNatClampNeg), .int (G.2.2.2.2.2 (i + 4).toNatClampNeg)]) (hR : Rl f sw I) (hx : RX G I) (hb : ixs G i) (K : ∀ f1 sw1 I2, Rl f1 sw1 I2 → wp G 1000 (mt 264) 10 (LV (i + Int32.ofInt 9)) [] (147, f1, I2, RP f1 sw1) Q) : wp G 1000 (mt 264) 244 (LV i) [] (147, f, I, RP f sw) Q := by
  refine vc_law oks [(264, 10, [0, 1, 2, 3])] [1031, 1194] 120 ?_
  show ck (ixB (i + 1) (I 100301 0).toNatClampNeg) (ck (ixB (i + 2) (I 100301 0).toNatClampNeg) (ck (ixB (i + 3) (I 100301 0).toNatClampNeg) (ck (ixB (i + 4) (I 100301 0).toNatClampNeg) (wp G 999 (mt 31) 0 (en (mt 31) [.ref 0, .int (I 100300 (i + 1).toNatClampNeg), .int (I 100300 (i + 2).toNatClampNeg), .int (I 100300 (i + 3).toNatClampNeg), .int (I 100300 (i + 4).toNatClampNeg)]) [] (147, f, I, RP f sw) _))))
  simp only [hx.1, hx.2, hb 1 (by decide), hb 2 (by decide), hb 3 (by decide), hb 4 (by decide), ck]
  refine wp.mono (hC f sw I hR) ?_
  rintro r h1 ⟨x, f1, sw1, I1, rfl, rfl, hx1, hM⟩
  show ck (ixB (i + 1) (I1 100301 0).toNatClampNeg) (ck (ixB (i + 2) (I1 100301 0).toNatClampNeg) (ck (ixB (i + 3) (I1 100301 0).toNatClampNeg) (ck (ixB (i + 4) (I1 100301 0).toNatClampNeg) (wp G 999 (mt 194) 0 (en (mt 194) [.ref 93, .int (I1 100300 (i + 1).toNatClampNeg), .int (I1 100300 (i + 2).toNatClampNeg), .int (I1 100300 (i + 3).toNatClampNeg), .int (I1 100300 (i + 4).toNatClampNeg)]) [] (147, f1, I1, RP f1 sw1) _))))
  simp only [hx1.1, hx1.2, hb 1 (by decide), hb 2 (by decide), hb 3 (by decide), hb 4 (by decide), ck]
  refine wp.mono hM ?_
  rintro r h2 ⟨I2, rfl, rfl, hR2⟩
  show if x = x then wp G 1000 (mt 264) 10 (LV (i + Int32.ofInt 9)) [] (147, f1, I2, RP f1 sw1) Q else _
  rw [if_pos rfl]
  exact K f1 sw1 I2 hR2

-- WreckCourt.dark
set_option maxRecDepth 100000 in
set_option maxHeartbeats 4000000 in
theorem law_7 {G : GX} {f : Nat} {sw : Bool} {I : Nat → Nat → Int32} {i : Int32} {Q : Option Value → Hp → Prop} {Rl : Nat → Bool → (Nat → Nat → Int32) → Prop} (hC : CO Rl G 34 195 [.int (G.2.2.2.2.2 (i + 1).toNatClampNeg), .int (G.2.2.2.2.2 (i + 2).toNatClampNeg), .int (G.2.2.2.2.2 (i + 3).toNatClampNeg)]) (hR : Rl f sw I) (hx : RX G I) (hb : ixs G i) (K : ∀ f1 sw1 I2, Rl f1 sw1 I2 → wp G 1000 (mt 264) 10 (LV (i + Int32.ofInt 9)) [] (147, f1, I2, RP f1 sw1) Q) : wp G 1000 (mt 264) 291 (LV i) [] (147, f, I, RP f sw) Q := by
  refine vc_law oks [(264, 10, [0, 1, 2, 3])] [1034, 1195] 120 ?_
  show ck (ixB (i + 1) (I 100301 0).toNatClampNeg) (ck (ixB (i + 2) (I 100301 0).toNatClampNeg) (ck (ixB (i + 3) (I 100301 0).toNatClampNeg) (wp G 999 (mt 34) 0 (en (mt 34) [.ref 0, .int (I 100300 (i + 1).toNatClampNeg), .int (I 100300 (i + 2).toNatClampNeg), .int (I 100300 (i + 3).toNatClampNeg)]) [] (147, f, I, RP f sw) _)))
  simp only [hx.1, hx.2, hb 1 (by decide), hb 2 (by decide), hb 3 (by decide), ck]
  refine wp.mono (hC f sw I hR) ?_
  rintro r h1 ⟨x, f1, sw1, I1, rfl, rfl, hx1, hM⟩
  show ck (ixB (i + 1) (I1 100301 0).toNatClampNeg) (ck (ixB (i + 2) (I1 100301 0).toNatClampNeg) (ck (ixB (i + 3) (I1 100301 0).toNatClampNeg) (wp G 999 (mt 195) 0 (en (mt 195) [.ref 93, .int (I1 100300 (i + 1).toNatClampNeg), .int (I1 100300 (i + 2).toNatClampNeg), .int (I1 100300 (i + 3).toNatClampNeg)]) [] (147, f1, I1, RP f1 sw1) _)))
  simp only [hx1.1, hx1.2, hb 1 (by decide), hb 2 (by decide), hb 3 (by decide), ck]
  refine wp.mono hM ?_
  rintro r h2 ⟨I2, rfl, rfl, hR2⟩
  show if x = x then wp G 1000 (mt 264) 10 (LV (i + Int32.ofInt 9)) [] (147, f1, I2, RP f1 sw1) Q else _
  rw [if_pos rfl]
  exact K f1 sw1 I2 hR2

-- WreckCourt.where
set_option maxRecDepth 100000 in
set_option maxHeartbeats 4000000 in
theorem law_8 {G : GX} {f : Nat} {sw : Bool} {I : Nat → Nat → Int32} {i : Int32} {Q : Option Value → Hp → Prop} {Rl : Nat → Bool → (Nat → Nat → Int32) → Prop} (hC : CO Rl G 38 196 [.int (G.2.2.2.2.2 (i + 1).toNatClampNeg), .int (G.2.2.2.2.2 (i + 2).toNatClampNeg), .int (G.2.2.2.2.2 (i + 3).toNatClampNeg)]) (hR : Rl f sw I) (hx : RX G I) (hb : ixs G i) (K : ∀ f1 sw1 I2, Rl f1 sw1 I2 → wp G 1000 (mt 264) 10 (LV (i + Int32.ofInt 9)) [] (147, f1, I2, RP f1 sw1) Q) : wp G 1000 (mt 264) 328 (LV i) [] (147, f, I, RP f sw) Q := by
  refine vc_law oks [(264, 10, [0, 1, 2, 3])] [1038, 1196] 120 ?_
  show ck (ixB (i + 1) (I 100301 0).toNatClampNeg) (ck (ixB (i + 2) (I 100301 0).toNatClampNeg) (ck (ixB (i + 3) (I 100301 0).toNatClampNeg) (wp G 999 (mt 38) 0 (en (mt 38) [.ref 0, .int (I 100300 (i + 1).toNatClampNeg), .int (I 100300 (i + 2).toNatClampNeg), .int (I 100300 (i + 3).toNatClampNeg)]) [] (147, f, I, RP f sw) _)))
  simp only [hx.1, hx.2, hb 1 (by decide), hb 2 (by decide), hb 3 (by decide), ck]
  refine wp.mono (hC f sw I hR) ?_
  rintro r h1 ⟨x, f1, sw1, I1, rfl, rfl, hx1, hM⟩
  show ck (ixB (i + 1) (I1 100301 0).toNatClampNeg) (ck (ixB (i + 2) (I1 100301 0).toNatClampNeg) (ck (ixB (i + 3) (I1 100301 0).toNatClampNeg) (wp G 999 (mt 196) 0 (en (mt 196) [.ref 93, .int (I1 100300 (i + 1).toNatClampNeg), .int (I1 100300 (i + 2).toNatClampNeg), .int (I1 100300 (i + 3).toNatClampNeg)]) [] (147, f1, I1, RP f1 sw1) _)))
  simp only [hx1.1, hx1.2, hb 1 (by decide), hb 2 (by decide), hb 3 (by decide), ck]
  refine wp.mono hM ?_
  rintro r h2 ⟨I2, rfl, rfl, hR2⟩
  show if x = x then wp G 1000 (mt 264) 10 (LV (i + Int32.ofInt 9)) [] (147, f1, I2, RP f1 sw1) Q else _
  rw [if_pos rfl]
  exact K f1 sw1 I2 hR2

-- WreckCourt.nearest
set_option maxRecDepth 100000 in
set_option maxHeartbeats 4000000 in
theorem law_9 {G : GX} {f : Nat} {sw : Bool} {I : Nat → Nat → Int32} {i : Int32} {Q : Option Value → Hp → Prop} {Rl : Nat → Bool → (Nat → Nat → Int32) → Prop} (hC : CO Rl G 52 205 [.int (G.2.2.2.2.2 (i + 1).toNatClampNeg), .int (G.2.2.2.2.2 (i + 2).toNatClampNeg), .int (G.2.2.2.2.2 (i + 3).toNatClampNeg)]) (hR : Rl f sw I) (hx : RX G I) (hb : ixs G i) (K : ∀ f1 sw1 I2, Rl f1 sw1 I2 → wp G 1000 (mt 264) 10 (LV (i + Int32.ofInt 9)) [] (147, f1, I2, RP f1 sw1) Q) : wp G 1000 (mt 264) 365 (LV i) [] (147, f, I, RP f sw) Q := by
  refine vc_law oks [(264, 10, [0, 1, 2, 3])] [1052, 1205] 120 ?_
  show ck (ixB (i + 1) (I 100301 0).toNatClampNeg) (ck (ixB (i + 2) (I 100301 0).toNatClampNeg) (ck (ixB (i + 3) (I 100301 0).toNatClampNeg) (wp G 999 (mt 52) 0 (en (mt 52) [.ref 0, .int (I 100300 (i + 1).toNatClampNeg), .int (I 100300 (i + 2).toNatClampNeg), .int (I 100300 (i + 3).toNatClampNeg)]) [] (147, f, I, RP f sw) _)))
  simp only [hx.1, hx.2, hb 1 (by decide), hb 2 (by decide), hb 3 (by decide), ck]
  refine wp.mono (hC f sw I hR) ?_
  rintro r h1 ⟨x, f1, sw1, I1, rfl, rfl, hx1, hM⟩
  show ck (ixB (i + 1) (I1 100301 0).toNatClampNeg) (ck (ixB (i + 2) (I1 100301 0).toNatClampNeg) (ck (ixB (i + 3) (I1 100301 0).toNatClampNeg) (wp G 999 (mt 205) 0 (en (mt 205) [.ref 93, .int (I1 100300 (i + 1).toNatClampNeg), .int (I1 100300 (i + 2).toNatClampNeg), .int (I1 100300 (i + 3).toNatClampNeg)]) [] (147, f1, I1, RP f1 sw1) _)))
  simp only [hx1.1, hx1.2, hb 1 (by decide), hb 2 (by decide), hb 3 (by decide), ck]
  refine wp.mono hM ?_
  rintro r h2 ⟨I2, rfl, rfl, hR2⟩
  show if x = x then wp G 1000 (mt 264) 10 (LV (i + Int32.ofInt 9)) [] (147, f1, I2, RP f1 sw1) Q else _
  rw [if_pos rfl]
  exact K f1 sw1 I2 hR2

-- WreckCourt.hull
set_option maxRecDepth 100000 in
set_option maxHeartbeats 4000000 in
theorem law_10 {G : GX} {f : Nat} {sw : Bool} {I : Nat → Nat → Int32} {i : Int32} {Q : Option Value → Hp → Prop} {Rl : Nat → Bool → (Nat → Nat → Int32) → Prop} (hC : CO Rl G 54 206 [.int (G.2.2.2.2.2 (i + 1).toNatClampNeg), .int (G.2.2.2.2.2 (i + 2).toNatClampNeg)]) (hR : Rl f sw I) (hx : RX G I) (hb : ixs G i) (K : ∀ f1 sw1 I2, Rl f1 sw1 I2 → wp G 1000 (mt 264) 10 (LV (i + Int32.ofInt 9)) [] (147, f1, I2, RP f1 sw1) Q) : wp G 1000 (mt 264) 402 (LV i) [] (147, f, I, RP f sw) Q := by
  refine vc_law oks [(264, 10, [0, 1, 2, 3])] [1054, 1206] 120 ?_
  show ck (ixB (i + 1) (I 100301 0).toNatClampNeg) (ck (ixB (i + 2) (I 100301 0).toNatClampNeg) (wp G 999 (mt 54) 0 (en (mt 54) [.ref 0, .int (I 100300 (i + 1).toNatClampNeg), .int (I 100300 (i + 2).toNatClampNeg)]) [] (147, f, I, RP f sw) _))
  simp only [hx.1, hx.2, hb 1 (by decide), hb 2 (by decide), ck]
  refine wp.mono (hC f sw I hR) ?_
  rintro r h1 ⟨x, f1, sw1, I1, rfl, rfl, hx1, hM⟩
  show ck (ixB (i + 1) (I1 100301 0).toNatClampNeg) (ck (ixB (i + 2) (I1 100301 0).toNatClampNeg) (wp G 999 (mt 206) 0 (en (mt 206) [.ref 93, .int (I1 100300 (i + 1).toNatClampNeg), .int (I1 100300 (i + 2).toNatClampNeg)]) [] (147, f1, I1, RP f1 sw1) _))
  simp only [hx1.1, hx1.2, hb 1 (by decide), hb 2 (by decide), ck]
  refine wp.mono hM ?_
  rintro r h2 ⟨I2, rfl, rfl, hR2⟩
  show if x = x then wp G 1000 (mt 264) 10 (LV (i + Int32.ofInt 9)) [] (147, f1, I2, RP f1 sw1) Q else _
  rw [if_pos rfl]
  exact K f1 sw1 I2 hR2

-- WreckCourt.door
set_option maxRecDepth 100000 in
set_option maxHeartbeats 4000000 in
theorem law_11 {G : GX} {f : Nat} {sw : Bool} {I : Nat → Nat → Int32} {i : Int32} {Q : Option Value → Hp → Prop} {Rl : Nat → Bool → (Nat → Nat → Int32) → Prop} (hC : CO Rl G 59 207 [.int (G.2.2.2.2.2 (i + 1).toNatClampNeg), .int (G.2.2.2.2.2 (i + 2).toNatClampNeg), .int (G.2.2.2.2.2 (i + 3).toNatClampNeg)]) (hR : Rl f sw I) (hx : RX G I) (hb : ixs G i) (K : ∀ f1 sw1 I2, Rl f1 sw1 I2 → wp G 1000 (mt 264) 10 (LV (i + Int32.ofInt 9)) [] (147, f1, I2, RP f1 sw1) Q) : wp G 1000 (mt 264) 429 (LV i) [] (147, f, I, RP f sw) Q := by
  refine vc_law oks [(264, 10, [0, 1, 2, 3])] [1059, 1207] 120 ?_
  show ck (ixB (i + 1) (I 100301 0).toNatClampNeg) (ck (ixB (i + 2) (I 100301 0).toNatClampNeg) (ck (ixB (i + 3) (I 100301 0).toNatClampNeg) (wp G 999 (mt 59) 0 (en (mt 59) [.ref 0, .int (I 100300 (i + 1).toNatClampNeg), .int (I 100300 (i + 2).toNatClampNeg), .int (I 100300 (i + 3).toNatClampNeg)]) [] (147, f, I, RP f sw) _)))
  simp only [hx.1, hx.2, hb 1 (by decide), hb 2 (by decide), hb 3 (by decide), ck]
  refine wp.mono (hC f sw I hR) ?_
  rintro r h1 ⟨x, f1, sw1, I1, rfl, rfl, hx1, hM⟩
  show ck (ixB (i + 1) (I1 100301 0).toNatClampNeg) (ck (ixB (i + 2) (I1 100301 0).toNatClampNeg) (ck (ixB (i + 3) (I1 100301 0).toNatClampNeg) (wp G 999 (mt 207) 0 (en (mt 207) [.ref 93, .int (I1 100300 (i + 1).toNatClampNeg), .int (I1 100300 (i + 2).toNatClampNeg), .int (I1 100300 (i + 3).toNatClampNeg)]) [] (147, f1, I1, RP f1 sw1) _)))
  simp only [hx1.1, hx1.2, hb 1 (by decide), hb 2 (by decide), hb 3 (by decide), ck]
  refine wp.mono hM ?_
  rintro r h2 ⟨I2, rfl, rfl, hR2⟩
  show if x = x then wp G 1000 (mt 264) 10 (LV (i + Int32.ofInt 9)) [] (147, f1, I2, RP f1 sw1) Q else _
  rw [if_pos rfl]
  exact K f1 sw1 I2 hR2

-- WreckCourt.hole
set_option maxRecDepth 100000 in
set_option maxHeartbeats 4000000 in
theorem law_12 {G : GX} {f : Nat} {sw : Bool} {I : Nat → Nat → Int32} {i : Int32} {Q : Option Value → Hp → Prop} {Rl : Nat → Bool → (Nat → Nat → Int32) → Prop} (hC : CO Rl G 62 208 [.int (G.2.2.2.2.2 (i + 1).toNatClampNeg), .int (G.2.2.2.2.2 (i + 2).toNatClampNeg), .int (G.2.2.2.2.2 (i + 3).toNatClampNeg)]) (hR : Rl f sw I) (hx : RX G I) (hb : ixs G i) (K : ∀ f1 sw1 I2, Rl f1 sw1 I2 → wp G 1000 (mt 264) 10 (LV (i + Int32.ofInt 9)) [] (147, f1, I2, RP f1 sw1) Q) : wp G 1000 (mt 264) 466 (LV i) [] (147, f, I, RP f sw) Q := by
  refine vc_law oks [(264, 10, [0, 1, 2, 3])] [1062, 1208] 120 ?_
  show ck (ixB (i + 1) (I 100301 0).toNatClampNeg) (ck (ixB (i + 2) (I 100301 0).toNatClampNeg) (ck (ixB (i + 3) (I 100301 0).toNatClampNeg) (wp G 999 (mt 62) 0 (en (mt 62) [.ref 0, .int (I 100300 (i + 1).toNatClampNeg), .int (I 100300 (i + 2).toNatClampNeg), .int (I 100300 (i + 3).toNatClampNeg)]) [] (147, f, I, RP f sw) _)))
  simp only [hx.1, hx.2, hb 1 (by decide), hb 2 (by decide), hb 3 (by decide), ck]
  refine wp.mono (hC f sw I hR) ?_
  rintro r h1 ⟨x, f1, sw1, I1, rfl, rfl, hx1, hM⟩
  show ck (ixB (i + 1) (I1 100301 0).toNatClampNeg) (ck (ixB (i + 2) (I1 100301 0).toNatClampNeg) (ck (ixB (i + 3) (I1 100301 0).toNatClampNeg) (wp G 999 (mt 208) 0 (en (mt 208) [.ref 93, .int (I1 100300 (i + 1).toNatClampNeg), .int (I1 100300 (i + 2).toNatClampNeg), .int (I1 100300 (i + 3).toNatClampNeg)]) [] (147, f1, I1, RP f1 sw1) _)))
  simp only [hx1.1, hx1.2, hb 1 (by decide), hb 2 (by decide), hb 3 (by decide), ck]
  refine wp.mono hM ?_
  rintro r h2 ⟨I2, rfl, rfl, hR2⟩
  show if x = x then wp G 1000 (mt 264) 10 (LV (i + Int32.ofInt 9)) [] (147, f1, I2, RP f1 sw1) Q else _
  rw [if_pos rfl]
  exact K f1 sw1 I2 hR2

-- WreckCourt.water
set_option maxRecDepth 100000 in
set_option maxHeartbeats 4000000 in
theorem law_13 {G : GX} {f : Nat} {sw : Bool} {I : Nat → Nat → Int32} {i : Int32} {Q : Option Value → Hp → Prop} {Rl : Nat → Bool → (Nat → Nat → Int32) → Prop} (hC : CO Rl G 64 209 [.int (G.2.2.2.2.2 (i + 1).toNatClampNeg), .int (G.2.2.2.2.2 (i + 2).toNatClampNeg)]) (hR : Rl f sw I) (hx : RX G I) (hb : ixs G i) (K : ∀ f1 sw1 I2, Rl f1 sw1 I2 → wp G 1000 (mt 264) 10 (LV (i + Int32.ofInt 9)) [] (147, f1, I2, RP f1 sw1) Q) : wp G 1000 (mt 264) 503 (LV i) [] (147, f, I, RP f sw) Q := by
  refine vc_law oks [(264, 10, [0, 1, 2, 3])] [1064, 1209] 120 ?_
  show ck (ixB (i + 1) (I 100301 0).toNatClampNeg) (ck (ixB (i + 2) (I 100301 0).toNatClampNeg) (wp G 999 (mt 64) 0 (en (mt 64) [.ref 0, .int (I 100300 (i + 1).toNatClampNeg), .int (I 100300 (i + 2).toNatClampNeg)]) [] (147, f, I, RP f sw) _))
  simp only [hx.1, hx.2, hb 1 (by decide), hb 2 (by decide), ck]
  refine wp.mono (hC f sw I hR) ?_
  rintro r h1 ⟨x, f1, sw1, I1, rfl, rfl, hx1, hM⟩
  show ck (ixB (i + 1) (I1 100301 0).toNatClampNeg) (ck (ixB (i + 2) (I1 100301 0).toNatClampNeg) (wp G 999 (mt 209) 0 (en (mt 209) [.ref 93, .int (I1 100300 (i + 1).toNatClampNeg), .int (I1 100300 (i + 2).toNatClampNeg)]) [] (147, f1, I1, RP f1 sw1) _))
  simp only [hx1.1, hx1.2, hb 1 (by decide), hb 2 (by decide), ck]
  refine wp.mono hM ?_
  rintro r h2 ⟨I2, rfl, rfl, hR2⟩
  show if x = x then wp G 1000 (mt 264) 10 (LV (i + Int32.ofInt 9)) [] (147, f1, I2, RP f1 sw1) Q else _
  rw [if_pos rfl]
  exact K f1 sw1 I2 hR2

-- WreckCourt.sinks
set_option maxRecDepth 100000 in
set_option maxHeartbeats 4000000 in
theorem law_14 {G : GX} {f : Nat} {sw : Bool} {I : Nat → Nat → Int32} {i : Int32} {Q : Option Value → Hp → Prop} {Rl : Nat → Bool → (Nat → Nat → Int32) → Prop} (hC : CO Rl G 75 214 []) (hR : Rl f sw I) (hx : RX G I) (K : ∀ f1 sw1 I2, Rl f1 sw1 I2 → wp G 1000 (mt 264) 10 (LV (i + Int32.ofInt 9)) [] (147, f1, I2, RP f1 sw1) Q) : wp G 1000 (mt 264) 530 (LV i) [] (147, f, I, RP f sw) Q := by
  refine vc_law oks [(264, 10, [0, 1, 2, 3])] [1075, 1214] 120 ?_
  show wp G 999 (mt 75) 0 (en (mt 75) [.ref 0]) [] (147, f, I, RP f sw) _
  refine wp.mono (hC f sw I hR) ?_
  rintro r h1 ⟨x, f1, sw1, I1, rfl, rfl, hx1, hM⟩
  show wp G 999 (mt 214) 0 (en (mt 214) [.ref 93]) [] (147, f1, I1, RP f1 sw1) _
  refine wp.mono hM ?_
  rintro r h2 ⟨I2, rfl, rfl, hR2⟩
  show if x = x then wp G 1000 (mt 264) 10 (LV (i + Int32.ofInt 9)) [] (147, f1, I2, RP f1 sw1) Q else _
  rw [if_pos rfl]
  exact K f1 sw1 I2 hR2

-- WreckCourt.other
set_option maxRecDepth 100000 in
set_option maxHeartbeats 4000000 in
theorem law_15 {G : GX} {f : Nat} {sw : Bool} {I : Nat → Nat → Int32} {i : Int32} {Q : Option Value → Hp → Prop} {Rl : Nat → Bool → (Nat → Nat → Int32) → Prop} (hC : CO Rl G 77 216 [.int (G.2.2.2.2.2 (i + 1).toNatClampNeg), .int (G.2.2.2.2.2 (i + 2).toNatClampNeg)]) (hR : Rl f sw I) (hx : RX G I) (hb : ixs G i) (K : ∀ f1 sw1 I2, Rl f1 sw1 I2 → wp G 1000 (mt 264) 10 (LV (i + Int32.ofInt 9)) [] (147, f1, I2, RP f1 sw1) Q) : wp G 1000 (mt 264) 537 (LV i) [] (147, f, I, RP f sw) Q := by
  refine vc_law oks [(264, 10, [0, 1, 2, 3])] [1077, 1216] 120 ?_
  show ck (ixB (i + 1) (I 100301 0).toNatClampNeg) (ck (ixB (i + 2) (I 100301 0).toNatClampNeg) (wp G 999 (mt 77) 0 (en (mt 77) [.ref 0, .int (I 100300 (i + 1).toNatClampNeg), .int (I 100300 (i + 2).toNatClampNeg)]) [] (147, f, I, RP f sw) _))
  simp only [hx.1, hx.2, hb 1 (by decide), hb 2 (by decide), ck]
  refine wp.mono (hC f sw I hR) ?_
  rintro r h1 ⟨x, f1, sw1, I1, rfl, rfl, hx1, hM⟩
  show ck (ixB (i + 1) (I1 100301 0).toNatClampNeg) (ck (ixB (i + 2) (I1 100301 0).toNatClampNeg) (wp G 999 (mt 216) 0 (en (mt 216) [.ref 93, .int (I1 100300 (i + 1).toNatClampNeg), .int (I1 100300 (i + 2).toNatClampNeg)]) [] (147, f1, I1, RP f1 sw1) _))
  simp only [hx1.1, hx1.2, hb 1 (by decide), hb 2 (by decide), ck]
  refine wp.mono hM ?_
  rintro r h2 ⟨I2, rfl, rfl, hR2⟩
  show if x = x then wp G 1000 (mt 264) 10 (LV (i + Int32.ofInt 9)) [] (147, f1, I2, RP f1 sw1) Q else _
  rw [if_pos rfl]
  exact K f1 sw1 I2 hR2

-- WreckCourt.fact
set_option maxRecDepth 100000 in
set_option maxHeartbeats 4000000 in
theorem law_16 {G : GX} {f : Nat} {sw : Bool} {I : Nat → Nat → Int32} {i : Int32} {Q : Option Value → Hp → Prop} {Rl : Nat → Bool → (Nat → Nat → Int32) → Prop} (hC : CO Rl G 79 217 [.int (G.2.2.2.2.2 (i + 1).toNatClampNeg), .int (G.2.2.2.2.2 (i + 2).toNatClampNeg), .int (G.2.2.2.2.2 (i + 3).toNatClampNeg), .int (G.2.2.2.2.2 (i + 4).toNatClampNeg), .int (G.2.2.2.2.2 (i + 5).toNatClampNeg), .int (G.2.2.2.2.2 (i + 6).toNatClampNeg), .int (G.2.2.2.2.2 (i + 7).toNatClampNeg), .int (G.2.2.2.2.2 (i + 8).toNatClampNeg)]) (hR : Rl f sw I) (hx : RX G I) (hb : ixs G i) (K : ∀ f1 sw1 I2, Rl f1 sw1 I2 → wp G 1000 (mt 264) 10 (LV (i + Int32.ofInt 9)) [] (147, f1, I2, RP f1 sw1) Q) : wp G 1000 (mt 264) 564 (LV i) [] (147, f, I, RP f sw) Q := by
  refine vc_law oks [(264, 10, [0, 1, 2, 3])] [1079, 1217] 120 ?_
  show ck (ixB (i + 1) (I 100301 0).toNatClampNeg) (ck (ixB (i + 2) (I 100301 0).toNatClampNeg) (ck (ixB (i + 3) (I 100301 0).toNatClampNeg) (ck (ixB (i + 4) (I 100301 0).toNatClampNeg) (ck (ixB (i + 5) (I 100301 0).toNatClampNeg) (ck (ixB (i + 6) (I 100301 0).toNatClampNeg) (ck (ixB (i + 7) (I 100301 0).toNatClampNeg) (ck (ixB (i + 8) (I 100301 0).toNatClampNeg) (wp G 999 (mt 79) 0 (en (mt 79) [.ref 0, .int (I 100300 (i + 1).toNatClampNeg), .int (I 100300 (i + 2).toNatClampNeg), .int (I 100300 (i + 3).toNatClampNeg), .int (I 100300 (i + 4).toNatClampNeg), .int (I 100300 (i + 5).toNatClampNeg), .int (I 100300 (i + 6).toNatClampNeg), .int (I 100300 (i + 7).toNatClampNeg), .int (I 100300 (i + 8).toNatClampNeg)]) [] (147, f, I, RP f sw) _))))))))
  simp only [hx.1, hx.2, hb 1 (by decide), hb 2 (by decide), hb 3 (by decide), hb 4 (by decide), hb 5 (by decide), hb 6 (by decide), hb 7 (by decide), hb 8 (by decide), ck]
  refine wp.mono (hC f sw I hR) ?_
  rintro r h1 ⟨x, f1, sw1, I1, rfl, rfl, hx1, hM⟩
  show ck (ixB (i + 1) (I1 100301 0).toNatClampNeg) (ck (ixB (i + 2) (I1 100301 0).toNatClampNeg) (ck (ixB (i + 3) (I1 100301 0).toNatClampNeg) (ck (ixB (i + 4) (I1 100301 0).toNatClampNeg) (ck (ixB (i + 5) (I1 100301 0).toNatClampNeg) (ck (ixB (i + 6) (I1 100301 0).toNatClampNeg) (ck (ixB (i + 7) (I1 100301 0).toNatClampNeg) (ck (ixB (i + 8) (I1 100301 0).toNatClampNeg) (wp G 999 (mt 217) 0 (en (mt 217) [.ref 93, .int (I1 100300 (i + 1).toNatClampNeg), .int (I1 100300 (i + 2).toNatClampNeg), .int (I1 100300 (i + 3).toNatClampNeg), .int (I1 100300 (i + 4).toNatClampNeg), .int (I1 100300 (i + 5).toNatClampNeg), .int (I1 100300 (i + 6).toNatClampNeg), .int (I1 100300 (i + 7).toNatClampNeg), .int (I1 100300 (i + 8).toNatClampNeg)]) [] (147, f1, I1, RP f1 sw1) _))))))))
  simp only [hx1.1, hx1.2, hb 1 (by decide), hb 2 (by decide), hb 3 (by decide), hb 4 (by decide), hb 5 (by decide), hb 6 (by decide), hb 7 (by decide), hb 8 (by decide), ck]
  refine wp.mono hM ?_
  rintro r h2 ⟨I2, rfl, rfl, hR2⟩
  show if x = x then wp G 1000 (mt 264) 10 (LV (i + Int32.ofInt 9)) [] (147, f1, I2, RP f1 sw1) Q else _
  rw [if_pos rfl]
  exact K f1 sw1 I2 hR2

-- WreckCourt.withdraw
set_option maxRecDepth 100000 in
set_option maxHeartbeats 4000000 in
theorem law_17 {G : GX} {f : Nat} {sw : Bool} {I : Nat → Nat → Int32} {i : Int32} {Q : Option Value → Hp → Prop} {Rl : Nat → Bool → (Nat → Nat → Int32) → Prop} (hC : CO Rl G 86 219 [.int (G.2.2.2.2.2 (i + 1).toNatClampNeg), .int (G.2.2.2.2.2 (i + 2).toNatClampNeg)]) (hR : Rl f sw I) (hx : RX G I) (hb : ixs G i) (K : ∀ f1 sw1 I2, Rl f1 sw1 I2 → wp G 1000 (mt 264) 10 (LV (i + Int32.ofInt 9)) [] (147, f1, I2, RP f1 sw1) Q) : wp G 1000 (mt 264) 651 (LV i) [] (147, f, I, RP f sw) Q := by
  refine vc_law oks [(264, 10, [0, 1, 2, 3])] [1086, 1219] 120 ?_
  show ck (ixB (i + 1) (I 100301 0).toNatClampNeg) (ck (ixB (i + 2) (I 100301 0).toNatClampNeg) (wp G 999 (mt 86) 0 (en (mt 86) [.ref 0, .int (I 100300 (i + 1).toNatClampNeg), .int (I 100300 (i + 2).toNatClampNeg)]) [] (147, f, I, RP f sw) _))
  simp only [hx.1, hx.2, hb 1 (by decide), hb 2 (by decide), ck]
  refine wp.mono (hC f sw I hR) ?_
  rintro r h1 ⟨x, f1, sw1, I1, rfl, rfl, hx1, hM⟩
  show ck (ixB (i + 1) (I1 100301 0).toNatClampNeg) (ck (ixB (i + 2) (I1 100301 0).toNatClampNeg) (wp G 999 (mt 219) 0 (en (mt 219) [.ref 93, .int (I1 100300 (i + 1).toNatClampNeg), .int (I1 100300 (i + 2).toNatClampNeg)]) [] (147, f1, I1, RP f1 sw1) _))
  simp only [hx1.1, hx1.2, hb 1 (by decide), hb 2 (by decide), ck]
  refine wp.mono hM ?_
  rintro r h2 ⟨I2, rfl, rfl, hR2⟩
  show if x = x then wp G 1000 (mt 264) 10 (LV (i + Int32.ofInt 9)) [] (147, f1, I2, RP f1 sw1) Q else _
  rw [if_pos rfl]
  exact K f1 sw1 I2 hR2

-- WreckCourt.quarrel
set_option maxRecDepth 100000 in
set_option maxHeartbeats 4000000 in
theorem law_18 {G : GX} {f : Nat} {sw : Bool} {I : Nat → Nat → Int32} {i : Int32} {Q : Option Value → Hp → Prop} {Rl : Nat → Bool → (Nat → Nat → Int32) → Prop} (hC : CO Rl G 90 222 [.int (G.2.2.2.2.2 (i + 1).toNatClampNeg), .int (G.2.2.2.2.2 (i + 2).toNatClampNeg), .int (G.2.2.2.2.2 (i + 3).toNatClampNeg), .int (G.2.2.2.2.2 (i + 4).toNatClampNeg), .int (G.2.2.2.2.2 (i + 5).toNatClampNeg)]) (hR : Rl f sw I) (hx : RX G I) (hb : ixs G i) (K : ∀ f1 sw1 I2, Rl f1 sw1 I2 → wp G 1000 (mt 264) 10 (LV (i + Int32.ofInt 9)) [] (147, f1, I2, RP f1 sw1) Q) : wp G 1000 (mt 264) 678 (LV i) [] (147, f, I, RP f sw) Q := by
  refine vc_law oks [(264, 10, [0, 1, 2, 3])] [1090, 1222] 120 ?_
  show ck (ixB (i + 1) (I 100301 0).toNatClampNeg) (ck (ixB (i + 2) (I 100301 0).toNatClampNeg) (ck (ixB (i + 3) (I 100301 0).toNatClampNeg) (ck (ixB (i + 4) (I 100301 0).toNatClampNeg) (ck (ixB (i + 5) (I 100301 0).toNatClampNeg) (wp G 999 (mt 90) 0 (en (mt 90) [.ref 0, .int (I 100300 (i + 1).toNatClampNeg), .int (I 100300 (i + 2).toNatClampNeg), .int (I 100300 (i + 3).toNatClampNeg), .int (I 100300 (i + 4).toNatClampNeg), .int (I 100300 (i + 5).toNatClampNeg)]) [] (147, f, I, RP f sw) _)))))
  simp only [hx.1, hx.2, hb 1 (by decide), hb 2 (by decide), hb 3 (by decide), hb 4 (by decide), hb 5 (by decide), ck]
  refine wp.mono (hC f sw I hR) ?_
  rintro r h1 ⟨x, f1, sw1, I1, rfl, rfl, hx1, hM⟩
  show ck (ixB (i + 1) (I1 100301 0).toNatClampNeg) (ck (ixB (i + 2) (I1 100301 0).toNatClampNeg) (ck (ixB (i + 3) (I1 100301 0).toNatClampNeg) (ck (ixB (i + 4) (I1 100301 0).toNatClampNeg) (ck (ixB (i + 5) (I1 100301 0).toNatClampNeg) (wp G 999 (mt 222) 0 (en (mt 222) [.ref 93, .int (I1 100300 (i + 1).toNatClampNeg), .int (I1 100300 (i + 2).toNatClampNeg), .int (I1 100300 (i + 3).toNatClampNeg), .int (I1 100300 (i + 4).toNatClampNeg), .int (I1 100300 (i + 5).toNatClampNeg)]) [] (147, f1, I1, RP f1 sw1) _)))))
  simp only [hx1.1, hx1.2, hb 1 (by decide), hb 2 (by decide), hb 3 (by decide), hb 4 (by decide), hb 5 (by decide), ck]
  refine wp.mono hM ?_
  rintro r h2 ⟨I2, rfl, rfl, hR2⟩
  show if x = x then wp G 1000 (mt 264) 10 (LV (i + Int32.ofInt 9)) [] (147, f1, I2, RP f1 sw1) Q else _
  rw [if_pos rfl]
  exact K f1 sw1 I2 hR2

-- WreckCourt.court
set_option maxRecDepth 100000 in
set_option maxHeartbeats 4000000 in
theorem law_19 {G : GX} {f : Nat} {sw : Bool} {I : Nat → Nat → Int32} {i : Int32} {Q : Option Value → Hp → Prop} {Rl : Nat → Bool → (Nat → Nat → Int32) → Prop} (hC : CO Rl G 96 227 [.int (G.2.2.2.2.2 (i + 1).toNatClampNeg), .int (G.2.2.2.2.2 (i + 2).toNatClampNeg)]) (hR : Rl f sw I) (hx : RX G I) (hb : ixs G i) (K : ∀ f1 sw1 I2, Rl f1 sw1 I2 → wp G 1000 (mt 264) 10 (LV (i + Int32.ofInt 9)) [] (147, f1, I2, RP f1 sw1) Q) : wp G 1000 (mt 264) 735 (LV i) [] (147, f, I, RP f sw) Q := by
  refine vc_law oks [(264, 10, [0, 1, 2, 3])] [1096, 1227] 120 ?_
  show ck (ixB (i + 1) (I 100301 0).toNatClampNeg) (ck (ixB (i + 2) (I 100301 0).toNatClampNeg) (wp G 999 (mt 96) 0 (en (mt 96) [.ref 0, .int (I 100300 (i + 1).toNatClampNeg), .int (I 100300 (i + 2).toNatClampNeg)]) [] (147, f, I, RP f sw) _))
  simp only [hx.1, hx.2, hb 1 (by decide), hb 2 (by decide), ck]
  refine wp.mono (hC f sw I hR) ?_
  rintro r h1 ⟨x, f1, sw1, I1, rfl, rfl, hx1, hM⟩
  show ck (ixB (i + 1) (I1 100301 0).toNatClampNeg) (ck (ixB (i + 2) (I1 100301 0).toNatClampNeg) (wp G 999 (mt 227) 0 (en (mt 227) [.ref 93, .int (I1 100300 (i + 1).toNatClampNeg), .int (I1 100300 (i + 2).toNatClampNeg)]) [] (147, f1, I1, RP f1 sw1) _))
  simp only [hx1.1, hx1.2, hb 1 (by decide), hb 2 (by decide), ck]
  refine wp.mono hM ?_
  rintro r h2 ⟨I2, rfl, rfl, hR2⟩
  show if x = x then wp G 1000 (mt 264) 10 (LV (i + Int32.ofInt 9)) [] (147, f1, I2, RP f1 sw1) Q else _
  rw [if_pos rfl]
  exact K f1 sw1 I2 hR2

-- WreckCourt.sure
set_option maxRecDepth 100000 in
set_option maxHeartbeats 4000000 in
theorem law_20 {G : GX} {f : Nat} {sw : Bool} {I : Nat → Nat → Int32} {i : Int32} {Q : Option Value → Hp → Prop} {Rl : Nat → Bool → (Nat → Nat → Int32) → Prop} (hC : CO Rl G 113 232 [.int (G.2.2.2.2.2 (i + 1).toNatClampNeg), .int (G.2.2.2.2.2 (i + 2).toNatClampNeg)]) (hR : Rl f sw I) (hx : RX G I) (hb : ixs G i) (K : ∀ f1 sw1 I2, Rl f1 sw1 I2 → wp G 1000 (mt 264) 10 (LV (i + Int32.ofInt 9)) [] (147, f1, I2, RP f1 sw1) Q) : wp G 1000 (mt 264) 762 (LV i) [] (147, f, I, RP f sw) Q := by
  refine vc_law oks [(264, 10, [0, 1, 2, 3])] [1113, 1232] 120 ?_
  show ck (ixB (i + 1) (I 100301 0).toNatClampNeg) (ck (ixB (i + 2) (I 100301 0).toNatClampNeg) (wp G 999 (mt 113) 0 (en (mt 113) [.ref 0, .int (I 100300 (i + 1).toNatClampNeg), .int (I 100300 (i + 2).toNatClampNeg)]) [] (147, f, I, RP f sw) _))
  simp only [hx.1, hx.2, hb 1 (by decide), hb 2 (by decide), ck]
  refine wp.mono (hC f sw I hR) ?_
  rintro r h1 ⟨x, f1, sw1, I1, rfl, rfl, hx1, hM⟩
  show ck (ixB (i + 1) (I1 100301 0).toNatClampNeg) (ck (ixB (i + 2) (I1 100301 0).toNatClampNeg) (wp G 999 (mt 232) 0 (en (mt 232) [.ref 93, .int (I1 100300 (i + 1).toNatClampNeg), .int (I1 100300 (i + 2).toNatClampNeg)]) [] (147, f1, I1, RP f1 sw1) _))
  simp only [hx1.1, hx1.2, hb 1 (by decide), hb 2 (by decide), ck]
  refine wp.mono hM ?_
  rintro r h2 ⟨I2, rfl, rfl, hR2⟩
  show if x = x then wp G 1000 (mt 264) 10 (LV (i + Int32.ofInt 9)) [] (147, f1, I2, RP f1 sw1) Q else _
  rw [if_pos rfl]
  exact K f1 sw1 I2 hR2

-- WreckCourt.feed
set_option maxRecDepth 100000 in
set_option maxHeartbeats 4000000 in
theorem law_21 {G : GX} {f : Nat} {sw : Bool} {I : Nat → Nat → Int32} {i : Int32} {Q : Option Value → Hp → Prop} {Rl : Nat → Bool → (Nat → Nat → Int32) → Prop} (hC : CO Rl G 114 233 [.long (((G.2.2.2.2.2 (i + 1).toNatClampNeg).toInt64 <<< ((32 : Int32).toInt64 &&& 63)) ||| ((G.2.2.2.2.2 (i + 2).toNatClampNeg).toInt64 &&& 4294967295)), .int (G.2.2.2.2.2 (i + 3).toNatClampNeg)]) (hR : Rl f sw I) (hx : RX G I) (hb : ixs G i) (K : ∀ f1 sw1 I2, Rl f1 sw1 I2 → wp G 1000 (mt 264) 10 (LV (i + Int32.ofInt 9)) [] (147, f1, I2, RP f1 sw1) Q) : wp G 1000 (mt 264) 789 (LV i) [] (147, f, I, RP f sw) Q := by
  refine vc_law oks [(264, 10, [0, 1, 2, 3])] [1114, 1233] 120 ?_
  show ck (ixB (i + 1) (I 100301 0).toNatClampNeg) (ck (ixB (i + 2) (I 100301 0).toNatClampNeg) (ck (ixB (i + 3) (I 100301 0).toNatClampNeg) (wp G 999 (mt 114) 0 (en (mt 114) [.ref 0, .long (((I 100300 (i + 1).toNatClampNeg).toInt64 <<< ((32 : Int32).toInt64 &&& 63)) ||| ((I 100300 (i + 2).toNatClampNeg).toInt64 &&& 4294967295)), .int (I 100300 (i + 3).toNatClampNeg)]) [] (147, f, I, RP f sw) _)))
  simp only [hx.1, hx.2, hb 1 (by decide), hb 2 (by decide), hb 3 (by decide), ck]
  refine wp.mono (hC f sw I hR) ?_
  rintro r h1 ⟨x, f1, sw1, I1, rfl, rfl, hx1, hM⟩
  show ck (ixB (i + 1) (I1 100301 0).toNatClampNeg) (ck (ixB (i + 2) (I1 100301 0).toNatClampNeg) (ck (ixB (i + 3) (I1 100301 0).toNatClampNeg) (wp G 999 (mt 233) 0 (en (mt 233) [.ref 93, .long (((I1 100300 (i + 1).toNatClampNeg).toInt64 <<< ((32 : Int32).toInt64 &&& 63)) ||| ((I1 100300 (i + 2).toNatClampNeg).toInt64 &&& 4294967295)), .int (I1 100300 (i + 3).toNatClampNeg)]) [] (147, f1, I1, RP f1 sw1) _)))
  simp only [hx1.1, hx1.2, hb 1 (by decide), hb 2 (by decide), hb 3 (by decide), ck]
  refine wp.mono hM ?_
  rintro r h2 ⟨I2, rfl, rfl, hR2⟩
  show if x = x then wp G 1000 (mt 264) 10 (LV (i + Int32.ofInt 9)) [] (147, f1, I2, RP f1 sw1) Q else _
  rw [if_pos rfl]
  exact K f1 sw1 I2 hR2

-- WreckCourt.rules
set_option maxRecDepth 100000 in
set_option maxHeartbeats 4000000 in
theorem law_22 {G : GX} {f : Nat} {sw : Bool} {I : Nat → Nat → Int32} {i : Int32} {Q : Option Value → Hp → Prop} {Rl : Nat → Bool → (Nat → Nat → Int32) → Prop} (hC : CO Rl G 116 234 []) (hR : Rl f sw I) (hx : RX G I) (K : ∀ f1 sw1 I2, Rl f1 sw1 I2 → wp G 1000 (mt 264) 10 (LV (i + Int32.ofInt 9)) [] (147, f1, I2, RP f1 sw1) Q) : wp G 1000 (mt 264) 840 (LV i) [] (147, f, I, RP f sw) Q := by
  refine vc_law oks [(264, 10, [0, 1, 2, 3])] [1116, 1234] 120 ?_
  show wp G 999 (mt 116) 0 (en (mt 116) [.ref 0]) [] (147, f, I, RP f sw) _
  refine wp.mono (hC f sw I hR) ?_
  rintro r h1 ⟨x, f1, sw1, I1, rfl, rfl, hx1, hM⟩
  show wp G 999 (mt 234) 0 (en (mt 234) [.ref 93]) [] (147, f1, I1, RP f1 sw1) _
  refine wp.mono hM ?_
  rintro r h2 ⟨I2, rfl, rfl, hR2⟩
  show if x = x then wp G 1000 (mt 264) 10 (LV (i + Int32.ofInt 9)) [] (147, f1, I2, RP f1 sw1) Q else _
  rw [if_pos rfl]
  exact K f1 sw1 I2 hR2

-- WreckCourt.fault
set_option maxRecDepth 100000 in
set_option maxHeartbeats 4000000 in
theorem law_23 {G : GX} {f : Nat} {sw : Bool} {I : Nat → Nat → Int32} {i : Int32} {Q : Option Value → Hp → Prop} {Rl : Nat → Bool → (Nat → Nat → Int32) → Prop} (hC : CO Rl G 147 245 []) (hR : Rl f sw I) (hx : RX G I) (K : ∀ f1 sw1 I2, Rl f1 sw1 I2 → wp G 1000 (mt 264) 10 (LV (i + Int32.ofInt 9)) [] (147, f1, I2, RP f1 sw1) Q) : wp G 1000 (mt 264) 847 (LV i) [] (147, f, I, RP f sw) Q := by
  refine vc_law oks [(264, 10, [0, 1, 2, 3])] [1147, 1245] 120 ?_
  show wp G 999 (mt 147) 0 (en (mt 147) [.ref 0]) [] (147, f, I, RP f sw) _
  refine wp.mono (hC f sw I hR) ?_
  rintro r h1 ⟨x, f1, sw1, I1, rfl, rfl, hx1, hM⟩
  show wp G 999 (mt 245) 0 (en (mt 245) [.ref 93]) [] (147, f1, I1, RP f1 sw1) _
  refine wp.mono hM ?_
  rintro r h2 ⟨I2, rfl, rfl, hR2⟩
  show if x = x then wp G 1000 (mt 264) 10 (LV (i + Int32.ofInt 9)) [] (147, f1, I2, RP f1 sw1) Q else _
  rw [if_pos rfl]
  exact K f1 sw1 I2 hR2

-- WreckCourt.done
set_option maxRecDepth 100000 in
set_option maxHeartbeats 4000000 in
theorem law_24 {G : GX} {f : Nat} {sw : Bool} {I : Nat → Nat → Int32} {i : Int32} {Q : Option Value → Hp → Prop} {Rl : Nat → Bool → (Nat → Nat → Int32) → Prop} (hC : CO Rl G 148 246 [.int (G.2.2.2.2.2 (i + 1).toNatClampNeg), .int (G.2.2.2.2.2 (i + 2).toNatClampNeg), .int (G.2.2.2.2.2 (i + 3).toNatClampNeg), .int (G.2.2.2.2.2 (i + 4).toNatClampNeg)]) (hR : Rl f sw I) (hx : RX G I) (hb : ixs G i) (K : ∀ f1 sw1 I2, Rl f1 sw1 I2 → wp G 1000 (mt 264) 10 (LV (i + Int32.ofInt 9)) [] (147, f1, I2, RP f1 sw1) Q) : wp G 1000 (mt 264) 854 (LV i) [] (147, f, I, RP f sw) Q := by
  refine vc_law oks [(264, 10, [0, 1, 2, 3])] [1148, 1246] 120 ?_
  show ck (ixB (i + 1) (I 100301 0).toNatClampNeg) (ck (ixB (i + 2) (I 100301 0).toNatClampNeg) (ck (ixB (i + 3) (I 100301 0).toNatClampNeg) (ck (ixB (i + 4) (I 100301 0).toNatClampNeg) (wp G 999 (mt 148) 0 (en (mt 148) [.ref 0, .int (I 100300 (i + 1).toNatClampNeg), .int (I 100300 (i + 2).toNatClampNeg), .int (I 100300 (i + 3).toNatClampNeg), .int (I 100300 (i + 4).toNatClampNeg)]) [] (147, f, I, RP f sw) _))))
  simp only [hx.1, hx.2, hb 1 (by decide), hb 2 (by decide), hb 3 (by decide), hb 4 (by decide), ck]
  refine wp.mono (hC f sw I hR) ?_
  rintro r h1 ⟨x, f1, sw1, I1, rfl, rfl, hx1, hM⟩
  show ck (ixB (i + 1) (I1 100301 0).toNatClampNeg) (ck (ixB (i + 2) (I1 100301 0).toNatClampNeg) (ck (ixB (i + 3) (I1 100301 0).toNatClampNeg) (ck (ixB (i + 4) (I1 100301 0).toNatClampNeg) (wp G 999 (mt 246) 0 (en (mt 246) [.ref 93, .int (I1 100300 (i + 1).toNatClampNeg), .int (I1 100300 (i + 2).toNatClampNeg), .int (I1 100300 (i + 3).toNatClampNeg), .int (I1 100300 (i + 4).toNatClampNeg)]) [] (147, f1, I1, RP f1 sw1) _))))
  simp only [hx1.1, hx1.2, hb 1 (by decide), hb 2 (by decide), hb 3 (by decide), hb 4 (by decide), ck]
  refine wp.mono hM ?_
  rintro r h2 ⟨I2, rfl, rfl, hR2⟩
  show if x = x then wp G 1000 (mt 264) 10 (LV (i + Int32.ofInt 9)) [] (147, f1, I2, RP f1 sw1) Q else _
  rw [if_pos rfl]
  exact K f1 sw1 I2 hR2

-- WreckCourt.owes
set_option maxRecDepth 100000 in
set_option maxHeartbeats 4000000 in
theorem law_25 {G : GX} {f : Nat} {sw : Bool} {I : Nat → Nat → Int32} {i : Int32} {Q : Option Value → Hp → Prop} {Rl : Nat → Bool → (Nat → Nat → Int32) → Prop} (hC : CO Rl G 151 247 [.int (G.2.2.2.2.2 (i + 1).toNatClampNeg), .int (G.2.2.2.2.2 (i + 2).toNatClampNeg), .int (G.2.2.2.2.2 (i + 3).toNatClampNeg)]) (hR : Rl f sw I) (hx : RX G I) (hb : ixs G i) (K : ∀ f1 sw1 I2, Rl f1 sw1 I2 → wp G 1000 (mt 264) 10 (LV (i + Int32.ofInt 9)) [] (147, f1, I2, RP f1 sw1) Q) : wp G 1000 (mt 264) 901 (LV i) [] (147, f, I, RP f sw) Q := by
  refine vc_law oks [(264, 10, [0, 1, 2, 3])] [1151, 1247] 120 ?_
  show ck (ixB (i + 1) (I 100301 0).toNatClampNeg) (ck (ixB (i + 2) (I 100301 0).toNatClampNeg) (ck (ixB (i + 3) (I 100301 0).toNatClampNeg) (wp G 999 (mt 151) 0 (en (mt 151) [.ref 0, .int (I 100300 (i + 1).toNatClampNeg), .int (I 100300 (i + 2).toNatClampNeg), .int (I 100300 (i + 3).toNatClampNeg)]) [] (147, f, I, RP f sw) _)))
  simp only [hx.1, hx.2, hb 1 (by decide), hb 2 (by decide), hb 3 (by decide), ck]
  refine wp.mono (hC f sw I hR) ?_
  rintro r h1 ⟨x, f1, sw1, I1, rfl, rfl, hx1, hM⟩
  show ck (ixB (i + 1) (I1 100301 0).toNatClampNeg) (ck (ixB (i + 2) (I1 100301 0).toNatClampNeg) (ck (ixB (i + 3) (I1 100301 0).toNatClampNeg) (wp G 999 (mt 247) 0 (en (mt 247) [.ref 93, .int (I1 100300 (i + 1).toNatClampNeg), .int (I1 100300 (i + 2).toNatClampNeg), .int (I1 100300 (i + 3).toNatClampNeg)]) [] (147, f1, I1, RP f1 sw1) _)))
  simp only [hx1.1, hx1.2, hb 1 (by decide), hb 2 (by decide), hb 3 (by decide), ck]
  refine wp.mono hM ?_
  rintro r h2 ⟨I2, rfl, rfl, hR2⟩
  show if x = x then wp G 1000 (mt 264) 10 (LV (i + Int32.ofInt 9)) [] (147, f1, I2, RP f1 sw1) Q else _
  rw [if_pos rfl]
  exact K f1 sw1 I2 hR2

-- WreckCourt.blame
set_option maxRecDepth 100000 in
set_option maxHeartbeats 4000000 in
theorem law_26 {G : GX} {f : Nat} {sw : Bool} {I : Nat → Nat → Int32} {i : Int32} {Q : Option Value → Hp → Prop} {Rl : Nat → Bool → (Nat → Nat → Int32) → Prop} (hC : CO Rl G 156 250 [.int (G.2.2.2.2.2 (i + 1).toNatClampNeg), .int (G.2.2.2.2.2 (i + 2).toNatClampNeg)]) (hR : Rl f sw I) (hx : RX G I) (hb : ixs G i) (K : ∀ f1 sw1 I2, Rl f1 sw1 I2 → wp G 1000 (mt 264) 10 (LV (i + Int32.ofInt 9)) [] (147, f1, I2, RP f1 sw1) Q) : wp G 1000 (mt 264) 938 (LV i) [] (147, f, I, RP f sw) Q := by
  refine vc_law oks [(264, 10, [0, 1, 2, 3])] [1156, 1250] 120 ?_
  show ck (ixB (i + 1) (I 100301 0).toNatClampNeg) (ck (ixB (i + 2) (I 100301 0).toNatClampNeg) (wp G 999 (mt 156) 0 (en (mt 156) [.ref 0, .int (I 100300 (i + 1).toNatClampNeg), .int (I 100300 (i + 2).toNatClampNeg)]) [] (147, f, I, RP f sw) _))
  simp only [hx.1, hx.2, hb 1 (by decide), hb 2 (by decide), ck]
  refine wp.mono (hC f sw I hR) ?_
  rintro r h1 ⟨x, f1, sw1, I1, rfl, rfl, hx1, hM⟩
  show ck (ixB (i + 1) (I1 100301 0).toNatClampNeg) (ck (ixB (i + 2) (I1 100301 0).toNatClampNeg) (wp G 999 (mt 250) 0 (en (mt 250) [.ref 93, .int (I1 100300 (i + 1).toNatClampNeg), .int (I1 100300 (i + 2).toNatClampNeg)]) [] (147, f1, I1, RP f1 sw1) _))
  simp only [hx1.1, hx1.2, hb 1 (by decide), hb 2 (by decide), ck]
  refine wp.mono hM ?_
  rintro r h2 ⟨I2, rfl, rfl, hR2⟩
  show if x = x then wp G 1000 (mt 264) 10 (LV (i + Int32.ofInt 9)) [] (147, f1, I2, RP f1 sw1) Q else _
  rw [if_pos rfl]
  exact K f1 sw1 I2 hR2

-- WreckCourt.kind
set_option maxRecDepth 100000 in
set_option maxHeartbeats 4000000 in
theorem law_27 {G : GX} {f : Nat} {sw : Bool} {I : Nat → Nat → Int32} {i : Int32} {Q : Option Value → Hp → Prop} {Rl : Nat → Bool → (Nat → Nat → Int32) → Prop} (hC : CO Rl G 159 252 [.int (G.2.2.2.2.2 (i + 1).toNatClampNeg)]) (hR : Rl f sw I) (hx : RX G I) (hb : ixs G i) (K : ∀ f1 sw1 I2, Rl f1 sw1 I2 → wp G 1000 (mt 264) 10 (LV (i + Int32.ofInt 9)) [] (147, f1, I2, RP f1 sw1) Q) : wp G 1000 (mt 264) 965 (LV i) [] (147, f, I, RP f sw) Q := by
  refine vc_law oks [(264, 10, [0, 1, 2, 3])] [1159, 1252] 120 ?_
  show ck (ixB (i + 1) (I 100301 0).toNatClampNeg) (wp G 999 (mt 159) 0 (en (mt 159) [.ref 0, .int (I 100300 (i + 1).toNatClampNeg)]) [] (147, f, I, RP f sw) _)
  simp only [hx.1, hx.2, hb 1 (by decide), ck]
  refine wp.mono (hC f sw I hR) ?_
  rintro r h1 ⟨x, f1, sw1, I1, rfl, rfl, hx1, hM⟩
  show ck (ixB (i + 1) (I1 100301 0).toNatClampNeg) (wp G 999 (mt 252) 0 (en (mt 252) [.ref 93, .int (I1 100300 (i + 1).toNatClampNeg)]) [] (147, f1, I1, RP f1 sw1) _)
  simp only [hx1.1, hx1.2, hb 1 (by decide), ck]
  refine wp.mono hM ?_
  rintro r h2 ⟨I2, rfl, rfl, hR2⟩
  show if x = x then wp G 1000 (mt 264) 10 (LV (i + Int32.ofInt 9)) [] (147, f1, I2, RP f1 sw1) Q else _
  rw [if_pos rfl]
  exact K f1 sw1 I2 hR2

-- WreckCourt.as
set_option maxRecDepth 100000 in
set_option maxHeartbeats 4000000 in
theorem law_28 {G : GX} {f : Nat} {sw : Bool} {I : Nat → Nat → Int32} {i : Int32} {Q : Option Value → Hp → Prop} {Rl : Nat → Bool → (Nat → Nat → Int32) → Prop} (hC : CO Rl G 161 254 [.int (G.2.2.2.2.2 (i + 1).toNatClampNeg), .int (G.2.2.2.2.2 (i + 2).toNatClampNeg)]) (hR : Rl f sw I) (hx : RX G I) (hb : ixs G i) (K : ∀ f1 sw1 I2, Rl f1 sw1 I2 → wp G 1000 (mt 264) 10 (LV (i + Int32.ofInt 9)) [] (147, f1, I2, RP f1 sw1) Q) : wp G 1000 (mt 264) 982 (LV i) [] (147, f, I, RP f sw) Q := by
  refine vc_law oks [(264, 10, [0, 1, 2, 3])] [1161, 1254] 120 ?_
  show ck (ixB (i + 1) (I 100301 0).toNatClampNeg) (ck (ixB (i + 2) (I 100301 0).toNatClampNeg) (wp G 999 (mt 161) 0 (en (mt 161) [.ref 0, .int (I 100300 (i + 1).toNatClampNeg), .int (I 100300 (i + 2).toNatClampNeg)]) [] (147, f, I, RP f sw) _))
  simp only [hx.1, hx.2, hb 1 (by decide), hb 2 (by decide), ck]
  refine wp.mono (hC f sw I hR) ?_
  rintro r h1 ⟨x, f1, sw1, I1, rfl, rfl, hx1, hM⟩
  show ck (ixB (i + 1) (I1 100301 0).toNatClampNeg) (ck (ixB (i + 2) (I1 100301 0).toNatClampNeg) (wp G 999 (mt 254) 0 (en (mt 254) [.ref 93, .int (I1 100300 (i + 1).toNatClampNeg), .int (I1 100300 (i + 2).toNatClampNeg)]) [] (147, f1, I1, RP f1 sw1) _))
  simp only [hx1.1, hx1.2, hb 1 (by decide), hb 2 (by decide), ck]
  refine wp.mono hM ?_
  rintro r h2 ⟨I2, rfl, rfl, hR2⟩
  show if x = x then wp G 1000 (mt 264) 10 (LV (i + Int32.ofInt 9)) [] (147, f1, I2, RP f1 sw1) Q else _
  rw [if_pos rfl]
  exact K f1 sw1 I2 hR2

-- WreckCourt.ask
set_option maxRecDepth 100000 in
set_option maxHeartbeats 4000000 in
theorem law_29 {G : GX} {f : Nat} {sw : Bool} {I : Nat → Nat → Int32} {i : Int32} {Q : Option Value → Hp → Prop} {Rl : Nat → Bool → (Nat → Nat → Int32) → Prop} (hC : CO Rl G 163 256 [.int (G.2.2.2.2.2 (i + 1).toNatClampNeg), .int (G.2.2.2.2.2 (i + 2).toNatClampNeg)]) (hR : Rl f sw I) (hx : RX G I) (hb : ixs G i) (K : ∀ f1 sw1 I2, Rl f1 sw1 I2 → wp G 1000 (mt 264) 10 (LV (i + Int32.ofInt 9)) [] (147, f1, I2, RP f1 sw1) Q) : wp G 1000 (mt 264) 1009 (LV i) [] (147, f, I, RP f sw) Q := by
  refine vc_law oks [(264, 10, [0, 1, 2, 3])] [1163, 1256] 120 ?_
  show ck (ixB (i + 1) (I 100301 0).toNatClampNeg) (ck (ixB (i + 2) (I 100301 0).toNatClampNeg) (wp G 999 (mt 163) 0 (en (mt 163) [.ref 0, .int (I 100300 (i + 1).toNatClampNeg), .int (I 100300 (i + 2).toNatClampNeg)]) [] (147, f, I, RP f sw) _))
  simp only [hx.1, hx.2, hb 1 (by decide), hb 2 (by decide), ck]
  refine wp.mono (hC f sw I hR) ?_
  rintro r h1 ⟨x, f1, sw1, I1, rfl, rfl, hx1, hM⟩
  show ck (ixB (i + 1) (I1 100301 0).toNatClampNeg) (ck (ixB (i + 2) (I1 100301 0).toNatClampNeg) (wp G 999 (mt 256) 0 (en (mt 256) [.ref 93, .int (I1 100300 (i + 1).toNatClampNeg), .int (I1 100300 (i + 2).toNatClampNeg)]) [] (147, f1, I1, RP f1 sw1) _))
  simp only [hx1.1, hx1.2, hb 1 (by decide), hb 2 (by decide), ck]
  refine wp.mono hM ?_
  rintro r h2 ⟨I2, rfl, rfl, hR2⟩
  show if x = x then wp G 1000 (mt 264) 10 (LV (i + Int32.ofInt 9)) [] (147, f1, I2, RP f1 sw1) Q else _
  rw [if_pos rfl]
  exact K f1 sw1 I2 hR2

-- WreckCourt.trace
set_option maxRecDepth 100000 in
set_option maxHeartbeats 4000000 in
theorem law_30 {G : GX} {f : Nat} {sw : Bool} {I : Nat → Nat → Int32} {i : Int32} {Q : Option Value → Hp → Prop} {Rl : Nat → Bool → (Nat → Nat → Int32) → Prop} (hC : CO Rl G 176 261 [.int (G.2.2.2.2.2 (i + 1).toNatClampNeg)]) (hR : Rl f sw I) (hx : RX G I) (hb : ixs G i) (K : ∀ f1 sw1 I2, Rl f1 sw1 I2 → wp G 1000 (mt 264) 10 (LV (i + Int32.ofInt 9)) [] (147, f1, I2, RP f1 sw1) Q) : wp G 1000 (mt 264) 1036 (LV i) [] (147, f, I, RP f sw) Q := by
  refine vc_law oks [(264, 10, [0, 1, 2, 3])] [1176, 1261] 120 ?_
  show ck (ixB (i + 1) (I 100301 0).toNatClampNeg) (wp G 999 (mt 176) 0 (en (mt 176) [.ref 0, .int (I 100300 (i + 1).toNatClampNeg)]) [] (147, f, I, RP f sw) _)
  simp only [hx.1, hx.2, hb 1 (by decide), ck]
  refine wp.mono (hC f sw I hR) ?_
  rintro r h1 ⟨x, f1, sw1, I1, rfl, rfl, hx1, hM⟩
  show ck (ixB (i + 1) (I1 100301 0).toNatClampNeg) (wp G 999 (mt 261) 0 (en (mt 261) [.ref 93, .int (I1 100300 (i + 1).toNatClampNeg)]) [] (147, f1, I1, RP f1 sw1) _)
  simp only [hx1.1, hx1.2, hb 1 (by decide), ck]
  refine wp.mono hM ?_
  rintro r h2 ⟨I2, rfl, rfl, hR2⟩
  show if x = x then wp G 1000 (mt 264) 10 (LV (i + Int32.ofInt 9)) [] (147, f1, I2, RP f1 sw1) Q else _
  rw [if_pos rfl]
  exact K f1 sw1 I2 hR2

-- WreckCourt.count
set_option maxRecDepth 100000 in
set_option maxHeartbeats 4000000 in
theorem law_31 {G : GX} {f : Nat} {sw : Bool} {I : Nat → Nat → Int32} {i : Int32} {Q : Option Value → Hp → Prop} {Rl : Nat → Bool → (Nat → Nat → Int32) → Prop} (hC : CO Rl G 177 262 [.int (G.2.2.2.2.2 (i + 1).toNatClampNeg)]) (hR : Rl f sw I) (hx : RX G I) (hb : ixs G i) (K : ∀ f1 sw1 I2, Rl f1 sw1 I2 → wp G 1000 (mt 264) 10 (LV (i + Int32.ofInt 9)) [] (147, f1, I2, RP f1 sw1) Q) : wp G 1000 (mt 264) 1053 (LV i) [] (147, f, I, RP f sw) Q := by
  refine vc_law oks [(264, 10, [0, 1, 2, 3])] [1177, 1262] 120 ?_
  show ck (ixB (i + 1) (I 100301 0).toNatClampNeg) (wp G 999 (mt 177) 0 (en (mt 177) [.ref 0, .int (I 100300 (i + 1).toNatClampNeg)]) [] (147, f, I, RP f sw) _)
  simp only [hx.1, hx.2, hb 1 (by decide), ck]
  refine wp.mono (hC f sw I hR) ?_
  rintro r h1 ⟨x, f1, sw1, I1, rfl, rfl, hx1, hM⟩
  show ck (ixB (i + 1) (I1 100301 0).toNatClampNeg) (wp G 999 (mt 262) 0 (en (mt 262) [.ref 93, .int (I1 100300 (i + 1).toNatClampNeg)]) [] (147, f1, I1, RP f1 sw1) _)
  simp only [hx1.1, hx1.2, hb 1 (by decide), ck]
  refine wp.mono hM ?_
  rintro r h2 ⟨I2, rfl, rfl, hR2⟩
  show if x = x then wp G 1000 (mt 264) 10 (LV (i + Int32.ofInt 9)) [] (147, f1, I2, RP f1 sw1) Q else _
  rw [if_pos rfl]
  exact K f1 sw1 I2 hR2

-- WreckCourt.status
set_option maxRecDepth 100000 in
set_option maxHeartbeats 4000000 in
theorem law_32 {G : GX} {f : Nat} {sw : Bool} {I : Nat → Nat → Int32} {i : Int32} {Q : Option Value → Hp → Prop} {Rl : Nat → Bool → (Nat → Nat → Int32) → Prop} (hC : CO Rl G 180 263 []) (hR : Rl f sw I) (hx : RX G I) (K : ∀ f1 sw1 I2, Rl f1 sw1 I2 → wp G 1000 (mt 264) 10 (LV (i + Int32.ofInt 9)) [] (147, f1, I2, RP f1 sw1) Q) : wp G 1000 (mt 264) 1070 (LV i) [] (147, f, I, RP f sw) Q := by
  refine vc_law oks [(264, 10, [0, 1, 2, 3])] [1180, 1263] 120 ?_
  show wp G 999 (mt 180) 0 (en (mt 180) [.ref 0]) [] (147, f, I, RP f sw) _
  refine wp.mono (hC f sw I hR) ?_
  rintro r h1 ⟨x, f1, sw1, I1, rfl, rfl, hx1, hM⟩
  show wp G 999 (mt 263) 0 (en (mt 263) [.ref 93]) [] (147, f1, I1, RP f1 sw1) _
  refine wp.mono hM ?_
  rintro r h2 ⟨I2, rfl, rfl, hR2⟩
  show if x = x then wp G 1000 (mt 264) 10 (LV (i + Int32.ofInt 9)) [] (147, f1, I2, RP f1 sw1) Q else _
  rw [if_pos rfl]
  exact K f1 sw1 I2 hR2

/-- all calls owe this -/
def AllCO (Rl : Nat → Bool → (Nat → Nat → Int32) → Prop) (G : GX) : Prop :=
  (∀ (a0 : Int32) (a1 : Int32) (a2 : Int32), CO Rl G 11 182 [.int a0, .int a1, .int a2]) ∧
  (∀ (a0 : Int32) (a1 : Int32) (a2 : Int32), CO Rl G 17 186 [.int a0, .int a1, .int a2]) ∧
  (∀ (a0 : Int32) (a1 : Int32) (a2 : Int32) (a3 : Int32) (a4 : Int32), CO Rl G 20 187 [.int a0, .int a1, .int a2, .int a3, .int a4]) ∧
  (∀ (a0 : Int32), CO Rl G 21 188 [.int a0]) ∧
  (∀ (a0 : Int32) (a1 : Int32), CO Rl G 22 189 [.int a0, .int a1]) ∧
  (∀ (a0 : Int32) (a1 : Int32) (a2 : Int32) (a3 : Int32), CO Rl G 25 191 [.int a0, .int a1, .int a2, .int a3]) ∧
  (∀ (a0 : Int32) (a1 : Int32) (a2 : Int32) (a3 : Int32), CO Rl G 31 194 [.int a0, .int a1, .int a2, .int a3]) ∧
  (∀ (a0 : Int32) (a1 : Int32) (a2 : Int32), CO Rl G 34 195 [.int a0, .int a1, .int a2]) ∧
  (∀ (a0 : Int32) (a1 : Int32) (a2 : Int32), CO Rl G 38 196 [.int a0, .int a1, .int a2]) ∧
  (∀ (a0 : Int32) (a1 : Int32) (a2 : Int32), CO Rl G 52 205 [.int a0, .int a1, .int a2]) ∧
  (∀ (a0 : Int32) (a1 : Int32), CO Rl G 54 206 [.int a0, .int a1]) ∧
  (∀ (a0 : Int32) (a1 : Int32) (a2 : Int32), CO Rl G 59 207 [.int a0, .int a1, .int a2]) ∧
  (∀ (a0 : Int32) (a1 : Int32) (a2 : Int32), CO Rl G 62 208 [.int a0, .int a1, .int a2]) ∧
  (∀ (a0 : Int32) (a1 : Int32), CO Rl G 64 209 [.int a0, .int a1]) ∧
  CO Rl G 75 214 [] ∧
  (∀ (a0 : Int32) (a1 : Int32), CO Rl G 77 216 [.int a0, .int a1]) ∧
  (∀ (a0 : Int32) (a1 : Int32) (a2 : Int32) (a3 : Int32) (a4 : Int32) (a5 : Int32) (a6 : Int32) (a7 : Int32), CO Rl G 79 217 [.int a0, .int a1, .int a2, .int a3, .int a4, .int a5, .int a6, .int a7]) ∧
  (∀ (a0 : Int32) (a1 : Int32), CO Rl G 86 219 [.int a0, .int a1]) ∧
  (∀ (a0 : Int32) (a1 : Int32) (a2 : Int32) (a3 : Int32) (a4 : Int32), CO Rl G 90 222 [.int a0, .int a1, .int a2, .int a3, .int a4]) ∧
  (∀ (a0 : Int32) (a1 : Int32), CO Rl G 96 227 [.int a0, .int a1]) ∧
  (∀ (a0 : Int32) (a1 : Int32), CO Rl G 113 232 [.int a0, .int a1]) ∧
  (∀ (a0 : Int64) (a1 : Int32), CO Rl G 114 233 [.long a0, .int a1]) ∧
  CO Rl G 116 234 [] ∧
  CO Rl G 147 245 [] ∧
  (∀ (a0 : Int32) (a1 : Int32) (a2 : Int32) (a3 : Int32), CO Rl G 148 246 [.int a0, .int a1, .int a2, .int a3]) ∧
  (∀ (a0 : Int32) (a1 : Int32) (a2 : Int32), CO Rl G 151 247 [.int a0, .int a1, .int a2]) ∧
  (∀ (a0 : Int32) (a1 : Int32), CO Rl G 156 250 [.int a0, .int a1]) ∧
  (∀ (a0 : Int32), CO Rl G 159 252 [.int a0]) ∧
  (∀ (a0 : Int32) (a1 : Int32), CO Rl G 161 254 [.int a0, .int a1]) ∧
  (∀ (a0 : Int32) (a1 : Int32), CO Rl G 163 256 [.int a0, .int a1]) ∧
  (∀ (a0 : Int32), CO Rl G 176 261 [.int a0]) ∧
  (∀ (a0 : Int32), CO Rl G 177 262 [.int a0]) ∧
  CO Rl G 180 263 []

set_option maxRecDepth 100000 in
set_option maxHeartbeats 4000000 in
theorem law_head {G : GX} {f : Nat} {sw : Bool} {I : Nat → Nat → Int32} {i : Int32} {Q : Option Value → Hp → Prop} (hq : if (I 100301 0) - 9 < i then Q (some (.int 1)) (147, f, I, RP f sw) else ck (ixB i (I 100301 0).toNatClampNeg) (if (I 100300 i.toNatClampNeg &&& 63) = 0 then wp G 1000 (mt 264) 22 (LV i) [] (147, f, I, RP f sw) Q else if (I 100300 i.toNatClampNeg &&& 63) = (0 + 1) then wp G 1000 (mt 264) 59 (LV i) [] (147, f, I, RP f sw) Q else if (I 100300 i.toNatClampNeg &&& 63) = (0 + 1 + 1) then wp G 1000 (mt 264) 96 (LV i) [] (147, f, I, RP f sw) Q else if (I 100300 i.toNatClampNeg &&& 63) = (0 + 1 + 1 + 1) then wp G 1000 (mt 264) 153 (LV i) [] (147, f, I, RP f sw) Q else if (I 100300 i.toNatClampNeg &&& 63) = (0 + 1 + 1 + 1 + 1) then wp G 1000 (mt 264) 170 (LV i) [] (147, f, I, RP f sw) Q else if (I 100300 i.toNatClampNeg &&& 63) = (0 + 1 + 1 + 1 + 1 + 1) then wp G 1000 (mt 264) 197 (LV i) [] (147, f, I, RP f sw) Q else if (I 100300 i.toNatClampNeg &&& 63) = (0 + 1 + 1 + 1 + 1 + 1 + 1) then wp G 1000 (mt 264) 244 (LV i) [] (147, f, I, RP f sw) Q else if (I 100300 i.toNatClampNeg &&& 63) = (0 + 1 + 1 + 1 + 1 + 1 + 1 + 1) then wp G 1000 (mt 264) 291 (LV i) [] (147, f, I, RP f sw) Q else if (I 100300 i.toNatClampNeg &&& 63) = (0 + 1 + 1 + 1 + 1 + 1 + 1 + 1 + 1) then wp G 1000 (mt 264) 328 (LV i) [] (147, f, I, RP f sw) Q else if (I 100300 i.toNatClampNeg &&& 63) = (0 + 1 + 1 + 1 + 1 + 1 + 1 + 1 + 1 + 1) then wp G 1000 (mt 264) 365 (LV i) [] (147, f, I, RP f sw) Q else if (I 100300 i.toNatClampNeg &&& 63) = (0 + 1 + 1 + 1 + 1 + 1 + 1 + 1 + 1 + 1 + 1) then wp G 1000 (mt 264) 402 (LV i) [] (147, f, I, RP f sw) Q else if (I 100300 i.toNatClampNeg &&& 63) = (0 + 1 + 1 + 1 + 1 + 1 + 1 + 1 + 1 + 1 + 1 + 1) then wp G 1000 (mt 264) 429 (LV i) [] (147, f, I, RP f sw) Q else if (I 100300 i.toNatClampNeg &&& 63) = (0 + 1 + 1 + 1 + 1 + 1 + 1 + 1 + 1 + 1 + 1 + 1 + 1) then wp G 1000 (mt 264) 466 (LV i) [] (147, f, I, RP f sw) Q else if (I 100300 i.toNatClampNeg &&& 63) = (0 + 1 + 1 + 1 + 1 + 1 + 1 + 1 + 1 + 1 + 1 + 1 + 1 + 1) then wp G 1000 (mt 264) 503 (LV i) [] (147, f, I, RP f sw) Q else if (I 100300 i.toNatClampNeg &&& 63) = (0 + 1 + 1 + 1 + 1 + 1 + 1 + 1 + 1 + 1 + 1 + 1 + 1 + 1 + 1) then wp G 1000 (mt 264) 530 (LV i) [] (147, f, I, RP f sw) Q else if (I 100300 i.toNatClampNeg &&& 63) = (0 + 1 + 1 + 1 + 1 + 1 + 1 + 1 + 1 + 1 + 1 + 1 + 1 + 1 + 1 + 1) then wp G 1000 (mt 264) 537 (LV i) [] (147, f, I, RP f sw) Q else if (I 100300 i.toNatClampNeg &&& 63) = (0 + 1 + 1 + 1 + 1 + 1 + 1 + 1 + 1 + 1 + 1 + 1 + 1 + 1 + 1 + 1 + 1) then wp G 1000 (mt 264) 564 (LV i) [] (147, f, I, RP f sw) Q else if (I 100300 i.toNatClampNeg &&& 63) = (0 + 1 + 1 + 1 + 1 + 1 + 1 + 1 + 1 + 1 + 1 + 1 + 1 + 1 + 1 + 1 + 1 + 1) then wp G 1000 (mt 264) 651 (LV i) [] (147, f, I, RP f sw) Q else if (I 100300 i.toNatClampNeg &&& 63) = (0 + 1 + 1 + 1 + 1 + 1 + 1 + 1 + 1 + 1 + 1 + 1 + 1 + 1 + 1 + 1 + 1 + 1 + 1) then wp G 1000 (mt 264) 678 (LV i) [] (147, f, I, RP f sw) Q else if (I 100300 i.toNatClampNeg &&& 63) = (0 + 1 + 1 + 1 + 1 + 1 + 1 + 1 + 1 + 1 + 1 + 1 + 1 + 1 + 1 + 1 + 1 + 1 + 1 + 1) then wp G 1000 (mt 264) 735 (LV i) [] (147, f, I, RP f sw) Q else if (I 100300 i.toNatClampNeg &&& 63) = (0 + 1 + 1 + 1 + 1 + 1 + 1 + 1 + 1 + 1 + 1 + 1 + 1 + 1 + 1 + 1 + 1 + 1 + 1 + 1 + 1) then wp G 1000 (mt 264) 762 (LV i) [] (147, f, I, RP f sw) Q else if (I 100300 i.toNatClampNeg &&& 63) = (0 + 1 + 1 + 1 + 1 + 1 + 1 + 1 + 1 + 1 + 1 + 1 + 1 + 1 + 1 + 1 + 1 + 1 + 1 + 1 + 1 + 1) then wp G 1000 (mt 264) 789 (LV i) [] (147, f, I, RP f sw) Q else if (I 100300 i.toNatClampNeg &&& 63) = (0 + 1 + 1 + 1 + 1 + 1 + 1 + 1 + 1 + 1 + 1 + 1 + 1 + 1 + 1 + 1 + 1 + 1 + 1 + 1 + 1 + 1 + 1) then wp G 1000 (mt 264) 840 (LV i) [] (147, f, I, RP f sw) Q else if (I 100300 i.toNatClampNeg &&& 63) = (0 + 1 + 1 + 1 + 1 + 1 + 1 + 1 + 1 + 1 + 1 + 1 + 1 + 1 + 1 + 1 + 1 + 1 + 1 + 1 + 1 + 1 + 1 + 1) then wp G 1000 (mt 264) 847 (LV i) [] (147, f, I, RP f sw) Q else if (I 100300 i.toNatClampNeg &&& 63) = (0 + 1 + 1 + 1 + 1 + 1 + 1 + 1 + 1 + 1 + 1 + 1 + 1 + 1 + 1 + 1 + 1 + 1 + 1 + 1 + 1 + 1 + 1 + 1 + 1) then wp G 1000 (mt 264) 854 (LV i) [] (147, f, I, RP f sw) Q else if (I 100300 i.toNatClampNeg &&& 63) = (0 + 1 + 1 + 1 + 1 + 1 + 1 + 1 + 1 + 1 + 1 + 1 + 1 + 1 + 1 + 1 + 1 + 1 + 1 + 1 + 1 + 1 + 1 + 1 + 1 + 1) then wp G 1000 (mt 264) 901 (LV i) [] (147, f, I, RP f sw) Q else if (I 100300 i.toNatClampNeg &&& 63) = (0 + 1 + 1 + 1 + 1 + 1 + 1 + 1 + 1 + 1 + 1 + 1 + 1 + 1 + 1 + 1 + 1 + 1 + 1 + 1 + 1 + 1 + 1 + 1 + 1 + 1 + 1) then wp G 1000 (mt 264) 938 (LV i) [] (147, f, I, RP f sw) Q else if (I 100300 i.toNatClampNeg &&& 63) = (0 + 1 + 1 + 1 + 1 + 1 + 1 + 1 + 1 + 1 + 1 + 1 + 1 + 1 + 1 + 1 + 1 + 1 + 1 + 1 + 1 + 1 + 1 + 1 + 1 + 1 + 1 + 1) then wp G 1000 (mt 264) 965 (LV i) [] (147, f, I, RP f sw) Q else if (I 100300 i.toNatClampNeg &&& 63) = (0 + 1 + 1 + 1 + 1 + 1 + 1 + 1 + 1 + 1 + 1 + 1 + 1 + 1 + 1 + 1 + 1 + 1 + 1 + 1 + 1 + 1 + 1 + 1 + 1 + 1 + 1 + 1 + 1) then wp G 1000 (mt 264) 982 (LV i) [] (147, f, I, RP f sw) Q else if (I 100300 i.toNatClampNeg &&& 63) = (0 + 1 + 1 + 1 + 1 + 1 + 1 + 1 + 1 + 1 + 1 + 1 + 1 + 1 + 1 + 1 + 1 + 1 + 1 + 1 + 1 + 1 + 1 + 1 + 1 + 1 + 1 + 1 + 1 + 1) then wp G 1000 (mt 264) 1009 (LV i) [] (147, f, I, RP f sw) Q else if (I 100300 i.toNatClampNeg &&& 63) = (0 + 1 + 1 + 1 + 1 + 1 + 1 + 1 + 1 + 1 + 1 + 1 + 1 + 1 + 1 + 1 + 1 + 1 + 1 + 1 + 1 + 1 + 1 + 1 + 1 + 1 + 1 + 1 + 1 + 1 + 1) then wp G 1000 (mt 264) 1036 (LV i) [] (147, f, I, RP f sw) Q else if (I 100300 i.toNatClampNeg &&& 63) = (0 + 1 + 1 + 1 + 1 + 1 + 1 + 1 + 1 + 1 + 1 + 1 + 1 + 1 + 1 + 1 + 1 + 1 + 1 + 1 + 1 + 1 + 1 + 1 + 1 + 1 + 1 + 1 + 1 + 1 + 1 + 1) then wp G 1000 (mt 264) 1053 (LV i) [] (147, f, I, RP f sw) Q else if (I 100300 i.toNatClampNeg &&& 63) = (0 + 1 + 1 + 1 + 1 + 1 + 1 + 1 + 1 + 1 + 1 + 1 + 1 + 1 + 1 + 1 + 1 + 1 + 1 + 1 + 1 + 1 + 1 + 1 + 1 + 1 + 1 + 1 + 1 + 1 + 1 + 1 + 1) then wp G 1000 (mt 264) 1070 (LV i) [] (147, f, I, RP f sw) Q else wp G 1000 (mt 264) 1077 (LV i) [] (147, f, I, RP f sw) Q)) : wp G 1000 (mt 264) 10 (LV i) [] (147, f, I, RP f sw) Q := vc_law oks [(264, 10, [0, 1, 2, 3]), (264, 22, [0, 1, 2, 3]), (264, 59, [0, 1, 2, 3]), (264, 96, [0, 1, 2, 3]), (264, 153, [0, 1, 2, 3]), (264, 170, [0, 1, 2, 3]), (264, 197, [0, 1, 2, 3]), (264, 244, [0, 1, 2, 3]), (264, 291, [0, 1, 2, 3]), (264, 328, [0, 1, 2, 3]), (264, 365, [0, 1, 2, 3]), (264, 402, [0, 1, 2, 3]), (264, 429, [0, 1, 2, 3]), (264, 466, [0, 1, 2, 3]), (264, 503, [0, 1, 2, 3]), (264, 530, [0, 1, 2, 3]), (264, 537, [0, 1, 2, 3]), (264, 564, [0, 1, 2, 3]), (264, 651, [0, 1, 2, 3]), (264, 678, [0, 1, 2, 3]), (264, 735, [0, 1, 2, 3]), (264, 762, [0, 1, 2, 3]), (264, 789, [0, 1, 2, 3]), (264, 840, [0, 1, 2, 3]), (264, 847, [0, 1, 2, 3]), (264, 854, [0, 1, 2, 3]), (264, 901, [0, 1, 2, 3]), (264, 938, [0, 1, 2, 3]), (264, 965, [0, 1, 2, 3]), (264, 982, [0, 1, 2, 3]), (264, 1009, [0, 1, 2, 3]), (264, 1036, [0, 1, 2, 3]), (264, 1053, [0, 1, 2, 3]), (264, 1070, [0, 1, 2, 3]), (264, 1077, [0, 1, 2, 3])] [] 60 hq
set_option maxRecDepth 100000 in
set_option maxHeartbeats 4000000 in
theorem law_tail {G : GX} {f : Nat} {sw : Bool} {I : Nat → Nat → Int32} {i : Int32} {Q : Option Value → Hp → Prop} (hq : wp G 1000 (mt 264) 10 (LV (i + Int32.ofInt 9)) [] (147, f, I, RP f sw) Q) : wp G 1000 (mt 264) 1077 (LV i) [] (147, f, I, RP f sw) Q := vc_law oks [(264, 10, [0, 1, 2, 3])] [] 60 hq

theorem ite_i {c : Prop} [Decidable c] {A B : Prop} (h1 : c → A) (h2 : ¬ c → B) : if c then A else B := by
  by_cases h : c
  · rw [if_pos h]; exact h1 h
  · rw [if_neg h]; exact h2 h
theorem law_body {G : GX} {f : Nat} {sw : Bool} {I : Nat → Nat → Int32} {i : Int32} {Q : Option Value → Hp → Prop} {Rl : Nat → Bool → (Nat → Nat → Int32) → Prop} (hA : AllCO Rl G) (hR : Rl f sw I) (hx : RX G I) (hb : ixs G i) (h0 : ixB i (Int32.ofNat G.2.2.2.2.1).toNatClampNeg = true) (hi : ¬ (Int32.ofNat G.2.2.2.2.1) - 9 < i) (K : ∀ f1 sw1 I2, Rl f1 sw1 I2 → wp G 1000 (mt 264) 10 (LV (i + Int32.ofInt 9)) [] (147, f1, I2, RP f1 sw1) Q) : wp G 1000 (mt 264) 10 (LV i) [] (147, f, I, RP f sw) Q := by
  obtain ⟨c0, c1, c2, c3, c4, c5, c6, c7, c8, c9, c10, c11, c12, c13, c14, c15, c16, c17, c18, c19, c20, c21, c22, c23, c24, c25, c26, c27, c28, c29, c30, c31, c32⟩ := hA
  refine law_head ?_
  rw [hx.2, if_neg hi, h0]
  show if (I 100300 i.toNatClampNeg &&& 63) = 0 then wp G 1000 (mt 264) 22 (LV i) [] (147, f, I, RP f sw) Q else if (I 100300 i.toNatClampNeg &&& 63) = (0 + 1) then wp G 1000 (mt 264) 59 (LV i) [] (147, f, I, RP f sw) Q else if (I 100300 i.toNatClampNeg &&& 63) = (0 + 1 + 1) then wp G 1000 (mt 264) 96 (LV i) [] (147, f, I, RP f sw) Q else if (I 100300 i.toNatClampNeg &&& 63) = (0 + 1 + 1 + 1) then wp G 1000 (mt 264) 153 (LV i) [] (147, f, I, RP f sw) Q else if (I 100300 i.toNatClampNeg &&& 63) = (0 + 1 + 1 + 1 + 1) then wp G 1000 (mt 264) 170 (LV i) [] (147, f, I, RP f sw) Q else if (I 100300 i.toNatClampNeg &&& 63) = (0 + 1 + 1 + 1 + 1 + 1) then wp G 1000 (mt 264) 197 (LV i) [] (147, f, I, RP f sw) Q else if (I 100300 i.toNatClampNeg &&& 63) = (0 + 1 + 1 + 1 + 1 + 1 + 1) then wp G 1000 (mt 264) 244 (LV i) [] (147, f, I, RP f sw) Q else if (I 100300 i.toNatClampNeg &&& 63) = (0 + 1 + 1 + 1 + 1 + 1 + 1 + 1) then wp G 1000 (mt 264) 291 (LV i) [] (147, f, I, RP f sw) Q else if (I 100300 i.toNatClampNeg &&& 63) = (0 + 1 + 1 + 1 + 1 + 1 + 1 + 1 + 1) then wp G 1000 (mt 264) 328 (LV i) [] (147, f, I, RP f sw) Q else if (I 100300 i.toNatClampNeg &&& 63) = (0 + 1 + 1 + 1 + 1 + 1 + 1 + 1 + 1 + 1) then wp G 1000 (mt 264) 365 (LV i) [] (147, f, I, RP f sw) Q else if (I 100300 i.toNatClampNeg &&& 63) = (0 + 1 + 1 + 1 + 1 + 1 + 1 + 1 + 1 + 1 + 1) then wp G 1000 (mt 264) 402 (LV i) [] (147, f, I, RP f sw) Q else if (I 100300 i.toNatClampNeg &&& 63) = (0 + 1 + 1 + 1 + 1 + 1 + 1 + 1 + 1 + 1 + 1 + 1) then wp G 1000 (mt 264) 429 (LV i) [] (147, f, I, RP f sw) Q else if (I 100300 i.toNatClampNeg &&& 63) = (0 + 1 + 1 + 1 + 1 + 1 + 1 + 1 + 1 + 1 + 1 + 1 + 1) then wp G 1000 (mt 264) 466 (LV i) [] (147, f, I, RP f sw) Q else if (I 100300 i.toNatClampNeg &&& 63) = (0 + 1 + 1 + 1 + 1 + 1 + 1 + 1 + 1 + 1 + 1 + 1 + 1 + 1) then wp G 1000 (mt 264) 503 (LV i) [] (147, f, I, RP f sw) Q else if (I 100300 i.toNatClampNeg &&& 63) = (0 + 1 + 1 + 1 + 1 + 1 + 1 + 1 + 1 + 1 + 1 + 1 + 1 + 1 + 1) then wp G 1000 (mt 264) 530 (LV i) [] (147, f, I, RP f sw) Q else if (I 100300 i.toNatClampNeg &&& 63) = (0 + 1 + 1 + 1 + 1 + 1 + 1 + 1 + 1 + 1 + 1 + 1 + 1 + 1 + 1 + 1) then wp G 1000 (mt 264) 537 (LV i) [] (147, f, I, RP f sw) Q else if (I 100300 i.toNatClampNeg &&& 63) = (0 + 1 + 1 + 1 + 1 + 1 + 1 + 1 + 1 + 1 + 1 + 1 + 1 + 1 + 1 + 1 + 1) then wp G 1000 (mt 264) 564 (LV i) [] (147, f, I, RP f sw) Q else if (I 100300 i.toNatClampNeg &&& 63) = (0 + 1 + 1 + 1 + 1 + 1 + 1 + 1 + 1 + 1 + 1 + 1 + 1 + 1 + 1 + 1 + 1 + 1) then wp G 1000 (mt 264) 651 (LV i) [] (147, f, I, RP f sw) Q else if (I 100300 i.toNatClampNeg &&& 63) = (0 + 1 + 1 + 1 + 1 + 1 + 1 + 1 + 1 + 1 + 1 + 1 + 1 + 1 + 1 + 1 + 1 + 1 + 1) then wp G 1000 (mt 264) 678 (LV i) [] (147, f, I, RP f sw) Q else if (I 100300 i.toNatClampNeg &&& 63) = (0 + 1 + 1 + 1 + 1 + 1 + 1 + 1 + 1 + 1 + 1 + 1 + 1 + 1 + 1 + 1 + 1 + 1 + 1 + 1) then wp G 1000 (mt 264) 735 (LV i) [] (147, f, I, RP f sw) Q else if (I 100300 i.toNatClampNeg &&& 63) = (0 + 1 + 1 + 1 + 1 + 1 + 1 + 1 + 1 + 1 + 1 + 1 + 1 + 1 + 1 + 1 + 1 + 1 + 1 + 1 + 1) then wp G 1000 (mt 264) 762 (LV i) [] (147, f, I, RP f sw) Q else if (I 100300 i.toNatClampNeg &&& 63) = (0 + 1 + 1 + 1 + 1 + 1 + 1 + 1 + 1 + 1 + 1 + 1 + 1 + 1 + 1 + 1 + 1 + 1 + 1 + 1 + 1 + 1) then wp G 1000 (mt 264) 789 (LV i) [] (147, f, I, RP f sw) Q else if (I 100300 i.toNatClampNeg &&& 63) = (0 + 1 + 1 + 1 + 1 + 1 + 1 + 1 + 1 + 1 + 1 + 1 + 1 + 1 + 1 + 1 + 1 + 1 + 1 + 1 + 1 + 1 + 1) then wp G 1000 (mt 264) 840 (LV i) [] (147, f, I, RP f sw) Q else if (I 100300 i.toNatClampNeg &&& 63) = (0 + 1 + 1 + 1 + 1 + 1 + 1 + 1 + 1 + 1 + 1 + 1 + 1 + 1 + 1 + 1 + 1 + 1 + 1 + 1 + 1 + 1 + 1 + 1) then wp G 1000 (mt 264) 847 (LV i) [] (147, f, I, RP f sw) Q else if (I 100300 i.toNatClampNeg &&& 63) = (0 + 1 + 1 + 1 + 1 + 1 + 1 + 1 + 1 + 1 + 1 + 1 + 1 + 1 + 1 + 1 + 1 + 1 + 1 + 1 + 1 + 1 + 1 + 1 + 1) then wp G 1000 (mt 264) 854 (LV i) [] (147, f, I, RP f sw) Q else if (I 100300 i.toNatClampNeg &&& 63) = (0 + 1 + 1 + 1 + 1 + 1 + 1 + 1 + 1 + 1 + 1 + 1 + 1 + 1 + 1 + 1 + 1 + 1 + 1 + 1 + 1 + 1 + 1 + 1 + 1 + 1) then wp G 1000 (mt 264) 901 (LV i) [] (147, f, I, RP f sw) Q else if (I 100300 i.toNatClampNeg &&& 63) = (0 + 1 + 1 + 1 + 1 + 1 + 1 + 1 + 1 + 1 + 1 + 1 + 1 + 1 + 1 + 1 + 1 + 1 + 1 + 1 + 1 + 1 + 1 + 1 + 1 + 1 + 1) then wp G 1000 (mt 264) 938 (LV i) [] (147, f, I, RP f sw) Q else if (I 100300 i.toNatClampNeg &&& 63) = (0 + 1 + 1 + 1 + 1 + 1 + 1 + 1 + 1 + 1 + 1 + 1 + 1 + 1 + 1 + 1 + 1 + 1 + 1 + 1 + 1 + 1 + 1 + 1 + 1 + 1 + 1 + 1) then wp G 1000 (mt 264) 965 (LV i) [] (147, f, I, RP f sw) Q else if (I 100300 i.toNatClampNeg &&& 63) = (0 + 1 + 1 + 1 + 1 + 1 + 1 + 1 + 1 + 1 + 1 + 1 + 1 + 1 + 1 + 1 + 1 + 1 + 1 + 1 + 1 + 1 + 1 + 1 + 1 + 1 + 1 + 1 + 1) then wp G 1000 (mt 264) 982 (LV i) [] (147, f, I, RP f sw) Q else if (I 100300 i.toNatClampNeg &&& 63) = (0 + 1 + 1 + 1 + 1 + 1 + 1 + 1 + 1 + 1 + 1 + 1 + 1 + 1 + 1 + 1 + 1 + 1 + 1 + 1 + 1 + 1 + 1 + 1 + 1 + 1 + 1 + 1 + 1 + 1) then wp G 1000 (mt 264) 1009 (LV i) [] (147, f, I, RP f sw) Q else if (I 100300 i.toNatClampNeg &&& 63) = (0 + 1 + 1 + 1 + 1 + 1 + 1 + 1 + 1 + 1 + 1 + 1 + 1 + 1 + 1 + 1 + 1 + 1 + 1 + 1 + 1 + 1 + 1 + 1 + 1 + 1 + 1 + 1 + 1 + 1 + 1) then wp G 1000 (mt 264) 1036 (LV i) [] (147, f, I, RP f sw) Q else if (I 100300 i.toNatClampNeg &&& 63) = (0 + 1 + 1 + 1 + 1 + 1 + 1 + 1 + 1 + 1 + 1 + 1 + 1 + 1 + 1 + 1 + 1 + 1 + 1 + 1 + 1 + 1 + 1 + 1 + 1 + 1 + 1 + 1 + 1 + 1 + 1 + 1) then wp G 1000 (mt 264) 1053 (LV i) [] (147, f, I, RP f sw) Q else if (I 100300 i.toNatClampNeg &&& 63) = (0 + 1 + 1 + 1 + 1 + 1 + 1 + 1 + 1 + 1 + 1 + 1 + 1 + 1 + 1 + 1 + 1 + 1 + 1 + 1 + 1 + 1 + 1 + 1 + 1 + 1 + 1 + 1 + 1 + 1 + 1 + 1 + 1) then wp G 1000 (mt 264) 1070 (LV i) [] (147, f, I, RP f sw) Q else wp G 1000 (mt 264) 1077 (LV i) [] (147, f, I, RP f sw) Q
  refine ite_i (fun _ => law_0 (c0 _ _ _) hR hx hb K) (fun _ => ?_)
  refine ite_i (fun _ => law_1 (c1 _ _ _) hR hx hb K) (fun _ => ?_)
  refine ite_i (fun _ => law_2 (c2 _ _ _ _ _) hR hx hb K) (fun _ => ?_)
  refine ite_i (fun _ => law_3 (c3 _) hR hx hb K) (fun _ => ?_)
  refine ite_i (fun _ => law_4 (c4 _ _) hR hx hb K) (fun _ => ?_)
  refine ite_i (fun _ => law_5 (c5 _ _ _ _) hR hx hb K) (fun _ => ?_)
  refine ite_i (fun _ => law_6 (c6 _ _ _ _) hR hx hb K) (fun _ => ?_)
  refine ite_i (fun _ => law_7 (c7 _ _ _) hR hx hb K) (fun _ => ?_)
  refine ite_i (fun _ => law_8 (c8 _ _ _) hR hx hb K) (fun _ => ?_)
  refine ite_i (fun _ => law_9 (c9 _ _ _) hR hx hb K) (fun _ => ?_)
  refine ite_i (fun _ => law_10 (c10 _ _) hR hx hb K) (fun _ => ?_)
  refine ite_i (fun _ => law_11 (c11 _ _ _) hR hx hb K) (fun _ => ?_)
  refine ite_i (fun _ => law_12 (c12 _ _ _) hR hx hb K) (fun _ => ?_)
  refine ite_i (fun _ => law_13 (c13 _ _) hR hx hb K) (fun _ => ?_)
  refine ite_i (fun _ => law_14 (c14) hR hx K) (fun _ => ?_)
  refine ite_i (fun _ => law_15 (c15 _ _) hR hx hb K) (fun _ => ?_)
  refine ite_i (fun _ => law_16 (c16 _ _ _ _ _ _ _ _) hR hx hb K) (fun _ => ?_)
  refine ite_i (fun _ => law_17 (c17 _ _) hR hx hb K) (fun _ => ?_)
  refine ite_i (fun _ => law_18 (c18 _ _ _ _ _) hR hx hb K) (fun _ => ?_)
  refine ite_i (fun _ => law_19 (c19 _ _) hR hx hb K) (fun _ => ?_)
  refine ite_i (fun _ => law_20 (c20 _ _) hR hx hb K) (fun _ => ?_)
  refine ite_i (fun _ => law_21 (c21 _ _) hR hx hb K) (fun _ => ?_)
  refine ite_i (fun _ => law_22 (c22) hR hx K) (fun _ => ?_)
  refine ite_i (fun _ => law_23 (c23) hR hx K) (fun _ => ?_)
  refine ite_i (fun _ => law_24 (c24 _ _ _ _) hR hx hb K) (fun _ => ?_)
  refine ite_i (fun _ => law_25 (c25 _ _ _) hR hx hb K) (fun _ => ?_)
  refine ite_i (fun _ => law_26 (c26 _ _) hR hx hb K) (fun _ => ?_)
  refine ite_i (fun _ => law_27 (c27 _) hR hx hb K) (fun _ => ?_)
  refine ite_i (fun _ => law_28 (c28 _ _) hR hx hb K) (fun _ => ?_)
  refine ite_i (fun _ => law_29 (c29 _ _) hR hx hb K) (fun _ => ?_)
  refine ite_i (fun _ => law_30 (c30 _) hR hx hb K) (fun _ => ?_)
  refine ite_i (fun _ => law_31 (c31 _) hR hx hb K) (fun _ => ?_)
  refine ite_i (fun _ => law_32 (c32) hR hx K) (fun _ => ?_)
  exact law_tail (K f sw I hR)
