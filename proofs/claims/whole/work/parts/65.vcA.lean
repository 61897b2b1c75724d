/-! CONDITIONS of owes, blame -/
-- WreckCourt.owes(III)I, entry 0
set_option maxRecDepth 100000 in
set_option maxHeartbeats 4000000 in
theorem v_Cowes (o : OKs) {G : GX} {d f : Nat} {sw : Bool} {I : Nat → Nat → Int32} {s : Int32} {m : Int32} {c : Int32} {Q : Option Value → Hp → Prop}
    (hq : if s < 0 then Q (some (.int (-1000001))) (147, f, I, RP f sw) else if ((I 2 2) - 1) < s then Q (some (.int (-1000001))) (147, f, I, RP f sw) else if m < 0 then Q (some (.int (-1000001))) (147, f, I, RP f sw) else if 239 < m then Q (some (.int (-1000001))) (147, f, I, RP f sw) else if c < 0 then Q (some (.int (-1000001))) (147, f, I, RP f sw) else if 3 < c then Q (some (.int (-1000001))) (147, f, I, RP f sw) else wp G (d + 119) (mt 152) 0 (en (mt 152) [.ref 0, .int s, .int m]) [] (147, f, I, RP f sw) (fun v h1 => ∃ I1 : Nat → Nat → Int32, v = none ∧ h1 = (147, f, I1, RP f sw) ∧ (oV ((RP f sw) 0 9) (fun q2 => ck (okB (147, f, I1, RP f sw) q2 2) (wp G (d + 119) (mt 153) 0 (en (mt 153) [.ref q2, .int c, .ref 63]) [] (147, f, I1, RP f sw) (fun v h1 => ∃ (x4 : Int32) (I3 : Nat → Nat → Int32), v = some (.int x4) ∧ h1 = (147, f, I3, RP f sw) ∧ (Q (some (.int x4)) (147, f, I3, RP f sw)))))))) :
    wp G (d + 120) (mt 151) 0 (en (mt 151) [.ref 0, .int s, .int m, .int c]) [] (147, f, I, RP f sw) Q := vc_wp o [] [13, 26, 27, 149] 600 rfl hq

-- WreckCourt.lookOut(II)V, entry 0
set_option maxRecDepth 100000 in
set_option maxHeartbeats 4000000 in
theorem v_lookOut (o : OKs) {G : GX} {d f : Nat} {sw : Bool} {I : Nat → Nat → Int32} {s : Int32} {m : Int32} {Q : Option Value → Hp → Prop}
    (hq : wp G (d + 109) (mt 45) 0 (en (mt 45) [.ref 2, .int s, .int m]) [] (147, f, I, RP f sw) (fun v h1 => ∃ (x2 : Int32) (I1 : Nat → Nat → Int32), v = some (.int x2) ∧ h1 = (147, f, I1, RP f sw) ∧ (wp G (d + 110) (mt 152) 9 [some (.ref 0), some (.int s), some (.int m)] [] (147, f, upI I1 63 0 x2, RP f sw) Q))) :
    wp G (d + 110) (mt 152) 0 (en (mt 152) [.ref 0, .int s, .int m]) [] (147, f, I, RP f sw) Q := vc_wp o [(152, 9, [0, 1, 2]), (152, 18, [0, 1, 2]), (152, 32, [0, 1, 2]), (152, 46, [0, 1, 2])] [] 600 rfl hq

-- WreckCourt.lookOut(II)V, entry 9
set_option maxRecDepth 100000 in
set_option maxHeartbeats 4000000 in
theorem v_lookOut9 (o : OKs) {G : GX} {d f : Nat} {sw : Bool} {I : Nat → Nat → Int32} {u1 : Int32} {u2 : Int32} {Q : Option Value → Hp → Prop}
    (hq : wp G (d + 109) (mt 46) 0 (en (mt 46) [.ref 2, .int u1, .int u2]) [] (147, f, I, RP f sw) (fun v h1 => ∃ (x2 : Int32) (I1 : Nat → Nat → Int32), v = some (.int x2) ∧ h1 = (147, f, I1, RP f sw) ∧ (wp G (d + 110) (mt 152) 18 [some (.ref 0), some (.int u1), some (.int u2)] [] (147, f, upI I1 63 1 x2, RP f sw) Q))) :
    wp G (d + 110) (mt 152) 9 [some (.ref 0), some (.int u1), some (.int u2)] [] (147, f, I, RP f sw) Q := vc_wp o [(152, 9, [0, 1, 2]), (152, 18, [0, 1, 2]), (152, 32, [0, 1, 2]), (152, 46, [0, 1, 2])] [] 600 rfl hq

-- WreckCourt.lookOut(II)V, entry 18
set_option maxRecDepth 100000 in
set_option maxHeartbeats 4000000 in
theorem v_lookOut18 (o : OKs) {G : GX} {d f : Nat} {sw : Bool} {I : Nat → Nat → Int32} {u1 : Int32} {u2 : Int32} {Q : Option Value → Hp → Prop}
    (hq : wp G (d + 109) (mt 48) 0 (en (mt 48) [.ref 7, .int 0, .int u2]) [] (147, f, I, RP f sw) (fun v h1 => ∃ (x2 : Int32) (I1 : Nat → Nat → Int32), v = some (.int x2) ∧ h1 = (147, f, I1, RP f sw) ∧ (if x2 = 0 then wp G (d + 110) (mt 152) 32 [some (.ref 0), some (.int u1), some (.int u2)] [] (147, f, upI I1 63 2 0, RP f sw) Q else wp G (d + 110) (mt 152) 32 [some (.ref 0), some (.int u1), some (.int u2)] [] (147, f, upI I1 63 2 1, RP f sw) Q))) :
    wp G (d + 110) (mt 152) 18 [some (.ref 0), some (.int u1), some (.int u2)] [] (147, f, I, RP f sw) Q := vc_wp o [(152, 9, [0, 1, 2]), (152, 18, [0, 1, 2]), (152, 32, [0, 1, 2]), (152, 46, [0, 1, 2])] [] 600 rfl hq

-- WreckCourt.lookOut(II)V, entry 32
set_option maxRecDepth 100000 in
set_option maxHeartbeats 4000000 in
theorem v_lookOut32 (o : OKs) {G : GX} {d f : Nat} {sw : Bool} {I : Nat → Nat → Int32} {u1 : Int32} {u2 : Int32} {Q : Option Value → Hp → Prop}
    (hq : wp G (d + 109) (mt 48) 0 (en (mt 48) [.ref 7, .int 1, .int u2]) [] (147, f, I, RP f sw) (fun v h1 => ∃ (x2 : Int32) (I1 : Nat → Nat → Int32), v = some (.int x2) ∧ h1 = (147, f, I1, RP f sw) ∧ (if x2 = 0 then wp G (d + 110) (mt 152) 46 [some (.ref 0), some (.int u1), some (.int u2)] [] (147, f, upI I1 63 3 0, RP f sw) Q else wp G (d + 110) (mt 152) 46 [some (.ref 0), some (.int u1), some (.int u2)] [] (147, f, upI I1 63 3 1, RP f sw) Q))) :
    wp G (d + 110) (mt 152) 32 [some (.ref 0), some (.int u1), some (.int u2)] [] (147, f, I, RP f sw) Q := vc_wp o [(152, 9, [0, 1, 2]), (152, 18, [0, 1, 2]), (152, 32, [0, 1, 2]), (152, 46, [0, 1, 2])] [] 600 rfl hq

-- WreckCourt.lookOut(II)V, entry 46
set_option maxRecDepth 100000 in
set_option maxHeartbeats 4000000 in
theorem v_lookOut46 (o : OKs) {G : GX} {d f : Nat} {sw : Bool} {I : Nat → Nat → Int32} {u1 : Int32} {u2 : Int32} {Q : Option Value → Hp → Prop}
    (hq : if u1 = 0 then wp G (d + 109) (mt 65) 0 (en (mt 65) [.ref 29, .int u2]) [] (147, f, I, RP f sw) (fun v h1 => ∃ (x2 : Int32) (I1 : Nat → Nat → Int32), v = some (.int x2) ∧ h1 = (147, f, I1, RP f sw) ∧ (Q none (147, f, upI I1 63 4 x2, RP f sw))) else Q none (147, f, upI I 63 4 0, RP f sw)) :
    wp G (d + 110) (mt 152) 46 [some (.ref 0), some (.int u1), some (.int u2)] [] (147, f, I, RP f sw) Q := vc_wp o [(152, 9, [0, 1, 2]), (152, 18, [0, 1, 2]), (152, 32, [0, 1, 2]), (152, 46, [0, 1, 2])] [] 600 rfl hq

-- WreckCourt$Book.firstOwed(I[I)I, entry 0
set_option maxRecDepth 100000 in
set_option maxHeartbeats 4000000 in
theorem v_firstOwedA (o : OKs) {G : GX} {d f : Nat} {sw : Bool} {I : Nat → Nat → Int32} {c : Int32} {Q : Option Value → Hp → Prop}
    (hq : wp G (d + 40) (mt 153) 2 [some (.ref 65), some (.int c), some (.ref 63), some (.int 0)] [] (147, f, I, RP f sw) Q) :
    wp G (d + 40) (mt 153) 0 (en (mt 153) [.ref 65, .int c, .ref 63]) [] (147, f, I, RP f sw) Q := vc_wp o [(153, 2, [0, 1, 2, 3])] [] 600 rfl hq

-- WreckCourt$Book.firstOwed(I[I)I, entry 2
set_option maxRecDepth 100000 in
set_option maxHeartbeats 4000000 in
theorem v_firstOwed2A (o : OKs) {G : GX} {d f : Nat} {sw : Bool} {I : Nat → Nat → Int32} {u1 : Int32} {u3 : Int32} {Q : Option Value → Hp → Prop}
    (hq : if (I 65 0) ≤ u3 then Q (some (.int (-1000000))) (147, f, I, RP f sw) else ck (ixB u3 10) (if (I 66 u3.toNatClampNeg) = u1 then wp G (d + 39) (mt 154) 0 (en (mt 154) [.ref 65, .int u3, .ref 63]) [] (147, f, I, RP f sw) (fun v h1 => ∃ (x2 : Int32) (I1 : Nat → Nat → Int32), v = some (.int x2) ∧ h1 = (147, f, I1, RP f sw) ∧ (if x2 = 0 then wp G (d + 40) (mt 153) 2 [some (.ref 65), some (.int u1), some (.ref 63), some (.int (u3 + Int32.ofInt 1))] [] (147, f, I1, RP f sw) Q else Q (some (.int u3)) (147, f, I1, RP f sw))) else wp G (d + 40) (mt 153) 2 [some (.ref 65), some (.int u1), some (.ref 63), some (.int (u3 + Int32.ofInt 1))] [] (147, f, I, RP f sw) Q)) :
    wp G (d + 40) (mt 153) 2 [some (.ref 65), some (.int u1), some (.ref 63), some (.int u3)] [] (147, f, I, RP f sw) Q := vc_wp o [(153, 2, [0, 1, 2, 3])] [] 600 rfl hq

-- WreckCourt$Book.allHold(I[I)Z, entry 0
set_option maxRecDepth 100000 in
set_option maxHeartbeats 4000000 in
theorem v_allHoldA (o : OKs) {G : GX} {d f : Nat} {sw : Bool} {I : Nat → Nat → Int32} {r : Int32} {Q : Option Value → Hp → Prop}
    (hq : wp G (d + 20) (mt 154) 4 [some (.ref 65), some (.int r), some (.ref 63), some (.int 1), some (.int 0), none] [] (147, f, I, RP f sw) Q) :
    wp G (d + 20) (mt 154) 0 (en (mt 154) [.ref 65, .int r, .ref 63]) [] (147, f, I, RP f sw) Q := vc_wp o [(154, 4, [0, 1, 2, 3, 4])] [] 600 rfl hq

-- WreckCourt$Book.allHold(I[I)Z, entry 4
set_option maxRecDepth 100000 in
set_option maxHeartbeats 4000000 in
theorem v_allHold4A (o : OKs) {G : GX} {d f : Nat} {sw : Bool} {I : Nat → Nat → Int32} {u1 : Int32} {u3 : Int32} {u4 : Int32} {Q : Option Value → Hp → Prop}
    (hq : ck (ixB u1 10) (if (I 67 u1.toNatClampNeg) ≤ u4 then ck (decide (u3 = 0) || decide (u3 = 1)) (Q (some (.int u3)) (147, f, I, RP f sw)) else if u3 = 0 then wp G (d + 20) (mt 154) 4 [some (.ref 65), some (.int u1), some (.ref 63), some (.int 0), some (.int (u4 + Int32.ofInt 1)), none] [] (147, f, I, RP f sw) Q else ck (ixB ((u1 * 3) + u4) 30) (ck (ixB (I 68 (((u1 * 3) + u4).toNatClampNeg)) 5) (ck (ixB ((u1 * 3) + u4) 30) (ck (ixB ((u1 * 3) + u4) 30) (if (I 69 (((u1 * 3) + u4).toNatClampNeg)) = 0 then if (I 70 (((u1 * 3) + u4).toNatClampNeg)) ≤ (I 63 ((I 68 (((u1 * 3) + u4).toNatClampNeg)).toNatClampNeg)) then wp G (d + 20) (mt 154) 4 [some (.ref 65), some (.int u1), some (.ref 63), some (.int 0), some (.int (u4 + Int32.ofInt 1)), none] [] (147, f, I, RP f sw) Q else wp G (d + 20) (mt 154) 4 [some (.ref 65), some (.int u1), some (.ref 63), some (.int 1), some (.int (u4 + Int32.ofInt 1)), none] [] (147, f, I, RP f sw) Q else if (I 69 (((u1 * 3) + u4).toNatClampNeg)) = 1 then if (I 63 ((I 68 (((u1 * 3) + u4).toNatClampNeg)).toNatClampNeg)) ≤ (I 70 (((u1 * 3) + u4).toNatClampNeg)) then wp G (d + 20) (mt 154) 4 [some (.ref 65), some (.int u1), some (.ref 63), some (.int 0), some (.int (u4 + Int32.ofInt 1)), none] [] (147, f, I, RP f sw) Q else wp G (d + 20) (mt 154) 4 [some (.ref 65), some (.int u1), some (.ref 63), some (.int 1), some (.int (u4 + Int32.ofInt 1)), none] [] (147, f, I, RP f sw) Q else if (I 63 ((I 68 (((u1 * 3) + u4).toNatClampNeg)).toNatClampNeg)) = (I 70 (((u1 * 3) + u4).toNatClampNeg)) then wp G (d + 20) (mt 154) 4 [some (.ref 65), some (.int u1), some (.ref 63), some (.int 1), some (.int (u4 + Int32.ofInt 1)), none] [] (147, f, I, RP f sw) Q else wp G (d + 20) (mt 154) 4 [some (.ref 65), some (.int u1), some (.ref 63), some (.int 0), some (.int (u4 + Int32.ofInt 1)), none] [] (147, f, I, RP f sw) Q)))))) :
    wp G (d + 20) (mt 154) 4 [some (.ref 65), some (.int u1), some (.ref 63), some (.int u3), some (.int u4), none] [] (147, f, I, RP f sw) Q := vc_wp o [(154, 4, [0, 1, 2, 3, 4])] [155] 600 rfl hq

-- WreckCourt$Book.firstOwed(I[I)I, entry 0
set_option maxRecDepth 100000 in
set_option maxHeartbeats 4000000 in
theorem v_firstOwedB (o : OKs) {G : GX} {d f : Nat} {sw : Bool} {I : Nat → Nat → Int32} {c : Int32} {Q : Option Value → Hp → Prop}
    (hq : wp G (d + 40) (mt 153) 2 [some (.ref 71), some (.int c), some (.ref 63), some (.int 0)] [] (147, f, I, RP f sw) Q) :
    wp G (d + 40) (mt 153) 0 (en (mt 153) [.ref 71, .int c, .ref 63]) [] (147, f, I, RP f sw) Q := vc_wp o [(153, 2, [0, 1, 2, 3])] [] 600 rfl hq

-- WreckCourt$Book.firstOwed(I[I)I, entry 2
set_option maxRecDepth 100000 in
set_option maxHeartbeats 4000000 in
theorem v_firstOwed2B (o : OKs) {G : GX} {d f : Nat} {sw : Bool} {I : Nat → Nat → Int32} {u1 : Int32} {u3 : Int32} {Q : Option Value → Hp → Prop}
    (hq : if (I 71 0) ≤ u3 then Q (some (.int (-1000000))) (147, f, I, RP f sw) else ck (ixB u3 10) (if (I 72 u3.toNatClampNeg) = u1 then wp G (d + 39) (mt 154) 0 (en (mt 154) [.ref 71, .int u3, .ref 63]) [] (147, f, I, RP f sw) (fun v h1 => ∃ (x2 : Int32) (I1 : Nat → Nat → Int32), v = some (.int x2) ∧ h1 = (147, f, I1, RP f sw) ∧ (if x2 = 0 then wp G (d + 40) (mt 153) 2 [some (.ref 71), some (.int u1), some (.ref 63), some (.int (u3 + Int32.ofInt 1))] [] (147, f, I1, RP f sw) Q else Q (some (.int u3)) (147, f, I1, RP f sw))) else wp G (d + 40) (mt 153) 2 [some (.ref 71), some (.int u1), some (.ref 63), some (.int (u3 + Int32.ofInt 1))] [] (147, f, I, RP f sw) Q)) :
    wp G (d + 40) (mt 153) 2 [some (.ref 71), some (.int u1), some (.ref 63), some (.int u3)] [] (147, f, I, RP f sw) Q := vc_wp o [(153, 2, [0, 1, 2, 3])] [] 600 rfl hq

-- WreckCourt$Book.allHold(I[I)Z, entry 0
set_option maxRecDepth 100000 in
set_option maxHeartbeats 4000000 in
theorem v_allHoldB (o : OKs) {G : GX} {d f : Nat} {sw : Bool} {I : Nat → Nat → Int32} {r : Int32} {Q : Option Value → Hp → Prop}
    (hq : wp G (d + 20) (mt 154) 4 [some (.ref 71), some (.int r), some (.ref 63), some (.int 1), some (.int 0), none] [] (147, f, I, RP f sw) Q) :
    wp G (d + 20) (mt 154) 0 (en (mt 154) [.ref 71, .int r, .ref 63]) [] (147, f, I, RP f sw) Q := vc_wp o [(154, 4, [0, 1, 2, 3, 4])] [] 600 rfl hq

-- WreckCourt$Book.allHold(I[I)Z, entry 4
set_option maxRecDepth 100000 in
set_option maxHeartbeats 4000000 in
theorem v_allHold4B (o : OKs) {G : GX} {d f : Nat} {sw : Bool} {I : Nat → Nat → Int32} {u1 : Int32} {u3 : Int32} {u4 : Int32} {Q : Option Value → Hp → Prop}
    (hq : ck (ixB u1 10) (if (I 73 u1.toNatClampNeg) ≤ u4 then ck (decide (u3 = 0) || decide (u3 = 1)) (Q (some (.int u3)) (147, f, I, RP f sw)) else if u3 = 0 then wp G (d + 20) (mt 154) 4 [some (.ref 71), some (.int u1), some (.ref 63), some (.int 0), some (.int (u4 + Int32.ofInt 1)), none] [] (147, f, I, RP f sw) Q else ck (ixB ((u1 * 3) + u4) 30) (ck (ixB (I 74 (((u1 * 3) + u4).toNatClampNeg)) 5) (ck (ixB ((u1 * 3) + u4) 30) (ck (ixB ((u1 * 3) + u4) 30) (if (I 75 (((u1 * 3) + u4).toNatClampNeg)) = 0 then if (I 76 (((u1 * 3) + u4).toNatClampNeg)) ≤ (I 63 ((I 74 (((u1 * 3) + u4).toNatClampNeg)).toNatClampNeg)) then wp G (d + 20) (mt 154) 4 [some (.ref 71), some (.int u1), some (.ref 63), some (.int 0), some (.int (u4 + Int32.ofInt 1)), none] [] (147, f, I, RP f sw) Q else wp G (d + 20) (mt 154) 4 [some (.ref 71), some (.int u1), some (.ref 63), some (.int 1), some (.int (u4 + Int32.ofInt 1)), none] [] (147, f, I, RP f sw) Q else if (I 75 (((u1 * 3) + u4).toNatClampNeg)) = 1 then if (I 63 ((I 74 (((u1 * 3) + u4).toNatClampNeg)).toNatClampNeg)) ≤ (I 76 (((u1 * 3) + u4).toNatClampNeg)) then wp G (d + 20) (mt 154) 4 [some (.ref 71), some (.int u1), some (.ref 63), some (.int 0), some (.int (u4 + Int32.ofInt 1)), none] [] (147, f, I, RP f sw) Q else wp G (d + 20) (mt 154) 4 [some (.ref 71), some (.int u1), some (.ref 63), some (.int 1), some (.int (u4 + Int32.ofInt 1)), none] [] (147, f, I, RP f sw) Q else if (I 63 ((I 74 (((u1 * 3) + u4).toNatClampNeg)).toNatClampNeg)) = (I 76 (((u1 * 3) + u4).toNatClampNeg)) then wp G (d + 20) (mt 154) 4 [some (.ref 71), some (.int u1), some (.ref 63), some (.int 1), some (.int (u4 + Int32.ofInt 1)), none] [] (147, f, I, RP f sw) Q else wp G (d + 20) (mt 154) 4 [some (.ref 71), some (.int u1), some (.ref 63), some (.int 0), some (.int (u4 + Int32.ofInt 1)), none] [] (147, f, I, RP f sw) Q)))))) :
    wp G (d + 20) (mt 154) 4 [some (.ref 71), some (.int u1), some (.ref 63), some (.int u3), some (.int u4), none] [] (147, f, I, RP f sw) Q := vc_wp o [(154, 4, [0, 1, 2, 3, 4])] [155] 600 rfl hq

-- WreckCourt.blame(II)I, entry 0
set_option maxRecDepth 100000 in
set_option maxHeartbeats 4000000 in
theorem v_Cblame (o : OKs) {G : GX} {d f : Nat} {sw : Bool} {I : Nat → Nat → Int32} {s : Int32} {w : Int32} {Q : Option Value → Hp → Prop}
    (hq : if s < 0 then Q (some (.int (-1000001))) (147, f, I, RP f sw) else if ((I 2 2) - 1) < s then Q (some (.int (-1000001))) (147, f, I, RP f sw) else if w < 0 then Q (some (.int (-1000001))) (147, f, I, RP f sw) else if 3 < w then Q (some (.int (-1000001))) (147, f, I, RP f sw) else wp G (d + 149) (mt 157) 0 (en (mt 157) [.ref 0, .int s]) [] (147, f, I, RP f sw) (fun v h1 => ∃ I1 : Nat → Nat → Int32, v = none ∧ h1 = (147, f, I1, RP f sw) ∧ (ck (ixB w 4) (Q (some (.int (I1 64 w.toNatClampNeg))) (147, f, I1, RP f sw))))) :
    wp G (d + 150) (mt 156) 0 (en (mt 156) [.ref 0, .int s, .int w]) [] (147, f, I, RP f sw) Q := vc_wp o [] [13, 26] 600 rfl hq

-- WreckCourt.reckon(I)V, entry 0
set_option maxRecDepth 100000 in
set_option maxHeartbeats 4000000 in
theorem v_reckonA (o : OKs) {G : GX} {d f : Nat} {I : Nat → Nat → Int32} {s : Int32} {Q : Option Value → Hp → Prop}
    (hq : wp G (d + 139) (mt 5) 0 (en (mt 5) [.ref 64, .int (-1000000)]) [] (147, f, I, RP f false) (fun v h1 => ∃ I1 : Nat → Nat → Int32, v = none ∧ h1 = (147, f, I1, RP f false) ∧ (wp G (d + 140) (mt 157) 11 [some (.ref 0), some (.int s), some (.int 0), none, none] [] (147, f, upI I1 64 0 0, RP f false) Q))) :
    wp G (d + 140) (mt 157) 0 (en (mt 157) [.ref 0, .int s]) [] (147, f, I, RP f false) Q := vc_wp o [(157, 11, [0, 1, 2]), (157, 24, [0, 1, 2, 3])] [] 600 rfl hq

-- WreckCourt.reckon(I)V, entry 11
set_option maxRecDepth 100000 in
set_option maxHeartbeats 4000000 in
theorem v_reckon11A (o : OKs) {G : GX} {d f : Nat} {I : Nat → Nat → Int32} {u1 : Int32} {u2 : Int32} {Q : Option Value → Hp → Prop}
    (hq : if 240 ≤ u2 then Q none (147, f, I, RP f false) else if (I 65 0) ≤ 0 then Q none (147, f, I, RP f false) else wp G (d + 139) (mt 152) 0 (en (mt 152) [.ref 0, .int u1, .int u2]) [] (147, f, I, RP f false) (fun v h1 => ∃ I1 : Nat → Nat → Int32, v = none ∧ h1 = (147, f, I1, RP f false) ∧ (wp G (d + 140) (mt 157) 24 [some (.ref 0), some (.int u1), some (.int u2), some (.int 0), none] [] (147, f, I1, RP f false) Q))) :
    wp G (d + 140) (mt 157) 11 [some (.ref 0), some (.int u1), some (.int u2), none, none] [] (147, f, I, RP f false) Q := vc_wp o [(157, 11, [0, 1, 2]), (157, 24, [0, 1, 2, 3])] [] 600 rfl hq

-- WreckCourt.reckon(I)V, entry 24
set_option maxRecDepth 100000 in
set_option maxHeartbeats 4000000 in
theorem v_reckon24A (o : OKs) {G : GX} {d f : Nat} {I : Nat → Nat → Int32} {u1 : Int32} {u2 : Int32} {u3 : Int32} {Q : Option Value → Hp → Prop}
    (hq : if 4 ≤ u3 then wp G (d + 140) (mt 157) 11 [some (.ref 0), some (.int u1), some (.int (u2 + Int32.ofInt 1)), none, none] [] (147, f, I, RP f false) Q else wp G (d + 139) (mt 153) 0 (en (mt 153) [.ref 65, .int u3, .ref 63]) [] (147, f, I, RP f false) (fun v h1 => ∃ (x2 : Int32) (I1 : Nat → Nat → Int32), v = some (.int x2) ∧ h1 = (147, f, I1, RP f false) ∧ (if x2 = (-1000000) then wp G (d + 140) (mt 157) 24 [some (.ref 0), some (.int u1), some (.int u2), some (.int (u3 + Int32.ofInt 1)), none] [] (147, f, I1, RP f false) Q else wp G (d + 139) (mt 48) 0 (en (mt 48) [.ref 57, .int ((u1 * 4) + u3), .int u2]) [] (147, f, I1, RP f false) (fun v h1 => ∃ (x4 : Int32) (I3 : Nat → Nat → Int32), v = some (.int x4) ∧ h1 = (147, f, I3, RP f false) ∧ (if x4 = 0 then wp G (d + 139) (mt 158) 0 (en (mt 158) [.ref 0, .int u2, .int u3, .int x2]) [] (147, f, I3, RP f false) (fun v h1 => ∃ I5 : Nat → Nat → Int32, v = none ∧ h1 = (147, f, I5, RP f false) ∧ (wp G (d + 140) (mt 157) 24 [some (.ref 0), some (.int u1), some (.int u2), some (.int (u3 + Int32.ofInt 1)), none] [] (147, f, I5, RP f false) Q)) else wp G (d + 140) (mt 157) 24 [some (.ref 0), some (.int u1), some (.int u2), some (.int (u3 + Int32.ofInt 1)), none] [] (147, f, I3, RP f false) Q))))) :
    wp G (d + 140) (mt 157) 24 [some (.ref 0), some (.int u1), some (.int u2), some (.int u3), none] [] (147, f, I, RP f false) Q := vc_wp o [(157, 11, [0, 1, 2]), (157, 24, [0, 1, 2, 3])] [150] 600 rfl hq

-- WreckCourt.reckon(I)V, entry 0
set_option maxRecDepth 100000 in
set_option maxHeartbeats 4000000 in
theorem v_reckonB (o : OKs) {G : GX} {d f : Nat} {I : Nat → Nat → Int32} {s : Int32} {Q : Option Value → Hp → Prop}
    (hq : wp G (d + 139) (mt 5) 0 (en (mt 5) [.ref 64, .int (-1000000)]) [] (147, f, I, RP f true) (fun v h1 => ∃ I1 : Nat → Nat → Int32, v = none ∧ h1 = (147, f, I1, RP f true) ∧ (wp G (d + 140) (mt 157) 11 [some (.ref 0), some (.int s), some (.int 0), none, none] [] (147, f, upI I1 64 0 0, RP f true) Q))) :
    wp G (d + 140) (mt 157) 0 (en (mt 157) [.ref 0, .int s]) [] (147, f, I, RP f true) Q := vc_wp o [(157, 11, [0, 1, 2]), (157, 24, [0, 1, 2, 3])] [] 600 rfl hq

-- WreckCourt.reckon(I)V, entry 11
set_option maxRecDepth 100000 in
set_option maxHeartbeats 4000000 in
theorem v_reckon11B (o : OKs) {G : GX} {d f : Nat} {I : Nat → Nat → Int32} {u1 : Int32} {u2 : Int32} {Q : Option Value → Hp → Prop}
    (hq : if 240 ≤ u2 then Q none (147, f, I, RP f true) else if (I 71 0) ≤ 0 then Q none (147, f, I, RP f true) else wp G (d + 139) (mt 152) 0 (en (mt 152) [.ref 0, .int u1, .int u2]) [] (147, f, I, RP f true) (fun v h1 => ∃ I1 : Nat → Nat → Int32, v = none ∧ h1 = (147, f, I1, RP f true) ∧ (wp G (d + 140) (mt 157) 24 [some (.ref 0), some (.int u1), some (.int u2), some (.int 0), none] [] (147, f, I1, RP f true) Q))) :
    wp G (d + 140) (mt 157) 11 [some (.ref 0), some (.int u1), some (.int u2), none, none] [] (147, f, I, RP f true) Q := vc_wp o [(157, 11, [0, 1, 2]), (157, 24, [0, 1, 2, 3])] [] 600 rfl hq

-- WreckCourt.reckon(I)V, entry 24
set_option maxRecDepth 100000 in
set_option maxHeartbeats 4000000 in
theorem v_reckon24B (o : OKs) {G : GX} {d f : Nat} {I : Nat → Nat → Int32} {u1 : Int32} {u2 : Int32} {u3 : Int32} {Q : Option Value → Hp → Prop}
    (hq : if 4 ≤ u3 then wp G (d + 140) (mt 157) 11 [some (.ref 0), some (.int u1), some (.int (u2 + Int32.ofInt 1)), none, none] [] (147, f, I, RP f true) Q else wp G (d + 139) (mt 153) 0 (en (mt 153) [.ref 71, .int u3, .ref 63]) [] (147, f, I, RP f true) (fun v h1 => ∃ (x2 : Int32) (I1 : Nat → Nat → Int32), v = some (.int x2) ∧ h1 = (147, f, I1, RP f true) ∧ (if x2 = (-1000000) then wp G (d + 140) (mt 157) 24 [some (.ref 0), some (.int u1), some (.int u2), some (.int (u3 + Int32.ofInt 1)), none] [] (147, f, I1, RP f true) Q else wp G (d + 139) (mt 48) 0 (en (mt 48) [.ref 57, .int ((u1 * 4) + u3), .int u2]) [] (147, f, I1, RP f true) (fun v h1 => ∃ (x4 : Int32) (I3 : Nat → Nat → Int32), v = some (.int x4) ∧ h1 = (147, f, I3, RP f true) ∧ (if x4 = 0 then wp G (d + 139) (mt 158) 0 (en (mt 158) [.ref 0, .int u2, .int u3, .int x2]) [] (147, f, I3, RP f true) (fun v h1 => ∃ I5 : Nat → Nat → Int32, v = none ∧ h1 = (147, f, I5, RP f true) ∧ (wp G (d + 140) (mt 157) 24 [some (.ref 0), some (.int u1), some (.int u2), some (.int (u3 + Int32.ofInt 1)), none] [] (147, f, I5, RP f true) Q)) else wp G (d + 140) (mt 157) 24 [some (.ref 0), some (.int u1), some (.int u2), some (.int (u3 + Int32.ofInt 1)), none] [] (147, f, I3, RP f true) Q))))) :
    wp G (d + 140) (mt 157) 24 [some (.ref 0), some (.int u1), some (.int u2), some (.int u3), none] [] (147, f, I, RP f true) Q := vc_wp o [(157, 11, [0, 1, 2]), (157, 24, [0, 1, 2, 3])] [150] 600 rfl hq

-- WreckCourt.lay(III)V, entry 0
set_option maxRecDepth 100000 in
set_option maxHeartbeats 4000000 in
theorem v_lay (o : OKs) {G : GX} {d f : Nat} {sw : Bool} {I : Nat → Nat → Int32} {m : Int32} {c : Int32} {r : Int32} {Q : Option Value → Hp → Prop}
    (hq : if (I 64 0) = 0 then Q none (147, f, upI (upI (upI (upI I 64 1 m) 64 2 c) 64 3 r) 64 0 ((I 64 0) + 1), RP f sw) else Q none (147, f, upI I 64 0 ((I 64 0) + 1), RP f sw)) :
    wp G (d + 20) (mt 158) 0 (en (mt 158) [.ref 0, .int m, .int c, .int r]) [] (147, f, I, RP f sw) Q := vc_wp o [] [] 600 rfl hq

-- WreckCourtModel.owes(III)I, entry 0
set_option maxRecDepth 100000 in
set_option maxHeartbeats 4000000 in
theorem v_Mowes (o : OKs) {G : GX} {d f : Nat} {sw : Bool} {I : Nat → Nat → Int32} {s : Int32} {m : Int32} {c : Int32} {Q : Option Value → Hp → Prop}
    (hq : if lg_cmp s.toInt64 0 < 0 then Q (some (.int (-1000001))) (147, f, upI I 93 0 0, RP f sw) else if 0 < lg_cmp s.toInt64 (((I 93 7) - 1).toInt64) then Q (some (.int (-1000001))) (147, f, upI I 93 0 0, RP f sw) else if lg_cmp m.toInt64 0 < 0 then Q (some (.int (-1000001))) (147, f, upI I 93 0 0, RP f sw) else if 0 < lg_cmp m.toInt64 239 then Q (some (.int (-1000001))) (147, f, upI I 93 0 0, RP f sw) else if lg_cmp c.toInt64 0 < 0 then Q (some (.int (-1000001))) (147, f, upI I 93 0 0, RP f sw) else if 0 < lg_cmp c.toInt64 3 then Q (some (.int (-1000001))) (147, f, upI I 93 0 0, RP f sw) else wp G (d + 119) (mt 197) 0 (en (mt 197) [.ref 93]) [] (147, f, upI I 93 0 0, RP f sw) (fun v h1 => ∃ I1 : Nat → Nat → Int32, v = none ∧ h1 = (147, f, I1, RP f sw) ∧ (wp G (d + 119) (mt 210) 0 (en (mt 210) [.ref 93, .int 9, .int 0]) [] (147, f, I1, RP f sw) (fun v h1 => ∃ I2 : Nat → Nat → Int32, v = none ∧ h1 = (147, f, I2, RP f sw) ∧ (wp G (d + 119) (mt 248) 0 (en (mt 248) [.ref 93, .int s, .int m]) [] (147, f, I2, RP f sw) (fun v h1 => ∃ I3 : Nat → Nat → Int32, v = none ∧ h1 = (147, f, I3, RP f sw) ∧ (wp G (d + 119) (mt 249) 0 (en (mt 249) [.ref 93, .int c]) [] (147, f, I3, RP f sw) (fun v h1 => ∃ (x5 : Int32) (I4 : Nat → Nat → Int32), v = some (.int x5) ∧ h1 = (147, f, I4, RP f sw) ∧ (Q (some (.int x5)) (147, f, I4, RP f sw)))))))))) :
    wp G (d + 120) (mt 247) 0 (en (mt 247) [.ref 93, .int s, .int m, .int c]) [] (147, f, I, RP f sw) Q := vc_wp o [] [184, 192, 193] 600 rfl hq

-- WreckCourtModel.look(II)V, entry 0
set_option maxRecDepth 100000 in
set_option maxHeartbeats 4000000 in
theorem v_Mlook (o : OKs) {G : GX} {d f : Nat} {sw : Bool} {I : Nat → Nat → Int32} {s : Int32} {m : Int32} {Q : Option Value → Hp → Prop}
    (hq : wp G (d + 99) (mt 199) 0 (en (mt 199) [.ref 93, .int s, .int m]) [] (147, f, I, RP f sw) (fun v h1 => ∃ (x2 : Int32) (I1 : Nat → Nat → Int32), v = some (.int x2) ∧ h1 = (147, f, I1, RP f sw) ∧ (wp G (d + 100) (mt 248) 8 [some (.ref 93), some (.int s), some (.int m)] [] (147, f, upI I1 145 0 x2, RP f sw) Q))) :
    wp G (d + 100) (mt 248) 0 (en (mt 248) [.ref 93, .int s, .int m]) [] (147, f, I, RP f sw) Q := vc_wp o [(248, 8, [0, 1, 2]), (248, 16, [0, 1, 2]), (248, 28, [0, 1, 2]), (248, 40, [0, 1, 2])] [] 600 rfl hq

-- WreckCourtModel.look(II)V, entry 8
set_option maxRecDepth 100000 in
set_option maxHeartbeats 4000000 in
theorem v_Mlook8 (o : OKs) {G : GX} {d f : Nat} {sw : Bool} {I : Nat → Nat → Int32} {u1 : Int32} {u2 : Int32} {Q : Option Value → Hp → Prop}
    (hq : wp G (d + 99) (mt 200) 0 (en (mt 200) [.ref 93, .int u1, .int u2]) [] (147, f, I, RP f sw) (fun v h1 => ∃ (x2 : Int32) (I1 : Nat → Nat → Int32), v = some (.int x2) ∧ h1 = (147, f, I1, RP f sw) ∧ (wp G (d + 100) (mt 248) 16 [some (.ref 93), some (.int u1), some (.int u2)] [] (147, f, upI I1 145 1 x2, RP f sw) Q))) :
    wp G (d + 100) (mt 248) 8 [some (.ref 93), some (.int u1), some (.int u2)] [] (147, f, I, RP f sw) Q := vc_wp o [(248, 8, [0, 1, 2]), (248, 16, [0, 1, 2]), (248, 28, [0, 1, 2]), (248, 40, [0, 1, 2])] [] 600 rfl hq

-- WreckCourtModel.look(II)V, entry 16
set_option maxRecDepth 100000 in
set_option maxHeartbeats 4000000 in
theorem v_Mlook16 (o : OKs) {G : GX} {d f : Nat} {sw : Bool} {I : Nat → Nat → Int32} {u1 : Int32} {u2 : Int32} {Q : Option Value → Hp → Prop}
    (hq : wp G (d + 99) (mt 201) 0 (en (mt 201) [.ref 93, .int 0, .int u2]) [] (147, f, I, RP f sw) (fun v h1 => ∃ (x2 : Int32) (I1 : Nat → Nat → Int32), v = some (.int x2) ∧ h1 = (147, f, I1, RP f sw) ∧ (if x2 = 0 then wp G (d + 100) (mt 248) 28 [some (.ref 93), some (.int u1), some (.int u2)] [] (147, f, upI I1 145 2 0, RP f sw) Q else wp G (d + 100) (mt 248) 28 [some (.ref 93), some (.int u1), some (.int u2)] [] (147, f, upI I1 145 2 1, RP f sw) Q))) :
    wp G (d + 100) (mt 248) 16 [some (.ref 93), some (.int u1), some (.int u2)] [] (147, f, I, RP f sw) Q := vc_wp o [(248, 8, [0, 1, 2]), (248, 16, [0, 1, 2]), (248, 28, [0, 1, 2]), (248, 40, [0, 1, 2])] [] 600 rfl hq

-- WreckCourtModel.look(II)V, entry 28
set_option maxRecDepth 100000 in
set_option maxHeartbeats 4000000 in
theorem v_Mlook28 (o : OKs) {G : GX} {d f : Nat} {sw : Bool} {I : Nat → Nat → Int32} {u1 : Int32} {u2 : Int32} {Q : Option Value → Hp → Prop}
    (hq : wp G (d + 99) (mt 201) 0 (en (mt 201) [.ref 93, .int 1, .int u2]) [] (147, f, I, RP f sw) (fun v h1 => ∃ (x2 : Int32) (I1 : Nat → Nat → Int32), v = some (.int x2) ∧ h1 = (147, f, I1, RP f sw) ∧ (if x2 = 0 then wp G (d + 100) (mt 248) 40 [some (.ref 93), some (.int u1), some (.int u2)] [] (147, f, upI I1 145 3 0, RP f sw) Q else wp G (d + 100) (mt 248) 40 [some (.ref 93), some (.int u1), some (.int u2)] [] (147, f, upI I1 145 3 1, RP f sw) Q))) :
    wp G (d + 100) (mt 248) 28 [some (.ref 93), some (.int u1), some (.int u2)] [] (147, f, I, RP f sw) Q := vc_wp o [(248, 8, [0, 1, 2]), (248, 16, [0, 1, 2]), (248, 28, [0, 1, 2]), (248, 40, [0, 1, 2])] [] 600 rfl hq

-- WreckCourtModel.look(II)V, entry 40
set_option maxRecDepth 100000 in
set_option maxHeartbeats 4000000 in
theorem v_Mlook40 (o : OKs) {G : GX} {d f : Nat} {sw : Bool} {I : Nat → Nat → Int32} {u1 : Int32} {u2 : Int32} {Q : Option Value → Hp → Prop}
    (hq : if u1 = 0 then wp G (d + 99) (mt 213) 0 (en (mt 213) [.ref 93, .int u2]) [] (147, f, I, RP f sw) (fun v h1 => ∃ (x2 : Int32) (I1 : Nat → Nat → Int32), v = some (.int x2) ∧ h1 = (147, f, I1, RP f sw) ∧ (Q none (147, f, upI I1 145 4 x2, RP f sw))) else Q none (147, f, upI I 145 4 0, RP f sw)) :
    wp G (d + 100) (mt 248) 40 [some (.ref 93), some (.int u1), some (.int u2)] [] (147, f, I, RP f sw) Q := vc_wp o [(248, 8, [0, 1, 2]), (248, 16, [0, 1, 2]), (248, 28, [0, 1, 2]), (248, 40, [0, 1, 2])] [] 600 rfl hq

-- WreckCourtModel.ruleFor(I)I, entry 0
set_option maxRecDepth 100000 in
set_option maxHeartbeats 4000000 in
theorem v_MruleFor (o : OKs) {G : GX} {d f : Nat} {sw : Bool} {I : Nat → Nat → Int32} {c : Int32} {Q : Option Value → Hp → Prop}
    (hq : wp G (d + 10) (mt 249) 2 [some (.ref 93), some (.int c), some (.int 0), none, none, none, none, none] [] (147, f, I, RP f sw) Q) :
    wp G (d + 10) (mt 249) 0 (en (mt 249) [.ref 93, .int c]) [] (147, f, I, RP f sw) Q := vc_wp o [(249, 2, [0, 1, 2]), (249, 18, [0, 1, 2, 3, 4])] [] 600 rfl hq

-- WreckCourtModel.ruleFor(I)I, entry 2
set_option maxRecDepth 100000 in
set_option maxHeartbeats 4000000 in
theorem v_MruleFor2 (o : OKs) {G : GX} {d f : Nat} {sw : Bool} {I : Nat → Nat → Int32} {u1 : Int32} {u2 : Int32} {Q : Option Value → Hp → Prop}
    (hq : if (I 93 54) ≤ u2 then Q (some (.int (-1000000))) (147, f, I, RP f sw) else ck (ixB u2 10) (if (I 136 u2.toNatClampNeg) = u1 then wp G (d + 10) (mt 249) 18 [some (.ref 93), some (.int u1), some (.int u2), some (.int 1), some (.int 0), none, none, none] [] (147, f, I, RP f sw) Q else wp G (d + 10) (mt 249) 18 [some (.ref 93), some (.int u1), some (.int u2), some (.int 0), some (.int 0), none, none, none] [] (147, f, I, RP f sw) Q)) :
    wp G (d + 10) (mt 249) 2 [some (.ref 93), some (.int u1), some (.int u2), none, none, none, none, none] [] (147, f, I, RP f sw) Q := vc_wp o [(249, 2, [0, 1, 2]), (249, 18, [0, 1, 2, 3, 4])] [] 600 rfl hq

-- WreckCourtModel.ruleFor(I)I, entry 18
set_option maxRecDepth 100000 in
set_option maxHeartbeats 4000000 in
theorem v_MruleFor18 (o : OKs) {G : GX} {d f : Nat} {sw : Bool} {I : Nat → Nat → Int32} {u1 : Int32} {u2 : Int32} {u3 : Int32} {u4 : Int32} {Q : Option Value → Hp → Prop}
    (hq : ck (ixB u2 10) (if (I 134 u2.toNatClampNeg) ≤ u4 then if u3 = 0 then wp G (d + 10) (mt 249) 2 [some (.ref 93), some (.int u1), some (.int (u2 + Int32.ofInt 1)), none, none, none, none, none] [] (147, f, I, RP f sw) Q else Q (some (.int u2)) (147, f, I, RP f sw) else ck (ixB ((9 * u2) + (3 * u4)) 90) (ck (ixB (I 135 (((9 * u2) + (3 * u4)).toNatClampNeg)) 5) (ck (ixB (((9 * u2) + (3 * u4)) + 2) 90) (if u3 = 0 then wp G (d + 10) (mt 249) 18 [some (.ref 93), some (.int u1), some (.int u2), some (.int 0), some (.int (u4 + Int32.ofInt 1)), none, none, none] [] (147, f, I, RP f sw) Q else ck (ixB (((9 * u2) + (3 * u4)) + 1) 90) (if (I 135 ((((9 * u2) + (3 * u4)) + 1).toNatClampNeg)) = 60 then if (I 135 ((((9 * u2) + (3 * u4)) + 2).toNatClampNeg)) ≤ (I 145 ((I 135 (((9 * u2) + (3 * u4)).toNatClampNeg)).toNatClampNeg)) then wp G (d + 10) (mt 249) 18 [some (.ref 93), some (.int u1), some (.int u2), some (.int 0), some (.int (u4 + Int32.ofInt 1)), none, none, none] [] (147, f, I, RP f sw) Q else wp G (d + 10) (mt 249) 18 [some (.ref 93), some (.int u1), some (.int u2), some (.int 1), some (.int (u4 + Int32.ofInt 1)), none, none, none] [] (147, f, I, RP f sw) Q else ck (ixB (((9 * u2) + (3 * u4)) + 1) 90) (if (I 135 ((((9 * u2) + (3 * u4)) + 1).toNatClampNeg)) = 62 then if (I 145 ((I 135 (((9 * u2) + (3 * u4)).toNatClampNeg)).toNatClampNeg)) ≤ (I 135 ((((9 * u2) + (3 * u4)) + 2).toNatClampNeg)) then wp G (d + 10) (mt 249) 18 [some (.ref 93), some (.int u1), some (.int u2), some (.int 0), some (.int (u4 + Int32.ofInt 1)), none, none, none] [] (147, f, I, RP f sw) Q else wp G (d + 10) (mt 249) 18 [some (.ref 93), some (.int u1), some (.int u2), some (.int 1), some (.int (u4 + Int32.ofInt 1)), none, none, none] [] (147, f, I, RP f sw) Q else if (I 145 ((I 135 (((9 * u2) + (3 * u4)).toNatClampNeg)).toNatClampNeg)) = (I 135 ((((9 * u2) + (3 * u4)) + 2).toNatClampNeg)) then wp G (d + 10) (mt 249) 18 [some (.ref 93), some (.int u1), some (.int u2), some (.int 1), some (.int (u4 + Int32.ofInt 1)), none, none, none] [] (147, f, I, RP f sw) Q else wp G (d + 10) (mt 249) 18 [some (.ref 93), some (.int u1), some (.int u2), some (.int 0), some (.int (u4 + Int32.ofInt 1)), none, none, none] [] (147, f, I, RP f sw) Q))))))) :
    wp G (d + 10) (mt 249) 18 [some (.ref 93), some (.int u1), some (.int u2), some (.int u3), some (.int u4), none, none, none] [] (147, f, I, RP f sw) Q := vc_wp o [(249, 2, [0, 1, 2]), (249, 18, [0, 1, 2, 3, 4])] [] 600 rfl hq

-- WreckCourtModel.isDone(III)Z, entry 0
set_option maxRecDepth 100000 in
set_option maxHeartbeats 4000000 in
theorem v_MisDone (o : OKs) {G : GX} {d f : Nat} {sw : Bool} {I : Nat → Nat → Int32} {s : Int32} {m : Int32} {c : Int32} {Q : Option Value → Hp → Prop}
    (hq : wp G (d + 10) (mt 251) 4 [some (.ref 93), some (.int s), some (.int m), some (.int c), some (.int 0), some (.int 0)] [] (147, f, I, RP f sw) Q) :
    wp G (d + 10) (mt 251) 0 (en (mt 251) [.ref 93, .int s, .int m, .int c]) [] (147, f, I, RP f sw) Q := vc_wp o [(251, 4, [0, 1, 2, 3, 4, 5])] [] 600 rfl hq

-- WreckCourtModel.isDone(III)Z, entry 4
set_option maxRecDepth 100000 in
set_option maxHeartbeats 4000000 in
theorem v_MisDone4 (o : OKs) {G : GX} {d f : Nat} {sw : Bool} {I : Nat → Nat → Int32} {u1 : Int32} {u2 : Int32} {u3 : Int32} {u4 : Int32} {u5 : Int32} {Q : Option Value → Hp → Prop}
    (hq : if (I 93 72) ≤ u5 then ck (decide (u4 = 0) || decide (u4 = 1)) (Q (some (.int u4)) (147, f, I, RP f sw)) else if u4 = 0 then ck (ixB u5 40) (if (I 141 u5.toNatClampNeg) = u1 then ck (ixB u5 40) (if (I 142 u5.toNatClampNeg) = u3 then ck (ixB u5 40) (if u2 < (I 143 u5.toNatClampNeg) then wp G (d + 10) (mt 251) 4 [some (.ref 93), some (.int u1), some (.int u2), some (.int u3), some (.int 0), some (.int (u5 + Int32.ofInt 1))] [] (147, f, I, RP f sw) Q else ck (ixB u5 40) (if (I 144 u5.toNatClampNeg) ≤ u2 then wp G (d + 10) (mt 251) 4 [some (.ref 93), some (.int u1), some (.int u2), some (.int u3), some (.int 0), some (.int (u5 + Int32.ofInt 1))] [] (147, f, I, RP f sw) Q else wp G (d + 10) (mt 251) 4 [some (.ref 93), some (.int u1), some (.int u2), some (.int u3), some (.int 1), some (.int (u5 + Int32.ofInt 1))] [] (147, f, I, RP f sw) Q)) else wp G (d + 10) (mt 251) 4 [some (.ref 93), some (.int u1), some (.int u2), some (.int u3), some (.int 0), some (.int (u5 + Int32.ofInt 1))] [] (147, f, I, RP f sw) Q) else wp G (d + 10) (mt 251) 4 [some (.ref 93), some (.int u1), some (.int u2), some (.int u3), some (.int 0), some (.int (u5 + Int32.ofInt 1))] [] (147, f, I, RP f sw) Q) else wp G (d + 10) (mt 251) 4 [some (.ref 93), some (.int u1), some (.int u2), some (.int u3), some (.int 1), some (.int (u5 + Int32.ofInt 1))] [] (147, f, I, RP f sw) Q) :
    wp G (d + 10) (mt 251) 4 [some (.ref 93), some (.int u1), some (.int u2), some (.int u3), some (.int u4), some (.int u5)] [] (147, f, I, RP f sw) Q := vc_wp o [(251, 4, [0, 1, 2, 3, 4, 5])] [] 600 rfl hq

-- WreckCourtModel.blame(II)I, entry 0
set_option maxRecDepth 100000 in
set_option maxHeartbeats 4000000 in
theorem v_Mblame (o : OKs) {G : GX} {d f : Nat} {sw : Bool} {I : Nat → Nat → Int32} {s : Int32} {w : Int32} {Q : Option Value → Hp → Prop}
    (hq : if lg_cmp s.toInt64 0 < 0 then Q (some (.int (-1000001))) (147, f, upI I 93 0 0, RP f sw) else if 0 < lg_cmp s.toInt64 (((I 93 7) - 1).toInt64) then Q (some (.int (-1000001))) (147, f, upI I 93 0 0, RP f sw) else if lg_cmp w.toInt64 0 < 0 then Q (some (.int (-1000001))) (147, f, upI I 93 0 0, RP f sw) else if 0 < lg_cmp w.toInt64 3 then Q (some (.int (-1000001))) (147, f, upI I 93 0 0, RP f sw) else wp G (d + 129) (mt 197) 0 (en (mt 197) [.ref 93]) [] (147, f, upI I 93 0 0, RP f sw) (fun v h1 => ∃ I1 : Nat → Nat → Int32, v = none ∧ h1 = (147, f, I1, RP f sw) ∧ (wp G (d + 129) (mt 210) 0 (en (mt 210) [.ref 93, .int 9, .int 0]) [] (147, f, I1, RP f sw) (fun v h1 => ∃ I2 : Nat → Nat → Int32, v = none ∧ h1 = (147, f, I2, RP f sw) ∧ (wp G (d + 130) (mt 250) 31 [some (.ref 93), some (.int s), some (.int w), some (.int 0), some (.int (-1000000)), some (.int (-1000000)), some (.int (-1000000)), some (.int 0), none, none] [] (147, f, I2, RP f sw) Q))))) :
    wp G (d + 130) (mt 250) 0 (en (mt 250) [.ref 93, .int s, .int w]) [] (147, f, I, RP f sw) Q := vc_wp o [(250, 31, [0, 1, 2, 3, 4, 5, 6, 7]), (250, 40, [0, 1, 2, 3, 4, 5, 6, 7, 8])] [184, 192] 600 rfl hq

-- WreckCourtModel.blame(II)I, entry 31
set_option maxRecDepth 100000 in
set_option maxHeartbeats 4000000 in
theorem v_Mblame31 (o : OKs) {G : GX} {d f : Nat} {sw : Bool} {I : Nat → Nat → Int32} {u1 : Int32} {u2 : Int32} {u3 : Int32} {u4 : Int32} {u5 : Int32} {u6 : Int32} {u7 : Int32} {Q : Option Value → Hp → Prop}
    (hq : if 240 ≤ u7 then if u2 = 0 then Q (some (.int u3)) (147, f, I, RP f sw) else if u2 = 1 then Q (some (.int u4)) (147, f, I, RP f sw) else if u2 = 2 then Q (some (.int u5)) (147, f, I, RP f sw) else Q (some (.int u6)) (147, f, I, RP f sw) else wp G (d + 129) (mt 248) 0 (en (mt 248) [.ref 93, .int u1, .int u7]) [] (147, f, I, RP f sw) (fun v h1 => ∃ I1 : Nat → Nat → Int32, v = none ∧ h1 = (147, f, I1, RP f sw) ∧ (wp G (d + 130) (mt 250) 40 [some (.ref 93), some (.int u1), some (.int u2), some (.int u3), some (.int u4), some (.int u5), some (.int u6), some (.int u7), some (.int 0), none] [] (147, f, I1, RP f sw) Q))) :
    wp G (d + 130) (mt 250) 31 [some (.ref 93), some (.int u1), some (.int u2), some (.int u3), some (.int u4), some (.int u5), some (.int u6), some (.int u7), none, none] [] (147, f, I, RP f sw) Q := vc_wp o [(250, 31, [0, 1, 2, 3, 4, 5, 6, 7]), (250, 40, [0, 1, 2, 3, 4, 5, 6, 7, 8])] [] 600 rfl hq

-- WreckCourtModel.blame(II)I, entry 40
set_option maxRecDepth 100000 in
set_option maxHeartbeats 4000000 in
theorem v_Mblame40 (o : OKs) {G : GX} {d f : Nat} {sw : Bool} {I : Nat → Nat → Int32} {u1 : Int32} {u2 : Int32} {u3 : Int32} {u4 : Int32} {u5 : Int32} {u6 : Int32} {u7 : Int32} {u8 : Int32} {Q : Option Value → Hp → Prop}
    (hq : if 4 ≤ u8 then wp G (d + 130) (mt 250) 31 [some (.ref 93), some (.int u1), some (.int u2), some (.int u3), some (.int u4), some (.int u5), some (.int u6), some (.int (u7 + Int32.ofInt 1)), none, none] [] (147, f, I, RP f sw) Q else wp G (d + 129) (mt 249) 0 (en (mt 249) [.ref 93, .int u8]) [] (147, f, I, RP f sw) (fun v h1 => ∃ (x2 : Int32) (I1 : Nat → Nat → Int32), v = some (.int x2) ∧ h1 = (147, f, I1, RP f sw) ∧ (if x2 = (-1000000) then wp G (d + 130) (mt 250) 40 [some (.ref 93), some (.int u1), some (.int u2), some (.int u3), some (.int u4), some (.int u5), some (.int u6), some (.int u7), some (.int (u8 + Int32.ofInt 1)), none] [] (147, f, I1, RP f sw) Q else wp G (d + 129) (mt 251) 0 (en (mt 251) [.ref 93, .int u1, .int u7, .int u8]) [] (147, f, I1, RP f sw) (fun v h1 => ∃ (x4 : Int32) (I3 : Nat → Nat → Int32), v = some (.int x4) ∧ h1 = (147, f, I3, RP f sw) ∧ (if x4 = 0 then if u3 = 0 then wp G (d + 130) (mt 250) 40 [some (.ref 93), some (.int u1), some (.int u2), some (.int (u3 + Int32.ofInt 1)), some (.int u7), some (.int u8), some (.int x2), some (.int u7), some (.int (u8 + Int32.ofInt 1)), none] [] (147, f, I3, RP f sw) Q else wp G (d + 130) (mt 250) 40 [some (.ref 93), some (.int u1), some (.int u2), some (.int (u3 + Int32.ofInt 1)), some (.int u4), some (.int u5), some (.int u6), some (.int u7), some (.int (u8 + Int32.ofInt 1)), none] [] (147, f, I3, RP f sw) Q else wp G (d + 130) (mt 250) 40 [some (.ref 93), some (.int u1), some (.int u2), some (.int u3), some (.int u4), some (.int u5), some (.int u6), some (.int u7), some (.int (u8 + Int32.ofInt 1)), none] [] (147, f, I3, RP f sw) Q))))) :
    wp G (d + 130) (mt 250) 40 [some (.ref 93), some (.int u1), some (.int u2), some (.int u3), some (.int u4), some (.int u5), some (.int u6), some (.int u7), some (.int u8), none] [] (147, f, I, RP f sw) Q := vc_wp o [(250, 31, [0, 1, 2, 3, 4, 5, 6, 7]), (250, 40, [0, 1, 2, 3, 4, 5, 6, 7, 8])] [] 600 rfl hq
