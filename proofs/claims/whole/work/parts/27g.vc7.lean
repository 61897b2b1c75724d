/-! CONDITIONS of the hull -/
-- WreckCourt$Vessel.letIn(II)V, entry 0
set_option maxRecDepth 100000 in
set_option maxHeartbeats 4000000 in
theorem v_letIn (o : OKs) {G : GX} {d f : Nat} {sw : Bool} {I : Nat → Nat → Int32} {m : Int32} {wo : Int32} {Q : Option Value → Hp → Prop}
    (hq : wp G (d + 10) (mt 68) 2 [some (.ref 29), some (.int m), some (.int wo), some (.int 0), none] [] (147, f, I, RP f sw) Q) :
    wp G (d + 10) (mt 68) 0 (en (mt 68) [.ref 29, .int m, .int wo]) [] (147, f, I, RP f sw) Q := vc_wp o [(68, 2, [0, 1, 2, 3])] [] 600 rfl hq

-- WreckCourt$Vessel.letIn(II)V, entry 2
set_option maxRecDepth 100000 in
set_option maxHeartbeats 4000000 in
theorem v_letIn2 (o : OKs) {G : GX} {d f : Nat} {sw : Bool} {I : Nat → Nat → Int32} {u1 : Int32} {u2 : Int32} {u3 : Int32} {Q : Option Value → Hp → Prop}
    (hq : if (I 29 1) ≤ u3 then Q none (147, f, I, RP f sw) else if u3 = u2 then wp G (d + 10) (mt 68) 2 [some (.ref 29), some (.int u1), some (.int u2), some (.int (u3 + Int32.ofInt 1)), none] [] (147, f, I, RP f sw) Q else ck (ixB u3 10) (if u1 < (I 36 u3.toNatClampNeg) then wp G (d + 10) (mt 68) 2 [some (.ref 29), some (.int u1), some (.int u2), some (.int (u3 + Int32.ofInt 1)), none] [] (147, f, I, RP f sw) Q else ck (ixB u3 10) (ck (ixB (I 35 u3.toNatClampNeg) 6) (ck (ixB u3 10) (ck (ixB (I 35 u3.toNatClampNeg) 6) (ck (ixB (I 35 u3.toNatClampNeg) 6) (ck (ixB (I 35 u3.toNatClampNeg) 6) (wp G (d + 10) (mt 68) 2 [some (.ref 29), some (.int u1), some (.int u2), some (.int (u3 + Int32.ofInt 1)), none] [] (147, f, upI I 39 ((I 35 u3.toNatClampNeg).toNatClampNeg) ((I 39 ((I 35 u3.toNatClampNeg).toNatClampNeg)) + (if ((I 34 ((I 35 u3.toNatClampNeg).toNatClampNeg)) - (I 39 ((I 35 u3.toNatClampNeg).toNatClampNeg))) < (I 37 u3.toNatClampNeg) then ((I 34 ((I 35 u3.toNatClampNeg).toNatClampNeg)) - (I 39 ((I 35 u3.toNatClampNeg).toNatClampNeg))) else (I 37 u3.toNatClampNeg))), RP f sw) Q)))))))) :
    wp G (d + 10) (mt 68) 2 [some (.ref 29), some (.int u1), some (.int u2), some (.int u3), none] [] (147, f, I, RP f sw) Q := vc_wp o [(68, 2, [0, 1, 2, 3])] [] 600 rfl hq

-- WreckCourt$Vessel.levelOut()V, entry 0
set_option maxRecDepth 100000 in
set_option maxHeartbeats 4000000 in
theorem v_levelOut (o : OKs) {G : GX} {d f : Nat} {sw : Bool} {I : Nat → Nat → Int32}  {Q : Option Value → Hp → Prop}
    (hq : wp G (d + 10) (mt 70) 2 [some (.ref 29), some (.int 0), none, none, none, none] [] (147, f, I, RP f sw) Q) :
    wp G (d + 10) (mt 70) 0 (en (mt 70) [.ref 29]) [] (147, f, I, RP f sw) Q := vc_wp o [(70, 2, [0, 1]), (70, 26, [0, 1, 2]), (70, 42, [0, 1, 3, 4]), (70, 80, [0, 1])] [] 600 rfl hq

-- WreckCourt$Vessel.levelOut()V, entry 2
set_option maxRecDepth 100000 in
set_option maxHeartbeats 4000000 in
theorem v_levelOut2 (o : OKs) {G : GX} {d f : Nat} {sw : Bool} {I : Nat → Nat → Int32} {u1 : Int32} {Q : Option Value → Hp → Prop}
    (hq : if 5 ≤ u1 then Q none (147, f, I, RP f sw) else ck (ixB u1 5) (if (I 38 u1.toNatClampNeg) = 1 then ck (ixB u1 6) (ck (ixB (u1 + 1) 6) (if (I 39 u1.toNatClampNeg) ≤ (I 39 ((u1 + 1).toNatClampNeg)) then wp G (d + 10) (mt 70) 26 [some (.ref 29), some (.int u1), some (.int 0), none, none, none] [] (147, f, I, RP f sw) Q else wp G (d + 10) (mt 70) 26 [some (.ref 29), some (.int u1), some (.int 1), none, none, none] [] (147, f, I, RP f sw) Q)) else wp G (d + 10) (mt 70) 80 [some (.ref 29), some (.int u1), none, none, none, none] [] (147, f, I, RP f sw) Q)) :
    wp G (d + 10) (mt 70) 2 [some (.ref 29), some (.int u1), none, none, none, none] [] (147, f, I, RP f sw) Q := vc_wp o [(70, 2, [0, 1]), (70, 26, [0, 1, 2]), (70, 42, [0, 1, 3, 4]), (70, 80, [0, 1])] [] 600 rfl hq

-- WreckCourt$Vessel.levelOut()V, entry 26
set_option maxRecDepth 100000 in
set_option maxHeartbeats 4000000 in
theorem v_levelOut26 (o : OKs) {G : GX} {d f : Nat} {sw : Bool} {I : Nat → Nat → Int32} {u1 : Int32} {u2 : Int32} {Q : Option Value → Hp → Prop}
    (hq : if u2 = 0 then if u2 = 0 then wp G (d + 10) (mt 70) 42 [some (.ref 29), some (.int u1), none, some (.int (u1 + 1)), some (.int u1), none] [] (147, f, I, RP f sw) Q else wp G (d + 10) (mt 70) 42 [some (.ref 29), some (.int u1), none, some (.int (u1 + 1)), some (.int (u1 + 1)), none] [] (147, f, I, RP f sw) Q else if u2 = 0 then wp G (d + 10) (mt 70) 42 [some (.ref 29), some (.int u1), none, some (.int u1), some (.int u1), none] [] (147, f, I, RP f sw) Q else wp G (d + 10) (mt 70) 42 [some (.ref 29), some (.int u1), none, some (.int u1), some (.int (u1 + 1)), none] [] (147, f, I, RP f sw) Q) :
    wp G (d + 10) (mt 70) 26 [some (.ref 29), some (.int u1), some (.int u2), none, none, none] [] (147, f, I, RP f sw) Q := vc_wp o [(70, 2, [0, 1]), (70, 26, [0, 1, 2]), (70, 42, [0, 1, 3, 4]), (70, 80, [0, 1])] [] 600 rfl hq

-- WreckCourt$Vessel.levelOut()V, entry 42
set_option maxRecDepth 100000 in
set_option maxHeartbeats 4000000 in
theorem v_levelOut42 (o : OKs) {G : GX} {d f : Nat} {sw : Bool} {I : Nat → Nat → Int32} {u1 : Int32} {u3 : Int32} {u4 : Int32} {Q : Option Value → Hp → Prop}
    (hq : ck (ixB u3 6) (ck (ixB u4 6) (ck (ixB u4 6) (ck (ixB u4 6) (ck (ixB u3 6) (ck (ixB u3 6) (ck (ixB u4 6) (ck (ixB u4 6) (wp G (d + 10) (mt 70) 80 [some (.ref 29), some (.int u1), none, none, none, none] [] (147, f, upI (upI I 39 u3.toNatClampNeg ((I 39 u3.toNatClampNeg) - (if ((I 34 u4.toNatClampNeg) - (I 39 u4.toNatClampNeg)) < (((I 39 u3.toNatClampNeg) - (I 39 u4.toNatClampNeg)) / 2) then ((I 34 u4.toNatClampNeg) - (I 39 u4.toNatClampNeg)) else (((I 39 u3.toNatClampNeg) - (I 39 u4.toNatClampNeg)) / 2)))) 39 u4.toNatClampNeg (((upI I 39 u3.toNatClampNeg ((I 39 u3.toNatClampNeg) - (if ((I 34 u4.toNatClampNeg) - (I 39 u4.toNatClampNeg)) < (((I 39 u3.toNatClampNeg) - (I 39 u4.toNatClampNeg)) / 2) then ((I 34 u4.toNatClampNeg) - (I 39 u4.toNatClampNeg)) else (((I 39 u3.toNatClampNeg) - (I 39 u4.toNatClampNeg)) / 2)))) 39 u4.toNatClampNeg) + (if ((I 34 u4.toNatClampNeg) - (I 39 u4.toNatClampNeg)) < (((I 39 u3.toNatClampNeg) - (I 39 u4.toNatClampNeg)) / 2) then ((I 34 u4.toNatClampNeg) - (I 39 u4.toNatClampNeg)) else (((I 39 u3.toNatClampNeg) - (I 39 u4.toNatClampNeg)) / 2))), RP f sw) Q))))))))) :
    wp G (d + 10) (mt 70) 42 [some (.ref 29), some (.int u1), none, some (.int u3), some (.int u4), none] [] (147, f, I, RP f sw) Q := vc_wp o [(70, 2, [0, 1]), (70, 26, [0, 1, 2]), (70, 42, [0, 1, 3, 4]), (70, 80, [0, 1])] [] 600 rfl hq

-- WreckCourt$Vessel.levelOut()V, entry 80
set_option maxRecDepth 100000 in
set_option maxHeartbeats 4000000 in
theorem v_levelOut80 (o : OKs) {G : GX} {d f : Nat} {sw : Bool} {I : Nat → Nat → Int32} {u1 : Int32} {Q : Option Value → Hp → Prop}
    (hq : wp G (d + 10) (mt 70) 2 [some (.ref 29), some (.int (u1 + Int32.ofInt 1)), none, none, none, none] [] (147, f, I, RP f sw) Q) :
    wp G (d + 10) (mt 70) 80 [some (.ref 29), some (.int u1), none, none, none, none] [] (147, f, I, RP f sw) Q := vc_wp o [(70, 2, [0, 1]), (70, 26, [0, 1, 2]), (70, 42, [0, 1, 3, 4]), (70, 80, [0, 1])] [] 600 rfl hq

-- WreckCourt$Vessel.pumpOut(I)V, entry 0
set_option maxRecDepth 100000 in
set_option maxHeartbeats 4000000 in
theorem v_pumpOut (o : OKs) {G : GX} {d f : Nat} {sw : Bool} {I : Nat → Nat → Int32} {p : Int32} {Q : Option Value → Hp → Prop}
    (hq : wp G (d + 10) (mt 71) 4 [some (.ref 29), some (.int p), some (.int 0), some (.int 1)] [] (147, f, I, RP f sw) Q) :
    wp G (d + 10) (mt 71) 0 (en (mt 71) [.ref 29, .int p]) [] (147, f, I, RP f sw) Q := vc_wp o [(71, 4, [0, 1, 2, 3])] [] 600 rfl hq

-- WreckCourt$Vessel.pumpOut(I)V, entry 4
set_option maxRecDepth 100000 in
set_option maxHeartbeats 4000000 in
theorem v_pumpOut4 (o : OKs) {G : GX} {d f : Nat} {sw : Bool} {I : Nat → Nat → Int32} {u1 : Int32} {u2 : Int32} {u3 : Int32} {Q : Option Value → Hp → Prop}
    (hq : if 6 ≤ u3 then ck (ixB u2 6) (ck (ixB u2 6) (ck (ixB u2 6) (Q none (147, f, upI I 39 u2.toNatClampNeg ((I 39 u2.toNatClampNeg) - (if (I 39 u2.toNatClampNeg) < u1 then (I 39 u2.toNatClampNeg) else u1)), RP f sw)))) else ck (ixB u3 6) (ck (ixB u2 6) (if (I 39 u3.toNatClampNeg) ≤ (I 39 u2.toNatClampNeg) then wp G (d + 10) (mt 71) 4 [some (.ref 29), some (.int u1), some (.int u2), some (.int (u3 + Int32.ofInt 1))] [] (147, f, I, RP f sw) Q else wp G (d + 10) (mt 71) 4 [some (.ref 29), some (.int u1), some (.int u3), some (.int (u3 + Int32.ofInt 1))] [] (147, f, I, RP f sw) Q))) :
    wp G (d + 10) (mt 71) 4 [some (.ref 29), some (.int u1), some (.int u2), some (.int u3)] [] (147, f, I, RP f sw) Q := vc_wp o [(71, 4, [0, 1, 2, 3])] [] 600 rfl hq

-- WreckCourt$Vessel.held()I, entry 0
set_option maxRecDepth 100000 in
set_option maxHeartbeats 4000000 in
theorem v_held (o : OKs) {G : GX} {d f : Nat} {sw : Bool} {I : Nat → Nat → Int32}  {Q : Option Value → Hp → Prop}
    (hq : wp G (d + 10) (mt 73) 4 [some (.ref 29), some (.int 0), some (.int 0)] [] (147, f, I, RP f sw) Q) :
    wp G (d + 10) (mt 73) 0 (en (mt 73) [.ref 29]) [] (147, f, I, RP f sw) Q := vc_wp o [(73, 4, [0, 1, 2])] [] 600 rfl hq

-- WreckCourt$Vessel.held()I, entry 4
set_option maxRecDepth 100000 in
set_option maxHeartbeats 4000000 in
theorem v_held4 (o : OKs) {G : GX} {d f : Nat} {sw : Bool} {I : Nat → Nat → Int32} {u1 : Int32} {u2 : Int32} {Q : Option Value → Hp → Prop}
    (hq : if 6 ≤ u2 then Q (some (.int u1)) (147, f, I, RP f sw) else ck (ixB u2 6) (wp G (d + 10) (mt 73) 4 [some (.ref 29), some (.int (u1 + (I 39 u2.toNatClampNeg))), some (.int (u2 + Int32.ofInt 1))] [] (147, f, I, RP f sw) Q)) :
    wp G (d + 10) (mt 73) 4 [some (.ref 29), some (.int u1), some (.int u2)] [] (147, f, I, RP f sw) Q := vc_wp o [(73, 4, [0, 1, 2])] [] 600 rfl hq

-- WreckCourt$Vessel.keep(I)V, entry 0
set_option maxRecDepth 100000 in
set_option maxHeartbeats 4000000 in
theorem v_keep (o : OKs) {G : GX} {d f : Nat} {sw : Bool} {I : Nat → Nat → Int32} {m : Int32} {Q : Option Value → Hp → Prop}
    (hq : wp G (d + 10) (mt 72) 2 [some (.ref 29), some (.int m), some (.int 0)] [] (147, f, I, RP f sw) Q) :
    wp G (d + 10) (mt 72) 0 (en (mt 72) [.ref 29, .int m]) [] (147, f, I, RP f sw) Q := vc_wp o [(72, 2, [0, 1, 2])] [] 600 rfl hq

-- WreckCourt$Vessel.keep(I)V, entry 2
set_option maxRecDepth 100000 in
set_option maxHeartbeats 4000000 in
theorem v_keep2 (o : OKs) {G : GX} {d f : Nat} {sw : Bool} {I : Nat → Nat → Int32} {u1 : Int32} {u2 : Int32} {Q : Option Value → Hp → Prop}
    (hq : if 6 ≤ u2 then Q none (147, f, I, RP f sw) else ck (ixB u2 6) (oV ((RP f sw) 40 u2.toNatClampNeg) (fun q1 => ck (ixB u2 6) (ck (okB (147, f, I, RP f sw) q1 20) (ck (ixB u1 (SH q1).2) (wp G (d + 10) (mt 72) 2 [some (.ref 29), some (.int u1), some (.int (u2 + Int32.ofInt 1))] [] (147, f, upI I q1 u1.toNatClampNeg (I 39 u2.toNatClampNeg), RP f sw) Q)))))) :
    wp G (d + 10) (mt 72) 2 [some (.ref 29), some (.int u1), some (.int u2)] [] (147, f, I, RP f sw) Q := vc_wp o [(72, 2, [0, 1, 2])] [] 600 rfl hq

-- WreckCourt$Vessel.play(II)I, entry 0
set_option maxRecDepth 100000 in
set_option maxHeartbeats 4000000 in
theorem v_vplay (o : OKs) {G : GX} {d f : Nat} {sw : Bool} {I : Nat → Nat → Int32} {t : Int32} {w : Int32} {Q : Option Value → Hp → Prop}
    (hq : wp G (d + 39) (mt 5) 0 (en (mt 5) [.ref 39, .int 0]) [] (147, f, I, RP f sw) (fun v h1 => ∃ I1 : Nat → Nat → Int32, v = none ∧ h1 = (147, f, I1, RP f sw) ∧ (wp G (d + 39) (mt 5) 0 (en (mt 5) [.ref 38, .int 1]) [] (147, f, I1, RP f sw) (fun v h1 => ∃ I2 : Nat → Nat → Int32, v = none ∧ h1 = (147, f, I2, RP f sw) ∧ (wp G (d + 40) (mt 67) 14 [some (.ref 29), some (.int t), some (.int w), some (.int 0), some (.int (-1000000)), some (.int 0)] [] (147, f, I2, RP f sw) Q))))) :
    wp G (d + 40) (mt 67) 0 (en (mt 67) [.ref 29, .int t, .int w]) [] (147, f, I, RP f sw) Q := vc_wp o [(67, 14, [0, 1, 2, 3, 4, 5])] [] 600 rfl hq

-- WreckCourt$Vessel.play(II)I, entry 14
set_option maxRecDepth 100000 in
set_option maxHeartbeats 4000000 in
theorem v_vplay14 (o : OKs) {G : GX} {d f : Nat} {sw : Bool} {I : Nat → Nat → Int32} {u1 : Int32} {u2 : Int32} {u3 : Int32} {u4 : Int32} {u5 : Int32} {Q : Option Value → Hp → Prop}
    (hq : if 240 ≤ u5 then Q (some (.int u4)) (147, f, I, RP f sw) else if u1 = (-1) then wp G (d + 39) (mt 41) 0 (en (mt 41) [.ref 30, .int u5, .int u3, .ref 38]) [] (147, f, I, RP f sw) (fun v h1 => ∃ (x2 : Int32) (I1 : Nat → Nat → Int32), v = some (.int x2) ∧ h1 = (147, f, I1, RP f sw) ∧ (wp G (d + 40) (mt 67) 31 [some (.ref 29), some (.int u1), some (.int u2), some (.int x2), some (.int u4), some (.int u5)] [] (147, f, I1, RP f sw) Q)) else if u4 = (-1000000) then wp G (d + 39) (mt 41) 0 (en (mt 41) [.ref 30, .int u5, .int u3, .ref 38]) [] (147, f, I, RP f sw) (fun v h1 => ∃ (x4 : Int32) (I3 : Nat → Nat → Int32), v = some (.int x4) ∧ h1 = (147, f, I3, RP f sw) ∧ (wp G (d + 40) (mt 67) 31 [some (.ref 29), some (.int u1), some (.int u2), some (.int x4), some (.int u4), some (.int u5)] [] (147, f, I3, RP f sw) Q)) else Q (some (.int u4)) (147, f, I, RP f sw)) :
    wp G (d + 40) (mt 67) 14 [some (.ref 29), some (.int u1), some (.int u2), some (.int u3), some (.int u4), some (.int u5)] [] (147, f, I, RP f sw) Q := vc_wp o [(67, 14, [0, 1, 2, 3, 4, 5]), (67, 31, [0, 1, 2, 3, 4, 5]), (67, 41, [0, 1, 2, 3, 4, 5]), (67, 49, [0, 1, 2, 3, 4, 5]), (67, 60, [0, 1, 2, 3, 4, 5]), (67, 69, [0, 1, 2, 3, 4, 5]), (67, 81, [0, 1, 2, 3, 4, 5])] [] 600 rfl hq

-- WreckCourt$Vessel.play(II)I, entry 31
set_option maxRecDepth 100000 in
set_option maxHeartbeats 4000000 in
theorem v_vplay31 (o : OKs) {G : GX} {d f : Nat} {sw : Bool} {I : Nat → Nat → Int32} {u1 : Int32} {u2 : Int32} {u3 : Int32} {u4 : Int32} {u5 : Int32} {Q : Option Value → Hp → Prop}
    (hq : if u1 = 0 then ck (ixB u2 5) (wp G (d + 40) (mt 67) 41 [some (.ref 29), some (.int u1), some (.int u2), some (.int u3), some (.int u4), some (.int u5)] [] (147, f, upI I 38 u2.toNatClampNeg u1, RP f sw) Q) else if u1 = 1 then ck (ixB u2 5) (wp G (d + 40) (mt 67) 41 [some (.ref 29), some (.int u1), some (.int u2), some (.int u3), some (.int u4), some (.int u5)] [] (147, f, upI I 38 u2.toNatClampNeg u1, RP f sw) Q) else wp G (d + 40) (mt 67) 41 [some (.ref 29), some (.int u1), some (.int u2), some (.int u3), some (.int u4), some (.int u5)] [] (147, f, I, RP f sw) Q) :
    wp G (d + 40) (mt 67) 31 [some (.ref 29), some (.int u1), some (.int u2), some (.int u3), some (.int u4), some (.int u5)] [] (147, f, I, RP f sw) Q := vc_wp o [(67, 14, [0, 1, 2, 3, 4, 5]), (67, 31, [0, 1, 2, 3, 4, 5]), (67, 41, [0, 1, 2, 3, 4, 5]), (67, 49, [0, 1, 2, 3, 4, 5]), (67, 60, [0, 1, 2, 3, 4, 5]), (67, 69, [0, 1, 2, 3, 4, 5]), (67, 81, [0, 1, 2, 3, 4, 5])] [] 600 rfl hq

-- WreckCourt$Vessel.play(II)I, entry 41
set_option maxRecDepth 100000 in
set_option maxHeartbeats 4000000 in
theorem v_vplay41 (o : OKs) {G : GX} {d f : Nat} {sw : Bool} {I : Nat → Nat → Int32} {u1 : Int32} {u2 : Int32} {u3 : Int32} {u4 : Int32} {u5 : Int32} {Q : Option Value → Hp → Prop}
    (hq : if u1 = 3 then wp G (d + 40) (mt 67) 49 [some (.ref 29), some (.int u1), some (.int u2), some (.int u3), some (.int u4), some (.int u5)] [.int u2, .int u5, .ref 29] (147, f, I, RP f sw) Q else wp G (d + 40) (mt 67) 49 [some (.ref 29), some (.int u1), some (.int u2), some (.int u3), some (.int u4), some (.int u5)] [.int (-1000000), .int u5, .ref 29] (147, f, I, RP f sw) Q) :
    wp G (d + 40) (mt 67) 41 [some (.ref 29), some (.int u1), some (.int u2), some (.int u3), some (.int u4), some (.int u5)] [] (147, f, I, RP f sw) Q := vc_wp o [(67, 14, [0, 1, 2, 3, 4, 5]), (67, 31, [0, 1, 2, 3, 4, 5]), (67, 41, [0, 1, 2, 3, 4, 5]), (67, 49, [0, 1, 2, 3, 4, 5]), (67, 60, [0, 1, 2, 3, 4, 5]), (67, 69, [0, 1, 2, 3, 4, 5]), (67, 81, [0, 1, 2, 3, 4, 5])] [] 600 rfl hq

-- WreckCourt$Vessel.play(II)I, entry 69
set_option maxRecDepth 100000 in
set_option maxHeartbeats 4000000 in
theorem v_vplay69 (o : OKs) {G : GX} {d f : Nat} {sw : Bool} {I : Nat → Nat → Int32} {u1 : Int32} {u2 : Int32} {u3 : Int32} {u4 : Int32} {u5 : Int32} {Q : Option Value → Hp → Prop}
    (hq : if u4 = (-1000000) then wp G (d + 39) (mt 73) 0 (en (mt 73) [.ref 29]) [] (147, f, I, RP f sw) (fun v h1 => ∃ (x2 : Int32) (I1 : Nat → Nat → Int32), v = some (.int x2) ∧ h1 = (147, f, I1, RP f sw) ∧ (if x2 < (I1 29 10) then wp G (d + 40) (mt 67) 81 [some (.ref 29), some (.int u1), some (.int u2), some (.int u3), some (.int u4), some (.int u5)] [] (147, f, I1, RP f sw) Q else wp G (d + 40) (mt 67) 81 [some (.ref 29), some (.int u1), some (.int u2), some (.int u3), some (.int (u5 + 1)), some (.int u5)] [] (147, f, I1, RP f sw) Q)) else wp G (d + 40) (mt 67) 81 [some (.ref 29), some (.int u1), some (.int u2), some (.int u3), some (.int u4), some (.int u5)] [] (147, f, I, RP f sw) Q) :
    wp G (d + 40) (mt 67) 69 [some (.ref 29), some (.int u1), some (.int u2), some (.int u3), some (.int u4), some (.int u5)] [] (147, f, I, RP f sw) Q := vc_wp o [(67, 14, [0, 1, 2, 3, 4, 5]), (67, 31, [0, 1, 2, 3, 4, 5]), (67, 41, [0, 1, 2, 3, 4, 5]), (67, 49, [0, 1, 2, 3, 4, 5]), (67, 60, [0, 1, 2, 3, 4, 5]), (67, 69, [0, 1, 2, 3, 4, 5]), (67, 81, [0, 1, 2, 3, 4, 5])] [] 600 rfl hq

-- WreckCourt$Vessel.play(II)I, entry 81
set_option maxRecDepth 100000 in
set_option maxHeartbeats 4000000 in
theorem v_vplay81 (o : OKs) {G : GX} {d f : Nat} {sw : Bool} {I : Nat → Nat → Int32} {u1 : Int32} {u2 : Int32} {u3 : Int32} {u4 : Int32} {u5 : Int32} {Q : Option Value → Hp → Prop}
    (hq : wp G (d + 40) (mt 67) 14 [some (.ref 29), some (.int u1), some (.int u2), some (.int u3), some (.int u4), some (.int (u5 + Int32.ofInt 1))] [] (147, f, I, RP f sw) Q) :
    wp G (d + 40) (mt 67) 81 [some (.ref 29), some (.int u1), some (.int u2), some (.int u3), some (.int u4), some (.int u5)] [] (147, f, I, RP f sw) Q := vc_wp o [(67, 14, [0, 1, 2, 3, 4, 5]), (67, 31, [0, 1, 2, 3, 4, 5]), (67, 41, [0, 1, 2, 3, 4, 5]), (67, 49, [0, 1, 2, 3, 4, 5]), (67, 60, [0, 1, 2, 3, 4, 5]), (67, 69, [0, 1, 2, 3, 4, 5]), (67, 81, [0, 1, 2, 3, 4, 5])] [] 600 rfl hq

-- WreckCourt$Vessel.play(II)I, entry 49
set_option maxRecDepth 100000 in
set_option maxHeartbeats 4000000 in
theorem v_vplay49 (o : OKs) {G : GX} {d f : Nat} {sw : Bool} {I : Nat → Nat → Int32} {u1 : Int32} {u2 : Int32} {u3 : Int32} {u4 : Int32} {u5 : Int32} {ya : Int32} {yb : Int32} {Q : Option Value → Hp → Prop}
    (hq : wp G (d + 39) (mt 68) 0 (en (mt 68) [.ref 29, .int yb, .int ya]) [] (147, f, I, RP f sw) (fun v h1 => ∃ I1 : Nat → Nat → Int32, v = none ∧ h1 = (147, f, I1, RP f sw) ∧ (wp G (d + 39) (mt 70) 0 (en (mt 70) [.ref 29]) [] (147, f, I1, RP f sw) (fun v h1 => ∃ I2 : Nat → Nat → Int32, v = none ∧ h1 = (147, f, I2, RP f sw) ∧ (if u1 = 2 then wp G (d + 40) (mt 67) 60 [some (.ref 29), some (.int u1), some (.int u2), some (.int u3), some (.int u4), some (.int u5)] [.int u2, .ref 29] (147, f, I2, RP f sw) Q else wp G (d + 40) (mt 67) 60 [some (.ref 29), some (.int u1), some (.int u2), some (.int u3), some (.int u4), some (.int u5)] [.int (I2 29 9), .ref 29] (147, f, I2, RP f sw) Q))))) :
    wp G (d + 40) (mt 67) 49 [some (.ref 29), some (.int u1), some (.int u2), some (.int u3), some (.int u4), some (.int u5)] [.int ya, .int yb, .ref 29] (147, f, I, RP f sw) Q := vc_wp o [(67, 14, [0, 1, 2, 3, 4, 5]), (67, 31, [0, 1, 2, 3, 4, 5]), (67, 41, [0, 1, 2, 3, 4, 5]), (67, 49, [0, 1, 2, 3, 4, 5]), (67, 60, [0, 1, 2, 3, 4, 5]), (67, 69, [0, 1, 2, 3, 4, 5]), (67, 81, [0, 1, 2, 3, 4, 5])] [] 600 rfl hq

-- WreckCourt$Vessel.play(II)I, entry 60
set_option maxRecDepth 100000 in
set_option maxHeartbeats 4000000 in
theorem v_vplay60 (o : OKs) {G : GX} {d f : Nat} {sw : Bool} {I : Nat → Nat → Int32} {u1 : Int32} {u2 : Int32} {u3 : Int32} {u4 : Int32} {u5 : Int32} {ya : Int32} {Q : Option Value → Hp → Prop}
    (hq : wp G (d + 39) (mt 71) 0 (en (mt 71) [.ref 29, .int ya]) [] (147, f, I, RP f sw) (fun v h1 => ∃ I1 : Nat → Nat → Int32, v = none ∧ h1 = (147, f, I1, RP f sw) ∧ (if u1 = (-1) then wp G (d + 39) (mt 72) 0 (en (mt 72) [.ref 29, .int (u5 + 1)]) [] (147, f, I1, RP f sw) (fun v h1 => ∃ I2 : Nat → Nat → Int32, v = none ∧ h1 = (147, f, I2, RP f sw) ∧ (wp G (d + 40) (mt 67) 69 [some (.ref 29), some (.int u1), some (.int u2), some (.int u3), some (.int u4), some (.int u5)] [] (147, f, I2, RP f sw) Q)) else wp G (d + 40) (mt 67) 69 [some (.ref 29), some (.int u1), some (.int u2), some (.int u3), some (.int u4), some (.int u5)] [] (147, f, I1, RP f sw) Q))) :
    wp G (d + 40) (mt 67) 60 [some (.ref 29), some (.int u1), some (.int u2), some (.int u3), some (.int u4), some (.int u5)] [.int ya, .ref 29] (147, f, I, RP f sw) Q := vc_wp o [(67, 14, [0, 1, 2, 3, 4, 5]), (67, 31, [0, 1, 2, 3, 4, 5]), (67, 41, [0, 1, 2, 3, 4, 5]), (67, 49, [0, 1, 2, 3, 4, 5]), (67, 60, [0, 1, 2, 3, 4, 5]), (67, 69, [0, 1, 2, 3, 4, 5]), (67, 81, [0, 1, 2, 3, 4, 5])] [] 600 rfl hq

-- WreckCourt$Vessel.fill()V, entry 0
set_option maxRecDepth 100000 in
set_option maxHeartbeats 4000000 in
theorem v_vfill (o : OKs) {G : GX} {d f : Nat} {sw : Bool} {I : Nat → Nat → Int32}  {Q : Option Value → Hp → Prop}
    (hq : if (I 29 12) = 0 then Q none (147, f, I, RP f sw) else wp G (d + 59) (mt 67) 0 (en (mt 67) [.ref 29, .int (-1), .int 0]) [] (147, f, I, RP f sw) (fun v h1 => ∃ (x2 : Int32) (I1 : Nat → Nat → Int32), v = some (.int x2) ∧ h1 = (147, f, I1, RP f sw) ∧ (Q none (147, f, upI (upI I1 29 11 x2) 29 12 0, RP f sw)))) :
    wp G (d + 60) (mt 66) 0 (en (mt 66) [.ref 29]) [] (147, f, I, RP f sw) Q := vc_wp o [] [] 600 rfl hq

-- WreckCourtModel.isOpen(II)Z, entry 0
set_option maxRecDepth 100000 in
set_option maxHeartbeats 4000000 in
theorem v_MisOpen (o : OKs) {G : GX} {d f : Nat} {sw : Bool} {I : Nat → Nat → Int32} {s : Int32} {m : Int32} {Q : Option Value → Hp → Prop}
    (hq : wp G (d + 10) (mt 212) 4 [some (.ref 93), some (.int s), some (.int m), some (.int (-1000000)), some (.int 0)] [] (147, f, I, RP f sw) Q) :
    wp G (d + 10) (mt 212) 0 (en (mt 212) [.ref 93, .int s, .int m]) [] (147, f, I, RP f sw) Q := vc_wp o [(212, 4, [0, 1, 2, 3, 4])] [] 600 rfl hq

-- WreckCourtModel.isOpen(II)Z, entry 4
set_option maxRecDepth 100000 in
set_option maxHeartbeats 4000000 in
theorem v_MisOpen4 (o : OKs) {G : GX} {d f : Nat} {sw : Bool} {I : Nat → Nat → Int32} {u1 : Int32} {u2 : Int32} {u3 : Int32} {u4 : Int32} {Q : Option Value → Hp → Prop}
    (hq : if (I 93 26) ≤ u4 then if u3 = (-1000000) then Q (some (.int 1)) (147, f, I, RP f sw) else ck (ixB u3 30) (if (I 115 u3.toNatClampNeg) = 1 then Q (some (.int 1)) (147, f, I, RP f sw) else Q (some (.int 0)) (147, f, I, RP f sw)) else ck (ixB u4 30) (if (I 113 u4.toNatClampNeg) = u1 then ck (ixB u4 30) (if u2 < (I 114 u4.toNatClampNeg) then wp G (d + 10) (mt 212) 4 [some (.ref 93), some (.int u1), some (.int u2), some (.int u3), some (.int (u4 + Int32.ofInt 1))] [] (147, f, I, RP f sw) Q else if u3 = (-1000000) then wp G (d + 10) (mt 212) 4 [some (.ref 93), some (.int u1), some (.int u2), some (.int u4), some (.int (u4 + Int32.ofInt 1))] [] (147, f, I, RP f sw) Q else ck (ixB u4 30) (ck (ixB u3 30) (if (I 114 u4.toNatClampNeg) < (I 114 u3.toNatClampNeg) then wp G (d + 10) (mt 212) 4 [some (.ref 93), some (.int u1), some (.int u2), some (.int u3), some (.int (u4 + Int32.ofInt 1))] [] (147, f, I, RP f sw) Q else wp G (d + 10) (mt 212) 4 [some (.ref 93), some (.int u1), some (.int u2), some (.int u4), some (.int (u4 + Int32.ofInt 1))] [] (147, f, I, RP f sw) Q))) else wp G (d + 10) (mt 212) 4 [some (.ref 93), some (.int u1), some (.int u2), some (.int u3), some (.int (u4 + Int32.ofInt 1))] [] (147, f, I, RP f sw) Q)) :
    wp G (d + 10) (mt 212) 4 [some (.ref 93), some (.int u1), some (.int u2), some (.int u3), some (.int u4)] [] (147, f, I, RP f sw) Q := vc_wp o [(212, 4, [0, 1, 2, 3, 4])] [] 600 rfl hq

-- WreckCourtModel.fill(II)V, entry 0
set_option maxRecDepth 100000 in
set_option maxHeartbeats 4000000 in
theorem v_Mfill (o : OKs) {G : GX} {d f : Nat} {sw : Bool} {I : Nat → Nat → Int32} {t : Int32} {w : Int32} {Q : Option Value → Hp → Prop}
    (hq : if t = 2 then wp G (d + 30) (mt 210) 8 [some (.ref 93), some (.int t), some (.int w), some (.int w), none, none, none, none, none, none, none, none, none] [] (147, f, I, RP f sw) Q else wp G (d + 30) (mt 210) 8 [some (.ref 93), some (.int t), some (.int w), some (.int (I 93 24)), none, none, none, none, none, none, none, none, none] [] (147, f, I, RP f sw) Q) :
    wp G (d + 30) (mt 210) 0 (en (mt 210) [.ref 93, .int t, .int w]) [] (147, f, I, RP f sw) Q := vc_wp o [(210, 8, [0, 1, 2, 3]), (210, 10, [0, 1, 2, 3, 4]), (210, 22, [0, 1, 2, 3, 4]), (210, 33, [0, 1, 2, 3, 4, 5, 6]), (210, 54, [0, 1, 2, 3, 4, 5, 6]), (210, 110, [0, 1, 2, 3, 4, 5, 6]), (210, 222, [0, 1, 2, 3, 4, 5, 6, 7])] [] 600 rfl hq

-- WreckCourtModel.fill(II)V, entry 8
set_option maxRecDepth 100000 in
set_option maxHeartbeats 4000000 in
theorem v_Mfill8 (o : OKs) {G : GX} {d f : Nat} {sw : Bool} {I : Nat → Nat → Int32} {u1 : Int32} {u2 : Int32} {u3 : Int32} {Q : Option Value → Hp → Prop}
    (hq : wp G (d + 30) (mt 210) 10 [some (.ref 93), some (.int u1), some (.int u2), some (.int u3), some (.int 0), none, none, none, none, none, none, none, none] [] (147, f, I, RP f sw) Q) :
    wp G (d + 30) (mt 210) 8 [some (.ref 93), some (.int u1), some (.int u2), some (.int u3), none, none, none, none, none, none, none, none, none] [] (147, f, I, RP f sw) Q := vc_wp o [(210, 10, [0, 1, 2, 3, 4]), (210, 22, [0, 1, 2, 3, 4]), (210, 33, [0, 1, 2, 3, 4, 5, 6]), (210, 54, [0, 1, 2, 3, 4, 5, 6]), (210, 104, [0, 1, 2, 3, 4, 5, 6]), (210, 106, [0, 1, 2, 3, 4, 5, 6]), (210, 110, [0, 1, 2, 3, 4, 5, 6]), (210, 131, [0, 1, 2, 3, 4, 5, 6, 7]), (210, 155, [0, 1, 2, 3, 4, 5, 6, 7, 8, 9]), (210, 163, [0, 1, 2, 3, 4, 5, 6, 7, 8, 9, 10]), (210, 172, [0, 1, 2, 3, 4, 5, 6, 7, 9, 10, 11]), (210, 196, [0, 1, 2, 3, 4, 5, 6, 9, 10, 11]), (210, 216, [0, 1, 2, 3, 4, 5, 6]), (210, 218, [0, 1, 2, 3, 4, 5]), (210, 222, [0, 1, 2, 3, 4, 5, 6, 7]), (210, 242, [0, 1, 2, 3, 4, 5, 6, 7]), (210, 244, [0, 1, 2, 3, 4, 5, 6])] [] 600 rfl hq

-- WreckCourtModel.fill(II)V, entry 10
set_option maxRecDepth 100000 in
set_option maxHeartbeats 4000000 in
theorem v_Mfill10 (o : OKs) {G : GX} {d f : Nat} {sw : Bool} {I : Nat → Nat → Int32} {u1 : Int32} {u2 : Int32} {u3 : Int32} {u4 : Int32} {Q : Option Value → Hp → Prop}
    (hq : if 6 ≤ u4 then wp G (d + 30) (mt 210) 22 [some (.ref 93), some (.int u1), some (.int u2), some (.int u3), some (.int 0), none, none, none, none, none, none, none, none] [] (147, f, I, RP f sw) Q else ck (ixB u4 1446) (wp G (d + 30) (mt 210) 10 [some (.ref 93), some (.int u1), some (.int u2), some (.int u3), some (.int (u4 + Int32.ofInt 1)), none, none, none, none, none, none, none, none] [] (147, f, upI I 119 u4.toNatClampNeg 0, RP f sw) Q)) :
    wp G (d + 30) (mt 210) 10 [some (.ref 93), some (.int u1), some (.int u2), some (.int u3), some (.int u4), none, none, none, none, none, none, none, none] [] (147, f, I, RP f sw) Q := vc_wp o [(210, 10, [0, 1, 2, 3, 4]), (210, 22, [0, 1, 2, 3, 4]), (210, 33, [0, 1, 2, 3, 4, 5, 6]), (210, 54, [0, 1, 2, 3, 4, 5, 6]), (210, 104, [0, 1, 2, 3, 4, 5, 6]), (210, 106, [0, 1, 2, 3, 4, 5, 6]), (210, 110, [0, 1, 2, 3, 4, 5, 6]), (210, 131, [0, 1, 2, 3, 4, 5, 6, 7]), (210, 155, [0, 1, 2, 3, 4, 5, 6, 7, 8, 9]), (210, 163, [0, 1, 2, 3, 4, 5, 6, 7, 8, 9, 10]), (210, 172, [0, 1, 2, 3, 4, 5, 6, 7, 9, 10, 11]), (210, 196, [0, 1, 2, 3, 4, 5, 6, 9, 10, 11]), (210, 216, [0, 1, 2, 3, 4, 5, 6]), (210, 218, [0, 1, 2, 3, 4, 5]), (210, 222, [0, 1, 2, 3, 4, 5, 6, 7]), (210, 242, [0, 1, 2, 3, 4, 5, 6, 7]), (210, 244, [0, 1, 2, 3, 4, 5, 6])] [] 600 rfl hq

-- WreckCourtModel.fill(II)V, entry 22
set_option maxRecDepth 100000 in
set_option maxHeartbeats 4000000 in
theorem v_Mfill22 (o : OKs) {G : GX} {d f : Nat} {sw : Bool} {I : Nat → Nat → Int32} {u1 : Int32} {u2 : Int32} {u3 : Int32} {u4 : Int32} {Q : Option Value → Hp → Prop}
    (hq : if 240 ≤ u4 then Q none (147, f, I, RP f sw) else wp G (d + 30) (mt 210) 33 [some (.ref 93), some (.int u1), some (.int u2), some (.int u3), some (.int u4), some (.int ((6 * u4) + 6)), some (.int 0), none, none, none, none, none, none] [] (147, f, I, RP f sw) Q) :
    wp G (d + 30) (mt 210) 22 [some (.ref 93), some (.int u1), some (.int u2), some (.int u3), some (.int u4), none, none, none, none, none, none, none, none] [] (147, f, I, RP f sw) Q := vc_wp o [(210, 10, [0, 1, 2, 3, 4]), (210, 22, [0, 1, 2, 3, 4]), (210, 33, [0, 1, 2, 3, 4, 5, 6]), (210, 54, [0, 1, 2, 3, 4, 5, 6]), (210, 104, [0, 1, 2, 3, 4, 5, 6]), (210, 106, [0, 1, 2, 3, 4, 5, 6]), (210, 110, [0, 1, 2, 3, 4, 5, 6]), (210, 131, [0, 1, 2, 3, 4, 5, 6, 7]), (210, 155, [0, 1, 2, 3, 4, 5, 6, 7, 8, 9]), (210, 163, [0, 1, 2, 3, 4, 5, 6, 7, 8, 9, 10]), (210, 172, [0, 1, 2, 3, 4, 5, 6, 7, 9, 10, 11]), (210, 196, [0, 1, 2, 3, 4, 5, 6, 9, 10, 11]), (210, 216, [0, 1, 2, 3, 4, 5, 6]), (210, 218, [0, 1, 2, 3, 4, 5]), (210, 222, [0, 1, 2, 3, 4, 5, 6, 7]), (210, 242, [0, 1, 2, 3, 4, 5, 6, 7]), (210, 244, [0, 1, 2, 3, 4, 5, 6])] [] 600 rfl hq

-- WreckCourtModel.fill(II)V, entry 33
set_option maxRecDepth 100000 in
set_option maxHeartbeats 4000000 in
theorem v_Mfill33 (o : OKs) {G : GX} {d f : Nat} {sw : Bool} {I : Nat → Nat → Int32} {u1 : Int32} {u2 : Int32} {u3 : Int32} {u4 : Int32} {u5 : Int32} {u6 : Int32} {Q : Option Value → Hp → Prop}
    (hq : if 6 ≤ u6 then wp G (d + 30) (mt 210) 54 [some (.ref 93), some (.int u1), some (.int u2), some (.int u3), some (.int u4), some (.int u5), some (.int 0), none, none, none, none, none, none] [] (147, f, I, RP f sw) Q else ck (ixB ((u5 + u6) - 6) 1446) (ck (ixB (u5 + u6) 1446) (wp G (d + 30) (mt 210) 33 [some (.ref 93), some (.int u1), some (.int u2), some (.int u3), some (.int u4), some (.int u5), some (.int (u6 + Int32.ofInt 1)), none, none, none, none, none, none] [] (147, f, upI I 119 ((u5 + u6).toNatClampNeg) (I 119 (((u5 + u6) - 6).toNatClampNeg)), RP f sw) Q))) :
    wp G (d + 30) (mt 210) 33 [some (.ref 93), some (.int u1), some (.int u2), some (.int u3), some (.int u4), some (.int u5), some (.int u6), none, none, none, none, none, none] [] (147, f, I, RP f sw) Q := vc_wp o [(210, 10, [0, 1, 2, 3, 4]), (210, 22, [0, 1, 2, 3, 4]), (210, 33, [0, 1, 2, 3, 4, 5, 6]), (210, 54, [0, 1, 2, 3, 4, 5, 6]), (210, 104, [0, 1, 2, 3, 4, 5, 6]), (210, 106, [0, 1, 2, 3, 4, 5, 6]), (210, 110, [0, 1, 2, 3, 4, 5, 6]), (210, 131, [0, 1, 2, 3, 4, 5, 6, 7]), (210, 155, [0, 1, 2, 3, 4, 5, 6, 7, 8, 9]), (210, 163, [0, 1, 2, 3, 4, 5, 6, 7, 8, 9, 10]), (210, 172, [0, 1, 2, 3, 4, 5, 6, 7, 9, 10, 11]), (210, 196, [0, 1, 2, 3, 4, 5, 6, 9, 10, 11]), (210, 216, [0, 1, 2, 3, 4, 5, 6]), (210, 218, [0, 1, 2, 3, 4, 5]), (210, 222, [0, 1, 2, 3, 4, 5, 6, 7]), (210, 242, [0, 1, 2, 3, 4, 5, 6, 7]), (210, 244, [0, 1, 2, 3, 4, 5, 6])] [] 600 rfl hq

-- WreckCourtModel.fill(II)V, entry 54
set_option maxRecDepth 100000 in
set_option maxHeartbeats 4000000 in
theorem v_Mfill54 (o : OKs) {G : GX} {d f : Nat} {sw : Bool} {I : Nat → Nat → Int32} {u1 : Int32} {u2 : Int32} {u3 : Int32} {u4 : Int32} {u5 : Int32} {u6 : Int32} {Q : Option Value → Hp → Prop}
    (hq : if (I 93 30) ≤ u6 then wp G (d + 30) (mt 210) 110 [some (.ref 93), some (.int u1), some (.int u2), some (.int u3), some (.int u4), some (.int u5), some (.int 0), none, none, none, none, none, none] [] (147, f, I, RP f sw) Q else ck (ixB u6 10) (if u4 < (I 117 u6.toNatClampNeg) then wp G (d + 30) (mt 210) 106 [some (.ref 93), some (.int u1), some (.int u2), some (.int u3), some (.int u4), some (.int u5), some (.int u6), none, none, none, none, none, none] [] (147, f, I, RP f sw) Q else if u1 = 3 then if u2 = u6 then wp G (d + 30) (mt 210) 106 [some (.ref 93), some (.int u1), some (.int u2), some (.int u3), some (.int u4), some (.int u5), some (.int u6), none, none, none, none, none, none] [] (147, f, I, RP f sw) Q else ck (ixB u6 10) (ck (ixB (I 116 u6.toNatClampNeg) 6) (ck (ixB (u5 + (I 116 u6.toNatClampNeg)) 1446) (ck (ixB (u5 + (I 116 u6.toNatClampNeg)) 1446) (if 0 < ((I 112 ((I 116 u6.toNatClampNeg).toNatClampNeg)) - (I 119 ((u5 + (I 116 u6.toNatClampNeg)).toNatClampNeg))) then ck (ixB u6 10) (if ((I 112 ((I 116 u6.toNatClampNeg).toNatClampNeg)) - (I 119 ((u5 + (I 116 u6.toNatClampNeg)).toNatClampNeg))) ≤ (I 118 u6.toNatClampNeg) then wp G (d + 30) (mt 210) 104 [some (.ref 93), some (.int u1), some (.int u2), some (.int u3), some (.int u4), some (.int u5), some (.int u6), none, none, none, none, none, none] [.int ((I 112 ((I 116 u6.toNatClampNeg).toNatClampNeg)) - (I 119 ((u5 + (I 116 u6.toNatClampNeg)).toNatClampNeg))), .int (I 119 ((u5 + (I 116 u6.toNatClampNeg)).toNatClampNeg)), .int (u5 + (I 116 u6.toNatClampNeg)), .ref 119] (147, f, I, RP f sw) Q else wp G (d + 30) (mt 210) 104 [some (.ref 93), some (.int u1), some (.int u2), some (.int u3), some (.int u4), some (.int u5), some (.int u6), none, none, none, none, none, none] [.int (I 118 u6.toNatClampNeg), .int (I 119 ((u5 + (I 116 u6.toNatClampNeg)).toNatClampNeg)), .int (u5 + (I 116 u6.toNatClampNeg)), .ref 119] (147, f, I, RP f sw) Q) else wp G (d + 30) (mt 210) 104 [some (.ref 93), some (.int u1), some (.int u2), some (.int u3), some (.int u4), some (.int u5), some (.int u6), none, none, none, none, none, none] [.int 0, .int (I 119 ((u5 + (I 116 u6.toNatClampNeg)).toNatClampNeg)), .int (u5 + (I 116 u6.toNatClampNeg)), .ref 119] (147, f, I, RP f sw) Q)))) else ck (ixB u6 10) (ck (ixB (I 116 u6.toNatClampNeg) 6) (ck (ixB (u5 + (I 116 u6.toNatClampNeg)) 1446) (ck (ixB (u5 + (I 116 u6.toNatClampNeg)) 1446) (if 0 < ((I 112 ((I 116 u6.toNatClampNeg).toNatClampNeg)) - (I 119 ((u5 + (I 116 u6.toNatClampNeg)).toNatClampNeg))) then ck (ixB u6 10) (if ((I 112 ((I 116 u6.toNatClampNeg).toNatClampNeg)) - (I 119 ((u5 + (I 116 u6.toNatClampNeg)).toNatClampNeg))) ≤ (I 118 u6.toNatClampNeg) then wp G (d + 30) (mt 210) 104 [some (.ref 93), some (.int u1), some (.int u2), some (.int u3), some (.int u4), some (.int u5), some (.int u6), none, none, none, none, none, none] [.int ((I 112 ((I 116 u6.toNatClampNeg).toNatClampNeg)) - (I 119 ((u5 + (I 116 u6.toNatClampNeg)).toNatClampNeg))), .int (I 119 ((u5 + (I 116 u6.toNatClampNeg)).toNatClampNeg)), .int (u5 + (I 116 u6.toNatClampNeg)), .ref 119] (147, f, I, RP f sw) Q else wp G (d + 30) (mt 210) 104 [some (.ref 93), some (.int u1), some (.int u2), some (.int u3), some (.int u4), some (.int u5), some (.int u6), none, none, none, none, none, none] [.int (I 118 u6.toNatClampNeg), .int (I 119 ((u5 + (I 116 u6.toNatClampNeg)).toNatClampNeg)), .int (u5 + (I 116 u6.toNatClampNeg)), .ref 119] (147, f, I, RP f sw) Q) else wp G (d + 30) (mt 210) 104 [some (.ref 93), some (.int u1), some (.int u2), some (.int u3), some (.int u4), some (.int u5), some (.int u6), none, none, none, none, none, none] [.int 0, .int (I 119 ((u5 + (I 116 u6.toNatClampNeg)).toNatClampNeg)), .int (u5 + (I 116 u6.toNatClampNeg)), .ref 119] (147, f, I, RP f sw) Q)))))) :
    wp G (d + 30) (mt 210) 54 [some (.ref 93), some (.int u1), some (.int u2), some (.int u3), some (.int u4), some (.int u5), some (.int u6), none, none, none, none, none, none] [] (147, f, I, RP f sw) Q := vc_wp o [(210, 10, [0, 1, 2, 3, 4]), (210, 22, [0, 1, 2, 3, 4]), (210, 33, [0, 1, 2, 3, 4, 5, 6]), (210, 54, [0, 1, 2, 3, 4, 5, 6]), (210, 104, [0, 1, 2, 3, 4, 5, 6]), (210, 106, [0, 1, 2, 3, 4, 5, 6]), (210, 110, [0, 1, 2, 3, 4, 5, 6]), (210, 131, [0, 1, 2, 3, 4, 5, 6, 7]), (210, 155, [0, 1, 2, 3, 4, 5, 6, 7, 8, 9]), (210, 163, [0, 1, 2, 3, 4, 5, 6, 7, 8, 9, 10]), (210, 172, [0, 1, 2, 3, 4, 5, 6, 7, 9, 10, 11]), (210, 196, [0, 1, 2, 3, 4, 5, 6, 9, 10, 11]), (210, 216, [0, 1, 2, 3, 4, 5, 6]), (210, 218, [0, 1, 2, 3, 4, 5]), (210, 222, [0, 1, 2, 3, 4, 5, 6, 7]), (210, 242, [0, 1, 2, 3, 4, 5, 6, 7]), (210, 244, [0, 1, 2, 3, 4, 5, 6])] [211] 600 rfl hq

-- WreckCourtModel.fill(II)V, entry 110
set_option maxRecDepth 100000 in
set_option maxHeartbeats 4000000 in
theorem v_Mfill110 (o : OKs) {G : GX} {d f : Nat} {sw : Bool} {I : Nat → Nat → Int32} {u1 : Int32} {u2 : Int32} {u3 : Int32} {u4 : Int32} {u5 : Int32} {u6 : Int32} {Q : Option Value → Hp → Prop}
    (hq : if 5 ≤ u6 then wp G (d + 30) (mt 210) 218 [some (.ref 93), some (.int u1), some (.int u2), some (.int u3), some (.int u4), some (.int u5), none, none, none, none, none, none, none] [] (147, f, I, RP f sw) Q else if 2 ≤ u1 then wp G (d + 29) (mt 212) 0 (en (mt 212) [.ref 93, .int u6, .int u4]) [] (147, f, I, RP f sw) (fun v h1 => ∃ (x2 : Int32) (I1 : Nat → Nat → Int32), v = some (.int x2) ∧ h1 = (147, f, I1, RP f sw) ∧ (wp G (d + 30) (mt 210) 131 [some (.ref 93), some (.int u1), some (.int u2), some (.int u3), some (.int u4), some (.int u5), some (.int u6), some (.int x2), none, none, none, none, none] [] (147, f, I1, RP f sw) Q)) else if u2 = u6 then if u1 = 1 then wp G (d + 30) (mt 210) 131 [some (.ref 93), some (.int u1), some (.int u2), some (.int u3), some (.int u4), some (.int u5), some (.int u6), some (.int 1), none, none, none, none, none] [] (147, f, I, RP f sw) Q else wp G (d + 30) (mt 210) 131 [some (.ref 93), some (.int u1), some (.int u2), some (.int u3), some (.int u4), some (.int u5), some (.int u6), some (.int 0), none, none, none, none, none] [] (147, f, I, RP f sw) Q else wp G (d + 29) (mt 212) 0 (en (mt 212) [.ref 93, .int u6, .int u4]) [] (147, f, I, RP f sw) (fun v h1 => ∃ (x4 : Int32) (I3 : Nat → Nat → Int32), v = some (.int x4) ∧ h1 = (147, f, I3, RP f sw) ∧ (wp G (d + 30) (mt 210) 131 [some (.ref 93), some (.int u1), some (.int u2), some (.int u3), some (.int u4), some (.int u5), some (.int u6), some (.int x4), none, none, none, none, none] [] (147, f, I3, RP f sw) Q))) :
    wp G (d + 30) (mt 210) 110 [some (.ref 93), some (.int u1), some (.int u2), some (.int u3), some (.int u4), some (.int u5), some (.int u6), none, none, none, none, none, none] [] (147, f, I, RP f sw) Q := vc_wp o [(210, 10, [0, 1, 2, 3, 4]), (210, 22, [0, 1, 2, 3, 4]), (210, 33, [0, 1, 2, 3, 4, 5, 6]), (210, 54, [0, 1, 2, 3, 4, 5, 6]), (210, 104, [0, 1, 2, 3, 4, 5, 6]), (210, 106, [0, 1, 2, 3, 4, 5, 6]), (210, 110, [0, 1, 2, 3, 4, 5, 6]), (210, 131, [0, 1, 2, 3, 4, 5, 6, 7]), (210, 155, [0, 1, 2, 3, 4, 5, 6, 7, 8, 9]), (210, 163, [0, 1, 2, 3, 4, 5, 6, 7, 8, 9, 10]), (210, 172, [0, 1, 2, 3, 4, 5, 6, 7, 9, 10, 11]), (210, 196, [0, 1, 2, 3, 4, 5, 6, 9, 10, 11]), (210, 216, [0, 1, 2, 3, 4, 5, 6]), (210, 218, [0, 1, 2, 3, 4, 5]), (210, 222, [0, 1, 2, 3, 4, 5, 6, 7]), (210, 242, [0, 1, 2, 3, 4, 5, 6, 7]), (210, 244, [0, 1, 2, 3, 4, 5, 6])] [] 600 rfl hq

-- WreckCourtModel.fill(II)V, entry 222
set_option maxRecDepth 100000 in
set_option maxHeartbeats 4000000 in
theorem v_Mfill222 (o : OKs) {G : GX} {d f : Nat} {sw : Bool} {I : Nat → Nat → Int32} {u1 : Int32} {u2 : Int32} {u3 : Int32} {u4 : Int32} {u5 : Int32} {u6 : Int32} {u7 : Int32} {Q : Option Value → Hp → Prop}
    (hq : if 6 ≤ u7 then wp G (d + 30) (mt 210) 244 [some (.ref 93), some (.int u1), some (.int u2), some (.int u3), some (.int u4), some (.int u5), some (.int u6), none, none, none, none, none, none] [] (147, f, I, RP f sw) Q else ck (ixB (u5 + u7) 1446) (ck (ixB (u5 + u6) 1446) (if (I 119 ((u5 + u7).toNatClampNeg)) ≤ (I 119 ((u5 + u6).toNatClampNeg)) then wp G (d + 30) (mt 210) 242 [some (.ref 93), some (.int u1), some (.int u2), some (.int u3), some (.int u4), some (.int u5), some (.int u6), some (.int u7), none, none, none, none, none] [] (147, f, I, RP f sw) Q else wp G (d + 30) (mt 210) 242 [some (.ref 93), some (.int u1), some (.int u2), some (.int u3), some (.int u4), some (.int u5), some (.int u7), some (.int u7), none, none, none, none, none] [] (147, f, I, RP f sw) Q))) :
    wp G (d + 30) (mt 210) 222 [some (.ref 93), some (.int u1), some (.int u2), some (.int u3), some (.int u4), some (.int u5), some (.int u6), some (.int u7), none, none, none, none, none] [] (147, f, I, RP f sw) Q := vc_wp o [(210, 10, [0, 1, 2, 3, 4]), (210, 22, [0, 1, 2, 3, 4]), (210, 33, [0, 1, 2, 3, 4, 5, 6]), (210, 54, [0, 1, 2, 3, 4, 5, 6]), (210, 104, [0, 1, 2, 3, 4, 5, 6]), (210, 106, [0, 1, 2, 3, 4, 5, 6]), (210, 110, [0, 1, 2, 3, 4, 5, 6]), (210, 131, [0, 1, 2, 3, 4, 5, 6, 7]), (210, 155, [0, 1, 2, 3, 4, 5, 6, 7, 8, 9]), (210, 163, [0, 1, 2, 3, 4, 5, 6, 7, 8, 9, 10]), (210, 172, [0, 1, 2, 3, 4, 5, 6, 7, 9, 10, 11]), (210, 196, [0, 1, 2, 3, 4, 5, 6, 9, 10, 11]), (210, 216, [0, 1, 2, 3, 4, 5, 6]), (210, 218, [0, 1, 2, 3, 4, 5]), (210, 222, [0, 1, 2, 3, 4, 5, 6, 7]), (210, 242, [0, 1, 2, 3, 4, 5, 6, 7]), (210, 244, [0, 1, 2, 3, 4, 5, 6])] [] 600 rfl hq

-- WreckCourtModel.fill(II)V, entry 106
set_option maxRecDepth 100000 in
set_option maxHeartbeats 4000000 in
theorem v_Mfill106 (o : OKs) {G : GX} {d f : Nat} {sw : Bool} {I : Nat → Nat → Int32} {u1 : Int32} {u2 : Int32} {u3 : Int32} {u4 : Int32} {u5 : Int32} {u6 : Int32} {Q : Option Value → Hp → Prop}
    (hq : wp G (d + 30) (mt 210) 54 [some (.ref 93), some (.int u1), some (.int u2), some (.int u3), some (.int u4), some (.int u5), some (.int (u6 + Int32.ofInt 1)), none, none, none, none, none, none] [] (147, f, I, RP f sw) Q) :
    wp G (d + 30) (mt 210) 106 [some (.ref 93), some (.int u1), some (.int u2), some (.int u3), some (.int u4), some (.int u5), some (.int u6), none, none, none, none, none, none] [] (147, f, I, RP f sw) Q := vc_wp o [(210, 10, [0, 1, 2, 3, 4]), (210, 22, [0, 1, 2, 3, 4]), (210, 33, [0, 1, 2, 3, 4, 5, 6]), (210, 54, [0, 1, 2, 3, 4, 5, 6]), (210, 104, [0, 1, 2, 3, 4, 5, 6]), (210, 106, [0, 1, 2, 3, 4, 5, 6]), (210, 110, [0, 1, 2, 3, 4, 5, 6]), (210, 131, [0, 1, 2, 3, 4, 5, 6, 7]), (210, 155, [0, 1, 2, 3, 4, 5, 6, 7, 8, 9]), (210, 163, [0, 1, 2, 3, 4, 5, 6, 7, 8, 9, 10]), (210, 172, [0, 1, 2, 3, 4, 5, 6, 7, 9, 10, 11]), (210, 196, [0, 1, 2, 3, 4, 5, 6, 9, 10, 11]), (210, 216, [0, 1, 2, 3, 4, 5, 6]), (210, 218, [0, 1, 2, 3, 4, 5]), (210, 222, [0, 1, 2, 3, 4, 5, 6, 7]), (210, 242, [0, 1, 2, 3, 4, 5, 6, 7]), (210, 244, [0, 1, 2, 3, 4, 5, 6])] [] 600 rfl hq

-- WreckCourtModel.fill(II)V, entry 131
set_option maxRecDepth 100000 in
set_option maxHeartbeats 4000000 in
theorem v_Mfill131 (o : OKs) {G : GX} {d f : Nat} {sw : Bool} {I : Nat → Nat → Int32} {u1 : Int32} {u2 : Int32} {u3 : Int32} {u4 : Int32} {u5 : Int32} {u6 : Int32} {u7 : Int32} {Q : Option Value → Hp → Prop}
    (hq : ck (ixB (u5 + u6) 1446) (ck (ixB ((u5 + u6) + 1) 1446) (if ((I 119 ((u5 + u6).toNatClampNeg)) - (I 119 (((u5 + u6) + 1).toNatClampNeg))) ≤ 0 then wp G (d + 30) (mt 210) 155 [some (.ref 93), some (.int u1), some (.int u2), some (.int u3), some (.int u4), some (.int u5), some (.int u6), some (.int u7), some (.int ((I 119 ((u5 + u6).toNatClampNeg)) - (I 119 (((u5 + u6) + 1).toNatClampNeg)))), some (.int u6), none, none, none] [] (147, f, I, RP f sw) Q else wp G (d + 30) (mt 210) 155 [some (.ref 93), some (.int u1), some (.int u2), some (.int u3), some (.int u4), some (.int u5), some (.int u6), some (.int u7), some (.int ((I 119 ((u5 + u6).toNatClampNeg)) - (I 119 (((u5 + u6) + 1).toNatClampNeg)))), some (.int (u6 + 1)), none, none, none] [] (147, f, I, RP f sw) Q))) :
    wp G (d + 30) (mt 210) 131 [some (.ref 93), some (.int u1), some (.int u2), some (.int u3), some (.int u4), some (.int u5), some (.int u6), some (.int u7), none, none, none, none, none] [] (147, f, I, RP f sw) Q := vc_wp o [(210, 10, [0, 1, 2, 3, 4]), (210, 22, [0, 1, 2, 3, 4]), (210, 33, [0, 1, 2, 3, 4, 5, 6]), (210, 54, [0, 1, 2, 3, 4, 5, 6]), (210, 104, [0, 1, 2, 3, 4, 5, 6]), (210, 106, [0, 1, 2, 3, 4, 5, 6]), (210, 110, [0, 1, 2, 3, 4, 5, 6]), (210, 131, [0, 1, 2, 3, 4, 5, 6, 7]), (210, 155, [0, 1, 2, 3, 4, 5, 6, 7, 8, 9]), (210, 163, [0, 1, 2, 3, 4, 5, 6, 7, 8, 9, 10]), (210, 172, [0, 1, 2, 3, 4, 5, 6, 7, 9, 10, 11]), (210, 196, [0, 1, 2, 3, 4, 5, 6, 9, 10, 11]), (210, 216, [0, 1, 2, 3, 4, 5, 6]), (210, 218, [0, 1, 2, 3, 4, 5]), (210, 222, [0, 1, 2, 3, 4, 5, 6, 7]), (210, 242, [0, 1, 2, 3, 4, 5, 6, 7]), (210, 244, [0, 1, 2, 3, 4, 5, 6])] [] 600 rfl hq

-- WreckCourtModel.fill(II)V, entry 155
set_option maxRecDepth 100000 in
set_option maxHeartbeats 4000000 in
theorem v_Mfill155 (o : OKs) {G : GX} {d f : Nat} {sw : Bool} {I : Nat → Nat → Int32} {u1 : Int32} {u2 : Int32} {u3 : Int32} {u4 : Int32} {u5 : Int32} {u6 : Int32} {u7 : Int32} {u8 : Int32} {u9 : Int32} {Q : Option Value → Hp → Prop}
    (hq : if u8 ≤ 0 then wp G (d + 30) (mt 210) 163 [some (.ref 93), some (.int u1), some (.int u2), some (.int u3), some (.int u4), some (.int u5), some (.int u6), some (.int u7), some (.int u8), some (.int u9), some (.int (u6 + 1)), none, none] [] (147, f, I, RP f sw) Q else wp G (d + 30) (mt 210) 163 [some (.ref 93), some (.int u1), some (.int u2), some (.int u3), some (.int u4), some (.int u5), some (.int u6), some (.int u7), some (.int u8), some (.int u9), some (.int u6), none, none] [] (147, f, I, RP f sw) Q) :
    wp G (d + 30) (mt 210) 155 [some (.ref 93), some (.int u1), some (.int u2), some (.int u3), some (.int u4), some (.int u5), some (.int u6), some (.int u7), some (.int u8), some (.int u9), none, none, none] [] (147, f, I, RP f sw) Q := vc_wp o [(210, 10, [0, 1, 2, 3, 4]), (210, 22, [0, 1, 2, 3, 4]), (210, 33, [0, 1, 2, 3, 4, 5, 6]), (210, 54, [0, 1, 2, 3, 4, 5, 6]), (210, 104, [0, 1, 2, 3, 4, 5, 6]), (210, 106, [0, 1, 2, 3, 4, 5, 6]), (210, 110, [0, 1, 2, 3, 4, 5, 6]), (210, 131, [0, 1, 2, 3, 4, 5, 6, 7]), (210, 155, [0, 1, 2, 3, 4, 5, 6, 7, 8, 9]), (210, 163, [0, 1, 2, 3, 4, 5, 6, 7, 8, 9, 10]), (210, 172, [0, 1, 2, 3, 4, 5, 6, 7, 9, 10, 11]), (210, 196, [0, 1, 2, 3, 4, 5, 6, 9, 10, 11]), (210, 216, [0, 1, 2, 3, 4, 5, 6]), (210, 218, [0, 1, 2, 3, 4, 5]), (210, 222, [0, 1, 2, 3, 4, 5, 6, 7]), (210, 242, [0, 1, 2, 3, 4, 5, 6, 7]), (210, 244, [0, 1, 2, 3, 4, 5, 6])] [] 600 rfl hq

-- WreckCourtModel.fill(II)V, entry 163
set_option maxRecDepth 100000 in
set_option maxHeartbeats 4000000 in
theorem v_Mfill163 (o : OKs) {G : GX} {d f : Nat} {sw : Bool} {I : Nat → Nat → Int32} {u1 : Int32} {u2 : Int32} {u3 : Int32} {u4 : Int32} {u5 : Int32} {u6 : Int32} {u7 : Int32} {u8 : Int32} {u9 : Int32} {u10 : Int32} {Q : Option Value → Hp → Prop}
    (hq : if 0 ≤ u8 then wp G (d + 30) (mt 210) 172 [some (.ref 93), some (.int u1), some (.int u2), some (.int u3), some (.int u4), some (.int u5), some (.int u6), some (.int u7), none, some (.int u9), some (.int u10), some (.int (u8 / 2)), none] [] (147, f, I, RP f sw) Q else wp G (d + 30) (mt 210) 172 [some (.ref 93), some (.int u1), some (.int u2), some (.int u3), some (.int u4), some (.int u5), some (.int u6), some (.int u7), none, some (.int u9), some (.int u10), some (.int ((-u8) / 2)), none] [] (147, f, I, RP f sw) Q) :
    wp G (d + 30) (mt 210) 163 [some (.ref 93), some (.int u1), some (.int u2), some (.int u3), some (.int u4), some (.int u5), some (.int u6), some (.int u7), some (.int u8), some (.int u9), some (.int u10), none, none] [] (147, f, I, RP f sw) Q := vc_wp o [(210, 10, [0, 1, 2, 3, 4]), (210, 22, [0, 1, 2, 3, 4]), (210, 33, [0, 1, 2, 3, 4, 5, 6]), (210, 54, [0, 1, 2, 3, 4, 5, 6]), (210, 104, [0, 1, 2, 3, 4, 5, 6]), (210, 106, [0, 1, 2, 3, 4, 5, 6]), (210, 110, [0, 1, 2, 3, 4, 5, 6]), (210, 131, [0, 1, 2, 3, 4, 5, 6, 7]), (210, 155, [0, 1, 2, 3, 4, 5, 6, 7, 8, 9]), (210, 163, [0, 1, 2, 3, 4, 5, 6, 7, 8, 9, 10]), (210, 172, [0, 1, 2, 3, 4, 5, 6, 7, 9, 10, 11]), (210, 196, [0, 1, 2, 3, 4, 5, 6, 9, 10, 11]), (210, 216, [0, 1, 2, 3, 4, 5, 6]), (210, 218, [0, 1, 2, 3, 4, 5]), (210, 222, [0, 1, 2, 3, 4, 5, 6, 7]), (210, 242, [0, 1, 2, 3, 4, 5, 6, 7]), (210, 244, [0, 1, 2, 3, 4, 5, 6])] [] 600 rfl hq

-- WreckCourtModel.fill(II)V, entry 172
set_option maxRecDepth 100000 in
set_option maxHeartbeats 4000000 in
theorem v_Mfill172 (o : OKs) {G : GX} {d f : Nat} {sw : Bool} {I : Nat → Nat → Int32} {u1 : Int32} {u2 : Int32} {u3 : Int32} {u4 : Int32} {u5 : Int32} {u6 : Int32} {u7 : Int32} {u9 : Int32} {u10 : Int32} {u11 : Int32} {Q : Option Value → Hp → Prop}
    (hq : ck (ixB u9 6) (ck (ixB (u5 + u9) 1446) (if u7 = 0 then wp G (d + 30) (mt 210) 196 [some (.ref 93), some (.int u1), some (.int u2), some (.int u3), some (.int u4), some (.int u5), some (.int u6), none, none, some (.int u9), some (.int u10), some (.int 0), none] [] (147, f, I, RP f sw) Q else if 0 ≤ ((I 112 u9.toNatClampNeg) - (I 119 ((u5 + u9).toNatClampNeg))) then if ((I 112 u9.toNatClampNeg) - (I 119 ((u5 + u9).toNatClampNeg))) ≤ u11 then wp G (d + 30) (mt 210) 196 [some (.ref 93), some (.int u1), some (.int u2), some (.int u3), some (.int u4), some (.int u5), some (.int u6), none, none, some (.int u9), some (.int u10), some (.int ((I 112 u9.toNatClampNeg) - (I 119 ((u5 + u9).toNatClampNeg)))), none] [] (147, f, I, RP f sw) Q else wp G (d + 30) (mt 210) 196 [some (.ref 93), some (.int u1), some (.int u2), some (.int u3), some (.int u4), some (.int u5), some (.int u6), none, none, some (.int u9), some (.int u10), some (.int u11), none] [] (147, f, I, RP f sw) Q else if 0 ≤ u11 then wp G (d + 30) (mt 210) 196 [some (.ref 93), some (.int u1), some (.int u2), some (.int u3), some (.int u4), some (.int u5), some (.int u6), none, none, some (.int u9), some (.int u10), some (.int 0), none] [] (147, f, I, RP f sw) Q else wp G (d + 30) (mt 210) 196 [some (.ref 93), some (.int u1), some (.int u2), some (.int u3), some (.int u4), some (.int u5), some (.int u6), none, none, some (.int u9), some (.int u10), some (.int u11), none] [] (147, f, I, RP f sw) Q))) :
    wp G (d + 30) (mt 210) 172 [some (.ref 93), some (.int u1), some (.int u2), some (.int u3), some (.int u4), some (.int u5), some (.int u6), some (.int u7), none, some (.int u9), some (.int u10), some (.int u11), none] [] (147, f, I, RP f sw) Q := vc_wp o [(210, 10, [0, 1, 2, 3, 4]), (210, 22, [0, 1, 2, 3, 4]), (210, 33, [0, 1, 2, 3, 4, 5, 6]), (210, 54, [0, 1, 2, 3, 4, 5, 6]), (210, 104, [0, 1, 2, 3, 4, 5, 6]), (210, 106, [0, 1, 2, 3, 4, 5, 6]), (210, 110, [0, 1, 2, 3, 4, 5, 6]), (210, 131, [0, 1, 2, 3, 4, 5, 6, 7]), (210, 155, [0, 1, 2, 3, 4, 5, 6, 7, 8, 9]), (210, 163, [0, 1, 2, 3, 4, 5, 6, 7, 8, 9, 10]), (210, 172, [0, 1, 2, 3, 4, 5, 6, 7, 9, 10, 11]), (210, 196, [0, 1, 2, 3, 4, 5, 6, 9, 10, 11]), (210, 216, [0, 1, 2, 3, 4, 5, 6]), (210, 218, [0, 1, 2, 3, 4, 5]), (210, 222, [0, 1, 2, 3, 4, 5, 6, 7]), (210, 242, [0, 1, 2, 3, 4, 5, 6, 7]), (210, 244, [0, 1, 2, 3, 4, 5, 6])] [211] 600 rfl hq

-- WreckCourtModel.fill(II)V, entry 196
set_option maxRecDepth 100000 in
set_option maxHeartbeats 4000000 in
theorem v_Mfill196 (o : OKs) {G : GX} {d f : Nat} {sw : Bool} {I : Nat → Nat → Int32} {u1 : Int32} {u2 : Int32} {u3 : Int32} {u4 : Int32} {u5 : Int32} {u6 : Int32} {u9 : Int32} {u10 : Int32} {u11 : Int32} {Q : Option Value → Hp → Prop}
    (hq : ck (ixB (u5 + u9) 1446) (ck (ixB (u5 + u9) 1446) (ck (ixB (u5 + u10) 1446) (ck (ixB (u5 + u10) 1446) (wp G (d + 30) (mt 210) 216 [some (.ref 93), some (.int u1), some (.int u2), some (.int u3), some (.int u4), some (.int u5), some (.int u6), none, none, none, none, none, none] [] (147, f, upI (upI I 119 ((u5 + u9).toNatClampNeg) ((I 119 ((u5 + u9).toNatClampNeg)) + u11)) 119 ((u5 + u10).toNatClampNeg) (((upI I 119 ((u5 + u9).toNatClampNeg) ((I 119 ((u5 + u9).toNatClampNeg)) + u11)) 119 ((u5 + u10).toNatClampNeg)) - u11), RP f sw) Q))))) :
    wp G (d + 30) (mt 210) 196 [some (.ref 93), some (.int u1), some (.int u2), some (.int u3), some (.int u4), some (.int u5), some (.int u6), none, none, some (.int u9), some (.int u10), some (.int u11), none] [] (147, f, I, RP f sw) Q := vc_wp o [(210, 10, [0, 1, 2, 3, 4]), (210, 22, [0, 1, 2, 3, 4]), (210, 33, [0, 1, 2, 3, 4, 5, 6]), (210, 54, [0, 1, 2, 3, 4, 5, 6]), (210, 104, [0, 1, 2, 3, 4, 5, 6]), (210, 106, [0, 1, 2, 3, 4, 5, 6]), (210, 110, [0, 1, 2, 3, 4, 5, 6]), (210, 131, [0, 1, 2, 3, 4, 5, 6, 7]), (210, 155, [0, 1, 2, 3, 4, 5, 6, 7, 8, 9]), (210, 163, [0, 1, 2, 3, 4, 5, 6, 7, 8, 9, 10]), (210, 172, [0, 1, 2, 3, 4, 5, 6, 7, 9, 10, 11]), (210, 196, [0, 1, 2, 3, 4, 5, 6, 9, 10, 11]), (210, 216, [0, 1, 2, 3, 4, 5, 6]), (210, 218, [0, 1, 2, 3, 4, 5]), (210, 222, [0, 1, 2, 3, 4, 5, 6, 7]), (210, 242, [0, 1, 2, 3, 4, 5, 6, 7]), (210, 244, [0, 1, 2, 3, 4, 5, 6])] [] 600 rfl hq

-- WreckCourtModel.fill(II)V, entry 218
set_option maxRecDepth 100000 in
set_option maxHeartbeats 4000000 in
theorem v_Mfill218 (o : OKs) {G : GX} {d f : Nat} {sw : Bool} {I : Nat → Nat → Int32} {u1 : Int32} {u2 : Int32} {u3 : Int32} {u4 : Int32} {u5 : Int32} {Q : Option Value → Hp → Prop}
    (hq : wp G (d + 30) (mt 210) 222 [some (.ref 93), some (.int u1), some (.int u2), some (.int u3), some (.int u4), some (.int u5), some (.int 0), some (.int 1), none, none, none, none, none] [] (147, f, I, RP f sw) Q) :
    wp G (d + 30) (mt 210) 218 [some (.ref 93), some (.int u1), some (.int u2), some (.int u3), some (.int u4), some (.int u5), none, none, none, none, none, none, none] [] (147, f, I, RP f sw) Q := vc_wp o [(210, 10, [0, 1, 2, 3, 4]), (210, 22, [0, 1, 2, 3, 4]), (210, 33, [0, 1, 2, 3, 4, 5, 6]), (210, 54, [0, 1, 2, 3, 4, 5, 6]), (210, 104, [0, 1, 2, 3, 4, 5, 6]), (210, 106, [0, 1, 2, 3, 4, 5, 6]), (210, 110, [0, 1, 2, 3, 4, 5, 6]), (210, 131, [0, 1, 2, 3, 4, 5, 6, 7]), (210, 155, [0, 1, 2, 3, 4, 5, 6, 7, 8, 9]), (210, 163, [0, 1, 2, 3, 4, 5, 6, 7, 8, 9, 10]), (210, 172, [0, 1, 2, 3, 4, 5, 6, 7, 9, 10, 11]), (210, 196, [0, 1, 2, 3, 4, 5, 6, 9, 10, 11]), (210, 216, [0, 1, 2, 3, 4, 5, 6]), (210, 218, [0, 1, 2, 3, 4, 5]), (210, 222, [0, 1, 2, 3, 4, 5, 6, 7]), (210, 242, [0, 1, 2, 3, 4, 5, 6, 7]), (210, 244, [0, 1, 2, 3, 4, 5, 6])] [] 600 rfl hq

-- WreckCourtModel.fill(II)V, entry 242
set_option maxRecDepth 100000 in
set_option maxHeartbeats 4000000 in
theorem v_Mfill242 (o : OKs) {G : GX} {d f : Nat} {sw : Bool} {I : Nat → Nat → Int32} {u1 : Int32} {u2 : Int32} {u3 : Int32} {u4 : Int32} {u5 : Int32} {u6 : Int32} {u7 : Int32} {Q : Option Value → Hp → Prop}
    (hq : wp G (d + 30) (mt 210) 222 [some (.ref 93), some (.int u1), some (.int u2), some (.int u3), some (.int u4), some (.int u5), some (.int u6), some (.int (u7 + Int32.ofInt 1)), none, none, none, none, none] [] (147, f, I, RP f sw) Q) :
    wp G (d + 30) (mt 210) 242 [some (.ref 93), some (.int u1), some (.int u2), some (.int u3), some (.int u4), some (.int u5), some (.int u6), some (.int u7), none, none, none, none, none] [] (147, f, I, RP f sw) Q := vc_wp o [(210, 10, [0, 1, 2, 3, 4]), (210, 22, [0, 1, 2, 3, 4]), (210, 33, [0, 1, 2, 3, 4, 5, 6]), (210, 54, [0, 1, 2, 3, 4, 5, 6]), (210, 104, [0, 1, 2, 3, 4, 5, 6]), (210, 106, [0, 1, 2, 3, 4, 5, 6]), (210, 110, [0, 1, 2, 3, 4, 5, 6]), (210, 131, [0, 1, 2, 3, 4, 5, 6, 7]), (210, 155, [0, 1, 2, 3, 4, 5, 6, 7, 8, 9]), (210, 163, [0, 1, 2, 3, 4, 5, 6, 7, 8, 9, 10]), (210, 172, [0, 1, 2, 3, 4, 5, 6, 7, 9, 10, 11]), (210, 196, [0, 1, 2, 3, 4, 5, 6, 9, 10, 11]), (210, 216, [0, 1, 2, 3, 4, 5, 6]), (210, 218, [0, 1, 2, 3, 4, 5]), (210, 222, [0, 1, 2, 3, 4, 5, 6, 7]), (210, 242, [0, 1, 2, 3, 4, 5, 6, 7]), (210, 244, [0, 1, 2, 3, 4, 5, 6])] [] 600 rfl hq

-- WreckCourtModel.fill(II)V, entry 244
set_option maxRecDepth 100000 in
set_option maxHeartbeats 4000000 in
theorem v_Mfill244 (o : OKs) {G : GX} {d f : Nat} {sw : Bool} {I : Nat → Nat → Int32} {u1 : Int32} {u2 : Int32} {u3 : Int32} {u4 : Int32} {u5 : Int32} {u6 : Int32} {Q : Option Value → Hp → Prop}
    (hq : ck (ixB (u5 + u6) 1446) (ck (ixB (u5 + u6) 1446) (if (I 119 ((u5 + u6).toNatClampNeg)) ≤ u3 then ck (ixB (u5 + u6) 1446) (wp G (d + 30) (mt 210) 22 [some (.ref 93), some (.int u1), some (.int u2), some (.int u3), some (.int (u4 + Int32.ofInt 1)), none, none, none, none, none, none, none, none] [] (147, f, upI I 119 ((u5 + u6).toNatClampNeg) ((I 119 ((u5 + u6).toNatClampNeg)) - (I 119 ((u5 + u6).toNatClampNeg))), RP f sw) Q) else ck (ixB (u5 + u6) 1446) (wp G (d + 30) (mt 210) 22 [some (.ref 93), some (.int u1), some (.int u2), some (.int u3), some (.int (u4 + Int32.ofInt 1)), none, none, none, none, none, none, none, none] [] (147, f, upI I 119 ((u5 + u6).toNatClampNeg) ((I 119 ((u5 + u6).toNatClampNeg)) - u3), RP f sw) Q)))) :
    wp G (d + 30) (mt 210) 244 [some (.ref 93), some (.int u1), some (.int u2), some (.int u3), some (.int u4), some (.int u5), some (.int u6), none, none, none, none, none, none] [] (147, f, I, RP f sw) Q := vc_wp o [(210, 10, [0, 1, 2, 3, 4]), (210, 22, [0, 1, 2, 3, 4]), (210, 33, [0, 1, 2, 3, 4, 5, 6]), (210, 54, [0, 1, 2, 3, 4, 5, 6]), (210, 104, [0, 1, 2, 3, 4, 5, 6]), (210, 106, [0, 1, 2, 3, 4, 5, 6]), (210, 110, [0, 1, 2, 3, 4, 5, 6]), (210, 131, [0, 1, 2, 3, 4, 5, 6, 7]), (210, 155, [0, 1, 2, 3, 4, 5, 6, 7, 8, 9]), (210, 163, [0, 1, 2, 3, 4, 5, 6, 7, 8, 9, 10]), (210, 172, [0, 1, 2, 3, 4, 5, 6, 7, 9, 10, 11]), (210, 196, [0, 1, 2, 3, 4, 5, 6, 9, 10, 11]), (210, 216, [0, 1, 2, 3, 4, 5, 6]), (210, 218, [0, 1, 2, 3, 4, 5]), (210, 222, [0, 1, 2, 3, 4, 5, 6, 7]), (210, 242, [0, 1, 2, 3, 4, 5, 6, 7]), (210, 244, [0, 1, 2, 3, 4, 5, 6])] [211] 600 rfl hq

-- WreckCourtModel.fill(II)V, entry 104
set_option maxRecDepth 100000 in
set_option maxHeartbeats 4000000 in
theorem v_Mfill104 (o : OKs) {G : GX} {d f : Nat} {sw : Bool} {I : Nat → Nat → Int32} {u1 : Int32} {u2 : Int32} {u3 : Int32} {u4 : Int32} {u5 : Int32} {u6 : Int32} {ya : Int32} {yb : Int32} {yc : Int32} {Q : Option Value → Hp → Prop}
    (hq : ck (ixB yc 1446) (wp G (d + 30) (mt 210) 106 [some (.ref 93), some (.int u1), some (.int u2), some (.int u3), some (.int u4), some (.int u5), some (.int u6), none, none, none, none, none, none] [] (147, f, upI I 119 yc.toNatClampNeg (yb + ya), RP f sw) Q)) :
    wp G (d + 30) (mt 210) 104 [some (.ref 93), some (.int u1), some (.int u2), some (.int u3), some (.int u4), some (.int u5), some (.int u6), none, none, none, none, none, none] [.int ya, .int yb, .int yc, .ref 119] (147, f, I, RP f sw) Q := vc_wp o [(210, 10, [0, 1, 2, 3, 4]), (210, 22, [0, 1, 2, 3, 4]), (210, 33, [0, 1, 2, 3, 4, 5, 6]), (210, 54, [0, 1, 2, 3, 4, 5, 6]), (210, 104, [0, 1, 2, 3, 4, 5, 6]), (210, 106, [0, 1, 2, 3, 4, 5, 6]), (210, 110, [0, 1, 2, 3, 4, 5, 6]), (210, 131, [0, 1, 2, 3, 4, 5, 6, 7]), (210, 155, [0, 1, 2, 3, 4, 5, 6, 7, 8, 9]), (210, 163, [0, 1, 2, 3, 4, 5, 6, 7, 8, 9, 10]), (210, 172, [0, 1, 2, 3, 4, 5, 6, 7, 9, 10, 11]), (210, 196, [0, 1, 2, 3, 4, 5, 6, 9, 10, 11]), (210, 216, [0, 1, 2, 3, 4, 5, 6]), (210, 218, [0, 1, 2, 3, 4, 5]), (210, 222, [0, 1, 2, 3, 4, 5, 6, 7]), (210, 242, [0, 1, 2, 3, 4, 5, 6, 7]), (210, 244, [0, 1, 2, 3, 4, 5, 6])] [] 600 rfl hq

-- WreckCourtModel.wetAll(I)I, entry 0
set_option maxRecDepth 100000 in
set_option maxHeartbeats 4000000 in
theorem v_MwetAll (o : OKs) {G : GX} {d f : Nat} {sw : Bool} {I : Nat → Nat → Int32} {m : Int32} {Q : Option Value → Hp → Prop}
    (hq : wp G (d + 10) (mt 213) 4 [some (.ref 93), some (.int m), some (.int 0), some (.int 0)] [] (147, f, I, RP f sw) Q) :
    wp G (d + 10) (mt 213) 0 (en (mt 213) [.ref 93, .int m]) [] (147, f, I, RP f sw) Q := vc_wp o [(213, 4, [0, 1, 2, 3])] [] 600 rfl hq

-- WreckCourtModel.wetAll(I)I, entry 4
set_option maxRecDepth 100000 in
set_option maxHeartbeats 4000000 in
theorem v_MwetAll4 (o : OKs) {G : GX} {d f : Nat} {sw : Bool} {I : Nat → Nat → Int32} {u1 : Int32} {u2 : Int32} {u3 : Int32} {Q : Option Value → Hp → Prop}
    (hq : if 6 ≤ u3 then Q (some (.int u2)) (147, f, I, RP f sw) else ck (ixB ((6 * u1) + u3) 1446) (wp G (d + 10) (mt 213) 4 [some (.ref 93), some (.int u1), some (.int (u2 + (I 119 (((6 * u1) + u3).toNatClampNeg)))), some (.int (u3 + Int32.ofInt 1))] [] (147, f, I, RP f sw) Q)) :
    wp G (d + 10) (mt 213) 4 [some (.ref 93), some (.int u1), some (.int u2), some (.int u3)] [] (147, f, I, RP f sw) Q := vc_wp o [(213, 4, [0, 1, 2, 3])] [] 600 rfl hq

-- WreckCourtModel.sinksBy(II)I, entry 0
set_option maxRecDepth 100000 in
set_option maxHeartbeats 4000000 in
theorem v_MsinksBy (o : OKs) {G : GX} {d f : Nat} {sw : Bool} {I : Nat → Nat → Int32} {t : Int32} {w : Int32} {Q : Option Value → Hp → Prop}
    (hq : wp G (d + 49) (mt 210) 0 (en (mt 210) [.ref 93, .int t, .int w]) [] (147, f, I, RP f sw) (fun v h1 => ∃ I1 : Nat → Nat → Int32, v = none ∧ h1 = (147, f, I1, RP f sw) ∧ (wp G (d + 50) (mt 215) 6 [some (.ref 93), none, none, some (.int 1)] [] (147, f, I1, RP f sw) Q))) :
    wp G (d + 50) (mt 215) 0 (en (mt 215) [.ref 93, .int t, .int w]) [] (147, f, I, RP f sw) Q := vc_wp o [(215, 6, [0, 3])] [] 600 rfl hq

-- WreckCourtModel.sinksBy(II)I, entry 6
set_option maxRecDepth 100000 in
set_option maxHeartbeats 4000000 in
theorem v_MsinksBy6 (o : OKs) {G : GX} {d f : Nat} {sw : Bool} {I : Nat → Nat → Int32} {u3 : Int32} {Q : Option Value → Hp → Prop}
    (hq : if 241 ≤ u3 then Q (some (.int (-1000000))) (147, f, I, RP f sw) else wp G (d + 49) (mt 213) 0 (en (mt 213) [.ref 93, .int u3]) [] (147, f, I, RP f sw) (fun v h1 => ∃ (x2 : Int32) (I1 : Nat → Nat → Int32), v = some (.int x2) ∧ h1 = (147, f, I1, RP f sw) ∧ (if x2 < (I1 93 25) then wp G (d + 50) (mt 215) 6 [some (.ref 93), none, none, some (.int (u3 + Int32.ofInt 1))] [] (147, f, I1, RP f sw) Q else Q (some (.int u3)) (147, f, I1, RP f sw)))) :
    wp G (d + 50) (mt 215) 6 [some (.ref 93), none, none, some (.int u3)] [] (147, f, I, RP f sw) Q := vc_wp o [(215, 6, [0, 3])] [] 600 rfl hq
