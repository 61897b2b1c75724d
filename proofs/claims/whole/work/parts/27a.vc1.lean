/-! CONDITIONS of easy calls (vcgen.py) -/
-- WreckCourt.status()I, entry 0
set_option maxRecDepth 100000 in
set_option maxHeartbeats 4000000 in
theorem v_Cstatus (o : OKs) {G : GX} {d f : Nat} {sw : Bool} {I : Nat → Nat → Int32}  {Q : Option Value → Hp → Prop}
    (hq : Q (some (.int (I 0 11))) (147, f, I, RP f sw)) :
    wp G (d + 10) (mt 180) 0 (en (mt 180) [.ref 0]) [] (147, f, I, RP f sw) Q := vc_wp o [] [] 600 rfl hq

-- WreckCourtModel.status()I, entry 0
set_option maxRecDepth 100000 in
set_option maxHeartbeats 4000000 in
theorem v_Mstatus (o : OKs) {G : GX} {d f : Nat} {sw : Bool} {I : Nat → Nat → Int32}  {Q : Option Value → Hp → Prop}
    (hq : Q (some (.int (I 93 1))) (147, f, upI I 93 0 0, RP f sw)) :
    wp G (d + 10) (mt 263) 0 (en (mt 263) [.ref 93]) [] (147, f, I, RP f sw) Q := vc_wp o [] [] 600 rfl hq

-- WreckCourt.fault()I, entry 0
set_option maxRecDepth 100000 in
set_option maxHeartbeats 4000000 in
theorem v_Cfault (o : OKs) {G : GX} {d f : Nat} {sw : Bool} {I : Nat → Nat → Int32}  {Q : Option Value → Hp → Prop}
    (hq : Q (some (.int (I 61 1))) (147, f, I, RP f sw)) :
    wp G (d + 10) (mt 147) 0 (en (mt 147) [.ref 0]) [] (147, f, I, RP f sw) Q := vc_wp o [] [] 600 rfl hq

-- WreckCourtModel.fault()I, entry 0
set_option maxRecDepth 100000 in
set_option maxHeartbeats 4000000 in
theorem v_Mfault (o : OKs) {G : GX} {d f : Nat} {sw : Bool} {I : Nat → Nat → Int32}  {Q : Option Value → Hp → Prop}
    (hq : Q (some (.int (I 93 64))) (147, f, upI I 93 0 0, RP f sw)) :
    wp G (d + 10) (mt 245) 0 (en (mt 245) [.ref 93]) [] (147, f, I, RP f sw) Q := vc_wp o [] [] 600 rfl hq

-- WreckCourt.trace(I)I, entry 0
set_option maxRecDepth 100000 in
set_option maxHeartbeats 4000000 in
theorem v_Ctrace (o : OKs) {G : GX} {d f : Nat} {sw : Bool} {I : Nat → Nat → Int32} {a0 : Int32} {Q : Option Value → Hp → Prop}
    (hq : if a0 < 0 then Q (some (.int (-1000000))) (147, f, I, RP f sw) else if ((I 55 1) - 1) < a0 then Q (some (.int (-1000000))) (147, f, I, RP f sw) else ck (ixB a0 16) (Q (some (.int (I 56 a0.toNatClampNeg))) (147, f, I, RP f sw))) :
    wp G (d + 10) (mt 176) 0 (en (mt 176) [.ref 0, .int a0]) [] (147, f, I, RP f sw) Q := vc_wp o [] [13] 600 rfl hq

-- WreckCourtModel.trace(I)I, entry 0
set_option maxRecDepth 100000 in
set_option maxHeartbeats 4000000 in
theorem v_Mtrace (o : OKs) {G : GX} {d f : Nat} {sw : Bool} {I : Nat → Nat → Int32} {a0 : Int32} {Q : Option Value → Hp → Prop}
    (hq : if lg_cmp a0.toInt64 0 < 0 then Q (some (.int (-1000000))) (147, f, upI I 93 0 0, RP f sw) else if 0 < lg_cmp a0.toInt64 (((I 93 79) - 1).toInt64) then Q (some (.int (-1000000))) (147, f, upI I 93 0 0, RP f sw) else ck (ixB a0 16) (Q (some (.int (I 146 a0.toNatClampNeg))) (147, f, upI I 93 0 0, RP f sw))) :
    wp G (d + 10) (mt 261) 0 (en (mt 261) [.ref 93, .int a0]) [] (147, f, I, RP f sw) Q := vc_wp o [] [184] 600 rfl hq

-- WreckCourt.drop(I)I, entry 0
set_option maxRecDepth 100000 in
set_option maxHeartbeats 4000000 in
theorem v_Cdrop (o : OKs) {G : GX} {d f : Nat} {sw : Bool} {I : Nat → Nat → Int32} {a0 : Int32} {Q : Option Value → Hp → Prop}
    (hq : if a0 < 0 then Q (some (.int (-1000001))) (147, f, I, RP f sw) else if 7 < a0 then Q (some (.int (-1000001))) (147, f, I, RP f sw) else ck (ixB a0 8) (oV ((RP f sw) 1 a0.toNatClampNeg) (fun q1 => ck (okB (147, f, I, RP f sw) q1 6) (if (I q1 1) = 0 then Q (some (.int ((-1000010) - 1))) (147, f, upI I 0 11 1, RP f sw) else ck (okB (147, f, I, RP f sw) q1 6 && kz 6 1 0) (ck (okB (147, f, upI I q1 1 0, RP f sw) q1 6) (Q (some (.int ((upI I q1 1 0) q1 3))) (147, f, upI (upI I q1 1 0) 0 11 0, RP f sw))))))) :
    wp G (d + 10) (mt 21) 0 (en (mt 21) [.ref 0, .int a0]) [] (147, f, I, RP f sw) Q := vc_wp o [] [12, 13, 14, 16] 600 rfl hq

-- WreckCourtModel.drop(I)I, entry 0
set_option maxRecDepth 100000 in
set_option maxHeartbeats 4000000 in
theorem v_Mdrop (o : OKs) {G : GX} {d f : Nat} {sw : Bool} {I : Nat → Nat → Int32} {a0 : Int32} {Q : Option Value → Hp → Prop}
    (hq : if lg_cmp a0.toInt64 0 < 0 then Q (some (.int (-1000001))) (147, f, upI I 93 0 0, RP f sw) else if 0 < lg_cmp a0.toInt64 7 then Q (some (.int (-1000001))) (147, f, upI I 93 0 0, RP f sw) else ck (ixB a0 8) (if 0 ≤ (I 94 a0.toNatClampNeg) then ck (ixB a0 8) (ck (ixB a0 8) (Q (some (.int (I 95 a0.toNatClampNeg))) (147, f, upI (upI (upI I 93 0 0) 93 1 0) 94 a0.toNatClampNeg (-1), RP f sw))) else Q (some (.int ((-1000010) - 1))) (147, f, upI (upI (upI I 93 0 0) 93 1 0) 93 1 1, RP f sw))) :
    wp G (d + 10) (mt 188) 0 (en (mt 188) [.ref 93, .int a0]) [] (147, f, I, RP f sw) Q := vc_wp o [] [183, 184, 185] 600 rfl hq

-- WreckCourt.set(III)I, entry 0
set_option maxRecDepth 100000 in
set_option maxHeartbeats 4000000 in
theorem v_Cset (o : OKs) {G : GX} {d f : Nat} {sw : Bool} {I : Nat → Nat → Int32} {a0 : Int32} {a1 : Int32} {a2 : Int32} {Q : Option Value → Hp → Prop}
    (hq : if a0 < 0 then Q (some (.int (-1000001))) (147, f, I, RP f sw) else if 7 < a0 then Q (some (.int (-1000001))) (147, f, I, RP f sw) else ck (ixB a0 8) (oV ((RP f sw) 1 a0.toNatClampNeg) (fun q1 => ck (okB (147, f, I, RP f sw) q1 6) (if (I q1 1) = 0 then Q (some (.int ((-1000010) - 1))) (147, f, upI I 0 11 1, RP f sw) else ck (okB (147, f, I, RP f sw) q1 6) (if a1 < 0 then Q (some (.int ((-1000010) - 2))) (147, f, upI I 0 11 2, RP f sw) else ck (okB (147, f, I, RP f sw) q1 6) (if ((I q1 3) - a1) < 1 then Q (some (.int ((-1000010) - 2))) (147, f, upI I 0 11 2, RP f sw) else ck (okB (147, f, I, RP f sw) q1 6) (ck (okB (147, f, I, RP f sw) q1 6) (if (I q1 2) = 0 then ck (okB (147, f, I, RP f sw) q1 6) (oV ((RP f sw) q1 0) (fun q4 => ck (okB (147, f, I, RP f sw) q4 20) (ck (ixB a1 (SH q4).2) (Q (some (.int a2.toInt8.toInt32)) (147, f, upI (upI I q4 a1.toNatClampNeg a2.toInt8.toInt32) 0 11 0, RP f sw))))) else ck (okB (147, f, I, RP f sw) q1 6) (if (I q1 2) = 1 then ck (okB (147, f, I, RP f sw) q1 6) (oV ((RP f sw) q1 0) (fun q3 => ck (okB (147, f, I, RP f sw) q3 20) (ck (ixB a1 (SH q3).2) (Q (some (.int a2.toInt16.toInt32)) (147, f, upI (upI I q3 a1.toNatClampNeg a2.toInt16.toInt32) 0 11 0, RP f sw))))) else ck (okB (147, f, I, RP f sw) q1 6) (oV ((RP f sw) q1 0) (fun q2 => ck (okB (147, f, I, RP f sw) q2 20) (ck (ixB a1 (SH q2).2) (Q (some (.int a2)) (147, f, upI (upI I q2 a1.toNatClampNeg a2) 0 11 0, RP f sw)))))))))))))) :
    wp G (d + 10) (mt 17) 0 (en (mt 17) [.ref 0, .int a0, .int a1, .int a2]) [] (147, f, I, RP f sw) Q := vc_wp o [] [12, 13, 14, 16, 18, 19] 600 rfl hq

-- WreckCourtModel.set(III)I, entry 0
set_option maxRecDepth 100000 in
set_option maxHeartbeats 4000000 in
theorem v_Mset (o : OKs) {G : GX} {d f : Nat} {sw : Bool} {I : Nat → Nat → Int32} {a0 : Int32} {a1 : Int32} {a2 : Int32} {Q : Option Value → Hp → Prop}
    (hq : if lg_cmp a0.toInt64 0 < 0 then Q (some (.int (-1000001))) (147, f, upI I 93 0 0, RP f sw) else if 0 < lg_cmp a0.toInt64 7 then Q (some (.int (-1000001))) (147, f, upI I 93 0 0, RP f sw) else ck (ixB a0 8) (if 0 ≤ (I 94 a0.toNatClampNeg) then ck (ixB a0 8) (if lg_cmp a1.toInt64 0 < 0 then Q (some (.int ((-1000010) - 2))) (147, f, upI (upI (upI I 93 0 0) 93 1 0) 93 1 2, RP f sw) else if 0 < lg_cmp a1.toInt64 (((I 95 a0.toNatClampNeg) - 1).toInt64) then Q (some (.int ((-1000010) - 2))) (147, f, upI (upI (upI I 93 0 0) 93 1 0) 93 1 2, RP f sw) else ck (ixB a0 8) (if (I 94 a0.toNatClampNeg) = 0 then ck (ixB ((120 * a0) + a1) 960) (ck (ixB ((120 * a0) + a1) 960) (Q (some (.int ((upI (upI (upI I 93 0 0) 93 1 0) 96 (((120 * a0) + a1).toNatClampNeg) a2.toInt8.toInt32) 96 (((120 * a0) + a1).toNatClampNeg)))) (147, f, upI (upI (upI I 93 0 0) 93 1 0) 96 (((120 * a0) + a1).toNatClampNeg) a2.toInt8.toInt32, RP f sw))) else ck (ixB a0 8) (if (I 94 a0.toNatClampNeg) = 1 then ck (ixB ((120 * a0) + a1) 960) (ck (ixB ((120 * a0) + a1) 960) (Q (some (.int ((upI (upI (upI I 93 0 0) 93 1 0) 96 (((120 * a0) + a1).toNatClampNeg) a2.toInt16.toInt32) 96 (((120 * a0) + a1).toNatClampNeg)))) (147, f, upI (upI (upI I 93 0 0) 93 1 0) 96 (((120 * a0) + a1).toNatClampNeg) a2.toInt16.toInt32, RP f sw))) else ck (ixB ((120 * a0) + a1) 960) (ck (ixB ((120 * a0) + a1) 960) (Q (some (.int ((upI (upI (upI I 93 0 0) 93 1 0) 96 (((120 * a0) + a1).toNatClampNeg) a2) 96 (((120 * a0) + a1).toNatClampNeg)))) (147, f, upI (upI (upI I 93 0 0) 93 1 0) 96 (((120 * a0) + a1).toNatClampNeg) a2, RP f sw)))))) else Q (some (.int ((-1000010) - 1))) (147, f, upI (upI (upI I 93 0 0) 93 1 0) 93 1 1, RP f sw))) :
    wp G (d + 10) (mt 186) 0 (en (mt 186) [.ref 93, .int a0, .int a1, .int a2]) [] (147, f, I, RP f sw) Q := vc_wp o [] [183, 184, 185] 600 rfl hq

-- WreckCourt.dark(III)I, entry 0
set_option maxRecDepth 100000 in
set_option maxHeartbeats 4000000 in
theorem v_Cdark (o : OKs) {G : GX} {d f : Nat} {sw : Bool} {I : Nat → Nat → Int32} {a0 : Int32} {a1 : Int32} {a2 : Int32} {Q : Option Value → Hp → Prop}
    (hq : if a0 < 0 then Q (some (.int (-1000001))) (147, f, I, RP f sw) else if 1 < a0 then Q (some (.int (-1000001))) (147, f, I, RP f sw) else if a1 < 0 then Q (some (.int (-1000001))) (147, f, I, RP f sw) else if 239 < a1 then Q (some (.int (-1000001))) (147, f, I, RP f sw) else if 240 < a2 then Q (some (.int (-1000001))) (147, f, I, RP f sw) else if a2 ≤ a1 then Q (some (.int (-1000001))) (147, f, I, RP f sw) else if (I 7 3) = (Int32.ofNat 10) then Q (some (.int (-1000003))) (147, f, I, RP f sw) else ck (ixB (I 7 3) 10) (ck (ixB (I 7 3) 10) (ck (ixB (I 7 3) 10) (Q (some (.int ((I 7 3) + 1))) (147, f, upI (upI (upI (upI I 8 ((I 7 3).toNatClampNeg) a0) 9 ((I 7 3).toNatClampNeg) a1) 10 ((I 7 3).toNatClampNeg) a2) 7 3 ((I 7 3) + 1), RP f sw))))) :
    wp G (d + 10) (mt 34) 0 (en (mt 34) [.ref 0, .int a0, .int a1, .int a2]) [] (147, f, I, RP f sw) Q := vc_wp o [] [13, 27, 35, 36, 37] 600 rfl hq

-- WreckCourtModel.dark(III)I, entry 0
set_option maxRecDepth 100000 in
set_option maxHeartbeats 4000000 in
theorem v_Mdark (o : OKs) {G : GX} {d f : Nat} {sw : Bool} {I : Nat → Nat → Int32} {a0 : Int32} {a1 : Int32} {a2 : Int32} {Q : Option Value → Hp → Prop}
    (hq : if lg_cmp a0.toInt64 0 < 0 then Q (some (.int (-1000001))) (147, f, upI I 93 0 0, RP f sw) else if 0 < lg_cmp a0.toInt64 1 then Q (some (.int (-1000001))) (147, f, upI I 93 0 0, RP f sw) else if lg_cmp a1.toInt64 0 < 0 then Q (some (.int (-1000001))) (147, f, upI I 93 0 0, RP f sw) else if 0 < lg_cmp a1.toInt64 239 then Q (some (.int (-1000001))) (147, f, upI I 93 0 0, RP f sw) else if lg_cmp a2.toInt64 ((a1 + 1).toInt64) < 0 then Q (some (.int (-1000001))) (147, f, upI I 93 0 0, RP f sw) else if 0 < lg_cmp a2.toInt64 240 then Q (some (.int (-1000001))) (147, f, upI I 93 0 0, RP f sw) else if (I 93 19) = 10 then Q (some (.int (-1000003))) (147, f, upI I 93 0 0, RP f sw) else ck (ixB (I 93 19) 10) (ck (ixB (I 93 19) 10) (ck (ixB (I 93 19) 10) (Q (some (.int ((I 93 19) + 1))) (147, f, upI (upI (upI (upI (upI I 93 0 0) 109 ((I 93 19).toNatClampNeg) a0) 110 ((I 93 19).toNatClampNeg) a1) 111 ((I 93 19).toNatClampNeg) a2) 93 19 ((I 93 19) + 1), RP f sw))))) :
    wp G (d + 10) (mt 195) 0 (en (mt 195) [.ref 93, .int a0, .int a1, .int a2]) [] (147, f, I, RP f sw) Q := vc_wp o [] [184, 193] 600 rfl hq

-- WreckCourt.done(IIII)I, entry 0
set_option maxRecDepth 100000 in
set_option maxHeartbeats 4000000 in
theorem v_Cdone (o : OKs) {G : GX} {d f : Nat} {sw : Bool} {I : Nat → Nat → Int32} {a0 : Int32} {a1 : Int32} {a2 : Int32} {a3 : Int32} {Q : Option Value → Hp → Prop}
    (hq : if a0 < 0 then Q (some (.int (-1000001))) (147, f, I, RP f sw) else if ((I 2 2) - 1) < a0 then Q (some (.int (-1000001))) (147, f, I, RP f sw) else if a1 < 0 then Q (some (.int (-1000001))) (147, f, I, RP f sw) else if 3 < a1 then Q (some (.int (-1000001))) (147, f, I, RP f sw) else if a2 < 0 then Q (some (.int (-1000001))) (147, f, I, RP f sw) else if 239 < a2 then Q (some (.int (-1000001))) (147, f, I, RP f sw) else if 240 < a3 then Q (some (.int (-1000001))) (147, f, I, RP f sw) else if a3 ≤ a2 then Q (some (.int (-1000001))) (147, f, I, RP f sw) else if (I 57 3) = (Int32.ofNat 40) then Q (some (.int (-1000003))) (147, f, I, RP f sw) else ck (ixB (I 57 3) 40) (ck (ixB (I 57 3) 40) (ck (ixB (I 57 3) 40) (Q (some (.int ((I 57 3) + 1))) (147, f, upI (upI (upI (upI I 58 ((I 57 3).toNatClampNeg) ((a0 * 4) + a1)) 59 ((I 57 3).toNatClampNeg) a2) 60 ((I 57 3).toNatClampNeg) a3) 57 3 ((I 57 3) + 1), RP f sw))))) :
    wp G (d + 10) (mt 148) 0 (en (mt 148) [.ref 0, .int a0, .int a1, .int a2, .int a3]) [] (147, f, I, RP f sw) Q := vc_wp o [] [13, 26, 27, 35, 36, 37, 149, 150] 600 rfl hq

-- WreckCourtModel.done(IIII)I, entry 0
set_option maxRecDepth 100000 in
set_option maxHeartbeats 4000000 in
theorem v_Mdone (o : OKs) {G : GX} {d f : Nat} {sw : Bool} {I : Nat → Nat → Int32} {a0 : Int32} {a1 : Int32} {a2 : Int32} {a3 : Int32} {Q : Option Value → Hp → Prop}
    (hq : if lg_cmp a0.toInt64 0 < 0 then Q (some (.int (-1000001))) (147, f, upI I 93 0 0, RP f sw) else if 0 < lg_cmp a0.toInt64 (((I 93 7) - 1).toInt64) then Q (some (.int (-1000001))) (147, f, upI I 93 0 0, RP f sw) else if lg_cmp a1.toInt64 0 < 0 then Q (some (.int (-1000001))) (147, f, upI I 93 0 0, RP f sw) else if 0 < lg_cmp a1.toInt64 3 then Q (some (.int (-1000001))) (147, f, upI I 93 0 0, RP f sw) else if lg_cmp a2.toInt64 0 < 0 then Q (some (.int (-1000001))) (147, f, upI I 93 0 0, RP f sw) else if 0 < lg_cmp a2.toInt64 239 then Q (some (.int (-1000001))) (147, f, upI I 93 0 0, RP f sw) else if lg_cmp a3.toInt64 ((a2 + 1).toInt64) < 0 then Q (some (.int (-1000001))) (147, f, upI I 93 0 0, RP f sw) else if 0 < lg_cmp a3.toInt64 240 then Q (some (.int (-1000001))) (147, f, upI I 93 0 0, RP f sw) else if (I 93 72) = 40 then Q (some (.int (-1000003))) (147, f, upI I 93 0 0, RP f sw) else ck (ixB (I 93 72) 40) (ck (ixB (I 93 72) 40) (ck (ixB (I 93 72) 40) (ck (ixB (I 93 72) 40) (Q (some (.int ((I 93 72) + 1))) (147, f, upI (upI (upI (upI (upI (upI I 93 0 0) 141 ((I 93 72).toNatClampNeg) a0) 142 ((I 93 72).toNatClampNeg) a1) 143 ((I 93 72).toNatClampNeg) a2) 144 ((I 93 72).toNatClampNeg) a3) 93 72 ((I 93 72) + 1), RP f sw)))))) :
    wp G (d + 10) (mt 246) 0 (en (mt 246) [.ref 93, .int a0, .int a1, .int a2, .int a3]) [] (147, f, I, RP f sw) Q := vc_wp o [] [184, 192, 193] 600 rfl hq

-- WreckCourt.hole(III)I, entry 0
set_option maxRecDepth 100000 in
set_option maxHeartbeats 4000000 in
theorem v_Chole (o : OKs) {G : GX} {d f : Nat} {sw : Bool} {I : Nat → Nat → Int32} {a0 : Int32} {a1 : Int32} {a2 : Int32} {Q : Option Value → Hp → Prop}
    (hq : if a0 < 0 then Q (some (.int (-1000001))) (147, f, I, RP f sw) else if 5 < a0 then Q (some (.int (-1000001))) (147, f, I, RP f sw) else if a1 < 0 then Q (some (.int (-1000001))) (147, f, I, RP f sw) else if 239 < a1 then Q (some (.int (-1000001))) (147, f, I, RP f sw) else if a2 < 1 then Q (some (.int (-1000001))) (147, f, I, RP f sw) else if 100 < a2 then Q (some (.int (-1000001))) (147, f, I, RP f sw) else if (I 29 1) = 10 then Q (some (.int (-1000003))) (147, f, I, RP f sw) else ck (ixB (I 29 1) 10) (ck (ixB (I 29 1) 10) (ck (ixB (I 29 1) 10) (Q (some (.int ((I 29 1) + 1))) (147, f, upI (upI (upI (upI (upI I 35 ((I 29 1).toNatClampNeg) a0) 36 ((I 29 1).toNatClampNeg) a1) 37 ((I 29 1).toNatClampNeg) a2) 29 12 1) 29 1 ((I 29 1) + 1), RP f sw))))) :
    wp G (d + 10) (mt 62) 0 (en (mt 62) [.ref 0, .int a0, .int a1, .int a2]) [] (147, f, I, RP f sw) Q := vc_wp o [] [13, 27, 57, 63] 600 rfl hq

-- WreckCourtModel.hole(III)I, entry 0
set_option maxRecDepth 100000 in
set_option maxHeartbeats 4000000 in
theorem v_Mhole (o : OKs) {G : GX} {d f : Nat} {sw : Bool} {I : Nat → Nat → Int32} {a0 : Int32} {a1 : Int32} {a2 : Int32} {Q : Option Value → Hp → Prop}
    (hq : if lg_cmp a0.toInt64 0 < 0 then Q (some (.int (-1000001))) (147, f, upI I 93 0 0, RP f sw) else if 0 < lg_cmp a0.toInt64 5 then Q (some (.int (-1000001))) (147, f, upI I 93 0 0, RP f sw) else if lg_cmp a1.toInt64 0 < 0 then Q (some (.int (-1000001))) (147, f, upI I 93 0 0, RP f sw) else if 0 < lg_cmp a1.toInt64 239 then Q (some (.int (-1000001))) (147, f, upI I 93 0 0, RP f sw) else if lg_cmp a2.toInt64 1 < 0 then Q (some (.int (-1000001))) (147, f, upI I 93 0 0, RP f sw) else if 0 < lg_cmp a2.toInt64 100 then Q (some (.int (-1000001))) (147, f, upI I 93 0 0, RP f sw) else if (I 93 30) = 10 then Q (some (.int (-1000003))) (147, f, upI I 93 0 0, RP f sw) else ck (ixB (I 93 30) 10) (ck (ixB (I 93 30) 10) (ck (ixB (I 93 30) 10) (Q (some (.int ((I 93 30) + 1))) (147, f, upI (upI (upI (upI (upI I 93 0 0) 116 ((I 93 30).toNatClampNeg) a0) 117 ((I 93 30).toNatClampNeg) a1) 118 ((I 93 30).toNatClampNeg) a2) 93 30 ((I 93 30) + 1), RP f sw))))) :
    wp G (d + 10) (mt 208) 0 (en (mt 208) [.ref 93, .int a0, .int a1, .int a2]) [] (147, f, I, RP f sw) Q := vc_wp o [] [184, 193] 600 rfl hq

-- WreckCourt.kind(I)I, entry 0
set_option maxRecDepth 100000 in
set_option maxHeartbeats 4000000 in
theorem v_Ckind (o : OKs) {G : GX} {d f : Nat} {sw : Bool} {I : Nat → Nat → Int32} {a0 : Int32} {Q : Option Value → Hp → Prop}
    (hq : if a0 < 0 then Q (some (.int (-1000001))) (147, f, I, RP f sw) else if ((I 47 1) - 1) < a0 then Q (some (.int (-1000001))) (147, f, I, RP f sw) else ck (ixB a0 12) (oV ((RP f sw) 48 a0.toNatClampNeg) (fun q1 => ck (okB (147, f, I, RP f sw) q1 3) (ck (okB (147, f, I, RP f sw) q1 3) (ck (okB (147, f, I, RP f sw) q1 3) (if (I q1 8) = (-1000000) then ck (okB (147, f, I, RP f sw) q1 3) (Q (some (.int (I q1 0))) (147, f, I, RP f sw)) else Q (some (.int 4)) (147, f, I, RP f sw))))))) :
    wp G (d + 10) (mt 159) 0 (en (mt 159) [.ref 0, .int a0]) [] (147, f, I, RP f sw) Q := vc_wp o [] [13, 87, 89, 160] 600 rfl hq

-- WreckCourtModel.kind(I)I, entry 0
set_option maxRecDepth 100000 in
set_option maxHeartbeats 4000000 in
theorem v_Mkind (o : OKs) {G : GX} {d f : Nat} {sw : Bool} {I : Nat → Nat → Int32} {a0 : Int32} {Q : Option Value → Hp → Prop}
    (hq : if lg_cmp a0.toInt64 0 < 0 then Q (some (.int (-1000001))) (147, f, upI I 93 0 0, RP f sw) else if 0 < lg_cmp a0.toInt64 (((I 93 35) - 1).toInt64) then Q (some (.int (-1000001))) (147, f, upI I 93 0 0, RP f sw) else ck (ixB a0 12) (if (I 128 a0.toNatClampNeg) = (-1000000) then ck (ixB a0 12) (Q (some (.int (I 120 a0.toNatClampNeg))) (147, f, upI I 93 0 0, RP f sw)) else Q (some (.int 4)) (147, f, upI I 93 0 0, RP f sw))) :
    wp G (d + 10) (mt 252) 0 (en (mt 252) [.ref 93, .int a0]) [] (147, f, I, RP f sw) Q := vc_wp o [] [184, 220, 253] 600 rfl hq

-- WreckCourt.as(II)I, entry 0
set_option maxRecDepth 100000 in
set_option maxHeartbeats 4000000 in
theorem v_Cas (o : OKs) {G : GX} {d f : Nat} {sw : Bool} {I : Nat → Nat → Int32} {a0 : Int32} {a1 : Int32} {Q : Option Value → Hp → Prop}
    (hq : if a0 < 0 then Q (some (.int (-1000001))) (147, f, I, RP f sw) else if ((I 47 1) - 1) < a0 then Q (some (.int (-1000001))) (147, f, I, RP f sw) else if a1 < 0 then Q (some (.int (-1000001))) (147, f, I, RP f sw) else if 4 < a1 then Q (some (.int (-1000001))) (147, f, I, RP f sw) else ck (ixB a0 12) (oV ((RP f sw) 48 a0.toNatClampNeg) (fun q1 => ck (okB (147, f, I, RP f sw) q1 3) (ck (okB (147, f, I, RP f sw) q1 3) (ck (okB (147, f, I, RP f sw) q1 3) (ck (okB (147, f, I, RP f sw) q1 3) (if (I q1 8) = (-1000000) then ck (okB (147, f, I, RP f sw) q1 3) (if a1 = 0 then ck (okB (147, f, I, RP f sw) q1 3) (Q (some (.int (I q1 3))) (147, f, upI I 0 11 0, RP f sw)) else if a1 = (I q1 0) then ck (okB (147, f, I, RP f sw) q1 3) (Q (some (.int (I q1 3))) (147, f, upI I 0 11 0, RP f sw)) else if a1 = 1 then if (I q1 0) = 2 then ck (okB (147, f, I, RP f sw) q1 3) (Q (some (.int (I q1 3))) (147, f, upI I 0 11 0, RP f sw)) else if (I q1 0) = 4 then ck (okB (147, f, I, RP f sw) q1 3) (Q (some (.int (I q1 3))) (147, f, upI I 0 11 0, RP f sw)) else Q (some (.int ((-1000010) - 3))) (147, f, upI I 0 11 3, RP f sw) else Q (some (.int ((-1000010) - 3))) (147, f, upI I 0 11 3, RP f sw)) else if a1 = 0 then ck (okB (147, f, I, RP f sw) q1 3) (Q (some (.int (I q1 3))) (147, f, upI I 0 11 0, RP f sw)) else if a1 = 4 then ck (okB (147, f, I, RP f sw) q1 3) (Q (some (.int (I q1 3))) (147, f, upI I 0 11 0, RP f sw)) else if a1 = 1 then ck (okB (147, f, I, RP f sw) q1 3) (Q (some (.int (I q1 3))) (147, f, upI I 0 11 0, RP f sw)) else Q (some (.int ((-1000010) - 3))) (147, f, upI I 0 11 3, RP f sw)))))))) :
    wp G (d + 10) (mt 161) 0 (en (mt 161) [.ref 0, .int a0, .int a1]) [] (147, f, I, RP f sw) Q := vc_wp o [] [13, 14, 16, 87, 89, 160, 162] 600 rfl hq

-- WreckCourtModel.as(II)I, entry 0
set_option maxRecDepth 100000 in
set_option maxHeartbeats 4000000 in
theorem v_Mas (o : OKs) {G : GX} {d f : Nat} {sw : Bool} {I : Nat → Nat → Int32} {a0 : Int32} {a1 : Int32} {Q : Option Value → Hp → Prop}
    (hq : if lg_cmp a0.toInt64 0 < 0 then Q (some (.int (-1000001))) (147, f, upI I 93 0 0, RP f sw) else if 0 < lg_cmp a0.toInt64 (((I 93 35) - 1).toInt64) then Q (some (.int (-1000001))) (147, f, upI I 93 0 0, RP f sw) else if lg_cmp a1.toInt64 0 < 0 then Q (some (.int (-1000001))) (147, f, upI I 93 0 0, RP f sw) else if 0 < lg_cmp a1.toInt64 4 then Q (some (.int (-1000001))) (147, f, upI I 93 0 0, RP f sw) else ck (ixB a0 12) (if (I 128 a0.toNatClampNeg) = (-1000000) then ck (ixB a0 12) (if a1 = 0 then ck (ixB a0 12) (Q (some (.int (I 122 a0.toNatClampNeg))) (147, f, upI (upI I 93 0 0) 93 1 0, RP f sw)) else if (I 120 a0.toNatClampNeg) = a1 then ck (ixB a0 12) (Q (some (.int (I 122 a0.toNatClampNeg))) (147, f, upI (upI I 93 0 0) 93 1 0, RP f sw)) else if a1 = 1 then if (I 120 a0.toNatClampNeg) = 2 then ck (ixB a0 12) (Q (some (.int (I 122 a0.toNatClampNeg))) (147, f, upI (upI I 93 0 0) 93 1 0, RP f sw)) else if (I 120 a0.toNatClampNeg) = 4 then ck (ixB a0 12) (Q (some (.int (I 122 a0.toNatClampNeg))) (147, f, upI (upI I 93 0 0) 93 1 0, RP f sw)) else Q (some (.int ((-1000010) - 3))) (147, f, upI (upI (upI I 93 0 0) 93 1 0) 93 1 3, RP f sw) else Q (some (.int ((-1000010) - 3))) (147, f, upI (upI (upI I 93 0 0) 93 1 0) 93 1 3, RP f sw)) else if a1 = 0 then ck (ixB a0 12) (Q (some (.int (I 122 a0.toNatClampNeg))) (147, f, upI (upI I 93 0 0) 93 1 0, RP f sw)) else if 4 = a1 then ck (ixB a0 12) (Q (some (.int (I 122 a0.toNatClampNeg))) (147, f, upI (upI I 93 0 0) 93 1 0, RP f sw)) else if a1 = 1 then ck (ixB a0 12) (Q (some (.int (I 122 a0.toNatClampNeg))) (147, f, upI (upI I 93 0 0) 93 1 0, RP f sw)) else Q (some (.int ((-1000010) - 3))) (147, f, upI (upI (upI I 93 0 0) 93 1 0) 93 1 3, RP f sw))) :
    wp G (d + 10) (mt 254) 0 (en (mt 254) [.ref 93, .int a0, .int a1]) [] (147, f, I, RP f sw) Q := vc_wp o [] [184, 185, 220, 253, 255] 600 rfl hq

-- WreckCourt.withdraw(II)I, entry 0
set_option maxRecDepth 100000 in
set_option maxHeartbeats 4000000 in
theorem v_Cwithdraw (o : OKs) {G : GX} {d f : Nat} {sw : Bool} {I : Nat → Nat → Int32} {a0 : Int32} {a1 : Int32} {Q : Option Value → Hp → Prop}
    (hq : if a0 < 0 then Q (some (.int (-1000001))) (147, f, I, RP f sw) else if ((I 47 1) - 1) < a0 then Q (some (.int (-1000001))) (147, f, I, RP f sw) else if a1 < 0 then Q (some (.int (-1000001))) (147, f, I, RP f sw) else if 99 < a1 then Q (some (.int (-1000001))) (147, f, I, RP f sw) else ck (ixB a0 12) (oV ((RP f sw) 48 a0.toNatClampNeg) (fun q1 => ck (okB (147, f, I, RP f sw) q1 3) (if (I q1 2) ≤ a1 then ck (ixB a0 12) (oV ((RP f sw) 48 a0.toNatClampNeg) (fun q2 => ck (okB (147, f, I, RP f sw) q2 3) (ck (okB (147, f, I, RP f sw) q2 3) (if (I q2 0) = 1 then ck (okB (147, f, I, RP f sw) q2 3) (ck (okB (147, f, I, RP f sw) q2 3) (if (I q2 8) = (-1000000) then ck (okB (147, f, I, RP f sw) q2 3 && kz 3 8 a1) (Q (some (.int 1)) (147, f, upI I q2 8 a1, RP f sw)) else Q (some (.int (-1000002))) (147, f, I, RP f sw))) else ck (okB (147, f, I, RP f sw) q2 3) (if (I q2 0) = 2 then ck (okB (147, f, I, RP f sw) q2 3) (ck (okB (147, f, I, RP f sw) q2 3) (if (I q2 8) = (-1000000) then ck (okB (147, f, I, RP f sw) q2 3 && kz 3 8 a1) (Q (some (.int 1)) (147, f, upI I q2 8 a1, RP f sw)) else Q (some (.int (-1000002))) (147, f, I, RP f sw))) else Q (some (.int (-1000002))) (147, f, I, RP f sw)))))) else Q (some (.int (-1000001))) (147, f, I, RP f sw))))) :
    wp G (d + 10) (mt 86) 0 (en (mt 86) [.ref 0, .int a0, .int a1]) [] (147, f, I, RP f sw) Q := vc_wp o [] [13, 80, 87, 88, 89] 600 rfl hq

-- WreckCourtModel.withdraw(II)I, entry 0
set_option maxRecDepth 100000 in
set_option maxHeartbeats 4000000 in
theorem v_Mwithdraw (o : OKs) {G : GX} {d f : Nat} {sw : Bool} {I : Nat → Nat → Int32} {a0 : Int32} {a1 : Int32} {Q : Option Value → Hp → Prop}
    (hq : if lg_cmp a0.toInt64 0 < 0 then Q (some (.int (-1000001))) (147, f, upI I 93 0 0, RP f sw) else if 0 < lg_cmp a0.toInt64 (((I 93 35) - 1).toInt64) then Q (some (.int (-1000001))) (147, f, upI I 93 0 0, RP f sw) else if lg_cmp a1.toInt64 0 < 0 then Q (some (.int (-1000001))) (147, f, upI I 93 0 0, RP f sw) else if 0 < lg_cmp a1.toInt64 99 then Q (some (.int (-1000001))) (147, f, upI I 93 0 0, RP f sw) else ck (ixB a0 12) (if (I 127 a0.toNatClampNeg) ≤ a1 then ck (ixB a0 12) (if (I 120 a0.toNatClampNeg) = 1 then ck (ixB a0 12) (if (I 128 a0.toNatClampNeg) = (-1000000) then ck (ixB a0 12) (Q (some (.int 1)) (147, f, upI (upI I 93 0 0) 128 a0.toNatClampNeg a1, RP f sw)) else Q (some (.int (-1000002))) (147, f, upI I 93 0 0, RP f sw)) else ck (ixB a0 12) (if (I 120 a0.toNatClampNeg) = 2 then ck (ixB a0 12) (if (I 128 a0.toNatClampNeg) = (-1000000) then ck (ixB a0 12) (Q (some (.int 1)) (147, f, upI (upI I 93 0 0) 128 a0.toNatClampNeg a1, RP f sw)) else Q (some (.int (-1000002))) (147, f, upI I 93 0 0, RP f sw)) else Q (some (.int (-1000002))) (147, f, upI I 93 0 0, RP f sw))) else Q (some (.int (-1000001))) (147, f, upI I 93 0 0, RP f sw))) :
    wp G (d + 10) (mt 219) 0 (en (mt 219) [.ref 93, .int a0, .int a1]) [] (147, f, I, RP f sw) Q := vc_wp o [] [184, 218, 220, 221] 600 rfl hq
