/-! CONDITIONS of sheet, count, feed -/
-- java/util/Arrays.fill([II)V, entry 0
set_option maxRecDepth 100000 in
set_option maxHeartbeats 4000000 in
theorem v_fill (o : OKs) {G : GX} {d f : Nat} {sw : Bool} {I : Nat → Nat → Int32} {p : Nat} {v : Int32} {Q : Option Value → Hp → Prop}
    (hq : if p = 100300 then wp G (d + 10) (mt 5) 5 [some (.ref p), some (.int v), some (.int 0), some (.int (I 100301 0))] [] (147, f, I, RP f sw) Q else ck (okB (147, f, I, RP f sw) p 20) (wp G (d + 10) (mt 5) 5 [some (.ref p), some (.int v), some (.int 0), some (.int (Int32.ofNat (SH p).2))] [] (147, f, I, RP f sw) Q)) :
    wp G (d + 10) (mt 5) 0 (en (mt 5) [.ref p, .int v]) [] (147, f, I, RP f sw) Q := vc_wp o [(5, 5, [0, 1, 2, 3])] [] 600 rfl hq

-- java/util/Arrays.fill([II)V, entry 5
set_option maxRecDepth 100000 in
set_option maxHeartbeats 4000000 in
theorem v_fill5 (o : OKs) {G : GX} {d f : Nat} {sw : Bool} {I : Nat → Nat → Int32} {p : Nat} {v : Int32} {i : Int32} {n : Int32} {Q : Option Value → Hp → Prop}
    (hq : if n ≤ i then Q none (147, f, I, RP f sw) else ck (okB (147, f, I, RP f sw) p 20) (ck (ixB i (SH p).2) (wp G (d + 10) (mt 5) 5 [some (.ref p), some (.int v), some (.int (i + Int32.ofInt 1)), some (.int n)] [] (147, f, upI I p i.toNatClampNeg v, RP f sw) Q))) :
    wp G (d + 10) (mt 5) 5 [some (.ref p), some (.int v), some (.int i), some (.int n)] [] (147, f, I, RP f sw) Q := vc_wp o [(5, 5, [0, 1, 2, 3])] [] 600 rfl hq

-- WreckCourt.sheet(III)I, entry 0
set_option maxRecDepth 100000 in
set_option maxHeartbeats 4000000 in
theorem v_Csheet (o : OKs) {G : GX} {d f : Nat} {sw : Bool} {I : Nat → Nat → Int32} {a0 : Int32} {a1 : Int32} {a2 : Int32} {Q : Option Value → Hp → Prop}
    (hq : if a0 < 0 then Q (some (.int (-1000001))) (147, f, I, RP f sw) else if 7 < a0 then Q (some (.int (-1000001))) (147, f, I, RP f sw) else if a1 < 0 then Q (some (.int (-1000001))) (147, f, I, RP f sw) else if 2 < a1 then Q (some (.int (-1000001))) (147, f, I, RP f sw) else if a2 ≤ 120 then if 0 ≤ a2 then ck (ixB a0 8) (oV ((RP f sw) 1 a0.toNatClampNeg) (fun q1 => ck (okB (147, f, I, RP f sw) q1 6) (ck (okB (147, f, I, RP f sw) q1 6 && kz 6 1 1) (ck (okB (147, f, upI I q1 1 1, RP f sw) q1 6 && kz 6 2 a1) (ck (okB (147, f, upI (upI I q1 1 1) q1 2 a1, RP f sw) q1 6 && kz 6 3 a2) (ck (okB (147, f, upI (upI (upI I q1 1 1) q1 2 a1) q1 3 a2, RP f sw) q1 6) (oV ((RP f sw) q1 0) (fun q2 => wp G (d + 8) (mt 5) 0 (en (mt 5) [.ref q2, .int 0]) [] (147, f, upI (upI (upI I q1 1 1) q1 2 a1) q1 3 a2, RP f sw) (fun v h1 => ∃ I3 : Nat → Nat → Int32, v = none ∧ h1 = (147, f, I3, RP f sw) ∧ (Q (some (.int a2)) (147, f, upI I3 0 11 0, RP f sw))))))))))) else Q (some (.int ((-1000010) - 4))) (147, f, upI I 0 11 4, RP f sw) else Q (some (.int (-1000001))) (147, f, I, RP f sw)) :
    wp G (d + 10) (mt 11) 0 (en (mt 11) [.ref 0, .int a0, .int a1, .int a2]) [] (147, f, I, RP f sw) Q := vc_wp o [] [12, 13, 14, 15, 16] 600 rfl hq

-- WreckCourtModel.sheet(III)I, entry 38
set_option maxRecDepth 100000 in
set_option maxHeartbeats 4000000 in
theorem v_Msheet38 (o : OKs) {G : GX} {d f : Nat} {sw : Bool} {I : Nat → Nat → Int32} {s : Int32} {n : Int32} {k : Int32} {Q : Option Value → Hp → Prop}
    (hq : if 120 ≤ k then Q (some (.int n)) (147, f, I, RP f sw) else ck (ixB ((120 * s) + k) 960) (wp G (d + 10) (mt 182) 38 [some (.ref 93), some (.int s), none, some (.int n), some (.int (k + Int32.ofInt 1))] [] (147, f, upI I 96 (((120 * s) + k).toNatClampNeg) 0, RP f sw) Q)) :
    wp G (d + 10) (mt 182) 38 [some (.ref 93), some (.int s), none, some (.int n), some (.int k)] [] (147, f, I, RP f sw) Q := vc_wp o [(182, 38, [0, 1, 3, 4])] [] 600 rfl hq

-- WreckCourt.count(I)I, entry 0
set_option maxRecDepth 100000 in
set_option maxHeartbeats 4000000 in
theorem v_Ccount (o : OKs) {G : GX} {d f : Nat} {I : Nat → Nat → Int32} {a0 : Int32} {Q : Option Value → Hp → Prop}
    (hq : if a0 = 0 then wp G (d + 9) (mt 178) 0 (en (mt 178) [.ref 0]) [] (147, f, I, RP f false) (fun v h1 => ∃ (x2 : Int32) (I1 : Nat → Nat → Int32), v = some (.int x2) ∧ h1 = (147, f, I1, RP f false) ∧ (Q (some (.int x2)) (147, f, I1, RP f false))) else if a0 = 0 + 1 then Q (some (.int (I 2 2))) (147, f, I, RP f false) else if a0 = 0 + 1 + 1 then Q (some (.int (I 3 3))) (147, f, I, RP f false) else if a0 = 0 + 1 + 1 + 1 then Q (some (.int (I 47 1))) (147, f, I, RP f false) else if a0 = 0 + 1 + 1 + 1 + 1 then wp G (d + 9) (mt 179) 0 (en (mt 179) [.ref 47]) [] (147, f, I, RP f false) (fun v h1 => ∃ (x4 : Int32) (I3 : Nat → Nat → Int32), v = some (.int x4) ∧ h1 = (147, f, I3, RP f false) ∧ (Q (some (.int x4)) (147, f, I3, RP f false))) else if a0 = 0 + 1 + 1 + 1 + 1 + 1 then Q (some (.int (I 65 0))) (147, f, I, RP f false) else if a0 = 0 + 1 + 1 + 1 + 1 + 1 + 1 then Q (some (.int (I 29 1))) (147, f, I, RP f false) else if a0 = 0 + 1 + 1 + 1 + 1 + 1 + 1 + 1 then Q (some (.int (I 57 3))) (147, f, I, RP f false) else if a0 = 0 + 1 + 1 + 1 + 1 + 1 + 1 + 1 + 1 then Q (some (.int (I 61 0))) (147, f, I, RP f false) else Q (some (.int (-1000001))) (147, f, I, RP f false)) :
    wp G (d + 10) (mt 177) 0 (en (mt 177) [.ref 0, .int a0]) [] (147, f, I, RP f false) Q := vc_wp o [] [] 600 rfl hq

-- WreckCourt.count(I)I, entry 0
set_option maxRecDepth 100000 in
set_option maxHeartbeats 4000000 in
theorem v_CcountT (o : OKs) {G : GX} {d f : Nat} {I : Nat → Nat → Int32} {a0 : Int32} {Q : Option Value → Hp → Prop}
    (hq : if a0 = 0 then wp G (d + 9) (mt 178) 0 (en (mt 178) [.ref 0]) [] (147, f, I, RP f true) (fun v h1 => ∃ (x2 : Int32) (I1 : Nat → Nat → Int32), v = some (.int x2) ∧ h1 = (147, f, I1, RP f true) ∧ (Q (some (.int x2)) (147, f, I1, RP f true))) else if a0 = 0 + 1 then Q (some (.int (I 2 2))) (147, f, I, RP f true) else if a0 = 0 + 1 + 1 then Q (some (.int (I 3 3))) (147, f, I, RP f true) else if a0 = 0 + 1 + 1 + 1 then Q (some (.int (I 47 1))) (147, f, I, RP f true) else if a0 = 0 + 1 + 1 + 1 + 1 then wp G (d + 9) (mt 179) 0 (en (mt 179) [.ref 47]) [] (147, f, I, RP f true) (fun v h1 => ∃ (x4 : Int32) (I3 : Nat → Nat → Int32), v = some (.int x4) ∧ h1 = (147, f, I3, RP f true) ∧ (Q (some (.int x4)) (147, f, I3, RP f true))) else if a0 = 0 + 1 + 1 + 1 + 1 + 1 then Q (some (.int (I 71 0))) (147, f, I, RP f true) else if a0 = 0 + 1 + 1 + 1 + 1 + 1 + 1 then Q (some (.int (I 29 1))) (147, f, I, RP f true) else if a0 = 0 + 1 + 1 + 1 + 1 + 1 + 1 + 1 then Q (some (.int (I 57 3))) (147, f, I, RP f true) else if a0 = 0 + 1 + 1 + 1 + 1 + 1 + 1 + 1 + 1 then Q (some (.int (I 61 0))) (147, f, I, RP f true) else Q (some (.int (-1000001))) (147, f, I, RP f true)) :
    wp G (d + 10) (mt 177) 0 (en (mt 177) [.ref 0, .int a0]) [] (147, f, I, RP f true) Q := vc_wp o [] [] 600 rfl hq

-- WreckCourt.sheetsThere()I, entry 0
set_option maxRecDepth 100000 in
set_option maxHeartbeats 4000000 in
theorem v_sheetsThere (o : OKs) {G : GX} {d f : Nat} {sw : Bool} {I : Nat → Nat → Int32}  {Q : Option Value → Hp → Prop}
    (hq : wp G (d + 10) (mt 178) 4 [some (.ref 0), some (.int 0), some (.int 0)] [] (147, f, I, RP f sw) Q) :
    wp G (d + 10) (mt 178) 0 (en (mt 178) [.ref 0]) [] (147, f, I, RP f sw) Q := vc_wp o [(178, 4, [0, 1, 2])] [] 600 rfl hq

-- WreckCourt.sheetsThere()I, entry 4
set_option maxRecDepth 100000 in
set_option maxHeartbeats 4000000 in
theorem v_sheetsThere4 (o : OKs) {G : GX} {d f : Nat} {sw : Bool} {I : Nat → Nat → Int32} {n : Int32} {i : Int32} {Q : Option Value → Hp → Prop}
    (hq : if 8 ≤ i then Q (some (.int n)) (147, f, I, RP f sw) else ck (ixB i 8) (oV ((RP f sw) 1 i.toNatClampNeg) (fun q1 => ck (okB (147, f, I, RP f sw) q1 6) (if (I q1 1) = 0 then wp G (d + 10) (mt 178) 4 [some (.ref 0), some (.int n), some (.int (i + Int32.ofInt 1))] [] (147, f, I, RP f sw) Q else wp G (d + 10) (mt 178) 4 [some (.ref 0), some (.int (n + Int32.ofInt 1)), some (.int (i + Int32.ofInt 1))] [] (147, f, I, RP f sw) Q)))) :
    wp G (d + 10) (mt 178) 4 [some (.ref 0), some (.int n), some (.int i)] [] (147, f, I, RP f sw) Q := vc_wp o [(178, 4, [0, 1, 2])] [] 600 rfl hq

-- WreckCourt$Bench.goneOnes()I, entry 0
set_option maxRecDepth 100000 in
set_option maxHeartbeats 4000000 in
theorem v_goneOnes (o : OKs) {G : GX} {d f : Nat} {sw : Bool} {I : Nat → Nat → Int32}  {Q : Option Value → Hp → Prop}
    (hq : wp G (d + 10) (mt 179) 4 [some (.ref 47), some (.int 0), some (.int 0)] [] (147, f, I, RP f sw) Q) :
    wp G (d + 10) (mt 179) 0 (en (mt 179) [.ref 47]) [] (147, f, I, RP f sw) Q := vc_wp o [(179, 4, [0, 1, 2])] [] 600 rfl hq

-- WreckCourt$Bench.goneOnes()I, entry 4
set_option maxRecDepth 100000 in
set_option maxHeartbeats 4000000 in
theorem v_goneOnes4 (o : OKs) {G : GX} {d f : Nat} {sw : Bool} {I : Nat → Nat → Int32} {n : Int32} {i : Int32} {Q : Option Value → Hp → Prop}
    (hq : if (I 47 1) ≤ i then Q (some (.int n)) (147, f, I, RP f sw) else ck (ixB i 12) (oV ((RP f sw) 48 i.toNatClampNeg) (fun q1 => ck (okB (147, f, I, RP f sw) q1 3) (ck (okB (147, f, I, RP f sw) q1 3) (if (I q1 8) = (-1000000) then wp G (d + 10) (mt 179) 4 [some (.ref 47), some (.int n), some (.int (i + Int32.ofInt 1))] [] (147, f, I, RP f sw) Q else wp G (d + 10) (mt 179) 4 [some (.ref 47), some (.int (n + Int32.ofInt 1)), some (.int (i + Int32.ofInt 1))] [] (147, f, I, RP f sw) Q))))) :
    wp G (d + 10) (mt 179) 4 [some (.ref 47), some (.int n), some (.int i)] [] (147, f, I, RP f sw) Q := vc_wp o [(179, 4, [0, 1, 2])] [89] 600 rfl hq

-- WreckCourtModel.count(I)I, entry 0
set_option maxRecDepth 100000 in
set_option maxHeartbeats 4000000 in
theorem v_Mcount (o : OKs) {G : GX} {d f : Nat} {sw : Bool} {I : Nat → Nat → Int32} {a0 : Int32} {Q : Option Value → Hp → Prop}
    (hq : if a0 = 0 then wp G (d + 10) (mt 262) 9 [some (.ref 93), none, some (.int 0), some (.int 0)] [] (147, f, upI I 93 0 0, RP f sw) Q else if a0 = 0 + 1 then Q (some (.int (I 93 7))) (147, f, upI I 93 0 0, RP f sw) else if a0 = 0 + 1 + 1 then Q (some (.int (I 93 10))) (147, f, upI I 93 0 0, RP f sw) else if a0 = 0 + 1 + 1 + 1 then Q (some (.int (I 93 35))) (147, f, upI I 93 0 0, RP f sw) else if a0 = 0 + 1 + 1 + 1 + 1 then wp G (d + 10) (mt 262) 38 [some (.ref 93), none, some (.int 0), some (.int 0)] [] (147, f, upI I 93 0 0, RP f sw) Q else if a0 = 0 + 1 + 1 + 1 + 1 + 1 then Q (some (.int (I 93 54))) (147, f, upI I 93 0 0, RP f sw) else if a0 = 0 + 1 + 1 + 1 + 1 + 1 + 1 then Q (some (.int (I 93 30))) (147, f, upI I 93 0 0, RP f sw) else if a0 = 0 + 1 + 1 + 1 + 1 + 1 + 1 + 1 then Q (some (.int (I 93 72))) (147, f, upI I 93 0 0, RP f sw) else if a0 = 0 + 1 + 1 + 1 + 1 + 1 + 1 + 1 + 1 then Q (some (.int (I 93 63))) (147, f, upI I 93 0 0, RP f sw) else Q (some (.int (-1000001))) (147, f, upI I 93 0 0, RP f sw)) :
    wp G (d + 10) (mt 262) 0 (en (mt 262) [.ref 93, .int a0]) [] (147, f, I, RP f sw) Q := vc_wp o [(262, 9, [0, 2, 3]), (262, 38, [0, 2, 3])] [] 600 rfl hq

-- WreckCourtModel.count(I)I, entry 9
set_option maxRecDepth 100000 in
set_option maxHeartbeats 4000000 in
theorem v_Mcount9 (o : OKs) {G : GX} {d f : Nat} {sw : Bool} {I : Nat → Nat → Int32} {n : Int32} {i : Int32} {Q : Option Value → Hp → Prop}
    (hq : if 8 ≤ i then Q (some (.int n)) (147, f, I, RP f sw) else ck (ixB i 8) (if (I 94 i.toNatClampNeg) < 0 then wp G (d + 10) (mt 262) 9 [some (.ref 93), none, some (.int (n + 0)), some (.int (i + Int32.ofInt 1))] [] (147, f, I, RP f sw) Q else wp G (d + 10) (mt 262) 9 [some (.ref 93), none, some (.int (n + 1)), some (.int (i + Int32.ofInt 1))] [] (147, f, I, RP f sw) Q)) :
    wp G (d + 10) (mt 262) 9 [some (.ref 93), none, some (.int n), some (.int i)] [] (147, f, I, RP f sw) Q := vc_wp o [(262, 9, [0, 2, 3]), (262, 38, [0, 2, 3])] [] 600 rfl hq

-- WreckCourtModel.count(I)I, entry 38
set_option maxRecDepth 100000 in
set_option maxHeartbeats 4000000 in
theorem v_Mcount38 (o : OKs) {G : GX} {d f : Nat} {sw : Bool} {I : Nat → Nat → Int32} {n : Int32} {i : Int32} {Q : Option Value → Hp → Prop}
    (hq : if (I 93 35) ≤ i then Q (some (.int n)) (147, f, I, RP f sw) else ck (ixB i 12) (if (I 128 i.toNatClampNeg) = (-1000000) then wp G (d + 10) (mt 262) 38 [some (.ref 93), none, some (.int (n + 0)), some (.int (i + Int32.ofInt 1))] [] (147, f, I, RP f sw) Q else wp G (d + 10) (mt 262) 38 [some (.ref 93), none, some (.int (n + 1)), some (.int (i + Int32.ofInt 1))] [] (147, f, I, RP f sw) Q)) :
    wp G (d + 10) (mt 262) 38 [some (.ref 93), none, some (.int n), some (.int i)] [] (147, f, I, RP f sw) Q := vc_wp o [(262, 9, [0, 2, 3]), (262, 38, [0, 2, 3])] [] 600 rfl hq

-- WreckCourt.feed(JI)I, entry 0
set_option maxRecDepth 100000 in
set_option maxHeartbeats 4000000 in
theorem v_Cfeed (o : OKs) {G : GX} {d f : Nat} {sw : Bool} {I : Nat → Nat → Int32} {w : Int64} {n : Int32} {Q : Option Value → Hp → Prop}
    (hq : if n < 1 then Q (some (.int (-1000001))) (147, f, I, RP f sw) else if 8 < n then Q (some (.int (-1000001))) (147, f, I, RP f sw) else if ((I 61 0) + n) ≤ 400 then wp G (d + 9) (mt 115) 0 (en (mt 115) [.ref 61, .long w, .int n]) [] (147, f, I, RP f sw) (fun v h1 => ∃ (x2 : Int32) (I1 : Nat → Nat → Int32), v = some (.int x2) ∧ h1 = (147, f, I1, RP f sw) ∧ (Q (some (.int x2)) (147, f, I1, RP f sw))) else Q (some (.int (-1000003))) (147, f, I, RP f sw)) :
    wp G (d + 10) (mt 114) 0 (en (mt 114) [.ref 0, .long w, .int n]) [] (147, f, I, RP f sw) Q := vc_wp o [] [13] 600 rfl hq

-- WreckCourt$Reader.append(JI)I, entry 0
set_option maxRecDepth 100000 in
set_option maxHeartbeats 4000000 in
theorem v_append (o : OKs) {G : GX} {d f : Nat} {sw : Bool} {I : Nat → Nat → Int32} {w : Int64} {n : Int32} {Q : Option Value → Hp → Prop}
    (hq : wp G (d + 10) (mt 115) 4 [some (.ref 61), some (.long w), none, none, some (.int (n - 1))] [] (147, f, I, RP f sw) Q) :
    wp G (d + 10) (mt 115) 0 (en (mt 115) [.ref 61, .long w, .int n]) [] (147, f, I, RP f sw) Q := vc_wp o [(115, 4, [0, 1, 4])] [] 600 rfl hq

-- WreckCourt$Reader.append(JI)I, entry 4
set_option maxRecDepth 100000 in
set_option maxHeartbeats 4000000 in
theorem v_append4 (o : OKs) {G : GX} {d f : Nat} {sw : Bool} {I : Nat → Nat → Int32} {w : Int64} {k : Int32} {Q : Option Value → Hp → Prop}
    (hq : if k < 0 then Q (some (.int (I 61 0))) (147, f, I, RP f sw) else ck (ixB (I 61 0) 400) (wp G (d + 10) (mt 115) 4 [some (.ref 61), some (.long w), none, none, some (.int (k + Int32.ofInt (-1)))] [] (147, f, upI (upI I 62 ((I 61 0).toNatClampNeg) ((((w >>> (((8 * k) : Int32).toInt64 &&& 63)).toInt32).toInt8.toInt32).toInt8.toInt32)) 61 0 ((I 61 0) + 1), RP f sw) Q)) :
    wp G (d + 10) (mt 115) 4 [some (.ref 61), some (.long w), none, none, some (.int k)] [] (147, f, I, RP f sw) Q := vc_wp o [(115, 4, [0, 1, 4])] [] 600 rfl hq

-- WreckCourtModel.feed(JI)I, entry 0
set_option maxRecDepth 100000 in
set_option maxHeartbeats 4000000 in
theorem v_Mfeed (o : OKs) {G : GX} {d f : Nat} {sw : Bool} {I : Nat → Nat → Int32} {w : Int64} {n : Int32} {Q : Option Value → Hp → Prop}
    (hq : if lg_cmp n.toInt64 1 < 0 then Q (some (.int (-1000001))) (147, f, upI I 93 0 0, RP f sw) else if 0 < lg_cmp n.toInt64 8 then Q (some (.int (-1000001))) (147, f, upI I 93 0 0, RP f sw) else if ((I 93 63) + n) ≤ 400 then wp G (d + 10) (mt 233) 23 [some (.ref 93), some (.long w), none, none, some (.int (n - 1))] [] (147, f, upI I 93 0 0, RP f sw) Q else Q (some (.int (-1000003))) (147, f, upI I 93 0 0, RP f sw)) :
    wp G (d + 10) (mt 233) 0 (en (mt 233) [.ref 93, .long w, .int n]) [] (147, f, I, RP f sw) Q := vc_wp o [(233, 23, [0, 1, 4])] [184] 600 rfl hq

-- WreckCourtModel.feed(JI)I, entry 23
set_option maxRecDepth 100000 in
set_option maxHeartbeats 4000000 in
theorem v_Mfeed23 (o : OKs) {G : GX} {d f : Nat} {sw : Bool} {I : Nat → Nat → Int32} {w : Int64} {k : Int32} {Q : Option Value → Hp → Prop}
    (hq : if k < 0 then Q (some (.int (I 93 63))) (147, f, I, RP f sw) else ck (ixB (I 93 63) 400) (wp G (d + 10) (mt 233) 23 [some (.ref 93), some (.long w), none, none, some (.int (k + Int32.ofInt (-1)))] [] (147, f, upI (upI I 140 ((I 93 63).toNatClampNeg) (((w >>> (((8 * k) : Int32).toInt64 &&& 63)) &&& 255).toInt32)) 93 63 ((I 93 63) + 1), RP f sw) Q)) :
    wp G (d + 10) (mt 233) 23 [some (.ref 93), some (.long w), none, none, some (.int k)] [] (147, f, I, RP f sw) Q := vc_wp o [(233, 23, [0, 1, 4])] [] 600 rfl hq
