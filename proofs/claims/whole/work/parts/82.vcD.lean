/-! CONDITIONS of court, sure -/
-- java/lang/Integer.bitCount(I)I, entry 0
set_option maxRecDepth 100000 in
set_option maxHeartbeats 4000000 in
theorem v_bitCount (o : OKs) {G : GX} {d f : Nat} {sw : Bool} {I : Nat → Nat → Int32} {x : Int32} {Q : Option Value → Hp → Prop}
    (hq : Q (some (.int ((((((((x - ((x.toUInt32 >>> ((1 : Int32).toUInt32 &&& Int32.toUInt32 31)).toInt32 &&& 1431655765)) &&& 858993459) + (((x - ((x.toUInt32 >>> ((1 : Int32).toUInt32 &&& Int32.toUInt32 31)).toInt32 &&& 1431655765)).toUInt32 >>> ((2 : Int32).toUInt32 &&& Int32.toUInt32 31)).toInt32 &&& 858993459)) + ((((x - ((x.toUInt32 >>> ((1 : Int32).toUInt32 &&& Int32.toUInt32 31)).toInt32 &&& 1431655765)) &&& 858993459) + (((x - ((x.toUInt32 >>> ((1 : Int32).toUInt32 &&& Int32.toUInt32 31)).toInt32 &&& 1431655765)).toUInt32 >>> ((2 : Int32).toUInt32 &&& Int32.toUInt32 31)).toInt32 &&& 858993459)).toUInt32 >>> ((4 : Int32).toUInt32 &&& Int32.toUInt32 31)).toInt32) &&& 252645135) + ((((((x - ((x.toUInt32 >>> ((1 : Int32).toUInt32 &&& Int32.toUInt32 31)).toInt32 &&& 1431655765)) &&& 858993459) + (((x - ((x.toUInt32 >>> ((1 : Int32).toUInt32 &&& Int32.toUInt32 31)).toInt32 &&& 1431655765)).toUInt32 >>> ((2 : Int32).toUInt32 &&& Int32.toUInt32 31)).toInt32 &&& 858993459)) + ((((x - ((x.toUInt32 >>> ((1 : Int32).toUInt32 &&& Int32.toUInt32 31)).toInt32 &&& 1431655765)) &&& 858993459) + (((x - ((x.toUInt32 >>> ((1 : Int32).toUInt32 &&& Int32.toUInt32 31)).toInt32 &&& 1431655765)).toUInt32 >>> ((2 : Int32).toUInt32 &&& Int32.toUInt32 31)).toInt32 &&& 858993459)).toUInt32 >>> ((4 : Int32).toUInt32 &&& Int32.toUInt32 31)).toInt32) &&& 252645135).toUInt32 >>> ((8 : Int32).toUInt32 &&& Int32.toUInt32 31)).toInt32) + (((((((x - ((x.toUInt32 >>> ((1 : Int32).toUInt32 &&& Int32.toUInt32 31)).toInt32 &&& 1431655765)) &&& 858993459) + (((x - ((x.toUInt32 >>> ((1 : Int32).toUInt32 &&& Int32.toUInt32 31)).toInt32 &&& 1431655765)).toUInt32 >>> ((2 : Int32).toUInt32 &&& Int32.toUInt32 31)).toInt32 &&& 858993459)) + ((((x - ((x.toUInt32 >>> ((1 : Int32).toUInt32 &&& Int32.toUInt32 31)).toInt32 &&& 1431655765)) &&& 858993459) + (((x - ((x.toUInt32 >>> ((1 : Int32).toUInt32 &&& Int32.toUInt32 31)).toInt32 &&& 1431655765)).toUInt32 >>> ((2 : Int32).toUInt32 &&& Int32.toUInt32 31)).toInt32 &&& 858993459)).toUInt32 >>> ((4 : Int32).toUInt32 &&& Int32.toUInt32 31)).toInt32) &&& 252645135) + ((((((x - ((x.toUInt32 >>> ((1 : Int32).toUInt32 &&& Int32.toUInt32 31)).toInt32 &&& 1431655765)) &&& 858993459) + (((x - ((x.toUInt32 >>> ((1 : Int32).toUInt32 &&& Int32.toUInt32 31)).toInt32 &&& 1431655765)).toUInt32 >>> ((2 : Int32).toUInt32 &&& Int32.toUInt32 31)).toInt32 &&& 858993459)) + ((((x - ((x.toUInt32 >>> ((1 : Int32).toUInt32 &&& Int32.toUInt32 31)).toInt32 &&& 1431655765)) &&& 858993459) + (((x - ((x.toUInt32 >>> ((1 : Int32).toUInt32 &&& Int32.toUInt32 31)).toInt32 &&& 1431655765)).toUInt32 >>> ((2 : Int32).toUInt32 &&& Int32.toUInt32 31)).toInt32 &&& 858993459)).toUInt32 >>> ((4 : Int32).toUInt32 &&& Int32.toUInt32 31)).toInt32) &&& 252645135).toUInt32 >>> ((8 : Int32).toUInt32 &&& Int32.toUInt32 31)).toInt32).toUInt32 >>> ((16 : Int32).toUInt32 &&& Int32.toUInt32 31)).toInt32) &&& 63))) (147, f, I, RP f sw)) :
    wp G (d + 10) (mt 104) 0 (en (mt 104) [.int x]) [] (147, f, I, RP f sw) Q := vc_wp o [] [] 600 rfl hq

-- java/lang/Integer.numberOfTrailingZeros(I)I, entry 0
set_option maxRecDepth 100000 in
set_option maxHeartbeats 4000000 in
theorem v_ntz (o : OKs) {G : GX} {d f : Nat} {sw : Bool} {I : Nat → Nat → Int32} {x : Int32} {Q : Option Value → Hp → Prop}
    (hq : if 0 < ((x ^^^ (-1)) &&& (x - 1)) then wp G (d + 10) (mt 105) 16 [some (.int ((x ^^^ (-1)) &&& (x - 1))), some (.int 1)] [] (147, f, I, RP f sw) Q else Q (some (.int (((x ^^^ (-1)) &&& (x - 1)) &&& 32))) (147, f, I, RP f sw)) :
    wp G (d + 10) (mt 105) 0 (en (mt 105) [.int x]) [] (147, f, I, RP f sw) Q := vc_wp o [(105, 16, [0, 1]), (105, 24, [0, 1]), (105, 32, [0, 1]), (105, 40, [0, 1]), (105, 48, [0, 1])] [] 600 rfl hq

-- java/lang/Integer.numberOfTrailingZeros(I)I, entry 16
set_option maxRecDepth 100000 in
set_option maxHeartbeats 4000000 in
theorem v_ntz16 (o : OKs) {G : GX} {d f : Nat} {sw : Bool} {I : Nat → Nat → Int32} {u0 : Int32} {u1 : Int32} {Q : Option Value → Hp → Prop}
    (hq : if u0 ≤ 65536 then wp G (d + 10) (mt 105) 24 [some (.int u0), some (.int u1)] [] (147, f, I, RP f sw) Q else wp G (d + 10) (mt 105) 24 [some (.int (u0.toUInt32 >>> ((16 : Int32).toUInt32 &&& Int32.toUInt32 31)).toInt32), some (.int (u1 + Int32.ofInt 16))] [] (147, f, I, RP f sw) Q) :
    wp G (d + 10) (mt 105) 16 [some (.int u0), some (.int u1)] [] (147, f, I, RP f sw) Q := vc_wp o [(105, 16, [0, 1]), (105, 24, [0, 1]), (105, 32, [0, 1]), (105, 40, [0, 1]), (105, 48, [0, 1])] [] 600 rfl hq

-- java/lang/Integer.numberOfTrailingZeros(I)I, entry 24
set_option maxRecDepth 100000 in
set_option maxHeartbeats 4000000 in
theorem v_ntz24 (o : OKs) {G : GX} {d f : Nat} {sw : Bool} {I : Nat → Nat → Int32} {u0 : Int32} {u1 : Int32} {Q : Option Value → Hp → Prop}
    (hq : if u0 ≤ 256 then wp G (d + 10) (mt 105) 32 [some (.int u0), some (.int u1)] [] (147, f, I, RP f sw) Q else wp G (d + 10) (mt 105) 32 [some (.int (u0.toUInt32 >>> ((8 : Int32).toUInt32 &&& Int32.toUInt32 31)).toInt32), some (.int (u1 + Int32.ofInt 8))] [] (147, f, I, RP f sw) Q) :
    wp G (d + 10) (mt 105) 24 [some (.int u0), some (.int u1)] [] (147, f, I, RP f sw) Q := vc_wp o [(105, 16, [0, 1]), (105, 24, [0, 1]), (105, 32, [0, 1]), (105, 40, [0, 1]), (105, 48, [0, 1])] [] 600 rfl hq

-- java/lang/Integer.numberOfTrailingZeros(I)I, entry 32
set_option maxRecDepth 100000 in
set_option maxHeartbeats 4000000 in
theorem v_ntz32 (o : OKs) {G : GX} {d f : Nat} {sw : Bool} {I : Nat → Nat → Int32} {u0 : Int32} {u1 : Int32} {Q : Option Value → Hp → Prop}
    (hq : if u0 ≤ 16 then wp G (d + 10) (mt 105) 40 [some (.int u0), some (.int u1)] [] (147, f, I, RP f sw) Q else wp G (d + 10) (mt 105) 40 [some (.int (u0.toUInt32 >>> ((4 : Int32).toUInt32 &&& Int32.toUInt32 31)).toInt32), some (.int (u1 + Int32.ofInt 4))] [] (147, f, I, RP f sw) Q) :
    wp G (d + 10) (mt 105) 32 [some (.int u0), some (.int u1)] [] (147, f, I, RP f sw) Q := vc_wp o [(105, 16, [0, 1]), (105, 24, [0, 1]), (105, 32, [0, 1]), (105, 40, [0, 1]), (105, 48, [0, 1])] [] 600 rfl hq

-- java/lang/Integer.numberOfTrailingZeros(I)I, entry 40
set_option maxRecDepth 100000 in
set_option maxHeartbeats 4000000 in
theorem v_ntz40 (o : OKs) {G : GX} {d f : Nat} {sw : Bool} {I : Nat → Nat → Int32} {u0 : Int32} {u1 : Int32} {Q : Option Value → Hp → Prop}
    (hq : if u0 ≤ 4 then wp G (d + 10) (mt 105) 48 [some (.int u0), some (.int u1)] [] (147, f, I, RP f sw) Q else wp G (d + 10) (mt 105) 48 [some (.int (u0.toUInt32 >>> ((2 : Int32).toUInt32 &&& Int32.toUInt32 31)).toInt32), some (.int (u1 + Int32.ofInt 2))] [] (147, f, I, RP f sw) Q) :
    wp G (d + 10) (mt 105) 40 [some (.int u0), some (.int u1)] [] (147, f, I, RP f sw) Q := vc_wp o [(105, 16, [0, 1]), (105, 24, [0, 1]), (105, 32, [0, 1]), (105, 40, [0, 1]), (105, 48, [0, 1])] [] 600 rfl hq

-- java/lang/Integer.numberOfTrailingZeros(I)I, entry 48
set_option maxRecDepth 100000 in
set_option maxHeartbeats 4000000 in
theorem v_ntz48 (o : OKs) {G : GX} {d f : Nat} {sw : Bool} {I : Nat → Nat → Int32} {u0 : Int32} {u1 : Int32} {Q : Option Value → Hp → Prop}
    (hq : Q (some (.int (u1 + (u0.toUInt32 >>> ((1 : Int32).toUInt32 &&& Int32.toUInt32 31)).toInt32))) (147, f, I, RP f sw)) :
    wp G (d + 10) (mt 105) 48 [some (.int u0), some (.int u1)] [] (147, f, I, RP f sw) Q := vc_wp o [(105, 16, [0, 1]), (105, 24, [0, 1]), (105, 32, [0, 1]), (105, 40, [0, 1]), (105, 48, [0, 1])] [] 600 rfl hq

def bcI (x : Int32) : Int32 := ((((((((x - ((x.toUInt32 >>> ((1 : Int32).toUInt32 &&& Int32.toUInt32 31)).toInt32 &&& 1431655765)) &&& 858993459) + (((x - ((x.toUInt32 >>> ((1 : Int32).toUInt32 &&& Int32.toUInt32 31)).toInt32 &&& 1431655765)).toUInt32 >>> ((2 : Int32).toUInt32 &&& Int32.toUInt32 31)).toInt32 &&& 858993459)) + ((((x - ((x.toUInt32 >>> ((1 : Int32).toUInt32 &&& Int32.toUInt32 31)).toInt32 &&& 1431655765)) &&& 858993459) + (((x - ((x.toUInt32 >>> ((1 : Int32).toUInt32 &&& Int32.toUInt32 31)).toInt32 &&& 1431655765)).toUInt32 >>> ((2 : Int32).toUInt32 &&& Int32.toUInt32 31)).toInt32 &&& 858993459)).toUInt32 >>> ((4 : Int32).toUInt32 &&& Int32.toUInt32 31)).toInt32) &&& 252645135) + ((((((x - ((x.toUInt32 >>> ((1 : Int32).toUInt32 &&& Int32.toUInt32 31)).toInt32 &&& 1431655765)) &&& 858993459) + (((x - ((x.toUInt32 >>> ((1 : Int32).toUInt32 &&& Int32.toUInt32 31)).toInt32 &&& 1431655765)).toUInt32 >>> ((2 : Int32).toUInt32 &&& Int32.toUInt32 31)).toInt32 &&& 858993459)) + ((((x - ((x.toUInt32 >>> ((1 : Int32).toUInt32 &&& Int32.toUInt32 31)).toInt32 &&& 1431655765)) &&& 858993459) + (((x - ((x.toUInt32 >>> ((1 : Int32).toUInt32 &&& Int32.toUInt32 31)).toInt32 &&& 1431655765)).toUInt32 >>> ((2 : Int32).toUInt32 &&& Int32.toUInt32 31)).toInt32 &&& 858993459)).toUInt32 >>> ((4 : Int32).toUInt32 &&& Int32.toUInt32 31)).toInt32) &&& 252645135).toUInt32 >>> ((8 : Int32).toUInt32 &&& Int32.toUInt32 31)).toInt32) + (((((((x - ((x.toUInt32 >>> ((1 : Int32).toUInt32 &&& Int32.toUInt32 31)).toInt32 &&& 1431655765)) &&& 858993459) + (((x - ((x.toUInt32 >>> ((1 : Int32).toUInt32 &&& Int32.toUInt32 31)).toInt32 &&& 1431655765)).toUInt32 >>> ((2 : Int32).toUInt32 &&& Int32.toUInt32 31)).toInt32 &&& 858993459)) + ((((x - ((x.toUInt32 >>> ((1 : Int32).toUInt32 &&& Int32.toUInt32 31)).toInt32 &&& 1431655765)) &&& 858993459) + (((x - ((x.toUInt32 >>> ((1 : Int32).toUInt32 &&& Int32.toUInt32 31)).toInt32 &&& 1431655765)).toUInt32 >>> ((2 : Int32).toUInt32 &&& Int32.toUInt32 31)).toInt32 &&& 858993459)).toUInt32 >>> ((4 : Int32).toUInt32 &&& Int32.toUInt32 31)).toInt32) &&& 252645135) + ((((((x - ((x.toUInt32 >>> ((1 : Int32).toUInt32 &&& Int32.toUInt32 31)).toInt32 &&& 1431655765)) &&& 858993459) + (((x - ((x.toUInt32 >>> ((1 : Int32).toUInt32 &&& Int32.toUInt32 31)).toInt32 &&& 1431655765)).toUInt32 >>> ((2 : Int32).toUInt32 &&& Int32.toUInt32 31)).toInt32 &&& 858993459)) + ((((x - ((x.toUInt32 >>> ((1 : Int32).toUInt32 &&& Int32.toUInt32 31)).toInt32 &&& 1431655765)) &&& 858993459) + (((x - ((x.toUInt32 >>> ((1 : Int32).toUInt32 &&& Int32.toUInt32 31)).toInt32 &&& 1431655765)).toUInt32 >>> ((2 : Int32).toUInt32 &&& Int32.toUInt32 31)).toInt32 &&& 858993459)).toUInt32 >>> ((4 : Int32).toUInt32 &&& Int32.toUInt32 31)).toInt32) &&& 252645135).toUInt32 >>> ((8 : Int32).toUInt32 &&& Int32.toUInt32 31)).toInt32).toUInt32 >>> ((16 : Int32).toUInt32 &&& Int32.toUInt32 31)).toInt32) &&& 63)

-- WreckCourt$Bench.heardOn(I)I, entry 0
set_option maxRecDepth 100000 in
set_option maxHeartbeats 4000000 in
theorem v_heardOn (o : OKs) {G : GX} {d f : Nat} {sw : Bool} {I : Nat → Nat → Int32} {y : Int32} {Q : Option Value → Hp → Prop}
    (hq : wp G (d + 20) (mt 97) 4 [some (.ref 47), some (.int y), some (.int 0), some (.int 0)] [] (147, f, I, RP f sw) Q) :
    wp G (d + 20) (mt 97) 0 (en (mt 97) [.ref 47, .int y]) [] (147, f, I, RP f sw) Q := vc_wp o [(97, 4, [0, 1, 2, 3])] [] 600 rfl hq

-- WreckCourt$Bench.heardOn(I)I, entry 4
set_option maxRecDepth 100000 in
set_option maxHeartbeats 4000000 in
theorem v_heardOn4 (o : OKs) {G : GX} {d f : Nat} {sw : Bool} {I : Nat → Nat → Int32} {u1 : Int32} {u2 : Int32} {u3 : Int32} {Q : Option Value → Hp → Prop}
    (hq : if (I 47 1) ≤ u3 then Q (some (.int u2)) (147, f, I, RP f sw) else ck (ixB u3 12) (oV ((RP f sw) 48 u3.toNatClampNeg) (fun q1 => ck (okB (147, f, I, RP f sw) q1 3) (ck (okB (147, f, I, RP f sw) q1 3) (if u1 < (I q1 2) then wp G (d + 20) (mt 97) 4 [some (.ref 47), some (.int u1), some (.int u2), some (.int (u3 + Int32.ofInt 1))] [] (147, f, I, RP f sw) Q else ck (okB (147, f, I, RP f sw) q1 3) (ck (okB (147, f, I, RP f sw) q1 3) (if (I q1 8) = (-1000000) then wp G (d + 20) (mt 97) 4 [some (.ref 47), some (.int u1), some (.int (u2 ||| ((1 : Int32) <<< (u3 &&& 31)))), some (.int (u3 + Int32.ofInt 1))] [] (147, f, I, RP f sw) Q else ck (okB (147, f, I, RP f sw) q1 3) (if (I q1 8) ≤ u1 then wp G (d + 20) (mt 97) 4 [some (.ref 47), some (.int u1), some (.int u2), some (.int (u3 + Int32.ofInt 1))] [] (147, f, I, RP f sw) Q else wp G (d + 20) (mt 97) 4 [some (.ref 47), some (.int u1), some (.int (u2 ||| ((1 : Int32) <<< (u3 &&& 31)))), some (.int (u3 + Int32.ofInt 1))] [] (147, f, I, RP f sw) Q)))))))) :
    wp G (d + 20) (mt 97) 4 [some (.ref 47), some (.int u1), some (.int u2), some (.int u3)] [] (147, f, I, RP f sw) Q := vc_wp o [(97, 4, [0, 1, 2, 3])] [89, 98] 600 rfl hq

-- WreckCourt$Bench.findWrongClocks()V, entry 0
set_option maxRecDepth 100000 in
set_option maxHeartbeats 4000000 in
theorem v_wrong (o : OKs) {G : GX} {d f : Nat} {sw : Bool} {I : Nat → Nat → Int32}  {Q : Option Value → Hp → Prop}
    (hq : wp G (d + 19) (mt 5) 0 (en (mt 5) [.ref 51, .int 0]) [] (147, f, I, RP f sw) (fun v h1 => ∃ I1 : Nat → Nat → Int32, v = none ∧ h1 = (147, f, I1, RP f sw) ∧ (wp G (d + 20) (mt 100) 6 [some (.ref 47), some (.int 0)] [] (147, f, I1, RP f sw) Q))) :
    wp G (d + 20) (mt 100) 0 (en (mt 100) [.ref 47]) [] (147, f, I, RP f sw) Q := vc_wp o [(100, 6, [0, 1])] [] 600 rfl hq

-- WreckCourt$Bench.findWrongClocks()V, entry 6
set_option maxRecDepth 100000 in
set_option maxHeartbeats 4000000 in
theorem v_wrong6 (o : OKs) {G : GX} {d f : Nat} {sw : Bool} {I : Nat → Nat → Int32} {u1 : Int32} {Q : Option Value → Hp → Prop}
    (hq : if (I 47 1) ≤ u1 then Q none (147, f, I, RP f sw) else if (((I 47 5) >>> (u1 &&& 31)) &&& 1) = 1 then ck (ixB u1 12) (oV ((RP f sw) 48 u1.toNatClampNeg) (fun q1 => ck (okB (147, f, I, RP f sw) q1 3) (ck (okB (147, f, I, RP f sw) q1 3) (if (I q1 0) = 1 then ck (ixB u1 12) (oV ((RP f sw) 48 u1.toNatClampNeg) (fun q2 => ck (okB (147, f, I, RP f sw) q2 3) (ck (ixB (I q2 1) 3) (wp G (d + 20) (mt 100) 6 [some (.ref 47), some (.int (u1 + Int32.ofInt 1))] [] (147, f, upI I 51 ((I q2 1).toNatClampNeg) 3, RP f sw) Q)))) else ck (okB (147, f, I, RP f sw) q1 3) (if (I q1 0) = 2 then ck (ixB u1 12) (oV ((RP f sw) 48 u1.toNatClampNeg) (fun q3 => ck (okB (147, f, I, RP f sw) q3 3) (ck (ixB (I q3 1) 3) (wp G (d + 20) (mt 100) 6 [some (.ref 47), some (.int (u1 + Int32.ofInt 1))] [] (147, f, upI I 51 ((I q3 1).toNatClampNeg) 3, RP f sw) Q)))) else wp G (d + 20) (mt 100) 6 [some (.ref 47), some (.int (u1 + Int32.ofInt 1))] [] (147, f, I, RP f sw) Q))))) else wp G (d + 20) (mt 100) 6 [some (.ref 47), some (.int (u1 + Int32.ofInt 1))] [] (147, f, I, RP f sw) Q) :
    wp G (d + 20) (mt 100) 6 [some (.ref 47), some (.int u1)] [] (147, f, I, RP f sw) Q := vc_wp o [(100, 6, [0, 1])] [88, 101] 600 rfl hq

-- WreckCourt$Bench.findQuarrels()V, entry 0
set_option maxRecDepth 100000 in
set_option maxHeartbeats 4000000 in
theorem v_findQ (o : OKs) {G : GX} {d f : Nat} {sw : Bool} {I : Nat → Nat → Int32}  {Q : Option Value → Hp → Prop}
    (hq : wp G (d + 79) (mt 5) 0 (en (mt 5) [.ref 53, .int 0]) [] (147, f, I, RP f sw) (fun v h1 => ∃ I1 : Nat → Nat → Int32, v = none ∧ h1 = (147, f, I1, RP f sw) ∧ (wp G (d + 80) (mt 102) 6 [some (.ref 47), some (.int 0), none] [] (147, f, I1, RP f sw) Q))) :
    wp G (d + 80) (mt 102) 0 (en (mt 102) [.ref 47]) [] (147, f, I, RP f sw) Q := vc_wp o [(102, 6, [0, 1]), (102, 14, [0, 1, 2])] [] 600 rfl hq

-- WreckCourt$Bench.findQuarrels()V, entry 6
set_option maxRecDepth 100000 in
set_option maxHeartbeats 4000000 in
theorem v_findQ6 (o : OKs) {G : GX} {d f : Nat} {sw : Bool} {I : Nat → Nat → Int32} {u1 : Int32} {Q : Option Value → Hp → Prop}
    (hq : if (I 47 1) ≤ u1 then Q none (147, f, I, RP f sw) else wp G (d + 80) (mt 102) 14 [some (.ref 47), some (.int u1), some (.int (u1 + 1))] [] (147, f, I, RP f sw) Q) :
    wp G (d + 80) (mt 102) 6 [some (.ref 47), some (.int u1), none] [] (147, f, I, RP f sw) Q := vc_wp o [(102, 6, [0, 1]), (102, 14, [0, 1, 2])] [] 600 rfl hq

-- WreckCourt$Bench.findQuarrels()V, entry 14
set_option maxRecDepth 100000 in
set_option maxHeartbeats 4000000 in
theorem v_findQ14 (o : OKs) {G : GX} {d f : Nat} {sw : Bool} {I : Nat → Nat → Int32} {u1 : Int32} {u2 : Int32} {Q : Option Value → Hp → Prop}
    (hq : if (I 47 1) ≤ u2 then wp G (d + 80) (mt 102) 6 [some (.ref 47), some (.int (u1 + Int32.ofInt 1)), none] [] (147, f, I, RP f sw) Q else if (((I 47 5) >>> (u1 &&& 31)) &&& 1) = 1 then if (((I 47 5) >>> (u2 &&& 31)) &&& 1) = 1 then wp G (d + 79) (mt 93) 0 (en (mt 93) [.ref 47, .int u1, .int u2]) [] (147, f, I, RP f sw) (fun v h1 => ∃ (x2 : Int32) (I1 : Nat → Nat → Int32), v = some (.int x2) ∧ h1 = (147, f, I1, RP f sw) ∧ (if x2 = 0 then wp G (d + 80) (mt 102) 14 [some (.ref 47), some (.int u1), some (.int (u2 + Int32.ofInt 1))] [] (147, f, I1, RP f sw) Q else ck (ixB u1 12) (ck (ixB u1 12) (wp G (d + 80) (mt 102) 14 [some (.ref 47), some (.int u1), some (.int (u2 + Int32.ofInt 1))] [] (147, f, upI I1 53 u1.toNatClampNeg ((I1 53 u1.toNatClampNeg) ||| ((1 : Int32) <<< (u2 &&& 31))), RP f sw) Q)))) else wp G (d + 80) (mt 102) 14 [some (.ref 47), some (.int u1), some (.int (u2 + Int32.ofInt 1))] [] (147, f, I, RP f sw) Q else wp G (d + 80) (mt 102) 6 [some (.ref 47), some (.int (u1 + Int32.ofInt 1)), none] [] (147, f, I, RP f sw) Q) :
    wp G (d + 80) (mt 102) 14 [some (.ref 47), some (.int u1), some (.int u2)] [] (147, f, I, RP f sw) Q := vc_wp o [(102, 6, [0, 1]), (102, 14, [0, 1, 2])] [101] 600 rfl hq

-- WreckCourt$Bench.gather(III)V, entry 0
set_option maxRecDepth 100000 in
set_option maxHeartbeats 4000000 in
theorem v_gather (o : OKs) {G : GX} {d f : Nat} {sw : Bool} {I : Nat → Nat → Int32} {s : Int32} {c : Int32} {e : Int32} {Q : Option Value → Hp → Prop}
    (hq : if 12 < e then Q none (147, f, I, RP f sw) else wp G (d + 39) (mt 104) 0 (en (mt 104) [.int s]) [] (147, f, I, RP f sw) (fun v h1 => ∃ (x2 : Int32) (I1 : Nat → Nat → Int32), v = some (.int x2) ∧ h1 = (147, f, I1, RP f sw) ∧ (wp G (d + 39) (mt 104) 0 (en (mt 104) [.int c]) [] (147, f, I1, RP f sw) (fun v h1 => ∃ (x4 : Int32) (I3 : Nat → Nat → Int32), v = some (.int x4) ∧ h1 = (147, f, I3, RP f sw) ∧ (if (I3 47 2) ≤ (x2 + x4) then if s = 0 then wp G (d + 39) (mt 104) 0 (en (mt 104) [.int c]) [] (147, f, I3, RP f sw) (fun v h1 => ∃ (x10 : Int32) (I9 : Nat → Nat → Int32), v = some (.int x10) ∧ h1 = (147, f, I9, RP f sw) ∧ (ck (ixB (c >>> (5 &&& 31)) 128) (ck (ixB (c >>> (5 &&& 31)) 128) (Q none (147, f, upI (upI I9 47 2 x10) 54 ((c >>> (5 &&& 31)).toNatClampNeg) ((I9 54 ((c >>> (5 &&& 31)).toNatClampNeg)) ||| ((1 : Int32) <<< ((c &&& 31) &&& 31))), RP f sw))))) else wp G (d + 39) (mt 105) 0 (en (mt 105) [.int s]) [] (147, f, I3, RP f sw) (fun v h1 => ∃ (x6 : Int32) (I5 : Nat → Nat → Int32), v = some (.int x6) ∧ h1 = (147, f, I5, RP f sw) ∧ (ck (ixB x6 12) (wp G (d + 39) (mt 103) 0 (en (mt 103) [.ref 47, .int ((s &&& (((1 : Int32) <<< (x6 &&& 31)) ^^^ (-1))) &&& (((s &&& (((1 : Int32) <<< (x6 &&& 31)) ^^^ (-1))) &&& (I5 53 x6.toNatClampNeg)) ^^^ (-1))), .int (c ||| ((1 : Int32) <<< (x6 &&& 31))), .int (e + 1)]) [] (147, f, I5, RP f sw) (fun v h1 => ∃ I7 : Nat → Nat → Int32, v = none ∧ h1 = (147, f, I7, RP f sw) ∧ (if ((s &&& (((1 : Int32) <<< (x6 &&& 31)) ^^^ (-1))) &&& (I5 53 x6.toNatClampNeg)) = 0 then Q none (147, f, I7, RP f sw) else wp G (d + 39) (mt 103) 0 (en (mt 103) [.ref 47, .int (s &&& (((1 : Int32) <<< (x6 &&& 31)) ^^^ (-1))), .int c, .int (e + 1)]) [] (147, f, I7, RP f sw) (fun v h1 => ∃ I8 : Nat → Nat → Int32, v = none ∧ h1 = (147, f, I8, RP f sw) ∧ (Q none (147, f, I8, RP f sw)))))))) else Q none (147, f, I3, RP f sw)))))) :
    wp G (d + 40) (mt 103) 0 (en (mt 103) [.ref 47, .int s, .int c, .int e]) [] (147, f, I, RP f sw) Q := vc_wp o [] [] 600 rfl hq

-- WreckCourt$Bench.tallyFacts(I)V, entry 0
set_option maxRecDepth 100000 in
set_option maxHeartbeats 4000000 in
theorem v_tallyF (o : OKs) {G : GX} {d f : Nat} {sw : Bool} {I : Nat → Nat → Int32} {s : Int32} {Q : Option Value → Hp → Prop}
    (hq : wp G (d + 10) (mt 107) 2 [some (.ref 47), some (.int s), some (.int 0)] [] (147, f, I, RP f sw) Q) :
    wp G (d + 10) (mt 107) 0 (en (mt 107) [.ref 47, .int s]) [] (147, f, I, RP f sw) Q := vc_wp o [(107, 2, [0, 1, 2])] [] 600 rfl hq

-- WreckCourt$Bench.tallyFacts(I)V, entry 2
set_option maxRecDepth 100000 in
set_option maxHeartbeats 4000000 in
theorem v_tallyF2 (o : OKs) {G : GX} {d f : Nat} {sw : Bool} {I : Nat → Nat → Int32} {u1 : Int32} {u2 : Int32} {Q : Option Value → Hp → Prop}
    (hq : if 12 ≤ u2 then Q none (147, f, I, RP f sw) else ck (ixB u2 12) (ck (ixB u2 12) (wp G (d + 10) (mt 107) 2 [some (.ref 47), some (.int u1), some (.int (u2 + Int32.ofInt 1))] [] (147, f, upI I 49 u2.toNatClampNeg ((I 49 u2.toNatClampNeg) + ((u1 >>> (u2 &&& 31)) &&& 1)), RP f sw) Q))) :
    wp G (d + 10) (mt 107) 2 [some (.ref 47), some (.int u1), some (.int u2)] [] (147, f, I, RP f sw) Q := vc_wp o [(107, 2, [0, 1, 2])] [] 600 rfl hq

-- WreckCourt$Bench.tally()V, entry 0
set_option maxRecDepth 100000 in
set_option maxHeartbeats 4000000 in
theorem v_tally (o : OKs) {G : GX} {d f : Nat} {sw : Bool} {I : Nat → Nat → Int32}  {Q : Option Value → Hp → Prop}
    (hq : wp G (d + 39) (mt 5) 0 (en (mt 5) [.ref 49, .int 0]) [] (147, f, upI (upI I 47 3 0) 47 4 0, RP f sw) (fun v h1 => ∃ I1 : Nat → Nat → Int32, v = none ∧ h1 = (147, f, I1, RP f sw) ∧ (wp G (d + 40) (mt 106) 12 [some (.ref 47), some (.int 0)] [] (147, f, I1, RP f sw) Q))) :
    wp G (d + 40) (mt 106) 0 (en (mt 106) [.ref 47]) [] (147, f, I, RP f sw) Q := vc_wp o [(106, 12, [0, 1])] [] 600 rfl hq

-- WreckCourt$Bench.tally()V, entry 12
set_option maxRecDepth 100000 in
set_option maxHeartbeats 4000000 in
theorem v_tally12 (o : OKs) {G : GX} {d f : Nat} {sw : Bool} {I : Nat → Nat → Int32} {u1 : Int32} {Q : Option Value → Hp → Prop}
    (hq : if 4096 ≤ u1 then Q none (147, f, I, RP f sw) else ck (ixB (u1 >>> (5 &&& 31)) 128) (if (((I 54 ((u1 >>> (5 &&& 31)).toNatClampNeg)) >>> ((u1 &&& 31) &&& 31)) &&& 1) = 1 then wp G (d + 39) (mt 104) 0 (en (mt 104) [.int u1]) [] (147, f, I, RP f sw) (fun v h1 => ∃ (x2 : Int32) (I1 : Nat → Nat → Int32), v = some (.int x2) ∧ h1 = (147, f, I1, RP f sw) ∧ (if x2 = (I1 47 2) then if (I1 47 3) = 0 then wp G (d + 39) (mt 107) 0 (en (mt 107) [.ref 47, .int u1]) [] (147, f, upI (upI I1 47 4 u1) 47 3 ((I1 47 3) + 1), RP f sw) (fun v h1 => ∃ I4 : Nat → Nat → Int32, v = none ∧ h1 = (147, f, I4, RP f sw) ∧ (wp G (d + 40) (mt 106) 12 [some (.ref 47), some (.int (u1 + Int32.ofInt 1))] [] (147, f, I4, RP f sw) Q)) else wp G (d + 39) (mt 107) 0 (en (mt 107) [.ref 47, .int u1]) [] (147, f, upI (upI I1 47 4 (I1 47 4)) 47 3 ((I1 47 3) + 1), RP f sw) (fun v h1 => ∃ I3 : Nat → Nat → Int32, v = none ∧ h1 = (147, f, I3, RP f sw) ∧ (wp G (d + 40) (mt 106) 12 [some (.ref 47), some (.int (u1 + Int32.ofInt 1))] [] (147, f, I3, RP f sw) Q)) else wp G (d + 40) (mt 106) 12 [some (.ref 47), some (.int (u1 + Int32.ofInt 1))] [] (147, f, I1, RP f sw) Q)) else wp G (d + 40) (mt 106) 12 [some (.ref 47), some (.int (u1 + Int32.ofInt 1))] [] (147, f, I, RP f sw) Q)) :
    wp G (d + 40) (mt 106) 12 [some (.ref 47), some (.int u1)] [] (147, f, I, RP f sw) Q := vc_wp o [(106, 12, [0, 1])] [] 600 rfl hq

-- WreckCourt$Bench.judge(I)V, entry 0
set_option maxRecDepth 100000 in
set_option maxHeartbeats 4000000 in
theorem v_judge (o : OKs) {G : GX} {d f : Nat} {sw : Bool} {I : Nat → Nat → Int32} {s : Int32} {Q : Option Value → Hp → Prop}
    (hq : if s = (I 47 5) then Q none (147, f, I, RP f sw) else wp G (d + 119) (mt 5) 0 (en (mt 5) [.ref 54, .int 0]) [] (147, f, upI (upI I 47 5 s) 47 2 0, RP f sw) (fun v h1 => ∃ I1 : Nat → Nat → Int32, v = none ∧ h1 = (147, f, I1, RP f sw) ∧ (wp G (d + 119) (mt 100) 0 (en (mt 100) [.ref 47]) [] (147, f, I1, RP f sw) (fun v h1 => ∃ I2 : Nat → Nat → Int32, v = none ∧ h1 = (147, f, I2, RP f sw) ∧ (wp G (d + 120) (mt 99) 23 [some (.ref 47), some (.int s), some (.int (-(I2 51 0))), none, none] [] (147, f, I2, RP f sw) Q))))) :
    wp G (d + 120) (mt 99) 0 (en (mt 99) [.ref 47, .int s]) [] (147, f, I, RP f sw) Q := vc_wp o [(99, 23, [0, 1, 2]), (99, 35, [0, 1, 2, 3]), (99, 47, [0, 1, 2, 3, 4])] [] 600 rfl hq

-- WreckCourt$Bench.judge(I)V, entry 23
set_option maxRecDepth 100000 in
set_option maxHeartbeats 4000000 in
theorem v_judge23 (o : OKs) {G : GX} {d f : Nat} {sw : Bool} {I : Nat → Nat → Int32} {u1 : Int32} {u2 : Int32} {Q : Option Value → Hp → Prop}
    (hq : if (I 51 0) < u2 then wp G (d + 119) (mt 106) 0 (en (mt 106) [.ref 47]) [] (147, f, I, RP f sw) (fun v h1 => ∃ I1 : Nat → Nat → Int32, v = none ∧ h1 = (147, f, I1, RP f sw) ∧ (Q none (147, f, I1, RP f sw))) else wp G (d + 120) (mt 99) 35 [some (.ref 47), some (.int u1), some (.int u2), some (.int (-(I 51 1))), none] [] (147, f, I, RP f sw) Q) :
    wp G (d + 120) (mt 99) 23 [some (.ref 47), some (.int u1), some (.int u2), none, none] [] (147, f, I, RP f sw) Q := vc_wp o [(99, 23, [0, 1, 2]), (99, 35, [0, 1, 2, 3]), (99, 47, [0, 1, 2, 3, 4])] [] 600 rfl hq

-- WreckCourt$Bench.judge(I)V, entry 35
set_option maxRecDepth 100000 in
set_option maxHeartbeats 4000000 in
theorem v_judge35 (o : OKs) {G : GX} {d f : Nat} {sw : Bool} {I : Nat → Nat → Int32} {u1 : Int32} {u2 : Int32} {u3 : Int32} {Q : Option Value → Hp → Prop}
    (hq : if (I 51 1) < u3 then wp G (d + 120) (mt 99) 23 [some (.ref 47), some (.int u1), some (.int (u2 + Int32.ofInt 1)), none, none] [] (147, f, I, RP f sw) Q else wp G (d + 120) (mt 99) 47 [some (.ref 47), some (.int u1), some (.int u2), some (.int u3), some (.int (-(I 51 2)))] [] (147, f, I, RP f sw) Q) :
    wp G (d + 120) (mt 99) 35 [some (.ref 47), some (.int u1), some (.int u2), some (.int u3), none] [] (147, f, I, RP f sw) Q := vc_wp o [(99, 23, [0, 1, 2]), (99, 35, [0, 1, 2, 3]), (99, 47, [0, 1, 2, 3, 4])] [] 600 rfl hq

-- WreckCourt$Bench.judge(I)V, entry 47
set_option maxRecDepth 100000 in
set_option maxHeartbeats 4000000 in
theorem v_judge47 (o : OKs) {G : GX} {d f : Nat} {sw : Bool} {I : Nat → Nat → Int32} {u1 : Int32} {u2 : Int32} {u3 : Int32} {u4 : Int32} {Q : Option Value → Hp → Prop}
    (hq : if (I 51 2) < u4 then wp G (d + 120) (mt 99) 35 [some (.ref 47), some (.int u1), some (.int u2), some (.int (u3 + Int32.ofInt 1)), none] [] (147, f, I, RP f sw) Q else wp G (d + 119) (mt 102) 0 (en (mt 102) [.ref 47]) [] (147, f, upI (upI (upI I 50 0 u2) 50 1 u3) 50 2 u4, RP f sw) (fun v h1 => ∃ I1 : Nat → Nat → Int32, v = none ∧ h1 = (147, f, I1, RP f sw) ∧ (wp G (d + 119) (mt 103) 0 (en (mt 103) [.ref 47, .int u1, .int 0, .int 0]) [] (147, f, I1, RP f sw) (fun v h1 => ∃ I2 : Nat → Nat → Int32, v = none ∧ h1 = (147, f, I2, RP f sw) ∧ (wp G (d + 120) (mt 99) 47 [some (.ref 47), some (.int u1), some (.int u2), some (.int u3), some (.int (u4 + Int32.ofInt 1))] [] (147, f, I2, RP f sw) Q))))) :
    wp G (d + 120) (mt 99) 47 [some (.ref 47), some (.int u1), some (.int u2), some (.int u3), some (.int u4)] [] (147, f, I, RP f sw) Q := vc_wp o [(99, 23, [0, 1, 2]), (99, 35, [0, 1, 2, 3]), (99, 47, [0, 1, 2, 3, 4])] [92] 600 rfl hq

-- WreckCourt$Bench.howMany(I)I, entry 0
set_option maxRecDepth 100000 in
set_option maxHeartbeats 4000000 in
theorem v_howMany (o : OKs) {G : GX} {d f : Nat} {sw : Bool} {I : Nat → Nat → Int32} {s : Int32} {Q : Option Value → Hp → Prop}
    (hq : wp G (d + 20) (mt 108) 4 [some (.ref 47), some (.int s), some (.int 0), some (.int 0)] [] (147, f, I, RP f sw) Q) :
    wp G (d + 20) (mt 108) 0 (en (mt 108) [.ref 47, .int s]) [] (147, f, I, RP f sw) Q := vc_wp o [(108, 4, [0, 1, 2, 3])] [] 600 rfl hq

-- WreckCourt$Bench.howMany(I)I, entry 4
set_option maxRecDepth 100000 in
set_option maxHeartbeats 4000000 in
theorem v_howMany4 (o : OKs) {G : GX} {d f : Nat} {sw : Bool} {I : Nat → Nat → Int32} {u1 : Int32} {u2 : Int32} {u3 : Int32} {Q : Option Value → Hp → Prop}
    (hq : if (I 47 1) ≤ u3 then Q (some (.int u2)) (147, f, I, RP f sw) else ck (ixB u3 12) (if (I 49 u3.toNatClampNeg) = (I 47 3) then if 2 = u1 then wp G (d + 20) (mt 108) 4 [some (.ref 47), some (.int u1), some (.int (u2 + Int32.ofInt 1)), some (.int (u3 + Int32.ofInt 1))] [] (147, f, I, RP f sw) Q else wp G (d + 20) (mt 108) 4 [some (.ref 47), some (.int u1), some (.int u2), some (.int (u3 + Int32.ofInt 1))] [] (147, f, I, RP f sw) Q else ck (ixB u3 12) (if (I 49 u3.toNatClampNeg) ≤ 0 then if 0 = u1 then wp G (d + 20) (mt 108) 4 [some (.ref 47), some (.int u1), some (.int (u2 + Int32.ofInt 1)), some (.int (u3 + Int32.ofInt 1))] [] (147, f, I, RP f sw) Q else wp G (d + 20) (mt 108) 4 [some (.ref 47), some (.int u1), some (.int u2), some (.int (u3 + Int32.ofInt 1))] [] (147, f, I, RP f sw) Q else if 1 = u1 then wp G (d + 20) (mt 108) 4 [some (.ref 47), some (.int u1), some (.int (u2 + Int32.ofInt 1)), some (.int (u3 + Int32.ofInt 1))] [] (147, f, I, RP f sw) Q else wp G (d + 20) (mt 108) 4 [some (.ref 47), some (.int u1), some (.int u2), some (.int (u3 + Int32.ofInt 1))] [] (147, f, I, RP f sw) Q))) :
    wp G (d + 20) (mt 108) 4 [some (.ref 47), some (.int u1), some (.int u2), some (.int u3)] [] (147, f, I, RP f sw) Q := vc_wp o [(108, 4, [0, 1, 2, 3])] [109] 600 rfl hq

-- WreckCourt$Bench.look()I, entry 0
set_option maxRecDepth 100000 in
set_option maxHeartbeats 4000000 in
theorem v_clook (o : OKs) {G : GX} {d f : Nat} {sw : Bool} {I : Nat → Nat → Int32}  {Q : Option Value → Hp → Prop}
    (hq : wp G (d + 20) (mt 110) 4 [some (.ref 47), some (.int (-1000000)), some (.int 0)] [] (147, f, I, RP f sw) Q) :
    wp G (d + 20) (mt 110) 0 (en (mt 110) [.ref 47]) [] (147, f, I, RP f sw) Q := vc_wp o [(110, 4, [0, 1, 2])] [] 600 rfl hq

-- WreckCourt$Bench.look()I, entry 4
set_option maxRecDepth 100000 in
set_option maxHeartbeats 4000000 in
theorem v_clook4 (o : OKs) {G : GX} {d f : Nat} {sw : Bool} {I : Nat → Nat → Int32} {u1 : Int32} {u2 : Int32} {Q : Option Value → Hp → Prop}
    (hq : if (I 47 1) ≤ u2 then Q (some (.int u1)) (147, f, I, RP f sw) else ck (ixB u2 12) (if (I 49 u2.toNatClampNeg) = (I 47 3) then wp G (d + 20) (mt 110) 4 [some (.ref 47), some (.int u1), some (.int (u2 + Int32.ofInt 1))] [] (147, f, I, RP f sw) Q else ck (ixB u2 12) (if (I 49 u2.toNatClampNeg) ≤ 0 then wp G (d + 20) (mt 110) 4 [some (.ref 47), some (.int u1), some (.int (u2 + Int32.ofInt 1))] [] (147, f, I, RP f sw) Q else if u1 = (-1000000) then wp G (d + 20) (mt 110) 4 [some (.ref 47), some (.int u2), some (.int (u2 + Int32.ofInt 1))] [] (147, f, I, RP f sw) Q else ck (ixB u2 12) (ck (ixB u2 12) (ck (ixB u1 12) (ck (ixB u1 12) (if (if (I 49 u1.toNatClampNeg) < ((I 47 3) - (I 49 u1.toNatClampNeg)) then ((I 47 3) - (I 49 u1.toNatClampNeg)) else (I 49 u1.toNatClampNeg)) ≤ (if (I 49 u2.toNatClampNeg) < ((I 47 3) - (I 49 u2.toNatClampNeg)) then ((I 47 3) - (I 49 u2.toNatClampNeg)) else (I 49 u2.toNatClampNeg)) then wp G (d + 20) (mt 110) 4 [some (.ref 47), some (.int u1), some (.int (u2 + Int32.ofInt 1))] [] (147, f, I, RP f sw) Q else wp G (d + 20) (mt 110) 4 [some (.ref 47), some (.int u2), some (.int (u2 + Int32.ofInt 1))] [] (147, f, I, RP f sw) Q))))))) :
    wp G (d + 20) (mt 110) 4 [some (.ref 47), some (.int u1), some (.int u2)] [] (147, f, I, RP f sw) Q := vc_wp o [(110, 4, [0, 1, 2])] [109, 111] 600 rfl hq

-- WreckCourt.court(II)I, entry 0
set_option maxRecDepth 100000 in
set_option maxHeartbeats 4000000 in
theorem v_Ccourt (o : OKs) {G : GX} {d f : Nat} {sw : Bool} {I : Nat → Nat → Int32} {y : Int32} {w : Int32} {Q : Option Value → Hp → Prop}
    (hq : if y < 0 then Q (some (.int (-1000001))) (147, f, I, RP f sw) else if 99 < y then Q (some (.int (-1000001))) (147, f, I, RP f sw) else if w < 0 then Q (some (.int (-1000001))) (147, f, I, RP f sw) else if 7 < w then Q (some (.int (-1000001))) (147, f, I, RP f sw) else wp G (d + 159) (mt 97) 0 (en (mt 97) [.ref 47, .int y]) [] (147, f, I, RP f sw) (fun v h1 => ∃ (x2 : Int32) (I1 : Nat → Nat → Int32), v = some (.int x2) ∧ h1 = (147, f, I1, RP f sw) ∧ (wp G (d + 159) (mt 99) 0 (en (mt 99) [.ref 47, .int x2]) [] (147, f, I1, RP f sw) (fun v h1 => ∃ I3 : Nat → Nat → Int32, v = none ∧ h1 = (147, f, I3, RP f sw) ∧ (if w = 0 then Q (some (.int (I3 47 2))) (147, f, I3, RP f sw) else if w = 0 + 1 then Q (some (.int (I3 47 3))) (147, f, I3, RP f sw) else if w = 0 + 1 + 1 then wp G (d + 159) (mt 104) 0 (en (mt 104) [.int x2]) [] (147, f, I3, RP f sw) (fun v h1 => ∃ (x5 : Int32) (I4 : Nat → Nat → Int32), v = some (.int x5) ∧ h1 = (147, f, I4, RP f sw) ∧ (Q (some (.int x5)) (147, f, I4, RP f sw))) else if w = 0 + 1 + 1 + 1 then Q (some (.int (I3 47 4))) (147, f, I3, RP f sw) else if w = 0 + 1 + 1 + 1 + 1 then wp G (d + 159) (mt 108) 0 (en (mt 108) [.ref 47, .int 2]) [] (147, f, I3, RP f sw) (fun v h1 => ∃ (x7 : Int32) (I6 : Nat → Nat → Int32), v = some (.int x7) ∧ h1 = (147, f, I6, RP f sw) ∧ (Q (some (.int x7)) (147, f, I6, RP f sw))) else if w = 0 + 1 + 1 + 1 + 1 + 1 then wp G (d + 159) (mt 108) 0 (en (mt 108) [.ref 47, .int 1]) [] (147, f, I3, RP f sw) (fun v h1 => ∃ (x9 : Int32) (I8 : Nat → Nat → Int32), v = some (.int x9) ∧ h1 = (147, f, I8, RP f sw) ∧ (Q (some (.int x9)) (147, f, I8, RP f sw))) else if w = 0 + 1 + 1 + 1 + 1 + 1 + 1 then wp G (d + 159) (mt 110) 0 (en (mt 110) [.ref 47]) [] (147, f, I3, RP f sw) (fun v h1 => ∃ (x11 : Int32) (I10 : Nat → Nat → Int32), v = some (.int x11) ∧ h1 = (147, f, I10, RP f sw) ∧ (Q (some (.int x11)) (147, f, I10, RP f sw))) else wp G (d + 159) (mt 110) 0 (en (mt 110) [.ref 47]) [] (147, f, I3, RP f sw) (fun v h1 => ∃ (x13 : Int32) (I12 : Nat → Nat → Int32), v = some (.int x13) ∧ h1 = (147, f, I12, RP f sw) ∧ (if x13 = (-1000000) then Q (some (.int (-1000000))) (147, f, I12, RP f sw) else wp G (d + 159) (mt 110) 0 (en (mt 110) [.ref 47]) [] (147, f, I12, RP f sw) (fun v h1 => ∃ (x15 : Int32) (I14 : Nat → Nat → Int32), v = some (.int x15) ∧ h1 = (147, f, I14, RP f sw) ∧ (ck (ixB x15 12) (ck (ixB x15 12) (Q (some (.int (if (I14 49 x15.toNatClampNeg) < ((I14 47 3) - (I14 49 x15.toNatClampNeg)) then ((I14 47 3) - (I14 49 x15.toNatClampNeg)) else (I14 49 x15.toNatClampNeg)))) (147, f, I14, RP f sw)))))))))))) :
    wp G (d + 160) (mt 96) 0 (en (mt 96) [.ref 0, .int y, .int w]) [] (147, f, I, RP f sw) Q := vc_wp o [] [13, 80, 111] 600 rfl hq

-- WreckCourt.sure(II)I, entry 0
set_option maxRecDepth 100000 in
set_option maxHeartbeats 4000000 in
theorem v_Csure (o : OKs) {G : GX} {d f : Nat} {sw : Bool} {I : Nat → Nat → Int32} {a : Int32} {y : Int32} {Q : Option Value → Hp → Prop}
    (hq : if a < 0 then Q (some (.int (-1000001))) (147, f, I, RP f sw) else if ((I 47 1) - 1) < a then Q (some (.int (-1000001))) (147, f, I, RP f sw) else if y < 0 then Q (some (.int (-1000001))) (147, f, I, RP f sw) else if 99 < y then Q (some (.int (-1000001))) (147, f, I, RP f sw) else ck (ixB a 12) (oV ((RP f sw) 48 a.toNatClampNeg) (fun q1 => ck (okB (147, f, I, RP f sw) q1 3) (ck (okB (147, f, I, RP f sw) q1 3) (if y < (I q1 2) then Q (some (.int (-1000000))) (147, f, I, RP f sw) else ck (okB (147, f, I, RP f sw) q1 3) (ck (okB (147, f, I, RP f sw) q1 3) (if (I q1 8) = (-1000000) then wp G (d + 159) (mt 97) 0 (en (mt 97) [.ref 47, .int y]) [] (147, f, I, RP f sw) (fun v h1 => ∃ (x3 : Int32) (I2 : Nat → Nat → Int32), v = some (.int x3) ∧ h1 = (147, f, I2, RP f sw) ∧ (wp G (d + 159) (mt 99) 0 (en (mt 99) [.ref 47, .int x3]) [] (147, f, I2, RP f sw) (fun v h1 => ∃ I4 : Nat → Nat → Int32, v = none ∧ h1 = (147, f, I4, RP f sw) ∧ (ck (ixB a 12) (if (I4 49 a.toNatClampNeg) = (I4 47 3) then Q (some (.int 2)) (147, f, I4, RP f sw) else ck (ixB a 12) (if (I4 49 a.toNatClampNeg) ≤ 0 then Q (some (.int 0)) (147, f, I4, RP f sw) else Q (some (.int 1)) (147, f, I4, RP f sw))))))) else ck (okB (147, f, I, RP f sw) q1 3) (if (I q1 8) ≤ y then Q (some (.int (-1000000))) (147, f, I, RP f sw) else wp G (d + 159) (mt 97) 0 (en (mt 97) [.ref 47, .int y]) [] (147, f, I, RP f sw) (fun v h1 => ∃ (x6 : Int32) (I5 : Nat → Nat → Int32), v = some (.int x6) ∧ h1 = (147, f, I5, RP f sw) ∧ (wp G (d + 159) (mt 99) 0 (en (mt 99) [.ref 47, .int x6]) [] (147, f, I5, RP f sw) (fun v h1 => ∃ I7 : Nat → Nat → Int32, v = none ∧ h1 = (147, f, I7, RP f sw) ∧ (ck (ixB a 12) (if (I7 49 a.toNatClampNeg) = (I7 47 3) then Q (some (.int 2)) (147, f, I7, RP f sw) else ck (ixB a 12) (if (I7 49 a.toNatClampNeg) ≤ 0 then Q (some (.int 0)) (147, f, I7, RP f sw) else Q (some (.int 1)) (147, f, I7, RP f sw))))))))))))))) :
    wp G (d + 160) (mt 113) 0 (en (mt 113) [.ref 0, .int a, .int y]) [] (147, f, I, RP f sw) Q := vc_wp o [] [13, 80, 87, 89, 98, 109] 600 rfl hq

-- WreckCourtModel.bits(I)I, entry 0
set_option maxRecDepth 100000 in
set_option maxHeartbeats 4000000 in
theorem v_Mbits (o : OKs) {G : GX} {d f : Nat} {sw : Bool} {I : Nat → Nat → Int32} {s : Int32} {Q : Option Value → Hp → Prop}
    (hq : wp G (d + 10) (mt 230) 4 [some (.int s), some (.int 0), some (.int 0)] [] (147, f, I, RP f sw) Q) :
    wp G (d + 10) (mt 230) 0 (en (mt 230) [.int s]) [] (147, f, I, RP f sw) Q := vc_wp o [(230, 4, [0, 1, 2])] [] 600 rfl hq

-- WreckCourtModel.bits(I)I, entry 4
set_option maxRecDepth 100000 in
set_option maxHeartbeats 4000000 in
theorem v_Mbits4 (o : OKs) {G : GX} {d f : Nat} {sw : Bool} {I : Nat → Nat → Int32} {u0 : Int32} {u1 : Int32} {u2 : Int32} {Q : Option Value → Hp → Prop}
    (hq : if 12 ≤ u2 then Q (some (.int u1)) (147, f, I, RP f sw) else wp G (d + 10) (mt 230) 4 [some (.int u0), some (.int (u1 + ((u0 >>> (u2 &&& 31)) &&& 1))), some (.int (u2 + Int32.ofInt 1))] [] (147, f, I, RP f sw) Q) :
    wp G (d + 10) (mt 230) 4 [some (.int u0), some (.int u1), some (.int u2)] [] (147, f, I, RP f sw) Q := vc_wp o [(230, 4, [0, 1, 2])] [] 600 rfl hq

-- WreckCourtModel.court(II)I, entry 0
set_option maxRecDepth 100000 in
set_option maxHeartbeats 4000000 in
theorem v_Mcourt (o : OKs) {G : GX} {d f : Nat} {sw : Bool} {I : Nat → Nat → Int32} {y : Int32} {w : Int32} {Q : Option Value → Hp → Prop}
    (hq : if lg_cmp y.toInt64 0 < 0 then Q (some (.int (-1000001))) (147, f, upI I 93 0 0, RP f sw) else if 0 < lg_cmp y.toInt64 99 then Q (some (.int (-1000001))) (147, f, upI I 93 0 0, RP f sw) else if lg_cmp w.toInt64 0 < 0 then Q (some (.int (-1000001))) (147, f, upI I 93 0 0, RP f sw) else if 0 < lg_cmp w.toInt64 7 then Q (some (.int (-1000001))) (147, f, upI I 93 0 0, RP f sw) else wp G (d + 119) (mt 228) 0 (en (mt 228) [.ref 93, .int y]) [] (147, f, upI I 93 0 0, RP f sw) (fun v h1 => ∃ I1 : Nat → Nat → Int32, v = none ∧ h1 = (147, f, I1, RP f sw) ∧ (wp G (d + 120) (mt 227) 27 [some (.ref 93), none, some (.int w), some (.int 0), some (.int 0), some (.int (-1000000)), some (.int (-1000000)), some (.int 0), none] [] (147, f, I1, RP f sw) Q))) :
    wp G (d + 120) (mt 227) 0 (en (mt 227) [.ref 93, .int y, .int w]) [] (147, f, I, RP f sw) Q := vc_wp o [(227, 27, [0, 2, 3, 4, 5, 6, 7]), (227, 52, [0, 2, 3, 4, 5, 6, 7]), (227, 56, [0, 2, 3, 4, 5, 6, 7]), (227, 82, [0, 2, 3, 4, 5, 6, 7, 8]), (227, 92, [0, 2, 3, 4, 5, 6, 7, 8]), (227, 102, [0, 2, 3, 4, 5, 6, 7]), (227, 104, [0, 2, 3, 4, 5, 6])] [184, 218] 600 rfl hq

-- WreckCourtModel.court(II)I, entry 27
set_option maxRecDepth 100000 in
set_option maxHeartbeats 4000000 in
theorem v_Mcourt27 (o : OKs) {G : GX} {d f : Nat} {sw : Bool} {I : Nat → Nat → Int32} {u2 : Int32} {u3 : Int32} {u4 : Int32} {u5 : Int32} {u6 : Int32} {u7 : Int32} {Q : Option Value → Hp → Prop}
    (hq : if (I 93 35) ≤ u7 then wp G (d + 120) (mt 227) 104 [some (.ref 93), none, some (.int u2), some (.int u3), some (.int u4), some (.int u5), some (.int u6), none, none] [] (147, f, I, RP f sw) Q else if (((I 93 49) >>> (u7 &&& 31)) &&& 1) = 1 then ck (ixB u7 12) (if (I 133 u7.toNatClampNeg) = (I 93 51) then wp G (d + 120) (mt 227) 52 [some (.ref 93), none, some (.int u2), some (.int (u3 + 1)), some (.int u4), some (.int u5), some (.int u6), some (.int u7), none] [] (147, f, I, RP f sw) Q else wp G (d + 120) (mt 227) 52 [some (.ref 93), none, some (.int u2), some (.int (u3 + 0)), some (.int u4), some (.int u5), some (.int u6), some (.int u7), none] [] (147, f, I, RP f sw) Q) else wp G (d + 120) (mt 227) 52 [some (.ref 93), none, some (.int u2), some (.int (u3 + 0)), some (.int u4), some (.int u5), some (.int u6), some (.int u7), none] [] (147, f, I, RP f sw) Q) :
    wp G (d + 120) (mt 227) 27 [some (.ref 93), none, some (.int u2), some (.int u3), some (.int u4), some (.int u5), some (.int u6), some (.int u7), none] [] (147, f, I, RP f sw) Q := vc_wp o [(227, 27, [0, 2, 3, 4, 5, 6, 7]), (227, 52, [0, 2, 3, 4, 5, 6, 7]), (227, 56, [0, 2, 3, 4, 5, 6, 7]), (227, 82, [0, 2, 3, 4, 5, 6, 7, 8]), (227, 92, [0, 2, 3, 4, 5, 6, 7, 8]), (227, 102, [0, 2, 3, 4, 5, 6, 7]), (227, 104, [0, 2, 3, 4, 5, 6])] [] 600 rfl hq

-- WreckCourtModel.court(II)I, entry 52
set_option maxRecDepth 100000 in
set_option maxHeartbeats 4000000 in
theorem v_Mcourt52 (o : OKs) {G : GX} {d f : Nat} {sw : Bool} {I : Nat → Nat → Int32} {u2 : Int32} {u3 : Int32} {u4 : Int32} {u5 : Int32} {u6 : Int32} {u7 : Int32} {Q : Option Value → Hp → Prop}
    (hq : if (((I 93 49) >>> (u7 &&& 31)) &&& 1) = 1 then ck (ixB u7 12) (if (I 133 u7.toNatClampNeg) ≤ 0 then wp G (d + 120) (mt 227) 102 [some (.ref 93), none, some (.int u2), some (.int u3), some (.int u4), some (.int u5), some (.int u6), some (.int u7), none] [] (147, f, I, RP f sw) Q else ck (ixB u7 12) (if (I 93 51) ≤ (I 133 u7.toNatClampNeg) then wp G (d + 120) (mt 227) 102 [some (.ref 93), none, some (.int u2), some (.int u3), some (.int u4), some (.int u5), some (.int u6), some (.int u7), none] [] (147, f, I, RP f sw) Q else wp G (d + 120) (mt 227) 56 [some (.ref 93), none, some (.int u2), some (.int u3), some (.int u4), some (.int u5), some (.int u6), some (.int u7), none] [] (147, f, I, RP f sw) Q)) else wp G (d + 120) (mt 227) 102 [some (.ref 93), none, some (.int u2), some (.int u3), some (.int u4), some (.int u5), some (.int u6), some (.int u7), none] [] (147, f, I, RP f sw) Q) :
    wp G (d + 120) (mt 227) 52 [some (.ref 93), none, some (.int u2), some (.int u3), some (.int u4), some (.int u5), some (.int u6), some (.int u7), none] [] (147, f, I, RP f sw) Q := vc_wp o [(227, 27, [0, 2, 3, 4, 5, 6, 7]), (227, 52, [0, 2, 3, 4, 5, 6, 7]), (227, 56, [0, 2, 3, 4, 5, 6, 7]), (227, 82, [0, 2, 3, 4, 5, 6, 7, 8]), (227, 92, [0, 2, 3, 4, 5, 6, 7, 8]), (227, 102, [0, 2, 3, 4, 5, 6, 7]), (227, 104, [0, 2, 3, 4, 5, 6])] [231] 600 rfl hq

-- WreckCourtModel.court(II)I, entry 56
set_option maxRecDepth 100000 in
set_option maxHeartbeats 4000000 in
theorem v_Mcourt56 (o : OKs) {G : GX} {d f : Nat} {sw : Bool} {I : Nat → Nat → Int32} {u2 : Int32} {u3 : Int32} {u4 : Int32} {u5 : Int32} {u6 : Int32} {u7 : Int32} {Q : Option Value → Hp → Prop}
    (hq : ck (ixB u7 12) (ck (ixB u7 12) (if (I 133 u7.toNatClampNeg) ≤ ((I 93 51) - (I 133 u7.toNatClampNeg)) then ck (ixB u7 12) (wp G (d + 120) (mt 227) 82 [some (.ref 93), none, some (.int u2), some (.int u3), some (.int (u4 + Int32.ofInt 1)), some (.int u5), some (.int u6), some (.int u7), some (.int ((I 93 51) - (I 133 u7.toNatClampNeg)))] [] (147, f, I, RP f sw) Q) else ck (ixB u7 12) (wp G (d + 120) (mt 227) 82 [some (.ref 93), none, some (.int u2), some (.int u3), some (.int (u4 + Int32.ofInt 1)), some (.int u5), some (.int u6), some (.int u7), some (.int (I 133 u7.toNatClampNeg))] [] (147, f, I, RP f sw) Q)))) :
    wp G (d + 120) (mt 227) 56 [some (.ref 93), none, some (.int u2), some (.int u3), some (.int u4), some (.int u5), some (.int u6), some (.int u7), none] [] (147, f, I, RP f sw) Q := vc_wp o [(227, 27, [0, 2, 3, 4, 5, 6, 7]), (227, 52, [0, 2, 3, 4, 5, 6, 7]), (227, 56, [0, 2, 3, 4, 5, 6, 7]), (227, 82, [0, 2, 3, 4, 5, 6, 7, 8]), (227, 92, [0, 2, 3, 4, 5, 6, 7, 8]), (227, 102, [0, 2, 3, 4, 5, 6, 7]), (227, 104, [0, 2, 3, 4, 5, 6])] [] 600 rfl hq

-- WreckCourtModel.court(II)I, entry 82
set_option maxRecDepth 100000 in
set_option maxHeartbeats 4000000 in
theorem v_Mcourt82 (o : OKs) {G : GX} {d f : Nat} {sw : Bool} {I : Nat → Nat → Int32} {u2 : Int32} {u3 : Int32} {u4 : Int32} {u5 : Int32} {u6 : Int32} {u7 : Int32} {u8 : Int32} {Q : Option Value → Hp → Prop}
    (hq : if u6 = (-1000000) then wp G (d + 120) (mt 227) 92 [some (.ref 93), none, some (.int u2), some (.int u3), some (.int u4), some (.int u7), some (.int u6), some (.int u7), some (.int u8)] [] (147, f, I, RP f sw) Q else if u6 ≤ u8 then wp G (d + 120) (mt 227) 92 [some (.ref 93), none, some (.int u2), some (.int u3), some (.int u4), some (.int u5), some (.int u6), some (.int u7), some (.int u8)] [] (147, f, I, RP f sw) Q else wp G (d + 120) (mt 227) 92 [some (.ref 93), none, some (.int u2), some (.int u3), some (.int u4), some (.int u7), some (.int u6), some (.int u7), some (.int u8)] [] (147, f, I, RP f sw) Q) :
    wp G (d + 120) (mt 227) 82 [some (.ref 93), none, some (.int u2), some (.int u3), some (.int u4), some (.int u5), some (.int u6), some (.int u7), some (.int u8)] [] (147, f, I, RP f sw) Q := vc_wp o [(227, 27, [0, 2, 3, 4, 5, 6, 7]), (227, 52, [0, 2, 3, 4, 5, 6, 7]), (227, 56, [0, 2, 3, 4, 5, 6, 7]), (227, 82, [0, 2, 3, 4, 5, 6, 7, 8]), (227, 92, [0, 2, 3, 4, 5, 6, 7, 8]), (227, 102, [0, 2, 3, 4, 5, 6, 7]), (227, 104, [0, 2, 3, 4, 5, 6])] [] 600 rfl hq

-- WreckCourtModel.court(II)I, entry 92
set_option maxRecDepth 100000 in
set_option maxHeartbeats 4000000 in
theorem v_Mcourt92 (o : OKs) {G : GX} {d f : Nat} {sw : Bool} {I : Nat → Nat → Int32} {u2 : Int32} {u3 : Int32} {u4 : Int32} {u5 : Int32} {u6 : Int32} {u7 : Int32} {u8 : Int32} {Q : Option Value → Hp → Prop}
    (hq : if u6 = (-1000000) then wp G (d + 120) (mt 227) 102 [some (.ref 93), none, some (.int u2), some (.int u3), some (.int u4), some (.int u5), some (.int u8), some (.int u7), none] [] (147, f, I, RP f sw) Q else if u6 ≤ u8 then wp G (d + 120) (mt 227) 102 [some (.ref 93), none, some (.int u2), some (.int u3), some (.int u4), some (.int u5), some (.int u6), some (.int u7), none] [] (147, f, I, RP f sw) Q else wp G (d + 120) (mt 227) 102 [some (.ref 93), none, some (.int u2), some (.int u3), some (.int u4), some (.int u5), some (.int u8), some (.int u7), none] [] (147, f, I, RP f sw) Q) :
    wp G (d + 120) (mt 227) 92 [some (.ref 93), none, some (.int u2), some (.int u3), some (.int u4), some (.int u5), some (.int u6), some (.int u7), some (.int u8)] [] (147, f, I, RP f sw) Q := vc_wp o [(227, 27, [0, 2, 3, 4, 5, 6, 7]), (227, 52, [0, 2, 3, 4, 5, 6, 7]), (227, 56, [0, 2, 3, 4, 5, 6, 7]), (227, 82, [0, 2, 3, 4, 5, 6, 7, 8]), (227, 92, [0, 2, 3, 4, 5, 6, 7, 8]), (227, 102, [0, 2, 3, 4, 5, 6, 7]), (227, 104, [0, 2, 3, 4, 5, 6])] [] 600 rfl hq

-- WreckCourtModel.court(II)I, entry 102
set_option maxRecDepth 100000 in
set_option maxHeartbeats 4000000 in
theorem v_Mcourt102 (o : OKs) {G : GX} {d f : Nat} {sw : Bool} {I : Nat → Nat → Int32} {u2 : Int32} {u3 : Int32} {u4 : Int32} {u5 : Int32} {u6 : Int32} {u7 : Int32} {Q : Option Value → Hp → Prop}
    (hq : wp G (d + 120) (mt 227) 27 [some (.ref 93), none, some (.int u2), some (.int u3), some (.int u4), some (.int u5), some (.int u6), some (.int (u7 + Int32.ofInt 1)), none] [] (147, f, I, RP f sw) Q) :
    wp G (d + 120) (mt 227) 102 [some (.ref 93), none, some (.int u2), some (.int u3), some (.int u4), some (.int u5), some (.int u6), some (.int u7), none] [] (147, f, I, RP f sw) Q := vc_wp o [(227, 27, [0, 2, 3, 4, 5, 6, 7]), (227, 52, [0, 2, 3, 4, 5, 6, 7]), (227, 56, [0, 2, 3, 4, 5, 6, 7]), (227, 82, [0, 2, 3, 4, 5, 6, 7, 8]), (227, 92, [0, 2, 3, 4, 5, 6, 7, 8]), (227, 102, [0, 2, 3, 4, 5, 6, 7]), (227, 104, [0, 2, 3, 4, 5, 6])] [] 600 rfl hq

-- WreckCourtModel.court(II)I, entry 104
set_option maxRecDepth 100000 in
set_option maxHeartbeats 4000000 in
theorem v_Mcourt104 (o : OKs) {G : GX} {d f : Nat} {sw : Bool} {I : Nat → Nat → Int32} {u2 : Int32} {u3 : Int32} {u4 : Int32} {u5 : Int32} {u6 : Int32} {Q : Option Value → Hp → Prop}
    (hq : if u2 = 0 then Q (some (.int (I 93 50))) (147, f, I, RP f sw) else if u2 = 1 then Q (some (.int (I 93 51))) (147, f, I, RP f sw) else if u2 = 2 then wp G (d + 119) (mt 230) 0 (en (mt 230) [.int (I 93 49)]) [] (147, f, I, RP f sw) (fun v h1 => ∃ (x2 : Int32) (I1 : Nat → Nat → Int32), v = some (.int x2) ∧ h1 = (147, f, I1, RP f sw) ∧ (Q (some (.int x2)) (147, f, I1, RP f sw))) else if u2 = 3 then Q (some (.int (I 93 52))) (147, f, I, RP f sw) else if u2 = 4 then Q (some (.int u3)) (147, f, I, RP f sw) else if u2 = 5 then Q (some (.int u4)) (147, f, I, RP f sw) else if u2 = 6 then Q (some (.int u5)) (147, f, I, RP f sw) else Q (some (.int u6)) (147, f, I, RP f sw)) :
    wp G (d + 120) (mt 227) 104 [some (.ref 93), none, some (.int u2), some (.int u3), some (.int u4), some (.int u5), some (.int u6), none, none] [] (147, f, I, RP f sw) Q := vc_wp o [(227, 27, [0, 2, 3, 4, 5, 6, 7]), (227, 52, [0, 2, 3, 4, 5, 6, 7]), (227, 56, [0, 2, 3, 4, 5, 6, 7]), (227, 82, [0, 2, 3, 4, 5, 6, 7, 8]), (227, 92, [0, 2, 3, 4, 5, 6, 7, 8]), (227, 102, [0, 2, 3, 4, 5, 6, 7]), (227, 104, [0, 2, 3, 4, 5, 6])] [] 600 rfl hq

-- WreckCourtModel.sure(II)I, entry 0
set_option maxRecDepth 100000 in
set_option maxHeartbeats 4000000 in
theorem v_Msure (o : OKs) {G : GX} {d f : Nat} {sw : Bool} {I : Nat → Nat → Int32} {a : Int32} {y : Int32} {Q : Option Value → Hp → Prop}
    (hq : if lg_cmp a.toInt64 0 < 0 then Q (some (.int (-1000001))) (147, f, upI I 93 0 0, RP f sw) else if 0 < lg_cmp a.toInt64 (((I 93 35) - 1).toInt64) then Q (some (.int (-1000001))) (147, f, upI I 93 0 0, RP f sw) else if lg_cmp y.toInt64 0 < 0 then Q (some (.int (-1000001))) (147, f, upI I 93 0 0, RP f sw) else if 0 < lg_cmp y.toInt64 99 then Q (some (.int (-1000001))) (147, f, upI I 93 0 0, RP f sw) else wp G (d + 119) (mt 228) 0 (en (mt 228) [.ref 93, .int y]) [] (147, f, upI I 93 0 0, RP f sw) (fun v h1 => ∃ I1 : Nat → Nat → Int32, v = none ∧ h1 = (147, f, I1, RP f sw) ∧ (if (((I1 93 49) >>> (a &&& 31)) &&& 1) = 0 then Q (some (.int (-1000000))) (147, f, I1, RP f sw) else ck (ixB a 12) (if (I1 133 a.toNatClampNeg) = (I1 93 51) then Q (some (.int 2)) (147, f, I1, RP f sw) else ck (ixB a 12) (if (I1 133 a.toNatClampNeg) ≤ 0 then Q (some (.int 0)) (147, f, I1, RP f sw) else Q (some (.int 1)) (147, f, I1, RP f sw)))))) :
    wp G (d + 120) (mt 232) 0 (en (mt 232) [.ref 93, .int a, .int y]) [] (147, f, I, RP f sw) Q := vc_wp o [] [184, 218, 220] 600 rfl hq

-- WreckCourtModel.judge(I)V, entry 0
set_option maxRecDepth 100000 in
set_option maxHeartbeats 4000000 in
theorem v_Mjudge (o : OKs) {G : GX} {d f : Nat} {sw : Bool} {I : Nat → Nat → Int32} {y : Int32} {Q : Option Value → Hp → Prop}
    (hq : wp G (d + 100) (mt 228) 5 [some (.ref 93), some (.int y), some (.int 0), none, none, none, none, none, none] [] (147, f, upI I 93 49 0, RP f sw) Q) :
    wp G (d + 100) (mt 228) 0 (en (mt 228) [.ref 93, .int y]) [] (147, f, I, RP f sw) Q := vc_wp o [(228, 5, [0, 1, 2]), (228, 26, [0, 1, 2, 3]), (228, 47, [0, 2]), (228, 59, [0, 2]), (228, 84, [0, 2, 3, 4, 5, 6]), (228, 95, [0, 2, 3, 4, 5, 6, 7]), (228, 144, [0, 2, 6, 7]), (228, 222, [0, 2]), (228, 255, [0, 2]), (228, 267, [0, 2]), (228, 301, [0, 2, 3])] [] 600 rfl hq

-- WreckCourtModel.judge(I)V, entry 5
set_option maxRecDepth 100000 in
set_option maxHeartbeats 4000000 in
theorem v_Mjudge5 (o : OKs) {G : GX} {d f : Nat} {sw : Bool} {I : Nat → Nat → Int32} {u1 : Int32} {u2 : Int32} {Q : Option Value → Hp → Prop}
    (hq : if (I 93 35) ≤ u2 then wp G (d + 100) (mt 228) 47 [some (.ref 93), none, some (.int 0), none, none, none, none, none, none] [] (147, f, I, RP f sw) Q else ck (ixB u2 12) (if u1 < (I 127 u2.toNatClampNeg) then wp G (d + 100) (mt 228) 26 [some (.ref 93), some (.int u1), some (.int u2), some (.int 0), none, none, none, none, none] [] (147, f, upI I 93 49 ((I 93 49) ||| 0), RP f sw) Q else ck (ixB u2 12) (if (I 128 u2.toNatClampNeg) = (-1000000) then wp G (d + 100) (mt 228) 26 [some (.ref 93), some (.int u1), some (.int u2), some (.int 0), none, none, none, none, none] [] (147, f, upI I 93 49 ((I 93 49) ||| ((1 : Int32) <<< (u2 &&& 31))), RP f sw) Q else ck (ixB u2 12) (if (I 128 u2.toNatClampNeg) ≤ u1 then wp G (d + 100) (mt 228) 26 [some (.ref 93), some (.int u1), some (.int u2), some (.int 0), none, none, none, none, none] [] (147, f, upI I 93 49 ((I 93 49) ||| 0), RP f sw) Q else wp G (d + 100) (mt 228) 26 [some (.ref 93), some (.int u1), some (.int u2), some (.int 0), none, none, none, none, none] [] (147, f, upI I 93 49 ((I 93 49) ||| ((1 : Int32) <<< (u2 &&& 31))), RP f sw) Q)))) :
    wp G (d + 100) (mt 228) 5 [some (.ref 93), some (.int u1), some (.int u2), none, none, none, none, none, none] [] (147, f, I, RP f sw) Q := vc_wp o [(228, 5, [0, 1, 2]), (228, 26, [0, 1, 2, 3]), (228, 47, [0, 2]), (228, 59, [0, 2]), (228, 84, [0, 2, 3, 4, 5, 6]), (228, 95, [0, 2, 3, 4, 5, 6, 7]), (228, 144, [0, 2, 6, 7]), (228, 162, [0, 2, 6, 7]), (228, 189, [0, 2, 6, 7]), (228, 222, [0, 2]), (228, 255, [0, 2]), (228, 267, [0, 2]), (228, 301, [0, 2, 3])] [229] 600 rfl hq

-- WreckCourtModel.judge(I)V, entry 26
set_option maxRecDepth 100000 in
set_option maxHeartbeats 4000000 in
theorem v_Mjudge26 (o : OKs) {G : GX} {d f : Nat} {sw : Bool} {I : Nat → Nat → Int32} {u1 : Int32} {u2 : Int32} {u3 : Int32} {Q : Option Value → Hp → Prop}
    (hq : if u2 ≤ u3 then wp G (d + 100) (mt 228) 5 [some (.ref 93), some (.int u1), some (.int (u2 + Int32.ofInt 1)), none, none, none, none, none, none] [] (147, f, I, RP f sw) Q else ck (ixB u2 12) (ck (ixB u2 12) (ck (ixB u3 12) (ck (ixB u3 12) (wp G (d + 97) (mt 204) 0 (en (mt 204) [.long ((((I 123 u2.toNatClampNeg) - (I 123 u3.toNatClampNeg)).toInt64 * ((I 123 u2.toNatClampNeg) - (I 123 u3.toNatClampNeg)).toInt64) + (((I 124 u2.toNatClampNeg) - (I 124 u3.toNatClampNeg)).toInt64 * ((I 124 u2.toNatClampNeg) - (I 124 u3.toNatClampNeg)).toInt64))]) [] (147, f, I, RP f sw) (fun v h1 => ∃ (x2 : Int32) (I1 : Nat → Nat → Int32), v = some (.int x2) ∧ h1 = (147, f, I1, RP f sw) ∧ (ck (ixB ((12 * u2) + u3) 144) (wp G (d + 100) (mt 228) 26 [some (.ref 93), some (.int u1), some (.int u2), some (.int (u3 + Int32.ofInt 1)), none, none, none, none, none] [] (147, f, upI I1 131 (((12 * u2) + u3).toNatClampNeg) x2, RP f sw) Q)))))))) :
    wp G (d + 100) (mt 228) 26 [some (.ref 93), some (.int u1), some (.int u2), some (.int u3), none, none, none, none, none] [] (147, f, I, RP f sw) Q := vc_wp o [(228, 5, [0, 1, 2]), (228, 26, [0, 1, 2, 3]), (228, 47, [0, 2]), (228, 59, [0, 2]), (228, 84, [0, 2, 3, 4, 5, 6]), (228, 95, [0, 2, 3, 4, 5, 6, 7]), (228, 144, [0, 2, 6, 7]), (228, 162, [0, 2, 6, 7]), (228, 189, [0, 2, 6, 7]), (228, 222, [0, 2]), (228, 255, [0, 2]), (228, 267, [0, 2]), (228, 301, [0, 2, 3])] [203, 224] 600 rfl hq

-- WreckCourtModel.judge(I)V, entry 47
set_option maxRecDepth 100000 in
set_option maxHeartbeats 4000000 in
theorem v_Mjudge47 (o : OKs) {G : GX} {d f : Nat} {sw : Bool} {I : Nat → Nat → Int32} {u2 : Int32} {Q : Option Value → Hp → Prop}
    (hq : if 4096 ≤ u2 then wp G (d + 100) (mt 228) 59 [some (.ref 93), none, some (.int 0), none, none, none, none, none, none] [] (147, f, I, RP f sw) Q else ck (ixB u2 4096) (wp G (d + 100) (mt 228) 47 [some (.ref 93), none, some (.int (u2 + Int32.ofInt 1)), none, none, none, none, none, none] [] (147, f, upI I 129 u2.toNatClampNeg ((0 : Int32) &&& 1), RP f sw) Q)) :
    wp G (d + 100) (mt 228) 47 [some (.ref 93), none, some (.int u2), none, none, none, none, none, none] [] (147, f, I, RP f sw) Q := vc_wp o [(228, 5, [0, 1, 2]), (228, 26, [0, 1, 2, 3]), (228, 47, [0, 2]), (228, 59, [0, 2]), (228, 84, [0, 2, 3, 4, 5, 6]), (228, 95, [0, 2, 3, 4, 5, 6, 7]), (228, 144, [0, 2, 6, 7]), (228, 162, [0, 2, 6, 7]), (228, 189, [0, 2, 6, 7]), (228, 222, [0, 2]), (228, 255, [0, 2]), (228, 267, [0, 2]), (228, 301, [0, 2, 3])] [] 600 rfl hq

-- WreckCourtModel.judge(I)V, entry 59
set_option maxRecDepth 100000 in
set_option maxHeartbeats 4000000 in
theorem v_Mjudge59 (o : OKs) {G : GX} {d f : Nat} {sw : Bool} {I : Nat → Nat → Int32} {u2 : Int32} {Q : Option Value → Hp → Prop}
    (hq : if 343 ≤ u2 then wp G (d + 100) (mt 228) 222 [some (.ref 93), none, some (.int 0), none, none, none, none, none, none] [] (147, f, upI I 93 50 0, RP f sw) Q else wp G (d + 100) (mt 228) 84 [some (.ref 93), none, some (.int u2), some (.int ((u2 / 49) - 3)), some (.int (((u2 / 7) - (u2 / 7) / 7 * 7) - 3)), some (.int ((u2 - u2 / 7 * 7) - 3)), some (.int 0), none, none] [] (147, f, I, RP f sw) Q) :
    wp G (d + 100) (mt 228) 59 [some (.ref 93), none, some (.int u2), none, none, none, none, none, none] [] (147, f, I, RP f sw) Q := vc_wp o [(228, 5, [0, 1, 2]), (228, 26, [0, 1, 2, 3]), (228, 47, [0, 2]), (228, 59, [0, 2]), (228, 84, [0, 2, 3, 4, 5, 6]), (228, 95, [0, 2, 3, 4, 5, 6, 7]), (228, 144, [0, 2, 6, 7]), (228, 162, [0, 2, 6, 7]), (228, 189, [0, 2, 6, 7]), (228, 222, [0, 2]), (228, 255, [0, 2]), (228, 267, [0, 2]), (228, 301, [0, 2, 3])] [] 600 rfl hq

-- WreckCourtModel.judge(I)V, entry 84
set_option maxRecDepth 100000 in
set_option maxHeartbeats 4000000 in
theorem v_Mjudge84 (o : OKs) {G : GX} {d f : Nat} {sw : Bool} {I : Nat → Nat → Int32} {u2 : Int32} {u3 : Int32} {u4 : Int32} {u5 : Int32} {u6 : Int32} {Q : Option Value → Hp → Prop}
    (hq : if (I 93 35) ≤ u6 then wp G (d + 100) (mt 228) 144 [some (.ref 93), none, some (.int u2), none, none, none, some (.int 0), some (.int 1), none] [] (147, f, upI (upI I 130 0 ((1 : Int32) &&& 1)) 129 0 ((1 : Int32) &&& 1), RP f sw) Q else ck (ixB u6 12) (wp G (d + 100) (mt 228) 95 [some (.ref 93), none, some (.int u2), some (.int u3), some (.int u4), some (.int u5), some (.int u6), some (.int 0), none] [] (147, f, upI I 132 u6.toNatClampNeg 0, RP f sw) Q)) :
    wp G (d + 100) (mt 228) 84 [some (.ref 93), none, some (.int u2), some (.int u3), some (.int u4), some (.int u5), some (.int u6), none, none] [] (147, f, I, RP f sw) Q := vc_wp o [(228, 5, [0, 1, 2]), (228, 26, [0, 1, 2, 3]), (228, 47, [0, 2]), (228, 59, [0, 2]), (228, 84, [0, 2, 3, 4, 5, 6]), (228, 95, [0, 2, 3, 4, 5, 6, 7]), (228, 144, [0, 2, 6, 7]), (228, 162, [0, 2, 6, 7]), (228, 189, [0, 2, 6, 7]), (228, 222, [0, 2]), (228, 255, [0, 2]), (228, 267, [0, 2]), (228, 301, [0, 2, 3])] [] 600 rfl hq

-- WreckCourtModel.judge(I)V, entry 95
set_option maxRecDepth 100000 in
set_option maxHeartbeats 4000000 in
theorem v_Mjudge95 (o : OKs) {G : GX} {d f : Nat} {sw : Bool} {I : Nat → Nat → Int32} {u2 : Int32} {u3 : Int32} {u4 : Int32} {u5 : Int32} {u6 : Int32} {u7 : Int32} {Q : Option Value → Hp → Prop}
    (hq : if u6 ≤ u7 then wp G (d + 100) (mt 228) 84 [some (.ref 93), none, some (.int u2), some (.int u3), some (.int u4), some (.int u5), some (.int (u6 + Int32.ofInt 1)), none, none] [] (147, f, I, RP f sw) Q else ck (ixB u6 12) (ck (ixB ((12 * u6) + u7) 144) (wp G (d + 99) (mt 225) 0 (en (mt 225) [.ref 93, .int u6, .int u7, .int (I 131 (((12 * u6) + u7).toNatClampNeg)), .int u3, .int u4, .int u5]) [] (147, f, I, RP f sw) (fun v h1 => ∃ (x2 : Int32) (I1 : Nat → Nat → Int32), v = some (.int x2) ∧ h1 = (147, f, I1, RP f sw) ∧ (if x2 = 0 then ck (ixB u6 12) (wp G (d + 100) (mt 228) 95 [some (.ref 93), none, some (.int u2), some (.int u3), some (.int u4), some (.int u5), some (.int u6), some (.int (u7 + Int32.ofInt 1)), none] [] (147, f, upI I1 132 u6.toNatClampNeg ((I 132 u6.toNatClampNeg) ||| 0), RP f sw) Q) else ck (ixB u6 12) (wp G (d + 100) (mt 228) 95 [some (.ref 93), none, some (.int u2), some (.int u3), some (.int u4), some (.int u5), some (.int u6), some (.int (u7 + Int32.ofInt 1)), none] [] (147, f, upI I1 132 u6.toNatClampNeg ((I 132 u6.toNatClampNeg) ||| ((1 : Int32) <<< (u7 &&& 31))), RP f sw) Q)))))) :
    wp G (d + 100) (mt 228) 95 [some (.ref 93), none, some (.int u2), some (.int u3), some (.int u4), some (.int u5), some (.int u6), some (.int u7), none] [] (147, f, I, RP f sw) Q := vc_wp o [(228, 5, [0, 1, 2]), (228, 26, [0, 1, 2, 3]), (228, 47, [0, 2]), (228, 59, [0, 2]), (228, 84, [0, 2, 3, 4, 5, 6]), (228, 95, [0, 2, 3, 4, 5, 6, 7]), (228, 144, [0, 2, 6, 7]), (228, 162, [0, 2, 6, 7]), (228, 189, [0, 2, 6, 7]), (228, 222, [0, 2]), (228, 255, [0, 2]), (228, 267, [0, 2]), (228, 301, [0, 2, 3])] [] 600 rfl hq

-- WreckCourtModel.judge(I)V, entry 144
set_option maxRecDepth 100000 in
set_option maxHeartbeats 4000000 in
theorem v_Mjudge144 (o : OKs) {G : GX} {d f : Nat} {sw : Bool} {I : Nat → Nat → Int32} {u2 : Int32} {u6 : Int32} {u7 : Int32} {Q : Option Value → Hp → Prop}
    (hq : if ((1 : Int32) <<< ((I 93 35) &&& 31)) ≤ u7 then wp G (d + 100) (mt 228) 59 [some (.ref 93), none, some (.int (u2 + Int32.ofInt 1)), none, none, none, none, none, none] [] (147, f, I, RP f sw) Q else if (u7 >>> ((u6 + 1) &&& 31)) ≤ 0 then wp G (d + 100) (mt 228) 162 [some (.ref 93), none, some (.int u2), none, none, none, some (.int (u6 + 0)), some (.int u7), none] [] (147, f, I, RP f sw) Q else wp G (d + 100) (mt 228) 162 [some (.ref 93), none, some (.int u2), none, none, none, some (.int (u6 + 1)), some (.int u7), none] [] (147, f, I, RP f sw) Q) :
    wp G (d + 100) (mt 228) 144 [some (.ref 93), none, some (.int u2), none, none, none, some (.int u6), some (.int u7), none] [] (147, f, I, RP f sw) Q := vc_wp o [(228, 5, [0, 1, 2]), (228, 26, [0, 1, 2, 3]), (228, 47, [0, 2]), (228, 59, [0, 2]), (228, 84, [0, 2, 3, 4, 5, 6]), (228, 95, [0, 2, 3, 4, 5, 6, 7]), (228, 144, [0, 2, 6, 7]), (228, 162, [0, 2, 6, 7]), (228, 189, [0, 2, 6, 7]), (228, 222, [0, 2]), (228, 255, [0, 2]), (228, 267, [0, 2]), (228, 301, [0, 2, 3])] [] 600 rfl hq

-- WreckCourtModel.judge(I)V, entry 162
set_option maxRecDepth 100000 in
set_option maxHeartbeats 4000000 in
theorem v_Mjudge162 (o : OKs) {G : GX} {d f : Nat} {sw : Bool} {I : Nat → Nat → Int32} {u2 : Int32} {u6 : Int32} {u7 : Int32} {Q : Option Value → Hp → Prop}
    (hq : ck (ixB (u7 &&& (((1 : Int32) <<< (u6 &&& 31)) ^^^ (-1))) 4096) (if (I 130 ((u7 &&& (((1 : Int32) <<< (u6 &&& 31)) ^^^ (-1))).toNatClampNeg)) = 0 then ck (ixB u7 4096) (wp G (d + 100) (mt 228) 189 [some (.ref 93), none, some (.int u2), none, none, none, some (.int u6), some (.int u7), none] [] (147, f, upI I 130 u7.toNatClampNeg ((0 : Int32) &&& 1), RP f sw) Q) else ck (ixB u6 12) (if ((I 132 u6.toNatClampNeg) &&& (u7 &&& (((1 : Int32) <<< (u6 &&& 31)) ^^^ (-1)))) = 0 then ck (ixB u7 4096) (wp G (d + 100) (mt 228) 189 [some (.ref 93), none, some (.int u2), none, none, none, some (.int u6), some (.int u7), none] [] (147, f, upI I 130 u7.toNatClampNeg ((1 : Int32) &&& 1), RP f sw) Q) else ck (ixB u7 4096) (wp G (d + 100) (mt 228) 189 [some (.ref 93), none, some (.int u2), none, none, none, some (.int u6), some (.int u7), none] [] (147, f, upI I 130 u7.toNatClampNeg ((0 : Int32) &&& 1), RP f sw) Q)))) :
    wp G (d + 100) (mt 228) 162 [some (.ref 93), none, some (.int u2), none, none, none, some (.int u6), some (.int u7), none] [] (147, f, I, RP f sw) Q := vc_wp o [(228, 5, [0, 1, 2]), (228, 26, [0, 1, 2, 3]), (228, 47, [0, 2]), (228, 59, [0, 2]), (228, 84, [0, 2, 3, 4, 5, 6]), (228, 95, [0, 2, 3, 4, 5, 6, 7]), (228, 144, [0, 2, 6, 7]), (228, 162, [0, 2, 6, 7]), (228, 189, [0, 2, 6, 7]), (228, 222, [0, 2]), (228, 255, [0, 2]), (228, 267, [0, 2]), (228, 301, [0, 2, 3])] [] 600 rfl hq

-- WreckCourtModel.judge(I)V, entry 189
set_option maxRecDepth 100000 in
set_option maxHeartbeats 4000000 in
theorem v_Mjudge189 (o : OKs) {G : GX} {d f : Nat} {sw : Bool} {I : Nat → Nat → Int32} {u2 : Int32} {u6 : Int32} {u7 : Int32} {Q : Option Value → Hp → Prop}
    (hq : ck (ixB u7 4096) (if (I 129 u7.toNatClampNeg) = 0 then ck (ixB u7 4096) (if (I 130 u7.toNatClampNeg) = 0 then ck (ixB u7 4096) (wp G (d + 100) (mt 228) 144 [some (.ref 93), none, some (.int u2), none, none, none, some (.int u6), some (.int (u7 + Int32.ofInt 1)), none] [] (147, f, upI I 129 u7.toNatClampNeg ((0 : Int32) &&& 1), RP f sw) Q) else if (u7 &&& ((I 93 49) ^^^ (-1))) = 0 then ck (ixB u7 4096) (wp G (d + 100) (mt 228) 144 [some (.ref 93), none, some (.int u2), none, none, none, some (.int u6), some (.int (u7 + Int32.ofInt 1)), none] [] (147, f, upI I 129 u7.toNatClampNeg ((1 : Int32) &&& 1), RP f sw) Q) else ck (ixB u7 4096) (wp G (d + 100) (mt 228) 144 [some (.ref 93), none, some (.int u2), none, none, none, some (.int u6), some (.int (u7 + Int32.ofInt 1)), none] [] (147, f, upI I 129 u7.toNatClampNeg ((0 : Int32) &&& 1), RP f sw) Q)) else ck (ixB u7 4096) (wp G (d + 100) (mt 228) 144 [some (.ref 93), none, some (.int u2), none, none, none, some (.int u6), some (.int (u7 + Int32.ofInt 1)), none] [] (147, f, upI I 129 u7.toNatClampNeg ((1 : Int32) &&& 1), RP f sw) Q))) :
    wp G (d + 100) (mt 228) 189 [some (.ref 93), none, some (.int u2), none, none, none, some (.int u6), some (.int u7), none] [] (147, f, I, RP f sw) Q := vc_wp o [(228, 5, [0, 1, 2]), (228, 26, [0, 1, 2, 3]), (228, 47, [0, 2]), (228, 59, [0, 2]), (228, 84, [0, 2, 3, 4, 5, 6]), (228, 95, [0, 2, 3, 4, 5, 6, 7]), (228, 144, [0, 2, 6, 7]), (228, 162, [0, 2, 6, 7]), (228, 189, [0, 2, 6, 7]), (228, 222, [0, 2]), (228, 255, [0, 2]), (228, 267, [0, 2]), (228, 301, [0, 2, 3])] [] 600 rfl hq

-- WreckCourtModel.judge(I)V, entry 222
set_option maxRecDepth 100000 in
set_option maxHeartbeats 4000000 in
theorem v_Mjudge222 (o : OKs) {G : GX} {d f : Nat} {sw : Bool} {I : Nat → Nat → Int32} {u2 : Int32} {Q : Option Value → Hp → Prop}
    (hq : if ((1 : Int32) <<< ((I 93 35) &&& 31)) ≤ u2 then wp G (d + 100) (mt 228) 255 [some (.ref 93), none, some (.int 0), none, none, none, none, none, none] [] (147, f, upI (upI I 93 51 0) 93 52 (-1000000), RP f sw) Q else ck (ixB u2 4096) (if (I 129 u2.toNatClampNeg) = 0 then wp G (d + 100) (mt 228) 222 [some (.ref 93), none, some (.int (u2 + Int32.ofInt 1)), none, none, none, none, none, none] [] (147, f, upI I 93 50 (I 93 50), RP f sw) Q else wp G (d + 99) (mt 230) 0 (en (mt 230) [.int u2]) [] (147, f, I, RP f sw) (fun v h1 => ∃ (x2 : Int32) (I1 : Nat → Nat → Int32), v = some (.int x2) ∧ h1 = (147, f, I1, RP f sw) ∧ (if x2 ≤ (I1 93 50) then wp G (d + 100) (mt 228) 222 [some (.ref 93), none, some (.int (u2 + Int32.ofInt 1)), none, none, none, none, none, none] [] (147, f, upI I1 93 50 (I1 93 50), RP f sw) Q else wp G (d + 99) (mt 230) 0 (en (mt 230) [.int u2]) [] (147, f, I1, RP f sw) (fun v h1 => ∃ (x4 : Int32) (I3 : Nat → Nat → Int32), v = some (.int x4) ∧ h1 = (147, f, I3, RP f sw) ∧ (wp G (d + 100) (mt 228) 222 [some (.ref 93), none, some (.int (u2 + Int32.ofInt 1)), none, none, none, none, none, none] [] (147, f, upI I3 93 50 x4, RP f sw) Q)))))) :
    wp G (d + 100) (mt 228) 222 [some (.ref 93), none, some (.int u2), none, none, none, none, none, none] [] (147, f, I, RP f sw) Q := vc_wp o [(228, 5, [0, 1, 2]), (228, 26, [0, 1, 2, 3]), (228, 47, [0, 2]), (228, 59, [0, 2]), (228, 84, [0, 2, 3, 4, 5, 6]), (228, 95, [0, 2, 3, 4, 5, 6, 7]), (228, 144, [0, 2, 6, 7]), (228, 162, [0, 2, 6, 7]), (228, 189, [0, 2, 6, 7]), (228, 222, [0, 2]), (228, 255, [0, 2]), (228, 267, [0, 2]), (228, 301, [0, 2, 3])] [] 600 rfl hq

-- WreckCourtModel.judge(I)V, entry 255
set_option maxRecDepth 100000 in
set_option maxHeartbeats 4000000 in
theorem v_Mjudge255 (o : OKs) {G : GX} {d f : Nat} {sw : Bool} {I : Nat → Nat → Int32} {u2 : Int32} {Q : Option Value → Hp → Prop}
    (hq : if 12 ≤ u2 then wp G (d + 100) (mt 228) 267 [some (.ref 93), none, some (.int 0), none, none, none, none, none, none] [] (147, f, I, RP f sw) Q else ck (ixB u2 12) (wp G (d + 100) (mt 228) 255 [some (.ref 93), none, some (.int (u2 + Int32.ofInt 1)), none, none, none, none, none, none] [] (147, f, upI I 133 u2.toNatClampNeg 0, RP f sw) Q)) :
    wp G (d + 100) (mt 228) 255 [some (.ref 93), none, some (.int u2), none, none, none, none, none, none] [] (147, f, I, RP f sw) Q := vc_wp o [(228, 5, [0, 1, 2]), (228, 26, [0, 1, 2, 3]), (228, 47, [0, 2]), (228, 59, [0, 2]), (228, 84, [0, 2, 3, 4, 5, 6]), (228, 95, [0, 2, 3, 4, 5, 6, 7]), (228, 144, [0, 2, 6, 7]), (228, 162, [0, 2, 6, 7]), (228, 189, [0, 2, 6, 7]), (228, 222, [0, 2]), (228, 255, [0, 2]), (228, 267, [0, 2]), (228, 301, [0, 2, 3])] [] 600 rfl hq

-- WreckCourtModel.judge(I)V, entry 267
set_option maxRecDepth 100000 in
set_option maxHeartbeats 4000000 in
theorem v_Mjudge267 (o : OKs) {G : GX} {d f : Nat} {sw : Bool} {I : Nat → Nat → Int32} {u2 : Int32} {Q : Option Value → Hp → Prop}
    (hq : if ((1 : Int32) <<< ((I 93 35) &&& 31)) ≤ u2 then Q none (147, f, I, RP f sw) else ck (ixB u2 4096) (if (I 129 u2.toNatClampNeg) = 0 then wp G (d + 100) (mt 228) 267 [some (.ref 93), none, some (.int (u2 + Int32.ofInt 1)), none, none, none, none, none, none] [] (147, f, I, RP f sw) Q else wp G (d + 99) (mt 230) 0 (en (mt 230) [.int u2]) [] (147, f, I, RP f sw) (fun v h1 => ∃ (x2 : Int32) (I1 : Nat → Nat → Int32), v = some (.int x2) ∧ h1 = (147, f, I1, RP f sw) ∧ (if x2 = (I1 93 50) then if (I1 93 52) = (-1000000) then wp G (d + 100) (mt 228) 301 [some (.ref 93), none, some (.int u2), some (.int 0), none, none, none, none, none] [] (147, f, upI (upI I1 93 51 ((I1 93 51) + 1)) 93 52 u2, RP f sw) Q else wp G (d + 100) (mt 228) 301 [some (.ref 93), none, some (.int u2), some (.int 0), none, none, none, none, none] [] (147, f, upI (upI I1 93 51 ((I1 93 51) + 1)) 93 52 (I1 93 52), RP f sw) Q else wp G (d + 100) (mt 228) 267 [some (.ref 93), none, some (.int (u2 + Int32.ofInt 1)), none, none, none, none, none, none] [] (147, f, I1, RP f sw) Q)))) :
    wp G (d + 100) (mt 228) 267 [some (.ref 93), none, some (.int u2), none, none, none, none, none, none] [] (147, f, I, RP f sw) Q := vc_wp o [(228, 5, [0, 1, 2]), (228, 26, [0, 1, 2, 3]), (228, 47, [0, 2]), (228, 59, [0, 2]), (228, 84, [0, 2, 3, 4, 5, 6]), (228, 95, [0, 2, 3, 4, 5, 6, 7]), (228, 144, [0, 2, 6, 7]), (228, 162, [0, 2, 6, 7]), (228, 189, [0, 2, 6, 7]), (228, 222, [0, 2]), (228, 255, [0, 2]), (228, 267, [0, 2]), (228, 301, [0, 2, 3])] [] 600 rfl hq

-- WreckCourtModel.judge(I)V, entry 301
set_option maxRecDepth 100000 in
set_option maxHeartbeats 4000000 in
theorem v_Mjudge301 (o : OKs) {G : GX} {d f : Nat} {sw : Bool} {I : Nat → Nat → Int32} {u2 : Int32} {u3 : Int32} {Q : Option Value → Hp → Prop}
    (hq : if (I 93 35) ≤ u3 then wp G (d + 100) (mt 228) 267 [some (.ref 93), none, some (.int (u2 + Int32.ofInt 1)), none, none, none, none, none, none] [] (147, f, I, RP f sw) Q else ck (ixB u3 12) (ck (ixB u3 12) (wp G (d + 100) (mt 228) 301 [some (.ref 93), none, some (.int u2), some (.int (u3 + Int32.ofInt 1)), none, none, none, none, none] [] (147, f, upI I 133 u3.toNatClampNeg ((I 133 u3.toNatClampNeg) + ((u2 >>> (u3 &&& 31)) &&& 1)), RP f sw) Q))) :
    wp G (d + 100) (mt 228) 301 [some (.ref 93), none, some (.int u2), some (.int u3), none, none, none, none, none] [] (147, f, I, RP f sw) Q := vc_wp o [(228, 5, [0, 1, 2]), (228, 26, [0, 1, 2, 3]), (228, 47, [0, 2]), (228, 59, [0, 2]), (228, 84, [0, 2, 3, 4, 5, 6]), (228, 95, [0, 2, 3, 4, 5, 6, 7]), (228, 144, [0, 2, 6, 7]), (228, 162, [0, 2, 6, 7]), (228, 189, [0, 2, 6, 7]), (228, 222, [0, 2]), (228, 255, [0, 2]), (228, 267, [0, 2]), (228, 301, [0, 2, 3])] [] 600 rfl hq
