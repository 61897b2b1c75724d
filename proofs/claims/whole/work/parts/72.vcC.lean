/-! CONDITIONS of rules -/
-- WreckCourt$Reader.next()V, entry 0
set_option maxRecDepth 100000 in
set_option maxHeartbeats 4000000 in
theorem v_next (o : OKs) {G : GX} {d f : Nat} {sw : Bool} {I : Nat → Nat → Int32}  {Q : Option Value → Hp → Prop}
    (hq : wp G (d + 40) (mt 118) 4 [some (.ref 61)] [] (147, f, upI I 61 4 (I 61 5), RP f sw) Q) :
    wp G (d + 40) (mt 118) 0 (en (mt 118) [.ref 61]) [] (147, f, I, RP f sw) Q := vc_wp o [(118, 4, [0]), (118, 23, [0])] [] 600 rfl hq

-- WreckCourt$Reader.next()V, entry 4
set_option maxRecDepth 100000 in
set_option maxHeartbeats 4000000 in
theorem v_next4 (o : OKs) {G : GX} {d f : Nat} {sw : Bool} {I : Nat → Nat → Int32}  {Q : Option Value → Hp → Prop}
    (hq : if (I 61 0) ≤ (I 61 4) then wp G (d + 40) (mt 118) 23 [some (.ref 61)] [] (147, f, I, RP f sw) Q else ck (ixB (I 61 4) 400) (if (I 62 ((I 61 4).toNatClampNeg)) = 32 then wp G (d + 40) (mt 118) 4 [some (.ref 61)] [] (147, f, upI I 61 4 ((I 61 4) + 1), RP f sw) Q else if (I 62 ((I 61 4).toNatClampNeg)) = 10 then wp G (d + 40) (mt 118) 4 [some (.ref 61)] [] (147, f, upI I 61 4 ((I 61 4) + 1), RP f sw) Q else wp G (d + 40) (mt 118) 23 [some (.ref 61)] [] (147, f, I, RP f sw) Q)) :
    wp G (d + 40) (mt 118) 4 [some (.ref 61)] [] (147, f, I, RP f sw) Q := vc_wp o [(118, 4, [0]), (118, 23, [0])] [119] 600 rfl hq

-- WreckCourt$Reader.next()V, entry 23
set_option maxRecDepth 100000 in
set_option maxHeartbeats 4000000 in
theorem v_next23 (o : OKs) {G : GX} {d f : Nat} {sw : Bool} {I : Nat → Nat → Int32}  {Q : Option Value → Hp → Prop}
    (hq : if (I 61 4) = (I 61 0) then Q none (147, f, upI (upI I 61 5 (I 61 4)) 61 3 0, RP f sw) else ck (ixB (I 61 4) 400) (if (I 62 ((I 61 4).toNatClampNeg)) < 97 then ck (ixB (I 61 4) 400) (if (I 62 ((I 61 4).toNatClampNeg)) < 48 then Q none (147, f, upI (upI (upI I 61 5 (I 61 4)) 61 3 2) 61 5 ((I 61 4) + 1), RP f sw) else if 57 < (I 62 ((I 61 4).toNatClampNeg)) then Q none (147, f, upI (upI (upI I 61 5 (I 61 4)) 61 3 2) 61 5 ((I 61 4) + 1), RP f sw) else wp G (d + 39) (mt 123) 0 (en (mt 123) [.ref 61]) [] (147, f, upI I 61 5 (I 61 4), RP f sw) (fun v h1 => ∃ I1 : Nat → Nat → Int32, v = none ∧ h1 = (147, f, I1, RP f sw) ∧ (Q none (147, f, I1, RP f sw)))) else if 122 < (I 62 ((I 61 4).toNatClampNeg)) then ck (ixB (I 61 4) 400) (if (I 62 ((I 61 4).toNatClampNeg)) < 48 then Q none (147, f, upI (upI (upI I 61 5 (I 61 4)) 61 3 2) 61 5 ((I 61 4) + 1), RP f sw) else if 57 < (I 62 ((I 61 4).toNatClampNeg)) then Q none (147, f, upI (upI (upI I 61 5 (I 61 4)) 61 3 2) 61 5 ((I 61 4) + 1), RP f sw) else wp G (d + 39) (mt 123) 0 (en (mt 123) [.ref 61]) [] (147, f, upI I 61 5 (I 61 4), RP f sw) (fun v h1 => ∃ I2 : Nat → Nat → Int32, v = none ∧ h1 = (147, f, I2, RP f sw) ∧ (Q none (147, f, I2, RP f sw)))) else wp G (d + 39) (mt 121) 0 (en (mt 121) [.ref 61]) [] (147, f, upI I 61 5 (I 61 4), RP f sw) (fun v h1 => ∃ I3 : Nat → Nat → Int32, v = none ∧ h1 = (147, f, I3, RP f sw) ∧ (Q none (147, f, I3, RP f sw))))) :
    wp G (d + 40) (mt 118) 23 [some (.ref 61)] [] (147, f, I, RP f sw) Q := vc_wp o [(118, 4, [0])] [120, 122] 600 rfl hq

-- WreckCourt$Reader.takeLetters()V, entry 0
set_option maxRecDepth 100000 in
set_option maxHeartbeats 4000000 in
theorem v_takeL (o : OKs) {G : GX} {d f : Nat} {sw : Bool} {I : Nat → Nat → Int32}  {Q : Option Value → Hp → Prop}
    (hq : if (I 61 0) ≤ (I 61 5) then Q none (147, f, upI I 61 3 2, RP f sw) else ck (ixB (I 61 5) 400) (if (I 62 ((I 61 5).toNatClampNeg)) < 97 then Q none (147, f, upI I 61 3 2, RP f sw) else if 122 < (I 62 ((I 61 5).toNatClampNeg)) then Q none (147, f, upI I 61 3 2, RP f sw) else wp G (d + 20) (mt 121) 0 [some (.ref 61)] [] (147, f, upI I 61 5 ((I 61 5) + 1), RP f sw) Q)) :
    wp G (d + 20) (mt 121) 0 (en (mt 121) [.ref 61]) [] (147, f, I, RP f sw) Q := vc_wp o [(121, 0, [0])] [120] 600 rfl hq

-- WreckCourt$Reader.takeFigures()V, entry 0
set_option maxRecDepth 100000 in
set_option maxHeartbeats 4000000 in
theorem v_takeF (o : OKs) {G : GX} {d f : Nat} {sw : Bool} {I : Nat → Nat → Int32}  {Q : Option Value → Hp → Prop}
    (hq : if (I 61 0) ≤ (I 61 5) then if 4 < ((I 61 5) - (I 61 4)) then Q none (147, f, upI I 61 3 2, RP f sw) else Q none (147, f, upI I 61 3 1, RP f sw) else ck (ixB (I 61 5) 400) (if (I 62 ((I 61 5).toNatClampNeg)) < 48 then if 4 < ((I 61 5) - (I 61 4)) then Q none (147, f, upI I 61 3 2, RP f sw) else Q none (147, f, upI I 61 3 1, RP f sw) else if 57 < (I 62 ((I 61 5).toNatClampNeg)) then if 4 < ((I 61 5) - (I 61 4)) then Q none (147, f, upI I 61 3 2, RP f sw) else Q none (147, f, upI I 61 3 1, RP f sw) else wp G (d + 20) (mt 123) 0 [some (.ref 61)] [] (147, f, upI I 61 5 ((I 61 5) + 1), RP f sw) Q)) :
    wp G (d + 20) (mt 123) 0 (en (mt 123) [.ref 61]) [] (147, f, I, RP f sw) Q := vc_wp o [(123, 0, [0])] [122] 600 rfl hq

-- WreckCourt$Reader.reads(Ljava/lang/String;)Z, entry 0
set_option maxRecDepth 100000 in
set_option maxHeartbeats 4000000 in
theorem v_reads (o : OKs) {G : GX} {d f : Nat} {sw : Bool} {I : Nat → Nat → Int32} {t : Nat} {Q : Option Value → Hp → Prop}
    (hq : ck (decide (100000 ≤ t) && decide (t < 100016)) (if ((I 61 5) - (I 61 4)) = (Int32.ofNat (stL.getD (t - 100000) []).length) then wp G (d + 40) (mt 125) 15 [some (.ref 61), some (.ref t), some (.int 1), some (.int (I 61 4))] [] (147, f, I, RP f sw) Q else Q (some (.int 0)) (147, f, I, RP f sw))) :
    wp G (d + 40) (mt 125) 0 (en (mt 125) [.ref 61, .ref t]) [] (147, f, I, RP f sw) Q := vc_wp o [(125, 15, [0, 1, 2, 3])] [] 600 rfl hq

-- WreckCourt$Reader.reads(Ljava/lang/String;)Z, entry 15
set_option maxRecDepth 100000 in
set_option maxHeartbeats 4000000 in
theorem v_reads15 (o : OKs) {G : GX} {d f : Nat} {sw : Bool} {I : Nat → Nat → Int32} {t : Nat} {u2 : Int32} {u3 : Int32} {Q : Option Value → Hp → Prop}
    (hq : if (I 61 5) ≤ u3 then ck (decide (u2 = 0) || decide (u2 = 1)) (Q (some (.int u2)) (147, f, I, RP f sw)) else if u2 = 0 then wp G (d + 40) (mt 125) 15 [some (.ref 61), some (.ref t), some (.int 0), some (.int (u3 + Int32.ofInt 1))] [] (147, f, I, RP f sw) Q else ck (ixB u3 400) (wp G (d + 40) (mt 125) 30 [some (.ref 61), some (.ref t), none, some (.int u3)] [.int (u3 - (I 61 4)), .ref t, .int (I 62 u3.toNatClampNeg)] (147, f, I, RP f sw) Q)) :
    wp G (d + 40) (mt 125) 15 [some (.ref 61), some (.ref t), some (.int u2), some (.int u3)] [] (147, f, I, RP f sw) Q := vc_wp o [(125, 15, [0, 1, 2, 3]), (125, 30, [0, 1, 3])] [] 600 rfl hq

-- WreckCourt$Reader.reads(Ljava/lang/String;)Z, entry 31
set_option maxRecDepth 100000 in
set_option maxHeartbeats 4000000 in
theorem v_reads31 (o : OKs) {G : GX} {d f : Nat} {sw : Bool} {I : Nat → Nat → Int32} {t : Nat} {u3 : Int32} {y : Int32} {z : Int32} {Q : Option Value → Hp → Prop}
    (hq : if z = y then wp G (d + 40) (mt 125) 15 [some (.ref 61), some (.ref t), some (.int 1), some (.int (u3 + Int32.ofInt 1))] [] (147, f, I, RP f sw) Q else wp G (d + 40) (mt 125) 15 [some (.ref 61), some (.ref t), some (.int 0), some (.int (u3 + Int32.ofInt 1))] [] (147, f, I, RP f sw) Q) :
    wp G (d + 40) (mt 125) 31 [some (.ref 61), some (.ref t), none, some (.int u3)] [.int y, .int z] (147, f, I, RP f sw) Q := vc_wp o [(125, 15, [0, 1, 2, 3])] [] 600 rfl hq

-- WreckCourt$Reader.subjectRead()I, entry 0
set_option maxRecDepth 100000 in
set_option maxHeartbeats 4000000 in
theorem v_subj (o : OKs) {G : GX} {d f : Nat} {sw : Bool} {I : Nat → Nat → Int32}  {Q : Option Value → Hp → Prop}
    (hq : wp G (d + 59) (mt 125) 0 (en (mt 125) [.ref 61, .ref 100001]) [] (147, f, I, RP f sw) (fun v h1 => ∃ (x2 : Int32) (I1 : Nat → Nat → Int32), v = some (.int x2) ∧ h1 = (147, f, I1, RP f sw) ∧ (if x2 = 0 then wp G (d + 59) (mt 125) 0 (en (mt 125) [.ref 61, .ref 100002]) [] (147, f, I1, RP f sw) (fun v h1 => ∃ (x4 : Int32) (I3 : Nat → Nat → Int32), v = some (.int x4) ∧ h1 = (147, f, I3, RP f sw) ∧ (if x4 = 0 then wp G (d + 59) (mt 125) 0 (en (mt 125) [.ref 61, .ref 100003]) [] (147, f, I3, RP f sw) (fun v h1 => ∃ (x6 : Int32) (I5 : Nat → Nat → Int32), v = some (.int x6) ∧ h1 = (147, f, I5, RP f sw) ∧ (if x6 = 0 then wp G (d + 59) (mt 125) 0 (en (mt 125) [.ref 61, .ref 100004]) [] (147, f, I5, RP f sw) (fun v h1 => ∃ (x8 : Int32) (I7 : Nat → Nat → Int32), v = some (.int x8) ∧ h1 = (147, f, I7, RP f sw) ∧ (if x8 = 0 then wp G (d + 59) (mt 125) 0 (en (mt 125) [.ref 61, .ref 100005]) [] (147, f, I7, RP f sw) (fun v h1 => ∃ (x10 : Int32) (I9 : Nat → Nat → Int32), v = some (.int x10) ∧ h1 = (147, f, I9, RP f sw) ∧ (if x10 = 0 then Q (some (.int (-1000000))) (147, f, I9, RP f sw) else Q (some (.int 4)) (147, f, I9, RP f sw))) else Q (some (.int 3)) (147, f, I7, RP f sw))) else Q (some (.int 2)) (147, f, I5, RP f sw))) else Q (some (.int 1)) (147, f, I3, RP f sw))) else Q (some (.int 0)) (147, f, I1, RP f sw)))) :
    wp G (d + 60) (mt 140) 0 (en (mt 140) [.ref 61]) [] (147, f, I, RP f sw) Q := vc_wp o [] [] 600 rfl hq

-- WreckCourt$Reader.signRead()I, entry 0
set_option maxRecDepth 100000 in
set_option maxHeartbeats 4000000 in
theorem v_sign (o : OKs) {G : GX} {d f : Nat} {sw : Bool} {I : Nat → Nat → Int32}  {Q : Option Value → Hp → Prop}
    (hq : wp G (d + 59) (mt 125) 0 (en (mt 125) [.ref 61, .ref 100006]) [] (147, f, I, RP f sw) (fun v h1 => ∃ (x2 : Int32) (I1 : Nat → Nat → Int32), v = some (.int x2) ∧ h1 = (147, f, I1, RP f sw) ∧ (if x2 = 0 then wp G (d + 59) (mt 125) 0 (en (mt 125) [.ref 61, .ref 100007]) [] (147, f, I1, RP f sw) (fun v h1 => ∃ (x4 : Int32) (I3 : Nat → Nat → Int32), v = some (.int x4) ∧ h1 = (147, f, I3, RP f sw) ∧ (if x4 = 0 then wp G (d + 59) (mt 125) 0 (en (mt 125) [.ref 61, .ref 100008]) [] (147, f, I3, RP f sw) (fun v h1 => ∃ (x6 : Int32) (I5 : Nat → Nat → Int32), v = some (.int x6) ∧ h1 = (147, f, I5, RP f sw) ∧ (if x6 = 0 then Q (some (.int (-1000000))) (147, f, I5, RP f sw) else Q (some (.int 2)) (147, f, I5, RP f sw))) else Q (some (.int 1)) (147, f, I3, RP f sw))) else Q (some (.int 0)) (147, f, I1, RP f sw)))) :
    wp G (d + 60) (mt 141) 0 (en (mt 141) [.ref 61]) [] (147, f, I, RP f sw) Q := vc_wp o [] [] 600 rfl hq

-- WreckCourt$Reader.actRead()I, entry 0
set_option maxRecDepth 100000 in
set_option maxHeartbeats 4000000 in
theorem v_act (o : OKs) {G : GX} {d f : Nat} {sw : Bool} {I : Nat → Nat → Int32}  {Q : Option Value → Hp → Prop}
    (hq : wp G (d + 59) (mt 125) 0 (en (mt 125) [.ref 61, .ref 100011]) [] (147, f, I, RP f sw) (fun v h1 => ∃ (x2 : Int32) (I1 : Nat → Nat → Int32), v = some (.int x2) ∧ h1 = (147, f, I1, RP f sw) ∧ (if x2 = 0 then wp G (d + 59) (mt 125) 0 (en (mt 125) [.ref 61, .ref 100012]) [] (147, f, I1, RP f sw) (fun v h1 => ∃ (x4 : Int32) (I3 : Nat → Nat → Int32), v = some (.int x4) ∧ h1 = (147, f, I3, RP f sw) ∧ (if x4 = 0 then wp G (d + 59) (mt 125) 0 (en (mt 125) [.ref 61, .ref 100013]) [] (147, f, I3, RP f sw) (fun v h1 => ∃ (x6 : Int32) (I5 : Nat → Nat → Int32), v = some (.int x6) ∧ h1 = (147, f, I5, RP f sw) ∧ (if x6 = 0 then wp G (d + 59) (mt 125) 0 (en (mt 125) [.ref 61, .ref 100014]) [] (147, f, I5, RP f sw) (fun v h1 => ∃ (x8 : Int32) (I7 : Nat → Nat → Int32), v = some (.int x8) ∧ h1 = (147, f, I7, RP f sw) ∧ (if x8 = 0 then Q (some (.int (-1000000))) (147, f, I7, RP f sw) else Q (some (.int 3)) (147, f, I7, RP f sw))) else Q (some (.int 2)) (147, f, I5, RP f sw))) else Q (some (.int 1)) (147, f, I3, RP f sw))) else Q (some (.int 0)) (147, f, I1, RP f sw)))) :
    wp G (d + 60) (mt 145) 0 (en (mt 145) [.ref 61]) [] (147, f, I, RP f sw) Q := vc_wp o [] [] 600 rfl hq

-- WreckCourt$Reader.numberRead()I, entry 0
set_option maxRecDepth 100000 in
set_option maxHeartbeats 4000000 in
theorem v_numR (o : OKs) {G : GX} {d f : Nat} {sw : Bool} {I : Nat → Nat → Int32}  {Q : Option Value → Hp → Prop}
    (hq : wp G (d + 20) (mt 142) 5 [some (.ref 61), some (.int 0), some (.int (I 61 4))] [] (147, f, I, RP f sw) Q) :
    wp G (d + 20) (mt 142) 0 (en (mt 142) [.ref 61]) [] (147, f, I, RP f sw) Q := vc_wp o [(142, 5, [0, 1, 2])] [] 600 rfl hq

-- WreckCourt$Reader.numberRead()I, entry 5
set_option maxRecDepth 100000 in
set_option maxHeartbeats 4000000 in
theorem v_numR5 (o : OKs) {G : GX} {d f : Nat} {sw : Bool} {I : Nat → Nat → Int32} {u1 : Int32} {u2 : Int32} {Q : Option Value → Hp → Prop}
    (hq : if (I 61 5) ≤ u2 then Q (some (.int u1)) (147, f, I, RP f sw) else ck (ixB u2 400) (wp G (d + 20) (mt 142) 5 [some (.ref 61), some (.int ((u1 * 10) + ((I 62 u2.toNatClampNeg) - 48))), some (.int (u2 + Int32.ofInt 1))] [] (147, f, I, RP f sw) Q)) :
    wp G (d + 20) (mt 142) 5 [some (.ref 61), some (.int u1), some (.int u2)] [] (147, f, I, RP f sw) Q := vc_wp o [(142, 5, [0, 1, 2])] [] 600 rfl hq

-- WreckCourt$Reader.readTest(LWreckCourt$Book;)Z, entry 0
set_option maxRecDepth 100000 in
set_option maxHeartbeats 4000000 in
theorem v_rdTestA (o : OKs) {G : GX} {d f : Nat} {I : Nat → Nat → Int32}  {Q : Option Value → Hp → Prop}
    (hq : wp G (d + 79) (mt 140) 0 (en (mt 140) [.ref 61]) [] (147, f, I, RP f false) (fun v h1 => ∃ (x2 : Int32) (I1 : Nat → Nat → Int32), v = some (.int x2) ∧ h1 = (147, f, I1, RP f false) ∧ (if x2 = (-1000000) then Q (some (.int 0)) (147, f, upI I1 61 1 1, RP f false) else wp G (d + 79) (mt 118) 0 (en (mt 118) [.ref 61]) [] (147, f, I1, RP f false) (fun v h1 => ∃ I3 : Nat → Nat → Int32, v = none ∧ h1 = (147, f, I3, RP f false) ∧ (wp G (d + 79) (mt 141) 0 (en (mt 141) [.ref 61]) [] (147, f, I3, RP f false) (fun v h1 => ∃ (x5 : Int32) (I4 : Nat → Nat → Int32), v = some (.int x5) ∧ h1 = (147, f, I4, RP f false) ∧ (if x5 = (-1000000) then Q (some (.int 0)) (147, f, upI I4 61 1 1, RP f false) else wp G (d + 79) (mt 118) 0 (en (mt 118) [.ref 61]) [] (147, f, I4, RP f false) (fun v h1 => ∃ I6 : Nat → Nat → Int32, v = none ∧ h1 = (147, f, I6, RP f false) ∧ (if (I6 61 3) = 1 then wp G (d + 79) (mt 142) 0 (en (mt 142) [.ref 61]) [] (147, f, I6, RP f false) (fun v h1 => ∃ (x8 : Int32) (I7 : Nat → Nat → Int32), v = some (.int x8) ∧ h1 = (147, f, I7, RP f false) ∧ (ck (ixB (I7 71 0) 10) (ck (ixB (((I7 71 0) * 3) + (I7 73 ((I7 71 0).toNatClampNeg))) 30) (ck (ixB (((I7 71 0) * 3) + (I7 73 ((I7 71 0).toNatClampNeg))) 30) (ck (ixB (((I7 71 0) * 3) + (I7 73 ((I7 71 0).toNatClampNeg))) 30) (ck (ixB (I7 71 0) 10) (ck (ixB (I7 71 0) 10) (wp G (d + 79) (mt 118) 0 (en (mt 118) [.ref 61]) [] (147, f, upI (upI (upI (upI I7 74 ((((I7 71 0) * 3) + (I7 73 ((I7 71 0).toNatClampNeg))).toNatClampNeg) x2) 75 ((((I7 71 0) * 3) + (I7 73 ((I7 71 0).toNatClampNeg))).toNatClampNeg) x5) 76 ((((I7 71 0) * 3) + (I7 73 ((I7 71 0).toNatClampNeg))).toNatClampNeg) x8) 73 ((I7 71 0).toNatClampNeg) ((I7 73 ((I7 71 0).toNatClampNeg)) + 1), RP f false) (fun v h1 => ∃ I9 : Nat → Nat → Int32, v = none ∧ h1 = (147, f, I9, RP f false) ∧ (Q (some (.int 1)) (147, f, I9, RP f false))))))))))) else Q (some (.int 0)) (147, f, upI I6 61 1 1, RP f false)))))))))) :
    wp G (d + 80) (mt 139) 0 (en (mt 139) [.ref 61, .ref 71]) [] (147, f, I, RP f false) Q := vc_wp o [] [137, 143] 600 rfl hq

-- WreckCourt$Reader.readMust(LWreckCourt$Book;)Z, entry 0
set_option maxRecDepth 100000 in
set_option maxHeartbeats 4000000 in
theorem v_rdMustA (o : OKs) {G : GX} {d f : Nat} {I : Nat → Nat → Int32}  {Q : Option Value → Hp → Prop}
    (hq : wp G (d + 79) (mt 125) 0 (en (mt 125) [.ref 61, .ref 100010]) [] (147, f, I, RP f false) (fun v h1 => ∃ (x2 : Int32) (I1 : Nat → Nat → Int32), v = some (.int x2) ∧ h1 = (147, f, I1, RP f false) ∧ (if x2 = 0 then Q (some (.int 0)) (147, f, upI I1 61 1 1, RP f false) else wp G (d + 79) (mt 118) 0 (en (mt 118) [.ref 61]) [] (147, f, I1, RP f false) (fun v h1 => ∃ I3 : Nat → Nat → Int32, v = none ∧ h1 = (147, f, I3, RP f false) ∧ (wp G (d + 79) (mt 145) 0 (en (mt 145) [.ref 61]) [] (147, f, I3, RP f false) (fun v h1 => ∃ (x5 : Int32) (I4 : Nat → Nat → Int32), v = some (.int x5) ∧ h1 = (147, f, I4, RP f false) ∧ (if x5 = (-1000000) then Q (some (.int 0)) (147, f, upI I4 61 1 1, RP f false) else wp G (d + 79) (mt 118) 0 (en (mt 118) [.ref 61]) [] (147, f, I4, RP f false) (fun v h1 => ∃ I6 : Nat → Nat → Int32, v = none ∧ h1 = (147, f, I6, RP f false) ∧ (wp G (d + 79) (mt 125) 0 (en (mt 125) [.ref 61, .ref 100015]) [] (147, f, I6, RP f false) (fun v h1 => ∃ (x8 : Int32) (I7 : Nat → Nat → Int32), v = some (.int x8) ∧ h1 = (147, f, I7, RP f false) ∧ (if x8 = 0 then Q (some (.int 0)) (147, f, upI I7 61 1 1, RP f false) else ck (ixB (I7 71 0) 10) (wp G (d + 79) (mt 118) 0 (en (mt 118) [.ref 61]) [] (147, f, upI (upI I7 72 ((I7 71 0).toNatClampNeg) x5) 71 0 ((I7 71 0) + 1), RP f false) (fun v h1 => ∃ I9 : Nat → Nat → Int32, v = none ∧ h1 = (147, f, I9, RP f false) ∧ (Q (some (.int 1)) (147, f, I9, RP f false))))))))))))))) :
    wp G (d + 80) (mt 144) 0 (en (mt 144) [.ref 61, .ref 71]) [] (147, f, I, RP f false) Q := vc_wp o [] [137, 146] 600 rfl hq

-- WreckCourt$Reader.readRule(LWreckCourt$Book;)Z, entry 0
set_option maxRecDepth 100000 in
set_option maxHeartbeats 4000000 in
theorem v_rdRuleA (o : OKs) {G : GX} {d f : Nat} {I : Nat → Nat → Int32}  {Q : Option Value → Hp → Prop}
    (hq : wp G (d + 99) (mt 125) 0 (en (mt 125) [.ref 61, .ref 100000]) [] (147, f, I, RP f false) (fun v h1 => ∃ (x2 : Int32) (I1 : Nat → Nat → Int32), v = some (.int x2) ∧ h1 = (147, f, I1, RP f false) ∧ (if x2 = 0 then Q (some (.int 0)) (147, f, upI I1 61 1 1, RP f false) else if (I1 71 0) = 10 then Q (some (.int 0)) (147, f, upI I1 61 1 3, RP f false) else ck (ixB (I1 71 0) 10) (wp G (d + 99) (mt 118) 0 (en (mt 118) [.ref 61]) [] (147, f, upI I1 73 ((I1 71 0).toNatClampNeg) 0, RP f false) (fun v h1 => ∃ I3 : Nat → Nat → Int32, v = none ∧ h1 = (147, f, I3, RP f false) ∧ (wp G (d + 99) (mt 139) 0 (en (mt 139) [.ref 61, .ref 71]) [] (147, f, I3, RP f false) (fun v h1 => ∃ (x5 : Int32) (I4 : Nat → Nat → Int32), v = some (.int x5) ∧ h1 = (147, f, I4, RP f false) ∧ (wp G (d + 100) (mt 124) 26 [some (.ref 61), some (.ref 71), some (.int x5), some (.int 1)] [] (147, f, I4, RP f false) Q)))))))) :
    wp G (d + 100) (mt 124) 0 (en (mt 124) [.ref 61, .ref 71]) [] (147, f, I, RP f false) Q := vc_wp o [(124, 26, [0, 1, 2, 3])] [137, 138] 600 rfl hq

-- WreckCourt$Reader.readRule(LWreckCourt$Book;)Z, entry 26
set_option maxRecDepth 100000 in
set_option maxHeartbeats 4000000 in
theorem v_rdRule26A (o : OKs) {G : GX} {d f : Nat} {I : Nat → Nat → Int32} {u2 : Int32} {u3 : Int32} {Q : Option Value → Hp → Prop}
    (hq : if 3 < u3 then if u2 = 0 then Q (some (.int 0)) (147, f, I, RP f false) else wp G (d + 99) (mt 144) 0 (en (mt 144) [.ref 61, .ref 71]) [] (147, f, I, RP f false) (fun v h1 => ∃ (x2 : Int32) (I1 : Nat → Nat → Int32), v = some (.int x2) ∧ h1 = (147, f, I1, RP f false) ∧ (if x2 = 0 then Q (some (.int 0)) (147, f, I1, RP f false) else Q (some (.int 1)) (147, f, I1, RP f false))) else if u2 = 0 then if u2 = 0 then Q (some (.int 0)) (147, f, I, RP f false) else wp G (d + 99) (mt 144) 0 (en (mt 144) [.ref 61, .ref 71]) [] (147, f, I, RP f false) (fun v h1 => ∃ (x4 : Int32) (I3 : Nat → Nat → Int32), v = some (.int x4) ∧ h1 = (147, f, I3, RP f false) ∧ (if x4 = 0 then Q (some (.int 0)) (147, f, I3, RP f false) else Q (some (.int 1)) (147, f, I3, RP f false))) else wp G (d + 99) (mt 125) 0 (en (mt 125) [.ref 61, .ref 100009]) [] (147, f, I, RP f false) (fun v h1 => ∃ (x6 : Int32) (I5 : Nat → Nat → Int32), v = some (.int x6) ∧ h1 = (147, f, I5, RP f false) ∧ (if x6 = 0 then if u2 = 0 then Q (some (.int 0)) (147, f, I5, RP f false) else wp G (d + 99) (mt 144) 0 (en (mt 144) [.ref 61, .ref 71]) [] (147, f, I5, RP f false) (fun v h1 => ∃ (x8 : Int32) (I7 : Nat → Nat → Int32), v = some (.int x8) ∧ h1 = (147, f, I7, RP f false) ∧ (if x8 = 0 then Q (some (.int 0)) (147, f, I7, RP f false) else Q (some (.int 1)) (147, f, I7, RP f false))) else if u3 = 3 then Q (some (.int 0)) (147, f, upI I5 61 1 2, RP f false) else wp G (d + 99) (mt 118) 0 (en (mt 118) [.ref 61]) [] (147, f, I5, RP f false) (fun v h1 => ∃ I9 : Nat → Nat → Int32, v = none ∧ h1 = (147, f, I9, RP f false) ∧ (wp G (d + 99) (mt 139) 0 (en (mt 139) [.ref 61, .ref 71]) [] (147, f, I9, RP f false) (fun v h1 => ∃ (x11 : Int32) (I10 : Nat → Nat → Int32), v = some (.int x11) ∧ h1 = (147, f, I10, RP f false) ∧ (wp G (d + 100) (mt 124) 26 [some (.ref 61), some (.ref 71), some (.int x11), some (.int (u3 + Int32.ofInt 1))] [] (147, f, I10, RP f false) Q))))))) :
    wp G (d + 100) (mt 124) 26 [some (.ref 61), some (.ref 71), some (.int u2), some (.int u3)] [] (147, f, I, RP f false) Q := vc_wp o [(124, 26, [0, 1, 2, 3])] [137] 600 rfl hq

-- WreckCourt$Reader.readTape(LWreckCourt$Book;)I, entry 0
set_option maxRecDepth 100000 in
set_option maxHeartbeats 4000000 in
theorem v_rdTapeA (o : OKs) {G : GX} {d f : Nat} {I : Nat → Nat → Int32}  {Q : Option Value → Hp → Prop}
    (hq : wp G (d + 119) (mt 118) 0 (en (mt 118) [.ref 61]) [] (147, f, upI (upI I 71 0 0) 61 5 0, RP f false) (fun v h1 => ∃ I1 : Nat → Nat → Int32, v = none ∧ h1 = (147, f, I1, RP f false) ∧ (wp G (d + 120) (mt 117) 12 [some (.ref 61), some (.ref 71), some (.int 1), some (.int 0)] [] (147, f, I1, RP f false) Q))) :
    wp G (d + 120) (mt 117) 0 (en (mt 117) [.ref 61, .ref 71]) [] (147, f, I, RP f false) Q := vc_wp o [(117, 12, [0, 1, 2, 3])] [] 600 rfl hq

-- WreckCourt$Reader.readTape(LWreckCourt$Book;)I, entry 12
set_option maxRecDepth 100000 in
set_option maxHeartbeats 4000000 in
theorem v_rdTape12A (o : OKs) {G : GX} {d f : Nat} {I : Nat → Nat → Int32} {u2 : Int32} {u3 : Int32} {Q : Option Value → Hp → Prop}
    (hq : if 10 < u3 then if u2 = 0 then Q (some (.int ((-1000100) - (I 61 4)))) (147, f, upI I 61 0 0, RP f false) else Q (some (.int (I 71 0))) (147, f, upI I 61 0 0, RP f false) else if u2 = 0 then if u2 = 0 then Q (some (.int ((-1000100) - (I 61 4)))) (147, f, upI I 61 0 0, RP f false) else Q (some (.int (I 71 0))) (147, f, upI I 61 0 0, RP f false) else if (I 61 3) = 0 then if u2 = 0 then Q (some (.int ((-1000100) - (I 61 4)))) (147, f, upI I 61 0 0, RP f false) else Q (some (.int (I 71 0))) (147, f, upI I 61 0 0, RP f false) else wp G (d + 119) (mt 124) 0 (en (mt 124) [.ref 61, .ref 71]) [] (147, f, I, RP f false) (fun v h1 => ∃ (x2 : Int32) (I1 : Nat → Nat → Int32), v = some (.int x2) ∧ h1 = (147, f, I1, RP f false) ∧ (wp G (d + 120) (mt 117) 12 [some (.ref 61), some (.ref 71), some (.int x2), some (.int (u3 + Int32.ofInt 1))] [] (147, f, I1, RP f false) Q))) :
    wp G (d + 120) (mt 117) 12 [some (.ref 61), some (.ref 71), some (.int u2), some (.int u3)] [] (147, f, I, RP f false) Q := vc_wp o [(117, 12, [0, 1, 2, 3])] [] 600 rfl hq

-- WreckCourt.rules()I, entry 0
set_option maxRecDepth 100000 in
set_option maxHeartbeats 4000000 in
theorem v_CrulesA (o : OKs) {G : GX} {d f : Nat} {I : Nat → Nat → Int32}  {Q : Option Value → Hp → Prop}
    (hq : wp G (d + 139) (mt 117) 0 (en (mt 117) [.ref 61, .ref 71]) [] (147, f, I, RP f false) (fun v h1 => ∃ (x2 : Int32) (I1 : Nat → Nat → Int32), v = some (.int x2) ∧ h1 = (147, f, I1, RP f false) ∧ (if x2 < 0 then Q (some (.int x2)) (147, f, I1, RP f false) else Q (some (.int x2)) (147, f, I1, upR (upR (RP f false) 0 9 (some 71)) 0 10 (some 65))))) :
    wp G (d + 140) (mt 116) 0 (en (mt 116) [.ref 0]) [] (147, f, I, RP f false) Q := vc_wp o [] [] 600 rfl hq

-- WreckCourt$Reader.readTest(LWreckCourt$Book;)Z, entry 0
set_option maxRecDepth 100000 in
set_option maxHeartbeats 4000000 in
theorem v_rdTestB (o : OKs) {G : GX} {d f : Nat} {I : Nat → Nat → Int32}  {Q : Option Value → Hp → Prop}
    (hq : wp G (d + 79) (mt 140) 0 (en (mt 140) [.ref 61]) [] (147, f, I, RP f true) (fun v h1 => ∃ (x2 : Int32) (I1 : Nat → Nat → Int32), v = some (.int x2) ∧ h1 = (147, f, I1, RP f true) ∧ (if x2 = (-1000000) then Q (some (.int 0)) (147, f, upI I1 61 1 1, RP f true) else wp G (d + 79) (mt 118) 0 (en (mt 118) [.ref 61]) [] (147, f, I1, RP f true) (fun v h1 => ∃ I3 : Nat → Nat → Int32, v = none ∧ h1 = (147, f, I3, RP f true) ∧ (wp G (d + 79) (mt 141) 0 (en (mt 141) [.ref 61]) [] (147, f, I3, RP f true) (fun v h1 => ∃ (x5 : Int32) (I4 : Nat → Nat → Int32), v = some (.int x5) ∧ h1 = (147, f, I4, RP f true) ∧ (if x5 = (-1000000) then Q (some (.int 0)) (147, f, upI I4 61 1 1, RP f true) else wp G (d + 79) (mt 118) 0 (en (mt 118) [.ref 61]) [] (147, f, I4, RP f true) (fun v h1 => ∃ I6 : Nat → Nat → Int32, v = none ∧ h1 = (147, f, I6, RP f true) ∧ (if (I6 61 3) = 1 then wp G (d + 79) (mt 142) 0 (en (mt 142) [.ref 61]) [] (147, f, I6, RP f true) (fun v h1 => ∃ (x8 : Int32) (I7 : Nat → Nat → Int32), v = some (.int x8) ∧ h1 = (147, f, I7, RP f true) ∧ (ck (ixB (I7 65 0) 10) (ck (ixB (((I7 65 0) * 3) + (I7 67 ((I7 65 0).toNatClampNeg))) 30) (ck (ixB (((I7 65 0) * 3) + (I7 67 ((I7 65 0).toNatClampNeg))) 30) (ck (ixB (((I7 65 0) * 3) + (I7 67 ((I7 65 0).toNatClampNeg))) 30) (ck (ixB (I7 65 0) 10) (ck (ixB (I7 65 0) 10) (wp G (d + 79) (mt 118) 0 (en (mt 118) [.ref 61]) [] (147, f, upI (upI (upI (upI I7 68 ((((I7 65 0) * 3) + (I7 67 ((I7 65 0).toNatClampNeg))).toNatClampNeg) x2) 69 ((((I7 65 0) * 3) + (I7 67 ((I7 65 0).toNatClampNeg))).toNatClampNeg) x5) 70 ((((I7 65 0) * 3) + (I7 67 ((I7 65 0).toNatClampNeg))).toNatClampNeg) x8) 67 ((I7 65 0).toNatClampNeg) ((I7 67 ((I7 65 0).toNatClampNeg)) + 1), RP f true) (fun v h1 => ∃ I9 : Nat → Nat → Int32, v = none ∧ h1 = (147, f, I9, RP f true) ∧ (Q (some (.int 1)) (147, f, I9, RP f true))))))))))) else Q (some (.int 0)) (147, f, upI I6 61 1 1, RP f true)))))))))) :
    wp G (d + 80) (mt 139) 0 (en (mt 139) [.ref 61, .ref 65]) [] (147, f, I, RP f true) Q := vc_wp o [] [137, 143] 600 rfl hq

-- WreckCourt$Reader.readMust(LWreckCourt$Book;)Z, entry 0
set_option maxRecDepth 100000 in
set_option maxHeartbeats 4000000 in
theorem v_rdMustB (o : OKs) {G : GX} {d f : Nat} {I : Nat → Nat → Int32}  {Q : Option Value → Hp → Prop}
    (hq : wp G (d + 79) (mt 125) 0 (en (mt 125) [.ref 61, .ref 100010]) [] (147, f, I, RP f true) (fun v h1 => ∃ (x2 : Int32) (I1 : Nat → Nat → Int32), v = some (.int x2) ∧ h1 = (147, f, I1, RP f true) ∧ (if x2 = 0 then Q (some (.int 0)) (147, f, upI I1 61 1 1, RP f true) else wp G (d + 79) (mt 118) 0 (en (mt 118) [.ref 61]) [] (147, f, I1, RP f true) (fun v h1 => ∃ I3 : Nat → Nat → Int32, v = none ∧ h1 = (147, f, I3, RP f true) ∧ (wp G (d + 79) (mt 145) 0 (en (mt 145) [.ref 61]) [] (147, f, I3, RP f true) (fun v h1 => ∃ (x5 : Int32) (I4 : Nat → Nat → Int32), v = some (.int x5) ∧ h1 = (147, f, I4, RP f true) ∧ (if x5 = (-1000000) then Q (some (.int 0)) (147, f, upI I4 61 1 1, RP f true) else wp G (d + 79) (mt 118) 0 (en (mt 118) [.ref 61]) [] (147, f, I4, RP f true) (fun v h1 => ∃ I6 : Nat → Nat → Int32, v = none ∧ h1 = (147, f, I6, RP f true) ∧ (wp G (d + 79) (mt 125) 0 (en (mt 125) [.ref 61, .ref 100015]) [] (147, f, I6, RP f true) (fun v h1 => ∃ (x8 : Int32) (I7 : Nat → Nat → Int32), v = some (.int x8) ∧ h1 = (147, f, I7, RP f true) ∧ (if x8 = 0 then Q (some (.int 0)) (147, f, upI I7 61 1 1, RP f true) else ck (ixB (I7 65 0) 10) (wp G (d + 79) (mt 118) 0 (en (mt 118) [.ref 61]) [] (147, f, upI (upI I7 66 ((I7 65 0).toNatClampNeg) x5) 65 0 ((I7 65 0) + 1), RP f true) (fun v h1 => ∃ I9 : Nat → Nat → Int32, v = none ∧ h1 = (147, f, I9, RP f true) ∧ (Q (some (.int 1)) (147, f, I9, RP f true))))))))))))))) :
    wp G (d + 80) (mt 144) 0 (en (mt 144) [.ref 61, .ref 65]) [] (147, f, I, RP f true) Q := vc_wp o [] [137, 146] 600 rfl hq

-- WreckCourt$Reader.readRule(LWreckCourt$Book;)Z, entry 0
set_option maxRecDepth 100000 in
set_option maxHeartbeats 4000000 in
theorem v_rdRuleB (o : OKs) {G : GX} {d f : Nat} {I : Nat → Nat → Int32}  {Q : Option Value → Hp → Prop}
    (hq : wp G (d + 99) (mt 125) 0 (en (mt 125) [.ref 61, .ref 100000]) [] (147, f, I, RP f true) (fun v h1 => ∃ (x2 : Int32) (I1 : Nat → Nat → Int32), v = some (.int x2) ∧ h1 = (147, f, I1, RP f true) ∧ (if x2 = 0 then Q (some (.int 0)) (147, f, upI I1 61 1 1, RP f true) else if (I1 65 0) = 10 then Q (some (.int 0)) (147, f, upI I1 61 1 3, RP f true) else ck (ixB (I1 65 0) 10) (wp G (d + 99) (mt 118) 0 (en (mt 118) [.ref 61]) [] (147, f, upI I1 67 ((I1 65 0).toNatClampNeg) 0, RP f true) (fun v h1 => ∃ I3 : Nat → Nat → Int32, v = none ∧ h1 = (147, f, I3, RP f true) ∧ (wp G (d + 99) (mt 139) 0 (en (mt 139) [.ref 61, .ref 65]) [] (147, f, I3, RP f true) (fun v h1 => ∃ (x5 : Int32) (I4 : Nat → Nat → Int32), v = some (.int x5) ∧ h1 = (147, f, I4, RP f true) ∧ (wp G (d + 100) (mt 124) 26 [some (.ref 61), some (.ref 65), some (.int x5), some (.int 1)] [] (147, f, I4, RP f true) Q)))))))) :
    wp G (d + 100) (mt 124) 0 (en (mt 124) [.ref 61, .ref 65]) [] (147, f, I, RP f true) Q := vc_wp o [(124, 26, [0, 1, 2, 3])] [137, 138] 600 rfl hq

-- WreckCourt$Reader.readRule(LWreckCourt$Book;)Z, entry 26
set_option maxRecDepth 100000 in
set_option maxHeartbeats 4000000 in
theorem v_rdRule26B (o : OKs) {G : GX} {d f : Nat} {I : Nat → Nat → Int32} {u2 : Int32} {u3 : Int32} {Q : Option Value → Hp → Prop}
    (hq : if 3 < u3 then if u2 = 0 then Q (some (.int 0)) (147, f, I, RP f true) else wp G (d + 99) (mt 144) 0 (en (mt 144) [.ref 61, .ref 65]) [] (147, f, I, RP f true) (fun v h1 => ∃ (x2 : Int32) (I1 : Nat → Nat → Int32), v = some (.int x2) ∧ h1 = (147, f, I1, RP f true) ∧ (if x2 = 0 then Q (some (.int 0)) (147, f, I1, RP f true) else Q (some (.int 1)) (147, f, I1, RP f true))) else if u2 = 0 then if u2 = 0 then Q (some (.int 0)) (147, f, I, RP f true) else wp G (d + 99) (mt 144) 0 (en (mt 144) [.ref 61, .ref 65]) [] (147, f, I, RP f true) (fun v h1 => ∃ (x4 : Int32) (I3 : Nat → Nat → Int32), v = some (.int x4) ∧ h1 = (147, f, I3, RP f true) ∧ (if x4 = 0 then Q (some (.int 0)) (147, f, I3, RP f true) else Q (some (.int 1)) (147, f, I3, RP f true))) else wp G (d + 99) (mt 125) 0 (en (mt 125) [.ref 61, .ref 100009]) [] (147, f, I, RP f true) (fun v h1 => ∃ (x6 : Int32) (I5 : Nat → Nat → Int32), v = some (.int x6) ∧ h1 = (147, f, I5, RP f true) ∧ (if x6 = 0 then if u2 = 0 then Q (some (.int 0)) (147, f, I5, RP f true) else wp G (d + 99) (mt 144) 0 (en (mt 144) [.ref 61, .ref 65]) [] (147, f, I5, RP f true) (fun v h1 => ∃ (x8 : Int32) (I7 : Nat → Nat → Int32), v = some (.int x8) ∧ h1 = (147, f, I7, RP f true) ∧ (if x8 = 0 then Q (some (.int 0)) (147, f, I7, RP f true) else Q (some (.int 1)) (147, f, I7, RP f true))) else if u3 = 3 then Q (some (.int 0)) (147, f, upI I5 61 1 2, RP f true) else wp G (d + 99) (mt 118) 0 (en (mt 118) [.ref 61]) [] (147, f, I5, RP f true) (fun v h1 => ∃ I9 : Nat → Nat → Int32, v = none ∧ h1 = (147, f, I9, RP f true) ∧ (wp G (d + 99) (mt 139) 0 (en (mt 139) [.ref 61, .ref 65]) [] (147, f, I9, RP f true) (fun v h1 => ∃ (x11 : Int32) (I10 : Nat → Nat → Int32), v = some (.int x11) ∧ h1 = (147, f, I10, RP f true) ∧ (wp G (d + 100) (mt 124) 26 [some (.ref 61), some (.ref 65), some (.int x11), some (.int (u3 + Int32.ofInt 1))] [] (147, f, I10, RP f true) Q))))))) :
    wp G (d + 100) (mt 124) 26 [some (.ref 61), some (.ref 65), some (.int u2), some (.int u3)] [] (147, f, I, RP f true) Q := vc_wp o [(124, 26, [0, 1, 2, 3])] [137] 600 rfl hq

-- WreckCourt$Reader.readTape(LWreckCourt$Book;)I, entry 0
set_option maxRecDepth 100000 in
set_option maxHeartbeats 4000000 in
theorem v_rdTapeB (o : OKs) {G : GX} {d f : Nat} {I : Nat → Nat → Int32}  {Q : Option Value → Hp → Prop}
    (hq : wp G (d + 119) (mt 118) 0 (en (mt 118) [.ref 61]) [] (147, f, upI (upI I 65 0 0) 61 5 0, RP f true) (fun v h1 => ∃ I1 : Nat → Nat → Int32, v = none ∧ h1 = (147, f, I1, RP f true) ∧ (wp G (d + 120) (mt 117) 12 [some (.ref 61), some (.ref 65), some (.int 1), some (.int 0)] [] (147, f, I1, RP f true) Q))) :
    wp G (d + 120) (mt 117) 0 (en (mt 117) [.ref 61, .ref 65]) [] (147, f, I, RP f true) Q := vc_wp o [(117, 12, [0, 1, 2, 3])] [] 600 rfl hq

-- WreckCourt$Reader.readTape(LWreckCourt$Book;)I, entry 12
set_option maxRecDepth 100000 in
set_option maxHeartbeats 4000000 in
theorem v_rdTape12B (o : OKs) {G : GX} {d f : Nat} {I : Nat → Nat → Int32} {u2 : Int32} {u3 : Int32} {Q : Option Value → Hp → Prop}
    (hq : if 10 < u3 then if u2 = 0 then Q (some (.int ((-1000100) - (I 61 4)))) (147, f, upI I 61 0 0, RP f true) else Q (some (.int (I 65 0))) (147, f, upI I 61 0 0, RP f true) else if u2 = 0 then if u2 = 0 then Q (some (.int ((-1000100) - (I 61 4)))) (147, f, upI I 61 0 0, RP f true) else Q (some (.int (I 65 0))) (147, f, upI I 61 0 0, RP f true) else if (I 61 3) = 0 then if u2 = 0 then Q (some (.int ((-1000100) - (I 61 4)))) (147, f, upI I 61 0 0, RP f true) else Q (some (.int (I 65 0))) (147, f, upI I 61 0 0, RP f true) else wp G (d + 119) (mt 124) 0 (en (mt 124) [.ref 61, .ref 65]) [] (147, f, I, RP f true) (fun v h1 => ∃ (x2 : Int32) (I1 : Nat → Nat → Int32), v = some (.int x2) ∧ h1 = (147, f, I1, RP f true) ∧ (wp G (d + 120) (mt 117) 12 [some (.ref 61), some (.ref 65), some (.int x2), some (.int (u3 + Int32.ofInt 1))] [] (147, f, I1, RP f true) Q))) :
    wp G (d + 120) (mt 117) 12 [some (.ref 61), some (.ref 65), some (.int u2), some (.int u3)] [] (147, f, I, RP f true) Q := vc_wp o [(117, 12, [0, 1, 2, 3])] [] 600 rfl hq

-- WreckCourt.rules()I, entry 0
set_option maxRecDepth 100000 in
set_option maxHeartbeats 4000000 in
theorem v_CrulesB (o : OKs) {G : GX} {d f : Nat} {I : Nat → Nat → Int32}  {Q : Option Value → Hp → Prop}
    (hq : wp G (d + 139) (mt 117) 0 (en (mt 117) [.ref 61, .ref 65]) [] (147, f, I, RP f true) (fun v h1 => ∃ (x2 : Int32) (I1 : Nat → Nat → Int32), v = some (.int x2) ∧ h1 = (147, f, I1, RP f true) ∧ (if x2 < 0 then Q (some (.int x2)) (147, f, I1, RP f true) else Q (some (.int x2)) (147, f, I1, upR (upR (RP f true) 0 9 (some 65)) 0 10 (some 71))))) :
    wp G (d + 140) (mt 116) 0 (en (mt 116) [.ref 0]) [] (147, f, I, RP f true) Q := vc_wp o [] [] 600 rfl hq

-- WreckCourtModel.step()V, entry 0
set_option maxRecDepth 100000 in
set_option maxHeartbeats 4000000 in
theorem v_Mstep (o : OKs) {G : GX} {d f : Nat} {sw : Bool} {I : Nat → Nat → Int32}  {Q : Option Value → Hp → Prop}
    (hq : if (I 93 65) ≤ (I 93 66) then if (I 93 65) ≤ (I 93 66) then wp G (d + 20) (mt 235) 19 [some (.ref 93), none] [] (147, f, I, RP f sw) Q else ck (ixB (I 93 66) 400) (if (I 140 ((I 93 66).toNatClampNeg)) = 10 then wp G (d + 20) (mt 235) 0 [some (.ref 93), none] [] (147, f, upI I 93 66 ((I 93 66) + 1), RP f sw) Q else wp G (d + 20) (mt 235) 19 [some (.ref 93), none] [] (147, f, I, RP f sw) Q) else ck (ixB (I 93 66) 400) (if (I 140 ((I 93 66).toNatClampNeg)) = 32 then wp G (d + 20) (mt 235) 0 [some (.ref 93), none] [] (147, f, upI I 93 66 ((I 93 66) + 1), RP f sw) Q else if (I 93 65) ≤ (I 93 66) then wp G (d + 20) (mt 235) 19 [some (.ref 93), none] [] (147, f, I, RP f sw) Q else ck (ixB (I 93 66) 400) (if (I 140 ((I 93 66).toNatClampNeg)) = 10 then wp G (d + 20) (mt 235) 0 [some (.ref 93), none] [] (147, f, upI I 93 66 ((I 93 66) + 1), RP f sw) Q else wp G (d + 20) (mt 235) 19 [some (.ref 93), none] [] (147, f, I, RP f sw) Q))) :
    wp G (d + 20) (mt 235) 0 (en (mt 235) [.ref 93]) [] (147, f, I, RP f sw) Q := vc_wp o [(235, 0, [0]), (235, 19, [0]), (235, 38, [0]), (235, 51, [0]), (235, 67, [0]), (235, 80, [0]), (235, 93, [0, 1]), (235, 116, [0])] [236] 600 rfl hq

-- WreckCourtModel.step()V, entry 19
set_option maxRecDepth 100000 in
set_option maxHeartbeats 4000000 in
theorem v_Mstep19 (o : OKs) {G : GX} {d f : Nat} {sw : Bool} {I : Nat → Nat → Int32}  {Q : Option Value → Hp → Prop}
    (hq : if (I 93 65) ≤ (I 93 66) then wp G (d + 20) (mt 235) 116 [some (.ref 93), none] [] (147, f, upI (upI I 93 68 (I 93 66)) 93 67 1, RP f sw) Q else ck (ixB (I 93 66) 400) (if (I 140 ((I 93 66).toNatClampNeg)) = (-1000000) then wp G (d + 20) (mt 235) 116 [some (.ref 93), none] [] (147, f, upI (upI I 93 68 (I 93 66)) 93 67 1, RP f sw) Q else if (I 140 ((I 93 66).toNatClampNeg)) < 97 then if (I 140 ((I 93 66).toNatClampNeg)) < 48 then wp G (d + 20) (mt 235) 93 [some (.ref 93), some (.int (I 140 ((I 93 66).toNatClampNeg)))] [] (147, f, upI I 93 68 (I 93 66), RP f sw) Q else if 57 < (I 140 ((I 93 66).toNatClampNeg)) then wp G (d + 20) (mt 235) 93 [some (.ref 93), some (.int (I 140 ((I 93 66).toNatClampNeg)))] [] (147, f, upI I 93 68 (I 93 66), RP f sw) Q else wp G (d + 20) (mt 235) 67 [some (.ref 93), none] [] (147, f, upI I 93 68 (I 93 66), RP f sw) Q else if 122 < (I 140 ((I 93 66).toNatClampNeg)) then if (I 140 ((I 93 66).toNatClampNeg)) < 48 then wp G (d + 20) (mt 235) 93 [some (.ref 93), some (.int (I 140 ((I 93 66).toNatClampNeg)))] [] (147, f, upI I 93 68 (I 93 66), RP f sw) Q else if 57 < (I 140 ((I 93 66).toNatClampNeg)) then wp G (d + 20) (mt 235) 93 [some (.ref 93), some (.int (I 140 ((I 93 66).toNatClampNeg)))] [] (147, f, upI I 93 68 (I 93 66), RP f sw) Q else wp G (d + 20) (mt 235) 67 [some (.ref 93), none] [] (147, f, upI I 93 68 (I 93 66), RP f sw) Q else wp G (d + 20) (mt 235) 38 [some (.ref 93), none] [] (147, f, upI I 93 68 (I 93 66), RP f sw) Q)) :
    wp G (d + 20) (mt 235) 19 [some (.ref 93), none] [] (147, f, I, RP f sw) Q := vc_wp o [(235, 0, [0]), (235, 19, [0]), (235, 38, [0]), (235, 51, [0]), (235, 67, [0]), (235, 80, [0]), (235, 93, [0, 1]), (235, 116, [0])] [236, 237, 238] 600 rfl hq

-- WreckCourtModel.step()V, entry 38
set_option maxRecDepth 100000 in
set_option maxHeartbeats 4000000 in
theorem v_Mstep38 (o : OKs) {G : GX} {d f : Nat} {sw : Bool} {I : Nat → Nat → Int32}  {Q : Option Value → Hp → Prop}
    (hq : if (I 93 65) ≤ (I 93 66) then wp G (d + 20) (mt 235) 51 [some (.ref 93), none] [] (147, f, I, RP f sw) Q else ck (ixB (I 93 66) 400) (if (I 140 ((I 93 66).toNatClampNeg)) < 97 then wp G (d + 20) (mt 235) 51 [some (.ref 93), none] [] (147, f, I, RP f sw) Q else if 122 < (I 140 ((I 93 66).toNatClampNeg)) then wp G (d + 20) (mt 235) 51 [some (.ref 93), none] [] (147, f, I, RP f sw) Q else wp G (d + 20) (mt 235) 38 [some (.ref 93), none] [] (147, f, upI I 93 66 ((I 93 66) + 1), RP f sw) Q)) :
    wp G (d + 20) (mt 235) 38 [some (.ref 93), none] [] (147, f, I, RP f sw) Q := vc_wp o [(235, 0, [0]), (235, 19, [0]), (235, 38, [0]), (235, 51, [0]), (235, 67, [0]), (235, 80, [0]), (235, 93, [0, 1]), (235, 116, [0])] [236, 237] 600 rfl hq

-- WreckCourtModel.step()V, entry 51
set_option maxRecDepth 100000 in
set_option maxHeartbeats 4000000 in
theorem v_Mstep51 (o : OKs) {G : GX} {d f : Nat} {sw : Bool} {I : Nat → Nat → Int32}  {Q : Option Value → Hp → Prop}
    (hq : if ((I 93 66) - (I 93 68)) ≤ 6 then wp G (d + 20) (mt 235) 116 [some (.ref 93), none] [] (147, f, upI I 93 67 2, RP f sw) Q else wp G (d + 20) (mt 235) 116 [some (.ref 93), none] [] (147, f, upI I 93 67 0, RP f sw) Q) :
    wp G (d + 20) (mt 235) 51 [some (.ref 93), none] [] (147, f, I, RP f sw) Q := vc_wp o [(235, 0, [0]), (235, 19, [0]), (235, 38, [0]), (235, 51, [0]), (235, 67, [0]), (235, 80, [0]), (235, 93, [0, 1]), (235, 116, [0])] [] 600 rfl hq

-- WreckCourtModel.step()V, entry 67
set_option maxRecDepth 100000 in
set_option maxHeartbeats 4000000 in
theorem v_Mstep67 (o : OKs) {G : GX} {d f : Nat} {sw : Bool} {I : Nat → Nat → Int32}  {Q : Option Value → Hp → Prop}
    (hq : if (I 93 65) ≤ (I 93 66) then wp G (d + 20) (mt 235) 80 [some (.ref 93), none] [] (147, f, I, RP f sw) Q else ck (ixB (I 93 66) 400) (if (I 140 ((I 93 66).toNatClampNeg)) < 48 then wp G (d + 20) (mt 235) 80 [some (.ref 93), none] [] (147, f, I, RP f sw) Q else if 57 < (I 140 ((I 93 66).toNatClampNeg)) then wp G (d + 20) (mt 235) 80 [some (.ref 93), none] [] (147, f, I, RP f sw) Q else wp G (d + 20) (mt 235) 67 [some (.ref 93), none] [] (147, f, upI I 93 66 ((I 93 66) + 1), RP f sw) Q)) :
    wp G (d + 20) (mt 235) 67 [some (.ref 93), none] [] (147, f, I, RP f sw) Q := vc_wp o [(235, 0, [0]), (235, 19, [0]), (235, 38, [0]), (235, 51, [0]), (235, 67, [0]), (235, 80, [0]), (235, 93, [0, 1]), (235, 116, [0])] [236, 238] 600 rfl hq

-- WreckCourtModel.step()V, entry 80
set_option maxRecDepth 100000 in
set_option maxHeartbeats 4000000 in
theorem v_Mstep80 (o : OKs) {G : GX} {d f : Nat} {sw : Bool} {I : Nat → Nat → Int32}  {Q : Option Value → Hp → Prop}
    (hq : if ((I 93 66) - (I 93 68)) ≤ 4 then wp G (d + 20) (mt 235) 116 [some (.ref 93), none] [] (147, f, upI I 93 67 3, RP f sw) Q else wp G (d + 20) (mt 235) 116 [some (.ref 93), none] [] (147, f, upI I 93 67 0, RP f sw) Q) :
    wp G (d + 20) (mt 235) 80 [some (.ref 93), none] [] (147, f, I, RP f sw) Q := vc_wp o [(235, 0, [0]), (235, 19, [0]), (235, 38, [0]), (235, 51, [0]), (235, 67, [0]), (235, 80, [0]), (235, 93, [0, 1]), (235, 116, [0])] [] 600 rfl hq

-- WreckCourtModel.step()V, entry 116
set_option maxRecDepth 100000 in
set_option maxHeartbeats 4000000 in
theorem v_Mstep116 (o : OKs) {G : GX} {d f : Nat} {sw : Bool} {I : Nat → Nat → Int32}  {Q : Option Value → Hp → Prop}
    (hq : Q none (147, f, upI I 93 69 (I 93 66), RP f sw)) :
    wp G (d + 20) (mt 235) 116 [some (.ref 93), none] [] (147, f, I, RP f sw) Q := vc_wp o [(235, 0, [0]), (235, 19, [0]), (235, 38, [0]), (235, 51, [0]), (235, 67, [0]), (235, 80, [0]), (235, 93, [0, 1]), (235, 116, [0])] [] 600 rfl hq

-- WreckCourtModel.step()V, entry 93
set_option maxRecDepth 100000 in
set_option maxHeartbeats 4000000 in
theorem v_Mstep93 (o : OKs) {G : GX} {d f : Nat} {sw : Bool} {I : Nat → Nat → Int32} {u1 : Int32} {Q : Option Value → Hp → Prop}
    (hq : if u1 = 59 then wp G (d + 20) (mt 235) 116 [some (.ref 93), none] [] (147, f, upI (upI I 93 66 ((I 93 66) + 1)) 93 67 4, RP f sw) Q else if u1 = 60 then wp G (d + 20) (mt 235) 116 [some (.ref 93), none] [] (147, f, upI (upI I 93 66 ((I 93 66) + 1)) 93 67 4, RP f sw) Q else if u1 = 62 then wp G (d + 20) (mt 235) 116 [some (.ref 93), none] [] (147, f, upI (upI I 93 66 ((I 93 66) + 1)) 93 67 4, RP f sw) Q else if u1 = 61 then wp G (d + 20) (mt 235) 116 [some (.ref 93), none] [] (147, f, upI (upI I 93 66 ((I 93 66) + 1)) 93 67 4, RP f sw) Q else wp G (d + 20) (mt 235) 116 [some (.ref 93), none] [] (147, f, upI (upI I 93 66 ((I 93 66) + 1)) 93 67 0, RP f sw) Q) :
    wp G (d + 20) (mt 235) 93 [some (.ref 93), some (.int u1)] [] (147, f, I, RP f sw) Q := vc_wp o [(235, 0, [0]), (235, 19, [0]), (235, 38, [0]), (235, 51, [0]), (235, 67, [0]), (235, 80, [0]), (235, 93, [0, 1]), (235, 116, [0])] [] 600 rfl hq

-- WreckCourtModel.word()J, entry 0
set_option maxRecDepth 100000 in
set_option maxHeartbeats 4000000 in
theorem v_Mword (o : OKs) {G : GX} {d f : Nat} {sw : Bool} {I : Nat → Nat → Int32}  {Q : Option Value → Hp → Prop}
    (hq : wp G (d + 20) (mt 240) 5 [some (.ref 93), some (.long 0), none, some (.int (I 93 68))] [] (147, f, I, RP f sw) Q) :
    wp G (d + 20) (mt 240) 0 (en (mt 240) [.ref 93]) [] (147, f, I, RP f sw) Q := vc_wp o [(240, 5, [0, 1, 3])] [] 600 rfl hq

-- WreckCourtModel.word()J, entry 5
set_option maxRecDepth 100000 in
set_option maxHeartbeats 4000000 in
theorem v_Mword5 (o : OKs) {G : GX} {d f : Nat} {sw : Bool} {I : Nat → Nat → Int32} {L : Int64} {k : Int32} {Q : Option Value → Hp → Prop}
    (hq : if (I 93 69) ≤ k then Q (some (.long L)) (147, f, I, RP f sw) else if (I 93 67) = 2 then ck (ixB k 400) (wp G (d + 20) (mt 240) 5 [some (.ref 93), some (.long ((L <<< ((8 : Int32).toInt64 &&& 63)) ||| (I 140 k.toNatClampNeg).toInt64)), none, some (.int (k + Int32.ofInt 1))] [] (147, f, I, RP f sw) Q) else Q (some (.long L)) (147, f, I, RP f sw)) :
    wp G (d + 20) (mt 240) 5 [some (.ref 93), some (.long L), none, some (.int k)] [] (147, f, I, RP f sw) Q := vc_wp o [(240, 5, [0, 1, 3])] [] 600 rfl hq

-- WreckCourtModel.need(Z)V, entry 0
set_option maxRecDepth 100000 in
set_option maxHeartbeats 4000000 in
theorem v_Mneed (o : OKs) {G : GX} {d f : Nat} {sw : Bool} {I : Nat → Nat → Int32} {b : Int32} {Q : Option Value → Hp → Prop}
    (hq : if b = 0 then if (I 93 70) = 0 then wp G (d + 40) (mt 242) 5 [some (.ref 93), none] [] (147, f, upI (upI I 93 70 1) 93 71 (I 93 68), RP f sw) Q else wp G (d + 40) (mt 242) 5 [some (.ref 93), none] [] (147, f, I, RP f sw) Q else wp G (d + 40) (mt 242) 5 [some (.ref 93), none] [] (147, f, I, RP f sw) Q) :
    wp G (d + 40) (mt 242) 0 (en (mt 242) [.ref 93, .int b]) [] (147, f, I, RP f sw) Q := vc_wp o [(242, 5, [0])] [241] 600 rfl hq

-- WreckCourtModel.need(Z)V, entry 5
set_option maxRecDepth 100000 in
set_option maxHeartbeats 4000000 in
theorem v_Mneed5 (o : OKs) {G : GX} {d f : Nat} {sw : Bool} {I : Nat → Nat → Int32}  {Q : Option Value → Hp → Prop}
    (hq : if (I 93 70) = 0 then wp G (d + 39) (mt 235) 0 (en (mt 235) [.ref 93]) [] (147, f, I, RP f sw) (fun v h1 => ∃ I1 : Nat → Nat → Int32, v = none ∧ h1 = (147, f, I1, RP f sw) ∧ (Q none (147, f, I1, RP f sw))) else Q none (147, f, I, RP f sw)) :
    wp G (d + 40) (mt 242) 5 [some (.ref 93), none] [] (147, f, I, RP f sw) Q := vc_wp o [] [] 600 rfl hq

-- WreckCourtModel.readTest(I)V, entry 0
set_option maxRecDepth 100000 in
set_option maxHeartbeats 4000000 in
theorem v_MrdT (o : OKs) {G : GX} {d f : Nat} {sw : Bool} {I : Nat → Nat → Int32} {n : Int32} {Q : Option Value → Hp → Prop}
    (hq : wp G (d + 59) (mt 240) 0 (en (mt 240) [.ref 93]) [] (147, f, I, RP f sw) (fun v h1 => ∃ (x2 : Int64) (I1 : Nat → Nat → Int32), v = some (.long x2) ∧ h1 = (147, f, I1, RP f sw) ∧ (if lg_cmp x2 495806932324 = 0 then wp G (d + 60) (mt 243) 43 [some (.ref 93), none, some (.int ((9 * (I 93 58)) + (3 * n))), none, none, none, none, none] [.int 0] (147, f, I1, RP f sw) Q else if lg_cmp x2 1852137842 = 0 then wp G (d + 60) (mt 243) 43 [some (.ref 93), none, some (.int ((9 * (I 93 58)) + (3 * n))), none, none, none, none, none] [.int 1] (147, f, I1, RP f sw) Q else if lg_cmp x2 6713191 = 0 then wp G (d + 60) (mt 243) 43 [some (.ref 93), none, some (.int ((9 * (I 93 58)) + (3 * n))), none, none, none, none, none] [.int 2] (147, f, I1, RP f sw) Q else if lg_cmp x2 474214787188 = 0 then wp G (d + 60) (mt 243) 43 [some (.ref 93), none, some (.int ((9 * (I 93 58)) + (3 * n))), none, none, none, none, none] [.int 3] (147, f, I1, RP f sw) Q else if lg_cmp x2 512736126322 = 0 then wp G (d + 60) (mt 243) 43 [some (.ref 93), none, some (.int ((9 * (I 93 58)) + (3 * n))), none, none, none, none, none] [.int 4] (147, f, I1, RP f sw) Q else wp G (d + 60) (mt 243) 43 [some (.ref 93), none, some (.int ((9 * (I 93 58)) + (3 * n))), none, none, none, none, none] [.int (-1000000)] (147, f, I1, RP f sw) Q))) :
    wp G (d + 60) (mt 243) 0 (en (mt 243) [.ref 93, .int n]) [] (147, f, I, RP f sw) Q := vc_wp o [(243, 43, [0, 2]), (243, 57, [0, 2]), (243, 75, [0, 2]), (243, 94, [0, 2]), (243, 99, [0, 2, 6, 7]), (243, 120, [0, 2, 6])] [] 600 rfl hq

-- WreckCourtModel.readTest(I)V, entry 43
set_option maxRecDepth 100000 in
set_option maxHeartbeats 4000000 in
theorem v_MrdT43 (o : OKs) {G : GX} {d f : Nat} {sw : Bool} {I : Nat → Nat → Int32} {u2 : Int32} {y : Int32} {Q : Option Value → Hp → Prop}
    (hq : ck (ixB u2 90) (if y = (-1000000) then wp G (d + 59) (mt 242) 0 (en (mt 242) [.ref 93, .int 0]) [] (147, f, upI I 138 u2.toNatClampNeg y, RP f sw) (fun v h1 => ∃ I1 : Nat → Nat → Int32, v = none ∧ h1 = (147, f, I1, RP f sw) ∧ (wp G (d + 60) (mt 243) 57 [some (.ref 93), none, some (.int u2), none, none, none, none, none] [] (147, f, I1, RP f sw) Q)) else wp G (d + 59) (mt 242) 0 (en (mt 242) [.ref 93, .int 1]) [] (147, f, upI I 138 u2.toNatClampNeg y, RP f sw) (fun v h1 => ∃ I2 : Nat → Nat → Int32, v = none ∧ h1 = (147, f, I2, RP f sw) ∧ (wp G (d + 60) (mt 243) 57 [some (.ref 93), none, some (.int u2), none, none, none, none, none] [] (147, f, I2, RP f sw) Q)))) :
    wp G (d + 60) (mt 243) 43 [some (.ref 93), none, some (.int u2), none, none, none, none, none] [.int y] (147, f, I, RP f sw) Q := vc_wp o [(243, 43, [0, 2]), (243, 57, [0, 2]), (243, 75, [0, 2]), (243, 94, [0, 2]), (243, 99, [0, 2, 6, 7]), (243, 120, [0, 2, 6])] [] 600 rfl hq

-- WreckCourtModel.readTest(I)V, entry 75
set_option maxRecDepth 100000 in
set_option maxHeartbeats 4000000 in
theorem v_MrdT75 (o : OKs) {G : GX} {d f : Nat} {sw : Bool} {I : Nat → Nat → Int32} {u2 : Int32} {y : Int32} {Q : Option Value → Hp → Prop}
    (hq : if y = 0 then ck (ixB (u2 + 1) 90) (wp G (d + 59) (mt 242) 0 (en (mt 242) [.ref 93, .int y]) [] (147, f, upI I 138 ((u2 + 1).toNatClampNeg) 0, RP f sw) (fun v h1 => ∃ I1 : Nat → Nat → Int32, v = none ∧ h1 = (147, f, I1, RP f sw) ∧ (wp G (d + 60) (mt 243) 94 [some (.ref 93), none, some (.int u2), none, none, none, none, none] [] (147, f, I1, RP f sw) Q))) else ck (ixB (I 93 68) 400) (ck (ixB (u2 + 1) 90) (wp G (d + 59) (mt 242) 0 (en (mt 242) [.ref 93, .int y]) [] (147, f, upI I 138 ((u2 + 1).toNatClampNeg) (I 140 ((I 93 68).toNatClampNeg)), RP f sw) (fun v h1 => ∃ I2 : Nat → Nat → Int32, v = none ∧ h1 = (147, f, I2, RP f sw) ∧ (wp G (d + 60) (mt 243) 94 [some (.ref 93), none, some (.int u2), none, none, none, none, none] [] (147, f, I2, RP f sw) Q))))) :
    wp G (d + 60) (mt 243) 75 [some (.ref 93), none, some (.int u2), none, none, none, none, none] [.int y] (147, f, I, RP f sw) Q := vc_wp o [(243, 43, [0, 2]), (243, 57, [0, 2]), (243, 75, [0, 2]), (243, 94, [0, 2]), (243, 99, [0, 2, 6, 7]), (243, 120, [0, 2, 6])] [] 600 rfl hq

-- WreckCourtModel.readTest(I)V, entry 57
set_option maxRecDepth 100000 in
set_option maxHeartbeats 4000000 in
theorem v_MrdT57 (o : OKs) {G : GX} {d f : Nat} {sw : Bool} {I : Nat → Nat → Int32} {u2 : Int32} {Q : Option Value → Hp → Prop}
    (hq : if (I 93 70) = 0 then if (I 93 67) = 4 then ck (ixB (I 93 68) 400) (if (I 140 ((I 93 68).toNatClampNeg)) = 60 then wp G (d + 60) (mt 243) 75 [some (.ref 93), none, some (.int u2), none, none, none, none, none] [.int 1] (147, f, I, RP f sw) Q else if (I 93 67) = 4 then ck (ixB (I 93 68) 400) (if (I 140 ((I 93 68).toNatClampNeg)) = 62 then wp G (d + 60) (mt 243) 75 [some (.ref 93), none, some (.int u2), none, none, none, none, none] [.int 1] (147, f, I, RP f sw) Q else if (I 93 67) = 4 then ck (ixB (I 93 68) 400) (if (I 140 ((I 93 68).toNatClampNeg)) = 61 then wp G (d + 60) (mt 243) 75 [some (.ref 93), none, some (.int u2), none, none, none, none, none] [.int 1] (147, f, I, RP f sw) Q else wp G (d + 60) (mt 243) 75 [some (.ref 93), none, some (.int u2), none, none, none, none, none] [.int 0] (147, f, I, RP f sw) Q) else wp G (d + 60) (mt 243) 75 [some (.ref 93), none, some (.int u2), none, none, none, none, none] [.int 0] (147, f, I, RP f sw) Q) else if (I 93 67) = 4 then ck (ixB (I 93 68) 400) (if (I 140 ((I 93 68).toNatClampNeg)) = 61 then wp G (d + 60) (mt 243) 75 [some (.ref 93), none, some (.int u2), none, none, none, none, none] [.int 1] (147, f, I, RP f sw) Q else wp G (d + 60) (mt 243) 75 [some (.ref 93), none, some (.int u2), none, none, none, none, none] [.int 0] (147, f, I, RP f sw) Q) else wp G (d + 60) (mt 243) 75 [some (.ref 93), none, some (.int u2), none, none, none, none, none] [.int 0] (147, f, I, RP f sw) Q) else if (I 93 67) = 4 then ck (ixB (I 93 68) 400) (if (I 140 ((I 93 68).toNatClampNeg)) = 62 then wp G (d + 60) (mt 243) 75 [some (.ref 93), none, some (.int u2), none, none, none, none, none] [.int 1] (147, f, I, RP f sw) Q else if (I 93 67) = 4 then ck (ixB (I 93 68) 400) (if (I 140 ((I 93 68).toNatClampNeg)) = 61 then wp G (d + 60) (mt 243) 75 [some (.ref 93), none, some (.int u2), none, none, none, none, none] [.int 1] (147, f, I, RP f sw) Q else wp G (d + 60) (mt 243) 75 [some (.ref 93), none, some (.int u2), none, none, none, none, none] [.int 0] (147, f, I, RP f sw) Q) else wp G (d + 60) (mt 243) 75 [some (.ref 93), none, some (.int u2), none, none, none, none, none] [.int 0] (147, f, I, RP f sw) Q) else if (I 93 67) = 4 then ck (ixB (I 93 68) 400) (if (I 140 ((I 93 68).toNatClampNeg)) = 61 then wp G (d + 60) (mt 243) 75 [some (.ref 93), none, some (.int u2), none, none, none, none, none] [.int 1] (147, f, I, RP f sw) Q else wp G (d + 60) (mt 243) 75 [some (.ref 93), none, some (.int u2), none, none, none, none, none] [.int 0] (147, f, I, RP f sw) Q) else wp G (d + 60) (mt 243) 75 [some (.ref 93), none, some (.int u2), none, none, none, none, none] [.int 0] (147, f, I, RP f sw) Q else wp G (d + 60) (mt 243) 94 [some (.ref 93), none, some (.int u2), none, none, none, none, none] [] (147, f, I, RP f sw) Q) :
    wp G (d + 60) (mt 243) 57 [some (.ref 93), none, some (.int u2), none, none, none, none, none] [] (147, f, I, RP f sw) Q := vc_wp o [(243, 43, [0, 2]), (243, 57, [0, 2]), (243, 75, [0, 2]), (243, 94, [0, 2]), (243, 99, [0, 2, 6, 7]), (243, 120, [0, 2, 6])] [244] 600 rfl hq

-- WreckCourtModel.readTest(I)V, entry 94
set_option maxRecDepth 100000 in
set_option maxHeartbeats 4000000 in
theorem v_MrdT94 (o : OKs) {G : GX} {d f : Nat} {sw : Bool} {I : Nat → Nat → Int32} {u2 : Int32} {Q : Option Value → Hp → Prop}
    (hq : wp G (d + 60) (mt 243) 99 [some (.ref 93), none, some (.int u2), none, none, none, some (.int 0), some (.int (I 93 68))] [] (147, f, I, RP f sw) Q) :
    wp G (d + 60) (mt 243) 94 [some (.ref 93), none, some (.int u2), none, none, none, none, none] [] (147, f, I, RP f sw) Q := vc_wp o [(243, 43, [0, 2]), (243, 57, [0, 2]), (243, 75, [0, 2]), (243, 94, [0, 2]), (243, 99, [0, 2, 6, 7]), (243, 120, [0, 2, 6])] [] 600 rfl hq

-- WreckCourtModel.readTest(I)V, entry 99
set_option maxRecDepth 100000 in
set_option maxHeartbeats 4000000 in
theorem v_MrdT99 (o : OKs) {G : GX} {d f : Nat} {sw : Bool} {I : Nat → Nat → Int32} {u2 : Int32} {u6 : Int32} {u7 : Int32} {Q : Option Value → Hp → Prop}
    (hq : if (I 93 69) ≤ u7 then wp G (d + 60) (mt 243) 120 [some (.ref 93), none, some (.int u2), none, none, none, some (.int u6), none] [] (147, f, I, RP f sw) Q else if (I 93 67) = 3 then ck (ixB u7 400) (wp G (d + 60) (mt 243) 99 [some (.ref 93), none, some (.int u2), none, none, none, some (.int (((10 * u6) + (I 140 u7.toNatClampNeg)) - 48)), some (.int (u7 + Int32.ofInt 1))] [] (147, f, I, RP f sw) Q) else wp G (d + 60) (mt 243) 120 [some (.ref 93), none, some (.int u2), none, none, none, some (.int u6), none] [] (147, f, I, RP f sw) Q) :
    wp G (d + 60) (mt 243) 99 [some (.ref 93), none, some (.int u2), none, none, none, some (.int u6), some (.int u7)] [] (147, f, I, RP f sw) Q := vc_wp o [(243, 43, [0, 2]), (243, 57, [0, 2]), (243, 75, [0, 2]), (243, 94, [0, 2]), (243, 99, [0, 2, 6, 7]), (243, 120, [0, 2, 6])] [] 600 rfl hq

-- WreckCourtModel.readTest(I)V, entry 120
set_option maxRecDepth 100000 in
set_option maxHeartbeats 4000000 in
theorem v_MrdT120 (o : OKs) {G : GX} {d f : Nat} {sw : Bool} {I : Nat → Nat → Int32} {u2 : Int32} {u6 : Int32} {Q : Option Value → Hp → Prop}
    (hq : ck (ixB (u2 + 2) 90) (if (I 93 70) = 0 then if (I 93 67) = 3 then wp G (d + 59) (mt 242) 0 (en (mt 242) [.ref 93, .int 1]) [] (147, f, upI I 138 ((u2 + 2).toNatClampNeg) u6, RP f sw) (fun v h1 => ∃ I2 : Nat → Nat → Int32, v = none ∧ h1 = (147, f, I2, RP f sw) ∧ (Q none (147, f, I2, RP f sw))) else wp G (d + 59) (mt 242) 0 (en (mt 242) [.ref 93, .int 0]) [] (147, f, upI I 138 ((u2 + 2).toNatClampNeg) u6, RP f sw) (fun v h1 => ∃ I1 : Nat → Nat → Int32, v = none ∧ h1 = (147, f, I1, RP f sw) ∧ (Q none (147, f, I1, RP f sw))) else Q none (147, f, upI I 138 ((u2 + 2).toNatClampNeg) u6, RP f sw))) :
    wp G (d + 60) (mt 243) 120 [some (.ref 93), none, some (.int u2), none, none, none, some (.int u6), none] [] (147, f, I, RP f sw) Q := vc_wp o [(243, 43, [0, 2]), (243, 57, [0, 2]), (243, 75, [0, 2]), (243, 94, [0, 2]), (243, 99, [0, 2, 6, 7]), (243, 120, [0, 2, 6])] [] 600 rfl hq

-- WreckCourtModel.readRule()V, entry 0
set_option maxRecDepth 100000 in
set_option maxHeartbeats 4000000 in
theorem v_MrdR (o : OKs) {G : GX} {d f : Nat} {sw : Bool} {I : Nat → Nat → Int32}  {Q : Option Value → Hp → Prop}
    (hq : wp G (d + 79) (mt 240) 0 (en (mt 240) [.ref 93]) [] (147, f, I, RP f sw) (fun v h1 => ∃ (x2 : Int64) (I1 : Nat → Nat → Int32), v = some (.long x2) ∧ h1 = (147, f, I1, RP f sw) ∧ (if lg_cmp x2 26982 = 0 then if (I1 93 58) = 10 then if (I1 93 70) = 0 then wp G (d + 80) (mt 239) 12 [some (.ref 93), none, none, none, none] [] (147, f, upI (upI I1 93 70 3) 93 71 (I1 93 68), RP f sw) Q else wp G (d + 80) (mt 239) 12 [some (.ref 93), none, none, none, none] [] (147, f, I1, RP f sw) Q else wp G (d + 80) (mt 239) 12 [some (.ref 93), none, none, none, none] [] (147, f, I1, RP f sw) Q else wp G (d + 80) (mt 239) 12 [some (.ref 93), none, none, none, none] [] (147, f, I1, RP f sw) Q))) :
    wp G (d + 80) (mt 239) 0 (en (mt 239) [.ref 93]) [] (147, f, I, RP f sw) Q := vc_wp o [(239, 12, [0]), (239, 22, [0]), (239, 32, [0, 1]), (239, 54, [0, 1]), (239, 67, [0, 1]), (239, 98, [0, 1]), (239, 119, [0])] [241] 600 rfl hq

-- WreckCourtModel.readRule()V, entry 12
set_option maxRecDepth 100000 in
set_option maxHeartbeats 4000000 in
theorem v_MrdR12 (o : OKs) {G : GX} {d f : Nat} {sw : Bool} {I : Nat → Nat → Int32}  {Q : Option Value → Hp → Prop}
    (hq : wp G (d + 79) (mt 240) 0 (en (mt 240) [.ref 93]) [] (147, f, I, RP f sw) (fun v h1 => ∃ (x2 : Int64) (I1 : Nat → Nat → Int32), v = some (.long x2) ∧ h1 = (147, f, I1, RP f sw) ∧ (if lg_cmp x2 26982 = 0 then wp G (d + 79) (mt 242) 0 (en (mt 242) [.ref 93, .int 1]) [] (147, f, I1, RP f sw) (fun v h1 => ∃ I4 : Nat → Nat → Int32, v = none ∧ h1 = (147, f, I4, RP f sw) ∧ (wp G (d + 80) (mt 239) 22 [some (.ref 93), none, none, none, none] [] (147, f, I4, RP f sw) Q)) else wp G (d + 79) (mt 242) 0 (en (mt 242) [.ref 93, .int 0]) [] (147, f, I1, RP f sw) (fun v h1 => ∃ I3 : Nat → Nat → Int32, v = none ∧ h1 = (147, f, I3, RP f sw) ∧ (wp G (d + 80) (mt 239) 22 [some (.ref 93), none, none, none, none] [] (147, f, I3, RP f sw) Q))))) :
    wp G (d + 80) (mt 239) 12 [some (.ref 93), none, none, none, none] [] (147, f, I, RP f sw) Q := vc_wp o [(239, 12, [0]), (239, 22, [0]), (239, 32, [0, 1]), (239, 54, [0, 1]), (239, 67, [0, 1]), (239, 98, [0, 1]), (239, 119, [0])] [] 600 rfl hq

-- WreckCourtModel.readRule()V, entry 22
set_option maxRecDepth 100000 in
set_option maxHeartbeats 4000000 in
theorem v_MrdR22 (o : OKs) {G : GX} {d f : Nat} {sw : Bool} {I : Nat → Nat → Int32}  {Q : Option Value → Hp → Prop}
    (hq : if (I 93 70) = 0 then wp G (d + 79) (mt 243) 0 (en (mt 243) [.ref 93, .int 0]) [] (147, f, I, RP f sw) (fun v h1 => ∃ I1 : Nat → Nat → Int32, v = none ∧ h1 = (147, f, I1, RP f sw) ∧ (wp G (d + 80) (mt 239) 32 [some (.ref 93), some (.int 1), none, none, none] [] (147, f, I1, RP f sw) Q)) else wp G (d + 80) (mt 239) 32 [some (.ref 93), some (.int 0), none, none, none] [] (147, f, I, RP f sw) Q) :
    wp G (d + 80) (mt 239) 22 [some (.ref 93), none, none, none, none] [] (147, f, I, RP f sw) Q := vc_wp o [(239, 12, [0]), (239, 22, [0]), (239, 32, [0, 1]), (239, 54, [0, 1]), (239, 67, [0, 1]), (239, 98, [0, 1]), (239, 119, [0])] [] 600 rfl hq

-- WreckCourtModel.readRule()V, entry 32
set_option maxRecDepth 100000 in
set_option maxHeartbeats 4000000 in
theorem v_MrdR32 (o : OKs) {G : GX} {d f : Nat} {sw : Bool} {I : Nat → Nat → Int32} {u1 : Int32} {Q : Option Value → Hp → Prop}
    (hq : if (I 93 70) = 0 then wp G (d + 79) (mt 240) 0 (en (mt 240) [.ref 93]) [] (147, f, I, RP f sw) (fun v h1 => ∃ (x2 : Int64) (I1 : Nat → Nat → Int32), v = some (.long x2) ∧ h1 = (147, f, I1, RP f sw) ∧ (if lg_cmp x2 6385252 = 0 then if u1 = 3 then if (I1 93 70) = 0 then wp G (d + 80) (mt 239) 32 [some (.ref 93), some (.int u1), none, none, none] [] (147, f, upI (upI I1 93 70 2) 93 71 (I1 93 68), RP f sw) Q else wp G (d + 80) (mt 239) 32 [some (.ref 93), some (.int u1), none, none, none] [] (147, f, I1, RP f sw) Q else wp G (d + 79) (mt 235) 0 (en (mt 235) [.ref 93]) [] (147, f, I1, RP f sw) (fun v h1 => ∃ I3 : Nat → Nat → Int32, v = none ∧ h1 = (147, f, I3, RP f sw) ∧ (wp G (d + 79) (mt 243) 0 (en (mt 243) [.ref 93, .int u1]) [] (147, f, I3, RP f sw) (fun v h1 => ∃ I4 : Nat → Nat → Int32, v = none ∧ h1 = (147, f, I4, RP f sw) ∧ (wp G (d + 80) (mt 239) 32 [some (.ref 93), some (.int (u1 + Int32.ofInt 1)), none, none, none] [] (147, f, I4, RP f sw) Q)))) else wp G (d + 80) (mt 239) 54 [some (.ref 93), some (.int u1), none, none, none] [] (147, f, I1, RP f sw) Q)) else wp G (d + 80) (mt 239) 54 [some (.ref 93), some (.int u1), none, none, none] [] (147, f, I, RP f sw) Q) :
    wp G (d + 80) (mt 239) 32 [some (.ref 93), some (.int u1), none, none, none] [] (147, f, I, RP f sw) Q := vc_wp o [(239, 12, [0]), (239, 22, [0]), (239, 32, [0, 1]), (239, 54, [0, 1]), (239, 67, [0, 1]), (239, 98, [0, 1]), (239, 119, [0])] [241] 600 rfl hq

-- WreckCourtModel.readRule()V, entry 54
set_option maxRecDepth 100000 in
set_option maxHeartbeats 4000000 in
theorem v_MrdR54 (o : OKs) {G : GX} {d f : Nat} {sw : Bool} {I : Nat → Nat → Int32} {u1 : Int32} {Q : Option Value → Hp → Prop}
    (hq : if (I 93 70) = 0 then wp G (d + 79) (mt 240) 0 (en (mt 240) [.ref 93]) [] (147, f, I, RP f sw) (fun v h1 => ∃ (x2 : Int64) (I1 : Nat → Nat → Int32), v = some (.long x2) ∧ h1 = (147, f, I1, RP f sw) ∧ (if lg_cmp x2 1836413812 = 0 then wp G (d + 79) (mt 242) 0 (en (mt 242) [.ref 93, .int 1]) [] (147, f, I1, RP f sw) (fun v h1 => ∃ I4 : Nat → Nat → Int32, v = none ∧ h1 = (147, f, I4, RP f sw) ∧ (wp G (d + 80) (mt 239) 67 [some (.ref 93), some (.int u1), none, none, none] [] (147, f, I4, RP f sw) Q)) else wp G (d + 79) (mt 242) 0 (en (mt 242) [.ref 93, .int 0]) [] (147, f, I1, RP f sw) (fun v h1 => ∃ I3 : Nat → Nat → Int32, v = none ∧ h1 = (147, f, I3, RP f sw) ∧ (wp G (d + 80) (mt 239) 67 [some (.ref 93), some (.int u1), none, none, none] [] (147, f, I3, RP f sw) Q)))) else wp G (d + 80) (mt 239) 67 [some (.ref 93), some (.int u1), none, none, none] [] (147, f, I, RP f sw) Q) :
    wp G (d + 80) (mt 239) 54 [some (.ref 93), some (.int u1), none, none, none] [] (147, f, I, RP f sw) Q := vc_wp o [(239, 12, [0]), (239, 22, [0]), (239, 32, [0, 1]), (239, 54, [0, 1]), (239, 67, [0, 1]), (239, 98, [0, 1]), (239, 119, [0])] [] 600 rfl hq

-- WreckCourtModel.readRule()V, entry 67
set_option maxRecDepth 100000 in
set_option maxHeartbeats 4000000 in
theorem v_MrdR67 (o : OKs) {G : GX} {d f : Nat} {sw : Bool} {I : Nat → Nat → Int32} {u1 : Int32} {Q : Option Value → Hp → Prop}
    (hq : if (I 93 70) = 0 then wp G (d + 79) (mt 240) 0 (en (mt 240) [.ref 93]) [] (147, f, I, RP f sw) (fun v h1 => ∃ (x2 : Int64) (I1 : Nat → Nat → Int32), v = some (.long x2) ∧ h1 = (147, f, I1, RP f sw) ∧ (if lg_cmp x2 1936486263 = 0 then wp G (d + 80) (mt 239) 98 [some (.ref 93), some (.int u1), none, none, none] [.int 0] (147, f, I1, RP f sw) Q else if lg_cmp x2 495791205988 = 0 then wp G (d + 80) (mt 239) 98 [some (.ref 93), some (.int u1), none, none, none] [.int 1] (147, f, I1, RP f sw) Q else if lg_cmp x2 465624852596 = 0 then wp G (d + 80) (mt 239) 98 [some (.ref 93), some (.int u1), none, none, none] [.int 2] (147, f, I1, RP f sw) Q else if lg_cmp x2 1953854062 = 0 then wp G (d + 80) (mt 239) 98 [some (.ref 93), some (.int u1), none, none, none] [.int 3] (147, f, I1, RP f sw) Q else wp G (d + 80) (mt 239) 98 [some (.ref 93), some (.int u1), none, none, none] [.int (-1000000)] (147, f, I1, RP f sw) Q)) else wp G (d + 80) (mt 239) 119 [some (.ref 93), none, none, none, none] [] (147, f, I, RP f sw) Q) :
    wp G (d + 80) (mt 239) 67 [some (.ref 93), some (.int u1), none, none, none] [] (147, f, I, RP f sw) Q := vc_wp o [(239, 12, [0]), (239, 22, [0]), (239, 32, [0, 1]), (239, 54, [0, 1]), (239, 67, [0, 1]), (239, 98, [0, 1]), (239, 119, [0])] [] 600 rfl hq

-- WreckCourtModel.readRule()V, entry 119
set_option maxRecDepth 100000 in
set_option maxHeartbeats 4000000 in
theorem v_MrdR119 (o : OKs) {G : GX} {d f : Nat} {sw : Bool} {I : Nat → Nat → Int32}  {Q : Option Value → Hp → Prop}
    (hq : if (I 93 70) = 0 then if (I 93 67) = 4 then ck (ixB (I 93 68) 400) (if (I 140 ((I 93 68).toNatClampNeg)) = 59 then wp G (d + 79) (mt 242) 0 (en (mt 242) [.ref 93, .int 1]) [] (147, f, I, RP f sw) (fun v h1 => ∃ I3 : Nat → Nat → Int32, v = none ∧ h1 = (147, f, I3, RP f sw) ∧ (Q none (147, f, upI I3 93 58 ((I3 93 58) + 1), RP f sw))) else wp G (d + 79) (mt 242) 0 (en (mt 242) [.ref 93, .int 0]) [] (147, f, I, RP f sw) (fun v h1 => ∃ I2 : Nat → Nat → Int32, v = none ∧ h1 = (147, f, I2, RP f sw) ∧ (Q none (147, f, upI I2 93 58 ((I2 93 58) + 1), RP f sw)))) else wp G (d + 79) (mt 242) 0 (en (mt 242) [.ref 93, .int 0]) [] (147, f, I, RP f sw) (fun v h1 => ∃ I1 : Nat → Nat → Int32, v = none ∧ h1 = (147, f, I1, RP f sw) ∧ (Q none (147, f, upI I1 93 58 ((I1 93 58) + 1), RP f sw))) else Q none (147, f, I, RP f sw)) :
    wp G (d + 80) (mt 239) 119 [some (.ref 93), none, none, none, none] [] (147, f, I, RP f sw) Q := vc_wp o [(239, 12, [0]), (239, 22, [0]), (239, 32, [0, 1]), (239, 54, [0, 1]), (239, 67, [0, 1]), (239, 98, [0, 1]), (239, 119, [0])] [244] 600 rfl hq

-- WreckCourtModel.readRule()V, entry 98
set_option maxRecDepth 100000 in
set_option maxHeartbeats 4000000 in
theorem v_MrdR98 (o : OKs) {G : GX} {d f : Nat} {sw : Bool} {I : Nat → Nat → Int32} {u1 : Int32} {y : Int32} {Q : Option Value → Hp → Prop}
    (hq : ck (ixB (I 93 58) 10) (ck (ixB (I 93 58) 10) (if y = (-1000000) then wp G (d + 79) (mt 242) 0 (en (mt 242) [.ref 93, .int 0]) [] (147, f, upI (upI I 139 ((I 93 58).toNatClampNeg) y) 137 ((I 93 58).toNatClampNeg) u1, RP f sw) (fun v h1 => ∃ I1 : Nat → Nat → Int32, v = none ∧ h1 = (147, f, I1, RP f sw) ∧ (wp G (d + 80) (mt 239) 119 [some (.ref 93), none, none, none, none] [] (147, f, I1, RP f sw) Q)) else wp G (d + 79) (mt 242) 0 (en (mt 242) [.ref 93, .int 1]) [] (147, f, upI (upI I 139 ((I 93 58).toNatClampNeg) y) 137 ((I 93 58).toNatClampNeg) u1, RP f sw) (fun v h1 => ∃ I2 : Nat → Nat → Int32, v = none ∧ h1 = (147, f, I2, RP f sw) ∧ (wp G (d + 80) (mt 239) 119 [some (.ref 93), none, none, none, none] [] (147, f, I2, RP f sw) Q))))) :
    wp G (d + 80) (mt 239) 98 [some (.ref 93), some (.int u1), none, none, none] [.int y] (147, f, I, RP f sw) Q := vc_wp o [(239, 12, [0]), (239, 22, [0]), (239, 32, [0, 1]), (239, 54, [0, 1]), (239, 67, [0, 1]), (239, 98, [0, 1]), (239, 119, [0])] [] 600 rfl hq

-- WreckCourtModel.rules()I, entry 0
set_option maxRecDepth 100000 in
set_option maxHeartbeats 4000000 in
theorem v_Mrules (o : OKs) {G : GX} {d f : Nat} {sw : Bool} {I : Nat → Nat → Int32}  {Q : Option Value → Hp → Prop}
    (hq : wp G (d + 119) (mt 235) 0 (en (mt 235) [.ref 93]) [] (147, f, upI (upI (upI (upI (upI (upI I 93 0 0) 93 65 (I 93 63)) 93 63 0) 93 66 0) 93 70 0) 93 58 0, RP f sw) (fun v h1 => ∃ I1 : Nat → Nat → Int32, v = none ∧ h1 = (147, f, I1, RP f sw) ∧ (wp G (d + 120) (mt 234) 21 [some (.ref 93), none, none] [] (147, f, I1, RP f sw) Q))) :
    wp G (d + 120) (mt 234) 0 (en (mt 234) [.ref 93]) [] (147, f, I, RP f sw) Q := vc_wp o [(234, 21, [0]), (234, 31, [0]), (234, 49, [0, 1]), (234, 70, [0, 1, 2])] [] 600 rfl hq

-- WreckCourtModel.rules()I, entry 21
set_option maxRecDepth 100000 in
set_option maxHeartbeats 4000000 in
theorem v_Mrules21 (o : OKs) {G : GX} {d f : Nat} {sw : Bool} {I : Nat → Nat → Int32}  {Q : Option Value → Hp → Prop}
    (hq : if (I 93 70) = 0 then if (I 93 67) = 1 then wp G (d + 120) (mt 234) 31 [some (.ref 93), none, none] [] (147, f, I, RP f sw) Q else wp G (d + 119) (mt 239) 0 (en (mt 239) [.ref 93]) [] (147, f, I, RP f sw) (fun v h1 => ∃ I1 : Nat → Nat → Int32, v = none ∧ h1 = (147, f, I1, RP f sw) ∧ (wp G (d + 120) (mt 234) 21 [some (.ref 93), none, none] [] (147, f, I1, RP f sw) Q)) else wp G (d + 120) (mt 234) 31 [some (.ref 93), none, none] [] (147, f, I, RP f sw) Q) :
    wp G (d + 120) (mt 234) 21 [some (.ref 93), none, none] [] (147, f, I, RP f sw) Q := vc_wp o [(234, 21, [0]), (234, 31, [0]), (234, 49, [0, 1]), (234, 70, [0, 1, 2])] [] 600 rfl hq

-- WreckCourtModel.rules()I, entry 31
set_option maxRecDepth 100000 in
set_option maxHeartbeats 4000000 in
theorem v_Mrules31 (o : OKs) {G : GX} {d f : Nat} {sw : Bool} {I : Nat → Nat → Int32}  {Q : Option Value → Hp → Prop}
    (hq : if (I 93 70) ≤ 0 then wp G (d + 120) (mt 234) 49 [some (.ref 93), some (.int 0), none] [] (147, f, upI I 93 54 (I 93 58), RP f sw) Q else Q (some (.int ((-1000100) - (I 93 71)))) (147, f, upI I 93 64 (I 93 70), RP f sw)) :
    wp G (d + 120) (mt 234) 31 [some (.ref 93), none, none] [] (147, f, I, RP f sw) Q := vc_wp o [(234, 21, [0]), (234, 31, [0]), (234, 49, [0, 1]), (234, 70, [0, 1, 2])] [] 600 rfl hq

-- WreckCourtModel.rules()I, entry 49
set_option maxRecDepth 100000 in
set_option maxHeartbeats 4000000 in
theorem v_Mrules49 (o : OKs) {G : GX} {d f : Nat} {sw : Bool} {I : Nat → Nat → Int32} {u1 : Int32} {Q : Option Value → Hp → Prop}
    (hq : if 10 ≤ u1 then Q (some (.int (I 93 54))) (147, f, I, RP f sw) else ck (ixB u1 10) (ck (ixB u1 10) (ck (ixB u1 10) (ck (ixB u1 10) (wp G (d + 120) (mt 234) 70 [some (.ref 93), some (.int u1), some (.int 0)] [] (147, f, upI (upI I 134 u1.toNatClampNeg (I 137 u1.toNatClampNeg)) 136 u1.toNatClampNeg (I 139 u1.toNatClampNeg), RP f sw) Q))))) :
    wp G (d + 120) (mt 234) 49 [some (.ref 93), some (.int u1), none] [] (147, f, I, RP f sw) Q := vc_wp o [(234, 21, [0]), (234, 31, [0]), (234, 49, [0, 1]), (234, 70, [0, 1, 2])] [] 600 rfl hq

-- WreckCourtModel.rules()I, entry 70
set_option maxRecDepth 100000 in
set_option maxHeartbeats 4000000 in
theorem v_Mrules70 (o : OKs) {G : GX} {d f : Nat} {sw : Bool} {I : Nat → Nat → Int32} {u1 : Int32} {u2 : Int32} {Q : Option Value → Hp → Prop}
    (hq : if 9 ≤ u2 then wp G (d + 120) (mt 234) 49 [some (.ref 93), some (.int (u1 + Int32.ofInt 1)), none] [] (147, f, I, RP f sw) Q else ck (ixB ((9 * u1) + u2) 90) (ck (ixB ((9 * u1) + u2) 90) (wp G (d + 120) (mt 234) 70 [some (.ref 93), some (.int u1), some (.int (u2 + Int32.ofInt 1))] [] (147, f, upI I 135 (((9 * u1) + u2).toNatClampNeg) (I 138 (((9 * u1) + u2).toNatClampNeg)), RP f sw) Q))) :
    wp G (d + 120) (mt 234) 70 [some (.ref 93), some (.int u1), some (.int u2)] [] (147, f, I, RP f sw) Q := vc_wp o [(234, 21, [0]), (234, 31, [0]), (234, 49, [0, 1]), (234, 70, [0, 1, 2])] [] 600 rfl hq
