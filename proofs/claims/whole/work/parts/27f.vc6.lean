/-! CONDITIONS of where, nearest -/
-- WreckCourt$Sea.xOf(II)I, entry 0
set_option maxRecDepth 100000 in
set_option maxHeartbeats 4000000 in
theorem v_atX (o : OKs) {G : GX} {d f : Nat} {sw : Bool} {I : Nat → Nat → Int32} {s : Int32} {m : Int32} {Q : Option Value → Hp → Prop}
    (hq : wp G (d + 59) (mt 40) 0 (en (mt 40) [.ref 2]) [] (147, f, I, RP f sw) (fun v h1 => ∃ I1 : Nat → Nat → Int32, v = none ∧ h1 = (147, f, I1, RP f sw) ∧ (ck (ixB s 4) (oV ((RP f sw) 11 s.toNatClampNeg) (fun q2 => wp G (d + 60) (mt 39) 7 [none, none, none] [.int m, .ref q2] (147, f, I1, RP f sw) Q))))) :
    wp G (d + 60) (mt 39) 0 (en (mt 39) [.ref 2, .int s, .int m]) [] (147, f, I, RP f sw) Q := vc_wp o [(39, 7, [])] [] 600 rfl hq

-- WreckCourt$Sea.xOf(II)I, entry 8
set_option maxRecDepth 100000 in
set_option maxHeartbeats 4000000 in
theorem v_atXr (o : OKs) {G : GX} {d f : Nat} {sw : Bool} {I : Nat → Nat → Int32} {y : Int32} {Q : Option Value → Hp → Prop}
    (hq : Q (some (.int y)) (147, f, I, RP f sw)) :
    wp G (d + 60) (mt 39) 8 [none, none, none] [.int y] (147, f, I, RP f sw) Q := vc_wp o [] [] 600 rfl hq

-- WreckCourt$Sea.yOf(II)I, entry 0
set_option maxRecDepth 100000 in
set_option maxHeartbeats 4000000 in
theorem v_atY (o : OKs) {G : GX} {d f : Nat} {sw : Bool} {I : Nat → Nat → Int32} {s : Int32} {m : Int32} {Q : Option Value → Hp → Prop}
    (hq : wp G (d + 59) (mt 40) 0 (en (mt 40) [.ref 2]) [] (147, f, I, RP f sw) (fun v h1 => ∃ I1 : Nat → Nat → Int32, v = none ∧ h1 = (147, f, I1, RP f sw) ∧ (ck (ixB s 4) (oV ((RP f sw) 16 s.toNatClampNeg) (fun q2 => wp G (d + 60) (mt 43) 7 [none, none, none] [.int m, .ref q2] (147, f, I1, RP f sw) Q))))) :
    wp G (d + 60) (mt 43) 0 (en (mt 43) [.ref 2, .int s, .int m]) [] (147, f, I, RP f sw) Q := vc_wp o [(43, 7, [])] [] 600 rfl hq

-- WreckCourt$Sea.yOf(II)I, entry 8
set_option maxRecDepth 100000 in
set_option maxHeartbeats 4000000 in
theorem v_atYr (o : OKs) {G : GX} {d f : Nat} {sw : Bool} {I : Nat → Nat → Int32} {y : Int32} {Q : Option Value → Hp → Prop}
    (hq : Q (some (.int y)) (147, f, I, RP f sw)) :
    wp G (d + 60) (mt 43) 8 [none, none, none] [.int y] (147, f, I, RP f sw) Q := vc_wp o [] [] 600 rfl hq

-- WreckCourt$Sea.courseOf(II)I, entry 0
set_option maxRecDepth 100000 in
set_option maxHeartbeats 4000000 in
theorem v_atC (o : OKs) {G : GX} {d f : Nat} {sw : Bool} {I : Nat → Nat → Int32} {s : Int32} {m : Int32} {Q : Option Value → Hp → Prop}
    (hq : wp G (d + 59) (mt 40) 0 (en (mt 40) [.ref 2]) [] (147, f, I, RP f sw) (fun v h1 => ∃ I1 : Nat → Nat → Int32, v = none ∧ h1 = (147, f, I1, RP f sw) ∧ (ck (ixB s 4) (oV ((RP f sw) 21 s.toNatClampNeg) (fun q2 => wp G (d + 60) (mt 44) 7 [none, none, none] [.int m, .ref q2] (147, f, I1, RP f sw) Q))))) :
    wp G (d + 60) (mt 44) 0 (en (mt 44) [.ref 2, .int s, .int m]) [] (147, f, I, RP f sw) Q := vc_wp o [(44, 7, [])] [] 600 rfl hq

-- WreckCourt$Sea.courseOf(II)I, entry 8
set_option maxRecDepth 100000 in
set_option maxHeartbeats 4000000 in
theorem v_atCr (o : OKs) {G : GX} {d f : Nat} {sw : Bool} {I : Nat → Nat → Int32} {y : Int32} {Q : Option Value → Hp → Prop}
    (hq : Q (some (.int (y >>> (6 &&& 31)))) (147, f, I, RP f sw)) :
    wp G (d + 60) (mt 44) 8 [none, none, none] [.int y] (147, f, I, RP f sw) Q := vc_wp o [] [] 600 rfl hq

-- WreckCourt$Sea.speedOf(II)I, entry 0
set_option maxRecDepth 100000 in
set_option maxHeartbeats 4000000 in
theorem v_atV (o : OKs) {G : GX} {d f : Nat} {sw : Bool} {I : Nat → Nat → Int32} {s : Int32} {m : Int32} {Q : Option Value → Hp → Prop}
    (hq : wp G (d + 59) (mt 40) 0 (en (mt 40) [.ref 2]) [] (147, f, I, RP f sw) (fun v h1 => ∃ I1 : Nat → Nat → Int32, v = none ∧ h1 = (147, f, I1, RP f sw) ∧ (ck (ixB s 4) (oV ((RP f sw) 21 s.toNatClampNeg) (fun q2 => wp G (d + 60) (mt 45) 7 [none, none, none] [.int m, .ref q2] (147, f, I1, RP f sw) Q))))) :
    wp G (d + 60) (mt 45) 0 (en (mt 45) [.ref 2, .int s, .int m]) [] (147, f, I, RP f sw) Q := vc_wp o [(45, 7, [])] [] 600 rfl hq

-- WreckCourt$Sea.speedOf(II)I, entry 8
set_option maxRecDepth 100000 in
set_option maxHeartbeats 4000000 in
theorem v_atVr (o : OKs) {G : GX} {d f : Nat} {sw : Bool} {I : Nat → Nat → Int32} {y : Int32} {Q : Option Value → Hp → Prop}
    (hq : Q (some (.int (y &&& 63))) (147, f, I, RP f sw)) :
    wp G (d + 60) (mt 45) 8 [none, none, none] [.int y] (147, f, I, RP f sw) Q := vc_wp o [] [] 600 rfl hq

-- WreckCourt$Sea.apart(III)J, entry 0
set_option maxRecDepth 100000 in
set_option maxHeartbeats 4000000 in
theorem v_apart (o : OKs) {G : GX} {d f : Nat} {sw : Bool} {I : Nat → Nat → Int32} {a : Int32} {b : Int32} {m : Int32} {Q : Option Value → Hp → Prop}
    (hq : wp G (d + 59) (mt 40) 0 (en (mt 40) [.ref 2]) [] (147, f, I, RP f sw) (fun v h1 => ∃ I1 : Nat → Nat → Int32, v = none ∧ h1 = (147, f, I1, RP f sw) ∧ (ck (ixB a 4) (oV ((RP f sw) 11 a.toNatClampNeg) (fun q2 => wp G (d + 60) (mt 49) 7 [some (.ref 2), some (.int a), some (.int b), some (.int m)] [.int m, .ref q2] (147, f, I1, RP f sw) Q))))) :
    wp G (d + 60) (mt 49) 0 (en (mt 49) [.ref 2, .int a, .int b, .int m]) [] (147, f, I, RP f sw) Q := vc_wp o [(49, 7, [0, 1, 2, 3])] [] 600 rfl hq

-- WreckCourt$Sea.apart(III)J, entry 8
set_option maxRecDepth 100000 in
set_option maxHeartbeats 4000000 in
theorem v_apart1 (o : OKs) {G : GX} {d f : Nat} {sw : Bool} {I : Nat → Nat → Int32} {a : Int32} {b : Int32} {m : Int32} {y : Int32} {Q : Option Value → Hp → Prop}
    (hq : ck (ixB b 4) (oV ((RP f sw) 11 b.toNatClampNeg) (fun q1 => wp G (d + 60) (mt 49) 13 [some (.ref 2), some (.int a), some (.int b), some (.int m)] [.int m, .ref q1, .int y] (147, f, I, RP f sw) Q))) :
    wp G (d + 60) (mt 49) 8 [some (.ref 2), some (.int a), some (.int b), some (.int m)] [.int y] (147, f, I, RP f sw) Q := vc_wp o [(49, 13, [0, 1, 2, 3])] [] 600 rfl hq

-- WreckCourt$Sea.apart(III)J, entry 14
set_option maxRecDepth 100000 in
set_option maxHeartbeats 4000000 in
theorem v_apart2 (o : OKs) {G : GX} {d f : Nat} {sw : Bool} {I : Nat → Nat → Int32} {a : Int32} {b : Int32} {m : Int32} {y : Int32} {z : Int32} {Q : Option Value → Hp → Prop}
    (hq : ck (ixB a 4) (oV ((RP f sw) 16 a.toNatClampNeg) (fun q1 => wp G (d + 60) (mt 49) 21 [some (.ref 2), none, some (.int b), some (.int m)] [.int m, .ref q1, .long (z - y).toInt64] (147, f, I, RP f sw) Q))) :
    wp G (d + 60) (mt 49) 14 [some (.ref 2), some (.int a), some (.int b), some (.int m)] [.int y, .int z] (147, f, I, RP f sw) Q := vc_wp o [(49, 21, [0, 2, 3])] [] 600 rfl hq

-- WreckCourt$Sea.apart(III)J, entry 22
set_option maxRecDepth 100000 in
set_option maxHeartbeats 4000000 in
theorem v_apart3 (o : OKs) {G : GX} {d f : Nat} {sw : Bool} {I : Nat → Nat → Int32} {b : Int32} {m : Int32} {y : Int32} {X : Int64} {Q : Option Value → Hp → Prop}
    (hq : ck (ixB b 4) (oV ((RP f sw) 16 b.toNatClampNeg) (fun q1 => wp G (d + 60) (mt 49) 27 [none, none, none, none] [.int m, .ref q1, .int y, .long X] (147, f, I, RP f sw) Q))) :
    wp G (d + 60) (mt 49) 22 [some (.ref 2), none, some (.int b), some (.int m)] [.int y, .long X] (147, f, I, RP f sw) Q := vc_wp o [(49, 27, [])] [] 600 rfl hq

-- WreckCourt$Sea.apart(III)J, entry 28
set_option maxRecDepth 100000 in
set_option maxHeartbeats 4000000 in
theorem v_apart4 (o : OKs) {G : GX} {d f : Nat} {sw : Bool} {I : Nat → Nat → Int32} {y : Int32} {z : Int32} {X : Int64} {Q : Option Value → Hp → Prop}
    (hq : Q (some (.long ((X * X) + ((z - y).toInt64 * (z - y).toInt64)))) (147, f, I, RP f sw)) :
    wp G (d + 60) (mt 49) 28 [none, none, none, none] [.int y, .int z, .long X] (147, f, I, RP f sw) Q := vc_wp o [] [50] 600 rfl hq

-- WreckCourt$Spans.holdsIn(II)Z, entry 0
set_option maxRecDepth 100000 in
set_option maxHeartbeats 4000000 in
theorem v_holdsK (o : OKs) {G : GX} {d f : Nat} {sw : Bool} {I : Nat → Nat → Int32} {s : Int32} {m : Int32} {Q : Option Value → Hp → Prop}
    (hq : wp G (d + 10) (mt 48) 2 [some (.ref 7), some (.int s), some (.int m), some (.int 0)] [] (147, f, I, RP f sw) Q) :
    wp G (d + 10) (mt 48) 0 (en (mt 48) [.ref 7, .int s, .int m]) [] (147, f, I, RP f sw) Q := vc_wp o [(48, 2, [0, 1, 2, 3])] [] 600 rfl hq

-- WreckCourt$Spans.holdsIn(II)Z, entry 2
set_option maxRecDepth 100000 in
set_option maxHeartbeats 4000000 in
theorem v_holdsK2 (o : OKs) {G : GX} {d f : Nat} {sw : Bool} {I : Nat → Nat → Int32} {s : Int32} {m : Int32} {k : Int32} {Q : Option Value → Hp → Prop}
    (hq : if (I 7 3) ≤ k then Q (some (.int 0)) (147, f, I, RP f sw) else ck (ixB k 10) (if (I 8 k.toNatClampNeg) = s then ck (ixB k 10) (if m < (I 9 k.toNatClampNeg) then wp G (d + 10) (mt 48) 2 [some (.ref 7), some (.int s), some (.int m), some (.int (k + Int32.ofInt 1))] [] (147, f, I, RP f sw) Q else ck (ixB k 10) (if (I 10 k.toNatClampNeg) ≤ m then wp G (d + 10) (mt 48) 2 [some (.ref 7), some (.int s), some (.int m), some (.int (k + Int32.ofInt 1))] [] (147, f, I, RP f sw) Q else Q (some (.int 1)) (147, f, I, RP f sw))) else wp G (d + 10) (mt 48) 2 [some (.ref 7), some (.int s), some (.int m), some (.int (k + Int32.ofInt 1))] [] (147, f, I, RP f sw) Q)) :
    wp G (d + 10) (mt 48) 2 [some (.ref 7), some (.int s), some (.int m), some (.int k)] [] (147, f, I, RP f sw) Q := vc_wp o [(48, 2, [0, 1, 2, 3])] [] 600 rfl hq

-- WreckCourt$Spans.holdsIn(II)Z, entry 0
set_option maxRecDepth 100000 in
set_option maxHeartbeats 4000000 in
theorem v_holdsE (o : OKs) {G : GX} {d f : Nat} {sw : Bool} {I : Nat → Nat → Int32} {s : Int32} {m : Int32} {Q : Option Value → Hp → Prop}
    (hq : wp G (d + 10) (mt 48) 2 [some (.ref 57), some (.int s), some (.int m), some (.int 0)] [] (147, f, I, RP f sw) Q) :
    wp G (d + 10) (mt 48) 0 (en (mt 48) [.ref 57, .int s, .int m]) [] (147, f, I, RP f sw) Q := vc_wp o [(48, 2, [0, 1, 2, 3])] [] 600 rfl hq

-- WreckCourt$Spans.holdsIn(II)Z, entry 2
set_option maxRecDepth 100000 in
set_option maxHeartbeats 4000000 in
theorem v_holdsE2 (o : OKs) {G : GX} {d f : Nat} {sw : Bool} {I : Nat → Nat → Int32} {s : Int32} {m : Int32} {k : Int32} {Q : Option Value → Hp → Prop}
    (hq : if (I 57 3) ≤ k then Q (some (.int 0)) (147, f, I, RP f sw) else ck (ixB k 40) (if (I 58 k.toNatClampNeg) = s then ck (ixB k 40) (if m < (I 59 k.toNatClampNeg) then wp G (d + 10) (mt 48) 2 [some (.ref 57), some (.int s), some (.int m), some (.int (k + Int32.ofInt 1))] [] (147, f, I, RP f sw) Q else ck (ixB k 40) (if (I 60 k.toNatClampNeg) ≤ m then wp G (d + 10) (mt 48) 2 [some (.ref 57), some (.int s), some (.int m), some (.int (k + Int32.ofInt 1))] [] (147, f, I, RP f sw) Q else Q (some (.int 1)) (147, f, I, RP f sw))) else wp G (d + 10) (mt 48) 2 [some (.ref 57), some (.int s), some (.int m), some (.int (k + Int32.ofInt 1))] [] (147, f, I, RP f sw) Q)) :
    wp G (d + 10) (mt 48) 2 [some (.ref 57), some (.int s), some (.int m), some (.int k)] [] (147, f, I, RP f sw) Q := vc_wp o [(48, 2, [0, 1, 2, 3])] [] 600 rfl hq

-- WreckCourt$Sea.sightIn(I)I, entry 0
set_option maxRecDepth 100000 in
set_option maxHeartbeats 4000000 in
theorem v_sight (o : OKs) {G : GX} {d f : Nat} {sw : Bool} {I : Nat → Nat → Int32} {m : Int32} {Q : Option Value → Hp → Prop}
    (hq : wp G (d + 19) (mt 48) 0 (en (mt 48) [.ref 7, .int 0, .int m]) [] (147, f, I, RP f sw) (fun v h1 => ∃ (x2 : Int32) (I1 : Nat → Nat → Int32), v = some (.int x2) ∧ h1 = (147, f, I1, RP f sw) ∧ (if x2 = 0 then wp G (d + 19) (mt 48) 0 (en (mt 48) [.ref 7, .int 1, .int m]) [] (147, f, I1, RP f sw) (fun v h1 => ∃ (x4 : Int32) (I3 : Nat → Nat → Int32), v = some (.int x4) ∧ h1 = (147, f, I3, RP f sw) ∧ (if x4 = 0 then Q (some (.int 1000)) (147, f, I3, RP f sw) else Q (some (.int 500)) (147, f, I3, RP f sw))) else Q (some (.int 100)) (147, f, I1, RP f sw)))) :
    wp G (d + 20) (mt 47) 0 (en (mt 47) [.ref 2, .int m]) [] (147, f, I, RP f sw) Q := vc_wp o [] [] 600 rfl hq

-- WreckCourt$Sea.nearOf(II)I, entry 0
set_option maxRecDepth 100000 in
set_option maxHeartbeats 4000000 in
theorem v_near (o : OKs) {G : GX} {d f : Nat} {sw : Bool} {I : Nat → Nat → Int32} {s : Int32} {m : Int32} {Q : Option Value → Hp → Prop}
    (hq : wp G (d + 79) (mt 47) 0 (en (mt 47) [.ref 2, .int m]) [] (147, f, I, RP f sw) (fun v h1 => ∃ (x2 : Int32) (I1 : Nat → Nat → Int32), v = some (.int x2) ∧ h1 = (147, f, I1, RP f sw) ∧ (wp G (d + 80) (mt 46) 15 [some (.ref 2), some (.int s), some (.int m), none, none, some (.long ((x2 + 1).toInt64 * (x2 + 1).toInt64)), none, some (.int 0), some (.int 0)] [] (147, f, I1, RP f sw) Q))) :
    wp G (d + 80) (mt 46) 0 (en (mt 46) [.ref 2, .int s, .int m]) [] (147, f, I, RP f sw) Q := vc_wp o [(46, 15, [0, 1, 2, 5, 7, 8])] [] 600 rfl hq

-- WreckCourt$Sea.nearOf(II)I, entry 15
set_option maxRecDepth 100000 in
set_option maxHeartbeats 4000000 in
theorem v_near15 (o : OKs) {G : GX} {d f : Nat} {sw : Bool} {I : Nat → Nat → Int32} {s : Int32} {m : Int32} {L : Int64} {b : Int32} {k : Int32} {Q : Option Value → Hp → Prop}
    (hq : if (I 2 2) ≤ k then if b = 0 then Q (some (.int 9999)) (147, f, I, RP f sw) else wp G (d + 79) (mt 51) 0 (en (mt 51) [.long L]) [] (147, f, I, RP f sw) (fun v h1 => ∃ (x2 : Int32) (I1 : Nat → Nat → Int32), v = some (.int x2) ∧ h1 = (147, f, I1, RP f sw) ∧ (Q (some (.int x2)) (147, f, I1, RP f sw))) else if k = s then wp G (d + 80) (mt 46) 15 [some (.ref 2), some (.int s), some (.int m), none, none, some (.long L), none, some (.int b), some (.int (k + Int32.ofInt 1))] [] (147, f, I, RP f sw) Q else wp G (d + 79) (mt 49) 0 (en (mt 49) [.ref 2, .int s, .int k, .int m]) [] (147, f, I, RP f sw) (fun v h1 => ∃ (x4 : Int64) (I3 : Nat → Nat → Int32), v = some (.long x4) ∧ h1 = (147, f, I3, RP f sw) ∧ (if 0 ≤ lg_cmp x4 L then wp G (d + 80) (mt 46) 15 [some (.ref 2), some (.int s), some (.int m), none, none, some (.long L), none, some (.int b), some (.int (k + Int32.ofInt 1))] [] (147, f, I3, RP f sw) Q else wp G (d + 79) (mt 49) 0 (en (mt 49) [.ref 2, .int s, .int k, .int m]) [] (147, f, I3, RP f sw) (fun v h1 => ∃ (x6 : Int64) (I5 : Nat → Nat → Int32), v = some (.long x6) ∧ h1 = (147, f, I5, RP f sw) ∧ (wp G (d + 80) (mt 46) 15 [some (.ref 2), some (.int s), some (.int m), none, none, some (.long x6), none, some (.int 1), some (.int (k + Int32.ofInt 1))] [] (147, f, I5, RP f sw) Q))))) :
    wp G (d + 80) (mt 46) 15 [some (.ref 2), some (.int s), some (.int m), none, none, some (.long L), none, some (.int b), some (.int k)] [] (147, f, I, RP f sw) Q := vc_wp o [(46, 15, [0, 1, 2, 5, 7, 8])] [] 600 rfl hq

-- WreckCourt$Sea.closest(II)I, entry 0
set_option maxRecDepth 100000 in
set_option maxHeartbeats 4000000 in
theorem v_closest (o : OKs) {G : GX} {d f : Nat} {sw : Bool} {I : Nat → Nat → Int32} {a : Int32} {b : Int32} {Q : Option Value → Hp → Prop}
    (hq : wp G (d + 79) (mt 49) 0 (en (mt 49) [.ref 2, .int a, .int b, .int 0]) [] (147, f, I, RP f sw) (fun v h1 => ∃ (x2 : Int64) (I1 : Nat → Nat → Int32), v = some (.long x2) ∧ h1 = (147, f, I1, RP f sw) ∧ (wp G (d + 79) (mt 51) 0 (en (mt 51) [.long x2]) [] (147, f, I1, RP f sw) (fun v h1 => ∃ (x4 : Int32) (I3 : Nat → Nat → Int32), v = some (.int x4) ∧ h1 = (147, f, I3, RP f sw) ∧ (wp G (d + 80) (mt 53) 12 [some (.ref 2), some (.int a), some (.int b), some (.int 0), some (.long x4.toInt64), none, some (.int 1)] [] (147, f, I3, RP f sw) Q))))) :
    wp G (d + 80) (mt 53) 0 (en (mt 53) [.ref 2, .int a, .int b]) [] (147, f, I, RP f sw) Q := vc_wp o [(53, 12, [0, 1, 2, 3, 4, 6])] [] 600 rfl hq

-- WreckCourt$Sea.closest(II)I, entry 12
set_option maxRecDepth 100000 in
set_option maxHeartbeats 4000000 in
theorem v_closest12 (o : OKs) {G : GX} {d f : Nat} {sw : Bool} {I : Nat → Nat → Int32} {a : Int32} {b : Int32} {w : Int32} {L : Int64} {m : Int32} {Q : Option Value → Hp → Prop}
    (hq : if 240 < m then Q (some (.int w)) (147, f, I, RP f sw) else wp G (d + 79) (mt 49) 0 (en (mt 49) [.ref 2, .int a, .int b, .int m]) [] (147, f, I, RP f sw) (fun v h1 => ∃ (x2 : Int64) (I1 : Nat → Nat → Int32), v = some (.long x2) ∧ h1 = (147, f, I1, RP f sw) ∧ (if 0 ≤ lg_cmp x2 (L * L) then wp G (d + 80) (mt 53) 12 [some (.ref 2), some (.int a), some (.int b), some (.int w), some (.long L), none, some (.int (m + Int32.ofInt 1))] [] (147, f, I1, RP f sw) Q else wp G (d + 79) (mt 49) 0 (en (mt 49) [.ref 2, .int a, .int b, .int m]) [] (147, f, I1, RP f sw) (fun v h1 => ∃ (x4 : Int64) (I3 : Nat → Nat → Int32), v = some (.long x4) ∧ h1 = (147, f, I3, RP f sw) ∧ (wp G (d + 79) (mt 51) 0 (en (mt 51) [.long x4]) [] (147, f, I3, RP f sw) (fun v h1 => ∃ (x6 : Int32) (I5 : Nat → Nat → Int32), v = some (.int x6) ∧ h1 = (147, f, I5, RP f sw) ∧ (wp G (d + 80) (mt 53) 12 [some (.ref 2), some (.int a), some (.int b), some (.int m), some (.long x6.toInt64), none, some (.int (m + Int32.ofInt 1))] [] (147, f, I5, RP f sw) Q))))))) :
    wp G (d + 80) (mt 53) 12 [some (.ref 2), some (.int a), some (.int b), some (.int w), some (.long L), none, some (.int m)] [] (147, f, I, RP f sw) Q := vc_wp o [(53, 12, [0, 1, 2, 3, 4, 6])] [] 600 rfl hq

-- WreckCourt.where(III)I, entry 0
set_option maxRecDepth 100000 in
set_option maxHeartbeats 4000000 in
theorem v_Cwhere (o : OKs) {G : GX} {d f : Nat} {sw : Bool} {I : Nat → Nat → Int32} {s : Int32} {m : Int32} {w : Int32} {Q : Option Value → Hp → Prop}
    (hq : if w = 0 then if s < 0 then Q (some (.int (-1000001))) (147, f, I, RP f sw) else if ((I 2 2) - 1) < s then Q (some (.int (-1000001))) (147, f, I, RP f sw) else if m < 0 then Q (some (.int (-1000001))) (147, f, I, RP f sw) else if 240 < m then Q (some (.int (-1000001))) (147, f, I, RP f sw) else if w = 0 then wp G (d + 99) (mt 39) 0 (en (mt 39) [.ref 2, .int s, .int m]) [] (147, f, I, RP f sw) (fun v h1 => ∃ (x2 : Int32) (I1 : Nat → Nat → Int32), v = some (.int x2) ∧ h1 = (147, f, I1, RP f sw) ∧ (Q (some (.int x2)) (147, f, I1, RP f sw))) else if w = 0 + 1 then wp G (d + 99) (mt 43) 0 (en (mt 43) [.ref 2, .int s, .int m]) [] (147, f, I, RP f sw) (fun v h1 => ∃ (x4 : Int32) (I3 : Nat → Nat → Int32), v = some (.int x4) ∧ h1 = (147, f, I3, RP f sw) ∧ (Q (some (.int x4)) (147, f, I3, RP f sw))) else if w = 0 + 1 + 1 then wp G (d + 99) (mt 44) 0 (en (mt 44) [.ref 2, .int s, .int m]) [] (147, f, I, RP f sw) (fun v h1 => ∃ (x6 : Int32) (I5 : Nat → Nat → Int32), v = some (.int x6) ∧ h1 = (147, f, I5, RP f sw) ∧ (Q (some (.int x6)) (147, f, I5, RP f sw))) else if w = 0 + 1 + 1 + 1 then wp G (d + 99) (mt 45) 0 (en (mt 45) [.ref 2, .int s, .int m]) [] (147, f, I, RP f sw) (fun v h1 => ∃ (x8 : Int32) (I7 : Nat → Nat → Int32), v = some (.int x8) ∧ h1 = (147, f, I7, RP f sw) ∧ (Q (some (.int x8)) (147, f, I7, RP f sw))) else if w = 0 + 1 + 1 + 1 + 1 then wp G (d + 99) (mt 46) 0 (en (mt 46) [.ref 2, .int s, .int m]) [] (147, f, I, RP f sw) (fun v h1 => ∃ (x10 : Int32) (I9 : Nat → Nat → Int32), v = some (.int x10) ∧ h1 = (147, f, I9, RP f sw) ∧ (Q (some (.int x10)) (147, f, I9, RP f sw))) else Q (some (.int (-1000001))) (147, f, I, RP f sw) else if w = 1 then if s < 0 then Q (some (.int (-1000001))) (147, f, I, RP f sw) else if ((I 2 2) - 1) < s then Q (some (.int (-1000001))) (147, f, I, RP f sw) else if m < 0 then Q (some (.int (-1000001))) (147, f, I, RP f sw) else if 240 < m then Q (some (.int (-1000001))) (147, f, I, RP f sw) else if w = 0 then wp G (d + 99) (mt 39) 0 (en (mt 39) [.ref 2, .int s, .int m]) [] (147, f, I, RP f sw) (fun v h1 => ∃ (x22 : Int32) (I21 : Nat → Nat → Int32), v = some (.int x22) ∧ h1 = (147, f, I21, RP f sw) ∧ (Q (some (.int x22)) (147, f, I21, RP f sw))) else if w = 0 + 1 then wp G (d + 99) (mt 43) 0 (en (mt 43) [.ref 2, .int s, .int m]) [] (147, f, I, RP f sw) (fun v h1 => ∃ (x24 : Int32) (I23 : Nat → Nat → Int32), v = some (.int x24) ∧ h1 = (147, f, I23, RP f sw) ∧ (Q (some (.int x24)) (147, f, I23, RP f sw))) else if w = 0 + 1 + 1 then wp G (d + 99) (mt 44) 0 (en (mt 44) [.ref 2, .int s, .int m]) [] (147, f, I, RP f sw) (fun v h1 => ∃ (x26 : Int32) (I25 : Nat → Nat → Int32), v = some (.int x26) ∧ h1 = (147, f, I25, RP f sw) ∧ (Q (some (.int x26)) (147, f, I25, RP f sw))) else if w = 0 + 1 + 1 + 1 then wp G (d + 99) (mt 45) 0 (en (mt 45) [.ref 2, .int s, .int m]) [] (147, f, I, RP f sw) (fun v h1 => ∃ (x28 : Int32) (I27 : Nat → Nat → Int32), v = some (.int x28) ∧ h1 = (147, f, I27, RP f sw) ∧ (Q (some (.int x28)) (147, f, I27, RP f sw))) else if w = 0 + 1 + 1 + 1 + 1 then wp G (d + 99) (mt 46) 0 (en (mt 46) [.ref 2, .int s, .int m]) [] (147, f, I, RP f sw) (fun v h1 => ∃ (x30 : Int32) (I29 : Nat → Nat → Int32), v = some (.int x30) ∧ h1 = (147, f, I29, RP f sw) ∧ (Q (some (.int x30)) (147, f, I29, RP f sw))) else Q (some (.int (-1000001))) (147, f, I, RP f sw) else if s < 0 then Q (some (.int (-1000001))) (147, f, I, RP f sw) else if ((I 2 2) - 1) < s then Q (some (.int (-1000001))) (147, f, I, RP f sw) else if m < 0 then Q (some (.int (-1000001))) (147, f, I, RP f sw) else if 239 < m then Q (some (.int (-1000001))) (147, f, I, RP f sw) else if w = 0 then wp G (d + 99) (mt 39) 0 (en (mt 39) [.ref 2, .int s, .int m]) [] (147, f, I, RP f sw) (fun v h1 => ∃ (x12 : Int32) (I11 : Nat → Nat → Int32), v = some (.int x12) ∧ h1 = (147, f, I11, RP f sw) ∧ (Q (some (.int x12)) (147, f, I11, RP f sw))) else if w = 0 + 1 then wp G (d + 99) (mt 43) 0 (en (mt 43) [.ref 2, .int s, .int m]) [] (147, f, I, RP f sw) (fun v h1 => ∃ (x14 : Int32) (I13 : Nat → Nat → Int32), v = some (.int x14) ∧ h1 = (147, f, I13, RP f sw) ∧ (Q (some (.int x14)) (147, f, I13, RP f sw))) else if w = 0 + 1 + 1 then wp G (d + 99) (mt 44) 0 (en (mt 44) [.ref 2, .int s, .int m]) [] (147, f, I, RP f sw) (fun v h1 => ∃ (x16 : Int32) (I15 : Nat → Nat → Int32), v = some (.int x16) ∧ h1 = (147, f, I15, RP f sw) ∧ (Q (some (.int x16)) (147, f, I15, RP f sw))) else if w = 0 + 1 + 1 + 1 then wp G (d + 99) (mt 45) 0 (en (mt 45) [.ref 2, .int s, .int m]) [] (147, f, I, RP f sw) (fun v h1 => ∃ (x18 : Int32) (I17 : Nat → Nat → Int32), v = some (.int x18) ∧ h1 = (147, f, I17, RP f sw) ∧ (Q (some (.int x18)) (147, f, I17, RP f sw))) else if w = 0 + 1 + 1 + 1 + 1 then wp G (d + 99) (mt 46) 0 (en (mt 46) [.ref 2, .int s, .int m]) [] (147, f, I, RP f sw) (fun v h1 => ∃ (x20 : Int32) (I19 : Nat → Nat → Int32), v = some (.int x20) ∧ h1 = (147, f, I19, RP f sw) ∧ (Q (some (.int x20)) (147, f, I19, RP f sw))) else Q (some (.int (-1000001))) (147, f, I, RP f sw)) :
    wp G (d + 100) (mt 38) 0 (en (mt 38) [.ref 0, .int s, .int m, .int w]) [] (147, f, I, RP f sw) Q := vc_wp o [] [13, 26] 600 rfl hq

-- WreckCourt.nearest(III)I, entry 0
set_option maxRecDepth 100000 in
set_option maxHeartbeats 4000000 in
theorem v_Cnearest (o : OKs) {G : GX} {d f : Nat} {sw : Bool} {I : Nat → Nat → Int32} {a : Int32} {b : Int32} {w : Int32} {Q : Option Value → Hp → Prop}
    (hq : if a < 0 then Q (some (.int (-1000001))) (147, f, I, RP f sw) else if ((I 2 2) - 1) < a then Q (some (.int (-1000001))) (147, f, I, RP f sw) else if b < 0 then Q (some (.int (-1000001))) (147, f, I, RP f sw) else if ((I 2 2) - 1) < b then Q (some (.int (-1000001))) (147, f, I, RP f sw) else if a = b then Q (some (.int (-1000001))) (147, f, I, RP f sw) else if w < 0 then Q (some (.int (-1000001))) (147, f, I, RP f sw) else if 1 < w then Q (some (.int (-1000001))) (147, f, I, RP f sw) else wp G (d + 99) (mt 53) 0 (en (mt 53) [.ref 2, .int a, .int b]) [] (147, f, I, RP f sw) (fun v h1 => ∃ (x2 : Int32) (I1 : Nat → Nat → Int32), v = some (.int x2) ∧ h1 = (147, f, I1, RP f sw) ∧ (if w = 0 then Q (some (.int x2)) (147, f, I1, RP f sw) else wp G (d + 99) (mt 49) 0 (en (mt 49) [.ref 2, .int a, .int b, .int x2]) [] (147, f, I1, RP f sw) (fun v h1 => ∃ (x4 : Int64) (I3 : Nat → Nat → Int32), v = some (.long x4) ∧ h1 = (147, f, I3, RP f sw) ∧ (wp G (d + 99) (mt 51) 0 (en (mt 51) [.long x4]) [] (147, f, I3, RP f sw) (fun v h1 => ∃ (x6 : Int32) (I5 : Nat → Nat → Int32), v = some (.int x6) ∧ h1 = (147, f, I5, RP f sw) ∧ (Q (some (.int x6)) (147, f, I5, RP f sw)))))))) :
    wp G (d + 100) (mt 52) 0 (en (mt 52) [.ref 0, .int a, .int b, .int w]) [] (147, f, I, RP f sw) Q := vc_wp o [] [13, 26] 600 rfl hq

-- WreckCourtModel.apart(III)I, entry 0
set_option maxRecDepth 100000 in
set_option maxHeartbeats 4000000 in
theorem v_Mapart (o : OKs) {G : GX} {d f : Nat} {sw : Bool} {I : Nat → Nat → Int32} {a : Int32} {b : Int32} {m : Int32} {Q : Option Value → Hp → Prop}
    (hq : ck (ixB ((241 * a) + m) 964) (ck (ixB ((241 * a) + m) 964) (ck (ixB ((241 * b) + m) 964) (ck (ixB ((241 * b) + m) 964) (wp G (d + 38) (mt 204) 0 (en (mt 204) [.long ((((I 107 (((241 * a) + m).toNatClampNeg)) - (I 107 (((241 * b) + m).toNatClampNeg))).toInt64 * ((I 107 (((241 * a) + m).toNatClampNeg)) - (I 107 (((241 * b) + m).toNatClampNeg))).toInt64) + (((I 108 (((241 * a) + m).toNatClampNeg)) - (I 108 (((241 * b) + m).toNatClampNeg))).toInt64 * ((I 108 (((241 * a) + m).toNatClampNeg)) - (I 108 (((241 * b) + m).toNatClampNeg))).toInt64))]) [] (147, f, I, RP f sw) (fun v h1 => ∃ (x2 : Int32) (I1 : Nat → Nat → Int32), v = some (.int x2) ∧ h1 = (147, f, I1, RP f sw) ∧ (Q (some (.int x2)) (147, f, I1, RP f sw)))))))) :
    wp G (d + 40) (mt 202) 0 (en (mt 202) [.ref 93, .int a, .int b, .int m]) [] (147, f, I, RP f sw) Q := vc_wp o [] [203] 600 rfl hq

-- WreckCourtModel.nearOf(II)I, entry 0
set_option maxRecDepth 100000 in
set_option maxHeartbeats 4000000 in
theorem v_MnearOf (o : OKs) {G : GX} {d f : Nat} {sw : Bool} {I : Nat → Nat → Int32} {s : Int32} {m : Int32} {Q : Option Value → Hp → Prop}
    (hq : wp G (d + 59) (mt 201) 0 (en (mt 201) [.ref 93, .int 0, .int m]) [] (147, f, I, RP f sw) (fun v h1 => ∃ (x2 : Int32) (I1 : Nat → Nat → Int32), v = some (.int x2) ∧ h1 = (147, f, I1, RP f sw) ∧ (if x2 = 0 then wp G (d + 59) (mt 201) 0 (en (mt 201) [.ref 93, .int 1, .int m]) [] (147, f, I1, RP f sw) (fun v h1 => ∃ (x4 : Int32) (I3 : Nat → Nat → Int32), v = some (.int x4) ∧ h1 = (147, f, I3, RP f sw) ∧ (if x4 = 0 then wp G (d + 60) (mt 200) 20 [some (.ref 93), some (.int s), some (.int m), some (.int 1000), some (.int 9999), some (.int 0), none] [] (147, f, I3, RP f sw) Q else wp G (d + 60) (mt 200) 20 [some (.ref 93), some (.int s), some (.int m), some (.int 500), some (.int 9999), some (.int 0), none] [] (147, f, I3, RP f sw) Q)) else wp G (d + 60) (mt 200) 20 [some (.ref 93), some (.int s), some (.int m), some (.int 100), some (.int 9999), some (.int 0), none] [] (147, f, I1, RP f sw) Q))) :
    wp G (d + 60) (mt 200) 0 (en (mt 200) [.ref 93, .int s, .int m]) [] (147, f, I, RP f sw) Q := vc_wp o [(200, 20, [0, 1, 2, 3, 4, 5])] [] 600 rfl hq

-- WreckCourtModel.nearOf(II)I, entry 20
set_option maxRecDepth 100000 in
set_option maxHeartbeats 4000000 in
theorem v_MnearOf20 (o : OKs) {G : GX} {d f : Nat} {sw : Bool} {I : Nat → Nat → Int32} {s : Int32} {m : Int32} {g : Int32} {l : Int32} {k : Int32} {Q : Option Value → Hp → Prop}
    (hq : if (I 93 7) ≤ k then Q (some (.int l)) (147, f, I, RP f sw) else if k = s then wp G (d + 60) (mt 200) 20 [some (.ref 93), some (.int s), some (.int m), some (.int g), some (.int l), some (.int (k + Int32.ofInt 1)), none] [] (147, f, I, RP f sw) Q else wp G (d + 59) (mt 202) 0 (en (mt 202) [.ref 93, .int s, .int k, .int m]) [] (147, f, I, RP f sw) (fun v h1 => ∃ (x2 : Int32) (I1 : Nat → Nat → Int32), v = some (.int x2) ∧ h1 = (147, f, I1, RP f sw) ∧ (if g < x2 then wp G (d + 60) (mt 200) 20 [some (.ref 93), some (.int s), some (.int m), some (.int g), some (.int l), some (.int (k + Int32.ofInt 1)), none] [] (147, f, I1, RP f sw) Q else if l ≤ x2 then wp G (d + 60) (mt 200) 20 [some (.ref 93), some (.int s), some (.int m), some (.int g), some (.int l), some (.int (k + Int32.ofInt 1)), none] [] (147, f, I1, RP f sw) Q else wp G (d + 60) (mt 200) 20 [some (.ref 93), some (.int s), some (.int m), some (.int g), some (.int x2), some (.int (k + Int32.ofInt 1)), none] [] (147, f, I1, RP f sw) Q))) :
    wp G (d + 60) (mt 200) 20 [some (.ref 93), some (.int s), some (.int m), some (.int g), some (.int l), some (.int k), none] [] (147, f, I, RP f sw) Q := vc_wp o [(200, 20, [0, 1, 2, 3, 4, 5])] [] 600 rfl hq

-- WreckCourtModel.speedOf(II)I, entry 0
set_option maxRecDepth 100000 in
set_option maxHeartbeats 4000000 in
theorem v_MspeedOf (o : OKs) {G : GX} {d f : Nat} {sw : Bool} {I : Nat → Nat → Int32} {s : Int32} {m : Int32} {Q : Option Value → Hp → Prop}
    (hq : wp G (d + 19) (mt 198) 0 (en (mt 198) [.ref 93, .int s, .int m]) [] (147, f, I, RP f sw) (fun v h1 => ∃ (x2 : Int32) (I1 : Nat → Nat → Int32), v = some (.int x2) ∧ h1 = (147, f, I1, RP f sw) ∧ (if x2 = (-1000000) then Q (some (.int 0)) (147, f, I1, RP f sw) else ck (ixB x2 60) (Q (some (.int (I1 104 x2.toNatClampNeg))) (147, f, I1, RP f sw))))) :
    wp G (d + 20) (mt 199) 0 (en (mt 199) [.ref 93, .int s, .int m]) [] (147, f, I, RP f sw) Q := vc_wp o [] [] 600 rfl hq

-- WreckCourtModel.where(III)I, entry 0
set_option maxRecDepth 100000 in
set_option maxHeartbeats 4000000 in
theorem v_Mwhere (o : OKs) {G : GX} {d f : Nat} {sw : Bool} {I : Nat → Nat → Int32} {s : Int32} {m : Int32} {w : Int32} {Q : Option Value → Hp → Prop}
    (hq : if lg_cmp s.toInt64 0 < 0 then Q (some (.int (-1000001))) (147, f, upI I 93 0 0, RP f sw) else if 0 < lg_cmp s.toInt64 (((I 93 7) - 1).toInt64) then Q (some (.int (-1000001))) (147, f, upI I 93 0 0, RP f sw) else if lg_cmp w.toInt64 0 < 0 then Q (some (.int (-1000001))) (147, f, upI I 93 0 0, RP f sw) else if 0 < lg_cmp w.toInt64 4 then Q (some (.int (-1000001))) (147, f, upI I 93 0 0, RP f sw) else if 2 ≤ w then if lg_cmp m.toInt64 0 < 0 then Q (some (.int (-1000001))) (147, f, upI I 93 0 0, RP f sw) else if 0 < lg_cmp m.toInt64 239 then Q (some (.int (-1000001))) (147, f, upI I 93 0 0, RP f sw) else wp G (d + 79) (mt 197) 0 (en (mt 197) [.ref 93]) [] (147, f, upI I 93 0 0, RP f sw) (fun v h1 => ∃ I1 : Nat → Nat → Int32, v = none ∧ h1 = (147, f, I1, RP f sw) ∧ (wp G (d + 79) (mt 198) 0 (en (mt 198) [.ref 93, .int s, .int m]) [] (147, f, I1, RP f sw) (fun v h1 => ∃ (x3 : Int32) (I2 : Nat → Nat → Int32), v = some (.int x3) ∧ h1 = (147, f, I2, RP f sw) ∧ (if w = 0 then ck (ixB ((241 * s) + m) 964) (Q (some (.int (I2 107 (((241 * s) + m).toNatClampNeg)))) (147, f, I2, RP f sw)) else if w = 1 then ck (ixB ((241 * s) + m) 964) (Q (some (.int (I2 108 (((241 * s) + m).toNatClampNeg)))) (147, f, I2, RP f sw)) else if w = 2 then if x3 = (-1000000) then Q (some (.int 0)) (147, f, I2, RP f sw) else ck (ixB x3 60) (Q (some (.int (I2 103 x3.toNatClampNeg))) (147, f, I2, RP f sw)) else if w = 3 then wp G (d + 79) (mt 199) 0 (en (mt 199) [.ref 93, .int s, .int m]) [] (147, f, I2, RP f sw) (fun v h1 => ∃ (x7 : Int32) (I6 : Nat → Nat → Int32), v = some (.int x7) ∧ h1 = (147, f, I6, RP f sw) ∧ (Q (some (.int x7)) (147, f, I6, RP f sw))) else wp G (d + 79) (mt 200) 0 (en (mt 200) [.ref 93, .int s, .int m]) [] (147, f, I2, RP f sw) (fun v h1 => ∃ (x5 : Int32) (I4 : Nat → Nat → Int32), v = some (.int x5) ∧ h1 = (147, f, I4, RP f sw) ∧ (Q (some (.int x5)) (147, f, I4, RP f sw))))))) else if lg_cmp m.toInt64 0 < 0 then Q (some (.int (-1000001))) (147, f, upI I 93 0 0, RP f sw) else if 0 < lg_cmp m.toInt64 240 then Q (some (.int (-1000001))) (147, f, upI I 93 0 0, RP f sw) else wp G (d + 79) (mt 197) 0 (en (mt 197) [.ref 93]) [] (147, f, upI I 93 0 0, RP f sw) (fun v h1 => ∃ I8 : Nat → Nat → Int32, v = none ∧ h1 = (147, f, I8, RP f sw) ∧ (wp G (d + 79) (mt 198) 0 (en (mt 198) [.ref 93, .int s, .int m]) [] (147, f, I8, RP f sw) (fun v h1 => ∃ (x10 : Int32) (I9 : Nat → Nat → Int32), v = some (.int x10) ∧ h1 = (147, f, I9, RP f sw) ∧ (if w = 0 then ck (ixB ((241 * s) + m) 964) (Q (some (.int (I9 107 (((241 * s) + m).toNatClampNeg)))) (147, f, I9, RP f sw)) else if w = 1 then ck (ixB ((241 * s) + m) 964) (Q (some (.int (I9 108 (((241 * s) + m).toNatClampNeg)))) (147, f, I9, RP f sw)) else if w = 2 then if x10 = (-1000000) then Q (some (.int 0)) (147, f, I9, RP f sw) else ck (ixB x10 60) (Q (some (.int (I9 103 x10.toNatClampNeg))) (147, f, I9, RP f sw)) else if w = 3 then wp G (d + 79) (mt 199) 0 (en (mt 199) [.ref 93, .int s, .int m]) [] (147, f, I9, RP f sw) (fun v h1 => ∃ (x14 : Int32) (I13 : Nat → Nat → Int32), v = some (.int x14) ∧ h1 = (147, f, I13, RP f sw) ∧ (Q (some (.int x14)) (147, f, I13, RP f sw))) else wp G (d + 79) (mt 200) 0 (en (mt 200) [.ref 93, .int s, .int m]) [] (147, f, I9, RP f sw) (fun v h1 => ∃ (x12 : Int32) (I11 : Nat → Nat → Int32), v = some (.int x12) ∧ h1 = (147, f, I11, RP f sw) ∧ (Q (some (.int x12)) (147, f, I11, RP f sw)))))))) :
    wp G (d + 80) (mt 196) 0 (en (mt 196) [.ref 93, .int s, .int m, .int w]) [] (147, f, I, RP f sw) Q := vc_wp o [] [184, 192] 600 rfl hq

-- WreckCourtModel.nearest(III)I, entry 0
set_option maxRecDepth 100000 in
set_option maxHeartbeats 4000000 in
theorem v_Mnearest (o : OKs) {G : GX} {d f : Nat} {sw : Bool} {I : Nat → Nat → Int32} {a : Int32} {b : Int32} {w : Int32} {Q : Option Value → Hp → Prop}
    (hq : if lg_cmp a.toInt64 0 < 0 then Q (some (.int (-1000001))) (147, f, upI I 93 0 0, RP f sw) else if 0 < lg_cmp a.toInt64 (((I 93 7) - 1).toInt64) then Q (some (.int (-1000001))) (147, f, upI I 93 0 0, RP f sw) else if lg_cmp b.toInt64 0 < 0 then Q (some (.int (-1000001))) (147, f, upI I 93 0 0, RP f sw) else if 0 < lg_cmp b.toInt64 (((I 93 7) - 1).toInt64) then Q (some (.int (-1000001))) (147, f, upI I 93 0 0, RP f sw) else if a = b then Q (some (.int (-1000001))) (147, f, upI I 93 0 0, RP f sw) else if lg_cmp w.toInt64 0 < 0 then Q (some (.int (-1000001))) (147, f, upI I 93 0 0, RP f sw) else if 0 < lg_cmp w.toInt64 1 then Q (some (.int (-1000001))) (147, f, upI I 93 0 0, RP f sw) else wp G (d + 79) (mt 197) 0 (en (mt 197) [.ref 93]) [] (147, f, upI I 93 0 0, RP f sw) (fun v h1 => ∃ I1 : Nat → Nat → Int32, v = none ∧ h1 = (147, f, I1, RP f sw) ∧ (wp G (d + 80) (mt 205) 28 [some (.ref 93), some (.int a), some (.int b), some (.int w), some (.int 0), some (.int 1)] [] (147, f, I1, RP f sw) Q))) :
    wp G (d + 80) (mt 205) 0 (en (mt 205) [.ref 93, .int a, .int b, .int w]) [] (147, f, I, RP f sw) Q := vc_wp o [(205, 28, [0, 1, 2, 3, 4, 5])] [184, 192] 600 rfl hq

-- WreckCourtModel.nearest(III)I, entry 28
set_option maxRecDepth 100000 in
set_option maxHeartbeats 4000000 in
theorem v_Mnearest28 (o : OKs) {G : GX} {d f : Nat} {sw : Bool} {I : Nat → Nat → Int32} {a : Int32} {b : Int32} {w : Int32} {t : Int32} {m : Int32} {Q : Option Value → Hp → Prop}
    (hq : if 241 ≤ m then if w = 0 then Q (some (.int t)) (147, f, I, RP f sw) else wp G (d + 79) (mt 202) 0 (en (mt 202) [.ref 93, .int a, .int b, .int t]) [] (147, f, I, RP f sw) (fun v h1 => ∃ (x2 : Int32) (I1 : Nat → Nat → Int32), v = some (.int x2) ∧ h1 = (147, f, I1, RP f sw) ∧ (Q (some (.int x2)) (147, f, I1, RP f sw))) else wp G (d + 79) (mt 202) 0 (en (mt 202) [.ref 93, .int a, .int b, .int m]) [] (147, f, I, RP f sw) (fun v h1 => ∃ (x4 : Int32) (I3 : Nat → Nat → Int32), v = some (.int x4) ∧ h1 = (147, f, I3, RP f sw) ∧ (wp G (d + 79) (mt 202) 0 (en (mt 202) [.ref 93, .int a, .int b, .int t]) [] (147, f, I3, RP f sw) (fun v h1 => ∃ (x6 : Int32) (I5 : Nat → Nat → Int32), v = some (.int x6) ∧ h1 = (147, f, I5, RP f sw) ∧ (if x6 ≤ x4 then wp G (d + 80) (mt 205) 28 [some (.ref 93), some (.int a), some (.int b), some (.int w), some (.int t), some (.int (m + Int32.ofInt 1))] [] (147, f, I5, RP f sw) Q else wp G (d + 80) (mt 205) 28 [some (.ref 93), some (.int a), some (.int b), some (.int w), some (.int m), some (.int (m + Int32.ofInt 1))] [] (147, f, I5, RP f sw) Q))))) :
    wp G (d + 80) (mt 205) 28 [some (.ref 93), some (.int a), some (.int b), some (.int w), some (.int t), some (.int m)] [] (147, f, I, RP f sw) Q := vc_wp o [(205, 28, [0, 1, 2, 3, 4, 5])] [] 600 rfl hq
