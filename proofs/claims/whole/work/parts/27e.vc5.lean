/-! CONDITIONS of root, fact, quarrel -/
-- WreckCourt.root(J)I, entry 0
set_option maxRecDepth 100000 in
set_option maxHeartbeats 4000000 in
theorem v_root (o : OKs) {G : GX} {d f : Nat} {sw : Bool} {I : Nat → Nat → Int32} {v : Int64} {Q : Option Value → Hp → Prop}
    (hq : wp G (d + 10) (mt 51) 4 [some (.long v), none, some (.int 0), some (.int 65536), none, none] [] (147, f, I, RP f sw) Q) :
    wp G (d + 10) (mt 51) 0 (en (mt 51) [.long v]) [] (147, f, I, RP f sw) Q := vc_wp o [(51, 4, [0, 2, 3])] [] 600 rfl hq

-- WreckCourt.root(J)I, entry 4
set_option maxRecDepth 100000 in
set_option maxHeartbeats 4000000 in
theorem v_root4 (o : OKs) {G : GX} {d f : Nat} {sw : Bool} {I : Nat → Nat → Int32} {v : Int64} {w : Int32} {b : Int32} {Q : Option Value → Hp → Prop}
    (hq : if b ≤ 0 then Q (some (.int w)) (147, f, I, RP f sw) else if 0 < lg_cmp ((w + b).toInt64 * (w + b).toInt64) v then wp G (d + 10) (mt 51) 4 [some (.long v), none, some (.int w), some (.int (b >>> (1 &&& 31))), none, none] [] (147, f, I, RP f sw) Q else wp G (d + 10) (mt 51) 4 [some (.long v), none, some (.int (w + b)), some (.int (b >>> (1 &&& 31))), none, none] [] (147, f, I, RP f sw) Q) :
    wp G (d + 10) (mt 51) 4 [some (.long v), none, some (.int w), some (.int b), none, none] [] (147, f, I, RP f sw) Q := vc_wp o [(51, 4, [0, 2, 3])] [] 600 rfl hq

-- WreckCourtModel.root(J)I, entry 0
set_option maxRecDepth 100000 in
set_option maxHeartbeats 4000000 in
theorem v_Mroot (o : OKs) {G : GX} {d f : Nat} {sw : Bool} {I : Nat → Nat → Int32} {v : Int64} {Q : Option Value → Hp → Prop}
    (hq : wp G (d + 10) (mt 204) 4 [some (.long v), none, some (.int 0), some (.int 131072), none, none] [] (147, f, I, RP f sw) Q) :
    wp G (d + 10) (mt 204) 0 (en (mt 204) [.long v]) [] (147, f, I, RP f sw) Q := vc_wp o [(204, 4, [0, 2, 3])] [] 600 rfl hq

-- WreckCourtModel.root(J)I, entry 4
set_option maxRecDepth 100000 in
set_option maxHeartbeats 4000000 in
theorem v_Mroot4 (o : OKs) {G : GX} {d f : Nat} {sw : Bool} {I : Nat → Nat → Int32} {v : Int64} {w : Int32} {b : Int32} {Q : Option Value → Hp → Prop}
    (hq : if b ≤ 0 then Q (some (.int w)) (147, f, I, RP f sw) else if 0 < lg_cmp ((w + b).toInt64 * (w + b).toInt64) v then wp G (d + 10) (mt 204) 4 [some (.long v), none, some (.int (w + 0)), some (.int (b / 2)), none, none] [] (147, f, I, RP f sw) Q else wp G (d + 10) (mt 204) 4 [some (.long v), none, some (.int (w + b)), some (.int (b / 2)), none, none] [] (147, f, I, RP f sw) Q) :
    wp G (d + 10) (mt 204) 4 [some (.long v), none, some (.int w), some (.int b), none, none] [] (147, f, I, RP f sw) Q := vc_wp o [(204, 4, [0, 2, 3])] [] 600 rfl hq

-- WreckCourtModel.orderOf(II)I, entry 0
set_option maxRecDepth 100000 in
set_option maxHeartbeats 4000000 in
theorem v_MorderOf (o : OKs) {G : GX} {d f : Nat} {sw : Bool} {I : Nat → Nat → Int32} {s : Int32} {m : Int32} {Q : Option Value → Hp → Prop}
    (hq : wp G (d + 10) (mt 198) 4 [some (.ref 93), some (.int s), some (.int m), some (.int (-1000000)), some (.int 0)] [] (147, f, I, RP f sw) Q) :
    wp G (d + 10) (mt 198) 0 (en (mt 198) [.ref 93, .int s, .int m]) [] (147, f, I, RP f sw) Q := vc_wp o [(198, 4, [0, 1, 2, 3, 4])] [] 600 rfl hq

-- WreckCourtModel.orderOf(II)I, entry 4
set_option maxRecDepth 100000 in
set_option maxHeartbeats 4000000 in
theorem v_MorderOf4 (o : OKs) {G : GX} {d f : Nat} {sw : Bool} {I : Nat → Nat → Int32} {s : Int32} {m : Int32} {b : Int32} {k : Int32} {Q : Option Value → Hp → Prop}
    (hq : if (I 93 10) ≤ k then Q (some (.int b)) (147, f, I, RP f sw) else ck (ixB k 60) (if (I 101 k.toNatClampNeg) = s then ck (ixB k 60) (if m < (I 102 k.toNatClampNeg) then wp G (d + 10) (mt 198) 4 [some (.ref 93), some (.int s), some (.int m), some (.int b), some (.int (k + Int32.ofInt 1))] [] (147, f, I, RP f sw) Q else if b = (-1000000) then wp G (d + 10) (mt 198) 4 [some (.ref 93), some (.int s), some (.int m), some (.int k), some (.int (k + Int32.ofInt 1))] [] (147, f, I, RP f sw) Q else ck (ixB k 60) (ck (ixB b 60) (if (I 102 k.toNatClampNeg) < (I 102 b.toNatClampNeg) then wp G (d + 10) (mt 198) 4 [some (.ref 93), some (.int s), some (.int m), some (.int b), some (.int (k + Int32.ofInt 1))] [] (147, f, I, RP f sw) Q else wp G (d + 10) (mt 198) 4 [some (.ref 93), some (.int s), some (.int m), some (.int k), some (.int (k + Int32.ofInt 1))] [] (147, f, I, RP f sw) Q))) else wp G (d + 10) (mt 198) 4 [some (.ref 93), some (.int s), some (.int m), some (.int b), some (.int (k + Int32.ofInt 1))] [] (147, f, I, RP f sw) Q)) :
    wp G (d + 10) (mt 198) 4 [some (.ref 93), some (.int s), some (.int m), some (.int b), some (.int k)] [] (147, f, I, RP f sw) Q := vc_wp o [(198, 4, [0, 1, 2, 3, 4])] [] 600 rfl hq

-- WreckCourtModel.sail()V, entry 0
set_option maxRecDepth 100000 in
set_option maxHeartbeats 4000000 in
theorem v_Msail (o : OKs) {G : GX} {d f : Nat} {sw : Bool} {I : Nat → Nat → Int32}  {Q : Option Value → Hp → Prop}
    (hq : wp G (d + 20) (mt 197) 2 [some (.ref 93), some (.int 0), none, none, none, none] [] (147, f, I, RP f sw) Q) :
    wp G (d + 20) (mt 197) 0 (en (mt 197) [.ref 93]) [] (147, f, I, RP f sw) Q := vc_wp o [(197, 2, [0, 1]), (197, 28, [0, 1, 2])] [] 600 rfl hq

-- WreckCourtModel.sail()V, entry 2
set_option maxRecDepth 100000 in
set_option maxHeartbeats 4000000 in
theorem v_Msail2 (o : OKs) {G : GX} {d f : Nat} {sw : Bool} {I : Nat → Nat → Int32} {s : Int32} {Q : Option Value → Hp → Prop}
    (hq : if (I 93 7) ≤ s then Q none (147, f, I, RP f sw) else ck (ixB s 4) (ck (ixB (241 * s) 964) (ck (ixB s 4) (ck (ixB (241 * s) 964) (wp G (d + 20) (mt 197) 28 [some (.ref 93), some (.int s), some (.int 0), none, none, none] [] (147, f, upI (upI I 107 ((241 * s).toNatClampNeg) (I 99 s.toNatClampNeg)) 108 ((241 * s).toNatClampNeg) (I 100 s.toNatClampNeg), RP f sw) Q))))) :
    wp G (d + 20) (mt 197) 2 [some (.ref 93), some (.int s), none, none, none, none] [] (147, f, I, RP f sw) Q := vc_wp o [(197, 2, [0, 1]), (197, 28, [0, 1, 2])] [] 600 rfl hq

-- WreckCourtModel.sail()V, entry 28
set_option maxRecDepth 100000 in
set_option maxHeartbeats 4000000 in
theorem v_Msail28 (o : OKs) {G : GX} {d f : Nat} {sw : Bool} {I : Nat → Nat → Int32} {s : Int32} {m : Int32} {Q : Option Value → Hp → Prop}
    (hq : if 240 ≤ m then wp G (d + 20) (mt 197) 2 [some (.ref 93), some (.int (s + Int32.ofInt 1)), none, none, none, none] [] (147, f, I, RP f sw) Q else wp G (d + 19) (mt 198) 0 (en (mt 198) [.ref 93, .int s, .int m]) [] (147, f, I, RP f sw) (fun v h1 => ∃ (x2 : Int32) (I1 : Nat → Nat → Int32), v = some (.int x2) ∧ h1 = (147, f, I1, RP f sw) ∧ (wp G (d + 20) (mt 197) 36 [some (.ref 93), some (.int s), some (.int m), some (.int x2), none, none] [] (147, f, I1, RP f sw) Q))) :
    wp G (d + 20) (mt 197) 28 [some (.ref 93), some (.int s), some (.int m), none, none, none] [] (147, f, I, RP f sw) Q := vc_wp o [(197, 2, [0, 1]), (197, 28, [0, 1, 2]), (197, 36, [0, 1, 2, 3])] [] 600 rfl hq

-- WreckCourtModel.sail()V, entry 36
set_option maxRecDepth 100000 in
set_option maxHeartbeats 4000000 in
theorem v_Msail36 (o : OKs) {G : GX} {d f : Nat} {sw : Bool} {I : Nat → Nat → Int32} {s : Int32} {m : Int32} {k : Int32} {Q : Option Value → Hp → Prop}
    (hq : if k = (-1000000) then if k = (-1000000) then wp G (d + 20) (mt 197) 56 [some (.ref 93), some (.int s), some (.int m), none, some (.int 0), some (.int 0)] [] (147, f, I, RP f sw) Q else ck (ixB k 60) (wp G (d + 20) (mt 197) 56 [some (.ref 93), some (.int s), some (.int m), none, some (.int 0), some (.int (I 103 k.toNatClampNeg))] [] (147, f, I, RP f sw) Q) else ck (ixB k 60) (if k = (-1000000) then wp G (d + 20) (mt 197) 56 [some (.ref 93), some (.int s), some (.int m), none, some (.int (I 104 k.toNatClampNeg)), some (.int 0)] [] (147, f, I, RP f sw) Q else ck (ixB k 60) (wp G (d + 20) (mt 197) 56 [some (.ref 93), some (.int s), some (.int m), none, some (.int (I 104 k.toNatClampNeg)), some (.int (I 103 k.toNatClampNeg))] [] (147, f, I, RP f sw) Q))) :
    wp G (d + 20) (mt 197) 36 [some (.ref 93), some (.int s), some (.int m), some (.int k), none, none] [] (147, f, I, RP f sw) Q := vc_wp o [(197, 2, [0, 1]), (197, 28, [0, 1, 2]), (197, 56, [0, 1, 2, 4, 5])] [] 600 rfl hq

-- WreckCourtModel.sail()V, entry 56
set_option maxRecDepth 100000 in
set_option maxHeartbeats 4000000 in
theorem v_Msail56 (o : OKs) {G : GX} {d f : Nat} {sw : Bool} {I : Nat → Nat → Int32} {s : Int32} {m : Int32} {v : Int32} {c : Int32} {Q : Option Value → Hp → Prop}
    (hq : ck (ixB ((241 * s) + m) 964) (ck (ixB c 16) (ck (ixB m 240) (ck (ixB (((241 * s) + m) + 1) 964) (ck (ixB ((241 * s) + m) 964) (ck (ixB c 16) (ck (ixB m 240) (ck (ixB (((241 * s) + m) + 1) 964) (wp G (d + 20) (mt 197) 28 [some (.ref 93), some (.int s), some (.int (m + Int32.ofInt 1)), none, none, none] [] (147, f, upI (upI I 107 ((((241 * s) + m) + 1).toNatClampNeg) (((I 107 (((241 * s) + m).toNatClampNeg)) + (((I 97 c.toNatClampNeg) * v) / 100)) + (I 105 m.toNatClampNeg))) 108 ((((241 * s) + m) + 1).toNatClampNeg) (((I 108 (((241 * s) + m).toNatClampNeg)) + (((I 98 c.toNatClampNeg) * v) / 100)) + (I 106 m.toNatClampNeg)), RP f sw) Q))))))))) :
    wp G (d + 20) (mt 197) 56 [some (.ref 93), some (.int s), some (.int m), none, some (.int v), some (.int c)] [] (147, f, I, RP f sw) Q := vc_wp o [(197, 2, [0, 1]), (197, 28, [0, 1, 2])] [] 600 rfl hq

-- WreckCourt$Sea.takeStep(II)V, entry 0
set_option maxRecDepth 100000 in
set_option maxHeartbeats 4000000 in
theorem v_step0 (o : OKs) {G : GX} {d f : Nat} {sw : Bool} {I : Nat → Nat → Int32} {m : Int32} {Q : Option Value → Hp → Prop}
    (hq : ck (ixB m 240) (ck (ixB m 241) (ck (ixB ((I 28 0) >>> (6 &&& 31)) 16) (ck (ixB m 240) (ck (ixB (m + 1) 241) (ck (ixB m 241) (ck (ixB ((I 28 0) >>> (6 &&& 31)) 16) (ck (ixB m 240) (ck (ixB (m + 1) 241) (Q none (147, f, upI (upI (upI I 22 m.toNatClampNeg (I 28 0)) 12 ((m + 1).toNatClampNeg) (((I 12 m.toNatClampNeg) + (((kA 100100 ((I 28 0) >>> (6 &&& 31)).toNatClampNeg) * ((I 28 0) &&& 63)) / 100)) + (I 26 m.toNatClampNeg))) 17 ((m + 1).toNatClampNeg) (((I 17 m.toNatClampNeg) + (((kA 100101 ((I 28 0) >>> (6 &&& 31)).toNatClampNeg) * ((I 28 0) &&& 63)) / 100)) + (I 27 m.toNatClampNeg)), RP f sw))))))))))) :
    wp G (d + 20) (mt 42) 0 (en (mt 42) [.ref 2, .int 0, .int m]) [] (147, f, I, RP f sw) Q := vc_wp o [] [] 600 rfl hq

-- WreckCourt$Sea.takeStep(II)V, entry 0
set_option maxRecDepth 100000 in
set_option maxHeartbeats 4000000 in
theorem v_step1 (o : OKs) {G : GX} {d f : Nat} {sw : Bool} {I : Nat → Nat → Int32} {m : Int32} {Q : Option Value → Hp → Prop}
    (hq : ck (ixB m 240) (ck (ixB m 241) (ck (ixB ((I 28 1) >>> (6 &&& 31)) 16) (ck (ixB m 240) (ck (ixB (m + 1) 241) (ck (ixB m 241) (ck (ixB ((I 28 1) >>> (6 &&& 31)) 16) (ck (ixB m 240) (ck (ixB (m + 1) 241) (Q none (147, f, upI (upI (upI I 23 m.toNatClampNeg (I 28 1)) 13 ((m + 1).toNatClampNeg) (((I 13 m.toNatClampNeg) + (((kA 100100 ((I 28 1) >>> (6 &&& 31)).toNatClampNeg) * ((I 28 1) &&& 63)) / 100)) + (I 26 m.toNatClampNeg))) 18 ((m + 1).toNatClampNeg) (((I 18 m.toNatClampNeg) + (((kA 100101 ((I 28 1) >>> (6 &&& 31)).toNatClampNeg) * ((I 28 1) &&& 63)) / 100)) + (I 27 m.toNatClampNeg)), RP f sw))))))))))) :
    wp G (d + 20) (mt 42) 0 (en (mt 42) [.ref 2, .int 1, .int m]) [] (147, f, I, RP f sw) Q := vc_wp o [] [] 600 rfl hq

-- WreckCourt$Sea.takeStep(II)V, entry 0
set_option maxRecDepth 100000 in
set_option maxHeartbeats 4000000 in
theorem v_step2 (o : OKs) {G : GX} {d f : Nat} {sw : Bool} {I : Nat → Nat → Int32} {m : Int32} {Q : Option Value → Hp → Prop}
    (hq : ck (ixB m 240) (ck (ixB m 241) (ck (ixB ((I 28 2) >>> (6 &&& 31)) 16) (ck (ixB m 240) (ck (ixB (m + 1) 241) (ck (ixB m 241) (ck (ixB ((I 28 2) >>> (6 &&& 31)) 16) (ck (ixB m 240) (ck (ixB (m + 1) 241) (Q none (147, f, upI (upI (upI I 24 m.toNatClampNeg (I 28 2)) 14 ((m + 1).toNatClampNeg) (((I 14 m.toNatClampNeg) + (((kA 100100 ((I 28 2) >>> (6 &&& 31)).toNatClampNeg) * ((I 28 2) &&& 63)) / 100)) + (I 26 m.toNatClampNeg))) 19 ((m + 1).toNatClampNeg) (((I 19 m.toNatClampNeg) + (((kA 100101 ((I 28 2) >>> (6 &&& 31)).toNatClampNeg) * ((I 28 2) &&& 63)) / 100)) + (I 27 m.toNatClampNeg)), RP f sw))))))))))) :
    wp G (d + 20) (mt 42) 0 (en (mt 42) [.ref 2, .int 2, .int m]) [] (147, f, I, RP f sw) Q := vc_wp o [] [] 600 rfl hq

-- WreckCourt$Sea.takeStep(II)V, entry 0
set_option maxRecDepth 100000 in
set_option maxHeartbeats 4000000 in
theorem v_step3 (o : OKs) {G : GX} {d f : Nat} {sw : Bool} {I : Nat → Nat → Int32} {m : Int32} {Q : Option Value → Hp → Prop}
    (hq : ck (ixB m 240) (ck (ixB m 241) (ck (ixB ((I 28 3) >>> (6 &&& 31)) 16) (ck (ixB m 240) (ck (ixB (m + 1) 241) (ck (ixB m 241) (ck (ixB ((I 28 3) >>> (6 &&& 31)) 16) (ck (ixB m 240) (ck (ixB (m + 1) 241) (Q none (147, f, upI (upI (upI I 25 m.toNatClampNeg (I 28 3)) 15 ((m + 1).toNatClampNeg) (((I 15 m.toNatClampNeg) + (((kA 100100 ((I 28 3) >>> (6 &&& 31)).toNatClampNeg) * ((I 28 3) &&& 63)) / 100)) + (I 26 m.toNatClampNeg))) 20 ((m + 1).toNatClampNeg) (((I 20 m.toNatClampNeg) + (((kA 100101 ((I 28 3) >>> (6 &&& 31)).toNatClampNeg) * ((I 28 3) &&& 63)) / 100)) + (I 27 m.toNatClampNeg)), RP f sw))))))))))) :
    wp G (d + 20) (mt 42) 0 (en (mt 42) [.ref 2, .int 3, .int m]) [] (147, f, I, RP f sw) Q := vc_wp o [] [] 600 rfl hq

-- WreckCourt$Sea.walk()V, entry 0
set_option maxRecDepth 100000 in
set_option maxHeartbeats 4000000 in
theorem v_walk (o : OKs) {G : GX} {d f : Nat} {sw : Bool} {I : Nat → Nat → Int32}  {Q : Option Value → Hp → Prop}
    (hq : if (I 2 9) = 0 then Q none (147, f, I, RP f sw) else wp G (d + 39) (mt 5) 0 (en (mt 5) [.ref 28, .int 0]) [] (147, f, I, RP f sw) (fun v h1 => ∃ I1 : Nat → Nat → Int32, v = none ∧ h1 = (147, f, I1, RP f sw) ∧ (wp G (d + 40) (mt 40) 12 [some (.ref 2), some (.int 0), some (.int 0), none] [] (147, f, I1, RP f sw) Q))) :
    wp G (d + 40) (mt 40) 0 (en (mt 40) [.ref 2]) [] (147, f, I, RP f sw) Q := vc_wp o [(40, 12, [0, 1, 2]), (40, 25, [0, 1, 2, 3])] [] 600 rfl hq

-- WreckCourt$Sea.walk()V, entry 12
set_option maxRecDepth 100000 in
set_option maxHeartbeats 4000000 in
theorem v_walk12 (o : OKs) {G : GX} {d f : Nat} {sw : Bool} {I : Nat → Nat → Int32} {n : Int32} {m : Int32} {Q : Option Value → Hp → Prop}
    (hq : if 240 ≤ m then Q none (147, f, upI I 2 9 0, RP f sw) else wp G (d + 39) (mt 41) 0 (en (mt 41) [.ref 3, .int m, .int n, .ref 28]) [] (147, f, I, RP f sw) (fun v h1 => ∃ (x2 : Int32) (I1 : Nat → Nat → Int32), v = some (.int x2) ∧ h1 = (147, f, I1, RP f sw) ∧ (wp G (d + 40) (mt 40) 25 [some (.ref 2), some (.int x2), some (.int m), some (.int 0)] [] (147, f, I1, RP f sw) Q))) :
    wp G (d + 40) (mt 40) 12 [some (.ref 2), some (.int n), some (.int m), none] [] (147, f, I, RP f sw) Q := vc_wp o [(40, 12, [0, 1, 2]), (40, 25, [0, 1, 2, 3])] [] 600 rfl hq

-- WreckCourt$Sea.walk()V, entry 25
set_option maxRecDepth 100000 in
set_option maxHeartbeats 4000000 in
theorem v_walk25 (o : OKs) {G : GX} {d f : Nat} {sw : Bool} {I : Nat → Nat → Int32} {n : Int32} {m : Int32} {i : Int32} {Q : Option Value → Hp → Prop}
    (hq : if (I 2 2) ≤ i then wp G (d + 40) (mt 40) 12 [some (.ref 2), some (.int n), some (.int (m + Int32.ofInt 1)), none] [] (147, f, I, RP f sw) Q else wp G (d + 39) (mt 42) 0 (en (mt 42) [.ref 2, .int i, .int m]) [] (147, f, I, RP f sw) (fun v h1 => ∃ I1 : Nat → Nat → Int32, v = none ∧ h1 = (147, f, I1, RP f sw) ∧ (wp G (d + 40) (mt 40) 25 [some (.ref 2), some (.int n), some (.int m), some (.int (i + Int32.ofInt 1))] [] (147, f, I1, RP f sw) Q))) :
    wp G (d + 40) (mt 40) 25 [some (.ref 2), some (.int n), some (.int m), some (.int i)] [] (147, f, I, RP f sw) Q := vc_wp o [(40, 12, [0, 1, 2]), (40, 25, [0, 1, 2, 3])] [] 600 rfl hq

-- WreckCourt$Told.play(II[I)I, entry 0
set_option maxRecDepth 100000 in
set_option maxHeartbeats 4000000 in
theorem v_playO (o : OKs) {G : GX} {d f : Nat} {sw : Bool} {I : Nat → Nat → Int32} {m : Int32} {n : Int32} {Q : Option Value → Hp → Prop}
    (hq : wp G (d + 20) (mt 41) 2 [some (.ref 3), some (.int m), none, some (.ref 28), some (.int n)] [] (147, f, I, RP f sw) Q) :
    wp G (d + 20) (mt 41) 0 (en (mt 41) [.ref 3, .int m, .int n, .ref 28]) [] (147, f, I, RP f sw) Q := vc_wp o [(41, 2, [0, 1, 3, 4])] [] 600 rfl hq

-- WreckCourt$Told.play(II[I)I, entry 2
set_option maxRecDepth 100000 in
set_option maxHeartbeats 4000000 in
theorem v_playO2 (o : OKs) {G : GX} {d f : Nat} {sw : Bool} {I : Nat → Nat → Int32} {m : Int32} {a : Int32} {Q : Option Value → Hp → Prop}
    (hq : if (I 3 3) ≤ a then Q (some (.int a)) (147, f, I, RP f sw) else ck (ixB a 60) (if m < (I 5 a.toNatClampNeg) then Q (some (.int a)) (147, f, I, RP f sw) else ck (ixB a 60) (ck (ixB a 60) (ck (ixB (I 4 a.toNatClampNeg) 4) (wp G (d + 20) (mt 41) 2 [some (.ref 3), some (.int m), none, some (.ref 28), some (.int (a + Int32.ofInt 1))] [] (147, f, upI I 28 ((I 4 a.toNatClampNeg).toNatClampNeg) (I 6 a.toNatClampNeg), RP f sw) Q))))) :
    wp G (d + 20) (mt 41) 2 [some (.ref 3), some (.int m), none, some (.ref 28), some (.int a)] [] (147, f, I, RP f sw) Q := vc_wp o [(41, 2, [0, 1, 3, 4])] [] 600 rfl hq

-- WreckCourt$Told.play(II[I)I, entry 0
set_option maxRecDepth 100000 in
set_option maxHeartbeats 4000000 in
theorem v_playD (o : OKs) {G : GX} {d f : Nat} {sw : Bool} {I : Nat → Nat → Int32} {m : Int32} {n : Int32} {Q : Option Value → Hp → Prop}
    (hq : wp G (d + 20) (mt 41) 2 [some (.ref 30), some (.int m), none, some (.ref 38), some (.int n)] [] (147, f, I, RP f sw) Q) :
    wp G (d + 20) (mt 41) 0 (en (mt 41) [.ref 30, .int m, .int n, .ref 38]) [] (147, f, I, RP f sw) Q := vc_wp o [(41, 2, [0, 1, 3, 4])] [] 600 rfl hq

-- WreckCourt$Told.play(II[I)I, entry 2
set_option maxRecDepth 100000 in
set_option maxHeartbeats 4000000 in
theorem v_playD2 (o : OKs) {G : GX} {d f : Nat} {sw : Bool} {I : Nat → Nat → Int32} {m : Int32} {a : Int32} {Q : Option Value → Hp → Prop}
    (hq : if (I 30 3) ≤ a then Q (some (.int a)) (147, f, I, RP f sw) else ck (ixB a 30) (if m < (I 32 a.toNatClampNeg) then Q (some (.int a)) (147, f, I, RP f sw) else ck (ixB a 30) (ck (ixB a 30) (ck (ixB (I 31 a.toNatClampNeg) 5) (wp G (d + 20) (mt 41) 2 [some (.ref 30), some (.int m), none, some (.ref 38), some (.int (a + Int32.ofInt 1))] [] (147, f, upI I 38 ((I 31 a.toNatClampNeg).toNatClampNeg) (I 33 a.toNatClampNeg), RP f sw) Q))))) :
    wp G (d + 20) (mt 41) 2 [some (.ref 30), some (.int m), none, some (.ref 38), some (.int a)] [] (147, f, I, RP f sw) Q := vc_wp o [(41, 2, [0, 1, 3, 4])] [] 600 rfl hq
