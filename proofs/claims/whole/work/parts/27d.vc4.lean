/-! CONDITIONS of copy, tide, order, door -/
/-- a load from an int array at any place -/
theorem st_iaload {G : GX} {d id j pc : Nat} {a : List Nat} {w : Value} {lv : Lc} {r : List Value} {i : Int32} {p : Nat} {h : Hp} {Q : Option Value → Hp → Prop} (hi : useB id = true) (hf : ft (mt id) j = some (.iaload, pc, a, w)) (hp : p < 100000) (ho : okB h p 20 = true) (hx : ixB i (SH p).2 = true) (k : wp G d (mt id) (j + 1) lv (.int (h.2.2.1 p i.toNatClampNeg) :: r) h Q) : wp G d (mt id) j lv (.int i :: .ref p :: r) h Q := by
  refine vc_wp oks [] [] 1 hi ?_
  unfold vc
  rw [hf]
  show if p < 100000 then ck (okB h p 20) (ck (ixB i (SH p).2) (wp G d (mt id) (j + 1) lv (.int (h.2.2.1 p i.toNatClampNeg) :: r) h Q)) else _
  rw [if_pos hp, ho, hx]
  exact k

-- WreckCourt.copy(IIIII)I, entry 0
set_option maxRecDepth 100000 in
set_option maxHeartbeats 4000000 in
theorem v_Ccopy (o : OKs) {G : GX} {d f : Nat} {sw : Bool} {I : Nat → Nat → Int32} {a : Int32} {i : Int32} {b : Int32} {j : Int32} {n : Int32} {Q : Option Value → Hp → Prop}
    (hq : if a < 0 then Q (some (.int (-1000001))) (147, f, I, RP f sw) else if 7 < a then Q (some (.int (-1000001))) (147, f, I, RP f sw) else if b < 0 then Q (some (.int (-1000001))) (147, f, I, RP f sw) else if 7 < b then Q (some (.int (-1000001))) (147, f, I, RP f sw) else ck (ixB a 8) (oV ((RP f sw) 1 a.toNatClampNeg) (fun q1 => ck (ixB b 8) (oV ((RP f sw) 1 b.toNatClampNeg) (fun q2 => ck (okB (147, f, I, RP f sw) q1 6) (if (I q1 1) = 0 then Q (some (.int ((-1000010) - 1))) (147, f, upI I 0 11 1, RP f sw) else ck (okB (147, f, I, RP f sw) q2 6) (if (I q2 1) = 0 then Q (some (.int ((-1000010) - 1))) (147, f, upI I 0 11 1, RP f sw) else ck (okB (147, f, I, RP f sw) q1 6) (ck (okB (147, f, I, RP f sw) q2 6) (if (I q1 2) = (I q2 2) then ck (okB (147, f, I, RP f sw) q1 6) (if i < 0 then Q (some (.int ((-1000010) - 2))) (147, f, upI I 0 11 2, RP f sw) else if n < 0 then Q (some (.int ((-1000010) - 2))) (147, f, upI I 0 11 2, RP f sw) else ck (okB (147, f, I, RP f sw) q1 6) (if ((I q1 3) - i) < n then Q (some (.int ((-1000010) - 2))) (147, f, upI I 0 11 2, RP f sw) else ck (okB (147, f, I, RP f sw) q2 6) (if j < 0 then Q (some (.int ((-1000010) - 2))) (147, f, upI I 0 11 2, RP f sw) else if n < 0 then Q (some (.int ((-1000010) - 2))) (147, f, upI I 0 11 2, RP f sw) else ck (okB (147, f, I, RP f sw) q2 6) (if ((I q2 3) - j) < n then Q (some (.int ((-1000010) - 2))) (147, f, upI I 0 11 2, RP f sw) else ck (okB (147, f, I, RP f sw) q1 6) (oV ((RP f sw) q1 0) (fun q3 => ck (okB (147, f, I, RP f sw) q2 6) (oV ((RP f sw) q2 0) (fun q4 => ck (okB (147, f, I, RP f sw) q3 20 && (okB (147, f, I, RP f sw) q4 20 && (decide (0 ≤ i) && (decide (0 ≤ j) && (decide (0 ≤ n) && (decide (i.toNatClampNeg + n.toNatClampNeg ≤ (SH q3).2) && decide (j.toNatClampNeg + n.toNatClampNeg ≤ (SH q4).2))))))) (Q (some (.int n)) (147, f, upI (fun q => if q = q4 then va_cpy (I q3) (I q4) i.toNatClampNeg j.toNatClampNeg n.toNatClampNeg else I q) 0 11 0, RP f sw)))))))))) else Q (some (.int ((-1000010) - 5))) (147, f, upI I 0 11 5, RP f sw)))))))))) :
    wp G (d + 10) (mt 20) 0 (en (mt 20) [.ref 0, .int a, .int i, .int b, .int j, .int n]) [] (147, f, I, RP f sw) Q := vc_wp o [] [12, 13, 14, 16, 18] 600 rfl hq

-- WreckCourtModel.copy(IIIII)I, entry 0
set_option maxRecDepth 100000 in
set_option maxHeartbeats 4000000 in
theorem v_Mcopy (o : OKs) {G : GX} {d f : Nat} {sw : Bool} {I : Nat → Nat → Int32} {a : Int32} {i : Int32} {b : Int32} {j : Int32} {n : Int32} {Q : Option Value → Hp → Prop}
    (hq : if lg_cmp a.toInt64 0 < 0 then Q (some (.int (-1000001))) (147, f, upI I 93 0 0, RP f sw) else if 0 < lg_cmp a.toInt64 7 then Q (some (.int (-1000001))) (147, f, upI I 93 0 0, RP f sw) else if lg_cmp b.toInt64 0 < 0 then Q (some (.int (-1000001))) (147, f, upI I 93 0 0, RP f sw) else if 0 < lg_cmp b.toInt64 7 then Q (some (.int (-1000001))) (147, f, upI I 93 0 0, RP f sw) else ck (ixB a 8) (if (I 94 a.toNatClampNeg) < 0 then Q (some (.int ((-1000010) - 1))) (147, f, upI (upI (upI I 93 0 0) 93 1 0) 93 1 1, RP f sw) else ck (ixB b 8) (if 0 ≤ (I 94 b.toNatClampNeg) then ck (ixB a 8) (ck (ixB b 8) (if (I 94 a.toNatClampNeg) = (I 94 b.toNatClampNeg) then if i < 0 then Q (some (.int ((-1000010) - 2))) (147, f, upI (upI (upI I 93 0 0) 93 1 0) 93 1 2, RP f sw) else if j < 0 then Q (some (.int ((-1000010) - 2))) (147, f, upI (upI (upI I 93 0 0) 93 1 0) 93 1 2, RP f sw) else if n < 0 then Q (some (.int ((-1000010) - 2))) (147, f, upI (upI (upI I 93 0 0) 93 1 0) 93 1 2, RP f sw) else ck (ixB a 8) (if 0 < lg_cmp (i.toInt64 + n.toInt64) ((I 95 a.toNatClampNeg).toInt64) then Q (some (.int ((-1000010) - 2))) (147, f, upI (upI (upI I 93 0 0) 93 1 0) 93 1 2, RP f sw) else ck (ixB b 8) (if lg_cmp (j.toInt64 + n.toInt64) ((I 95 b.toNatClampNeg).toInt64) ≤ 0 then wp G (d + 10) (mt 187) 75 [some (.ref 93), some (.int a), some (.int i), some (.int b), some (.int j), some (.int n), none, none, none] [] (147, f, upI (upI I 93 0 0) 93 1 0, RP f sw) Q else Q (some (.int ((-1000010) - 2))) (147, f, upI (upI (upI I 93 0 0) 93 1 0) 93 1 2, RP f sw))) else Q (some (.int ((-1000010) - 5))) (147, f, upI (upI (upI I 93 0 0) 93 1 0) 93 1 5, RP f sw))) else Q (some (.int ((-1000010) - 1))) (147, f, upI (upI (upI I 93 0 0) 93 1 0) 93 1 1, RP f sw)))) :
    wp G (d + 10) (mt 187) 0 (en (mt 187) [.ref 93, .int a, .int i, .int b, .int j, .int n]) [] (147, f, I, RP f sw) Q := vc_wp o [(187, 75, [0, 1, 2, 3, 4, 5]), (187, 84, [0, 1, 2, 3, 4, 5, 6, 7])] [183, 184, 185] 600 rfl hq

-- WreckCourtModel.copy(IIIII)I, entry 75
set_option maxRecDepth 100000 in
set_option maxHeartbeats 4000000 in
theorem v_Mcopy75 (o : OKs) {G : GX} {d f : Nat} {sw : Bool} {I : Nat → Nat → Int32} {a : Int32} {i : Int32} {b : Int32} {j : Int32} {n : Int32} {Q : Option Value → Hp → Prop}
    (hq : if i < j then wp G (d + 10) (mt 187) 84 [some (.ref 93), some (.int a), some (.int i), some (.int b), some (.int j), some (.int n), some (.int 0), some (.int 0), none] [] (147, f, I, RP f sw) Q else wp G (d + 10) (mt 187) 84 [some (.ref 93), some (.int a), some (.int i), some (.int b), some (.int j), some (.int n), some (.int 1), some (.int 0), none] [] (147, f, I, RP f sw) Q) :
    wp G (d + 10) (mt 187) 75 [some (.ref 93), some (.int a), some (.int i), some (.int b), some (.int j), some (.int n), none, none, none] [] (147, f, I, RP f sw) Q := vc_wp o [(187, 84, [0, 1, 2, 3, 4, 5, 6, 7])] [] 600 rfl hq

-- WreckCourtModel.copy(IIIII)I, entry 84
set_option maxRecDepth 100000 in
set_option maxHeartbeats 4000000 in
theorem v_Mcopy84 (o : OKs) {G : GX} {d f : Nat} {sw : Bool} {I : Nat → Nat → Int32} {a : Int32} {i : Int32} {b : Int32} {j : Int32} {n : Int32} {u : Int32} {k : Int32} {Q : Option Value → Hp → Prop}
    (hq : if n ≤ k then Q (some (.int n)) (147, f, I, RP f sw) else if u = 0 then wp G (d + 10) (mt 187) 97 [some (.ref 93), some (.int a), some (.int i), some (.int b), some (.int j), some (.int n), some (.int u), some (.int k), some (.int ((n - 1) - k))] [] (147, f, I, RP f sw) Q else wp G (d + 10) (mt 187) 97 [some (.ref 93), some (.int a), some (.int i), some (.int b), some (.int j), some (.int n), some (.int u), some (.int k), some (.int k)] [] (147, f, I, RP f sw) Q) :
    wp G (d + 10) (mt 187) 84 [some (.ref 93), some (.int a), some (.int i), some (.int b), some (.int j), some (.int n), some (.int u), some (.int k), none] [] (147, f, I, RP f sw) Q := vc_wp o [(187, 84, [0, 1, 2, 3, 4, 5, 6, 7]), (187, 97, [0, 1, 2, 3, 4, 5, 6, 7, 8])] [] 600 rfl hq

-- WreckCourtModel.copy(IIIII)I, entry 97
set_option maxRecDepth 100000 in
set_option maxHeartbeats 4000000 in
theorem v_Mcopy97 (o : OKs) {G : GX} {d f : Nat} {sw : Bool} {I : Nat → Nat → Int32} {a : Int32} {i : Int32} {b : Int32} {j : Int32} {n : Int32} {u : Int32} {k : Int32} {t : Int32} {Q : Option Value → Hp → Prop}
    (hq : ck (ixB (((120 * a) + i) + t) 960) (ck (ixB (((120 * b) + j) + t) 960) (wp G (d + 10) (mt 187) 84 [some (.ref 93), some (.int a), some (.int i), some (.int b), some (.int j), some (.int n), some (.int u), some (.int (k + Int32.ofInt 1)), none] [] (147, f, upI I 96 ((((120 * b) + j) + t).toNatClampNeg) (I 96 ((((120 * a) + i) + t).toNatClampNeg)), RP f sw) Q))) :
    wp G (d + 10) (mt 187) 97 [some (.ref 93), some (.int a), some (.int i), some (.int b), some (.int j), some (.int n), some (.int u), some (.int k), some (.int t)] [] (147, f, I, RP f sw) Q := vc_wp o [(187, 84, [0, 1, 2, 3, 4, 5, 6, 7])] [] 600 rfl hq

-- WreckCourt.tide(IIII)I, entry 0
set_option maxRecDepth 100000 in
set_option maxHeartbeats 4000000 in
theorem v_Ctide (o : OKs) {G : GX} {d f : Nat} {sw : Bool} {I : Nat → Nat → Int32} {m : Int32} {s : Int32} {i : Int32} {n : Int32} {Q : Option Value → Hp → Prop}
    (hq : if m < 0 then Q (some (.int (-1000001))) (147, f, I, RP f sw) else if 239 < m then Q (some (.int (-1000001))) (147, f, I, RP f sw) else if n < 1 then Q (some (.int (-1000001))) (147, f, I, RP f sw) else if 60 < n then Q (some (.int (-1000001))) (147, f, I, RP f sw) else if 240 < (m + n) then Q (some (.int (-1000001))) (147, f, I, RP f sw) else if s < 0 then Q (some (.int (-1000001))) (147, f, I, RP f sw) else if 7 < s then Q (some (.int (-1000001))) (147, f, I, RP f sw) else ck (ixB s 8) (oV ((RP f sw) 1 s.toNatClampNeg) (fun q1 => ck (okB (147, f, I, RP f sw) q1 6) (if (I q1 1) = 0 then Q (some (.int ((-1000010) - 1))) (147, f, upI I 0 11 1, RP f sw) else ck (okB (147, f, I, RP f sw) q1 6) (if i < 0 then Q (some (.int ((-1000010) - 2))) (147, f, upI I 0 11 2, RP f sw) else if (2 * n) < 0 then Q (some (.int ((-1000010) - 2))) (147, f, upI I 0 11 2, RP f sw) else ck (okB (147, f, I, RP f sw) q1 6) (if ((I q1 3) - i) < (2 * n) then Q (some (.int ((-1000010) - 2))) (147, f, upI I 0 11 2, RP f sw) else ck (okB (147, f, I, RP f sw) q1 6) (wp G (d + 9) (mt 32) 0 (en (mt 32) [.ref q1, .int i, .int (2 * n), .int 20]) [] (147, f, I, RP f sw) (fun v h1 => ∃ (x3 : Int32) (I2 : Nat → Nat → Int32), v = some (.int x3) ∧ h1 = (147, f, I2, RP f sw) ∧ (if x3 = 0 then Q (some (.int (-1000001))) (147, f, I2, RP f sw) else ck (okB (147, f, I2, RP f sw) q1 6) (oV ((RP f sw) q1 0) (fun q4 => wp G (d + 9) (mt 33) 0 (en (mt 33) [.ref 2, .int m, .ref q4, .int i, .int n]) [] (147, f, I2, RP f sw) (fun v h1 => ∃ I5 : Nat → Nat → Int32, v = none ∧ h1 = (147, f, I5, RP f sw) ∧ (Q (some (.int n)) (147, f, upI I5 0 11 0, RP f sw)))))))))))))) :
    wp G (d + 10) (mt 31) 0 (en (mt 31) [.ref 0, .int m, .int s, .int i, .int n]) [] (147, f, I, RP f sw) Q := vc_wp o [] [12, 13, 14, 16, 18, 27] 600 rfl hq

-- WreckCourt$Sheet.isWithin(III)Z, entry 0
set_option maxRecDepth 100000 in
set_option maxHeartbeats 4000000 in
theorem v_isWithin (o : OKs) {G : GX} {d f : Nat} {sw : Bool} {I : Nat → Nat → Int32} {q : Nat} {i : Int32} {n : Int32} {x : Int32} {Q : Option Value → Hp → Prop}
    (hq : wp G (d + 10) (mt 32) 4 [some (.ref q), some (.int i), some (.int n), some (.int x), some (.int 1), some (.int i)] [] (147, f, I, RP f sw) Q) :
    wp G (d + 10) (mt 32) 0 (en (mt 32) [.ref q, .int i, .int n, .int x]) [] (147, f, I, RP f sw) Q := vc_wp o [(32, 4, [0, 1, 2, 3, 4, 5])] [] 600 rfl hq

-- WreckCourt$Sheet.isWithin(III)Z, entry 4
set_option maxRecDepth 100000 in
set_option maxHeartbeats 4000000 in
theorem v_isWithin4 (o : OKs) {G : GX} {d f : Nat} {sw : Bool} {I : Nat → Nat → Int32} {q : Nat} {i : Int32} {n : Int32} {x : Int32} {b : Int32} {k : Int32} {Q : Option Value → Hp → Prop}
    (hq : if (i + n) ≤ k then ck (decide (b = 0) || decide (b = 1)) (Q (some (.int b)) (147, f, I, RP f sw)) else if b = 0 then wp G (d + 10) (mt 32) 4 [some (.ref q), some (.int i), some (.int n), some (.int x), some (.int 0), some (.int (k + Int32.ofInt 1))] [] (147, f, I, RP f sw) Q else ck (okB (147, f, I, RP f sw) q 6) (oV ((RP f sw) q 0) (fun q1 => wp G (d + 10) (mt 32) 14 [some (.ref q), some (.int i), some (.int n), some (.int x), none, some (.int k)] [.int k, .ref q1] (147, f, I, RP f sw) Q))) :
    wp G (d + 10) (mt 32) 4 [some (.ref q), some (.int i), some (.int n), some (.int x), some (.int b), some (.int k)] [] (147, f, I, RP f sw) Q := vc_wp o [(32, 4, [0, 1, 2, 3, 4, 5]), (32, 14, [0, 1, 2, 3, 5])] [] 600 rfl hq

-- WreckCourt$Sheet.isWithin(III)Z, entry 15
set_option maxRecDepth 100000 in
set_option maxHeartbeats 4000000 in
theorem v_isWithin15 (o : OKs) {G : GX} {d f : Nat} {sw : Bool} {I : Nat → Nat → Int32} {q : Nat} {i : Int32} {n : Int32} {x : Int32} {k : Int32} {y : Int32} {Q : Option Value → Hp → Prop}
    (hq : if y < (-x) then wp G (d + 10) (mt 32) 4 [some (.ref q), some (.int i), some (.int n), some (.int x), some (.int 0), some (.int (k + Int32.ofInt 1))] [] (147, f, I, RP f sw) Q else if x < y then wp G (d + 10) (mt 32) 4 [some (.ref q), some (.int i), some (.int n), some (.int x), some (.int 0), some (.int (k + Int32.ofInt 1))] [] (147, f, I, RP f sw) Q else wp G (d + 10) (mt 32) 4 [some (.ref q), some (.int i), some (.int n), some (.int x), some (.int 1), some (.int (k + Int32.ofInt 1))] [] (147, f, I, RP f sw) Q) :
    wp G (d + 10) (mt 32) 15 [some (.ref q), some (.int i), some (.int n), some (.int x), none, some (.int k)] [.int y] (147, f, I, RP f sw) Q := vc_wp o [(32, 4, [0, 1, 2, 3, 4, 5])] [13] 600 rfl hq

-- WreckCourt$Sea.flow(I[III)V, entry 0
set_option maxRecDepth 100000 in
set_option maxHeartbeats 4000000 in
theorem v_flow (o : OKs) {G : GX} {d f : Nat} {sw : Bool} {I : Nat → Nat → Int32} {m : Int32} {p : Nat} {i : Int32} {n : Int32} {Q : Option Value → Hp → Prop}
    (hq : wp G (d + 10) (mt 33) 2 [some (.ref 2), some (.int m), some (.ref p), some (.int i), some (.int n), some (.int 0)] [] (147, f, I, RP f sw) Q) :
    wp G (d + 10) (mt 33) 0 (en (mt 33) [.ref 2, .int m, .ref p, .int i, .int n]) [] (147, f, I, RP f sw) Q := vc_wp o [(33, 2, [0, 1, 2, 3, 4, 5])] [] 600 rfl hq

-- WreckCourt$Sea.flow(I[III)V, entry 2
set_option maxRecDepth 100000 in
set_option maxHeartbeats 4000000 in
theorem v_flow2 (o : OKs) {G : GX} {d f : Nat} {sw : Bool} {I : Nat → Nat → Int32} {m : Int32} {p : Nat} {i : Int32} {n : Int32} {k : Int32} {Q : Option Value → Hp → Prop}
    (hq : if n ≤ k then Q none (147, f, upI I 2 9 1, RP f sw) else wp G (d + 10) (mt 33) 16 [some (.ref 2), some (.int m), some (.ref p), some (.int i), some (.int n), some (.int k)] [.int (i + (2 * k)), .ref p, .int (m + k), .ref 26] (147, f, I, RP f sw) Q) :
    wp G (d + 10) (mt 33) 2 [some (.ref 2), some (.int m), some (.ref p), some (.int i), some (.int n), some (.int k)] [] (147, f, I, RP f sw) Q := vc_wp o [(33, 2, [0, 1, 2, 3, 4, 5]), (33, 16, [0, 1, 2, 3, 4, 5])] [] 600 rfl hq

-- WreckCourt$Sea.flow(I[III)V, entry 17
set_option maxRecDepth 100000 in
set_option maxHeartbeats 4000000 in
theorem v_flow17 (o : OKs) {G : GX} {d f : Nat} {sw : Bool} {I : Nat → Nat → Int32} {m : Int32} {p : Nat} {i : Int32} {n : Int32} {k : Int32} {y : Int32} {t : Int32} {Q : Option Value → Hp → Prop}
    (hq : ck (ixB t 240) (wp G (d + 10) (mt 33) 31 [some (.ref 2), some (.int m), some (.ref p), some (.int i), some (.int n), some (.int k)] [.int ((i + (2 * k)) + 1), .ref p, .int (m + k), .ref 27] (147, f, upI I 26 t.toNatClampNeg y, RP f sw) Q)) :
    wp G (d + 10) (mt 33) 17 [some (.ref 2), some (.int m), some (.ref p), some (.int i), some (.int n), some (.int k)] [.int y, .int t, .ref 26] (147, f, I, RP f sw) Q := vc_wp o [(33, 2, [0, 1, 2, 3, 4, 5]), (33, 31, [0, 1, 2, 3, 4, 5])] [] 600 rfl hq

-- WreckCourt$Sea.flow(I[III)V, entry 32
set_option maxRecDepth 100000 in
set_option maxHeartbeats 4000000 in
theorem v_flow32 (o : OKs) {G : GX} {d f : Nat} {sw : Bool} {I : Nat → Nat → Int32} {m : Int32} {p : Nat} {i : Int32} {n : Int32} {k : Int32} {y : Int32} {t : Int32} {Q : Option Value → Hp → Prop}
    (hq : ck (ixB t 240) (wp G (d + 10) (mt 33) 2 [some (.ref 2), some (.int m), some (.ref p), some (.int i), some (.int n), some (.int (k + Int32.ofInt 1))] [] (147, f, upI I 27 t.toNatClampNeg y, RP f sw) Q)) :
    wp G (d + 10) (mt 33) 32 [some (.ref 2), some (.int m), some (.ref p), some (.int i), some (.int n), some (.int k)] [.int y, .int t, .ref 27] (147, f, I, RP f sw) Q := vc_wp o [(33, 2, [0, 1, 2, 3, 4, 5])] [] 600 rfl hq

-- WreckCourtModel.tide(IIII)I, entry 0
set_option maxRecDepth 100000 in
set_option maxHeartbeats 4000000 in
theorem v_Mtide (o : OKs) {G : GX} {d f : Nat} {sw : Bool} {I : Nat → Nat → Int32} {m : Int32} {s : Int32} {i : Int32} {n : Int32} {Q : Option Value → Hp → Prop}
    (hq : if lg_cmp m.toInt64 0 < 0 then Q (some (.int (-1000001))) (147, f, upI I 93 0 0, RP f sw) else if 0 < lg_cmp m.toInt64 239 then Q (some (.int (-1000001))) (147, f, upI I 93 0 0, RP f sw) else if lg_cmp n.toInt64 1 < 0 then Q (some (.int (-1000001))) (147, f, upI I 93 0 0, RP f sw) else if 0 < lg_cmp n.toInt64 60 then Q (some (.int (-1000001))) (147, f, upI I 93 0 0, RP f sw) else if 240 < (m + n) then Q (some (.int (-1000001))) (147, f, upI I 93 0 0, RP f sw) else if lg_cmp s.toInt64 0 < 0 then Q (some (.int (-1000001))) (147, f, upI I 93 0 0, RP f sw) else if 0 < lg_cmp s.toInt64 7 then Q (some (.int (-1000001))) (147, f, upI I 93 0 0, RP f sw) else ck (ixB s 8) (if 0 ≤ (I 94 s.toNatClampNeg) then if i < 0 then Q (some (.int ((-1000010) - 2))) (147, f, upI (upI I 93 0 0) 93 1 2, RP f sw) else ck (ixB s 8) (if lg_cmp (i.toInt64 + (2 * n).toInt64) ((I 95 s.toNatClampNeg).toInt64) ≤ 0 then wp G (d + 10) (mt 194) 53 [some (.ref 93), some (.int m), some (.int s), some (.int i), some (.int n), some (.int 0)] [] (147, f, upI I 93 0 0, RP f sw) Q else Q (some (.int ((-1000010) - 2))) (147, f, upI (upI I 93 0 0) 93 1 2, RP f sw)) else Q (some (.int ((-1000010) - 1))) (147, f, upI (upI I 93 0 0) 93 1 1, RP f sw))) :
    wp G (d + 10) (mt 194) 0 (en (mt 194) [.ref 93, .int m, .int s, .int i, .int n]) [] (147, f, I, RP f sw) Q := vc_wp o [(194, 53, [0, 1, 2, 3, 4, 5]), (194, 82, [0, 1, 2, 3, 4, 5])] [183, 184, 185, 193] 600 rfl hq

-- WreckCourtModel.tide(IIII)I, entry 53
set_option maxRecDepth 100000 in
set_option maxHeartbeats 4000000 in
theorem v_Mtide53 (o : OKs) {G : GX} {d f : Nat} {sw : Bool} {I : Nat → Nat → Int32} {m : Int32} {s : Int32} {i : Int32} {n : Int32} {k : Int32} {Q : Option Value → Hp → Prop}
    (hq : if (2 * n) ≤ k then wp G (d + 10) (mt 194) 82 [some (.ref 93), some (.int m), some (.int s), some (.int i), some (.int n), some (.int 0)] [] (147, f, upI I 93 1 0, RP f sw) Q else ck (ixB (((120 * s) + i) + k) 960) (if lg_cmp ((I 96 ((((120 * s) + i) + k).toNatClampNeg)).toInt64) (-20) < 0 then Q (some (.int (-1000001))) (147, f, I, RP f sw) else if 0 < lg_cmp ((I 96 ((((120 * s) + i) + k).toNatClampNeg)).toInt64) 20 then Q (some (.int (-1000001))) (147, f, I, RP f sw) else wp G (d + 10) (mt 194) 53 [some (.ref 93), some (.int m), some (.int s), some (.int i), some (.int n), some (.int (k + Int32.ofInt 1))] [] (147, f, I, RP f sw) Q)) :
    wp G (d + 10) (mt 194) 53 [some (.ref 93), some (.int m), some (.int s), some (.int i), some (.int n), some (.int k)] [] (147, f, I, RP f sw) Q := vc_wp o [(194, 53, [0, 1, 2, 3, 4, 5]), (194, 82, [0, 1, 2, 3, 4, 5])] [184] 600 rfl hq

-- WreckCourtModel.tide(IIII)I, entry 82
set_option maxRecDepth 100000 in
set_option maxHeartbeats 4000000 in
theorem v_Mtide82 (o : OKs) {G : GX} {d f : Nat} {sw : Bool} {I : Nat → Nat → Int32} {m : Int32} {s : Int32} {i : Int32} {n : Int32} {k : Int32} {Q : Option Value → Hp → Prop}
    (hq : if n ≤ k then Q (some (.int n)) (147, f, I, RP f sw) else ck (ixB (((120 * s) + i) + (2 * k)) 960) (ck (ixB (m + k) 240) (ck (ixB ((((120 * s) + i) + (2 * k)) + 1) 960) (ck (ixB (m + k) 240) (wp G (d + 10) (mt 194) 82 [some (.ref 93), some (.int m), some (.int s), some (.int i), some (.int n), some (.int (k + Int32.ofInt 1))] [] (147, f, upI (upI I 105 ((m + k).toNatClampNeg) (I 96 ((((120 * s) + i) + (2 * k)).toNatClampNeg))) 106 ((m + k).toNatClampNeg) (I 96 (((((120 * s) + i) + (2 * k)) + 1).toNatClampNeg)), RP f sw) Q))))) :
    wp G (d + 10) (mt 194) 82 [some (.ref 93), some (.int m), some (.int s), some (.int i), some (.int n), some (.int k)] [] (147, f, I, RP f sw) Q := vc_wp o [(194, 53, [0, 1, 2, 3, 4, 5]), (194, 82, [0, 1, 2, 3, 4, 5])] [] 600 rfl hq

-- WreckCourt.order(IIII)I, entry 0
set_option maxRecDepth 100000 in
set_option maxHeartbeats 4000000 in
theorem v_Corder (o : OKs) {G : GX} {d f : Nat} {sw : Bool} {I : Nat → Nat → Int32} {s : Int32} {m : Int32} {c : Int32} {v : Int32} {Q : Option Value → Hp → Prop}
    (hq : if s < 0 then Q (some (.int (-1000001))) (147, f, I, RP f sw) else if ((I 2 2) - 1) < s then Q (some (.int (-1000001))) (147, f, I, RP f sw) else if m < 0 then Q (some (.int (-1000001))) (147, f, I, RP f sw) else if 239 < m then Q (some (.int (-1000001))) (147, f, I, RP f sw) else if c < 0 then Q (some (.int (-1000001))) (147, f, I, RP f sw) else if 15 < c then Q (some (.int (-1000001))) (147, f, I, RP f sw) else if v < 0 then Q (some (.int (-1000001))) (147, f, I, RP f sw) else if 50 < v then Q (some (.int (-1000001))) (147, f, I, RP f sw) else if (I 3 3) = (Int32.ofNat 60) then Q (some (.int (-1000003))) (147, f, I, RP f sw) else wp G (d + 8) (mt 30) 0 (en (mt 30) [.ref 3, .int s, .int m, .int ((c <<< (6 &&& 31)) ||| v)]) [] (147, f, upI I 2 9 1, RP f sw) (fun v h1 => ∃ (x2 : Int32) (I1 : Nat → Nat → Int32), v = some (.int x2) ∧ h1 = (147, f, I1, RP f sw) ∧ (Q (some (.int x2)) (147, f, I1, RP f sw)))) :
    wp G (d + 10) (mt 25) 0 (en (mt 25) [.ref 0, .int s, .int m, .int c, .int v]) [] (147, f, I, RP f sw) Q := vc_wp o [] [13, 26, 27, 28, 29] 600 rfl hq

-- WreckCourtModel.order(IIII)I, entry 0
set_option maxRecDepth 100000 in
set_option maxHeartbeats 4000000 in
theorem v_Morder (o : OKs) {G : GX} {d f : Nat} {sw : Bool} {I : Nat → Nat → Int32} {s : Int32} {m : Int32} {c : Int32} {v : Int32} {Q : Option Value → Hp → Prop}
    (hq : if lg_cmp s.toInt64 0 < 0 then Q (some (.int (-1000001))) (147, f, upI I 93 0 0, RP f sw) else if 0 < lg_cmp s.toInt64 (((I 93 7) - 1).toInt64) then Q (some (.int (-1000001))) (147, f, upI I 93 0 0, RP f sw) else if lg_cmp m.toInt64 0 < 0 then Q (some (.int (-1000001))) (147, f, upI I 93 0 0, RP f sw) else if 0 < lg_cmp m.toInt64 239 then Q (some (.int (-1000001))) (147, f, upI I 93 0 0, RP f sw) else if lg_cmp c.toInt64 0 < 0 then Q (some (.int (-1000001))) (147, f, upI I 93 0 0, RP f sw) else if 0 < lg_cmp c.toInt64 15 then Q (some (.int (-1000001))) (147, f, upI I 93 0 0, RP f sw) else if lg_cmp v.toInt64 0 < 0 then Q (some (.int (-1000001))) (147, f, upI I 93 0 0, RP f sw) else if 0 < lg_cmp v.toInt64 50 then Q (some (.int (-1000001))) (147, f, upI I 93 0 0, RP f sw) else if (I 93 10) = 60 then Q (some (.int (-1000003))) (147, f, upI I 93 0 0, RP f sw) else ck (ixB (I 93 10) 60) (ck (ixB (I 93 10) 60) (ck (ixB (I 93 10) 60) (ck (ixB (I 93 10) 60) (Q (some (.int ((I 93 10) + 1))) (147, f, upI (upI (upI (upI (upI (upI I 93 0 0) 101 ((I 93 10).toNatClampNeg) s) 102 ((I 93 10).toNatClampNeg) m) 103 ((I 93 10).toNatClampNeg) c) 104 ((I 93 10).toNatClampNeg) v) 93 10 ((I 93 10) + 1), RP f sw)))))) :
    wp G (d + 10) (mt 191) 0 (en (mt 191) [.ref 93, .int s, .int m, .int c, .int v]) [] (147, f, I, RP f sw) Q := vc_wp o [] [184, 192, 193] 600 rfl hq

-- WreckCourt.door(III)I, entry 0
set_option maxRecDepth 100000 in
set_option maxHeartbeats 4000000 in
theorem v_Cdoor (o : OKs) {G : GX} {d f : Nat} {sw : Bool} {I : Nat → Nat → Int32} {s : Int32} {m : Int32} {c : Int32} {Q : Option Value → Hp → Prop}
    (hq : if s < 0 then Q (some (.int (-1000001))) (147, f, I, RP f sw) else if 4 < s then Q (some (.int (-1000001))) (147, f, I, RP f sw) else if m < 0 then Q (some (.int (-1000001))) (147, f, I, RP f sw) else if 239 < m then Q (some (.int (-1000001))) (147, f, I, RP f sw) else if c < 0 then Q (some (.int (-1000001))) (147, f, I, RP f sw) else if 1 < c then Q (some (.int (-1000001))) (147, f, I, RP f sw) else if (I 30 3) = (Int32.ofNat 30) then Q (some (.int (-1000003))) (147, f, I, RP f sw) else wp G (d + 8) (mt 30) 0 (en (mt 30) [.ref 30, .int s, .int m, .int c]) [] (147, f, upI I 29 12 1, RP f sw) (fun v h1 => ∃ (x2 : Int32) (I1 : Nat → Nat → Int32), v = some (.int x2) ∧ h1 = (147, f, I1, RP f sw) ∧ (Q (some (.int x2)) (147, f, I1, RP f sw)))) :
    wp G (d + 10) (mt 59) 0 (en (mt 59) [.ref 0, .int s, .int m, .int c]) [] (147, f, I, RP f sw) Q := vc_wp o [] [13, 27, 28, 60, 61] 600 rfl hq

-- WreckCourtModel.door(III)I, entry 0
set_option maxRecDepth 100000 in
set_option maxHeartbeats 4000000 in
theorem v_Mdoor (o : OKs) {G : GX} {d f : Nat} {sw : Bool} {I : Nat → Nat → Int32} {s : Int32} {m : Int32} {c : Int32} {Q : Option Value → Hp → Prop}
    (hq : if lg_cmp s.toInt64 0 < 0 then Q (some (.int (-1000001))) (147, f, upI I 93 0 0, RP f sw) else if 0 < lg_cmp s.toInt64 4 then Q (some (.int (-1000001))) (147, f, upI I 93 0 0, RP f sw) else if lg_cmp m.toInt64 0 < 0 then Q (some (.int (-1000001))) (147, f, upI I 93 0 0, RP f sw) else if 0 < lg_cmp m.toInt64 239 then Q (some (.int (-1000001))) (147, f, upI I 93 0 0, RP f sw) else if lg_cmp c.toInt64 0 < 0 then Q (some (.int (-1000001))) (147, f, upI I 93 0 0, RP f sw) else if 0 < lg_cmp c.toInt64 1 then Q (some (.int (-1000001))) (147, f, upI I 93 0 0, RP f sw) else if (I 93 26) = 30 then Q (some (.int (-1000003))) (147, f, upI I 93 0 0, RP f sw) else ck (ixB (I 93 26) 30) (ck (ixB (I 93 26) 30) (ck (ixB (I 93 26) 30) (Q (some (.int ((I 93 26) + 1))) (147, f, upI (upI (upI (upI (upI I 93 0 0) 113 ((I 93 26).toNatClampNeg) s) 114 ((I 93 26).toNatClampNeg) m) 115 ((I 93 26).toNatClampNeg) c) 93 26 ((I 93 26) + 1), RP f sw))))) :
    wp G (d + 10) (mt 207) 0 (en (mt 207) [.ref 93, .int s, .int m, .int c]) [] (147, f, I, RP f sw) Q := vc_wp o [] [184, 193] 600 rfl hq

-- WreckCourt$Told.tell(III)I, entry 0
set_option maxRecDepth 100000 in
set_option maxHeartbeats 4000000 in
theorem v_tellO (o : OKs) {G : GX} {d f : Nat} {sw : Bool} {I : Nat → Nat → Int32} {s : Int32} {m : Int32} {v : Int32} {Q : Option Value → Hp → Prop}
    (hq : wp G (d + 10) (mt 30) 3 [some (.ref 3), some (.int s), some (.int m), some (.int v), some (.int (I 3 3))] [] (147, f, I, RP f sw) Q) :
    wp G (d + 10) (mt 30) 0 (en (mt 30) [.ref 3, .int s, .int m, .int v]) [] (147, f, I, RP f sw) Q := vc_wp o [(30, 3, [0, 1, 2, 3, 4])] [] 600 rfl hq

-- WreckCourt$Told.tell(III)I, entry 3
set_option maxRecDepth 100000 in
set_option maxHeartbeats 4000000 in
theorem v_tellO3 (o : OKs) {G : GX} {d f : Nat} {sw : Bool} {I : Nat → Nat → Int32} {s : Int32} {m : Int32} {v : Int32} {a : Int32} {Q : Option Value → Hp → Prop}
    (hq : if a ≤ 0 then ck (ixB a 60) (ck (ixB a 60) (ck (ixB a 60) (Q (some (.int ((I 3 3) + 1))) (147, f, upI (upI (upI (upI I 4 a.toNatClampNeg s) 5 a.toNatClampNeg m) 6 a.toNatClampNeg v) 3 3 ((I 3 3) + 1), RP f sw)))) else ck (ixB (a - 1) 60) (if (I 5 ((a - 1).toNatClampNeg)) ≤ m then ck (ixB a 60) (ck (ixB a 60) (ck (ixB a 60) (Q (some (.int ((I 3 3) + 1))) (147, f, upI (upI (upI (upI I 4 a.toNatClampNeg s) 5 a.toNatClampNeg m) 6 a.toNatClampNeg v) 3 3 ((I 3 3) + 1), RP f sw)))) else ck (ixB (a - 1) 60) (ck (ixB a 60) (ck (ixB (a - 1) 60) (ck (ixB a 60) (ck (ixB (a - 1) 60) (ck (ixB a 60) (wp G (d + 10) (mt 30) 3 [some (.ref 3), some (.int s), some (.int m), some (.int v), some (.int (a + Int32.ofInt (-1)))] [] (147, f, upI (upI (upI I 4 a.toNatClampNeg (I 4 ((a - 1).toNatClampNeg))) 5 a.toNatClampNeg (I 5 ((a - 1).toNatClampNeg))) 6 a.toNatClampNeg (I 6 ((a - 1).toNatClampNeg)), RP f sw) Q)))))))) :
    wp G (d + 10) (mt 30) 3 [some (.ref 3), some (.int s), some (.int m), some (.int v), some (.int a)] [] (147, f, I, RP f sw) Q := vc_wp o [(30, 3, [0, 1, 2, 3, 4])] [] 600 rfl hq

-- WreckCourt$Told.tell(III)I, entry 0
set_option maxRecDepth 100000 in
set_option maxHeartbeats 4000000 in
theorem v_tellD (o : OKs) {G : GX} {d f : Nat} {sw : Bool} {I : Nat → Nat → Int32} {s : Int32} {m : Int32} {v : Int32} {Q : Option Value → Hp → Prop}
    (hq : wp G (d + 10) (mt 30) 3 [some (.ref 30), some (.int s), some (.int m), some (.int v), some (.int (I 30 3))] [] (147, f, I, RP f sw) Q) :
    wp G (d + 10) (mt 30) 0 (en (mt 30) [.ref 30, .int s, .int m, .int v]) [] (147, f, I, RP f sw) Q := vc_wp o [(30, 3, [0, 1, 2, 3, 4])] [] 600 rfl hq

-- WreckCourt$Told.tell(III)I, entry 3
set_option maxRecDepth 100000 in
set_option maxHeartbeats 4000000 in
theorem v_tellD3 (o : OKs) {G : GX} {d f : Nat} {sw : Bool} {I : Nat → Nat → Int32} {s : Int32} {m : Int32} {v : Int32} {a : Int32} {Q : Option Value → Hp → Prop}
    (hq : if a ≤ 0 then ck (ixB a 30) (ck (ixB a 30) (ck (ixB a 30) (Q (some (.int ((I 30 3) + 1))) (147, f, upI (upI (upI (upI I 31 a.toNatClampNeg s) 32 a.toNatClampNeg m) 33 a.toNatClampNeg v) 30 3 ((I 30 3) + 1), RP f sw)))) else ck (ixB (a - 1) 30) (if (I 32 ((a - 1).toNatClampNeg)) ≤ m then ck (ixB a 30) (ck (ixB a 30) (ck (ixB a 30) (Q (some (.int ((I 30 3) + 1))) (147, f, upI (upI (upI (upI I 31 a.toNatClampNeg s) 32 a.toNatClampNeg m) 33 a.toNatClampNeg v) 30 3 ((I 30 3) + 1), RP f sw)))) else ck (ixB (a - 1) 30) (ck (ixB a 30) (ck (ixB (a - 1) 30) (ck (ixB a 30) (ck (ixB (a - 1) 30) (ck (ixB a 30) (wp G (d + 10) (mt 30) 3 [some (.ref 30), some (.int s), some (.int m), some (.int v), some (.int (a + Int32.ofInt (-1)))] [] (147, f, upI (upI (upI I 31 a.toNatClampNeg (I 31 ((a - 1).toNatClampNeg))) 32 a.toNatClampNeg (I 32 ((a - 1).toNatClampNeg))) 33 a.toNatClampNeg (I 33 ((a - 1).toNatClampNeg)), RP f sw) Q)))))))) :
    wp G (d + 10) (mt 30) 3 [some (.ref 30), some (.int s), some (.int m), some (.int v), some (.int a)] [] (147, f, I, RP f sw) Q := vc_wp o [(30, 3, [0, 1, 2, 3, 4])] [] 600 rfl hq
