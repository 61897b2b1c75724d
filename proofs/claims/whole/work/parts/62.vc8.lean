/-! CONDITIONS of water, sinks, other -/
-- WreckCourt$Vessel.allWater(I)I, entry 0
set_option maxRecDepth 100000 in
set_option maxHeartbeats 4000000 in
theorem v_allWater (o : OKs) {G : GX} {d f : Nat} {sw : Bool} {I : Nat → Nat → Int32} {m : Int32} {Q : Option Value → Hp → Prop}
    (hq : wp G (d + 79) (mt 66) 0 (en (mt 66) [.ref 29]) [] (147, f, I, RP f sw) (fun v h1 => ∃ I1 : Nat → Nat → Int32, v = none ∧ h1 = (147, f, I1, RP f sw) ∧ (wp G (d + 80) (mt 65) 6 [some (.ref 29), some (.int m), some (.int 0), some (.int 0)] [] (147, f, I1, RP f sw) Q))) :
    wp G (d + 80) (mt 65) 0 (en (mt 65) [.ref 29, .int m]) [] (147, f, I, RP f sw) Q := vc_wp o [(65, 6, [0, 1, 2, 3])] [] 600 rfl hq

-- WreckCourt$Vessel.sinking()I, entry 0
set_option maxRecDepth 100000 in
set_option maxHeartbeats 4000000 in
theorem v_sinking (o : OKs) {G : GX} {d f : Nat} {sw : Bool} {I : Nat → Nat → Int32}  {Q : Option Value → Hp → Prop}
    (hq : wp G (d + 79) (mt 66) 0 (en (mt 66) [.ref 29]) [] (147, f, I, RP f sw) (fun v h1 => ∃ I1 : Nat → Nat → Int32, v = none ∧ h1 = (147, f, I1, RP f sw) ∧ (Q (some (.int (I1 29 11))) (147, f, I1, RP f sw)))) :
    wp G (d + 80) (mt 76) 0 (en (mt 76) [.ref 29]) [] (147, f, I, RP f sw) Q := vc_wp o [] [] 600 rfl hq

-- WreckCourt.water(II)I, entry 0
set_option maxRecDepth 100000 in
set_option maxHeartbeats 4000000 in
theorem v_Cwater (o : OKs) {G : GX} {d f : Nat} {sw : Bool} {I : Nat → Nat → Int32} {s : Int32} {m : Int32} {Q : Option Value → Hp → Prop}
    (hq : if s = (-1000000) then if m < 0 then Q (some (.int (-1000001))) (147, f, I, RP f sw) else if 240 < m then Q (some (.int (-1000001))) (147, f, I, RP f sw) else if s = (-1000000) then wp G (d + 99) (mt 65) 0 (en (mt 65) [.ref 29, .int m]) [] (147, f, I, RP f sw) (fun v h1 => ∃ (x4 : Int32) (I3 : Nat → Nat → Int32), v = some (.int x4) ∧ h1 = (147, f, I3, RP f sw) ∧ (Q (some (.int x4)) (147, f, I3, RP f sw))) else wp G (d + 99) (mt 74) 0 (en (mt 74) [.ref 29, .int s, .int m]) [] (147, f, I, RP f sw) (fun v h1 => ∃ (x2 : Int32) (I1 : Nat → Nat → Int32), v = some (.int x2) ∧ h1 = (147, f, I1, RP f sw) ∧ (Q (some (.int x2)) (147, f, I1, RP f sw))) else if s < 0 then Q (some (.int (-1000001))) (147, f, I, RP f sw) else if 5 < s then Q (some (.int (-1000001))) (147, f, I, RP f sw) else if m < 0 then Q (some (.int (-1000001))) (147, f, I, RP f sw) else if 240 < m then Q (some (.int (-1000001))) (147, f, I, RP f sw) else if s = (-1000000) then wp G (d + 99) (mt 65) 0 (en (mt 65) [.ref 29, .int m]) [] (147, f, I, RP f sw) (fun v h1 => ∃ (x8 : Int32) (I7 : Nat → Nat → Int32), v = some (.int x8) ∧ h1 = (147, f, I7, RP f sw) ∧ (Q (some (.int x8)) (147, f, I7, RP f sw))) else wp G (d + 99) (mt 74) 0 (en (mt 74) [.ref 29, .int s, .int m]) [] (147, f, I, RP f sw) (fun v h1 => ∃ (x6 : Int32) (I5 : Nat → Nat → Int32), v = some (.int x6) ∧ h1 = (147, f, I5, RP f sw) ∧ (Q (some (.int x6)) (147, f, I5, RP f sw)))) :
    wp G (d + 100) (mt 64) 0 (en (mt 64) [.ref 0, .int s, .int m]) [] (147, f, I, RP f sw) Q := vc_wp o [] [13, 57] 600 rfl hq

-- WreckCourt.sinks()I, entry 0
set_option maxRecDepth 100000 in
set_option maxHeartbeats 4000000 in
theorem v_Csinks (o : OKs) {G : GX} {d f : Nat} {sw : Bool} {I : Nat → Nat → Int32}  {Q : Option Value → Hp → Prop}
    (hq : wp G (d + 99) (mt 76) 0 (en (mt 76) [.ref 29]) [] (147, f, I, RP f sw) (fun v h1 => ∃ (x2 : Int32) (I1 : Nat → Nat → Int32), v = some (.int x2) ∧ h1 = (147, f, I1, RP f sw) ∧ (Q (some (.int x2)) (147, f, I1, RP f sw)))) :
    wp G (d + 100) (mt 75) 0 (en (mt 75) [.ref 0]) [] (147, f, I, RP f sw) Q := vc_wp o [] [] 600 rfl hq

-- WreckCourt.other(II)I, entry 0
set_option maxRecDepth 100000 in
set_option maxHeartbeats 4000000 in
theorem v_Cother (o : OKs) {G : GX} {d f : Nat} {sw : Bool} {I : Nat → Nat → Int32} {t : Int32} {w : Int32} {Q : Option Value → Hp → Prop}
    (hq : if t = 0 then if w < 0 then Q (some (.int (-1000001))) (147, f, I, RP f sw) else if 4 < w then Q (some (.int (-1000001))) (147, f, I, RP f sw) else wp G (d + 99) (mt 67) 0 (en (mt 67) [.ref 29, .int t, .int w]) [] (147, f, I, RP f sw) (fun v h1 => ∃ (x2 : Int32) (I1 : Nat → Nat → Int32), v = some (.int x2) ∧ h1 = (147, f, I1, RP f sw) ∧ (Q (some (.int x2)) (147, f, I1, RP f sw))) else if t = 0 + 1 then if w < 0 then Q (some (.int (-1000001))) (147, f, I, RP f sw) else if 4 < w then Q (some (.int (-1000001))) (147, f, I, RP f sw) else wp G (d + 99) (mt 67) 0 (en (mt 67) [.ref 29, .int t, .int w]) [] (147, f, I, RP f sw) (fun v h1 => ∃ (x4 : Int32) (I3 : Nat → Nat → Int32), v = some (.int x4) ∧ h1 = (147, f, I3, RP f sw) ∧ (Q (some (.int x4)) (147, f, I3, RP f sw))) else if t = 0 + 1 + 1 then if w < 0 then Q (some (.int (-1000001))) (147, f, I, RP f sw) else if 100 < w then Q (some (.int (-1000001))) (147, f, I, RP f sw) else wp G (d + 99) (mt 67) 0 (en (mt 67) [.ref 29, .int t, .int w]) [] (147, f, I, RP f sw) (fun v h1 => ∃ (x6 : Int32) (I5 : Nat → Nat → Int32), v = some (.int x6) ∧ h1 = (147, f, I5, RP f sw) ∧ (Q (some (.int x6)) (147, f, I5, RP f sw))) else if t = 0 + 1 + 1 + 1 then if w < 0 then Q (some (.int (-1000001))) (147, f, I, RP f sw) else if ((I 29 1) - 1) < w then Q (some (.int (-1000001))) (147, f, I, RP f sw) else wp G (d + 99) (mt 67) 0 (en (mt 67) [.ref 29, .int t, .int w]) [] (147, f, I, RP f sw) (fun v h1 => ∃ (x8 : Int32) (I7 : Nat → Nat → Int32), v = some (.int x8) ∧ h1 = (147, f, I7, RP f sw) ∧ (Q (some (.int x8)) (147, f, I7, RP f sw))) else Q (some (.int (-1000001))) (147, f, I, RP f sw)) :
    wp G (d + 100) (mt 77) 0 (en (mt 77) [.ref 0, .int t, .int w]) [] (147, f, I, RP f sw) Q := vc_wp o [] [13, 60, 78] 600 rfl hq

-- WreckCourtModel.water(II)I, entry 0
set_option maxRecDepth 100000 in
set_option maxHeartbeats 4000000 in
theorem v_Mwater (o : OKs) {G : GX} {d f : Nat} {sw : Bool} {I : Nat → Nat → Int32} {s : Int32} {m : Int32} {Q : Option Value → Hp → Prop}
    (hq : if s = (-1000000) then if lg_cmp m.toInt64 0 < 0 then Q (some (.int (-1000001))) (147, f, upI I 93 0 0, RP f sw) else if 0 < lg_cmp m.toInt64 240 then Q (some (.int (-1000001))) (147, f, upI I 93 0 0, RP f sw) else wp G (d + 79) (mt 210) 0 (en (mt 210) [.ref 93, .int 9, .int 0]) [] (147, f, upI I 93 0 0, RP f sw) (fun v h1 => ∃ I1 : Nat → Nat → Int32, v = none ∧ h1 = (147, f, I1, RP f sw) ∧ (if s = (-1000000) then wp G (d + 79) (mt 213) 0 (en (mt 213) [.ref 93, .int m]) [] (147, f, I1, RP f sw) (fun v h1 => ∃ (x3 : Int32) (I2 : Nat → Nat → Int32), v = some (.int x3) ∧ h1 = (147, f, I2, RP f sw) ∧ (Q (some (.int x3)) (147, f, I2, RP f sw))) else ck (ixB ((6 * m) + s) 1446) (Q (some (.int (I1 119 (((6 * m) + s).toNatClampNeg)))) (147, f, I1, RP f sw)))) else if lg_cmp s.toInt64 0 < 0 then Q (some (.int (-1000001))) (147, f, upI I 93 0 0, RP f sw) else if 0 < lg_cmp s.toInt64 5 then Q (some (.int (-1000001))) (147, f, upI I 93 0 0, RP f sw) else if lg_cmp m.toInt64 0 < 0 then Q (some (.int (-1000001))) (147, f, upI I 93 0 0, RP f sw) else if 0 < lg_cmp m.toInt64 240 then Q (some (.int (-1000001))) (147, f, upI I 93 0 0, RP f sw) else wp G (d + 79) (mt 210) 0 (en (mt 210) [.ref 93, .int 9, .int 0]) [] (147, f, upI I 93 0 0, RP f sw) (fun v h1 => ∃ I4 : Nat → Nat → Int32, v = none ∧ h1 = (147, f, I4, RP f sw) ∧ (if s = (-1000000) then wp G (d + 79) (mt 213) 0 (en (mt 213) [.ref 93, .int m]) [] (147, f, I4, RP f sw) (fun v h1 => ∃ (x6 : Int32) (I5 : Nat → Nat → Int32), v = some (.int x6) ∧ h1 = (147, f, I5, RP f sw) ∧ (Q (some (.int x6)) (147, f, I5, RP f sw))) else ck (ixB ((6 * m) + s) 1446) (Q (some (.int (I4 119 (((6 * m) + s).toNatClampNeg)))) (147, f, I4, RP f sw))))) :
    wp G (d + 80) (mt 209) 0 (en (mt 209) [.ref 93, .int s, .int m]) [] (147, f, I, RP f sw) Q := vc_wp o [] [184] 600 rfl hq

-- WreckCourtModel.sinks()I, entry 0
set_option maxRecDepth 100000 in
set_option maxHeartbeats 4000000 in
theorem v_Msinks (o : OKs) {G : GX} {d f : Nat} {sw : Bool} {I : Nat → Nat → Int32}  {Q : Option Value → Hp → Prop}
    (hq : wp G (d + 79) (mt 215) 0 (en (mt 215) [.ref 93, .int 9, .int 0]) [] (147, f, upI I 93 0 0, RP f sw) (fun v h1 => ∃ (x2 : Int32) (I1 : Nat → Nat → Int32), v = some (.int x2) ∧ h1 = (147, f, I1, RP f sw) ∧ (Q (some (.int x2)) (147, f, I1, RP f sw)))) :
    wp G (d + 80) (mt 214) 0 (en (mt 214) [.ref 93]) [] (147, f, I, RP f sw) Q := vc_wp o [] [] 600 rfl hq

-- WreckCourtModel.other(II)I, entry 0
set_option maxRecDepth 100000 in
set_option maxHeartbeats 4000000 in
theorem v_Mother (o : OKs) {G : GX} {d f : Nat} {sw : Bool} {I : Nat → Nat → Int32} {t : Int32} {w : Int32} {Q : Option Value → Hp → Prop}
    (hq : if lg_cmp t.toInt64 0 < 0 then Q (some (.int (-1000001))) (147, f, upI I 93 0 0, RP f sw) else if 0 < lg_cmp t.toInt64 3 then Q (some (.int (-1000001))) (147, f, upI I 93 0 0, RP f sw) else if 2 ≤ t then if t = 2 then if lg_cmp w.toInt64 0 < 0 then Q (some (.int (-1000001))) (147, f, upI I 93 0 0, RP f sw) else if 0 < lg_cmp w.toInt64 100 then Q (some (.int (-1000001))) (147, f, upI I 93 0 0, RP f sw) else wp G (d + 79) (mt 215) 0 (en (mt 215) [.ref 93, .int t, .int w]) [] (147, f, upI I 93 0 0, RP f sw) (fun v h1 => ∃ (x4 : Int32) (I3 : Nat → Nat → Int32), v = some (.int x4) ∧ h1 = (147, f, I3, RP f sw) ∧ (Q (some (.int x4)) (147, f, I3, RP f sw))) else if lg_cmp w.toInt64 0 < 0 then Q (some (.int (-1000001))) (147, f, upI I 93 0 0, RP f sw) else if 0 < lg_cmp w.toInt64 (((I 93 30) - 1).toInt64) then Q (some (.int (-1000001))) (147, f, upI I 93 0 0, RP f sw) else wp G (d + 79) (mt 215) 0 (en (mt 215) [.ref 93, .int t, .int w]) [] (147, f, upI I 93 0 0, RP f sw) (fun v h1 => ∃ (x2 : Int32) (I1 : Nat → Nat → Int32), v = some (.int x2) ∧ h1 = (147, f, I1, RP f sw) ∧ (Q (some (.int x2)) (147, f, I1, RP f sw))) else if lg_cmp w.toInt64 0 < 0 then Q (some (.int (-1000001))) (147, f, upI I 93 0 0, RP f sw) else if 0 < lg_cmp w.toInt64 4 then Q (some (.int (-1000001))) (147, f, upI I 93 0 0, RP f sw) else wp G (d + 79) (mt 215) 0 (en (mt 215) [.ref 93, .int t, .int w]) [] (147, f, upI I 93 0 0, RP f sw) (fun v h1 => ∃ (x6 : Int32) (I5 : Nat → Nat → Int32), v = some (.int x6) ∧ h1 = (147, f, I5, RP f sw) ∧ (Q (some (.int x6)) (147, f, I5, RP f sw)))) :
    wp G (d + 80) (mt 216) 0 (en (mt 216) [.ref 93, .int t, .int w]) [] (147, f, I, RP f sw) Q := vc_wp o [] [184] 600 rfl hq
