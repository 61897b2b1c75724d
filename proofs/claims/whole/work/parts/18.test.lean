/-- the references, once all is made: f facts are told, sw: the two books have changed places -/
def RP (f : Nat) (sw : Bool) (p k : Nat) : Option Nat := if p = 48 then (if k < f then some (1000 + k) else none) else if p = 0 then (if k = 9 then (match sw with | true => some 71 | false => some 65) else if k = 10 then (match sw with | true => some 65 | false => some 71) else (RPL.getD p []).getD k none) else (RPL.getD p []).getD k none
theorem t_within (o : OKs) {G : GX} {d : Nat} {h : Hp} {x a b : Int32} {Q : Option Value → Hp → Prop} (hq : if x < a then Q (some (.int 0)) h else if b < x then Q (some (.int 0)) h else Q (some (.int 1)) h) : wp G d (mt 13) 0 (en (mt 13) [.int x, .int a, .int b]) [] h Q := vc_wp o [] [] 20 rfl hq
theorem t_drop (o : OKs) {G : GX} {d f : Nat} {sw : Bool} {I : Nat → Nat → Int32} {s : Int32} {Q : Option Value → Hp → Prop}
    (hq : if lg_cmp s.toInt64 0 < 0 then Q (some (.int (-1000001))) (147, f, upI I 93 0 0, RP f sw) else if 0 < lg_cmp s.toInt64 7 then Q (some (.int (-1000001))) (147, f, upI I 93 0 0, RP f sw)
      else ck (ixB s 8) (if 0 ≤ upI (upI I 93 0 0) 93 1 0 94 s.toNatClampNeg then ck (ixB s 8) (ck (ixB s 8) (Q (some (.int (upI (upI (upI I 93 0 0) 93 1 0) 94 s.toNatClampNeg (-1) 95 s.toNatClampNeg))) (147, f, upI (upI (upI I 93 0 0) 93 1 0) 94 s.toNatClampNeg (-1), RP f sw))) else Q (some (.int (-1000010 - 1))) (147, f, upI (upI (upI I 93 0 0) 93 1 0) 93 1 1, RP f sw))) :
    wp G (d + 10) (mt 188) 0 (en (mt 188) [.ref 93, .int s]) [] (147, f, I, RP f sw) Q := vc_wp o [] [183, 184, 185] 100 rfl hq
set_option maxRecDepth 100000 in
theorem ck_t1 : (List.range 8).all (fun i => !(useB (12 + i)) || chkM (mt (12 + i))) = true := by decide +kernel
