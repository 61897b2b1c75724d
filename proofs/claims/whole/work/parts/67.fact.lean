/-! CALLS: fact -/
theorem st_aastore {G : GX} {d id j pc : Nat} {a : List Nat} {w : Value} {lv : Lc} {r : List Value} {i : Int32} {p x : Nat} {h : Hp} {Q : Option Value → Hp → Prop} (hi : useB id = true) (hf : ft (mt id) j = some (.aastore, pc, a, w)) (ho : okB h p 24 = true) (ho2 : okB h x 3 = true) (hx : ixB i (SH p).2 = true) (k : wp G d (mt id) (j + 1) lv r (h.1, h.2.1, h.2.2.1, upR h.2.2.2 p i.toNatClampNeg (some x)) Q) : wp G d (mt id) j lv (.ref x :: .int i :: .ref p :: r) h Q := by
  refine vc_wp oks [] [] 1 hi ?_
  unfold vc
  rw [hf]
  show ck (okB h p 23 && okB h x 6 || okB h p 24 && okB h x 3) (ck (ixB i (SH p).2) (wp G d (mt id) (j + 1) lv r (h.1, h.2.1, h.2.2.1, upR h.2.2.2 p i.toNatClampNeg (some x)) Q))
  rw [ho, ho2, hx, Bool.and_self, Bool.or_true]
  exact k
theorem RP_new {f : Nat} {sw : Bool} : upR (RP f sw) 48 f (some (1000 + f)) = RP (f + 1) sw := by
  funext p k
  unfold upR RP
  by_cases h : p = 48
  · rw [if_pos h, if_pos h, if_pos h]
    by_cases h2 : k = f
    · rw [if_pos h2, if_pos (by omega), h2]
    · rw [if_neg h2]
      by_cases h3 : k < f
      · rw [if_pos h3, if_pos (by omega)]
      · rw [if_neg h3, if_neg (by omega)]
  · rw [if_neg h, if_neg h, if_neg h]
/-- the sum of two squares, as a long -/
theorem sq2 {a b c e : Int32} (ha : -10000 ≤ a.toInt ∧ a.toInt ≤ 10000) (hb : -10000 ≤ b.toInt ∧ b.toInt ≤ 10000) (hc : -10000 ≤ c.toInt ∧ c.toInt ≤ 10000) (he : -10000 ≤ e.toInt ∧ e.toInt ≤ 10000) : (((a - b).toInt64 * (a - b).toInt64) + ((c - e).toInt64 * (c - e).toInt64)).toInt = (((a.toInt - b.toInt) * (a.toInt - b.toInt) + (c.toInt - e.toInt) * (c.toInt - e.toInt)).toNat : Int) ∧ ((a.toInt - b.toInt) * (a.toInt - b.toInt) + (c.toInt - e.toInt) * (c.toInt - e.toInt)).toNat < 5745920001 := by
  have e1 : (a - b).toInt = a.toInt - b.toInt := fb_subI (by omega) (by omega)
  have e2 : (c - e).toInt = c.toInt - e.toInt := fb_subI (by omega) (by omega)
  have s1 := sq_rng (x := a.toInt - b.toInt) (by omega) (by omega)
  have s2 := sq_rng (x := c.toInt - e.toInt) (by omega) (by omega)
  generalize hu : (a.toInt - b.toInt) * (a.toInt - b.toInt) = u at s1 ⊢
  generalize hw : (c.toInt - e.toInt) * (c.toInt - e.toInt) = w at s2 ⊢
  have f1 : ((a - b).toInt64 * (a - b).toInt64).toInt = u := by rw [sq64 (by omega) (by omega), e1, hu]
  have f2 : ((c - e).toInt64 * (c - e).toInt64).toInt = w := by rw [sq64 (by omega) (by omega), e2, hw]
  refine ⟨?_, by omega⟩
  rw [Int64.toInt_add, f1, f2, Int.bmod_eq_of_le (by omega) (by omega)]
  omega
/-- the fields of two facts: how far apart, squared -/
def d2C (I : St) (a b : Nat) : Nat := (((I (1000 + a) 5).toInt - (I (1000 + b) 5).toInt) * ((I (1000 + a) 5).toInt - (I (1000 + b) 5).toInt) + ((I (1000 + a) 6).toInt - (I (1000 + b) 6).toInt) * ((I (1000 + a) 6).toInt - (I (1000 + b) 6).toInt)).toNat
def byD (I : St) (a b : Nat) : Int32 := if I (1000 + a) 4 = I (1000 + b) 4 then Int32.ofNat (rt (d2C I a b)) - I (1000 + a) 7 - I (1000 + b) 7 else 0
/-- the row of what is beyond the doubts, n of its f entries told -/
def HB (I : St) (f n : Nat) (J : St) : Prop := (∀ q, q ≠ 52 → J q = I q) ∧ (∀ i, i < n → J 52 (12 * i + f) = byD I i f ∧ J 52 (12 * f + i) = byD I i f) ∧ ∀ a b, a < f → b < f → J 52 (12 * a + b) = I 52 (12 * a + b)
theorem HB.nx {I J : St} {f n : Nat} {x : Int32} (w : HB I f n J) (hn : n < f) (hf : f < 12) (hx : x = byD I n f) : HB I f (n + 1) (upI (upI J 52 (12 * n + f) x) 52 (12 * f + n) x) := by
  obtain ⟨w1, w2, w3⟩ := w
  refine ⟨fun q hq => by rw [upI_row hq, upI_row hq]; exact w1 q hq, fun i hi => ?_, fun a b ha hb => ?_⟩
  · by_cases e : i = n
    · subst e
      refine ⟨?_, by rw [upI_same]; exact hx⟩
      by_cases e2 : 12 * i + f = 12 * f + i
      · rw [e2, upI_same]; exact hx
      · rw [upI_nk (fun z => e2 z.2), upI_same]; exact hx
    · have q := w2 i (by omega)
      rw [upI_nk (by omega), upI_nk (by omega), upI_nk (by omega), upI_nk (by omega)]
      exact q
  · rw [upI_nk (by omega), upI_nk (by omega)]
    exact w3 a b ha hb
theorem l12 (k : Nat) : Int32.ofNat k * 12 = Int32.ofNat (12 * k) := by
  rw [Nat.mul_comm, Int32.ofNat_mul]; rfl
theorem hear_loop {G : GX} {d f : Nat} {sw : Bool} {I : St} {Q : Option Value → Hp → Prop} (hf : f < 12) (h1 : I 47 1 = Int32.ofNat f) (hb : ∀ k, k ≤ f → (-10000 ≤ (I (1000 + k) 5).toInt ∧ (I (1000 + k) 5).toInt ≤ 10000) ∧ -10000 ≤ (I (1000 + k) 6).toInt ∧ (I (1000 + k) 6).toInt ≤ 10000) (q : ∀ J, HB I f f J → Q (some (.int (Int32.ofNat f + 1 - 1))) (147, f + 1, upI J 47 1 (Int32.ofNat f + 1), RP (f + 1) sw)) : ∀ (c n : Nat) (J : St), n + c = f → HB I f n J → wp G (d + 80) (mt 84) 8 [some (.ref 47), some (.ref (1000 + f)), some (.int (Int32.ofNat n)), none] [] (147, f + 1, J, RP (f + 1) sw) Q
  | 0, n, J, h, w => by
    have e : n = f := by omega
    subst e
    have j1 : J 47 1 = Int32.ofNat n := by rw [w.1 47 (by decide)]; exact h1
    refine v_hear8 oks ?_
    rw [j1, if_pos (by rw [tI_le]; omega)]
    exact q J w
  | c + 1, n, J, h, w => by
    have j1 : J 47 1 = Int32.ofNat f := by rw [w.1 47 (by decide)]; exact h1
    have jr : ∀ k, J (1000 + k) = I (1000 + k) := fun k => w.1 _ (by omega)
    have i1 : (Int32.ofNat n * 12 + Int32.ofNat f) = Int32.ofNat (12 * n + f) := by rw [l12, ← Int32.ofNat_add]
    have i2 : (Int32.ofNat f * 12 + Int32.ofNat n) = Int32.ofNat (12 * f + n) := by rw [l12, ← Int32.ofNat_add]
    have ih := fun (J' : St) => hear_loop (G := G) (d := d) (sw := sw) hf h1 hb q c (n + 1) J' (by omega)
    refine v_hear8 oks ?_
    rw [j1, if_neg (by rw [tI_le, kI_t (show f < 2147483648 by omega), kI_t (show n < 2147483648 by omega)]; omega)]
    refine ck_of (kI_x (by omega) (by omega)) ?_
    rw [kI_c (by omega), RP_fa (show n < f + 1 by omega)]
    refine ck_of (okB_fa (by omega)) (ck_of (okB_fa (by omega)) ?_)
    rw [i1, i2, kI_1, kI_c (show 12 * n + f < 2147483648 by omega), kI_c (show 12 * f + n < 2147483648 by omega), jr n, jr f]
    refine ite_i (fun z => ?_) (fun z => ?_)
    · refine ck_of (okB_fa (by omega)) (ck_of (okB_fa (by omega)) (ck_of (okB_fa (by omega)) (ck_of (okB_fa (by omega)) ?_)))
      have bn := hb n (by omega)
      have bf := hb f (by omega)
      have s := sq2 bn.1 bf.1 bn.2 bf.2
      refine root_ok s.1 (by omega) ⟨_, _, rfl, rfl, ?_⟩
      refine ck_of (okB_fa (by omega)) (ck_of (okB_fa (by omega)) ?_)
      rw [j1, i1, i2, kI_c (show 12 * n + f < 2147483648 by omega), kI_c (show 12 * f + n < 2147483648 by omega), jr n, jr f]
      refine ck_of (kI_x (by omega) (by omega)) (ck_of (kI_x (by omega) (by omega)) ?_)
      refine ih _ (w.nx (by omega) hf ?_)
      unfold byD
      rw [if_pos z]
      rfl
    · refine ck_of (kI_x (by omega) (by omega)) (ck_of (kI_x (by omega) (by omega)) ?_)
      refine ih _ (w.nx (by omega) hf ?_)
      unfold byD
      rw [if_neg z]
theorem hear_ok {G : GX} {d f : Nat} {sw : Bool} {I : St} {Q : Option Value → Hp → Prop} (hf : f < 12) (h1 : I 47 1 = Int32.ofNat f) (hb : ∀ k, k ≤ f → (-10000 ≤ (I (1000 + k) 5).toInt ∧ (I (1000 + k) 5).toInt ≤ 10000) ∧ -10000 ≤ (I (1000 + k) 6).toInt ∧ (I (1000 + k) 6).toInt ≤ 10000) (q : ∀ J, HB I f f J → Q (some (.int (Int32.ofNat f + 1 - 1))) (147, f + 1, upI J 47 1 (Int32.ofNat f + 1), RP (f + 1) sw)) : wp G (d + 80) (mt 84) 0 (en (mt 84) [.ref 47, .ref (1000 + f)]) [] (147, f + 1, I, RP f sw) Q := by
  refine v_hear oks ?_
  rw [h1]
  refine st_aastore rfl rfl (okB_lt (by decide) (show SH 48 = (24, 12) from rfl)) (okB_fa (by omega)) (kI_x (by omega) (by show f < 12; omega)) ?_
  rw [kI_c (by omega)]
  show wp G (d + 80) (mt 84) 6 _ _ (147, f + 1, I, upR (RP f sw) 48 f (some (1000 + f))) Q
  rw [RP_new]
  refine v_hear6 oks ?_
  exact hear_loop hf h1 hb q f 0 I (by omega) ⟨fun _ _ => rfl, fun i hi => by omega, fun _ _ _ _ => rfl⟩
theorem fact_call {G : GX} {d f2 g : Nat} {lv : Lc} {I : St} {R : Nat → Nat → Option Nat} {Q : Option Value → Hp → Prop} (hC : wp G (d + 99) (mt 84) 0 (en (mt 84) [.ref 47, .ref g]) [] (147, f2, I, R) (fun v h1 => ∃ x : Int32, v = some (.int x) ∧ Q (some (.int x)) h1)) : wp G (d + 100) (mt 79) 60 lv [.ref g, .ref 47] (147, f2, I, R) Q := by
  refine vc_wp oks [] [1084] 5 rfl ?_
  show wp G (d + 99) (mt 84) 0 (en (mt 84) [.ref 47, .ref g]) [] (147, f2, I, R) _
  refine wp.mono hC ?_
  rintro r h1 ⟨x, rfl, hq⟩
  exact hq
theorem kfa {f k : Nat} {x : Int32} {I : St} {R : Nat → Nat → Option Nat} (hk : kz 3 k x = true) : (okB (147, f + 1, I, R) (1000 + f) 3 && kz 3 k x) = true := by
  rw [okB_fa (by omega), hk]; rfl
/-- the class's new fact -/
def nFa (I : St) (f : Nat) (s w m x y u p z : Int32) : St := upI (upI (upI (upI (upI (upI (upI (upI (upI (upI (upI (upI (upI (upI I (1000 + f) 3 0) (1000 + f) 4 0) (1000 + f) 5 0) (1000 + f) 6 0) (1000 + f) 7 0) (1000 + f) 8 (-1000000)) (1000 + f) 0 s) (1000 + f) 1 p) (1000 + f) 2 z) (1000 + f) 4 w) (1000 + f) 3 m) (1000 + f) 5 x) (1000 + f) 6 y) (1000 + f) 7 u
theorem nFa_o {I : St} {f q : Nat} {s w m x y u p z : Int32} (h : q ≠ 1000 + f) : nFa I f s w m x y u p z q = I q := by
  unfold nFa
  simp only [upI_row h]
theorem nFa_v (I : St) (f : Nat) (s w m x y u p z : Int32) : nFa I f s w m x y u p z (1000 + f) 0 = s ∧ nFa I f s w m x y u p z (1000 + f) 1 = p ∧ nFa I f s w m x y u p z (1000 + f) 2 = z ∧ nFa I f s w m x y u p z (1000 + f) 3 = m ∧ nFa I f s w m x y u p z (1000 + f) 4 = w ∧ nFa I f s w m x y u p z (1000 + f) 5 = x ∧ nFa I f s w m x y u p z (1000 + f) 6 = y ∧ nFa I f s w m x y u p z (1000 + f) 7 = u ∧ nFa I f s w m x y u p z (1000 + f) 8 = -1000000 := by
  unfold nFa
  simp only [upI_ap, if_true, Nat.reduceEqDiff, reduceIte, and_self]
/-- the reference's -/
def mF (I : St) (f : Nat) (s w m x y u p z : Int32) : St := upI (upI (upI (upI (upI (upI (upI (upI (upI (upI (upI I 93 0 0) 120 f s) 121 f w) 122 f m) 123 f x) 124 f y) 125 f u) 126 f p) 127 f z) 128 f (-1000000)) 93 35 (Int32.ofNat f + 1)
theorem mF_o {I : St} {f q k : Nat} {s w m x y u p z : Int32} (h : q ≠ 93) (h2 : k ≠ f ∨ q < 120 ∨ 128 < q) : mF I f s w m x y u p z q k = I q k := by
  unfold mF
  rw [upI_nk (by omega), upI_nk (by omega), upI_nk (by omega), upI_nk (by omega), upI_nk (by omega), upI_nk (by omega), upI_nk (by omega), upI_nk (by omega), upI_nk (by omega), upI_nk (by omega), upI_nk (by omega)]
theorem mF_v (I : St) (f : Nat) (s w m x y u p z : Int32) : mF I f s w m x y u p z 120 f = s ∧ mF I f s w m x y u p z 121 f = w ∧ mF I f s w m x y u p z 122 f = m ∧ mF I f s w m x y u p z 123 f = x ∧ mF I f s w m x y u p z 124 f = y ∧ mF I f s w m x y u p z 125 f = u ∧ mF I f s w m x y u p z 126 f = p ∧ mF I f s w m x y u p z 127 f = z ∧ mF I f s w m x y u p z 128 f = -1000000 ∧ mF I f s w m x y u p z 93 35 = Int32.ofNat f + 1 := by
  unfold mF
  simp only [upI_ap, if_true, Nat.reduceEqDiff, reduceIte, and_self]
theorem okS_cg {q q' : Nat → Nat → Bool} {S : Nat} (h : ∀ a b, S.testBit a = true → S.testBit b = true → q a b = q' a b) : okS q S = okS q' S := by
  have e : (fun b => (List.range b).all fun a => !(S.testBit a && (S.testBit b && q a b))) = (fun b => (List.range b).all fun a => !(S.testBit a && (S.testBit b && q' a b))) := by
    funext b
    have e2 : (fun a => !(S.testBit a && (S.testBit b && q a b))) = fun a => !(S.testBit a && (S.testBit b && q' a b)) := by
      funext a
      cases h1 : S.testBit a with
      | false => rfl
      | true =>
        cases h2 : S.testBit b with
        | false => rfl
        | true => rw [h a b h1 h2]
    rw [e2]
  unfold okS
  rw [e]
theorem sub_lt {S H f a : Nat} (hH : H < 2 ^ f) (h : S &&& H = S) (ha : S.testBit a = true) : a < f := by
  rcases Nat.lt_or_ge a f with z | z
  · exact z
  · have q : H.testBit a = false := Nat.testBit_lt_two_pow (Nat.lt_of_lt_of_le hH (Nat.pow_le_pow_right (by decide) z))
    rw [← h, Nat.testBit_and, q, Bool.and_false] at ha
    cases ha
theorem fitS_low {I K : St} {f H : Nat} (hH : H < 2 ^ f) (hq : ∀ c0 c1 c2 a b, a < f → b < f → qrF K c0 c1 c2 a b = qrF I c0 c1 c2 a b) : fitS K H = fitS I H := by
  funext S
  unfold fitS
  by_cases h : S &&& H = S
  · have e : (fun c => okS (qrF K (clk c).1 (clk c).2.1 (clk c).2.2) S) = fun c => okS (qrF I (clk c).1 (clk c).2.1 (clk c).2.2) S := by
      funext c
      exact okS_cg (fun a b ha hb => hq _ _ _ a b (sub_lt hH h ha) (sub_lt hH h hb))
    rw [e]
  · rw [decide_eq_false h, Bool.false_and, Bool.false_and]
theorem d2F_sy (I : St) (a b : Nat) : d2F I a b = d2F I b a := by
  unfold d2F
  rw [show (I 123 b).toInt - (I 123 a).toInt = -((I 123 a).toInt - (I 123 b).toInt) by omega, show (I 124 b).toInt - (I 124 a).toInt = -((I 124 a).toInt - (I 124 b).toInt) by omega, Int.neg_mul_neg, Int.neg_mul_neg]
theorem co_fact {G : GX} (s w m x y u p z : Int32) : CO (Rel G) G 79 217 [.int s, .int w, .int m, .int x, .int y, .int u, .int p, .int z] := fun f sw I hR => by
  obtain ⟨b1, b2, b3, b4, b5, H, b6, b7⟩ := id hR.2.2.2.2.2.2.1
  have tf : (Int32.ofNat f).toInt = f := kI_t (by omega)
  refine v_Cfact oks ?_
  rw [b2]
  simp only [tI_lt, tI_le, Int32.reduceToInt, Int32.reduceOfNat, tI_eq (Int32.ofNat f), tf]
  repeat' (refine ite_i (fun _ => ?_) (fun _ => ?_))
  all_goals first
    | (exfalso; omega)
    | (refine ⟨_, f, sw, I, (by first | rfl | trivial), rfl, hR.1, v_Mfact oks ?_⟩
       rw [b3]
       try simp only [lcl, lcg, w64]
       simp only [tI_lt, tI_le, Int32.reduceToInt, Int64.reduceToInt, Int32.reduceOfNat, tI_eq (Int32.ofNat f), tf]
       repeat' (refine ite_i (fun _ => ?_) (fun _ => ?_))
       all_goals first
         | (exfalso; omega)
         | exact ⟨_, (by first | rfl | trivial), rfl, hR.free (Ag.rf.up rfl)⟩)
    | skip
  have hf : f < 12 := by omega
  refine ck_of (decide_eq_true (by omega)) ?_
  repeat (first | refine ck_of (kfa rfl) ?_ | refine ck_of (okB_fa (by omega)) ?_)
  refine fact_call ?_
  show wp G 998 (mt 84) 0 _ [] (147, f + 1, nFa I f s w m x y u p z, RP f sw) _
  obtain ⟨n0, n1, n2, n3, n4, n5, n6, n7, n8⟩ := nFa_v I f s w m x y u p z
  generalize hN : nFa I f s w m x y u p z = N at n0 n1 n2 n3 n4 n5 n6 n7 n8 ⊢
  have no : ∀ q, q ≠ 1000 + f → N q = I q := fun q hq => by rw [← hN]; exact nFa_o hq
  have nk : ∀ k, k < f → N (1000 + k) = I (1000 + k) := fun k hk => no _ (by omega)
  refine hear_ok hf (by rw [no 47 (by omega)]; exact b2) (fun k hk => ?_) (fun J hJ => ⟨_, rfl, ?_⟩)
  · by_cases e : k = f
    · subst e; rw [n5, n6]; omega
    · have := b4 k (by omega)
      rw [nk k (by omega)]
      rw [this.2.2.2.2.2.1.1, this.2.2.2.2.2.2.1.1]
      omega
  obtain ⟨j1, j2, j3⟩ := hJ
  obtain ⟨X, hX⟩ : ∃ X, upI J 47 1 (Int32.ofNat f + 1) = X := ⟨_, rfl⟩
  rw [hX]
  have xo : ∀ q, q ≠ 47 → q ≠ 52 → q ≠ 1000 + f → X q = I q := fun q h1 h2 h3 => by rw [← hX, upI_row h1, j1 q h2, no q h3]
  have xn : ∀ k, X (1000 + k) = N (1000 + k) := fun k => by rw [← hX, upI_row (by omega), j1 _ (by omega)]
  have x52 : ∀ k, X 52 k = J 52 k := fun k => by rw [← hX, upI_row (by decide)]
  have x47 : ∀ k, k ≠ 1 → X 47 k = I 47 k := fun k hk => by rw [← hX, upI_nk (fun z => hk z.2), j1 47 (by decide), no 47 (by omega)]
  have x471 : X 47 1 = Int32.ofNat (f + 1) := by rw [← hX, upI_same, Int32.ofNat_add]; rfl
  have ag : Ag [6, 11] I X := fun q k hq => by
    by_cases h1 : q = 47
    · subst h1; rw [show cmp 47 k = 6 from rfl] at hq; cases hq
    · by_cases h2 : q = 52
      · subst h2; rw [show cmp 52 k = 6 from rfl] at hq; cases hq
      · by_cases h3 : q = 1000 + f
        · subst h3; rw [cmp_fa k (by omega) (by omega)] at hq; cases hq
        · rw [xo q h1 h2 h3]
  have x35 : X 93 35 = Int32.ofNat f := by rw [xo 93 (by decide) (by decide) (by omega)]; exact b3
  refine ⟨_, f + 1, sw, X, rfl, rfl, hR.rx ag rfl, v_Mfact oks ?_⟩
  rw [x35]
  simp only [lcl, lcg, w64]
  simp only [tI_lt, tI_le, Int32.reduceToInt, Int64.reduceToInt, Int32.reduceOfNat, tI_eq (Int32.ofNat f), tf]
  repeat' (refine ite_i (fun _ => ?_) (fun _ => ?_))
  all_goals first
    | (exfalso; omega)
    | skip
  repeat (refine ck_of (kI_x (by omega) hf) ?_)
  rw [kI_c (by omega)]
  refine ⟨mF X f s w m x y u p z, (by first | rfl | trivial), rfl, ?_⟩
  obtain ⟨m0, m1, m2, m3, m4, m5, m6, m7, m8, m9⟩ := mF_v X f s w m x y u p z
  obtain ⟨K, hK⟩ : ∃ K, mF X f s w m x y u p z = K := ⟨_, rfl⟩
  have ko : ∀ q k, q ≠ 93 → (k ≠ f ∨ q < 120 ∨ 128 < q) → K q k = X q k := fun q k h1 h2 => by rw [← hK]; exact mF_o h1 h2
  have agK : Ag [6, 11] X K := by
    rw [← hK]
    unfold mF
    repeat (first | exact Ag.rf | refine Ag.up ?_ rfl)
  rw [hK] at m0 m1 m2 m3 m4 m5 m6 m7 m8 m9 ⊢
  have ha := ag.tr agK
  obtain ⟨r0, r1, r2, r3, r4, r5, r6, r7, r8, r9, r10⟩ := hR
  refine ⟨r0.cg (ha.eqc rfl), r1.cg (ha.eqc rfl), r2.cg (ha.eqc rfl), r3.cg (ha.eqc rfl), r4.cg (ha.eqc rfl), r5.cg (ha.eqc rfl), ?_, r7.cg (ha.eqc rfl), r8.cg (ha.eqc rfl), r9.cg (ha.eqc rfl), r10.cg (ha.eqc rfl)⟩
  have krow : ∀ q k, 120 ≤ q → q ≤ 128 → k ≠ f → K q k = I q k := fun q k h1 h2 h3 => by rw [ko q k (by omega) (Or.inl h3), xo q (by omega) (by omega) (by omega)]
  have kf : ∀ k i, K (1000 + k) i = N (1000 + k) i := fun k i => by rw [ko _ i (by omega) (Or.inr (Or.inr (by omega))), xn]
  have tmE : ∀ c0 c1 c2 a, a ≠ f → tmF K c0 c1 c2 a = tmF I c0 c1 c2 a := fun c0 c1 c2 a ha => by
    unfold tmF wdF
    rw [krow 120 a (by decide) (by decide) ha, krow 122 a (by decide) (by decide) ha, krow 126 a (by decide) (by decide) ha]
  have d2E : ∀ a b, a ≠ f → b ≠ f → d2F K a b = d2F I a b := fun a b ha hb => by
    unfold d2F
    rw [krow 123 a (by decide) (by decide) ha, krow 124 a (by decide) (by decide) ha, krow 123 b (by decide) (by decide) hb, krow 124 b (by decide) (by decide) hb]
  have qrE : ∀ c0 c1 c2 a b, a < f → b < f → qrF K c0 c1 c2 a b = qrF I c0 c1 c2 a b := fun c0 c1 c2 a b ha hb => by
    unfold qrF
    rw [krow 121 a (by decide) (by decide) (by omega), krow 121 b (by decide) (by decide) (by omega), krow 125 a (by decide) (by decide) (by omega), krow 125 b (by decide) (by decide) (by omega), tmE _ _ _ a (by omega), tmE _ _ _ b (by omega), d2E a b (by omega) (by omega)]
  have byE : ∀ i, i < f → (byD N i f).toInt = if K 121 i = K 121 f then (rt (d2F K i f) : Int) - (K 125 i).toInt - (K 125 f).toInt else 0 := fun i hi => by
    have q := b4 i hi
    have e1 : d2C N i f = d2F K i f := by
      unfold d2C d2F
      rw [n5, n6, m3, m4, nk i hi, krow 123 i (by decide) (by decide) (by omega), krow 124 i (by decide) (by decide) (by omega), q.2.2.2.2.2.1.1, q.2.2.2.2.2.2.1.1]
    have e2 : rt (d2F K i f) < 131072 := by
      rw [← e1]
      unfold d2C
      rw [n5, n6, nk i hi, q.2.2.2.2.2.1.1, q.2.2.2.2.2.2.1.1]
      have := (sq2 (a := I 123 i) (b := x) (c := I 124 i) (e := y) q.2.2.2.2.2.1.2 ⟨by omega, by omega⟩ q.2.2.2.2.2.2.1.2 ⟨by omega, by omega⟩).2
      exact rt_small (by omega)
    unfold byD
    rw [e1, n4, n7, m1, m5, nk i hi, krow 121 i (by decide) (by decide) (by omega), krow 125 i (by decide) (by decide) (by omega), q.2.2.2.2.1.1, q.2.2.2.2.2.2.2.1.1]
    by_cases c : I 121 i = w
    · rw [if_pos c, if_pos c]
      have q7 := q.2.2.2.2.2.2.2.1.2
      have t1 : (Int32.ofNat (rt (d2F K i f))).toInt = (rt (d2F K i f) : Int) := kI_t (by omega)
      have t2 : (Int32.ofNat (rt (d2F K i f)) - I 125 i).toInt = (rt (d2F K i f) : Int) - (I 125 i).toInt := by rw [fb_subI (by omega) (by omega), t1]
      rw [fb_subI (by omega) (by omega), t2]
    · rw [if_neg c, if_neg c]
      rfl
  refine ⟨by omega, ?_, ?_, fun k hk => ?_, fun a b ha hb hn => ?_, H, Nat.lt_of_lt_of_le b6 (Nat.pow_le_pow_right (by decide) (by omega)), ?_⟩
  · rw [ko 47 1 (by decide) (Or.inr (Or.inl (by decide))), x471]
  · rw [m9, Int32.ofNat_add]; rfl
  · by_cases e : k = f
    · subst e
      rw [kf, kf, kf, kf, kf, kf, kf, kf, kf, n0, n1, n2, n3, n4, n5, n6, n7, n8, m0, m1, m2, m3, m4, m5, m6, m7, m8]
      refine ⟨⟨rfl, ?_⟩, ⟨rfl, ?_⟩, ⟨rfl, ?_⟩, ⟨rfl, ?_⟩, ⟨rfl, ?_⟩, ⟨rfl, ?_⟩, ⟨rfl, ?_⟩, ⟨rfl, ?_⟩, rfl, Or.inl rfl⟩ <;> omega
    · have q := b4 k (by omega)
      rw [kf, kf, kf, kf, kf, kf, kf, kf, kf, nk k (by omega), krow 120 k (by decide) (by decide) e, krow 121 k (by decide) (by decide) e, krow 122 k (by decide) (by decide) e, krow 123 k (by decide) (by decide) e, krow 124 k (by decide) (by decide) e, krow 125 k (by decide) (by decide) e, krow 126 k (by decide) (by decide) e, krow 127 k (by decide) (by decide) e, krow 128 k (by decide) (by decide) e]
      exact q
  · rw [ko 52 _ (by decide) (Or.inr (Or.inl (by decide))), x52]
    by_cases e1 : a = f
    · subst e1
      rw [(j2 b (by omega)).2, byE b (by omega), d2F_sy K a b]
      by_cases c : K 121 b = K 121 a
      · rw [if_pos c, if_pos c.symm]; omega
      · rw [if_neg c, if_neg (fun z => c z.symm)]
    · by_cases e2 : b = f
      · subst e2
        rw [(j2 a (by omega)).1, byE a (by omega)]
      · rw [j3 a b (by omega) (by omega), no 52 (by omega), krow 121 a (by decide) (by decide) e1, krow 121 b (by decide) (by decide) e2, krow 125 a (by decide) (by decide) e1, krow 125 b (by decide) (by decide) e2, d2E a b e1 e2]
        exact b5 a b (by omega) (by omega) hn
  · have k4 : ∀ q k, (q = 47 ∨ q = 49) → k ≠ 1 ∨ q = 49 → K q k = I q k := fun q k h1 h2 => by
      rw [ko q k (by omega) (Or.inr (Or.inl (by omega)))]
      rcases h1 with e | e
      · subst e; exact x47 k (by omega)
      · subst e; rw [xo 49 (by decide) (by decide) (by omega)]
    unfold JD
    rw [fitS_low b6 qrE, k4 47 5 (Or.inl rfl) (Or.inl (by decide)), k4 47 2 (Or.inl rfl) (Or.inl (by decide)), k4 47 3 (Or.inl rfl) (Or.inl (by decide)), k4 47 4 (Or.inl rfl) (Or.inl (by decide))]
    refine ⟨b7.1, b7.2.1, b7.2.2.1, b7.2.2.2.1, fun i hi => ?_⟩
    rw [k4 49 i (Or.inr rfl) (Or.inr rfl)]
    exact b7.2.2.2.2 i hi
