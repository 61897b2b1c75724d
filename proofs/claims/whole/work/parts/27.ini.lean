/-! THE CONSTRUCTORS: a machine over written-down states, run by the kernel -/
abbrev Hb : Type := Nat × List (Nat × Nat × Int32) × List (Nat × Nat × Nat × Bool)
abbrev Rz : Type := Option Value × Hb
def lkI : List (Nat × Nat × Int32) → (Nat → Nat → Int32) → Nat → Nat → Int32
  | [], b => b
  | q :: t, b => upI (lkI t b) q.1 q.2.1 q.2.2
def lkR : List (Nat × Nat × Nat × Bool) → Nat → Nat → Option Nat
  | [] => fun _ _ => none
  | (p, k, x, false) :: t => upR (lkR t) p k (some x)
  | (p, n, _, true) :: t => fun q i => if q = p then (if i < n then some (p + 1 + i) else none) else lkR t q i
def toH (G : GX) (h : Hb) : Hp := (h.1, 0, lkI h.2.1 (I0 G), lkR h.2.2)
def okH (h : Hb) (p ci : Nat) : Bool := if p < 1000 then (decide (p < h.1) && (SH p).1 == ci) else (ci == 3 && decide (p < 1000 + 0))
def ckb (b : Bool) (A : Option Rz) : Option Rz := match b with
  | true => A
  | false => none
def o1b (st : List Value) (f : Int32 → List Value → Option Rz) : Option Rz := match st with
  | .int x :: r => f x r
  | _ => none
def o2b (st : List Value) (f : Int32 → Int32 → List Value → Option Rz) : Option Rz := match st with
  | .int y :: .int x :: r => f x y r
  | _ => none
def oIb (lv : Lc) (i : Nat) (f : Int32 → Option Rz) : Option Rz := match lv[i]? with
  | some (some (.int x)) => f x
  | _ => none
def oAb (lv : Lc) (i : Nat) (f : Nat → Option Rz) : Option Rz := match lv[i]? with
  | some (some (.ref x)) => f x
  | _ => none
def oRb (st : List Value) (f : Nat → List Value → Option Rz) : Option Rz := match st with
  | .ref p :: r => f p r
  | _ => none
def oVb (o : Option Nat) (f : Nat → Option Rz) : Option Rz := match o with
  | none => none
  | some q => f q
def oSb (st : List Value) (f : Int32 → Int32 → Nat → List Value → Option Rz) : Option Rz := match st with
  | .int x :: .int i :: .ref p :: r => f x i p r
  | _ => none
def oTb (st : List Value) (f : Nat → Int32 → Nat → List Value → Option Rz) : Option Rz := match st with
  | .ref x :: .int i :: .ref p :: r => f x i p r
  | _ => none
def dpb (st : List Value) (f : Value → List Value → Option Rz) : Option Rz := match st with
  | .int x :: r => f (.int x) r
  | .ref x :: r => f (.ref x) r
  | _ => none
def pfb (b : Bool) (st : List Value) (f : Nat → Nat → List Value → Option Rz) (g : Int32 → Nat → List Value → Option Rz) : Option Rz := match b, st with
  | true, .ref x :: .ref p :: r => f x p r
  | false, .int x :: .ref p :: r => g x p r
  | _, _ => none
def tkb (n : Nat) (st : List Value) (f : List Value → List Value → Option Rz) : Option Rz := ckb (decide (n ≤ st.length) && decide (((st.drop n).map Value.category).sum ≤ 8)) (f (st.take n).reverse (st.drop n))
def ifb (b : Bool) (A B : Option Rz) : Option Rz := match b with
  | true => A
  | false => B
def rtb (st : List Value) (A : Option Rz) : Option Rz := match st with
  | [] => A
  | _ => none
def spx (dn : Nat) (e : Ent) (j : Nat) (lv : Lc) (st : List Value) (h : Hb) (nx : Nat → Lc → List Value → Hb → Option Rz) (rt : Option Value → Option Rz) (cl : Nat → List Value → (Option Value → Hb → Option Rz) → Option Rz) : Option Rz :=
  match e with
  | (.iload_n i, _, _, _) => oIb lv i.val fun x => nx (j + 1) lv (.int x :: st) h
  | (.aload_n i, _, _, _) => oAb lv i.val fun x => nx (j + 1) lv (.ref x :: st) h
  | (.istore_n i, _, _, _) => o1b st fun x r => nx (j + 1) (st1 lv i.val (.int x)) r h
  | (.iconst _, _, _, v) => nx (j + 1) lv (v :: st) h
  | (.bipush _, _, _, v) => nx (j + 1) lv (v :: st) h
  | (.sipush _, _, _, v) => nx (j + 1) lv (v :: st) h
  | (.ldc _, _, _, v) => nx (j + 1) lv (v :: st) h
  | (.iinc i n, _, _, _) => oIb lv i fun x => nx (j + 1) (st1 lv i (.int (x + Int32.ofInt n))) st h
  | (.dup, _, _, _) => dpb st fun x r => nx (j + 1) lv (x :: x :: r) h
  | (.goto _, _, a, _) => nx (a.getD 0 0) lv st h
  | (.if_icmp .ge _, _, a, _) => o2b st fun x y r => ifb (decide (y ≤ x)) (nx (a.getD 0 0) lv r h) (nx (j + 1) lv r h)
  | (.getfield _, _, a, _) => oRb st fun p r => ckb (okH h p (a.getD 0 0) && kr (a.getD 0 0) (a.getD 1 0)) (oVb (lkR h.2.2 p (a.getD 1 0)) fun q => nx (j + 1) lv (.ref q :: r) h)
  | (.putfield _, _, a, _) => pfb (kr (a.getD 0 0) (a.getD 1 0)) st (fun x p r => ckb (okH h p (a.getD 0 0)) (nx (j + 1) lv r (h.1, h.2.1, (p, a.getD 1 0, x, false) :: h.2.2))) (fun x p r => ckb (okH h p (a.getD 0 0) && kz (a.getD 0 0) (a.getD 1 0) x) (nx (j + 1) lv r (h.1, (p, a.getD 1 0, x) :: h.2.1, h.2.2)))
  | (.iastore, _, _, _) => oSb st fun x i p r => ckb (okH h p 20) (ckb (ixB i (SH p).2) (nx (j + 1) lv r (h.1, (p, i.toNatClampNeg, x) :: h.2.1, h.2.2)))
  | (.aastore, _, _, _) => oTb st fun x i p r => ckb (okH h p 23 && okH h x 6 || okH h p 24 && okH h x 3) (ckb (ixB i (SH p).2) (nx (j + 1) lv r (h.1, h.2.1, (p, i.toNatClampNeg, x, false) :: h.2.2)))
  | (.arraylength, _, _, _) => oRb st fun p r => ckb (decide (p ≠ 100300)) (ckb (okH h p 20) (nx (j + 1) lv (.int (Int32.ofNat (SH p).2) :: r) h))
  | (.new _, _, a, _) => ckb (decide (a.getD 0 0 ≠ 3)) (ckb (decide ((0 : Nat) = 0) && (decide (h.1 < 147) && decide (SH h.1 = (a.getD 0 0, (vwCl.getD (a.getD 0 0) ("", fun _ => ("", "", "", false), 0)).2.2)))) (nx (j + 1) lv (.ref h.1 :: st) (h.1 + 1, h.2.1, h.2.2)))
  | (.newarray _, _, a, _) => o1b st fun x r => ckb (decide (0 ≤ x) && (decide ((0 : Nat) = 0) && (decide (h.1 < 147) && decide (SH h.1 = (a.getD 0 0, x.toNatClampNeg))))) (nx (j + 1) lv (.ref h.1 :: r) (h.1 + 1, h.2.1, h.2.2))
  | (.anewarray _, _, a, _) => o1b st fun x r => ckb (decide (0 ≤ x) && (decide ((0 : Nat) = 0) && (decide (h.1 < 147) && decide (SH h.1 = (a.getD 0 0, x.toNatClampNeg))))) (nx (j + 1) lv (.ref h.1 :: r) (h.1 + 1, h.2.1, h.2.2))
  | (.multianewarray _ _, _, _, _) => o2b st fun n k r => ckb (decide (0 ≤ n) && (decide (0 ≤ k) && (decide ((0 : Nat) = 0) && (decide (h.1 + n.toNatClampNeg < 147) && (decide (SH h.1 = (25, n.toNatClampNeg)) && (List.range n.toNatClampNeg).all (fun i => decide (SH (h.1 + 1 + i) = (20, k.toNatClampNeg)))))))) (nx (j + 1) lv (.ref h.1 :: r) (h.1 + 1 + n.toNatClampNeg, h.2.1, (h.1, n.toNatClampNeg, 0, true) :: h.2.2))
  | (.invokestatic _, _, 0 :: a, _) => tkb (a.getD 1 0) st fun vs r => cl (a.getD 0 0) vs (fun v h1 => nx (j + 1) lv (v.toList ++ r) h1)
  | (.invokespecial _, _, 5 :: _, _) => oRb st fun p r => ckb (decide (1 ≤ dn) && decide ((r.map Value.category).sum ≤ 8)) (nx (j + 1) lv r h)
  | (.invokespecial _, _, 2 :: a, _) => tkb (a.getD 1 0) st fun vs r => ckb (rcI vs) (cl (a.getD 0 0) vs (fun v h1 => nx (j + 1) lv (v.toList ++ r) h1))
  | (.invokespecial _, _, 4 :: a, _) => tkb (a.getD 1 0) st fun vs r => ckb (rcI vs) (cl (a.getD 0 0) vs (fun v h1 => nx (j + 1) lv (v.toList ++ r) h1))
  | (.return_, _, _, _) => rtb st (rt none)
  | _ => none
def exb : Nat → Nat → MR → Nat → Lc → List Value → Hb → Option Rz
  | 0, _, _, _, _, _, _ => none
  | k + 1, d, M, j, lv, st, h => match ft M j with
    | none => none
    | some e => spx d e j lv st h (fun j' lv' st' h' => exb k d M j' lv' st' h') (fun v => ckb (rtB M v) (some (v, h)))
        (fun i vs K => match d with
          | 0 => none
          | d' + 1 => ckb (useB i && decide ((la vs).length ≤ (mt i).2.2.2.2.1)) (match exb k d' (mt i) 0 (en (mt i) vs) [] h with
            | none => none
            | some z => K z.1 z.2))
theorem ckb_d {b : Bool} {A : Option Rz} {z : Rz} (h : ckb b A = some z) : b = true ∧ A = some z := by
  cases b with
  | true => exact ⟨rfl, h⟩
  | false => cases h
theorem o1b_d {st : List Value} {f : Int32 → List Value → Option Rz} {z : Rz} (h : o1b st f = some z) : ∃ x r, st = .int x :: r ∧ f x r = some z := by
  unfold o1b at h
  split at h
  · exact ⟨_, _, rfl, h⟩
  · cases h
theorem o2b_d {st : List Value} {f : Int32 → Int32 → List Value → Option Rz} {z : Rz} (h : o2b st f = some z) : ∃ x y r, st = .int y :: .int x :: r ∧ f x y r = some z := by
  unfold o2b at h
  split at h
  · exact ⟨_, _, _, rfl, h⟩
  · cases h
theorem oIb_d {lv : Lc} {i : Nat} {f : Int32 → Option Rz} {z : Rz} (h : oIb lv i f = some z) : ∃ x, lv[i]? = some (some (.int x)) ∧ f x = some z := by
  unfold oIb at h
  split at h
  · rename_i x hx
    exact ⟨x, hx, h⟩
  · cases h
theorem oAb_d {lv : Lc} {i : Nat} {f : Nat → Option Rz} {z : Rz} (h : oAb lv i f = some z) : ∃ x, lv[i]? = some (some (.ref x)) ∧ f x = some z := by
  unfold oAb at h
  split at h
  · rename_i x hx
    exact ⟨x, hx, h⟩
  · cases h
theorem oRb_d {st : List Value} {f : Nat → List Value → Option Rz} {z : Rz} (h : oRb st f = some z) : ∃ x r, st = .ref x :: r ∧ f x r = some z := by
  unfold oRb at h
  split at h
  · exact ⟨_, _, rfl, h⟩
  · cases h
theorem oVb_d {o : Option Nat} {f : Nat → Option Rz} {z : Rz} (h : oVb o f = some z) : ∃ q, o = some q ∧ f q = some z := by
  cases o with
  | none => cases h
  | some q => exact ⟨q, rfl, h⟩
theorem oSb_d {st : List Value} {f : Int32 → Int32 → Nat → List Value → Option Rz} {z : Rz} (h : oSb st f = some z) : ∃ x i p r, st = .int x :: .int i :: .ref p :: r ∧ f x i p r = some z := by
  unfold oSb at h
  split at h
  · exact ⟨_, _, _, _, rfl, h⟩
  · cases h
theorem oTb_d {st : List Value} {f : Nat → Int32 → Nat → List Value → Option Rz} {z : Rz} (h : oTb st f = some z) : ∃ x i p r, st = .ref x :: .int i :: .ref p :: r ∧ f x i p r = some z := by
  unfold oTb at h
  split at h
  · exact ⟨_, _, _, _, rfl, h⟩
  · cases h
theorem dpb_d {st : List Value} {f : Value → List Value → Option Rz} {z : Rz} (h : dpb st f = some z) : (∃ x r, st = .int x :: r ∧ f (.int x) r = some z) ∨ (∃ x r, st = .ref x :: r ∧ f (.ref x) r = some z) := by
  unfold dpb at h
  split at h
  · exact Or.inl ⟨_, _, rfl, h⟩
  · exact Or.inr ⟨_, _, rfl, h⟩
  · cases h
theorem pfb_d {b : Bool} {st : List Value} {f : Nat → Nat → List Value → Option Rz} {g : Int32 → Nat → List Value → Option Rz} {z : Rz} (h : pfb b st f g = some z) : (∃ x p r, b = true ∧ st = .ref x :: .ref p :: r ∧ f x p r = some z) ∨ (∃ x p r, b = false ∧ st = .int x :: .ref p :: r ∧ g x p r = some z) := by
  unfold pfb at h
  split at h
  · exact Or.inl ⟨_, _, _, rfl, rfl, h⟩
  · exact Or.inr ⟨_, _, _, rfl, rfl, h⟩
  · cases h
theorem rtb_d {st : List Value} {A : Option Rz} {z : Rz} (h : rtb st A = some z) : st = [] ∧ A = some z := by
  unfold rtb at h
  split at h
  · exact ⟨rfl, h⟩
  · cases h
theorem spx_sp {G : GX} {dn : Nat} {e : Ent} {j : Nat} {lv : Lc} {st : List Value} {h : Hb} {nx : Nat → Lc → List Value → Hb → Option Rz} {rt : Option Value → Option Rz} {cl : Nat → List Value → (Option Value → Hb → Option Rz) → Option Rz} {z : Rz}
    {nxP : Nat → Lc → List Value → Hp → Prop} {rtP : Option Value → Prop} {clP : Nat → List Value → (Option Value → Hp → Prop) → Prop}
    (hs : spx dn e j lv st h nx rt cl = some z) (hnx : ∀ j' lv' st' h', nx j' lv' st' h' = some z → nxP j' lv' st' (toH G h')) (hrt : ∀ v, rt v = some z → rtP v)
    (hcl : ∀ i vs K KP, cl i vs K = some z → (∀ v h1, K v h1 = some z → KP v (toH G h1)) → clP i vs KP) : sp dn e j lv st (toH G h) nxP rtP clP := by
  unfold spx at hs
  split at hs
  · obtain ⟨x, e1, e2⟩ := oIb_d hs
    show oI lv _ _
    unfold oI; rw [e1]; exact hnx _ _ _ _ e2
  · obtain ⟨x, e1, e2⟩ := oAb_d hs
    show oA lv _ _
    unfold oA; rw [e1]; exact hnx _ _ _ _ e2
  · obtain ⟨x, r, rfl, e2⟩ := o1b_d hs
    exact hnx _ _ _ _ e2
  · exact hnx _ _ _ _ hs
  · exact hnx _ _ _ _ hs
  · exact hnx _ _ _ _ hs
  · exact hnx _ _ _ _ hs
  · obtain ⟨x, e1, e2⟩ := oIb_d hs
    show oI lv _ _
    unfold oI; rw [e1]; exact hnx _ _ _ _ e2
  · rcases dpb_d hs with ⟨x, r, rfl, e2⟩ | ⟨x, r, rfl, e2⟩
    · exact hnx _ _ _ _ e2
    · exact hnx _ _ _ _ e2
  · exact hnx _ _ _ _ hs
  · obtain ⟨x, y, r, rfl, e2⟩ := o2b_d hs
    show if y ≤ x then _ else _
    by_cases c : y ≤ x
    · rw [if_pos c]
      rw [decide_eq_true c] at e2
      exact hnx _ _ _ _ e2
    · rw [if_neg c]
      rw [decide_eq_false c] at e2
      exact hnx _ _ _ _ e2
  · obtain ⟨p, r, rfl, e2⟩ := oRb_d hs
    obtain ⟨c1, e2⟩ := ckb_d e2
    rw [Bool.and_eq_true] at c1
    obtain ⟨q, e3, e4⟩ := oVb_d e2
    refine ck_i (b := okB (toH G h) p _) c1.1 ?_
    show (match kr _ _ with | true => oV (lkR h.2.2 p _) _ | false => _)
    rw [c1.2]
    show oV (lkR h.2.2 p _) _
    rw [e3]
    exact hnx _ _ _ _ e4
  · rcases pfb_d hs with ⟨x, p, r, hb, rfl, e2⟩ | ⟨x, p, r, hb, rfl, e2⟩
    · obtain ⟨c1, e2⟩ := ckb_d e2
      unfold sp
      simp only [hb]
      exact ck_i (b := okB (toH G h) p _) c1 (hnx _ _ _ _ e2)
    · obtain ⟨c1, e2⟩ := ckb_d e2
      unfold sp
      simp only [hb]
      exact ck_i (b := okB (toH G h) p _ && _) c1 (hnx _ _ _ _ e2)
  · obtain ⟨x, i, p, r, rfl, e2⟩ := oSb_d hs
    obtain ⟨c1, e2⟩ := ckb_d e2
    obtain ⟨c2, e2⟩ := ckb_d e2
    exact ck_i (b := okB (toH G h) p _) c1 (ck_i c2 (hnx _ _ _ _ e2))
  · obtain ⟨x, i, p, r, rfl, e2⟩ := oTb_d hs
    obtain ⟨c1, e2⟩ := ckb_d e2
    obtain ⟨c2, e2⟩ := ckb_d e2
    exact ck_i (b := okB (toH G h) p _ && okB (toH G h) x _ || okB (toH G h) p _ && okB (toH G h) x _) c1 (ck_i c2 (hnx _ _ _ _ e2))
  · obtain ⟨p, r, rfl, e2⟩ := oRb_d hs
    obtain ⟨c1, e2⟩ := ckb_d e2
    obtain ⟨c2, e2⟩ := ckb_d e2
    show if p = 100300 then _ else _
    rw [if_neg (of_decide_eq_true c1)]
    exact ck_i (b := okB (toH G h) p _) c2 (hnx _ _ _ _ e2)
  · obtain ⟨c1, e2⟩ := ckb_d hs
    obtain ⟨c2, e2⟩ := ckb_d e2
    show (match decide (_ = 3) with | true => _ | false => _)
    rw [decide_eq_false (of_decide_eq_true c1)]
    exact ck_i c2 (hnx _ _ _ _ e2)
  · obtain ⟨x, r, rfl, e2⟩ := o1b_d hs
    obtain ⟨c1, e2⟩ := ckb_d e2
    exact ck_i c1 (hnx _ _ _ _ e2)
  · obtain ⟨x, r, rfl, e2⟩ := o1b_d hs
    obtain ⟨c1, e2⟩ := ckb_d e2
    exact ck_i c1 (hnx _ _ _ _ e2)
  · obtain ⟨x, y, r, rfl, e2⟩ := o2b_d hs
    obtain ⟨c1, e2⟩ := ckb_d e2
    exact ck_i c1 (hnx _ _ _ _ e2)
  · obtain ⟨c1, e2⟩ := ckb_d hs
    exact ck_i c1 (hcl _ _ _ _ e2 (fun v h1 k => hnx _ _ _ _ k))
  · obtain ⟨p, r, rfl, e2⟩ := oRb_d hs
    obtain ⟨c1, e2⟩ := ckb_d e2
    exact ck_i c1 (hnx _ _ _ _ e2)
  · obtain ⟨c1, e2⟩ := ckb_d hs
    obtain ⟨c2, e2⟩ := ckb_d e2
    exact ck_i c1 (ck_i c2 (hcl _ _ _ _ e2 (fun v h1 k => hnx _ _ _ _ k)))
  · obtain ⟨c1, e2⟩ := ckb_d hs
    obtain ⟨c2, e2⟩ := ckb_d e2
    exact ck_i c1 (ck_i c2 (hcl _ _ _ _ e2 (fun v h1 k => hnx _ _ _ _ k)))
  · obtain ⟨rfl, e2⟩ := rtb_d hs
    exact hrt _ e2
  · cases hs
theorem exb_wp {G : GX} : ∀ (k d : Nat) (M : MR) (j : Nat) (lv : Lc) (st : List Value) (h : Hb) (z : Rz), chkM M = true → exb k d M j lv st h = some z → wp G d M j lv st (toH G h) (fun r h' => r = z.1 ∧ h' = toH G z.2)
  | 0, d, M, j, lv, st, h, z, _, hv => by cases hv
  | k + 1, d, M, j, lv, st, h, z, hM, hv => by
    unfold exb at hv
    cases hf : ft M j with
    | none => rw [hf] at hv; cases hv
    | some e =>
      rw [hf] at hv
      refine sp_wp oks.1 oks.2 ck_all hM hf (nx := fun j' lv' st' h' => wp G d M j' lv' st' h' (fun r h' => r = z.1 ∧ h' = toH G z.2)) (rt := fun v => rtB M v = true ∧ (v = z.1 ∧ toH G h = toH G z.2)) (cl := fun i vs K => ∃ d', d = d' + 1 ∧ (la vs).length ≤ (mt i).2.2.2.2.1 ∧ wp G d' (mt i) 0 (en (mt i) vs) [] (toH G h) K) (spx_sp hv (fun j' lv' st' h' q => exb_wp k d M j' lv' st' h' z hM q) (fun v q => ?_) (fun i vs K KP q hK => ?_)) (fun _ _ _ _ q => q) (fun _ q => q) (fun _ _ _ q => q)
      · obtain ⟨c1, q⟩ := ckb_d q
        cases q
        exact ⟨c1, rfl, rfl⟩
      · cases d with
        | zero => cases q
        | succ d' =>
          obtain ⟨c1, q⟩ := ckb_d q
          rw [Bool.and_eq_true, decide_eq_true_eq] at c1
          refine ⟨d', rfl, c1.2, ?_⟩
          cases hz : exb k d' (mt i) 0 (en (mt i) vs) [] h with
          | none => rw [hz] at q; cases q
          | some z1 =>
            rw [hz] at q
            refine (exb_wp (G := G) k d' (mt i) 0 (en (mt i) vs) [] h z1 (ck_all i c1.1) hz).mono ?_
            rintro r h' ⟨rfl, rfl⟩
            exact hK _ _ q
theorem lkI_b {b b' : Nat → Nat → Int32} {p k : Nat} (h : b p k = b' p k) : ∀ l, lkI l b p k = lkI l b' p k
  | [] => h
  | q :: t => by
    show upI (lkI t b) _ _ _ p k = upI (lkI t b') _ _ _ p k
    unfold upI
    rw [lkI_b h t]
theorem lkI_no {b : Nat → Nat → Int32} {p k : Nat} : ∀ l : List (Nat × Nat × Int32), (∀ e ∈ l, ¬ (e.1 = p ∧ e.2.1 = k)) → lkI l b p k = b p k
  | [], _ => rfl
  | q :: t, h => by
    show upI (lkI t b) _ _ _ p k = _
    unfold upI
    have h1 := h q List.mem_cons_self
    have h2 := lkI_no t (fun e he => h e (List.mem_cons_of_mem _ he)) (b := b)
    by_cases e1 : p = q.1
    · rw [if_pos e1, if_neg (fun z => h1 ⟨e1.symm, z.symm⟩), h2]
    · rw [if_neg e1, h2]
/-- where every entry at (p, k) says x, and there is one, that is what is found -/
theorem lkI_yes {b : Nat → Nat → Int32} {p k : Nat} {x : Int32} : ∀ l : List (Nat × Nat × Int32), (∀ e ∈ l, e.1 = p → e.2.1 = k → e.2.2 = x) → (∃ e ∈ l, e.1 = p ∧ e.2.1 = k) → lkI l b p k = x
  | [], _, h => by obtain ⟨e, he, -⟩ := h; cases he
  | q :: t, h, h2 => by
    show upI (lkI t b) _ _ _ p k = _
    unfold upI
    by_cases e1 : q.1 = p ∧ q.2.1 = k
    · rw [if_pos e1.1.symm, if_pos e1.2.symm]
      exact h q List.mem_cons_self e1.1 e1.2
    · have h3 := lkI_yes (b := b) t (fun e he => h e (List.mem_cons_of_mem _ he)) (by
        obtain ⟨e, he, z⟩ := h2
        rcases List.mem_cons.mp he with rfl | he
        · exact absurd z e1
        · exact ⟨e, he, z⟩)
      by_cases e2 : p = q.1
      · rw [if_pos e2, if_neg (fun z => e1 ⟨e2.symm, z.symm⟩), h3]
      · rw [if_neg e2, h3]
def iniL : List (Nat × Nat × Int32) := [(29, 10, 300), (29, 11, (-1000000)), (34, 0, 100), (34, 1, 100), (34, 2, 100), (34, 3, 100), (34, 4, 100), (34, 5, 100), (47, 3, 1), (93, 25, 300), (94, 0, (-1)), (94, 1, (-1)), (94, 2, (-1)), (94, 3, (-1)), (94, 4, (-1)), (94, 5, (-1)), (94, 6, (-1)), (94, 7, (-1)), (97, 1, 38), (97, 2, 71), (97, 3, 92), (97, 4, 100), (97, 5, 92), (97, 6, 71), (97, 7, 38), (97, 9, (-38)), (97, 10, (-71)), (97, 11, (-92)), (97, 12, (-100)), (97, 13, (-92)), (97, 14, (-71)), (97, 15, (-38)), (98, 0, (-100)), (98, 1, (-92)), (98, 2, (-71)), (98, 3, (-38)), (98, 5, 38), (98, 6, 71), (98, 7, 92), (98, 8, 100), (98, 9, 92), (98, 10, 71), (98, 11, 38), (98, 13, (-38)), (98, 14, (-71)), (98, 15, (-92)), (112, 0, 100), (112, 1, 100), (112, 2, 100), (112, 3, 100), (112, 4, 100), (112, 5, 100)]
def iW1 : List (Nat × Nat × Int32) := [(91, 3, 0), (91, 2, 0), (91, 1, 0), (89, 3, 0), (89, 2, 0), (89, 1, 0), (87, 3, 0), (87, 2, 0), (87, 1, 0), (85, 3, 0), (85, 2, 0), (85, 1, 0), (83, 3, 0), (83, 2, 0), (83, 1, 0), (81, 3, 0), (81, 2, 0), (81, 1, 0), (79, 3, 0), (79, 2, 0), (79, 1, 0), (77, 3, 0), (77, 2, 0), (77, 1, 0), (0, 11, 0), (71, 0, 0), (65, 0, 0), (61, 5, 0), (61, 4, 0), (61, 3, 0), (61, 1, 0), (61, 0, 0), (57, 3, 0), (55, 1, 0), (47, 5, 0), (47, 4, 0), (47, 3, 1), (47, 2, 0), (47, 1, 0), (34, 5, 100), (34, 4, 100), (34, 3, 100), (34, 2, 100), (34, 1, 100), (34, 0, 100), (29, 12, 0), (29, 11, (-1000000)), (29, 10, 300), (29, 9, 0), (29, 1, 0), (30, 3, 0), (2, 9, 0), (2, 2, 0), (7, 3, 0), (3, 3, 0)]
def iR1 : List (Nat × Nat × Nat × Bool) := [(1, 7, 91, false), (91, 0, 92, false), (1, 6, 89, false), (89, 0, 90, false), (1, 5, 87, false), (87, 0, 88, false), (1, 4, 85, false), (85, 0, 86, false), (1, 3, 83, false), (83, 0, 84, false), (1, 2, 81, false), (81, 0, 82, false), (1, 1, 79, false), (79, 0, 80, false), (1, 0, 77, false), (77, 0, 78, false), (0, 10, 71, false), (71, 5, 76, false), (71, 4, 75, false), (71, 3, 74, false), (71, 2, 73, false), (71, 1, 72, false), (0, 9, 65, false), (65, 5, 70, false), (65, 4, 69, false), (65, 3, 68, false), (65, 2, 67, false), (65, 1, 66, false), (0, 8, 64, false), (0, 7, 63, false), (0, 6, 61, false), (61, 2, 62, false), (0, 5, 57, false), (57, 2, 60, false), (57, 1, 59, false), (57, 0, 58, false), (0, 4, 55, false), (55, 0, 56, false), (0, 3, 47, false), (47, 11, 54, false), (47, 10, 53, false), (47, 9, 52, false), (47, 8, 51, false), (47, 7, 50, false), (47, 6, 49, false), (47, 0, 48, false), (0, 2, 29, false), (29, 8, 40, false), (40, 6, 0, true), (29, 7, 39, false), (29, 6, 38, false), (29, 5, 37, false), (29, 4, 36, false), (29, 3, 35, false), (29, 2, 34, false), (29, 0, 30, false), (30, 2, 33, false), (30, 1, 32, false), (30, 0, 31, false), (0, 1, 2, false), (2, 8, 28, false), (2, 7, 27, false), (2, 6, 26, false), (2, 5, 21, false), (21, 4, 0, true), (2, 4, 16, false), (16, 4, 0, true), (2, 3, 11, false), (11, 4, 0, true), (2, 1, 7, false), (7, 2, 10, false), (7, 1, 9, false), (7, 0, 8, false), (2, 0, 3, false), (3, 2, 6, false), (3, 1, 5, false), (3, 0, 4, false), (0, 0, 1, false)]
def iW2 : List (Nat × Nat × Int32) := [(93, 25, 300), (112, 5, 100), (112, 4, 100), (112, 3, 100), (112, 2, 100), (112, 1, 100), (112, 0, 100), (98, 15, (-92)), (98, 14, (-71)), (98, 13, (-38)), (98, 12, 0), (98, 11, 38), (98, 10, 71), (98, 9, 92), (98, 8, 100), (98, 7, 92), (98, 6, 71), (98, 5, 38), (98, 4, 0), (98, 3, (-38)), (98, 2, (-71)), (98, 1, (-92)), (98, 0, (-100)), (97, 15, (-38)), (97, 14, (-71)), (97, 13, (-92)), (97, 12, (-100)), (97, 11, (-92)), (97, 10, (-71)), (97, 9, (-38)), (97, 8, 0), (97, 7, 38), (97, 6, 71), (97, 5, 92), (97, 4, 100), (97, 3, 92), (97, 2, 71), (97, 1, 38), (97, 0, 0), (94, 7, (-1)), (94, 6, (-1)), (94, 5, (-1)), (94, 4, (-1)), (94, 3, (-1)), (94, 2, (-1)), (94, 1, (-1)), (94, 0, (-1)), (91, 3, 0), (91, 2, 0), (91, 1, 0), (89, 3, 0), (89, 2, 0), (89, 1, 0), (87, 3, 0), (87, 2, 0), (87, 1, 0), (85, 3, 0), (85, 2, 0), (85, 1, 0), (83, 3, 0), (83, 2, 0), (83, 1, 0), (81, 3, 0), (81, 2, 0), (81, 1, 0), (79, 3, 0), (79, 2, 0), (79, 1, 0), (77, 3, 0), (77, 2, 0), (77, 1, 0), (0, 11, 0), (71, 0, 0), (65, 0, 0), (61, 5, 0), (61, 4, 0), (61, 3, 0), (61, 1, 0), (61, 0, 0), (57, 3, 0), (55, 1, 0), (47, 5, 0), (47, 4, 0), (47, 3, 1), (47, 2, 0), (47, 1, 0), (34, 5, 100), (34, 4, 100), (34, 3, 100), (34, 2, 100), (34, 1, 100), (34, 0, 100), (29, 12, 0), (29, 11, (-1000000)), (29, 10, 300), (29, 9, 0), (29, 1, 0), (30, 3, 0), (2, 9, 0), (2, 2, 0), (7, 3, 0), (3, 3, 0)]
def iR2 : List (Nat × Nat × Nat × Bool) := [(93, 78, 146, false), (93, 77, 145, false), (93, 76, 144, false), (93, 75, 143, false), (93, 74, 142, false), (93, 73, 141, false), (93, 62, 140, false), (93, 61, 139, false), (93, 60, 138, false), (93, 59, 137, false), (93, 57, 136, false), (93, 56, 135, false), (93, 55, 134, false), (93, 53, 133, false), (93, 48, 132, false), (93, 47, 131, false), (93, 46, 130, false), (93, 45, 129, false), (93, 44, 128, false), (93, 43, 127, false), (93, 42, 126, false), (93, 41, 125, false), (93, 40, 124, false), (93, 39, 123, false), (93, 38, 122, false), (93, 37, 121, false), (93, 36, 120, false), (93, 34, 119, false), (93, 33, 118, false), (93, 32, 117, false), (93, 31, 116, false), (93, 29, 115, false), (93, 28, 114, false), (93, 27, 113, false), (93, 23, 112, false), (93, 22, 111, false), (93, 21, 110, false), (93, 20, 109, false), (93, 18, 108, false), (93, 17, 107, false), (93, 16, 106, false), (93, 15, 105, false), (93, 14, 104, false), (93, 13, 103, false), (93, 12, 102, false), (93, 11, 101, false), (93, 9, 100, false), (93, 8, 99, false), (93, 6, 98, false), (93, 5, 97, false), (93, 4, 96, false), (93, 3, 95, false), (93, 2, 94, false), (1, 7, 91, false), (91, 0, 92, false), (1, 6, 89, false), (89, 0, 90, false), (1, 5, 87, false), (87, 0, 88, false), (1, 4, 85, false), (85, 0, 86, false), (1, 3, 83, false), (83, 0, 84, false), (1, 2, 81, false), (81, 0, 82, false), (1, 1, 79, false), (79, 0, 80, false), (1, 0, 77, false), (77, 0, 78, false), (0, 10, 71, false), (71, 5, 76, false), (71, 4, 75, false), (71, 3, 74, false), (71, 2, 73, false), (71, 1, 72, false), (0, 9, 65, false), (65, 5, 70, false), (65, 4, 69, false), (65, 3, 68, false), (65, 2, 67, false), (65, 1, 66, false), (0, 8, 64, false), (0, 7, 63, false), (0, 6, 61, false), (61, 2, 62, false), (0, 5, 57, false), (57, 2, 60, false), (57, 1, 59, false), (57, 0, 58, false), (0, 4, 55, false), (55, 0, 56, false), (0, 3, 47, false), (47, 11, 54, false), (47, 10, 53, false), (47, 9, 52, false), (47, 8, 51, false), (47, 7, 50, false), (47, 6, 49, false), (47, 0, 48, false), (0, 2, 29, false), (29, 8, 40, false), (40, 6, 0, true), (29, 7, 39, false), (29, 6, 38, false), (29, 5, 37, false), (29, 4, 36, false), (29, 3, 35, false), (29, 2, 34, false), (29, 0, 30, false), (30, 2, 33, false), (30, 1, 32, false), (30, 0, 31, false), (0, 1, 2, false), (2, 8, 28, false), (2, 7, 27, false), (2, 6, 26, false), (2, 5, 21, false), (21, 4, 0, true), (2, 4, 16, false), (16, 4, 0, true), (2, 3, 11, false), (11, 4, 0, true), (2, 1, 7, false), (7, 2, 10, false), (7, 1, 9, false), (7, 0, 8, false), (2, 0, 3, false), (3, 2, 6, false), (3, 1, 5, false), (3, 0, 4, false), (0, 0, 1, false)]
def eqW : List (Nat × Nat × Int32) → List (Nat × Nat × Int32) → Bool
  | [], [] => true
  | a :: s, b :: t => Nat.beq a.1 b.1 && (Nat.beq a.2.1 b.2.1 && (decide (a.2.2 = b.2.2) && eqW s t))
  | _, _ => false
def eqR : List (Nat × Nat × Nat × Bool) → List (Nat × Nat × Nat × Bool) → Bool
  | [], [] => true
  | a :: s, b :: t => Nat.beq a.1 b.1 && (Nat.beq a.2.1 b.2.1 && (Nat.beq a.2.2.1 b.2.2.1 && (a.2.2.2 == b.2.2.2 && eqR s t)))
  | _, _ => false
def eqZ (z : Option Rz) (h : Hb) : Bool := match z with
  | some (none, g) => Nat.beq g.1 h.1 && (eqW g.2.1 h.2.1 && eqR g.2.2 h.2.2)
  | _ => false
theorem eqW_eq : ∀ {s t : List (Nat × Nat × Int32)}, eqW s t = true → s = t
  | [], [], _ => rfl
  | a :: s, b :: t, h => by
    simp only [eqW, Bool.and_eq_true, decide_eq_true_eq] at h
    obtain ⟨h1, h2, h3, h4⟩ := h
    rw [eqW_eq h4]
    obtain ⟨a1, a2, a3⟩ := a
    obtain ⟨b1, b2, b3⟩ := b
    rw [show a1 = b1 from Nat.eq_of_beq_eq_true h1, show a2 = b2 from Nat.eq_of_beq_eq_true h2, show a3 = b3 from h3]
  | [], _ :: _, h => by cases h
  | _ :: _, [], h => by cases h
theorem eqR_eq : ∀ {s t : List (Nat × Nat × Nat × Bool)}, eqR s t = true → s = t
  | [], [], _ => rfl
  | a :: s, b :: t, h => by
    simp only [eqR, Bool.and_eq_true, beq_iff_eq] at h
    obtain ⟨h1, h2, h3, h4, h5⟩ := h
    rw [eqR_eq h5]
    obtain ⟨a1, a2, a3, a4⟩ := a
    obtain ⟨b1, b2, b3, b4⟩ := b
    rw [show a1 = b1 from Nat.eq_of_beq_eq_true h1, show a2 = b2 from Nat.eq_of_beq_eq_true h2, show a3 = b3 from Nat.eq_of_beq_eq_true h3, show a4 = b4 from h4]
  | [], _ :: _, h => by cases h
  | _ :: _, [], h => by cases h
theorem eqZ_eq {z : Option Rz} {h : Hb} (e : eqZ z h = true) : z = some (none, h) := by
  unfold eqZ at e
  split at e
  · rename_i g
    rw [Bool.and_eq_true, Bool.and_eq_true] at e
    obtain ⟨e1, e2, e3⟩ := e
    obtain ⟨g1, g2, g3⟩ := g
    obtain ⟨h1, h2, h3⟩ := h
    rw [show g1 = h1 from Nat.eq_of_beq_eq_true e1, show g2 = h2 from eqW_eq e2, show g3 = h3 from eqR_eq e3]
  · cases e
def kmx (p : Nat) : Nat := (RPL.getD p []).length
def hasW (l : List (Nat × Nat × Int32)) (p k : Nat) : Bool := match l with
  | [] => false
  | e :: t => (Nat.beq e.1 p && Nat.beq e.2.1 k) || hasW t p k
def hasR (l : List (Nat × Nat × Nat × Bool)) (p k : Nat) : Bool := match l with
  | [] => false
  | e :: t => (Nat.beq e.1 p && (Nat.beq e.2.1 k || e.2.2.2)) || hasR t p k
def cI : Bool := iW2.all (fun e => decide (e.1 < 1000) && decide (lkI iniL (fun _ _ => 0) e.1 e.2.1 = e.2.2)) && iniL.all (fun e => hasW iW2 e.1 e.2.1)
def okR (e : Nat × Nat × Nat × Bool) : Bool := decide (e.1 ≠ 48) && (match e.2.2.2 with
  | false => decide (RP 0 false e.1 e.2.1 = some e.2.2.1)
  | true => Nat.beq (kmx e.1) e.2.1 && (decide (e.1 ≠ 0) && (List.range e.2.1).all (fun i => decide (RP 0 false e.1 i = some (e.1 + 1 + i)))))
def cR : Bool := iR2.all okR && (List.range 147).all (fun p => (List.range (kmx p)).all (fun k => (RP 0 false p k).isNone || hasR iR2 p k))
set_option maxRecDepth 1000000 in
theorem cI_ok : cI = true := by decide +kernel
set_option maxRecDepth 1000000 in
theorem cR_ok : cR = true := by decide +kernel
theorem hasW_e {p k : Nat} : ∀ {l : List (Nat × Nat × Int32)}, hasW l p k = true → ∃ e ∈ l, e.1 = p ∧ e.2.1 = k
  | [], h => by cases h
  | e :: t, h => by
    simp only [hasW, Bool.or_eq_true, Bool.and_eq_true] at h
    rcases h with ⟨h1, h2⟩ | h
    · exact ⟨e, List.mem_cons_self, Nat.eq_of_beq_eq_true h1, Nat.eq_of_beq_eq_true h2⟩
    · obtain ⟨e', he, z⟩ := hasW_e h
      exact ⟨e', List.mem_cons_of_mem _ he, z⟩
theorem hasR_e {p k : Nat} : ∀ {l : List (Nat × Nat × Nat × Bool)}, hasR l p k = true → ∃ e ∈ l, e.1 = p ∧ (e.2.1 = k ∨ e.2.2.2 = true)
  | [], h => by cases h
  | e :: t, h => by
    simp only [hasR, Bool.or_eq_true, Bool.and_eq_true] at h
    rcases h with ⟨h1, h2⟩ | h
    · exact ⟨e, List.mem_cons_self, Nat.eq_of_beq_eq_true h1, h2.elim (fun z => Or.inl (Nat.eq_of_beq_eq_true z)) Or.inr⟩
    · obtain ⟨e', he, z⟩ := hasR_e h
      exact ⟨e', List.mem_cons_of_mem _ he, z⟩
theorem cI_eq (G : GX) : lkI iW2 (I0 G) = lkI iniL (I0 G) := by
  funext p k
  have h := cI_ok
  unfold cI at h
  rw [Bool.and_eq_true, List.all_eq_true, List.all_eq_true] at h
  obtain ⟨h1, h2⟩ := h
  by_cases hk : ∃ e ∈ iW2, e.1 = p ∧ e.2.1 = k
  · obtain ⟨e, he, rfl, rfl⟩ := id hk
    have q := h1 e he
    rw [Bool.and_eq_true, decide_eq_true_eq, decide_eq_true_eq] at q
    have z : I0 G e.1 e.2.1 = 0 := by unfold I0; rw [if_neg (by omega), if_neg (by omega)]
    have b : lkI iniL (I0 G) e.1 e.2.1 = lkI iniL (fun _ _ => 0) e.1 e.2.1 := lkI_b (b := I0 G) (b' := fun _ _ => 0) z iniL
    rw [b, q.2]
    refine lkI_yes iW2 (fun e' he' z1 z2 => ?_) hk
    have q' := h1 e' he'
    rw [Bool.and_eq_true, decide_eq_true_eq, decide_eq_true_eq, z1, z2] at q'
    rw [← q'.2, q.2]
  · rw [lkI_no iW2 (fun e he z => hk ⟨e, he, z⟩), lkI_no iniL (fun e he z => ?_)]
    obtain ⟨e', he', z1, z2⟩ := hasW_e (h2 e he)
    exact hk ⟨e', he', z1.trans z.1, z2.trans z.2⟩
theorem lkR_no {p k : Nat} : ∀ l : List (Nat × Nat × Nat × Bool), (∀ e ∈ l, ¬ (e.1 = p ∧ (e.2.1 = k ∨ e.2.2.2 = true))) → lkR l p k = none
  | [], _ => rfl
  | (p', n, x, false) :: t, h => by
    show upR (lkR t) _ _ _ p k = _
    unfold upR
    have h1 := h _ List.mem_cons_self
    have h2 := lkR_no t (fun e he => h e (List.mem_cons_of_mem _ he))
    by_cases e1 : p = p'
    · rw [if_pos e1, if_neg (fun z => h1 ⟨e1.symm, Or.inl z.symm⟩), h2]
    · rw [if_neg e1, h2]
  | (p', n, x, true) :: t, h => by
    show (if p = p' then (if k < n then _ else none) else lkR t p k) = none
    have h1 := h _ List.mem_cons_self
    have h2 := lkR_no t (fun e he => h e (List.mem_cons_of_mem _ he))
    rw [if_neg (fun z => h1 ⟨z.symm, Or.inr rfl⟩), h2]
theorem RP_no {p k : Nat} (h : kmx p ≤ k) (h0 : p ≠ 0) : RP 0 false p k = none := by
  unfold kmx at h
  have z : (RPL.getD p []).getD k none = none := by rw [List.getD_eq_getElem?_getD, List.getElem?_eq_none h]; rfl
  unfold RP
  rw [z]
  by_cases e1 : p = 48
  · rw [if_pos e1, if_neg (by omega)]
  · rw [if_neg e1, if_neg h0]
theorem RP_no0 {k : Nat} (h : 12 ≤ k) : RP 0 false 0 k = none := by
  have z : (RPL.getD 0 []).getD k none = none := by
    rw [List.getD_eq_getElem?_getD, List.getElem?_eq_none (by rw [show (RPL.getD 0 []).length = 12 from rfl]; exact h)]; rfl
  unfold RP
  rw [z, if_neg (by omega), if_pos rfl, if_neg (by omega), if_neg (by omega)]
theorem lkR_yes {p k : Nat} : ∀ l : List (Nat × Nat × Nat × Bool), (∀ e ∈ l, okR e = true) → (∃ e ∈ l, e.1 = p ∧ (e.2.1 = k ∨ e.2.2.2 = true)) → lkR l p k = RP 0 false p k
  | [], _, h => by obtain ⟨e, he, -⟩ := h; cases he
  | (p', n, x, false) :: t, h, h2 => by
    show upR (lkR t) _ _ _ p k = _
    unfold upR
    have h1 := h _ List.mem_cons_self
    simp only [okR, Bool.and_eq_true, decide_eq_true_eq] at h1
    by_cases e1 : p = p' ∧ k = n
    · rw [if_pos e1.1, if_pos e1.2, e1.1, e1.2]
      exact h1.2.symm
    · have h3 := lkR_yes t (fun e he => h e (List.mem_cons_of_mem _ he)) (by
        obtain ⟨e, he, z1, z2⟩ := h2
        rcases List.mem_cons.mp he with rfl | he
        · rcases z2 with z2 | z2
          · exact absurd ⟨z1.symm, z2.symm⟩ e1
          · cases z2
        · exact ⟨e, he, z1, z2⟩)
      by_cases e2 : p = p'
      · rw [if_pos e2, if_neg (fun z => e1 ⟨e2, z⟩), h3]
      · rw [if_neg e2, h3]
  | (p', n, x, true) :: t, h, h2 => by
    show (if p = p' then (if k < n then some (p' + 1 + k) else none) else lkR t p k) = RP 0 false p k
    have h1 := h _ List.mem_cons_self
    simp only [okR, Bool.and_eq_true, decide_eq_true_eq, List.all_eq_true] at h1
    obtain ⟨h0, h3, h4, h5⟩ := h1
    by_cases e1 : p = p'
    · rw [if_pos e1, e1]
      by_cases e2 : k < n
      · rw [if_pos e2]
        exact (h5 k (List.mem_range.mpr e2)).symm
      · rw [if_neg e2, RP_no (by rw [Nat.eq_of_beq_eq_true h3]; exact Nat.le_of_not_lt e2) h4]
    · rw [if_neg e1]
      refine lkR_yes t (fun e he => h e (List.mem_cons_of_mem _ he)) ?_
      obtain ⟨e, he, z1, z2⟩ := h2
      rcases List.mem_cons.mp he with rfl | he
      · exact absurd z1.symm e1
      · exact ⟨e, he, z1, z2⟩
theorem cR_eq : lkR iR2 = RP 0 false := by
  funext p k
  have h := cR_ok
  unfold cR at h
  rw [Bool.and_eq_true, List.all_eq_true, List.all_eq_true] at h
  obtain ⟨h1, h2⟩ := h
  by_cases hk : ∃ e ∈ iR2, e.1 = p ∧ (e.2.1 = k ∨ e.2.2.2 = true)
  · exact lkR_yes iR2 h1 hk
  · rw [lkR_no iR2 (fun e he z => hk ⟨e, he, z⟩)]
    have hl : RPL.length = 147 := by decide +kernel
    by_cases hp : p < 147
    · by_cases hq : k < kmx p
      · have h3 := h2 p (List.mem_range.mpr hp)
        rw [List.all_eq_true] at h3
        have h4 := h3 k (List.mem_range.mpr hq)
        rw [Bool.or_eq_true] at h4
        rcases h4 with h4 | h4
        · cases hz : RP 0 false p k with
          | none => rfl
          | some z => rw [hz] at h4; cases h4
        · exact absurd (hasR_e h4) hk
      · by_cases h0 : p = 0
        · subst h0
          exact (RP_no0 (Nat.le_of_not_lt hq)).symm
        · exact (RP_no (Nat.le_of_not_lt hq) h0).symm
    · unfold RP
      have z : RPL.getD p [] = [] := by rw [List.getD_eq_getElem?_getD, List.getElem?_eq_none (by omega)]; rfl
      rw [if_neg (by omega), if_neg (by omega), z]
      rfl
set_option maxRecDepth 1000000 in
theorem ini1_ok : eqZ (exb 3000 999 (mt 0) 0 (en (mt 0) [.ref 0]) [] (1, [], [])) (93, iW1, iR1) = true := by decide +kernel
set_option maxRecDepth 1000000 in
theorem ini2_ok : eqZ (exb 3000 999 (mt 181) 0 (en (mt 181) [.ref 93]) [] (94, iW1, iR1)) (147, iW2, iR2) = true := by decide +kernel
