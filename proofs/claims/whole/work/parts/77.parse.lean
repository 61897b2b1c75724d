/-! THE RULES' GRAMMAR, and the class's reader -/
abbrev Tst : Type := Int32 × Int32 × Int32
abbrev Rul : Type := Int32 × List Tst
abbrev Flt : Type := Int32 × Nat
def pT (T : Nat → Int32) (n k : Nat) : Except Flt (Nat × Tst) := if sbj T n k = -1000000 then .error (1, tS T n k) else if sgT T n (tE T n k) = -1000000 then .error (1, tS T n (tE T n k)) else if nuB T n (tE T n (tE T n k)) = true then .ok (tE T n (tE T n (tE T n k)), sbj T n k, sgT T n (tE T n k), nvT T n (tE T n (tE T n k))) else .error (1, tS T n (tE T n (tE T n k)))
def pA (T : Nat → Int32) (n : Nat) : Nat → Nat → List Tst → Except Flt (Nat × List Tst)
  | 0, k, ts => if rdB T n k 9 = true then .error (2, tS T n k) else .ok (k, ts)
  | c + 1, k, ts => if rdB T n k 9 = true then (match pT T n (tE T n k) with
    | .error e => .error e
    | .ok (k', x) => pA T n c k' (ts ++ [x])) else .ok (k, ts)
def pM (T : Nat → Int32) (n k : Nat) : Except Flt (Nat × Int32) := if rdB T n k 10 = true then (if acn T n (tE T n k) = -1000000 then .error (1, tS T n (tE T n k)) else if rdB T n (tE T n (tE T n k)) 15 = true then .ok (tE T n (tE T n (tE T n k)), acn T n (tE T n k)) else .error (1, tS T n (tE T n (tE T n k)))) else .error (1, tS T n k)
def pR (T : Nat → Int32) (n r k : Nat) : Except Flt (Nat × Rul) := if rdB T n k 0 = true then (if r = 10 then .error (3, tS T n k) else match pT T n (tE T n k) with
  | .error e => .error e
  | .ok (k1, x) => match pA T n 2 k1 [x] with
    | .error e => .error e
    | .ok (k2, ts) => match pM T n k2 with
      | .error e => .error e
      | .ok (k3, a) => .ok (k3, a, ts)) else .error (1, tS T n k)
def pS (T : Nat → Int32) (n : Nat) : Nat → Nat → List Rul → Except Flt (List Rul)
  | 0, _, _ => .error (0, 0)
  | c + 1, k, rs => if tS T n k = n then .ok rs else match pR T n rs.length k with
    | .error e => .error e
    | .ok (k', r) => pS T n c k' (rs ++ [r])
theorem pT_le {T : Nat → Int32} {n k k' : Nat} {x : Tst} (hk : k ≤ n) (h : pT T n k = .ok (k', x)) : k' ≤ n := by
  unfold pT at h
  split at h
  · cases h
  · split at h
    · cases h
    · split at h
      · have e := congrArg (fun z => match z with | Except.ok a => a.1 | Except.error _ => 0) h
        simp only at e
        have e1 := (tE_le (T := T) hk).2.1
        have e2 := (tE_le (T := T) e1).2.1
        have e3 := (tE_le (T := T) e2).2.1
        omega
      · cases h
def tz : Tst := (0, 0, 0)
def rz : Rul := (0, [])
theorem gdA {α : Type} {l : List α} {x z : α} {i : Nat} (h : i < l.length) : (l ++ [x]).getD i z = l.getD i z := by
  rw [List.getD_eq_getElem?_getD, List.getElem?_append_left h, ← List.getD_eq_getElem?_getD]
theorem gdL {α : Type} {l : List α} {x z : α} : (l ++ [x]).getD l.length z = x := by
  rw [List.getD_eq_getElem?_getD, List.getElem?_append_right (Nat.le_refl _), Nat.sub_self]
  rfl
/-- the tests of rule r, written at the book d -/
def TW (d : Nat) (J : St) (r : Nat) (ts : List Tst) : Prop := ∀ n, n < ts.length → J (d + 3) (3 * r + n) = (ts.getD n tz).1 ∧ J (d + 4) (3 * r + n) = (ts.getD n tz).2.1 ∧ J (d + 5) (3 * r + n) = (ts.getD n tz).2.2
def BC (d : Nat) (J : St) (rs : List Rul) : Prop := J d 0 = Int32.ofNat rs.length ∧ ∀ r, r < rs.length → (rs.getD r rz).2.length ≤ 3 ∧ J (d + 1) r = (rs.getD r rz).1 ∧ J (d + 2) r = Int32.ofNat (rs.getD r rz).2.length ∧ TW d J r (rs.getD r rz).2
def BW (d : Nat) (J : St) (rs : List Rul) (ts : List Tst) : Prop := BC d J rs ∧ J (d + 2) rs.length = Int32.ofNat ts.length ∧ TW d J rs.length ts
theorem BW.add {d : Nat} {J : St} {rs : List Rul} {ts : List Tst} {x : Tst} (h : BW d J rs ts) (ht : ts.length < 3) : BW d (upI (upI (upI (upI J (d + 3) (3 * rs.length + ts.length) x.1) (d + 4) (3 * rs.length + ts.length) x.2.1) (d + 5) (3 * rs.length + ts.length) x.2.2) (d + 2) rs.length (Int32.ofNat ts.length + 1)) rs (ts ++ [x]) := by
  obtain ⟨⟨h1, h2⟩, h3, h4⟩ := h
  refine ⟨⟨?_, fun r hr => ?_⟩, ?_, fun n hn => ?_⟩
  · rw [upI_nk (by omega), upI_nk (by omega), upI_nk (by omega), upI_nk (by omega)]; exact h1
  · obtain ⟨a1, a2, a3, a4⟩ := h2 r hr
    refine ⟨a1, ?_, ?_, fun n hn => ?_⟩
    · rw [upI_nk (by omega), upI_nk (by omega), upI_nk (by omega), upI_nk (by omega)]; exact a2
    · rw [upI_nk (by omega), upI_nk (by omega), upI_nk (by omega), upI_nk (by omega)]; exact a3
    · have := a4 n hn
      rw [upI_nk (by omega), upI_nk (by omega), upI_nk (by omega), upI_nk (by omega), upI_nk (by omega), upI_nk (by omega), upI_nk (by omega), upI_nk (by omega), upI_nk (by omega), upI_nk (by omega), upI_nk (by omega), upI_nk (by omega)]
      exact this
  · rw [upI_same, List.length_append]; exact l1a _
  · rw [List.length_append] at hn
    have hn : n < ts.length + 1 := hn
    by_cases e : n = ts.length
    · rw [e, gdL]
      refine ⟨?_, ?_, ?_⟩
      · rw [upI_nk (by omega), upI_nk (by omega), upI_nk (by omega), upI_same]
      · rw [upI_nk (by omega), upI_nk (by omega), upI_same]
      · rw [upI_nk (by omega), upI_same]
    · rw [gdA (by omega), upI_nk (by omega), upI_nk (by omega), upI_nk (by omega), upI_nk (by omega), upI_nk (by omega), upI_nk (by omega), upI_nk (by omega), upI_nk (by omega), upI_nk (by omega), upI_nk (by omega), upI_nk (by omega), upI_nk (by omega)]
      exact h4 n (by omega)
theorem BW.fin {d : Nat} {J : St} {rs : List Rul} {ts : List Tst} {a : Int32} (h : BW d J rs ts) (ht : ts.length ≤ 3) : BC d (upI (upI J (d + 1) rs.length a) d 0 (Int32.ofNat rs.length + 1)) (rs ++ [(a, ts)]) := by
  obtain ⟨⟨h1, h2⟩, h3, h4⟩ := h
  refine ⟨?_, fun r hr => ?_⟩
  · rw [upI_same, List.length_append]; exact l1a _
  · rw [List.length_append] at hr
    have hr : r < rs.length + 1 := hr
    by_cases e : r = rs.length
    · rw [e, gdL]
      refine ⟨ht, ?_, ?_, fun n hn => ?_⟩
      · rw [upI_nk (by omega), upI_same]
      · rw [upI_nk (by omega), upI_nk (by omega)]; exact h3
      · have := h4 n hn
        rw [upI_nk (by omega), upI_nk (by omega), upI_nk (by omega), upI_nk (by omega), upI_nk (by omega), upI_nk (by omega)]
        exact this
    · obtain ⟨a1, a2, a3, a4⟩ := h2 r (by omega)
      rw [gdA (by omega)]
      refine ⟨a1, ?_, ?_, fun n hn => ?_⟩
      · rw [upI_nk (by omega), upI_nk (by omega)]; exact a2
      · rw [upI_nk (by omega), upI_nk (by omega)]; exact a3
      · have := a4 n hn
        rw [upI_nk (by omega), upI_nk (by omega), upI_nk (by omega), upI_nk (by omega), upI_nk (by omega), upI_nk (by omega)]
        exact this
theorem BC.beg {d : Nat} {J : St} {rs : List Rul} (h : BC d J rs) : BW d (upI J (d + 2) rs.length 0) rs [] := by
  obtain ⟨h1, h2⟩ := h
  refine ⟨⟨?_, fun r hr => ?_⟩, ?_, fun n hn => absurd hn (by simp)⟩
  · rw [upI_nk (by omega)]; exact h1
  · obtain ⟨a1, a2, a3, a4⟩ := h2 r hr
    refine ⟨a1, ?_, ?_, fun n hn => ?_⟩
    · rw [upI_nk (by omega)]; exact a2
    · rw [upI_nk (by omega)]; exact a3
    · have := a4 n hn
      rw [upI_nk (by omega), upI_nk (by omega), upI_nk (by omega)]
      exact this
  · rw [upI_same]; rfl
theorem BC.ro {d : Nat} {J K : St} {rs : List Rul} (e : ∀ p, d ≤ p → p ≤ d + 5 → K p = J p) (h : BC d J rs) : BC d K rs := by
  unfold BC TW
  rw [e d (by omega) (by omega), e (d + 1) (by omega) (by omega), e (d + 2) (by omega) (by omega), e (d + 3) (by omega) (by omega), e (d + 4) (by omega) (by omega), e (d + 5) (by omega) (by omega)]
  exact h
theorem BW.ro {d : Nat} {J K : St} {rs : List Rul} {ts : List Tst} (e : ∀ p, d ≤ p → p ≤ d + 5 → K p = J p) (h : BW d J rs ts) : BW d K rs ts := by
  refine ⟨h.1.ro e, ?_, ?_⟩
  · rw [e (d + 2) (by omega) (by omega)]; exact h.2.1
  · unfold TW
    rw [e (d + 3) (by omega) (by omega), e (d + 4) (by omega) (by omega), e (d + 5) (by omega) (by omega)]
    exact h.2.2
/-- the reader's surroundings: the tape T of n signs, the book d is written -/
def RE (I : St) (d n : Nat) (J : St) : Prop := ∀ p, p ≠ 61 → ¬ (d ≤ p ∧ p ≤ d + 5) → J p = I p
theorem RE.rd {I J K : St} {d n : Nat} (a : RE I d n J) (b : RD J K) : RE I d n K := fun p h1 h2 => (b.1 p h1).trans (a p h1 h2)
theorem RE.up {I J : St} {d n p k : Nat} {x : Int32} (a : RE I d n J) (h : p = 61 ∨ (d ≤ p ∧ p ≤ d + 5)) : RE I d n (upI J p k x) := fun q h1 h2 => by
  rw [upI_row (show q ≠ p by omega)]
  exact a q h1 h2
theorem RE.t {I J : St} {d n : Nat} (hd : d = 65 ∨ d = 71) (a : RE I d n J) (tp : TP I) : J 140 = I 140 ∧ TP J := by
  have e1 : J 140 = I 140 := a 140 (by decide) (by omega)
  have e2 : J 62 = I 62 := a 62 (by decide) (by omega)
  refine ⟨e1, fun k hk => ?_⟩
  rw [e1, e2]; exact tp k hk
theorem nx_ok {G : GX} {d f dd n k : Nat} {sw : Bool} {I J : St} {Q : Option Value → Hp → Prop} (hd : dd = 65 ∨ dd = 71) (tp : TP I) (hn : n ≤ 400) (a : RE I dd n J) (hk : k ≤ n) (j0 : J 61 0 = Int32.ofNat n) (j5 : J 61 5 = Int32.ofNat k) (q : ∀ K, RE I dd n K → RD J K → CT (I 140) n k K → Q none (147, f, K, RP f sw)) : wp G (d + 40) (mt 118) 0 (en (mt 118) [.ref 61]) [] (147, f, J, RP f sw) Q := by
  obtain ⟨e1, e2⟩ := a.t hd tp
  refine next_ok e2 hn hk j0 j5 (fun K r c => ?_)
  rw [e1] at c
  exact q K (a.rd r) r c
theorem rdTest_okA {G : GX} {d f n k : Nat} {I J : St} {rs : List Rul} {ts : List Tst} {Q : Option Value → Hp → Prop} (tp : TP I) (hn : n ≤ 400) (hk : k ≤ n) (a : RE I 71 n J) (ct : CT (I 140) n k J) (bw : BW 71 J rs ts) (hr : rs.length < 10) (ht : ts.length < 3) (qe : ∀ e K, pT (I 140) n k = .error e → RE I 71 n K → K 61 4 = Int32.ofNat e.2 → K 61 1 = e.1 → Q (some (.int 0)) (147, f, K, RP f false)) (qo : ∀ k' x K, pT (I 140) n k = .ok (k', x) → RE I 71 n K → CT (I 140) n k' K → k' ≤ n → K 61 1 = J 61 1 → BW 71 K rs (ts ++ [x]) → Q (some (.int 1)) (147, f, K, RP f false)) : wp G (d + 80) (mt 139) 0 (en (mt 139) [.ref 61, .ref 71]) [] (147, f, J, RP f false) Q := by
  have hd : 71 = 65 ∨ 71 = 71 := by decide
  obtain ⟨e1, e2⟩ := a.t hd tp
  have l1 := (tE_le (T := I 140) hk).2.1
  have l2 := (tE_le (T := I 140) l1).2.1
  have l3 := (tE_le (T := I 140) l2).2.1
  unfold pT at qe qo
  refine v_rdTestA oks ?_
  refine subj_ok e2 hn hk (by rw [e1]; exact ct) ⟨_, _, rfl, rfl, ?_⟩
  rw [e1]
  refine ite_i (fun z => ?_) (fun z => ?_)
  · rw [if_pos z] at qe
    exact qe _ _ rfl (a.up (Or.inl rfl)) (by rw [upI_nk (by omega)]; exact ct.2.1) (upI_same _ _ _ _)
  rw [if_neg z] at qe qo
  refine nx_ok hd tp hn a l1 ct.1 ct.2.2.1 (fun K1 a1 r1 c1 => ⟨_, rfl, rfl, ?_⟩)
  obtain ⟨f1, f2⟩ := a1.t hd tp
  refine sign_ok f2 hn l1 (by rw [f1]; exact c1) ⟨_, _, rfl, rfl, ?_⟩
  rw [f1]
  refine ite_i (fun z2 => ?_) (fun z2 => ?_)
  · rw [if_pos z2] at qe
    exact qe _ _ rfl (a1.up (Or.inl rfl)) (by rw [upI_nk (by omega)]; exact c1.2.1) (upI_same _ _ _ _)
  rw [if_neg z2] at qe qo
  refine nx_ok hd tp hn a1 l2 c1.1 c1.2.2.1 (fun K2 a2 r2 c2 => ⟨_, rfl, rfl, ?_⟩)
  obtain ⟨g1, g2⟩ := a2.t hd tp
  have tk := c2.2.2.2
  unfold tkC at tk
  rw [tk]
  by_cases nu : nuB (I 140) n (tE (I 140) n (tE (I 140) n k)) = true
  · have nn := nu_iff l2 nu
    rw [if_pos nu] at qo
    rw [if_neg (show ¬ tS (I 140) n (tE (I 140) n (tE (I 140) n k)) = n by omega), if_pos nu, if_pos rfl]
    refine num_ok g2 hn l2 (by rw [g1]; exact c2) (by rw [g1]; exact nu) ⟨_, _, rfl, rfl, ?_⟩
    rw [g1]
    have bw2 : BW 71 K2 rs ts := bw.ro (fun p h1 h2 => by rw [r2.1 p (by omega), r1.1 p (by omega)])
    have b0 : K2 71 0 = Int32.ofNat rs.length := bw2.1.1
    have bt : K2 73 rs.length = Int32.ofNat ts.length := bw2.2.1
    have i1 : (Int32.ofNat rs.length * 3 + Int32.ofNat ts.length) = Int32.ofNat (3 * rs.length + ts.length) := by
      rw [show Int32.ofNat rs.length * 3 = Int32.ofNat (3 * rs.length) by rw [Nat.mul_comm, Int32.ofNat_mul]; rfl, ← Int32.ofNat_add]
    rw [b0, kI_c (show rs.length < 2147483648 by omega), bt, i1, kI_c (show 3 * rs.length + ts.length < 2147483648 by omega)]
    refine ck_of (kI_x (by omega) (by omega)) (ck_of (kI_x (by omega) (by omega)) (ck_of (kI_x (by omega) (by omega)) (ck_of (kI_x (by omega) (by omega)) (ck_of (kI_x (by omega) (by omega)) (ck_of (kI_x (by omega) (by omega)) ?_)))))
    have bw3 := bw2.add (x := (sbj (I 140) n k, sgT (I 140) n (tE (I 140) n k), nvT (I 140) n (tE (I 140) n (tE (I 140) n k)))) ht
    have a3 := (((a2.up (p := 74) (k := 3 * rs.length + ts.length) (x := sbj (I 140) n k) (Or.inr (by decide))).up (p := 75) (k := 3 * rs.length + ts.length) (x := sgT (I 140) n (tE (I 140) n k)) (Or.inr (by decide))).up (p := 76) (k := 3 * rs.length + ts.length) (x := nvT (I 140) n (tE (I 140) n (tE (I 140) n k))) (Or.inr (by decide))).up (p := 73) (k := rs.length) (x := Int32.ofNat ts.length + 1) (Or.inr (by decide))
    refine nx_ok hd tp hn a3 l3 (by rw [upI_nk (by omega), upI_nk (by omega), upI_nk (by omega), upI_nk (by omega)]; exact c2.1) (by rw [upI_nk (by omega), upI_nk (by omega), upI_nk (by omega), upI_nk (by omega)]; exact c2.2.2.1) (fun K4 a4 r4 c4 => ⟨_, rfl, rfl, ?_⟩)
    refine qo _ _ K4 rfl a4 c4 l3 ?_ (bw3.ro (fun p h1 h2 => r4.1 p (by omega)))
    rw [r4.2.2, upI_nk (by omega), upI_nk (by omega), upI_nk (by omega), upI_nk (by omega), r2.2.2, r1.2.2]
  · rw [if_neg nu] at qe
    refine ite_i (fun y => ?_) (fun y => ?_)
    · exfalso
      by_cases w : tS (I 140) n (tE (I 140) n (tE (I 140) n k)) = n
      · rw [if_pos w] at y; exact absurd y (by decide)
      · rw [if_neg w, if_neg nu] at y; exact absurd y (by decide)
    · exact qe _ _ rfl (a2.up (Or.inl rfl)) (by rw [upI_nk (by omega)]; exact c2.2.1) (upI_same _ _ _ _)
theorem rdMust_okA {G : GX} {d f n k : Nat} {I J : St} {rs : List Rul} {ts : List Tst} {Q : Option Value → Hp → Prop} (tp : TP I) (hn : n ≤ 400) (hk : k ≤ n) (a : RE I 71 n J) (ct : CT (I 140) n k J) (bw : BW 71 J rs ts) (hr : rs.length < 10) (ht : ts.length ≤ 3) (qe : ∀ e K, pM (I 140) n k = .error e → RE I 71 n K → K 61 4 = Int32.ofNat e.2 → K 61 1 = e.1 → Q (some (.int 0)) (147, f, K, RP f false)) (qo : ∀ k' x K, pM (I 140) n k = .ok (k', x) → RE I 71 n K → CT (I 140) n k' K → k' ≤ n → K 61 1 = J 61 1 → BC 71 K (rs ++ [(x, ts)]) → Q (some (.int 1)) (147, f, K, RP f false)) : wp G (d + 80) (mt 144) 0 (en (mt 144) [.ref 61, .ref 71]) [] (147, f, J, RP f false) Q := by
  have hd : 71 = 65 ∨ 71 = 71 := by decide
  obtain ⟨e1, e2⟩ := a.t hd tp
  have l1 := (tE_le (T := I 140) hk).2.1
  have l2 := (tE_le (T := I 140) l1).2.1
  have l3 := (tE_le (T := I 140) l2).2.1
  unfold pM at qe qo
  refine v_rdMustA oks ?_
  refine reads_ok 10 rfl e2 hn hk (by decide) (by rw [e1]; exact ct) ⟨_, _, rfl, rfl, ?_⟩
  rw [e1]
  refine ite_i (fun z => ?_) (fun z => ?_)
  · rw [b2_0] at z
    rw [if_neg (by rw [z]; decide)] at qe
    exact qe _ _ rfl (a.up (Or.inl rfl)) (by rw [upI_nk (by omega)]; exact ct.2.1) (upI_same _ _ _ _)
  rw [b2_0, Bool.not_eq_false] at z
  rw [if_pos z] at qe qo
  refine nx_ok hd tp hn a l1 ct.1 ct.2.2.1 (fun K1 a1 r1 c1 => ⟨_, rfl, rfl, ?_⟩)
  obtain ⟨f1, f2⟩ := a1.t hd tp
  refine act_ok f2 hn l1 (by rw [f1]; exact c1) ⟨_, _, rfl, rfl, ?_⟩
  rw [f1]
  refine ite_i (fun z2 => ?_) (fun z2 => ?_)
  · rw [if_pos z2] at qe
    exact qe _ _ rfl (a1.up (Or.inl rfl)) (by rw [upI_nk (by omega)]; exact c1.2.1) (upI_same _ _ _ _)
  rw [if_neg z2] at qe qo
  refine nx_ok hd tp hn a1 l2 c1.1 c1.2.2.1 (fun K2 a2 r2 c2 => ⟨_, rfl, rfl, ?_⟩)
  obtain ⟨g1, g2⟩ := a2.t hd tp
  refine reads_ok 15 rfl g2 hn l2 (by decide) (by rw [g1]; exact c2) ⟨_, _, rfl, rfl, ?_⟩
  rw [g1]
  refine ite_i (fun z3 => ?_) (fun z3 => ?_)
  · rw [b2_0] at z3
    rw [if_neg (by rw [z3]; decide)] at qe
    exact qe _ _ rfl (a2.up (Or.inl rfl)) (by rw [upI_nk (by omega)]; exact c2.2.1) (upI_same _ _ _ _)
  rw [b2_0, Bool.not_eq_false] at z3
  rw [if_pos z3] at qo
  have bw2 : BW 71 K2 rs ts := bw.ro (fun p h1 h2 => by rw [r2.1 p (by omega), r1.1 p (by omega)])
  have b0 : K2 71 0 = Int32.ofNat rs.length := bw2.1.1
  rw [b0, kI_c (show rs.length < 2147483648 by omega)]
  refine ck_of (kI_x (by omega) (by omega)) ?_
  have bc := bw2.fin (a := acn (I 140) n (tE (I 140) n k)) ht
  have a3 := (a2.up (p := 72) (k := rs.length) (x := acn (I 140) n (tE (I 140) n k)) (Or.inr (by decide))).up (p := 71) (k := 0) (x := Int32.ofNat rs.length + 1) (Or.inr (by decide))
  refine nx_ok hd tp hn a3 l3 (by rw [upI_nk (by omega), upI_nk (by omega)]; exact c2.1) (by rw [upI_nk (by omega), upI_nk (by omega)]; exact c2.2.2.1) (fun K4 a4 r4 c4 => ⟨_, rfl, rfl, ?_⟩)
  refine qo _ _ K4 rfl a4 c4 l3 ?_ (bc.ro (fun p h1 h2 => r4.1 p (by omega)))
  rw [r4.2.2, upI_nk (by omega), upI_nk (by omega), r2.2.2, r1.2.2]
/-- the loop over 'and', and what follows -/
theorem rdAndA {G : GX} {d f n : Nat} {I : St} {rs : List Rul} {l : Int32} {Q : Option Value → Hp → Prop} (tp : TP I) (hn : n ≤ 400) (hr : rs.length < 10) : ∀ (c k : Nat) (J : St) (ts : List Tst), ts.length + c = 3 → 1 ≤ ts.length → k ≤ n → RE I 71 n J → CT (I 140) n k J → J 61 1 = l → BW 71 J rs ts → (∀ e K, pA (I 140) n c k ts = .error e → RE I 71 n K → K 61 4 = Int32.ofNat e.2 → K 61 1 = e.1 → Q (some (.int 0)) (147, f, K, RP f false)) → (∀ k2 ts2, pA (I 140) n c k ts = .ok (k2, ts2) → (∀ e K, pM (I 140) n k2 = .error e → RE I 71 n K → K 61 4 = Int32.ofNat e.2 → K 61 1 = e.1 → Q (some (.int 0)) (147, f, K, RP f false)) ∧ ∀ k3 x K, pM (I 140) n k2 = .ok (k3, x) → RE I 71 n K → CT (I 140) n k3 K → k3 ≤ n → K 61 1 = l → BC 71 K (rs ++ [(x, ts2)]) → Q (some (.int 1)) (147, f, K, RP f false)) → wp G (d + 100) (mt 124) 26 [some (.ref 61), some (.ref 71), some (.int 1), some (.int (Int32.ofNat ts.length))] [] (147, f, J, RP f false) Q
  | c, k, J, ts, h, h1, hk, a, ct, jl, bw, qe, qo => by
    have hd : 71 = 65 ∨ 71 = 71 := by decide
    obtain ⟨e1, e2⟩ := a.t hd tp
    have l1 := (tE_le (T := I 140) hk).2.1
    refine v_rdRule26A oks ?_
    rw [if_neg (by rw [tI_lt, kI_t (by omega)]; simp only [Int32.reduceToInt]; omega), if_neg (show ¬ (1 : Int32) = 0 by decide)]
    refine reads_ok 9 rfl e2 hn hk (by decide) (by rw [e1]; exact ct) ⟨_, _, rfl, rfl, ?_⟩
    rw [e1]
    refine ite_i (fun z => ?_) (fun z => ?_)
    · rw [b2_0] at z
      rw [if_neg (show ¬ (1 : Int32) = 0 by decide)]
      have hp : pA (I 140) n c k ts = .ok (k, ts) := by
        cases c with
        | zero => unfold pA; rw [if_neg (by rw [z]; decide)]
        | succ c => unfold pA; rw [if_neg (by rw [z]; decide)]
      obtain ⟨q1, q2⟩ := qo k ts hp
      refine rdMust_okA tp hn hk a ct bw hr (by omega) (fun e K p1 p2 p3 p4 => ⟨_, _, rfl, rfl, ?_⟩) (fun k3 x K p1 p2 p3 p4 p5 p6 => ⟨_, _, rfl, rfl, ?_⟩)
      · rw [if_pos rfl]; exact q1 e K p1 p2 p3 p4
      · rw [if_neg (by decide)]; exact q2 k3 x K p1 p2 p3 p4 (p5.trans jl) p6
    · rw [b2_0, Bool.not_eq_false] at z
      match c, h, qe, qo with
      | 0, h, qe, qo =>
        rw [if_pos (by rw [show ts.length = 3 by omega]; rfl)]
        have hp : pA (I 140) n 0 k ts = .error (2, tS (I 140) n k) := by unfold pA; rw [if_pos z]
        exact qe _ _ hp (a.up (Or.inl rfl)) (by rw [upI_nk (by omega)]; exact ct.2.1) (upI_same _ _ _ _)
      | c + 1, h, qe, qo =>
        rw [if_neg (by rw [tI_eq, kI_t (by omega)]; simp only [Int32.reduceToInt]; omega), kI_1]
        refine nx_ok hd tp hn a l1 ct.1 ct.2.2.1 (fun K1 a1 r1 c1 => ⟨_, rfl, rfl, ?_⟩)
        have bw1 : BW 71 K1 rs ts := bw.ro (fun p h1 h2 => r1.1 p (by omega))
        have ps : pA (I 140) n (c + 1) k ts = (match pT (I 140) n (tE (I 140) n k) with
            | .error e => .error e
            | .ok (k', x) => pA (I 140) n c k' (ts ++ [x])) := by
          rw [pA, if_pos z]
        refine rdTest_okA tp hn l1 a1 c1 bw1 hr (by omega) (fun e K p1 p2 p3 p4 => ⟨_, _, rfl, rfl, ?_⟩) (fun k' x K p1 p2 p3 p4 p5 p6 => ⟨_, _, rfl, rfl, ?_⟩)
        · refine v_rdRule26A oks ?_
          rw [p1] at ps
          simp only at ps
          rw [if_neg (by rw [tI_lt, kI_t (by omega)]; simp only [Int32.reduceToInt]; omega), if_pos rfl, if_pos rfl]
          exact qe e K ps p2 p3 p4
        · rw [p1] at ps
          simp only at ps
          have ih := rdAndA (G := G) (d := d) (f := f) (Q := Q) (l := l) tp hn hr c k' K (ts ++ [x]) (by rw [List.length_append]; show ts.length + 1 + c = 3; omega) (by rw [List.length_append]; show 1 ≤ ts.length + 1; omega) p4 p2 p3 (p5.trans (r1.2.2.trans jl)) p6 (fun e K w => qe e K (ps.trans w)) (fun k2 t2 w => qo k2 t2 (ps.trans w))
          rw [List.length_append] at ih
          exact ih
theorem rdRule_okA {G : GX} {d f n k : Nat} {I J : St} {rs : List Rul} {Q : Option Value → Hp → Prop} (tp : TP I) (hn : n ≤ 400) (hk : k ≤ n) (a : RE I 71 n J) (ct : CT (I 140) n k J) (bc : BC 71 J rs) (hr : rs.length ≤ 10) (qe : ∀ e K, pR (I 140) n rs.length k = .error e → RE I 71 n K → K 61 4 = Int32.ofNat e.2 → K 61 1 = e.1 → Q (some (.int 0)) (147, f, K, RP f false)) (qo : ∀ k' x K, pR (I 140) n rs.length k = .ok (k', x) → RE I 71 n K → CT (I 140) n k' K → k' ≤ n → K 61 1 = J 61 1 → rs.length < 10 → BC 71 K (rs ++ [x]) → Q (some (.int 1)) (147, f, K, RP f false)) : wp G (d + 100) (mt 124) 0 (en (mt 124) [.ref 61, .ref 71]) [] (147, f, J, RP f false) Q := by
  have hd : 71 = 65 ∨ 71 = 71 := by decide
  obtain ⟨e1, e2⟩ := a.t hd tp
  have l1 := (tE_le (T := I 140) hk).2.1
  have b0 : J 71 0 = Int32.ofNat rs.length := bc.1
  refine v_rdRuleA oks ?_
  refine reads_ok 0 rfl e2 hn hk (by decide) (by rw [e1]; exact ct) ⟨_, _, rfl, rfl, ?_⟩
  rw [e1]
  refine ite_i (fun z => ?_) (fun z => ?_)
  · rw [b2_0] at z
    exact qe _ _ (by unfold pR; rw [if_neg (by rw [z]; decide)]) (a.up (Or.inl rfl)) (by rw [upI_nk (by omega)]; exact ct.2.1) (upI_same _ _ _ _)
  rw [b2_0, Bool.not_eq_false] at z
  rw [b0]
  by_cases h10 : rs.length = 10
  · rw [if_pos (by rw [h10]; rfl)]
    exact qe _ _ (by unfold pR; rw [if_pos z, if_pos h10]) (a.up (Or.inl rfl)) (by rw [upI_nk (by omega)]; exact ct.2.1) (upI_same _ _ _ _)
  rw [if_neg (by rw [tI_eq, kI_t (by omega)]; simp only [Int32.reduceToInt]; omega), kI_c (by omega)]
  refine ck_of (kI_x (by omega) (by omega)) ?_
  have a1 := a.up (p := 73) (k := rs.length) (x := 0) (Or.inr (by decide))
  have bw1 := bc.beg
  refine nx_ok hd tp hn a1 l1 (by rw [upI_nk (by omega)]; exact ct.1) (by rw [upI_nk (by omega)]; exact ct.2.2.1) (fun K2 a2 r2 c2 => ⟨_, rfl, rfl, ?_⟩)
  have bw2 : BW 71 K2 rs [] := bw1.ro (fun p h1 h2 => r2.1 p (by omega))
  have j1 : K2 61 1 = J 61 1 := by rw [r2.2.2, upI_nk (by omega)]
  have ps : pR (I 140) n rs.length k = (match pT (I 140) n (tE (I 140) n k) with
      | .error e => .error e
      | .ok (k1, x) => match pA (I 140) n 2 k1 [x] with
        | .error e => .error e
        | .ok (k2, ts) => match pM (I 140) n k2 with
          | .error e => .error e
          | .ok (k3, a) => .ok (k3, a, ts)) := by
    rw [pR, if_pos z, if_neg h10]
  refine rdTest_okA tp hn l1 a2 c2 bw2 (by omega) (by decide) (fun e K p1 p2 p3 p4 => ⟨_, _, rfl, rfl, ?_⟩) (fun k' x K p1 p2 p3 p4 p5 p6 => ⟨_, _, rfl, rfl, ?_⟩)
  · rw [p1] at ps
    simp only at ps
    refine v_rdRule26A oks ?_
    rw [if_neg (by decide), if_pos rfl, if_pos rfl]
    exact qe e K ps p2 p3 p4
  · rw [p1] at ps
    simp only at ps
    refine rdAndA (l := J 61 1) tp hn (by omega) 2 k' K [x] rfl (Nat.le_refl 1) p4 p2 p3 (p5.trans j1) p6 (fun e X w => ?_) (fun k2 t2 w => ⟨fun e X w2 => ?_, fun k3 y X w2 => ?_⟩)
    · rw [w] at ps; exact qe e X ps
    · rw [w] at ps
      simp only at ps
      rw [w2] at ps; exact qe e X ps
    · rw [w] at ps
      simp only at ps
      rw [w2] at ps
      intro u1 u2 u3 u4 u5
      exact qo k3 (y, t2) X ps u1 u2 u3 u4 (by omega) u5
theorem rdTape_loopA {G : GX} {d f n : Nat} {I : St} {l : Int32} {Q : Option Value → Hp → Prop} (tp : TP I) (hn : n ≤ 400) : ∀ (c k : Nat) (J : St) (rs : List Rul), rs.length + c = 11 → k ≤ n → RE I 71 n J → CT (I 140) n k J → J 61 1 = l → BC 71 J rs → (∀ e K, pS (I 140) n c k rs = .error e → RE I 71 n K → K 61 1 = e.1 → K 61 0 = 0 → Q (some (.int (-1000100 - Int32.ofNat e.2))) (147, f, K, RP f false)) → (∀ rs2 K, pS (I 140) n c k rs = .ok rs2 → RE I 71 n K → K 61 1 = l → K 61 0 = 0 → rs2.length ≤ 10 → BC 71 K rs2 → Q (some (.int (Int32.ofNat rs2.length))) (147, f, K, RP f false)) → 1 ≤ c → wp G (d + 120) (mt 117) 12 [some (.ref 61), some (.ref 71), some (.int 1), some (.int (Int32.ofNat rs.length))] [] (147, f, J, RP f false) Q
  | 0, k, J, rs, h, hk, a, ct, jl, bc, qe, qo, hc => by omega
  | c + 1, k, J, rs, h, hk, a, ct, jl, bc, qe, qo, hc => by
    have sl := tS_le (T := I 140) hk
    have b0 : J 71 0 = Int32.ofNat rs.length := bc.1
    have ps : pS (I 140) n (c + 1) k rs = (if tS (I 140) n k = n then .ok rs else match pR (I 140) n rs.length k with
        | .error e => .error e
        | .ok (k', r) => pS (I 140) n c k' (rs ++ [r])) := rfl
    refine v_rdTape12A oks ?_
    rw [if_neg (by rw [tI_lt, kI_t (by omega)]; simp only [Int32.reduceToInt]; omega), if_neg (show ¬ (1 : Int32) = 0 by decide), ct.2.2.2]
    unfold tkC
    by_cases z : tS (I 140) n k = n
    · rw [if_pos z] at ps
      rw [if_pos z, if_pos rfl, if_neg (show ¬ (1 : Int32) = 0 by decide), b0]
      exact qo rs _ ps (a.up (Or.inl rfl)) (by rw [upI_nk (by omega)]; exact jl) (upI_same _ _ _ _) (by omega) (bc.ro (fun p h1 h2 => upI_row (by omega)))
    · rw [if_neg z] at ps
      rw [if_neg z, if_neg (by
        by_cases w : nuB (I 140) n k = true
        · rw [if_pos w]; decide
        · rw [if_neg w]; decide), kI_1]
      refine rdRule_okA tp hn hk a ct bc (by omega) (fun e K p1 p2 p3 p4 => ⟨_, _, rfl, rfl, ?_⟩) (fun k' x K p1 p2 p3 p4 p5 p5b p6 => ⟨_, _, rfl, rfl, ?_⟩)
      · rw [p1] at ps
        simp only at ps
        refine v_rdTape12A oks ?_
        have fin : Q (some (.int (-1000100 - K 61 4))) (147, f, upI K 61 0 0, RP f false) := by
          rw [p3]
          exact qe e _ ps (p2.up (Or.inl rfl)) (by rw [upI_nk (by omega)]; exact p4) (upI_same _ _ _ _)
        refine ite_i (fun y => ?_) (fun y => ?_)
        · rw [if_pos rfl]; exact fin
        · rw [if_pos rfl, if_pos rfl]; exact fin
      · rw [p1] at ps
        simp only at ps
        have ih := rdTape_loopA (G := G) (d := d) (f := f) (Q := Q) (l := l) tp hn c k' K (rs ++ [x]) (by rw [List.length_append]; show rs.length + 1 + c = 11; omega) p4 p2 p3 (p5.trans jl) p6 (fun e K w => qe e K (ps.trans w)) (fun r2 K w => qo r2 K (ps.trans w)) (by omega)
        rw [List.length_append] at ih
        exact ih
theorem rdTape_okA {G : GX} {d f n : Nat} {I : St} {Q : Option Value → Hp → Prop} (tp : TP I) (hn : n ≤ 400) (i0 : I 61 0 = Int32.ofNat n) (qe : ∀ e K, pS (I 140) n 11 0 [] = .error e → RE I 71 n K → K 61 1 = e.1 → K 61 0 = 0 → Q (some (.int (-1000100 - Int32.ofNat e.2))) (147, f, K, RP f false)) (qo : ∀ rs2 K, pS (I 140) n 11 0 [] = .ok rs2 → RE I 71 n K → K 61 1 = I 61 1 → K 61 0 = 0 → rs2.length ≤ 10 → BC 71 K rs2 → Q (some (.int (Int32.ofNat rs2.length))) (147, f, K, RP f false)) : wp G (d + 120) (mt 117) 0 (en (mt 117) [.ref 61, .ref 71]) [] (147, f, I, RP f false) Q := by
  have hd : 71 = 65 ∨ 71 = 71 := by decide
  have a0 : RE I 71 n I := fun _ _ _ => rfl
  have a1 := (a0.up (p := 71) (k := 0) (x := 0) (Or.inr (by decide))).up (p := 61) (k := 5) (x := 0) (Or.inl rfl)
  refine v_rdTapeA oks ?_
  refine nx_ok hd tp hn a1 (Nat.zero_le n) (by rw [upI_nk (by omega), upI_nk (by omega)]; exact i0) (by rw [upI_same]; rfl) (fun K2 a2 r2 c2 => ⟨_, rfl, rfl, ?_⟩)
  refine rdTape_loopA (l := I 61 1) tp hn 11 0 K2 [] rfl (Nat.zero_le n) a2 c2 (by rw [r2.2.2, upI_nk (by omega), upI_nk (by omega)]) ⟨?_, fun r hr => absurd hr (by simp)⟩ qe qo (by decide)
  rw [r2.1 71 (by decide), upI_nk (by omega), upI_same]
  rfl
theorem rdTest_okB {G : GX} {d f n k : Nat} {I J : St} {rs : List Rul} {ts : List Tst} {Q : Option Value → Hp → Prop} (tp : TP I) (hn : n ≤ 400) (hk : k ≤ n) (a : RE I 65 n J) (ct : CT (I 140) n k J) (bw : BW 65 J rs ts) (hr : rs.length < 10) (ht : ts.length < 3) (qe : ∀ e K, pT (I 140) n k = .error e → RE I 65 n K → K 61 4 = Int32.ofNat e.2 → K 61 1 = e.1 → Q (some (.int 0)) (147, f, K, RP f true)) (qo : ∀ k' x K, pT (I 140) n k = .ok (k', x) → RE I 65 n K → CT (I 140) n k' K → k' ≤ n → K 61 1 = J 61 1 → BW 65 K rs (ts ++ [x]) → Q (some (.int 1)) (147, f, K, RP f true)) : wp G (d + 80) (mt 139) 0 (en (mt 139) [.ref 61, .ref 65]) [] (147, f, J, RP f true) Q := by
  have hd : 65 = 65 ∨ 65 = 71 := by decide
  obtain ⟨e1, e2⟩ := a.t hd tp
  have l1 := (tE_le (T := I 140) hk).2.1
  have l2 := (tE_le (T := I 140) l1).2.1
  have l3 := (tE_le (T := I 140) l2).2.1
  unfold pT at qe qo
  refine v_rdTestB oks ?_
  refine subj_ok e2 hn hk (by rw [e1]; exact ct) ⟨_, _, rfl, rfl, ?_⟩
  rw [e1]
  refine ite_i (fun z => ?_) (fun z => ?_)
  · rw [if_pos z] at qe
    exact qe _ _ rfl (a.up (Or.inl rfl)) (by rw [upI_nk (by omega)]; exact ct.2.1) (upI_same _ _ _ _)
  rw [if_neg z] at qe qo
  refine nx_ok hd tp hn a l1 ct.1 ct.2.2.1 (fun K1 a1 r1 c1 => ⟨_, rfl, rfl, ?_⟩)
  obtain ⟨f1, f2⟩ := a1.t hd tp
  refine sign_ok f2 hn l1 (by rw [f1]; exact c1) ⟨_, _, rfl, rfl, ?_⟩
  rw [f1]
  refine ite_i (fun z2 => ?_) (fun z2 => ?_)
  · rw [if_pos z2] at qe
    exact qe _ _ rfl (a1.up (Or.inl rfl)) (by rw [upI_nk (by omega)]; exact c1.2.1) (upI_same _ _ _ _)
  rw [if_neg z2] at qe qo
  refine nx_ok hd tp hn a1 l2 c1.1 c1.2.2.1 (fun K2 a2 r2 c2 => ⟨_, rfl, rfl, ?_⟩)
  obtain ⟨g1, g2⟩ := a2.t hd tp
  have tk := c2.2.2.2
  unfold tkC at tk
  rw [tk]
  by_cases nu : nuB (I 140) n (tE (I 140) n (tE (I 140) n k)) = true
  · have nn := nu_iff l2 nu
    rw [if_pos nu] at qo
    rw [if_neg (show ¬ tS (I 140) n (tE (I 140) n (tE (I 140) n k)) = n by omega), if_pos nu, if_pos rfl]
    refine num_ok g2 hn l2 (by rw [g1]; exact c2) (by rw [g1]; exact nu) ⟨_, _, rfl, rfl, ?_⟩
    rw [g1]
    have bw2 : BW 65 K2 rs ts := bw.ro (fun p h1 h2 => by rw [r2.1 p (by omega), r1.1 p (by omega)])
    have b0 : K2 65 0 = Int32.ofNat rs.length := bw2.1.1
    have bt : K2 67 rs.length = Int32.ofNat ts.length := bw2.2.1
    have i1 : (Int32.ofNat rs.length * 3 + Int32.ofNat ts.length) = Int32.ofNat (3 * rs.length + ts.length) := by
      rw [show Int32.ofNat rs.length * 3 = Int32.ofNat (3 * rs.length) by rw [Nat.mul_comm, Int32.ofNat_mul]; rfl, ← Int32.ofNat_add]
    rw [b0, kI_c (show rs.length < 2147483648 by omega), bt, i1, kI_c (show 3 * rs.length + ts.length < 2147483648 by omega)]
    refine ck_of (kI_x (by omega) (by omega)) (ck_of (kI_x (by omega) (by omega)) (ck_of (kI_x (by omega) (by omega)) (ck_of (kI_x (by omega) (by omega)) (ck_of (kI_x (by omega) (by omega)) (ck_of (kI_x (by omega) (by omega)) ?_)))))
    have bw3 := bw2.add (x := (sbj (I 140) n k, sgT (I 140) n (tE (I 140) n k), nvT (I 140) n (tE (I 140) n (tE (I 140) n k)))) ht
    have a3 := (((a2.up (p := 68) (k := 3 * rs.length + ts.length) (x := sbj (I 140) n k) (Or.inr (by decide))).up (p := 69) (k := 3 * rs.length + ts.length) (x := sgT (I 140) n (tE (I 140) n k)) (Or.inr (by decide))).up (p := 70) (k := 3 * rs.length + ts.length) (x := nvT (I 140) n (tE (I 140) n (tE (I 140) n k))) (Or.inr (by decide))).up (p := 67) (k := rs.length) (x := Int32.ofNat ts.length + 1) (Or.inr (by decide))
    refine nx_ok hd tp hn a3 l3 (by rw [upI_nk (by omega), upI_nk (by omega), upI_nk (by omega), upI_nk (by omega)]; exact c2.1) (by rw [upI_nk (by omega), upI_nk (by omega), upI_nk (by omega), upI_nk (by omega)]; exact c2.2.2.1) (fun K4 a4 r4 c4 => ⟨_, rfl, rfl, ?_⟩)
    refine qo _ _ K4 rfl a4 c4 l3 ?_ (bw3.ro (fun p h1 h2 => r4.1 p (by omega)))
    rw [r4.2.2, upI_nk (by omega), upI_nk (by omega), upI_nk (by omega), upI_nk (by omega), r2.2.2, r1.2.2]
  · rw [if_neg nu] at qe
    refine ite_i (fun y => ?_) (fun y => ?_)
    · exfalso
      by_cases w : tS (I 140) n (tE (I 140) n (tE (I 140) n k)) = n
      · rw [if_pos w] at y; exact absurd y (by decide)
      · rw [if_neg w, if_neg nu] at y; exact absurd y (by decide)
    · exact qe _ _ rfl (a2.up (Or.inl rfl)) (by rw [upI_nk (by omega)]; exact c2.2.1) (upI_same _ _ _ _)
theorem rdMust_okB {G : GX} {d f n k : Nat} {I J : St} {rs : List Rul} {ts : List Tst} {Q : Option Value → Hp → Prop} (tp : TP I) (hn : n ≤ 400) (hk : k ≤ n) (a : RE I 65 n J) (ct : CT (I 140) n k J) (bw : BW 65 J rs ts) (hr : rs.length < 10) (ht : ts.length ≤ 3) (qe : ∀ e K, pM (I 140) n k = .error e → RE I 65 n K → K 61 4 = Int32.ofNat e.2 → K 61 1 = e.1 → Q (some (.int 0)) (147, f, K, RP f true)) (qo : ∀ k' x K, pM (I 140) n k = .ok (k', x) → RE I 65 n K → CT (I 140) n k' K → k' ≤ n → K 61 1 = J 61 1 → BC 65 K (rs ++ [(x, ts)]) → Q (some (.int 1)) (147, f, K, RP f true)) : wp G (d + 80) (mt 144) 0 (en (mt 144) [.ref 61, .ref 65]) [] (147, f, J, RP f true) Q := by
  have hd : 65 = 65 ∨ 65 = 71 := by decide
  obtain ⟨e1, e2⟩ := a.t hd tp
  have l1 := (tE_le (T := I 140) hk).2.1
  have l2 := (tE_le (T := I 140) l1).2.1
  have l3 := (tE_le (T := I 140) l2).2.1
  unfold pM at qe qo
  refine v_rdMustB oks ?_
  refine reads_ok 10 rfl e2 hn hk (by decide) (by rw [e1]; exact ct) ⟨_, _, rfl, rfl, ?_⟩
  rw [e1]
  refine ite_i (fun z => ?_) (fun z => ?_)
  · rw [b2_0] at z
    rw [if_neg (by rw [z]; decide)] at qe
    exact qe _ _ rfl (a.up (Or.inl rfl)) (by rw [upI_nk (by omega)]; exact ct.2.1) (upI_same _ _ _ _)
  rw [b2_0, Bool.not_eq_false] at z
  rw [if_pos z] at qe qo
  refine nx_ok hd tp hn a l1 ct.1 ct.2.2.1 (fun K1 a1 r1 c1 => ⟨_, rfl, rfl, ?_⟩)
  obtain ⟨f1, f2⟩ := a1.t hd tp
  refine act_ok f2 hn l1 (by rw [f1]; exact c1) ⟨_, _, rfl, rfl, ?_⟩
  rw [f1]
  refine ite_i (fun z2 => ?_) (fun z2 => ?_)
  · rw [if_pos z2] at qe
    exact qe _ _ rfl (a1.up (Or.inl rfl)) (by rw [upI_nk (by omega)]; exact c1.2.1) (upI_same _ _ _ _)
  rw [if_neg z2] at qe qo
  refine nx_ok hd tp hn a1 l2 c1.1 c1.2.2.1 (fun K2 a2 r2 c2 => ⟨_, rfl, rfl, ?_⟩)
  obtain ⟨g1, g2⟩ := a2.t hd tp
  refine reads_ok 15 rfl g2 hn l2 (by decide) (by rw [g1]; exact c2) ⟨_, _, rfl, rfl, ?_⟩
  rw [g1]
  refine ite_i (fun z3 => ?_) (fun z3 => ?_)
  · rw [b2_0] at z3
    rw [if_neg (by rw [z3]; decide)] at qe
    exact qe _ _ rfl (a2.up (Or.inl rfl)) (by rw [upI_nk (by omega)]; exact c2.2.1) (upI_same _ _ _ _)
  rw [b2_0, Bool.not_eq_false] at z3
  rw [if_pos z3] at qo
  have bw2 : BW 65 K2 rs ts := bw.ro (fun p h1 h2 => by rw [r2.1 p (by omega), r1.1 p (by omega)])
  have b0 : K2 65 0 = Int32.ofNat rs.length := bw2.1.1
  rw [b0, kI_c (show rs.length < 2147483648 by omega)]
  refine ck_of (kI_x (by omega) (by omega)) ?_
  have bc := bw2.fin (a := acn (I 140) n (tE (I 140) n k)) ht
  have a3 := (a2.up (p := 66) (k := rs.length) (x := acn (I 140) n (tE (I 140) n k)) (Or.inr (by decide))).up (p := 65) (k := 0) (x := Int32.ofNat rs.length + 1) (Or.inr (by decide))
  refine nx_ok hd tp hn a3 l3 (by rw [upI_nk (by omega), upI_nk (by omega)]; exact c2.1) (by rw [upI_nk (by omega), upI_nk (by omega)]; exact c2.2.2.1) (fun K4 a4 r4 c4 => ⟨_, rfl, rfl, ?_⟩)
  refine qo _ _ K4 rfl a4 c4 l3 ?_ (bc.ro (fun p h1 h2 => r4.1 p (by omega)))
  rw [r4.2.2, upI_nk (by omega), upI_nk (by omega), r2.2.2, r1.2.2]
/-- the loop over 'and', and what follows -/
theorem rdAndB {G : GX} {d f n : Nat} {I : St} {rs : List Rul} {l : Int32} {Q : Option Value → Hp → Prop} (tp : TP I) (hn : n ≤ 400) (hr : rs.length < 10) : ∀ (c k : Nat) (J : St) (ts : List Tst), ts.length + c = 3 → 1 ≤ ts.length → k ≤ n → RE I 65 n J → CT (I 140) n k J → J 61 1 = l → BW 65 J rs ts → (∀ e K, pA (I 140) n c k ts = .error e → RE I 65 n K → K 61 4 = Int32.ofNat e.2 → K 61 1 = e.1 → Q (some (.int 0)) (147, f, K, RP f true)) → (∀ k2 ts2, pA (I 140) n c k ts = .ok (k2, ts2) → (∀ e K, pM (I 140) n k2 = .error e → RE I 65 n K → K 61 4 = Int32.ofNat e.2 → K 61 1 = e.1 → Q (some (.int 0)) (147, f, K, RP f true)) ∧ ∀ k3 x K, pM (I 140) n k2 = .ok (k3, x) → RE I 65 n K → CT (I 140) n k3 K → k3 ≤ n → K 61 1 = l → BC 65 K (rs ++ [(x, ts2)]) → Q (some (.int 1)) (147, f, K, RP f true)) → wp G (d + 100) (mt 124) 26 [some (.ref 61), some (.ref 65), some (.int 1), some (.int (Int32.ofNat ts.length))] [] (147, f, J, RP f true) Q
  | c, k, J, ts, h, h1, hk, a, ct, jl, bw, qe, qo => by
    have hd : 65 = 65 ∨ 65 = 71 := by decide
    obtain ⟨e1, e2⟩ := a.t hd tp
    have l1 := (tE_le (T := I 140) hk).2.1
    refine v_rdRule26B oks ?_
    rw [if_neg (by rw [tI_lt, kI_t (by omega)]; simp only [Int32.reduceToInt]; omega), if_neg (show ¬ (1 : Int32) = 0 by decide)]
    refine reads_ok 9 rfl e2 hn hk (by decide) (by rw [e1]; exact ct) ⟨_, _, rfl, rfl, ?_⟩
    rw [e1]
    refine ite_i (fun z => ?_) (fun z => ?_)
    · rw [b2_0] at z
      rw [if_neg (show ¬ (1 : Int32) = 0 by decide)]
      have hp : pA (I 140) n c k ts = .ok (k, ts) := by
        cases c with
        | zero => unfold pA; rw [if_neg (by rw [z]; decide)]
        | succ c => unfold pA; rw [if_neg (by rw [z]; decide)]
      obtain ⟨q1, q2⟩ := qo k ts hp
      refine rdMust_okB tp hn hk a ct bw hr (by omega) (fun e K p1 p2 p3 p4 => ⟨_, _, rfl, rfl, ?_⟩) (fun k3 x K p1 p2 p3 p4 p5 p6 => ⟨_, _, rfl, rfl, ?_⟩)
      · rw [if_pos rfl]; exact q1 e K p1 p2 p3 p4
      · rw [if_neg (by decide)]; exact q2 k3 x K p1 p2 p3 p4 (p5.trans jl) p6
    · rw [b2_0, Bool.not_eq_false] at z
      match c, h, qe, qo with
      | 0, h, qe, qo =>
        rw [if_pos (by rw [show ts.length = 3 by omega]; rfl)]
        have hp : pA (I 140) n 0 k ts = .error (2, tS (I 140) n k) := by unfold pA; rw [if_pos z]
        exact qe _ _ hp (a.up (Or.inl rfl)) (by rw [upI_nk (by omega)]; exact ct.2.1) (upI_same _ _ _ _)
      | c + 1, h, qe, qo =>
        rw [if_neg (by rw [tI_eq, kI_t (by omega)]; simp only [Int32.reduceToInt]; omega), kI_1]
        refine nx_ok hd tp hn a l1 ct.1 ct.2.2.1 (fun K1 a1 r1 c1 => ⟨_, rfl, rfl, ?_⟩)
        have bw1 : BW 65 K1 rs ts := bw.ro (fun p h1 h2 => r1.1 p (by omega))
        have ps : pA (I 140) n (c + 1) k ts = (match pT (I 140) n (tE (I 140) n k) with
            | .error e => .error e
            | .ok (k', x) => pA (I 140) n c k' (ts ++ [x])) := by
          rw [pA, if_pos z]
        refine rdTest_okB tp hn l1 a1 c1 bw1 hr (by omega) (fun e K p1 p2 p3 p4 => ⟨_, _, rfl, rfl, ?_⟩) (fun k' x K p1 p2 p3 p4 p5 p6 => ⟨_, _, rfl, rfl, ?_⟩)
        · refine v_rdRule26B oks ?_
          rw [p1] at ps
          simp only at ps
          rw [if_neg (by rw [tI_lt, kI_t (by omega)]; simp only [Int32.reduceToInt]; omega), if_pos rfl, if_pos rfl]
          exact qe e K ps p2 p3 p4
        · rw [p1] at ps
          simp only at ps
          have ih := rdAndB (G := G) (d := d) (f := f) (Q := Q) (l := l) tp hn hr c k' K (ts ++ [x]) (by rw [List.length_append]; show ts.length + 1 + c = 3; omega) (by rw [List.length_append]; show 1 ≤ ts.length + 1; omega) p4 p2 p3 (p5.trans (r1.2.2.trans jl)) p6 (fun e K w => qe e K (ps.trans w)) (fun k2 t2 w => qo k2 t2 (ps.trans w))
          rw [List.length_append] at ih
          exact ih
theorem rdRule_okB {G : GX} {d f n k : Nat} {I J : St} {rs : List Rul} {Q : Option Value → Hp → Prop} (tp : TP I) (hn : n ≤ 400) (hk : k ≤ n) (a : RE I 65 n J) (ct : CT (I 140) n k J) (bc : BC 65 J rs) (hr : rs.length ≤ 10) (qe : ∀ e K, pR (I 140) n rs.length k = .error e → RE I 65 n K → K 61 4 = Int32.ofNat e.2 → K 61 1 = e.1 → Q (some (.int 0)) (147, f, K, RP f true)) (qo : ∀ k' x K, pR (I 140) n rs.length k = .ok (k', x) → RE I 65 n K → CT (I 140) n k' K → k' ≤ n → K 61 1 = J 61 1 → rs.length < 10 → BC 65 K (rs ++ [x]) → Q (some (.int 1)) (147, f, K, RP f true)) : wp G (d + 100) (mt 124) 0 (en (mt 124) [.ref 61, .ref 65]) [] (147, f, J, RP f true) Q := by
  have hd : 65 = 65 ∨ 65 = 71 := by decide
  obtain ⟨e1, e2⟩ := a.t hd tp
  have l1 := (tE_le (T := I 140) hk).2.1
  have b0 : J 65 0 = Int32.ofNat rs.length := bc.1
  refine v_rdRuleB oks ?_
  refine reads_ok 0 rfl e2 hn hk (by decide) (by rw [e1]; exact ct) ⟨_, _, rfl, rfl, ?_⟩
  rw [e1]
  refine ite_i (fun z => ?_) (fun z => ?_)
  · rw [b2_0] at z
    exact qe _ _ (by unfold pR; rw [if_neg (by rw [z]; decide)]) (a.up (Or.inl rfl)) (by rw [upI_nk (by omega)]; exact ct.2.1) (upI_same _ _ _ _)
  rw [b2_0, Bool.not_eq_false] at z
  rw [b0]
  by_cases h10 : rs.length = 10
  · rw [if_pos (by rw [h10]; rfl)]
    exact qe _ _ (by unfold pR; rw [if_pos z, if_pos h10]) (a.up (Or.inl rfl)) (by rw [upI_nk (by omega)]; exact ct.2.1) (upI_same _ _ _ _)
  rw [if_neg (by rw [tI_eq, kI_t (by omega)]; simp only [Int32.reduceToInt]; omega), kI_c (by omega)]
  refine ck_of (kI_x (by omega) (by omega)) ?_
  have a1 := a.up (p := 67) (k := rs.length) (x := 0) (Or.inr (by decide))
  have bw1 := bc.beg
  refine nx_ok hd tp hn a1 l1 (by rw [upI_nk (by omega)]; exact ct.1) (by rw [upI_nk (by omega)]; exact ct.2.2.1) (fun K2 a2 r2 c2 => ⟨_, rfl, rfl, ?_⟩)
  have bw2 : BW 65 K2 rs [] := bw1.ro (fun p h1 h2 => r2.1 p (by omega))
  have j1 : K2 61 1 = J 61 1 := by rw [r2.2.2, upI_nk (by omega)]
  have ps : pR (I 140) n rs.length k = (match pT (I 140) n (tE (I 140) n k) with
      | .error e => .error e
      | .ok (k1, x) => match pA (I 140) n 2 k1 [x] with
        | .error e => .error e
        | .ok (k2, ts) => match pM (I 140) n k2 with
          | .error e => .error e
          | .ok (k3, a) => .ok (k3, a, ts)) := by
    rw [pR, if_pos z, if_neg h10]
  refine rdTest_okB tp hn l1 a2 c2 bw2 (by omega) (by decide) (fun e K p1 p2 p3 p4 => ⟨_, _, rfl, rfl, ?_⟩) (fun k' x K p1 p2 p3 p4 p5 p6 => ⟨_, _, rfl, rfl, ?_⟩)
  · rw [p1] at ps
    simp only at ps
    refine v_rdRule26B oks ?_
    rw [if_neg (by decide), if_pos rfl, if_pos rfl]
    exact qe e K ps p2 p3 p4
  · rw [p1] at ps
    simp only at ps
    refine rdAndB (l := J 61 1) tp hn (by omega) 2 k' K [x] rfl (Nat.le_refl 1) p4 p2 p3 (p5.trans j1) p6 (fun e X w => ?_) (fun k2 t2 w => ⟨fun e X w2 => ?_, fun k3 y X w2 => ?_⟩)
    · rw [w] at ps; exact qe e X ps
    · rw [w] at ps
      simp only at ps
      rw [w2] at ps; exact qe e X ps
    · rw [w] at ps
      simp only at ps
      rw [w2] at ps
      intro u1 u2 u3 u4 u5
      exact qo k3 (y, t2) X ps u1 u2 u3 u4 (by omega) u5
theorem rdTape_loopB {G : GX} {d f n : Nat} {I : St} {l : Int32} {Q : Option Value → Hp → Prop} (tp : TP I) (hn : n ≤ 400) : ∀ (c k : Nat) (J : St) (rs : List Rul), rs.length + c = 11 → k ≤ n → RE I 65 n J → CT (I 140) n k J → J 61 1 = l → BC 65 J rs → (∀ e K, pS (I 140) n c k rs = .error e → RE I 65 n K → K 61 1 = e.1 → K 61 0 = 0 → Q (some (.int (-1000100 - Int32.ofNat e.2))) (147, f, K, RP f true)) → (∀ rs2 K, pS (I 140) n c k rs = .ok rs2 → RE I 65 n K → K 61 1 = l → K 61 0 = 0 → rs2.length ≤ 10 → BC 65 K rs2 → Q (some (.int (Int32.ofNat rs2.length))) (147, f, K, RP f true)) → 1 ≤ c → wp G (d + 120) (mt 117) 12 [some (.ref 61), some (.ref 65), some (.int 1), some (.int (Int32.ofNat rs.length))] [] (147, f, J, RP f true) Q
  | 0, k, J, rs, h, hk, a, ct, jl, bc, qe, qo, hc => by omega
  | c + 1, k, J, rs, h, hk, a, ct, jl, bc, qe, qo, hc => by
    have sl := tS_le (T := I 140) hk
    have b0 : J 65 0 = Int32.ofNat rs.length := bc.1
    have ps : pS (I 140) n (c + 1) k rs = (if tS (I 140) n k = n then .ok rs else match pR (I 140) n rs.length k with
        | .error e => .error e
        | .ok (k', r) => pS (I 140) n c k' (rs ++ [r])) := rfl
    refine v_rdTape12B oks ?_
    rw [if_neg (by rw [tI_lt, kI_t (by omega)]; simp only [Int32.reduceToInt]; omega), if_neg (show ¬ (1 : Int32) = 0 by decide), ct.2.2.2]
    unfold tkC
    by_cases z : tS (I 140) n k = n
    · rw [if_pos z] at ps
      rw [if_pos z, if_pos rfl, if_neg (show ¬ (1 : Int32) = 0 by decide), b0]
      exact qo rs _ ps (a.up (Or.inl rfl)) (by rw [upI_nk (by omega)]; exact jl) (upI_same _ _ _ _) (by omega) (bc.ro (fun p h1 h2 => upI_row (by omega)))
    · rw [if_neg z] at ps
      rw [if_neg z, if_neg (by
        by_cases w : nuB (I 140) n k = true
        · rw [if_pos w]; decide
        · rw [if_neg w]; decide), kI_1]
      refine rdRule_okB tp hn hk a ct bc (by omega) (fun e K p1 p2 p3 p4 => ⟨_, _, rfl, rfl, ?_⟩) (fun k' x K p1 p2 p3 p4 p5 p5b p6 => ⟨_, _, rfl, rfl, ?_⟩)
      · rw [p1] at ps
        simp only at ps
        refine v_rdTape12B oks ?_
        have fin : Q (some (.int (-1000100 - K 61 4))) (147, f, upI K 61 0 0, RP f true) := by
          rw [p3]
          exact qe e _ ps (p2.up (Or.inl rfl)) (by rw [upI_nk (by omega)]; exact p4) (upI_same _ _ _ _)
        refine ite_i (fun y => ?_) (fun y => ?_)
        · rw [if_pos rfl]; exact fin
        · rw [if_pos rfl, if_pos rfl]; exact fin
      · rw [p1] at ps
        simp only at ps
        have ih := rdTape_loopB (G := G) (d := d) (f := f) (Q := Q) (l := l) tp hn c k' K (rs ++ [x]) (by rw [List.length_append]; show rs.length + 1 + c = 11; omega) p4 p2 p3 (p5.trans jl) p6 (fun e K w => qe e K (ps.trans w)) (fun r2 K w => qo r2 K (ps.trans w)) (by omega)
        rw [List.length_append] at ih
        exact ih
theorem rdTape_okB {G : GX} {d f n : Nat} {I : St} {Q : Option Value → Hp → Prop} (tp : TP I) (hn : n ≤ 400) (i0 : I 61 0 = Int32.ofNat n) (qe : ∀ e K, pS (I 140) n 11 0 [] = .error e → RE I 65 n K → K 61 1 = e.1 → K 61 0 = 0 → Q (some (.int (-1000100 - Int32.ofNat e.2))) (147, f, K, RP f true)) (qo : ∀ rs2 K, pS (I 140) n 11 0 [] = .ok rs2 → RE I 65 n K → K 61 1 = I 61 1 → K 61 0 = 0 → rs2.length ≤ 10 → BC 65 K rs2 → Q (some (.int (Int32.ofNat rs2.length))) (147, f, K, RP f true)) : wp G (d + 120) (mt 117) 0 (en (mt 117) [.ref 61, .ref 65]) [] (147, f, I, RP f true) Q := by
  have hd : 65 = 65 ∨ 65 = 71 := by decide
  have a0 : RE I 65 n I := fun _ _ _ => rfl
  have a1 := (a0.up (p := 65) (k := 0) (x := 0) (Or.inr (by decide))).up (p := 61) (k := 5) (x := 0) (Or.inl rfl)
  refine v_rdTapeB oks ?_
  refine nx_ok hd tp hn a1 (Nat.zero_le n) (by rw [upI_nk (by omega), upI_nk (by omega)]; exact i0) (by rw [upI_same]; rfl) (fun K2 a2 r2 c2 => ⟨_, rfl, rfl, ?_⟩)
  refine rdTape_loopB (l := I 61 1) tp hn 11 0 K2 [] rfl (Nat.zero_le n) a2 c2 (by rw [r2.2.2, upI_nk (by omega), upI_nk (by omega)]) ⟨?_, fun r hr => absurd hr (by simp)⟩ qe qo (by decide)
  rw [r2.1 65 (by decide), upI_nk (by omega), upI_same]
  rfl
