/-! SOUNDNESS, entry by entry -/
theorem o1_d {st : List Value} {f : Int32 → List Value → Prop} (h : o1 st f) : ∃ x r, st = .int x :: r ∧ f x r := by
  unfold o1 at h
  split at h
  · exact ⟨_, _, rfl, h⟩
  · exact h.elim
theorem o2_d {st : List Value} {f : Int32 → Int32 → List Value → Prop} (h : o2 st f) : ∃ x y r, st = .int y :: .int x :: r ∧ f x y r := by
  unfold o2 at h
  split at h
  · exact ⟨_, _, _, rfl, h⟩
  · exact h.elim
theorem o3_d {st : List Value} {f : Int64 → List Value → Prop} (h : o3 st f) : ∃ x r, st = .long x :: r ∧ f x r := by
  unfold o3 at h
  split at h
  · exact ⟨_, _, rfl, h⟩
  · exact h.elim
theorem o4_d {st : List Value} {f : Int64 → Int64 → List Value → Prop} (h : o4 st f) : ∃ x y r, st = .long y :: .long x :: r ∧ f x y r := by
  unfold o4 at h
  split at h
  · exact ⟨_, _, _, rfl, h⟩
  · exact h.elim
theorem o5_d {st : List Value} {f : Int64 → Int32 → List Value → Prop} (h : o5 st f) : ∃ x y r, st = .int y :: .long x :: r ∧ f x y r := by
  unfold o5 at h
  split at h
  · exact ⟨_, _, _, rfl, h⟩
  · exact h.elim
theorem oI_d {lv : Lc} {i : Nat} {f : Int32 → Prop} (h : oI lv i f) : ∃ x, lv[i]? = some (some (.int x)) ∧ f x := by
  unfold oI at h
  split at h
  · rename_i x hx
    exact ⟨x, hx, h⟩
  · exact h.elim
theorem oL_d {lv : Lc} {i : Nat} {f : Int64 → Prop} (h : oL lv i f) : ∃ x, lv[i]? = some (some (.long x)) ∧ f x := by
  unfold oL at h
  split at h
  · rename_i x hx
    exact ⟨x, hx, h⟩
  · exact h.elim
theorem oA_d {lv : Lc} {i : Nat} {f : Nat → Prop} (h : oA lv i f) : ∃ x, lv[i]? = some (some (.ref x)) ∧ f x := by
  unfold oA at h
  split at h
  · rename_i x hx
    exact ⟨x, hx, h⟩
  · exact h.elim
theorem oR_d {st : List Value} {f : Nat → List Value → Prop} (h : oR st f) : ∃ x r, st = .ref x :: r ∧ f x r := by
  unfold oR at h
  split at h
  · exact ⟨_, _, rfl, h⟩
  · exact h.elim
theorem oX_d {st : List Value} {f : Int32 → Nat → List Value → Prop} (h : oX st f) : ∃ i p r, st = .int i :: .ref p :: r ∧ f i p r := by
  unfold oX at h
  split at h
  · exact ⟨_, _, _, rfl, h⟩
  · exact h.elim
theorem oS_d {st : List Value} {f : Int32 → Int32 → Nat → List Value → Prop} (h : oS st f) : ∃ x i p r, st = .int x :: .int i :: .ref p :: r ∧ f x i p r := by
  unfold oS at h
  split at h
  · exact ⟨_, _, _, _, rfl, h⟩
  · exact h.elim
theorem oT_d {st : List Value} {f : Nat → Int32 → Nat → List Value → Prop} (h : oT st f) : ∃ x i p r, st = .ref x :: .int i :: .ref p :: r ∧ f x i p r := by
  unfold oT at h
  split at h
  · exact ⟨_, _, _, _, rfl, h⟩
  · exact h.elim
theorem oV_d {o : Option Nat} {f : Nat → Prop} (h : oV o f) : ∃ q, o = some q ∧ f q := by
  unfold oV at h
  split at h
  · exact h.elim
  · exact ⟨_, rfl, h⟩
theorem tk_d {n : Nat} {st : List Value} {f : List Value → List Value → Prop} (h : tk n st f) : ∃ vs r, st = vs.reverse ++ r ∧ vs.length = n ∧ (r.map Value.category).sum ≤ 8 ∧ f vs r := by
  obtain ⟨h1, h2⟩ := ck_d h
  simp only [Bool.and_eq_true, decide_eq_true_eq] at h1
  refine ⟨(st.take n).reverse, st.drop n, by rw [List.reverse_reverse, List.take_append_drop], ?_, h1.2, h2⟩
  rw [List.length_reverse, List.length_take]
  omega
theorem vw_at {ci : Nat} (h : ci < 12) : vwCl[ci]? = some (vwCl.getD ci ("", fun _ => ("", "", "", false), 0)) := by
  have h1 : ci < vwCl.length := h
  rw [List.getD_eq_getElem?_getD, List.getElem?_eq_getElem h1]
  rfl
theorem swt_d {x : Int32} {f : Nat → Prop} {df : Nat} : ∀ (ts : List Nat) (lo : Int32), 0 ≤ lo.toInt → lo.toInt + ts.length < 1000 → swt x f df lo ts → (∃ i, i < ts.length ∧ x.toInt = lo.toInt + i ∧ f (ts.getD i 0)) ∨ ((x.toInt < lo.toInt ∨ lo.toInt + ts.length ≤ x.toInt) ∧ f df)
  | [], lo, h0, h1, h => Or.inr ⟨by simp; omega, h⟩
  | t :: ts, lo, h0, h1, h => by
    have e1 : (lo + 1).toInt = lo.toInt + 1 := by
      simp only [List.length_cons] at h1
      rw [Int32.toInt_add]
      show (lo.toInt + 1).bmod (2 ^ 32) = _
      exact Int.bmod_eq_of_le (by omega) (by omega)
    unfold swt at h
    split at h
    · rename_i e
      exact Or.inl ⟨0, by simp, by rw [e]; simp, h⟩
    · rename_i e
      have e2 : x.toInt ≠ lo.toInt := fun z => e (Int32.toInt_inj.mp z)
      simp only [List.length_cons] at h1
      rcases swt_d ts (lo + 1) (by omega) (by omega) h with ⟨i, hi, hx, hf⟩ | ⟨hx, hf⟩
      · exact Or.inl ⟨i + 1, by simp; omega, by omega, by simpa using hf⟩
      · exact Or.inr ⟨by simp only [List.length_cons]; omega, hf⟩
theorem swl_d {x : Int32} {f : Nat → Prop} {df : Nat} (d0 : Int) : ∀ (ps : List (Int × Int)) (ts : List Nat), ts.length = ps.length → (∀ i, i < ps.length → (Int32.ofInt (ps.getD i (0, 0)).1).toInt = (ps.getD i (0, 0)).1) → swl x f df ps ts → (∃ i, i < ps.length ∧ Op.lookupswitch.offset ps d0 x.toInt = (ps.getD i (0, 0)).2 ∧ f (ts.getD i 0)) ∨ (Op.lookupswitch.offset ps d0 x.toInt = d0 ∧ f df)
  | [], ts, _, _, h => Or.inr ⟨rfl, by cases ts <;> exact h⟩
  | (a, o) :: ps, [], hl, _, h => by simp at hl
  | (a, o) :: ps, t :: ts, hl, hk, h => by
    have ha : (Int32.ofInt a).toInt = a := hk 0 (by simp)
    unfold swl at h
    split at h
    · rename_i e
      refine Or.inl ⟨0, by simp, ?_, h⟩
      rw [Op.lookupswitch.offset_cons, if_pos (by rw [e]; exact ha.symm)]
      rfl
    · rename_i e
      have e1 := lv_osw (o := o) (d := d0) (r := ps) e ha
      rcases swl_d d0 ps ts (by simpa using hl) (fun i hi => by have := hk (i + 1) (by simp; omega); simpa using this) h with ⟨i, hi, hx, hf⟩ | ⟨hx, hf⟩
      · exact Or.inl ⟨i + 1, by simp; omega, by rw [e1, hx]; simp, by simpa using hf⟩
      · exact Or.inr ⟨by rw [e1, hx], hf⟩
theorem mo_rf (h : Hp) : nc h ≤ nc h ∧ ns h ≤ ns h := ⟨Nat.le_refl _, Nat.le_refl _⟩
theorem slN_mono {a : Nat} : ∀ b : Nat, slN a ≤ slN (a + b)
  | 0 => Nat.le_refl _
  | b + 1 => Nat.le_trans (slN_mono b) (Nat.le_add_right _ _)
theorem mo_b (h : Hp) (k : Nat) (R' : Nat → Nat → Option Nat) : nc h ≤ nc (h.1 + k, h.2.1, h.2.2.1, R') ∧ ns h ≤ ns (h.1 + k, h.2.1, h.2.2.1, R') := by
  unfold nc ns
  have := slN_mono (a := h.1) k
  constructor
  · show h.1 + h.2.1 ≤ h.1 + k + h.2.1
    omega
  · show slN h.1 + 9 * h.2.1 ≤ slN (h.1 + k) + 9 * h.2.1
    omega
theorem mo_f (h : Hp) : nc h ≤ nc (h.1, h.2.1 + 1, h.2.2.1, h.2.2.2) ∧ ns h ≤ ns (h.1, h.2.1 + 1, h.2.2.1, h.2.2.2) := by
  unfold nc ns
  constructor
  · show h.1 + h.2.1 ≤ h.1 + (h.2.1 + 1)
    omega
  · show slN h.1 + 9 * h.2.1 ≤ slN h.1 + 9 * (h.2.1 + 1)
    omega
theorem go_ret {G : GX} {d : Nat} {M : MR} {j : Nat} {lv : Lc} {h : Hp} {r : Option Value} (hr : rtA M j r) : Go G d M j lv r.toList h r h := by
  refine ⟨mo_rf h, fun p e R s m args below meth c H locs cells slots ls Z cx hl hh hS hc0 hc1 hc2 K => ?_⟩
  have z := K H locs cells slots ls j hr hh hS rfl rfl
  have er : r.toList.map (trv G) = (r.map (trv G)).toList := by cases r <;> rfl
  rw [er]
  exact z
set_option maxHeartbeats 4000000 in
theorem sp_wp (hst : StrOK) (hmn : MnaOK) (hMT : ∀ i, useB i = true → chkM (mt i) = true) {G : GX} {d : Nat} {M : MR} {j : Nat} {e : Ent} {lv : Lc} {st : List Value} {h : Hp} {Q : Option Value → Hp → Prop} {nx : Nat → Lc → List Value → Hp → Prop} {rt : Option Value → Prop} {cl : Nat → List Value → (Option Value → Hp → Prop) → Prop} (hM : chkM M = true) (hf : ft M j = some e) (hs : sp d e j lv st h nx rt cl)
    (hnx : ∀ j' lv' st' h', nx j' lv' st' h' → wp G d M j' lv' st' h' Q) (hrt : ∀ v, rt v → rtB M v = true ∧ Q v h) (hcl : ∀ i vs K, cl i vs K → ∃ d', d = d' + 1 ∧ (la vs).length ≤ (mt i).2.2.2.2.1 ∧ wp G d' (mt i) 0 (en (mt i) vs) [] h K) : wp G d M j lv st h Q := by
  have hcn := chk_cls hM
  have hd0 := chk_d hM hf
  have hn0 := chk_n hM hf
  have ha := (chk_e hM hf).2.2
  have hpc := pcj_of hf
  have hsw := chk_s hM hf
  have back : ∀ {vs r : List Value} {r1 : Option Value} {h1 : Hp} {d' : Nat} {N : MR}, Go G d' N 0 (en N vs) [] h r1 h1 → StepH G d M j lv (vs.reverse ++ r) h (j + 1) lv (r1.toList ++ r) h1 → nx (j + 1) lv (r1.toList ++ r) h1 → wp G d M j lv (vs.reverse ++ r) h Q := fun g row k => (hnx _ _ _ _ k).stepH row g.1
  obtain ⟨ins, pc, as, v⟩ := e
  have hd : swB ins = false → decode M.2.2.1 (pcj M j) = .ok (ins, lenI ins) := hd0
  have hn : nfB ins = false → pcj M (j + 1) = pcj M j + lenI ins := hn0
  clear hd0 hn0
  cases ins
  case iadd =>
    obtain ⟨x, y, r, rfl, hs⟩ := o2_d (show o2 st (fun x y r => nx (j + 1) lv (.int (x + y) :: r) h) from hs)
    exact (hnx _ _ _ _ hs).step (g_iadd (hd rfl) (hn rfl))
  case isub =>
    obtain ⟨x, y, r, rfl, hs⟩ := o2_d (show o2 st (fun x y r => nx (j + 1) lv (.int (x - y) :: r) h) from hs)
    exact (hnx _ _ _ _ hs).step (g_isub (hd rfl) (hn rfl))
  case imul =>
    obtain ⟨x, y, r, rfl, hs⟩ := o2_d (show o2 st (fun x y r => nx (j + 1) lv (.int (x * y) :: r) h) from hs)
    exact (hnx _ _ _ _ hs).step (g_imul (hd rfl) (hn rfl))
  case iand =>
    obtain ⟨x, y, r, rfl, hs⟩ := o2_d (show o2 st (fun x y r => nx (j + 1) lv (.int (x &&& y) :: r) h) from hs)
    exact (hnx _ _ _ _ hs).step (g_iand (hd rfl) (hn rfl))
  case ior =>
    obtain ⟨x, y, r, rfl, hs⟩ := o2_d (show o2 st (fun x y r => nx (j + 1) lv (.int (x ||| y) :: r) h) from hs)
    exact (hnx _ _ _ _ hs).step (g_ior (hd rfl) (hn rfl))
  case ixor =>
    obtain ⟨x, y, r, rfl, hs⟩ := o2_d (show o2 st (fun x y r => nx (j + 1) lv (.int (x ^^^ y) :: r) h) from hs)
    exact (hnx _ _ _ _ hs).step (g_ixor (hd rfl) (hn rfl))
  case ishl =>
    obtain ⟨x, y, r, rfl, hs⟩ := o2_d (show o2 st (fun x y r => nx (j + 1) lv (.int (x <<< (y &&& 31)) :: r) h) from hs)
    exact (hnx _ _ _ _ hs).step (g_ishl (hd rfl) (hn rfl))
  case ishr =>
    obtain ⟨x, y, r, rfl, hs⟩ := o2_d (show o2 st (fun x y r => nx (j + 1) lv (.int (x >>> (y &&& 31)) :: r) h) from hs)
    exact (hnx _ _ _ _ hs).step (g_ishr (hd rfl) (hn rfl))
  case iushr =>
    obtain ⟨x, y, r, rfl, hs⟩ := o2_d (show o2 st (fun x y r => nx (j + 1) lv (.int ((x.toUInt32 >>> (y.toUInt32 &&& Int32.toUInt32 31)).toInt32) :: r) h) from hs)
    exact (hnx _ _ _ _ hs).step (g_iushr (hd rfl) (hn rfl))
  case idiv =>
    obtain ⟨x, y, r, rfl, hs⟩ := o2_d (show o2 st (fun x y r => ck (decide (y ≠ 0)) (nx (j + 1) lv (.int (x / y) :: r) h)) from hs)
    obtain ⟨h1, hs⟩ := ck_d hs
    exact (hnx _ _ _ _ hs).step (g_idiv (hd rfl) (hn rfl) (of_decide_eq_true h1))
  case irem =>
    obtain ⟨x, y, r, rfl, hs⟩ := o2_d (show o2 st (fun x y r => ck (decide (y ≠ 0)) (nx (j + 1) lv (.int (x - x / y * y) :: r) h)) from hs)
    obtain ⟨h1, hs⟩ := ck_d hs
    exact (hnx _ _ _ _ hs).step (g_irem (hd rfl) (hn rfl) (of_decide_eq_true h1))
  case ineg =>
    obtain ⟨x, r, rfl, hs⟩ := o1_d (show o1 st (fun x r => nx (j + 1) lv (.int (-x) :: r) h) from hs)
    exact (hnx _ _ _ _ hs).step (g_ineg (hd rfl) (hn rfl))
  case i2l =>
    obtain ⟨x, r, rfl, hs⟩ := o1_d (show o1 st (fun x r => nx (j + 1) lv (.long x.toInt64 :: r) h) from hs)
    exact (hnx _ _ _ _ hs).step (g_i2l (hd rfl) (hn rfl))
  case i2b =>
    obtain ⟨x, r, rfl, hs⟩ := o1_d (show o1 st (fun x r => nx (j + 1) lv (.int x.toInt8.toInt32 :: r) h) from hs)
    exact (hnx _ _ _ _ hs).step (g_i2b (hd rfl) (hn rfl))
  case i2s =>
    obtain ⟨x, r, rfl, hs⟩ := o1_d (show o1 st (fun x r => nx (j + 1) lv (.int x.toInt16.toInt32 :: r) h) from hs)
    exact (hnx _ _ _ _ hs).step (g_i2s (hd rfl) (hn rfl))
  case l2i =>
    obtain ⟨x, r, rfl, hs⟩ := o3_d (show o3 st (fun x r => nx (j + 1) lv (.int x.toInt32 :: r) h) from hs)
    exact (hnx _ _ _ _ hs).step (g_l2i (hd rfl) (hn rfl))
  case ladd =>
    obtain ⟨x, y, r, rfl, hs⟩ := o4_d (show o4 st (fun x y r => nx (j + 1) lv (.long (x + y) :: r) h) from hs)
    exact (hnx _ _ _ _ hs).step (g_ladd (hd rfl) (hn rfl))
  case lmul =>
    obtain ⟨x, y, r, rfl, hs⟩ := o4_d (show o4 st (fun x y r => nx (j + 1) lv (.long (x * y) :: r) h) from hs)
    exact (hnx _ _ _ _ hs).step (g_lmul (hd rfl) (hn rfl))
  case land =>
    obtain ⟨x, y, r, rfl, hs⟩ := o4_d (show o4 st (fun x y r => nx (j + 1) lv (.long (x &&& y) :: r) h) from hs)
    exact (hnx _ _ _ _ hs).step (g_land (hd rfl) (hn rfl))
  case lor =>
    obtain ⟨x, y, r, rfl, hs⟩ := o4_d (show o4 st (fun x y r => nx (j + 1) lv (.long (x ||| y) :: r) h) from hs)
    exact (hnx _ _ _ _ hs).step (g_lor (hd rfl) (hn rfl))
  case lcmp =>
    obtain ⟨x, y, r, rfl, hs⟩ := o4_d (show o4 st (fun x y r => nx (j + 1) lv (.int (lg_cmp x y) :: r) h) from hs)
    exact (hnx _ _ _ _ hs).step (g_lcmp (hd rfl) (hn rfl))
  case lshl =>
    obtain ⟨x, y, r, rfl, hs⟩ := o5_d (show o5 st (fun x y r => nx (j + 1) lv (.long (x <<< (y.toInt64 &&& 63)) :: r) h) from hs)
    exact (hnx _ _ _ _ hs).step (g_lshl (hd rfl) (hn rfl))
  case lshr =>
    obtain ⟨x, y, r, rfl, hs⟩ := o5_d (show o5 st (fun x y r => nx (j + 1) lv (.long (x >>> (y.toInt64 &&& 63)) :: r) h) from hs)
    exact (hnx _ _ _ _ hs).step (g_lshr (hd rfl) (hn rfl))
  case iload_n i =>
    obtain ⟨x, hx, hs⟩ := oI_d (show oI lv i.val (fun x => nx (j + 1) lv (.int x :: st) h) from hs)
    exact (hnx _ _ _ _ hs).step (g_iload_n (hd rfl) (hn rfl) hx)
  case iload i =>
    obtain ⟨x, hx, hs⟩ := oI_d (show oI lv i (fun x => nx (j + 1) lv (.int x :: st) h) from hs)
    exact (hnx _ _ _ _ hs).step (g_iload (hd rfl) (hn rfl) hx)
  case lload_n i =>
    obtain ⟨x, hx, hs⟩ := oL_d (show oL lv i.val (fun x => nx (j + 1) lv (.long x :: st) h) from hs)
    exact (hnx _ _ _ _ hs).step (g_lload_n (hd rfl) (hn rfl) hx)
  case lload i =>
    obtain ⟨x, hx, hs⟩ := oL_d (show oL lv i (fun x => nx (j + 1) lv (.long x :: st) h) from hs)
    exact (hnx _ _ _ _ hs).step (g_lload (hd rfl) (hn rfl) hx)
  case aload_n i =>
    obtain ⟨x, hx, hs⟩ := oA_d (show oA lv i.val (fun x => nx (j + 1) lv (.ref x :: st) h) from hs)
    exact (hnx _ _ _ _ hs).step (g_aload_n (hd rfl) (hn rfl) hx)
  case aload i =>
    obtain ⟨x, hx, hs⟩ := oA_d (show oA lv i (fun x => nx (j + 1) lv (.ref x :: st) h) from hs)
    exact (hnx _ _ _ _ hs).step (g_aload (hd rfl) (hn rfl) hx)
  case istore_n i =>
    obtain ⟨x, r, rfl, hs⟩ := o1_d (show o1 st (fun x r => nx (j + 1) (st1 lv i.val (.int x)) r h) from hs)
    exact (hnx _ _ _ _ hs).step (g_istore_n (hd rfl) (hn rfl) (of_decide_eq_true ha))
  case istore i =>
    obtain ⟨x, r, rfl, hs⟩ := o1_d (show o1 st (fun x r => nx (j + 1) (st1 lv i (.int x)) r h) from hs)
    exact (hnx _ _ _ _ hs).step (g_istore (hd rfl) (hn rfl) (of_decide_eq_true ha))
  case lstore_n i =>
    obtain ⟨x, r, rfl, hs⟩ := o3_d (show o3 st (fun x r => nx (j + 1) (st2 lv i.val (.long x)) r h) from hs)
    exact (hnx _ _ _ _ hs).step (g_lstore_n (hd rfl) (hn rfl) (of_decide_eq_true ha))
  case lstore i =>
    obtain ⟨x, r, rfl, hs⟩ := o3_d (show o3 st (fun x r => nx (j + 1) (st2 lv i (.long x)) r h) from hs)
    exact (hnx _ _ _ _ hs).step (g_lstore (hd rfl) (hn rfl) (of_decide_eq_true ha))
  case astore_n i =>
    obtain ⟨x, r, rfl, hs⟩ := oR_d (show oR st (fun x r => nx (j + 1) (st1 lv i.val (.ref x)) r h) from hs)
    exact (hnx _ _ _ _ hs).step (g_astore_n (hd rfl) (hn rfl) (of_decide_eq_true ha))
  case astore i =>
    obtain ⟨x, r, rfl, hs⟩ := oR_d (show oR st (fun x r => nx (j + 1) (st1 lv i (.ref x)) r h) from hs)
    exact (hnx _ _ _ _ hs).step (g_astore (hd rfl) (hn rfl) (of_decide_eq_true ha))
  case iinc i n =>
    obtain ⟨x, hx, hs⟩ := oI_d (show oI lv i (fun x => nx (j + 1) (st1 lv i (.int (x + Int32.ofInt n))) st h) from hs)
    exact (hnx _ _ _ _ hs).step (g_iinc (hd rfl) (hn rfl) hx (of_decide_eq_true ha))
  case iconst n =>
    have hv : v = .int (Int32.ofInt n) := of_decide_eq_true ha
    subst hv
    exact (hnx _ _ _ _ hs).step (g_iconst (hd rfl) (hn rfl) rfl)
  case bipush n =>
    have hv : v = .int (Int8.ofInt n).toInt32 := of_decide_eq_true ha
    subst hv
    exact (hnx _ _ _ _ hs).step (g_bipush (hd rfl) (hn rfl) rfl)
  case sipush n =>
    have hv : v = .int (Int16.ofInt n).toInt32 := of_decide_eq_true ha
    subst hv
    exact (hnx _ _ _ _ hs).step (g_sipush (hd rfl) (hn rfl) rfl)
  case lconst n =>
    have hv : v = .long (Int64.ofNat (n : Nat)) := of_decide_eq_true ha
    subst hv
    exact (hnx _ _ _ _ hs).step (g_lconst (hd rfl) (hn rfl) rfl)
  case ldc n =>
    have ha2 : argB M (.ldc n, pc, as, v) = true := ha
    unfold argB at ha2
    simp only at ha2
    cases v with
    | int x =>
      have hw := tb_kc _ (List.mem_map.mpr ⟨_, List.contains_iff_mem.mp ha2, rfl⟩)
      unfold kcc at hw
      rw [hcn] at hw
      exact (hnx _ _ _ _ hs).step (g_ldc (hd rfl) (hn rfl) hw)
    | ref p =>
      simp only [Bool.and_eq_true, decide_eq_true_eq, List.any_eq_true, beq_iff_eq] at ha2
      obtain ⟨hc, q, hq, hq1, hq2⟩ := ha2
      subst hq2
      exact (hnx _ _ _ _ hs).stepH ((hst G d M j lv st h n hc).1 q hq hq1 (hd rfl) (hn rfl)) (mo_rf h)
    | _ => cases ha2
  case ldc_w n =>
    have ha2 : argB M (.ldc_w n, pc, as, v) = true := ha
    unfold argB at ha2
    simp only at ha2
    cases v with
    | int x =>
      have hw := tb_kc _ (List.mem_map.mpr ⟨_, List.contains_iff_mem.mp ha2, rfl⟩)
      unfold kcc at hw
      rw [hcn] at hw
      exact (hnx _ _ _ _ hs).step (g_ldcw (hd rfl) (hn rfl) hw)
    | _ => cases ha2
  case ldc2_w n =>
    have ha2 : argB M (.ldc2_w n, pc, as, v) = true := ha
    unfold argB at ha2
    simp only at ha2
    cases v with
    | long x =>
      have hw := tb_kl _ (List.mem_map.mpr ⟨_, List.contains_iff_mem.mp ha2, rfl⟩)
      unfold klc at hw
      rw [hcn] at hw
      exact (hnx _ _ _ _ hs).step (g_ldc2 (hd rfl) (hn rfl) hw)
    | _ => cases ha2
  case dup =>
    have hs2 : sp d (.dup, pc, as, v) j lv st h nx rt cl := hs
    unfold sp at hs2
    simp only at hs2
    split at hs2
    · exact (hnx _ _ _ _ hs2).step (g_dupi (hd rfl) (hn rfl))
    · exact (hnx _ _ _ _ hs2).step (g_dupr (hd rfl) (hn rfl))
    · exact hs2.elim
  case dup2 =>
    have hs2 : sp d (.dup2, pc, as, v) j lv st h nx rt cl := hs
    unfold sp at hs2
    simp only at hs2
    split at hs2
    · exact (hnx _ _ _ _ hs2).step (g_dup2 (hd rfl) (hn rfl))
    · exact hs2.elim
  case goto off =>
    have ht : (pc : Int) + off = (pcj M (as.getD 0 0) : Int) := of_decide_eq_true ha
    have hpc : pcj M j = pc := hpc
    rw [← hpc] at ht
    exact (hnx _ _ _ _ hs).step (g_goto (hd rfl) ht)
  case ifCond c off =>
    have ht : (pc : Int) + off = (pcj M (as.getD 0 0) : Int) := of_decide_eq_true ha
    have hpc : pcj M j = pc := hpc
    rw [← hpc] at ht
    obtain ⟨x, r, rfl, hs⟩ := o1_d (show o1 st (fun x r => cnd c x 0 (nx (as.getD 0 0) lv r h) (nx (j + 1) lv r h)) from hs)
    exact wp_if (hd rfl) ht (hn rfl) (hnx _ _ _ _) (hnx _ _ _ _) hs
  case if_icmp c off =>
    have ht : (pc : Int) + off = (pcj M (as.getD 0 0) : Int) := of_decide_eq_true ha
    have hpc : pcj M j = pc := hpc
    rw [← hpc] at ht
    obtain ⟨x, y, r, rfl, hs⟩ := o2_d (show o2 st (fun x y r => cnd c x y (nx (as.getD 0 0) lv r h) (nx (j + 1) lv r h)) from hs)
    exact wp_icmp (hd rfl) ht (hn rfl) (hnx _ _ _ _) (hnx _ _ _ _) hs
  case tableswitch df lo hi offs =>
    have ha2 : argB M (.tableswitch df lo hi offs, pc, as, v) = true := ha
    unfold argB at ha2
    simp only [Bool.and_eq_true, decide_eq_true_eq] at ha2
    obtain ⟨t0, t1, t2, t3, t4, t5⟩ := ha2
    have t0 : (pc : Int) + df = (pcj M (as.getD 0 0) : Int) := of_decide_eq_true t0
    have hpc : pcj M j = pc := hpc
    rw [← hpc] at t0
    obtain ⟨n, hdn⟩ := hsw
    have elo : (Int32.ofInt lo).toInt = lo := by
      rw [Int32.toInt_ofInt, show Int32.size = 4294967296 from rfl]
      exact Int.bmod_eq_of_le (by omega) (by omega)
    obtain ⟨x, r, rfl, hs⟩ := o1_d (show o1 st (fun x r => swt x (fun t => nx t lv r h) (as.getD 0 0) (Int32.ofInt lo) (as.drop 1)) from hs)
    rcases swt_d (as.drop 1) (Int32.ofInt lo) (by omega) (by rw [elo, t4]; exact t3) hs with ⟨i, hi, hx, hk⟩ | ⟨hx, hk⟩
    · rw [elo] at hx
      rw [t4] at hi
      have t6 := List.all_eq_true.mp t5 i (List.mem_range.mpr hi)
      have t7 : (pc : Int) + offs.getD i 0 = (pcj M ((as.drop 1).getD i 0) : Int) := of_decide_eq_true t6
      rw [← hpc] at t7
      refine (hnx _ _ _ _ hk).step (fun p e R s m args below meth c H locs cells slots ls Z cx hl K => lv_tableIn cx.1 cx.2.1 hdn (by omega) (by omega) (off := offs.getD i 0) ?_ t7 (K ls hl))
      rw [show (x.toInt - lo).toNat = i by omega]
      rw [Array.getD_eq_getD_getElem?, Array.getElem?_eq_getElem hi]
      rfl
    · rw [elo, t4] at hx
      exact (hnx _ _ _ _ hk).step (fun p e R s m args below meth c H locs cells slots ls Z cx hl K => lv_tableOut cx.1 cx.2.1 hdn (by omega) t0 (K ls hl))
  case lookupswitch df ps =>
    have ha2 : argB M (.lookupswitch df ps, pc, as, v) = true := ha
    unfold argB at ha2
    simp only [Bool.and_eq_true] at ha2
    obtain ⟨t0, t1, t2, t3⟩ := ha2
    have t0 : (pc : Int) + df = (pcj M (as.getD 0 0) : Int) := of_decide_eq_true t0
    have t2 : (as.drop 1).length = ps.toList.length := of_decide_eq_true t2
    have hpc : pcj M j = pc := hpc
    rw [← hpc] at t0
    obtain ⟨n, hdn⟩ := hsw
    have t4 : ∀ i, i < ps.toList.length → (pc : Int) + (ps.toList.getD i (0, 0)).2 = (pcj M ((as.drop 1).getD i 0) : Int) ∧ (Int32.ofInt (ps.toList.getD i (0, 0)).1).toInt = (ps.toList.getD i (0, 0)).1 := fun i hi => by
      have := List.all_eq_true.mp t3 i (List.mem_range.mpr hi)
      rw [Bool.and_eq_true] at this
      exact ⟨of_decide_eq_true this.1, of_decide_eq_true this.2⟩
    obtain ⟨x, r, rfl, hs⟩ := o1_d (show o1 st (fun x r => swl x (fun t => nx t lv r h) (as.getD 0 0) ps.toList (as.drop 1)) from hs)
    rcases swl_d df ps.toList (as.drop 1) t2 (fun i hi => (t4 i hi).2) hs with ⟨i, hi, hx, hk⟩ | ⟨hx, hk⟩
    · have t7 := (t4 i hi).1
      rw [← hpc] at t7
      exact (hnx _ _ _ _ hk).step (fun p e R s m args below meth c H locs cells slots ls Z cx hl K => lv_lookup cx.1 cx.2.1 hdn t1 hx t7 (K ls hl))
    · exact (hnx _ _ _ _ hk).step (fun p e R s m args below meth c H locs cells slots ls Z cx hl K => lv_lookup cx.1 cx.2.1 hdn t1 hx t0 (K ls hl))
  case getfield ix =>
    have ha2 : argB M (.getfield ix, pc, as, v) = true := ha
    unfold argB at ha2
    simp only [Bool.and_eq_true, decide_eq_true_eq] at ha2
    obtain ⟨t1, t2, t3⟩ := ha2
    have hw := tb_fl _ (List.mem_map.mpr ⟨_, List.contains_iff_mem.mp t1, rfl⟩)
    unfold flc at hw
    simp only at hw
    rw [hcn] at hw
    obtain ⟨p, r, rfl, hs⟩ := oR_d (show oR st (fun p r => ck (okB h p (as.getD 0 0)) (match kr (as.getD 0 0) (as.getD 1 0) with
      | true => oV (h.2.2.2 p (as.getD 1 0)) fun q => nx (j + 1) lv (.ref q :: r) h
      | false => nx (j + 1) lv (.int (h.2.2.1 p (as.getD 1 0)) :: r) h)) from hs)
    obtain ⟨ok, hs⟩ := ck_d hs
    cases hk : kr (as.getD 0 0) (as.getD 1 0) with
    | true =>
      rw [hk] at hs
      obtain ⟨x, hx, hs⟩ := oV_d hs
      exact (hnx _ _ _ _ hs).stepH (g_getr (hd rfl) (hn rfl) (vw_at t2) t3 hw hk ok hx) (mo_rf h)
    | false =>
      rw [hk] at hs
      exact (hnx _ _ _ _ hs).stepH (g_geti (hd rfl) (hn rfl) (vw_at t2) t3 hw hk ok) (mo_rf h)
  case putfield ix =>
    have ha2 : argB M (.putfield ix, pc, as, v) = true := ha
    unfold argB at ha2
    simp only [Bool.and_eq_true, decide_eq_true_eq, Bool.or_eq_true] at ha2
    obtain ⟨t1, t2, t3, t4⟩ := ha2
    have hw := tb_fl _ (List.mem_map.mpr ⟨_, List.contains_iff_mem.mp t1, rfl⟩)
    unfold flc at hw
    simp only at hw
    rw [hcn] at hw
    have hs2 : sp d (.putfield ix, pc, as, v) j lv st h nx rt cl := hs
    unfold sp at hs2
    simp only at hs2
    split at hs2
    · rename_i hk
      obtain ⟨ok, hs2⟩ := ck_d hs2
      exact (hnx _ _ _ _ hs2).stepH (g_putr (hd rfl) (hn rfl) (vw_at t2) t3 hw hk t4 ok) (mo_rf h)
    · rename_i hk
      obtain ⟨ok, hs2⟩ := ck_d hs2
      rw [Bool.and_eq_true] at ok
      exact (hnx _ _ _ _ hs2).stepH (g_puti (hd rfl) (hn rfl) (vw_at t2) t3 hw hk ok.2 t4 ok.1) (mo_rf h)
    · exact hs2.elim
  case getstatic ix =>
    have ha2 : argB M (.getstatic ix, pc, as, v) = true := ha
    unfold argB at ha2
    simp only [Bool.and_eq_true, decide_eq_true_eq, Bool.or_eq_true] at ha2
    obtain ⟨t1, t2⟩ := ha2
    rcases t2 with ⟨rfl, rfl⟩ | ⟨rfl, rfl⟩
    · exact (hnx _ _ _ _ hs).stepH (g_gets (hd rfl) (hn rfl) t1 (Or.inl ⟨rfl, rfl⟩)) (mo_rf h)
    · exact (hnx _ _ _ _ hs).stepH (g_gets (hd rfl) (hn rfl) t1 (Or.inr ⟨rfl, rfl⟩)) (mo_rf h)
  case iaload =>
    obtain ⟨i, p, r, rfl, k0⟩ := oX_d (show oX st (fun i p r => if p < 100000 then ck (okB h p 20) (ck (ixB i (SH p).2) (nx (j + 1) lv (.int (h.2.2.1 p i.toNatClampNeg) :: r) h)) else if p = 100300 then ck (ixB i (h.2.2.1 100301 0).toNatClampNeg) (nx (j + 1) lv (.int (h.2.2.1 100300 i.toNatClampNeg) :: r) h) else ck (decide (p = 100100 ∨ p = 100101)) (ck (ixB i 16) (nx (j + 1) lv (.int (kA p i.toNatClampNeg) :: r) h))) from hs)
    split at k0
    · obtain ⟨ok, k1⟩ := ck_d k0
      obtain ⟨hi, k2⟩ := ck_d k1
      exact (hnx _ _ _ _ k2).stepH (g_iald (hd rfl) (hn rfl) ok hi) (mo_rf h)
    · split at k0
      · rename_i hp
        subst hp
        obtain ⟨hi, k2⟩ := ck_d k0
        exact (hnx _ _ _ _ k2).stepH (g_sld (hd rfl) (hn rfl) hi) (mo_rf h)
      · obtain ⟨ok, k1⟩ := ck_d k0
        obtain ⟨hi, k2⟩ := ck_d k1
        exact (hnx _ _ _ _ k2).stepH (g_cald (hd rfl) (hn rfl) (of_decide_eq_true ok) hi) (mo_rf h)
  case baload =>
    obtain ⟨i, p, r, rfl, hs⟩ := oX_d (show oX st (fun i p r => ck (okB h p 21 || okB h p 22) (ck (ixB i (SH p).2) (nx (j + 1) lv (.int (h.2.2.1 p i.toNatClampNeg) :: r) h))) from hs)
    obtain ⟨ok, hs⟩ := ck_d hs
    obtain ⟨hi, hs⟩ := ck_d hs
    exact (hnx _ _ _ _ hs).stepH (g_bald (hd rfl) (hn rfl) ok hi) (mo_rf h)
  case aaload =>
    obtain ⟨i, p, r, rfl, hs⟩ := oX_d (show oX st (fun i p r => ck (okB h p 23 || (okB h p 24 || okB h p 25)) (ck (ixB i (SH p).2) (oV (h.2.2.2 p i.toNatClampNeg) fun q => nx (j + 1) lv (.ref q :: r) h))) from hs)
    obtain ⟨ok, hs⟩ := ck_d hs
    obtain ⟨hi, hs⟩ := ck_d hs
    obtain ⟨x, hx, hs⟩ := oV_d hs
    exact (hnx _ _ _ _ hs).stepH (g_aald (hd rfl) (hn rfl) ok hi hx) (mo_rf h)
  case iastore =>
    obtain ⟨x, i, p, r, rfl, hs⟩ := oS_d (show oS st (fun x i p r => ck (okB h p 20) (ck (ixB i (SH p).2) (nx (j + 1) lv r (hI h p i.toNatClampNeg x)))) from hs)
    obtain ⟨ok, hs⟩ := ck_d hs
    obtain ⟨hi, hs⟩ := ck_d hs
    exact (hnx _ _ _ _ hs).stepH (g_iast (hd rfl) (hn rfl) ok hi) (mo_rf h)
  case bastore =>
    obtain ⟨x, i, p, r, rfl, hs⟩ := oS_d (show oS st (fun x i p r => ck (ixB i (SH p).2) (match okB h p 21, okB h p 22 with
      | true, _ => nx (j + 1) lv r (hI h p i.toNatClampNeg x.toInt8.toInt32)
      | false, true => nx (j + 1) lv r (hI h p i.toNatClampNeg (x &&& 1))
      | false, false => False)) from hs)
    obtain ⟨hi, hs⟩ := ck_d hs
    split at hs
    · rename_i ok
      exact (hnx _ _ _ _ hs).stepH (g_bast (hd rfl) (hn rfl) ok hi) (mo_rf h)
    · rename_i ok
      exact (hnx _ _ _ _ hs).stepH (g_zast (hd rfl) (hn rfl) ok hi) (mo_rf h)
    · exact hs.elim
  case aastore =>
    obtain ⟨x, i, p, r, rfl, hs⟩ := oT_d (show oT st (fun x i p r => ck (okB h p 23 && okB h x 6 || okB h p 24 && okB h x 3) (ck (ixB i (SH p).2) (nx (j + 1) lv r (hR h p i.toNatClampNeg (some x))))) from hs)
    obtain ⟨ok, hs⟩ := ck_d hs
    obtain ⟨hi, hs⟩ := ck_d hs
    exact (hnx _ _ _ _ hs).stepH (g_aast (hd rfl) (hn rfl) ok hi) (mo_rf h)
  case arraylength =>
    obtain ⟨p, r, rfl, k0⟩ := oR_d (show oR st (fun p r => if p = 100300 then nx (j + 1) lv (.int (h.2.2.1 100301 0) :: r) h else ck (okB h p 20) (nx (j + 1) lv (.int (Int32.ofNat (SH p).2) :: r) h)) from hs)
    split at k0
    · rename_i hp
      subst hp
      exact (hnx _ _ _ _ k0).stepH (g_slen (hd rfl) (hn rfl)) (mo_rf h)
    · obtain ⟨ok, k1⟩ := ck_d k0
      exact (hnx _ _ _ _ k1).stepH (g_alen (hd rfl) (hn rfl) ok) (mo_rf h)
  case new ix =>
    have ha2 : argB M (.new ix, pc, as, v) = true := ha
    unfold argB at ha2
    simp only [Bool.and_eq_true, decide_eq_true_eq] at ha2
    obtain ⟨t1, t2⟩ := ha2
    have hw := tb_nc _ (List.mem_map.mpr ⟨_, List.contains_iff_mem.mp t2, rfl⟩)
    unfold ncc at hw
    simp only at hw
    rw [hcn] at hw
    have hs2 : sp d (.new ix, pc, as, v) j lv st h nx rt cl := hs
    unfold sp at hs2
    simp only at hs2
    split at hs2
    · rename_i h3
      have h3 : as.getD 0 0 = 3 := of_decide_eq_true h3
      obtain ⟨ok, hs2⟩ := ck_d hs2
      simp only [Bool.and_eq_true, decide_eq_true_eq] at ok
      rw [h3] at hw
      exact (hnx _ _ _ _ hs2).stepH (g_newf (hd rfl) (hn rfl) hw ok.1 ok.2) (mo_f h)
    · obtain ⟨ok, hs2⟩ := ck_d hs2
      simp only [Bool.and_eq_true, decide_eq_true_eq] at ok
      exact (hnx _ _ _ _ hs2).stepH (g_newb (hd rfl) (hn rfl) (vw_at t1) hw ok.1 ok.2.1 ok.2.2) (mo_b h 1 _)
  case newarray ty =>
    have ha2 : argB M (.newarray ty, pc, as, v) = true := ha
    unfold argB at ha2
    simp only [Bool.or_eq_true, decide_eq_true_eq] at ha2
    obtain ⟨x, r, rfl, k0⟩ := o1_d (show o1 st (fun x r => ck (decide (0 ≤ x) && (decide (h.2.1 = 0) && (decide (h.1 < 147) && decide (SH h.1 = (as.getD 0 0, x.toNatClampNeg))))) (nx (j + 1) lv (.ref h.1 :: r) (h.1 + 1, h.2.1, h.2.2.1, h.2.2.2))) from hs)
    obtain ⟨ok, k1⟩ := ck_d k0
    simp only [Bool.and_eq_true, decide_eq_true_eq] at ok
    obtain ⟨o1, o2, o3, o4⟩ := ok
    have hsm : x.toNatClampNeg ≤ 100000 := by have := sh_sm h.1; rw [o4] at this; exact this
    rcases ha2 with ⟨e1, rfl⟩ | ⟨e1, rfl⟩ | ⟨e1, rfl⟩
    · exact (hnx _ _ _ _ k1).stepH (g_newa (t := .int) (t0 := 0) (hd rfl) (hn rfl) (Or.inl ⟨e1, rfl, rfl, rfl⟩) o1 o2 o3 o4 hsm) (mo_b h 1 _)
    · exact (hnx _ _ _ _ k1).stepH (g_newa (t := .byte) (t0 := 1) (hd rfl) (hn rfl) (Or.inr (Or.inl ⟨e1, rfl, rfl, rfl⟩)) o1 o2 o3 o4 hsm) (mo_b h 1 _)
    · exact (hnx _ _ _ _ k1).stepH (g_newa (t := .boolean) (t0 := 2) (hd rfl) (hn rfl) (Or.inr (Or.inr ⟨e1, rfl, rfl, rfl⟩)) o1 o2 o3 o4 hsm) (mo_b h 1 _)
  case anewarray ix =>
    have ha2 : argB M (.anewarray ix, pc, as, v) = true := ha
    unfold argB at ha2
    simp only [Bool.or_eq_true, Bool.and_eq_true, decide_eq_true_eq] at ha2
    obtain ⟨x, r, rfl, hs⟩ := o1_d (show o1 st (fun x r => ck (decide (0 ≤ x) && (decide (h.2.1 = 0) && (decide (h.1 < 147) && decide (SH h.1 = (as.getD 0 0, x.toNatClampNeg))))) (nx (j + 1) lv (.ref h.1 :: r) (h.1 + 1, h.2.1, h.2.2.1, h.2.2.2))) from hs)
    obtain ⟨ok, hs⟩ := ck_d hs
    simp only [Bool.and_eq_true, decide_eq_true_eq] at ok
    obtain ⟨o1, o2, o3, o4⟩ := ok
    have hsm : x.toNatClampNeg ≤ 100000 := by have := sh_sm h.1; rw [o4] at this; exact this
    rcases ha2 with ⟨e1, t2⟩ | ⟨e1, t2⟩
    · have hw := tb_nc _ (List.mem_map.mpr ⟨_, List.contains_iff_mem.mp t2, rfl⟩)
      unfold ncc at hw
      simp only at hw
      rw [hcn] at hw
      exact (hnx _ _ _ _ hs).stepH (g_newq (C := "WreckCourt$Sheet") (t0 := 3) (hd rfl) (hn rfl) (Or.inl ⟨e1, rfl, rfl⟩) hw o1 o2 o3 o4 hsm) (mo_b h 1 _)
    · have hw := tb_nc _ (List.mem_map.mpr ⟨_, List.contains_iff_mem.mp t2, rfl⟩)
      unfold ncc at hw
      simp only at hw
      rw [hcn] at hw
      exact (hnx _ _ _ _ hs).stepH (g_newq (C := "WreckCourt$Fact") (t0 := 4) (hd rfl) (hn rfl) (Or.inr ⟨e1, rfl, rfl⟩) hw o1 o2 o3 o4 hsm) (mo_b h 1 _)
  case multianewarray ix dm =>
    have ha2 : argB M (.multianewarray ix dm, pc, as, v) = true := ha
    unfold argB at ha2
    simp only [Bool.or_eq_true, Bool.and_eq_true, decide_eq_true_eq] at ha2
    obtain ⟨rfl, t1⟩ := ha2
    obtain ⟨n, k, r, rfl, hs⟩ := o2_d (show o2 st (fun n k r => ck (decide (0 ≤ n) && (decide (0 ≤ k) && (decide (h.2.1 = 0) && (decide (h.1 + n.toNatClampNeg < 147) && (decide (SH h.1 = (25, n.toNatClampNeg)) && (List.range n.toNatClampNeg).all (fun i => decide (SH (h.1 + 1 + i) = (20, k.toNatClampNeg)))))))) (nx (j + 1) lv (.ref h.1 :: r) (h.1 + 1 + n.toNatClampNeg, h.2.1, h.2.2.1, fun q i => if q = h.1 then (if i < n.toNatClampNeg then some (h.1 + 1 + i) else none) else h.2.2.2 q i))) from hs)
    obtain ⟨ok, hs⟩ := ck_d hs
    simp only [Bool.and_eq_true, decide_eq_true_eq, List.all_eq_true, List.mem_range] at ok
    obtain ⟨o1, o2, o3, o4, o5, o6⟩ := ok
    have mo := mo_b h (1 + n.toNatClampNeg) (fun q i => if q = h.1 then (if i < n.toNatClampNeg then some (h.1 + 1 + i) else none) else h.2.2.2 q i)
    rw [show h.1 + (1 + n.toNatClampNeg) = h.1 + 1 + n.toNatClampNeg by omega] at mo
    exact (hnx _ _ _ _ hs).stepH (hmn G d M j lv r h ix n k (hd rfl) (hn rfl) t1 o1 o2 o3 o4 o5 o6) mo
  case ireturn =>
    have hs2 : sp d (.ireturn, pc, as, v) j lv st h nx rt cl := hs
    unfold sp at hs2
    simp only at hs2
    split at hs2
    · obtain ⟨h1, h2⟩ := hrt _ hs2
      exact ⟨_, h, go_ret ⟨_, hf, h1, Or.inl ⟨rfl, _, rfl⟩⟩, h2⟩
    · exact hs2.elim
  case lreturn =>
    have hs2 : sp d (.lreturn, pc, as, v) j lv st h nx rt cl := hs
    unfold sp at hs2
    simp only at hs2
    split at hs2
    · obtain ⟨h1, h2⟩ := hrt _ hs2
      exact ⟨_, h, go_ret ⟨_, hf, h1, Or.inr (Or.inl ⟨rfl, _, rfl⟩)⟩, h2⟩
    · exact hs2.elim
  case return_ =>
    have hs2 : sp d (.return_, pc, as, v) j lv st h nx rt cl := hs
    unfold sp at hs2
    simp only at hs2
    split at hs2
    · obtain ⟨h1, h2⟩ := hrt _ hs2
      exact ⟨_, h, go_ret ⟨_, hf, h1, Or.inr (Or.inr ⟨rfl, rfl⟩)⟩, h2⟩
    · exact hs2.elim
  case invokestatic ix =>
    have ha2 : argB M (.invokestatic ix, pc, as, v) = true := ha
    have hs2 : sp d (.invokestatic ix, pc, as, v) j lv st h nx rt cl := hs
    unfold argB at ha2
    unfold sp at hs2
    simp only at ha2 hs2
    have gen : ∀ (N : Nat) (hNc : calB N (as.getD 2 0) = true) (hNs : SMF.contains N = true) (row : ∀ {vs r : List Value} {r1 : Option Value} {h1 : Hp} {d' : Nat}, d = d' + 1 → vs.length = as.getD 2 0 → (la vs).length ≤ (mt N).2.2.2.2.1 → (r.map Value.category).sum ≤ 8 → Go G d' (mt N) 0 (en (mt N) vs) [] h r1 h1 → StepH G d M j lv (vs.reverse ++ r) h (j + 1) lv (r1.toList ++ r) h1), tk (as.getD 2 0) st (fun vs r => cl N vs (fun v h1 => nx (j + 1) lv (v.toList ++ r) h1)) → wp G d M j lv st h Q := fun N hNc hNs row hk => by
      obtain ⟨vs, r, rfl, hlen, hcat, hk⟩ := tk_d hk
      obtain ⟨d', hd', hla, r1, h1, g, hk⟩ := hcl _ _ _ hk
      exact back g (row hd' hlen hla hcat g) hk
    split at ha2
    · rename_i hk
      simp only [Bool.and_eq_true] at ha2
      obtain ⟨t1, t2, t3⟩ := ha2
      have hw := tb_ml _ (List.mem_map.mpr ⟨_, List.contains_iff_mem.mp t1, rfl⟩)
      unfold mlc at hw
      simp only at hw
      rw [hcn] at hw
      rw [hk] at hs2
      refine gen _ t3 t2 (fun hd' hlen hla hcat g => ?_) hs2
      subst hd'
      exact g_callS (hd rfl) (hn rfl) (chk_m (hMT _ (cal_ok t3).1)) (cal_ok t3).2 hw (tb_sm _ (List.mem_map.mpr ⟨_, List.contains_iff_mem.mp t2, rfl⟩)) hlen hla hcat g
    · rename_i hk
      simp only [Bool.and_eq_true] at ha2
      obtain ⟨t1, t2, t3⟩ := ha2
      rw [hk] at hs2
      refine gen _ t3 t2 (fun hd' hlen hla hcat g => ?_) hs2
      subst hd'
      exact g_callSN (hd rfl) (hn rfl) (chk_m (hMT _ (cal_ok t3).1)) (cal_ok t3).2 (List.contains_iff_mem.mp t1) hcn rfl rfl (tb_sm _ (List.mem_map.mpr ⟨_, List.contains_iff_mem.mp t2, rfl⟩)) hlen hla hcat g
    · rename_i hk
      rw [hk] at hs2
      simp only [Bool.and_eq_true, decide_eq_true_eq] at ha2
      obtain ⟨t1, rfl⟩ := ha2
      simp only at hs2
      split at hs2
      · obtain ⟨ok, hs2⟩ := ck_d hs2
        simp only [Bool.and_eq_true, decide_eq_true_eq] at ok
        obtain ⟨o1, o2, o3, o4, o5, o6, o7, o8, o9⟩ := ok
        exact (hnx _ _ _ _ hs2).stepH (g_copy (hd rfl) (hn rfl) t1 o1 o2 o3 o4 o5 o6 o7 o8 o9) (mo_rf h)
      · exact hs2.elim
    · rename_i hk
      rw [hk] at hs2
      have t1 := ha2
      have hw := tb_ml _ (List.mem_map.mpr ⟨_, List.contains_iff_mem.mp t1, rfl⟩)
      unfold mlc at hw
      simp only at hw
      rw [hcn] at hw
      obtain ⟨x, y, r, rfl, hs2⟩ := o2_d hs2
      obtain ⟨ok, hs2⟩ := ck_d hs2
      simp only [Bool.and_eq_true, decide_eq_true_eq] at ok
      exact (hnx _ _ _ _ hs2).stepH (g_min (hd rfl) (hn rfl) hw ok.1 ok.2) (mo_rf h)
    · rename_i hk
      rw [hk] at hs2
      have t1 := ha2
      have hw := tb_ml _ (List.mem_map.mpr ⟨_, List.contains_iff_mem.mp t1, rfl⟩)
      unfold mlc at hw
      simp only at hw
      rw [hcn] at hw
      obtain ⟨x, y, r, rfl, hs2⟩ := o2_d hs2
      obtain ⟨ok, hs2⟩ := ck_d hs2
      simp only [Bool.and_eq_true, decide_eq_true_eq] at ok
      exact (hnx _ _ _ _ hs2).stepH (g_max (hd rfl) (hn rfl) hw ok.1 ok.2) (mo_rf h)
    · rename_i hk
      rw [hk] at hs2
      have t1 := ha2
      have hw := tb_ml _ (List.mem_map.mpr ⟨_, List.contains_iff_mem.mp t1, rfl⟩)
      unfold mlc at hw
      simp only at hw
      rw [hcn] at hw
      obtain ⟨x, r, rfl, hs2⟩ := o1_d hs2
      obtain ⟨ok, hs2⟩ := ck_d hs2
      simp only [Bool.and_eq_true, decide_eq_true_eq] at ok
      exact (hnx _ _ _ _ hs2).stepH (g_abs (hd rfl) (hn rfl) hw ok.1 ok.2) (mo_rf h)
    · cases ha2
  case invokevirtual ix =>
    have ha2 : argB M (.invokevirtual ix, pc, as, v) = true := ha
    have hs2 : sp d (.invokevirtual ix, pc, as, v) j lv st h nx rt cl := hs
    unfold argB at ha2
    unfold sp at hs2
    simp only at ha2 hs2
    split at ha2
    · rename_i hk
      rw [hk] at hs2
      simp only [Bool.and_eq_true, decide_eq_true_eq] at ha2
      obtain ⟨t1, t2, t3, t4, t5, t6, t7⟩ := ha2
      have hw := tb_ml _ (List.mem_map.mpr ⟨_, List.contains_iff_mem.mp t1, rfl⟩)
      unfold mlc at hw
      simp only at hw
      rw [hcn] at hw
      obtain ⟨vs, r, rfl, hlen, hcat, k0⟩ := tk_d hs2
      obtain ⟨ok, k1⟩ := ck_d k0
      obtain ⟨d', rfl, hla, r1, h1, g, k2⟩ := hcl _ _ _ k1
      cases vs with
      | nil => cases ok
      | cons w vs1 =>
        cases w with
        | ref p0 =>
          refine back g (g_callV (hd rfl) (hn rfl) (chk_m (hMT _ (cal_ok t5).1)) (cal_ok t5).2 hw (tb_im _ (List.mem_map.mpr ⟨_, List.contains_iff_mem.mp t2, rfl⟩)) (tb_sl _ (List.mem_map.mpr ⟨_, List.contains_iff_mem.mp t3, rfl⟩)) (vw_at t6) t7.symm ok rfl ?_ hla hcat g) k2
          rw [List.length_cons] at hlen
          omega
        | _ => cases ok
    · rename_i hk
      rw [hk] at hs2
      simp only [Bool.and_eq_true, decide_eq_true_eq] at ha2
      obtain ⟨t1, rfl⟩ := ha2
      obtain ⟨p, r, rfl, hs2⟩ := oR_d hs2
      obtain ⟨ok, hs2⟩ := ck_d hs2
      simp only [Bool.and_eq_true, decide_eq_true_eq] at ok
      exact (hnx _ _ _ _ hs2).stepH ((hst G d M j lv r h 0 t1).2.1 p ok.2.2.1 ok.2.2.2 ok.1 ok.2.1 (hd rfl) (hn rfl)) (mo_rf h)
    · rename_i hk
      rw [hk] at hs2
      simp only [Bool.and_eq_true, decide_eq_true_eq] at ha2
      obtain ⟨t1, rfl⟩ := ha2
      obtain ⟨i, p, r, rfl, hs2⟩ := oX_d hs2
      obtain ⟨ok, hs2⟩ := ck_d hs2
      obtain ⟨hi, hs2⟩ := ck_d hs2
      simp only [Bool.and_eq_true, decide_eq_true_eq] at ok
      exact (hnx _ _ _ _ hs2).stepH ((hst G d M j lv r h 0 t1).2.2 p i ok.2.2.1 ok.2.2.2 ok.1 ok.2.1 hi (hd rfl) (hn rfl)) (mo_rf h)
    · cases ha2
  case invokespecial ix =>
    have ha2 : argB M (.invokespecial ix, pc, as, v) = true := ha
    have hs2 : sp d (.invokespecial ix, pc, as, v) j lv st h nx rt cl := hs
    unfold argB at ha2
    unfold sp at hs2
    simp only at ha2 hs2
    split at ha2
    · rename_i hk
      rw [hk] at hs2
      simp only [Bool.and_eq_true, decide_eq_true_eq] at ha2
      obtain ⟨t1, t2, t3, t4, t5, t6⟩ := ha2
      have hw := tb_ml _ (List.mem_map.mpr ⟨_, List.contains_iff_mem.mp t1, rfl⟩)
      unfold mlc at hw
      simp only at hw
      rw [hcn] at hw
      obtain ⟨vs, r, rfl, hlen, hcat, k0⟩ := tk_d hs2
      obtain ⟨ok, k1⟩ := ck_d k0
      obtain ⟨d', rfl, hla, r1, h1, g, k2⟩ := hcl _ _ _ k1
      cases vs with
      | nil => cases ok
      | cons w vs1 =>
        cases w with
        | ref p0 =>
          refine back g (g_callI (hd rfl) (hn rfl) (chk_m (hMT _ (cal_ok t4).1)) (cal_ok t4).2 hw (tb_im _ (List.mem_map.mpr ⟨_, List.contains_iff_mem.mp t2, rfl⟩)) t5 t6 rfl ?_ hla hcat g) k2
          rw [List.length_cons] at hlen
          omega
        | _ => cases ok
    · rename_i hk
      rw [hk] at hs2
      simp only [Bool.and_eq_true, decide_eq_true_eq] at ha2
      obtain ⟨t1, t2, t3, t4, t5, t6⟩ := ha2
      obtain ⟨vs, r, rfl, hlen, hcat, k0⟩ := tk_d hs2
      obtain ⟨ok, k1⟩ := ck_d k0
      obtain ⟨d', rfl, hla, r1, h1, g, k2⟩ := hcl _ _ _ k1
      cases vs with
      | nil => cases ok
      | cons w vs1 =>
        cases w with
        | ref p0 =>
          refine back g (g_callIN (hd rfl) (hn rfl) (chk_m (hMT _ (cal_ok t4).1)) (cal_ok t4).2 (List.contains_iff_mem.mp t1) hcn rfl rfl (tb_im _ (List.mem_map.mpr ⟨_, List.contains_iff_mem.mp t2, rfl⟩)) t5 t6 rfl ?_ hla hcat g) k2
          rw [List.length_cons] at hlen
          omega
        | _ => cases ok
    · rename_i hk
      rw [hk] at hs2
      have hw := tb_ol _ (List.mem_map.mpr ⟨_, List.contains_iff_mem.mp ha2, rfl⟩)
      simp only at hw
      rw [hcn] at hw
      obtain ⟨p, r, rfl, hs2⟩ := oR_d hs2
      obtain ⟨ok, hs2⟩ := ck_d hs2
      simp only [Bool.and_eq_true, decide_eq_true_eq] at ok
      exact (hnx _ _ _ _ hs2).stepH (g_obj (hd rfl) (hn rfl) hw ok.1 ok.2) (mo_rf h)
    · cases ha2
  all_goals exact False.elim hs
