/-! A RUN: from an entry of a method to a return of it, from a heap to a heap, at every state of the machine that holds the first -/
def wsM (M : MR) : List Cond := Cond.code M.2.2.2.1 M.2.2.1 M.2.2.2.2.1 M.2.2.2.2.2.1 :: LG
def va_AOA (t : FieldType) (U : State) : Prop := (Cond.arrayOver (.array t)).before #[] U = true
/-- what stays as it was at the law's start: the classes, the arrays' classes, the two constant arrays -/
def SK (G : GX) (s : State) : Prop :=
  va_K G.2.1 vwCl (tyO G) s ∧ adO G ∧ G.2.2.2.1 0 ≤ s.heap.size ∧ (va_AO "WreckCourt$Sheet" s ∧ va_AO "WreckCourt$Fact" s ∧ va_AOA .int s) ∧
  (va_Z "WreckCourt" "COURSE_X" "[I" (.ref (G.2.2.2.1 100100)) (GA G) s s.heap ∧ va_T .int (G.2.2.2.1 100100) 16 (fun i => .int (kA 100100 i)) (GA G) s s.heap) ∧
  (va_Z "WreckCourt" "COURSE_Y" "[I" (.ref (G.2.2.2.1 100101)) (GA G) s s.heap ∧ va_T .int (G.2.2.2.1 100101) 16 (fun i => .int (kA 100101 i)) (GA G) s s.heap) ∧
  (∀ q ∈ MNF, va_Nw (.methodLinkNest (ONL.getD q.1 "") q.2.1 (mt q.2.2).2.2.2.1 "WreckCourt") s) ∧
  (va_Nw (.fieldLinkNest "WreckCourt$Sea" 97 "WreckCourt" "COURSE_X" "[I" "WreckCourt") s ∧ va_Nw (.fieldLinkNest "WreckCourt$Sea" 100 "WreckCourt" "COURSE_Y" "[I" "WreckCourt") s) ∧
  (vk_S 16 (stL.map List.length) stL (fun i => G.2.2.2.1 (100000 + i)) (fun i => G.2.2.2.1 (100200 + i)) (GA G) s s.heap ∧ ∀ q ∈ stI, vk_R "WreckCourt$Reader" q.1 q.2.1 (G.2.2.2.1 (100000 + q.2.2)) s) ∧
  (va_Z "java/lang/String" "COMPACT_STRINGS" "Z" (.int 1) (GA G) s s.heap ∧ va_Zq "jdk/internal/util/Preconditions" "SIOOBE_FORMATTER" "Ljava/util/function/BiFunction;" (GA G) s s.heap) ∧
  (va_X (G.2.2.2.1 100300) G.2.2.2.2.1 G.2.2.2.2.2 s s.heap ∧ G.2.2.2.1 100300 < s.heap.size ∧ ¬ GA G (G.2.2.2.1 100300) ∧ G.2.2.2.2.1 < 2 ^ 31)
def Cx (G : GX) (d : Nat) (M : MR) (p : Program) (R : Room) (s : State) (m : MethodId) (args : Array Value) (meth : Method) (c : Code) : Prop :=
  p.tables.exec = Jvm.exec ∧ c.code = M.2.2.1 ∧ c.maxLocals = M.2.2.2.2.1 ∧ s.vm.findClass M.2.2.2.1.cls = some m.cls ∧ (∀ w ∈ LG, w.before args s = true) ∧ (M.2.2.2.1.name = "<init>" → meth.name = "<init>") ∧ meth.sig.returnType = M.2.2.2.2.2.1 ∧ meth.locks = false ∧ (d ≤ R.frames ∧ 40 * d ≤ R.locals) ∧ SK G s
def lvr (G : GX) (nL : Nat) (lv : Lc) (ls : Array Slot) : Prop := ls.size = nL ∧ lv_wf ls ∧ ∀ (i : Nat) (v : Value), lv[i]? = some (some v) → ls[i]? = some (.val (trv G v))
def nc (h : Hp) : Nat := h.1 + h.2.1
def slN : Nat → Nat
  | 0 => 0
  | n + 1 => slN n + (SH n).2
def ns (h : Hp) : Nat := slN h.1 + 9 * h.2.1
/-- what a method may give back, by its head -/
def rtB (M : MR) (v : Option Value) : Bool := match M.2.2.2.2.2.1, v with
  | some .int, some (.int _) => true
  | some .boolean, some (.int x) => decide (x = 0) || decide (x = 1)
  | some .long, some (.long _) => true
  | none, none => true
  | _, _ => false
def rtA (M : MR) (j : Nat) (r : Option Value) : Prop := ∃ e, ft M j = some e ∧ rtB M r = true ∧ ((e.1 = .ireturn ∧ ∃ x, r = some (.int x)) ∨ (e.1 = .lreturn ∧ ∃ x, r = some (.long x)) ∨ (e.1 = .return_ ∧ r = none))
def Go (G : GX) (d : Nat) (M : MR) (j : Nat) (lv : Lc) (st : List Value) (h : Hp) (r : Option Value) (h' : Hp) : Prop :=
  (nc h ≤ nc h' ∧ ns h ≤ ns h') ∧
  ∀ (p : Program) (e : Env) (R : Room) (s : State) (m : MethodId) (args : Array Value) (below : List Frame) (meth : Method) (c : Code) (H : Heap) (locs : List Loc) (cells slots : Nat) (ls : Array Slot) (Z : State → Prop),
    Cx G d M p R s m args meth c → lvr G M.2.2.2.2.1 lv ls → hrH G h H → va_S (GA G) s.heap H locs → s.heap.size + cells = G.2.2.2.1 0 + nc h → cells + nc h' ≤ R.cells + nc h → slots + ns h' ≤ R.slots + ns h →
    (∀ (H1 : Heap) (locs1 : List Loc) (cells1 slots1 : Nat) (ls1 : Array Slot) (j1 : Nat), rtA M j1 r → hrH G h' H1 → va_S (GA G) s.heap H1 locs1 → cells1 + nc h = cells + nc h' → slots1 + ns h = slots + ns h' →
      W p G.1 e R s m args below meth c H1 locs1 cells1 slots1 Z (F0 m (pcj M j1) ls1 (r.map (trv G)).toList)) →
    W p G.1 e R s m args below meth c H locs cells slots Z (F0 m (pcj M j) ls (st.map (trv G)))
def wp (G : GX) (d : Nat) (M : MR) (j : Nat) (lv : Lc) (st : List Value) (h : Hp) (Q : Option Value → Hp → Prop) : Prop := ∃ r h', Go G d M j lv st h r h' ∧ Q r h'
def vc (G : GX) (sl : List (Nat × Nat × List Nat)) (il : List Nat) : Nat → Nat → MR → Nat → Lc → List Value → Hp → (Option Value → Hp → Prop) → Prop
  | 0, d, M, j, lv, st, h, Q => wp G d M j lv st h Q
  | k + 1, d, M, j, lv, st, h, Q => match ft M j with
    | none => False
    | some e => sp d e j lv st h
        (fun j' lv' st' h' => match sl.find? (fun q => q.1 == M.1 && q.2.1 == j') with
          | some q => wp G d M j' (msk q.2.2 0 lv') st' h' Q
          | none => vc G sl il k d M j' lv' st' h' Q)
        (fun v => ck (rtB M v) (Q v h))
        (fun i vs K => match d with
          | 0 => False
          | d' + 1 => ck (useB i && decide ((la vs).length ≤ (mt i).2.2.2.2.1)) (match il.contains i with
            | true => vc G sl il k d' (mt i) 0 (en (mt i) vs) [] h K
            | false => match il.contains (1000 + i), (mt i).2.2.2.2.2.1 with
              | true, _ => wp G d' (mt i) 0 (en (mt i) vs) [] h K
              | false, none => wp G d' (mt i) 0 (en (mt i) vs) [] h (fun v h1 => ∃ I' : Nat → Nat → Int32, v = none ∧ h1 = (h.1, h.2.1, I', h.2.2.2) ∧ K none (h.1, h.2.1, I', h.2.2.2))
              | false, some .long => wp G d' (mt i) 0 (en (mt i) vs) [] h (fun v h1 => ∃ (x : Int64) (I' : Nat → Nat → Int32), v = some (.long x) ∧ h1 = (h.1, h.2.1, I', h.2.2.2) ∧ K (some (.long x)) (h.1, h.2.1, I', h.2.2.2))
              | false, some _ => wp G d' (mt i) 0 (en (mt i) vs) [] h (fun v h1 => ∃ (x : Int32) (I' : Nat → Nat → Int32), v = some (.int x) ∧ h1 = (h.1, h.2.1, I', h.2.2.2) ∧ K (some (.int x)) (h.1, h.2.1, I', h.2.2.2))))
/-- a step that leaves the heap as it is -/
def StepR (G : GX) (d : Nat) (M : MR) (j : Nat) (lv : Lc) (st : List Value) (j' : Nat) (lv' : Lc) (st' : List Value) : Prop :=
  ∀ (p : Program) (e : Env) (R : Room) (s : State) (m : MethodId) (args : Array Value) (below : List Frame) (meth : Method) (c : Code) (H : Heap) (locs : List Loc) (cells slots : Nat) (ls : Array Slot) (Z : State → Prop),
    Cx G d M p R s m args meth c → lvr G M.2.2.2.2.1 lv ls →
    (∀ ls' : Array Slot, lvr G M.2.2.2.2.1 lv' ls' → W p G.1 e R s m args below meth c H locs cells slots Z (F0 m (pcj M j') ls' (st'.map (trv G)))) →
    W p G.1 e R s m args below meth c H locs cells slots Z (F0 m (pcj M j) ls (st.map (trv G)))
theorem Go.step {G : GX} {d : Nat} {M : MR} {j j' : Nat} {lv lv' : Lc} {st st' : List Value} {h h' : Hp} {r : Option Value} (row : StepR G d M j lv st j' lv' st') (k : Go G d M j' lv' st' h r h') : Go G d M j lv st h r h' :=
  ⟨k.1, fun p e R s m args below meth c H locs cells slots ls Z cx hl hh hS hc0 hc1 hc2 K => row p e R s m args below meth c H locs cells slots ls Z cx hl (fun ls' hl' => k.2 p e R s m args below meth c H locs cells slots ls' Z cx hl' hh hS hc0 hc1 hc2 K)⟩
theorem trv_cat (G : GX) (v : Value) : (trv G v).category = v.category := by cases v <;> rfl
def lst (G : GX) (lv : Lc) : List (Nat × Value) := (List.range lv.length).filterMap (fun i => match lv[i]? with
  | some (some v) => some (i, trv G v)
  | _ => none)
theorem lst_in {G : GX} {lv : Lc} {i : Nat} {v : Value} (h : lv[i]? = some (some v)) : (i, trv G v) ∈ lst G lv := by
  refine List.mem_filterMap.mpr ⟨i, List.mem_range.mpr (List.getElem?_eq_some_iff.mp h).1, ?_⟩
  rw [h]
theorem lst_of {G : GX} {lv : Lc} {q : Nat × Value} (h : q ∈ lst G lv) : ∃ v, lv[q.1]? = some (some v) ∧ q.2 = trv G v := by
  obtain ⟨i, -, hi⟩ := List.mem_filterMap.mp h
  cases hv : lv[i]? with
  | none => rw [hv] at hi; cases hi
  | some o =>
    cases o with
    | none => rw [hv] at hi; cases hi
    | some v =>
      rw [hv] at hi
      have := Option.some.inj hi
      subst this
      exact ⟨v, hv, rfl⟩
theorem lvr.has {G : GX} {nL : Nat} {lv : Lc} {ls : Array Slot} (h : lvr G nL lv ls) : lv_has ls nL (lst G lv) := by
  refine ⟨h.1, h.2.1, fun q hq => ?_⟩
  obtain ⟨v, h1, h2⟩ := lst_of hq
  rw [h2]
  exact h.2.2 _ _ h1
theorem clr_of {lv : Lc} {i k : Nat} {v : Value} (h : (clr lv i)[k]? = some (some v)) : lv[k]? = some (some v) ∧ ¬ (k + 1 = i ∧ v.category = 2) := by
  cases i with
  | zero => exact ⟨h, fun z => by omega⟩
  | succ i =>
    unfold clr at h
    simp only at h
    cases hv : lv[i]? with
    | none =>
      rw [hv] at h
      refine ⟨h, fun z => ?_⟩
      have : k = i := by omega
      subst this
      rw [hv] at h
      cases h
    | some o =>
      cases o with
      | none =>
        rw [hv] at h
        refine ⟨h, fun z => ?_⟩
        have : k = i := by omega
        subst this
        rw [hv] at h
        cases h
      | some w =>
        rw [hv] at h
        simp only at h
        split at h
        · rw [List.getElem?_set] at h
          by_cases e : i = k
          · rw [if_pos e] at h
            split at h <;> cases h
          · rw [if_neg e] at h
            exact ⟨h, fun z => e (by omega)⟩
        · rename_i hc
          refine ⟨h, fun z => ?_⟩
          have : k = i := by omega
          subst this
          rw [hv] at h
          cases h
          exact hc z.2
theorem lvr.st1 {G : GX} {nL : Nat} {lv : Lc} {ls' : Array Slot} {i : Nat} {v : Value} (h : lv_has ls' nL ((i, trv G v) :: (lst G lv).filter (fun q => !(q.1 == i) && !(q.1 + 1 == i && q.2.category == 2)))) : lvr G nL (st1 lv i v) ls' := by
  refine ⟨h.1, h.2.1, fun k w hk => ?_⟩
  unfold _root_.Jvm.Pilot.CWreckCourtLaw_law_r7990_4df1d7.st1 at hk
  rw [List.getElem?_set] at hk
  by_cases e : i = k
  · rw [if_pos e] at hk
    split at hk
    · cases hk
      subst e
      exact h.2.2 (i, trv G v) List.mem_cons_self
    · cases hk
  · rw [if_neg e] at hk
    obtain ⟨h1, h2⟩ := clr_of hk
    refine h.2.2 (k, trv G w) (List.mem_cons_of_mem _ (List.mem_filter.mpr ⟨lst_in h1, ?_⟩))
    simp only [Bool.and_eq_true, Bool.not_eq_true', beq_eq_false_iff_ne, ne_eq, Bool.and_eq_false_iff, trv_cat]
    refine ⟨fun z => e z.symm, ?_⟩
    by_cases z : k + 1 = i
    · exact Or.inr (fun y => h2 ⟨z, y⟩)
    · exact Or.inl z
theorem lvr.st2 {G : GX} {nL : Nat} {lv : Lc} {ls' : Array Slot} {i : Nat} {v : Value} (h : lv_has ls' nL ((i, trv G v) :: (lst G lv).filter (fun q => !(q.1 == i) && (!(q.1 == i + 1) && !(q.1 + 1 == i && q.2.category == 2))))) : lvr G nL (st2 lv i v) ls' := by
  refine ⟨h.1, h.2.1, fun k w hk => ?_⟩
  unfold _root_.Jvm.Pilot.CWreckCourtLaw_law_r7990_4df1d7.st2 at hk
  rw [List.getElem?_set] at hk
  by_cases e2 : i + 1 = k
  · rw [if_pos e2] at hk
    split at hk <;> cases hk
  · rw [if_neg e2, List.getElem?_set] at hk
    by_cases e : i = k
    · rw [if_pos e] at hk
      split at hk
      · cases hk
        subst e
        exact h.2.2 (i, trv G v) List.mem_cons_self
      · cases hk
    · rw [if_neg e] at hk
      obtain ⟨h1, h2⟩ := clr_of hk
      refine h.2.2 (k, trv G w) (List.mem_cons_of_mem _ (List.mem_filter.mpr ⟨lst_in h1, ?_⟩))
      simp only [Bool.and_eq_true, Bool.not_eq_true', beq_eq_false_iff_ne, ne_eq, Bool.and_eq_false_iff, trv_cat]
      refine ⟨fun z => e z.symm, fun z => e2 z.symm, ?_⟩
      by_cases z : k + 1 = i
      · exact Or.inr (fun y => h2 ⟨z, y⟩)
      · exact Or.inl z
theorem msk_of {live : List Nat} : ∀ (lv : Lc) (i k : Nat) (v : Value), (msk live i lv)[k]? = some (some v) → lv[k]? = some (some v)
  | [], i, k, v, h => by simp [msk] at h
  | o :: lv, i, 0, v, h => by
    simp only [msk, List.getElem?_cons_zero, Option.some.injEq] at h ⊢
    split at h
    · exact h
    · cases h
  | o :: lv, i, k + 1, v, h => by
    simp only [msk, List.getElem?_cons_succ] at h ⊢
    exact msk_of lv (i + 1) k v h
theorem Go.msk {G : GX} {d : Nat} {M : MR} {j i : Nat} {live : List Nat} {lv : Lc} {st : List Value} {h h' : Hp} {r : Option Value} (k : Go G d M j (msk live i lv) st h r h') : Go G d M j lv st h r h' :=
  ⟨k.1, fun p e R s m args below meth c H locs cells slots ls Z cx hl hh hS hc0 hc1 hc2 K => k.2 p e R s m args below meth c H locs cells slots ls Z cx ⟨hl.1, hl.2.1, fun i v hv => hl.2.2 i v (msk_of _ _ _ _ hv)⟩ hh hS hc0 hc1 hc2 K⟩
