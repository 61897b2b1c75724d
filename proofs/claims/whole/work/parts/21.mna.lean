/-! new int[n][k] -/
theorem tb_mn2 : ∀ w ∈ [Cond.classLink "WreckCourt$Sea" 31 "[[I", Cond.classLink "WreckCourt$Vessel" 43 "[[I"], w ∈ LG := in_tab _ [162, 206] (by decide +kernel) (by decide +kernel)
theorem mn_out (c : ClassId) (N h0 : Nat) : ∀ i : Nat, Jvm.Free.Multi.outerC c N h0 i = arrV c N (fun j => va_rf (if j < i then some (h0 + 1 + j) else none))
  | 0 => by
    show ({ cls := c, slots := Array.replicate N .null, vm := .none } : Cell) = _
    rw [arrV_new]
    refine congrArg (arrV c N) (funext fun j => ?_)
    simp [va_rf]
  | i + 1 => by
    show (Jvm.Free.Multi.outerC c N h0 i).setSlot i (.ref (h0 + 1 + i)) = _
    rw [mn_out c N h0 i, arrV_store]
    refine congrArg (arrV c N) (funext fun j => ?_)
    by_cases e : j = i
    · subst e
      simp [updV, va_rf]
    · by_cases h : j < i
      · simp [updV, e, h, Nat.lt_succ_of_lt h]
      · simp [updV, e, h, show ¬ j < i + 1 by omega]
theorem sl_rows {b N K : Nat} (h0 : (SH b).2 = N) (hr : ∀ i, i < N → (SH (b + 1 + i)).2 = K) : ∀ t, t ≤ N → slN (b + 1 + t) = slN b + N + t * K
  | 0, _ => by show slN b + (SH b).2 = _; rw [h0]; omega
  | t + 1, ht => by
    have ih := sl_rows h0 hr t (by omega)
    show slN (b + 1 + t) + (SH (b + 1 + t)).2 = _
    rw [ih, hr t (by omega), Nat.succ_mul]
    omega
set_option maxHeartbeats 4000000 in
theorem mna_ok : MnaOK := by
  intro G d M j lv r0 h ix n k hd hn hcls hn0 hk0 hf hb hsh hrow
  intro p e R s m args below meth c H locs cells slots ls Z cx hl hh hS hc0 hc1 hc2 K
  have hs20 : ∀ i, i < n.toNatClampNeg → (SH (h.1 + 1 + i)).2 = k.toNatClampNeg := fun i hi => by rw [hrow i hi]
  have hns := sl_rows (b := h.1) (by rw [hsh]) hs20 n.toNatClampNeg (Nat.le_refl _)
  have hnk : n.toNatClampNeg ≤ 147 := by omega
  have hkk : 0 < n.toNatClampNeg → k.toNatClampNeg ≤ 100000 := fun z => by have := sh_sm (h.1 + 1 + 0); rw [hs20 0 z] at this; exact this
  refine W.bound (fun hbnd => ?_)
  have hz := sz_eq cx.sk hh hS (by omega)
  have hnc : nc h = h.1 := by unfold nc; omega
  have en : nc (h.1 + 1 + n.toNatClampNeg, h.2.1, h.2.2.1, fun q i => if q = h.1 then (if i < n.toNatClampNeg then some (h.1 + 1 + i) else none) else h.2.2.2 q i) = nc h + 1 + n.toNatClampNeg := by unfold nc; show h.1 + 1 + n.toNatClampNeg + h.2.1 = _; omega
  have es : ns (h.1 + 1 + n.toNatClampNeg, h.2.1, h.2.2.1, fun q i => if q = h.1 then (if i < n.toNatClampNeg then some (h.1 + 1 + i) else none) else h.2.2.2 q i) = ns h + n.toNatClampNeg + n.toNatClampNeg * k.toNatClampNeg := by unfold ns; show slN (h.1 + 1 + n.toNatClampNeg) + 9 * h.2.1 = _; rw [hns]; omega
  rw [en] at hc1
  rw [es] at hc2
  have hw : Cond.classLink M.2.2.2.1.cls ix "[[I" ∈ LG := by
    rcases hcls with ⟨z1, z2⟩ | ⟨z1, z2⟩
    · rw [z1, z2]; exact tb_mn2 _ List.mem_cons_self
    · rw [z1, z2]; exact tb_mn2 _ (List.mem_cons_of_mem _ List.mem_cons_self)
  intro T hT X
  by_cases hzero : n.toNatClampNeg = 0 ∧ 100000 < k.toNatClampNeg
  · exact absurd hsh (by
      have h25 : SHL.all (fun q => !(q.1 == 25) || decide (0 < q.2)) = true := by decide +kernel
      intro z
      have hm : SH h.1 ∈ SHL := by
        unfold SH
        rw [List.getD_eq_getElem?_getD, List.getElem?_eq_getElem (by rw [SHlen]; omega)]
        exact List.getElem_mem _
      have := List.all_eq_true.mp h25 _ hm
      rw [z, hzero.1] at this
      simp at this)
  have hk100 : k.toNatClampNeg ≤ 100000 := by
    rcases Nat.eq_zero_or_pos n.toNatClampNeg with z | z
    · omega
    · exact hkk z
  obtain ⟨vm₁, cA, comp, hW1, fA, fC, hO, hI, X', step⟩ := X.multianewarray2F cx.1 (ty := .int) (n := n) (k := k) (rest := r0.map (trv G)) cx.own (cx.ws _ hw) (cx.sk.2.2.2.1.2.2) (cx.ws _ (tb_ac _ List.mem_cons_self)) (g := F0 m (pcj M j) ls ((.int k :: .int n :: r0).map (trv G))) rfl (by rw [cx.2.1]; exact hd) rfl (Int32.not_lt.mpr hn0) (Int32.not_lt.mpr hk0) (by omega) (by show k.toNatClampNeg * 4 ≤ _; omega) (by omega) rfl rfl (by omega) (by omega)
  have ecA : cA = G.2.2.1 25 := Option.some.inj (fA.symm.trans (cx.sk.1.2 5 (G.2.2.1 25, .array .int) rfl).2)
  have ecO : comp = G.2.2.1 20 := Option.some.inj (fC.symm.trans (cx.sk.1.2 0 (G.2.2.1 20, .int) rfl).2)
  subst ecA
  subst ecO
  generalize hF : Jvm.Free.Multi.fill (T.setVm vm₁) (G.2.2.1 25) (G.2.2.1 20) n.toNatClampNeg k.toNatClampNeg (defaultValue .int) n.toNatClampNeg = F at X' step
  have hTh : (T.setVm vm₁).heap = H := hT
  obtain ⟨f1, f2, -, -⟩ := Jvm.Free.Multi.fill_facts (T.setVm vm₁) (G.2.2.1 25) (G.2.2.1 20) n.toNatClampNeg k.toNatClampNeg (defaultValue .int) n.toNatClampNeg
  rw [hF, hTh] at f1 f2
  have hold : ∀ x : Nat, x < H.size → F.heap[x]? = H[x]? := fun x hx => by
    have := Jvm.Free.Multi.fill_old (T.setVm vm₁) (G.2.2.1 25) (G.2.2.1 20) n.toNatClampNeg k.toNatClampNeg (defaultValue .int) (a := x) (by rw [hTh]; exact hx) n.toNatClampNeg
    rw [hF, hTh] at this
    exact this
  have hin : ∀ t : Nat, t < n.toNatClampNeg → F.heap[H.size + 1 + t]? = some (Jvm.Free.Multi.innerC (G.2.2.1 20) k.toNatClampNeg (defaultValue .int)) := fun t ht => by
    have := Jvm.Free.Multi.fill_inner (T.setVm vm₁) (G.2.2.1 25) (G.2.2.1 20) n.toNatClampNeg k.toNatClampNeg (defaultValue .int) n.toNatClampNeg t ht
    rw [hF, hTh] at this
    exact this
  rw [mn_out] at f2
  have had : ∀ q, q < 1000 → G.2.2.2.1 q = G.2.2.2.1 0 + q := fun q hq => (cx.sk.2.1 q).1 hq
  have hh1 : hrH G (h.1 + 1 + n.toNatClampNeg, h.2.1, h.2.2.1, fun q i => if q = h.1 then (if i < n.toNatClampNeg then some (h.1 + 1 + i) else none) else h.2.2.2 q i) F.heap := by
    refine ⟨⟨by show h.1 + 1 + n.toNatClampNeg ≤ 147; omega, Or.inl hf, hh.1.2.2⟩, fun i q hq => ?_, fun q i hq hq100 => ?_, hh.2.2.2.1, hh.2.2.2.2⟩
    · obtain ⟨a, ha, rfl⟩ := wsO_of hq
      have hal := (pls_al ha).1
      have ha2 : a < h.1 + 1 + n.toNatClampNeg := by
        rcases hal with z | ⟨z1, z2⟩
        · exact z
        · have z3 : a < 1000 + h.2.1 := z2
          omega
      rcases Nat.lt_trichotomy a h.1 with z | z | z
      · have ce : cellO G (h.1 + 1 + n.toNatClampNeg, h.2.1, h.2.2.1, fun q i => if q = h.1 then (if i < n.toNatClampNeg then some (h.1 + 1 + i) else none) else h.2.2.2 q i) a = cellO G h a := cell_ne (p := h.1) (by omega) (fun _ _ => rfl) (fun w hw => funext fun i => if_neg hw)
        rw [ce]
        have h1 := hh.2.1 _ _ (wsO_at (G := G) hh.1 (Or.inl z : al h a))
        exact h1.kept (hold _ h1.lt)
      · subst z
        rw [cell_q (by rw [hsh]; show ¬ 25 < 23; omega), hsh]
        show F.heap[G.2.2.2.1 h.1]? = some (vp_cell _ _)
        have e0 : G.2.2.2.1 h.1 = H.size := by rw [had h.1 (by omega), hz, hnc]
        rw [e0, f2, vp_cell_q]
        refine congrArg (fun f => some (arrV (G.2.2.1 25) n.toNatClampNeg f)) (funext fun t => ?_)
        show va_rf (if t < n.toNatClampNeg then some (H.size + 1 + t) else none) = va_rf ((if h.1 = h.1 then (if t < n.toNatClampNeg then some (h.1 + 1 + t) else none) else h.2.2.2 h.1 t).map G.2.2.2.1)
        rw [if_pos rfl]
        by_cases ht : t < n.toNatClampNeg
        · rw [if_pos ht, if_pos ht]
          show va_rf (some (H.size + 1 + t)) = va_rf (some (G.2.2.2.1 (h.1 + 1 + t)))
          rw [had (h.1 + 1 + t) (by omega), hz, hnc]
          congr 2
          omega
        · rw [if_neg ht, if_neg ht]
          rfl
      · obtain ⟨t, rfl⟩ : ∃ t, a = h.1 + 1 + t := ⟨a - h.1 - 1, by omega⟩
        have ht : t < n.toNatClampNeg := by omega
        have hnal : ¬ al h (h.1 + 1 + t) := by unfold al; omega
        rw [cell_i (by rw [hrow t ht]; show ¬ 20 < 20; omega) (by rw [hrow t ht]; show 20 < 23; omega), hrow t ht]
        show F.heap[G.2.2.2.1 (h.1 + 1 + t)]? = some (vp_cell _ _)
        rw [had (h.1 + 1 + t) (by omega), show G.2.2.2.1 0 + (h.1 + 1 + t) = H.size + 1 + t by omega, hin t ht, vp_cell_i]
        have h0 : h.2.2.1 (h.1 + 1 + t) = fun _ => 0 := z_fun (fun i => (hh.2.2.1 (h.1 + 1 + t) i hnal (by omega)).1)
        show some ({ cls := G.2.2.1 20, slots := Array.replicate k.toNatClampNeg (.int 0), vm := .none } : Cell) = _
        rw [arrV_new, h0]
    · have hne : q ≠ h.1 := fun z => hq (Or.inl (by rw [z]; show h.1 < h.1 + 1 + n.toNatClampNeg; omega))
      have hq1 : ¬ al h q := fun z => hq (by
        rcases z with z | z
        · exact Or.inl (by show q < h.1 + 1 + n.toNatClampNeg; omega)
        · exact Or.inr z)
      have := hh.2.2.1 q i hq1 hq100
      exact ⟨this.1, by show (if q = h.1 then _ else _) = _; rw [if_neg hne]; exact this.2⟩
  have hS1 : va_S (GA G) s.heap F.heap locs := ⟨by rw [f1]; have := hS.1; omega, fun x h1 h2 => (hold x (Nat.lt_of_lt_of_le h1 hS.1)).trans (hS.2.1 x h1 h2), hS.2.2⟩
  obtain ⟨t, a1, b1⟩ := K F.heap locs (cells + 1 + n.toNatClampNeg) (slots + n.toNatClampNeg + n.toNatClampNeg * k.toNatClampNeg) ls hl hh1 hS1 (by rw [en]; omega) (by rw [es]; omega) F rfl X'
  refine ⟨t, step t ?_, b1⟩
  have e1 : T.heap.size = G.2.2.2.1 h.1 := by rw [hT, hz, had h.1 (by omega), hnc]
  rw [e1]
  rw [hn] at a1
  exact a1
