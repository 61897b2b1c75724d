/-! A RUN AS A CONTRACT, and calls -/
theorem va_AOA.moved {t : FieldType} {u U : State} (hvm : u.vm.Alike U.vm) (h : va_AOA t u) : va_AOA t U := by
  have e := Cond.arrayOver_setVmC (args := #[]) (s := u) (vm' := U.vm) hvm (.array t)
  have e2 : (Cond.arrayOver (.array t)).before #[] (u.setVm U.vm) = (Cond.arrayOver (.array t)).before #[] U := rfl
  unfold va_AOA
  rw [← e2, e]
  exact h
theorem SK.moved {G : GX} {s U : State} {locs : List Loc} (h : SK G s) (hW : s.WarmedH U.vm) (hS : va_S (GA G) s.heap U.heap locs) : SK G U := by
  obtain ⟨h1, h2, h3, ⟨h4, h5, h6⟩, ⟨h7, h8⟩, ⟨h9, h10⟩, h11, ⟨h12, h13⟩, ⟨h14, h15⟩, ⟨h16, h17⟩, h18, h19, h20, h21⟩ := h
  have hq : ∀ a : Nat, a < s.heap.size → ¬ GA G a → U.heap[a]? = s.heap[a]? := fun a ha hn => hS.2.1 a ha hn
  have hv := hW.alike
  exact ⟨h1.moved hv, h2, Nat.le_trans h3 hS.1, ⟨va_AO.moved hv h4, va_AO.moved hv h5, va_AOA.moved hv h6⟩, ⟨(h7.moved hv).kept hq, (h8.moved hv).kept hq⟩, ⟨(h9.moved hv).kept hq, (h10.moved hv).kept hq⟩, fun q hm => va_Nw.warmM hW (h11 q hm), ⟨va_Nw.warmF hW h12, va_Nw.warmF hW h13⟩, ⟨(h14.moved hv).kept hq, fun q hm => vk_R.warm hW (h15 q hm)⟩, ⟨(h16.moved hv).kept hq, (h17.moved hv).kept hq⟩, (h18.moved hv).kept (hq _ h19 h20), Nat.lt_of_lt_of_le h19 hS.1, h20, h21⟩
theorem SK.same {G : GX} {s U : State} (h : SK G s) (hv : U.vm = s.vm) (hh : U.heap = s.heap) : SK G U := by
  obtain ⟨h1, h2, h3, ⟨h4, h5, h6⟩, ⟨h7, h8⟩, ⟨h9, h10⟩, h11, ⟨h12, h13⟩, ⟨h14, h15⟩, ⟨h16, h17⟩, h18, h19, h20, h21⟩ := h
  have ha : s.vm.Alike U.vm := by rw [hv]; exact Vm.Alike.refl _
  unfold SK
  rw [hh]
  exact ⟨h1.moved ha, h2, h3, ⟨va_AO.moved ha h4, va_AO.moved ha h5, va_AOA.moved ha h6⟩, ⟨h7.moved ha, h8.moved ha⟩, ⟨h9.moved ha, h10.moved ha⟩, fun q hm => va_Nw.same rfl hv.symm (h11 q hm), ⟨va_Nw.same rfl hv.symm h12, va_Nw.same rfl hv.symm h13⟩, ⟨h14.moved ha, fun q hm => vk_R.same hv (h15 q hm)⟩, ⟨h16.moved ha, h17.moved ha⟩, h18.moved ha, h19, h20, h21⟩
def PcO (G : GX) (vs : List Value) (h : Hp) : Array Value → State → Prop := fun a U => a = (vs.map (trv G)).toArray ∧ SK G U ∧ hrH G h U.heap ∧ U.heap.size = G.2.2.2.1 0 + nc h
def QcO (G : GX) (r : Option Value) (h' : Hp) : Array Value → State → Outcome → State → Prop := fun _ st oc t => oc = .returned (r.map (trv G)) ∧ hrH G h' t.heap ∧ va_F (GA G) st t
theorem PcO.blind {G : GX} {vs : List Value} {h : Hp} : FrameBlind (PcO G vs h) := fun a U g mk q => ⟨q.1, q.2.1.same rfl rfl, q.2.2.1, q.2.2.2⟩
theorem sz_eq {G : GX} {h : Hp} {s : State} {H : Heap} {locs : List Loc} (hk : SK G s) (hh : hrH G h H) (hS : va_S (GA G) s.heap H locs) (hb : H.size ≤ G.2.2.2.1 0 + nc h) : H.size = G.2.2.2.1 0 + nc h := by
  have h1 := hS.1
  have h2 := hk.2.2.1
  rcases Nat.eq_zero_or_pos (nc h) with z | z
  · omega
  · obtain ⟨e, he⟩ := ws_addr (i := nc h - 1) hk.2.1 hh.1 (by omega)
    have h3 : G.2.2.2.1 0 + (nc h - 1) < H.size := (hh.2.1 _ _ he).lt
    omega
theorem la_args {G : GX} : ∀ (vs : List Value) (i k : Nat) (v : Value), (la vs)[k]? = some (some v) → (i + k, trv G v) ∈ lv_args i (vs.map (trv G))
  | [], i, k, v, h => by simp [la] at h
  | w :: vs, i, k, v, h => by
    have two : w.category = 2 → (some w :: none :: la vs)[k]? = some (some v) → (i + k, trv G v) ∈ lv_args i ((w :: vs).map (trv G)) := fun hc h => by
      simp only [List.map_cons, lv_args, trv_cat, hc, if_pos]
      match k, h with
      | 0, h => simp at h; subst h; exact List.mem_cons_self
      | 1, h => simp at h
      | k + 2, h =>
        have := la_args (G := G) vs (i + 2) k v h
        rw [show i + (k + 2) = i + 2 + k by omega]
        exact List.mem_cons_of_mem _ this
    have one : ¬ w.category = 2 → (some w :: la vs)[k]? = some (some v) → (i + k, trv G v) ∈ lv_args i ((w :: vs).map (trv G)) := fun hc h => by
      simp only [List.map_cons, lv_args, trv_cat, if_neg hc]
      match k, h with
      | 0, h => simp at h; subst h; exact List.mem_cons_self
      | k + 1, h =>
        have := la_args (G := G) vs (i + 1) k v h
        rw [show i + (k + 1) = i + 1 + k by omega]
        exact List.mem_cons_of_mem _ this
    cases w with
    | long x => exact two rfl h
    | double x => exact two rfl h
    | int x => exact one (by simp [Value.category]) h
    | float x => exact one (by simp [Value.category]) h
    | null => exact one (by simp [Value.category]) h
    | ref x => exact one (by simp [Value.category]) h
    | retAddr x => exact one (by simp [Value.category]) h
theorem la_len {G : GX} : ∀ vs : List Value, (lg_sl (vs.map (trv G))).length = (la vs).length
  | [] => rfl
  | w :: vs => by
    have ih := la_len (G := G) vs
    unfold lg_sl at ih ⊢
    simp only [List.map_cons, List.flatMap_cons, List.length_append, trv_cat]
    rw [ih]
    cases w <;> simp [la, Value.category] <;> omega
theorem en_lvr {G : GX} {M : MR} {vs : List Value} (h : (la vs).length ≤ M.2.2.2.2.1) : lvr G M.2.2.2.2.1 (en M vs) ((lg_sl (vs.map (trv G)) ++ List.replicate (M.2.2.2.2.1 - (lg_sl (vs.map (trv G))).length) Slot.unset).toArray) := by
  have h1 := lv_entry (vs.map (trv G)) (n := M.2.2.2.2.1) (by rw [la_len]; exact h)
  refine ⟨h1.1, h1.2.1, fun i v hv => ?_⟩
  have hv2 : (la vs)[i]? = some (some v) := by
    unfold en at hv
    rcases Nat.lt_or_ge i (la vs).length with q | q
    · rw [List.getElem?_append_left q] at hv
      exact hv
    · rw [List.getElem?_append_right q, List.getElem?_replicate] at hv
      split at hv <;> cases hv
  have := la_args (G := G) vs 0 i v hv2
  rw [Nat.zero_add] at this
  exact h1.2.2 _ this
def rmO (d : Nat) (h h' : Hp) : Room := { frames := d, cells := nc h' - nc h, slots := ns h' - ns h, locals := 40 * d }
/-- what is known of a method that is run -/
def mOK (M : MR) : Prop := plainName M.2.2.2.1.cls = true ∧ pcj M 0 = 0 ∧ (∀ j e, ft M j = some e → (e.1 = .ireturn ∨ e.1 = .lreturn ∨ e.1 = .return_) → decode M.2.2.1 (pcj M j) = .ok (e.1, 1))
theorem Go.met {G : GX} {d : Nat} {M : MR} {vs : List Value} {h h' : Hp} {r : Option Value} (hM : mOK M) (hl : (la vs).length ≤ M.2.2.2.2.1) (g : Go G d M 0 (en M vs) [] h r h') : Met G.1 M.2.2.2.1 (wsM M) (rmO d h h') (PcO G vs h) (QcO G r h') (nc h' - nc h) (ns h' - ns h) (GA G) := by
  refine Met.ofW (cc := M.2.2.1) (maxL := M.2.2.2.2.1) (ret := M.2.2.2.2.2.1) hM.1 rfl ?_
  intro p e s m args below meth c s₁ B hml hv
  obtain ⟨rfl, hsk, hh, hz⟩ := hv
  have hts := atoms_spec (ws := wsM M) B.pre
  have cx : Cx G d M p (headSpec (wsM M) (rmO d h h')).room s m (vs.map (trv G)).toArray meth c := ⟨B.exec, B.bytes, hml, findClass_of_methodNamed B.named, fun w hw => hts w (List.mem_cons_of_mem _ hw), fun hi => by rw [(name_of_methodNamed B.named B.method).1]; exact hi, B.returns, B.notSynchronized, ⟨Nat.le_refl _, Nat.le_refl _⟩, hsk⟩
  obtain ⟨⟨g1, g2⟩, g3⟩ := g
  have hx := cx.1
  have hb := cx.2.1
  have hr := cx.2.2.2.2.2.2.1
  have hlocks := B.notSynchronized
  rw [lg_entry_eq]
  have k := g3 p e (headSpec (wsM M) (rmO d h h')).room s m (vs.map (trv G)).toArray below meth c s.heap [] 0 0 _ (MQ below (QcO G r h') (vs.map (trv G)).toArray s (nc h' - nc h) (ns h' - ns h) (GA G)) cx (en_lvr hl) hh va_S.rf (by omega) (by show 0 + nc h' ≤ (nc h' - nc h) + nc h; omega) (by show 0 + ns h' ≤ (ns h' - ns h) + ns h; omega) ?_
  · rw [hM.2.1] at k
    exact k
  · intro H1 locs1 cells1 slots1 ls1 j1 hrt hh1 hS1 e1 e2
    have ec : cells1 = nc h' - nc h := by omega
    have es : slots1 = ns h' - ns h := by omega
    subst ec
    subst es
    obtain ⟨en, hen, hrb, hcase⟩ := hrt
    have hfree : ∀ q ∈ locs1, GA G q.base := hS1.2.2
    rcases hcase with ⟨h1, x, rfl⟩ | ⟨h1, x, rfl⟩ | ⟨h1, rfl⟩
    · have hd := hM.2.2 j1 en hen (Or.inl h1)
      rw [h1] at hd
      have hq : ∀ t : State, t.heap = H1 → s.WarmedH t.vm → QcO G (some (.int x)) h' (vs.map (trv G)).toArray s (.returned (some (.int x))) t := fun t ht _ => ⟨rfl, by rw [ht]; exact hh1, hS1.F ht⟩
      unfold rtB at hrb
      cases hret : M.2.2.2.2.2.1 with
      | none => rw [hret] at hrb; cases hrb
      | some ty =>
        rw [hret] at hrb hr
        cases ty with
        | int => exact W.iret hx hb hr hq hfree hd
        | boolean =>
          simp only [Bool.or_eq_true, decide_eq_true_eq] at hrb
          exact W.zret hx hb hr (fit_z hrb).1 hq hfree hd
        | _ => cases hrb
    · have hd := hM.2.2 j1 en hen (Or.inr (Or.inl h1))
      rw [h1] at hd
      have hq : ∀ t : State, t.heap = H1 → s.WarmedH t.vm → QcO G (some (.long x)) h' (vs.map (trv G)).toArray s (.returned (some (.long x))) t := fun t ht _ => ⟨rfl, by rw [ht]; exact hh1, hS1.F ht⟩
      unfold rtB at hrb
      cases hret : M.2.2.2.2.2.1 with
      | none => rw [hret] at hrb; cases hrb
      | some ty =>
        rw [hret] at hrb hr
        cases ty with
        | long => exact W.lret hx hb hr hq hfree hd
        | _ => cases hrb
    · have hd := hM.2.2 j1 en hen (Or.inr (Or.inr h1))
      rw [h1] at hd
      have hq : ∀ t : State, t.heap = H1 → s.WarmedH t.vm → QcO G none h' (vs.map (trv G)).toArray s (.returned none) t := fun t ht _ => ⟨rfl, by rw [ht]; exact hh1, hS1.F ht⟩
      unfold rtB at hrb
      cases hret : M.2.2.2.2.2.1 with
      | none =>
        rw [hret] at hr
        exact W.vret hx hb hr hq hfree hd
      | some ty => rw [hret] at hrb; cases ty <;> cases hrb
