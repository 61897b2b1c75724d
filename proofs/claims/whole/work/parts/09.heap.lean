/-! ROWS of entries that read or change the heap -/
theorem vw_0 : ∀ (ci : Nat) (q : vw_C), vwCl[ci]? = some q → ∀ w ∈ u_ws q.1 q.2.1 q.2.2, w ∈ LG := by
  intro ci q h
  match ci, h with
  | 0, h => cases h; exact tb_lay0
  | 1, h => cases h; exact tb_lay1
  | 2, h => cases h; exact tb_lay2
  | 3, h => cases h; exact tb_lay3
  | 4, h => cases h; exact tb_lay4
  | 5, h => cases h; exact tb_lay5
  | 6, h => cases h; exact tb_lay6
  | 7, h => cases h; exact tb_lay7
  | 8, h => cases h; exact tb_lay8
  | 9, h => cases h; exact tb_lay9
  | 10, h => cases h; exact tb_lay10
  | 11, h => cases h; exact tb_lay11
  | k + 12, h => simp [vwCl] at h
def tyc (ci : Nat) : Nat → FieldType := match ci with
  | 0 => tyX0 | 1 => tyX1 | 2 => tyX2 | 3 => tyX3 | 4 => tyX4 | 5 => tyX5 | 6 => tyX6 | 7 => tyX7 | 8 => tyX8 | 9 => tyX9 | 10 => tyX10 | _ => tyX11
theorem vw_t : ∀ (ci : Nat) (q : vw_C), vwCl[ci]? = some q → (∀ k, k < q.2.2 → parseFieldDescriptor (q.2.1 k).2.2.1 = some (tyc ci k)) ∧ (∀ a, a < q.2.2 → ∀ b, b < q.2.2 → a ≠ b → (q.2.1 a).2.1 ≠ (q.2.1 b).2.1) := by
  intro ci q h
  match ci, h with
  | 0, h => cases h; exact ⟨tyX0_ok, nmX0⟩
  | 1, h => cases h; exact ⟨tyX1_ok, nmX1⟩
  | 2, h => cases h; exact ⟨tyX2_ok, nmX2⟩
  | 3, h => cases h; exact ⟨tyX3_ok, nmX3⟩
  | 4, h => cases h; exact ⟨tyX4_ok, nmX4⟩
  | 5, h => cases h; exact ⟨tyX5_ok, nmX5⟩
  | 6, h => cases h; exact ⟨tyX6_ok, nmX6⟩
  | 7, h => cases h; exact ⟨tyX7_ok, nmX7⟩
  | 8, h => cases h; exact ⟨tyX8_ok, nmX8⟩
  | 9, h => cases h; exact ⟨tyX9_ok, nmX9⟩
  | 10, h => cases h; exact ⟨tyX10_ok, nmX10⟩
  | 11, h => cases h; exact ⟨tyX11_ok, nmX11⟩
  | k + 12, h => simp [vwCl] at h
/-- a field's type, as the machine's own kinds of it say -/
def fkO (ci k : Nat) : Bool := match kr ci k, (KZL.getD ci []).getD k false with
  | true, _ => (tyc ci k).isReference
  | false, true => decide (tyc ci k = .boolean)
  | false, false => decide (tyc ci k = .int)
theorem fk_all : (List.range 12).all (fun ci => (List.range (vwCl.getD ci ("", fun _ => ("", "", "", false), 0)).2.2).all (fun k => fkO ci k)) = true := by decide +kernel
theorem vw_len : vwCl.length = 12 := rfl
theorem fk_at {ci k : Nat} {q : vw_C} (h : vwCl[ci]? = some q) (hk : k < q.2.2) : fkO ci k = true := by
  have h1 := List.all_eq_true.mp fk_all ci (List.mem_range.mpr (by have := (List.getElem?_eq_some_iff.mp h).1; rw [vw_len] at this; exact this))
  refine List.all_eq_true.mp h1 k (List.mem_range.mpr ?_)
  rw [List.getD_eq_getElem?_getD, h]
  exact hk
theorem fit_r {t : FieldType} (a : Nat) (h : t.isReference = true) : narrow t (.ref a) = .ref a ∧ fits t (.ref a) = true := by
  cases t <;> first | exact ⟨rfl, rfl⟩ | (simp [FieldType.isReference] at h)
theorem fit_i (x : Int32) : narrow .int (.int x) = .int x ∧ fits .int (.int x) = true := ⟨rfl, rfl⟩
theorem fit_z {x : Int32} (h : x = 0 ∨ x = 1) : narrow .boolean (.int x) = .int x ∧ fits .boolean (.int x) = true := by
  rcases h with rfl | rfl <;> exact ⟨by decide +kernel, by decide +kernel⟩
theorem fit_ik {ci k : Nat} {q : vw_C} {x : Int32} (h : vwCl[ci]? = some q) (hk : k < q.2.2) (hr : kr ci k = false) (hz : kz ci k x = true) : narrow (tyc ci k) (.int x) = .int x ∧ fits (tyc ci k) (.int x) = true := by
  have h1 := fk_at h hk
  unfold fkO at h1
  unfold kz at hz
  rw [hr] at h1
  cases hb : (KZL.getD ci []).getD k false with
  | true =>
    rw [hb] at h1 hz
    simp only [decide_eq_true_eq, Bool.or_eq_true] at h1 hz
    rw [h1]
    exact fit_z hz
  | false =>
    rw [hb] at h1
    simp only [decide_eq_true_eq] at h1
    rw [h1]
    exact fit_i x
theorem fit_rk {ci k : Nat} {q : vw_C} {a : Nat} (h : vwCl[ci]? = some q) (hk : k < q.2.2) (hr : kr ci k = true) : narrow (tyc ci k) (.ref a) = .ref a ∧ fits (tyc ci k) (.ref a) = true := by
  have h1 := fk_at h hk
  unfold fkO at h1
  rw [hr] at h1
  exact fit_r a h1
/-- an object's place has as many slots as its kind's table -/
theorem sh_all : SHL.all (fun q => !(decide (q.1 < 20)) || decide ((vwCl.getD q.1 ("", fun _ => ("", "", "", false), 0)).2.2 = q.2 ∧ q.1 < 12)) = true := by decide +kernel
theorem sh_n {p : Nat} (h : (SH p).1 < 20) : ∃ q, vwCl[(SH p).1]? = some q ∧ (SH p).2 = q.2.2 := by
  rcases Nat.lt_or_ge p 147 with hp | hp
  · have hm : SH p ∈ SHL := by
      unfold SH
      rw [List.getD_eq_getElem?_getD, List.getElem?_eq_getElem (by rw [SHlen]; exact hp)]
      exact List.getElem_mem _
    have h1 := List.all_eq_true.mp sh_all _ hm
    simp only [Bool.or_eq_true, Bool.not_eq_true', decide_eq_false_iff_not, decide_eq_true_eq] at h1
    rcases h1 with h1 | h1
    · exact absurd h h1
    · cases hv : vwCl[(SH p).1]? with
      | none => have := List.getElem?_eq_none_iff.mp hv; rw [vw_len] at this; omega
      | some q =>
        refine ⟨q, rfl, ?_⟩
        rw [← h1.1, List.getD_eq_getElem?_getD, hv]
        rfl
  · rw [SH_hi hp]
    exact ⟨_, rfl, rfl⟩
theorem cell_o {G : GX} {h : Hp} {p : Nat} (hk : (SH p).1 < 20) : cellO G h p = .inr ((SH p).1, fsO G h p (SH p).1 (SH p).2) := by
  unfold cellO
  rw [if_pos hk]
theorem cell_i {G : GX} {h : Hp} {p : Nat} (hk : ¬ (SH p).1 < 20) (hk2 : (SH p).1 < 23) : cellO G h p = .inl (G.2.2.1 (SH p).1, (SH p).2, .inl (h.2.2.1 p)) := by
  unfold cellO
  rw [if_neg hk, if_pos hk2]
theorem cell_q {G : GX} {h : Hp} {p : Nat} (hk2 : ¬ (SH p).1 < 23) : cellO G h p = .inl (G.2.2.1 (SH p).1, (SH p).2, .inr (.inr (.inr (.inr (fun k => (h.2.2.2 p k).map G.2.2.2.1))))) := by
  unfold cellO
  rw [if_neg (by omega), if_neg hk2]
theorem fs_at {G : GX} {h : Hp} {p ci n k : Nat} (hk : k < n) : (fsO G h p ci n)[k]? = some (if kr ci k = true then va_rf ((h.2.2.2 p k).map G.2.2.2.1) else .int (h.2.2.1 p k)) := by
  unfold fsO
  rw [List.getElem?_map, List.getElem?_range hk]
  rfl
theorem fs_len {G : GX} {h : Hp} {p ci n : Nat} : (fsO G h p ci n).length = n := by simp [fsO]
theorem fs_I {G : GX} {h : Hp} {p ci n k : Nat} {x : Int32} (hr : kr ci k = false) : (fsO G h p ci n).set k (.int x) = fsO G (hI h p k x) p ci n := by
  apply List.ext_getElem?
  intro i
  rw [List.getElem?_set, fs_len]
  rcases Nat.lt_or_ge i n with hi | hi
  · rw [fs_at hi, fs_at hi]
    by_cases e : k = i
    · subst e
      rw [if_pos rfl, if_pos hi]
      simp [hr, hI, upI]
    · rw [if_neg e]
      have : ¬ i = k := fun z => e z.symm
      simp [hI, upI, this]
  · have e1 : (fsO G h p ci n)[i]? = none := List.getElem?_eq_none (by rw [fs_len]; exact hi)
    have e2 : (fsO G (hI h p k x) p ci n)[i]? = none := List.getElem?_eq_none (by rw [fs_len]; exact hi)
    rw [e1, e2]
    by_cases e : k = i
    · rw [if_pos e, if_neg (by omega)]
    · rw [if_neg e]
theorem fs_R {G : GX} {h : Hp} {p ci n k : Nat} {x : Nat} (hr : kr ci k = true) : (fsO G h p ci n).set k (.ref (G.2.2.2.1 x)) = fsO G (hR h p k (some x)) p ci n := by
  apply List.ext_getElem?
  intro i
  rw [List.getElem?_set, fs_len]
  rcases Nat.lt_or_ge i n with hi | hi
  · rw [fs_at hi, fs_at hi]
    by_cases e : k = i
    · subst e
      rw [if_pos rfl, if_pos hi]
      simp [hr, hR, upR, va_rf]
    · rw [if_neg e]
      have : ¬ i = k := fun z => e z.symm
      simp [hR, upR, this]
  · have e1 : (fsO G h p ci n)[i]? = none := List.getElem?_eq_none (by rw [fs_len]; exact hi)
    have e2 : (fsO G (hR h p k (some x)) p ci n)[i]? = none := List.getElem?_eq_none (by rw [fs_len]; exact hi)
    rw [e1, e2]
    by_cases e : k = i
    · rw [if_pos e, if_neg (by omega)]
    · rw [if_neg e]
theorem cell_ne {G : GX} {h h' : Hp} {p q : Nat} (hq : q ≠ p) (e1 : ∀ z, z ≠ p → h'.2.2.1 z = h.2.2.1 z) (e2 : ∀ z, z ≠ p → h'.2.2.2 z = h.2.2.2 z) : cellO G h' q = cellO G h q := by
  unfold cellO fsO
  rw [e1 q hq, e2 q hq]
theorem upI_ne {f : Nat → Nat → Int32} {p k q : Nat} {x : Int32} (h : q ≠ p) : upI f p k x q = f q := by
  funext i
  simp [upI, h]
theorem upR_ne {f : Nat → Nat → Option Nat} {p k q : Nat} {x : Option Nat} (h : q ≠ p) : upR f p k x q = f q := by
  funext i
  simp [upR, h]
/-- one place changed: the heap holds the changed state -/
theorem hr_set {G : GX} {h h' : Hp} {p : Nat} {H1 : Heap} (hs : shO h) (ha : al h p) (e1 : h'.1 = h.1) (e2 : h'.2.1 = h.2.1) (e3 : ∀ z, z ≠ p → h'.2.2.1 z = h.2.2.1 z) (e4 : ∀ z, z ≠ p → h'.2.2.2 z = h.2.2.2 z) (h0 : zS G h) {ce : va_E} (hce : ce = cellO G h' p) (hP : va_P G.2.1 vwCl ((wsO G h).set (pix h p) (G.2.2.2.1 p, ce)) H1) : hrH G h' H1 := by
  subst hce
  rw [wsO_set hs ha e1 e2 (fun q hq => cell_ne hq e3 e4)] at hP
  have hpl : p < 100000 := by
    obtain ⟨s1, s2, s3⟩ := hs
    rcases ha with z | z <;> omega
  refine ⟨by unfold shO; rw [e1, e2]; exact hs, hP, fun q k hq hq100 => ?_, by rw [e3 100300 (by omega)]; exact h0.2.1, by rw [e3 100301 (by omega)]; exact h0.2.2⟩
  have hq1 : ¬ al h q := by unfold al at hq ⊢; rw [e1, e2] at hq; exact hq
  have hne : q ≠ p := fun z => hq1 (by rw [z]; exact ha)
  rw [e3 q hne, e4 q hne]
  exact h0.1 q k hq1 hq100
def StepH (G : GX) (d : Nat) (M : MR) (j : Nat) (lv : Lc) (st : List Value) (h : Hp) (j' : Nat) (lv' : Lc) (st' : List Value) (h1 : Hp) : Prop :=
  ∀ (p : Program) (e : Env) (R : Room) (s : State) (m : MethodId) (args : Array Value) (below : List Frame) (meth : Method) (c : Code) (H : Heap) (locs : List Loc) (cells slots : Nat) (ls : Array Slot) (Z : State → Prop),
    Cx G d M p R s m args meth c → lvr G M.2.2.2.2.1 lv ls → hrH G h H → va_S (GA G) s.heap H locs → s.heap.size + cells = G.2.2.2.1 0 + nc h → cells + nc h1 ≤ R.cells + nc h → slots + ns h1 ≤ R.slots + ns h →
    (∀ (H1 : Heap) (locs1 : List Loc) (cells1 slots1 : Nat) (ls' : Array Slot), lvr G M.2.2.2.2.1 lv' ls' → hrH G h1 H1 → va_S (GA G) s.heap H1 locs1 → cells1 + nc h = cells + nc h1 → slots1 + ns h = slots + ns h1 →
      W p G.1 e R s m args below meth c H1 locs1 cells1 slots1 Z (F0 m (pcj M j') ls' (st'.map (trv G)))) →
    W p G.1 e R s m args below meth c H locs cells slots Z (F0 m (pcj M j) ls (st.map (trv G)))
theorem Go.stepH {G : GX} {d : Nat} {M : MR} {j j' : Nat} {lv lv' : Lc} {st st' : List Value} {h h1 h' : Hp} {r : Option Value} (row : StepH G d M j lv st h j' lv' st' h1) (mo : nc h ≤ nc h1 ∧ ns h ≤ ns h1) (k : Go G d M j' lv' st' h1 r h') : Go G d M j lv st h r h' := by
  obtain ⟨⟨k1, k2⟩, k3⟩ := k
  refine ⟨⟨by omega, by omega⟩, fun p e R s m args below meth c H locs cells slots ls Z cx hl hh hS hc0 hc1 hc2 K => ?_⟩
  refine row p e R s m args below meth c H locs cells slots ls Z cx hl hh hS hc0 (by omega) (by omega) (fun H1 locs1 cells1 slots1 ls' hl' hh' hS' e1 e2 => ?_)
  exact k3 p e R s m args below meth c H1 locs1 cells1 slots1 ls' Z cx hl' hh' hS' (by omega) (by omega) (by omega) (fun H2 locs2 cells2 slots2 ls2 j2 a1 a2 a3 a4 a5 => K H2 locs2 cells2 slots2 ls2 j2 a1 a2 a3 (by omega) (by omega))
theorem wp.stepH {G : GX} {d : Nat} {M : MR} {j j' : Nat} {lv lv' : Lc} {st st' : List Value} {h h1 : Hp} {Q : Option Value → Hp → Prop} (row : StepH G d M j lv st h j' lv' st' h1) (mo : nc h ≤ nc h1 ∧ ns h ≤ ns h1) (k : wp G d M j' lv' st' h1 Q) : wp G d M j lv st h Q := by
  obtain ⟨r, h', g, q⟩ := k
  exact ⟨r, h', g.stepH row mo, q⟩
section HROWS
variable {G : GX} {d : Nat} {M : MR} {j : Nat} {lv : Lc} {r0 : List Value} {h : Hp}
theorem Cx.sk {p : Program} {R : Room} {s : State} {m : MethodId} {args : Array Value} {meth : Method} {c : Code} (cx : Cx G d M p R s m args meth c) : SK G s := cx.2.2.2.2.2.2.2.2.2
theorem Cx.ws {p : Program} {R : Room} {s : State} {m : MethodId} {args : Array Value} {meth : Method} {c : Code} (cx : Cx G d M p R s m args meth c) : ∀ w ∈ LG, w.before args s = true := cx.2.2.2.2.1
theorem Cx.own {p : Program} {R : Room} {s : State} {m : MethodId} {args : Array Value} {meth : Method} {c : Code} (cx : Cx G d M p R s m args meth c) : s.vm.findClass M.2.2.2.1.cls = some m.cls := cx.2.2.2.1
theorem g_geti {ix ci k p : Nat} {q : vw_C} (hd : decode M.2.2.1 (pcj M j) = .ok (.getfield ix, 3)) (hn : pcj M (j + 1) = pcj M j + 3) (hq : vwCl[ci]? = some q) (hk : k < q.2.2) (hw : Cond.fieldLink M.2.2.2.1.cls ix (q.2.1 k).1 (q.2.1 k).2.1 (q.2.1 k).2.2.1 ∈ LG) (hr : kr ci k = false) (ok : okB h p ci = true) : StepH G d M j lv (.ref p :: r0) h (j + 1) lv (.int (h.2.2.1 p k) :: r0) h := fun p1 e R s m args below meth c H locs cells slots ls Z cx hl hh hS hc0 hc1 hc2 K => by
  obtain ⟨ha, hc⟩ := okB_al hh.1 ok
  have hci : (SH p).1 < 20 := by have := (List.getElem?_eq_some_iff.mp hq).1; rw [vw_len] at this; omega
  obtain ⟨q2, hq2, hq3⟩ := sh_n hci
  rw [hc] at hq2
  cases hq.symm.trans hq2
  have he := wsO_at (G := G) hh.1 ha
  rw [cell_o hci, hc] at he
  refine va_get (C := q.1) (T := q.2.1) (N := q.2.2) (ref := (q.2.1 k).1) cx.1 cx.2.1 cx.ws (vw_0 ci q hq) cx.own cx.sk.1 hh.2.1 (pix h p) he hq k hk (cx.ws _ hw) (fun x hx => hx) (v := .int (h.2.2.1 p k)) ?_ hd ?_
  · rw [fs_at (by omega), hr]; rfl
  · have z := K H locs cells slots ls hl hh hS rfl rfl
    rw [hn] at z
    exact z
theorem g_getr {ix ci k p x : Nat} {q : vw_C} (hd : decode M.2.2.1 (pcj M j) = .ok (.getfield ix, 3)) (hn : pcj M (j + 1) = pcj M j + 3) (hq : vwCl[ci]? = some q) (hk : k < q.2.2) (hw : Cond.fieldLink M.2.2.2.1.cls ix (q.2.1 k).1 (q.2.1 k).2.1 (q.2.1 k).2.2.1 ∈ LG) (hr : kr ci k = true) (ok : okB h p ci = true) (hx : h.2.2.2 p k = some x) : StepH G d M j lv (.ref p :: r0) h (j + 1) lv (.ref x :: r0) h := fun p1 e R s m args below meth c H locs cells slots ls Z cx hl hh hS hc0 hc1 hc2 K => by
  obtain ⟨ha, hc⟩ := okB_al hh.1 ok
  have hci : (SH p).1 < 20 := by have := (List.getElem?_eq_some_iff.mp hq).1; rw [vw_len] at this; omega
  obtain ⟨q2, hq2, hq3⟩ := sh_n hci
  rw [hc] at hq2
  cases hq.symm.trans hq2
  have he := wsO_at (G := G) hh.1 ha
  rw [cell_o hci, hc] at he
  refine va_get (C := q.1) (T := q.2.1) (N := q.2.2) (ref := (q.2.1 k).1) cx.1 cx.2.1 cx.ws (vw_0 ci q hq) cx.own cx.sk.1 hh.2.1 (pix h p) he hq k hk (cx.ws _ hw) (fun x hx => hx) (v := .ref (G.2.2.2.1 x)) ?_ hd ?_
  · rw [fs_at (by omega), hr, hx]; rfl
  · have z := K H locs cells slots ls hl hh hS rfl rfl
    rw [hn] at z
    exact z
theorem g_puti {ix ci k p : Nat} {q : vw_C} {x : Int32} (hd : decode M.2.2.1 (pcj M j) = .ok (.putfield ix, 3)) (hn : pcj M (j + 1) = pcj M j + 3) (hq : vwCl[ci]? = some q) (hk : k < q.2.2) (hw : Cond.fieldLink M.2.2.2.1.cls ix (q.2.1 k).1 (q.2.1 k).2.1 (q.2.1 k).2.2.1 ∈ LG) (hr : kr ci k = false) (hz : kz ci k x = true) (hf : (q.2.1 k).2.2.2 = false ∨ ((q.2.1 k).1 = M.2.2.2.1.cls ∧ M.2.2.2.1.name = "<init>")) (ok : okB h p ci = true) : StepH G d M j lv (.int x :: .ref p :: r0) h (j + 1) lv r0 (hI h p k x) := fun p1 e R s m args below meth c H locs cells slots ls Z cx hl hh hS hc0 hc1 hc2 K => by
  obtain ⟨ha, hc⟩ := okB_al hh.1 ok
  have hci : (SH p).1 < 20 := by have := (List.getElem?_eq_some_iff.mp hq).1; rw [vw_len] at this; omega
  obtain ⟨q2, hq2, hq3⟩ := sh_n hci
  rw [hc] at hq2
  cases hq.symm.trans hq2
  have he := wsO_at (G := G) hh.1 ha
  rw [cell_o hci, hc] at he
  obtain ⟨f1, f2⟩ := fit_ik hq hk hr hz
  have hD := wsO_D (h := h) cx.sk.2.1 hh.1
  have kk : ∀ (H1 : Heap) (locs1 : List Loc), va_P G.2.1 vwCl ((wsO G h).set (pix h p) (G.2.2.2.1 p, .inr (ci, (fsO G h p ci (SH p).2).set k (.int x)))) H1 → va_D (GA G) ((wsO G h).set (pix h p) (G.2.2.2.1 p, .inr (ci, (fsO G h p ci (SH p).2).set k (.int x)))) → va_S (GA G) s.heap H1 locs1 → W p1 G.1 e R s m args below meth c H1 locs1 cells slots Z (F0 m (pcj M j + 3) ls (r0.map (trv G))) := fun H1 locs1 hP1 _ hS1 => by
    have z := K H1 locs1 cells slots ls hl (hr_set hh.1 ha rfl rfl (fun z hz => upI_ne hz) (fun z _ => rfl) hh.2.2 (by rw [cell_o hci, hc]; exact congrArg (fun l => Sum.inr (ci, l)) (fs_I hr)) hP1) hS1 rfl rfl
    rw [hn] at z
    exact z
  cases hf' : (q.2.1 k).2.2.2 with
  | false => exact va_put (C := q.1) (T := q.2.1) (N := q.2.2) (ref := (q.2.1 k).1) cx.1 cx.2.1 cx.ws (vw_0 ci q hq) (tyc ci) (vw_t ci q hq).1 (vw_t ci q hq).2 cx.own cx.sk.1 hh.2.1 hD hS (pix h p) he hq k hk (cx.ws _ hw) (fun x hx => hx) hf' ((vw_t ci q hq).1 k hk) f1 f2 (by rw [fs_len]; omega) hd kk
  | true =>
    rcases hf with hf | hf
    · rw [hf'] at hf; cases hf
    · exact va_putF (C := q.1) (T := q.2.1) (N := q.2.2) (ref := (q.2.1 k).1) cx.1 cx.2.1 cx.ws (vw_0 ci q hq) (tyc ci) (vw_t ci q hq).1 (vw_t ci q hq).2 cx.own cx.sk.1 hh.2.1 hD hS (pix h p) he hq k hk (cx.ws _ hw) (fun x hx => hx) hf' (cx.2.2.2.2.2.1 hf.2) hf.1 ((vw_t ci q hq).1 k hk) f1 f2 (by rw [fs_len]; omega) hd kk
theorem g_putr {ix ci k p x : Nat} {q : vw_C} (hd : decode M.2.2.1 (pcj M j) = .ok (.putfield ix, 3)) (hn : pcj M (j + 1) = pcj M j + 3) (hq : vwCl[ci]? = some q) (hk : k < q.2.2) (hw : Cond.fieldLink M.2.2.2.1.cls ix (q.2.1 k).1 (q.2.1 k).2.1 (q.2.1 k).2.2.1 ∈ LG) (hr : kr ci k = true) (hf : (q.2.1 k).2.2.2 = false ∨ ((q.2.1 k).1 = M.2.2.2.1.cls ∧ M.2.2.2.1.name = "<init>")) (ok : okB h p ci = true) : StepH G d M j lv (.ref x :: .ref p :: r0) h (j + 1) lv r0 (hR h p k (some x)) := fun p1 e R s m args below meth c H locs cells slots ls Z cx hl hh hS hc0 hc1 hc2 K => by
  obtain ⟨ha, hc⟩ := okB_al hh.1 ok
  have hci : (SH p).1 < 20 := by have := (List.getElem?_eq_some_iff.mp hq).1; rw [vw_len] at this; omega
  obtain ⟨q2, hq2, hq3⟩ := sh_n hci
  rw [hc] at hq2
  cases hq.symm.trans hq2
  have he := wsO_at (G := G) hh.1 ha
  rw [cell_o hci, hc] at he
  obtain ⟨f1, f2⟩ := fit_rk (a := G.2.2.2.1 x) hq hk hr
  have hD := wsO_D (h := h) cx.sk.2.1 hh.1
  have kk : ∀ (H1 : Heap) (locs1 : List Loc), va_P G.2.1 vwCl ((wsO G h).set (pix h p) (G.2.2.2.1 p, .inr (ci, (fsO G h p ci (SH p).2).set k (.ref (G.2.2.2.1 x))))) H1 → va_D (GA G) ((wsO G h).set (pix h p) (G.2.2.2.1 p, .inr (ci, (fsO G h p ci (SH p).2).set k (.ref (G.2.2.2.1 x))))) → va_S (GA G) s.heap H1 locs1 → W p1 G.1 e R s m args below meth c H1 locs1 cells slots Z (F0 m (pcj M j + 3) ls (r0.map (trv G))) := fun H1 locs1 hP1 _ hS1 => by
    have z := K H1 locs1 cells slots ls hl (hr_set hh.1 ha rfl rfl (fun z _ => rfl) (fun z hz => upR_ne hz) hh.2.2 (by rw [cell_o hci, hc]; exact congrArg (fun l => Sum.inr (ci, l)) (fs_R hr)) hP1) hS1 rfl rfl
    rw [hn] at z
    exact z
  cases hf' : (q.2.1 k).2.2.2 with
  | false => exact va_put (C := q.1) (T := q.2.1) (N := q.2.2) (ref := (q.2.1 k).1) cx.1 cx.2.1 cx.ws (vw_0 ci q hq) (tyc ci) (vw_t ci q hq).1 (vw_t ci q hq).2 cx.own cx.sk.1 hh.2.1 hD hS (pix h p) he hq k hk (cx.ws _ hw) (fun x hx => hx) hf' ((vw_t ci q hq).1 k hk) f1 f2 (by rw [fs_len]; omega) hd kk
  | true =>
    rcases hf with hf | hf
    · rw [hf'] at hf; cases hf
    · exact va_putF (C := q.1) (T := q.2.1) (N := q.2.2) (ref := (q.2.1 k).1) cx.1 cx.2.1 cx.ws (vw_0 ci q hq) (tyc ci) (vw_t ci q hq).1 (vw_t ci q hq).2 cx.own cx.sk.1 hh.2.1 hD hS (pix h p) he hq k hk (cx.ws _ hw) (fun x hx => hx) hf' (cx.2.2.2.2.2.1 hf.2) hf.1 ((vw_t ci q hq).1 k hk) f1 f2 (by rw [fs_len]; omega) hd kk
end HROWS
