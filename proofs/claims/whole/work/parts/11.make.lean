/-! ROWS of makings, of System.arraycopy -/
theorem vw_in : ∀ (ci : Nat) (q : vw_C), vwCl[ci]? = some q → Cond.initialized q.1 ∈ LG ∧ Cond.instantiable q.1 q.2.2 ∈ LG := by
  intro ci q h
  refine ⟨?_, tb_it _ (List.mem_map.mpr ⟨q, List.mem_of_getElem? h, rfl⟩)⟩
  match ci, h with
  | 0, h => cases h; exact tb_in _ (List.mem_map.mpr ⟨0, by decide +kernel, rfl⟩)
  | 1, h => cases h; exact tb_in _ (List.mem_map.mpr ⟨1, by decide +kernel, rfl⟩)
  | 2, h => cases h; exact tb_in _ (List.mem_map.mpr ⟨2, by decide +kernel, rfl⟩)
  | 3, h => cases h; exact tb_in _ (List.mem_map.mpr ⟨3, by decide +kernel, rfl⟩)
  | 4, h => cases h; exact tb_in _ (List.mem_map.mpr ⟨4, by decide +kernel, rfl⟩)
  | 5, h => cases h; exact tb_in _ (List.mem_map.mpr ⟨5, by decide +kernel, rfl⟩)
  | 6, h => cases h; exact tb_in _ (List.mem_map.mpr ⟨6, by decide +kernel, rfl⟩)
  | 7, h => cases h; exact tb_in _ (List.mem_map.mpr ⟨7, by decide +kernel, rfl⟩)
  | 8, h => cases h; exact tb_in _ (List.mem_map.mpr ⟨8, by decide +kernel, rfl⟩)
  | 9, h => cases h; exact tb_in _ (List.mem_map.mpr ⟨9, by decide +kernel, rfl⟩)
  | 10, h => cases h; exact tb_in _ (List.mem_map.mpr ⟨10, by decide +kernel, rfl⟩)
  | 11, h => cases h; exact tb_in _ (List.mem_map.mpr ⟨11, by decide +kernel, rfl⟩)
  | k + 12, h => simp [vwCl] at h
theorem def_k {G : GX} {h : Hp} {ci np k : Nat} {q : vw_C} (hq : vwCl[ci]? = some q) (hk : k < q.2.2) (h0 : h.2.2.1 np k = 0 ∧ h.2.2.2 np k = none) : defaultValue (tyc ci k) = vp_V (fsO G h np ci q.2.2) k := by
  unfold vp_V
  rw [List.getD_eq_getElem?_getD, fs_at hk, h0.1, h0.2]
  have h1 := fk_at hq hk
  unfold fkO at h1
  cases hr : kr ci k with
  | true =>
    rw [hr] at h1
    simp only at h1
    show defaultValue (tyc ci k) = .null
    cases ht : tyc ci k <;> rw [ht] at h1 <;> first | rfl | (simp [FieldType.isReference] at h1)
  | false =>
    rw [hr] at h1
    show defaultValue (tyc ci k) = .int 0
    cases hz : (KZL.getD ci []).getD k false with
    | true =>
      rw [hz] at h1
      simp only [decide_eq_true_eq] at h1
      rw [h1]
      rfl
    | false =>
      rw [hz] at h1
      simp only [decide_eq_true_eq] at h1
      rw [h1]
      rfl
theorem pls_b {h : Hp} (h0 : h.2.1 = 0) : pls (h.1 + 1, h.2.1, h.2.2.1, h.2.2.2) = pls h ++ [h.1] := by
  unfold pls
  simp [h0, List.range_succ]
theorem pls_f {h : Hp} : pls (h.1, h.2.1 + 1, h.2.2.1, h.2.2.2) = pls h ++ [1000 + h.2.1] := by
  unfold pls
  simp [List.range_succ]
section MROWS
variable {G : GX} {d : Nat} {M : MR} {j : Nat} {lv : Lc} {r0 : List Value} {h : Hp}
/-- the common part: a new cell at the next place -/
theorem mk_next {p1 : Program} {e : Env} {R : Room} {s : State} {m : MethodId} {args : Array Value} {below : List Frame} {meth : Method} {c : Code} {H1 : Heap} {locs : List Loc} {cells slots N : Nat} {ls : Array Slot} {Z : State → Prop} {h1 : Hp} {np q pc1 : Nat} {ce : va_E} {st1 : List Value}
    (hg : adO G) (hs : shO h) (hs1 : shO h1) (e1 : h1.2.2.1 = h.2.2.1) (e2 : h1.2.2.2 = h.2.2.2) (hp : pls h1 = pls h ++ [np]) (hal : ∀ p, al h p → al h1 p) (h0 : zS G h) (hn : nc h1 = nc h + 1) (hns : ns h1 = ns h + N) (had : G.2.2.2.1 np = G.2.2.2.1 0 + nc h) (hce : ce = cellO G h np)
    (hc0 : s.heap.size + cells = G.2.2.2.1 0 + nc h) (hP : va_P G.2.1 vwCl (wsO G h ++ [(q, ce)]) H1) (hD : va_D (GA G) (wsO G h ++ [(q, ce)])) (hS : va_S (GA G) s.heap H1 locs)
    (K : ∀ (H1 : Heap) (locs1 : List Loc) (cells1 slots1 : Nat), hrH G h1 H1 → va_S (GA G) s.heap H1 locs1 → cells1 + nc h = cells + nc h1 → slots1 + ns h = slots + ns h1 → W p1 G.1 e R s m args below meth c H1 locs1 cells1 slots1 Z (F0 m pc1 ls (.ref (G.2.2.2.1 np) :: st1))) :
    W p1 G.1 e R s m args below meth c H1 locs (cells + 1) (slots + N) Z (F0 m pc1 ls (.ref q :: st1)) := by
  refine W.bound (fun hb => ?_)
  have hq : q = G.2.2.2.1 np := by rw [had]; exact next_addr hg hs hD hP (by omega)
  subst hq
  subst hce
  exact K H1 locs (cells + 1) (slots + N) (hr_new hs1 e1 e2 hp hal h0 hP) hS (by omega) (by omega)
theorem g_newb {ix ci : Nat} {q : vw_C} (hd : decode M.2.2.1 (pcj M j) = .ok (.new ix, 3)) (hn : pcj M (j + 1) = pcj M j + 3) (hq : vwCl[ci]? = some q) (hw : Cond.classLink M.2.2.2.1.cls ix q.1 ∈ LG) (hf : h.2.1 = 0) (hb : h.1 < 147) (hsh : SH h.1 = (ci, q.2.2)) : StepH G d M j lv r0 h (j + 1) lv (.ref h.1 :: r0) (h.1 + 1, h.2.1, h.2.2.1, h.2.2.2) := fun p1 e R s m args below meth c H locs cells slots ls Z cx hl hh hS hc0 hc1 hc2 K => by
  have hci : (SH h.1).1 < 20 := by rw [hsh]; have := (List.getElem?_eq_some_iff.mp hq).1; rw [vw_len] at this; show ci < 20; omega
  have hnal : ¬ al h h.1 := by unfold al; omega
  have en : nc (h.1 + 1, h.2.1, h.2.2.1, h.2.2.2) = nc h + 1 := by unfold nc; show h.1 + 1 + h.2.1 = _; omega
  have es : ns (h.1 + 1, h.2.1, h.2.2.1, h.2.2.2) = ns h + q.2.2 := by unfold ns; show slN h.1 + (SH h.1).2 + 9 * h.2.1 = _; rw [hsh]; show slN h.1 + q.2.2 + 9 * h.2.1 = _; omega
  rw [en] at hc1
  rw [es] at hc2
  refine va_new (C := q.1) (T := q.2.1) (N := q.2.2) (fs := fsO G h h.1 ci q.2.2) cx.1 cx.2.1 cx.ws (vw_0 ci q hq) (tyc ci) (vw_t ci q hq).1 cx.own (cx.ws _ hw) (cx.ws _ (vw_in ci q hq).2) (cx.ws _ (vw_in ci q hq).1) cx.sk.1 hh.2.1 (wsO_D cx.sk.2.1 hh.1) hS (fun z hz => Nat.le_trans cx.sk.2.2.1 hz) hq (fun k hk => def_k hq hk (hh.2.2.1 h.1 k hnal (by omega))) (by omega) (by omega) hd (fun q1 H1 hP1 hD1 hS1 => ?_)
  refine mk_next (np := h.1) (h1 := (h.1 + 1, h.2.1, h.2.2.1, h.2.2.2)) cx.sk.2.1 hh.1 ⟨by show h.1 + 1 ≤ 147; omega, Or.inl hf, hh.1.2.2⟩ rfl rfl (pls_b hf) (fun p hp => by rcases hp with z | z; exact Or.inl (by show p < h.1 + 1; omega); exact Or.inr z) hh.2.2 en es (by rw [(cx.sk.2.1 h.1).1 (by omega)]; unfold nc; omega) (by rw [cell_o hci, hsh]) hc0 hP1 hD1 hS1 (fun H2 locs2 cells2 slots2 a1 a2 a3 a4 => ?_)
  have z := K H2 locs2 cells2 slots2 ls hl a1 a2 a3 a4
  rw [hn] at z
  exact z
theorem g_newf {ix : Nat} (hd : decode M.2.2.1 (pcj M j) = .ok (.new ix, 3)) (hn : pcj M (j + 1) = pcj M j + 3) (hw : Cond.classLink M.2.2.2.1.cls ix RX3 ∈ LG) (hb : h.1 = 147) (hlim : h.2.1 < 2000) : StepH G d M j lv r0 h (j + 1) lv (.ref (1000 + h.2.1) :: r0) (h.1, h.2.1 + 1, h.2.2.1, h.2.2.2) := fun p1 e R s m args below meth c H locs cells slots ls Z cx hl hh hS hc0 hc1 hc2 K => by
  have hq : vwCl[3]? = some (RX3, TX3, 9) := rfl
  have hsh : SH (1000 + h.2.1) = (3, 9) := SH_hi (by omega)
  have hci : (SH (1000 + h.2.1)).1 < 20 := by rw [hsh]; show 3 < 20; omega
  have hnal : ¬ al h (1000 + h.2.1) := by unfold al; omega
  have en : nc (h.1, h.2.1 + 1, h.2.2.1, h.2.2.2) = nc h + 1 := by unfold nc; show h.1 + (h.2.1 + 1) = _; omega
  have es : ns (h.1, h.2.1 + 1, h.2.2.1, h.2.2.2) = ns h + 9 := by unfold ns; show slN h.1 + 9 * (h.2.1 + 1) = _; omega
  rw [en] at hc1
  rw [es] at hc2
  refine va_new (C := RX3) (T := TX3) (N := 9) (fs := fsO G h (1000 + h.2.1) 3 9) cx.1 cx.2.1 cx.ws (vw_0 3 _ hq) (tyc 3) (vw_t 3 _ hq).1 cx.own (cx.ws _ hw) (cx.ws _ (vw_in 3 _ hq).2) (cx.ws _ (vw_in 3 _ hq).1) cx.sk.1 hh.2.1 (wsO_D cx.sk.2.1 hh.1) hS (fun z hz => Nat.le_trans cx.sk.2.2.1 hz) hq (fun k hk => def_k (q := (RX3, TX3, 9)) hq hk (hh.2.2.1 (1000 + h.2.1) k hnal (by omega))) (by omega) (by omega) hd (fun q1 H1 hP1 hD1 hS1 => ?_)
  refine mk_next (np := 1000 + h.2.1) (h1 := (h.1, h.2.1 + 1, h.2.2.1, h.2.2.2)) cx.sk.2.1 hh.1 ⟨hh.1.1, Or.inr hb, by show h.2.1 + 1 ≤ 2000; omega⟩ rfl rfl pls_f (fun p hp => by rcases hp with z | z; exact Or.inl z; exact Or.inr ⟨z.1, by show p < 1000 + (h.2.1 + 1); omega⟩) hh.2.2 en es (by rw [(cx.sk.2.1 (1000 + h.2.1)).2 (by omega) (by omega)]; unfold nc; omega) (by rw [cell_o hci, hsh]) hc0 hP1 hD1 hS1 (fun H2 locs2 cells2 slots2 a1 a2 a3 a4 => ?_)
  have z := K H2 locs2 cells2 slots2 ls hl a1 a2 a3 a4
  rw [hn] at z
  exact z
theorem z_fun {f : Nat → Int32} (h : ∀ k, f k = 0) : f = fun _ => 0 := funext h
theorem g_newa {ty : ArrayType} {kd t0 : Nat} {x : Int32} {t : FieldType} (hd : decode M.2.2.1 (pcj M j) = .ok (.newarray ty, 2)) (hn : pcj M (j + 1) = pcj M j + 2) (hk : (kd = 20 ∧ t0 = 0 ∧ t = .int ∧ ty = .int) ∨ (kd = 21 ∧ t0 = 1 ∧ t = .byte ∧ ty = .byte) ∨ (kd = 22 ∧ t0 = 2 ∧ t = .boolean ∧ ty = .boolean)) (hx : 0 ≤ x) (hf : h.2.1 = 0) (hb : h.1 < 147) (hsh : SH h.1 = (kd, x.toNatClampNeg)) (hsm : x.toNatClampNeg ≤ 100000) : StepH G d M j lv (.int x :: r0) h (j + 1) lv (.ref h.1 :: r0) (h.1 + 1, h.2.1, h.2.2.1, h.2.2.2) := fun p1 e R s m args below meth c H locs cells slots ls Z cx hl hh hS hc0 hc1 hc2 K => by
  have hnal : ¬ al h h.1 := by unfold al; omega
  have en : nc (h.1 + 1, h.2.1, h.2.2.1, h.2.2.2) = nc h + 1 := by unfold nc; show h.1 + 1 + h.2.1 = _; omega
  have es : ns (h.1 + 1, h.2.1, h.2.2.1, h.2.2.2) = ns h + x.toNatClampNeg := by unfold ns; show slN h.1 + (SH h.1).2 + 9 * h.2.1 = _; rw [hsh]; show slN h.1 + x.toNatClampNeg + 9 * h.2.1 = _; omega
  rw [en] at hc1
  rw [es] at hc2
  have hI0 : h.2.2.1 h.1 = fun _ => 0 := z_fun (fun k => (hh.2.2.1 h.1 k hnal (by omega)).1)
  have hkd : ¬ (SH h.1).1 < 20 ∧ (SH h.1).1 < 23 := by rw [hsh]; show ¬ kd < 20 ∧ kd < 23; omega
  have hty : newarray.typeOf ty = t := by rcases hk with ⟨-, -, rfl, rfl⟩ | ⟨-, -, rfl, rfl⟩ | ⟨-, -, rfl, rfl⟩ <;> rfl
  have hac : Cond.arrayClass (newarray.typeOf ty) ∈ LG := by
    rcases hk with ⟨-, -, -, rfl⟩ | ⟨-, -, -, rfl⟩ | ⟨-, -, -, rfl⟩
    · exact tb_ac _ List.mem_cons_self
    · exact tb_ac _ (List.mem_cons_of_mem _ List.mem_cons_self)
    · exact tb_ac _ (List.mem_cons_of_mem _ (List.mem_cons_of_mem _ List.mem_cons_self))
  have hdv : defaultValue t = .int 0 := by rcases hk with ⟨-, -, rfl, -⟩ | ⟨-, -, rfl, -⟩ | ⟨-, -, rfl, -⟩ <;> rfl
  have hbt : x.toNatClampNeg * componentBytes t ≤ 536870912 := by
    have : componentBytes t ≤ 8 := by rcases hk with ⟨-, -, rfl, -⟩ | ⟨-, -, rfl, -⟩ | ⟨-, -, rfl, -⟩ <;> decide
    have := Nat.mul_le_mul hsm this
    omega
  have hT : (tyO G)[t0]? = some (G.2.2.1 kd, t) := by rcases hk with ⟨rfl, rfl, rfl, -⟩ | ⟨rfl, rfl, rfl, -⟩ | ⟨rfl, rfl, rfl, -⟩ <;> rfl
  refine va_newa cx.1 cx.2.1 (cx.ws _ hac) hty cx.sk.1 hh.2.1 (wsO_D cx.sk.2.1 hh.1) hS (fun z hz => Nat.le_trans cx.sk.2.2.1 hz) (n := x) (N' := x.toNatClampNeg) (a0 := (x.toNatClampNeg, .inl (h.2.2.1 h.1))) (fun cA => by rw [hI0, hdv]; rfl) (Int32.not_lt.mpr hx) rfl hbt (by omega) (by omega) hd (fun q1 cA H1 hK1 hP1 hD1 hS1 => ?_)
  have hcA : cA = G.2.2.1 kd := by
    have r1 := (hK1.2 6 (cA, t) rfl).2
    have r2 := (cx.sk.1.2 t0 _ hT).2
    have f1 : s.vm.findClass ("[" ++ t.toString) = some cA := by rcases hk with ⟨-, -, rfl, -⟩ | ⟨-, -, rfl, -⟩ | ⟨-, -, rfl, -⟩ <;> exact r1
    have f2 : s.vm.findClass ("[" ++ t.toString) = some (G.2.2.1 kd) := by rcases hk with ⟨-, -, rfl, -⟩ | ⟨-, -, rfl, -⟩ | ⟨-, -, rfl, -⟩ <;> exact r2
    exact Option.some.inj (f1.symm.trans f2)
  subst hcA
  refine mk_next (np := h.1) (h1 := (h.1 + 1, h.2.1, h.2.2.1, h.2.2.2)) cx.sk.2.1 hh.1 ⟨by show h.1 + 1 ≤ 147; omega, Or.inl hf, hh.1.2.2⟩ rfl rfl (pls_b hf) (fun p hp => by rcases hp with z | z; exact Or.inl (by show p < h.1 + 1; omega); exact Or.inr z) hh.2.2 en es (by rw [(cx.sk.2.1 h.1).1 (by omega)]; unfold nc; omega) (by rw [cell_i hkd.1 hkd.2, hsh]) hc0 hP1 hD1 hS1 (fun H2 locs2 cells2 slots2 a1 a2 a3 a4 => ?_)
  have z := K H2 locs2 cells2 slots2 ls hl a1 a2 a3 a4
  rw [hn] at z
  exact z
theorem g_newq {ix kd t0 : Nat} {x : Int32} {C : String} (hd : decode M.2.2.1 (pcj M j) = .ok (.anewarray ix, 3)) (hn : pcj M (j + 1) = pcj M j + 3) (hk : (kd = 23 ∧ t0 = 3 ∧ C = "WreckCourt$Sheet") ∨ (kd = 24 ∧ t0 = 4 ∧ C = "WreckCourt$Fact")) (hw : Cond.classLink M.2.2.2.1.cls ix C ∈ LG) (hx : 0 ≤ x) (hf : h.2.1 = 0) (hb : h.1 < 147) (hsh : SH h.1 = (kd, x.toNatClampNeg)) (hsm : x.toNatClampNeg ≤ 100000) : StepH G d M j lv (.int x :: r0) h (j + 1) lv (.ref h.1 :: r0) (h.1 + 1, h.2.1, h.2.2.1, h.2.2.2) := fun p1 e R s m args below meth c H locs cells slots ls Z cx hl hh hS hc0 hc1 hc2 K => by
  have hnal : ¬ al h h.1 := by unfold al; omega
  have en : nc (h.1 + 1, h.2.1, h.2.2.1, h.2.2.2) = nc h + 1 := by unfold nc; show h.1 + 1 + h.2.1 = _; omega
  have es : ns (h.1 + 1, h.2.1, h.2.2.1, h.2.2.2) = ns h + x.toNatClampNeg := by unfold ns; show slN h.1 + (SH h.1).2 + 9 * h.2.1 = _; rw [hsh]; show slN h.1 + x.toNatClampNeg + 9 * h.2.1 = _; omega
  rw [en] at hc1
  rw [es] at hc2
  have hR0 : (fun k => (h.2.2.2 h.1 k).map G.2.2.2.1) = fun _ => none := funext (fun k => by rw [(hh.2.2.1 h.1 k hnal (by omega)).2]; rfl)
  have hkd : ¬ (SH h.1).1 < 23 := by rw [hsh]; show ¬ kd < 23; omega
  have hao : va_AO C s := by rcases hk with ⟨-, -, rfl⟩ | ⟨-, -, rfl⟩; exact cx.sk.2.2.2.1.1; exact cx.sk.2.2.2.1.2.1
  have hT : (tyO G)[t0]? = some (G.2.2.1 kd, .object C) := by rcases hk with ⟨rfl, rfl, rfl⟩ | ⟨rfl, rfl, rfl⟩ <;> rfl
  refine va_newq cx.1 cx.2.1 cx.own (cx.ws _ hw) hao cx.sk.1 hh.2.1 (wsO_D cx.sk.2.1 hh.1) hS (fun z hz => Nat.le_trans cx.sk.2.2.1 hz) (n := x) (N' := x.toNatClampNeg) (Int32.not_lt.mpr hx) rfl (by omega) (by omega) (by omega) hd (fun q1 cA H1 hK1 hP1 hD1 hS1 => ?_)
  have hcA : cA = G.2.2.1 kd := by
    obtain ⟨_, _, -, -, -, f1⟩ := (hK1.2 6 (cA, .object C) rfl).2
    obtain ⟨_, _, -, -, -, f2⟩ := (cx.sk.1.2 t0 _ hT).2
    exact Option.some.inj (f1.symm.trans f2)
  subst hcA
  refine mk_next (np := h.1) (h1 := (h.1 + 1, h.2.1, h.2.2.1, h.2.2.2)) cx.sk.2.1 hh.1 ⟨by show h.1 + 1 ≤ 147; omega, Or.inl hf, hh.1.2.2⟩ rfl rfl (pls_b hf) (fun p hp => by rcases hp with z | z; exact Or.inl (by show p < h.1 + 1; omega); exact Or.inr z) hh.2.2 en es (by rw [(cx.sk.2.1 h.1).1 (by omega)]; unfold nc; omega) (by rw [cell_q hkd, hsh, hR0]) hc0 hP1 hD1 hS1 (fun H2 locs2 cells2 slots2 a1 a2 a3 a4 => ?_)
  have z := K H2 locs2 cells2 slots2 ls hl a1 a2 a3 a4
  rw [hn] at z
  exact z
end MROWS
