/-! CALLS: a run of the callee is a step of the caller -/
theorem run_W {G : GX} {p : Program} {e : Env} {R : Room} {s : State} {m : MethodId} {args : Array Value} {below : List Frame} {meth : Method} {c : Code} {H : Heap} {locs : List Loc} {cells slots mc ms pc : Nat} {ls : Array Slot} {st0 rest : List Value} {Z : State → Prop} {r : Option Value} {h' : Hp} {a : Array Value}
    (hr : va_Run p G.1 e R s m args below meth c H locs cells slots mc ms (F0 m pc ls st0) rest (QcO G r h' a) (GA G)) (hS : va_S (GA G) s.heap H locs)
    (kk : ∀ (H1 : Heap) (locs1 : List Loc), hrH G h' H1 → va_S (GA G) s.heap H1 locs1 → W p G.1 e R s m args below meth c H1 locs1 (cells + mc) (slots + ms) Z (F0 m (pc + 3) ls ((r.map (trv G)).toList ++ rest))) : W p G.1 e R s m args below meth c H locs cells slots Z (F0 m pc ls st0) := by
  intro T hT X
  obtain ⟨v, st₀, t, T', L, h0, X', hL, e1, e2, ⟨hv, hb, hz, hk⟩, st⟩ := hr T hT X
  cases hv
  rw [h0] at hz hk
  have hS1 : va_S (GA G) s.heap T'.heap (locs ++ L) := ⟨Nat.le_trans hS.1 (by rw [e1]; exact hz), fun q h1 h2 => by rw [e1, hk q (Nat.lt_of_lt_of_le h1 hS.1) h2]; exact hS.2.1 q h1 h2, fun q hq => by
    rcases List.mem_append.mp hq with h | h
    · exact hS.2.2 q h
    · exact hL q h⟩
  obtain ⟨t2, a1, b1⟩ := kk T'.heap (locs ++ L) (by rw [e1]; exact hb) hS1 T' rfl X'
  exact ⟨t2, st t2 a1, b1⟩
theorem LG_GI {ws : List Cond} (h : ∀ w ∈ ws, w ∈ LG) : GoodIn LG ws := fun w hw => ⟨h w hw, LG_good (h w hw)⟩
/-- what is known of a method that is called: its code's word, its class is initialised, how many it takes -/
def cOK (N : MR) (n : Nat) : Prop := Cond.code N.2.2.2.1 N.2.2.1 N.2.2.2.2.1 N.2.2.2.2.2.1 ∈ LG ∧ Cond.initialized N.2.2.2.1.cls ∈ LG ∧ (N.2.2.2.1.cls ≠ "java/lang/invoke/MethodHandle" ∧ N.2.2.2.1.cls ≠ "java/lang/invoke/VarHandle" ∧ (parseMethodDescriptor N.2.2.2.1.desc).map (fun d => d.parameters.length) = some n) ∧ N.2.2.2.2.1 ≤ 21
theorem wsM_in {N : MR} {n : Nat} (h : cOK N n) : ∀ w ∈ wsM N, w ∈ LG := fun w hw => by
  rcases List.mem_cons.mp hw with rfl | hw
  · exact h.1
  · exact hw
theorem cat_map {G : GX} {r0 : List Value} (h : (r0.map Value.category).sum ≤ 8) : ((r0.map (trv G)).map fun v => v.category).sum ≤ 8 := by
  rw [List.map_map]
  have : ((fun v => v.category) ∘ trv G) = Value.category := funext fun v => trv_cat G v
  rw [this]
  exact h
section CROWS
variable {G : GX} {d : Nat} {M N : MR} {j : Nat} {lv : Lc} {r0 vs : List Value} {h h1 : Hp} {r1 : Option Value} {ix n : Nat}
/-- the common part of calls: the room, the callee's start, what comes behind -/
theorem call_go (hn : pcj M (j + 1) = pcj M j + 3) (g : Go G d N 0 (en N vs) [] h r1 h1) (hc : cOK N n)
    (run : ∀ (p : Program) (e : Env) (R : Room) (s : State) (m : MethodId) (args : Array Value) (below : List Frame) (meth : Method) (c : Code) (H : Heap) (locs : List Loc) (cells slots : Nat) (ls : Array Slot), Cx G (d + 1) M p R s m args meth c → hrH G h H → ls.size = M.2.2.2.2.1 →
      ((rmO d h h1).frames + 1 ≤ R.frames ∧ 8 + (N.2.2.2.2.1 + 11) + (rmO d h h1).locals ≤ R.locals) → (cells + (nc h1 - nc h) ≤ R.cells ∧ slots + (ns h1 - ns h) ≤ R.slots) →
      (∀ U : State, U.heap = H → s.WarmedH U.vm → PcO G vs h (vs.map (trv G)).toArray U) → ∃ a, va_Run p G.1 e R s m args below meth c H locs cells slots (nc h1 - nc h) (ns h1 - ns h) (F0 m (pcj M j) ls ((vs.reverse ++ r0).map (trv G))) (r0.map (trv G)) (QcO G r1 h1 a) (GA G)) :
    StepH G (d + 1) M j lv (vs.reverse ++ r0) h (j + 1) lv (r1.toList ++ r0) h1 := fun p e R s m args below meth c H locs cells slots ls Z cx hl hh hS hc0 hc1 hc2 K => by
  refine W.bound (fun hb => ?_)
  have hz := sz_eq cx.sk hh hS (by omega)
  obtain ⟨⟨g1, g2⟩, -⟩ := id g
  obtain ⟨q1, q2⟩ := cx.2.2.2.2.2.2.2.2.1
  have hc4 := hc.2.2.2
  obtain ⟨a, hr⟩ := run p e R s m args below meth c H locs cells slots ls cx hh hl.1 ⟨by show d + 1 ≤ R.frames; exact q1, by show 8 + (N.2.2.2.2.1 + 11) + 40 * d ≤ R.locals; omega⟩ ⟨by omega, by omega⟩ (fun U hU hW => ⟨rfl, SK.moved (locs := locs) cx.sk hW (by rw [hU]; exact hS), by rw [hU]; exact hh, by rw [hU]; exact hz⟩)
  refine run_W hr hS (fun H1 locs1 hh1 hS1 => ?_)
  have z := K H1 locs1 (cells + (nc h1 - nc h)) (slots + (ns h1 - ns h)) ls hl hh1 hS1 (by omega) (by omega)
  rw [hn, List.map_append] at z
  have er : r1.toList.map (trv G) = (r1.map (trv G)).toList := by cases r1 <;> rfl
  rw [er] at z
  exact z
theorem g_callS (hd : decode M.2.2.1 (pcj M j) = .ok (.invokestatic ix, 3)) (hn : pcj M (j + 1) = pcj M j + 3) (hM : mOK N) (hc : cOK N n) (hw : Cond.methodLink M.2.2.2.1.cls ix N.2.2.2.1 ∈ LG) (hs : Cond.static N.2.2.2.1 ∈ LG) (hlen : vs.length = n) (hla : (la vs).length ≤ N.2.2.2.2.1) (hcat : (r0.map Value.category).sum ≤ 8) (g : Go G d N 0 (en N vs) [] h r1 h1) : StepH G (d + 1) M j lv (vs.reverse ++ r0) h (j + 1) lv (r1.toList ++ r0) h1 := by
  refine call_go hn g hc (fun p e R s m args below meth c H locs cells slots ls cx hh hsz hR hf hpc => ⟨_, va_runS (nL := M.2.2.2.2.1) (As := vs.map (trv G)) (Ts := LG) (own := M.2.2.2.1.cls) ⟨cx.1, cx.2.1, cx.2.2.1, cx.own, cx.ws⟩ (g.met hM hla) (va_cwS n cx.ws (LG_GI (fun w hw' => ?_)) rfl rfl rfl hc.2.2.1 hR) ⟨PcO.blind, hpc⟩ rfl (by rw [List.length_map]; exact hlen) hsz (by rw [List.map_append, List.map_reverse]) (lv_room (cat_map hcat)) hd hf⟩)
  unfold va_wsS at hw'
  rcases List.mem_append.mp hw' with h2 | h2
  · simp only [List.mem_cons, List.not_mem_nil, or_false] at h2
    rcases h2 with rfl | rfl | rfl
    · exact hw
    · exact hs
    · exact hc.2.1
  · exact wsM_in hc w h2
theorem g_callV {p0 ci : Nat} {q : vw_C} {vs1 : List Value} (hd : decode M.2.2.1 (pcj M j) = .ok (.invokevirtual ix, 3)) (hn : pcj M (j + 1) = pcj M j + 3) (hM : mOK N) (hc : cOK N n) (hw : Cond.methodLink M.2.2.2.1.cls ix N.2.2.2.1 ∈ LG) (hs : Cond.instanceMethod N.2.2.2.1 ∈ LG) (hsel : Cond.selects N.2.2.2.1.cls N.2.2.2.1 N.2.2.2.1 ∈ LG) (hq : vwCl[ci]? = some q) (hcl : N.2.2.2.1.cls = q.1) (ok : okB h p0 ci = true) (hvs : vs = .ref p0 :: vs1) (hlen : vs1.length = n) (hla : (la vs).length ≤ N.2.2.2.2.1) (hcat : (r0.map Value.category).sum ≤ 8) (g : Go G d N 0 (en N vs) [] h r1 h1) : StepH G (d + 1) M j lv (vs.reverse ++ r0) h (j + 1) lv (r1.toList ++ r0) h1 := by
  subst hvs
  refine call_go hn g hc (fun p e R s m args below meth c H locs cells slots ls cx hh hsz hR hf hpc => ?_)
  obtain ⟨ha, hci⟩ := okB_al hh.1 ok
  have hlt : (SH p0).1 < 20 := by have := (List.getElem?_eq_some_iff.mp hq).1; rw [vw_len] at this; omega
  have he := wsO_at (G := G) hh.1 ha
  rw [cell_o hlt, hci] at he
  have hrecv := va_recv cx.sk.1 hh.2.1 hq he
  rw [← hcl] at hrecv
  refine ⟨_, va_runV (nL := M.2.2.2.2.1) (b := G.2.2.2.1 p0) (As := vs1.map (trv G)) (Ts := LG) (own := M.2.2.2.1.cls) (C := N.2.2.2.1.cls) ⟨cx.1, cx.2.1, cx.2.2.1, cx.own, cx.ws⟩ (g.met hM hla) (cwV n cx.ws (LG_GI (fun w hw' => ?_)) rfl rfl rfl ⟨rfl, hc.2.2.1⟩ hR) ⟨PcO.blind, hrecv, hpc⟩ rfl (by rw [List.length_map]; exact hlen) hsz (by simp [List.map_append, List.map_reverse, trv]) (lv_room (cat_map hcat)) hd hf⟩
  unfold wsV at hw'
  rcases List.mem_append.mp hw' with h2 | h2
  · simp only [List.mem_cons, List.not_mem_nil, or_false] at h2
    rcases h2 with rfl | rfl | rfl | rfl
    · exact hw
    · exact hs
    · exact hsel
    · exact hc.2.1
  · exact wsM_in hc w h2
theorem g_callI {p0 : Nat} {vs1 : List Value} (hd : decode M.2.2.1 (pcj M j) = .ok (.invokespecial ix, 3)) (hn : pcj M (j + 1) = pcj M j + 3) (hM : mOK N) (hc : cOK N n) (hw : Cond.methodLink M.2.2.2.1.cls ix N.2.2.2.1 ∈ LG) (hs : Cond.instanceMethod N.2.2.2.1 ∈ LG) (hnm : N.2.2.2.1.name = "<init>") (hrt : N.2.2.2.2.2.1 = none) (hvs : vs = .ref p0 :: vs1) (hlen : vs1.length = n) (hla : (la vs).length ≤ N.2.2.2.2.1) (hcat : (r0.map Value.category).sum ≤ 8) (g : Go G d N 0 (en N vs) [] h r1 h1) : StepH G (d + 1) M j lv (vs.reverse ++ r0) h (j + 1) lv (r1.toList ++ r0) h1 := by
  subst hvs
  refine call_go hn g hc (fun p e R s m args below meth c H locs cells slots ls cx hh hsz hR hf hpc => ⟨_, va_runI (nL := M.2.2.2.2.1) (b := G.2.2.2.1 p0) (As := vs1.map (trv G)) (Ts := LG) (own := M.2.2.2.1.cls) ⟨cx.1, cx.2.1, cx.2.2.1, cx.own, cx.ws⟩ (g.met hM hla) (cwI n cx.ws (LG_GI (wsM_in hc)) (by unfold wsM; rw [hrt]) rfl rfl (cx.ws _ hc.2.1) (cx.ws _ hw) (cx.ws _ hs) hnm hc.2.2.1 hR) ⟨PcO.blind, hpc⟩ rfl (by rw [List.length_map]; exact hlen) hsz (by simp [List.map_append, List.map_reverse, trv]) (lv_room (cat_map hcat)) hd hf⟩)
theorem g_callSN (hd : decode M.2.2.1 (pcj M j) = .ok (.invokestatic ix, 3)) (hn : pcj M (j + 1) = pcj M j + 3) (hM : mOK N) (hc : cOK N n) {qi : Nat × Nat × Nat} (hq : qi ∈ MNF) (ho : ONL.getD qi.1 "" = M.2.2.2.1.cls) (hi : qi.2.1 = ix) (hN : (mt qi.2.2).2.2.2.1 = N.2.2.2.1) (hs : Cond.static N.2.2.2.1 ∈ LG) (hlen : vs.length = n) (hla : (la vs).length ≤ N.2.2.2.2.1) (hcat : (r0.map Value.category).sum ≤ 8) (g : Go G d N 0 (en N vs) [] h r1 h1) : StepH G (d + 1) M j lv (vs.reverse ++ r0) h (j + 1) lv (r1.toList ++ r0) h1 := by
  refine call_go hn g hc (fun p e R s m args below meth c H locs cells slots ls cx hh hsz hR hf hpc => ?_)
  have hnest := cx.sk.2.2.2.2.2.2.1 qi hq
  rw [ho, hi, hN] at hnest
  exact ⟨_, va_runSN (nL := M.2.2.2.2.1) (As := vs.map (trv G)) (Ts := LG) (own := M.2.2.2.1.cls) ⟨cx.1, cx.2.1, cx.2.2.1, cx.own, cx.ws⟩ (g.met hM hla) ⟨va_cnB n cx.ws (LG_GI (wsM_in hc)) rfl rfl rfl hnest (cx.ws _ hc.2.1) hc.2.2.1 hR, cx.ws _ hs, trivial⟩ ⟨PcO.blind, hpc⟩ rfl (by rw [List.length_map]; exact hlen) hsz (by rw [List.map_append, List.map_reverse]) (lv_room (cat_map hcat)) hd hf⟩
theorem g_callIN {p0 : Nat} {vs1 : List Value} (hd : decode M.2.2.1 (pcj M j) = .ok (.invokespecial ix, 3)) (hn : pcj M (j + 1) = pcj M j + 3) (hM : mOK N) (hc : cOK N n) {qi : Nat × Nat × Nat} (hq : qi ∈ MNF) (ho : ONL.getD qi.1 "" = M.2.2.2.1.cls) (hi : qi.2.1 = ix) (hN : (mt qi.2.2).2.2.2.1 = N.2.2.2.1) (hs : Cond.instanceMethod N.2.2.2.1 ∈ LG) (hnm : N.2.2.2.1.name = "<init>") (hrt : N.2.2.2.2.2.1 = none) (hvs : vs = .ref p0 :: vs1) (hlen : vs1.length = n) (hla : (la vs).length ≤ N.2.2.2.2.1) (hcat : (r0.map Value.category).sum ≤ 8) (g : Go G d N 0 (en N vs) [] h r1 h1) : StepH G (d + 1) M j lv (vs.reverse ++ r0) h (j + 1) lv (r1.toList ++ r0) h1 := by
  subst hvs
  refine call_go hn g hc (fun p e R s m args below meth c H locs cells slots ls cx hh hsz hR hf hpc => ?_)
  have hnest := cx.sk.2.2.2.2.2.2.1 qi hq
  rw [ho, hi, hN] at hnest
  exact ⟨_, va_runIN (nL := M.2.2.2.2.1) (b := G.2.2.2.1 p0) (As := vs1.map (trv G)) (Ts := LG) (own := M.2.2.2.1.cls) ⟨cx.1, cx.2.1, cx.2.2.1, cx.own, cx.ws⟩ (g.met hM hla) ⟨va_cnB n cx.ws (LG_GI (wsM_in hc)) (by unfold wsM; rw [hrt]) rfl rfl hnest (cx.ws _ hc.2.1) hc.2.2.1 hR, hnm, cx.ws _ hs⟩ ⟨PcO.blind, hpc⟩ rfl (by rw [List.length_map]; exact hlen) hsz (by simp [List.map_append, List.map_reverse, trv]) (lv_room (cat_map hcat)) hd hf⟩
end CROWS
