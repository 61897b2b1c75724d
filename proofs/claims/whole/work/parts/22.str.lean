/-! CONSTANT TEXTS: loaded, their length, their signs -/
def PcS (G : GX) (vs : List Value) : Array Value → State → Prop := fun a U => a = vs.toArray ∧ SK G U
def QcS (r : Option Value) : Array Value → State → Outcome → State → Prop := fun _ st oc t => oc = .returned r ∧ t.heap = st.heap
def rmS (d : Nat) : Room := { frames := d, cells := 0, slots := 0, locals := 40 * d }
def MtS (G : GX) (i d : Nat) (vs : List Value) (r : Option Value) : Prop := Met G.1 (yM i) (wsM (mt i)) (rmS d) (PcS G vs) (QcS r) 0 0 (fun _ => False)
theorem PcS.blind {G : GX} {vs : List Value} : FrameBlind (PcS G vs) := fun a U g mk q => ⟨q.1, q.2.same rfl rfl⟩
theorem run_same {p : Program} {l : Launch} {e : Env} {R : Room} {s : State} {m : MethodId} {args : Array Value} {below : List Frame} {meth : Method} {c : Code} {H : Heap} {locs : List Loc} {cells slots pc : Nat} {ls : Array Slot} {st0 rest : List Value} {Z : State → Prop} {r : Option Value} {a : Array Value}
    (hr : va_Run p l e R s m args below meth c H locs cells slots 0 0 (F0 m pc ls st0) rest (QcS r a) (fun _ => False)) (kk : W p l e R s m args below meth c H locs cells slots Z (F0 m (pc + 3) ls (r.toList ++ rest))) : W p l e R s m args below meth c H locs cells slots Z (F0 m pc ls st0) := by
  intro T hT X
  obtain ⟨v, st₀, t, T', L, h0, X', hL, e1, e2, ⟨hv, hb⟩, st⟩ := hr T hT X
  cases hv
  have hnil : L = [] := by
    cases L with
    | nil => rfl
    | cons q L => exact (hL q List.mem_cons_self).elim
  subst hnil
  rw [List.append_nil] at X'
  obtain ⟨t2, a1, b1⟩ := kk T' (by rw [e1, hb, h0]) X'
  exact ⟨t2, st t2 a1, b1⟩
theorem st_body {G : GX} {i d : Nat} {vs : List Value} {r : Option Value} (hp : plainName (yM i).cls = true) (hlen : (lg_sl vs).length ≤ (mt i).2.2.2.2.1)
    (body : ∀ (p : Program) (e : Env) (s : State) (m : MethodId) (args : Array Value) (below : List Frame) (meth : Method) (c : Code) (ls : Array Slot), p.tables.exec = Jvm.exec → c.code = (mt i).2.2.1 → c.maxLocals = (mt i).2.2.2.2.1 → s.vm.findClass (yM i).cls = some m.cls → (∀ w ∈ LG, w.before args s = true) → meth.sig.returnType = (mt i).2.2.2.2.2.1 → meth.locks = false → SK G s → lv_has ls (mt i).2.2.2.2.1 (lv_args 0 vs) →
      W p G.1 e (rmS d) s m args below meth c s.heap [] 0 0 (MQ below (QcS r) args s 0 0 (fun _ => False)) (F0 m 0 ls [])) : MtS G i d vs r := by
  refine Met.ofW (cc := (mt i).2.2.1) (maxL := (mt i).2.2.2.2.1) (ret := (mt i).2.2.2.2.2.1) hp rfl ?_
  intro p e s m args below meth c s₁ B hml hv
  obtain ⟨rfl, hsk⟩ := hv
  have hts := atoms_spec (ws := wsM (mt i)) B.pre
  rw [lg_entry_eq]
  exact body p e s m vs.toArray below meth c _ B.exec B.bytes hml (findClass_of_methodNamed B.named) (fun w hw => hts w (List.mem_cons_of_mem _ hw)) B.returns B.notSynchronized hsk (lv_entry vs hlen)
section SCALL
variable {p : Program} {G : GX} {e : Env} {R : Room} {s : State} {m : MethodId} {args : Array Value} {below : List Frame} {meth : Method} {c : Code} {H : Heap} {locs : List Loc} {cells slots pc nL : Nat} {ls : Array Slot} {rest vs : List Value} {Z : State → Prop} {r : Option Value} {cc : ByteArray} {own : String} {i d n ix : Nat}
theorem sc_S (hx : p.tables.exec = Jvm.exec) (hb : c.code = cc) (hml : c.maxLocals = nL) (hown : s.vm.findClass own = some m.cls) (hts : ∀ w ∈ LG, w.before args s = true) (hsk : SK G s) (hS : va_S (GA G) s.heap H locs) (hsz : ls.size = nL) (hM : MtS G i d vs r) (hc : calB i n = true) (hw : Cond.methodLink own ix (yM i) ∈ LG) (hs : Cond.static (yM i) ∈ LG) (hlen : vs.length = n) (hcat : (rest.map fun v => v.category).sum ≤ 8) (hR : d + 1 ≤ R.frames ∧ 40 * (d + 1) ≤ R.locals) (hf : cells ≤ R.cells ∧ slots ≤ R.slots) (hd : decode cc pc = .ok (.invokestatic ix, 3))
    (kk : W p G.1 e R s m args below meth c H locs cells slots Z (F0 m (pc + 3) ls (r.toList ++ rest))) : W p G.1 e R s m args below meth c H locs cells slots Z (F0 m pc ls (vs.reverse ++ rest)) := by
  have hcc := (cal_ok hc).2
  have h21 := hcc.2.2.2
  refine run_same (a := vs.toArray) (va_runS (nL := nL) (As := vs) (Ts := LG) (own := own) ⟨hx, hb, hml, hown, hts⟩ hM (va_cwS n hts (LG_GI (fun w hw' => ?_)) rfl rfl rfl hcc.2.2.1 ⟨hR.1, by show 8 + ((mt i).2.2.2.2.1 + 11) + 40 * d ≤ R.locals; omega⟩) ⟨PcS.blind, fun U hU hW => ⟨rfl, SK.moved (locs := locs) hsk hW (by rw [hU]; exact hS)⟩⟩ rfl hlen hsz rfl (lv_room hcat) hd hf) kk
  unfold va_wsS at hw'
  rcases List.mem_append.mp hw' with h2 | h2
  · simp only [List.mem_cons, List.not_mem_nil, or_false] at h2
    rcases h2 with rfl | rfl | rfl
    · exact hw
    · exact hs
    · exact hcc.2.1
  · exact wsM_in hcc w h2
theorem sc_V {q : Nat} (hx : p.tables.exec = Jvm.exec) (hb : c.code = cc) (hml : c.maxLocals = nL) (hown : s.vm.findClass own = some m.cls) (hts : ∀ w ∈ LG, w.before args s = true) (hsk : SK G s) (hS : va_S (GA G) s.heap H locs) (hsz : ls.size = nL) (hM : MtS G i d (.ref (G.2.2.2.1 (100000 + q)) :: vs) r) (hq : q < 16) (hcl : (yM i).cls = "java/lang/String") (hc : calB i n = true) (hw : Cond.methodLink own ix (yM i) ∈ LG) (hs : Cond.instanceMethod (yM i) ∈ LG) (hsel : Cond.selects (yM i).cls (yM i) (yM i) ∈ LG) (hlen : vs.length = n) (hcat : (rest.map fun v => v.category).sum ≤ 8) (hR : d + 1 ≤ R.frames ∧ 40 * (d + 1) ≤ R.locals) (hf : cells ≤ R.cells ∧ slots ≤ R.slots) (hd : decode cc pc = .ok (.invokevirtual ix, 3))
    (kk : W p G.1 e R s m args below meth c H locs cells slots Z (F0 m (pc + 3) ls (r.toList ++ rest))) : W p G.1 e R s m args below meth c H locs cells slots Z (F0 m pc ls (vs.reverse ++ .ref (G.2.2.2.1 (100000 + q)) :: rest)) := by
  have hcc := (cal_ok hc).2
  have h21 := hcc.2.2.2
  have hrecv := vk_recv hsk.2.2.2.2.2.2.2.2.1.1 hq hS
  rw [← hcl] at hrecv
  refine run_same (a := (Value.ref (G.2.2.2.1 (100000 + q)) :: vs).toArray) (va_runV (nL := nL) (b := G.2.2.2.1 (100000 + q)) (As := vs) (Ts := LG) (own := own) (C := (yM i).cls) ⟨hx, hb, hml, hown, hts⟩ hM (cwV n hts (LG_GI (fun w hw' => ?_)) rfl rfl rfl ⟨rfl, hcc.2.2.1⟩ ⟨hR.1, by show 8 + ((mt i).2.2.2.2.1 + 11) + 40 * d ≤ R.locals; omega⟩) ⟨PcS.blind, hrecv, fun U hU hW => ⟨rfl, SK.moved (locs := locs) hsk hW (by rw [hU]; exact hS)⟩⟩ rfl hlen hsz rfl (lv_room hcat) hd hf) kk
  unfold wsV at hw'
  rcases List.mem_append.mp hw' with h2 | h2
  · simp only [List.mem_cons, List.not_mem_nil, or_false] at h2
    rcases h2 with rfl | rfl | rfl | rfl
    · exact hw
    · exact hs
    · exact hsel
    · exact hcc.2.1
  · exact wsM_in hcc w h2
end SCALL
theorem no_loc {P : Nat → Prop} : ∀ q ∈ ([] : List Loc), P q.base := fun q h => by cases h
theorem tb_ss : ∀ w ∈ [Cond.fieldLink "java/lang/String" 38 "java/lang/String" "COMPACT_STRINGS" "Z", Cond.fieldLink "java/lang/String" 1053 "jdk/internal/util/Preconditions" "SIOOBE_FORMATTER" "Ljava/util/function/BiFunction;", Cond.fieldLink "java/lang/String" 9 "java/lang/String" "value" "[B", Cond.fieldLink "java/lang/String" 15 "java/lang/String" "coder" "B"], w ∈ LG := fun w hw => LG_in ((by decide +kernel : ∀ w ∈ [Cond.fieldLink "java/lang/String" 38 "java/lang/String" "COMPACT_STRINGS" "Z", Cond.fieldLink "java/lang/String" 1053 "jdk/internal/util/Preconditions" "SIOOBE_FORMATTER" "Ljava/util/function/BiFunction;", Cond.fieldLink "java/lang/String" 9 "java/lang/String" "value" "[B", Cond.fieldLink "java/lang/String" 15 "java/lang/String" "coder" "B"], w ∈ lw_tbl) w hw) ((by decide +kernel : ∀ w ∈ [Cond.fieldLink "java/lang/String" 38 "java/lang/String" "COMPACT_STRINGS" "Z", Cond.fieldLink "java/lang/String" 1053 "jdk/internal/util/Preconditions" "SIOOBE_FORMATTER" "Ljava/util/function/BiFunction;", Cond.fieldLink "java/lang/String" 9 "java/lang/String" "value" "[B", Cond.fieldLink "java/lang/String" 15 "java/lang/String" "coder" "B"], goodWord w = true) w hw)
theorem mlw {o ix k : Nat} (h : (o, ix, k) ∈ MLF) : Cond.methodLink (ONL.getD o "") ix (yM k) ∈ LG := tb_ml _ (List.mem_map.mpr ⟨_, h, rfl⟩)
theorem smw {k : Nat} (h : k ∈ SMF) : Cond.static (yM k) ∈ LG := tb_sm _ (List.mem_map.mpr ⟨_, h, rfl⟩)
theorem imw {k : Nat} (h : k ∈ IMF) : Cond.instanceMethod (yM k) ∈ LG := tb_im _ (List.mem_map.mpr ⟨_, h, rfl⟩)
theorem slw {k : Nat} (h : k ∈ SLF) : Cond.selects (yM k).cls (yM k) (yM k) ∈ LG := tb_sl _ (List.mem_map.mpr ⟨_, h, rfl⟩)
/-- String.coder(): 0 -/
theorem m_coder (G : GX) (q : Nat) (hq : q < 16) : MtS G 127 2 [.ref (G.2.2.2.1 (100000 + q))] (some (.int 0)) := by
  refine st_body (by decide +kernel) (by show 1 ≤ 1; omega) (fun p e s m args below meth c ls hx hb hml hown hts hr hlocks hsk hl => ?_)
  have hl : lv_has ls 1 [(0, .ref (G.2.2.2.1 (100000 + q)))] := hl
  have hS : va_S (GA G) s.heap s.heap [] := va_S.rf
  have hown : s.vm.findClass "java/lang/String" = some m.cls := hown
  obtain ⟨hz1, hz2⟩ := hsk.2.2.2.2.2.2.2.2.2.1
  refine va_gets hx hb hz1 hS hown (hts _ (tb_ss _ (by simp))) (fun x h => h) (by decide +kernel : decode (mt 127).2.2.1 0 = .ok (.getstatic 38, 3)) ?_
  refine lv_if_eq (tgt := 13) hx hb (by decide +kernel : decode (mt 127).2.2.1 3 = .ok (.ifCond .eq 10, 3)) (by decide) (fun z => absurd z (by decide)) (fun _ => ?_)
  refine lv_aload_n hx hb (by decide +kernel : decode (mt 127).2.2.1 6 = .ok (.aload_n 0, 1)) rfl (lv_at hl 0 rfl) ?_
  refine vk_getf hx hb (hsk.2.2.2.2.2.2.2.2.1.1.1 q hq).2.1 hS hown (hts _ (tb_ss _ (by simp))) (fun x h => h) (by decide +kernel : decode (mt 127).2.2.1 7 = .ok (.getfield 15, 3)) ?_
  refine lv_goto (tgt := 14) hx hb (by decide +kernel : decode (mt 127).2.2.1 10 = .ok (.goto 4, 3)) (by decide) ?_
  exact W.zret (ty := .byte) hx hb hr (by decide +kernel) (fun t ht _ => ⟨rfl, ht⟩) no_loc (by decide +kernel : decode (mt 127).2.2.1 14 = .ok (.ireturn, 1)) hlocks
theorem str_len : ∀ q, q < 16 → (stL.map List.length).getD q 0 = (stL.getD q []).length := by decide +kernel
theorem str_b : ∀ q, q < 16 → ∀ j, j < (stL.getD q []).length → ((stL.getD q []).getD j 0 &&& 255 = (stL.getD q []).getD j 0) ∧ (((stL.getD q []).getD j 0).toUInt32 % 65536).toInt32 = (stL.getD q []).getD j 0 ∧ narrow .char (.int ((stL.getD q []).getD j 0)) = .int ((stL.getD q []).getD j 0) := by decide +kernel
/-- String.isLatin1(): 1 -/
theorem m_latin (G : GX) (q : Nat) (hq : q < 16) : MtS G 129 2 [.ref (G.2.2.2.1 (100000 + q))] (some (.int 1)) := by
  refine st_body (by decide +kernel) (by show 1 ≤ 1; omega) (fun p e s m args below meth c ls hx hb hml hown hts hr hlocks hsk hl => ?_)
  have hl : lv_has ls 1 [(0, .ref (G.2.2.2.1 (100000 + q)))] := hl
  have hS : va_S (GA G) s.heap s.heap [] := va_S.rf
  have hown : s.vm.findClass "java/lang/String" = some m.cls := hown
  obtain ⟨hz1, hz2⟩ := hsk.2.2.2.2.2.2.2.2.2.1
  refine va_gets hx hb hz1 hS hown (hts _ (tb_ss _ (by simp))) (fun x h => h) (by decide +kernel : decode (mt 129).2.2.1 0 = .ok (.getstatic 38, 3)) ?_
  refine lv_if_eq (tgt := 17) hx hb (by decide +kernel : decode (mt 129).2.2.1 3 = .ok (.ifCond .eq 14, 3)) (by decide) (fun z => absurd z (by decide)) (fun _ => ?_)
  refine lv_aload_n hx hb (by decide +kernel : decode (mt 129).2.2.1 6 = .ok (.aload_n 0, 1)) rfl (lv_at hl 0 rfl) ?_
  refine vk_getf hx hb (hsk.2.2.2.2.2.2.2.2.1.1.1 q hq).2.1 hS hown (hts _ (tb_ss _ (by simp))) (fun x h => h) (by decide +kernel : decode (mt 129).2.2.1 7 = .ok (.getfield 15, 3)) ?_
  refine lv_if_ne (tgt := 17) hx hb (by decide +kernel : decode (mt 129).2.2.1 10 = .ok (.ifCond .ne 7, 3)) (by decide) (fun z => absurd rfl z) (fun _ => ?_)
  refine lv_iconst (v := 1) hx hb (by decide +kernel : decode (mt 129).2.2.1 13 = .ok (.iconst 1, 1)) (by decide) ?_
  refine lv_goto (tgt := 18) hx hb (by decide +kernel : decode (mt 129).2.2.1 14 = .ok (.goto 4, 3)) (by decide) ?_
  exact W.zret (ty := .boolean) hx hb hr (by decide +kernel) (fun t ht _ => ⟨rfl, ht⟩) no_loc (by decide +kernel : decode (mt 129).2.2.1 18 = .ok (.ireturn, 1)) hlocks
/-- String.length() -/
theorem m_length (G : GX) (q : Nat) (hq : q < 16) : MtS G 126 3 [.ref (G.2.2.2.1 (100000 + q))] (some (.int (Int32.ofNat (stL.getD q []).length))) := by
  refine st_body (by decide +kernel) (by show 1 ≤ 1; omega) (fun p e s m args below meth c ls hx hb hml hown hts hr hlocks hsk hl => ?_)
  have hl : lv_has ls 1 [(0, .ref (G.2.2.2.1 (100000 + q)))] := hl
  have hS : va_S (GA G) s.heap s.heap [] := va_S.rf
  have hown : s.vm.findClass "java/lang/String" = some m.cls := hown
  obtain ⟨h1, h2, h3, h4⟩ := hsk.2.2.2.2.2.2.2.2.1.1.1 q hq
  refine lv_aload_n hx hb (by decide +kernel : decode (mt 126).2.2.1 0 = .ok (.aload_n 0, 1)) rfl (lv_at hl 0 rfl) ?_
  refine vk_getf hx hb h3 hS hown (hts _ (tb_ss _ (by simp))) (fun x h => h) (by decide +kernel : decode (mt 126).2.2.1 1 = .ok (.getfield 9, 3)) ?_
  refine va_tlen hx hb h4 hS (v := Int32.ofNat (stL.getD q []).length) (by rw [str_len q hq]) (by decide +kernel : decode (mt 126).2.2.1 4 = .ok (.arraylength, 1)) ?_
  refine lv_aload_n hx hb (by decide +kernel : decode (mt 126).2.2.1 5 = .ok (.aload_n 0, 1)) rfl (lv_at hl 0 rfl) ?_
  refine sc_V (vs := []) (q := q) hx hb hml hown hts hsk hS hl.1 (m_coder G q hq) hq rfl (by decide +kernel : calB 127 0 = true) (mlw (o := 16) (by decide +kernel)) (imw (by decide +kernel)) (slw (by decide +kernel)) rfl (by show 1 ≤ 8; omega) ⟨by show 3 ≤ 3; omega, by show 40 * 3 ≤ 40 * 3; omega⟩ ⟨Nat.le_refl _, Nat.le_refl _⟩ (by decide +kernel : decode (mt 126).2.2.1 6 = .ok (.invokevirtual 335, 3)) ?_
  refine lv_ishr hx hb (by decide +kernel : decode (mt 126).2.2.1 9 = .ok (.ishr, 1)) ?_
  rw [sb_shr0]
  exact W.iret hx hb hr (fun t ht _ => ⟨rfl, ht⟩) no_loc (by decide +kernel : decode (mt 126).2.2.1 10 = .ok (.ireturn, 1)) hlocks
/-- Preconditions.checkIndex: within -/
theorem m_pre0 (G : GX) (i n : Int32) (h0 : 0 ≤ i) (hn : i < n) : MtS G 132 0 [.int i, .int n, .null] (some (.int i)) := by
  refine st_body (by decide +kernel) (by show 3 ≤ 3; omega) (fun p e s m args below meth c ls hx hb hml hown hts hr hlocks hsk hl => ?_)
  have hl : lv_has ls 3 [(0, .int i), (1, .int n), (2, .null)] := hl
  have hS : va_S (GA G) s.heap s.heap [] := va_S.rf
  have hown : s.vm.findClass "jdk/internal/util/Preconditions" = some m.cls := hown
  refine lv_iload_n hx hb (by decide +kernel : decode (mt 132).2.2.1 0 = .ok (.iload_n 0, 1)) rfl (lv_at hl 0 rfl) ?_
  refine lv_if_lt (tgt := 9) hx hb (by decide +kernel : decode (mt 132).2.2.1 1 = .ok (.ifCond .lt 8, 3)) (by decide) (fun z => absurd z (Int32.not_lt.mpr h0)) (fun _ => ?_)
  refine lv_iload_n hx hb (by decide +kernel : decode (mt 132).2.2.1 4 = .ok (.iload_n 0, 1)) rfl (lv_at hl 0 rfl) ?_
  refine lv_iload_n hx hb (by decide +kernel : decode (mt 132).2.2.1 5 = .ok (.iload_n 1, 1)) rfl (lv_at hl 1 rfl) ?_
  refine lv_icmp_lt (tgt := 16) hx hb (by decide +kernel : decode (mt 132).2.2.1 6 = .ok (.if_icmp .lt 10, 3)) (by decide) (fun _ => ?_) (fun z => absurd hn z)
  refine lv_iload_n hx hb (by decide +kernel : decode (mt 132).2.2.1 16 = .ok (.iload_n 0, 1)) rfl (lv_at hl 0 rfl) ?_
  exact W.iret hx hb hr (fun t ht _ => ⟨rfl, ht⟩) no_loc (by decide +kernel : decode (mt 132).2.2.1 17 = .ok (.ireturn, 1)) hlocks
/-- Preconditions.checkIndex: within -/
theorem m_preR (G : GX) (t : Nat) (i n : Int32) (h0 : 0 ≤ i) (hn : i < n) : MtS G 132 0 [.int i, .int n, .ref t] (some (.int i)) := by
  refine st_body (by decide +kernel) (by show 3 ≤ 3; omega) (fun p e s m args below meth c ls hx hb hml hown hts hr hlocks hsk hl => ?_)
  have hl : lv_has ls 3 [(0, .int i), (1, .int n), (2, .ref t)] := hl
  have hS : va_S (GA G) s.heap s.heap [] := va_S.rf
  have hown : s.vm.findClass "jdk/internal/util/Preconditions" = some m.cls := hown
  refine lv_iload_n hx hb (by decide +kernel : decode (mt 132).2.2.1 0 = .ok (.iload_n 0, 1)) rfl (lv_at hl 0 rfl) ?_
  refine lv_if_lt (tgt := 9) hx hb (by decide +kernel : decode (mt 132).2.2.1 1 = .ok (.ifCond .lt 8, 3)) (by decide) (fun z => absurd z (Int32.not_lt.mpr h0)) (fun _ => ?_)
  refine lv_iload_n hx hb (by decide +kernel : decode (mt 132).2.2.1 4 = .ok (.iload_n 0, 1)) rfl (lv_at hl 0 rfl) ?_
  refine lv_iload_n hx hb (by decide +kernel : decode (mt 132).2.2.1 5 = .ok (.iload_n 1, 1)) rfl (lv_at hl 1 rfl) ?_
  refine lv_icmp_lt (tgt := 16) hx hb (by decide +kernel : decode (mt 132).2.2.1 6 = .ok (.if_icmp .lt 10, 3)) (by decide) (fun _ => ?_) (fun z => absurd hn z)
  refine lv_iload_n hx hb (by decide +kernel : decode (mt 132).2.2.1 16 = .ok (.iload_n 0, 1)) rfl (lv_at hl 0 rfl) ?_
  exact W.iret hx hb hr (fun t ht _ => ⟨rfl, ht⟩) no_loc (by decide +kernel : decode (mt 132).2.2.1 17 = .ok (.ireturn, 1)) hlocks
/-- String.checkIndex: within -/
theorem m_chk (G : GX) (i n : Int32) (h0 : 0 ≤ i) (hn : i < n) : MtS G 131 1 [.int i, .int n] none := by
  refine st_body (by decide +kernel) (by show 2 ≤ 2; omega) (fun p e s m args below meth c ls hx hb hml hown hts hr hlocks hsk hl => ?_)
  have hl : lv_has ls 2 [(0, .int i), (1, .int n)] := hl
  have hS : va_S (GA G) s.heap s.heap [] := va_S.rf
  have hown : s.vm.findClass "java/lang/String" = some m.cls := hown
  obtain ⟨hz1, hz2⟩ := hsk.2.2.2.2.2.2.2.2.2.1
  refine lv_iload_n hx hb (by decide +kernel : decode (mt 131).2.2.1 0 = .ok (.iload_n 0, 1)) rfl (lv_at hl 0 rfl) ?_
  refine lv_iload_n hx hb (by decide +kernel : decode (mt 131).2.2.1 1 = .ok (.iload_n 1, 1)) rfl (lv_at hl 1 rfl) ?_
  rcases hz2 with hz | ⟨t, hz⟩
  · refine va_gets hx hb hz hS hown (hts _ (tb_ss _ (by simp))) (fun x h => h) (by decide +kernel : decode (mt 131).2.2.1 2 = .ok (.getstatic 1053, 3)) ?_
    refine sc_S (vs := [.int i, .int n, .null]) (rest := []) hx hb hml hown hts hsk hS hl.1 (m_pre0 G i n h0 hn) (by decide +kernel : calB 132 3 = true) (mlw (o := 16) (by decide +kernel)) (smw (by decide +kernel)) rfl (by show 0 ≤ 8; omega) ⟨by show 1 ≤ 1; omega, by show 40 * 1 ≤ 40 * 1; omega⟩ ⟨Nat.le_refl _, Nat.le_refl _⟩ (by decide +kernel : decode (mt 131).2.2.1 5 = .ok (.invokestatic 1059, 3)) ?_
    refine lv_pop (va := .int i) hx hb (by decide +kernel : decode (mt 131).2.2.1 8 = .ok (.pop, 1)) rfl ?_
    exact W.vret hx hb hr (fun t ht _ => ⟨rfl, ht⟩) no_loc (by decide +kernel : decode (mt 131).2.2.1 9 = .ok (.return_, 1)) hlocks
  · refine va_gets hx hb hz hS hown (hts _ (tb_ss _ (by simp))) (fun x h => h) (by decide +kernel : decode (mt 131).2.2.1 2 = .ok (.getstatic 1053, 3)) ?_
    refine sc_S (vs := [.int i, .int n, .ref t]) (rest := []) hx hb hml hown hts hsk hS hl.1 (m_preR G t i n h0 hn) (by decide +kernel : calB 132 3 = true) (mlw (o := 16) (by decide +kernel)) (smw (by decide +kernel)) rfl (by show 0 ≤ 8; omega) ⟨by show 1 ≤ 1; omega, by show 40 * 1 ≤ 40 * 1; omega⟩ ⟨Nat.le_refl _, Nat.le_refl _⟩ (by decide +kernel : decode (mt 131).2.2.1 5 = .ok (.invokestatic 1059, 3)) ?_
    refine lv_pop (va := .int i) hx hb (by decide +kernel : decode (mt 131).2.2.1 8 = .ok (.pop, 1)) rfl ?_
    exact W.vret hx hb hr (fun t ht _ => ⟨rfl, ht⟩) no_loc (by decide +kernel : decode (mt 131).2.2.1 9 = .ok (.return_, 1)) hlocks
theorem ix_lt {i : Int32} {n : Nat} (hn : n < 2 ^ 31) (h : ixB i n = true) : 0 ≤ i ∧ i < Int32.ofNat n := by
  obtain ⟨j, hj, rfl⟩ := vp_in_of (ixB_in h) hn
  exact ⟨nI_pos' (by omega), nI_lt hj hn⟩
theorem str_sm : ∀ q, q < 16 → (stL.getD q []).length < 2 ^ 31 := by decide +kernel
/-- StringLatin1.charAt -/
theorem m_l1 (G : GX) (q : Nat) (hq : q < 16) (i : Int32) (hi : ixB i (stL.getD q []).length = true) : MtS G 130 2 [.ref (G.2.2.2.1 (100200 + q)), .int i] (some (.int ((stL.getD q []).getD i.toNatClampNeg 0))) := by
  refine st_body (by decide +kernel) (by show 2 ≤ 2; omega) (fun p e s m args below meth c ls hx hb hml hown hts hr hlocks hsk hl => ?_)
  have hl : lv_has ls 2 [(0, .ref (G.2.2.2.1 (100200 + q))), (1, .int i)] := hl
  have hS : va_S (GA G) s.heap s.heap [] := va_S.rf
  have hown : s.vm.findClass "java/lang/StringLatin1" = some m.cls := hown
  obtain ⟨h1, h2, h3, h4⟩ := hsk.2.2.2.2.2.2.2.2.1.1.1 q hq
  rw [str_len q hq] at h4
  obtain ⟨i0, i1⟩ := ix_lt (str_sm q hq) hi
  have hin := ixB_in hi
  have hlt : i.toNatClampNeg < (stL.getD q []).length := Nat.not_le.mp fun z => hin (Or.inr z)
  obtain ⟨b1, b2, b3⟩ := str_b q hq i.toNatClampNeg hlt
  refine lv_iload_n hx hb (by decide +kernel : decode (mt 130).2.2.1 0 = .ok (.iload_n 1, 1)) rfl (lv_at hl 1 rfl) ?_
  refine lv_aload_n hx hb (by decide +kernel : decode (mt 130).2.2.1 1 = .ok (.aload_n 0, 1)) rfl (lv_at hl 0 rfl) ?_
  refine va_tlen hx hb h4 hS (v := Int32.ofNat (stL.getD q []).length) rfl (by decide +kernel : decode (mt 130).2.2.1 2 = .ok (.arraylength, 1)) ?_
  refine sc_S (vs := [.int i, .int (Int32.ofNat (stL.getD q []).length)]) (rest := []) hx hb hml hown hts hsk hS hl.1 (m_chk G i _ i0 i1) (by decide +kernel : calB 131 2 = true) (mlw (o := 17) (by decide +kernel)) (smw (by decide +kernel)) rfl (by show 0 ≤ 8; omega) ⟨by show 2 ≤ 2; omega, by show 40 * 2 ≤ 40 * 2; omega⟩ ⟨Nat.le_refl _, Nat.le_refl _⟩ (by decide +kernel : decode (mt 130).2.2.1 3 = .ok (.invokestatic 9, 3)) ?_
  refine lv_aload_n hx hb (by decide +kernel : decode (mt 130).2.2.1 6 = .ok (.aload_n 0, 1)) rfl (lv_at hl 0 rfl) ?_
  refine lv_iload_n hx hb (by decide +kernel : decode (mt 130).2.2.1 7 = .ok (.iload_n 1, 1)) rfl (lv_at hl 1 rfl) ?_
  refine va_tb hx hb h4 hS hin rfl (by decide +kernel : decode (mt 130).2.2.1 8 = .ok (.baload, 1)) ?_
  refine lv_sipush (v := 255) hx hb (by decide +kernel : decode (mt 130).2.2.1 9 = .ok (.sipush 255, 3)) (by decide) ?_
  refine lv_iand hx hb (by decide +kernel : decode (mt 130).2.2.1 12 = .ok (.iand, 1)) ?_
  rw [b1]
  refine lv_i2c hx hb (by decide +kernel : decode (mt 130).2.2.1 13 = .ok (.i2c, 1)) b2 ?_
  exact W.zret (ty := .char) hx hb hr b3 (fun t ht _ => ⟨rfl, ht⟩) no_loc (by decide +kernel : decode (mt 130).2.2.1 14 = .ok (.ireturn, 1)) hlocks
/-- String.charAt -/
theorem m_charAt (G : GX) (q : Nat) (hq : q < 16) (i : Int32) (hi : ixB i (stL.getD q []).length = true) : MtS G 128 3 [.ref (G.2.2.2.1 (100000 + q)), .int i] (some (.int ((stL.getD q []).getD i.toNatClampNeg 0))) := by
  refine st_body (by decide +kernel) (by show 2 ≤ 2; omega) (fun p e s m args below meth c ls hx hb hml hown hts hr hlocks hsk hl => ?_)
  have hl : lv_has ls 2 [(0, .ref (G.2.2.2.1 (100000 + q))), (1, .int i)] := hl
  have hS : va_S (GA G) s.heap s.heap [] := va_S.rf
  have hown : s.vm.findClass "java/lang/String" = some m.cls := hown
  obtain ⟨h1, h2, h3, h4⟩ := hsk.2.2.2.2.2.2.2.2.1.1.1 q hq
  have hin := ixB_in hi
  have hlt : i.toNatClampNeg < (stL.getD q []).length := Nat.not_le.mp fun z => hin (Or.inr z)
  obtain ⟨b1, b2, b3⟩ := str_b q hq i.toNatClampNeg hlt
  refine lv_aload_n hx hb (by decide +kernel : decode (mt 128).2.2.1 0 = .ok (.aload_n 0, 1)) rfl (lv_at hl 0 rfl) ?_
  refine sc_V (vs := []) (q := q) (rest := []) hx hb hml hown hts hsk hS hl.1 (m_latin G q hq) hq rfl (by decide +kernel : calB 129 0 = true) (mlw (o := 16) (by decide +kernel)) (imw (by decide +kernel)) (slw (by decide +kernel)) rfl (by show 0 ≤ 8; omega) ⟨by show 3 ≤ 3; omega, by show 40 * 3 ≤ 40 * 3; omega⟩ ⟨Nat.le_refl _, Nat.le_refl _⟩ (by decide +kernel : decode (mt 128).2.2.1 1 = .ok (.invokevirtual 492, 3)) ?_
  refine lv_if_eq (tgt := 16) hx hb (by decide +kernel : decode (mt 128).2.2.1 4 = .ok (.ifCond .eq 12, 3)) (by decide) (fun z => absurd z (by decide)) (fun _ => ?_)
  refine lv_aload_n hx hb (by decide +kernel : decode (mt 128).2.2.1 7 = .ok (.aload_n 0, 1)) rfl (lv_at hl 0 rfl) ?_
  refine vk_getf hx hb h3 hS hown (hts _ (tb_ss _ (by simp))) (fun x h => h) (by decide +kernel : decode (mt 128).2.2.1 8 = .ok (.getfield 9, 3)) ?_
  refine lv_iload_n hx hb (by decide +kernel : decode (mt 128).2.2.1 11 = .ok (.iload_n 1, 1)) rfl (lv_at hl 1 rfl) ?_
  refine sc_S (vs := [.ref (G.2.2.2.1 (100200 + q)), .int i]) (rest := []) hx hb hml hown hts hsk hS hl.1 (m_l1 G q hq i hi) (by decide +kernel : calB 130 2 = true) (mlw (o := 16) (by decide +kernel)) (smw (by decide +kernel)) rfl (by show 0 ≤ 8; omega) ⟨by show 3 ≤ 3; omega, by show 40 * 3 ≤ 40 * 3; omega⟩ ⟨Nat.le_refl _, Nat.le_refl _⟩ (by decide +kernel : decode (mt 128).2.2.1 12 = .ok (.invokestatic 495, 3)) ?_
  exact W.zret (ty := .char) hx hb hr b3 (fun t ht _ => ⟨rfl, ht⟩) no_loc (by decide +kernel : decode (mt 128).2.2.1 15 = .ok (.ireturn, 1)) hlocks
theorem str_ok : StrOK := by
  intro G d M j lv r0 h ix ho
  have hw1 : Cond.methodLink "WreckCourt$Reader" 115 (yM 126) ∈ LG := mlw (o := 4) (by decide +kernel)
  have hw2 : Cond.methodLink "WreckCourt$Reader" 119 (yM 128) ∈ LG := mlw (o := 4) (by decide +kernel)
  refine ⟨fun q hq hix hd hn => ?_, fun p hp1 hp2 hd4 hcat hd hn => ?_, fun p i hp1 hp2 hd4 hcat hi hd hn => ?_⟩
  · intro p e R s m args below meth c H locs cells slots ls Z cx hl hh hS hc0 hc1 hc2 K
    have z := K H locs cells slots ls hl hh hS rfl rfl
    rw [hn] at z
    have hown := cx.own
    rw [ho] at hown
    have hZ := cx.sk.2.2.2.2.2.2.2.2.1.2 q hq
    rw [hix] at hZ
    exact va_ldcS cx.1 cx.2.1 hown hZ hd z
  · intro p1 e R s m args below meth c H locs cells slots ls Z cx hl hh hS hc0 hc1 hc2 K
    have z := K H locs cells slots ls hl hh hS rfl rfl
    rw [hn] at z
    obtain ⟨q, rfl⟩ : ∃ q, p = 100000 + q := ⟨p - 100000, by omega⟩
    rw [show 100000 + q - 100000 = q by omega] at z
    have hown := cx.own
    rw [ho] at hown
    obtain ⟨q1, q2⟩ := cx.2.2.2.2.2.2.2.2.1
    exact sc_V (vs := []) (q := q) (rest := r0.map (trv G)) cx.1 cx.2.1 cx.2.2.1 hown cx.ws cx.sk hS hl.1 (m_length G q (by omega)) (by omega) rfl (by decide +kernel : calB 126 0 = true) hw1 (imw (by decide +kernel)) (slw (by decide +kernel)) rfl (cat_map hcat) ⟨by omega, by omega⟩ ⟨by omega, by omega⟩ hd z
  · intro p1 e R s m args below meth c H locs cells slots ls Z cx hl hh hS hc0 hc1 hc2 K
    have z := K H locs cells slots ls hl hh hS rfl rfl
    rw [hn] at z
    obtain ⟨q, rfl⟩ : ∃ q, p = 100000 + q := ⟨p - 100000, by omega⟩
    rw [show 100000 + q - 100000 = q by omega] at z hi
    have hown := cx.own
    rw [ho] at hown
    obtain ⟨q1, q2⟩ := cx.2.2.2.2.2.2.2.2.1
    exact sc_V (vs := [.int i]) (q := q) (rest := r0.map (trv G)) cx.1 cx.2.1 cx.2.2.1 hown cx.ws cx.sk hS hl.1 (m_charAt G q (by omega) i hi) (by omega) rfl (by decide +kernel : calB 128 1 = true) hw2 (imw (by decide +kernel)) (slw (by decide +kernel)) rfl (cat_map hcat) ⟨by omega, by omega⟩ ⟨by omega, by omega⟩ hd z
theorem oks : OKs := ⟨str_ok, mna_ok⟩
