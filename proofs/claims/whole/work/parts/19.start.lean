/-! THE CLAIM OUT OF ONE WALK OF THE LAW'S BODY. Your part is whole_start (and what it stands on); all else here is the same for every law, but numbers. -/
def R_law : String := "WreckCourtLaw"
def lw_P (b : Addr) (xs : List Int32) (args : Array Value) (s : State) : Prop := args = #[.ref b] ∧ s.IntsAt b xs ∧ xs.length ≤ 4608 ∧ (Jvm.Cond.and given_1 narrow_1).before args s = true
def lw_Q (_ : Array Value) (s : State) (o : Outcome) (t : State) : Prop := o = .returned (some (.int 1)) ∧ Framed s o t [] 600000 7302250
def lw_Z (below : List Frame) (a : Array Value) (s : State) : State → Prop := fun t => ∃ o, t.status = .running ∧ Ended t below o ∧ lw_Q a s o t
/-- the law's own end, with 1 on the stack, nothing written that was there before, its room as the claim has it -/
theorem lw_ret {p : Program} {l : Launch} {e : Env} {s : State} {m : MethodId} {below : List Frame} {meth : Method} {c : Code} {b : Nat} (hx : p.tables.exec = Jvm.exec) (hb : c.code = code) (hr : meth.sig.returnType = ret) (hlocks : meth.locks = false) {pc : Nat} {H : Heap} {ls : Array Slot} (hdg : decode code pc = .ok (.ireturn, 1)) : W p l e room_1 s m #[Value.ref b] below meth c H [] 600000 7302250 (lw_Z below #[Value.ref b] s) (F0 m pc ls [.int 1]) := by
  intro T hT X
  obtain ⟨fs, hret, hrun, hended, hW, hframe⟩ := X.leave (v := some (.int 1)) (hlocks := hlocks) (fun h => by rw [hr] at h; cases h)
  have hmeth' : T.vm.method? m = some meth := X.method'
  refine ⟨T.setFrames fs, ?_, .returned (some (.int 1)), hrun, hended, rfl, ⟨_, rfl⟩, hW, hframe⟩
  jvm_step X.here [X.here.top, hx, hb, hdg, hmeth', hr, ret, narrow_b1]
  (try refine ⟨rfl, ?_⟩); (try refine ⟨rfl, ?_⟩)
  first | (intro acts; rw [hret _ acts rfl rfl rfl]) | rw [hret _ _ rfl rfl rfl]
  exact Steps.refl _
/-- what holds at the law's entry: the machine, the code, the tables' words (any of lw_tbl by 'hts w (by decide +kernel)'), the script of L ints xs at the cell b, what the Statement gives of the start (any of its parts by flat_of_before) -/
def lw_At (p : Program) (s : State) (m : MethodId) (meth : Method) (c : Code) (b L : Nat) (xs : Nat → Int32) : Prop :=
  p.tables.exec = Jvm.exec ∧ c.code = code ∧ meth.sig.returnType = ret ∧ c.maxLocals = 4 ∧ s.vm.findClass R_law = some m.cls ∧ (∀ w ∈ lw_tbl, w.before #[Value.ref b] s = true) ∧ va_X b L xs s s.heap ∧ b < s.heap.size ∧ meth.locks = false ∧ (Jvm.Cond.and given_1 narrow_1).before #[Value.ref b] s = true
/-- the first state: nothing is made; the script -/
def I0 (G : GX) : Nat → Nat → Int32 := fun p k => if p = 100300 then G.2.2.2.2.2 k else if p = 100301 then Int32.ofNat G.2.2.2.2.1 else 0
def h00 (G : GX) : Hp := (0, 0, I0 G, fun _ _ => none)
/-- what the law's own run must come to -/
def lawQ : Option Value → Hp → Prop := fun r h => r = some (.int 1) ∧ h.1 ≤ 147 ∧ h.2.1 ≤ 2000
theorem slN_le : slN 147 ≤ 30000 := by decide +kernel
theorem slN_to {a : Nat} (h : a ≤ 147) : slN a ≤ slN 147 := by
  have := slN_mono (a := a) (147 - a)
  rw [show a + (147 - a) = 147 by omega] at this
  exact this
/-- what the start gives: a table of addresses and class numbers that fits the state -/
def startSK (l : Launch) (s : State) (b L : Nat) (xs : Nat → Int32) : Prop := ∃ G : GX, G.1 = l ∧ SK G s ∧ G.2.2.2.1 0 = s.heap.size ∧ G.2.2.2.1 100300 = b ∧ G.2.2.2.2.1 = L ∧ G.2.2.2.2.2 = xs
set_option maxHeartbeats 4000000 in
set_option maxRecDepth 100000 in
theorem start_of {p : Program} {e : Env} {s : State} {m : MethodId} {below : List Frame} {meth : Method} {c : Code} (l : Launch) {b L : Nat} {xs : Nat → Int32} (C0 : lw_At p s m meth c b L xs) (hK : startSK l s b L xs) (hlaw : ∀ G : GX, G.2.2.2.2.1 = L → wp G 1000 (mt 264) 0 (en (mt 264) [.ref 100300]) [] (h00 G) lawQ) : W p l e room_1 s m #[Value.ref b] below meth c s.heap [] 0 0 (lw_Z below #[Value.ref b] s) (entryFrame m ([Value.ref b] : List Value).toArray 4) := by
  obtain ⟨hx, hb, hr, hml, hown, hts, hX, hbl, hlocks, hgv⟩ := id C0
  obtain ⟨G, rfl, hsk, had, hab, hL, hxs⟩ := hK
  obtain ⟨r, h', ⟨⟨g1, g2⟩, g3⟩, rfl, q1, q2⟩ := hlaw G hL
  have cx : Cx G 1000 (mt 264) p room_1 s m #[Value.ref b] meth c := ⟨hx, hb, hml, hown, fun w hw => hts w (List.mem_filter.mp hw).1, fun z => absurd z (by decide +kernel), hr, hlocks, ⟨by decide, by decide⟩, hsk⟩
  have n0 : nc (h00 G) = 0 := rfl
  have n1 : ns (h00 G) = 0 := rfl
  have n2 : nc h' ≤ 3000 := by unfold nc; omega
  have n3 : ns h' ≤ 60000 := by unfold ns; have := slN_to q1; have := slN_le; omega
  have hz : zS G (h00 G) := ⟨fun p k _ hp => ⟨by show I0 G p k = 0; unfold I0; rw [if_neg (by omega), if_neg (by omega)], rfl⟩, fun k => by show I0 G 100300 k = _; unfold I0; rw [if_pos rfl], by show I0 G 100301 0 = _; unfold I0; rw [if_neg (by omega), if_pos rfl]⟩
  have hh : hrH G (h00 G) s.heap := ⟨⟨by show 0 ≤ 147; omega, Or.inl rfl, by show 0 ≤ 2000; omega⟩, fun k q hq => by simp [wsO, pls, h00] at hq, hz⟩
  have hl := en_lvr (G := G) (M := mt 264) (vs := [.ref 100300]) (by decide +kernel)
  have ev : ([Value.ref 100300].map (trv G)) = [Value.ref b] := by show [Value.ref (G.2.2.2.1 100300)] = _; rw [hab]
  rw [ev] at hl
  have e4 : (mt 264).2.2.2.2.1 = 4 := by decide +kernel
  rw [lg_entry_eq]
  have k := g3 p e room_1 s m #[Value.ref b] below meth c s.heap [] 0 0 _ (lw_Z below #[Value.ref b] s) cx hl hh va_S.rf (by rw [n0, had]) (by rw [n0]; show 0 + nc h' ≤ 600000 + 0; omega) (by rw [n1]; show 0 + ns h' ≤ 7302250 + 0; omega) ?_
  · rw [(chk_m ckm_264).2.1, e4] at k
    exact k
  · intro H1 locs1 cells1 slots1 ls1 j1 hrt hh1 hS1 e1 e2
    rw [n0] at e1
    rw [n1] at e2
    obtain ⟨en1, hen, hrb, hcase⟩ := hrt
    rcases hcase with ⟨c1, x, c2⟩ | ⟨c1, x, c2⟩ | ⟨c1, c2⟩
    · have hd := (chk_m ckm_264).2.2 j1 en1 hen (Or.inl c1)
      rw [c1] at hd
      refine va_forget (fun q hq => by have := hS1.2.2 q hq; unfold GA at this; rw [had] at this; exact this) ?_
      refine W.widen (k := 600000) (n := 7302250) (by omega) (by omega) ?_
      exact lw_ret hx hb hr hlocks hd
    · cases c2
    · cases c2
