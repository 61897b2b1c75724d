/-! THE END: every call; the start; the claim -/
theorem allCO {G : GX} : AllCO (Rel G) G := ⟨co_sheet, co_set, co_copy, co_drop, co_ship, co_order, co_tide, co_dark, co_where, co_nearest, co_hull, co_door, co_hole, co_water, co_sinks, co_other, co_fact, co_withdraw, co_quarrel, co_court, co_sure, co_feed, co_rules, co_fault, co_done, co_owes, co_blame, co_kind, co_as, co_ask, co_trace, co_count, co_status⟩
theorem lk_no {p k : Nat} {b : St} : ∀ {l : List (Nat × Nat × Int32)}, l.all (fun q => q.1 != p) = true → lkI l b p k = b p k
  | [], _ => rfl
  | q :: t, h => by
    rw [List.all_cons, Bool.and_eq_true] at h
    show upI (lkI t b) q.1 q.2.1 q.2.2 p k = _
    rw [upI_nk (fun z => by rw [z.1] at h; simp at h)]
    exact lk_no h.2
theorem ini0 {G : GX} {p k : Nat} (hp : p < 100000) (h : iniL.all (fun q => q.1 != p) = true) : iniI G p k = 0 := by
  unfold iniI
  rw [lk_no h]
  unfold I0
  rw [if_neg (by omega), if_neg (by omega)]
theorem ini_sh : ∀ s, s < 8 → iniL.all (fun q => q.1 != 77 + 2 * s) = true ∧ iniL.all (fun q => q.1 != 78 + 2 * s) = true := by decide
theorem i94 {G : GX} : ∀ s, s < 8 → iniI G 94 s = -1 := fun s hs => by
  have h : s = 0 ∨ s = 1 ∨ s = 2 ∨ s = 3 ∨ s = 4 ∨ s = 5 ∨ s = 6 ∨ s = 7 := by omega
  rcases h with e | e | e | e | e | e | e | e <;> (subst e; rfl)
theorem i9798 {G : GX} : ∀ k, k < 16 → iniI G 97 k = kA 100100 k ∧ iniI G 98 k = kA 100101 k := fun s hs => by
  have h : s = 0 ∨ s = 1 ∨ s = 2 ∨ s = 3 ∨ s = 4 ∨ s = 5 ∨ s = 6 ∨ s = 7 ∨ s = 8 ∨ s = 9 ∨ s = 10 ∨ s = 11 ∨ s = 12 ∨ s = 13 ∨ s = 14 ∨ s = 15 := by omega
  rcases h with e | e | e | e | e | e | e | e | e | e | e | e | e | e | e | e <;> (subst e; exact ⟨rfl, rfl⟩)
theorem i34 {G : GX} : ∀ h, h < 6 → iniI G 34 h = 100 ∧ iniI G 112 h = 100 := fun s hs => by
  have h : s = 0 ∨ s = 1 ∨ s = 2 ∨ s = 3 ∨ s = 4 ∨ s = 5 := by omega
  rcases h with e | e | e | e | e | e <;> (subst e; exact ⟨rfl, rfl⟩)
theorem TR0 {who fr va rw rm rv : Nat → Int32} : TR 0 who fr va rw rm rv := ⟨fun i j _ hj => by omega, fun s m => rfl, fun i hi => by omega⟩
theorem dr0 {rm : Nat → Int32} {d : Nat} (h : rm d = 100) : dr1 true rm d (fun _ => 0) = fun _ => 0 := by
  funext k
  unfold dr1 upF mnI
  simp only [Int32.sub_zero, Int32.sub_self]
  rw [show ((0 : Int32)).toInt = 0 from rfl]
  simp [h]
theorem pm0 : pmS 0 (fun _ => 0) = fun _ => 0 := by
  funext k
  unfold pmS upF mnI
  simp
theorem wl0 {rm dw dt dp ho hm hr : Nat → Int32} (h : ∀ d, d < 6 → rm d = 100) : ∀ m, wl rm dw dt dp ho hm hr 0 0 0 9 0 m = fun _ => 0
  | 0 => rfl
  | m + 1 => by
    have o : ∀ d, opn dw dt dp 0 9 0 d m = true := fun d => by
      unfold opn
      rw [if_neg (fun z => by have := z.1; revert this; decide)]
      rfl
    have ih := wl0 (dw := dw) (dt := dt) (dp := dp) (ho := ho) (hm := hm) (hr := hr) h m
    show pmS (if (9 : Int32) = 2 then 0 else 0) (dr1 (opn dw dt dp 0 9 0 4 m) rm 4 (dr1 (opn dw dt dp 0 9 0 3 m) rm 3 (dr1 (opn dw dt dp 0 9 0 2 m) rm 2 (dr1 (opn dw dt dp 0 9 0 1 m) rm 1 (dr1 (opn dw dt dp 0 9 0 0 m) rm 0 (wl rm dw dt dp ho hm hr 0 0 0 9 0 m)))))) = _
    rw [ih, o, o, o, o, o, dr0 (h 0 (by decide)), dr0 (h 1 (by decide)), dr0 (h 2 (by decide)), dr0 (h 3 (by decide)), dr0 (h 4 (by decide)), if_neg (by decide), pm0]
theorem sk0 {w : Nat → (Nat → Int32)} (h : ∀ m, w m = fun _ => 0) : ∀ n, skF w 300 n = none
  | 0 => rfl
  | n + 1 => by
    rw [skF_s, sk0 h n]
    simp only
    rw [h (n + 1), if_neg (by decide)]
theorem rel0 (G : GX) : Rel G 0 false (iniI G) := by
  have z : ∀ p k, p < 100000 → iniL.all (fun q => q.1 != p) = true → iniI G p k = 0 := fun p k h1 h2 => ini0 h1 h2
  have b0 : ∀ {x : Int32} {n : Int}, x = 0 → 0 ≤ n → 0 ≤ x.toInt ∧ x.toInt ≤ n := fun {x n} h hn => by rw [h]; exact ⟨by decide, hn⟩
  have wv : ∀ m, wlI (iniI G) 9 0 m = fun _ => 0 := fun m => wl0 (fun d hd => (i34 d hd).2) m
  refine ⟨⟨fun k => ?_, ?_⟩, fun s hs => ?_, rfl, ⟨⟨rfl, b0 rfl (by decide)⟩, ⟨rfl, b0 rfl (by decide)⟩, Or.inl rfl, fun k hk => ?_, TR0, fun k hk => ?_, i9798, fun s hs => ?_, fun _ s hs => ?_⟩, ⟨rfl, (b0 (n := 0) rfl (by decide)).1, (b0 rfl (by decide)).2, fun k hk => ?_⟩, ⟨⟨rfl, b0 rfl (by decide)⟩, ⟨rfl, b0 rfl (by decide)⟩, ⟨rfl, by show (1 : Int) ≤ (300 : Int32).toInt; decide, by show (300 : Int32).toInt ≤ 6000; decide⟩, ⟨rfl, b0 rfl (by decide)⟩, Or.inl rfl, fun k hk => ?_, fun h hh => ?_, fun k hk => ?_, TR0, ⟨rfl, rfl, rfl, rfl, rfl, rfl⟩, fun _ => ⟨?_, fun h hh m hm => ?_⟩⟩, ⟨by omega, rfl, rfl, fun k hk => by omega, fun a b ha => by omega, 0, by decide, ?_⟩, ⟨rfl, (b0 (n := 0) rfl (by decide)).1, (b0 rfl (by decide)).2, fun r hr => ?_⟩, ⟨rfl, rfl, (b0 (n := 0) rfl (by decide)).1, (b0 rfl (by decide)).2, fun k hk => ?_⟩, ⟨rfl, (b0 (n := 0) rfl (by decide)).1, (b0 rfl (by decide)).2, fun k hk => ?_⟩, ⟨rfl, (b0 (n := 0) rfl (by decide)).1, (b0 rfl (by decide)).2, fun k hk => ?_⟩⟩
  · unfold iniI
    rw [lk_no (by decide)]
    rfl
  · unfold iniI
    rw [lk_no (by decide)]
    rfl
  · rw [z (77 + 2 * s) 1 (by omega) (ini_sh s hs).1, z (77 + 2 * s) 2 (by omega) (ini_sh s hs).1, z (77 + 2 * s) 3 (by omega) (ini_sh s hs).1, i94 s hs, z 95 s (by decide) (by decide)]
    refine ⟨Or.inl ⟨rfl, rfl⟩, by decide, by decide, rfl, by decide, by decide, fun i hi => ?_⟩
    rw [z (78 + 2 * s) i (by omega) (ini_sh s hs).2, z 96 _ (by decide) (by decide)]
  · rw [z 101 k (by decide) (by decide), z 102 k (by decide) (by decide), z 103 k (by decide) (by decide), z 104 k (by decide) (by decide)]
    decide
  · rw [z 26 k (by decide) (by decide), z 27 k (by decide) (by decide), z 105 k (by decide) (by decide), z 106 k (by decide) (by decide)]
    decide
  · exact absurd hs (by show ¬ s < 0; omega)
  · exact absurd hs (by show ¬ s < 0; omega)
  · rw [z 8 k (by decide) (by decide), z 9 k (by decide) (by decide), z 10 k (by decide) (by decide), z 109 k (by decide) (by decide), z 110 k (by decide) (by decide), z 111 k (by decide) (by decide)]
    exact ⟨rfl, rfl, rfl⟩
  · rw [z 35 k (by decide) (by decide), z 36 k (by decide) (by decide), z 37 k (by decide) (by decide), z 116 k (by decide) (by decide), z 117 k (by decide) (by decide), z 118 k (by decide) (by decide)]
    decide
  · rw [(i34 h hh).1, (i34 h hh).2]
    decide
  · rw [z 113 k (by decide) (by decide), z 114 k (by decide) (by decide), z 115 k (by decide) (by decide)]
    decide
  · unfold skI
    rw [show iniI G 93 25 = 300 from rfl, sk0 wv]
    rfl
  · rw [wv]
    have hp : h = 0 ∨ h = 1 ∨ h = 2 ∨ h = 3 ∨ h = 4 ∨ h = 5 := by omega
    rcases hp with e | e | e | e | e | e <;> (subst e; exact z _ m (by decide) (by decide))
  · have F0 : ∀ S, 1 ≤ S → S < 4096 → fitS (iniI G) 0 S = false := fun S h1 _ => fit_ge (f := 0) (by decide) (by show 2 ^ 0 ≤ S; omega)
    have R0 : ∀ S, 1 ≤ S → S < 4096 → riv (fitS (iniI G) 0) S = false := fun S h1 h2 => by unfold riv; rw [F0 S h1 h2, Bool.false_and]
    have p0 : pcN 0 = 0 := by decide
    have g0 : grt (fitS (iniI G) 0) 4096 = 0 := by
      rw [grt_ext 4096 (by decide) F0, grt_s, if_neg (fun y => by rw [p0] at y; omega)]
      rfl
    have r0 : riv (fitS (iniI G) 0) 0 = true := by
      unfold riv
      rw [g0, fit_0, decide_eq_true p0]; rfl
    refine ⟨rfl, by rw [g0]; rfl, ?_, ?_, fun i hi => ?_⟩
    · rw [cnb_ext 4096 (by decide) R0, cnb_s, r0, if_pos rfl]
      rfl
    · rw [fsN_ext 4096 (by decide) R0, fsN_hit (n := 0) rfl r0]
      rfl
    · rw [cnb_ext (P := fun S => riv (fitS (iniI G) 0) S && S.testBit i) (m := 1) 4096 (by decide) (fun S h1 h2 => by simp only [R0 S h1 h2, Bool.false_and]), cnb_s2, Nat.zero_testBit, Bool.and_false, if_neg (by decide), z 49 i (by decide) (by decide)]
      rfl
  · exact absurd hr (by show ¬ r < 0; omega)
  · rw [z 62 k (by decide) (by decide), z 140 k (by decide) (by decide)]
    decide
  · rw [z 58 k (by decide) (by decide), z 59 k (by decide) (by decide), z 60 k (by decide) (by decide), z 141 k (by decide) (by decide), z 142 k (by decide) (by decide), z 143 k (by decide) (by decide), z 144 k (by decide) (by decide)]
    decide
  · rw [z 56 k (by decide) (by decide), z 146 k (by decide) (by decide)]
/-- from the entry, for every script of at most 4608 ints, the law comes to its end with true -/
theorem whole_start {p : Program} {e : Env} {s : State} {m : MethodId} {below : List Frame} {meth : Method} {c : Code} (l : Launch) {b L : Nat} {xs : Nat → Int32} (hL : L ≤ 4608) (C0 : lw_At p s m meth c b L xs) : W p l e room_1 s m #[Value.ref b] below meth c s.heap [] 0 0 (lw_Z below #[Value.ref b] s) (entryFrame m ([Value.ref b] : List Value).toArray 4) :=
  start_of l C0 (start_SK l hL C0) (fun G hG => hlaw_of allCO (fun f sw I h => ⟨h.1, by have := h.2.2.2.2.2.2.1.1; omega⟩) (by rw [hG]; exact hL) (rel0 G))
set_option maxHeartbeats 4000000 in
theorem lw_walk (l : Launch) (b : Addr) (xs : List Int32) : MetFree l x (headSpec (Jvm.Cond.code x code maxLocals ret :: tables_1) room_1) (lw_P b xs) (fun _ _ _ _ _ => True) lw_Q := by
  refine MetFree.of_bodyS (code := code) (maxLocals := maxLocals) (ret := ret) (by decide) ?_ ?_
  · intro args s m h hn
    obtain ⟨meth, c, h1, h2, h3, h4, h5, h6, -, -⟩ := Cond.code_spec hn (atoms_spec (ws := Jvm.Cond.code x code maxLocals ret :: tables_1) h _ List.mem_cons_self)
    exact ⟨meth, c, h1, h2, h3, h4, h5, h6⟩
  · intro p e s m args below meth c s₁ B hml0 hP _
    obtain ⟨rfl, hx, hbd, hgv⟩ := hP
    obtain ⟨scr, harrAt, hlist, hof, hsmall⟩ := hx
    obtain ⟨hcb, hkn, -, -⟩ := State.arrayAt?_spec harrAt
    have hown : s.vm.findClass R_law = some m.cls := findClass_of_methodNamed B.named
    have hts0 : ∀ c ∈ (Jvm.Cond.code x code maxLocals ret :: tables_1), c.before #[Value.ref b] s = true := atoms_spec (ws := Jvm.Cond.code x code maxLocals ret :: tables_1) B.pre
    have hts : ∀ w ∈ lw_tbl, w.before #[Value.ref b] s = true := k2_hts_sels lw_privs (fun w hw => hts0 w (List.mem_cons_of_mem _ hw)) lw_privs_ok
    have hml : c.maxLocals = 4 := B.maxLocals_eq (hts0 _ List.mem_cons_self)
    have X₀ : Stand p l e room_1 s m #[Value.ref b] below meth c s₁ [] 0 0 := Stand.of_body B
    have hh0 : s₁.heap = s.heap := by rw [B.state]; rfl
    have hsz : scr.slots.size = xs.length := by rw [← Array.length_toList, hlist, List.length_map]
    have hval : ∀ j : Nat, j < xs.length → scr.slots[j]? = some (.int (xs.getD j 0)) := fun j hj => by
      rw [← Array.getElem?_toList, hlist]
      simp [hj]
    have hbl : b < s.heap.size := (Array.getElem?_eq_some_iff.mp hcb).1
    have hX : va_X b xs.length (fun j => xs.getD j 0) s s.heap := ⟨scr, hcb, hof, hkn, hsz, hval⟩
    have K : W p l e room_1 s m #[Value.ref b] below meth c s₁.heap [] 0 0 (lw_Z below #[Value.ref b] s) (entryFrame m ([Value.ref b] : List Value).toArray 4) := by
      rw [hh0]
      exact whole_start l hbd ⟨B.exec, B.bytes, B.returns, hml, hown, hts, hX, hbl, B.notSynchronized, hgv⟩
    obtain ⟨t, a1, o, b1, b2, b3⟩ := K s₁ rfl X₀
    exact ⟨t, o, a1, b1, b2, b3⟩
theorem lw_pre_spec {args : Array Value} {s : State} (h : (Jvm.Cond.and given_1 narrow_1).before args s = true) (hr : rest_1_c.before args s = true) : ∃ (b : Addr) (xs : List Int32), lw_P b xs args s := by
  have hs := flat_of_before _ h
  have hq := flat_of_before _ hr
  have hc : (Cond.count 1).before args s = true := hs _ (by decide +kernel)
  have harr : (Cond.arrayOf (.arg 0) .int).before args s = true := hs _ (by decide +kernel)
  have hle : (Cond.le (.length (.arg 0)) (.int 4608)).before args s = true := hs _ (by decide +kernel)
  have hlen : (Cond.isInt (.length (.arg 0))).before args s = true := hq _ (by decide +kernel)
  have hall : (Cond.all (.arg 0) (.isInt (.elem (.arg 0) (.index 0)))).before args s = true := hq _ (by decide +kernel)
  obtain ⟨b, xs, hb, hx⟩ := State.ints_of_pre rfl harr hlen hall
  have hsm : xs.length < 2 ^ 31 := hx.choose_spec.2.2.2
  have hev : (Term.length (.arg 0)).eval args s none [] s = some (.int xs.length.toInt32) := hx.length_eval hb
  have hv := Cond.le_ints hev (show (Term.int 4608).eval args s none [] s = some (.int 4608) from rfl)
  have hd : xs.length.toInt32 ≤ 4608 := by
    simpa [Cond.before, Cond.holds, hv] using hle
  have hN : xs.length ≤ 4608 := (Int32.ofNat_le_ofNat hsm (by decide)).mp (show Int32.ofNat xs.length ≤ Int32.ofNat 4608 from hd)
  exact ⟨b, xs, Cond.one_arg hc (show args[0]? = some (.ref b) from hb), hx, hN, h⟩
theorem lw_comes (l : Launch) : Comes l x (Jvm.Cond.code x code maxLocals ret :: tables_1) room_1 (fun tb e args s => Calls_1 tb e args s ∧ rest_1 tb e args s ∧ Pre_1 tb e args s)
    (fun _ _ args s o t => lw_Q args s o t) := by
  intro p e ha hc hk s m args below hf hfit hheap happ hpre
  obtain ⟨b, xs, hP⟩ := lw_pre_spec hpre.2.2 hpre.2.1
  obtain ⟨k, o, h1, h2, h3, hQ⟩ := lw_walk l b xs p e ha hc hk s m args below hf ((Spec.applies_iff_loose hf).mp happ).1 hP trivial
  exact ⟨k, o, h1, h2, h3, hQ⟩
theorem lw_frame {s t : State} {o : Outcome} {args : Array Value} (h : Framed s o t [] 600000 7302250) :
    Framed s o t (fieldLocs frame_1_writes args s ++ arrayLocs frame_1_arrays args s ++ staticLocs frame_1_statics s) 600000 7302250 := h
theorem lw_limb (L : Cond) (hL : ∀ (args : Array Value) (s t : State), L.after args s (.returned (some (.int 1))) t = true) :
    ArmFor flags0 classFile x code maxLocals ret World_1 tables_1 room_1 Calls_1 rest_1 Pre_1
      (fun tb e a s o t => postC L tb e a s o t ∧ Framed s o t (fieldLocs frame_1_writes a s ++ arrayLocs frame_1_arrays a s ++ staticLocs frame_1_statics s) 600000 7302250) := by
  intro l _ _ _ p e ha hc hk s m args below hf hfit hheap happ hpre
  obtain ⟨k, o, h1, h2, h3, rfl, hF⟩ := lw_comes l p e ha hc hk s m args below hf hfit hheap happ hpre
  exact ⟨k, _, h1, h2, h3, hL args s _, lw_frame hF⟩
theorem i_vc : Claimed_1_1 ∧ Claimed_1_2 := ⟨lw_limb limb_1_1 (fun args s t => by simp [limb_1_1, Cond.after, Cond.holds, Cond.value]), lw_limb limb_1_2 (fun args s t => Cond.after_iff.mpr (by
  first | (rw [show limb_1_2 = Cond.eq .result (.int 1) from rfl, Cond.eq_ints (x := 1) (y := 1) rfl rfl]; simp; done) | (simp [limb_1_2, Cond.value, Term.eval]; done)))⟩
