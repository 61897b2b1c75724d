/-! ROWS of arrays, of makings -/
theorem upI_self {f : Nat → Nat → Int32} {p k : Nat} {x : Int32} : upI f p k x p = upd (f p) k x := by
  funext i
  simp [upI, upd]
theorem W.bound {p : Program} {l : Launch} {e : Env} {R : Room} {s : State} {m : MethodId} {args : Array Value} {below : List Frame} {meth : Method} {c : Code} {H : Heap} {locs : List Loc} {cells slots : Nat} {Z : State → Prop} {g : JFrame} (k : H.size ≤ s.heap.size + cells → W p l e R s m args below meth c H locs cells slots Z g) : W p l e R s m args below meth c H locs cells slots Z g := fun T hT X => k (by
  have h1 : (T.setVm s.vm).heap.size ≤ s.heap.size + cells := X.same.2.2.1
  have h2 : (T.setVm s.vm).heap = T.heap := rfl
  rw [h2, hT] at h1
  exact h1) T hT X
theorem ws_addr {G : GX} {h : Hp} (hg : adO G) (hs : shO h) {i : Nat} (hi : i < nc h) : ∃ e, (wsO G h)[i]? = some (G.2.2.2.1 0 + i, e) := by
  obtain ⟨s1, s2, s3⟩ := hs
  unfold nc at hi
  rcases Nat.lt_or_ge i h.1 with q | q
  · have := wsO_at (G := G) (h := h) (p := i) ⟨s1, s2, s3⟩ (Or.inl q)
    unfold pix at this
    rw [if_pos (by omega), (hg i).1 (by omega)] at this
    exact ⟨_, this⟩
  · have := wsO_at (G := G) (h := h) (p := 1000 + (i - h.1)) ⟨s1, s2, s3⟩ (Or.inr ⟨by omega, by omega⟩)
    unfold pix at this
    rw [if_neg (by omega), (hg _).2 (by omega) (by omega), show h.1 + (1000 + (i - h.1) - 1000) = i by omega, show G.2.2.2.1 0 + 147 + (1000 + (i - h.1) - 1000) = G.2.2.2.1 0 + i by omega] at this
    exact ⟨_, this⟩
/-- a cell that came new, apart from all that were there, within the bound: it is the next -/
theorem next_addr {G : GX} {h : Hp} {q : Nat} {ce : va_E} {H1 : Heap} (hg : adO G) (hs : shO h) (hD : va_D (GA G) (wsO G h ++ [(q, ce)])) (hP : va_P G.2.1 vwCl (wsO G h ++ [(q, ce)]) H1) (hb : H1.size ≤ G.2.2.2.1 0 + nc h + 1) : q = G.2.2.2.1 0 + nc h := by
  have hlen : (wsO G h).length = nc h := by unfold wsO; rw [List.length_map, pls_len]; rfl
  have hl : (wsO G h ++ [(q, ce)])[nc h]? = some (q, ce) := by rw [List.getElem?_append_right (by omega), hlen]; simp
  have h1 : q < H1.size := (hP _ _ hl).lt
  have h2 : G.2.2.2.1 0 ≤ q := hD.2 _ _ hl
  rcases Nat.lt_or_ge (q - G.2.2.2.1 0) (nc h) with z | z
  · obtain ⟨e2, he⟩ := ws_addr hg hs z
    have he' : (wsO G h ++ [(q, ce)])[q - G.2.2.2.1 0]? = some (G.2.2.2.1 0 + (q - G.2.2.2.1 0), e2) := by rw [List.getElem?_append_left (by omega)]; exact he
    have := hD.1 _ _ _ _ hl he' (by show q = G.2.2.2.1 0 + (q - G.2.2.2.1 0); omega)
    omega
  · omega
theorem cell_hh {G : GX} {h h1 : Hp} (e1 : h1.2.2.1 = h.2.2.1) (e2 : h1.2.2.2 = h.2.2.2) (p : Nat) : cellO G h1 p = cellO G h p := by
  unfold cellO fsO
  rw [e1, e2]
/-- the next place is made -/
theorem hr_new {G : GX} {h h1 : Hp} {np : Nat} {H1 : Heap} (hs1 : shO h1) (e1 : h1.2.2.1 = h.2.2.1) (e2 : h1.2.2.2 = h.2.2.2) (hp : pls h1 = pls h ++ [np]) (hal : ∀ p, al h p → al h1 p) (h0 : zS G h) (hP : va_P G.2.1 vwCl (wsO G h ++ [(G.2.2.2.1 np, cellO G h np)]) H1) : hrH G h1 H1 := by
  refine ⟨hs1, ?_, fun p k hq hp100 => ?_, by rw [e1]; exact h0.2.1, by rw [e1]; exact h0.2.2⟩
  · have : wsO G h1 = wsO G h ++ [(G.2.2.2.1 np, cellO G h np)] := by
      unfold wsO
      rw [hp, List.map_append, List.map_singleton, cell_hh e1 e2]
      congr 1
      exact List.map_congr_left (fun p _ => by rw [cell_hh e1 e2])
    rw [this]
    exact hP
  · rw [e1, e2]
    exact h0.1 p k (fun z => hq (hal p z)) hp100
section HROWS2
variable {G : GX} {d : Nat} {M : MR} {j : Nat} {lv : Lc} {r0 : List Value} {h : Hp}
theorem g_iald {p : Nat} {i : Int32} (hd : decode M.2.2.1 (pcj M j) = .ok (.iaload, 1)) (hn : pcj M (j + 1) = pcj M j + 1) (ok : okB h p 20 = true) (hi : ixB i (SH p).2 = true) : StepH G d M j lv (.int i :: .ref p :: r0) h (j + 1) lv (.int (h.2.2.1 p i.toNatClampNeg) :: r0) h := fun p1 e R s m args below meth c H locs cells slots ls Z cx hl hh hS hc0 hc1 hc2 K => by
  obtain ⟨ha, hc⟩ := okB_al hh.1 ok
  have he := wsO_at (G := G) hh.1 ha
  rw [cell_i (by omega) (by omega), hc] at he
  refine va_iald cx.1 cx.2.1 cx.sk.1 hh.2.1 (pix h p) 0 he rfl (ixB_in hi) hd ?_
  have z := K H locs cells slots ls hl hh hS rfl rfl
  rw [hn] at z
  exact z
theorem g_bald {p : Nat} {i : Int32} (hd : decode M.2.2.1 (pcj M j) = .ok (.baload, 1)) (hn : pcj M (j + 1) = pcj M j + 1) (ok : (okB h p 21 || okB h p 22) = true) (hi : ixB i (SH p).2 = true) : StepH G d M j lv (.int i :: .ref p :: r0) h (j + 1) lv (.int (h.2.2.1 p i.toNatClampNeg) :: r0) h := fun p1 e R s m args below meth c H locs cells slots ls Z cx hl hh hS hc0 hc1 hc2 K => by
  have z := K H locs cells slots ls hl hh hS rfl rfl
  rw [hn] at z
  rw [Bool.or_eq_true] at ok
  rcases ok with ok | ok
  · obtain ⟨ha, hc⟩ := okB_al hh.1 ok
    have he := wsO_at (G := G) hh.1 ha
    rw [cell_i (by omega) (by omega), hc] at he
    exact va_bald cx.1 cx.2.1 cx.sk.1 hh.2.1 (pix h p) 1 he rfl (ixB_in hi) hd z
  · obtain ⟨ha, hc⟩ := okB_al hh.1 ok
    have he := wsO_at (G := G) hh.1 ha
    rw [cell_i (by omega) (by omega), hc] at he
    exact va_zald cx.1 cx.2.1 cx.sk.1 hh.2.1 (pix h p) 2 he rfl (ixB_in hi) hd z
theorem g_aald {p x : Nat} {i : Int32} (hd : decode M.2.2.1 (pcj M j) = .ok (.aaload, 1)) (hn : pcj M (j + 1) = pcj M j + 1) (ok : (okB h p 23 || (okB h p 24 || okB h p 25)) = true) (hi : ixB i (SH p).2 = true) (hx : h.2.2.2 p i.toNatClampNeg = some x) : StepH G d M j lv (.int i :: .ref p :: r0) h (j + 1) lv (.ref x :: r0) h := fun p1 e R s m args below meth c H locs cells slots ls Z cx hl hh hS hc0 hc1 hc2 K => by
  have z := K H locs cells slots ls hl hh hS rfl rfl
  rw [hn] at z
  have hin := ixB_in hi
  have hlt : i.toNatClampNeg < (SH p).2 := Nat.not_le.mp fun q => hin (Or.inr q)
  have gen : ∀ (t0 : Nat) (ty : FieldType), ty.isReference = true → al h p → ¬ (SH p).1 < 23 → (tyO G)[t0]? = some (G.2.2.1 (SH p).1, ty) → W p1 G.1 e R s m args below meth c H locs cells slots Z (F0 m (pcj M j) ls ((.int i :: .ref p :: r0).map (trv G))) := fun t0 ty hty ha hk ht => by
    have he := wsO_at (G := G) hh.1 ha
    rw [cell_q hk] at he
    exact W.aald (v := .ref (G.2.2.2.1 x)) (ty := ty) cx.1 cx.2.1 (hh.2.1 (pix h p) _ he) ((cx.sk.1.2 t0 _ ht).1 (SH p).2 (fun j => va_rf ((h.2.2.2 p j).map G.2.2.2.1))) hty (fun q => by cases q) (by show ¬ (i < 0 ∨ (arrV _ _ _).slots.size ≤ _); rw [arrV_size]; exact hin) (by show (arrV _ _ _).slots[_]? = _; rw [arrV_read _ _ hlt]; show some (va_rf ((h.2.2.2 p i.toNatClampNeg).map G.2.2.2.1)) = _; rw [hx]; rfl) rfl rfl hd z
  simp only [Bool.or_eq_true] at ok
  rcases ok with ok | ok | ok
  · obtain ⟨ha, hc⟩ := okB_al hh.1 ok
    exact gen 3 (.object "WreckCourt$Sheet") rfl ha (by omega) (by rw [hc]; rfl)
  · obtain ⟨ha, hc⟩ := okB_al hh.1 ok
    exact gen 4 (.object "WreckCourt$Fact") rfl ha (by omega) (by rw [hc]; rfl)
  · obtain ⟨ha, hc⟩ := okB_al hh.1 ok
    exact gen 5 (.array .int) rfl ha (by omega) (by rw [hc]; rfl)
theorem g_iast {p : Nat} {i x : Int32} (hd : decode M.2.2.1 (pcj M j) = .ok (.iastore, 1)) (hn : pcj M (j + 1) = pcj M j + 1) (ok : okB h p 20 = true) (hi : ixB i (SH p).2 = true) : StepH G d M j lv (.int x :: .int i :: .ref p :: r0) h (j + 1) lv r0 (hI h p i.toNatClampNeg x) := fun p1 e R s m args below meth c H locs cells slots ls Z cx hl hh hS hc0 hc1 hc2 K => by
  obtain ⟨ha, hc⟩ := okB_al hh.1 ok
  have he := wsO_at (G := G) hh.1 ha
  rw [cell_i (by omega) (by omega), hc] at he
  refine va_iast cx.1 cx.2.1 cx.sk.1 hh.2.1 (wsO_D cx.sk.2.1 hh.1) hS (pix h p) 0 he rfl (ixB_in hi) hd (fun H1 locs1 hP1 _ hS1 => ?_)
  have z := K H1 locs1 cells slots ls hl (hr_set hh.1 ha rfl rfl (fun z hz => upI_ne hz) (fun z _ => rfl) hh.2.2 (by rw [cell_i (by omega) (by omega), hc]; exact congrArg (fun f => Sum.inl (G.2.2.1 20, (SH p).2, Sum.inl f)) upI_self.symm) hP1) hS1 rfl rfl
  rw [hn] at z
  exact z
theorem g_bast {p : Nat} {i x : Int32} (hd : decode M.2.2.1 (pcj M j) = .ok (.bastore, 1)) (hn : pcj M (j + 1) = pcj M j + 1) (ok : okB h p 21 = true) (hi : ixB i (SH p).2 = true) : StepH G d M j lv (.int x :: .int i :: .ref p :: r0) h (j + 1) lv r0 (hI h p i.toNatClampNeg x.toInt8.toInt32) := fun p1 e R s m args below meth c H locs cells slots ls Z cx hl hh hS hc0 hc1 hc2 K => by
  obtain ⟨ha, hc⟩ := okB_al hh.1 ok
  have he := wsO_at (G := G) hh.1 ha
  rw [cell_i (by omega) (by omega), hc] at he
  refine va_bast cx.1 cx.2.1 cx.sk.1 hh.2.1 (wsO_D cx.sk.2.1 hh.1) hS (pix h p) 1 he rfl (ixB_in hi) hd (fun H1 locs1 hP1 _ hS1 => ?_)
  rw [vp_nar_byte] at hP1
  have z := K H1 locs1 cells slots ls hl (hr_set hh.1 ha rfl rfl (fun z hz => upI_ne hz) (fun z _ => rfl) hh.2.2 (by rw [cell_i (by omega) (by omega), hc]; exact congrArg (fun f => Sum.inl (G.2.2.1 21, (SH p).2, Sum.inl f)) upI_self.symm) hP1) hS1 rfl rfl
  rw [hn] at z
  exact z
theorem nar_z (x : Int32) : vp_nar .boolean x = x &&& 1 := rfl
theorem g_zast {p : Nat} {i x : Int32} (hd : decode M.2.2.1 (pcj M j) = .ok (.bastore, 1)) (hn : pcj M (j + 1) = pcj M j + 1) (ok : okB h p 22 = true) (hi : ixB i (SH p).2 = true) : StepH G d M j lv (.int x :: .int i :: .ref p :: r0) h (j + 1) lv r0 (hI h p i.toNatClampNeg (x &&& 1)) := fun p1 e R s m args below meth c H locs cells slots ls Z cx hl hh hS hc0 hc1 hc2 K => by
  obtain ⟨ha, hc⟩ := okB_al hh.1 ok
  have he := wsO_at (G := G) hh.1 ha
  rw [cell_i (by omega) (by omega), hc] at he
  refine va_zast cx.1 cx.2.1 cx.sk.1 hh.2.1 (wsO_D cx.sk.2.1 hh.1) hS (pix h p) 2 he rfl (ixB_in hi) hd (fun H1 locs1 hP1 _ hS1 => ?_)
  rw [nar_z] at hP1
  have z := K H1 locs1 cells slots ls hl (hr_set hh.1 ha rfl rfl (fun z hz => upI_ne hz) (fun z _ => rfl) hh.2.2 (by rw [cell_i (by omega) (by omega), hc]; exact congrArg (fun f => Sum.inl (G.2.2.1 22, (SH p).2, Sum.inl f)) upI_self.symm) hP1) hS1 rfl rfl
  rw [hn] at z
  exact z
theorem g_aast {p x : Nat} {i : Int32} (hd : decode M.2.2.1 (pcj M j) = .ok (.aastore, 1)) (hn : pcj M (j + 1) = pcj M j + 1) (ok : (okB h p 23 && okB h x 6 || okB h p 24 && okB h x 3) = true) (hi : ixB i (SH p).2 = true) : StepH G d M j lv (.ref x :: .int i :: .ref p :: r0) h (j + 1) lv r0 (hR h p i.toNatClampNeg (some x)) := fun p1 e R s m args below meth c H locs cells slots ls Z cx hl hh hS hc0 hc1 hc2 K => by
  have gen : ∀ (t0 ci : Nat) (q : vw_C), vwCl[ci]? = some q → al h p → ¬ (SH p).1 < 23 → (tyO G)[t0]? = some (G.2.2.1 (SH p).1, .object q.1) → al h x → (SH x).1 = ci → ci < 20 → W p1 G.1 e R s m args below meth c H locs cells slots Z (F0 m (pcj M j) ls ((.ref x :: .int i :: .ref p :: r0).map (trv G))) := fun t0 ci q hq ha hk ht hx hci hlt => by
    have he := wsO_at (G := G) hh.1 ha
    rw [cell_q hk] at he
    have hv := wsO_at (G := G) hh.1 hx
    rw [cell_o (by omega), hci] at hv
    refine va_astq cx.1 cx.2.1 cx.sk.1 hh.2.1 (wsO_D cx.sk.2.1 hh.1) hS (pix h p) t0 (pix h x) ci he ht hv hq (ixB_in hi) hd (fun H1 locs1 hP1 _ hS1 => ?_)
    have z := K H1 locs1 cells slots ls hl (hr_set hh.1 ha rfl rfl (fun z _ => rfl) (fun z hz => upR_ne hz) hh.2.2 (by
      rw [cell_q hk]
      refine congrArg (fun f => Sum.inl (G.2.2.1 (SH p).1, (SH p).2, Sum.inr (Sum.inr (Sum.inr (Sum.inr f))))) (funext fun k => ?_)
      by_cases hk2 : k = i.toNatClampNeg
      · simp [va_up, hR, upR, hk2]
      · simp [va_up, hR, upR, hk2]) hP1) hS1 rfl rfl
    rw [hn] at z
    exact z
  simp only [Bool.or_eq_true, Bool.and_eq_true] at ok
  rcases ok with ⟨o1, o2⟩ | ⟨o1, o2⟩
  · obtain ⟨ha, hc⟩ := okB_al hh.1 o1
    obtain ⟨hb, hc2⟩ := okB_al hh.1 o2
    exact gen 3 6 (RX6, TX6, 4) rfl ha (by omega) (by rw [hc]; rfl) hb hc2 (by omega)
  · obtain ⟨ha, hc⟩ := okB_al hh.1 o1
    obtain ⟨hb, hc2⟩ := okB_al hh.1 o2
    exact gen 4 3 (RX3, TX3, 9) rfl ha (by omega) (by rw [hc]; rfl) hb hc2 (by omega)
theorem g_alen {p : Nat} (hd : decode M.2.2.1 (pcj M j) = .ok (.arraylength, 1)) (hn : pcj M (j + 1) = pcj M j + 1) (ok : okB h p 20 = true) : StepH G d M j lv (.ref p :: r0) h (j + 1) lv (.int (Int32.ofNat (SH p).2) :: r0) h := fun p1 e R s m args below meth c H locs cells slots ls Z cx hl hh hS hc0 hc1 hc2 K => by
  obtain ⟨ha, hc⟩ := okB_al hh.1 ok
  have he := wsO_at (G := G) hh.1 ha
  rw [cell_i (by omega) (by omega), hc] at he
  refine va_alen cx.1 cx.2.1 cx.sk.1 hh.2.1 (pix h p) 0 he rfl rfl hd ?_
  have z := K H locs cells slots ls hl hh hS rfl rfl
  rw [hn] at z
  exact z
theorem g_cald {p : Nat} {i : Int32} (hd : decode M.2.2.1 (pcj M j) = .ok (.iaload, 1)) (hn : pcj M (j + 1) = pcj M j + 1) (hp : p = 100100 ∨ p = 100101) (hi : ixB i 16 = true) : StepH G d M j lv (.int i :: .ref p :: r0) h (j + 1) lv (.int (kA p i.toNatClampNeg) :: r0) h := fun p1 e R s m args below meth c H locs cells slots ls Z cx hl hh hS hc0 hc1 hc2 K => by
  have z := K H locs cells slots ls hl hh hS rfl rfl
  rw [hn] at z
  rcases hp with rfl | rfl
  · exact va_ti cx.1 cx.2.1 cx.sk.2.2.2.2.1.2 hS (ixB_in hi) rfl hd z
  · exact va_ti cx.1 cx.2.1 cx.sk.2.2.2.2.2.1.2 hS (ixB_in hi) rfl hd z
theorem g_sld {i : Int32} (hd : decode M.2.2.1 (pcj M j) = .ok (.iaload, 1)) (hn : pcj M (j + 1) = pcj M j + 1) (hi : ixB i (h.2.2.1 100301 0).toNatClampNeg = true) : StepH G d M j lv (.int i :: .ref 100300 :: r0) h (j + 1) lv (.int (h.2.2.1 100300 i.toNatClampNeg) :: r0) h := fun p1 e R s m args below meth c H locs cells slots ls Z cx hl hh hS hc0 hc1 hc2 K => by
  have z := K H locs cells slots ls hl hh hS rfl rfl
  rw [hn, hh.2.2.2.1 i.toNatClampNeg] at z
  obtain ⟨x1, x2, x3, x4⟩ := cx.sk.2.2.2.2.2.2.2.2.2.2
  rw [hh.2.2.2.2] at hi
  have hL : (Int32.ofNat G.2.2.2.2.1).toNatClampNeg = G.2.2.2.2.1 := nI_clamp x4
  rw [hL] at hi
  exact va_sld cx.1 cx.2.1 x1 x2 x3 hS (ixB_in hi) hd z
theorem g_slen (hd : decode M.2.2.1 (pcj M j) = .ok (.arraylength, 1)) (hn : pcj M (j + 1) = pcj M j + 1) : StepH G d M j lv (.ref 100300 :: r0) h (j + 1) lv (.int (h.2.2.1 100301 0) :: r0) h := fun p1 e R s m args below meth c H locs cells slots ls Z cx hl hh hS hc0 hc1 hc2 K => by
  have z := K H locs cells slots ls hl hh hS rfl rfl
  rw [hn, hh.2.2.2.2] at z
  obtain ⟨x1, x2, x3, x4⟩ := cx.sk.2.2.2.2.2.2.2.2.2.2
  exact va_slen cx.1 cx.2.1 x1 x2 x3 hS hd z
theorem g_gets {p ix : Nat} (hd : decode M.2.2.1 (pcj M j) = .ok (.getstatic ix, 3)) (hn : pcj M (j + 1) = pcj M j + 3) (ho : M.2.2.2.1.cls = "WreckCourt$Sea") (hp : (p = 100100 ∧ ix = 97) ∨ (p = 100101 ∧ ix = 100)) : StepH G d M j lv r0 h (j + 1) lv (.ref p :: r0) h := fun p1 e R s m args below meth c H locs cells slots ls Z cx hl hh hS hc0 hc1 hc2 K => by
  have z := K H locs cells slots ls hl hh hS rfl rfl
  rw [hn] at z
  have hown := cx.own
  rw [ho] at hown
  rcases hp with ⟨rfl, rfl⟩ | ⟨rfl, rfl⟩
  · exact va_getsN cx.1 cx.2.1 cx.sk.2.2.2.2.1.1 hS hown (va_Nw.use rfl cx.sk.2.2.2.2.2.2.2.1.1) (fun x hx => hx) hd z
  · exact va_getsN cx.1 cx.2.1 cx.sk.2.2.2.2.2.1.1 hS hown (va_Nw.use rfl cx.sk.2.2.2.2.2.2.2.1.2) (fun x hx => hx) hd z
theorem g_obj {p ix : Nat} (hd : decode M.2.2.1 (pcj M j) = .ok (.invokespecial ix, 3)) (hn : pcj M (j + 1) = pcj M j + 3) (hw : Cond.methodLink M.2.2.2.1.cls ix objectInit ∈ LG) (hdz : 1 ≤ d) (hr : (r0.map Value.category).sum ≤ 8) : StepH G d M j lv (.ref p :: r0) h (j + 1) lv r0 h := fun p1 e R s m args below meth c H locs cells slots ls Z cx hl hh hS hc0 hc1 hc2 K => by
  have z := K H locs cells slots ls hl hh hS rfl rfl
  rw [hn] at z
  have hr' : ((r0.map (trv G)).map fun v => v.category).sum ≤ 8 := by
    rw [List.map_map]
    have : ((fun v => v.category) ∘ trv G) = Value.category := funext fun v => trv_cat G v
    rw [this]
    exact hr
  obtain ⟨q1, q2⟩ := cx.2.2.2.2.2.2.2.2.1
  exact W.objInit cx.1 cx.2.1 cx.own (cx.ws _ hw) (cx.ws _ (tb_oi _ List.mem_cons_self)) (cx.ws _ (tb_oi _ (List.mem_cons_of_mem _ List.mem_cons_self))) rfl (by show ls.size = c.maxLocals; rw [hl.1, cx.2.2.1]) rfl hd (by omega) (by have := lv_room (m := m) (pc := pcj M j) (ls := ls) (rest := (Value.ref p :: r0).map (trv G)) hr'; omega) z
end HROWS2
