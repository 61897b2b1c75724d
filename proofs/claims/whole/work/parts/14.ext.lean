/-! ROWS of the library's own members: arraycopy, min, max, abs; and what is owed elsewhere (texts, rows of rows) -/
theorem tb_cp : ∀ w ∈ [Cond.methodLink "WreckCourt" 119 arraycopyName, Cond.static arraycopyName, Cond.native arraycopyName, Cond.initialized "java/lang/System"], w ∈ LG := in_tab _ [475, 476, 477, 97] (by decide +kernel) (by decide +kernel)
theorem tb_code {i : Nat} (hi : i < 264) : Cond.code (yM i) (mt i).2.2.1 (mt i).2.2.2.2.1 (mt i).2.2.2.2.2.1 ∈ LG := by
  have go : ∀ q n : Nat, (∀ w ∈ (List.range n).map (fun i => Cond.code (yM (q + i)) (mt (q + i)).2.2.1 (mt (q + i)).2.2.2.2.1 (mt (q + i)).2.2.2.2.2.1), w ∈ LG) → q ≤ i → i < q + n → Cond.code (yM i) (mt i).2.2.1 (mt i).2.2.2.2.1 (mt i).2.2.2.2.2.1 ∈ LG := fun q n h h1 h2 => by
    have := h _ (List.mem_map.mpr ⟨i - q, List.mem_range.mpr (by omega), rfl⟩)
    rw [show q + (i - q) = i by omega] at this
    exact this
  rcases Nat.lt_or_ge i 40 with z | z
  · exact go 0 40 tb_cd0 (by omega) (by omega)
  rcases Nat.lt_or_ge i 80 with z2 | z2
  · exact go 40 40 tb_cd1 (by omega) (by omega)
  rcases Nat.lt_or_ge i 120 with z3 | z3
  · exact go 80 40 tb_cd2 (by omega) (by omega)
  rcases Nat.lt_or_ge i 160 with z4 | z4
  · exact go 120 40 tb_cd3 (by omega) (by omega)
  rcases Nat.lt_or_ge i 200 with z5 | z5
  · exact go 160 40 tb_cd4 (by omega) (by omega)
  rcases Nat.lt_or_ge i 240 with z6 | z6
  · exact go 200 40 tb_cd5 (by omega) (by omega)
  · exact go 240 24 tb_cd6 (by omega) (by omega)
theorem sh_le : SHL.all (fun q => decide (q.2 ≤ 100000)) = true := by decide +kernel
theorem sh_sm (p : Nat) : (SH p).2 ≤ 100000 := by
  rcases Nat.lt_or_ge p 147 with hp | hp
  · have hm : SH p ∈ SHL := by
      unfold SH
      rw [List.getD_eq_getElem?_getD, List.getElem?_eq_getElem (by rw [SHlen]; exact hp)]
      exact List.getElem_mem _
    have h1 := List.all_eq_true.mp sh_le _ hm
    exact of_decide_eq_true h1
  · rw [SH_hi hp]
    show 9 ≤ 100000
    omega
section EROWS
variable {G : GX} {d : Nat} {M : MR} {j : Nat} {lv : Lc} {r0 : List Value} {h : Hp} {ix : Nat}
theorem g_min {x y : Int32} (hd : decode M.2.2.1 (pcj M j) = .ok (.invokestatic ix, 3)) (hn : pcj M (j + 1) = pcj M j + 3) (hw : Cond.methodLink M.2.2.2.1.cls ix (yM 69) ∈ LG) (hdz : 1 ≤ d) (hr : (r0.map Value.category).sum ≤ 8) : StepH G d M j lv (.int y :: .int x :: r0) h (j + 1) lv (.int (if y < x then y else x) :: r0) h := fun p1 e R s m args below meth c H locs cells slots ls Z cx hl hh hS hc0 hc1 hc2 K => by
  have z := K H locs cells slots ls hl hh hS rfl rfl
  rw [hn] at z
  have hr' := cat_map (G := G) hr
  obtain ⟨q1, q2⟩ := cx.2.2.2.2.2.2.2.2.1
  exact va_mmin cx.1 cx.2.1 (by rw [hl.1, cx.2.2.1]) cx.own (cx.ws _ hw) (cx.ws _ (tb_sm _ (List.mem_map.mpr ⟨69, by decide +kernel, rfl⟩))) (cx.ws _ (tb_in _ (List.mem_map.mpr ⟨INF.getD 13 0, by decide +kernel, by decide +kernel⟩))) (cx.ws _ (tb_code (i := 69) (by omega))) (by omega) (by omega) (by omega) (by omega) hd z
theorem g_max {x y : Int32} (hd : decode M.2.2.1 (pcj M j) = .ok (.invokestatic ix, 3)) (hn : pcj M (j + 1) = pcj M j + 3) (hw : Cond.methodLink M.2.2.2.1.cls ix (yM 112) ∈ LG) (hdz : 1 ≤ d) (hr : (r0.map Value.category).sum ≤ 8) : StepH G d M j lv (.int y :: .int x :: r0) h (j + 1) lv (.int (if x < y then y else x) :: r0) h := fun p1 e R s m args below meth c H locs cells slots ls Z cx hl hh hS hc0 hc1 hc2 K => by
  have z := K H locs cells slots ls hl hh hS rfl rfl
  rw [hn] at z
  have hr' := cat_map (G := G) hr
  obtain ⟨q1, q2⟩ := cx.2.2.2.2.2.2.2.2.1
  exact va_mmax cx.1 cx.2.1 (by rw [hl.1, cx.2.2.1]) cx.own (cx.ws _ hw) (cx.ws _ (tb_sm _ (List.mem_map.mpr ⟨112, by decide +kernel, rfl⟩))) (cx.ws _ (tb_in _ (List.mem_map.mpr ⟨INF.getD 13 0, by decide +kernel, by decide +kernel⟩))) (cx.ws _ (tb_code (i := 112) (by omega))) (by omega) (by omega) (by omega) (by omega) hd z
theorem g_abs {x : Int32} (hd : decode M.2.2.1 (pcj M j) = .ok (.invokestatic ix, 3)) (hn : pcj M (j + 1) = pcj M j + 3) (hw : Cond.methodLink M.2.2.2.1.cls ix (yM 95) ∈ LG) (hdz : 1 ≤ d) (hr : (r0.map Value.category).sum ≤ 8) : StepH G d M j lv (.int x :: r0) h (j + 1) lv (.int (if 0 ≤ x then x else 0 - x) :: r0) h := fun p1 e R s m args below meth c H locs cells slots ls Z cx hl hh hS hc0 hc1 hc2 K => by
  have z := K H locs cells slots ls hl hh hS rfl rfl
  rw [hn] at z
  have hr' := cat_map (G := G) hr
  obtain ⟨q1, q2⟩ := cx.2.2.2.2.2.2.2.2.1
  exact va_mabs cx.1 cx.2.1 (by rw [hl.1, cx.2.2.1]) cx.own (cx.ws _ hw) (cx.ws _ (tb_sm _ (List.mem_map.mpr ⟨95, by decide +kernel, rfl⟩))) (cx.ws _ (tb_in _ (List.mem_map.mpr ⟨INF.getD 13 0, by decide +kernel, by decide +kernel⟩))) (cx.ws _ (tb_code (i := 95) (by omega))) (by omega) (by omega) (by omega) (by omega) hd z
theorem g_copy {a b : Nat} {sq dp n : Int32} (hd : decode M.2.2.1 (pcj M j) = .ok (.invokestatic 119, 3)) (hn : pcj M (j + 1) = pcj M j + 3) (ho : M.2.2.2.1.cls = "WreckCourt") (hdz : 1 ≤ d) (hr : (r0.map Value.category).sum ≤ 8) (oa : okB h a 20 = true) (ob : okB h b 20 = true) (h1 : 0 ≤ sq) (h2 : 0 ≤ dp) (h3 : 0 ≤ n) (h4 : sq.toNatClampNeg + n.toNatClampNeg ≤ (SH a).2) (h5 : dp.toNatClampNeg + n.toNatClampNeg ≤ (SH b).2) : StepH G d M j lv (.int n :: .int dp :: .ref b :: .int sq :: .ref a :: r0) h (j + 1) lv r0 (h.1, h.2.1, (fun q => if q = b then va_cpy (h.2.2.1 a) (h.2.2.1 b) sq.toNatClampNeg dp.toNatClampNeg n.toNatClampNeg else h.2.2.1 q), h.2.2.2) := fun p1 e R s m args below meth c H locs cells slots ls Z cx hl hh hS hc0 hc1 hc2 K => by
  obtain ⟨ha, hca⟩ := okB_al hh.1 oa
  obtain ⟨hb, hcb⟩ := okB_al hh.1 ob
  have hea := wsO_at (G := G) hh.1 ha
  rw [cell_i (by omega) (by omega), hca] at hea
  have heb := wsO_at (G := G) hh.1 hb
  rw [cell_i (by omega) (by omega), hcb] at heb
  have hr' := cat_map (G := G) hr
  obtain ⟨q1, q2⟩ := cx.2.2.2.2.2.2.2.2.1
  have hown := cx.own
  rw [ho] at hown
  have hnf : nativeFrameWords "java/lang/System" "arraycopy" 5 = 7 := by decide +kernel
  refine va_copyi cx.1 cx.2.1 (by rw [hl.1, cx.2.2.1]) hown (cx.ws _ (tb_cp _ List.mem_cons_self)) (cx.ws _ (tb_cp _ (by simp))) (cx.ws _ (tb_cp _ (by simp))) (cx.ws _ (tb_cp _ (by simp))) cx.sk.1 hh.2.1 (wsO_D cx.sk.2.1 hh.1) hS (pix h a) (pix h b) 0 0 hea heb rfl rfl rfl (Int32.not_lt.mpr h1) (Int32.not_lt.mpr h2) (Int32.not_lt.mpr h3) h4 h5 (fun _ _ => rfl) (by omega) (by rw [hnf]; omega) hd (fun H1 locs1 hP1 _ hS1 => ?_)
  have z := K H1 locs1 cells slots ls hl (hr_set (h' := (h.1, h.2.1, (fun q => if q = b then va_cpy (h.2.2.1 a) (h.2.2.1 b) sq.toNatClampNeg dp.toNatClampNeg n.toNatClampNeg else h.2.2.1 q), h.2.2.2)) hh.1 hb rfl rfl (fun z hz => if_neg hz) (fun z _ => rfl) hh.2.2 (by rw [cell_i (by omega) (by omega), hcb]; exact congrArg (fun f => Sum.inl (G.2.2.1 20, (SH b).2, Sum.inl f)) (if_pos rfl).symm) hP1) hS1 rfl rfl
  rw [hn] at z
  exact z
end EROWS
/-- owed elsewhere: a constant text is loaded, its length and its signs are asked -/
def StrOK : Prop := ∀ (G : GX) (d : Nat) (M : MR) (j : Nat) (lv : Lc) (r0 : List Value) (h : Hp) (ix : Nat), M.2.2.2.1.cls = "WreckCourt$Reader" →
  (∀ q ∈ stI, q.1 = ix → decode M.2.2.1 (pcj M j) = .ok (.ldc ix, 2) → pcj M (j + 1) = pcj M j + 2 → StepH G d M j lv r0 h (j + 1) lv (.ref (100000 + q.2.2) :: r0) h) ∧
  (∀ p : Nat, 100000 ≤ p → p < 100016 → 4 ≤ d → (r0.map Value.category).sum ≤ 8 → decode M.2.2.1 (pcj M j) = .ok (.invokevirtual 115, 3) → pcj M (j + 1) = pcj M j + 3 → StepH G d M j lv (.ref p :: r0) h (j + 1) lv (.int (Int32.ofNat (stL.getD (p - 100000) []).length) :: r0) h) ∧
  (∀ (p : Nat) (i : Int32), 100000 ≤ p → p < 100016 → 4 ≤ d → (r0.map Value.category).sum ≤ 8 → ixB i (stL.getD (p - 100000) []).length = true → decode M.2.2.1 (pcj M j) = .ok (.invokevirtual 119, 3) → pcj M (j + 1) = pcj M j + 3 → StepH G d M j lv (.int i :: .ref p :: r0) h (j + 1) lv (.int ((stL.getD (p - 100000) []).getD i.toNatClampNeg 0) :: r0) h)
/-- owed elsewhere: new int[n][k] -/
def MnaOK : Prop := ∀ (G : GX) (d : Nat) (M : MR) (j : Nat) (lv : Lc) (r0 : List Value) (h : Hp) (ix : Nat) (n k : Int32), decode M.2.2.1 (pcj M j) = .ok (.multianewarray ix 2, 4) → pcj M (j + 1) = pcj M j + 4 → ((M.2.2.2.1.cls = "WreckCourt$Sea" ∧ ix = 31) ∨ (M.2.2.2.1.cls = "WreckCourt$Vessel" ∧ ix = 43)) → 0 ≤ n → 0 ≤ k → h.2.1 = 0 → h.1 + n.toNatClampNeg < 147 → SH h.1 = (25, n.toNatClampNeg) → (∀ i, i < n.toNatClampNeg → SH (h.1 + 1 + i) = (20, k.toNatClampNeg)) →
  StepH G d M j lv (.int k :: .int n :: r0) h (j + 1) lv (.ref h.1 :: r0) (h.1 + 1 + n.toNatClampNeg, h.2.1, h.2.2.1, fun q i => if q = h.1 then (if i < n.toNatClampNeg then some (h.1 + 1 + i) else none) else h.2.2.2 q i)
