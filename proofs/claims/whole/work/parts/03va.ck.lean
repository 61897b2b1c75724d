theorem al_ext {P : Nat → Bool} {a m : Nat} (h : ∀ i, i < a → P i = true) (h2 : (List.range m).all (fun i => P (a + i)) = true) : ∀ i, i < a + m → P i = true := fun i hi => by
  rcases Nat.lt_or_ge i a with z | z
  · exact h i z
  · have := List.all_eq_true.mp h2 (i - a) (List.mem_range.mpr (by omega))
    rw [show a + (i - a) = i by omega] at this
    exact this
theorem al_0 {P : Nat → Bool} : ∀ i, i < 0 → P i = true := fun i h => absurd h (Nat.not_lt_zero i)
def hdM (M : MR) : Bool := plainName M.2.2.2.1.cls && (decide (pcj M 0 = 0) && decide (ONL.getD M.2.2.2.2.2.2 "" = M.2.2.2.1.cls))
theorem chkM_of {M : MR} {n : Nat} (h1 : hdM M = true) (hn : M.2.1.length * 16 = n) (h2 : ∀ j, j < n → chkE M j = true) : chkM M = true := by
  unfold hdM at h1
  unfold chkM
  simp only [Bool.and_eq_true] at h1 ⊢
  exact ⟨h1.1, h1.2.1, h1.2.2, List.all_eq_true.mpr (fun j hj => h2 j (by rw [← hn]; exact List.mem_range.mp hj))⟩
def ckI (i : Nat) : Bool := !(useB i) || chkM (mt i)
set_option maxRecDepth 100000 in
theorem ckg_0 : (List.range 1).all (fun i => ckI (0 + i)) = true := by decide +kernel
set_option maxRecDepth 100000 in
theorem ckg_1 : (List.range 3).all (fun i => ckI (1 + i)) = true := by decide +kernel
set_option maxRecDepth 100000 in
theorem ckg_4 : (List.range 2).all (fun i => ckI (4 + i)) = true := by decide +kernel
set_option maxRecDepth 100000 in
theorem ckg_6 : (List.range 3).all (fun i => ckI (6 + i)) = true := by decide +kernel
set_option maxRecDepth 100000 in
theorem ckg_9 : (List.range 6).all (fun i => ckI (9 + i)) = true := by decide +kernel
set_option maxRecDepth 100000 in
theorem ckg_15 : (List.range 5).all (fun i => ckI (15 + i)) = true := by decide +kernel
set_option maxRecDepth 100000 in
theorem ckg_20 : (List.range 2).all (fun i => ckI (20 + i)) = true := by decide +kernel
set_option maxRecDepth 100000 in
theorem ckg_22 : (List.range 4).all (fun i => ckI (22 + i)) = true := by decide +kernel
set_option maxRecDepth 100000 in
theorem ckg_26 : (List.range 4).all (fun i => ckI (26 + i)) = true := by decide +kernel
set_option maxRecDepth 100000 in
theorem ckg_30 : (List.range 1).all (fun i => ckI (30 + i)) = true := by decide +kernel
set_option maxRecDepth 100000 in
theorem ckg_31 : (List.range 2).all (fun i => ckI (31 + i)) = true := by decide +kernel
set_option maxRecDepth 100000 in
theorem ckg_33 : (List.range 4).all (fun i => ckI (33 + i)) = true := by decide +kernel
set_option maxRecDepth 100000 in
theorem ckg_37 : (List.range 3).all (fun i => ckI (37 + i)) = true := by decide +kernel
set_option maxRecDepth 100000 in
theorem ckg_40 : (List.range 2).all (fun i => ckI (40 + i)) = true := by decide +kernel
set_option maxRecDepth 100000 in
theorem ckg_42 : (List.range 3).all (fun i => ckI (42 + i)) = true := by decide +kernel
set_option maxRecDepth 100000 in
theorem ckg_45 : (List.range 3).all (fun i => ckI (45 + i)) = true := by decide +kernel
set_option maxRecDepth 100000 in
theorem ckg_48 : (List.range 4).all (fun i => ckI (48 + i)) = true := by decide +kernel
set_option maxRecDepth 100000 in
theorem ckg_52 : (List.range 2).all (fun i => ckI (52 + i)) = true := by decide +kernel
