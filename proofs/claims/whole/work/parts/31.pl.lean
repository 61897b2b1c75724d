/-! PLACES by number -/
theorem RPn {f : Nat} {sw : Bool} {p k : Nat} (h : p ≠ 48) (h0 : p ≠ 0) : RP f sw p k = (RPL.getD p []).getD k none := by unfold RP; rw [if_neg h, if_neg h0]
theorem RP_sh {f : Nat} {sw : Bool} {s : Nat} (h : s < 8) : RP f sw 1 s = some (77 + 2 * s) := by
  rw [RPn (by omega) (by omega)]; revert s; decide
theorem RP_it {f : Nat} {sw : Bool} {s : Nat} (h : s < 8) : RP f sw (77 + 2 * s) 0 = some (78 + 2 * s) := by
  rw [RPn (by omega) (by omega)]; revert s; decide
theorem RP_x {f : Nat} {sw : Bool} {s : Nat} (h : s < 4) : RP f sw 11 s = some (12 + s) := by
  rw [RPn (by omega) (by omega)]; revert s; decide
theorem RP_y {f : Nat} {sw : Bool} {s : Nat} (h : s < 4) : RP f sw 16 s = some (17 + s) := by
  rw [RPn (by omega) (by omega)]; revert s; decide
theorem RP_h {f : Nat} {sw : Bool} {s : Nat} (h : s < 4) : RP f sw 21 s = some (22 + s) := by
  rw [RPn (by omega) (by omega)]; revert s; decide
theorem RP_k {f : Nat} {sw : Bool} {s : Nat} (h : s < 6) : RP f sw 40 s = some (41 + s) := by
  rw [RPn (by omega) (by omega)]; revert s; decide
theorem RP_fa {f : Nat} {sw : Bool} {s : Nat} (h : s < f) : RP f sw 48 s = some (1000 + s) := by
  unfold RP; rw [if_pos rfl, if_pos h]
theorem SH_sh {s : Nat} (h : s < 8) : SH (77 + 2 * s) = (6, 4) := by revert s; decide
theorem SH_it {s : Nat} (h : s < 8) : SH (78 + 2 * s) = (20, 120) := by revert s; decide
theorem SH_x {s : Nat} (h : s < 4) : SH (12 + s) = (20, 241) := by revert s; decide
theorem SH_y {s : Nat} (h : s < 4) : SH (17 + s) = (20, 241) := by revert s; decide
theorem SH_h {s : Nat} (h : s < 4) : SH (22 + s) = (20, 240) := by revert s; decide
theorem SH_k {s : Nat} (h : s < 6) : SH (41 + s) = (20, 241) := by revert s; decide
theorem okB_lt {f : Nat} {I : St} {R : Nat → Nat → Option Nat} {p ci n : Nat} (h : p < 147) (h2 : SH p = (ci, n)) : okB (147, f, I, R) p ci = true := by
  unfold okB
  rw [if_pos (by omega), h2]
  simp [h]
theorem okB_sh {f : Nat} {I : St} {R : Nat → Nat → Option Nat} {s : Nat} (h : s < 8) : okB (147, f, I, R) (77 + 2 * s) 6 = true := okB_lt (by omega) (SH_sh h)
theorem okB_it {f : Nat} {I : St} {R : Nat → Nat → Option Nat} {s : Nat} (h : s < 8) : okB (147, f, I, R) (78 + 2 * s) 20 = true := okB_lt (by omega) (SH_it h)
theorem okB_x {f : Nat} {I : St} {R : Nat → Nat → Option Nat} {s : Nat} (h : s < 4) : okB (147, f, I, R) (12 + s) 20 = true := okB_lt (by omega) (SH_x h)
theorem okB_y {f : Nat} {I : St} {R : Nat → Nat → Option Nat} {s : Nat} (h : s < 4) : okB (147, f, I, R) (17 + s) 20 = true := okB_lt (by omega) (SH_y h)
theorem okB_h {f : Nat} {I : St} {R : Nat → Nat → Option Nat} {s : Nat} (h : s < 4) : okB (147, f, I, R) (22 + s) 20 = true := okB_lt (by omega) (SH_h h)
theorem okB_k {f : Nat} {I : St} {R : Nat → Nat → Option Nat} {s : Nat} (h : s < 6) : okB (147, f, I, R) (41 + s) 20 = true := okB_lt (by omega) (SH_k h)
theorem okB_fa {f : Nat} {I : St} {R : Nat → Nat → Option Nat} {s : Nat} (h : s < f) : okB (147, f, I, R) (1000 + s) 3 = true := by
  unfold okB
  rw [if_neg (by omega)]
  simp [h]
theorem upI_ap (I : St) (p k : Nat) (x : Int32) (q i : Nat) : upI I p k x q i = if q = p then (if i = k then x else I q i) else I q i := rfl
