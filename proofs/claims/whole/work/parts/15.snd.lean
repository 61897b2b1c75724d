/-! SOUNDNESS: what vc asks for is enough -/
theorem ft_lt {M : MR} {j : Nat} {e : Ent} (h : ft M j = some e) : j < M.2.1.length * 16 := by
  unfold ft at h
  have h1 : j / 16 < M.2.1.length := by
    rcases Nat.lt_or_ge (j / 16) M.2.1.length with z | z
    · exact z
    · rw [List.getD_eq_getElem?_getD, List.getElem?_eq_none z] at h
      simp at h
  omega
theorem pcj_of {M : MR} {j : Nat} {e : Ent} (h : ft M j = some e) : pcj M j = e.2.1 := by
  unfold pcj
  rw [h]
theorem chk_e {M : MR} {j : Nat} {e : Ent} (hM : chkM M = true) (h : ft M j = some e) : decB M.2.2.1 e = true ∧ (nfB e.1 = true ∨ pcj M (j + 1) = pcj M j + lenI e.1) ∧ argB M e = true := by
  unfold chkM at hM
  simp only [Bool.and_eq_true] at hM
  have h1 := List.all_eq_true.mp hM.2.2.2 j (List.mem_range.mpr (ft_lt h))
  unfold chkE at h1
  rw [h] at h1
  simp only [Bool.and_eq_true, Bool.or_eq_true, decide_eq_true_eq] at h1
  rw [pcj_of h]
  exact h1
theorem chk_d {M : MR} {j : Nat} {e : Ent} (hM : chkM M = true) (h : ft M j = some e) (hs : swB e.1 = false) : decode M.2.2.1 (pcj M j) = .ok (e.1, lenI e.1) := by
  have h1 := (chk_e hM h).1
  unfold decB at h1
  rw [pcj_of h]
  cases hd : decode M.2.2.1 e.2.1 with
  | error z => rw [hd] at h1; cases h1
  | ok q =>
    obtain ⟨i, n⟩ := q
    rw [hd] at h1
    simp only [Bool.and_eq_true, Bool.or_eq_true, decide_eq_true_eq, hs] at h1
    rcases h1 with ⟨rfl, h2 | rfl⟩
    · cases h2
    · rfl
theorem chk_s {M : MR} {j : Nat} {e : Ent} (hM : chkM M = true) (h : ft M j = some e) : ∃ n, decode M.2.2.1 (pcj M j) = .ok (e.1, n) := by
  have h1 := (chk_e hM h).1
  unfold decB at h1
  rw [pcj_of h]
  cases hd : decode M.2.2.1 e.2.1 with
  | error z => rw [hd] at h1; cases h1
  | ok q =>
    obtain ⟨i, n⟩ := q
    rw [hd] at h1
    simp only [Bool.and_eq_true, decide_eq_true_eq] at h1
    exact ⟨n, by rw [h1.1]⟩
theorem chk_n {M : MR} {j : Nat} {e : Ent} (hM : chkM M = true) (h : ft M j = some e) (hs : nfB e.1 = false) : pcj M (j + 1) = pcj M j + lenI e.1 := by
  rcases (chk_e hM h).2.1 with z | z
  · rw [hs] at z; cases z
  · exact z
theorem chk_cls {M : MR} (hM : chkM M = true) : ONL.getD M.2.2.2.2.2.2 "" = M.2.2.2.1.cls := by
  unfold chkM at hM
  simp only [Bool.and_eq_true, decide_eq_true_eq] at hM
  exact hM.2.2.1
theorem chk_m {M : MR} (hM : chkM M = true) : mOK M := by
  refine ⟨?_, ?_, fun j e h hr => ?_⟩
  · unfold chkM at hM
    simp only [Bool.and_eq_true] at hM
    exact hM.1
  · unfold chkM at hM
    simp only [Bool.and_eq_true, decide_eq_true_eq] at hM
    exact hM.2.1
  · have h1 := chk_d hM h (by rcases hr with z | z | z <;> rw [z] <;> rfl)
    rcases hr with z | z | z <;> rw [z] at h1 ⊢ <;> exact h1
theorem cal_ok {i n : Nat} (h : calB i n = true) : useB i = true ∧ cOK (mt i) n := by
  unfold calB at h
  simp only [Bool.and_eq_true, decide_eq_true_eq] at h
  obtain ⟨h1, h2, h3, h4, h5, h6, h7⟩ := h
  refine ⟨h1, tb_code (use_lt h1), ?_, ⟨h4, h5, h6⟩, h7⟩
  have := tb_in _ (List.mem_map.mpr ⟨_, List.contains_iff_mem.mp h2, rfl⟩)
  rw [h3] at this
  exact this
