/-! SOUNDNESS of vc, and every method checked -/
theorem wp.msk {G : GX} {d : Nat} {M : MR} {j i : Nat} {live : List Nat} {lv : Lc} {st : List Value} {h : Hp} {Q : Option Value → Hp → Prop} (k : wp G d M j (msk live i lv) st h Q) : wp G d M j lv st h Q := by
  obtain ⟨r, h', g, q⟩ := k
  exact ⟨r, h', g.msk, q⟩
theorem wp.mono {G : GX} {d : Nat} {M : MR} {j : Nat} {lv : Lc} {st : List Value} {h : Hp} {Q Q' : Option Value → Hp → Prop} (k : wp G d M j lv st h Q) (hq : ∀ r h', Q r h' → Q' r h') : wp G d M j lv st h Q' := by
  obtain ⟨r, h', g, q⟩ := k
  exact ⟨r, h', g, hq r h' q⟩
theorem vc_wp0 (hst : StrOK) (hmn : MnaOK) (hMT : ∀ i, useB i = true → chkM (mt i) = true) (G : GX) (sl : List (Nat × Nat × List Nat)) (il : List Nat) : ∀ (k d : Nat) (M : MR) (j : Nat) (lv : Lc) (st : List Value) (h : Hp) (Q : Option Value → Hp → Prop), chkM M = true → vc G sl il k d M j lv st h Q → wp G d M j lv st h Q
  | 0, d, M, j, lv, st, h, Q, _, hv => hv
  | k + 1, d, M, j, lv, st, h, Q, hM, hv => by
    have ih := vc_wp0 hst hmn hMT G sl il k
    unfold vc at hv
    cases hf : ft M j with
    | none => rw [hf] at hv; exact hv.elim
    | some e =>
      rw [hf] at hv
      refine sp_wp hst hmn hMT hM hf hv (fun j' lv' st' h' hk => ?_) (fun v hk => ck_d hk) (fun i vs K hk => ?_)
      · split at hk
        · exact wp.msk hk
        · exact ih d M j' lv' st' h' Q hM hk
      · cases d with
        | zero => exact hk.elim
        | succ d' =>
          obtain ⟨h1, hk⟩ := ck_d hk
          simp only [Bool.and_eq_true, decide_eq_true_eq] at h1
          refine ⟨d', rfl, h1.2, ?_⟩
          split at hk
          · exact ih d' (mt i) 0 _ [] h K (hMT i h1.1) hk
          · split at hk
            · exact hk
            · exact hk.mono (fun v h1 q => by obtain ⟨I', rfl, rfl, q⟩ := q; exact q)
            · exact hk.mono (fun v h1 q => by obtain ⟨x, I', rfl, rfl, q⟩ := q; exact q)
            · exact hk.mono (fun v h1 q => by obtain ⟨x, I', rfl, rfl, q⟩ := q; exact q)
/-- what the machine's part still rests on, gathered; each is closed in a part of its own -/
def OKs : Prop := StrOK ∧ MnaOK
theorem vc_wp (o : OKs) {G : GX} (sl : List (Nat × Nat × List Nat)) (il : List Nat) (k : Nat) {d i j : Nat} {lv : Lc} {st : List Value} {h : Hp} {Q : Option Value → Hp → Prop} (hi : useB i = true) (hv : vc G sl il k d (mt i) j lv st h Q) : wp G d (mt i) j lv st h Q := vc_wp0 o.1 o.2 ck_all G sl il k d (mt i) j lv st h Q (ck_all i hi) hv
theorem vc_law (o : OKs) {G : GX} (sl : List (Nat × Nat × List Nat)) (il : List Nat) (k : Nat) {d j : Nat} {lv : Lc} {st : List Value} {h : Hp} {Q : Option Value → Hp → Prop} (hv : vc G sl il k d (mt 264) j lv st h Q) : wp G d (mt 264) j lv st h Q := vc_wp0 o.1 o.2 ck_all G sl il k d (mt 264) j lv st h Q ckm_264 hv
