/-! CALLS: where, nearest (their ends) -/
theorem rows_v {I J : St} (w1 : ∀ p, 97 ≤ p → p ≤ 106 → J p = I p) (h10 : J 93 10 = I 93 10) : (∀ s m, wX J s m = wX I s m) ∧ (∀ s m, wY J s m = wY I s m) ∧ (∀ s m, crs J s m = crs I s m) ∧ (∀ s m, spd J s m = spd I s m) ∧ (∀ s m, cod J s m = cod I s m) ∧ ∀ s m, ordK J s m = ordK I s m := by
  have ho : ∀ s m, ordK J s m = ordK I s m := fun s m => by
    unfold ordK
    rw [w1 101 (by decide) (by decide), w1 102 (by decide) (by decide), h10]
  have hc : ∀ s m, crs J s m = crs I s m := fun s m => by
    unfold crs; rw [ho, w1 103 (by decide) (by decide)]
  have hv : ∀ s m, spd J s m = spd I s m := fun s m => by
    unfold spd; rw [ho, w1 104 (by decide) (by decide)]
  have hd : ∀ s m, cod J s m = cod I s m := fun s m => by
    unfold cod ocode; rw [ho, w1 103 (by decide) (by decide), w1 104 (by decide) (by decide)]
  have hX : ∀ s m, wX J s m = wX I s m := fun s m => by
    induction m with
    | zero => show J 99 s = I 99 s; rw [w1 99 (by decide) (by decide)]
    | succ m ih => unfold wX; rw [ih, hc, hv, w1 97 (by decide) (by decide), w1 105 (by decide) (by decide)]
  have hY : ∀ s m, wY J s m = wY I s m := fun s m => by
    induction m with
    | zero => show J 100 s = I 100 s; rw [w1 100 (by decide) (by decide)]
    | succ m ih => unfold wY; rw [ih, hc, hv, w1 98 (by decide) (by decide), w1 106 (by decide) (by decide)]
  exact ⟨hX, hY, hc, hv, hd, ho⟩
/-- the state at which the reference begins, behind the class -/
def BS (K : St) : St := upI K 93 0 0
theorem BS_row {I K : St} (w : WR I K) {p : Nat} (h1 : 26 ≤ p) (h2 : p ≠ 28) (h3 : p ≠ 93) : BS K p = I p := by
  unfold BS
  rw [upI_row h3]
  exact w.1 p h1 h2
theorem BS_93 {I K : St} (w : WR I K) {k : Nat} (h : k ≠ 0) : BS K 93 k = I 93 k := by
  unfold BS
  rw [upI_nk (fun z => h z.2), w.1 93 (by decide) (by decide)]
theorem BS_rows {I K : St} (w : WR I K) : (∀ s m, wX (BS K) s m = wX I s m) ∧ (∀ s m, wY (BS K) s m = wY I s m) ∧ (∀ s m, crs (BS K) s m = crs I s m) ∧ (∀ s m, spd (BS K) s m = spd I s m) ∧ (∀ s m, cod (BS K) s m = cod I s m) ∧ ∀ s m, ordK (BS K) s m = ordK I s m := rows_v (fun p h1 h2 => BS_row w (by omega) (by omega) (by omega)) (BS_93 w (by decide))
theorem BS_dq {I K : St} (w : WR I K) (a b m : Nat) : dq (BS K) a b m = dq I a b m := by
  obtain ⟨h1, h2, -⟩ := BS_rows w
  unfold dq
  rw [h1, h1, h2, h2]
theorem BS_nr {I K : St} (w : WR I K) (s m : Nat) : nrv (BS K) s m = nrv I s m := by
  unfold nrv sg
  rw [show (fun k => dq (BS K) s k m) = (fun k => dq I s k m) from funext fun k => BS_dq w s k m, BS_row w (p := 109) (by decide) (by decide) (by decide), BS_row w (p := 110) (by decide) (by decide) (by decide), BS_row w (p := 111) (by decide) (by decide) (by decide), BS_93 w (k := 19) (by decide), BS_93 w (k := 7) (by decide)]
theorem BS_3 {I K : St} (w : WR I K) : RC3 (BS K) := w.2.2.2.cg (Ag.eqc (cs := [11]) (Ag.rf.up rfl) rfl)
theorem Way.rel {G : GX} {f : Nat} {sw : Bool} {I K J : St} (hR : Rel G f sw I) (w : WR I K) (v : Way (BS K) J) : Rel G f sw J := by
  have a1 : Ag [3, 11] (BS K) J := fun p k hq => by
    by_cases h1 : p = 107
    · subst h1; rw [show cmp 107 k = 11 from rfl] at hq; cases hq
    · by_cases h2 : p = 108
      · subst h2; rw [show cmp 108 k = 11 from rfl] at hq; cases hq
      · rw [v.1 p h1 h2]
  refine hR.upd [3, 11] ((w.ag.up (x := 0) (show [3, 11].contains (cmp 93 0) = true from rfl)).tr a1) rfl nof nof (fun _ => ?_) nof nof nof nof nof nof nof
  refine (BS_3 w).cg (fun p k hc => ?_)
  rw [v.1 p (fun z => by rw [z] at hc; cases hc) (fun z => by rw [z] at hc; cases hc)]
theorem Wlk.wr {I J : St} (w : Wlk I J) : WR I J := ⟨w.1, w.2.1, w.2.2.1, w.2.2.2.1⟩
theorem atX_ok {G : GX} {d f : Nat} {sw : Bool} {I : St} {s m : Nat} {Q : Option Value → Hp → Prop} (r : RC3 I) (hs : s < (I 93 7).toInt.toNat) (hm : m ≤ 240) (q : ∀ J, Wlk I J → Q (some (.int (wX I s m))) (147, f, J, RP f sw)) : wp G (d + 60) (mt 39) 0 (en (mt 39) [.ref 2, .int (Int32.ofNat s), .int (Int32.ofNat m)]) [] (147, f, I, RP f sw) Q := by
  obtain ⟨⟨s1, s2, s3⟩, -⟩ := id r
  have s4 : s < 4 := by omega
  refine v_atX oks ?_
  refine walk_ok r (fun J w => ⟨_, rfl, rfl, ?_⟩)
  have hJ := w.2.2.2.1.2.2.2.2.2.2.2.2 w.2.2.2.2 s (by rw [w.1 93 (by decide) (by decide)]; exact hs)
  have e := (hJ.1 m hm).1
  rw [(rows_w w.1).1] at e
  refine ck_of (kI_x (by omega) s4) ?_
  rw [kI_c (by omega), RP_x s4]
  refine st_iaload rfl rfl (by omega) (okB_x s4) (by rw [SH_x s4]; exact kI_x (by omega) (by show m < 241; omega)) ?_
  show wp G (d + 60) (mt 39) 8 _ [.int (J (12 + s) (Int32.ofNat m).toNatClampNeg)] (147, f, J, RP f sw) Q
  refine v_atXr oks ?_
  rw [kI_c (by omega), e]
  exact q J w
theorem atY_ok {G : GX} {d f : Nat} {sw : Bool} {I : St} {s m : Nat} {Q : Option Value → Hp → Prop} (r : RC3 I) (hs : s < (I 93 7).toInt.toNat) (hm : m ≤ 240) (q : ∀ J, Wlk I J → Q (some (.int (wY I s m))) (147, f, J, RP f sw)) : wp G (d + 60) (mt 43) 0 (en (mt 43) [.ref 2, .int (Int32.ofNat s), .int (Int32.ofNat m)]) [] (147, f, I, RP f sw) Q := by
  obtain ⟨⟨s1, s2, s3⟩, -⟩ := id r
  have s4 : s < 4 := by omega
  refine v_atY oks ?_
  refine walk_ok r (fun J w => ⟨_, rfl, rfl, ?_⟩)
  have hJ := w.2.2.2.1.2.2.2.2.2.2.2.2 w.2.2.2.2 s (by rw [w.1 93 (by decide) (by decide)]; exact hs)
  have e := (hJ.1 m hm).2
  rw [(rows_w w.1).2.1] at e
  refine ck_of (kI_x (by omega) s4) ?_
  rw [kI_c (by omega), RP_y s4]
  refine st_iaload rfl rfl (by omega) (okB_y s4) (by rw [SH_y s4]; exact kI_x (by omega) (by show m < 241; omega)) ?_
  show wp G (d + 60) (mt 43) 8 _ [.int (J (17 + s) (Int32.ofNat m).toNatClampNeg)] (147, f, J, RP f sw) Q
  refine v_atYr oks ?_
  rw [kI_c (by omega), e]
  exact q J w
theorem atC_ok {G : GX} {d f : Nat} {sw : Bool} {I : St} {s m : Nat} {Q : Option Value → Hp → Prop} (r : RC3 I) (hs : s < (I 93 7).toInt.toNat) (hm : m < 240) (q : ∀ J, Wlk I J → Q (some (.int (crs I s m))) (147, f, J, RP f sw)) : wp G (d + 60) (mt 44) 0 (en (mt 44) [.ref 2, .int (Int32.ofNat s), .int (Int32.ofNat m)]) [] (147, f, I, RP f sw) Q := by
  obtain ⟨⟨s1, s2, s3⟩, -⟩ := id r
  have s4 : s < 4 := by omega
  refine v_atC oks ?_
  refine walk_ok r (fun J w => ⟨_, rfl, rfl, ?_⟩)
  have hJ := w.2.2.2.1.2.2.2.2.2.2.2.2 w.2.2.2.2 s (by rw [w.1 93 (by decide) (by decide)]; exact hs)
  have e := hJ.2 m hm
  rw [(rows_w w.1).2.2.2.2.1] at e
  refine ck_of (kI_x (by omega) s4) ?_
  rw [kI_c (by omega), RP_h s4]
  refine st_iaload rfl rfl (by omega) (okB_h s4) (by rw [SH_h s4]; exact kI_x (by omega) hm) ?_
  show wp G (d + 60) (mt 44) 8 _ [.int (J (22 + s) (Int32.ofNat m).toNatClampNeg)] (147, f, J, RP f sw) Q
  refine v_atCr oks ?_
  rw [kI_c (by omega), e, (cod_at r s m).1]
  exact q J w
theorem atV_ok {G : GX} {d f : Nat} {sw : Bool} {I : St} {s m : Nat} {Q : Option Value → Hp → Prop} (r : RC3 I) (hs : s < (I 93 7).toInt.toNat) (hm : m < 240) (q : ∀ J, Wlk I J → Q (some (.int (spd I s m))) (147, f, J, RP f sw)) : wp G (d + 60) (mt 45) 0 (en (mt 45) [.ref 2, .int (Int32.ofNat s), .int (Int32.ofNat m)]) [] (147, f, I, RP f sw) Q := by
  obtain ⟨⟨s1, s2, s3⟩, -⟩ := id r
  have s4 : s < 4 := by omega
  refine v_atV oks ?_
  refine walk_ok r (fun J w => ⟨_, rfl, rfl, ?_⟩)
  have hJ := w.2.2.2.1.2.2.2.2.2.2.2.2 w.2.2.2.2 s (by rw [w.1 93 (by decide) (by decide)]; exact hs)
  have e := hJ.2 m hm
  rw [(rows_w w.1).2.2.2.2.1] at e
  refine ck_of (kI_x (by omega) s4) ?_
  rw [kI_c (by omega), RP_h s4]
  refine st_iaload rfl rfl (by omega) (okB_h s4) (by rw [SH_h s4]; exact kI_x (by omega) hm) ?_
  show wp G (d + 60) (mt 45) 8 _ [.int (J (22 + s) (Int32.ofNat m).toNatClampNeg)] (147, f, J, RP f sw) Q
  refine v_atVr oks ?_
  rw [kI_c (by omega), e, (cod_at r s m).2]
  exact q J w
theorem Mspeed_ok {G : GX} {d f : Nat} {sw : Bool} {I J : St} {s m : Nat} {Q : Option Value → Hp → Prop} (r : RC3 I) (w : Way I J) (q : Q (some (.int (spd I s m))) (147, f, J, RP f sw)) : wp G (d + 20) (mt 199) 0 (en (mt 199) [.ref 93, .int (Int32.ofNat s), .int (Int32.ofNat m)]) [] (147, f, J, RP f sw) Q := by
  obtain ⟨-, ⟨o1, o2, o3⟩, -⟩ := id r
  have j10 : J 93 10 = Int32.ofNat (I 93 10).toInt.toNat := by rw [w.1 93 (by decide) (by decide)]; exact kI_of o2
  refine v_MspeedOf oks ?_
  refine order_ok (n := (I 93 10).toInt.toNat) (by omega) j10 ⟨_, _, rfl, rfl, ?_⟩
  rw [w.1 101 (by decide) (by decide), w.1 102 (by decide) (by decide), w.1 104 (by decide) (by decide)]
  rw [show bestI (I 101) (I 102) (Int32.ofNat s) (Int32.ofNat m) (I 93 10).toInt.toNat = ordK I s m from rfl]
  unfold spd at q
  cases hb : ordK I s m with
  | none =>
    rw [hb] at q
    rw [if_pos (show ob none = -1000000 from rfl)]
    exact q
  | some k =>
    rw [hb] at q
    have hk := bestI_lt hb
    rw [if_neg (ob_ne (by omega)), show (ob (some k)).toNatClampNeg = k from kI_c (by omega)]
    exact ck_of (kI_x (by omega) (by omega)) q
theorem co_where {G : GX} (s m w : Int32) : CO (Rel G) G 38 196 [.int s, .int m, .int w] := fun f sw I hR => by
  have r := hR.2.2.2.1
  have r4 := hR.2.2.2.2.1
  obtain ⟨⟨s1, s2, s3⟩, -⟩ := id r
  have e3 : (I 93 7 - 1).toInt = (I 93 7).toInt - 1 := fb_subI (by simp only [Int32.reduceToInt]; omega) (by simp only [Int32.reduceToInt]; omega)
  refine v_Cwhere oks ?_
  rw [s1]
  simp only [tI_lt, tI_le, Int32.reduceToInt, Int32.reduceOfNat, e3, tI_eq w, Int32.reduceAdd]
  repeat' (refine ite_i (fun _ => ?_) (fun _ => ?_))
  all_goals first
    | (exfalso; omega)
    | (refine ⟨_, f, sw, I, (by first | rfl | trivial), rfl, hR.1, v_Mwhere oks ?_⟩
       try simp only [lcl, lcg, w64]
       simp only [tI_lt, tI_le, Int32.reduceToInt, Int64.reduceToInt, Int32.reduceOfNat, e3]
       repeat' (refine ite_i (fun _ => ?_) (fun _ => ?_))
       all_goals first
         | (exfalso; omega)
         | exact ⟨_, (by first | rfl | trivial), rfl, hR.free (Ag.rf.up rfl)⟩)
    | skip
  all_goals
    obtain ⟨s0, hs, ts⟩ : ∃ k : Nat, s = Int32.ofNat k ∧ s.toInt = (k : Int) := ⟨s.toInt.toNat, kI_of (by omega), by omega⟩
    obtain ⟨m0, hm, tm⟩ : ∃ k : Nat, m = Int32.ofNat k ∧ m.toInt = (k : Int) := ⟨m.toInt.toNat, kI_of (by omega), by omega⟩
    subst hs hm
    have hs4 : s0 < (I 93 7).toInt.toNat := by omega
  all_goals
    have keyM : ∀ (K : St) (x : Int32), WR I K → (w.toInt = 0 → x = wX I s0 m0) → (w.toInt = 1 → x = wY I s0 m0) → (w.toInt = 2 → x = crs I s0 m0) → (w.toInt = 3 → x = spd I s0 m0) → (w.toInt = 4 → x = Int32.ofNat (nrv I s0 m0)) → wp G 999 (mt 196) 0 (en (mt 196) [.ref 93, .int (Int32.ofNat s0), .int (Int32.ofNat m0), .int w]) [] (147, f, K, RP f sw) (fun r2 h2 => ∃ I2, r2 = some (.int x) ∧ h2 = (147, f, I2, RP f sw) ∧ Rel G f sw I2) := fun K x wk h0 h1 h2 h3 h4 => by
      have rB := BS_3 wk
      have b7 : BS K 93 7 = I 93 7 := BS_93 wk (by decide)
      have k7 : K 93 7 = I 93 7 := by rw [wk.1 93 (by decide) (by decide)]
      have b4 : RC4 (BS K) := r4.cg (fun p k hc => by
        have hag := (wk.ag.up (x := 0) (show [3, 11].contains (cmp 93 0) = true from rfl))
        exact hag p k (by rw [hc]; rfl))
      have rows := BS_rows wk
      have b10 : BS K 93 10 = I 93 10 := BS_93 wk (by decide)
      have hsB : s0 < (BS K 93 7).toInt.toNat := by rw [b7]; exact hs4
      have x241 : m0 ≤ 240 → ixB ((241 * Int32.ofNat s0) + Int32.ofNat m0) 964 = true := fun _ => by
        rw [l241, ← Int32.ofNat_add]; exact kI_x (by omega) (by omega)
      have c241 : m0 ≤ 240 → ((241 * Int32.ofNat s0) + Int32.ofNat m0).toNatClampNeg = 241 * s0 + m0 := fun _ => by
        rw [l241, ← Int32.ofNat_add]; exact kI_c (by omega)
      refine v_Mwhere oks ?_
      rw [k7]
      simp only [lcl, lcg, w64]
      simp only [tI_lt, tI_le, Int32.reduceToInt, Int64.reduceToInt, Int32.reduceOfNat, e3, tI_eq w]
      repeat' (refine ite_i (fun _ => ?_) (fun _ => ?_))
      all_goals first
        | (exfalso; omega)
        | skip
      all_goals
        refine sail_ok rB (fun J v => ⟨_, rfl, rfl, ?_⟩)
        have v : Way (BS K) J := v
        have rel := v.rel hR wk
        have j10 : J 93 10 = Int32.ofNat (I 93 10).toInt.toNat := by rw [v.1 93 (by decide) (by decide), b10]; exact kI_of r.2.1.2.1
        refine order_ok (n := (I 93 10).toInt.toNat) (by have := r.2.1; omega) j10 ⟨_, _, rfl, rfl, ?_⟩
        have jo : bestI (J 101) (J 102) (Int32.ofNat s0) (Int32.ofNat m0) (I 93 10).toInt.toNat = ordK I s0 m0 := by
          rw [v.1 101 (by decide) (by decide), v.1 102 (by decide) (by decide), BS_row wk (p := 101) (by decide) (by decide) (by decide), BS_row wk (p := 102) (by decide) (by decide) (by decide)]
          rfl
        rw [jo]
        repeat' (refine ite_i (fun _ => ?_) (fun _ => ?_))
        all_goals first
          | (exfalso; omega)
          | skip
      all_goals first
        | (have hz : w.toInt = 0 := by omega
           rw [x241 (by omega), c241 (by omega), (v.2 s0 hsB m0 (by omega)).1, rows.1, ← h0 hz]
           exact ⟨_, rfl, rfl, rel⟩)
        | (have hz : w.toInt = 1 := by omega
           rw [x241 (by omega), c241 (by omega), (v.2 s0 hsB m0 (by omega)).2, rows.2.1, ← h1 hz]
           exact ⟨_, rfl, rfl, rel⟩)
        | (have hz : w.toInt = 3 := by omega
           refine Mspeed_ok rB v ⟨_, _, rfl, rfl, ?_⟩
           rw [rows.2.2.2.1, ← h3 hz]
           exact ⟨_, rfl, rfl, rel⟩)
        | (have hz : w.toInt = 4 := by omega
           refine Mnear_ok rB b4 v hsB (by omega) ⟨_, _, rfl, rfl, ?_⟩
           rw [BS_nr wk, ← h4 hz]
           exact ⟨_, rfl, rfl, rel⟩)
        | (have hz : w.toInt = 2 := by omega
           have h2' := h2 hz
           rename_i z
           have o3 := r.2.1.2.2
           have hn : ordK I s0 m0 = none := by
             cases hb : ordK I s0 m0 with
             | none => rfl
             | some k =>
               rw [hb] at z
               have hk := bestI_lt hb
               exact absurd z (ob_ne (by omega))
           unfold crs at h2'
           rw [hn] at h2'
           exact ⟨_, by rw [h2'], rfl, rel⟩)
        | (have hz : w.toInt = 2 := by omega
           have h2' := h2 hz
           rename_i z
           have o3 := r.2.1.2.2
           obtain ⟨k, hb⟩ : ∃ k, ordK I s0 m0 = some k := by
             cases hb : ordK I s0 m0 with
             | none => exact absurd (by rw [hb]; rfl) z
             | some k => exact ⟨k, rfl⟩
           have hk := bestI_lt hb
           unfold crs at h2'
           rw [hb] at h2' ⊢
           rw [show (ob (some k)).toNatClampNeg = k from kI_c (by omega), v.1 103 (by decide) (by decide), BS_row wk (p := 103) (by decide) (by decide) (by decide)]
           exact ck_of (kI_x (by omega) (by omega)) ⟨_, by rw [h2'], rfl, rel⟩)
  all_goals first
    | (have hz : w.toInt = 0 := by omega
       refine atX_ok r hs4 (by omega) (fun J v => ⟨_, _, rfl, rfl, _, f, sw, J, rfl, rfl, hR.rx v.wr.ag rfl, keyM J _ v.wr (fun _ => rfl) (fun _ => by omega) (fun _ => by omega) (fun _ => by omega) (fun _ => by omega)⟩))
    | (have hz : w.toInt = 1 := by omega
       refine atY_ok r hs4 (by omega) (fun J v => ⟨_, _, rfl, rfl, _, f, sw, J, rfl, rfl, hR.rx v.wr.ag rfl, keyM J _ v.wr (fun _ => by omega) (fun _ => rfl) (fun _ => by omega) (fun _ => by omega) (fun _ => by omega)⟩))
    | (have hz : w.toInt = 2 := by omega
       refine atC_ok r hs4 (by omega) (fun J v => ⟨_, _, rfl, rfl, _, f, sw, J, rfl, rfl, hR.rx v.wr.ag rfl, keyM J _ v.wr (fun _ => by omega) (fun _ => by omega) (fun _ => rfl) (fun _ => by omega) (fun _ => by omega)⟩))
    | (have hz : w.toInt = 3 := by omega
       refine atV_ok r hs4 (by omega) (fun J v => ⟨_, _, rfl, rfl, _, f, sw, J, rfl, rfl, hR.rx v.wr.ag rfl, keyM J _ v.wr (fun _ => by omega) (fun _ => by omega) (fun _ => by omega) (fun _ => rfl) (fun _ => by omega)⟩))
    | (have hz : w.toInt = 4 := by omega
       refine near_ok r r4 hs4 (by omega) (fun J v => ⟨_, _, rfl, rfl, _, f, sw, J, rfl, rfl, hR.rx v.ag rfl, keyM J _ v (fun _ => by omega) (fun _ => by omega) (fun _ => by omega) (fun _ => by omega) (fun _ => rfl)⟩))
