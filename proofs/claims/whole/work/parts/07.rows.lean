/-! ROWS: one for each kind of entry that leaves the heap as it is -/
theorem wp.step {G : GX} {d : Nat} {M : MR} {j j' : Nat} {lv lv' : Lc} {st st' : List Value} {h : Hp} {Q : Option Value → Hp → Prop} (row : StepR G d M j lv st j' lv' st') (k : wp G d M j' lv' st' h Q) : wp G d M j lv st h Q := by
  obtain ⟨r, h', g, q⟩ := k
  exact ⟨r, h', g.step row, q⟩
section ROWS
variable {G : GX} {d : Nat} {M : MR} {j : Nat} {lv : Lc} {r0 : List Value}
theorem g_iadd {x y : Int32} (hd : decode M.2.2.1 (pcj M j) = .ok (.iadd, 1)) (hn : pcj M (j + 1) = pcj M j + 1)  : StepR G d M j lv (.int y :: .int x :: r0) (j + 1) lv (.int (x + y) :: r0) := fun p e R s m args below meth c H locs cells slots ls Z cx hl K => lv_iadd cx.1 cx.2.1 hd (by have q := K ls hl; rw [hn] at q; exact q)
theorem g_isub {x y : Int32} (hd : decode M.2.2.1 (pcj M j) = .ok (.isub, 1)) (hn : pcj M (j + 1) = pcj M j + 1)  : StepR G d M j lv (.int y :: .int x :: r0) (j + 1) lv (.int (x - y) :: r0) := fun p e R s m args below meth c H locs cells slots ls Z cx hl K => lv_isub cx.1 cx.2.1 hd (by have q := K ls hl; rw [hn] at q; exact q)
theorem g_imul {x y : Int32} (hd : decode M.2.2.1 (pcj M j) = .ok (.imul, 1)) (hn : pcj M (j + 1) = pcj M j + 1)  : StepR G d M j lv (.int y :: .int x :: r0) (j + 1) lv (.int (x * y) :: r0) := fun p e R s m args below meth c H locs cells slots ls Z cx hl K => lv_imul cx.1 cx.2.1 hd (by have q := K ls hl; rw [hn] at q; exact q)
theorem g_iand {x y : Int32} (hd : decode M.2.2.1 (pcj M j) = .ok (.iand, 1)) (hn : pcj M (j + 1) = pcj M j + 1)  : StepR G d M j lv (.int y :: .int x :: r0) (j + 1) lv (.int (x &&& y) :: r0) := fun p e R s m args below meth c H locs cells slots ls Z cx hl K => lv_iand cx.1 cx.2.1 hd (by have q := K ls hl; rw [hn] at q; exact q)
theorem g_ior {x y : Int32} (hd : decode M.2.2.1 (pcj M j) = .ok (.ior, 1)) (hn : pcj M (j + 1) = pcj M j + 1)  : StepR G d M j lv (.int y :: .int x :: r0) (j + 1) lv (.int (x ||| y) :: r0) := fun p e R s m args below meth c H locs cells slots ls Z cx hl K => lv_ior cx.1 cx.2.1 hd (by have q := K ls hl; rw [hn] at q; exact q)
theorem g_ixor {x y : Int32} (hd : decode M.2.2.1 (pcj M j) = .ok (.ixor, 1)) (hn : pcj M (j + 1) = pcj M j + 1)  : StepR G d M j lv (.int y :: .int x :: r0) (j + 1) lv (.int (x ^^^ y) :: r0) := fun p e R s m args below meth c H locs cells slots ls Z cx hl K => lv_ixor cx.1 cx.2.1 hd (by have q := K ls hl; rw [hn] at q; exact q)
theorem g_ishl {x y : Int32} (hd : decode M.2.2.1 (pcj M j) = .ok (.ishl, 1)) (hn : pcj M (j + 1) = pcj M j + 1)  : StepR G d M j lv (.int y :: .int x :: r0) (j + 1) lv (.int (x <<< (y &&& 31)) :: r0) := fun p e R s m args below meth c H locs cells slots ls Z cx hl K => lv_ishl cx.1 cx.2.1 hd (by have q := K ls hl; rw [hn] at q; exact q)
theorem g_ishr {x y : Int32} (hd : decode M.2.2.1 (pcj M j) = .ok (.ishr, 1)) (hn : pcj M (j + 1) = pcj M j + 1)  : StepR G d M j lv (.int y :: .int x :: r0) (j + 1) lv (.int (x >>> (y &&& 31)) :: r0) := fun p e R s m args below meth c H locs cells slots ls Z cx hl K => lv_ishr cx.1 cx.2.1 hd (by have q := K ls hl; rw [hn] at q; exact q)
theorem g_iushr {x y : Int32} (hd : decode M.2.2.1 (pcj M j) = .ok (.iushr, 1)) (hn : pcj M (j + 1) = pcj M j + 1)  : StepR G d M j lv (.int y :: .int x :: r0) (j + 1) lv (.int ((x.toUInt32 >>> (y.toUInt32 &&& Int32.toUInt32 31)).toInt32) :: r0) := fun p e R s m args below meth c H locs cells slots ls Z cx hl K => lv_iushr cx.1 cx.2.1 hd rfl (by have q := K ls hl; rw [hn] at q; exact q)
theorem g_idiv {x y : Int32} (hd : decode M.2.2.1 (pcj M j) = .ok (.idiv, 1)) (hn : pcj M (j + 1) = pcj M j + 1) (hne : ¬ y = 0) : StepR G d M j lv (.int y :: .int x :: r0) (j + 1) lv (.int (x / y) :: r0) := fun p e R s m args below meth c H locs cells slots ls Z cx hl K => lv_idiv cx.1 cx.2.1 hd hne (by have q := K ls hl; rw [hn] at q; exact q)
theorem g_irem {x y : Int32} (hd : decode M.2.2.1 (pcj M j) = .ok (.irem, 1)) (hn : pcj M (j + 1) = pcj M j + 1) (hne : ¬ y = 0) : StepR G d M j lv (.int y :: .int x :: r0) (j + 1) lv (.int (x - x / y * y) :: r0) := fun p e R s m args below meth c H locs cells slots ls Z cx hl K => lv_irem cx.1 cx.2.1 hd hne (by have q := K ls hl; rw [hn] at q; exact q)
theorem g_ineg {x : Int32} (hd : decode M.2.2.1 (pcj M j) = .ok (.ineg, 1)) (hn : pcj M (j + 1) = pcj M j + 1)  : StepR G d M j lv (.int x :: r0) (j + 1) lv (.int (-x) :: r0) := fun p e R s m args below meth c H locs cells slots ls Z cx hl K => lv_ineg cx.1 cx.2.1 hd (by have q := K ls hl; rw [hn] at q; exact q)
theorem g_i2l {x : Int32} (hd : decode M.2.2.1 (pcj M j) = .ok (.i2l, 1)) (hn : pcj M (j + 1) = pcj M j + 1)  : StepR G d M j lv (.int x :: r0) (j + 1) lv (.long x.toInt64 :: r0) := fun p e R s m args below meth c H locs cells slots ls Z cx hl K => lv_i2l cx.1 cx.2.1 hd rfl (by have q := K ls hl; rw [hn] at q; exact q)
theorem g_l2i {x : Int64} (hd : decode M.2.2.1 (pcj M j) = .ok (.l2i, 1)) (hn : pcj M (j + 1) = pcj M j + 1)  : StepR G d M j lv (.long x :: r0) (j + 1) lv (.int x.toInt32 :: r0) := fun p e R s m args below meth c H locs cells slots ls Z cx hl K => lv_l2i cx.1 cx.2.1 hd rfl (by have q := K ls hl; rw [hn] at q; exact q)
theorem g_i2b {x : Int32} (hd : decode M.2.2.1 (pcj M j) = .ok (.i2b, 1)) (hn : pcj M (j + 1) = pcj M j + 1)  : StepR G d M j lv (.int x :: r0) (j + 1) lv (.int x.toInt8.toInt32 :: r0) := fun p e R s m args below meth c H locs cells slots ls Z cx hl K => lv_i2b cx.1 cx.2.1 hd rfl (by have q := K ls hl; rw [hn] at q; exact q)
theorem g_i2s {x : Int32} (hd : decode M.2.2.1 (pcj M j) = .ok (.i2s, 1)) (hn : pcj M (j + 1) = pcj M j + 1)  : StepR G d M j lv (.int x :: r0) (j + 1) lv (.int x.toInt16.toInt32 :: r0) := fun p e R s m args below meth c H locs cells slots ls Z cx hl K => lv_i2s cx.1 cx.2.1 hd rfl (by have q := K ls hl; rw [hn] at q; exact q)
theorem g_ladd {x y : Int64} (hd : decode M.2.2.1 (pcj M j) = .ok (.ladd, 1)) (hn : pcj M (j + 1) = pcj M j + 1)  : StepR G d M j lv (.long y :: .long x :: r0) (j + 1) lv (.long (x + y) :: r0) := fun p e R s m args below meth c H locs cells slots ls Z cx hl K => lv_ladd cx.1 cx.2.1 hd (by have q := K ls hl; rw [hn] at q; exact q)
theorem g_lmul {x y : Int64} (hd : decode M.2.2.1 (pcj M j) = .ok (.lmul, 1)) (hn : pcj M (j + 1) = pcj M j + 1)  : StepR G d M j lv (.long y :: .long x :: r0) (j + 1) lv (.long (x * y) :: r0) := fun p e R s m args below meth c H locs cells slots ls Z cx hl K => lv_lmul cx.1 cx.2.1 hd (by have q := K ls hl; rw [hn] at q; exact q)
theorem g_land {x y : Int64} (hd : decode M.2.2.1 (pcj M j) = .ok (.land, 1)) (hn : pcj M (j + 1) = pcj M j + 1)  : StepR G d M j lv (.long y :: .long x :: r0) (j + 1) lv (.long (x &&& y) :: r0) := fun p e R s m args below meth c H locs cells slots ls Z cx hl K => lv_land cx.1 cx.2.1 hd (by have q := K ls hl; rw [hn] at q; exact q)
theorem g_lor {x y : Int64} (hd : decode M.2.2.1 (pcj M j) = .ok (.lor, 1)) (hn : pcj M (j + 1) = pcj M j + 1)  : StepR G d M j lv (.long y :: .long x :: r0) (j + 1) lv (.long (x ||| y) :: r0) := fun p e R s m args below meth c H locs cells slots ls Z cx hl K => lv_lor cx.1 cx.2.1 hd (by have q := K ls hl; rw [hn] at q; exact q)
theorem g_lshl {x : Int64} {y : Int32} (hd : decode M.2.2.1 (pcj M j) = .ok (.lshl, 1)) (hn : pcj M (j + 1) = pcj M j + 1)  : StepR G d M j lv (.int y :: .long x :: r0) (j + 1) lv (.long (x <<< (y.toInt64 &&& 63)) :: r0) := fun p e R s m args below meth c H locs cells slots ls Z cx hl K => lv_lshl cx.1 cx.2.1 hd rfl (by have q := K ls hl; rw [hn] at q; exact q)
theorem g_lshr {x : Int64} {y : Int32} (hd : decode M.2.2.1 (pcj M j) = .ok (.lshr, 1)) (hn : pcj M (j + 1) = pcj M j + 1)  : StepR G d M j lv (.int y :: .long x :: r0) (j + 1) lv (.long (x >>> (y.toInt64 &&& 63)) :: r0) := fun p e R s m args below meth c H locs cells slots ls Z cx hl K => lv_lshr cx.1 cx.2.1 hd rfl (by have q := K ls hl; rw [hn] at q; exact q)
theorem g_lcmp {x y : Int64} (hd : decode M.2.2.1 (pcj M j) = .ok (.lcmp, 1)) (hn : pcj M (j + 1) = pcj M j + 1)  : StepR G d M j lv (.long y :: .long x :: r0) (j + 1) lv (.int (lg_cmp x y) :: r0) := fun p e R s m args below meth c H locs cells slots ls Z cx hl K => W.lcmp cx.1 cx.2.1 hd (by have q := K ls hl; rw [hn] at q; exact q)
theorem g_dupi {x : Int32} (hd : decode M.2.2.1 (pcj M j) = .ok (.dup, 1)) (hn : pcj M (j + 1) = pcj M j + 1)  : StepR G d M j lv (.int x :: r0) (j + 1) lv (.int x :: .int x :: r0) := fun p e R s m args below meth c H locs cells slots ls Z cx hl K => lv_dup (va := .int x) cx.1 cx.2.1 hd rfl (by have q := K ls hl; rw [hn] at q; exact q)
theorem g_dupr {x : Nat} (hd : decode M.2.2.1 (pcj M j) = .ok (.dup, 1)) (hn : pcj M (j + 1) = pcj M j + 1)  : StepR G d M j lv (.ref x :: r0) (j + 1) lv (.ref x :: .ref x :: r0) := fun p e R s m args below meth c H locs cells slots ls Z cx hl K => lv_dup (va := .ref (G.2.2.2.1 x)) cx.1 cx.2.1 hd rfl (by have q := K ls hl; rw [hn] at q; exact q)
theorem g_dup2 {y : Int32} {x : Nat} (hd : decode M.2.2.1 (pcj M j) = .ok (.dup2, 1)) (hn : pcj M (j + 1) = pcj M j + 1)  : StepR G d M j lv (.int y :: .ref x :: r0) (j + 1) lv (.int y :: .ref x :: .int y :: .ref x :: r0) := fun p e R s m args below meth c H locs cells slots ls Z cx hl K => lv_dup2_11 (va := .int y) (vb := .ref (G.2.2.2.1 x)) cx.1 cx.2.1 hd rfl rfl (by have q := K ls hl; rw [hn] at q; exact q)
theorem g_iload_n {k : Fin 4} {x : Int32} (hd : decode M.2.2.1 (pcj M j) = .ok (.iload_n k, 1)) (hn : pcj M (j + 1) = pcj M j + 1) (hv : lv[k.val]? = some (some (.int x))) : StepR G d M j lv (r0) (j + 1) lv (.int x :: r0) := fun p e R s m args below meth c H locs cells slots ls Z cx hl K => lv_iload_n cx.1 cx.2.1 hd rfl (hl.2.2 _ _ hv) (by have q := K ls hl; rw [hn] at q; exact q)
theorem g_iload {k : Nat} {x : Int32} (hd : decode M.2.2.1 (pcj M j) = .ok (.iload k, 2)) (hn : pcj M (j + 1) = pcj M j + 2) (hv : lv[k]? = some (some (.int x))) : StepR G d M j lv (r0) (j + 1) lv (.int x :: r0) := fun p e R s m args below meth c H locs cells slots ls Z cx hl K => lv_iload cx.1 cx.2.1 hd (hl.2.2 _ _ hv) (by have q := K ls hl; rw [hn] at q; exact q)
theorem g_istore_n {k : Fin 4} {x : Int32} (hd : decode M.2.2.1 (pcj M j) = .ok (.istore_n k, 1)) (hn : pcj M (j + 1) = pcj M j + 1) (hi : k.val < M.2.2.2.2.1) : StepR G d M j lv (.int x :: r0) (j + 1) (st1 lv k.val (.int x)) r0 := fun p e R s m args below meth c H locs cells slots ls Z cx hl K => lv_istore_n cx.1 cx.2.1 hd rfl hl.has hi rfl (fun ls2 h2 => by have q := K ls2 (lvr.st1 h2); rw [hn] at q; exact q)
theorem g_istore {k : Nat} {x : Int32} (hd : decode M.2.2.1 (pcj M j) = .ok (.istore k, 2)) (hn : pcj M (j + 1) = pcj M j + 2) (hi : k < M.2.2.2.2.1) : StepR G d M j lv (.int x :: r0) (j + 1) (st1 lv k (.int x)) r0 := fun p e R s m args below meth c H locs cells slots ls Z cx hl K => lv_istore cx.1 cx.2.1 hd hl.has hi rfl (fun ls2 h2 => by have q := K ls2 (lvr.st1 h2); rw [hn] at q; exact q)
theorem g_lload_n {k : Fin 4} {x : Int64} (hd : decode M.2.2.1 (pcj M j) = .ok (.lload_n k, 1)) (hn : pcj M (j + 1) = pcj M j + 1) (hv : lv[k.val]? = some (some (.long x))) : StepR G d M j lv (r0) (j + 1) lv (.long x :: r0) := fun p e R s m args below meth c H locs cells slots ls Z cx hl K => lv_lload_n cx.1 cx.2.1 hd rfl (hl.2.2 _ _ hv) (by have q := K ls hl; rw [hn] at q; exact q)
theorem g_lload {k : Nat} {x : Int64} (hd : decode M.2.2.1 (pcj M j) = .ok (.lload k, 2)) (hn : pcj M (j + 1) = pcj M j + 2) (hv : lv[k]? = some (some (.long x))) : StepR G d M j lv (r0) (j + 1) lv (.long x :: r0) := fun p e R s m args below meth c H locs cells slots ls Z cx hl K => lv_lload cx.1 cx.2.1 hd (hl.2.2 _ _ hv) (by have q := K ls hl; rw [hn] at q; exact q)
theorem g_lstore_n {k : Fin 4} {x : Int64} (hd : decode M.2.2.1 (pcj M j) = .ok (.lstore_n k, 1)) (hn : pcj M (j + 1) = pcj M j + 1) (hi : k.val + 1 < M.2.2.2.2.1) : StepR G d M j lv (.long x :: r0) (j + 1) (st2 lv k.val (.long x)) r0 := fun p e R s m args below meth c H locs cells slots ls Z cx hl K => lv_lstore_n cx.1 cx.2.1 hd rfl hl.has hi rfl (fun ls2 h2 => by have q := K ls2 (lvr.st2 h2); rw [hn] at q; exact q)
theorem g_lstore {k : Nat} {x : Int64} (hd : decode M.2.2.1 (pcj M j) = .ok (.lstore k, 2)) (hn : pcj M (j + 1) = pcj M j + 2) (hi : k + 1 < M.2.2.2.2.1) : StepR G d M j lv (.long x :: r0) (j + 1) (st2 lv k (.long x)) r0 := fun p e R s m args below meth c H locs cells slots ls Z cx hl K => lv_lstore cx.1 cx.2.1 hd hl.has hi rfl (fun ls2 h2 => by have q := K ls2 (lvr.st2 h2); rw [hn] at q; exact q)
theorem g_aload_n {k : Fin 4} {x : Nat} (hd : decode M.2.2.1 (pcj M j) = .ok (.aload_n k, 1)) (hn : pcj M (j + 1) = pcj M j + 1) (hv : lv[k.val]? = some (some (.ref x))) : StepR G d M j lv (r0) (j + 1) lv (.ref x :: r0) := fun p e R s m args below meth c H locs cells slots ls Z cx hl K => lv_aload_n cx.1 cx.2.1 hd rfl (hl.2.2 _ _ hv) (by have q := K ls hl; rw [hn] at q; exact q)
theorem g_aload {k : Nat} {x : Nat} (hd : decode M.2.2.1 (pcj M j) = .ok (.aload k, 2)) (hn : pcj M (j + 1) = pcj M j + 2) (hv : lv[k]? = some (some (.ref x))) : StepR G d M j lv (r0) (j + 1) lv (.ref x :: r0) := fun p e R s m args below meth c H locs cells slots ls Z cx hl K => lv_aload cx.1 cx.2.1 hd (hl.2.2 _ _ hv) (by have q := K ls hl; rw [hn] at q; exact q)
theorem g_astore_n {k : Fin 4} {x : Nat} (hd : decode M.2.2.1 (pcj M j) = .ok (.astore_n k, 1)) (hn : pcj M (j + 1) = pcj M j + 1) (hi : k.val < M.2.2.2.2.1) : StepR G d M j lv (.ref x :: r0) (j + 1) (st1 lv k.val (.ref x)) r0 := fun p e R s m args below meth c H locs cells slots ls Z cx hl K => lv_astore_n cx.1 cx.2.1 hd rfl hl.has hi rfl (fun ls2 h2 => by have q := K ls2 (lvr.st1 h2); rw [hn] at q; exact q)
theorem g_astore {k : Nat} {x : Nat} (hd : decode M.2.2.1 (pcj M j) = .ok (.astore k, 2)) (hn : pcj M (j + 1) = pcj M j + 2) (hi : k < M.2.2.2.2.1) : StepR G d M j lv (.ref x :: r0) (j + 1) (st1 lv k (.ref x)) r0 := fun p e R s m args below meth c H locs cells slots ls Z cx hl K => lv_astore cx.1 cx.2.1 hd hl.has hi rfl (fun ls2 h2 => by have q := K ls2 (lvr.st1 h2); rw [hn] at q; exact q)
theorem g_iinc {k : Nat} {n : Int} {x : Int32} (hd : decode M.2.2.1 (pcj M j) = .ok (.iinc k n, 3)) (hn : pcj M (j + 1) = pcj M j + 3) (hv : lv[k]? = some (some (.int x))) (hi : k < M.2.2.2.2.1) : StepR G d M j lv r0 (j + 1) (st1 lv k (.int (x + Int32.ofInt n))) r0 := fun p e R s m args below meth c H locs cells slots ls Z cx hl K => by
  obtain ⟨q, hq⟩ := List.getElem?_of_mem (lst_in (G := G) hv)
  exact lv_iinc cx.1 cx.2.1 hd hl.has (k := q) hq rfl hi rfl (fun ls2 h2 => by have q := K ls2 (lvr.st1 h2); rw [hn] at q; exact q)
theorem g_iconst {n : Int} {x : Int32} (hd : decode M.2.2.1 (pcj M j) = .ok (.iconst n, 1)) (hn : pcj M (j + 1) = pcj M j + 1) (hv : Int32.ofInt n = x) : StepR G d M j lv (r0) (j + 1) lv (.int x :: r0) := fun p e R s m args below meth c H locs cells slots ls Z cx hl K => lv_iconst cx.1 cx.2.1 hd hv (by have q := K ls hl; rw [hn] at q; exact q)
theorem g_bipush {n : Int} {x : Int32} (hd : decode M.2.2.1 (pcj M j) = .ok (.bipush n, 2)) (hn : pcj M (j + 1) = pcj M j + 2) (hv : (Int8.ofInt n).toInt32 = x) : StepR G d M j lv (r0) (j + 1) lv (.int x :: r0) := fun p e R s m args below meth c H locs cells slots ls Z cx hl K => lv_bipush cx.1 cx.2.1 hd hv (by have q := K ls hl; rw [hn] at q; exact q)
theorem g_sipush {n : Int} {x : Int32} (hd : decode M.2.2.1 (pcj M j) = .ok (.sipush n, 3)) (hn : pcj M (j + 1) = pcj M j + 3) (hv : (Int16.ofInt n).toInt32 = x) : StepR G d M j lv (r0) (j + 1) lv (.int x :: r0) := fun p e R s m args below meth c H locs cells slots ls Z cx hl K => lv_sipush cx.1 cx.2.1 hd hv (by have q := K ls hl; rw [hn] at q; exact q)
theorem g_lconst {n : Fin 2} {x : Int64} (hd : decode M.2.2.1 (pcj M j) = .ok (.lconst n, 1)) (hn : pcj M (j + 1) = pcj M j + 1) (hv : Int64.ofNat (n : Nat) = x) : StepR G d M j lv (r0) (j + 1) lv (.long x :: r0) := fun p e R s m args below meth c H locs cells slots ls Z cx hl K => lv_lconst cx.1 cx.2.1 hd hv (by have q := K ls hl; rw [hn] at q; exact q)
theorem g_ldc {n : Nat} {x : Int32} (hd : decode M.2.2.1 (pcj M j) = .ok (.ldc n, 2)) (hn : pcj M (j + 1) = pcj M j + 2) (hw : Cond.constant M.2.2.2.1.cls n x ∈ LG) : StepR G d M j lv (r0) (j + 1) lv (.int x :: r0) := fun p e R s m args below meth c H locs cells slots ls Z cx hl K => lv_ldc cx.1 cx.2.1 cx.2.2.2.1 (cx.2.2.2.2.1 _ hw) hd (by have q := K ls hl; rw [hn] at q; exact q)
theorem g_ldcw {n : Nat} {x : Int32} (hd : decode M.2.2.1 (pcj M j) = .ok (.ldc_w n, 3)) (hn : pcj M (j + 1) = pcj M j + 3) (hw : Cond.constant M.2.2.2.1.cls n x ∈ LG) : StepR G d M j lv (r0) (j + 1) lv (.int x :: r0) := fun p e R s m args below meth c H locs cells slots ls Z cx hl K => lv_ldcw cx.1 cx.2.1 cx.2.2.2.1 (cx.2.2.2.2.1 _ hw) hd (by have q := K ls hl; rw [hn] at q; exact q)
theorem g_ldc2 {n : Nat} {x : Int64} (hd : decode M.2.2.1 (pcj M j) = .ok (.ldc2_w n, 3)) (hn : pcj M (j + 1) = pcj M j + 3) (hw : Cond.constantLong M.2.2.2.1.cls n x ∈ LG) : StepR G d M j lv (r0) (j + 1) lv (.long x :: r0) := fun p e R s m args below meth c H locs cells slots ls Z cx hl K => lv_ldc2 cx.1 cx.2.1 cx.2.2.2.1 (cx.2.2.2.2.1 _ hw) hd (by have q := K ls hl; rw [hn] at q; exact q)
theorem g_goto {t : Nat} {off : Int} (hd : decode M.2.2.1 (pcj M j) = .ok (.goto off, 3)) (ht : (pcj M j : Int) + off = (pcj M t : Int)) : StepR G d M j lv r0 t lv r0 := fun p e R s m args below meth c H locs cells slots ls Z cx hl K => lv_goto cx.1 cx.2.1 hd ht (K ls hl)
theorem g_if_eqT {x : Int32} {t : Nat} {off : Int} (hd : decode M.2.2.1 (pcj M j) = .ok (.ifCond .eq off, 3)) (ht : (pcj M j : Int) + off = (pcj M t : Int)) (hc : x = 0) : StepR G d M j lv (.int x :: r0) t lv r0 := fun p e R s m args below meth c H locs cells slots ls Z cx hl K => lv_if_eq cx.1 cx.2.1 hd ht (fun _ => K ls hl) (fun z => absurd hc z)
theorem g_if_eqF {x : Int32} {t : Nat} {off : Int} (hd : decode M.2.2.1 (pcj M j) = .ok (.ifCond .eq off, 3)) (ht : (pcj M j : Int) + off = (pcj M t : Int)) (hn : pcj M (j + 1) = pcj M j + 3) (hc : ¬ x = 0) : StepR G d M j lv (.int x :: r0) (j + 1) lv r0 := fun p e R s m args below meth c H locs cells slots ls Z cx hl K => lv_if_eq cx.1 cx.2.1 hd ht (fun z => absurd z hc) (fun _ => by have q := K ls hl; rw [hn] at q; exact q)
theorem g_icmp_eqT {x y : Int32} {t : Nat} {off : Int} (hd : decode M.2.2.1 (pcj M j) = .ok (.if_icmp .eq off, 3)) (ht : (pcj M j : Int) + off = (pcj M t : Int)) (hc : x = y) : StepR G d M j lv (.int y :: .int x :: r0) t lv r0 := fun p e R s m args below meth c H locs cells slots ls Z cx hl K => lv_icmp_eq cx.1 cx.2.1 hd ht (fun _ => K ls hl) (fun z => absurd hc z)
theorem g_icmp_eqF {x y : Int32} {t : Nat} {off : Int} (hd : decode M.2.2.1 (pcj M j) = .ok (.if_icmp .eq off, 3)) (ht : (pcj M j : Int) + off = (pcj M t : Int)) (hn : pcj M (j + 1) = pcj M j + 3) (hc : ¬ x = y) : StepR G d M j lv (.int y :: .int x :: r0) (j + 1) lv r0 := fun p e R s m args below meth c H locs cells slots ls Z cx hl K => lv_icmp_eq cx.1 cx.2.1 hd ht (fun z => absurd z hc) (fun _ => by have q := K ls hl; rw [hn] at q; exact q)
theorem g_if_neT {x : Int32} {t : Nat} {off : Int} (hd : decode M.2.2.1 (pcj M j) = .ok (.ifCond .ne off, 3)) (ht : (pcj M j : Int) + off = (pcj M t : Int)) (hc : ¬ x = 0) : StepR G d M j lv (.int x :: r0) t lv r0 := fun p e R s m args below meth c H locs cells slots ls Z cx hl K => lv_if_ne cx.1 cx.2.1 hd ht (fun _ => K ls hl) (fun z => absurd z hc)
theorem g_if_neF {x : Int32} {t : Nat} {off : Int} (hd : decode M.2.2.1 (pcj M j) = .ok (.ifCond .ne off, 3)) (ht : (pcj M j : Int) + off = (pcj M t : Int)) (hn : pcj M (j + 1) = pcj M j + 3) (hc : x = 0) : StepR G d M j lv (.int x :: r0) (j + 1) lv r0 := fun p e R s m args below meth c H locs cells slots ls Z cx hl K => lv_if_ne cx.1 cx.2.1 hd ht (fun z => absurd hc z) (fun _ => by have q := K ls hl; rw [hn] at q; exact q)
theorem g_icmp_neT {x y : Int32} {t : Nat} {off : Int} (hd : decode M.2.2.1 (pcj M j) = .ok (.if_icmp .ne off, 3)) (ht : (pcj M j : Int) + off = (pcj M t : Int)) (hc : ¬ x = y) : StepR G d M j lv (.int y :: .int x :: r0) t lv r0 := fun p e R s m args below meth c H locs cells slots ls Z cx hl K => lv_icmp_ne cx.1 cx.2.1 hd ht (fun _ => K ls hl) (fun z => absurd z hc)
theorem g_icmp_neF {x y : Int32} {t : Nat} {off : Int} (hd : decode M.2.2.1 (pcj M j) = .ok (.if_icmp .ne off, 3)) (ht : (pcj M j : Int) + off = (pcj M t : Int)) (hn : pcj M (j + 1) = pcj M j + 3) (hc : x = y) : StepR G d M j lv (.int y :: .int x :: r0) (j + 1) lv r0 := fun p e R s m args below meth c H locs cells slots ls Z cx hl K => lv_icmp_ne cx.1 cx.2.1 hd ht (fun z => absurd hc z) (fun _ => by have q := K ls hl; rw [hn] at q; exact q)
theorem g_if_ltT {x : Int32} {t : Nat} {off : Int} (hd : decode M.2.2.1 (pcj M j) = .ok (.ifCond .lt off, 3)) (ht : (pcj M j : Int) + off = (pcj M t : Int)) (hc : x < 0) : StepR G d M j lv (.int x :: r0) t lv r0 := fun p e R s m args below meth c H locs cells slots ls Z cx hl K => lv_if_lt cx.1 cx.2.1 hd ht (fun _ => K ls hl) (fun z => absurd hc z)
theorem g_if_ltF {x : Int32} {t : Nat} {off : Int} (hd : decode M.2.2.1 (pcj M j) = .ok (.ifCond .lt off, 3)) (ht : (pcj M j : Int) + off = (pcj M t : Int)) (hn : pcj M (j + 1) = pcj M j + 3) (hc : ¬ x < 0) : StepR G d M j lv (.int x :: r0) (j + 1) lv r0 := fun p e R s m args below meth c H locs cells slots ls Z cx hl K => lv_if_lt cx.1 cx.2.1 hd ht (fun z => absurd z hc) (fun _ => by have q := K ls hl; rw [hn] at q; exact q)
theorem g_icmp_ltT {x y : Int32} {t : Nat} {off : Int} (hd : decode M.2.2.1 (pcj M j) = .ok (.if_icmp .lt off, 3)) (ht : (pcj M j : Int) + off = (pcj M t : Int)) (hc : x < y) : StepR G d M j lv (.int y :: .int x :: r0) t lv r0 := fun p e R s m args below meth c H locs cells slots ls Z cx hl K => lv_icmp_lt cx.1 cx.2.1 hd ht (fun _ => K ls hl) (fun z => absurd hc z)
theorem g_icmp_ltF {x y : Int32} {t : Nat} {off : Int} (hd : decode M.2.2.1 (pcj M j) = .ok (.if_icmp .lt off, 3)) (ht : (pcj M j : Int) + off = (pcj M t : Int)) (hn : pcj M (j + 1) = pcj M j + 3) (hc : ¬ x < y) : StepR G d M j lv (.int y :: .int x :: r0) (j + 1) lv r0 := fun p e R s m args below meth c H locs cells slots ls Z cx hl K => lv_icmp_lt cx.1 cx.2.1 hd ht (fun z => absurd z hc) (fun _ => by have q := K ls hl; rw [hn] at q; exact q)
theorem g_if_geT {x : Int32} {t : Nat} {off : Int} (hd : decode M.2.2.1 (pcj M j) = .ok (.ifCond .ge off, 3)) (ht : (pcj M j : Int) + off = (pcj M t : Int)) (hc : 0 ≤ x) : StepR G d M j lv (.int x :: r0) t lv r0 := fun p e R s m args below meth c H locs cells slots ls Z cx hl K => lv_if_ge cx.1 cx.2.1 hd ht (fun _ => K ls hl) (fun z => absurd hc z)
theorem g_if_geF {x : Int32} {t : Nat} {off : Int} (hd : decode M.2.2.1 (pcj M j) = .ok (.ifCond .ge off, 3)) (ht : (pcj M j : Int) + off = (pcj M t : Int)) (hn : pcj M (j + 1) = pcj M j + 3) (hc : ¬ 0 ≤ x) : StepR G d M j lv (.int x :: r0) (j + 1) lv r0 := fun p e R s m args below meth c H locs cells slots ls Z cx hl K => lv_if_ge cx.1 cx.2.1 hd ht (fun z => absurd z hc) (fun _ => by have q := K ls hl; rw [hn] at q; exact q)
theorem g_icmp_geT {x y : Int32} {t : Nat} {off : Int} (hd : decode M.2.2.1 (pcj M j) = .ok (.if_icmp .ge off, 3)) (ht : (pcj M j : Int) + off = (pcj M t : Int)) (hc : y ≤ x) : StepR G d M j lv (.int y :: .int x :: r0) t lv r0 := fun p e R s m args below meth c H locs cells slots ls Z cx hl K => lv_icmp_ge cx.1 cx.2.1 hd ht (fun _ => K ls hl) (fun z => absurd hc z)
theorem g_icmp_geF {x y : Int32} {t : Nat} {off : Int} (hd : decode M.2.2.1 (pcj M j) = .ok (.if_icmp .ge off, 3)) (ht : (pcj M j : Int) + off = (pcj M t : Int)) (hn : pcj M (j + 1) = pcj M j + 3) (hc : ¬ y ≤ x) : StepR G d M j lv (.int y :: .int x :: r0) (j + 1) lv r0 := fun p e R s m args below meth c H locs cells slots ls Z cx hl K => lv_icmp_ge cx.1 cx.2.1 hd ht (fun z => absurd z hc) (fun _ => by have q := K ls hl; rw [hn] at q; exact q)
theorem g_if_gtT {x : Int32} {t : Nat} {off : Int} (hd : decode M.2.2.1 (pcj M j) = .ok (.ifCond .gt off, 3)) (ht : (pcj M j : Int) + off = (pcj M t : Int)) (hc : 0 < x) : StepR G d M j lv (.int x :: r0) t lv r0 := fun p e R s m args below meth c H locs cells slots ls Z cx hl K => lv_if_gt cx.1 cx.2.1 hd ht (fun _ => K ls hl) (fun z => absurd hc z)
theorem g_if_gtF {x : Int32} {t : Nat} {off : Int} (hd : decode M.2.2.1 (pcj M j) = .ok (.ifCond .gt off, 3)) (ht : (pcj M j : Int) + off = (pcj M t : Int)) (hn : pcj M (j + 1) = pcj M j + 3) (hc : ¬ 0 < x) : StepR G d M j lv (.int x :: r0) (j + 1) lv r0 := fun p e R s m args below meth c H locs cells slots ls Z cx hl K => lv_if_gt cx.1 cx.2.1 hd ht (fun z => absurd z hc) (fun _ => by have q := K ls hl; rw [hn] at q; exact q)
theorem g_icmp_gtT {x y : Int32} {t : Nat} {off : Int} (hd : decode M.2.2.1 (pcj M j) = .ok (.if_icmp .gt off, 3)) (ht : (pcj M j : Int) + off = (pcj M t : Int)) (hc : y < x) : StepR G d M j lv (.int y :: .int x :: r0) t lv r0 := fun p e R s m args below meth c H locs cells slots ls Z cx hl K => lv_icmp_gt cx.1 cx.2.1 hd ht (fun _ => K ls hl) (fun z => absurd hc z)
theorem g_icmp_gtF {x y : Int32} {t : Nat} {off : Int} (hd : decode M.2.2.1 (pcj M j) = .ok (.if_icmp .gt off, 3)) (ht : (pcj M j : Int) + off = (pcj M t : Int)) (hn : pcj M (j + 1) = pcj M j + 3) (hc : ¬ y < x) : StepR G d M j lv (.int y :: .int x :: r0) (j + 1) lv r0 := fun p e R s m args below meth c H locs cells slots ls Z cx hl K => lv_icmp_gt cx.1 cx.2.1 hd ht (fun z => absurd z hc) (fun _ => by have q := K ls hl; rw [hn] at q; exact q)
theorem g_if_leT {x : Int32} {t : Nat} {off : Int} (hd : decode M.2.2.1 (pcj M j) = .ok (.ifCond .le off, 3)) (ht : (pcj M j : Int) + off = (pcj M t : Int)) (hc : x ≤ 0) : StepR G d M j lv (.int x :: r0) t lv r0 := fun p e R s m args below meth c H locs cells slots ls Z cx hl K => lv_if_le cx.1 cx.2.1 hd ht (fun _ => K ls hl) (fun z => absurd hc z)
theorem g_if_leF {x : Int32} {t : Nat} {off : Int} (hd : decode M.2.2.1 (pcj M j) = .ok (.ifCond .le off, 3)) (ht : (pcj M j : Int) + off = (pcj M t : Int)) (hn : pcj M (j + 1) = pcj M j + 3) (hc : ¬ x ≤ 0) : StepR G d M j lv (.int x :: r0) (j + 1) lv r0 := fun p e R s m args below meth c H locs cells slots ls Z cx hl K => lv_if_le cx.1 cx.2.1 hd ht (fun z => absurd z hc) (fun _ => by have q := K ls hl; rw [hn] at q; exact q)
theorem g_icmp_leT {x y : Int32} {t : Nat} {off : Int} (hd : decode M.2.2.1 (pcj M j) = .ok (.if_icmp .le off, 3)) (ht : (pcj M j : Int) + off = (pcj M t : Int)) (hc : x ≤ y) : StepR G d M j lv (.int y :: .int x :: r0) t lv r0 := fun p e R s m args below meth c H locs cells slots ls Z cx hl K => lv_icmp_le cx.1 cx.2.1 hd ht (fun _ => K ls hl) (fun z => absurd hc z)
theorem g_icmp_leF {x y : Int32} {t : Nat} {off : Int} (hd : decode M.2.2.1 (pcj M j) = .ok (.if_icmp .le off, 3)) (ht : (pcj M j : Int) + off = (pcj M t : Int)) (hn : pcj M (j + 1) = pcj M j + 3) (hc : ¬ x ≤ y) : StepR G d M j lv (.int y :: .int x :: r0) (j + 1) lv r0 := fun p e R s m args below meth c H locs cells slots ls Z cx hl K => lv_icmp_le cx.1 cx.2.1 hd ht (fun z => absurd z hc) (fun _ => by have q := K ls hl; rw [hn] at q; exact q)
theorem wp_if {c : ClassFile.Cond} {x : Int32} {t : Nat} {off : Int} {h : Hp} {Q : Option Value → Hp → Prop} {A B : Prop} (hd : decode M.2.2.1 (pcj M j) = .ok (.ifCond c off, 3)) (ht : (pcj M j : Int) + off = (pcj M t : Int)) (hn : pcj M (j + 1) = pcj M j + 3) (hA : A → wp G d M t lv r0 h Q) (hB : B → wp G d M (j + 1) lv r0 h Q) (hc : cnd c x 0 A B) : wp G d M j lv (.int x :: r0) h Q := by
  cases c with
  | eq =>
    unfold cnd at hc
    simp only at hc
    split at hc
    · rename_i z
      exact (hA hc).step (g_if_eqT hd ht z)
    · rename_i z
      exact (hB hc).step (g_if_eqF hd ht hn z)
  | ne =>
    unfold cnd at hc
    simp only at hc
    split at hc
    · rename_i z
      exact (hB hc).step (g_if_neF hd ht hn z)
    · rename_i z
      exact (hA hc).step (g_if_neT hd ht z)
  | lt =>
    unfold cnd at hc
    simp only at hc
    split at hc
    · rename_i z
      exact (hA hc).step (g_if_ltT hd ht z)
    · rename_i z
      exact (hB hc).step (g_if_ltF hd ht hn z)
  | ge =>
    unfold cnd at hc
    simp only at hc
    split at hc
    · rename_i z
      exact (hA hc).step (g_if_geT hd ht z)
    · rename_i z
      exact (hB hc).step (g_if_geF hd ht hn z)
  | gt =>
    unfold cnd at hc
    simp only at hc
    split at hc
    · rename_i z
      exact (hA hc).step (g_if_gtT hd ht z)
    · rename_i z
      exact (hB hc).step (g_if_gtF hd ht hn z)
  | le =>
    unfold cnd at hc
    simp only at hc
    split at hc
    · rename_i z
      exact (hA hc).step (g_if_leT hd ht z)
    · rename_i z
      exact (hB hc).step (g_if_leF hd ht hn z)
theorem wp_icmp {c : ClassFile.Cond} {x y : Int32} {t : Nat} {off : Int} {h : Hp} {Q : Option Value → Hp → Prop} {A B : Prop} (hd : decode M.2.2.1 (pcj M j) = .ok (.if_icmp c off, 3)) (ht : (pcj M j : Int) + off = (pcj M t : Int)) (hn : pcj M (j + 1) = pcj M j + 3) (hA : A → wp G d M t lv r0 h Q) (hB : B → wp G d M (j + 1) lv r0 h Q) (hc : cnd c x y A B) : wp G d M j lv (.int y :: .int x :: r0) h Q := by
  cases c with
  | eq =>
    unfold cnd at hc
    simp only at hc
    split at hc
    · rename_i z
      exact (hA hc).step (g_icmp_eqT hd ht z)
    · rename_i z
      exact (hB hc).step (g_icmp_eqF hd ht hn z)
  | ne =>
    unfold cnd at hc
    simp only at hc
    split at hc
    · rename_i z
      exact (hB hc).step (g_icmp_neF hd ht hn z)
    · rename_i z
      exact (hA hc).step (g_icmp_neT hd ht z)
  | lt =>
    unfold cnd at hc
    simp only at hc
    split at hc
    · rename_i z
      exact (hA hc).step (g_icmp_ltT hd ht z)
    · rename_i z
      exact (hB hc).step (g_icmp_ltF hd ht hn z)
  | ge =>
    unfold cnd at hc
    simp only at hc
    split at hc
    · rename_i z
      exact (hA hc).step (g_icmp_geT hd ht z)
    · rename_i z
      exact (hB hc).step (g_icmp_geF hd ht hn z)
  | gt =>
    unfold cnd at hc
    simp only at hc
    split at hc
    · rename_i z
      exact (hA hc).step (g_icmp_gtT hd ht z)
    · rename_i z
      exact (hB hc).step (g_icmp_gtF hd ht hn z)
  | le =>
    unfold cnd at hc
    simp only at hc
    split at hc
    · rename_i z
      exact (hA hc).step (g_icmp_leT hd ht z)
    · rename_i z
      exact (hB hc).step (g_icmp_leF hd ht hn z)
end ROWS
