/-! THE ABSTRACT MACHINE: a state is places (numbers), what each holds; a step gives a proposition (what must hold for the rest) -/
/-- how many base places are made, how many of the later kind, the ints by place and slot, the references by place and slot -/
abbrev Hp : Type := Nat × Nat × (Nat → Nat → Int32) × (Nat → Nat → Option Nat)
abbrev Lc : Type := List (Option Value)
/-- the launch; classes' numbers and slots; the array kinds' class numbers; a place's address; the script's length, the script -/
abbrev GX : Type := Launch × va_G × (Nat → ClassId) × (Nat → Nat) × Nat × (Nat → Int32)
def SH (p : Nat) : Nat × Nat := SHL.getD p (3, 9)
def kr (ci k : Nat) : Bool := (KRL.getD ci []).getD k false
/-- a truth value is 0 or 1 -/
def kz (ci k : Nat) (x : Int32) : Bool := match (KZL.getD ci []).getD k false with
  | true => decide (x = 0) || decide (x = 1)
  | false => true
def oV (o : Option Nat) (f : Nat → Prop) : Prop := match o with
  | none => False
  | some q => f q
def okB (h : Hp) (p ci : Nat) : Bool := if p < 1000 then (decide (p < h.1) && (SH p).1 == ci) else (ci == 3 && decide (p < 1000 + h.2.1))
def ixB (i : Int32) (n : Nat) : Bool := decide (0 ≤ i) && decide (i.toNatClampNeg < n)
def ck (b : Bool) (A : Prop) : Prop := match b with
  | true => A
  | false => False
def upI (f : Nat → Nat → Int32) (p k : Nat) (x : Int32) : Nat → Nat → Int32 := fun q i => if q = p then (if i = k then x else f q i) else f q i
def upR (f : Nat → Nat → Option Nat) (p k : Nat) (x : Option Nat) : Nat → Nat → Option Nat := fun q i => if q = p then (if i = k then x else f q i) else f q i
def hI (h : Hp) (p k : Nat) (x : Int32) : Hp := (h.1, h.2.1, upI h.2.2.1 p k x, h.2.2.2)
def hR (h : Hp) (p k : Nat) (x : Option Nat) : Hp := (h.1, h.2.1, h.2.2.1, upR h.2.2.2 p k x)
/-- constants: two arrays of 16 -/
def cxL : List Int32 := [0, 38, 71, 92, 100, 92, 71, 38, 0, -38, -71, -92, -100, -92, -71, -38]
def cyL : List Int32 := [-100, -92, -71, -38, 0, 38, 71, 92, 100, 92, 71, 38, 0, -38, -71, -92]
def stL : List (List Int32) := [[105, 102], [115, 112, 101, 101, 100], [110, 101, 97, 114], [102, 111, 103], [110, 105, 103, 104, 116], [119, 97, 116, 101, 114], [60], [62], [61], [97, 110, 100], [109, 117, 115, 116], [115, 108, 111, 119], [115, 111, 117, 110, 100], [108, 105, 103, 104, 116], [116, 117, 114, 110], [59]]
def kA (p : Nat) (i : Nat) : Int32 := if p = 100100 then cxL.getD i 0 else cyL.getD i 0
def clr (lv : Lc) (i : Nat) : Lc := match i with
  | 0 => lv
  | i + 1 => match lv[i]? with
    | some (some v) => if v.category = 2 then lv.set i none else lv
    | _ => lv
def st1 (lv : Lc) (i : Nat) (v : Value) : Lc := (clr lv i).set i (some v)
def st2 (lv : Lc) (i : Nat) (v : Value) : Lc := ((clr lv i).set i (some v)).set (i + 1) none
def msk (live : List Nat) : Nat → Lc → Lc
  | _, [] => []
  | i, o :: lv => (if live.contains i then o else none) :: msk live (i + 1) lv
/-- the start of a method: the arguments in their places -/
def la : List Value → Lc
  | [] => []
  | .long x :: vs => some (.long x) :: none :: la vs
  | .double x :: vs => some (.double x) :: none :: la vs
  | v :: vs => some v :: la vs
def en (M : MR) (vs : List Value) : Lc := la vs ++ List.replicate (M.2.2.2.2.1 - (la vs).length) none
def o1 (st : List Value) (f : Int32 → List Value → Prop) : Prop := match st with
  | .int x :: r => f x r
  | _ => False
def o2 (st : List Value) (f : Int32 → Int32 → List Value → Prop) : Prop := match st with
  | .int y :: .int x :: r => f x y r
  | _ => False
def o3 (st : List Value) (f : Int64 → List Value → Prop) : Prop := match st with
  | .long x :: r => f x r
  | _ => False
def o4 (st : List Value) (f : Int64 → Int64 → List Value → Prop) : Prop := match st with
  | .long y :: .long x :: r => f x y r
  | _ => False
def o5 (st : List Value) (f : Int64 → Int32 → List Value → Prop) : Prop := match st with
  | .int y :: .long x :: r => f x y r
  | _ => False
def oI (lv : Lc) (i : Nat) (f : Int32 → Prop) : Prop := match lv[i]? with
  | some (some (.int x)) => f x
  | _ => False
def oL (lv : Lc) (i : Nat) (f : Int64 → Prop) : Prop := match lv[i]? with
  | some (some (.long x)) => f x
  | _ => False
def oA (lv : Lc) (i : Nat) (f : Nat → Prop) : Prop := match lv[i]? with
  | some (some (.ref x)) => f x
  | _ => False
def oR (st : List Value) (f : Nat → List Value → Prop) : Prop := match st with
  | .ref p :: r => f p r
  | _ => False
def oX (st : List Value) (f : Int32 → Nat → List Value → Prop) : Prop := match st with
  | .int i :: .ref p :: r => f i p r
  | _ => False
def oS (st : List Value) (f : Int32 → Int32 → Nat → List Value → Prop) : Prop := match st with
  | .int x :: .int i :: .ref p :: r => f x i p r
  | _ => False
def oT (st : List Value) (f : Nat → Int32 → Nat → List Value → Prop) : Prop := match st with
  | .ref x :: .int i :: .ref p :: r => f x i p r
  | _ => False
def tk (n : Nat) (st : List Value) (f : List Value → List Value → Prop) : Prop := ck (decide (n ≤ st.length) && decide (((st.drop n).map Value.category).sum ≤ 8)) (f (st.take n).reverse (st.drop n))
def rcv (h : Hp) (vs : List Value) (ci : Nat) : Bool := match vs with
  | .ref p :: _ => okB h p ci
  | _ => false
def rcI (vs : List Value) : Bool := match vs with
  | .ref _ :: _ => true
  | _ => false
def cnd (c : ClassFile.Cond) (x y : Int32) (A B : Prop) : Prop := match c with
  | .eq => if x = y then A else B
  | .ne => if x = y then B else A
  | .lt => if x < y then A else B
  | .ge => if y ≤ x then A else B
  | .gt => if y < x then A else B
  | .le => if x ≤ y then A else B
def swt (x : Int32) (f : Nat → Prop) (df : Nat) : Int32 → List Nat → Prop
  | _, [] => f df
  | lo, t :: ts => if x = lo then f t else swt x f df (lo + 1) ts
def swl (x : Int32) (f : Nat → Prop) (df : Nat) : List (Int × Int) → List Nat → Prop
  | q :: qs, t :: ts => if x = Int32.ofInt q.1 then f t else swl x f df qs ts
  | _, _ => f df
/-- what one entry asks for: nx the next entry, rt a return, cl a call (of a method, its arguments, what comes behind) -/
def sp (dn : Nat) (e : Ent) (j : Nat) (lv : Lc) (st : List Value) (h : Hp) (nx : Nat → Lc → List Value → Hp → Prop) (rt : Option Value → Prop) (cl : Nat → List Value → (Option Value → Hp → Prop) → Prop) : Prop :=
  match e.1 with
  | .iload_n i => oI lv i.val fun x => nx (j + 1) lv (.int x :: st) h
  | .iload i => oI lv i fun x => nx (j + 1) lv (.int x :: st) h
  | .aload_n i => oA lv i.val fun x => nx (j + 1) lv (.ref x :: st) h
  | .aload i => oA lv i fun x => nx (j + 1) lv (.ref x :: st) h
  | .lload_n i => oL lv i.val fun x => nx (j + 1) lv (.long x :: st) h
  | .lload i => oL lv i fun x => nx (j + 1) lv (.long x :: st) h
  | .istore_n i => o1 st fun x r => nx (j + 1) (st1 lv i.val (.int x)) r h
  | .istore i => o1 st fun x r => nx (j + 1) (st1 lv i (.int x)) r h
  | .astore_n i => oR st fun x r => nx (j + 1) (st1 lv i.val (.ref x)) r h
  | .astore i => oR st fun x r => nx (j + 1) (st1 lv i (.ref x)) r h
  | .lstore_n i => o3 st fun x r => nx (j + 1) (st2 lv i.val (.long x)) r h
  | .lstore i => o3 st fun x r => nx (j + 1) (st2 lv i (.long x)) r h
  | .iconst _ => nx (j + 1) lv (e.2.2.2 :: st) h
  | .bipush _ => nx (j + 1) lv (e.2.2.2 :: st) h
  | .sipush _ => nx (j + 1) lv (e.2.2.2 :: st) h
  | .ldc _ => nx (j + 1) lv (e.2.2.2 :: st) h
  | .ldc_w _ => nx (j + 1) lv (e.2.2.2 :: st) h
  | .lconst _ => nx (j + 1) lv (e.2.2.2 :: st) h
  | .ldc2_w _ => nx (j + 1) lv (e.2.2.2 :: st) h
  | .iinc i n => oI lv i fun x => nx (j + 1) (st1 lv i (.int (x + Int32.ofInt n))) st h
  | .iadd => o2 st fun x y r => nx (j + 1) lv (.int (x + y) :: r) h
  | .isub => o2 st fun x y r => nx (j + 1) lv (.int (x - y) :: r) h
  | .imul => o2 st fun x y r => nx (j + 1) lv (.int (x * y) :: r) h
  | .iand => o2 st fun x y r => nx (j + 1) lv (.int (x &&& y) :: r) h
  | .ior => o2 st fun x y r => nx (j + 1) lv (.int (x ||| y) :: r) h
  | .ixor => o2 st fun x y r => nx (j + 1) lv (.int (x ^^^ y) :: r) h
  | .ishl => o2 st fun x y r => nx (j + 1) lv (.int (x <<< (y &&& 31)) :: r) h
  | .ishr => o2 st fun x y r => nx (j + 1) lv (.int (x >>> (y &&& 31)) :: r) h
  | .iushr => o2 st fun x y r => nx (j + 1) lv (.int ((x.toUInt32 >>> (y.toUInt32 &&& Int32.toUInt32 31)).toInt32) :: r) h
  | .idiv => o2 st fun x y r => ck (decide (y ≠ 0)) (nx (j + 1) lv (.int (x / y) :: r) h)
  | .irem => o2 st fun x y r => ck (decide (y ≠ 0)) (nx (j + 1) lv (.int (x - x / y * y) :: r) h)
  | .ineg => o1 st fun x r => nx (j + 1) lv (.int (-x) :: r) h
  | .i2l => o1 st fun x r => nx (j + 1) lv (.long x.toInt64 :: r) h
  | .l2i => o3 st fun x r => nx (j + 1) lv (.int x.toInt32 :: r) h
  | .i2b => o1 st fun x r => nx (j + 1) lv (.int x.toInt8.toInt32 :: r) h
  | .i2s => o1 st fun x r => nx (j + 1) lv (.int x.toInt16.toInt32 :: r) h
  | .ladd => o4 st fun x y r => nx (j + 1) lv (.long (x + y) :: r) h
  | .lmul => o4 st fun x y r => nx (j + 1) lv (.long (x * y) :: r) h
  | .land => o4 st fun x y r => nx (j + 1) lv (.long (x &&& y) :: r) h
  | .lor => o4 st fun x y r => nx (j + 1) lv (.long (x ||| y) :: r) h
  | .lshl => o5 st fun x y r => nx (j + 1) lv (.long (x <<< (y.toInt64 &&& 63)) :: r) h
  | .lshr => o5 st fun x y r => nx (j + 1) lv (.long (x >>> (y.toInt64 &&& 63)) :: r) h
  | .lcmp => o4 st fun x y r => nx (j + 1) lv (.int (lg_cmp x y) :: r) h
  | .dup => match st with
    | .int x :: r => nx (j + 1) lv (.int x :: .int x :: r) h
    | .ref x :: r => nx (j + 1) lv (.ref x :: .ref x :: r) h
    | _ => False
  | .dup2 => match st with
    | .int y :: .ref x :: r => nx (j + 1) lv (.int y :: .ref x :: .int y :: .ref x :: r) h
    | _ => False
  | .goto _ => nx (e.2.2.1.getD 0 0) lv st h
  | .ifCond c _ => o1 st fun x r => cnd c x 0 (nx (e.2.2.1.getD 0 0) lv r h) (nx (j + 1) lv r h)
  | .if_icmp c _ => o2 st fun x y r => cnd c x y (nx (e.2.2.1.getD 0 0) lv r h) (nx (j + 1) lv r h)
  | .tableswitch _ lo _ _ => o1 st fun x r => swt x (fun t => nx t lv r h) (e.2.2.1.getD 0 0) (Int32.ofInt lo) (e.2.2.1.drop 1)
  | .lookupswitch _ ps => o1 st fun x r => swl x (fun t => nx t lv r h) (e.2.2.1.getD 0 0) ps.toList (e.2.2.1.drop 1)
  | .getfield _ => oR st fun p r => ck (okB h p (e.2.2.1.getD 0 0)) (match kr (e.2.2.1.getD 0 0) (e.2.2.1.getD 1 0) with
    | true => oV (h.2.2.2 p (e.2.2.1.getD 1 0)) fun q => nx (j + 1) lv (.ref q :: r) h
    | false => nx (j + 1) lv (.int (h.2.2.1 p (e.2.2.1.getD 1 0)) :: r) h)
  | .putfield _ => match kr (e.2.2.1.getD 0 0) (e.2.2.1.getD 1 0), st with
    | true, .ref x :: .ref p :: r => ck (okB h p (e.2.2.1.getD 0 0)) (nx (j + 1) lv r (hR h p (e.2.2.1.getD 1 0) (some x)))
    | false, .int x :: .ref p :: r => ck (okB h p (e.2.2.1.getD 0 0) && kz (e.2.2.1.getD 0 0) (e.2.2.1.getD 1 0) x) (nx (j + 1) lv r (hI h p (e.2.2.1.getD 1 0) x))
    | _, _ => False
  | .getstatic _ => nx (j + 1) lv (e.2.2.2 :: st) h
  | .iaload => oX st fun i p r => if p < 100000 then ck (okB h p 20) (ck (ixB i (SH p).2) (nx (j + 1) lv (.int (h.2.2.1 p i.toNatClampNeg) :: r) h)) else if p = 100300 then ck (ixB i (h.2.2.1 100301 0).toNatClampNeg) (nx (j + 1) lv (.int (h.2.2.1 100300 i.toNatClampNeg) :: r) h) else ck (decide (p = 100100 ∨ p = 100101)) (ck (ixB i 16) (nx (j + 1) lv (.int (kA p i.toNatClampNeg) :: r) h))
  | .baload => oX st fun i p r => ck (okB h p 21 || okB h p 22) (ck (ixB i (SH p).2) (nx (j + 1) lv (.int (h.2.2.1 p i.toNatClampNeg) :: r) h))
  | .aaload => oX st fun i p r => ck (okB h p 23 || (okB h p 24 || okB h p 25)) (ck (ixB i (SH p).2) (oV (h.2.2.2 p i.toNatClampNeg) fun q => nx (j + 1) lv (.ref q :: r) h))
  | .iastore => oS st fun x i p r => ck (okB h p 20) (ck (ixB i (SH p).2) (nx (j + 1) lv r (hI h p i.toNatClampNeg x)))
  | .bastore => oS st fun x i p r => ck (ixB i (SH p).2) (match okB h p 21, okB h p 22 with
    | true, _ => nx (j + 1) lv r (hI h p i.toNatClampNeg x.toInt8.toInt32)
    | false, true => nx (j + 1) lv r (hI h p i.toNatClampNeg (x &&& 1))
    | false, false => False)
  | .aastore => oT st fun x i p r => ck (okB h p 23 && okB h x 6 || okB h p 24 && okB h x 3) (ck (ixB i (SH p).2) (nx (j + 1) lv r (hR h p i.toNatClampNeg (some x))))
  | .arraylength => oR st fun p r => if p = 100300 then nx (j + 1) lv (.int (h.2.2.1 100301 0) :: r) h else ck (okB h p 20) (nx (j + 1) lv (.int (Int32.ofNat (SH p).2) :: r) h)
  | .new _ => match decide (e.2.2.1.getD 0 0 = 3) with
    | true => ck (decide (h.1 = 147) && decide (h.2.1 < 2000)) (nx (j + 1) lv (.ref (1000 + h.2.1) :: st) (h.1, h.2.1 + 1, h.2.2.1, h.2.2.2))
    | false => ck (decide (h.2.1 = 0) && (decide (h.1 < 147) && decide (SH h.1 = (e.2.2.1.getD 0 0, (vwCl.getD (e.2.2.1.getD 0 0) ("", fun _ => ("", "", "", false), 0)).2.2)))) (nx (j + 1) lv (.ref h.1 :: st) (h.1 + 1, h.2.1, h.2.2.1, h.2.2.2))
  | .newarray _ => o1 st fun x r => ck (decide (0 ≤ x) && (decide (h.2.1 = 0) && (decide (h.1 < 147) && decide (SH h.1 = (e.2.2.1.getD 0 0, x.toNatClampNeg))))) (nx (j + 1) lv (.ref h.1 :: r) (h.1 + 1, h.2.1, h.2.2.1, h.2.2.2))
  | .anewarray _ => o1 st fun x r => ck (decide (0 ≤ x) && (decide (h.2.1 = 0) && (decide (h.1 < 147) && decide (SH h.1 = (e.2.2.1.getD 0 0, x.toNatClampNeg))))) (nx (j + 1) lv (.ref h.1 :: r) (h.1 + 1, h.2.1, h.2.2.1, h.2.2.2))
  | .multianewarray _ _ => o2 st fun n k r => ck (decide (0 ≤ n) && (decide (0 ≤ k) && (decide (h.2.1 = 0) && (decide (h.1 + n.toNatClampNeg < 147) && (decide (SH h.1 = (25, n.toNatClampNeg)) && (List.range n.toNatClampNeg).all (fun i => decide (SH (h.1 + 1 + i) = (20, k.toNatClampNeg)))))))) (nx (j + 1) lv (.ref h.1 :: r) (h.1 + 1 + n.toNatClampNeg, h.2.1, h.2.2.1, fun q i => if q = h.1 then (if i < n.toNatClampNeg then some (h.1 + 1 + i) else none) else h.2.2.2 q i))
  | .invokestatic _ => match e.2.2.1.getD 0 0 with
    | 6 => match st with
      | .int n :: .int dp :: .ref b :: .int sq :: .ref a :: r => ck (decide (1 ≤ dn) && (decide ((r.map Value.category).sum ≤ 8) && (okB h a 20 && (okB h b 20 && (decide (0 ≤ sq) && (decide (0 ≤ dp) && (decide (0 ≤ n) && (decide (sq.toNatClampNeg + n.toNatClampNeg ≤ (SH a).2) && decide (dp.toNatClampNeg + n.toNatClampNeg ≤ (SH b).2))))))))) (nx (j + 1) lv r (h.1, h.2.1, (fun q => if q = b then va_cpy (h.2.2.1 a) (h.2.2.1 b) sq.toNatClampNeg dp.toNatClampNeg n.toNatClampNeg else h.2.2.1 q), h.2.2.2))
      | _ => False
    | 9 => o2 st fun x y r => ck (decide (1 ≤ dn) && decide ((r.map Value.category).sum ≤ 8)) (nx (j + 1) lv (.int (if y < x then y else x) :: r) h)
    | 10 => o2 st fun x y r => ck (decide (1 ≤ dn) && decide ((r.map Value.category).sum ≤ 8)) (nx (j + 1) lv (.int (if x < y then y else x) :: r) h)
    | 11 => o1 st fun x r => ck (decide (1 ≤ dn) && decide ((r.map Value.category).sum ≤ 8)) (nx (j + 1) lv (.int (if 0 ≤ x then x else 0 - x) :: r) h)
    | _ => tk (e.2.2.1.getD 2 0) st fun vs r => cl (e.2.2.1.getD 1 0) vs (fun v h1 => nx (j + 1) lv (v.toList ++ r) h1)
  | .invokespecial _ => match e.2.2.1.getD 0 0 with
    | 5 => oR st fun p r => ck (decide (1 ≤ dn) && decide ((r.map Value.category).sum ≤ 8)) (nx (j + 1) lv r h)
    | _ => tk (e.2.2.1.getD 2 0) st fun vs r => ck (rcI vs) (cl (e.2.2.1.getD 1 0) vs (fun v h1 => nx (j + 1) lv (v.toList ++ r) h1))
  | .invokevirtual _ => match e.2.2.1.getD 0 0 with
    | 7 => oR st fun p r => ck (decide (4 ≤ dn) && (decide ((r.map Value.category).sum ≤ 8) && (decide (100000 ≤ p) && decide (p < 100016)))) (nx (j + 1) lv (.int (Int32.ofNat (stL.getD (p - 100000) []).length) :: r) h)
    | 8 => oX st fun i p r => ck (decide (4 ≤ dn) && (decide ((r.map Value.category).sum ≤ 8) && (decide (100000 ≤ p) && decide (p < 100016)))) (ck (ixB i (stL.getD (p - 100000) []).length) (nx (j + 1) lv (.int ((stL.getD (p - 100000) []).getD i.toNatClampNeg 0) :: r) h))
    | _ => tk (e.2.2.1.getD 2 0) st fun vs r => ck (rcv h vs (e.2.2.1.getD 3 0)) (cl (e.2.2.1.getD 1 0) vs (fun v h1 => nx (j + 1) lv (v.toList ++ r) h1))
  | .ireturn => match st with
    | [.int x] => rt (some (.int x))
    | _ => False
  | .lreturn => match st with
    | [.long x] => rt (some (.long x))
    | _ => False
  | .return_ => match st with
    | [] => rt none
    | _ => False
  | _ => False
