/-! EVERY ENTRY against the bytes and the tables: the check, as a program -/
def ft (M : MR) (j : Nat) : Option Ent := (M.2.1.getD (j / 16) [])[j % 16]?
def pcj (M : MR) (j : Nat) : Nat := match ft M j with
  | some e => e.2.1
  | none => 0
def stI : List (Nat × String × Nat) := [(44, "if", 0), (91, "speed", 1), (93, "near", 2), (95, "fog", 3), (97, "night", 4), (99, "water", 5), (101, "<", 6), (103, ">", 7), (105, "=", 8), (60, "and", 9), (80, "must", 10), (107, "slow", 11), (109, "sound", 12), (111, "light", 13), (113, "turn", 14), (85, ";", 15)]
/-- the methods that may be run (not Math's: the machine has its own way there) -/
def useB (i : Nat) : Bool := decide (i < 264) && !([69, 95, 112].contains i)
def lenI : Instr → Nat
  | .iload _ | .aload _ | .lload _ | .istore _ | .lstore _ | .astore _ | .bipush _ | .ldc _ | .newarray _ => 2
  | .sipush _ | .ldc_w _ | .ldc2_w _ | .iinc _ _ | .goto _ | .ifCond _ _ | .if_icmp _ _ | .getfield _ | .putfield _ | .getstatic _ | .new _ | .anewarray _ | .invokestatic _ | .invokevirtual _ | .invokespecial _ => 3
  | .multianewarray _ _ => 4
  | _ => 1
def swB : Instr → Bool
  | .tableswitch _ _ _ _ | .lookupswitch _ _ => true
  | _ => false
def nfB : Instr → Bool
  | .tableswitch _ _ _ _ | .lookupswitch _ _ | .goto _ | .ireturn | .lreturn | .return_ | .athrow => true
  | _ => false
/-- a method that is called: its number, how many it takes beside the receiver -/
def calB (i n : Nat) : Bool := useB i && (INF.contains (mt i).2.2.2.2.2.2 && (decide (ONL.getD (mt i).2.2.2.2.2.2 "" = (yM i).cls) && (decide ((yM i).cls ≠ "java/lang/invoke/MethodHandle") && (decide ((yM i).cls ≠ "java/lang/invoke/VarHandle") && (decide ((parseMethodDescriptor (yM i).desc).map (fun d => d.parameters.length) = some n) && decide ((mt i).2.2.2.2.1 ≤ 21))))))
def tgB (M : MR) (pc t : Nat) (off : Int) : Bool := decide ((pc : Int) + off = (pcj M t : Int))
def argB (M : MR) (e : Ent) : Bool := match e.1 with
  | .iconst n => decide (e.2.2.2 = .int (Int32.ofInt n))
  | .bipush n => decide (e.2.2.2 = .int (Int8.ofInt n).toInt32)
  | .sipush n => decide (e.2.2.2 = .int (Int16.ofInt n).toInt32)
  | .lconst n => decide (e.2.2.2 = .long (Int64.ofNat (n : Nat)))
  | .ldc ix => match e.2.2.2 with
    | .int x => KCF.contains (M.2.2.2.2.2.2, ix, x)
    | .ref p => decide (M.2.2.2.1.cls = "WreckCourt$Reader") && stI.any (fun q => q.1 == ix && p == 100000 + q.2.2)
    | _ => false
  | .ldc_w ix => match e.2.2.2 with
    | .int x => KCF.contains (M.2.2.2.2.2.2, ix, x)
    | _ => false
  | .ldc2_w ix => match e.2.2.2 with
    | .long x => KLF.contains (M.2.2.2.2.2.2, ix, x)
    | _ => false
  | .istore_n k => decide (k.val < M.2.2.2.2.1)
  | .istore k => decide (k < M.2.2.2.2.1)
  | .astore_n k => decide (k.val < M.2.2.2.2.1)
  | .astore k => decide (k < M.2.2.2.2.1)
  | .lstore_n k => decide (k.val + 1 < M.2.2.2.2.1)
  | .lstore k => decide (k + 1 < M.2.2.2.2.1)
  | .iinc k _ => decide (k < M.2.2.2.2.1)
  | .goto off => tgB M e.2.1 (e.2.2.1.getD 0 0) off
  | .ifCond _ off => tgB M e.2.1 (e.2.2.1.getD 0 0) off
  | .if_icmp _ off => tgB M e.2.1 (e.2.2.1.getD 0 0) off
  | .tableswitch df lo hi offs => tgB M e.2.1 (e.2.2.1.getD 0 0) df && (decide (0 ≤ lo) && (decide (hi = lo + offs.size - 1) && (decide (lo + offs.size < 1000) && (decide ((e.2.2.1.drop 1).length = offs.size) && (List.range offs.size).all (fun i => tgB M e.2.1 ((e.2.2.1.drop 1).getD i 0) (offs.getD i 0))))))
  | .lookupswitch df ps => tgB M e.2.1 (e.2.2.1.getD 0 0) df && ((ps.toList.zip (ps.toList.drop 1)).all (fun (a, next) => a.1 < next.1) && (decide ((e.2.2.1.drop 1).length = ps.toList.length) && (List.range ps.toList.length).all (fun i => tgB M e.2.1 ((e.2.2.1.drop 1).getD i 0) (ps.toList.getD i (0, 0)).2 && decide ((Int32.ofInt (ps.toList.getD i (0, 0)).1).toInt = (ps.toList.getD i (0, 0)).1))))
  | .getfield ix => FLF.contains (M.2.2.2.2.2.2, ix, e.2.2.1.getD 0 0, e.2.2.1.getD 1 0) && (decide (e.2.2.1.getD 0 0 < 12) && decide (e.2.2.1.getD 1 0 < (vwCl.getD (e.2.2.1.getD 0 0) ("", fun _ => ("", "", "", false), 0)).2.2))
  | .putfield ix => FLF.contains (M.2.2.2.2.2.2, ix, e.2.2.1.getD 0 0, e.2.2.1.getD 1 0) && (decide (e.2.2.1.getD 0 0 < 12) && (decide (e.2.2.1.getD 1 0 < (vwCl.getD (e.2.2.1.getD 0 0) ("", fun _ => ("", "", "", false), 0)).2.2) && (decide ((tT (e.2.2.1.getD 0 0) (e.2.2.1.getD 1 0)).2.2.2 = false) || (decide ((tT (e.2.2.1.getD 0 0) (e.2.2.1.getD 1 0)).1 = M.2.2.2.1.cls) && decide (M.2.2.2.1.name = "<init>")))))
  | .getstatic ix => decide (M.2.2.2.1.cls = "WreckCourt$Sea") && (decide (e.2.2.2 = .ref 100100 ∧ ix = 97) || decide (e.2.2.2 = .ref 100101 ∧ ix = 100))
  | .new ix => decide (e.2.2.1.getD 0 0 < 12) && NCF.contains (M.2.2.2.2.2.2, ix, e.2.2.1.getD 0 0)
  | .newarray ty => decide (e.2.2.1.getD 0 0 = 20 ∧ ty = .int) || (decide (e.2.2.1.getD 0 0 = 21 ∧ ty = .byte) || decide (e.2.2.1.getD 0 0 = 22 ∧ ty = .boolean))
  | .anewarray ix => (decide (e.2.2.1.getD 0 0 = 23) && NCF.contains (M.2.2.2.2.2.2, ix, 6)) || (decide (e.2.2.1.getD 0 0 = 24) && NCF.contains (M.2.2.2.2.2.2, ix, 3))
  | .multianewarray ix dm => decide (dm = 2) && (decide (M.2.2.2.1.cls = "WreckCourt$Sea" ∧ ix = 31) || decide (M.2.2.2.1.cls = "WreckCourt$Vessel" ∧ ix = 43))
  | .invokestatic ix => match e.2.2.1.getD 0 0 with
    | 0 => MLF.contains (M.2.2.2.2.2.2, ix, e.2.2.1.getD 1 0) && (SMF.contains (e.2.2.1.getD 1 0) && calB (e.2.2.1.getD 1 0) (e.2.2.1.getD 2 0))
    | 3 => MNF.contains (M.2.2.2.2.2.2, ix, e.2.2.1.getD 1 0) && (SMF.contains (e.2.2.1.getD 1 0) && calB (e.2.2.1.getD 1 0) (e.2.2.1.getD 2 0))
    | 6 => decide (M.2.2.2.1.cls = "WreckCourt") && decide (ix = 119)
    | 9 => MLF.contains (M.2.2.2.2.2.2, ix, 69)
    | 10 => MLF.contains (M.2.2.2.2.2.2, ix, 112)
    | 11 => MLF.contains (M.2.2.2.2.2.2, ix, 95)
    | _ => false
  | .invokevirtual ix => match e.2.2.1.getD 0 0 with
    | 1 => MLF.contains (M.2.2.2.2.2.2, ix, e.2.2.1.getD 1 0) && (IMF.contains (e.2.2.1.getD 1 0) && (SLF.contains (e.2.2.1.getD 1 0) && (decide (1 ≤ e.2.2.1.getD 2 0) && (calB (e.2.2.1.getD 1 0) (e.2.2.1.getD 2 0 - 1) && (decide (e.2.2.1.getD 3 0 < 12) && decide ((vwCl.getD (e.2.2.1.getD 3 0) ("", fun _ => ("", "", "", false), 0)).1 = (yM (e.2.2.1.getD 1 0)).cls))))))
    | 7 => decide (M.2.2.2.1.cls = "WreckCourt$Reader") && decide (ix = 115)
    | 8 => decide (M.2.2.2.1.cls = "WreckCourt$Reader") && decide (ix = 119)
    | _ => false
  | .invokespecial ix => match e.2.2.1.getD 0 0 with
    | 2 => MLF.contains (M.2.2.2.2.2.2, ix, e.2.2.1.getD 1 0) && (IMF.contains (e.2.2.1.getD 1 0) && (decide (1 ≤ e.2.2.1.getD 2 0) && (calB (e.2.2.1.getD 1 0) (e.2.2.1.getD 2 0 - 1) && (decide ((yM (e.2.2.1.getD 1 0)).name = "<init>") && decide ((mt (e.2.2.1.getD 1 0)).2.2.2.2.2.1 = none)))))
    | 4 => MNF.contains (M.2.2.2.2.2.2, ix, e.2.2.1.getD 1 0) && (IMF.contains (e.2.2.1.getD 1 0) && (decide (1 ≤ e.2.2.1.getD 2 0) && (calB (e.2.2.1.getD 1 0) (e.2.2.1.getD 2 0 - 1) && (decide ((yM (e.2.2.1.getD 1 0)).name = "<init>") && decide ((mt (e.2.2.1.getD 1 0)).2.2.2.2.2.1 = none)))))
    | 5 => OIF.contains (M.2.2.2.2.2.2, ix)
    | _ => false
  | _ => true
def decB (b : ByteArray) (e : Ent) : Bool := match decode b e.2.1 with
  | .ok (i, n) => decide (i = e.1) && (swB e.1 || decide (n = lenI e.1))
  | .error _ => false
def chkE (M : MR) (j : Nat) : Bool := match ft M j with
  | none => true
  | some e => decB M.2.2.1 e && ((nfB e.1 || decide (pcj M (j + 1) = e.2.1 + lenI e.1)) && argB M e)
def chkM (M : MR) : Bool := plainName M.2.2.2.1.cls && (decide (pcj M 0 = 0) && (decide (ONL.getD M.2.2.2.2.2.2 "" = M.2.2.2.1.cls) && (List.range (M.2.1.length * 16)).all (chkE M)))
theorem use_lt {i : Nat} (h : useB i = true) : i < 264 := by
  unfold useB at h
  simp only [Bool.and_eq_true, decide_eq_true_eq] at h
  exact h.1
