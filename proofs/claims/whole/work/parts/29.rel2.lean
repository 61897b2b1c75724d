/-! THE RELATION, its larger parts -/
/-- the last of n entries that speak of s and begin by m -/
def lastI (who fr : Nat → Int32) (s m : Int32) : Nat → Option Nat
  | 0 => none
  | k + 1 => if who k = s ∧ (fr k).toInt ≤ m.toInt then some k else lastI who fr s m k
/-- the reference's: of those the latest, of one minute the one told last -/
def bestI (who mi : Nat → Int32) (s m : Int32) : Nat → Option Nat
  | 0 => none
  | k + 1 => if who k = s ∧ (mi k).toInt ≤ m.toInt then (match bestI who mi s m k with
      | none => some k
      | some j => if (mi j).toInt ≤ (mi k).toInt then some k else some j) else bestI who mi s m k
/-- a table kept by minute (who, fr, va) against one as told (rw, rm, rv), n entries each -/
def TR (n : Nat) (who fr va rw rm rv : Nat → Int32) : Prop :=
  (∀ i j, i < j → j < n → (fr i).toInt ≤ (fr j).toInt) ∧
  (∀ s m : Int32, (lastI who fr s m n).map (fun i => (fr i, va i)) = (bestI rw rm s m n).map (fun k => (rm k, rv k))) ∧
  (∀ i, i < n → ∃ k, k < n ∧ who i = rw k ∧ fr i = rm k ∧ va i = rv k)
def ocode (I : St) (k : Nat) : Int32 := (I 103 k <<< ((6 : Int32) &&& 31)) ||| I 104 k
/-- the order that holds of ship s at minute m, as the reference finds it -/
def ordK (I : St) (s m : Nat) : Option Nat := bestI (I 101) (I 102) (Int32.ofNat s) (Int32.ofNat m) (I 93 10).toInt.toNat
def crs (I : St) (s m : Nat) : Int32 := match ordK I s m with
  | none => 0
  | some k => I 103 k
def spd (I : St) (s m : Nat) : Int32 := match ordK I s m with
  | none => 0
  | some k => I 104 k
def cod (I : St) (s m : Nat) : Int32 := match ordK I s m with
  | none => 0
  | some k => ocode I k
def wX (I : St) (s : Nat) : Nat → Int32
  | 0 => I 99 s
  | m + 1 => wX I s m + I 97 (crs I s m).toInt.toNat * spd I s m / 100 + I 105 m
def wY (I : St) (s : Nat) : Nat → Int32
  | 0 => I 100 s
  | m + 1 => wY I s m + I 98 (crs I s m).toInt.toNat * spd I s m / 100 + I 106 m
/-- the sea's tracks, where they are not stale -/
def SeaC (I : St) : Prop := I 2 9 = 0 → ∀ s, s < (I 93 7).toInt.toNat → (∀ m, m ≤ 240 → I (12 + s) m = wX I s m ∧ I (17 + s) m = wY I s m) ∧ ∀ m, m < 240 → I (22 + s) m = cod I s m
def RC3 (I : St) : Prop := (I 2 2 = I 93 7 ∧ 0 ≤ (I 93 7).toInt ∧ (I 93 7).toInt ≤ 4) ∧ (I 3 3 = I 93 10 ∧ 0 ≤ (I 93 10).toInt ∧ (I 93 10).toInt ≤ 60) ∧ (I 2 9 = 0 ∨ I 2 9 = 1) ∧
  (∀ k, k < 60 → (0 ≤ (I 101 k).toInt ∧ (I 101 k).toInt ≤ 3) ∧ (0 ≤ (I 102 k).toInt ∧ (I 102 k).toInt ≤ 239) ∧ (0 ≤ (I 103 k).toInt ∧ (I 103 k).toInt ≤ 15) ∧ 0 ≤ (I 104 k).toInt ∧ (I 104 k).toInt ≤ 50) ∧
  TR (I 93 10).toInt.toNat (I 4) (I 5) (I 6) (I 101) (I 102) (ocode I) ∧
  (∀ k, k < 240 → (I 26 k = I 105 k ∧ -20 ≤ (I 105 k).toInt ∧ (I 105 k).toInt ≤ 20) ∧ I 27 k = I 106 k ∧ -20 ≤ (I 106 k).toInt ∧ (I 106 k).toInt ≤ 20) ∧
  (∀ k, k < 16 → I 97 k = kA 100100 k ∧ I 98 k = kA 100101 k) ∧
  (∀ s, s < (I 93 7).toInt.toNat → (I (12 + s) 0 = I 99 s ∧ -10000 ≤ (I 99 s).toInt ∧ (I 99 s).toInt ≤ 10000) ∧ I (17 + s) 0 = I 100 s ∧ -10000 ≤ (I 100 s).toInt ∧ (I 100 s).toInt ≤ 10000) ∧ SeaC I
def ob : Option Nat → Int32
  | none => -1000000
  | some k => Int32.ofNat k
/-! the hull, minute by minute, as the reference has it: rm rooms, dw dt dp doors (which, minute, open), ho hm hr holes (hold, minute, rate) -/
def upF (l : Nat → Int32) (h : Nat) (x : Int32) : Nat → Int32 := fun k => if k = h then x else l k
def mnI (a b : Int32) : Int32 := if a < b then a else b
/-- a hole: what comes in -/
def ho1 (rm : Nat → Int32) (h : Nat) (rate : Int32) (l : Nat → Int32) : Nat → Int32 := upF l h (l h + (if (rm h - l h).toInt ≤ 0 then 0 else mnI rate (rm h - l h)))
def hlS (rm ho hm hr : Nat → Int32) (th v : Int32) (m : Nat) (l : Nat → Int32) : Nat → (Nat → Int32)
  | 0 => l
  | k + 1 => if (hm k).toInt ≤ m ∧ ¬ (th = 3 ∧ v = Int32.ofNat k) then ho1 rm (ho k).toInt.toNat (hr k) (hlS rm ho hm hr th v m l k) else hlS rm ho hm hr th v m l k
def isO (dw dt dp : Nat → Int32) (nd d m : Nat) : Bool := match bestI dw dt (Int32.ofNat d) (Int32.ofNat m) nd with
  | none => true
  | some k => decide (dp k = 1)
def opn (dw dt dp : Nat → Int32) (nd : Nat) (th v : Int32) (d m : Nat) : Bool := if th.toInt < 2 ∧ v = Int32.ofNat d then decide (th = 1) else isO dw dt dp nd d m
/-- a door -/
def dr1 (o : Bool) (rm : Nat → Int32) (d : Nat) (l : Nat → Int32) : Nat → Int32 :=
  let to := if 0 < (l d - l (d + 1)).toInt then d + 1 else d
  let fm := if 0 < (l d - l (d + 1)).toInt then d else d + 1
  let go := match o with
    | true => mnI ((if (l d - l (d + 1)).toInt < 0 then -(l d - l (d + 1)) else l d - l (d + 1)) / 2) (if (rm to - l to).toInt < 0 then 0 else rm to - l to)
    | false => 0
  upF (upF l to (l to + go)) fm (l fm - go)
def drS (rm dw dt dp : Nat → Int32) (nd : Nat) (th v : Int32) (m : Nat) (l : Nat → Int32) : Nat → (Nat → Int32)
  | 0 => l
  | d + 1 => dr1 (opn dw dt dp nd th v d m) rm d (drS rm dw dt dp nd th v m l d)
/-- the hold that has the most, of the first n + 1 -/
def mxH (l : Nat → Int32) : Nat → Nat
  | 0 => 0
  | k + 1 => if (l (mxH l k)).toInt < (l (k + 1)).toInt then k + 1 else mxH l k
def pmS (pp : Int32) (l : Nat → Int32) : Nat → Int32 := upF l (mxH l 5) (l (mxH l 5) - mnI pp (l (mxH l 5)))
def wl (rm dw dt dp ho hm hr : Nat → Int32) (pp : Int32) (nd nh : Nat) (th v : Int32) : Nat → (Nat → Int32)
  | 0 => fun _ => 0
  | m + 1 => pmS (if th = 2 then v else pp) (drS rm dw dt dp nd th v m (hlS rm ho hm hr th v m (wl rm dw dt dp ho hm hr pp nd nh th v m) nh) 5)
def sm6 (l : Nat → Int32) : Int32 := 0 + l 0 + l 1 + l 2 + l 3 + l 4 + l 5
/-- the first minute up to n at which all water is b or more -/
def skF (w : Nat → (Nat → Int32)) (b : Int32) : Nat → Option Nat
  | 0 => none
  | n + 1 => match skF w b n with
    | some m => some m
    | none => if b.toInt ≤ (sm6 (w (n + 1))).toInt then some (n + 1) else none
def wlI (I : St) (th v : Int32) : Nat → (Nat → Int32) := wl (I 112) (I 113) (I 114) (I 115) (I 116) (I 117) (I 118) (I 93 24) (I 93 26).toInt.toNat (I 93 30).toInt.toNat th v
def skI (I : St) (th v : Int32) : Option Nat := skF (wlI I th v) (I 93 25) 240
/-- the vessel's levels, where they are not stale -/
def K0 (I : St) : Prop := I 41 0 = 0 ∧ I 42 0 = 0 ∧ I 43 0 = 0 ∧ I 44 0 = 0 ∧ I 45 0 = 0 ∧ I 46 0 = 0
def VesC (I : St) : Prop := K0 I ∧ (I 29 12 = 0 → I 29 11 = ob (skI I 9 0) ∧ ∀ h, h < 6 → ∀ m, m ≤ 240 → I (41 + h) m = wlI I 9 0 m h)
def RC5 (I : St) : Prop := (I 29 1 = I 93 30 ∧ 0 ≤ (I 93 30).toInt ∧ (I 93 30).toInt ≤ 10) ∧ (I 29 9 = I 93 24 ∧ 0 ≤ (I 93 24).toInt ∧ (I 93 24).toInt ≤ 100) ∧ (I 29 10 = I 93 25 ∧ 1 ≤ (I 93 25).toInt ∧ (I 93 25).toInt ≤ 6000) ∧ (I 30 3 = I 93 26 ∧ 0 ≤ (I 93 26).toInt ∧ (I 93 26).toInt ≤ 30) ∧ (I 29 12 = 0 ∨ I 29 12 = 1) ∧
  (∀ k, k < 10 → (I 35 k = I 116 k ∧ 0 ≤ (I 116 k).toInt ∧ (I 116 k).toInt ≤ 5) ∧ (I 36 k = I 117 k ∧ 0 ≤ (I 117 k).toInt ∧ (I 117 k).toInt ≤ 239) ∧ I 37 k = I 118 k ∧ 0 ≤ (I 118 k).toInt ∧ (I 118 k).toInt ≤ 100) ∧
  (∀ h, h < 6 → I 34 h = I 112 h ∧ 1 ≤ (I 112 h).toInt ∧ (I 112 h).toInt ≤ 1000) ∧
  (∀ k, k < 30 → (0 ≤ (I 113 k).toInt ∧ (I 113 k).toInt ≤ 4) ∧ (0 ≤ (I 114 k).toInt ∧ (I 114 k).toInt ≤ 239) ∧ 0 ≤ (I 115 k).toInt ∧ (I 115 k).toInt ≤ 1) ∧
  TR (I 93 26).toInt.toNat (I 31) (I 32) (I 33) (I 113) (I 114) (I 115) ∧ VesC I
def rtf : Nat → Nat → Nat
  | 0, _ => 0
  | n + 1, v => if (n + 1) * (n + 1) ≤ v then n + 1 else rtf n v
/-- the greatest whole number of which the square is no more than v -/
def rt (v : Nat) : Nat := rtf 300000 v
/-! what was told, judged: the facts' rows as the reference has them -/
def wdF (I : St) (a : Nat) : Bool := decide (I 120 a = 1) || decide (I 120 a = 2)
def tmF (I : St) (c0 c1 c2 : Int) (a : Nat) : Int := (I 122 a).toInt + (match wdF I a with
  | true => if I 126 a = 0 then c0 else if I 126 a = 1 then c1 else c2
  | false => 0)
def d2F (I : St) (a b : Nat) : Nat := (((I 123 a).toInt - (I 123 b).toInt) * ((I 123 a).toInt - (I 123 b).toInt) + ((I 124 a).toInt - (I 124 b).toInt) * ((I 124 a).toInt - (I 124 b).toInt)).toNat
def abZ (z : Int) : Int := if z < 0 then -z else z
def qrF (I : St) (c0 c1 c2 : Int) (a b : Nat) : Bool := decide (I 121 a = I 121 b) && decide ((I 125 a).toInt + (I 125 b).toInt + 50 * abZ (tmF I c0 c1 c2 a - tmF I c0 c1 c2 b) < (rt (d2F I a b) : Int))
/-- no two of a set quarrel -/
def okS (q : Nat → Nat → Bool) (S : Nat) : Bool := (List.range 12).all fun b => (List.range b).all fun a => !(S.testBit a && (S.testBit b && q a b))
def clk (c : Nat) : Int × Int × Int := ((c / 49 : Nat) - 3, (c / 7 % 7 : Nat) - 3, (c % 7 : Nat) - 3)
def fitS (I : St) (H S : Nat) : Bool := decide (S &&& H = S) && (List.range 343).any fun c => okS (qrF I (clk c).1 (clk c).2.1 (clk c).2.2) S
/-- how many of the first n -/
def cnb (P : Nat → Bool) : Nat → Nat
  | 0 => 0
  | k + 1 => cnb P k + (if P k = true then 1 else 0)
def pcN (S : Nat) : Nat := cnb S.testBit 12
def grt (F : Nat → Bool) : Nat → Nat
  | 0 => 0
  | n + 1 => if F n = true ∧ grt F n < pcN n then pcN n else grt F n
def riv (F : Nat → Bool) (S : Nat) : Bool := F S && decide (pcN S = grt F 4096)
def fsN (P : Nat → Bool) : Nat → Option Nat
  | 0 => none
  | n + 1 => match fsN P n with
    | some m => some m
    | none => if P n = true then some n else none
/-- how much farther two are apart than their doubts -/
def BY (f : Nat) (I : St) : Prop := ∀ a b, a < f → b < f → a ≠ b → (I 52 (12 * a + b)).toInt = if I 121 a = I 121 b then (rt (d2F I a b) : Int) - (I 125 a).toInt - (I 125 b).toInt else 0
/-- what is kept of the set H -/
def JD (I : St) (H : Nat) : Prop := I 47 5 = Int32.ofNat H ∧ I 47 2 = Int32.ofNat (grt (fitS I H) 4096) ∧ I 47 3 = Int32.ofNat (cnb (riv (fitS I H)) 4096) ∧ I 47 4 = ob (fsN (riv (fitS I H)) 4096) ∧ ∀ i, i < 12 → I 49 i = Int32.ofNat (cnb (fun S => riv (fitS I H) S && S.testBit i) 4096)
def JC (f : Nat) (I : St) : Prop := BY f I ∧ ∃ H, H < 2 ^ f ∧ JD I H
theorem JC.ro {f : Nat} {I J : St} (h : ∀ p k, (p = 47 ∧ k ≠ 0) ∨ p = 49 ∨ p = 52 ∨ (120 ≤ p ∧ p ≤ 126) → J p k = I p k) (r : JC f I) : JC f J := by
  obtain ⟨r1, H, r2, r3⟩ := r
  have e : ∀ p, 120 ≤ p → p ≤ 126 → J p = I p := fun p h1 h2 => funext fun k => h p k (Or.inr (Or.inr (Or.inr ⟨h1, h2⟩)))
  have e0 := e 120 (by decide) (by decide)
  have e1 := e 121 (by decide) (by decide)
  have e2 := e 122 (by decide) (by decide)
  have e3 := e 123 (by decide) (by decide)
  have e4 := e 124 (by decide) (by decide)
  have e5 := e 125 (by decide) (by decide)
  have e6 := e 126 (by decide) (by decide)
  have d : d2F J = d2F I := by
    funext a b; unfold d2F; rw [e3, e4]
  have t : tmF J = tmF I := by
    funext c0 c1 c2 a; unfold tmF wdF; rw [e0, e2, e6]
  have q : qrF J = qrF I := by
    funext c0 c1 c2 a b; unfold qrF; rw [e1, e5, t, d]
  have s : fitS J = fitS I := by
    funext H S; unfold fitS; rw [q]
  refine ⟨fun a b ha hb hn => ?_, H, r2, ?_⟩
  · rw [h 52 _ (Or.inr (Or.inr (Or.inl rfl))), e1, e5, d]
    exact r1 a b ha hb hn
  · unfold JD
    rw [s, h 47 5 (Or.inl ⟨rfl, by decide⟩), h 47 2 (Or.inl ⟨rfl, by decide⟩), h 47 3 (Or.inl ⟨rfl, by decide⟩), h 47 4 (Or.inl ⟨rfl, by decide⟩)]
    refine ⟨r3.1, r3.2.1, r3.2.2.1, r3.2.2.2.1, fun i hi => ?_⟩
    rw [h 49 i (Or.inr (Or.inl rfl))]
    exact r3.2.2.2.2 i hi
theorem cmp_jc {p k : Nat} (h : (p = 47 ∧ k ≠ 0) ∨ p = 49 ∨ p = 52 ∨ (120 ≤ p ∧ p ≤ 126)) : cmp p k = 6 := by
  rw [cmp_pl k (by omega) (by omega)]
  have : p < 147 := by omega
  have h2 : p = 47 ∨ p = 49 ∨ p = 52 ∨ p = 120 ∨ p = 121 ∨ p = 122 ∨ p = 123 ∨ p = 124 ∨ p = 125 ∨ p = 126 := by omega
  rcases h2 with e | e | e | e | e | e | e | e | e | e <;> (rw [e]; rfl)
def RC6 (f : Nat) (I : St) : Prop := f ≤ 12 ∧ I 47 1 = Int32.ofNat f ∧ I 93 35 = Int32.ofNat f ∧
  (∀ k, k < f → (I (1000 + k) 0 = I 120 k ∧ 0 ≤ (I 120 k).toInt ∧ (I 120 k).toInt ≤ 3) ∧ (I (1000 + k) 1 = I 126 k ∧ 0 ≤ (I 126 k).toInt ∧ (I 126 k).toInt ≤ 2) ∧ (I (1000 + k) 2 = I 127 k ∧ 0 ≤ (I 127 k).toInt ∧ (I 127 k).toInt ≤ 99) ∧ (I (1000 + k) 3 = I 122 k ∧ 0 ≤ (I 122 k).toInt ∧ (I 122 k).toInt ≤ 239) ∧ (I (1000 + k) 4 = I 121 k ∧ 0 ≤ (I 121 k).toInt ∧ (I 121 k).toInt ≤ 3) ∧
    (I (1000 + k) 5 = I 123 k ∧ -10000 ≤ (I 123 k).toInt ∧ (I 123 k).toInt ≤ 10000) ∧ (I (1000 + k) 6 = I 124 k ∧ -10000 ≤ (I 124 k).toInt ∧ (I 124 k).toInt ≤ 10000) ∧ (I (1000 + k) 7 = I 125 k ∧ 0 ≤ (I 125 k).toInt ∧ (I 125 k).toInt ≤ 2000) ∧ I (1000 + k) 8 = I 128 k ∧ (I 128 k = -1000000 ∨ 0 ≤ (I 128 k).toInt ∧ (I 128 k).toInt ≤ 99)) ∧ JC f I
def bkP (sw : Bool) : Nat := match sw with
  | true => 71
  | false => 65
/-- a book at the place b against the reference's rules -/
def BK (b : Nat) (I : St) : Prop := I b 0 = I 93 54 ∧ 0 ≤ (I 93 54).toInt ∧ (I 93 54).toInt ≤ 10 ∧
  ∀ r, r < (I 93 54).toInt.toNat → (I (b + 1) r = I 136 r ∧ 0 ≤ (I 136 r).toInt ∧ (I 136 r).toInt ≤ 3) ∧ (I (b + 2) r = I 134 r ∧ 0 ≤ (I 134 r).toInt ∧ (I 134 r).toInt ≤ 3) ∧
    ∀ n, n < (I 134 r).toInt.toNat → (I (b + 3) (3 * r + n) = I 135 (9 * r + 3 * n) ∧ 0 ≤ (I 135 (9 * r + 3 * n)).toInt ∧ (I 135 (9 * r + 3 * n)).toInt ≤ 4) ∧
      (I (b + 4) (3 * r + n) = 0 ∧ I 135 (9 * r + 3 * n + 1) = 60 ∨ I (b + 4) (3 * r + n) = 1 ∧ I 135 (9 * r + 3 * n + 1) = 62 ∨ I (b + 4) (3 * r + n) = 2 ∧ I 135 (9 * r + 3 * n + 1) = 61) ∧ I (b + 5) (3 * r + n) = I 135 (9 * r + 3 * n + 2)
def RC7 (sw : Bool) (I : St) : Prop := BK (bkP sw) I
/-- the law's relation -/
def Rel (G : GX) (f : Nat) (sw : Bool) (I : St) : Prop := RX G I ∧ RC1 I ∧ RC2 I ∧ RC3 I ∧ RC4 I ∧ RC5 I ∧ RC6 f I ∧ RC7 sw I ∧ RC8 I ∧ RC9 I ∧ RC10 I
theorem eqc.row {c : Nat} {I J : St} (h : eqc c I J) (p : Nat) (hp : ∀ k, cmp p k = c) : J p = I p := funext fun k => h p k (hp k)
theorem cmp_sea : ∀ s, s < 4 → ∀ k, cmp (12 + s) k = 3 ∧ cmp (17 + s) k = 3 ∧ cmp (22 + s) k = 3 := fun s hs k => by
  rw [cmp_pl k (by omega) (by omega), cmp_pl k (by omega) (by omega), cmp_pl k (by omega) (by omega)]
  revert s
  decide
theorem ocode_cg {I J : St} (h : eqc 3 I J) : ocode J = ocode I := by
  funext k; unfold ocode; rw [h 103 k rfl, h 104 k rfl]
theorem ordK_cg {I J : St} (h : eqc 3 I J) : ordK J = ordK I := by
  funext s m; unfold ordK; rw [h.row 101 (fun _ => rfl), h.row 102 (fun _ => rfl), h 93 10 rfl]
theorem crs_cg {I J : St} (h : eqc 3 I J) : crs J = crs I := by
  funext s m; unfold crs; rw [ordK_cg h, h.row 103 (fun _ => rfl)]
theorem spd_cg {I J : St} (h : eqc 3 I J) : spd J = spd I := by
  funext s m; unfold spd; rw [ordK_cg h, h.row 104 (fun _ => rfl)]
theorem cod_cg {I J : St} (h : eqc 3 I J) : cod J = cod I := by
  funext s m; unfold cod; rw [ordK_cg h, ocode_cg h]
theorem wX_cg {I J : St} (h : eqc 3 I J) (s : Nat) : ∀ m, wX J s m = wX I s m
  | 0 => h 99 s rfl
  | m + 1 => by
    unfold wX
    rw [wX_cg h s m, crs_cg h, spd_cg h, h.row 97 (fun _ => rfl), h.row 105 (fun _ => rfl)]
theorem wY_cg {I J : St} (h : eqc 3 I J) (s : Nat) : ∀ m, wY J s m = wY I s m
  | 0 => h 100 s rfl
  | m + 1 => by
    unfold wY
    rw [wY_cg h s m, crs_cg h, spd_cg h, h.row 98 (fun _ => rfl), h.row 106 (fun _ => rfl)]
theorem RC3.cg {I J : St} (h : eqc 3 I J) (r : RC3 I) : RC3 J := by
  obtain ⟨r1, r2, r3, r4, r5, r6, r7, r8, r9⟩ := r
  unfold RC3
  rw [h 2 2 rfl, h 93 7 rfl, h 3 3 rfl, h 93 10 rfl, h 2 9 rfl, h.row 4 (fun _ => rfl), h.row 5 (fun _ => rfl), h.row 6 (fun _ => rfl), h.row 101 (fun _ => rfl), h.row 102 (fun _ => rfl), h.row 103 (fun _ => rfl), h.row 104 (fun _ => rfl), h.row 26 (fun _ => rfl), h.row 27 (fun _ => rfl), h.row 105 (fun _ => rfl), h.row 106 (fun _ => rfl), h.row 97 (fun _ => rfl), h.row 98 (fun _ => rfl), h.row 99 (fun _ => rfl), h.row 100 (fun _ => rfl), ocode_cg h]
  refine ⟨r1, r2, r3, r4, r5, r6, r7, fun s hs => ?_, fun hz s hs => ?_⟩
  · rw [h (12 + s) 0 (cmp_sea s (by omega) 0).1, h (17 + s) 0 (cmp_sea s (by omega) 0).2.1]
    exact r8 s hs
  · rw [h 2 9 rfl] at hz
    rw [h 93 7 rfl] at hs
    have q := r9 hz s hs
    refine ⟨fun m hm => ?_, fun m hm => ?_⟩
    · rw [h (12 + s) m (cmp_sea s (by omega) m).1, h (17 + s) m (cmp_sea s (by omega) m).2.1, wX_cg h, wY_cg h]
      exact q.1 m hm
    · rw [h (22 + s) m (cmp_sea s (by omega) m).2.2, cod_cg h]
      exact q.2 m hm
theorem cmp_ves : ∀ h, h < 6 → ∀ k, cmp (41 + h) k = 5 := fun h hh k => by
  rw [cmp_pl k (by omega) (by omega)]
  revert h
  decide
theorem wlI_cg {I J : St} (h : eqc 5 I J) : wlI J = wlI I := by
  funext th v
  unfold wlI
  rw [h.row 112 (fun _ => rfl), h.row 113 (fun _ => rfl), h.row 114 (fun _ => rfl), h.row 115 (fun _ => rfl), h.row 116 (fun _ => rfl), h.row 117 (fun _ => rfl), h.row 118 (fun _ => rfl), h 93 24 rfl, h 93 26 rfl, h 93 30 rfl]
theorem VesC.cg {I J : St} (h : eqc 5 I J) (r : VesC I) : VesC J := by
  refine ⟨by unfold K0; rw [h 41 0 rfl, h 42 0 rfl, h 43 0 rfl, h 44 0 rfl, h 45 0 rfl, h 46 0 rfl]; exact r.1, fun z => ?_⟩
  rw [h 29 12 rfl] at z
  have q := r.2 z
  unfold skI at q ⊢
  rw [h 29 11 rfl, wlI_cg h, h 93 25 rfl]
  refine ⟨q.1, fun k hk m hm => ?_⟩
  rw [h (41 + k) m (cmp_ves k hk m)]
  exact q.2 k hk m hm
theorem VesC.st {J : St} (h : J 29 12 = 1) (k : K0 J) : VesC J := ⟨k, fun z => absurd (h.symm.trans z) (by decide)⟩
theorem RC5.cg {I J : St} (h : eqc 5 I J) (r : RC5 I) : RC5 J := by
  obtain ⟨r1, r2, r3, r4, r5, r6, r7, r8, r9, r10⟩ := r
  unfold RC5
  rw [h 29 1 rfl, h 93 30 rfl, h 29 9 rfl, h 93 24 rfl, h 29 10 rfl, h 93 25 rfl, h 30 3 rfl, h 93 26 rfl, h 29 12 rfl, h.row 35 (fun _ => rfl), h.row 36 (fun _ => rfl), h.row 37 (fun _ => rfl), h.row 116 (fun _ => rfl), h.row 117 (fun _ => rfl), h.row 118 (fun _ => rfl), h.row 34 (fun _ => rfl), h.row 112 (fun _ => rfl), h.row 113 (fun _ => rfl), h.row 114 (fun _ => rfl), h.row 115 (fun _ => rfl), h.row 31 (fun _ => rfl), h.row 32 (fun _ => rfl), h.row 33 (fun _ => rfl)]
  exact ⟨r1, r2, r3, r4, r5, r6, r7, r8, r9, r10.cg h⟩
theorem cmp_fa {p : Nat} (k : Nat) (h : 147 ≤ p) (h2 : p < 100000) : cmp p k = 6 := by unfold cmp; rw [if_neg (by omega), if_neg (by omega), if_pos h2]
theorem JC.cg {f : Nat} {I J : St} (h : eqc 6 I J) (r : JC f I) : JC f J := r.ro (fun p k q => h p k (cmp_jc q))
theorem RC6.cg {f : Nat} {I J : St} (h : eqc 6 I J) (r : RC6 f I) : RC6 f J := by
  obtain ⟨r1, r2, r3, r4, r5⟩ := r
  refine ⟨r1, (h 47 1 rfl).trans r2, (h 93 35 rfl).trans r3, fun k hk => ?_, r5.cg h⟩
  have e : J (1000 + k) = I (1000 + k) := h.row _ (fun i => cmp_fa i (by omega) (by omega))
  rw [e, h.row 120 (fun _ => rfl), h.row 121 (fun _ => rfl), h.row 122 (fun _ => rfl), h.row 123 (fun _ => rfl), h.row 124 (fun _ => rfl), h.row 125 (fun _ => rfl), h.row 126 (fun _ => rfl), h.row 127 (fun _ => rfl), h.row 128 (fun _ => rfl)]
  exact r4 k hk
theorem RC7.cg {sw : Bool} {I J : St} (h : eqc 7 I J) (r : RC7 sw I) : RC7 sw J := by
  unfold RC7 BK at r ⊢
  cases sw
  · show J 65 0 = _ ∧ _
    simp only [bkP] at r ⊢
    rw [h 65 0 rfl, h 93 54 rfl, h.row 66 (fun _ => rfl), h.row 67 (fun _ => rfl), h.row 68 (fun _ => rfl), h.row 69 (fun _ => rfl), h.row 70 (fun _ => rfl), h.row 134 (fun _ => rfl), h.row 135 (fun _ => rfl), h.row 136 (fun _ => rfl)]
    exact r
  · show J 71 0 = _ ∧ _
    simp only [bkP] at r ⊢
    rw [h 71 0 rfl, h 93 54 rfl, h.row 72 (fun _ => rfl), h.row 73 (fun _ => rfl), h.row 74 (fun _ => rfl), h.row 75 (fun _ => rfl), h.row 76 (fun _ => rfl), h.row 134 (fun _ => rfl), h.row 135 (fun _ => rfl), h.row 136 (fun _ => rfl)]
    exact r
/-- only the parts in cs were touched: what is to be shown of the relation behind it -/
theorem Rel.upd {G : GX} {f : Nat} {sw : Bool} {I J : St} (cs : List Nat) (hR : Rel G f sw I) (ha : Ag cs I J) (h0 : cs.contains 0 = false)
    (h1 : cs.contains 1 = true → RC1 J) (h2 : cs.contains 2 = true → RC2 J) (h3 : cs.contains 3 = true → RC3 J) (h4 : cs.contains 4 = true → RC4 J) (h5 : cs.contains 5 = true → RC5 J) (h6 : cs.contains 6 = true → RC6 f J) (h7 : cs.contains 7 = true → RC7 sw J) (h8 : cs.contains 8 = true → RC8 J) (h9 : cs.contains 9 = true → RC9 J) (h10 : cs.contains 10 = true → RC10 J) : Rel G f sw J := by
  obtain ⟨r0, r1, r2, r3, r4, r5, r6, r7, r8, r9, r10⟩ := hR
  refine ⟨r0.cg (ha.eqc h0), ?_, ?_, ?_, ?_, ?_, ?_, ?_, ?_, ?_, ?_⟩
  · cases q : cs.contains 1 with
    | true => exact h1 q
    | false => exact r1.cg (ha.eqc q)
  · cases q : cs.contains 2 with
    | true => exact h2 q
    | false => exact r2.cg (ha.eqc q)
  · cases q : cs.contains 3 with
    | true => exact h3 q
    | false => exact r3.cg (ha.eqc q)
  · cases q : cs.contains 4 with
    | true => exact h4 q
    | false => exact r4.cg (ha.eqc q)
  · cases q : cs.contains 5 with
    | true => exact h5 q
    | false => exact r5.cg (ha.eqc q)
  · cases q : cs.contains 6 with
    | true => exact h6 q
    | false => exact r6.cg (ha.eqc q)
  · cases q : cs.contains 7 with
    | true => exact h7 q
    | false => exact r7.cg (ha.eqc q)
  · cases q : cs.contains 8 with
    | true => exact h8 q
    | false => exact r8.cg (ha.eqc q)
  · cases q : cs.contains 9 with
    | true => exact h9 q
    | false => exact r9.cg (ha.eqc q)
  · cases q : cs.contains 10 with
    | true => exact h10 q
    | false => exact r10.cg (ha.eqc q)
theorem nof {A : Prop} : false = true → A := fun h => by cases h
theorem Rel.free {G : GX} {f : Nat} {sw : Bool} {I J : St} (hR : Rel G f sw I) (ha : Ag [11] I J) : Rel G f sw J := hR.upd [11] ha rfl nof nof nof nof nof nof nof nof nof nof
theorem Rel.rx {G : GX} {f : Nat} {sw : Bool} {I J : St} (hR : Rel G f sw I) {cs : List Nat} (ha : Ag cs I J) (h0 : cs.contains 0 = false) : RX G J := hR.1.cg (ha.eqc h0)
