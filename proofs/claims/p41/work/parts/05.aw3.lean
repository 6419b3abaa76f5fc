/-- the machine's facts in a method M -/
def MF (X : CX) (M : MD) (R : Room) (p : Program) (s : State) (m : MethodId) (args : Array Value) (meth : Method) (c : Code) (A : Nat → Prop) : Prop :=
  p.tables.exec = Jvm.exec ∧ c.code = md_c M ∧ meth.sig.returnType = md_r M ∧ c.maxLocals = md_n M ∧ s.vm.findClass (clN (md_k M)) = some m.cls ∧ (∀ w ∈ TS, w.before args s = true) ∧ meth.locks = false ∧ EV X A s ∧ (∀ q, s.heap.size ≤ q → A q) ∧ meth.name = (md_y M).name ∧ (∀ (pc : Nat) (x : IE), md_i M pc = some x → decode (md_c M) pc = .ok (x.1, x.2.1) ∧ chkI (md_k M) x = true) ∧ 1 ≤ R.frames ∧ 80 ≤ R.locals
/-- the judgement: from this abstract state on the machine comes to Q -/
def AW (X : CX) (l : Launch) (M : MD) (R : Room) (p : Program) (e : Env) (s : State) (m : MethodId) (args : Array Value) (below : List Frame) (meth : Method) (c : Code) (A : Nat → Prop) (Q : State → Prop) (n0 : Nat) (ad0 : Nat → Nat) (pc : Nat) (lv : List (Nat × Value)) (st : List Value) (w : List AE) (a b : Nat) : Prop :=
  ∀ (H : Heap) (locs : List Loc) (ls : Array Slot) (ad : Nat → Nat), (∀ k, (k < n0 ∨ w.length ≤ k) → ad k = ad0 k) → n0 ≤ w.length → exOk X ad → va_P (X.1, X.2.1) vwCl (rwW X ad w) H → va_D A (rwW X ad w) → va_S A s.heap H locs → lv_has ls (md_n M) (lv.map (lvc ad)) →
    W p l e R s m args below meth c H locs a b Q (F0 m pc ls (st.map (avc ad)))
abbrev ST : Type := Nat × List (Nat × Value) × List Value × List AE × Nat × Nat
abbrev pu (pc n : Nat) (lv : List (Nat × Value)) (w : List AE) (o : Option (List Value)) : Option ST := o.map (fun st' => (pc + n, lv, st', w, 0, 0))
def b32 (f : Int32 → Int32 → Int32) : List Value → Option (List Value)
  | .int y :: .int x :: r => some (.int (f x y) :: r)
  | _ => none
def b32n (f : Int32 → Int32 → Int32) : List Value → Option (List Value)
  | .int y :: .int x :: r => if y = 0 then none else some (.int (f x y) :: r)
  | _ => none
def u32 (f : Int32 → Int32) : List Value → Option (List Value)
  | .int x :: r => some (.int (f x) :: r)
  | _ => none
def b64 (f : Int64 → Int64 → Int64) : List Value → Option (List Value)
  | .long y :: .long x :: r => some (.long (f x y) :: r)
  | _ => none
def s64 (f : Int64 → Int32 → Int64) : List Value → Option (List Value)
  | .int y :: .long x :: r => some (.long (f x y) :: r)
  | _ => none
def c64 : List Value → Option (List Value)
  | .long y :: .long x :: r => some (.int (lg_cmp x y) :: r)
  | _ => none
def i2L : List Value → Option (List Value)
  | .int x :: r => some (.long x.toInt64 :: r)
  | _ => none
def l2I : List Value → Option (List Value)
  | .long x :: r => some (.int x.toInt32 :: r)
  | _ => none
def dup1 : List Value → Option (List Value)
  | v :: r => if v.category = 1 then some (v :: v :: r) else none
  | _ => none
def pop1 : List Value → Option (List Value)
  | v :: r => if v.category = 1 then some r else none
  | _ => none
def dup2 : List Value → Option (List Value)
  | v :: r => if v.category = 2 then some (v :: v :: r) else (match r with
    | u :: r' => if u.category = 1 ∧ v.category = 1 then some (v :: u :: v :: u :: r') else none
    | [] => none)
  | _ => none
def ldI (lv : List (Nat × Value)) (i : Nat) (st : List Value) : Option (List Value) := match lvget lv i with
  | some (.int x) => some (.int x :: st)
  | _ => none
def ldL (lv : List (Nat × Value)) (i : Nat) (st : List Value) : Option (List Value) := match lvget lv i with
  | some (.long x) => some (.long x :: st)
  | _ => none
def ldA (lv : List (Nat × Value)) (i : Nat) (st : List Value) : Option (List Value) := match lvget lv i with
  | some (.ref x) => some (.ref x :: st)
  | _ => none
def stI (nL : Nat) (pc n : Nat) (lv : List (Nat × Value)) (i : Nat) (st : List Value) (w : List AE) : Option ST := match st with
  | .int x :: r => if i < nL then some (pc + n, lvset lv i (.int x), r, w, 0, 0) else none
  | _ => none
def stL (nL : Nat) (pc n : Nat) (lv : List (Nat × Value)) (i : Nat) (st : List Value) (w : List AE) : Option ST := match st with
  | .long x :: r => if i + 1 < nL then some (pc + n, lvset2 lv i (.long x), r, w, 0, 0) else none
  | _ => none
def stA (nL : Nat) (pc n : Nat) (lv : List (Nat × Value)) (i : Nat) (st : List Value) (w : List AE) : Option ST := match st with
  | .ref x :: r => if i < nL then some (pc + n, lvset lv i (.ref x), r, w, 0, 0) else none
  | _ => none
def icS (nL : Nat) (pc : Nat) (lv : List (Nat × Value)) (i : Nat) (n : Int) (st : List Value) (w : List AE) : Option ST := match lvget lv i with
  | some (.int x) => if i < nL then some (pc + 3, lvset lv i (.int (x + Int32.ofInt n)), st, w, 0, 0) else none
  | _ => none
def tgS (pc : Nat) (off : Int) (lv : List (Nat × Value)) (st : List Value) (w : List AE) : Option ST :=
  if 0 ≤ (pc : Int) + off then some (((pc : Int) + off).toNat, lv, st, w, 0, 0) else none
def cmpB : ClassFile.Cond → Int32 → Int32 → Bool
  | .eq, x, y => decide (x = y)
  | .ne, x, y => !decide (x = y)
  | .lt, x, y => decide (x < y)
  | .ge, x, y => decide (y ≤ x)
  | .gt, x, y => decide (y < x)
  | .le, x, y => decide (x ≤ y)
def ifS (cd : ClassFile.Cond) (off : Int) (pc : Nat) (lv : List (Nat × Value)) (st : List Value) (w : List AE) : Option ST := if 0 ≤ (pc : Int) + off then (match st with
  | .int x :: r => cond (cmpB cd x 0) (some (((pc : Int) + off).toNat, lv, r, w, 0, 0)) (some (pc + 3, lv, r, w, 0, 0))
  | _ => none) else none
def icmpS (cd : ClassFile.Cond) (off : Int) (pc : Nat) (lv : List (Nat × Value)) (st : List Value) (w : List AE) : Option ST := if 0 ≤ (pc : Int) + off then (match st with
  | .int y :: .int x :: r => cond (cmpB cd x y) (some (((pc : Int) + off).toNat, lv, r, w, 0, 0)) (some (pc + 3, lv, r, w, 0, 0))
  | _ => none) else none
def tbS (df lo hi : Int) (offs : Array Int) (pc : Nat) (lv : List (Nat × Value)) (st : List Value) (w : List AE) : Option ST := match st with
  | .int x :: r => if x.toInt < lo ∨ hi < x.toInt then tgS pc df lv r w else (match offs[(x.toInt - lo).toNat]? with
    | some off => tgS pc off lv r w
    | none => none)
  | _ => none
def inR (i : Int32) (n : Nat) : Bool := !(decide (i < 0)) && Nat.blt i.toNatClampNeg n
def gfS (k ci sl : Nat) (pc : Nat) (lv : List (Nat × Value)) (st : List Value) (w : List AE) : Option ST := match st with
  | .ref a :: r =>
    bif Nat.ble k 1 then (match w[a]? with
      | some (.inr (.inr (.inr (cj, fs)))) => bif Nat.beq cj ci then (match fs[sl]? with
        | some v => some (pc + 3, lv, v :: r, w, 0, 0)
        | none => none) else none
      | _ => none)
    else bif Nat.beq k 2 then (bif Nat.beq a 1000000 || Nat.beq a 1000001 then some (pc + 3, lv, .int 0 :: r, w, 0, 0) else none)
    else (bif Nat.beq a 1000000 then some (pc + 3, lv, .ref 1000010 :: r, w, 0, 0) else bif Nat.beq a 1000001 then some (pc + 3, lv, .ref 1000011 :: r, w, 0, 0) else none)
  | _ => none
def pfOk (M : MD) (k ci sl : Nat) (v : Value) : Bool := (match vwCl[ci]? with
  | none => false
  | some q => (bif (q.2.1 sl).2.2.2 then Nat.beq k 0 && decide ((md_y M).name = "<init>") && decide ((q.2.1 sl).1 = clN (md_k M)) else true)) && decide (narrow (tyF ci sl) v = v) && fits (tyF ci sl) v
def pfS (M : MD) (k ci sl : Nat) (pc : Nat) (lv : List (Nat × Value)) (st : List Value) (w : List AE) : Option ST := match st with
  | v :: .ref a :: r => (match w[a]? with
      | some (.inr (.inr (.inr (cj, fs)))) => bif Nat.beq cj ci && Nat.blt sl fs.length && pfOk M k ci sl v then some (pc + 3, lv, r, w.set a (.inr (.inr (.inr (cj, fs.set sl v)))), 0, 0) else none
      | _ => none)
  | _ => none
def alS (t : Nat) (pc : Nat) (lv : List (Nat × Value)) (st : List Value) (w : List AE) : Option ST := match st with
  | .int i :: .ref a :: r => (match w[a]? with
      | some (.inl (u, l)) => bif Nat.beq u t && inR i l.length then some (pc + 1, lv, .int (l.getD i.toNatClampNeg 0) :: r, w, 0, 0) else none
      | _ => none)
  | _ => none
/-- baload: a byte or boolean row, or a text's bytes -/
def blS (pc : Nat) (lv : List (Nat × Value)) (st : List Value) (w : List AE) : Option ST := match st with
  | .int i :: .ref a :: r => (match w[a]? with
      | some (.inl (u, l)) => bif (Nat.beq u 1 || Nat.beq u 2) && inR i l.length then some (pc + 1, lv, .int (l.getD i.toNatClampNeg 0) :: r, w, 0, 0) else none
      | some _ => none
      | none => bif (Nat.beq a 1000010 || Nat.beq a 1000011) && inR i (lenS.getD (a - 1000010) 0) then some (pc + 1, lv, .int ((bytS.getD (a - 1000010) []).getD i.toNatClampNeg 0) :: r, w, 0, 0) else none)
  | _ => none
def llS (pc : Nat) (lv : List (Nat × Value)) (st : List Value) (w : List AE) : Option ST := match st with
  | .int i :: .ref a :: r => (match w[a]? with
      | some (.inr (.inl l)) => bif inR i l.length then some (pc + 1, lv, .long (l.getD i.toNatClampNeg 0) :: r, w, 0, 0) else none
      | _ => none)
  | _ => none
def rlS (pc : Nat) (lv : List (Nat × Value)) (st : List Value) (w : List AE) : Option ST := match st with
  | .int i :: .ref a :: r => (match w[a]? with
      | some (.inr (.inr (.inl (c, l)))) => bif inR i l.length && Nat.blt c 2 then some (pc + 1, lv, va_rf (l.getD i.toNatClampNeg none) :: r, w, 0, 0) else none
      | _ => none)
  | _ => none
def nar3 (t : Nat) (x : Int32) : Int32 := bif Nat.beq t 0 then x else bif Nat.beq t 1 then x.toInt8.toInt32 else x &&& 1
def asS (t0 t1 : Nat) (pc : Nat) (lv : List (Nat × Value)) (st : List Value) (w : List AE) : Option ST := match st with
  | .int x :: .int i :: .ref a :: r => (match w[a]? with
      | some (.inl (u, l)) => bif (Nat.beq u t0 || Nat.beq u t1) && inR i l.length then some (pc + 1, lv, r, w.set a (.inl (u, l.set i.toNatClampNeg (nar3 u x))), 0, 0) else none
      | _ => none)
  | _ => none
def lsS (pc : Nat) (lv : List (Nat × Value)) (st : List Value) (w : List AE) : Option ST := match st with
  | .long x :: .int i :: .ref a :: r => (match w[a]? with
      | some (.inr (.inl l)) => bif inR i l.length then some (pc + 1, lv, r, w.set a (.inr (.inl (l.set i.toNatClampNeg x))), 0, 0) else none
      | _ => none)
  | _ => none
def rsS (pc : Nat) (lv : List (Nat × Value)) (st : List Value) (w : List AE) : Option ST := match st with
  | .ref v :: .int i :: .ref a :: r => (match w[a]?, w[v]? with
      | some (.inr (.inr (.inl (c, l)))), some (.inr (.inr (.inr (ci, _)))) => bif inR i l.length && ((Nat.beq c 0 && Nat.beq ci 6) || (Nat.beq c 1 && Nat.beq ci 3)) then some (pc + 1, lv, r, w.set a (.inr (.inr (.inl (c, l.set i.toNatClampNeg (some v))))), 0, 0) else none
      | _, _ => none)
  | _ => none
def lnS (pc : Nat) (lv : List (Nat × Value)) (st : List Value) (w : List AE) : Option ST := match st with
  | .ref a :: r => (match w[a]? with
      | some (.inl (u, l)) => bif Nat.blt u 3 then some (pc + 1, lv, .int (Int32.ofNat l.length) :: r, w, 0, 0) else none
      | some (.inr (.inl l)) => some (pc + 1, lv, .int (Int32.ofNat l.length) :: r, w, 0, 0)
      | some (.inr (.inr (.inl (c, l)))) => bif Nat.blt c 2 then some (pc + 1, lv, .int (Int32.ofNat l.length) :: r, w, 0, 0) else none
      | some _ => none
      | none => bif Nat.beq a 1000010 || Nat.beq a 1000011 then some (pc + 1, lv, .int (Int32.ofNat (lenS.getD (a - 1000010) 0)) :: r, w, 0, 0) else none)
  | _ => none
def okN (w : List AE) (lv : List (Nat × Value)) (st : List Value) : Bool := Nat.blt w.length 1000000 && w.all (oke w.length (w.length + 1)) && lv.all (fun q => okv w.length (w.length + 1) q.2) && st.all (okv w.length (w.length + 1))
def nwS (ci : Nat) (pc : Nat) (lv : List (Nat × Value)) (st : List Value) (w : List AE) : Option ST :=
  bif okN w lv st && Nat.blt ci 13 then some (pc + 3, lv, .ref w.length :: st, w ++ [.inr (.inr (.inr (ci, dflV ci)))], 1, (dflV ci).length) else none
def naS (t : ArrayType) (pc : Nat) (lv : List (Nat × Value)) (st : List Value) (w : List AE) : Option ST := match st with
  | .int n :: r => bif okN w lv r && !(decide (n < 0)) && Nat.ble n.toNatClampNeg 100000 then (match t with
      | .int => some (pc + 2, lv, .ref w.length :: r, w ++ [.inl (0, List.replicate n.toNatClampNeg 0)], 1, n.toNatClampNeg)
      | .byte => some (pc + 2, lv, .ref w.length :: r, w ++ [.inl (1, List.replicate n.toNatClampNeg 0)], 1, n.toNatClampNeg)
      | .boolean => some (pc + 2, lv, .ref w.length :: r, w ++ [.inl (2, List.replicate n.toNatClampNeg 0)], 1, n.toNatClampNeg)
      | .long => some (pc + 2, lv, .ref w.length :: r, w ++ [.inr (.inl (List.replicate n.toNatClampNeg 0))], 1, n.toNatClampNeg)
      | _ => none) else none
  | _ => none
def nqS (ci : Nat) (pc : Nat) (lv : List (Nat × Value)) (st : List Value) (w : List AE) : Option ST := match st with
  | .int n :: r => bif okN w lv r && !(decide (n < 0)) && Nat.ble n.toNatClampNeg 100000 then (bif Nat.beq ci 6 then some (pc + 3, lv, .ref w.length :: r, w ++ [.inr (.inr (.inl (0, List.replicate n.toNatClampNeg none)))], 1, n.toNatClampNeg) else bif Nat.beq ci 3 then some (pc + 3, lv, .ref w.length :: r, w ++ [.inr (.inr (.inl (1, List.replicate n.toNatClampNeg none)))], 1, n.toNatClampNeg) else none) else none
  | _ => none
def ldS (k i sl : Nat) (pc n : Nat) (lv : List (Nat × Value)) (st : List Value) (w : List AE) : Option ST :=
  bif Nat.beq k 0 then some (pc + n, lv, .int (Int32.ofNat sl) :: st, w, 0, 0) else some (pc + n, lv, .ref (1000000 + i) :: st, w, 0, 0)
def gsS (k : Nat) (pc : Nat) (lv : List (Nat × Value)) (st : List Value) (w : List AE) : Option ST :=
  bif Nat.beq k 0 then some (pc + 3, lv, .int 1 :: st, w, 0, 0) else bif Nat.beq k 1 then some (pc + 3, lv, .retAddr 0 :: st, w, 0, 0) else none
def cpL (l l' : List Int32) (sp dp n : Nat) : List Int32 := (List.range l'.length).map (fun k => if dp ≤ k ∧ k < dp + n then l.getD (sp + (k - dp)) 0 else l'.getD k 0)
def cpS (pc : Nat) (lv : List (Nat × Value)) (st : List Value) (w : List AE) : Option ST := match st with
  | .int n :: .int dp :: .ref b :: .int sp :: .ref a :: r => (match w[a]?, w[b]? with
      | some (.inl (u, l)), some (.inl (u', l')) => bif Nat.beq u u' && Nat.blt u 2 && !(decide (sp < 0)) && !(decide (dp < 0)) && !(decide (n < 0)) && Nat.ble (sp.toNatClampNeg + n.toNatClampNeg) l.length && Nat.ble (dp.toNatClampNeg + n.toNatClampNeg) l'.length && (Nat.beq u 0 || l.all (fun z => fits .byte (.int z))) && Nat.ble (r.map fun v => v.category).sum 8 then some (pc + 3, lv, r, w.set b (.inl (u', cpL l l' sp.toNatClampNeg dp.toNatClampNeg n.toNatClampNeg)), 0, 0) else none
      | _, _ => none)
  | _ => none
def mxS (mx : Bool) (pc : Nat) (lv : List (Nat × Value)) (st : List Value) (w : List AE) : Option ST := match st with
  | .int y :: .int x :: r => bif Nat.ble (r.map fun v => v.category).sum 8 then some (pc + 3, lv, .int (bif mx then (if x < y then y else x) else (if y < x then y else x)) :: r, w, 0, 0) else none
  | _ => none
def oiS (pc : Nat) (lv : List (Nat × Value)) (st : List Value) (w : List AE) : Option ST := match st with
  | .ref _ :: r => bif Nat.ble (r.map fun v => v.category).sum 8 then some (pc + 3, lv, r, w, 0, 0) else none
  | _ => none
/-- one instruction, but calls of our own methods and answers -/
def stepI (M : MD) (x : IE) (pc : Nat) (lv : List (Nat × Value)) (st : List Value) (w : List AE) : Option ST := match x with
  | (.iconst n, 1, _) => pu pc 1 lv w (some (.int (Int32.ofInt n) :: st))
  | (.bipush n, 2, _) => pu pc 2 lv w (some (.int (Int8.ofInt n).toInt32 :: st))
  | (.sipush n, 3, _) => pu pc 3 lv w (some (.int (Int16.ofInt n).toInt32 :: st))
  | (.lconst n, 1, _) => pu pc 1 lv w (some (.long (Int64.ofNat (n : Nat)) :: st))
  | (.iload_n k, 1, _) => pu pc 1 lv w (ldI lv k st)
  | (.iload k, 2, _) => pu pc 2 lv w (ldI lv k st)
  | (.lload_n k, 1, _) => pu pc 1 lv w (ldL lv k st)
  | (.lload k, 2, _) => pu pc 2 lv w (ldL lv k st)
  | (.aload_n k, 1, _) => pu pc 1 lv w (ldA lv k st)
  | (.aload k, 2, _) => pu pc 2 lv w (ldA lv k st)
  | (.istore_n k, 1, _) => stI (md_n M) pc 1 lv k st w
  | (.istore k, 2, _) => stI (md_n M) pc 2 lv k st w
  | (.lstore_n k, 1, _) => stL (md_n M) pc 1 lv k st w
  | (.lstore k, 2, _) => stL (md_n M) pc 2 lv k st w
  | (.astore_n k, 1, _) => stA (md_n M) pc 1 lv k st w
  | (.astore k, 2, _) => stA (md_n M) pc 2 lv k st w
  | (.iinc k n, 3, _) => icS (md_n M) pc lv k n st w
  | (.iadd, 1, _) => pu pc 1 lv w (b32 (fun x y => x + y) st)
  | (.isub, 1, _) => pu pc 1 lv w (b32 (fun x y => x - y) st)
  | (.imul, 1, _) => pu pc 1 lv w (b32 (fun x y => x * y) st)
  | (.iand, 1, _) => pu pc 1 lv w (b32 (fun x y => x &&& y) st)
  | (.ior, 1, _) => pu pc 1 lv w (b32 (fun x y => x ||| y) st)
  | (.ixor, 1, _) => pu pc 1 lv w (b32 (fun x y => x ^^^ y) st)
  | (.ishl, 1, _) => pu pc 1 lv w (b32 (fun x y => x <<< (y &&& 31)) st)
  | (.ishr, 1, _) => pu pc 1 lv w (b32 (fun x y => x >>> (y &&& 31)) st)
  | (.iushr, 1, _) => pu pc 1 lv w (b32 (fun x y => (x.toUInt32 >>> (y.toUInt32 &&& Int32.toUInt32 31)).toInt32) st)
  | (.idiv, 1, _) => pu pc 1 lv w (b32n (fun x y => x / y) st)
  | (.irem, 1, _) => pu pc 1 lv w (b32n (fun x y => x - x / y * y) st)
  | (.ineg, 1, _) => pu pc 1 lv w (u32 (fun x => -x) st)
  | (.i2b, 1, _) => pu pc 1 lv w (u32 (fun x => x.toInt8.toInt32) st)
  | (.i2c, 1, _) => pu pc 1 lv w (u32 (fun x => (x.toUInt32 % 65536).toInt32) st)
  | (.ladd, 1, _) => pu pc 1 lv w (b64 (fun x y => x + y) st)
  | (.lsub, 1, _) => pu pc 1 lv w (b64 (fun x y => x - y) st)
  | (.lmul, 1, _) => pu pc 1 lv w (b64 (fun x y => x * y) st)
  | (.lor, 1, _) => pu pc 1 lv w (b64 (fun x y => x ||| y) st)
  | (.lshl, 1, _) => pu pc 1 lv w (s64 (fun x y => x <<< (y.toInt64 &&& 63)) st)
  | (.lcmp, 1, _) => pu pc 1 lv w (c64 st)
  | (.i2l, 1, _) => pu pc 1 lv w (i2L st)
  | (.l2i, 1, _) => pu pc 1 lv w (l2I st)
  | (.dup, 1, _) => pu pc 1 lv w (dup1 st)
  | (.dup2, 1, _) => pu pc 1 lv w (dup2 st)
  | (.pop, 1, _) => pu pc 1 lv w (pop1 st)
  | (.goto off, 3, _) => tgS pc off lv st w
  | (.ifCond cd off, 3, _) => ifS cd off pc lv st w
  | (.if_icmp cd off, 3, _) => icmpS cd off pc lv st w
  | (.tableswitch df lo hi offs, _, _) => tbS df lo hi offs pc lv st w
  | (.getfield _, 3, k, ci, sl, _) => gfS k ci sl pc lv st w
  | (.putfield _, 3, k, ci, sl, _) => pfS M k ci sl pc lv st w
  | (.iaload, 1, _) => alS 0 pc lv st w
  | (.baload, 1, _) => blS pc lv st w
  | (.laload, 1, _) => llS pc lv st w
  | (.aaload, 1, _) => rlS pc lv st w
  | (.iastore, 1, _) => asS 0 0 pc lv st w
  | (.bastore, 1, _) => asS 1 2 pc lv st w
  | (.lastore, 1, _) => lsS pc lv st w
  | (.aastore, 1, _) => rsS pc lv st w
  | (.arraylength, 1, _) => lnS pc lv st w
  | (.new _, 3, _, ci, _, _) => nwS ci pc lv st w
  | (.newarray t, 2, _) => naS t pc lv st w
  | (.anewarray _, 3, _, ci, _, _) => nqS ci pc lv st w
  | (.ldc _, 2, k, i, sl, _) => ldS k i sl pc 2 lv st w
  | (.ldc_w _, 3, _, _, sl, _) => pu pc 3 lv w (some (.int (Int32.ofNat sl) :: st))
  | (.ldc2_w _, 3, _, _, sl, _) => pu pc 3 lv w (some (.long (Int64.ofNat sl) :: st))
  | (.getstatic _, 3, k, _, _, _) => gsS k pc lv st w
  | (.invokestatic _, 3, 3, _) => cpS pc lv st w
  | (.invokestatic _, 3, 4, _) => mxS true pc lv st w
  | (.invokestatic _, 3, 5, _) => mxS false pc lv st w
  | (.invokespecial _, 3, 2, _) => oiS pc lv st w
  | _ => none
