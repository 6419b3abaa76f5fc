/-! locals as a row -/
def dr2 : Option Value → Option Value
  | some v => bif Nat.beq v.category 2 then none else some v
  | none => none
def vmap (f : Nat → Option Value → Option Value) : Nat → List (Option Value) → List (Option Value)
  | _, [] => []
  | j, o :: l => f j o :: vmap f (j + 1) l
def vset (vec : List (Option Value)) (i : Nat) (v : Value) : List (Option Value) := vmap (fun j o => cond (Nat.beq j i) (some v) (cond (Nat.beq (j + 1) i) (dr2 o) o)) 0 vec
def vset2 (vec : List (Option Value)) (i : Nat) (v : Value) : List (Option Value) := vmap (fun j o => cond (Nat.beq j i) (some v) (cond (Nat.beq j (i + 1)) none (cond (Nat.beq (j + 1) i) (dr2 o) o))) 0 vec
def vget (vec : List (Option Value)) (i : Nat) : Option Value := vec.getD i none
/-! a step, with what comes behind it -/
abbrev RK : Type := Option Value × WS
abbrev KT : Type := Nat → List (Option Value) → List Value → WS → Option RK
def kpu (k : KT) (pc : Nat) (vec : List (Option Value)) (S : WS) : Option (List Value) → Option RK
  | some st => k pc vec st S
  | none => none
def vldI (vec : List (Option Value)) (i : Nat) (st : List Value) : Option (List Value) := match vget vec i with
  | some (.int x) => some (.int x :: st)
  | _ => none
def vldL (vec : List (Option Value)) (i : Nat) (st : List Value) : Option (List Value) := match vget vec i with
  | some (.long x) => some (.long x :: st)
  | _ => none
def vldA (vec : List (Option Value)) (i : Nat) (st : List Value) : Option (List Value) := match vget vec i with
  | some (.ref x) => some (.ref x :: st)
  | _ => none
def kdv (f : Int32 → Int32 → Int32) (k : KT) (pc : Nat) (vec : List (Option Value)) (S : WS) : List Value → Option RK
  | .int y :: .int x :: r => cond (decide (y = 0)) none (k pc vec (.int (f x y) :: r) S)
  | _ => none
def ksI (k : KT) (nL pc : Nat) (vec : List (Option Value)) (i : Nat) (S : WS) : List Value → Option RK
  | .int x :: r => cond (Nat.blt i nL) (k pc (vset vec i (.int x)) r S) none
  | _ => none
def ksL (k : KT) (nL pc : Nat) (vec : List (Option Value)) (i : Nat) (S : WS) : List Value → Option RK
  | .long x :: r => cond (Nat.blt (i + 1) nL) (k pc (vset2 vec i (.long x)) r S) none
  | _ => none
def ksA (k : KT) (nL pc : Nat) (vec : List (Option Value)) (i : Nat) (S : WS) : List Value → Option RK
  | .ref x :: r => cond (Nat.blt i nL) (k pc (vset vec i (.ref x)) r S) none
  | _ => none
def kic (k : KT) (nL pc : Nat) (vec : List (Option Value)) (i : Nat) (n : Int) (st : List Value) (S : WS) : Option RK := match vget vec i with
  | some (.int x) => cond (Nat.blt i nL) (k pc (vset vec i (.int (x + Int32.ofInt n))) st S) none
  | _ => none
def ktg (k : KT) (pc : Nat) (off : Int) (vec : List (Option Value)) (st : List Value) (S : WS) : Option RK := cond (decide (0 ≤ (pc : Int) + off)) (k ((pc : Int) + off).toNat vec st S) none
def kif (cd : ClassFile.Cond) (off : Int) (k : KT) (pc : Nat) (vec : List (Option Value)) (S : WS) : List Value → Option RK
  | .int x :: r => cond (decide (0 ≤ (pc : Int) + off)) (cond (cmpB cd x 0) (k ((pc : Int) + off).toNat vec r S) (k (pc + 3) vec r S)) none
  | _ => none
def kcm (cd : ClassFile.Cond) (off : Int) (k : KT) (pc : Nat) (vec : List (Option Value)) (S : WS) : List Value → Option RK
  | .int y :: .int x :: r => cond (decide (0 ≤ (pc : Int) + off)) (cond (cmpB cd x y) (k ((pc : Int) + off).toNat vec r S) (k (pc + 3) vec r S)) none
  | _ => none
def ktb (k : KT) (pc : Nat) (vec : List (Option Value)) (r : List Value) (S : WS) (x : Int32) : Int → List Int → Option RK
  | _, [] => none
  | lo, o :: os => cond (decide (x.toInt = lo)) (ktg k pc o vec r S) (ktb k pc vec r S x (lo + 1) os)
def ktw (df lo hi : Int) (offs : Array Int) (k : KT) (pc : Nat) (vec : List (Option Value)) (S : WS) : List Value → Option RK
  | .int x :: r => cond (decide (x.toInt < lo) || decide (hi < x.toInt)) (ktg k pc df vec r S) (ktb k pc vec r S x lo offs.toList)
  | _ => none
def kgf (k0 ci sl : Nat) (k : KT) (pc : Nat) (vec : List (Option Value)) (S : WS) : List Value → Option RK
  | .ref a :: r => cond (Nat.ble k0 1) (cond (isO a ci) (cond (Nat.blt sl (flK ci).length) (k (pc + 3) vec (fvK ci sl a S :: r) S) none) none)
    (cond (Nat.beq k0 2) (cond (Nat.beq a 1000000 || Nat.beq a 1000001) (k (pc + 3) vec (.int 0 :: r) S) none)
    (cond (Nat.beq a 1000000) (k (pc + 3) vec (.ref 1000010 :: r) S) (cond (Nat.beq a 1000001) (k (pc + 3) vec (.ref 1000011 :: r) S) none)))
  | _ => none
/-- the field may be written here -/
def pfF (M : MD) (k0 ci sl : Nat) : Bool := match vwCl[ci]? with
  | none => false
  | some q => (bif (q.2.1 sl).2.2.2 then Nat.beq k0 0 && decide ((md_y M).name = "<init>") && decide ((q.2.1 sl).1 = clN (md_k M)) else true)
def tyN : FieldType → Nat
  | .int => 0
  | .boolean => 1
  | .long => 2
  | .object _ => 3
  | .array _ => 3
  | _ => 9
def kpv (k : KT) (pc : Nat) (vec : List (Option Value)) (r : List Value) (S : WS) (a sl kd ty : Nat) : Value → Option RK
  | .int x => cond (Nat.beq kd 0) (cond (Nat.beq ty 0) (k pc vec r (uI S a sl x)) (cond (decide (x &&& 1 = x)) (k pc vec r (uI S a sl x)) none)) none
  | .long x => cond (Nat.beq kd 1) (k pc vec r (uL S a sl x)) none
  | .ref x => cond (Nat.beq kd 2) (k pc vec r (uR S a sl x)) none
  | _ => none
def kpf (M : MD) (k0 ci sl : Nat) (k : KT) (pc : Nat) (vec : List (Option Value)) (S : WS) : List Value → Option RK
  | v :: .ref a :: r => cond (isO a ci) (cond (Nat.blt sl (flK ci).length) (cond (pfF M k0 ci sl) (kpv k (pc + 3) vec r S a sl ((flK ci).getD sl 9) (tyN (tyF ci sl)) v) none) none) none
  | _ => none
def kal (t : Nat) (k : KT) (pc : Nat) (vec : List (Option Value)) (S : WS) : List Value → Option RK
  | .int i :: .ref a :: r => cond (isA a t) (cond (inR i (alen a)) (k (pc + 1) vec (.int (S.1 a i.toNatClampNeg) :: r) S) none) none
  | _ => none
def kbl (k : KT) (pc : Nat) (vec : List (Option Value)) (S : WS) : List Value → Option RK
  | .int i :: .ref a :: r => cond (isA a 1 || isA a 2) (cond (inR i (alen a)) (k (pc + 1) vec (.int (S.1 a i.toNatClampNeg) :: r) S) none)
    (cond (Nat.blt a 200) none (cond ((Nat.beq a 1000010 || Nat.beq a 1000011) && inR i (lenS.getD (a - 1000010) 0)) (k (pc + 1) vec (.int ((bytS.getD (a - 1000010) []).getD i.toNatClampNeg 0) :: r) S) none))
  | _ => none
def kll (k : KT) (pc : Nat) (vec : List (Option Value)) (S : WS) : List Value → Option RK
  | .int i :: .ref a :: r => cond (isJ a) (cond (inR i (alen a)) (k (pc + 1) vec (.long (S.2.1 a i.toNatClampNeg) :: r) S) none) none
  | _ => none
def krl (k : KT) (pc : Nat) (vec : List (Option Value)) (S : WS) : List Value → Option RK
  | .int i :: .ref a :: r => cond (isF a && Nat.blt (shC a).2.1 2) (cond (inR i (alen a)) (k (pc + 1) vec (.ref (S.2.2 a i.toNatClampNeg) :: r) S) none) none
  | _ => none
def kas (t0 t1 : Nat) (k : KT) (pc : Nat) (vec : List (Option Value)) (S : WS) : List Value → Option RK
  | .int x :: .int i :: .ref a :: r => cond (isA a t0) (cond (inR i (alen a)) (k (pc + 1) vec r (uI S a i.toNatClampNeg (nar3 t0 x))) none) (cond (isA a t1) (cond (inR i (alen a)) (k (pc + 1) vec r (uI S a i.toNatClampNeg (nar3 t1 x))) none) none)
  | _ => none
def kls (k : KT) (pc : Nat) (vec : List (Option Value)) (S : WS) : List Value → Option RK
  | .long x :: .int i :: .ref a :: r => cond (isJ a) (cond (inR i (alen a)) (k (pc + 1) vec r (uL S a i.toNatClampNeg x)) none) none
  | _ => none
def krs (k : KT) (pc : Nat) (vec : List (Option Value)) (S : WS) : List Value → Option RK
  | .ref v :: .int i :: .ref a :: r => cond (isF a && ((Nat.beq (shC a).2.1 0 && isO v 6) || (Nat.beq (shC a).2.1 1 && isO v 3))) (cond (inR i (alen a)) (k (pc + 1) vec r (uR S a i.toNatClampNeg v)) none) none
  | _ => none
def kln (k : KT) (pc : Nat) (vec : List (Option Value)) (S : WS) : List Value → Option RK
  | .ref a :: r => cond (Nat.blt a 200) (cond ((Nat.beq (shC a).1 1 && Nat.blt (shC a).2.1 3) || (Nat.beq (shC a).1 2 || (Nat.beq (shC a).1 3 && Nat.blt (shC a).2.1 2))) (k (pc + 1) vec (.int (Int32.ofNat (alen a)) :: r) S) none)
    (cond (Nat.beq a 1000010 || Nat.beq a 1000011) (k (pc + 1) vec (.int (Int32.ofNat (lenS.getD (a - 1000010) 0)) :: r) S) none)
  | _ => none
def kcp (k : KT) (pc : Nat) (vec : List (Option Value)) (S : WS) : List Value → Option RK
  | .int n :: .int dp :: .ref b :: .int sp :: .ref a :: r => cond ((isA a 0 && isA b 0 || isA a 1 && isA b 1 && ((List.range (alen a)).map (S.1 a)).all (fun z => fits .byte (.int z))) && Nat.ble (r.map fun v => v.category).sum 8)
    (cond (!(decide (sp < 0)) && !(decide (dp < 0)) && !(decide (n < 0)) && Nat.ble (sp.toNatClampNeg + n.toNatClampNeg) (alen a) && Nat.ble (dp.toNatClampNeg + n.toNatClampNeg) (alen b))
      (k (pc + 3) vec r (uA S b (fun j => if dp.toNatClampNeg ≤ j ∧ j < dp.toNatClampNeg + n.toNatClampNeg then S.1 a (sp.toNatClampNeg + (j - dp.toNatClampNeg)) else S.1 b j))) none) none
  | _ => none
def kmx (mx : Bool) (k : KT) (pc : Nat) (vec : List (Option Value)) (S : WS) : List Value → Option RK
  | .int y :: .int x :: r => cond (Nat.ble (r.map fun v => v.category).sum 8) (k (pc + 3) vec (.int (bif mx then (if x < y then y else x) else (if y < x then y else x)) :: r) S) none
  | _ => none
def kld (k0 i sl : Nat) (k : KT) (pc n : Nat) (vec : List (Option Value)) (st : List Value) (S : WS) : Option RK := cond (Nat.beq k0 0) (k (pc + n) vec (.int (Int32.ofNat sl) :: st) S) (k (pc + n) vec (.ref (1000000 + i) :: st) S)
def kgs (k0 : Nat) (k : KT) (pc : Nat) (vec : List (Option Value)) (st : List Value) (S : WS) : Option RK := cond (Nat.beq k0 0) (k (pc + 3) vec (.int 1 :: st) S) (cond (Nat.beq k0 1) (k (pc + 3) vec (.retAddr 0 :: st) S) none)
/-- the answer's type -/
def rtN : Option FieldType → Nat
  | none => 0
  | some .int => 1
  | some .boolean => 2
  | some .long => 3
  | some (.object _) => 4
  | _ => 9
def krv (M : MD) (S : WS) : List Value → Option RK
  | [] => cond (Nat.beq (rtN (md_r M)) 0) (some (none, S)) none
  | _ => none
def kri (M : MD) (S : WS) : List Value → Option RK
  | [.int v] => cond (Nat.beq (rtN (md_r M)) 1) (some (some (.int v), S)) (cond (Nat.beq (rtN (md_r M)) 2) (cond (decide (v &&& 1 = v)) (some (some (.int v), S)) none) (match md_r M with
    | some ty => cond (decide (narrow ty (.int v) = .int v)) (some (some (.int v), S)) none
    | none => none))
  | _ => none
def krg (M : MD) (S : WS) : List Value → Option RK
  | [.long v] => cond (Nat.beq (rtN (md_r M)) 3) (some (some (.long v), S)) none
  | _ => none
def kra (M : MD) (S : WS) : List Value → Option RK
  | [.ref v] => cond (Nat.beq (rtN (md_r M)) 4) (some (some (.ref v), S)) none
  | _ => none
def rcK (b o : Nat) : Bool := cond (Nat.blt o 200) (Nat.beq (shC o).1 0 && (Nat.beq (shC o).2.1 (md_k (mdOf b)) && Nat.blt (shC o).2.1 13)) ((Nat.beq o 1000000 || Nat.beq o 1000001) && strB b)
abbrev EV' : Type := Nat → List Value → WS → Option RK
def kbd (k : KT) (pc : Nat) (vec : List (Option Value)) (rest : List Value) : Option RK → Option RK
  | some y => k pc vec (y.1.toList ++ rest) y.2
  | none => none
def kcv (ev : EV') (b np : Nat) (k : KT) (pc : Nat) (vec : List (Option Value)) (st : List Value) (S : WS) : Option RK := match st.drop np with
  | .ref o :: rest => cond (!(Nat.beq ((md_p (mdOf b)).getD 4 0) 1) && !(iniB b)) (cond (rcK b o) (cond (Nat.ble (rest.map fun v => v.category).sum 8) (kbd k (pc + 3) vec rest (ev b (.ref o :: (st.take np).reverse) S)) none) none) none
  | _ => none
def kcs (ev : EV') (k0 b np : Nat) (k : KT) (pc : Nat) (vec : List (Option Value)) (st : List Value) (S : WS) : Option RK := cond (Nat.blt k0 2 && Nat.beq ((md_p (mdOf b)).getD 4 0) 1 && Nat.ble np st.length && Nat.ble ((st.drop np).map fun v => v.category).sum 8) (kbd k (pc + 3) vec (st.drop np) (ev b (st.take np).reverse S)) none
def stepK (ev : EV') (M : MD) (x : IE) (pc : Nat) (vec : List (Option Value)) (st : List Value) (S : WS) (k : KT) : Option RK := match x with
  | (.iconst n, 1, _) => k (pc + 1) vec (.int (Int32.ofInt n) :: st) S
  | (.bipush n, 2, _) => k (pc + 2) vec (.int (Int8.ofInt n).toInt32 :: st) S
  | (.sipush n, 3, _) => k (pc + 3) vec (.int (Int16.ofInt n).toInt32 :: st) S
  | (.lconst n, 1, _) => k (pc + 1) vec (.long (Int64.ofNat (n : Nat)) :: st) S
  | (.iload_n i, 1, _) => kpu k (pc + 1) vec S (vldI vec i st)
  | (.iload i, 2, _) => kpu k (pc + 2) vec S (vldI vec i st)
  | (.lload_n i, 1, _) => kpu k (pc + 1) vec S (vldL vec i st)
  | (.lload i, 2, _) => kpu k (pc + 2) vec S (vldL vec i st)
  | (.aload_n i, 1, _) => kpu k (pc + 1) vec S (vldA vec i st)
  | (.aload i, 2, _) => kpu k (pc + 2) vec S (vldA vec i st)
  | (.istore_n i, 1, _) => ksI k (md_n M) (pc + 1) vec i S st
  | (.istore i, 2, _) => ksI k (md_n M) (pc + 2) vec i S st
  | (.lstore_n i, 1, _) => ksL k (md_n M) (pc + 1) vec i S st
  | (.lstore i, 2, _) => ksL k (md_n M) (pc + 2) vec i S st
  | (.astore_n i, 1, _) => ksA k (md_n M) (pc + 1) vec i S st
  | (.astore i, 2, _) => ksA k (md_n M) (pc + 2) vec i S st
  | (.iinc i n, 3, _) => kic k (md_n M) (pc + 3) vec i n st S
  | (.iadd, 1, _) => kpu k (pc + 1) vec S (b32 (fun x y => x + y) st)
  | (.isub, 1, _) => kpu k (pc + 1) vec S (b32 (fun x y => x - y) st)
  | (.imul, 1, _) => kpu k (pc + 1) vec S (b32 (fun x y => x * y) st)
  | (.iand, 1, _) => kpu k (pc + 1) vec S (b32 (fun x y => x &&& y) st)
  | (.ior, 1, _) => kpu k (pc + 1) vec S (b32 (fun x y => x ||| y) st)
  | (.ixor, 1, _) => kpu k (pc + 1) vec S (b32 (fun x y => x ^^^ y) st)
  | (.ishl, 1, _) => kpu k (pc + 1) vec S (b32 (fun x y => x <<< (y &&& 31)) st)
  | (.ishr, 1, _) => kpu k (pc + 1) vec S (b32 (fun x y => x >>> (y &&& 31)) st)
  | (.iushr, 1, _) => kpu k (pc + 1) vec S (b32 (fun x y => (x.toUInt32 >>> (y.toUInt32 &&& Int32.toUInt32 31)).toInt32) st)
  | (.idiv, 1, _) => kdv (fun x y => x / y) k (pc + 1) vec S st
  | (.irem, 1, _) => kdv (fun x y => x - x / y * y) k (pc + 1) vec S st
  | (.ineg, 1, _) => kpu k (pc + 1) vec S (u32 (fun x => -x) st)
  | (.i2b, 1, _) => kpu k (pc + 1) vec S (u32 (fun x => x.toInt8.toInt32) st)
  | (.i2c, 1, _) => kpu k (pc + 1) vec S (u32 (fun x => (x.toUInt32 % 65536).toInt32) st)
  | (.ladd, 1, _) => kpu k (pc + 1) vec S (b64 (fun x y => x + y) st)
  | (.lsub, 1, _) => kpu k (pc + 1) vec S (b64 (fun x y => x - y) st)
  | (.lmul, 1, _) => kpu k (pc + 1) vec S (b64 (fun x y => x * y) st)
  | (.lor, 1, _) => kpu k (pc + 1) vec S (b64 (fun x y => x ||| y) st)
  | (.lshl, 1, _) => kpu k (pc + 1) vec S (s64 (fun x y => x <<< (y.toInt64 &&& 63)) st)
  | (.lcmp, 1, _) => kpu k (pc + 1) vec S (c64 st)
  | (.i2l, 1, _) => kpu k (pc + 1) vec S (i2L st)
  | (.l2i, 1, _) => kpu k (pc + 1) vec S (l2I st)
  | (.dup, 1, _) => kpu k (pc + 1) vec S (dup1 st)
  | (.dup2, 1, _) => kpu k (pc + 1) vec S (dup2 st)
  | (.pop, 1, _) => kpu k (pc + 1) vec S (pop1 st)
  | (.goto off, 3, _) => ktg k pc off vec st S
  | (.ifCond cd off, 3, _) => kif cd off k pc vec S st
  | (.if_icmp cd off, 3, _) => kcm cd off k pc vec S st
  | (.tableswitch df lo hi offs, _, _) => ktw df lo hi offs k pc vec S st
  | (.getfield _, 3, k0, ci, sl, _) => kgf k0 ci sl k pc vec S st
  | (.putfield _, 3, k0, ci, sl, _) => kpf M k0 ci sl k pc vec S st
  | (.iaload, 1, _) => kal 0 k pc vec S st
  | (.baload, 1, _) => kbl k pc vec S st
  | (.laload, 1, _) => kll k pc vec S st
  | (.aaload, 1, _) => krl k pc vec S st
  | (.iastore, 1, _) => kas 0 0 k pc vec S st
  | (.bastore, 1, _) => kas 1 2 k pc vec S st
  | (.lastore, 1, _) => kls k pc vec S st
  | (.aastore, 1, _) => krs k pc vec S st
  | (.arraylength, 1, _) => kln k pc vec S st
  | (.ldc _, 2, k0, i, sl, _) => kld k0 i sl k pc 2 vec st S
  | (.ldc_w _, 3, _, _, sl, _) => k (pc + 3) vec (.int (Int32.ofNat sl) :: st) S
  | (.ldc2_w _, 3, _, _, sl, _) => k (pc + 3) vec (.long (Int64.ofNat sl) :: st) S
  | (.getstatic _, 3, k0, _, _, _) => kgs k0 k pc vec st S
  | (.invokestatic _, 3, 3, _) => kcp k pc vec S st
  | (.invokestatic _, 3, 4, _) => kmx true k pc vec S st
  | (.invokestatic _, 3, 5, _) => kmx false k pc vec S st
  | (.return_, 1, _) => krv M S st
  | (.ireturn, 1, _) => kri M S st
  | (.lreturn, 1, _) => krg M S st
  | (.areturn, 1, _) => kra M S st
  | (.invokevirtual _, 3, _, b, _, _) => kcv ev b ((md_p (mdOf b)).getD 5 0) k pc vec st S
  | (.invokestatic _, 3, k0, b, _, _) => kcs ev k0 b ((md_p (mdOf b)).getD 5 0) k pc vec st S
  | _ => none
noncomputable def evK (ev : EV') (M : MD) (n : Nat) : KT :=
  Nat.rec (fun _ _ _ _ => none) (fun _ ih pc vec st S => match md_i M pc with
    | none => none
    | some x => stepK ev M x pc vec st S ih) n
def vec0 (n : Nat) (av : List Value) : List (Option Value) := (List.range n).map (fun i => lvget (lv_args 0 av) i)
noncomputable def evSM (fu : Nat) (d : Nat) : EV' :=
  Nat.rec (fun _ _ _ => none) (fun _ ih b av S => bif Nat.ble (lg_sl av).length (md_n (mdOf b)) then evK ih (mdOf b) fu 0 (vec0 (md_n (mdOf b)) av) [] S else none) d
theorem evK_s {ev : EV'} {M : MD} (n pc : Nat) (vec : List (Option Value)) (st : List Value) (S : WS) : evK ev M (n + 1) pc vec st S = (match md_i M pc with
    | none => none
    | some x => stepK ev M x pc vec st S (evK ev M n)) := rfl
theorem evSM_s (fu d b : Nat) (av : List Value) (S : WS) : evSM fu (d + 1) b av S = (bif Nat.ble (lg_sl av).length (md_n (mdOf b)) then evK (evSM fu d) (mdOf b) fu 0 (vec0 (md_n (mdOf b)) av) [] S else none) := rfl
