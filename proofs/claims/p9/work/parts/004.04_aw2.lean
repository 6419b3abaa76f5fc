section
/-- what holds of the surroundings, in a state whose own cells are A -/
def EV (X : CX) (A : Nat → Prop) (U : State) : Prop :=
  va_K (X.1, X.2.1) vwCl (tysA X) U ∧ (∀ w ∈ nestW, va_Nw w U) ∧ va_AO RX6 U ∧ va_AO RX3 U ∧ vk_R RX7 29 txS0 (X.2.2.2.1 0) U ∧ vk_R RX7 87 txS1 (X.2.2.2.1 1) U ∧
  vk_S 2 lenS bytS X.2.2.2.1 X.2.2.2.2.1 A U U.heap ∧ va_Z "java/lang/String" "COMPACT_STRINGS" "Z" (.int 1) A U U.heap ∧ va_Z "jdk/internal/util/Preconditions" "SIOOBE_FORMATTER" "Ljava/util/function/BiFunction;" (va_rf (if X.2.2.2.2.2 = 0 then none else some (X.2.2.2.2.2 - 1))) A U U.heap
def exOk (X : CX) (ad : Nat → Nat) : Prop := (∀ i, i < 2 → ad (1000000 + i) = X.2.2.2.1 i) ∧ (∀ i, i < 2 → ad (1000010 + i) = X.2.2.2.2.1 i) ∧ ad 1000020 = X.2.2.2.2.2
def isNest : Cond → Bool
  | .fieldLinkNest _ _ _ _ _ _ => true
  | .methodLinkNest _ _ _ _ => true
  | _ => false
theorem nestW_ok : nestW.all isNest = true := by decide +kernel
theorem nest_warm {s U : State} (hW : s.WarmedH U.vm) (h : ∀ w ∈ nestW, va_Nw w s) : ∀ w ∈ nestW, va_Nw w U := by
  intro w hw
  have h1 := List.all_eq_true.mp nestW_ok w hw
  have h2 := h w hw
  cases w with
  | fieldLinkNest a i b n d h => exact va_Nw.warmF hW h2
  | methodLinkNest a i x h => exact va_Nw.warmM hW h2
  | _ => cases h1
theorem nest_same {s U : State} (hv : s.vm = U.vm) (h : ∀ w ∈ nestW, va_Nw w s) : ∀ w ∈ nestW, va_Nw w U := by
  intro w hw
  have h1 := List.all_eq_true.mp nestW_ok w hw
  have h2 := h w hw
  cases w with
  | fieldLinkNest a i b n d h => exact va_Nw.same rfl hv h2
  | methodLinkNest a i x h => exact va_Nw.same rfl hv h2
  | _ => cases h1
/-- the surroundings as a callee finds them -/
theorem EV.call {X : CX} {A B : Nat → Prop} {s U : State} {locs : List Loc} (h : EV X A s) (hW : s.WarmedH U.vm) (hS : va_S A s.heap U.heap locs) (hB : ∀ q, B q → A q) : EV X B U := by
  obtain ⟨h1, h2, h3, h4, h5, h6, h7, h8, h9⟩ := h
  exact ⟨va_K.moved hW.alike h1, nest_warm hW h2, va_AO.moved hW.alike h3, va_AO.moved hW.alike h4, vk_R.warm hW h5, vk_R.warm hW h6, ((vk_S.moved hW.alike h7).kept hS.2.1).narrow hB, ((va_Z.moved hW.alike h8).kept hS.2.1).narrow hB, ((va_Z.moved hW.alike h9).kept hS.2.1).narrow hB⟩
theorem EV.blind {X : CX} {A : Nat → Prop} {U V : State} (hv : U.vm = V.vm) (hh : V.heap = U.heap) (h : EV X A U) : EV X A V := by
  obtain ⟨h1, h2, h3, h4, h5, h6, h7, h8, h9⟩ := h
  have hA : U.vm.Alike V.vm := by rw [← hv]; exact Vm.Alike.refl U.vm
  refine ⟨va_K.moved hA h1, nest_same hv h2, va_AO.moved hA h3, va_AO.moved hA h4, vk_R.same hv.symm h5, vk_R.same hv.symm h6, ?_, ?_, ?_⟩
  · rw [hh]; exact vk_S.moved hA h7
  · rw [hh]; exact va_Z.moved hA h8
  · rw [hh]; exact va_Z.moved hA h9
/-- an instruction's pool entry is what the tables say -/
def chkI (c : Nat) (x : IE) : Bool := match x with
  | (.getfield idx, _, k, ci, sl, ps) =>
    bif Nat.beq k 0 then (match vwCl[ci]? with
      | none => false
      | some v => Nat.blt sl v.2.2 && tsB (ps) (Cond.fieldLink (clN c) idx (v.2.1 sl).1 (v.2.1 sl).2.1 (v.2.1 sl).2.2.1))
    else bif Nat.beq k 1 then (match vwCl[ci]? with
      | none => false
      | some v => Nat.blt sl v.2.2 && decide (nestW[ps]? = some (Cond.fieldLinkNest (clN c) idx (v.2.1 sl).1 (v.2.1 sl).2.1 (v.2.1 sl).2.2.1 RX11)))
    else bif Nat.beq k 2 then tsB (ps) (Cond.fieldLink (clN c) idx "java/lang/String" "coder" "B")
    else tsB (ps) (Cond.fieldLink (clN c) idx "java/lang/String" "value" "[B")
  | (.putfield idx, _, k, ci, sl, ps) =>
    bif Nat.beq k 0 then (match vwCl[ci]? with
      | none => false
      | some v => Nat.blt sl v.2.2 && tsB (ps) (Cond.fieldLink (clN c) idx (v.2.1 sl).1 (v.2.1 sl).2.1 (v.2.1 sl).2.2.1))
    else (match vwCl[ci]? with
      | none => false
      | some v => Nat.blt sl v.2.2 && decide (nestW[ps]? = some (Cond.fieldLinkNest (clN c) idx (v.2.1 sl).1 (v.2.1 sl).2.1 (v.2.1 sl).2.2.1 RX11)))
  | (.getstatic idx, _, k, _, _, ps) =>
    bif Nat.beq k 0 then tsB (ps) (Cond.fieldLink (clN c) idx "java/lang/String" "COMPACT_STRINGS" "Z")
    else bif Nat.beq k 1 then tsB (ps) (Cond.fieldLink (clN c) idx "jdk/internal/util/Preconditions" "SIOOBE_FORMATTER" "Ljava/util/function/BiFunction;")
    else true
  | (.new idx, _, k, ci, sl, ps) => (match vwCl[ci]? with
      | none => false
      | some v => tsB (k) (Cond.initialized v.1) && tsB (sl) (Cond.instantiable v.1 v.2.2) && tsB (ps) (Cond.classLink (clN c) idx v.1))
  | (.anewarray idx, _, _, ci, _, ps) => tsB (ps) (Cond.classLink (clN c) idx (clN ci))
  | (.newarray t, _, _, _, _, ps) => tsB (ps) (Cond.arrayClass (newarray.typeOf t))
  | (.ldc idx, _, k, i, sl, ps) => bif Nat.beq k 0 then tsB (ps) (Cond.constant (clN c) idx (Int32.ofNat sl)) else (Nat.beq c 7 && ((Nat.beq i 0 && Nat.beq idx 29) || (Nat.beq i 1 && Nat.beq idx 87)))
  | (.ldc_w idx, _, k, _, sl, ps) => Nat.beq k 0 && tsB (ps) (Cond.constant (clN c) idx (Int32.ofNat sl))
  | (.ldc2_w idx, _, _, _, sl, ps) => tsB (ps) (Cond.constantLong (clN c) idx (Int64.ofNat sl))
  | (.invokevirtual idx, _, k, b, _, ps) => bif Nat.beq k 0 then tsB (ps) (Cond.methodLink (clN c) idx (md_y (mdOf b))) else decide (nestW[ps]? = some (Cond.methodLinkNest (clN c) idx (md_y (mdOf b)) RX11))
  | (.invokestatic idx, _, k, b, _, ps) =>
    bif Nat.beq k 0 then tsB (ps) (Cond.methodLink (clN c) idx (md_y (mdOf b)))
    else bif Nat.beq k 1 then decide (nestW[ps]? = some (Cond.methodLinkNest (clN c) idx (md_y (mdOf b)) RX11))
    else bif Nat.beq k 3 then tsB (ps) (Cond.methodLink (clN c) idx arraycopyName)
    else bif Nat.beq k 4 then tsB (ps) (Cond.methodLink (clN c) idx Lib.Math.max.name)
    else tsB (ps) (Cond.methodLink (clN c) idx Lib.Math.min.name)
  | (.invokespecial idx, _, k, b, _, ps) =>
    bif Nat.beq k 0 then tsB (ps) (Cond.methodLink (clN c) idx (md_y (mdOf b)))
    else bif Nat.beq k 1 then decide (nestW[ps]? = some (Cond.methodLinkNest (clN c) idx (md_y (mdOf b)) RX11))
    else tsB (ps) (Cond.methodLink (clN c) idx objectInit)
  | _ => true
/-- a method is as the tables say: its bytes decode to its instructions, its words are there -/
def mdB (M : MD) : Bool :=
  (List.range (md_s M)).all (fun pc => match md_t M pc with
    | none => true
    | some x => decide (decode (md_c M) pc = .ok (x.1, x.2.1)) && chkI (md_k M) x)
  && tsB ((md_p M).getD 0 0) (Cond.code (md_y M) (md_c M) (md_n M) (md_r M))
  && (bif Nat.beq ((md_p M).getD 4 0) 1 then tsB ((md_p M).getD 1 0) (Cond.static (md_y M)) else tsB ((md_p M).getD 1 0) (Cond.instanceMethod (md_y M)))
  && (decide ((md_y M).name = "<init>") || Nat.beq ((md_p M).getD 4 0) 1 || tsB ((md_p M).getD 2 0) (Cond.selects (md_y M).cls (md_y M) (md_y M)))
  && tsB ((md_p M).getD 3 0) (Cond.initialized (md_y M).cls)
  && (plainName (md_y M).cls && decide ((parseMethodDescriptor (md_y M).desc).map (fun d => d.parameters.length) = some ((md_p M).getD 5 0))) && decide ((md_y M).cls = clN (md_k M)) && Nat.ble (md_n M) 60
  && decide ((md_y M).cls ≠ "java/lang/invoke/MethodHandle") && decide ((md_y M).cls ≠ "java/lang/invoke/VarHandle")
theorem mem_at {α : Type} {l : List α} {i : Nat} {x : α} (h : l[i]? = some x) : x ∈ l := List.mem_of_getElem? h
theorem md_at {M : MD} (h : mdB M = true) {pc : Nat} {x : IE} (hx : md_i M pc = some x) : decode (md_c M) pc = .ok (x.1, x.2.1) ∧ chkI (md_k M) x = true := by
  unfold mdB at h
  simp only [Bool.and_eq_true] at h
  have h1 := List.all_eq_true.mp h.1.1.1.1.1.1.1.1.1
  unfold md_i at hx
  cases hb : Nat.blt pc (md_s M) with
  | false => rw [hb] at hx; cases hx
  | true =>
    rw [hb] at hx
    have hx : md_t M pc = some x := hx
    have hlt : pc < md_s M := by
      have : Nat.ble (pc + 1) (md_s M) = true := hb
      exact Nat.le_of_ble_eq_true this
    have h2 := h1 pc (List.mem_range.mpr hlt)
    rw [hx] at h2
    simp only [Bool.and_eq_true, decide_eq_true_eq] at h2
    exact h2
theorem md_words {M : MD} (h : mdB M = true) : Cond.code (md_y M) (md_c M) (md_n M) (md_r M) ∈ TS ∧ Cond.initialized (md_y M).cls ∈ TS ∧ plainName (md_y M).cls = true ∧ (md_y M).cls = clN (md_k M) ∧ md_n M ≤ 60 ∧ (md_y M).cls ≠ "java/lang/invoke/MethodHandle" ∧ (md_y M).cls ≠ "java/lang/invoke/VarHandle" := by
  unfold mdB at h
  simp only [Bool.and_eq_true, decide_eq_true_eq] at h
  obtain ⟨⟨⟨⟨⟨⟨⟨⟨⟨-, h1⟩, -⟩, -⟩, h4⟩, h5⟩, h6⟩, h7⟩, h8⟩, h9⟩ := h
  exact ⟨tsB_in h1, tsB_in h4, h5.1, h6, Nat.le_of_ble_eq_true h7, h8, h9⟩
theorem md_par {M : MD} (h : mdB M = true) : (parseMethodDescriptor (md_y M).desc).map (fun d => d.parameters.length) = some ((md_p M).getD 5 0) := by
  unfold mdB at h
  simp only [Bool.and_eq_true, decide_eq_true_eq] at h
  obtain ⟨⟨⟨⟨⟨⟨⟨⟨⟨-, h1⟩, -⟩, -⟩, h4⟩, h5⟩, h6⟩, h7⟩, h8⟩, h9⟩ := h
  exact h5.2
theorem md_inst {M : MD} (h : mdB M = true) (hs : Nat.beq ((md_p M).getD 4 0) 1 = false) : Cond.instanceMethod (md_y M) ∈ TS ∧ ((md_y M).name = "<init>" ∨ Cond.selects (md_y M).cls (md_y M) (md_y M) ∈ TS) := by
  unfold mdB at h
  rw [hs] at h
  simp only [Bool.and_eq_true, decide_eq_true_eq, cond_false, Bool.or_false, Bool.or_eq_true] at h
  obtain ⟨⟨⟨⟨⟨⟨⟨⟨⟨-, -⟩, h2⟩, h3⟩, -⟩, -⟩, -⟩, -⟩, -⟩, -⟩ := h
  exact ⟨tsB_in h2, h3.imp id tsB_in⟩
theorem md_stat {M : MD} (h : mdB M = true) (hs : Nat.beq ((md_p M).getD 4 0) 1 = true) : Cond.static (md_y M) ∈ TS := by
  unfold mdB at h
  rw [hs] at h
  simp only [Bool.and_eq_true, decide_eq_true_eq, cond_true] at h
  obtain ⟨⟨⟨⟨⟨⟨⟨⟨⟨-, -⟩, h2⟩, -⟩, -⟩, -⟩, -⟩, -⟩, -⟩, -⟩ := h
  exact tsB_in h2
def wsOf (M : MD) : List Cond := .code (md_y M) (md_c M) (md_n M) (md_r M) :: TS
theorem wsOf_good {M : MD} (h : mdB M = true) : GoodIn TS (wsOf M) := by
  intro w hw
  have hm : w ∈ TS := by
    rcases List.mem_cons.mp hw with e | e
    · rw [e]; exact (md_words h).1
    · exact e
  exact ⟨hm, good_of_word (List.mem_filter.mp hm).2⟩
/-- the classes of the worlds: their words, their fields' types and names -/
theorem cl_ok {ci : Nat} {C : String} {T : u_T} {N : Nat} (h : vwCl[ci]? = some (C, T, N)) : (∀ w ∈ u_ws C T N, w ∈ TS) ∧ (∀ k, k < N → parseFieldDescriptor (T k).2.2.1 = some (tyF ci k)) ∧ (∀ a, a < N → ∀ b, b < N → a ≠ b → (T a).2.1 ≠ (T b).2.1) ∧ (∀ j, j < N → defaultValue (tyF ci j) = vp_V (dflV ci) j) ∧ N = (dflV ci).length := by
  match ci, h with
  | 0, h => cases h; exact ⟨inT0, tyX0_ok, nmX0, by decide +kernel, rfl⟩
  | 1, h => cases h; exact ⟨inT1, tyX1_ok, nmX1, by decide +kernel, rfl⟩
  | 2, h => cases h; exact ⟨inT2, tyX2_ok, nmX2, by decide +kernel, rfl⟩
  | 3, h => cases h; exact ⟨inT3, tyX3_ok, nmX3, by decide +kernel, rfl⟩
  | 4, h => cases h; exact ⟨inT4, tyX4_ok, nmX4, by decide +kernel, rfl⟩
  | 5, h => cases h; exact ⟨inT5, tyX5_ok, nmX5, by decide +kernel, rfl⟩
  | 6, h => cases h; exact ⟨inT6, tyX6_ok, nmX6, by decide +kernel, rfl⟩
  | 7, h => cases h; exact ⟨inT7, tyX7_ok, nmX7, by decide +kernel, rfl⟩
  | 8, h => cases h; exact ⟨inT8, tyX8_ok, nmX8, by decide +kernel, rfl⟩
  | 9, h => cases h; exact ⟨inT9, tyX9_ok, nmX9, by decide +kernel, rfl⟩
  | 10, h => cases h; exact ⟨inT10, tyX10_ok, nmX10, by decide +kernel, rfl⟩
  | 11, h => cases h; exact ⟨inT11, tyX11_ok, nmX11, by decide +kernel, rfl⟩
  | 12, h => cases h; exact ⟨inT12, tyX12_ok, nmX12, by decide +kernel, rfl⟩
  | n + 13, h => cases h
end
section
/-- the machine's facts in a method M -/
def MF (X : CX) (M : MD) (R : Room) (p : Program) (s : State) (m : MethodId) (args : Array Value) (meth : Method) (c : Code) (A : Nat → Prop) : Prop :=
  p.tables.exec = Jvm.exec ∧ c.code = md_c M ∧ meth.sig.returnType = md_r M ∧ c.maxLocals = md_n M ∧ s.vm.findClass (clN (md_k M)) = some m.cls ∧ (∀ w ∈ TS, w.before args s = true) ∧ meth.locks = false ∧ EV X A s ∧ (∀ q, s.heap.size ≤ q → A q) ∧ meth.name = (md_y M).name ∧ (∀ (pc : Nat) (x : IE), md_i M pc = some x → decode (md_c M) pc = .ok (x.1, x.2.1) ∧ chkI (md_k M) x = true) ∧ 1 ≤ R.frames ∧ 80 ≤ R.locals
/-- the judgement: from this abstract state on the machine comes to Q -/
def AW (X : CX) (l : Launch) (M : MD) (R : Room) (p : Program) (e : Env) (s : State) (m : MethodId) (args : Array Value) (below : List Frame) (meth : Method) (c : Code) (A : Nat → Prop) (Q : State → Prop) (n0 : Nat) (ad0 : Nat → Nat) (pc : Nat) (lv : List (Nat × Value)) (st : List Value) (w : List AE) (a b : Nat) : Prop :=
  ∀ (H : Heap) (locs : List Loc) (ls : Array Slot) (ad : Nat → Nat), (∀ k, (k < n0 ∨ w.length ≤ k) → ad k = ad0 k) → n0 ≤ w.length → exOk X ad → va_P (X.1, X.2.1) vwCl (rwW X ad w) H → va_D A (rwW X ad w) → va_S A s.heap H locs → lv_has ls (md_n M) (lv.map (lvc ad)) →
    W p l e R s m args below meth c H locs a b Q (F0 m pc ls (st.map (avc ad)))
abbrev ST : Type := Nat × List (Nat × Value) × List Value × List AE × Nat × Nat
abbrev pu (pc n : Nat) (lv : List (Nat × Value)) (w : List AE) (o : Option (List Value)) : Option ST := o.map (fun st' => (pc + n, lv, st', w, 0, 0))
def b32 (f : Int32 → Int32 → Int32) : List Value → Option (List Value)
  | .int y :: .int x :: r => some (.int (f x y) :: r)
  | _ => none
def b32n (f : Int32 → Int32 → Int32) : List Value → Option (List Value)
  | .int y :: .int x :: r => if y = 0 then none else some (.int (f x y) :: r)
  | _ => none
def u32 (f : Int32 → Int32) : List Value → Option (List Value)
  | .int x :: r => some (.int (f x) :: r)
  | _ => none
def b64 (f : Int64 → Int64 → Int64) : List Value → Option (List Value)
  | .long y :: .long x :: r => some (.long (f x y) :: r)
  | _ => none
def s64 (f : Int64 → Int32 → Int64) : List Value → Option (List Value)
  | .int y :: .long x :: r => some (.long (f x y) :: r)
  | _ => none
def c64 : List Value → Option (List Value)
  | .long y :: .long x :: r => some (.int (lg_cmp x y) :: r)
  | _ => none
def i2L : List Value → Option (List Value)
  | .int x :: r => some (.long x.toInt64 :: r)
  | _ => none
def l2I : List Value → Option (List Value)
  | .long x :: r => some (.int x.toInt32 :: r)
  | _ => none
def dup1 : List Value → Option (List Value)
  | v :: r => if v.category = 1 then some (v :: v :: r) else none
  | _ => none
def pop1 : List Value → Option (List Value)
  | v :: r => if v.category = 1 then some r else none
  | _ => none
def dup2 : List Value → Option (List Value)
  | v :: r => if v.category = 2 then some (v :: v :: r) else (match r with
    | u :: r' => if u.category = 1 ∧ v.category = 1 then some (v :: u :: v :: u :: r') else none
    | [] => none)
  | _ => none
def ldI (lv : List (Nat × Value)) (i : Nat) (st : List Value) : Option (List Value) := match lvget lv i with
  | some (.int x) => some (.int x :: st)
  | _ => none
def ldL (lv : List (Nat × Value)) (i : Nat) (st : List Value) : Option (List Value) := match lvget lv i with
  | some (.long x) => some (.long x :: st)
  | _ => none
def ldA (lv : List (Nat × Value)) (i : Nat) (st : List Value) : Option (List Value) := match lvget lv i with
  | some (.ref x) => some (.ref x :: st)
  | _ => none
def stI (nL : Nat) (pc n : Nat) (lv : List (Nat × Value)) (i : Nat) (st : List Value) (w : List AE) : Option ST := match st with
  | .int x :: r => if i < nL then some (pc + n, lvset lv i (.int x), r, w, 0, 0) else none
  | _ => none
def stL (nL : Nat) (pc n : Nat) (lv : List (Nat × Value)) (i : Nat) (st : List Value) (w : List AE) : Option ST := match st with
  | .long x :: r => if i + 1 < nL then some (pc + n, lvset2 lv i (.long x), r, w, 0, 0) else none
  | _ => none
def stA (nL : Nat) (pc n : Nat) (lv : List (Nat × Value)) (i : Nat) (st : List Value) (w : List AE) : Option ST := match st with
  | .ref x :: r => if i < nL then some (pc + n, lvset lv i (.ref x), r, w, 0, 0) else none
  | _ => none
def icS (nL : Nat) (pc : Nat) (lv : List (Nat × Value)) (i : Nat) (n : Int) (st : List Value) (w : List AE) : Option ST := match lvget lv i with
  | some (.int x) => if i < nL then some (pc + 3, lvset lv i (.int (x + Int32.ofInt n)), st, w, 0, 0) else none
  | _ => none
def tgS (pc : Nat) (off : Int) (lv : List (Nat × Value)) (st : List Value) (w : List AE) : Option ST :=
  if 0 ≤ (pc : Int) + off then some (((pc : Int) + off).toNat, lv, st, w, 0, 0) else none
def cmpB : ClassFile.Cond → Int32 → Int32 → Bool
  | .eq, x, y => decide (x = y)
  | .ne, x, y => !decide (x = y)
  | .lt, x, y => decide (x < y)
  | .ge, x, y => decide (y ≤ x)
  | .gt, x, y => decide (y < x)
  | .le, x, y => decide (x ≤ y)
def ifS (cd : ClassFile.Cond) (off : Int) (pc : Nat) (lv : List (Nat × Value)) (st : List Value) (w : List AE) : Option ST := if 0 ≤ (pc : Int) + off then (match st with
  | .int x :: r => cond (cmpB cd x 0) (some (((pc : Int) + off).toNat, lv, r, w, 0, 0)) (some (pc + 3, lv, r, w, 0, 0))
  | _ => none) else none
def icmpS (cd : ClassFile.Cond) (off : Int) (pc : Nat) (lv : List (Nat × Value)) (st : List Value) (w : List AE) : Option ST := if 0 ≤ (pc : Int) + off then (match st with
  | .int y :: .int x :: r => cond (cmpB cd x y) (some (((pc : Int) + off).toNat, lv, r, w, 0, 0)) (some (pc + 3, lv, r, w, 0, 0))
  | _ => none) else none
def tbS (df lo hi : Int) (offs : Array Int) (pc : Nat) (lv : List (Nat × Value)) (st : List Value) (w : List AE) : Option ST := match st with
  | .int x :: r => if x.toInt < lo ∨ hi < x.toInt then tgS pc df lv r w else (match offs[(x.toInt - lo).toNat]? with
    | some off => tgS pc off lv r w
    | none => none)
  | _ => none
def inR (i : Int32) (n : Nat) : Bool := !(decide (i < 0)) && Nat.blt i.toNatClampNeg n
def gfS (k ci sl : Nat) (pc : Nat) (lv : List (Nat × Value)) (st : List Value) (w : List AE) : Option ST := match st with
  | .ref a :: r =>
    bif Nat.ble k 1 then (match w[a]? with
      | some (.inr (.inr (.inr (cj, fs)))) => bif Nat.beq cj ci then (match fs[sl]? with
        | some v => some (pc + 3, lv, v :: r, w, 0, 0)
        | none => none) else none
      | _ => none)
    else bif Nat.beq k 2 then (bif Nat.beq a 1000000 || Nat.beq a 1000001 then some (pc + 3, lv, .int 0 :: r, w, 0, 0) else none)
    else (bif Nat.beq a 1000000 then some (pc + 3, lv, .ref 1000010 :: r, w, 0, 0) else bif Nat.beq a 1000001 then some (pc + 3, lv, .ref 1000011 :: r, w, 0, 0) else none)
  | _ => none
def pfOk (M : MD) (k ci sl : Nat) (v : Value) : Bool := (match vwCl[ci]? with
  | none => false
  | some q => (bif (q.2.1 sl).2.2.2 then Nat.beq k 0 && decide ((md_y M).name = "<init>") && decide ((q.2.1 sl).1 = clN (md_k M)) else true)) && decide (narrow (tyF ci sl) v = v) && fits (tyF ci sl) v
def pfS (M : MD) (k ci sl : Nat) (pc : Nat) (lv : List (Nat × Value)) (st : List Value) (w : List AE) : Option ST := match st with
  | v :: .ref a :: r => (match w[a]? with
      | some (.inr (.inr (.inr (cj, fs)))) => bif Nat.beq cj ci && Nat.blt sl fs.length && pfOk M k ci sl v then some (pc + 3, lv, r, w.set a (.inr (.inr (.inr (cj, fs.set sl v)))), 0, 0) else none
      | _ => none)
  | _ => none
def alS (t : Nat) (pc : Nat) (lv : List (Nat × Value)) (st : List Value) (w : List AE) : Option ST := match st with
  | .int i :: .ref a :: r => (match w[a]? with
      | some (.inl (u, l)) => bif Nat.beq u t && inR i l.length then some (pc + 1, lv, .int (l.getD i.toNatClampNeg 0) :: r, w, 0, 0) else none
      | _ => none)
  | _ => none
/-- baload: a byte or boolean row, or a text's bytes -/
def blS (pc : Nat) (lv : List (Nat × Value)) (st : List Value) (w : List AE) : Option ST := match st with
  | .int i :: .ref a :: r => (match w[a]? with
      | some (.inl (u, l)) => bif (Nat.beq u 1 || Nat.beq u 2) && inR i l.length then some (pc + 1, lv, .int (l.getD i.toNatClampNeg 0) :: r, w, 0, 0) else none
      | some _ => none
      | none => bif (Nat.beq a 1000010 || Nat.beq a 1000011) && inR i (lenS.getD (a - 1000010) 0) then some (pc + 1, lv, .int ((bytS.getD (a - 1000010) []).getD i.toNatClampNeg 0) :: r, w, 0, 0) else none)
  | _ => none
def llS (pc : Nat) (lv : List (Nat × Value)) (st : List Value) (w : List AE) : Option ST := match st with
  | .int i :: .ref a :: r => (match w[a]? with
      | some (.inr (.inl l)) => bif inR i l.length then some (pc + 1, lv, .long (l.getD i.toNatClampNeg 0) :: r, w, 0, 0) else none
      | _ => none)
  | _ => none
def rlS (pc : Nat) (lv : List (Nat × Value)) (st : List Value) (w : List AE) : Option ST := match st with
  | .int i :: .ref a :: r => (match w[a]? with
      | some (.inr (.inr (.inl (c, l)))) => bif inR i l.length && Nat.blt c 2 then some (pc + 1, lv, va_rf (l.getD i.toNatClampNeg none) :: r, w, 0, 0) else none
      | _ => none)
  | _ => none
def nar3 (t : Nat) (x : Int32) : Int32 := bif Nat.beq t 0 then x else bif Nat.beq t 1 then x.toInt8.toInt32 else x &&& 1
def asS (t0 t1 : Nat) (pc : Nat) (lv : List (Nat × Value)) (st : List Value) (w : List AE) : Option ST := match st with
  | .int x :: .int i :: .ref a :: r => (match w[a]? with
      | some (.inl (u, l)) => bif (Nat.beq u t0 || Nat.beq u t1) && inR i l.length then some (pc + 1, lv, r, w.set a (.inl (u, l.set i.toNatClampNeg (nar3 u x))), 0, 0) else none
      | _ => none)
  | _ => none
def lsS (pc : Nat) (lv : List (Nat × Value)) (st : List Value) (w : List AE) : Option ST := match st with
  | .long x :: .int i :: .ref a :: r => (match w[a]? with
      | some (.inr (.inl l)) => bif inR i l.length then some (pc + 1, lv, r, w.set a (.inr (.inl (l.set i.toNatClampNeg x))), 0, 0) else none
      | _ => none)
  | _ => none
def rsS (pc : Nat) (lv : List (Nat × Value)) (st : List Value) (w : List AE) : Option ST := match st with
  | .ref v :: .int i :: .ref a :: r => (match w[a]?, w[v]? with
      | some (.inr (.inr (.inl (c, l)))), some (.inr (.inr (.inr (ci, _)))) => bif inR i l.length && ((Nat.beq c 0 && Nat.beq ci 6) || (Nat.beq c 1 && Nat.beq ci 3)) then some (pc + 1, lv, r, w.set a (.inr (.inr (.inl (c, l.set i.toNatClampNeg (some v))))), 0, 0) else none
      | _, _ => none)
  | _ => none
def lnS (pc : Nat) (lv : List (Nat × Value)) (st : List Value) (w : List AE) : Option ST := match st with
  | .ref a :: r => (match w[a]? with
      | some (.inl (u, l)) => bif Nat.blt u 3 then some (pc + 1, lv, .int (Int32.ofNat l.length) :: r, w, 0, 0) else none
      | some (.inr (.inl l)) => some (pc + 1, lv, .int (Int32.ofNat l.length) :: r, w, 0, 0)
      | some (.inr (.inr (.inl (c, l)))) => bif Nat.blt c 2 then some (pc + 1, lv, .int (Int32.ofNat l.length) :: r, w, 0, 0) else none
      | some _ => none
      | none => bif Nat.beq a 1000010 || Nat.beq a 1000011 then some (pc + 1, lv, .int (Int32.ofNat (lenS.getD (a - 1000010) 0)) :: r, w, 0, 0) else none)
  | _ => none
def okN (w : List AE) (lv : List (Nat × Value)) (st : List Value) : Bool := Nat.blt w.length 1000000 && w.all (oke w.length (w.length + 1)) && lv.all (fun q => okv w.length (w.length + 1) q.2) && st.all (okv w.length (w.length + 1))
def nwS (ci : Nat) (pc : Nat) (lv : List (Nat × Value)) (st : List Value) (w : List AE) : Option ST :=
  bif okN w lv st && Nat.blt ci 13 then some (pc + 3, lv, .ref w.length :: st, w ++ [.inr (.inr (.inr (ci, dflV ci)))], 1, (dflV ci).length) else none
def naS (t : ArrayType) (pc : Nat) (lv : List (Nat × Value)) (st : List Value) (w : List AE) : Option ST := match st with
  | .int n :: r => bif okN w lv r && !(decide (n < 0)) && Nat.ble n.toNatClampNeg 100000 then (match t with
      | .int => some (pc + 2, lv, .ref w.length :: r, w ++ [.inl (0, List.replicate n.toNatClampNeg 0)], 1, n.toNatClampNeg)
      | .byte => some (pc + 2, lv, .ref w.length :: r, w ++ [.inl (1, List.replicate n.toNatClampNeg 0)], 1, n.toNatClampNeg)
      | .boolean => some (pc + 2, lv, .ref w.length :: r, w ++ [.inl (2, List.replicate n.toNatClampNeg 0)], 1, n.toNatClampNeg)
      | .long => some (pc + 2, lv, .ref w.length :: r, w ++ [.inr (.inl (List.replicate n.toNatClampNeg 0))], 1, n.toNatClampNeg)
      | _ => none) else none
  | _ => none
def nqS (ci : Nat) (pc : Nat) (lv : List (Nat × Value)) (st : List Value) (w : List AE) : Option ST := match st with
  | .int n :: r => bif okN w lv r && !(decide (n < 0)) && Nat.ble n.toNatClampNeg 100000 then (bif Nat.beq ci 6 then some (pc + 3, lv, .ref w.length :: r, w ++ [.inr (.inr (.inl (0, List.replicate n.toNatClampNeg none)))], 1, n.toNatClampNeg) else bif Nat.beq ci 3 then some (pc + 3, lv, .ref w.length :: r, w ++ [.inr (.inr (.inl (1, List.replicate n.toNatClampNeg none)))], 1, n.toNatClampNeg) else none) else none
  | _ => none
def ldS (k i sl : Nat) (pc n : Nat) (lv : List (Nat × Value)) (st : List Value) (w : List AE) : Option ST :=
  bif Nat.beq k 0 then some (pc + n, lv, .int (Int32.ofNat sl) :: st, w, 0, 0) else some (pc + n, lv, .ref (1000000 + i) :: st, w, 0, 0)
def gsS (k : Nat) (pc : Nat) (lv : List (Nat × Value)) (st : List Value) (w : List AE) : Option ST :=
  bif Nat.beq k 0 then some (pc + 3, lv, .int 1 :: st, w, 0, 0) else bif Nat.beq k 1 then some (pc + 3, lv, .retAddr 0 :: st, w, 0, 0) else none
def cpL (l l' : List Int32) (sp dp n : Nat) : List Int32 := (List.range l'.length).map (fun k => if dp ≤ k ∧ k < dp + n then l.getD (sp + (k - dp)) 0 else l'.getD k 0)
def cpS (pc : Nat) (lv : List (Nat × Value)) (st : List Value) (w : List AE) : Option ST := match st with
  | .int n :: .int dp :: .ref b :: .int sp :: .ref a :: r => (match w[a]?, w[b]? with
      | some (.inl (u, l)), some (.inl (u', l')) => bif Nat.beq u u' && Nat.blt u 2 && !(decide (sp < 0)) && !(decide (dp < 0)) && !(decide (n < 0)) && Nat.ble (sp.toNatClampNeg + n.toNatClampNeg) l.length && Nat.ble (dp.toNatClampNeg + n.toNatClampNeg) l'.length && (Nat.beq u 0 || l.all (fun z => fits .byte (.int z))) && Nat.ble (r.map fun v => v.category).sum 8 then some (pc + 3, lv, r, w.set b (.inl (u', cpL l l' sp.toNatClampNeg dp.toNatClampNeg n.toNatClampNeg)), 0, 0) else none
      | _, _ => none)
  | _ => none
def mxS (mx : Bool) (pc : Nat) (lv : List (Nat × Value)) (st : List Value) (w : List AE) : Option ST := match st with
  | .int y :: .int x :: r => bif Nat.ble (r.map fun v => v.category).sum 8 then some (pc + 3, lv, .int (bif mx then (if x < y then y else x) else (if y < x then y else x)) :: r, w, 0, 0) else none
  | _ => none
def oiS (pc : Nat) (lv : List (Nat × Value)) (st : List Value) (w : List AE) : Option ST := match st with
  | .ref _ :: r => bif Nat.ble (r.map fun v => v.category).sum 8 then some (pc + 3, lv, r, w, 0, 0) else none
  | _ => none
/-- one instruction, but calls of our own methods and answers -/
def stepI (M : MD) (x : IE) (pc : Nat) (lv : List (Nat × Value)) (st : List Value) (w : List AE) : Option ST := match x with
  | (.iconst n, 1, _) => pu pc 1 lv w (some (.int (Int32.ofInt n) :: st))
  | (.bipush n, 2, _) => pu pc 2 lv w (some (.int (Int8.ofInt n).toInt32 :: st))
  | (.sipush n, 3, _) => pu pc 3 lv w (some (.int (Int16.ofInt n).toInt32 :: st))
  | (.lconst n, 1, _) => pu pc 1 lv w (some (.long (Int64.ofNat (n : Nat)) :: st))
  | (.iload_n k, 1, _) => pu pc 1 lv w (ldI lv k st)
  | (.iload k, 2, _) => pu pc 2 lv w (ldI lv k st)
  | (.lload_n k, 1, _) => pu pc 1 lv w (ldL lv k st)
  | (.lload k, 2, _) => pu pc 2 lv w (ldL lv k st)
  | (.aload_n k, 1, _) => pu pc 1 lv w (ldA lv k st)
  | (.aload k, 2, _) => pu pc 2 lv w (ldA lv k st)
  | (.istore_n k, 1, _) => stI (md_n M) pc 1 lv k st w
  | (.istore k, 2, _) => stI (md_n M) pc 2 lv k st w
  | (.lstore_n k, 1, _) => stL (md_n M) pc 1 lv k st w
  | (.lstore k, 2, _) => stL (md_n M) pc 2 lv k st w
  | (.astore_n k, 1, _) => stA (md_n M) pc 1 lv k st w
  | (.astore k, 2, _) => stA (md_n M) pc 2 lv k st w
  | (.iinc k n, 3, _) => icS (md_n M) pc lv k n st w
  | (.iadd, 1, _) => pu pc 1 lv w (b32 (fun x y => x + y) st)
  | (.isub, 1, _) => pu pc 1 lv w (b32 (fun x y => x - y) st)
  | (.imul, 1, _) => pu pc 1 lv w (b32 (fun x y => x * y) st)
  | (.iand, 1, _) => pu pc 1 lv w (b32 (fun x y => x &&& y) st)
  | (.ior, 1, _) => pu pc 1 lv w (b32 (fun x y => x ||| y) st)
  | (.ixor, 1, _) => pu pc 1 lv w (b32 (fun x y => x ^^^ y) st)
  | (.ishl, 1, _) => pu pc 1 lv w (b32 (fun x y => x <<< (y &&& 31)) st)
  | (.ishr, 1, _) => pu pc 1 lv w (b32 (fun x y => x >>> (y &&& 31)) st)
  | (.iushr, 1, _) => pu pc 1 lv w (b32 (fun x y => (x.toUInt32 >>> (y.toUInt32 &&& Int32.toUInt32 31)).toInt32) st)
  | (.idiv, 1, _) => pu pc 1 lv w (b32n (fun x y => x / y) st)
  | (.irem, 1, _) => pu pc 1 lv w (b32n (fun x y => x - x / y * y) st)
  | (.ineg, 1, _) => pu pc 1 lv w (u32 (fun x => -x) st)
  | (.i2b, 1, _) => pu pc 1 lv w (u32 (fun x => x.toInt8.toInt32) st)
  | (.i2c, 1, _) => pu pc 1 lv w (u32 (fun x => (x.toUInt32 % 65536).toInt32) st)
  | (.ladd, 1, _) => pu pc 1 lv w (b64 (fun x y => x + y) st)
  | (.lsub, 1, _) => pu pc 1 lv w (b64 (fun x y => x - y) st)
  | (.lmul, 1, _) => pu pc 1 lv w (b64 (fun x y => x * y) st)
  | (.lor, 1, _) => pu pc 1 lv w (b64 (fun x y => x ||| y) st)
  | (.lshl, 1, _) => pu pc 1 lv w (s64 (fun x y => x <<< (y.toInt64 &&& 63)) st)
  | (.lcmp, 1, _) => pu pc 1 lv w (c64 st)
  | (.i2l, 1, _) => pu pc 1 lv w (i2L st)
  | (.l2i, 1, _) => pu pc 1 lv w (l2I st)
  | (.dup, 1, _) => pu pc 1 lv w (dup1 st)
  | (.dup2, 1, _) => pu pc 1 lv w (dup2 st)
  | (.pop, 1, _) => pu pc 1 lv w (pop1 st)
  | (.goto off, 3, _) => tgS pc off lv st w
  | (.ifCond cd off, 3, _) => ifS cd off pc lv st w
  | (.if_icmp cd off, 3, _) => icmpS cd off pc lv st w
  | (.tableswitch df lo hi offs, _, _) => tbS df lo hi offs pc lv st w
  | (.getfield _, 3, k, ci, sl, _) => gfS k ci sl pc lv st w
  | (.putfield _, 3, k, ci, sl, _) => pfS M k ci sl pc lv st w
  | (.iaload, 1, _) => alS 0 pc lv st w
  | (.baload, 1, _) => blS pc lv st w
  | (.laload, 1, _) => llS pc lv st w
  | (.aaload, 1, _) => rlS pc lv st w
  | (.iastore, 1, _) => asS 0 0 pc lv st w
  | (.bastore, 1, _) => asS 1 2 pc lv st w
  | (.lastore, 1, _) => lsS pc lv st w
  | (.aastore, 1, _) => rsS pc lv st w
  | (.arraylength, 1, _) => lnS pc lv st w
  | (.new _, 3, _, ci, _, _) => nwS ci pc lv st w
  | (.newarray t, 2, _) => naS t pc lv st w
  | (.anewarray _, 3, _, ci, _, _) => nqS ci pc lv st w
  | (.ldc _, 2, k, i, sl, _) => ldS k i sl pc 2 lv st w
  | (.ldc_w _, 3, _, _, sl, _) => pu pc 3 lv w (some (.int (Int32.ofNat sl) :: st))
  | (.ldc2_w _, 3, _, _, sl, _) => pu pc 3 lv w (some (.long (Int64.ofNat sl) :: st))
  | (.getstatic _, 3, k, _, _, _) => gsS k pc lv st w
  | (.invokestatic _, 3, 3, _) => cpS pc lv st w
  | (.invokestatic _, 3, 4, _) => mxS true pc lv st w
  | (.invokestatic _, 3, 5, _) => mxS false pc lv st w
  | (.invokespecial _, 3, 2, _) => oiS pc lv st w
  | _ => none
end
section
section SO
variable {X : CX} {l : Launch} {M : MD} {R : Room} {p : Program} {e : Env} {s : State} {m : MethodId} {args : Array Value} {below : List Frame} {meth : Method} {c : Code} {A : Nat → Prop} {Q : State → Prop} {n0 : Nat} {ad0 : Nat → Nat} {pc : Nat} {lv : List (Nat × Value)} {st : List Value} {w : List AE} {a b : Nat} {z : ST}
theorem pu_sp {n : Nat} {o : Option (List Value)} (h : pu pc n lv w o = some z) : ∃ st', o = some st' ∧ z = (pc + n, lv, st', w, 0, 0) := by
  cases o with
  | none => cases h
  | some st' => exact ⟨st', rfl, (Option.some.inj h).symm⟩
theorem b32_sp {f : Int32 → Int32 → Int32} {st' : List Value} (h : b32 f st = some st') : ∃ x y r, st = .int y :: .int x :: r ∧ st' = .int (f x y) :: r := by
  unfold b32 at h
  split at h
  · exact ⟨_, _, _, rfl, (Option.some.inj h).symm⟩
  · cases h
theorem b32n_sp {f : Int32 → Int32 → Int32} {st' : List Value} (h : b32n f st = some st') : ∃ x y r, st = .int y :: .int x :: r ∧ st' = .int (f x y) :: r ∧ ¬ y = 0 := by
  unfold b32n at h
  split at h
  · split at h
    · cases h
    · rename_i hy; exact ⟨_, _, _, rfl, (Option.some.inj h).symm, hy⟩
  · cases h
theorem u32_sp {f : Int32 → Int32} {st' : List Value} (h : u32 f st = some st') : ∃ x r, st = .int x :: r ∧ st' = .int (f x) :: r := by
  unfold u32 at h
  split at h
  · exact ⟨_, _, rfl, (Option.some.inj h).symm⟩
  · cases h
theorem b64_sp {f : Int64 → Int64 → Int64} {st' : List Value} (h : b64 f st = some st') : ∃ x y r, st = .long y :: .long x :: r ∧ st' = .long (f x y) :: r := by
  unfold b64 at h
  split at h
  · exact ⟨_, _, _, rfl, (Option.some.inj h).symm⟩
  · cases h
theorem s64_sp {f : Int64 → Int32 → Int64} {st' : List Value} (h : s64 f st = some st') : ∃ x y r, st = .int y :: .long x :: r ∧ st' = .long (f x y) :: r := by
  unfold s64 at h
  split at h
  · exact ⟨_, _, _, rfl, (Option.some.inj h).symm⟩
  · cases h
theorem c64_sp {st' : List Value} (h : c64 st = some st') : ∃ x y r, st = .long y :: .long x :: r ∧ st' = .int (lg_cmp x y) :: r := by
  unfold c64 at h
  split at h
  · exact ⟨_, _, _, rfl, (Option.some.inj h).symm⟩
  · cases h
theorem i2L_sp {st' : List Value} (h : i2L st = some st') : ∃ x r, st = .int x :: r ∧ st' = .long x.toInt64 :: r := by
  unfold i2L at h
  split at h
  · exact ⟨_, _, rfl, (Option.some.inj h).symm⟩
  · cases h
theorem l2I_sp {st' : List Value} (h : l2I st = some st') : ∃ x r, st = .long x :: r ∧ st' = .int x.toInt32 :: r := by
  unfold l2I at h
  split at h
  · exact ⟨_, _, rfl, (Option.some.inj h).symm⟩
  · cases h
theorem ldI_sp {i : Nat} {st' : List Value} (h : ldI lv i st = some st') : ∃ x, lvget lv i = some (.int x) ∧ st' = .int x :: st := by
  unfold ldI at h
  split at h
  · exact ⟨_, by assumption, (Option.some.inj h).symm⟩
  · cases h
theorem ldL_sp {i : Nat} {st' : List Value} (h : ldL lv i st = some st') : ∃ x, lvget lv i = some (.long x) ∧ st' = .long x :: st := by
  unfold ldL at h
  split at h
  · exact ⟨_, by assumption, (Option.some.inj h).symm⟩
  · cases h
theorem ldA_sp {i : Nat} {st' : List Value} (h : ldA lv i st = some st') : ∃ x, lvget lv i = some (.ref x) ∧ st' = .ref x :: st := by
  unfold ldA at h
  split at h
  · exact ⟨_, by assumption, (Option.some.inj h).symm⟩
  · cases h
abbrev AWn (X : CX) (l : Launch) (M : MD) (R : Room) (p : Program) (e : Env) (s : State) (m : MethodId) (args : Array Value) (below : List Frame) (meth : Method) (c : Code) (A : Nat → Prop) (Q : State → Prop) (n0 : Nat) (ad0 : Nat → Nat) (a b : Nat) (z : ST) : Prop := AW X l M R p e s m args below meth c A Q n0 ad0 z.1 z.2.1 z.2.2.1 z.2.2.2.1 (a + z.2.2.2.2.1) (b + z.2.2.2.2.2)
theorem so_push {n : Nat} {v : Value} {ins : Instr} (F : MF X M R p s m args meth c A) (hx : decode (md_c M) pc = .ok (ins, n)) (hv : ∀ ad, avc ad v = v)
    (row : ∀ (H : Heap) (locs : List Loc) (ls : Array Slot) (rest : List Value), W p l e R s m args below meth c H locs a b Q (F0 m (pc + n) ls (v :: rest)) → W p l e R s m args below meth c H locs a b Q (F0 m pc ls rest))
    (hs : pu pc n lv w (some (v :: st)) = some z) (h : AWn X l M R p e s m args below meth c A Q n0 ad0 a b z) : AW X l M R p e s m args below meth c A Q n0 ad0 pc lv st w a b := by
  obtain ⟨st', h1, rfl⟩ := pu_sp hs
  cases h1
  intro H locs ls ad g1 g2 g3 hP hD hS hl
  have k := h H locs ls ad g1 g2 g3 hP hD hS hl
  rw [List.map_cons, hv] at k
  exact row H locs ls _ k
theorem so_b32 {f : Int32 → Int32 → Int32}
    (row : ∀ (H : Heap) (locs : List Loc) (ls : Array Slot) (x y : Int32) (rest : List Value), W p l e R s m args below meth c H locs a b Q (F0 m (pc + 1) ls (.int (f x y) :: rest)) → W p l e R s m args below meth c H locs a b Q (F0 m pc ls (.int y :: .int x :: rest)))
    (hs : pu pc 1 lv w (b32 f st) = some z) (h : AWn X l M R p e s m args below meth c A Q n0 ad0 a b z) : AW X l M R p e s m args below meth c A Q n0 ad0 pc lv st w a b := by
  obtain ⟨st', h1, rfl⟩ := pu_sp hs
  obtain ⟨x, y, r, rfl, rfl⟩ := b32_sp h1
  intro H locs ls ad g1 g2 g3 hP hD hS hl
  exact row H locs ls x y _ (h H locs ls ad g1 g2 g3 hP hD hS hl)
theorem so_b32n {f : Int32 → Int32 → Int32}
    (row : ∀ (H : Heap) (locs : List Loc) (ls : Array Slot) (x y : Int32) (rest : List Value), ¬ y = 0 → W p l e R s m args below meth c H locs a b Q (F0 m (pc + 1) ls (.int (f x y) :: rest)) → W p l e R s m args below meth c H locs a b Q (F0 m pc ls (.int y :: .int x :: rest)))
    (hs : pu pc 1 lv w (b32n f st) = some z) (h : AWn X l M R p e s m args below meth c A Q n0 ad0 a b z) : AW X l M R p e s m args below meth c A Q n0 ad0 pc lv st w a b := by
  obtain ⟨st', h1, rfl⟩ := pu_sp hs
  obtain ⟨x, y, r, rfl, rfl, hy⟩ := b32n_sp h1
  intro H locs ls ad g1 g2 g3 hP hD hS hl
  exact row H locs ls x y _ hy (h H locs ls ad g1 g2 g3 hP hD hS hl)
theorem so_u32 {f : Int32 → Int32}
    (row : ∀ (H : Heap) (locs : List Loc) (ls : Array Slot) (x : Int32) (rest : List Value), W p l e R s m args below meth c H locs a b Q (F0 m (pc + 1) ls (.int (f x) :: rest)) → W p l e R s m args below meth c H locs a b Q (F0 m pc ls (.int x :: rest)))
    (hs : pu pc 1 lv w (u32 f st) = some z) (h : AWn X l M R p e s m args below meth c A Q n0 ad0 a b z) : AW X l M R p e s m args below meth c A Q n0 ad0 pc lv st w a b := by
  obtain ⟨st', h1, rfl⟩ := pu_sp hs
  obtain ⟨x, r, rfl, rfl⟩ := u32_sp h1
  intro H locs ls ad g1 g2 g3 hP hD hS hl
  exact row H locs ls x _ (h H locs ls ad g1 g2 g3 hP hD hS hl)
theorem so_b64 {f : Int64 → Int64 → Int64}
    (row : ∀ (H : Heap) (locs : List Loc) (ls : Array Slot) (x y : Int64) (rest : List Value), W p l e R s m args below meth c H locs a b Q (F0 m (pc + 1) ls (.long (f x y) :: rest)) → W p l e R s m args below meth c H locs a b Q (F0 m pc ls (.long y :: .long x :: rest)))
    (hs : pu pc 1 lv w (b64 f st) = some z) (h : AWn X l M R p e s m args below meth c A Q n0 ad0 a b z) : AW X l M R p e s m args below meth c A Q n0 ad0 pc lv st w a b := by
  obtain ⟨st', h1, rfl⟩ := pu_sp hs
  obtain ⟨x, y, r, rfl, rfl⟩ := b64_sp h1
  intro H locs ls ad g1 g2 g3 hP hD hS hl
  exact row H locs ls x y _ (h H locs ls ad g1 g2 g3 hP hD hS hl)
theorem so_s64 {f : Int64 → Int32 → Int64}
    (row : ∀ (H : Heap) (locs : List Loc) (ls : Array Slot) (x : Int64) (y : Int32) (rest : List Value), W p l e R s m args below meth c H locs a b Q (F0 m (pc + 1) ls (.long (f x y) :: rest)) → W p l e R s m args below meth c H locs a b Q (F0 m pc ls (.int y :: .long x :: rest)))
    (hs : pu pc 1 lv w (s64 f st) = some z) (h : AWn X l M R p e s m args below meth c A Q n0 ad0 a b z) : AW X l M R p e s m args below meth c A Q n0 ad0 pc lv st w a b := by
  obtain ⟨st', h1, rfl⟩ := pu_sp hs
  obtain ⟨x, y, r, rfl, rfl⟩ := s64_sp h1
  intro H locs ls ad g1 g2 g3 hP hD hS hl
  exact row H locs ls x y _ (h H locs ls ad g1 g2 g3 hP hD hS hl)
theorem so_ldI {n i : Nat}
    (row : ∀ (H : Heap) (locs : List Loc) (ls : Array Slot) (x : Int32) (rest : List Value), ls[i]? = some (.val (.int x)) → W p l e R s m args below meth c H locs a b Q (F0 m (pc + n) ls (.int x :: rest)) → W p l e R s m args below meth c H locs a b Q (F0 m pc ls rest))
    (hs : pu pc n lv w (ldI lv i st) = some z) (h : AWn X l M R p e s m args below meth c A Q n0 ad0 a b z) : AW X l M R p e s m args below meth c A Q n0 ad0 pc lv st w a b := by
  obtain ⟨st', h1, rfl⟩ := pu_sp hs
  obtain ⟨x, h2, rfl⟩ := ldI_sp h1
  intro H locs ls ad g1 g2 g3 hP hD hS hl
  exact row H locs ls x _ (lvget_at hl h2) (h H locs ls ad g1 g2 g3 hP hD hS hl)
theorem so_ldL {n i : Nat}
    (row : ∀ (H : Heap) (locs : List Loc) (ls : Array Slot) (x : Int64) (rest : List Value), ls[i]? = some (.val (.long x)) → W p l e R s m args below meth c H locs a b Q (F0 m (pc + n) ls (.long x :: rest)) → W p l e R s m args below meth c H locs a b Q (F0 m pc ls rest))
    (hs : pu pc n lv w (ldL lv i st) = some z) (h : AWn X l M R p e s m args below meth c A Q n0 ad0 a b z) : AW X l M R p e s m args below meth c A Q n0 ad0 pc lv st w a b := by
  obtain ⟨st', h1, rfl⟩ := pu_sp hs
  obtain ⟨x, h2, rfl⟩ := ldL_sp h1
  intro H locs ls ad g1 g2 g3 hP hD hS hl
  exact row H locs ls x _ (lvget_at hl h2) (h H locs ls ad g1 g2 g3 hP hD hS hl)
theorem so_ldA {n i : Nat}
    (row : ∀ (H : Heap) (locs : List Loc) (ls : Array Slot) (x : Nat) (rest : List Value), ls[i]? = some (.val (.ref x)) → W p l e R s m args below meth c H locs a b Q (F0 m (pc + n) ls (.ref x :: rest)) → W p l e R s m args below meth c H locs a b Q (F0 m pc ls rest))
    (hs : pu pc n lv w (ldA lv i st) = some z) (h : AWn X l M R p e s m args below meth c A Q n0 ad0 a b z) : AW X l M R p e s m args below meth c A Q n0 ad0 pc lv st w a b := by
  obtain ⟨st', h1, rfl⟩ := pu_sp hs
  obtain ⟨x, h2, rfl⟩ := ldA_sp h1
  intro H locs ls ad g1 g2 g3 hP hD hS hl
  exact row H locs ls (ad x) _ (lvget_at hl h2) (h H locs ls ad g1 g2 g3 hP hD hS hl)
theorem so_stI {n i : Nat}
    (row : ∀ (H : Heap) (locs : List Loc) (ls : Array Slot) (x : Int32) (rest : List Value) (lc lc' : List (Nat × Value)), lv_has ls (md_n M) lc → i < md_n M → (i, Value.int x) :: lc.filter (fun q => !(q.1 == i) && !(q.1 + 1 == i && q.2.category == 2)) = lc' → (∀ ls' : Array Slot, lv_has ls' (md_n M) lc' → W p l e R s m args below meth c H locs a b Q (F0 m (pc + n) ls' rest)) → W p l e R s m args below meth c H locs a b Q (F0 m pc ls (.int x :: rest)))
    (hs : stI (md_n M) pc n lv i st w = some z) (h : AWn X l M R p e s m args below meth c A Q n0 ad0 a b z) : AW X l M R p e s m args below meth c A Q n0 ad0 pc lv st w a b := by
  unfold stI at hs
  split at hs
  · split at hs
    · rename_i x r hi
      cases hs
      intro H locs ls ad g1 g2 g3 hP hD hS hl
      exact row H locs ls x _ _ _ hl hi (lvset_c (v := .int x)) (fun ls' hl' => h H locs ls' ad g1 g2 g3 hP hD hS hl')
    · cases hs
  · cases hs
theorem so_stL {n i : Nat}
    (row : ∀ (H : Heap) (locs : List Loc) (ls : Array Slot) (x : Int64) (rest : List Value) (lc lc' : List (Nat × Value)), lv_has ls (md_n M) lc → i + 1 < md_n M → (i, Value.long x) :: lc.filter (fun q => !(q.1 == i) && (!(q.1 == i + 1) && !(q.1 + 1 == i && q.2.category == 2))) = lc' → (∀ ls' : Array Slot, lv_has ls' (md_n M) lc' → W p l e R s m args below meth c H locs a b Q (F0 m (pc + n) ls' rest)) → W p l e R s m args below meth c H locs a b Q (F0 m pc ls (.long x :: rest)))
    (hs : stL (md_n M) pc n lv i st w = some z) (h : AWn X l M R p e s m args below meth c A Q n0 ad0 a b z) : AW X l M R p e s m args below meth c A Q n0 ad0 pc lv st w a b := by
  unfold stL at hs
  split at hs
  · split at hs
    · rename_i x r hi
      cases hs
      intro H locs ls ad g1 g2 g3 hP hD hS hl
      exact row H locs ls x _ _ _ hl hi (lvset2_c (v := .long x)) (fun ls' hl' => h H locs ls' ad g1 g2 g3 hP hD hS hl')
    · cases hs
  · cases hs
theorem so_stA {n i : Nat}
    (row : ∀ (H : Heap) (locs : List Loc) (ls : Array Slot) (x : Nat) (rest : List Value) (lc lc' : List (Nat × Value)), lv_has ls (md_n M) lc → i < md_n M → (i, Value.ref x) :: lc.filter (fun q => !(q.1 == i) && !(q.1 + 1 == i && q.2.category == 2)) = lc' → (∀ ls' : Array Slot, lv_has ls' (md_n M) lc' → W p l e R s m args below meth c H locs a b Q (F0 m (pc + n) ls' rest)) → W p l e R s m args below meth c H locs a b Q (F0 m pc ls (.ref x :: rest)))
    (hs : stA (md_n M) pc n lv i st w = some z) (h : AWn X l M R p e s m args below meth c A Q n0 ad0 a b z) : AW X l M R p e s m args below meth c A Q n0 ad0 pc lv st w a b := by
  unfold stA at hs
  split at hs
  · split at hs
    · rename_i x r hi
      cases hs
      intro H locs ls ad g1 g2 g3 hP hD hS hl
      exact row H locs ls (ad x) _ _ _ hl hi (lvset_c (v := .ref x)) (fun ls' hl' => h H locs ls' ad g1 g2 g3 hP hD hS hl')
    · cases hs
  · cases hs
theorem so_iinc {i : Nat} {n : Int} (F : MF X M R p s m args meth c A) (hx : decode (md_c M) pc = .ok (.iinc i n, 3)) (hs : icS (md_n M) pc lv i n st w = some z) (h : AWn X l M R p e s m args below meth c A Q n0 ad0 a b z) : AW X l M R p e s m args below meth c A Q n0 ad0 pc lv st w a b := by
  unfold icS at hs
  split at hs
  · split at hs
    · rename_i x hg hi
      cases hs
      intro H locs ls ad g1 g2 g3 hP hD hS hl
      have hm : ∃ k : Nat, (lv.map (lvc ad))[k]? = some (i, Value.int x) := by
        unfold lvget at hg
        cases hf : lv.find? (fun q => Nat.beq q.1 i) with
        | none => rw [hf] at hg; cases hg
        | some q =>
          rw [hf] at hg
          have h1 : q.2 = .int x := Option.some.inj hg
          have h3 : q.1 = i := Nat.eq_of_beq_eq_true (by have := List.find?_some hf; simpa using this)
          obtain ⟨k, hk⟩ := List.mem_iff_getElem?.mp (List.mem_of_find?_eq_some hf)
          refine ⟨k, ?_⟩
          rw [List.getElem?_map, hk]
          show some (q.1, avc ad q.2) = _
          rw [h1, h3]
          rfl
      obtain ⟨k, hk⟩ := hm
      exact lv_iinc F.1 F.2.1 hx hl hk rfl hi (lvset_c (v := .int (x + Int32.ofInt n))) (fun ls' hl' => h H locs ls' ad g1 g2 g3 hP hD hS hl')
    · cases hs
  · cases hs
theorem tg_sp {off : Int} (hs : tgS pc off lv st w = some z) : ∃ t : Nat, (pc : Int) + off = (t : Int) ∧ z = (t, lv, st, w, 0, 0) := by
  unfold tgS at hs
  split at hs
  · rename_i h0
    exact ⟨((pc : Int) + off).toNat, (Int.toNat_of_nonneg h0).symm, (Option.some.inj hs).symm⟩
  · cases hs
theorem so_goto {off : Int} (F : MF X M R p s m args meth c A) (hx : decode (md_c M) pc = .ok (.goto off, 3)) (hs : tgS pc off lv st w = some z) (h : AWn X l M R p e s m args below meth c A Q n0 ad0 a b z) : AW X l M R p e s m args below meth c A Q n0 ad0 pc lv st w a b := by
  obtain ⟨t, ht, rfl⟩ := tg_sp hs
  intro H locs ls ad g1 g2 g3 hP hD hS hl
  exact lv_goto F.1 F.2.1 hx ht (h H locs ls ad g1 g2 g3 hP hD hS hl)
/-- a branch, both roads open -/
theorem so_ifc {cd : ClassFile.Cond} {off : Int} {x : Int32} {r : List Value} {t : Nat} (F : MF X M R p s m args meth c A) (hx : decode (md_c M) pc = .ok (.ifCond cd off, 3)) (ht : (pc : Int) + off = (t : Int))
    (h1 : cmpB cd x 0 = true → AW X l M R p e s m args below meth c A Q n0 ad0 t lv r w a b) (h2 : cmpB cd x 0 = false → AW X l M R p e s m args below meth c A Q n0 ad0 (pc + 3) lv r w a b) : AW X l M R p e s m args below meth c A Q n0 ad0 pc lv (.int x :: r) w a b := by
  intro H locs ls ad g1 g2 g3 hP hD hS hl
  have k1 := fun q => h1 q H locs ls ad g1 g2 g3 hP hD hS hl
  have k2 := fun q => h2 q H locs ls ad g1 g2 g3 hP hD hS hl
  cases cd with
  | eq => exact lv_if_eq F.1 F.2.1 hx ht (fun q => k1 (by simp [cmpB, q])) (fun q => k2 (by simp [cmpB, q]))
  | ne => exact lv_if_ne F.1 F.2.1 hx ht (fun q => k1 (by simp [cmpB, q])) (fun q => k2 (by simp [cmpB, q]))
  | lt => exact lv_if_lt F.1 F.2.1 hx ht (fun q => k1 (decide_eq_true q)) (fun q => k2 (decide_eq_false q))
  | ge => exact lv_if_ge F.1 F.2.1 hx ht (fun q => k1 (decide_eq_true q)) (fun q => k2 (decide_eq_false q))
  | gt => exact lv_if_gt F.1 F.2.1 hx ht (fun q => k1 (decide_eq_true q)) (fun q => k2 (decide_eq_false q))
  | le => exact lv_if_le F.1 F.2.1 hx ht (fun q => k1 (decide_eq_true q)) (fun q => k2 (decide_eq_false q))
theorem so_icc {cd : ClassFile.Cond} {off : Int} {x y : Int32} {r : List Value} {t : Nat} (F : MF X M R p s m args meth c A) (hx : decode (md_c M) pc = .ok (.if_icmp cd off, 3)) (ht : (pc : Int) + off = (t : Int))
    (h1 : cmpB cd x y = true → AW X l M R p e s m args below meth c A Q n0 ad0 t lv r w a b) (h2 : cmpB cd x y = false → AW X l M R p e s m args below meth c A Q n0 ad0 (pc + 3) lv r w a b) : AW X l M R p e s m args below meth c A Q n0 ad0 pc lv (.int y :: .int x :: r) w a b := by
  intro H locs ls ad g1 g2 g3 hP hD hS hl
  have k1 := fun q => h1 q H locs ls ad g1 g2 g3 hP hD hS hl
  have k2 := fun q => h2 q H locs ls ad g1 g2 g3 hP hD hS hl
  cases cd with
  | eq => exact lv_icmp_eq F.1 F.2.1 hx ht (fun q => k1 (by simp [cmpB, q])) (fun q => k2 (by simp [cmpB, q]))
  | ne => exact lv_icmp_ne F.1 F.2.1 hx ht (fun q => k1 (by simp [cmpB, q])) (fun q => k2 (by simp [cmpB, q]))
  | lt => exact lv_icmp_lt F.1 F.2.1 hx ht (fun q => k1 (decide_eq_true q)) (fun q => k2 (decide_eq_false q))
  | ge => exact lv_icmp_ge F.1 F.2.1 hx ht (fun q => k1 (decide_eq_true q)) (fun q => k2 (decide_eq_false q))
  | gt => exact lv_icmp_gt F.1 F.2.1 hx ht (fun q => k1 (decide_eq_true q)) (fun q => k2 (decide_eq_false q))
  | le => exact lv_icmp_le F.1 F.2.1 hx ht (fun q => k1 (decide_eq_true q)) (fun q => k2 (decide_eq_false q))
theorem so_ifS {cd : ClassFile.Cond} {off : Int} (F : MF X M R p s m args meth c A) (hx : decode (md_c M) pc = .ok (.ifCond cd off, 3)) (hs : ifS cd off pc lv st w = some z) (h : AWn X l M R p e s m args below meth c A Q n0 ad0 a b z) : AW X l M R p e s m args below meth c A Q n0 ad0 pc lv st w a b := by
  unfold ifS at hs
  split at hs
  · rename_i ho
    split at hs
    · rename_i x r
      refine so_ifc F hx (Int.toNat_of_nonneg ho).symm (fun q => ?_) (fun q => ?_)
      · rw [q] at hs
        cases hs
        exact h
      · rw [q] at hs
        cases hs
        exact h
    · cases hs
  · cases hs
theorem so_icmpS {cd : ClassFile.Cond} {off : Int} (F : MF X M R p s m args meth c A) (hx : decode (md_c M) pc = .ok (.if_icmp cd off, 3)) (hs : icmpS cd off pc lv st w = some z) (h : AWn X l M R p e s m args below meth c A Q n0 ad0 a b z) : AW X l M R p e s m args below meth c A Q n0 ad0 pc lv st w a b := by
  unfold icmpS at hs
  split at hs
  · rename_i ho
    split at hs
    · rename_i x y r
      refine so_icc F hx (Int.toNat_of_nonneg ho).symm (fun q => ?_) (fun q => ?_)
      · rw [q] at hs
        cases hs
        exact h
      · rw [q] at hs
        cases hs
        exact h
    · cases hs
  · cases hs
end SO
end
section
section SO2
variable {X : CX} {l : Launch} {M : MD} {R : Room} {p : Program} {e : Env} {s : State} {m : MethodId} {args : Array Value} {below : List Frame} {meth : Method} {c : Code} {A : Nat → Prop} {Q : State → Prop} {n0 : Nat} {ad0 : Nat → Nat} {pc : Nat} {lv : List (Nat × Value)} {st : List Value} {w : List AE} {a b : Nat} {z : ST}
theorem so_tb {df lo hi : Int} {offs : Array Int} {n : Nat} (F : MF X M R p s m args meth c A) (hx : decode (md_c M) pc = .ok (.tableswitch df lo hi offs, n)) (hs : tbS df lo hi offs pc lv st w = some z) (h : AWn X l M R p e s m args below meth c A Q n0 ad0 a b z) : AW X l M R p e s m args below meth c A Q n0 ad0 pc lv st w a b := by
  unfold tbS at hs
  split at hs
  · rename_i x r
    split at hs
    · rename_i ho
      obtain ⟨t, ht, rfl⟩ := tg_sp hs
      intro H locs ls ad g1 g2 g3 hP hD hS hl
      exact lv_tableOut F.1 F.2.1 hx ho ht (h H locs ls ad g1 g2 g3 hP hD hS hl)
    · rename_i ho
      split at hs
      · rename_i off hoff
        obtain ⟨t, ht, rfl⟩ := tg_sp hs
        intro H locs ls ad g1 g2 g3 hP hD hS hl
        exact lv_tableIn F.1 F.2.1 hx (fun q => ho (Or.inl q)) (fun q => ho (Or.inr q)) hoff ht (h H locs ls ad g1 g2 g3 hP hD hS hl)
      · cases hs
  · cases hs
theorem so_dup (F : MF X M R p s m args meth c A) (hx : decode (md_c M) pc = .ok (.dup, 1)) (hs : pu pc 1 lv w (dup1 st) = some z) (h : AWn X l M R p e s m args below meth c A Q n0 ad0 a b z) : AW X l M R p e s m args below meth c A Q n0 ad0 pc lv st w a b := by
  obtain ⟨st', h1, rfl⟩ := pu_sp hs
  unfold dup1 at h1
  split at h1
  · rename_i v r
    split at h1
    · rename_i hv
      cases h1
      intro H locs ls ad g1 g2 g3 hP hD hS hl
      exact lv_dup F.1 F.2.1 hx (by rw [avc_cat]; exact hv) (h H locs ls ad g1 g2 g3 hP hD hS hl)
    · cases h1
  · cases h1
theorem so_pop (F : MF X M R p s m args meth c A) (hx : decode (md_c M) pc = .ok (.pop, 1)) (hs : pu pc 1 lv w (pop1 st) = some z) (h : AWn X l M R p e s m args below meth c A Q n0 ad0 a b z) : AW X l M R p e s m args below meth c A Q n0 ad0 pc lv st w a b := by
  obtain ⟨st', h1, rfl⟩ := pu_sp hs
  unfold pop1 at h1
  split at h1
  · rename_i v r
    split at h1
    · rename_i hv
      cases h1
      intro H locs ls ad g1 g2 g3 hP hD hS hl
      exact lv_pop F.1 F.2.1 hx (by rw [avc_cat]; exact hv) (h H locs ls ad g1 g2 g3 hP hD hS hl)
    · cases h1
  · cases h1
theorem so_dup2 (F : MF X M R p s m args meth c A) (hx : decode (md_c M) pc = .ok (.dup2, 1)) (hs : pu pc 1 lv w (dup2 st) = some z) (h : AWn X l M R p e s m args below meth c A Q n0 ad0 a b z) : AW X l M R p e s m args below meth c A Q n0 ad0 pc lv st w a b := by
  obtain ⟨st', h1, rfl⟩ := pu_sp hs
  unfold dup2 at h1
  split at h1
  · rename_i v r
    split at h1
    · rename_i hv
      cases h1
      intro H locs ls ad g1 g2 g3 hP hD hS hl
      exact lv_dup2_2 F.1 F.2.1 hx (by rw [avc_cat]; exact hv) (h H locs ls ad g1 g2 g3 hP hD hS hl)
    · split at h1
      · rename_i u r'
        split at h1
        · rename_i hv
          cases h1
          intro H locs ls ad g1 g2 g3 hP hD hS hl
          exact lv_dup2_11 F.1 F.2.1 hx (by rw [avc_cat]; exact hv.2) (by rw [avc_cat]; exact hv.1) (h H locs ls ad g1 g2 g3 hP hD hS hl)
        · cases h1
      · cases h1
  · cases h1
theorem inR_in {i : Int32} {n : Nat} (h : inR i n = true) : vp_in i n := by
  unfold inR at h
  simp only [Bool.and_eq_true, Bool.not_eq_true', decide_eq_false_iff_not] at h
  have h2 : Nat.ble (i.toNatClampNeg + 1) n = true := h.2
  have h3 := Nat.le_of_ble_eq_true h2
  exact fun q => q.elim h.1 (fun q => by omega)
theorem inR_lt {i : Int32} {n : Nat} (h : inR i n = true) : i.toNatClampNeg < n := Nat.not_le.mp fun q => inR_in h (Or.inr q)
theorem gf_sp {k ci sl o : Nat} {r : List Value} (hs : gfS k ci sl pc lv (.ref o :: r) w = some z) (hk : Nat.ble k 1 = true) : ∃ fs v, w[o]? = some (.inr (.inr (.inr (ci, fs)))) ∧ fs[sl]? = some v ∧ z = (pc + 3, lv, v :: r, w, 0, 0) := by
  unfold gfS at hs
  simp only [hk, cond_true] at hs
  split at hs
  · rename_i cj fs hw
    cases hcj : Nat.beq cj ci with
    | false => simp [hcj] at hs
    | true =>
      simp only [hcj, cond_true] at hs
      cases hv : fs[sl]? with
      | none => simp [hv] at hs
      | some v =>
        simp only [hv] at hs
        exact ⟨fs, v, by rw [hw, Nat.eq_of_beq_eq_true hcj], hv, (Option.some.inj hs).symm⟩
  · cases hs
theorem so_gf {idx k ci sl ps : Nat} (F : MF X M R p s m args meth c A) (hx : decode (md_c M) pc = .ok (.getfield idx, 3)) (hc : chkI (md_k M) (.getfield idx, 3, k, ci, sl, ps) = true) (hs : gfS k ci sl pc lv st w = some z) (h : AWn X l M R p e s m args below meth c A Q n0 ad0 a b z) : AW X l M R p e s m args below meth c A Q n0 ad0 pc lv st w a b := by
  obtain ⟨hexec, hb, -, -, hown, hts, -, hEV, -, -, -, -⟩ := F
  have hK := hEV.1
  match st, hs with
  | .ref o :: r, hs =>
    match k, hc, hs with
    | 0, hc, hs =>
      obtain ⟨fs, v, hw, hv, rfl⟩ := gf_sp hs rfl
      have hc : (match vwCl[ci]? with
        | none => false
        | some v => Nat.blt sl v.2.2 && tsB (ps) (Cond.fieldLink (clN (md_k M)) idx (v.2.1 sl).1 (v.2.1 sl).2.1 (v.2.1 sl).2.2.1)) = true := hc
      split at hc
      · cases hc
      · rename_i q hq
        obtain ⟨C, T, N⟩ := q
        simp only [Bool.and_eq_true] at hc
        have hlt : sl < N := Nat.le_of_ble_eq_true hc.1
        intro H locs ls ad g1 g2 g3 hP hD hS hl
        exact va_get (D := (X.1, X.2.1)) (ci := ci) (v := avc ad v) (C := C) (T := T) (N := N) hexec hb hts (cl_ok hq).1 hown hK hP o (rw_get hw) hq sl hlt (hts _ (tsB_in hc.2)) (fun _ h9 => h9) (by rw [List.getElem?_map, hv]; rfl) hx (h H locs ls ad g1 g2 g3 hP hD hS hl)
    | 1, hc, hs =>
      obtain ⟨fs, v, hw, hv, rfl⟩ := gf_sp hs rfl
      have hc : (match vwCl[ci]? with
        | none => false
        | some v => Nat.blt sl v.2.2 && decide (nestW[ps]? = some (Cond.fieldLinkNest (clN (md_k M)) idx (v.2.1 sl).1 (v.2.1 sl).2.1 (v.2.1 sl).2.2.1 RX11))) = true := hc
      split at hc
      · cases hc
      · rename_i q hq
        obtain ⟨C, T, N⟩ := q
        simp only [Bool.and_eq_true, decide_eq_true_eq] at hc
        have hlt : sl < N := Nat.le_of_ble_eq_true hc.1
        intro H locs ls ad g1 g2 g3 hP hD hS hl
        exact va_getN (D := (X.1, X.2.1)) (ci := ci) (v := avc ad v) (C := C) (T := T) (N := N) hexec hb hts (cl_ok hq).1 hown hK hP o (rw_get hw) hq sl hlt (va_Nw.use rfl (hEV.2.1 _ (List.mem_of_getElem? hc.2))) (fun _ h9 => h9) (by rw [List.getElem?_map, hv]; rfl) hx (h H locs ls ad g1 g2 g3 hP hD hS hl)
    | 2, hc, hs =>
      have hs : (bif Nat.beq o 1000000 || Nat.beq o 1000001 then some ((pc + 3, lv, .int 0 :: r, w, 0, 0) : ST) else none) = some z := hs
      have hc : tsB ps (Cond.fieldLink (clN (md_k M)) idx "java/lang/String" "coder" "B") = true := hc
      cases ho : (Nat.beq o 1000000 || Nat.beq o 1000001) with
      | false => rw [ho] at hs; cases hs
      | true =>
        rw [ho] at hs
        cases hs
        intro H locs ls ad g1 g2 g3 hP hD hS hl
        obtain ⟨i, hi, ei⟩ : ∃ i, i < 2 ∧ ad o = X.2.2.2.1 i := by
          rcases Bool.or_eq_true _ _ ▸ ho with q | q
          · exact ⟨0, by decide, by rw [Nat.eq_of_beq_eq_true q]; exact g3.1 0 (by decide)⟩
          · exact ⟨1, by decide, by rw [Nat.eq_of_beq_eq_true q]; exact g3.1 1 (by decide)⟩
        show W _ _ _ _ _ _ _ _ _ _ _ _ _ _ _ (F0 m pc ls (Value.ref (ad o) :: r.map (avc ad)))
        rw [ei]
        exact vk_getf hexec hb (hEV.2.2.2.2.2.2.1.1 i hi).2.1 hS hown (hts _ (tsB_in hc)) (fun _ h9 => h9) hx (h H locs ls ad g1 g2 g3 hP hD hS hl)
    | k + 3, hc, hs =>
      have hs : (bif Nat.beq o 1000000 then some ((pc + 3, lv, .ref 1000010 :: r, w, 0, 0) : ST) else bif Nat.beq o 1000001 then some ((pc + 3, lv, .ref 1000011 :: r, w, 0, 0) : ST) else none) = some z := hs
      have hc : tsB ps (Cond.fieldLink (clN (md_k M)) idx "java/lang/String" "value" "[B") = true := hc
      intro H locs ls ad g1 g2 g3 hP hD hS hl
      show W _ _ _ _ _ _ _ _ _ _ _ _ _ _ _ (F0 m pc ls (Value.ref (ad o) :: r.map (avc ad)))
      cases h0 : Nat.beq o 1000000 with
      | true =>
        rw [h0] at hs
        cases hs
        rw [Nat.eq_of_beq_eq_true h0, show ad 1000000 = X.2.2.2.1 0 from g3.1 0 (by decide)]
        refine vk_getf hexec hb (hEV.2.2.2.2.2.2.1.1 0 (by decide)).2.2.1 hS hown (hts _ (tsB_in hc)) (fun _ h9 => h9) hx ?_
        have k := h H locs ls ad g1 g2 g3 hP hD hS hl
        rw [show ((Value.ref 1000010 :: r).map (avc ad)) = Value.ref (ad 1000010) :: r.map (avc ad) from rfl, show ad 1000010 = X.2.2.2.2.1 0 from g3.2.1 0 (by decide)] at k
        exact k
      | false =>
        rw [h0] at hs
        have hs : (bif Nat.beq o 1000001 then some ((pc + 3, lv, .ref 1000011 :: r, w, 0, 0) : ST) else none) = some z := hs
        cases h1 : Nat.beq o 1000001 with
        | false => rw [h1] at hs; cases hs
        | true =>
          rw [h1] at hs
          cases hs
          rw [Nat.eq_of_beq_eq_true h1, show ad 1000001 = X.2.2.2.1 1 from g3.1 1 (by decide)]
          refine vk_getf hexec hb (hEV.2.2.2.2.2.2.1.1 1 (by decide)).2.2.1 hS hown (hts _ (tsB_in hc)) (fun _ h9 => h9) hx ?_
          have k := h H locs ls ad g1 g2 g3 hP hD hS hl
          rw [show ((Value.ref 1000011 :: r).map (avc ad)) = Value.ref (ad 1000011) :: r.map (avc ad) from rfl, show ad 1000011 = X.2.2.2.2.1 1 from g3.2.1 1 (by decide)] at k
          exact k
theorem pf_sp {k ci sl : Nat} (hs : pfS M k ci sl pc lv st w = some z) : ∃ v o r fs, st = v :: .ref o :: r ∧ w[o]? = some (.inr (.inr (.inr (ci, fs)))) ∧ sl < fs.length ∧ pfOk M k ci sl v = true ∧ z = (pc + 3, lv, r, w.set o (.inr (.inr (.inr (ci, fs.set sl v)))), 0, 0) := by
  unfold pfS at hs
  split at hs
  · rename_i v o r
    split at hs
    · rename_i cj fs hw
      cases hb : (Nat.beq cj ci && Nat.blt sl fs.length && pfOk M k ci sl v) with
      | false => simp only [hb, cond_false] at hs; cases hs
      | true =>
        simp only [hb, cond_true] at hs
        simp only [Bool.and_eq_true] at hb
        have e1 := Nat.eq_of_beq_eq_true hb.1.1
        subst e1
        exact ⟨v, o, r, fs, rfl, hw, Nat.le_of_ble_eq_true hb.1.2, hb.2, (Option.some.inj hs).symm⟩
    · cases hs
  · cases hs
theorem so_pf {idx k ci sl ps : Nat} (F : MF X M R p s m args meth c A) (hx : decode (md_c M) pc = .ok (.putfield idx, 3)) (hc : chkI (md_k M) (.putfield idx, 3, k, ci, sl, ps) = true) (hs : pfS M k ci sl pc lv st w = some z) (h : AWn X l M R p e s m args below meth c A Q n0 ad0 a b z) : AW X l M R p e s m args below meth c A Q n0 ad0 pc lv st w a b := by
  obtain ⟨hexec, hb, -, -, hown, hts, -, hEV, -, hnm, -, -⟩ := F
  have hK := hEV.1
  obtain ⟨v, o, r, fs, rfl, hw, hfl, hok, rfl⟩ := pf_sp hs
  intro H locs ls ad g1 g2 g3 hP hD hS hl
  have g1' : ∀ j, (j < n0 ∨ (w.set o (.inr (.inr (.inr (ci, fs.set sl v)))) : List AE).length ≤ j) → ad j = ad0 j := by rw [List.length_set]; exact g1
  have g2' : n0 ≤ (w.set o (.inr (.inr (.inr (ci, fs.set sl v)))) : List AE).length := by rw [List.length_set]; exact g2
  have e1 : rwW X ad (w.set o (.inr (.inr (.inr (ci, fs.set sl v))))) = (rwW X ad w).set o (ad o, .inr (ci, (fs.map (avc ad)).set sl (avc ad v))) := by
    rw [rw_set]
    show (rwW X ad w).set o (ad o, .inr (ci, (fs.set sl v).map (avc ad))) = _
    rw [List.map_set]
  unfold pfOk at hok
  simp only [Bool.and_eq_true, decide_eq_true_eq] at hok
  obtain ⟨⟨hok1, hok2⟩, hok3⟩ := hok
  cases hq : vwCl[ci]? with
  | none => rw [hq] at hok1; cases hok1
  | some q =>
    obtain ⟨C, T, N⟩ := q
    rw [hq] at hok1
    have hok1 : (bif (T sl).2.2.2 then Nat.beq k 0 && decide ((md_y M).name = "<init>") && decide ((T sl).1 = clN (md_k M)) else true) = true := hok1
    obtain ⟨q1, q2, q3, -, -⟩ := cl_ok hq
    have hl' : sl < (fs.map (avc ad)).length := by rw [List.length_map]; exact hfl
    match k, hc, hok1 with
    | 0, hc, hok1 =>
      have hc : (match vwCl[ci]? with
        | none => false
        | some v => Nat.blt sl v.2.2 && tsB (ps) (Cond.fieldLink (clN (md_k M)) idx (v.2.1 sl).1 (v.2.1 sl).2.1 (v.2.1 sl).2.2.1)) = true := hc
      rw [hq] at hc
      simp only [Bool.and_eq_true] at hc
      have hlt : sl < N := Nat.le_of_ble_eq_true hc.1
      cases hf : (T sl).2.2.2 with
      | false =>
        exact va_put (D := (X.1, X.2.1)) (ci := ci) (v := avc ad v) (ty := tyF ci sl) (C := C) (T := T) (N := N) hexec hb hts q1 (tyF ci) q2 q3 hown hK hP hD hS o (rw_get hw) hq sl hlt (hts _ (tsB_in hc.2)) (fun _ h9 => h9) hf (q2 sl hlt) (avc_nar hok2) (avc_fit hok3) hl' hx
          (fun H' locs' hP' hD' hS' => h H' locs' ls ad g1' g2' g3 (by rw [e1]; exact hP') (by rw [e1]; exact hD') hS' hl)
      | true =>
        rw [hf] at hok1
        have hok1 : (Nat.beq 0 0 && decide ((md_y M).name = "<init>") && decide ((T sl).1 = clN (md_k M))) = true := hok1
        simp only [Bool.and_eq_true, decide_eq_true_eq] at hok1
        exact va_putF (D := (X.1, X.2.1)) (ci := ci) (v := avc ad v) (ty := tyF ci sl) (C := C) (T := T) (N := N) hexec hb hts q1 (tyF ci) q2 q3 hown hK hP hD hS o (rw_get hw) hq sl hlt (hts _ (tsB_in hc.2)) (fun _ h9 => h9) hf (hnm.trans hok1.1.2) hok1.2 (q2 sl hlt) (avc_nar hok2) (avc_fit hok3) hl' hx
          (fun H' locs' hP' hD' hS' => h H' locs' ls ad g1' g2' g3 (by rw [e1]; exact hP') (by rw [e1]; exact hD') hS' hl)
    | k + 1, hc, hok1 =>
      have hc : (match vwCl[ci]? with
        | none => false
        | some v => Nat.blt sl v.2.2 && decide (nestW[ps]? = some (Cond.fieldLinkNest (clN (md_k M)) idx (v.2.1 sl).1 (v.2.1 sl).2.1 (v.2.1 sl).2.2.1 RX11))) = true := hc
      rw [hq] at hc
      simp only [Bool.and_eq_true, decide_eq_true_eq] at hc
      have hlt : sl < N := Nat.le_of_ble_eq_true hc.1
      have hf : (T sl).2.2.2 = false := by
        cases hf : (T sl).2.2.2 with
        | false => rfl
        | true =>
          rw [hf] at hok1
          have hok1 : (Nat.beq (k + 1) 0 && decide ((md_y M).name = "<init>") && decide ((T sl).1 = clN (md_k M))) = true := hok1
          simp only [Bool.and_eq_true] at hok1
          cases hok1.1.1
      exact va_putN (D := (X.1, X.2.1)) (ci := ci) (v := avc ad v) (ty := tyF ci sl) (C := C) (T := T) (N := N) hexec hb hts q1 (tyF ci) q2 q3 hown hK hP hD hS o (rw_get hw) hq sl hlt (va_Nw.use rfl (hEV.2.1 _ (List.mem_of_getElem? hc.2))) (fun _ h9 => h9) hf (q2 sl hlt) (avc_nar hok2) (avc_fit hok3) hl' hx
        (fun H' locs' hP' hD' hS' => h H' locs' ls ad g1' g2' g3 (by rw [e1]; exact hP') (by rw [e1]; exact hD') hS' hl)
end SO2
end
section
section SO3
variable {X : CX} {l : Launch} {M : MD} {R : Room} {p : Program} {e : Env} {s : State} {m : MethodId} {args : Array Value} {below : List Frame} {meth : Method} {c : Code} {A : Nat → Prop} {Q : State → Prop} {n0 : Nat} {ad0 : Nat → Nat} {pc : Nat} {lv : List (Nat × Value)} {st : List Value} {w : List AE} {a b : Nat} {z : ST}
theorem al_sp {t : Nat} (hs : alS t pc lv st w = some z) : ∃ i o r ll, st = .int i :: .ref o :: r ∧ w[o]? = some (.inl (t, ll)) ∧ inR i ll.length = true ∧ z = (pc + 1, lv, .int (ll.getD i.toNatClampNeg 0) :: r, w, 0, 0) := by
  unfold alS at hs
  split at hs
  · rename_i i o r
    split at hs
    · rename_i u ll hw
      cases hb : (Nat.beq u t && inR i ll.length) with
      | false => simp only [hb, cond_false] at hs; cases hs
      | true =>
        simp only [hb, cond_true] at hs
        simp only [Bool.and_eq_true] at hb
        have e1 := Nat.eq_of_beq_eq_true hb.1
        subst e1
        exact ⟨i, o, r, ll, rfl, hw, hb.2, (Option.some.inj hs).symm⟩
    · cases hs
  · cases hs
theorem so_iald (F : MF X M R p s m args meth c A) (hx : decode (md_c M) pc = .ok (.iaload, 1)) (hs : alS 0 pc lv st w = some z) (h : AWn X l M R p e s m args below meth c A Q n0 ad0 a b z) : AW X l M R p e s m args below meth c A Q n0 ad0 pc lv st w a b := by
  obtain ⟨hexec, hb, -, -, hown, hts, -, hEV, -, hnm, -, -⟩ := F
  obtain ⟨i, o, r, ll, rfl, hw, hi, rfl⟩ := al_sp hs
  intro H locs ls ad g1 g2 g3 hP hD hS hl
  exact va_iald hexec hb hEV.1 hP o 0 (rw_get hw) rfl (inR_in hi) hx (h H locs ls ad g1 g2 g3 hP hD hS hl)
theorem so_bald (F : MF X M R p s m args meth c A) (hx : decode (md_c M) pc = .ok (.baload, 1)) (hs : blS pc lv st w = some z) (h : AWn X l M R p e s m args below meth c A Q n0 ad0 a b z) : AW X l M R p e s m args below meth c A Q n0 ad0 pc lv st w a b := by
  obtain ⟨hexec, hb, -, -, hown, hts, -, hEV, -, hnm, -, -⟩ := F
  unfold blS at hs
  split at hs
  · rename_i i o r
    split at hs
    · rename_i u ll hw
      cases hbb : ((Nat.beq u 1 || Nat.beq u 2) && inR i ll.length) with
      | false => simp only [hbb, cond_false] at hs; cases hs
      | true =>
        simp only [hbb, cond_true] at hs
        cases hs
        simp only [Bool.and_eq_true, Bool.or_eq_true] at hbb
        intro H locs ls ad g1 g2 g3 hP hD hS hl
        rcases hbb.1 with q | q
        · have e1 := Nat.eq_of_beq_eq_true q
          subst e1
          exact va_bald hexec hb hEV.1 hP o 1 (rw_get hw) rfl (inR_in hbb.2) hx (h H locs ls ad g1 g2 g3 hP hD hS hl)
        · have e1 := Nat.eq_of_beq_eq_true q
          subst e1
          exact va_zald hexec hb hEV.1 hP o 2 (rw_get hw) rfl (inR_in hbb.2) hx (h H locs ls ad g1 g2 g3 hP hD hS hl)
    · cases hs
    · rename_i hw
      cases hbb : ((Nat.beq o 1000010 || Nat.beq o 1000011) && inR i (lenS.getD (o - 1000010) 0)) with
      | false => simp only [hbb, cond_false] at hs; cases hs
      | true =>
        simp only [hbb, cond_true] at hs
        cases hs
        simp only [Bool.and_eq_true, Bool.or_eq_true] at hbb
        intro H locs ls ad g1 g2 g3 hP hD hS hl
        obtain ⟨j, hj, ej, ea⟩ : ∃ j, j < 2 ∧ o - 1000010 = j ∧ ad o = X.2.2.2.2.1 j := by
          rcases hbb.1 with q | q
          · have e1 := Nat.eq_of_beq_eq_true q
            subst e1
            exact ⟨0, by decide, rfl, g3.2.1 0 (by decide)⟩
          · have e1 := Nat.eq_of_beq_eq_true q
            subst e1
            exact ⟨1, by decide, rfl, g3.2.1 1 (by decide)⟩
        rw [ej] at hbb
        obtain ⟨scr, k1, k2, k3, k4, k5, k6, k7⟩ := (hEV.2.2.2.2.2.2.1.1 j hj).2.2.2
        have hlt := inR_lt hbb.2
        show W _ _ _ _ _ _ _ _ _ _ _ _ _ _ _ (F0 m pc ls (Value.int i :: Value.ref (ad o) :: r.map (avc ad)))
        rw [ea]
        have k := h H locs ls ad g1 g2 g3 hP hD hS hl
        rw [ej] at k
        have hc : H[X.2.2.2.2.1 j]? = some scr := by rw [hS.2.1 _ (Array.getElem?_eq_some_iff.mp k1).1 k7]; exact k1
        exact W.bald (v := .int ((bytS.getD j []).getD i.toNatClampNeg 0)) hexec hb hc k2 k3 (fun q => q.elim (fun q => inR_in hbb.2 (Or.inl q)) (fun q => absurd (Nat.le_trans k4 q) (Nat.not_le.mpr hlt))) (k6 _ hlt) rfl rfl hx k
  · cases hs
theorem so_lald (F : MF X M R p s m args meth c A) (hx : decode (md_c M) pc = .ok (.laload, 1)) (hs : llS pc lv st w = some z) (h : AWn X l M R p e s m args below meth c A Q n0 ad0 a b z) : AW X l M R p e s m args below meth c A Q n0 ad0 pc lv st w a b := by
  obtain ⟨hexec, hb, -, -, hown, hts, -, hEV, -, hnm, -, -⟩ := F
  unfold llS at hs
  split at hs
  · rename_i i o r
    split at hs
    · rename_i ll hw
      cases hbb : inR i ll.length with
      | false => simp only [hbb, cond_false] at hs; cases hs
      | true =>
        simp only [hbb, cond_true] at hs
        cases hs
        intro H locs ls ad g1 g2 g3 hP hD hS hl
        exact va_lald hexec hb hEV.1 hP o 3 (rw_get hw) rfl (inR_in hbb) hx (h H locs ls ad g1 g2 g3 hP hD hS hl)
    · cases hs
  · cases hs
theorem rf_c {ad : Nat → Nat} (o : Option Nat) : avc ad (va_rf o) = va_rf (o.map ad) := by cases o <;> rfl
theorem so_aald (F : MF X M R p s m args meth c A) (hx : decode (md_c M) pc = .ok (.aaload, 1)) (hs : rlS pc lv st w = some z) (h : AWn X l M R p e s m args below meth c A Q n0 ad0 a b z) : AW X l M R p e s m args below meth c A Q n0 ad0 pc lv st w a b := by
  obtain ⟨hexec, hb, -, -, hown, hts, -, hEV, -, hnm, -, -⟩ := F
  unfold rlS at hs
  split at hs
  · rename_i i o r
    split at hs
    · rename_i ct ll hw
      cases hbb : (inR i ll.length && Nat.blt ct 2) with
      | false => simp only [hbb, cond_false] at hs; cases hs
      | true =>
        simp only [hbb, cond_true] at hs
        cases hs
        simp only [Bool.and_eq_true] at hbb
        intro H locs ls ad g1 g2 g3 hP hD hS hl
        have k := h H locs ls ad g1 g2 g3 hP hD hS hl
        rw [show ((va_rf (ll.getD i.toNatClampNeg none) :: r).map (avc ad)) = avc ad (va_rf (ll.getD i.toNatClampNeg none)) :: r.map (avc ad) from rfl, rf_c] at k
        have hct : ct < 2 := Nat.le_of_ble_eq_true hbb.2
        match ct, hct, hw with
        | 0, _, hw => exact va_aldq hexec hb hEV.1 hP o 4 (C := RX6) (rw_get hw) rfl (inR_in hbb.1) hx k
        | 1, _, hw => exact va_aldq hexec hb hEV.1 hP o 5 (C := RX3) (rw_get hw) rfl (inR_in hbb.1) hx k
    · cases hs
  · cases hs
theorem upd_c (ll : List Int32) {i : Nat} (x : Int32) (h : i < ll.length) : (fun j => (ll.set i x).getD j 0) = upd (fun j => ll.getD j 0) i x := by
  funext j
  simp only [List.getD_eq_getElem?_getD, List.getElem?_set, upd]
  by_cases hj : i = j
  · subst hj; simp [h]
  · simp [hj, Ne.symm hj]
theorem updl_c (ll : List Int64) {i : Nat} (x : Int64) (h : i < ll.length) : (fun j => (ll.set i x).getD j 0) = vp_updL (fun j => ll.getD j 0) i x := by
  funext j
  simp only [List.getD_eq_getElem?_getD, List.getElem?_set, vp_updL]
  by_cases hj : i = j
  · subst hj; simp [h]
  · simp [hj, Ne.symm hj]
theorem updq_c {ad : Nat → Nat} (ll : List (Option Nat)) {i v : Nat} (h : i < ll.length) : (fun j => ((ll.set i (some v)).getD j none).map ad) = va_up (fun j => (ll.getD j none).map ad) i (some (ad v)) := by
  funext j
  simp only [List.getD_eq_getElem?_getD, List.getElem?_set, va_up]
  by_cases hj : i = j
  · subst hj; simp [h]
  · simp [hj, Ne.symm hj]
theorem rw_seti {X : CX} {ad : Nat → Nat} {o t i : Nat} {ll : List Int32} {x : Int32} (h : i < ll.length) : rwW X ad (w.set o (.inl (t, ll.set i x))) = (rwW X ad w).set o (ad o, .inl (X.2.2.1 t, ll.length, .inl (upd (fun j => ll.getD j 0) i x))) := by
  rw [rw_set, ← upd_c ll x h]
  show (rwW X ad w).set o (ad o, .inl (X.2.2.1 t, (ll.set i x).length, .inl (fun j => (ll.set i x).getD j 0))) = _
  rw [List.length_set]
theorem so_ias {t0 t1 : Nat} {ins : Instr} (hs : asS t0 t1 pc lv st w = some z) (h : AWn X l M R p e s m args below meth c A Q n0 ad0 a b z)
    (row : ∀ (H : Heap) (locs : List Loc) (ls : Array Slot) (x i : Int32) (o u : Nat) (ll : List Int32) (r : List Value) (ad : Nat → Nat), va_P (X.1, X.2.1) vwCl (rwW X ad w) H → va_D A (rwW X ad w) → va_S A s.heap H locs → w[o]? = some (.inl (u, ll)) → u = t0 ∨ u = t1 → vp_in i ll.length →
      (∀ (H1 : Heap) (locs1 : List Loc), va_P (X.1, X.2.1) vwCl ((rwW X ad w).set o (ad o, .inl (X.2.2.1 u, ll.length, .inl (upd (fun j => ll.getD j 0) i.toNatClampNeg (nar3 u x))))) H1 → va_D A ((rwW X ad w).set o (ad o, .inl (X.2.2.1 u, ll.length, .inl (upd (fun j => ll.getD j 0) i.toNatClampNeg (nar3 u x))))) → va_S A s.heap H1 locs1 → W p l e R s m args below meth c H1 locs1 a b Q (F0 m (pc + 1) ls r)) → W p l e R s m args below meth c H locs a b Q (F0 m pc ls (.int x :: .int i :: .ref (ad o) :: r))) :
    AW X l M R p e s m args below meth c A Q n0 ad0 pc lv st w a b := by
  unfold asS at hs
  split at hs
  · rename_i x i o r
    split at hs
    · rename_i u ll hw
      cases hbb : ((Nat.beq u t0 || Nat.beq u t1) && inR i ll.length) with
      | false => simp only [hbb, cond_false] at hs; cases hs
      | true =>
        simp only [hbb, cond_true] at hs
        cases hs
        simp only [Bool.and_eq_true, Bool.or_eq_true] at hbb
        intro H locs ls ad g1 g2 g3 hP hD hS hl
        refine row H locs ls x i o u ll _ ad hP hD hS hw (hbb.1.imp Nat.eq_of_beq_eq_true Nat.eq_of_beq_eq_true) (inR_in hbb.2) (fun H' locs' hP' hD' hS' => ?_)
        have e1 := rw_seti (X := X) (w := w) (ad := ad) (o := o) (t := u) (x := nar3 u x) (inR_lt hbb.2)
        exact h H' locs' ls ad (by rw [List.length_set]; exact g1) (by rw [List.length_set]; exact g2) g3 (by rw [e1]; exact hP') (by rw [e1]; exact hD') hS' hl
    · cases hs
  · cases hs
theorem so_iast (F : MF X M R p s m args meth c A) (hx : decode (md_c M) pc = .ok (.iastore, 1)) (hs : asS 0 0 pc lv st w = some z) (h : AWn X l M R p e s m args below meth c A Q n0 ad0 a b z) : AW X l M R p e s m args below meth c A Q n0 ad0 pc lv st w a b := by
  obtain ⟨hexec, hb, -, -, hown, hts, -, hEV, -, hnm, -, -⟩ := F
  refine so_ias (ins := .iastore) hs h (fun H locs ls x i o u ll r ad hP hD hS hw hu hi kk => ?_)
  have e1 : u = 0 := hu.elim id id
  subst e1
  exact va_iast hexec hb hEV.1 hP hD hS o 0 (rw_get hw) rfl hi hx kk
theorem so_bast (F : MF X M R p s m args meth c A) (hx : decode (md_c M) pc = .ok (.bastore, 1)) (hs : asS 1 2 pc lv st w = some z) (h : AWn X l M R p e s m args below meth c A Q n0 ad0 a b z) : AW X l M R p e s m args below meth c A Q n0 ad0 pc lv st w a b := by
  obtain ⟨hexec, hb, -, -, hown, hts, -, hEV, -, hnm, -, -⟩ := F
  refine so_ias (ins := .bastore) hs h (fun H locs ls x i o u ll r ad hP hD hS hw hu hi kk => ?_)
  rcases hu with rfl | rfl
  · exact va_bast hexec hb hEV.1 hP hD hS o 1 (rw_get hw) rfl hi hx kk
  · exact va_zast hexec hb hEV.1 hP hD hS o 2 (rw_get hw) rfl hi hx kk
theorem so_last (F : MF X M R p s m args meth c A) (hx : decode (md_c M) pc = .ok (.lastore, 1)) (hs : lsS pc lv st w = some z) (h : AWn X l M R p e s m args below meth c A Q n0 ad0 a b z) : AW X l M R p e s m args below meth c A Q n0 ad0 pc lv st w a b := by
  obtain ⟨hexec, hb, -, -, hown, hts, -, hEV, -, hnm, -, -⟩ := F
  unfold lsS at hs
  split at hs
  · rename_i x i o r
    split at hs
    · rename_i ll hw
      cases hbb : inR i ll.length with
      | false => simp only [hbb, cond_false] at hs; cases hs
      | true =>
        simp only [hbb, cond_true] at hs
        cases hs
        intro H locs ls ad g1 g2 g3 hP hD hS hl
        have e1 : rwW X ad (w.set o (.inr (.inl (ll.set i.toNatClampNeg x)))) = (rwW X ad w).set o (ad o, .inl (X.2.2.1 3, ll.length, .inr (.inl (vp_updL (fun j => ll.getD j 0) i.toNatClampNeg x)))) := by
          rw [rw_set, ← updl_c ll x (inR_lt hbb)]
          show (rwW X ad w).set o (ad o, .inl (X.2.2.1 3, (ll.set i.toNatClampNeg x).length, .inr (.inl (fun j => (ll.set i.toNatClampNeg x).getD j 0)))) = _
          rw [List.length_set]
        exact va_last hexec hb hEV.1 hP hD hS o 3 (rw_get hw) rfl (inR_in hbb) hx (fun H' locs' hP' hD' hS' => h H' locs' ls ad (by rw [List.length_set]; exact g1) (by rw [List.length_set]; exact g2) g3 (by rw [e1]; exact hP') (by rw [e1]; exact hD') hS' hl)
    · cases hs
  · cases hs
theorem so_aast (F : MF X M R p s m args meth c A) (hx : decode (md_c M) pc = .ok (.aastore, 1)) (hs : rsS pc lv st w = some z) (h : AWn X l M R p e s m args below meth c A Q n0 ad0 a b z) : AW X l M R p e s m args below meth c A Q n0 ad0 pc lv st w a b := by
  obtain ⟨hexec, hb, -, -, hown, hts, -, hEV, -, hnm, -, -⟩ := F
  unfold rsS at hs
  split at hs
  · rename_i v i o r
    split at hs
    · rename_i ct ll ci vs hw hv
      cases hbb : (inR i ll.length && ((Nat.beq ct 0 && Nat.beq ci 6) || (Nat.beq ct 1 && Nat.beq ci 3))) with
      | false => simp only [hbb, cond_false] at hs; cases hs
      | true =>
        simp only [hbb, cond_true] at hs
        cases hs
        simp only [Bool.and_eq_true, Bool.or_eq_true] at hbb
        intro H locs ls ad g1 g2 g3 hP hD hS hl
        have e1 : rwW X ad (w.set o (.inr (.inr (.inl (ct, ll.set i.toNatClampNeg (some v)))))) = (rwW X ad w).set o (ad o, .inl (X.2.2.1 (4 + ct), ll.length, .inr (.inr (.inr (.inr (va_up (fun j => (ll.getD j none).map ad) i.toNatClampNeg (some (ad v)))))))) := by
          rw [rw_set, ← updq_c ll (inR_lt hbb.1)]
          show (rwW X ad w).set o (ad o, .inl (X.2.2.1 (4 + ct), (ll.set i.toNatClampNeg (some v)).length, .inr (.inr (.inr (.inr (fun j => ((ll.set i.toNatClampNeg (some v)).getD j none).map ad)))))) = _
          rw [List.length_set]
        rcases hbb.2 with q | q
        · have e2 := Nat.eq_of_beq_eq_true q.1
          have e3 := Nat.eq_of_beq_eq_true q.2
          subst e2; subst e3
          exact va_astq hexec hb hEV.1 hP hD hS o 4 v 6 (r := (RX6, TX6, 10)) (rw_get hw) rfl (rw_get hv) rfl (inR_in hbb.1) hx (fun H' locs' hP' hD' hS' => h H' locs' ls ad (by rw [List.length_set]; exact g1) (by rw [List.length_set]; exact g2) g3 (by rw [e1]; exact hP') (by rw [e1]; exact hD') hS' hl)
        · have e2 := Nat.eq_of_beq_eq_true q.1
          have e3 := Nat.eq_of_beq_eq_true q.2
          subst e2; subst e3
          exact va_astq hexec hb hEV.1 hP hD hS o 5 v 3 (r := (RX3, TX3, 1)) (rw_get hw) rfl (rw_get hv) rfl (inR_in hbb.1) hx (fun H' locs' hP' hD' hS' => h H' locs' ls ad (by rw [List.length_set]; exact g1) (by rw [List.length_set]; exact g2) g3 (by rw [e1]; exact hP') (by rw [e1]; exact hD') hS' hl)
    · cases hs
  · cases hs
theorem so_alen (F : MF X M R p s m args meth c A) (hx : decode (md_c M) pc = .ok (.arraylength, 1)) (hs : lnS pc lv st w = some z) (h : AWn X l M R p e s m args below meth c A Q n0 ad0 a b z) : AW X l M R p e s m args below meth c A Q n0 ad0 pc lv st w a b := by
  obtain ⟨hexec, hb, -, -, hown, hts, -, hEV, -, hnm, -, -⟩ := F
  unfold lnS at hs
  split at hs
  · rename_i o r
    split at hs
    · rename_i u ll hw
      cases hbb : Nat.blt u 3 with
      | false => simp only [hbb, cond_false] at hs; cases hs
      | true =>
        simp only [hbb, cond_true] at hs
        cases hs
        intro H locs ls ad g1 g2 g3 hP hD hS hl
        have k := h H locs ls ad g1 g2 g3 hP hD hS hl
        have hu : u < 3 := Nat.le_of_ble_eq_true hbb
        match u, hu, hw with
        | 0, _, hw => exact va_alen hexec hb hEV.1 hP o 0 (rw_get hw) (ty := .int) rfl rfl hx k
        | 1, _, hw => exact va_alen hexec hb hEV.1 hP o 1 (rw_get hw) (ty := .byte) rfl rfl hx k
        | 2, _, hw => exact va_alen hexec hb hEV.1 hP o 2 (rw_get hw) (ty := .boolean) rfl rfl hx k
    · rename_i ll hw
      cases hs
      intro H locs ls ad g1 g2 g3 hP hD hS hl
      exact va_alen hexec hb hEV.1 hP o 3 (rw_get hw) (ty := .long) rfl rfl hx (h H locs ls ad g1 g2 g3 hP hD hS hl)
    · rename_i ct ll hw
      cases hbb : Nat.blt ct 2 with
      | false => simp only [hbb, cond_false] at hs; cases hs
      | true =>
        simp only [hbb, cond_true] at hs
        cases hs
        intro H locs ls ad g1 g2 g3 hP hD hS hl
        have k := h H locs ls ad g1 g2 g3 hP hD hS hl
        have hu : ct < 2 := Nat.le_of_ble_eq_true hbb
        match ct, hu, hw with
        | 0, _, hw => exact va_alen hexec hb hEV.1 hP o 4 (rw_get hw) (ty := .object RX6) rfl rfl hx k
        | 1, _, hw => exact va_alen hexec hb hEV.1 hP o 5 (rw_get hw) (ty := .object RX3) rfl rfl hx k
    · cases hs
    · rename_i hw
      cases hbb : (Nat.beq o 1000010 || Nat.beq o 1000011) with
      | false => simp only [hbb, cond_false] at hs; cases hs
      | true =>
        simp only [hbb, cond_true] at hs
        cases hs
        simp only [Bool.or_eq_true] at hbb
        intro H locs ls ad g1 g2 g3 hP hD hS hl
        obtain ⟨j, hj, ej, ea⟩ : ∃ j, j < 2 ∧ o - 1000010 = j ∧ ad o = X.2.2.2.2.1 j := by
          rcases hbb with q | q
          · have e1 := Nat.eq_of_beq_eq_true q
            subst e1
            exact ⟨0, by decide, rfl, g3.2.1 0 (by decide)⟩
          · have e1 := Nat.eq_of_beq_eq_true q
            subst e1
            exact ⟨1, by decide, rfl, g3.2.1 1 (by decide)⟩
        obtain ⟨scr, k1, k2, k3, k4, k5, k6, k7⟩ := (hEV.2.2.2.2.2.2.1.1 j hj).2.2.2
        show W _ _ _ _ _ _ _ _ _ _ _ _ _ _ _ (F0 m pc ls (Value.ref (ad o) :: r.map (avc ad)))
        rw [ea]
        have k := h H locs ls ad g1 g2 g3 hP hD hS hl
        rw [ej] at k
        have hc : H[X.2.2.2.2.1 j]? = some scr := by rw [hS.2.1 _ (Array.getElem?_eq_some_iff.mp k1).1 k7]; exact k1
        exact W.alen (n := Int32.ofNat (lenS.getD j 0)) hexec hb hc k2 k5 rfl rfl hx k
  · cases hs
end SO3
end
