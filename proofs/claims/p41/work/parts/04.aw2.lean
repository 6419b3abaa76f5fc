/-- what holds of the surroundings, in a state whose own cells are A -/
def EV (X : CX) (A : Nat → Prop) (U : State) : Prop :=
  va_K (X.1, X.2.1) vwCl (tysA X) U ∧ (∀ w ∈ nestW, va_Nw w U) ∧ va_AO RX6 U ∧ va_AO RX3 U ∧ vk_R RX7 29 txS0 (X.2.2.2.1 0) U ∧ vk_R RX7 87 txS1 (X.2.2.2.1 1) U ∧
  vk_S 2 lenS bytS X.2.2.2.1 X.2.2.2.2.1 A U U.heap ∧ va_Z "java/lang/String" "COMPACT_STRINGS" "Z" (.int 1) A U U.heap ∧ va_Z "jdk/internal/util/Preconditions" "SIOOBE_FORMATTER" "Ljava/util/function/BiFunction;" (va_rf (if X.2.2.2.2.2 = 0 then none else some (X.2.2.2.2.2 - 1))) A U U.heap
def exOk (X : CX) (ad : Nat → Nat) : Prop := (∀ i, i < 2 → ad (1000000 + i) = X.2.2.2.1 i) ∧ (∀ i, i < 2 → ad (1000010 + i) = X.2.2.2.2.1 i) ∧ ad 1000020 = X.2.2.2.2.2
def isNest : Cond → Bool
  | .fieldLinkNest _ _ _ _ _ _ => true
  | .methodLinkNest _ _ _ _ => true
  | _ => false
theorem nestW_ok : nestW.all isNest = true := by decide +kernel
theorem nest_warm {s U : State} (hW : s.WarmedH U.vm) (h : ∀ w ∈ nestW, va_Nw w s) : ∀ w ∈ nestW, va_Nw w U := by
  intro w hw
  have h1 := List.all_eq_true.mp nestW_ok w hw
  have h2 := h w hw
  cases w with
  | fieldLinkNest a i b n d h => exact va_Nw.warmF hW h2
  | methodLinkNest a i x h => exact va_Nw.warmM hW h2
  | _ => cases h1
theorem nest_same {s U : State} (hv : s.vm = U.vm) (h : ∀ w ∈ nestW, va_Nw w s) : ∀ w ∈ nestW, va_Nw w U := by
  intro w hw
  have h1 := List.all_eq_true.mp nestW_ok w hw
  have h2 := h w hw
  cases w with
  | fieldLinkNest a i b n d h => exact va_Nw.same rfl hv h2
  | methodLinkNest a i x h => exact va_Nw.same rfl hv h2
  | _ => cases h1
/-- the surroundings as a callee finds them -/
theorem EV.call {X : CX} {A B : Nat → Prop} {s U : State} {locs : List Loc} (h : EV X A s) (hW : s.WarmedH U.vm) (hS : va_S A s.heap U.heap locs) (hB : ∀ q, B q → A q) : EV X B U := by
  obtain ⟨h1, h2, h3, h4, h5, h6, h7, h8, h9⟩ := h
  exact ⟨va_K.moved hW.alike h1, nest_warm hW h2, va_AO.moved hW.alike h3, va_AO.moved hW.alike h4, vk_R.warm hW h5, vk_R.warm hW h6, ((vk_S.moved hW.alike h7).kept hS.2.1).narrow hB, ((va_Z.moved hW.alike h8).kept hS.2.1).narrow hB, ((va_Z.moved hW.alike h9).kept hS.2.1).narrow hB⟩
theorem EV.blind {X : CX} {A : Nat → Prop} {U V : State} (hv : U.vm = V.vm) (hh : V.heap = U.heap) (h : EV X A U) : EV X A V := by
  obtain ⟨h1, h2, h3, h4, h5, h6, h7, h8, h9⟩ := h
  have hA : U.vm.Alike V.vm := by rw [← hv]; exact Vm.Alike.refl U.vm
  refine ⟨va_K.moved hA h1, nest_same hv h2, va_AO.moved hA h3, va_AO.moved hA h4, vk_R.same hv.symm h5, vk_R.same hv.symm h6, ?_, ?_, ?_⟩
  · rw [hh]; exact vk_S.moved hA h7
  · rw [hh]; exact va_Z.moved hA h8
  · rw [hh]; exact va_Z.moved hA h9
/-- an instruction's pool entry is what the tables say -/
def chkI (c : Nat) (x : IE) : Bool := match x with
  | (.getfield idx, _, k, ci, sl, ps) =>
    bif Nat.beq k 0 then (match vwCl[ci]? with
      | none => false
      | some v => Nat.blt sl v.2.2 && tsB (ps) (Cond.fieldLink (clN c) idx (v.2.1 sl).1 (v.2.1 sl).2.1 (v.2.1 sl).2.2.1))
    else bif Nat.beq k 1 then (match vwCl[ci]? with
      | none => false
      | some v => Nat.blt sl v.2.2 && decide (nestW[ps]? = some (Cond.fieldLinkNest (clN c) idx (v.2.1 sl).1 (v.2.1 sl).2.1 (v.2.1 sl).2.2.1 RX11)))
    else bif Nat.beq k 2 then tsB (ps) (Cond.fieldLink (clN c) idx "java/lang/String" "coder" "B")
    else tsB (ps) (Cond.fieldLink (clN c) idx "java/lang/String" "value" "[B")
  | (.putfield idx, _, k, ci, sl, ps) =>
    bif Nat.beq k 0 then (match vwCl[ci]? with
      | none => false
      | some v => Nat.blt sl v.2.2 && tsB (ps) (Cond.fieldLink (clN c) idx (v.2.1 sl).1 (v.2.1 sl).2.1 (v.2.1 sl).2.2.1))
    else (match vwCl[ci]? with
      | none => false
      | some v => Nat.blt sl v.2.2 && decide (nestW[ps]? = some (Cond.fieldLinkNest (clN c) idx (v.2.1 sl).1 (v.2.1 sl).2.1 (v.2.1 sl).2.2.1 RX11)))
  | (.getstatic idx, _, k, _, _, ps) =>
    bif Nat.beq k 0 then tsB (ps) (Cond.fieldLink (clN c) idx "java/lang/String" "COMPACT_STRINGS" "Z")
    else bif Nat.beq k 1 then tsB (ps) (Cond.fieldLink (clN c) idx "jdk/internal/util/Preconditions" "SIOOBE_FORMATTER" "Ljava/util/function/BiFunction;")
    else true
  | (.new idx, _, k, ci, sl, ps) => (match vwCl[ci]? with
      | none => false
      | some v => tsB (k) (Cond.initialized v.1) && tsB (sl) (Cond.instantiable v.1 v.2.2) && tsB (ps) (Cond.classLink (clN c) idx v.1))
  | (.anewarray idx, _, _, ci, _, ps) => tsB (ps) (Cond.classLink (clN c) idx (clN ci))
  | (.newarray t, _, _, _, _, ps) => tsB (ps) (Cond.arrayClass (newarray.typeOf t))
  | (.ldc idx, _, k, i, sl, ps) => bif Nat.beq k 0 then tsB (ps) (Cond.constant (clN c) idx (Int32.ofNat sl)) else (Nat.beq c 7 && ((Nat.beq i 0 && Nat.beq idx 29) || (Nat.beq i 1 && Nat.beq idx 87)))
  | (.ldc_w idx, _, k, _, sl, ps) => Nat.beq k 0 && tsB (ps) (Cond.constant (clN c) idx (Int32.ofNat sl))
  | (.ldc2_w idx, _, _, _, sl, ps) => tsB (ps) (Cond.constantLong (clN c) idx (Int64.ofNat sl))
  | (.invokevirtual idx, _, k, b, _, ps) => bif Nat.beq k 0 then tsB (ps) (Cond.methodLink (clN c) idx (md_y (mdOf b))) else decide (nestW[ps]? = some (Cond.methodLinkNest (clN c) idx (md_y (mdOf b)) RX11))
  | (.invokestatic idx, _, k, b, _, ps) =>
    bif Nat.beq k 0 then tsB (ps) (Cond.methodLink (clN c) idx (md_y (mdOf b)))
    else bif Nat.beq k 1 then decide (nestW[ps]? = some (Cond.methodLinkNest (clN c) idx (md_y (mdOf b)) RX11))
    else bif Nat.beq k 3 then tsB (ps) (Cond.methodLink (clN c) idx arraycopyName)
    else bif Nat.beq k 4 then tsB (ps) (Cond.methodLink (clN c) idx Lib.Math.max.name)
    else tsB (ps) (Cond.methodLink (clN c) idx Lib.Math.min.name)
  | (.invokespecial idx, _, k, b, _, ps) =>
    bif Nat.beq k 0 then tsB (ps) (Cond.methodLink (clN c) idx (md_y (mdOf b)))
    else bif Nat.beq k 1 then decide (nestW[ps]? = some (Cond.methodLinkNest (clN c) idx (md_y (mdOf b)) RX11))
    else tsB (ps) (Cond.methodLink (clN c) idx objectInit)
  | _ => true
/-- a method is as the tables say: its bytes decode to its instructions, its words are there -/
def mdB (M : MD) : Bool :=
  (List.range (md_s M)).all (fun pc => match md_t M pc with
    | none => true
    | some x => decide (decode (md_c M) pc = .ok (x.1, x.2.1)) && chkI (md_k M) x)
  && tsB ((md_p M).getD 0 0) (Cond.code (md_y M) (md_c M) (md_n M) (md_r M))
  && (bif Nat.beq ((md_p M).getD 4 0) 1 then tsB ((md_p M).getD 1 0) (Cond.static (md_y M)) else tsB ((md_p M).getD 1 0) (Cond.instanceMethod (md_y M)))
  && (decide ((md_y M).name = "<init>") || Nat.beq ((md_p M).getD 4 0) 1 || tsB ((md_p M).getD 2 0) (Cond.selects (md_y M).cls (md_y M) (md_y M)))
  && tsB ((md_p M).getD 3 0) (Cond.initialized (md_y M).cls)
  && (plainName (md_y M).cls && decide ((parseMethodDescriptor (md_y M).desc).map (fun d => d.parameters.length) = some ((md_p M).getD 5 0))) && decide ((md_y M).cls = clN (md_k M)) && Nat.ble (md_n M) 60
  && decide ((md_y M).cls ≠ "java/lang/invoke/MethodHandle") && decide ((md_y M).cls ≠ "java/lang/invoke/VarHandle")
theorem mem_at {α : Type} {l : List α} {i : Nat} {x : α} (h : l[i]? = some x) : x ∈ l := List.mem_of_getElem? h
theorem md_at {M : MD} (h : mdB M = true) {pc : Nat} {x : IE} (hx : md_i M pc = some x) : decode (md_c M) pc = .ok (x.1, x.2.1) ∧ chkI (md_k M) x = true := by
  unfold mdB at h
  simp only [Bool.and_eq_true] at h
  have h1 := List.all_eq_true.mp h.1.1.1.1.1.1.1.1.1
  unfold md_i at hx
  cases hb : Nat.blt pc (md_s M) with
  | false => rw [hb] at hx; cases hx
  | true =>
    rw [hb] at hx
    have hx : md_t M pc = some x := hx
    have hlt : pc < md_s M := by
      have : Nat.ble (pc + 1) (md_s M) = true := hb
      exact Nat.le_of_ble_eq_true this
    have h2 := h1 pc (List.mem_range.mpr hlt)
    rw [hx] at h2
    simp only [Bool.and_eq_true, decide_eq_true_eq] at h2
    exact h2
theorem md_words {M : MD} (h : mdB M = true) : Cond.code (md_y M) (md_c M) (md_n M) (md_r M) ∈ TS ∧ Cond.initialized (md_y M).cls ∈ TS ∧ plainName (md_y M).cls = true ∧ (md_y M).cls = clN (md_k M) ∧ md_n M ≤ 60 ∧ (md_y M).cls ≠ "java/lang/invoke/MethodHandle" ∧ (md_y M).cls ≠ "java/lang/invoke/VarHandle" := by
  unfold mdB at h
  simp only [Bool.and_eq_true, decide_eq_true_eq] at h
  obtain ⟨⟨⟨⟨⟨⟨⟨⟨⟨-, h1⟩, -⟩, -⟩, h4⟩, h5⟩, h6⟩, h7⟩, h8⟩, h9⟩ := h
  exact ⟨tsB_in h1, tsB_in h4, h5.1, h6, Nat.le_of_ble_eq_true h7, h8, h9⟩
theorem md_par {M : MD} (h : mdB M = true) : (parseMethodDescriptor (md_y M).desc).map (fun d => d.parameters.length) = some ((md_p M).getD 5 0) := by
  unfold mdB at h
  simp only [Bool.and_eq_true, decide_eq_true_eq] at h
  obtain ⟨⟨⟨⟨⟨⟨⟨⟨⟨-, h1⟩, -⟩, -⟩, h4⟩, h5⟩, h6⟩, h7⟩, h8⟩, h9⟩ := h
  exact h5.2
theorem md_inst {M : MD} (h : mdB M = true) (hs : Nat.beq ((md_p M).getD 4 0) 1 = false) : Cond.instanceMethod (md_y M) ∈ TS ∧ ((md_y M).name = "<init>" ∨ Cond.selects (md_y M).cls (md_y M) (md_y M) ∈ TS) := by
  unfold mdB at h
  rw [hs] at h
  simp only [Bool.and_eq_true, decide_eq_true_eq, cond_false, Bool.or_false, Bool.or_eq_true] at h
  obtain ⟨⟨⟨⟨⟨⟨⟨⟨⟨-, -⟩, h2⟩, h3⟩, -⟩, -⟩, -⟩, -⟩, -⟩, -⟩ := h
  exact ⟨tsB_in h2, h3.imp id tsB_in⟩
theorem md_stat {M : MD} (h : mdB M = true) (hs : Nat.beq ((md_p M).getD 4 0) 1 = true) : Cond.static (md_y M) ∈ TS := by
  unfold mdB at h
  rw [hs] at h
  simp only [Bool.and_eq_true, decide_eq_true_eq, cond_true] at h
  obtain ⟨⟨⟨⟨⟨⟨⟨⟨⟨-, -⟩, h2⟩, -⟩, -⟩, -⟩, -⟩, -⟩, -⟩, -⟩ := h
  exact tsB_in h2
def wsOf (M : MD) : List Cond := .code (md_y M) (md_c M) (md_n M) (md_r M) :: TS
theorem wsOf_good {M : MD} (h : mdB M = true) : GoodIn TS (wsOf M) := by
  intro w hw
  have hm : w ∈ TS := by
    rcases List.mem_cons.mp hw with e | e
    · rw [e]; exact (md_words h).1
    · exact e
  exact ⟨hm, good_of_word (List.mem_filter.mp hm).2⟩
/-- the classes of the worlds: their words, their fields' types and names -/
theorem cl_ok {ci : Nat} {C : String} {T : u_T} {N : Nat} (h : vwCl[ci]? = some (C, T, N)) : (∀ w ∈ u_ws C T N, w ∈ TS) ∧ (∀ k, k < N → parseFieldDescriptor (T k).2.2.1 = some (tyF ci k)) ∧ (∀ a, a < N → ∀ b, b < N → a ≠ b → (T a).2.1 ≠ (T b).2.1) ∧ (∀ j, j < N → defaultValue (tyF ci j) = vp_V (dflV ci) j) ∧ N = (dflV ci).length := by
  match ci, h with
  | 0, h => cases h; exact ⟨inT0, tyX0_ok, nmX0, by decide +kernel, rfl⟩
  | 1, h => cases h; exact ⟨inT1, tyX1_ok, nmX1, by decide +kernel, rfl⟩
  | 2, h => cases h; exact ⟨inT2, tyX2_ok, nmX2, by decide +kernel, rfl⟩
  | 3, h => cases h; exact ⟨inT3, tyX3_ok, nmX3, by decide +kernel, rfl⟩
  | 4, h => cases h; exact ⟨inT4, tyX4_ok, nmX4, by decide +kernel, rfl⟩
  | 5, h => cases h; exact ⟨inT5, tyX5_ok, nmX5, by decide +kernel, rfl⟩
  | 6, h => cases h; exact ⟨inT6, tyX6_ok, nmX6, by decide +kernel, rfl⟩
  | 7, h => cases h; exact ⟨inT7, tyX7_ok, nmX7, by decide +kernel, rfl⟩
  | 8, h => cases h; exact ⟨inT8, tyX8_ok, nmX8, by decide +kernel, rfl⟩
  | 9, h => cases h; exact ⟨inT9, tyX9_ok, nmX9, by decide +kernel, rfl⟩
  | 10, h => cases h; exact ⟨inT10, tyX10_ok, nmX10, by decide +kernel, rfl⟩
  | 11, h => cases h; exact ⟨inT11, tyX11_ok, nmX11, by decide +kernel, rfl⟩
  | 12, h => cases h; exact ⟨inT12, tyX12_ok, nmX12, by decide +kernel, rfl⟩
  | n + 13, h => cases h
