/-! printed by wip/gen/evgen.py: the surroundings at the entry of the law -/
def gvT : Cond := Jvm.Cond.and given_1 narrow_1
def gvB (k : Nat) (w : Cond) : Bool := decide ((flatC gvT)[k]? = some w)
theorem gv_in {k : Nat} {w : Cond} {args : Array Value} {s : State} (hg : gvT.before args s = true) (h : gvB k w = true) : w.before args s = true := flat_of_before _ hg _ (List.mem_of_getElem? (of_decide_eq_true h))
def tlB (ps : Nat) (w : Cond) : Bool := decide (tblAt ps = some w)
theorem tl_in {ps : Nat} {w : Cond} (h : tlB ps w = true) : w ∈ lw_tbl := tblC_in (List.mem_of_getElem? (of_decide_eq_true h))
def nwP : List Nat := [1230, 1097, 1236, 1238, 2041, 2053, 2055, 2044, 1173, 1164, 2134, 1167, 1178, 1182, 2107, 1144, 2038, 1171, 2040, 1096, 1100, 1102, 1161, 1166, 1172, 1196, 1145, 1176, 1180, 1185, 1104, 1175, 1183, 1169, 1181, 1197, 1148, 1162, 2039, 2048, 1170, 2043, 2046, 1163, 2059, 2052, 2057, 1186, 2050, 1160, 1177, 1032, 2030, 2033, 2084, 2094, 2126, 2146, 2164, 2191, 2205, 3013, 3017, 3030, 3137, 4022, 4042, 4066, 4071, 4075, 4083, 4095, 4177, 4185, 4186, 4191, 4199, 4212, 4220, 4230, 4238, 5008, 5033, 5041, 5055, 5076, 5089, 5103, 5119, 5131, 5140, 5148, 5159, 5167, 5180, 5196, 5208, 5216, 5225, 5233, 6001, 6010, 6011, 6023, 6039, 6053, 6067, 6071, 6080, 6084, 4030, 1138, 2169, 5016, 5021, 5049, 2102, 2103, 4087, 6057, 1038, 1132, 3034, 3038, 4018, 3173, 3185, 3193, 3201, 4002, 3233, 3229, 3238, 2209, 4103, 4130, 4131, 4135, 4165, 4143, 4144, 4148, 6034, 2151, 4224, 4225, 5003, 5063, 5067, 5093, 5097, 5098, 5135, 5185]
theorem nwk_0 : (List.range 40).all (fun k => decide (tblAt (nwP.getD (0 + k) 0) = nestW[0 + k]?)) = true := by decide +kernel
theorem nwk_40 : (List.range 40).all (fun k => decide (tblAt (nwP.getD (40 + k) 0) = nestW[40 + k]?)) = true := by decide +kernel
theorem nwk_80 : (List.range 40).all (fun k => decide (tblAt (nwP.getD (80 + k) 0) = nestW[80 + k]?)) = true := by decide +kernel
theorem nwk_120 : (List.range 34).all (fun k => decide (tblAt (nwP.getD (120 + k) 0) = nestW[120 + k]?)) = true := by decide +kernel
theorem nw_len : nestW.length = 154 := by decide +kernel
theorem nw_in : ∀ w ∈ nestW, w ∈ lw_tbl := by
  intro w hw
  obtain ⟨k, hk, rfl⟩ := List.getElem_of_mem hw
  have hk2 : k < 154 := by rw [← nw_len]; exact hk
  have key : tblAt (nwP.getD k 0) = nestW[k]? := by
    by_cases h0 : k < 40
    · have := of_decide_eq_true (List.all_eq_true.mp nwk_0 (k - 0) (List.mem_range.mpr (by omega)))
      rw [show 0 + (k - 0) = k by omega] at this
      exact this
    by_cases h40 : k < 80
    · have := of_decide_eq_true (List.all_eq_true.mp nwk_40 (k - 40) (List.mem_range.mpr (by omega)))
      rw [show 40 + (k - 40) = k by omega] at this
      exact this
    by_cases h80 : k < 120
    · have := of_decide_eq_true (List.all_eq_true.mp nwk_80 (k - 80) (List.mem_range.mpr (by omega)))
      rw [show 80 + (k - 80) = k by omega] at this
      exact this
    have := of_decide_eq_true (List.all_eq_true.mp nwk_120 (k - 120) (List.mem_range.mpr (by omega)))
    rw [show 120 + (k - 120) = k by omega] at this
    exact this
  rw [List.getElem?_eq_getElem hk] at key
  exact tblC_in (List.mem_of_getElem? key)
theorem nw_tab : nestW.all (fun w => w.onTables) = true := by decide +kernel
theorem gs_ex0 : gvB 35 (Cond.exactly (Term.string RX7 29) "java/lang/String") = true := by decide +kernel
theorem gs_co0 : gvB 36 (Cond.eq (.field (Term.string RX7 29) "java/lang/String" "coder" "B") (.int 0)) = true := by decide +kernel
theorem gs_ar0 : gvB 37 (Cond.arrayOf (.field (Term.string RX7 29) "java/lang/String" "value" "[B") .byte) = true := by decide +kernel
theorem gs_le0 : gvB 38 (Cond.eq (.length (.field (Term.string RX7 29) "java/lang/String" "value" "[B")) (.int (Int32.ofNat (lenS.getD 0 0)))) = true := by decide +kernel
theorem gs_el0 : (List.range 94).all (fun j => gvB (39 + j) (Cond.eq (.elem (.field (Term.string RX7 29) "java/lang/String" "value" "[B") (.int (Int32.ofNat j))) (.int ((bytS.getD 0 []).getD j 0)))) = true := by decide +kernel
theorem gs_rf0 : tlB 1042 (Cond.stringRef RX7 29 txS0) = true := by decide +kernel
theorem gs_ex1 : gvB 133 (Cond.exactly (Term.string RX7 87) "java/lang/String") = true := by decide +kernel
theorem gs_co1 : gvB 134 (Cond.eq (.field (Term.string RX7 87) "java/lang/String" "coder" "B") (.int 0)) = true := by decide +kernel
theorem gs_ar1 : gvB 135 (Cond.arrayOf (.field (Term.string RX7 87) "java/lang/String" "value" "[B") .byte) = true := by decide +kernel
theorem gs_le1 : gvB 136 (Cond.eq (.length (.field (Term.string RX7 87) "java/lang/String" "value" "[B")) (.int (Int32.ofNat (lenS.getD 1 0)))) = true := by decide +kernel
theorem gs_el1 : (List.range 9).all (fun j => gvB (137 + j) (Cond.eq (.elem (.field (Term.string RX7 87) "java/lang/String" "value" "[B") (.int (Int32.ofNat j))) (.int ((bytS.getD 1 []).getD j 0)))) = true := by decide +kernel
theorem gs_rf1 : tlB 3077 (Cond.stringRef RX7 87 txS1) = true := by decide +kernel
theorem gs_ne : gvB 146 (Cond.not (Cond.eq (Term.string RX7 29) (Term.string RX7 87))) = true := by decide +kernel
theorem gs_cs : gvB 4 (Cond.eq (.static "java/lang/String" "COMPACT_STRINGS" "Z") (.int 1)) = true := by decide +kernel
theorem gs_si : gvB 5 (Cond.isRef (.static "jdk/internal/util/Preconditions" "SIOOBE_FORMATTER" "Ljava/util/function/BiFunction;")) = true := by decide +kernel
theorem gw_ls : tlB 1052 (Cond.laysStatic "java/lang/String" "COMPACT_STRINGS" "Z") = true := by decide +kernel
theorem gw_lp : tlB 1068 (Cond.laysStatic "jdk/internal/util/Preconditions" "SIOOBE_FORMATTER" "Ljava/util/function/BiFunction;") = true := by decide +kernel
theorem gw_is : tlB 1004 (Cond.initialized "java/lang/String") = true := by decide +kernel
theorem gw_ip : tlB 1006 (Cond.initialized "jdk/internal/util/Preconditions") = true := by decide +kernel
theorem gw_a0 : tlB 1129 (Cond.arrayClass .int) = true := by decide +kernel
theorem gw_a1 : tlB 1127 (Cond.arrayClass .byte) = true := by decide +kernel
theorem gw_a2 : tlB 1158 (Cond.arrayClass .boolean) = true := by decide +kernel
theorem gw_a3 : tlB 1128 (Cond.arrayClass .long) = true := by decide +kernel
theorem gw_a4 : tlB 2099 (Cond.arrayOver (.object RX6)) = true := by decide +kernel
theorem gw_a5 : tlB 2101 (Cond.arrayOver (.object RX3)) = true := by decide +kernel
theorem gw_c0 : tlB 1131 (Cond.instantiable RX0 15) = true := by decide +kernel
theorem gw_c1 : tlB 1137 (Cond.instantiable RX1 4) = true := by decide +kernel
theorem gw_c2 : tlB 2163 (Cond.instantiable RX2 6) = true := by decide +kernel
theorem gw_c3 : tlB 2083 (Cond.instantiable RX3 1) = true := by decide +kernel
theorem gw_c4 : tlB 2093 (Cond.instantiable RX4 6) = true := by decide +kernel
theorem gw_c5 : tlB 1031 (Cond.instantiable RX5 12) = true := by decide +kernel
theorem gw_c6 : tlB 2032 (Cond.instantiable RX6 10) = true := by decide +kernel
theorem gw_c7 : tlB 1037 (Cond.instantiable RX7 9) = true := by decide +kernel
theorem gw_c8 : tlB 2125 (Cond.instantiable RX8 4) = true := by decide +kernel
theorem gw_c9 : tlB 2145 (Cond.instantiable RX9 3) = true := by decide +kernel
theorem gw_c10 : tlB 2190 (Cond.instantiable RX10 3) = true := by decide +kernel
theorem gw_c11 : tlB 1023 (Cond.instantiable RX11 9) = true := by decide +kernel
theorem gw_c12 : tlB 6089 (Cond.instantiable RX12 76) = true := by decide +kernel
theorem arr_of {args : Array Value} {s : State} {t : FieldType} (h : (Cond.arrayClass t).before args s = true) (ht : ∀ U c, va_RA U c t = (U.vm.findClass ("[" ++ t.toString) = some c)) : ∃ cA, ArrOfT s cA t ∧ va_RA s cA t := by
  obtain ⟨cA, k, comp, h1, h2, h3⟩ := Cond.arrayClass_spec h
  exact ⟨cA, fun n z => ⟨(fun k hk => by cases hk), k, h2, comp, h3⟩, by rw [ht]; exact h1⟩
theorem arr_ob {args : Array Value} {s : State} {C : String} (h : (Cond.arrayOver (.object C)).before args s = true) : ∃ cA, ArrOfT s cA (.object C) ∧ va_RA s cA (.object C) := by
  obtain ⟨comp, cA, k, h1, -, h2, h3, h4⟩ := Cond.arrayOver_spec h
  exact ⟨cA, fun n z => ⟨(fun k hk => by cases hk), k, h2, comp, h3⟩, k, comp, h2, h3, h1, h4⟩
theorem ev_of {s : State} {b : Nat} (hts : ∀ w ∈ lw_tbl, w.before #[Value.ref b] s = true) (hg : gvT.before #[Value.ref b] s = true) : ∃ X : CX, EV X (fun q => s.heap.size ≤ q) s := by
  have hts2 : ∀ w ∈ TS, w.before #[Value.ref b] s = true := fun w hw => hts w (List.mem_filter.mp hw).1
  have hA : ∀ a : Nat, a < s.heap.size → ¬ (fun q => s.heap.size ≤ q) a := fun a h => Nat.not_le.mpr h
  obtain ⟨c0, i0, k0⟩ := u_known (C := RX0) (T := TX0) (N := 15) (n := 15) hts2 inT0 (hts _ (tl_in gw_c0))
  obtain ⟨c1, i1, k1⟩ := u_known (C := RX1) (T := TX1) (N := 4) (n := 4) hts2 inT1 (hts _ (tl_in gw_c1))
  obtain ⟨c2, i2, k2⟩ := u_known (C := RX2) (T := TX2) (N := 6) (n := 6) hts2 inT2 (hts _ (tl_in gw_c2))
  obtain ⟨c3, i3, k3⟩ := u_known (C := RX3) (T := TX3) (N := 1) (n := 1) hts2 inT3 (hts _ (tl_in gw_c3))
  obtain ⟨c4, i4, k4⟩ := u_known (C := RX4) (T := TX4) (N := 6) (n := 6) hts2 inT4 (hts _ (tl_in gw_c4))
  obtain ⟨c5, i5, k5⟩ := u_known (C := RX5) (T := TX5) (N := 12) (n := 12) hts2 inT5 (hts _ (tl_in gw_c5))
  obtain ⟨c6, i6, k6⟩ := u_known (C := RX6) (T := TX6) (N := 10) (n := 10) hts2 inT6 (hts _ (tl_in gw_c6))
  obtain ⟨c7, i7, k7⟩ := u_known (C := RX7) (T := TX7) (N := 9) (n := 9) hts2 inT7 (hts _ (tl_in gw_c7))
  obtain ⟨c8, i8, k8⟩ := u_known (C := RX8) (T := TX8) (N := 4) (n := 4) hts2 inT8 (hts _ (tl_in gw_c8))
  obtain ⟨c9, i9, k9⟩ := u_known (C := RX9) (T := TX9) (N := 3) (n := 3) hts2 inT9 (hts _ (tl_in gw_c9))
  obtain ⟨c10, i10, k10⟩ := u_known (C := RX10) (T := TX10) (N := 3) (n := 3) hts2 inT10 (hts _ (tl_in gw_c10))
  obtain ⟨c11, i11, k11⟩ := u_known (C := RX11) (T := TX11) (N := 9) (n := 9) hts2 inT11 (hts _ (tl_in gw_c11))
  obtain ⟨c12, i12, k12⟩ := u_known (C := RX12) (T := TX12) (N := 76) (n := 76) hts2 inT12 (hts _ (tl_in gw_c12))
  obtain ⟨a0, a01, a02⟩ := arr_of (t := .int) (hts _ (tl_in gw_a0)) (fun _ _ => rfl)
  obtain ⟨a1, a11, a12⟩ := arr_of (t := .byte) (hts _ (tl_in gw_a1)) (fun _ _ => rfl)
  obtain ⟨a2, a21, a22⟩ := arr_of (t := .boolean) (hts _ (tl_in gw_a2)) (fun _ _ => rfl)
  obtain ⟨a3, a31, a32⟩ := arr_of (t := .long) (hts _ (tl_in gw_a3)) (fun _ _ => rfl)
  obtain ⟨a4, a41, a42⟩ := arr_ob (C := RX6) (hts _ (tl_in gw_a4))
  obtain ⟨a5, a51, a52⟩ := arr_ob (C := RX3) (hts _ (tl_in gw_a5))
  obtain ⟨adK, adV, hSt, hEv⟩ := vk_Sof (s := s) (args := #[Value.ref b]) (N := 2) (tm := fun i => match i with | 0 => Term.string RX7 29 | _ => Term.string RX7 87) (len := lenS) (byt := bytS) (A := fun q => s.heap.size ≤ q)
    (fun i hi => by
    match i, hi with
    | 0, _ => exact by decide
    | 1, _ => exact by decide)
    (fun i hi => by
    match i, hi with
    | 0, _ => exact gv_in hg gs_ex0
    | 1, _ => exact gv_in hg gs_ex1)
    (fun i hi => by
    match i, hi with
    | 0, _ => exact gv_in hg gs_co0
    | 1, _ => exact gv_in hg gs_co1)
    (fun i hi => by
    match i, hi with
    | 0, _ => exact gv_in hg gs_ar0
    | 1, _ => exact gv_in hg gs_ar1)
    (fun i hi => by
    match i, hi with
    | 0, _ => exact gv_in hg gs_le0
    | 1, _ => exact gv_in hg gs_le1)
    (fun i hi => by
    match i, hi with
    | 0, _ => exact fun j hj => gv_in hg (List.all_eq_true.mp gs_el0 j (List.mem_range.mpr hj))
    | 1, _ => exact fun j hj => gv_in hg (List.all_eq_true.mp gs_el1 j (List.mem_range.mpr hj)))
    (fun i j hi hj hij => by
    match i, j, hi, hj, hij with
    | 0, 0, _, _, h => exact absurd rfl h
    | 0, 1, _, _, _ => exact Or.inl (gv_in hg gs_ne)
    | 1, 0, _, _, _ => exact Or.inr (gv_in hg gs_ne)
    | 1, 1, _, _, h => exact absurd rfl h) hA
  obtain ⟨v, hv, hvr⟩ := Cond.isRef_spec (gv_in hg gs_si)
  obtain ⟨q, hq⟩ : ∃ q : Nat, v = va_rf (if q = 0 then none else some (q - 1)) := by
    cases v with
    | null => exact ⟨0, rfl⟩
    | ref a => exact ⟨a + 1, rfl⟩
    | _ => cases hvr
  rw [hq] at hv
  refine ⟨((fun k => match k with | 0 => c0 | 1 => c1 | 2 => c2 | 3 => c3 | 4 => c4 | 5 => c5 | 6 => c6 | 7 => c7 | 8 => c8 | 9 => c9 | 10 => c10 | 11 => c11 | _ => c12), (fun k => match k with | 0 => i0 | 1 => i1 | 2 => i2 | 3 => i3 | 4 => i4 | 5 => i5 | 6 => i6 | 7 => i7 | 8 => i8 | 9 => i9 | 10 => i10 | 11 => i11 | _ => i12), (fun k => match k with | 0 => a0 | 1 => a1 | 2 => a2 | 3 => a3 | 4 => a4 | _ => a5), adK, adV, q), ⟨?_, ?_⟩, fun w hw => va_Nw.of (List.all_eq_true.mp nw_tab w hw) (hts w (nw_in w hw)), va_AO.of (hts _ (tl_in gw_a4)), va_AO.of (hts _ (tl_in gw_a5)), vk_R.of (hts _ (tl_in gs_rf0)) (hEv 0 (by decide)), vk_R.of (hts _ (tl_in gs_rf1)) (hEv 1 (by decide)), hSt, va_Zof (hts _ (tl_in gw_ls)) (hts _ (tl_in gw_is)) (va_eqi (gv_in hg gs_cs)) hA, va_Zof (hts _ (tl_in gw_lp)) (hts _ (tl_in gw_ip)) hv hA⟩
  · intro k q hq
    match k, hq with
    | 0, hq => cases hq; exact k0
    | 1, hq => cases hq; exact k1
    | 2, hq => cases hq; exact k2
    | 3, hq => cases hq; exact k3
    | 4, hq => cases hq; exact k4
    | 5, hq => cases hq; exact k5
    | 6, hq => cases hq; exact k6
    | 7, hq => cases hq; exact k7
    | 8, hq => cases hq; exact k8
    | 9, hq => cases hq; exact k9
    | 10, hq => cases hq; exact k10
    | 11, hq => cases hq; exact k11
    | 12, hq => cases hq; exact k12
    | n + 13, hq => cases hq
  · intro k q hq
    match k, hq with
    | 0, hq => cases hq; exact ⟨a01, a02⟩
    | 1, hq => cases hq; exact ⟨a11, a12⟩
    | 2, hq => cases hq; exact ⟨a21, a22⟩
    | 3, hq => cases hq; exact ⟨a31, a32⟩
    | 4, hq => cases hq; exact ⟨a41, a42⟩
    | 5, hq => cases hq; exact ⟨a51, a52⟩
    | n + 6, hq => cases hq
