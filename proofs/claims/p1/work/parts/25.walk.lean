/-! printed by wip/gen/lawwalk.py: the walk of the law -/
abbrev AL (s : State) : Nat → Prop := fun q => s.heap.size ≤ q
section LAWW
variable {X : CX} {l : Launch} {nm : String} {p : Program} {e : Env} {s : State} {m : MethodId} {below : List Frame} {meth : Method} {c : Code} {b9 : Nat} {xs : Nat → Int32} {ad0 : Nat → Nat}
theorem lw_end {t : Nat × Nat × Nat × Nat} {lv : List (Nat × Value)} {w : List AE} {pc a b n0 : Nat} (F : MF X (mL nm) room_1 p s m #[Value.ref b9] meth c (AL s)) (hi : md_i (mL nm) pc = some (.ireturn, 1, t)) (ha : a ≤ 600000) (hb : b ≤ 7302250) : AW X l (mL nm) room_1 p e s m #[Value.ref b9] below meth c (AL s) (lw_Z below #[Value.ref b9] s) n0 ad0 pc lv [.int 1] w a b := by
  intro H locs ls ad g1 g2 g3 hP hD hS hl
  refine va_forget (fun q hq => hS.2.2 q hq) ?_
  refine W.widen (k := 600000) (n := 7302250) ha hb ?_
  exact lw_ret F.1 F.2.1 F.2.2.1 F.2.2.2.2.2.2.1 (F.2.2.2.2.2.2.2.2.2.2.1 _ _ hi).1
set_option maxHeartbeats 4000000 in
set_option maxRecDepth 100000 in
theorem law_end0 (F : MF X (mL nm) room_1 p s m #[Value.ref b9] meth c (AL s)) (hX : va_X b9 6 xs s s.heap) (hbl : b9 < s.heap.size) (had : ad0 1000030 = b9) : AW X l (mL nm) room_1 p e s m #[Value.ref b9] below meth c (AL s) (lw_Z below #[Value.ref b9] s) 0 ad0 1442 lvE [] [] 200 33081 := by
  have hbA : ¬ AL s b9 := Nat.not_le.mpr hbl
  repeat (first
    | refine aw_u F rfl rfl ⟨Nat.le_of_ble_eq_true rfl, Nat.le_of_ble_eq_true rfl⟩ ?_
    | refine aw_slen F hX hbl hbA had (Nat.zero_le _) rfl ?_)
  exact lw_end F rfl (Nat.le_of_ble_eq_true rfl) (Nat.le_of_ble_eq_true rfl)
set_option maxHeartbeats 4000000 in
set_option maxRecDepth 100000 in
theorem lc_0 (F : MF X (mL nm) room_1 p s m #[Value.ref b9] meth c (AL s)) (hX : va_X b9 6 xs s s.heap) (hbl : b9 < s.heap.size) (had : ad0 1000030 = b9) (hq : LawEq X l 145 194 [.int (xs 1), .int (xs 2), .int (xs 3), .int (xs 4), .int (xs 5)]) : AW X l (mL nm) room_1 p e s m #[Value.ref b9] below meth c (AL s) (lw_Z below #[Value.ref b9] s) 0 ad0 224 lvC [] wCM 200 33081 := by
  have hbA : ¬ AL s b9 := Nat.not_le.mpr hbl
  obtain ⟨v, hC, hM⟩ := hq
  repeat (first
    | refine aw_u F rfl rfl ⟨Nat.le_of_ble_eq_true rfl, Nat.le_of_ble_eq_true rfl⟩ ?_
    | refine aw_sld F hX hbl hbA had (by first | (rw [len_CM]; omega) | (rw [len_M]; omega)) rfl (inR_in rfl) ?_)
  refine lw_callC (As := [.int (xs 1), .int (xs 2), .int (xs 3), .int (xs 4), .int (xs 5)]) (v := v) F rfl (show lcB 145 5 = true by decide +kernel) ⟨Nat.le_of_ble_eq_true rfl, Nat.le_of_ble_eq_true rfl⟩ rfl rfl hC (fun ad2 had2 => ?_)
  have had3 := had2.trans had
  repeat (first
    | refine aw_u F rfl rfl ⟨Nat.le_of_ble_eq_true rfl, Nat.le_of_ble_eq_true rfl⟩ ?_
    | refine aw_sld F hX hbl hbA had3 (by first | (rw [len_CM]; omega) | (rw [len_M]; omega)) rfl (inR_in rfl) ?_)
  refine lw_callM (As := [.int (xs 1), .int (xs 2), .int (xs 3), .int (xs 4), .int (xs 5)]) (u := v) (v := v) F rfl (show lcB 194 5 = true by decide +kernel) ⟨Nat.le_of_ble_eq_true rfl, Nat.le_of_ble_eq_true rfl⟩ rfl rfl hM (fun ad4 had4 => ?_)
  refine aw_ic F rfl (of_decide_eq_true rfl) (fun _ => ?_) (fun h => ?_)
  · exact law_end0 F hX hbl (had4.trans had3)
  · exfalso; simp [cmpB] at h
set_option maxHeartbeats 4000000 in
set_option maxRecDepth 100000 in
theorem lc_1 (F : MF X (mL nm) room_1 p s m #[Value.ref b9] meth c (AL s)) (hX : va_X b9 6 xs s s.heap) (hbl : b9 < s.heap.size) (had : ad0 1000030 = b9) (hq : LawEq X l 146 196 [.int (xs 1)]) : AW X l (mL nm) room_1 p e s m #[Value.ref b9] below meth c (AL s) (lw_Z below #[Value.ref b9] s) 0 ad0 287 lvC [] wCM 200 33081 := by
  have hbA : ¬ AL s b9 := Nat.not_le.mpr hbl
  obtain ⟨v, hC, hM⟩ := hq
  repeat (first
    | refine aw_u F rfl rfl ⟨Nat.le_of_ble_eq_true rfl, Nat.le_of_ble_eq_true rfl⟩ ?_
    | refine aw_sld F hX hbl hbA had (by first | (rw [len_CM]; omega) | (rw [len_M]; omega)) rfl (inR_in rfl) ?_)
  refine lw_callC (As := [.int (xs 1)]) (v := v) F rfl (show lcB 146 1 = true by decide +kernel) ⟨Nat.le_of_ble_eq_true rfl, Nat.le_of_ble_eq_true rfl⟩ rfl rfl hC (fun ad2 had2 => ?_)
  have had3 := had2.trans had
  repeat (first
    | refine aw_u F rfl rfl ⟨Nat.le_of_ble_eq_true rfl, Nat.le_of_ble_eq_true rfl⟩ ?_
    | refine aw_sld F hX hbl hbA had3 (by first | (rw [len_CM]; omega) | (rw [len_M]; omega)) rfl (inR_in rfl) ?_)
  refine lw_callM (As := [.int (xs 1)]) (u := v) (v := v) F rfl (show lcB 196 1 = true by decide +kernel) ⟨Nat.le_of_ble_eq_true rfl, Nat.le_of_ble_eq_true rfl⟩ rfl rfl hM (fun ad4 had4 => ?_)
  refine aw_ic F rfl (of_decide_eq_true rfl) (fun _ => ?_) (fun h => ?_)
  · exact law_end0 F hX hbl (had4.trans had3)
  · exfalso; simp [cmpB] at h
set_option maxHeartbeats 4000000 in
set_option maxRecDepth 100000 in
theorem lc_2 (F : MF X (mL nm) room_1 p s m #[Value.ref b9] meth c (AL s)) (hX : va_X b9 6 xs s s.heap) (hbl : b9 < s.heap.size) (had : ad0 1000030 = b9) (hq : LawEq X l 147 211 []) : AW X l (mL nm) room_1 p e s m #[Value.ref b9] below meth c (AL s) (lw_Z below #[Value.ref b9] s) 0 ad0 310 lvC [] wCM 200 33081 := by
  have hbA : ¬ AL s b9 := Nat.not_le.mpr hbl
  obtain ⟨v, hC, hM⟩ := hq
  repeat (first
    | refine aw_u F rfl rfl ⟨Nat.le_of_ble_eq_true rfl, Nat.le_of_ble_eq_true rfl⟩ ?_
    | refine aw_sld F hX hbl hbA had (by first | (rw [len_CM]; omega) | (rw [len_M]; omega)) rfl (inR_in rfl) ?_)
  refine lw_callC (As := []) (v := v) F rfl (show lcB 147 0 = true by decide +kernel) ⟨Nat.le_of_ble_eq_true rfl, Nat.le_of_ble_eq_true rfl⟩ rfl rfl hC (fun ad2 had2 => ?_)
  have had3 := had2.trans had
  repeat (first
    | refine aw_u F rfl rfl ⟨Nat.le_of_ble_eq_true rfl, Nat.le_of_ble_eq_true rfl⟩ ?_
    | refine aw_sld F hX hbl hbA had3 (by first | (rw [len_CM]; omega) | (rw [len_M]; omega)) rfl (inR_in rfl) ?_)
  refine lw_callM (As := []) (u := v) (v := v) F rfl (show lcB 211 0 = true by decide +kernel) ⟨Nat.le_of_ble_eq_true rfl, Nat.le_of_ble_eq_true rfl⟩ rfl rfl hM (fun ad4 had4 => ?_)
  refine aw_ic F rfl (of_decide_eq_true rfl) (fun _ => ?_) (fun h => ?_)
  · exact law_end0 F hX hbl (had4.trans had3)
  · exfalso; simp [cmpB] at h
set_option maxHeartbeats 4000000 in
set_option maxRecDepth 100000 in
theorem lc_3 (F : MF X (mL nm) room_1 p s m #[Value.ref b9] meth c (AL s)) (hX : va_X b9 6 xs s s.heap) (hbl : b9 < s.heap.size) (had : ad0 1000030 = b9) (hq : LawEq X l 148 212 []) : AW X l (mL nm) room_1 p e s m #[Value.ref b9] below meth c (AL s) (lw_Z below #[Value.ref b9] s) 0 ad0 323 lvC [] wCM 200 33081 := by
  have hbA : ¬ AL s b9 := Nat.not_le.mpr hbl
  obtain ⟨v, hC, hM⟩ := hq
  repeat (first
    | refine aw_u F rfl rfl ⟨Nat.le_of_ble_eq_true rfl, Nat.le_of_ble_eq_true rfl⟩ ?_
    | refine aw_sld F hX hbl hbA had (by first | (rw [len_CM]; omega) | (rw [len_M]; omega)) rfl (inR_in rfl) ?_)
  refine lw_callC (As := []) (v := v) F rfl (show lcB 148 0 = true by decide +kernel) ⟨Nat.le_of_ble_eq_true rfl, Nat.le_of_ble_eq_true rfl⟩ rfl rfl hC (fun ad2 had2 => ?_)
  have had3 := had2.trans had
  repeat (first
    | refine aw_u F rfl rfl ⟨Nat.le_of_ble_eq_true rfl, Nat.le_of_ble_eq_true rfl⟩ ?_
    | refine aw_sld F hX hbl hbA had3 (by first | (rw [len_CM]; omega) | (rw [len_M]; omega)) rfl (inR_in rfl) ?_)
  refine lw_callM (As := []) (u := v) (v := v) F rfl (show lcB 212 0 = true by decide +kernel) ⟨Nat.le_of_ble_eq_true rfl, Nat.le_of_ble_eq_true rfl⟩ rfl rfl hM (fun ad4 had4 => ?_)
  refine aw_ic F rfl (of_decide_eq_true rfl) (fun _ => ?_) (fun h => ?_)
  · exact law_end0 F hX hbl (had4.trans had3)
  · exfalso; simp [cmpB] at h
set_option maxHeartbeats 4000000 in
set_option maxRecDepth 100000 in
theorem lc_4 (F : MF X (mL nm) room_1 p s m #[Value.ref b9] meth c (AL s)) (hX : va_X b9 6 xs s s.heap) (hbl : b9 < s.heap.size) (had : ad0 1000030 = b9) (hq : LawEq X l 149 248 [.int (xs 1)]) : AW X l (mL nm) room_1 p e s m #[Value.ref b9] below meth c (AL s) (lw_Z below #[Value.ref b9] s) 0 ad0 336 lvC [] wCM 200 33081 := by
  have hbA : ¬ AL s b9 := Nat.not_le.mpr hbl
  obtain ⟨v, hC, hM⟩ := hq
  repeat (first
    | refine aw_u F rfl rfl ⟨Nat.le_of_ble_eq_true rfl, Nat.le_of_ble_eq_true rfl⟩ ?_
    | refine aw_sld F hX hbl hbA had (by first | (rw [len_CM]; omega) | (rw [len_M]; omega)) rfl (inR_in rfl) ?_)
  refine lw_callC (As := [.int (xs 1)]) (v := v) F rfl (show lcB 149 1 = true by decide +kernel) ⟨Nat.le_of_ble_eq_true rfl, Nat.le_of_ble_eq_true rfl⟩ rfl rfl hC (fun ad2 had2 => ?_)
  have had3 := had2.trans had
  repeat (first
    | refine aw_u F rfl rfl ⟨Nat.le_of_ble_eq_true rfl, Nat.le_of_ble_eq_true rfl⟩ ?_
    | refine aw_sld F hX hbl hbA had3 (by first | (rw [len_CM]; omega) | (rw [len_M]; omega)) rfl (inR_in rfl) ?_)
  refine lw_callM (As := [.int (xs 1)]) (u := v) (v := v) F rfl (show lcB 248 1 = true by decide +kernel) ⟨Nat.le_of_ble_eq_true rfl, Nat.le_of_ble_eq_true rfl⟩ rfl rfl hM (fun ad4 had4 => ?_)
  refine aw_ic F rfl (of_decide_eq_true rfl) (fun _ => ?_) (fun h => ?_)
  · exact law_end0 F hX hbl (had4.trans had3)
  · exfalso; simp [cmpB] at h
set_option maxHeartbeats 4000000 in
set_option maxRecDepth 100000 in
theorem lc_5 (F : MF X (mL nm) room_1 p s m #[Value.ref b9] meth c (AL s)) (hX : va_X b9 6 xs s s.heap) (hbl : b9 < s.heap.size) (had : ad0 1000030 = b9) (hq : LawEq X l 150 249 [.int (xs 1), .int (xs 2)]) : AW X l (mL nm) room_1 p e s m #[Value.ref b9] below meth c (AL s) (lw_Z below #[Value.ref b9] s) 0 ad0 359 lvC [] wCM 200 33081 := by
  have hbA : ¬ AL s b9 := Nat.not_le.mpr hbl
  obtain ⟨v, hC, hM⟩ := hq
  repeat (first
    | refine aw_u F rfl rfl ⟨Nat.le_of_ble_eq_true rfl, Nat.le_of_ble_eq_true rfl⟩ ?_
    | refine aw_sld F hX hbl hbA had (by first | (rw [len_CM]; omega) | (rw [len_M]; omega)) rfl (inR_in rfl) ?_)
  refine lw_callC (As := [.int (xs 1), .int (xs 2)]) (v := v) F rfl (show lcB 150 2 = true by decide +kernel) ⟨Nat.le_of_ble_eq_true rfl, Nat.le_of_ble_eq_true rfl⟩ rfl rfl hC (fun ad2 had2 => ?_)
  have had3 := had2.trans had
  repeat (first
    | refine aw_u F rfl rfl ⟨Nat.le_of_ble_eq_true rfl, Nat.le_of_ble_eq_true rfl⟩ ?_
    | refine aw_sld F hX hbl hbA had3 (by first | (rw [len_CM]; omega) | (rw [len_M]; omega)) rfl (inR_in rfl) ?_)
  refine lw_callM (As := [.int (xs 1), .int (xs 2)]) (u := v) (v := v) F rfl (show lcB 249 2 = true by decide +kernel) ⟨Nat.le_of_ble_eq_true rfl, Nat.le_of_ble_eq_true rfl⟩ rfl rfl hM (fun ad4 had4 => ?_)
  refine aw_ic F rfl (of_decide_eq_true rfl) (fun _ => ?_) (fun h => ?_)
  · exact law_end0 F hX hbl (had4.trans had3)
  · exfalso; simp [cmpB] at h
set_option maxHeartbeats 4000000 in
set_option maxRecDepth 100000 in
theorem lc_6 (F : MF X (mL nm) room_1 p s m #[Value.ref b9] meth c (AL s)) (hX : va_X b9 6 xs s s.heap) (hbl : b9 < s.heap.size) (had : ad0 1000030 = b9) (hq : LawEq X l 151 250 [.int (xs 1), .int (xs 2)]) : AW X l (mL nm) room_1 p e s m #[Value.ref b9] below meth c (AL s) (lw_Z below #[Value.ref b9] s) 0 ad0 392 lvC [] wCM 200 33081 := by
  have hbA : ¬ AL s b9 := Nat.not_le.mpr hbl
  obtain ⟨v, hC, hM⟩ := hq
  repeat (first
    | refine aw_u F rfl rfl ⟨Nat.le_of_ble_eq_true rfl, Nat.le_of_ble_eq_true rfl⟩ ?_
    | refine aw_sld F hX hbl hbA had (by first | (rw [len_CM]; omega) | (rw [len_M]; omega)) rfl (inR_in rfl) ?_)
  refine lw_callC (As := [.int (xs 1), .int (xs 2)]) (v := v) F rfl (show lcB 151 2 = true by decide +kernel) ⟨Nat.le_of_ble_eq_true rfl, Nat.le_of_ble_eq_true rfl⟩ rfl rfl hC (fun ad2 had2 => ?_)
  have had3 := had2.trans had
  repeat (first
    | refine aw_u F rfl rfl ⟨Nat.le_of_ble_eq_true rfl, Nat.le_of_ble_eq_true rfl⟩ ?_
    | refine aw_sld F hX hbl hbA had3 (by first | (rw [len_CM]; omega) | (rw [len_M]; omega)) rfl (inR_in rfl) ?_)
  refine lw_callM (As := [.int (xs 1), .int (xs 2)]) (u := v) (v := v) F rfl (show lcB 250 2 = true by decide +kernel) ⟨Nat.le_of_ble_eq_true rfl, Nat.le_of_ble_eq_true rfl⟩ rfl rfl hM (fun ad4 had4 => ?_)
  refine aw_ic F rfl (of_decide_eq_true rfl) (fun _ => ?_) (fun h => ?_)
  · exact law_end0 F hX hbl (had4.trans had3)
  · exfalso; simp [cmpB] at h
set_option maxHeartbeats 4000000 in
set_option maxRecDepth 100000 in
theorem lc_7 (F : MF X (mL nm) room_1 p s m #[Value.ref b9] meth c (AL s)) (hX : va_X b9 6 xs s s.heap) (hbl : b9 < s.heap.size) (had : ad0 1000030 = b9) (hq : LawEq X l 152 252 [.int (xs 1)]) : AW X l (mL nm) room_1 p e s m #[Value.ref b9] below meth c (AL s) (lw_Z below #[Value.ref b9] s) 0 ad0 425 lvC [] wCM 200 33081 := by
  have hbA : ¬ AL s b9 := Nat.not_le.mpr hbl
  obtain ⟨v, hC, hM⟩ := hq
  repeat (first
    | refine aw_u F rfl rfl ⟨Nat.le_of_ble_eq_true rfl, Nat.le_of_ble_eq_true rfl⟩ ?_
    | refine aw_sld F hX hbl hbA had (by first | (rw [len_CM]; omega) | (rw [len_M]; omega)) rfl (inR_in rfl) ?_)
  refine lw_callC (As := [.int (xs 1)]) (v := v) F rfl (show lcB 152 1 = true by decide +kernel) ⟨Nat.le_of_ble_eq_true rfl, Nat.le_of_ble_eq_true rfl⟩ rfl rfl hC (fun ad2 had2 => ?_)
  have had3 := had2.trans had
  repeat (first
    | refine aw_u F rfl rfl ⟨Nat.le_of_ble_eq_true rfl, Nat.le_of_ble_eq_true rfl⟩ ?_
    | refine aw_sld F hX hbl hbA had3 (by first | (rw [len_CM]; omega) | (rw [len_M]; omega)) rfl (inR_in rfl) ?_)
  refine lw_callM (As := [.int (xs 1)]) (u := v) (v := v) F rfl (show lcB 252 1 = true by decide +kernel) ⟨Nat.le_of_ble_eq_true rfl, Nat.le_of_ble_eq_true rfl⟩ rfl rfl hM (fun ad4 had4 => ?_)
  refine aw_ic F rfl (of_decide_eq_true rfl) (fun _ => ?_) (fun h => ?_)
  · exact law_end0 F hX hbl (had4.trans had3)
  · exfalso; simp [cmpB] at h
set_option maxHeartbeats 4000000 in
set_option maxRecDepth 100000 in
theorem lc_8 (F : MF X (mL nm) room_1 p s m #[Value.ref b9] meth c (AL s)) (hX : va_X b9 6 xs s s.heap) (hbl : b9 < s.heap.size) (had : ad0 1000030 = b9) (hq : LawEq X l 153 253 [.int (xs 1), .int (xs 2)]) : AW X l (mL nm) room_1 p e s m #[Value.ref b9] below meth c (AL s) (lw_Z below #[Value.ref b9] s) 0 ad0 448 lvC [] wCM 200 33081 := by
  have hbA : ¬ AL s b9 := Nat.not_le.mpr hbl
  obtain ⟨v, hC, hM⟩ := hq
  repeat (first
    | refine aw_u F rfl rfl ⟨Nat.le_of_ble_eq_true rfl, Nat.le_of_ble_eq_true rfl⟩ ?_
    | refine aw_sld F hX hbl hbA had (by first | (rw [len_CM]; omega) | (rw [len_M]; omega)) rfl (inR_in rfl) ?_)
  refine lw_callC (As := [.int (xs 1), .int (xs 2)]) (v := v) F rfl (show lcB 153 2 = true by decide +kernel) ⟨Nat.le_of_ble_eq_true rfl, Nat.le_of_ble_eq_true rfl⟩ rfl rfl hC (fun ad2 had2 => ?_)
  have had3 := had2.trans had
  repeat (first
    | refine aw_u F rfl rfl ⟨Nat.le_of_ble_eq_true rfl, Nat.le_of_ble_eq_true rfl⟩ ?_
    | refine aw_sld F hX hbl hbA had3 (by first | (rw [len_CM]; omega) | (rw [len_M]; omega)) rfl (inR_in rfl) ?_)
  refine lw_callM (As := [.int (xs 1), .int (xs 2)]) (u := v) (v := v) F rfl (show lcB 253 2 = true by decide +kernel) ⟨Nat.le_of_ble_eq_true rfl, Nat.le_of_ble_eq_true rfl⟩ rfl rfl hM (fun ad4 had4 => ?_)
  refine aw_ic F rfl (of_decide_eq_true rfl) (fun _ => ?_) (fun h => ?_)
  · exact law_end0 F hX hbl (had4.trans had3)
  · exfalso; simp [cmpB] at h
set_option maxHeartbeats 4000000 in
set_option maxRecDepth 100000 in
theorem lc_9 (F : MF X (mL nm) room_1 p s m #[Value.ref b9] meth c (AL s)) (hX : va_X b9 6 xs s s.heap) (hbl : b9 < s.heap.size) (had : ad0 1000030 = b9) (hq : LawEq X l 154 255 [.int (xs 1)]) : AW X l (mL nm) room_1 p e s m #[Value.ref b9] below meth c (AL s) (lw_Z below #[Value.ref b9] s) 0 ad0 481 lvC [] wCM 200 33081 := by
  have hbA : ¬ AL s b9 := Nat.not_le.mpr hbl
  obtain ⟨v, hC, hM⟩ := hq
  repeat (first
    | refine aw_u F rfl rfl ⟨Nat.le_of_ble_eq_true rfl, Nat.le_of_ble_eq_true rfl⟩ ?_
    | refine aw_sld F hX hbl hbA had (by first | (rw [len_CM]; omega) | (rw [len_M]; omega)) rfl (inR_in rfl) ?_)
  refine lw_callC (As := [.int (xs 1)]) (v := v) F rfl (show lcB 154 1 = true by decide +kernel) ⟨Nat.le_of_ble_eq_true rfl, Nat.le_of_ble_eq_true rfl⟩ rfl rfl hC (fun ad2 had2 => ?_)
  have had3 := had2.trans had
  repeat (first
    | refine aw_u F rfl rfl ⟨Nat.le_of_ble_eq_true rfl, Nat.le_of_ble_eq_true rfl⟩ ?_
    | refine aw_sld F hX hbl hbA had3 (by first | (rw [len_CM]; omega) | (rw [len_M]; omega)) rfl (inR_in rfl) ?_)
  refine lw_callM (As := [.int (xs 1)]) (u := v) (v := v) F rfl (show lcB 255 1 = true by decide +kernel) ⟨Nat.le_of_ble_eq_true rfl, Nat.le_of_ble_eq_true rfl⟩ rfl rfl hM (fun ad4 had4 => ?_)
  refine aw_ic F rfl (of_decide_eq_true rfl) (fun _ => ?_) (fun h => ?_)
  · exact law_end0 F hX hbl (had4.trans had3)
  · exfalso; simp [cmpB] at h
set_option maxHeartbeats 4000000 in
set_option maxRecDepth 100000 in
theorem lc_10 (F : MF X (mL nm) room_1 p s m #[Value.ref b9] meth c (AL s)) (hX : va_X b9 6 xs s s.heap) (hbl : b9 < s.heap.size) (had : ad0 1000030 = b9) (hq : LawEq X l 155 256 [.int (xs 1), .int (xs 2)]) : AW X l (mL nm) room_1 p e s m #[Value.ref b9] below meth c (AL s) (lw_Z below #[Value.ref b9] s) 0 ad0 504 lvC [] wCM 200 33081 := by
  have hbA : ¬ AL s b9 := Nat.not_le.mpr hbl
  obtain ⟨v, hC, hM⟩ := hq
  repeat (first
    | refine aw_u F rfl rfl ⟨Nat.le_of_ble_eq_true rfl, Nat.le_of_ble_eq_true rfl⟩ ?_
    | refine aw_sld F hX hbl hbA had (by first | (rw [len_CM]; omega) | (rw [len_M]; omega)) rfl (inR_in rfl) ?_)
  refine lw_callC (As := [.int (xs 1), .int (xs 2)]) (v := v) F rfl (show lcB 155 2 = true by decide +kernel) ⟨Nat.le_of_ble_eq_true rfl, Nat.le_of_ble_eq_true rfl⟩ rfl rfl hC (fun ad2 had2 => ?_)
  have had3 := had2.trans had
  repeat (first
    | refine aw_u F rfl rfl ⟨Nat.le_of_ble_eq_true rfl, Nat.le_of_ble_eq_true rfl⟩ ?_
    | refine aw_sld F hX hbl hbA had3 (by first | (rw [len_CM]; omega) | (rw [len_M]; omega)) rfl (inR_in rfl) ?_)
  refine lw_callM (As := [.int (xs 1), .int (xs 2)]) (u := v) (v := v) F rfl (show lcB 256 2 = true by decide +kernel) ⟨Nat.le_of_ble_eq_true rfl, Nat.le_of_ble_eq_true rfl⟩ rfl rfl hM (fun ad4 had4 => ?_)
  refine aw_ic F rfl (of_decide_eq_true rfl) (fun _ => ?_) (fun h => ?_)
  · exact law_end0 F hX hbl (had4.trans had3)
  · exfalso; simp [cmpB] at h
set_option maxHeartbeats 4000000 in
set_option maxRecDepth 100000 in
theorem lc_11 (F : MF X (mL nm) room_1 p s m #[Value.ref b9] meth c (AL s)) (hX : va_X b9 6 xs s s.heap) (hbl : b9 < s.heap.size) (had : ad0 1000030 = b9) (hq : LawEq X l 156 257 [.int (xs 1)]) : AW X l (mL nm) room_1 p e s m #[Value.ref b9] below meth c (AL s) (lw_Z below #[Value.ref b9] s) 0 ad0 537 lvC [] wCM 200 33081 := by
  have hbA : ¬ AL s b9 := Nat.not_le.mpr hbl
  obtain ⟨v, hC, hM⟩ := hq
  repeat (first
    | refine aw_u F rfl rfl ⟨Nat.le_of_ble_eq_true rfl, Nat.le_of_ble_eq_true rfl⟩ ?_
    | refine aw_sld F hX hbl hbA had (by first | (rw [len_CM]; omega) | (rw [len_M]; omega)) rfl (inR_in rfl) ?_)
  refine lw_callC (As := [.int (xs 1)]) (v := v) F rfl (show lcB 156 1 = true by decide +kernel) ⟨Nat.le_of_ble_eq_true rfl, Nat.le_of_ble_eq_true rfl⟩ rfl rfl hC (fun ad2 had2 => ?_)
  have had3 := had2.trans had
  repeat (first
    | refine aw_u F rfl rfl ⟨Nat.le_of_ble_eq_true rfl, Nat.le_of_ble_eq_true rfl⟩ ?_
    | refine aw_sld F hX hbl hbA had3 (by first | (rw [len_CM]; omega) | (rw [len_M]; omega)) rfl (inR_in rfl) ?_)
  refine lw_callM (As := [.int (xs 1)]) (u := v) (v := v) F rfl (show lcB 257 1 = true by decide +kernel) ⟨Nat.le_of_ble_eq_true rfl, Nat.le_of_ble_eq_true rfl⟩ rfl rfl hM (fun ad4 had4 => ?_)
  refine aw_ic F rfl (of_decide_eq_true rfl) (fun _ => ?_) (fun h => ?_)
  · exact law_end0 F hX hbl (had4.trans had3)
  · exfalso; simp [cmpB] at h
set_option maxHeartbeats 4000000 in
set_option maxRecDepth 100000 in
theorem lc_12 (F : MF X (mL nm) room_1 p s m #[Value.ref b9] meth c (AL s)) (hX : va_X b9 6 xs s s.heap) (hbl : b9 < s.heap.size) (had : ad0 1000030 = b9) (hq : LawEq X l 157 258 []) : AW X l (mL nm) room_1 p e s m #[Value.ref b9] below meth c (AL s) (lw_Z below #[Value.ref b9] s) 0 ad0 560 lvC [] wCM 200 33081 := by
  have hbA : ¬ AL s b9 := Nat.not_le.mpr hbl
  obtain ⟨v, hC, hM⟩ := hq
  repeat (first
    | refine aw_u F rfl rfl ⟨Nat.le_of_ble_eq_true rfl, Nat.le_of_ble_eq_true rfl⟩ ?_
    | refine aw_sld F hX hbl hbA had (by first | (rw [len_CM]; omega) | (rw [len_M]; omega)) rfl (inR_in rfl) ?_)
  refine lw_callC (As := []) (v := v) F rfl (show lcB 157 0 = true by decide +kernel) ⟨Nat.le_of_ble_eq_true rfl, Nat.le_of_ble_eq_true rfl⟩ rfl rfl hC (fun ad2 had2 => ?_)
  have had3 := had2.trans had
  repeat (first
    | refine aw_u F rfl rfl ⟨Nat.le_of_ble_eq_true rfl, Nat.le_of_ble_eq_true rfl⟩ ?_
    | refine aw_sld F hX hbl hbA had3 (by first | (rw [len_CM]; omega) | (rw [len_M]; omega)) rfl (inR_in rfl) ?_)
  refine lw_callM (As := []) (u := v) (v := v) F rfl (show lcB 258 0 = true by decide +kernel) ⟨Nat.le_of_ble_eq_true rfl, Nat.le_of_ble_eq_true rfl⟩ rfl rfl hM (fun ad4 had4 => ?_)
  refine aw_ic F rfl (of_decide_eq_true rfl) (fun _ => ?_) (fun h => ?_)
  · exact law_end0 F hX hbl (had4.trans had3)
  · exfalso; simp [cmpB] at h
set_option maxHeartbeats 4000000 in
set_option maxRecDepth 100000 in
theorem lc_13 (F : MF X (mL nm) room_1 p s m #[Value.ref b9] meth c (AL s)) (hX : va_X b9 6 xs s s.heap) (hbl : b9 < s.heap.size) (had : ad0 1000030 = b9) (hq : LawEq X l 158 260 [.int (xs 1), .int (xs 2)]) : AW X l (mL nm) room_1 p e s m #[Value.ref b9] below meth c (AL s) (lw_Z below #[Value.ref b9] s) 0 ad0 573 lvC [] wCM 200 33081 := by
  have hbA : ¬ AL s b9 := Nat.not_le.mpr hbl
  obtain ⟨v, hC, hM⟩ := hq
  repeat (first
    | refine aw_u F rfl rfl ⟨Nat.le_of_ble_eq_true rfl, Nat.le_of_ble_eq_true rfl⟩ ?_
    | refine aw_sld F hX hbl hbA had (by first | (rw [len_CM]; omega) | (rw [len_M]; omega)) rfl (inR_in rfl) ?_)
  refine lw_callC (As := [.int (xs 1), .int (xs 2)]) (v := v) F rfl (show lcB 158 2 = true by decide +kernel) ⟨Nat.le_of_ble_eq_true rfl, Nat.le_of_ble_eq_true rfl⟩ rfl rfl hC (fun ad2 had2 => ?_)
  have had3 := had2.trans had
  repeat (first
    | refine aw_u F rfl rfl ⟨Nat.le_of_ble_eq_true rfl, Nat.le_of_ble_eq_true rfl⟩ ?_
    | refine aw_sld F hX hbl hbA had3 (by first | (rw [len_CM]; omega) | (rw [len_M]; omega)) rfl (inR_in rfl) ?_)
  refine lw_callM (As := [.int (xs 1), .int (xs 2)]) (u := v) (v := v) F rfl (show lcB 260 2 = true by decide +kernel) ⟨Nat.le_of_ble_eq_true rfl, Nat.le_of_ble_eq_true rfl⟩ rfl rfl hM (fun ad4 had4 => ?_)
  refine aw_ic F rfl (of_decide_eq_true rfl) (fun _ => ?_) (fun h => ?_)
  · exact law_end0 F hX hbl (had4.trans had3)
  · exfalso; simp [cmpB] at h
set_option maxHeartbeats 4000000 in
set_option maxRecDepth 100000 in
theorem lc_14 (F : MF X (mL nm) room_1 p s m #[Value.ref b9] meth c (AL s)) (hX : va_X b9 6 xs s s.heap) (hbl : b9 < s.heap.size) (had : ad0 1000030 = b9) (hq : LawEq X l 159 261 []) : AW X l (mL nm) room_1 p e s m #[Value.ref b9] below meth c (AL s) (lw_Z below #[Value.ref b9] s) 0 ad0 606 lvC [] wCM 200 33081 := by
  have hbA : ¬ AL s b9 := Nat.not_le.mpr hbl
  obtain ⟨v, hC, hM⟩ := hq
  repeat (first
    | refine aw_u F rfl rfl ⟨Nat.le_of_ble_eq_true rfl, Nat.le_of_ble_eq_true rfl⟩ ?_
    | refine aw_sld F hX hbl hbA had (by first | (rw [len_CM]; omega) | (rw [len_M]; omega)) rfl (inR_in rfl) ?_)
  refine lw_callC (As := []) (v := v) F rfl (show lcB 159 0 = true by decide +kernel) ⟨Nat.le_of_ble_eq_true rfl, Nat.le_of_ble_eq_true rfl⟩ rfl rfl hC (fun ad2 had2 => ?_)
  have had3 := had2.trans had
  repeat (first
    | refine aw_u F rfl rfl ⟨Nat.le_of_ble_eq_true rfl, Nat.le_of_ble_eq_true rfl⟩ ?_
    | refine aw_sld F hX hbl hbA had3 (by first | (rw [len_CM]; omega) | (rw [len_M]; omega)) rfl (inR_in rfl) ?_)
  refine lw_callM (As := []) (u := v) (v := v) F rfl (show lcB 261 0 = true by decide +kernel) ⟨Nat.le_of_ble_eq_true rfl, Nat.le_of_ble_eq_true rfl⟩ rfl rfl hM (fun ad4 had4 => ?_)
  refine aw_ic F rfl (of_decide_eq_true rfl) (fun _ => ?_) (fun h => ?_)
  · exact law_end0 F hX hbl (had4.trans had3)
  · exfalso; simp [cmpB] at h
set_option maxHeartbeats 4000000 in
set_option maxRecDepth 100000 in
theorem lc_15 (F : MF X (mL nm) room_1 p s m #[Value.ref b9] meth c (AL s)) (hX : va_X b9 6 xs s s.heap) (hbl : b9 < s.heap.size) (had : ad0 1000030 = b9) (hq : LawEq X l 160 263 [.int (xs 1), .int (xs 2)]) : AW X l (mL nm) room_1 p e s m #[Value.ref b9] below meth c (AL s) (lw_Z below #[Value.ref b9] s) 0 ad0 619 lvC [] wCM 200 33081 := by
  have hbA : ¬ AL s b9 := Nat.not_le.mpr hbl
  obtain ⟨v, hC, hM⟩ := hq
  repeat (first
    | refine aw_u F rfl rfl ⟨Nat.le_of_ble_eq_true rfl, Nat.le_of_ble_eq_true rfl⟩ ?_
    | refine aw_sld F hX hbl hbA had (by first | (rw [len_CM]; omega) | (rw [len_M]; omega)) rfl (inR_in rfl) ?_)
  refine lw_callC (As := [.int (xs 1), .int (xs 2)]) (v := v) F rfl (show lcB 160 2 = true by decide +kernel) ⟨Nat.le_of_ble_eq_true rfl, Nat.le_of_ble_eq_true rfl⟩ rfl rfl hC (fun ad2 had2 => ?_)
  have had3 := had2.trans had
  repeat (first
    | refine aw_u F rfl rfl ⟨Nat.le_of_ble_eq_true rfl, Nat.le_of_ble_eq_true rfl⟩ ?_
    | refine aw_sld F hX hbl hbA had3 (by first | (rw [len_CM]; omega) | (rw [len_M]; omega)) rfl (inR_in rfl) ?_)
  refine lw_callM (As := [.int (xs 1), .int (xs 2)]) (u := v) (v := v) F rfl (show lcB 263 2 = true by decide +kernel) ⟨Nat.le_of_ble_eq_true rfl, Nat.le_of_ble_eq_true rfl⟩ rfl rfl hM (fun ad4 had4 => ?_)
  refine aw_ic F rfl (of_decide_eq_true rfl) (fun _ => ?_) (fun h => ?_)
  · exact law_end0 F hX hbl (had4.trans had3)
  · exfalso; simp [cmpB] at h
set_option maxHeartbeats 4000000 in
set_option maxRecDepth 100000 in
theorem lc_16 (F : MF X (mL nm) room_1 p s m #[Value.ref b9] meth c (AL s)) (hX : va_X b9 6 xs s s.heap) (hbl : b9 < s.heap.size) (had : ad0 1000030 = b9) (hq : LawEq X l 161 268 [.int (xs 1)]) : AW X l (mL nm) room_1 p e s m #[Value.ref b9] below meth c (AL s) (lw_Z below #[Value.ref b9] s) 0 ad0 652 lvC [] wCM 200 33081 := by
  have hbA : ¬ AL s b9 := Nat.not_le.mpr hbl
  obtain ⟨v, hC, hM⟩ := hq
  repeat (first
    | refine aw_u F rfl rfl ⟨Nat.le_of_ble_eq_true rfl, Nat.le_of_ble_eq_true rfl⟩ ?_
    | refine aw_sld F hX hbl hbA had (by first | (rw [len_CM]; omega) | (rw [len_M]; omega)) rfl (inR_in rfl) ?_)
  refine lw_callC (As := [.int (xs 1)]) (v := v) F rfl (show lcB 161 1 = true by decide +kernel) ⟨Nat.le_of_ble_eq_true rfl, Nat.le_of_ble_eq_true rfl⟩ rfl rfl hC (fun ad2 had2 => ?_)
  have had3 := had2.trans had
  repeat (first
    | refine aw_u F rfl rfl ⟨Nat.le_of_ble_eq_true rfl, Nat.le_of_ble_eq_true rfl⟩ ?_
    | refine aw_sld F hX hbl hbA had3 (by first | (rw [len_CM]; omega) | (rw [len_M]; omega)) rfl (inR_in rfl) ?_)
  refine lw_callM (As := [.int (xs 1)]) (u := v) (v := v) F rfl (show lcB 268 1 = true by decide +kernel) ⟨Nat.le_of_ble_eq_true rfl, Nat.le_of_ble_eq_true rfl⟩ rfl rfl hM (fun ad4 had4 => ?_)
  refine aw_ic F rfl (of_decide_eq_true rfl) (fun _ => ?_) (fun h => ?_)
  · exact law_end0 F hX hbl (had4.trans had3)
  · exfalso; simp [cmpB] at h
set_option maxHeartbeats 4000000 in
set_option maxRecDepth 100000 in
theorem lc_17 (F : MF X (mL nm) room_1 p s m #[Value.ref b9] meth c (AL s)) (hX : va_X b9 6 xs s s.heap) (hbl : b9 < s.heap.size) (had : ad0 1000030 = b9) (hq : LawEq X l 162 269 [.int (xs 1), .int (xs 2)]) : AW X l (mL nm) room_1 p e s m #[Value.ref b9] below meth c (AL s) (lw_Z below #[Value.ref b9] s) 0 ad0 675 lvC [] wCM 200 33081 := by
  have hbA : ¬ AL s b9 := Nat.not_le.mpr hbl
  obtain ⟨v, hC, hM⟩ := hq
  repeat (first
    | refine aw_u F rfl rfl ⟨Nat.le_of_ble_eq_true rfl, Nat.le_of_ble_eq_true rfl⟩ ?_
    | refine aw_sld F hX hbl hbA had (by first | (rw [len_CM]; omega) | (rw [len_M]; omega)) rfl (inR_in rfl) ?_)
  refine lw_callC (As := [.int (xs 1), .int (xs 2)]) (v := v) F rfl (show lcB 162 2 = true by decide +kernel) ⟨Nat.le_of_ble_eq_true rfl, Nat.le_of_ble_eq_true rfl⟩ rfl rfl hC (fun ad2 had2 => ?_)
  have had3 := had2.trans had
  repeat (first
    | refine aw_u F rfl rfl ⟨Nat.le_of_ble_eq_true rfl, Nat.le_of_ble_eq_true rfl⟩ ?_
    | refine aw_sld F hX hbl hbA had3 (by first | (rw [len_CM]; omega) | (rw [len_M]; omega)) rfl (inR_in rfl) ?_)
  refine lw_callM (As := [.int (xs 1), .int (xs 2)]) (u := v) (v := v) F rfl (show lcB 269 2 = true by decide +kernel) ⟨Nat.le_of_ble_eq_true rfl, Nat.le_of_ble_eq_true rfl⟩ rfl rfl hM (fun ad4 had4 => ?_)
  refine aw_ic F rfl (of_decide_eq_true rfl) (fun _ => ?_) (fun h => ?_)
  · exact law_end0 F hX hbl (had4.trans had3)
  · exfalso; simp [cmpB] at h
set_option maxHeartbeats 4000000 in
set_option maxRecDepth 100000 in
theorem lc_18 (F : MF X (mL nm) room_1 p s m #[Value.ref b9] meth c (AL s)) (hX : va_X b9 6 xs s s.heap) (hbl : b9 < s.heap.size) (had : ad0 1000030 = b9) (hq : LawEq X l 163 270 [.int (xs 1)]) : AW X l (mL nm) room_1 p e s m #[Value.ref b9] below meth c (AL s) (lw_Z below #[Value.ref b9] s) 0 ad0 708 lvC [] wCM 200 33081 := by
  have hbA : ¬ AL s b9 := Nat.not_le.mpr hbl
  obtain ⟨v, hC, hM⟩ := hq
  repeat (first
    | refine aw_u F rfl rfl ⟨Nat.le_of_ble_eq_true rfl, Nat.le_of_ble_eq_true rfl⟩ ?_
    | refine aw_sld F hX hbl hbA had (by first | (rw [len_CM]; omega) | (rw [len_M]; omega)) rfl (inR_in rfl) ?_)
  refine lw_callC (As := [.int (xs 1)]) (v := v) F rfl (show lcB 163 1 = true by decide +kernel) ⟨Nat.le_of_ble_eq_true rfl, Nat.le_of_ble_eq_true rfl⟩ rfl rfl hC (fun ad2 had2 => ?_)
  have had3 := had2.trans had
  repeat (first
    | refine aw_u F rfl rfl ⟨Nat.le_of_ble_eq_true rfl, Nat.le_of_ble_eq_true rfl⟩ ?_
    | refine aw_sld F hX hbl hbA had3 (by first | (rw [len_CM]; omega) | (rw [len_M]; omega)) rfl (inR_in rfl) ?_)
  refine lw_callM (As := [.int (xs 1)]) (u := v) (v := v) F rfl (show lcB 270 1 = true by decide +kernel) ⟨Nat.le_of_ble_eq_true rfl, Nat.le_of_ble_eq_true rfl⟩ rfl rfl hM (fun ad4 had4 => ?_)
  refine aw_ic F rfl (of_decide_eq_true rfl) (fun _ => ?_) (fun h => ?_)
  · exact law_end0 F hX hbl (had4.trans had3)
  · exfalso; simp [cmpB] at h
set_option maxHeartbeats 4000000 in
set_option maxRecDepth 100000 in
theorem lc_19 (F : MF X (mL nm) room_1 p s m #[Value.ref b9] meth c (AL s)) (hX : va_X b9 6 xs s s.heap) (hbl : b9 < s.heap.size) (had : ad0 1000030 = b9) (hq : LawEq X l 164 273 [.int (xs 1), .int (xs 2)]) : AW X l (mL nm) room_1 p e s m #[Value.ref b9] below meth c (AL s) (lw_Z below #[Value.ref b9] s) 0 ad0 731 lvC [] wCM 200 33081 := by
  have hbA : ¬ AL s b9 := Nat.not_le.mpr hbl
  obtain ⟨v, hC, hM⟩ := hq
  repeat (first
    | refine aw_u F rfl rfl ⟨Nat.le_of_ble_eq_true rfl, Nat.le_of_ble_eq_true rfl⟩ ?_
    | refine aw_sld F hX hbl hbA had (by first | (rw [len_CM]; omega) | (rw [len_M]; omega)) rfl (inR_in rfl) ?_)
  refine lw_callC (As := [.int (xs 1), .int (xs 2)]) (v := v) F rfl (show lcB 164 2 = true by decide +kernel) ⟨Nat.le_of_ble_eq_true rfl, Nat.le_of_ble_eq_true rfl⟩ rfl rfl hC (fun ad2 had2 => ?_)
  have had3 := had2.trans had
  repeat (first
    | refine aw_u F rfl rfl ⟨Nat.le_of_ble_eq_true rfl, Nat.le_of_ble_eq_true rfl⟩ ?_
    | refine aw_sld F hX hbl hbA had3 (by first | (rw [len_CM]; omega) | (rw [len_M]; omega)) rfl (inR_in rfl) ?_)
  refine lw_callM (As := [.int (xs 1), .int (xs 2)]) (u := v) (v := v) F rfl (show lcB 273 2 = true by decide +kernel) ⟨Nat.le_of_ble_eq_true rfl, Nat.le_of_ble_eq_true rfl⟩ rfl rfl hM (fun ad4 had4 => ?_)
  refine aw_ic F rfl (of_decide_eq_true rfl) (fun _ => ?_) (fun h => ?_)
  · exact law_end0 F hX hbl (had4.trans had3)
  · exfalso; simp [cmpB] at h
set_option maxHeartbeats 4000000 in
set_option maxRecDepth 100000 in
theorem lc_20 (F : MF X (mL nm) room_1 p s m #[Value.ref b9] meth c (AL s)) (hX : va_X b9 6 xs s s.heap) (hbl : b9 < s.heap.size) (had : ad0 1000030 = b9) (hq : LawEq X l 165 277 [.int (xs 1)]) : AW X l (mL nm) room_1 p e s m #[Value.ref b9] below meth c (AL s) (lw_Z below #[Value.ref b9] s) 0 ad0 764 lvC [] wCM 200 33081 := by
  have hbA : ¬ AL s b9 := Nat.not_le.mpr hbl
  obtain ⟨v, hC, hM⟩ := hq
  repeat (first
    | refine aw_u F rfl rfl ⟨Nat.le_of_ble_eq_true rfl, Nat.le_of_ble_eq_true rfl⟩ ?_
    | refine aw_sld F hX hbl hbA had (by first | (rw [len_CM]; omega) | (rw [len_M]; omega)) rfl (inR_in rfl) ?_)
  refine lw_callC (As := [.int (xs 1)]) (v := v) F rfl (show lcB 165 1 = true by decide +kernel) ⟨Nat.le_of_ble_eq_true rfl, Nat.le_of_ble_eq_true rfl⟩ rfl rfl hC (fun ad2 had2 => ?_)
  have had3 := had2.trans had
  repeat (first
    | refine aw_u F rfl rfl ⟨Nat.le_of_ble_eq_true rfl, Nat.le_of_ble_eq_true rfl⟩ ?_
    | refine aw_sld F hX hbl hbA had3 (by first | (rw [len_CM]; omega) | (rw [len_M]; omega)) rfl (inR_in rfl) ?_)
  refine lw_callM (As := [.int (xs 1)]) (u := v) (v := v) F rfl (show lcB 277 1 = true by decide +kernel) ⟨Nat.le_of_ble_eq_true rfl, Nat.le_of_ble_eq_true rfl⟩ rfl rfl hM (fun ad4 had4 => ?_)
  refine aw_ic F rfl (of_decide_eq_true rfl) (fun _ => ?_) (fun h => ?_)
  · exact law_end0 F hX hbl (had4.trans had3)
  · exfalso; simp [cmpB] at h
set_option maxHeartbeats 4000000 in
set_option maxRecDepth 100000 in
theorem lc_21 (F : MF X (mL nm) room_1 p s m #[Value.ref b9] meth c (AL s)) (hX : va_X b9 6 xs s s.heap) (hbl : b9 < s.heap.size) (had : ad0 1000030 = b9) (hq : LawEq X l 166 284 []) : AW X l (mL nm) room_1 p e s m #[Value.ref b9] below meth c (AL s) (lw_Z below #[Value.ref b9] s) 0 ad0 787 lvC [] wCM 200 33081 := by
  have hbA : ¬ AL s b9 := Nat.not_le.mpr hbl
  obtain ⟨v, hC, hM⟩ := hq
  repeat (first
    | refine aw_u F rfl rfl ⟨Nat.le_of_ble_eq_true rfl, Nat.le_of_ble_eq_true rfl⟩ ?_
    | refine aw_sld F hX hbl hbA had (by first | (rw [len_CM]; omega) | (rw [len_M]; omega)) rfl (inR_in rfl) ?_)
  refine lw_callC (As := []) (v := v) F rfl (show lcB 166 0 = true by decide +kernel) ⟨Nat.le_of_ble_eq_true rfl, Nat.le_of_ble_eq_true rfl⟩ rfl rfl hC (fun ad2 had2 => ?_)
  have had3 := had2.trans had
  repeat (first
    | refine aw_u F rfl rfl ⟨Nat.le_of_ble_eq_true rfl, Nat.le_of_ble_eq_true rfl⟩ ?_
    | refine aw_sld F hX hbl hbA had3 (by first | (rw [len_CM]; omega) | (rw [len_M]; omega)) rfl (inR_in rfl) ?_)
  refine lw_callM (As := []) (u := v) (v := v) F rfl (show lcB 284 0 = true by decide +kernel) ⟨Nat.le_of_ble_eq_true rfl, Nat.le_of_ble_eq_true rfl⟩ rfl rfl hM (fun ad4 had4 => ?_)
  refine aw_ic F rfl (of_decide_eq_true rfl) (fun _ => ?_) (fun h => ?_)
  · exact law_end0 F hX hbl (had4.trans had3)
  · exfalso; simp [cmpB] at h
set_option maxHeartbeats 4000000 in
set_option maxRecDepth 100000 in
theorem lc_22 (F : MF X (mL nm) room_1 p s m #[Value.ref b9] meth c (AL s)) (hX : va_X b9 6 xs s s.heap) (hbl : b9 < s.heap.size) (had : ad0 1000030 = b9) (hq : LawEq X l 167 285 [.int (xs 1)]) : AW X l (mL nm) room_1 p e s m #[Value.ref b9] below meth c (AL s) (lw_Z below #[Value.ref b9] s) 0 ad0 800 lvC [] wCM 200 33081 := by
  have hbA : ¬ AL s b9 := Nat.not_le.mpr hbl
  obtain ⟨v, hC, hM⟩ := hq
  repeat (first
    | refine aw_u F rfl rfl ⟨Nat.le_of_ble_eq_true rfl, Nat.le_of_ble_eq_true rfl⟩ ?_
    | refine aw_sld F hX hbl hbA had (by first | (rw [len_CM]; omega) | (rw [len_M]; omega)) rfl (inR_in rfl) ?_)
  refine lw_callC (As := [.int (xs 1)]) (v := v) F rfl (show lcB 167 1 = true by decide +kernel) ⟨Nat.le_of_ble_eq_true rfl, Nat.le_of_ble_eq_true rfl⟩ rfl rfl hC (fun ad2 had2 => ?_)
  have had3 := had2.trans had
  repeat (first
    | refine aw_u F rfl rfl ⟨Nat.le_of_ble_eq_true rfl, Nat.le_of_ble_eq_true rfl⟩ ?_
    | refine aw_sld F hX hbl hbA had3 (by first | (rw [len_CM]; omega) | (rw [len_M]; omega)) rfl (inR_in rfl) ?_)
  refine lw_callM (As := [.int (xs 1)]) (u := v) (v := v) F rfl (show lcB 285 1 = true by decide +kernel) ⟨Nat.le_of_ble_eq_true rfl, Nat.le_of_ble_eq_true rfl⟩ rfl rfl hM (fun ad4 had4 => ?_)
  refine aw_ic F rfl (of_decide_eq_true rfl) (fun _ => ?_) (fun h => ?_)
  · exact law_end0 F hX hbl (had4.trans had3)
  · exfalso; simp [cmpB] at h
set_option maxHeartbeats 4000000 in
set_option maxRecDepth 100000 in
theorem lc_23 (F : MF X (mL nm) room_1 p s m #[Value.ref b9] meth c (AL s)) (hX : va_X b9 6 xs s s.heap) (hbl : b9 < s.heap.size) (had : ad0 1000030 = b9) (hq : LawEq X l 168 287 [.int (xs 1), .int (xs 2)]) : AW X l (mL nm) room_1 p e s m #[Value.ref b9] below meth c (AL s) (lw_Z below #[Value.ref b9] s) 0 ad0 823 lvC [] wCM 200 33081 := by
  have hbA : ¬ AL s b9 := Nat.not_le.mpr hbl
  obtain ⟨v, hC, hM⟩ := hq
  repeat (first
    | refine aw_u F rfl rfl ⟨Nat.le_of_ble_eq_true rfl, Nat.le_of_ble_eq_true rfl⟩ ?_
    | refine aw_sld F hX hbl hbA had (by first | (rw [len_CM]; omega) | (rw [len_M]; omega)) rfl (inR_in rfl) ?_)
  refine lw_callC (As := [.int (xs 1), .int (xs 2)]) (v := v) F rfl (show lcB 168 2 = true by decide +kernel) ⟨Nat.le_of_ble_eq_true rfl, Nat.le_of_ble_eq_true rfl⟩ rfl rfl hC (fun ad2 had2 => ?_)
  have had3 := had2.trans had
  repeat (first
    | refine aw_u F rfl rfl ⟨Nat.le_of_ble_eq_true rfl, Nat.le_of_ble_eq_true rfl⟩ ?_
    | refine aw_sld F hX hbl hbA had3 (by first | (rw [len_CM]; omega) | (rw [len_M]; omega)) rfl (inR_in rfl) ?_)
  refine lw_callM (As := [.int (xs 1), .int (xs 2)]) (u := v) (v := v) F rfl (show lcB 287 2 = true by decide +kernel) ⟨Nat.le_of_ble_eq_true rfl, Nat.le_of_ble_eq_true rfl⟩ rfl rfl hM (fun ad4 had4 => ?_)
  refine aw_ic F rfl (of_decide_eq_true rfl) (fun _ => ?_) (fun h => ?_)
  · exact law_end0 F hX hbl (had4.trans had3)
  · exfalso; simp [cmpB] at h
set_option maxHeartbeats 4000000 in
set_option maxRecDepth 100000 in
theorem lc_24 (F : MF X (mL nm) room_1 p s m #[Value.ref b9] meth c (AL s)) (hX : va_X b9 6 xs s s.heap) (hbl : b9 < s.heap.size) (had : ad0 1000030 = b9) (hq : LawEq X l 169 288 []) : AW X l (mL nm) room_1 p e s m #[Value.ref b9] below meth c (AL s) (lw_Z below #[Value.ref b9] s) 0 ad0 856 lvC [] wCM 200 33081 := by
  have hbA : ¬ AL s b9 := Nat.not_le.mpr hbl
  obtain ⟨v, hC, hM⟩ := hq
  repeat (first
    | refine aw_u F rfl rfl ⟨Nat.le_of_ble_eq_true rfl, Nat.le_of_ble_eq_true rfl⟩ ?_
    | refine aw_sld F hX hbl hbA had (by first | (rw [len_CM]; omega) | (rw [len_M]; omega)) rfl (inR_in rfl) ?_)
  refine lw_callC (As := []) (v := v) F rfl (show lcB 169 0 = true by decide +kernel) ⟨Nat.le_of_ble_eq_true rfl, Nat.le_of_ble_eq_true rfl⟩ rfl rfl hC (fun ad2 had2 => ?_)
  have had3 := had2.trans had
  repeat (first
    | refine aw_u F rfl rfl ⟨Nat.le_of_ble_eq_true rfl, Nat.le_of_ble_eq_true rfl⟩ ?_
    | refine aw_sld F hX hbl hbA had3 (by first | (rw [len_CM]; omega) | (rw [len_M]; omega)) rfl (inR_in rfl) ?_)
  refine lw_callM (As := []) (u := v) (v := v) F rfl (show lcB 288 0 = true by decide +kernel) ⟨Nat.le_of_ble_eq_true rfl, Nat.le_of_ble_eq_true rfl⟩ rfl rfl hM (fun ad4 had4 => ?_)
  refine aw_ic F rfl (of_decide_eq_true rfl) (fun _ => ?_) (fun h => ?_)
  · exact law_end0 F hX hbl (had4.trans had3)
  · exfalso; simp [cmpB] at h
set_option maxHeartbeats 4000000 in
set_option maxRecDepth 100000 in
theorem lc_25 (F : MF X (mL nm) room_1 p s m #[Value.ref b9] meth c (AL s)) (hX : va_X b9 6 xs s s.heap) (hbl : b9 < s.heap.size) (had : ad0 1000030 = b9) (hq : LawEq X l 170 274 [.int (xs 1), .int (xs 2), .int (xs 3)]) : AW X l (mL nm) room_1 p e s m #[Value.ref b9] below meth c (AL s) (lw_Z below #[Value.ref b9] s) 0 ad0 869 lvC [] wCM 200 33081 := by
  have hbA : ¬ AL s b9 := Nat.not_le.mpr hbl
  obtain ⟨v, hC, hM⟩ := hq
  repeat (first
    | refine aw_u F rfl rfl ⟨Nat.le_of_ble_eq_true rfl, Nat.le_of_ble_eq_true rfl⟩ ?_
    | refine aw_sld F hX hbl hbA had (by first | (rw [len_CM]; omega) | (rw [len_M]; omega)) rfl (inR_in rfl) ?_)
  refine lw_callC (As := [.int (xs 1), .int (xs 2), .int (xs 3)]) (v := v) F rfl (show lcB 170 3 = true by decide +kernel) ⟨Nat.le_of_ble_eq_true rfl, Nat.le_of_ble_eq_true rfl⟩ rfl rfl hC (fun ad2 had2 => ?_)
  have had3 := had2.trans had
  repeat (first
    | refine aw_u F rfl rfl ⟨Nat.le_of_ble_eq_true rfl, Nat.le_of_ble_eq_true rfl⟩ ?_
    | refine aw_sld F hX hbl hbA had3 (by first | (rw [len_CM]; omega) | (rw [len_M]; omega)) rfl (inR_in rfl) ?_)
  refine lw_callM (As := [.int (xs 1), .int (xs 2), .int (xs 3)]) (u := v) (v := v) F rfl (show lcB 274 3 = true by decide +kernel) ⟨Nat.le_of_ble_eq_true rfl, Nat.le_of_ble_eq_true rfl⟩ rfl rfl hM (fun ad4 had4 => ?_)
  refine aw_ic F rfl (of_decide_eq_true rfl) (fun _ => ?_) (fun h => ?_)
  · exact law_end0 F hX hbl (had4.trans had3)
  · exfalso; simp [cmpB] at h
set_option maxHeartbeats 4000000 in
set_option maxRecDepth 100000 in
theorem lc_26 (F : MF X (mL nm) room_1 p s m #[Value.ref b9] meth c (AL s)) (hX : va_X b9 6 xs s s.heap) (hbl : b9 < s.heap.size) (had : ad0 1000030 = b9) (hq : LawEq X l 171 275 [.int (xs 1), .int (xs 2)]) : AW X l (mL nm) room_1 p e s m #[Value.ref b9] below meth c (AL s) (lw_Z below #[Value.ref b9] s) 0 ad0 912 lvC [] wCM 200 33081 := by
  have hbA : ¬ AL s b9 := Nat.not_le.mpr hbl
  obtain ⟨v, hC, hM⟩ := hq
  repeat (first
    | refine aw_u F rfl rfl ⟨Nat.le_of_ble_eq_true rfl, Nat.le_of_ble_eq_true rfl⟩ ?_
    | refine aw_sld F hX hbl hbA had (by first | (rw [len_CM]; omega) | (rw [len_M]; omega)) rfl (inR_in rfl) ?_)
  refine lw_callC (As := [.int (xs 1), .int (xs 2)]) (v := v) F rfl (show lcB 171 2 = true by decide +kernel) ⟨Nat.le_of_ble_eq_true rfl, Nat.le_of_ble_eq_true rfl⟩ rfl rfl hC (fun ad2 had2 => ?_)
  have had3 := had2.trans had
  repeat (first
    | refine aw_u F rfl rfl ⟨Nat.le_of_ble_eq_true rfl, Nat.le_of_ble_eq_true rfl⟩ ?_
    | refine aw_sld F hX hbl hbA had3 (by first | (rw [len_CM]; omega) | (rw [len_M]; omega)) rfl (inR_in rfl) ?_)
  refine lw_callM (As := [.int (xs 1), .int (xs 2)]) (u := v) (v := v) F rfl (show lcB 275 2 = true by decide +kernel) ⟨Nat.le_of_ble_eq_true rfl, Nat.le_of_ble_eq_true rfl⟩ rfl rfl hM (fun ad4 had4 => ?_)
  refine aw_ic F rfl (of_decide_eq_true rfl) (fun _ => ?_) (fun h => ?_)
  · exact law_end0 F hX hbl (had4.trans had3)
  · exfalso; simp [cmpB] at h
set_option maxHeartbeats 4000000 in
set_option maxRecDepth 100000 in
theorem lc_27 (F : MF X (mL nm) room_1 p s m #[Value.ref b9] meth c (AL s)) (hX : va_X b9 6 xs s s.heap) (hbl : b9 < s.heap.size) (had : ad0 1000030 = b9) (hq : LawEq X l 172 278 [.int (xs 1)]) : AW X l (mL nm) room_1 p e s m #[Value.ref b9] below meth c (AL s) (lw_Z below #[Value.ref b9] s) 0 ad0 945 lvC [] wCM 200 33081 := by
  have hbA : ¬ AL s b9 := Nat.not_le.mpr hbl
  obtain ⟨v, hC, hM⟩ := hq
  repeat (first
    | refine aw_u F rfl rfl ⟨Nat.le_of_ble_eq_true rfl, Nat.le_of_ble_eq_true rfl⟩ ?_
    | refine aw_sld F hX hbl hbA had (by first | (rw [len_CM]; omega) | (rw [len_M]; omega)) rfl (inR_in rfl) ?_)
  refine lw_callC (As := [.int (xs 1)]) (v := v) F rfl (show lcB 172 1 = true by decide +kernel) ⟨Nat.le_of_ble_eq_true rfl, Nat.le_of_ble_eq_true rfl⟩ rfl rfl hC (fun ad2 had2 => ?_)
  have had3 := had2.trans had
  repeat (first
    | refine aw_u F rfl rfl ⟨Nat.le_of_ble_eq_true rfl, Nat.le_of_ble_eq_true rfl⟩ ?_
    | refine aw_sld F hX hbl hbA had3 (by first | (rw [len_CM]; omega) | (rw [len_M]; omega)) rfl (inR_in rfl) ?_)
  refine lw_callM (As := [.int (xs 1)]) (u := v) (v := v) F rfl (show lcB 278 1 = true by decide +kernel) ⟨Nat.le_of_ble_eq_true rfl, Nat.le_of_ble_eq_true rfl⟩ rfl rfl hM (fun ad4 had4 => ?_)
  refine aw_ic F rfl (of_decide_eq_true rfl) (fun _ => ?_) (fun h => ?_)
  · exact law_end0 F hX hbl (had4.trans had3)
  · exfalso; simp [cmpB] at h
set_option maxHeartbeats 4000000 in
set_option maxRecDepth 100000 in
theorem lc_28 (F : MF X (mL nm) room_1 p s m #[Value.ref b9] meth c (AL s)) (hX : va_X b9 6 xs s s.heap) (hbl : b9 < s.heap.size) (had : ad0 1000030 = b9) (hq : LawEq X l 173 293 [.int (xs 1), .int (xs 2)]) : AW X l (mL nm) room_1 p e s m #[Value.ref b9] below meth c (AL s) (lw_Z below #[Value.ref b9] s) 0 ad0 968 lvC [] wCM 200 33081 := by
  have hbA : ¬ AL s b9 := Nat.not_le.mpr hbl
  obtain ⟨v, hC, hM⟩ := hq
  repeat (first
    | refine aw_u F rfl rfl ⟨Nat.le_of_ble_eq_true rfl, Nat.le_of_ble_eq_true rfl⟩ ?_
    | refine aw_sld F hX hbl hbA had (by first | (rw [len_CM]; omega) | (rw [len_M]; omega)) rfl (inR_in rfl) ?_)
  refine lw_callC (As := [.int (xs 1), .int (xs 2)]) (v := v) F rfl (show lcB 173 2 = true by decide +kernel) ⟨Nat.le_of_ble_eq_true rfl, Nat.le_of_ble_eq_true rfl⟩ rfl rfl hC (fun ad2 had2 => ?_)
  have had3 := had2.trans had
  repeat (first
    | refine aw_u F rfl rfl ⟨Nat.le_of_ble_eq_true rfl, Nat.le_of_ble_eq_true rfl⟩ ?_
    | refine aw_sld F hX hbl hbA had3 (by first | (rw [len_CM]; omega) | (rw [len_M]; omega)) rfl (inR_in rfl) ?_)
  refine lw_callM (As := [.int (xs 1), .int (xs 2)]) (u := v) (v := v) F rfl (show lcB 293 2 = true by decide +kernel) ⟨Nat.le_of_ble_eq_true rfl, Nat.le_of_ble_eq_true rfl⟩ rfl rfl hM (fun ad4 had4 => ?_)
  refine aw_ic F rfl (of_decide_eq_true rfl) (fun _ => ?_) (fun h => ?_)
  · exact law_end0 F hX hbl (had4.trans had3)
  · exfalso; simp [cmpB] at h
set_option maxHeartbeats 4000000 in
set_option maxRecDepth 100000 in
theorem lc_29 (F : MF X (mL nm) room_1 p s m #[Value.ref b9] meth c (AL s)) (hX : va_X b9 6 xs s s.heap) (hbl : b9 < s.heap.size) (had : ad0 1000030 = b9) (hq : LawEq X l 174 297 [.int (xs 1)]) : AW X l (mL nm) room_1 p e s m #[Value.ref b9] below meth c (AL s) (lw_Z below #[Value.ref b9] s) 0 ad0 1001 lvC [] wCM 200 33081 := by
  have hbA : ¬ AL s b9 := Nat.not_le.mpr hbl
  obtain ⟨v, hC, hM⟩ := hq
  repeat (first
    | refine aw_u F rfl rfl ⟨Nat.le_of_ble_eq_true rfl, Nat.le_of_ble_eq_true rfl⟩ ?_
    | refine aw_sld F hX hbl hbA had (by first | (rw [len_CM]; omega) | (rw [len_M]; omega)) rfl (inR_in rfl) ?_)
  refine lw_callC (As := [.int (xs 1)]) (v := v) F rfl (show lcB 174 1 = true by decide +kernel) ⟨Nat.le_of_ble_eq_true rfl, Nat.le_of_ble_eq_true rfl⟩ rfl rfl hC (fun ad2 had2 => ?_)
  have had3 := had2.trans had
  repeat (first
    | refine aw_u F rfl rfl ⟨Nat.le_of_ble_eq_true rfl, Nat.le_of_ble_eq_true rfl⟩ ?_
    | refine aw_sld F hX hbl hbA had3 (by first | (rw [len_CM]; omega) | (rw [len_M]; omega)) rfl (inR_in rfl) ?_)
  refine lw_callM (As := [.int (xs 1)]) (u := v) (v := v) F rfl (show lcB 297 1 = true by decide +kernel) ⟨Nat.le_of_ble_eq_true rfl, Nat.le_of_ble_eq_true rfl⟩ rfl rfl hM (fun ad4 had4 => ?_)
  refine aw_ic F rfl (of_decide_eq_true rfl) (fun _ => ?_) (fun h => ?_)
  · exact law_end0 F hX hbl (had4.trans had3)
  · exfalso; simp [cmpB] at h
set_option maxHeartbeats 4000000 in
set_option maxRecDepth 100000 in
theorem lc_30 (F : MF X (mL nm) room_1 p s m #[Value.ref b9] meth c (AL s)) (hX : va_X b9 6 xs s s.heap) (hbl : b9 < s.heap.size) (had : ad0 1000030 = b9) (hq : LawEq X l 175 292 [.int (xs 1), .int (xs 2)]) : AW X l (mL nm) room_1 p e s m #[Value.ref b9] below meth c (AL s) (lw_Z below #[Value.ref b9] s) 0 ad0 1024 lvC [] wCM 200 33081 := by
  have hbA : ¬ AL s b9 := Nat.not_le.mpr hbl
  obtain ⟨v, hC, hM⟩ := hq
  repeat (first
    | refine aw_u F rfl rfl ⟨Nat.le_of_ble_eq_true rfl, Nat.le_of_ble_eq_true rfl⟩ ?_
    | refine aw_sld F hX hbl hbA had (by first | (rw [len_CM]; omega) | (rw [len_M]; omega)) rfl (inR_in rfl) ?_)
  refine lw_callC (As := [.int (xs 1), .int (xs 2)]) (v := v) F rfl (show lcB 175 2 = true by decide +kernel) ⟨Nat.le_of_ble_eq_true rfl, Nat.le_of_ble_eq_true rfl⟩ rfl rfl hC (fun ad2 had2 => ?_)
  have had3 := had2.trans had
  repeat (first
    | refine aw_u F rfl rfl ⟨Nat.le_of_ble_eq_true rfl, Nat.le_of_ble_eq_true rfl⟩ ?_
    | refine aw_sld F hX hbl hbA had3 (by first | (rw [len_CM]; omega) | (rw [len_M]; omega)) rfl (inR_in rfl) ?_)
  refine lw_callM (As := [.int (xs 1), .int (xs 2)]) (u := v) (v := v) F rfl (show lcB 292 2 = true by decide +kernel) ⟨Nat.le_of_ble_eq_true rfl, Nat.le_of_ble_eq_true rfl⟩ rfl rfl hM (fun ad4 had4 => ?_)
  refine aw_ic F rfl (of_decide_eq_true rfl) (fun _ => ?_) (fun h => ?_)
  · exact law_end0 F hX hbl (had4.trans had3)
  · exfalso; simp [cmpB] at h
set_option maxHeartbeats 4000000 in
set_option maxRecDepth 100000 in
theorem lc_31 (F : MF X (mL nm) room_1 p s m #[Value.ref b9] meth c (AL s)) (hX : va_X b9 6 xs s s.heap) (hbl : b9 < s.heap.size) (had : ad0 1000030 = b9) (hq : LawEq X l 176 279 [.int (xs 1)]) : AW X l (mL nm) room_1 p e s m #[Value.ref b9] below meth c (AL s) (lw_Z below #[Value.ref b9] s) 0 ad0 1057 lvC [] wCM 200 33081 := by
  have hbA : ¬ AL s b9 := Nat.not_le.mpr hbl
  obtain ⟨v, hC, hM⟩ := hq
  repeat (first
    | refine aw_u F rfl rfl ⟨Nat.le_of_ble_eq_true rfl, Nat.le_of_ble_eq_true rfl⟩ ?_
    | refine aw_sld F hX hbl hbA had (by first | (rw [len_CM]; omega) | (rw [len_M]; omega)) rfl (inR_in rfl) ?_)
  refine lw_callC (As := [.int (xs 1)]) (v := v) F rfl (show lcB 176 1 = true by decide +kernel) ⟨Nat.le_of_ble_eq_true rfl, Nat.le_of_ble_eq_true rfl⟩ rfl rfl hC (fun ad2 had2 => ?_)
  have had3 := had2.trans had
  repeat (first
    | refine aw_u F rfl rfl ⟨Nat.le_of_ble_eq_true rfl, Nat.le_of_ble_eq_true rfl⟩ ?_
    | refine aw_sld F hX hbl hbA had3 (by first | (rw [len_CM]; omega) | (rw [len_M]; omega)) rfl (inR_in rfl) ?_)
  refine lw_callM (As := [.int (xs 1)]) (u := v) (v := v) F rfl (show lcB 279 1 = true by decide +kernel) ⟨Nat.le_of_ble_eq_true rfl, Nat.le_of_ble_eq_true rfl⟩ rfl rfl hM (fun ad4 had4 => ?_)
  refine aw_ic F rfl (of_decide_eq_true rfl) (fun _ => ?_) (fun h => ?_)
  · exact law_end0 F hX hbl (had4.trans had3)
  · exfalso; simp [cmpB] at h
set_option maxHeartbeats 4000000 in
set_option maxRecDepth 100000 in
theorem lc_32 (F : MF X (mL nm) room_1 p s m #[Value.ref b9] meth c (AL s)) (hX : va_X b9 6 xs s s.heap) (hbl : b9 < s.heap.size) (had : ad0 1000030 = b9) (hq : LawEq X l 177 281 [.int (xs 1), .int (xs 2)]) : AW X l (mL nm) room_1 p e s m #[Value.ref b9] below meth c (AL s) (lw_Z below #[Value.ref b9] s) 0 ad0 1080 lvC [] wCM 200 33081 := by
  have hbA : ¬ AL s b9 := Nat.not_le.mpr hbl
  obtain ⟨v, hC, hM⟩ := hq
  repeat (first
    | refine aw_u F rfl rfl ⟨Nat.le_of_ble_eq_true rfl, Nat.le_of_ble_eq_true rfl⟩ ?_
    | refine aw_sld F hX hbl hbA had (by first | (rw [len_CM]; omega) | (rw [len_M]; omega)) rfl (inR_in rfl) ?_)
  refine lw_callC (As := [.int (xs 1), .int (xs 2)]) (v := v) F rfl (show lcB 177 2 = true by decide +kernel) ⟨Nat.le_of_ble_eq_true rfl, Nat.le_of_ble_eq_true rfl⟩ rfl rfl hC (fun ad2 had2 => ?_)
  have had3 := had2.trans had
  repeat (first
    | refine aw_u F rfl rfl ⟨Nat.le_of_ble_eq_true rfl, Nat.le_of_ble_eq_true rfl⟩ ?_
    | refine aw_sld F hX hbl hbA had3 (by first | (rw [len_CM]; omega) | (rw [len_M]; omega)) rfl (inR_in rfl) ?_)
  refine lw_callM (As := [.int (xs 1), .int (xs 2)]) (u := v) (v := v) F rfl (show lcB 281 2 = true by decide +kernel) ⟨Nat.le_of_ble_eq_true rfl, Nat.le_of_ble_eq_true rfl⟩ rfl rfl hM (fun ad4 had4 => ?_)
  refine aw_ic F rfl (of_decide_eq_true rfl) (fun _ => ?_) (fun h => ?_)
  · exact law_end0 F hX hbl (had4.trans had3)
  · exfalso; simp [cmpB] at h
set_option maxHeartbeats 4000000 in
set_option maxRecDepth 100000 in
theorem lc_33 (F : MF X (mL nm) room_1 p s m #[Value.ref b9] meth c (AL s)) (hX : va_X b9 6 xs s s.heap) (hbl : b9 < s.heap.size) (had : ad0 1000030 = b9) (hq : LawEq X l 178 298 [.int (xs 1)]) : AW X l (mL nm) room_1 p e s m #[Value.ref b9] below meth c (AL s) (lw_Z below #[Value.ref b9] s) 0 ad0 1113 lvC [] wCM 200 33081 := by
  have hbA : ¬ AL s b9 := Nat.not_le.mpr hbl
  obtain ⟨v, hC, hM⟩ := hq
  repeat (first
    | refine aw_u F rfl rfl ⟨Nat.le_of_ble_eq_true rfl, Nat.le_of_ble_eq_true rfl⟩ ?_
    | refine aw_sld F hX hbl hbA had (by first | (rw [len_CM]; omega) | (rw [len_M]; omega)) rfl (inR_in rfl) ?_)
  refine lw_callC (As := [.int (xs 1)]) (v := v) F rfl (show lcB 178 1 = true by decide +kernel) ⟨Nat.le_of_ble_eq_true rfl, Nat.le_of_ble_eq_true rfl⟩ rfl rfl hC (fun ad2 had2 => ?_)
  have had3 := had2.trans had
  repeat (first
    | refine aw_u F rfl rfl ⟨Nat.le_of_ble_eq_true rfl, Nat.le_of_ble_eq_true rfl⟩ ?_
    | refine aw_sld F hX hbl hbA had3 (by first | (rw [len_CM]; omega) | (rw [len_M]; omega)) rfl (inR_in rfl) ?_)
  refine lw_callM (As := [.int (xs 1)]) (u := v) (v := v) F rfl (show lcB 298 1 = true by decide +kernel) ⟨Nat.le_of_ble_eq_true rfl, Nat.le_of_ble_eq_true rfl⟩ rfl rfl hM (fun ad4 had4 => ?_)
  refine aw_ic F rfl (of_decide_eq_true rfl) (fun _ => ?_) (fun h => ?_)
  · exact law_end0 F hX hbl (had4.trans had3)
  · exfalso; simp [cmpB] at h
set_option maxHeartbeats 4000000 in
set_option maxRecDepth 100000 in
theorem lc_34 (F : MF X (mL nm) room_1 p s m #[Value.ref b9] meth c (AL s)) (hX : va_X b9 6 xs s s.heap) (hbl : b9 < s.heap.size) (had : ad0 1000030 = b9) (hq : ∃ v, (∀ y, CallR X l wC 179 [.int (xs 1), .int y] v) ∧ (∀ y, CallR X l wM 299 [.int (xs 1), .int y] v)) : AW X l (mL nm) room_1 p e s m #[Value.ref b9] below meth c (AL s) (lw_Z below #[Value.ref b9] s) 0 ad0 1136 lvC [] wCM 200 33081 := by
  have hbA : ¬ AL s b9 := Nat.not_le.mpr hbl
  obtain ⟨v, hC, hM⟩ := hq
  have key2 : ∀ y ad2, ad2 1000030 = ad0 1000030 → AW X l (mL nm) room_1 p e s m #[Value.ref b9] below meth c (AL s) (lw_Z below #[Value.ref b9] s) 0 ad2 1177 lvM [.int y, .int (xs 1), .ref 0, .int v] wM 200 33081 := by
    intro y ad2 had2
    have had3 := had2.trans had
    refine lw_callM (As := [.int (xs 1), .int y]) (u := v) (v := v) F rfl (show lcB 299 2 = true by decide +kernel) ⟨Nat.le_of_ble_eq_true rfl, Nat.le_of_ble_eq_true rfl⟩ rfl rfl (hM y) (fun ad4 had4 => ?_)
    refine aw_ic F rfl (of_decide_eq_true rfl) (fun _ => ?_) (fun h => ?_)
    · exact law_end0 F hX hbl (had4.trans had3)
    · exfalso; simp [cmpB] at h
  have key1 : ∀ y, AW X l (mL nm) room_1 p e s m #[Value.ref b9] below meth c (AL s) (lw_Z below #[Value.ref b9] s) 0 ad0 1155 lvC [.int y, .int (xs 1), .ref 0] wCM 200 33081 := by
    intro y
    refine lw_callC (As := [.int (xs 1), .int y]) (v := v) F rfl (show lcB 179 2 = true by decide +kernel) ⟨Nat.le_of_ble_eq_true rfl, Nat.le_of_ble_eq_true rfl⟩ rfl rfl (hC y) (fun ad2 had2 => ?_)
    have had3 := had2.trans had
    repeat (first
      | refine aw_u F rfl rfl ⟨Nat.le_of_ble_eq_true rfl, Nat.le_of_ble_eq_true rfl⟩ ?_
      | refine aw_sld F hX hbl hbA had3 (by first | (rw [len_CM]; omega) | (rw [len_M]; omega)) rfl (inR_in rfl) ?_)
    refine aw_if F rfl (of_decide_eq_true rfl) (fun _ => ?_) (fun _ => ?_)
    · refine aw_u F rfl rfl ⟨Nat.le_of_ble_eq_true rfl, Nat.le_of_ble_eq_true rfl⟩ ?_
      exact key2 0 ad2 had2
    · refine aw_u F rfl rfl ⟨Nat.le_of_ble_eq_true rfl, Nat.le_of_ble_eq_true rfl⟩ ?_
      refine aw_u F rfl rfl ⟨Nat.le_of_ble_eq_true rfl, Nat.le_of_ble_eq_true rfl⟩ ?_
      exact key2 1 ad2 had2
  repeat (first
    | refine aw_u F rfl rfl ⟨Nat.le_of_ble_eq_true rfl, Nat.le_of_ble_eq_true rfl⟩ ?_
    | refine aw_sld F hX hbl hbA had (by first | (rw [len_CM]; omega) | (rw [len_M]; omega)) rfl (inR_in rfl) ?_)
  refine aw_if F rfl (of_decide_eq_true rfl) (fun _ => ?_) (fun _ => ?_)
  · refine aw_u F rfl rfl ⟨Nat.le_of_ble_eq_true rfl, Nat.le_of_ble_eq_true rfl⟩ ?_
    exact key1 0
  · refine aw_u F rfl rfl ⟨Nat.le_of_ble_eq_true rfl, Nat.le_of_ble_eq_true rfl⟩ ?_
    refine aw_u F rfl rfl ⟨Nat.le_of_ble_eq_true rfl, Nat.le_of_ble_eq_true rfl⟩ ?_
    exact key1 1
set_option maxHeartbeats 4000000 in
set_option maxRecDepth 100000 in
theorem lc_35 (F : MF X (mL nm) room_1 p s m #[Value.ref b9] meth c (AL s)) (hX : va_X b9 6 xs s s.heap) (hbl : b9 < s.heap.size) (had : ad0 1000030 = b9) (hq : LawEq X l 180 294 [.int (xs 1), .int (xs 2)]) : AW X l (mL nm) room_1 p e s m #[Value.ref b9] below meth c (AL s) (lw_Z below #[Value.ref b9] s) 0 ad0 1185 lvC [] wCM 200 33081 := by
  have hbA : ¬ AL s b9 := Nat.not_le.mpr hbl
  obtain ⟨v, hC, hM⟩ := hq
  repeat (first
    | refine aw_u F rfl rfl ⟨Nat.le_of_ble_eq_true rfl, Nat.le_of_ble_eq_true rfl⟩ ?_
    | refine aw_sld F hX hbl hbA had (by first | (rw [len_CM]; omega) | (rw [len_M]; omega)) rfl (inR_in rfl) ?_)
  refine lw_callC (As := [.int (xs 1), .int (xs 2)]) (v := v) F rfl (show lcB 180 2 = true by decide +kernel) ⟨Nat.le_of_ble_eq_true rfl, Nat.le_of_ble_eq_true rfl⟩ rfl rfl hC (fun ad2 had2 => ?_)
  have had3 := had2.trans had
  repeat (first
    | refine aw_u F rfl rfl ⟨Nat.le_of_ble_eq_true rfl, Nat.le_of_ble_eq_true rfl⟩ ?_
    | refine aw_sld F hX hbl hbA had3 (by first | (rw [len_CM]; omega) | (rw [len_M]; omega)) rfl (inR_in rfl) ?_)
  refine lw_callM (As := [.int (xs 1), .int (xs 2)]) (u := v) (v := v) F rfl (show lcB 294 2 = true by decide +kernel) ⟨Nat.le_of_ble_eq_true rfl, Nat.le_of_ble_eq_true rfl⟩ rfl rfl hM (fun ad4 had4 => ?_)
  refine aw_ic F rfl (of_decide_eq_true rfl) (fun _ => ?_) (fun h => ?_)
  · exact law_end0 F hX hbl (had4.trans had3)
  · exfalso; simp [cmpB] at h
set_option maxHeartbeats 4000000 in
set_option maxRecDepth 100000 in
theorem lc_36 (F : MF X (mL nm) room_1 p s m #[Value.ref b9] meth c (AL s)) (hX : va_X b9 6 xs s s.heap) (hbl : b9 < s.heap.size) (had : ad0 1000030 = b9) (hq : LawEq X l 181 296 [.int (xs 1)]) : AW X l (mL nm) room_1 p e s m #[Value.ref b9] below meth c (AL s) (lw_Z below #[Value.ref b9] s) 0 ad0 1218 lvC [] wCM 200 33081 := by
  have hbA : ¬ AL s b9 := Nat.not_le.mpr hbl
  obtain ⟨v, hC, hM⟩ := hq
  repeat (first
    | refine aw_u F rfl rfl ⟨Nat.le_of_ble_eq_true rfl, Nat.le_of_ble_eq_true rfl⟩ ?_
    | refine aw_sld F hX hbl hbA had (by first | (rw [len_CM]; omega) | (rw [len_M]; omega)) rfl (inR_in rfl) ?_)
  refine lw_callC (As := [.int (xs 1)]) (v := v) F rfl (show lcB 181 1 = true by decide +kernel) ⟨Nat.le_of_ble_eq_true rfl, Nat.le_of_ble_eq_true rfl⟩ rfl rfl hC (fun ad2 had2 => ?_)
  have had3 := had2.trans had
  repeat (first
    | refine aw_u F rfl rfl ⟨Nat.le_of_ble_eq_true rfl, Nat.le_of_ble_eq_true rfl⟩ ?_
    | refine aw_sld F hX hbl hbA had3 (by first | (rw [len_CM]; omega) | (rw [len_M]; omega)) rfl (inR_in rfl) ?_)
  refine lw_callM (As := [.int (xs 1)]) (u := v) (v := v) F rfl (show lcB 296 1 = true by decide +kernel) ⟨Nat.le_of_ble_eq_true rfl, Nat.le_of_ble_eq_true rfl⟩ rfl rfl hM (fun ad4 had4 => ?_)
  refine aw_ic F rfl (of_decide_eq_true rfl) (fun _ => ?_) (fun h => ?_)
  · exact law_end0 F hX hbl (had4.trans had3)
  · exfalso; simp [cmpB] at h
set_option maxHeartbeats 4000000 in
set_option maxRecDepth 100000 in
theorem lc_37 (F : MF X (mL nm) room_1 p s m #[Value.ref b9] meth c (AL s)) (hX : va_X b9 6 xs s s.heap) (hbl : b9 < s.heap.size) (had : ad0 1000030 = b9) (hq : LawEq X l 182 300 [.int (xs 1), .int (xs 2), .int (xs 3)]) : AW X l (mL nm) room_1 p e s m #[Value.ref b9] below meth c (AL s) (lw_Z below #[Value.ref b9] s) 0 ad0 1241 lvC [] wCM 200 33081 := by
  have hbA : ¬ AL s b9 := Nat.not_le.mpr hbl
  obtain ⟨v, hC, hM⟩ := hq
  repeat (first
    | refine aw_u F rfl rfl ⟨Nat.le_of_ble_eq_true rfl, Nat.le_of_ble_eq_true rfl⟩ ?_
    | refine aw_sld F hX hbl hbA had (by first | (rw [len_CM]; omega) | (rw [len_M]; omega)) rfl (inR_in rfl) ?_)
  refine lw_callC (As := [.int (xs 1), .int (xs 2), .int (xs 3)]) (v := v) F rfl (show lcB 182 3 = true by decide +kernel) ⟨Nat.le_of_ble_eq_true rfl, Nat.le_of_ble_eq_true rfl⟩ rfl rfl hC (fun ad2 had2 => ?_)
  have had3 := had2.trans had
  repeat (first
    | refine aw_u F rfl rfl ⟨Nat.le_of_ble_eq_true rfl, Nat.le_of_ble_eq_true rfl⟩ ?_
    | refine aw_sld F hX hbl hbA had3 (by first | (rw [len_CM]; omega) | (rw [len_M]; omega)) rfl (inR_in rfl) ?_)
  refine lw_callM (As := [.int (xs 1), .int (xs 2), .int (xs 3)]) (u := v) (v := v) F rfl (show lcB 300 3 = true by decide +kernel) ⟨Nat.le_of_ble_eq_true rfl, Nat.le_of_ble_eq_true rfl⟩ rfl rfl hM (fun ad4 had4 => ?_)
  refine aw_ic F rfl (of_decide_eq_true rfl) (fun _ => ?_) (fun h => ?_)
  · exact law_end0 F hX hbl (had4.trans had3)
  · exfalso; simp [cmpB] at h
set_option maxHeartbeats 4000000 in
set_option maxRecDepth 100000 in
theorem lc_38 (F : MF X (mL nm) room_1 p s m #[Value.ref b9] meth c (AL s)) (hX : va_X b9 6 xs s s.heap) (hbl : b9 < s.heap.size) (had : ad0 1000030 = b9) (hq : LawEq X l 183 301 []) : AW X l (mL nm) room_1 p e s m #[Value.ref b9] below meth c (AL s) (lw_Z below #[Value.ref b9] s) 0 ad0 1284 lvC [] wCM 200 33081 := by
  have hbA : ¬ AL s b9 := Nat.not_le.mpr hbl
  obtain ⟨v, hC, hM⟩ := hq
  repeat (first
    | refine aw_u F rfl rfl ⟨Nat.le_of_ble_eq_true rfl, Nat.le_of_ble_eq_true rfl⟩ ?_
    | refine aw_sld F hX hbl hbA had (by first | (rw [len_CM]; omega) | (rw [len_M]; omega)) rfl (inR_in rfl) ?_)
  refine lw_callC (As := []) (v := v) F rfl (show lcB 183 0 = true by decide +kernel) ⟨Nat.le_of_ble_eq_true rfl, Nat.le_of_ble_eq_true rfl⟩ rfl rfl hC (fun ad2 had2 => ?_)
  have had3 := had2.trans had
  repeat (first
    | refine aw_u F rfl rfl ⟨Nat.le_of_ble_eq_true rfl, Nat.le_of_ble_eq_true rfl⟩ ?_
    | refine aw_sld F hX hbl hbA had3 (by first | (rw [len_CM]; omega) | (rw [len_M]; omega)) rfl (inR_in rfl) ?_)
  refine lw_callM (As := []) (u := v) (v := v) F rfl (show lcB 301 0 = true by decide +kernel) ⟨Nat.le_of_ble_eq_true rfl, Nat.le_of_ble_eq_true rfl⟩ rfl rfl hM (fun ad4 had4 => ?_)
  refine aw_ic F rfl (of_decide_eq_true rfl) (fun _ => ?_) (fun h => ?_)
  · exact law_end0 F hX hbl (had4.trans had3)
  · exfalso; simp [cmpB] at h
set_option maxHeartbeats 4000000 in
set_option maxRecDepth 100000 in
theorem lc_39 (F : MF X (mL nm) room_1 p s m #[Value.ref b9] meth c (AL s)) (hX : va_X b9 6 xs s s.heap) (hbl : b9 < s.heap.size) (had : ad0 1000030 = b9) (hq : LawEq X l 184 304 [.int (xs 1), .int (xs 2), .int (xs 3)]) : AW X l (mL nm) room_1 p e s m #[Value.ref b9] below meth c (AL s) (lw_Z below #[Value.ref b9] s) 0 ad0 1297 lvC [] wCM 200 33081 := by
  have hbA : ¬ AL s b9 := Nat.not_le.mpr hbl
  obtain ⟨v, hC, hM⟩ := hq
  repeat (first
    | refine aw_u F rfl rfl ⟨Nat.le_of_ble_eq_true rfl, Nat.le_of_ble_eq_true rfl⟩ ?_
    | refine aw_sld F hX hbl hbA had (by first | (rw [len_CM]; omega) | (rw [len_M]; omega)) rfl (inR_in rfl) ?_)
  refine lw_callC (As := [.int (xs 1), .int (xs 2), .int (xs 3)]) (v := v) F rfl (show lcB 184 3 = true by decide +kernel) ⟨Nat.le_of_ble_eq_true rfl, Nat.le_of_ble_eq_true rfl⟩ rfl rfl hC (fun ad2 had2 => ?_)
  have had3 := had2.trans had
  repeat (first
    | refine aw_u F rfl rfl ⟨Nat.le_of_ble_eq_true rfl, Nat.le_of_ble_eq_true rfl⟩ ?_
    | refine aw_sld F hX hbl hbA had3 (by first | (rw [len_CM]; omega) | (rw [len_M]; omega)) rfl (inR_in rfl) ?_)
  refine lw_callM (As := [.int (xs 1), .int (xs 2), .int (xs 3)]) (u := v) (v := v) F rfl (show lcB 304 3 = true by decide +kernel) ⟨Nat.le_of_ble_eq_true rfl, Nat.le_of_ble_eq_true rfl⟩ rfl rfl hM (fun ad4 had4 => ?_)
  refine aw_ic F rfl (of_decide_eq_true rfl) (fun _ => ?_) (fun h => ?_)
  · exact law_end0 F hX hbl (had4.trans had3)
  · exfalso; simp [cmpB] at h
set_option maxHeartbeats 4000000 in
set_option maxRecDepth 100000 in
theorem lc_40 (F : MF X (mL nm) room_1 p s m #[Value.ref b9] meth c (AL s)) (hX : va_X b9 6 xs s s.heap) (hbl : b9 < s.heap.size) (had : ad0 1000030 = b9) (hq : LawEq X l 185 305 [.int (xs 1), .int (xs 2)]) : AW X l (mL nm) room_1 p e s m #[Value.ref b9] below meth c (AL s) (lw_Z below #[Value.ref b9] s) 0 ad0 1340 lvC [] wCM 200 33081 := by
  have hbA : ¬ AL s b9 := Nat.not_le.mpr hbl
  obtain ⟨v, hC, hM⟩ := hq
  repeat (first
    | refine aw_u F rfl rfl ⟨Nat.le_of_ble_eq_true rfl, Nat.le_of_ble_eq_true rfl⟩ ?_
    | refine aw_sld F hX hbl hbA had (by first | (rw [len_CM]; omega) | (rw [len_M]; omega)) rfl (inR_in rfl) ?_)
  refine lw_callC (As := [.int (xs 1), .int (xs 2)]) (v := v) F rfl (show lcB 185 2 = true by decide +kernel) ⟨Nat.le_of_ble_eq_true rfl, Nat.le_of_ble_eq_true rfl⟩ rfl rfl hC (fun ad2 had2 => ?_)
  have had3 := had2.trans had
  repeat (first
    | refine aw_u F rfl rfl ⟨Nat.le_of_ble_eq_true rfl, Nat.le_of_ble_eq_true rfl⟩ ?_
    | refine aw_sld F hX hbl hbA had3 (by first | (rw [len_CM]; omega) | (rw [len_M]; omega)) rfl (inR_in rfl) ?_)
  refine lw_callM (As := [.int (xs 1), .int (xs 2)]) (u := v) (v := v) F rfl (show lcB 305 2 = true by decide +kernel) ⟨Nat.le_of_ble_eq_true rfl, Nat.le_of_ble_eq_true rfl⟩ rfl rfl hM (fun ad4 had4 => ?_)
  refine aw_ic F rfl (of_decide_eq_true rfl) (fun _ => ?_) (fun h => ?_)
  · exact law_end0 F hX hbl (had4.trans had3)
  · exfalso; simp [cmpB] at h
set_option maxHeartbeats 4000000 in
set_option maxRecDepth 100000 in
theorem lc_41 (F : MF X (mL nm) room_1 p s m #[Value.ref b9] meth c (AL s)) (hX : va_X b9 6 xs s s.heap) (hbl : b9 < s.heap.size) (had : ad0 1000030 = b9) (hq : LawEq X l 186 306 [.int (xs 1)]) : AW X l (mL nm) room_1 p e s m #[Value.ref b9] below meth c (AL s) (lw_Z below #[Value.ref b9] s) 0 ad0 1373 lvC [] wCM 200 33081 := by
  have hbA : ¬ AL s b9 := Nat.not_le.mpr hbl
  obtain ⟨v, hC, hM⟩ := hq
  repeat (first
    | refine aw_u F rfl rfl ⟨Nat.le_of_ble_eq_true rfl, Nat.le_of_ble_eq_true rfl⟩ ?_
    | refine aw_sld F hX hbl hbA had (by first | (rw [len_CM]; omega) | (rw [len_M]; omega)) rfl (inR_in rfl) ?_)
  refine lw_callC (As := [.int (xs 1)]) (v := v) F rfl (show lcB 186 1 = true by decide +kernel) ⟨Nat.le_of_ble_eq_true rfl, Nat.le_of_ble_eq_true rfl⟩ rfl rfl hC (fun ad2 had2 => ?_)
  have had3 := had2.trans had
  repeat (first
    | refine aw_u F rfl rfl ⟨Nat.le_of_ble_eq_true rfl, Nat.le_of_ble_eq_true rfl⟩ ?_
    | refine aw_sld F hX hbl hbA had3 (by first | (rw [len_CM]; omega) | (rw [len_M]; omega)) rfl (inR_in rfl) ?_)
  refine lw_callM (As := [.int (xs 1)]) (u := v) (v := v) F rfl (show lcB 306 1 = true by decide +kernel) ⟨Nat.le_of_ble_eq_true rfl, Nat.le_of_ble_eq_true rfl⟩ rfl rfl hM (fun ad4 had4 => ?_)
  refine aw_ic F rfl (of_decide_eq_true rfl) (fun _ => ?_) (fun h => ?_)
  · exact law_end0 F hX hbl (had4.trans had3)
  · exfalso; simp [cmpB] at h
set_option maxHeartbeats 4000000 in
set_option maxRecDepth 100000 in
theorem lc_42 (F : MF X (mL nm) room_1 p s m #[Value.ref b9] meth c (AL s)) (hX : va_X b9 6 xs s s.heap) (hbl : b9 < s.heap.size) (had : ad0 1000030 = b9) (hq : LawEq X l 187 307 [.int (xs 1)]) : AW X l (mL nm) room_1 p e s m #[Value.ref b9] below meth c (AL s) (lw_Z below #[Value.ref b9] s) 0 ad0 1396 lvC [] wCM 200 33081 := by
  have hbA : ¬ AL s b9 := Nat.not_le.mpr hbl
  obtain ⟨v, hC, hM⟩ := hq
  repeat (first
    | refine aw_u F rfl rfl ⟨Nat.le_of_ble_eq_true rfl, Nat.le_of_ble_eq_true rfl⟩ ?_
    | refine aw_sld F hX hbl hbA had (by first | (rw [len_CM]; omega) | (rw [len_M]; omega)) rfl (inR_in rfl) ?_)
  refine lw_callC (As := [.int (xs 1)]) (v := v) F rfl (show lcB 187 1 = true by decide +kernel) ⟨Nat.le_of_ble_eq_true rfl, Nat.le_of_ble_eq_true rfl⟩ rfl rfl hC (fun ad2 had2 => ?_)
  have had3 := had2.trans had
  repeat (first
    | refine aw_u F rfl rfl ⟨Nat.le_of_ble_eq_true rfl, Nat.le_of_ble_eq_true rfl⟩ ?_
    | refine aw_sld F hX hbl hbA had3 (by first | (rw [len_CM]; omega) | (rw [len_M]; omega)) rfl (inR_in rfl) ?_)
  refine lw_callM (As := [.int (xs 1)]) (u := v) (v := v) F rfl (show lcB 307 1 = true by decide +kernel) ⟨Nat.le_of_ble_eq_true rfl, Nat.le_of_ble_eq_true rfl⟩ rfl rfl hM (fun ad4 had4 => ?_)
  refine aw_ic F rfl (of_decide_eq_true rfl) (fun _ => ?_) (fun h => ?_)
  · exact law_end0 F hX hbl (had4.trans had3)
  · exfalso; simp [cmpB] at h
set_option maxHeartbeats 4000000 in
set_option maxRecDepth 100000 in
theorem lc_43 (F : MF X (mL nm) room_1 p s m #[Value.ref b9] meth c (AL s)) (hX : va_X b9 6 xs s s.heap) (hbl : b9 < s.heap.size) (had : ad0 1000030 = b9) (hq : LawEq X l 188 308 [.int (xs 1)]) : AW X l (mL nm) room_1 p e s m #[Value.ref b9] below meth c (AL s) (lw_Z below #[Value.ref b9] s) 0 ad0 1419 lvC [] wCM 200 33081 := by
  have hbA : ¬ AL s b9 := Nat.not_le.mpr hbl
  obtain ⟨v, hC, hM⟩ := hq
  repeat (first
    | refine aw_u F rfl rfl ⟨Nat.le_of_ble_eq_true rfl, Nat.le_of_ble_eq_true rfl⟩ ?_
    | refine aw_sld F hX hbl hbA had (by first | (rw [len_CM]; omega) | (rw [len_M]; omega)) rfl (inR_in rfl) ?_)
  refine lw_callC (As := [.int (xs 1)]) (v := v) F rfl (show lcB 188 1 = true by decide +kernel) ⟨Nat.le_of_ble_eq_true rfl, Nat.le_of_ble_eq_true rfl⟩ rfl rfl hC (fun ad2 had2 => ?_)
  have had3 := had2.trans had
  repeat (first
    | refine aw_u F rfl rfl ⟨Nat.le_of_ble_eq_true rfl, Nat.le_of_ble_eq_true rfl⟩ ?_
    | refine aw_sld F hX hbl hbA had3 (by first | (rw [len_CM]; omega) | (rw [len_M]; omega)) rfl (inR_in rfl) ?_)
  refine lw_callM (As := [.int (xs 1)]) (u := v) (v := v) F rfl (show lcB 308 1 = true by decide +kernel) ⟨Nat.le_of_ble_eq_true rfl, Nat.le_of_ble_eq_true rfl⟩ rfl rfl hM (fun ad4 had4 => ?_)
  refine aw_ic F rfl (of_decide_eq_true rfl) (fun _ => ?_) (fun h => ?_)
  · exact law_end0 F hX hbl (had4.trans had3)
  · exfalso; simp [cmpB] at h
end LAWW
