/-! printed by wip/gen/lawloop3.py: the walk of the law -/
abbrev AL (s : State) : Nat → Prop := fun q => s.heap.size ≤ q
theorem rcC {w : List AE} {b : Nat} (hw : wok EC w) (h : Nat.beq 11 (md_k (mdOf b)) = true) : rcB (mdOf b) w 0 = true := by
  obtain ⟨k1, k2, k3, hX, -⟩ := sh_x hw
  unfold rcB
  rw [hX]
  show (Nat.beq 11 (md_k (mdOf b)) && Nat.blt 11 13) = true
  rw [h]
  rfl
theorem rcM {w : List AE} {b : Nat} (hw : wok EC w) (h : Nat.beq 12 (md_k (mdOf b)) = true) : rcB (mdOf b) w 148 = true := by
  obtain ⟨e, e1, e2⟩ := hw.2 148 (by decide)
  have e2 : okE EC 148 (dclC (ctyC 148)) e := e2
  obtain ⟨fl, rfl, -, -⟩ := e2
  unfold rcB
  rw [e1]
  show (Nat.beq 12 (md_k (mdOf b)) && Nat.blt 12 13) = true
  rw [h]
  rfl
/-- what a method needs to be called by the law -/
def lcB (b0 n k : Nat) : Bool := Nat.beq ((md_p (mdOf b0)).getD 4 0) 0 && decide (¬ (md_y (mdOf b0)).name = "<init>") && Nat.beq ((md_p (mdOf b0)).getD 5 0) n && Nat.beq k (md_k (mdOf b0))
section LAWW
variable {X : CX} {l : Launch} {nm : String} {p : Program} {e : Env} {s : State} {m : MethodId} {below : List Frame} {meth : Method} {c : Code} {b9 L : Nat} {xs : Nat → Int32} {ad0 : Nat → Nat}
theorem lw_end {t : Nat × Nat × Nat × Nat} {lv : List (Nat × Value)} {w : List AE} {pc a b n0 : Nat} (F : MF X (mL nm) room_1 p s m #[Value.ref b9] meth c (AL s)) (hi : md_i (mL nm) pc = some (.ireturn, 1, t)) (ha : a ≤ 600000) (hb : b ≤ 7302250) : AW X l (mL nm) room_1 p e s m #[Value.ref b9] below meth c (AL s) (lw_Z below #[Value.ref b9] s) n0 ad0 pc lv [.int 1] w a b := by
  intro H locs ls ad g1 g2 g3 hP hD hS hl
  refine va_forget (fun q hq => hS.2.2 q hq) ?_
  refine W.widen (k := 600000) (n := 7302250) ha hb ?_
  exact lw_ret F.1 F.2.1 F.2.2.1 F.2.2.2.2.2.2.1 (F.2.2.2.2.2.2.2.2.2.2.1 _ _ hi).1
theorem lw_callC {M : MD} {args : Array Value} {A : Nat → Prop} {Q : State → Prop} {pc idx b0 sl ps n : Nat} {As st rest : List Value} {lv : List (Nat × Value)} {w : List AE} {P : Option Value → List AE → Prop} (F : MF X M room_1 p s m args meth c A) (hi : md_i M pc = some (.invokevirtual idx, 3, 0, b0, sl, ps)) (hb : lcB b0 n 11 = true) (hn : As.length = n) (hw : wok EC w) (hst : st = As.reverse ++ .ref 0 :: rest) (hrest : (rest.map fun v => v.category).sum ≤ 8) (hwl : w.length = 200) (hM : MEx 100 b0 (.ref 0 :: As) w P)
    (hk : ∀ r w', P r w' → w'.length = 200 ∧ AW X l M room_1 p e s m args below meth c A Q 0 ad0 (pc + 3) lv (r.toList ++ rest) w' 200 33081) : AW X l M room_1 p e s m args below meth c A Q 0 ad0 pc lv st w 200 33081 := by
  subst hst
  unfold lcB at hb
  simp only [Bool.and_eq_true, decide_eq_true_eq] at hb
  obtain ⟨⟨⟨h1, h2⟩, h3⟩, h4⟩ := hb
  exact aw_callV (d' := 100) (mc' := 0) (ms' := 0) (o := 0) (As := As) (rest := rest) F hi (allOk _) (by rw [Nat.eq_of_beq_eq_true h1]; rfl) h2 (hn.trans (Nat.eq_of_beq_eq_true h3).symm) (rcC hw h4) hrest ⟨Nat.le_of_ble_eq_true rfl, Nat.le_of_ble_eq_true rfl⟩ ⟨Nat.le_of_ble_eq_true rfl, Nat.le_of_ble_eq_true rfl⟩ (mex_amet hM) (fun r w' h => ⟨.inl ((hk r w' h).1.trans hwl.symm), (hk r w' h).2⟩)
theorem lw_callM {M : MD} {args : Array Value} {A : Nat → Prop} {Q : State → Prop} {pc idx b0 sl ps n : Nat} {As st rest : List Value} {lv : List (Nat × Value)} {w : List AE} {P : Option Value → List AE → Prop} (F : MF X M room_1 p s m args meth c A) (hi : md_i M pc = some (.invokevirtual idx, 3, 0, b0, sl, ps)) (hb : lcB b0 n 12 = true) (hn : As.length = n) (hw : wok EC w) (hst : st = As.reverse ++ .ref 148 :: rest) (hrest : (rest.map fun v => v.category).sum ≤ 8) (hwl : w.length = 200) (hM : MEx 100 b0 (.ref 148 :: As) w P)
    (hk : ∀ r w', P r w' → w'.length = 200 ∧ AW X l M room_1 p e s m args below meth c A Q 0 ad0 (pc + 3) lv (r.toList ++ rest) w' 200 33081) : AW X l M room_1 p e s m args below meth c A Q 0 ad0 pc lv st w 200 33081 := by
  subst hst
  unfold lcB at hb
  simp only [Bool.and_eq_true, decide_eq_true_eq] at hb
  obtain ⟨⟨⟨h1, h2⟩, h3⟩, h4⟩ := hb
  exact aw_callV (d' := 100) (mc' := 0) (ms' := 0) (o := 148) (As := As) (rest := rest) F hi (allOk _) (by rw [Nat.eq_of_beq_eq_true h1]; rfl) h2 (hn.trans (Nat.eq_of_beq_eq_true h3).symm) (rcM hw h4) hrest ⟨Nat.le_of_ble_eq_true rfl, Nat.le_of_ble_eq_true rfl⟩ ⟨Nat.le_of_ble_eq_true rfl, Nat.le_of_ble_eq_true rfl⟩ (mex_amet hM) (fun r w' h => ⟨.inl ((hk r w' h).1.trans hwl.symm), (hk r w' h).2⟩)
/-- six ints of the script from x3 on -/
def In6 (L : Nat) (x3 : Int32) : Prop := vp_in x3 L ∧ vp_in (x3 + 1) L ∧ vp_in (x3 + 2) L ∧ vp_in (x3 + 3) L ∧ vp_in (x3 + 4) L ∧ vp_in (x3 + 5) L
set_option maxHeartbeats 4000000 in
set_option maxRecDepth 100000 in
theorem lc_0 (F : MF X (mL nm) room_1 p s m #[Value.ref b9] meth c (AL s)) (hX : va_X b9 L xs s s.heap) (hbl : b9 < s.heap.size) (had : ad0 1000030 = b9) {w : List AE} {x3 : Int32} (hR : RI w) (hg : In6 L x3) (hE : ∀ w', RI w' → AW X l (mL nm) room_1 p e s m #[Value.ref b9] below meth c (AL s) (lw_Z below #[Value.ref b9] s) 0 ad0 1442 [(3, .int x3), (2, .ref 148), (1, .ref 0), (0, .ref 1000030)] [] w' 200 33081) : AW X l (mL nm) room_1 p e s m #[Value.ref b9] below meth c (AL s) (lw_Z below #[Value.ref b9] s) 0 ad0 224 [(3, .int x3), (2, .ref 148), (1, .ref 0), (0, .ref 1000030)] [] w 200 33081 := by
  have hbA : ¬ AL s b9 := Nat.not_le.mpr hbl
  obtain ⟨-, g1, g2, g3, g4, g5⟩ := hg
  have hl0 := ri_len hR
  repeat (first
    | refine aw_u F rfl rfl ⟨Nat.le_of_ble_eq_true rfl, Nat.le_of_ble_eq_true rfl⟩ ?_
    | refine aw_sld F hX hbl hbA had (by rw [hl0]; exact Nat.le_of_ble_eq_true rfl) rfl (by first | exact g1 | exact g2 | exact g3 | exact g4 | exact g5) ?_)
  refine lw_callC (n := 5) (As := [.int (xs (x3 + 1).toNatClampNeg), .int (xs (x3 + 2).toNatClampNeg), .int (xs (x3 + 3).toNatClampNeg), .int (xs (x3 + 4).toNatClampNeg), .int (xs (x3 + 5).toNatClampNeg)]) (rest := []) F rfl (by decide +kernel) rfl (ri_wok hR) rfl (by decide) hl0 (pr_feed hR _ _ _ _ _) (fun r w1 q => ⟨q.2.2.1, ?_⟩)
  obtain ⟨⟨v, rfl⟩, hw1, hl1, hm1⟩ := q
  repeat (first
    | refine aw_u F rfl rfl ⟨Nat.le_of_ble_eq_true rfl, Nat.le_of_ble_eq_true rfl⟩ ?_
    | refine aw_sld F hX hbl hbA had (by rw [hl1]; exact Nat.le_of_ble_eq_true rfl) rfl (by first | exact g1 | exact g2 | exact g3 | exact g4 | exact g5) ?_)
  refine lw_callM (n := 5) (As := [.int (xs (x3 + 1).toNatClampNeg), .int (xs (x3 + 2).toNatClampNeg), .int (xs (x3 + 3).toNatClampNeg), .int (xs (x3 + 4).toNatClampNeg), .int (xs (x3 + 5).toNatClampNeg)]) (rest := []) F rfl (by decide +kernel) rfl hw1 rfl (by decide) hl1 hm1 (fun r w2 q => ⟨ri_len q.2.2, ?_⟩)
  obtain ⟨⟨v', rfl⟩, -, hR2⟩ := q
  refine aw_u F rfl rfl ⟨Nat.le_of_ble_eq_true rfl, Nat.le_of_ble_eq_true rfl⟩ ?_
  refine aw_u F rfl rfl ⟨Nat.le_of_ble_eq_true rfl, Nat.le_of_ble_eq_true rfl⟩ ?_
  exact hE _ hR2
set_option maxHeartbeats 4000000 in
set_option maxRecDepth 100000 in
theorem lc_1 (F : MF X (mL nm) room_1 p s m #[Value.ref b9] meth c (AL s)) (hX : va_X b9 L xs s s.heap) (hbl : b9 < s.heap.size) (had : ad0 1000030 = b9) {w : List AE} {x3 : Int32} (hR : RI w) (hg : In6 L x3) (hE : ∀ w', RI w' → AW X l (mL nm) room_1 p e s m #[Value.ref b9] below meth c (AL s) (lw_Z below #[Value.ref b9] s) 0 ad0 1442 [(3, .int x3), (2, .ref 148), (1, .ref 0), (0, .ref 1000030)] [] w' 200 33081) : AW X l (mL nm) room_1 p e s m #[Value.ref b9] below meth c (AL s) (lw_Z below #[Value.ref b9] s) 0 ad0 287 [(3, .int x3), (2, .ref 148), (1, .ref 0), (0, .ref 1000030)] [] w 200 33081 := by
  have hbA : ¬ AL s b9 := Nat.not_le.mpr hbl
  obtain ⟨-, g1, g2, g3, g4, g5⟩ := hg
  have hl0 := ri_len hR
  repeat (first
    | refine aw_u F rfl rfl ⟨Nat.le_of_ble_eq_true rfl, Nat.le_of_ble_eq_true rfl⟩ ?_
    | refine aw_sld F hX hbl hbA had (by rw [hl0]; exact Nat.le_of_ble_eq_true rfl) rfl (by first | exact g1 | exact g2 | exact g3 | exact g4 | exact g5) ?_)
  refine lw_callC (n := 1) (As := [.int (xs (x3 + 1).toNatClampNeg)]) (rest := []) F rfl (by decide +kernel) rfl (ri_wok hR) rfl (by decide) hl0 (pr_back hR _) (fun r w1 q => ⟨q.2.2.1, ?_⟩)
  obtain ⟨⟨v, rfl⟩, hw1, hl1, hm1⟩ := q
  repeat (first
    | refine aw_u F rfl rfl ⟨Nat.le_of_ble_eq_true rfl, Nat.le_of_ble_eq_true rfl⟩ ?_
    | refine aw_sld F hX hbl hbA had (by rw [hl1]; exact Nat.le_of_ble_eq_true rfl) rfl (by first | exact g1 | exact g2 | exact g3 | exact g4 | exact g5) ?_)
  refine lw_callM (n := 1) (As := [.int (xs (x3 + 1).toNatClampNeg)]) (rest := []) F rfl (by decide +kernel) rfl hw1 rfl (by decide) hl1 hm1 (fun r w2 q => ⟨ri_len q.2.2, ?_⟩)
  obtain ⟨⟨v', rfl⟩, -, hR2⟩ := q
  refine aw_u F rfl rfl ⟨Nat.le_of_ble_eq_true rfl, Nat.le_of_ble_eq_true rfl⟩ ?_
  refine aw_u F rfl rfl ⟨Nat.le_of_ble_eq_true rfl, Nat.le_of_ble_eq_true rfl⟩ ?_
  exact hE _ hR2
set_option maxHeartbeats 4000000 in
set_option maxRecDepth 100000 in
theorem lc_2 (F : MF X (mL nm) room_1 p s m #[Value.ref b9] meth c (AL s)) (hX : va_X b9 L xs s s.heap) (hbl : b9 < s.heap.size) (had : ad0 1000030 = b9) {w : List AE} {x3 : Int32} (hR : RI w) (hg : In6 L x3) (hE : ∀ w', RI w' → AW X l (mL nm) room_1 p e s m #[Value.ref b9] below meth c (AL s) (lw_Z below #[Value.ref b9] s) 0 ad0 1442 [(3, .int x3), (2, .ref 148), (1, .ref 0), (0, .ref 1000030)] [] w' 200 33081) : AW X l (mL nm) room_1 p e s m #[Value.ref b9] below meth c (AL s) (lw_Z below #[Value.ref b9] s) 0 ad0 310 [(3, .int x3), (2, .ref 148), (1, .ref 0), (0, .ref 1000030)] [] w 200 33081 := by
  have hbA : ¬ AL s b9 := Nat.not_le.mpr hbl
  obtain ⟨-, g1, g2, g3, g4, g5⟩ := hg
  have hl0 := ri_len hR
  repeat (first
    | refine aw_u F rfl rfl ⟨Nat.le_of_ble_eq_true rfl, Nat.le_of_ble_eq_true rfl⟩ ?_
    | refine aw_sld F hX hbl hbA had (by rw [hl0]; exact Nat.le_of_ble_eq_true rfl) rfl (by first | exact g1 | exact g2 | exact g3 | exact g4 | exact g5) ?_)
  refine lw_callC (n := 0) (As := []) (rest := []) F rfl (by decide +kernel) rfl (ri_wok hR) rfl (by decide) hl0 (pr_read hR) (fun r w1 q => ⟨q.2.2.1, ?_⟩)
  obtain ⟨⟨v, rfl⟩, hw1, hl1, hm1⟩ := q
  repeat (first
    | refine aw_u F rfl rfl ⟨Nat.le_of_ble_eq_true rfl, Nat.le_of_ble_eq_true rfl⟩ ?_
    | refine aw_sld F hX hbl hbA had (by rw [hl1]; exact Nat.le_of_ble_eq_true rfl) rfl (by first | exact g1 | exact g2 | exact g3 | exact g4 | exact g5) ?_)
  refine lw_callM (n := 0) (As := []) (rest := []) F rfl (by decide +kernel) rfl hw1 rfl (by decide) hl1 hm1 (fun r w2 q => ⟨ri_len q.2.2, ?_⟩)
  obtain ⟨⟨v', rfl⟩, -, hR2⟩ := q
  refine aw_u F rfl rfl ⟨Nat.le_of_ble_eq_true rfl, Nat.le_of_ble_eq_true rfl⟩ ?_
  refine aw_u F rfl rfl ⟨Nat.le_of_ble_eq_true rfl, Nat.le_of_ble_eq_true rfl⟩ ?_
  exact hE _ hR2
set_option maxHeartbeats 4000000 in
set_option maxRecDepth 100000 in
theorem lc_3 (F : MF X (mL nm) room_1 p s m #[Value.ref b9] meth c (AL s)) (hX : va_X b9 L xs s s.heap) (hbl : b9 < s.heap.size) (had : ad0 1000030 = b9) {w : List AE} {x3 : Int32} (hR : RI w) (hg : In6 L x3) (hE : ∀ w', RI w' → AW X l (mL nm) room_1 p e s m #[Value.ref b9] below meth c (AL s) (lw_Z below #[Value.ref b9] s) 0 ad0 1442 [(3, .int x3), (2, .ref 148), (1, .ref 0), (0, .ref 1000030)] [] w' 200 33081) : AW X l (mL nm) room_1 p e s m #[Value.ref b9] below meth c (AL s) (lw_Z below #[Value.ref b9] s) 0 ad0 323 [(3, .int x3), (2, .ref 148), (1, .ref 0), (0, .ref 1000030)] [] w 200 33081 := by
  have hbA : ¬ AL s b9 := Nat.not_le.mpr hbl
  obtain ⟨-, g1, g2, g3, g4, g5⟩ := hg
  have hl0 := ri_len hR
  repeat (first
    | refine aw_u F rfl rfl ⟨Nat.le_of_ble_eq_true rfl, Nat.le_of_ble_eq_true rfl⟩ ?_
    | refine aw_sld F hX hbl hbA had (by rw [hl0]; exact Nat.le_of_ble_eq_true rfl) rfl (by first | exact g1 | exact g2 | exact g3 | exact g4 | exact g5) ?_)
  refine lw_callC (n := 0) (As := []) (rest := []) F rfl (by decide +kernel) rfl (ri_wok hR) rfl (by decide) hl0 (pr_place hR) (fun r w1 q => ⟨q.2.2.1, ?_⟩)
  obtain ⟨⟨v, rfl⟩, hw1, hl1, hm1⟩ := q
  repeat (first
    | refine aw_u F rfl rfl ⟨Nat.le_of_ble_eq_true rfl, Nat.le_of_ble_eq_true rfl⟩ ?_
    | refine aw_sld F hX hbl hbA had (by rw [hl1]; exact Nat.le_of_ble_eq_true rfl) rfl (by first | exact g1 | exact g2 | exact g3 | exact g4 | exact g5) ?_)
  refine lw_callM (n := 0) (As := []) (rest := []) F rfl (by decide +kernel) rfl hw1 rfl (by decide) hl1 hm1 (fun r w2 q => ⟨ri_len q.2.2, ?_⟩)
  obtain ⟨⟨v', rfl⟩, -, hR2⟩ := q
  refine aw_u F rfl rfl ⟨Nat.le_of_ble_eq_true rfl, Nat.le_of_ble_eq_true rfl⟩ ?_
  refine aw_u F rfl rfl ⟨Nat.le_of_ble_eq_true rfl, Nat.le_of_ble_eq_true rfl⟩ ?_
  exact hE _ hR2
set_option maxHeartbeats 4000000 in
set_option maxRecDepth 100000 in
theorem lc_4 (F : MF X (mL nm) room_1 p s m #[Value.ref b9] meth c (AL s)) (hX : va_X b9 L xs s s.heap) (hbl : b9 < s.heap.size) (had : ad0 1000030 = b9) {w : List AE} {x3 : Int32} (hR : RI w) (hg : In6 L x3) (hE : ∀ w', RI w' → AW X l (mL nm) room_1 p e s m #[Value.ref b9] below meth c (AL s) (lw_Z below #[Value.ref b9] s) 0 ad0 1442 [(3, .int x3), (2, .ref 148), (1, .ref 0), (0, .ref 1000030)] [] w' 200 33081) : AW X l (mL nm) room_1 p e s m #[Value.ref b9] below meth c (AL s) (lw_Z below #[Value.ref b9] s) 0 ad0 336 [(3, .int x3), (2, .ref 148), (1, .ref 0), (0, .ref 1000030)] [] w 200 33081 := by
  have hbA : ¬ AL s b9 := Nat.not_le.mpr hbl
  obtain ⟨-, g1, g2, g3, g4, g5⟩ := hg
  have hl0 := ri_len hR
  repeat (first
    | refine aw_u F rfl rfl ⟨Nat.le_of_ble_eq_true rfl, Nat.le_of_ble_eq_true rfl⟩ ?_
    | refine aw_sld F hX hbl hbA had (by rw [hl0]; exact Nat.le_of_ble_eq_true rfl) rfl (by first | exact g1 | exact g2 | exact g3 | exact g4 | exact g5) ?_)
  refine lw_callC (n := 1) (As := [.int (xs (x3 + 1).toNatClampNeg)]) (rest := []) F rfl (by decide +kernel) rfl (ri_wok hR) rfl (by decide) hl0 (pr_now hR _) (fun r w1 q => ⟨q.2.2.1, ?_⟩)
  obtain ⟨⟨v, rfl⟩, hw1, hl1, hm1⟩ := q
  repeat (first
    | refine aw_u F rfl rfl ⟨Nat.le_of_ble_eq_true rfl, Nat.le_of_ble_eq_true rfl⟩ ?_
    | refine aw_sld F hX hbl hbA had (by rw [hl1]; exact Nat.le_of_ble_eq_true rfl) rfl (by first | exact g1 | exact g2 | exact g3 | exact g4 | exact g5) ?_)
  refine lw_callM (n := 1) (As := [.int (xs (x3 + 1).toNatClampNeg)]) (rest := []) F rfl (by decide +kernel) rfl hw1 rfl (by decide) hl1 hm1 (fun r w2 q => ⟨ri_len q.2.2, ?_⟩)
  obtain ⟨⟨v', rfl⟩, -, hR2⟩ := q
  refine aw_u F rfl rfl ⟨Nat.le_of_ble_eq_true rfl, Nat.le_of_ble_eq_true rfl⟩ ?_
  refine aw_u F rfl rfl ⟨Nat.le_of_ble_eq_true rfl, Nat.le_of_ble_eq_true rfl⟩ ?_
  exact hE _ hR2
set_option maxHeartbeats 4000000 in
set_option maxRecDepth 100000 in
theorem lc_5 (F : MF X (mL nm) room_1 p s m #[Value.ref b9] meth c (AL s)) (hX : va_X b9 L xs s s.heap) (hbl : b9 < s.heap.size) (had : ad0 1000030 = b9) {w : List AE} {x3 : Int32} (hR : RI w) (hg : In6 L x3) (hE : ∀ w', RI w' → AW X l (mL nm) room_1 p e s m #[Value.ref b9] below meth c (AL s) (lw_Z below #[Value.ref b9] s) 0 ad0 1442 [(3, .int x3), (2, .ref 148), (1, .ref 0), (0, .ref 1000030)] [] w' 200 33081) : AW X l (mL nm) room_1 p e s m #[Value.ref b9] below meth c (AL s) (lw_Z below #[Value.ref b9] s) 0 ad0 359 [(3, .int x3), (2, .ref 148), (1, .ref 0), (0, .ref 1000030)] [] w 200 33081 := by
  have hbA : ¬ AL s b9 := Nat.not_le.mpr hbl
  obtain ⟨-, g1, g2, g3, g4, g5⟩ := hg
  have hl0 := ri_len hR
  repeat (first
    | refine aw_u F rfl rfl ⟨Nat.le_of_ble_eq_true rfl, Nat.le_of_ble_eq_true rfl⟩ ?_
    | refine aw_sld F hX hbl hbA had (by rw [hl0]; exact Nat.le_of_ble_eq_true rfl) rfl (by first | exact g1 | exact g2 | exact g3 | exact g4 | exact g5) ?_)
  refine lw_callC (n := 2) (As := [.int (xs (x3 + 1).toNatClampNeg), .int (xs (x3 + 2).toNatClampNeg)]) (rest := []) F rfl (by decide +kernel) rfl (ri_wok hR) rfl (by decide) hl0 (pr_sleeper hR _ _) (fun r w1 q => ⟨q.2.2.1, ?_⟩)
  obtain ⟨⟨v, rfl⟩, hw1, hl1, hm1⟩ := q
  repeat (first
    | refine aw_u F rfl rfl ⟨Nat.le_of_ble_eq_true rfl, Nat.le_of_ble_eq_true rfl⟩ ?_
    | refine aw_sld F hX hbl hbA had (by rw [hl1]; exact Nat.le_of_ble_eq_true rfl) rfl (by first | exact g1 | exact g2 | exact g3 | exact g4 | exact g5) ?_)
  refine lw_callM (n := 2) (As := [.int (xs (x3 + 1).toNatClampNeg), .int (xs (x3 + 2).toNatClampNeg)]) (rest := []) F rfl (by decide +kernel) rfl hw1 rfl (by decide) hl1 hm1 (fun r w2 q => ⟨ri_len q.2.2, ?_⟩)
  obtain ⟨⟨v', rfl⟩, -, hR2⟩ := q
  refine aw_u F rfl rfl ⟨Nat.le_of_ble_eq_true rfl, Nat.le_of_ble_eq_true rfl⟩ ?_
  refine aw_u F rfl rfl ⟨Nat.le_of_ble_eq_true rfl, Nat.le_of_ble_eq_true rfl⟩ ?_
  exact hE _ hR2
set_option maxHeartbeats 4000000 in
set_option maxRecDepth 100000 in
theorem lc_6 (F : MF X (mL nm) room_1 p s m #[Value.ref b9] meth c (AL s)) (hX : va_X b9 L xs s s.heap) (hbl : b9 < s.heap.size) (had : ad0 1000030 = b9) {w : List AE} {x3 : Int32} (hR : RI w) (hg : In6 L x3) (hE : ∀ w', RI w' → AW X l (mL nm) room_1 p e s m #[Value.ref b9] below meth c (AL s) (lw_Z below #[Value.ref b9] s) 0 ad0 1442 [(3, .int x3), (2, .ref 148), (1, .ref 0), (0, .ref 1000030)] [] w' 200 33081) : AW X l (mL nm) room_1 p e s m #[Value.ref b9] below meth c (AL s) (lw_Z below #[Value.ref b9] s) 0 ad0 392 [(3, .int x3), (2, .ref 148), (1, .ref 0), (0, .ref 1000030)] [] w 200 33081 := by
  have hbA : ¬ AL s b9 := Nat.not_le.mpr hbl
  obtain ⟨-, g1, g2, g3, g4, g5⟩ := hg
  have hl0 := ri_len hR
  repeat (first
    | refine aw_u F rfl rfl ⟨Nat.le_of_ble_eq_true rfl, Nat.le_of_ble_eq_true rfl⟩ ?_
    | refine aw_sld F hX hbl hbA had (by rw [hl0]; exact Nat.le_of_ble_eq_true rfl) rfl (by first | exact g1 | exact g2 | exact g3 | exact g4 | exact g5) ?_)
  refine lw_callC (n := 2) (As := [.int (xs (x3 + 1).toNatClampNeg), .int (xs (x3 + 2).toNatClampNeg)]) (rest := []) F rfl (by decide +kernel) rfl (ri_wok hR) rfl (by decide) hl0 (pr_was hR _ _) (fun r w1 q => ⟨q.2.2.1, ?_⟩)
  obtain ⟨⟨v, rfl⟩, hw1, hl1, hm1⟩ := q
  repeat (first
    | refine aw_u F rfl rfl ⟨Nat.le_of_ble_eq_true rfl, Nat.le_of_ble_eq_true rfl⟩ ?_
    | refine aw_sld F hX hbl hbA had (by rw [hl1]; exact Nat.le_of_ble_eq_true rfl) rfl (by first | exact g1 | exact g2 | exact g3 | exact g4 | exact g5) ?_)
  refine lw_callM (n := 2) (As := [.int (xs (x3 + 1).toNatClampNeg), .int (xs (x3 + 2).toNatClampNeg)]) (rest := []) F rfl (by decide +kernel) rfl hw1 rfl (by decide) hl1 hm1 (fun r w2 q => ⟨ri_len q.2.2, ?_⟩)
  obtain ⟨⟨v', rfl⟩, -, hR2⟩ := q
  refine aw_u F rfl rfl ⟨Nat.le_of_ble_eq_true rfl, Nat.le_of_ble_eq_true rfl⟩ ?_
  refine aw_u F rfl rfl ⟨Nat.le_of_ble_eq_true rfl, Nat.le_of_ble_eq_true rfl⟩ ?_
  exact hE _ hR2
set_option maxHeartbeats 4000000 in
set_option maxRecDepth 100000 in
theorem lc_7 (F : MF X (mL nm) room_1 p s m #[Value.ref b9] meth c (AL s)) (hX : va_X b9 L xs s s.heap) (hbl : b9 < s.heap.size) (had : ad0 1000030 = b9) {w : List AE} {x3 : Int32} (hR : RI w) (hg : In6 L x3) (hE : ∀ w', RI w' → AW X l (mL nm) room_1 p e s m #[Value.ref b9] below meth c (AL s) (lw_Z below #[Value.ref b9] s) 0 ad0 1442 [(3, .int x3), (2, .ref 148), (1, .ref 0), (0, .ref 1000030)] [] w' 200 33081) : AW X l (mL nm) room_1 p e s m #[Value.ref b9] below meth c (AL s) (lw_Z below #[Value.ref b9] s) 0 ad0 425 [(3, .int x3), (2, .ref 148), (1, .ref 0), (0, .ref 1000030)] [] w 200 33081 := by
  have hbA : ¬ AL s b9 := Nat.not_le.mpr hbl
  obtain ⟨-, g1, g2, g3, g4, g5⟩ := hg
  have hl0 := ri_len hR
  repeat (first
    | refine aw_u F rfl rfl ⟨Nat.le_of_ble_eq_true rfl, Nat.le_of_ble_eq_true rfl⟩ ?_
    | refine aw_sld F hX hbl hbA had (by rw [hl0]; exact Nat.le_of_ble_eq_true rfl) rfl (by first | exact g1 | exact g2 | exact g3 | exact g4 | exact g5) ?_)
  refine lw_callC (n := 1) (As := [.int (xs (x3 + 1).toNatClampNeg)]) (rest := []) F rfl (by decide +kernel) rfl (ri_wok hR) rfl (by decide) hl0 (pr_hours hR _) (fun r w1 q => ⟨q.2.2.1, ?_⟩)
  obtain ⟨⟨v, rfl⟩, hw1, hl1, hm1⟩ := q
  repeat (first
    | refine aw_u F rfl rfl ⟨Nat.le_of_ble_eq_true rfl, Nat.le_of_ble_eq_true rfl⟩ ?_
    | refine aw_sld F hX hbl hbA had (by rw [hl1]; exact Nat.le_of_ble_eq_true rfl) rfl (by first | exact g1 | exact g2 | exact g3 | exact g4 | exact g5) ?_)
  refine lw_callM (n := 1) (As := [.int (xs (x3 + 1).toNatClampNeg)]) (rest := [.int v]) F rfl (by decide +kernel) rfl hw1 rfl (show 1 ≤ 8 by decide) hl1 hm1 (fun r w2 q => ⟨ri_len q.2.2, ?_⟩)
  obtain ⟨⟨v', rfl⟩, hc, hR2⟩ := q
  have hc := hc rfl
  injection hc with hc
  injection hc with hc
  subst hc
  refine aw_ic F rfl (of_decide_eq_true rfl) (fun _ => ?_) (fun h => ?_)
  · exact hE _ hR2
  · exfalso; simp [cmpB] at h
set_option maxHeartbeats 4000000 in
set_option maxRecDepth 100000 in
theorem lc_8 (F : MF X (mL nm) room_1 p s m #[Value.ref b9] meth c (AL s)) (hX : va_X b9 L xs s s.heap) (hbl : b9 < s.heap.size) (had : ad0 1000030 = b9) {w : List AE} {x3 : Int32} (hR : RI w) (hg : In6 L x3) (hE : ∀ w', RI w' → AW X l (mL nm) room_1 p e s m #[Value.ref b9] below meth c (AL s) (lw_Z below #[Value.ref b9] s) 0 ad0 1442 [(3, .int x3), (2, .ref 148), (1, .ref 0), (0, .ref 1000030)] [] w' 200 33081) : AW X l (mL nm) room_1 p e s m #[Value.ref b9] below meth c (AL s) (lw_Z below #[Value.ref b9] s) 0 ad0 448 [(3, .int x3), (2, .ref 148), (1, .ref 0), (0, .ref 1000030)] [] w 200 33081 := by
  have hbA : ¬ AL s b9 := Nat.not_le.mpr hbl
  obtain ⟨-, g1, g2, g3, g4, g5⟩ := hg
  have hl0 := ri_len hR
  repeat (first
    | refine aw_u F rfl rfl ⟨Nat.le_of_ble_eq_true rfl, Nat.le_of_ble_eq_true rfl⟩ ?_
    | refine aw_sld F hX hbl hbA had (by rw [hl0]; exact Nat.le_of_ble_eq_true rfl) rfl (by first | exact g1 | exact g2 | exact g3 | exact g4 | exact g5) ?_)
  refine lw_callC (n := 2) (As := [.int (xs (x3 + 1).toNatClampNeg), .int (xs (x3 + 2).toNatClampNeg)]) (rest := []) F rfl (by decide +kernel) rfl (ri_wok hR) rfl (by decide) hl0 (pr_nap hR _ _) (fun r w1 q => ⟨q.2.2.1, ?_⟩)
  obtain ⟨⟨v, rfl⟩, hw1, hl1, hm1⟩ := q
  repeat (first
    | refine aw_u F rfl rfl ⟨Nat.le_of_ble_eq_true rfl, Nat.le_of_ble_eq_true rfl⟩ ?_
    | refine aw_sld F hX hbl hbA had (by rw [hl1]; exact Nat.le_of_ble_eq_true rfl) rfl (by first | exact g1 | exact g2 | exact g3 | exact g4 | exact g5) ?_)
  refine lw_callM (n := 2) (As := [.int (xs (x3 + 1).toNatClampNeg), .int (xs (x3 + 2).toNatClampNeg)]) (rest := []) F rfl (by decide +kernel) rfl hw1 rfl (by decide) hl1 hm1 (fun r w2 q => ⟨ri_len q.2.2, ?_⟩)
  obtain ⟨⟨v', rfl⟩, -, hR2⟩ := q
  refine aw_u F rfl rfl ⟨Nat.le_of_ble_eq_true rfl, Nat.le_of_ble_eq_true rfl⟩ ?_
  refine aw_u F rfl rfl ⟨Nat.le_of_ble_eq_true rfl, Nat.le_of_ble_eq_true rfl⟩ ?_
  exact hE _ hR2
set_option maxHeartbeats 4000000 in
set_option maxRecDepth 100000 in
theorem lc_9 (F : MF X (mL nm) room_1 p s m #[Value.ref b9] meth c (AL s)) (hX : va_X b9 L xs s s.heap) (hbl : b9 < s.heap.size) (had : ad0 1000030 = b9) {w : List AE} {x3 : Int32} (hR : RI w) (hg : In6 L x3) (hE : ∀ w', RI w' → AW X l (mL nm) room_1 p e s m #[Value.ref b9] below meth c (AL s) (lw_Z below #[Value.ref b9] s) 0 ad0 1442 [(3, .int x3), (2, .ref 148), (1, .ref 0), (0, .ref 1000030)] [] w' 200 33081) : AW X l (mL nm) room_1 p e s m #[Value.ref b9] below meth c (AL s) (lw_Z below #[Value.ref b9] s) 0 ad0 481 [(3, .int x3), (2, .ref 148), (1, .ref 0), (0, .ref 1000030)] [] w 200 33081 := by
  have hbA : ¬ AL s b9 := Nat.not_le.mpr hbl
  obtain ⟨-, g1, g2, g3, g4, g5⟩ := hg
  have hl0 := ri_len hR
  repeat (first
    | refine aw_u F rfl rfl ⟨Nat.le_of_ble_eq_true rfl, Nat.le_of_ble_eq_true rfl⟩ ?_
    | refine aw_sld F hX hbl hbA had (by rw [hl0]; exact Nat.le_of_ble_eq_true rfl) rfl (by first | exact g1 | exact g2 | exact g3 | exact g4 | exact g5) ?_)
  refine lw_callC (n := 1) (As := [.int (xs (x3 + 1).toNatClampNeg)]) (rest := []) F rfl (by decide +kernel) rfl (ri_wok hR) rfl (by decide) hl0 (pr_wake hR _) (fun r w1 q => ⟨q.2.2.1, ?_⟩)
  obtain ⟨⟨v, rfl⟩, hw1, hl1, hm1⟩ := q
  repeat (first
    | refine aw_u F rfl rfl ⟨Nat.le_of_ble_eq_true rfl, Nat.le_of_ble_eq_true rfl⟩ ?_
    | refine aw_sld F hX hbl hbA had (by rw [hl1]; exact Nat.le_of_ble_eq_true rfl) rfl (by first | exact g1 | exact g2 | exact g3 | exact g4 | exact g5) ?_)
  refine lw_callM (n := 1) (As := [.int (xs (x3 + 1).toNatClampNeg)]) (rest := []) F rfl (by decide +kernel) rfl hw1 rfl (by decide) hl1 hm1 (fun r w2 q => ⟨ri_len q.2.2, ?_⟩)
  obtain ⟨⟨v', rfl⟩, -, hR2⟩ := q
  refine aw_u F rfl rfl ⟨Nat.le_of_ble_eq_true rfl, Nat.le_of_ble_eq_true rfl⟩ ?_
  refine aw_u F rfl rfl ⟨Nat.le_of_ble_eq_true rfl, Nat.le_of_ble_eq_true rfl⟩ ?_
  exact hE _ hR2
set_option maxHeartbeats 4000000 in
set_option maxRecDepth 100000 in
theorem lc_10 (F : MF X (mL nm) room_1 p s m #[Value.ref b9] meth c (AL s)) (hX : va_X b9 L xs s s.heap) (hbl : b9 < s.heap.size) (had : ad0 1000030 = b9) {w : List AE} {x3 : Int32} (hR : RI w) (hg : In6 L x3) (hE : ∀ w', RI w' → AW X l (mL nm) room_1 p e s m #[Value.ref b9] below meth c (AL s) (lw_Z below #[Value.ref b9] s) 0 ad0 1442 [(3, .int x3), (2, .ref 148), (1, .ref 0), (0, .ref 1000030)] [] w' 200 33081) : AW X l (mL nm) room_1 p e s m #[Value.ref b9] below meth c (AL s) (lw_Z below #[Value.ref b9] s) 0 ad0 504 [(3, .int x3), (2, .ref 148), (1, .ref 0), (0, .ref 1000030)] [] w 200 33081 := by
  have hbA : ¬ AL s b9 := Nat.not_le.mpr hbl
  obtain ⟨-, g1, g2, g3, g4, g5⟩ := hg
  have hl0 := ri_len hR
  repeat (first
    | refine aw_u F rfl rfl ⟨Nat.le_of_ble_eq_true rfl, Nat.le_of_ble_eq_true rfl⟩ ?_
    | refine aw_sld F hX hbl hbA had (by rw [hl0]; exact Nat.le_of_ble_eq_true rfl) rfl (by first | exact g1 | exact g2 | exact g3 | exact g4 | exact g5) ?_)
  refine lw_callC (n := 2) (As := [.int (xs (x3 + 1).toNatClampNeg), .int (xs (x3 + 2).toNatClampNeg)]) (rest := []) F rfl (by decide +kernel) rfl (ri_wok hR) rfl (by decide) hl0 (pr_bed hR _ _) (fun r w1 q => ⟨q.2.2.1, ?_⟩)
  obtain ⟨⟨v, rfl⟩, hw1, hl1, hm1⟩ := q
  repeat (first
    | refine aw_u F rfl rfl ⟨Nat.le_of_ble_eq_true rfl, Nat.le_of_ble_eq_true rfl⟩ ?_
    | refine aw_sld F hX hbl hbA had (by rw [hl1]; exact Nat.le_of_ble_eq_true rfl) rfl (by first | exact g1 | exact g2 | exact g3 | exact g4 | exact g5) ?_)
  refine lw_callM (n := 2) (As := [.int (xs (x3 + 1).toNatClampNeg), .int (xs (x3 + 2).toNatClampNeg)]) (rest := []) F rfl (by decide +kernel) rfl hw1 rfl (by decide) hl1 hm1 (fun r w2 q => ⟨ri_len q.2.2, ?_⟩)
  obtain ⟨⟨v', rfl⟩, -, hR2⟩ := q
  refine aw_u F rfl rfl ⟨Nat.le_of_ble_eq_true rfl, Nat.le_of_ble_eq_true rfl⟩ ?_
  refine aw_u F rfl rfl ⟨Nat.le_of_ble_eq_true rfl, Nat.le_of_ble_eq_true rfl⟩ ?_
  exact hE _ hR2
set_option maxHeartbeats 4000000 in
set_option maxRecDepth 100000 in
theorem lc_11 (F : MF X (mL nm) room_1 p s m #[Value.ref b9] meth c (AL s)) (hX : va_X b9 L xs s s.heap) (hbl : b9 < s.heap.size) (had : ad0 1000030 = b9) {w : List AE} {x3 : Int32} (hR : RI w) (hg : In6 L x3) (hE : ∀ w', RI w' → AW X l (mL nm) room_1 p e s m #[Value.ref b9] below meth c (AL s) (lw_Z below #[Value.ref b9] s) 0 ad0 1442 [(3, .int x3), (2, .ref 148), (1, .ref 0), (0, .ref 1000030)] [] w' 200 33081) : AW X l (mL nm) room_1 p e s m #[Value.ref b9] below meth c (AL s) (lw_Z below #[Value.ref b9] s) 0 ad0 537 [(3, .int x3), (2, .ref 148), (1, .ref 0), (0, .ref 1000030)] [] w 200 33081 := by
  have hbA : ¬ AL s b9 := Nat.not_le.mpr hbl
  obtain ⟨-, g1, g2, g3, g4, g5⟩ := hg
  have hl0 := ri_len hR
  repeat (first
    | refine aw_u F rfl rfl ⟨Nat.le_of_ble_eq_true rfl, Nat.le_of_ble_eq_true rfl⟩ ?_
    | refine aw_sld F hX hbl hbA had (by rw [hl0]; exact Nat.le_of_ble_eq_true rfl) rfl (by first | exact g1 | exact g2 | exact g3 | exact g4 | exact g5) ?_)
  refine lw_callC (n := 1) (As := [.int (xs (x3 + 1).toNatClampNeg)]) (rest := []) F rfl (by decide +kernel) rfl (ri_wok hR) rfl (by decide) hl0 (pr_set hR _) (fun r w1 q => ⟨q.2.2.1, ?_⟩)
  obtain ⟨⟨v, rfl⟩, hw1, hl1, hm1⟩ := q
  repeat (first
    | refine aw_u F rfl rfl ⟨Nat.le_of_ble_eq_true rfl, Nat.le_of_ble_eq_true rfl⟩ ?_
    | refine aw_sld F hX hbl hbA had (by rw [hl1]; exact Nat.le_of_ble_eq_true rfl) rfl (by first | exact g1 | exact g2 | exact g3 | exact g4 | exact g5) ?_)
  refine lw_callM (n := 1) (As := [.int (xs (x3 + 1).toNatClampNeg)]) (rest := []) F rfl (by decide +kernel) rfl hw1 rfl (by decide) hl1 hm1 (fun r w2 q => ⟨ri_len q.2.2, ?_⟩)
  obtain ⟨⟨v', rfl⟩, -, hR2⟩ := q
  refine aw_u F rfl rfl ⟨Nat.le_of_ble_eq_true rfl, Nat.le_of_ble_eq_true rfl⟩ ?_
  refine aw_u F rfl rfl ⟨Nat.le_of_ble_eq_true rfl, Nat.le_of_ble_eq_true rfl⟩ ?_
  exact hE _ hR2
set_option maxHeartbeats 4000000 in
set_option maxRecDepth 100000 in
theorem lc_12 (F : MF X (mL nm) room_1 p s m #[Value.ref b9] meth c (AL s)) (hX : va_X b9 L xs s s.heap) (hbl : b9 < s.heap.size) (had : ad0 1000030 = b9) {w : List AE} {x3 : Int32} (hR : RI w) (hg : In6 L x3) (hE : ∀ w', RI w' → AW X l (mL nm) room_1 p e s m #[Value.ref b9] below meth c (AL s) (lw_Z below #[Value.ref b9] s) 0 ad0 1442 [(3, .int x3), (2, .ref 148), (1, .ref 0), (0, .ref 1000030)] [] w' 200 33081) : AW X l (mL nm) room_1 p e s m #[Value.ref b9] below meth c (AL s) (lw_Z below #[Value.ref b9] s) 0 ad0 560 [(3, .int x3), (2, .ref 148), (1, .ref 0), (0, .ref 1000030)] [] w 200 33081 := by
  have hbA : ¬ AL s b9 := Nat.not_le.mpr hbl
  obtain ⟨-, g1, g2, g3, g4, g5⟩ := hg
  have hl0 := ri_len hR
  repeat (first
    | refine aw_u F rfl rfl ⟨Nat.le_of_ble_eq_true rfl, Nat.le_of_ble_eq_true rfl⟩ ?_
    | refine aw_sld F hX hbl hbA had (by rw [hl0]; exact Nat.le_of_ble_eq_true rfl) rfl (by first | exact g1 | exact g2 | exact g3 | exact g4 | exact g5) ?_)
  refine lw_callC (n := 0) (As := []) (rest := []) F rfl (by decide +kernel) rfl (ri_wok hR) rfl (by decide) hl0 (pr_undo hR) (fun r w1 q => ⟨q.2.2.1, ?_⟩)
  obtain ⟨⟨v, rfl⟩, hw1, hl1, hm1⟩ := q
  repeat (first
    | refine aw_u F rfl rfl ⟨Nat.le_of_ble_eq_true rfl, Nat.le_of_ble_eq_true rfl⟩ ?_
    | refine aw_sld F hX hbl hbA had (by rw [hl1]; exact Nat.le_of_ble_eq_true rfl) rfl (by first | exact g1 | exact g2 | exact g3 | exact g4 | exact g5) ?_)
  refine lw_callM (n := 0) (As := []) (rest := []) F rfl (by decide +kernel) rfl hw1 rfl (by decide) hl1 hm1 (fun r w2 q => ⟨ri_len q.2.2, ?_⟩)
  obtain ⟨⟨v', rfl⟩, -, hR2⟩ := q
  refine aw_u F rfl rfl ⟨Nat.le_of_ble_eq_true rfl, Nat.le_of_ble_eq_true rfl⟩ ?_
  refine aw_u F rfl rfl ⟨Nat.le_of_ble_eq_true rfl, Nat.le_of_ble_eq_true rfl⟩ ?_
  exact hE _ hR2
set_option maxHeartbeats 4000000 in
set_option maxRecDepth 100000 in
theorem lc_13 (F : MF X (mL nm) room_1 p s m #[Value.ref b9] meth c (AL s)) (hX : va_X b9 L xs s s.heap) (hbl : b9 < s.heap.size) (had : ad0 1000030 = b9) {w : List AE} {x3 : Int32} (hR : RI w) (hg : In6 L x3) (hE : ∀ w', RI w' → AW X l (mL nm) room_1 p e s m #[Value.ref b9] below meth c (AL s) (lw_Z below #[Value.ref b9] s) 0 ad0 1442 [(3, .int x3), (2, .ref 148), (1, .ref 0), (0, .ref 1000030)] [] w' 200 33081) : AW X l (mL nm) room_1 p e s m #[Value.ref b9] below meth c (AL s) (lw_Z below #[Value.ref b9] s) 0 ad0 573 [(3, .int x3), (2, .ref 148), (1, .ref 0), (0, .ref 1000030)] [] w 200 33081 := by
  have hbA : ¬ AL s b9 := Nat.not_le.mpr hbl
  obtain ⟨-, g1, g2, g3, g4, g5⟩ := hg
  have hl0 := ri_len hR
  repeat (first
    | refine aw_u F rfl rfl ⟨Nat.le_of_ble_eq_true rfl, Nat.le_of_ble_eq_true rfl⟩ ?_
    | refine aw_sld F hX hbl hbA had (by rw [hl0]; exact Nat.le_of_ble_eq_true rfl) rfl (by first | exact g1 | exact g2 | exact g3 | exact g4 | exact g5) ?_)
  refine lw_callC (n := 2) (As := [.int (xs (x3 + 1).toNatClampNeg), .int (xs (x3 + 2).toNatClampNeg)]) (rest := []) F rfl (by decide +kernel) rfl (ri_wok hR) rfl (by decide) hl0 (pr_then hR _ _) (fun r w1 q => ⟨q.2.2.1, ?_⟩)
  obtain ⟨⟨v, rfl⟩, hw1, hl1, hm1⟩ := q
  repeat (first
    | refine aw_u F rfl rfl ⟨Nat.le_of_ble_eq_true rfl, Nat.le_of_ble_eq_true rfl⟩ ?_
    | refine aw_sld F hX hbl hbA had (by rw [hl1]; exact Nat.le_of_ble_eq_true rfl) rfl (by first | exact g1 | exact g2 | exact g3 | exact g4 | exact g5) ?_)
  refine lw_callM (n := 2) (As := [.int (xs (x3 + 1).toNatClampNeg), .int (xs (x3 + 2).toNatClampNeg)]) (rest := []) F rfl (by decide +kernel) rfl hw1 rfl (by decide) hl1 hm1 (fun r w2 q => ⟨ri_len q.2.2, ?_⟩)
  obtain ⟨⟨v', rfl⟩, -, hR2⟩ := q
  refine aw_u F rfl rfl ⟨Nat.le_of_ble_eq_true rfl, Nat.le_of_ble_eq_true rfl⟩ ?_
  refine aw_u F rfl rfl ⟨Nat.le_of_ble_eq_true rfl, Nat.le_of_ble_eq_true rfl⟩ ?_
  exact hE _ hR2
set_option maxHeartbeats 4000000 in
set_option maxRecDepth 100000 in
theorem lc_14 (F : MF X (mL nm) room_1 p s m #[Value.ref b9] meth c (AL s)) (hX : va_X b9 L xs s s.heap) (hbl : b9 < s.heap.size) (had : ad0 1000030 = b9) {w : List AE} {x3 : Int32} (hR : RI w) (hg : In6 L x3) (hE : ∀ w', RI w' → AW X l (mL nm) room_1 p e s m #[Value.ref b9] below meth c (AL s) (lw_Z below #[Value.ref b9] s) 0 ad0 1442 [(3, .int x3), (2, .ref 148), (1, .ref 0), (0, .ref 1000030)] [] w' 200 33081) : AW X l (mL nm) room_1 p e s m #[Value.ref b9] below meth c (AL s) (lw_Z below #[Value.ref b9] s) 0 ad0 606 [(3, .int x3), (2, .ref 148), (1, .ref 0), (0, .ref 1000030)] [] w 200 33081 := by
  have hbA : ¬ AL s b9 := Nat.not_le.mpr hbl
  obtain ⟨-, g1, g2, g3, g4, g5⟩ := hg
  have hl0 := ri_len hR
  repeat (first
    | refine aw_u F rfl rfl ⟨Nat.le_of_ble_eq_true rfl, Nat.le_of_ble_eq_true rfl⟩ ?_
    | refine aw_sld F hX hbl hbA had (by rw [hl0]; exact Nat.le_of_ble_eq_true rfl) rfl (by first | exact g1 | exact g2 | exact g3 | exact g4 | exact g5) ?_)
  refine lw_callC (n := 0) (As := []) (rest := []) F rfl (by decide +kernel) rfl (ri_wok hR) rfl (by decide) hl0 (pr_ends hR) (fun r w1 q => ⟨q.2.2.1, ?_⟩)
  obtain ⟨⟨v, rfl⟩, hw1, hl1, hm1⟩ := q
  repeat (first
    | refine aw_u F rfl rfl ⟨Nat.le_of_ble_eq_true rfl, Nat.le_of_ble_eq_true rfl⟩ ?_
    | refine aw_sld F hX hbl hbA had (by rw [hl1]; exact Nat.le_of_ble_eq_true rfl) rfl (by first | exact g1 | exact g2 | exact g3 | exact g4 | exact g5) ?_)
  refine lw_callM (n := 0) (As := []) (rest := []) F rfl (by decide +kernel) rfl hw1 rfl (by decide) hl1 hm1 (fun r w2 q => ⟨ri_len q.2.2, ?_⟩)
  obtain ⟨⟨v', rfl⟩, -, hR2⟩ := q
  refine aw_u F rfl rfl ⟨Nat.le_of_ble_eq_true rfl, Nat.le_of_ble_eq_true rfl⟩ ?_
  refine aw_u F rfl rfl ⟨Nat.le_of_ble_eq_true rfl, Nat.le_of_ble_eq_true rfl⟩ ?_
  exact hE _ hR2
set_option maxHeartbeats 4000000 in
set_option maxRecDepth 100000 in
theorem lc_15 (F : MF X (mL nm) room_1 p s m #[Value.ref b9] meth c (AL s)) (hX : va_X b9 L xs s s.heap) (hbl : b9 < s.heap.size) (had : ad0 1000030 = b9) {w : List AE} {x3 : Int32} (hR : RI w) (hg : In6 L x3) (hE : ∀ w', RI w' → AW X l (mL nm) room_1 p e s m #[Value.ref b9] below meth c (AL s) (lw_Z below #[Value.ref b9] s) 0 ad0 1442 [(3, .int x3), (2, .ref 148), (1, .ref 0), (0, .ref 1000030)] [] w' 200 33081) : AW X l (mL nm) room_1 p e s m #[Value.ref b9] below meth c (AL s) (lw_Z below #[Value.ref b9] s) 0 ad0 619 [(3, .int x3), (2, .ref 148), (1, .ref 0), (0, .ref 1000030)] [] w 200 33081 := by
  have hbA : ¬ AL s b9 := Nat.not_le.mpr hbl
  obtain ⟨-, g1, g2, g3, g4, g5⟩ := hg
  have hl0 := ri_len hR
  repeat (first
    | refine aw_u F rfl rfl ⟨Nat.le_of_ble_eq_true rfl, Nat.le_of_ble_eq_true rfl⟩ ?_
    | refine aw_sld F hX hbl hbA had (by rw [hl0]; exact Nat.le_of_ble_eq_true rfl) rfl (by first | exact g1 | exact g2 | exact g3 | exact g4 | exact g5) ?_)
  refine lw_callC (n := 2) (As := [.int (xs (x3 + 1).toNatClampNeg), .int (xs (x3 + 2).toNatClampNeg)]) (rest := []) F rfl (by decide +kernel) rfl (ri_wok hR) rfl (by decide) hl0 (pr_gains hR _ _) (fun r w1 q => ⟨q.2.2.1, ?_⟩)
  obtain ⟨⟨v, rfl⟩, hw1, hl1, hm1⟩ := q
  repeat (first
    | refine aw_u F rfl rfl ⟨Nat.le_of_ble_eq_true rfl, Nat.le_of_ble_eq_true rfl⟩ ?_
    | refine aw_sld F hX hbl hbA had (by rw [hl1]; exact Nat.le_of_ble_eq_true rfl) rfl (by first | exact g1 | exact g2 | exact g3 | exact g4 | exact g5) ?_)
  refine lw_callM (n := 2) (As := [.int (xs (x3 + 1).toNatClampNeg), .int (xs (x3 + 2).toNatClampNeg)]) (rest := []) F rfl (by decide +kernel) rfl hw1 rfl (by decide) hl1 hm1 (fun r w2 q => ⟨ri_len q.2.2, ?_⟩)
  obtain ⟨⟨v', rfl⟩, -, hR2⟩ := q
  refine aw_u F rfl rfl ⟨Nat.le_of_ble_eq_true rfl, Nat.le_of_ble_eq_true rfl⟩ ?_
  refine aw_u F rfl rfl ⟨Nat.le_of_ble_eq_true rfl, Nat.le_of_ble_eq_true rfl⟩ ?_
  exact hE _ hR2
set_option maxHeartbeats 4000000 in
set_option maxRecDepth 100000 in
theorem lc_16 (F : MF X (mL nm) room_1 p s m #[Value.ref b9] meth c (AL s)) (hX : va_X b9 L xs s s.heap) (hbl : b9 < s.heap.size) (had : ad0 1000030 = b9) {w : List AE} {x3 : Int32} (hR : RI w) (hg : In6 L x3) (hE : ∀ w', RI w' → AW X l (mL nm) room_1 p e s m #[Value.ref b9] below meth c (AL s) (lw_Z below #[Value.ref b9] s) 0 ad0 1442 [(3, .int x3), (2, .ref 148), (1, .ref 0), (0, .ref 1000030)] [] w' 200 33081) : AW X l (mL nm) room_1 p e s m #[Value.ref b9] below meth c (AL s) (lw_Z below #[Value.ref b9] s) 0 ad0 652 [(3, .int x3), (2, .ref 148), (1, .ref 0), (0, .ref 1000030)] [] w 200 33081 := by
  have hbA : ¬ AL s b9 := Nat.not_le.mpr hbl
  obtain ⟨-, g1, g2, g3, g4, g5⟩ := hg
  have hl0 := ri_len hR
  repeat (first
    | refine aw_u F rfl rfl ⟨Nat.le_of_ble_eq_true rfl, Nat.le_of_ble_eq_true rfl⟩ ?_
    | refine aw_sld F hX hbl hbA had (by rw [hl0]; exact Nat.le_of_ble_eq_true rfl) rfl (by first | exact g1 | exact g2 | exact g3 | exact g4 | exact g5) ?_)
  refine lw_callC (n := 1) (As := [.int (xs (x3 + 1).toNatClampNeg)]) (rest := []) F rfl (by decide +kernel) rfl (ri_wok hR) rfl (by decide) hl0 (pr_line hR _) (fun r w1 q => ⟨q.2.2.1, ?_⟩)
  obtain ⟨⟨v, rfl⟩, hw1, hl1, hm1⟩ := q
  repeat (first
    | refine aw_u F rfl rfl ⟨Nat.le_of_ble_eq_true rfl, Nat.le_of_ble_eq_true rfl⟩ ?_
    | refine aw_sld F hX hbl hbA had (by rw [hl1]; exact Nat.le_of_ble_eq_true rfl) rfl (by first | exact g1 | exact g2 | exact g3 | exact g4 | exact g5) ?_)
  refine lw_callM (n := 1) (As := [.int (xs (x3 + 1).toNatClampNeg)]) (rest := []) F rfl (by decide +kernel) rfl hw1 rfl (by decide) hl1 hm1 (fun r w2 q => ⟨ri_len q.2.2, ?_⟩)
  obtain ⟨⟨v', rfl⟩, -, hR2⟩ := q
  refine aw_u F rfl rfl ⟨Nat.le_of_ble_eq_true rfl, Nat.le_of_ble_eq_true rfl⟩ ?_
  refine aw_u F rfl rfl ⟨Nat.le_of_ble_eq_true rfl, Nat.le_of_ble_eq_true rfl⟩ ?_
  exact hE _ hR2
set_option maxHeartbeats 4000000 in
set_option maxRecDepth 100000 in
theorem lc_17 (F : MF X (mL nm) room_1 p s m #[Value.ref b9] meth c (AL s)) (hX : va_X b9 L xs s s.heap) (hbl : b9 < s.heap.size) (had : ad0 1000030 = b9) {w : List AE} {x3 : Int32} (hR : RI w) (hg : In6 L x3) (hE : ∀ w', RI w' → AW X l (mL nm) room_1 p e s m #[Value.ref b9] below meth c (AL s) (lw_Z below #[Value.ref b9] s) 0 ad0 1442 [(3, .int x3), (2, .ref 148), (1, .ref 0), (0, .ref 1000030)] [] w' 200 33081) : AW X l (mL nm) room_1 p e s m #[Value.ref b9] below meth c (AL s) (lw_Z below #[Value.ref b9] s) 0 ad0 675 [(3, .int x3), (2, .ref 148), (1, .ref 0), (0, .ref 1000030)] [] w 200 33081 := by
  have hbA : ¬ AL s b9 := Nat.not_le.mpr hbl
  obtain ⟨-, g1, g2, g3, g4, g5⟩ := hg
  have hl0 := ri_len hR
  repeat (first
    | refine aw_u F rfl rfl ⟨Nat.le_of_ble_eq_true rfl, Nat.le_of_ble_eq_true rfl⟩ ?_
    | refine aw_sld F hX hbl hbA had (by rw [hl0]; exact Nat.le_of_ble_eq_true rfl) rfl (by first | exact g1 | exact g2 | exact g3 | exact g4 | exact g5) ?_)
  refine lw_callC (n := 2) (As := [.int (xs (x3 + 1).toNatClampNeg), .int (xs (x3 + 2).toNatClampNeg)]) (rest := []) F rfl (by decide +kernel) rfl (ri_wok hR) rfl (by decide) hl0 (pr_lineAt hR _ _) (fun r w1 q => ⟨q.2.2.1, ?_⟩)
  obtain ⟨⟨v, rfl⟩, hw1, hl1, hm1⟩ := q
  repeat (first
    | refine aw_u F rfl rfl ⟨Nat.le_of_ble_eq_true rfl, Nat.le_of_ble_eq_true rfl⟩ ?_
    | refine aw_sld F hX hbl hbA had (by rw [hl1]; exact Nat.le_of_ble_eq_true rfl) rfl (by first | exact g1 | exact g2 | exact g3 | exact g4 | exact g5) ?_)
  refine lw_callM (n := 2) (As := [.int (xs (x3 + 1).toNatClampNeg), .int (xs (x3 + 2).toNatClampNeg)]) (rest := []) F rfl (by decide +kernel) rfl hw1 rfl (by decide) hl1 hm1 (fun r w2 q => ⟨ri_len q.2.2, ?_⟩)
  obtain ⟨⟨v', rfl⟩, -, hR2⟩ := q
  refine aw_u F rfl rfl ⟨Nat.le_of_ble_eq_true rfl, Nat.le_of_ble_eq_true rfl⟩ ?_
  refine aw_u F rfl rfl ⟨Nat.le_of_ble_eq_true rfl, Nat.le_of_ble_eq_true rfl⟩ ?_
  exact hE _ hR2
set_option maxHeartbeats 4000000 in
set_option maxRecDepth 100000 in
theorem lc_18 (F : MF X (mL nm) room_1 p s m #[Value.ref b9] meth c (AL s)) (hX : va_X b9 L xs s s.heap) (hbl : b9 < s.heap.size) (had : ad0 1000030 = b9) {w : List AE} {x3 : Int32} (hR : RI w) (hg : In6 L x3) (hE : ∀ w', RI w' → AW X l (mL nm) room_1 p e s m #[Value.ref b9] below meth c (AL s) (lw_Z below #[Value.ref b9] s) 0 ad0 1442 [(3, .int x3), (2, .ref 148), (1, .ref 0), (0, .ref 1000030)] [] w' 200 33081) : AW X l (mL nm) room_1 p e s m #[Value.ref b9] below meth c (AL s) (lw_Z below #[Value.ref b9] s) 0 ad0 708 [(3, .int x3), (2, .ref 148), (1, .ref 0), (0, .ref 1000030)] [] w 200 33081 := by
  have hbA : ¬ AL s b9 := Nat.not_le.mpr hbl
  obtain ⟨-, g1, g2, g3, g4, g5⟩ := hg
  have hl0 := ri_len hR
  repeat (first
    | refine aw_u F rfl rfl ⟨Nat.le_of_ble_eq_true rfl, Nat.le_of_ble_eq_true rfl⟩ ?_
    | refine aw_sld F hX hbl hbA had (by rw [hl0]; exact Nat.le_of_ble_eq_true rfl) rfl (by first | exact g1 | exact g2 | exact g3 | exact g4 | exact g5) ?_)
  refine lw_callC (n := 1) (As := [.int (xs (x3 + 1).toNatClampNeg)]) (rest := []) F rfl (by decide +kernel) rfl (ri_wok hR) rfl (by decide) hl0 (pr_fair hR _) (fun r w1 q => ⟨q.2.2.1, ?_⟩)
  obtain ⟨⟨v, rfl⟩, hw1, hl1, hm1⟩ := q
  repeat (first
    | refine aw_u F rfl rfl ⟨Nat.le_of_ble_eq_true rfl, Nat.le_of_ble_eq_true rfl⟩ ?_
    | refine aw_sld F hX hbl hbA had (by rw [hl1]; exact Nat.le_of_ble_eq_true rfl) rfl (by first | exact g1 | exact g2 | exact g3 | exact g4 | exact g5) ?_)
  refine lw_callM (n := 1) (As := [.int (xs (x3 + 1).toNatClampNeg)]) (rest := []) F rfl (by decide +kernel) rfl hw1 rfl (by decide) hl1 hm1 (fun r w2 q => ⟨ri_len q.2.2, ?_⟩)
  obtain ⟨⟨v', rfl⟩, -, hR2⟩ := q
  refine aw_u F rfl rfl ⟨Nat.le_of_ble_eq_true rfl, Nat.le_of_ble_eq_true rfl⟩ ?_
  refine aw_u F rfl rfl ⟨Nat.le_of_ble_eq_true rfl, Nat.le_of_ble_eq_true rfl⟩ ?_
  exact hE _ hR2
set_option maxHeartbeats 4000000 in
set_option maxRecDepth 100000 in
theorem lc_19 (F : MF X (mL nm) room_1 p s m #[Value.ref b9] meth c (AL s)) (hX : va_X b9 L xs s s.heap) (hbl : b9 < s.heap.size) (had : ad0 1000030 = b9) {w : List AE} {x3 : Int32} (hR : RI w) (hg : In6 L x3) (hE : ∀ w', RI w' → AW X l (mL nm) room_1 p e s m #[Value.ref b9] below meth c (AL s) (lw_Z below #[Value.ref b9] s) 0 ad0 1442 [(3, .int x3), (2, .ref 148), (1, .ref 0), (0, .ref 1000030)] [] w' 200 33081) : AW X l (mL nm) room_1 p e s m #[Value.ref b9] below meth c (AL s) (lw_Z below #[Value.ref b9] s) 0 ad0 731 [(3, .int x3), (2, .ref 148), (1, .ref 0), (0, .ref 1000030)] [] w 200 33081 := by
  have hbA : ¬ AL s b9 := Nat.not_le.mpr hbl
  obtain ⟨-, g1, g2, g3, g4, g5⟩ := hg
  have hl0 := ri_len hR
  repeat (first
    | refine aw_u F rfl rfl ⟨Nat.le_of_ble_eq_true rfl, Nat.le_of_ble_eq_true rfl⟩ ?_
    | refine aw_sld F hX hbl hbA had (by rw [hl0]; exact Nat.le_of_ble_eq_true rfl) rfl (by first | exact g1 | exact g2 | exact g3 | exact g4 | exact g5) ?_)
  refine lw_callC (n := 2) (As := [.int (xs (x3 + 1).toNatClampNeg), .int (xs (x3 + 2).toNatClampNeg)]) (rest := []) F rfl (by decide +kernel) rfl (ri_wok hR) rfl (by decide) hl0 (pr_rests hR _ _) (fun r w1 q => ⟨q.2.2.1, ?_⟩)
  obtain ⟨⟨v, rfl⟩, hw1, hl1, hm1⟩ := q
  repeat (first
    | refine aw_u F rfl rfl ⟨Nat.le_of_ble_eq_true rfl, Nat.le_of_ble_eq_true rfl⟩ ?_
    | refine aw_sld F hX hbl hbA had (by rw [hl1]; exact Nat.le_of_ble_eq_true rfl) rfl (by first | exact g1 | exact g2 | exact g3 | exact g4 | exact g5) ?_)
  refine lw_callM (n := 2) (As := [.int (xs (x3 + 1).toNatClampNeg), .int (xs (x3 + 2).toNatClampNeg)]) (rest := []) F rfl (by decide +kernel) rfl hw1 rfl (by decide) hl1 hm1 (fun r w2 q => ⟨ri_len q.2.2, ?_⟩)
  obtain ⟨⟨v', rfl⟩, -, hR2⟩ := q
  refine aw_u F rfl rfl ⟨Nat.le_of_ble_eq_true rfl, Nat.le_of_ble_eq_true rfl⟩ ?_
  refine aw_u F rfl rfl ⟨Nat.le_of_ble_eq_true rfl, Nat.le_of_ble_eq_true rfl⟩ ?_
  exact hE _ hR2
set_option maxHeartbeats 4000000 in
set_option maxRecDepth 100000 in
theorem lc_20 (F : MF X (mL nm) room_1 p s m #[Value.ref b9] meth c (AL s)) (hX : va_X b9 L xs s s.heap) (hbl : b9 < s.heap.size) (had : ad0 1000030 = b9) {w : List AE} {x3 : Int32} (hR : RI w) (hg : In6 L x3) (hE : ∀ w', RI w' → AW X l (mL nm) room_1 p e s m #[Value.ref b9] below meth c (AL s) (lw_Z below #[Value.ref b9] s) 0 ad0 1442 [(3, .int x3), (2, .ref 148), (1, .ref 0), (0, .ref 1000030)] [] w' 200 33081) : AW X l (mL nm) room_1 p e s m #[Value.ref b9] below meth c (AL s) (lw_Z below #[Value.ref b9] s) 0 ad0 764 [(3, .int x3), (2, .ref 148), (1, .ref 0), (0, .ref 1000030)] [] w 200 33081 := by
  have hbA : ¬ AL s b9 := Nat.not_le.mpr hbl
  obtain ⟨-, g1, g2, g3, g4, g5⟩ := hg
  have hl0 := ri_len hR
  repeat (first
    | refine aw_u F rfl rfl ⟨Nat.le_of_ble_eq_true rfl, Nat.le_of_ble_eq_true rfl⟩ ?_
    | refine aw_sld F hX hbl hbA had (by rw [hl0]; exact Nat.le_of_ble_eq_true rfl) rfl (by first | exact g1 | exact g2 | exact g3 | exact g4 | exact g5) ?_)
  refine lw_callC (n := 1) (As := [.int (xs (x3 + 1).toNatClampNeg)]) (rest := []) F rfl (by decide +kernel) rfl (ri_wok hR) rfl (by decide) hl0 (pr_round hR _) (fun r w1 q => ⟨q.2.2.1, ?_⟩)
  obtain ⟨⟨v, rfl⟩, hw1, hl1, hm1⟩ := q
  repeat (first
    | refine aw_u F rfl rfl ⟨Nat.le_of_ble_eq_true rfl, Nat.le_of_ble_eq_true rfl⟩ ?_
    | refine aw_sld F hX hbl hbA had (by rw [hl1]; exact Nat.le_of_ble_eq_true rfl) rfl (by first | exact g1 | exact g2 | exact g3 | exact g4 | exact g5) ?_)
  refine lw_callM (n := 1) (As := [.int (xs (x3 + 1).toNatClampNeg)]) (rest := []) F rfl (by decide +kernel) rfl hw1 rfl (by decide) hl1 hm1 (fun r w2 q => ⟨ri_len q.2.2, ?_⟩)
  obtain ⟨⟨v', rfl⟩, -, hR2⟩ := q
  refine aw_u F rfl rfl ⟨Nat.le_of_ble_eq_true rfl, Nat.le_of_ble_eq_true rfl⟩ ?_
  refine aw_u F rfl rfl ⟨Nat.le_of_ble_eq_true rfl, Nat.le_of_ble_eq_true rfl⟩ ?_
  exact hE _ hR2
set_option maxHeartbeats 4000000 in
set_option maxRecDepth 100000 in
theorem lc_21 (F : MF X (mL nm) room_1 p s m #[Value.ref b9] meth c (AL s)) (hX : va_X b9 L xs s s.heap) (hbl : b9 < s.heap.size) (had : ad0 1000030 = b9) {w : List AE} {x3 : Int32} (hR : RI w) (hg : In6 L x3) (hE : ∀ w', RI w' → AW X l (mL nm) room_1 p e s m #[Value.ref b9] below meth c (AL s) (lw_Z below #[Value.ref b9] s) 0 ad0 1442 [(3, .int x3), (2, .ref 148), (1, .ref 0), (0, .ref 1000030)] [] w' 200 33081) : AW X l (mL nm) room_1 p e s m #[Value.ref b9] below meth c (AL s) (lw_Z below #[Value.ref b9] s) 0 ad0 787 [(3, .int x3), (2, .ref 148), (1, .ref 0), (0, .ref 1000030)] [] w 200 33081 := by
  have hbA : ¬ AL s b9 := Nat.not_le.mpr hbl
  obtain ⟨-, g1, g2, g3, g4, g5⟩ := hg
  have hl0 := ri_len hR
  repeat (first
    | refine aw_u F rfl rfl ⟨Nat.le_of_ble_eq_true rfl, Nat.le_of_ble_eq_true rfl⟩ ?_
    | refine aw_sld F hX hbl hbA had (by rw [hl0]; exact Nat.le_of_ble_eq_true rfl) rfl (by first | exact g1 | exact g2 | exact g3 | exact g4 | exact g5) ?_)
  refine lw_callC (n := 0) (As := []) (rest := []) F rfl (by decide +kernel) rfl (ri_wok hR) rfl (by decide) hl0 (pr_reach hR) (fun r w1 q => ⟨q.2.2.1, ?_⟩)
  obtain ⟨⟨v, rfl⟩, hw1, hl1, hm1⟩ := q
  repeat (first
    | refine aw_u F rfl rfl ⟨Nat.le_of_ble_eq_true rfl, Nat.le_of_ble_eq_true rfl⟩ ?_
    | refine aw_sld F hX hbl hbA had (by rw [hl1]; exact Nat.le_of_ble_eq_true rfl) rfl (by first | exact g1 | exact g2 | exact g3 | exact g4 | exact g5) ?_)
  refine lw_callM (n := 0) (As := []) (rest := []) F rfl (by decide +kernel) rfl hw1 rfl (by decide) hl1 hm1 (fun r w2 q => ⟨ri_len q.2.2, ?_⟩)
  obtain ⟨⟨v', rfl⟩, -, hR2⟩ := q
  refine aw_u F rfl rfl ⟨Nat.le_of_ble_eq_true rfl, Nat.le_of_ble_eq_true rfl⟩ ?_
  refine aw_u F rfl rfl ⟨Nat.le_of_ble_eq_true rfl, Nat.le_of_ble_eq_true rfl⟩ ?_
  exact hE _ hR2
set_option maxHeartbeats 4000000 in
set_option maxRecDepth 100000 in
theorem lc_22 (F : MF X (mL nm) room_1 p s m #[Value.ref b9] meth c (AL s)) (hX : va_X b9 L xs s s.heap) (hbl : b9 < s.heap.size) (had : ad0 1000030 = b9) {w : List AE} {x3 : Int32} (hR : RI w) (hg : In6 L x3) (hE : ∀ w', RI w' → AW X l (mL nm) room_1 p e s m #[Value.ref b9] below meth c (AL s) (lw_Z below #[Value.ref b9] s) 0 ad0 1442 [(3, .int x3), (2, .ref 148), (1, .ref 0), (0, .ref 1000030)] [] w' 200 33081) : AW X l (mL nm) room_1 p e s m #[Value.ref b9] below meth c (AL s) (lw_Z below #[Value.ref b9] s) 0 ad0 800 [(3, .int x3), (2, .ref 148), (1, .ref 0), (0, .ref 1000030)] [] w 200 33081 := by
  have hbA : ¬ AL s b9 := Nat.not_le.mpr hbl
  obtain ⟨-, g1, g2, g3, g4, g5⟩ := hg
  have hl0 := ri_len hR
  repeat (first
    | refine aw_u F rfl rfl ⟨Nat.le_of_ble_eq_true rfl, Nat.le_of_ble_eq_true rfl⟩ ?_
    | refine aw_sld F hX hbl hbA had (by rw [hl0]; exact Nat.le_of_ble_eq_true rfl) rfl (by first | exact g1 | exact g2 | exact g3 | exact g4 | exact g5) ?_)
  refine lw_callC (n := 1) (As := [.int (xs (x3 + 1).toNatClampNeg)]) (rest := []) F rfl (by decide +kernel) rfl (ri_wok hR) rfl (by decide) hl0 (pr_far hR _) (fun r w1 q => ⟨q.2.2.1, ?_⟩)
  obtain ⟨⟨v, rfl⟩, hw1, hl1, hm1⟩ := q
  repeat (first
    | refine aw_u F rfl rfl ⟨Nat.le_of_ble_eq_true rfl, Nat.le_of_ble_eq_true rfl⟩ ?_
    | refine aw_sld F hX hbl hbA had (by rw [hl1]; exact Nat.le_of_ble_eq_true rfl) rfl (by first | exact g1 | exact g2 | exact g3 | exact g4 | exact g5) ?_)
  refine lw_callM (n := 1) (As := [.int (xs (x3 + 1).toNatClampNeg)]) (rest := []) F rfl (by decide +kernel) rfl hw1 rfl (by decide) hl1 hm1 (fun r w2 q => ⟨ri_len q.2.2, ?_⟩)
  obtain ⟨⟨v', rfl⟩, -, hR2⟩ := q
  refine aw_u F rfl rfl ⟨Nat.le_of_ble_eq_true rfl, Nat.le_of_ble_eq_true rfl⟩ ?_
  refine aw_u F rfl rfl ⟨Nat.le_of_ble_eq_true rfl, Nat.le_of_ble_eq_true rfl⟩ ?_
  exact hE _ hR2
set_option maxHeartbeats 4000000 in
set_option maxRecDepth 100000 in
theorem lc_23 (F : MF X (mL nm) room_1 p s m #[Value.ref b9] meth c (AL s)) (hX : va_X b9 L xs s s.heap) (hbl : b9 < s.heap.size) (had : ad0 1000030 = b9) {w : List AE} {x3 : Int32} (hR : RI w) (hg : In6 L x3) (hE : ∀ w', RI w' → AW X l (mL nm) room_1 p e s m #[Value.ref b9] below meth c (AL s) (lw_Z below #[Value.ref b9] s) 0 ad0 1442 [(3, .int x3), (2, .ref 148), (1, .ref 0), (0, .ref 1000030)] [] w' 200 33081) : AW X l (mL nm) room_1 p e s m #[Value.ref b9] below meth c (AL s) (lw_Z below #[Value.ref b9] s) 0 ad0 823 [(3, .int x3), (2, .ref 148), (1, .ref 0), (0, .ref 1000030)] [] w 200 33081 := by
  have hbA : ¬ AL s b9 := Nat.not_le.mpr hbl
  obtain ⟨-, g1, g2, g3, g4, g5⟩ := hg
  have hl0 := ri_len hR
  repeat (first
    | refine aw_u F rfl rfl ⟨Nat.le_of_ble_eq_true rfl, Nat.le_of_ble_eq_true rfl⟩ ?_
    | refine aw_sld F hX hbl hbA had (by rw [hl0]; exact Nat.le_of_ble_eq_true rfl) rfl (by first | exact g1 | exact g2 | exact g3 | exact g4 | exact g5) ?_)
  refine lw_callC (n := 2) (As := [.int (xs (x3 + 1).toNatClampNeg), .int (xs (x3 + 2).toNatClampNeg)]) (rest := []) F rfl (by decide +kernel) rfl (ri_wok hR) rfl (by decide) hl0 (pr_farAt hR _ _) (fun r w1 q => ⟨q.2.2.1, ?_⟩)
  obtain ⟨⟨v, rfl⟩, hw1, hl1, hm1⟩ := q
  repeat (first
    | refine aw_u F rfl rfl ⟨Nat.le_of_ble_eq_true rfl, Nat.le_of_ble_eq_true rfl⟩ ?_
    | refine aw_sld F hX hbl hbA had (by rw [hl1]; exact Nat.le_of_ble_eq_true rfl) rfl (by first | exact g1 | exact g2 | exact g3 | exact g4 | exact g5) ?_)
  refine lw_callM (n := 2) (As := [.int (xs (x3 + 1).toNatClampNeg), .int (xs (x3 + 2).toNatClampNeg)]) (rest := []) F rfl (by decide +kernel) rfl hw1 rfl (by decide) hl1 hm1 (fun r w2 q => ⟨ri_len q.2.2, ?_⟩)
  obtain ⟨⟨v', rfl⟩, -, hR2⟩ := q
  refine aw_u F rfl rfl ⟨Nat.le_of_ble_eq_true rfl, Nat.le_of_ble_eq_true rfl⟩ ?_
  refine aw_u F rfl rfl ⟨Nat.le_of_ble_eq_true rfl, Nat.le_of_ble_eq_true rfl⟩ ?_
  exact hE _ hR2
set_option maxHeartbeats 4000000 in
set_option maxRecDepth 100000 in
theorem lc_24 (F : MF X (mL nm) room_1 p s m #[Value.ref b9] meth c (AL s)) (hX : va_X b9 L xs s s.heap) (hbl : b9 < s.heap.size) (had : ad0 1000030 = b9) {w : List AE} {x3 : Int32} (hR : RI w) (hg : In6 L x3) (hE : ∀ w', RI w' → AW X l (mL nm) room_1 p e s m #[Value.ref b9] below meth c (AL s) (lw_Z below #[Value.ref b9] s) 0 ad0 1442 [(3, .int x3), (2, .ref 148), (1, .ref 0), (0, .ref 1000030)] [] w' 200 33081) : AW X l (mL nm) room_1 p e s m #[Value.ref b9] below meth c (AL s) (lw_Z below #[Value.ref b9] s) 0 ad0 856 [(3, .int x3), (2, .ref 148), (1, .ref 0), (0, .ref 1000030)] [] w 200 33081 := by
  have hbA : ¬ AL s b9 := Nat.not_le.mpr hbl
  obtain ⟨-, g1, g2, g3, g4, g5⟩ := hg
  have hl0 := ri_len hR
  repeat (first
    | refine aw_u F rfl rfl ⟨Nat.le_of_ble_eq_true rfl, Nat.le_of_ble_eq_true rfl⟩ ?_
    | refine aw_sld F hX hbl hbA had (by rw [hl0]; exact Nat.le_of_ble_eq_true rfl) rfl (by first | exact g1 | exact g2 | exact g3 | exact g4 | exact g5) ?_)
  refine lw_callC (n := 0) (As := []) (rest := []) F rfl (by decide +kernel) rfl (ri_wok hR) rfl (by decide) hl0 (pr_trapped hR) (fun r w1 q => ⟨q.2.2.1, ?_⟩)
  obtain ⟨⟨v, rfl⟩, hw1, hl1, hm1⟩ := q
  repeat (first
    | refine aw_u F rfl rfl ⟨Nat.le_of_ble_eq_true rfl, Nat.le_of_ble_eq_true rfl⟩ ?_
    | refine aw_sld F hX hbl hbA had (by rw [hl1]; exact Nat.le_of_ble_eq_true rfl) rfl (by first | exact g1 | exact g2 | exact g3 | exact g4 | exact g5) ?_)
  refine lw_callM (n := 0) (As := []) (rest := []) F rfl (by decide +kernel) rfl hw1 rfl (by decide) hl1 hm1 (fun r w2 q => ⟨ri_len q.2.2, ?_⟩)
  obtain ⟨⟨v', rfl⟩, -, hR2⟩ := q
  refine aw_u F rfl rfl ⟨Nat.le_of_ble_eq_true rfl, Nat.le_of_ble_eq_true rfl⟩ ?_
  refine aw_u F rfl rfl ⟨Nat.le_of_ble_eq_true rfl, Nat.le_of_ble_eq_true rfl⟩ ?_
  exact hE _ hR2
set_option maxHeartbeats 4000000 in
set_option maxRecDepth 100000 in
theorem lc_25 (F : MF X (mL nm) room_1 p s m #[Value.ref b9] meth c (AL s)) (hX : va_X b9 L xs s s.heap) (hbl : b9 < s.heap.size) (had : ad0 1000030 = b9) {w : List AE} {x3 : Int32} (hR : RI w) (hg : In6 L x3) (hE : ∀ w', RI w' → AW X l (mL nm) room_1 p e s m #[Value.ref b9] below meth c (AL s) (lw_Z below #[Value.ref b9] s) 0 ad0 1442 [(3, .int x3), (2, .ref 148), (1, .ref 0), (0, .ref 1000030)] [] w' 200 33081) : AW X l (mL nm) room_1 p e s m #[Value.ref b9] below meth c (AL s) (lw_Z below #[Value.ref b9] s) 0 ad0 869 [(3, .int x3), (2, .ref 148), (1, .ref 0), (0, .ref 1000030)] [] w 200 33081 := by
  have hbA : ¬ AL s b9 := Nat.not_le.mpr hbl
  obtain ⟨-, g1, g2, g3, g4, g5⟩ := hg
  have hl0 := ri_len hR
  repeat (first
    | refine aw_u F rfl rfl ⟨Nat.le_of_ble_eq_true rfl, Nat.le_of_ble_eq_true rfl⟩ ?_
    | refine aw_sld F hX hbl hbA had (by rw [hl0]; exact Nat.le_of_ble_eq_true rfl) rfl (by first | exact g1 | exact g2 | exact g3 | exact g4 | exact g5) ?_)
  refine lw_callC (n := 3) (As := [.int (xs (x3 + 1).toNatClampNeg), .int (xs (x3 + 2).toNatClampNeg), .int (xs (x3 + 3).toNatClampNeg)]) (rest := []) F rfl (by decide +kernel) rfl (ri_wok hR) rfl (by decide) hl0 (pr_bestBed hR _ _ _) (fun r w1 q => ⟨q.2.2.1, ?_⟩)
  obtain ⟨⟨v, rfl⟩, hw1, hl1, hm1⟩ := q
  repeat (first
    | refine aw_u F rfl rfl ⟨Nat.le_of_ble_eq_true rfl, Nat.le_of_ble_eq_true rfl⟩ ?_
    | refine aw_sld F hX hbl hbA had (by rw [hl1]; exact Nat.le_of_ble_eq_true rfl) rfl (by first | exact g1 | exact g2 | exact g3 | exact g4 | exact g5) ?_)
  refine lw_callM (n := 3) (As := [.int (xs (x3 + 1).toNatClampNeg), .int (xs (x3 + 2).toNatClampNeg), .int (xs (x3 + 3).toNatClampNeg)]) (rest := []) F rfl (by decide +kernel) rfl hw1 rfl (by decide) hl1 hm1 (fun r w2 q => ⟨ri_len q.2.2, ?_⟩)
  obtain ⟨⟨v', rfl⟩, -, hR2⟩ := q
  refine aw_u F rfl rfl ⟨Nat.le_of_ble_eq_true rfl, Nat.le_of_ble_eq_true rfl⟩ ?_
  refine aw_u F rfl rfl ⟨Nat.le_of_ble_eq_true rfl, Nat.le_of_ble_eq_true rfl⟩ ?_
  exact hE _ hR2
set_option maxHeartbeats 4000000 in
set_option maxRecDepth 100000 in
theorem lc_26 (F : MF X (mL nm) room_1 p s m #[Value.ref b9] meth c (AL s)) (hX : va_X b9 L xs s s.heap) (hbl : b9 < s.heap.size) (had : ad0 1000030 = b9) {w : List AE} {x3 : Int32} (hR : RI w) (hg : In6 L x3) (hE : ∀ w', RI w' → AW X l (mL nm) room_1 p e s m #[Value.ref b9] below meth c (AL s) (lw_Z below #[Value.ref b9] s) 0 ad0 1442 [(3, .int x3), (2, .ref 148), (1, .ref 0), (0, .ref 1000030)] [] w' 200 33081) : AW X l (mL nm) room_1 p e s m #[Value.ref b9] below meth c (AL s) (lw_Z below #[Value.ref b9] s) 0 ad0 912 [(3, .int x3), (2, .ref 148), (1, .ref 0), (0, .ref 1000030)] [] w 200 33081 := by
  have hbA : ¬ AL s b9 := Nat.not_le.mpr hbl
  obtain ⟨-, g1, g2, g3, g4, g5⟩ := hg
  have hl0 := ri_len hR
  repeat (first
    | refine aw_u F rfl rfl ⟨Nat.le_of_ble_eq_true rfl, Nat.le_of_ble_eq_true rfl⟩ ?_
    | refine aw_sld F hX hbl hbA had (by rw [hl0]; exact Nat.le_of_ble_eq_true rfl) rfl (by first | exact g1 | exact g2 | exact g3 | exact g4 | exact g5) ?_)
  refine lw_callC (n := 2) (As := [.int (xs (x3 + 1).toNatClampNeg), .int (xs (x3 + 2).toNatClampNeg)]) (rest := []) F rfl (by decide +kernel) rfl (ri_wok hR) rfl (by decide) hl0 (pr_bestStart hR _ _) (fun r w1 q => ⟨q.2.2.1, ?_⟩)
  obtain ⟨⟨v, rfl⟩, hw1, hl1, hm1⟩ := q
  repeat (first
    | refine aw_u F rfl rfl ⟨Nat.le_of_ble_eq_true rfl, Nat.le_of_ble_eq_true rfl⟩ ?_
    | refine aw_sld F hX hbl hbA had (by rw [hl1]; exact Nat.le_of_ble_eq_true rfl) rfl (by first | exact g1 | exact g2 | exact g3 | exact g4 | exact g5) ?_)
  refine lw_callM (n := 2) (As := [.int (xs (x3 + 1).toNatClampNeg), .int (xs (x3 + 2).toNatClampNeg)]) (rest := []) F rfl (by decide +kernel) rfl hw1 rfl (by decide) hl1 hm1 (fun r w2 q => ⟨ri_len q.2.2, ?_⟩)
  obtain ⟨⟨v', rfl⟩, -, hR2⟩ := q
  refine aw_u F rfl rfl ⟨Nat.le_of_ble_eq_true rfl, Nat.le_of_ble_eq_true rfl⟩ ?_
  refine aw_u F rfl rfl ⟨Nat.le_of_ble_eq_true rfl, Nat.le_of_ble_eq_true rfl⟩ ?_
  exact hE _ hR2
set_option maxHeartbeats 4000000 in
set_option maxRecDepth 100000 in
theorem lc_27 (F : MF X (mL nm) room_1 p s m #[Value.ref b9] meth c (AL s)) (hX : va_X b9 L xs s s.heap) (hbl : b9 < s.heap.size) (had : ad0 1000030 = b9) {w : List AE} {x3 : Int32} (hR : RI w) (hg : In6 L x3) (hE : ∀ w', RI w' → AW X l (mL nm) room_1 p e s m #[Value.ref b9] below meth c (AL s) (lw_Z below #[Value.ref b9] s) 0 ad0 1442 [(3, .int x3), (2, .ref 148), (1, .ref 0), (0, .ref 1000030)] [] w' 200 33081) : AW X l (mL nm) room_1 p e s m #[Value.ref b9] below meth c (AL s) (lw_Z below #[Value.ref b9] s) 0 ad0 945 [(3, .int x3), (2, .ref 148), (1, .ref 0), (0, .ref 1000030)] [] w 200 33081 := by
  have hbA : ¬ AL s b9 := Nat.not_le.mpr hbl
  obtain ⟨-, g1, g2, g3, g4, g5⟩ := hg
  have hl0 := ri_len hR
  repeat (first
    | refine aw_u F rfl rfl ⟨Nat.le_of_ble_eq_true rfl, Nat.le_of_ble_eq_true rfl⟩ ?_
    | refine aw_sld F hX hbl hbA had (by rw [hl0]; exact Nat.le_of_ble_eq_true rfl) rfl (by first | exact g1 | exact g2 | exact g3 | exact g4 | exact g5) ?_)
  refine lw_callC (n := 1) (As := [.int (xs (x3 + 1).toNatClampNeg)]) (rest := []) F rfl (by decide +kernel) rfl (ri_wok hR) rfl (by decide) hl0 (pr_free hR _) (fun r w1 q => ⟨q.2.2.1, ?_⟩)
  obtain ⟨⟨v, rfl⟩, hw1, hl1, hm1⟩ := q
  repeat (first
    | refine aw_u F rfl rfl ⟨Nat.le_of_ble_eq_true rfl, Nat.le_of_ble_eq_true rfl⟩ ?_
    | refine aw_sld F hX hbl hbA had (by rw [hl1]; exact Nat.le_of_ble_eq_true rfl) rfl (by first | exact g1 | exact g2 | exact g3 | exact g4 | exact g5) ?_)
  refine lw_callM (n := 1) (As := [.int (xs (x3 + 1).toNatClampNeg)]) (rest := []) F rfl (by decide +kernel) rfl hw1 rfl (by decide) hl1 hm1 (fun r w2 q => ⟨ri_len q.2.2, ?_⟩)
  obtain ⟨⟨v', rfl⟩, -, hR2⟩ := q
  refine aw_u F rfl rfl ⟨Nat.le_of_ble_eq_true rfl, Nat.le_of_ble_eq_true rfl⟩ ?_
  refine aw_u F rfl rfl ⟨Nat.le_of_ble_eq_true rfl, Nat.le_of_ble_eq_true rfl⟩ ?_
  exact hE _ hR2
set_option maxHeartbeats 4000000 in
set_option maxRecDepth 100000 in
theorem lc_28 (F : MF X (mL nm) room_1 p s m #[Value.ref b9] meth c (AL s)) (hX : va_X b9 L xs s s.heap) (hbl : b9 < s.heap.size) (had : ad0 1000030 = b9) {w : List AE} {x3 : Int32} (hR : RI w) (hg : In6 L x3) (hE : ∀ w', RI w' → AW X l (mL nm) room_1 p e s m #[Value.ref b9] below meth c (AL s) (lw_Z below #[Value.ref b9] s) 0 ad0 1442 [(3, .int x3), (2, .ref 148), (1, .ref 0), (0, .ref 1000030)] [] w' 200 33081) : AW X l (mL nm) room_1 p e s m #[Value.ref b9] below meth c (AL s) (lw_Z below #[Value.ref b9] s) 0 ad0 968 [(3, .int x3), (2, .ref 148), (1, .ref 0), (0, .ref 1000030)] [] w 200 33081 := by
  have hbA : ¬ AL s b9 := Nat.not_le.mpr hbl
  obtain ⟨-, g1, g2, g3, g4, g5⟩ := hg
  have hl0 := ri_len hR
  repeat (first
    | refine aw_u F rfl rfl ⟨Nat.le_of_ble_eq_true rfl, Nat.le_of_ble_eq_true rfl⟩ ?_
    | refine aw_sld F hX hbl hbA had (by rw [hl0]; exact Nat.le_of_ble_eq_true rfl) rfl (by first | exact g1 | exact g2 | exact g3 | exact g4 | exact g5) ?_)
  refine lw_callC (n := 2) (As := [.int (xs (x3 + 1).toNatClampNeg), .int (xs (x3 + 2).toNatClampNeg)]) (rest := []) F rfl (by decide +kernel) rfl (ri_wok hR) rfl (by decide) hl0 (pr_handed hR _ _) (fun r w1 q => ⟨q.2.2.1, ?_⟩)
  obtain ⟨⟨v, rfl⟩, hw1, hl1, hm1⟩ := q
  repeat (first
    | refine aw_u F rfl rfl ⟨Nat.le_of_ble_eq_true rfl, Nat.le_of_ble_eq_true rfl⟩ ?_
    | refine aw_sld F hX hbl hbA had (by rw [hl1]; exact Nat.le_of_ble_eq_true rfl) rfl (by first | exact g1 | exact g2 | exact g3 | exact g4 | exact g5) ?_)
  refine lw_callM (n := 2) (As := [.int (xs (x3 + 1).toNatClampNeg), .int (xs (x3 + 2).toNatClampNeg)]) (rest := []) F rfl (by decide +kernel) rfl hw1 rfl (by decide) hl1 hm1 (fun r w2 q => ⟨ri_len q.2.2, ?_⟩)
  obtain ⟨⟨v', rfl⟩, -, hR2⟩ := q
  refine aw_u F rfl rfl ⟨Nat.le_of_ble_eq_true rfl, Nat.le_of_ble_eq_true rfl⟩ ?_
  refine aw_u F rfl rfl ⟨Nat.le_of_ble_eq_true rfl, Nat.le_of_ble_eq_true rfl⟩ ?_
  exact hE _ hR2
set_option maxHeartbeats 4000000 in
set_option maxRecDepth 100000 in
theorem lc_29 (F : MF X (mL nm) room_1 p s m #[Value.ref b9] meth c (AL s)) (hX : va_X b9 L xs s s.heap) (hbl : b9 < s.heap.size) (had : ad0 1000030 = b9) {w : List AE} {x3 : Int32} (hR : RI w) (hg : In6 L x3) (hE : ∀ w', RI w' → AW X l (mL nm) room_1 p e s m #[Value.ref b9] below meth c (AL s) (lw_Z below #[Value.ref b9] s) 0 ad0 1442 [(3, .int x3), (2, .ref 148), (1, .ref 0), (0, .ref 1000030)] [] w' 200 33081) : AW X l (mL nm) room_1 p e s m #[Value.ref b9] below meth c (AL s) (lw_Z below #[Value.ref b9] s) 0 ad0 1001 [(3, .int x3), (2, .ref 148), (1, .ref 0), (0, .ref 1000030)] [] w 200 33081 := by
  have hbA : ¬ AL s b9 := Nat.not_le.mpr hbl
  obtain ⟨-, g1, g2, g3, g4, g5⟩ := hg
  have hl0 := ri_len hR
  repeat (first
    | refine aw_u F rfl rfl ⟨Nat.le_of_ble_eq_true rfl, Nat.le_of_ble_eq_true rfl⟩ ?_
    | refine aw_sld F hX hbl hbA had (by rw [hl0]; exact Nat.le_of_ble_eq_true rfl) rfl (by first | exact g1 | exact g2 | exact g3 | exact g4 | exact g5) ?_)
  refine lw_callC (n := 1) (As := [.int (xs (x3 + 1).toNatClampNeg)]) (rest := []) F rfl (by decide +kernel) rfl (ri_wok hR) rfl (by decide) hl0 (pr_luckiest hR _) (fun r w1 q => ⟨q.2.2.1, ?_⟩)
  obtain ⟨⟨v, rfl⟩, hw1, hl1, hm1⟩ := q
  repeat (first
    | refine aw_u F rfl rfl ⟨Nat.le_of_ble_eq_true rfl, Nat.le_of_ble_eq_true rfl⟩ ?_
    | refine aw_sld F hX hbl hbA had (by rw [hl1]; exact Nat.le_of_ble_eq_true rfl) rfl (by first | exact g1 | exact g2 | exact g3 | exact g4 | exact g5) ?_)
  refine lw_callM (n := 1) (As := [.int (xs (x3 + 1).toNatClampNeg)]) (rest := []) F rfl (by decide +kernel) rfl hw1 rfl (by decide) hl1 hm1 (fun r w2 q => ⟨ri_len q.2.2, ?_⟩)
  obtain ⟨⟨v', rfl⟩, -, hR2⟩ := q
  refine aw_u F rfl rfl ⟨Nat.le_of_ble_eq_true rfl, Nat.le_of_ble_eq_true rfl⟩ ?_
  refine aw_u F rfl rfl ⟨Nat.le_of_ble_eq_true rfl, Nat.le_of_ble_eq_true rfl⟩ ?_
  exact hE _ hR2
set_option maxHeartbeats 4000000 in
set_option maxRecDepth 100000 in
theorem lc_30 (F : MF X (mL nm) room_1 p s m #[Value.ref b9] meth c (AL s)) (hX : va_X b9 L xs s s.heap) (hbl : b9 < s.heap.size) (had : ad0 1000030 = b9) {w : List AE} {x3 : Int32} (hR : RI w) (hg : In6 L x3) (hE : ∀ w', RI w' → AW X l (mL nm) room_1 p e s m #[Value.ref b9] below meth c (AL s) (lw_Z below #[Value.ref b9] s) 0 ad0 1442 [(3, .int x3), (2, .ref 148), (1, .ref 0), (0, .ref 1000030)] [] w' 200 33081) : AW X l (mL nm) room_1 p e s m #[Value.ref b9] below meth c (AL s) (lw_Z below #[Value.ref b9] s) 0 ad0 1024 [(3, .int x3), (2, .ref 148), (1, .ref 0), (0, .ref 1000030)] [] w 200 33081 := by
  have hbA : ¬ AL s b9 := Nat.not_le.mpr hbl
  obtain ⟨-, g1, g2, g3, g4, g5⟩ := hg
  have hl0 := ri_len hR
  repeat (first
    | refine aw_u F rfl rfl ⟨Nat.le_of_ble_eq_true rfl, Nat.le_of_ble_eq_true rfl⟩ ?_
    | refine aw_sld F hX hbl hbA had (by rw [hl0]; exact Nat.le_of_ble_eq_true rfl) rfl (by first | exact g1 | exact g2 | exact g3 | exact g4 | exact g5) ?_)
  refine lw_callC (n := 2) (As := [.int (xs (x3 + 1).toNatClampNeg), .int (xs (x3 + 2).toNatClampNeg)]) (rest := []) F rfl (by decide +kernel) rfl (ri_wok hR) rfl (by decide) hl0 (pr_best hR _ _) (fun r w1 q => ⟨q.2.2.1, ?_⟩)
  obtain ⟨⟨v, rfl⟩, hw1, hl1, hm1⟩ := q
  repeat (first
    | refine aw_u F rfl rfl ⟨Nat.le_of_ble_eq_true rfl, Nat.le_of_ble_eq_true rfl⟩ ?_
    | refine aw_sld F hX hbl hbA had (by rw [hl1]; exact Nat.le_of_ble_eq_true rfl) rfl (by first | exact g1 | exact g2 | exact g3 | exact g4 | exact g5) ?_)
  refine lw_callM (n := 2) (As := [.int (xs (x3 + 1).toNatClampNeg), .int (xs (x3 + 2).toNatClampNeg)]) (rest := []) F rfl (by decide +kernel) rfl hw1 rfl (by decide) hl1 hm1 (fun r w2 q => ⟨ri_len q.2.2, ?_⟩)
  obtain ⟨⟨v', rfl⟩, -, hR2⟩ := q
  refine aw_u F rfl rfl ⟨Nat.le_of_ble_eq_true rfl, Nat.le_of_ble_eq_true rfl⟩ ?_
  refine aw_u F rfl rfl ⟨Nat.le_of_ble_eq_true rfl, Nat.le_of_ble_eq_true rfl⟩ ?_
  exact hE _ hR2
set_option maxHeartbeats 4000000 in
set_option maxRecDepth 100000 in
theorem lc_31 (F : MF X (mL nm) room_1 p s m #[Value.ref b9] meth c (AL s)) (hX : va_X b9 L xs s s.heap) (hbl : b9 < s.heap.size) (had : ad0 1000030 = b9) {w : List AE} {x3 : Int32} (hR : RI w) (hg : In6 L x3) (hE : ∀ w', RI w' → AW X l (mL nm) room_1 p e s m #[Value.ref b9] below meth c (AL s) (lw_Z below #[Value.ref b9] s) 0 ad0 1442 [(3, .int x3), (2, .ref 148), (1, .ref 0), (0, .ref 1000030)] [] w' 200 33081) : AW X l (mL nm) room_1 p e s m #[Value.ref b9] below meth c (AL s) (lw_Z below #[Value.ref b9] s) 0 ad0 1057 [(3, .int x3), (2, .ref 148), (1, .ref 0), (0, .ref 1000030)] [] w 200 33081 := by
  have hbA : ¬ AL s b9 := Nat.not_le.mpr hbl
  obtain ⟨-, g1, g2, g3, g4, g5⟩ := hg
  have hl0 := ri_len hR
  repeat (first
    | refine aw_u F rfl rfl ⟨Nat.le_of_ble_eq_true rfl, Nat.le_of_ble_eq_true rfl⟩ ?_
    | refine aw_sld F hX hbl hbA had (by rw [hl0]; exact Nat.le_of_ble_eq_true rfl) rfl (by first | exact g1 | exact g2 | exact g3 | exact g4 | exact g5) ?_)
  refine lw_callC (n := 1) (As := [.int (xs (x3 + 1).toNatClampNeg)]) (rest := []) F rfl (by decide +kernel) rfl (ri_wok hR) rfl (by decide) hl0 (pr_needed hR _) (fun r w1 q => ⟨q.2.2.1, ?_⟩)
  obtain ⟨⟨v, rfl⟩, hw1, hl1, hm1⟩ := q
  repeat (first
    | refine aw_u F rfl rfl ⟨Nat.le_of_ble_eq_true rfl, Nat.le_of_ble_eq_true rfl⟩ ?_
    | refine aw_sld F hX hbl hbA had (by rw [hl1]; exact Nat.le_of_ble_eq_true rfl) rfl (by first | exact g1 | exact g2 | exact g3 | exact g4 | exact g5) ?_)
  refine lw_callM (n := 1) (As := [.int (xs (x3 + 1).toNatClampNeg)]) (rest := []) F rfl (by decide +kernel) rfl hw1 rfl (by decide) hl1 hm1 (fun r w2 q => ⟨ri_len q.2.2, ?_⟩)
  obtain ⟨⟨v', rfl⟩, -, hR2⟩ := q
  refine aw_u F rfl rfl ⟨Nat.le_of_ble_eq_true rfl, Nat.le_of_ble_eq_true rfl⟩ ?_
  refine aw_u F rfl rfl ⟨Nat.le_of_ble_eq_true rfl, Nat.le_of_ble_eq_true rfl⟩ ?_
  exact hE _ hR2
set_option maxHeartbeats 4000000 in
set_option maxRecDepth 100000 in
theorem lc_32 (F : MF X (mL nm) room_1 p s m #[Value.ref b9] meth c (AL s)) (hX : va_X b9 L xs s s.heap) (hbl : b9 < s.heap.size) (had : ad0 1000030 = b9) {w : List AE} {x3 : Int32} (hR : RI w) (hg : In6 L x3) (hE : ∀ w', RI w' → AW X l (mL nm) room_1 p e s m #[Value.ref b9] below meth c (AL s) (lw_Z below #[Value.ref b9] s) 0 ad0 1442 [(3, .int x3), (2, .ref 148), (1, .ref 0), (0, .ref 1000030)] [] w' 200 33081) : AW X l (mL nm) room_1 p e s m #[Value.ref b9] below meth c (AL s) (lw_Z below #[Value.ref b9] s) 0 ad0 1080 [(3, .int x3), (2, .ref 148), (1, .ref 0), (0, .ref 1000030)] [] w 200 33081 := by
  have hbA : ¬ AL s b9 := Nat.not_le.mpr hbl
  obtain ⟨-, g1, g2, g3, g4, g5⟩ := hg
  have hl0 := ri_len hR
  repeat (first
    | refine aw_u F rfl rfl ⟨Nat.le_of_ble_eq_true rfl, Nat.le_of_ble_eq_true rfl⟩ ?_
    | refine aw_sld F hX hbl hbA had (by rw [hl0]; exact Nat.le_of_ble_eq_true rfl) rfl (by first | exact g1 | exact g2 | exact g3 | exact g4 | exact g5) ?_)
  refine lw_callC (n := 2) (As := [.int (xs (x3 + 1).toNatClampNeg), .int (xs (x3 + 2).toNatClampNeg)]) (rest := []) F rfl (by decide +kernel) rfl (ri_wok hR) rfl (by decide) hl0 (pr_mean hR _ _) (fun r w1 q => ⟨q.2.2.1, ?_⟩)
  obtain ⟨⟨v, rfl⟩, hw1, hl1, hm1⟩ := q
  repeat (first
    | refine aw_u F rfl rfl ⟨Nat.le_of_ble_eq_true rfl, Nat.le_of_ble_eq_true rfl⟩ ?_
    | refine aw_sld F hX hbl hbA had (by rw [hl1]; exact Nat.le_of_ble_eq_true rfl) rfl (by first | exact g1 | exact g2 | exact g3 | exact g4 | exact g5) ?_)
  refine lw_callM (n := 2) (As := [.int (xs (x3 + 1).toNatClampNeg), .int (xs (x3 + 2).toNatClampNeg)]) (rest := []) F rfl (by decide +kernel) rfl hw1 rfl (by decide) hl1 hm1 (fun r w2 q => ⟨ri_len q.2.2, ?_⟩)
  obtain ⟨⟨v', rfl⟩, -, hR2⟩ := q
  refine aw_u F rfl rfl ⟨Nat.le_of_ble_eq_true rfl, Nat.le_of_ble_eq_true rfl⟩ ?_
  refine aw_u F rfl rfl ⟨Nat.le_of_ble_eq_true rfl, Nat.le_of_ble_eq_true rfl⟩ ?_
  exact hE _ hR2
set_option maxHeartbeats 4000000 in
set_option maxRecDepth 100000 in
theorem lc_33 (F : MF X (mL nm) room_1 p s m #[Value.ref b9] meth c (AL s)) (hX : va_X b9 L xs s s.heap) (hbl : b9 < s.heap.size) (had : ad0 1000030 = b9) {w : List AE} {x3 : Int32} (hR : RI w) (hg : In6 L x3) (hE : ∀ w', RI w' → AW X l (mL nm) room_1 p e s m #[Value.ref b9] below meth c (AL s) (lw_Z below #[Value.ref b9] s) 0 ad0 1442 [(3, .int x3), (2, .ref 148), (1, .ref 0), (0, .ref 1000030)] [] w' 200 33081) : AW X l (mL nm) room_1 p e s m #[Value.ref b9] below meth c (AL s) (lw_Z below #[Value.ref b9] s) 0 ad0 1113 [(3, .int x3), (2, .ref 148), (1, .ref 0), (0, .ref 1000030)] [] w 200 33081 := by
  have hbA : ¬ AL s b9 := Nat.not_le.mpr hbl
  obtain ⟨-, g1, g2, g3, g4, g5⟩ := hg
  have hl0 := ri_len hR
  repeat (first
    | refine aw_u F rfl rfl ⟨Nat.le_of_ble_eq_true rfl, Nat.le_of_ble_eq_true rfl⟩ ?_
    | refine aw_sld F hX hbl hbA had (by rw [hl0]; exact Nat.le_of_ble_eq_true rfl) rfl (by first | exact g1 | exact g2 | exact g3 | exact g4 | exact g5) ?_)
  refine lw_callC (n := 1) (As := [.int (xs (x3 + 1).toNatClampNeg)]) (rest := []) F rfl (by decide +kernel) rfl (ri_wok hR) rfl (by decide) hl0 (pr_knows hR _) (fun r w1 q => ⟨q.2.2.1, ?_⟩)
  obtain ⟨⟨v, rfl⟩, hw1, hl1, hm1⟩ := q
  repeat (first
    | refine aw_u F rfl rfl ⟨Nat.le_of_ble_eq_true rfl, Nat.le_of_ble_eq_true rfl⟩ ?_
    | refine aw_sld F hX hbl hbA had (by rw [hl1]; exact Nat.le_of_ble_eq_true rfl) rfl (by first | exact g1 | exact g2 | exact g3 | exact g4 | exact g5) ?_)
  refine lw_callM (n := 1) (As := [.int (xs (x3 + 1).toNatClampNeg)]) (rest := []) F rfl (by decide +kernel) rfl hw1 rfl (by decide) hl1 hm1 (fun r w2 q => ⟨ri_len q.2.2, ?_⟩)
  obtain ⟨⟨v', rfl⟩, -, hR2⟩ := q
  refine aw_u F rfl rfl ⟨Nat.le_of_ble_eq_true rfl, Nat.le_of_ble_eq_true rfl⟩ ?_
  refine aw_u F rfl rfl ⟨Nat.le_of_ble_eq_true rfl, Nat.le_of_ble_eq_true rfl⟩ ?_
  exact hE _ hR2
set_option maxHeartbeats 4000000 in
set_option maxRecDepth 100000 in
theorem lc_34 (F : MF X (mL nm) room_1 p s m #[Value.ref b9] meth c (AL s)) (hX : va_X b9 L xs s s.heap) (hbl : b9 < s.heap.size) (had : ad0 1000030 = b9) {w : List AE} {x3 : Int32} (hR : RI w) (hg : In6 L x3) (hE : ∀ w', RI w' → AW X l (mL nm) room_1 p e s m #[Value.ref b9] below meth c (AL s) (lw_Z below #[Value.ref b9] s) 0 ad0 1442 [(3, .int x3), (2, .ref 148), (1, .ref 0), (0, .ref 1000030)] [] w' 200 33081) : AW X l (mL nm) room_1 p e s m #[Value.ref b9] below meth c (AL s) (lw_Z below #[Value.ref b9] s) 0 ad0 1136 [(3, .int x3), (2, .ref 148), (1, .ref 0), (0, .ref 1000030)] [] w 200 33081 := by
  have hbA : ¬ AL s b9 := Nat.not_le.mpr hbl
  obtain ⟨-, g1, g2, g3, g4, g5⟩ := hg
  have hl0 := ri_len hR
  have hx : ∀ y : Int32, (y = 0 ∨ y = 1) → 0 ≤ y.toInt ∧ y.toInt ≤ 1 := fun y hy => by rcases hy with e | e <;> rw [e] <;> decide
  have key : ∀ (y : Int32) (bb : Bool), (y = 0 ∨ y = 1) → y = cond bb 0 1 → cmpB .eq (xs (x3 + 2).toNatClampNeg) 0 = bb → AW X l (mL nm) room_1 p e s m #[Value.ref b9] below meth c (AL s) (lw_Z below #[Value.ref b9] s) 0 ad0 1155 [(3, .int x3), (2, .ref 148), (1, .ref 0), (0, .ref 1000030)] [.int y, .int (xs (x3 + 1).toNatClampNeg), .ref 0] w 200 33081 := by
    intro y bb hy hyb hbb
    refine lw_callC (n := 2) (As := [.int (xs (x3 + 1).toNatClampNeg), .int y]) (rest := []) F rfl (by decide +kernel) rfl (ri_wok hR) rfl (by decide) hl0 (pr_when hR _ _ (hx y hy)) (fun r w1 q => ⟨q.2.2.1, ?_⟩)
    obtain ⟨⟨v, rfl⟩, hw1, hl1, hm1⟩ := q
    have fin : AW X l (mL nm) room_1 p e s m #[Value.ref b9] below meth c (AL s) (lw_Z below #[Value.ref b9] s) 0 ad0 1178 [(3, .int x3), (2, .ref 148), (1, .ref 0), (0, .ref 1000030)] (.int y :: .int (xs (x3 + 1).toNatClampNeg) :: .ref 148 :: []) w1 200 33081 := by
      refine lw_callM (n := 2) (As := [.int (xs (x3 + 1).toNatClampNeg), .int y]) (rest := []) F rfl (by decide +kernel) rfl hw1 rfl (by decide) hl1 hm1 (fun r w2 q => ⟨ri_len q.2.2, ?_⟩)
      obtain ⟨⟨v', rfl⟩, hc, hR2⟩ := q
      refine aw_u F rfl rfl ⟨Nat.le_of_ble_eq_true rfl, Nat.le_of_ble_eq_true rfl⟩ ?_
      refine aw_u F rfl rfl ⟨Nat.le_of_ble_eq_true rfl, Nat.le_of_ble_eq_true rfl⟩ ?_
      exact hE _ hR2
    repeat (first
      | refine aw_u F rfl rfl ⟨Nat.le_of_ble_eq_true rfl, Nat.le_of_ble_eq_true rfl⟩ ?_
      | refine aw_sld F hX hbl hbA had (by rw [hl1]; exact Nat.le_of_ble_eq_true rfl) rfl (by first | exact g1 | exact g2 | exact g3 | exact g4 | exact g5) ?_)
    refine aw_if F rfl (of_decide_eq_true rfl) (fun h => ?_) (fun h => ?_)
    · have e : bb = true := hbb.symm.trans h
      subst e
      have hy0 : y = 0 := hyb
      subst hy0
      refine aw_u F rfl rfl ⟨Nat.le_of_ble_eq_true rfl, Nat.le_of_ble_eq_true rfl⟩ ?_
      exact fin
    · have e : bb = false := hbb.symm.trans h
      subst e
      have hy0 : y = 1 := hyb
      subst hy0
      refine aw_u F rfl rfl ⟨Nat.le_of_ble_eq_true rfl, Nat.le_of_ble_eq_true rfl⟩ ?_
      refine aw_u F rfl rfl ⟨Nat.le_of_ble_eq_true rfl, Nat.le_of_ble_eq_true rfl⟩ ?_
      exact fin
  repeat (first
    | refine aw_u F rfl rfl ⟨Nat.le_of_ble_eq_true rfl, Nat.le_of_ble_eq_true rfl⟩ ?_
    | refine aw_sld F hX hbl hbA had (by rw [hl0]; exact Nat.le_of_ble_eq_true rfl) rfl (by first | exact g1 | exact g2 | exact g3 | exact g4 | exact g5) ?_)
  refine aw_if F rfl (of_decide_eq_true rfl) (fun h => ?_) (fun h => ?_)
  · refine aw_u F rfl rfl ⟨Nat.le_of_ble_eq_true rfl, Nat.le_of_ble_eq_true rfl⟩ ?_
    exact key 0 true (.inl rfl) rfl h
  · refine aw_u F rfl rfl ⟨Nat.le_of_ble_eq_true rfl, Nat.le_of_ble_eq_true rfl⟩ ?_
    refine aw_u F rfl rfl ⟨Nat.le_of_ble_eq_true rfl, Nat.le_of_ble_eq_true rfl⟩ ?_
    exact key 1 false (.inr rfl) rfl h
set_option maxHeartbeats 4000000 in
set_option maxRecDepth 100000 in
theorem lc_35 (F : MF X (mL nm) room_1 p s m #[Value.ref b9] meth c (AL s)) (hX : va_X b9 L xs s s.heap) (hbl : b9 < s.heap.size) (had : ad0 1000030 = b9) {w : List AE} {x3 : Int32} (hR : RI w) (hg : In6 L x3) (hE : ∀ w', RI w' → AW X l (mL nm) room_1 p e s m #[Value.ref b9] below meth c (AL s) (lw_Z below #[Value.ref b9] s) 0 ad0 1442 [(3, .int x3), (2, .ref 148), (1, .ref 0), (0, .ref 1000030)] [] w' 200 33081) : AW X l (mL nm) room_1 p e s m #[Value.ref b9] below meth c (AL s) (lw_Z below #[Value.ref b9] s) 0 ad0 1185 [(3, .int x3), (2, .ref 148), (1, .ref 0), (0, .ref 1000030)] [] w 200 33081 := by
  have hbA : ¬ AL s b9 := Nat.not_le.mpr hbl
  obtain ⟨-, g1, g2, g3, g4, g5⟩ := hg
  have hl0 := ri_len hR
  repeat (first
    | refine aw_u F rfl rfl ⟨Nat.le_of_ble_eq_true rfl, Nat.le_of_ble_eq_true rfl⟩ ?_
    | refine aw_sld F hX hbl hbA had (by rw [hl0]; exact Nat.le_of_ble_eq_true rfl) rfl (by first | exact g1 | exact g2 | exact g3 | exact g4 | exact g5) ?_)
  refine lw_callC (n := 2) (As := [.int (xs (x3 + 1).toNatClampNeg), .int (xs (x3 + 2).toNatClampNeg)]) (rest := []) F rfl (by decide +kernel) rfl (ri_wok hR) rfl (by decide) hl0 (pr_behind hR _ _) (fun r w1 q => ⟨q.2.2.1, ?_⟩)
  obtain ⟨⟨v, rfl⟩, hw1, hl1, hm1⟩ := q
  repeat (first
    | refine aw_u F rfl rfl ⟨Nat.le_of_ble_eq_true rfl, Nat.le_of_ble_eq_true rfl⟩ ?_
    | refine aw_sld F hX hbl hbA had (by rw [hl1]; exact Nat.le_of_ble_eq_true rfl) rfl (by first | exact g1 | exact g2 | exact g3 | exact g4 | exact g5) ?_)
  refine lw_callM (n := 2) (As := [.int (xs (x3 + 1).toNatClampNeg), .int (xs (x3 + 2).toNatClampNeg)]) (rest := []) F rfl (by decide +kernel) rfl hw1 rfl (by decide) hl1 hm1 (fun r w2 q => ⟨ri_len q.2.2, ?_⟩)
  obtain ⟨⟨v', rfl⟩, -, hR2⟩ := q
  refine aw_u F rfl rfl ⟨Nat.le_of_ble_eq_true rfl, Nat.le_of_ble_eq_true rfl⟩ ?_
  refine aw_u F rfl rfl ⟨Nat.le_of_ble_eq_true rfl, Nat.le_of_ble_eq_true rfl⟩ ?_
  exact hE _ hR2
set_option maxHeartbeats 4000000 in
set_option maxRecDepth 100000 in
theorem lc_36 (F : MF X (mL nm) room_1 p s m #[Value.ref b9] meth c (AL s)) (hX : va_X b9 L xs s s.heap) (hbl : b9 < s.heap.size) (had : ad0 1000030 = b9) {w : List AE} {x3 : Int32} (hR : RI w) (hg : In6 L x3) (hE : ∀ w', RI w' → AW X l (mL nm) room_1 p e s m #[Value.ref b9] below meth c (AL s) (lw_Z below #[Value.ref b9] s) 0 ad0 1442 [(3, .int x3), (2, .ref 148), (1, .ref 0), (0, .ref 1000030)] [] w' 200 33081) : AW X l (mL nm) room_1 p e s m #[Value.ref b9] below meth c (AL s) (lw_Z below #[Value.ref b9] s) 0 ad0 1218 [(3, .int x3), (2, .ref 148), (1, .ref 0), (0, .ref 1000030)] [] w 200 33081 := by
  have hbA : ¬ AL s b9 := Nat.not_le.mpr hbl
  obtain ⟨-, g1, g2, g3, g4, g5⟩ := hg
  have hl0 := ri_len hR
  repeat (first
    | refine aw_u F rfl rfl ⟨Nat.le_of_ble_eq_true rfl, Nat.le_of_ble_eq_true rfl⟩ ?_
    | refine aw_sld F hX hbl hbA had (by rw [hl0]; exact Nat.le_of_ble_eq_true rfl) rfl (by first | exact g1 | exact g2 | exact g3 | exact g4 | exact g5) ?_)
  refine lw_callC (n := 1) (As := [.int (xs (x3 + 1).toNatClampNeg)]) (rest := []) F rfl (by decide +kernel) rfl (ri_wok hR) rfl (by decide) hl0 (pr_longest hR _) (fun r w1 q => ⟨q.2.2.1, ?_⟩)
  obtain ⟨⟨v, rfl⟩, hw1, hl1, hm1⟩ := q
  repeat (first
    | refine aw_u F rfl rfl ⟨Nat.le_of_ble_eq_true rfl, Nat.le_of_ble_eq_true rfl⟩ ?_
    | refine aw_sld F hX hbl hbA had (by rw [hl1]; exact Nat.le_of_ble_eq_true rfl) rfl (by first | exact g1 | exact g2 | exact g3 | exact g4 | exact g5) ?_)
  refine lw_callM (n := 1) (As := [.int (xs (x3 + 1).toNatClampNeg)]) (rest := []) F rfl (by decide +kernel) rfl hw1 rfl (by decide) hl1 hm1 (fun r w2 q => ⟨ri_len q.2.2, ?_⟩)
  obtain ⟨⟨v', rfl⟩, -, hR2⟩ := q
  refine aw_u F rfl rfl ⟨Nat.le_of_ble_eq_true rfl, Nat.le_of_ble_eq_true rfl⟩ ?_
  refine aw_u F rfl rfl ⟨Nat.le_of_ble_eq_true rfl, Nat.le_of_ble_eq_true rfl⟩ ?_
  exact hE _ hR2
set_option maxHeartbeats 4000000 in
set_option maxRecDepth 100000 in
theorem lc_37 (F : MF X (mL nm) room_1 p s m #[Value.ref b9] meth c (AL s)) (hX : va_X b9 L xs s s.heap) (hbl : b9 < s.heap.size) (had : ad0 1000030 = b9) {w : List AE} {x3 : Int32} (hR : RI w) (hg : In6 L x3) (hE : ∀ w', RI w' → AW X l (mL nm) room_1 p e s m #[Value.ref b9] below meth c (AL s) (lw_Z below #[Value.ref b9] s) 0 ad0 1442 [(3, .int x3), (2, .ref 148), (1, .ref 0), (0, .ref 1000030)] [] w' 200 33081) : AW X l (mL nm) room_1 p e s m #[Value.ref b9] below meth c (AL s) (lw_Z below #[Value.ref b9] s) 0 ad0 1241 [(3, .int x3), (2, .ref 148), (1, .ref 0), (0, .ref 1000030)] [] w 200 33081 := by
  have hbA : ¬ AL s b9 := Nat.not_le.mpr hbl
  obtain ⟨-, g1, g2, g3, g4, g5⟩ := hg
  have hl0 := ri_len hR
  repeat (first
    | refine aw_u F rfl rfl ⟨Nat.le_of_ble_eq_true rfl, Nat.le_of_ble_eq_true rfl⟩ ?_
    | refine aw_sld F hX hbl hbA had (by rw [hl0]; exact Nat.le_of_ble_eq_true rfl) rfl (by first | exact g1 | exact g2 | exact g3 | exact g4 | exact g5) ?_)
  refine lw_callC (n := 3) (As := [.int (xs (x3 + 1).toNatClampNeg), .int (xs (x3 + 2).toNatClampNeg), .int (xs (x3 + 3).toNatClampNeg)]) (rest := []) F rfl (by decide +kernel) rfl (ri_wok hR) rfl (by decide) hl0 (pr_tell hR _ _ _) (fun r w1 q => ⟨q.2.2.1, ?_⟩)
  obtain ⟨⟨v, rfl⟩, hw1, hl1, hm1⟩ := q
  repeat (first
    | refine aw_u F rfl rfl ⟨Nat.le_of_ble_eq_true rfl, Nat.le_of_ble_eq_true rfl⟩ ?_
    | refine aw_sld F hX hbl hbA had (by rw [hl1]; exact Nat.le_of_ble_eq_true rfl) rfl (by first | exact g1 | exact g2 | exact g3 | exact g4 | exact g5) ?_)
  refine lw_callM (n := 3) (As := [.int (xs (x3 + 1).toNatClampNeg), .int (xs (x3 + 2).toNatClampNeg), .int (xs (x3 + 3).toNatClampNeg)]) (rest := []) F rfl (by decide +kernel) rfl hw1 rfl (by decide) hl1 hm1 (fun r w2 q => ⟨ri_len q.2.2, ?_⟩)
  obtain ⟨⟨v', rfl⟩, -, hR2⟩ := q
  refine aw_u F rfl rfl ⟨Nat.le_of_ble_eq_true rfl, Nat.le_of_ble_eq_true rfl⟩ ?_
  refine aw_u F rfl rfl ⟨Nat.le_of_ble_eq_true rfl, Nat.le_of_ble_eq_true rfl⟩ ?_
  exact hE _ hR2
set_option maxHeartbeats 4000000 in
set_option maxRecDepth 100000 in
theorem lc_38 (F : MF X (mL nm) room_1 p s m #[Value.ref b9] meth c (AL s)) (hX : va_X b9 L xs s s.heap) (hbl : b9 < s.heap.size) (had : ad0 1000030 = b9) {w : List AE} {x3 : Int32} (hR : RI w) (hg : In6 L x3) (hE : ∀ w', RI w' → AW X l (mL nm) room_1 p e s m #[Value.ref b9] below meth c (AL s) (lw_Z below #[Value.ref b9] s) 0 ad0 1442 [(3, .int x3), (2, .ref 148), (1, .ref 0), (0, .ref 1000030)] [] w' 200 33081) : AW X l (mL nm) room_1 p e s m #[Value.ref b9] below meth c (AL s) (lw_Z below #[Value.ref b9] s) 0 ad0 1284 [(3, .int x3), (2, .ref 148), (1, .ref 0), (0, .ref 1000030)] [] w 200 33081 := by
  have hbA : ¬ AL s b9 := Nat.not_le.mpr hbl
  obtain ⟨-, g1, g2, g3, g4, g5⟩ := hg
  have hl0 := ri_len hR
  repeat (first
    | refine aw_u F rfl rfl ⟨Nat.le_of_ble_eq_true rfl, Nat.le_of_ble_eq_true rfl⟩ ?_
    | refine aw_sld F hX hbl hbA had (by rw [hl0]; exact Nat.le_of_ble_eq_true rfl) rfl (by first | exact g1 | exact g2 | exact g3 | exact g4 | exact g5) ?_)
  refine lw_callC (n := 0) (As := []) (rest := []) F rfl (by decide +kernel) rfl (ri_wok hR) rfl (by decide) hl0 (pr_forget hR) (fun r w1 q => ⟨q.2.2.1, ?_⟩)
  obtain ⟨⟨v, rfl⟩, hw1, hl1, hm1⟩ := q
  repeat (first
    | refine aw_u F rfl rfl ⟨Nat.le_of_ble_eq_true rfl, Nat.le_of_ble_eq_true rfl⟩ ?_
    | refine aw_sld F hX hbl hbA had (by rw [hl1]; exact Nat.le_of_ble_eq_true rfl) rfl (by first | exact g1 | exact g2 | exact g3 | exact g4 | exact g5) ?_)
  refine lw_callM (n := 0) (As := []) (rest := []) F rfl (by decide +kernel) rfl hw1 rfl (by decide) hl1 hm1 (fun r w2 q => ⟨ri_len q.2.2, ?_⟩)
  obtain ⟨⟨v', rfl⟩, -, hR2⟩ := q
  refine aw_u F rfl rfl ⟨Nat.le_of_ble_eq_true rfl, Nat.le_of_ble_eq_true rfl⟩ ?_
  refine aw_u F rfl rfl ⟨Nat.le_of_ble_eq_true rfl, Nat.le_of_ble_eq_true rfl⟩ ?_
  exact hE _ hR2
set_option maxHeartbeats 4000000 in
set_option maxRecDepth 100000 in
theorem lc_39 (F : MF X (mL nm) room_1 p s m #[Value.ref b9] meth c (AL s)) (hX : va_X b9 L xs s s.heap) (hbl : b9 < s.heap.size) (had : ad0 1000030 = b9) {w : List AE} {x3 : Int32} (hR : RI w) (hg : In6 L x3) (hE : ∀ w', RI w' → AW X l (mL nm) room_1 p e s m #[Value.ref b9] below meth c (AL s) (lw_Z below #[Value.ref b9] s) 0 ad0 1442 [(3, .int x3), (2, .ref 148), (1, .ref 0), (0, .ref 1000030)] [] w' 200 33081) : AW X l (mL nm) room_1 p e s m #[Value.ref b9] below meth c (AL s) (lw_Z below #[Value.ref b9] s) 0 ad0 1297 [(3, .int x3), (2, .ref 148), (1, .ref 0), (0, .ref 1000030)] [] w 200 33081 := by
  have hbA : ¬ AL s b9 := Nat.not_le.mpr hbl
  obtain ⟨-, g1, g2, g3, g4, g5⟩ := hg
  have hl0 := ri_len hR
  repeat (first
    | refine aw_u F rfl rfl ⟨Nat.le_of_ble_eq_true rfl, Nat.le_of_ble_eq_true rfl⟩ ?_
    | refine aw_sld F hX hbl hbA had (by rw [hl0]; exact Nat.le_of_ble_eq_true rfl) rfl (by first | exact g1 | exact g2 | exact g3 | exact g4 | exact g5) ?_)
  refine lw_callC (n := 3) (As := [.int (xs (x3 + 1).toNatClampNeg), .int (xs (x3 + 2).toNatClampNeg), .int (xs (x3 + 3).toNatClampNeg)]) (rest := []) F rfl (by decide +kernel) rfl (ri_wok hR) rfl (by decide) hl0 (pr_fits hR _ _ _) (fun r w1 q => ⟨q.2.2.1, ?_⟩)
  obtain ⟨⟨v, rfl⟩, hw1, hl1, hm1⟩ := q
  repeat (first
    | refine aw_u F rfl rfl ⟨Nat.le_of_ble_eq_true rfl, Nat.le_of_ble_eq_true rfl⟩ ?_
    | refine aw_sld F hX hbl hbA had (by rw [hl1]; exact Nat.le_of_ble_eq_true rfl) rfl (by first | exact g1 | exact g2 | exact g3 | exact g4 | exact g5) ?_)
  refine lw_callM (n := 3) (As := [.int (xs (x3 + 1).toNatClampNeg), .int (xs (x3 + 2).toNatClampNeg), .int (xs (x3 + 3).toNatClampNeg)]) (rest := []) F rfl (by decide +kernel) rfl hw1 rfl (by decide) hl1 hm1 (fun r w2 q => ⟨ri_len q.2.2, ?_⟩)
  obtain ⟨⟨v', rfl⟩, -, hR2⟩ := q
  refine aw_u F rfl rfl ⟨Nat.le_of_ble_eq_true rfl, Nat.le_of_ble_eq_true rfl⟩ ?_
  refine aw_u F rfl rfl ⟨Nat.le_of_ble_eq_true rfl, Nat.le_of_ble_eq_true rfl⟩ ?_
  exact hE _ hR2
set_option maxHeartbeats 4000000 in
set_option maxRecDepth 100000 in
theorem lc_40 (F : MF X (mL nm) room_1 p s m #[Value.ref b9] meth c (AL s)) (hX : va_X b9 L xs s s.heap) (hbl : b9 < s.heap.size) (had : ad0 1000030 = b9) {w : List AE} {x3 : Int32} (hR : RI w) (hg : In6 L x3) (hE : ∀ w', RI w' → AW X l (mL nm) room_1 p e s m #[Value.ref b9] below meth c (AL s) (lw_Z below #[Value.ref b9] s) 0 ad0 1442 [(3, .int x3), (2, .ref 148), (1, .ref 0), (0, .ref 1000030)] [] w' 200 33081) : AW X l (mL nm) room_1 p e s m #[Value.ref b9] below meth c (AL s) (lw_Z below #[Value.ref b9] s) 0 ad0 1340 [(3, .int x3), (2, .ref 148), (1, .ref 0), (0, .ref 1000030)] [] w 200 33081 := by
  have hbA : ¬ AL s b9 := Nat.not_le.mpr hbl
  obtain ⟨-, g1, g2, g3, g4, g5⟩ := hg
  have hl0 := ri_len hR
  repeat (first
    | refine aw_u F rfl rfl ⟨Nat.le_of_ble_eq_true rfl, Nat.le_of_ble_eq_true rfl⟩ ?_
    | refine aw_sld F hX hbl hbA had (by rw [hl0]; exact Nat.le_of_ble_eq_true rfl) rfl (by first | exact g1 | exact g2 | exact g3 | exact g4 | exact g5) ?_)
  refine lw_callC (n := 2) (As := [.int (xs (x3 + 1).toNatClampNeg), .int (xs (x3 + 2).toNatClampNeg)]) (rest := []) F rfl (by decide +kernel) rfl (ri_wok hR) rfl (by decide) hl0 (pr_doubt hR _ _) (fun r w1 q => ⟨q.2.2.1, ?_⟩)
  obtain ⟨⟨v, rfl⟩, hw1, hl1, hm1⟩ := q
  repeat (first
    | refine aw_u F rfl rfl ⟨Nat.le_of_ble_eq_true rfl, Nat.le_of_ble_eq_true rfl⟩ ?_
    | refine aw_sld F hX hbl hbA had (by rw [hl1]; exact Nat.le_of_ble_eq_true rfl) rfl (by first | exact g1 | exact g2 | exact g3 | exact g4 | exact g5) ?_)
  refine lw_callM (n := 2) (As := [.int (xs (x3 + 1).toNatClampNeg), .int (xs (x3 + 2).toNatClampNeg)]) (rest := []) F rfl (by decide +kernel) rfl hw1 rfl (by decide) hl1 hm1 (fun r w2 q => ⟨ri_len q.2.2, ?_⟩)
  obtain ⟨⟨v', rfl⟩, -, hR2⟩ := q
  refine aw_u F rfl rfl ⟨Nat.le_of_ble_eq_true rfl, Nat.le_of_ble_eq_true rfl⟩ ?_
  refine aw_u F rfl rfl ⟨Nat.le_of_ble_eq_true rfl, Nat.le_of_ble_eq_true rfl⟩ ?_
  exact hE _ hR2
set_option maxHeartbeats 4000000 in
set_option maxRecDepth 100000 in
theorem lc_41 (F : MF X (mL nm) room_1 p s m #[Value.ref b9] meth c (AL s)) (hX : va_X b9 L xs s s.heap) (hbl : b9 < s.heap.size) (had : ad0 1000030 = b9) {w : List AE} {x3 : Int32} (hR : RI w) (hg : In6 L x3) (hE : ∀ w', RI w' → AW X l (mL nm) room_1 p e s m #[Value.ref b9] below meth c (AL s) (lw_Z below #[Value.ref b9] s) 0 ad0 1442 [(3, .int x3), (2, .ref 148), (1, .ref 0), (0, .ref 1000030)] [] w' 200 33081) : AW X l (mL nm) room_1 p e s m #[Value.ref b9] below meth c (AL s) (lw_Z below #[Value.ref b9] s) 0 ad0 1373 [(3, .int x3), (2, .ref 148), (1, .ref 0), (0, .ref 1000030)] [] w 200 33081 := by
  have hbA : ¬ AL s b9 := Nat.not_le.mpr hbl
  obtain ⟨-, g1, g2, g3, g4, g5⟩ := hg
  have hl0 := ri_len hR
  repeat (first
    | refine aw_u F rfl rfl ⟨Nat.le_of_ble_eq_true rfl, Nat.le_of_ble_eq_true rfl⟩ ?_
    | refine aw_sld F hX hbl hbA had (by rw [hl0]; exact Nat.le_of_ble_eq_true rfl) rfl (by first | exact g1 | exact g2 | exact g3 | exact g4 | exact g5) ?_)
  refine lw_callC (n := 1) (As := [.int (xs (x3 + 1).toNatClampNeg)]) (rest := []) F rfl (by decide +kernel) rfl (ri_wok hR) rfl (by decide) hl0 (pr_hold hR _) (fun r w1 q => ⟨q.2.2.1, ?_⟩)
  obtain ⟨⟨v, rfl⟩, hw1, hl1, hm1⟩ := q
  repeat (first
    | refine aw_u F rfl rfl ⟨Nat.le_of_ble_eq_true rfl, Nat.le_of_ble_eq_true rfl⟩ ?_
    | refine aw_sld F hX hbl hbA had (by rw [hl1]; exact Nat.le_of_ble_eq_true rfl) rfl (by first | exact g1 | exact g2 | exact g3 | exact g4 | exact g5) ?_)
  refine lw_callM (n := 1) (As := [.int (xs (x3 + 1).toNatClampNeg)]) (rest := []) F rfl (by decide +kernel) rfl hw1 rfl (by decide) hl1 hm1 (fun r w2 q => ⟨ri_len q.2.2, ?_⟩)
  obtain ⟨⟨v', rfl⟩, -, hR2⟩ := q
  refine aw_u F rfl rfl ⟨Nat.le_of_ble_eq_true rfl, Nat.le_of_ble_eq_true rfl⟩ ?_
  refine aw_u F rfl rfl ⟨Nat.le_of_ble_eq_true rfl, Nat.le_of_ble_eq_true rfl⟩ ?_
  exact hE _ hR2
set_option maxHeartbeats 4000000 in
set_option maxRecDepth 100000 in
theorem lc_42 (F : MF X (mL nm) room_1 p s m #[Value.ref b9] meth c (AL s)) (hX : va_X b9 L xs s s.heap) (hbl : b9 < s.heap.size) (had : ad0 1000030 = b9) {w : List AE} {x3 : Int32} (hR : RI w) (hg : In6 L x3) (hE : ∀ w', RI w' → AW X l (mL nm) room_1 p e s m #[Value.ref b9] below meth c (AL s) (lw_Z below #[Value.ref b9] s) 0 ad0 1442 [(3, .int x3), (2, .ref 148), (1, .ref 0), (0, .ref 1000030)] [] w' 200 33081) : AW X l (mL nm) room_1 p e s m #[Value.ref b9] below meth c (AL s) (lw_Z below #[Value.ref b9] s) 0 ad0 1396 [(3, .int x3), (2, .ref 148), (1, .ref 0), (0, .ref 1000030)] [] w 200 33081 := by
  have hbA : ¬ AL s b9 := Nat.not_le.mpr hbl
  obtain ⟨-, g1, g2, g3, g4, g5⟩ := hg
  have hl0 := ri_len hR
  repeat (first
    | refine aw_u F rfl rfl ⟨Nat.le_of_ble_eq_true rfl, Nat.le_of_ble_eq_true rfl⟩ ?_
    | refine aw_sld F hX hbl hbA had (by rw [hl0]; exact Nat.le_of_ble_eq_true rfl) rfl (by first | exact g1 | exact g2 | exact g3 | exact g4 | exact g5) ?_)
  refine lw_callC (n := 1) (As := [.int (xs (x3 + 1).toNatClampNeg)]) (rest := []) F rfl (by decide +kernel) rfl (ri_wok hR) rfl (by decide) hl0 (pr_restore hR _) (fun r w1 q => ⟨q.2.2.1, ?_⟩)
  obtain ⟨⟨v, rfl⟩, hw1, hl1, hm1⟩ := q
  repeat (first
    | refine aw_u F rfl rfl ⟨Nat.le_of_ble_eq_true rfl, Nat.le_of_ble_eq_true rfl⟩ ?_
    | refine aw_sld F hX hbl hbA had (by rw [hl1]; exact Nat.le_of_ble_eq_true rfl) rfl (by first | exact g1 | exact g2 | exact g3 | exact g4 | exact g5) ?_)
  refine lw_callM (n := 1) (As := [.int (xs (x3 + 1).toNatClampNeg)]) (rest := []) F rfl (by decide +kernel) rfl hw1 rfl (by decide) hl1 hm1 (fun r w2 q => ⟨ri_len q.2.2, ?_⟩)
  obtain ⟨⟨v', rfl⟩, -, hR2⟩ := q
  refine aw_u F rfl rfl ⟨Nat.le_of_ble_eq_true rfl, Nat.le_of_ble_eq_true rfl⟩ ?_
  refine aw_u F rfl rfl ⟨Nat.le_of_ble_eq_true rfl, Nat.le_of_ble_eq_true rfl⟩ ?_
  exact hE _ hR2
set_option maxHeartbeats 4000000 in
set_option maxRecDepth 100000 in
theorem lc_43 (F : MF X (mL nm) room_1 p s m #[Value.ref b9] meth c (AL s)) (hX : va_X b9 L xs s s.heap) (hbl : b9 < s.heap.size) (had : ad0 1000030 = b9) {w : List AE} {x3 : Int32} (hR : RI w) (hg : In6 L x3) (hE : ∀ w', RI w' → AW X l (mL nm) room_1 p e s m #[Value.ref b9] below meth c (AL s) (lw_Z below #[Value.ref b9] s) 0 ad0 1442 [(3, .int x3), (2, .ref 148), (1, .ref 0), (0, .ref 1000030)] [] w' 200 33081) : AW X l (mL nm) room_1 p e s m #[Value.ref b9] below meth c (AL s) (lw_Z below #[Value.ref b9] s) 0 ad0 1419 [(3, .int x3), (2, .ref 148), (1, .ref 0), (0, .ref 1000030)] [] w 200 33081 := by
  have hbA : ¬ AL s b9 := Nat.not_le.mpr hbl
  obtain ⟨-, g1, g2, g3, g4, g5⟩ := hg
  have hl0 := ri_len hR
  repeat (first
    | refine aw_u F rfl rfl ⟨Nat.le_of_ble_eq_true rfl, Nat.le_of_ble_eq_true rfl⟩ ?_
    | refine aw_sld F hX hbl hbA had (by rw [hl0]; exact Nat.le_of_ble_eq_true rfl) rfl (by first | exact g1 | exact g2 | exact g3 | exact g4 | exact g5) ?_)
  refine lw_callC (n := 1) (As := [.int (xs (x3 + 1).toNatClampNeg)]) (rest := []) F rfl (by decide +kernel) rfl (ri_wok hR) rfl (by decide) hl0 (pr_count hR _) (fun r w1 q => ⟨q.2.2.1, ?_⟩)
  obtain ⟨⟨v, rfl⟩, hw1, hl1, hm1⟩ := q
  repeat (first
    | refine aw_u F rfl rfl ⟨Nat.le_of_ble_eq_true rfl, Nat.le_of_ble_eq_true rfl⟩ ?_
    | refine aw_sld F hX hbl hbA had (by rw [hl1]; exact Nat.le_of_ble_eq_true rfl) rfl (by first | exact g1 | exact g2 | exact g3 | exact g4 | exact g5) ?_)
  refine lw_callM (n := 1) (As := [.int (xs (x3 + 1).toNatClampNeg)]) (rest := []) F rfl (by decide +kernel) rfl hw1 rfl (by decide) hl1 hm1 (fun r w2 q => ⟨ri_len q.2.2, ?_⟩)
  obtain ⟨⟨v', rfl⟩, -, hR2⟩ := q
  refine aw_u F rfl rfl ⟨Nat.le_of_ble_eq_true rfl, Nat.le_of_ble_eq_true rfl⟩ ?_
  refine aw_u F rfl rfl ⟨Nat.le_of_ble_eq_true rfl, Nat.le_of_ble_eq_true rfl⟩ ?_
  exact hE _ hR2
end LAWW
