/-! printed by wip/gen/lawstart.py -/
section LAWS
variable {X : CX} {l : Launch} {M : MD} {R : Room} {nm : String} {p : Program} {e : Env} {s : State} {m : MethodId} {args : Array Value} {below : List Frame} {meth : Method} {c : Code} {A : Nat → Prop} {Q : State → Prop} {n0 : Nat} {ad0 : Nat → Nat} {pc : Nat} {lv : List (Nat × Value)} {w : List AE} {a b : Nat} {b9 : Nat} {xs : Nat → Int32}
theorem aw_tbI {df lo hi off : Int} {offs : Array Int} {n : Nat} {x : Int32} {r : List Value} {t : Nat × Nat × Nat × Nat} (F : MF X M R p s m args meth c A) (hi0 : md_i M pc = some (.tableswitch df lo hi offs, n, t)) {k : Int} (hk : x.toInt = k) (h1 : ¬ k < lo) (h2 : ¬ hi < k) (ho : offs[(k - lo).toNat]? = some off) (hp : 0 ≤ (pc : Int) + off)
    (h : AW X l M R p e s m args below meth c A Q n0 ad0 ((pc : Int) + off).toNat lv r w a b) : AW X l M R p e s m args below meth c A Q n0 ad0 pc lv (.int x :: r) w a b := by
  subst hk
  intro H locs ls ad g1 g2 g3 hP hD hS hl
  exact lv_tableIn F.1 F.2.1 (F.2.2.2.2.2.2.2.2.2.2.1 _ _ hi0).1 h1 h2 ho (Int.toNat_of_nonneg hp).symm (h H locs ls ad g1 g2 g3 hP hD hS hl)
set_option maxHeartbeats 4000000 in
set_option maxRecDepth 100000 in
theorem law_endC (F : MF X (mL nm) room_1 p s m #[Value.ref b9] meth c (AL s)) (hX : va_X b9 6 xs s s.heap) (hbl : b9 < s.heap.size) (had : ad0 1000030 = b9) : AW X l (mL nm) room_1 p e s m #[Value.ref b9] below meth c (AL s) (lw_Z below #[Value.ref b9] s) 0 ad0 1442 lvC [] wCM 200 33081 := by
  have hbA : ¬ AL s b9 := Nat.not_le.mpr hbl
  repeat (first
    | refine aw_u F rfl rfl ⟨Nat.le_of_ble_eq_true rfl, Nat.le_of_ble_eq_true rfl⟩ ?_
    | refine aw_slen F hX hbl hbA had (by rw [len_CM]; omega) rfl ?_)
  exact lw_end F rfl (Nat.le_of_ble_eq_true rfl) (Nat.le_of_ble_eq_true rfl)
set_option maxHeartbeats 4000000 in
set_option maxRecDepth 100000 in
theorem law_sw (F : MF X (mL nm) room_1 p s m #[Value.ref b9] meth c (AL s)) (hX : va_X b9 6 xs s s.heap) (hbl : b9 < s.heap.size) (had : ad0 1000030 = b9) (y : Int32) : AW X l (mL nm) room_1 p e s m #[Value.ref b9] below meth c (AL s) (lw_Z below #[Value.ref b9] s) 0 ad0 33 lvC [.int y] wCM 200 33081 := by
  by_cases h : y.toInt < 0 ∨ 43 < y.toInt
  · exact aw_tbO F rfl (of_decide_eq_true rfl) h (law_endC F hX hbl had)
  · obtain ⟨N, rfl, -, hN⟩ := nI_of3 (x := y) (lo := 0) (n := 43) (by omega) (by omega) (by decide)
    have hk : (nI N).toInt = (N : Int) := nI_toInt (by omega)
    match N, hN, hk with
    | 0, _, hk => exact aw_tbI F rfl hk (by decide) (by decide) rfl (of_decide_eq_true rfl) (lc_0 F hX hbl had (le_feed X l _ _ _ _ _))
    | 1, _, hk => exact aw_tbI F rfl hk (by decide) (by decide) rfl (of_decide_eq_true rfl) (lc_1 F hX hbl had (le_back X l _))
    | 2, _, hk => exact aw_tbI F rfl hk (by decide) (by decide) rfl (of_decide_eq_true rfl) (lc_2 F hX hbl had (le_read X l))
    | 3, _, hk => exact aw_tbI F rfl hk (by decide) (by decide) rfl (of_decide_eq_true rfl) (lc_3 F hX hbl had (le_place X l))
    | 4, _, hk => exact aw_tbI F rfl hk (by decide) (by decide) rfl (of_decide_eq_true rfl) (lc_4 F hX hbl had (le_now X l _))
    | 5, _, hk => exact aw_tbI F rfl hk (by decide) (by decide) rfl (of_decide_eq_true rfl) (lc_5 F hX hbl had (le_sleeper X l _ _))
    | 6, _, hk => exact aw_tbI F rfl hk (by decide) (by decide) rfl (of_decide_eq_true rfl) (lc_6 F hX hbl had (le_was X l _ _))
    | 7, _, hk => exact aw_tbI F rfl hk (by decide) (by decide) rfl (of_decide_eq_true rfl) (lc_7 F hX hbl had (le_hours X l _))
    | 8, _, hk => exact aw_tbI F rfl hk (by decide) (by decide) rfl (of_decide_eq_true rfl) (lc_8 F hX hbl had (le_nap X l _ _))
    | 9, _, hk => exact aw_tbI F rfl hk (by decide) (by decide) rfl (of_decide_eq_true rfl) (lc_9 F hX hbl had (le_wake X l _))
    | 10, _, hk => exact aw_tbI F rfl hk (by decide) (by decide) rfl (of_decide_eq_true rfl) (lc_10 F hX hbl had (le_bed X l _ _))
    | 11, _, hk => exact aw_tbI F rfl hk (by decide) (by decide) rfl (of_decide_eq_true rfl) (lc_11 F hX hbl had (le_set X l _))
    | 12, _, hk => exact aw_tbI F rfl hk (by decide) (by decide) rfl (of_decide_eq_true rfl) (lc_12 F hX hbl had (le_undo X l))
    | 13, _, hk => exact aw_tbI F rfl hk (by decide) (by decide) rfl (of_decide_eq_true rfl) (lc_13 F hX hbl had (le_then X l _ _))
    | 14, _, hk => exact aw_tbI F rfl hk (by decide) (by decide) rfl (of_decide_eq_true rfl) (lc_14 F hX hbl had (le_ends X l))
    | 15, _, hk => exact aw_tbI F rfl hk (by decide) (by decide) rfl (of_decide_eq_true rfl) (lc_15 F hX hbl had (le_gains X l _ _))
    | 16, _, hk => exact aw_tbI F rfl hk (by decide) (by decide) rfl (of_decide_eq_true rfl) (lc_16 F hX hbl had (le_line X l _))
    | 17, _, hk => exact aw_tbI F rfl hk (by decide) (by decide) rfl (of_decide_eq_true rfl) (lc_17 F hX hbl had (le_lineAt X l _ _))
    | 18, _, hk => exact aw_tbI F rfl hk (by decide) (by decide) rfl (of_decide_eq_true rfl) (lc_18 F hX hbl had (le_fair X l _))
    | 19, _, hk => exact aw_tbI F rfl hk (by decide) (by decide) rfl (of_decide_eq_true rfl) (lc_19 F hX hbl had (le_rests X l _ _))
    | 20, _, hk => exact aw_tbI F rfl hk (by decide) (by decide) rfl (of_decide_eq_true rfl) (lc_20 F hX hbl had (le_round X l _))
    | 21, _, hk => exact aw_tbI F rfl hk (by decide) (by decide) rfl (of_decide_eq_true rfl) (lc_21 F hX hbl had (le_reach X l))
    | 22, _, hk => exact aw_tbI F rfl hk (by decide) (by decide) rfl (of_decide_eq_true rfl) (lc_22 F hX hbl had (le_far X l _))
    | 23, _, hk => exact aw_tbI F rfl hk (by decide) (by decide) rfl (of_decide_eq_true rfl) (lc_23 F hX hbl had (le_farAt X l _ _))
    | 24, _, hk => exact aw_tbI F rfl hk (by decide) (by decide) rfl (of_decide_eq_true rfl) (lc_24 F hX hbl had (le_trapped X l))
    | 25, _, hk => exact aw_tbI F rfl hk (by decide) (by decide) rfl (of_decide_eq_true rfl) (lc_25 F hX hbl had (le_bestBed X l _ _ _))
    | 26, _, hk => exact aw_tbI F rfl hk (by decide) (by decide) rfl (of_decide_eq_true rfl) (lc_26 F hX hbl had (le_bestStart X l _ _))
    | 27, _, hk => exact aw_tbI F rfl hk (by decide) (by decide) rfl (of_decide_eq_true rfl) (lc_27 F hX hbl had (le_free X l _))
    | 28, _, hk => exact aw_tbI F rfl hk (by decide) (by decide) rfl (of_decide_eq_true rfl) (lc_28 F hX hbl had (le_handed X l _ _))
    | 29, _, hk => exact aw_tbI F rfl hk (by decide) (by decide) rfl (of_decide_eq_true rfl) (lc_29 F hX hbl had (le_luckiest X l _))
    | 30, _, hk => exact aw_tbI F rfl hk (by decide) (by decide) rfl (of_decide_eq_true rfl) (lc_30 F hX hbl had (le_best X l _ _))
    | 31, _, hk => exact aw_tbI F rfl hk (by decide) (by decide) rfl (of_decide_eq_true rfl) (lc_31 F hX hbl had (le_needed X l _))
    | 32, _, hk => exact aw_tbI F rfl hk (by decide) (by decide) rfl (of_decide_eq_true rfl) (lc_32 F hX hbl had (le_mean X l _ _))
    | 33, _, hk => exact aw_tbI F rfl hk (by decide) (by decide) rfl (of_decide_eq_true rfl) (lc_33 F hX hbl had (le_knows X l _))
    | 34, _, hk => exact aw_tbI F rfl hk (by decide) (by decide) rfl (of_decide_eq_true rfl) (lc_34 F hX hbl had (le_when X l _))
    | 35, _, hk => exact aw_tbI F rfl hk (by decide) (by decide) rfl (of_decide_eq_true rfl) (lc_35 F hX hbl had (le_behind X l _ _))
    | 36, _, hk => exact aw_tbI F rfl hk (by decide) (by decide) rfl (of_decide_eq_true rfl) (lc_36 F hX hbl had (le_longest X l _))
    | 37, _, hk => exact aw_tbI F rfl hk (by decide) (by decide) rfl (of_decide_eq_true rfl) (lc_37 F hX hbl had (le_tell X l _ _ _))
    | 38, _, hk => exact aw_tbI F rfl hk (by decide) (by decide) rfl (of_decide_eq_true rfl) (lc_38 F hX hbl had (le_forget X l))
    | 39, _, hk => exact aw_tbI F rfl hk (by decide) (by decide) rfl (of_decide_eq_true rfl) (lc_39 F hX hbl had (le_fits X l _ _ _))
    | 40, _, hk => exact aw_tbI F rfl hk (by decide) (by decide) rfl (of_decide_eq_true rfl) (lc_40 F hX hbl had (le_doubt X l _ _))
    | 41, _, hk => exact aw_tbI F rfl hk (by decide) (by decide) rfl (of_decide_eq_true rfl) (lc_41 F hX hbl had (le_hold X l _))
    | 42, _, hk => exact aw_tbI F rfl hk (by decide) (by decide) rfl (of_decide_eq_true rfl) (lc_42 F hX hbl had (le_restore X l _))
    | 43, _, hk => exact aw_tbI F rfl hk (by decide) (by decide) rfl (of_decide_eq_true rfl) (lc_43 F hX hbl had (le_count X l _))
    | n + 44, hN, _ => exact absurd hN (by omega)
theorem gt_neg : ∀ L, L < 6 → cmpB .gt 0 (Int32.ofNat L - 6) = true := by decide
def wN : List AE := wC ++ [.inr (.inr (.inr (12, dflV 12)))]
theorem ok_new : (okN wC [(1, .ref 0), (0, .ref 1000030)] [] && Nat.blt 12 13) = true := by decide +kernel
set_option maxHeartbeats 4000000 in
set_option maxRecDepth 100000 in
theorem law_head (F : MF X (mL nm) room_1 p s m #[Value.ref b9] meth c (AL s)) {L : Nat} (hL : L ≤ 6) (hX : va_X b9 L xs s s.heap) (hbl : b9 < s.heap.size) (had : ad0 1000030 = b9) : AW X l (mL nm) room_1 p e s m #[Value.ref b9] below meth c (AL s) (lw_Z below #[Value.ref b9] s) 0 ad0 18 lvC [] wCM 200 33081 := by
  have hbA : ¬ AL s b9 := Nat.not_le.mpr hbl
  have hw : wCM.length ≤ 1000000 := by rw [len_CM]; omega
  refine aw_u F rfl rfl ⟨Nat.le_of_ble_eq_true rfl, Nat.le_of_ble_eq_true rfl⟩ ?_
  refine aw_u F rfl rfl ⟨Nat.le_of_ble_eq_true rfl, Nat.le_of_ble_eq_true rfl⟩ ?_
  refine aw_slen F hX hbl hbA had hw rfl ?_
  refine aw_u F rfl rfl ⟨Nat.le_of_ble_eq_true rfl, Nat.le_of_ble_eq_true rfl⟩ ?_
  refine aw_u F rfl rfl ⟨Nat.le_of_ble_eq_true rfl, Nat.le_of_ble_eq_true rfl⟩ ?_
  refine aw_ic F rfl (of_decide_eq_true rfl) (fun _ => ?_) (fun h => ?_)
  · refine aw_u F rfl rfl ⟨Nat.le_of_ble_eq_true rfl, Nat.le_of_ble_eq_true rfl⟩ ?_
    exact lw_end F rfl (Nat.le_of_ble_eq_true rfl) (Nat.le_of_ble_eq_true rfl)
  · have h6 : L = 6 := by
      rcases Nat.lt_or_ge L 6 with q | q
      · exact absurd (gt_neg L q) (by rw [show cmpB .gt 0 (Int32.ofNat L - 6) = false from h]; decide)
      · omega
    subst h6
    refine aw_u F rfl rfl ⟨Nat.le_of_ble_eq_true rfl, Nat.le_of_ble_eq_true rfl⟩ ?_
    refine aw_u F rfl rfl ⟨Nat.le_of_ble_eq_true rfl, Nat.le_of_ble_eq_true rfl⟩ ?_
    refine aw_sld F hX hbl hbA had hw rfl (inR_in rfl) ?_
    refine aw_u F rfl rfl ⟨Nat.le_of_ble_eq_true rfl, Nat.le_of_ble_eq_true rfl⟩ ?_
    refine aw_u F rfl rfl ⟨Nat.le_of_ble_eq_true rfl, Nat.le_of_ble_eq_true rfl⟩ ?_
    exact law_sw F hX hbl had _
set_option maxHeartbeats 4000000 in
set_option maxRecDepth 100000 in
theorem law_start (F : MF X (mL nm) room_1 p s m #[Value.ref b9] meth c (AL s)) {L : Nat} (hL : L ≤ 6) (hX : va_X b9 L xs s s.heap) (hbl : b9 < s.heap.size) (had : ad0 1000030 = b9) : AW X l (mL nm) room_1 p e s m #[Value.ref b9] below meth c (AL s) (lw_Z below #[Value.ref b9] s) 0 ad0 0 [(0, .ref 1000030)] [] [] 0 0 := by
  refine aw_t (da := 1) (db := 9) F rfl rfl ⟨Nat.le_of_ble_eq_true rfl, Nat.le_of_ble_eq_true rfl⟩ ?_
  refine aw_u F rfl rfl ⟨Nat.le_of_ble_eq_true rfl, Nat.le_of_ble_eq_true rfl⟩ ?_
  refine aw_eq (pc' := 4) (lv' := [(0, .ref 1000030)]) (st' := [.ref 0, .ref 0]) (w' := wC0) (a' := 1) (b' := 9) rfl rfl rfl rfl rfl rfl ?_
  refine aw_callI (d' := 11) (mc' := 147) (ms' := 12313) (o := 0) (As := []) (rest := [.ref 0]) (Post' := fun r2 w2 => r2 = none ∧ w2 = wC) F rfl (by decide) (allOk _) (by decide +kernel) (by decide +kernel) (by decide +kernel) (by decide +kernel) (by decide) ⟨Nat.le_of_ble_eq_true rfl, Nat.le_of_ble_eq_true rfl⟩ ⟨Nat.le_of_ble_eq_true rfl, Nat.le_of_ble_eq_true rfl⟩ (amet_w4 t_C) (fun r w' h => ?_)
  obtain ⟨rfl, rfl⟩ := h
  refine ⟨Or.inr ⟨by rw [len_C]; decide, by rw [len_C]; decide⟩, ?_⟩
  refine aw_u F rfl rfl ⟨Nat.le_of_ble_eq_true rfl, Nat.le_of_ble_eq_true rfl⟩ ?_
  refine aw_eq (pc' := 8) (lv' := [(1, .ref 0), (0, .ref 1000030)]) (st' := []) (w' := wC) (a' := 148) (b' := 12322) rfl rfl rfl rfl rfl rfl ?_
  refine aw_t (pc' := 11) (lv' := [(1, .ref 0), (0, .ref 1000030)]) (st' := [.ref wC.length]) (w' := wN) (da := 1) (db := 76) F rfl ?_ ⟨Nat.le_of_ble_eq_true rfl, Nat.le_of_ble_eq_true rfl⟩ ?_
  · show nwS 12 8 _ [] wC = _
    unfold nwS
    rw [ok_new]
    rfl
  rw [len_C]
  refine aw_u F rfl rfl ⟨Nat.le_of_ble_eq_true rfl, Nat.le_of_ble_eq_true rfl⟩ ?_
  refine aw_callI (d' := 11) (mc' := 51) (ms' := 20683) (o := 148) (As := []) (rest := [.ref 148]) (Post' := fun r2 w2 => r2 = none ∧ w2 = wCM) F rfl (by decide) (allOk _) (by decide +kernel) (by decide +kernel) (by decide +kernel) (by decide +kernel) (by decide) ⟨Nat.le_of_ble_eq_true rfl, Nat.le_of_ble_eq_true rfl⟩ ⟨Nat.le_of_ble_eq_true rfl, Nat.le_of_ble_eq_true rfl⟩ (amet_w4 t_CM) (fun r w' h => ?_)
  obtain ⟨rfl, rfl⟩ := h
  have hwN : wN.length = 149 := by decide +kernel
  refine ⟨Or.inr ⟨by rw [hwN, len_CM]; decide, by rw [hwN, len_CM]; decide⟩, ?_⟩
  refine aw_u F rfl rfl ⟨Nat.le_of_ble_eq_true rfl, Nat.le_of_ble_eq_true rfl⟩ ?_
  refine aw_u F rfl rfl ⟨Nat.le_of_ble_eq_true rfl, Nat.le_of_ble_eq_true rfl⟩ ?_
  refine aw_u F rfl rfl ⟨Nat.le_of_ble_eq_true rfl, Nat.le_of_ble_eq_true rfl⟩ ?_
  exact aw_eq (lv' := lvC) rfl rfl rfl rfl rfl rfl (law_head F hL hX hbl had)
end LAWS
def adL (X : CX) (b : Nat) : Nat → Nat := fun k => if k = 1000030 then b else if k = 1000020 then X.2.2.2.2.2 else if 1000010 ≤ k then X.2.2.2.2.1 (k - 1000010) else X.2.2.2.1 (k - 1000000)
theorem adL_ex (X : CX) (b : Nat) : exOk X (adL X b) := by
  refine ⟨fun i hi => ?_, fun i hi => ?_, ?_⟩
  · unfold adL
    rw [if_neg (by omega), if_neg (by omega), if_neg (by omega), Nat.add_sub_cancel_left]
  · unfold adL
    rw [if_neg (by omega), if_neg (by omega), if_pos (by omega), Nat.add_sub_cancel_left]
  · unfold adL
    rw [if_neg (by omega), if_pos rfl]
theorem whole_start {p : Program} {e : Env} {s : State} {m : MethodId} {below : List Frame} {meth : Method} {c : Code} (l : Launch) (hflags : l.flags = flags0) {b L : Nat} {xs : Nat → Int32} (hL : L ≤ 6) (C0 : lw_At p s m meth c b L xs) : W p l e room_1 s m #[Value.ref b] below meth c s.heap [] 0 0 (lw_Z below #[Value.ref b] s) (entryFrame m ([Value.ref b] : List Value).toArray 4) := by
  obtain ⟨hx, hb, hr, hml, hown, hts, hX, hbl, hlocks, hgv⟩ := C0
  obtain ⟨X, hEV⟩ := ev_of hts hgv
  have F : MF X (mL meth.name) room_1 p s m #[Value.ref b] meth c (AL s) := ⟨hx, hb, hr, hml, hown, fun w hw => hts w (List.mem_filter.mp hw).1, hlocks, hEV, fun q h => h, rfl, mL_at _, by decide, by decide⟩
  have hl := lv_entry ([.ref b]) (n := 4) (Nat.le_of_ble_eq_true rfl)
  rw [lg_entry_eq]
  generalize (lg_sl ([.ref b]) ++ List.replicate (4 - (lg_sl ([.ref b])).length) Slot.unset).toArray = ls at hl ⊢
  have hl : lv_has ls 4 [(0, .ref b)] := hl
  exact law_start (ad0 := adL X b) F hL hX hbl rfl s.heap [] ls (adL X b) (fun _ _ => rfl) (Nat.le_refl _) (adL_ex X b) (fun k q h => by simp [rwW] at h) ⟨fun i j p q h => by simp [rwW] at h, fun k q h => by simp [rwW] at h⟩ va_S.rf hl
