/-! printed by wip/gen/lawloop3.py: the loop and the start of the law -/
section LAWS
variable {X : CX} {l : Launch} {M : MD} {R : Room} {nm : String} {p : Program} {e : Env} {s : State} {m : MethodId} {args : Array Value} {below : List Frame} {meth : Method} {c : Code} {A : Nat → Prop} {Q : State → Prop} {n0 : Nat} {ad0 : Nat → Nat} {pc : Nat} {lv : List (Nat × Value)} {w : List AE} {a b : Nat} {b9 L : Nat} {xs : Nat → Int32}
theorem aw_tbI {df lo hi off : Int} {offs : Array Int} {n : Nat} {x : Int32} {r : List Value} {t : Nat × Nat × Nat × Nat} (F : MF X M R p s m args meth c A) (hi0 : md_i M pc = some (.tableswitch df lo hi offs, n, t)) {k : Int} (hk : x.toInt = k) (h1 : ¬ k < lo) (h2 : ¬ hi < k) (ho : offs[(k - lo).toNat]? = some off) (hp : 0 ≤ (pc : Int) + off)
    (h : AW X l M R p e s m args below meth c A Q n0 ad0 ((pc : Int) + off).toNat lv r w a b) : AW X l M R p e s m args below meth c A Q n0 ad0 pc lv (.int x :: r) w a b := by
  subst hk
  intro H locs ls ad g1 g2 g3 hP hD hS hl
  exact lv_tableIn F.1 F.2.1 (F.2.2.2.2.2.2.2.2.2.2.1 _ _ hi0).1 h1 h2 ho (Int.toNat_of_nonneg hp).symm (h H locs ls ad g1 g2 g3 hP hD hS hl)
set_option maxHeartbeats 4000000 in
set_option maxRecDepth 100000 in
theorem law_sw (F : MF X (mL nm) room_1 p s m #[Value.ref b9] meth c (AL s)) (hX : va_X b9 L xs s s.heap) (hbl : b9 < s.heap.size) (had : ad0 1000030 = b9) {w : List AE} {x3 : Int32} (hR : RI w) (hg : In6 L x3) (hE : ∀ w', RI w' → AW X l (mL nm) room_1 p e s m #[Value.ref b9] below meth c (AL s) (lw_Z below #[Value.ref b9] s) 0 ad0 1442 [(3, .int x3), (2, .ref 148), (1, .ref 0), (0, .ref 1000030)] [] w' 200 33081) (y : Int32) : AW X l (mL nm) room_1 p e s m #[Value.ref b9] below meth c (AL s) (lw_Z below #[Value.ref b9] s) 0 ad0 33 [(3, .int x3), (2, .ref 148), (1, .ref 0), (0, .ref 1000030)] [.int y] w 200 33081 := by
  by_cases h : y.toInt < 0 ∨ 43 < y.toInt
  · exact aw_tbO F rfl (of_decide_eq_true rfl) h (hE w hR)
  · obtain ⟨N, hN, hk⟩ : ∃ N : Nat, N ≤ 43 ∧ y.toInt = (N : Int) := ⟨y.toInt.toNat, by omega, by omega⟩
    match N, hN, hk with
    | 0, _, hk => exact aw_tbI F rfl hk (by decide) (by decide) rfl (of_decide_eq_true rfl) (lc_0 F hX hbl had hR hg hE)
    | 1, _, hk => exact aw_tbI F rfl hk (by decide) (by decide) rfl (of_decide_eq_true rfl) (lc_1 F hX hbl had hR hg hE)
    | 2, _, hk => exact aw_tbI F rfl hk (by decide) (by decide) rfl (of_decide_eq_true rfl) (lc_2 F hX hbl had hR hg hE)
    | 3, _, hk => exact aw_tbI F rfl hk (by decide) (by decide) rfl (of_decide_eq_true rfl) (lc_3 F hX hbl had hR hg hE)
    | 4, _, hk => exact aw_tbI F rfl hk (by decide) (by decide) rfl (of_decide_eq_true rfl) (lc_4 F hX hbl had hR hg hE)
    | 5, _, hk => exact aw_tbI F rfl hk (by decide) (by decide) rfl (of_decide_eq_true rfl) (lc_5 F hX hbl had hR hg hE)
    | 6, _, hk => exact aw_tbI F rfl hk (by decide) (by decide) rfl (of_decide_eq_true rfl) (lc_6 F hX hbl had hR hg hE)
    | 7, _, hk => exact aw_tbI F rfl hk (by decide) (by decide) rfl (of_decide_eq_true rfl) (lc_7 F hX hbl had hR hg hE)
    | 8, _, hk => exact aw_tbI F rfl hk (by decide) (by decide) rfl (of_decide_eq_true rfl) (lc_8 F hX hbl had hR hg hE)
    | 9, _, hk => exact aw_tbI F rfl hk (by decide) (by decide) rfl (of_decide_eq_true rfl) (lc_9 F hX hbl had hR hg hE)
    | 10, _, hk => exact aw_tbI F rfl hk (by decide) (by decide) rfl (of_decide_eq_true rfl) (lc_10 F hX hbl had hR hg hE)
    | 11, _, hk => exact aw_tbI F rfl hk (by decide) (by decide) rfl (of_decide_eq_true rfl) (lc_11 F hX hbl had hR hg hE)
    | 12, _, hk => exact aw_tbI F rfl hk (by decide) (by decide) rfl (of_decide_eq_true rfl) (lc_12 F hX hbl had hR hg hE)
    | 13, _, hk => exact aw_tbI F rfl hk (by decide) (by decide) rfl (of_decide_eq_true rfl) (lc_13 F hX hbl had hR hg hE)
    | 14, _, hk => exact aw_tbI F rfl hk (by decide) (by decide) rfl (of_decide_eq_true rfl) (lc_14 F hX hbl had hR hg hE)
    | 15, _, hk => exact aw_tbI F rfl hk (by decide) (by decide) rfl (of_decide_eq_true rfl) (lc_15 F hX hbl had hR hg hE)
    | 16, _, hk => exact aw_tbI F rfl hk (by decide) (by decide) rfl (of_decide_eq_true rfl) (lc_16 F hX hbl had hR hg hE)
    | 17, _, hk => exact aw_tbI F rfl hk (by decide) (by decide) rfl (of_decide_eq_true rfl) (lc_17 F hX hbl had hR hg hE)
    | 18, _, hk => exact aw_tbI F rfl hk (by decide) (by decide) rfl (of_decide_eq_true rfl) (lc_18 F hX hbl had hR hg hE)
    | 19, _, hk => exact aw_tbI F rfl hk (by decide) (by decide) rfl (of_decide_eq_true rfl) (lc_19 F hX hbl had hR hg hE)
    | 20, _, hk => exact aw_tbI F rfl hk (by decide) (by decide) rfl (of_decide_eq_true rfl) (lc_20 F hX hbl had hR hg hE)
    | 21, _, hk => exact aw_tbI F rfl hk (by decide) (by decide) rfl (of_decide_eq_true rfl) (lc_21 F hX hbl had hR hg hE)
    | 22, _, hk => exact aw_tbI F rfl hk (by decide) (by decide) rfl (of_decide_eq_true rfl) (lc_22 F hX hbl had hR hg hE)
    | 23, _, hk => exact aw_tbI F rfl hk (by decide) (by decide) rfl (of_decide_eq_true rfl) (lc_23 F hX hbl had hR hg hE)
    | 24, _, hk => exact aw_tbI F rfl hk (by decide) (by decide) rfl (of_decide_eq_true rfl) (lc_24 F hX hbl had hR hg hE)
    | 25, _, hk => exact aw_tbI F rfl hk (by decide) (by decide) rfl (of_decide_eq_true rfl) (lc_25 F hX hbl had hR hg hE)
    | 26, _, hk => exact aw_tbI F rfl hk (by decide) (by decide) rfl (of_decide_eq_true rfl) (lc_26 F hX hbl had hR hg hE)
    | 27, _, hk => exact aw_tbI F rfl hk (by decide) (by decide) rfl (of_decide_eq_true rfl) (lc_27 F hX hbl had hR hg hE)
    | 28, _, hk => exact aw_tbI F rfl hk (by decide) (by decide) rfl (of_decide_eq_true rfl) (lc_28 F hX hbl had hR hg hE)
    | 29, _, hk => exact aw_tbI F rfl hk (by decide) (by decide) rfl (of_decide_eq_true rfl) (lc_29 F hX hbl had hR hg hE)
    | 30, _, hk => exact aw_tbI F rfl hk (by decide) (by decide) rfl (of_decide_eq_true rfl) (lc_30 F hX hbl had hR hg hE)
    | 31, _, hk => exact aw_tbI F rfl hk (by decide) (by decide) rfl (of_decide_eq_true rfl) (lc_31 F hX hbl had hR hg hE)
    | 32, _, hk => exact aw_tbI F rfl hk (by decide) (by decide) rfl (of_decide_eq_true rfl) (lc_32 F hX hbl had hR hg hE)
    | 33, _, hk => exact aw_tbI F rfl hk (by decide) (by decide) rfl (of_decide_eq_true rfl) (lc_33 F hX hbl had hR hg hE)
    | 34, _, hk => exact aw_tbI F rfl hk (by decide) (by decide) rfl (of_decide_eq_true rfl) (lc_34 F hX hbl had hR hg hE)
    | 35, _, hk => exact aw_tbI F rfl hk (by decide) (by decide) rfl (of_decide_eq_true rfl) (lc_35 F hX hbl had hR hg hE)
    | 36, _, hk => exact aw_tbI F rfl hk (by decide) (by decide) rfl (of_decide_eq_true rfl) (lc_36 F hX hbl had hR hg hE)
    | 37, _, hk => exact aw_tbI F rfl hk (by decide) (by decide) rfl (of_decide_eq_true rfl) (lc_37 F hX hbl had hR hg hE)
    | 38, _, hk => exact aw_tbI F rfl hk (by decide) (by decide) rfl (of_decide_eq_true rfl) (lc_38 F hX hbl had hR hg hE)
    | 39, _, hk => exact aw_tbI F rfl hk (by decide) (by decide) rfl (of_decide_eq_true rfl) (lc_39 F hX hbl had hR hg hE)
    | 40, _, hk => exact aw_tbI F rfl hk (by decide) (by decide) rfl (of_decide_eq_true rfl) (lc_40 F hX hbl had hR hg hE)
    | 41, _, hk => exact aw_tbI F rfl hk (by decide) (by decide) rfl (of_decide_eq_true rfl) (lc_41 F hX hbl had hR hg hE)
    | 42, _, hk => exact aw_tbI F rfl hk (by decide) (by decide) rfl (of_decide_eq_true rfl) (lc_42 F hX hbl had hR hg hE)
    | 43, _, hk => exact aw_tbI F rfl hk (by decide) (by decide) rfl (of_decide_eq_true rfl) (lc_43 F hX hbl had hR hg hE)
    | n + 44, hN, _ => exact absurd hN (by omega)
theorem i32_ofN {k : Nat} (hk : k ≤ 4000) : (Int32.ofNat k).toInt = (k : Int) := by
  rw [Int32.toInt_ofNat']
  exact bm32 (by omega) (by omega)
theorem in6_of {x3 : Int32} {k L : Nat} (h : x3.toInt = (k : Int)) (hk : k + 6 ≤ L) (hL : L ≤ 3072) : In6 L x3 := by
  have e1 : (1 : Int32).toInt = 1 := rfl
  have e2 : (2 : Int32).toInt = 2 := rfl
  have e3 : (3 : Int32).toInt = 3 := rfl
  have e4 : (4 : Int32).toInt = 4 := rfl
  have e5 : (5 : Int32).toInt = 5 := rfl
  have a1 : (x3 + 1).toInt = x3.toInt + 1 := by rw [ad_i (by omega) (by omega), e1]
  have a2 : (x3 + 2).toInt = x3.toInt + 2 := by rw [ad_i (by omega) (by omega), e2]
  have a3 : (x3 + 3).toInt = x3.toInt + 3 := by rw [ad_i (by omega) (by omega), e3]
  have a4 : (x3 + 4).toInt = x3.toInt + 4 := by rw [ad_i (by omega) (by omega), e4]
  have a5 : (x3 + 5).toInt = x3.toInt + 5 := by rw [ad_i (by omega) (by omega), e5]
  exact ⟨inR_in (inR_of (by omega) (by omega)), inR_in (inR_of (by omega) (by omega)), inR_in (inR_of (by omega) (by omega)), inR_in (inR_of (by omega) (by omega)), inR_in (inR_of (by omega) (by omega)), inR_in (inR_of (by omega) (by omega))⟩
set_option maxHeartbeats 4000000 in
set_option maxRecDepth 100000 in
theorem law_loop (F : MF X (mL nm) room_1 p s m #[Value.ref b9] meth c (AL s)) (hX : va_X b9 L xs s s.heap) (hbl : b9 < s.heap.size) (had : ad0 1000030 = b9) (hL : L ≤ 3072) : ∀ (q k : Nat) (x3 : Int32) (w : List AE), L - k ≤ q → k ≤ L + 5 → x3.toInt = (k : Int) → RI w → AW X l (mL nm) room_1 p e s m #[Value.ref b9] below meth c (AL s) (lw_Z below #[Value.ref b9] s) 0 ad0 18 [(3, .int x3), (2, .ref 148), (1, .ref 0), (0, .ref 1000030)] [] w 200 33081 := by
  have hbA : ¬ AL s b9 := Nat.not_le.mpr hbl
  have eL : (Int32.ofNat L).toInt = (L : Int) := i32_ofN (by omega)
  have e6 : (6 : Int32).toInt = 6 := rfl
  have eL6 : (Int32.ofNat L - 6).toInt = (L : Int) - 6 := by rw [sb_i (by omega) (by omega), eL, e6]
  intro q
  induction q using Nat.strongRecOn with
  | ind q ih =>
    intro k x3 w hq hk hx hR
    have hw : w.length ≤ 1000000 := by rw [ri_len hR]; exact Nat.le_of_ble_eq_true rfl
    refine aw_u F rfl rfl ⟨Nat.le_of_ble_eq_true rfl, Nat.le_of_ble_eq_true rfl⟩ ?_
    refine aw_u F rfl rfl ⟨Nat.le_of_ble_eq_true rfl, Nat.le_of_ble_eq_true rfl⟩ ?_
    refine aw_slen F hX hbl hbA had hw rfl ?_
    refine aw_u F rfl rfl ⟨Nat.le_of_ble_eq_true rfl, Nat.le_of_ble_eq_true rfl⟩ ?_
    refine aw_u F rfl rfl ⟨Nat.le_of_ble_eq_true rfl, Nat.le_of_ble_eq_true rfl⟩ ?_
    refine aw_ic F rfl (of_decide_eq_true rfl) (fun _ => ?_) (fun h => ?_)
    · refine aw_u F rfl rfl ⟨Nat.le_of_ble_eq_true rfl, Nat.le_of_ble_eq_true rfl⟩ ?_
      exact lw_end F rfl (Nat.le_of_ble_eq_true rfl) (Nat.le_of_ble_eq_true rfl)
    · have h6 : k + 6 ≤ L := by
        rcases c_gt x3 (Int32.ofNat L - 6) with ⟨a1, -⟩ | ⟨-, a2⟩
        · exact absurd (a1.symm.trans h) (by decide)
        · omega
      have hg := in6_of hx h6 hL
      refine aw_u F rfl rfl ⟨Nat.le_of_ble_eq_true rfl, Nat.le_of_ble_eq_true rfl⟩ ?_
      refine aw_u F rfl rfl ⟨Nat.le_of_ble_eq_true rfl, Nat.le_of_ble_eq_true rfl⟩ ?_
      refine aw_sld F hX hbl hbA had hw rfl hg.1 ?_
      refine aw_u F rfl rfl ⟨Nat.le_of_ble_eq_true rfl, Nat.le_of_ble_eq_true rfl⟩ ?_
      refine aw_u F rfl rfl ⟨Nat.le_of_ble_eq_true rfl, Nat.le_of_ble_eq_true rfl⟩ ?_
      refine law_sw F hX hbl had hR hg (fun w' hR' => ?_) _
      refine aw_u F rfl rfl ⟨Nat.le_of_ble_eq_true rfl, Nat.le_of_ble_eq_true rfl⟩ ?_
      refine aw_u F rfl rfl ⟨Nat.le_of_ble_eq_true rfl, Nat.le_of_ble_eq_true rfl⟩ ?_
      have a6 : (x3 + 6).toInt = ((k + 6 : Nat) : Int) := by rw [ad_i (by omega) (by omega), e6]; omega
      exact ih (q - 6) (by omega) (k + 6) (x3 + 6) w' (by omega) (by omega) a6 hR'
def wN : List AE := wC ++ [.inr (.inr (.inr (12, dflV 12)))]
theorem ok_new : (okN wC [(1, .ref 0), (0, .ref 1000030)] [] && Nat.blt 12 13) = true := by decide +kernel
set_option maxHeartbeats 4000000 in
set_option maxRecDepth 100000 in
theorem law_start (F : MF X (mL nm) room_1 p s m #[Value.ref b9] meth c (AL s)) (hX : va_X b9 L xs s s.heap) (hbl : b9 < s.heap.size) (had : ad0 1000030 = b9) (hL : L ≤ 3072) : AW X l (mL nm) room_1 p e s m #[Value.ref b9] below meth c (AL s) (lw_Z below #[Value.ref b9] s) 0 ad0 0 [(0, .ref 1000030)] [] [] 0 0 := by
  refine aw_t (da := 1) (db := 9) F rfl rfl ⟨Nat.le_of_ble_eq_true rfl, Nat.le_of_ble_eq_true rfl⟩ ?_
  refine aw_u F rfl rfl ⟨Nat.le_of_ble_eq_true rfl, Nat.le_of_ble_eq_true rfl⟩ ?_
  refine aw_eq (pc' := 4) (lv' := [(0, .ref 1000030)]) (st' := [.ref 0, .ref 0]) (w' := wC0) (a' := 1) (b' := 9) rfl rfl rfl rfl rfl rfl ?_
  refine aw_callI (d' := 11) (mc' := 147) (ms' := 12313) (o := 0) (As := []) (rest := [.ref 0]) (Post' := fun r2 w2 => r2 = none ∧ w2 = wC) F rfl (by decide) (allOk _) (by decide +kernel) (by decide +kernel) (by decide +kernel) (by decide +kernel) (by decide) ⟨Nat.le_of_ble_eq_true rfl, Nat.le_of_ble_eq_true rfl⟩ ⟨Nat.le_of_ble_eq_true rfl, Nat.le_of_ble_eq_true rfl⟩ (amet_w4 t_C) (fun r w' h => ?_)
  obtain ⟨rfl, rfl⟩ := h
  refine ⟨Or.inr ⟨by rw [len_C]; decide, by rw [len_C]; decide⟩, ?_⟩
  refine aw_u F rfl rfl ⟨Nat.le_of_ble_eq_true rfl, Nat.le_of_ble_eq_true rfl⟩ ?_
  refine aw_eq (pc' := 8) (lv' := [(1, .ref 0), (0, .ref 1000030)]) (st' := []) (w' := wC) (a' := 148) (b' := 12322) rfl rfl rfl rfl rfl rfl ?_
  refine aw_t (pc' := 11) (lv' := [(1, .ref 0), (0, .ref 1000030)]) (st' := [.ref wC.length]) (w' := wN) (da := 1) (db := 76) F rfl ?_ ⟨Nat.le_of_ble_eq_true rfl, Nat.le_of_ble_eq_true rfl⟩ ?_
  · show nwS 12 8 _ [] wC = _
    unfold nwS
    rw [ok_new]
    rfl
  rw [len_C]
  refine aw_u F rfl rfl ⟨Nat.le_of_ble_eq_true rfl, Nat.le_of_ble_eq_true rfl⟩ ?_
  refine aw_callI (d' := 11) (mc' := 51) (ms' := 20683) (o := 148) (As := []) (rest := [.ref 148]) (Post' := fun r2 w2 => r2 = none ∧ w2 = wCM) F rfl (by decide) (allOk _) (by decide +kernel) (by decide +kernel) (by decide +kernel) (by decide +kernel) (by decide) ⟨Nat.le_of_ble_eq_true rfl, Nat.le_of_ble_eq_true rfl⟩ ⟨Nat.le_of_ble_eq_true rfl, Nat.le_of_ble_eq_true rfl⟩ (amet_w4 t_CM) (fun r w' h => ?_)
  obtain ⟨rfl, rfl⟩ := h
  have hwN : wN.length = 149 := by decide +kernel
  refine ⟨Or.inr ⟨by rw [hwN, len_CM]; decide, by rw [hwN, len_CM]; decide⟩, ?_⟩
  refine aw_u F rfl rfl ⟨Nat.le_of_ble_eq_true rfl, Nat.le_of_ble_eq_true rfl⟩ ?_
  refine aw_u F rfl rfl ⟨Nat.le_of_ble_eq_true rfl, Nat.le_of_ble_eq_true rfl⟩ ?_
  refine aw_u F rfl rfl ⟨Nat.le_of_ble_eq_true rfl, Nat.le_of_ble_eq_true rfl⟩ ?_
  exact aw_eq (lv' := [(3, .int 0), (2, .ref 148), (1, .ref 0), (0, .ref 1000030)]) rfl rfl rfl rfl rfl rfl (law_loop F hX hbl had hL L 0 0 wCM (by omega) (by omega) rfl ri_CM)
end LAWS
def adL (X : CX) (b : Nat) : Nat → Nat := fun k => if k = 1000030 then b else if k = 1000020 then X.2.2.2.2.2 else if 1000010 ≤ k then X.2.2.2.2.1 (k - 1000010) else X.2.2.2.1 (k - 1000000)
theorem adL_ex (X : CX) (b : Nat) : exOk X (adL X b) := by
  refine ⟨fun i hi => ?_, fun i hi => ?_, ?_⟩
  · unfold adL
    rw [if_neg (by omega), if_neg (by omega), if_neg (by omega), Nat.add_sub_cancel_left]
  · unfold adL
    rw [if_neg (by omega), if_neg (by omega), if_pos (by omega), Nat.add_sub_cancel_left]
  · unfold adL
    rw [if_neg (by omega), if_pos rfl]
theorem whole_start {p : Program} {e : Env} {s : State} {m : MethodId} {below : List Frame} {meth : Method} {c : Code} (l : Launch) (hflags : l.flags = flags0) {b L : Nat} {xs : Nat → Int32} (hL : L ≤ 3072) (C0 : lw_At p s m meth c b L xs) : W p l e room_1 s m #[Value.ref b] below meth c s.heap [] 0 0 (lw_Z below #[Value.ref b] s) (entryFrame m ([Value.ref b] : List Value).toArray 4) := by
  obtain ⟨hx, hb, hr, hml, hown, hts, hX, hbl, hlocks, hgv⟩ := C0
  obtain ⟨X, hEV⟩ := ev_of hts hgv
  have F : MF X (mL meth.name) room_1 p s m #[Value.ref b] meth c (AL s) := ⟨hx, hb, hr, hml, hown, fun w hw => hts w (List.mem_filter.mp hw).1, hlocks, hEV, fun q h => h, rfl, mL_at _, by decide, by decide⟩
  have hl := lv_entry ([.ref b]) (n := 4) (Nat.le_of_ble_eq_true rfl)
  rw [lg_entry_eq]
  generalize (lg_sl ([.ref b]) ++ List.replicate (4 - (lg_sl ([.ref b])).length) Slot.unset).toArray = ls at hl ⊢
  have hl : lv_has ls 4 [(0, .ref b)] := hl
  exact law_start (ad0 := adL X b) F hX hbl rfl hL s.heap [] ls (adL X b) (fun _ _ => rfl) (Nat.le_refl _) (adL_ex X b) (fun k q h => by simp [rwW] at h) ⟨fun i j p q h => by simp [rwW] at h, fun k q h => by simp [rwW] at h⟩ va_S.rf hl
