set_option maxHeartbeats 1000000 in
set_option maxRecDepth 100000 in
theorem lp_meanM (X : CX) (l : Launch) {p : Program} {e : Env} {s : State} {m : MethodId} {args : Array Value} {below : List Frame} {meth : Method} {c : Code} {A : Nat → Prop} {n0 : Nat} {ad0 : Nat → Nat} (wp sp ht : List Int32) {S N : Nat} (hS : S ≤ 10) (hN : N ≤ 600) (F : MF X (mdOf 281) (rmA 11 0 0) p s m args meth c A) :
    ∀ (k i : Nat) (lo wl sl : Int32) (r : List Int32), i + k = S → r.length = 96 → AW X l (mdOf 281) (rmA 11 0 0) p e s m args below meth c A (MQ below (QQ X n0 ad0 A (fun r w' => r = some (.int 0) ∧ w'.length = 8)) args s 0 0 A) n0 ad0 28 [(4, .int (nI i)), (3, .int 0), (0, .ref 0), (1, .int (nI S)), (2, .int (nI N))] [] (wR lo wl sl 0 r (fr 0) wp sp ht) 0 0 := by
  intro k
  induction k with
  | zero =>
    intro i lo wl sl r hi hr
    have hi : i = S := by omega
    subst hi
    refine aw_u F rfl rfl ⟨Nat.le_of_ble_eq_true rfl, Nat.le_of_ble_eq_true rfl⟩ ?_
    refine aw_u F rfl rfl ⟨Nat.le_of_ble_eq_true rfl, Nat.le_of_ble_eq_true rfl⟩ ?_
    refine aw_ic F rfl (of_decide_eq_true rfl) (fun hc => ?_) (fun hc => ?_)
    · refine aw_u F rfl rfl ⟨Nat.le_of_ble_eq_true rfl, Nat.le_of_ble_eq_true rfl⟩ ?_
      exact aw_iret F rfl rfl rfl ⟨Nat.le_of_ble_eq_true rfl, Nat.le_of_ble_eq_true rfl⟩ ⟨rfl, rfl⟩
    · exact absurd hc (by simp [cmpB])
  | succ k ih =>
    intro i lo wl sl r hi hr
    refine aw_u F rfl rfl ⟨Nat.le_of_ble_eq_true rfl, Nat.le_of_ble_eq_true rfl⟩ ?_
    refine aw_u F rfl rfl ⟨Nat.le_of_ble_eq_true rfl, Nat.le_of_ble_eq_true rfl⟩ ?_
    refine aw_ic F rfl (of_decide_eq_true rfl) (fun hc => ?_) (fun hc => ?_)
    · have h1 : nI S ≤ nI i := of_decide_eq_true hc
      exact absurd ((nI_leI (by omega) (by omega)).mp h1) (by omega)
    refine aw_u F rfl rfl ⟨Nat.le_of_ble_eq_true rfl, Nat.le_of_ble_eq_true rfl⟩ ?_
    refine aw_V0 F rfl rfl ⟨Nat.le_of_ble_eq_true rfl, Nat.le_of_ble_eq_true rfl⟩ ⟨Nat.le_of_ble_eq_true rfl, Nat.le_of_ble_eq_true rfl⟩ (hR_copies X l lo wl sl 0 r (fr 0) wp sp ht hr (fr_len 0)) (fun r w' hq => ?_)
    obtain ⟨rfl, rfl⟩ := hq
    refine ⟨rfl, ?_⟩
    refine aw_u F rfl rfl ⟨Nat.le_of_ble_eq_true rfl, Nat.le_of_ble_eq_true rfl⟩ ?_
    refine aw_u F rfl rfl ⟨Nat.le_of_ble_eq_true rfl, Nat.le_of_ble_eq_true rfl⟩ ?_
    refine aw_u F rfl rfl ⟨Nat.le_of_ble_eq_true rfl, Nat.le_of_ble_eq_true rfl⟩ ?_
    refine aw_u F rfl rfl ⟨Nat.le_of_ble_eq_true rfl, Nat.le_of_ble_eq_true rfl⟩ ?_
    refine aw_u F rfl rfl ⟨Nat.le_of_ble_eq_true rfl, Nat.le_of_ble_eq_true rfl⟩ ?_
    refine aw_pi F rfl rfl rfl rfl rfl ⟨Nat.le_of_ble_eq_true rfl, Nat.le_of_ble_eq_true rfl⟩ ?_
    refine aw_eq rfl rfl rfl (show _ = wR (0 + nI i) wl sl 0 (fr 0) (fr 0) wp sp ht from rfl) rfl rfl ?_
    refine aw_u F rfl rfl ⟨Nat.le_of_ble_eq_true rfl, Nat.le_of_ble_eq_true rfl⟩ ?_
    refine aw_u F rfl rfl ⟨Nat.le_of_ble_eq_true rfl, Nat.le_of_ble_eq_true rfl⟩ ?_
    refine aw_V1 F rfl rfl ⟨Nat.le_of_ble_eq_true rfl, Nat.le_of_ble_eq_true rfl⟩ ⟨Nat.le_of_ble_eq_true rfl, Nat.le_of_ble_eq_true rfl⟩ (hR_goes X l (0 + nI i) wl sl 0 (fr 0) wp sp ht (N := N) hN) (fun r w' hq => ?_)
    obtain ⟨rfl, wl', sl', rfl⟩ := hq
    refine ⟨rfl, ?_⟩
    have ih' := ih (i + 1) (0 + nI i) wl' sl' (fr (nI N)) (by omega) (fr_len _)
    have e1 : nI i + Int32.ofInt 1 = nI (i + 1) := nI_1 i
    rw [← e1] at ih'
    refine aw_u F rfl rfl ⟨Nat.le_of_ble_eq_true rfl, Nat.le_of_ble_eq_true rfl⟩ ?_
    refine aw_u F rfl rfl ⟨Nat.le_of_ble_eq_true rfl, Nat.le_of_ble_eq_true rfl⟩ ?_
    refine aw_u F rfl rfl ⟨Nat.le_of_ble_eq_true rfl, Nat.le_of_ble_eq_true rfl⟩ ?_
    refine aw_u F rfl rfl ⟨Nat.le_of_ble_eq_true rfl, Nat.le_of_ble_eq_true rfl⟩ ?_
    refine aw_u F rfl rfl ⟨Nat.le_of_ble_eq_true rfl, Nat.le_of_ble_eq_true rfl⟩ ?_
    refine aw_u F rfl rfl ⟨Nat.le_of_ble_eq_true rfl, Nat.le_of_ble_eq_true rfl⟩ ?_
    refine aw_u F rfl rfl ⟨Nat.le_of_ble_eq_true rfl, Nat.le_of_ble_eq_true rfl⟩ ?_
    refine aw_u F rfl rfl ⟨Nat.le_of_ble_eq_true rfl, Nat.le_of_ble_eq_true rfl⟩ ?_
    refine aw_u F rfl rfl ⟨Nat.le_of_ble_eq_true rfl, Nat.le_of_ble_eq_true rfl⟩ ?_
    refine aw_u F rfl rfl ⟨Nat.le_of_ble_eq_true rfl, Nat.le_of_ble_eq_true rfl⟩ ?_
    refine aw_u F rfl rfl ⟨Nat.le_of_ble_eq_true rfl, Nat.le_of_ble_eq_true rfl⟩ ?_
    refine aw_eq (st' := [.int 0]) rfl rfl (show [Value.int (0 + (0 - 0))] = [Value.int 0] from congrArg (fun z => [Value.int z]) (show (0 + (0 - 0) : Int32) = 0 by decide)) rfl rfl rfl ?_
    refine aw_u F rfl rfl ⟨Nat.le_of_ble_eq_true rfl, Nat.le_of_ble_eq_true rfl⟩ ?_
    refine aw_u F rfl rfl ⟨Nat.le_of_ble_eq_true rfl, Nat.le_of_ble_eq_true rfl⟩ ?_
    refine aw_u F rfl rfl ⟨Nat.le_of_ble_eq_true rfl, Nat.le_of_ble_eq_true rfl⟩ ?_
    exact aw_eq rfl rfl rfl rfl rfl rfl ih' 
set_option maxHeartbeats 1000000 in
set_option maxRecDepth 100000 in
theorem gM_mean_in (X : CX) (l : Launch) (wp sp ht : List Int32) {S N : Nat} (h1 : 1 ≤ S) (h2 : S ≤ 10) (h3 : N ≤ 300) : AMet X l (mdOf 281) 11 0 0 [.ref 0, .int (nI S), .int (nI N)] (wR0 wp sp ht) (fun r w' => r = some (.int 0) ∧ w'.length = 8) := by
  refine amet_of (allOk _) (by decide) (Nat.le_of_ble_eq_true rfl) (fun p e s m vs below meth c A ad F => ?_)
  refine aw_u F rfl rfl ⟨Nat.le_of_ble_eq_true rfl, Nat.le_of_ble_eq_true rfl⟩ ?_
  refine aw_u F rfl rfl ⟨Nat.le_of_ble_eq_true rfl, Nat.le_of_ble_eq_true rfl⟩ ?_
  refine aw_u F rfl rfl ⟨Nat.le_of_ble_eq_true rfl, Nat.le_of_ble_eq_true rfl⟩ ?_
  refine aw_S3p F rfl rfl ⟨Nat.le_of_ble_eq_true rfl, Nat.le_of_ble_eq_true rfl⟩ ⟨Nat.le_of_ble_eq_true rfl, Nat.le_of_ble_eq_true rfl⟩ (hI_in_yes X l _ (nI S) 1 10 (by have e1 : (1 : Int32).toInt = 1 := rfl; have e2 : (10 : Int32).toInt = 10 := rfl; have e3 : (nI S).toInt = S := nI_toInt (by omega); omega)) ?_
  refine aw_u F rfl rfl ⟨Nat.le_of_ble_eq_true rfl, Nat.le_of_ble_eq_true rfl⟩ ?_
  refine aw_u F rfl rfl ⟨Nat.le_of_ble_eq_true rfl, Nat.le_of_ble_eq_true rfl⟩ ?_
  refine aw_u F rfl rfl ⟨Nat.le_of_ble_eq_true rfl, Nat.le_of_ble_eq_true rfl⟩ ?_
  refine aw_u F rfl rfl ⟨Nat.le_of_ble_eq_true rfl, Nat.le_of_ble_eq_true rfl⟩ ?_
  refine aw_S3p F rfl rfl ⟨Nat.le_of_ble_eq_true rfl, Nat.le_of_ble_eq_true rfl⟩ ⟨Nat.le_of_ble_eq_true rfl, Nat.le_of_ble_eq_true rfl⟩ (hI_in_yes X l _ (nI N) 0 300 (by have e1 : (0 : Int32).toInt = 0 := rfl; have e2 : (300 : Int32).toInt = 300 := rfl; have e3 : (nI N).toInt = N := nI_toInt (by omega); omega)) ?_
  refine aw_u F rfl rfl ⟨Nat.le_of_ble_eq_true rfl, Nat.le_of_ble_eq_true rfl⟩ ?_
  refine aw_u F rfl rfl ⟨Nat.le_of_ble_eq_true rfl, Nat.le_of_ble_eq_true rfl⟩ ?_
  refine aw_u F rfl rfl ⟨Nat.le_of_ble_eq_true rfl, Nat.le_of_ble_eq_true rfl⟩ ?_
  refine aw_u F rfl rfl ⟨Nat.le_of_ble_eq_true rfl, Nat.le_of_ble_eq_true rfl⟩ ?_
  refine aw_u F rfl rfl ⟨Nat.le_of_ble_eq_true rfl, Nat.le_of_ble_eq_true rfl⟩ ?_
  exact lp_meanM X l wp sp ht h2 (by omega) F S 0 0 0 0 (fr 0) (by omega) (fr_len 0)
set_option maxHeartbeats 1000000 in
set_option maxRecDepth 100000 in
theorem hR_isResting (X : CX) (l : Launch) (lo wl sl un h : Int32) (nw wp sp ht : List Int32) : AMet X l (mdOf 272) 5 0 0 [.ref 0, .int 0] (wR lo wl sl un (fr h) nw wp sp ht) (fun r' w' => r' = some (.int 1) ∧ w' = wR lo wl sl un (fr h) nw wp sp ht) := by
  refine amet_of (allOk _) (by decide) (Nat.le_of_ble_eq_true rfl) (fun p e s m vs below meth c A ad F => ?_)
  repeat' (first
    | exact aw_iret F rfl rfl rfl ⟨Nat.le_of_ble_eq_true rfl, Nat.le_of_ble_eq_true rfl⟩ (by first | rfl | assumption | exact ⟨rfl, rfl⟩)
    | refine aw_u F rfl rfl ⟨Nat.le_of_ble_eq_true rfl, Nat.le_of_ble_eq_true rfl⟩ ?_
    | refine aw_if F rfl (of_decide_eq_true rfl) (fun _ => ?_) (fun _ => ?_)
    | refine aw_ic F rfl (of_decide_eq_true rfl) (fun _ => ?_) (fun _ => ?_))

set_option maxHeartbeats 1000000 in
set_option maxRecDepth 100000 in
theorem hR_fillsBeds (X : CX) (l : Launch) (wp sp ht : List Int32) {N : Nat} (hN : N ≤ 600) : AMet X l (mdOf 271) 8 0 0 [.ref 0, .int (nI N)] (wR0 wp sp ht) (fun r w' => r = none ∧ ∃ wl sl, w' = wR 0 wl sl 0 (fr (nI N)) (fr 0) wp sp ht) := by
  refine amet_of (allOk _) (by decide) (Nat.le_of_ble_eq_true rfl) (fun p e s m vs below meth c A ad F => ?_)
  refine aw_u F rfl rfl ⟨Nat.le_of_ble_eq_true rfl, Nat.le_of_ble_eq_true rfl⟩ ?_
  refine aw_u F rfl rfl ⟨Nat.le_of_ble_eq_true rfl, Nat.le_of_ble_eq_true rfl⟩ ?_
  refine aw_u F rfl rfl ⟨Nat.le_of_ble_eq_true rfl, Nat.le_of_ble_eq_true rfl⟩ ?_
  refine aw_u F rfl rfl ⟨Nat.le_of_ble_eq_true rfl, Nat.le_of_ble_eq_true rfl⟩ ?_
  refine aw_u F rfl rfl ⟨Nat.le_of_ble_eq_true rfl, Nat.le_of_ble_eq_true rfl⟩ ?_
  refine aw_u F rfl rfl ⟨Nat.le_of_ble_eq_true rfl, Nat.le_of_ble_eq_true rfl⟩ ?_
  refine aw_u F rfl rfl ⟨Nat.le_of_ble_eq_true rfl, Nat.le_of_ble_eq_true rfl⟩ ?_
  refine aw_u F rfl rfl ⟨Nat.le_of_ble_eq_true rfl, Nat.le_of_ble_eq_true rfl⟩ ?_
  refine aw_u F rfl rfl ⟨Nat.le_of_ble_eq_true rfl, Nat.le_of_ble_eq_true rfl⟩ ?_
  refine aw_u F rfl rfl ⟨Nat.le_of_ble_eq_true rfl, Nat.le_of_ble_eq_true rfl⟩ ?_
  refine aw_u F rfl rfl ⟨Nat.le_of_ble_eq_true rfl, Nat.le_of_ble_eq_true rfl⟩ ?_
  refine aw_u F rfl rfl ⟨Nat.le_of_ble_eq_true rfl, Nat.le_of_ble_eq_true rfl⟩ ?_
  refine aw_V0 F rfl rfl ⟨Nat.le_of_ble_eq_true rfl, Nat.le_of_ble_eq_true rfl⟩ ⟨Nat.le_of_ble_eq_true rfl, Nat.le_of_ble_eq_true rfl⟩ (hR_copies X l 0 0 0 0 (fr 0) (fr 0) wp sp ht (fr_len 0) (fr_len 0)) (fun r w' hq => ?_)
  obtain ⟨rfl, rfl⟩ := hq
  refine ⟨rfl, ?_⟩
  refine aw_u F rfl rfl ⟨Nat.le_of_ble_eq_true rfl, Nat.le_of_ble_eq_true rfl⟩ ?_
  refine aw_u F rfl rfl ⟨Nat.le_of_ble_eq_true rfl, Nat.le_of_ble_eq_true rfl⟩ ?_
  refine aw_u F rfl rfl ⟨Nat.le_of_ble_eq_true rfl, Nat.le_of_ble_eq_true rfl⟩ ?_
  refine aw_u F rfl rfl ⟨Nat.le_of_ble_eq_true rfl, Nat.le_of_ble_eq_true rfl⟩ ?_
  refine aw_u F rfl rfl ⟨Nat.le_of_ble_eq_true rfl, Nat.le_of_ble_eq_true rfl⟩ ?_
  refine aw_u F rfl rfl ⟨Nat.le_of_ble_eq_true rfl, Nat.le_of_ble_eq_true rfl⟩ ?_
  refine aw_u F rfl rfl ⟨Nat.le_of_ble_eq_true rfl, Nat.le_of_ble_eq_true rfl⟩ ?_
  refine aw_u F rfl rfl ⟨Nat.le_of_ble_eq_true rfl, Nat.le_of_ble_eq_true rfl⟩ ?_
  refine aw_u F rfl rfl ⟨Nat.le_of_ble_eq_true rfl, Nat.le_of_ble_eq_true rfl⟩ ?_
  refine aw_u F rfl rfl ⟨Nat.le_of_ble_eq_true rfl, Nat.le_of_ble_eq_true rfl⟩ ?_
  refine aw_u F rfl rfl ⟨Nat.le_of_ble_eq_true rfl, Nat.le_of_ble_eq_true rfl⟩ ?_
  refine aw_V1 F rfl rfl ⟨Nat.le_of_ble_eq_true rfl, Nat.le_of_ble_eq_true rfl⟩ ⟨Nat.le_of_ble_eq_true rfl, Nat.le_of_ble_eq_true rfl⟩ (hR_goes X l 0 0 0 0 (fr 0) wp sp ht (N := N) (by omega)) (fun r w' hq => ?_)
  obtain ⟨rfl, wl, sl, rfl⟩ := hq
  refine ⟨rfl, ?_⟩
  repeat' (first
    | exact aw_vret F rfl rfl ⟨Nat.le_of_ble_eq_true rfl, Nat.le_of_ble_eq_true rfl⟩ ⟨rfl, wl, sl, rfl⟩
    | refine aw_u F rfl rfl ⟨Nat.le_of_ble_eq_true rfl, Nat.le_of_ble_eq_true rfl⟩ ?_)
set_option maxHeartbeats 1000000 in
set_option maxRecDepth 100000 in
theorem gM_rests_in (X : CX) (l : Launch) (wp sp ht : List Int32) {N : Nat} (h1 : 1 ≤ N) (h2 : N ≤ 240) (x : Int32) (hx : -1 ≤ x.toInt) : AMet X l (mdOf 273) 11 0 0 [.ref 0, .int (nI N), .int x] (wR0 wp sp ht) (fun r w' => r = some (.int (if 0 = x then 0 else if x = -1 then 1 else -1)) ∧ w'.length = 8) := by
  refine amet_of (allOk _) (by decide) (Nat.le_of_ble_eq_true rfl) (fun p e s m vs below meth c A ad F => ?_)
  refine aw_u F rfl rfl ⟨Nat.le_of_ble_eq_true rfl, Nat.le_of_ble_eq_true rfl⟩ ?_
  refine aw_u F rfl rfl ⟨Nat.le_of_ble_eq_true rfl, Nat.le_of_ble_eq_true rfl⟩ ?_
  refine aw_u F rfl rfl ⟨Nat.le_of_ble_eq_true rfl, Nat.le_of_ble_eq_true rfl⟩ ?_
  refine aw_S3p F rfl rfl ⟨Nat.le_of_ble_eq_true rfl, Nat.le_of_ble_eq_true rfl⟩ ⟨Nat.le_of_ble_eq_true rfl, Nat.le_of_ble_eq_true rfl⟩ (hI_isLong_yes X l _ (nI N) 1 240 (by have e1 : (1 : Int32).toInt = 1 := rfl; have e2 : (240 : Int32).toInt = 240 := rfl; have e3 : (nI N).toInt = N := nI_toInt (by omega); omega)) ?_
  refine aw_u F rfl rfl ⟨Nat.le_of_ble_eq_true rfl, Nat.le_of_ble_eq_true rfl⟩ ?_
  refine aw_u F rfl rfl ⟨Nat.le_of_ble_eq_true rfl, Nat.le_of_ble_eq_true rfl⟩ ?_
  refine aw_u F rfl rfl ⟨Nat.le_of_ble_eq_true rfl, Nat.le_of_ble_eq_true rfl⟩ ?_
  refine aw_ic F rfl (of_decide_eq_true rfl) (fun _ => ?_) (fun hc => ?_)
  rotate_left
  · have h3 : ¬ (-1 : Int32) ≤ x := of_decide_eq_false hc
    rw [Int32.le_iff_toInt_le] at h3
    exact absurd hx (by have e1 : (-1 : Int32).toInt = -1 := rfl; omega)
  refine aw_u F rfl rfl ⟨Nat.le_of_ble_eq_true rfl, Nat.le_of_ble_eq_true rfl⟩ ?_
  refine aw_u F rfl rfl ⟨Nat.le_of_ble_eq_true rfl, Nat.le_of_ble_eq_true rfl⟩ ?_
  refine aw_V1 F rfl rfl ⟨Nat.le_of_ble_eq_true rfl, Nat.le_of_ble_eq_true rfl⟩ ⟨Nat.le_of_ble_eq_true rfl, Nat.le_of_ble_eq_true rfl⟩ (hR_fillsBeds X l wp sp ht (N := N) (by omega)) (fun r w' hq => ?_)
  obtain ⟨rfl, wl, sl, rfl⟩ := hq
  refine ⟨rfl, ?_⟩
  repeat' (first
    | exact aw_iret F rfl rfl rfl ⟨Nat.le_of_ble_eq_true rfl, Nat.le_of_ble_eq_true rfl⟩ ⟨by first | rfl | (simp_all [cmpB]; done), rfl⟩
    | refine aw_u F rfl rfl ⟨Nat.le_of_ble_eq_true rfl, Nat.le_of_ble_eq_true rfl⟩ ?_
    | refine aw_V1p F rfl rfl ⟨Nat.le_of_ble_eq_true rfl, Nat.le_of_ble_eq_true rfl⟩ ⟨Nat.le_of_ble_eq_true rfl, Nat.le_of_ble_eq_true rfl⟩ (hR_isResting X l _ _ _ _ _ _ _ _ _) ?_
    | refine aw_if F rfl (of_decide_eq_true rfl) (fun _ => ?_) (fun _ => ?_)
    | refine aw_ic F rfl (of_decide_eq_true rfl) (fun _ => ?_) (fun _ => ?_))
  all_goals (exfalso; simp_all [cmpB])
set_option maxHeartbeats 1000000 in
set_option maxRecDepth 100000 in
theorem lp_keeps (X : CX) (l : Launch) {p : Program} {e : Env} {s : State} {m : MethodId} {args : Array Value} {below : List Frame} {meth : Method} {c : Code} {A : Nat → Prop} {n0 : Nat} {ad0 : Nat → Nat} (lo wl sl : Int32) (r nw wp sp : List Int32) (hs : nw.length = 96) {Q : State → Prop} (F : MF X (mdOf 251) (rmA 7 0 0) p s m args meth c A)
    (hk : ∀ ht : List Int32, AW X l (mdOf 251) (rmA 7 0 0) p e s m args below meth c A Q n0 ad0 83 [(0, .ref 0)] [] (wR lo wl sl 0 r nw wp sp ht) 0 0) :
    ∀ (k i : Nat) (ht : List Int32), i + k = 96 → ht.length = 2880 → AW X l (mdOf 251) (rmA 7 0 0) p e s m args below meth c A Q n0 ad0 51 [(1, .int (nI i)), (0, .ref 0)] [] (wR lo wl sl 0 r nw wp sp ht) 0 0 := by
  intro k
  induction k with
  | zero =>
    intro i ht hi hl
    have hi : i = 96 := by omega
    subst hi
    refine aw_u F rfl rfl ⟨Nat.le_of_ble_eq_true rfl, Nat.le_of_ble_eq_true rfl⟩ ?_
    refine aw_u F rfl rfl ⟨Nat.le_of_ble_eq_true rfl, Nat.le_of_ble_eq_true rfl⟩ ?_
    refine aw_u F rfl rfl ⟨Nat.le_of_ble_eq_true rfl, Nat.le_of_ble_eq_true rfl⟩ ?_
    refine aw_lv (fun q hq => ?_) (hk ht)
    simp only [List.mem_cons, List.not_mem_nil, or_false] at hq ⊢
    subst hq
    simp
  | succ k ih =>
    intro i ht hi hl
    have h2 : i < 2 ^ 31 := by omega
    refine aw_u F rfl rfl ⟨Nat.le_of_ble_eq_true rfl, Nat.le_of_ble_eq_true rfl⟩ ?_
    refine aw_u F rfl rfl ⟨Nat.le_of_ble_eq_true rfl, Nat.le_of_ble_eq_true rfl⟩ ?_
    refine aw_ic F rfl (of_decide_eq_true rfl) (fun hc => ?_) (fun hc => ?_)
    · have h1 : nI 96 ≤ nI i := of_decide_eq_true hc
      exact absurd ((nI_leI (by omega) (by omega)).mp h1) (by omega)
    refine aw_u F rfl rfl ⟨Nat.le_of_ble_eq_true rfl, Nat.le_of_ble_eq_true rfl⟩ ?_
    refine aw_u F rfl rfl ⟨Nat.le_of_ble_eq_true rfl, Nat.le_of_ble_eq_true rfl⟩ ?_
    refine aw_u F rfl rfl ⟨Nat.le_of_ble_eq_true rfl, Nat.le_of_ble_eq_true rfl⟩ ?_
    refine aw_u F rfl rfl ⟨Nat.le_of_ble_eq_true rfl, Nat.le_of_ble_eq_true rfl⟩ ?_
    refine aw_u F rfl rfl ⟨Nat.le_of_ble_eq_true rfl, Nat.le_of_ble_eq_true rfl⟩ ?_
    refine aw_u F rfl rfl ⟨Nat.le_of_ble_eq_true rfl, Nat.le_of_ble_eq_true rfl⟩ ?_
    refine aw_u F rfl rfl ⟨Nat.le_of_ble_eq_true rfl, Nat.le_of_ble_eq_true rfl⟩ ?_
    refine aw_u F rfl rfl ⟨Nat.le_of_ble_eq_true rfl, Nat.le_of_ble_eq_true rfl⟩ ?_
    refine aw_u F rfl rfl ⟨Nat.le_of_ble_eq_true rfl, Nat.le_of_ble_eq_true rfl⟩ ?_
    refine aw_u F rfl rfl ⟨Nat.le_of_ble_eq_true rfl, Nat.le_of_ble_eq_true rfl⟩ ?_
    refine aw_u F rfl rfl ⟨Nat.le_of_ble_eq_true rfl, Nat.le_of_ble_eq_true rfl⟩ ?_
    refine aw_al F rfl rfl (by rw [inR_iff, nI_toInt h2, hs]; omega) ⟨Nat.le_of_ble_eq_true rfl, Nat.le_of_ble_eq_true rfl⟩ ?_
    have e3 : ((Int8.ofInt 96).toInt32 * 0 + nI i : Int32) = nI i := by rw [show ((Int8.ofInt 96).toInt32 * 0 : Int32) = nI 0 by decide, nI_add, Nat.zero_add]
    refine aw_as F rfl rfl (show inR ((Int8.ofInt 96).toInt32 * 0 + nI i) ht.length = true by rw [e3, inR_iff, nI_toInt h2, hl]; omega) ⟨Nat.le_of_ble_eq_true rfl, Nat.le_of_ble_eq_true rfl⟩ ?_
    refine aw_u F rfl rfl ⟨Nat.le_of_ble_eq_true rfl, Nat.le_of_ble_eq_true rfl⟩ ?_
    refine aw_u F rfl rfl ⟨Nat.le_of_ble_eq_true rfl, Nat.le_of_ble_eq_true rfl⟩ ?_
    have e1 : nI i + Int32.ofInt 1 = nI (i + 1) := nI_1 i
    exact aw_eq (lv' := [(1, .int (nI (i + 1))), (0, .ref 0)]) (w' := wR lo wl sl 0 r nw wp sp _) rfl (by rw [← e1]; rfl) rfl rfl rfl rfl (ih (i + 1) _ (by omega) (by rw [List.length_set]; exact hl))
set_option maxHeartbeats 1000000 in
set_option maxRecDepth 100000 in
theorem hR_keeps (X : CX) (l : Launch) (lo wl sl : Int32) (r nw wp sp ht : List Int32) (hr : r.length = 96) (hs : nw.length = 96) (hh : ht.length = 2880) : AMet X l (mdOf 251) 7 0 0 [.ref 0] (wR lo wl sl 0 r nw wp sp ht) (fun r' w' => r' = none ∧ ∃ ht, w' = wR lo wl sl 1 r r wp sp ht) := by
  refine amet_of (allOk _) (by decide) (Nat.le_of_ble_eq_true rfl) (fun p e s m vs below meth c A ad F => ?_)
  refine aw_u F rfl rfl ⟨Nat.le_of_ble_eq_true rfl, Nat.le_of_ble_eq_true rfl⟩ ?_
  refine aw_u F rfl rfl ⟨Nat.le_of_ble_eq_true rfl, Nat.le_of_ble_eq_true rfl⟩ ?_
  refine aw_u F rfl rfl ⟨Nat.le_of_ble_eq_true rfl, Nat.le_of_ble_eq_true rfl⟩ ?_
  refine aw_u F rfl rfl ⟨Nat.le_of_ble_eq_true rfl, Nat.le_of_ble_eq_true rfl⟩ ?_
  refine aw_u F rfl rfl ⟨Nat.le_of_ble_eq_true rfl, Nat.le_of_ble_eq_true rfl⟩ ?_
  refine aw_u F rfl rfl ⟨Nat.le_of_ble_eq_true rfl, Nat.le_of_ble_eq_true rfl⟩ ?_
  refine lp_keeps X l lo wl sl r nw wp sp hs F (fun ht => ?_) 96 0 ht rfl hh
  refine aw_u F rfl rfl ⟨Nat.le_of_ble_eq_true rfl, Nat.le_of_ble_eq_true rfl⟩ ?_
  refine aw_u F rfl rfl ⟨Nat.le_of_ble_eq_true rfl, Nat.le_of_ble_eq_true rfl⟩ ?_
  refine aw_u F rfl rfl ⟨Nat.le_of_ble_eq_true rfl, Nat.le_of_ble_eq_true rfl⟩ ?_
  refine aw_u F rfl rfl ⟨Nat.le_of_ble_eq_true rfl, Nat.le_of_ble_eq_true rfl⟩ ?_
  refine aw_u F rfl rfl ⟨Nat.le_of_ble_eq_true rfl, Nat.le_of_ble_eq_true rfl⟩ ?_
  refine aw_u F rfl rfl ⟨Nat.le_of_ble_eq_true rfl, Nat.le_of_ble_eq_true rfl⟩ ?_
  refine aw_u F rfl rfl ⟨Nat.le_of_ble_eq_true rfl, Nat.le_of_ble_eq_true rfl⟩ ?_
  refine aw_eq rfl rfl rfl (show _ = wR lo wl sl 1 r nw wp sp ht from rfl) rfl rfl ?_
  refine aw_V0 F rfl rfl ⟨Nat.le_of_ble_eq_true rfl, Nat.le_of_ble_eq_true rfl⟩ ⟨Nat.le_of_ble_eq_true rfl, Nat.le_of_ble_eq_true rfl⟩ (hR_keepsRow X l lo wl sl 1 r nw wp sp ht hr hs) (fun r w' hq => ?_)
  obtain ⟨rfl, rfl⟩ := hq
  refine ⟨rfl, ?_⟩
  exact aw_vret F rfl rfl ⟨Nat.le_of_ble_eq_true rfl, Nat.le_of_ble_eq_true rfl⟩ ⟨rfl, ht, rfl⟩
