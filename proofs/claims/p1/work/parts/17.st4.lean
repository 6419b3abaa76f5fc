set_option maxHeartbeats 4000000 in
set_option maxRecDepth 100000 in
theorem lp_ends (X : CX) (l : Launch) {p : Program} {e : Env} {s : State} {m : MethodId} {args : Array Value} {below : List Frame} {meth : Method} {c : Code} {A : Nat → Prop} {n0 : Nat} {ad0 : Nat → Nat} (F : MF X (mdOf 118) (rmA 9 0 0) p s m args meth c A) :
    ∀ (k i : Nat) (a b q : Int32), i + k = 600 → AW X l (mdOf 118) (rmA 9 0 0) p e s m args below meth c A (MQ below (QQ X n0 ad0 A (fun r w' => r = some (.int (-2)) ∧ w'.length = 6)) args s 0 0 A) n0 ad0 10 [(3, .int (nI (i + 1))), (0, .ref 0), (1, .ref 5), (2, .ref 3)] [] (wT (nI i) (-2) (-2) 0 0 (-1) a b q) 0 0 := by
  intro k
  induction k with
  | zero =>
    intro i a b q hi
    have hi : i = 600 := by omega
    subst hi
    repeat' (first
      | exact aw_iret F rfl rfl rfl ⟨Nat.le_of_ble_eq_true rfl, Nat.le_of_ble_eq_true rfl⟩ ⟨rfl, rfl⟩
      | refine aw_u F rfl rfl ⟨Nat.le_of_ble_eq_true rfl, Nat.le_of_ble_eq_true rfl⟩ ?_)
  | succ k ih =>
    intro i a b q hi
    refine aw_u F rfl rfl ⟨Nat.le_of_ble_eq_true rfl, Nat.le_of_ble_eq_true rfl⟩ ?_
    refine aw_u F rfl rfl ⟨Nat.le_of_ble_eq_true rfl, Nat.le_of_ble_eq_true rfl⟩ ?_
    refine aw_ic F rfl (of_decide_eq_true rfl) (fun hc => ?_) (fun hc => ?_)
    · have h1 : nI 600 < nI (i + 1) := of_decide_eq_true hc
      exact absurd ((nI_ltI (by omega) (by omega)).mp h1) (by omega)
    refine aw_u F rfl rfl ⟨Nat.le_of_ble_eq_true rfl, Nat.le_of_ble_eq_true rfl⟩ ?_
    refine aw_u F rfl rfl ⟨Nat.le_of_ble_eq_true rfl, Nat.le_of_ble_eq_true rfl⟩ ?_
    refine aw_u F rfl rfl ⟨Nat.le_of_ble_eq_true rfl, Nat.le_of_ble_eq_true rfl⟩ ?_
    refine aw_u F rfl rfl ⟨Nat.le_of_ble_eq_true rfl, Nat.le_of_ble_eq_true rfl⟩ ?_
    refine aw_ic F rfl (of_decide_eq_true rfl) (fun hc => ?_) (fun hc => ?_)
    · have h1 : nI 600 ≤ nI i := of_decide_eq_true hc
      exact absurd ((nI_leI (by omega) (by omega)).mp h1) (by omega)
    refine aw_u F rfl rfl ⟨Nat.le_of_ble_eq_true rfl, Nat.le_of_ble_eq_true rfl⟩ ?_
    refine aw_u F rfl rfl ⟨Nat.le_of_ble_eq_true rfl, Nat.le_of_ble_eq_true rfl⟩ ?_
    refine aw_u F rfl rfl ⟨Nat.le_of_ble_eq_true rfl, Nat.le_of_ble_eq_true rfl⟩ ?_
    refine aw_u F rfl rfl ⟨Nat.le_of_ble_eq_true rfl, Nat.le_of_ble_eq_true rfl⟩ ?_
    refine aw_V2F (ix := [1, 2, 5]) F rfl rfl ⟨Nat.le_of_ble_eq_true rfl, Nat.le_of_ble_eq_true rfl⟩ ⟨Nat.le_of_ble_eq_true rfl, Nat.le_of_ble_eq_true rfl⟩ (hS_pass X l (h := i) (N := 1) hvS 0 a b q (by omega)) (emb_of rfl rfl rfl) rfl (fun r w' hq => ?_)
    obtain ⟨rfl, a', b', q', rfl, hq⟩ := hq
    refine ⟨rfl, ?_⟩
    refine aw_eq rfl rfl rfl (show _ = wT (nI (i + 1)) (-2) (-2) 0 0 (-1) a' b' q' from rfl) rfl rfl ?_
    have ih' := ih (i + 1) a' b' q' (by omega)
    have e1 : nI (i + 1) + Int32.ofInt 1 = nI (i + 1 + 1) := nI_1 (i + 1)
    rw [← e1] at ih'
    repeat' (first
      | exact aw_eq rfl rfl rfl rfl rfl rfl ih'
      | refine aw_u F rfl rfl ⟨Nat.le_of_ble_eq_true rfl, Nat.le_of_ble_eq_true rfl⟩ ?_)
set_option maxHeartbeats 4000000 in
set_option maxRecDepth 100000 in
theorem hT_ends (X : CX) (l : Launch) (t0 t1 t2 t3 t4 t5 a b q : Int32) : AMet X l (mdOf 118) 9 0 0 [.ref 0, .ref 5, .ref 3] (wT t0 t1 t2 t3 t4 t5 a b q) (fun r w' => r = some (.int (-2)) ∧ w'.length = 6) := by
  refine amet_of (allOk _) (by decide) (Nat.le_of_ble_eq_true rfl) (fun p e s m vs below meth c A ad F => ?_)
  refine aw_u F rfl rfl ⟨Nat.le_of_ble_eq_true rfl, Nat.le_of_ble_eq_true rfl⟩ ?_
  refine aw_u F rfl rfl ⟨Nat.le_of_ble_eq_true rfl, Nat.le_of_ble_eq_true rfl⟩ ?_
  refine aw_u F rfl rfl ⟨Nat.le_of_ble_eq_true rfl, Nat.le_of_ble_eq_true rfl⟩ ?_
  refine aw_V1F (ix := [1, 2, 3, 4]) F rfl rfl ⟨Nat.le_of_ble_eq_true rfl, Nat.le_of_ble_eq_true rfl⟩ ⟨Nat.le_of_ble_eq_true rfl, Nat.le_of_ble_eq_true rfl⟩ (hS_copy X l t0 t1 t2 t3 t4 t5 a b q) (emb_of rfl rfl rfl) rfl (fun r w' hq => ?_)
  obtain ⟨rfl, rfl⟩ := hq
  refine ⟨rfl, ?_⟩
  refine aw_eq rfl rfl rfl (show _ = wT 0 (-2) (-2) 0 0 (-1) a b q from rfl) rfl rfl ?_
  refine aw_u F rfl rfl ⟨Nat.le_of_ble_eq_true rfl, Nat.le_of_ble_eq_true rfl⟩ ?_
  refine aw_u F rfl rfl ⟨Nat.le_of_ble_eq_true rfl, Nat.le_of_ble_eq_true rfl⟩ ?_
  exact lp_ends X l F 600 0 a b q rfl
set_option maxHeartbeats 4000000 in
set_option maxRecDepth 100000 in
theorem lp_mean (X : CX) (l : Launch) {p : Program} {e : Env} {s : State} {m : MethodId} {args : Array Value} {below : List Frame} {meth : Method} {c : Code} {A : Nat → Prop} {n0 : Nat} {ad0 : Nat → Nat} {S N : Nat} (hS : S ≤ 10) (hN : 0 + N ≤ 600) (F : MF X (mdOf 131) (rmA 9 0 0) p s m args meth c A) :
    ∀ (k i : Nat) (t0 t1 t2 t3 t4 t5 a b q : Int32), i + k = S → AW X l (mdOf 131) (rmA 9 0 0) p e s m args below meth c A (MQ below (QQ X n0 ad0 A (fun r w' => r = some (.int 0) ∧ w'.length = 6)) args s 0 0 A) n0 ad0 6 [(6, .int (nI i)), (5, .int 0), (0, .ref 0), (1, .ref 5), (2, .ref 3), (3, .int (nI S)), (4, .int (nI N))] [] (wT t0 t1 t2 t3 t4 t5 a b q) 0 0 := by
  intro k
  induction k with
  | zero =>
    intro i t0 t1 t2 t3 t4 t5 a b q hi
    have hi : i = S := by omega
    subst hi
    refine aw_u F rfl rfl ⟨Nat.le_of_ble_eq_true rfl, Nat.le_of_ble_eq_true rfl⟩ ?_
    refine aw_u F rfl rfl ⟨Nat.le_of_ble_eq_true rfl, Nat.le_of_ble_eq_true rfl⟩ ?_
    refine aw_ic F rfl (of_decide_eq_true rfl) (fun hc => ?_) (fun hc => ?_)
    · repeat' (first
        | exact aw_iret F rfl rfl rfl ⟨Nat.le_of_ble_eq_true rfl, Nat.le_of_ble_eq_true rfl⟩ ⟨rfl, rfl⟩
        | refine aw_u F rfl rfl ⟨Nat.le_of_ble_eq_true rfl, Nat.le_of_ble_eq_true rfl⟩ ?_)
    · exact absurd hc (by simp [cmpB])
  | succ k ih =>
    intro i t0 t1 t2 t3 t4 t5 a b q hi
    refine aw_u F rfl rfl ⟨Nat.le_of_ble_eq_true rfl, Nat.le_of_ble_eq_true rfl⟩ ?_
    refine aw_u F rfl rfl ⟨Nat.le_of_ble_eq_true rfl, Nat.le_of_ble_eq_true rfl⟩ ?_
    refine aw_ic F rfl (of_decide_eq_true rfl) (fun hc => ?_) (fun hc => ?_)
    · have h1 : nI S ≤ nI i := of_decide_eq_true hc
      exact absurd ((nI_leI (by omega) (by omega)).mp h1) (by omega)
    refine aw_u F rfl rfl ⟨Nat.le_of_ble_eq_true rfl, Nat.le_of_ble_eq_true rfl⟩ ?_
    refine aw_u F rfl rfl ⟨Nat.le_of_ble_eq_true rfl, Nat.le_of_ble_eq_true rfl⟩ ?_
    refine aw_u F rfl rfl ⟨Nat.le_of_ble_eq_true rfl, Nat.le_of_ble_eq_true rfl⟩ ?_
    refine aw_V1F (ix := [1, 2, 3, 4]) F rfl rfl ⟨Nat.le_of_ble_eq_true rfl, Nat.le_of_ble_eq_true rfl⟩ ⟨Nat.le_of_ble_eq_true rfl, Nat.le_of_ble_eq_true rfl⟩ (hS_copy X l t0 t1 t2 t3 t4 t5 a b q) (emb_of rfl rfl rfl) rfl (fun r w' hq => ?_)
    obtain ⟨rfl, rfl⟩ := hq
    refine ⟨rfl, ?_⟩
    refine aw_eq rfl rfl rfl (show _ = wT 0 (-2) (-2) 0 0 (-1) a b q from rfl) rfl rfl ?_
    refine aw_u F rfl rfl ⟨Nat.le_of_ble_eq_true rfl, Nat.le_of_ble_eq_true rfl⟩ ?_
    refine aw_u F rfl rfl ⟨Nat.le_of_ble_eq_true rfl, Nat.le_of_ble_eq_true rfl⟩ ?_
    refine aw_u F rfl rfl ⟨Nat.le_of_ble_eq_true rfl, Nat.le_of_ble_eq_true rfl⟩ ?_
    refine aw_u F rfl rfl ⟨Nat.le_of_ble_eq_true rfl, Nat.le_of_ble_eq_true rfl⟩ ?_
    refine aw_u F rfl rfl ⟨Nat.le_of_ble_eq_true rfl, Nat.le_of_ble_eq_true rfl⟩ ?_
    refine aw_u F rfl rfl ⟨Nat.le_of_ble_eq_true rfl, Nat.le_of_ble_eq_true rfl⟩ ?_
    refine aw_pi F rfl rfl rfl rfl rfl ⟨Nat.le_of_ble_eq_true rfl, Nat.le_of_ble_eq_true rfl⟩ ?_
    refine aw_eq rfl rfl rfl (show _ = wT 0 (-2) (-2) 0 (0 + nI i) (-1) a b q from rfl) rfl rfl ?_
    refine aw_u F rfl rfl ⟨Nat.le_of_ble_eq_true rfl, Nat.le_of_ble_eq_true rfl⟩ ?_
    refine aw_u F rfl rfl ⟨Nat.le_of_ble_eq_true rfl, Nat.le_of_ble_eq_true rfl⟩ ?_
    refine aw_u F rfl rfl ⟨Nat.le_of_ble_eq_true rfl, Nat.le_of_ble_eq_true rfl⟩ ?_
    refine aw_u F rfl rfl ⟨Nat.le_of_ble_eq_true rfl, Nat.le_of_ble_eq_true rfl⟩ ?_
    refine aw_V2F (ix := [1, 2, 5]) F rfl rfl ⟨Nat.le_of_ble_eq_true rfl, Nat.le_of_ble_eq_true rfl⟩ ⟨Nat.le_of_ble_eq_true rfl, Nat.le_of_ble_eq_true rfl⟩ (hS_pass X l (h := 0) (N := N) hvS (0 + nI i) a b q hN) (emb_of rfl rfl rfl) rfl (fun r w' hq => ?_)
    obtain ⟨rfl, a', b', q', rfl, hq⟩ := hq
    refine ⟨rfl, ?_⟩
    refine aw_eq rfl rfl rfl (show _ = wT (nI (0 + N)) (-2) (-2) 0 (0 + nI i) (-1) a' b' q' from rfl) rfl rfl ?_
    have ih' := ih (i + 1) (nI (0 + N)) (-2) (-2) 0 (0 + nI i) (-1) a' b' q' (by omega)
    have e1 : nI i + Int32.ofInt 1 = nI (i + 1) := nI_1 i
    rw [← e1] at ih'
    repeat' (first
      | exact aw_eq rfl rfl rfl rfl rfl rfl ih'
      | refine aw_u F rfl rfl ⟨Nat.le_of_ble_eq_true rfl, Nat.le_of_ble_eq_true rfl⟩ ?_)
set_option maxHeartbeats 4000000 in
set_option maxRecDepth 100000 in
theorem hT_mean (X : CX) (l : Launch) (t0 t1 t2 t3 t4 t5 a b q : Int32) {S N : Nat} (hS : S ≤ 10) (hN : 0 + N ≤ 600) : AMet X l (mdOf 131) 9 0 0 [.ref 0, .ref 5, .ref 3, .int (nI S), .int (nI N)] (wT t0 t1 t2 t3 t4 t5 a b q) (fun r w' => r = some (.int 0) ∧ w'.length = 6) := by
  refine amet_of (allOk _) (by decide) (Nat.le_of_ble_eq_true rfl) (fun p e s m vs below meth c A ad F => ?_)
  refine aw_u F rfl rfl ⟨Nat.le_of_ble_eq_true rfl, Nat.le_of_ble_eq_true rfl⟩ ?_
  refine aw_u F rfl rfl ⟨Nat.le_of_ble_eq_true rfl, Nat.le_of_ble_eq_true rfl⟩ ?_
  refine aw_u F rfl rfl ⟨Nat.le_of_ble_eq_true rfl, Nat.le_of_ble_eq_true rfl⟩ ?_
  refine aw_u F rfl rfl ⟨Nat.le_of_ble_eq_true rfl, Nat.le_of_ble_eq_true rfl⟩ ?_
  exact lp_mean X l hS hN F S 0 t0 t1 t2 t3 t4 t5 a b q (by omega)
