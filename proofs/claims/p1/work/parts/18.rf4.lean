set_option maxHeartbeats 1000000 in
set_option maxRecDepth 100000 in
theorem lp_hoursM (X : CX) (l : Launch) {p : Program} {e : Env} {s : State} {m : MethodId} {args : Array Value} {below : List Frame} {meth : Method} {c : Code} {A : Nat → Prop} {n0 : Nat} {ad0 : Nat → Nat} {ht : List Int32} (hh : ht.length = 2880) {N : Nat} (hN : N ≤ 600) (F : MF X (mdOf 252) (rmA 11 0 0) p s m args meth c A) :
    ∀ (k i : Nat) (wl sl : Int32) (wp sp : List Int32), i + k = N → wp.length = 600 → sp.length = 600 → AW X l (mdOf 252) (rmA 11 0 0) p e s m args below meth c A (MQ below (QQ X n0 ad0 A (fun r w' => r = some (.int (nI N)) ∧ w'.length = 8)) args s 0 0 A) n0 ad0 44 [(2, .int (nI i)), (0, .ref 0), (1, .int (nI N))] [] (wR 0 wl sl 0 (fr (nI i)) (fr 0) wp sp ht) 0 0 := by
  intro k
  induction k with
  | zero =>
    intro i wl sl wp sp hi hw1 hw2
    have hi : i = N := by omega
    subst hi
    refine aw_u F rfl rfl ⟨Nat.le_of_ble_eq_true rfl, Nat.le_of_ble_eq_true rfl⟩ ?_
    refine aw_u F rfl rfl ⟨Nat.le_of_ble_eq_true rfl, Nat.le_of_ble_eq_true rfl⟩ ?_
    refine aw_ic F rfl (of_decide_eq_true rfl) (fun hc => ?_) (fun hc => ?_)
    · refine aw_u F rfl rfl ⟨Nat.le_of_ble_eq_true rfl, Nat.le_of_ble_eq_true rfl⟩ ?_
      refine aw_V0 F rfl rfl ⟨Nat.le_of_ble_eq_true rfl, Nat.le_of_ble_eq_true rfl⟩ ⟨Nat.le_of_ble_eq_true rfl, Nat.le_of_ble_eq_true rfl⟩ (hR_keeps X l 0 wl sl (fr (nI i)) (fr 0) wp sp ht (fr_len _) (fr_len _) hh) (fun r w' hq => ?_)
      obtain ⟨rfl, ht', rfl⟩ := hq
      refine ⟨rfl, ?_⟩
      refine aw_u F rfl rfl ⟨Nat.le_of_ble_eq_true rfl, Nat.le_of_ble_eq_true rfl⟩ ?_
      refine aw_u F rfl rfl ⟨Nat.le_of_ble_eq_true rfl, Nat.le_of_ble_eq_true rfl⟩ ?_
      refine aw_u F rfl rfl ⟨Nat.le_of_ble_eq_true rfl, Nat.le_of_ble_eq_true rfl⟩ ?_
      refine aw_u F rfl rfl ⟨Nat.le_of_ble_eq_true rfl, Nat.le_of_ble_eq_true rfl⟩ ?_
      exact aw_iret F rfl rfl rfl ⟨Nat.le_of_ble_eq_true rfl, Nat.le_of_ble_eq_true rfl⟩ ⟨rfl, rfl⟩
    · exact absurd hc (by simp [cmpB])
  | succ k ih =>
    intro i wl sl wp sp hi hw1 hw2
    have h2 : i < 2 ^ 31 := by omega
    refine aw_u F rfl rfl ⟨Nat.le_of_ble_eq_true rfl, Nat.le_of_ble_eq_true rfl⟩ ?_
    refine aw_u F rfl rfl ⟨Nat.le_of_ble_eq_true rfl, Nat.le_of_ble_eq_true rfl⟩ ?_
    refine aw_ic F rfl (of_decide_eq_true rfl) (fun hc => ?_) (fun hc => ?_)
    · have h1 : nI N ≤ nI i := of_decide_eq_true hc
      exact absurd ((nI_leI (by omega) (by omega)).mp h1) (by omega)
    refine aw_u F rfl rfl ⟨Nat.le_of_ble_eq_true rfl, Nat.le_of_ble_eq_true rfl⟩ ?_
    refine aw_V0 F rfl rfl ⟨Nat.le_of_ble_eq_true rfl, Nat.le_of_ble_eq_true rfl⟩ ⟨Nat.le_of_ble_eq_true rfl, Nat.le_of_ble_eq_true rfl⟩ (hR_hourGoes X l _ _ _ _ _ _ _ _ _) (fun r w' hq => ?_)
    obtain ⟨rfl, rfl⟩ := hq
    refine ⟨rfl, ?_⟩
    have e2 : nI i + 1 = nI (i + 1) := nI_1 i
    rw [e2]
    have e3 : (nI (i + 1) - Int32.ofInt 1 : Int32) = nI i := nI_pred i
    refine aw_u F rfl rfl ⟨Nat.le_of_ble_eq_true rfl, Nat.le_of_ble_eq_true rfl⟩ ?_
    refine aw_u F rfl rfl ⟨Nat.le_of_ble_eq_true rfl, Nat.le_of_ble_eq_true rfl⟩ ?_
    refine aw_u F rfl rfl ⟨Nat.le_of_ble_eq_true rfl, Nat.le_of_ble_eq_true rfl⟩ ?_
    refine aw_u F rfl rfl ⟨Nat.le_of_ble_eq_true rfl, Nat.le_of_ble_eq_true rfl⟩ ?_
    refine aw_u F rfl rfl ⟨Nat.le_of_ble_eq_true rfl, Nat.le_of_ble_eq_true rfl⟩ ?_
    refine aw_u F rfl rfl ⟨Nat.le_of_ble_eq_true rfl, Nat.le_of_ble_eq_true rfl⟩ ?_
    refine aw_u F rfl rfl ⟨Nat.le_of_ble_eq_true rfl, Nat.le_of_ble_eq_true rfl⟩ ?_
    refine aw_u F rfl rfl ⟨Nat.le_of_ble_eq_true rfl, Nat.le_of_ble_eq_true rfl⟩ ?_
    refine aw_u F rfl rfl ⟨Nat.le_of_ble_eq_true rfl, Nat.le_of_ble_eq_true rfl⟩ ?_
    refine aw_u F rfl rfl ⟨Nat.le_of_ble_eq_true rfl, Nat.le_of_ble_eq_true rfl⟩ ?_
    refine aw_as F rfl rfl (show inR (nI (i + 1) - Int32.ofInt 1) wp.length = true by rw [e3, inR_iff, nI_toInt h2, hw1]; omega) ⟨Nat.le_of_ble_eq_true rfl, Nat.le_of_ble_eq_true rfl⟩ ?_
    refine aw_u F rfl rfl ⟨Nat.le_of_ble_eq_true rfl, Nat.le_of_ble_eq_true rfl⟩ ?_
    refine aw_u F rfl rfl ⟨Nat.le_of_ble_eq_true rfl, Nat.le_of_ble_eq_true rfl⟩ ?_
    refine aw_u F rfl rfl ⟨Nat.le_of_ble_eq_true rfl, Nat.le_of_ble_eq_true rfl⟩ ?_
    refine aw_u F rfl rfl ⟨Nat.le_of_ble_eq_true rfl, Nat.le_of_ble_eq_true rfl⟩ ?_
    refine aw_u F rfl rfl ⟨Nat.le_of_ble_eq_true rfl, Nat.le_of_ble_eq_true rfl⟩ ?_
    refine aw_u F rfl rfl ⟨Nat.le_of_ble_eq_true rfl, Nat.le_of_ble_eq_true rfl⟩ ?_
    refine aw_u F rfl rfl ⟨Nat.le_of_ble_eq_true rfl, Nat.le_of_ble_eq_true rfl⟩ ?_
    refine aw_u F rfl rfl ⟨Nat.le_of_ble_eq_true rfl, Nat.le_of_ble_eq_true rfl⟩ ?_
    refine aw_u F rfl rfl ⟨Nat.le_of_ble_eq_true rfl, Nat.le_of_ble_eq_true rfl⟩ ?_
    refine aw_u F rfl rfl ⟨Nat.le_of_ble_eq_true rfl, Nat.le_of_ble_eq_true rfl⟩ ?_
    refine aw_as F rfl rfl (show inR (nI (i + 1) - Int32.ofInt 1) sp.length = true by rw [e3, inR_iff, nI_toInt h2, hw2]; omega) ⟨Nat.le_of_ble_eq_true rfl, Nat.le_of_ble_eq_true rfl⟩ ?_
    have e1 : nI i + Int32.ofInt 1 = nI (i + 1) := nI_1 i
    refine aw_u F rfl rfl ⟨Nat.le_of_ble_eq_true rfl, Nat.le_of_ble_eq_true rfl⟩ ?_
    refine aw_u F rfl rfl ⟨Nat.le_of_ble_eq_true rfl, Nat.le_of_ble_eq_true rfl⟩ ?_
    exact aw_eq (lv' := [(2, .int (nI (i + 1))), (0, .ref 0), (1, .int (nI N))]) (w' := wR 0 (-2) (-2) 0 (fr (nI (i + 1))) (fr 0) _ _ ht) rfl (by rw [← e1]; rfl) rfl rfl rfl rfl (ih (i + 1) (-2) (-2) _ _ (by omega) (by rw [List.length_set]; exact hw1) (by rw [List.length_set]; exact hw2))
set_option maxHeartbeats 1000000 in
set_option maxRecDepth 100000 in
theorem gM_hours_in (X : CX) (l : Launch) {wp sp ht : List Int32} (hw1 : wp.length = 600) (hw2 : sp.length = 600) (hh : ht.length = 2880) {N : Nat} (h1 : 1 ≤ N) (hN : N ≤ 600) : AMet X l (mdOf 252) 11 0 0 [.ref 0, .int (nI N)] (wR0 wp sp ht) (fun r w' => r = some (.int (nI N)) ∧ w'.length = 8) := by
  refine amet_of (allOk _) (by decide) (Nat.le_of_ble_eq_true rfl) (fun p e s m vs below meth c A ad F => ?_)
  refine aw_u F rfl rfl ⟨Nat.le_of_ble_eq_true rfl, Nat.le_of_ble_eq_true rfl⟩ ?_
  refine aw_u F rfl rfl ⟨Nat.le_of_ble_eq_true rfl, Nat.le_of_ble_eq_true rfl⟩ ?_
  refine aw_u F rfl rfl ⟨Nat.le_of_ble_eq_true rfl, Nat.le_of_ble_eq_true rfl⟩ ?_
  refine aw_S3p F rfl rfl ⟨Nat.le_of_ble_eq_true rfl, Nat.le_of_ble_eq_true rfl⟩ ⟨Nat.le_of_ble_eq_true rfl, Nat.le_of_ble_eq_true rfl⟩ (hI_in_yes X l _ (nI N) 0 600 (by have e1 : (0 : Int32).toInt = 0 := rfl; have e2 : (600 : Int32).toInt = 600 := rfl; have e3 : (nI N).toInt = N := nI_toInt (by omega); omega)) ?_
  refine aw_u F rfl rfl ⟨Nat.le_of_ble_eq_true rfl, Nat.le_of_ble_eq_true rfl⟩ ?_
  refine aw_u F rfl rfl ⟨Nat.le_of_ble_eq_true rfl, Nat.le_of_ble_eq_true rfl⟩ ?_
  refine aw_u F rfl rfl ⟨Nat.le_of_ble_eq_true rfl, Nat.le_of_ble_eq_true rfl⟩ ?_
  refine aw_u F rfl rfl ⟨Nat.le_of_ble_eq_true rfl, Nat.le_of_ble_eq_true rfl⟩ ?_
  refine aw_u F rfl rfl ⟨Nat.le_of_ble_eq_true rfl, Nat.le_of_ble_eq_true rfl⟩ ?_
  refine aw_u F rfl rfl ⟨Nat.le_of_ble_eq_true rfl, Nat.le_of_ble_eq_true rfl⟩ ?_
  refine aw_u F rfl rfl ⟨Nat.le_of_ble_eq_true rfl, Nat.le_of_ble_eq_true rfl⟩ ?_
  refine aw_u F rfl rfl ⟨Nat.le_of_ble_eq_true rfl, Nat.le_of_ble_eq_true rfl⟩ ?_
  refine aw_ic F rfl (of_decide_eq_true rfl) (fun _ => ?_) (fun hc => ?_)
  rotate_left
  · have h4 : ¬ nI 0 + nI N ≤ nI 600 := of_decide_eq_false hc
    rw [nI_add, Nat.zero_add] at h4
    exact absurd (nI_le hN (by omega)) h4
  refine aw_u F rfl rfl ⟨Nat.le_of_ble_eq_true rfl, Nat.le_of_ble_eq_true rfl⟩ ?_
  refine aw_if F rfl (of_decide_eq_true rfl) (fun _ => ?_) (fun hc => ?_)
  rotate_left
  · have h4 : nI N = nI 0 := by
      have h5 : nI N = 0 := by simpa [cmpB] using hc
      rw [h5]; rfl
    exact absurd ((nI_eq (by omega) (by omega)).mp h4) (by omega)
  refine aw_u F rfl rfl ⟨Nat.le_of_ble_eq_true rfl, Nat.le_of_ble_eq_true rfl⟩ ?_
  refine aw_V0 F rfl rfl ⟨Nat.le_of_ble_eq_true rfl, Nat.le_of_ble_eq_true rfl⟩ ⟨Nat.le_of_ble_eq_true rfl, Nat.le_of_ble_eq_true rfl⟩ (hR_copies X l 0 0 0 0 (fr 0) (fr 0) wp sp ht (fr_len 0) (fr_len 0)) (fun r w' hq => ?_)
  obtain ⟨rfl, rfl⟩ := hq
  refine ⟨rfl, ?_⟩
  refine aw_u F rfl rfl ⟨Nat.le_of_ble_eq_true rfl, Nat.le_of_ble_eq_true rfl⟩ ?_
  refine aw_u F rfl rfl ⟨Nat.le_of_ble_eq_true rfl, Nat.le_of_ble_eq_true rfl⟩ ?_
  exact lp_hoursM X l hh hN F N 0 0 0 wp sp (by omega) hw1 hw2
