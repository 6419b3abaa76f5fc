def wHs : List AE := [.inr (.inr (.inr (11, [.ref 11, .ref 3, .ref 1, .ref 4, .ref 6, .ref 127, .ref 131, .ref 136, .ref 154]))), .inr (.inr (.inr (6, [.int 0, .int (-2), .int (-2), .int 0, .int 0, .int (-1), .int 0, .int 0, .int 0, .ref 2]))), .inl (0, List.replicate 102 0), .inr (.inr (.inr (0, [.int 0, .int 0, .int 0, .int (-2), .int 0, .int 0, .ref 34, .ref 35, .ref 36, .ref 37, .ref 38, .ref 39, .ref 40, .ref 41, .ref 42]))), .inr (.inr (.inr (3, [.ref 5]))), .inl (1, List.replicate 600 0), .inr (.inr (.inr (4, [.ref 7, .int 0, .int 0, .ref 52, .ref 53, .ref 54]))), .inr (.inr (.inl (0, [some 8, some 57, some 59, some 61, some 63, some 65, some 67, some 69, some 71, some 73, some 75, some 77, some 79, some 81, some 83, some 85, some 87, some 89, some 91, some 93, some 95, some 97, some 99, some 101, some 103, some 105, some 107, some 109, some 111, some 113]))), .inr (.inr (.inr (6, [.int 0, .int 0, .int 0, .int 0, .int 0, .int 0, .int 0, .int 0, .int 0, .ref 9]))), .inl (0, List.replicate 102 0)]
def wHk : List AE := [.inr (.inr (.inr (11, [.ref 11, .ref 3, .ref 1, .ref 4, .ref 6, .ref 127, .ref 131, .ref 136, .ref 154]))), .inr (.inr (.inr (6, [.int 0, .int (-2), .int (-2), .int 0, .int 0, .int (-1), .int 0, .int 0, .int 0, .ref 2]))), .inl (0, List.replicate 102 0), .inr (.inr (.inr (0, [.int 0, .int 0, .int 0, .int (-2), .int 0, .int 0, .ref 34, .ref 35, .ref 36, .ref 37, .ref 38, .ref 39, .ref 40, .ref 41, .ref 42]))), .inr (.inr (.inr (3, [.ref 5]))), .inl (1, List.replicate 600 0), .inr (.inr (.inr (4, [.ref 7, .int 1, .int 1, .ref 52, .ref 53, .ref 54]))), .inr (.inr (.inl (0, [some 8, some 57, some 59, some 61, some 63, some 65, some 67, some 69, some 71, some 73, some 75, some 77, some 79, some 81, some 83, some 85, some 87, some 89, some 91, some 93, some 95, some 97, some 99, some 101, some 103, some 105, some 107, some 109, some 111, some 113]))), .inr (.inr (.inr (6, [.int 0, .int (-2), .int (-2), .int 0, .int 0, .int (-1), .int 0, .int 0, .int 0, .ref 9]))), .inl (0, List.replicate 102 0)]
theorem t_keep : evalM 2000 9 46 [.ref 6, .ref 1] wHs = some (none, wHk, 0, 0) := rsB_eq (by decide +kernel)
theorem wHk_len : wHk.length = wHs.length := by decide +kernel
def wL : List AE := [.inr (.inr (.inr (3, [.ref 1]))), .inl (1, List.replicate 600 0)]
set_option maxHeartbeats 1000000 in
set_option maxRecDepth 100000 in
theorem hL_write (X : CX) (l : Launch) {i : Nat} (hi : i < 600) : AMet X l (mdOf 34) 4 0 0 [.ref 0, .int (nI i), .int (-2), .int (-2)] wL (fun r w' => r = none ∧ w' = wL) := by
  refine amet_of (allOk _) (by decide) (Nat.le_of_ble_eq_true rfl) (fun p e s m vs below meth c A ad F => ?_)
  refine aw_u F rfl rfl ⟨Nat.le_of_ble_eq_true rfl, Nat.le_of_ble_eq_true rfl⟩ ?_
  refine aw_if F rfl (of_decide_eq_true rfl) (fun hc => ?_) (fun _ => ?_)
  · exact absurd hc (by rw [nI_neg0 (by omega)]; decide)
  refine aw_u F rfl rfl ⟨Nat.le_of_ble_eq_true rfl, Nat.le_of_ble_eq_true rfl⟩ ?_
  refine aw_u F rfl rfl ⟨Nat.le_of_ble_eq_true rfl, Nat.le_of_ble_eq_true rfl⟩ ?_
  refine aw_ic F rfl (of_decide_eq_true rfl) (fun hc => ?_) (fun _ => ?_)
  · have h1 : nI 600 ≤ nI i := of_decide_eq_true hc
    exact absurd ((nI_leI (by omega) (by omega)).mp h1) (by omega)
  refine aw_u F rfl rfl ⟨Nat.le_of_ble_eq_true rfl, Nat.le_of_ble_eq_true rfl⟩ ?_
  refine aw_u F rfl rfl ⟨Nat.le_of_ble_eq_true rfl, Nat.le_of_ble_eq_true rfl⟩ ?_
  refine aw_u F rfl rfl ⟨Nat.le_of_ble_eq_true rfl, Nat.le_of_ble_eq_true rfl⟩ ?_
  refine aw_u F rfl rfl ⟨Nat.le_of_ble_eq_true rfl, Nat.le_of_ble_eq_true rfl⟩ ?_
  refine aw_u F rfl rfl ⟨Nat.le_of_ble_eq_true rfl, Nat.le_of_ble_eq_true rfl⟩ ?_
  refine aw_u F rfl rfl ⟨Nat.le_of_ble_eq_true rfl, Nat.le_of_ble_eq_true rfl⟩ ?_
  refine aw_u F rfl rfl ⟨Nat.le_of_ble_eq_true rfl, Nat.le_of_ble_eq_true rfl⟩ ?_
  refine aw_u F rfl rfl ⟨Nat.le_of_ble_eq_true rfl, Nat.le_of_ble_eq_true rfl⟩ ?_
  refine aw_u F rfl rfl ⟨Nat.le_of_ble_eq_true rfl, Nat.le_of_ble_eq_true rfl⟩ ?_
  refine aw_u F rfl rfl ⟨Nat.le_of_ble_eq_true rfl, Nat.le_of_ble_eq_true rfl⟩ ?_
  refine aw_u F rfl rfl ⟨Nat.le_of_ble_eq_true rfl, Nat.le_of_ble_eq_true rfl⟩ ?_
  refine aw_u F rfl rfl ⟨Nat.le_of_ble_eq_true rfl, Nat.le_of_ble_eq_true rfl⟩ ?_
  refine aw_u F rfl rfl ⟨Nat.le_of_ble_eq_true rfl, Nat.le_of_ble_eq_true rfl⟩ ?_
  refine aw_bs F rfl rfl (by rw [inR_iff, nI_toInt (by omega), List.length_replicate]; omega) ⟨Nat.le_of_ble_eq_true rfl, Nat.le_of_ble_eq_true rfl⟩ ?_
  exact aw_vret F rfl rfl ⟨Nat.le_of_ble_eq_true rfl, Nat.le_of_ble_eq_true rfl⟩ ⟨rfl, congrArg (fun z => ([.inr (.inr (.inr (3, [.ref 1]))), .inl (1, z)] : List AE)) (set_rep 0 600 _)⟩
def wH (h a b q : Int32) : List AE := [.inr (.inr (.inr (11, [.ref 11, .ref 3, .ref 1, .ref 4, .ref 6, .ref 127, .ref 131, .ref 136, .ref 154]))), .inr (.inr (.inr (6, [.int h, .int (-2), .int (-2), .int 0, .int 0, .int (-1), .int a, .int b, .int q, .ref 2]))), .inl (0, List.replicate 102 0), .inr (.inr (.inr (0, [.int 0, .int 0, .int 0, .int (-2), .int 0, .int 0, .ref 34, .ref 35, .ref 36, .ref 37, .ref 38, .ref 39, .ref 40, .ref 41, .ref 42]))), .inr (.inr (.inr (3, [.ref 5]))), .inl (1, List.replicate 600 0), .inr (.inr (.inr (4, [.ref 7, .int 1, .int 1, .ref 52, .ref 53, .ref 54]))), .inr (.inr (.inl (0, [some 8, some 57, some 59, some 61, some 63, some 65, some 67, some 69, some 71, some 73, some 75, some 77, some 79, some 81, some 83, some 85, some 87, some 89, some 91, some 93, some 95, some 97, some 99, some 101, some 103, some 105, some 107, some 109, some 111, some 113]))), .inr (.inr (.inr (6, [.int 0, .int (-2), .int (-2), .int 0, .int 0, .int (-1), .int 0, .int 0, .int 0, .ref 9]))), .inl (0, List.replicate 102 0)]
theorem wH_0 : wHk = wH (nI 0) 0 0 0 := leB_eq (by decide +kernel)
def hvH : List Value := [.ref 37, .ref 38, .ref 39, .ref 40, .ref 41, .ref 42, .ref 43, .ref 44, .ref 45]
set_option maxHeartbeats 1000000 in
set_option maxRecDepth 100000 in
theorem lp_hours (X : CX) (l : Launch) {p : Program} {e : Env} {s : State} {m : MethodId} {args : Array Value} {below : List Frame} {meth : Method} {c : Code} {A : Nat → Prop} {n0 : Nat} {ad0 : Nat → Nat} {N : Nat} (hN : N ≤ 600) (F : MF X (mdOf 152) (rmA 11 0 0) p s m args meth c A) :
    ∀ (k i : Nat) (a b q : Int32), i + k = N → AW X l (mdOf 152) (rmA 11 0 0) p e s m args below meth c A (MQ below (QQ X n0 ad0 A (fun r w' => r = some (.int (nI N)) ∧ w'.length = 10)) args s 0 0 A) n0 ad0 38 [(2, .int (nI i)), (0, .ref 0), (1, .int (nI N))] [] (wH (nI i) a b q) 0 0 := by
  intro k
  induction k with
  | zero =>
    intro i a b q hi
    have hi : i = N := by omega
    subst hi
    refine aw_u F rfl rfl ⟨Nat.le_of_ble_eq_true rfl, Nat.le_of_ble_eq_true rfl⟩ ?_
    refine aw_u F rfl rfl ⟨Nat.le_of_ble_eq_true rfl, Nat.le_of_ble_eq_true rfl⟩ ?_
    refine aw_ic F rfl (of_decide_eq_true rfl) (fun hc => ?_) (fun hc => ?_)
    · refine aw_u F rfl rfl ⟨Nat.le_of_ble_eq_true rfl, Nat.le_of_ble_eq_true rfl⟩ ?_
      refine aw_u F rfl rfl ⟨Nat.le_of_ble_eq_true rfl, Nat.le_of_ble_eq_true rfl⟩ ?_
      refine aw_u F rfl rfl ⟨Nat.le_of_ble_eq_true rfl, Nat.le_of_ble_eq_true rfl⟩ ?_
      exact aw_iret F rfl rfl rfl ⟨Nat.le_of_ble_eq_true rfl, Nat.le_of_ble_eq_true rfl⟩ ⟨rfl, rfl⟩
    · exact absurd hc (by simp [cmpB])
  | succ k ih =>
    intro i a b q hi
    refine aw_u F rfl rfl ⟨Nat.le_of_ble_eq_true rfl, Nat.le_of_ble_eq_true rfl⟩ ?_
    refine aw_u F rfl rfl ⟨Nat.le_of_ble_eq_true rfl, Nat.le_of_ble_eq_true rfl⟩ ?_
    refine aw_ic F rfl (of_decide_eq_true rfl) (fun hc => ?_) (fun hc => ?_)
    · have h1 : nI N ≤ nI i := of_decide_eq_true hc
      exact absurd ((nI_leI (by omega) (by omega)).mp h1) (by omega)
    refine aw_u F rfl rfl ⟨Nat.le_of_ble_eq_true rfl, Nat.le_of_ble_eq_true rfl⟩ ?_
    refine aw_u F rfl rfl ⟨Nat.le_of_ble_eq_true rfl, Nat.le_of_ble_eq_true rfl⟩ ?_
    refine aw_u F rfl rfl ⟨Nat.le_of_ble_eq_true rfl, Nat.le_of_ble_eq_true rfl⟩ ?_
    refine aw_u F rfl rfl ⟨Nat.le_of_ble_eq_true rfl, Nat.le_of_ble_eq_true rfl⟩ ?_
    refine aw_u F rfl rfl ⟨Nat.le_of_ble_eq_true rfl, Nat.le_of_ble_eq_true rfl⟩ ?_
    refine aw_u F rfl rfl ⟨Nat.le_of_ble_eq_true rfl, Nat.le_of_ble_eq_true rfl⟩ ?_
    refine aw_u F rfl rfl ⟨Nat.le_of_ble_eq_true rfl, Nat.le_of_ble_eq_true rfl⟩ ?_
    refine aw_u F rfl rfl ⟨Nat.le_of_ble_eq_true rfl, Nat.le_of_ble_eq_true rfl⟩ ?_
    refine aw_u F rfl rfl ⟨Nat.le_of_ble_eq_true rfl, Nat.le_of_ble_eq_true rfl⟩ ?_
    refine aw_V2F (ix := [1, 2, 3]) F rfl rfl ⟨Nat.le_of_ble_eq_true rfl, Nat.le_of_ble_eq_true rfl⟩ ⟨Nat.le_of_ble_eq_true rfl, Nat.le_of_ble_eq_true rfl⟩ (hS_pass X l (h := i) (N := 1) hvH 0 a b q (by omega)) (emb_of rfl rfl rfl) rfl (fun r w' hq => ?_)
    obtain ⟨rfl, a', b', q', rfl, hq⟩ := hq
    obtain ⟨rfl, rfl, rfl⟩ := hq (by omega)
    refine ⟨rfl, ?_⟩
    refine aw_eq rfl rfl rfl (show _ = wH (nI (i + 1)) (-2) (-2) 1 from rfl) rfl rfl ?_
    refine aw_u F rfl rfl ⟨Nat.le_of_ble_eq_true rfl, Nat.le_of_ble_eq_true rfl⟩ ?_
    refine aw_u F rfl rfl ⟨Nat.le_of_ble_eq_true rfl, Nat.le_of_ble_eq_true rfl⟩ ?_
    refine aw_u F rfl rfl ⟨Nat.le_of_ble_eq_true rfl, Nat.le_of_ble_eq_true rfl⟩ ?_
    refine aw_u F rfl rfl ⟨Nat.le_of_ble_eq_true rfl, Nat.le_of_ble_eq_true rfl⟩ ?_
    refine aw_u F rfl rfl ⟨Nat.le_of_ble_eq_true rfl, Nat.le_of_ble_eq_true rfl⟩ ?_
    refine aw_u F rfl rfl ⟨Nat.le_of_ble_eq_true rfl, Nat.le_of_ble_eq_true rfl⟩ ?_
    refine aw_u F rfl rfl ⟨Nat.le_of_ble_eq_true rfl, Nat.le_of_ble_eq_true rfl⟩ ?_
    refine aw_u F rfl rfl ⟨Nat.le_of_ble_eq_true rfl, Nat.le_of_ble_eq_true rfl⟩ ?_
    refine aw_u F rfl rfl ⟨Nat.le_of_ble_eq_true rfl, Nat.le_of_ble_eq_true rfl⟩ ?_
    refine aw_V3F (ix := [4, 5]) F rfl rfl ⟨Nat.le_of_ble_eq_true rfl, Nat.le_of_ble_eq_true rfl⟩ ⟨Nat.le_of_ble_eq_true rfl, Nat.le_of_ble_eq_true rfl⟩ (hL_write X l (i := i) (by omega)) (emb_of rfl rfl rfl) rfl (fun r w' hq => ?_)
    obtain ⟨rfl, rfl⟩ := hq
    refine ⟨rfl, ?_⟩
    refine aw_eq rfl rfl rfl (show _ = wH (nI (i + 1)) (-2) (-2) 1 from rfl) rfl rfl ?_
    have ih' := ih (i + 1) (-2) (-2) 1 (by omega)
    have e1 : nI i + Int32.ofInt 1 = nI (i + 1) := nI_1 i
    refine aw_u F rfl rfl ⟨Nat.le_of_ble_eq_true rfl, Nat.le_of_ble_eq_true rfl⟩ ?_
    refine aw_u F rfl rfl ⟨Nat.le_of_ble_eq_true rfl, Nat.le_of_ble_eq_true rfl⟩ ?_
    refine aw_eq (lv' := [(2, .int (nI (i + 1))), (3, .int (nI i)), (0, .ref 0), (1, .int (nI N))]) rfl (by rw [← e1]; rfl) rfl rfl rfl rfl ?_
    refine aw_lv (fun q hq => ?_) ih'
    simp only [List.mem_cons, List.not_mem_nil, or_false] at hq ⊢
    rcases hq with rfl | rfl | rfl <;> simp
