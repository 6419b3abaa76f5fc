def wQ (n : Int32) (ll : List Int32) : List AE := [.inr (.inr (.inr (12, [.int 0, .ref 1, .int n, .ref 4, .int 0, .ref 5, .ref 6, .ref 7, .ref 8, .ref 9, .int 0, .int 0, .int 0, .int 0, .int 0, .int 0, .int 0, .int (-1), .int 0, .int 0, .int 0, .ref 10, .ref 11, .ref 12, .ref 13, .ref 14, .ref 15, .ref 16, .ref 17, .ref 18, .ref 19, .ref 20, .ref 21, .ref 22, .ref 23, .ref 24, .ref 25, .ref 26, .int 0, .ref 27, .ref 28, .ref 29, .ref 30, .ref 31, .int 0, .ref 32, .ref 33, .ref 34, .int 0, .ref 35, .ref 36, .int 0, .ref 37, .ref 38, .ref 39, .ref 40, .int 0, .int (-1), .int 0, .int 0, .int 0, .ref 41, .ref 42, .int 0, .ref 43, .ref 44, .ref 45, .ref 46, .ref 47, .ref 48, .int 0, .ref 49, .ref 50, .ref 51, .ref 52, .ref 53]))), .inl (1, ll)]
set_option maxHeartbeats 1000000 in
set_option maxRecDepth 100000 in
theorem lp_put (X : CX) (l : Launch) {p : Program} {e : Env} {s : State} {m : MethodId} {args : Array Value} {below : List Frame} {meth : Method} {c : Code} {A : Nat → Prop} {n0 : Nat} {ad0 : Nat → Nat} (x sh : Int32) (hsh : cmpB .lt sh 0 = false) {n : Nat} (hn : n + 1 ≤ 2000) {ll : List Int32} (hll : ll.length = 2000) {Q : State → Prop} (F : MF X (mdOf 195) (rmA 5 0 0) p s m args meth c A)
    (hk : ∀ ll' : List Int32, ll'.length = 2000 → AW X l (mdOf 195) (rmA 5 0 0) p e s m args below meth c A Q n0 ad0 3 [(2, .int (sh + Int32.ofInt (-8))), (0, .ref 0), (1, .int x)] [] (wQ (nI (n + 1)) ll') 0 0) : AW X l (mdOf 195) (rmA 5 0 0) p e s m args below meth c A Q n0 ad0 3 [(2, .int sh), (0, .ref 0), (1, .int x)] [] (wQ (nI n) ll) 0 0 := by
  refine aw_u F rfl rfl ⟨Nat.le_of_ble_eq_true rfl, Nat.le_of_ble_eq_true rfl⟩ ?_
  refine aw_if F rfl (of_decide_eq_true rfl) (fun hc => ?_) (fun _ => ?_)
  · exact absurd hc (by rw [hsh]; decide)
  refine aw_u F rfl rfl ⟨Nat.le_of_ble_eq_true rfl, Nat.le_of_ble_eq_true rfl⟩ ?_
  refine aw_u F rfl rfl ⟨Nat.le_of_ble_eq_true rfl, Nat.le_of_ble_eq_true rfl⟩ ?_
  refine aw_u F rfl rfl ⟨Nat.le_of_ble_eq_true rfl, Nat.le_of_ble_eq_true rfl⟩ ?_
  refine aw_u F rfl rfl ⟨Nat.le_of_ble_eq_true rfl, Nat.le_of_ble_eq_true rfl⟩ ?_
  refine aw_u F rfl rfl ⟨Nat.le_of_ble_eq_true rfl, Nat.le_of_ble_eq_true rfl⟩ ?_
  refine aw_u F rfl rfl ⟨Nat.le_of_ble_eq_true rfl, Nat.le_of_ble_eq_true rfl⟩ ?_
  refine aw_u F rfl rfl ⟨Nat.le_of_ble_eq_true rfl, Nat.le_of_ble_eq_true rfl⟩ ?_
  refine aw_u F rfl rfl ⟨Nat.le_of_ble_eq_true rfl, Nat.le_of_ble_eq_true rfl⟩ ?_
  refine aw_bs F rfl rfl (by rw [inR_iff, nI_toInt (by omega), hll]; omega) ⟨Nat.le_of_ble_eq_true rfl, Nat.le_of_ble_eq_true rfl⟩ ?_
  refine aw_u F rfl rfl ⟨Nat.le_of_ble_eq_true rfl, Nat.le_of_ble_eq_true rfl⟩ ?_
  refine aw_u F rfl rfl ⟨Nat.le_of_ble_eq_true rfl, Nat.le_of_ble_eq_true rfl⟩ ?_
  refine aw_u F rfl rfl ⟨Nat.le_of_ble_eq_true rfl, Nat.le_of_ble_eq_true rfl⟩ ?_
  refine aw_u F rfl rfl ⟨Nat.le_of_ble_eq_true rfl, Nat.le_of_ble_eq_true rfl⟩ ?_
  refine aw_u F rfl rfl ⟨Nat.le_of_ble_eq_true rfl, Nat.le_of_ble_eq_true rfl⟩ ?_
  refine aw_pi F rfl rfl rfl rfl rfl ⟨Nat.le_of_ble_eq_true rfl, Nat.le_of_ble_eq_true rfl⟩ ?_
  refine aw_u F rfl rfl ⟨Nat.le_of_ble_eq_true rfl, Nat.le_of_ble_eq_true rfl⟩ ?_
  refine aw_u F rfl rfl ⟨Nat.le_of_ble_eq_true rfl, Nat.le_of_ble_eq_true rfl⟩ ?_
  have e1 : nI n + Int32.ofInt 1 = nI (n + 1) := nI_1 n
  refine aw_eq rfl rfl rfl (w' := wQ (nI (n + 1)) _) (by rw [← e1]; rfl) rfl rfl (hk _ (by rw [List.length_set]; exact hll))
set_option maxHeartbeats 1000000 in
set_option maxRecDepth 100000 in
theorem hQ_put (X : CX) (l : Launch) {n : Nat} (hn : n + 4 ≤ 2000) (x : Int32) {ll : List Int32} (hll : ll.length = 2000) : AMet X l (mdOf 195) 5 0 0 [.ref 0, .int x] (wQ (nI n) ll) (fun r w' => r = none ∧ ∃ ll', ll'.length = 2000 ∧ w' = wQ (nI (n + 4)) ll') := by
  refine amet_of (allOk _) (by decide) (Nat.le_of_ble_eq_true rfl) (fun p e s m vs below meth c A ad F => ?_)
  refine aw_u F rfl rfl ⟨Nat.le_of_ble_eq_true rfl, Nat.le_of_ble_eq_true rfl⟩ ?_
  refine aw_u F rfl rfl ⟨Nat.le_of_ble_eq_true rfl, Nat.le_of_ble_eq_true rfl⟩ ?_
  refine lp_put X l x _ rfl (by omega) hll F (fun l1 h1 => ?_)
  refine lp_put X l x _ rfl (by omega) h1 F (fun l2 h2 => ?_)
  refine lp_put X l x _ rfl (by omega) h2 F (fun l3 h3 => ?_)
  refine lp_put X l x _ rfl (by omega) h3 F (fun l4 h4 => ?_)
  refine aw_u F rfl rfl ⟨Nat.le_of_ble_eq_true rfl, Nat.le_of_ble_eq_true rfl⟩ ?_
  refine aw_u F rfl rfl ⟨Nat.le_of_ble_eq_true rfl, Nat.le_of_ble_eq_true rfl⟩ ?_
  exact aw_vret F rfl rfl ⟨Nat.le_of_ble_eq_true rfl, Nat.le_of_ble_eq_true rfl⟩ ⟨rfl, l4, h4, rfl⟩
set_option maxHeartbeats 1000000 in
set_option maxRecDepth 100000 in
theorem gM_feed (X : CX) (l : Launch) (x1 x2 x3 x4 x5 : Int32) {ll : List Int32} (hll : ll.length = 2000) : AMet X l (mdOf 194) 11 0 0 [.ref 0, .int x1, .int x2, .int x3, .int x4, .int x5] (wQ (nI 0) ll) (fun r w' => r = some (.int 20) ∧ w'.length = 2) := by
  refine amet_of (allOk _) (by decide) (Nat.le_of_ble_eq_true rfl) (fun p e s m vs below meth c A ad F => ?_)
  refine aw_u F rfl rfl ⟨Nat.le_of_ble_eq_true rfl, Nat.le_of_ble_eq_true rfl⟩ ?_
  refine aw_u F rfl rfl ⟨Nat.le_of_ble_eq_true rfl, Nat.le_of_ble_eq_true rfl⟩ ?_
  refine aw_u F rfl rfl ⟨Nat.le_of_ble_eq_true rfl, Nat.le_of_ble_eq_true rfl⟩ ?_
  refine aw_u F rfl rfl ⟨Nat.le_of_ble_eq_true rfl, Nat.le_of_ble_eq_true rfl⟩ ?_
  refine aw_u F rfl rfl ⟨Nat.le_of_ble_eq_true rfl, Nat.le_of_ble_eq_true rfl⟩ ?_
  refine aw_u F rfl rfl ⟨Nat.le_of_ble_eq_true rfl, Nat.le_of_ble_eq_true rfl⟩ ?_
  refine aw_u F rfl rfl ⟨Nat.le_of_ble_eq_true rfl, Nat.le_of_ble_eq_true rfl⟩ ?_
  refine aw_u F rfl rfl ⟨Nat.le_of_ble_eq_true rfl, Nat.le_of_ble_eq_true rfl⟩ ?_
  refine aw_V1 F rfl rfl ⟨Nat.le_of_ble_eq_true rfl, Nat.le_of_ble_eq_true rfl⟩ ⟨Nat.le_of_ble_eq_true rfl, Nat.le_of_ble_eq_true rfl⟩ (hQ_put X l (n := 0) (by omega) x1 hll) (fun r w' hq => ?_)
  obtain ⟨rfl, l1, h1, rfl⟩ := hq
  refine ⟨rfl, ?_⟩
  refine aw_u F rfl rfl ⟨Nat.le_of_ble_eq_true rfl, Nat.le_of_ble_eq_true rfl⟩ ?_
  refine aw_u F rfl rfl ⟨Nat.le_of_ble_eq_true rfl, Nat.le_of_ble_eq_true rfl⟩ ?_
  refine aw_V1 F rfl rfl ⟨Nat.le_of_ble_eq_true rfl, Nat.le_of_ble_eq_true rfl⟩ ⟨Nat.le_of_ble_eq_true rfl, Nat.le_of_ble_eq_true rfl⟩ (hQ_put X l (n := 4) (by omega) x2 h1) (fun r w' hq => ?_)
  obtain ⟨rfl, l2, h2, rfl⟩ := hq
  refine ⟨rfl, ?_⟩
  refine aw_u F rfl rfl ⟨Nat.le_of_ble_eq_true rfl, Nat.le_of_ble_eq_true rfl⟩ ?_
  refine aw_u F rfl rfl ⟨Nat.le_of_ble_eq_true rfl, Nat.le_of_ble_eq_true rfl⟩ ?_
  refine aw_V1 F rfl rfl ⟨Nat.le_of_ble_eq_true rfl, Nat.le_of_ble_eq_true rfl⟩ ⟨Nat.le_of_ble_eq_true rfl, Nat.le_of_ble_eq_true rfl⟩ (hQ_put X l (n := 8) (by omega) x3 h2) (fun r w' hq => ?_)
  obtain ⟨rfl, l3, h3, rfl⟩ := hq
  refine ⟨rfl, ?_⟩
  refine aw_u F rfl rfl ⟨Nat.le_of_ble_eq_true rfl, Nat.le_of_ble_eq_true rfl⟩ ?_
  refine aw_u F rfl rfl ⟨Nat.le_of_ble_eq_true rfl, Nat.le_of_ble_eq_true rfl⟩ ?_
  refine aw_V1 F rfl rfl ⟨Nat.le_of_ble_eq_true rfl, Nat.le_of_ble_eq_true rfl⟩ ⟨Nat.le_of_ble_eq_true rfl, Nat.le_of_ble_eq_true rfl⟩ (hQ_put X l (n := 12) (by omega) x4 h3) (fun r w' hq => ?_)
  obtain ⟨rfl, l4, h4, rfl⟩ := hq
  refine ⟨rfl, ?_⟩
  refine aw_u F rfl rfl ⟨Nat.le_of_ble_eq_true rfl, Nat.le_of_ble_eq_true rfl⟩ ?_
  refine aw_u F rfl rfl ⟨Nat.le_of_ble_eq_true rfl, Nat.le_of_ble_eq_true rfl⟩ ?_
  refine aw_V1 F rfl rfl ⟨Nat.le_of_ble_eq_true rfl, Nat.le_of_ble_eq_true rfl⟩ ⟨Nat.le_of_ble_eq_true rfl, Nat.le_of_ble_eq_true rfl⟩ (hQ_put X l (n := 16) (by omega) x5 h4) (fun r w' hq => ?_)
  obtain ⟨rfl, l5, h5, rfl⟩ := hq
  refine ⟨rfl, ?_⟩
  refine aw_u F rfl rfl ⟨Nat.le_of_ble_eq_true rfl, Nat.le_of_ble_eq_true rfl⟩ ?_
  refine aw_u F rfl rfl ⟨Nat.le_of_ble_eq_true rfl, Nat.le_of_ble_eq_true rfl⟩ ?_
  exact aw_iret F rfl rfl rfl ⟨Nat.le_of_ble_eq_true rfl, Nat.le_of_ble_eq_true rfl⟩ ⟨rfl, rfl⟩
def wO (ih hd nw wp sp : List Int32) : List AE := [.inr (.inr (.inr (12, [.int 0, .ref 7, .int 0, .ref 8, .int 0, .ref 9, .ref 10, .ref 11, .ref 12, .ref 13, .int 0, .int 0, .int 0, .int 0, .int 0, .int 0, .int 0, .int (-1), .int 0, .int 0, .int 0, .ref 14, .ref 15, .ref 16, .ref 17, .ref 18, .ref 19, .ref 20, .ref 21, .ref 22, .ref 23, .ref 24, .ref 25, .ref 26, .ref 27, .ref 28, .ref 29, .ref 30, .int 0, .ref 31, .ref 32, .ref 33, .ref 34, .ref 35, .int 0, .ref 36, .ref 37, .ref 38, .int 0, .ref 39, .ref 40, .int 0, .ref 3, .ref 4, .ref 5, .ref 44, .int 0, .int (-1), .int 0, .int 0, .int 0, .ref 45, .ref 46, .int 0, .ref 47, .ref 48, .ref 49, .ref 50, .ref 51, .ref 52, .int 0, .ref 53, .ref 54, .ref 55, .ref 1, .ref 2]))), .inl (2, ih), .inl (0, hd), .inl (0, nw), .inl (0, wp), .inl (0, sp)]
set_option maxHeartbeats 1000000 in
set_option maxRecDepth 100000 in
theorem lp_holdB0 (X : CX) (l : Launch) {p : Program} {e : Env} {s : State} {m : MethodId} {args : Array Value} {below : List Frame} {meth : Method} {c : Code} {A : Nat → Prop} {n0 : Nat} {ad0 : Nat → Nat} {ih nw wp sp : List Int32} (hn : nw.length = 96) (hw : wp.length = 600) (hs : sp.length = 600) (F : MF X (mdOf 306) (rmA 11 0 0) p s m args meth c A) :
    ∀ (k i : Nat) (hd : List Int32), i + k = 600 → hd.length = 3888 → AW X l (mdOf 306) (rmA 11 0 0) p e s m args below meth c A (MQ below (QQ X n0 ad0 A (fun r w' => r = some (.int 1) ∧ w'.length = 6)) args s 0 0 A) n0 ad0 52 [(2, .int (nI i)), (0, .ref 0), (1, .int 0)] [] (wO ih hd nw wp sp) 0 0 := by
  intro k
  induction k with
  | zero =>
    intro i hd hi hl
    have hi : i = 600 := by omega
    subst hi
    repeat' (first
      | exact aw_iret F rfl rfl rfl ⟨Nat.le_of_ble_eq_true rfl, Nat.le_of_ble_eq_true rfl⟩ ⟨rfl, rfl⟩
      | refine aw_u F rfl rfl ⟨Nat.le_of_ble_eq_true rfl, Nat.le_of_ble_eq_true rfl⟩ ?_)
  | succ k ih2 =>
    intro i hd hi hl
    have h2 : i < 2 ^ 31 := by omega
    refine aw_u F rfl rfl ⟨Nat.le_of_ble_eq_true rfl, Nat.le_of_ble_eq_true rfl⟩ ?_
    refine aw_u F rfl rfl ⟨Nat.le_of_ble_eq_true rfl, Nat.le_of_ble_eq_true rfl⟩ ?_
    refine aw_ic F rfl (of_decide_eq_true rfl) (fun hc => ?_) (fun hc => ?_)
    · have h1 : nI 600 ≤ nI i := of_decide_eq_true hc
      exact absurd ((nI_leI (by omega) (by omega)).mp h1) (by omega)
    refine aw_u F rfl rfl ⟨Nat.le_of_ble_eq_true rfl, Nat.le_of_ble_eq_true rfl⟩ ?_
    refine aw_u F rfl rfl ⟨Nat.le_of_ble_eq_true rfl, Nat.le_of_ble_eq_true rfl⟩ ?_
    refine aw_u F rfl rfl ⟨Nat.le_of_ble_eq_true rfl, Nat.le_of_ble_eq_true rfl⟩ ?_
    refine aw_u F rfl rfl ⟨Nat.le_of_ble_eq_true rfl, Nat.le_of_ble_eq_true rfl⟩ ?_
    refine aw_u F rfl rfl ⟨Nat.le_of_ble_eq_true rfl, Nat.le_of_ble_eq_true rfl⟩ ?_
    refine aw_u F rfl rfl ⟨Nat.le_of_ble_eq_true rfl, Nat.le_of_ble_eq_true rfl⟩ ?_
    refine aw_u F rfl rfl ⟨Nat.le_of_ble_eq_true rfl, Nat.le_of_ble_eq_true rfl⟩ ?_
    refine aw_u F rfl rfl ⟨Nat.le_of_ble_eq_true rfl, Nat.le_of_ble_eq_true rfl⟩ ?_
    refine aw_u F rfl rfl ⟨Nat.le_of_ble_eq_true rfl, Nat.le_of_ble_eq_true rfl⟩ ?_
    refine aw_u F rfl rfl ⟨Nat.le_of_ble_eq_true rfl, Nat.le_of_ble_eq_true rfl⟩ ?_
    refine aw_u F rfl rfl ⟨Nat.le_of_ble_eq_true rfl, Nat.le_of_ble_eq_true rfl⟩ ?_
    refine aw_u F rfl rfl ⟨Nat.le_of_ble_eq_true rfl, Nat.le_of_ble_eq_true rfl⟩ ?_
    refine aw_al F rfl rfl (by rw [inR_iff, nI_toInt h2, hw]; omega) ⟨Nat.le_of_ble_eq_true rfl, Nat.le_of_ble_eq_true rfl⟩ ?_
    have e0 : ((Int16.ofInt 1296).toInt32 * 0 : Int32) = nI 0 := by decide
    have e3 : ((Int16.ofInt 1296).toInt32 * 0 + (Int8.ofInt 96).toInt32 + nI i : Int32) = nI (0 + 96 + i) := by rw [e0, show (Int8.ofInt 96).toInt32 = nI 96 from rfl, nI_add, nI_add]
    refine aw_as F rfl rfl (show inR ((Int16.ofInt 1296).toInt32 * 0 + (Int8.ofInt 96).toInt32 + nI i) hd.length = true by rw [e3, inR_iff, nI_toInt (by omega), hl]; omega) ⟨Nat.le_of_ble_eq_true rfl, Nat.le_of_ble_eq_true rfl⟩ ?_
    refine aw_u F rfl rfl ⟨Nat.le_of_ble_eq_true rfl, Nat.le_of_ble_eq_true rfl⟩ ?_
    refine aw_u F rfl rfl ⟨Nat.le_of_ble_eq_true rfl, Nat.le_of_ble_eq_true rfl⟩ ?_
    refine aw_u F rfl rfl ⟨Nat.le_of_ble_eq_true rfl, Nat.le_of_ble_eq_true rfl⟩ ?_
    refine aw_u F rfl rfl ⟨Nat.le_of_ble_eq_true rfl, Nat.le_of_ble_eq_true rfl⟩ ?_
    refine aw_u F rfl rfl ⟨Nat.le_of_ble_eq_true rfl, Nat.le_of_ble_eq_true rfl⟩ ?_
    refine aw_u F rfl rfl ⟨Nat.le_of_ble_eq_true rfl, Nat.le_of_ble_eq_true rfl⟩ ?_
    refine aw_u F rfl rfl ⟨Nat.le_of_ble_eq_true rfl, Nat.le_of_ble_eq_true rfl⟩ ?_
    refine aw_u F rfl rfl ⟨Nat.le_of_ble_eq_true rfl, Nat.le_of_ble_eq_true rfl⟩ ?_
    refine aw_u F rfl rfl ⟨Nat.le_of_ble_eq_true rfl, Nat.le_of_ble_eq_true rfl⟩ ?_
    refine aw_u F rfl rfl ⟨Nat.le_of_ble_eq_true rfl, Nat.le_of_ble_eq_true rfl⟩ ?_
    refine aw_u F rfl rfl ⟨Nat.le_of_ble_eq_true rfl, Nat.le_of_ble_eq_true rfl⟩ ?_
    refine aw_u F rfl rfl ⟨Nat.le_of_ble_eq_true rfl, Nat.le_of_ble_eq_true rfl⟩ ?_
    refine aw_al F rfl rfl (by rw [inR_iff, nI_toInt h2, hs]; omega) ⟨Nat.le_of_ble_eq_true rfl, Nat.le_of_ble_eq_true rfl⟩ ?_
    have e4 : ((Int16.ofInt 1296).toInt32 * 0 + (Int16.ofInt 696).toInt32 + nI i : Int32) = nI (0 + 696 + i) := by rw [e0, show (Int16.ofInt 696).toInt32 = nI 696 from rfl, nI_add, nI_add]
    refine aw_as F rfl rfl (show inR ((Int16.ofInt 1296).toInt32 * 0 + (Int16.ofInt 696).toInt32 + nI i) (List.set hd _ _).length = true by rw [e4, inR_iff, nI_toInt (by omega), List.length_set, hl]; omega) ⟨Nat.le_of_ble_eq_true rfl, Nat.le_of_ble_eq_true rfl⟩ ?_
    have e1 : nI i + Int32.ofInt 1 = nI (i + 1) := nI_1 i
    refine aw_u F rfl rfl ⟨Nat.le_of_ble_eq_true rfl, Nat.le_of_ble_eq_true rfl⟩ ?_
    refine aw_u F rfl rfl ⟨Nat.le_of_ble_eq_true rfl, Nat.le_of_ble_eq_true rfl⟩ ?_
    exact aw_eq (lv' := [(2, .int (nI (i + 1))), (0, .ref 0), (1, .int 0)]) (w' := wO ih _ nw wp sp) rfl (by rw [← e1]; rfl) rfl rfl rfl rfl (ih2 (i + 1) _ (by omega) (by rw [List.length_set, List.length_set]; exact hl))
set_option maxHeartbeats 1000000 in
set_option maxRecDepth 100000 in
theorem lp_holdA0 (X : CX) (l : Launch) {p : Program} {e : Env} {s : State} {m : MethodId} {args : Array Value} {below : List Frame} {meth : Method} {c : Code} {A : Nat → Prop} {n0 : Nat} {ad0 : Nat → Nat} {ih nw wp sp : List Int32} (hn : nw.length = 96) (hw : wp.length = 600) (hs : sp.length = 600) (F : MF X (mdOf 306) (rmA 11 0 0) p s m args meth c A) :
    ∀ (k i : Nat) (hd : List Int32), i + k = 96 → hd.length = 3888 → AW X l (mdOf 306) (rmA 11 0 0) p e s m args below meth c A (MQ below (QQ X n0 ad0 A (fun r w' => r = some (.int 1) ∧ w'.length = 6)) args s 0 0 A) n0 ad0 20 [(2, .int (nI i)), (0, .ref 0), (1, .int 0)] [] (wO ih hd nw wp sp) 0 0 := by
  intro k
  induction k with
  | zero =>
    intro i hd hi hl
    have hi : i = 96 := by omega
    subst hi
    refine aw_u F rfl rfl ⟨Nat.le_of_ble_eq_true rfl, Nat.le_of_ble_eq_true rfl⟩ ?_
    refine aw_u F rfl rfl ⟨Nat.le_of_ble_eq_true rfl, Nat.le_of_ble_eq_true rfl⟩ ?_
    refine aw_u F rfl rfl ⟨Nat.le_of_ble_eq_true rfl, Nat.le_of_ble_eq_true rfl⟩ ?_
    refine aw_u F rfl rfl ⟨Nat.le_of_ble_eq_true rfl, Nat.le_of_ble_eq_true rfl⟩ ?_
    refine aw_u F rfl rfl ⟨Nat.le_of_ble_eq_true rfl, Nat.le_of_ble_eq_true rfl⟩ ?_
    exact aw_eq rfl rfl rfl rfl rfl rfl (lp_holdB0 X l hn hw hs F 600 0 hd rfl hl)
  | succ k ih2 =>
    intro i hd hi hl
    have h2 : i < 2 ^ 31 := by omega
    refine aw_u F rfl rfl ⟨Nat.le_of_ble_eq_true rfl, Nat.le_of_ble_eq_true rfl⟩ ?_
    refine aw_u F rfl rfl ⟨Nat.le_of_ble_eq_true rfl, Nat.le_of_ble_eq_true rfl⟩ ?_
    refine aw_ic F rfl (of_decide_eq_true rfl) (fun hc => ?_) (fun hc => ?_)
    · have h1 : nI 96 ≤ nI i := of_decide_eq_true hc
      exact absurd ((nI_leI (by omega) (by omega)).mp h1) (by omega)
    refine aw_u F rfl rfl ⟨Nat.le_of_ble_eq_true rfl, Nat.le_of_ble_eq_true rfl⟩ ?_
    refine aw_u F rfl rfl ⟨Nat.le_of_ble_eq_true rfl, Nat.le_of_ble_eq_true rfl⟩ ?_
    refine aw_u F rfl rfl ⟨Nat.le_of_ble_eq_true rfl, Nat.le_of_ble_eq_true rfl⟩ ?_
    refine aw_u F rfl rfl ⟨Nat.le_of_ble_eq_true rfl, Nat.le_of_ble_eq_true rfl⟩ ?_
    refine aw_u F rfl rfl ⟨Nat.le_of_ble_eq_true rfl, Nat.le_of_ble_eq_true rfl⟩ ?_
    refine aw_u F rfl rfl ⟨Nat.le_of_ble_eq_true rfl, Nat.le_of_ble_eq_true rfl⟩ ?_
    refine aw_u F rfl rfl ⟨Nat.le_of_ble_eq_true rfl, Nat.le_of_ble_eq_true rfl⟩ ?_
    refine aw_u F rfl rfl ⟨Nat.le_of_ble_eq_true rfl, Nat.le_of_ble_eq_true rfl⟩ ?_
    refine aw_u F rfl rfl ⟨Nat.le_of_ble_eq_true rfl, Nat.le_of_ble_eq_true rfl⟩ ?_
    refine aw_u F rfl rfl ⟨Nat.le_of_ble_eq_true rfl, Nat.le_of_ble_eq_true rfl⟩ ?_
    refine aw_al F rfl rfl (by rw [inR_iff, nI_toInt h2, hn]; omega) ⟨Nat.le_of_ble_eq_true rfl, Nat.le_of_ble_eq_true rfl⟩ ?_
    have e0 : ((Int16.ofInt 1296).toInt32 * 0 : Int32) = nI 0 := by decide
    have e3 : ((Int16.ofInt 1296).toInt32 * 0 + nI i : Int32) = nI (0 + i) := by rw [e0, nI_add]
    refine aw_as F rfl rfl (show inR ((Int16.ofInt 1296).toInt32 * 0 + nI i) hd.length = true by rw [e3, inR_iff, nI_toInt (by omega), hl]; omega) ⟨Nat.le_of_ble_eq_true rfl, Nat.le_of_ble_eq_true rfl⟩ ?_
    have e1 : nI i + Int32.ofInt 1 = nI (i + 1) := nI_1 i
    refine aw_u F rfl rfl ⟨Nat.le_of_ble_eq_true rfl, Nat.le_of_ble_eq_true rfl⟩ ?_
    refine aw_u F rfl rfl ⟨Nat.le_of_ble_eq_true rfl, Nat.le_of_ble_eq_true rfl⟩ ?_
    exact aw_eq (lv' := [(2, .int (nI (i + 1))), (0, .ref 0), (1, .int 0)]) (w' := wO ih _ nw wp sp) rfl (by rw [← e1]; rfl) rfl rfl rfl rfl (ih2 (i + 1) _ (by omega) (by rw [List.length_set]; exact hl))
set_option maxHeartbeats 1000000 in
set_option maxRecDepth 100000 in
theorem gM_hold_0 (X : CX) (l : Launch) {hd nw wp sp : List Int32} (hl : hd.length = 3888) (hn : nw.length = 96) (hw : wp.length = 600) (hs : sp.length = 600) : AMet X l (mdOf 306) 11 0 0 [.ref 0, .int 0] (wO [0, 0, 0] hd nw wp sp) (fun r w' => r = some (.int 1) ∧ w'.length = 6) := by
  refine amet_of (allOk _) (by decide) (Nat.le_of_ble_eq_true rfl) (fun p e s m vs below meth c A ad F => ?_)
  refine aw_u F rfl rfl ⟨Nat.le_of_ble_eq_true rfl, Nat.le_of_ble_eq_true rfl⟩ ?_
  refine aw_u F rfl rfl ⟨Nat.le_of_ble_eq_true rfl, Nat.le_of_ble_eq_true rfl⟩ ?_
  refine aw_u F rfl rfl ⟨Nat.le_of_ble_eq_true rfl, Nat.le_of_ble_eq_true rfl⟩ ?_
  refine aw_S3p F rfl rfl ⟨Nat.le_of_ble_eq_true rfl, Nat.le_of_ble_eq_true rfl⟩ ⟨Nat.le_of_ble_eq_true rfl, Nat.le_of_ble_eq_true rfl⟩ (hI_in_yes X l _ 0 0 2 (by decide)) ?_
  refine aw_u F rfl rfl ⟨Nat.le_of_ble_eq_true rfl, Nat.le_of_ble_eq_true rfl⟩ ?_
  refine aw_u F rfl rfl ⟨Nat.le_of_ble_eq_true rfl, Nat.le_of_ble_eq_true rfl⟩ ?_
  refine aw_u F rfl rfl ⟨Nat.le_of_ble_eq_true rfl, Nat.le_of_ble_eq_true rfl⟩ ?_
  refine aw_u F rfl rfl ⟨Nat.le_of_ble_eq_true rfl, Nat.le_of_ble_eq_true rfl⟩ ?_
  refine aw_u F rfl rfl ⟨Nat.le_of_ble_eq_true rfl, Nat.le_of_ble_eq_true rfl⟩ ?_
  refine aw_u F rfl rfl ⟨Nat.le_of_ble_eq_true rfl, Nat.le_of_ble_eq_true rfl⟩ ?_
  refine aw_u F rfl rfl ⟨Nat.le_of_ble_eq_true rfl, Nat.le_of_ble_eq_true rfl⟩ ?_
  refine aw_u F rfl rfl ⟨Nat.le_of_ble_eq_true rfl, Nat.le_of_ble_eq_true rfl⟩ ?_
  exact aw_eq rfl rfl rfl (w' := wO _ hd nw wp sp) rfl rfl rfl (lp_holdA0 X l hn hw hs F 96 0 hd rfl hl)
set_option maxHeartbeats 1000000 in
set_option maxRecDepth 100000 in
theorem lp_holdB1 (X : CX) (l : Launch) {p : Program} {e : Env} {s : State} {m : MethodId} {args : Array Value} {below : List Frame} {meth : Method} {c : Code} {A : Nat → Prop} {n0 : Nat} {ad0 : Nat → Nat} {ih nw wp sp : List Int32} (hn : nw.length = 96) (hw : wp.length = 600) (hs : sp.length = 600) (F : MF X (mdOf 306) (rmA 11 0 0) p s m args meth c A) :
    ∀ (k i : Nat) (hd : List Int32), i + k = 600 → hd.length = 3888 → AW X l (mdOf 306) (rmA 11 0 0) p e s m args below meth c A (MQ below (QQ X n0 ad0 A (fun r w' => r = some (.int 1) ∧ w'.length = 6)) args s 0 0 A) n0 ad0 52 [(2, .int (nI i)), (0, .ref 0), (1, .int 1)] [] (wO ih hd nw wp sp) 0 0 := by
  intro k
  induction k with
  | zero =>
    intro i hd hi hl
    have hi : i = 600 := by omega
    subst hi
    repeat' (first
      | exact aw_iret F rfl rfl rfl ⟨Nat.le_of_ble_eq_true rfl, Nat.le_of_ble_eq_true rfl⟩ ⟨rfl, rfl⟩
      | refine aw_u F rfl rfl ⟨Nat.le_of_ble_eq_true rfl, Nat.le_of_ble_eq_true rfl⟩ ?_)
  | succ k ih2 =>
    intro i hd hi hl
    have h2 : i < 2 ^ 31 := by omega
    refine aw_u F rfl rfl ⟨Nat.le_of_ble_eq_true rfl, Nat.le_of_ble_eq_true rfl⟩ ?_
    refine aw_u F rfl rfl ⟨Nat.le_of_ble_eq_true rfl, Nat.le_of_ble_eq_true rfl⟩ ?_
    refine aw_ic F rfl (of_decide_eq_true rfl) (fun hc => ?_) (fun hc => ?_)
    · have h1 : nI 600 ≤ nI i := of_decide_eq_true hc
      exact absurd ((nI_leI (by omega) (by omega)).mp h1) (by omega)
    refine aw_u F rfl rfl ⟨Nat.le_of_ble_eq_true rfl, Nat.le_of_ble_eq_true rfl⟩ ?_
    refine aw_u F rfl rfl ⟨Nat.le_of_ble_eq_true rfl, Nat.le_of_ble_eq_true rfl⟩ ?_
    refine aw_u F rfl rfl ⟨Nat.le_of_ble_eq_true rfl, Nat.le_of_ble_eq_true rfl⟩ ?_
    refine aw_u F rfl rfl ⟨Nat.le_of_ble_eq_true rfl, Nat.le_of_ble_eq_true rfl⟩ ?_
    refine aw_u F rfl rfl ⟨Nat.le_of_ble_eq_true rfl, Nat.le_of_ble_eq_true rfl⟩ ?_
    refine aw_u F rfl rfl ⟨Nat.le_of_ble_eq_true rfl, Nat.le_of_ble_eq_true rfl⟩ ?_
    refine aw_u F rfl rfl ⟨Nat.le_of_ble_eq_true rfl, Nat.le_of_ble_eq_true rfl⟩ ?_
    refine aw_u F rfl rfl ⟨Nat.le_of_ble_eq_true rfl, Nat.le_of_ble_eq_true rfl⟩ ?_
    refine aw_u F rfl rfl ⟨Nat.le_of_ble_eq_true rfl, Nat.le_of_ble_eq_true rfl⟩ ?_
    refine aw_u F rfl rfl ⟨Nat.le_of_ble_eq_true rfl, Nat.le_of_ble_eq_true rfl⟩ ?_
    refine aw_u F rfl rfl ⟨Nat.le_of_ble_eq_true rfl, Nat.le_of_ble_eq_true rfl⟩ ?_
    refine aw_u F rfl rfl ⟨Nat.le_of_ble_eq_true rfl, Nat.le_of_ble_eq_true rfl⟩ ?_
    refine aw_al F rfl rfl (by rw [inR_iff, nI_toInt h2, hw]; omega) ⟨Nat.le_of_ble_eq_true rfl, Nat.le_of_ble_eq_true rfl⟩ ?_
    have e0 : ((Int16.ofInt 1296).toInt32 * 1 : Int32) = nI 1296 := by decide
    have e3 : ((Int16.ofInt 1296).toInt32 * 1 + (Int8.ofInt 96).toInt32 + nI i : Int32) = nI (1296 + 96 + i) := by rw [e0, show (Int8.ofInt 96).toInt32 = nI 96 from rfl, nI_add, nI_add]
    refine aw_as F rfl rfl (show inR ((Int16.ofInt 1296).toInt32 * 1 + (Int8.ofInt 96).toInt32 + nI i) hd.length = true by rw [e3, inR_iff, nI_toInt (by omega), hl]; omega) ⟨Nat.le_of_ble_eq_true rfl, Nat.le_of_ble_eq_true rfl⟩ ?_
    refine aw_u F rfl rfl ⟨Nat.le_of_ble_eq_true rfl, Nat.le_of_ble_eq_true rfl⟩ ?_
    refine aw_u F rfl rfl ⟨Nat.le_of_ble_eq_true rfl, Nat.le_of_ble_eq_true rfl⟩ ?_
    refine aw_u F rfl rfl ⟨Nat.le_of_ble_eq_true rfl, Nat.le_of_ble_eq_true rfl⟩ ?_
    refine aw_u F rfl rfl ⟨Nat.le_of_ble_eq_true rfl, Nat.le_of_ble_eq_true rfl⟩ ?_
    refine aw_u F rfl rfl ⟨Nat.le_of_ble_eq_true rfl, Nat.le_of_ble_eq_true rfl⟩ ?_
    refine aw_u F rfl rfl ⟨Nat.le_of_ble_eq_true rfl, Nat.le_of_ble_eq_true rfl⟩ ?_
    refine aw_u F rfl rfl ⟨Nat.le_of_ble_eq_true rfl, Nat.le_of_ble_eq_true rfl⟩ ?_
    refine aw_u F rfl rfl ⟨Nat.le_of_ble_eq_true rfl, Nat.le_of_ble_eq_true rfl⟩ ?_
    refine aw_u F rfl rfl ⟨Nat.le_of_ble_eq_true rfl, Nat.le_of_ble_eq_true rfl⟩ ?_
    refine aw_u F rfl rfl ⟨Nat.le_of_ble_eq_true rfl, Nat.le_of_ble_eq_true rfl⟩ ?_
    refine aw_u F rfl rfl ⟨Nat.le_of_ble_eq_true rfl, Nat.le_of_ble_eq_true rfl⟩ ?_
    refine aw_u F rfl rfl ⟨Nat.le_of_ble_eq_true rfl, Nat.le_of_ble_eq_true rfl⟩ ?_
    refine aw_al F rfl rfl (by rw [inR_iff, nI_toInt h2, hs]; omega) ⟨Nat.le_of_ble_eq_true rfl, Nat.le_of_ble_eq_true rfl⟩ ?_
    have e4 : ((Int16.ofInt 1296).toInt32 * 1 + (Int16.ofInt 696).toInt32 + nI i : Int32) = nI (1296 + 696 + i) := by rw [e0, show (Int16.ofInt 696).toInt32 = nI 696 from rfl, nI_add, nI_add]
    refine aw_as F rfl rfl (show inR ((Int16.ofInt 1296).toInt32 * 1 + (Int16.ofInt 696).toInt32 + nI i) (List.set hd _ _).length = true by rw [e4, inR_iff, nI_toInt (by omega), List.length_set, hl]; omega) ⟨Nat.le_of_ble_eq_true rfl, Nat.le_of_ble_eq_true rfl⟩ ?_
    have e1 : nI i + Int32.ofInt 1 = nI (i + 1) := nI_1 i
    refine aw_u F rfl rfl ⟨Nat.le_of_ble_eq_true rfl, Nat.le_of_ble_eq_true rfl⟩ ?_
    refine aw_u F rfl rfl ⟨Nat.le_of_ble_eq_true rfl, Nat.le_of_ble_eq_true rfl⟩ ?_
    exact aw_eq (lv' := [(2, .int (nI (i + 1))), (0, .ref 0), (1, .int 1)]) (w' := wO ih _ nw wp sp) rfl (by rw [← e1]; rfl) rfl rfl rfl rfl (ih2 (i + 1) _ (by omega) (by rw [List.length_set, List.length_set]; exact hl))
set_option maxHeartbeats 1000000 in
set_option maxRecDepth 100000 in
theorem lp_holdA1 (X : CX) (l : Launch) {p : Program} {e : Env} {s : State} {m : MethodId} {args : Array Value} {below : List Frame} {meth : Method} {c : Code} {A : Nat → Prop} {n0 : Nat} {ad0 : Nat → Nat} {ih nw wp sp : List Int32} (hn : nw.length = 96) (hw : wp.length = 600) (hs : sp.length = 600) (F : MF X (mdOf 306) (rmA 11 0 0) p s m args meth c A) :
    ∀ (k i : Nat) (hd : List Int32), i + k = 96 → hd.length = 3888 → AW X l (mdOf 306) (rmA 11 0 0) p e s m args below meth c A (MQ below (QQ X n0 ad0 A (fun r w' => r = some (.int 1) ∧ w'.length = 6)) args s 0 0 A) n0 ad0 20 [(2, .int (nI i)), (0, .ref 0), (1, .int 1)] [] (wO ih hd nw wp sp) 0 0 := by
  intro k
  induction k with
  | zero =>
    intro i hd hi hl
    have hi : i = 96 := by omega
    subst hi
    refine aw_u F rfl rfl ⟨Nat.le_of_ble_eq_true rfl, Nat.le_of_ble_eq_true rfl⟩ ?_
    refine aw_u F rfl rfl ⟨Nat.le_of_ble_eq_true rfl, Nat.le_of_ble_eq_true rfl⟩ ?_
    refine aw_u F rfl rfl ⟨Nat.le_of_ble_eq_true rfl, Nat.le_of_ble_eq_true rfl⟩ ?_
    refine aw_u F rfl rfl ⟨Nat.le_of_ble_eq_true rfl, Nat.le_of_ble_eq_true rfl⟩ ?_
    refine aw_u F rfl rfl ⟨Nat.le_of_ble_eq_true rfl, Nat.le_of_ble_eq_true rfl⟩ ?_
    exact aw_eq rfl rfl rfl rfl rfl rfl (lp_holdB1 X l hn hw hs F 600 0 hd rfl hl)
  | succ k ih2 =>
    intro i hd hi hl
    have h2 : i < 2 ^ 31 := by omega
    refine aw_u F rfl rfl ⟨Nat.le_of_ble_eq_true rfl, Nat.le_of_ble_eq_true rfl⟩ ?_
    refine aw_u F rfl rfl ⟨Nat.le_of_ble_eq_true rfl, Nat.le_of_ble_eq_true rfl⟩ ?_
    refine aw_ic F rfl (of_decide_eq_true rfl) (fun hc => ?_) (fun hc => ?_)
    · have h1 : nI 96 ≤ nI i := of_decide_eq_true hc
      exact absurd ((nI_leI (by omega) (by omega)).mp h1) (by omega)
    refine aw_u F rfl rfl ⟨Nat.le_of_ble_eq_true rfl, Nat.le_of_ble_eq_true rfl⟩ ?_
    refine aw_u F rfl rfl ⟨Nat.le_of_ble_eq_true rfl, Nat.le_of_ble_eq_true rfl⟩ ?_
    refine aw_u F rfl rfl ⟨Nat.le_of_ble_eq_true rfl, Nat.le_of_ble_eq_true rfl⟩ ?_
    refine aw_u F rfl rfl ⟨Nat.le_of_ble_eq_true rfl, Nat.le_of_ble_eq_true rfl⟩ ?_
    refine aw_u F rfl rfl ⟨Nat.le_of_ble_eq_true rfl, Nat.le_of_ble_eq_true rfl⟩ ?_
    refine aw_u F rfl rfl ⟨Nat.le_of_ble_eq_true rfl, Nat.le_of_ble_eq_true rfl⟩ ?_
    refine aw_u F rfl rfl ⟨Nat.le_of_ble_eq_true rfl, Nat.le_of_ble_eq_true rfl⟩ ?_
    refine aw_u F rfl rfl ⟨Nat.le_of_ble_eq_true rfl, Nat.le_of_ble_eq_true rfl⟩ ?_
    refine aw_u F rfl rfl ⟨Nat.le_of_ble_eq_true rfl, Nat.le_of_ble_eq_true rfl⟩ ?_
    refine aw_u F rfl rfl ⟨Nat.le_of_ble_eq_true rfl, Nat.le_of_ble_eq_true rfl⟩ ?_
    refine aw_al F rfl rfl (by rw [inR_iff, nI_toInt h2, hn]; omega) ⟨Nat.le_of_ble_eq_true rfl, Nat.le_of_ble_eq_true rfl⟩ ?_
    have e0 : ((Int16.ofInt 1296).toInt32 * 1 : Int32) = nI 1296 := by decide
    have e3 : ((Int16.ofInt 1296).toInt32 * 1 + nI i : Int32) = nI (1296 + i) := by rw [e0, nI_add]
    refine aw_as F rfl rfl (show inR ((Int16.ofInt 1296).toInt32 * 1 + nI i) hd.length = true by rw [e3, inR_iff, nI_toInt (by omega), hl]; omega) ⟨Nat.le_of_ble_eq_true rfl, Nat.le_of_ble_eq_true rfl⟩ ?_
    have e1 : nI i + Int32.ofInt 1 = nI (i + 1) := nI_1 i
    refine aw_u F rfl rfl ⟨Nat.le_of_ble_eq_true rfl, Nat.le_of_ble_eq_true rfl⟩ ?_
    refine aw_u F rfl rfl ⟨Nat.le_of_ble_eq_true rfl, Nat.le_of_ble_eq_true rfl⟩ ?_
    exact aw_eq (lv' := [(2, .int (nI (i + 1))), (0, .ref 0), (1, .int 1)]) (w' := wO ih _ nw wp sp) rfl (by rw [← e1]; rfl) rfl rfl rfl rfl (ih2 (i + 1) _ (by omega) (by rw [List.length_set]; exact hl))
set_option maxHeartbeats 1000000 in
set_option maxRecDepth 100000 in
theorem gM_hold_1 (X : CX) (l : Launch) {hd nw wp sp : List Int32} (hl : hd.length = 3888) (hn : nw.length = 96) (hw : wp.length = 600) (hs : sp.length = 600) : AMet X l (mdOf 306) 11 0 0 [.ref 0, .int 1] (wO [0, 0, 0] hd nw wp sp) (fun r w' => r = some (.int 1) ∧ w'.length = 6) := by
  refine amet_of (allOk _) (by decide) (Nat.le_of_ble_eq_true rfl) (fun p e s m vs below meth c A ad F => ?_)
  refine aw_u F rfl rfl ⟨Nat.le_of_ble_eq_true rfl, Nat.le_of_ble_eq_true rfl⟩ ?_
  refine aw_u F rfl rfl ⟨Nat.le_of_ble_eq_true rfl, Nat.le_of_ble_eq_true rfl⟩ ?_
  refine aw_u F rfl rfl ⟨Nat.le_of_ble_eq_true rfl, Nat.le_of_ble_eq_true rfl⟩ ?_
  refine aw_S3p F rfl rfl ⟨Nat.le_of_ble_eq_true rfl, Nat.le_of_ble_eq_true rfl⟩ ⟨Nat.le_of_ble_eq_true rfl, Nat.le_of_ble_eq_true rfl⟩ (hI_in_yes X l _ 1 0 2 (by decide)) ?_
  refine aw_u F rfl rfl ⟨Nat.le_of_ble_eq_true rfl, Nat.le_of_ble_eq_true rfl⟩ ?_
  refine aw_u F rfl rfl ⟨Nat.le_of_ble_eq_true rfl, Nat.le_of_ble_eq_true rfl⟩ ?_
  refine aw_u F rfl rfl ⟨Nat.le_of_ble_eq_true rfl, Nat.le_of_ble_eq_true rfl⟩ ?_
  refine aw_u F rfl rfl ⟨Nat.le_of_ble_eq_true rfl, Nat.le_of_ble_eq_true rfl⟩ ?_
  refine aw_u F rfl rfl ⟨Nat.le_of_ble_eq_true rfl, Nat.le_of_ble_eq_true rfl⟩ ?_
  refine aw_u F rfl rfl ⟨Nat.le_of_ble_eq_true rfl, Nat.le_of_ble_eq_true rfl⟩ ?_
  refine aw_u F rfl rfl ⟨Nat.le_of_ble_eq_true rfl, Nat.le_of_ble_eq_true rfl⟩ ?_
  refine aw_u F rfl rfl ⟨Nat.le_of_ble_eq_true rfl, Nat.le_of_ble_eq_true rfl⟩ ?_
  exact aw_eq rfl rfl rfl (w' := wO _ hd nw wp sp) rfl rfl rfl (lp_holdA1 X l hn hw hs F 96 0 hd rfl hl)
set_option maxHeartbeats 1000000 in
set_option maxRecDepth 100000 in
theorem lp_holdB2 (X : CX) (l : Launch) {p : Program} {e : Env} {s : State} {m : MethodId} {args : Array Value} {below : List Frame} {meth : Method} {c : Code} {A : Nat → Prop} {n0 : Nat} {ad0 : Nat → Nat} {ih nw wp sp : List Int32} (hn : nw.length = 96) (hw : wp.length = 600) (hs : sp.length = 600) (F : MF X (mdOf 306) (rmA 11 0 0) p s m args meth c A) :
    ∀ (k i : Nat) (hd : List Int32), i + k = 600 → hd.length = 3888 → AW X l (mdOf 306) (rmA 11 0 0) p e s m args below meth c A (MQ below (QQ X n0 ad0 A (fun r w' => r = some (.int 1) ∧ w'.length = 6)) args s 0 0 A) n0 ad0 52 [(2, .int (nI i)), (0, .ref 0), (1, .int 2)] [] (wO ih hd nw wp sp) 0 0 := by
  intro k
  induction k with
  | zero =>
    intro i hd hi hl
    have hi : i = 600 := by omega
    subst hi
    repeat' (first
      | exact aw_iret F rfl rfl rfl ⟨Nat.le_of_ble_eq_true rfl, Nat.le_of_ble_eq_true rfl⟩ ⟨rfl, rfl⟩
      | refine aw_u F rfl rfl ⟨Nat.le_of_ble_eq_true rfl, Nat.le_of_ble_eq_true rfl⟩ ?_)
  | succ k ih2 =>
    intro i hd hi hl
    have h2 : i < 2 ^ 31 := by omega
    refine aw_u F rfl rfl ⟨Nat.le_of_ble_eq_true rfl, Nat.le_of_ble_eq_true rfl⟩ ?_
    refine aw_u F rfl rfl ⟨Nat.le_of_ble_eq_true rfl, Nat.le_of_ble_eq_true rfl⟩ ?_
    refine aw_ic F rfl (of_decide_eq_true rfl) (fun hc => ?_) (fun hc => ?_)
    · have h1 : nI 600 ≤ nI i := of_decide_eq_true hc
      exact absurd ((nI_leI (by omega) (by omega)).mp h1) (by omega)
    refine aw_u F rfl rfl ⟨Nat.le_of_ble_eq_true rfl, Nat.le_of_ble_eq_true rfl⟩ ?_
    refine aw_u F rfl rfl ⟨Nat.le_of_ble_eq_true rfl, Nat.le_of_ble_eq_true rfl⟩ ?_
    refine aw_u F rfl rfl ⟨Nat.le_of_ble_eq_true rfl, Nat.le_of_ble_eq_true rfl⟩ ?_
    refine aw_u F rfl rfl ⟨Nat.le_of_ble_eq_true rfl, Nat.le_of_ble_eq_true rfl⟩ ?_
    refine aw_u F rfl rfl ⟨Nat.le_of_ble_eq_true rfl, Nat.le_of_ble_eq_true rfl⟩ ?_
    refine aw_u F rfl rfl ⟨Nat.le_of_ble_eq_true rfl, Nat.le_of_ble_eq_true rfl⟩ ?_
    refine aw_u F rfl rfl ⟨Nat.le_of_ble_eq_true rfl, Nat.le_of_ble_eq_true rfl⟩ ?_
    refine aw_u F rfl rfl ⟨Nat.le_of_ble_eq_true rfl, Nat.le_of_ble_eq_true rfl⟩ ?_
    refine aw_u F rfl rfl ⟨Nat.le_of_ble_eq_true rfl, Nat.le_of_ble_eq_true rfl⟩ ?_
    refine aw_u F rfl rfl ⟨Nat.le_of_ble_eq_true rfl, Nat.le_of_ble_eq_true rfl⟩ ?_
    refine aw_u F rfl rfl ⟨Nat.le_of_ble_eq_true rfl, Nat.le_of_ble_eq_true rfl⟩ ?_
    refine aw_u F rfl rfl ⟨Nat.le_of_ble_eq_true rfl, Nat.le_of_ble_eq_true rfl⟩ ?_
    refine aw_al F rfl rfl (by rw [inR_iff, nI_toInt h2, hw]; omega) ⟨Nat.le_of_ble_eq_true rfl, Nat.le_of_ble_eq_true rfl⟩ ?_
    have e0 : ((Int16.ofInt 1296).toInt32 * 2 : Int32) = nI 2592 := by decide
    have e3 : ((Int16.ofInt 1296).toInt32 * 2 + (Int8.ofInt 96).toInt32 + nI i : Int32) = nI (2592 + 96 + i) := by rw [e0, show (Int8.ofInt 96).toInt32 = nI 96 from rfl, nI_add, nI_add]
    refine aw_as F rfl rfl (show inR ((Int16.ofInt 1296).toInt32 * 2 + (Int8.ofInt 96).toInt32 + nI i) hd.length = true by rw [e3, inR_iff, nI_toInt (by omega), hl]; omega) ⟨Nat.le_of_ble_eq_true rfl, Nat.le_of_ble_eq_true rfl⟩ ?_
    refine aw_u F rfl rfl ⟨Nat.le_of_ble_eq_true rfl, Nat.le_of_ble_eq_true rfl⟩ ?_
    refine aw_u F rfl rfl ⟨Nat.le_of_ble_eq_true rfl, Nat.le_of_ble_eq_true rfl⟩ ?_
    refine aw_u F rfl rfl ⟨Nat.le_of_ble_eq_true rfl, Nat.le_of_ble_eq_true rfl⟩ ?_
    refine aw_u F rfl rfl ⟨Nat.le_of_ble_eq_true rfl, Nat.le_of_ble_eq_true rfl⟩ ?_
    refine aw_u F rfl rfl ⟨Nat.le_of_ble_eq_true rfl, Nat.le_of_ble_eq_true rfl⟩ ?_
    refine aw_u F rfl rfl ⟨Nat.le_of_ble_eq_true rfl, Nat.le_of_ble_eq_true rfl⟩ ?_
    refine aw_u F rfl rfl ⟨Nat.le_of_ble_eq_true rfl, Nat.le_of_ble_eq_true rfl⟩ ?_
    refine aw_u F rfl rfl ⟨Nat.le_of_ble_eq_true rfl, Nat.le_of_ble_eq_true rfl⟩ ?_
    refine aw_u F rfl rfl ⟨Nat.le_of_ble_eq_true rfl, Nat.le_of_ble_eq_true rfl⟩ ?_
    refine aw_u F rfl rfl ⟨Nat.le_of_ble_eq_true rfl, Nat.le_of_ble_eq_true rfl⟩ ?_
    refine aw_u F rfl rfl ⟨Nat.le_of_ble_eq_true rfl, Nat.le_of_ble_eq_true rfl⟩ ?_
    refine aw_u F rfl rfl ⟨Nat.le_of_ble_eq_true rfl, Nat.le_of_ble_eq_true rfl⟩ ?_
    refine aw_al F rfl rfl (by rw [inR_iff, nI_toInt h2, hs]; omega) ⟨Nat.le_of_ble_eq_true rfl, Nat.le_of_ble_eq_true rfl⟩ ?_
    have e4 : ((Int16.ofInt 1296).toInt32 * 2 + (Int16.ofInt 696).toInt32 + nI i : Int32) = nI (2592 + 696 + i) := by rw [e0, show (Int16.ofInt 696).toInt32 = nI 696 from rfl, nI_add, nI_add]
    refine aw_as F rfl rfl (show inR ((Int16.ofInt 1296).toInt32 * 2 + (Int16.ofInt 696).toInt32 + nI i) (List.set hd _ _).length = true by rw [e4, inR_iff, nI_toInt (by omega), List.length_set, hl]; omega) ⟨Nat.le_of_ble_eq_true rfl, Nat.le_of_ble_eq_true rfl⟩ ?_
    have e1 : nI i + Int32.ofInt 1 = nI (i + 1) := nI_1 i
    refine aw_u F rfl rfl ⟨Nat.le_of_ble_eq_true rfl, Nat.le_of_ble_eq_true rfl⟩ ?_
    refine aw_u F rfl rfl ⟨Nat.le_of_ble_eq_true rfl, Nat.le_of_ble_eq_true rfl⟩ ?_
    exact aw_eq (lv' := [(2, .int (nI (i + 1))), (0, .ref 0), (1, .int 2)]) (w' := wO ih _ nw wp sp) rfl (by rw [← e1]; rfl) rfl rfl rfl rfl (ih2 (i + 1) _ (by omega) (by rw [List.length_set, List.length_set]; exact hl))
set_option maxHeartbeats 1000000 in
set_option maxRecDepth 100000 in
theorem lp_holdA2 (X : CX) (l : Launch) {p : Program} {e : Env} {s : State} {m : MethodId} {args : Array Value} {below : List Frame} {meth : Method} {c : Code} {A : Nat → Prop} {n0 : Nat} {ad0 : Nat → Nat} {ih nw wp sp : List Int32} (hn : nw.length = 96) (hw : wp.length = 600) (hs : sp.length = 600) (F : MF X (mdOf 306) (rmA 11 0 0) p s m args meth c A) :
    ∀ (k i : Nat) (hd : List Int32), i + k = 96 → hd.length = 3888 → AW X l (mdOf 306) (rmA 11 0 0) p e s m args below meth c A (MQ below (QQ X n0 ad0 A (fun r w' => r = some (.int 1) ∧ w'.length = 6)) args s 0 0 A) n0 ad0 20 [(2, .int (nI i)), (0, .ref 0), (1, .int 2)] [] (wO ih hd nw wp sp) 0 0 := by
  intro k
  induction k with
  | zero =>
    intro i hd hi hl
    have hi : i = 96 := by omega
    subst hi
    refine aw_u F rfl rfl ⟨Nat.le_of_ble_eq_true rfl, Nat.le_of_ble_eq_true rfl⟩ ?_
    refine aw_u F rfl rfl ⟨Nat.le_of_ble_eq_true rfl, Nat.le_of_ble_eq_true rfl⟩ ?_
    refine aw_u F rfl rfl ⟨Nat.le_of_ble_eq_true rfl, Nat.le_of_ble_eq_true rfl⟩ ?_
    refine aw_u F rfl rfl ⟨Nat.le_of_ble_eq_true rfl, Nat.le_of_ble_eq_true rfl⟩ ?_
    refine aw_u F rfl rfl ⟨Nat.le_of_ble_eq_true rfl, Nat.le_of_ble_eq_true rfl⟩ ?_
    exact aw_eq rfl rfl rfl rfl rfl rfl (lp_holdB2 X l hn hw hs F 600 0 hd rfl hl)
  | succ k ih2 =>
    intro i hd hi hl
    have h2 : i < 2 ^ 31 := by omega
    refine aw_u F rfl rfl ⟨Nat.le_of_ble_eq_true rfl, Nat.le_of_ble_eq_true rfl⟩ ?_
    refine aw_u F rfl rfl ⟨Nat.le_of_ble_eq_true rfl, Nat.le_of_ble_eq_true rfl⟩ ?_
    refine aw_ic F rfl (of_decide_eq_true rfl) (fun hc => ?_) (fun hc => ?_)
    · have h1 : nI 96 ≤ nI i := of_decide_eq_true hc
      exact absurd ((nI_leI (by omega) (by omega)).mp h1) (by omega)
    refine aw_u F rfl rfl ⟨Nat.le_of_ble_eq_true rfl, Nat.le_of_ble_eq_true rfl⟩ ?_
    refine aw_u F rfl rfl ⟨Nat.le_of_ble_eq_true rfl, Nat.le_of_ble_eq_true rfl⟩ ?_
    refine aw_u F rfl rfl ⟨Nat.le_of_ble_eq_true rfl, Nat.le_of_ble_eq_true rfl⟩ ?_
    refine aw_u F rfl rfl ⟨Nat.le_of_ble_eq_true rfl, Nat.le_of_ble_eq_true rfl⟩ ?_
    refine aw_u F rfl rfl ⟨Nat.le_of_ble_eq_true rfl, Nat.le_of_ble_eq_true rfl⟩ ?_
    refine aw_u F rfl rfl ⟨Nat.le_of_ble_eq_true rfl, Nat.le_of_ble_eq_true rfl⟩ ?_
    refine aw_u F rfl rfl ⟨Nat.le_of_ble_eq_true rfl, Nat.le_of_ble_eq_true rfl⟩ ?_
    refine aw_u F rfl rfl ⟨Nat.le_of_ble_eq_true rfl, Nat.le_of_ble_eq_true rfl⟩ ?_
    refine aw_u F rfl rfl ⟨Nat.le_of_ble_eq_true rfl, Nat.le_of_ble_eq_true rfl⟩ ?_
    refine aw_u F rfl rfl ⟨Nat.le_of_ble_eq_true rfl, Nat.le_of_ble_eq_true rfl⟩ ?_
    refine aw_al F rfl rfl (by rw [inR_iff, nI_toInt h2, hn]; omega) ⟨Nat.le_of_ble_eq_true rfl, Nat.le_of_ble_eq_true rfl⟩ ?_
    have e0 : ((Int16.ofInt 1296).toInt32 * 2 : Int32) = nI 2592 := by decide
    have e3 : ((Int16.ofInt 1296).toInt32 * 2 + nI i : Int32) = nI (2592 + i) := by rw [e0, nI_add]
    refine aw_as F rfl rfl (show inR ((Int16.ofInt 1296).toInt32 * 2 + nI i) hd.length = true by rw [e3, inR_iff, nI_toInt (by omega), hl]; omega) ⟨Nat.le_of_ble_eq_true rfl, Nat.le_of_ble_eq_true rfl⟩ ?_
    have e1 : nI i + Int32.ofInt 1 = nI (i + 1) := nI_1 i
    refine aw_u F rfl rfl ⟨Nat.le_of_ble_eq_true rfl, Nat.le_of_ble_eq_true rfl⟩ ?_
    refine aw_u F rfl rfl ⟨Nat.le_of_ble_eq_true rfl, Nat.le_of_ble_eq_true rfl⟩ ?_
    exact aw_eq (lv' := [(2, .int (nI (i + 1))), (0, .ref 0), (1, .int 2)]) (w' := wO ih _ nw wp sp) rfl (by rw [← e1]; rfl) rfl rfl rfl rfl (ih2 (i + 1) _ (by omega) (by rw [List.length_set]; exact hl))
set_option maxHeartbeats 1000000 in
set_option maxRecDepth 100000 in
theorem gM_hold_2 (X : CX) (l : Launch) {hd nw wp sp : List Int32} (hl : hd.length = 3888) (hn : nw.length = 96) (hw : wp.length = 600) (hs : sp.length = 600) : AMet X l (mdOf 306) 11 0 0 [.ref 0, .int 2] (wO [0, 0, 0] hd nw wp sp) (fun r w' => r = some (.int 1) ∧ w'.length = 6) := by
  refine amet_of (allOk _) (by decide) (Nat.le_of_ble_eq_true rfl) (fun p e s m vs below meth c A ad F => ?_)
  refine aw_u F rfl rfl ⟨Nat.le_of_ble_eq_true rfl, Nat.le_of_ble_eq_true rfl⟩ ?_
  refine aw_u F rfl rfl ⟨Nat.le_of_ble_eq_true rfl, Nat.le_of_ble_eq_true rfl⟩ ?_
  refine aw_u F rfl rfl ⟨Nat.le_of_ble_eq_true rfl, Nat.le_of_ble_eq_true rfl⟩ ?_
  refine aw_S3p F rfl rfl ⟨Nat.le_of_ble_eq_true rfl, Nat.le_of_ble_eq_true rfl⟩ ⟨Nat.le_of_ble_eq_true rfl, Nat.le_of_ble_eq_true rfl⟩ (hI_in_yes X l _ 2 0 2 (by decide)) ?_
  refine aw_u F rfl rfl ⟨Nat.le_of_ble_eq_true rfl, Nat.le_of_ble_eq_true rfl⟩ ?_
  refine aw_u F rfl rfl ⟨Nat.le_of_ble_eq_true rfl, Nat.le_of_ble_eq_true rfl⟩ ?_
  refine aw_u F rfl rfl ⟨Nat.le_of_ble_eq_true rfl, Nat.le_of_ble_eq_true rfl⟩ ?_
  refine aw_u F rfl rfl ⟨Nat.le_of_ble_eq_true rfl, Nat.le_of_ble_eq_true rfl⟩ ?_
  refine aw_u F rfl rfl ⟨Nat.le_of_ble_eq_true rfl, Nat.le_of_ble_eq_true rfl⟩ ?_
  refine aw_u F rfl rfl ⟨Nat.le_of_ble_eq_true rfl, Nat.le_of_ble_eq_true rfl⟩ ?_
  refine aw_u F rfl rfl ⟨Nat.le_of_ble_eq_true rfl, Nat.le_of_ble_eq_true rfl⟩ ?_
  refine aw_u F rfl rfl ⟨Nat.le_of_ble_eq_true rfl, Nat.le_of_ble_eq_true rfl⟩ ?_
  exact aw_eq rfl rfl rfl (w' := wO _ hd nw wp sp) rfl rfl rfl (lp_holdA2 X l hn hw hs F 96 0 hd rfl hl)
