def wP (n : Int32) (ll : List Int32) : List AE := [.inr (.inr (.inr (7, [.ref 1, .int n, .ref 10, .ref 11, .ref 12, .ref 13, .int 0, .int 0, .long 0]))), .inl (1, ll)]
set_option maxHeartbeats 1000000 in
set_option maxRecDepth 100000 in
theorem hP_room (X : CX) (l : Launch) {n mm : Nat} (ll : List Int32) (hn : n + mm ≤ 2000) : AMet X l (mdOf 97) 4 0 0 [.ref 0, .int (nI mm)] (wP (nI n) ll) (fun r w' => r = some (.int 1) ∧ w' = wP (nI n) ll) := by
  refine amet_of (allOk _) (by decide) (Nat.le_of_ble_eq_true rfl) (fun p e s m vs below meth c A ad F => ?_)
  refine aw_u F rfl rfl ⟨Nat.le_of_ble_eq_true rfl, Nat.le_of_ble_eq_true rfl⟩ ?_
  refine aw_u F rfl rfl ⟨Nat.le_of_ble_eq_true rfl, Nat.le_of_ble_eq_true rfl⟩ ?_
  refine aw_u F rfl rfl ⟨Nat.le_of_ble_eq_true rfl, Nat.le_of_ble_eq_true rfl⟩ ?_
  refine aw_u F rfl rfl ⟨Nat.le_of_ble_eq_true rfl, Nat.le_of_ble_eq_true rfl⟩ ?_
  refine aw_u F rfl rfl ⟨Nat.le_of_ble_eq_true rfl, Nat.le_of_ble_eq_true rfl⟩ ?_
  refine aw_ic F rfl (of_decide_eq_true rfl) (fun hc => ?_) (fun hc => ?_)
  · have h1 : nI 2000 < nI n + nI mm := of_decide_eq_true hc
    rw [nI_add] at h1
    exact absurd ((nI_ltI (by omega) (by omega)).mp h1) (by omega)
  refine aw_u F rfl rfl ⟨Nat.le_of_ble_eq_true rfl, Nat.le_of_ble_eq_true rfl⟩ ?_
  refine aw_u F rfl rfl ⟨Nat.le_of_ble_eq_true rfl, Nat.le_of_ble_eq_true rfl⟩ ?_
  exact aw_iret F rfl rfl rfl ⟨Nat.le_of_ble_eq_true rfl, Nat.le_of_ble_eq_true rfl⟩ ⟨rfl, rfl⟩
set_option maxHeartbeats 1000000 in
set_option maxRecDepth 100000 in
theorem lp_add (X : CX) (l : Launch) {p : Program} {e : Env} {s : State} {m : MethodId} {args : Array Value} {below : List Frame} {meth : Method} {c : Code} {A : Nat → Prop} {n0 : Nat} {ad0 : Nat → Nat} (x sh : Int32) (hsh : cmpB .lt sh 0 = false) {n : Nat} (hn : n + 1 ≤ 2000) {ll : List Int32} (hll : ll.length = 2000) {Q : State → Prop} (F : MF X (mdOf 98) (rmA 5 0 0) p s m args meth c A)
    (hk : ∀ ll' : List Int32, ll'.length = 2000 → AW X l (mdOf 98) (rmA 5 0 0) p e s m args below meth c A Q n0 ad0 3 [(2, .int (sh + Int32.ofInt (-8))), (0, .ref 0), (1, .int x)] [] (wP (nI (n + 1)) ll') 0 0) : AW X l (mdOf 98) (rmA 5 0 0) p e s m args below meth c A Q n0 ad0 3 [(2, .int sh), (0, .ref 0), (1, .int x)] [] (wP (nI n) ll) 0 0 := by
  refine aw_u F rfl rfl ⟨Nat.le_of_ble_eq_true rfl, Nat.le_of_ble_eq_true rfl⟩ ?_
  refine aw_if F rfl (of_decide_eq_true rfl) (fun hc => ?_) (fun _ => ?_)
  · exact absurd hc (by rw [hsh]; decide)
  refine aw_u F rfl rfl ⟨Nat.le_of_ble_eq_true rfl, Nat.le_of_ble_eq_true rfl⟩ ?_
  refine aw_u F rfl rfl ⟨Nat.le_of_ble_eq_true rfl, Nat.le_of_ble_eq_true rfl⟩ ?_
  refine aw_V1p F rfl rfl ⟨Nat.le_of_ble_eq_true rfl, Nat.le_of_ble_eq_true rfl⟩ ⟨Nat.le_of_ble_eq_true rfl, Nat.le_of_ble_eq_true rfl⟩ (hP_room X l (mm := 1) ll hn) ?_
  refine aw_u F rfl rfl ⟨Nat.le_of_ble_eq_true rfl, Nat.le_of_ble_eq_true rfl⟩ ?_
  refine aw_u F rfl rfl ⟨Nat.le_of_ble_eq_true rfl, Nat.le_of_ble_eq_true rfl⟩ ?_
  refine aw_u F rfl rfl ⟨Nat.le_of_ble_eq_true rfl, Nat.le_of_ble_eq_true rfl⟩ ?_
  refine aw_u F rfl rfl ⟨Nat.le_of_ble_eq_true rfl, Nat.le_of_ble_eq_true rfl⟩ ?_
  refine aw_u F rfl rfl ⟨Nat.le_of_ble_eq_true rfl, Nat.le_of_ble_eq_true rfl⟩ ?_
  refine aw_u F rfl rfl ⟨Nat.le_of_ble_eq_true rfl, Nat.le_of_ble_eq_true rfl⟩ ?_
  refine aw_u F rfl rfl ⟨Nat.le_of_ble_eq_true rfl, Nat.le_of_ble_eq_true rfl⟩ ?_
  refine aw_u F rfl rfl ⟨Nat.le_of_ble_eq_true rfl, Nat.le_of_ble_eq_true rfl⟩ ?_
  refine aw_u F rfl rfl ⟨Nat.le_of_ble_eq_true rfl, Nat.le_of_ble_eq_true rfl⟩ ?_
  refine aw_bs F rfl rfl (by rw [inR_iff, nI_toInt (by omega), hll]; omega) ⟨Nat.le_of_ble_eq_true rfl, Nat.le_of_ble_eq_true rfl⟩ ?_
  refine aw_u F rfl rfl ⟨Nat.le_of_ble_eq_true rfl, Nat.le_of_ble_eq_true rfl⟩ ?_
  refine aw_u F rfl rfl ⟨Nat.le_of_ble_eq_true rfl, Nat.le_of_ble_eq_true rfl⟩ ?_
  refine aw_u F rfl rfl ⟨Nat.le_of_ble_eq_true rfl, Nat.le_of_ble_eq_true rfl⟩ ?_
  refine aw_u F rfl rfl ⟨Nat.le_of_ble_eq_true rfl, Nat.le_of_ble_eq_true rfl⟩ ?_
  refine aw_u F rfl rfl ⟨Nat.le_of_ble_eq_true rfl, Nat.le_of_ble_eq_true rfl⟩ ?_
  refine aw_pi F rfl rfl rfl rfl rfl ⟨Nat.le_of_ble_eq_true rfl, Nat.le_of_ble_eq_true rfl⟩ ?_
  refine aw_u F rfl rfl ⟨Nat.le_of_ble_eq_true rfl, Nat.le_of_ble_eq_true rfl⟩ ?_
  refine aw_u F rfl rfl ⟨Nat.le_of_ble_eq_true rfl, Nat.le_of_ble_eq_true rfl⟩ ?_
  have e1 : nI n + Int32.ofInt 1 = nI (n + 1) := nI_1 n
  refine aw_eq rfl rfl rfl (w' := wP (nI (n + 1)) _) (by rw [← e1]; rfl) rfl rfl (hk _ (by rw [List.length_set]; exact hll))
set_option maxHeartbeats 1000000 in
set_option maxRecDepth 100000 in
theorem hP_add (X : CX) (l : Launch) {n : Nat} (hn : n + 4 ≤ 2000) (x : Int32) {ll : List Int32} (hll : ll.length = 2000) : AMet X l (mdOf 98) 5 0 0 [.ref 0, .int x] (wP (nI n) ll) (fun r w' => r = none ∧ ∃ ll', ll'.length = 2000 ∧ w' = wP (nI (n + 4)) ll') := by
  refine amet_of (allOk _) (by decide) (Nat.le_of_ble_eq_true rfl) (fun p e s m vs below meth c A ad F => ?_)
  refine aw_u F rfl rfl ⟨Nat.le_of_ble_eq_true rfl, Nat.le_of_ble_eq_true rfl⟩ ?_
  refine aw_u F rfl rfl ⟨Nat.le_of_ble_eq_true rfl, Nat.le_of_ble_eq_true rfl⟩ ?_
  refine lp_add X l x _ rfl (by omega) hll F (fun l1 h1 => ?_)
  refine lp_add X l x _ rfl (by omega) h1 F (fun l2 h2 => ?_)
  refine lp_add X l x _ rfl (by omega) h2 F (fun l3 h3 => ?_)
  refine lp_add X l x _ rfl (by omega) h3 F (fun l4 h4 => ?_)
  refine aw_u F rfl rfl ⟨Nat.le_of_ble_eq_true rfl, Nat.le_of_ble_eq_true rfl⟩ ?_
  refine aw_u F rfl rfl ⟨Nat.le_of_ble_eq_true rfl, Nat.le_of_ble_eq_true rfl⟩ ?_
  exact aw_vret F rfl rfl ⟨Nat.le_of_ble_eq_true rfl, Nat.le_of_ble_eq_true rfl⟩ ⟨rfl, l4, h4, rfl⟩
def wFd (ll : List Int32) : List AE := [.inr (.inr (.inr (11, [.ref 1, .ref 27, .ref 40, .ref 42, .ref 44, .ref 121, .ref 125, .ref 130, .ref 148]))), .inr (.inr (.inr (5, [.ref 2, .ref 12, .ref 13, .int 0, .ref 14, .int 0, .int (-1), .int 0, .int 0, .int 0, .long 0, .int 0]))), .inr (.inr (.inr (7, [.ref 3, .int 0, .ref 8, .ref 9, .ref 10, .ref 11, .int 0, .int 0, .long 0]))), .inl (1, ll)]
set_option maxHeartbeats 1000000 in
set_option maxRecDepth 100000 in
theorem gC_feed (X : CX) (l : Launch) (x1 x2 x3 x4 x5 : Int32) {ll : List Int32} (hll : ll.length = 2000) : AMet X l (mdOf 145) 11 0 0 [.ref 0, .int x1, .int x2, .int x3, .int x4, .int x5] (wFd ll) (fun r w' => r = some (.int 20) ∧ w'.length = 4) := by
  refine amet_of (allOk _) (by decide) (Nat.le_of_ble_eq_true rfl) (fun p e s m vs below meth c A ad F => ?_)
  refine aw_u F rfl rfl ⟨Nat.le_of_ble_eq_true rfl, Nat.le_of_ble_eq_true rfl⟩ ?_
  refine aw_u F rfl rfl ⟨Nat.le_of_ble_eq_true rfl, Nat.le_of_ble_eq_true rfl⟩ ?_
  refine aw_u F rfl rfl ⟨Nat.le_of_ble_eq_true rfl, Nat.le_of_ble_eq_true rfl⟩ ?_
  refine aw_u F rfl rfl ⟨Nat.le_of_ble_eq_true rfl, Nat.le_of_ble_eq_true rfl⟩ ?_
  refine aw_u F rfl rfl ⟨Nat.le_of_ble_eq_true rfl, Nat.le_of_ble_eq_true rfl⟩ ?_
  refine aw_u F rfl rfl ⟨Nat.le_of_ble_eq_true rfl, Nat.le_of_ble_eq_true rfl⟩ ?_
  refine aw_V1F (ix := [2, 3]) F rfl rfl ⟨Nat.le_of_ble_eq_true rfl, Nat.le_of_ble_eq_true rfl⟩ ⟨Nat.le_of_ble_eq_true rfl, Nat.le_of_ble_eq_true rfl⟩ (hP_room X l (n := 0) (mm := 20) ll (by omega)) (emb_of rfl rfl rfl) rfl (fun r w' hq => ?_)
  obtain ⟨rfl, rfl⟩ := hq
  refine ⟨rfl, ?_⟩
  refine aw_u F rfl rfl ⟨Nat.le_of_ble_eq_true rfl, Nat.le_of_ble_eq_true rfl⟩ ?_
  refine aw_u F rfl rfl ⟨Nat.le_of_ble_eq_true rfl, Nat.le_of_ble_eq_true rfl⟩ ?_
  refine aw_u F rfl rfl ⟨Nat.le_of_ble_eq_true rfl, Nat.le_of_ble_eq_true rfl⟩ ?_
  refine aw_V1F (ix := [2, 3]) F rfl rfl ⟨Nat.le_of_ble_eq_true rfl, Nat.le_of_ble_eq_true rfl⟩ ⟨Nat.le_of_ble_eq_true rfl, Nat.le_of_ble_eq_true rfl⟩ (hP_add X l (n := 0) (by omega) x1 hll) (emb_of rfl rfl rfl) rfl (fun r w' hq => ?_)
  obtain ⟨rfl, l1, h1, rfl⟩ := hq
  refine ⟨rfl, ?_⟩
  refine aw_u F rfl rfl ⟨Nat.le_of_ble_eq_true rfl, Nat.le_of_ble_eq_true rfl⟩ ?_
  refine aw_u F rfl rfl ⟨Nat.le_of_ble_eq_true rfl, Nat.le_of_ble_eq_true rfl⟩ ?_
  refine aw_V1F (ix := [2, 3]) F rfl rfl ⟨Nat.le_of_ble_eq_true rfl, Nat.le_of_ble_eq_true rfl⟩ ⟨Nat.le_of_ble_eq_true rfl, Nat.le_of_ble_eq_true rfl⟩ (hP_add X l (n := 4) (by omega) x2 h1) (emb_of rfl rfl rfl) rfl (fun r w' hq => ?_)
  obtain ⟨rfl, l2, h2, rfl⟩ := hq
  refine ⟨rfl, ?_⟩
  refine aw_u F rfl rfl ⟨Nat.le_of_ble_eq_true rfl, Nat.le_of_ble_eq_true rfl⟩ ?_
  refine aw_u F rfl rfl ⟨Nat.le_of_ble_eq_true rfl, Nat.le_of_ble_eq_true rfl⟩ ?_
  refine aw_V1F (ix := [2, 3]) F rfl rfl ⟨Nat.le_of_ble_eq_true rfl, Nat.le_of_ble_eq_true rfl⟩ ⟨Nat.le_of_ble_eq_true rfl, Nat.le_of_ble_eq_true rfl⟩ (hP_add X l (n := 8) (by omega) x3 h2) (emb_of rfl rfl rfl) rfl (fun r w' hq => ?_)
  obtain ⟨rfl, l3, h3, rfl⟩ := hq
  refine ⟨rfl, ?_⟩
  refine aw_u F rfl rfl ⟨Nat.le_of_ble_eq_true rfl, Nat.le_of_ble_eq_true rfl⟩ ?_
  refine aw_u F rfl rfl ⟨Nat.le_of_ble_eq_true rfl, Nat.le_of_ble_eq_true rfl⟩ ?_
  refine aw_V1F (ix := [2, 3]) F rfl rfl ⟨Nat.le_of_ble_eq_true rfl, Nat.le_of_ble_eq_true rfl⟩ ⟨Nat.le_of_ble_eq_true rfl, Nat.le_of_ble_eq_true rfl⟩ (hP_add X l (n := 12) (by omega) x4 h3) (emb_of rfl rfl rfl) rfl (fun r w' hq => ?_)
  obtain ⟨rfl, l4, h4, rfl⟩ := hq
  refine ⟨rfl, ?_⟩
  refine aw_u F rfl rfl ⟨Nat.le_of_ble_eq_true rfl, Nat.le_of_ble_eq_true rfl⟩ ?_
  refine aw_u F rfl rfl ⟨Nat.le_of_ble_eq_true rfl, Nat.le_of_ble_eq_true rfl⟩ ?_
  refine aw_V1F (ix := [2, 3]) F rfl rfl ⟨Nat.le_of_ble_eq_true rfl, Nat.le_of_ble_eq_true rfl⟩ ⟨Nat.le_of_ble_eq_true rfl, Nat.le_of_ble_eq_true rfl⟩ (hP_add X l (n := 16) (by omega) x5 h4) (emb_of rfl rfl rfl) rfl (fun r w' hq => ?_)
  obtain ⟨rfl, l5, h5, rfl⟩ := hq
  refine ⟨rfl, ?_⟩
  refine aw_u F rfl rfl ⟨Nat.le_of_ble_eq_true rfl, Nat.le_of_ble_eq_true rfl⟩ ?_
  refine aw_u F rfl rfl ⟨Nat.le_of_ble_eq_true rfl, Nat.le_of_ble_eq_true rfl⟩ ?_
  exact aw_iret F rfl rfl rfl ⟨Nat.le_of_ble_eq_true rfl, Nat.le_of_ble_eq_true rfl⟩ ⟨rfl, rfl⟩
