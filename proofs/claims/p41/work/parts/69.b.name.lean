/-! names and ints of a thing told, on both sides -/
/-- the reference's place and flags alone change -/
def FS (S S' : WS) : Prop := (∀ c j, ¬ (c = 148 ∧ 11 ≤ j ∧ j ≤ 16 ∧ j ≠ 12) → S'.1 c j = S.1 c j) ∧ S'.2 = S.2
/-- n names, alike on both sides, each once -/
def NM (T : TZ) (S : WS) (n : Nat) : Prop := n ≤ 16 ∧ (T.1 1 3).toInt = (n : Int) ∧ nmS S = (n : Int) ∧ (∀ i, i < n → NMR (T.2 8 i) (S.2.1 156 i) ∧ T.1 9 i = S.1 157 i ∧ 0 ≤ (T.1 9 i).toInt ∧ (T.1 9 i).toInt ≤ 15) ∧ ∀ i j, i < j → j < n → T.2 8 i ≠ T.2 8 j
section TEL
variable {x y d dm t E n : Nat} {T T' T1 T2 : TZ} {S S' S1 S2 : WS} {k m x1 x2 : Int32}
theorem fs_r (S : WS) : FS S S := ⟨fun _ _ _ => rfl, rfl⟩
theorem fs_t (h : FS S S1) (k : FS S1 S2) : FS S S2 := ⟨fun c j q => (k.1 c j q).trans (h.1 c j q), k.2.trans h.2⟩
theorem fs_i {j : Nat} (v : Int32) (h : 11 ≤ j ∧ j ≤ 16 ∧ j ≠ 12) : FS S (uI S 148 j v) := ⟨fun c i q => uI_no _ _ _ _ (fun z => q ⟨z.1, by omega, by omega, by omega⟩), rfl⟩
theorem fs_go : FS S (goS S) := fs_i _ (by omega)
theorem cu_fs (h : CU T S E t) (hT : FC T T') (hS : FS S S') (h7 : T'.1 1 7 = T.1 1 7) (h8 : T'.1 1 8 = T.1 1 8) (ht : tkS S' = tkS S) (hf : ftS S' = 0) (hb : BLM T' S') (hw : wok EC (WD S')) : CU T' S' E t := by
  obtain ⟨a1, a2, a3, a4, a5, a6, a7, a8⟩ := h
  exact ⟨tok_c (fun i => hT.1 5 i (by omega)) (fun i => hT.2 7 i (by omega)) (fun i _ => hS.1 151 i (by omega)) (fun i _ => hS.1 153 i (by omega)) (fun i _ => by rw [hS.2]) a1, a2, by rw [h7]; exact a3, by rw [ht]; exact a4, by rw [h8, hT.1 5 t (by omega)]; exact a5, hf, hb, hw⟩
theorem wrong_s (hw : wok EC (WD S)) (h2 : 0 ≤ x2.toInt ∧ x2.toInt ≤ 402) (h1 : 0 < x1.toInt ∧ x1.toInt ≤ 5) (hf : ftS S = 0) : ∃ S', RX (d + 1) 207 [.ref 148, .int x1, .int x2] S = some (none, S') ∧ FS S S' ∧ wok EC (WD S') ∧ ftS S' = 0 ∧ tkS S' = tkS S ∧ woS S' ≠ 0 := by
  have h0 : x1.toInt ≠ 0 := by omega
  have h46 : ∀ o2 x3, ∃ S', limK (RX d) (mdOf 207) 46 [some (.ref 148), some (.int x1), o2, some (.int x3)] [] S = some (none, S') ∧ FS S S' ∧ wok EC (WD S') ∧ ftS S' = 0 ∧ tkS S' = tkS S ∧ woS S' ≠ 0 := fun o2 x3 => by
    rw [q_X12_wrong_46]
    exact ⟨_, rfl, fs_t (fs_i _ (by omega)) (fs_i _ (by omega)), (up_f (md := [(47, 15), (47, 16)]) (up_f (up_r hw) rfl rfl rfl rfl rfl ⟨by omega, by omega⟩) rfl rfl rfl rfl rfl (r32 _)).1, hf, rfl, h0⟩
  have h45 : ∀ o2 x3, woS S ≠ 0 → ∃ S', limK (RX d) (mdOf 207) 45 [some (.ref 148), some (.int x1), o2, some (.int x3)] [] S = some (none, S') ∧ FS S S' ∧ wok EC (WD S') ∧ ftS S' = 0 ∧ tkS S' = tkS S ∧ woS S' ≠ 0 := fun o2 x3 g => by
    rw [q_X12_wrong_45]
    exact ⟨S, rfl, fs_r S, hw, hf, rfl, g⟩
  rw [e_X12_wrong, q_X12_wrong_0, inR_of (n := 403) (by omega) (by omega), cond_true, gt_f (show (S.1 148 13).toInt ≤ (0 : Int32).toInt by show ftS S ≤ 0; omega), cond_false]
  rcases c_eq (S.1 148 15) 0 with ⟨b1, b2⟩ | ⟨b1, b2⟩
  · rw [b1, cond_true]; exact h46 _ _
  · have b2 : woS S ≠ 0 := b2
    rw [b1, cond_false]
    cases cmpB .gt (S.1 152 x2.toNatClampNeg) (S.1 148 16) with
    | true => rw [cond_true]; exact h45 _ _ b2
    | false =>
      rw [cond_false]
      cases cmpB .ne (S.1 152 x2.toNatClampNeg) (S.1 148 16) with
      | true => rw [cond_true]; exact h46 _ _
      | false =>
        rw [cond_false]
        cases cmpB .lt x1 (S.1 148 15) with
        | true => rw [cond_true]; exact h46 _ _
        | false => rw [cond_false]; exact h45 _ _ b2
theorem blame_c (hy : y = 10 ∨ y = 23) (hk : k.toInt ≠ 0) : ∃ T', RX (d + 1) 75 [.ref 1, .int k] (wS x y T) = some (none, wS x y T') ∧ FC T T' ∧ (T'.1 1 5).toInt ≠ 0 ∧ T'.1 1 7 = T.1 1 7 ∧ T'.1 1 8 = T.1 1 8 ∧ T'.2 = T.2 := by
  rw [e_X5_blame, q_X5_blame_0 (hy := hy)]
  rcases c_ne (T.1 1 5) 0 with ⟨a1, a2⟩ | ⟨a1, a2⟩
  · rw [a1, cond_true, q_X5_blame_20 (hy := hy)]
    exact ⟨T, rfl, fc_r T, a2, rfl, rfl, rfl⟩
  · rw [a1, cond_false, q_X5_blame_20 (hy := hy)]
    refine ⟨_, rfl, fc_t (fc_i _ (by omega) (by omega)) (fc_i _ (by omega) (by omega)), ?_, ?_, ?_, rfl⟩
    · rw [zI_j _ (by decide), zI_i]; exact hk
    · rw [zI_j _ (by decide), zI_j _ (by decide)]
    · rw [zI_j _ (by decide), zI_j _ (by decide)]
theorem taken_c (hy : y = 10 ∨ y = 23) : RX (d + 1) 73 [.ref 1] (wS x y T) = some (some (.int ((T.2 1 10).toInt32)), wS x y T) := by
  rw [e_X5_taken, q_X5_taken_0 (hy := hy)]
theorem tk_fs (h : FS S S') (h11 : S'.1 148 11 = S.1 148 11) : tkS S' = tkS S := by show (S'.1 148 11).toInt = _; rw [h11]
/-- an int within bounds -/
theorem int_l (hy : y = 10 ∨ y = 23) (h : CU T S E t) :
    (∃ T' S', RX (d + 2) 68 [.ref 1, .int x1, .int x2] (wS x y T) = some (some (.int 1), wS x y T') ∧ RX (dm + 3) 218 [.ref 148, .int x1, .int x2] S = some (some (.int (S.1 153 t)), S') ∧ CU T' S' E (t + 1) ∧ FC T T' ∧ FS S S' ∧ (T'.2 1 10).toInt32 = S.1 153 t ∧ (0 ≤ (S.1 153 t).toInt ∧ (S.1 153 t).toInt ≤ 9999) ∧ ((T'.1 1 5).toInt = 0 → (T.1 1 5).toInt = 0 ∧ x1.toInt ≤ (S.1 153 t).toInt ∧ (S.1 153 t).toInt ≤ x2.toInt)) ∨
    (∃ T' S' r, RX (d + 2) 68 [.ref 1, .int x1, .int x2] (wS x y T) = some (some (.int 0), wS x y T') ∧ RX (dm + 3) 218 [.ref 148, .int x1, .int x2] S = some (some (.int r), S') ∧ (T'.1 1 5).toInt ≠ 0 ∧ ftS S' ≠ 0 ∧ wok EC (WD S')) := by
  have hC := h
  obtain ⟨a1, a2, a3, a4, a5, a6, a7, a8⟩ := h
  have hE := a1.1
  have hkr := kr_iff (a1.2.1 t a2).1 (show ((3 : Int), (2 : Int)) ∈ kT by decide)
  have hcl : RX (d + 2) 68 [.ref 1, .int x1, .int x2] (wS x y T) = kbd (limK (RX (d + 1)) (mdOf 68)) 5 [some (.ref 1), some (.int x1), some (.int x2)] [] (RX (d + 1) 67 [.ref 1, .int 3] (wS x y T)) := by rw [e_X5_takeInt, q_X5_takeInt_0 (hy := hy)]
  have hrf : RX (dm + 3) 218 [.ref 148, .int x1, .int x2] S = kbd (limK (RX (dm + 2)) (mdOf 218)) 12 [some (.ref 148), some (.int x1), some (.int x2), none] [] (RX (dm + 2) 205 [.ref 148, .int 2] S) := by
    rw [e_X12_bounded, q_X12_bounded_0, gt_f (show (S.1 148 13).toInt ≤ (0 : Int32).toInt by show ftS S ≤ 0; omega), cond_false]
  have hc0 : ∀ T', RX (d + 1) 67 [.ref 1, .int 3] (wS x y T) = some (some (.int 0), wS x y T') → RX (d + 2) 68 [.ref 1, .int x1, .int x2] (wS x y T) = some (some (.int 0), wS x y T') := fun T' q => by
    rw [hcl, q]
    show limK (RX (d + 1)) (mdOf 68) 5 _ [.int 0] _ = _
    rw [q_X5_takeInt_5 (hy := hy)]
    rfl
  rcases is_x (d := dm + 1) a8 a4 a6 2 with ⟨b1, b2⟩ | ⟨b1, b2⟩
  · have hk3 : T.1 5 t = 3 := Int32.toInt_inj.mp (hkr.mpr (by rw [b1]; rfl))
    obtain ⟨v1, v2, v3⟩ := (a1.2.1 t a2).2.1 (by rw [hk3]; rfl)
    have hv : (T.2 7 t).toInt32 = S.1 153 t := Int32.toInt_inj.mp (by rw [Int64.toInt_toInt32, v1]; exact bm32 (by omega) (by omega))
    have h12 : kbd (limK (RX (dm + 2)) (mdOf 218)) 12 [some (.ref 148), some (.int x1), some (.int x2), none] [] (RX (dm + 2) 205 [.ref 148, .int 2] S) = cond (cmpB .lt (S.1 153 t) x1) (limK (RX (dm + 2)) (mdOf 218) 42 [some (.ref 148), some (.int x1), some (.int x2), some (.int (S.1 153 t))] [] S) (cond (cmpB .le (S.1 153 t) x2) (limK (RX (dm + 2)) (mdOf 218) 51 [some (.ref 148), some (.int x1), some (.int x2), some (.int (S.1 153 t))] [] S) (limK (RX (dm + 2)) (mdOf 218) 42 [some (.ref 148), some (.int x1), some (.int x2), some (.int (S.1 153 t))] [] S)) := by
      rw [b2]
      show limK (RX (dm + 2)) (mdOf 218) 12 _ [.int 1] S = _
      rw [q_X12_bounded_12, show cmpB .ne (1 : Int32) 0 = true from rfl, cond_true, inR_of (n := 403) (by show 0 ≤ tkS S; omega) (by show tkS S < _; omega), cond_true, tnc (show (S.1 148 11).toInt = (t : Int) from a4)]
    obtain ⟨S1, m1, m2, m3, m4, m5, m6⟩ : ∃ S1, RX (dm + 3) 218 [.ref 148, .int x1, .int x2] S = kbd (limK (RX (dm + 2)) (mdOf 218)) 55 [some (.ref 148), some (.int x1), some (.int x2), some (.int (S.1 153 t))] [] (RX (dm + 2) 208 [.ref 148] S1) ∧ FS S S1 ∧ wok EC (WD S1) ∧ ftS S1 = 0 ∧ tkS S1 = tkS S ∧ ((S1 = S ∧ x1.toInt ≤ (S.1 153 t).toInt ∧ (S.1 153 t).toInt ≤ x2.toInt) ∨ (woS S1 ≠ 0 ∧ ¬ (x1.toInt ≤ (S.1 153 t).toInt ∧ (S.1 153 t).toInt ≤ x2.toInt))) := by
      have h42 : ¬ (x1.toInt ≤ (S.1 153 t).toInt ∧ (S.1 153 t).toInt ≤ x2.toInt) → ∃ S1, limK (RX (dm + 2)) (mdOf 218) 42 [some (.ref 148), some (.int x1), some (.int x2), some (.int (S.1 153 t))] [] S = kbd (limK (RX (dm + 2)) (mdOf 218)) 55 [some (.ref 148), some (.int x1), some (.int x2), some (.int (S.1 153 t))] [] (RX (dm + 2) 208 [.ref 148] S1) ∧ FS S S1 ∧ wok EC (WD S1) ∧ ftS S1 = 0 ∧ tkS S1 = tkS S ∧ ((S1 = S ∧ x1.toInt ≤ (S.1 153 t).toInt ∧ (S.1 153 t).toInt ≤ x2.toInt) ∨ (woS S1 ≠ 0 ∧ ¬ (x1.toInt ≤ (S.1 153 t).toInt ∧ (S.1 153 t).toInt ≤ x2.toInt))) := fun q => by
        obtain ⟨S1, w1, w2, w3, w4, w5, w6⟩ := wrong_s (d := dm + 1) (x1 := 5) (x2 := S.1 148 11) a8 (by show 0 ≤ tkS S ∧ tkS S ≤ 402; omega) (by decide) a6
        refine ⟨S1, ?_, w2, w3, w4, w5, .inr ⟨w6, q⟩⟩
        rw [q_X12_bounded_42, w1]
        show limK (RX (dm + 2)) (mdOf 218) 51 _ [] S1 = _
        rw [q_X12_bounded_51]
      rw [hrf, h12]
      rcases c_lt (S.1 153 t) x1 with ⟨c1, c2⟩ | ⟨c1, c2⟩
      · rw [c1, cond_true]
        exact h42 (by omega)
      · rw [c1, cond_false]
        rcases c_le (S.1 153 t) x2 with ⟨e1, e2⟩ | ⟨e1, e2⟩
        · rw [e1, cond_true, q_X12_bounded_51]
          exact ⟨S, rfl, fs_r S, a8, a6, rfl, .inl ⟨rfl, c2, e2⟩⟩
        · rw [e1, cond_false]
          exact h42 (by omega)
    have m4t : tkS S1 = (t : Int) := by omega
    rcases take_y (x := x) (d := d) hy a5 a3 (by omega) 3 with ⟨c1, c2, c3⟩ | ⟨c1, T', c2, c3, c4⟩
    · rcases goesOn_x (d := dm) m3 m4t with ⟨g1, g2, g3⟩ | ⟨g1, -⟩
      · have hr55 : RX (dm + 3) 218 [.ref 148, .int x1, .int x2] S = some (some (.int (S.1 153 t)), goS S1) := by
          rw [m1, g2]
          show limK (RX (dm + 2)) (mdOf 218) 55 _ [] _ = _
          rw [q_X12_bounded_55]
        have hCt := cu_n hC (by rw [hk3]; decide) (by rw [hk3]; decide) g1 (show wok EC (WD (goS S)) from (by
          have := go_up a8 (by omega : tkS S < 400)
          exact this.1))
        have h14 : RX (d + 2) 68 [.ref 1, .int x1, .int x2] (wS x y T) = cond (cmpB .lt (S.1 153 t) x1) (limK (RX (d + 1)) (mdOf 68) 26 [some (.ref 1), some (.int x1), some (.int x2)] [] (wS x y (tkT T t))) (cond (cmpB .le (S.1 153 t) x2) (limK (RX (d + 1)) (mdOf 68) 31 [some (.ref 1), some (.int x1), some (.int x2)] [] (wS x y (tkT T t))) (limK (RX (d + 1)) (mdOf 68) 26 [some (.ref 1), some (.int x1), some (.int x2)] [] (wS x y (tkT T t)))) := by
          have ht7 : RX (d + 1) 73 [.ref 1] (wS x y (tkT T t)) = some (some (.int (S.1 153 t)), wS x y (tkT T t)) := by rw [taken_c hy, tk_10, hv]
          rw [hcl, c3]
          show limK (RX (d + 1)) (mdOf 68) 5 _ [.int 1] _ = _
          rw [q_X5_takeInt_5 (hy := hy), show cmpB .ne (1 : Int32) 0 = true from rfl, cond_true, ht7]
          show limK (RX (d + 1)) (mdOf 68) 14 _ [.int (S.1 153 t)] _ = _
          rw [q_X5_takeInt_14 (hy := hy), ht7]
          congr 1
          show limK (RX (d + 1)) (mdOf 68) 22 _ [.int (S.1 153 t)] _ = _
          rw [q_X5_takeInt_22 (hy := hy)]
        rcases m6 with ⟨rfl, p1, p2⟩ | ⟨p1, p2⟩
        · refine .inl ⟨tkT T t, goS S1, ?_, hr55, hCt, fc_tk, fs_go, by rw [tk_10, hv], by omega, fun z => ⟨by rw [tk_5] at z; exact z, p1, p2⟩⟩
          rw [h14, lt_f p1, cond_false, le_t p2, cond_true, q_X5_takeInt_31 (hy := hy)]
        · obtain ⟨T', t1, t2, t3, t4, t5, t6⟩ := blame_c (x := x) (d := d) (T := tkT T t) (k := 5) hy (by decide)
          have h26 : limK (RX (d + 1)) (mdOf 68) 26 [some (.ref 1), some (.int x1), some (.int x2)] [] (wS x y (tkT T t)) = some (some (.int 1), wS x y T') := by
            rw [q_X5_takeInt_26 (hy := hy), t1]
            show limK (RX (d + 1)) (mdOf 68) 31 _ [] _ = _
            rw [q_X5_takeInt_31 (hy := hy)]
          have hwo : woS (goS S1) = woS S1 := by show ((goS S1).1 148 15).toInt = _; rw [go_j (by decide)]
          refine .inl ⟨T', goS S1, ?_, hr55, ?_, fc_t fc_tk t2, fs_t m2 fs_go, by rw [t6, tk_10, hv], by omega, fun z => absurd z t3⟩
          · rw [h14]
            rcases c_lt (S.1 153 t) x1 with ⟨e1, e2⟩ | ⟨e1, e2⟩
            · rw [e1, cond_true, h26]
            · rw [e1, cond_false, le_f (by omega), cond_false, h26]
          · refine cu_fs (S := goS S) hCt t2 ?_ t4 t5 ?_ ?_ (.inr ⟨t3, by rw [hwo]; exact p1⟩) g3
            · refine ⟨fun c j q => ?_, m2.2⟩
              rw [fs_go.1 c j q, m2.1 c j q]
              exact (fs_go.1 c j q).symm
            · have := go_tk a8
              have := go_tk m3
              omega
            · show ((goS S1).1 148 13).toInt = 0
              rw [go_j (by decide)]; exact m4
      · omega
    · rcases goesOn_x (d := dm) m3 m4t with ⟨g1, -⟩ | ⟨g1, S', g2, g3, g4, g5⟩
      · rcases c1 with c1 | c1
        · exact absurd hk3 c1
        · omega
      · refine .inr ⟨T', S', S.1 153 t, hc0 T' c2, ?_, c4, g4, g3.1⟩
        rw [m1, g2]
        show limK (RX (dm + 2)) (mdOf 218) 55 _ [] _ = _
        rw [q_X12_bounded_55]
  · rcases take_y (x := x) (d := d) hy a5 a3 (by omega) 3 with ⟨c1, c2, c3⟩ | ⟨c1, T', c2, c3, c4⟩
    · exact absurd (Int32.toInt_inj.mp (hkr.mp (by rw [c1]; rfl))) b1
    · obtain ⟨S', q1, q2, q3⟩ := fail_x (d := dm + 1) (m := 1) a8 (.inl rfl)
      refine .inr ⟨T', S', x1, hc0 T' c2, ?_, c4, q3, q2.1⟩
      rw [hrf, b2]
      show limK (RX (dm + 2)) (mdOf 218) 12 _ [.int 0] S = _
      rw [q_X12_bounded_12, show cmpB .ne (0 : Int32) 0 = false from rfl, cond_false, q_X12_bounded_15, q1]
      show limK (RX (dm + 2)) (mdOf 218) 20 _ [] _ = _
      rw [q_X12_bounded_20]
end TEL
