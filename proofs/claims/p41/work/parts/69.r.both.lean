/-! both readings -/
def RGood (x y d : Nat) (T : TZ) (r : Int32) (Sf : WS) : Prop := ∃ (v : Nat) (S2 S7 S' : WS) (T' T5 : TZ) (t n st sl L n0 E : Nat), r = 0 ∧ v ≤ 1 ∧ (Sf.1 148 18).toInt = (v : Int) ∧ Sf = wS y x (zI (clP T5) 117 3 0) ∧ FRh (sbT T' y) T5 y sl ∧ FRY y (wS x y T) (wS x y (sbT T' y)) ∧ HRl T' S' y (1 - v) t n st sl L n0 ∧ CU T' S' E t ∧ RX (d + 8) 211 [.ref 148] Sf = some (some (.int 0), S2) ∧ NWm S' S2 (1 - v) sl ∧ UPD mdBd Sf S7 ∧ FR v S7 S'
def RBad (x y d : Nat) (T : TZ) (r : Int32) (Sf : WS) : Prop := ∃ (v : Nat) (S2 S7 S' : WS) (T' : TZ) (r2 u : Int32), r.toInt ≠ 0 ∧ v ≤ 1 ∧ (Sf.1 148 18).toInt = (v : Int) ∧ WD Sf = WD (wS x y T') ∧ FRY y (wS x y T) (wS x y T') ∧ RX (d + 8) 211 [.ref 148] Sf = some (some (.int r2), S2) ∧ r2.toInt ≠ 0 ∧ S2 = uI S' 148 17 u ∧ UPD mdBd Sf S7 ∧ FR v S7 S'
section RDF
variable {x y d h s v t sl : Nat} {T T' T1 T3 : TZ} {S S' S7 Sc : WS} {x1 : Int32} {o1 o2 : Option Value}
theorem fry_st (hy : y = 10 ∨ y = 23) (hF : FT (st0 T y) T3) : FRY y (wS x y T) (wS x y (stT T3)) := by
  refine fry_z (fun c j q => ?_) (fun c j q => ?_)
  · have hc : ∀ k, ctyY y k ≠ 0 → c ≠ k := fun k hk e => hk (by rw [← e]; exact q)
    have c1 : c ≠ 1 := hc 1 (by rcases hy with rfl | rfl <;> decide)
    have c2 : c ≠ 2 := hc 2 (by rcases hy with rfl | rfl <;> decide)
    have c5 : c ≠ 5 := hc 5 (by rcases hy with rfl | rfl <;> decide)
    have c6 : c ≠ 6 := hc 6 (by rcases hy with rfl | rfl <;> decide)
    have cy : c ≠ y := hc y (by rcases hy with rfl | rfl <;> decide)
    have cy9 : c ≠ y + 9 := hc (y + 9) (by rcases hy with rfl | rfl <;> decide)
    unfold stT
    rw [zI_ne _ c1, zI_ne _ c1, zI_ne _ c1, zI_ne _ c2, hF.1 c j c5 c6 (by omega)]
    unfold st0 clT
    rw [zI_ne _ c1, zI_ne _ c1, zI_ne _ c1, zI_ne _ cy9, zI_ne _ cy, zI_ne _ cy, zI_ne _ cy, zI_ne _ cy, zI_ne _ cy, zI_ne _ cy]
  · have c2 : c ≠ 2 := fun e => absurd (show ctyY y 2 = 0 by rw [← e]; exact q) (by rcases hy with rfl | rfl <;> decide)
    have c7 : c ≠ 7 := fun e => absurd (show ctyY y 7 = 0 by rw [← e]; exact q) (by rcases hy with rfl | rfl <;> decide)
    show T3.2 c j = T.2 c j
    rw [hF.2 c j c7 (by omega)]
    rfl
theorem read_l (hxy : XY x y) (hw : wok EC (WD (wS x y T))) (hJ : JC (WD (wS x y T))) (hM : JM (WD (wS x y T))) (hR : RLS (wS x y T)) : ∃ (r : Int32) (Sf : WS), RX 54 147 [.ref 0] (wS x y T) = some (some (.int r), Sf) ∧ UPD mdRc (wS x y T) Sf ∧ JC (WD Sf) ∧ (RGood x y d T r Sf ∨ RBad x y d T r Sf) := by
  obtain ⟨hW, hK, ⟨hl, hl0, hl2⟩, hby, hhd⟩ := hR
  have hl : T.1 2 1 = T.1 148 2 := hl
  have hl0 : 0 ≤ (T.1 2 1).toInt := hl0
  have hl2 : (T.1 2 1).toInt ≤ 2000 := hl2
  -- that the class comes to an end
  obtain ⟨r0, Sf, q1, q2⟩ := mex_RX (by decide +kernel) nn1 (s_X11_read 0 [.ref 0] (WD (wS x y T)) rfl (by decide) hw hJ ⟨rfl, trivial⟩ nof noe)
  obtain ⟨w1, w2, w3, -⟩ := q2
  have hU : UPD mdRc (wS x y T) Sf := ⟨w1, w3⟩
  have hMf : JM (WD Sf) := up_jm hU rfl hM
  have hKf : isK Sf := fun i hi => by
    rw [up_ll (t := 0) (n := 18) (c := 155) hU rfl rfl rfl rfl (by omega)]
    exact hK i hi
  have e02 : Sf.1 148 2 = T.1 148 2 := up_fl hU rfl rfl rfl
  obtain ⟨len, hlen⟩ : ∃ len : Nat, (T.1 2 1).toInt = (len : Int) := ⟨(T.1 2 1).toInt.toNat, by omega⟩
  obtain ⟨T3, E, a1, a2, a3, a4⟩ := st_l hxy hw hJ hl2 hl0
  have eb : ∀ i, (st0 T y).1 3 i = T.1 3 i := fun i => by
    unfold st0 clT
    have := xyy hxy
    rw [zI_ne _ (by decide), zI_ne _ (by decide), zI_ne _ (by decide), zI_ne _ (by omega), zI_ne _ (by omega), zI_ne _ (by omega), zI_ne _ (by omega), zI_ne _ (by omega), zI_ne _ (by omega), zI_ne _ (by omega)]
  have el : (st0 T y).1 2 1 = T.1 2 1 := by
    unfold st0 clT
    have := xyy hxy
    rw [zI_ne _ (by decide), zI_ne _ (by decide), zI_ne _ (by decide), zI_ne _ (by omega), zI_ne _ (by omega), zI_ne _ (by omega), zI_ne _ (by omega), zI_ne _ (by omega), zI_ne _ (by omega), zI_ne _ (by omega)]
  obtain ⟨S3, S4, S7, N, v, x', p1, p2, p3, p4, p5, p6, p7, p8, p9, p10, p11, p12, p13, p14, p15⟩ := read_pre (d := d) (S := Sf) (len := len) (b := bC (st0 T y)) w1 hMf (by rw [e02, ← hl]; exact hlen) (fun i hi => by
    unfold bC
    rw [el, eb, hlen, decide_eq_true (by omega : (i : Int) < (len : Int)), up_er (t := 1) (n := 2000) (c := 149) hU rfl rfl rfl rfl (by omega)]
    show T.1 3 i &&& 255 = T.1 149 i &&& 255
    rw [show T.1 3 i = T.1 149 i from hby i (by omega) (by show (i : Int) < (T.1 2 1).toInt; omega)]) (fun i hi => by
    unfold bC
    rw [el, hlen, decide_eq_false (by omega : ¬ (i : Int) < (len : Int))]
    rfl) hKf
  have hT0 : TOK T3 S4 E := tok_of (T := st0 T y) hW p3 (by rw [el]; exact hlen) p2 a2 p4
  have hT1 : TOK (stT T3) S7 E := tok_c (fun i => by
    unfold stT
    rw [zI_ne _ (by decide), zI_ne _ (by decide), zI_ne _ (by decide), zI_ne _ (by decide)]) (fun i => rfl) p5.1 p5.2.1 p5.2.2 hT0
  have hH := hr_0 a4 (v := 1 - v) (by omega) p10 p11 p12 p13
  have hC : CU (stT T3) S7 E 0 := ⟨hT1, by omega, by rw [a4.2.2.1]; rfl, p11.1, a4.2.2.2.1, p11.2.1, .inl ⟨by rw [a4.1]; rfl, p11.2.2.1⟩, p6⟩
  have hcl : RX 54 147 [.ref 0] (wS x y T) = kbd (limK (RX 53) (mdOf 147)) 14 [some (.ref 0)] [] (RX 53 54 [.ref 1] (wS x y (stT T3))) := by
    rw [e_X11_read, q_X11_read_0 (hx := xyx hxy), a1]
    show limK (RX 53) (mdOf 147) 7 _ [] _ = _
    rw [q_X11_read_7 (hx := xyx hxy)]
  have h54 : ∀ z, limK (RX 51) (mdOf 54) 4 [some (.ref 1), some (.int 1), some (.int 0)] [] (wS x y (stT T3)) = some z → RX 53 54 [.ref 1] (wS x y (stT T3)) = some z := fun z q => RX_le (d := 52) (by decide) (by
    rw [e_X5_readTells, q_X5_readTells_0 (hy := xyy hxy)]
    exact q)
  have hv : 1 - (1 - v) = v := by omega
  rcases loop_tl (x := x) (d := d) (o1 := some (.int x')) (xyy hxy) (v := 1 - v) (by omega) 401 0 (stT T3) S7 0 0 0 0 0 0 (130 * (1 - v)) (by omega) hC (by rw [a4.1]; rfl) hH a3 rfl (by omega) p7 with ⟨T', S', t', n, st, sl, L, n0, g1, g2, g3, g4, g5, g6, g7, g8⟩ | ⟨Sc, S', g1, ⟨T', b1, b2, b3⟩, g2, g3, g4⟩
  · have hsl : ((sbT T' y).1 y 2).toInt = (sl : Int) := by rw [sb_o (by omega)]; exact g5.2.2.2.2.1.2.1
    have h15 : (sbT T' y).1 1 5 = 0 := by
      rw [sb_o (by have := xyy hxy; omega)]
      exact Int32.toInt_inj.mp g4
    obtain ⟨T5, k1, k2⟩ := anew_c hxy hsl g5.2.2.2.2.1.1 h15
    have hfin : RX 54 147 [.ref 0] (wS x y T) = some (some (.int 0), wS y x (zI (clP T5) 117 3 0)) := by
      rw [hcl, h54 _ g1]
      exact k1
    rw [q1] at hfin
    cases hfin
    have hwo : woS S' = 0 := by
      rcases g3.2.2.2.2.2.2.1 with z | z
      · exact z.2
      · exact absurd g4 z.1
    obtain ⟨S2, m1, m2⟩ := read_ok (d := d) (S := S') (v := 1 - v) (o1 := some (.int x')) (by omega) g3.2.2.2.2.2.1 hwo g5.2.2.2.2.2.2.2.2.2 g5.2.2.2.2.1.2.2.1 g5.2.2.2.2.1.1
    refine ⟨0, _, q1, hU, w2, .inl ⟨v, S2, S7, S', T', T5, t', n, st, sl, L, n0, E, rfl, p8, p9, rfl, k2, fry_t (fry_st (xyy hxy) a2.1) g6, g5, g3, ?_, m2, p14, by rw [hv] at g7; exact g7⟩⟩
    rw [p1, g2]
    exact m1
  · have hk : limK (RX 53) (mdOf 147) 14 [some (.ref 0)] [] (wS x y T') = some (some (.int (T'.1 1 5)), wS x y T') := by
      rw [q_X11_read_14 (hx := xyx hxy), ne_t (show (T'.1 1 5).toInt ≠ (0 : Int32).toInt from b2), cond_true, q_X11_read_43 (hx := xyx hxy)]
    obtain ⟨S3', k1, k2⟩ := lim_wd (lv := [(0, .ref 0)]) (by decide +kernel) ⟨by show ([0] : List Nat).Nodup; decide, rfl, fun j => by
      match j with
      | 0 => rfl
      | j + 1 => rfl⟩ (fun j => by
      match j with
      | 0 => intro q; cases q
      | j + 1 => intro q; cases q) (fun q => by cases q) hk b1.symm
    have hfin : RX 54 147 [.ref 0] (wS x y T) = some (some (.int (T'.1 1 5)), S3') := by
      rw [hcl, h54 _ g1]
      exact k1
    rw [q1] at hfin
    cases hfin
    have hwS : wok EC (WD S') := g4.1.1
    have hft : 0 ≤ (S'.1 148 13).toInt ∧ (S'.1 148 13).toInt ≤ 2 := wfd (a := .inl (0, 0)) hwS rfl rfl rfl rfl
    have hwo : 0 ≤ (S'.1 148 15).toInt ∧ (S'.1 148 15).toInt ≤ 5 := wfd (a := .inl (0, 0)) hwS rfl rfl rfl rfl
    obtain ⟨r2, u, m1, m2⟩ := read_no (d := d) (S := S') (o1 := some (.int x')) hft.1 hwo.1 g3
    refine ⟨T'.1 1 5, Sf, q1, hU, w2, .inr ⟨v, uI S' 148 17 u, S7, S', T', r2, u, b2, p8, p9, k2, fry_t (fry_st (xyy hxy) a2.1) b3, ?_, m2, rfl, p14, by rw [hv] at g4; exact g4⟩⟩
    rw [p1, g2]
    exact m1
end RDF
