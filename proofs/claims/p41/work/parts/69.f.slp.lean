/-! a sleeper is told, on both sides -/
def PSl (v sl c j : Nat) : Prop := (c = 148 ∧ 11 ≤ j ∧ j ≤ 16 ∧ j ≠ 12) ∨ ((c = 165 ∨ c = 166 ∨ c = 167) ∧ j = 6 * v + sl)
section SLP
variable {x y d D s a st sl n v t t0 t1 t2 t3 t4 E L n0 r w : Nat} {T T' T0 T1 T2 T3 T4 : TZ} {S S' S0 S1 S2 S3 S4 : WS} {x1 x2 x3 g e b u y1 y2 y3 : Int32} {o1 o2 o3 o4 o5 : Option Value}
theorem wk_164 {j : Nat} (hw : wok EC (WD S)) (h : 0 ≤ u.toInt ∧ u.toInt ≤ 6) : wok EC (WD (uI S 164 j u)) := (show UPD [(63, 1000)] S (uI S 164 j u) from up_a (t := 0) (n := 2) (up_r hw) rfl rfl rfl (.inl rfl) h).1
theorem wk_165 {j : Nat} (hw : wok EC (WD S)) : wok EC (WD (uI S 165 j u)) := (show UPD [(64, 1000)] S (uI S 165 j u) from up_a (t := 0) (n := 12) (up_r hw) rfl rfl rfl (.inl rfl) (r32 u)).1
theorem wk_166 {j : Nat} (hw : wok EC (WD S)) : wok EC (WD (uI S 166 j u)) := (show UPD [(65, 1000)] S (uI S 166 j u) from up_a (t := 0) (n := 12) (up_r hw) rfl rfl rfl (.inl rfl) (r32 u)).1
theorem wk_167 {j : Nat} (hw : wok EC (WD S)) : wok EC (WD (uI S 167 j u)) := (show UPD [(66, 1000)] S (uI S 167 j u) from up_a (t := 0) (n := 12) (up_r hw) rfl rfl rfl (.inl rfl) (r32 u)).1
theorem mc_sl (h : MC (PSl v sl) S0 S1) (k : FS S1 S2) : MC (PSl v sl) S0 S2 := mc_t h (mc_fs (fun j q1 q2 q3 => .inl ⟨rfl, q1, q2, q3⟩) k)
/-! the reference stands still -/
theorem ld_67 (hf : ftS S ≠ 0) (hw : wok EC (WD S)) : ∃ S', limK (RX (d + 5)) (mdOf 221) 67 [some (.ref 148), o1, some (.int x2)] [] S = some (none, S') ∧ ftS S' ≠ 0 := by
  have := ft2 hw
  rw [q_X12_tellSleeper_67, le_f (show (0 : Int32).toInt < (S.1 148 13).toInt by show 0 < ftS S; omega), cond_false]
  exact ⟨S, rfl, hf⟩
theorem ld_61 (hf : ftS S ≠ 0) (hw : wok EC (WD S)) (hi : inR x1 12 = true) : ∃ S', limK (RX (d + 5)) (mdOf 221) 61 [some (.ref 148), some (.int x1), some (.int x2)] [.int g, .int x1, .ref 167] S = some (none, S') ∧ ftS S' ≠ 0 := by
  have hf1 : ftS (uI S 167 x1.toNatClampNeg g) ≠ 0 := by show ((uI S 167 _ g).1 148 13).toInt ≠ 0; rw [uI_ne _ _ _ _ (by decide)]; exact hf
  rw [q_X12_tellSleeper_61, hi, cond_true, must_b hf1 (wk_167 hw)]
  exact ld_67 hf1 (wk_167 hw)
theorem ld_48 (hf : ftS S ≠ 0) (hw : wok EC (WD S)) (hi : inR x1 12 = true) : ∃ S', limK (RX (d + 5)) (mdOf 221) 48 [some (.ref 148), some (.int x1), some (.int x2)] [.int g, .int x1, .ref 166] S = some (none, S') ∧ ftS S' ≠ 0 := by
  have hf1 : ftS (uI S 166 x1.toNatClampNeg g) ≠ 0 := by show ((uI S 166 _ g).1 148 13).toInt ≠ 0; rw [uI_ne _ _ _ _ (by decide)]; exact hf
  rw [q_X12_tellSleeper_48, hi, cond_true, bounded_b hf1 (wk_166 hw)]
  exact ld_61 hf1 (wk_166 hw) hi
theorem ld_35 (hf : ftS S ≠ 0) (hw : wok EC (WD S)) (hi : inR x1 12 = true) : ∃ S', limK (RX (d + 5)) (mdOf 221) 35 [some (.ref 148), some (.int x1), some (.int x2)] [.int g, .int x1, .ref 165] S = some (none, S') ∧ ftS S' ≠ 0 := by
  have hf1 : ftS (uI S 165 x1.toNatClampNeg g) ≠ 0 := by show ((uI S 165 _ g).1 148 13).toInt ≠ 0; rw [uI_ne _ _ _ _ (by decide)]; exact hf
  rw [q_X12_tellSleeper_35, hi, cond_true, bounded_b hf1 (wk_165 hw)]
  exact ld_48 hf1 (wk_165 hw) hi
theorem ld_22 (hf : ftS S ≠ 0) (hw : wok EC (WD S)) (hi : inR x1 12 = true) : ∃ S', limK (RX (d + 5)) (mdOf 221) 22 [some (.ref 148), some (.int x1), o2] [.int x2] S = some (none, S') ∧ ftS S' ≠ 0 := by
  rw [q_X12_tellSleeper_22, bounded_b hf hw]
  exact ld_35 hf hw hi
theorem slp_c {c j : Nat} (h : c < y ∨ y + 8 < c ∨ (c = y ∧ j ≠ 2) ∨ (y + 1 ≤ c ∧ c ≤ y + 4) ∨ (y + 5 ≤ c ∧ j ≠ sl)) : (slT T y sl y1 y2 y3).1 c j = T.1 c j := by
  unfold slT
  rw [zI_no _ (by omega), zI_no _ (by omega), zI_no _ (by omega), zI_no _ (by omega), zI_no _ (by omega)]
theorem sl_end (hy : y = 10 ∨ y = 23) (hv : v ≤ 1) (hR : HRl T0 S0 y v t0 n st sl L n0) (hsl : sl < 6) (hC : CU T4 S3 E t4) (ht : t0 + 2 ≤ t4) (hTC : TCf PTn T0 T4) (hMC : MC (PSl v sl) S0 S3) (h2 : S3.2 = S0.2) (hg1 : S3.1 165 (6 * v + sl) = y1) (hg2 : S3.1 166 (6 * v + sl) = y2) (h1 : x1.toInt = ((6 * v + sl : Nat) : Int)) (hx2 : x2.toInt = (t1 : Int)) (ht1 : t1 ≤ 402) (hu : (T4.1 1 5).toInt = 0 → NW T0 S0 T4 n ((10 : Int32) + T0.1 y 2) t1 ∧ (0 ≤ y1.toInt ∧ y1.toInt ≤ 23) ∧ (1 ≤ y2.toInt ∧ y2.toInt ≤ 12) ∧ (0 ≤ y3.toInt ∧ y3.toInt ≤ 23)) :
    GOOD x y E v t0 (limK (RX (D + 24)) (mdOf 58) 105 [some (.ref 1), o1, o2] [.int y3, .int y2, .int y1, .ref y] (wS x y T4)) (limK (RX (d + 5)) (mdOf 221) 61 [some (.ref 148), some (.int x1), some (.int x2)] [.int y3, .int x1, .ref 167] S3) ∨ BAD x y (limK (RX (D + 24)) (mdOf 58) 105 [some (.ref 1), o1, o2] [.int y3, .int y2, .int y1, .ref y] (wS x y T4)) (limK (RX (d + 5)) (mdOf 221) 61 [some (.ref 148), some (.int x1), some (.int x2)] [.int y3, .int x1, .ref 167] S3) := by
  obtain ⟨r1, r2, r3, r4, r5, r6, r7, r8, r9, r10⟩ := hR
  have hst := r3.1
  have hN := r2.1
  have hn16 := r1.1
  have hi12 : inR x1 12 = true := inR_of (by omega) (by omega)
  have hT42 : (T4.1 y 2).toInt = (sl : Int) := by rw [hTC y 2 (by unfold PTn; omega)]; exact r5.2.1
  have eS : ∀ c j, ¬ PSl v sl c j → S3.1 c j = S0.1 c j := hMC
  have eb : T0.1 y 2 = S0.1 164 v := Int32.toInt_inj.mp (r5.2.1.trans r5.2.2.1.symm)
  have hw4 : wok EC (WD (uI S3 167 (6 * v + sl) y3)) := wk_167 hC.2.2.2.2.2.2.2
  have hC4 : CU T4 (uI S3 167 (6 * v + sl) y3) E t4 := cu_sw hC (by decide) hw4
  have hCA : CU (slT T4 y sl y1 y2 y3) (uI S3 167 (6 * v + sl) y3) E t4 := cu_hw hC4 (fun c j q => slp_c (by omega)) rfl
  have hc105 : limK (RX (D + 24)) (mdOf 58) 105 [some (.ref 1), o1, o2] [.int y3, .int y2, .int y1, .ref y] (wS x y T4) = kbd (limK (RX (D + 24)) (mdOf 58)) 114 [some (.ref 1), o1, o2] [] (RX (D + 24) 67 [.ref 1, .int 59] (wS x y (slT T4 y sl y1 y2 y3))) := by
    rw [q_X5_takeSleeper_105 (hy := hy), addSleeper_c hy hT42 hsl]
    show limK (RX (D + 24)) (mdOf 58) 108 _ [] _ = _
    rw [q_X5_takeSleeper_108 (hy := hy)]
  have h114 : ∀ (r : Int32) T, (r = 0 ∨ r = 1) → limK (RX (D + 24)) (mdOf 58) 114 [some (.ref 1), o1, o2] [.int r] (wS x y T) = some (some (.int r), wS x y T) := fun r T hr => by
    rw [q_X5_takeSleeper_114 (hy := hy)]
    rcases hr with q | q <;> rw [q] <;> rfl
  rw [hc105, q_X12_tellSleeper_61, hi12, cond_true, tnc h1]
  rcases take_l (x := x) (d := D + 23) (dm := d + 2) (k := 59) (m := 4) hy hCA (by decide) (by decide) (by decide) with ⟨-, g1, g2, g3⟩ | ⟨T', S', g1, g2, g3, g4, g5, g6, g7⟩
  · have hS5 : ∀ c j, ¬ (c = 148 ∧ j = 11) → ¬ (c = 167 ∧ j = 6 * v + sl) → (goS (uI S3 167 (6 * v + sl) y3)).1 c j = S3.1 c j := fun c j q z => (uI_no _ _ _ _ q).trans (uI_no _ _ _ _ z)
    generalize hS4 : goS (uI S3 167 (6 * v + sl) y3) = S4 at g2 g3 hS5
    have h42 : S4.2 = S0.2 := by rw [← hS4]; exact h2
    have h167 : S4.1 167 (6 * v + sl) = y3 := by rw [← hS4, go_c (by decide), uI_i]
    have hf5 : ftS S4 = 0 := g3.2.2.2.2.2.1
    have hw5 := g3.2.2.2.2.2.2.2
    have e19 : (S4.1 148 19).toInt = (v : Int) := by rw [hS5 148 19 (by omega) (by omega), eS 148 19 (by unfold PSl; omega)]; exact r10
    have i2 : inR (S4.1 148 19) 2 = true := inR_of (by omega) (by omega)
    have t19 : (S4.1 148 19).toNatClampNeg = v := tnc e19
    have e164 : S4.1 164 v = S0.1 164 v := by rw [hS5 164 v (by omega) (by omega)]; exact eS 164 v (by unfold PSl; omega)
    have hn6 : nmS S4 = (n : Int) := by
      show (S4.1 148 20).toInt = _
      rw [hS5 148 20 (by omega) (by omega), eS 148 20 (by unfold PSl; omega)]
      exact r1.2.2.1
    have hbv : ((10 : Int32) + S0.1 164 v).toInt = 10 + (sl : Int) := by
      have := r5.2.2.1
      rw [ad_i (by show _ ≤ (10 : Int) + _; omega) (by show (10 : Int) + _ ≤ _; omega), this]
      rfl
    have hb15 : 0 ≤ ((10 : Int32) + S0.1 164 v).toInt ∧ ((10 : Int32) + S0.1 164 v).toInt ≤ 15 := by omega
    obtain ⟨n1, n2⟩ := notes_x (d := d + 4) (x1 := x2) (b := (10 : Int32) + S0.1 164 v) hw5 hx2 ht1 hn6 (by omega) hb15
    have hr67 : limK (RX (d + 5)) (mdOf 221) 67 [some (.ref 148), some (.int x1), some (.int x2)] [] S4 = some (none, uI (ntS S4 n t1 ((10 : Int32) + S0.1 164 v)) 164 v ((S0.1 164 v) + 1)) := by
      rw [q_X12_tellSleeper_67, le_t (show (S4.1 148 13).toInt ≤ (0 : Int32).toInt by show ftS S4 ≤ 0; omega), cond_true, i2, cond_true, t19, e164, n1]
      show limK (RX (d + 5)) (mdOf 221) 92 _ [] _ = _
      have e1 : (ntS S4 n t1 ((10 : Int32) + S0.1 164 v)).1 148 19 = S4.1 148 19 := nt_c (by decide) (by decide)
      have e2 : (ntS S4 n t1 ((10 : Int32) + S0.1 164 v)).1 164 v = S0.1 164 v := by rw [nt_c (by decide) (by omega), e164]
      rw [q_X12_tellSleeper_92, e1, i2, cond_true, cond_true, t19, e2]
    have hcr : kbd (limK (RX (D + 24)) (mdOf 58)) 114 [some (.ref 1), o1, o2] [] (RX (D + 24) 67 [.ref 1, .int 59] (wS x y (slT T4 y sl y1 y2 y3))) = some (some (.int 1), wS x y (tkT (slT T4 y sl y1 y2 y3) t4)) := by
      rw [g1]
      exact h114 1 _ (.inr rfl)
    have hrr : kbd (limK (RX (d + 5)) (mdOf 221)) 67 [some (.ref 148), some (.int x1), some (.int x2)] [] (RX (d + 5) 209 [.ref 148, .int 4] (uI S3 167 (6 * v + sl) y3)) = some (none, uI (ntS S4 n t1 ((10 : Int32) + S0.1 164 v)) 164 v ((S0.1 164 v) + 1)) := by
      rw [g2]
      exact hr67
    have hs1 : ((S0.1 164 v) + 1).toInt = ((sl + 1 : Nat) : Int) := inc_i r5.2.2.1 (by omega)
    have hw8 : wok EC (WD (uI (ntS S4 n t1 ((10 : Int32) + S0.1 164 v)) 164 v ((S0.1 164 v) + 1))) := wk_164 n2 (by omega)
    have hSc : ∀ c j, c ≠ 157 → ¬ (c = 148 ∧ j = 20) → ¬ (c = 164 ∧ j = v) → (uI (ntS S4 n t1 ((10 : Int32) + S0.1 164 v)) 164 v ((S0.1 164 v) + 1)).1 c j = S4.1 c j := fun c j z1 z2 z4 => by
      rw [uI_no _ _ _ _ z4, nt_c z1 z2]
    have hTc : ∀ c j, c ≠ 1 → (tkT (slT T4 y sl y1 y2 y3) t4).1 c j = (slT T4 y sl y1 y2 y3).1 c j := fun c j q => fc_tk.1 c j (by omega)
    have hwo : woS (uI (ntS S4 n t1 ((10 : Int32) + S0.1 164 v)) 164 v ((S0.1 164 v) + 1)) = woS S4 := by
      show ((uI _ 164 _ _).1 148 15).toInt = _
      rw [hSc 148 15 (by decide) (by omega) (by omega)]
    have hCF : CU (tkT (slT T4 y sl y1 y2 y3) t4) (uI (ntS S4 n t1 ((10 : Int32) + S0.1 164 v)) 164 v ((S0.1 164 v) + 1)) E (t4 + 1) := by
      refine cu_s g3 hw8 (fun i _ => hSc 151 i (by decide) (by omega) (by omega)) (fun i _ => hSc 153 i (by decide) (by omega) (by omega)) (fun i _ => ?_) (hSc 148 11 (by decide) (by omega) (by omega)) (hSc 148 13 (by decide) (by omega) (by omega)) (hSc 148 15 (by decide) (by omega) (by omega))
      show (uL _ 156 n _).2.1 154 i = _
      rw [uL_ne _ _ _ _ (by decide)]
    rcases g3.2.2.2.2.2.2.1 with ⟨z1, z2⟩ | ⟨z1, z2⟩
    · have hz4 : (T4.1 1 5).toInt = 0 := by
        rw [tk_5, slp_c (by omega)] at z1
        exact z1
      obtain ⟨hW, hg3, hg4, hg5⟩ := hu hz4
      refine .inl ⟨_, _, t4 + 1, n + 1, st, sl + 1, L, n0, hcr, hrr, hCF, by omega, z1, ?_⟩
      have hT0 : ∀ c j, ¬ (c = 1 ∨ c = 9) → ¬ (y + 5 ≤ c ∧ c ≤ y + 8 ∧ j = sl) → ¬ (c = y ∧ j = 2) → (tkT (slT T4 y sl y1 y2 y3) t4).1 c j = T0.1 c j := fun c j p1 p2 p3 => by
        rw [hTc c j (by omega), slp_c (by omega)]
        exact hTC c j p1
      have hS0 : ∀ c j, c ≠ 157 → ¬ (c = 148 ∧ (11 ≤ j ∧ j ≤ 16 ∧ j ≠ 12 ∨ j = 20)) → ¬ ((c = 165 ∨ c = 166 ∨ c = 167) ∧ j = 6 * v + sl) → ¬ (c = 164 ∧ j = v) → (uI (ntS S4 n t1 ((10 : Int32) + S0.1 164 v)) 164 v ((S0.1 164 v) + 1)).1 c j = S0.1 c j := fun c j p1 p2 p3 p4 => by
        rw [hSc c j p1 (by omega) p4, hS5 c j (by omega) (by omega)]
        exact eS c j (by unfold PSl; omega)
      have hWf : NW T0 S0 (tkT (slT T4 y sl y1 y2 y3) t4) n ((10 : Int32) + S0.1 164 v) t1 := by
        rw [← eb]
        refine nw_c hW ?_ (fun i _ => ?_) (fun i => ?_)
        · rw [fc_tk.1 1 3 (by omega), slp_c (by omega)]
        · rw [hTc 9 i (by omega), slp_c (by omega)]
        · rw [fc_tk.2 8 i (by omega)]
          rfl
      have hy10 : 10 ≤ y ∧ y ≤ 23 := by omega
      have hHF : ∀ a, (a < sl → LW1 (tkT (slT T4 y sl y1 y2 y3) t4) (uI (ntS S4 n t1 ((10 : Int32) + S0.1 164 v)) 164 v ((S0.1 164 v) + 1)) y v L n0 a) := fun a ha =>
        lw_c ((r8 a).1 ha) (Nat.le_refl _) (Nat.le_refl _) (hT0 _ _ (by omega) (by omega) (by omega)) (fun j _ => hT0 _ _ (by omega) (by omega) (by omega)) (hS0 171 _ (by decide) (by omega) (by omega) (by omega)) (hS0 172 _ (by decide) (by omega) (by omega) (by omega)) (fun j _ => rb_eq (fun c q1 q2 => hS0 c j (by omega) (by omega) (by omega) (by omega))) (kc_eq (hS0 148 44 (by decide) (by omega) (by omega) (by omega)) (fun c j q => hS0 c j (by omega) (by omega) (by omega) (by omega)))
      refine ⟨nm_new r1 hWf (by omega) hb15 ?_ ?_ (fun i hi => ?_) ?_ (fun i hi => ?_), ⟨by omega, fun i hi => ?_⟩, ha_c r3 (fun c j q1 q2 q3 => hT0 c j (by omega) (by omega) (by omega)) (fun c j q1 q2 => hS0 c j (by omega) (by omega) (by omega) (by omega)), hb_c r4 (hT0 _ _ (by omega) (by omega) (by omega)) (hS0 _ _ (by decide) (by omega) (by omega) (by omega)), ⟨by omega, ?_, ?_, fun s hs => ?_⟩, hd_c r6 (by omega) (hT0 _ _ (by omega) (by omega) (by omega)) (hS0 _ _ (by decide) (by omega) (by omega) (by omega)), he_c r7 (hT0 _ _ (by omega) (by omega) (by omega)) (hT0 _ _ (by omega) (by omega) (by omega)) (hS0 _ _ (by decide) (by omega) (by omega) (by omega)) (hS0 _ _ (by decide) (by omega) (by omega) (by omega)), fun a => ⟨fun ha => ?_, fun h1 h2 => ?_⟩, hl_c r9 (by omega) (hT0 _ _ (by omega) (by omega) (by omega)) (hS0 148 12 (by decide) (by omega) (by omega) (by omega)) (hS0 148 38 (by decide) (by omega) (by omega) (by omega)) (hS0 148 44 (by decide) (by omega) (by omega) (by omega)), ?_⟩
      · show ((uI _ 164 _ _).1 148 20).toInt = _
        rw [uI_ne _ _ _ _ (by decide), nt_20]
        exact inc_i hn6 (by omega)
      · rw [uI_ne _ _ _ _ (by decide), nt_157]
      · rw [uI_ne _ _ _ _ (by decide), nt_157j (by omega), hS5 157 i (by omega) (by omega)]
        exact eS 157 i (by unfold PSl; omega)
      · show (ntS S4 n t1 ((10 : Int32) + S0.1 164 v)).2.1 156 n = _
        rw [nt_156, h42]
      · show (ntS S4 n t1 ((10 : Int32) + S0.1 164 v)).2.1 156 i = _
        rw [nt_156j (by omega), h42]
      · by_cases ei : i = n
        · subst ei
          rw [hWf.2.1]
          exact .inr (by omega)
        · rw [(hWf.2.2.2.2.1 i (by omega)).2]
          rcases r2.2 i (by omega) with q | q
          · exact .inl q
          · exact .inr (by omega)
      · rw [hTc y 2 (by omega)]
        unfold slT
        rw [zI_i]
        exact inc_i hT42 (by omega)
      · rw [uI_i]
        exact hs1
      · by_cases es : s = sl
        · subst es
          have e1 : (tkT (slT T4 y s y1 y2 y3) t4).1 (y + 5) s = y1 := by
            rw [hTc _ _ (by omega)]
            unfold slT
            rw [zI_ne _ (by omega), zI_ne _ (by omega), zI_ne _ (by omega), zI_ne _ (by omega), zI_i]
          have e2 : (tkT (slT T4 y s y1 y2 y3) t4).1 (y + 6) s = y2 := by
            rw [hTc _ _ (by omega)]
            unfold slT
            rw [zI_ne _ (by omega), zI_ne _ (by omega), zI_ne _ (by omega), zI_i]
          have e3 : (tkT (slT T4 y s y1 y2 y3) t4).1 (y + 7) s = y3 := by
            rw [hTc _ _ (by omega)]
            unfold slT
            rw [zI_ne _ (by omega), zI_ne _ (by omega), zI_i]
          rw [e1, e2, e3, hSc 165 _ (by decide) (by omega) (by omega), hSc 166 _ (by decide) (by omega) (by omega), hSc 167 _ (by decide) (by omega) (by omega), hS5 165 _ (by omega) (by omega), hS5 166 _ (by omega) (by omega), h167, hg1, hg2]
          exact ⟨⟨rfl, hg3⟩, ⟨rfl, hg4⟩, rfl, hg5⟩
        · rw [hT0 (y + 5) s (by omega) (by omega) (by omega), hT0 (y + 6) s (by omega) (by omega) (by omega), hT0 (y + 7) s (by omega) (by omega) (by omega), hS0 165 _ (by decide) (by omega) (by omega) (by omega), hS0 166 _ (by decide) (by omega) (by omega) (by omega), hS0 167 _ (by decide) (by omega) (by omega) (by omega)]
          exact r5.2.2.2 s (by omega)
      · by_cases es : a = sl
        · subst es
          refine .inl ⟨?_, ?_⟩
          · rw [hTc _ _ (by omega)]
            unfold slT
            rw [zI_ne _ (by omega), zI_i]
            rfl
          · rw [hS0 171 _ (by decide) (by omega) (by omega) (by omega), hS0 172 _ (by decide) (by omega) (by omega) (by omega)]
            exact (r8 a).2 (Nat.le_refl _) hsl
        · exact hHF a (by omega)
      · rw [hS0 171 _ (by decide) (by omega) (by omega) (by omega), hS0 172 _ (by decide) (by omega) (by omega) (by omega)]
        exact (r8 a).2 (by omega) h2
      · show ((uI _ 164 _ _).1 148 19).toInt = _
        rw [hS0 148 19 (by decide) (by omega) (by omega) (by omega)]
        exact r10
    · exact .inr ⟨1, _, _, hcr, hrr, .inr rfl, z1, .inr (by rw [hwo]; exact z2)⟩
  · rw [g1, g2]
    exact .inr (bad_of (h114 0 _ (.inl rfl)) (ld_67 g6 g5.1) (.inl rfl) g4)
theorem mc_0l : MC (PSl v sl) S S := fun _ _ _ => rfl
/-- 'sleeper' -/
theorem one_slp (hy : y = 10 ∨ y = 23) (hv : v ≤ 1) (hC : CU T S E t) (hb : (T.1 1 5).toInt = 0) (hR : HRl T S y v t n st sl L n0) (hk : T.1 5 t = 131) :
    GOOD x y E v t (RX (D + 25) 58 [.ref 1] (wS x y T)) (kbd (limK (RX (d + 6)) (mdOf 214)) 125 [some (.ref 148), o1] [] (RX (d + 6) 213 [.ref 148, .int (S.1 164 v), .int 6] S)) ∨ BAD x y (RX (D + 25) 58 [.ref 1] (wS x y T)) (kbd (limK (RX (d + 6)) (mdOf 214)) 125 [some (.ref 148), o1] [] (RX (d + 6) 213 [.ref 148, .int (S.1 164 v), .int 6] S)) := by
  have hA := hR.2.2.2.2.1
  have hw := hC.2.2.2.2.2.2.2
  have hf := hC.2.2.2.2.2.1
  have hdead : ∀ S1, ftS S1 ≠ 0 → limK (RX (d + 6)) (mdOf 214) 125 [some (.ref 148), o1] [] S1 = some (none, S1) := fun S1 q => by
    rw [q_X12_tellOne_125, ne_t (show (S1.1 148 13).toInt ≠ (0 : Int32).toInt from q), cond_true, q_X12_tellOne_256]
  rw [e_X5_takeSleeper, q_X5_takeSleeper_0 (hy := hy)]
  by_cases hst : sl < 6
  · rw [lt_t (show (T.1 y 2).toInt < (6 : Int32).toInt by rw [hA.2.1]; show (sl : Int) < 6; omega), cond_true]
    have hne : (S.1 164 v).toInt ≠ (6 : Int32).toInt := by rw [hA.2.2.1]; show (sl : Int) ≠ 6; omega
    rcases go_l (x := x) (d := D + 23) (dm := d + 3) hy hC hk (by decide) (by decide) with ⟨g1, g2, g3⟩ | ⟨T', S', g1, g2, g3, g4, g5, g6, g7⟩
    · rw [g1, room_y (d := d + 3) hne hf g2]
      have hR1 := hr_c hy hR (Nat.le_succ t) (fc_tk (t := t)) fs_go
      obtain ⟨r1, r2, r3, r4, r5, r6, r7, r8, r9, r10⟩ := hR1
      have r5' := r5
      obtain ⟨a1, a2, a3, a4⟩ := r5'
      have hf1 : ftS (goS S) = 0 := g3.2.2.2.2.2.1
      have i2 : inR ((goS S).1 148 19) 2 = true := inR_of (by show 0 ≤ sdS (goS S); omega) (by show sdS (goS S) < _; omega)
      have t19 : ((goS S).1 148 19).toNatClampNeg = v := tnc r10
      have hx1 : ((6 : Int32) * ((goS S).1 148 19) + ((goS S).1 164 v)).toInt = ((6 * v + sl : Nat) : Int) := by
        rw [ixk g3.2.2.2.2.2.2.2 ⟨by decide, by decide⟩ ⟨by omega, by omega⟩, r10, a3]
        show (6 : Int) * (v : Int) + (sl : Int) = _
        omega
      have hi : inR ((6 : Int32) * ((goS S).1 148 19) + ((goS S).1 164 v)) 12 = true := inR_of (by omega) (by omega)
      have hcl : kbd (limK (RX (D + 24)) (mdOf 58)) 29 [some (.ref 1), none, none] [] (some (some (.int 1), wS x y (tkT T t))) = kbd (limK (RX (D + 24)) (mdOf 58)) 46 [some (.ref 1), none, none] [] (RX (D + 24) 69 [.ref 1, .int ((10 : Int32) + (tkT T t).1 y 2)] (wS x y (tkT T t))) := by
        show limK (RX (D + 24)) (mdOf 58) 29 _ [.int 1] _ = _
        rw [q_X5_takeSleeper_29 (hy := hy), show cmpB .eq (1 : Int32) 0 = false from rfl, cond_false]
      have hrf : kbd (limK (RX (d + 6)) (mdOf 214)) 125 [some (.ref 148), o1] [] (some (none, goS S)) = kbd (limK (RX (d + 6)) (mdOf 214)) 136 [some (.ref 148), o1] [] (kbd (limK (RX (d + 5)) (mdOf 221)) 22 [some (.ref 148), some (.int ((6 : Int32) * ((goS S).1 148 19) + ((goS S).1 164 v))), none] [] (RX (d + 5) 215 [.ref 148] (goS S))) := by
        show limK (RX (d + 6)) (mdOf 214) 125 _ [] _ = _
        rw [q_X12_tellOne_125, ne_f (show ((goS S).1 148 13).toInt = (0 : Int32).toInt from hf1), cond_false, e_X12_tellSleeper, q_X12_tellSleeper_0, i2, cond_true, t19]
      rw [hcl, hrf]
      have hwrap : ∀ {cr rr : Option RK}, GOOD x y E v t cr rr ∨ BAD x y cr rr → GOOD x y E v t cr (kbd (limK (RX (d + 6)) (mdOf 214)) 136 [some (.ref 148), o1] [] rr) ∨ BAD x y cr (kbd (limK (RX (d + 6)) (mdOf 214)) 136 [some (.ref 148), o1] [] rr) := fun {cr rr} q => by
        have h78 : ∀ S1, limK (RX (d + 6)) (mdOf 214) 136 [some (.ref 148), o1] [] S1 = some (none, S1) := fun S1 => by rw [q_X12_tellOne_136, q_X12_tellOne_256]
        rcases q with ⟨T', S', t', n', st', sl', L', n0', p1, p2, p3⟩ | ⟨r, T', S', p1, p2, p3⟩
        · exact .inl ⟨T', S', t', n', st', sl', L', n0', p1, by rw [p2]; exact h78 S', p3⟩
        · exact .inr ⟨r, T', S', p1, by rw [p2]; exact h78 S', p3⟩
      apply hwrap
      have hb1 : ((tkT T t).1 1 5).toInt = 0 := by rw [tk_5]; exact hb
      have ht2 := g3.2.1
      have hE := g3.1.1
      rcases name_l (x := x) (d := D + 22) (dm := d + 1) (b := (10 : Int32) + (tkT T t).1 y 2) hy g3 r1 (by have := r2.1; have := r3.1; omega) hb1 with ⟨T1, S1, p1, p2, p3, p4, p5⟩ | ⟨T', S', p1, p2, p3, p4, p5⟩
      · rw [p1, p2]
        show GOOD x y E v t (limK (RX (D + 24)) (mdOf 58) 46 _ [.int 1] _) (limK (RX (d + 5)) (mdOf 221) 22 _ [.int ((goS S).1 148 11)] _) ∨ BAD x y (limK (RX (D + 24)) (mdOf 58) 46 _ [.int 1] _) (limK (RX (d + 5)) (mdOf 221) 22 _ [.int ((goS S).1 148 11)] _)
        have hTC : TCf PTn T T1 := by
          rcases p5 with ⟨-, q, -⟩ | ⟨-, q⟩
          · rw [q]
            exact tc_t (tc_fc (fun j => .inl rfl) (fc_t fc_tk fc_tk)) (tc_nm (P := PTn) (fun j => .inl rfl) (fun j => .inr rfl))
          · exact tc_fc (fun j => .inl rfl) (fc_t fc_tk q)
        have hW : (T1.1 1 5).toInt = 0 → NW T S T1 n ((10 : Int32) + T.1 y 2) (t + 1) := fun z => by
          rcases p5 with ⟨-, q, -, q1, q2⟩ | ⟨q, -⟩
          · rw [q]
            have ey : (tkT T t).1 y 2 = T.1 y 2 := fc_tk.1 y 2 (by omega)
            rw [ey]
            have hNt : NMR ((tkT T t).2 7 (t + 1)) ((goS S).2.1 154 (t + 1)) := (g3.1.2.1 (t + 1) g3.2.1).2.2 (by rw [q1]; rfl)
            have e7 : (tkT T t).2 7 (t + 1) = T.2 7 (t + 1) := fc_tk.2 7 _ (by omega)
            refine nw_0 hR.1.2.1 (by have := r2.1; have := r3.1; omega) (fun i hi => ?_) (by rw [e7] at hNt; exact hNt) (fc_t fc_tk fc_tk) (by rw [tk_10, e7])
            have := q2 i hi
            rw [e7, fc_tk.2 8 i (by omega)] at this
            exact this
          · exact absurd z q
        rw [q_X5_takeSleeper_46 (hy := hy), show cmpB .eq (1 : Int32) 0 = false from rfl, cond_false, q_X12_tellSleeper_22]
        have hM1 : MC (PSl v sl) S S1 := mc_sl mc_0l (fs_t fs_go p4)
        have h12 : S1.2 = S.2 := (fs_t fs_go p4).2
        rcases int_l (x := x) (x1 := 0) (x2 := 23) (d := D + 22) (dm := d + 2) hy p3 with ⟨T2, S2, u1, u2, u3, u4, u5, u6, u7, u8⟩ | ⟨T', S', r, u1, u2, u3, u4, u5⟩
        · rw [u1, u2]
          show GOOD x y E v t (limK (RX (D + 24)) (mdOf 58) 56 _ [.int 1] _) (limK (RX (d + 5)) (mdOf 221) 35 _ [.int (S1.1 153 (t + 1 + 1)), .int _, .ref 165] _) ∨ BAD x y (limK (RX (D + 24)) (mdOf 58) 56 _ [.int 1] _) (limK (RX (d + 5)) (mdOf 221) 35 _ [.int (S1.1 153 (t + 1 + 1)), .int _, .ref 165] _)
          have hw2 : wok EC (WD (uI S2 165 (6 * v + sl) (S1.1 153 (t + 1 + 1)))) := wk_165 u3.2.2.2.2.2.2.2
          rw [q_X5_takeSleeper_56 (hy := hy), show cmpB .ne (1 : Int32) 0 = true from rfl, cond_true, taken_c (d := D + 23) hy, u6, q_X12_tellSleeper_35, hi, cond_true, tnc hx1]
          show GOOD x y E v t (limK (RX (D + 24)) (mdOf 58) 65 _ [.int (S1.1 153 (t + 1 + 1))] _) _ ∨ BAD x y (limK (RX (D + 24)) (mdOf 58) 65 _ [.int (S1.1 153 (t + 1 + 1))] _) _
          rw [q_X5_takeSleeper_65 (hy := hy)]
          generalize hv1 : S1.1 153 (t + 1 + 1) = v1 at *
          have hC2 : CU T2 (uI S2 165 (6 * v + sl) v1) E (t + 1 + 1 + 1) := cu_sw u3 (by decide) hw2
          rcases int_l (x := x) (x1 := 1) (x2 := 12) (d := D + 22) (dm := d + 2) hy hC2 with ⟨T3, S3, w1, w2, w3, w4, w5, w6, w7, w8⟩ | ⟨T', S', r, w1, w2, w3, w4, w5⟩
          · rw [w1, w2]
            show GOOD x y E v t (limK (RX (D + 24)) (mdOf 58) 73 _ [.int 1] _) (limK (RX (d + 5)) (mdOf 221) 48 _ [.int ((uI S2 165 (6 * v + sl) v1).1 153 (t + 1 + 1 + 1)), .int _, .ref 166] _) ∨ BAD x y (limK (RX (D + 24)) (mdOf 58) 73 _ [.int 1] _) (limK (RX (d + 5)) (mdOf 221) 48 _ [.int ((uI S2 165 (6 * v + sl) v1).1 153 (t + 1 + 1 + 1)), .int _, .ref 166] _)
            generalize hv2 : (uI S2 165 (6 * v + sl) v1).1 153 (t + 1 + 1 + 1) = v2 at *
            have hw3 : wok EC (WD (uI S3 166 (6 * v + sl) v2)) := wk_166 w3.2.2.2.2.2.2.2
            rw [q_X5_takeSleeper_73 (hy := hy), show cmpB .ne (1 : Int32) 0 = true from rfl, cond_true, taken_c (d := D + 23) hy, w6, q_X12_tellSleeper_48, hi, cond_true, tnc hx1]
            show GOOD x y E v t (limK (RX (D + 24)) (mdOf 58) 82 _ [.int v2] _) _ ∨ BAD x y (limK (RX (D + 24)) (mdOf 58) 82 _ [.int v2] _) _
            rw [q_X5_takeSleeper_82 (hy := hy)]
            have hC3 : CU T3 (uI S3 166 (6 * v + sl) v2) E (t + 1 + 1 + 1 + 1) := cu_sw w3 (by decide) hw3
            rcases int_l (x := x) (x1 := 0) (x2 := 23) (d := D + 22) (dm := d + 2) hy hC3 with ⟨T4, S4, z1, z2, z3, z4, z5, z6, z7, z8⟩ | ⟨T', S', r, z1, z2, z3, z4, z5⟩
            · rw [z1, z2]
              show GOOD x y E v t (limK (RX (D + 24)) (mdOf 58) 90 _ [.int 1] _) (limK (RX (d + 5)) (mdOf 221) 61 _ [.int ((uI S3 166 (6 * v + sl) v2).1 153 (t + 1 + 1 + 1 + 1)), .int _, .ref 167] _) ∨ BAD x y (limK (RX (D + 24)) (mdOf 58) 90 _ [.int 1] _) (limK (RX (d + 5)) (mdOf 221) 61 _ [.int ((uI S3 166 (6 * v + sl) v2).1 153 (t + 1 + 1 + 1 + 1)), .int _, .ref 167] _)
              generalize hv3 : (uI S3 166 (6 * v + sl) v2).1 153 (t + 1 + 1 + 1 + 1) = v3 at *
              rw [q_X5_takeSleeper_90 (hy := hy), show cmpB .ne (1 : Int32) 0 = true from rfl, cond_true, taken_c (d := D + 23) hy, z6]
              show GOOD x y E v t (limK (RX (D + 24)) (mdOf 58) 105 _ [.int v3, .int v2, .int v1, .ref y] _) _ ∨ BAD x y (limK (RX (D + 24)) (mdOf 58) 105 _ [.int v3, .int v2, .int v1, .ref y] _) _
              have hM2 : MC (PSl v sl) S (uI S2 165 (6 * v + sl) v1) := mc_t (mc_sl hM1 u5) (mc_i (.inr ⟨.inl rfl, rfl⟩))
              have hM3 : MC (PSl v sl) S (uI S3 166 (6 * v + sl) v2) := mc_t (mc_sl hM2 w5) (mc_i (.inr ⟨.inr (.inl rfl), rfl⟩))
              refine sl_end hy hv hR hst z3 (by omega) (tc_t (tc_t (tc_t hTC (tc_fc (fun j => .inl rfl) u4)) (tc_fc (fun j => .inl rfl) w4)) (tc_fc (fun j => .inl rfl) z4)) (mc_sl hM3 z5) ?_ ?_ ?_ hx1 g3.2.2.2.1 (by omega) (fun q => ?_)
              · rw [z5.2]
                show S3.2 = _
                rw [w5.2]
                show S2.2 = _
                rw [u5.2]
                exact h12
              · rw [z5.1 165 _ (by omega), uI_ne _ _ _ _ (by decide), w5.1 165 _ (by omega), uI_i]
              · rw [z5.1 166 _ (by omega), uI_i]
              · obtain ⟨q1, q2, q3⟩ := z8 q
                obtain ⟨q4, q5, q6⟩ := w8 q1
                obtain ⟨q7, q8, q9⟩ := u8 q4
                exact ⟨nw_fc (nw_fc (nw_fc (hW q7) u4) w4) z4, ⟨q8, q9⟩, ⟨q5, q6⟩, ⟨q2, q3⟩⟩
            · rw [z1, z2]
              refine .inr (bad_of (r := 0) (T' := T') ?_ (ld_61 z4 z5 hi) (.inl rfl) z3)
              show limK (RX (D + 24)) (mdOf 58) 90 _ [.int 0] _ = _
              rw [q_X5_takeSleeper_90 (hy := hy), show cmpB .ne (0 : Int32) 0 = false from rfl, cond_false]
          · rw [w1, w2]
            refine .inr (bad_of (r := 0) (T' := T') ?_ (ld_48 w4 w5 hi) (.inl rfl) w3)
            show limK (RX (D + 24)) (mdOf 58) 73 _ [.int 0] _ = _
            rw [q_X5_takeSleeper_73 (hy := hy), show cmpB .ne (0 : Int32) 0 = false from rfl, cond_false]
        · rw [u1, u2]
          refine .inr (bad_of (r := 0) (T' := T') ?_ (ld_35 u4 u5 hi) (.inl rfl) u3)
          show limK (RX (D + 24)) (mdOf 58) 56 _ [.int 0] _ = _
          rw [q_X5_takeSleeper_56 (hy := hy), show cmpB .ne (0 : Int32) 0 = false from rfl, cond_false, q_X5_takeSleeper_59 (hy := hy)]
      · rw [p1, p2]
        refine .inr (bad_of (r := 0) (T' := T') ?_ (ld_22 p4 p5 hi) (.inl rfl) p3)
        show limK (RX (D + 24)) (mdOf 58) 46 _ [.int 0] _ = _
        rw [q_X5_takeSleeper_46 (hy := hy), show cmpB .eq (0 : Int32) 0 = true from rfl, cond_true, q_X5_takeSleeper_59 (hy := hy)]
    · rw [g1, room_y (d := d + 3) hne hf g2]
      refine .inr (bad_of (r := 0) (T' := T') ?_ ⟨S', hdead S' g6, g6⟩ (.inl rfl) g4)
      show limK (RX (D + 24)) (mdOf 58) 29 _ [.int 0] _ = _
      rw [q_X5_takeSleeper_29 (hy := hy), show cmpB .eq (0 : Int32) 0 = true from rfl, cond_true, q_X5_takeSleeper_59 (hy := hy)]
  · have hst6 : sl = 6 := by have := hA.1; omega
    obtain ⟨S', q1, q2⟩ := room_n (d := d + 3) (x1 := S.1 164 v) (x2 := 6) hw (by rw [hA.2.2.1]; show (sl : Int) = 6; omega)
    rw [lt_f (show (6 : Int32).toInt ≤ (T.1 y 2).toInt by rw [hA.2.1]; show (6 : Int) ≤ sl; omega), cond_false, stop_c (d := D + 23) hy, q1]
    refine .inr (bad_of (r := 0) (T' := zI (zI T 1 5 2) 1 6 (T.1 1 9)) ?_ ⟨S', hdead S' q2, q2⟩ (.inl rfl) ?_)
    · show limK (RX (D + 24)) (mdOf 58) 21 _ [.int 0] _ = _
      rw [q_X5_takeSleeper_21 (hy := hy)]
      rfl
    · rw [zI_j _ (by decide), zI_i]
      decide
end SLP
