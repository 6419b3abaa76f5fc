section
/-! a sleeper is told, on both sides -/
def PSl (v sl c j : Nat) : Prop := (c = 148 ∧ 11 ≤ j ∧ j ≤ 16 ∧ j ≠ 12) ∨ ((c = 165 ∨ c = 166 ∨ c = 167) ∧ j = 6 * v + sl)
section SLP
variable {x y d D s a st sl n v t t0 t1 t2 t3 t4 E L n0 r w : Nat} {T T' T0 T1 T2 T3 T4 : TZ} {S S' S0 S1 S2 S3 S4 : WS} {x1 x2 x3 g e b u y1 y2 y3 : Int32} {o1 o2 o3 o4 o5 : Option Value}
theorem wk_164 {j : Nat} (hw : wok EC (WD S)) (h : 0 ≤ u.toInt ∧ u.toInt ≤ 6) : wok EC (WD (uI S 164 j u)) := (show UPD [(63, 1000)] S (uI S 164 j u) from up_a (t := 0) (n := 2) (up_r hw) rfl rfl rfl (.inl rfl) h).1
theorem wk_165 {j : Nat} (hw : wok EC (WD S)) : wok EC (WD (uI S 165 j u)) := (show UPD [(64, 1000)] S (uI S 165 j u) from up_a (t := 0) (n := 12) (up_r hw) rfl rfl rfl (.inl rfl) (r32 u)).1
theorem wk_166 {j : Nat} (hw : wok EC (WD S)) : wok EC (WD (uI S 166 j u)) := (show UPD [(65, 1000)] S (uI S 166 j u) from up_a (t := 0) (n := 12) (up_r hw) rfl rfl rfl (.inl rfl) (r32 u)).1
theorem wk_167 {j : Nat} (hw : wok EC (WD S)) : wok EC (WD (uI S 167 j u)) := (show UPD [(66, 1000)] S (uI S 167 j u) from up_a (t := 0) (n := 12) (up_r hw) rfl rfl rfl (.inl rfl) (r32 u)).1
theorem mc_sl (h : MC (PSl v sl) S0 S1) (k : FS S1 S2) : MC (PSl v sl) S0 S2 := mc_t h (mc_fs (fun j q1 q2 q3 => .inl ⟨rfl, q1, q2, q3⟩) k)
/-! the reference stands still -/
theorem ld_67 (hf : ftS S ≠ 0) (hw : wok EC (WD S)) : ∃ S', limK (RX (d + 5)) (mdOf 221) 67 [some (.ref 148), o1, some (.int x2)] [] S = some (none, S') ∧ ftS S' ≠ 0 := by
  have := ft2 hw
  rw [q_X12_tellSleeper_67, le_f (show (0 : Int32).toInt < (S.1 148 13).toInt by show 0 < ftS S; omega), cond_false]
  exact ⟨S, rfl, hf⟩
theorem ld_61 (hf : ftS S ≠ 0) (hw : wok EC (WD S)) (hi : inR x1 12 = true) : ∃ S', limK (RX (d + 5)) (mdOf 221) 61 [some (.ref 148), some (.int x1), some (.int x2)] [.int g, .int x1, .ref 167] S = some (none, S') ∧ ftS S' ≠ 0 := by
  have hf1 : ftS (uI S 167 x1.toNatClampNeg g) ≠ 0 := by show ((uI S 167 _ g).1 148 13).toInt ≠ 0; rw [uI_ne _ _ _ _ (by decide)]; exact hf
  rw [q_X12_tellSleeper_61, hi, cond_true, must_b hf1 (wk_167 hw)]
  exact ld_67 hf1 (wk_167 hw)
theorem ld_48 (hf : ftS S ≠ 0) (hw : wok EC (WD S)) (hi : inR x1 12 = true) : ∃ S', limK (RX (d + 5)) (mdOf 221) 48 [some (.ref 148), some (.int x1), some (.int x2)] [.int g, .int x1, .ref 166] S = some (none, S') ∧ ftS S' ≠ 0 := by
  have hf1 : ftS (uI S 166 x1.toNatClampNeg g) ≠ 0 := by show ((uI S 166 _ g).1 148 13).toInt ≠ 0; rw [uI_ne _ _ _ _ (by decide)]; exact hf
  rw [q_X12_tellSleeper_48, hi, cond_true, bounded_b hf1 (wk_166 hw)]
  exact ld_61 hf1 (wk_166 hw) hi
theorem ld_35 (hf : ftS S ≠ 0) (hw : wok EC (WD S)) (hi : inR x1 12 = true) : ∃ S', limK (RX (d + 5)) (mdOf 221) 35 [some (.ref 148), some (.int x1), some (.int x2)] [.int g, .int x1, .ref 165] S = some (none, S') ∧ ftS S' ≠ 0 := by
  have hf1 : ftS (uI S 165 x1.toNatClampNeg g) ≠ 0 := by show ((uI S 165 _ g).1 148 13).toInt ≠ 0; rw [uI_ne _ _ _ _ (by decide)]; exact hf
  rw [q_X12_tellSleeper_35, hi, cond_true, bounded_b hf1 (wk_165 hw)]
  exact ld_48 hf1 (wk_165 hw) hi
theorem ld_22 (hf : ftS S ≠ 0) (hw : wok EC (WD S)) (hi : inR x1 12 = true) : ∃ S', limK (RX (d + 5)) (mdOf 221) 22 [some (.ref 148), some (.int x1), o2] [.int x2] S = some (none, S') ∧ ftS S' ≠ 0 := by
  rw [q_X12_tellSleeper_22, bounded_b hf hw]
  exact ld_35 hf hw hi
theorem slp_c {c j : Nat} (h : c < y ∨ y + 8 < c ∨ (c = y ∧ j ≠ 2) ∨ (y + 1 ≤ c ∧ c ≤ y + 4) ∨ (y + 5 ≤ c ∧ j ≠ sl)) : (slT T y sl y1 y2 y3).1 c j = T.1 c j := by
  unfold slT
  rw [zI_no _ (by omega), zI_no _ (by omega), zI_no _ (by omega), zI_no _ (by omega), zI_no _ (by omega)]
theorem sl_end (hy : y = 10 ∨ y = 23) (hv : v ≤ 1) (hR : HRl T0 S0 y v t0 n st sl L n0) (hsl : sl < 6) (hC : CU T4 S3 E t4) (ht : t0 + 2 ≤ t4) (hTC : TCf PTn T0 T4) (hMC : MC (PSl v sl) S0 S3) (h2 : S3.2 = S0.2) (hg1 : S3.1 165 (6 * v + sl) = y1) (hg2 : S3.1 166 (6 * v + sl) = y2) (h1 : x1.toInt = ((6 * v + sl : Nat) : Int)) (hx2 : x2.toInt = (t1 : Int)) (ht1 : t1 ≤ 402) (hu : (T4.1 1 5).toInt = 0 → NW T0 S0 T4 n ((10 : Int32) + T0.1 y 2) t1 ∧ (0 ≤ y1.toInt ∧ y1.toInt ≤ 23) ∧ (1 ≤ y2.toInt ∧ y2.toInt ≤ 12) ∧ (0 ≤ y3.toInt ∧ y3.toInt ≤ 23)) :
    GOOD x y E v t0 (limK (RX (D + 24)) (mdOf 58) 105 [some (.ref 1), o1, o2] [.int y3, .int y2, .int y1, .ref y] (wS x y T4)) (limK (RX (d + 5)) (mdOf 221) 61 [some (.ref 148), some (.int x1), some (.int x2)] [.int y3, .int x1, .ref 167] S3) ∨ BAD x y (limK (RX (D + 24)) (mdOf 58) 105 [some (.ref 1), o1, o2] [.int y3, .int y2, .int y1, .ref y] (wS x y T4)) (limK (RX (d + 5)) (mdOf 221) 61 [some (.ref 148), some (.int x1), some (.int x2)] [.int y3, .int x1, .ref 167] S3) := by
  obtain ⟨r1, r2, r3, r4, r5, r6, r7, r8, r9, r10⟩ := hR
  have hst := r3.1
  have hN := r2.1
  have hn16 := r1.1
  have hi12 : inR x1 12 = true := inR_of (by omega) (by omega)
  have hT42 : (T4.1 y 2).toInt = (sl : Int) := by rw [hTC y 2 (by unfold PTn; omega)]; exact r5.2.1
  have eS : ∀ c j, ¬ PSl v sl c j → S3.1 c j = S0.1 c j := hMC
  have eb : T0.1 y 2 = S0.1 164 v := Int32.toInt_inj.mp (r5.2.1.trans r5.2.2.1.symm)
  have hw4 : wok EC (WD (uI S3 167 (6 * v + sl) y3)) := wk_167 hC.2.2.2.2.2.2.2
  have hC4 : CU T4 (uI S3 167 (6 * v + sl) y3) E t4 := cu_sw hC (by decide) hw4
  have hCA : CU (slT T4 y sl y1 y2 y3) (uI S3 167 (6 * v + sl) y3) E t4 := cu_hw hC4 (fun c j q => slp_c (by omega)) rfl
  have hc105 : limK (RX (D + 24)) (mdOf 58) 105 [some (.ref 1), o1, o2] [.int y3, .int y2, .int y1, .ref y] (wS x y T4) = kbd (limK (RX (D + 24)) (mdOf 58)) 114 [some (.ref 1), o1, o2] [] (RX (D + 24) 67 [.ref 1, .int 59] (wS x y (slT T4 y sl y1 y2 y3))) := by
    rw [q_X5_takeSleeper_105 (hy := hy), addSleeper_c hy hT42 hsl]
    show limK (RX (D + 24)) (mdOf 58) 108 _ [] _ = _
    rw [q_X5_takeSleeper_108 (hy := hy)]
  have h114 : ∀ (r : Int32) T, (r = 0 ∨ r = 1) → limK (RX (D + 24)) (mdOf 58) 114 [some (.ref 1), o1, o2] [.int r] (wS x y T) = some (some (.int r), wS x y T) := fun r T hr => by
    rw [q_X5_takeSleeper_114 (hy := hy)]
    rcases hr with q | q <;> rw [q] <;> rfl
  rw [hc105, q_X12_tellSleeper_61, hi12, cond_true, tnc h1]
  rcases take_l (x := x) (d := D + 23) (dm := d + 2) (k := 59) (m := 4) hy hCA (by decide) (by decide) (by decide) with ⟨-, g1, g2, g3⟩ | ⟨T', S', g1, g2, g3, g4, g5, g6, g7⟩
  · have hS5 : ∀ c j, ¬ (c = 148 ∧ j = 11) → ¬ (c = 167 ∧ j = 6 * v + sl) → (goS (uI S3 167 (6 * v + sl) y3)).1 c j = S3.1 c j := fun c j q z => (uI_no _ _ _ _ q).trans (uI_no _ _ _ _ z)
    generalize hS4 : goS (uI S3 167 (6 * v + sl) y3) = S4 at g2 g3 hS5
    have h42 : S4.2 = S0.2 := by rw [← hS4]; exact h2
    have h167 : S4.1 167 (6 * v + sl) = y3 := by rw [← hS4, go_c (by decide), uI_i]
    have hf5 : ftS S4 = 0 := g3.2.2.2.2.2.1
    have hw5 := g3.2.2.2.2.2.2.2
    have e19 : (S4.1 148 19).toInt = (v : Int) := by rw [hS5 148 19 (by omega) (by omega), eS 148 19 (by unfold PSl; omega)]; exact r10
    have i2 : inR (S4.1 148 19) 2 = true := inR_of (by omega) (by omega)
    have t19 : (S4.1 148 19).toNatClampNeg = v := tnc e19
    have e164 : S4.1 164 v = S0.1 164 v := by rw [hS5 164 v (by omega) (by omega)]; exact eS 164 v (by unfold PSl; omega)
    have hn6 : nmS S4 = (n : Int) := by
      show (S4.1 148 20).toInt = _
      rw [hS5 148 20 (by omega) (by omega), eS 148 20 (by unfold PSl; omega)]
      exact r1.2.2.1
    have hbv : ((10 : Int32) + S0.1 164 v).toInt = 10 + (sl : Int) := by
      have := r5.2.2.1
      rw [ad_i (by show _ ≤ (10 : Int) + _; omega) (by show (10 : Int) + _ ≤ _; omega), this]
      rfl
    have hb15 : 0 ≤ ((10 : Int32) + S0.1 164 v).toInt ∧ ((10 : Int32) + S0.1 164 v).toInt ≤ 15 := by omega
    obtain ⟨n1, n2⟩ := notes_x (d := d + 4) (x1 := x2) (b := (10 : Int32) + S0.1 164 v) hw5 hx2 ht1 hn6 (by omega) hb15
    have hr67 : limK (RX (d + 5)) (mdOf 221) 67 [some (.ref 148), some (.int x1), some (.int x2)] [] S4 = some (none, uI (ntS S4 n t1 ((10 : Int32) + S0.1 164 v)) 164 v ((S0.1 164 v) + 1)) := by
      rw [q_X12_tellSleeper_67, le_t (show (S4.1 148 13).toInt ≤ (0 : Int32).toInt by show ftS S4 ≤ 0; omega), cond_true, i2, cond_true, t19, e164, n1]
      show limK (RX (d + 5)) (mdOf 221) 92 _ [] _ = _
      have e1 : (ntS S4 n t1 ((10 : Int32) + S0.1 164 v)).1 148 19 = S4.1 148 19 := nt_c (by decide) (by decide)
      have e2 : (ntS S4 n t1 ((10 : Int32) + S0.1 164 v)).1 164 v = S0.1 164 v := by rw [nt_c (by decide) (by omega), e164]
      rw [q_X12_tellSleeper_92, e1, i2, cond_true, cond_true, t19, e2]
    have hcr : kbd (limK (RX (D + 24)) (mdOf 58)) 114 [some (.ref 1), o1, o2] [] (RX (D + 24) 67 [.ref 1, .int 59] (wS x y (slT T4 y sl y1 y2 y3))) = some (some (.int 1), wS x y (tkT (slT T4 y sl y1 y2 y3) t4)) := by
      rw [g1]
      exact h114 1 _ (.inr rfl)
    have hrr : kbd (limK (RX (d + 5)) (mdOf 221)) 67 [some (.ref 148), some (.int x1), some (.int x2)] [] (RX (d + 5) 209 [.ref 148, .int 4] (uI S3 167 (6 * v + sl) y3)) = some (none, uI (ntS S4 n t1 ((10 : Int32) + S0.1 164 v)) 164 v ((S0.1 164 v) + 1)) := by
      rw [g2]
      exact hr67
    have hs1 : ((S0.1 164 v) + 1).toInt = ((sl + 1 : Nat) : Int) := inc_i r5.2.2.1 (by omega)
    have hw8 : wok EC (WD (uI (ntS S4 n t1 ((10 : Int32) + S0.1 164 v)) 164 v ((S0.1 164 v) + 1))) := wk_164 n2 (by omega)
    have hSc : ∀ c j, c ≠ 157 → ¬ (c = 148 ∧ j = 20) → ¬ (c = 164 ∧ j = v) → (uI (ntS S4 n t1 ((10 : Int32) + S0.1 164 v)) 164 v ((S0.1 164 v) + 1)).1 c j = S4.1 c j := fun c j z1 z2 z4 => by
      rw [uI_no _ _ _ _ z4, nt_c z1 z2]
    have hTc : ∀ c j, c ≠ 1 → (tkT (slT T4 y sl y1 y2 y3) t4).1 c j = (slT T4 y sl y1 y2 y3).1 c j := fun c j q => fc_tk.1 c j (by omega)
    have hwo : woS (uI (ntS S4 n t1 ((10 : Int32) + S0.1 164 v)) 164 v ((S0.1 164 v) + 1)) = woS S4 := by
      show ((uI _ 164 _ _).1 148 15).toInt = _
      rw [hSc 148 15 (by decide) (by omega) (by omega)]
    have hCF : CU (tkT (slT T4 y sl y1 y2 y3) t4) (uI (ntS S4 n t1 ((10 : Int32) + S0.1 164 v)) 164 v ((S0.1 164 v) + 1)) E (t4 + 1) := by
      refine cu_s g3 hw8 (fun i _ => hSc 151 i (by decide) (by omega) (by omega)) (fun i _ => hSc 153 i (by decide) (by omega) (by omega)) (fun i _ => ?_) (hSc 148 11 (by decide) (by omega) (by omega)) (hSc 148 13 (by decide) (by omega) (by omega)) (hSc 148 15 (by decide) (by omega) (by omega))
      show (uL _ 156 n _).2.1 154 i = _
      rw [uL_ne _ _ _ _ (by decide)]
    rcases g3.2.2.2.2.2.2.1 with ⟨z1, z2⟩ | ⟨z1, z2⟩
    · have hz4 : (T4.1 1 5).toInt = 0 := by
        rw [tk_5, slp_c (by omega)] at z1
        exact z1
      obtain ⟨hW, hg3, hg4, hg5⟩ := hu hz4
      refine .inl ⟨_, _, t4 + 1, n + 1, st, sl + 1, L, n0, hcr, hrr, hCF, by omega, z1, ?_⟩
      have hT0 : ∀ c j, ¬ (c = 1 ∨ c = 9) → ¬ (y + 5 ≤ c ∧ c ≤ y + 8 ∧ j = sl) → ¬ (c = y ∧ j = 2) → (tkT (slT T4 y sl y1 y2 y3) t4).1 c j = T0.1 c j := fun c j p1 p2 p3 => by
        rw [hTc c j (by omega), slp_c (by omega)]
        exact hTC c j p1
      have hS0 : ∀ c j, c ≠ 157 → ¬ (c = 148 ∧ (11 ≤ j ∧ j ≤ 16 ∧ j ≠ 12 ∨ j = 20)) → ¬ ((c = 165 ∨ c = 166 ∨ c = 167) ∧ j = 6 * v + sl) → ¬ (c = 164 ∧ j = v) → (uI (ntS S4 n t1 ((10 : Int32) + S0.1 164 v)) 164 v ((S0.1 164 v) + 1)).1 c j = S0.1 c j := fun c j p1 p2 p3 p4 => by
        rw [hSc c j p1 (by omega) p4, hS5 c j (by omega) (by omega)]
        exact eS c j (by unfold PSl; omega)
      have hWf : NW T0 S0 (tkT (slT T4 y sl y1 y2 y3) t4) n ((10 : Int32) + S0.1 164 v) t1 := by
        rw [← eb]
        refine nw_c hW ?_ (fun i _ => ?_) (fun i => ?_)
        · rw [fc_tk.1 1 3 (by omega), slp_c (by omega)]
        · rw [hTc 9 i (by omega), slp_c (by omega)]
        · rw [fc_tk.2 8 i (by omega)]
          rfl
      have hy10 : 10 ≤ y ∧ y ≤ 23 := by omega
      have hHF : ∀ a, (a < sl → LW1 (tkT (slT T4 y sl y1 y2 y3) t4) (uI (ntS S4 n t1 ((10 : Int32) + S0.1 164 v)) 164 v ((S0.1 164 v) + 1)) y v L n0 a) := fun a ha =>
        lw_c ((r8 a).1 ha) (Nat.le_refl _) (Nat.le_refl _) (hT0 _ _ (by omega) (by omega) (by omega)) (fun j _ => hT0 _ _ (by omega) (by omega) (by omega)) (hS0 171 _ (by decide) (by omega) (by omega) (by omega)) (hS0 172 _ (by decide) (by omega) (by omega) (by omega)) (fun j _ => rb_eq (fun c q1 q2 => hS0 c j (by omega) (by omega) (by omega) (by omega))) (kc_eq (hS0 148 44 (by decide) (by omega) (by omega) (by omega)) (fun c j q => hS0 c j (by omega) (by omega) (by omega) (by omega)))
      refine ⟨nm_new r1 hWf (by omega) hb15 ?_ ?_ (fun i hi => ?_) ?_ (fun i hi => ?_), ⟨by omega, fun i hi => ?_⟩, ha_c r3 (fun c j q1 q2 q3 => hT0 c j (by omega) (by omega) (by omega)) (fun c j q1 q2 => hS0 c j (by omega) (by omega) (by omega) (by omega)), hb_c r4 (hT0 _ _ (by omega) (by omega) (by omega)) (hS0 _ _ (by decide) (by omega) (by omega) (by omega)), ⟨by omega, ?_, ?_, fun s hs => ?_⟩, hd_c r6 (by omega) (hT0 _ _ (by omega) (by omega) (by omega)) (hS0 _ _ (by decide) (by omega) (by omega) (by omega)), he_c r7 (hT0 _ _ (by omega) (by omega) (by omega)) (hT0 _ _ (by omega) (by omega) (by omega)) (hS0 _ _ (by decide) (by omega) (by omega) (by omega)) (hS0 _ _ (by decide) (by omega) (by omega) (by omega)), fun a => ⟨fun ha => ?_, fun h1 h2 => ?_⟩, hl_c r9 (by omega) (hT0 _ _ (by omega) (by omega) (by omega)) (hS0 148 12 (by decide) (by omega) (by omega) (by omega)) (hS0 148 38 (by decide) (by omega) (by omega) (by omega)) (hS0 148 44 (by decide) (by omega) (by omega) (by omega)), ?_⟩
      · show ((uI _ 164 _ _).1 148 20).toInt = _
        rw [uI_ne _ _ _ _ (by decide), nt_20]
        exact inc_i hn6 (by omega)
      · rw [uI_ne _ _ _ _ (by decide), nt_157]
      · rw [uI_ne _ _ _ _ (by decide), nt_157j (by omega), hS5 157 i (by omega) (by omega)]
        exact eS 157 i (by unfold PSl; omega)
      · show (ntS S4 n t1 ((10 : Int32) + S0.1 164 v)).2.1 156 n = _
        rw [nt_156, h42]
      · show (ntS S4 n t1 ((10 : Int32) + S0.1 164 v)).2.1 156 i = _
        rw [nt_156j (by omega), h42]
      · by_cases ei : i = n
        · subst ei
          rw [hWf.2.1]
          exact .inr (by omega)
        · rw [(hWf.2.2.2.2.1 i (by omega)).2]
          rcases r2.2 i (by omega) with q | q
          · exact .inl q
          · exact .inr (by omega)
      · rw [hTc y 2 (by omega)]
        unfold slT
        rw [zI_i]
        exact inc_i hT42 (by omega)
      · rw [uI_i]
        exact hs1
      · by_cases es : s = sl
        · subst es
          have e1 : (tkT (slT T4 y s y1 y2 y3) t4).1 (y + 5) s = y1 := by
            rw [hTc _ _ (by omega)]
            unfold slT
            rw [zI_ne _ (by omega), zI_ne _ (by omega), zI_ne _ (by omega), zI_ne _ (by omega), zI_i]
          have e2 : (tkT (slT T4 y s y1 y2 y3) t4).1 (y + 6) s = y2 := by
            rw [hTc _ _ (by omega)]
            unfold slT
            rw [zI_ne _ (by omega), zI_ne _ (by omega), zI_ne _ (by omega), zI_i]
          have e3 : (tkT (slT T4 y s y1 y2 y3) t4).1 (y + 7) s = y3 := by
            rw [hTc _ _ (by omega)]
            unfold slT
            rw [zI_ne _ (by omega), zI_ne _ (by omega), zI_i]
          rw [e1, e2, e3, hSc 165 _ (by decide) (by omega) (by omega), hSc 166 _ (by decide) (by omega) (by omega), hSc 167 _ (by decide) (by omega) (by omega), hS5 165 _ (by omega) (by omega), hS5 166 _ (by omega) (by omega), h167, hg1, hg2]
          exact ⟨⟨rfl, hg3⟩, ⟨rfl, hg4⟩, rfl, hg5⟩
        · rw [hT0 (y + 5) s (by omega) (by omega) (by omega), hT0 (y + 6) s (by omega) (by omega) (by omega), hT0 (y + 7) s (by omega) (by omega) (by omega), hS0 165 _ (by decide) (by omega) (by omega) (by omega), hS0 166 _ (by decide) (by omega) (by omega) (by omega), hS0 167 _ (by decide) (by omega) (by omega) (by omega)]
          exact r5.2.2.2 s (by omega)
      · by_cases es : a = sl
        · subst es
          refine .inl ⟨?_, ?_⟩
          · rw [hTc _ _ (by omega)]
            unfold slT
            rw [zI_ne _ (by omega), zI_i]
            rfl
          · rw [hS0 171 _ (by decide) (by omega) (by omega) (by omega), hS0 172 _ (by decide) (by omega) (by omega) (by omega)]
            exact (r8 a).2 (Nat.le_refl _) hsl
        · exact hHF a (by omega)
      · rw [hS0 171 _ (by decide) (by omega) (by omega) (by omega), hS0 172 _ (by decide) (by omega) (by omega) (by omega)]
        exact (r8 a).2 (by omega) h2
      · show ((uI _ 164 _ _).1 148 19).toInt = _
        rw [hS0 148 19 (by decide) (by omega) (by omega) (by omega)]
        exact r10
    · exact .inr ⟨1, _, _, hcr, hrr, .inr rfl, z1, .inr (by rw [hwo]; exact z2)⟩
  · rw [g1, g2]
    exact .inr (bad_of (h114 0 _ (.inl rfl)) (ld_67 g6 g5.1) (.inl rfl) g4)
theorem mc_0l : MC (PSl v sl) S S := fun _ _ _ => rfl
/-- 'sleeper' -/
theorem one_slp (hy : y = 10 ∨ y = 23) (hv : v ≤ 1) (hC : CU T S E t) (hb : (T.1 1 5).toInt = 0) (hR : HRl T S y v t n st sl L n0) (hk : T.1 5 t = 131) :
    GOOD x y E v t (RX (D + 25) 58 [.ref 1] (wS x y T)) (kbd (limK (RX (d + 6)) (mdOf 214)) 125 [some (.ref 148), o1] [] (RX (d + 6) 213 [.ref 148, .int (S.1 164 v), .int 6] S)) ∨ BAD x y (RX (D + 25) 58 [.ref 1] (wS x y T)) (kbd (limK (RX (d + 6)) (mdOf 214)) 125 [some (.ref 148), o1] [] (RX (d + 6) 213 [.ref 148, .int (S.1 164 v), .int 6] S)) := by
  have hA := hR.2.2.2.2.1
  have hw := hC.2.2.2.2.2.2.2
  have hf := hC.2.2.2.2.2.1
  have hdead : ∀ S1, ftS S1 ≠ 0 → limK (RX (d + 6)) (mdOf 214) 125 [some (.ref 148), o1] [] S1 = some (none, S1) := fun S1 q => by
    rw [q_X12_tellOne_125, ne_t (show (S1.1 148 13).toInt ≠ (0 : Int32).toInt from q), cond_true, q_X12_tellOne_256]
  rw [e_X5_takeSleeper, q_X5_takeSleeper_0 (hy := hy)]
  by_cases hst : sl < 6
  · rw [lt_t (show (T.1 y 2).toInt < (6 : Int32).toInt by rw [hA.2.1]; show (sl : Int) < 6; omega), cond_true]
    have hne : (S.1 164 v).toInt ≠ (6 : Int32).toInt := by rw [hA.2.2.1]; show (sl : Int) ≠ 6; omega
    rcases go_l (x := x) (d := D + 23) (dm := d + 3) hy hC hk (by decide) (by decide) with ⟨g1, g2, g3⟩ | ⟨T', S', g1, g2, g3, g4, g5, g6, g7⟩
    · rw [g1, room_y (d := d + 3) hne hf g2]
      have hR1 := hr_c hy hR (Nat.le_succ t) (fc_tk (t := t)) fs_go
      obtain ⟨r1, r2, r3, r4, r5, r6, r7, r8, r9, r10⟩ := hR1
      have r5' := r5
      obtain ⟨a1, a2, a3, a4⟩ := r5'
      have hf1 : ftS (goS S) = 0 := g3.2.2.2.2.2.1
      have i2 : inR ((goS S).1 148 19) 2 = true := inR_of (by show 0 ≤ sdS (goS S); omega) (by show sdS (goS S) < _; omega)
      have t19 : ((goS S).1 148 19).toNatClampNeg = v := tnc r10
      have hx1 : ((6 : Int32) * ((goS S).1 148 19) + ((goS S).1 164 v)).toInt = ((6 * v + sl : Nat) : Int) := by
        rw [ixk g3.2.2.2.2.2.2.2 ⟨by decide, by decide⟩ ⟨by omega, by omega⟩, r10, a3]
        show (6 : Int) * (v : Int) + (sl : Int) = _
        omega
      have hi : inR ((6 : Int32) * ((goS S).1 148 19) + ((goS S).1 164 v)) 12 = true := inR_of (by omega) (by omega)
      have hcl : kbd (limK (RX (D + 24)) (mdOf 58)) 29 [some (.ref 1), none, none] [] (some (some (.int 1), wS x y (tkT T t))) = kbd (limK (RX (D + 24)) (mdOf 58)) 46 [some (.ref 1), none, none] [] (RX (D + 24) 69 [.ref 1, .int ((10 : Int32) + (tkT T t).1 y 2)] (wS x y (tkT T t))) := by
        show limK (RX (D + 24)) (mdOf 58) 29 _ [.int 1] _ = _
        rw [q_X5_takeSleeper_29 (hy := hy), show cmpB .eq (1 : Int32) 0 = false from rfl, cond_false]
      have hrf : kbd (limK (RX (d + 6)) (mdOf 214)) 125 [some (.ref 148), o1] [] (some (none, goS S)) = kbd (limK (RX (d + 6)) (mdOf 214)) 136 [some (.ref 148), o1] [] (kbd (limK (RX (d + 5)) (mdOf 221)) 22 [some (.ref 148), some (.int ((6 : Int32) * ((goS S).1 148 19) + ((goS S).1 164 v))), none] [] (RX (d + 5) 215 [.ref 148] (goS S))) := by
        show limK (RX (d + 6)) (mdOf 214) 125 _ [] _ = _
        rw [q_X12_tellOne_125, ne_f (show ((goS S).1 148 13).toInt = (0 : Int32).toInt from hf1), cond_false, e_X12_tellSleeper, q_X12_tellSleeper_0, i2, cond_true, t19]
      rw [hcl, hrf]
      have hwrap : ∀ {cr rr : Option RK}, GOOD x y E v t cr rr ∨ BAD x y cr rr → GOOD x y E v t cr (kbd (limK (RX (d + 6)) (mdOf 214)) 136 [some (.ref 148), o1] [] rr) ∨ BAD x y cr (kbd (limK (RX (d + 6)) (mdOf 214)) 136 [some (.ref 148), o1] [] rr) := fun {cr rr} q => by
        have h78 : ∀ S1, limK (RX (d + 6)) (mdOf 214) 136 [some (.ref 148), o1] [] S1 = some (none, S1) := fun S1 => by rw [q_X12_tellOne_136, q_X12_tellOne_256]
        rcases q with ⟨T', S', t', n', st', sl', L', n0', p1, p2, p3⟩ | ⟨r, T', S', p1, p2, p3⟩
        · exact .inl ⟨T', S', t', n', st', sl', L', n0', p1, by rw [p2]; exact h78 S', p3⟩
        · exact .inr ⟨r, T', S', p1, by rw [p2]; exact h78 S', p3⟩
      apply hwrap
      have hb1 : ((tkT T t).1 1 5).toInt = 0 := by rw [tk_5]; exact hb
      have ht2 := g3.2.1
      have hE := g3.1.1
      rcases name_l (x := x) (d := D + 22) (dm := d + 1) (b := (10 : Int32) + (tkT T t).1 y 2) hy g3 r1 (by have := r2.1; have := r3.1; omega) hb1 with ⟨T1, S1, p1, p2, p3, p4, p5⟩ | ⟨T', S', p1, p2, p3, p4, p5⟩
      · rw [p1, p2]
        show GOOD x y E v t (limK (RX (D + 24)) (mdOf 58) 46 _ [.int 1] _) (limK (RX (d + 5)) (mdOf 221) 22 _ [.int ((goS S).1 148 11)] _) ∨ BAD x y (limK (RX (D + 24)) (mdOf 58) 46 _ [.int 1] _) (limK (RX (d + 5)) (mdOf 221) 22 _ [.int ((goS S).1 148 11)] _)
        have hTC : TCf PTn T T1 := by
          rcases p5 with ⟨-, q, -⟩ | ⟨-, q⟩
          · rw [q]
            exact tc_t (tc_fc (fun j => .inl rfl) (fc_t fc_tk fc_tk)) (tc_nm (P := PTn) (fun j => .inl rfl) (fun j => .inr rfl))
          · exact tc_fc (fun j => .inl rfl) (fc_t fc_tk q)
        have hW : (T1.1 1 5).toInt = 0 → NW T S T1 n ((10 : Int32) + T.1 y 2) (t + 1) := fun z => by
          rcases p5 with ⟨-, q, -, q1, q2⟩ | ⟨q, -⟩
          · rw [q]
            have ey : (tkT T t).1 y 2 = T.1 y 2 := fc_tk.1 y 2 (by omega)
            rw [ey]
            have hNt : NMR ((tkT T t).2 7 (t + 1)) ((goS S).2.1 154 (t + 1)) := (g3.1.2.1 (t + 1) g3.2.1).2.2 (by rw [q1]; rfl)
            have e7 : (tkT T t).2 7 (t + 1) = T.2 7 (t + 1) := fc_tk.2 7 _ (by omega)
            refine nw_0 hR.1.2.1 (by have := r2.1; have := r3.1; omega) (fun i hi => ?_) (by rw [e7] at hNt; exact hNt) (fc_t fc_tk fc_tk) (by rw [tk_10, e7])
            have := q2 i hi
            rw [e7, fc_tk.2 8 i (by omega)] at this
            exact this
          · exact absurd z q
        rw [q_X5_takeSleeper_46 (hy := hy), show cmpB .eq (1 : Int32) 0 = false from rfl, cond_false, q_X12_tellSleeper_22]
        have hM1 : MC (PSl v sl) S S1 := mc_sl mc_0l (fs_t fs_go p4)
        have h12 : S1.2 = S.2 := (fs_t fs_go p4).2
        rcases int_l (x := x) (x1 := 0) (x2 := 23) (d := D + 22) (dm := d + 2) hy p3 with ⟨T2, S2, u1, u2, u3, u4, u5, u6, u7, u8⟩ | ⟨T', S', r, u1, u2, u3, u4, u5⟩
        · rw [u1, u2]
          show GOOD x y E v t (limK (RX (D + 24)) (mdOf 58) 56 _ [.int 1] _) (limK (RX (d + 5)) (mdOf 221) 35 _ [.int (S1.1 153 (t + 1 + 1)), .int _, .ref 165] _) ∨ BAD x y (limK (RX (D + 24)) (mdOf 58) 56 _ [.int 1] _) (limK (RX (d + 5)) (mdOf 221) 35 _ [.int (S1.1 153 (t + 1 + 1)), .int _, .ref 165] _)
          have hw2 : wok EC (WD (uI S2 165 (6 * v + sl) (S1.1 153 (t + 1 + 1)))) := wk_165 u3.2.2.2.2.2.2.2
          rw [q_X5_takeSleeper_56 (hy := hy), show cmpB .ne (1 : Int32) 0 = true from rfl, cond_true, taken_c (d := D + 23) hy, u6, q_X12_tellSleeper_35, hi, cond_true, tnc hx1]
          show GOOD x y E v t (limK (RX (D + 24)) (mdOf 58) 65 _ [.int (S1.1 153 (t + 1 + 1))] _) _ ∨ BAD x y (limK (RX (D + 24)) (mdOf 58) 65 _ [.int (S1.1 153 (t + 1 + 1))] _) _
          rw [q_X5_takeSleeper_65 (hy := hy)]
          generalize hv1 : S1.1 153 (t + 1 + 1) = v1 at *
          have hC2 : CU T2 (uI S2 165 (6 * v + sl) v1) E (t + 1 + 1 + 1) := cu_sw u3 (by decide) hw2
          rcases int_l (x := x) (x1 := 1) (x2 := 12) (d := D + 22) (dm := d + 2) hy hC2 with ⟨T3, S3, w1, w2, w3, w4, w5, w6, w7, w8⟩ | ⟨T', S', r, w1, w2, w3, w4, w5⟩
          · rw [w1, w2]
            show GOOD x y E v t (limK (RX (D + 24)) (mdOf 58) 73 _ [.int 1] _) (limK (RX (d + 5)) (mdOf 221) 48 _ [.int ((uI S2 165 (6 * v + sl) v1).1 153 (t + 1 + 1 + 1)), .int _, .ref 166] _) ∨ BAD x y (limK (RX (D + 24)) (mdOf 58) 73 _ [.int 1] _) (limK (RX (d + 5)) (mdOf 221) 48 _ [.int ((uI S2 165 (6 * v + sl) v1).1 153 (t + 1 + 1 + 1)), .int _, .ref 166] _)
            generalize hv2 : (uI S2 165 (6 * v + sl) v1).1 153 (t + 1 + 1 + 1) = v2 at *
            have hw3 : wok EC (WD (uI S3 166 (6 * v + sl) v2)) := wk_166 w3.2.2.2.2.2.2.2
            rw [q_X5_takeSleeper_73 (hy := hy), show cmpB .ne (1 : Int32) 0 = true from rfl, cond_true, taken_c (d := D + 23) hy, w6, q_X12_tellSleeper_48, hi, cond_true, tnc hx1]
            show GOOD x y E v t (limK (RX (D + 24)) (mdOf 58) 82 _ [.int v2] _) _ ∨ BAD x y (limK (RX (D + 24)) (mdOf 58) 82 _ [.int v2] _) _
            rw [q_X5_takeSleeper_82 (hy := hy)]
            have hC3 : CU T3 (uI S3 166 (6 * v + sl) v2) E (t + 1 + 1 + 1 + 1) := cu_sw w3 (by decide) hw3
            rcases int_l (x := x) (x1 := 0) (x2 := 23) (d := D + 22) (dm := d + 2) hy hC3 with ⟨T4, S4, z1, z2, z3, z4, z5, z6, z7, z8⟩ | ⟨T', S', r, z1, z2, z3, z4, z5⟩
            · rw [z1, z2]
              show GOOD x y E v t (limK (RX (D + 24)) (mdOf 58) 90 _ [.int 1] _) (limK (RX (d + 5)) (mdOf 221) 61 _ [.int ((uI S3 166 (6 * v + sl) v2).1 153 (t + 1 + 1 + 1 + 1)), .int _, .ref 167] _) ∨ BAD x y (limK (RX (D + 24)) (mdOf 58) 90 _ [.int 1] _) (limK (RX (d + 5)) (mdOf 221) 61 _ [.int ((uI S3 166 (6 * v + sl) v2).1 153 (t + 1 + 1 + 1 + 1)), .int _, .ref 167] _)
              generalize hv3 : (uI S3 166 (6 * v + sl) v2).1 153 (t + 1 + 1 + 1 + 1) = v3 at *
              rw [q_X5_takeSleeper_90 (hy := hy), show cmpB .ne (1 : Int32) 0 = true from rfl, cond_true, taken_c (d := D + 23) hy, z6]
              show GOOD x y E v t (limK (RX (D + 24)) (mdOf 58) 105 _ [.int v3, .int v2, .int v1, .ref y] _) _ ∨ BAD x y (limK (RX (D + 24)) (mdOf 58) 105 _ [.int v3, .int v2, .int v1, .ref y] _) _
              have hM2 : MC (PSl v sl) S (uI S2 165 (6 * v + sl) v1) := mc_t (mc_sl hM1 u5) (mc_i (.inr ⟨.inl rfl, rfl⟩))
              have hM3 : MC (PSl v sl) S (uI S3 166 (6 * v + sl) v2) := mc_t (mc_sl hM2 w5) (mc_i (.inr ⟨.inr (.inl rfl), rfl⟩))
              refine sl_end hy hv hR hst z3 (by omega) (tc_t (tc_t (tc_t hTC (tc_fc (fun j => .inl rfl) u4)) (tc_fc (fun j => .inl rfl) w4)) (tc_fc (fun j => .inl rfl) z4)) (mc_sl hM3 z5) ?_ ?_ ?_ hx1 g3.2.2.2.1 (by omega) (fun q => ?_)
              · rw [z5.2]
                show S3.2 = _
                rw [w5.2]
                show S2.2 = _
                rw [u5.2]
                exact h12
              · rw [z5.1 165 _ (by omega), uI_ne _ _ _ _ (by decide), w5.1 165 _ (by omega), uI_i]
              · rw [z5.1 166 _ (by omega), uI_i]
              · obtain ⟨q1, q2, q3⟩ := z8 q
                obtain ⟨q4, q5, q6⟩ := w8 q1
                obtain ⟨q7, q8, q9⟩ := u8 q4
                exact ⟨nw_fc (nw_fc (nw_fc (hW q7) u4) w4) z4, ⟨q8, q9⟩, ⟨q5, q6⟩, ⟨q2, q3⟩⟩
            · rw [z1, z2]
              refine .inr (bad_of (r := 0) (T' := T') ?_ (ld_61 z4 z5 hi) (.inl rfl) z3)
              show limK (RX (D + 24)) (mdOf 58) 90 _ [.int 0] _ = _
              rw [q_X5_takeSleeper_90 (hy := hy), show cmpB .ne (0 : Int32) 0 = false from rfl, cond_false]
          · rw [w1, w2]
            refine .inr (bad_of (r := 0) (T' := T') ?_ (ld_48 w4 w5 hi) (.inl rfl) w3)
            show limK (RX (D + 24)) (mdOf 58) 73 _ [.int 0] _ = _
            rw [q_X5_takeSleeper_73 (hy := hy), show cmpB .ne (0 : Int32) 0 = false from rfl, cond_false]
        · rw [u1, u2]
          refine .inr (bad_of (r := 0) (T' := T') ?_ (ld_35 u4 u5 hi) (.inl rfl) u3)
          show limK (RX (D + 24)) (mdOf 58) 56 _ [.int 0] _ = _
          rw [q_X5_takeSleeper_56 (hy := hy), show cmpB .ne (0 : Int32) 0 = false from rfl, cond_false, q_X5_takeSleeper_59 (hy := hy)]
      · rw [p1, p2]
        refine .inr (bad_of (r := 0) (T' := T') ?_ (ld_22 p4 p5 hi) (.inl rfl) p3)
        show limK (RX (D + 24)) (mdOf 58) 46 _ [.int 0] _ = _
        rw [q_X5_takeSleeper_46 (hy := hy), show cmpB .eq (0 : Int32) 0 = true from rfl, cond_true, q_X5_takeSleeper_59 (hy := hy)]
    · rw [g1, room_y (d := d + 3) hne hf g2]
      refine .inr (bad_of (r := 0) (T' := T') ?_ ⟨S', hdead S' g6, g6⟩ (.inl rfl) g4)
      show limK (RX (D + 24)) (mdOf 58) 29 _ [.int 0] _ = _
      rw [q_X5_takeSleeper_29 (hy := hy), show cmpB .eq (0 : Int32) 0 = true from rfl, cond_true, q_X5_takeSleeper_59 (hy := hy)]
  · have hst6 : sl = 6 := by have := hA.1; omega
    obtain ⟨S', q1, q2⟩ := room_n (d := d + 3) (x1 := S.1 164 v) (x2 := 6) hw (by rw [hA.2.2.1]; show (sl : Int) = 6; omega)
    rw [lt_f (show (6 : Int32).toInt ≤ (T.1 y 2).toInt by rw [hA.2.1]; show (6 : Int) ≤ sl; omega), cond_false, stop_c (d := D + 23) hy, q1]
    refine .inr (bad_of (r := 0) (T' := zI (zI T 1 5 2) 1 6 (T.1 1 9)) ?_ ⟨S', hdead S' q2, q2⟩ (.inl rfl) ?_)
    · show limK (RX (D + 24)) (mdOf 58) 21 _ [.int 0] _ = _
      rw [q_X5_takeSleeper_21 (hy := hy)]
      rfl
    · rw [zI_j _ (by decide), zI_i]
      decide
end SLP
end
section
/-! a road is told, on both sides -/
section RDS
variable {x y d D s a st sl n v t t0 t1 t2 t3 t4 E L n0 r w : Nat} {T T' T0 T1 T2 T3 T4 : TZ} {S S' S0 S1 S2 S3 S4 : WS} {x1 x2 x3 g e b u f r2 : Int32} {o1 o2 o3 o4 o5 : Option Value}
theorem wk_161' {j : Nat} (hw : wok EC (WD S)) (h : 0 ≤ u.toInt ∧ u.toInt ≤ 4) : wok EC (WD (uI S 161 j u)) := wk_161 hw h
theorem wk_163 {j : Nat} (hw : wok EC (WD S)) (h : 0 ≤ u.toInt ∧ u.toInt ≤ 20) : wok EC (WD (uI S 163 j u)) := (show UPD [(62, 1000)] S (uI S 163 j u) from up_a (t := 0) (n := 2) (up_r hw) rfl rfl rfl (.inl rfl) h).1
theorem wk_162 {j : Nat} (hw : wok EC (WD S)) (h : -1 ≤ u.toInt ∧ u.toInt ≤ 9) : wok EC (WD (uI S 162 j u)) := (show UPD [(61, 1000)] S (uI S 162 j u) from up_a (t := 0) (n := 80) (up_r hw) rfl rfl rfl (.inl rfl) h).1
/-! the reference stands still -/
theorem rd_111 (hf : ftS S ≠ 0) (hw : wok EC (WD S)) : ∃ S', limK (RX (d + 5)) (mdOf 220) 111 [some (.ref 148), some (.int x1), some (.int x2)] [] S = some (none, S') ∧ ftS S' ≠ 0 := by
  have := ft2 hw
  rw [q_X12_tellRoad_111, le_f (show (0 : Int32).toInt < (S.1 148 13).toInt by show 0 < ftS S; omega), cond_false]
  exact ⟨S, rfl, hf⟩
theorem rd_105 (hf : ftS S ≠ 0) (hw : wok EC (WD S)) : ∃ S', limK (RX (d + 5)) (mdOf 220) 105 [some (.ref 148), some (.int x1), o2] [.int x2] S = some (none, S') ∧ ftS S' ≠ 0 := by
  rw [q_X12_tellRoad_105, must_b hf hw]
  exact rd_111 hf hw
theorem rd_99 (hf : ftS S ≠ 0) (hw : wok EC (WD S)) : ∃ S', limK (RX (d + 5)) (mdOf 220) 99 [some (.ref 148), some (.int x1), o2] [.int x2] S = some (none, S') ∧ ftS S' ≠ 0 := by
  rw [q_X12_tellRoad_99, known_dead hw hf]
  exact rd_105 hf hw
theorem rd_94 (hf : ftS S ≠ 0) (hw : wok EC (WD S)) : ∃ S', limK (RX (d + 5)) (mdOf 220) 94 [some (.ref 148), some (.int x1), o2] [] S = some (none, S') ∧ ftS S' ≠ 0 := by
  rw [q_X12_tellRoad_94, known_dead hw hf]
  exact rd_99 hf hw
/-- the first name is looked for ahead of its token -/
theorem rl_4 (hw : wok EC (WD S)) (hf : ftS S = 0) (ht : tkS S = (t : Int)) (ht4 : t ≤ 402) (hn : nmS S = (n : Int)) (hn16 : n ≤ 16) (hk : S.1 151 t = 1) (hsd : sdS S = (v : Int)) (hv : v ≤ 1) (hnm : ∀ i, i < n → 0 ≤ (S.1 157 i).toInt) : ∀ (m i : Nat) (x2 : Int32), i + m = n → x2.toInt = (i : Int) → (∀ j, j < i → ¬ KP S 0 t j) → ∃ (r x : Int32), limK (RX (d + 5)) (mdOf 220) 4 [some (.ref 148), some (.int (-1)), some (.int x2)] [] S = limK (RX (d + 5)) (mdOf 220) 75 [some (.ref 148), some (.int r), some (.int x)] [] S ∧ ((∃ i, i < n ∧ KP S 0 t i ∧ r.toInt = 10 * (v : Int) + (S.1 157 i).toInt) ∨ ((∀ i, i < n → ¬ KP S 0 t i) ∧ r = -1)) := by
  have his : RX (d + 5) 205 [.ref 148, .int 1] S = some (some (.int 1), S) := by
    rcases is_x (d := d + 4) hw ht hf 1 with ⟨-, q⟩ | ⟨q, -⟩
    · exact q
    · exact absurd hk q
  intro m
  induction m with
  | zero =>
    intro i x2 hi h2 hj
    refine ⟨-1, x2, ?_, .inr ⟨fun j q => hj j (by omega), rfl⟩⟩
    rw [q_X12_tellRoad_4, ge_t (show nmS S ≤ x2.toInt by omega), cond_true]
  | succ m ih =>
    intro i x2 hi h2 hj
    have h69 : ¬ KP S 0 t i → ∃ (r x : Int32), limK (RX (d + 5)) (mdOf 220) 69 [some (.ref 148), some (.int (-1)), some (.int x2)] [] S = limK (RX (d + 5)) (mdOf 220) 75 [some (.ref 148), some (.int r), some (.int x)] [] S ∧ ((∃ i, i < n ∧ KP S 0 t i ∧ r.toInt = 10 * (v : Int) + (S.1 157 i).toInt) ∨ ((∀ i, i < n → ¬ KP S 0 t i) ∧ r = -1)) := fun q => by
      rw [q_X12_tellRoad_69]
      refine ih (i + 1) (x2 + 1) (by omega) (inc_i h2 (by omega)) (fun j z => ?_)
      by_cases ej : j = i
      · rw [ej]; exact q
      · exact hj j (by omega)
    rw [q_X12_tellRoad_4, ge_f (show x2.toInt < nmS S by omega), cond_false, his]
    show ∃ r x, limK (RX (d + 5)) (mdOf 220) 17 _ [.int 1] S = _ ∧ _
    rw [q_X12_tellRoad_17, show cmpB .eq (1 : Int32) 0 = false from rfl, cond_false, show cmpB .ge (-1 : Int32) 0 = false from rfl, cond_false, inR_of (n := 16) (by omega) (by omega), cond_true, inR_of (n := 403) (by show 0 ≤ tkS S; omega) (by show tkS S < _; omega), cond_true, tnc h2, tnc (show (S.1 148 11).toInt = (t : Int) from ht)]
    rcases lg0 (a := S.2.1 156 i) (b := S.2.1 154 t) with ⟨a1, a2⟩ | ⟨a1, a2⟩
    · rw [a1, cond_true]
      exact h69 (fun q => a2 q.1)
    · rw [a1, cond_false, cond_true]
      rcases c_ge (S.1 157 i) 10 with ⟨b1, b2⟩ | ⟨b1, b2⟩
      · have b2 : 10 ≤ (S.1 157 i).toInt := b2
        rw [b1, cond_true]
        exact h69 (fun q => by
          rcases q.2 with z | z
          · omega
          · exact absurd z.1 (by decide))
      · have b2 : (S.1 157 i).toInt < 10 := b2
        have h0 := hnm i (by omega)
        have hx : ((10 : Int32) * (S.1 148 19) + (S.1 157 i)).toInt = 10 * (v : Int) + (S.1 157 i).toInt := by
          rw [ixk hw ⟨by decide, by decide⟩ ⟨by omega, by omega⟩, hsd]
          rfl
        have h75 : ∃ x : Int32, limK (RX (d + 5)) (mdOf 220) 69 [some (.ref 148), some (.int ((10 : Int32) * (S.1 148 19) + (S.1 157 i))), some (.int x2)] [] S = limK (RX (d + 5)) (mdOf 220) 75 [some (.ref 148), some (.int ((10 : Int32) * (S.1 148 19) + (S.1 157 i))), some (.int x)] [] S := by
          rw [q_X12_tellRoad_69, q_X12_tellRoad_4]
          cases cmpB .ge (x2 + 1) (S.1 148 20) with
          | true => exact ⟨x2 + 1, rfl⟩
          | false =>
            rw [cond_false, his]
            show ∃ x, limK (RX (d + 5)) (mdOf 220) 17 _ [.int 1] S = _
            rw [q_X12_tellRoad_17, show cmpB .eq (1 : Int32) 0 = false from rfl, cond_false, ge_t (show (0 : Int32).toInt ≤ ((10 : Int32) * (S.1 148 19) + (S.1 157 i)).toInt by rw [hx]; show (0 : Int) ≤ _; omega), cond_true]
            exact ⟨x2 + 1, rfl⟩
        obtain ⟨x, hxx⟩ := h75
        refine ⟨_, x, ?_, .inl ⟨i, by omega, ⟨a2, .inl ⟨rfl, by omega⟩⟩, hx⟩⟩
        rw [b1, cond_false, cond_true]
        exact hxx
/-! the end of it -/
theorem rd_end (hy : y = 10 ∨ y = 23) (hv : v ≤ 1) (hR : HRl T2 S2 y v t2 n st sl L n0) (hC : CU T2 S2 E t2) (ht : t0 + 2 ≤ t2) (hr20 : (S2.1 163 v).toInt ≠ 20)
    (hfx : (s < st ∧ f.toInt = (s : Int) ∧ x1.toInt = ((10 * v + s : Nat) : Int) ∧ (T2.1 (y + 3) s).toInt = (w : Int) ∧ w < 4) ∨ (f.toInt = -1 ∧ x1.toInt = -1 ∧ (T2.1 1 5).toInt ≠ 0)) (hr2 : -1 ≤ r2.toInt ∧ r2.toInt ≤ 9) (hu : (T2.1 1 5).toInt = 0 → 0 ≤ r2.toInt ∧ r2.toInt < (st : Int)) :
    GOOD x y E v t0 (limK (RX (D + 24)) (mdOf 57) 93 [some (.ref 1), o1] [.int r2, .int f, .ref y] (wS x y T2)) (limK (RX (d + 5)) (mdOf 220) 105 [some (.ref 148), some (.int x1), o2] [.int r2] S2) ∨ BAD x y (limK (RX (D + 24)) (mdOf 57) 93 [some (.ref 1), o1] [.int r2, .int f, .ref y] (wS x y T2)) (limK (RX (d + 5)) (mdOf 220) 105 [some (.ref 148), some (.int x1), o2] [.int r2] S2) := by
  obtain ⟨r1, rn, r3, r4, r5, r6, r7, r8, r9, r10⟩ := hR
  obtain ⟨rr, q1, q2, q3⟩ := r4
  have hst := r3.1
  have hy10 : 10 ≤ y ∧ y ≤ 23 := by omega
  have hT0 := r3.2.1
  have h102 : ∀ (r : Int32) T, (r = 0 ∨ r = 1) → limK (RX (D + 24)) (mdOf 57) 102 [some (.ref 1), o1] [.int r] (wS x y T) = some (some (.int r), wS x y T) := fun r T hr => by
    rw [q_X5_takeRoad_102 (hy := hy)]
    rcases hr with q | q <;> rw [q] <;> rfl
  have i2 : inR ((goS S2).1 148 19) 2 = true := inR_of (by show 0 ≤ sdS (goS S2); rw [show sdS (goS S2) = sdS S2 by show ((goS S2).1 148 19).toInt = _; rw [go_j (by decide)]]; omega) (by show sdS (goS S2) < _; rw [show sdS (goS S2) = sdS S2 by show ((goS S2).1 148 19).toInt = _; rw [go_j (by decide)]]; omega)
  have t19 : ((goS S2).1 148 19).toNatClampNeg = v := by rw [go_j (by decide)]; exact tnc r10
  have k163 : (S2.1 163 v + 1).toInt = ((rr + 1 : Nat) : Int) := inc_i q3 (by omega)
  have k1 : (T2.1 y 1 + 1).toInt = ((rr + 1 : Nat) : Int) := inc_i q2 (by omega)
  rw [q_X12_tellRoad_105, q_X5_takeRoad_93 (hy := hy)]
  rcases hfx with ⟨hs, hf, hx1, hw, hw4⟩ | ⟨hf, hx1, hbl⟩
  · rw [addRoad_1 hy hf (by rw [hT0]; omega) (by rw [hT0]; omega) hw hw4]
    show GOOD x y E v t0 (limK (RX (D + 24)) (mdOf 57) 96 _ [] (wS x y (arT T2 y s w r2))) _ ∨ BAD x y (limK (RX (D + 24)) (mdOf 57) 96 _ [] (wS x y (arT T2 y s w r2))) _
    rw [q_X5_takeRoad_96 (hy := hy)]
    have eT : ∀ c j, ¬ (c = y ∧ j = 1) → ¬ (c = y + 4 ∧ j = 4 * s + w) → ¬ (c = y + 3 ∧ j = s) → (arT T2 y s w r2).1 c j = T2.1 c j := fun c j z1 z2 z3 => by
      unfold arT rdT
      rw [zI_no _ z3, zI_no _ z2, zI_no _ z1]
    have hCA : CU (arT T2 y s w r2) S2 E t2 := cu_hw hC (fun c j q => eT c j (by omega) (by omega) (by omega)) rfl
    rcases take_l (x := x) (d := D + 23) (dm := d + 2) (k := 59) (m := 4) hy hCA (by decide) (by decide) (by decide) with ⟨-, g1, g2, g3⟩ | ⟨T', S', g1, g2, g3, g4, g5, g6, g7⟩
    · have hcr : kbd (limK (RX (D + 24)) (mdOf 57)) 102 [some (.ref 1), o1] [] (RX (D + 24) 67 [.ref 1, .int 59] (wS x y (arT T2 y s w r2))) = some (some (.int 1), wS x y (tkT (arT T2 y s w r2) t2)) := by
        rw [g1]
        exact h102 1 _ (.inr rfl)
      obtain ⟨a1, a2, a3, a4, a5, a6⟩ := r3.2.2.2 s hs
      have e161 : (goS S2).1 161 (10 * v + s) = S2.1 161 (10 * v + s) := go_c (by decide)
      have e163 : (goS S2).1 163 v = S2.1 163 v := go_c (by decide)
      have hw161 : (S2.1 161 (10 * v + s)).toInt = (w : Int) := by rw [← a4]; exact hw
      have hf5 : ftS (goS S2) = 0 := g3.2.2.2.2.2.1
      have hw5 := g3.2.2.2.2.2.2.2
      have i20 : inR x1 20 = true := inR_of (by omega) (by omega)
      have hix : (((4 : Int32) * x1) + (S2.1 161 (10 * v + s))).toInt = ((4 * (10 * v + s) + w : Nat) : Int) := by
        have hm : ((4 : Int32) * x1).toInt = 4 * x1.toInt := by
          rw [mu_i (by show _ ≤ (4 : Int) * _; omega) (by show (4 : Int) * _ ≤ _; omega)]
          rfl
        rw [ad_i (by rw [hm, hw161]; omega) (by rw [hm, hw161]; omega), hm, hw161, hx1]
        omega
      have e161' : (uI (uI (goS S2) 163 v (S2.1 163 v + 1)) 162 (4 * (10 * v + s) + w) r2).1 161 (10 * v + s) = S2.1 161 (10 * v + s) := by
        rw [uI_ne _ _ _ _ (by decide), uI_ne _ _ _ _ (by decide), e161]
      have hrr : kbd (limK (RX (d + 5)) (mdOf 220)) 111 [some (.ref 148), some (.int x1), some (.int r2)] [] (RX (d + 5) 209 [.ref 148, .int 4] S2) = some (none, uI (uI (uI (goS S2) 163 v (S2.1 163 v + 1)) 162 (4 * (10 * v + s) + w) r2) 161 (10 * v + s) (S2.1 161 (10 * v + s) + 1)) := by
        rw [g2]
        show limK (RX (d + 5)) (mdOf 220) 111 _ [] _ = _
        have e3 : (uI (goS S2) 163 v (S2.1 163 v + 1)).1 161 (10 * v + s) = S2.1 161 (10 * v + s) := by rw [uI_ne _ _ _ _ (by decide), e161]
        rw [q_X12_tellRoad_111, le_t (show ((goS S2).1 148 13).toInt ≤ (0 : Int32).toInt by show ftS (goS S2) ≤ 0; omega), cond_true, i2, cond_true, cond_true, ge_t (show (0 : Int32).toInt ≤ x1.toInt by rw [hx1]; show (0 : Int) ≤ _; omega), cond_true, i20, cond_true, t19, tnc hx1, e161, e163, inR_of (n := 80) (by rw [hix]; omega) (by rw [hix]; omega), cond_true, cond_true, cond_true, tnc hix]
      have hw6 : wok EC (WD (uI (goS S2) 163 v (S2.1 163 v + 1))) := wk_163 hw5 (by omega)
      have hw7 : wok EC (WD (uI (uI (goS S2) 163 v (S2.1 163 v + 1)) 162 (4 * (10 * v + s) + w) r2)) := wk_162 hw6 hr2
      have kw1 : (S2.1 161 (10 * v + s) + 1).toInt = ((w + 1 : Nat) : Int) := inc_i hw161 (by omega)
      have hw8 : wok EC (WD (uI (uI (uI (goS S2) 163 v (S2.1 163 v + 1)) 162 (4 * (10 * v + s) + w) r2) 161 (10 * v + s) (S2.1 161 (10 * v + s) + 1))) := wk_161 hw7 (by omega)
      have hSc : ∀ c j, ¬ (c = 163 ∧ j = v) → ¬ (c = 162 ∧ j = 4 * (10 * v + s) + w) → ¬ (c = 161 ∧ j = 10 * v + s) → (uI (uI (uI (goS S2) 163 v (S2.1 163 v + 1)) 162 (4 * (10 * v + s) + w) r2) 161 (10 * v + s) (S2.1 161 (10 * v + s) + 1)).1 c j = (goS S2).1 c j := fun c j z1 z2 z3 => by
        rw [uI_no _ _ _ _ z3, uI_no _ _ _ _ z2, uI_no _ _ _ _ z1]
      have hCF : CU (tkT (arT T2 y s w r2) t2) (uI (uI (uI (goS S2) 163 v (S2.1 163 v + 1)) 162 (4 * (10 * v + s) + w) r2) 161 (10 * v + s) (S2.1 161 (10 * v + s) + 1)) E (t2 + 1) :=
        cu_s g3 hw8 (fun i _ => hSc 151 i (by omega) (by omega) (by omega)) (fun i _ => hSc 153 i (by omega) (by omega) (by omega)) (fun i _ => rfl) (hSc 148 11 (by omega) (by omega) (by omega)) (hSc 148 13 (by omega) (by omega) (by omega)) (hSc 148 15 (by omega) (by omega) (by omega))
      have hwo : woS (uI (uI (uI (goS S2) 163 v (S2.1 163 v + 1)) 162 (4 * (10 * v + s) + w) r2) 161 (10 * v + s) (S2.1 161 (10 * v + s) + 1)) = woS (goS S2) := by
        show ((uI _ 161 _ _).1 148 15).toInt = _
        rw [hSc 148 15 (by omega) (by omega) (by omega)]
      rcases g3.2.2.2.2.2.2.1 with ⟨z1, z2⟩ | ⟨z1, z2⟩
      · have hz : (T2.1 1 5).toInt = 0 := by
          rw [tk_5, eT 1 5 (by omega) (by omega) (by omega)] at z1
          exact z1
        obtain ⟨u1, u2⟩ := hu hz
        refine .inl ⟨_, _, t2 + 1, n, st, sl, L, n0, hcr, hrr, hCF, by omega, z1, ?_⟩
        have hTc : ∀ c j, c ≠ 1 → ¬ (c = y ∧ j = 1) → ¬ (c = y + 4 ∧ j = 4 * s + w) → ¬ (c = y + 3 ∧ j = s) → (tkT (arT T2 y s w r2) t2).1 c j = T2.1 c j := fun c j p1 p2 p3 p4 => (fc_tk.1 c j (by omega)).trans (eT c j p2 p3 p4)
        have hS0 : ∀ c j, c ≠ 148 → ¬ (c = 163 ∧ j = v) → ¬ (c = 162 ∧ j = 4 * (10 * v + s) + w) → ¬ (c = 161 ∧ j = 10 * v + s) → (uI (uI (uI (goS S2) 163 v (S2.1 163 v + 1)) 162 (4 * (10 * v + s) + w) r2) 161 (10 * v + s) (S2.1 161 (10 * v + s) + 1)).1 c j = S2.1 c j := fun c j p0 p1 p2 p3 => (hSc c j p1 p2 p3).trans (go_c p0)
        have hSj : ∀ j, j ≠ 11 → (uI (uI (uI (goS S2) 163 v (S2.1 163 v + 1)) 162 (4 * (10 * v + s) + w) r2) 161 (10 * v + s) (S2.1 161 (10 * v + s) + 1)).1 148 j = S2.1 148 j := fun j p => (hSc 148 j (by omega) (by omega) (by omega)).trans (go_j p)
        refine ⟨?_, ⟨rn.1, fun i hi => by rw [hTc 9 i (by omega) (by omega) (by omega) (by omega)]; exact rn.2 i hi⟩, ⟨hst, by rw [hTc y 0 (by omega) (by omega) (by omega) (by omega)]; exact hT0, by rw [hS0 158 v (by omega) (by omega) (by omega) (by omega)]; exact r3.2.2.1, fun s' hs' => ?_⟩, ⟨rr + 1, by omega, ?_, ?_⟩, hc_c r5 (fun c j p1 p2 p3 p4 => hTc c j (by omega) (by omega) (by omega) (by omega)) (fun c j p1 p2 => hS0 c j (by omega) (by omega) (by omega) (by omega)), hd_c r6 (Nat.le_refl _) (hTc _ _ (by omega) (by omega) (by omega) (by omega)) (hS0 _ _ (by omega) (by omega) (by omega) (by omega)), he_c r7 (hTc _ _ (by omega) (by omega) (by omega) (by omega)) (hTc _ _ (by omega) (by omega) (by omega) (by omega)) (hS0 _ _ (by omega) (by omega) (by omega) (by omega)) (hS0 _ _ (by omega) (by omega) (by omega) (by omega)), hf_c r8 (Nat.le_refl _) (Nat.le_refl _) (fun a => hTc _ _ (by omega) (by omega) (by omega) (by omega)) (fun j _ => hTc _ _ (by omega) (by omega) (by omega) (by omega)) (fun c j q => hS0 c j (by omega) (by omega) (by omega) (by omega)) (fun j _ => rb_eq (fun c p1 p2 => hS0 c j (by omega) (by omega) (by omega) (by omega))) (kc_eq (hSj 44 (by decide)) (fun c j q => hS0 c j (by omega) (by omega) (by omega) (by omega))), hl_c r9 (by omega) (hTc _ _ (by omega) (by omega) (by omega) (by omega)) (hSj 12 (by decide)) (hSj 38 (by decide)) (hSj 44 (by decide)), ?_⟩
        · obtain ⟨m1, m2, m3, m4, m5⟩ := r1
          refine ⟨m1, by rw [fc_tk.1 1 3 (by omega), eT 1 3 (by omega) (by omega) (by omega)]; exact m2, ?_, fun i hi => ?_, fun i j p1 p2 => by rw [fc_tk.2 8 i (by omega), fc_tk.2 8 j (by omega)]; exact m5 i j p1 p2⟩
          · show ((uI _ 161 _ _).1 148 20).toInt = _
            rw [hSj 20 (by decide)]
            exact m3
          · rw [fc_tk.2 8 i (by omega), hTc 9 i (by omega) (by omega) (by omega) (by omega), hS0 157 i (by omega) (by omega) (by omega) (by omega)]
            exact m4 i hi
        · obtain ⟨c1, c2, c3, c4, c5, c6⟩ := r3.2.2.2 s' hs'
          rw [hTc (y + 1) s' (by omega) (by omega) (by omega) (by omega), hTc (y + 2) s' (by omega) (by omega) (by omega) (by omega), hS0 159 _ (by omega) (by omega) (by omega) (by omega), hS0 160 _ (by omega) (by omega) (by omega) (by omega)]
          by_cases es : s' = s
          · subst es
            have ew : (tkT (arT T2 y s' w r2) t2).1 (y + 3) s' = T2.1 (y + 3) s' + 1 := by
              rw [fc_tk.1 _ _ (by omega)]
              unfold arT
              rw [zI_i]
            have kT1 : (T2.1 (y + 3) s' + 1).toInt = ((w + 1 : Nat) : Int) := inc_i hw (by omega)
            rw [ew, uI_i, kT1]
            refine ⟨c1, c2, c3, by rw [c4], by omega, fun k hk => ?_⟩
            rw [uI_ne _ _ _ _ (by decide)]
            by_cases ek : k = w
            · subst ek
              have e4 : (tkT (arT T2 y s' k r2) t2).1 (y + 4) (4 * s' + k) = r2 := by
                rw [fc_tk.1 _ _ (by omega)]
                unfold arT
                rw [zI_ne _ (by omega), zI_i]
              rw [e4, uI_i]
              exact ⟨rfl, u1, u2⟩
            · have e4 : (tkT (arT T2 y s' w r2) t2).1 (y + 4) (4 * s' + k) = T2.1 (y + 4) (4 * s' + k) := hTc _ _ (by omega) (by omega) (by omega) (by omega)
              rw [e4, uI_no _ _ _ _ (by omega), uI_ne _ _ _ _ (by decide), go_c (by decide)]
              exact c6 k (by omega)
          · rw [hTc (y + 3) s' (by omega) (by omega) (by omega) (by omega), hS0 161 _ (by omega) (by omega) (by omega) (by omega)]
            refine ⟨c1, c2, c3, c4, c5, fun k hk => ?_⟩
            rw [hTc (y + 4) _ (by omega) (by omega) (by omega) (by omega), hS0 162 _ (by omega) (by omega) (by omega) (by omega)]
            exact c6 k hk
        · rw [fc_tk.1 _ _ (by omega)]
          unfold arT rdT
          rw [zI_ne _ (by omega), zI_ne _ (by omega), zI_i]
          exact k1
        · rw [uI_ne _ _ _ _ (by decide), uI_ne _ _ _ _ (by decide), uI_i]
          exact k163
        · show ((uI _ 161 _ _).1 148 19).toInt = _
          rw [hSj 19 (by decide)]
          exact r10
      · exact .inr ⟨1, _, _, hcr, hrr, .inr rfl, z1, .inr (by rw [hwo]; exact z2)⟩
    · rw [g1, g2]
      exact .inr (bad_of (h102 0 _ (.inl rfl)) (rd_111 g6 g5.1) (.inl rfl) g4)
  · rw [addRoad_0 hy (by omega)]
    show GOOD x y E v t0 (limK (RX (D + 24)) (mdOf 57) 96 _ [] (wS x y (rdT T2 y))) _ ∨ BAD x y (limK (RX (D + 24)) (mdOf 57) 96 _ [] (wS x y (rdT T2 y))) _
    rw [q_X5_takeRoad_96 (hy := hy)]
    have eT : ∀ c j, ¬ (c = y ∧ j = 1) → (rdT T2 y).1 c j = T2.1 c j := fun c j z1 => zI_no _ z1
    have hCA : CU (rdT T2 y) S2 E t2 := cu_hw hC (fun c j q => eT c j (by omega)) rfl
    rcases take_l (x := x) (d := D + 23) (dm := d + 2) (k := 59) (m := 4) hy hCA (by decide) (by decide) (by decide) with ⟨-, g1, g2, g3⟩ | ⟨T', S', g1, g2, g3, g4, g5, g6, g7⟩
    · have hcr : kbd (limK (RX (D + 24)) (mdOf 57)) 102 [some (.ref 1), o1] [] (RX (D + 24) 67 [.ref 1, .int 59] (wS x y (rdT T2 y))) = some (some (.int 1), wS x y (tkT (rdT T2 y) t2)) := by
        rw [g1]
        exact h102 1 _ (.inr rfl)
      have hf5 : ftS (goS S2) = 0 := g3.2.2.2.2.2.1
      have hrr : kbd (limK (RX (d + 5)) (mdOf 220)) 111 [some (.ref 148), some (.int x1), some (.int r2)] [] (RX (d + 5) 209 [.ref 148, .int 4] S2) = some (none, uI (goS S2) 163 v ((goS S2).1 163 v + 1)) := by
        rw [g2]
        show limK (RX (d + 5)) (mdOf 220) 111 _ [] _ = _
        rw [q_X12_tellRoad_111, le_t (show ((goS S2).1 148 13).toInt ≤ (0 : Int32).toInt by show ftS (goS S2) ≤ 0; omega), cond_true, i2, cond_true, cond_true, ge_f (show x1.toInt < (0 : Int32).toInt by rw [hx1]; decide), cond_false, t19]
      have hbT : ((tkT (rdT T2 y) t2).1 1 5).toInt ≠ 0 := by rw [tk_5, eT 1 5 (by omega)]; exact hbl
      have hwo : woS (goS S2) ≠ 0 := by
        rcases g3.2.2.2.2.2.2.1 with ⟨z1, z2⟩ | ⟨z1, z2⟩
        · exact absurd z1 hbT
        · exact z2
      refine .inr ⟨1, _, _, hcr, hrr, .inr rfl, hbT, .inr ?_⟩
      show ((uI (goS S2) 163 v _).1 148 15).toInt ≠ 0
      rw [uI_ne _ _ _ _ (by decide)]
      exact hwo
    · rw [g1, g2]
      exact .inr (bad_of (h102 0 _ (.inl rfl)) (rd_111 g6 g5.1) (.inl rfl) g4)
theorem take_k (hy : y = 10 ∨ y = 23) (hC : CU T S E t) {k : Int32} {w1 : WS} (h : RX (d + 1) 67 [.ref 1, .int k] (wS x y T) = some (some (.int 1), w1)) : T.1 5 t = k := by
  have := hC.1.1
  have := hC.2.1
  rcases take_y (x := x) (d := d) hy hC.2.2.2.2.1 hC.2.2.1 (by omega) k with ⟨c1, -⟩ | ⟨-, T', c2, -⟩
  · exact c1
  · rw [h] at c2
    cases c2
/-- 'road' -/
theorem one_road (hy : y = 10 ∨ y = 23) (hv : v ≤ 1) (hC : CU T S E t) (hR : HRl T S y v t n st sl L n0) (hk : T.1 5 t = 130) :
    GOOD x y E v t (RX (D + 25) 57 [.ref 1] (wS x y T)) (kbd (limK (RX (d + 6)) (mdOf 214)) 96 [some (.ref 148), o1] [] (RX (d + 6) 213 [.ref 148, .int (S.1 163 v), .int 20] S)) ∨ BAD x y (RX (D + 25) 57 [.ref 1] (wS x y T)) (kbd (limK (RX (d + 6)) (mdOf 214)) 96 [some (.ref 148), o1] [] (RX (d + 6) 213 [.ref 148, .int (S.1 163 v), .int 20] S)) := by
  obtain ⟨rr, q1, q2, q3⟩ := hR.2.2.2.1
  have hw := hC.2.2.2.2.2.2.2
  have hf := hC.2.2.2.2.2.1
  have hdead : ∀ S1, ftS S1 ≠ 0 → limK (RX (d + 6)) (mdOf 214) 96 [some (.ref 148), o1] [] S1 = some (none, S1) := fun S1 q => by
    rw [q_X12_tellOne_96, ne_t (show (S1.1 148 13).toInt ≠ (0 : Int32).toInt from q), cond_true, q_X12_tellOne_256]
  rw [e_X5_takeRoad, q_X5_takeRoad_0 (hy := hy)]
  by_cases hr : rr < 20
  · rw [lt_t (show (T.1 y 1).toInt < (20 : Int32).toInt by rw [q2]; show (rr : Int) < 20; omega), cond_true]
    have hne : (S.1 163 v).toInt ≠ (20 : Int32).toInt := by rw [q3]; show (rr : Int) ≠ 20; omega
    rcases go_l (x := x) (d := D + 23) (dm := d + 3) hy hC hk (by decide) (by decide) with ⟨g1, g2, g3⟩ | ⟨T', S', g1, g2, g3, g4, g5, g6, g7⟩
    · rw [g1, room_y (d := d + 3) hne hf g2]
      have hR1 := hr_c hy hR (Nat.le_succ t) (fc_tk (t := t)) fs_go
      have hR1' := hR1
      obtain ⟨r1, r2, r3, r4, r5, r6, r7, r8, r9, r10⟩ := hR1'
      have hf1 : ftS (goS S) = 0 := g3.2.2.2.2.2.1
      have hw1 := g3.2.2.2.2.2.2.2
      have ht1 := g3.2.1
      have hE := g3.1.1
      have hst := r3.1
      have h163 : ∀ S1, FS (goS S) S1 → (S1.1 163 v).toInt ≠ 20 := fun S1 q => by
        rw [q.1 163 v (by omega), go_c (by decide), q3]
        omega
      have hcl : kbd (limK (RX (D + 24)) (mdOf 57)) 29 [some (.ref 1), none] [] (some (some (.int 1), wS x y (tkT T t))) = kbd (limK (RX (D + 24)) (mdOf 57)) 37 [some (.ref 1), none] [] (RX (D + 24) 67 [.ref 1, .int 2] (wS x y (tkT T t))) := by
        show limK (RX (D + 24)) (mdOf 57) 29 _ [.int 1] _ = _
        rw [q_X5_takeRoad_29 (hy := hy), show cmpB .eq (1 : Int32) 0 = false from rfl, cond_false]
      have hrf : kbd (limK (RX (d + 6)) (mdOf 214)) 96 [some (.ref 148), o1] [] (some (none, goS S)) = kbd (limK (RX (d + 6)) (mdOf 214)) 107 [some (.ref 148), o1] [] (limK (RX (d + 5)) (mdOf 220) 4 [some (.ref 148), some (.int (-1)), some (.int 0)] [] (goS S)) := by
        show limK (RX (d + 6)) (mdOf 214) 96 _ [] _ = _
        rw [q_X12_tellOne_96, ne_f (show ((goS S).1 148 13).toInt = (0 : Int32).toInt from hf1), cond_false, e_X12_tellRoad, q_X12_tellRoad_0]
      rw [hcl, hrf]
      have hwrap : ∀ {cr rr : Option RK}, GOOD x y E v t cr rr ∨ BAD x y cr rr → GOOD x y E v t cr (kbd (limK (RX (d + 6)) (mdOf 214)) 107 [some (.ref 148), o1] [] rr) ∨ BAD x y cr (kbd (limK (RX (d + 6)) (mdOf 214)) 107 [some (.ref 148), o1] [] rr) := fun {cr rr} q => by
        have h78 : ∀ S1, limK (RX (d + 6)) (mdOf 214) 107 [some (.ref 148), o1] [] S1 = some (none, S1) := fun S1 => by rw [q_X12_tellOne_107, q_X12_tellOne_256]
        rcases q with ⟨T', S', t', n', st', sl', L', n0', p1, p2, p3⟩ | ⟨r, T', S', p1, p2, p3⟩
        · exact .inl ⟨T', S', t', n', st', sl', L', n0', p1, by rw [p2]; exact h78 S', p3⟩
        · exact .inr ⟨r, T', S', p1, by rw [p2]; exact h78 S', p3⟩
      apply hwrap
      have h157 : ∀ i, i < n → 0 ≤ ((goS S).1 157 i).toInt := fun i hi => by
        obtain ⟨-, m2, m3, -⟩ := r1.2.2.2.1 i hi
        rw [← m2]; exact m3
      -- what the reference does with a first name that is there
      have hfst : (goS S).1 151 (t + 1) = 1 → ∃ (r x : Int32), limK (RX (d + 5)) (mdOf 220) 4 [some (.ref 148), some (.int (-1)), some (.int 0)] [] (goS S) = limK (RX (d + 5)) (mdOf 220) 75 [some (.ref 148), some (.int r), some (.int x)] [] (goS S) ∧ ((∃ i, i < n ∧ KP (goS S) 0 (t + 1) i ∧ r.toInt = 10 * (v : Int) + ((goS S).1 157 i).toInt) ∨ ((∀ i, i < n → ¬ KP (goS S) 0 (t + 1) i) ∧ r = -1)) := fun q =>
        rl_4 hw1 hf1 g3.2.2.2.1 (by omega) r1.2.2.1 r1.1 q r10 hv h157 n 0 0 (by omega) rfl (fun j z => by omega)
      -- the second name, and the end
      have hsec : ∀ (T' : TZ) (S' : WS) (f x1 : Int32) (o2 : Option Value), CU T' S' E (t + 1 + 1) → FC (tkT T t) T' → FS (goS S) S' →
          ((∃ s w : Nat, s < st ∧ f.toInt = (s : Int) ∧ x1.toInt = ((10 * v + s : Nat) : Int) ∧ (T'.1 (y + 3) s).toInt = (w : Int) ∧ w < 4) ∨ (f.toInt = -1 ∧ x1.toInt = -1 ∧ (T'.1 1 5).toInt ≠ 0)) →
          GOOD x y E v t (limK (RX (D + 24)) (mdOf 57) 74 [some (.ref 1), some (.int f)] [] (wS x y T')) (kbd (limK (RX (d + 5)) (mdOf 220)) 105 [some (.ref 148), some (.int x1), o2] [] (RX (d + 5) 217 [.ref 148, .int 0] S')) ∨ BAD x y (limK (RX (D + 24)) (mdOf 57) 74 [some (.ref 1), some (.int f)] [] (wS x y T')) (kbd (limK (RX (d + 5)) (mdOf 220)) 105 [some (.ref 148), some (.int x1), o2] [] (RX (d + 5) 217 [.ref 148, .int 0] S')) := by
        intro T' S' f x1 o2 hC2 hF hS hcase
        have hN2 : NM T' S' n := nm_fc r1 hF hS
        rw [q_X5_takeRoad_74 (hy := hy)]
        rcases step_l (x := x) (d := D + 22) (dm := d + 1) hy hC2 hN2 with ⟨T2, S2, r2', p1, p2, p3, p4, p5, p6, p7⟩ | ⟨T2, S2, p1, p2, p3, p4, p5, p6⟩
        · rw [p1, p3]
          show GOOD x y E v t (limK (RX (D + 24)) (mdOf 57) 79 _ [.int 1] _) (limK (RX (d + 5)) (mdOf 220) 105 _ [.int r2'] _) ∨ BAD x y (limK (RX (D + 24)) (mdOf 57) 79 _ [.int 1] _) (limK (RX (d + 5)) (mdOf 220) 105 _ [.int r2'] _)
          rw [q_X5_takeRoad_79 (hy := hy), show cmpB .ne (1 : Int32) 0 = true from rfl, cond_true, p2]
          show GOOD x y E v t (limK (RX (D + 24)) (mdOf 57) 93 _ [.int r2', .int f, .ref y] _) _ ∨ BAD x y (limK (RX (D + 24)) (mdOf 57) 93 _ [.int r2', .int f, .ref y] _) _
          have hR2 := hr_c (t' := t + 1 + 1 + 1) hy hR1 (by omega) (fc_t hF p5) (fs_t hS p6)
          have hr2 : -1 ≤ r2'.toInt ∧ r2'.toInt ≤ 9 := by
            rcases p7 with ⟨z, -⟩ | ⟨-, -, i, -, -, -, z1, z2⟩ <;> omega
          have hu : (T2.1 1 5).toInt = 0 → 0 ≤ r2'.toInt ∧ r2'.toInt < (st : Int) := fun z => by
            rcases p7 with ⟨-, z2, -⟩ | ⟨-, -, i, z1, z2, z3, z4, z5⟩
            · exact absurd z z2
            · obtain ⟨-, m2, -, -⟩ := hN2.2.2.2.1 i z1
              have e9 : T'.1 9 i = (tkT T t).1 9 i := hF.1 9 i (by omega)
              have h9 := r2.2 i z1
              rw [← e9, m2, ← z3] at h9
              rcases h9 with h9 | h9 <;> omega
          have h5 : (T'.1 1 5).toInt ≠ 0 → (T2.1 1 5).toInt ≠ 0 := fun z => by
            rcases p7 with ⟨-, z2, -⟩ | ⟨z2, -⟩
            · exact z2
            · rw [z2, tk_5]; exact z
          rcases hcase with ⟨s, w, c1, c2, c3, c4, c5⟩ | ⟨c1, c2, c3⟩
          · exact rd_end (s := s) (w := w) hy hv hR2 p4 (by omega) (h163 S2 (fs_t hS p6)) (.inl ⟨c1, c2, c3, by rw [p5.1 _ _ (by omega)]; exact c4, c5⟩) hr2 hu
          · exact rd_end (s := 0) (w := 0) hy hv hR2 p4 (by omega) (h163 S2 (fs_t hS p6)) (.inr ⟨c1, c2, h5 c3⟩) hr2 hu
        · rw [p1, p2]
          refine .inr (bad_of (r := 0) (T' := T2) ?_ (rd_105 p4 p5) (.inl rfl) p3)
          show limK (RX (D + 24)) (mdOf 57) 79 _ [.int 0] _ = _
          rw [q_X5_takeRoad_79 (hy := hy), show cmpB .ne (0 : Int32) 0 = false from rfl, cond_false]
      rcases step_l (x := x) (d := D + 22) (dm := d + 1) hy g3 r1 with ⟨T', S', r, p1, p2, p3, p4, p5, p6, p7⟩ | ⟨T', S', p1, p2, p3, p4, p5, p6⟩
      · have hk2 := take_k hy g3 p1
        have hm1 : (goS S).1 151 (t + 1) = 1 := Int32.toInt_inj.mp ((kr_iff (g3.1.2.1 (t + 1) g3.2.1).1 (show ((2 : Int), (1 : Int)) ∈ kT by decide)).mp (by rw [hk2]; rfl))
        obtain ⟨ri, xx, f1, f2⟩ := hfst hm1
        have hc46 : kbd (limK (RX (D + 24)) (mdOf 57)) 37 [some (.ref 1), none] [] (RX (D + 24) 67 [.ref 1, .int 2] (wS x y (tkT T t))) = limK (RX (D + 24)) (mdOf 57) 46 [some (.ref 1), none] [.int r] (wS x y T') := by
          rw [p1]
          show limK (RX (D + 24)) (mdOf 57) 37 _ [.int 1] _ = _
          rw [q_X5_takeRoad_37 (hy := hy), show cmpB .ne (1 : Int32) 0 = true from rfl, cond_true, p2]
          rfl
        have h94 : limK (RX (d + 5)) (mdOf 220) 94 [some (.ref 148), some (.int ri), some (.int xx)] [] (goS S) = kbd (limK (RX (d + 5)) (mdOf 220)) 105 [some (.ref 148), some (.int ri), some (.int xx)] [] (RX (d + 5) 217 [.ref 148, .int 0] S') := by
          rw [q_X12_tellRoad_94, p3]
          show limK (RX (d + 5)) (mdOf 220) 99 _ [.int r] _ = _
          rw [q_X12_tellRoad_99]
        rw [hc46, f1, q_X5_takeRoad_46 (hy := hy), q_X12_tellRoad_75]
        rcases p7 with ⟨z1, z2, z3⟩ | ⟨z1, z2, i, z3, z4, z5, z6, z7⟩
        · rcases f2 with ⟨j, j1, j2, -⟩ | ⟨-, j2⟩
          · exact absurd j2 (z3 j j1)
          · rw [eq_t (show r.toInt = (-1 : Int32).toInt by rw [z1]; rfl), cond_true, lt_t (show ri.toInt < (0 : Int32).toInt by rw [j2]; decide), cond_true, h94]
            exact hsec T' S' r ri _ p4 (fc_t (fc_r _) p5) p6 (.inr ⟨z1, by rw [j2]; rfl, z2⟩)
        · rcases f2 with ⟨j, j1, j2, j3⟩ | ⟨j1, -⟩
          · have eqv := nm_eq g3 r1 hk2
            have hij : j = i := nm_one r1 j1 z3 ((eqv j j1).mpr j2.1) ((eqv i z3).mpr z4.1)
            subst hij
            obtain ⟨s, hs⟩ : ∃ s : Nat, r.toInt = (s : Int) := ⟨r.toInt.toNat, by omega⟩
            have hsst : s < st := by
              obtain ⟨-, m2, -, -⟩ := r1.2.2.2.1 j j1
              have h9 := r2.2 j j1
              rw [m2, ← z5] at h9
              rcases h9 with h9 | h9 <;> omega
            have hri : ri.toInt = ((10 * v + s : Nat) : Int) := by rw [j3, ← z5, hs]; omega
            obtain ⟨-, -, -, k4, k5, -⟩ := r3.2.2.2 s hsst
            obtain ⟨w, hwv⟩ : ∃ w : Nat, ((tkT T t).1 (y + 3) s).toInt = (w : Int) := ⟨((tkT T t).1 (y + 3) s).toInt.toNat, by omega⟩
            have hT'0 : (T'.1 y 0).toInt = (st : Int) := by rw [p5.1 y 0 (by omega)]; exact r3.2.1
            have hT'w : T'.1 (y + 3) s = (tkT T t).1 (y + 3) s := p5.1 _ _ (by omega)
            rw [eq_f (show r.toInt ≠ (-1 : Int32).toInt by rw [hs]; show (s : Int) ≠ -1; omega), cond_false, lt_f (show (0 : Int32).toInt ≤ ri.toInt by rw [hri]; show (0 : Int) ≤ _; omega), cond_false, inR_of (n := 20) (by omega) (by omega), cond_true, tnc hri, waysFrom_1 hy hs (by rw [hT'0]; omega) (by rw [hT'0]; omega), ← k4, hT'w]
            show GOOD x y E v t (limK (RX (D + 24)) (mdOf 57) 60 _ [.int ((tkT T t).1 (y + 3) s)] _) _ ∨ BAD x y (limK (RX (D + 24)) (mdOf 57) 60 _ [.int ((tkT T t).1 (y + 3) s)] _) _
            rw [q_X5_takeRoad_60 (hy := hy)]
            by_cases hw4 : w < 4
            · rw [lt_t (show ((tkT T t).1 (y + 3) s).toInt < (4 : Int32).toInt by rw [hwv]; show (w : Int) < 4; omega), cond_true, ne_t (show ((tkT T t).1 (y + 3) s).toInt ≠ (4 : Int32).toInt by rw [hwv]; show (w : Int) ≠ 4; omega), cond_true, h94]
              exact hsec T' S' r ri _ p4 p5 p6 (.inl ⟨s, w, hsst, hs, hri, by rw [hT'w]; exact hwv, hw4⟩)
            · have h4 : w = 4 := by omega
              obtain ⟨S2, y1, y2, y3⟩ := fail_x (d := d + 4) (m := 2) hw1 (.inr rfl)
              rw [lt_f (show (4 : Int32).toInt ≤ ((tkT T t).1 (y + 3) s).toInt by rw [hwv]; show (4 : Int) ≤ w; omega), cond_false, ne_f (show ((tkT T t).1 (y + 3) s).toInt = (4 : Int32).toInt by rw [hwv, h4]; rfl), cond_false, y1, stop_c (d := D + 23) hy]
              refine .inr (bad_of (r := 0) (T' := zI (zI T' 1 5 2) 1 6 (T'.1 1 11)) ?_ (rd_94 y3 y2.1) (.inl rfl) ?_)
              · show limK (RX (D + 24)) (mdOf 57) 73 _ [.int 0] _ = _
                rw [q_X5_takeRoad_73 (hy := hy)]
                rfl
              · rw [zI_j _ (by decide), zI_i]
                decide
          · exact absurd z4 (j1 i z3)
      · have hcb : kbd (limK (RX (D + 24)) (mdOf 57)) 37 [some (.ref 1), none] [] (RX (D + 24) 67 [.ref 1, .int 2] (wS x y (tkT T t))) = some (some (.int 0), wS x y T') := by
          rw [p1]
          show limK (RX (D + 24)) (mdOf 57) 37 _ [.int 0] _ = _
          rw [q_X5_takeRoad_37 (hy := hy), show cmpB .ne (0 : Int32) 0 = false from rfl, cond_false, q_X5_takeRoad_40 (hy := hy)]
        have h94 : ∀ (ri xx : Int32), ∃ S2, limK (RX (d + 5)) (mdOf 220) 94 [some (.ref 148), some (.int ri), some (.int xx)] [] (goS S) = some (none, S2) ∧ ftS S2 ≠ 0 := fun ri xx => by
          rw [q_X12_tellRoad_94, p2]
          exact rd_99 p4 p5
        have h75 : ∀ (ri xx : Int32), (ri = -1 ∨ inR ri 20 = true) → ∃ S2, limK (RX (d + 5)) (mdOf 220) 75 [some (.ref 148), some (.int ri), some (.int xx)] [] (goS S) = some (none, S2) ∧ ftS S2 ≠ 0 := fun ri xx hri => by
          rw [q_X12_tellRoad_75]
          rcases c_lt ri 0 with ⟨c1, c2⟩ | ⟨c1, c2⟩
          · rw [c1, cond_true]; exact h94 ri xx
          · have c2 : 0 ≤ ri.toInt := c2
            rcases hri with e | e
            · rw [e] at c2; exact absurd c2 (by decide)
            · rw [c1, cond_false, e, cond_true]
              cases cmpB .ne ((goS S).1 161 ri.toNatClampNeg) 4 with
              | true => rw [cond_true]; exact h94 ri xx
              | false =>
                obtain ⟨S2, y1, y2, y3⟩ := fail_x (d := d + 4) (m := 2) hw1 (.inr rfl)
                rw [cond_false, y1]
                exact rd_94 y3 y2.1
        rw [hcb]
        refine .inr (bad_of (r := 0) (T' := T') rfl ?_ (.inl rfl) p3)
        by_cases hm1 : (goS S).1 151 (t + 1) = 1
        · obtain ⟨ri, xx, f1, f2⟩ := hfst hm1
          rw [f1]
          refine h75 ri xx ?_
          rcases f2 with ⟨j, j1, j2, j3⟩ | ⟨-, j2⟩
          · have h9 : ((goS S).1 157 j).toInt ≤ 9 := by
              rcases j2.2 with z | z
              · exact z.2
              · exact absurd z.1 (by decide)
            have h0 := h157 j j1
            exact .inr (inR_of (by omega) (by omega))
          · exact .inl j2
        · have his : RX (d + 5) 205 [.ref 148, .int 1] (goS S) = some (some (.int 0), goS S) := by
            rcases is_x (d := d + 4) hw1 g3.2.2.2.1 hf1 1 with ⟨q, -⟩ | ⟨-, q⟩
            · exact absurd q hm1
            · exact q
          rw [q_X12_tellRoad_4]
          cases cmpB .ge (0 : Int32) ((goS S).1 148 20) with
          | true => rw [cond_true]; exact h75 (-1) 0 (.inl rfl)
          | false =>
            rw [cond_false, his]
            show ∃ S2, limK (RX (d + 5)) (mdOf 220) 17 _ [.int 0] _ = _ ∧ _
            rw [q_X12_tellRoad_17, show cmpB .eq (0 : Int32) 0 = true from rfl, cond_true]
            exact h75 (-1) 0 (.inl rfl)
    · rw [g1, room_y (d := d + 3) hne hf g2]
      refine .inr (bad_of (r := 0) (T' := T') ?_ ⟨S', hdead S' g6, g6⟩ (.inl rfl) g4)
      show limK (RX (D + 24)) (mdOf 57) 29 _ [.int 0] _ = _
      rw [q_X5_takeRoad_29 (hy := hy), show cmpB .eq (0 : Int32) 0 = true from rfl, cond_true, q_X5_takeRoad_40 (hy := hy)]
  · have hr20 : rr = 20 := by omega
    obtain ⟨S', p1, p2⟩ := room_n (d := d + 3) (x1 := S.1 163 v) (x2 := 20) hw (by rw [q3]; show (rr : Int) = 20; omega)
    rw [lt_f (show (20 : Int32).toInt ≤ (T.1 y 1).toInt by rw [q2]; show (20 : Int) ≤ rr; omega), cond_false, stop_c (d := D + 23) hy, p1]
    refine .inr (bad_of (r := 0) (T' := zI (zI T 1 5 2) 1 6 (T.1 1 9)) ?_ ⟨S', hdead S' p2, p2⟩ (.inl rfl) ?_)
    · show limK (RX (D + 24)) (mdOf 57) 21 _ [.int 0] _ = _
      rw [q_X5_takeRoad_21 (hy := hy)]
      rfl
    · rw [zI_j _ (by decide), zI_i]
      decide
end RDS
end
section
/-! a law is told, on both sides -/
section DOE
variable {x y d D s a st sl n v t t0 t1 t2 t3 t4 E L n0 r w : Nat} {T T' T0 T1 T2 T3 T4 : TZ} {S S' S0 S1 S2 S3 S4 : WS} {x1 x2 x3 : Int32} {o1 o2 o3 o4 o5 : Option Value} {md : MDs}
theorem up_ll {c j t n : Nat} (h : UPD md S S') (hc : Nat.blt c 200 = true) (hs : shC c = (2, t, n)) (h1 : mdF md (ctyC c) 1000 = false) (h2 : mdF md (ctyC c) 1001 = false) (hj : j < n) : S'.2.1 c j = S.2.1 c j := by
  have h3 := h.2.2.2.1 c h1 h2
  unfold ra at h3
  rw [wd_get, wd_get, hc, cond_true, cond_true, cell_l hs, cell_l hs] at h3
  have h4 : (List.range n).map (S'.2.1 c) = (List.range n).map (S.2.1 c) := by
    injection h3 with h3
    injection h3 with h3
    injection h3 with h3
  have h5 := congrArg (fun l => l[j]?) h4
  simp only [rng_at _ hj] at h5
  exact Option.some.inj h5
theorem ha_u (hv : v ≤ 1) (hA : HA T S y v st) (hT : ∀ c j, y ≤ c → c ≤ y + 4 → (c = y → j = 0) → T'.1 c j = T.1 c j) (hU : ∀ c t n j, 157 ≤ c → c ≤ 170 → shC c = (1, t, n) → j < n → S'.1 c j = S.1 c j) : HA T' S' y v st := by
  obtain ⟨h1, h2, h3, h4⟩ := hA
  refine ⟨h1, by rw [hT y 0 (by omega) (by omega) (by omega)]; exact h2, by rw [hU 158 0 2 v (by omega) (by omega) rfl (by omega)]; exact h3, fun s hs => ?_⟩
  rw [hT (y + 1) s (by omega) (by omega) (by omega), hT (y + 2) s (by omega) (by omega) (by omega), hT (y + 3) s (by omega) (by omega) (by omega), hU 159 0 20 _ (by omega) (by omega) rfl (by omega), hU 160 2 20 _ (by omega) (by omega) rfl (by omega), hU 161 0 20 _ (by omega) (by omega) rfl (by omega)]
  obtain ⟨k1, k2, k3, k4, k5, k6⟩ := h4 s hs
  refine ⟨k1, k2, k3, k4, k5, fun k hk => ?_⟩
  rw [hT (y + 4) _ (by omega) (by omega) (by omega), hU 162 0 80 _ (by omega) (by omega) rfl (by omega)]
  exact k6 k hk
theorem hc_u (hv : v ≤ 1) (hC : HC T S y v sl) (hT : ∀ c j, y ≤ c → c ≤ y + 7 → (c = y → j = 2) → (c = y ∨ y + 5 ≤ c) → T'.1 c j = T.1 c j) (hU : ∀ c t n j, 157 ≤ c → c ≤ 170 → shC c = (1, t, n) → j < n → S'.1 c j = S.1 c j) : HC T' S' y v sl := by
  obtain ⟨h1, h2, h3, h4⟩ := hC
  refine ⟨h1, by rw [hT y 2 (by omega) (by omega) (by omega) (by omega)]; exact h2, by rw [hU 164 0 2 v (by omega) (by omega) rfl (by omega)]; exact h3, fun a ha => ?_⟩
  rw [hT (y + 5) a (by omega) (by omega) (by omega) (by omega), hT (y + 6) a (by omega) (by omega) (by omega) (by omega), hT (y + 7) a (by omega) (by omega) (by omega) (by omega), hU 165 0 12 _ (by omega) (by omega) rfl (by omega), hU 166 0 12 _ (by omega) (by omega) rfl (by omega), hU 167 0 12 _ (by omega) (by omega) rfl (by omega)]
  exact h4 a ha
theorem law_le {k p p' b0 : Nat} (h : LAW T S y b0 k p p') : p ≤ p' := by
  obtain ⟨pm, h1, h2, -⟩ := h
  exact Nat.le_trans (lwl_le k p pm h1) h2
theorem wk_171 {j : Nat} {u : Int32} (hw : wok EC (WD S)) (h : 0 ≤ u.toInt ∧ u.toInt ≤ 259) : wok EC (WD (uI S 171 j u)) := (show UPD [(70, 1000)] S (uI S 171 j u) from up_a (t := 0) (n := 12) (up_r hw) rfl rfl rfl (.inl rfl) h).1
theorem wk_172 {j : Nat} {u : Int32} (hw : wok EC (WD S)) (h : 0 ≤ u.toInt ∧ u.toInt ≤ 259) : wok EC (WD (uI S 172 j u)) := (show UPD [(71, 1000)] S (uI S 172 j u) from up_a (t := 0) (n := 12) (up_r hw) rfl rfl rfl (.inl rfl) h).1
/-- what comes of the house, the law read -/
theorem does_hr (hy : y = 10 ∨ y = 23) (hv : v ≤ 1) {k' p' t' : Nat} {l : Int} {Lv : Int32} (hR : HRl T1 S1 y v t1 n st sl L n0) (hI : LI S1 l n0 S2 (n0 + k' + 1)) (hl : l = 420 * (v : Int)) (hf : ftS S2 = 0) (h4 : 4 * ((n0 + k' + 1 : Nat) - ((130 * v : Nat) : Int)) ≤ (t' : Int)) (hp : (T2.1 (y + 9) 1).toInt = (p' : Int)) (hpt : p' + 1 ≤ t') (ht : t1 ≤ t') (htk : tkS S2 = (t' : Int)) (hW : LAW T2 S2 y n0 k' L p') (hF : FXc y L T1 T2) (hal : a < sl) (hx : x1.toInt = (a : Int)) (hLv : Lv.toInt = (L : Int)) : HRl (zI T2 (y + 8) a Lv) (finS S2 x1 (S1.1 148 38)) y v t' n st sl p' (n0 + k' + 1) ∧ wok EC (WD (finS S2 x1 (S1.1 148 38))) ∧ (∀ c j, ¬ (c = 171 ∨ c = 172) → (finS S2 x1 (S1.1 148 38)).1 c j = S2.1 c j) ∧ (finS S2 x1 (S1.1 148 38)).2 = S2.2 := by
  obtain ⟨r1, r2, r3, r4, r5, r6, r7, r8, r9, r10⟩ := hR
  obtain ⟨i1, i2, i3, i4, i5, i6, i7, i8, i9⟩ := hI
  obtain ⟨l1, l2, l3, l4, l5, l6, l7, l8⟩ := r9
  obtain ⟨z1, z2, z3⟩ := i7 hf
  have hsl := r5.1
  have hn16 := r1.1
  have hle := law_le hW
  have hw2 := i1.1
  have e19 : sdS S2 = (v : Int) := by rw [sdq i1 rfl]; exact r10
  have h259 := br259 hw2
  have hix : ((6 : Int32) * (S2.1 148 19) + x1).toInt = ((6 * v + a : Nat) : Int) := by
    rw [ixk hw2 ⟨by decide, by decide⟩ ⟨by omega, by omega⟩, e19, hx]
    show (6 : Int) * (v : Int) + (a : Int) = _
    omega
  have hfin : finS S2 x1 (S1.1 148 38) = uI (uI S2 171 (6 * v + a) (S1.1 148 38)) 172 (6 * v + a) (S2.1 148 38) := by
    unfold finS
    rw [decide_eq_true (by omega), tnc hix]
    rfl
  rw [hfin]
  have hwf : wok EC (WD (uI (uI S2 171 (6 * v + a) (S1.1 148 38)) 172 (6 * v + a) (S2.1 148 38))) := wk_172 (wk_171 hw2 (by show 0 ≤ brS S1 ∧ brS S1 ≤ 259; omega)) (by show 0 ≤ brS S2 ∧ brS S2 ≤ 259; omega)
  have eS : ∀ c j, ¬ (c = 171 ∨ c = 172) → (uI (uI S2 171 (6 * v + a) (S1.1 148 38)) 172 (6 * v + a) (S2.1 148 38)).1 c j = S2.1 c j := fun c j q => by rw [uI_ne _ _ _ _ (by omega), uI_ne _ _ _ _ (by omega)]
  have eT : ∀ c j, ¬ (c = y + 8 ∧ j = a) → (zI T2 (y + 8) a Lv).1 c j = T2.1 c j := fun c j q => zI_no _ q
  have eT1 : ∀ c j, c ≠ 1 → c ≤ y + 8 → ¬ (c = y + 8 ∧ j = a) → (zI T2 (y + 8) a Lv).1 c j = T1.1 c j := fun c j q1 q2 q3 => (eT c j q3).trans (hF.1 c j (by omega) (by omega) (by omega))
  have hU : ∀ c t n j, 157 ≤ c → c ≤ 170 → shC c = (1, t, n) → j < n → (uI (uI S2 171 (6 * v + a) (S1.1 148 38)) 172 (6 * v + a) (S2.1 148 38)).1 c j = S1.1 c j := fun c t n j q1 q2 q3 q4 => by
    rw [eS c j (by omega)]
    have hcc : c = 157 ∨ c = 158 ∨ c = 159 ∨ c = 160 ∨ c = 161 ∨ c = 162 ∨ c = 163 ∨ c = 164 ∨ c = 165 ∨ c = 166 ∨ c = 167 ∨ c = 168 ∨ c = 169 ∨ c = 170 := by omega
    rcases hcc with e | e | e | e | e | e | e | e | e | e | e | e | e | e <;> (subst e; exact up_er i1 rfl q3 rfl rfl q4)
  have h171 : ∀ a', a' < 6 → a' ≠ a → (uI (uI S2 171 (6 * v + a) (S1.1 148 38)) 172 (6 * v + a) (S2.1 148 38)).1 171 (6 * v + a') = S1.1 171 (6 * v + a') := fun a' q1 q2 => by
    rw [uI_ne _ _ _ _ (by decide), uI_j _ (by omega)]
    exact up_er (t := 0) (n := 12) i1 rfl rfl rfl rfl (by omega)
  have h172 : ∀ a', a' < 6 → a' ≠ a → (uI (uI S2 171 (6 * v + a) (S1.1 148 38)) 172 (6 * v + a) (S2.1 148 38)).1 172 (6 * v + a') = S1.1 172 (6 * v + a') := fun a' q1 q2 => by
    rw [uI_j _ (by omega), uI_ne _ _ _ _ (by decide)]
    exact up_er (t := 0) (n := 12) i1 rfl rfl rfl rfl (by omega)
  have hRB : ∀ j, RB S2 (uI (uI S2 171 (6 * v + a) (S1.1 148 38)) 172 (6 * v + a) (S2.1 148 38)) j := fun j => rb_eq (fun c q1 q2 => eS c j (by omega))
  have hKC : KC S2 (uI (uI S2 171 (6 * v + a) (S1.1 148 38)) 172 (6 * v + a) (S2.1 148 38)) := kc_eq (eS 148 44 (by omega)) (fun c j q => eS c j (by omega))
  have hfl : ∀ j, Nat.blt j 76 = true → Nat.beq ((flK 12).getD j 9) 0 = true → mdF mdLw 47 j = false → (uI (uI S2 171 (6 * v + a) (S1.1 148 38)) 172 (6 * v + a) (S2.1 148 38)).1 148 j = S1.1 148 j := fun j q1 q2 q3 => (eS 148 j (by omega)).trans (up_fl i1 q2 q1 q3)
  refine ⟨⟨?_, ⟨r2.1, fun i hi => ?_⟩, ha_u hv r3 (fun c j q1 q2 q3 => eT1 c j (by omega) (by omega) (by omega)) hU, hb_c r4 (eT1 y 1 (by omega) (by omega) (by omega)) (hU 163 0 2 v (by omega) (by omega) rfl (by omega)), hc_u hv r5 (fun c j q1 q2 q3 q4 => eT1 c j (by omega) (by omega) (by omega)) hU, hd_c r6 (Nat.le_refl _) (eT1 y 3 (by omega) (by omega) (by omega)) (hU 168 0 2 v (by omega) (by omega) rfl (by omega)), he_c r7 (eT1 y 4 (by omega) (by omega) (by omega)) (eT1 y 5 (by omega) (by omega) (by omega)) (hU 169 0 2 v (by omega) (by omega) rfl (by omega)) (hU 170 0 2 v (by omega) (by omega) rfl (by omega)), fun a' => ⟨fun ha' => ?_, fun q1 q2 => ?_⟩, ⟨?_, ?_, ?_, ?_, by omega, by omega, ?_, by omega⟩, ?_⟩, hwf, eS, rfl⟩
  · obtain ⟨m1, m2, m3, m4, m5⟩ := r1
    refine ⟨m1, by rw [eT 1 3 (by omega), hF.1 1 3 (by omega) (by omega) (by omega)]; exact m2, ?_, fun i hi => ?_, fun i j p1 p2 => ?_⟩
    · show ((uI _ 172 _ _).1 148 20).toInt = _
      rw [hfl 20 rfl rfl rfl]
      exact m3
    · have e1 : (zI T2 (y + 8) a Lv).2 8 i = T1.2 8 i := hF.2 8 i (by omega)
      have e2 : (uI (uI S2 171 (6 * v + a) (S1.1 148 38)) 172 (6 * v + a) (S2.1 148 38)).2.1 156 i = S1.2.1 156 i := (show S2.2.1 156 i = S1.2.1 156 i from up_ll (t := 0) (n := 16) i1 rfl rfl rfl rfl (by omega))
      rw [e1, e2, eT1 9 i (by omega) (by omega) (by omega), hU 157 0 16 i (by omega) (by omega) rfl (by omega)]
      exact m4 i hi
    · have e1 : ∀ i, (zI T2 (y + 8) a Lv).2 8 i = T1.2 8 i := fun i => hF.2 8 i (by omega)
      rw [e1, e1]
      exact m5 i j p1 p2
  · rw [eT1 9 i (by omega) (by omega) (by omega)]
    exact r2.2 i hi
  · by_cases ea : a' = a
    · subst ea
      refine .inr ⟨L, n0, k', p', ?_, ?_, ?_, law_c hKC hW (fun j _ _ => eT _ _ (by omega)) (fun j _ _ => hRB j), Nat.le_refl _, Nat.le_refl _, l5⟩
      · rw [zI_i]; exact hLv
      · rw [uI_ne _ _ _ _ (by decide), uI_i]
        exact l4
      · rw [uI_i]
        exact i2
    · refine lw_c (L := L) (n0 := n0) ((r8 a').1 ha') hle (by omega) (eT1 _ _ (by omega) (by omega) (by omega)) (fun j hj => ?_) (h171 a' (by omega) ea) (h172 a' (by omega) ea) (fun j hj => rb_t (i8 j (.inl hj)) (hRB j)) (kc_t i5 hKC)
      rw [eT _ _ (by omega)]
      exact hF.1 _ _ (by omega) (by omega) (by omega)
  · rw [h171 a' q2 (by omega), h172 a' q2 (by omega)]
    exact (r8 a').2 q1 q2
  · show ((uI _ 172 _ _).1 148 12).toInt = 0
    rw [eS 148 12 (by omega)]
    show opS' S2 = 0
    rw [z2]; exact l1
  · show 420 * (v : Int) ≤ ((uI _ 172 _ _).1 148 44).toInt
    rw [eS 148 44 (by omega)]
    have := i5.1
    show 420 * (v : Int) ≤ cdS S2
    omega
  · show ((uI _ 172 _ _).1 148 44).toInt ≤ _
    rw [eS 148 44 (by omega)]
    show cdS S2 ≤ _
    omega
  · show ((uI _ 172 _ _).1 148 38).toInt = _
    rw [eS 148 38 (by omega)]
    exact i2
  · rw [eT _ _ (by omega)]
    exact hp
  · show ((uI _ 172 _ _).1 148 19).toInt = _
    rw [eS 148 19 (by omega)]
    exact e19
theorem must_d {m : Int32} (hf : 0 < ftS S) : RX (d + 3) 209 [.ref 148, .int m] S = some (none, S) := by
  have his : RX (d + 2) 205 [.ref 148, .int m] S = some (some (.int 0), S) := by
    rw [e_X12_is, q_X12_is_0, ne_t (show (S.1 148 13).toInt ≠ (0 : Int32).toInt by show ftS S ≠ 0; omega), cond_true, q_X12_is_24, q_X12_is_25]
    rfl
  have hfa : RX (d + 2) 206 [.ref 148, .int 1] S = some (none, S) := by
    rw [e_X12_fail, q_X12_fail_0, le_f (show (0 : Int32).toInt < (S.1 148 13).toInt by exact hf), cond_false]
  rw [e_X12_must, q_X12_must_0, his]
  show limK (RX (d + 2)) (mdOf 209) 5 _ [.int 0] S = _
  rw [q_X12_must_5, eq_t (show (0 : Int32).toInt = (0 : Int32).toInt from rfl), cond_true, hfa]
  show limK (RX (d + 2)) (mdOf 209) 20 _ [] S = _
  rw [q_X12_must_20]
theorem law_dead (hf : ftS S ≠ 0) (hw : wok EC (WD S)) : ∃ S', RX (d + 6) 222 [.ref 148, .int x1] S = some (none, S') ∧ ftS S' ≠ 0 := by
  have hft := ft2 hw
  have h0 : 0 < ftS S := by omega
  have hb := br259 hw
  have i38 : ∀ S1 : WS, S1.1 148 38 = S.1 148 38 → inR (S1.1 148 38) 260 = true := fun S1 e => by rw [e]; exact inR_of (by show 0 ≤ brS S; omega) (by show brS S < _; omega)
  rw [e_X12_tellLaw, q_X12_tellLaw_0, must_d (d := d + 2) h0]
  show ∃ S', limK (RX (d + 5)) (mdOf 222) 5 _ [] S = _ ∧ _
  rw [q_X12_tellLaw_5, q_X12_tellLaw_12, ne_t (show (S.1 148 13).toInt ≠ (0 : Int32).toInt from hf), cond_true, q_X12_tellLaw_129, i38 S rfl, cond_true]
  have hfA : ∀ S1 : WS, S1.1 148 13 = S.1 148 13 → 0 < ftS S1 := fun S1 e => by show 0 < (S1.1 148 13).toInt; rw [e]; exact h0
  have e1 : RX (d + 5) 223 [.ref 148] (uI S 173 ((S.1 148 38).toNatClampNeg) ((0 : Int32) &&& 1)) = some (none, uI (uI (uI (uI S 173 ((S.1 148 38).toNatClampNeg) ((0 : Int32) &&& 1)) 176 ((S.1 148 38).toNatClampNeg) (S.1 148 44)) 177 ((S.1 148 38).toNatClampNeg) (S.1 148 44)) 148 38 ((S.1 148 38) + 1)) := by
    rw [e_X12_term, q_X12_term_0, i38 _ (uI_ne _ _ _ _ (by decide)), cond_true, ne_t (show ((uI S 173 _ _).1 148 13).toInt ≠ (0 : Int32).toInt by rw [uI_ne _ _ _ _ (by decide)]; exact hf), cond_true, q_X12_term_24, i38 _ ((uI_ne _ _ _ _ (by decide)).trans (uI_ne _ _ _ _ (by decide))), cond_true]
    rfl
  rw [e1]
  show ∃ S', limK (RX (d + 5)) (mdOf 222) 143 _ [] (uI (uI (uI (uI S 173 ((S.1 148 38).toNatClampNeg) ((0 : Int32) &&& 1)) 176 ((S.1 148 38).toNatClampNeg) (S.1 148 44)) 177 ((S.1 148 38).toNatClampNeg) (S.1 148 44)) 148 38 ((S.1 148 38) + 1)) = _ ∧ _
  have e13 : (uI (uI (uI (uI S 173 ((S.1 148 38).toNatClampNeg) ((0 : Int32) &&& 1)) 176 ((S.1 148 38).toNatClampNeg) (S.1 148 44)) 177 ((S.1 148 38).toNatClampNeg) (S.1 148 44)) 148 38 ((S.1 148 38) + 1)).1 148 13 = S.1 148 13 := by rw [uI_j _ (by decide), uI_ne _ _ _ _ (by decide), uI_ne _ _ _ _ (by decide), uI_ne _ _ _ _ (by decide)]
  rw [q_X12_tellLaw_143, must_d (d := d + 2) (hfA _ e13)]
  show ∃ S', limK (RX (d + 5)) (mdOf 222) 148 _ [] (uI (uI (uI (uI S 173 ((S.1 148 38).toNatClampNeg) ((0 : Int32) &&& 1)) 176 ((S.1 148 38).toNatClampNeg) (S.1 148 44)) 177 ((S.1 148 38).toNatClampNeg) (S.1 148 44)) 148 38 ((S.1 148 38) + 1)) = _ ∧ _
  rw [q_X12_tellLaw_148, e13, gt_t (show (0 : Int32).toInt < (S.1 148 13).toInt from h0), cond_true, q_X12_tellLaw_159]
  exact ⟨_, rfl, by have := hfA _ e13; omega⟩
/-- 'does' -/
theorem one_does (hy : y = 10 ∨ y = 23) (hv : v ≤ 1) (hC : CU T S E t) (hb : (T.1 1 5).toInt = 0) (hR : HRl T S y v t n st sl L n0) (hk : T.1 5 t = 132) :
    GOOD x y E v t (RX (D + 25) 59 [.ref 1] (wS x y T)) (kbd (limK (RX (d + 6)) (mdOf 214)) 143 [some (.ref 148), o1] [] (RX (d + 6) 208 [.ref 148] S)) ∨ BAD x y (RX (D + 25) 59 [.ref 1] (wS x y T)) (kbd (limK (RX (d + 6)) (mdOf 214)) 143 [some (.ref 148), o1] [] (RX (d + 6) 208 [.ref 148] S)) := by
  have h152 : ∀ S1, limK (RX (d + 6)) (mdOf 214) 152 [some (.ref 148), o1] [] S1 = some (none, S1) := fun S1 => by rw [q_X12_tellOne_152, q_X12_tellOne_256]
  -- the reference stands still
  have dead149 : ∀ (S1 : WS) (r : Int32), ftS S1 ≠ 0 → wok EC (WD S1) → r.toInt = -1 → ∃ S2, limK (RX (d + 6)) (mdOf 214) 149 [some (.ref 148), o1] [.int r, .ref 148] S1 = some (none, S2) ∧ ftS S2 ≠ 0 := fun S1 r hf hw hr => by
    have hdl : ∃ S2, RX (d + 6) 222 [.ref 148, .int r] S1 = some (none, S2) ∧ ftS S2 ≠ 0 := by
      obtain ⟨S2, q1, q2⟩ := law_dead (d := d) (x1 := r) hf hw
      exact ⟨S2, q1, q2⟩
    obtain ⟨S2, q1, q2⟩ := hdl
    rw [q_X12_tellOne_149, q1]
    exact ⟨S2, h152 S2, q2⟩
  rw [e_X5_takeDoes, q_X5_takeDoes_0 (hy := hy)]
  rcases go_l (x := x) (d := D + 23) (dm := d + 4) hy hC hk (by decide) (by decide) with ⟨g1, g2, g3⟩ | ⟨T', S', g1, g2, g3, g4, g5, g6, g7⟩
  · rw [g1, g2]
    show GOOD x y E v t (limK (RX (D + 24)) (mdOf 59) 7 _ [.int 1] _) (limK (RX (d + 6)) (mdOf 214) 143 _ [] _) ∨ BAD x y (limK (RX (D + 24)) (mdOf 59) 7 _ [.int 1] _) (limK (RX (d + 6)) (mdOf 214) 143 _ [] _)
    rw [q_X5_takeDoes_7 (hy := hy), show cmpB .eq (1 : Int32) 0 = false from rfl, cond_false, q_X12_tellOne_143]
    have hR1 := hr_c hy hR (Nat.le_succ t) (fc_tk (t := t)) fs_go
    have r1 := hR1.1
    rcases slp_l (x := x) (d := D + 22) (dm := d + 2) hy g3 r1 with ⟨T', S', r, p1, p2, p3, p4, p5, p6, p7⟩ | ⟨T', S', p1, p2, p3, p4, p5, -⟩
    · rw [p1, p3]
      show GOOD x y E v t (limK (RX (D + 24)) (mdOf 59) 15 _ [.int 1] _) (limK (RX (d + 6)) (mdOf 214) 149 _ [.int r, .ref 148] _) ∨ BAD x y (limK (RX (D + 24)) (mdOf 59) 15 _ [.int 1] _) (limK (RX (d + 6)) (mdOf 214) 149 _ [.int r, .ref 148] _)
      rw [q_X5_takeDoes_15 (hy := hy), show cmpB .ne (1 : Int32) 0 = true from rfl, cond_true, p2]
      show GOOD x y E v t (limK (RX (D + 24)) (mdOf 59) 24 _ [.int r] _) _ ∨ BAD x y (limK (RX (D + 24)) (mdOf 59) 24 _ [.int r] _) _
      rw [q_X5_takeDoes_24 (hy := hy), q_X12_tellOne_149]
      have hR2 := hr_c (t' := t + 1 + 1) hy hR1 (by omega) p5 p6
      have hR2' := hR2
      obtain ⟨s1, s2, s3, s4, s5, s6, s7, s8, s9, s10⟩ := hR2'
      obtain ⟨l1, l2, l3, l4, l5, l6, l7, l8⟩ := s9
      have hsl6 := s5.1
      have htk : tkS S' = ((t + 1 + 1 : Nat) : Int) := p4.2.2.2.1
      have hr5 : -1 ≤ r.toInt ∧ r.toInt ≤ 5 := by
        rcases p7 with ⟨z, -⟩ | ⟨-, -, i, -, -, z1, z2, z3⟩ <;> omega
      rcases law_l (x := x) (D := D) (d := d) (l := 420 * (v : Int)) (b0 := 130 * v) (n0 := n0) (L0 := L) (a1 := r) hy (by omega) (by omega) p4 l1 l2 (by omega) l4 l5 (by have := hR.2.2.2.2.2.2.2.2.1.2.2.2.2.2.1; omega) l7 (by omega) hr5 with ⟨T1, T2, S2, t', k', p', m1, m2, m3, m4, m5, m6, m7, m8, m9, m10, m11, m12⟩ | ⟨T2, S2, m1, m2, m3, m4, m5⟩
      · rw [m1, m3]
        show GOOD x y E v t (limK (RX (D + 24)) (mdOf 59) 40 _ [.int 1] _) (limK (RX (d + 6)) (mdOf 214) 152 _ [] _) ∨ BAD x y (limK (RX (D + 24)) (mdOf 59) 40 _ [.int 1] _) (limK (RX (d + 6)) (mdOf 214) 152 _ [] _)
        rw [q_X5_takeDoes_40 (hy := hy), show cmpB .eq (1 : Int32) 0 = false from rfl, cond_false, m2, h152]
        show GOOD x y E v t (limK (RX (D + 24)) (mdOf 59) 49 _ [.int 1] _) _ ∨ BAD x y (limK (RX (D + 24)) (mdOf 59) 49 _ [.int 1] _) _
        rw [q_X5_takeDoes_49 (hy := hy), show cmpB .ne (1 : Int32) 0 = true from rfl, cond_true]
        have hwo : woS S2 = woS S' := by show (S2.1 148 15).toInt = _; rw [up_fl m6.1 rfl rfl rfl]
        have hf2 : ftS S2 = 0 := m4.2.2.2.2.2.1
        have htk2 : tkS S2 = (t' : Int) := m4.2.2.2.1
        have hT22 : (T2.1 y 2).toInt = (sl : Int) := by rw [m12.1 y 2 (by omega) (by omega) (by omega)]; exact s5.2.1
        rcases p7 with ⟨z1, z2⟩ | ⟨z1, z2, i, z3, z4, z5, z6, z7⟩
        · rw [setLaw_0 (d := D + 22) hy (by omega)]
          have hwo' : woS S' ≠ 0 := by
            rcases p4.2.2.2.2.2.2.1 with ⟨q, -⟩ | ⟨-, q⟩
            · exact absurd q z2
            · exact q
          have hbl : (T2.1 1 5).toInt ≠ 0 := by
            rcases m4.2.2.2.2.2.2.1 with ⟨-, q⟩ | ⟨q, -⟩
            · exact absurd (hwo ▸ q) hwo'
            · exact q
          have hfin : finS S2 r (S'.1 148 38) = S2 := by
            unfold finS
            rw [decide_eq_false (by omega)]
            rfl
          refine .inr ⟨1, T2, S2, ?_, by rw [hfin], .inr rfl, hbl, .inr (by rw [hwo]; exact hwo')⟩
          show limK (RX (D + 24)) (mdOf 59) 63 _ [] _ = _
          rw [q_X5_takeDoes_63 (hy := hy)]
        · obtain ⟨a, ha⟩ : ∃ a : Nat, r.toInt = (a : Int) := ⟨r.toInt.toNat, by omega⟩
          have hal : a < sl := by
            obtain ⟨-, q2, -, -⟩ := r1.2.2.2.1 i z3
            have h9 := hR1.2.1.2 i z3
            rw [q2] at h9
            have hst := s3.1
            rcases h9 with h9 | h9 <;> omega
          have hLv : (T'.1 (y + 9) 1).toInt = (L : Int) := l7
          obtain ⟨H1, H2, H3, H4⟩ := does_hr (a := a) (x1 := r) (Lv := T'.1 (y + 9) 1) hy hv hR2 m6 rfl hf2 (by omega) m9 m10 (by omega) htk2 m11 m12 hal ha hLv
          rw [setLaw_1 (d := D + 22) hy ha (by rw [hT22]; omega) (by rw [hT22]; omega)]
          have hbl : (T2.1 1 5).toInt = 0 := by
            rcases m4.2.2.2.2.2.2.1 with ⟨q, -⟩ | ⟨-, q⟩
            · exact q
            · exfalso
              apply q
              rw [hwo, z2]
              show ((goS (goS S)).1 148 15).toInt = 0
              rw [go_j (by decide), go_j (by decide)]
              rcases hC.2.2.2.2.2.2.1 with ⟨-, q⟩ | ⟨q, -⟩
              · exact q
              · exact absurd hb q
          refine .inl ⟨zI T2 (y + 8) a (T'.1 (y + 9) 1), finS S2 r (S'.1 148 38), t', n, st, sl, p', n0 + k' + 1, ?_, rfl, ?_, by omega, ?_, H1⟩
          · show limK (RX (D + 24)) (mdOf 59) 63 _ [] _ = _
            rw [q_X5_takeDoes_63 (hy := hy)]
          · refine cu_hw (cu_s m4 H2 (fun i _ => H3 151 i (by omega)) (fun i _ => H3 153 i (by omega)) (fun i _ => by rw [H4]) (H3 148 11 (by omega)) (H3 148 13 (by omega)) (H3 148 15 (by omega))) (fun c j q => zI_no _ (by omega)) rfl
          · rw [zI_no _ (by omega)]
            exact hbl
      · rcases m1 with m1 | ⟨T1, m1, m1'⟩
        · rw [m1, m2]
          refine .inr (bad_of (r := 0) (T' := T2) ?_ ⟨S2, h152 S2, m5⟩ (.inl rfl) m4)
          show limK (RX (D + 24)) (mdOf 59) 40 _ [.int 0] _ = _
          rw [q_X5_takeDoes_40 (hy := hy), show cmpB .eq (0 : Int32) 0 = true from rfl, cond_true, q_X5_takeDoes_52 (hy := hy)]
        · rw [m1, m2]
          refine .inr (bad_of (r := 0) (T' := T2) ?_ ⟨S2, h152 S2, m5⟩ (.inl rfl) m4)
          show limK (RX (D + 24)) (mdOf 59) 40 _ [.int 1] _ = _
          rw [q_X5_takeDoes_40 (hy := hy), show cmpB .eq (1 : Int32) 0 = false from rfl, cond_false, m1']
          show limK (RX (D + 24)) (mdOf 59) 49 _ [.int 0] _ = _
          rw [q_X5_takeDoes_49 (hy := hy), show cmpB .ne (0 : Int32) 0 = false from rfl, cond_false, q_X5_takeDoes_52 (hy := hy)]
    · rw [p1, p2]
      refine .inr (bad_of (r := 0) (T' := T') ?_ (dead149 S' (-1) p4 p5 rfl) (.inl rfl) p3)
      show limK (RX (D + 24)) (mdOf 59) 15 _ [.int 0] _ = _
      rw [q_X5_takeDoes_15 (hy := hy), show cmpB .ne (0 : Int32) 0 = false from rfl, cond_false, q_X5_takeDoes_18 (hy := hy)]
  · rw [g1, g2]
    refine .inr (bad_of (r := 0) (T' := T') ?_ ?_ (.inl rfl) g4)
    · show limK (RX (D + 24)) (mdOf 59) 7 _ [.int 0] _ = _
      rw [q_X5_takeDoes_7 (hy := hy), show cmpB .eq (0 : Int32) 0 = true from rfl, cond_true, q_X5_takeDoes_18 (hy := hy)]
    · show ∃ S2, limK (RX (d + 6)) (mdOf 214) 143 _ [] S' = _ ∧ _
      rw [q_X12_tellOne_143, known_dead (dm := d + 2) g5.1 g6]
      exact dead149 S' (-1) g6 g5.1 rfl
end DOE
end
